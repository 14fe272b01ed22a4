section
variable {p : Program} {l : Launch} {e : Env} {s : State} {m : MethodId} {args : Array Value} {below : List Frame} {meth : Method} {c : Code} {H : Heap} {locs : List Loc} {g : Gp} {σ : Sh} {ls : Array Slot}
theorem kd_X10_commit {X : Mx} {r : (Int32 × Mx)} {a : Nat} (h : f_X10_commit σ X a = some r) : shK σ a = 8 := (grd_inv h).1
set_option maxRecDepth 20000 in
set_option maxHeartbeats 2000000 in
theorem t_X10_commit {X : Mx} {r : (Int32 × Mx)} {a : Nat} (h : f_X10_commit σ X a = some r) : MtI g l yX10_commit cX10_commit 2 (some .int) 7 169 [.ref a] σ X r := by
  refine met_of mk_X10_commit (Nat.le_of_ble_eq_true rfl) (fun p e s m args below meth c ls C hW hl => ?_)
  have hx := C.x
  have hb := C.b
  have hl : lv_has ls 2 [(0, .ref a)] := hl
  unfold f_X10_commit at h
  obtain ⟨hk0, h⟩ := grd_inv h
  refine lv_aload_n hx hb dX10_commit_0 rfl (lv_at hl 0 rfl) ?_
  refine lv_iconst (v := 0) hx hb dX10_commit_1 (by decide) ?_
  refine r_pI C hW h pf_X10_65 (by decide) rfl rfl dX10_commit_2 (fun X1 H locs h hW => ?_)
  refine lv_aload_n hx hb dX10_commit_5 rfl (lv_at hl 0 rfl) ?_
  refine lv_iconst (v := 0) hx hb dX10_commit_6 (by decide) ?_
  obtain ⟨X3, h2, h⟩ := bnd_inv h
  refine r_cV hW (run_V (rest := []) C hW (t_X10_merges h2) mk_X10_merges vk_X10_354 (kd_X10_merges h2) rfl rfl (by decide) ⟨Nat.le_of_ble_eq_true rfl, Nat.le_of_ble_eq_true rfl⟩ ⟨Nat.zero_le _, Nat.zero_le _⟩ rfl rfl (Nat.le_of_ble_eq_true rfl) hl.1 dX10_commit_7) (fun H locs hW => ?_)
  refine lv_aload_n hx hb dX10_commit_10 rfl (lv_at hl 0 rfl) ?_
  refine r_gI C hW h fl_X10_282 (by decide) dX10_commit_11 (fun v4 h => ?_)
  refine r_br h (lv_if_gt (tgt := 40) hx hb dX10_commit_14 (by decide)) (fun h => ?_) (fun h => ?_)
  · exact b_X10_commit_40 C hW (lv_sub hl [0] rfl) h
  · refine lv_aload_n hx hb dX10_commit_17 rfl (lv_at hl 0 rfl) ?_
    refine r_gI C hW h fl_X10_291 (by decide) dX10_commit_18 (fun v5 h => ?_)
    obtain ⟨v7, h6, h⟩ := bnd_inv h
    refine r_cI hW (run_S (rest := []) C hW (t_X10_bits h6) mk_X10_bits sk_X10_240 ⟨Nat.le_of_ble_eq_true rfl, Nat.le_of_ble_eq_true rfl⟩ ⟨Nat.zero_le _, Nat.zero_le _⟩ rfl rfl (Nat.le_of_ble_eq_true rfl) hl.1 dX10_commit_21) (fun H locs hW => ?_)
    refine lv_iconst (v := 5) hx hb dX10_commit_24 (by decide) ?_
    refine r_br h (lv_icmp_gt (tgt := 40) hx hb dX10_commit_25 (by decide)) (fun h => ?_) (fun h => ?_)
    · exact b_X10_commit_40 C hW (lv_sub hl [0] rfl) h
    · refine lv_aload_n hx hb dX10_commit_28 rfl (lv_at hl 0 rfl) ?_
      refine r_gI C hW h fl_X10_323 (by decide) dX10_commit_29 (fun v8 h => ?_)
      obtain ⟨v10, h9, h⟩ := bnd_inv h
      refine r_cI hW (run_S (rest := []) C hW (t_X10_bits h9) mk_X10_bits sk_X10_240 ⟨Nat.le_of_ble_eq_true rfl, Nat.le_of_ble_eq_true rfl⟩ ⟨Nat.zero_le _, Nat.zero_le _⟩ rfl rfl (Nat.le_of_ble_eq_true rfl) hl.1 dX10_commit_32) (fun H locs hW => ?_)
      refine lv_bipush (v := 12) hx hb dX10_commit_35 (by decide) ?_
      refine r_br h (lv_icmp_le (tgt := 46) hx hb dX10_commit_37 (by decide)) (fun h => ?_) (fun h => ?_)
      · refine lv_aload_n hx hb dX10_commit_46 rfl (lv_at hl 0 rfl) ?_
        obtain ⟨X12, h11, h⟩ := bnd_inv h
        refine r_cV hW (run_V (rest := []) C hW (t_X10_keeps h11) mk_X10_keeps vk_X10_273 (kd_X10_keeps h11) rfl rfl (by decide) ⟨Nat.le_of_ble_eq_true rfl, Nat.le_of_ble_eq_true rfl⟩ ⟨Nat.zero_le _, Nat.zero_le _⟩ rfl rfl (Nat.le_of_ble_eq_true rfl) hl.1 dX10_commit_47) (fun H locs hW => ?_)
        refine lv_aload_n hx hb dX10_commit_50 rfl (lv_at hl 0 rfl) ?_
        obtain ⟨X14, h13, h⟩ := bnd_inv h
        refine r_cV hW (run_V (rest := []) C hW (t_X10_commitsTable h13) mk_X10_commitsTable vk_X10_400 (kd_X10_commitsTable h13) rfl rfl (by decide) ⟨Nat.le_of_ble_eq_true rfl, Nat.le_of_ble_eq_true rfl⟩ ⟨Nat.zero_le _, Nat.zero_le _⟩ rfl rfl (Nat.le_of_ble_eq_true rfl) hl.1 dX10_commit_51) (fun H locs hW => ?_)
        refine lv_aload_n hx hb dX10_commit_54 rfl (lv_at hl 0 rfl) ?_
        obtain ⟨X16, h15, h⟩ := bnd_inv h
        refine r_cV hW (run_V (rest := []) C hW (t_X10_commitsDemands h15) mk_X10_commitsDemands vk_X10_403 (kd_X10_commitsDemands h15) rfl rfl (by decide) ⟨Nat.le_of_ble_eq_true rfl, Nat.le_of_ble_eq_true rfl⟩ ⟨Nat.zero_le _, Nat.zero_le _⟩ rfl rfl (Nat.le_of_ble_eq_true rfl) hl.1 dX10_commit_55) (fun H locs hW => ?_)
        refine lv_aload_n hx hb dX10_commit_58 rfl (lv_at hl 0 rfl) ?_
        refine lv_iconst (v := 0) hx hb dX10_commit_59 (by decide) ?_
        obtain ⟨X18, h17, h⟩ := bnd_inv h
        refine r_cV hW (run_V (rest := []) C hW (t_X10_sidesBegin h17) mk_X10_sidesBegin vk_X10_187 (kd_X10_sidesBegin h17) rfl rfl (by decide) ⟨Nat.le_of_ble_eq_true rfl, Nat.le_of_ble_eq_true rfl⟩ ⟨Nat.zero_le _, Nat.zero_le _⟩ rfl rfl (Nat.le_of_ble_eq_true rfl) hl.1 dX10_commit_60) (fun H locs hW => ?_)
        refine lv_aload_n hx hb dX10_commit_63 rfl (lv_at hl 0 rfl) ?_
        refine r_gR C hW h fl_X10_20 (by decide) dX10_commit_64 (fun b19 h => ?_)
        refine lv_sipush (v := 613) hx hb dX10_commit_67 (by decide) ?_
        refine lv_iconst (v := 0) hx hb dX10_commit_70 (by decide) ?_
        refine r_iast C hW h dX10_commit_71 (fun X20 H locs h hW => ?_)
        refine lv_aload_n hx hb dX10_commit_72 rfl (lv_at hl 0 rfl) ?_
        refine r_gR C hW h fl_X10_20 (by decide) dX10_commit_73 (fun b21 h => ?_)
        refine lv_sipush (v := 614) hx hb dX10_commit_76 (by decide) ?_
        refine lv_iconst (v := 0) hx hb dX10_commit_79 (by decide) ?_
        refine r_iast C hW h dX10_commit_80 (fun X22 H locs h hW => ?_)
        refine lv_iconst (v := 0) hx hb dX10_commit_81 (by decide) ?_
        refine lv_istore_n (lv' := [(1, .int 0), (0, .ref a)]) hx hb dX10_commit_82 rfl hl (by decide) rfl (fun ls hl => ?_)
        exact b_X10_commit_83 C FU hW (lv_sub hl [1, 0] rfl) h
      · exact b_X10_commit_40 C hW (lv_sub hl [0] rfl) h
theorem kd_X10_isSide {X : Mx} {r : (Int32 × Mx)} {a : Nat} {x1 : Int32} (h : f_X10_isSide σ X a x1 = some r) : shK σ a = 8 := (grd_inv h).1
set_option maxRecDepth 20000 in
set_option maxHeartbeats 2000000 in
theorem t_X10_isSide {X : Mx} {r : (Int32 × Mx)} {a : Nat} {x1 : Int32} (h : f_X10_isSide σ X a x1 = some r) : MtI g l yX10_isSide cX10_isSide 2 (some .boolean) 1 22 [.ref a, .int x1] σ X r := by
  refine met_of mk_X10_isSide (Nat.le_of_ble_eq_true rfl) (fun p e s m args below meth c ls C hW hl => ?_)
  have hx := C.x
  have hb := C.b
  have hl : lv_has ls 2 [(0, .ref a), (1, .int x1)] := hl
  unfold f_X10_isSide at h
  obtain ⟨hk0, h⟩ := grd_inv h
  refine lv_aload_n hx hb dX10_isSide_0 rfl (lv_at hl 0 rfl) ?_
  refine lv_iload_n hx hb dX10_isSide_1 rfl (lv_at hl 1 rfl) ?_
  refine lv_iconst (v := 0) hx hb dX10_isSide_2 (by decide) ?_
  refine lv_iconst (v := 1) hx hb dX10_isSide_3 (by decide) ?_
  refine r_cI hW (run_S (rest := [.ref a]) C hW (t_X10_within (X := X)) mk_X10_within sk_X10_231 ⟨Nat.le_of_ble_eq_true rfl, Nat.le_of_ble_eq_true rfl⟩ ⟨Nat.zero_le _, Nat.zero_le _⟩ rfl rfl (Nat.le_of_ble_eq_true rfl) hl.1 dX10_isSide_4) (fun H locs hW => ?_)
  refine lv_iconst (v := 1) hx hb dX10_isSide_7 (by decide) ?_
  obtain ⟨v3, X2, h1, h⟩ := bnd2_inv h
  refine r_cI hW (run_V (rest := []) C hW (t_X10_right h1) mk_X10_right vk_X10_214 (kd_X10_right h1) rfl rfl (by decide) ⟨Nat.le_of_ble_eq_true rfl, Nat.le_of_ble_eq_true rfl⟩ ⟨Nat.zero_le _, Nat.zero_le _⟩ rfl rfl (Nat.le_of_ble_eq_true rfl) hl.1 dX10_isSide_8) (fun H locs hW => ?_)
  obtain ⟨hz, h⟩ := grd_inv h
  exact r_iret C hW (Option.some.inj h).symm (zb hz) dX10_isSide_11
set_option maxRecDepth 20000 in
set_option maxHeartbeats 2000000 in
theorem b_X10_changedCells_58 {k4 : Int32 → Int32 → Option Int32} {k13 : Int32 → Int32 → Option Int32} {a : Nat} {x1 : Int32} {x3 : Int32} {x4 : Int32} (C : Cx g RX10 cX10_changedCells 5 (some .int) p s m args meth c) {r : Int32} {X : Mx} {y0 : Int32} {y1 : Int32} (hk4 : ∀ {H' : Heap} {locs' : List Loc} {ls' : Array Slot} {x2' : Int32} {x3' : Int32}, Wd g σ X s H' locs' → lv_has ls' 5 [(0, .ref a), (1, .int x1), (2, .int x2'), (3, .int x3')] → k4 x2' x3' = some r → W p l e (rmZ 4 92) s m args below meth c H' locs' 0 0 (QI g σ below args s (r, X)) (F0 m 4 ls' [])) (hk13 : ∀ {H' : Heap} {locs' : List Loc} {ls' : Array Slot} {x2' : Int32} {x4' : Int32}, Wd g σ X s H' locs' → lv_has ls' 5 [(0, .ref a), (1, .int x1), (2, .int x2'), (3, .int x3), (4, .int x4')] → k13 x2' x4' = some r → W p l e (rmZ 4 92) s m args below meth c H' locs' 0 0 (QI g σ below args s (r, X)) (F0 m 13 ls' [])) (hW : Wd g σ X s H locs) (hl : lv_has ls 5 [(0, .ref a), (1, .int x1), (3, .int x3), (4, .int x4)]) (h : f_X10_changedCells_58 k4 k13 σ X a x1 x3 x4 y0 y1 = some r) : W p l e (rmZ 4 92) s m args below meth c H locs 0 0 (QI g σ below args s (r, X)) (F0 m 58 ls [.int y1, .int y0]) := by
  have hx := C.x
  have hb := C.b
  unfold f_X10_changedCells_58 at h
  refine lv_iadd hx hb dX10_changedCells_58 ?_
  refine lv_istore_n (lv' := [(2, .int (y0 + y1)), (0, .ref a), (1, .int x1), (3, .int x3), (4, .int x4)]) hx hb dX10_changedCells_59 rfl hl (by decide) rfl (fun ls hl => ?_)
  refine lv_iinc (v := (x4 + 1)) (lv' := [(4, .int (x4 + 1)), (2, .int (y0 + y1)), (0, .ref a), (1, .int x1), (3, .int x3)]) hx hb dX10_changedCells_60 hl (k := 4) rfl rfl (by decide) rfl (fun ls hl => ?_)
  refine lv_goto (tgt := 13) hx hb dX10_changedCells_63 (by decide) ?_
  exact hk13 hW (lv_sub hl [2, 3, 1, 4, 0] rfl) h
set_option maxRecDepth 20000 in
set_option maxHeartbeats 2000000 in
theorem b_X10_changedCells_57 {k4 : Int32 → Int32 → Option Int32} {k13 : Int32 → Int32 → Option Int32} {a : Nat} {x1 : Int32} {x3 : Int32} {x4 : Int32} (C : Cx g RX10 cX10_changedCells 5 (some .int) p s m args meth c) {r : Int32} {X : Mx} {y0 : Int32} (hk4 : ∀ {H' : Heap} {locs' : List Loc} {ls' : Array Slot} {x2' : Int32} {x3' : Int32}, Wd g σ X s H' locs' → lv_has ls' 5 [(0, .ref a), (1, .int x1), (2, .int x2'), (3, .int x3')] → k4 x2' x3' = some r → W p l e (rmZ 4 92) s m args below meth c H' locs' 0 0 (QI g σ below args s (r, X)) (F0 m 4 ls' [])) (hk13 : ∀ {H' : Heap} {locs' : List Loc} {ls' : Array Slot} {x2' : Int32} {x4' : Int32}, Wd g σ X s H' locs' → lv_has ls' 5 [(0, .ref a), (1, .int x1), (2, .int x2'), (3, .int x3), (4, .int x4')] → k13 x2' x4' = some r → W p l e (rmZ 4 92) s m args below meth c H' locs' 0 0 (QI g σ below args s (r, X)) (F0 m 13 ls' [])) (hW : Wd g σ X s H locs) (hl : lv_has ls 5 [(0, .ref a), (1, .int x1), (3, .int x3), (4, .int x4)]) (h : f_X10_changedCells_57 k4 k13 σ X a x1 x3 x4 y0 = some r) : W p l e (rmZ 4 92) s m args below meth c H locs 0 0 (QI g σ below args s (r, X)) (F0 m 57 ls [.int y0]) := by
  have hx := C.x
  have hb := C.b
  unfold f_X10_changedCells_57 at h
  refine lv_iconst (v := 0) hx hb dX10_changedCells_57 (by decide) ?_
  exact b_X10_changedCells_58 C hk4 hk13 hW (lv_sub hl [0, 1, 2, 3] rfl) h
set_option maxRecDepth 20000 in
set_option maxHeartbeats 2000000 in
theorem b_X10_changedCells_13 {k4 : Int32 → Int32 → Option Int32} {a : Nat} {x1 : Int32} {x3 : Int32} (C : Cx g RX10 cX10_changedCells 5 (some .int) p s m args meth c) {r : Int32} {X : Mx} (hk4 : ∀ {H' : Heap} {locs' : List Loc} {ls' : Array Slot} {x2' : Int32} {x3' : Int32}, Wd g σ X s H' locs' → lv_has ls' 5 [(0, .ref a), (1, .int x1), (2, .int x2'), (3, .int x3')] → k4 x2' x3' = some r → W p l e (rmZ 4 92) s m args below meth c H' locs' 0 0 (QI g σ below args s (r, X)) (F0 m 4 ls' [])) : ∀ (n : Nat) {x2 : Int32} {x4 : Int32} {H : Heap} {locs : List Loc} {ls : Array Slot} (hW : Wd g σ X s H locs) (hl : lv_has ls 5 [(0, .ref a), (1, .int x1), (2, .int x2), (3, .int x3), (4, .int x4)]) (h : f_X10_changedCells_13 k4 σ X a x1 x3 n x2 x4 = some r), W p l e (rmZ 4 92) s m args below meth c H locs 0 0 (QI g σ below args s (r, X)) (F0 m 13 ls []) := by
  have hx := C.x
  have hb := C.b
  intro n
  induction n with
  | zero =>
    intro x2 x4 H locs ls hW hl h
    cases (show none = some r from h)
  | succ n ih =>
    intro x2 x4 H locs ls hW hl h
    rw [f_X10_changedCells_13] at h
    refine lv_iload hx hb dX10_changedCells_13 (lv_at hl 4 rfl) ?_
    refine lv_iconst (v := 5) hx hb dX10_changedCells_15 (by decide) ?_
    refine r_br h (lv_icmp_ge (tgt := 66) hx hb dX10_changedCells_16 (by decide)) (fun h => ?_) (fun h => ?_)
    · refine lv_iinc (v := (x3 + 1)) (lv' := [(3, .int (x3 + 1)), (0, .ref a), (1, .int x1), (2, .int x2), (4, .int x4)]) hx hb dX10_changedCells_66 hl (k := 3) rfl rfl (by decide) rfl (fun ls hl => ?_)
      refine lv_goto (tgt := 4) hx hb dX10_changedCells_69 (by decide) ?_
      exact hk4 hW (lv_sub hl [1, 2, 3, 0] rfl) h
    · refine lv_iload_n hx hb dX10_changedCells_19 rfl (lv_at hl 2 rfl) ?_
      refine lv_aload_n hx hb dX10_changedCells_20 rfl (lv_at hl 0 rfl) ?_
      refine lv_iconst (v := 0) hx hb dX10_changedCells_21 (by decide) ?_
      refine lv_iconst (v := 2) hx hb dX10_changedCells_22 (by decide) ?_
      refine lv_iload_n hx hb dX10_changedCells_23 rfl (lv_at hl 3 rfl) ?_
      obtain ⟨v2, h1, h⟩ := bnd_inv h
      refine r_cI hW (run_V (rest := [.int x2]) C hW (t_X10_hasRow h1) mk_X10_hasRow vk_X10_160 (kd_X10_hasRow h1) rfl rfl (by decide) ⟨Nat.le_of_ble_eq_true rfl, Nat.le_of_ble_eq_true rfl⟩ ⟨Nat.zero_le _, Nat.zero_le _⟩ rfl rfl (Nat.le_of_ble_eq_true rfl) hl.1 dX10_changedCells_24) (fun H locs hW => ?_)
      refine r_br h (lv_if_eq (tgt := 57) hx hb dX10_changedCells_27 (by decide)) (fun h => ?_) (fun h => ?_)
      · exact b_X10_changedCells_57 C hk4 (fun hW hl h => ih hW hl h) hW (lv_sub hl [0, 1, 3, 4] rfl) h
      · refine lv_aload_n hx hb dX10_changedCells_30 rfl (lv_at hl 0 rfl) ?_
        refine lv_iconst (v := 0) hx hb dX10_changedCells_31 (by decide) ?_
        refine lv_iconst (v := 2) hx hb dX10_changedCells_32 (by decide) ?_
        refine lv_iload hx hb dX10_changedCells_33 (lv_at hl 4 rfl) ?_
        obtain ⟨v4, h3, h⟩ := bnd_inv h
        refine r_cI hW (run_V (rest := [.int x2]) C hW (t_X10_hasColumn h3) mk_X10_hasColumn vk_X10_234 (kd_X10_hasColumn h3) rfl rfl (by decide) ⟨Nat.le_of_ble_eq_true rfl, Nat.le_of_ble_eq_true rfl⟩ ⟨Nat.zero_le _, Nat.zero_le _⟩ rfl rfl (Nat.le_of_ble_eq_true rfl) hl.1 dX10_changedCells_35) (fun H locs hW => ?_)
        refine r_br h (lv_if_eq (tgt := 57) hx hb dX10_changedCells_38 (by decide)) (fun h => ?_) (fun h => ?_)
        · exact b_X10_changedCells_57 C hk4 (fun hW hl h => ih hW hl h) hW (lv_sub hl [0, 1, 3, 4] rfl) h
        · refine lv_aload_n hx hb dX10_changedCells_41 rfl (lv_at hl 0 rfl) ?_
          refine lv_iconst (v := 0) hx hb dX10_changedCells_42 (by decide) ?_
          refine lv_iload_n hx hb dX10_changedCells_43 rfl (lv_at hl 1 rfl) ?_
          refine lv_iload_n hx hb dX10_changedCells_44 rfl (lv_at hl 3 rfl) ?_
          refine lv_iload hx hb dX10_changedCells_45 (lv_at hl 4 rfl) ?_
          obtain ⟨v6, h5, h⟩ := bnd_inv h
          refine r_cI hW (run_V (rest := [.int x2]) C hW (t_X10_isChanged h5) mk_X10_isChanged vk_X10_288 (kd_X10_isChanged h5) rfl rfl (by decide) ⟨Nat.le_of_ble_eq_true rfl, Nat.le_of_ble_eq_true rfl⟩ ⟨Nat.zero_le _, Nat.zero_le _⟩ rfl rfl (Nat.le_of_ble_eq_true rfl) hl.1 dX10_changedCells_47) (fun H locs hW => ?_)
          refine r_br h (lv_if_eq (tgt := 57) hx hb dX10_changedCells_50 (by decide)) (fun h => ?_) (fun h => ?_)
          · exact b_X10_changedCells_57 C hk4 (fun hW hl h => ih hW hl h) hW (lv_sub hl [0, 1, 3, 4] rfl) h
          · refine lv_iconst (v := 1) hx hb dX10_changedCells_53 (by decide) ?_
            refine lv_goto (tgt := 58) hx hb dX10_changedCells_54 (by decide) ?_
            exact b_X10_changedCells_58 C hk4 (fun hW hl h => ih hW hl h) hW (lv_sub hl [0, 1, 3, 4] rfl) h
set_option maxRecDepth 20000 in
set_option maxHeartbeats 2000000 in
theorem b_X10_changedCells_4 {a : Nat} {x1 : Int32} (C : Cx g RX10 cX10_changedCells 5 (some .int) p s m args meth c) {r : Int32} {X : Mx} : ∀ (n : Nat) {x2 : Int32} {x3 : Int32} {H : Heap} {locs : List Loc} {ls : Array Slot} (hW : Wd g σ X s H locs) (hl : lv_has ls 5 [(0, .ref a), (1, .int x1), (2, .int x2), (3, .int x3)]) (h : f_X10_changedCells_4 σ X a x1 n x2 x3 = some r), W p l e (rmZ 4 92) s m args below meth c H locs 0 0 (QI g σ below args s (r, X)) (F0 m 4 ls []) := by
  have hx := C.x
  have hb := C.b
  intro n
  induction n with
  | zero =>
    intro x2 x3 H locs ls hW hl h
    cases (show none = some r from h)
  | succ n ih =>
    intro x2 x3 H locs ls hW hl h
    rw [f_X10_changedCells_4] at h
    refine lv_iload_n hx hb dX10_changedCells_4 rfl (lv_at hl 3 rfl) ?_
    refine lv_bipush (v := 20) hx hb dX10_changedCells_5 (by decide) ?_
    refine r_br h (lv_icmp_ge (tgt := 72) hx hb dX10_changedCells_7 (by decide)) (fun h => ?_) (fun h => ?_)
    · refine lv_iload_n hx hb dX10_changedCells_72 rfl (lv_at hl 2 rfl) ?_
      exact r_iret C hW (rt_R h) rfl dX10_changedCells_73
    · refine lv_iconst (v := 0) hx hb dX10_changedCells_10 (by decide) ?_
      refine lv_istore (lv' := [(4, .int 0), (0, .ref a), (1, .int x1), (2, .int x2), (3, .int x3)]) hx hb dX10_changedCells_11 hl (by decide) rfl (fun ls hl => ?_)
      exact b_X10_changedCells_13 C (fun hW hl h => ih hW hl h) FU hW (lv_sub hl [1, 2, 3, 4, 0] rfl) h
theorem kd_X10_changedCells {X : Mx} {r : Int32} {a : Nat} {x1 : Int32} (h : f_X10_changedCells σ X a x1 = some r) : shK σ a = 8 := (grd_inv h).1
set_option maxRecDepth 20000 in
set_option maxHeartbeats 2000000 in
theorem t_X10_changedCells {X : Mx} {r : Int32} {a : Nat} {x1 : Int32} (h : f_X10_changedCells σ X a x1 = some r) : MtI g l yX10_changedCells cX10_changedCells 5 (some .int) 4 92 [.ref a, .int x1] σ X (r, X) := by
  refine met_of mk_X10_changedCells (Nat.le_of_ble_eq_true rfl) (fun p e s m args below meth c ls C hW hl => ?_)
  have hx := C.x
  have hb := C.b
  have hl : lv_has ls 5 [(0, .ref a), (1, .int x1)] := hl
  unfold f_X10_changedCells at h
  obtain ⟨hk0, h⟩ := grd_inv h
  refine lv_iconst (v := 0) hx hb dX10_changedCells_0 (by decide) ?_
  refine lv_istore_n (lv' := [(2, .int 0), (0, .ref a), (1, .int x1)]) hx hb dX10_changedCells_1 rfl hl (by decide) rfl (fun ls hl => ?_)
  refine lv_iconst (v := 0) hx hb dX10_changedCells_2 (by decide) ?_
  refine lv_istore_n (lv' := [(3, .int 0), (2, .int 0), (0, .ref a), (1, .int x1)]) hx hb dX10_changedCells_3 rfl hl (by decide) rfl (fun ls hl => ?_)
  exact b_X10_changedCells_4 C FU hW (lv_sub hl [2, 3, 1, 0] rfl) h
set_option maxRecDepth 20000 in
set_option maxHeartbeats 2000000 in
theorem b_X10_changedColumns_70 {k5 : Int32 → Int32 → Option Int32} {a : Nat} {x1 : Int32} {x2 : Int32} {x4 : Int32} (C : Cx g RX10 cX10_changedColumns 5 (some .int) p s m args meth c) {r : Int32} {X : Mx} {y0 : Int32} {y1 : Int32} (hk5 : ∀ {H' : Heap} {locs' : List Loc} {ls' : Array Slot} {x3' : Int32} {x4' : Int32}, Wd g σ X s H' locs' → lv_has ls' 5 [(0, .ref a), (1, .int x1), (2, .int x2), (3, .int x3'), (4, .int x4')] → k5 x3' x4' = some r → W p l e (rmZ 2 45) s m args below meth c H' locs' 0 0 (QI g σ below args s (r, X)) (F0 m 5 ls' [])) (hW : Wd g σ X s H locs) (hl : lv_has ls 5 [(0, .ref a), (1, .int x1), (2, .int x2), (4, .int x4)]) (h : f_X10_changedColumns_70 k5 σ X a x1 x2 x4 y0 y1 = some r) : W p l e (rmZ 2 45) s m args below meth c H locs 0 0 (QI g σ below args s (r, X)) (F0 m 70 ls [.int y1, .int y0]) := by
  have hx := C.x
  have hb := C.b
  unfold f_X10_changedColumns_70 at h
  refine lv_iadd hx hb dX10_changedColumns_70 ?_
  refine lv_istore_n (lv' := [(3, .int (y0 + y1)), (0, .ref a), (1, .int x1), (2, .int x2), (4, .int x4)]) hx hb dX10_changedColumns_71 rfl hl (by decide) rfl (fun ls hl => ?_)
  refine lv_iinc (v := (x4 + 1)) (lv' := [(4, .int (x4 + 1)), (3, .int (y0 + y1)), (0, .ref a), (1, .int x1), (2, .int x2)]) hx hb dX10_changedColumns_72 hl (k := 4) rfl rfl (by decide) rfl (fun ls hl => ?_)
  refine lv_goto (tgt := 5) hx hb dX10_changedColumns_75 (by decide) ?_
  exact hk5 hW (lv_sub hl [2, 3, 4, 1, 0] rfl) h
set_option maxRecDepth 20000 in
set_option maxHeartbeats 2000000 in
theorem b_X10_changedColumns_69 {k5 : Int32 → Int32 → Option Int32} {a : Nat} {x1 : Int32} {x2 : Int32} {x4 : Int32} (C : Cx g RX10 cX10_changedColumns 5 (some .int) p s m args meth c) {r : Int32} {X : Mx} {y0 : Int32} (hk5 : ∀ {H' : Heap} {locs' : List Loc} {ls' : Array Slot} {x3' : Int32} {x4' : Int32}, Wd g σ X s H' locs' → lv_has ls' 5 [(0, .ref a), (1, .int x1), (2, .int x2), (3, .int x3'), (4, .int x4')] → k5 x3' x4' = some r → W p l e (rmZ 2 45) s m args below meth c H' locs' 0 0 (QI g σ below args s (r, X)) (F0 m 5 ls' [])) (hW : Wd g σ X s H locs) (hl : lv_has ls 5 [(0, .ref a), (1, .int x1), (2, .int x2), (4, .int x4)]) (h : f_X10_changedColumns_69 k5 σ X a x1 x2 x4 y0 = some r) : W p l e (rmZ 2 45) s m args below meth c H locs 0 0 (QI g σ below args s (r, X)) (F0 m 69 ls [.int y0]) := by
  have hx := C.x
  have hb := C.b
  unfold f_X10_changedColumns_69 at h
  refine lv_iconst (v := 0) hx hb dX10_changedColumns_69 (by decide) ?_
  exact b_X10_changedColumns_70 C hk5 hW (lv_sub hl [0, 1, 2, 3] rfl) h
set_option maxRecDepth 20000 in
set_option maxHeartbeats 2000000 in
theorem b_X10_changedColumns_5 {a : Nat} {x1 : Int32} {x2 : Int32} (C : Cx g RX10 cX10_changedColumns 5 (some .int) p s m args meth c) {r : Int32} {X : Mx} : ∀ (n : Nat) {x3 : Int32} {x4 : Int32} {H : Heap} {locs : List Loc} {ls : Array Slot} (hW : Wd g σ X s H locs) (hl : lv_has ls 5 [(0, .ref a), (1, .int x1), (2, .int x2), (3, .int x3), (4, .int x4)]) (h : f_X10_changedColumns_5 σ X a x1 x2 n x3 x4 = some r), W p l e (rmZ 2 45) s m args below meth c H locs 0 0 (QI g σ below args s (r, X)) (F0 m 5 ls []) := by
  have hx := C.x
  have hb := C.b
  intro n
  induction n with
  | zero =>
    intro x3 x4 H locs ls hW hl h
    cases (show none = some r from h)
  | succ n ih =>
    intro x3 x4 H locs ls hW hl h
    rw [f_X10_changedColumns_5] at h
    refine lv_iload hx hb dX10_changedColumns_5 (lv_at hl 4 rfl) ?_
    refine lv_iconst (v := 5) hx hb dX10_changedColumns_7 (by decide) ?_
    refine r_br h (lv_icmp_ge (tgt := 78) hx hb dX10_changedColumns_8 (by decide)) (fun h => ?_) (fun h => ?_)
    · refine lv_iload_n hx hb dX10_changedColumns_78 rfl (lv_at hl 3 rfl) ?_
      exact r_iret C hW (rt_R h) rfl dX10_changedColumns_79
    · refine lv_iload_n hx hb dX10_changedColumns_11 rfl (lv_at hl 3 rfl) ?_
      refine lv_aload_n hx hb dX10_changedColumns_12 rfl (lv_at hl 0 rfl) ?_
      refine lv_iconst (v := 0) hx hb dX10_changedColumns_13 (by decide) ?_
      refine lv_iconst (v := 2) hx hb dX10_changedColumns_14 (by decide) ?_
      refine lv_iload hx hb dX10_changedColumns_15 (lv_at hl 4 rfl) ?_
      obtain ⟨v2, h1, h⟩ := bnd_inv h
      refine r_cI hW (run_V (rest := [.int x3]) C hW (t_X10_hasColumn h1) mk_X10_hasColumn vk_X10_234 (kd_X10_hasColumn h1) rfl rfl (by decide) ⟨Nat.le_of_ble_eq_true rfl, Nat.le_of_ble_eq_true rfl⟩ ⟨Nat.zero_le _, Nat.zero_le _⟩ rfl rfl (Nat.le_of_ble_eq_true rfl) hl.1 dX10_changedColumns_17) (fun H locs hW => ?_)
      refine r_br h (lv_if_eq (tgt := 69) hx hb dX10_changedColumns_20 (by decide)) (fun h => ?_) (fun h => ?_)
      · exact b_X10_changedColumns_69 C (fun hW hl h => ih hW hl h) hW (lv_sub hl [0, 1, 2, 4] rfl) h
      · refine lv_aload_n hx hb dX10_changedColumns_23 rfl (lv_at hl 0 rfl) ?_
        refine lv_iconst (v := 0) hx hb dX10_changedColumns_24 (by decide) ?_
        refine lv_iload_n hx hb dX10_changedColumns_25 rfl (lv_at hl 1 rfl) ?_
        refine lv_iload hx hb dX10_changedColumns_26 (lv_at hl 4 rfl) ?_
        obtain ⟨v4, h3, h⟩ := bnd_inv h
        refine r_cI hW (run_V (rest := [.int x3]) C hW (t_X10_hasColumn h3) mk_X10_hasColumn vk_X10_234 (kd_X10_hasColumn h3) rfl rfl (by decide) ⟨Nat.le_of_ble_eq_true rfl, Nat.le_of_ble_eq_true rfl⟩ ⟨Nat.zero_le _, Nat.zero_le _⟩ rfl rfl (Nat.le_of_ble_eq_true rfl) hl.1 dX10_changedColumns_28) (fun H locs hW => ?_)
        refine r_br h (lv_if_eq (tgt := 69) hx hb dX10_changedColumns_31 (by decide)) (fun h => ?_) (fun h => ?_)
        · exact b_X10_changedColumns_69 C (fun hW hl h => ih hW hl h) hW (lv_sub hl [0, 1, 2, 4] rfl) h
        · refine lv_aload_n hx hb dX10_changedColumns_34 rfl (lv_at hl 0 rfl) ?_
          refine r_gR C hW h fl_X10_20 (by decide) dX10_changedColumns_35 (fun b5 h => ?_)
          refine lv_sipush (v := 200) hx hb dX10_changedColumns_38 (by decide) ?_
          refine lv_iload_n hx hb dX10_changedColumns_41 rfl (lv_at hl 1 rfl) ?_
          refine lv_imul hx hb dX10_changedColumns_42 ?_
          refine lv_iload_n hx hb dX10_changedColumns_43 rfl (lv_at hl 2 rfl) ?_
          refine lv_iadd hx hb dX10_changedColumns_44 ?_
          refine lv_iload hx hb dX10_changedColumns_45 (lv_at hl 4 rfl) ?_
          refine lv_iadd hx hb dX10_changedColumns_47 ?_
          refine r_iald C hW h dX10_changedColumns_48 (fun v6 h => ?_)
          refine lv_aload_n hx hb dX10_changedColumns_49 rfl (lv_at hl 0 rfl) ?_
          refine r_gR C hW h fl_X10_20 (by decide) dX10_changedColumns_50 (fun b7 h => ?_)
          refine lv_sipush (v := 400) hx hb dX10_changedColumns_53 (by decide) ?_
          refine lv_iload_n hx hb dX10_changedColumns_56 rfl (lv_at hl 2 rfl) ?_
          refine lv_iadd hx hb dX10_changedColumns_57 ?_
          refine lv_iload hx hb dX10_changedColumns_58 (lv_at hl 4 rfl) ?_
          refine lv_iadd hx hb dX10_changedColumns_60 ?_
          refine r_iald C hW h dX10_changedColumns_61 (fun v8 h => ?_)
          refine r_br h (lv_icmp_eq (tgt := 69) hx hb dX10_changedColumns_62 (by decide)) (fun h => ?_) (fun h => ?_)
          · exact b_X10_changedColumns_69 C (fun hW hl h => ih hW hl h) hW (lv_sub hl [0, 1, 2, 4] rfl) h
          · refine lv_iconst (v := 1) hx hb dX10_changedColumns_65 (by decide) ?_
            refine lv_goto (tgt := 70) hx hb dX10_changedColumns_66 (by decide) ?_
            exact b_X10_changedColumns_70 C (fun hW hl h => ih hW hl h) hW (lv_sub hl [0, 1, 2, 4] rfl) h
theorem kd_X10_changedColumns {X : Mx} {r : Int32} {a : Nat} {x1 : Int32} {x2 : Int32} (h : f_X10_changedColumns σ X a x1 x2 = some r) : shK σ a = 8 := (grd_inv h).1
set_option maxRecDepth 20000 in
set_option maxHeartbeats 2000000 in
theorem t_X10_changedColumns {X : Mx} {r : Int32} {a : Nat} {x1 : Int32} {x2 : Int32} (h : f_X10_changedColumns σ X a x1 x2 = some r) : MtI g l yX10_changedColumns cX10_changedColumns 5 (some .int) 2 45 [.ref a, .int x1, .int x2] σ X (r, X) := by
  refine met_of mk_X10_changedColumns (Nat.le_of_ble_eq_true rfl) (fun p e s m args below meth c ls C hW hl => ?_)
  have hx := C.x
  have hb := C.b
  have hl : lv_has ls 5 [(0, .ref a), (1, .int x1), (2, .int x2)] := hl
  unfold f_X10_changedColumns at h
  obtain ⟨hk0, h⟩ := grd_inv h
  refine lv_iconst (v := 0) hx hb dX10_changedColumns_0 (by decide) ?_
  refine lv_istore_n (lv' := [(3, .int 0), (0, .ref a), (1, .int x1), (2, .int x2)]) hx hb dX10_changedColumns_1 rfl hl (by decide) rfl (fun ls hl => ?_)
  refine lv_iconst (v := 0) hx hb dX10_changedColumns_2 (by decide) ?_
  refine lv_istore (lv' := [(4, .int 0), (3, .int 0), (0, .ref a), (1, .int x1), (2, .int x2)]) hx hb dX10_changedColumns_3 hl (by decide) rfl (fun ls hl => ?_)
  exact b_X10_changedColumns_5 C FU hW (lv_sub hl [2, 3, 4, 1, 0] rfl) h
theorem kd_X10_difference {X : Mx} {r : (Int32 × Mx)} {a : Nat} {x1 : Int32} {x2 : Int32} (h : f_X10_difference σ X a x1 x2 = some r) : shK σ a = 8 := (grd_inv h).1
set_option maxRecDepth 20000 in
set_option maxHeartbeats 2000000 in
theorem t_X10_difference {X : Mx} {r : (Int32 × Mx)} {a : Nat} {x1 : Int32} {x2 : Int32} (h : f_X10_difference σ X a x1 x2 = some r) : MtI g l yX10_difference cX10_difference 7 (some .int) 5 116 [.ref a, .int x1, .int x2] σ X r := by
  refine met_of mk_X10_difference (Nat.le_of_ble_eq_true rfl) (fun p e s m args below meth c ls C hW hl => ?_)
  have hx := C.x
  have hb := C.b
  have hl : lv_has ls 7 [(0, .ref a), (1, .int x1), (2, .int x2)] := hl
  unfold f_X10_difference at h
  obtain ⟨hk0, h⟩ := grd_inv h
  refine lv_aload_n hx hb dX10_difference_0 rfl (lv_at hl 0 rfl) ?_
  refine lv_iconst (v := 0) hx hb dX10_difference_1 (by decide) ?_
  refine r_pI C hW h pf_X10_65 (by decide) rfl rfl dX10_difference_2 (fun X1 H locs h hW => ?_)
  refine lv_aload_n hx hb dX10_difference_5 rfl (lv_at hl 0 rfl) ?_
  refine lv_iload_n hx hb dX10_difference_6 rfl (lv_at hl 1 rfl) ?_
  obtain ⟨v4, X3, h2, h⟩ := bnd2_inv h
  refine r_cI hW (run_V (rest := []) C hW (t_X10_isSide h2) mk_X10_isSide vk_X10_406 (kd_X10_isSide h2) rfl rfl (by decide) ⟨Nat.le_of_ble_eq_true rfl, Nat.le_of_ble_eq_true rfl⟩ ⟨Nat.zero_le _, Nat.zero_le _⟩ rfl rfl (Nat.le_of_ble_eq_true rfl) hl.1 dX10_difference_7) (fun H locs hW => ?_)
  refine r_br h (lv_if_eq (tgt := 23) hx hb dX10_difference_10 (by decide)) (fun h => ?_) (fun h => ?_)
  · refine lv_iconst (v := 0) hx hb dX10_difference_23 (by decide) ?_
    exact r_iret C hW (Option.some.inj h).symm rfl dX10_difference_24
  · refine lv_aload_n hx hb dX10_difference_13 rfl (lv_at hl 0 rfl) ?_
    refine lv_iload_n hx hb dX10_difference_14 rfl (lv_at hl 2 rfl) ?_
    refine lv_bipush (v := 6) hx hb dX10_difference_15 (by decide) ?_
    obtain ⟨v7, X6, h5, h⟩ := bnd2_inv h
    refine r_cI hW (run_V (rest := []) C hW (t_X10_isWhat h5) mk_X10_isWhat vk_X10_375 (kd_X10_isWhat h5) rfl rfl (by decide) ⟨Nat.le_of_ble_eq_true rfl, Nat.le_of_ble_eq_true rfl⟩ ⟨Nat.zero_le _, Nat.zero_le _⟩ rfl rfl (Nat.le_of_ble_eq_true rfl) hl.1 dX10_difference_17) (fun H locs hW => ?_)
    refine r_brn h (lv_if_ne (tgt := 25) hx hb dX10_difference_20 (by decide)) (fun h => ?_) (fun h => ?_)
    · refine lv_aload_n hx hb dX10_difference_25 rfl (lv_at hl 0 rfl) ?_
      refine r_gR C hW h fl_X10_20 (by decide) dX10_difference_26 (fun b8 h => ?_)
      refine lv_sipush (v := 200) hx hb dX10_difference_29 (by decide) ?_
      refine lv_iload_n hx hb dX10_difference_32 rfl (lv_at hl 1 rfl) ?_
      refine lv_imul hx hb dX10_difference_33 ?_
      refine lv_iconst (v := 1) hx hb dX10_difference_34 (by decide) ?_
      refine lv_iadd hx hb dX10_difference_35 ?_
      refine r_iald C hW h dX10_difference_36 (fun v9 h => ?_)
      refine lv_istore_n (lv' := [(3, .int v9), (0, .ref a), (1, .int x1), (2, .int x2)]) hx hb dX10_difference_37 rfl hl (by decide) rfl (fun ls hl => ?_)
      refine lv_aload_n hx hb dX10_difference_38 rfl (lv_at hl 1 rfl) ?_
      refine r_gR C hW h fl_X10_20 (by decide) dX10_difference_39 (fun b10 h => ?_)
      refine lv_sipush (v := 401) hx hb dX10_difference_42 (by decide) ?_
      refine r_iald C hW h dX10_difference_45 (fun v11 h => ?_)
      refine lv_istore (lv' := [(4, .int v11), (3, .int v9), (0, .ref a), (1, .int x1), (2, .int x2)]) hx hb dX10_difference_46 hl (by decide) rfl (fun ls hl => ?_)
      refine lv_aload_n hx hb dX10_difference_48 rfl (lv_at hl 2 rfl) ?_
      refine r_gR C hW h fl_X10_20 (by decide) dX10_difference_49 (fun b12 h => ?_)
      refine lv_sipush (v := 200) hx hb dX10_difference_52 (by decide) ?_
      refine lv_iload_n hx hb dX10_difference_55 rfl (lv_at hl 3 rfl) ?_
      refine lv_imul hx hb dX10_difference_56 ?_
      refine lv_iconst (v := 0) hx hb dX10_difference_57 (by decide) ?_
      refine lv_iadd hx hb dX10_difference_58 ?_
      refine r_iald C hW h dX10_difference_59 (fun v13 h => ?_)
      refine lv_istore (lv' := [(5, .int v13), (4, .int v11), (3, .int v9), (0, .ref a), (1, .int x1), (2, .int x2)]) hx hb dX10_difference_60 hl (by decide) rfl (fun ls hl => ?_)
      refine lv_aload_n hx hb dX10_difference_62 rfl (lv_at hl 3 rfl) ?_
      refine r_gR C hW h fl_X10_20 (by decide) dX10_difference_63 (fun b14 h => ?_)
      refine lv_sipush (v := 400) hx hb dX10_difference_66 (by decide) ?_
      refine r_iald C hW h dX10_difference_69 (fun v15 h => ?_)
      refine lv_istore (lv' := [(6, .int v15), (5, .int v13), (4, .int v11), (3, .int v9), (0, .ref a), (1, .int x1), (2, .int x2)]) hx hb dX10_difference_70 hl (by decide) rfl (fun ls hl => ?_)
      refine lv_iload_n hx hb dX10_difference_72 rfl (lv_at hl 6 rfl) ?_
      refine r_case h (fun ec h => ?_) (fun nc0 h => ?_)
      · refine lv_tableIn (tgt := 112) (off := 39) hx hb dX10_difference_73 (by rw [ec]; decide) (by rw [ec]; decide) (by rw [ec]; rfl) (by decide) ?_
        refine lv_aload_n hx hb dX10_difference_112 rfl (lv_at hl 4 rfl) ?_
        refine lv_iload_n hx hb dX10_difference_113 rfl (lv_at hl 5 rfl) ?_
        obtain ⟨v17, h16, h⟩ := bnd_inv h
        refine r_cI hW (run_V (rest := []) C hW (t_X10_changedCells h16) mk_X10_changedCells vk_X10_409 (kd_X10_changedCells h16) rfl rfl (by decide) ⟨Nat.le_of_ble_eq_true rfl, Nat.le_of_ble_eq_true rfl⟩ ⟨Nat.zero_le _, Nat.zero_le _⟩ rfl rfl (Nat.le_of_ble_eq_true rfl) hl.1 dX10_difference_114) (fun H locs hW => ?_)
        exact r_iret C hW (Option.some.inj h).symm rfl dX10_difference_117
      refine r_case h (fun ec h => ?_) (fun nc1 h => ?_)
      · refine lv_tableIn (tgt := 118) (off := 45) hx hb dX10_difference_73 (by rw [ec]; decide) (by rw [ec]; decide) (by rw [ec]; rfl) (by decide) ?_
        refine lv_iload_n hx hb dX10_difference_118 rfl (lv_at hl 3 rfl) ?_
        refine lv_iload hx hb dX10_difference_119 (lv_at hl 2 rfl) ?_
        refine lv_iconst (v := (-1)) hx hb dX10_difference_121 (by decide) ?_
        refine lv_ixor hx hb dX10_difference_122 ?_
        refine lv_iand hx hb dX10_difference_123 ?_
        obtain ⟨v19, h18, h⟩ := bnd_inv h
        refine r_cI hW (run_S (rest := []) C hW (t_X10_bits h18) mk_X10_bits sk_X10_240 ⟨Nat.le_of_ble_eq_true rfl, Nat.le_of_ble_eq_true rfl⟩ ⟨Nat.zero_le _, Nat.zero_le _⟩ rfl rfl (Nat.le_of_ble_eq_true rfl) hl.1 dX10_difference_124) (fun H locs hW => ?_)
        exact r_iret C hW (Option.some.inj h).symm rfl dX10_difference_127
      refine r_case h (fun ec h => ?_) (fun nc2 h => ?_)
      · refine lv_tableIn (tgt := 128) (off := 55) hx hb dX10_difference_73 (by rw [ec]; decide) (by rw [ec]; decide) (by rw [ec]; rfl) (by decide) ?_
        refine lv_iload hx hb dX10_difference_128 (lv_at hl 2 rfl) ?_
        refine lv_iload_n hx hb dX10_difference_130 rfl (lv_at hl 3 rfl) ?_
        refine lv_iconst (v := (-1)) hx hb dX10_difference_131 (by decide) ?_
        refine lv_ixor hx hb dX10_difference_132 ?_
        refine lv_iand hx hb dX10_difference_133 ?_
        obtain ⟨v21, h20, h⟩ := bnd_inv h
        refine r_cI hW (run_S (rest := []) C hW (t_X10_bits h20) mk_X10_bits sk_X10_240 ⟨Nat.le_of_ble_eq_true rfl, Nat.le_of_ble_eq_true rfl⟩ ⟨Nat.zero_le _, Nat.zero_le _⟩ rfl rfl (Nat.le_of_ble_eq_true rfl) hl.1 dX10_difference_134) (fun H locs hW => ?_)
        exact r_iret C hW (Option.some.inj h).symm rfl dX10_difference_137
      refine r_case h (fun ec h => ?_) (fun nc3 h => ?_)
      · refine lv_tableIn (tgt := 138) (off := 65) hx hb dX10_difference_73 (by rw [ec]; decide) (by rw [ec]; decide) (by rw [ec]; rfl) (by decide) ?_
        refine lv_iload hx hb dX10_difference_138 (lv_at hl 1 rfl) ?_
        refine lv_iload hx hb dX10_difference_140 (lv_at hl 0 rfl) ?_
        refine lv_iconst (v := (-1)) hx hb dX10_difference_142 (by decide) ?_
        refine lv_ixor hx hb dX10_difference_143 ?_
        refine lv_iand hx hb dX10_difference_144 ?_
        obtain ⟨v23, h22, h⟩ := bnd_inv h
        refine r_cI hW (run_S (rest := []) C hW (t_X10_bits h22) mk_X10_bits sk_X10_240 ⟨Nat.le_of_ble_eq_true rfl, Nat.le_of_ble_eq_true rfl⟩ ⟨Nat.zero_le _, Nat.zero_le _⟩ rfl rfl (Nat.le_of_ble_eq_true rfl) hl.1 dX10_difference_145) (fun H locs hW => ?_)
        exact r_iret C hW (Option.some.inj h).symm rfl dX10_difference_148
      refine r_case h (fun ec h => ?_) (fun nc4 h => ?_)
      · refine lv_tableIn (tgt := 149) (off := 76) hx hb dX10_difference_73 (by rw [ec]; decide) (by rw [ec]; decide) (by rw [ec]; rfl) (by decide) ?_
        refine lv_iload hx hb dX10_difference_149 (lv_at hl 0 rfl) ?_
        refine lv_iload hx hb dX10_difference_151 (lv_at hl 1 rfl) ?_
        refine lv_iconst (v := (-1)) hx hb dX10_difference_153 (by decide) ?_
        refine lv_ixor hx hb dX10_difference_154 ?_
        refine lv_iand hx hb dX10_difference_155 ?_
        obtain ⟨v25, h24, h⟩ := bnd_inv h
        refine r_cI hW (run_S (rest := []) C hW (t_X10_bits h24) mk_X10_bits sk_X10_240 ⟨Nat.le_of_ble_eq_true rfl, Nat.le_of_ble_eq_true rfl⟩ ⟨Nat.zero_le _, Nat.zero_le _⟩ rfl rfl (Nat.le_of_ble_eq_true rfl) hl.1 dX10_difference_156) (fun H locs hW => ?_)
        exact r_iret C hW (Option.some.inj h).symm rfl dX10_difference_159
      refine r_case h (fun ec h => ?_) (fun nc5 h => ?_)
      · refine lv_tableIn (tgt := 160) (off := 87) hx hb dX10_difference_73 (by rw [ec]; decide) (by rw [ec]; decide) (by rw [ec]; rfl) (by decide) ?_
        refine lv_aload_n hx hb dX10_difference_160 rfl (lv_at hl 4 rfl) ?_
        refine lv_iload_n hx hb dX10_difference_161 rfl (lv_at hl 5 rfl) ?_
        refine lv_iconst (v := 2) hx hb dX10_difference_162 (by decide) ?_
        obtain ⟨v27, h26, h⟩ := bnd_inv h
        refine r_cI hW (run_V (rest := []) C hW (t_X10_changedColumns h26) mk_X10_changedColumns vk_X10_412 (kd_X10_changedColumns h26) rfl rfl (by decide) ⟨Nat.le_of_ble_eq_true rfl, Nat.le_of_ble_eq_true rfl⟩ ⟨Nat.zero_le _, Nat.zero_le _⟩ rfl rfl (Nat.le_of_ble_eq_true rfl) hl.1 dX10_difference_163) (fun H locs hW => ?_)
        exact r_iret C hW (Option.some.inj h).symm rfl dX10_difference_166
      refine lv_tableOut (tgt := 167) hx hb dX10_difference_73 (sw_out (lo := 0) (n := 5) (sw_s nc5 (sw_s nc4 (sw_s nc3 (sw_s nc2 (sw_s nc1 (sw_0 nc0)))))) (by decide)) (by decide) ?_
      refine lv_aload_n hx hb dX10_difference_167 rfl (lv_at hl 4 rfl) ?_
      refine lv_iload_n hx hb dX10_difference_168 rfl (lv_at hl 5 rfl) ?_
      refine lv_bipush (v := 11) hx hb dX10_difference_169 (by decide) ?_
      obtain ⟨v29, h28, h⟩ := bnd_inv h
      refine r_cI hW (run_V (rest := []) C hW (t_X10_changedColumns h28) mk_X10_changedColumns vk_X10_412 (kd_X10_changedColumns h28) rfl rfl (by decide) ⟨Nat.le_of_ble_eq_true rfl, Nat.le_of_ble_eq_true rfl⟩ ⟨Nat.zero_le _, Nat.zero_le _⟩ rfl rfl (Nat.le_of_ble_eq_true rfl) hl.1 dX10_difference_171) (fun H locs hW => ?_)
      exact r_iret C hW (Option.some.inj h).symm rfl dX10_difference_174
    · refine lv_iconst (v := 0) hx hb dX10_difference_23 (by decide) ?_
      exact r_iret C hW (Option.some.inj h).symm rfl dX10_difference_24
set_option maxRecDepth 20000 in
set_option maxHeartbeats 2000000 in
theorem b_X10_along_119 {a : Nat} {x2 : Int32} {x3 : Int32} (C : Cx g RX10 cX10_along 5 (some .int) p s m args meth c) {r : (Int32 × Mx)} {X : Mx} (hW : Wd g σ X s H locs) (hl : lv_has ls 5 [(0, .ref a), (2, .int x2), (3, .int x3)]) (h : f_X10_along_119 σ a x2 x3 X = some r) : W p l e (rmZ 7 169) s m args below meth c H locs 0 0 (QI g σ below args s r) (F0 m 119 ls []) := by
  have hx := C.x
  have hb := C.b
  unfold f_X10_along_119 at h
  refine lv_iload_n hx hb dX10_along_119 rfl (lv_at hl 1 rfl) ?_
  refine r_brn h (lv_if_ne (tgt := 127) hx hb dX10_along_120 (by decide)) (fun h => ?_) (fun h => ?_)
  · refine lv_iload_n hx hb dX10_along_127 rfl (lv_at hl 1 rfl) ?_
    refine lv_iconst (v := 1) hx hb dX10_along_128 (by decide) ?_
    refine r_brn h (lv_icmp_ne (tgt := 139) hx hb dX10_along_129 (by decide)) (fun h => ?_) (fun h => ?_)
    · refine lv_aload_n hx hb dX10_along_139 rfl (lv_at hl 0 rfl) ?_
      refine r_gI C hW h fl_X10_323 (by decide) dX10_along_140 (fun v1 h => ?_)
      obtain ⟨v3, h2, h⟩ := bnd_inv h
      refine r_cI hW (run_S (rest := []) C hW (t_X10_bits h2) mk_X10_bits sk_X10_240 ⟨Nat.le_of_ble_eq_true rfl, Nat.le_of_ble_eq_true rfl⟩ ⟨Nat.zero_le _, Nat.zero_le _⟩ rfl rfl (Nat.le_of_ble_eq_true rfl) hl.1 dX10_along_143) (fun H locs hW => ?_)
      exact r_iret C hW (Option.some.inj h).symm rfl dX10_along_146
    · refine lv_aload_n hx hb dX10_along_132 rfl (lv_at hl 0 rfl) ?_
      refine r_gI C hW h fl_X10_282 (by decide) dX10_along_133 (fun v4 h => ?_)
      refine lv_goto (tgt := 146) hx hb dX10_along_136 (by decide) ?_
      exact r_iret C hW (Option.some.inj h).symm rfl dX10_along_146
  · refine lv_iload_n hx hb dX10_along_123 rfl (lv_at hl 2 rfl) ?_
    refine lv_goto (tgt := 146) hx hb dX10_along_124 (by decide) ?_
    exact r_iret C hW (Option.some.inj h).symm rfl dX10_along_146
set_option maxRecDepth 20000 in
set_option maxHeartbeats 2000000 in
theorem b_X10_along_43 {a : Nat} {x1 : Int32} {x2 : Int32} (C : Cx g RX10 cX10_along 5 (some .int) p s m args meth c) {r : (Int32 × Mx)} : ∀ (n : Nat) {X : Mx} {x3 : Int32} {H : Heap} {locs : List Loc} {ls : Array Slot} (hW : Wd g σ X s H locs) (hl : lv_has ls 5 [(0, .ref a), (1, .int x1), (2, .int x2), (3, .int x3)]) (h : f_X10_along_43 σ a x1 x2 n X x3 = some r), W p l e (rmZ 7 169) s m args below meth c H locs 0 0 (QI g σ below args s r) (F0 m 43 ls []) := by
  have hx := C.x
  have hb := C.b
  intro n
  induction n with
  | zero =>
    intro X x3 H locs ls hW hl h
    cases (show none = some r from h)
  | succ n ih =>
    intro X x3 H locs ls hW hl h
    rw [f_X10_along_43] at h
    refine lv_aload_n hx hb dX10_along_43 rfl (lv_at hl 0 rfl) ?_
    refine r_gI C hW h fl_X10_282 (by decide) dX10_along_44 (fun v1 h => ?_)
    refine r_br h (lv_if_le (tgt := 119) hx hb dX10_along_47 (by decide)) (fun h => ?_) (fun h => ?_)
    · exact b_X10_along_119 C hW (lv_sub hl [0, 2, 3] rfl) h
    · refine lv_iload_n hx hb dX10_along_50 rfl (lv_at hl 3 rfl) ?_
      refine lv_sipush (v := 200) hx hb dX10_along_51 (by decide) ?_
      refine r_br h (lv_icmp_ge (tgt := 119) hx hb dX10_along_54 (by decide)) (fun h => ?_) (fun h => ?_)
      · exact b_X10_along_119 C hW (lv_sub hl [0, 2, 3] rfl) h
      · refine lv_aload_n hx hb dX10_along_57 rfl (lv_at hl 0 rfl) ?_
        refine r_gR C hW h fl_X10_41 (by decide) dX10_along_58 (fun b2 h => ?_)
        refine lv_iconst (v := 0) hx hb dX10_along_61 (by decide) ?_
        refine r_iald C hW h dX10_along_62 (fun v3 h => ?_)
        refine r_cI hW (run_S (rest := []) C hW (t_X10_choicesOf (X := X)) mk_X10_choicesOf sk_X10_384 ⟨Nat.le_of_ble_eq_true rfl, Nat.le_of_ble_eq_true rfl⟩ ⟨Nat.zero_le _, Nat.zero_le _⟩ rfl rfl (Nat.le_of_ble_eq_true rfl) hl.1 dX10_along_63) (fun H locs hW => ?_)
        refine lv_iconst (v := 1) hx hb dX10_along_66 (by decide) ?_
        refine lv_isub hx hb dX10_along_67 ?_
        refine lv_istore (lv' := [(4, .int ((f_X10_choicesOf v3) - 1)), (0, .ref a), (1, .int x1), (2, .int x2), (3, .int x3)]) hx hb dX10_along_68 hl (by decide) rfl (fun ls hl => ?_)
        refine lv_aload_n hx hb dX10_along_70 rfl (lv_at hl 1 rfl) ?_
        refine r_gR C hW h fl_X10_20 (by decide) dX10_along_71 (fun b4 h => ?_)
        refine lv_sipush (v := 1546) hx hb dX10_along_74 (by decide) ?_
        refine lv_aload_n hx hb dX10_along_77 rfl (lv_at hl 1 rfl) ?_
        refine r_gR C hW h fl_X10_41 (by decide) dX10_along_78 (fun b5 h => ?_)
        refine lv_iconst (v := 0) hx hb dX10_along_81 (by decide) ?_
        refine r_iald C hW h dX10_along_82 (fun v6 h => ?_)
        refine lv_aload_n hx hb dX10_along_83 rfl (lv_at hl 1 rfl) ?_
        refine r_gR C hW h fl_X10_41 (by decide) dX10_along_84 (fun b7 h => ?_)
        refine lv_iconst (v := 1) hx hb dX10_along_87 (by decide) ?_
        refine r_iald C hW h dX10_along_88 (fun v8 h => ?_)
        refine lv_aload_n hx hb dX10_along_89 rfl (lv_at hl 1 rfl) ?_
        refine r_gR C hW h fl_X10_41 (by decide) dX10_along_90 (fun b9 h => ?_)
        refine lv_iconst (v := 2) hx hb dX10_along_93 (by decide) ?_
        refine r_iald C hW h dX10_along_94 (fun v10 h => ?_)
        refine r_cI hW (run_S (rest := [.int 1546, .ref b4]) C hW (t_X10_choiceAt (X := X)) mk_X10_choiceAt sk_X10_279 ⟨Nat.le_of_ble_eq_true rfl, Nat.le_of_ble_eq_true rfl⟩ ⟨Nat.zero_le _, Nat.zero_le _⟩ rfl rfl (Nat.le_of_ble_eq_true rfl) hl.1 dX10_along_95) (fun H locs hW => ?_)
        refine lv_iadd hx hb dX10_along_98 ?_
        refine lv_iload_n hx hb dX10_along_99 rfl (lv_at hl 2 rfl) ?_
        refine lv_iload hx hb dX10_along_100 (lv_at hl 0 rfl) ?_
        refine r_cI hW (run_S (rest := [.int (1546 + (f_X10_choiceAt v6 v8 v10)), .ref b4]) C hW (t_X10_lesser (X := X)) mk_X10_lesser sk_X10_415 ⟨Nat.le_of_ble_eq_true rfl, Nat.le_of_ble_eq_true rfl⟩ ⟨Nat.zero_le _, Nat.zero_le _⟩ rfl rfl (Nat.le_of_ble_eq_true rfl) hl.1 dX10_along_102) (fun H locs hW => ?_)
        refine r_iast C hW h dX10_along_105 (fun X11 H locs h hW => ?_)
        refine lv_iinc (v := (x3 + 1)) (lv' := [(3, .int (x3 + 1)), (4, .int ((f_X10_choicesOf v3) - 1)), (0, .ref a), (1, .int x1), (2, .int x2)]) hx hb dX10_along_106 hl (k := 4) rfl rfl (by decide) rfl (fun ls hl => ?_)
        refine lv_aload_n hx hb dX10_along_109 rfl (lv_at hl 2 rfl) ?_
        refine lv_sipush (v := 931) hx hb dX10_along_110 (by decide) ?_
        obtain ⟨X13, h12, h⟩ := bnd_inv h
        refine r_cV hW (run_V (rest := []) C hW (t_X10_merges h12) mk_X10_merges vk_X10_354 (kd_X10_merges h12) rfl rfl (by decide) ⟨Nat.le_of_ble_eq_true rfl, Nat.le_of_ble_eq_true rfl⟩ ⟨Nat.zero_le _, Nat.zero_le _⟩ rfl rfl (Nat.le_of_ble_eq_true rfl) hl.1 dX10_along_113) (fun H locs hW => ?_)
        refine lv_goto (tgt := 43) hx hb dX10_along_116 (by decide) ?_
        exact ih hW (lv_sub hl [2, 3, 4, 0] rfl) h
theorem kd_X10_along {X : Mx} {r : (Int32 × Mx)} {a : Nat} {x1 : Int32} {x2 : Int32} (h : f_X10_along σ X a x1 x2 = some r) : shK σ a = 8 := (grd_inv h).1
set_option maxRecDepth 20000 in
set_option maxHeartbeats 2000000 in
theorem t_X10_along {X : Mx} {r : (Int32 × Mx)} {a : Nat} {x1 : Int32} {x2 : Int32} (h : f_X10_along σ X a x1 x2 = some r) : MtI g l yX10_along cX10_along 5 (some .int) 7 169 [.ref a, .int x1, .int x2] σ X r := by
  refine met_of mk_X10_along (Nat.le_of_ble_eq_true rfl) (fun p e s m args below meth c ls C hW hl => ?_)
  have hx := C.x
  have hb := C.b
  have hl : lv_has ls 5 [(0, .ref a), (1, .int x1), (2, .int x2)] := hl
  unfold f_X10_along at h
  obtain ⟨hk0, h⟩ := grd_inv h
  refine lv_aload_n hx hb dX10_along_0 rfl (lv_at hl 0 rfl) ?_
  refine lv_iconst (v := 0) hx hb dX10_along_1 (by decide) ?_
  refine r_pI C hW h pf_X10_65 (by decide) rfl rfl dX10_along_2 (fun X1 H locs h hW => ?_)
  refine lv_aload_n hx hb dX10_along_5 rfl (lv_at hl 0 rfl) ?_
  refine lv_iload_n hx hb dX10_along_6 rfl (lv_at hl 2 rfl) ?_
  refine lv_iconst (v := 2) hx hb dX10_along_7 (by decide) ?_
  obtain ⟨v4, X3, h2, h⟩ := bnd2_inv h
  refine r_cI hW (run_V (rest := []) C hW (t_X10_isWhat h2) mk_X10_isWhat vk_X10_375 (kd_X10_isWhat h2) rfl rfl (by decide) ⟨Nat.le_of_ble_eq_true rfl, Nat.le_of_ble_eq_true rfl⟩ ⟨Nat.zero_le _, Nat.zero_le _⟩ rfl rfl (Nat.le_of_ble_eq_true rfl) hl.1 dX10_along_8) (fun H locs hW => ?_)
  refine r_br h (lv_if_eq (tgt := 28) hx hb dX10_along_11 (by decide)) (fun h => ?_) (fun h => ?_)
  · refine lv_iconst (v := 0) hx hb dX10_along_28 (by decide) ?_
    exact r_iret C hW (Option.some.inj h).symm rfl dX10_along_29
  · refine lv_aload_n hx hb dX10_along_14 rfl (lv_at hl 0 rfl) ?_
    refine lv_iload_n hx hb dX10_along_15 rfl (lv_at hl 1 rfl) ?_
    refine lv_iconst (v := 0) hx hb dX10_along_16 (by decide) ?_
    refine lv_iconst (v := 2) hx hb dX10_along_17 (by decide) ?_
    refine r_cI hW (run_S (rest := [.ref a]) C hW (t_X10_within (X := X3)) mk_X10_within sk_X10_231 ⟨Nat.le_of_ble_eq_true rfl, Nat.le_of_ble_eq_true rfl⟩ ⟨Nat.zero_le _, Nat.zero_le _⟩ rfl rfl (Nat.le_of_ble_eq_true rfl) hl.1 dX10_along_18) (fun H locs hW => ?_)
    refine lv_iconst (v := 2) hx hb dX10_along_21 (by decide) ?_
    obtain ⟨v7, X6, h5, h⟩ := bnd2_inv h
    refine r_cI hW (run_V (rest := []) C hW (t_X10_right h5) mk_X10_right vk_X10_214 (kd_X10_right h5) rfl rfl (by decide) ⟨Nat.le_of_ble_eq_true rfl, Nat.le_of_ble_eq_true rfl⟩ ⟨Nat.zero_le _, Nat.zero_le _⟩ rfl rfl (Nat.le_of_ble_eq_true rfl) hl.1 dX10_along_22) (fun H locs hW => ?_)
    refine r_brn h (lv_if_ne (tgt := 30) hx hb dX10_along_25 (by decide)) (fun h => ?_) (fun h => ?_)
    · refine lv_aload_n hx hb dX10_along_30 rfl (lv_at hl 0 rfl) ?_
      obtain ⟨X9, h8, h⟩ := bnd_inv h
      refine r_cV hW (run_V (rest := []) C hW (t_X10_tries h8) mk_X10_tries vk_X10_267 (kd_X10_tries h8) rfl rfl (by decide) ⟨Nat.le_of_ble_eq_true rfl, Nat.le_of_ble_eq_true rfl⟩ ⟨Nat.zero_le _, Nat.zero_le _⟩ rfl rfl (Nat.le_of_ble_eq_true rfl) hl.1 dX10_along_31) (fun H locs hW => ?_)
      refine lv_iconst (v := 0) hx hb dX10_along_34 (by decide) ?_
      refine lv_istore_n (lv' := [(3, .int 0), (0, .ref a), (1, .int x1), (2, .int x2)]) hx hb dX10_along_35 rfl hl (by decide) rfl (fun ls hl => ?_)
      refine lv_aload_n hx hb dX10_along_36 rfl (lv_at hl 1 rfl) ?_
      refine lv_sipush (v := 931) hx hb dX10_along_37 (by decide) ?_
      obtain ⟨X11, h10, h⟩ := bnd_inv h
      refine r_cV hW (run_V (rest := []) C hW (t_X10_merges h10) mk_X10_merges vk_X10_354 (kd_X10_merges h10) rfl rfl (by decide) ⟨Nat.le_of_ble_eq_true rfl, Nat.le_of_ble_eq_true rfl⟩ ⟨Nat.zero_le _, Nat.zero_le _⟩ rfl rfl (Nat.le_of_ble_eq_true rfl) hl.1 dX10_along_40) (fun H locs hW => ?_)
      exact b_X10_along_43 C FU hW (lv_sub hl [1, 2, 3, 0] rfl) h
    · refine lv_iconst (v := 0) hx hb dX10_along_28 (by decide) ?_
      exact r_iret C hW (Option.some.inj h).symm rfl dX10_along_29
set_option maxRecDepth 20000 in
set_option maxHeartbeats 2000000 in
theorem b_X10_laysAlone_78 {k9 : Mx → Int32 → Int32 → Option (Int32 × Mx)} {k18 : Mx → Int32 → Int32 → Option (Int32 × Mx)} {k31 : Mx → Int32 → Int32 → Option (Int32 × Mx)} {a : Nat} {x1 : Int32} {x2 : Int32} {x3 : Int32} {x4 : Int32} {x6 : Int32} (C : Cx g RX10 cX10_laysAlone 7 (some .int) p s m args meth c) {r : (Int32 × Mx)} {X : Mx} {y0 : Int32} (hk9 : ∀ {H' : Heap} {locs' : List Loc} {ls' : Array Slot} {X' : Mx} {x2' : Int32} {x3' : Int32}, Wd g σ X' s H' locs' → lv_has ls' 7 [(0, .ref a), (1, .int x1), (2, .int x2'), (3, .int x3')] → k9 X' x2' x3' = some r → W p l e (rmZ 7 169) s m args below meth c H' locs' 0 0 (QI g σ below args s r) (F0 m 9 ls' [])) (hk18 : ∀ {H' : Heap} {locs' : List Loc} {ls' : Array Slot} {X' : Mx} {x2' : Int32} {x4' : Int32}, Wd g σ X' s H' locs' → lv_has ls' 7 [(0, .ref a), (1, .int x1), (2, .int x2'), (3, .int x3), (4, .int x4')] → k18 X' x2' x4' = some r → W p l e (rmZ 7 169) s m args below meth c H' locs' 0 0 (QI g σ below args s r) (F0 m 18 ls' [])) (hk31 : ∀ {H' : Heap} {locs' : List Loc} {ls' : Array Slot} {X' : Mx} {x5' : Int32} {x6' : Int32}, Wd g σ X' s H' locs' → lv_has ls' 7 [(0, .ref a), (1, .int x1), (2, .int x2), (3, .int x3), (4, .int x4), (5, .int x5'), (6, .int x6')] → k31 X' x5' x6' = some r → W p l e (rmZ 7 169) s m args below meth c H' locs' 0 0 (QI g σ below args s r) (F0 m 31 ls' [])) (hW : Wd g σ X s H locs) (hl : lv_has ls 7 [(0, .ref a), (1, .int x1), (2, .int x2), (3, .int x3), (4, .int x4), (6, .int x6)]) (h : f_X10_laysAlone_78 k9 k18 k31 σ a x1 x2 x3 x4 x6 X y0 = some r) : W p l e (rmZ 7 169) s m args below meth c H locs 0 0 (QI g σ below args s r) (F0 m 78 ls [.int y0]) := by
  have hx := C.x
  have hb := C.b
  unfold f_X10_laysAlone_78 at h
  refine lv_istore (lv' := [(5, .int y0), (0, .ref a), (1, .int x1), (2, .int x2), (3, .int x3), (4, .int x4), (6, .int x6)]) hx hb dX10_laysAlone_78 hl (by decide) rfl (fun ls hl => ?_)
  refine lv_iinc (v := (x6 + 1)) (lv' := [(6, .int (x6 + 1)), (5, .int y0), (0, .ref a), (1, .int x1), (2, .int x2), (3, .int x3), (4, .int x4)]) hx hb dX10_laysAlone_80 hl (k := 6) rfl rfl (by decide) rfl (fun ls hl => ?_)
  refine lv_goto (tgt := 31) hx hb dX10_laysAlone_83 (by decide) ?_
  exact hk31 hW (lv_sub hl [2, 3, 4, 5, 6, 1, 0] rfl) h
set_option maxRecDepth 20000 in
set_option maxHeartbeats 2000000 in
theorem b_X10_laysAlone_73 {k9 : Mx → Int32 → Int32 → Option (Int32 × Mx)} {k18 : Mx → Int32 → Int32 → Option (Int32 × Mx)} {k31 : Mx → Int32 → Int32 → Option (Int32 × Mx)} {a : Nat} {x1 : Int32} {x2 : Int32} {x3 : Int32} {x4 : Int32} {x6 : Int32} (C : Cx g RX10 cX10_laysAlone 7 (some .int) p s m args meth c) {r : (Int32 × Mx)} {X : Mx} (hk9 : ∀ {H' : Heap} {locs' : List Loc} {ls' : Array Slot} {X' : Mx} {x2' : Int32} {x3' : Int32}, Wd g σ X' s H' locs' → lv_has ls' 7 [(0, .ref a), (1, .int x1), (2, .int x2'), (3, .int x3')] → k9 X' x2' x3' = some r → W p l e (rmZ 7 169) s m args below meth c H' locs' 0 0 (QI g σ below args s r) (F0 m 9 ls' [])) (hk18 : ∀ {H' : Heap} {locs' : List Loc} {ls' : Array Slot} {X' : Mx} {x2' : Int32} {x4' : Int32}, Wd g σ X' s H' locs' → lv_has ls' 7 [(0, .ref a), (1, .int x1), (2, .int x2'), (3, .int x3), (4, .int x4')] → k18 X' x2' x4' = some r → W p l e (rmZ 7 169) s m args below meth c H' locs' 0 0 (QI g σ below args s r) (F0 m 18 ls' [])) (hk31 : ∀ {H' : Heap} {locs' : List Loc} {ls' : Array Slot} {X' : Mx} {x5' : Int32} {x6' : Int32}, Wd g σ X' s H' locs' → lv_has ls' 7 [(0, .ref a), (1, .int x1), (2, .int x2), (3, .int x3), (4, .int x4), (5, .int x5'), (6, .int x6')] → k31 X' x5' x6' = some r → W p l e (rmZ 7 169) s m args below meth c H' locs' 0 0 (QI g σ below args s r) (F0 m 31 ls' [])) (hW : Wd g σ X s H locs) (hl : lv_has ls 7 [(0, .ref a), (1, .int x1), (2, .int x2), (3, .int x3), (4, .int x4), (6, .int x6)]) (h : f_X10_laysAlone_73 k9 k18 k31 σ a x1 x2 x3 x4 x6 X = some r) : W p l e (rmZ 7 169) s m args below meth c H locs 0 0 (QI g σ below args s r) (F0 m 73 ls []) := by
  have hx := C.x
  have hb := C.b
  unfold f_X10_laysAlone_73 at h
  refine lv_iconst (v := 1) hx hb dX10_laysAlone_73 (by decide) ?_
  refine lv_goto (tgt := 78) hx hb dX10_laysAlone_74 (by decide) ?_
  exact b_X10_laysAlone_78 C hk9 hk18 hk31 hW (lv_sub hl [0, 1, 2, 3, 4, 5] rfl) h
set_option maxRecDepth 20000 in
set_option maxHeartbeats 2000000 in
theorem b_X10_laysAlone_77 {k9 : Mx → Int32 → Int32 → Option (Int32 × Mx)} {k18 : Mx → Int32 → Int32 → Option (Int32 × Mx)} {k31 : Mx → Int32 → Int32 → Option (Int32 × Mx)} {a : Nat} {x1 : Int32} {x2 : Int32} {x3 : Int32} {x4 : Int32} {x6 : Int32} (C : Cx g RX10 cX10_laysAlone 7 (some .int) p s m args meth c) {r : (Int32 × Mx)} {X : Mx} (hk9 : ∀ {H' : Heap} {locs' : List Loc} {ls' : Array Slot} {X' : Mx} {x2' : Int32} {x3' : Int32}, Wd g σ X' s H' locs' → lv_has ls' 7 [(0, .ref a), (1, .int x1), (2, .int x2'), (3, .int x3')] → k9 X' x2' x3' = some r → W p l e (rmZ 7 169) s m args below meth c H' locs' 0 0 (QI g σ below args s r) (F0 m 9 ls' [])) (hk18 : ∀ {H' : Heap} {locs' : List Loc} {ls' : Array Slot} {X' : Mx} {x2' : Int32} {x4' : Int32}, Wd g σ X' s H' locs' → lv_has ls' 7 [(0, .ref a), (1, .int x1), (2, .int x2'), (3, .int x3), (4, .int x4')] → k18 X' x2' x4' = some r → W p l e (rmZ 7 169) s m args below meth c H' locs' 0 0 (QI g σ below args s r) (F0 m 18 ls' [])) (hk31 : ∀ {H' : Heap} {locs' : List Loc} {ls' : Array Slot} {X' : Mx} {x5' : Int32} {x6' : Int32}, Wd g σ X' s H' locs' → lv_has ls' 7 [(0, .ref a), (1, .int x1), (2, .int x2), (3, .int x3), (4, .int x4), (5, .int x5'), (6, .int x6')] → k31 X' x5' x6' = some r → W p l e (rmZ 7 169) s m args below meth c H' locs' 0 0 (QI g σ below args s r) (F0 m 31 ls' [])) (hW : Wd g σ X s H locs) (hl : lv_has ls 7 [(0, .ref a), (1, .int x1), (2, .int x2), (3, .int x3), (4, .int x4), (6, .int x6)]) (h : f_X10_laysAlone_77 k9 k18 k31 σ a x1 x2 x3 x4 x6 X = some r) : W p l e (rmZ 7 169) s m args below meth c H locs 0 0 (QI g σ below args s r) (F0 m 77 ls []) := by
  have hx := C.x
  have hb := C.b
  unfold f_X10_laysAlone_77 at h
  refine lv_iconst (v := 0) hx hb dX10_laysAlone_77 (by decide) ?_
  exact b_X10_laysAlone_78 C hk9 hk18 hk31 hW (lv_sub hl [0, 1, 2, 3, 4, 5] rfl) h
set_option maxRecDepth 20000 in
set_option maxHeartbeats 2000000 in
theorem b_X10_laysAlone_139 {k9 : Mx → Int32 → Int32 → Option (Int32 × Mx)} {k18 : Mx → Int32 → Int32 → Option (Int32 × Mx)} {a : Nat} {x1 : Int32} {x2 : Int32} {x3 : Int32} {x4 : Int32} (C : Cx g RX10 cX10_laysAlone 7 (some .int) p s m args meth c) {r : (Int32 × Mx)} {X : Mx} (hk9 : ∀ {H' : Heap} {locs' : List Loc} {ls' : Array Slot} {X' : Mx} {x2' : Int32} {x3' : Int32}, Wd g σ X' s H' locs' → lv_has ls' 7 [(0, .ref a), (1, .int x1), (2, .int x2'), (3, .int x3')] → k9 X' x2' x3' = some r → W p l e (rmZ 7 169) s m args below meth c H' locs' 0 0 (QI g σ below args s r) (F0 m 9 ls' [])) (hk18 : ∀ {H' : Heap} {locs' : List Loc} {ls' : Array Slot} {X' : Mx} {x2' : Int32} {x4' : Int32}, Wd g σ X' s H' locs' → lv_has ls' 7 [(0, .ref a), (1, .int x1), (2, .int x2'), (3, .int x3), (4, .int x4')] → k18 X' x2' x4' = some r → W p l e (rmZ 7 169) s m args below meth c H' locs' 0 0 (QI g σ below args s r) (F0 m 18 ls' [])) (hW : Wd g σ X s H locs) (hl : lv_has ls 7 [(0, .ref a), (1, .int x1), (2, .int x2), (3, .int x3), (4, .int x4)]) (h : f_X10_laysAlone_139 k9 k18 σ a x1 x2 x3 x4 X = some r) : W p l e (rmZ 7 169) s m args below meth c H locs 0 0 (QI g σ below args s r) (F0 m 139 ls []) := by
  have hx := C.x
  have hb := C.b
  unfold f_X10_laysAlone_139 at h
  refine lv_iinc (v := (x4 + 1)) (lv' := [(4, .int (x4 + 1)), (0, .ref a), (1, .int x1), (2, .int x2), (3, .int x3)]) hx hb dX10_laysAlone_139 hl (k := 4) rfl rfl (by decide) rfl (fun ls hl => ?_)
  refine lv_goto (tgt := 18) hx hb dX10_laysAlone_142 (by decide) ?_
  exact hk18 hW (lv_sub hl [1, 2, 3, 4, 0] rfl) h
set_option maxRecDepth 20000 in
set_option maxHeartbeats 2000000 in
theorem b_X10_laysAlone_31 {k9 : Mx → Int32 → Int32 → Option (Int32 × Mx)} {k18 : Mx → Int32 → Int32 → Option (Int32 × Mx)} {a : Nat} {x1 : Int32} {x2 : Int32} {x3 : Int32} {x4 : Int32} (C : Cx g RX10 cX10_laysAlone 7 (some .int) p s m args meth c) {r : (Int32 × Mx)} (hk9 : ∀ {H' : Heap} {locs' : List Loc} {ls' : Array Slot} {X' : Mx} {x2' : Int32} {x3' : Int32}, Wd g σ X' s H' locs' → lv_has ls' 7 [(0, .ref a), (1, .int x1), (2, .int x2'), (3, .int x3')] → k9 X' x2' x3' = some r → W p l e (rmZ 7 169) s m args below meth c H' locs' 0 0 (QI g σ below args s r) (F0 m 9 ls' [])) (hk18 : ∀ {H' : Heap} {locs' : List Loc} {ls' : Array Slot} {X' : Mx} {x2' : Int32} {x4' : Int32}, Wd g σ X' s H' locs' → lv_has ls' 7 [(0, .ref a), (1, .int x1), (2, .int x2'), (3, .int x3), (4, .int x4')] → k18 X' x2' x4' = some r → W p l e (rmZ 7 169) s m args below meth c H' locs' 0 0 (QI g σ below args s r) (F0 m 18 ls' [])) : ∀ (n : Nat) {X : Mx} {x5 : Int32} {x6 : Int32} {H : Heap} {locs : List Loc} {ls : Array Slot} (hW : Wd g σ X s H locs) (hl : lv_has ls 7 [(0, .ref a), (1, .int x1), (2, .int x2), (3, .int x3), (4, .int x4), (5, .int x5), (6, .int x6)]) (h : f_X10_laysAlone_31 k9 k18 σ a x1 x2 x3 x4 n X x5 x6 = some r), W p l e (rmZ 7 169) s m args below meth c H locs 0 0 (QI g σ below args s r) (F0 m 31 ls []) := by
  have hx := C.x
  have hb := C.b
  intro n
  induction n with
  | zero =>
    intro X x5 x6 H locs ls hW hl h
    cases (show none = some r from h)
  | succ n ih =>
    intro X x5 x6 H locs ls hW hl h
    rw [f_X10_laysAlone_31] at h
    refine lv_iload hx hb dX10_laysAlone_31 (lv_at hl 6 rfl) ?_
    refine lv_bipush (v := 9) hx hb dX10_laysAlone_33 (by decide) ?_
    refine r_br h (lv_icmp_ge (tgt := 86) hx hb dX10_laysAlone_35 (by decide)) (fun h => ?_) (fun h => ?_)
    · refine lv_iload_n hx hb dX10_laysAlone_86 rfl (lv_at hl 2 rfl) ?_
      refine lv_bipush (v := 10) hx hb dX10_laysAlone_87 (by decide) ?_
      refine r_br h (lv_icmp_eq (tgt := 139) hx hb dX10_laysAlone_89 (by decide)) (fun h => ?_) (fun h => ?_)
      · exact b_X10_laysAlone_139 C hk9 hk18 hW (lv_sub hl [0, 1, 2, 3, 4] rfl) h
      · refine lv_iload hx hb dX10_laysAlone_92 (lv_at hl 5 rfl) ?_
        refine r_br h (lv_if_eq (tgt := 139) hx hb dX10_laysAlone_94 (by decide)) (fun h => ?_) (fun h => ?_)
        · exact b_X10_laysAlone_139 C hk9 hk18 hW (lv_sub hl [0, 1, 2, 3, 4] rfl) h
        · refine lv_aload_n hx hb dX10_laysAlone_97 rfl (lv_at hl 0 rfl) ?_
          refine r_gI C hW h fl_X10_323 (by decide) dX10_laysAlone_98 (fun v1 h => ?_)
          refine lv_iload_n hx hb dX10_laysAlone_101 rfl (lv_at hl 3 rfl) ?_
          refine lv_ishr hx hb dX10_laysAlone_102 ?_
          refine lv_iconst (v := 1) hx hb dX10_laysAlone_103 (by decide) ?_
          refine lv_iand hx hb dX10_laysAlone_104 ?_
          refine r_br h (lv_if_eq (tgt := 139) hx hb dX10_laysAlone_105 (by decide)) (fun h => ?_) (fun h => ?_)
          · exact b_X10_laysAlone_139 C hk9 hk18 hW (lv_sub hl [0, 1, 2, 3, 4] rfl) h
          · refine lv_aload_n hx hb dX10_laysAlone_108 rfl (lv_at hl 0 rfl) ?_
            refine lv_iconst (v := 0) hx hb dX10_laysAlone_109 (by decide) ?_
            refine lv_iload_n hx hb dX10_laysAlone_110 rfl (lv_at hl 1 rfl) ?_
            refine lv_iload_n hx hb dX10_laysAlone_111 rfl (lv_at hl 3 rfl) ?_
            refine lv_iload hx hb dX10_laysAlone_112 (lv_at hl 4 rfl) ?_
            obtain ⟨v3, h2, h⟩ := bnd_inv h
            refine r_cI hW (run_V (rest := []) C hW (t_X10_isChanged h2) mk_X10_isChanged vk_X10_288 (kd_X10_isChanged h2) rfl rfl (by decide) ⟨Nat.le_of_ble_eq_true rfl, Nat.le_of_ble_eq_true rfl⟩ ⟨Nat.zero_le _, Nat.zero_le _⟩ rfl rfl (Nat.le_of_ble_eq_true rfl) hl.1 dX10_laysAlone_114) (fun H locs hW => ?_)
            refine r_brn h (lv_if_ne (tgt := 123) hx hb dX10_laysAlone_117 (by decide)) (fun h => ?_) (fun h => ?_)
            · refine lv_aload_n hx hb dX10_laysAlone_123 rfl (lv_at hl 0 rfl) ?_
              refine r_gR C hW h fl_X10_50 (by decide) dX10_laysAlone_124 (fun b4 h => ?_)
              refine lv_iload_n hx hb dX10_laysAlone_127 rfl (lv_at hl 2 rfl) ?_
              refine lv_bipush (v := 9) hx hb dX10_laysAlone_128 (by decide) ?_
              refine lv_iload_n hx hb dX10_laysAlone_130 rfl (lv_at hl 3 rfl) ?_
              refine lv_imul hx hb dX10_laysAlone_131 ?_
              refine lv_iload hx hb dX10_laysAlone_132 (lv_at hl 4 rfl) ?_
              refine lv_iadd hx hb dX10_laysAlone_134 ?_
              refine r_iast C hW h dX10_laysAlone_135 (fun X5 H locs h hW => ?_)
              refine lv_iinc (v := (x2 + 1)) (lv' := [(2, .int (x2 + 1)), (0, .ref a), (1, .int x1), (3, .int x3), (4, .int x4), (5, .int x5), (6, .int x6)]) hx hb dX10_laysAlone_136 hl (k := 2) rfl rfl (by decide) rfl (fun ls hl => ?_)
              exact b_X10_laysAlone_139 C hk9 hk18 hW (lv_sub hl [1, 2, 0, 3, 4] rfl) h
            · refine lv_goto (tgt := 139) hx hb dX10_laysAlone_120 (by decide) ?_
              exact b_X10_laysAlone_139 C hk9 hk18 hW (lv_sub hl [0, 1, 2, 3, 4] rfl) h
    · refine lv_iload hx hb dX10_laysAlone_38 (lv_at hl 5 rfl) ?_
      refine r_brn h (lv_if_ne (tgt := 73) hx hb dX10_laysAlone_40 (by decide)) (fun h => ?_) (fun h => ?_)
      · exact b_X10_laysAlone_73 C hk9 hk18 (fun hW hl h => ih hW hl h) hW (lv_sub hl [0, 1, 2, 3, 4, 6] rfl) h
      · refine lv_aload_n hx hb dX10_laysAlone_43 rfl (lv_at hl 0 rfl) ?_
        refine r_gR C hW h fl_X10_38 (by decide) dX10_laysAlone_44 (fun b6 h => ?_)
        refine lv_bipush (v := 9) hx hb dX10_laysAlone_47 (by decide) ?_
        refine lv_iload_n hx hb dX10_laysAlone_49 rfl (lv_at hl 1 rfl) ?_
        refine lv_imul hx hb dX10_laysAlone_50 ?_
        refine lv_iload hx hb dX10_laysAlone_51 (lv_at hl 6 rfl) ?_
        refine lv_iadd hx hb dX10_laysAlone_53 ?_
        refine r_iald C hW h dX10_laysAlone_54 (fun v7 h => ?_)
        refine lv_iload hx hb dX10_laysAlone_55 (lv_at hl 4 rfl) ?_
        refine r_brn h (lv_icmp_ne (tgt := 77) hx hb dX10_laysAlone_57 (by decide)) (fun h => ?_) (fun h => ?_)
        · exact b_X10_laysAlone_77 C hk9 hk18 (fun hW hl h => ih hW hl h) hW (lv_sub hl [0, 1, 2, 3, 4, 6] rfl) h
        · refine lv_aload_n hx hb dX10_laysAlone_60 rfl (lv_at hl 0 rfl) ?_
          refine r_gI C hW h fl_X10_291 (by decide) dX10_laysAlone_61 (fun v8 h => ?_)
          refine lv_iload hx hb dX10_laysAlone_64 (lv_at hl 6 rfl) ?_
          refine lv_ishr hx hb dX10_laysAlone_66 ?_
          refine lv_iconst (v := 1) hx hb dX10_laysAlone_67 (by decide) ?_
          refine lv_iand hx hb dX10_laysAlone_68 ?_
          refine lv_iconst (v := 1) hx hb dX10_laysAlone_69 (by decide) ?_
          refine r_brn h (lv_icmp_ne (tgt := 77) hx hb dX10_laysAlone_70 (by decide)) (fun h => ?_) (fun h => ?_)
          · exact b_X10_laysAlone_77 C hk9 hk18 (fun hW hl h => ih hW hl h) hW (lv_sub hl [0, 1, 2, 3, 4, 6] rfl) h
          · exact b_X10_laysAlone_73 C hk9 hk18 (fun hW hl h => ih hW hl h) hW (lv_sub hl [0, 1, 2, 3, 4, 6] rfl) h
set_option maxRecDepth 20000 in
set_option maxHeartbeats 2000000 in
theorem b_X10_laysAlone_18 {k9 : Mx → Int32 → Int32 → Option (Int32 × Mx)} {a : Nat} {x1 : Int32} {x3 : Int32} (C : Cx g RX10 cX10_laysAlone 7 (some .int) p s m args meth c) {r : (Int32 × Mx)} (hk9 : ∀ {H' : Heap} {locs' : List Loc} {ls' : Array Slot} {X' : Mx} {x2' : Int32} {x3' : Int32}, Wd g σ X' s H' locs' → lv_has ls' 7 [(0, .ref a), (1, .int x1), (2, .int x2'), (3, .int x3')] → k9 X' x2' x3' = some r → W p l e (rmZ 7 169) s m args below meth c H' locs' 0 0 (QI g σ below args s r) (F0 m 9 ls' [])) : ∀ (n : Nat) {X : Mx} {x2 : Int32} {x4 : Int32} {H : Heap} {locs : List Loc} {ls : Array Slot} (hW : Wd g σ X s H locs) (hl : lv_has ls 7 [(0, .ref a), (1, .int x1), (2, .int x2), (3, .int x3), (4, .int x4)]) (h : f_X10_laysAlone_18 k9 σ a x1 x3 n X x2 x4 = some r), W p l e (rmZ 7 169) s m args below meth c H locs 0 0 (QI g σ below args s r) (F0 m 18 ls []) := by
  have hx := C.x
  have hb := C.b
  intro n
  induction n with
  | zero =>
    intro X x2 x4 H locs ls hW hl h
    cases (show none = some r from h)
  | succ n ih =>
    intro X x2 x4 H locs ls hW hl h
    rw [f_X10_laysAlone_18] at h
    refine lv_iload hx hb dX10_laysAlone_18 (lv_at hl 4 rfl) ?_
    refine lv_bipush (v := 9) hx hb dX10_laysAlone_20 (by decide) ?_
    refine r_br h (lv_icmp_ge (tgt := 145) hx hb dX10_laysAlone_22 (by decide)) (fun h => ?_) (fun h => ?_)
    · refine lv_iinc (v := (x3 + 1)) (lv' := [(3, .int (x3 + 1)), (0, .ref a), (1, .int x1), (2, .int x2), (4, .int x4)]) hx hb dX10_laysAlone_145 hl (k := 3) rfl rfl (by decide) rfl (fun ls hl => ?_)
      refine lv_goto (tgt := 9) hx hb dX10_laysAlone_148 (by decide) ?_
      exact hk9 hW (lv_sub hl [1, 2, 3, 0] rfl) h
    · refine lv_iconst (v := 0) hx hb dX10_laysAlone_25 (by decide) ?_
      refine lv_istore (lv' := [(5, .int 0), (0, .ref a), (1, .int x1), (2, .int x2), (3, .int x3), (4, .int x4)]) hx hb dX10_laysAlone_26 hl (by decide) rfl (fun ls hl => ?_)
      refine lv_iconst (v := 0) hx hb dX10_laysAlone_28 (by decide) ?_
      refine lv_istore (lv' := [(6, .int 0), (5, .int 0), (0, .ref a), (1, .int x1), (2, .int x2), (3, .int x3), (4, .int x4)]) hx hb dX10_laysAlone_29 hl (by decide) rfl (fun ls hl => ?_)
      exact b_X10_laysAlone_31 C hk9 (fun hW hl h => ih hW hl h) FU hW (lv_sub hl [2, 3, 4, 5, 6, 1, 0] rfl) h
set_option maxRecDepth 20000 in
set_option maxHeartbeats 2000000 in
theorem b_X10_laysAlone_9 {a : Nat} {x1 : Int32} (C : Cx g RX10 cX10_laysAlone 7 (some .int) p s m args meth c) {r : (Int32 × Mx)} : ∀ (n : Nat) {X : Mx} {x2 : Int32} {x3 : Int32} {H : Heap} {locs : List Loc} {ls : Array Slot} (hW : Wd g σ X s H locs) (hl : lv_has ls 7 [(0, .ref a), (1, .int x1), (2, .int x2), (3, .int x3)]) (h : f_X10_laysAlone_9 σ a x1 n X x2 x3 = some r), W p l e (rmZ 7 169) s m args below meth c H locs 0 0 (QI g σ below args s r) (F0 m 9 ls []) := by
  have hx := C.x
  have hb := C.b
  intro n
  induction n with
  | zero =>
    intro X x2 x3 H locs ls hW hl h
    cases (show none = some r from h)
  | succ n ih =>
    intro X x2 x3 H locs ls hW hl h
    rw [f_X10_laysAlone_9] at h
    refine lv_iload_n hx hb dX10_laysAlone_9 rfl (lv_at hl 3 rfl) ?_
    refine lv_bipush (v := 20) hx hb dX10_laysAlone_10 (by decide) ?_
    refine r_br h (lv_icmp_ge (tgt := 151) hx hb dX10_laysAlone_12 (by decide)) (fun h => ?_) (fun h => ?_)
    · refine lv_iload_n hx hb dX10_laysAlone_151 rfl (lv_at hl 2 rfl) ?_
      exact r_iret C hW (Option.some.inj h).symm rfl dX10_laysAlone_152
    · refine lv_iconst (v := 0) hx hb dX10_laysAlone_15 (by decide) ?_
      refine lv_istore (lv' := [(4, .int 0), (0, .ref a), (1, .int x1), (2, .int x2), (3, .int x3)]) hx hb dX10_laysAlone_16 hl (by decide) rfl (fun ls hl => ?_)
      exact b_X10_laysAlone_18 C (fun hW hl h => ih hW hl h) FU hW (lv_sub hl [1, 2, 3, 4, 0] rfl) h
theorem kd_X10_laysAlone {X : Mx} {r : (Int32 × Mx)} {a : Nat} {x1 : Int32} (h : f_X10_laysAlone σ X a x1 = some r) : shK σ a = 8 := (grd_inv h).1
set_option maxRecDepth 20000 in
set_option maxHeartbeats 2000000 in
theorem t_X10_laysAlone {X : Mx} {r : (Int32 × Mx)} {a : Nat} {x1 : Int32} (h : f_X10_laysAlone σ X a x1 = some r) : MtI g l yX10_laysAlone cX10_laysAlone 7 (some .int) 7 169 [.ref a, .int x1] σ X r := by
  refine met_of mk_X10_laysAlone (Nat.le_of_ble_eq_true rfl) (fun p e s m args below meth c ls C hW hl => ?_)
  have hx := C.x
  have hb := C.b
  have hl : lv_has ls 7 [(0, .ref a), (1, .int x1)] := hl
  unfold f_X10_laysAlone at h
  obtain ⟨hk0, h⟩ := grd_inv h
  refine lv_aload_n hx hb dX10_laysAlone_0 rfl (lv_at hl 0 rfl) ?_
  refine lv_iconst (v := 0) hx hb dX10_laysAlone_1 (by decide) ?_
  obtain ⟨X2, h1, h⟩ := bnd_inv h
  refine r_cV hW (run_V (rest := []) C hW (t_X10_merges h1) mk_X10_merges vk_X10_354 (kd_X10_merges h1) rfl rfl (by decide) ⟨Nat.le_of_ble_eq_true rfl, Nat.le_of_ble_eq_true rfl⟩ ⟨Nat.zero_le _, Nat.zero_le _⟩ rfl rfl (Nat.le_of_ble_eq_true rfl) hl.1 dX10_laysAlone_2) (fun H locs hW => ?_)
  refine lv_iconst (v := 0) hx hb dX10_laysAlone_5 (by decide) ?_
  refine lv_istore_n (lv' := [(2, .int 0), (0, .ref a), (1, .int x1)]) hx hb dX10_laysAlone_6 rfl hl (by decide) rfl (fun ls hl => ?_)
  refine lv_iconst (v := 0) hx hb dX10_laysAlone_7 (by decide) ?_
  refine lv_istore_n (lv' := [(3, .int 0), (2, .int 0), (0, .ref a), (1, .int x1)]) hx hb dX10_laysAlone_8 rfl hl (by decide) rfl (fun ls hl => ?_)
  exact b_X10_laysAlone_9 C FU hW (lv_sub hl [2, 3, 1, 0] rfl) h
set_option maxRecDepth 20000 in
set_option maxHeartbeats 2000000 in
theorem b_X10_alone_130 {k39 : Mx → Int32 → Int32 → Int32 → Option (Int32 × Mx)} {k54 : Mx → Int32 → Option (Int32 × Mx)} {a : Nat} {x1 : Int32} {x2 : Int32} {x3 : Int32} {x4 : Int32} {x5 : Int32} {x6 : Int32} {x7 : Int32} (C : Cx g RX10 cX10_alone 10 (some .int) p s m args meth c) {r : (Int32 × Mx)} {X : Mx} (hk39 : ∀ {H' : Heap} {locs' : List Loc} {ls' : Array Slot} {X' : Mx} {x4' : Int32} {x5' : Int32} {x6' : Int32}, Wd g σ X' s H' locs' → lv_has ls' 10 [(0, .ref a), (1, .int x1), (2, .int x2), (3, .int x3), (4, .int x4'), (5, .int x5'), (6, .int x6')] → k39 X' x4' x5' x6' = some r → W p l e (rmZ 8 195) s m args below meth c H' locs' 0 0 (QI g σ below args s r) (F0 m 39 ls' [])) (hk54 : ∀ {H' : Heap} {locs' : List Loc} {ls' : Array Slot} {X' : Mx} {x7' : Int32}, Wd g σ X' s H' locs' → lv_has ls' 10 [(0, .ref a), (1, .int x1), (2, .int x2), (3, .int x3), (4, .int x4), (5, .int x5), (6, .int x6), (7, .int x7')] → k54 X' x7' = some r → W p l e (rmZ 8 195) s m args below meth c H' locs' 0 0 (QI g σ below args s r) (F0 m 54 ls' [])) (hW : Wd g σ X s H locs) (hl : lv_has ls 10 [(0, .ref a), (1, .int x1), (2, .int x2), (3, .int x3), (4, .int x4), (5, .int x5), (6, .int x6), (7, .int x7)]) (h : f_X10_alone_130 k39 k54 σ a x1 x2 x3 x4 x5 x6 x7 X = some r) : W p l e (rmZ 8 195) s m args below meth c H locs 0 0 (QI g σ below args s r) (F0 m 130 ls []) := by
  have hx := C.x
  have hb := C.b
  unfold f_X10_alone_130 at h
  refine lv_iinc (v := (x7 + 1)) (lv' := [(7, .int (x7 + 1)), (0, .ref a), (1, .int x1), (2, .int x2), (3, .int x3), (4, .int x4), (5, .int x5), (6, .int x6)]) hx hb dX10_alone_130 hl (k := 7) rfl rfl (by decide) rfl (fun ls hl => ?_)
  refine lv_goto (tgt := 54) hx hb dX10_alone_133 (by decide) ?_
  exact hk54 hW (lv_sub hl [1, 2, 3, 4, 5, 6, 7, 0] rfl) h
set_option maxRecDepth 20000 in
set_option maxHeartbeats 2000000 in
theorem b_X10_alone_193 {k39 : Mx → Int32 → Int32 → Int32 → Option (Int32 × Mx)} {a : Nat} {x1 : Int32} {x2 : Int32} {x3 : Int32} {x4 : Int32} {x5 : Int32} {x6 : Int32} (C : Cx g RX10 cX10_alone 10 (some .int) p s m args meth c) {r : (Int32 × Mx)} {X : Mx} (hk39 : ∀ {H' : Heap} {locs' : List Loc} {ls' : Array Slot} {X' : Mx} {x4' : Int32} {x5' : Int32} {x6' : Int32}, Wd g σ X' s H' locs' → lv_has ls' 10 [(0, .ref a), (1, .int x1), (2, .int x2), (3, .int x3), (4, .int x4'), (5, .int x5'), (6, .int x6')] → k39 X' x4' x5' x6' = some r → W p l e (rmZ 8 195) s m args below meth c H' locs' 0 0 (QI g σ below args s r) (F0 m 39 ls' [])) (hW : Wd g σ X s H locs) (hl : lv_has ls 10 [(0, .ref a), (1, .int x1), (2, .int x2), (3, .int x3), (4, .int x4), (5, .int x5), (6, .int x6)]) (h : f_X10_alone_193 k39 σ a x1 x2 x3 x4 x5 x6 X = some r) : W p l e (rmZ 8 195) s m args below meth c H locs 0 0 (QI g σ below args s r) (F0 m 193 ls []) := by
  have hx := C.x
  have hb := C.b
  unfold f_X10_alone_193 at h
  refine lv_iinc (v := (x6 + 1)) (lv' := [(6, .int (x6 + 1)), (0, .ref a), (1, .int x1), (2, .int x2), (3, .int x3), (4, .int x4), (5, .int x5)]) hx hb dX10_alone_193 hl (k := 6) rfl rfl (by decide) rfl (fun ls hl => ?_)
  refine lv_goto (tgt := 39) hx hb dX10_alone_196 (by decide) ?_
  exact hk39 hW (lv_sub hl [1, 2, 3, 4, 5, 6, 0] rfl) h
set_option maxRecDepth 20000 in
set_option maxHeartbeats 2000000 in
theorem b_X10_alone_183 {k39 : Mx → Int32 → Int32 → Int32 → Option (Int32 × Mx)} {a : Nat} {x1 : Int32} {x2 : Int32} {x3 : Int32} {x6 : Int32} (C : Cx g RX10 cX10_alone 10 (some .int) p s m args meth c) {r : (Int32 × Mx)} {X : Mx} (hk39 : ∀ {H' : Heap} {locs' : List Loc} {ls' : Array Slot} {X' : Mx} {x4' : Int32} {x5' : Int32} {x6' : Int32}, Wd g σ X' s H' locs' → lv_has ls' 10 [(0, .ref a), (1, .int x1), (2, .int x2), (3, .int x3), (4, .int x4'), (5, .int x5'), (6, .int x6')] → k39 X' x4' x5' x6' = some r → W p l e (rmZ 8 195) s m args below meth c H' locs' 0 0 (QI g σ below args s r) (F0 m 39 ls' [])) (hW : Wd g σ X s H locs) (hl : lv_has ls 10 [(0, .ref a), (1, .int x1), (2, .int x2), (3, .int x3), (6, .int x6)]) (h : f_X10_alone_183 k39 σ a x1 x2 x3 x6 X = some r) : W p l e (rmZ 8 195) s m args below meth c H locs 0 0 (QI g σ below args s r) (F0 m 183 ls []) := by
  have hx := C.x
  have hb := C.b
  unfold f_X10_alone_183 at h
  refine lv_aload_n hx hb dX10_alone_183 rfl (lv_at hl 0 rfl) ?_
  refine r_gI C hW h fl_X10_282 (by decide) dX10_alone_184 (fun v1 h => ?_)
  refine lv_istore (lv' := [(4, .int v1), (0, .ref a), (1, .int x1), (2, .int x2), (3, .int x3), (6, .int x6)]) hx hb dX10_alone_187 hl (by decide) rfl (fun ls hl => ?_)
  refine lv_iload hx hb dX10_alone_189 (lv_at hl 5 rfl) ?_
  refine lv_istore (lv' := [(5, .int x6), (4, .int v1), (0, .ref a), (1, .int x1), (2, .int x2), (3, .int x3), (6, .int x6)]) hx hb dX10_alone_191 hl (by decide) rfl (fun ls hl => ?_)
  exact b_X10_alone_193 C hk39 hW (lv_sub hl [2, 3, 4, 5, 1, 0, 6] rfl) h
set_option maxRecDepth 20000 in
set_option maxHeartbeats 2000000 in
theorem b_X10_alone_54 {k39 : Mx → Int32 → Int32 → Int32 → Option (Int32 × Mx)} {a : Nat} {x1 : Int32} {x2 : Int32} {x3 : Int32} {x4 : Int32} {x5 : Int32} {x6 : Int32} (C : Cx g RX10 cX10_alone 10 (some .int) p s m args meth c) {r : (Int32 × Mx)} (hk39 : ∀ {H' : Heap} {locs' : List Loc} {ls' : Array Slot} {X' : Mx} {x4' : Int32} {x5' : Int32} {x6' : Int32}, Wd g σ X' s H' locs' → lv_has ls' 10 [(0, .ref a), (1, .int x1), (2, .int x2), (3, .int x3), (4, .int x4'), (5, .int x5'), (6, .int x6')] → k39 X' x4' x5' x6' = some r → W p l e (rmZ 8 195) s m args below meth c H' locs' 0 0 (QI g σ below args s r) (F0 m 39 ls' [])) : ∀ (n : Nat) {X : Mx} {x7 : Int32} {H : Heap} {locs : List Loc} {ls : Array Slot} (hW : Wd g σ X s H locs) (hl : lv_has ls 10 [(0, .ref a), (1, .int x1), (2, .int x2), (3, .int x3), (4, .int x4), (5, .int x5), (6, .int x6), (7, .int x7)]) (h : f_X10_alone_54 k39 σ a x1 x2 x3 x4 x5 x6 n X x7 = some r), W p l e (rmZ 8 195) s m args below meth c H locs 0 0 (QI g σ below args s r) (F0 m 54 ls []) := by
  have hx := C.x
  have hb := C.b
  intro n
  induction n with
  | zero =>
    intro X x7 H locs ls hW hl h
    cases (show none = some r from h)
  | succ n ih =>
    intro X x7 H locs ls hW hl h
    rw [f_X10_alone_54] at h
    refine lv_iload hx hb dX10_alone_54 (lv_at hl 7 rfl) ?_
    refine lv_iload_n hx hb dX10_alone_56 rfl (lv_at hl 3 rfl) ?_
    refine r_br h (lv_icmp_ge (tgt := 136) hx hb dX10_alone_57 (by decide)) (fun h => ?_) (fun h => ?_)
    · refine lv_aload_n hx hb dX10_alone_136 rfl (lv_at hl 0 rfl) ?_
      refine lv_sipush (v := 931) hx hb dX10_alone_137 (by decide) ?_
      obtain ⟨X2, h1, h⟩ := bnd_inv h
      refine r_cV hW (run_V (rest := []) C hW (t_X10_merges h1) mk_X10_merges vk_X10_354 (kd_X10_merges h1) rfl rfl (by decide) ⟨Nat.le_of_ble_eq_true rfl, Nat.le_of_ble_eq_true rfl⟩ ⟨Nat.zero_le _, Nat.zero_le _⟩ rfl rfl (Nat.le_of_ble_eq_true rfl) hl.1 dX10_alone_140) (fun H locs hW => ?_)
      refine lv_iload hx hb dX10_alone_143 (lv_at hl 4 rfl) ?_
      refine lv_iconst (v := (-1)) hx hb dX10_alone_145 (by decide) ?_
      refine r_br h (lv_icmp_eq (tgt := 183) hx hb dX10_alone_146 (by decide)) (fun h => ?_) (fun h => ?_)
      · exact b_X10_alone_183 C hk39 hW (lv_sub hl [0, 1, 2, 3, 6] rfl) h
      · refine lv_aload_n hx hb dX10_alone_149 rfl (lv_at hl 0 rfl) ?_
        refine r_gI C hW h fl_X10_282 (by decide) dX10_alone_150 (fun v3 h => ?_)
        refine lv_iload hx hb dX10_alone_153 (lv_at hl 4 rfl) ?_
        refine r_br h (lv_icmp_gt (tgt := 193) hx hb dX10_alone_155 (by decide)) (fun h => ?_) (fun h => ?_)
        · exact b_X10_alone_193 C hk39 hW (lv_sub hl [0, 1, 2, 3, 4, 5, 6] rfl) h
        · refine lv_aload_n hx hb dX10_alone_158 rfl (lv_at hl 0 rfl) ?_
          refine r_gI C hW h fl_X10_282 (by decide) dX10_alone_159 (fun v4 h => ?_)
          refine lv_iload hx hb dX10_alone_162 (lv_at hl 4 rfl) ?_
          refine r_brn h (lv_icmp_ne (tgt := 183) hx hb dX10_alone_164 (by decide)) (fun h => ?_) (fun h => ?_)
          · exact b_X10_alone_183 C hk39 hW (lv_sub hl [0, 1, 2, 3, 6] rfl) h
          · refine lv_iload hx hb dX10_alone_167 (lv_at hl 6 rfl) ?_
            obtain ⟨v6, h5, h⟩ := bnd_inv h
            refine r_cI hW (run_S (rest := []) C hW (t_X10_bits h5) mk_X10_bits sk_X10_240 ⟨Nat.le_of_ble_eq_true rfl, Nat.le_of_ble_eq_true rfl⟩ ⟨Nat.zero_le _, Nat.zero_le _⟩ rfl rfl (Nat.le_of_ble_eq_true rfl) hl.1 dX10_alone_169) (fun H locs hW => ?_)
            refine lv_iload hx hb dX10_alone_172 (lv_at hl 5 rfl) ?_
            obtain ⟨v8, h7, h⟩ := bnd_inv h
            refine r_cI hW (run_S (rest := [.int v6]) C hW (t_X10_bits h7) mk_X10_bits sk_X10_240 ⟨Nat.le_of_ble_eq_true rfl, Nat.le_of_ble_eq_true rfl⟩ ⟨Nat.zero_le _, Nat.zero_le _⟩ rfl rfl (Nat.le_of_ble_eq_true rfl) hl.1 dX10_alone_174) (fun H locs hW => ?_)
            refine r_br h (lv_icmp_gt (tgt := 183) hx hb dX10_alone_177 (by decide)) (fun h => ?_) (fun h => ?_)
            · exact b_X10_alone_183 C hk39 hW (lv_sub hl [0, 1, 2, 3, 6] rfl) h
            · refine lv_goto (tgt := 193) hx hb dX10_alone_180 (by decide) ?_
              exact b_X10_alone_193 C hk39 hW (lv_sub hl [0, 1, 2, 3, 4, 5, 6] rfl) h
    · refine lv_aload_n hx hb dX10_alone_60 rfl (lv_at hl 0 rfl) ?_
      refine r_gR C hW h fl_X10_50 (by decide) dX10_alone_61 (fun b9 h => ?_)
      refine lv_iload hx hb dX10_alone_64 (lv_at hl 7 rfl) ?_
      refine r_iald C hW h dX10_alone_66 (fun v10 h => ?_)
      refine lv_bipush (v := 9) hx hb dX10_alone_67 (by decide) ?_
      refine lv_idiv hx hb dX10_alone_69 (by decide) ?_
      refine lv_istore (lv' := [(8, .int (v10 / 9)), (0, .ref a), (1, .int x1), (2, .int x2), (3, .int x3), (4, .int x4), (5, .int x5), (6, .int x6), (7, .int x7)]) hx hb dX10_alone_70 hl (by decide) rfl (fun ls hl => ?_)
      refine lv_aload_n hx hb dX10_alone_72 rfl (lv_at hl 1 rfl) ?_
      refine r_gR C hW h fl_X10_50 (by decide) dX10_alone_73 (fun b11 h => ?_)
      refine lv_iload hx hb dX10_alone_76 (lv_at hl 8 rfl) ?_
      refine r_iald C hW h dX10_alone_78 (fun v12 h => ?_)
      refine lv_bipush (v := 9) hx hb dX10_alone_79 (by decide) ?_
      refine lv_irem hx hb dX10_alone_81 (by decide) ?_
      refine lv_istore (lv' := [(9, .int (v12 - v12 / 9 * 9)), (8, .int (v10 / 9)), (0, .ref a), (1, .int x1), (2, .int x2), (3, .int x3), (4, .int x4), (5, .int x5), (6, .int x6), (7, .int x7)]) hx hb dX10_alone_82 hl (by decide) rfl (fun ls hl => ?_)
      refine lv_iload hx hb dX10_alone_84 (lv_at hl 8 rfl) ?_
      refine lv_iload hx hb dX10_alone_86 (lv_at hl 9 rfl) ?_
      refine lv_ishr hx hb dX10_alone_88 ?_
      refine lv_iconst (v := 1) hx hb dX10_alone_89 (by decide) ?_
      refine lv_iand hx hb dX10_alone_90 ?_
      refine r_brn h (lv_if_ne (tgt := 130) hx hb dX10_alone_91 (by decide)) (fun h => ?_) (fun h => ?_)
      · exact b_X10_alone_130 C hk39 (fun hW hl h => ih hW hl h) hW (lv_sub hl [2, 3, 4, 5, 6, 7, 8, 9] rfl) h
      · refine lv_aload_n hx hb dX10_alone_94 rfl (lv_at hl 2 rfl) ?_
        refine r_gR C hW h fl_X10_20 (by decide) dX10_alone_95 (fun b13 h => ?_)
        refine lv_sipush (v := 931) hx hb dX10_alone_98 (by decide) ?_
        refine lv_iload_n hx hb dX10_alone_101 rfl (lv_at hl 3 rfl) ?_
        refine lv_iload hx hb dX10_alone_102 (lv_at hl 1 rfl) ?_
        refine lv_iload hx hb dX10_alone_104 (lv_at hl 0 rfl) ?_
        refine r_cI hW (run_S (rest := [.ref b13]) C hW (t_X10_cellAt (X := X)) mk_X10_cellAt sk_X10_174 ⟨Nat.le_of_ble_eq_true rfl, Nat.le_of_ble_eq_true rfl⟩ ⟨Nat.zero_le _, Nat.zero_le _⟩ rfl rfl (Nat.le_of_ble_eq_true rfl) hl.1 dX10_alone_106) (fun H locs hW => ?_)
        refine lv_aload_n hx hb dX10_alone_109 rfl (lv_at hl 2 rfl) ?_
        refine lv_iconst (v := 0) hx hb dX10_alone_110 (by decide) ?_
        refine lv_iload_n hx hb dX10_alone_111 rfl (lv_at hl 3 rfl) ?_
        refine lv_iload hx hb dX10_alone_112 (lv_at hl 0 rfl) ?_
        obtain ⟨v15, h14, h⟩ := bnd_inv h
        refine r_cI hW (run_V (rest := [.int (f_X10_cellAt 931 x1 (v10 / 9) (v12 - v12 / 9 * 9)), .ref b13]) C hW (t_X10_typeAt h14) mk_X10_typeAt vk_X10_166 (kd_X10_typeAt h14) rfl rfl (by decide) ⟨Nat.le_of_ble_eq_true rfl, Nat.le_of_ble_eq_true rfl⟩ ⟨Nat.zero_le _, Nat.zero_le _⟩ rfl rfl (Nat.le_of_ble_eq_true rfl) hl.1 dX10_alone_114) (fun H locs hW => ?_)
        refine lv_aload_n hx hb dX10_alone_117 rfl (lv_at hl 2 rfl) ?_
        refine lv_iconst (v := 0) hx hb dX10_alone_118 (by decide) ?_
        refine lv_iload hx hb dX10_alone_119 (lv_at hl 1 rfl) ?_
        refine lv_iload hx hb dX10_alone_121 (lv_at hl 0 rfl) ?_
        obtain ⟨v17, h16, h⟩ := bnd_inv h
        refine r_cI hW (run_V (rest := [.int v15, .int (f_X10_cellAt 931 x1 (v10 / 9) (v12 - v12 / 9 * 9)), .ref b13]) C hW (t_X10_baseCell h16) mk_X10_baseCell vk_X10_285 (kd_X10_baseCell h16) rfl rfl (by decide) ⟨Nat.le_of_ble_eq_true rfl, Nat.le_of_ble_eq_true rfl⟩ ⟨Nat.zero_le _, Nat.zero_le _⟩ rfl rfl (Nat.le_of_ble_eq_true rfl) hl.1 dX10_alone_123) (fun H locs hW => ?_)
        refine r_cI hW (run_S (rest := [.int (f_X10_cellAt 931 x1 (v10 / 9) (v12 - v12 / 9 * 9)), .ref b13]) C hW (t_X10_castTo (X := X)) mk_X10_castTo sk_X10_243 ⟨Nat.le_of_ble_eq_true rfl, Nat.le_of_ble_eq_true rfl⟩ ⟨Nat.zero_le _, Nat.zero_le _⟩ rfl rfl (Nat.le_of_ble_eq_true rfl) hl.1 dX10_alone_126) (fun H locs hW => ?_)
        refine r_iast C hW h dX10_alone_129 (fun X18 H locs h hW => ?_)
        exact b_X10_alone_130 C hk39 (fun hW hl h => ih hW hl h) hW (lv_sub hl [2, 3, 4, 5, 6, 7, 8, 9] rfl) h
set_option maxRecDepth 20000 in
set_option maxHeartbeats 2000000 in
theorem b_X10_alone_39 {a : Nat} {x1 : Int32} {x2 : Int32} {x3 : Int32} (C : Cx g RX10 cX10_alone 10 (some .int) p s m args meth c) {r : (Int32 × Mx)} : ∀ (n : Nat) {X : Mx} {x4 : Int32} {x5 : Int32} {x6 : Int32} {H : Heap} {locs : List Loc} {ls : Array Slot} (hW : Wd g σ X s H locs) (hl : lv_has ls 10 [(0, .ref a), (1, .int x1), (2, .int x2), (3, .int x3), (4, .int x4), (5, .int x5), (6, .int x6)]) (h : f_X10_alone_39 σ a x1 x2 x3 n X x4 x5 x6 = some r), W p l e (rmZ 8 195) s m args below meth c H locs 0 0 (QI g σ below args s r) (F0 m 39 ls []) := by
  have hx := C.x
  have hb := C.b
  intro n
  induction n with
  | zero =>
    intro X x4 x5 x6 H locs ls hW hl h
    cases (show none = some r from h)
  | succ n ih =>
    intro X x4 x5 x6 H locs ls hW hl h
    rw [f_X10_alone_39] at h
    refine lv_iload hx hb dX10_alone_39 (lv_at hl 6 rfl) ?_
    refine lv_iconst (v := 1) hx hb dX10_alone_41 (by decide) ?_
    refine lv_iload_n hx hb dX10_alone_42 rfl (lv_at hl 3 rfl) ?_
    refine lv_ishl hx hb dX10_alone_43 ?_
    refine r_br h (lv_icmp_ge (tgt := 199) hx hb dX10_alone_44 (by decide)) (fun h => ?_) (fun h => ?_)
    · refine lv_iload_n hx hb dX10_alone_199 rfl (lv_at hl 2 rfl) ?_
      refine r_brn h (lv_if_ne (tgt := 208) hx hb dX10_alone_200 (by decide)) (fun h => ?_) (fun h => ?_)
      · refine lv_iload_n hx hb dX10_alone_208 rfl (lv_at hl 2 rfl) ?_
        refine lv_iconst (v := 1) hx hb dX10_alone_209 (by decide) ?_
        refine r_brn h (lv_icmp_ne (tgt := 221) hx hb dX10_alone_210 (by decide)) (fun h => ?_) (fun h => ?_)
        · refine lv_iload hx hb dX10_alone_221 (lv_at hl 5 rfl) ?_
          exact r_iret C hW (Option.some.inj h).symm rfl dX10_alone_223
        · refine lv_iload hx hb dX10_alone_213 (lv_at hl 5 rfl) ?_
          obtain ⟨v2, h1, h⟩ := bnd_inv h
          refine r_cI hW (run_S (rest := []) C hW (t_X10_bits h1) mk_X10_bits sk_X10_240 ⟨Nat.le_of_ble_eq_true rfl, Nat.le_of_ble_eq_true rfl⟩ ⟨Nat.zero_le _, Nat.zero_le _⟩ rfl rfl (Nat.le_of_ble_eq_true rfl) hl.1 dX10_alone_215) (fun H locs hW => ?_)
          refine lv_goto (tgt := 223) hx hb dX10_alone_218 (by decide) ?_
          exact r_iret C hW (Option.some.inj h).symm rfl dX10_alone_223
      · refine lv_iload hx hb dX10_alone_203 (lv_at hl 4 rfl) ?_
        refine lv_goto (tgt := 223) hx hb dX10_alone_205 (by decide) ?_
        exact r_iret C hW (Option.some.inj h).symm rfl dX10_alone_223
    · refine lv_aload_n hx hb dX10_alone_47 rfl (lv_at hl 0 rfl) ?_
      obtain ⟨X4, h3, h⟩ := bnd_inv h
      refine r_cV hW (run_V (rest := []) C hW (t_X10_tries h3) mk_X10_tries vk_X10_267 (kd_X10_tries h3) rfl rfl (by decide) ⟨Nat.le_of_ble_eq_true rfl, Nat.le_of_ble_eq_true rfl⟩ ⟨Nat.zero_le _, Nat.zero_le _⟩ rfl rfl (Nat.le_of_ble_eq_true rfl) hl.1 dX10_alone_48) (fun H locs hW => ?_)
      refine lv_iconst (v := 0) hx hb dX10_alone_51 (by decide) ?_
      refine lv_istore (lv' := [(7, .int 0), (0, .ref a), (1, .int x1), (2, .int x2), (3, .int x3), (4, .int x4), (5, .int x5), (6, .int x6)]) hx hb dX10_alone_52 hl (by decide) rfl (fun ls hl => ?_)
      exact b_X10_alone_54 C (fun hW hl h => ih hW hl h) FU hW (lv_sub hl [1, 2, 3, 4, 5, 6, 7, 0] rfl) h
theorem kd_X10_alone {X : Mx} {r : (Int32 × Mx)} {a : Nat} {x1 : Int32} {x2 : Int32} (h : f_X10_alone σ X a x1 x2 = some r) : shK σ a = 8 := (grd_inv h).1
set_option maxRecDepth 20000 in
set_option maxHeartbeats 2000000 in
theorem t_X10_alone {X : Mx} {r : (Int32 × Mx)} {a : Nat} {x1 : Int32} {x2 : Int32} (h : f_X10_alone σ X a x1 x2 = some r) : MtI g l yX10_alone cX10_alone 10 (some .int) 8 195 [.ref a, .int x1, .int x2] σ X r := by
  refine met_of mk_X10_alone (Nat.le_of_ble_eq_true rfl) (fun p e s m args below meth c ls C hW hl => ?_)
  have hx := C.x
  have hb := C.b
  have hl : lv_has ls 10 [(0, .ref a), (1, .int x1), (2, .int x2)] := hl
  unfold f_X10_alone at h
  obtain ⟨hk0, h⟩ := grd_inv h
  refine lv_aload_n hx hb dX10_alone_0 rfl (lv_at hl 0 rfl) ?_
  refine lv_iconst (v := 0) hx hb dX10_alone_1 (by decide) ?_
  refine r_pI C hW h pf_X10_65 (by decide) rfl rfl dX10_alone_2 (fun X1 H locs h hW => ?_)
  refine lv_aload_n hx hb dX10_alone_5 rfl (lv_at hl 0 rfl) ?_
  refine lv_iload_n hx hb dX10_alone_6 rfl (lv_at hl 1 rfl) ?_
  obtain ⟨v4, X3, h2, h⟩ := bnd2_inv h
  refine r_cI hW (run_V (rest := []) C hW (t_X10_isSide h2) mk_X10_isSide vk_X10_406 (kd_X10_isSide h2) rfl rfl (by decide) ⟨Nat.le_of_ble_eq_true rfl, Nat.le_of_ble_eq_true rfl⟩ ⟨Nat.zero_le _, Nat.zero_le _⟩ rfl rfl (Nat.le_of_ble_eq_true rfl) hl.1 dX10_alone_7) (fun H locs hW => ?_)
  refine r_br h (lv_if_eq (tgt := 22) hx hb dX10_alone_10 (by decide)) (fun h => ?_) (fun h => ?_)
  · refine lv_iconst (v := 0) hx hb dX10_alone_22 (by decide) ?_
    exact r_iret C hW (Option.some.inj h).symm rfl dX10_alone_23
  · refine lv_aload_n hx hb dX10_alone_13 rfl (lv_at hl 0 rfl) ?_
    refine lv_iload_n hx hb dX10_alone_14 rfl (lv_at hl 2 rfl) ?_
    refine lv_iconst (v := 2) hx hb dX10_alone_15 (by decide) ?_
    obtain ⟨v7, X6, h5, h⟩ := bnd2_inv h
    refine r_cI hW (run_V (rest := []) C hW (t_X10_isWhat h5) mk_X10_isWhat vk_X10_375 (kd_X10_isWhat h5) rfl rfl (by decide) ⟨Nat.le_of_ble_eq_true rfl, Nat.le_of_ble_eq_true rfl⟩ ⟨Nat.zero_le _, Nat.zero_le _⟩ rfl rfl (Nat.le_of_ble_eq_true rfl) hl.1 dX10_alone_16) (fun H locs hW => ?_)
    refine r_brn h (lv_if_ne (tgt := 24) hx hb dX10_alone_19 (by decide)) (fun h => ?_) (fun h => ?_)
    · refine lv_aload_n hx hb dX10_alone_24 rfl (lv_at hl 0 rfl) ?_
      refine lv_iload_n hx hb dX10_alone_25 rfl (lv_at hl 1 rfl) ?_
      obtain ⟨v10, X9, h8, h⟩ := bnd2_inv h
      refine r_cI hW (run_V (rest := []) C hW (t_X10_laysAlone h8) mk_X10_laysAlone vk_X10_418 (kd_X10_laysAlone h8) rfl rfl (by decide) ⟨Nat.le_of_ble_eq_true rfl, Nat.le_of_ble_eq_true rfl⟩ ⟨Nat.zero_le _, Nat.zero_le _⟩ rfl rfl (Nat.le_of_ble_eq_true rfl) hl.1 dX10_alone_26) (fun H locs hW => ?_)
      refine lv_istore_n (lv' := [(3, .int v10), (0, .ref a), (1, .int x1), (2, .int x2)]) hx hb dX10_alone_29 rfl hl (by decide) rfl (fun ls hl => ?_)
      refine lv_iconst (v := (-1)) hx hb dX10_alone_30 (by decide) ?_
      refine lv_istore (lv' := [(4, .int (-1)), (3, .int v10), (0, .ref a), (1, .int x1), (2, .int x2)]) hx hb dX10_alone_31 hl (by decide) rfl (fun ls hl => ?_)
      refine lv_iconst (v := 0) hx hb dX10_alone_33 (by decide) ?_
      refine lv_istore (lv' := [(5, .int 0), (4, .int (-1)), (3, .int v10), (0, .ref a), (1, .int x1), (2, .int x2)]) hx hb dX10_alone_34 hl (by decide) rfl (fun ls hl => ?_)
      refine lv_iconst (v := 0) hx hb dX10_alone_36 (by decide) ?_
      refine lv_istore (lv' := [(6, .int 0), (5, .int 0), (4, .int (-1)), (3, .int v10), (0, .ref a), (1, .int x1), (2, .int x2)]) hx hb dX10_alone_37 hl (by decide) rfl (fun ls hl => ?_)
      exact b_X10_alone_39 C FU hW (lv_sub hl [4, 5, 6, 3, 2, 1, 0] rfl) h
    · refine lv_iconst (v := 0) hx hb dX10_alone_22 (by decide) ?_
      exact r_iret C hW (Option.some.inj h).symm rfl dX10_alone_23
set_option maxRecDepth 20000 in
set_option maxHeartbeats 2000000 in
theorem b_X10_see_54 {a : Nat} (C : Cx g RX10 cX10_see 4 (some .int) p s m args meth c) {r : (Int32 × Mx)} {X : Mx} (hW : Wd g σ X s H locs) (hl : lv_has ls 4 [(0, .ref a)]) (h : f_X10_see_54 σ a X = some r) : W p l e (rmZ 1 22) s m args below meth c H locs 0 0 (QI g σ below args s r) (F0 m 54 ls []) := by
  have hx := C.x
  have hb := C.b
  unfold f_X10_see_54 at h
  refine lv_aload_n hx hb dX10_see_54 rfl (lv_at hl 0 rfl) ?_
  refine lv_iconst (v := 2) hx hb dX10_see_55 (by decide) ?_
  obtain ⟨v3, X2, h1, h⟩ := bnd2_inv h
  refine r_cI hW (run_V (rest := []) C hW (t_X10_refuses h1) mk_X10_refuses vk_X10_270 (kd_X10_refuses h1) rfl rfl (by decide) ⟨Nat.le_of_ble_eq_true rfl, Nat.le_of_ble_eq_true rfl⟩ ⟨Nat.zero_le _, Nat.zero_le _⟩ rfl rfl (Nat.le_of_ble_eq_true rfl) hl.1 dX10_see_56) (fun H locs hW => ?_)
  exact r_iret C hW (Option.some.inj h).symm rfl dX10_see_59
set_option maxRecDepth 20000 in
set_option maxHeartbeats 2000000 in
theorem b_X10_see_60 {a : Nat} {x1 : Int32} {x2 : Int32} {x3 : Int32} (C : Cx g RX10 cX10_see 4 (some .int) p s m args meth c) {r : (Int32 × Mx)} {X : Mx} (hW : Wd g σ X s H locs) (hl : lv_has ls 4 [(0, .ref a), (1, .int x1), (2, .int x2), (3, .int x3)]) (h : f_X10_see_60 σ a x1 x2 x3 X = some r) : W p l e (rmZ 1 22) s m args below meth c H locs 0 0 (QI g σ below args s r) (F0 m 60 ls []) := by
  have hx := C.x
  have hb := C.b
  unfold f_X10_see_60 at h
  refine lv_aload_n hx hb dX10_see_60 rfl (lv_at hl 0 rfl) ?_
  refine r_gR C hW h fl_X10_53 (by decide) dX10_see_61 (fun b1 h => ?_)
  refine lv_iconst (v := 3) hx hb dX10_see_64 (by decide) ?_
  refine lv_aload_n hx hb dX10_see_65 rfl (lv_at hl 0 rfl) ?_
  refine r_gI C hW h fl_X10_224 (by decide) dX10_see_66 (fun v2 h => ?_)
  refine lv_imul hx hb dX10_see_69 ?_
  refine lv_iload_n hx hb dX10_see_70 rfl (lv_at hl 1 rfl) ?_
  refine r_iast C hW h dX10_see_71 (fun X3 H locs h hW => ?_)
  refine lv_aload_n hx hb dX10_see_72 rfl (lv_at hl 0 rfl) ?_
  refine r_gR C hW h fl_X10_53 (by decide) dX10_see_73 (fun b4 h => ?_)
  refine lv_iconst (v := 3) hx hb dX10_see_76 (by decide) ?_
  refine lv_aload_n hx hb dX10_see_77 rfl (lv_at hl 0 rfl) ?_
  refine r_gI C hW h fl_X10_224 (by decide) dX10_see_78 (fun v5 h => ?_)
  refine lv_imul hx hb dX10_see_81 ?_
  refine lv_iconst (v := 1) hx hb dX10_see_82 (by decide) ?_
  refine lv_iadd hx hb dX10_see_83 ?_
  refine lv_iload_n hx hb dX10_see_84 rfl (lv_at hl 2 rfl) ?_
  refine r_iast C hW h dX10_see_85 (fun X6 H locs h hW => ?_)
  refine lv_aload_n hx hb dX10_see_86 rfl (lv_at hl 0 rfl) ?_
  refine r_gR C hW h fl_X10_53 (by decide) dX10_see_87 (fun b7 h => ?_)
  refine lv_iconst (v := 3) hx hb dX10_see_90 (by decide) ?_
  refine lv_aload_n hx hb dX10_see_91 rfl (lv_at hl 0 rfl) ?_
  refine r_gI C hW h fl_X10_224 (by decide) dX10_see_92 (fun v8 h => ?_)
  refine lv_imul hx hb dX10_see_95 ?_
  refine lv_iconst (v := 2) hx hb dX10_see_96 (by decide) ?_
  refine lv_iadd hx hb dX10_see_97 ?_
  refine lv_iload_n hx hb dX10_see_98 rfl (lv_at hl 3 rfl) ?_
  refine r_iast C hW h dX10_see_99 (fun X9 H locs h hW => ?_)
  refine lv_aload_n hx hb dX10_see_100 rfl (lv_at hl 0 rfl) ?_
  refine lv_dup hx hb dX10_see_101 rfl ?_
  refine r_gI C hW h fl_X10_224 (by decide) dX10_see_102 (fun v10 h => ?_)
  refine lv_iconst (v := 1) hx hb dX10_see_105 (by decide) ?_
  refine lv_iadd hx hb dX10_see_106 ?_
  refine r_pI C hW h pf_X10_224 (by decide) rfl rfl dX10_see_107 (fun X11 H locs h hW => ?_)
  refine lv_aload_n hx hb dX10_see_110 rfl (lv_at hl 0 rfl) ?_
  refine r_gI C hW h fl_X10_224 (by decide) dX10_see_111 (fun v12 h => ?_)
  exact r_iret C hW (Option.some.inj h).symm rfl dX10_see_114
theorem kd_X10_see {X : Mx} {r : (Int32 × Mx)} {a : Nat} {x1 : Int32} {x2 : Int32} {x3 : Int32} (h : f_X10_see σ X a x1 x2 x3 = some r) : shK σ a = 8 := (grd_inv h).1
set_option maxRecDepth 20000 in
set_option maxHeartbeats 2000000 in
theorem t_X10_see {X : Mx} {r : (Int32 × Mx)} {a : Nat} {x1 : Int32} {x2 : Int32} {x3 : Int32} (h : f_X10_see σ X a x1 x2 x3 = some r) : MtI g l yX10_see cX10_see 4 (some .int) 1 22 [.ref a, .int x1, .int x2, .int x3] σ X r := by
  refine met_of mk_X10_see (Nat.le_of_ble_eq_true rfl) (fun p e s m args below meth c ls C hW hl => ?_)
  have hx := C.x
  have hb := C.b
  have hl : lv_has ls 4 [(0, .ref a), (1, .int x1), (2, .int x2), (3, .int x3)] := hl
  unfold f_X10_see at h
  obtain ⟨hk0, h⟩ := grd_inv h
  refine lv_aload_n hx hb dX10_see_0 rfl (lv_at hl 0 rfl) ?_
  refine lv_iconst (v := 0) hx hb dX10_see_1 (by decide) ?_
  refine r_pI C hW h pf_X10_65 (by decide) rfl rfl dX10_see_2 (fun X1 H locs h hW => ?_)
  refine lv_aload_n hx hb dX10_see_5 rfl (lv_at hl 0 rfl) ?_
  refine r_gI C hW h fl_X10_224 (by decide) dX10_see_6 (fun v2 h => ?_)
  refine lv_bipush (v := 8) hx hb dX10_see_9 (by decide) ?_
  refine r_br h (lv_icmp_eq (tgt := 54) hx hb dX10_see_11 (by decide)) (fun h => ?_) (fun h => ?_)
  · exact b_X10_see_54 C hW (lv_sub hl [0] rfl) h
  · refine lv_iload_n hx hb dX10_see_14 rfl (lv_at hl 1 rfl) ?_
    refine lv_iconst (v := 0) hx hb dX10_see_15 (by decide) ?_
    refine lv_bipush (v := 19) hx hb dX10_see_16 (by decide) ?_
    refine r_cI hW (run_S (rest := []) C hW (t_X10_within (X := X1)) mk_X10_within sk_X10_231 ⟨Nat.le_of_ble_eq_true rfl, Nat.le_of_ble_eq_true rfl⟩ ⟨Nat.zero_le _, Nat.zero_le _⟩ rfl rfl (Nat.le_of_ble_eq_true rfl) hl.1 dX10_see_18) (fun H locs hW => ?_)
    refine r_br h (lv_if_eq (tgt := 54) hx hb dX10_see_21 (by decide)) (fun h => ?_) (fun h => ?_)
    · exact b_X10_see_54 C hW (lv_sub hl [0] rfl) h
    · refine lv_iload_n hx hb dX10_see_24 rfl (lv_at hl 2 rfl) ?_
      refine lv_iconst (v := 0) hx hb dX10_see_25 (by decide) ?_
      refine lv_bipush (v := 8) hx hb dX10_see_26 (by decide) ?_
      refine r_cI hW (run_S (rest := []) C hW (t_X10_within (X := X1)) mk_X10_within sk_X10_231 ⟨Nat.le_of_ble_eq_true rfl, Nat.le_of_ble_eq_true rfl⟩ ⟨Nat.zero_le _, Nat.zero_le _⟩ rfl rfl (Nat.le_of_ble_eq_true rfl) hl.1 dX10_see_28) (fun H locs hW => ?_)
      refine r_br h (lv_if_eq (tgt := 54) hx hb dX10_see_31 (by decide)) (fun h => ?_) (fun h => ?_)
      · exact b_X10_see_54 C hW (lv_sub hl [0] rfl) h
      · refine lv_iload_n hx hb dX10_see_34 rfl (lv_at hl 3 rfl) ?_
        refine lv_sipush (v := 9999) hx hb dX10_see_35 (by decide) ?_
        refine r_br h (lv_icmp_eq (tgt := 60) hx hb dX10_see_38 (by decide)) (fun h => ?_) (fun h => ?_)
        · exact b_X10_see_60 C hW (lv_sub hl [0, 1, 2, 3] rfl) h
        · refine lv_iload_n hx hb dX10_see_41 rfl (lv_at hl 3 rfl) ?_
          refine lv_sipush (v := (-999)) hx hb dX10_see_42 (by decide) ?_
          refine lv_sipush (v := 999) hx hb dX10_see_45 (by decide) ?_
          refine r_cI hW (run_S (rest := []) C hW (t_X10_within (X := X1)) mk_X10_within sk_X10_231 ⟨Nat.le_of_ble_eq_true rfl, Nat.le_of_ble_eq_true rfl⟩ ⟨Nat.zero_le _, Nat.zero_le _⟩ rfl rfl (Nat.le_of_ble_eq_true rfl) hl.1 dX10_see_48) (fun H locs hW => ?_)
          refine r_brn h (lv_if_ne (tgt := 60) hx hb dX10_see_51 (by decide)) (fun h => ?_) (fun h => ?_)
          · exact b_X10_see_60 C hW (lv_sub hl [0, 1, 2, 3] rfl) h
          · exact b_X10_see_54 C hW (lv_sub hl [0] rfl) h
theorem kd_X10_forget {X : Mx} {r : Mx} {a : Nat} (h : f_X10_forget σ X a = some r) : shK σ a = 8 := (grd_inv h).1
set_option maxRecDepth 20000 in
set_option maxHeartbeats 2000000 in
theorem t_X10_forget {X : Mx} {r : Mx} {a : Nat} (h : f_X10_forget σ X a = some r) : MtV g l yX10_forget cX10_forget 1 none 0 0 [.ref a] σ X r := by
  refine met_of mk_X10_forget (Nat.le_of_ble_eq_true rfl) (fun p e s m args below meth c ls C hW hl => ?_)
  have hx := C.x
  have hb := C.b
  have hl : lv_has ls 1 [(0, .ref a)] := hl
  unfold f_X10_forget at h
  obtain ⟨hk0, h⟩ := grd_inv h
  refine lv_aload_n hx hb dX10_forget_0 rfl (lv_at hl 0 rfl) ?_
  refine lv_iconst (v := 0) hx hb dX10_forget_1 (by decide) ?_
  refine r_pI C hW h pf_X10_65 (by decide) rfl rfl dX10_forget_2 (fun X1 H locs h hW => ?_)
  refine lv_aload_n hx hb dX10_forget_5 rfl (lv_at hl 0 rfl) ?_
  refine lv_iconst (v := 0) hx hb dX10_forget_6 (by decide) ?_
  refine r_pI C hW h pf_X10_224 (by decide) rfl rfl dX10_forget_7 (fun X2 H locs h hW => ?_)
  exact r_vret C hW (Option.some.inj h).symm dX10_forget_10
set_option maxRecDepth 20000 in
set_option maxHeartbeats 2000000 in
theorem b_X10_isSeen_7 {a : Nat} (C : Cx g RX10 cX10_isSeen 5 (some .boolean) p s m args meth c) {r : (Int32 × Mx)} : ∀ (n : Nat) {X : Mx} {x2 : Int32} {H : Heap} {locs : List Loc} {ls : Array Slot} (hW : Wd g σ X s H locs) (hl : lv_has ls 5 [(0, .ref a), (2, .int x2)]) (h : f_X10_isSeen_7 σ a n X x2 = some r), W p l e (rmZ 7 169) s m args below meth c H locs 0 0 (QI g σ below args s r) (F0 m 7 ls []) := by
  have hx := C.x
  have hb := C.b
  intro n
  induction n with
  | zero =>
    intro X x2 H locs ls hW hl h
    cases (show none = some r from h)
  | succ n ih =>
    intro X x2 H locs ls hW hl h
    rw [f_X10_isSeen_7] at h
    refine lv_iload_n hx hb dX10_isSeen_7 rfl (lv_at hl 1 rfl) ?_
    refine lv_aload_n hx hb dX10_isSeen_8 rfl (lv_at hl 0 rfl) ?_
    refine r_gI C hW h fl_X10_224 (by decide) dX10_isSeen_9 (fun v1 h => ?_)
    refine r_br h (lv_icmp_ge (tgt := 87) hx hb dX10_isSeen_12 (by decide)) (fun h => ?_) (fun h => ?_)
    · refine lv_iconst (v := 1) hx hb dX10_isSeen_87 (by decide) ?_
      exact r_iret C hW (Option.some.inj h).symm rfl dX10_isSeen_88
    · refine lv_aload_n hx hb dX10_isSeen_15 rfl (lv_at hl 0 rfl) ?_
      refine r_gR C hW h fl_X10_53 (by decide) dX10_isSeen_16 (fun b2 h => ?_)
      refine lv_iconst (v := 3) hx hb dX10_isSeen_19 (by decide) ?_
      refine lv_iload_n hx hb dX10_isSeen_20 rfl (lv_at hl 1 rfl) ?_
      refine lv_imul hx hb dX10_isSeen_21 ?_
      refine r_iald C hW h dX10_isSeen_22 (fun v3 h => ?_)
      refine lv_istore_n (lv' := [(3, .int v3), (0, .ref a), (2, .int x2)]) hx hb dX10_isSeen_23 rfl hl (by decide) rfl (fun ls hl => ?_)
      refine lv_aload_n hx hb dX10_isSeen_24 rfl (lv_at hl 1 rfl) ?_
      refine r_gR C hW h fl_X10_53 (by decide) dX10_isSeen_25 (fun b4 h => ?_)
      refine lv_iconst (v := 3) hx hb dX10_isSeen_28 (by decide) ?_
      refine lv_iload_n hx hb dX10_isSeen_29 rfl (lv_at hl 2 rfl) ?_
      refine lv_imul hx hb dX10_isSeen_30 ?_
      refine lv_iconst (v := 1) hx hb dX10_isSeen_31 (by decide) ?_
      refine lv_iadd hx hb dX10_isSeen_32 ?_
      refine r_iald C hW h dX10_isSeen_33 (fun v5 h => ?_)
      refine lv_istore (lv' := [(4, .int v5), (3, .int v3), (0, .ref a), (2, .int x2)]) hx hb dX10_isSeen_34 hl (by decide) rfl (fun ls hl => ?_)
      refine lv_aload_n hx hb dX10_isSeen_36 rfl (lv_at hl 2 rfl) ?_
      refine r_gI C hW h fl_X10_323 (by decide) dX10_isSeen_37 (fun v6 h => ?_)
      refine lv_iload_n hx hb dX10_isSeen_40 rfl (lv_at hl 1 rfl) ?_
      refine lv_ishr hx hb dX10_isSeen_41 ?_
      refine lv_iconst (v := 1) hx hb dX10_isSeen_42 (by decide) ?_
      refine lv_iand hx hb dX10_isSeen_43 ?_
      refine r_br h (lv_if_eq (tgt := 79) hx hb dX10_isSeen_44 (by decide)) (fun h => ?_) (fun h => ?_)
      · refine lv_iconst (v := 0) hx hb dX10_isSeen_79 (by decide) ?_
        exact r_iret C hW (Option.some.inj h).symm rfl dX10_isSeen_80
      · refine lv_aload_n hx hb dX10_isSeen_47 rfl (lv_at hl 2 rfl) ?_
        refine r_gI C hW h fl_X10_291 (by decide) dX10_isSeen_48 (fun v7 h => ?_)
        refine lv_iload hx hb dX10_isSeen_51 (lv_at hl 0 rfl) ?_
        refine lv_ishr hx hb dX10_isSeen_53 ?_
        refine lv_iconst (v := 1) hx hb dX10_isSeen_54 (by decide) ?_
        refine lv_iand hx hb dX10_isSeen_55 ?_
        refine r_br h (lv_if_eq (tgt := 79) hx hb dX10_isSeen_56 (by decide)) (fun h => ?_) (fun h => ?_)
        · refine lv_iconst (v := 0) hx hb dX10_isSeen_79 (by decide) ?_
          exact r_iret C hW (Option.some.inj h).symm rfl dX10_isSeen_80
        · refine lv_aload_n hx hb dX10_isSeen_59 rfl (lv_at hl 2 rfl) ?_
          refine lv_iload_n hx hb dX10_isSeen_60 rfl (lv_at hl 1 rfl) ?_
          refine lv_iload hx hb dX10_isSeen_61 (lv_at hl 0 rfl) ?_
          obtain ⟨v9, h8, h⟩ := bnd_inv h
          refine r_cI hW (run_V (rest := []) C hW (t_X10_mergedAt h8) mk_X10_mergedAt vk_X10_326 (kd_X10_mergedAt h8) rfl rfl (by decide) ⟨Nat.le_of_ble_eq_true rfl, Nat.le_of_ble_eq_true rfl⟩ ⟨Nat.zero_le _, Nat.zero_le _⟩ rfl rfl (Nat.le_of_ble_eq_true rfl) hl.1 dX10_isSeen_63) (fun H locs hW => ?_)
          refine lv_aload_n hx hb dX10_isSeen_66 rfl (lv_at hl 2 rfl) ?_
          refine r_gR C hW h fl_X10_53 (by decide) dX10_isSeen_67 (fun b10 h => ?_)
          refine lv_iconst (v := 3) hx hb dX10_isSeen_70 (by decide) ?_
          refine lv_iload_n hx hb dX10_isSeen_71 rfl (lv_at hl 3 rfl) ?_
          refine lv_imul hx hb dX10_isSeen_72 ?_
          refine lv_iconst (v := 2) hx hb dX10_isSeen_73 (by decide) ?_
          refine lv_iadd hx hb dX10_isSeen_74 ?_
          refine r_iald C hW h dX10_isSeen_75 (fun v11 h => ?_)
          refine r_br h (lv_icmp_eq (tgt := 81) hx hb dX10_isSeen_76 (by decide)) (fun h => ?_) (fun h => ?_)
          · refine lv_iinc (v := (x2 + 1)) (lv' := [(2, .int (x2 + 1)), (4, .int v5), (3, .int v3), (0, .ref a)]) hx hb dX10_isSeen_81 hl (k := 3) rfl rfl (by decide) rfl (fun ls hl => ?_)
            refine lv_goto (tgt := 7) hx hb dX10_isSeen_84 (by decide) ?_
            exact ih hW (lv_sub hl [3, 0] rfl) h
          · refine lv_iconst (v := 0) hx hb dX10_isSeen_79 (by decide) ?_
            exact r_iret C hW (Option.some.inj h).symm rfl dX10_isSeen_80
theorem kd_X10_isSeen {X : Mx} {r : (Int32 × Mx)} {a : Nat} {x1 : Int32} (h : f_X10_isSeen σ X a x1 = some r) : shK σ a = 8 := (grd_inv h).1
set_option maxRecDepth 20000 in
set_option maxHeartbeats 2000000 in
theorem t_X10_isSeen {X : Mx} {r : (Int32 × Mx)} {a : Nat} {x1 : Int32} (h : f_X10_isSeen σ X a x1 = some r) : MtI g l yX10_isSeen cX10_isSeen 5 (some .boolean) 7 169 [.ref a, .int x1] σ X r := by
  refine met_of mk_X10_isSeen (Nat.le_of_ble_eq_true rfl) (fun p e s m args below meth c ls C hW hl => ?_)
  have hx := C.x
  have hb := C.b
  have hl : lv_has ls 5 [(0, .ref a), (1, .int x1)] := hl
  unfold f_X10_isSeen at h
  obtain ⟨hk0, h⟩ := grd_inv h
  refine lv_aload_n hx hb dX10_isSeen_0 rfl (lv_at hl 0 rfl) ?_
  refine lv_iload_n hx hb dX10_isSeen_1 rfl (lv_at hl 1 rfl) ?_
  obtain ⟨X2, h1, h⟩ := bnd_inv h
  refine r_cV hW (run_V (rest := []) C hW (t_X10_merges h1) mk_X10_merges vk_X10_354 (kd_X10_merges h1) rfl rfl (by decide) ⟨Nat.le_of_ble_eq_true rfl, Nat.le_of_ble_eq_true rfl⟩ ⟨Nat.zero_le _, Nat.zero_le _⟩ rfl rfl (Nat.le_of_ble_eq_true rfl) hl.1 dX10_isSeen_2) (fun H locs hW => ?_)
  refine lv_iconst (v := 0) hx hb dX10_isSeen_5 (by decide) ?_
  refine lv_istore_n (lv' := [(2, .int 0), (0, .ref a), (1, .int x1)]) hx hb dX10_isSeen_6 rfl hl (by decide) rfl (fun ls hl => ?_)
  exact b_X10_isSeen_7 C FU hW (lv_sub hl [1, 0] rfl) h
set_option maxRecDepth 20000 in
set_option maxHeartbeats 2000000 in
theorem b_X10_edited_161 {k42 : Mx → Int32 → Int32 → Int32 → Option (Int32 × Mx)} {k52 : Mx → Int32 → Int32 → Int32 → Option (Int32 × Mx)} {a : Nat} {x1 : Int32} {x2 : Int32} {x3 : Int32} {x4 : Int32} {x5 : Int32} (C : Cx g RX10 cX10_edited 7 (some .int) p s m args meth c) {r : (Int32 × Mx)} {X : Mx} (hk42 : ∀ {H' : Heap} {locs' : List Loc} {ls' : Array Slot} {X' : Mx} {x2' : Int32} {x3' : Int32} {x4' : Int32}, Wd g σ X' s H' locs' → lv_has ls' 7 [(0, .ref a), (1, .int x1), (2, .int x2'), (3, .int x3'), (4, .int x4')] → k42 X' x2' x3' x4' = some r → W p l e (rmZ 8 193) s m args below meth c H' locs' 0 0 (QI g σ below args s r) (F0 m 42 ls' [])) (hk52 : ∀ {H' : Heap} {locs' : List Loc} {ls' : Array Slot} {X' : Mx} {x2' : Int32} {x3' : Int32} {x5' : Int32}, Wd g σ X' s H' locs' → lv_has ls' 7 [(0, .ref a), (1, .int x1), (2, .int x2'), (3, .int x3'), (4, .int x4), (5, .int x5')] → k52 X' x2' x3' x5' = some r → W p l e (rmZ 8 193) s m args below meth c H' locs' 0 0 (QI g σ below args s r) (F0 m 52 ls' [])) (hW : Wd g σ X s H locs) (hl : lv_has ls 7 [(0, .ref a), (1, .int x1), (2, .int x2), (3, .int x3), (4, .int x4), (5, .int x5)]) (h : f_X10_edited_161 k42 k52 σ a x1 x2 x3 x4 x5 X = some r) : W p l e (rmZ 8 193) s m args below meth c H locs 0 0 (QI g σ below args s r) (F0 m 161 ls []) := by
  have hx := C.x
  have hb := C.b
  unfold f_X10_edited_161 at h
  refine lv_iinc (v := (x5 + 1)) (lv' := [(5, .int (x5 + 1)), (0, .ref a), (1, .int x1), (2, .int x2), (3, .int x3), (4, .int x4)]) hx hb dX10_edited_161 hl (k := 5) rfl rfl (by decide) rfl (fun ls hl => ?_)
  refine lv_goto (tgt := 52) hx hb dX10_edited_164 (by decide) ?_
  exact hk52 hW (lv_sub hl [1, 2, 3, 4, 5, 0] rfl) h
set_option maxRecDepth 20000 in
set_option maxHeartbeats 2000000 in
theorem b_X10_edited_155 {k42 : Mx → Int32 → Int32 → Int32 → Option (Int32 × Mx)} {k52 : Mx → Int32 → Int32 → Int32 → Option (Int32 × Mx)} {k87 : Mx → Int32 → Int32 → Int32 → Option (Int32 × Mx)} {a : Nat} {x1 : Int32} {x2 : Int32} {x3 : Int32} {x4 : Int32} {x5 : Int32} {x6 : Int32} (C : Cx g RX10 cX10_edited 7 (some .int) p s m args meth c) {r : (Int32 × Mx)} {X : Mx} (hk42 : ∀ {H' : Heap} {locs' : List Loc} {ls' : Array Slot} {X' : Mx} {x2' : Int32} {x3' : Int32} {x4' : Int32}, Wd g σ X' s H' locs' → lv_has ls' 7 [(0, .ref a), (1, .int x1), (2, .int x2'), (3, .int x3'), (4, .int x4')] → k42 X' x2' x3' x4' = some r → W p l e (rmZ 8 193) s m args below meth c H' locs' 0 0 (QI g σ below args s r) (F0 m 42 ls' [])) (hk52 : ∀ {H' : Heap} {locs' : List Loc} {ls' : Array Slot} {X' : Mx} {x2' : Int32} {x3' : Int32} {x5' : Int32}, Wd g σ X' s H' locs' → lv_has ls' 7 [(0, .ref a), (1, .int x1), (2, .int x2'), (3, .int x3'), (4, .int x4), (5, .int x5')] → k52 X' x2' x3' x5' = some r → W p l e (rmZ 8 193) s m args below meth c H' locs' 0 0 (QI g σ below args s r) (F0 m 52 ls' [])) (hk87 : ∀ {H' : Heap} {locs' : List Loc} {ls' : Array Slot} {X' : Mx} {x2' : Int32} {x3' : Int32} {x6' : Int32}, Wd g σ X' s H' locs' → lv_has ls' 7 [(0, .ref a), (1, .int x1), (2, .int x2'), (3, .int x3'), (4, .int x4), (5, .int x5), (6, .int x6')] → k87 X' x2' x3' x6' = some r → W p l e (rmZ 8 193) s m args below meth c H' locs' 0 0 (QI g σ below args s r) (F0 m 87 ls' [])) (hW : Wd g σ X s H locs) (hl : lv_has ls 7 [(0, .ref a), (1, .int x1), (2, .int x2), (3, .int x3), (4, .int x4), (5, .int x5), (6, .int x6)]) (h : f_X10_edited_155 k42 k52 k87 σ a x1 x2 x3 x4 x5 x6 X = some r) : W p l e (rmZ 8 193) s m args below meth c H locs 0 0 (QI g σ below args s r) (F0 m 155 ls []) := by
  have hx := C.x
  have hb := C.b
  unfold f_X10_edited_155 at h
  refine lv_iinc (v := (x6 + 1)) (lv' := [(6, .int (x6 + 1)), (0, .ref a), (1, .int x1), (2, .int x2), (3, .int x3), (4, .int x4), (5, .int x5)]) hx hb dX10_edited_155 hl (k := 6) rfl rfl (by decide) rfl (fun ls hl => ?_)
  refine lv_goto (tgt := 87) hx hb dX10_edited_158 (by decide) ?_
  exact hk87 hW (lv_sub hl [1, 2, 3, 4, 5, 6, 0] rfl) h
set_option maxRecDepth 20000 in
set_option maxHeartbeats 2000000 in
theorem b_X10_edited_87 {k42 : Mx → Int32 → Int32 → Int32 → Option (Int32 × Mx)} {k52 : Mx → Int32 → Int32 → Int32 → Option (Int32 × Mx)} {a : Nat} {x1 : Int32} {x4 : Int32} {x5 : Int32} (C : Cx g RX10 cX10_edited 7 (some .int) p s m args meth c) {r : (Int32 × Mx)} (hk42 : ∀ {H' : Heap} {locs' : List Loc} {ls' : Array Slot} {X' : Mx} {x2' : Int32} {x3' : Int32} {x4' : Int32}, Wd g σ X' s H' locs' → lv_has ls' 7 [(0, .ref a), (1, .int x1), (2, .int x2'), (3, .int x3'), (4, .int x4')] → k42 X' x2' x3' x4' = some r → W p l e (rmZ 8 193) s m args below meth c H' locs' 0 0 (QI g σ below args s r) (F0 m 42 ls' [])) (hk52 : ∀ {H' : Heap} {locs' : List Loc} {ls' : Array Slot} {X' : Mx} {x2' : Int32} {x3' : Int32} {x5' : Int32}, Wd g σ X' s H' locs' → lv_has ls' 7 [(0, .ref a), (1, .int x1), (2, .int x2'), (3, .int x3'), (4, .int x4), (5, .int x5')] → k52 X' x2' x3' x5' = some r → W p l e (rmZ 8 193) s m args below meth c H' locs' 0 0 (QI g σ below args s r) (F0 m 52 ls' [])) : ∀ (n : Nat) {X : Mx} {x2 : Int32} {x3 : Int32} {x6 : Int32} {H : Heap} {locs : List Loc} {ls : Array Slot} (hW : Wd g σ X s H locs) (hl : lv_has ls 7 [(0, .ref a), (1, .int x1), (2, .int x2), (3, .int x3), (4, .int x4), (5, .int x5), (6, .int x6)]) (h : f_X10_edited_87 k42 k52 σ a x1 x4 x5 n X x2 x3 x6 = some r), W p l e (rmZ 8 193) s m args below meth c H locs 0 0 (QI g σ below args s r) (F0 m 87 ls []) := by
  have hx := C.x
  have hb := C.b
  intro n
  induction n with
  | zero =>
    intro X x2 x3 x6 H locs ls hW hl h
    cases (show none = some r from h)
  | succ n ih =>
    intro X x2 x3 x6 H locs ls hW hl h
    rw [f_X10_edited_87] at h
    refine lv_iload hx hb dX10_edited_87 (lv_at hl 6 rfl) ?_
    refine lv_bipush (v := 10) hx hb dX10_edited_89 (by decide) ?_
    refine r_br h (lv_icmp_ge (tgt := 161) hx hb dX10_edited_91 (by decide)) (fun h => ?_) (fun h => ?_)
    · exact b_X10_edited_161 C hk42 hk52 hW (lv_sub hl [0, 1, 2, 3, 4, 5] rfl) h
    · refine lv_aload_n hx hb dX10_edited_94 rfl (lv_at hl 0 rfl) ?_
      obtain ⟨X2, h1, h⟩ := bnd_inv h
      refine r_cV hW (run_V (rest := []) C hW (t_X10_tries h1) mk_X10_tries vk_X10_267 (kd_X10_tries h1) rfl rfl (by decide) ⟨Nat.le_of_ble_eq_true rfl, Nat.le_of_ble_eq_true rfl⟩ ⟨Nat.zero_le _, Nat.zero_le _⟩ rfl rfl (Nat.le_of_ble_eq_true rfl) hl.1 dX10_edited_95) (fun H locs hW => ?_)
      refine lv_aload_n hx hb dX10_edited_98 rfl (lv_at hl 0 rfl) ?_
      refine lv_sipush (v := 931) hx hb dX10_edited_99 (by decide) ?_
      refine lv_iconst (v := 1) hx hb dX10_edited_102 (by decide) ?_
      refine lv_iload hx hb dX10_edited_103 (lv_at hl 4 rfl) ?_
      refine lv_iload hx hb dX10_edited_105 (lv_at hl 5 rfl) ?_
      refine lv_iload hx hb dX10_edited_107 (lv_at hl 6 rfl) ?_
      obtain ⟨v5, X4, h3, h⟩ := bnd2_inv h
      refine r_cI hW (run_V (rest := []) C hW (t_X10_sets h3) mk_X10_sets vk_X10_250 (kd_X10_sets h3) rfl rfl (by decide) ⟨Nat.le_of_ble_eq_true rfl, Nat.le_of_ble_eq_true rfl⟩ ⟨Nat.zero_le _, Nat.zero_le _⟩ rfl rfl (Nat.le_of_ble_eq_true rfl) hl.1 dX10_edited_109) (fun H locs hW => ?_)
      refine r_br h (lv_if_eq (tgt := 155) hx hb dX10_edited_112 (by decide)) (fun h => ?_) (fun h => ?_)
      · exact b_X10_edited_155 C hk42 hk52 (fun hW hl h => ih hW hl h) hW (lv_sub hl [0, 1, 2, 3, 4, 5, 6] rfl) h
      · refine lv_aload_n hx hb dX10_edited_115 rfl (lv_at hl 0 rfl) ?_
        refine lv_sipush (v := 931) hx hb dX10_edited_116 (by decide) ?_
        obtain ⟨v8, X7, h6, h⟩ := bnd2_inv h
        refine r_cI hW (run_V (rest := []) C hW (t_X10_isSeen h6) mk_X10_isSeen vk_X10_421 (kd_X10_isSeen h6) rfl rfl (by decide) ⟨Nat.le_of_ble_eq_true rfl, Nat.le_of_ble_eq_true rfl⟩ ⟨Nat.zero_le _, Nat.zero_le _⟩ rfl rfl (Nat.le_of_ble_eq_true rfl) hl.1 dX10_edited_119) (fun H locs hW => ?_)
        refine r_brn h (lv_if_ne (tgt := 128) hx hb dX10_edited_122 (by decide)) (fun h => ?_) (fun h => ?_)
        · refine lv_iinc (v := (x2 + 1)) (lv' := [(2, .int (x2 + 1)), (0, .ref a), (1, .int x1), (3, .int x3), (4, .int x4), (5, .int x5), (6, .int x6)]) hx hb dX10_edited_128 hl (k := 2) rfl rfl (by decide) rfl (fun ls hl => ?_)
          refine lv_iload_n hx hb dX10_edited_131 rfl (lv_at hl 3 rfl) ?_
          refine lv_iconst (v := (-1)) hx hb dX10_edited_132 (by decide) ?_
          refine r_brn h (lv_icmp_ne (tgt := 155) hx hb dX10_edited_133 (by decide)) (fun h => ?_) (fun h => ?_)
          · exact b_X10_edited_155 C hk42 hk52 (fun hW hl h => ih hW hl h) hW (lv_sub hl [1, 2, 0, 3, 4, 5, 6] rfl) h
          · refine lv_sipush (v := 1000) hx hb dX10_edited_136 (by decide) ?_
            refine lv_iload hx hb dX10_edited_139 (lv_at hl 4 rfl) ?_
            refine lv_imul hx hb dX10_edited_141 ?_
            refine lv_bipush (v := 100) hx hb dX10_edited_142 (by decide) ?_
            refine lv_iload hx hb dX10_edited_144 (lv_at hl 5 rfl) ?_
            refine lv_imul hx hb dX10_edited_146 ?_
            refine lv_iadd hx hb dX10_edited_147 ?_
            refine lv_iload hx hb dX10_edited_148 (lv_at hl 6 rfl) ?_
            refine lv_iadd hx hb dX10_edited_150 ?_
            refine lv_bipush (v := 50) hx hb dX10_edited_151 (by decide) ?_
            refine lv_iadd hx hb dX10_edited_153 ?_
            refine lv_istore_n (lv' := [(3, .int ((((1000 * x4) + (100 * x5)) + x6) + 50)), (2, .int (x2 + 1)), (0, .ref a), (1, .int x1), (4, .int x4), (5, .int x5), (6, .int x6)]) hx hb dX10_edited_154 rfl hl (by decide) rfl (fun ls hl => ?_)
            exact b_X10_edited_155 C hk42 hk52 (fun hW hl h => ih hW hl h) hW (lv_sub hl [2, 3, 1, 0, 4, 5, 6] rfl) h
        · refine lv_goto (tgt := 155) hx hb dX10_edited_125 (by decide) ?_
          exact b_X10_edited_155 C hk42 hk52 (fun hW hl h => ih hW hl h) hW (lv_sub hl [0, 1, 2, 3, 4, 5, 6] rfl) h
set_option maxRecDepth 20000 in
set_option maxHeartbeats 2000000 in
theorem b_X10_edited_52 {k42 : Mx → Int32 → Int32 → Int32 → Option (Int32 × Mx)} {a : Nat} {x1 : Int32} {x4 : Int32} (C : Cx g RX10 cX10_edited 7 (some .int) p s m args meth c) {r : (Int32 × Mx)} (hk42 : ∀ {H' : Heap} {locs' : List Loc} {ls' : Array Slot} {X' : Mx} {x2' : Int32} {x3' : Int32} {x4' : Int32}, Wd g σ X' s H' locs' → lv_has ls' 7 [(0, .ref a), (1, .int x1), (2, .int x2'), (3, .int x3'), (4, .int x4')] → k42 X' x2' x3' x4' = some r → W p l e (rmZ 8 193) s m args below meth c H' locs' 0 0 (QI g σ below args s r) (F0 m 42 ls' [])) : ∀ (n : Nat) {X : Mx} {x2 : Int32} {x3 : Int32} {x5 : Int32} {H : Heap} {locs : List Loc} {ls : Array Slot} (hW : Wd g σ X s H locs) (hl : lv_has ls 7 [(0, .ref a), (1, .int x1), (2, .int x2), (3, .int x3), (4, .int x4), (5, .int x5)]) (h : f_X10_edited_52 k42 σ a x1 x4 n X x2 x3 x5 = some r), W p l e (rmZ 8 193) s m args below meth c H locs 0 0 (QI g σ below args s r) (F0 m 52 ls []) := by
  have hx := C.x
  have hb := C.b
  intro n
  induction n with
  | zero =>
    intro X x2 x3 x5 H locs ls hW hl h
    cases (show none = some r from h)
  | succ n ih =>
    intro X x2 x3 x5 H locs ls hW hl h
    rw [f_X10_edited_52] at h
    refine lv_iload hx hb dX10_edited_52 (lv_at hl 5 rfl) ?_
    refine lv_iconst (v := 5) hx hb dX10_edited_54 (by decide) ?_
    refine r_br h (lv_icmp_ge (tgt := 167) hx hb dX10_edited_55 (by decide)) (fun h => ?_) (fun h => ?_)
    · refine lv_iinc (v := (x4 + 1)) (lv' := [(4, .int (x4 + 1)), (0, .ref a), (1, .int x1), (2, .int x2), (3, .int x3), (5, .int x5)]) hx hb dX10_edited_167 hl (k := 4) rfl rfl (by decide) rfl (fun ls hl => ?_)
      refine lv_goto (tgt := 42) hx hb dX10_edited_170 (by decide) ?_
      exact hk42 hW (lv_sub hl [1, 2, 3, 4, 0] rfl) h
    · refine lv_aload_n hx hb dX10_edited_58 rfl (lv_at hl 0 rfl) ?_
      refine lv_iconst (v := 0) hx hb dX10_edited_59 (by decide) ?_
      refine lv_iconst (v := 2) hx hb dX10_edited_60 (by decide) ?_
      refine lv_iload hx hb dX10_edited_61 (lv_at hl 4 rfl) ?_
      obtain ⟨v2, h1, h⟩ := bnd_inv h
      refine r_cI hW (run_V (rest := []) C hW (t_X10_hasRow h1) mk_X10_hasRow vk_X10_160 (kd_X10_hasRow h1) rfl rfl (by decide) ⟨Nat.le_of_ble_eq_true rfl, Nat.le_of_ble_eq_true rfl⟩ ⟨Nat.zero_le _, Nat.zero_le _⟩ rfl rfl (Nat.le_of_ble_eq_true rfl) hl.1 dX10_edited_63) (fun H locs hW => ?_)
      refine r_br h (lv_if_eq (tgt := 161) hx hb dX10_edited_66 (by decide)) (fun h => ?_) (fun h => ?_)
      · exact b_X10_edited_161 C hk42 (fun hW hl h => ih hW hl h) hW (lv_sub hl [0, 1, 2, 3, 4, 5] rfl) h
      · refine lv_aload_n hx hb dX10_edited_69 rfl (lv_at hl 0 rfl) ?_
        refine lv_iconst (v := 0) hx hb dX10_edited_70 (by decide) ?_
        refine lv_iconst (v := 2) hx hb dX10_edited_71 (by decide) ?_
        refine lv_iload hx hb dX10_edited_72 (lv_at hl 5 rfl) ?_
        obtain ⟨v4, h3, h⟩ := bnd_inv h
        refine r_cI hW (run_V (rest := []) C hW (t_X10_hasColumn h3) mk_X10_hasColumn vk_X10_234 (kd_X10_hasColumn h3) rfl rfl (by decide) ⟨Nat.le_of_ble_eq_true rfl, Nat.le_of_ble_eq_true rfl⟩ ⟨Nat.zero_le _, Nat.zero_le _⟩ rfl rfl (Nat.le_of_ble_eq_true rfl) hl.1 dX10_edited_74) (fun H locs hW => ?_)
        refine r_brn h (lv_if_ne (tgt := 83) hx hb dX10_edited_77 (by decide)) (fun h => ?_) (fun h => ?_)
        · refine lv_bipush (v := (-9)) hx hb dX10_edited_83 (by decide) ?_
          refine lv_istore (lv' := [(6, .int (-9)), (0, .ref a), (1, .int x1), (2, .int x2), (3, .int x3), (4, .int x4), (5, .int x5)]) hx hb dX10_edited_85 hl (by decide) rfl (fun ls hl => ?_)
          exact b_X10_edited_87 C hk42 (fun hW hl h => ih hW hl h) FU hW (lv_sub hl [1, 2, 3, 4, 5, 6, 0] rfl) h
        · refine lv_goto (tgt := 161) hx hb dX10_edited_80 (by decide) ?_
          exact b_X10_edited_161 C hk42 (fun hW hl h => ih hW hl h) hW (lv_sub hl [0, 1, 2, 3, 4, 5] rfl) h
set_option maxRecDepth 20000 in
set_option maxHeartbeats 2000000 in
theorem b_X10_edited_42 {a : Nat} {x1 : Int32} (C : Cx g RX10 cX10_edited 7 (some .int) p s m args meth c) {r : (Int32 × Mx)} : ∀ (n : Nat) {X : Mx} {x2 : Int32} {x3 : Int32} {x4 : Int32} {H : Heap} {locs : List Loc} {ls : Array Slot} (hW : Wd g σ X s H locs) (hl : lv_has ls 7 [(0, .ref a), (1, .int x1), (2, .int x2), (3, .int x3), (4, .int x4)]) (h : f_X10_edited_42 σ a x1 n X x2 x3 x4 = some r), W p l e (rmZ 8 193) s m args below meth c H locs 0 0 (QI g σ below args s r) (F0 m 42 ls []) := by
  have hx := C.x
  have hb := C.b
  intro n
  induction n with
  | zero =>
    intro X x2 x3 x4 H locs ls hW hl h
    cases (show none = some r from h)
  | succ n ih =>
    intro X x2 x3 x4 H locs ls hW hl h
    rw [f_X10_edited_42] at h
    refine lv_iload hx hb dX10_edited_42 (lv_at hl 4 rfl) ?_
    refine lv_bipush (v := 20) hx hb dX10_edited_44 (by decide) ?_
    refine r_br h (lv_icmp_ge (tgt := 173) hx hb dX10_edited_46 (by decide)) (fun h => ?_) (fun h => ?_)
    · refine lv_iload_n hx hb dX10_edited_173 rfl (lv_at hl 1 rfl) ?_
      refine r_brn h (lv_if_ne (tgt := 181) hx hb dX10_edited_174 (by decide)) (fun h => ?_) (fun h => ?_)
      · refine lv_iload_n hx hb dX10_edited_181 rfl (lv_at hl 3 rfl) ?_
        exact r_iret C hW (Option.some.inj h).symm rfl dX10_edited_182
      · refine lv_iload_n hx hb dX10_edited_177 rfl (lv_at hl 2 rfl) ?_
        refine lv_goto (tgt := 182) hx hb dX10_edited_178 (by decide) ?_
        exact r_iret C hW (Option.some.inj h).symm rfl dX10_edited_182
    · refine lv_iconst (v := 0) hx hb dX10_edited_49 (by decide) ?_
      refine lv_istore (lv' := [(5, .int 0), (0, .ref a), (1, .int x1), (2, .int x2), (3, .int x3), (4, .int x4)]) hx hb dX10_edited_50 hl (by decide) rfl (fun ls hl => ?_)
      exact b_X10_edited_52 C (fun hW hl h => ih hW hl h) FU hW (lv_sub hl [1, 2, 3, 4, 5, 0] rfl) h
theorem kd_X10_edited {X : Mx} {r : (Int32 × Mx)} {a : Nat} {x1 : Int32} (h : f_X10_edited σ X a x1 = some r) : shK σ a = 8 := (grd_inv h).1
set_option maxRecDepth 20000 in
set_option maxHeartbeats 2000000 in
theorem t_X10_edited {X : Mx} {r : (Int32 × Mx)} {a : Nat} {x1 : Int32} (h : f_X10_edited σ X a x1 = some r) : MtI g l yX10_edited cX10_edited 7 (some .int) 8 193 [.ref a, .int x1] σ X r := by
  refine met_of mk_X10_edited (Nat.le_of_ble_eq_true rfl) (fun p e s m args below meth c ls C hW hl => ?_)
  have hx := C.x
  have hb := C.b
  have hl : lv_has ls 7 [(0, .ref a), (1, .int x1)] := hl
  unfold f_X10_edited at h
  obtain ⟨hk0, h⟩ := grd_inv h
  refine lv_aload_n hx hb dX10_edited_0 rfl (lv_at hl 0 rfl) ?_
  refine lv_iconst (v := 0) hx hb dX10_edited_1 (by decide) ?_
  refine r_pI C hW h pf_X10_65 (by decide) rfl rfl dX10_edited_2 (fun X1 H locs h hW => ?_)
  refine lv_aload_n hx hb dX10_edited_5 rfl (lv_at hl 0 rfl) ?_
  refine lv_iload_n hx hb dX10_edited_6 rfl (lv_at hl 1 rfl) ?_
  refine lv_iconst (v := 2) hx hb dX10_edited_7 (by decide) ?_
  obtain ⟨v4, X3, h2, h⟩ := bnd2_inv h
  refine r_cI hW (run_V (rest := []) C hW (t_X10_isWhat h2) mk_X10_isWhat vk_X10_375 (kd_X10_isWhat h2) rfl rfl (by decide) ⟨Nat.le_of_ble_eq_true rfl, Nat.le_of_ble_eq_true rfl⟩ ⟨Nat.zero_le _, Nat.zero_le _⟩ rfl rfl (Nat.le_of_ble_eq_true rfl) hl.1 dX10_edited_8) (fun H locs hW => ?_)
  refine r_brn h (lv_if_ne (tgt := 16) hx hb dX10_edited_11 (by decide)) (fun h => ?_) (fun h => ?_)
  · refine lv_iload_n hx hb dX10_edited_16 rfl (lv_at hl 1 rfl) ?_
    refine lv_iconst (v := 2) hx hb dX10_edited_17 (by decide) ?_
    refine r_brn h (lv_icmp_ne (tgt := 35) hx hb dX10_edited_18 (by decide)) (fun h => ?_) (fun h => ?_)
    · refine lv_iconst (v := 0) hx hb dX10_edited_35 (by decide) ?_
      refine lv_istore_n (lv' := [(2, .int 0), (0, .ref a), (1, .int x1)]) hx hb dX10_edited_36 rfl hl (by decide) rfl (fun ls hl => ?_)
      refine lv_iconst (v := (-1)) hx hb dX10_edited_37 (by decide) ?_
      refine lv_istore_n (lv' := [(3, .int (-1)), (2, .int 0), (0, .ref a), (1, .int x1)]) hx hb dX10_edited_38 rfl hl (by decide) rfl (fun ls hl => ?_)
      refine lv_iconst (v := 0) hx hb dX10_edited_39 (by decide) ?_
      refine lv_istore (lv' := [(4, .int 0), (3, .int (-1)), (2, .int 0), (0, .ref a), (1, .int x1)]) hx hb dX10_edited_40 hl (by decide) rfl (fun ls hl => ?_)
      exact b_X10_edited_42 C FU hW (lv_sub hl [3, 4, 2, 1, 0] rfl) h
    · refine lv_aload_n hx hb dX10_edited_21 rfl (lv_at hl 0 rfl) ?_
      refine lv_iconst (v := 0) hx hb dX10_edited_22 (by decide) ?_
      obtain ⟨v7, X6, h5, h⟩ := bnd2_inv h
      refine r_cI hW (run_V (rest := []) C hW (t_X10_isSeen h5) mk_X10_isSeen vk_X10_421 (kd_X10_isSeen h5) rfl rfl (by decide) ⟨Nat.le_of_ble_eq_true rfl, Nat.le_of_ble_eq_true rfl⟩ ⟨Nat.zero_le _, Nat.zero_le _⟩ rfl rfl (Nat.le_of_ble_eq_true rfl) hl.1 dX10_edited_23) (fun H locs hW => ?_)
      refine r_br h (lv_if_eq (tgt := 33) hx hb dX10_edited_26 (by decide)) (fun h => ?_) (fun h => ?_)
      · refine lv_iconst (v := 0) hx hb dX10_edited_33 (by decide) ?_
        exact r_iret C hW (Option.some.inj h).symm rfl dX10_edited_34
      · refine lv_iconst (v := 1) hx hb dX10_edited_29 (by decide) ?_
        refine lv_goto (tgt := 34) hx hb dX10_edited_30 (by decide) ?_
        exact r_iret C hW (Option.some.inj h).symm rfl dX10_edited_34
  · refine lv_iconst (v := 0) hx hb dX10_edited_14 (by decide) ?_
    exact r_iret C hW (Option.some.inj h).symm rfl dX10_edited_15
theorem kd_X10_draw {X : Mx} {r : (Int32 × Mx)} {a : Nat} {x1 : Int32} (h : f_X10_draw σ X a x1 = some r) : shK σ a = 8 := (grd_inv h).1
set_option maxRecDepth 20000 in
set_option maxHeartbeats 2000000 in
theorem t_X10_draw {X : Mx} {r : (Int32 × Mx)} {a : Nat} {x1 : Int32} (h : f_X10_draw σ X a x1 = some r) : MtI g l yX10_draw cX10_draw 2 (some .int) 0 0 [.ref a, .int x1] σ X r := by
  refine met_of mk_X10_draw (Nat.le_of_ble_eq_true rfl) (fun p e s m args below meth c ls C hW hl => ?_)
  have hx := C.x
  have hb := C.b
  have hl : lv_has ls 2 [(0, .ref a), (1, .int x1)] := hl
  unfold f_X10_draw at h
  obtain ⟨hk0, h⟩ := grd_inv h
  refine lv_aload_n hx hb dX10_draw_0 rfl (lv_at hl 0 rfl) ?_
  refine lv_aload_n hx hb dX10_draw_1 rfl (lv_at hl 0 rfl) ?_
  refine r_gI C hW h fl_X10_424 (by decide) dX10_draw_2 (fun v1 h => ?_)
  refine lv_ldcw hx hb C.1.2.2.2.1 (C.1.2.2.2.2 _ ck_X10_427) dX10_draw_5 ?_
  refine lv_imul hx hb dX10_draw_8 ?_
  refine lv_sipush (v := 12345) hx hb dX10_draw_9 (by decide) ?_
  refine lv_iadd hx hb dX10_draw_12 ?_
  refine r_pI C hW h pf_X10_424 (by decide) rfl rfl dX10_draw_13 (fun X2 H locs h hW => ?_)
  refine lv_aload_n hx hb dX10_draw_16 rfl (lv_at hl 0 rfl) ?_
  refine r_gI C hW h fl_X10_424 (by decide) dX10_draw_17 (fun v3 h => ?_)
  refine lv_bipush (v := 16) hx hb dX10_draw_20 (by decide) ?_
  refine lv_ishr hx hb dX10_draw_22 ?_
  refine lv_sipush (v := 32767) hx hb dX10_draw_23 (by decide) ?_
  refine lv_iand hx hb dX10_draw_26 ?_
  refine lv_iload_n hx hb dX10_draw_27 rfl (lv_at hl 1 rfl) ?_
  obtain ⟨hz, h⟩ := grd_inv h
  refine lv_irem hx hb dX10_draw_28 hz ?_
  exact r_iret C hW (Option.some.inj h).symm rfl dX10_draw_29
set_option maxRecDepth 20000 in
set_option maxHeartbeats 2000000 in
theorem b_X10_happens_73 {x3 : Int32} (C : Cx g RX10 cX10_happens 5 (some .boolean) p s m args meth c) {r : (Int32 × Mx)} {X : Mx} {y0 : Nat} {y1 : Int32} {y2 : Int32} {y3 : Int32} (hW : Wd g σ X s H locs) (hl : lv_has ls 5 [(3, .int x3)]) (h : f_X10_happens_73 σ x3 X y0 y1 y2 y3 = some r) : W p l e (rmZ 5 121) s m args below meth c H locs 0 0 (QI g σ below args s r) (F0 m 73 ls [.int y3, .int y2, .int y1, .ref y0]) := by
  have hx := C.x
  have hb := C.b
  unfold f_X10_happens_73 at h
  refine lv_iload_n hx hb dX10_happens_73 rfl (lv_at hl 0 rfl) ?_
  refine lv_iconst (v := 0) hx hb dX10_happens_74 (by decide) ?_
  refine lv_iconst (v := 0) hx hb dX10_happens_75 (by decide) ?_
  obtain ⟨v3, X2, h1, h⟩ := bnd2_inv h
  refine r_cI hW (run_V (rest := []) C hW (t_X10_does h1) mk_X10_does vk_X10_190 (kd_X10_does h1) rfl rfl (by decide) ⟨Nat.le_of_ble_eq_true rfl, Nat.le_of_ble_eq_true rfl⟩ ⟨Nat.zero_le _, Nat.zero_le _⟩ rfl rfl (Nat.le_of_ble_eq_true rfl) hl.1 dX10_happens_76) (fun H locs hW => ?_)
  obtain ⟨hz, h⟩ := grd_inv h
  exact r_iret C hW (Option.some.inj h).symm (zb hz) dX10_happens_79
set_option maxRecDepth 20000 in
set_option maxHeartbeats 2000000 in
theorem b_X10_happens_25 {a : Nat} {x1 : Int32} {x2 : Int32} (C : Cx g RX10 cX10_happens 5 (some .boolean) p s m args meth c) {r : (Int32 × Mx)} {X : Mx} {y0 : Nat} {y1 : Int32} (hW : Wd g σ X s H locs) (hl : lv_has ls 5 [(0, .ref a), (1, .int x1), (2, .int x2)]) (h : f_X10_happens_25 σ a x1 x2 X y0 y1 = some r) : W p l e (rmZ 5 121) s m args below meth c H locs 0 0 (QI g σ below args s r) (F0 m 25 ls [.int y1, .ref y0]) := by
  have hx := C.x
  have hb := C.b
  unfold f_X10_happens_25 at h
  obtain ⟨v3, X2, h1, h⟩ := bnd2_inv h
  refine r_cI hW (run_V (rest := []) C hW (t_X10_draw h1) mk_X10_draw vk_X10_428 (kd_X10_draw h1) rfl rfl (by decide) ⟨Nat.le_of_ble_eq_true rfl, Nat.le_of_ble_eq_true rfl⟩ ⟨Nat.zero_le _, Nat.zero_le _⟩ rfl rfl (Nat.le_of_ble_eq_true rfl) hl.1 dX10_happens_25) (fun H locs hW => ?_)
  refine lv_istore_n (lv' := [(3, .int v3), (0, .ref a), (1, .int x1), (2, .int x2)]) hx hb dX10_happens_28 rfl hl (by decide) rfl (fun ls hl => ?_)
  refine lv_iload_n hx hb dX10_happens_29 rfl (lv_at hl 3 rfl) ?_
  refine lv_iconst (v := 3) hx hb dX10_happens_30 (by decide) ?_
  refine r_brn h (lv_icmp_ne (tgt := 52) hx hb dX10_happens_31 (by decide)) (fun h => ?_) (fun h => ?_)
  · refine lv_iload_n hx hb dX10_happens_52 rfl (lv_at hl 3 rfl) ?_
    refine r_br h (lv_if_le (tgt := 80) hx hb dX10_happens_53 (by decide)) (fun h => ?_) (fun h => ?_)
    · refine lv_aload_n hx hb dX10_happens_80 rfl (lv_at hl 1 rfl) ?_
      refine lv_bipush (v := 9) hx hb dX10_happens_81 (by decide) ?_
      obtain ⟨v6, X5, h4, h⟩ := bnd2_inv h
      refine r_cI hW (run_V (rest := []) C hW (t_X10_draw h4) mk_X10_draw vk_X10_428 (kd_X10_draw h4) rfl rfl (by decide) ⟨Nat.le_of_ble_eq_true rfl, Nat.le_of_ble_eq_true rfl⟩ ⟨Nat.zero_le _, Nat.zero_le _⟩ rfl rfl (Nat.le_of_ble_eq_true rfl) hl.1 dX10_happens_83) (fun H locs hW => ?_)
      refine lv_istore (lv' := [(4, .int v6), (3, .int v3), (0, .ref a), (1, .int x1), (2, .int x2)]) hx hb dX10_happens_86 hl (by decide) rfl (fun ls hl => ?_)
      refine lv_aload_n hx hb dX10_happens_88 rfl (lv_at hl 2 rfl) ?_
      refine lv_sipush (v := 931) hx hb dX10_happens_89 (by decide) ?_
      refine lv_iload_n hx hb dX10_happens_92 rfl (lv_at hl 3 rfl) ?_
      refine lv_bipush (v := 11) hx hb dX10_happens_93 (by decide) ?_
      refine lv_iload_n hx hb dX10_happens_95 rfl (lv_at hl 1 rfl) ?_
      refine lv_iload hx hb dX10_happens_96 (lv_at hl 0 rfl) ?_
      refine lv_aload_n hx hb dX10_happens_98 rfl (lv_at hl 2 rfl) ?_
      refine lv_bipush (v := 10) hx hb dX10_happens_99 (by decide) ?_
      obtain ⟨v9, X8, h7, h⟩ := bnd2_inv h
      refine r_cI hW (run_V (rest := [.int v6, .int v3, .int 11, .int x1, .int 931, .ref a]) C hW (t_X10_draw h7) mk_X10_draw vk_X10_428 (kd_X10_draw h7) rfl rfl (by decide) ⟨Nat.le_of_ble_eq_true rfl, Nat.le_of_ble_eq_true rfl⟩ ⟨Nat.zero_le _, Nat.zero_le _⟩ rfl rfl (Nat.le_of_ble_eq_true rfl) hl.1 dX10_happens_101) (fun H locs hW => ?_)
      obtain ⟨v12, X11, h10, h⟩ := bnd2_inv h
      refine r_cI hW (run_V (rest := []) C hW (t_X10_does h10) mk_X10_does vk_X10_190 (kd_X10_does h10) rfl rfl (by decide) ⟨Nat.le_of_ble_eq_true rfl, Nat.le_of_ble_eq_true rfl⟩ ⟨Nat.zero_le _, Nat.zero_le _⟩ rfl rfl (Nat.le_of_ble_eq_true rfl) hl.1 dX10_happens_104) (fun H locs hW => ?_)
      obtain ⟨hz, h⟩ := grd_inv h
      exact r_iret C hW (Option.some.inj h).symm (zb hz) dX10_happens_107
    · refine lv_aload_n hx hb dX10_happens_56 rfl (lv_at hl 1 rfl) ?_
      refine lv_sipush (v := 931) hx hb dX10_happens_57 (by decide) ?_
      refine lv_iload_n hx hb dX10_happens_60 rfl (lv_at hl 2 rfl) ?_
      refine lv_iload_n hx hb dX10_happens_61 rfl (lv_at hl 3 rfl) ?_
      refine lv_iconst (v := 1) hx hb dX10_happens_62 (by decide) ?_
      refine r_brn h (lv_icmp_ne (tgt := 71) hx hb dX10_happens_63 (by decide)) (fun h => ?_) (fun h => ?_)
      · refine lv_bipush (v := 13) hx hb dX10_happens_71 (by decide) ?_
        exact b_X10_happens_73 C hW (lv_sub hl [0] rfl) h
      · refine lv_bipush (v := 12) hx hb dX10_happens_66 (by decide) ?_
        refine lv_goto (tgt := 73) hx hb dX10_happens_68 (by decide) ?_
        exact b_X10_happens_73 C hW (lv_sub hl [0] rfl) h
  · refine lv_aload_n hx hb dX10_happens_34 rfl (lv_at hl 1 rfl) ?_
    refine lv_sipush (v := 931) hx hb dX10_happens_35 (by decide) ?_
    refine lv_iload_n hx hb dX10_happens_38 rfl (lv_at hl 2 rfl) ?_
    refine lv_bipush (v := 15) hx hb dX10_happens_39 (by decide) ?_
    refine lv_iload_n hx hb dX10_happens_41 rfl (lv_at hl 0 rfl) ?_
    refine lv_aload_n hx hb dX10_happens_42 rfl (lv_at hl 1 rfl) ?_
    refine lv_iconst (v := 4) hx hb dX10_happens_43 (by decide) ?_
    obtain ⟨v15, X14, h13, h⟩ := bnd2_inv h
    refine r_cI hW (run_V (rest := [.int v3, .int 15, .int x1, .int 931, .ref a]) C hW (t_X10_draw h13) mk_X10_draw vk_X10_428 (kd_X10_draw h13) rfl rfl (by decide) ⟨Nat.le_of_ble_eq_true rfl, Nat.le_of_ble_eq_true rfl⟩ ⟨Nat.zero_le _, Nat.zero_le _⟩ rfl rfl (Nat.le_of_ble_eq_true rfl) hl.1 dX10_happens_44) (fun H locs hW => ?_)
    refine lv_iconst (v := 0) hx hb dX10_happens_47 (by decide) ?_
    obtain ⟨v18, X17, h16, h⟩ := bnd2_inv h
    refine r_cI hW (run_V (rest := []) C hW (t_X10_does h16) mk_X10_does vk_X10_190 (kd_X10_does h16) rfl rfl (by decide) ⟨Nat.le_of_ble_eq_true rfl, Nat.le_of_ble_eq_true rfl⟩ ⟨Nat.zero_le _, Nat.zero_le _⟩ rfl rfl (Nat.le_of_ble_eq_true rfl) hl.1 dX10_happens_48) (fun H locs hW => ?_)
    obtain ⟨hz, h⟩ := grd_inv h
    exact r_iret C hW (Option.some.inj h).symm (zb hz) dX10_happens_51
theorem kd_X10_happens {X : Mx} {r : (Int32 × Mx)} {a : Nat} (h : f_X10_happens σ X a = some r) : shK σ a = 8 := (grd_inv h).1
set_option maxRecDepth 20000 in
set_option maxHeartbeats 2000000 in
theorem t_X10_happens {X : Mx} {r : (Int32 × Mx)} {a : Nat} (h : f_X10_happens σ X a = some r) : MtI g l yX10_happens cX10_happens 5 (some .boolean) 5 121 [.ref a] σ X r := by
  refine met_of mk_X10_happens (Nat.le_of_ble_eq_true rfl) (fun p e s m args below meth c ls C hW hl => ?_)
  have hx := C.x
  have hb := C.b
  have hl : lv_has ls 5 [(0, .ref a)] := hl
  unfold f_X10_happens at h
  obtain ⟨hk0, h⟩ := grd_inv h
  refine lv_aload_n hx hb dX10_happens_0 rfl (lv_at hl 0 rfl) ?_
  refine lv_iconst (v := 2) hx hb dX10_happens_1 (by decide) ?_
  obtain ⟨v3, X2, h1, h⟩ := bnd2_inv h
  refine r_cI hW (run_V (rest := []) C hW (t_X10_draw h1) mk_X10_draw vk_X10_428 (kd_X10_draw h1) rfl rfl (by decide) ⟨Nat.le_of_ble_eq_true rfl, Nat.le_of_ble_eq_true rfl⟩ ⟨Nat.zero_le _, Nat.zero_le _⟩ rfl rfl (Nat.le_of_ble_eq_true rfl) hl.1 dX10_happens_2) (fun H locs hW => ?_)
  refine lv_istore_n (lv' := [(1, .int v3), (0, .ref a)]) hx hb dX10_happens_5 rfl hl (by decide) rfl (fun ls hl => ?_)
  refine lv_aload_n hx hb dX10_happens_6 rfl (lv_at hl 1 rfl) ?_
  refine lv_iconst (v := 4) hx hb dX10_happens_7 (by decide) ?_
  obtain ⟨v6, X5, h4, h⟩ := bnd2_inv h
  refine r_cI hW (run_V (rest := []) C hW (t_X10_draw h4) mk_X10_draw vk_X10_428 (kd_X10_draw h4) rfl rfl (by decide) ⟨Nat.le_of_ble_eq_true rfl, Nat.le_of_ble_eq_true rfl⟩ ⟨Nat.zero_le _, Nat.zero_le _⟩ rfl rfl (Nat.le_of_ble_eq_true rfl) hl.1 dX10_happens_8) (fun H locs hW => ?_)
  refine lv_istore_n (lv' := [(2, .int v6), (1, .int v3), (0, .ref a)]) hx hb dX10_happens_11 rfl hl (by decide) rfl (fun ls hl => ?_)
  refine lv_aload_n hx hb dX10_happens_12 rfl (lv_at hl 2 rfl) ?_
  refine lv_iload_n hx hb dX10_happens_13 rfl (lv_at hl 0 rfl) ?_
  refine lv_iconst (v := 3) hx hb dX10_happens_14 (by decide) ?_
  refine r_brn h (lv_icmp_ne (tgt := 23) hx hb dX10_happens_15 (by decide)) (fun h => ?_) (fun h => ?_)
  · refine lv_bipush (v := 20) hx hb dX10_happens_23 (by decide) ?_
    exact b_X10_happens_25 C hW (lv_sub hl [2, 1, 0] rfl) h
  · refine lv_bipush (v := 9) hx hb dX10_happens_18 (by decide) ?_
    refine lv_goto (tgt := 25) hx hb dX10_happens_20 (by decide) ?_
    exact b_X10_happens_25 C hW (lv_sub hl [2, 1, 0] rfl) h
set_option maxRecDepth 20000 in
set_option maxHeartbeats 2000000 in
theorem b_X10_years_66 {k46 : Mx → Int32 → Int32 → Option (Int32 × Mx)} {a : Nat} {x2 : Int32} {x3 : Int32} {x5 : Int32} (C : Cx g RX10 cX10_years 6 (some .int) p s m args meth c) {r : (Int32 × Mx)} {X : Mx} {y0 : Int32} {y1 : Int32} (hk46 : ∀ {H' : Heap} {locs' : List Loc} {ls' : Array Slot} {X' : Mx} {x4' : Int32} {x5' : Int32}, Wd g σ X' s H' locs' → lv_has ls' 6 [(0, .ref a), (2, .int x2), (3, .int x3), (4, .int x4'), (5, .int x5')] → k46 X' x4' x5' = some r → W p l e (rmZ 7 169) s m args below meth c H' locs' 0 0 (QI g σ below args s r) (F0 m 46 ls' [])) (hW : Wd g σ X s H locs) (hl : lv_has ls 6 [(0, .ref a), (2, .int x2), (3, .int x3), (5, .int x5)]) (h : f_X10_years_66 k46 σ a x2 x3 x5 X y0 y1 = some r) : W p l e (rmZ 7 169) s m args below meth c H locs 0 0 (QI g σ below args s r) (F0 m 66 ls [.int y1, .int y0]) := by
  have hx := C.x
  have hb := C.b
  unfold f_X10_years_66 at h
  refine lv_iadd hx hb dX10_years_66 ?_
  refine lv_istore (lv' := [(4, .int (y0 + y1)), (0, .ref a), (2, .int x2), (3, .int x3), (5, .int x5)]) hx hb dX10_years_67 hl (by decide) rfl (fun ls hl => ?_)
  refine lv_iinc (v := (x5 + 1)) (lv' := [(5, .int (x5 + 1)), (4, .int (y0 + y1)), (0, .ref a), (2, .int x2), (3, .int x3)]) hx hb dX10_years_69 hl (k := 4) rfl rfl (by decide) rfl (fun ls hl => ?_)
  refine lv_goto (tgt := 46) hx hb dX10_years_72 (by decide) ?_
  exact hk46 hW (lv_sub hl [2, 3, 4, 1, 0] rfl) h
set_option maxRecDepth 20000 in
set_option maxHeartbeats 2000000 in
theorem b_X10_years_46 {a : Nat} {x2 : Int32} {x3 : Int32} (C : Cx g RX10 cX10_years 6 (some .int) p s m args meth c) {r : (Int32 × Mx)} : ∀ (n : Nat) {X : Mx} {x4 : Int32} {x5 : Int32} {H : Heap} {locs : List Loc} {ls : Array Slot} (hW : Wd g σ X s H locs) (hl : lv_has ls 6 [(0, .ref a), (2, .int x2), (3, .int x3), (4, .int x4), (5, .int x5)]) (h : f_X10_years_46 σ a x2 x3 n X x4 x5 = some r), W p l e (rmZ 7 169) s m args below meth c H locs 0 0 (QI g σ below args s r) (F0 m 46 ls []) := by
  have hx := C.x
  have hb := C.b
  intro n
  induction n with
  | zero =>
    intro X x4 x5 H locs ls hW hl h
    cases (show none = some r from h)
  | succ n ih =>
    intro X x4 x5 H locs ls hW hl h
    rw [f_X10_years_46] at h
    refine lv_iload hx hb dX10_years_46 (lv_at hl 4 rfl) ?_
    refine lv_iload_n hx hb dX10_years_48 rfl (lv_at hl 1 rfl) ?_
    refine r_br h (lv_icmp_ge (tgt := 75) hx hb dX10_years_49 (by decide)) (fun h => ?_) (fun h => ?_)
    · refine lv_aload_n hx hb dX10_years_75 rfl (lv_at hl 0 rfl) ?_
      refine lv_sipush (v := 931) hx hb dX10_years_76 (by decide) ?_
      obtain ⟨X2, h1, h⟩ := bnd_inv h
      refine r_cV hW (run_V (rest := []) C hW (t_X10_merges h1) mk_X10_merges vk_X10_354 (kd_X10_merges h1) rfl rfl (by decide) ⟨Nat.le_of_ble_eq_true rfl, Nat.le_of_ble_eq_true rfl⟩ ⟨Nat.zero_le _, Nat.zero_le _⟩ rfl rfl (Nat.le_of_ble_eq_true rfl) hl.1 dX10_years_79) (fun H locs hW => ?_)
      refine lv_iload_n hx hb dX10_years_82 rfl (lv_at hl 2 rfl) ?_
      refine r_brn h (lv_if_ne (tgt := 91) hx hb dX10_years_83 (by decide)) (fun h => ?_) (fun h => ?_)
      · refine lv_iload_n hx hb dX10_years_91 rfl (lv_at hl 2 rfl) ?_
        refine lv_iconst (v := 1) hx hb dX10_years_92 (by decide) ?_
        refine r_brn h (lv_icmp_ne (tgt := 103) hx hb dX10_years_93 (by decide)) (fun h => ?_) (fun h => ?_)
        · refine lv_aload_n hx hb dX10_years_103 rfl (lv_at hl 0 rfl) ?_
          refine r_gI C hW h fl_X10_323 (by decide) dX10_years_104 (fun v3 h => ?_)
          obtain ⟨v5, h4, h⟩ := bnd_inv h
          refine r_cI hW (run_S (rest := []) C hW (t_X10_bits h4) mk_X10_bits sk_X10_240 ⟨Nat.le_of_ble_eq_true rfl, Nat.le_of_ble_eq_true rfl⟩ ⟨Nat.zero_le _, Nat.zero_le _⟩ rfl rfl (Nat.le_of_ble_eq_true rfl) hl.1 dX10_years_107) (fun H locs hW => ?_)
          exact r_iret C hW (Option.some.inj h).symm rfl dX10_years_110
        · refine lv_aload_n hx hb dX10_years_96 rfl (lv_at hl 0 rfl) ?_
          refine r_gI C hW h fl_X10_282 (by decide) dX10_years_97 (fun v6 h => ?_)
          refine lv_goto (tgt := 110) hx hb dX10_years_100 (by decide) ?_
          exact r_iret C hW (Option.some.inj h).symm rfl dX10_years_110
      · refine lv_iload hx hb dX10_years_86 (lv_at hl 3 rfl) ?_
        refine lv_goto (tgt := 110) hx hb dX10_years_88 (by decide) ?_
        exact r_iret C hW (Option.some.inj h).symm rfl dX10_years_110
    · refine lv_iload hx hb dX10_years_52 (lv_at hl 3 rfl) ?_
      refine lv_aload_n hx hb dX10_years_54 rfl (lv_at hl 0 rfl) ?_
      obtain ⟨v9, X8, h7, h⟩ := bnd2_inv h
      refine r_cI hW (run_V (rest := [.int x4]) C hW (t_X10_happens h7) mk_X10_happens vk_X10_431 (kd_X10_happens h7) rfl rfl (by decide) ⟨Nat.le_of_ble_eq_true rfl, Nat.le_of_ble_eq_true rfl⟩ ⟨Nat.zero_le _, Nat.zero_le _⟩ rfl rfl (Nat.le_of_ble_eq_true rfl) hl.1 dX10_years_55) (fun H locs hW => ?_)
      refine r_br h (lv_if_eq (tgt := 65) hx hb dX10_years_58 (by decide)) (fun h => ?_) (fun h => ?_)
      · refine lv_iconst (v := 0) hx hb dX10_years_65 (by decide) ?_
        exact b_X10_years_66 C (fun hW hl h => ih hW hl h) hW (lv_sub hl [0, 1, 2, 4] rfl) h
      · refine lv_iconst (v := 1) hx hb dX10_years_61 (by decide) ?_
        refine lv_goto (tgt := 66) hx hb dX10_years_62 (by decide) ?_
        exact b_X10_years_66 C (fun hW hl h => ih hW hl h) hW (lv_sub hl [0, 1, 2, 4] rfl) h
theorem kd_X10_years {X : Mx} {r : (Int32 × Mx)} {a : Nat} {x1 : Int32} {x2 : Int32} {x3 : Int32} (h : f_X10_years σ X a x1 x2 x3 = some r) : shK σ a = 8 := (grd_inv h).1
set_option maxRecDepth 20000 in
set_option maxHeartbeats 2000000 in
theorem t_X10_years {X : Mx} {r : (Int32 × Mx)} {a : Nat} {x1 : Int32} {x2 : Int32} {x3 : Int32} (h : f_X10_years σ X a x1 x2 x3 = some r) : MtI g l yX10_years cX10_years 6 (some .int) 7 169 [.ref a, .int x1, .int x2, .int x3] σ X r := by
  refine met_of mk_X10_years (Nat.le_of_ble_eq_true rfl) (fun p e s m args below meth c ls C hW hl => ?_)
  have hx := C.x
  have hb := C.b
  have hl : lv_has ls 6 [(0, .ref a), (1, .int x1), (2, .int x2), (3, .int x3)] := hl
  unfold f_X10_years at h
  obtain ⟨hk0, h⟩ := grd_inv h
  refine lv_aload_n hx hb dX10_years_0 rfl (lv_at hl 0 rfl) ?_
  refine lv_iconst (v := 0) hx hb dX10_years_1 (by decide) ?_
  refine r_pI C hW h pf_X10_65 (by decide) rfl rfl dX10_years_2 (fun X1 H locs h hW => ?_)
  refine lv_aload_n hx hb dX10_years_5 rfl (lv_at hl 0 rfl) ?_
  refine lv_iload_n hx hb dX10_years_6 rfl (lv_at hl 3 rfl) ?_
  refine lv_iconst (v := 2) hx hb dX10_years_7 (by decide) ?_
  obtain ⟨v4, X3, h2, h⟩ := bnd2_inv h
  refine r_cI hW (run_V (rest := []) C hW (t_X10_isWhat h2) mk_X10_isWhat vk_X10_375 (kd_X10_isWhat h2) rfl rfl (by decide) ⟨Nat.le_of_ble_eq_true rfl, Nat.le_of_ble_eq_true rfl⟩ ⟨Nat.zero_le _, Nat.zero_le _⟩ rfl rfl (Nat.le_of_ble_eq_true rfl) hl.1 dX10_years_8) (fun H locs hW => ?_)
  refine r_br h (lv_if_eq (tgt := 29) hx hb dX10_years_11 (by decide)) (fun h => ?_) (fun h => ?_)
  · refine lv_iconst (v := 0) hx hb dX10_years_29 (by decide) ?_
    exact r_iret C hW (Option.some.inj h).symm rfl dX10_years_30
  · refine lv_aload_n hx hb dX10_years_14 rfl (lv_at hl 0 rfl) ?_
    refine lv_iload_n hx hb dX10_years_15 rfl (lv_at hl 2 rfl) ?_
    refine lv_iconst (v := 0) hx hb dX10_years_16 (by decide) ?_
    refine lv_bipush (v := 60) hx hb dX10_years_17 (by decide) ?_
    refine r_cI hW (run_S (rest := [.ref a]) C hW (t_X10_within (X := X3)) mk_X10_within sk_X10_231 ⟨Nat.le_of_ble_eq_true rfl, Nat.le_of_ble_eq_true rfl⟩ ⟨Nat.zero_le _, Nat.zero_le _⟩ rfl rfl (Nat.le_of_ble_eq_true rfl) hl.1 dX10_years_19) (fun H locs hW => ?_)
    refine lv_iconst (v := 2) hx hb dX10_years_22 (by decide) ?_
    obtain ⟨v7, X6, h5, h⟩ := bnd2_inv h
    refine r_cI hW (run_V (rest := []) C hW (t_X10_right h5) mk_X10_right vk_X10_214 (kd_X10_right h5) rfl rfl (by decide) ⟨Nat.le_of_ble_eq_true rfl, Nat.le_of_ble_eq_true rfl⟩ ⟨Nat.zero_le _, Nat.zero_le _⟩ rfl rfl (Nat.le_of_ble_eq_true rfl) hl.1 dX10_years_23) (fun H locs hW => ?_)
    refine r_brn h (lv_if_ne (tgt := 31) hx hb dX10_years_26 (by decide)) (fun h => ?_) (fun h => ?_)
    · refine lv_aload_n hx hb dX10_years_31 rfl (lv_at hl 0 rfl) ?_
      obtain ⟨X9, h8, h⟩ := bnd_inv h
      refine r_cV hW (run_V (rest := []) C hW (t_X10_tries h8) mk_X10_tries vk_X10_267 (kd_X10_tries h8) rfl rfl (by decide) ⟨Nat.le_of_ble_eq_true rfl, Nat.le_of_ble_eq_true rfl⟩ ⟨Nat.zero_le _, Nat.zero_le _⟩ rfl rfl (Nat.le_of_ble_eq_true rfl) hl.1 dX10_years_32) (fun H locs hW => ?_)
      refine lv_aload_n hx hb dX10_years_35 rfl (lv_at hl 0 rfl) ?_
      refine lv_iload_n hx hb dX10_years_36 rfl (lv_at hl 1 rfl) ?_
      refine r_pI C hW h pf_X10_424 (by decide) rfl rfl dX10_years_37 (fun X10 H locs h hW => ?_)
      refine lv_iconst (v := 0) hx hb dX10_years_40 (by decide) ?_
      refine lv_istore (lv' := [(4, .int 0), (0, .ref a), (1, .int x1), (2, .int x2), (3, .int x3)]) hx hb dX10_years_41 hl (by decide) rfl (fun ls hl => ?_)
      refine lv_iconst (v := 0) hx hb dX10_years_43 (by decide) ?_
      refine lv_istore (lv' := [(5, .int 0), (4, .int 0), (0, .ref a), (1, .int x1), (2, .int x2), (3, .int x3)]) hx hb dX10_years_44 hl (by decide) rfl (fun ls hl => ?_)
      exact b_X10_years_46 C FU hW (lv_sub hl [2, 4, 5, 1, 0] rfl) h
    · refine lv_iconst (v := 0) hx hb dX10_years_29 (by decide) ?_
      exact r_iret C hW (Option.some.inj h).symm rfl dX10_years_30
set_option maxRecDepth 20000 in
set_option maxHeartbeats 2000000 in
theorem b_X10_copies_2 {a1 : Nat} {a2 : Nat} (C : Cx g RX10 cX10_copies 4 none p s m args meth c) {r : Mx} : ∀ (n : Nat) {X : Mx} {x3 : Int32} {H : Heap} {locs : List Loc} {ls : Array Slot} (hW : Wd g σ X s H locs) (hl : lv_has ls 4 [(1, .ref a1), (2, .ref a2), (3, .int x3)]) (h : f_X10_copies_2 σ a1 a2 n X x3 = some r), W p l e (rmZ 0 0) s m args below meth c H locs 0 0 (QV g σ below args s r) (F0 m 2 ls []) := by
  have hx := C.x
  have hb := C.b
  intro n
  induction n with
  | zero =>
    intro X x3 H locs ls hW hl h
    cases (show none = some r from h)
  | succ n ih =>
    intro X x3 H locs ls hW hl h
    rw [f_X10_copies_2] at h
    refine lv_iload_n hx hb dX10_copies_2 rfl (lv_at hl 2 rfl) ?_
    refine lv_aload_n hx hb dX10_copies_3 rfl (lv_at hl 0 rfl) ?_
    refine r_alenI C hW h dX10_copies_4 (fun v1 h => ?_)
    refine r_br h (lv_icmp_ge (tgt := 20) hx hb dX10_copies_5 (by decide)) (fun h => ?_) (fun h => ?_)
    · exact r_vret C hW (Option.some.inj h).symm dX10_copies_20
    · refine lv_aload_n hx hb dX10_copies_8 rfl (lv_at hl 1 rfl) ?_
      refine lv_iload_n hx hb dX10_copies_9 rfl (lv_at hl 2 rfl) ?_
      refine lv_aload_n hx hb dX10_copies_10 rfl (lv_at hl 0 rfl) ?_
      refine lv_iload_n hx hb dX10_copies_11 rfl (lv_at hl 2 rfl) ?_
      refine r_iald C hW h dX10_copies_12 (fun v2 h => ?_)
      refine r_iast C hW h dX10_copies_13 (fun X3 H locs h hW => ?_)
      refine lv_iinc (v := (x3 + 1)) (lv' := [(3, .int (x3 + 1)), (1, .ref a1), (2, .ref a2)]) hx hb dX10_copies_14 hl (k := 2) rfl rfl (by decide) rfl (fun ls hl => ?_)
      refine lv_goto (tgt := 2) hx hb dX10_copies_17 (by decide) ?_
      exact ih hW (lv_sub hl [1, 2, 0] rfl) h
theorem kd_X10_copies {X : Mx} {r : Mx} {a : Nat} {a1 : Nat} {a2 : Nat} (h : f_X10_copies σ X a a1 a2 = some r) : shK σ a = 8 := (grd_inv h).1
set_option maxRecDepth 20000 in
set_option maxHeartbeats 2000000 in
theorem t_X10_copies {X : Mx} {r : Mx} {a : Nat} {a1 : Nat} {a2 : Nat} (h : f_X10_copies σ X a a1 a2 = some r) : MtV g l yX10_copies cX10_copies 4 none 0 0 [.ref a, .ref a1, .ref a2] σ X r := by
  refine met_of mk_X10_copies (Nat.le_of_ble_eq_true rfl) (fun p e s m args below meth c ls C hW hl => ?_)
  have hx := C.x
  have hb := C.b
  have hl : lv_has ls 4 [(0, .ref a), (1, .ref a1), (2, .ref a2)] := hl
  unfold f_X10_copies at h
  obtain ⟨hk0, h⟩ := grd_inv h
  refine lv_iconst (v := 0) hx hb dX10_copies_0 (by decide) ?_
  refine lv_istore_n (lv' := [(3, .int 0), (0, .ref a), (1, .ref a1), (2, .ref a2)]) hx hb dX10_copies_1 rfl hl (by decide) rfl (fun ls hl => ?_)
  exact b_X10_copies_2 C FU hW (lv_sub hl [2, 3, 0] rfl) h
set_option maxRecDepth 20000 in
set_option maxHeartbeats 2000000 in
theorem b_X10_image_28 {a : Nat} (C : Cx g RX10 cX10_image 2 none p s m args meth c) {r : Mx} : ∀ (n : Nat) {X : Mx} {x1 : Int32} {H : Heap} {locs : List Loc} {ls : Array Slot} (hW : Wd g σ X s H locs) (hl : lv_has ls 2 [(0, .ref a), (1, .int x1)]) (h : f_X10_image_28 σ a n X x1 = some r), W p l e (rmZ 1 23) s m args below meth c H locs 0 0 (QV g σ below args s r) (F0 m 28 ls []) := by
  have hx := C.x
  have hb := C.b
  intro n
  induction n with
  | zero =>
    intro X x1 H locs ls hW hl h
    cases (show none = some r from h)
  | succ n ih =>
    intro X x1 H locs ls hW hl h
    rw [f_X10_image_28] at h
    refine lv_iload_n hx hb dX10_image_28 rfl (lv_at hl 1 rfl) ?_
    refine lv_sipush (v := 931) hx hb dX10_image_29 (by decide) ?_
    refine r_br h (lv_icmp_ge (tgt := 53) hx hb dX10_image_32 (by decide)) (fun h => ?_) (fun h => ?_)
    · refine lv_aload_n hx hb dX10_image_53 rfl (lv_at hl 0 rfl) ?_
      refine lv_aload_n hx hb dX10_image_54 rfl (lv_at hl 0 rfl) ?_
      refine r_gR C hW h fl_X10_23 (by decide) dX10_image_55 (fun b1 h => ?_)
      refine lv_aload_n hx hb dX10_image_58 rfl (lv_at hl 0 rfl) ?_
      refine r_gR C hW h fl_X10_59 (by decide) dX10_image_59 (fun b2 h => ?_)
      obtain ⟨X4, h3, h⟩ := bnd_inv h
      refine r_cV hW (run_V (rest := []) C hW (t_X10_copies h3) mk_X10_copies vk_X10_440 (kd_X10_copies h3) rfl rfl (by decide) ⟨Nat.le_of_ble_eq_true rfl, Nat.le_of_ble_eq_true rfl⟩ ⟨Nat.zero_le _, Nat.zero_le _⟩ rfl rfl (Nat.le_of_ble_eq_true rfl) hl.1 dX10_image_62) (fun H locs hW => ?_)
      refine lv_aload_n hx hb dX10_image_65 rfl (lv_at hl 0 rfl) ?_
      refine lv_aload_n hx hb dX10_image_66 rfl (lv_at hl 0 rfl) ?_
      refine r_gR C hW h fl_X10_53 (by decide) dX10_image_67 (fun b5 h => ?_)
      refine lv_aload_n hx hb dX10_image_70 rfl (lv_at hl 0 rfl) ?_
      refine r_gR C hW h fl_X10_62 (by decide) dX10_image_71 (fun b6 h => ?_)
      obtain ⟨X8, h7, h⟩ := bnd_inv h
      refine r_cV hW (run_V (rest := []) C hW (t_X10_copies h7) mk_X10_copies vk_X10_440 (kd_X10_copies h7) rfl rfl (by decide) ⟨Nat.le_of_ble_eq_true rfl, Nat.le_of_ble_eq_true rfl⟩ ⟨Nat.zero_le _, Nat.zero_le _⟩ rfl rfl (Nat.le_of_ble_eq_true rfl) hl.1 dX10_image_74) (fun H locs hW => ?_)
      exact r_vret C hW (Option.some.inj h).symm dX10_image_77
    · refine lv_aload_n hx hb dX10_image_35 rfl (lv_at hl 0 rfl) ?_
      refine r_gR C hW h fl_X10_56 (by decide) dX10_image_36 (fun b9 h => ?_)
      refine lv_iload_n hx hb dX10_image_39 rfl (lv_at hl 1 rfl) ?_
      refine lv_aload_n hx hb dX10_image_40 rfl (lv_at hl 0 rfl) ?_
      refine r_gR C hW h fl_X10_20 (by decide) dX10_image_41 (fun b10 h => ?_)
      refine lv_iload_n hx hb dX10_image_44 rfl (lv_at hl 1 rfl) ?_
      refine r_iald C hW h dX10_image_45 (fun v11 h => ?_)
      refine r_iast C hW h dX10_image_46 (fun X12 H locs h hW => ?_)
      refine lv_iinc (v := (x1 + 1)) (lv' := [(1, .int (x1 + 1)), (0, .ref a)]) hx hb dX10_image_47 hl (k := 1) rfl rfl (by decide) rfl (fun ls hl => ?_)
      refine lv_goto (tgt := 28) hx hb dX10_image_50 (by decide) ?_
      exact ih hW (lv_sub hl [1, 0] rfl) h
theorem kd_X10_image {X : Mx} {r : Mx} {a : Nat} (h : f_X10_image σ X a = some r) : shK σ a = 8 := (grd_inv h).1
set_option maxRecDepth 20000 in
set_option maxHeartbeats 2000000 in
theorem t_X10_image {X : Mx} {r : Mx} {a : Nat} (h : f_X10_image σ X a = some r) : MtV g l yX10_image cX10_image 2 none 1 23 [.ref a] σ X r := by
  refine met_of mk_X10_image (Nat.le_of_ble_eq_true rfl) (fun p e s m args below meth c ls C hW hl => ?_)
  have hx := C.x
  have hb := C.b
  have hl : lv_has ls 2 [(0, .ref a)] := hl
  unfold f_X10_image at h
  obtain ⟨hk0, h⟩ := grd_inv h
  refine lv_aload_n hx hb dX10_image_0 rfl (lv_at hl 0 rfl) ?_
  refine lv_iconst (v := 0) hx hb dX10_image_1 (by decide) ?_
  refine r_pI C hW h pf_X10_65 (by decide) rfl rfl dX10_image_2 (fun X1 H locs h hW => ?_)
  refine lv_aload_n hx hb dX10_image_5 rfl (lv_at hl 0 rfl) ?_
  refine lv_iconst (v := 1) hx hb dX10_image_6 (by decide) ?_
  refine r_pI C hW h pf_X10_227 (by decide) rfl rfl dX10_image_7 (fun X2 H locs h hW => ?_)
  refine lv_aload_n hx hb dX10_image_10 rfl (lv_at hl 0 rfl) ?_
  refine lv_aload_n hx hb dX10_image_11 rfl (lv_at hl 0 rfl) ?_
  refine r_gI C hW h fl_X10_221 (by decide) dX10_image_12 (fun v3 h => ?_)
  refine r_pI C hW h pf_X10_434 (by decide) rfl rfl dX10_image_15 (fun X4 H locs h hW => ?_)
  refine lv_aload_n hx hb dX10_image_18 rfl (lv_at hl 0 rfl) ?_
  refine lv_aload_n hx hb dX10_image_19 rfl (lv_at hl 0 rfl) ?_
  refine r_gI C hW h fl_X10_224 (by decide) dX10_image_20 (fun v5 h => ?_)
  refine r_pI C hW h pf_X10_437 (by decide) rfl rfl dX10_image_23 (fun X6 H locs h hW => ?_)
  refine lv_iconst (v := 0) hx hb dX10_image_26 (by decide) ?_
  refine lv_istore_n (lv' := [(1, .int 0), (0, .ref a)]) hx hb dX10_image_27 rfl hl (by decide) rfl (fun ls hl => ?_)
  exact b_X10_image_28 C FU hW (lv_sub hl [1, 0] rfl) h
set_option maxRecDepth 20000 in
set_option maxHeartbeats 2000000 in
theorem b_X10_restore_32 {a : Nat} (C : Cx g RX10 cX10_restore 2 (some .boolean) p s m args meth c) {r : (Int32 × Mx)} : ∀ (n : Nat) {X : Mx} {x1 : Int32} {H : Heap} {locs : List Loc} {ls : Array Slot} (hW : Wd g σ X s H locs) (hl : lv_has ls 2 [(0, .ref a), (1, .int x1)]) (h : f_X10_restore_32 σ a n X x1 = some r), W p l e (rmZ 1 23) s m args below meth c H locs 0 0 (QI g σ below args s r) (F0 m 32 ls []) := by
  have hx := C.x
  have hb := C.b
  intro n
  induction n with
  | zero =>
    intro X x1 H locs ls hW hl h
    cases (show none = some r from h)
  | succ n ih =>
    intro X x1 H locs ls hW hl h
    rw [f_X10_restore_32] at h
    refine lv_iload_n hx hb dX10_restore_32 rfl (lv_at hl 1 rfl) ?_
    refine lv_sipush (v := 931) hx hb dX10_restore_33 (by decide) ?_
    refine r_br h (lv_icmp_ge (tgt := 57) hx hb dX10_restore_36 (by decide)) (fun h => ?_) (fun h => ?_)
    · refine lv_aload_n hx hb dX10_restore_57 rfl (lv_at hl 0 rfl) ?_
      refine lv_aload_n hx hb dX10_restore_58 rfl (lv_at hl 0 rfl) ?_
      refine r_gR C hW h fl_X10_59 (by decide) dX10_restore_59 (fun b1 h => ?_)
      refine lv_aload_n hx hb dX10_restore_62 rfl (lv_at hl 0 rfl) ?_
      refine r_gR C hW h fl_X10_23 (by decide) dX10_restore_63 (fun b2 h => ?_)
      obtain ⟨X4, h3, h⟩ := bnd_inv h
      refine r_cV hW (run_V (rest := []) C hW (t_X10_copies h3) mk_X10_copies vk_X10_440 (kd_X10_copies h3) rfl rfl (by decide) ⟨Nat.le_of_ble_eq_true rfl, Nat.le_of_ble_eq_true rfl⟩ ⟨Nat.zero_le _, Nat.zero_le _⟩ rfl rfl (Nat.le_of_ble_eq_true rfl) hl.1 dX10_restore_66) (fun H locs hW => ?_)
      refine lv_aload_n hx hb dX10_restore_69 rfl (lv_at hl 0 rfl) ?_
      refine lv_aload_n hx hb dX10_restore_70 rfl (lv_at hl 0 rfl) ?_
      refine r_gR C hW h fl_X10_62 (by decide) dX10_restore_71 (fun b5 h => ?_)
      refine lv_aload_n hx hb dX10_restore_74 rfl (lv_at hl 0 rfl) ?_
      refine r_gR C hW h fl_X10_53 (by decide) dX10_restore_75 (fun b6 h => ?_)
      obtain ⟨X8, h7, h⟩ := bnd_inv h
      refine r_cV hW (run_V (rest := []) C hW (t_X10_copies h7) mk_X10_copies vk_X10_440 (kd_X10_copies h7) rfl rfl (by decide) ⟨Nat.le_of_ble_eq_true rfl, Nat.le_of_ble_eq_true rfl⟩ ⟨Nat.zero_le _, Nat.zero_le _⟩ rfl rfl (Nat.le_of_ble_eq_true rfl) hl.1 dX10_restore_78) (fun H locs hW => ?_)
      refine lv_iconst (v := 1) hx hb dX10_restore_81 (by decide) ?_
      exact r_iret C hW (Option.some.inj h).symm rfl dX10_restore_82
    · refine lv_aload_n hx hb dX10_restore_39 rfl (lv_at hl 0 rfl) ?_
      refine r_gR C hW h fl_X10_20 (by decide) dX10_restore_40 (fun b9 h => ?_)
      refine lv_iload_n hx hb dX10_restore_43 rfl (lv_at hl 1 rfl) ?_
      refine lv_aload_n hx hb dX10_restore_44 rfl (lv_at hl 0 rfl) ?_
      refine r_gR C hW h fl_X10_56 (by decide) dX10_restore_45 (fun b10 h => ?_)
      refine lv_iload_n hx hb dX10_restore_48 rfl (lv_at hl 1 rfl) ?_
      refine r_iald C hW h dX10_restore_49 (fun v11 h => ?_)
      refine r_iast C hW h dX10_restore_50 (fun X12 H locs h hW => ?_)
      refine lv_iinc (v := (x1 + 1)) (lv' := [(1, .int (x1 + 1)), (0, .ref a)]) hx hb dX10_restore_51 hl (k := 1) rfl rfl (by decide) rfl (fun ls hl => ?_)
      refine lv_goto (tgt := 32) hx hb dX10_restore_54 (by decide) ?_
      exact ih hW (lv_sub hl [1, 0] rfl) h
theorem kd_X10_restore {X : Mx} {r : (Int32 × Mx)} {a : Nat} (h : f_X10_restore σ X a = some r) : shK σ a = 8 := (grd_inv h).1
set_option maxRecDepth 20000 in
set_option maxHeartbeats 2000000 in
theorem t_X10_restore {X : Mx} {r : (Int32 × Mx)} {a : Nat} (h : f_X10_restore σ X a = some r) : MtI g l yX10_restore cX10_restore 2 (some .boolean) 1 23 [.ref a] σ X r := by
  refine met_of mk_X10_restore (Nat.le_of_ble_eq_true rfl) (fun p e s m args below meth c ls C hW hl => ?_)
  have hx := C.x
  have hb := C.b
  have hl : lv_has ls 2 [(0, .ref a)] := hl
  unfold f_X10_restore at h
  obtain ⟨hk0, h⟩ := grd_inv h
  refine lv_aload_n hx hb dX10_restore_0 rfl (lv_at hl 0 rfl) ?_
  refine lv_iconst (v := 0) hx hb dX10_restore_1 (by decide) ?_
  refine r_pI C hW h pf_X10_65 (by decide) rfl rfl dX10_restore_2 (fun X1 H locs h hW => ?_)
  refine lv_aload_n hx hb dX10_restore_5 rfl (lv_at hl 0 rfl) ?_
  refine r_gI C hW h fl_X10_227 (by decide) dX10_restore_6 (fun v2 h => ?_)
  refine r_brn h (lv_if_ne (tgt := 14) hx hb dX10_restore_9 (by decide)) (fun h => ?_) (fun h => ?_)
  · refine lv_aload_n hx hb dX10_restore_14 rfl (lv_at hl 0 rfl) ?_
    refine lv_aload_n hx hb dX10_restore_15 rfl (lv_at hl 0 rfl) ?_
    refine r_gI C hW h fl_X10_434 (by decide) dX10_restore_16 (fun v3 h => ?_)
    refine r_pI C hW h pf_X10_221 (by decide) rfl rfl dX10_restore_19 (fun X4 H locs h hW => ?_)
    refine lv_aload_n hx hb dX10_restore_22 rfl (lv_at hl 0 rfl) ?_
    refine lv_aload_n hx hb dX10_restore_23 rfl (lv_at hl 0 rfl) ?_
    refine r_gI C hW h fl_X10_437 (by decide) dX10_restore_24 (fun v5 h => ?_)
    refine r_pI C hW h pf_X10_224 (by decide) rfl rfl dX10_restore_27 (fun X6 H locs h hW => ?_)
    refine lv_iconst (v := 0) hx hb dX10_restore_30 (by decide) ?_
    refine lv_istore_n (lv' := [(1, .int 0), (0, .ref a)]) hx hb dX10_restore_31 rfl hl (by decide) rfl (fun ls hl => ?_)
    exact b_X10_restore_32 C FU hW (lv_sub hl [1, 0] rfl) h
  · refine lv_iconst (v := 0) hx hb dX10_restore_12 (by decide) ?_
    exact r_iret C hW (Option.some.inj h).symm rfl dX10_restore_13
set_option maxRecDepth 20000 in
set_option maxHeartbeats 2000000 in
theorem t_J2_length_9d52b {X : Mx} {r : Int32} {a0 : Nat} (h : f_J2_length_9d52b σ X a0 = some r) : MtI g l yJ2_length_9d52b cJ2_length_9d52b 1 (some .int) 0 0 [.ref a0] σ X (r, X) := by
  refine met_of mk_J2_length_9d52b (Nat.le_of_ble_eq_true rfl) (fun p e s m args below meth c ls C hW hl => ?_)
  have hx := C.x
  have hb := C.b
  have hl : lv_has ls 1 [(0, .ref a0)] := hl
  unfold f_J2_length_9d52b at h
  refine lv_aload_n hx hb dJ2_length_9d52b_0 rfl (lv_at hl 0 rfl) ?_
  refine r_alenI C hW h dJ2_length_9d52b_1 (fun v1 h => ?_)
  refine lv_iconst (v := 1) hx hb dJ2_length_9d52b_2 (by decide) ?_
  refine lv_ishr hx hb dJ2_length_9d52b_3 ?_
  exact r_iret C hW (rt_R h) rfl dJ2_length_9d52b_4
end
