section
variable {p : Program} {l : Launch} {e : Env} {s : State} {m : MethodId} {args : Array Value} {below : List Frame} {meth : Method} {c : Code} {H : Heap} {locs : List Loc} {g : Gp} {σ : Sh} {ls : Array Slot}
theorem kd_X10_mergesCell {X : Mx} {r : Mx} {a : Nat} {x1 : Int32} {x2 : Int32} {x3 : Int32} (h : f_X10_mergesCell σ X a x1 x2 x3 = some r) : shK σ a = 8 := (grd_inv h).1
set_option maxRecDepth 20000 in
set_option maxHeartbeats 2000000 in
theorem t_X10_mergesCell {X : Mx} {r : Mx} {a : Nat} {x1 : Int32} {x2 : Int32} {x3 : Int32} (h : f_X10_mergesCell σ X a x1 x2 x3 = some r) : MtV g l yX10_mergesCell cX10_mergesCell 10 none 5 117 [.ref a, .int x1, .int x2, .int x3] σ X r := by
  refine met_of mk_X10_mergesCell (Nat.le_of_ble_eq_true rfl) (fun p e s m args below meth c ls C hW hl => ?_)
  have hx := C.x
  have hb := C.b
  have hl : lv_has ls 10 [(0, .ref a), (1, .int x1), (2, .int x2), (3, .int x3)] := hl
  unfold f_X10_mergesCell at h
  obtain ⟨hk0, h⟩ := grd_inv h
  refine lv_bipush (v := 9) hx hb dX10_mergesCell_0 (by decide) ?_
  refine lv_iload_n hx hb dX10_mergesCell_2 rfl (lv_at hl 2 rfl) ?_
  refine lv_imul hx hb dX10_mergesCell_3 ?_
  refine lv_iload_n hx hb dX10_mergesCell_4 rfl (lv_at hl 3 rfl) ?_
  refine lv_iadd hx hb dX10_mergesCell_5 ?_
  refine lv_istore (lv' := [(4, .int ((9 * x2) + x3)), (0, .ref a), (1, .int x1), (2, .int x2), (3, .int x3)]) hx hb dX10_mergesCell_6 hl (by decide) rfl (fun ls hl => ?_)
  refine lv_aload_n hx hb dX10_mergesCell_8 rfl (lv_at hl 1 rfl) ?_
  refine lv_iload_n hx hb dX10_mergesCell_9 rfl (lv_at hl 2 rfl) ?_
  refine lv_iconst (v := 0) hx hb dX10_mergesCell_10 (by decide) ?_
  refine lv_iload_n hx hb dX10_mergesCell_11 rfl (lv_at hl 3 rfl) ?_
  refine lv_iload_n hx hb dX10_mergesCell_12 rfl (lv_at hl 4 rfl) ?_
  obtain ⟨v2, h1, h⟩ := bnd_inv h
  refine r_cI hW (run_V (rest := []) C hW (t_X10_isChangedAt h1) mk_X10_isChangedAt vk_X10_317 (kd_X10_isChangedAt h1) rfl rfl (by decide) ⟨Nat.le_of_ble_eq_true rfl, Nat.le_of_ble_eq_true rfl⟩ ⟨Nat.zero_le _, Nat.zero_le _⟩ rfl rfl (Nat.le_of_ble_eq_true rfl) hl.1 dX10_mergesCell_13) (fun H locs hW _ => ?_)
  refine lv_istore (lv' := [(5, .int v2), (4, .int ((9 * x2) + x3)), (0, .ref a), (1, .int x1), (2, .int x2), (3, .int x3)]) hx hb dX10_mergesCell_16 hl (by decide) rfl (fun ls hl => ?_)
  refine lv_aload_n hx hb dX10_mergesCell_18 rfl (lv_at hl 2 rfl) ?_
  refine lv_iload_n hx hb dX10_mergesCell_19 rfl (lv_at hl 3 rfl) ?_
  refine lv_iconst (v := 1) hx hb dX10_mergesCell_20 (by decide) ?_
  refine lv_iload_n hx hb dX10_mergesCell_21 rfl (lv_at hl 4 rfl) ?_
  refine lv_iload_n hx hb dX10_mergesCell_22 rfl (lv_at hl 5 rfl) ?_
  obtain ⟨v4, h3, h⟩ := bnd_inv h
  refine r_cI hW (run_V (rest := []) C hW (t_X10_isChangedAt h3) mk_X10_isChangedAt vk_X10_317 (kd_X10_isChangedAt h3) rfl rfl (by decide) ⟨Nat.le_of_ble_eq_true rfl, Nat.le_of_ble_eq_true rfl⟩ ⟨Nat.zero_le _, Nat.zero_le _⟩ rfl rfl (Nat.le_of_ble_eq_true rfl) hl.1 dX10_mergesCell_23) (fun H locs hW _ => ?_)
  refine lv_istore (lv' := [(6, .int v4), (5, .int v2), (4, .int ((9 * x2) + x3)), (0, .ref a), (1, .int x1), (2, .int x2), (3, .int x3)]) hx hb dX10_mergesCell_26 hl (by decide) rfl (fun ls hl => ?_)
  refine lv_aload_n hx hb dX10_mergesCell_28 rfl (lv_at hl 3 rfl) ?_
  refine r_gR C hW h fl_X10_32 (by decide) dX10_mergesCell_29 (fun b5 h => ?_)
  refine lv_iload hx hb dX10_mergesCell_32 (lv_at hl 2 rfl) ?_
  refine lv_aload_n hx hb dX10_mergesCell_34 rfl (lv_at hl 3 rfl) ?_
  refine r_gR C hW h fl_X10_29 (by decide) dX10_mergesCell_35 (fun b6 h => ?_)
  refine lv_iload_n hx hb dX10_mergesCell_38 rfl (lv_at hl 6 rfl) ?_
  refine r_iald C hW h dX10_mergesCell_39 (fun v7 h => ?_)
  refine lv_aload_n hx hb dX10_mergesCell_40 rfl (lv_at hl 3 rfl) ?_
  refine lv_iload_n hx hb dX10_mergesCell_41 rfl (lv_at hl 4 rfl) ?_
  refine lv_iload_n hx hb dX10_mergesCell_42 rfl (lv_at hl 5 rfl) ?_
  refine lv_iload_n hx hb dX10_mergesCell_43 rfl (lv_at hl 6 rfl) ?_
  obtain ⟨v9, h8, h⟩ := bnd_inv h
  refine r_cI hW (run_V (rest := [.int v7, .int ((9 * x2) + x3), .ref b5]) C hW (t_X10_baseCell h8) mk_X10_baseCell vk_X10_285 (kd_X10_baseCell h8) rfl rfl (by decide) ⟨Nat.le_of_ble_eq_true rfl, Nat.le_of_ble_eq_true rfl⟩ ⟨Nat.zero_le _, Nat.zero_le _⟩ rfl rfl (Nat.le_of_ble_eq_true rfl) hl.1 dX10_mergesCell_44) (fun H locs hW _ => ?_)
  refine r_cI hW (run_S (rest := [.int ((9 * x2) + x3), .ref b5]) C hW (t_X10_castTo (X := X)) mk_X10_castTo sk_X10_243 ⟨Nat.le_of_ble_eq_true rfl, Nat.le_of_ble_eq_true rfl⟩ ⟨Nat.zero_le _, Nat.zero_le _⟩ rfl rfl (Nat.le_of_ble_eq_true rfl) hl.1 dX10_mergesCell_47) (fun H locs hW _ => ?_)
  refine r_iast C hW h dX10_mergesCell_50 (fun X10 H locs h hW _ => ?_)
  refine lv_aload_n hx hb dX10_mergesCell_51 rfl (lv_at hl 3 rfl) ?_
  refine r_gR C hW h fl_X10_35 (by decide) dX10_mergesCell_52 (fun b11 h => ?_)
  refine lv_iload hx hb dX10_mergesCell_55 (lv_at hl 2 rfl) ?_
  refine lv_iconst (v := 0) hx hb dX10_mergesCell_57 (by decide) ?_
  refine r_iast C hW h dX10_mergesCell_58 (fun X12 H locs h hW _ => ?_)
  refine lv_iload hx hb dX10_mergesCell_59 (lv_at hl 1 rfl) ?_
  refine r_brn h (lv_if_ne (tgt := 70) hx hb dX10_mergesCell_61 (by decide)) (fun h => ?_) (fun h => ?_)
  · exact b_X10_mergesCell_70 C hW (lv_sub hl [3, 4, 5, 6, 2, 1, 0] rfl) h
  · refine lv_iload hx hb dX10_mergesCell_64 (lv_at hl 0 rfl) ?_
    refine r_brn h (lv_if_ne (tgt := 70) hx hb dX10_mergesCell_66 (by decide)) (fun h => ?_) (fun h => ?_)
    · exact b_X10_mergesCell_70 C hW (lv_sub hl [3, 4, 5, 6, 2, 1, 0] rfl) h
    · exact r_vret C hW (Option.some.inj h).symm dX10_mergesCell_69
theorem kd_X10_mergedAt {X : Mx} {r : Int32} {a : Nat} {x1 : Int32} {x2 : Int32} (h : f_X10_mergedAt σ X a x1 x2 = some r) : shK σ a = 8 := (grd_inv h).1
set_option maxRecDepth 20000 in
set_option maxHeartbeats 2000000 in
theorem t_X10_mergedAt {X : Mx} {r : Int32} {a : Nat} {x1 : Int32} {x2 : Int32} (h : f_X10_mergedAt σ X a x1 x2 = some r) : MtI g l yX10_mergedAt cX10_mergedAt 3 (some .int) 0 0 [.ref a, .int x1, .int x2] σ X (r, X) := by
  refine met_of mk_X10_mergedAt (Nat.le_of_ble_eq_true rfl) (fun p e s m args below meth c ls C hW hl => ?_)
  have hx := C.x
  have hb := C.b
  have hl : lv_has ls 3 [(0, .ref a), (1, .int x1), (2, .int x2)] := hl
  unfold f_X10_mergedAt at h
  obtain ⟨hk0, h⟩ := grd_inv h
  refine lv_aload_n hx hb dX10_mergedAt_0 rfl (lv_at hl 0 rfl) ?_
  refine r_gR C hW h fl_X10_32 (by decide) dX10_mergedAt_1 (fun b1 h => ?_)
  refine lv_bipush (v := 9) hx hb dX10_mergedAt_4 (by decide) ?_
  refine lv_iload_n hx hb dX10_mergedAt_6 rfl (lv_at hl 1 rfl) ?_
  refine lv_imul hx hb dX10_mergedAt_7 ?_
  refine lv_iload_n hx hb dX10_mergedAt_8 rfl (lv_at hl 2 rfl) ?_
  refine lv_iadd hx hb dX10_mergedAt_9 ?_
  refine r_iald C hW h dX10_mergedAt_10 (fun v2 h => ?_)
  exact r_iret C hW (rt_R h) rfl dX10_mergedAt_11
set_option maxRecDepth 20000 in
set_option maxHeartbeats 2000000 in
theorem b_X10_isLike_36 {k2 : Int32 → Option Int32} {a : Nat} {x1 : Int32} {x2 : Int32} {x3 : Int32} (C : Cx g RX10 cX10_isLike 4 (some .boolean) p s m args meth c) {r : Int32} {X : Mx} (hk2 : ∀ {H' : Heap} {locs' : List Loc} {ls' : Array Slot} {x3' : Int32}, Wd g σ X s H' locs' → lv_has ls' 4 [(0, .ref a), (1, .int x1), (2, .int x2), (3, .int x3')] → k2 x3' = some r → W p l e (rmZ 1 22) s m args below meth c H' locs' 0 0 (QI g σ below args s (r, X)) (F0 m 2 ls' [])) (hW : Wd g σ X s H locs) (hl : lv_has ls 4 [(0, .ref a), (1, .int x1), (2, .int x2), (3, .int x3)]) (h : f_X10_isLike_36 k2 σ X a x1 x2 x3 = some r) : W p l e (rmZ 1 22) s m args below meth c H locs 0 0 (QI g σ below args s (r, X)) (F0 m 36 ls []) := by
  have hx := C.x
  have hb := C.b
  unfold f_X10_isLike_36 at h
  refine lv_iinc (v := (x3 + 1)) (lv' := [(3, .int (x3 + 1)), (0, .ref a), (1, .int x1), (2, .int x2)]) hx hb dX10_isLike_36 hl (k := 3) rfl rfl (by decide) rfl (fun ls hl => ?_)
  refine lv_goto (tgt := 2) hx hb dX10_isLike_39 (by decide) ?_
  exact hk2 hW (lv_sub hl [1, 2, 3, 0] rfl) h
set_option maxRecDepth 20000 in
set_option maxHeartbeats 2000000 in
theorem b_X10_isLike_2 {a : Nat} {x1 : Int32} {x2 : Int32} (C : Cx g RX10 cX10_isLike 4 (some .boolean) p s m args meth c) {r : Int32} {X : Mx} : ∀ (n : Nat) {x3 : Int32} {H : Heap} {locs : List Loc} {ls : Array Slot} (hW : Wd g σ X s H locs) (hl : lv_has ls 4 [(0, .ref a), (1, .int x1), (2, .int x2), (3, .int x3)]) (h : f_X10_isLike_2 σ X a x1 x2 n x3 = some r), W p l e (rmZ 1 22) s m args below meth c H locs 0 0 (QI g σ below args s (r, X)) (F0 m 2 ls []) := by
  have hx := C.x
  have hb := C.b
  intro n
  induction n with
  | zero =>
    intro x3 H locs ls hW hl h
    cases (show none = some r from h)
  | succ n ih =>
    intro x3 H locs ls hW hl h
    rw [f_X10_isLike_2] at h
    refine lv_iload_n hx hb dX10_isLike_2 rfl (lv_at hl 3 rfl) ?_
    refine lv_iload_n hx hb dX10_isLike_3 rfl (lv_at hl 1 rfl) ?_
    refine r_br h (lv_icmp_ge (tgt := 42) hx hb dX10_isLike_4 (by decide)) (fun h => ?_) (fun h => ?_)
    · refine lv_iconst (v := 0) hx hb dX10_isLike_42 (by decide) ?_
      exact r_iret C hW (rt_R h) rfl dX10_isLike_43
    · refine lv_aload_n hx hb dX10_isLike_7 rfl (lv_at hl 0 rfl) ?_
      refine r_gI C hW h fl_X10_323 (by decide) dX10_isLike_8 (fun v1 h => ?_)
      refine lv_iload_n hx hb dX10_isLike_11 rfl (lv_at hl 3 rfl) ?_
      refine lv_ishr hx hb dX10_isLike_12 ?_
      refine lv_iconst (v := 1) hx hb dX10_isLike_13 (by decide) ?_
      refine lv_iand hx hb dX10_isLike_14 ?_
      refine lv_iconst (v := 1) hx hb dX10_isLike_15 (by decide) ?_
      refine r_brn h (lv_icmp_ne (tgt := 36) hx hb dX10_isLike_16 (by decide)) (fun h => ?_) (fun h => ?_)
      · exact b_X10_isLike_36 C (fun hW hl h => ih hW hl h) hW (lv_sub hl [0, 1, 2, 3] rfl) h
      · refine lv_aload_n hx hb dX10_isLike_19 rfl (lv_at hl 0 rfl) ?_
        refine lv_iload_n hx hb dX10_isLike_20 rfl (lv_at hl 3 rfl) ?_
        refine lv_iload_n hx hb dX10_isLike_21 rfl (lv_at hl 2 rfl) ?_
        obtain ⟨v3, h2, h⟩ := bnd_inv h
        refine r_cI hW (run_V (rest := []) C hW (t_X10_mergedAt h2) mk_X10_mergedAt vk_X10_326 (kd_X10_mergedAt h2) rfl rfl (by decide) ⟨Nat.le_of_ble_eq_true rfl, Nat.le_of_ble_eq_true rfl⟩ ⟨Nat.zero_le _, Nat.zero_le _⟩ rfl rfl (Nat.le_of_ble_eq_true rfl) hl.1 dX10_isLike_22) (fun H locs hW _ => ?_)
        refine lv_aload_n hx hb dX10_isLike_25 rfl (lv_at hl 0 rfl) ?_
        refine lv_iload_n hx hb dX10_isLike_26 rfl (lv_at hl 1 rfl) ?_
        refine lv_iload_n hx hb dX10_isLike_27 rfl (lv_at hl 2 rfl) ?_
        obtain ⟨v5, h4, h⟩ := bnd_inv h
        refine r_cI hW (run_V (rest := [.int v3]) C hW (t_X10_mergedAt h4) mk_X10_mergedAt vk_X10_326 (kd_X10_mergedAt h4) rfl rfl (by decide) ⟨Nat.le_of_ble_eq_true rfl, Nat.le_of_ble_eq_true rfl⟩ ⟨Nat.zero_le _, Nat.zero_le _⟩ rfl rfl (Nat.le_of_ble_eq_true rfl) hl.1 dX10_isLike_28) (fun H locs hW _ => ?_)
        refine r_brn h (lv_icmp_ne (tgt := 36) hx hb dX10_isLike_31 (by decide)) (fun h => ?_) (fun h => ?_)
        · exact b_X10_isLike_36 C (fun hW hl h => ih hW hl h) hW (lv_sub hl [0, 1, 2, 3] rfl) h
        · refine lv_iconst (v := 1) hx hb dX10_isLike_34 (by decide) ?_
          exact r_iret C hW (rt_R h) rfl dX10_isLike_35
theorem kd_X10_isLike {X : Mx} {r : Int32} {a : Nat} {x1 : Int32} {x2 : Int32} (h : f_X10_isLike σ X a x1 x2 = some r) : shK σ a = 8 := (grd_inv h).1
set_option maxRecDepth 20000 in
set_option maxHeartbeats 2000000 in
theorem t_X10_isLike {X : Mx} {r : Int32} {a : Nat} {x1 : Int32} {x2 : Int32} (h : f_X10_isLike σ X a x1 x2 = some r) : MtI g l yX10_isLike cX10_isLike 4 (some .boolean) 1 22 [.ref a, .int x1, .int x2] σ X (r, X) := by
  refine met_of mk_X10_isLike (Nat.le_of_ble_eq_true rfl) (fun p e s m args below meth c ls C hW hl => ?_)
  have hx := C.x
  have hb := C.b
  have hl : lv_has ls 4 [(0, .ref a), (1, .int x1), (2, .int x2)] := hl
  unfold f_X10_isLike at h
  obtain ⟨hk0, h⟩ := grd_inv h
  refine lv_iconst (v := 0) hx hb dX10_isLike_0 (by decide) ?_
  refine lv_istore_n (lv' := [(3, .int 0), (0, .ref a), (1, .int x1), (2, .int x2)]) hx hb dX10_isLike_1 rfl hl (by decide) rfl (fun ls hl => ?_)
  exact b_X10_isLike_2 C FU hW (lv_sub hl [1, 2, 3, 0] rfl) h
theorem kd_X10_isAgainst {X : Mx} {r : Int32} {a : Nat} {x1 : Int32} {x2 : Int32} {x3 : Int32} (h : f_X10_isAgainst σ X a x1 x2 x3 = some r) : shK σ a = 8 := (grd_inv h).1
set_option maxRecDepth 20000 in
set_option maxHeartbeats 2000000 in
theorem t_X10_isAgainst {X : Mx} {r : Int32} {a : Nat} {x1 : Int32} {x2 : Int32} {x3 : Int32} (h : f_X10_isAgainst σ X a x1 x2 x3 = some r) : MtI g l yX10_isAgainst cX10_isAgainst 7 (some .boolean) 2 45 [.ref a, .int x1, .int x2, .int x3] σ X (r, X) := by
  refine met_of mk_X10_isAgainst (Nat.le_of_ble_eq_true rfl) (fun p e s m args below meth c ls C hW hl => ?_)
  have hx := C.x
  have hb := C.b
  have hl : lv_has ls 7 [(0, .ref a), (1, .int x1), (2, .int x2), (3, .int x3)] := hl
  unfold f_X10_isAgainst at h
  obtain ⟨hk0, h⟩ := grd_inv h
  refine lv_aload_n hx hb dX10_isAgainst_0 rfl (lv_at hl 0 rfl) ?_
  refine r_gR C hW h fl_X10_20 (by decide) dX10_isAgainst_1 (fun b1 h => ?_)
  refine lv_iload_n hx hb dX10_isAgainst_4 rfl (lv_at hl 1 rfl) ?_
  refine lv_sipush (v := 601) hx hb dX10_isAgainst_5 (by decide) ?_
  refine lv_iadd hx hb dX10_isAgainst_8 ?_
  refine lv_iload_n hx hb dX10_isAgainst_9 rfl (lv_at hl 2 rfl) ?_
  refine lv_iadd hx hb dX10_isAgainst_10 ?_
  refine r_iald C hW h dX10_isAgainst_11 (fun v2 h => ?_)
  refine lv_istore (lv' := [(4, .int v2), (0, .ref a), (1, .int x1), (2, .int x2), (3, .int x3)]) hx hb dX10_isAgainst_12 hl (by decide) rfl (fun ls hl => ?_)
  refine lv_aload_n hx hb dX10_isAgainst_14 rfl (lv_at hl 1 rfl) ?_
  refine lv_iload_n hx hb dX10_isAgainst_15 rfl (lv_at hl 4 rfl) ?_
  refine lv_aload_n hx hb dX10_isAgainst_16 rfl (lv_at hl 1 rfl) ?_
  refine r_gR C hW h fl_X10_20 (by decide) dX10_isAgainst_17 (fun b3 h => ?_)
  refine lv_iload_n hx hb dX10_isAgainst_20 rfl (lv_at hl 2 rfl) ?_
  refine lv_sipush (v := 605) hx hb dX10_isAgainst_21 (by decide) ?_
  refine lv_iadd hx hb dX10_isAgainst_24 ?_
  refine lv_iload_n hx hb dX10_isAgainst_25 rfl (lv_at hl 3 rfl) ?_
  refine lv_iadd hx hb dX10_isAgainst_26 ?_
  refine r_iald C hW h dX10_isAgainst_27 (fun v4 h => ?_)
  obtain ⟨v6, h5, h⟩ := bnd_inv h
  refine r_cI hW (run_V (rest := []) C hW (t_X10_mergedAt h5) mk_X10_mergedAt vk_X10_326 (kd_X10_mergedAt h5) rfl rfl (by decide) ⟨Nat.le_of_ble_eq_true rfl, Nat.le_of_ble_eq_true rfl⟩ ⟨Nat.zero_le _, Nat.zero_le _⟩ rfl rfl (Nat.le_of_ble_eq_true rfl) hl.1 dX10_isAgainst_28) (fun H locs hW _ => ?_)
  refine lv_istore (lv' := [(5, .int v6), (4, .int v2), (0, .ref a), (1, .int x1), (2, .int x2), (3, .int x3)]) hx hb dX10_isAgainst_31 hl (by decide) rfl (fun ls hl => ?_)
  refine lv_iload hx hb dX10_isAgainst_33 (lv_at hl 1 rfl) ?_
  refine lv_iconst (v := 1) hx hb dX10_isAgainst_35 (by decide) ?_
  refine r_brn h (lv_icmp_ne (tgt := 53) hx hb dX10_isAgainst_36 (by decide)) (fun h => ?_) (fun h => ?_)
  · refine lv_iload hx hb dX10_isAgainst_53 (lv_at hl 0 rfl) ?_
    refine lv_sipush (v := 9999) hx hb dX10_isAgainst_55 (by decide) ?_
    refine r_brn h (lv_icmp_ne (tgt := 63) hx hb dX10_isAgainst_58 (by decide)) (fun h => ?_) (fun h => ?_)
    · refine lv_iload hx hb dX10_isAgainst_63 (lv_at hl 1 rfl) ?_
      refine r_brn h (lv_if_ne (tgt := 86) hx hb dX10_isAgainst_65 (by decide)) (fun h => ?_) (fun h => ?_)
      · refine lv_aload_n hx hb dX10_isAgainst_86 rfl (lv_at hl 2 rfl) ?_
        refine lv_iload_n hx hb dX10_isAgainst_87 rfl (lv_at hl 5 rfl) ?_
        refine lv_aload_n hx hb dX10_isAgainst_88 rfl (lv_at hl 2 rfl) ?_
        refine r_gR C hW h fl_X10_20 (by decide) dX10_isAgainst_89 (fun b7 h => ?_)
        refine lv_iload_n hx hb dX10_isAgainst_92 rfl (lv_at hl 3 rfl) ?_
        refine lv_sipush (v := 609) hx hb dX10_isAgainst_93 (by decide) ?_
        refine lv_iadd hx hb dX10_isAgainst_96 ?_
        refine lv_iload_n hx hb dX10_isAgainst_97 rfl (lv_at hl 4 rfl) ?_
        refine lv_iadd hx hb dX10_isAgainst_98 ?_
        refine r_iald C hW h dX10_isAgainst_99 (fun v8 h => ?_)
        obtain ⟨v10, h9, h⟩ := bnd_inv h
        refine r_cI hW (run_V (rest := []) C hW (t_X10_mergedAt h9) mk_X10_mergedAt vk_X10_326 (kd_X10_mergedAt h9) rfl rfl (by decide) ⟨Nat.le_of_ble_eq_true rfl, Nat.le_of_ble_eq_true rfl⟩ ⟨Nat.zero_le _, Nat.zero_le _⟩ rfl rfl (Nat.le_of_ble_eq_true rfl) hl.1 dX10_isAgainst_100) (fun H locs hW _ => ?_)
        refine lv_istore (lv' := [(6, .int v10), (5, .int v6), (4, .int v2), (0, .ref a), (1, .int x1), (2, .int x2), (3, .int x3)]) hx hb dX10_isAgainst_103 hl (by decide) rfl (fun ls hl => ?_)
        refine lv_iload hx hb dX10_isAgainst_105 (lv_at hl 0 rfl) ?_
        refine lv_sipush (v := 9999) hx hb dX10_isAgainst_107 (by decide) ?_
        refine r_br h (lv_icmp_eq (tgt := 124) hx hb dX10_isAgainst_110 (by decide)) (fun h => ?_) (fun h => ?_)
        · refine lv_iconst (v := 0) hx hb dX10_isAgainst_124 (by decide) ?_
          exact r_iret C hW (rt_R h) rfl dX10_isAgainst_125
        · refine lv_iload hx hb dX10_isAgainst_113 (lv_at hl 1 rfl) ?_
          refine lv_iload hx hb dX10_isAgainst_115 (lv_at hl 0 rfl) ?_
          refine r_br h (lv_icmp_lt (tgt := 124) hx hb dX10_isAgainst_117 (by decide)) (fun h => ?_) (fun h => ?_)
          · refine lv_iconst (v := 0) hx hb dX10_isAgainst_124 (by decide) ?_
            exact r_iret C hW (rt_R h) rfl dX10_isAgainst_125
          · refine lv_iconst (v := 1) hx hb dX10_isAgainst_120 (by decide) ?_
            refine lv_goto (tgt := 125) hx hb dX10_isAgainst_121 (by decide) ?_
            exact r_iret C hW (rt_R h) rfl dX10_isAgainst_125
      · refine lv_aload_n hx hb dX10_isAgainst_68 rfl (lv_at hl 2 rfl) ?_
        refine lv_iload_n hx hb dX10_isAgainst_69 rfl (lv_at hl 5 rfl) ?_
        refine lv_aload_n hx hb dX10_isAgainst_70 rfl (lv_at hl 2 rfl) ?_
        refine r_gR C hW h fl_X10_20 (by decide) dX10_isAgainst_71 (fun b11 h => ?_)
        refine lv_iload_n hx hb dX10_isAgainst_74 rfl (lv_at hl 3 rfl) ?_
        refine lv_sipush (v := 605) hx hb dX10_isAgainst_75 (by decide) ?_
        refine lv_iadd hx hb dX10_isAgainst_78 ?_
        refine lv_iload_n hx hb dX10_isAgainst_79 rfl (lv_at hl 4 rfl) ?_
        refine lv_iadd hx hb dX10_isAgainst_80 ?_
        refine r_iald C hW h dX10_isAgainst_81 (fun v12 h => ?_)
        obtain ⟨v14, h13, h⟩ := bnd_inv h
        refine r_cI hW (run_V (rest := []) C hW (t_X10_isLike h13) mk_X10_isLike vk_X10_329 (kd_X10_isLike h13) rfl rfl (by decide) ⟨Nat.le_of_ble_eq_true rfl, Nat.le_of_ble_eq_true rfl⟩ ⟨Nat.zero_le _, Nat.zero_le _⟩ rfl rfl (Nat.le_of_ble_eq_true rfl) hl.1 dX10_isAgainst_82) (fun H locs hW _ => ?_)
        obtain ⟨hz, h⟩ := grd_inv h
        exact r_iret C hW (rt_R h) (zb hz) dX10_isAgainst_85
    · refine lv_iconst (v := 0) hx hb dX10_isAgainst_61 (by decide) ?_
      exact r_iret C hW (rt_R h) rfl dX10_isAgainst_62
  · refine lv_iload hx hb dX10_isAgainst_39 (lv_at hl 0 rfl) ?_
    refine lv_sipush (v := 9999) hx hb dX10_isAgainst_41 (by decide) ?_
    refine r_brn h (lv_icmp_ne (tgt := 51) hx hb dX10_isAgainst_44 (by decide)) (fun h => ?_) (fun h => ?_)
    · refine lv_iconst (v := 0) hx hb dX10_isAgainst_51 (by decide) ?_
      exact r_iret C hW (rt_R h) rfl dX10_isAgainst_52
    · refine lv_iconst (v := 1) hx hb dX10_isAgainst_47 (by decide) ?_
      refine lv_goto (tgt := 52) hx hb dX10_isAgainst_48 (by decide) ?_
      exact r_iret C hW (rt_R h) rfl dX10_isAgainst_52
set_option maxRecDepth 20000 in
set_option maxHeartbeats 2000000 in
theorem b_X10_demands_194 {k79 : Mx → Int32 → Option Mx} {a : Nat} {x1 : Int32} {x2 : Int32} {x3 : Int32} {x5 : Int32} {x6 : Int32} (C : Cx g RX10 cX10_demands 8 none p s m args meth c) {r : Mx} {X : Mx} (hk79 : ∀ {H' : Heap} {locs' : List Loc} {ls' : Array Slot} {X' : Mx} {x6' : Int32}, Wd g σ X' s H' locs' → lv_has ls' 8 [(0, .ref a), (1, .int x1), (2, .int x2), (3, .int x3), (5, .int x5), (6, .int x6')] → k79 X' x6' = some r → W p l e (rmZ 3 72) s m args below meth c H' locs' 0 0 (QV g σ below args s r) (F0 m 79 ls' [])) (hW : Wd g σ X s H locs) (hl : lv_has ls 8 [(0, .ref a), (1, .int x1), (2, .int x2), (3, .int x3), (5, .int x5), (6, .int x6)]) (h : f_X10_demands_194 k79 σ a x1 x2 x3 x5 x6 X = some r) : W p l e (rmZ 3 72) s m args below meth c H locs 0 0 (QV g σ below args s r) (F0 m 194 ls []) := by
  have hx := C.x
  have hb := C.b
  unfold f_X10_demands_194 at h
  refine lv_iinc (v := (x6 + 1)) (lv' := [(6, .int (x6 + 1)), (0, .ref a), (1, .int x1), (2, .int x2), (3, .int x3), (5, .int x5)]) hx hb dX10_demands_194 hl (k := 5) rfl rfl (by decide) rfl (fun ls hl => ?_)
  refine lv_goto (tgt := 79) hx hb dX10_demands_197 (by decide) ?_
  exact hk79 hW (lv_sub hl [1, 2, 3, 4, 5, 0] rfl) h
set_option maxRecDepth 20000 in
set_option maxHeartbeats 2000000 in
theorem b_X10_demands_179 {k79 : Mx → Int32 → Option Mx} {a : Nat} {x1 : Int32} {x2 : Int32} {x3 : Int32} {x5 : Int32} {x6 : Int32} (C : Cx g RX10 cX10_demands 8 none p s m args meth c) {r : Mx} {X : Mx} {y0 : Nat} {y1 : Int32} {y2 : Int32} (hk79 : ∀ {H' : Heap} {locs' : List Loc} {ls' : Array Slot} {X' : Mx} {x6' : Int32}, Wd g σ X' s H' locs' → lv_has ls' 8 [(0, .ref a), (1, .int x1), (2, .int x2), (3, .int x3), (5, .int x5), (6, .int x6')] → k79 X' x6' = some r → W p l e (rmZ 3 72) s m args below meth c H' locs' 0 0 (QV g σ below args s r) (F0 m 79 ls' [])) (hW : Wd g σ X s H locs) (hl : lv_has ls 8 [(0, .ref a), (1, .int x1), (2, .int x2), (3, .int x3), (5, .int x5), (6, .int x6)]) (h : f_X10_demands_179 k79 σ a x1 x2 x3 x5 x6 X y0 y1 y2 = some r) : W p l e (rmZ 3 72) s m args below meth c H locs 0 0 (QV g σ below args s r) (F0 m 179 ls [.int y2, .int y1, .ref y0]) := by
  have hx := C.x
  have hb := C.b
  unfold f_X10_demands_179 at h
  refine r_iast C hW h dX10_demands_179 (fun X1 H locs h hW _ => ?_)
  refine lv_aload_n hx hb dX10_demands_180 rfl (lv_at hl 0 rfl) ?_
  refine r_gR C hW h fl_X10_35 (by decide) dX10_demands_181 (fun b2 h => ?_)
  refine lv_bipush (v := 9) hx hb dX10_demands_184 (by decide) ?_
  refine lv_iload hx hb dX10_demands_186 (lv_at hl 5 rfl) ?_
  refine lv_imul hx hb dX10_demands_188 ?_
  refine lv_iload hx hb dX10_demands_189 (lv_at hl 4 rfl) ?_
  refine lv_iadd hx hb dX10_demands_191 ?_
  refine lv_iconst (v := 4) hx hb dX10_demands_192 (by decide) ?_
  refine r_iast C hW h dX10_demands_193 (fun X3 H locs h hW _ => ?_)
  exact b_X10_demands_194 C hk79 hW (lv_sub hl [0, 1, 2, 3, 4, 5] rfl) h
set_option maxRecDepth 20000 in
set_option maxHeartbeats 2000000 in
theorem b_X10_demands_147 {k79 : Mx → Int32 → Option Mx} {a : Nat} {x1 : Int32} {x2 : Int32} {x3 : Int32} {x5 : Int32} {x6 : Int32} {x7 : Int32} (C : Cx g RX10 cX10_demands 8 none p s m args meth c) {r : Mx} {X : Mx} (hk79 : ∀ {H' : Heap} {locs' : List Loc} {ls' : Array Slot} {X' : Mx} {x6' : Int32}, Wd g σ X' s H' locs' → lv_has ls' 8 [(0, .ref a), (1, .int x1), (2, .int x2), (3, .int x3), (5, .int x5), (6, .int x6')] → k79 X' x6' = some r → W p l e (rmZ 3 72) s m args below meth c H' locs' 0 0 (QV g σ below args s r) (F0 m 79 ls' [])) (hW : Wd g σ X s H locs) (hl : lv_has ls 8 [(0, .ref a), (1, .int x1), (2, .int x2), (3, .int x3), (5, .int x5), (6, .int x6), (7, .int x7)]) (h : f_X10_demands_147 k79 σ a x1 x2 x3 x5 x6 x7 X = some r) : W p l e (rmZ 3 72) s m args below meth c H locs 0 0 (QV g σ below args s r) (F0 m 147 ls []) := by
  have hx := C.x
  have hb := C.b
  unfold f_X10_demands_147 at h
  refine lv_iload hx hb dX10_demands_147 (lv_at hl 6 rfl) ?_
  refine r_br h (lv_if_eq (tgt := 155) hx hb dX10_demands_149 (by decide)) (fun h => ?_) (fun h => ?_)
  · refine lv_aload_n hx hb dX10_demands_155 rfl (lv_at hl 0 rfl) ?_
    refine r_gR C hW h fl_X10_32 (by decide) dX10_demands_156 (fun b1 h => ?_)
    refine lv_bipush (v := 9) hx hb dX10_demands_159 (by decide) ?_
    refine lv_iload hx hb dX10_demands_161 (lv_at hl 5 rfl) ?_
    refine lv_imul hx hb dX10_demands_163 ?_
    refine lv_iload hx hb dX10_demands_164 (lv_at hl 4 rfl) ?_
    refine lv_iadd hx hb dX10_demands_166 ?_
    refine lv_iload_n hx hb dX10_demands_167 rfl (lv_at hl 3 rfl) ?_
    refine lv_iconst (v := 1) hx hb dX10_demands_168 (by decide) ?_
    refine r_brn h (lv_icmp_ne (tgt := 176) hx hb dX10_demands_169 (by decide)) (fun h => ?_) (fun h => ?_)
    · refine lv_sipush (v := 9999) hx hb dX10_demands_176 (by decide) ?_
      exact b_X10_demands_179 C hk79 hW (lv_sub hl [0, 1, 2, 3, 4, 5] rfl) h
    · refine lv_iconst (v := 0) hx hb dX10_demands_172 (by decide) ?_
      refine lv_goto (tgt := 179) hx hb dX10_demands_173 (by decide) ?_
      exact b_X10_demands_179 C hk79 hW (lv_sub hl [0, 1, 2, 3, 4, 5] rfl) h
  · refine lv_goto (tgt := 194) hx hb dX10_demands_152 (by decide) ?_
    exact b_X10_demands_194 C hk79 hW (lv_sub hl [0, 1, 2, 3, 4, 5] rfl) h
set_option maxRecDepth 20000 in
set_option maxHeartbeats 2000000 in
theorem b_X10_demands_79 {a : Nat} {x1 : Int32} {x2 : Int32} {x3 : Int32} {x5 : Int32} (C : Cx g RX10 cX10_demands 8 none p s m args meth c) {r : Mx} : ∀ (n : Nat) {X : Mx} {x6 : Int32} {H : Heap} {locs : List Loc} {ls : Array Slot} (hW : Wd g σ X s H locs) (hl : lv_has ls 8 [(0, .ref a), (1, .int x1), (2, .int x2), (3, .int x3), (5, .int x5), (6, .int x6)]) (h : f_X10_demands_79 σ a x1 x2 x3 x5 n X x6 = some r), W p l e (rmZ 3 72) s m args below meth c H locs 0 0 (QV g σ below args s r) (F0 m 79 ls []) := by
  have hx := C.x
  have hb := C.b
  intro n
  induction n with
  | zero =>
    intro X x6 H locs ls hW hl h
    cases (show none = some r from h)
  | succ n ih =>
    intro X x6 H locs ls hW hl h
    rw [f_X10_demands_79] at h
    refine lv_iload hx hb dX10_demands_79 (lv_at hl 5 rfl) ?_
    refine lv_bipush (v := 20) hx hb dX10_demands_81 (by decide) ?_
    refine r_br h (lv_icmp_ge (tgt := 200) hx hb dX10_demands_83 (by decide)) (fun h => ?_) (fun h => ?_)
    · exact r_vret C hW (Option.some.inj h).symm dX10_demands_200
    · refine lv_aload_n hx hb dX10_demands_86 rfl (lv_at hl 0 rfl) ?_
      refine r_gI C hW h fl_X10_323 (by decide) dX10_demands_87 (fun v1 h => ?_)
      refine lv_iload hx hb dX10_demands_90 (lv_at hl 5 rfl) ?_
      refine lv_ishr hx hb dX10_demands_92 ?_
      refine lv_iconst (v := 1) hx hb dX10_demands_93 (by decide) ?_
      refine lv_iand hx hb dX10_demands_94 ?_
      refine r_br h (lv_if_eq (tgt := 194) hx hb dX10_demands_95 (by decide)) (fun h => ?_) (fun h => ?_)
      · exact b_X10_demands_194 C (fun hW hl h => ih hW hl h) hW (lv_sub hl [0, 1, 2, 3, 4, 5] rfl) h
      · refine lv_aload_n hx hb dX10_demands_98 rfl (lv_at hl 0 rfl) ?_
        refine lv_iload_n hx hb dX10_demands_99 rfl (lv_at hl 1 rfl) ?_
        refine lv_iload_n hx hb dX10_demands_100 rfl (lv_at hl 2 rfl) ?_
        refine lv_iload hx hb dX10_demands_101 (lv_at hl 5 rfl) ?_
        obtain ⟨v3, h2, h⟩ := bnd_inv h
        refine r_cI hW (run_V (rest := []) C hW (t_X10_isAgainst h2) mk_X10_isAgainst vk_X10_332 (kd_X10_isAgainst h2) rfl rfl (by decide) ⟨Nat.le_of_ble_eq_true rfl, Nat.le_of_ble_eq_true rfl⟩ ⟨Nat.zero_le _, Nat.zero_le _⟩ rfl rfl (Nat.le_of_ble_eq_true rfl) hl.1 dX10_demands_103) (fun H locs hW _ => ?_)
        refine r_brn h (lv_if_ne (tgt := 112) hx hb dX10_demands_106 (by decide)) (fun h => ?_) (fun h => ?_)
        · refine lv_aload_n hx hb dX10_demands_112 rfl (lv_at hl 0 rfl) ?_
          refine lv_iload_n hx hb dX10_demands_113 rfl (lv_at hl 1 rfl) ?_
          refine lv_bipush (v := 6) hx hb dX10_demands_114 (by decide) ?_
          refine lv_iload_n hx hb dX10_demands_116 rfl (lv_at hl 2 rfl) ?_
          refine lv_iload hx hb dX10_demands_117 (lv_at hl 5 rfl) ?_
          refine lv_iconst (v := (-1)) hx hb dX10_demands_119 (by decide) ?_
          refine lv_iconst (v := (-1)) hx hb dX10_demands_120 (by decide) ?_
          obtain ⟨v6, X5, h4, h⟩ := bnd2_inv h
          refine r_cI hW (run_V (rest := []) C hW (t_X10_comesUp h4) mk_X10_comesUp vk_X10_294 (kd_X10_comesUp h4) rfl rfl (by decide) ⟨Nat.le_of_ble_eq_true rfl, Nat.le_of_ble_eq_true rfl⟩ ⟨Nat.zero_le _, Nat.zero_le _⟩ rfl rfl (Nat.le_of_ble_eq_true rfl) hl.1 dX10_demands_121) (fun H locs hW _ => ?_)
          refine lv_istore (lv' := [(7, .int v6), (0, .ref a), (1, .int x1), (2, .int x2), (3, .int x3), (5, .int x5), (6, .int x6)]) hx hb dX10_demands_124 hl (by decide) rfl (fun ls hl => ?_)
          refine lv_iload hx hb dX10_demands_126 (lv_at hl 0 rfl) ?_
          refine lv_iconst (v := 1) hx hb dX10_demands_128 (by decide) ?_
          refine r_brn h (lv_icmp_ne (tgt := 147) hx hb dX10_demands_129 (by decide)) (fun h => ?_) (fun h => ?_)
          · exact b_X10_demands_147 C (fun hW hl h => ih hW hl h) hW (lv_sub hl [1, 2, 3, 4, 5, 6, 0] rfl) h
          · refine lv_aload_n hx hb dX10_demands_132 rfl (lv_at hl 1 rfl) ?_
            refine lv_dup hx hb dX10_demands_133 rfl ?_
            refine r_gI C hW h fl_X10_323 (by decide) dX10_demands_134 (fun v7 h => ?_)
            refine lv_iconst (v := 1) hx hb dX10_demands_137 (by decide) ?_
            refine lv_iload hx hb dX10_demands_138 (lv_at hl 6 rfl) ?_
            refine lv_ishl hx hb dX10_demands_140 ?_
            refine lv_iconst (v := (-1)) hx hb dX10_demands_141 (by decide) ?_
            refine lv_ixor hx hb dX10_demands_142 ?_
            refine lv_iand hx hb dX10_demands_143 ?_
            refine r_pI C hW h pf_X10_323 (by decide) rfl rfl dX10_demands_144 (fun X8 H locs h hW _ => ?_)
            exact b_X10_demands_147 C (fun hW hl h => ih hW hl h) hW (lv_sub hl [1, 2, 3, 4, 5, 6, 0] rfl) h
        · refine lv_goto (tgt := 194) hx hb dX10_demands_109 (by decide) ?_
          exact b_X10_demands_194 C (fun hW hl h => ih hW hl h) hW (lv_sub hl [0, 1, 2, 3, 4, 5] rfl) h
set_option maxRecDepth 20000 in
set_option maxHeartbeats 2000000 in
theorem b_X10_demands_49 {a : Nat} {x1 : Int32} {x2 : Int32} {x3 : Int32} {x4 : Int32} (C : Cx g RX10 cX10_demands 8 none p s m args meth c) {r : Mx} {X : Mx} {y0 : Int32} (hW : Wd g σ X s H locs) (hl : lv_has ls 8 [(0, .ref a), (1, .int x1), (2, .int x2), (3, .int x3), (4, .int x4)]) (h : f_X10_demands_49 σ a x1 x2 x3 x4 X y0 = some r) : W p l e (rmZ 3 72) s m args below meth c H locs 0 0 (QV g σ below args s r) (F0 m 49 ls [.int y0]) := by
  have hx := C.x
  have hb := C.b
  unfold f_X10_demands_49 at h
  refine lv_istore (lv' := [(5, .int y0), (0, .ref a), (1, .int x1), (2, .int x2), (3, .int x3), (4, .int x4)]) hx hb dX10_demands_49 hl (by decide) rfl (fun ls hl => ?_)
  refine lv_aload_n hx hb dX10_demands_51 rfl (lv_at hl 1 rfl) ?_
  refine r_gI C hW h fl_X10_291 (by decide) dX10_demands_52 (fun v1 h => ?_)
  refine lv_iload hx hb dX10_demands_55 (lv_at hl 5 rfl) ?_
  refine lv_ishr hx hb dX10_demands_57 ?_
  refine lv_iconst (v := 1) hx hb dX10_demands_58 (by decide) ?_
  refine lv_iand hx hb dX10_demands_59 ?_
  refine r_br h (lv_if_eq (tgt := 75) hx hb dX10_demands_60 (by decide)) (fun h => ?_) (fun h => ?_)
  · exact r_vret C hW (Option.some.inj h).symm dX10_demands_75
  · refine lv_aload_n hx hb dX10_demands_63 rfl (lv_at hl 1 rfl) ?_
    refine r_gI C hW h fl_X10_291 (by decide) dX10_demands_64 (fun v2 h => ?_)
    refine lv_iload hx hb dX10_demands_67 (lv_at hl 0 rfl) ?_
    refine lv_ishr hx hb dX10_demands_69 ?_
    refine lv_iconst (v := 1) hx hb dX10_demands_70 (by decide) ?_
    refine lv_iand hx hb dX10_demands_71 ?_
    refine r_brn h (lv_if_ne (tgt := 76) hx hb dX10_demands_72 (by decide)) (fun h => ?_) (fun h => ?_)
    · refine lv_iconst (v := 0) hx hb dX10_demands_76 (by decide) ?_
      refine lv_istore (lv' := [(6, .int 0), (5, .int y0), (0, .ref a), (1, .int x1), (2, .int x2), (3, .int x3), (4, .int x4)]) hx hb dX10_demands_77 hl (by decide) rfl (fun ls hl => ?_)
      exact b_X10_demands_79 C FU hW (lv_sub hl [2, 3, 4, 5, 1, 0] rfl) h
    · exact r_vret C hW (Option.some.inj h).symm dX10_demands_75
theorem kd_X10_demands {X : Mx} {r : Mx} {a : Nat} {x1 : Int32} {x2 : Int32} (h : f_X10_demands σ X a x1 x2 = some r) : shK σ a = 8 := (grd_inv h).1
set_option maxRecDepth 20000 in
set_option maxHeartbeats 2000000 in
theorem t_X10_demands {X : Mx} {r : Mx} {a : Nat} {x1 : Int32} {x2 : Int32} (h : f_X10_demands σ X a x1 x2 = some r) : MtV g l yX10_demands cX10_demands 8 none 3 72 [.ref a, .int x1, .int x2] σ X r := by
  refine met_of mk_X10_demands (Nat.le_of_ble_eq_true rfl) (fun p e s m args below meth c ls C hW hl => ?_)
  have hx := C.x
  have hb := C.b
  have hl : lv_has ls 8 [(0, .ref a), (1, .int x1), (2, .int x2)] := hl
  unfold f_X10_demands at h
  obtain ⟨hk0, h⟩ := grd_inv h
  refine lv_aload_n hx hb dX10_demands_0 rfl (lv_at hl 0 rfl) ?_
  refine r_gR C hW h fl_X10_20 (by decide) dX10_demands_1 (fun b1 h => ?_)
  refine lv_iload_n hx hb dX10_demands_4 rfl (lv_at hl 1 rfl) ?_
  refine lv_sipush (v := 601) hx hb dX10_demands_5 (by decide) ?_
  refine lv_iadd hx hb dX10_demands_8 ?_
  refine lv_iload_n hx hb dX10_demands_9 rfl (lv_at hl 2 rfl) ?_
  refine lv_iadd hx hb dX10_demands_10 ?_
  refine r_iald C hW h dX10_demands_11 (fun v2 h => ?_)
  refine lv_istore_n (lv' := [(3, .int v2), (0, .ref a), (1, .int x1), (2, .int x2)]) hx hb dX10_demands_12 rfl hl (by decide) rfl (fun ls hl => ?_)
  refine lv_aload_n hx hb dX10_demands_13 rfl (lv_at hl 1 rfl) ?_
  refine r_gR C hW h fl_X10_20 (by decide) dX10_demands_14 (fun b3 h => ?_)
  refine lv_iload_n hx hb dX10_demands_17 rfl (lv_at hl 2 rfl) ?_
  refine lv_sipush (v := 605) hx hb dX10_demands_18 (by decide) ?_
  refine lv_iadd hx hb dX10_demands_21 ?_
  refine lv_iload_n hx hb dX10_demands_22 rfl (lv_at hl 3 rfl) ?_
  refine lv_iadd hx hb dX10_demands_23 ?_
  refine r_iald C hW h dX10_demands_24 (fun v4 h => ?_)
  refine lv_istore (lv' := [(4, .int v4), (3, .int v2), (0, .ref a), (1, .int x1), (2, .int x2)]) hx hb dX10_demands_25 hl (by decide) rfl (fun ls hl => ?_)
  refine lv_iload_n hx hb dX10_demands_27 rfl (lv_at hl 1 rfl) ?_
  refine lv_iconst (v := 2) hx hb dX10_demands_28 (by decide) ?_
  refine r_brn h (lv_icmp_ne (tgt := 47) hx hb dX10_demands_29 (by decide)) (fun h => ?_) (fun h => ?_)
  · refine lv_iload hx hb dX10_demands_47 (lv_at hl 0 rfl) ?_
    exact b_X10_demands_49 C hW (lv_sub hl [2, 3, 4, 1, 0] rfl) h
  · refine lv_aload_n hx hb dX10_demands_32 rfl (lv_at hl 2 rfl) ?_
    refine r_gR C hW h fl_X10_20 (by decide) dX10_demands_33 (fun b5 h => ?_)
    refine lv_iload_n hx hb dX10_demands_36 rfl (lv_at hl 3 rfl) ?_
    refine lv_sipush (v := 609) hx hb dX10_demands_37 (by decide) ?_
    refine lv_iadd hx hb dX10_demands_40 ?_
    refine lv_iload_n hx hb dX10_demands_41 rfl (lv_at hl 4 rfl) ?_
    refine lv_iadd hx hb dX10_demands_42 ?_
    refine r_iald C hW h dX10_demands_43 (fun v6 h => ?_)
    refine lv_goto (tgt := 49) hx hb dX10_demands_44 (by decide) ?_
    exact b_X10_demands_49 C hW (lv_sub hl [2, 3, 4, 1, 0] rfl) h
set_option maxRecDepth 20000 in
set_option maxHeartbeats 2000000 in
theorem b_X10_merges_116 {k89 : Mx → Int32 → Option Mx} {a : Nat} {x1 : Int32} {x2 : Int32} (C : Cx g RX10 cX10_merges 4 none p s m args meth c) {r : Mx} {X : Mx} {y0 : Nat} {y1 : Int32} {y2 : Int32} (hk89 : ∀ {H' : Heap} {locs' : List Loc} {ls' : Array Slot} {X' : Mx} {x2' : Int32}, Wd g σ X' s H' locs' → lv_has ls' 4 [(0, .ref a), (1, .int x1), (2, .int x2')] → k89 X' x2' = some r → W p l e (rmZ 6 146) s m args below meth c H' locs' 0 0 (QV g σ below args s r) (F0 m 89 ls' [])) (hW : Wd g σ X s H locs) (hl : lv_has ls 4 [(0, .ref a), (1, .int x1), (2, .int x2)]) (h : f_X10_merges_116 k89 σ a x1 x2 X y0 y1 y2 = some r) : W p l e (rmZ 6 146) s m args below meth c H locs 0 0 (QV g σ below args s r) (F0 m 116 ls [.int y2, .int y1, .ref y0]) := by
  have hx := C.x
  have hb := C.b
  unfold f_X10_merges_116 at h
  refine lv_ior hx hb dX10_merges_116 ?_
  refine r_pI C hW h pf_X10_323 (by decide) rfl rfl dX10_merges_117 (fun X1 H locs h hW _ => ?_)
  refine lv_iinc (v := (x2 + 1)) (lv' := [(2, .int (x2 + 1)), (0, .ref a), (1, .int x1)]) hx hb dX10_merges_120 hl (k := 2) rfl rfl (by decide) rfl (fun ls hl => ?_)
  refine lv_goto (tgt := 89) hx hb dX10_merges_123 (by decide) ?_
  exact hk89 hW (lv_sub hl [1, 2, 0] rfl) h
set_option maxRecDepth 20000 in
set_option maxHeartbeats 2000000 in
theorem b_X10_merges_173 {k128 : Mx → Int32 → Option Mx} {k136 : Mx → Int32 → Option Mx} {a : Nat} {x1 : Int32} {x2 : Int32} {x3 : Int32} (C : Cx g RX10 cX10_merges 4 none p s m args meth c) {r : Mx} {X : Mx} (hk128 : ∀ {H' : Heap} {locs' : List Loc} {ls' : Array Slot} {X' : Mx} {x2' : Int32}, Wd g σ X' s H' locs' → lv_has ls' 4 [(0, .ref a), (1, .int x1), (2, .int x2')] → k128 X' x2' = some r → W p l e (rmZ 6 146) s m args below meth c H' locs' 0 0 (QV g σ below args s r) (F0 m 128 ls' [])) (hk136 : ∀ {H' : Heap} {locs' : List Loc} {ls' : Array Slot} {X' : Mx} {x3' : Int32}, Wd g σ X' s H' locs' → lv_has ls' 4 [(0, .ref a), (1, .int x1), (2, .int x2), (3, .int x3')] → k136 X' x3' = some r → W p l e (rmZ 6 146) s m args below meth c H' locs' 0 0 (QV g σ below args s r) (F0 m 136 ls' [])) (hW : Wd g σ X s H locs) (hl : lv_has ls 4 [(0, .ref a), (1, .int x1), (2, .int x2), (3, .int x3)]) (h : f_X10_merges_173 k128 k136 σ a x1 x2 x3 X = some r) : W p l e (rmZ 6 146) s m args below meth c H locs 0 0 (QV g σ below args s r) (F0 m 173 ls []) := by
  have hx := C.x
  have hb := C.b
  unfold f_X10_merges_173 at h
  refine lv_iinc (v := (x3 + 1)) (lv' := [(3, .int (x3 + 1)), (0, .ref a), (1, .int x1), (2, .int x2)]) hx hb dX10_merges_173 hl (k := 3) rfl rfl (by decide) rfl (fun ls hl => ?_)
  refine lv_goto (tgt := 136) hx hb dX10_merges_176 (by decide) ?_
  exact hk136 hW (lv_sub hl [1, 2, 3, 0] rfl) h
set_option maxRecDepth 20000 in
set_option maxHeartbeats 2000000 in
theorem b_X10_merges_136 {k128 : Mx → Int32 → Option Mx} {a : Nat} {x1 : Int32} {x2 : Int32} (C : Cx g RX10 cX10_merges 4 none p s m args meth c) {r : Mx} (hk128 : ∀ {H' : Heap} {locs' : List Loc} {ls' : Array Slot} {X' : Mx} {x2' : Int32}, Wd g σ X' s H' locs' → lv_has ls' 4 [(0, .ref a), (1, .int x1), (2, .int x2')] → k128 X' x2' = some r → W p l e (rmZ 6 146) s m args below meth c H' locs' 0 0 (QV g σ below args s r) (F0 m 128 ls' [])) : ∀ (n : Nat) {X : Mx} {x3 : Int32} {H : Heap} {locs : List Loc} {ls : Array Slot} (hW : Wd g σ X s H locs) (hl : lv_has ls 4 [(0, .ref a), (1, .int x1), (2, .int x2), (3, .int x3)]) (h : f_X10_merges_136 k128 σ a x1 x2 n X x3 = some r), W p l e (rmZ 6 146) s m args below meth c H locs 0 0 (QV g σ below args s r) (F0 m 136 ls []) := by
  have hx := C.x
  have hb := C.b
  intro n
  induction n with
  | zero =>
    intro X x3 H locs ls hW hl h
    cases (show none = some r from h)
  | succ n ih =>
    intro X x3 H locs ls hW hl h
    rw [f_X10_merges_136] at h
    refine lv_iload_n hx hb dX10_merges_136 rfl (lv_at hl 3 rfl) ?_
    refine lv_bipush (v := 9) hx hb dX10_merges_137 (by decide) ?_
    refine r_br h (lv_icmp_ge (tgt := 179) hx hb dX10_merges_139 (by decide)) (fun h => ?_) (fun h => ?_)
    · refine lv_iinc (v := (x2 + 1)) (lv' := [(2, .int (x2 + 1)), (0, .ref a), (1, .int x1), (3, .int x3)]) hx hb dX10_merges_179 hl (k := 2) rfl rfl (by decide) rfl (fun ls hl => ?_)
      refine lv_goto (tgt := 128) hx hb dX10_merges_182 (by decide) ?_
      exact hk128 hW (lv_sub hl [1, 2, 0] rfl) h
    · refine lv_aload_n hx hb dX10_merges_142 rfl (lv_at hl 0 rfl) ?_
      refine r_gI C hW h fl_X10_323 (by decide) dX10_merges_143 (fun v1 h => ?_)
      refine lv_iload_n hx hb dX10_merges_146 rfl (lv_at hl 2 rfl) ?_
      refine lv_ishr hx hb dX10_merges_147 ?_
      refine lv_iconst (v := 1) hx hb dX10_merges_148 (by decide) ?_
      refine lv_iand hx hb dX10_merges_149 ?_
      refine lv_iconst (v := 1) hx hb dX10_merges_150 (by decide) ?_
      refine r_brn h (lv_icmp_ne (tgt := 173) hx hb dX10_merges_151 (by decide)) (fun h => ?_) (fun h => ?_)
      · exact b_X10_merges_173 C hk128 (fun hW hl h => ih hW hl h) hW (lv_sub hl [0, 1, 2, 3] rfl) h
      · refine lv_aload_n hx hb dX10_merges_154 rfl (lv_at hl 0 rfl) ?_
        refine r_gI C hW h fl_X10_291 (by decide) dX10_merges_155 (fun v2 h => ?_)
        refine lv_iload_n hx hb dX10_merges_158 rfl (lv_at hl 3 rfl) ?_
        refine lv_ishr hx hb dX10_merges_159 ?_
        refine lv_iconst (v := 1) hx hb dX10_merges_160 (by decide) ?_
        refine lv_iand hx hb dX10_merges_161 ?_
        refine lv_iconst (v := 1) hx hb dX10_merges_162 (by decide) ?_
        refine r_brn h (lv_icmp_ne (tgt := 173) hx hb dX10_merges_163 (by decide)) (fun h => ?_) (fun h => ?_)
        · exact b_X10_merges_173 C hk128 (fun hW hl h => ih hW hl h) hW (lv_sub hl [0, 1, 2, 3] rfl) h
        · refine lv_aload_n hx hb dX10_merges_166 rfl (lv_at hl 0 rfl) ?_
          refine lv_iload_n hx hb dX10_merges_167 rfl (lv_at hl 1 rfl) ?_
          refine lv_iload_n hx hb dX10_merges_168 rfl (lv_at hl 2 rfl) ?_
          refine lv_iload_n hx hb dX10_merges_169 rfl (lv_at hl 3 rfl) ?_
          obtain ⟨X4, h3, h⟩ := bnd_inv h
          refine r_cV hW (run_V (rest := []) C hW (t_X10_mergesCell h3) mk_X10_mergesCell vk_X10_348 (kd_X10_mergesCell h3) rfl rfl (by decide) ⟨Nat.le_of_ble_eq_true rfl, Nat.le_of_ble_eq_true rfl⟩ ⟨Nat.zero_le _, Nat.zero_le _⟩ rfl rfl (Nat.le_of_ble_eq_true rfl) hl.1 dX10_merges_170) (fun H locs hW _ => ?_)
          exact b_X10_merges_173 C hk128 (fun hW hl h => ih hW hl h) hW (lv_sub hl [0, 1, 2, 3] rfl) h
set_option maxRecDepth 20000 in
set_option maxHeartbeats 2000000 in
theorem b_X10_merges_187 {a : Nat} {x1 : Int32} (C : Cx g RX10 cX10_merges 4 none p s m args meth c) {r : Mx} : ∀ (n : Nat) {X : Mx} {x2 : Int32} {H : Heap} {locs : List Loc} {ls : Array Slot} (hW : Wd g σ X s H locs) (hl : lv_has ls 4 [(0, .ref a), (1, .int x1), (2, .int x2)]) (h : f_X10_merges_187 σ a x1 n X x2 = some r), W p l e (rmZ 6 146) s m args below meth c H locs 0 0 (QV g σ below args s r) (F0 m 187 ls []) := by
  have hx := C.x
  have hb := C.b
  intro n
  induction n with
  | zero =>
    intro X x2 H locs ls hW hl h
    cases (show none = some r from h)
  | succ n ih =>
    intro X x2 H locs ls hW hl h
    rw [f_X10_merges_187] at h
    refine lv_iload_n hx hb dX10_merges_187 rfl (lv_at hl 2 rfl) ?_
    refine lv_aload_n hx hb dX10_merges_188 rfl (lv_at hl 0 rfl) ?_
    refine r_gR C hW h fl_X10_20 (by decide) dX10_merges_189 (fun b1 h => ?_)
    refine lv_iload_n hx hb dX10_merges_192 rfl (lv_at hl 1 rfl) ?_
    refine lv_sipush (v := 600) hx hb dX10_merges_193 (by decide) ?_
    refine lv_iadd hx hb dX10_merges_196 ?_
    refine r_iald C hW h dX10_merges_197 (fun v2 h => ?_)
    refine r_br h (lv_icmp_ge (tgt := 213) hx hb dX10_merges_198 (by decide)) (fun h => ?_) (fun h => ?_)
    · exact r_vret C hW (Option.some.inj h).symm dX10_merges_213
    · refine lv_aload_n hx hb dX10_merges_201 rfl (lv_at hl 0 rfl) ?_
      refine lv_iload_n hx hb dX10_merges_202 rfl (lv_at hl 1 rfl) ?_
      refine lv_iload_n hx hb dX10_merges_203 rfl (lv_at hl 2 rfl) ?_
      obtain ⟨X4, h3, h⟩ := bnd_inv h
      refine r_cV hW (run_V (rest := []) C hW (t_X10_demands h3) mk_X10_demands vk_X10_351 (kd_X10_demands h3) rfl rfl (by decide) ⟨Nat.le_of_ble_eq_true rfl, Nat.le_of_ble_eq_true rfl⟩ ⟨Nat.zero_le _, Nat.zero_le _⟩ rfl rfl (Nat.le_of_ble_eq_true rfl) hl.1 dX10_merges_204) (fun H locs hW _ => ?_)
      refine lv_iinc (v := (x2 + 1)) (lv' := [(2, .int (x2 + 1)), (0, .ref a), (1, .int x1)]) hx hb dX10_merges_207 hl (k := 2) rfl rfl (by decide) rfl (fun ls hl => ?_)
      refine lv_goto (tgt := 187) hx hb dX10_merges_210 (by decide) ?_
      exact ih hW (lv_sub hl [1, 2, 0] rfl) h
set_option maxRecDepth 20000 in
set_option maxHeartbeats 2000000 in
theorem b_X10_merges_128 {a : Nat} {x1 : Int32} (C : Cx g RX10 cX10_merges 4 none p s m args meth c) {r : Mx} : ∀ (n : Nat) {X : Mx} {x2 : Int32} {H : Heap} {locs : List Loc} {ls : Array Slot} (hW : Wd g σ X s H locs) (hl : lv_has ls 4 [(0, .ref a), (1, .int x1), (2, .int x2)]) (h : f_X10_merges_128 σ a x1 n X x2 = some r), W p l e (rmZ 6 146) s m args below meth c H locs 0 0 (QV g σ below args s r) (F0 m 128 ls []) := by
  have hx := C.x
  have hb := C.b
  intro n
  induction n with
  | zero =>
    intro X x2 H locs ls hW hl h
    cases (show none = some r from h)
  | succ n ih =>
    intro X x2 H locs ls hW hl h
    rw [f_X10_merges_128] at h
    refine lv_iload_n hx hb dX10_merges_128 rfl (lv_at hl 2 rfl) ?_
    refine lv_bipush (v := 20) hx hb dX10_merges_129 (by decide) ?_
    refine r_br h (lv_icmp_ge (tgt := 185) hx hb dX10_merges_131 (by decide)) (fun h => ?_) (fun h => ?_)
    · refine lv_iconst (v := 0) hx hb dX10_merges_185 (by decide) ?_
      refine lv_istore_n (lv' := [(2, .int 0), (0, .ref a), (1, .int x1)]) hx hb dX10_merges_186 rfl hl (by decide) rfl (fun ls hl => ?_)
      exact b_X10_merges_187 C FU hW (lv_sub hl [1, 2, 0] rfl) h
    · refine lv_iconst (v := 0) hx hb dX10_merges_134 (by decide) ?_
      refine lv_istore_n (lv' := [(3, .int 0), (0, .ref a), (1, .int x1), (2, .int x2)]) hx hb dX10_merges_135 rfl hl (by decide) rfl (fun ls hl => ?_)
      exact b_X10_merges_136 C (fun hW hl h => ih hW hl h) FU hW (lv_sub hl [1, 2, 3, 0] rfl) h
set_option maxRecDepth 20000 in
set_option maxHeartbeats 2000000 in
theorem b_X10_merges_89 {a : Nat} {x1 : Int32} (C : Cx g RX10 cX10_merges 4 none p s m args meth c) {r : Mx} : ∀ (n : Nat) {X : Mx} {x2 : Int32} {H : Heap} {locs : List Loc} {ls : Array Slot} (hW : Wd g σ X s H locs) (hl : lv_has ls 4 [(0, .ref a), (1, .int x1), (2, .int x2)]) (h : f_X10_merges_89 σ a x1 n X x2 = some r), W p l e (rmZ 6 146) s m args below meth c H locs 0 0 (QV g σ below args s r) (F0 m 89 ls []) := by
  have hx := C.x
  have hb := C.b
  intro n
  induction n with
  | zero =>
    intro X x2 H locs ls hW hl h
    cases (show none = some r from h)
  | succ n ih =>
    intro X x2 H locs ls hW hl h
    rw [f_X10_merges_89] at h
    refine lv_iload_n hx hb dX10_merges_89 rfl (lv_at hl 2 rfl) ?_
    refine lv_bipush (v := 20) hx hb dX10_merges_90 (by decide) ?_
    refine r_br h (lv_icmp_ge (tgt := 126) hx hb dX10_merges_92 (by decide)) (fun h => ?_) (fun h => ?_)
    · refine lv_iconst (v := 0) hx hb dX10_merges_126 (by decide) ?_
      refine lv_istore_n (lv' := [(2, .int 0), (0, .ref a), (1, .int x1)]) hx hb dX10_merges_127 rfl hl (by decide) rfl (fun ls hl => ?_)
      exact b_X10_merges_128 C FU hW (lv_sub hl [1, 2, 0] rfl) h
    · refine lv_aload_n hx hb dX10_merges_95 rfl (lv_at hl 0 rfl) ?_
      refine lv_dup hx hb dX10_merges_96 rfl ?_
      refine r_gI C hW h fl_X10_323 (by decide) dX10_merges_97 (fun v1 h => ?_)
      refine lv_aload_n hx hb dX10_merges_100 rfl (lv_at hl 0 rfl) ?_
      refine lv_iload_n hx hb dX10_merges_101 rfl (lv_at hl 1 rfl) ?_
      refine lv_iload_n hx hb dX10_merges_102 rfl (lv_at hl 2 rfl) ?_
      obtain ⟨v4, X3, h2, h⟩ := bnd2_inv h
      refine r_cI hW (run_V (rest := [.int v1, .ref a]) C hW (t_X10_isMergedRow h2) mk_X10_isMergedRow vk_X10_345 (kd_X10_isMergedRow h2) rfl rfl (by decide) ⟨Nat.le_of_ble_eq_true rfl, Nat.le_of_ble_eq_true rfl⟩ ⟨Nat.zero_le _, Nat.zero_le _⟩ rfl rfl (Nat.le_of_ble_eq_true rfl) hl.1 dX10_merges_103) (fun H locs hW _ => ?_)
      refine r_br h (lv_if_eq (tgt := 115) hx hb dX10_merges_106 (by decide)) (fun h => ?_) (fun h => ?_)
      · refine lv_iconst (v := 0) hx hb dX10_merges_115 (by decide) ?_
        exact b_X10_merges_116 C (fun hW hl h => ih hW hl h) hW (lv_sub hl [0, 1, 2] rfl) h
      · refine lv_iconst (v := 1) hx hb dX10_merges_109 (by decide) ?_
        refine lv_iload_n hx hb dX10_merges_110 rfl (lv_at hl 2 rfl) ?_
        refine lv_ishl hx hb dX10_merges_111 ?_
        refine lv_goto (tgt := 116) hx hb dX10_merges_112 (by decide) ?_
        exact b_X10_merges_116 C (fun hW hl h => ih hW hl h) hW (lv_sub hl [0, 1, 2] rfl) h
set_option maxRecDepth 20000 in
set_option maxHeartbeats 2000000 in
theorem b_X10_merges_60 {a : Nat} {x1 : Int32} (C : Cx g RX10 cX10_merges 4 none p s m args meth c) {r : Mx} : ∀ (n : Nat) {X : Mx} {x2 : Int32} {H : Heap} {locs : List Loc} {ls : Array Slot} (hW : Wd g σ X s H locs) (hl : lv_has ls 4 [(0, .ref a), (1, .int x1), (2, .int x2)]) (h : f_X10_merges_60 σ a x1 n X x2 = some r), W p l e (rmZ 6 146) s m args below meth c H locs 0 0 (QV g σ below args s r) (F0 m 60 ls []) := by
  have hx := C.x
  have hb := C.b
  intro n
  induction n with
  | zero =>
    intro X x2 H locs ls hW hl h
    cases (show none = some r from h)
  | succ n ih =>
    intro X x2 H locs ls hW hl h
    rw [f_X10_merges_60] at h
    refine lv_iload_n hx hb dX10_merges_60 rfl (lv_at hl 2 rfl) ?_
    refine lv_iconst (v := 5) hx hb dX10_merges_61 (by decide) ?_
    refine r_br h (lv_icmp_ge (tgt := 77) hx hb dX10_merges_62 (by decide)) (fun h => ?_) (fun h => ?_)
    · refine lv_aload_n hx hb dX10_merges_77 rfl (lv_at hl 0 rfl) ?_
      refine lv_iload_n hx hb dX10_merges_78 rfl (lv_at hl 1 rfl) ?_
      obtain ⟨X2, h1, h⟩ := bnd_inv h
      refine r_cV hW (run_V (rest := []) C hW (t_X10_mergesAdded h1) mk_X10_mergesAdded vk_X10_339 (kd_X10_mergesAdded h1) rfl rfl (by decide) ⟨Nat.le_of_ble_eq_true rfl, Nat.le_of_ble_eq_true rfl⟩ ⟨Nat.zero_le _, Nat.zero_le _⟩ rfl rfl (Nat.le_of_ble_eq_true rfl) hl.1 dX10_merges_79) (fun H locs hW _ => ?_)
      refine lv_aload_n hx hb dX10_merges_82 rfl (lv_at hl 0 rfl) ?_
      refine lv_iload_n hx hb dX10_merges_83 rfl (lv_at hl 1 rfl) ?_
      obtain ⟨X4, h3, h⟩ := bnd_inv h
      refine r_cV hW (run_V (rest := []) C hW (t_X10_mergesNames h3) mk_X10_mergesNames vk_X10_342 (kd_X10_mergesNames h3) rfl rfl (by decide) ⟨Nat.le_of_ble_eq_true rfl, Nat.le_of_ble_eq_true rfl⟩ ⟨Nat.zero_le _, Nat.zero_le _⟩ rfl rfl (Nat.le_of_ble_eq_true rfl) hl.1 dX10_merges_84) (fun H locs hW _ => ?_)
      refine lv_iconst (v := 0) hx hb dX10_merges_87 (by decide) ?_
      refine lv_istore_n (lv' := [(2, .int 0), (0, .ref a), (1, .int x1)]) hx hb dX10_merges_88 rfl hl (by decide) rfl (fun ls hl => ?_)
      exact b_X10_merges_89 C FU hW (lv_sub hl [1, 2, 0] rfl) h
    · refine lv_aload_n hx hb dX10_merges_65 rfl (lv_at hl 0 rfl) ?_
      refine lv_iload_n hx hb dX10_merges_66 rfl (lv_at hl 1 rfl) ?_
      refine lv_iload_n hx hb dX10_merges_67 rfl (lv_at hl 2 rfl) ?_
      obtain ⟨X6, h5, h⟩ := bnd_inv h
      refine r_cV hW (run_V (rest := []) C hW (t_X10_mergesOwn h5) mk_X10_mergesOwn vk_X10_335 (kd_X10_mergesOwn h5) rfl rfl (by decide) ⟨Nat.le_of_ble_eq_true rfl, Nat.le_of_ble_eq_true rfl⟩ ⟨Nat.zero_le _, Nat.zero_le _⟩ rfl rfl (Nat.le_of_ble_eq_true rfl) hl.1 dX10_merges_68) (fun H locs hW _ => ?_)
      refine lv_iinc (v := (x2 + 1)) (lv' := [(2, .int (x2 + 1)), (0, .ref a), (1, .int x1)]) hx hb dX10_merges_71 hl (k := 2) rfl rfl (by decide) rfl (fun ls hl => ?_)
      refine lv_goto (tgt := 60) hx hb dX10_merges_74 (by decide) ?_
      exact ih hW (lv_sub hl [1, 2, 0] rfl) h
set_option maxRecDepth 20000 in
set_option maxHeartbeats 2000000 in
theorem b_X10_merges_39 {a : Nat} {x1 : Int32} (C : Cx g RX10 cX10_merges 4 none p s m args meth c) {r : Mx} : ∀ (n : Nat) {X : Mx} {x2 : Int32} {H : Heap} {locs : List Loc} {ls : Array Slot} (hW : Wd g σ X s H locs) (hl : lv_has ls 4 [(0, .ref a), (1, .int x1), (2, .int x2)]) (h : f_X10_merges_39 σ a x1 n X x2 = some r), W p l e (rmZ 6 146) s m args below meth c H locs 0 0 (QV g σ below args s r) (F0 m 39 ls []) := by
  have hx := C.x
  have hb := C.b
  intro n
  induction n with
  | zero =>
    intro X x2 H locs ls hW hl h
    cases (show none = some r from h)
  | succ n ih =>
    intro X x2 H locs ls hW hl h
    rw [f_X10_merges_39] at h
    refine lv_iload_n hx hb dX10_merges_39 rfl (lv_at hl 2 rfl) ?_
    refine lv_bipush (v := 18) hx hb dX10_merges_40 (by decide) ?_
    refine r_br h (lv_icmp_ge (tgt := 58) hx hb dX10_merges_42 (by decide)) (fun h => ?_) (fun h => ?_)
    · refine lv_iconst (v := 0) hx hb dX10_merges_58 (by decide) ?_
      refine lv_istore_n (lv' := [(2, .int 0), (0, .ref a), (1, .int x1)]) hx hb dX10_merges_59 rfl hl (by decide) rfl (fun ls hl => ?_)
      exact b_X10_merges_60 C FU hW (lv_sub hl [1, 2, 0] rfl) h
    · refine lv_aload_n hx hb dX10_merges_45 rfl (lv_at hl 0 rfl) ?_
      refine r_gR C hW h fl_X10_38 (by decide) dX10_merges_46 (fun b1 h => ?_)
      refine lv_iload_n hx hb dX10_merges_49 rfl (lv_at hl 2 rfl) ?_
      refine lv_iconst (v := (-1)) hx hb dX10_merges_50 (by decide) ?_
      refine r_iast C hW h dX10_merges_51 (fun X2 H locs h hW _ => ?_)
      refine lv_iinc (v := (x2 + 1)) (lv' := [(2, .int (x2 + 1)), (0, .ref a), (1, .int x1)]) hx hb dX10_merges_52 hl (k := 2) rfl rfl (by decide) rfl (fun ls hl => ?_)
      refine lv_goto (tgt := 39) hx hb dX10_merges_55 (by decide) ?_
      exact ih hW (lv_sub hl [1, 2, 0] rfl) h
set_option maxRecDepth 20000 in
set_option maxHeartbeats 2000000 in
theorem b_X10_merges_17 {a : Nat} {x1 : Int32} (C : Cx g RX10 cX10_merges 4 none p s m args meth c) {r : Mx} : ∀ (n : Nat) {X : Mx} {x2 : Int32} {H : Heap} {locs : List Loc} {ls : Array Slot} (hW : Wd g σ X s H locs) (hl : lv_has ls 4 [(0, .ref a), (1, .int x1), (2, .int x2)]) (h : f_X10_merges_17 σ a x1 n X x2 = some r), W p l e (rmZ 6 146) s m args below meth c H locs 0 0 (QV g σ below args s r) (F0 m 17 ls []) := by
  have hx := C.x
  have hb := C.b
  intro n
  induction n with
  | zero =>
    intro X x2 H locs ls hW hl h
    cases (show none = some r from h)
  | succ n ih =>
    intro X x2 H locs ls hW hl h
    rw [f_X10_merges_17] at h
    refine lv_iload_n hx hb dX10_merges_17 rfl (lv_at hl 2 rfl) ?_
    refine lv_sipush (v := 316) hx hb dX10_merges_18 (by decide) ?_
    refine r_br h (lv_icmp_ge (tgt := 37) hx hb dX10_merges_21 (by decide)) (fun h => ?_) (fun h => ?_)
    · refine lv_iconst (v := 0) hx hb dX10_merges_37 (by decide) ?_
      refine lv_istore_n (lv' := [(2, .int 0), (0, .ref a), (1, .int x1)]) hx hb dX10_merges_38 rfl hl (by decide) rfl (fun ls hl => ?_)
      exact b_X10_merges_39 C FU hW (lv_sub hl [1, 2, 0] rfl) h
    · refine lv_aload_n hx hb dX10_merges_24 rfl (lv_at hl 0 rfl) ?_
      refine r_gR C hW h fl_X10_44 (by decide) dX10_merges_25 (fun b1 h => ?_)
      refine lv_iload_n hx hb dX10_merges_28 rfl (lv_at hl 2 rfl) ?_
      refine lv_iconst (v := 0) hx hb dX10_merges_29 (by decide) ?_
      refine r_iast C hW h dX10_merges_30 (fun X2 H locs h hW _ => ?_)
      refine lv_iinc (v := (x2 + 1)) (lv' := [(2, .int (x2 + 1)), (0, .ref a), (1, .int x1)]) hx hb dX10_merges_31 hl (k := 2) rfl rfl (by decide) rfl (fun ls hl => ?_)
      refine lv_goto (tgt := 17) hx hb dX10_merges_34 (by decide) ?_
      exact ih hW (lv_sub hl [1, 2, 0] rfl) h
theorem kd_X10_merges {X : Mx} {r : Mx} {a : Nat} {x1 : Int32} (h : f_X10_merges σ X a x1 = some r) : shK σ a = 8 := (grd_inv h).1
set_option maxRecDepth 20000 in
set_option maxHeartbeats 2000000 in
theorem t_X10_merges {X : Mx} {r : Mx} {a : Nat} {x1 : Int32} (h : f_X10_merges σ X a x1 = some r) : MtV g l yX10_merges cX10_merges 4 none 6 146 [.ref a, .int x1] σ X r := by
  refine met_of mk_X10_merges (Nat.le_of_ble_eq_true rfl) (fun p e s m args below meth c ls C hW hl => ?_)
  have hx := C.x
  have hb := C.b
  have hl : lv_has ls 4 [(0, .ref a), (1, .int x1)] := hl
  unfold f_X10_merges at h
  obtain ⟨hk0, h⟩ := grd_inv h
  refine lv_aload_n hx hb dX10_merges_0 rfl (lv_at hl 0 rfl) ?_
  refine lv_iconst (v := 0) hx hb dX10_merges_1 (by decide) ?_
  refine r_pI C hW h pf_X10_291 (by decide) rfl rfl dX10_merges_2 (fun X1 H locs h hW _ => ?_)
  refine lv_aload_n hx hb dX10_merges_5 rfl (lv_at hl 0 rfl) ?_
  refine lv_iconst (v := 0) hx hb dX10_merges_6 (by decide) ?_
  refine r_pI C hW h pf_X10_323 (by decide) rfl rfl dX10_merges_7 (fun X2 H locs h hW _ => ?_)
  refine lv_aload_n hx hb dX10_merges_10 rfl (lv_at hl 0 rfl) ?_
  refine lv_iconst (v := 0) hx hb dX10_merges_11 (by decide) ?_
  refine r_pI C hW h pf_X10_282 (by decide) rfl rfl dX10_merges_12 (fun X3 H locs h hW _ => ?_)
  refine lv_iconst (v := 0) hx hb dX10_merges_15 (by decide) ?_
  refine lv_istore_n (lv' := [(2, .int 0), (0, .ref a), (1, .int x1)]) hx hb dX10_merges_16 rfl hl (by decide) rfl (fun ls hl => ?_)
  exact b_X10_merges_17 C FU hW (lv_sub hl [1, 2, 0] rfl) h
set_option maxRecDepth 20000 in
set_option maxHeartbeats 2000000 in
theorem b_X10_choicesThere_31 {k4 : Int32 → Int32 → Option Int32} {a : Nat} {x2 : Int32} (C : Cx g RX10 cX10_choicesThere 3 (some .int) p s m args meth c) {r : Int32} {X : Mx} {y0 : Int32} {y1 : Int32} (hk4 : ∀ {H' : Heap} {locs' : List Loc} {ls' : Array Slot} {x1' : Int32} {x2' : Int32}, Wd g σ X s H' locs' → lv_has ls' 3 [(0, .ref a), (1, .int x1'), (2, .int x2')] → k4 x1' x2' = some r → W p l e (rmZ 0 0) s m args below meth c H' locs' 0 0 (QI g σ below args s (r, X)) (F0 m 4 ls' [])) (hW : Wd g σ X s H locs) (hl : lv_has ls 3 [(0, .ref a), (2, .int x2)]) (h : f_X10_choicesThere_31 k4 σ X a x2 y0 y1 = some r) : W p l e (rmZ 0 0) s m args below meth c H locs 0 0 (QI g σ below args s (r, X)) (F0 m 31 ls [.int y1, .int y0]) := by
  have hx := C.x
  have hb := C.b
  unfold f_X10_choicesThere_31 at h
  refine lv_iadd hx hb dX10_choicesThere_31 ?_
  refine lv_istore_n (lv' := [(1, .int (y0 + y1)), (0, .ref a), (2, .int x2)]) hx hb dX10_choicesThere_32 rfl hl (by decide) rfl (fun ls hl => ?_)
  refine lv_iinc (v := (x2 + 1)) (lv' := [(2, .int (x2 + 1)), (1, .int (y0 + y1)), (0, .ref a)]) hx hb dX10_choicesThere_33 hl (k := 2) rfl rfl (by decide) rfl (fun ls hl => ?_)
  refine lv_goto (tgt := 4) hx hb dX10_choicesThere_36 (by decide) ?_
  exact hk4 hW (lv_sub hl [2, 1, 0] rfl) h
set_option maxRecDepth 20000 in
set_option maxHeartbeats 2000000 in
theorem b_X10_choicesThere_4 {a : Nat} (C : Cx g RX10 cX10_choicesThere 3 (some .int) p s m args meth c) {r : Int32} {X : Mx} : ∀ (n : Nat) {x1 : Int32} {x2 : Int32} {H : Heap} {locs : List Loc} {ls : Array Slot} (hW : Wd g σ X s H locs) (hl : lv_has ls 3 [(0, .ref a), (1, .int x1), (2, .int x2)]) (h : f_X10_choicesThere_4 σ X a n x1 x2 = some r), W p l e (rmZ 0 0) s m args below meth c H locs 0 0 (QI g σ below args s (r, X)) (F0 m 4 ls []) := by
  have hx := C.x
  have hb := C.b
  intro n
  induction n with
  | zero =>
    intro x1 x2 H locs ls hW hl h
    cases (show none = some r from h)
  | succ n ih =>
    intro x1 x2 H locs ls hW hl h
    rw [f_X10_choicesThere_4] at h
    refine lv_iload_n hx hb dX10_choicesThere_4 rfl (lv_at hl 2 rfl) ?_
    refine lv_sipush (v := 316) hx hb dX10_choicesThere_5 (by decide) ?_
    refine r_br h (lv_icmp_ge (tgt := 39) hx hb dX10_choicesThere_8 (by decide)) (fun h => ?_) (fun h => ?_)
    · refine lv_iload_n hx hb dX10_choicesThere_39 rfl (lv_at hl 1 rfl) ?_
      exact r_iret C hW (rt_R h) rfl dX10_choicesThere_40
    · refine lv_iload_n hx hb dX10_choicesThere_11 rfl (lv_at hl 1 rfl) ?_
      refine lv_aload_n hx hb dX10_choicesThere_12 rfl (lv_at hl 0 rfl) ?_
      refine r_gR C hW h fl_X10_20 (by decide) dX10_choicesThere_13 (fun b1 h => ?_)
      refine lv_sipush (v := 615) hx hb dX10_choicesThere_16 (by decide) ?_
      refine lv_iload_n hx hb dX10_choicesThere_19 rfl (lv_at hl 2 rfl) ?_
      refine lv_iadd hx hb dX10_choicesThere_20 ?_
      refine r_iald C hW h dX10_choicesThere_21 (fun v2 h => ?_)
      refine lv_iconst (v := (-1)) hx hb dX10_choicesThere_22 (by decide) ?_
      refine r_brn h (lv_icmp_ne (tgt := 30) hx hb dX10_choicesThere_23 (by decide)) (fun h => ?_) (fun h => ?_)
      · refine lv_iconst (v := 1) hx hb dX10_choicesThere_30 (by decide) ?_
        exact b_X10_choicesThere_31 C (fun hW hl h => ih hW hl h) hW (lv_sub hl [0, 2] rfl) h
      · refine lv_iconst (v := 0) hx hb dX10_choicesThere_26 (by decide) ?_
        refine lv_goto (tgt := 31) hx hb dX10_choicesThere_27 (by decide) ?_
        exact b_X10_choicesThere_31 C (fun hW hl h => ih hW hl h) hW (lv_sub hl [0, 2] rfl) h
theorem kd_X10_choicesThere {X : Mx} {r : Int32} {a : Nat} (h : f_X10_choicesThere σ X a = some r) : shK σ a = 8 := (grd_inv h).1
set_option maxRecDepth 20000 in
set_option maxHeartbeats 2000000 in
theorem t_X10_choicesThere {X : Mx} {r : Int32} {a : Nat} (h : f_X10_choicesThere σ X a = some r) : MtI g l yX10_choicesThere cX10_choicesThere 3 (some .int) 0 0 [.ref a] σ X (r, X) := by
  refine met_of mk_X10_choicesThere (Nat.le_of_ble_eq_true rfl) (fun p e s m args below meth c ls C hW hl => ?_)
  have hx := C.x
  have hb := C.b
  have hl : lv_has ls 3 [(0, .ref a)] := hl
  unfold f_X10_choicesThere at h
  obtain ⟨hk0, h⟩ := grd_inv h
  refine lv_iconst (v := 0) hx hb dX10_choicesThere_0 (by decide) ?_
  refine lv_istore_n (lv' := [(1, .int 0), (0, .ref a)]) hx hb dX10_choicesThere_1 rfl hl (by decide) rfl (fun ls hl => ?_)
  refine lv_iconst (v := 0) hx hb dX10_choicesThere_2 (by decide) ?_
  refine lv_istore_n (lv' := [(2, .int 0), (1, .int 0), (0, .ref a)]) hx hb dX10_choicesThere_3 rfl hl (by decide) rfl (fun ls hl => ?_)
  exact b_X10_choicesThere_4 C FU hW (lv_sub hl [2, 1, 0] rfl) h
set_option maxRecDepth 20000 in
set_option maxHeartbeats 2000000 in
theorem b_X10_choicesWaiting_41 {k4 : Int32 → Int32 → Option Int32} {a : Nat} {x2 : Int32} (C : Cx g RX10 cX10_choicesWaiting 3 (some .int) p s m args meth c) {r : Int32} {X : Mx} {y0 : Int32} {y1 : Int32} (hk4 : ∀ {H' : Heap} {locs' : List Loc} {ls' : Array Slot} {x1' : Int32} {x2' : Int32}, Wd g σ X s H' locs' → lv_has ls' 3 [(0, .ref a), (1, .int x1'), (2, .int x2')] → k4 x1' x2' = some r → W p l e (rmZ 0 0) s m args below meth c H' locs' 0 0 (QI g σ below args s (r, X)) (F0 m 4 ls' [])) (hW : Wd g σ X s H locs) (hl : lv_has ls 3 [(0, .ref a), (2, .int x2)]) (h : f_X10_choicesWaiting_41 k4 σ X a x2 y0 y1 = some r) : W p l e (rmZ 0 0) s m args below meth c H locs 0 0 (QI g σ below args s (r, X)) (F0 m 41 ls [.int y1, .int y0]) := by
  have hx := C.x
  have hb := C.b
  unfold f_X10_choicesWaiting_41 at h
  refine lv_iadd hx hb dX10_choicesWaiting_41 ?_
  refine lv_istore_n (lv' := [(1, .int (y0 + y1)), (0, .ref a), (2, .int x2)]) hx hb dX10_choicesWaiting_42 rfl hl (by decide) rfl (fun ls hl => ?_)
  refine lv_iinc (v := (x2 + 1)) (lv' := [(2, .int (x2 + 1)), (1, .int (y0 + y1)), (0, .ref a)]) hx hb dX10_choicesWaiting_43 hl (k := 2) rfl rfl (by decide) rfl (fun ls hl => ?_)
  refine lv_goto (tgt := 4) hx hb dX10_choicesWaiting_46 (by decide) ?_
  exact hk4 hW (lv_sub hl [2, 1, 0] rfl) h
set_option maxRecDepth 20000 in
set_option maxHeartbeats 2000000 in
theorem b_X10_choicesWaiting_36 {k4 : Int32 → Int32 → Option Int32} {a : Nat} {x2 : Int32} (C : Cx g RX10 cX10_choicesWaiting 3 (some .int) p s m args meth c) {r : Int32} {X : Mx} {y0 : Int32} (hk4 : ∀ {H' : Heap} {locs' : List Loc} {ls' : Array Slot} {x1' : Int32} {x2' : Int32}, Wd g σ X s H' locs' → lv_has ls' 3 [(0, .ref a), (1, .int x1'), (2, .int x2')] → k4 x1' x2' = some r → W p l e (rmZ 0 0) s m args below meth c H' locs' 0 0 (QI g σ below args s (r, X)) (F0 m 4 ls' [])) (hW : Wd g σ X s H locs) (hl : lv_has ls 3 [(0, .ref a), (2, .int x2)]) (h : f_X10_choicesWaiting_36 k4 σ X a x2 y0 = some r) : W p l e (rmZ 0 0) s m args below meth c H locs 0 0 (QI g σ below args s (r, X)) (F0 m 36 ls [.int y0]) := by
  have hx := C.x
  have hb := C.b
  unfold f_X10_choicesWaiting_36 at h
  refine lv_iconst (v := 0) hx hb dX10_choicesWaiting_36 (by decide) ?_
  refine lv_goto (tgt := 41) hx hb dX10_choicesWaiting_37 (by decide) ?_
  exact b_X10_choicesWaiting_41 C hk4 hW (lv_sub hl [0, 1] rfl) h
set_option maxRecDepth 20000 in
set_option maxHeartbeats 2000000 in
theorem b_X10_choicesWaiting_4 {a : Nat} (C : Cx g RX10 cX10_choicesWaiting 3 (some .int) p s m args meth c) {r : Int32} {X : Mx} : ∀ (n : Nat) {x1 : Int32} {x2 : Int32} {H : Heap} {locs : List Loc} {ls : Array Slot} (hW : Wd g σ X s H locs) (hl : lv_has ls 3 [(0, .ref a), (1, .int x1), (2, .int x2)]) (h : f_X10_choicesWaiting_4 σ X a n x1 x2 = some r), W p l e (rmZ 0 0) s m args below meth c H locs 0 0 (QI g σ below args s (r, X)) (F0 m 4 ls []) := by
  have hx := C.x
  have hb := C.b
  intro n
  induction n with
  | zero =>
    intro x1 x2 H locs ls hW hl h
    cases (show none = some r from h)
  | succ n ih =>
    intro x1 x2 H locs ls hW hl h
    rw [f_X10_choicesWaiting_4] at h
    refine lv_iload_n hx hb dX10_choicesWaiting_4 rfl (lv_at hl 2 rfl) ?_
    refine lv_sipush (v := 316) hx hb dX10_choicesWaiting_5 (by decide) ?_
    refine r_br h (lv_icmp_ge (tgt := 49) hx hb dX10_choicesWaiting_8 (by decide)) (fun h => ?_) (fun h => ?_)
    · refine lv_iload_n hx hb dX10_choicesWaiting_49 rfl (lv_at hl 1 rfl) ?_
      exact r_iret C hW (rt_R h) rfl dX10_choicesWaiting_50
    · refine lv_iload_n hx hb dX10_choicesWaiting_11 rfl (lv_at hl 1 rfl) ?_
      refine lv_aload_n hx hb dX10_choicesWaiting_12 rfl (lv_at hl 0 rfl) ?_
      refine r_gR C hW h fl_X10_20 (by decide) dX10_choicesWaiting_13 (fun b1 h => ?_)
      refine lv_sipush (v := 615) hx hb dX10_choicesWaiting_16 (by decide) ?_
      refine lv_iload_n hx hb dX10_choicesWaiting_19 rfl (lv_at hl 2 rfl) ?_
      refine lv_iadd hx hb dX10_choicesWaiting_20 ?_
      refine r_iald C hW h dX10_choicesWaiting_21 (fun v2 h => ?_)
      refine lv_iconst (v := (-1)) hx hb dX10_choicesWaiting_22 (by decide) ?_
      refine r_br h (lv_icmp_eq (tgt := 36) hx hb dX10_choicesWaiting_23 (by decide)) (fun h => ?_) (fun h => ?_)
      · exact b_X10_choicesWaiting_36 C (fun hW hl h => ih hW hl h) hW (lv_sub hl [0, 2] rfl) h
      · refine lv_aload_n hx hb dX10_choicesWaiting_26 rfl (lv_at hl 0 rfl) ?_
        refine r_gR C hW h fl_X10_44 (by decide) dX10_choicesWaiting_27 (fun b3 h => ?_)
        refine lv_iload_n hx hb dX10_choicesWaiting_30 rfl (lv_at hl 2 rfl) ?_
        refine r_iald C hW h dX10_choicesWaiting_31 (fun v4 h => ?_)
        refine lv_iconst (v := 1) hx hb dX10_choicesWaiting_32 (by decide) ?_
        refine r_brn h (lv_icmp_ne (tgt := 40) hx hb dX10_choicesWaiting_33 (by decide)) (fun h => ?_) (fun h => ?_)
        · refine lv_iconst (v := 1) hx hb dX10_choicesWaiting_40 (by decide) ?_
          exact b_X10_choicesWaiting_41 C (fun hW hl h => ih hW hl h) hW (lv_sub hl [0, 2] rfl) h
        · exact b_X10_choicesWaiting_36 C (fun hW hl h => ih hW hl h) hW (lv_sub hl [0, 2] rfl) h
theorem kd_X10_choicesWaiting {X : Mx} {r : Int32} {a : Nat} (h : f_X10_choicesWaiting σ X a = some r) : shK σ a = 8 := (grd_inv h).1
set_option maxRecDepth 20000 in
set_option maxHeartbeats 2000000 in
theorem t_X10_choicesWaiting {X : Mx} {r : Int32} {a : Nat} (h : f_X10_choicesWaiting σ X a = some r) : MtI g l yX10_choicesWaiting cX10_choicesWaiting 3 (some .int) 0 0 [.ref a] σ X (r, X) := by
  refine met_of mk_X10_choicesWaiting (Nat.le_of_ble_eq_true rfl) (fun p e s m args below meth c ls C hW hl => ?_)
  have hx := C.x
  have hb := C.b
  have hl : lv_has ls 3 [(0, .ref a)] := hl
  unfold f_X10_choicesWaiting at h
  obtain ⟨hk0, h⟩ := grd_inv h
  refine lv_iconst (v := 0) hx hb dX10_choicesWaiting_0 (by decide) ?_
  refine lv_istore_n (lv' := [(1, .int 0), (0, .ref a)]) hx hb dX10_choicesWaiting_1 rfl hl (by decide) rfl (fun ls hl => ?_)
  refine lv_iconst (v := 0) hx hb dX10_choicesWaiting_2 (by decide) ?_
  refine lv_istore_n (lv' := [(2, .int 0), (1, .int 0), (0, .ref a)]) hx hb dX10_choicesWaiting_3 rfl hl (by decide) rfl (fun ls hl => ?_)
  exact b_X10_choicesWaiting_4 C FU hW (lv_sub hl [2, 1, 0] rfl) h
set_option maxRecDepth 20000 in
set_option maxHeartbeats 2000000 in
theorem b_X10_filled_62 {k4 : Int32 → Int32 → Option Int32} {k12 : Int32 → Int32 → Option Int32} {a : Nat} {x1 : Int32} {x2 : Int32} {x3 : Int32} (C : Cx g RX10 cX10_filled 4 (some .int) p s m args meth c) {r : Int32} {X : Mx} (hk4 : ∀ {H' : Heap} {locs' : List Loc} {ls' : Array Slot} {x1' : Int32} {x2' : Int32}, Wd g σ X s H' locs' → lv_has ls' 4 [(0, .ref a), (1, .int x1'), (2, .int x2')] → k4 x1' x2' = some r → W p l e (rmZ 1 22) s m args below meth c H' locs' 0 0 (QI g σ below args s (r, X)) (F0 m 4 ls' [])) (hk12 : ∀ {H' : Heap} {locs' : List Loc} {ls' : Array Slot} {x1' : Int32} {x3' : Int32}, Wd g σ X s H' locs' → lv_has ls' 4 [(0, .ref a), (1, .int x1'), (2, .int x2), (3, .int x3')] → k12 x1' x3' = some r → W p l e (rmZ 1 22) s m args below meth c H' locs' 0 0 (QI g σ below args s (r, X)) (F0 m 12 ls' [])) (hW : Wd g σ X s H locs) (hl : lv_has ls 4 [(0, .ref a), (1, .int x1), (2, .int x2), (3, .int x3)]) (h : f_X10_filled_62 k4 k12 σ X a x1 x2 x3 = some r) : W p l e (rmZ 1 22) s m args below meth c H locs 0 0 (QI g σ below args s (r, X)) (F0 m 62 ls []) := by
  have hx := C.x
  have hb := C.b
  unfold f_X10_filled_62 at h
  refine lv_iinc (v := (x3 + 1)) (lv' := [(3, .int (x3 + 1)), (0, .ref a), (1, .int x1), (2, .int x2)]) hx hb dX10_filled_62 hl (k := 3) rfl rfl (by decide) rfl (fun ls hl => ?_)
  refine lv_goto (tgt := 12) hx hb dX10_filled_65 (by decide) ?_
  exact hk12 hW (lv_sub hl [1, 2, 3, 0] rfl) h
set_option maxRecDepth 20000 in
set_option maxHeartbeats 2000000 in
theorem b_X10_filled_60 {k4 : Int32 → Int32 → Option Int32} {k12 : Int32 → Int32 → Option Int32} {a : Nat} {x2 : Int32} {x3 : Int32} (C : Cx g RX10 cX10_filled 4 (some .int) p s m args meth c) {r : Int32} {X : Mx} {y0 : Int32} {y1 : Int32} (hk4 : ∀ {H' : Heap} {locs' : List Loc} {ls' : Array Slot} {x1' : Int32} {x2' : Int32}, Wd g σ X s H' locs' → lv_has ls' 4 [(0, .ref a), (1, .int x1'), (2, .int x2')] → k4 x1' x2' = some r → W p l e (rmZ 1 22) s m args below meth c H' locs' 0 0 (QI g σ below args s (r, X)) (F0 m 4 ls' [])) (hk12 : ∀ {H' : Heap} {locs' : List Loc} {ls' : Array Slot} {x1' : Int32} {x3' : Int32}, Wd g σ X s H' locs' → lv_has ls' 4 [(0, .ref a), (1, .int x1'), (2, .int x2), (3, .int x3')] → k12 x1' x3' = some r → W p l e (rmZ 1 22) s m args below meth c H' locs' 0 0 (QI g σ below args s (r, X)) (F0 m 12 ls' [])) (hW : Wd g σ X s H locs) (hl : lv_has ls 4 [(0, .ref a), (2, .int x2), (3, .int x3)]) (h : f_X10_filled_60 k4 k12 σ X a x2 x3 y0 y1 = some r) : W p l e (rmZ 1 22) s m args below meth c H locs 0 0 (QI g σ below args s (r, X)) (F0 m 60 ls [.int y1, .int y0]) := by
  have hx := C.x
  have hb := C.b
  unfold f_X10_filled_60 at h
  refine lv_iadd hx hb dX10_filled_60 ?_
  refine lv_istore_n (lv' := [(1, .int (y0 + y1)), (0, .ref a), (2, .int x2), (3, .int x3)]) hx hb dX10_filled_61 rfl hl (by decide) rfl (fun ls hl => ?_)
  exact b_X10_filled_62 C hk4 hk12 hW (lv_sub hl [1, 0, 2, 3] rfl) h
set_option maxRecDepth 20000 in
set_option maxHeartbeats 2000000 in
theorem b_X10_filled_12 {k4 : Int32 → Int32 → Option Int32} {a : Nat} {x2 : Int32} (C : Cx g RX10 cX10_filled 4 (some .int) p s m args meth c) {r : Int32} {X : Mx} (hk4 : ∀ {H' : Heap} {locs' : List Loc} {ls' : Array Slot} {x1' : Int32} {x2' : Int32}, Wd g σ X s H' locs' → lv_has ls' 4 [(0, .ref a), (1, .int x1'), (2, .int x2')] → k4 x1' x2' = some r → W p l e (rmZ 1 22) s m args below meth c H' locs' 0 0 (QI g σ below args s (r, X)) (F0 m 4 ls' [])) : ∀ (n : Nat) {x1 : Int32} {x3 : Int32} {H : Heap} {locs : List Loc} {ls : Array Slot} (hW : Wd g σ X s H locs) (hl : lv_has ls 4 [(0, .ref a), (1, .int x1), (2, .int x2), (3, .int x3)]) (h : f_X10_filled_12 k4 σ X a x2 n x1 x3 = some r), W p l e (rmZ 1 22) s m args below meth c H locs 0 0 (QI g σ below args s (r, X)) (F0 m 12 ls []) := by
  have hx := C.x
  have hb := C.b
  intro n
  induction n with
  | zero =>
    intro x1 x3 H locs ls hW hl h
    cases (show none = some r from h)
  | succ n ih =>
    intro x1 x3 H locs ls hW hl h
    rw [f_X10_filled_12] at h
    refine lv_iload_n hx hb dX10_filled_12 rfl (lv_at hl 3 rfl) ?_
    refine lv_bipush (v := 9) hx hb dX10_filled_13 (by decide) ?_
    refine r_br h (lv_icmp_ge (tgt := 68) hx hb dX10_filled_15 (by decide)) (fun h => ?_) (fun h => ?_)
    · refine lv_iinc (v := (x2 + 1)) (lv' := [(2, .int (x2 + 1)), (0, .ref a), (1, .int x1), (3, .int x3)]) hx hb dX10_filled_68 hl (k := 2) rfl rfl (by decide) rfl (fun ls hl => ?_)
      refine lv_goto (tgt := 4) hx hb dX10_filled_71 (by decide) ?_
      exact hk4 hW (lv_sub hl [1, 2, 0] rfl) h
    · refine lv_aload_n hx hb dX10_filled_18 rfl (lv_at hl 0 rfl) ?_
      refine r_gI C hW h fl_X10_323 (by decide) dX10_filled_19 (fun v1 h => ?_)
      refine lv_iload_n hx hb dX10_filled_22 rfl (lv_at hl 2 rfl) ?_
      refine lv_ishr hx hb dX10_filled_23 ?_
      refine lv_iconst (v := 1) hx hb dX10_filled_24 (by decide) ?_
      refine lv_iand hx hb dX10_filled_25 ?_
      refine lv_iconst (v := 1) hx hb dX10_filled_26 (by decide) ?_
      refine r_brn h (lv_icmp_ne (tgt := 62) hx hb dX10_filled_27 (by decide)) (fun h => ?_) (fun h => ?_)
      · exact b_X10_filled_62 C hk4 (fun hW hl h => ih hW hl h) hW (lv_sub hl [0, 1, 2, 3] rfl) h
      · refine lv_aload_n hx hb dX10_filled_30 rfl (lv_at hl 0 rfl) ?_
        refine r_gI C hW h fl_X10_291 (by decide) dX10_filled_31 (fun v2 h => ?_)
        refine lv_iload_n hx hb dX10_filled_34 rfl (lv_at hl 3 rfl) ?_
        refine lv_ishr hx hb dX10_filled_35 ?_
        refine lv_iconst (v := 1) hx hb dX10_filled_36 (by decide) ?_
        refine lv_iand hx hb dX10_filled_37 ?_
        refine lv_iconst (v := 1) hx hb dX10_filled_38 (by decide) ?_
        refine r_brn h (lv_icmp_ne (tgt := 62) hx hb dX10_filled_39 (by decide)) (fun h => ?_) (fun h => ?_)
        · exact b_X10_filled_62 C hk4 (fun hW hl h => ih hW hl h) hW (lv_sub hl [0, 1, 2, 3] rfl) h
        · refine lv_iload_n hx hb dX10_filled_42 rfl (lv_at hl 1 rfl) ?_
          refine lv_aload_n hx hb dX10_filled_43 rfl (lv_at hl 0 rfl) ?_
          refine lv_iload_n hx hb dX10_filled_44 rfl (lv_at hl 2 rfl) ?_
          refine lv_iload_n hx hb dX10_filled_45 rfl (lv_at hl 3 rfl) ?_
          obtain ⟨v4, h3, h⟩ := bnd_inv h
          refine r_cI hW (run_V (rest := [.int x1]) C hW (t_X10_mergedAt h3) mk_X10_mergedAt vk_X10_326 (kd_X10_mergedAt h3) rfl rfl (by decide) ⟨Nat.le_of_ble_eq_true rfl, Nat.le_of_ble_eq_true rfl⟩ ⟨Nat.zero_le _, Nat.zero_le _⟩ rfl rfl (Nat.le_of_ble_eq_true rfl) hl.1 dX10_filled_46) (fun H locs hW _ => ?_)
          refine lv_sipush (v := 9999) hx hb dX10_filled_49 (by decide) ?_
          refine r_brn h (lv_icmp_ne (tgt := 59) hx hb dX10_filled_52 (by decide)) (fun h => ?_) (fun h => ?_)
          · refine lv_iconst (v := 1) hx hb dX10_filled_59 (by decide) ?_
            exact b_X10_filled_60 C hk4 (fun hW hl h => ih hW hl h) hW (lv_sub hl [0, 2, 3] rfl) h
          · refine lv_iconst (v := 0) hx hb dX10_filled_55 (by decide) ?_
            refine lv_goto (tgt := 60) hx hb dX10_filled_56 (by decide) ?_
            exact b_X10_filled_60 C hk4 (fun hW hl h => ih hW hl h) hW (lv_sub hl [0, 2, 3] rfl) h
set_option maxRecDepth 20000 in
set_option maxHeartbeats 2000000 in
theorem b_X10_filled_4 {a : Nat} (C : Cx g RX10 cX10_filled 4 (some .int) p s m args meth c) {r : Int32} {X : Mx} : ∀ (n : Nat) {x1 : Int32} {x2 : Int32} {H : Heap} {locs : List Loc} {ls : Array Slot} (hW : Wd g σ X s H locs) (hl : lv_has ls 4 [(0, .ref a), (1, .int x1), (2, .int x2)]) (h : f_X10_filled_4 σ X a n x1 x2 = some r), W p l e (rmZ 1 22) s m args below meth c H locs 0 0 (QI g σ below args s (r, X)) (F0 m 4 ls []) := by
  have hx := C.x
  have hb := C.b
  intro n
  induction n with
  | zero =>
    intro x1 x2 H locs ls hW hl h
    cases (show none = some r from h)
  | succ n ih =>
    intro x1 x2 H locs ls hW hl h
    rw [f_X10_filled_4] at h
    refine lv_iload_n hx hb dX10_filled_4 rfl (lv_at hl 2 rfl) ?_
    refine lv_bipush (v := 20) hx hb dX10_filled_5 (by decide) ?_
    refine r_br h (lv_icmp_ge (tgt := 74) hx hb dX10_filled_7 (by decide)) (fun h => ?_) (fun h => ?_)
    · refine lv_iload_n hx hb dX10_filled_74 rfl (lv_at hl 1 rfl) ?_
      exact r_iret C hW (rt_R h) rfl dX10_filled_75
    · refine lv_iconst (v := 0) hx hb dX10_filled_10 (by decide) ?_
      refine lv_istore_n (lv' := [(3, .int 0), (0, .ref a), (1, .int x1), (2, .int x2)]) hx hb dX10_filled_11 rfl hl (by decide) rfl (fun ls hl => ?_)
      exact b_X10_filled_12 C (fun hW hl h => ih hW hl h) FU hW (lv_sub hl [1, 2, 3, 0] rfl) h
theorem kd_X10_filled {X : Mx} {r : Int32} {a : Nat} (h : f_X10_filled σ X a = some r) : shK σ a = 8 := (grd_inv h).1
set_option maxRecDepth 20000 in
set_option maxHeartbeats 2000000 in
theorem t_X10_filled {X : Mx} {r : Int32} {a : Nat} (h : f_X10_filled σ X a = some r) : MtI g l yX10_filled cX10_filled 4 (some .int) 1 22 [.ref a] σ X (r, X) := by
  refine met_of mk_X10_filled (Nat.le_of_ble_eq_true rfl) (fun p e s m args below meth c ls C hW hl => ?_)
  have hx := C.x
  have hb := C.b
  have hl : lv_has ls 4 [(0, .ref a)] := hl
  unfold f_X10_filled at h
  obtain ⟨hk0, h⟩ := grd_inv h
  refine lv_iconst (v := 0) hx hb dX10_filled_0 (by decide) ?_
  refine lv_istore_n (lv' := [(1, .int 0), (0, .ref a)]) hx hb dX10_filled_1 rfl hl (by decide) rfl (fun ls hl => ?_)
  refine lv_iconst (v := 0) hx hb dX10_filled_2 (by decide) ?_
  refine lv_istore_n (lv' := [(2, .int 0), (1, .int 0), (0, .ref a)]) hx hb dX10_filled_3 rfl hl (by decide) rfl (fun ls hl => ?_)
  exact b_X10_filled_4 C FU hW (lv_sub hl [2, 1, 0] rfl) h
theorem kd_X10_count {X : Mx} {r : (Int32 × Mx)} {a : Nat} {x1 : Int32} (h : f_X10_count σ X a x1 = some r) : shK σ a = 8 := (grd_inv h).1
set_option maxRecDepth 20000 in
set_option maxHeartbeats 2000000 in
theorem t_X10_count {X : Mx} {r : (Int32 × Mx)} {a : Nat} {x1 : Int32} (h : f_X10_count σ X a x1 = some r) : MtI g l yX10_count cX10_count 2 (some .int) 7 169 [.ref a, .int x1] σ X r := by
  refine met_of mk_X10_count (Nat.le_of_ble_eq_true rfl) (fun p e s m args below meth c ls C hW hl => ?_)
  have hx := C.x
  have hb := C.b
  have hl : lv_has ls 2 [(0, .ref a), (1, .int x1)] := hl
  unfold f_X10_count at h
  obtain ⟨hk0, h⟩ := grd_inv h
  refine lv_aload_n hx hb dX10_count_0 rfl (lv_at hl 0 rfl) ?_
  refine lv_iconst (v := 0) hx hb dX10_count_1 (by decide) ?_
  refine r_pI C hW h pf_X10_65 (by decide) rfl rfl dX10_count_2 (fun X1 H locs h hW _ => ?_)
  refine lv_aload_n hx hb dX10_count_5 rfl (lv_at hl 0 rfl) ?_
  refine lv_iload_n hx hb dX10_count_6 rfl (lv_at hl 1 rfl) ?_
  refine lv_iconst (v := 0) hx hb dX10_count_7 (by decide) ?_
  refine lv_bipush (v := 14) hx hb dX10_count_8 (by decide) ?_
  refine r_cI hW (run_S (rest := [.ref a]) C hW (t_X10_within (X := X1)) mk_X10_within sk_X10_231 ⟨Nat.le_of_ble_eq_true rfl, Nat.le_of_ble_eq_true rfl⟩ ⟨Nat.zero_le _, Nat.zero_le _⟩ rfl rfl (Nat.le_of_ble_eq_true rfl) hl.1 dX10_count_10) (fun H locs hW _ => ?_)
  refine lv_iconst (v := 1) hx hb dX10_count_13 (by decide) ?_
  obtain ⟨v4, X3, h2, h⟩ := bnd2_inv h
  refine r_cI hW (run_V (rest := []) C hW (t_X10_right h2) mk_X10_right vk_X10_214 (kd_X10_right h2) rfl rfl (by decide) ⟨Nat.le_of_ble_eq_true rfl, Nat.le_of_ble_eq_true rfl⟩ ⟨Nat.zero_le _, Nat.zero_le _⟩ rfl rfl (Nat.le_of_ble_eq_true rfl) hl.1 dX10_count_14) (fun H locs hW _ => ?_)
  refine r_brn h (lv_if_ne (tgt := 22) hx hb dX10_count_17 (by decide)) (fun h => ?_) (fun h => ?_)
  · refine lv_aload_n hx hb dX10_count_22 rfl (lv_at hl 0 rfl) ?_
    refine lv_iconst (v := 0) hx hb dX10_count_23 (by decide) ?_
    obtain ⟨X6, h5, h⟩ := bnd_inv h
    refine r_cV hW (run_V (rest := []) C hW (t_X10_merges h5) mk_X10_merges vk_X10_354 (kd_X10_merges h5) rfl rfl (by decide) ⟨Nat.le_of_ble_eq_true rfl, Nat.le_of_ble_eq_true rfl⟩ ⟨Nat.zero_le _, Nat.zero_le _⟩ rfl rfl (Nat.le_of_ble_eq_true rfl) hl.1 dX10_count_24) (fun H locs hW _ => ?_)
    refine lv_iload_n hx hb dX10_count_27 rfl (lv_at hl 1 rfl) ?_
    refine r_case h (fun ec h => ?_) (fun nc0 h => ?_)
    · refine lv_tableIn (tgt := 92) (off := 64) hx hb dX10_count_28 (by rw [ec]; decide) (by rw [ec]; decide) (by rw [ec]; rfl) (by decide) ?_
      refine lv_aload_n hx hb dX10_count_92 rfl (lv_at hl 0 rfl) ?_
      refine r_gR C hW h fl_X10_20 (by decide) dX10_count_93 (fun b7 h => ?_)
      refine lv_sipush (v := 400) hx hb dX10_count_96 (by decide) ?_
      refine r_iald C hW h dX10_count_99 (fun v8 h => ?_)
      obtain ⟨v10, h9, h⟩ := bnd_inv h
      refine r_cI hW (run_S (rest := []) C hW (t_X10_bits h9) mk_X10_bits sk_X10_240 ⟨Nat.le_of_ble_eq_true rfl, Nat.le_of_ble_eq_true rfl⟩ ⟨Nat.zero_le _, Nat.zero_le _⟩ rfl rfl (Nat.le_of_ble_eq_true rfl) hl.1 dX10_count_100) (fun H locs hW _ => ?_)
      exact r_iret C hW (Option.some.inj h).symm rfl dX10_count_103
    refine r_case h (fun ec h => ?_) (fun nc1 h => ?_)
    · refine lv_tableIn (tgt := 104) (off := 76) hx hb dX10_count_28 (by rw [ec]; decide) (by rw [ec]; decide) (by rw [ec]; rfl) (by decide) ?_
      refine lv_aload_n hx hb dX10_count_104 rfl (lv_at hl 0 rfl) ?_
      refine r_gR C hW h fl_X10_20 (by decide) dX10_count_105 (fun b11 h => ?_)
      refine lv_sipush (v := 401) hx hb dX10_count_108 (by decide) ?_
      refine r_iald C hW h dX10_count_111 (fun v12 h => ?_)
      obtain ⟨v14, h13, h⟩ := bnd_inv h
      refine r_cI hW (run_S (rest := []) C hW (t_X10_bits h13) mk_X10_bits sk_X10_240 ⟨Nat.le_of_ble_eq_true rfl, Nat.le_of_ble_eq_true rfl⟩ ⟨Nat.zero_le _, Nat.zero_le _⟩ rfl rfl (Nat.le_of_ble_eq_true rfl) hl.1 dX10_count_112) (fun H locs hW _ => ?_)
      exact r_iret C hW (Option.some.inj h).symm rfl dX10_count_115
    refine r_case h (fun ec h => ?_) (fun nc2 h => ?_)
    · refine lv_tableIn (tgt := 116) (off := 88) hx hb dX10_count_28 (by rw [ec]; decide) (by rw [ec]; decide) (by rw [ec]; rfl) (by decide) ?_
      refine lv_aload_n hx hb dX10_count_116 rfl (lv_at hl 0 rfl) ?_
      refine r_gR C hW h fl_X10_20 (by decide) dX10_count_117 (fun b15 h => ?_)
      refine lv_sipush (v := 600) hx hb dX10_count_120 (by decide) ?_
      refine r_iald C hW h dX10_count_123 (fun v16 h => ?_)
      exact r_iret C hW (Option.some.inj h).symm rfl dX10_count_124
    refine r_case h (fun ec h => ?_) (fun nc3 h => ?_)
    · refine lv_tableIn (tgt := 125) (off := 97) hx hb dX10_count_28 (by rw [ec]; decide) (by rw [ec]; decide) (by rw [ec]; rfl) (by decide) ?_
      refine lv_aload_n hx hb dX10_count_125 rfl (lv_at hl 0 rfl) ?_
      refine r_gI C hW h fl_X10_291 (by decide) dX10_count_126 (fun v17 h => ?_)
      obtain ⟨v19, h18, h⟩ := bnd_inv h
      refine r_cI hW (run_S (rest := []) C hW (t_X10_bits h18) mk_X10_bits sk_X10_240 ⟨Nat.le_of_ble_eq_true rfl, Nat.le_of_ble_eq_true rfl⟩ ⟨Nat.zero_le _, Nat.zero_le _⟩ rfl rfl (Nat.le_of_ble_eq_true rfl) hl.1 dX10_count_129) (fun H locs hW _ => ?_)
      exact r_iret C hW (Option.some.inj h).symm rfl dX10_count_132
    refine r_case h (fun ec h => ?_) (fun nc4 h => ?_)
    · refine lv_tableIn (tgt := 133) (off := 105) hx hb dX10_count_28 (by rw [ec]; decide) (by rw [ec]; decide) (by rw [ec]; rfl) (by decide) ?_
      refine lv_aload_n hx hb dX10_count_133 rfl (lv_at hl 0 rfl) ?_
      refine r_gI C hW h fl_X10_323 (by decide) dX10_count_134 (fun v20 h => ?_)
      obtain ⟨v22, h21, h⟩ := bnd_inv h
      refine r_cI hW (run_S (rest := []) C hW (t_X10_bits h21) mk_X10_bits sk_X10_240 ⟨Nat.le_of_ble_eq_true rfl, Nat.le_of_ble_eq_true rfl⟩ ⟨Nat.zero_le _, Nat.zero_le _⟩ rfl rfl (Nat.le_of_ble_eq_true rfl) hl.1 dX10_count_137) (fun H locs hW _ => ?_)
      exact r_iret C hW (Option.some.inj h).symm rfl dX10_count_140
    refine r_case h (fun ec h => ?_) (fun nc5 h => ?_)
    · refine lv_tableIn (tgt := 141) (off := 113) hx hb dX10_count_28 (by rw [ec]; decide) (by rw [ec]; decide) (by rw [ec]; rfl) (by decide) ?_
      refine lv_aload_n hx hb dX10_count_141 rfl (lv_at hl 0 rfl) ?_
      refine r_gI C hW h fl_X10_282 (by decide) dX10_count_142 (fun v23 h => ?_)
      exact r_iret C hW (Option.some.inj h).symm rfl dX10_count_145
    refine r_case h (fun ec h => ?_) (fun nc6 h => ?_)
    · refine lv_tableIn (tgt := 146) (off := 118) hx hb dX10_count_28 (by rw [ec]; decide) (by rw [ec]; decide) (by rw [ec]; rfl) (by decide) ?_
      refine lv_aload_n hx hb dX10_count_146 rfl (lv_at hl 0 rfl) ?_
      obtain ⟨v25, h24, h⟩ := bnd_inv h
      refine r_cI hW (run_V (rest := []) C hW (t_X10_choicesThere h24) mk_X10_choicesThere vk_X10_357 (kd_X10_choicesThere h24) rfl rfl (by decide) ⟨Nat.le_of_ble_eq_true rfl, Nat.le_of_ble_eq_true rfl⟩ ⟨Nat.zero_le _, Nat.zero_le _⟩ rfl rfl (Nat.le_of_ble_eq_true rfl) hl.1 dX10_count_147) (fun H locs hW _ => ?_)
      exact r_iret C hW (Option.some.inj h).symm rfl dX10_count_150
    refine r_case h (fun ec h => ?_) (fun nc7 h => ?_)
    · refine lv_tableIn (tgt := 151) (off := 123) hx hb dX10_count_28 (by rw [ec]; decide) (by rw [ec]; decide) (by rw [ec]; rfl) (by decide) ?_
      refine lv_aload_n hx hb dX10_count_151 rfl (lv_at hl 0 rfl) ?_
      obtain ⟨v27, h26, h⟩ := bnd_inv h
      refine r_cI hW (run_V (rest := []) C hW (t_X10_choicesWaiting h26) mk_X10_choicesWaiting vk_X10_360 (kd_X10_choicesWaiting h26) rfl rfl (by decide) ⟨Nat.le_of_ble_eq_true rfl, Nat.le_of_ble_eq_true rfl⟩ ⟨Nat.zero_le _, Nat.zero_le _⟩ rfl rfl (Nat.le_of_ble_eq_true rfl) hl.1 dX10_count_152) (fun H locs hW _ => ?_)
      exact r_iret C hW (Option.some.inj h).symm rfl dX10_count_155
    refine r_case h (fun ec h => ?_) (fun nc8 h => ?_)
    · refine lv_tableIn (tgt := 156) (off := 128) hx hb dX10_count_28 (by rw [ec]; decide) (by rw [ec]; decide) (by rw [ec]; rfl) (by decide) ?_
      refine lv_aload_n hx hb dX10_count_156 rfl (lv_at hl 0 rfl) ?_
      obtain ⟨v29, h28, h⟩ := bnd_inv h
      refine r_cI hW (run_V (rest := []) C hW (t_X10_filled h28) mk_X10_filled vk_X10_363 (kd_X10_filled h28) rfl rfl (by decide) ⟨Nat.le_of_ble_eq_true rfl, Nat.le_of_ble_eq_true rfl⟩ ⟨Nat.zero_le _, Nat.zero_le _⟩ rfl rfl (Nat.le_of_ble_eq_true rfl) hl.1 dX10_count_157) (fun H locs hW _ => ?_)
      exact r_iret C hW (Option.some.inj h).symm rfl dX10_count_160
    refine r_case h (fun ec h => ?_) (fun nc9 h => ?_)
    · refine lv_tableIn (tgt := 161) (off := 133) hx hb dX10_count_28 (by rw [ec]; decide) (by rw [ec]; decide) (by rw [ec]; rfl) (by decide) ?_
      refine lv_aload_n hx hb dX10_count_161 rfl (lv_at hl 0 rfl) ?_
      refine r_gI C hW h fl_X10_221 (by decide) dX10_count_162 (fun v30 h => ?_)
      exact r_iret C hW (Option.some.inj h).symm rfl dX10_count_165
    refine r_case h (fun ec h => ?_) (fun nc10 h => ?_)
    · refine lv_tableIn (tgt := 166) (off := 138) hx hb dX10_count_28 (by rw [ec]; decide) (by rw [ec]; decide) (by rw [ec]; rfl) (by decide) ?_
      refine lv_aload_n hx hb dX10_count_166 rfl (lv_at hl 0 rfl) ?_
      refine r_gI C hW h fl_X10_224 (by decide) dX10_count_167 (fun v31 h => ?_)
      exact r_iret C hW (Option.some.inj h).symm rfl dX10_count_170
    refine r_case h (fun ec h => ?_) (fun nc11 h => ?_)
    · refine lv_tableIn (tgt := 171) (off := 143) hx hb dX10_count_28 (by rw [ec]; decide) (by rw [ec]; decide) (by rw [ec]; rfl) (by decide) ?_
      refine lv_aload_n hx hb dX10_count_171 rfl (lv_at hl 0 rfl) ?_
      refine r_gI C hW h fl_X10_68 (by decide) dX10_count_172 (fun v32 h => ?_)
      exact r_iret C hW (Option.some.inj h).symm rfl dX10_count_175
    refine lv_tableOut (tgt := 176) hx hb dX10_count_28 (sw_out (lo := 0) (n := 11) (sw_s nc11 (sw_s nc10 (sw_s nc9 (sw_s nc8 (sw_s nc7 (sw_s nc6 (sw_s nc5 (sw_s nc4 (sw_s nc3 (sw_s nc2 (sw_s nc1 (sw_0 nc0)))))))))))) (by decide)) (by decide) ?_
    refine lv_aload_n hx hb dX10_count_176 rfl (lv_at hl 0 rfl) ?_
    refine r_gR C hW h fl_X10_17 (by decide) dX10_count_177 (fun b33 h => ?_)
    refine lv_iload_n hx hb dX10_count_180 rfl (lv_at hl 1 rfl) ?_
    refine lv_bipush (v := 12) hx hb dX10_count_181 (by decide) ?_
    refine lv_isub hx hb dX10_count_183 ?_
    refine r_iald C hW h dX10_count_184 (fun v34 h => ?_)
    exact r_iret C hW (Option.some.inj h).symm rfl dX10_count_185
  · refine lv_iconst (v := 0) hx hb dX10_count_20 (by decide) ?_
    exact r_iret C hW (Option.some.inj h).symm rfl dX10_count_21
theorem kd_X10_isTable {X : Mx} {r : (Int32 × Mx)} {a : Nat} {x1 : Int32} (h : f_X10_isTable σ X a x1 = some r) : shK σ a = 8 := (grd_inv h).1
set_option maxRecDepth 20000 in
set_option maxHeartbeats 2000000 in
theorem t_X10_isTable {X : Mx} {r : (Int32 × Mx)} {a : Nat} {x1 : Int32} (h : f_X10_isTable σ X a x1 = some r) : MtI g l yX10_isTable cX10_isTable 2 (some .boolean) 7 169 [.ref a, .int x1] σ X r := by
  refine met_of mk_X10_isTable (Nat.le_of_ble_eq_true rfl) (fun p e s m args below meth c ls C hW hl => ?_)
  have hx := C.x
  have hb := C.b
  have hl : lv_has ls 2 [(0, .ref a), (1, .int x1)] := hl
  unfold f_X10_isTable at h
  obtain ⟨hk0, h⟩ := grd_inv h
  refine lv_aload_n hx hb dX10_isTable_0 rfl (lv_at hl 0 rfl) ?_
  refine lv_iload_n hx hb dX10_isTable_1 rfl (lv_at hl 1 rfl) ?_
  refine lv_iconst (v := 0) hx hb dX10_isTable_2 (by decide) ?_
  refine lv_iconst (v := 3) hx hb dX10_isTable_3 (by decide) ?_
  refine r_cI hW (run_S (rest := [.ref a]) C hW (t_X10_within (X := X)) mk_X10_within sk_X10_231 ⟨Nat.le_of_ble_eq_true rfl, Nat.le_of_ble_eq_true rfl⟩ ⟨Nat.zero_le _, Nat.zero_le _⟩ rfl rfl (Nat.le_of_ble_eq_true rfl) hl.1 dX10_isTable_4) (fun H locs hW _ => ?_)
  refine lv_iconst (v := 1) hx hb dX10_isTable_7 (by decide) ?_
  obtain ⟨v3, X2, h1, h⟩ := bnd2_inv h
  refine r_cI hW (run_V (rest := []) C hW (t_X10_right h1) mk_X10_right vk_X10_214 (kd_X10_right h1) rfl rfl (by decide) ⟨Nat.le_of_ble_eq_true rfl, Nat.le_of_ble_eq_true rfl⟩ ⟨Nat.zero_le _, Nat.zero_le _⟩ rfl rfl (Nat.le_of_ble_eq_true rfl) hl.1 dX10_isTable_8) (fun H locs hW _ => ?_)
  refine r_brn h (lv_if_ne (tgt := 16) hx hb dX10_isTable_11 (by decide)) (fun h => ?_) (fun h => ?_)
  · refine lv_iload_n hx hb dX10_isTable_16 rfl (lv_at hl 1 rfl) ?_
    refine lv_iconst (v := 3) hx hb dX10_isTable_17 (by decide) ?_
    refine r_brn h (lv_icmp_ne (tgt := 26) hx hb dX10_isTable_18 (by decide)) (fun h => ?_) (fun h => ?_)
    · refine lv_iconst (v := 1) hx hb dX10_isTable_26 (by decide) ?_
      exact r_iret C hW (Option.some.inj h).symm rfl dX10_isTable_27
    · refine lv_aload_n hx hb dX10_isTable_21 rfl (lv_at hl 0 rfl) ?_
      refine lv_iconst (v := 0) hx hb dX10_isTable_22 (by decide) ?_
      obtain ⟨X5, h4, h⟩ := bnd_inv h
      refine r_cV hW (run_V (rest := []) C hW (t_X10_merges h4) mk_X10_merges vk_X10_354 (kd_X10_merges h4) rfl rfl (by decide) ⟨Nat.le_of_ble_eq_true rfl, Nat.le_of_ble_eq_true rfl⟩ ⟨Nat.zero_le _, Nat.zero_le _⟩ rfl rfl (Nat.le_of_ble_eq_true rfl) hl.1 dX10_isTable_23) (fun H locs hW _ => ?_)
      refine lv_iconst (v := 1) hx hb dX10_isTable_26 (by decide) ?_
      exact r_iret C hW (Option.some.inj h).symm rfl dX10_isTable_27
  · refine lv_iconst (v := 0) hx hb dX10_isTable_14 (by decide) ?_
    exact r_iret C hW (Option.some.inj h).symm rfl dX10_isTable_15
theorem kd_X10_hasOf {X : Mx} {r : Int32} {a : Nat} {x1 : Int32} (h : f_X10_hasOf σ X a x1 = some r) : shK σ a = 8 := (grd_inv h).1
set_option maxRecDepth 20000 in
set_option maxHeartbeats 2000000 in
theorem t_X10_hasOf {X : Mx} {r : Int32} {a : Nat} {x1 : Int32} (h : f_X10_hasOf σ X a x1 = some r) : MtI g l yX10_hasOf cX10_hasOf 2 (some .int) 0 0 [.ref a, .int x1] σ X (r, X) := by
  refine met_of mk_X10_hasOf (Nat.le_of_ble_eq_true rfl) (fun p e s m args below meth c ls C hW hl => ?_)
  have hx := C.x
  have hb := C.b
  have hl : lv_has ls 2 [(0, .ref a), (1, .int x1)] := hl
  unfold f_X10_hasOf at h
  obtain ⟨hk0, h⟩ := grd_inv h
  refine lv_iload_n hx hb dX10_hasOf_0 rfl (lv_at hl 1 rfl) ?_
  refine lv_iconst (v := 3) hx hb dX10_hasOf_1 (by decide) ?_
  refine r_brn h (lv_icmp_ne (tgt := 12) hx hb dX10_hasOf_2 (by decide)) (fun h => ?_) (fun h => ?_)
  · refine lv_aload_n hx hb dX10_hasOf_12 rfl (lv_at hl 0 rfl) ?_
    refine r_gR C hW h fl_X10_20 (by decide) dX10_hasOf_13 (fun b1 h => ?_)
    refine lv_sipush (v := 200) hx hb dX10_hasOf_16 (by decide) ?_
    refine lv_iload_n hx hb dX10_hasOf_19 rfl (lv_at hl 1 rfl) ?_
    refine lv_imul hx hb dX10_hasOf_20 ?_
    refine lv_iconst (v := 0) hx hb dX10_hasOf_21 (by decide) ?_
    refine lv_iadd hx hb dX10_hasOf_22 ?_
    refine r_iald C hW h dX10_hasOf_23 (fun v2 h => ?_)
    exact r_iret C hW (rt_R h) rfl dX10_hasOf_24
  · refine lv_aload_n hx hb dX10_hasOf_5 rfl (lv_at hl 0 rfl) ?_
    refine r_gI C hW h fl_X10_291 (by decide) dX10_hasOf_6 (fun v3 h => ?_)
    refine lv_goto (tgt := 24) hx hb dX10_hasOf_9 (by decide) ?_
    exact r_iret C hW (rt_R h) rfl dX10_hasOf_24
theorem kd_X10_keysOf {X : Mx} {r : Int32} {a : Nat} {x1 : Int32} (h : f_X10_keysOf σ X a x1 = some r) : shK σ a = 8 := (grd_inv h).1
set_option maxRecDepth 20000 in
set_option maxHeartbeats 2000000 in
theorem t_X10_keysOf {X : Mx} {r : Int32} {a : Nat} {x1 : Int32} (h : f_X10_keysOf σ X a x1 = some r) : MtI g l yX10_keysOf cX10_keysOf 2 (some .int) 0 0 [.ref a, .int x1] σ X (r, X) := by
  refine met_of mk_X10_keysOf (Nat.le_of_ble_eq_true rfl) (fun p e s m args below meth c ls C hW hl => ?_)
  have hx := C.x
  have hb := C.b
  have hl : lv_has ls 2 [(0, .ref a), (1, .int x1)] := hl
  unfold f_X10_keysOf at h
  obtain ⟨hk0, h⟩ := grd_inv h
  refine lv_iload_n hx hb dX10_keysOf_0 rfl (lv_at hl 1 rfl) ?_
  refine lv_iconst (v := 3) hx hb dX10_keysOf_1 (by decide) ?_
  refine r_brn h (lv_icmp_ne (tgt := 12) hx hb dX10_keysOf_2 (by decide)) (fun h => ?_) (fun h => ?_)
  · refine lv_aload_n hx hb dX10_keysOf_12 rfl (lv_at hl 0 rfl) ?_
    refine r_gR C hW h fl_X10_20 (by decide) dX10_keysOf_13 (fun b1 h => ?_)
    refine lv_sipush (v := 200) hx hb dX10_keysOf_16 (by decide) ?_
    refine lv_iload_n hx hb dX10_keysOf_19 rfl (lv_at hl 1 rfl) ?_
    refine lv_imul hx hb dX10_keysOf_20 ?_
    refine lv_iconst (v := 1) hx hb dX10_keysOf_21 (by decide) ?_
    refine lv_iadd hx hb dX10_keysOf_22 ?_
    refine r_iald C hW h dX10_keysOf_23 (fun v2 h => ?_)
    exact r_iret C hW (rt_R h) rfl dX10_keysOf_24
  · refine lv_aload_n hx hb dX10_keysOf_5 rfl (lv_at hl 0 rfl) ?_
    refine r_gI C hW h fl_X10_323 (by decide) dX10_keysOf_6 (fun v3 h => ?_)
    refine lv_goto (tgt := 24) hx hb dX10_keysOf_9 (by decide) ?_
    exact r_iret C hW (rt_R h) rfl dX10_keysOf_24
set_option maxRecDepth 20000 in
set_option maxHeartbeats 2000000 in
theorem b_X10_isColumn_29 (C : Cx g RX10 cX10_isColumn 3 (some .boolean) p s m args meth c) {r : (Int32 × Mx)} {X : Mx} {y0 : Nat} {y1 : Int32} (hW : Wd g σ X s H locs) (hl : lv_has ls 3 []) (h : f_X10_isColumn_29 σ X y0 y1 = some r) : W p l e (rmZ 1 22) s m args below meth c H locs 0 0 (QI g σ below args s r) (F0 m 29 ls [.int y1, .ref y0]) := by
  have hx := C.x
  have hb := C.b
  unfold f_X10_isColumn_29 at h
  refine lv_iconst (v := 1) hx hb dX10_isColumn_29 (by decide) ?_
  obtain ⟨v3, X2, h1, h⟩ := bnd2_inv h
  refine r_cI hW (run_V (rest := []) C hW (t_X10_right h1) mk_X10_right vk_X10_214 (kd_X10_right h1) rfl rfl (by decide) ⟨Nat.le_of_ble_eq_true rfl, Nat.le_of_ble_eq_true rfl⟩ ⟨Nat.zero_le _, Nat.zero_le _⟩ rfl rfl (Nat.le_of_ble_eq_true rfl) hl.1 dX10_isColumn_30) (fun H locs hW _ => ?_)
  obtain ⟨hz, h⟩ := grd_inv h
  exact r_iret C hW (Option.some.inj h).symm (zb hz) dX10_isColumn_33
set_option maxRecDepth 20000 in
set_option maxHeartbeats 2000000 in
theorem b_X10_isColumn_28 (C : Cx g RX10 cX10_isColumn 3 (some .boolean) p s m args meth c) {r : (Int32 × Mx)} {X : Mx} {y0 : Nat} (hW : Wd g σ X s H locs) (hl : lv_has ls 3 []) (h : f_X10_isColumn_28 σ X y0 = some r) : W p l e (rmZ 1 22) s m args below meth c H locs 0 0 (QI g σ below args s r) (F0 m 28 ls [.ref y0]) := by
  have hx := C.x
  have hb := C.b
  unfold f_X10_isColumn_28 at h
  refine lv_iconst (v := 0) hx hb dX10_isColumn_28 (by decide) ?_
  exact b_X10_isColumn_29 C hW (lv_sub hl [] rfl) h
theorem kd_X10_isColumn {X : Mx} {r : (Int32 × Mx)} {a : Nat} {x1 : Int32} {x2 : Int32} (h : f_X10_isColumn σ X a x1 x2 = some r) : shK σ a = 8 := (grd_inv h).1
set_option maxRecDepth 20000 in
set_option maxHeartbeats 2000000 in
theorem t_X10_isColumn {X : Mx} {r : (Int32 × Mx)} {a : Nat} {x1 : Int32} {x2 : Int32} (h : f_X10_isColumn σ X a x1 x2 = some r) : MtI g l yX10_isColumn cX10_isColumn 3 (some .boolean) 1 22 [.ref a, .int x1, .int x2] σ X r := by
  refine met_of mk_X10_isColumn (Nat.le_of_ble_eq_true rfl) (fun p e s m args below meth c ls C hW hl => ?_)
  have hx := C.x
  have hb := C.b
  have hl : lv_has ls 3 [(0, .ref a), (1, .int x1), (2, .int x2)] := hl
  unfold f_X10_isColumn at h
  obtain ⟨hk0, h⟩ := grd_inv h
  refine lv_aload_n hx hb dX10_isColumn_0 rfl (lv_at hl 0 rfl) ?_
  refine lv_iload_n hx hb dX10_isColumn_1 rfl (lv_at hl 2 rfl) ?_
  refine lv_iconst (v := 0) hx hb dX10_isColumn_2 (by decide) ?_
  refine lv_bipush (v := 8) hx hb dX10_isColumn_3 (by decide) ?_
  refine r_cI hW (run_S (rest := [.ref a]) C hW (t_X10_within (X := X)) mk_X10_within sk_X10_231 ⟨Nat.le_of_ble_eq_true rfl, Nat.le_of_ble_eq_true rfl⟩ ⟨Nat.zero_le _, Nat.zero_le _⟩ rfl rfl (Nat.le_of_ble_eq_true rfl) hl.1 dX10_isColumn_5) (fun H locs hW _ => ?_)
  refine r_br h (lv_if_eq (tgt := 28) hx hb dX10_isColumn_8 (by decide)) (fun h => ?_) (fun h => ?_)
  · exact b_X10_isColumn_28 C hW (lv_sub hl [] rfl) h
  · refine lv_aload_n hx hb dX10_isColumn_11 rfl (lv_at hl 0 rfl) ?_
    refine lv_iload_n hx hb dX10_isColumn_12 rfl (lv_at hl 1 rfl) ?_
    obtain ⟨v2, h1, h⟩ := bnd_inv h
    refine r_cI hW (run_V (rest := [.ref a]) C hW (t_X10_hasOf h1) mk_X10_hasOf vk_X10_366 (kd_X10_hasOf h1) rfl rfl (by decide) ⟨Nat.le_of_ble_eq_true rfl, Nat.le_of_ble_eq_true rfl⟩ ⟨Nat.zero_le _, Nat.zero_le _⟩ rfl rfl (Nat.le_of_ble_eq_true rfl) hl.1 dX10_isColumn_13) (fun H locs hW _ => ?_)
    refine lv_iload_n hx hb dX10_isColumn_16 rfl (lv_at hl 2 rfl) ?_
    refine lv_ishr hx hb dX10_isColumn_17 ?_
    refine lv_iconst (v := 1) hx hb dX10_isColumn_18 (by decide) ?_
    refine lv_iand hx hb dX10_isColumn_19 ?_
    refine lv_iconst (v := 1) hx hb dX10_isColumn_20 (by decide) ?_
    refine r_brn h (lv_icmp_ne (tgt := 28) hx hb dX10_isColumn_21 (by decide)) (fun h => ?_) (fun h => ?_)
    · exact b_X10_isColumn_28 C hW (lv_sub hl [] rfl) h
    · refine lv_iconst (v := 1) hx hb dX10_isColumn_24 (by decide) ?_
      refine lv_goto (tgt := 29) hx hb dX10_isColumn_25 (by decide) ?_
      exact b_X10_isColumn_29 C hW (lv_sub hl [] rfl) h
set_option maxRecDepth 20000 in
set_option maxHeartbeats 2000000 in
theorem b_X10_isKey_29 (C : Cx g RX10 cX10_isKey 3 (some .boolean) p s m args meth c) {r : (Int32 × Mx)} {X : Mx} {y0 : Nat} {y1 : Int32} (hW : Wd g σ X s H locs) (hl : lv_has ls 3 []) (h : f_X10_isKey_29 σ X y0 y1 = some r) : W p l e (rmZ 1 22) s m args below meth c H locs 0 0 (QI g σ below args s r) (F0 m 29 ls [.int y1, .ref y0]) := by
  have hx := C.x
  have hb := C.b
  unfold f_X10_isKey_29 at h
  refine lv_iconst (v := 1) hx hb dX10_isKey_29 (by decide) ?_
  obtain ⟨v3, X2, h1, h⟩ := bnd2_inv h
  refine r_cI hW (run_V (rest := []) C hW (t_X10_right h1) mk_X10_right vk_X10_214 (kd_X10_right h1) rfl rfl (by decide) ⟨Nat.le_of_ble_eq_true rfl, Nat.le_of_ble_eq_true rfl⟩ ⟨Nat.zero_le _, Nat.zero_le _⟩ rfl rfl (Nat.le_of_ble_eq_true rfl) hl.1 dX10_isKey_30) (fun H locs hW _ => ?_)
  obtain ⟨hz, h⟩ := grd_inv h
  exact r_iret C hW (Option.some.inj h).symm (zb hz) dX10_isKey_33
set_option maxRecDepth 20000 in
set_option maxHeartbeats 2000000 in
theorem b_X10_isKey_28 (C : Cx g RX10 cX10_isKey 3 (some .boolean) p s m args meth c) {r : (Int32 × Mx)} {X : Mx} {y0 : Nat} (hW : Wd g σ X s H locs) (hl : lv_has ls 3 []) (h : f_X10_isKey_28 σ X y0 = some r) : W p l e (rmZ 1 22) s m args below meth c H locs 0 0 (QI g σ below args s r) (F0 m 28 ls [.ref y0]) := by
  have hx := C.x
  have hb := C.b
  unfold f_X10_isKey_28 at h
  refine lv_iconst (v := 0) hx hb dX10_isKey_28 (by decide) ?_
  exact b_X10_isKey_29 C hW (lv_sub hl [] rfl) h
theorem kd_X10_isKey {X : Mx} {r : (Int32 × Mx)} {a : Nat} {x1 : Int32} {x2 : Int32} (h : f_X10_isKey σ X a x1 x2 = some r) : shK σ a = 8 := (grd_inv h).1
set_option maxRecDepth 20000 in
set_option maxHeartbeats 2000000 in
theorem t_X10_isKey {X : Mx} {r : (Int32 × Mx)} {a : Nat} {x1 : Int32} {x2 : Int32} (h : f_X10_isKey σ X a x1 x2 = some r) : MtI g l yX10_isKey cX10_isKey 3 (some .boolean) 1 22 [.ref a, .int x1, .int x2] σ X r := by
  refine met_of mk_X10_isKey (Nat.le_of_ble_eq_true rfl) (fun p e s m args below meth c ls C hW hl => ?_)
  have hx := C.x
  have hb := C.b
  have hl : lv_has ls 3 [(0, .ref a), (1, .int x1), (2, .int x2)] := hl
  unfold f_X10_isKey at h
  obtain ⟨hk0, h⟩ := grd_inv h
  refine lv_aload_n hx hb dX10_isKey_0 rfl (lv_at hl 0 rfl) ?_
  refine lv_iload_n hx hb dX10_isKey_1 rfl (lv_at hl 2 rfl) ?_
  refine lv_iconst (v := 0) hx hb dX10_isKey_2 (by decide) ?_
  refine lv_bipush (v := 19) hx hb dX10_isKey_3 (by decide) ?_
  refine r_cI hW (run_S (rest := [.ref a]) C hW (t_X10_within (X := X)) mk_X10_within sk_X10_231 ⟨Nat.le_of_ble_eq_true rfl, Nat.le_of_ble_eq_true rfl⟩ ⟨Nat.zero_le _, Nat.zero_le _⟩ rfl rfl (Nat.le_of_ble_eq_true rfl) hl.1 dX10_isKey_5) (fun H locs hW _ => ?_)
  refine r_br h (lv_if_eq (tgt := 28) hx hb dX10_isKey_8 (by decide)) (fun h => ?_) (fun h => ?_)
  · exact b_X10_isKey_28 C hW (lv_sub hl [] rfl) h
  · refine lv_aload_n hx hb dX10_isKey_11 rfl (lv_at hl 0 rfl) ?_
    refine lv_iload_n hx hb dX10_isKey_12 rfl (lv_at hl 1 rfl) ?_
    obtain ⟨v2, h1, h⟩ := bnd_inv h
    refine r_cI hW (run_V (rest := [.ref a]) C hW (t_X10_keysOf h1) mk_X10_keysOf vk_X10_369 (kd_X10_keysOf h1) rfl rfl (by decide) ⟨Nat.le_of_ble_eq_true rfl, Nat.le_of_ble_eq_true rfl⟩ ⟨Nat.zero_le _, Nat.zero_le _⟩ rfl rfl (Nat.le_of_ble_eq_true rfl) hl.1 dX10_isKey_13) (fun H locs hW _ => ?_)
    refine lv_iload_n hx hb dX10_isKey_16 rfl (lv_at hl 2 rfl) ?_
    refine lv_ishr hx hb dX10_isKey_17 ?_
    refine lv_iconst (v := 1) hx hb dX10_isKey_18 (by decide) ?_
    refine lv_iand hx hb dX10_isKey_19 ?_
    refine lv_iconst (v := 1) hx hb dX10_isKey_20 (by decide) ?_
    refine r_brn h (lv_icmp_ne (tgt := 28) hx hb dX10_isKey_21 (by decide)) (fun h => ?_) (fun h => ?_)
    · exact b_X10_isKey_28 C hW (lv_sub hl [] rfl) h
    · refine lv_iconst (v := 1) hx hb dX10_isKey_24 (by decide) ?_
      refine lv_goto (tgt := 29) hx hb dX10_isKey_25 (by decide) ?_
      exact b_X10_isKey_29 C hW (lv_sub hl [] rfl) h
theorem kd_X10_isWhat {X : Mx} {r : (Int32 × Mx)} {a : Nat} {x1 : Int32} {x2 : Int32} (h : f_X10_isWhat σ X a x1 x2 = some r) : shK σ a = 8 := (grd_inv h).1
set_option maxRecDepth 20000 in
set_option maxHeartbeats 2000000 in
theorem t_X10_isWhat {X : Mx} {r : (Int32 × Mx)} {a : Nat} {x1 : Int32} {x2 : Int32} (h : f_X10_isWhat σ X a x1 x2 = some r) : MtI g l yX10_isWhat cX10_isWhat 3 (some .boolean) 1 22 [.ref a, .int x1, .int x2] σ X r := by
  refine met_of mk_X10_isWhat (Nat.le_of_ble_eq_true rfl) (fun p e s m args below meth c ls C hW hl => ?_)
  have hx := C.x
  have hb := C.b
  have hl : lv_has ls 3 [(0, .ref a), (1, .int x1), (2, .int x2)] := hl
  unfold f_X10_isWhat at h
  obtain ⟨hk0, h⟩ := grd_inv h
  refine lv_aload_n hx hb dX10_isWhat_0 rfl (lv_at hl 0 rfl) ?_
  refine lv_iload_n hx hb dX10_isWhat_1 rfl (lv_at hl 1 rfl) ?_
  refine lv_iconst (v := 0) hx hb dX10_isWhat_2 (by decide) ?_
  refine lv_iload_n hx hb dX10_isWhat_3 rfl (lv_at hl 2 rfl) ?_
  refine r_cI hW (run_S (rest := [.ref a]) C hW (t_X10_within (X := X)) mk_X10_within sk_X10_231 ⟨Nat.le_of_ble_eq_true rfl, Nat.le_of_ble_eq_true rfl⟩ ⟨Nat.zero_le _, Nat.zero_le _⟩ rfl rfl (Nat.le_of_ble_eq_true rfl) hl.1 dX10_isWhat_4) (fun H locs hW _ => ?_)
  refine lv_iconst (v := 1) hx hb dX10_isWhat_7 (by decide) ?_
  obtain ⟨v3, X2, h1, h⟩ := bnd2_inv h
  refine r_cI hW (run_V (rest := []) C hW (t_X10_right h1) mk_X10_right vk_X10_214 (kd_X10_right h1) rfl rfl (by decide) ⟨Nat.le_of_ble_eq_true rfl, Nat.le_of_ble_eq_true rfl⟩ ⟨Nat.zero_le _, Nat.zero_le _⟩ rfl rfl (Nat.le_of_ble_eq_true rfl) hl.1 dX10_isWhat_8) (fun H locs hW _ => ?_)
  obtain ⟨hz, h⟩ := grd_inv h
  exact r_iret C hW (Option.some.inj h).symm (zb hz) dX10_isWhat_11
theorem kd_X10_table {X : Mx} {r : (Int32 × Mx)} {a : Nat} {x1 : Int32} {x2 : Int32} (h : f_X10_table σ X a x1 x2 = some r) : shK σ a = 8 := (grd_inv h).1
set_option maxRecDepth 20000 in
set_option maxHeartbeats 2000000 in
theorem t_X10_table {X : Mx} {r : (Int32 × Mx)} {a : Nat} {x1 : Int32} {x2 : Int32} (h : f_X10_table σ X a x1 x2 = some r) : MtI g l yX10_table cX10_table 3 (some .int) 8 190 [.ref a, .int x1, .int x2] σ X r := by
  refine met_of mk_X10_table (Nat.le_of_ble_eq_true rfl) (fun p e s m args below meth c ls C hW hl => ?_)
  have hx := C.x
  have hb := C.b
  have hl : lv_has ls 3 [(0, .ref a), (1, .int x1), (2, .int x2)] := hl
  unfold f_X10_table at h
  obtain ⟨hk0, h⟩ := grd_inv h
  refine lv_aload_n hx hb dX10_table_0 rfl (lv_at hl 0 rfl) ?_
  refine lv_iconst (v := 0) hx hb dX10_table_1 (by decide) ?_
  refine r_pI C hW h pf_X10_65 (by decide) rfl rfl dX10_table_2 (fun X1 H locs h hW _ => ?_)
  refine lv_aload_n hx hb dX10_table_5 rfl (lv_at hl 0 rfl) ?_
  refine lv_iload_n hx hb dX10_table_6 rfl (lv_at hl 1 rfl) ?_
  obtain ⟨v4, X3, h2, h⟩ := bnd2_inv h
  refine r_cI hW (run_V (rest := []) C hW (t_X10_isTable h2) mk_X10_isTable vk_X10_372 (kd_X10_isTable h2) rfl rfl (by decide) ⟨Nat.le_of_ble_eq_true rfl, Nat.le_of_ble_eq_true rfl⟩ ⟨Nat.zero_le _, Nat.zero_le _⟩ rfl rfl (Nat.le_of_ble_eq_true rfl) hl.1 dX10_table_7) (fun H locs hW _ => ?_)
  refine r_br h (lv_if_eq (tgt := 22) hx hb dX10_table_10 (by decide)) (fun h => ?_) (fun h => ?_)
  · refine lv_iconst (v := 0) hx hb dX10_table_22 (by decide) ?_
    exact r_iret C hW (Option.some.inj h).symm rfl dX10_table_23
  · refine lv_aload_n hx hb dX10_table_13 rfl (lv_at hl 0 rfl) ?_
    refine lv_iload_n hx hb dX10_table_14 rfl (lv_at hl 2 rfl) ?_
    refine lv_iconst (v := 1) hx hb dX10_table_15 (by decide) ?_
    obtain ⟨v7, X6, h5, h⟩ := bnd2_inv h
    refine r_cI hW (run_V (rest := []) C hW (t_X10_isWhat h5) mk_X10_isWhat vk_X10_375 (kd_X10_isWhat h5) rfl rfl (by decide) ⟨Nat.le_of_ble_eq_true rfl, Nat.le_of_ble_eq_true rfl⟩ ⟨Nat.zero_le _, Nat.zero_le _⟩ rfl rfl (Nat.le_of_ble_eq_true rfl) hl.1 dX10_table_16) (fun H locs hW _ => ?_)
    refine r_brn h (lv_if_ne (tgt := 24) hx hb dX10_table_19 (by decide)) (fun h => ?_) (fun h => ?_)
    · refine lv_iload_n hx hb dX10_table_24 rfl (lv_at hl 2 rfl) ?_
      refine r_brn h (lv_if_ne (tgt := 36) hx hb dX10_table_25 (by decide)) (fun h => ?_) (fun h => ?_)
      · refine lv_aload_n hx hb dX10_table_36 rfl (lv_at hl 0 rfl) ?_
        refine lv_iload_n hx hb dX10_table_37 rfl (lv_at hl 1 rfl) ?_
        obtain ⟨v9, h8, h⟩ := bnd_inv h
        refine r_cI hW (run_V (rest := []) C hW (t_X10_keysOf h8) mk_X10_keysOf vk_X10_369 (kd_X10_keysOf h8) rfl rfl (by decide) ⟨Nat.le_of_ble_eq_true rfl, Nat.le_of_ble_eq_true rfl⟩ ⟨Nat.zero_le _, Nat.zero_le _⟩ rfl rfl (Nat.le_of_ble_eq_true rfl) hl.1 dX10_table_38) (fun H locs hW _ => ?_)
        exact r_iret C hW (Option.some.inj h).symm rfl dX10_table_41
      · refine lv_aload_n hx hb dX10_table_28 rfl (lv_at hl 0 rfl) ?_
        refine lv_iload_n hx hb dX10_table_29 rfl (lv_at hl 1 rfl) ?_
        obtain ⟨v11, h10, h⟩ := bnd_inv h
        refine r_cI hW (run_V (rest := []) C hW (t_X10_hasOf h10) mk_X10_hasOf vk_X10_366 (kd_X10_hasOf h10) rfl rfl (by decide) ⟨Nat.le_of_ble_eq_true rfl, Nat.le_of_ble_eq_true rfl⟩ ⟨Nat.zero_le _, Nat.zero_le _⟩ rfl rfl (Nat.le_of_ble_eq_true rfl) hl.1 dX10_table_30) (fun H locs hW _ => ?_)
        refine lv_goto (tgt := 41) hx hb dX10_table_33 (by decide) ?_
        exact r_iret C hW (Option.some.inj h).symm rfl dX10_table_41
    · refine lv_iconst (v := 0) hx hb dX10_table_22 (by decide) ?_
      exact r_iret C hW (Option.some.inj h).symm rfl dX10_table_23
theorem kd_X10_column {X : Mx} {r : (Int32 × Mx)} {a : Nat} {x1 : Int32} {x2 : Int32} {x3 : Int32} (h : f_X10_column σ X a x1 x2 x3 = some r) : shK σ a = 8 := (grd_inv h).1
set_option maxRecDepth 20000 in
set_option maxHeartbeats 2000000 in
theorem t_X10_column {X : Mx} {r : (Int32 × Mx)} {a : Nat} {x1 : Int32} {x2 : Int32} {x3 : Int32} (h : f_X10_column σ X a x1 x2 x3 = some r) : MtI g l yX10_column cX10_column 4 (some .int) 8 190 [.ref a, .int x1, .int x2, .int x3] σ X r := by
  refine met_of mk_X10_column (Nat.le_of_ble_eq_true rfl) (fun p e s m args below meth c ls C hW hl => ?_)
  have hx := C.x
  have hb := C.b
  have hl : lv_has ls 4 [(0, .ref a), (1, .int x1), (2, .int x2), (3, .int x3)] := hl
  unfold f_X10_column at h
  obtain ⟨hk0, h⟩ := grd_inv h
  refine lv_aload_n hx hb dX10_column_0 rfl (lv_at hl 0 rfl) ?_
  refine lv_iconst (v := 0) hx hb dX10_column_1 (by decide) ?_
  refine r_pI C hW h pf_X10_65 (by decide) rfl rfl dX10_column_2 (fun X1 H locs h hW _ => ?_)
  refine lv_aload_n hx hb dX10_column_5 rfl (lv_at hl 0 rfl) ?_
  refine lv_iload_n hx hb dX10_column_6 rfl (lv_at hl 1 rfl) ?_
  obtain ⟨v4, X3, h2, h⟩ := bnd2_inv h
  refine r_cI hW (run_V (rest := []) C hW (t_X10_isTable h2) mk_X10_isTable vk_X10_372 (kd_X10_isTable h2) rfl rfl (by decide) ⟨Nat.le_of_ble_eq_true rfl, Nat.le_of_ble_eq_true rfl⟩ ⟨Nat.zero_le _, Nat.zero_le _⟩ rfl rfl (Nat.le_of_ble_eq_true rfl) hl.1 dX10_column_7) (fun H locs hW _ => ?_)
  refine r_br h (lv_if_eq (tgt := 31) hx hb dX10_column_10 (by decide)) (fun h => ?_) (fun h => ?_)
  · refine lv_iconst (v := 0) hx hb dX10_column_31 (by decide) ?_
    exact r_iret C hW (Option.some.inj h).symm rfl dX10_column_32
  · refine lv_aload_n hx hb dX10_column_13 rfl (lv_at hl 0 rfl) ?_
    refine lv_iload_n hx hb dX10_column_14 rfl (lv_at hl 1 rfl) ?_
    refine lv_iload_n hx hb dX10_column_15 rfl (lv_at hl 2 rfl) ?_
    obtain ⟨v7, X6, h5, h⟩ := bnd2_inv h
    refine r_cI hW (run_V (rest := []) C hW (t_X10_isColumn h5) mk_X10_isColumn vk_X10_378 (kd_X10_isColumn h5) rfl rfl (by decide) ⟨Nat.le_of_ble_eq_true rfl, Nat.le_of_ble_eq_true rfl⟩ ⟨Nat.zero_le _, Nat.zero_le _⟩ rfl rfl (Nat.le_of_ble_eq_true rfl) hl.1 dX10_column_16) (fun H locs hW _ => ?_)
    refine r_br h (lv_if_eq (tgt := 31) hx hb dX10_column_19 (by decide)) (fun h => ?_) (fun h => ?_)
    · refine lv_iconst (v := 0) hx hb dX10_column_31 (by decide) ?_
      exact r_iret C hW (Option.some.inj h).symm rfl dX10_column_32
    · refine lv_aload_n hx hb dX10_column_22 rfl (lv_at hl 0 rfl) ?_
      refine lv_iload_n hx hb dX10_column_23 rfl (lv_at hl 3 rfl) ?_
      refine lv_iconst (v := 1) hx hb dX10_column_24 (by decide) ?_
      obtain ⟨v10, X9, h8, h⟩ := bnd2_inv h
      refine r_cI hW (run_V (rest := []) C hW (t_X10_isWhat h8) mk_X10_isWhat vk_X10_375 (kd_X10_isWhat h8) rfl rfl (by decide) ⟨Nat.le_of_ble_eq_true rfl, Nat.le_of_ble_eq_true rfl⟩ ⟨Nat.zero_le _, Nat.zero_le _⟩ rfl rfl (Nat.le_of_ble_eq_true rfl) hl.1 dX10_column_25) (fun H locs hW _ => ?_)
      refine r_brn h (lv_if_ne (tgt := 33) hx hb dX10_column_28 (by decide)) (fun h => ?_) (fun h => ?_)
      · refine lv_iload_n hx hb dX10_column_33 rfl (lv_at hl 1 rfl) ?_
        refine lv_iconst (v := 3) hx hb dX10_column_34 (by decide) ?_
        refine r_brn h (lv_icmp_ne (tgt := 58) hx hb dX10_column_35 (by decide)) (fun h => ?_) (fun h => ?_)
        · refine lv_iload_n hx hb dX10_column_58 rfl (lv_at hl 3 rfl) ?_
          refine r_brn h (lv_if_ne (tgt := 72) hx hb dX10_column_59 (by decide)) (fun h => ?_) (fun h => ?_)
          · refine lv_aload_n hx hb dX10_column_72 rfl (lv_at hl 0 rfl) ?_
            refine lv_iconst (v := 0) hx hb dX10_column_73 (by decide) ?_
            refine lv_iload_n hx hb dX10_column_74 rfl (lv_at hl 1 rfl) ?_
            refine lv_iload_n hx hb dX10_column_75 rfl (lv_at hl 2 rfl) ?_
            obtain ⟨v12, h11, h⟩ := bnd_inv h
            refine r_cI hW (run_V (rest := []) C hW (t_X10_typeAt h11) mk_X10_typeAt vk_X10_166 (kd_X10_typeAt h11) rfl rfl (by decide) ⟨Nat.le_of_ble_eq_true rfl, Nat.le_of_ble_eq_true rfl⟩ ⟨Nat.zero_le _, Nat.zero_le _⟩ rfl rfl (Nat.le_of_ble_eq_true rfl) hl.1 dX10_column_76) (fun H locs hW _ => ?_)
            exact r_iret C hW (Option.some.inj h).symm rfl dX10_column_79
          · refine lv_aload_n hx hb dX10_column_62 rfl (lv_at hl 0 rfl) ?_
            refine lv_iconst (v := 0) hx hb dX10_column_63 (by decide) ?_
            refine lv_iload_n hx hb dX10_column_64 rfl (lv_at hl 1 rfl) ?_
            refine lv_iload_n hx hb dX10_column_65 rfl (lv_at hl 2 rfl) ?_
            obtain ⟨v14, h13, h⟩ := bnd_inv h
            refine r_cI hW (run_V (rest := []) C hW (t_X10_nameAt h13) mk_X10_nameAt vk_X10_237 (kd_X10_nameAt h13) rfl rfl (by decide) ⟨Nat.le_of_ble_eq_true rfl, Nat.le_of_ble_eq_true rfl⟩ ⟨Nat.zero_le _, Nat.zero_le _⟩ rfl rfl (Nat.le_of_ble_eq_true rfl) hl.1 dX10_column_66) (fun H locs hW _ => ?_)
            refine lv_goto (tgt := 79) hx hb dX10_column_69 (by decide) ?_
            exact r_iret C hW (Option.some.inj h).symm rfl dX10_column_79
        · refine lv_iload_n hx hb dX10_column_38 rfl (lv_at hl 3 rfl) ?_
          refine r_brn h (lv_if_ne (tgt := 51) hx hb dX10_column_39 (by decide)) (fun h => ?_) (fun h => ?_)
          · refine lv_aload_n hx hb dX10_column_51 rfl (lv_at hl 0 rfl) ?_
            refine r_gR C hW h fl_X10_29 (by decide) dX10_column_52 (fun b15 h => ?_)
            refine lv_iload_n hx hb dX10_column_55 rfl (lv_at hl 2 rfl) ?_
            refine r_iald C hW h dX10_column_56 (fun v16 h => ?_)
            exact r_iret C hW (Option.some.inj h).symm rfl dX10_column_57
          · refine lv_aload_n hx hb dX10_column_42 rfl (lv_at hl 0 rfl) ?_
            refine r_gR C hW h fl_X10_26 (by decide) dX10_column_43 (fun b17 h => ?_)
            refine lv_iload_n hx hb dX10_column_46 rfl (lv_at hl 2 rfl) ?_
            refine r_iald C hW h dX10_column_47 (fun v18 h => ?_)
            refine lv_goto (tgt := 57) hx hb dX10_column_48 (by decide) ?_
            exact r_iret C hW (Option.some.inj h).symm rfl dX10_column_57
      · refine lv_iconst (v := 0) hx hb dX10_column_31 (by decide) ?_
        exact r_iret C hW (Option.some.inj h).symm rfl dX10_column_32
theorem kd_X10_cell {X : Mx} {r : (Int32 × Mx)} {a : Nat} {x1 : Int32} {x2 : Int32} {x3 : Int32} (h : f_X10_cell σ X a x1 x2 x3 = some r) : shK σ a = 8 := (grd_inv h).1
set_option maxRecDepth 20000 in
set_option maxHeartbeats 2000000 in
theorem t_X10_cell {X : Mx} {r : (Int32 × Mx)} {a : Nat} {x1 : Int32} {x2 : Int32} {x3 : Int32} (h : f_X10_cell σ X a x1 x2 x3 = some r) : MtI g l yX10_cell cX10_cell 4 (some .int) 8 190 [.ref a, .int x1, .int x2, .int x3] σ X r := by
  refine met_of mk_X10_cell (Nat.le_of_ble_eq_true rfl) (fun p e s m args below meth c ls C hW hl => ?_)
  have hx := C.x
  have hb := C.b
  have hl : lv_has ls 4 [(0, .ref a), (1, .int x1), (2, .int x2), (3, .int x3)] := hl
  unfold f_X10_cell at h
  obtain ⟨hk0, h⟩ := grd_inv h
  refine lv_aload_n hx hb dX10_cell_0 rfl (lv_at hl 0 rfl) ?_
  refine lv_iconst (v := 0) hx hb dX10_cell_1 (by decide) ?_
  refine r_pI C hW h pf_X10_65 (by decide) rfl rfl dX10_cell_2 (fun X1 H locs h hW _ => ?_)
  refine lv_aload_n hx hb dX10_cell_5 rfl (lv_at hl 0 rfl) ?_
  refine lv_iload_n hx hb dX10_cell_6 rfl (lv_at hl 1 rfl) ?_
  obtain ⟨v4, X3, h2, h⟩ := bnd2_inv h
  refine r_cI hW (run_V (rest := []) C hW (t_X10_isTable h2) mk_X10_isTable vk_X10_372 (kd_X10_isTable h2) rfl rfl (by decide) ⟨Nat.le_of_ble_eq_true rfl, Nat.le_of_ble_eq_true rfl⟩ ⟨Nat.zero_le _, Nat.zero_le _⟩ rfl rfl (Nat.le_of_ble_eq_true rfl) hl.1 dX10_cell_7) (fun H locs hW _ => ?_)
  refine r_br h (lv_if_eq (tgt := 31) hx hb dX10_cell_10 (by decide)) (fun h => ?_) (fun h => ?_)
  · refine lv_iconst (v := 0) hx hb dX10_cell_31 (by decide) ?_
    exact r_iret C hW (Option.some.inj h).symm rfl dX10_cell_32
  · refine lv_aload_n hx hb dX10_cell_13 rfl (lv_at hl 0 rfl) ?_
    refine lv_iload_n hx hb dX10_cell_14 rfl (lv_at hl 1 rfl) ?_
    refine lv_iload_n hx hb dX10_cell_15 rfl (lv_at hl 2 rfl) ?_
    obtain ⟨v7, X6, h5, h⟩ := bnd2_inv h
    refine r_cI hW (run_V (rest := []) C hW (t_X10_isKey h5) mk_X10_isKey vk_X10_381 (kd_X10_isKey h5) rfl rfl (by decide) ⟨Nat.le_of_ble_eq_true rfl, Nat.le_of_ble_eq_true rfl⟩ ⟨Nat.zero_le _, Nat.zero_le _⟩ rfl rfl (Nat.le_of_ble_eq_true rfl) hl.1 dX10_cell_16) (fun H locs hW _ => ?_)
    refine r_br h (lv_if_eq (tgt := 31) hx hb dX10_cell_19 (by decide)) (fun h => ?_) (fun h => ?_)
    · refine lv_iconst (v := 0) hx hb dX10_cell_31 (by decide) ?_
      exact r_iret C hW (Option.some.inj h).symm rfl dX10_cell_32
    · refine lv_aload_n hx hb dX10_cell_22 rfl (lv_at hl 0 rfl) ?_
      refine lv_iload_n hx hb dX10_cell_23 rfl (lv_at hl 1 rfl) ?_
      refine lv_iload_n hx hb dX10_cell_24 rfl (lv_at hl 3 rfl) ?_
      obtain ⟨v10, X9, h8, h⟩ := bnd2_inv h
      refine r_cI hW (run_V (rest := []) C hW (t_X10_isColumn h8) mk_X10_isColumn vk_X10_378 (kd_X10_isColumn h8) rfl rfl (by decide) ⟨Nat.le_of_ble_eq_true rfl, Nat.le_of_ble_eq_true rfl⟩ ⟨Nat.zero_le _, Nat.zero_le _⟩ rfl rfl (Nat.le_of_ble_eq_true rfl) hl.1 dX10_cell_25) (fun H locs hW _ => ?_)
      refine r_brn h (lv_if_ne (tgt := 33) hx hb dX10_cell_28 (by decide)) (fun h => ?_) (fun h => ?_)
      · refine lv_iload_n hx hb dX10_cell_33 rfl (lv_at hl 1 rfl) ?_
        refine lv_iconst (v := 3) hx hb dX10_cell_34 (by decide) ?_
        refine r_brn h (lv_icmp_ne (tgt := 47) hx hb dX10_cell_35 (by decide)) (fun h => ?_) (fun h => ?_)
        · refine lv_aload_n hx hb dX10_cell_47 rfl (lv_at hl 0 rfl) ?_
          refine r_gR C hW h fl_X10_20 (by decide) dX10_cell_48 (fun b11 h => ?_)
          refine lv_iconst (v := 0) hx hb dX10_cell_51 (by decide) ?_
          refine lv_iload_n hx hb dX10_cell_52 rfl (lv_at hl 1 rfl) ?_
          refine lv_iload_n hx hb dX10_cell_53 rfl (lv_at hl 2 rfl) ?_
          refine lv_iload_n hx hb dX10_cell_54 rfl (lv_at hl 3 rfl) ?_
          refine r_cI hW (run_S (rest := [.ref b11]) C hW (t_X10_cellAt (X := X9)) mk_X10_cellAt sk_X10_174 ⟨Nat.le_of_ble_eq_true rfl, Nat.le_of_ble_eq_true rfl⟩ ⟨Nat.zero_le _, Nat.zero_le _⟩ rfl rfl (Nat.le_of_ble_eq_true rfl) hl.1 dX10_cell_55) (fun H locs hW _ => ?_)
          refine r_iald C hW h dX10_cell_58 (fun v12 h => ?_)
          exact r_iret C hW (Option.some.inj h).symm rfl dX10_cell_59
        · refine lv_aload_n hx hb dX10_cell_38 rfl (lv_at hl 0 rfl) ?_
          refine lv_iload_n hx hb dX10_cell_39 rfl (lv_at hl 2 rfl) ?_
          refine lv_iload_n hx hb dX10_cell_40 rfl (lv_at hl 3 rfl) ?_
          obtain ⟨v14, h13, h⟩ := bnd_inv h
          refine r_cI hW (run_V (rest := []) C hW (t_X10_mergedAt h13) mk_X10_mergedAt vk_X10_326 (kd_X10_mergedAt h13) rfl rfl (by decide) ⟨Nat.le_of_ble_eq_true rfl, Nat.le_of_ble_eq_true rfl⟩ ⟨Nat.zero_le _, Nat.zero_le _⟩ rfl rfl (Nat.le_of_ble_eq_true rfl) hl.1 dX10_cell_41) (fun H locs hW _ => ?_)
          refine lv_goto (tgt := 59) hx hb dX10_cell_44 (by decide) ?_
          exact r_iret C hW (Option.some.inj h).symm rfl dX10_cell_59
      · refine lv_iconst (v := 0) hx hb dX10_cell_31 (by decide) ?_
        exact r_iret C hW (Option.some.inj h).symm rfl dX10_cell_32
theorem kd_X10_whose {X : Mx} {r : (Int32 × Mx)} {a : Nat} {x1 : Int32} {x2 : Int32} (h : f_X10_whose σ X a x1 x2 = some r) : shK σ a = 8 := (grd_inv h).1
set_option maxRecDepth 20000 in
set_option maxHeartbeats 2000000 in
theorem t_X10_whose {X : Mx} {r : (Int32 × Mx)} {a : Nat} {x1 : Int32} {x2 : Int32} (h : f_X10_whose σ X a x1 x2 = some r) : MtI g l yX10_whose cX10_whose 3 (some .int) 8 190 [.ref a, .int x1, .int x2] σ X r := by
  refine met_of mk_X10_whose (Nat.le_of_ble_eq_true rfl) (fun p e s m args below meth c ls C hW hl => ?_)
  have hx := C.x
  have hb := C.b
  have hl : lv_has ls 3 [(0, .ref a), (1, .int x1), (2, .int x2)] := hl
  unfold f_X10_whose at h
  obtain ⟨hk0, h⟩ := grd_inv h
  refine lv_aload_n hx hb dX10_whose_0 rfl (lv_at hl 0 rfl) ?_
  refine lv_iconst (v := 0) hx hb dX10_whose_1 (by decide) ?_
  refine r_pI C hW h pf_X10_65 (by decide) rfl rfl dX10_whose_2 (fun X1 H locs h hW _ => ?_)
  refine lv_aload_n hx hb dX10_whose_5 rfl (lv_at hl 0 rfl) ?_
  refine lv_iconst (v := 3) hx hb dX10_whose_6 (by decide) ?_
  obtain ⟨v4, X3, h2, h⟩ := bnd2_inv h
  refine r_cI hW (run_V (rest := []) C hW (t_X10_isTable h2) mk_X10_isTable vk_X10_372 (kd_X10_isTable h2) rfl rfl (by decide) ⟨Nat.le_of_ble_eq_true rfl, Nat.le_of_ble_eq_true rfl⟩ ⟨Nat.zero_le _, Nat.zero_le _⟩ rfl rfl (Nat.le_of_ble_eq_true rfl) hl.1 dX10_whose_7) (fun H locs hW _ => ?_)
  refine r_br h (lv_if_eq (tgt := 31) hx hb dX10_whose_10 (by decide)) (fun h => ?_) (fun h => ?_)
  · refine lv_iconst (v := 0) hx hb dX10_whose_31 (by decide) ?_
    exact r_iret C hW (Option.some.inj h).symm rfl dX10_whose_32
  · refine lv_aload_n hx hb dX10_whose_13 rfl (lv_at hl 0 rfl) ?_
    refine lv_iconst (v := 3) hx hb dX10_whose_14 (by decide) ?_
    refine lv_iload_n hx hb dX10_whose_15 rfl (lv_at hl 1 rfl) ?_
    obtain ⟨v7, X6, h5, h⟩ := bnd2_inv h
    refine r_cI hW (run_V (rest := []) C hW (t_X10_isKey h5) mk_X10_isKey vk_X10_381 (kd_X10_isKey h5) rfl rfl (by decide) ⟨Nat.le_of_ble_eq_true rfl, Nat.le_of_ble_eq_true rfl⟩ ⟨Nat.zero_le _, Nat.zero_le _⟩ rfl rfl (Nat.le_of_ble_eq_true rfl) hl.1 dX10_whose_16) (fun H locs hW _ => ?_)
    refine r_br h (lv_if_eq (tgt := 31) hx hb dX10_whose_19 (by decide)) (fun h => ?_) (fun h => ?_)
    · refine lv_iconst (v := 0) hx hb dX10_whose_31 (by decide) ?_
      exact r_iret C hW (Option.some.inj h).symm rfl dX10_whose_32
    · refine lv_aload_n hx hb dX10_whose_22 rfl (lv_at hl 0 rfl) ?_
      refine lv_iconst (v := 3) hx hb dX10_whose_23 (by decide) ?_
      refine lv_iload_n hx hb dX10_whose_24 rfl (lv_at hl 2 rfl) ?_
      obtain ⟨v10, X9, h8, h⟩ := bnd2_inv h
      refine r_cI hW (run_V (rest := []) C hW (t_X10_isColumn h8) mk_X10_isColumn vk_X10_378 (kd_X10_isColumn h8) rfl rfl (by decide) ⟨Nat.le_of_ble_eq_true rfl, Nat.le_of_ble_eq_true rfl⟩ ⟨Nat.zero_le _, Nat.zero_le _⟩ rfl rfl (Nat.le_of_ble_eq_true rfl) hl.1 dX10_whose_25) (fun H locs hW _ => ?_)
      refine r_brn h (lv_if_ne (tgt := 33) hx hb dX10_whose_28 (by decide)) (fun h => ?_) (fun h => ?_)
      · refine lv_aload_n hx hb dX10_whose_33 rfl (lv_at hl 0 rfl) ?_
        refine r_gR C hW h fl_X10_35 (by decide) dX10_whose_34 (fun b11 h => ?_)
        refine lv_bipush (v := 9) hx hb dX10_whose_37 (by decide) ?_
        refine lv_iload_n hx hb dX10_whose_39 rfl (lv_at hl 1 rfl) ?_
        refine lv_imul hx hb dX10_whose_40 ?_
        refine lv_iload_n hx hb dX10_whose_41 rfl (lv_at hl 2 rfl) ?_
        refine lv_iadd hx hb dX10_whose_42 ?_
        refine r_iald C hW h dX10_whose_43 (fun v12 h => ?_)
        exact r_iret C hW (Option.some.inj h).symm rfl dX10_whose_44
      · refine lv_iconst (v := 0) hx hb dX10_whose_31 (by decide) ?_
        exact r_iret C hW (Option.some.inj h).symm rfl dX10_whose_32
set_option maxRecDepth 20000 in
set_option maxHeartbeats 2000000 in
theorem b_X10_conflict_28 {a : Nat} {x1 : Int32} {x2 : Int32} (C : Cx g RX10 cX10_conflict 3 (some .int) p s m args meth c) {r : (Int32 × Mx)} {X : Mx} {y0 : Nat} {y1 : Int32} (hW : Wd g σ X s H locs) (hl : lv_has ls 3 [(0, .ref a), (1, .int x1), (2, .int x2)]) (h : f_X10_conflict_28 σ a x1 x2 X y0 y1 = some r) : W p l e (rmZ 7 169) s m args below meth c H locs 0 0 (QI g σ below args s r) (F0 m 28 ls [.int y1, .ref y0]) := by
  have hx := C.x
  have hb := C.b
  unfold f_X10_conflict_28 at h
  refine lv_iconst (v := 1) hx hb dX10_conflict_28 (by decide) ?_
  obtain ⟨v3, X2, h1, h⟩ := bnd2_inv h
  refine r_cI hW (run_V (rest := []) C hW (t_X10_right h1) mk_X10_right vk_X10_214 (kd_X10_right h1) rfl rfl (by decide) ⟨Nat.le_of_ble_eq_true rfl, Nat.le_of_ble_eq_true rfl⟩ ⟨Nat.zero_le _, Nat.zero_le _⟩ rfl rfl (Nat.le_of_ble_eq_true rfl) hl.1 dX10_conflict_29) (fun H locs hW _ => ?_)
  refine r_br h (lv_if_eq (tgt := 44) hx hb dX10_conflict_32 (by decide)) (fun h => ?_) (fun h => ?_)
  · refine lv_iconst (v := 0) hx hb dX10_conflict_44 (by decide) ?_
    exact r_iret C hW (Option.some.inj h).symm rfl dX10_conflict_45
  · refine lv_aload_n hx hb dX10_conflict_35 rfl (lv_at hl 0 rfl) ?_
    refine lv_iload_n hx hb dX10_conflict_36 rfl (lv_at hl 2 rfl) ?_
    refine lv_iconst (v := 5) hx hb dX10_conflict_37 (by decide) ?_
    obtain ⟨v6, X5, h4, h⟩ := bnd2_inv h
    refine r_cI hW (run_V (rest := []) C hW (t_X10_isWhat h4) mk_X10_isWhat vk_X10_375 (kd_X10_isWhat h4) rfl rfl (by decide) ⟨Nat.le_of_ble_eq_true rfl, Nat.le_of_ble_eq_true rfl⟩ ⟨Nat.zero_le _, Nat.zero_le _⟩ rfl rfl (Nat.le_of_ble_eq_true rfl) hl.1 dX10_conflict_38) (fun H locs hW _ => ?_)
    refine r_brn h (lv_if_ne (tgt := 46) hx hb dX10_conflict_41 (by decide)) (fun h => ?_) (fun h => ?_)
    · refine lv_iload_n hx hb dX10_conflict_46 rfl (lv_at hl 2 rfl) ?_
      refine lv_iconst (v := 5) hx hb dX10_conflict_47 (by decide) ?_
      refine r_brn h (lv_icmp_ne (tgt := 65) hx hb dX10_conflict_48 (by decide)) (fun h => ?_) (fun h => ?_)
      · refine lv_aload_n hx hb dX10_conflict_65 rfl (lv_at hl 0 rfl) ?_
        refine r_gR C hW h fl_X10_41 (by decide) dX10_conflict_66 (fun b7 h => ?_)
        refine lv_iconst (v := 5) hx hb dX10_conflict_69 (by decide) ?_
        refine lv_iload_n hx hb dX10_conflict_70 rfl (lv_at hl 1 rfl) ?_
        refine lv_imul hx hb dX10_conflict_71 ?_
        refine lv_iload_n hx hb dX10_conflict_72 rfl (lv_at hl 2 rfl) ?_
        refine lv_iadd hx hb dX10_conflict_73 ?_
        refine r_iald C hW h dX10_conflict_74 (fun v8 h => ?_)
        exact r_iret C hW (Option.some.inj h).symm rfl dX10_conflict_75
      · refine lv_aload_n hx hb dX10_conflict_51 rfl (lv_at hl 0 rfl) ?_
        refine r_gR C hW h fl_X10_41 (by decide) dX10_conflict_52 (fun b9 h => ?_)
        refine lv_iconst (v := 5) hx hb dX10_conflict_55 (by decide) ?_
        refine lv_iload_n hx hb dX10_conflict_56 rfl (lv_at hl 1 rfl) ?_
        refine lv_imul hx hb dX10_conflict_57 ?_
        refine r_iald C hW h dX10_conflict_58 (fun v10 h => ?_)
        refine r_cI hW (run_S (rest := []) C hW (t_X10_choicesOf (X := X5)) mk_X10_choicesOf sk_X10_384 ⟨Nat.le_of_ble_eq_true rfl, Nat.le_of_ble_eq_true rfl⟩ ⟨Nat.zero_le _, Nat.zero_le _⟩ rfl rfl (Nat.le_of_ble_eq_true rfl) hl.1 dX10_conflict_59) (fun H locs hW _ => ?_)
        refine lv_goto (tgt := 75) hx hb dX10_conflict_62 (by decide) ?_
        exact r_iret C hW (Option.some.inj h).symm rfl dX10_conflict_75
    · refine lv_iconst (v := 0) hx hb dX10_conflict_44 (by decide) ?_
      exact r_iret C hW (Option.some.inj h).symm rfl dX10_conflict_45
set_option maxRecDepth 20000 in
set_option maxHeartbeats 2000000 in
theorem b_X10_conflict_27 {a : Nat} {x1 : Int32} {x2 : Int32} (C : Cx g RX10 cX10_conflict 3 (some .int) p s m args meth c) {r : (Int32 × Mx)} {X : Mx} {y0 : Nat} (hW : Wd g σ X s H locs) (hl : lv_has ls 3 [(0, .ref a), (1, .int x1), (2, .int x2)]) (h : f_X10_conflict_27 σ a x1 x2 X y0 = some r) : W p l e (rmZ 7 169) s m args below meth c H locs 0 0 (QI g σ below args s r) (F0 m 27 ls [.ref y0]) := by
  have hx := C.x
  have hb := C.b
  unfold f_X10_conflict_27 at h
  refine lv_iconst (v := 0) hx hb dX10_conflict_27 (by decide) ?_
  exact b_X10_conflict_28 C hW (lv_sub hl [0, 1, 2] rfl) h
theorem kd_X10_conflict {X : Mx} {r : (Int32 × Mx)} {a : Nat} {x1 : Int32} {x2 : Int32} (h : f_X10_conflict σ X a x1 x2 = some r) : shK σ a = 8 := (grd_inv h).1
set_option maxRecDepth 20000 in
set_option maxHeartbeats 2000000 in
theorem t_X10_conflict {X : Mx} {r : (Int32 × Mx)} {a : Nat} {x1 : Int32} {x2 : Int32} (h : f_X10_conflict σ X a x1 x2 = some r) : MtI g l yX10_conflict cX10_conflict 3 (some .int) 7 169 [.ref a, .int x1, .int x2] σ X r := by
  refine met_of mk_X10_conflict (Nat.le_of_ble_eq_true rfl) (fun p e s m args below meth c ls C hW hl => ?_)
  have hx := C.x
  have hb := C.b
  have hl : lv_has ls 3 [(0, .ref a), (1, .int x1), (2, .int x2)] := hl
  unfold f_X10_conflict at h
  obtain ⟨hk0, h⟩ := grd_inv h
  refine lv_aload_n hx hb dX10_conflict_0 rfl (lv_at hl 0 rfl) ?_
  refine lv_iconst (v := 0) hx hb dX10_conflict_1 (by decide) ?_
  refine r_pI C hW h pf_X10_65 (by decide) rfl rfl dX10_conflict_2 (fun X1 H locs h hW _ => ?_)
  refine lv_aload_n hx hb dX10_conflict_5 rfl (lv_at hl 0 rfl) ?_
  refine lv_iconst (v := 0) hx hb dX10_conflict_6 (by decide) ?_
  obtain ⟨X3, h2, h⟩ := bnd_inv h
  refine r_cV hW (run_V (rest := []) C hW (t_X10_merges h2) mk_X10_merges vk_X10_354 (kd_X10_merges h2) rfl rfl (by decide) ⟨Nat.le_of_ble_eq_true rfl, Nat.le_of_ble_eq_true rfl⟩ ⟨Nat.zero_le _, Nat.zero_le _⟩ rfl rfl (Nat.le_of_ble_eq_true rfl) hl.1 dX10_conflict_7) (fun H locs hW _ => ?_)
  refine lv_aload_n hx hb dX10_conflict_10 rfl (lv_at hl 0 rfl) ?_
  refine lv_iload_n hx hb dX10_conflict_11 rfl (lv_at hl 1 rfl) ?_
  refine r_br h (lv_if_lt (tgt := 27) hx hb dX10_conflict_12 (by decide)) (fun h => ?_) (fun h => ?_)
  · exact b_X10_conflict_27 C hW (lv_sub hl [0, 1, 2] rfl) h
  · refine lv_iload_n hx hb dX10_conflict_15 rfl (lv_at hl 1 rfl) ?_
    refine lv_aload_n hx hb dX10_conflict_16 rfl (lv_at hl 0 rfl) ?_
    refine r_gI C hW h fl_X10_282 (by decide) dX10_conflict_17 (fun v4 h => ?_)
    refine r_br h (lv_icmp_ge (tgt := 27) hx hb dX10_conflict_20 (by decide)) (fun h => ?_) (fun h => ?_)
    · exact b_X10_conflict_27 C hW (lv_sub hl [0, 1, 2] rfl) h
    · refine lv_iconst (v := 1) hx hb dX10_conflict_23 (by decide) ?_
      refine lv_goto (tgt := 28) hx hb dX10_conflict_24 (by decide) ?_
      exact b_X10_conflict_28 C hW (lv_sub hl [0, 1, 2] rfl) h
set_option maxRecDepth 20000 in
set_option maxHeartbeats 2000000 in
theorem b_X10_isConflict_57 {k3 : Int32 → Option Int32} {a : Nat} {x1 : Int32} {x2 : Int32} {x3 : Int32} {x4 : Int32} (C : Cx g RX10 cX10_isConflict 5 (some .boolean) p s m args meth c) {r : Int32} {X : Mx} (hk3 : ∀ {H' : Heap} {locs' : List Loc} {ls' : Array Slot} {x4' : Int32}, Wd g σ X s H' locs' → lv_has ls' 5 [(0, .ref a), (1, .int x1), (2, .int x2), (3, .int x3), (4, .int x4')] → k3 x4' = some r → W p l e (rmZ 0 0) s m args below meth c H' locs' 0 0 (QI g σ below args s (r, X)) (F0 m 3 ls' [])) (hW : Wd g σ X s H locs) (hl : lv_has ls 5 [(0, .ref a), (1, .int x1), (2, .int x2), (3, .int x3), (4, .int x4)]) (h : f_X10_isConflict_57 k3 σ X a x1 x2 x3 x4 = some r) : W p l e (rmZ 0 0) s m args below meth c H locs 0 0 (QI g σ below args s (r, X)) (F0 m 57 ls []) := by
  have hx := C.x
  have hb := C.b
  unfold f_X10_isConflict_57 at h
  refine lv_iinc (v := (x4 + 1)) (lv' := [(4, .int (x4 + 1)), (0, .ref a), (1, .int x1), (2, .int x2), (3, .int x3)]) hx hb dX10_isConflict_57 hl (k := 4) rfl rfl (by decide) rfl (fun ls hl => ?_)
  refine lv_goto (tgt := 3) hx hb dX10_isConflict_60 (by decide) ?_
  exact hk3 hW (lv_sub hl [1, 2, 3, 4, 0] rfl) h
set_option maxRecDepth 20000 in
set_option maxHeartbeats 2000000 in
theorem b_X10_isConflict_3 {a : Nat} {x1 : Int32} {x2 : Int32} {x3 : Int32} (C : Cx g RX10 cX10_isConflict 5 (some .boolean) p s m args meth c) {r : Int32} {X : Mx} : ∀ (n : Nat) {x4 : Int32} {H : Heap} {locs : List Loc} {ls : Array Slot} (hW : Wd g σ X s H locs) (hl : lv_has ls 5 [(0, .ref a), (1, .int x1), (2, .int x2), (3, .int x3), (4, .int x4)]) (h : f_X10_isConflict_3 σ X a x1 x2 x3 n x4 = some r), W p l e (rmZ 0 0) s m args below meth c H locs 0 0 (QI g σ below args s (r, X)) (F0 m 3 ls []) := by
  have hx := C.x
  have hb := C.b
  intro n
  induction n with
  | zero =>
    intro x4 H locs ls hW hl h
    cases (show none = some r from h)
  | succ n ih =>
    intro x4 H locs ls hW hl h
    rw [f_X10_isConflict_3] at h
    refine lv_iload hx hb dX10_isConflict_3 (lv_at hl 4 rfl) ?_
    refine lv_aload_n hx hb dX10_isConflict_5 rfl (lv_at hl 0 rfl) ?_
    refine r_gI C hW h fl_X10_282 (by decide) dX10_isConflict_6 (fun v1 h => ?_)
    refine r_br h (lv_icmp_ge (tgt := 63) hx hb dX10_isConflict_9 (by decide)) (fun h => ?_) (fun h => ?_)
    · refine lv_iconst (v := 0) hx hb dX10_isConflict_63 (by decide) ?_
      exact r_iret C hW (rt_R h) rfl dX10_isConflict_64
    · refine lv_aload_n hx hb dX10_isConflict_12 rfl (lv_at hl 0 rfl) ?_
      refine r_gR C hW h fl_X10_41 (by decide) dX10_isConflict_13 (fun b2 h => ?_)
      refine lv_iconst (v := 5) hx hb dX10_isConflict_16 (by decide) ?_
      refine lv_iload hx hb dX10_isConflict_17 (lv_at hl 4 rfl) ?_
      refine lv_imul hx hb dX10_isConflict_19 ?_
      refine r_iald C hW h dX10_isConflict_20 (fun v3 h => ?_)
      refine lv_iload_n hx hb dX10_isConflict_21 rfl (lv_at hl 1 rfl) ?_
      refine r_brn h (lv_icmp_ne (tgt := 57) hx hb dX10_isConflict_22 (by decide)) (fun h => ?_) (fun h => ?_)
      · exact b_X10_isConflict_57 C (fun hW hl h => ih hW hl h) hW (lv_sub hl [0, 1, 2, 3, 4] rfl) h
      · refine lv_aload_n hx hb dX10_isConflict_25 rfl (lv_at hl 0 rfl) ?_
        refine r_gR C hW h fl_X10_41 (by decide) dX10_isConflict_26 (fun b4 h => ?_)
        refine lv_iconst (v := 5) hx hb dX10_isConflict_29 (by decide) ?_
        refine lv_iload hx hb dX10_isConflict_30 (lv_at hl 4 rfl) ?_
        refine lv_imul hx hb dX10_isConflict_32 ?_
        refine lv_iconst (v := 1) hx hb dX10_isConflict_33 (by decide) ?_
        refine lv_iadd hx hb dX10_isConflict_34 ?_
        refine r_iald C hW h dX10_isConflict_35 (fun v5 h => ?_)
        refine lv_iload_n hx hb dX10_isConflict_36 rfl (lv_at hl 2 rfl) ?_
        refine r_brn h (lv_icmp_ne (tgt := 57) hx hb dX10_isConflict_37 (by decide)) (fun h => ?_) (fun h => ?_)
        · exact b_X10_isConflict_57 C (fun hW hl h => ih hW hl h) hW (lv_sub hl [0, 1, 2, 3, 4] rfl) h
        · refine lv_aload_n hx hb dX10_isConflict_40 rfl (lv_at hl 0 rfl) ?_
          refine r_gR C hW h fl_X10_41 (by decide) dX10_isConflict_41 (fun b6 h => ?_)
          refine lv_iconst (v := 5) hx hb dX10_isConflict_44 (by decide) ?_
          refine lv_iload hx hb dX10_isConflict_45 (lv_at hl 4 rfl) ?_
          refine lv_imul hx hb dX10_isConflict_47 ?_
          refine lv_iconst (v := 2) hx hb dX10_isConflict_48 (by decide) ?_
          refine lv_iadd hx hb dX10_isConflict_49 ?_
          refine r_iald C hW h dX10_isConflict_50 (fun v7 h => ?_)
          refine lv_iload_n hx hb dX10_isConflict_51 rfl (lv_at hl 3 rfl) ?_
          refine r_brn h (lv_icmp_ne (tgt := 57) hx hb dX10_isConflict_52 (by decide)) (fun h => ?_) (fun h => ?_)
          · exact b_X10_isConflict_57 C (fun hW hl h => ih hW hl h) hW (lv_sub hl [0, 1, 2, 3, 4] rfl) h
          · refine lv_iconst (v := 1) hx hb dX10_isConflict_55 (by decide) ?_
            exact r_iret C hW (rt_R h) rfl dX10_isConflict_56
theorem kd_X10_isConflict {X : Mx} {r : Int32} {a : Nat} {x1 : Int32} {x2 : Int32} {x3 : Int32} (h : f_X10_isConflict σ X a x1 x2 x3 = some r) : shK σ a = 8 := (grd_inv h).1
set_option maxRecDepth 20000 in
set_option maxHeartbeats 2000000 in
theorem t_X10_isConflict {X : Mx} {r : Int32} {a : Nat} {x1 : Int32} {x2 : Int32} {x3 : Int32} (h : f_X10_isConflict σ X a x1 x2 x3 = some r) : MtI g l yX10_isConflict cX10_isConflict 5 (some .boolean) 0 0 [.ref a, .int x1, .int x2, .int x3] σ X (r, X) := by
  refine met_of mk_X10_isConflict (Nat.le_of_ble_eq_true rfl) (fun p e s m args below meth c ls C hW hl => ?_)
  have hx := C.x
  have hb := C.b
  have hl : lv_has ls 5 [(0, .ref a), (1, .int x1), (2, .int x2), (3, .int x3)] := hl
  unfold f_X10_isConflict at h
  obtain ⟨hk0, h⟩ := grd_inv h
  refine lv_iconst (v := 0) hx hb dX10_isConflict_0 (by decide) ?_
  refine lv_istore (lv' := [(4, .int 0), (0, .ref a), (1, .int x1), (2, .int x2), (3, .int x3)]) hx hb dX10_isConflict_1 hl (by decide) rfl (fun ls hl => ?_)
  exact b_X10_isConflict_3 C FU hW (lv_sub hl [1, 2, 3, 4, 0] rfl) h
set_option maxRecDepth 20000 in
set_option maxHeartbeats 2000000 in
theorem b_X10_settle_35 {a : Nat} (C : Cx g RX10 cX10_settle 5 (some .int) p s m args meth c) {r : (Int32 × Mx)} {X : Mx} (hW : Wd g σ X s H locs) (hl : lv_has ls 5 [(0, .ref a)]) (h : f_X10_settle_35 σ a X = some r) : W p l e (rmZ 7 169) s m args below meth c H locs 0 0 (QI g σ below args s r) (F0 m 35 ls []) := by
  have hx := C.x
  have hb := C.b
  unfold f_X10_settle_35 at h
  refine lv_aload_n hx hb dX10_settle_35 rfl (lv_at hl 0 rfl) ?_
  refine lv_iconst (v := 1) hx hb dX10_settle_36 (by decide) ?_
  obtain ⟨v3, X2, h1, h⟩ := bnd2_inv h
  refine r_cI hW (run_V (rest := []) C hW (t_X10_refuses h1) mk_X10_refuses vk_X10_270 (kd_X10_refuses h1) rfl rfl (by decide) ⟨Nat.le_of_ble_eq_true rfl, Nat.le_of_ble_eq_true rfl⟩ ⟨Nat.zero_le _, Nat.zero_le _⟩ rfl rfl (Nat.le_of_ble_eq_true rfl) hl.1 dX10_settle_37) (fun H locs hW _ => ?_)
  exact r_iret C hW (Option.some.inj h).symm rfl dX10_settle_40
theorem kd_X10_settle {X : Mx} {r : (Int32 × Mx)} {a : Nat} {x1 : Int32} {x2 : Int32} {x3 : Int32} {x4 : Int32} (h : f_X10_settle σ X a x1 x2 x3 x4 = some r) : shK σ a = 8 := (grd_inv h).1
set_option maxRecDepth 20000 in
set_option maxHeartbeats 2000000 in
theorem t_X10_settle {X : Mx} {r : (Int32 × Mx)} {a : Nat} {x1 : Int32} {x2 : Int32} {x3 : Int32} {x4 : Int32} (h : f_X10_settle σ X a x1 x2 x3 x4 = some r) : MtI g l yX10_settle cX10_settle 5 (some .int) 7 169 [.ref a, .int x1, .int x2, .int x3, .int x4] σ X r := by
  refine met_of mk_X10_settle (Nat.le_of_ble_eq_true rfl) (fun p e s m args below meth c ls C hW hl => ?_)
  have hx := C.x
  have hb := C.b
  have hl : lv_has ls 5 [(0, .ref a), (1, .int x1), (2, .int x2), (3, .int x3), (4, .int x4)] := hl
  unfold f_X10_settle at h
  obtain ⟨hk0, h⟩ := grd_inv h
  refine lv_aload_n hx hb dX10_settle_0 rfl (lv_at hl 0 rfl) ?_
  refine lv_iconst (v := 0) hx hb dX10_settle_1 (by decide) ?_
  refine r_pI C hW h pf_X10_65 (by decide) rfl rfl dX10_settle_2 (fun X1 H locs h hW _ => ?_)
  refine lv_aload_n hx hb dX10_settle_5 rfl (lv_at hl 0 rfl) ?_
  refine lv_iconst (v := 0) hx hb dX10_settle_6 (by decide) ?_
  obtain ⟨X3, h2, h⟩ := bnd_inv h
  refine r_cV hW (run_V (rest := []) C hW (t_X10_merges h2) mk_X10_merges vk_X10_354 (kd_X10_merges h2) rfl rfl (by decide) ⟨Nat.le_of_ble_eq_true rfl, Nat.le_of_ble_eq_true rfl⟩ ⟨Nat.zero_le _, Nat.zero_le _⟩ rfl rfl (Nat.le_of_ble_eq_true rfl) hl.1 dX10_settle_7) (fun H locs hW _ => ?_)
  refine lv_aload_n hx hb dX10_settle_10 rfl (lv_at hl 0 rfl) ?_
  refine lv_iload_n hx hb dX10_settle_11 rfl (lv_at hl 1 rfl) ?_
  refine lv_iload_n hx hb dX10_settle_12 rfl (lv_at hl 2 rfl) ?_
  refine lv_iload_n hx hb dX10_settle_13 rfl (lv_at hl 3 rfl) ?_
  obtain ⟨v5, h4, h⟩ := bnd_inv h
  refine r_cI hW (run_V (rest := []) C hW (t_X10_isConflict h4) mk_X10_isConflict vk_X10_387 (kd_X10_isConflict h4) rfl rfl (by decide) ⟨Nat.le_of_ble_eq_true rfl, Nat.le_of_ble_eq_true rfl⟩ ⟨Nat.zero_le _, Nat.zero_le _⟩ rfl rfl (Nat.le_of_ble_eq_true rfl) hl.1 dX10_settle_14) (fun H locs hW _ => ?_)
  refine r_br h (lv_if_eq (tgt := 35) hx hb dX10_settle_17 (by decide)) (fun h => ?_) (fun h => ?_)
  · exact b_X10_settle_35 C hW (lv_sub hl [0] rfl) h
  · refine lv_iload hx hb dX10_settle_20 (lv_at hl 4 rfl) ?_
    refine lv_iconst (v := 0) hx hb dX10_settle_22 (by decide) ?_
    refine lv_iload_n hx hb dX10_settle_23 rfl (lv_at hl 1 rfl) ?_
    refine r_cI hW (run_S (rest := [.int 0, .int x4]) C hW (t_X10_choicesOf (X := X3)) mk_X10_choicesOf sk_X10_384 ⟨Nat.le_of_ble_eq_true rfl, Nat.le_of_ble_eq_true rfl⟩ ⟨Nat.zero_le _, Nat.zero_le _⟩ rfl rfl (Nat.le_of_ble_eq_true rfl) hl.1 dX10_settle_24) (fun H locs hW _ => ?_)
    refine lv_iconst (v := 1) hx hb dX10_settle_27 (by decide) ?_
    refine lv_isub hx hb dX10_settle_28 ?_
    refine r_cI hW (run_S (rest := []) C hW (t_X10_within (X := X3)) mk_X10_within sk_X10_231 ⟨Nat.le_of_ble_eq_true rfl, Nat.le_of_ble_eq_true rfl⟩ ⟨Nat.zero_le _, Nat.zero_le _⟩ rfl rfl (Nat.le_of_ble_eq_true rfl) hl.1 dX10_settle_29) (fun H locs hW _ => ?_)
    refine r_brn h (lv_if_ne (tgt := 41) hx hb dX10_settle_32 (by decide)) (fun h => ?_) (fun h => ?_)
    · refine lv_aload_n hx hb dX10_settle_41 rfl (lv_at hl 0 rfl) ?_
      obtain ⟨X7, h6, h⟩ := bnd_inv h
      refine r_cV hW (run_V (rest := []) C hW (t_X10_keeps h6) mk_X10_keeps vk_X10_273 (kd_X10_keeps h6) rfl rfl (by decide) ⟨Nat.le_of_ble_eq_true rfl, Nat.le_of_ble_eq_true rfl⟩ ⟨Nat.zero_le _, Nat.zero_le _⟩ rfl rfl (Nat.le_of_ble_eq_true rfl) hl.1 dX10_settle_42) (fun H locs hW _ => ?_)
      refine lv_aload_n hx hb dX10_settle_45 rfl (lv_at hl 0 rfl) ?_
      refine r_gR C hW h fl_X10_20 (by decide) dX10_settle_46 (fun b8 h => ?_)
      refine lv_sipush (v := 615) hx hb dX10_settle_49 (by decide) ?_
      refine lv_iload_n hx hb dX10_settle_52 rfl (lv_at hl 1 rfl) ?_
      refine lv_iload_n hx hb dX10_settle_53 rfl (lv_at hl 2 rfl) ?_
      refine lv_iload_n hx hb dX10_settle_54 rfl (lv_at hl 3 rfl) ?_
      refine r_cI hW (run_S (rest := [.int 615, .ref b8]) C hW (t_X10_choiceAt (X := X7)) mk_X10_choiceAt sk_X10_279 ⟨Nat.le_of_ble_eq_true rfl, Nat.le_of_ble_eq_true rfl⟩ ⟨Nat.zero_le _, Nat.zero_le _⟩ rfl rfl (Nat.le_of_ble_eq_true rfl) hl.1 dX10_settle_55) (fun H locs hW _ => ?_)
      refine lv_iadd hx hb dX10_settle_58 ?_
      refine lv_iload hx hb dX10_settle_59 (lv_at hl 4 rfl) ?_
      refine r_iast C hW h dX10_settle_61 (fun X9 H locs h hW _ => ?_)
      refine lv_aload_n hx hb dX10_settle_62 rfl (lv_at hl 0 rfl) ?_
      refine lv_iconst (v := 0) hx hb dX10_settle_63 (by decide) ?_
      obtain ⟨X11, h10, h⟩ := bnd_inv h
      refine r_cV hW (run_V (rest := []) C hW (t_X10_merges h10) mk_X10_merges vk_X10_354 (kd_X10_merges h10) rfl rfl (by decide) ⟨Nat.le_of_ble_eq_true rfl, Nat.le_of_ble_eq_true rfl⟩ ⟨Nat.zero_le _, Nat.zero_le _⟩ rfl rfl (Nat.le_of_ble_eq_true rfl) hl.1 dX10_settle_64) (fun H locs hW _ => ?_)
      refine lv_aload_n hx hb dX10_settle_67 rfl (lv_at hl 0 rfl) ?_
      refine r_gI C hW h fl_X10_282 (by decide) dX10_settle_68 (fun v12 h => ?_)
      exact r_iret C hW (Option.some.inj h).symm rfl dX10_settle_71
    · exact b_X10_settle_35 C hW (lv_sub hl [0] rfl) h
set_option maxRecDepth 20000 in
set_option maxHeartbeats 2000000 in
theorem b_X10_unsettle_34 {a : Nat} {x4 : Int32} (C : Cx g RX10 cX10_unsettle 6 (some .int) p s m args meth c) {r : (Int32 × Mx)} {X : Mx} {y0 : Int32} (hW : Wd g σ X s H locs) (hl : lv_has ls 6 [(0, .ref a), (4, .int x4)]) (h : f_X10_unsettle_34 σ a x4 X y0 = some r) : W p l e (rmZ 2 44) s m args below meth c H locs 0 0 (QI g σ below args s r) (F0 m 34 ls [.int y0]) := by
  have hx := C.x
  have hb := C.b
  unfold f_X10_unsettle_34 at h
  refine lv_istore (lv' := [(5, .int y0), (0, .ref a), (4, .int x4)]) hx hb dX10_unsettle_34 hl (by decide) rfl (fun ls hl => ?_)
  refine lv_iload hx hb dX10_unsettle_36 (lv_at hl 0 rfl) ?_
  refine lv_iconst (v := (-1)) hx hb dX10_unsettle_38 (by decide) ?_
  refine r_brn h (lv_icmp_ne (tgt := 48) hx hb dX10_unsettle_39 (by decide)) (fun h => ?_) (fun h => ?_)
  · refine lv_aload_n hx hb dX10_unsettle_48 rfl (lv_at hl 1 rfl) ?_
    obtain ⟨X2, h1, h⟩ := bnd_inv h
    refine r_cV hW (run_V (rest := []) C hW (t_X10_keeps h1) mk_X10_keeps vk_X10_273 (kd_X10_keeps h1) rfl rfl (by decide) ⟨Nat.le_of_ble_eq_true rfl, Nat.le_of_ble_eq_true rfl⟩ ⟨Nat.zero_le _, Nat.zero_le _⟩ rfl rfl (Nat.le_of_ble_eq_true rfl) hl.1 dX10_unsettle_49) (fun H locs hW _ => ?_)
    refine lv_aload_n hx hb dX10_unsettle_52 rfl (lv_at hl 1 rfl) ?_
    refine r_gR C hW h fl_X10_20 (by decide) dX10_unsettle_53 (fun b3 h => ?_)
    refine lv_sipush (v := 615) hx hb dX10_unsettle_56 (by decide) ?_
    refine lv_iload hx hb dX10_unsettle_59 (lv_at hl 2 rfl) ?_
    refine lv_iadd hx hb dX10_unsettle_61 ?_
    refine lv_iconst (v := (-1)) hx hb dX10_unsettle_62 (by decide) ?_
    refine r_iast C hW h dX10_unsettle_63 (fun X4 H locs h hW _ => ?_)
    refine lv_iload hx hb dX10_unsettle_64 (lv_at hl 0 rfl) ?_
    exact r_iret C hW (Option.some.inj h).symm rfl dX10_unsettle_66
  · refine lv_aload_n hx hb dX10_unsettle_42 rfl (lv_at hl 1 rfl) ?_
    refine lv_iconst (v := 1) hx hb dX10_unsettle_43 (by decide) ?_
    obtain ⟨v7, X6, h5, h⟩ := bnd2_inv h
    refine r_cI hW (run_V (rest := []) C hW (t_X10_refuses h5) mk_X10_refuses vk_X10_270 (kd_X10_refuses h5) rfl rfl (by decide) ⟨Nat.le_of_ble_eq_true rfl, Nat.le_of_ble_eq_true rfl⟩ ⟨Nat.zero_le _, Nat.zero_le _⟩ rfl rfl (Nat.le_of_ble_eq_true rfl) hl.1 dX10_unsettle_44) (fun H locs hW _ => ?_)
    exact r_iret C hW (Option.some.inj h).symm rfl dX10_unsettle_47
theorem kd_X10_unsettle {X : Mx} {r : (Int32 × Mx)} {a : Nat} {x1 : Int32} {x2 : Int32} {x3 : Int32} (h : f_X10_unsettle σ X a x1 x2 x3 = some r) : shK σ a = 8 := (grd_inv h).1
set_option maxRecDepth 20000 in
set_option maxHeartbeats 2000000 in
theorem t_X10_unsettle {X : Mx} {r : (Int32 × Mx)} {a : Nat} {x1 : Int32} {x2 : Int32} {x3 : Int32} (h : f_X10_unsettle σ X a x1 x2 x3 = some r) : MtI g l yX10_unsettle cX10_unsettle 6 (some .int) 2 44 [.ref a, .int x1, .int x2, .int x3] σ X r := by
  refine met_of mk_X10_unsettle (Nat.le_of_ble_eq_true rfl) (fun p e s m args below meth c ls C hW hl => ?_)
  have hx := C.x
  have hb := C.b
  have hl : lv_has ls 6 [(0, .ref a), (1, .int x1), (2, .int x2), (3, .int x3)] := hl
  unfold f_X10_unsettle at h
  obtain ⟨hk0, h⟩ := grd_inv h
  refine lv_aload_n hx hb dX10_unsettle_0 rfl (lv_at hl 0 rfl) ?_
  refine lv_iconst (v := 0) hx hb dX10_unsettle_1 (by decide) ?_
  refine r_pI C hW h pf_X10_65 (by decide) rfl rfl dX10_unsettle_2 (fun X1 H locs h hW _ => ?_)
  refine lv_iload_n hx hb dX10_unsettle_5 rfl (lv_at hl 1 rfl) ?_
  refine lv_iload_n hx hb dX10_unsettle_6 rfl (lv_at hl 2 rfl) ?_
  refine lv_iload_n hx hb dX10_unsettle_7 rfl (lv_at hl 3 rfl) ?_
  refine r_cI hW (run_S (rest := []) C hW (t_X10_choiceAt (X := X1)) mk_X10_choiceAt sk_X10_279 ⟨Nat.le_of_ble_eq_true rfl, Nat.le_of_ble_eq_true rfl⟩ ⟨Nat.zero_le _, Nat.zero_le _⟩ rfl rfl (Nat.le_of_ble_eq_true rfl) hl.1 dX10_unsettle_8) (fun H locs hW _ => ?_)
  refine lv_istore (lv' := [(4, .int (f_X10_choiceAt x1 x2 x3)), (0, .ref a), (1, .int x1), (2, .int x2), (3, .int x3)]) hx hb dX10_unsettle_11 hl (by decide) rfl (fun ls hl => ?_)
  refine lv_iload hx hb dX10_unsettle_13 (lv_at hl 0 rfl) ?_
  refine lv_iconst (v := (-1)) hx hb dX10_unsettle_15 (by decide) ?_
  refine r_brn h (lv_icmp_ne (tgt := 23) hx hb dX10_unsettle_16 (by decide)) (fun h => ?_) (fun h => ?_)
  · refine lv_aload_n hx hb dX10_unsettle_23 rfl (lv_at hl 1 rfl) ?_
    refine r_gR C hW h fl_X10_20 (by decide) dX10_unsettle_24 (fun b2 h => ?_)
    refine lv_sipush (v := 615) hx hb dX10_unsettle_27 (by decide) ?_
    refine lv_iload hx hb dX10_unsettle_30 (lv_at hl 0 rfl) ?_
    refine lv_iadd hx hb dX10_unsettle_32 ?_
    refine r_iald C hW h dX10_unsettle_33 (fun v3 h => ?_)
    exact b_X10_unsettle_34 C hW (lv_sub hl [1, 0] rfl) h
  · refine lv_iconst (v := (-1)) hx hb dX10_unsettle_19 (by decide) ?_
    refine lv_goto (tgt := 34) hx hb dX10_unsettle_20 (by decide) ?_
    exact b_X10_unsettle_34 C hW (lv_sub hl [1, 0] rfl) h
set_option maxRecDepth 20000 in
set_option maxHeartbeats 2000000 in
theorem t_X10_flipped {X : Mx} {x0 : Int32} : MtI g l yX10_flipped cX10_flipped 1 (some .int) 0 0 [.int x0] σ X (f_X10_flipped x0, X) := by
  obtain ⟨r, h⟩ : ∃ r, f_X10_flipped x0 = r := ⟨_, rfl⟩
  rw [h]
  refine met_of mk_X10_flipped (Nat.le_of_ble_eq_true rfl) (fun p e s m args below meth c ls C hW hl => ?_)
  have hx := C.x
  have hb := C.b
  have hl : lv_has ls 1 [(0, .int x0)] := hl
  unfold f_X10_flipped at h
  refine lv_iload_n hx hb dX10_flipped_0 rfl (lv_at hl 0 rfl) ?_
  refine lv_iconst (v := 5) hx hb dX10_flipped_1 (by decide) ?_
  refine r_br h (lv_icmp_ge (tgt := 9) hx hb dX10_flipped_2 (by decide)) (fun h => ?_) (fun h => ?_)
  · refine lv_iload_n hx hb dX10_flipped_9 rfl (lv_at hl 0 rfl) ?_
    refine lv_bipush (v := 7) hx hb dX10_flipped_10 (by decide) ?_
    refine r_br h (lv_icmp_ge (tgt := 21) hx hb dX10_flipped_12 (by decide)) (fun h => ?_) (fun h => ?_)
    · refine lv_iload_n hx hb dX10_flipped_21 rfl (lv_at hl 0 rfl) ?_
      refine lv_iconst (v := 2) hx hb dX10_flipped_22 (by decide) ?_
      refine lv_isub hx hb dX10_flipped_23 ?_
      exact r_iret C hW (rt_T h) rfl dX10_flipped_24
    · refine lv_iload_n hx hb dX10_flipped_15 rfl (lv_at hl 0 rfl) ?_
      refine lv_iconst (v := 2) hx hb dX10_flipped_16 (by decide) ?_
      refine lv_iadd hx hb dX10_flipped_17 ?_
      refine lv_goto (tgt := 24) hx hb dX10_flipped_18 (by decide) ?_
      exact r_iret C hW (rt_T h) rfl dX10_flipped_24
  · refine lv_iload_n hx hb dX10_flipped_5 rfl (lv_at hl 0 rfl) ?_
    refine lv_goto (tgt := 24) hx hb dX10_flipped_6 (by decide) ?_
    exact r_iret C hW (rt_T h) rfl dX10_flipped_24
set_option maxRecDepth 20000 in
set_option maxHeartbeats 2000000 in
theorem b_X10_flipsTable_139 {k46 : Mx → Int32 → Option Mx} {a : Nat} {x3 : Int32} {x4 : Int32} {x5 : Int32} {x6 : Int32} (C : Cx g RX10 cX10_flipsTable 8 none p s m args meth c) {r : Mx} (hk46 : ∀ {H' : Heap} {locs' : List Loc} {ls' : Array Slot} {X' : Mx} {x5' : Int32}, Wd g σ X' s H' locs' → lv_has ls' 8 [(0, .ref a), (3, .int x3), (4, .int x4), (5, .int x5')] → k46 X' x5' = some r → W p l e (rmZ 1 20) s m args below meth c H' locs' 0 0 (QV g σ below args s r) (F0 m 46 ls' [])) : ∀ (n : Nat) {X : Mx} {x7 : Int32} {H : Heap} {locs : List Loc} {ls : Array Slot} (hW : Wd g σ X s H locs) (hl : lv_has ls 8 [(0, .ref a), (3, .int x3), (4, .int x4), (5, .int x5), (6, .int x6), (7, .int x7)]) (h : f_X10_flipsTable_139 k46 σ a x3 x4 x5 x6 n X x7 = some r), W p l e (rmZ 1 20) s m args below meth c H locs 0 0 (QV g σ below args s r) (F0 m 139 ls []) := by
  have hx := C.x
  have hb := C.b
  intro n
  induction n with
  | zero =>
    intro X x7 H locs ls hW hl h
    cases (show none = some r from h)
  | succ n ih =>
    intro X x7 H locs ls hW hl h
    rw [f_X10_flipsTable_139] at h
    refine lv_iload hx hb dX10_flipsTable_139 (lv_at hl 5 rfl) ?_
    refine lv_bipush (v := 20) hx hb dX10_flipsTable_141 (by decide) ?_
    refine r_br h (lv_icmp_ge (tgt := 189) hx hb dX10_flipsTable_143 (by decide)) (fun h => ?_) (fun h => ?_)
    · refine lv_iinc (v := (x5 + 1)) (lv' := [(5, .int (x5 + 1)), (0, .ref a), (3, .int x3), (4, .int x4), (6, .int x6), (7, .int x7)]) hx hb dX10_flipsTable_189 hl (k := 3) rfl rfl (by decide) rfl (fun ls hl => ?_)
      refine lv_goto (tgt := 46) hx hb dX10_flipsTable_192 (by decide) ?_
      exact hk46 hW (lv_sub hl [1, 2, 3, 0] rfl) h
    · refine lv_aload_n hx hb dX10_flipsTable_146 rfl (lv_at hl 0 rfl) ?_
      refine r_gR C hW h fl_X10_20 (by decide) dX10_flipsTable_147 (fun b1 h => ?_)
      refine lv_iload_n hx hb dX10_flipsTable_150 rfl (lv_at hl 1 rfl) ?_
      refine lv_bipush (v := 20) hx hb dX10_flipsTable_151 (by decide) ?_
      refine lv_iadd hx hb dX10_flipsTable_153 ?_
      refine lv_bipush (v := 9) hx hb dX10_flipsTable_154 (by decide) ?_
      refine lv_iload hx hb dX10_flipsTable_156 (lv_at hl 5 rfl) ?_
      refine lv_imul hx hb dX10_flipsTable_158 ?_
      refine lv_iadd hx hb dX10_flipsTable_159 ?_
      refine lv_iload hx hb dX10_flipsTable_160 (lv_at hl 3 rfl) ?_
      refine lv_iadd hx hb dX10_flipsTable_162 ?_
      refine lv_aload_n hx hb dX10_flipsTable_163 rfl (lv_at hl 0 rfl) ?_
      refine r_gR C hW h fl_X10_20 (by decide) dX10_flipsTable_164 (fun b2 h => ?_)
      refine lv_iload hx hb dX10_flipsTable_167 (lv_at hl 2 rfl) ?_
      refine lv_bipush (v := 20) hx hb dX10_flipsTable_169 (by decide) ?_
      refine lv_iadd hx hb dX10_flipsTable_171 ?_
      refine lv_bipush (v := 9) hx hb dX10_flipsTable_172 (by decide) ?_
      refine lv_iload hx hb dX10_flipsTable_174 (lv_at hl 5 rfl) ?_
      refine lv_imul hx hb dX10_flipsTable_176 ?_
      refine lv_iadd hx hb dX10_flipsTable_177 ?_
      refine lv_iload hx hb dX10_flipsTable_178 (lv_at hl 4 rfl) ?_
      refine lv_iadd hx hb dX10_flipsTable_180 ?_
      refine r_iald C hW h dX10_flipsTable_181 (fun v3 h => ?_)
      refine r_iast C hW h dX10_flipsTable_182 (fun X4 H locs h hW _ => ?_)
      refine lv_iinc (v := (x7 + 1)) (lv' := [(7, .int (x7 + 1)), (0, .ref a), (3, .int x3), (4, .int x4), (5, .int x5), (6, .int x6)]) hx hb dX10_flipsTable_183 hl (k := 5) rfl rfl (by decide) rfl (fun ls hl => ?_)
      refine lv_goto (tgt := 139) hx hb dX10_flipsTable_186 (by decide) ?_
      exact ih hW (lv_sub hl [1, 2, 3, 4, 5, 0] rfl) h
set_option maxRecDepth 20000 in
set_option maxHeartbeats 2000000 in
theorem b_X10_flipsTable_46 {a : Nat} {x3 : Int32} {x4 : Int32} (C : Cx g RX10 cX10_flipsTable 8 none p s m args meth c) {r : Mx} : ∀ (n : Nat) {X : Mx} {x5 : Int32} {H : Heap} {locs : List Loc} {ls : Array Slot} (hW : Wd g σ X s H locs) (hl : lv_has ls 8 [(0, .ref a), (3, .int x3), (4, .int x4), (5, .int x5)]) (h : f_X10_flipsTable_46 σ a x3 x4 n X x5 = some r), W p l e (rmZ 1 20) s m args below meth c H locs 0 0 (QV g σ below args s r) (F0 m 46 ls []) := by
  have hx := C.x
  have hb := C.b
  intro n
  induction n with
  | zero =>
    intro X x5 H locs ls hW hl h
    cases (show none = some r from h)
  | succ n ih =>
    intro X x5 H locs ls hW hl h
    rw [f_X10_flipsTable_46] at h
    refine lv_iload hx hb dX10_flipsTable_46 (lv_at hl 3 rfl) ?_
    refine lv_bipush (v := 9) hx hb dX10_flipsTable_48 (by decide) ?_
    refine r_br h (lv_icmp_ge (tgt := 195) hx hb dX10_flipsTable_50 (by decide)) (fun h => ?_) (fun h => ?_)
    · exact r_vret C hW (Option.some.inj h).symm dX10_flipsTable_195
    · refine lv_iload hx hb dX10_flipsTable_53 (lv_at hl 3 rfl) ?_
      refine r_cI hW (run_S (rest := []) C hW (t_X10_flipped (X := X)) mk_X10_flipped sk_X10_390 ⟨Nat.le_of_ble_eq_true rfl, Nat.le_of_ble_eq_true rfl⟩ ⟨Nat.zero_le _, Nat.zero_le _⟩ rfl rfl (Nat.le_of_ble_eq_true rfl) hl.1 dX10_flipsTable_55) (fun H locs hW _ => ?_)
      refine lv_istore (lv' := [(6, .int (f_X10_flipped x5)), (0, .ref a), (3, .int x3), (4, .int x4), (5, .int x5)]) hx hb dX10_flipsTable_58 hl (by decide) rfl (fun ls hl => ?_)
      refine lv_aload_n hx hb dX10_flipsTable_60 rfl (lv_at hl 1 rfl) ?_
      refine r_gR C hW h fl_X10_20 (by decide) dX10_flipsTable_61 (fun b1 h => ?_)
      refine lv_iload_n hx hb dX10_flipsTable_64 rfl (lv_at hl 2 rfl) ?_
      refine lv_iconst (v := 0) hx hb dX10_flipsTable_65 (by decide) ?_
      refine lv_iadd hx hb dX10_flipsTable_66 ?_
      refine lv_dup2_11 hx hb dX10_flipsTable_67 rfl rfl ?_
      refine r_iald C hW h dX10_flipsTable_68 (fun v2 h => ?_)
      refine lv_aload_n hx hb dX10_flipsTable_69 rfl (lv_at hl 1 rfl) ?_
      refine r_gR C hW h fl_X10_20 (by decide) dX10_flipsTable_70 (fun b3 h => ?_)
      refine lv_iload hx hb dX10_flipsTable_73 (lv_at hl 3 rfl) ?_
      refine lv_iconst (v := 0) hx hb dX10_flipsTable_75 (by decide) ?_
      refine lv_iadd hx hb dX10_flipsTable_76 ?_
      refine r_iald C hW h dX10_flipsTable_77 (fun v4 h => ?_)
      refine lv_iload hx hb dX10_flipsTable_78 (lv_at hl 0 rfl) ?_
      refine lv_ishr hx hb dX10_flipsTable_80 ?_
      refine lv_iconst (v := 1) hx hb dX10_flipsTable_81 (by decide) ?_
      refine lv_iand hx hb dX10_flipsTable_82 ?_
      refine lv_iload hx hb dX10_flipsTable_83 (lv_at hl 4 rfl) ?_
      refine lv_ishl hx hb dX10_flipsTable_85 ?_
      refine lv_ior hx hb dX10_flipsTable_86 ?_
      refine r_iast C hW h dX10_flipsTable_87 (fun X5 H locs h hW _ => ?_)
      refine lv_aload_n hx hb dX10_flipsTable_88 rfl (lv_at hl 1 rfl) ?_
      refine r_gR C hW h fl_X10_20 (by decide) dX10_flipsTable_89 (fun b6 h => ?_)
      refine lv_iload_n hx hb dX10_flipsTable_92 rfl (lv_at hl 2 rfl) ?_
      refine lv_iconst (v := 2) hx hb dX10_flipsTable_93 (by decide) ?_
      refine lv_iadd hx hb dX10_flipsTable_94 ?_
      refine lv_iload hx hb dX10_flipsTable_95 (lv_at hl 4 rfl) ?_
      refine lv_iadd hx hb dX10_flipsTable_97 ?_
      refine lv_aload_n hx hb dX10_flipsTable_98 rfl (lv_at hl 1 rfl) ?_
      refine r_gR C hW h fl_X10_20 (by decide) dX10_flipsTable_99 (fun b7 h => ?_)
      refine lv_iload hx hb dX10_flipsTable_102 (lv_at hl 3 rfl) ?_
      refine lv_iconst (v := 2) hx hb dX10_flipsTable_104 (by decide) ?_
      refine lv_iadd hx hb dX10_flipsTable_105 ?_
      refine lv_iload hx hb dX10_flipsTable_106 (lv_at hl 0 rfl) ?_
      refine lv_iadd hx hb dX10_flipsTable_108 ?_
      refine r_iald C hW h dX10_flipsTable_109 (fun v8 h => ?_)
      refine r_iast C hW h dX10_flipsTable_110 (fun X9 H locs h hW _ => ?_)
      refine lv_aload_n hx hb dX10_flipsTable_111 rfl (lv_at hl 1 rfl) ?_
      refine r_gR C hW h fl_X10_20 (by decide) dX10_flipsTable_112 (fun b10 h => ?_)
      refine lv_iload_n hx hb dX10_flipsTable_115 rfl (lv_at hl 2 rfl) ?_
      refine lv_bipush (v := 11) hx hb dX10_flipsTable_116 (by decide) ?_
      refine lv_iadd hx hb dX10_flipsTable_118 ?_
      refine lv_iload hx hb dX10_flipsTable_119 (lv_at hl 4 rfl) ?_
      refine lv_iadd hx hb dX10_flipsTable_121 ?_
      refine lv_aload_n hx hb dX10_flipsTable_122 rfl (lv_at hl 1 rfl) ?_
      refine r_gR C hW h fl_X10_20 (by decide) dX10_flipsTable_123 (fun b11 h => ?_)
      refine lv_iload hx hb dX10_flipsTable_126 (lv_at hl 3 rfl) ?_
      refine lv_bipush (v := 11) hx hb dX10_flipsTable_128 (by decide) ?_
      refine lv_iadd hx hb dX10_flipsTable_130 ?_
      refine lv_iload hx hb dX10_flipsTable_131 (lv_at hl 0 rfl) ?_
      refine lv_iadd hx hb dX10_flipsTable_133 ?_
      refine r_iald C hW h dX10_flipsTable_134 (fun v12 h => ?_)
      refine r_iast C hW h dX10_flipsTable_135 (fun X13 H locs h hW _ => ?_)
      refine lv_iconst (v := 0) hx hb dX10_flipsTable_136 (by decide) ?_
      refine lv_istore (lv' := [(7, .int 0), (6, .int (f_X10_flipped x5)), (0, .ref a), (3, .int x3), (4, .int x4), (5, .int x5)]) hx hb dX10_flipsTable_137 hl (by decide) rfl (fun ls hl => ?_)
      exact b_X10_flipsTable_139 C (fun hW hl h => ih hW hl h) FU hW (lv_sub hl [2, 3, 4, 5, 1, 0] rfl) h
end
