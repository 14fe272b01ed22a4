section
variable {p : Program} {l : Launch} {e : Env} {s : State} {m : MethodId} {args : Array Value} {below : List Frame} {meth : Method} {c : Code} {H : Heap} {locs : List Loc} {g : Gp} {σ : Sh} {ls : Array Slot}
theorem kd_X10_flipsTable {X : Mx} {r : Mx} {a : Nat} {x1 : Int32} {x2 : Int32} (h : f_X10_flipsTable σ X a x1 x2 = some r) : shK σ a = 8 := (grd_inv h).1
set_option maxRecDepth 20000 in
set_option maxHeartbeats 2000000 in
theorem t_X10_flipsTable {X : Mx} {r : Mx} {a : Nat} {x1 : Int32} {x2 : Int32} (h : f_X10_flipsTable σ X a x1 x2 = some r) : MtV g l yX10_flipsTable cX10_flipsTable 8 none 1 20 [.ref a, .int x1, .int x2] σ X r := by
  refine met_of mk_X10_flipsTable (Nat.le_of_ble_eq_true rfl) (fun p e s m args below meth c ls C hW hl => ?_)
  have hx := C.x
  have hb := C.b
  have hl : lv_has ls 8 [(0, .ref a), (1, .int x1), (2, .int x2)] := hl
  unfold f_X10_flipsTable at h
  obtain ⟨hk0, h⟩ := grd_inv h
  refine lv_sipush (v := 200) hx hb dX10_flipsTable_0 (by decide) ?_
  refine lv_iload_n hx hb dX10_flipsTable_3 rfl (lv_at hl 1 rfl) ?_
  refine lv_imul hx hb dX10_flipsTable_4 ?_
  refine lv_istore_n (lv' := [(3, .int (200 * x1)), (0, .ref a), (1, .int x1), (2, .int x2)]) hx hb dX10_flipsTable_5 rfl hl (by decide) rfl (fun ls hl => ?_)
  refine lv_sipush (v := 931) hx hb dX10_flipsTable_6 (by decide) ?_
  refine lv_sipush (v := 200) hx hb dX10_flipsTable_9 (by decide) ?_
  refine lv_iload_n hx hb dX10_flipsTable_12 rfl (lv_at hl 3 rfl) ?_
  refine lv_imul hx hb dX10_flipsTable_13 ?_
  refine lv_iadd hx hb dX10_flipsTable_14 ?_
  refine lv_istore (lv' := [(4, .int (931 + (200 * x2))), (3, .int (200 * x1)), (0, .ref a), (1, .int x1), (2, .int x2)]) hx hb dX10_flipsTable_15 hl (by decide) rfl (fun ls hl => ?_)
  refine lv_aload_n hx hb dX10_flipsTable_17 rfl (lv_at hl 2 rfl) ?_
  refine r_gR C hW h fl_X10_20 (by decide) dX10_flipsTable_18 (fun b1 h => ?_)
  refine lv_iload_n hx hb dX10_flipsTable_21 rfl (lv_at hl 1 rfl) ?_
  refine lv_iconst (v := 1) hx hb dX10_flipsTable_22 (by decide) ?_
  refine lv_iadd hx hb dX10_flipsTable_23 ?_
  refine lv_aload_n hx hb dX10_flipsTable_24 rfl (lv_at hl 2 rfl) ?_
  refine r_gR C hW h fl_X10_20 (by decide) dX10_flipsTable_25 (fun b2 h => ?_)
  refine lv_iload hx hb dX10_flipsTable_28 (lv_at hl 0 rfl) ?_
  refine lv_iconst (v := 1) hx hb dX10_flipsTable_30 (by decide) ?_
  refine lv_iadd hx hb dX10_flipsTable_31 ?_
  refine r_iald C hW h dX10_flipsTable_32 (fun v3 h => ?_)
  refine r_iast C hW h dX10_flipsTable_33 (fun X4 H locs h hW _ => ?_)
  refine lv_aload_n hx hb dX10_flipsTable_34 rfl (lv_at hl 2 rfl) ?_
  refine r_gR C hW h fl_X10_20 (by decide) dX10_flipsTable_35 (fun b5 h => ?_)
  refine lv_iload_n hx hb dX10_flipsTable_38 rfl (lv_at hl 1 rfl) ?_
  refine lv_iconst (v := 0) hx hb dX10_flipsTable_39 (by decide) ?_
  refine lv_iadd hx hb dX10_flipsTable_40 ?_
  refine lv_iconst (v := 0) hx hb dX10_flipsTable_41 (by decide) ?_
  refine r_iast C hW h dX10_flipsTable_42 (fun X6 H locs h hW _ => ?_)
  refine lv_iconst (v := 0) hx hb dX10_flipsTable_43 (by decide) ?_
  refine lv_istore (lv' := [(5, .int 0), (4, .int (931 + (200 * x2))), (3, .int (200 * x1)), (0, .ref a), (1, .int x1), (2, .int x2)]) hx hb dX10_flipsTable_44 hl (by decide) rfl (fun ls hl => ?_)
  exact b_X10_flipsTable_46 C FU hW (lv_sub hl [3, 2, 1, 0] rfl) h
set_option maxRecDepth 20000 in
set_option maxHeartbeats 2000000 in
theorem b_X10_flipsChoice_37 {a : Nat} {x1 : Int32} {x2 : Int32} {x3 : Int32} {x6 : Int32} (C : Cx g RX10 cX10_flipsChoice 8 none p s m args meth c) {r : Mx} {X : Mx} {y0 : Int32} (hW : Wd g σ X s H locs) (hl : lv_has ls 8 [(0, .ref a), (1, .int x1), (2, .int x2), (3, .int x3), (6, .int x6)]) (h : f_X10_flipsChoice_37 σ a x1 x2 x3 x6 X y0 = some r) : W p l e (rmZ 2 44) s m args below meth c H locs 0 0 (QV g σ below args s r) (F0 m 37 ls [.int y0]) := by
  have hx := C.x
  have hb := C.b
  unfold f_X10_flipsChoice_37 at h
  refine lv_istore (lv' := [(7, .int y0), (0, .ref a), (1, .int x1), (2, .int x2), (3, .int x3), (6, .int x6)]) hx hb dX10_flipsChoice_37 hl (by decide) rfl (fun ls hl => ?_)
  refine lv_aload_n hx hb dX10_flipsChoice_39 rfl (lv_at hl 1 rfl) ?_
  refine r_gR C hW h fl_X10_20 (by decide) dX10_flipsChoice_40 (fun b1 h => ?_)
  refine lv_sipush (v := 615) hx hb dX10_flipsChoice_43 (by decide) ?_
  refine lv_iload_n hx hb dX10_flipsChoice_46 rfl (lv_at hl 2 rfl) ?_
  refine lv_iload_n hx hb dX10_flipsChoice_47 rfl (lv_at hl 3 rfl) ?_
  refine lv_iload_n hx hb dX10_flipsChoice_48 rfl (lv_at hl 4 rfl) ?_
  refine r_cI hW (run_S (rest := [.int 615, .ref b1]) C hW (t_X10_choiceAt (X := X)) mk_X10_choiceAt sk_X10_279 ⟨Nat.le_of_ble_eq_true rfl, Nat.le_of_ble_eq_true rfl⟩ ⟨Nat.zero_le _, Nat.zero_le _⟩ rfl rfl (Nat.le_of_ble_eq_true rfl) hl.1 dX10_flipsChoice_49) (fun H locs hW _ => ?_)
  refine lv_iadd hx hb dX10_flipsChoice_52 ?_
  refine lv_iload hx hb dX10_flipsChoice_53 (lv_at hl 0 rfl) ?_
  refine r_br h (lv_if_eq (tgt := 65) hx hb dX10_flipsChoice_55 (by decide)) (fun h => ?_) (fun h => ?_)
  · refine lv_iload hx hb dX10_flipsChoice_65 (lv_at hl 5 rfl) ?_
    refine r_iast C hW h dX10_flipsChoice_67 (fun X2 H locs h hW _ => ?_)
    exact r_vret C hW (Option.some.inj h).symm dX10_flipsChoice_68
  · refine lv_iconst (v := 3) hx hb dX10_flipsChoice_58 (by decide) ?_
    refine lv_iload hx hb dX10_flipsChoice_59 (lv_at hl 5 rfl) ?_
    refine lv_isub hx hb dX10_flipsChoice_61 ?_
    refine lv_goto (tgt := 67) hx hb dX10_flipsChoice_62 (by decide) ?_
    refine r_iast C hW h dX10_flipsChoice_67 (fun X3 H locs h hW _ => ?_)
    exact r_vret C hW (Option.some.inj h).symm dX10_flipsChoice_68
set_option maxRecDepth 20000 in
set_option maxHeartbeats 2000000 in
theorem b_X10_flipsChoice_36 {a : Nat} {x1 : Int32} {x2 : Int32} {x3 : Int32} {x6 : Int32} (C : Cx g RX10 cX10_flipsChoice 8 none p s m args meth c) {r : Mx} {X : Mx} (hW : Wd g σ X s H locs) (hl : lv_has ls 8 [(0, .ref a), (1, .int x1), (2, .int x2), (3, .int x3), (6, .int x6)]) (h : f_X10_flipsChoice_36 σ a x1 x2 x3 x6 X = some r) : W p l e (rmZ 2 44) s m args below meth c H locs 0 0 (QV g σ below args s r) (F0 m 36 ls []) := by
  have hx := C.x
  have hb := C.b
  unfold f_X10_flipsChoice_36 at h
  refine lv_iconst (v := 0) hx hb dX10_flipsChoice_36 (by decide) ?_
  exact b_X10_flipsChoice_37 C hW (lv_sub hl [0, 1, 2, 3, 4] rfl) h
theorem kd_X10_flipsChoice {X : Mx} {r : Mx} {a : Nat} {x1 : Int32} {x2 : Int32} {x3 : Int32} {x4 : Int32} {x5 : Int32} (h : f_X10_flipsChoice σ X a x1 x2 x3 x4 x5 = some r) : shK σ a = 8 := (grd_inv h).1
set_option maxRecDepth 20000 in
set_option maxHeartbeats 2000000 in
theorem t_X10_flipsChoice {X : Mx} {r : Mx} {a : Nat} {x1 : Int32} {x2 : Int32} {x3 : Int32} {x4 : Int32} {x5 : Int32} (h : f_X10_flipsChoice σ X a x1 x2 x3 x4 x5 = some r) : MtV g l yX10_flipsChoice cX10_flipsChoice 8 none 2 44 [.ref a, .int x1, .int x2, .int x3, .int x4, .int x5] σ X r := by
  refine met_of mk_X10_flipsChoice (Nat.le_of_ble_eq_true rfl) (fun p e s m args below meth c ls C hW hl => ?_)
  have hx := C.x
  have hb := C.b
  have hl : lv_has ls 8 [(0, .ref a), (1, .int x1), (2, .int x2), (3, .int x3), (4, .int x4), (5, .int x5)] := hl
  unfold f_X10_flipsChoice at h
  obtain ⟨hk0, h⟩ := grd_inv h
  refine lv_aload_n hx hb dX10_flipsChoice_0 rfl (lv_at hl 0 rfl) ?_
  refine r_gR C hW h fl_X10_20 (by decide) dX10_flipsChoice_1 (fun b1 h => ?_)
  refine lv_sipush (v := 1546) hx hb dX10_flipsChoice_4 (by decide) ?_
  refine lv_iload_n hx hb dX10_flipsChoice_7 rfl (lv_at hl 1 rfl) ?_
  refine lv_iload hx hb dX10_flipsChoice_8 (lv_at hl 4 rfl) ?_
  refine lv_iload hx hb dX10_flipsChoice_10 (lv_at hl 5 rfl) ?_
  refine r_cI hW (run_S (rest := [.int 1546, .ref b1]) C hW (t_X10_choiceAt (X := X)) mk_X10_choiceAt sk_X10_279 ⟨Nat.le_of_ble_eq_true rfl, Nat.le_of_ble_eq_true rfl⟩ ⟨Nat.zero_le _, Nat.zero_le _⟩ rfl rfl (Nat.le_of_ble_eq_true rfl) hl.1 dX10_flipsChoice_12) (fun H locs hW _ => ?_)
  refine lv_iadd hx hb dX10_flipsChoice_15 ?_
  refine r_iald C hW h dX10_flipsChoice_16 (fun v2 h => ?_)
  refine lv_istore (lv' := [(6, .int v2), (0, .ref a), (1, .int x1), (2, .int x2), (3, .int x3), (4, .int x4), (5, .int x5)]) hx hb dX10_flipsChoice_17 hl (by decide) rfl (fun ls hl => ?_)
  refine lv_iload_n hx hb dX10_flipsChoice_19 rfl (lv_at hl 2 rfl) ?_
  refine r_cI hW (run_S (rest := []) C hW (t_X10_choicesOf (X := X)) mk_X10_choicesOf sk_X10_384 ⟨Nat.le_of_ble_eq_true rfl, Nat.le_of_ble_eq_true rfl⟩ ⟨Nat.zero_le _, Nat.zero_le _⟩ rfl rfl (Nat.le_of_ble_eq_true rfl) hl.1 dX10_flipsChoice_20) (fun H locs hW _ => ?_)
  refine lv_iconst (v := 3) hx hb dX10_flipsChoice_23 (by decide) ?_
  refine r_brn h (lv_icmp_ne (tgt := 36) hx hb dX10_flipsChoice_24 (by decide)) (fun h => ?_) (fun h => ?_)
  · exact b_X10_flipsChoice_36 C hW (lv_sub hl [1, 2, 3, 4, 0] rfl) h
  · refine lv_iload hx hb dX10_flipsChoice_27 (lv_at hl 0 rfl) ?_
    refine r_br h (lv_if_le (tgt := 36) hx hb dX10_flipsChoice_29 (by decide)) (fun h => ?_) (fun h => ?_)
    · exact b_X10_flipsChoice_36 C hW (lv_sub hl [1, 2, 3, 4, 0] rfl) h
    · refine lv_iconst (v := 1) hx hb dX10_flipsChoice_32 (by decide) ?_
      refine lv_goto (tgt := 37) hx hb dX10_flipsChoice_33 (by decide) ?_
      exact b_X10_flipsChoice_37 C hW (lv_sub hl [1, 2, 3, 4, 0] rfl) h
set_option maxRecDepth 20000 in
set_option maxHeartbeats 2000000 in
theorem b_X10_flip_66 {k59 : Mx → Int32 → Option Mx} {a : Nat} {x1 : Int32} (C : Cx g RX10 cX10_flip 3 none p s m args meth c) {r : Mx} (hk59 : ∀ {H' : Heap} {locs' : List Loc} {ls' : Array Slot} {X' : Mx} {x1' : Int32}, Wd g σ X' s H' locs' → lv_has ls' 3 [(0, .ref a), (1, .int x1')] → k59 X' x1' = some r → W p l e (rmZ 3 71) s m args below meth c H' locs' 0 0 (QV g σ below args s r) (F0 m 59 ls' [])) : ∀ (n : Nat) {X : Mx} {x2 : Int32} {H : Heap} {locs : List Loc} {ls : Array Slot} (hW : Wd g σ X s H locs) (hl : lv_has ls 3 [(0, .ref a), (1, .int x1), (2, .int x2)]) (h : f_X10_flip_66 k59 σ a x1 n X x2 = some r), W p l e (rmZ 3 71) s m args below meth c H locs 0 0 (QV g σ below args s r) (F0 m 66 ls []) := by
  have hx := C.x
  have hb := C.b
  intro n
  induction n with
  | zero =>
    intro X x2 H locs ls hW hl h
    cases (show none = some r from h)
  | succ n ih =>
    intro X x2 H locs ls hW hl h
    rw [f_X10_flip_66] at h
    refine lv_iload_n hx hb dX10_flip_66 rfl (lv_at hl 2 rfl) ?_
    refine lv_bipush (v := 9) hx hb dX10_flip_67 (by decide) ?_
    refine r_br h (lv_icmp_ge (tgt := 90) hx hb dX10_flip_69 (by decide)) (fun h => ?_) (fun h => ?_)
    · refine lv_iinc (v := (x1 + 1)) (lv' := [(1, .int (x1 + 1)), (0, .ref a), (2, .int x2)]) hx hb dX10_flip_90 hl (k := 1) rfl rfl (by decide) rfl (fun ls hl => ?_)
      refine lv_goto (tgt := 59) hx hb dX10_flip_93 (by decide) ?_
      exact hk59 hW (lv_sub hl [1, 0] rfl) h
    · refine lv_aload_n hx hb dX10_flip_72 rfl (lv_at hl 0 rfl) ?_
      refine lv_iload_n hx hb dX10_flip_73 rfl (lv_at hl 1 rfl) ?_
      refine lv_iload_n hx hb dX10_flip_74 rfl (lv_at hl 2 rfl) ?_
      refine lv_iconst (v := 0) hx hb dX10_flip_75 (by decide) ?_
      refine lv_iload_n hx hb dX10_flip_76 rfl (lv_at hl 2 rfl) ?_
      refine r_cI hW (run_S (rest := [.int 0, .int x2, .int x1, .ref a]) C hW (t_X10_flipped (X := X)) mk_X10_flipped sk_X10_390 ⟨Nat.le_of_ble_eq_true rfl, Nat.le_of_ble_eq_true rfl⟩ ⟨Nat.zero_le _, Nat.zero_le _⟩ rfl rfl (Nat.le_of_ble_eq_true rfl) hl.1 dX10_flip_77) (fun H locs hW _ => ?_)
      refine lv_iconst (v := 0) hx hb dX10_flip_80 (by decide) ?_
      obtain ⟨X2, h1, h⟩ := bnd_inv h
      refine r_cV hW (run_V (rest := []) C hW (t_X10_flipsChoice h1) mk_X10_flipsChoice vk_X10_396 (kd_X10_flipsChoice h1) rfl rfl (by decide) ⟨Nat.le_of_ble_eq_true rfl, Nat.le_of_ble_eq_true rfl⟩ ⟨Nat.zero_le _, Nat.zero_le _⟩ rfl rfl (Nat.le_of_ble_eq_true rfl) hl.1 dX10_flip_81) (fun H locs hW _ => ?_)
      refine lv_iinc (v := (x2 + 1)) (lv' := [(2, .int (x2 + 1)), (0, .ref a), (1, .int x1)]) hx hb dX10_flip_84 hl (k := 2) rfl rfl (by decide) rfl (fun ls hl => ?_)
      refine lv_goto (tgt := 66) hx hb dX10_flip_87 (by decide) ?_
      exact ih hW (lv_sub hl [1, 2, 0] rfl) h
set_option maxRecDepth 20000 in
set_option maxHeartbeats 2000000 in
theorem b_X10_flip_106 {k98 : Mx → Int32 → Option Mx} {a : Nat} {x1 : Int32} (C : Cx g RX10 cX10_flip 3 none p s m args meth c) {r : Mx} (hk98 : ∀ {H' : Heap} {locs' : List Loc} {ls' : Array Slot} {X' : Mx} {x1' : Int32}, Wd g σ X' s H' locs' → lv_has ls' 3 [(0, .ref a), (1, .int x1')] → k98 X' x1' = some r → W p l e (rmZ 3 71) s m args below meth c H' locs' 0 0 (QV g σ below args s r) (F0 m 98 ls' [])) : ∀ (n : Nat) {X : Mx} {x2 : Int32} {H : Heap} {locs : List Loc} {ls : Array Slot} (hW : Wd g σ X s H locs) (hl : lv_has ls 3 [(0, .ref a), (1, .int x1), (2, .int x2)]) (h : f_X10_flip_106 k98 σ a x1 n X x2 = some r), W p l e (rmZ 3 71) s m args below meth c H locs 0 0 (QV g σ below args s r) (F0 m 106 ls []) := by
  have hx := C.x
  have hb := C.b
  intro n
  induction n with
  | zero =>
    intro X x2 H locs ls hW hl h
    cases (show none = some r from h)
  | succ n ih =>
    intro X x2 H locs ls hW hl h
    rw [f_X10_flip_106] at h
    refine lv_iload_n hx hb dX10_flip_106 rfl (lv_at hl 2 rfl) ?_
    refine lv_bipush (v := 9) hx hb dX10_flip_107 (by decide) ?_
    refine r_br h (lv_icmp_ge (tgt := 130) hx hb dX10_flip_109 (by decide)) (fun h => ?_) (fun h => ?_)
    · refine lv_iinc (v := (x1 + 1)) (lv' := [(1, .int (x1 + 1)), (0, .ref a), (2, .int x2)]) hx hb dX10_flip_130 hl (k := 1) rfl rfl (by decide) rfl (fun ls hl => ?_)
      refine lv_goto (tgt := 98) hx hb dX10_flip_133 (by decide) ?_
      exact hk98 hW (lv_sub hl [1, 0] rfl) h
    · refine lv_aload_n hx hb dX10_flip_112 rfl (lv_at hl 0 rfl) ?_
      refine lv_iconst (v := 5) hx hb dX10_flip_113 (by decide) ?_
      refine lv_iload_n hx hb dX10_flip_114 rfl (lv_at hl 1 rfl) ?_
      refine lv_iload_n hx hb dX10_flip_115 rfl (lv_at hl 2 rfl) ?_
      refine lv_iload_n hx hb dX10_flip_116 rfl (lv_at hl 1 rfl) ?_
      refine lv_iload_n hx hb dX10_flip_117 rfl (lv_at hl 2 rfl) ?_
      refine r_cI hW (run_S (rest := [.int x1, .int x2, .int x1, .int 5, .ref a]) C hW (t_X10_flipped (X := X)) mk_X10_flipped sk_X10_390 ⟨Nat.le_of_ble_eq_true rfl, Nat.le_of_ble_eq_true rfl⟩ ⟨Nat.zero_le _, Nat.zero_le _⟩ rfl rfl (Nat.le_of_ble_eq_true rfl) hl.1 dX10_flip_118) (fun H locs hW _ => ?_)
      obtain ⟨X2, h1, h⟩ := bnd_inv h
      refine r_cV hW (run_V (rest := []) C hW (t_X10_flipsChoice h1) mk_X10_flipsChoice vk_X10_396 (kd_X10_flipsChoice h1) rfl rfl (by decide) ⟨Nat.le_of_ble_eq_true rfl, Nat.le_of_ble_eq_true rfl⟩ ⟨Nat.zero_le _, Nat.zero_le _⟩ rfl rfl (Nat.le_of_ble_eq_true rfl) hl.1 dX10_flip_121) (fun H locs hW _ => ?_)
      refine lv_iinc (v := (x2 + 1)) (lv' := [(2, .int (x2 + 1)), (0, .ref a), (1, .int x1)]) hx hb dX10_flip_124 hl (k := 2) rfl rfl (by decide) rfl (fun ls hl => ?_)
      refine lv_goto (tgt := 106) hx hb dX10_flip_127 (by decide) ?_
      exact ih hW (lv_sub hl [1, 2, 0] rfl) h
set_option maxRecDepth 20000 in
set_option maxHeartbeats 2000000 in
theorem b_X10_flip_98 {a : Nat} (C : Cx g RX10 cX10_flip 3 none p s m args meth c) {r : Mx} : ∀ (n : Nat) {X : Mx} {x1 : Int32} {H : Heap} {locs : List Loc} {ls : Array Slot} (hW : Wd g σ X s H locs) (hl : lv_has ls 3 [(0, .ref a), (1, .int x1)]) (h : f_X10_flip_98 σ a n X x1 = some r), W p l e (rmZ 3 71) s m args below meth c H locs 0 0 (QV g σ below args s r) (F0 m 98 ls []) := by
  have hx := C.x
  have hb := C.b
  intro n
  induction n with
  | zero =>
    intro X x1 H locs ls hW hl h
    cases (show none = some r from h)
  | succ n ih =>
    intro X x1 H locs ls hW hl h
    rw [f_X10_flip_98] at h
    refine lv_iload_n hx hb dX10_flip_98 rfl (lv_at hl 1 rfl) ?_
    refine lv_bipush (v := 20) hx hb dX10_flip_99 (by decide) ?_
    refine r_br h (lv_icmp_ge (tgt := 136) hx hb dX10_flip_101 (by decide)) (fun h => ?_) (fun h => ?_)
    · exact r_vret C hW (Option.some.inj h).symm dX10_flip_136
    · refine lv_iconst (v := 0) hx hb dX10_flip_104 (by decide) ?_
      refine lv_istore_n (lv' := [(2, .int 0), (0, .ref a), (1, .int x1)]) hx hb dX10_flip_105 rfl hl (by decide) rfl (fun ls hl => ?_)
      exact b_X10_flip_106 C (fun hW hl h => ih hW hl h) FU hW (lv_sub hl [1, 2, 0] rfl) h
set_option maxRecDepth 20000 in
set_option maxHeartbeats 2000000 in
theorem b_X10_flip_59 {a : Nat} (C : Cx g RX10 cX10_flip 3 none p s m args meth c) {r : Mx} : ∀ (n : Nat) {X : Mx} {x1 : Int32} {H : Heap} {locs : List Loc} {ls : Array Slot} (hW : Wd g σ X s H locs) (hl : lv_has ls 3 [(0, .ref a), (1, .int x1)]) (h : f_X10_flip_59 σ a n X x1 = some r), W p l e (rmZ 3 71) s m args below meth c H locs 0 0 (QV g σ below args s r) (F0 m 59 ls []) := by
  have hx := C.x
  have hb := C.b
  intro n
  induction n with
  | zero =>
    intro X x1 H locs ls hW hl h
    cases (show none = some r from h)
  | succ n ih =>
    intro X x1 H locs ls hW hl h
    rw [f_X10_flip_59] at h
    refine lv_iload_n hx hb dX10_flip_59 rfl (lv_at hl 1 rfl) ?_
    refine lv_iconst (v := 4) hx hb dX10_flip_60 (by decide) ?_
    refine r_br h (lv_icmp_ge (tgt := 96) hx hb dX10_flip_61 (by decide)) (fun h => ?_) (fun h => ?_)
    · refine lv_iconst (v := 0) hx hb dX10_flip_96 (by decide) ?_
      refine lv_istore_n (lv' := [(1, .int 0), (0, .ref a)]) hx hb dX10_flip_97 rfl hl (by decide) rfl (fun ls hl => ?_)
      exact b_X10_flip_98 C FU hW (lv_sub hl [1, 0] rfl) h
    · refine lv_iconst (v := 0) hx hb dX10_flip_64 (by decide) ?_
      refine lv_istore_n (lv' := [(2, .int 0), (0, .ref a), (1, .int x1)]) hx hb dX10_flip_65 rfl hl (by decide) rfl (fun ls hl => ?_)
      exact b_X10_flip_66 C (fun hW hl h => ih hW hl h) FU hW (lv_sub hl [1, 2, 0] rfl) h
theorem kd_X10_flip {X : Mx} {r : Mx} {a : Nat} (h : f_X10_flip σ X a = some r) : shK σ a = 8 := (grd_inv h).1
set_option maxRecDepth 20000 in
set_option maxHeartbeats 2000000 in
theorem t_X10_flip {X : Mx} {r : Mx} {a : Nat} (h : f_X10_flip σ X a = some r) : MtV g l yX10_flip cX10_flip 3 none 3 71 [.ref a] σ X r := by
  refine met_of mk_X10_flip (Nat.le_of_ble_eq_true rfl) (fun p e s m args below meth c ls C hW hl => ?_)
  have hx := C.x
  have hb := C.b
  have hl : lv_has ls 3 [(0, .ref a)] := hl
  unfold f_X10_flip at h
  obtain ⟨hk0, h⟩ := grd_inv h
  refine lv_aload_n hx hb dX10_flip_0 rfl (lv_at hl 0 rfl) ?_
  refine lv_iconst (v := 0) hx hb dX10_flip_1 (by decide) ?_
  refine r_pI C hW h pf_X10_65 (by decide) rfl rfl dX10_flip_2 (fun X1 H locs h hW _ => ?_)
  refine lv_aload_n hx hb dX10_flip_5 rfl (lv_at hl 0 rfl) ?_
  obtain ⟨X3, h2, h⟩ := bnd_inv h
  refine r_cV hW (run_V (rest := []) C hW (t_X10_keeps h2) mk_X10_keeps vk_X10_273 (kd_X10_keeps h2) rfl rfl (by decide) ⟨Nat.le_of_ble_eq_true rfl, Nat.le_of_ble_eq_true rfl⟩ ⟨Nat.zero_le _, Nat.zero_le _⟩ rfl rfl (Nat.le_of_ble_eq_true rfl) hl.1 dX10_flip_6) (fun H locs hW _ => ?_)
  refine lv_aload_n hx hb dX10_flip_9 rfl (lv_at hl 0 rfl) ?_
  obtain ⟨X5, h4, h⟩ := bnd_inv h
  refine r_cV hW (run_V (rest := []) C hW (t_X10_tries h4) mk_X10_tries vk_X10_267 (kd_X10_tries h4) rfl rfl (by decide) ⟨Nat.le_of_ble_eq_true rfl, Nat.le_of_ble_eq_true rfl⟩ ⟨Nat.zero_le _, Nat.zero_le _⟩ rfl rfl (Nat.le_of_ble_eq_true rfl) hl.1 dX10_flip_10) (fun H locs hW _ => ?_)
  refine lv_aload_n hx hb dX10_flip_13 rfl (lv_at hl 0 rfl) ?_
  refine lv_iconst (v := 0) hx hb dX10_flip_14 (by decide) ?_
  refine lv_iconst (v := 1) hx hb dX10_flip_15 (by decide) ?_
  obtain ⟨X7, h6, h⟩ := bnd_inv h
  refine r_cV hW (run_V (rest := []) C hW (t_X10_flipsTable h6) mk_X10_flipsTable vk_X10_393 (kd_X10_flipsTable h6) rfl rfl (by decide) ⟨Nat.le_of_ble_eq_true rfl, Nat.le_of_ble_eq_true rfl⟩ ⟨Nat.zero_le _, Nat.zero_le _⟩ rfl rfl (Nat.le_of_ble_eq_true rfl) hl.1 dX10_flip_16) (fun H locs hW _ => ?_)
  refine lv_aload_n hx hb dX10_flip_19 rfl (lv_at hl 0 rfl) ?_
  refine lv_iconst (v := 1) hx hb dX10_flip_20 (by decide) ?_
  refine lv_iconst (v := 0) hx hb dX10_flip_21 (by decide) ?_
  obtain ⟨X9, h8, h⟩ := bnd_inv h
  refine r_cV hW (run_V (rest := []) C hW (t_X10_flipsTable h8) mk_X10_flipsTable vk_X10_393 (kd_X10_flipsTable h8) rfl rfl (by decide) ⟨Nat.le_of_ble_eq_true rfl, Nat.le_of_ble_eq_true rfl⟩ ⟨Nat.zero_le _, Nat.zero_le _⟩ rfl rfl (Nat.le_of_ble_eq_true rfl) hl.1 dX10_flip_22) (fun H locs hW _ => ?_)
  refine lv_aload_n hx hb dX10_flip_25 rfl (lv_at hl 0 rfl) ?_
  refine r_gR C hW h fl_X10_20 (by decide) dX10_flip_26 (fun b10 h => ?_)
  refine lv_sipush (v := 613) hx hb dX10_flip_29 (by decide) ?_
  refine lv_aload_n hx hb dX10_flip_32 rfl (lv_at hl 0 rfl) ?_
  refine r_gR C hW h fl_X10_20 (by decide) dX10_flip_33 (fun b11 h => ?_)
  refine lv_sipush (v := 1545) hx hb dX10_flip_36 (by decide) ?_
  refine r_iald C hW h dX10_flip_39 (fun v12 h => ?_)
  refine r_iast C hW h dX10_flip_40 (fun X13 H locs h hW _ => ?_)
  refine lv_aload_n hx hb dX10_flip_41 rfl (lv_at hl 0 rfl) ?_
  refine r_gR C hW h fl_X10_20 (by decide) dX10_flip_42 (fun b14 h => ?_)
  refine lv_sipush (v := 614) hx hb dX10_flip_45 (by decide) ?_
  refine lv_aload_n hx hb dX10_flip_48 rfl (lv_at hl 0 rfl) ?_
  refine r_gR C hW h fl_X10_20 (by decide) dX10_flip_49 (fun b15 h => ?_)
  refine lv_sipush (v := 1544) hx hb dX10_flip_52 (by decide) ?_
  refine r_iald C hW h dX10_flip_55 (fun v16 h => ?_)
  refine r_iast C hW h dX10_flip_56 (fun X17 H locs h hW _ => ?_)
  refine lv_iconst (v := 0) hx hb dX10_flip_57 (by decide) ?_
  refine lv_istore_n (lv' := [(1, .int 0), (0, .ref a)]) hx hb dX10_flip_58 rfl hl (by decide) rfl (fun ls hl => ?_)
  exact b_X10_flip_59 C FU hW (lv_sub hl [1, 0] rfl) h
set_option maxRecDepth 20000 in
set_option maxHeartbeats 2000000 in
theorem b_X10_commitsTable_162 {k29 : Mx → Int32 → Int32 → Option Mx} {a : Nat} {x1 : Int32} {x2 : Int32} {x3 : Int32} (C : Cx g RX10 cX10_commitsTable 5 none p s m args meth c) {r : Mx} {X : Mx} (hk29 : ∀ {H' : Heap} {locs' : List Loc} {ls' : Array Slot} {X' : Mx} {x2' : Int32} {x3' : Int32}, Wd g σ X' s H' locs' → lv_has ls' 5 [(0, .ref a), (1, .int x1), (2, .int x2'), (3, .int x3')] → k29 X' x2' x3' = some r → W p l e (rmZ 1 23) s m args below meth c H' locs' 0 0 (QV g σ below args s r) (F0 m 29 ls' [])) (hW : Wd g σ X s H locs) (hl : lv_has ls 5 [(0, .ref a), (1, .int x1), (2, .int x2), (3, .int x3)]) (h : f_X10_commitsTable_162 k29 σ a x1 x2 x3 X = some r) : W p l e (rmZ 1 23) s m args below meth c H locs 0 0 (QV g σ below args s r) (F0 m 162 ls []) := by
  have hx := C.x
  have hb := C.b
  unfold f_X10_commitsTable_162 at h
  refine lv_iinc (v := (x3 + 1)) (lv' := [(3, .int (x3 + 1)), (0, .ref a), (1, .int x1), (2, .int x2)]) hx hb dX10_commitsTable_162 hl (k := 3) rfl rfl (by decide) rfl (fun ls hl => ?_)
  refine lv_goto (tgt := 29) hx hb dX10_commitsTable_165 (by decide) ?_
  exact hk29 hW (lv_sub hl [1, 2, 3, 0] rfl) h
set_option maxRecDepth 20000 in
set_option maxHeartbeats 2000000 in
theorem b_X10_commitsTable_153 {k29 : Mx → Int32 → Int32 → Option Mx} {k113 : Mx → Int32 → Option Mx} {a : Nat} {x1 : Int32} {x2 : Int32} {x3 : Int32} {x4 : Int32} (C : Cx g RX10 cX10_commitsTable 5 none p s m args meth c) {r : Mx} {X : Mx} (hk29 : ∀ {H' : Heap} {locs' : List Loc} {ls' : Array Slot} {X' : Mx} {x2' : Int32} {x3' : Int32}, Wd g σ X' s H' locs' → lv_has ls' 5 [(0, .ref a), (1, .int x1), (2, .int x2'), (3, .int x3')] → k29 X' x2' x3' = some r → W p l e (rmZ 1 23) s m args below meth c H' locs' 0 0 (QV g σ below args s r) (F0 m 29 ls' [])) (hk113 : ∀ {H' : Heap} {locs' : List Loc} {ls' : Array Slot} {X' : Mx} {x4' : Int32}, Wd g σ X' s H' locs' → lv_has ls' 5 [(0, .ref a), (1, .int x1), (2, .int x2), (3, .int x3), (4, .int x4')] → k113 X' x4' = some r → W p l e (rmZ 1 23) s m args below meth c H' locs' 0 0 (QV g σ below args s r) (F0 m 113 ls' [])) (hW : Wd g σ X s H locs) (hl : lv_has ls 5 [(0, .ref a), (1, .int x1), (2, .int x2), (3, .int x3), (4, .int x4)]) (h : f_X10_commitsTable_153 k29 k113 σ a x1 x2 x3 x4 X = some r) : W p l e (rmZ 1 23) s m args below meth c H locs 0 0 (QV g σ below args s r) (F0 m 153 ls []) := by
  have hx := C.x
  have hb := C.b
  unfold f_X10_commitsTable_153 at h
  refine lv_iinc (v := (x4 + 1)) (lv' := [(4, .int (x4 + 1)), (0, .ref a), (1, .int x1), (2, .int x2), (3, .int x3)]) hx hb dX10_commitsTable_153 hl (k := 4) rfl rfl (by decide) rfl (fun ls hl => ?_)
  refine lv_goto (tgt := 113) hx hb dX10_commitsTable_156 (by decide) ?_
  exact hk113 hW (lv_sub hl [1, 2, 3, 4, 0] rfl) h
set_option maxRecDepth 20000 in
set_option maxHeartbeats 2000000 in
theorem b_X10_commitsTable_113 {k29 : Mx → Int32 → Int32 → Option Mx} {a : Nat} {x1 : Int32} {x2 : Int32} {x3 : Int32} (C : Cx g RX10 cX10_commitsTable 5 none p s m args meth c) {r : Mx} (hk29 : ∀ {H' : Heap} {locs' : List Loc} {ls' : Array Slot} {X' : Mx} {x2' : Int32} {x3' : Int32}, Wd g σ X' s H' locs' → lv_has ls' 5 [(0, .ref a), (1, .int x1), (2, .int x2'), (3, .int x3')] → k29 X' x2' x3' = some r → W p l e (rmZ 1 23) s m args below meth c H' locs' 0 0 (QV g σ below args s r) (F0 m 29 ls' [])) : ∀ (n : Nat) {X : Mx} {x4 : Int32} {H : Heap} {locs : List Loc} {ls : Array Slot} (hW : Wd g σ X s H locs) (hl : lv_has ls 5 [(0, .ref a), (1, .int x1), (2, .int x2), (3, .int x3), (4, .int x4)]) (h : f_X10_commitsTable_113 k29 σ a x1 x2 x3 n X x4 = some r), W p l e (rmZ 1 23) s m args below meth c H locs 0 0 (QV g σ below args s r) (F0 m 113 ls []) := by
  have hx := C.x
  have hb := C.b
  intro n
  induction n with
  | zero =>
    intro X x4 H locs ls hW hl h
    cases (show none = some r from h)
  | succ n ih =>
    intro X x4 H locs ls hW hl h
    rw [f_X10_commitsTable_113] at h
    refine lv_iload hx hb dX10_commitsTable_113 (lv_at hl 4 rfl) ?_
    refine lv_bipush (v := 20) hx hb dX10_commitsTable_115 (by decide) ?_
    refine r_br h (lv_icmp_ge (tgt := 159) hx hb dX10_commitsTable_117 (by decide)) (fun h => ?_) (fun h => ?_)
    · refine lv_iinc (v := (x2 + 1)) (lv' := [(2, .int (x2 + 1)), (0, .ref a), (1, .int x1), (3, .int x3), (4, .int x4)]) hx hb dX10_commitsTable_159 hl (k := 2) rfl rfl (by decide) rfl (fun ls hl => ?_)
      exact b_X10_commitsTable_162 C hk29 hW (lv_sub hl [1, 2, 0, 3] rfl) h
    · refine lv_aload_n hx hb dX10_commitsTable_120 rfl (lv_at hl 0 rfl) ?_
      refine r_gI C hW h fl_X10_323 (by decide) dX10_commitsTable_121 (fun v1 h => ?_)
      refine lv_iload hx hb dX10_commitsTable_124 (lv_at hl 4 rfl) ?_
      refine lv_ishr hx hb dX10_commitsTable_126 ?_
      refine lv_iconst (v := 1) hx hb dX10_commitsTable_127 (by decide) ?_
      refine lv_iand hx hb dX10_commitsTable_128 ?_
      refine lv_iconst (v := 1) hx hb dX10_commitsTable_129 (by decide) ?_
      refine r_brn h (lv_icmp_ne (tgt := 153) hx hb dX10_commitsTable_130 (by decide)) (fun h => ?_) (fun h => ?_)
      · exact b_X10_commitsTable_153 C hk29 (fun hW hl h => ih hW hl h) hW (lv_sub hl [0, 1, 2, 3, 4] rfl) h
      · refine lv_aload_n hx hb dX10_commitsTable_133 rfl (lv_at hl 0 rfl) ?_
        refine r_gR C hW h fl_X10_20 (by decide) dX10_commitsTable_134 (fun b2 h => ?_)
        refine lv_iconst (v := 0) hx hb dX10_commitsTable_137 (by decide) ?_
        refine lv_iconst (v := 2) hx hb dX10_commitsTable_138 (by decide) ?_
        refine lv_iload hx hb dX10_commitsTable_139 (lv_at hl 4 rfl) ?_
        refine lv_iload_n hx hb dX10_commitsTable_141 rfl (lv_at hl 2 rfl) ?_
        refine r_cI hW (run_S (rest := [.ref b2]) C hW (t_X10_cellAt (X := X)) mk_X10_cellAt sk_X10_174 ⟨Nat.le_of_ble_eq_true rfl, Nat.le_of_ble_eq_true rfl⟩ ⟨Nat.zero_le _, Nat.zero_le _⟩ rfl rfl (Nat.le_of_ble_eq_true rfl) hl.1 dX10_commitsTable_142) (fun H locs hW _ => ?_)
        refine lv_aload_n hx hb dX10_commitsTable_145 rfl (lv_at hl 0 rfl) ?_
        refine lv_iload hx hb dX10_commitsTable_146 (lv_at hl 4 rfl) ?_
        refine lv_iload_n hx hb dX10_commitsTable_148 rfl (lv_at hl 3 rfl) ?_
        obtain ⟨v4, h3, h⟩ := bnd_inv h
        refine r_cI hW (run_V (rest := [.int (f_X10_cellAt 0 2 x4 x2), .ref b2]) C hW (t_X10_mergedAt h3) mk_X10_mergedAt vk_X10_326 (kd_X10_mergedAt h3) rfl rfl (by decide) ⟨Nat.le_of_ble_eq_true rfl, Nat.le_of_ble_eq_true rfl⟩ ⟨Nat.zero_le _, Nat.zero_le _⟩ rfl rfl (Nat.le_of_ble_eq_true rfl) hl.1 dX10_commitsTable_149) (fun H locs hW _ => ?_)
        refine r_iast C hW h dX10_commitsTable_152 (fun X5 H locs h hW _ => ?_)
        exact b_X10_commitsTable_153 C hk29 (fun hW hl h => ih hW hl h) hW (lv_sub hl [0, 1, 2, 3, 4] rfl) h
set_option maxRecDepth 20000 in
set_option maxHeartbeats 2000000 in
theorem b_X10_commitsTable_29 {a : Nat} {x1 : Int32} (C : Cx g RX10 cX10_commitsTable 5 none p s m args meth c) {r : Mx} : ∀ (n : Nat) {X : Mx} {x2 : Int32} {x3 : Int32} {H : Heap} {locs : List Loc} {ls : Array Slot} (hW : Wd g σ X s H locs) (hl : lv_has ls 5 [(0, .ref a), (1, .int x1), (2, .int x2), (3, .int x3)]) (h : f_X10_commitsTable_29 σ a x1 n X x2 x3 = some r), W p l e (rmZ 1 23) s m args below meth c H locs 0 0 (QV g σ below args s r) (F0 m 29 ls []) := by
  have hx := C.x
  have hb := C.b
  intro n
  induction n with
  | zero =>
    intro X x2 x3 H locs ls hW hl h
    cases (show none = some r from h)
  | succ n ih =>
    intro X x2 x3 H locs ls hW hl h
    rw [f_X10_commitsTable_29] at h
    refine lv_iload_n hx hb dX10_commitsTable_29 rfl (lv_at hl 3 rfl) ?_
    refine lv_bipush (v := 9) hx hb dX10_commitsTable_30 (by decide) ?_
    refine r_br h (lv_icmp_ge (tgt := 168) hx hb dX10_commitsTable_32 (by decide)) (fun h => ?_) (fun h => ?_)
    · exact r_vret C hW (Option.some.inj h).symm dX10_commitsTable_168
    · refine lv_aload_n hx hb dX10_commitsTable_35 rfl (lv_at hl 0 rfl) ?_
      refine r_gR C hW h fl_X10_47 (by decide) dX10_commitsTable_36 (fun b1 h => ?_)
      refine lv_iload_n hx hb dX10_commitsTable_39 rfl (lv_at hl 3 rfl) ?_
      refine lv_iconst (v := (-1)) hx hb dX10_commitsTable_40 (by decide) ?_
      refine r_iast C hW h dX10_commitsTable_41 (fun X2 H locs h hW _ => ?_)
      refine lv_aload_n hx hb dX10_commitsTable_42 rfl (lv_at hl 0 rfl) ?_
      refine r_gI C hW h fl_X10_291 (by decide) dX10_commitsTable_43 (fun v3 h => ?_)
      refine lv_iload_n hx hb dX10_commitsTable_46 rfl (lv_at hl 3 rfl) ?_
      refine lv_ishr hx hb dX10_commitsTable_47 ?_
      refine lv_iconst (v := 1) hx hb dX10_commitsTable_48 (by decide) ?_
      refine lv_iand hx hb dX10_commitsTable_49 ?_
      refine r_brn h (lv_if_ne (tgt := 56) hx hb dX10_commitsTable_50 (by decide)) (fun h => ?_) (fun h => ?_)
      · refine lv_aload_n hx hb dX10_commitsTable_56 rfl (lv_at hl 0 rfl) ?_
        refine r_gR C hW h fl_X10_47 (by decide) dX10_commitsTable_57 (fun b4 h => ?_)
        refine lv_iload_n hx hb dX10_commitsTable_60 rfl (lv_at hl 3 rfl) ?_
        refine lv_iload_n hx hb dX10_commitsTable_61 rfl (lv_at hl 2 rfl) ?_
        refine r_iast C hW h dX10_commitsTable_62 (fun X5 H locs h hW _ => ?_)
        refine lv_aload_n hx hb dX10_commitsTable_63 rfl (lv_at hl 0 rfl) ?_
        refine r_gR C hW h fl_X10_20 (by decide) dX10_commitsTable_64 (fun b6 h => ?_)
        refine lv_iload_n hx hb dX10_commitsTable_67 rfl (lv_at hl 1 rfl) ?_
        refine lv_iconst (v := 0) hx hb dX10_commitsTable_68 (by decide) ?_
        refine lv_iadd hx hb dX10_commitsTable_69 ?_
        refine lv_dup2_11 hx hb dX10_commitsTable_70 rfl rfl ?_
        refine r_iald C hW h dX10_commitsTable_71 (fun v7 h => ?_)
        refine lv_iconst (v := 1) hx hb dX10_commitsTable_72 (by decide) ?_
        refine lv_iload_n hx hb dX10_commitsTable_73 rfl (lv_at hl 2 rfl) ?_
        refine lv_ishl hx hb dX10_commitsTable_74 ?_
        refine lv_ior hx hb dX10_commitsTable_75 ?_
        refine r_iast C hW h dX10_commitsTable_76 (fun X8 H locs h hW _ => ?_)
        refine lv_aload_n hx hb dX10_commitsTable_77 rfl (lv_at hl 0 rfl) ?_
        refine r_gR C hW h fl_X10_20 (by decide) dX10_commitsTable_78 (fun b9 h => ?_)
        refine lv_iload_n hx hb dX10_commitsTable_81 rfl (lv_at hl 1 rfl) ?_
        refine lv_iconst (v := 2) hx hb dX10_commitsTable_82 (by decide) ?_
        refine lv_iadd hx hb dX10_commitsTable_83 ?_
        refine lv_iload_n hx hb dX10_commitsTable_84 rfl (lv_at hl 2 rfl) ?_
        refine lv_iadd hx hb dX10_commitsTable_85 ?_
        refine lv_aload_n hx hb dX10_commitsTable_86 rfl (lv_at hl 0 rfl) ?_
        refine r_gR C hW h fl_X10_26 (by decide) dX10_commitsTable_87 (fun b10 h => ?_)
        refine lv_iload_n hx hb dX10_commitsTable_90 rfl (lv_at hl 3 rfl) ?_
        refine r_iald C hW h dX10_commitsTable_91 (fun v11 h => ?_)
        refine r_iast C hW h dX10_commitsTable_92 (fun X12 H locs h hW _ => ?_)
        refine lv_aload_n hx hb dX10_commitsTable_93 rfl (lv_at hl 0 rfl) ?_
        refine r_gR C hW h fl_X10_20 (by decide) dX10_commitsTable_94 (fun b13 h => ?_)
        refine lv_iload_n hx hb dX10_commitsTable_97 rfl (lv_at hl 1 rfl) ?_
        refine lv_bipush (v := 11) hx hb dX10_commitsTable_98 (by decide) ?_
        refine lv_iadd hx hb dX10_commitsTable_100 ?_
        refine lv_iload_n hx hb dX10_commitsTable_101 rfl (lv_at hl 2 rfl) ?_
        refine lv_iadd hx hb dX10_commitsTable_102 ?_
        refine lv_aload_n hx hb dX10_commitsTable_103 rfl (lv_at hl 0 rfl) ?_
        refine r_gR C hW h fl_X10_29 (by decide) dX10_commitsTable_104 (fun b14 h => ?_)
        refine lv_iload_n hx hb dX10_commitsTable_107 rfl (lv_at hl 3 rfl) ?_
        refine r_iald C hW h dX10_commitsTable_108 (fun v15 h => ?_)
        refine r_iast C hW h dX10_commitsTable_109 (fun X16 H locs h hW _ => ?_)
        refine lv_iconst (v := 0) hx hb dX10_commitsTable_110 (by decide) ?_
        refine lv_istore (lv' := [(4, .int 0), (0, .ref a), (1, .int x1), (2, .int x2), (3, .int x3)]) hx hb dX10_commitsTable_111 hl (by decide) rfl (fun ls hl => ?_)
        exact b_X10_commitsTable_113 C (fun hW hl h => ih hW hl h) FU hW (lv_sub hl [1, 2, 3, 4, 0] rfl) h
      · refine lv_goto (tgt := 162) hx hb dX10_commitsTable_53 (by decide) ?_
        exact b_X10_commitsTable_162 C (fun hW hl h => ih hW hl h) hW (lv_sub hl [0, 1, 2, 3] rfl) h
theorem kd_X10_commitsTable {X : Mx} {r : Mx} {a : Nat} (h : f_X10_commitsTable σ X a = some r) : shK σ a = 8 := (grd_inv h).1
set_option maxRecDepth 20000 in
set_option maxHeartbeats 2000000 in
theorem t_X10_commitsTable {X : Mx} {r : Mx} {a : Nat} (h : f_X10_commitsTable σ X a = some r) : MtV g l yX10_commitsTable cX10_commitsTable 5 none 1 23 [.ref a] σ X r := by
  refine met_of mk_X10_commitsTable (Nat.le_of_ble_eq_true rfl) (fun p e s m args below meth c ls C hW hl => ?_)
  have hx := C.x
  have hb := C.b
  have hl : lv_has ls 5 [(0, .ref a)] := hl
  unfold f_X10_commitsTable at h
  obtain ⟨hk0, h⟩ := grd_inv h
  refine lv_sipush (v := 400) hx hb dX10_commitsTable_0 (by decide) ?_
  refine lv_istore_n (lv' := [(1, .int 400), (0, .ref a)]) hx hb dX10_commitsTable_3 rfl hl (by decide) rfl (fun ls hl => ?_)
  refine lv_iconst (v := 0) hx hb dX10_commitsTable_4 (by decide) ?_
  refine lv_istore_n (lv' := [(2, .int 0), (1, .int 400), (0, .ref a)]) hx hb dX10_commitsTable_5 rfl hl (by decide) rfl (fun ls hl => ?_)
  refine lv_aload_n hx hb dX10_commitsTable_6 rfl (lv_at hl 2 rfl) ?_
  refine r_gR C hW h fl_X10_20 (by decide) dX10_commitsTable_7 (fun b1 h => ?_)
  refine lv_iload_n hx hb dX10_commitsTable_10 rfl (lv_at hl 1 rfl) ?_
  refine lv_iconst (v := 0) hx hb dX10_commitsTable_11 (by decide) ?_
  refine lv_iadd hx hb dX10_commitsTable_12 ?_
  refine lv_iconst (v := 0) hx hb dX10_commitsTable_13 (by decide) ?_
  refine r_iast C hW h dX10_commitsTable_14 (fun X2 H locs h hW _ => ?_)
  refine lv_aload_n hx hb dX10_commitsTable_15 rfl (lv_at hl 2 rfl) ?_
  refine r_gR C hW h fl_X10_20 (by decide) dX10_commitsTable_16 (fun b3 h => ?_)
  refine lv_iload_n hx hb dX10_commitsTable_19 rfl (lv_at hl 1 rfl) ?_
  refine lv_iconst (v := 1) hx hb dX10_commitsTable_20 (by decide) ?_
  refine lv_iadd hx hb dX10_commitsTable_21 ?_
  refine lv_aload_n hx hb dX10_commitsTable_22 rfl (lv_at hl 2 rfl) ?_
  refine r_gI C hW h fl_X10_323 (by decide) dX10_commitsTable_23 (fun v4 h => ?_)
  refine r_iast C hW h dX10_commitsTable_26 (fun X5 H locs h hW _ => ?_)
  refine lv_iconst (v := 0) hx hb dX10_commitsTable_27 (by decide) ?_
  refine lv_istore_n (lv' := [(3, .int 0), (2, .int 0), (1, .int 400), (0, .ref a)]) hx hb dX10_commitsTable_28 rfl hl (by decide) rfl (fun ls hl => ?_)
  exact b_X10_commitsTable_29 C FU hW (lv_sub hl [3, 2, 1, 0] rfl) h
set_option maxRecDepth 20000 in
set_option maxHeartbeats 2000000 in
theorem b_X10_commitsDemands_123 {k4 : Mx → Int32 → Int32 → Option Mx} {a : Nat} {x1 : Int32} {x2 : Int32} (C : Cx g RX10 cX10_commitsDemands 6 none p s m args meth c) {r : Mx} {X : Mx} (hk4 : ∀ {H' : Heap} {locs' : List Loc} {ls' : Array Slot} {X' : Mx} {x1' : Int32} {x2' : Int32}, Wd g σ X' s H' locs' → lv_has ls' 6 [(0, .ref a), (1, .int x1'), (2, .int x2')] → k4 X' x1' x2' = some r → W p l e (rmZ 0 0) s m args below meth c H' locs' 0 0 (QV g σ below args s r) (F0 m 4 ls' [])) (hW : Wd g σ X s H locs) (hl : lv_has ls 6 [(0, .ref a), (1, .int x1), (2, .int x2)]) (h : f_X10_commitsDemands_123 k4 σ a x1 x2 X = some r) : W p l e (rmZ 0 0) s m args below meth c H locs 0 0 (QV g σ below args s r) (F0 m 123 ls []) := by
  have hx := C.x
  have hb := C.b
  unfold f_X10_commitsDemands_123 at h
  refine lv_iinc (v := (x2 + 1)) (lv' := [(2, .int (x2 + 1)), (0, .ref a), (1, .int x1)]) hx hb dX10_commitsDemands_123 hl (k := 2) rfl rfl (by decide) rfl (fun ls hl => ?_)
  refine lv_goto (tgt := 4) hx hb dX10_commitsDemands_126 (by decide) ?_
  exact hk4 hW (lv_sub hl [1, 2, 0] rfl) h
set_option maxRecDepth 20000 in
set_option maxHeartbeats 2000000 in
theorem b_X10_commitsDemands_68 {k4 : Mx → Int32 → Int32 → Option Mx} {a : Nat} {x1 : Int32} {x2 : Int32} {x3 : Int32} {x4 : Int32} (C : Cx g RX10 cX10_commitsDemands 6 none p s m args meth c) {r : Mx} {X : Mx} {y0 : Int32} (hk4 : ∀ {H' : Heap} {locs' : List Loc} {ls' : Array Slot} {X' : Mx} {x1' : Int32} {x2' : Int32}, Wd g σ X' s H' locs' → lv_has ls' 6 [(0, .ref a), (1, .int x1'), (2, .int x2')] → k4 X' x1' x2' = some r → W p l e (rmZ 0 0) s m args below meth c H' locs' 0 0 (QV g σ below args s r) (F0 m 4 ls' [])) (hW : Wd g σ X s H locs) (hl : lv_has ls 6 [(0, .ref a), (1, .int x1), (2, .int x2), (3, .int x3), (4, .int x4)]) (h : f_X10_commitsDemands_68 k4 σ a x1 x2 x3 x4 X y0 = some r) : W p l e (rmZ 0 0) s m args below meth c H locs 0 0 (QV g σ below args s r) (F0 m 68 ls [.int y0]) := by
  have hx := C.x
  have hb := C.b
  unfold f_X10_commitsDemands_68 at h
  refine lv_istore (lv' := [(5, .int y0), (0, .ref a), (1, .int x1), (2, .int x2), (3, .int x3), (4, .int x4)]) hx hb dX10_commitsDemands_68 hl (by decide) rfl (fun ls hl => ?_)
  refine lv_iload hx hb dX10_commitsDemands_70 (lv_at hl 5 rfl) ?_
  refine lv_iconst (v := (-1)) hx hb dX10_commitsDemands_72 (by decide) ?_
  refine r_br h (lv_icmp_eq (tgt := 123) hx hb dX10_commitsDemands_73 (by decide)) (fun h => ?_) (fun h => ?_)
  · exact b_X10_commitsDemands_123 C hk4 hW (lv_sub hl [1, 2, 3] rfl) h
  · refine lv_iload hx hb dX10_commitsDemands_76 (lv_at hl 0 rfl) ?_
    refine lv_iconst (v := (-1)) hx hb dX10_commitsDemands_78 (by decide) ?_
    refine r_brn h (lv_icmp_ne (tgt := 85) hx hb dX10_commitsDemands_79 (by decide)) (fun h => ?_) (fun h => ?_)
    · refine lv_aload_n hx hb dX10_commitsDemands_85 rfl (lv_at hl 1 rfl) ?_
      refine r_gR C hW h fl_X10_20 (by decide) dX10_commitsDemands_86 (fun b1 h => ?_)
      refine lv_sipush (v := 601) hx hb dX10_commitsDemands_89 (by decide) ?_
      refine lv_iload_n hx hb dX10_commitsDemands_92 rfl (lv_at hl 2 rfl) ?_
      refine lv_iadd hx hb dX10_commitsDemands_93 ?_
      refine lv_iload_n hx hb dX10_commitsDemands_94 rfl (lv_at hl 4 rfl) ?_
      refine r_iast C hW h dX10_commitsDemands_95 (fun X2 H locs h hW _ => ?_)
      refine lv_aload_n hx hb dX10_commitsDemands_96 rfl (lv_at hl 1 rfl) ?_
      refine r_gR C hW h fl_X10_20 (by decide) dX10_commitsDemands_97 (fun b3 h => ?_)
      refine lv_sipush (v := 605) hx hb dX10_commitsDemands_100 (by decide) ?_
      refine lv_iload_n hx hb dX10_commitsDemands_103 rfl (lv_at hl 2 rfl) ?_
      refine lv_iadd hx hb dX10_commitsDemands_104 ?_
      refine lv_iload hx hb dX10_commitsDemands_105 (lv_at hl 5 rfl) ?_
      refine r_iast C hW h dX10_commitsDemands_107 (fun X4 H locs h hW _ => ?_)
      refine lv_aload_n hx hb dX10_commitsDemands_108 rfl (lv_at hl 1 rfl) ?_
      refine r_gR C hW h fl_X10_20 (by decide) dX10_commitsDemands_109 (fun b5 h => ?_)
      refine lv_sipush (v := 609) hx hb dX10_commitsDemands_112 (by decide) ?_
      refine lv_iload_n hx hb dX10_commitsDemands_115 rfl (lv_at hl 2 rfl) ?_
      refine lv_iadd hx hb dX10_commitsDemands_116 ?_
      refine lv_iload hx hb dX10_commitsDemands_117 (lv_at hl 0 rfl) ?_
      refine r_iast C hW h dX10_commitsDemands_119 (fun X6 H locs h hW _ => ?_)
      refine lv_iinc (v := (x1 + 1)) (lv' := [(1, .int (x1 + 1)), (5, .int y0), (0, .ref a), (2, .int x2), (3, .int x3), (4, .int x4)]) hx hb dX10_commitsDemands_120 hl (k := 2) rfl rfl (by decide) rfl (fun ls hl => ?_)
      exact b_X10_commitsDemands_123 C hk4 hW (lv_sub hl [2, 0, 3] rfl) h
    · refine lv_goto (tgt := 123) hx hb dX10_commitsDemands_82 (by decide) ?_
      exact b_X10_commitsDemands_123 C hk4 hW (lv_sub hl [1, 2, 3] rfl) h
set_option maxRecDepth 20000 in
set_option maxHeartbeats 2000000 in
theorem b_X10_commitsDemands_4 {a : Nat} (C : Cx g RX10 cX10_commitsDemands 6 none p s m args meth c) {r : Mx} : ∀ (n : Nat) {X : Mx} {x1 : Int32} {x2 : Int32} {H : Heap} {locs : List Loc} {ls : Array Slot} (hW : Wd g σ X s H locs) (hl : lv_has ls 6 [(0, .ref a), (1, .int x1), (2, .int x2)]) (h : f_X10_commitsDemands_4 σ a n X x1 x2 = some r), W p l e (rmZ 0 0) s m args below meth c H locs 0 0 (QV g σ below args s r) (F0 m 4 ls []) := by
  have hx := C.x
  have hb := C.b
  intro n
  induction n with
  | zero =>
    intro X x1 x2 H locs ls hW hl h
    cases (show none = some r from h)
  | succ n ih =>
    intro X x1 x2 H locs ls hW hl h
    rw [f_X10_commitsDemands_4] at h
    refine lv_iload_n hx hb dX10_commitsDemands_4 rfl (lv_at hl 2 rfl) ?_
    refine lv_aload_n hx hb dX10_commitsDemands_5 rfl (lv_at hl 0 rfl) ?_
    refine r_gR C hW h fl_X10_20 (by decide) dX10_commitsDemands_6 (fun b1 h => ?_)
    refine lv_sipush (v := 600) hx hb dX10_commitsDemands_9 (by decide) ?_
    refine r_iald C hW h dX10_commitsDemands_12 (fun v2 h => ?_)
    refine r_br h (lv_icmp_ge (tgt := 129) hx hb dX10_commitsDemands_13 (by decide)) (fun h => ?_) (fun h => ?_)
    · refine lv_aload_n hx hb dX10_commitsDemands_129 rfl (lv_at hl 0 rfl) ?_
      refine r_gR C hW h fl_X10_20 (by decide) dX10_commitsDemands_130 (fun b3 h => ?_)
      refine lv_sipush (v := 600) hx hb dX10_commitsDemands_133 (by decide) ?_
      refine lv_iload_n hx hb dX10_commitsDemands_136 rfl (lv_at hl 1 rfl) ?_
      refine r_iast C hW h dX10_commitsDemands_137 (fun X4 H locs h hW _ => ?_)
      exact r_vret C hW (Option.some.inj h).symm dX10_commitsDemands_138
    · refine lv_aload_n hx hb dX10_commitsDemands_16 rfl (lv_at hl 0 rfl) ?_
      refine r_gR C hW h fl_X10_20 (by decide) dX10_commitsDemands_17 (fun b5 h => ?_)
      refine lv_sipush (v := 601) hx hb dX10_commitsDemands_20 (by decide) ?_
      refine lv_iload_n hx hb dX10_commitsDemands_23 rfl (lv_at hl 2 rfl) ?_
      refine lv_iadd hx hb dX10_commitsDemands_24 ?_
      refine r_iald C hW h dX10_commitsDemands_25 (fun v6 h => ?_)
      refine lv_istore_n (lv' := [(3, .int v6), (0, .ref a), (1, .int x1), (2, .int x2)]) hx hb dX10_commitsDemands_26 rfl hl (by decide) rfl (fun ls hl => ?_)
      refine lv_aload_n hx hb dX10_commitsDemands_27 rfl (lv_at hl 1 rfl) ?_
      refine r_gR C hW h fl_X10_47 (by decide) dX10_commitsDemands_28 (fun b7 h => ?_)
      refine lv_aload_n hx hb dX10_commitsDemands_31 rfl (lv_at hl 1 rfl) ?_
      refine r_gR C hW h fl_X10_20 (by decide) dX10_commitsDemands_32 (fun b8 h => ?_)
      refine lv_sipush (v := 605) hx hb dX10_commitsDemands_35 (by decide) ?_
      refine lv_iload_n hx hb dX10_commitsDemands_38 rfl (lv_at hl 3 rfl) ?_
      refine lv_iadd hx hb dX10_commitsDemands_39 ?_
      refine r_iald C hW h dX10_commitsDemands_40 (fun v9 h => ?_)
      refine r_iald C hW h dX10_commitsDemands_41 (fun v10 h => ?_)
      refine lv_istore (lv' := [(4, .int v10), (3, .int v6), (0, .ref a), (1, .int x1), (2, .int x2)]) hx hb dX10_commitsDemands_42 hl (by decide) rfl (fun ls hl => ?_)
      refine lv_iload_n hx hb dX10_commitsDemands_44 rfl (lv_at hl 1 rfl) ?_
      refine lv_iconst (v := 2) hx hb dX10_commitsDemands_45 (by decide) ?_
      refine r_brn h (lv_icmp_ne (tgt := 67) hx hb dX10_commitsDemands_46 (by decide)) (fun h => ?_) (fun h => ?_)
      · refine lv_iconst (v := 0) hx hb dX10_commitsDemands_67 (by decide) ?_
        exact b_X10_commitsDemands_68 C (fun hW hl h => ih hW hl h) hW (lv_sub hl [2, 3, 4, 1, 0] rfl) h
      · refine lv_aload_n hx hb dX10_commitsDemands_49 rfl (lv_at hl 2 rfl) ?_
        refine r_gR C hW h fl_X10_47 (by decide) dX10_commitsDemands_50 (fun b11 h => ?_)
        refine lv_aload_n hx hb dX10_commitsDemands_53 rfl (lv_at hl 2 rfl) ?_
        refine r_gR C hW h fl_X10_20 (by decide) dX10_commitsDemands_54 (fun b12 h => ?_)
        refine lv_sipush (v := 609) hx hb dX10_commitsDemands_57 (by decide) ?_
        refine lv_iload_n hx hb dX10_commitsDemands_60 rfl (lv_at hl 4 rfl) ?_
        refine lv_iadd hx hb dX10_commitsDemands_61 ?_
        refine r_iald C hW h dX10_commitsDemands_62 (fun v13 h => ?_)
        refine r_iald C hW h dX10_commitsDemands_63 (fun v14 h => ?_)
        refine lv_goto (tgt := 68) hx hb dX10_commitsDemands_64 (by decide) ?_
        exact b_X10_commitsDemands_68 C (fun hW hl h => ih hW hl h) hW (lv_sub hl [2, 3, 4, 1, 0] rfl) h
theorem kd_X10_commitsDemands {X : Mx} {r : Mx} {a : Nat} (h : f_X10_commitsDemands σ X a = some r) : shK σ a = 8 := (grd_inv h).1
set_option maxRecDepth 20000 in
set_option maxHeartbeats 2000000 in
theorem t_X10_commitsDemands {X : Mx} {r : Mx} {a : Nat} (h : f_X10_commitsDemands σ X a = some r) : MtV g l yX10_commitsDemands cX10_commitsDemands 6 none 0 0 [.ref a] σ X r := by
  refine met_of mk_X10_commitsDemands (Nat.le_of_ble_eq_true rfl) (fun p e s m args below meth c ls C hW hl => ?_)
  have hx := C.x
  have hb := C.b
  have hl : lv_has ls 6 [(0, .ref a)] := hl
  unfold f_X10_commitsDemands at h
  obtain ⟨hk0, h⟩ := grd_inv h
  refine lv_iconst (v := 0) hx hb dX10_commitsDemands_0 (by decide) ?_
  refine lv_istore_n (lv' := [(1, .int 0), (0, .ref a)]) hx hb dX10_commitsDemands_1 rfl hl (by decide) rfl (fun ls hl => ?_)
  refine lv_iconst (v := 0) hx hb dX10_commitsDemands_2 (by decide) ?_
  refine lv_istore_n (lv' := [(2, .int 0), (1, .int 0), (0, .ref a)]) hx hb dX10_commitsDemands_3 rfl hl (by decide) rfl (fun ls hl => ?_)
  exact b_X10_commitsDemands_4 C FU hW (lv_sub hl [2, 1, 0] rfl) h
set_option maxRecDepth 20000 in
set_option maxHeartbeats 2000000 in
theorem b_X10_commit_40 {a : Nat} (C : Cx g RX10 cX10_commit 2 (some .int) p s m args meth c) {r : (Int32 × Mx)} {X : Mx} (hW : Wd g σ X s H locs) (hl : lv_has ls 2 [(0, .ref a)]) (h : f_X10_commit_40 σ a X = some r) : W p l e (rmZ 7 169) s m args below meth c H locs 0 0 (QI g σ below args s r) (F0 m 40 ls []) := by
  have hx := C.x
  have hb := C.b
  unfold f_X10_commit_40 at h
  refine lv_aload_n hx hb dX10_commit_40 rfl (lv_at hl 0 rfl) ?_
  refine lv_iconst (v := 1) hx hb dX10_commit_41 (by decide) ?_
  obtain ⟨v3, X2, h1, h⟩ := bnd2_inv h
  refine r_cI hW (run_V (rest := []) C hW (t_X10_refuses h1) mk_X10_refuses vk_X10_270 (kd_X10_refuses h1) rfl rfl (by decide) ⟨Nat.le_of_ble_eq_true rfl, Nat.le_of_ble_eq_true rfl⟩ ⟨Nat.zero_le _, Nat.zero_le _⟩ rfl rfl (Nat.le_of_ble_eq_true rfl) hl.1 dX10_commit_42) (fun H locs hW _ => ?_)
  exact r_iret C hW (Option.some.inj h).symm rfl dX10_commit_45
set_option maxRecDepth 20000 in
set_option maxHeartbeats 2000000 in
theorem b_X10_commit_83 {a : Nat} (C : Cx g RX10 cX10_commit 2 (some .int) p s m args meth c) {r : (Int32 × Mx)} : ∀ (n : Nat) {X : Mx} {x1 : Int32} {H : Heap} {locs : List Loc} {ls : Array Slot} (hW : Wd g σ X s H locs) (hl : lv_has ls 2 [(0, .ref a), (1, .int x1)]) (h : f_X10_commit_83 σ a n X x1 = some r), W p l e (rmZ 7 169) s m args below meth c H locs 0 0 (QI g σ below args s r) (F0 m 83 ls []) := by
  have hx := C.x
  have hb := C.b
  intro n
  induction n with
  | zero =>
    intro X x1 H locs ls hW hl h
    cases (show none = some r from h)
  | succ n ih =>
    intro X x1 H locs ls hW hl h
    rw [f_X10_commit_83] at h
    refine lv_iload_n hx hb dX10_commit_83 rfl (lv_at hl 1 rfl) ?_
    refine lv_sipush (v := 316) hx hb dX10_commit_84 (by decide) ?_
    refine r_br h (lv_icmp_ge (tgt := 107) hx hb dX10_commit_87 (by decide)) (fun h => ?_) (fun h => ?_)
    · refine lv_aload_n hx hb dX10_commit_107 rfl (lv_at hl 0 rfl) ?_
      refine r_gR C hW h fl_X10_20 (by decide) dX10_commit_108 (fun b1 h => ?_)
      refine lv_sipush (v := 401) hx hb dX10_commit_111 (by decide) ?_
      refine r_iald C hW h dX10_commit_114 (fun v2 h => ?_)
      obtain ⟨v4, h3, h⟩ := bnd_inv h
      refine r_cI hW (run_S (rest := []) C hW (t_X10_bits h3) mk_X10_bits sk_X10_240 ⟨Nat.le_of_ble_eq_true rfl, Nat.le_of_ble_eq_true rfl⟩ ⟨Nat.zero_le _, Nat.zero_le _⟩ rfl rfl (Nat.le_of_ble_eq_true rfl) hl.1 dX10_commit_115) (fun H locs hW _ => ?_)
      exact r_iret C hW (Option.some.inj h).symm rfl dX10_commit_118
    · refine lv_aload_n hx hb dX10_commit_90 rfl (lv_at hl 0 rfl) ?_
      refine r_gR C hW h fl_X10_20 (by decide) dX10_commit_91 (fun b5 h => ?_)
      refine lv_sipush (v := 615) hx hb dX10_commit_94 (by decide) ?_
      refine lv_iload_n hx hb dX10_commit_97 rfl (lv_at hl 1 rfl) ?_
      refine lv_iadd hx hb dX10_commit_98 ?_
      refine lv_iconst (v := (-1)) hx hb dX10_commit_99 (by decide) ?_
      refine r_iast C hW h dX10_commit_100 (fun X6 H locs h hW _ => ?_)
      refine lv_iinc (v := (x1 + 1)) (lv' := [(1, .int (x1 + 1)), (0, .ref a)]) hx hb dX10_commit_101 hl (k := 1) rfl rfl (by decide) rfl (fun ls hl => ?_)
      refine lv_goto (tgt := 83) hx hb dX10_commit_104 (by decide) ?_
      exact ih hW (lv_sub hl [1, 0] rfl) h
theorem kd_X10_commit {X : Mx} {r : (Int32 × Mx)} {a : Nat} (h : f_X10_commit σ X a = some r) : shK σ a = 8 := (grd_inv h).1
set_option maxRecDepth 20000 in
set_option maxHeartbeats 2000000 in
theorem t_X10_commit {X : Mx} {r : (Int32 × Mx)} {a : Nat} (h : f_X10_commit σ X a = some r) : MtI g l yX10_commit cX10_commit 2 (some .int) 7 169 [.ref a] σ X r := by
  refine met_of mk_X10_commit (Nat.le_of_ble_eq_true rfl) (fun p e s m args below meth c ls C hW hl => ?_)
  have hx := C.x
  have hb := C.b
  have hl : lv_has ls 2 [(0, .ref a)] := hl
  unfold f_X10_commit at h
  obtain ⟨hk0, h⟩ := grd_inv h
  refine lv_aload_n hx hb dX10_commit_0 rfl (lv_at hl 0 rfl) ?_
  refine lv_iconst (v := 0) hx hb dX10_commit_1 (by decide) ?_
  refine r_pI C hW h pf_X10_65 (by decide) rfl rfl dX10_commit_2 (fun X1 H locs h hW _ => ?_)
  refine lv_aload_n hx hb dX10_commit_5 rfl (lv_at hl 0 rfl) ?_
  refine lv_iconst (v := 0) hx hb dX10_commit_6 (by decide) ?_
  obtain ⟨X3, h2, h⟩ := bnd_inv h
  refine r_cV hW (run_V (rest := []) C hW (t_X10_merges h2) mk_X10_merges vk_X10_354 (kd_X10_merges h2) rfl rfl (by decide) ⟨Nat.le_of_ble_eq_true rfl, Nat.le_of_ble_eq_true rfl⟩ ⟨Nat.zero_le _, Nat.zero_le _⟩ rfl rfl (Nat.le_of_ble_eq_true rfl) hl.1 dX10_commit_7) (fun H locs hW _ => ?_)
  refine lv_aload_n hx hb dX10_commit_10 rfl (lv_at hl 0 rfl) ?_
  refine r_gI C hW h fl_X10_282 (by decide) dX10_commit_11 (fun v4 h => ?_)
  refine r_br h (lv_if_gt (tgt := 40) hx hb dX10_commit_14 (by decide)) (fun h => ?_) (fun h => ?_)
  · exact b_X10_commit_40 C hW (lv_sub hl [0] rfl) h
  · refine lv_aload_n hx hb dX10_commit_17 rfl (lv_at hl 0 rfl) ?_
    refine r_gI C hW h fl_X10_291 (by decide) dX10_commit_18 (fun v5 h => ?_)
    obtain ⟨v7, h6, h⟩ := bnd_inv h
    refine r_cI hW (run_S (rest := []) C hW (t_X10_bits h6) mk_X10_bits sk_X10_240 ⟨Nat.le_of_ble_eq_true rfl, Nat.le_of_ble_eq_true rfl⟩ ⟨Nat.zero_le _, Nat.zero_le _⟩ rfl rfl (Nat.le_of_ble_eq_true rfl) hl.1 dX10_commit_21) (fun H locs hW _ => ?_)
    refine lv_iconst (v := 5) hx hb dX10_commit_24 (by decide) ?_
    refine r_br h (lv_icmp_gt (tgt := 40) hx hb dX10_commit_25 (by decide)) (fun h => ?_) (fun h => ?_)
    · exact b_X10_commit_40 C hW (lv_sub hl [0] rfl) h
    · refine lv_aload_n hx hb dX10_commit_28 rfl (lv_at hl 0 rfl) ?_
      refine r_gI C hW h fl_X10_323 (by decide) dX10_commit_29 (fun v8 h => ?_)
      obtain ⟨v10, h9, h⟩ := bnd_inv h
      refine r_cI hW (run_S (rest := []) C hW (t_X10_bits h9) mk_X10_bits sk_X10_240 ⟨Nat.le_of_ble_eq_true rfl, Nat.le_of_ble_eq_true rfl⟩ ⟨Nat.zero_le _, Nat.zero_le _⟩ rfl rfl (Nat.le_of_ble_eq_true rfl) hl.1 dX10_commit_32) (fun H locs hW _ => ?_)
      refine lv_bipush (v := 12) hx hb dX10_commit_35 (by decide) ?_
      refine r_br h (lv_icmp_le (tgt := 46) hx hb dX10_commit_37 (by decide)) (fun h => ?_) (fun h => ?_)
      · refine lv_aload_n hx hb dX10_commit_46 rfl (lv_at hl 0 rfl) ?_
        obtain ⟨X12, h11, h⟩ := bnd_inv h
        refine r_cV hW (run_V (rest := []) C hW (t_X10_keeps h11) mk_X10_keeps vk_X10_273 (kd_X10_keeps h11) rfl rfl (by decide) ⟨Nat.le_of_ble_eq_true rfl, Nat.le_of_ble_eq_true rfl⟩ ⟨Nat.zero_le _, Nat.zero_le _⟩ rfl rfl (Nat.le_of_ble_eq_true rfl) hl.1 dX10_commit_47) (fun H locs hW _ => ?_)
        refine lv_aload_n hx hb dX10_commit_50 rfl (lv_at hl 0 rfl) ?_
        obtain ⟨X14, h13, h⟩ := bnd_inv h
        refine r_cV hW (run_V (rest := []) C hW (t_X10_commitsTable h13) mk_X10_commitsTable vk_X10_400 (kd_X10_commitsTable h13) rfl rfl (by decide) ⟨Nat.le_of_ble_eq_true rfl, Nat.le_of_ble_eq_true rfl⟩ ⟨Nat.zero_le _, Nat.zero_le _⟩ rfl rfl (Nat.le_of_ble_eq_true rfl) hl.1 dX10_commit_51) (fun H locs hW _ => ?_)
        refine lv_aload_n hx hb dX10_commit_54 rfl (lv_at hl 0 rfl) ?_
        obtain ⟨X16, h15, h⟩ := bnd_inv h
        refine r_cV hW (run_V (rest := []) C hW (t_X10_commitsDemands h15) mk_X10_commitsDemands vk_X10_403 (kd_X10_commitsDemands h15) rfl rfl (by decide) ⟨Nat.le_of_ble_eq_true rfl, Nat.le_of_ble_eq_true rfl⟩ ⟨Nat.zero_le _, Nat.zero_le _⟩ rfl rfl (Nat.le_of_ble_eq_true rfl) hl.1 dX10_commit_55) (fun H locs hW _ => ?_)
        refine lv_aload_n hx hb dX10_commit_58 rfl (lv_at hl 0 rfl) ?_
        refine lv_iconst (v := 0) hx hb dX10_commit_59 (by decide) ?_
        obtain ⟨X18, h17, h⟩ := bnd_inv h
        refine r_cV hW (run_V (rest := []) C hW (t_X10_sidesBegin h17) mk_X10_sidesBegin vk_X10_187 (kd_X10_sidesBegin h17) rfl rfl (by decide) ⟨Nat.le_of_ble_eq_true rfl, Nat.le_of_ble_eq_true rfl⟩ ⟨Nat.zero_le _, Nat.zero_le _⟩ rfl rfl (Nat.le_of_ble_eq_true rfl) hl.1 dX10_commit_60) (fun H locs hW _ => ?_)
        refine lv_aload_n hx hb dX10_commit_63 rfl (lv_at hl 0 rfl) ?_
        refine r_gR C hW h fl_X10_20 (by decide) dX10_commit_64 (fun b19 h => ?_)
        refine lv_sipush (v := 613) hx hb dX10_commit_67 (by decide) ?_
        refine lv_iconst (v := 0) hx hb dX10_commit_70 (by decide) ?_
        refine r_iast C hW h dX10_commit_71 (fun X20 H locs h hW _ => ?_)
        refine lv_aload_n hx hb dX10_commit_72 rfl (lv_at hl 0 rfl) ?_
        refine r_gR C hW h fl_X10_20 (by decide) dX10_commit_73 (fun b21 h => ?_)
        refine lv_sipush (v := 614) hx hb dX10_commit_76 (by decide) ?_
        refine lv_iconst (v := 0) hx hb dX10_commit_79 (by decide) ?_
        refine r_iast C hW h dX10_commit_80 (fun X22 H locs h hW _ => ?_)
        refine lv_iconst (v := 0) hx hb dX10_commit_81 (by decide) ?_
        refine lv_istore_n (lv' := [(1, .int 0), (0, .ref a)]) hx hb dX10_commit_82 rfl hl (by decide) rfl (fun ls hl => ?_)
        exact b_X10_commit_83 C FU hW (lv_sub hl [1, 0] rfl) h
      · exact b_X10_commit_40 C hW (lv_sub hl [0] rfl) h
theorem kd_X10_isSide {X : Mx} {r : (Int32 × Mx)} {a : Nat} {x1 : Int32} (h : f_X10_isSide σ X a x1 = some r) : shK σ a = 8 := (grd_inv h).1
set_option maxRecDepth 20000 in
set_option maxHeartbeats 2000000 in
theorem t_X10_isSide {X : Mx} {r : (Int32 × Mx)} {a : Nat} {x1 : Int32} (h : f_X10_isSide σ X a x1 = some r) : MtI g l yX10_isSide cX10_isSide 2 (some .boolean) 1 22 [.ref a, .int x1] σ X r := by
  refine met_of mk_X10_isSide (Nat.le_of_ble_eq_true rfl) (fun p e s m args below meth c ls C hW hl => ?_)
  have hx := C.x
  have hb := C.b
  have hl : lv_has ls 2 [(0, .ref a), (1, .int x1)] := hl
  unfold f_X10_isSide at h
  obtain ⟨hk0, h⟩ := grd_inv h
  refine lv_aload_n hx hb dX10_isSide_0 rfl (lv_at hl 0 rfl) ?_
  refine lv_iload_n hx hb dX10_isSide_1 rfl (lv_at hl 1 rfl) ?_
  refine lv_iconst (v := 0) hx hb dX10_isSide_2 (by decide) ?_
  refine lv_iconst (v := 1) hx hb dX10_isSide_3 (by decide) ?_
  refine r_cI hW (run_S (rest := [.ref a]) C hW (t_X10_within (X := X)) mk_X10_within sk_X10_231 ⟨Nat.le_of_ble_eq_true rfl, Nat.le_of_ble_eq_true rfl⟩ ⟨Nat.zero_le _, Nat.zero_le _⟩ rfl rfl (Nat.le_of_ble_eq_true rfl) hl.1 dX10_isSide_4) (fun H locs hW _ => ?_)
  refine lv_iconst (v := 1) hx hb dX10_isSide_7 (by decide) ?_
  obtain ⟨v3, X2, h1, h⟩ := bnd2_inv h
  refine r_cI hW (run_V (rest := []) C hW (t_X10_right h1) mk_X10_right vk_X10_214 (kd_X10_right h1) rfl rfl (by decide) ⟨Nat.le_of_ble_eq_true rfl, Nat.le_of_ble_eq_true rfl⟩ ⟨Nat.zero_le _, Nat.zero_le _⟩ rfl rfl (Nat.le_of_ble_eq_true rfl) hl.1 dX10_isSide_8) (fun H locs hW _ => ?_)
  obtain ⟨hz, h⟩ := grd_inv h
  exact r_iret C hW (Option.some.inj h).symm (zb hz) dX10_isSide_11
set_option maxRecDepth 20000 in
set_option maxHeartbeats 2000000 in
theorem b_X10_changedCells_58 {k4 : Int32 → Int32 → Option Int32} {k13 : Int32 → Int32 → Option Int32} {a : Nat} {x1 : Int32} {x3 : Int32} {x4 : Int32} (C : Cx g RX10 cX10_changedCells 5 (some .int) p s m args meth c) {r : Int32} {X : Mx} {y0 : Int32} {y1 : Int32} (hk4 : ∀ {H' : Heap} {locs' : List Loc} {ls' : Array Slot} {x2' : Int32} {x3' : Int32}, Wd g σ X s H' locs' → lv_has ls' 5 [(0, .ref a), (1, .int x1), (2, .int x2'), (3, .int x3')] → k4 x2' x3' = some r → W p l e (rmZ 4 92) s m args below meth c H' locs' 0 0 (QI g σ below args s (r, X)) (F0 m 4 ls' [])) (hk13 : ∀ {H' : Heap} {locs' : List Loc} {ls' : Array Slot} {x2' : Int32} {x4' : Int32}, Wd g σ X s H' locs' → lv_has ls' 5 [(0, .ref a), (1, .int x1), (2, .int x2'), (3, .int x3), (4, .int x4')] → k13 x2' x4' = some r → W p l e (rmZ 4 92) s m args below meth c H' locs' 0 0 (QI g σ below args s (r, X)) (F0 m 13 ls' [])) (hW : Wd g σ X s H locs) (hl : lv_has ls 5 [(0, .ref a), (1, .int x1), (3, .int x3), (4, .int x4)]) (h : f_X10_changedCells_58 k4 k13 σ X a x1 x3 x4 y0 y1 = some r) : W p l e (rmZ 4 92) s m args below meth c H locs 0 0 (QI g σ below args s (r, X)) (F0 m 58 ls [.int y1, .int y0]) := by
  have hx := C.x
  have hb := C.b
  unfold f_X10_changedCells_58 at h
  refine lv_iadd hx hb dX10_changedCells_58 ?_
  refine lv_istore_n (lv' := [(2, .int (y0 + y1)), (0, .ref a), (1, .int x1), (3, .int x3), (4, .int x4)]) hx hb dX10_changedCells_59 rfl hl (by decide) rfl (fun ls hl => ?_)
  refine lv_iinc (v := (x4 + 1)) (lv' := [(4, .int (x4 + 1)), (2, .int (y0 + y1)), (0, .ref a), (1, .int x1), (3, .int x3)]) hx hb dX10_changedCells_60 hl (k := 4) rfl rfl (by decide) rfl (fun ls hl => ?_)
  refine lv_goto (tgt := 13) hx hb dX10_changedCells_63 (by decide) ?_
  exact hk13 hW (lv_sub hl [2, 3, 1, 4, 0] rfl) h
set_option maxRecDepth 20000 in
set_option maxHeartbeats 2000000 in
theorem b_X10_changedCells_57 {k4 : Int32 → Int32 → Option Int32} {k13 : Int32 → Int32 → Option Int32} {a : Nat} {x1 : Int32} {x3 : Int32} {x4 : Int32} (C : Cx g RX10 cX10_changedCells 5 (some .int) p s m args meth c) {r : Int32} {X : Mx} {y0 : Int32} (hk4 : ∀ {H' : Heap} {locs' : List Loc} {ls' : Array Slot} {x2' : Int32} {x3' : Int32}, Wd g σ X s H' locs' → lv_has ls' 5 [(0, .ref a), (1, .int x1), (2, .int x2'), (3, .int x3')] → k4 x2' x3' = some r → W p l e (rmZ 4 92) s m args below meth c H' locs' 0 0 (QI g σ below args s (r, X)) (F0 m 4 ls' [])) (hk13 : ∀ {H' : Heap} {locs' : List Loc} {ls' : Array Slot} {x2' : Int32} {x4' : Int32}, Wd g σ X s H' locs' → lv_has ls' 5 [(0, .ref a), (1, .int x1), (2, .int x2'), (3, .int x3), (4, .int x4')] → k13 x2' x4' = some r → W p l e (rmZ 4 92) s m args below meth c H' locs' 0 0 (QI g σ below args s (r, X)) (F0 m 13 ls' [])) (hW : Wd g σ X s H locs) (hl : lv_has ls 5 [(0, .ref a), (1, .int x1), (3, .int x3), (4, .int x4)]) (h : f_X10_changedCells_57 k4 k13 σ X a x1 x3 x4 y0 = some r) : W p l e (rmZ 4 92) s m args below meth c H locs 0 0 (QI g σ below args s (r, X)) (F0 m 57 ls [.int y0]) := by
  have hx := C.x
  have hb := C.b
  unfold f_X10_changedCells_57 at h
  refine lv_iconst (v := 0) hx hb dX10_changedCells_57 (by decide) ?_
  exact b_X10_changedCells_58 C hk4 hk13 hW (lv_sub hl [0, 1, 2, 3] rfl) h
set_option maxRecDepth 20000 in
set_option maxHeartbeats 2000000 in
theorem b_X10_changedCells_13 {k4 : Int32 → Int32 → Option Int32} {a : Nat} {x1 : Int32} {x3 : Int32} (C : Cx g RX10 cX10_changedCells 5 (some .int) p s m args meth c) {r : Int32} {X : Mx} (hk4 : ∀ {H' : Heap} {locs' : List Loc} {ls' : Array Slot} {x2' : Int32} {x3' : Int32}, Wd g σ X s H' locs' → lv_has ls' 5 [(0, .ref a), (1, .int x1), (2, .int x2'), (3, .int x3')] → k4 x2' x3' = some r → W p l e (rmZ 4 92) s m args below meth c H' locs' 0 0 (QI g σ below args s (r, X)) (F0 m 4 ls' [])) : ∀ (n : Nat) {x2 : Int32} {x4 : Int32} {H : Heap} {locs : List Loc} {ls : Array Slot} (hW : Wd g σ X s H locs) (hl : lv_has ls 5 [(0, .ref a), (1, .int x1), (2, .int x2), (3, .int x3), (4, .int x4)]) (h : f_X10_changedCells_13 k4 σ X a x1 x3 n x2 x4 = some r), W p l e (rmZ 4 92) s m args below meth c H locs 0 0 (QI g σ below args s (r, X)) (F0 m 13 ls []) := by
  have hx := C.x
  have hb := C.b
  intro n
  induction n with
  | zero =>
    intro x2 x4 H locs ls hW hl h
    cases (show none = some r from h)
  | succ n ih =>
    intro x2 x4 H locs ls hW hl h
    rw [f_X10_changedCells_13] at h
    refine lv_iload hx hb dX10_changedCells_13 (lv_at hl 4 rfl) ?_
    refine lv_iconst (v := 5) hx hb dX10_changedCells_15 (by decide) ?_
    refine r_br h (lv_icmp_ge (tgt := 66) hx hb dX10_changedCells_16 (by decide)) (fun h => ?_) (fun h => ?_)
    · refine lv_iinc (v := (x3 + 1)) (lv' := [(3, .int (x3 + 1)), (0, .ref a), (1, .int x1), (2, .int x2), (4, .int x4)]) hx hb dX10_changedCells_66 hl (k := 3) rfl rfl (by decide) rfl (fun ls hl => ?_)
      refine lv_goto (tgt := 4) hx hb dX10_changedCells_69 (by decide) ?_
      exact hk4 hW (lv_sub hl [1, 2, 3, 0] rfl) h
    · refine lv_iload_n hx hb dX10_changedCells_19 rfl (lv_at hl 2 rfl) ?_
      refine lv_aload_n hx hb dX10_changedCells_20 rfl (lv_at hl 0 rfl) ?_
      refine lv_iconst (v := 0) hx hb dX10_changedCells_21 (by decide) ?_
      refine lv_iconst (v := 2) hx hb dX10_changedCells_22 (by decide) ?_
      refine lv_iload_n hx hb dX10_changedCells_23 rfl (lv_at hl 3 rfl) ?_
      obtain ⟨v2, h1, h⟩ := bnd_inv h
      refine r_cI hW (run_V (rest := [.int x2]) C hW (t_X10_hasRow h1) mk_X10_hasRow vk_X10_160 (kd_X10_hasRow h1) rfl rfl (by decide) ⟨Nat.le_of_ble_eq_true rfl, Nat.le_of_ble_eq_true rfl⟩ ⟨Nat.zero_le _, Nat.zero_le _⟩ rfl rfl (Nat.le_of_ble_eq_true rfl) hl.1 dX10_changedCells_24) (fun H locs hW _ => ?_)
      refine r_br h (lv_if_eq (tgt := 57) hx hb dX10_changedCells_27 (by decide)) (fun h => ?_) (fun h => ?_)
      · exact b_X10_changedCells_57 C hk4 (fun hW hl h => ih hW hl h) hW (lv_sub hl [0, 1, 3, 4] rfl) h
      · refine lv_aload_n hx hb dX10_changedCells_30 rfl (lv_at hl 0 rfl) ?_
        refine lv_iconst (v := 0) hx hb dX10_changedCells_31 (by decide) ?_
        refine lv_iconst (v := 2) hx hb dX10_changedCells_32 (by decide) ?_
        refine lv_iload hx hb dX10_changedCells_33 (lv_at hl 4 rfl) ?_
        obtain ⟨v4, h3, h⟩ := bnd_inv h
        refine r_cI hW (run_V (rest := [.int x2]) C hW (t_X10_hasColumn h3) mk_X10_hasColumn vk_X10_234 (kd_X10_hasColumn h3) rfl rfl (by decide) ⟨Nat.le_of_ble_eq_true rfl, Nat.le_of_ble_eq_true rfl⟩ ⟨Nat.zero_le _, Nat.zero_le _⟩ rfl rfl (Nat.le_of_ble_eq_true rfl) hl.1 dX10_changedCells_35) (fun H locs hW _ => ?_)
        refine r_br h (lv_if_eq (tgt := 57) hx hb dX10_changedCells_38 (by decide)) (fun h => ?_) (fun h => ?_)
        · exact b_X10_changedCells_57 C hk4 (fun hW hl h => ih hW hl h) hW (lv_sub hl [0, 1, 3, 4] rfl) h
        · refine lv_aload_n hx hb dX10_changedCells_41 rfl (lv_at hl 0 rfl) ?_
          refine lv_iconst (v := 0) hx hb dX10_changedCells_42 (by decide) ?_
          refine lv_iload_n hx hb dX10_changedCells_43 rfl (lv_at hl 1 rfl) ?_
          refine lv_iload_n hx hb dX10_changedCells_44 rfl (lv_at hl 3 rfl) ?_
          refine lv_iload hx hb dX10_changedCells_45 (lv_at hl 4 rfl) ?_
          obtain ⟨v6, h5, h⟩ := bnd_inv h
          refine r_cI hW (run_V (rest := [.int x2]) C hW (t_X10_isChanged h5) mk_X10_isChanged vk_X10_288 (kd_X10_isChanged h5) rfl rfl (by decide) ⟨Nat.le_of_ble_eq_true rfl, Nat.le_of_ble_eq_true rfl⟩ ⟨Nat.zero_le _, Nat.zero_le _⟩ rfl rfl (Nat.le_of_ble_eq_true rfl) hl.1 dX10_changedCells_47) (fun H locs hW _ => ?_)
          refine r_br h (lv_if_eq (tgt := 57) hx hb dX10_changedCells_50 (by decide)) (fun h => ?_) (fun h => ?_)
          · exact b_X10_changedCells_57 C hk4 (fun hW hl h => ih hW hl h) hW (lv_sub hl [0, 1, 3, 4] rfl) h
          · refine lv_iconst (v := 1) hx hb dX10_changedCells_53 (by decide) ?_
            refine lv_goto (tgt := 58) hx hb dX10_changedCells_54 (by decide) ?_
            exact b_X10_changedCells_58 C hk4 (fun hW hl h => ih hW hl h) hW (lv_sub hl [0, 1, 3, 4] rfl) h
set_option maxRecDepth 20000 in
set_option maxHeartbeats 2000000 in
theorem b_X10_changedCells_4 {a : Nat} {x1 : Int32} (C : Cx g RX10 cX10_changedCells 5 (some .int) p s m args meth c) {r : Int32} {X : Mx} : ∀ (n : Nat) {x2 : Int32} {x3 : Int32} {H : Heap} {locs : List Loc} {ls : Array Slot} (hW : Wd g σ X s H locs) (hl : lv_has ls 5 [(0, .ref a), (1, .int x1), (2, .int x2), (3, .int x3)]) (h : f_X10_changedCells_4 σ X a x1 n x2 x3 = some r), W p l e (rmZ 4 92) s m args below meth c H locs 0 0 (QI g σ below args s (r, X)) (F0 m 4 ls []) := by
  have hx := C.x
  have hb := C.b
  intro n
  induction n with
  | zero =>
    intro x2 x3 H locs ls hW hl h
    cases (show none = some r from h)
  | succ n ih =>
    intro x2 x3 H locs ls hW hl h
    rw [f_X10_changedCells_4] at h
    refine lv_iload_n hx hb dX10_changedCells_4 rfl (lv_at hl 3 rfl) ?_
    refine lv_bipush (v := 20) hx hb dX10_changedCells_5 (by decide) ?_
    refine r_br h (lv_icmp_ge (tgt := 72) hx hb dX10_changedCells_7 (by decide)) (fun h => ?_) (fun h => ?_)
    · refine lv_iload_n hx hb dX10_changedCells_72 rfl (lv_at hl 2 rfl) ?_
      exact r_iret C hW (rt_R h) rfl dX10_changedCells_73
    · refine lv_iconst (v := 0) hx hb dX10_changedCells_10 (by decide) ?_
      refine lv_istore (lv' := [(4, .int 0), (0, .ref a), (1, .int x1), (2, .int x2), (3, .int x3)]) hx hb dX10_changedCells_11 hl (by decide) rfl (fun ls hl => ?_)
      exact b_X10_changedCells_13 C (fun hW hl h => ih hW hl h) FU hW (lv_sub hl [1, 2, 3, 4, 0] rfl) h
theorem kd_X10_changedCells {X : Mx} {r : Int32} {a : Nat} {x1 : Int32} (h : f_X10_changedCells σ X a x1 = some r) : shK σ a = 8 := (grd_inv h).1
set_option maxRecDepth 20000 in
set_option maxHeartbeats 2000000 in
theorem t_X10_changedCells {X : Mx} {r : Int32} {a : Nat} {x1 : Int32} (h : f_X10_changedCells σ X a x1 = some r) : MtI g l yX10_changedCells cX10_changedCells 5 (some .int) 4 92 [.ref a, .int x1] σ X (r, X) := by
  refine met_of mk_X10_changedCells (Nat.le_of_ble_eq_true rfl) (fun p e s m args below meth c ls C hW hl => ?_)
  have hx := C.x
  have hb := C.b
  have hl : lv_has ls 5 [(0, .ref a), (1, .int x1)] := hl
  unfold f_X10_changedCells at h
  obtain ⟨hk0, h⟩ := grd_inv h
  refine lv_iconst (v := 0) hx hb dX10_changedCells_0 (by decide) ?_
  refine lv_istore_n (lv' := [(2, .int 0), (0, .ref a), (1, .int x1)]) hx hb dX10_changedCells_1 rfl hl (by decide) rfl (fun ls hl => ?_)
  refine lv_iconst (v := 0) hx hb dX10_changedCells_2 (by decide) ?_
  refine lv_istore_n (lv' := [(3, .int 0), (2, .int 0), (0, .ref a), (1, .int x1)]) hx hb dX10_changedCells_3 rfl hl (by decide) rfl (fun ls hl => ?_)
  exact b_X10_changedCells_4 C FU hW (lv_sub hl [2, 3, 1, 0] rfl) h
set_option maxRecDepth 20000 in
set_option maxHeartbeats 2000000 in
theorem b_X10_changedColumns_70 {k5 : Int32 → Int32 → Option Int32} {a : Nat} {x1 : Int32} {x2 : Int32} {x4 : Int32} (C : Cx g RX10 cX10_changedColumns 5 (some .int) p s m args meth c) {r : Int32} {X : Mx} {y0 : Int32} {y1 : Int32} (hk5 : ∀ {H' : Heap} {locs' : List Loc} {ls' : Array Slot} {x3' : Int32} {x4' : Int32}, Wd g σ X s H' locs' → lv_has ls' 5 [(0, .ref a), (1, .int x1), (2, .int x2), (3, .int x3'), (4, .int x4')] → k5 x3' x4' = some r → W p l e (rmZ 2 45) s m args below meth c H' locs' 0 0 (QI g σ below args s (r, X)) (F0 m 5 ls' [])) (hW : Wd g σ X s H locs) (hl : lv_has ls 5 [(0, .ref a), (1, .int x1), (2, .int x2), (4, .int x4)]) (h : f_X10_changedColumns_70 k5 σ X a x1 x2 x4 y0 y1 = some r) : W p l e (rmZ 2 45) s m args below meth c H locs 0 0 (QI g σ below args s (r, X)) (F0 m 70 ls [.int y1, .int y0]) := by
  have hx := C.x
  have hb := C.b
  unfold f_X10_changedColumns_70 at h
  refine lv_iadd hx hb dX10_changedColumns_70 ?_
  refine lv_istore_n (lv' := [(3, .int (y0 + y1)), (0, .ref a), (1, .int x1), (2, .int x2), (4, .int x4)]) hx hb dX10_changedColumns_71 rfl hl (by decide) rfl (fun ls hl => ?_)
  refine lv_iinc (v := (x4 + 1)) (lv' := [(4, .int (x4 + 1)), (3, .int (y0 + y1)), (0, .ref a), (1, .int x1), (2, .int x2)]) hx hb dX10_changedColumns_72 hl (k := 4) rfl rfl (by decide) rfl (fun ls hl => ?_)
  refine lv_goto (tgt := 5) hx hb dX10_changedColumns_75 (by decide) ?_
  exact hk5 hW (lv_sub hl [2, 3, 4, 1, 0] rfl) h
set_option maxRecDepth 20000 in
set_option maxHeartbeats 2000000 in
theorem b_X10_changedColumns_69 {k5 : Int32 → Int32 → Option Int32} {a : Nat} {x1 : Int32} {x2 : Int32} {x4 : Int32} (C : Cx g RX10 cX10_changedColumns 5 (some .int) p s m args meth c) {r : Int32} {X : Mx} {y0 : Int32} (hk5 : ∀ {H' : Heap} {locs' : List Loc} {ls' : Array Slot} {x3' : Int32} {x4' : Int32}, Wd g σ X s H' locs' → lv_has ls' 5 [(0, .ref a), (1, .int x1), (2, .int x2), (3, .int x3'), (4, .int x4')] → k5 x3' x4' = some r → W p l e (rmZ 2 45) s m args below meth c H' locs' 0 0 (QI g σ below args s (r, X)) (F0 m 5 ls' [])) (hW : Wd g σ X s H locs) (hl : lv_has ls 5 [(0, .ref a), (1, .int x1), (2, .int x2), (4, .int x4)]) (h : f_X10_changedColumns_69 k5 σ X a x1 x2 x4 y0 = some r) : W p l e (rmZ 2 45) s m args below meth c H locs 0 0 (QI g σ below args s (r, X)) (F0 m 69 ls [.int y0]) := by
  have hx := C.x
  have hb := C.b
  unfold f_X10_changedColumns_69 at h
  refine lv_iconst (v := 0) hx hb dX10_changedColumns_69 (by decide) ?_
  exact b_X10_changedColumns_70 C hk5 hW (lv_sub hl [0, 1, 2, 3] rfl) h
set_option maxRecDepth 20000 in
set_option maxHeartbeats 2000000 in
theorem b_X10_changedColumns_5 {a : Nat} {x1 : Int32} {x2 : Int32} (C : Cx g RX10 cX10_changedColumns 5 (some .int) p s m args meth c) {r : Int32} {X : Mx} : ∀ (n : Nat) {x3 : Int32} {x4 : Int32} {H : Heap} {locs : List Loc} {ls : Array Slot} (hW : Wd g σ X s H locs) (hl : lv_has ls 5 [(0, .ref a), (1, .int x1), (2, .int x2), (3, .int x3), (4, .int x4)]) (h : f_X10_changedColumns_5 σ X a x1 x2 n x3 x4 = some r), W p l e (rmZ 2 45) s m args below meth c H locs 0 0 (QI g σ below args s (r, X)) (F0 m 5 ls []) := by
  have hx := C.x
  have hb := C.b
  intro n
  induction n with
  | zero =>
    intro x3 x4 H locs ls hW hl h
    cases (show none = some r from h)
  | succ n ih =>
    intro x3 x4 H locs ls hW hl h
    rw [f_X10_changedColumns_5] at h
    refine lv_iload hx hb dX10_changedColumns_5 (lv_at hl 4 rfl) ?_
    refine lv_iconst (v := 5) hx hb dX10_changedColumns_7 (by decide) ?_
    refine r_br h (lv_icmp_ge (tgt := 78) hx hb dX10_changedColumns_8 (by decide)) (fun h => ?_) (fun h => ?_)
    · refine lv_iload_n hx hb dX10_changedColumns_78 rfl (lv_at hl 3 rfl) ?_
      exact r_iret C hW (rt_R h) rfl dX10_changedColumns_79
    · refine lv_iload_n hx hb dX10_changedColumns_11 rfl (lv_at hl 3 rfl) ?_
      refine lv_aload_n hx hb dX10_changedColumns_12 rfl (lv_at hl 0 rfl) ?_
      refine lv_iconst (v := 0) hx hb dX10_changedColumns_13 (by decide) ?_
      refine lv_iconst (v := 2) hx hb dX10_changedColumns_14 (by decide) ?_
      refine lv_iload hx hb dX10_changedColumns_15 (lv_at hl 4 rfl) ?_
      obtain ⟨v2, h1, h⟩ := bnd_inv h
      refine r_cI hW (run_V (rest := [.int x3]) C hW (t_X10_hasColumn h1) mk_X10_hasColumn vk_X10_234 (kd_X10_hasColumn h1) rfl rfl (by decide) ⟨Nat.le_of_ble_eq_true rfl, Nat.le_of_ble_eq_true rfl⟩ ⟨Nat.zero_le _, Nat.zero_le _⟩ rfl rfl (Nat.le_of_ble_eq_true rfl) hl.1 dX10_changedColumns_17) (fun H locs hW _ => ?_)
      refine r_br h (lv_if_eq (tgt := 69) hx hb dX10_changedColumns_20 (by decide)) (fun h => ?_) (fun h => ?_)
      · exact b_X10_changedColumns_69 C (fun hW hl h => ih hW hl h) hW (lv_sub hl [0, 1, 2, 4] rfl) h
      · refine lv_aload_n hx hb dX10_changedColumns_23 rfl (lv_at hl 0 rfl) ?_
        refine lv_iconst (v := 0) hx hb dX10_changedColumns_24 (by decide) ?_
        refine lv_iload_n hx hb dX10_changedColumns_25 rfl (lv_at hl 1 rfl) ?_
        refine lv_iload hx hb dX10_changedColumns_26 (lv_at hl 4 rfl) ?_
        obtain ⟨v4, h3, h⟩ := bnd_inv h
        refine r_cI hW (run_V (rest := [.int x3]) C hW (t_X10_hasColumn h3) mk_X10_hasColumn vk_X10_234 (kd_X10_hasColumn h3) rfl rfl (by decide) ⟨Nat.le_of_ble_eq_true rfl, Nat.le_of_ble_eq_true rfl⟩ ⟨Nat.zero_le _, Nat.zero_le _⟩ rfl rfl (Nat.le_of_ble_eq_true rfl) hl.1 dX10_changedColumns_28) (fun H locs hW _ => ?_)
        refine r_br h (lv_if_eq (tgt := 69) hx hb dX10_changedColumns_31 (by decide)) (fun h => ?_) (fun h => ?_)
        · exact b_X10_changedColumns_69 C (fun hW hl h => ih hW hl h) hW (lv_sub hl [0, 1, 2, 4] rfl) h
        · refine lv_aload_n hx hb dX10_changedColumns_34 rfl (lv_at hl 0 rfl) ?_
          refine r_gR C hW h fl_X10_20 (by decide) dX10_changedColumns_35 (fun b5 h => ?_)
          refine lv_sipush (v := 200) hx hb dX10_changedColumns_38 (by decide) ?_
          refine lv_iload_n hx hb dX10_changedColumns_41 rfl (lv_at hl 1 rfl) ?_
          refine lv_imul hx hb dX10_changedColumns_42 ?_
          refine lv_iload_n hx hb dX10_changedColumns_43 rfl (lv_at hl 2 rfl) ?_
          refine lv_iadd hx hb dX10_changedColumns_44 ?_
          refine lv_iload hx hb dX10_changedColumns_45 (lv_at hl 4 rfl) ?_
          refine lv_iadd hx hb dX10_changedColumns_47 ?_
          refine r_iald C hW h dX10_changedColumns_48 (fun v6 h => ?_)
          refine lv_aload_n hx hb dX10_changedColumns_49 rfl (lv_at hl 0 rfl) ?_
          refine r_gR C hW h fl_X10_20 (by decide) dX10_changedColumns_50 (fun b7 h => ?_)
          refine lv_sipush (v := 400) hx hb dX10_changedColumns_53 (by decide) ?_
          refine lv_iload_n hx hb dX10_changedColumns_56 rfl (lv_at hl 2 rfl) ?_
          refine lv_iadd hx hb dX10_changedColumns_57 ?_
          refine lv_iload hx hb dX10_changedColumns_58 (lv_at hl 4 rfl) ?_
          refine lv_iadd hx hb dX10_changedColumns_60 ?_
          refine r_iald C hW h dX10_changedColumns_61 (fun v8 h => ?_)
          refine r_br h (lv_icmp_eq (tgt := 69) hx hb dX10_changedColumns_62 (by decide)) (fun h => ?_) (fun h => ?_)
          · exact b_X10_changedColumns_69 C (fun hW hl h => ih hW hl h) hW (lv_sub hl [0, 1, 2, 4] rfl) h
          · refine lv_iconst (v := 1) hx hb dX10_changedColumns_65 (by decide) ?_
            refine lv_goto (tgt := 70) hx hb dX10_changedColumns_66 (by decide) ?_
            exact b_X10_changedColumns_70 C (fun hW hl h => ih hW hl h) hW (lv_sub hl [0, 1, 2, 4] rfl) h
theorem kd_X10_changedColumns {X : Mx} {r : Int32} {a : Nat} {x1 : Int32} {x2 : Int32} (h : f_X10_changedColumns σ X a x1 x2 = some r) : shK σ a = 8 := (grd_inv h).1
set_option maxRecDepth 20000 in
set_option maxHeartbeats 2000000 in
theorem t_X10_changedColumns {X : Mx} {r : Int32} {a : Nat} {x1 : Int32} {x2 : Int32} (h : f_X10_changedColumns σ X a x1 x2 = some r) : MtI g l yX10_changedColumns cX10_changedColumns 5 (some .int) 2 45 [.ref a, .int x1, .int x2] σ X (r, X) := by
  refine met_of mk_X10_changedColumns (Nat.le_of_ble_eq_true rfl) (fun p e s m args below meth c ls C hW hl => ?_)
  have hx := C.x
  have hb := C.b
  have hl : lv_has ls 5 [(0, .ref a), (1, .int x1), (2, .int x2)] := hl
  unfold f_X10_changedColumns at h
  obtain ⟨hk0, h⟩ := grd_inv h
  refine lv_iconst (v := 0) hx hb dX10_changedColumns_0 (by decide) ?_
  refine lv_istore_n (lv' := [(3, .int 0), (0, .ref a), (1, .int x1), (2, .int x2)]) hx hb dX10_changedColumns_1 rfl hl (by decide) rfl (fun ls hl => ?_)
  refine lv_iconst (v := 0) hx hb dX10_changedColumns_2 (by decide) ?_
  refine lv_istore (lv' := [(4, .int 0), (3, .int 0), (0, .ref a), (1, .int x1), (2, .int x2)]) hx hb dX10_changedColumns_3 hl (by decide) rfl (fun ls hl => ?_)
  exact b_X10_changedColumns_5 C FU hW (lv_sub hl [2, 3, 4, 1, 0] rfl) h
theorem kd_X10_difference {X : Mx} {r : (Int32 × Mx)} {a : Nat} {x1 : Int32} {x2 : Int32} (h : f_X10_difference σ X a x1 x2 = some r) : shK σ a = 8 := (grd_inv h).1
set_option maxRecDepth 20000 in
set_option maxHeartbeats 2000000 in
theorem t_X10_difference {X : Mx} {r : (Int32 × Mx)} {a : Nat} {x1 : Int32} {x2 : Int32} (h : f_X10_difference σ X a x1 x2 = some r) : MtI g l yX10_difference cX10_difference 7 (some .int) 5 116 [.ref a, .int x1, .int x2] σ X r := by
  refine met_of mk_X10_difference (Nat.le_of_ble_eq_true rfl) (fun p e s m args below meth c ls C hW hl => ?_)
  have hx := C.x
  have hb := C.b
  have hl : lv_has ls 7 [(0, .ref a), (1, .int x1), (2, .int x2)] := hl
  unfold f_X10_difference at h
  obtain ⟨hk0, h⟩ := grd_inv h
  refine lv_aload_n hx hb dX10_difference_0 rfl (lv_at hl 0 rfl) ?_
  refine lv_iconst (v := 0) hx hb dX10_difference_1 (by decide) ?_
  refine r_pI C hW h pf_X10_65 (by decide) rfl rfl dX10_difference_2 (fun X1 H locs h hW _ => ?_)
  refine lv_aload_n hx hb dX10_difference_5 rfl (lv_at hl 0 rfl) ?_
  refine lv_iload_n hx hb dX10_difference_6 rfl (lv_at hl 1 rfl) ?_
  obtain ⟨v4, X3, h2, h⟩ := bnd2_inv h
  refine r_cI hW (run_V (rest := []) C hW (t_X10_isSide h2) mk_X10_isSide vk_X10_406 (kd_X10_isSide h2) rfl rfl (by decide) ⟨Nat.le_of_ble_eq_true rfl, Nat.le_of_ble_eq_true rfl⟩ ⟨Nat.zero_le _, Nat.zero_le _⟩ rfl rfl (Nat.le_of_ble_eq_true rfl) hl.1 dX10_difference_7) (fun H locs hW _ => ?_)
  refine r_br h (lv_if_eq (tgt := 23) hx hb dX10_difference_10 (by decide)) (fun h => ?_) (fun h => ?_)
  · refine lv_iconst (v := 0) hx hb dX10_difference_23 (by decide) ?_
    exact r_iret C hW (Option.some.inj h).symm rfl dX10_difference_24
  · refine lv_aload_n hx hb dX10_difference_13 rfl (lv_at hl 0 rfl) ?_
    refine lv_iload_n hx hb dX10_difference_14 rfl (lv_at hl 2 rfl) ?_
    refine lv_bipush (v := 6) hx hb dX10_difference_15 (by decide) ?_
    obtain ⟨v7, X6, h5, h⟩ := bnd2_inv h
    refine r_cI hW (run_V (rest := []) C hW (t_X10_isWhat h5) mk_X10_isWhat vk_X10_375 (kd_X10_isWhat h5) rfl rfl (by decide) ⟨Nat.le_of_ble_eq_true rfl, Nat.le_of_ble_eq_true rfl⟩ ⟨Nat.zero_le _, Nat.zero_le _⟩ rfl rfl (Nat.le_of_ble_eq_true rfl) hl.1 dX10_difference_17) (fun H locs hW _ => ?_)
    refine r_brn h (lv_if_ne (tgt := 25) hx hb dX10_difference_20 (by decide)) (fun h => ?_) (fun h => ?_)
    · refine lv_aload_n hx hb dX10_difference_25 rfl (lv_at hl 0 rfl) ?_
      refine r_gR C hW h fl_X10_20 (by decide) dX10_difference_26 (fun b8 h => ?_)
      refine lv_sipush (v := 200) hx hb dX10_difference_29 (by decide) ?_
      refine lv_iload_n hx hb dX10_difference_32 rfl (lv_at hl 1 rfl) ?_
      refine lv_imul hx hb dX10_difference_33 ?_
      refine lv_iconst (v := 1) hx hb dX10_difference_34 (by decide) ?_
      refine lv_iadd hx hb dX10_difference_35 ?_
      refine r_iald C hW h dX10_difference_36 (fun v9 h => ?_)
      refine lv_istore_n (lv' := [(3, .int v9), (0, .ref a), (1, .int x1), (2, .int x2)]) hx hb dX10_difference_37 rfl hl (by decide) rfl (fun ls hl => ?_)
      refine lv_aload_n hx hb dX10_difference_38 rfl (lv_at hl 1 rfl) ?_
      refine r_gR C hW h fl_X10_20 (by decide) dX10_difference_39 (fun b10 h => ?_)
      refine lv_sipush (v := 401) hx hb dX10_difference_42 (by decide) ?_
      refine r_iald C hW h dX10_difference_45 (fun v11 h => ?_)
      refine lv_istore (lv' := [(4, .int v11), (3, .int v9), (0, .ref a), (1, .int x1), (2, .int x2)]) hx hb dX10_difference_46 hl (by decide) rfl (fun ls hl => ?_)
      refine lv_aload_n hx hb dX10_difference_48 rfl (lv_at hl 2 rfl) ?_
      refine r_gR C hW h fl_X10_20 (by decide) dX10_difference_49 (fun b12 h => ?_)
      refine lv_sipush (v := 200) hx hb dX10_difference_52 (by decide) ?_
      refine lv_iload_n hx hb dX10_difference_55 rfl (lv_at hl 3 rfl) ?_
      refine lv_imul hx hb dX10_difference_56 ?_
      refine lv_iconst (v := 0) hx hb dX10_difference_57 (by decide) ?_
      refine lv_iadd hx hb dX10_difference_58 ?_
      refine r_iald C hW h dX10_difference_59 (fun v13 h => ?_)
      refine lv_istore (lv' := [(5, .int v13), (4, .int v11), (3, .int v9), (0, .ref a), (1, .int x1), (2, .int x2)]) hx hb dX10_difference_60 hl (by decide) rfl (fun ls hl => ?_)
      refine lv_aload_n hx hb dX10_difference_62 rfl (lv_at hl 3 rfl) ?_
      refine r_gR C hW h fl_X10_20 (by decide) dX10_difference_63 (fun b14 h => ?_)
      refine lv_sipush (v := 400) hx hb dX10_difference_66 (by decide) ?_
      refine r_iald C hW h dX10_difference_69 (fun v15 h => ?_)
      refine lv_istore (lv' := [(6, .int v15), (5, .int v13), (4, .int v11), (3, .int v9), (0, .ref a), (1, .int x1), (2, .int x2)]) hx hb dX10_difference_70 hl (by decide) rfl (fun ls hl => ?_)
      refine lv_iload_n hx hb dX10_difference_72 rfl (lv_at hl 6 rfl) ?_
      refine r_case h (fun ec h => ?_) (fun nc0 h => ?_)
      · refine lv_tableIn (tgt := 112) (off := 39) hx hb dX10_difference_73 (by rw [ec]; decide) (by rw [ec]; decide) (by rw [ec]; rfl) (by decide) ?_
        refine lv_aload_n hx hb dX10_difference_112 rfl (lv_at hl 4 rfl) ?_
        refine lv_iload_n hx hb dX10_difference_113 rfl (lv_at hl 5 rfl) ?_
        obtain ⟨v17, h16, h⟩ := bnd_inv h
        refine r_cI hW (run_V (rest := []) C hW (t_X10_changedCells h16) mk_X10_changedCells vk_X10_409 (kd_X10_changedCells h16) rfl rfl (by decide) ⟨Nat.le_of_ble_eq_true rfl, Nat.le_of_ble_eq_true rfl⟩ ⟨Nat.zero_le _, Nat.zero_le _⟩ rfl rfl (Nat.le_of_ble_eq_true rfl) hl.1 dX10_difference_114) (fun H locs hW _ => ?_)
        exact r_iret C hW (Option.some.inj h).symm rfl dX10_difference_117
      refine r_case h (fun ec h => ?_) (fun nc1 h => ?_)
      · refine lv_tableIn (tgt := 118) (off := 45) hx hb dX10_difference_73 (by rw [ec]; decide) (by rw [ec]; decide) (by rw [ec]; rfl) (by decide) ?_
        refine lv_iload_n hx hb dX10_difference_118 rfl (lv_at hl 3 rfl) ?_
        refine lv_iload hx hb dX10_difference_119 (lv_at hl 2 rfl) ?_
        refine lv_iconst (v := (-1)) hx hb dX10_difference_121 (by decide) ?_
        refine lv_ixor hx hb dX10_difference_122 ?_
        refine lv_iand hx hb dX10_difference_123 ?_
        obtain ⟨v19, h18, h⟩ := bnd_inv h
        refine r_cI hW (run_S (rest := []) C hW (t_X10_bits h18) mk_X10_bits sk_X10_240 ⟨Nat.le_of_ble_eq_true rfl, Nat.le_of_ble_eq_true rfl⟩ ⟨Nat.zero_le _, Nat.zero_le _⟩ rfl rfl (Nat.le_of_ble_eq_true rfl) hl.1 dX10_difference_124) (fun H locs hW _ => ?_)
        exact r_iret C hW (Option.some.inj h).symm rfl dX10_difference_127
      refine r_case h (fun ec h => ?_) (fun nc2 h => ?_)
      · refine lv_tableIn (tgt := 128) (off := 55) hx hb dX10_difference_73 (by rw [ec]; decide) (by rw [ec]; decide) (by rw [ec]; rfl) (by decide) ?_
        refine lv_iload hx hb dX10_difference_128 (lv_at hl 2 rfl) ?_
        refine lv_iload_n hx hb dX10_difference_130 rfl (lv_at hl 3 rfl) ?_
        refine lv_iconst (v := (-1)) hx hb dX10_difference_131 (by decide) ?_
        refine lv_ixor hx hb dX10_difference_132 ?_
        refine lv_iand hx hb dX10_difference_133 ?_
        obtain ⟨v21, h20, h⟩ := bnd_inv h
        refine r_cI hW (run_S (rest := []) C hW (t_X10_bits h20) mk_X10_bits sk_X10_240 ⟨Nat.le_of_ble_eq_true rfl, Nat.le_of_ble_eq_true rfl⟩ ⟨Nat.zero_le _, Nat.zero_le _⟩ rfl rfl (Nat.le_of_ble_eq_true rfl) hl.1 dX10_difference_134) (fun H locs hW _ => ?_)
        exact r_iret C hW (Option.some.inj h).symm rfl dX10_difference_137
      refine r_case h (fun ec h => ?_) (fun nc3 h => ?_)
      · refine lv_tableIn (tgt := 138) (off := 65) hx hb dX10_difference_73 (by rw [ec]; decide) (by rw [ec]; decide) (by rw [ec]; rfl) (by decide) ?_
        refine lv_iload hx hb dX10_difference_138 (lv_at hl 1 rfl) ?_
        refine lv_iload hx hb dX10_difference_140 (lv_at hl 0 rfl) ?_
        refine lv_iconst (v := (-1)) hx hb dX10_difference_142 (by decide) ?_
        refine lv_ixor hx hb dX10_difference_143 ?_
        refine lv_iand hx hb dX10_difference_144 ?_
        obtain ⟨v23, h22, h⟩ := bnd_inv h
        refine r_cI hW (run_S (rest := []) C hW (t_X10_bits h22) mk_X10_bits sk_X10_240 ⟨Nat.le_of_ble_eq_true rfl, Nat.le_of_ble_eq_true rfl⟩ ⟨Nat.zero_le _, Nat.zero_le _⟩ rfl rfl (Nat.le_of_ble_eq_true rfl) hl.1 dX10_difference_145) (fun H locs hW _ => ?_)
        exact r_iret C hW (Option.some.inj h).symm rfl dX10_difference_148
      refine r_case h (fun ec h => ?_) (fun nc4 h => ?_)
      · refine lv_tableIn (tgt := 149) (off := 76) hx hb dX10_difference_73 (by rw [ec]; decide) (by rw [ec]; decide) (by rw [ec]; rfl) (by decide) ?_
        refine lv_iload hx hb dX10_difference_149 (lv_at hl 0 rfl) ?_
        refine lv_iload hx hb dX10_difference_151 (lv_at hl 1 rfl) ?_
        refine lv_iconst (v := (-1)) hx hb dX10_difference_153 (by decide) ?_
        refine lv_ixor hx hb dX10_difference_154 ?_
        refine lv_iand hx hb dX10_difference_155 ?_
        obtain ⟨v25, h24, h⟩ := bnd_inv h
        refine r_cI hW (run_S (rest := []) C hW (t_X10_bits h24) mk_X10_bits sk_X10_240 ⟨Nat.le_of_ble_eq_true rfl, Nat.le_of_ble_eq_true rfl⟩ ⟨Nat.zero_le _, Nat.zero_le _⟩ rfl rfl (Nat.le_of_ble_eq_true rfl) hl.1 dX10_difference_156) (fun H locs hW _ => ?_)
        exact r_iret C hW (Option.some.inj h).symm rfl dX10_difference_159
      refine r_case h (fun ec h => ?_) (fun nc5 h => ?_)
      · refine lv_tableIn (tgt := 160) (off := 87) hx hb dX10_difference_73 (by rw [ec]; decide) (by rw [ec]; decide) (by rw [ec]; rfl) (by decide) ?_
        refine lv_aload_n hx hb dX10_difference_160 rfl (lv_at hl 4 rfl) ?_
        refine lv_iload_n hx hb dX10_difference_161 rfl (lv_at hl 5 rfl) ?_
        refine lv_iconst (v := 2) hx hb dX10_difference_162 (by decide) ?_
        obtain ⟨v27, h26, h⟩ := bnd_inv h
        refine r_cI hW (run_V (rest := []) C hW (t_X10_changedColumns h26) mk_X10_changedColumns vk_X10_412 (kd_X10_changedColumns h26) rfl rfl (by decide) ⟨Nat.le_of_ble_eq_true rfl, Nat.le_of_ble_eq_true rfl⟩ ⟨Nat.zero_le _, Nat.zero_le _⟩ rfl rfl (Nat.le_of_ble_eq_true rfl) hl.1 dX10_difference_163) (fun H locs hW _ => ?_)
        exact r_iret C hW (Option.some.inj h).symm rfl dX10_difference_166
      refine lv_tableOut (tgt := 167) hx hb dX10_difference_73 (sw_out (lo := 0) (n := 5) (sw_s nc5 (sw_s nc4 (sw_s nc3 (sw_s nc2 (sw_s nc1 (sw_0 nc0)))))) (by decide)) (by decide) ?_
      refine lv_aload_n hx hb dX10_difference_167 rfl (lv_at hl 4 rfl) ?_
      refine lv_iload_n hx hb dX10_difference_168 rfl (lv_at hl 5 rfl) ?_
      refine lv_bipush (v := 11) hx hb dX10_difference_169 (by decide) ?_
      obtain ⟨v29, h28, h⟩ := bnd_inv h
      refine r_cI hW (run_V (rest := []) C hW (t_X10_changedColumns h28) mk_X10_changedColumns vk_X10_412 (kd_X10_changedColumns h28) rfl rfl (by decide) ⟨Nat.le_of_ble_eq_true rfl, Nat.le_of_ble_eq_true rfl⟩ ⟨Nat.zero_le _, Nat.zero_le _⟩ rfl rfl (Nat.le_of_ble_eq_true rfl) hl.1 dX10_difference_171) (fun H locs hW _ => ?_)
      exact r_iret C hW (Option.some.inj h).symm rfl dX10_difference_174
    · refine lv_iconst (v := 0) hx hb dX10_difference_23 (by decide) ?_
      exact r_iret C hW (Option.some.inj h).symm rfl dX10_difference_24
set_option maxRecDepth 20000 in
set_option maxHeartbeats 2000000 in
theorem b_X10_along_119 {a : Nat} {x2 : Int32} {x3 : Int32} (C : Cx g RX10 cX10_along 5 (some .int) p s m args meth c) {r : (Int32 × Mx)} {X : Mx} (hW : Wd g σ X s H locs) (hl : lv_has ls 5 [(0, .ref a), (2, .int x2), (3, .int x3)]) (h : f_X10_along_119 σ a x2 x3 X = some r) : W p l e (rmZ 7 169) s m args below meth c H locs 0 0 (QI g σ below args s r) (F0 m 119 ls []) := by
  have hx := C.x
  have hb := C.b
  unfold f_X10_along_119 at h
  refine lv_iload_n hx hb dX10_along_119 rfl (lv_at hl 1 rfl) ?_
  refine r_brn h (lv_if_ne (tgt := 127) hx hb dX10_along_120 (by decide)) (fun h => ?_) (fun h => ?_)
  · refine lv_iload_n hx hb dX10_along_127 rfl (lv_at hl 1 rfl) ?_
    refine lv_iconst (v := 1) hx hb dX10_along_128 (by decide) ?_
    refine r_brn h (lv_icmp_ne (tgt := 139) hx hb dX10_along_129 (by decide)) (fun h => ?_) (fun h => ?_)
    · refine lv_aload_n hx hb dX10_along_139 rfl (lv_at hl 0 rfl) ?_
      refine r_gI C hW h fl_X10_323 (by decide) dX10_along_140 (fun v1 h => ?_)
      obtain ⟨v3, h2, h⟩ := bnd_inv h
      refine r_cI hW (run_S (rest := []) C hW (t_X10_bits h2) mk_X10_bits sk_X10_240 ⟨Nat.le_of_ble_eq_true rfl, Nat.le_of_ble_eq_true rfl⟩ ⟨Nat.zero_le _, Nat.zero_le _⟩ rfl rfl (Nat.le_of_ble_eq_true rfl) hl.1 dX10_along_143) (fun H locs hW _ => ?_)
      exact r_iret C hW (Option.some.inj h).symm rfl dX10_along_146
    · refine lv_aload_n hx hb dX10_along_132 rfl (lv_at hl 0 rfl) ?_
      refine r_gI C hW h fl_X10_282 (by decide) dX10_along_133 (fun v4 h => ?_)
      refine lv_goto (tgt := 146) hx hb dX10_along_136 (by decide) ?_
      exact r_iret C hW (Option.some.inj h).symm rfl dX10_along_146
  · refine lv_iload_n hx hb dX10_along_123 rfl (lv_at hl 2 rfl) ?_
    refine lv_goto (tgt := 146) hx hb dX10_along_124 (by decide) ?_
    exact r_iret C hW (Option.some.inj h).symm rfl dX10_along_146
set_option maxRecDepth 20000 in
set_option maxHeartbeats 2000000 in
theorem b_X10_along_43 {a : Nat} {x1 : Int32} {x2 : Int32} (C : Cx g RX10 cX10_along 5 (some .int) p s m args meth c) {r : (Int32 × Mx)} : ∀ (n : Nat) {X : Mx} {x3 : Int32} {H : Heap} {locs : List Loc} {ls : Array Slot} (hW : Wd g σ X s H locs) (hl : lv_has ls 5 [(0, .ref a), (1, .int x1), (2, .int x2), (3, .int x3)]) (h : f_X10_along_43 σ a x1 x2 n X x3 = some r), W p l e (rmZ 7 169) s m args below meth c H locs 0 0 (QI g σ below args s r) (F0 m 43 ls []) := by
  have hx := C.x
  have hb := C.b
  intro n
  induction n with
  | zero =>
    intro X x3 H locs ls hW hl h
    cases (show none = some r from h)
  | succ n ih =>
    intro X x3 H locs ls hW hl h
    rw [f_X10_along_43] at h
    refine lv_aload_n hx hb dX10_along_43 rfl (lv_at hl 0 rfl) ?_
    refine r_gI C hW h fl_X10_282 (by decide) dX10_along_44 (fun v1 h => ?_)
    refine r_br h (lv_if_le (tgt := 119) hx hb dX10_along_47 (by decide)) (fun h => ?_) (fun h => ?_)
    · exact b_X10_along_119 C hW (lv_sub hl [0, 2, 3] rfl) h
    · refine lv_iload_n hx hb dX10_along_50 rfl (lv_at hl 3 rfl) ?_
      refine lv_sipush (v := 200) hx hb dX10_along_51 (by decide) ?_
      refine r_br h (lv_icmp_ge (tgt := 119) hx hb dX10_along_54 (by decide)) (fun h => ?_) (fun h => ?_)
      · exact b_X10_along_119 C hW (lv_sub hl [0, 2, 3] rfl) h
      · refine lv_aload_n hx hb dX10_along_57 rfl (lv_at hl 0 rfl) ?_
        refine r_gR C hW h fl_X10_41 (by decide) dX10_along_58 (fun b2 h => ?_)
        refine lv_iconst (v := 0) hx hb dX10_along_61 (by decide) ?_
        refine r_iald C hW h dX10_along_62 (fun v3 h => ?_)
        refine r_cI hW (run_S (rest := []) C hW (t_X10_choicesOf (X := X)) mk_X10_choicesOf sk_X10_384 ⟨Nat.le_of_ble_eq_true rfl, Nat.le_of_ble_eq_true rfl⟩ ⟨Nat.zero_le _, Nat.zero_le _⟩ rfl rfl (Nat.le_of_ble_eq_true rfl) hl.1 dX10_along_63) (fun H locs hW _ => ?_)
        refine lv_iconst (v := 1) hx hb dX10_along_66 (by decide) ?_
        refine lv_isub hx hb dX10_along_67 ?_
        refine lv_istore (lv' := [(4, .int ((f_X10_choicesOf v3) - 1)), (0, .ref a), (1, .int x1), (2, .int x2), (3, .int x3)]) hx hb dX10_along_68 hl (by decide) rfl (fun ls hl => ?_)
        refine lv_aload_n hx hb dX10_along_70 rfl (lv_at hl 1 rfl) ?_
        refine r_gR C hW h fl_X10_20 (by decide) dX10_along_71 (fun b4 h => ?_)
        refine lv_sipush (v := 1546) hx hb dX10_along_74 (by decide) ?_
        refine lv_aload_n hx hb dX10_along_77 rfl (lv_at hl 1 rfl) ?_
        refine r_gR C hW h fl_X10_41 (by decide) dX10_along_78 (fun b5 h => ?_)
        refine lv_iconst (v := 0) hx hb dX10_along_81 (by decide) ?_
        refine r_iald C hW h dX10_along_82 (fun v6 h => ?_)
        refine lv_aload_n hx hb dX10_along_83 rfl (lv_at hl 1 rfl) ?_
        refine r_gR C hW h fl_X10_41 (by decide) dX10_along_84 (fun b7 h => ?_)
        refine lv_iconst (v := 1) hx hb dX10_along_87 (by decide) ?_
        refine r_iald C hW h dX10_along_88 (fun v8 h => ?_)
        refine lv_aload_n hx hb dX10_along_89 rfl (lv_at hl 1 rfl) ?_
        refine r_gR C hW h fl_X10_41 (by decide) dX10_along_90 (fun b9 h => ?_)
        refine lv_iconst (v := 2) hx hb dX10_along_93 (by decide) ?_
        refine r_iald C hW h dX10_along_94 (fun v10 h => ?_)
        refine r_cI hW (run_S (rest := [.int 1546, .ref b4]) C hW (t_X10_choiceAt (X := X)) mk_X10_choiceAt sk_X10_279 ⟨Nat.le_of_ble_eq_true rfl, Nat.le_of_ble_eq_true rfl⟩ ⟨Nat.zero_le _, Nat.zero_le _⟩ rfl rfl (Nat.le_of_ble_eq_true rfl) hl.1 dX10_along_95) (fun H locs hW _ => ?_)
        refine lv_iadd hx hb dX10_along_98 ?_
        refine lv_iload_n hx hb dX10_along_99 rfl (lv_at hl 2 rfl) ?_
        refine lv_iload hx hb dX10_along_100 (lv_at hl 0 rfl) ?_
        refine r_cI hW (run_S (rest := [.int (1546 + (f_X10_choiceAt v6 v8 v10)), .ref b4]) C hW (t_X10_lesser (X := X)) mk_X10_lesser sk_X10_415 ⟨Nat.le_of_ble_eq_true rfl, Nat.le_of_ble_eq_true rfl⟩ ⟨Nat.zero_le _, Nat.zero_le _⟩ rfl rfl (Nat.le_of_ble_eq_true rfl) hl.1 dX10_along_102) (fun H locs hW _ => ?_)
        refine r_iast C hW h dX10_along_105 (fun X11 H locs h hW _ => ?_)
        refine lv_iinc (v := (x3 + 1)) (lv' := [(3, .int (x3 + 1)), (4, .int ((f_X10_choicesOf v3) - 1)), (0, .ref a), (1, .int x1), (2, .int x2)]) hx hb dX10_along_106 hl (k := 4) rfl rfl (by decide) rfl (fun ls hl => ?_)
        refine lv_aload_n hx hb dX10_along_109 rfl (lv_at hl 2 rfl) ?_
        refine lv_sipush (v := 931) hx hb dX10_along_110 (by decide) ?_
        obtain ⟨X13, h12, h⟩ := bnd_inv h
        refine r_cV hW (run_V (rest := []) C hW (t_X10_merges h12) mk_X10_merges vk_X10_354 (kd_X10_merges h12) rfl rfl (by decide) ⟨Nat.le_of_ble_eq_true rfl, Nat.le_of_ble_eq_true rfl⟩ ⟨Nat.zero_le _, Nat.zero_le _⟩ rfl rfl (Nat.le_of_ble_eq_true rfl) hl.1 dX10_along_113) (fun H locs hW _ => ?_)
        refine lv_goto (tgt := 43) hx hb dX10_along_116 (by decide) ?_
        exact ih hW (lv_sub hl [2, 3, 4, 0] rfl) h
theorem kd_X10_along {X : Mx} {r : (Int32 × Mx)} {a : Nat} {x1 : Int32} {x2 : Int32} (h : f_X10_along σ X a x1 x2 = some r) : shK σ a = 8 := (grd_inv h).1
set_option maxRecDepth 20000 in
set_option maxHeartbeats 2000000 in
theorem t_X10_along {X : Mx} {r : (Int32 × Mx)} {a : Nat} {x1 : Int32} {x2 : Int32} (h : f_X10_along σ X a x1 x2 = some r) : MtI g l yX10_along cX10_along 5 (some .int) 7 169 [.ref a, .int x1, .int x2] σ X r := by
  refine met_of mk_X10_along (Nat.le_of_ble_eq_true rfl) (fun p e s m args below meth c ls C hW hl => ?_)
  have hx := C.x
  have hb := C.b
  have hl : lv_has ls 5 [(0, .ref a), (1, .int x1), (2, .int x2)] := hl
  unfold f_X10_along at h
  obtain ⟨hk0, h⟩ := grd_inv h
  refine lv_aload_n hx hb dX10_along_0 rfl (lv_at hl 0 rfl) ?_
  refine lv_iconst (v := 0) hx hb dX10_along_1 (by decide) ?_
  refine r_pI C hW h pf_X10_65 (by decide) rfl rfl dX10_along_2 (fun X1 H locs h hW _ => ?_)
  refine lv_aload_n hx hb dX10_along_5 rfl (lv_at hl 0 rfl) ?_
  refine lv_iload_n hx hb dX10_along_6 rfl (lv_at hl 2 rfl) ?_
  refine lv_iconst (v := 2) hx hb dX10_along_7 (by decide) ?_
  obtain ⟨v4, X3, h2, h⟩ := bnd2_inv h
  refine r_cI hW (run_V (rest := []) C hW (t_X10_isWhat h2) mk_X10_isWhat vk_X10_375 (kd_X10_isWhat h2) rfl rfl (by decide) ⟨Nat.le_of_ble_eq_true rfl, Nat.le_of_ble_eq_true rfl⟩ ⟨Nat.zero_le _, Nat.zero_le _⟩ rfl rfl (Nat.le_of_ble_eq_true rfl) hl.1 dX10_along_8) (fun H locs hW _ => ?_)
  refine r_br h (lv_if_eq (tgt := 28) hx hb dX10_along_11 (by decide)) (fun h => ?_) (fun h => ?_)
  · refine lv_iconst (v := 0) hx hb dX10_along_28 (by decide) ?_
    exact r_iret C hW (Option.some.inj h).symm rfl dX10_along_29
  · refine lv_aload_n hx hb dX10_along_14 rfl (lv_at hl 0 rfl) ?_
    refine lv_iload_n hx hb dX10_along_15 rfl (lv_at hl 1 rfl) ?_
    refine lv_iconst (v := 0) hx hb dX10_along_16 (by decide) ?_
    refine lv_iconst (v := 2) hx hb dX10_along_17 (by decide) ?_
    refine r_cI hW (run_S (rest := [.ref a]) C hW (t_X10_within (X := X3)) mk_X10_within sk_X10_231 ⟨Nat.le_of_ble_eq_true rfl, Nat.le_of_ble_eq_true rfl⟩ ⟨Nat.zero_le _, Nat.zero_le _⟩ rfl rfl (Nat.le_of_ble_eq_true rfl) hl.1 dX10_along_18) (fun H locs hW _ => ?_)
    refine lv_iconst (v := 2) hx hb dX10_along_21 (by decide) ?_
    obtain ⟨v7, X6, h5, h⟩ := bnd2_inv h
    refine r_cI hW (run_V (rest := []) C hW (t_X10_right h5) mk_X10_right vk_X10_214 (kd_X10_right h5) rfl rfl (by decide) ⟨Nat.le_of_ble_eq_true rfl, Nat.le_of_ble_eq_true rfl⟩ ⟨Nat.zero_le _, Nat.zero_le _⟩ rfl rfl (Nat.le_of_ble_eq_true rfl) hl.1 dX10_along_22) (fun H locs hW _ => ?_)
    refine r_brn h (lv_if_ne (tgt := 30) hx hb dX10_along_25 (by decide)) (fun h => ?_) (fun h => ?_)
    · refine lv_aload_n hx hb dX10_along_30 rfl (lv_at hl 0 rfl) ?_
      obtain ⟨X9, h8, h⟩ := bnd_inv h
      refine r_cV hW (run_V (rest := []) C hW (t_X10_tries h8) mk_X10_tries vk_X10_267 (kd_X10_tries h8) rfl rfl (by decide) ⟨Nat.le_of_ble_eq_true rfl, Nat.le_of_ble_eq_true rfl⟩ ⟨Nat.zero_le _, Nat.zero_le _⟩ rfl rfl (Nat.le_of_ble_eq_true rfl) hl.1 dX10_along_31) (fun H locs hW _ => ?_)
      refine lv_iconst (v := 0) hx hb dX10_along_34 (by decide) ?_
      refine lv_istore_n (lv' := [(3, .int 0), (0, .ref a), (1, .int x1), (2, .int x2)]) hx hb dX10_along_35 rfl hl (by decide) rfl (fun ls hl => ?_)
      refine lv_aload_n hx hb dX10_along_36 rfl (lv_at hl 1 rfl) ?_
      refine lv_sipush (v := 931) hx hb dX10_along_37 (by decide) ?_
      obtain ⟨X11, h10, h⟩ := bnd_inv h
      refine r_cV hW (run_V (rest := []) C hW (t_X10_merges h10) mk_X10_merges vk_X10_354 (kd_X10_merges h10) rfl rfl (by decide) ⟨Nat.le_of_ble_eq_true rfl, Nat.le_of_ble_eq_true rfl⟩ ⟨Nat.zero_le _, Nat.zero_le _⟩ rfl rfl (Nat.le_of_ble_eq_true rfl) hl.1 dX10_along_40) (fun H locs hW _ => ?_)
      exact b_X10_along_43 C FU hW (lv_sub hl [1, 2, 3, 0] rfl) h
    · refine lv_iconst (v := 0) hx hb dX10_along_28 (by decide) ?_
      exact r_iret C hW (Option.some.inj h).symm rfl dX10_along_29
set_option maxRecDepth 20000 in
set_option maxHeartbeats 2000000 in
theorem b_X10_laysAlone_78 {k9 : Mx → Int32 → Int32 → Option (Int32 × Mx)} {k18 : Mx → Int32 → Int32 → Option (Int32 × Mx)} {k31 : Mx → Int32 → Int32 → Option (Int32 × Mx)} {a : Nat} {x1 : Int32} {x2 : Int32} {x3 : Int32} {x4 : Int32} {x6 : Int32} (C : Cx g RX10 cX10_laysAlone 7 (some .int) p s m args meth c) {r : (Int32 × Mx)} {X : Mx} {y0 : Int32} (hk9 : ∀ {H' : Heap} {locs' : List Loc} {ls' : Array Slot} {X' : Mx} {x2' : Int32} {x3' : Int32}, Wd g σ X' s H' locs' → lv_has ls' 7 [(0, .ref a), (1, .int x1), (2, .int x2'), (3, .int x3')] → k9 X' x2' x3' = some r → W p l e (rmZ 7 169) s m args below meth c H' locs' 0 0 (QI g σ below args s r) (F0 m 9 ls' [])) (hk18 : ∀ {H' : Heap} {locs' : List Loc} {ls' : Array Slot} {X' : Mx} {x2' : Int32} {x4' : Int32}, Wd g σ X' s H' locs' → lv_has ls' 7 [(0, .ref a), (1, .int x1), (2, .int x2'), (3, .int x3), (4, .int x4')] → k18 X' x2' x4' = some r → W p l e (rmZ 7 169) s m args below meth c H' locs' 0 0 (QI g σ below args s r) (F0 m 18 ls' [])) (hk31 : ∀ {H' : Heap} {locs' : List Loc} {ls' : Array Slot} {X' : Mx} {x5' : Int32} {x6' : Int32}, Wd g σ X' s H' locs' → lv_has ls' 7 [(0, .ref a), (1, .int x1), (2, .int x2), (3, .int x3), (4, .int x4), (5, .int x5'), (6, .int x6')] → k31 X' x5' x6' = some r → W p l e (rmZ 7 169) s m args below meth c H' locs' 0 0 (QI g σ below args s r) (F0 m 31 ls' [])) (hW : Wd g σ X s H locs) (hl : lv_has ls 7 [(0, .ref a), (1, .int x1), (2, .int x2), (3, .int x3), (4, .int x4), (6, .int x6)]) (h : f_X10_laysAlone_78 k9 k18 k31 σ a x1 x2 x3 x4 x6 X y0 = some r) : W p l e (rmZ 7 169) s m args below meth c H locs 0 0 (QI g σ below args s r) (F0 m 78 ls [.int y0]) := by
  have hx := C.x
  have hb := C.b
  unfold f_X10_laysAlone_78 at h
  refine lv_istore (lv' := [(5, .int y0), (0, .ref a), (1, .int x1), (2, .int x2), (3, .int x3), (4, .int x4), (6, .int x6)]) hx hb dX10_laysAlone_78 hl (by decide) rfl (fun ls hl => ?_)
  refine lv_iinc (v := (x6 + 1)) (lv' := [(6, .int (x6 + 1)), (5, .int y0), (0, .ref a), (1, .int x1), (2, .int x2), (3, .int x3), (4, .int x4)]) hx hb dX10_laysAlone_80 hl (k := 6) rfl rfl (by decide) rfl (fun ls hl => ?_)
  refine lv_goto (tgt := 31) hx hb dX10_laysAlone_83 (by decide) ?_
  exact hk31 hW (lv_sub hl [2, 3, 4, 5, 6, 1, 0] rfl) h
set_option maxRecDepth 20000 in
set_option maxHeartbeats 2000000 in
theorem b_X10_laysAlone_73 {k9 : Mx → Int32 → Int32 → Option (Int32 × Mx)} {k18 : Mx → Int32 → Int32 → Option (Int32 × Mx)} {k31 : Mx → Int32 → Int32 → Option (Int32 × Mx)} {a : Nat} {x1 : Int32} {x2 : Int32} {x3 : Int32} {x4 : Int32} {x6 : Int32} (C : Cx g RX10 cX10_laysAlone 7 (some .int) p s m args meth c) {r : (Int32 × Mx)} {X : Mx} (hk9 : ∀ {H' : Heap} {locs' : List Loc} {ls' : Array Slot} {X' : Mx} {x2' : Int32} {x3' : Int32}, Wd g σ X' s H' locs' → lv_has ls' 7 [(0, .ref a), (1, .int x1), (2, .int x2'), (3, .int x3')] → k9 X' x2' x3' = some r → W p l e (rmZ 7 169) s m args below meth c H' locs' 0 0 (QI g σ below args s r) (F0 m 9 ls' [])) (hk18 : ∀ {H' : Heap} {locs' : List Loc} {ls' : Array Slot} {X' : Mx} {x2' : Int32} {x4' : Int32}, Wd g σ X' s H' locs' → lv_has ls' 7 [(0, .ref a), (1, .int x1), (2, .int x2'), (3, .int x3), (4, .int x4')] → k18 X' x2' x4' = some r → W p l e (rmZ 7 169) s m args below meth c H' locs' 0 0 (QI g σ below args s r) (F0 m 18 ls' [])) (hk31 : ∀ {H' : Heap} {locs' : List Loc} {ls' : Array Slot} {X' : Mx} {x5' : Int32} {x6' : Int32}, Wd g σ X' s H' locs' → lv_has ls' 7 [(0, .ref a), (1, .int x1), (2, .int x2), (3, .int x3), (4, .int x4), (5, .int x5'), (6, .int x6')] → k31 X' x5' x6' = some r → W p l e (rmZ 7 169) s m args below meth c H' locs' 0 0 (QI g σ below args s r) (F0 m 31 ls' [])) (hW : Wd g σ X s H locs) (hl : lv_has ls 7 [(0, .ref a), (1, .int x1), (2, .int x2), (3, .int x3), (4, .int x4), (6, .int x6)]) (h : f_X10_laysAlone_73 k9 k18 k31 σ a x1 x2 x3 x4 x6 X = some r) : W p l e (rmZ 7 169) s m args below meth c H locs 0 0 (QI g σ below args s r) (F0 m 73 ls []) := by
  have hx := C.x
  have hb := C.b
  unfold f_X10_laysAlone_73 at h
  refine lv_iconst (v := 1) hx hb dX10_laysAlone_73 (by decide) ?_
  refine lv_goto (tgt := 78) hx hb dX10_laysAlone_74 (by decide) ?_
  exact b_X10_laysAlone_78 C hk9 hk18 hk31 hW (lv_sub hl [0, 1, 2, 3, 4, 5] rfl) h
set_option maxRecDepth 20000 in
set_option maxHeartbeats 2000000 in
theorem b_X10_laysAlone_77 {k9 : Mx → Int32 → Int32 → Option (Int32 × Mx)} {k18 : Mx → Int32 → Int32 → Option (Int32 × Mx)} {k31 : Mx → Int32 → Int32 → Option (Int32 × Mx)} {a : Nat} {x1 : Int32} {x2 : Int32} {x3 : Int32} {x4 : Int32} {x6 : Int32} (C : Cx g RX10 cX10_laysAlone 7 (some .int) p s m args meth c) {r : (Int32 × Mx)} {X : Mx} (hk9 : ∀ {H' : Heap} {locs' : List Loc} {ls' : Array Slot} {X' : Mx} {x2' : Int32} {x3' : Int32}, Wd g σ X' s H' locs' → lv_has ls' 7 [(0, .ref a), (1, .int x1), (2, .int x2'), (3, .int x3')] → k9 X' x2' x3' = some r → W p l e (rmZ 7 169) s m args below meth c H' locs' 0 0 (QI g σ below args s r) (F0 m 9 ls' [])) (hk18 : ∀ {H' : Heap} {locs' : List Loc} {ls' : Array Slot} {X' : Mx} {x2' : Int32} {x4' : Int32}, Wd g σ X' s H' locs' → lv_has ls' 7 [(0, .ref a), (1, .int x1), (2, .int x2'), (3, .int x3), (4, .int x4')] → k18 X' x2' x4' = some r → W p l e (rmZ 7 169) s m args below meth c H' locs' 0 0 (QI g σ below args s r) (F0 m 18 ls' [])) (hk31 : ∀ {H' : Heap} {locs' : List Loc} {ls' : Array Slot} {X' : Mx} {x5' : Int32} {x6' : Int32}, Wd g σ X' s H' locs' → lv_has ls' 7 [(0, .ref a), (1, .int x1), (2, .int x2), (3, .int x3), (4, .int x4), (5, .int x5'), (6, .int x6')] → k31 X' x5' x6' = some r → W p l e (rmZ 7 169) s m args below meth c H' locs' 0 0 (QI g σ below args s r) (F0 m 31 ls' [])) (hW : Wd g σ X s H locs) (hl : lv_has ls 7 [(0, .ref a), (1, .int x1), (2, .int x2), (3, .int x3), (4, .int x4), (6, .int x6)]) (h : f_X10_laysAlone_77 k9 k18 k31 σ a x1 x2 x3 x4 x6 X = some r) : W p l e (rmZ 7 169) s m args below meth c H locs 0 0 (QI g σ below args s r) (F0 m 77 ls []) := by
  have hx := C.x
  have hb := C.b
  unfold f_X10_laysAlone_77 at h
  refine lv_iconst (v := 0) hx hb dX10_laysAlone_77 (by decide) ?_
  exact b_X10_laysAlone_78 C hk9 hk18 hk31 hW (lv_sub hl [0, 1, 2, 3, 4, 5] rfl) h
set_option maxRecDepth 20000 in
set_option maxHeartbeats 2000000 in
theorem b_X10_laysAlone_139 {k9 : Mx → Int32 → Int32 → Option (Int32 × Mx)} {k18 : Mx → Int32 → Int32 → Option (Int32 × Mx)} {a : Nat} {x1 : Int32} {x2 : Int32} {x3 : Int32} {x4 : Int32} (C : Cx g RX10 cX10_laysAlone 7 (some .int) p s m args meth c) {r : (Int32 × Mx)} {X : Mx} (hk9 : ∀ {H' : Heap} {locs' : List Loc} {ls' : Array Slot} {X' : Mx} {x2' : Int32} {x3' : Int32}, Wd g σ X' s H' locs' → lv_has ls' 7 [(0, .ref a), (1, .int x1), (2, .int x2'), (3, .int x3')] → k9 X' x2' x3' = some r → W p l e (rmZ 7 169) s m args below meth c H' locs' 0 0 (QI g σ below args s r) (F0 m 9 ls' [])) (hk18 : ∀ {H' : Heap} {locs' : List Loc} {ls' : Array Slot} {X' : Mx} {x2' : Int32} {x4' : Int32}, Wd g σ X' s H' locs' → lv_has ls' 7 [(0, .ref a), (1, .int x1), (2, .int x2'), (3, .int x3), (4, .int x4')] → k18 X' x2' x4' = some r → W p l e (rmZ 7 169) s m args below meth c H' locs' 0 0 (QI g σ below args s r) (F0 m 18 ls' [])) (hW : Wd g σ X s H locs) (hl : lv_has ls 7 [(0, .ref a), (1, .int x1), (2, .int x2), (3, .int x3), (4, .int x4)]) (h : f_X10_laysAlone_139 k9 k18 σ a x1 x2 x3 x4 X = some r) : W p l e (rmZ 7 169) s m args below meth c H locs 0 0 (QI g σ below args s r) (F0 m 139 ls []) := by
  have hx := C.x
  have hb := C.b
  unfold f_X10_laysAlone_139 at h
  refine lv_iinc (v := (x4 + 1)) (lv' := [(4, .int (x4 + 1)), (0, .ref a), (1, .int x1), (2, .int x2), (3, .int x3)]) hx hb dX10_laysAlone_139 hl (k := 4) rfl rfl (by decide) rfl (fun ls hl => ?_)
  refine lv_goto (tgt := 18) hx hb dX10_laysAlone_142 (by decide) ?_
  exact hk18 hW (lv_sub hl [1, 2, 3, 4, 0] rfl) h
set_option maxRecDepth 20000 in
set_option maxHeartbeats 2000000 in
theorem b_X10_laysAlone_31 {k9 : Mx → Int32 → Int32 → Option (Int32 × Mx)} {k18 : Mx → Int32 → Int32 → Option (Int32 × Mx)} {a : Nat} {x1 : Int32} {x2 : Int32} {x3 : Int32} {x4 : Int32} (C : Cx g RX10 cX10_laysAlone 7 (some .int) p s m args meth c) {r : (Int32 × Mx)} (hk9 : ∀ {H' : Heap} {locs' : List Loc} {ls' : Array Slot} {X' : Mx} {x2' : Int32} {x3' : Int32}, Wd g σ X' s H' locs' → lv_has ls' 7 [(0, .ref a), (1, .int x1), (2, .int x2'), (3, .int x3')] → k9 X' x2' x3' = some r → W p l e (rmZ 7 169) s m args below meth c H' locs' 0 0 (QI g σ below args s r) (F0 m 9 ls' [])) (hk18 : ∀ {H' : Heap} {locs' : List Loc} {ls' : Array Slot} {X' : Mx} {x2' : Int32} {x4' : Int32}, Wd g σ X' s H' locs' → lv_has ls' 7 [(0, .ref a), (1, .int x1), (2, .int x2'), (3, .int x3), (4, .int x4')] → k18 X' x2' x4' = some r → W p l e (rmZ 7 169) s m args below meth c H' locs' 0 0 (QI g σ below args s r) (F0 m 18 ls' [])) : ∀ (n : Nat) {X : Mx} {x5 : Int32} {x6 : Int32} {H : Heap} {locs : List Loc} {ls : Array Slot} (hW : Wd g σ X s H locs) (hl : lv_has ls 7 [(0, .ref a), (1, .int x1), (2, .int x2), (3, .int x3), (4, .int x4), (5, .int x5), (6, .int x6)]) (h : f_X10_laysAlone_31 k9 k18 σ a x1 x2 x3 x4 n X x5 x6 = some r), W p l e (rmZ 7 169) s m args below meth c H locs 0 0 (QI g σ below args s r) (F0 m 31 ls []) := by
  have hx := C.x
  have hb := C.b
  intro n
  induction n with
  | zero =>
    intro X x5 x6 H locs ls hW hl h
    cases (show none = some r from h)
  | succ n ih =>
    intro X x5 x6 H locs ls hW hl h
    rw [f_X10_laysAlone_31] at h
    refine lv_iload hx hb dX10_laysAlone_31 (lv_at hl 6 rfl) ?_
    refine lv_bipush (v := 9) hx hb dX10_laysAlone_33 (by decide) ?_
    refine r_br h (lv_icmp_ge (tgt := 86) hx hb dX10_laysAlone_35 (by decide)) (fun h => ?_) (fun h => ?_)
    · refine lv_iload_n hx hb dX10_laysAlone_86 rfl (lv_at hl 2 rfl) ?_
      refine lv_bipush (v := 10) hx hb dX10_laysAlone_87 (by decide) ?_
      refine r_br h (lv_icmp_eq (tgt := 139) hx hb dX10_laysAlone_89 (by decide)) (fun h => ?_) (fun h => ?_)
      · exact b_X10_laysAlone_139 C hk9 hk18 hW (lv_sub hl [0, 1, 2, 3, 4] rfl) h
      · refine lv_iload hx hb dX10_laysAlone_92 (lv_at hl 5 rfl) ?_
        refine r_br h (lv_if_eq (tgt := 139) hx hb dX10_laysAlone_94 (by decide)) (fun h => ?_) (fun h => ?_)
        · exact b_X10_laysAlone_139 C hk9 hk18 hW (lv_sub hl [0, 1, 2, 3, 4] rfl) h
        · refine lv_aload_n hx hb dX10_laysAlone_97 rfl (lv_at hl 0 rfl) ?_
          refine r_gI C hW h fl_X10_323 (by decide) dX10_laysAlone_98 (fun v1 h => ?_)
          refine lv_iload_n hx hb dX10_laysAlone_101 rfl (lv_at hl 3 rfl) ?_
          refine lv_ishr hx hb dX10_laysAlone_102 ?_
          refine lv_iconst (v := 1) hx hb dX10_laysAlone_103 (by decide) ?_
          refine lv_iand hx hb dX10_laysAlone_104 ?_
          refine r_br h (lv_if_eq (tgt := 139) hx hb dX10_laysAlone_105 (by decide)) (fun h => ?_) (fun h => ?_)
          · exact b_X10_laysAlone_139 C hk9 hk18 hW (lv_sub hl [0, 1, 2, 3, 4] rfl) h
          · refine lv_aload_n hx hb dX10_laysAlone_108 rfl (lv_at hl 0 rfl) ?_
            refine lv_iconst (v := 0) hx hb dX10_laysAlone_109 (by decide) ?_
            refine lv_iload_n hx hb dX10_laysAlone_110 rfl (lv_at hl 1 rfl) ?_
            refine lv_iload_n hx hb dX10_laysAlone_111 rfl (lv_at hl 3 rfl) ?_
            refine lv_iload hx hb dX10_laysAlone_112 (lv_at hl 4 rfl) ?_
            obtain ⟨v3, h2, h⟩ := bnd_inv h
            refine r_cI hW (run_V (rest := []) C hW (t_X10_isChanged h2) mk_X10_isChanged vk_X10_288 (kd_X10_isChanged h2) rfl rfl (by decide) ⟨Nat.le_of_ble_eq_true rfl, Nat.le_of_ble_eq_true rfl⟩ ⟨Nat.zero_le _, Nat.zero_le _⟩ rfl rfl (Nat.le_of_ble_eq_true rfl) hl.1 dX10_laysAlone_114) (fun H locs hW _ => ?_)
            refine r_brn h (lv_if_ne (tgt := 123) hx hb dX10_laysAlone_117 (by decide)) (fun h => ?_) (fun h => ?_)
            · refine lv_aload_n hx hb dX10_laysAlone_123 rfl (lv_at hl 0 rfl) ?_
              refine r_gR C hW h fl_X10_50 (by decide) dX10_laysAlone_124 (fun b4 h => ?_)
              refine lv_iload_n hx hb dX10_laysAlone_127 rfl (lv_at hl 2 rfl) ?_
              refine lv_bipush (v := 9) hx hb dX10_laysAlone_128 (by decide) ?_
              refine lv_iload_n hx hb dX10_laysAlone_130 rfl (lv_at hl 3 rfl) ?_
              refine lv_imul hx hb dX10_laysAlone_131 ?_
              refine lv_iload hx hb dX10_laysAlone_132 (lv_at hl 4 rfl) ?_
              refine lv_iadd hx hb dX10_laysAlone_134 ?_
              refine r_iast C hW h dX10_laysAlone_135 (fun X5 H locs h hW _ => ?_)
              refine lv_iinc (v := (x2 + 1)) (lv' := [(2, .int (x2 + 1)), (0, .ref a), (1, .int x1), (3, .int x3), (4, .int x4), (5, .int x5), (6, .int x6)]) hx hb dX10_laysAlone_136 hl (k := 2) rfl rfl (by decide) rfl (fun ls hl => ?_)
              exact b_X10_laysAlone_139 C hk9 hk18 hW (lv_sub hl [1, 2, 0, 3, 4] rfl) h
            · refine lv_goto (tgt := 139) hx hb dX10_laysAlone_120 (by decide) ?_
              exact b_X10_laysAlone_139 C hk9 hk18 hW (lv_sub hl [0, 1, 2, 3, 4] rfl) h
    · refine lv_iload hx hb dX10_laysAlone_38 (lv_at hl 5 rfl) ?_
      refine r_brn h (lv_if_ne (tgt := 73) hx hb dX10_laysAlone_40 (by decide)) (fun h => ?_) (fun h => ?_)
      · exact b_X10_laysAlone_73 C hk9 hk18 (fun hW hl h => ih hW hl h) hW (lv_sub hl [0, 1, 2, 3, 4, 6] rfl) h
      · refine lv_aload_n hx hb dX10_laysAlone_43 rfl (lv_at hl 0 rfl) ?_
        refine r_gR C hW h fl_X10_38 (by decide) dX10_laysAlone_44 (fun b6 h => ?_)
        refine lv_bipush (v := 9) hx hb dX10_laysAlone_47 (by decide) ?_
        refine lv_iload_n hx hb dX10_laysAlone_49 rfl (lv_at hl 1 rfl) ?_
        refine lv_imul hx hb dX10_laysAlone_50 ?_
        refine lv_iload hx hb dX10_laysAlone_51 (lv_at hl 6 rfl) ?_
        refine lv_iadd hx hb dX10_laysAlone_53 ?_
        refine r_iald C hW h dX10_laysAlone_54 (fun v7 h => ?_)
        refine lv_iload hx hb dX10_laysAlone_55 (lv_at hl 4 rfl) ?_
        refine r_brn h (lv_icmp_ne (tgt := 77) hx hb dX10_laysAlone_57 (by decide)) (fun h => ?_) (fun h => ?_)
        · exact b_X10_laysAlone_77 C hk9 hk18 (fun hW hl h => ih hW hl h) hW (lv_sub hl [0, 1, 2, 3, 4, 6] rfl) h
        · refine lv_aload_n hx hb dX10_laysAlone_60 rfl (lv_at hl 0 rfl) ?_
          refine r_gI C hW h fl_X10_291 (by decide) dX10_laysAlone_61 (fun v8 h => ?_)
          refine lv_iload hx hb dX10_laysAlone_64 (lv_at hl 6 rfl) ?_
          refine lv_ishr hx hb dX10_laysAlone_66 ?_
          refine lv_iconst (v := 1) hx hb dX10_laysAlone_67 (by decide) ?_
          refine lv_iand hx hb dX10_laysAlone_68 ?_
          refine lv_iconst (v := 1) hx hb dX10_laysAlone_69 (by decide) ?_
          refine r_brn h (lv_icmp_ne (tgt := 77) hx hb dX10_laysAlone_70 (by decide)) (fun h => ?_) (fun h => ?_)
          · exact b_X10_laysAlone_77 C hk9 hk18 (fun hW hl h => ih hW hl h) hW (lv_sub hl [0, 1, 2, 3, 4, 6] rfl) h
          · exact b_X10_laysAlone_73 C hk9 hk18 (fun hW hl h => ih hW hl h) hW (lv_sub hl [0, 1, 2, 3, 4, 6] rfl) h
set_option maxRecDepth 20000 in
set_option maxHeartbeats 2000000 in
theorem b_X10_laysAlone_18 {k9 : Mx → Int32 → Int32 → Option (Int32 × Mx)} {a : Nat} {x1 : Int32} {x3 : Int32} (C : Cx g RX10 cX10_laysAlone 7 (some .int) p s m args meth c) {r : (Int32 × Mx)} (hk9 : ∀ {H' : Heap} {locs' : List Loc} {ls' : Array Slot} {X' : Mx} {x2' : Int32} {x3' : Int32}, Wd g σ X' s H' locs' → lv_has ls' 7 [(0, .ref a), (1, .int x1), (2, .int x2'), (3, .int x3')] → k9 X' x2' x3' = some r → W p l e (rmZ 7 169) s m args below meth c H' locs' 0 0 (QI g σ below args s r) (F0 m 9 ls' [])) : ∀ (n : Nat) {X : Mx} {x2 : Int32} {x4 : Int32} {H : Heap} {locs : List Loc} {ls : Array Slot} (hW : Wd g σ X s H locs) (hl : lv_has ls 7 [(0, .ref a), (1, .int x1), (2, .int x2), (3, .int x3), (4, .int x4)]) (h : f_X10_laysAlone_18 k9 σ a x1 x3 n X x2 x4 = some r), W p l e (rmZ 7 169) s m args below meth c H locs 0 0 (QI g σ below args s r) (F0 m 18 ls []) := by
  have hx := C.x
  have hb := C.b
  intro n
  induction n with
  | zero =>
    intro X x2 x4 H locs ls hW hl h
    cases (show none = some r from h)
  | succ n ih =>
    intro X x2 x4 H locs ls hW hl h
    rw [f_X10_laysAlone_18] at h
    refine lv_iload hx hb dX10_laysAlone_18 (lv_at hl 4 rfl) ?_
    refine lv_bipush (v := 9) hx hb dX10_laysAlone_20 (by decide) ?_
    refine r_br h (lv_icmp_ge (tgt := 145) hx hb dX10_laysAlone_22 (by decide)) (fun h => ?_) (fun h => ?_)
    · refine lv_iinc (v := (x3 + 1)) (lv' := [(3, .int (x3 + 1)), (0, .ref a), (1, .int x1), (2, .int x2), (4, .int x4)]) hx hb dX10_laysAlone_145 hl (k := 3) rfl rfl (by decide) rfl (fun ls hl => ?_)
      refine lv_goto (tgt := 9) hx hb dX10_laysAlone_148 (by decide) ?_
      exact hk9 hW (lv_sub hl [1, 2, 3, 0] rfl) h
    · refine lv_iconst (v := 0) hx hb dX10_laysAlone_25 (by decide) ?_
      refine lv_istore (lv' := [(5, .int 0), (0, .ref a), (1, .int x1), (2, .int x2), (3, .int x3), (4, .int x4)]) hx hb dX10_laysAlone_26 hl (by decide) rfl (fun ls hl => ?_)
      refine lv_iconst (v := 0) hx hb dX10_laysAlone_28 (by decide) ?_
      refine lv_istore (lv' := [(6, .int 0), (5, .int 0), (0, .ref a), (1, .int x1), (2, .int x2), (3, .int x3), (4, .int x4)]) hx hb dX10_laysAlone_29 hl (by decide) rfl (fun ls hl => ?_)
      exact b_X10_laysAlone_31 C hk9 (fun hW hl h => ih hW hl h) FU hW (lv_sub hl [2, 3, 4, 5, 6, 1, 0] rfl) h
set_option maxRecDepth 20000 in
set_option maxHeartbeats 2000000 in
theorem b_X10_laysAlone_9 {a : Nat} {x1 : Int32} (C : Cx g RX10 cX10_laysAlone 7 (some .int) p s m args meth c) {r : (Int32 × Mx)} : ∀ (n : Nat) {X : Mx} {x2 : Int32} {x3 : Int32} {H : Heap} {locs : List Loc} {ls : Array Slot} (hW : Wd g σ X s H locs) (hl : lv_has ls 7 [(0, .ref a), (1, .int x1), (2, .int x2), (3, .int x3)]) (h : f_X10_laysAlone_9 σ a x1 n X x2 x3 = some r), W p l e (rmZ 7 169) s m args below meth c H locs 0 0 (QI g σ below args s r) (F0 m 9 ls []) := by
  have hx := C.x
  have hb := C.b
  intro n
  induction n with
  | zero =>
    intro X x2 x3 H locs ls hW hl h
    cases (show none = some r from h)
  | succ n ih =>
    intro X x2 x3 H locs ls hW hl h
    rw [f_X10_laysAlone_9] at h
    refine lv_iload_n hx hb dX10_laysAlone_9 rfl (lv_at hl 3 rfl) ?_
    refine lv_bipush (v := 20) hx hb dX10_laysAlone_10 (by decide) ?_
    refine r_br h (lv_icmp_ge (tgt := 151) hx hb dX10_laysAlone_12 (by decide)) (fun h => ?_) (fun h => ?_)
    · refine lv_iload_n hx hb dX10_laysAlone_151 rfl (lv_at hl 2 rfl) ?_
      exact r_iret C hW (Option.some.inj h).symm rfl dX10_laysAlone_152
    · refine lv_iconst (v := 0) hx hb dX10_laysAlone_15 (by decide) ?_
      refine lv_istore (lv' := [(4, .int 0), (0, .ref a), (1, .int x1), (2, .int x2), (3, .int x3)]) hx hb dX10_laysAlone_16 hl (by decide) rfl (fun ls hl => ?_)
      exact b_X10_laysAlone_18 C (fun hW hl h => ih hW hl h) FU hW (lv_sub hl [1, 2, 3, 4, 0] rfl) h
theorem kd_X10_laysAlone {X : Mx} {r : (Int32 × Mx)} {a : Nat} {x1 : Int32} (h : f_X10_laysAlone σ X a x1 = some r) : shK σ a = 8 := (grd_inv h).1
set_option maxRecDepth 20000 in
set_option maxHeartbeats 2000000 in
theorem t_X10_laysAlone {X : Mx} {r : (Int32 × Mx)} {a : Nat} {x1 : Int32} (h : f_X10_laysAlone σ X a x1 = some r) : MtI g l yX10_laysAlone cX10_laysAlone 7 (some .int) 7 169 [.ref a, .int x1] σ X r := by
  refine met_of mk_X10_laysAlone (Nat.le_of_ble_eq_true rfl) (fun p e s m args below meth c ls C hW hl => ?_)
  have hx := C.x
  have hb := C.b
  have hl : lv_has ls 7 [(0, .ref a), (1, .int x1)] := hl
  unfold f_X10_laysAlone at h
  obtain ⟨hk0, h⟩ := grd_inv h
  refine lv_aload_n hx hb dX10_laysAlone_0 rfl (lv_at hl 0 rfl) ?_
  refine lv_iconst (v := 0) hx hb dX10_laysAlone_1 (by decide) ?_
  obtain ⟨X2, h1, h⟩ := bnd_inv h
  refine r_cV hW (run_V (rest := []) C hW (t_X10_merges h1) mk_X10_merges vk_X10_354 (kd_X10_merges h1) rfl rfl (by decide) ⟨Nat.le_of_ble_eq_true rfl, Nat.le_of_ble_eq_true rfl⟩ ⟨Nat.zero_le _, Nat.zero_le _⟩ rfl rfl (Nat.le_of_ble_eq_true rfl) hl.1 dX10_laysAlone_2) (fun H locs hW _ => ?_)
  refine lv_iconst (v := 0) hx hb dX10_laysAlone_5 (by decide) ?_
  refine lv_istore_n (lv' := [(2, .int 0), (0, .ref a), (1, .int x1)]) hx hb dX10_laysAlone_6 rfl hl (by decide) rfl (fun ls hl => ?_)
  refine lv_iconst (v := 0) hx hb dX10_laysAlone_7 (by decide) ?_
  refine lv_istore_n (lv' := [(3, .int 0), (2, .int 0), (0, .ref a), (1, .int x1)]) hx hb dX10_laysAlone_8 rfl hl (by decide) rfl (fun ls hl => ?_)
  exact b_X10_laysAlone_9 C FU hW (lv_sub hl [2, 3, 1, 0] rfl) h
set_option maxRecDepth 20000 in
set_option maxHeartbeats 2000000 in
theorem b_X10_alone_130 {k39 : Mx → Int32 → Int32 → Int32 → Option (Int32 × Mx)} {k54 : Mx → Int32 → Option (Int32 × Mx)} {a : Nat} {x1 : Int32} {x2 : Int32} {x3 : Int32} {x4 : Int32} {x5 : Int32} {x6 : Int32} {x7 : Int32} (C : Cx g RX10 cX10_alone 10 (some .int) p s m args meth c) {r : (Int32 × Mx)} {X : Mx} (hk39 : ∀ {H' : Heap} {locs' : List Loc} {ls' : Array Slot} {X' : Mx} {x4' : Int32} {x5' : Int32} {x6' : Int32}, Wd g σ X' s H' locs' → lv_has ls' 10 [(0, .ref a), (1, .int x1), (2, .int x2), (3, .int x3), (4, .int x4'), (5, .int x5'), (6, .int x6')] → k39 X' x4' x5' x6' = some r → W p l e (rmZ 8 195) s m args below meth c H' locs' 0 0 (QI g σ below args s r) (F0 m 39 ls' [])) (hk54 : ∀ {H' : Heap} {locs' : List Loc} {ls' : Array Slot} {X' : Mx} {x7' : Int32}, Wd g σ X' s H' locs' → lv_has ls' 10 [(0, .ref a), (1, .int x1), (2, .int x2), (3, .int x3), (4, .int x4), (5, .int x5), (6, .int x6), (7, .int x7')] → k54 X' x7' = some r → W p l e (rmZ 8 195) s m args below meth c H' locs' 0 0 (QI g σ below args s r) (F0 m 54 ls' [])) (hW : Wd g σ X s H locs) (hl : lv_has ls 10 [(0, .ref a), (1, .int x1), (2, .int x2), (3, .int x3), (4, .int x4), (5, .int x5), (6, .int x6), (7, .int x7)]) (h : f_X10_alone_130 k39 k54 σ a x1 x2 x3 x4 x5 x6 x7 X = some r) : W p l e (rmZ 8 195) s m args below meth c H locs 0 0 (QI g σ below args s r) (F0 m 130 ls []) := by
  have hx := C.x
  have hb := C.b
  unfold f_X10_alone_130 at h
  refine lv_iinc (v := (x7 + 1)) (lv' := [(7, .int (x7 + 1)), (0, .ref a), (1, .int x1), (2, .int x2), (3, .int x3), (4, .int x4), (5, .int x5), (6, .int x6)]) hx hb dX10_alone_130 hl (k := 7) rfl rfl (by decide) rfl (fun ls hl => ?_)
  refine lv_goto (tgt := 54) hx hb dX10_alone_133 (by decide) ?_
  exact hk54 hW (lv_sub hl [1, 2, 3, 4, 5, 6, 7, 0] rfl) h
set_option maxRecDepth 20000 in
set_option maxHeartbeats 2000000 in
theorem b_X10_alone_193 {k39 : Mx → Int32 → Int32 → Int32 → Option (Int32 × Mx)} {a : Nat} {x1 : Int32} {x2 : Int32} {x3 : Int32} {x4 : Int32} {x5 : Int32} {x6 : Int32} (C : Cx g RX10 cX10_alone 10 (some .int) p s m args meth c) {r : (Int32 × Mx)} {X : Mx} (hk39 : ∀ {H' : Heap} {locs' : List Loc} {ls' : Array Slot} {X' : Mx} {x4' : Int32} {x5' : Int32} {x6' : Int32}, Wd g σ X' s H' locs' → lv_has ls' 10 [(0, .ref a), (1, .int x1), (2, .int x2), (3, .int x3), (4, .int x4'), (5, .int x5'), (6, .int x6')] → k39 X' x4' x5' x6' = some r → W p l e (rmZ 8 195) s m args below meth c H' locs' 0 0 (QI g σ below args s r) (F0 m 39 ls' [])) (hW : Wd g σ X s H locs) (hl : lv_has ls 10 [(0, .ref a), (1, .int x1), (2, .int x2), (3, .int x3), (4, .int x4), (5, .int x5), (6, .int x6)]) (h : f_X10_alone_193 k39 σ a x1 x2 x3 x4 x5 x6 X = some r) : W p l e (rmZ 8 195) s m args below meth c H locs 0 0 (QI g σ below args s r) (F0 m 193 ls []) := by
  have hx := C.x
  have hb := C.b
  unfold f_X10_alone_193 at h
  refine lv_iinc (v := (x6 + 1)) (lv' := [(6, .int (x6 + 1)), (0, .ref a), (1, .int x1), (2, .int x2), (3, .int x3), (4, .int x4), (5, .int x5)]) hx hb dX10_alone_193 hl (k := 6) rfl rfl (by decide) rfl (fun ls hl => ?_)
  refine lv_goto (tgt := 39) hx hb dX10_alone_196 (by decide) ?_
  exact hk39 hW (lv_sub hl [1, 2, 3, 4, 5, 6, 0] rfl) h
set_option maxRecDepth 20000 in
set_option maxHeartbeats 2000000 in
theorem b_X10_alone_183 {k39 : Mx → Int32 → Int32 → Int32 → Option (Int32 × Mx)} {a : Nat} {x1 : Int32} {x2 : Int32} {x3 : Int32} {x6 : Int32} (C : Cx g RX10 cX10_alone 10 (some .int) p s m args meth c) {r : (Int32 × Mx)} {X : Mx} (hk39 : ∀ {H' : Heap} {locs' : List Loc} {ls' : Array Slot} {X' : Mx} {x4' : Int32} {x5' : Int32} {x6' : Int32}, Wd g σ X' s H' locs' → lv_has ls' 10 [(0, .ref a), (1, .int x1), (2, .int x2), (3, .int x3), (4, .int x4'), (5, .int x5'), (6, .int x6')] → k39 X' x4' x5' x6' = some r → W p l e (rmZ 8 195) s m args below meth c H' locs' 0 0 (QI g σ below args s r) (F0 m 39 ls' [])) (hW : Wd g σ X s H locs) (hl : lv_has ls 10 [(0, .ref a), (1, .int x1), (2, .int x2), (3, .int x3), (6, .int x6)]) (h : f_X10_alone_183 k39 σ a x1 x2 x3 x6 X = some r) : W p l e (rmZ 8 195) s m args below meth c H locs 0 0 (QI g σ below args s r) (F0 m 183 ls []) := by
  have hx := C.x
  have hb := C.b
  unfold f_X10_alone_183 at h
  refine lv_aload_n hx hb dX10_alone_183 rfl (lv_at hl 0 rfl) ?_
  refine r_gI C hW h fl_X10_282 (by decide) dX10_alone_184 (fun v1 h => ?_)
  refine lv_istore (lv' := [(4, .int v1), (0, .ref a), (1, .int x1), (2, .int x2), (3, .int x3), (6, .int x6)]) hx hb dX10_alone_187 hl (by decide) rfl (fun ls hl => ?_)
  refine lv_iload hx hb dX10_alone_189 (lv_at hl 5 rfl) ?_
  refine lv_istore (lv' := [(5, .int x6), (4, .int v1), (0, .ref a), (1, .int x1), (2, .int x2), (3, .int x3), (6, .int x6)]) hx hb dX10_alone_191 hl (by decide) rfl (fun ls hl => ?_)
  exact b_X10_alone_193 C hk39 hW (lv_sub hl [2, 3, 4, 5, 1, 0, 6] rfl) h
set_option maxRecDepth 20000 in
set_option maxHeartbeats 2000000 in
theorem b_X10_alone_54 {k39 : Mx → Int32 → Int32 → Int32 → Option (Int32 × Mx)} {a : Nat} {x1 : Int32} {x2 : Int32} {x3 : Int32} {x4 : Int32} {x5 : Int32} {x6 : Int32} (C : Cx g RX10 cX10_alone 10 (some .int) p s m args meth c) {r : (Int32 × Mx)} (hk39 : ∀ {H' : Heap} {locs' : List Loc} {ls' : Array Slot} {X' : Mx} {x4' : Int32} {x5' : Int32} {x6' : Int32}, Wd g σ X' s H' locs' → lv_has ls' 10 [(0, .ref a), (1, .int x1), (2, .int x2), (3, .int x3), (4, .int x4'), (5, .int x5'), (6, .int x6')] → k39 X' x4' x5' x6' = some r → W p l e (rmZ 8 195) s m args below meth c H' locs' 0 0 (QI g σ below args s r) (F0 m 39 ls' [])) : ∀ (n : Nat) {X : Mx} {x7 : Int32} {H : Heap} {locs : List Loc} {ls : Array Slot} (hW : Wd g σ X s H locs) (hl : lv_has ls 10 [(0, .ref a), (1, .int x1), (2, .int x2), (3, .int x3), (4, .int x4), (5, .int x5), (6, .int x6), (7, .int x7)]) (h : f_X10_alone_54 k39 σ a x1 x2 x3 x4 x5 x6 n X x7 = some r), W p l e (rmZ 8 195) s m args below meth c H locs 0 0 (QI g σ below args s r) (F0 m 54 ls []) := by
  have hx := C.x
  have hb := C.b
  intro n
  induction n with
  | zero =>
    intro X x7 H locs ls hW hl h
    cases (show none = some r from h)
  | succ n ih =>
    intro X x7 H locs ls hW hl h
    rw [f_X10_alone_54] at h
    refine lv_iload hx hb dX10_alone_54 (lv_at hl 7 rfl) ?_
    refine lv_iload_n hx hb dX10_alone_56 rfl (lv_at hl 3 rfl) ?_
    refine r_br h (lv_icmp_ge (tgt := 136) hx hb dX10_alone_57 (by decide)) (fun h => ?_) (fun h => ?_)
    · refine lv_aload_n hx hb dX10_alone_136 rfl (lv_at hl 0 rfl) ?_
      refine lv_sipush (v := 931) hx hb dX10_alone_137 (by decide) ?_
      obtain ⟨X2, h1, h⟩ := bnd_inv h
      refine r_cV hW (run_V (rest := []) C hW (t_X10_merges h1) mk_X10_merges vk_X10_354 (kd_X10_merges h1) rfl rfl (by decide) ⟨Nat.le_of_ble_eq_true rfl, Nat.le_of_ble_eq_true rfl⟩ ⟨Nat.zero_le _, Nat.zero_le _⟩ rfl rfl (Nat.le_of_ble_eq_true rfl) hl.1 dX10_alone_140) (fun H locs hW _ => ?_)
      refine lv_iload hx hb dX10_alone_143 (lv_at hl 4 rfl) ?_
      refine lv_iconst (v := (-1)) hx hb dX10_alone_145 (by decide) ?_
      refine r_br h (lv_icmp_eq (tgt := 183) hx hb dX10_alone_146 (by decide)) (fun h => ?_) (fun h => ?_)
      · exact b_X10_alone_183 C hk39 hW (lv_sub hl [0, 1, 2, 3, 6] rfl) h
      · refine lv_aload_n hx hb dX10_alone_149 rfl (lv_at hl 0 rfl) ?_
        refine r_gI C hW h fl_X10_282 (by decide) dX10_alone_150 (fun v3 h => ?_)
        refine lv_iload hx hb dX10_alone_153 (lv_at hl 4 rfl) ?_
        refine r_br h (lv_icmp_gt (tgt := 193) hx hb dX10_alone_155 (by decide)) (fun h => ?_) (fun h => ?_)
        · exact b_X10_alone_193 C hk39 hW (lv_sub hl [0, 1, 2, 3, 4, 5, 6] rfl) h
        · refine lv_aload_n hx hb dX10_alone_158 rfl (lv_at hl 0 rfl) ?_
          refine r_gI C hW h fl_X10_282 (by decide) dX10_alone_159 (fun v4 h => ?_)
          refine lv_iload hx hb dX10_alone_162 (lv_at hl 4 rfl) ?_
          refine r_brn h (lv_icmp_ne (tgt := 183) hx hb dX10_alone_164 (by decide)) (fun h => ?_) (fun h => ?_)
          · exact b_X10_alone_183 C hk39 hW (lv_sub hl [0, 1, 2, 3, 6] rfl) h
          · refine lv_iload hx hb dX10_alone_167 (lv_at hl 6 rfl) ?_
            obtain ⟨v6, h5, h⟩ := bnd_inv h
            refine r_cI hW (run_S (rest := []) C hW (t_X10_bits h5) mk_X10_bits sk_X10_240 ⟨Nat.le_of_ble_eq_true rfl, Nat.le_of_ble_eq_true rfl⟩ ⟨Nat.zero_le _, Nat.zero_le _⟩ rfl rfl (Nat.le_of_ble_eq_true rfl) hl.1 dX10_alone_169) (fun H locs hW _ => ?_)
            refine lv_iload hx hb dX10_alone_172 (lv_at hl 5 rfl) ?_
            obtain ⟨v8, h7, h⟩ := bnd_inv h
            refine r_cI hW (run_S (rest := [.int v6]) C hW (t_X10_bits h7) mk_X10_bits sk_X10_240 ⟨Nat.le_of_ble_eq_true rfl, Nat.le_of_ble_eq_true rfl⟩ ⟨Nat.zero_le _, Nat.zero_le _⟩ rfl rfl (Nat.le_of_ble_eq_true rfl) hl.1 dX10_alone_174) (fun H locs hW _ => ?_)
            refine r_br h (lv_icmp_gt (tgt := 183) hx hb dX10_alone_177 (by decide)) (fun h => ?_) (fun h => ?_)
            · exact b_X10_alone_183 C hk39 hW (lv_sub hl [0, 1, 2, 3, 6] rfl) h
            · refine lv_goto (tgt := 193) hx hb dX10_alone_180 (by decide) ?_
              exact b_X10_alone_193 C hk39 hW (lv_sub hl [0, 1, 2, 3, 4, 5, 6] rfl) h
    · refine lv_aload_n hx hb dX10_alone_60 rfl (lv_at hl 0 rfl) ?_
      refine r_gR C hW h fl_X10_50 (by decide) dX10_alone_61 (fun b9 h => ?_)
      refine lv_iload hx hb dX10_alone_64 (lv_at hl 7 rfl) ?_
      refine r_iald C hW h dX10_alone_66 (fun v10 h => ?_)
      refine lv_bipush (v := 9) hx hb dX10_alone_67 (by decide) ?_
      refine lv_idiv hx hb dX10_alone_69 (by decide) ?_
      refine lv_istore (lv' := [(8, .int (v10 / 9)), (0, .ref a), (1, .int x1), (2, .int x2), (3, .int x3), (4, .int x4), (5, .int x5), (6, .int x6), (7, .int x7)]) hx hb dX10_alone_70 hl (by decide) rfl (fun ls hl => ?_)
      refine lv_aload_n hx hb dX10_alone_72 rfl (lv_at hl 1 rfl) ?_
      refine r_gR C hW h fl_X10_50 (by decide) dX10_alone_73 (fun b11 h => ?_)
      refine lv_iload hx hb dX10_alone_76 (lv_at hl 8 rfl) ?_
      refine r_iald C hW h dX10_alone_78 (fun v12 h => ?_)
      refine lv_bipush (v := 9) hx hb dX10_alone_79 (by decide) ?_
      refine lv_irem hx hb dX10_alone_81 (by decide) ?_
      refine lv_istore (lv' := [(9, .int (v12 - v12 / 9 * 9)), (8, .int (v10 / 9)), (0, .ref a), (1, .int x1), (2, .int x2), (3, .int x3), (4, .int x4), (5, .int x5), (6, .int x6), (7, .int x7)]) hx hb dX10_alone_82 hl (by decide) rfl (fun ls hl => ?_)
      refine lv_iload hx hb dX10_alone_84 (lv_at hl 8 rfl) ?_
      refine lv_iload hx hb dX10_alone_86 (lv_at hl 9 rfl) ?_
      refine lv_ishr hx hb dX10_alone_88 ?_
      refine lv_iconst (v := 1) hx hb dX10_alone_89 (by decide) ?_
      refine lv_iand hx hb dX10_alone_90 ?_
      refine r_brn h (lv_if_ne (tgt := 130) hx hb dX10_alone_91 (by decide)) (fun h => ?_) (fun h => ?_)
      · exact b_X10_alone_130 C hk39 (fun hW hl h => ih hW hl h) hW (lv_sub hl [2, 3, 4, 5, 6, 7, 8, 9] rfl) h
      · refine lv_aload_n hx hb dX10_alone_94 rfl (lv_at hl 2 rfl) ?_
        refine r_gR C hW h fl_X10_20 (by decide) dX10_alone_95 (fun b13 h => ?_)
        refine lv_sipush (v := 931) hx hb dX10_alone_98 (by decide) ?_
        refine lv_iload_n hx hb dX10_alone_101 rfl (lv_at hl 3 rfl) ?_
        refine lv_iload hx hb dX10_alone_102 (lv_at hl 1 rfl) ?_
        refine lv_iload hx hb dX10_alone_104 (lv_at hl 0 rfl) ?_
        refine r_cI hW (run_S (rest := [.ref b13]) C hW (t_X10_cellAt (X := X)) mk_X10_cellAt sk_X10_174 ⟨Nat.le_of_ble_eq_true rfl, Nat.le_of_ble_eq_true rfl⟩ ⟨Nat.zero_le _, Nat.zero_le _⟩ rfl rfl (Nat.le_of_ble_eq_true rfl) hl.1 dX10_alone_106) (fun H locs hW _ => ?_)
        refine lv_aload_n hx hb dX10_alone_109 rfl (lv_at hl 2 rfl) ?_
        refine lv_iconst (v := 0) hx hb dX10_alone_110 (by decide) ?_
        refine lv_iload_n hx hb dX10_alone_111 rfl (lv_at hl 3 rfl) ?_
        refine lv_iload hx hb dX10_alone_112 (lv_at hl 0 rfl) ?_
        obtain ⟨v15, h14, h⟩ := bnd_inv h
        refine r_cI hW (run_V (rest := [.int (f_X10_cellAt 931 x1 (v10 / 9) (v12 - v12 / 9 * 9)), .ref b13]) C hW (t_X10_typeAt h14) mk_X10_typeAt vk_X10_166 (kd_X10_typeAt h14) rfl rfl (by decide) ⟨Nat.le_of_ble_eq_true rfl, Nat.le_of_ble_eq_true rfl⟩ ⟨Nat.zero_le _, Nat.zero_le _⟩ rfl rfl (Nat.le_of_ble_eq_true rfl) hl.1 dX10_alone_114) (fun H locs hW _ => ?_)
        refine lv_aload_n hx hb dX10_alone_117 rfl (lv_at hl 2 rfl) ?_
        refine lv_iconst (v := 0) hx hb dX10_alone_118 (by decide) ?_
        refine lv_iload hx hb dX10_alone_119 (lv_at hl 1 rfl) ?_
        refine lv_iload hx hb dX10_alone_121 (lv_at hl 0 rfl) ?_
        obtain ⟨v17, h16, h⟩ := bnd_inv h
        refine r_cI hW (run_V (rest := [.int v15, .int (f_X10_cellAt 931 x1 (v10 / 9) (v12 - v12 / 9 * 9)), .ref b13]) C hW (t_X10_baseCell h16) mk_X10_baseCell vk_X10_285 (kd_X10_baseCell h16) rfl rfl (by decide) ⟨Nat.le_of_ble_eq_true rfl, Nat.le_of_ble_eq_true rfl⟩ ⟨Nat.zero_le _, Nat.zero_le _⟩ rfl rfl (Nat.le_of_ble_eq_true rfl) hl.1 dX10_alone_123) (fun H locs hW _ => ?_)
        refine r_cI hW (run_S (rest := [.int (f_X10_cellAt 931 x1 (v10 / 9) (v12 - v12 / 9 * 9)), .ref b13]) C hW (t_X10_castTo (X := X)) mk_X10_castTo sk_X10_243 ⟨Nat.le_of_ble_eq_true rfl, Nat.le_of_ble_eq_true rfl⟩ ⟨Nat.zero_le _, Nat.zero_le _⟩ rfl rfl (Nat.le_of_ble_eq_true rfl) hl.1 dX10_alone_126) (fun H locs hW _ => ?_)
        refine r_iast C hW h dX10_alone_129 (fun X18 H locs h hW _ => ?_)
        exact b_X10_alone_130 C hk39 (fun hW hl h => ih hW hl h) hW (lv_sub hl [2, 3, 4, 5, 6, 7, 8, 9] rfl) h
set_option maxRecDepth 20000 in
set_option maxHeartbeats 2000000 in
theorem b_X10_alone_39 {a : Nat} {x1 : Int32} {x2 : Int32} {x3 : Int32} (C : Cx g RX10 cX10_alone 10 (some .int) p s m args meth c) {r : (Int32 × Mx)} : ∀ (n : Nat) {X : Mx} {x4 : Int32} {x5 : Int32} {x6 : Int32} {H : Heap} {locs : List Loc} {ls : Array Slot} (hW : Wd g σ X s H locs) (hl : lv_has ls 10 [(0, .ref a), (1, .int x1), (2, .int x2), (3, .int x3), (4, .int x4), (5, .int x5), (6, .int x6)]) (h : f_X10_alone_39 σ a x1 x2 x3 n X x4 x5 x6 = some r), W p l e (rmZ 8 195) s m args below meth c H locs 0 0 (QI g σ below args s r) (F0 m 39 ls []) := by
  have hx := C.x
  have hb := C.b
  intro n
  induction n with
  | zero =>
    intro X x4 x5 x6 H locs ls hW hl h
    cases (show none = some r from h)
  | succ n ih =>
    intro X x4 x5 x6 H locs ls hW hl h
    rw [f_X10_alone_39] at h
    refine lv_iload hx hb dX10_alone_39 (lv_at hl 6 rfl) ?_
    refine lv_iconst (v := 1) hx hb dX10_alone_41 (by decide) ?_
    refine lv_iload_n hx hb dX10_alone_42 rfl (lv_at hl 3 rfl) ?_
    refine lv_ishl hx hb dX10_alone_43 ?_
    refine r_br h (lv_icmp_ge (tgt := 199) hx hb dX10_alone_44 (by decide)) (fun h => ?_) (fun h => ?_)
    · refine lv_iload_n hx hb dX10_alone_199 rfl (lv_at hl 2 rfl) ?_
      refine r_brn h (lv_if_ne (tgt := 208) hx hb dX10_alone_200 (by decide)) (fun h => ?_) (fun h => ?_)
      · refine lv_iload_n hx hb dX10_alone_208 rfl (lv_at hl 2 rfl) ?_
        refine lv_iconst (v := 1) hx hb dX10_alone_209 (by decide) ?_
        refine r_brn h (lv_icmp_ne (tgt := 221) hx hb dX10_alone_210 (by decide)) (fun h => ?_) (fun h => ?_)
        · refine lv_iload hx hb dX10_alone_221 (lv_at hl 5 rfl) ?_
          exact r_iret C hW (Option.some.inj h).symm rfl dX10_alone_223
        · refine lv_iload hx hb dX10_alone_213 (lv_at hl 5 rfl) ?_
          obtain ⟨v2, h1, h⟩ := bnd_inv h
          refine r_cI hW (run_S (rest := []) C hW (t_X10_bits h1) mk_X10_bits sk_X10_240 ⟨Nat.le_of_ble_eq_true rfl, Nat.le_of_ble_eq_true rfl⟩ ⟨Nat.zero_le _, Nat.zero_le _⟩ rfl rfl (Nat.le_of_ble_eq_true rfl) hl.1 dX10_alone_215) (fun H locs hW _ => ?_)
          refine lv_goto (tgt := 223) hx hb dX10_alone_218 (by decide) ?_
          exact r_iret C hW (Option.some.inj h).symm rfl dX10_alone_223
      · refine lv_iload hx hb dX10_alone_203 (lv_at hl 4 rfl) ?_
        refine lv_goto (tgt := 223) hx hb dX10_alone_205 (by decide) ?_
        exact r_iret C hW (Option.some.inj h).symm rfl dX10_alone_223
    · refine lv_aload_n hx hb dX10_alone_47 rfl (lv_at hl 0 rfl) ?_
      obtain ⟨X4, h3, h⟩ := bnd_inv h
      refine r_cV hW (run_V (rest := []) C hW (t_X10_tries h3) mk_X10_tries vk_X10_267 (kd_X10_tries h3) rfl rfl (by decide) ⟨Nat.le_of_ble_eq_true rfl, Nat.le_of_ble_eq_true rfl⟩ ⟨Nat.zero_le _, Nat.zero_le _⟩ rfl rfl (Nat.le_of_ble_eq_true rfl) hl.1 dX10_alone_48) (fun H locs hW _ => ?_)
      refine lv_iconst (v := 0) hx hb dX10_alone_51 (by decide) ?_
      refine lv_istore (lv' := [(7, .int 0), (0, .ref a), (1, .int x1), (2, .int x2), (3, .int x3), (4, .int x4), (5, .int x5), (6, .int x6)]) hx hb dX10_alone_52 hl (by decide) rfl (fun ls hl => ?_)
      exact b_X10_alone_54 C (fun hW hl h => ih hW hl h) FU hW (lv_sub hl [1, 2, 3, 4, 5, 6, 7, 0] rfl) h
theorem kd_X10_alone {X : Mx} {r : (Int32 × Mx)} {a : Nat} {x1 : Int32} {x2 : Int32} (h : f_X10_alone σ X a x1 x2 = some r) : shK σ a = 8 := (grd_inv h).1
set_option maxRecDepth 20000 in
set_option maxHeartbeats 2000000 in
theorem t_X10_alone {X : Mx} {r : (Int32 × Mx)} {a : Nat} {x1 : Int32} {x2 : Int32} (h : f_X10_alone σ X a x1 x2 = some r) : MtI g l yX10_alone cX10_alone 10 (some .int) 8 195 [.ref a, .int x1, .int x2] σ X r := by
  refine met_of mk_X10_alone (Nat.le_of_ble_eq_true rfl) (fun p e s m args below meth c ls C hW hl => ?_)
  have hx := C.x
  have hb := C.b
  have hl : lv_has ls 10 [(0, .ref a), (1, .int x1), (2, .int x2)] := hl
  unfold f_X10_alone at h
  obtain ⟨hk0, h⟩ := grd_inv h
  refine lv_aload_n hx hb dX10_alone_0 rfl (lv_at hl 0 rfl) ?_
  refine lv_iconst (v := 0) hx hb dX10_alone_1 (by decide) ?_
  refine r_pI C hW h pf_X10_65 (by decide) rfl rfl dX10_alone_2 (fun X1 H locs h hW _ => ?_)
  refine lv_aload_n hx hb dX10_alone_5 rfl (lv_at hl 0 rfl) ?_
  refine lv_iload_n hx hb dX10_alone_6 rfl (lv_at hl 1 rfl) ?_
  obtain ⟨v4, X3, h2, h⟩ := bnd2_inv h
  refine r_cI hW (run_V (rest := []) C hW (t_X10_isSide h2) mk_X10_isSide vk_X10_406 (kd_X10_isSide h2) rfl rfl (by decide) ⟨Nat.le_of_ble_eq_true rfl, Nat.le_of_ble_eq_true rfl⟩ ⟨Nat.zero_le _, Nat.zero_le _⟩ rfl rfl (Nat.le_of_ble_eq_true rfl) hl.1 dX10_alone_7) (fun H locs hW _ => ?_)
  refine r_br h (lv_if_eq (tgt := 22) hx hb dX10_alone_10 (by decide)) (fun h => ?_) (fun h => ?_)
  · refine lv_iconst (v := 0) hx hb dX10_alone_22 (by decide) ?_
    exact r_iret C hW (Option.some.inj h).symm rfl dX10_alone_23
  · refine lv_aload_n hx hb dX10_alone_13 rfl (lv_at hl 0 rfl) ?_
    refine lv_iload_n hx hb dX10_alone_14 rfl (lv_at hl 2 rfl) ?_
    refine lv_iconst (v := 2) hx hb dX10_alone_15 (by decide) ?_
    obtain ⟨v7, X6, h5, h⟩ := bnd2_inv h
    refine r_cI hW (run_V (rest := []) C hW (t_X10_isWhat h5) mk_X10_isWhat vk_X10_375 (kd_X10_isWhat h5) rfl rfl (by decide) ⟨Nat.le_of_ble_eq_true rfl, Nat.le_of_ble_eq_true rfl⟩ ⟨Nat.zero_le _, Nat.zero_le _⟩ rfl rfl (Nat.le_of_ble_eq_true rfl) hl.1 dX10_alone_16) (fun H locs hW _ => ?_)
    refine r_brn h (lv_if_ne (tgt := 24) hx hb dX10_alone_19 (by decide)) (fun h => ?_) (fun h => ?_)
    · refine lv_aload_n hx hb dX10_alone_24 rfl (lv_at hl 0 rfl) ?_
      refine lv_iload_n hx hb dX10_alone_25 rfl (lv_at hl 1 rfl) ?_
      obtain ⟨v10, X9, h8, h⟩ := bnd2_inv h
      refine r_cI hW (run_V (rest := []) C hW (t_X10_laysAlone h8) mk_X10_laysAlone vk_X10_418 (kd_X10_laysAlone h8) rfl rfl (by decide) ⟨Nat.le_of_ble_eq_true rfl, Nat.le_of_ble_eq_true rfl⟩ ⟨Nat.zero_le _, Nat.zero_le _⟩ rfl rfl (Nat.le_of_ble_eq_true rfl) hl.1 dX10_alone_26) (fun H locs hW _ => ?_)
      refine lv_istore_n (lv' := [(3, .int v10), (0, .ref a), (1, .int x1), (2, .int x2)]) hx hb dX10_alone_29 rfl hl (by decide) rfl (fun ls hl => ?_)
      refine lv_iconst (v := (-1)) hx hb dX10_alone_30 (by decide) ?_
      refine lv_istore (lv' := [(4, .int (-1)), (3, .int v10), (0, .ref a), (1, .int x1), (2, .int x2)]) hx hb dX10_alone_31 hl (by decide) rfl (fun ls hl => ?_)
      refine lv_iconst (v := 0) hx hb dX10_alone_33 (by decide) ?_
      refine lv_istore (lv' := [(5, .int 0), (4, .int (-1)), (3, .int v10), (0, .ref a), (1, .int x1), (2, .int x2)]) hx hb dX10_alone_34 hl (by decide) rfl (fun ls hl => ?_)
      refine lv_iconst (v := 0) hx hb dX10_alone_36 (by decide) ?_
      refine lv_istore (lv' := [(6, .int 0), (5, .int 0), (4, .int (-1)), (3, .int v10), (0, .ref a), (1, .int x1), (2, .int x2)]) hx hb dX10_alone_37 hl (by decide) rfl (fun ls hl => ?_)
      exact b_X10_alone_39 C FU hW (lv_sub hl [4, 5, 6, 3, 2, 1, 0] rfl) h
    · refine lv_iconst (v := 0) hx hb dX10_alone_22 (by decide) ?_
      exact r_iret C hW (Option.some.inj h).symm rfl dX10_alone_23
set_option maxRecDepth 20000 in
set_option maxHeartbeats 2000000 in
theorem b_X10_see_54 {a : Nat} (C : Cx g RX10 cX10_see 4 (some .int) p s m args meth c) {r : (Int32 × Mx)} {X : Mx} (hW : Wd g σ X s H locs) (hl : lv_has ls 4 [(0, .ref a)]) (h : f_X10_see_54 σ a X = some r) : W p l e (rmZ 1 22) s m args below meth c H locs 0 0 (QI g σ below args s r) (F0 m 54 ls []) := by
  have hx := C.x
  have hb := C.b
  unfold f_X10_see_54 at h
  refine lv_aload_n hx hb dX10_see_54 rfl (lv_at hl 0 rfl) ?_
  refine lv_iconst (v := 2) hx hb dX10_see_55 (by decide) ?_
  obtain ⟨v3, X2, h1, h⟩ := bnd2_inv h
  refine r_cI hW (run_V (rest := []) C hW (t_X10_refuses h1) mk_X10_refuses vk_X10_270 (kd_X10_refuses h1) rfl rfl (by decide) ⟨Nat.le_of_ble_eq_true rfl, Nat.le_of_ble_eq_true rfl⟩ ⟨Nat.zero_le _, Nat.zero_le _⟩ rfl rfl (Nat.le_of_ble_eq_true rfl) hl.1 dX10_see_56) (fun H locs hW _ => ?_)
  exact r_iret C hW (Option.some.inj h).symm rfl dX10_see_59
set_option maxRecDepth 20000 in
set_option maxHeartbeats 2000000 in
theorem b_X10_see_60 {a : Nat} {x1 : Int32} {x2 : Int32} {x3 : Int32} (C : Cx g RX10 cX10_see 4 (some .int) p s m args meth c) {r : (Int32 × Mx)} {X : Mx} (hW : Wd g σ X s H locs) (hl : lv_has ls 4 [(0, .ref a), (1, .int x1), (2, .int x2), (3, .int x3)]) (h : f_X10_see_60 σ a x1 x2 x3 X = some r) : W p l e (rmZ 1 22) s m args below meth c H locs 0 0 (QI g σ below args s r) (F0 m 60 ls []) := by
  have hx := C.x
  have hb := C.b
  unfold f_X10_see_60 at h
  refine lv_aload_n hx hb dX10_see_60 rfl (lv_at hl 0 rfl) ?_
  refine r_gR C hW h fl_X10_53 (by decide) dX10_see_61 (fun b1 h => ?_)
  refine lv_iconst (v := 3) hx hb dX10_see_64 (by decide) ?_
  refine lv_aload_n hx hb dX10_see_65 rfl (lv_at hl 0 rfl) ?_
  refine r_gI C hW h fl_X10_224 (by decide) dX10_see_66 (fun v2 h => ?_)
  refine lv_imul hx hb dX10_see_69 ?_
  refine lv_iload_n hx hb dX10_see_70 rfl (lv_at hl 1 rfl) ?_
  refine r_iast C hW h dX10_see_71 (fun X3 H locs h hW _ => ?_)
  refine lv_aload_n hx hb dX10_see_72 rfl (lv_at hl 0 rfl) ?_
  refine r_gR C hW h fl_X10_53 (by decide) dX10_see_73 (fun b4 h => ?_)
  refine lv_iconst (v := 3) hx hb dX10_see_76 (by decide) ?_
  refine lv_aload_n hx hb dX10_see_77 rfl (lv_at hl 0 rfl) ?_
  refine r_gI C hW h fl_X10_224 (by decide) dX10_see_78 (fun v5 h => ?_)
  refine lv_imul hx hb dX10_see_81 ?_
  refine lv_iconst (v := 1) hx hb dX10_see_82 (by decide) ?_
  refine lv_iadd hx hb dX10_see_83 ?_
  refine lv_iload_n hx hb dX10_see_84 rfl (lv_at hl 2 rfl) ?_
  refine r_iast C hW h dX10_see_85 (fun X6 H locs h hW _ => ?_)
  refine lv_aload_n hx hb dX10_see_86 rfl (lv_at hl 0 rfl) ?_
  refine r_gR C hW h fl_X10_53 (by decide) dX10_see_87 (fun b7 h => ?_)
  refine lv_iconst (v := 3) hx hb dX10_see_90 (by decide) ?_
  refine lv_aload_n hx hb dX10_see_91 rfl (lv_at hl 0 rfl) ?_
  refine r_gI C hW h fl_X10_224 (by decide) dX10_see_92 (fun v8 h => ?_)
  refine lv_imul hx hb dX10_see_95 ?_
  refine lv_iconst (v := 2) hx hb dX10_see_96 (by decide) ?_
  refine lv_iadd hx hb dX10_see_97 ?_
  refine lv_iload_n hx hb dX10_see_98 rfl (lv_at hl 3 rfl) ?_
  refine r_iast C hW h dX10_see_99 (fun X9 H locs h hW _ => ?_)
  refine lv_aload_n hx hb dX10_see_100 rfl (lv_at hl 0 rfl) ?_
  refine lv_dup hx hb dX10_see_101 rfl ?_
  refine r_gI C hW h fl_X10_224 (by decide) dX10_see_102 (fun v10 h => ?_)
  refine lv_iconst (v := 1) hx hb dX10_see_105 (by decide) ?_
  refine lv_iadd hx hb dX10_see_106 ?_
  refine r_pI C hW h pf_X10_224 (by decide) rfl rfl dX10_see_107 (fun X11 H locs h hW _ => ?_)
  refine lv_aload_n hx hb dX10_see_110 rfl (lv_at hl 0 rfl) ?_
  refine r_gI C hW h fl_X10_224 (by decide) dX10_see_111 (fun v12 h => ?_)
  exact r_iret C hW (Option.some.inj h).symm rfl dX10_see_114
theorem kd_X10_see {X : Mx} {r : (Int32 × Mx)} {a : Nat} {x1 : Int32} {x2 : Int32} {x3 : Int32} (h : f_X10_see σ X a x1 x2 x3 = some r) : shK σ a = 8 := (grd_inv h).1
set_option maxRecDepth 20000 in
set_option maxHeartbeats 2000000 in
theorem t_X10_see {X : Mx} {r : (Int32 × Mx)} {a : Nat} {x1 : Int32} {x2 : Int32} {x3 : Int32} (h : f_X10_see σ X a x1 x2 x3 = some r) : MtI g l yX10_see cX10_see 4 (some .int) 1 22 [.ref a, .int x1, .int x2, .int x3] σ X r := by
  refine met_of mk_X10_see (Nat.le_of_ble_eq_true rfl) (fun p e s m args below meth c ls C hW hl => ?_)
  have hx := C.x
  have hb := C.b
  have hl : lv_has ls 4 [(0, .ref a), (1, .int x1), (2, .int x2), (3, .int x3)] := hl
  unfold f_X10_see at h
  obtain ⟨hk0, h⟩ := grd_inv h
  refine lv_aload_n hx hb dX10_see_0 rfl (lv_at hl 0 rfl) ?_
  refine lv_iconst (v := 0) hx hb dX10_see_1 (by decide) ?_
  refine r_pI C hW h pf_X10_65 (by decide) rfl rfl dX10_see_2 (fun X1 H locs h hW _ => ?_)
  refine lv_aload_n hx hb dX10_see_5 rfl (lv_at hl 0 rfl) ?_
  refine r_gI C hW h fl_X10_224 (by decide) dX10_see_6 (fun v2 h => ?_)
  refine lv_bipush (v := 8) hx hb dX10_see_9 (by decide) ?_
  refine r_br h (lv_icmp_eq (tgt := 54) hx hb dX10_see_11 (by decide)) (fun h => ?_) (fun h => ?_)
  · exact b_X10_see_54 C hW (lv_sub hl [0] rfl) h
  · refine lv_iload_n hx hb dX10_see_14 rfl (lv_at hl 1 rfl) ?_
    refine lv_iconst (v := 0) hx hb dX10_see_15 (by decide) ?_
    refine lv_bipush (v := 19) hx hb dX10_see_16 (by decide) ?_
    refine r_cI hW (run_S (rest := []) C hW (t_X10_within (X := X1)) mk_X10_within sk_X10_231 ⟨Nat.le_of_ble_eq_true rfl, Nat.le_of_ble_eq_true rfl⟩ ⟨Nat.zero_le _, Nat.zero_le _⟩ rfl rfl (Nat.le_of_ble_eq_true rfl) hl.1 dX10_see_18) (fun H locs hW _ => ?_)
    refine r_br h (lv_if_eq (tgt := 54) hx hb dX10_see_21 (by decide)) (fun h => ?_) (fun h => ?_)
    · exact b_X10_see_54 C hW (lv_sub hl [0] rfl) h
    · refine lv_iload_n hx hb dX10_see_24 rfl (lv_at hl 2 rfl) ?_
      refine lv_iconst (v := 0) hx hb dX10_see_25 (by decide) ?_
      refine lv_bipush (v := 8) hx hb dX10_see_26 (by decide) ?_
      refine r_cI hW (run_S (rest := []) C hW (t_X10_within (X := X1)) mk_X10_within sk_X10_231 ⟨Nat.le_of_ble_eq_true rfl, Nat.le_of_ble_eq_true rfl⟩ ⟨Nat.zero_le _, Nat.zero_le _⟩ rfl rfl (Nat.le_of_ble_eq_true rfl) hl.1 dX10_see_28) (fun H locs hW _ => ?_)
      refine r_br h (lv_if_eq (tgt := 54) hx hb dX10_see_31 (by decide)) (fun h => ?_) (fun h => ?_)
      · exact b_X10_see_54 C hW (lv_sub hl [0] rfl) h
      · refine lv_iload_n hx hb dX10_see_34 rfl (lv_at hl 3 rfl) ?_
        refine lv_sipush (v := 9999) hx hb dX10_see_35 (by decide) ?_
        refine r_br h (lv_icmp_eq (tgt := 60) hx hb dX10_see_38 (by decide)) (fun h => ?_) (fun h => ?_)
        · exact b_X10_see_60 C hW (lv_sub hl [0, 1, 2, 3] rfl) h
        · refine lv_iload_n hx hb dX10_see_41 rfl (lv_at hl 3 rfl) ?_
          refine lv_sipush (v := (-999)) hx hb dX10_see_42 (by decide) ?_
          refine lv_sipush (v := 999) hx hb dX10_see_45 (by decide) ?_
          refine r_cI hW (run_S (rest := []) C hW (t_X10_within (X := X1)) mk_X10_within sk_X10_231 ⟨Nat.le_of_ble_eq_true rfl, Nat.le_of_ble_eq_true rfl⟩ ⟨Nat.zero_le _, Nat.zero_le _⟩ rfl rfl (Nat.le_of_ble_eq_true rfl) hl.1 dX10_see_48) (fun H locs hW _ => ?_)
          refine r_brn h (lv_if_ne (tgt := 60) hx hb dX10_see_51 (by decide)) (fun h => ?_) (fun h => ?_)
          · exact b_X10_see_60 C hW (lv_sub hl [0, 1, 2, 3] rfl) h
          · exact b_X10_see_54 C hW (lv_sub hl [0] rfl) h
theorem kd_X10_forget {X : Mx} {r : Mx} {a : Nat} (h : f_X10_forget σ X a = some r) : shK σ a = 8 := (grd_inv h).1
set_option maxRecDepth 20000 in
set_option maxHeartbeats 2000000 in
theorem t_X10_forget {X : Mx} {r : Mx} {a : Nat} (h : f_X10_forget σ X a = some r) : MtV g l yX10_forget cX10_forget 1 none 0 0 [.ref a] σ X r := by
  refine met_of mk_X10_forget (Nat.le_of_ble_eq_true rfl) (fun p e s m args below meth c ls C hW hl => ?_)
  have hx := C.x
  have hb := C.b
  have hl : lv_has ls 1 [(0, .ref a)] := hl
  unfold f_X10_forget at h
  obtain ⟨hk0, h⟩ := grd_inv h
  refine lv_aload_n hx hb dX10_forget_0 rfl (lv_at hl 0 rfl) ?_
  refine lv_iconst (v := 0) hx hb dX10_forget_1 (by decide) ?_
  refine r_pI C hW h pf_X10_65 (by decide) rfl rfl dX10_forget_2 (fun X1 H locs h hW _ => ?_)
  refine lv_aload_n hx hb dX10_forget_5 rfl (lv_at hl 0 rfl) ?_
  refine lv_iconst (v := 0) hx hb dX10_forget_6 (by decide) ?_
  refine r_pI C hW h pf_X10_224 (by decide) rfl rfl dX10_forget_7 (fun X2 H locs h hW _ => ?_)
  exact r_vret C hW (Option.some.inj h).symm dX10_forget_10
set_option maxRecDepth 20000 in
set_option maxHeartbeats 2000000 in
theorem b_X10_isSeen_7 {a : Nat} (C : Cx g RX10 cX10_isSeen 5 (some .boolean) p s m args meth c) {r : (Int32 × Mx)} : ∀ (n : Nat) {X : Mx} {x2 : Int32} {H : Heap} {locs : List Loc} {ls : Array Slot} (hW : Wd g σ X s H locs) (hl : lv_has ls 5 [(0, .ref a), (2, .int x2)]) (h : f_X10_isSeen_7 σ a n X x2 = some r), W p l e (rmZ 7 169) s m args below meth c H locs 0 0 (QI g σ below args s r) (F0 m 7 ls []) := by
  have hx := C.x
  have hb := C.b
  intro n
  induction n with
  | zero =>
    intro X x2 H locs ls hW hl h
    cases (show none = some r from h)
  | succ n ih =>
    intro X x2 H locs ls hW hl h
    rw [f_X10_isSeen_7] at h
    refine lv_iload_n hx hb dX10_isSeen_7 rfl (lv_at hl 1 rfl) ?_
    refine lv_aload_n hx hb dX10_isSeen_8 rfl (lv_at hl 0 rfl) ?_
    refine r_gI C hW h fl_X10_224 (by decide) dX10_isSeen_9 (fun v1 h => ?_)
    refine r_br h (lv_icmp_ge (tgt := 87) hx hb dX10_isSeen_12 (by decide)) (fun h => ?_) (fun h => ?_)
    · refine lv_iconst (v := 1) hx hb dX10_isSeen_87 (by decide) ?_
      exact r_iret C hW (Option.some.inj h).symm rfl dX10_isSeen_88
    · refine lv_aload_n hx hb dX10_isSeen_15 rfl (lv_at hl 0 rfl) ?_
      refine r_gR C hW h fl_X10_53 (by decide) dX10_isSeen_16 (fun b2 h => ?_)
      refine lv_iconst (v := 3) hx hb dX10_isSeen_19 (by decide) ?_
      refine lv_iload_n hx hb dX10_isSeen_20 rfl (lv_at hl 1 rfl) ?_
      refine lv_imul hx hb dX10_isSeen_21 ?_
      refine r_iald C hW h dX10_isSeen_22 (fun v3 h => ?_)
      refine lv_istore_n (lv' := [(3, .int v3), (0, .ref a), (2, .int x2)]) hx hb dX10_isSeen_23 rfl hl (by decide) rfl (fun ls hl => ?_)
      refine lv_aload_n hx hb dX10_isSeen_24 rfl (lv_at hl 1 rfl) ?_
      refine r_gR C hW h fl_X10_53 (by decide) dX10_isSeen_25 (fun b4 h => ?_)
      refine lv_iconst (v := 3) hx hb dX10_isSeen_28 (by decide) ?_
      refine lv_iload_n hx hb dX10_isSeen_29 rfl (lv_at hl 2 rfl) ?_
      refine lv_imul hx hb dX10_isSeen_30 ?_
      refine lv_iconst (v := 1) hx hb dX10_isSeen_31 (by decide) ?_
      refine lv_iadd hx hb dX10_isSeen_32 ?_
      refine r_iald C hW h dX10_isSeen_33 (fun v5 h => ?_)
      refine lv_istore (lv' := [(4, .int v5), (3, .int v3), (0, .ref a), (2, .int x2)]) hx hb dX10_isSeen_34 hl (by decide) rfl (fun ls hl => ?_)
      refine lv_aload_n hx hb dX10_isSeen_36 rfl (lv_at hl 2 rfl) ?_
      refine r_gI C hW h fl_X10_323 (by decide) dX10_isSeen_37 (fun v6 h => ?_)
      refine lv_iload_n hx hb dX10_isSeen_40 rfl (lv_at hl 1 rfl) ?_
      refine lv_ishr hx hb dX10_isSeen_41 ?_
      refine lv_iconst (v := 1) hx hb dX10_isSeen_42 (by decide) ?_
      refine lv_iand hx hb dX10_isSeen_43 ?_
      refine r_br h (lv_if_eq (tgt := 79) hx hb dX10_isSeen_44 (by decide)) (fun h => ?_) (fun h => ?_)
      · refine lv_iconst (v := 0) hx hb dX10_isSeen_79 (by decide) ?_
        exact r_iret C hW (Option.some.inj h).symm rfl dX10_isSeen_80
      · refine lv_aload_n hx hb dX10_isSeen_47 rfl (lv_at hl 2 rfl) ?_
        refine r_gI C hW h fl_X10_291 (by decide) dX10_isSeen_48 (fun v7 h => ?_)
        refine lv_iload hx hb dX10_isSeen_51 (lv_at hl 0 rfl) ?_
        refine lv_ishr hx hb dX10_isSeen_53 ?_
        refine lv_iconst (v := 1) hx hb dX10_isSeen_54 (by decide) ?_
        refine lv_iand hx hb dX10_isSeen_55 ?_
        refine r_br h (lv_if_eq (tgt := 79) hx hb dX10_isSeen_56 (by decide)) (fun h => ?_) (fun h => ?_)
        · refine lv_iconst (v := 0) hx hb dX10_isSeen_79 (by decide) ?_
          exact r_iret C hW (Option.some.inj h).symm rfl dX10_isSeen_80
        · refine lv_aload_n hx hb dX10_isSeen_59 rfl (lv_at hl 2 rfl) ?_
          refine lv_iload_n hx hb dX10_isSeen_60 rfl (lv_at hl 1 rfl) ?_
          refine lv_iload hx hb dX10_isSeen_61 (lv_at hl 0 rfl) ?_
          obtain ⟨v9, h8, h⟩ := bnd_inv h
          refine r_cI hW (run_V (rest := []) C hW (t_X10_mergedAt h8) mk_X10_mergedAt vk_X10_326 (kd_X10_mergedAt h8) rfl rfl (by decide) ⟨Nat.le_of_ble_eq_true rfl, Nat.le_of_ble_eq_true rfl⟩ ⟨Nat.zero_le _, Nat.zero_le _⟩ rfl rfl (Nat.le_of_ble_eq_true rfl) hl.1 dX10_isSeen_63) (fun H locs hW _ => ?_)
          refine lv_aload_n hx hb dX10_isSeen_66 rfl (lv_at hl 2 rfl) ?_
          refine r_gR C hW h fl_X10_53 (by decide) dX10_isSeen_67 (fun b10 h => ?_)
          refine lv_iconst (v := 3) hx hb dX10_isSeen_70 (by decide) ?_
          refine lv_iload_n hx hb dX10_isSeen_71 rfl (lv_at hl 3 rfl) ?_
          refine lv_imul hx hb dX10_isSeen_72 ?_
          refine lv_iconst (v := 2) hx hb dX10_isSeen_73 (by decide) ?_
          refine lv_iadd hx hb dX10_isSeen_74 ?_
          refine r_iald C hW h dX10_isSeen_75 (fun v11 h => ?_)
          refine r_br h (lv_icmp_eq (tgt := 81) hx hb dX10_isSeen_76 (by decide)) (fun h => ?_) (fun h => ?_)
          · refine lv_iinc (v := (x2 + 1)) (lv' := [(2, .int (x2 + 1)), (4, .int v5), (3, .int v3), (0, .ref a)]) hx hb dX10_isSeen_81 hl (k := 3) rfl rfl (by decide) rfl (fun ls hl => ?_)
            refine lv_goto (tgt := 7) hx hb dX10_isSeen_84 (by decide) ?_
            exact ih hW (lv_sub hl [3, 0] rfl) h
          · refine lv_iconst (v := 0) hx hb dX10_isSeen_79 (by decide) ?_
            exact r_iret C hW (Option.some.inj h).symm rfl dX10_isSeen_80
theorem kd_X10_isSeen {X : Mx} {r : (Int32 × Mx)} {a : Nat} {x1 : Int32} (h : f_X10_isSeen σ X a x1 = some r) : shK σ a = 8 := (grd_inv h).1
set_option maxRecDepth 20000 in
set_option maxHeartbeats 2000000 in
theorem t_X10_isSeen {X : Mx} {r : (Int32 × Mx)} {a : Nat} {x1 : Int32} (h : f_X10_isSeen σ X a x1 = some r) : MtI g l yX10_isSeen cX10_isSeen 5 (some .boolean) 7 169 [.ref a, .int x1] σ X r := by
  refine met_of mk_X10_isSeen (Nat.le_of_ble_eq_true rfl) (fun p e s m args below meth c ls C hW hl => ?_)
  have hx := C.x
  have hb := C.b
  have hl : lv_has ls 5 [(0, .ref a), (1, .int x1)] := hl
  unfold f_X10_isSeen at h
  obtain ⟨hk0, h⟩ := grd_inv h
  refine lv_aload_n hx hb dX10_isSeen_0 rfl (lv_at hl 0 rfl) ?_
  refine lv_iload_n hx hb dX10_isSeen_1 rfl (lv_at hl 1 rfl) ?_
  obtain ⟨X2, h1, h⟩ := bnd_inv h
  refine r_cV hW (run_V (rest := []) C hW (t_X10_merges h1) mk_X10_merges vk_X10_354 (kd_X10_merges h1) rfl rfl (by decide) ⟨Nat.le_of_ble_eq_true rfl, Nat.le_of_ble_eq_true rfl⟩ ⟨Nat.zero_le _, Nat.zero_le _⟩ rfl rfl (Nat.le_of_ble_eq_true rfl) hl.1 dX10_isSeen_2) (fun H locs hW _ => ?_)
  refine lv_iconst (v := 0) hx hb dX10_isSeen_5 (by decide) ?_
  refine lv_istore_n (lv' := [(2, .int 0), (0, .ref a), (1, .int x1)]) hx hb dX10_isSeen_6 rfl hl (by decide) rfl (fun ls hl => ?_)
  exact b_X10_isSeen_7 C FU hW (lv_sub hl [1, 0] rfl) h
set_option maxRecDepth 20000 in
set_option maxHeartbeats 2000000 in
theorem b_X10_edited_161 {k42 : Mx → Int32 → Int32 → Int32 → Option (Int32 × Mx)} {k52 : Mx → Int32 → Int32 → Int32 → Option (Int32 × Mx)} {a : Nat} {x1 : Int32} {x2 : Int32} {x3 : Int32} {x4 : Int32} {x5 : Int32} (C : Cx g RX10 cX10_edited 7 (some .int) p s m args meth c) {r : (Int32 × Mx)} {X : Mx} (hk42 : ∀ {H' : Heap} {locs' : List Loc} {ls' : Array Slot} {X' : Mx} {x2' : Int32} {x3' : Int32} {x4' : Int32}, Wd g σ X' s H' locs' → lv_has ls' 7 [(0, .ref a), (1, .int x1), (2, .int x2'), (3, .int x3'), (4, .int x4')] → k42 X' x2' x3' x4' = some r → W p l e (rmZ 8 193) s m args below meth c H' locs' 0 0 (QI g σ below args s r) (F0 m 42 ls' [])) (hk52 : ∀ {H' : Heap} {locs' : List Loc} {ls' : Array Slot} {X' : Mx} {x2' : Int32} {x3' : Int32} {x5' : Int32}, Wd g σ X' s H' locs' → lv_has ls' 7 [(0, .ref a), (1, .int x1), (2, .int x2'), (3, .int x3'), (4, .int x4), (5, .int x5')] → k52 X' x2' x3' x5' = some r → W p l e (rmZ 8 193) s m args below meth c H' locs' 0 0 (QI g σ below args s r) (F0 m 52 ls' [])) (hW : Wd g σ X s H locs) (hl : lv_has ls 7 [(0, .ref a), (1, .int x1), (2, .int x2), (3, .int x3), (4, .int x4), (5, .int x5)]) (h : f_X10_edited_161 k42 k52 σ a x1 x2 x3 x4 x5 X = some r) : W p l e (rmZ 8 193) s m args below meth c H locs 0 0 (QI g σ below args s r) (F0 m 161 ls []) := by
  have hx := C.x
  have hb := C.b
  unfold f_X10_edited_161 at h
  refine lv_iinc (v := (x5 + 1)) (lv' := [(5, .int (x5 + 1)), (0, .ref a), (1, .int x1), (2, .int x2), (3, .int x3), (4, .int x4)]) hx hb dX10_edited_161 hl (k := 5) rfl rfl (by decide) rfl (fun ls hl => ?_)
  refine lv_goto (tgt := 52) hx hb dX10_edited_164 (by decide) ?_
  exact hk52 hW (lv_sub hl [1, 2, 3, 4, 5, 0] rfl) h
set_option maxRecDepth 20000 in
set_option maxHeartbeats 2000000 in
theorem b_X10_edited_155 {k42 : Mx → Int32 → Int32 → Int32 → Option (Int32 × Mx)} {k52 : Mx → Int32 → Int32 → Int32 → Option (Int32 × Mx)} {k87 : Mx → Int32 → Int32 → Int32 → Option (Int32 × Mx)} {a : Nat} {x1 : Int32} {x2 : Int32} {x3 : Int32} {x4 : Int32} {x5 : Int32} {x6 : Int32} (C : Cx g RX10 cX10_edited 7 (some .int) p s m args meth c) {r : (Int32 × Mx)} {X : Mx} (hk42 : ∀ {H' : Heap} {locs' : List Loc} {ls' : Array Slot} {X' : Mx} {x2' : Int32} {x3' : Int32} {x4' : Int32}, Wd g σ X' s H' locs' → lv_has ls' 7 [(0, .ref a), (1, .int x1), (2, .int x2'), (3, .int x3'), (4, .int x4')] → k42 X' x2' x3' x4' = some r → W p l e (rmZ 8 193) s m args below meth c H' locs' 0 0 (QI g σ below args s r) (F0 m 42 ls' [])) (hk52 : ∀ {H' : Heap} {locs' : List Loc} {ls' : Array Slot} {X' : Mx} {x2' : Int32} {x3' : Int32} {x5' : Int32}, Wd g σ X' s H' locs' → lv_has ls' 7 [(0, .ref a), (1, .int x1), (2, .int x2'), (3, .int x3'), (4, .int x4), (5, .int x5')] → k52 X' x2' x3' x5' = some r → W p l e (rmZ 8 193) s m args below meth c H' locs' 0 0 (QI g σ below args s r) (F0 m 52 ls' [])) (hk87 : ∀ {H' : Heap} {locs' : List Loc} {ls' : Array Slot} {X' : Mx} {x2' : Int32} {x3' : Int32} {x6' : Int32}, Wd g σ X' s H' locs' → lv_has ls' 7 [(0, .ref a), (1, .int x1), (2, .int x2'), (3, .int x3'), (4, .int x4), (5, .int x5), (6, .int x6')] → k87 X' x2' x3' x6' = some r → W p l e (rmZ 8 193) s m args below meth c H' locs' 0 0 (QI g σ below args s r) (F0 m 87 ls' [])) (hW : Wd g σ X s H locs) (hl : lv_has ls 7 [(0, .ref a), (1, .int x1), (2, .int x2), (3, .int x3), (4, .int x4), (5, .int x5), (6, .int x6)]) (h : f_X10_edited_155 k42 k52 k87 σ a x1 x2 x3 x4 x5 x6 X = some r) : W p l e (rmZ 8 193) s m args below meth c H locs 0 0 (QI g σ below args s r) (F0 m 155 ls []) := by
  have hx := C.x
  have hb := C.b
  unfold f_X10_edited_155 at h
  refine lv_iinc (v := (x6 + 1)) (lv' := [(6, .int (x6 + 1)), (0, .ref a), (1, .int x1), (2, .int x2), (3, .int x3), (4, .int x4), (5, .int x5)]) hx hb dX10_edited_155 hl (k := 6) rfl rfl (by decide) rfl (fun ls hl => ?_)
  refine lv_goto (tgt := 87) hx hb dX10_edited_158 (by decide) ?_
  exact hk87 hW (lv_sub hl [1, 2, 3, 4, 5, 6, 0] rfl) h
set_option maxRecDepth 20000 in
set_option maxHeartbeats 2000000 in
theorem b_X10_edited_87 {k42 : Mx → Int32 → Int32 → Int32 → Option (Int32 × Mx)} {k52 : Mx → Int32 → Int32 → Int32 → Option (Int32 × Mx)} {a : Nat} {x1 : Int32} {x4 : Int32} {x5 : Int32} (C : Cx g RX10 cX10_edited 7 (some .int) p s m args meth c) {r : (Int32 × Mx)} (hk42 : ∀ {H' : Heap} {locs' : List Loc} {ls' : Array Slot} {X' : Mx} {x2' : Int32} {x3' : Int32} {x4' : Int32}, Wd g σ X' s H' locs' → lv_has ls' 7 [(0, .ref a), (1, .int x1), (2, .int x2'), (3, .int x3'), (4, .int x4')] → k42 X' x2' x3' x4' = some r → W p l e (rmZ 8 193) s m args below meth c H' locs' 0 0 (QI g σ below args s r) (F0 m 42 ls' [])) (hk52 : ∀ {H' : Heap} {locs' : List Loc} {ls' : Array Slot} {X' : Mx} {x2' : Int32} {x3' : Int32} {x5' : Int32}, Wd g σ X' s H' locs' → lv_has ls' 7 [(0, .ref a), (1, .int x1), (2, .int x2'), (3, .int x3'), (4, .int x4), (5, .int x5')] → k52 X' x2' x3' x5' = some r → W p l e (rmZ 8 193) s m args below meth c H' locs' 0 0 (QI g σ below args s r) (F0 m 52 ls' [])) : ∀ (n : Nat) {X : Mx} {x2 : Int32} {x3 : Int32} {x6 : Int32} {H : Heap} {locs : List Loc} {ls : Array Slot} (hW : Wd g σ X s H locs) (hl : lv_has ls 7 [(0, .ref a), (1, .int x1), (2, .int x2), (3, .int x3), (4, .int x4), (5, .int x5), (6, .int x6)]) (h : f_X10_edited_87 k42 k52 σ a x1 x4 x5 n X x2 x3 x6 = some r), W p l e (rmZ 8 193) s m args below meth c H locs 0 0 (QI g σ below args s r) (F0 m 87 ls []) := by
  have hx := C.x
  have hb := C.b
  intro n
  induction n with
  | zero =>
    intro X x2 x3 x6 H locs ls hW hl h
    cases (show none = some r from h)
  | succ n ih =>
    intro X x2 x3 x6 H locs ls hW hl h
    rw [f_X10_edited_87] at h
    refine lv_iload hx hb dX10_edited_87 (lv_at hl 6 rfl) ?_
    refine lv_bipush (v := 10) hx hb dX10_edited_89 (by decide) ?_
    refine r_br h (lv_icmp_ge (tgt := 161) hx hb dX10_edited_91 (by decide)) (fun h => ?_) (fun h => ?_)
    · exact b_X10_edited_161 C hk42 hk52 hW (lv_sub hl [0, 1, 2, 3, 4, 5] rfl) h
    · refine lv_aload_n hx hb dX10_edited_94 rfl (lv_at hl 0 rfl) ?_
      obtain ⟨X2, h1, h⟩ := bnd_inv h
      refine r_cV hW (run_V (rest := []) C hW (t_X10_tries h1) mk_X10_tries vk_X10_267 (kd_X10_tries h1) rfl rfl (by decide) ⟨Nat.le_of_ble_eq_true rfl, Nat.le_of_ble_eq_true rfl⟩ ⟨Nat.zero_le _, Nat.zero_le _⟩ rfl rfl (Nat.le_of_ble_eq_true rfl) hl.1 dX10_edited_95) (fun H locs hW _ => ?_)
      refine lv_aload_n hx hb dX10_edited_98 rfl (lv_at hl 0 rfl) ?_
      refine lv_sipush (v := 931) hx hb dX10_edited_99 (by decide) ?_
      refine lv_iconst (v := 1) hx hb dX10_edited_102 (by decide) ?_
      refine lv_iload hx hb dX10_edited_103 (lv_at hl 4 rfl) ?_
      refine lv_iload hx hb dX10_edited_105 (lv_at hl 5 rfl) ?_
      refine lv_iload hx hb dX10_edited_107 (lv_at hl 6 rfl) ?_
      obtain ⟨v5, X4, h3, h⟩ := bnd2_inv h
      refine r_cI hW (run_V (rest := []) C hW (t_X10_sets h3) mk_X10_sets vk_X10_250 (kd_X10_sets h3) rfl rfl (by decide) ⟨Nat.le_of_ble_eq_true rfl, Nat.le_of_ble_eq_true rfl⟩ ⟨Nat.zero_le _, Nat.zero_le _⟩ rfl rfl (Nat.le_of_ble_eq_true rfl) hl.1 dX10_edited_109) (fun H locs hW _ => ?_)
      refine r_br h (lv_if_eq (tgt := 155) hx hb dX10_edited_112 (by decide)) (fun h => ?_) (fun h => ?_)
      · exact b_X10_edited_155 C hk42 hk52 (fun hW hl h => ih hW hl h) hW (lv_sub hl [0, 1, 2, 3, 4, 5, 6] rfl) h
      · refine lv_aload_n hx hb dX10_edited_115 rfl (lv_at hl 0 rfl) ?_
        refine lv_sipush (v := 931) hx hb dX10_edited_116 (by decide) ?_
        obtain ⟨v8, X7, h6, h⟩ := bnd2_inv h
        refine r_cI hW (run_V (rest := []) C hW (t_X10_isSeen h6) mk_X10_isSeen vk_X10_421 (kd_X10_isSeen h6) rfl rfl (by decide) ⟨Nat.le_of_ble_eq_true rfl, Nat.le_of_ble_eq_true rfl⟩ ⟨Nat.zero_le _, Nat.zero_le _⟩ rfl rfl (Nat.le_of_ble_eq_true rfl) hl.1 dX10_edited_119) (fun H locs hW _ => ?_)
        refine r_brn h (lv_if_ne (tgt := 128) hx hb dX10_edited_122 (by decide)) (fun h => ?_) (fun h => ?_)
        · refine lv_iinc (v := (x2 + 1)) (lv' := [(2, .int (x2 + 1)), (0, .ref a), (1, .int x1), (3, .int x3), (4, .int x4), (5, .int x5), (6, .int x6)]) hx hb dX10_edited_128 hl (k := 2) rfl rfl (by decide) rfl (fun ls hl => ?_)
          refine lv_iload_n hx hb dX10_edited_131 rfl (lv_at hl 3 rfl) ?_
          refine lv_iconst (v := (-1)) hx hb dX10_edited_132 (by decide) ?_
          refine r_brn h (lv_icmp_ne (tgt := 155) hx hb dX10_edited_133 (by decide)) (fun h => ?_) (fun h => ?_)
          · exact b_X10_edited_155 C hk42 hk52 (fun hW hl h => ih hW hl h) hW (lv_sub hl [1, 2, 0, 3, 4, 5, 6] rfl) h
          · refine lv_sipush (v := 1000) hx hb dX10_edited_136 (by decide) ?_
            refine lv_iload hx hb dX10_edited_139 (lv_at hl 4 rfl) ?_
            refine lv_imul hx hb dX10_edited_141 ?_
            refine lv_bipush (v := 100) hx hb dX10_edited_142 (by decide) ?_
            refine lv_iload hx hb dX10_edited_144 (lv_at hl 5 rfl) ?_
            refine lv_imul hx hb dX10_edited_146 ?_
            refine lv_iadd hx hb dX10_edited_147 ?_
            refine lv_iload hx hb dX10_edited_148 (lv_at hl 6 rfl) ?_
            refine lv_iadd hx hb dX10_edited_150 ?_
            refine lv_bipush (v := 50) hx hb dX10_edited_151 (by decide) ?_
            refine lv_iadd hx hb dX10_edited_153 ?_
            refine lv_istore_n (lv' := [(3, .int ((((1000 * x4) + (100 * x5)) + x6) + 50)), (2, .int (x2 + 1)), (0, .ref a), (1, .int x1), (4, .int x4), (5, .int x5), (6, .int x6)]) hx hb dX10_edited_154 rfl hl (by decide) rfl (fun ls hl => ?_)
            exact b_X10_edited_155 C hk42 hk52 (fun hW hl h => ih hW hl h) hW (lv_sub hl [2, 3, 1, 0, 4, 5, 6] rfl) h
        · refine lv_goto (tgt := 155) hx hb dX10_edited_125 (by decide) ?_
          exact b_X10_edited_155 C hk42 hk52 (fun hW hl h => ih hW hl h) hW (lv_sub hl [0, 1, 2, 3, 4, 5, 6] rfl) h
set_option maxRecDepth 20000 in
set_option maxHeartbeats 2000000 in
theorem b_X10_edited_52 {k42 : Mx → Int32 → Int32 → Int32 → Option (Int32 × Mx)} {a : Nat} {x1 : Int32} {x4 : Int32} (C : Cx g RX10 cX10_edited 7 (some .int) p s m args meth c) {r : (Int32 × Mx)} (hk42 : ∀ {H' : Heap} {locs' : List Loc} {ls' : Array Slot} {X' : Mx} {x2' : Int32} {x3' : Int32} {x4' : Int32}, Wd g σ X' s H' locs' → lv_has ls' 7 [(0, .ref a), (1, .int x1), (2, .int x2'), (3, .int x3'), (4, .int x4')] → k42 X' x2' x3' x4' = some r → W p l e (rmZ 8 193) s m args below meth c H' locs' 0 0 (QI g σ below args s r) (F0 m 42 ls' [])) : ∀ (n : Nat) {X : Mx} {x2 : Int32} {x3 : Int32} {x5 : Int32} {H : Heap} {locs : List Loc} {ls : Array Slot} (hW : Wd g σ X s H locs) (hl : lv_has ls 7 [(0, .ref a), (1, .int x1), (2, .int x2), (3, .int x3), (4, .int x4), (5, .int x5)]) (h : f_X10_edited_52 k42 σ a x1 x4 n X x2 x3 x5 = some r), W p l e (rmZ 8 193) s m args below meth c H locs 0 0 (QI g σ below args s r) (F0 m 52 ls []) := by
  have hx := C.x
  have hb := C.b
  intro n
  induction n with
  | zero =>
    intro X x2 x3 x5 H locs ls hW hl h
    cases (show none = some r from h)
  | succ n ih =>
    intro X x2 x3 x5 H locs ls hW hl h
    rw [f_X10_edited_52] at h
    refine lv_iload hx hb dX10_edited_52 (lv_at hl 5 rfl) ?_
    refine lv_iconst (v := 5) hx hb dX10_edited_54 (by decide) ?_
    refine r_br h (lv_icmp_ge (tgt := 167) hx hb dX10_edited_55 (by decide)) (fun h => ?_) (fun h => ?_)
    · refine lv_iinc (v := (x4 + 1)) (lv' := [(4, .int (x4 + 1)), (0, .ref a), (1, .int x1), (2, .int x2), (3, .int x3), (5, .int x5)]) hx hb dX10_edited_167 hl (k := 4) rfl rfl (by decide) rfl (fun ls hl => ?_)
      refine lv_goto (tgt := 42) hx hb dX10_edited_170 (by decide) ?_
      exact hk42 hW (lv_sub hl [1, 2, 3, 4, 0] rfl) h
    · refine lv_aload_n hx hb dX10_edited_58 rfl (lv_at hl 0 rfl) ?_
      refine lv_iconst (v := 0) hx hb dX10_edited_59 (by decide) ?_
      refine lv_iconst (v := 2) hx hb dX10_edited_60 (by decide) ?_
      refine lv_iload hx hb dX10_edited_61 (lv_at hl 4 rfl) ?_
      obtain ⟨v2, h1, h⟩ := bnd_inv h
      refine r_cI hW (run_V (rest := []) C hW (t_X10_hasRow h1) mk_X10_hasRow vk_X10_160 (kd_X10_hasRow h1) rfl rfl (by decide) ⟨Nat.le_of_ble_eq_true rfl, Nat.le_of_ble_eq_true rfl⟩ ⟨Nat.zero_le _, Nat.zero_le _⟩ rfl rfl (Nat.le_of_ble_eq_true rfl) hl.1 dX10_edited_63) (fun H locs hW _ => ?_)
      refine r_br h (lv_if_eq (tgt := 161) hx hb dX10_edited_66 (by decide)) (fun h => ?_) (fun h => ?_)
      · exact b_X10_edited_161 C hk42 (fun hW hl h => ih hW hl h) hW (lv_sub hl [0, 1, 2, 3, 4, 5] rfl) h
      · refine lv_aload_n hx hb dX10_edited_69 rfl (lv_at hl 0 rfl) ?_
        refine lv_iconst (v := 0) hx hb dX10_edited_70 (by decide) ?_
        refine lv_iconst (v := 2) hx hb dX10_edited_71 (by decide) ?_
        refine lv_iload hx hb dX10_edited_72 (lv_at hl 5 rfl) ?_
        obtain ⟨v4, h3, h⟩ := bnd_inv h
        refine r_cI hW (run_V (rest := []) C hW (t_X10_hasColumn h3) mk_X10_hasColumn vk_X10_234 (kd_X10_hasColumn h3) rfl rfl (by decide) ⟨Nat.le_of_ble_eq_true rfl, Nat.le_of_ble_eq_true rfl⟩ ⟨Nat.zero_le _, Nat.zero_le _⟩ rfl rfl (Nat.le_of_ble_eq_true rfl) hl.1 dX10_edited_74) (fun H locs hW _ => ?_)
        refine r_brn h (lv_if_ne (tgt := 83) hx hb dX10_edited_77 (by decide)) (fun h => ?_) (fun h => ?_)
        · refine lv_bipush (v := (-9)) hx hb dX10_edited_83 (by decide) ?_
          refine lv_istore (lv' := [(6, .int (-9)), (0, .ref a), (1, .int x1), (2, .int x2), (3, .int x3), (4, .int x4), (5, .int x5)]) hx hb dX10_edited_85 hl (by decide) rfl (fun ls hl => ?_)
          exact b_X10_edited_87 C hk42 (fun hW hl h => ih hW hl h) FU hW (lv_sub hl [1, 2, 3, 4, 5, 6, 0] rfl) h
        · refine lv_goto (tgt := 161) hx hb dX10_edited_80 (by decide) ?_
          exact b_X10_edited_161 C hk42 (fun hW hl h => ih hW hl h) hW (lv_sub hl [0, 1, 2, 3, 4, 5] rfl) h
set_option maxRecDepth 20000 in
set_option maxHeartbeats 2000000 in
theorem b_X10_edited_42 {a : Nat} {x1 : Int32} (C : Cx g RX10 cX10_edited 7 (some .int) p s m args meth c) {r : (Int32 × Mx)} : ∀ (n : Nat) {X : Mx} {x2 : Int32} {x3 : Int32} {x4 : Int32} {H : Heap} {locs : List Loc} {ls : Array Slot} (hW : Wd g σ X s H locs) (hl : lv_has ls 7 [(0, .ref a), (1, .int x1), (2, .int x2), (3, .int x3), (4, .int x4)]) (h : f_X10_edited_42 σ a x1 n X x2 x3 x4 = some r), W p l e (rmZ 8 193) s m args below meth c H locs 0 0 (QI g σ below args s r) (F0 m 42 ls []) := by
  have hx := C.x
  have hb := C.b
  intro n
  induction n with
  | zero =>
    intro X x2 x3 x4 H locs ls hW hl h
    cases (show none = some r from h)
  | succ n ih =>
    intro X x2 x3 x4 H locs ls hW hl h
    rw [f_X10_edited_42] at h
    refine lv_iload hx hb dX10_edited_42 (lv_at hl 4 rfl) ?_
    refine lv_bipush (v := 20) hx hb dX10_edited_44 (by decide) ?_
    refine r_br h (lv_icmp_ge (tgt := 173) hx hb dX10_edited_46 (by decide)) (fun h => ?_) (fun h => ?_)
    · refine lv_iload_n hx hb dX10_edited_173 rfl (lv_at hl 1 rfl) ?_
      refine r_brn h (lv_if_ne (tgt := 181) hx hb dX10_edited_174 (by decide)) (fun h => ?_) (fun h => ?_)
      · refine lv_iload_n hx hb dX10_edited_181 rfl (lv_at hl 3 rfl) ?_
        exact r_iret C hW (Option.some.inj h).symm rfl dX10_edited_182
      · refine lv_iload_n hx hb dX10_edited_177 rfl (lv_at hl 2 rfl) ?_
        refine lv_goto (tgt := 182) hx hb dX10_edited_178 (by decide) ?_
        exact r_iret C hW (Option.some.inj h).symm rfl dX10_edited_182
    · refine lv_iconst (v := 0) hx hb dX10_edited_49 (by decide) ?_
      refine lv_istore (lv' := [(5, .int 0), (0, .ref a), (1, .int x1), (2, .int x2), (3, .int x3), (4, .int x4)]) hx hb dX10_edited_50 hl (by decide) rfl (fun ls hl => ?_)
      exact b_X10_edited_52 C (fun hW hl h => ih hW hl h) FU hW (lv_sub hl [1, 2, 3, 4, 5, 0] rfl) h
end
