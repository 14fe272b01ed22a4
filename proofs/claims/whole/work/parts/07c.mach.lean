section
variable {p : Program} {l : Launch} {e : Env} {s : State} {m : MethodId} {args : Array Value} {below : List Frame} {meth : Method} {c : Code} {H : Heap} {locs : List Loc} {g : Gp} {σ : Sh} {ls : Array Slot}
theorem kd_X3_wouldBeSo {X : Mx} {r : (Int32 × Mx)} {a : Nat} {a1 : Nat} {a2 : Nat} {x3 : Int32} {x4 : Int32} {x5 : Int32} (h : f_X3_wouldBeSo σ X a a1 a2 x3 x4 x5 = some r) : shK σ a = 2 := (grd_inv h).1
set_option maxRecDepth 20000 in
set_option maxHeartbeats 2000000 in
theorem t_X3_wouldBeSo {X : Mx} {r : (Int32 × Mx)} {a : Nat} {a1 : Nat} {a2 : Nat} {x3 : Int32} {x4 : Int32} {x5 : Int32} (h : f_X3_wouldBeSo σ X a a1 a2 x3 x4 x5 = some r) : MtI g l yX3_wouldBeSo cX3_wouldBeSo 7 (some .boolean) 5 121 [.ref a, .ref a1, .ref a2, .int x3, .int x4, .int x5] σ X r := by
  refine met_of mk_X3_wouldBeSo (Nat.le_of_ble_eq_true rfl) (fun p e s m args below meth c ls C hW hl => ?_)
  have hx := C.x
  have hb := C.b
  have hl : lv_has ls 7 [(0, .ref a), (1, .ref a1), (2, .ref a2), (3, .int x3), (4, .int x4), (5, .int x5)] := hl
  unfold f_X3_wouldBeSo at h
  obtain ⟨hk0, h⟩ := grd_inv h
  refine lv_aload_n hx hb dX3_wouldBeSo_0 rfl (lv_at hl 1 rfl) ?_
  refine r_gR C hW h fl_X3_134 (by decide) dX3_wouldBeSo_1 (fun b1 h => ?_)
  refine lv_iload_n hx hb dX3_wouldBeSo_4 rfl (lv_at hl 3 rfl) ?_
  refine lv_iload hx hb dX3_wouldBeSo_5 (lv_at hl 4 rfl) ?_
  obtain ⟨v3, h2, h⟩ := bnd_inv h
  refine r_cI hW (run_V (rest := []) C hW (t_X6_numberAt h2) mk_X6_numberAt vk_X3_111 (kd_X6_numberAt h2) rfl rfl (by decide) ⟨Nat.le_of_ble_eq_true rfl, Nat.le_of_ble_eq_true rfl⟩ ⟨Nat.zero_le _, Nat.zero_le _⟩ rfl rfl (Nat.le_of_ble_eq_true rfl) hl.1 dX3_wouldBeSo_7) (fun H locs hW _ => ?_)
  refine lv_istore (lv' := [(6, .int v3), (0, .ref a), (1, .ref a1), (2, .ref a2), (3, .int x3), (4, .int x4), (5, .int x5)]) hx hb dX3_wouldBeSo_10 hl (by decide) rfl (fun ls hl => ?_)
  refine lv_iload hx hb dX3_wouldBeSo_12 (lv_at hl 6 rfl) ?_
  refine lv_iload hx hb dX3_wouldBeSo_14 (lv_at hl 0 rfl) ?_
  refine r_br h (lv_icmp_eq (tgt := 37) hx hb dX3_wouldBeSo_16 (by decide)) (fun h => ?_) (fun h => ?_)
  · refine lv_iconst (v := 0) hx hb dX3_wouldBeSo_37 (by decide) ?_
    exact r_iret C hW (Option.some.inj h).symm rfl dX3_wouldBeSo_38
  · refine lv_aload_n hx hb dX3_wouldBeSo_19 rfl (lv_at hl 2 rfl) ?_
    refine r_gR C hW h fl_X3_134 (by decide) dX3_wouldBeSo_20 (fun b4 h => ?_)
    refine r_gR C hW h fl_X3_141 (by decide) dX3_wouldBeSo_23 (fun b5 h => ?_)
    refine lv_iload hx hb dX3_wouldBeSo_26 (lv_at hl 5 rfl) ?_
    refine r_iald C hW h dX3_wouldBeSo_28 (fun v6 h => ?_)
    refine lv_iload hx hb dX3_wouldBeSo_29 (lv_at hl 6 rfl) ?_
    refine r_cI hW (run_S (rest := []) C hW (t_X8_holds (X := X)) mk_X8_holds sk_X3_144 ⟨Nat.le_of_ble_eq_true rfl, Nat.le_of_ble_eq_true rfl⟩ ⟨Nat.zero_le _, Nat.zero_le _⟩ rfl rfl (Nat.le_of_ble_eq_true rfl) hl.1 dX3_wouldBeSo_31) (fun H locs hW _ => ?_)
    refine r_brn h (lv_if_ne (tgt := 39) hx hb dX3_wouldBeSo_34 (by decide)) (fun h => ?_) (fun h => ?_)
    · refine lv_aload_n hx hb dX3_wouldBeSo_39 rfl (lv_at hl 1 rfl) ?_
      refine r_gR C hW h fl_X3_12 (by decide) dX3_wouldBeSo_40 (fun b7 h => ?_)
      refine r_gR C hW h fl_X3_134 (by decide) dX3_wouldBeSo_43 (fun b8 h => ?_)
      refine lv_iload_n hx hb dX3_wouldBeSo_46 rfl (lv_at hl 4 rfl) ?_
      refine lv_iload hx hb dX3_wouldBeSo_47 (lv_at hl 5 rfl) ?_
      refine lv_iload hx hb dX3_wouldBeSo_49 (lv_at hl 6 rfl) ?_
      obtain ⟨X10, h9, h⟩ := bnd_inv h
      refine r_cV hW (run_V (rest := []) C hW (t_X6_putNumber h9) mk_X6_putNumber vk_X3_118 (kd_X6_putNumber h9) rfl rfl (by decide) ⟨Nat.le_of_ble_eq_true rfl, Nat.le_of_ble_eq_true rfl⟩ ⟨Nat.zero_le _, Nat.zero_le _⟩ rfl rfl (Nat.le_of_ble_eq_true rfl) hl.1 dX3_wouldBeSo_51) (fun H locs hW _ => ?_)
      refine lv_aload_n hx hb dX3_wouldBeSo_54 rfl (lv_at hl 1 rfl) ?_
      refine r_gR C hW h fl_X3_21 (by decide) dX3_wouldBeSo_55 (fun b11 h => ?_)
      refine lv_aload_n hx hb dX3_wouldBeSo_58 rfl (lv_at hl 1 rfl) ?_
      refine r_gR C hW h fl_X3_12 (by decide) dX3_wouldBeSo_59 (fun b12 h => ?_)
      obtain ⟨X14, h13, h⟩ := bnd_inv h
      refine r_cV hW (run_V (rest := []) C hW (t_X2_run h13) mk_X2_run vk_X3_45 (kd_X2_run h13) rfl rfl (by decide) ⟨Nat.le_of_ble_eq_true rfl, Nat.le_of_ble_eq_true rfl⟩ ⟨Nat.zero_le _, Nat.zero_le _⟩ rfl rfl (Nat.le_of_ble_eq_true rfl) hl.1 dX3_wouldBeSo_62) (fun H locs hW _ => ?_)
      refine lv_aload_n hx hb dX3_wouldBeSo_65 rfl (lv_at hl 1 rfl) ?_
      refine r_gR C hW h fl_X3_12 (by decide) dX3_wouldBeSo_66 (fun b15 h => ?_)
      refine r_gR C hW h fl_X3_134 (by decide) dX3_wouldBeSo_69 (fun b16 h => ?_)
      refine lv_iload_n hx hb dX3_wouldBeSo_72 rfl (lv_at hl 4 rfl) ?_
      refine lv_iload hx hb dX3_wouldBeSo_73 (lv_at hl 5 rfl) ?_
      refine lv_iload hx hb dX3_wouldBeSo_75 (lv_at hl 0 rfl) ?_
      obtain ⟨X18, h17, h⟩ := bnd_inv h
      refine r_cV hW (run_V (rest := []) C hW (t_X6_putNumber h17) mk_X6_putNumber vk_X3_118 (kd_X6_putNumber h17) rfl rfl (by decide) ⟨Nat.le_of_ble_eq_true rfl, Nat.le_of_ble_eq_true rfl⟩ ⟨Nat.zero_le _, Nat.zero_le _⟩ rfl rfl (Nat.le_of_ble_eq_true rfl) hl.1 dX3_wouldBeSo_77) (fun H locs hW _ => ?_)
      refine lv_aload_n hx hb dX3_wouldBeSo_80 rfl (lv_at hl 3 rfl) ?_
      refine lv_aload_n hx hb dX3_wouldBeSo_81 rfl (lv_at hl 1 rfl) ?_
      refine r_gR C hW h fl_X3_21 (by decide) dX3_wouldBeSo_82 (fun b19 h => ?_)
      refine r_gR C hW h fl_X3_70 (by decide) dX3_wouldBeSo_85 (fun b20 h => ?_)
      obtain ⟨v22, h21, h⟩ := bnd_inv h
      refine r_cI hW (run_V (rest := []) C hW (t_X4_isSo h21) mk_X4_isSo vk_X3_122 (kd_X4_isSo h21) rfl rfl (by decide) ⟨Nat.le_of_ble_eq_true rfl, Nat.le_of_ble_eq_true rfl⟩ ⟨Nat.zero_le _, Nat.zero_le _⟩ rfl rfl (Nat.le_of_ble_eq_true rfl) hl.1 dX3_wouldBeSo_88) (fun H locs hW _ => ?_)
      obtain ⟨hz, h⟩ := grd_inv h
      exact r_iret C hW (Option.some.inj h).symm (zb hz) dX3_wouldBeSo_91
    · refine lv_iconst (v := 0) hx hb dX3_wouldBeSo_37 (by decide) ?_
      exact r_iret C hW (Option.some.inj h).symm rfl dX3_wouldBeSo_38
set_option maxRecDepth 20000 in
set_option maxHeartbeats 2000000 in
theorem b_X3_findEdited_158 {k48 : Mx → Int32 → Int32 → Int32 → Option Mx} {k58 : Mx → Int32 → Int32 → Int32 → Option Mx} {a : Nat} {a1 : Nat} {a2 : Nat} {x3 : Int32} {x4 : Int32} {x5 : Int32} {x6 : Int32} {x7 : Int32} (C : Cx g RX3 cX3_findEdited 9 none p s m args meth c) {r : Mx} {X : Mx} (hk48 : ∀ {H' : Heap} {locs' : List Loc} {ls' : Array Slot} {X' : Mx} {x4' : Int32} {x5' : Int32} {x6' : Int32}, Wd g σ X' s H' locs' → lv_has ls' 9 [(0, .ref a), (1, .ref a1), (2, .ref a2), (3, .int x3), (4, .int x4'), (5, .int x5'), (6, .int x6')] → k48 X' x4' x5' x6' = some r → W p l e (rmZ 6 147) s m args below meth c H' locs' 0 0 (QV g σ below args s r) (F0 m 48 ls' [])) (hk58 : ∀ {H' : Heap} {locs' : List Loc} {ls' : Array Slot} {X' : Mx} {x4' : Int32} {x5' : Int32} {x7' : Int32}, Wd g σ X' s H' locs' → lv_has ls' 9 [(0, .ref a), (1, .ref a1), (2, .ref a2), (3, .int x3), (4, .int x4'), (5, .int x5'), (6, .int x6), (7, .int x7')] → k58 X' x4' x5' x7' = some r → W p l e (rmZ 6 147) s m args below meth c H' locs' 0 0 (QV g σ below args s r) (F0 m 58 ls' [])) (hW : Wd g σ X s H locs) (hl : lv_has ls 9 [(0, .ref a), (1, .ref a1), (2, .ref a2), (3, .int x3), (4, .int x4), (5, .int x5), (6, .int x6), (7, .int x7)]) (h : f_X3_findEdited_158 k48 k58 σ a a1 a2 x3 x4 x5 x6 x7 X = some r) : W p l e (rmZ 6 147) s m args below meth c H locs 0 0 (QV g σ below args s r) (F0 m 158 ls []) := by
  have hx := C.x
  have hb := C.b
  unfold f_X3_findEdited_158 at h
  refine lv_iinc (v := (x7 + 1)) (lv' := [(7, .int (x7 + 1)), (0, .ref a), (1, .ref a1), (2, .ref a2), (3, .int x3), (4, .int x4), (5, .int x5), (6, .int x6)]) hx hb dX3_findEdited_158 hl (k := 7) rfl rfl (by decide) rfl (fun ls hl => ?_)
  refine lv_goto (tgt := 58) hx hb dX3_findEdited_161 (by decide) ?_
  exact hk58 hW (lv_sub hl [1, 2, 3, 4, 5, 6, 7, 0] rfl) h
set_option maxRecDepth 20000 in
set_option maxHeartbeats 2000000 in
theorem b_X3_findEdited_152 {k48 : Mx → Int32 → Int32 → Int32 → Option Mx} {k58 : Mx → Int32 → Int32 → Int32 → Option Mx} {k96 : Mx → Int32 → Int32 → Int32 → Option Mx} {a : Nat} {a1 : Nat} {a2 : Nat} {x3 : Int32} {x4 : Int32} {x5 : Int32} {x6 : Int32} {x7 : Int32} {x8 : Int32} (C : Cx g RX3 cX3_findEdited 9 none p s m args meth c) {r : Mx} {X : Mx} (hk48 : ∀ {H' : Heap} {locs' : List Loc} {ls' : Array Slot} {X' : Mx} {x4' : Int32} {x5' : Int32} {x6' : Int32}, Wd g σ X' s H' locs' → lv_has ls' 9 [(0, .ref a), (1, .ref a1), (2, .ref a2), (3, .int x3), (4, .int x4'), (5, .int x5'), (6, .int x6')] → k48 X' x4' x5' x6' = some r → W p l e (rmZ 6 147) s m args below meth c H' locs' 0 0 (QV g σ below args s r) (F0 m 48 ls' [])) (hk58 : ∀ {H' : Heap} {locs' : List Loc} {ls' : Array Slot} {X' : Mx} {x4' : Int32} {x5' : Int32} {x7' : Int32}, Wd g σ X' s H' locs' → lv_has ls' 9 [(0, .ref a), (1, .ref a1), (2, .ref a2), (3, .int x3), (4, .int x4'), (5, .int x5'), (6, .int x6), (7, .int x7')] → k58 X' x4' x5' x7' = some r → W p l e (rmZ 6 147) s m args below meth c H' locs' 0 0 (QV g σ below args s r) (F0 m 58 ls' [])) (hk96 : ∀ {H' : Heap} {locs' : List Loc} {ls' : Array Slot} {X' : Mx} {x4' : Int32} {x5' : Int32} {x8' : Int32}, Wd g σ X' s H' locs' → lv_has ls' 9 [(0, .ref a), (1, .ref a1), (2, .ref a2), (3, .int x3), (4, .int x4'), (5, .int x5'), (6, .int x6), (7, .int x7), (8, .int x8')] → k96 X' x4' x5' x8' = some r → W p l e (rmZ 6 147) s m args below meth c H' locs' 0 0 (QV g σ below args s r) (F0 m 96 ls' [])) (hW : Wd g σ X s H locs) (hl : lv_has ls 9 [(0, .ref a), (1, .ref a1), (2, .ref a2), (3, .int x3), (4, .int x4), (5, .int x5), (6, .int x6), (7, .int x7), (8, .int x8)]) (h : f_X3_findEdited_152 k48 k58 k96 σ a a1 a2 x3 x4 x5 x6 x7 x8 X = some r) : W p l e (rmZ 6 147) s m args below meth c H locs 0 0 (QV g σ below args s r) (F0 m 152 ls []) := by
  have hx := C.x
  have hb := C.b
  unfold f_X3_findEdited_152 at h
  refine lv_iinc (v := (x8 + 1)) (lv' := [(8, .int (x8 + 1)), (0, .ref a), (1, .ref a1), (2, .ref a2), (3, .int x3), (4, .int x4), (5, .int x5), (6, .int x6), (7, .int x7)]) hx hb dX3_findEdited_152 hl (k := 8) rfl rfl (by decide) rfl (fun ls hl => ?_)
  refine lv_goto (tgt := 96) hx hb dX3_findEdited_155 (by decide) ?_
  exact hk96 hW (lv_sub hl [1, 2, 3, 4, 5, 6, 7, 8, 0] rfl) h
set_option maxRecDepth 20000 in
set_option maxHeartbeats 2000000 in
theorem b_X3_findEdited_150 {k48 : Mx → Int32 → Int32 → Int32 → Option Mx} {k58 : Mx → Int32 → Int32 → Int32 → Option Mx} {k96 : Mx → Int32 → Int32 → Int32 → Option Mx} {a : Nat} {a1 : Nat} {a2 : Nat} {x3 : Int32} {x4 : Int32} {x6 : Int32} {x7 : Int32} {x8 : Int32} (C : Cx g RX3 cX3_findEdited 9 none p s m args meth c) {r : Mx} {X : Mx} {y0 : Int32} (hk48 : ∀ {H' : Heap} {locs' : List Loc} {ls' : Array Slot} {X' : Mx} {x4' : Int32} {x5' : Int32} {x6' : Int32}, Wd g σ X' s H' locs' → lv_has ls' 9 [(0, .ref a), (1, .ref a1), (2, .ref a2), (3, .int x3), (4, .int x4'), (5, .int x5'), (6, .int x6')] → k48 X' x4' x5' x6' = some r → W p l e (rmZ 6 147) s m args below meth c H' locs' 0 0 (QV g σ below args s r) (F0 m 48 ls' [])) (hk58 : ∀ {H' : Heap} {locs' : List Loc} {ls' : Array Slot} {X' : Mx} {x4' : Int32} {x5' : Int32} {x7' : Int32}, Wd g σ X' s H' locs' → lv_has ls' 9 [(0, .ref a), (1, .ref a1), (2, .ref a2), (3, .int x3), (4, .int x4'), (5, .int x5'), (6, .int x6), (7, .int x7')] → k58 X' x4' x5' x7' = some r → W p l e (rmZ 6 147) s m args below meth c H' locs' 0 0 (QV g σ below args s r) (F0 m 58 ls' [])) (hk96 : ∀ {H' : Heap} {locs' : List Loc} {ls' : Array Slot} {X' : Mx} {x4' : Int32} {x5' : Int32} {x8' : Int32}, Wd g σ X' s H' locs' → lv_has ls' 9 [(0, .ref a), (1, .ref a1), (2, .ref a2), (3, .int x3), (4, .int x4'), (5, .int x5'), (6, .int x6), (7, .int x7), (8, .int x8')] → k96 X' x4' x5' x8' = some r → W p l e (rmZ 6 147) s m args below meth c H' locs' 0 0 (QV g σ below args s r) (F0 m 96 ls' [])) (hW : Wd g σ X s H locs) (hl : lv_has ls 9 [(0, .ref a), (1, .ref a1), (2, .ref a2), (3, .int x3), (4, .int x4), (6, .int x6), (7, .int x7), (8, .int x8)]) (h : f_X3_findEdited_150 k48 k58 k96 σ a a1 a2 x3 x4 x6 x7 x8 X y0 = some r) : W p l e (rmZ 6 147) s m args below meth c H locs 0 0 (QV g σ below args s r) (F0 m 150 ls [.int y0]) := by
  have hx := C.x
  have hb := C.b
  unfold f_X3_findEdited_150 at h
  refine lv_istore (lv' := [(5, .int y0), (0, .ref a), (1, .ref a1), (2, .ref a2), (3, .int x3), (4, .int x4), (6, .int x6), (7, .int x7), (8, .int x8)]) hx hb dX3_findEdited_150 hl (by decide) rfl (fun ls hl => ?_)
  exact b_X3_findEdited_152 C hk48 hk58 hk96 hW (lv_sub hl [1, 2, 3, 4, 5, 0, 6, 7, 8] rfl) h
set_option maxRecDepth 20000 in
set_option maxHeartbeats 2000000 in
theorem b_X3_findEdited_96 {k48 : Mx → Int32 → Int32 → Int32 → Option Mx} {k58 : Mx → Int32 → Int32 → Int32 → Option Mx} {a : Nat} {a1 : Nat} {a2 : Nat} {x3 : Int32} {x6 : Int32} {x7 : Int32} (C : Cx g RX3 cX3_findEdited 9 none p s m args meth c) {r : Mx} (hk48 : ∀ {H' : Heap} {locs' : List Loc} {ls' : Array Slot} {X' : Mx} {x4' : Int32} {x5' : Int32} {x6' : Int32}, Wd g σ X' s H' locs' → lv_has ls' 9 [(0, .ref a), (1, .ref a1), (2, .ref a2), (3, .int x3), (4, .int x4'), (5, .int x5'), (6, .int x6')] → k48 X' x4' x5' x6' = some r → W p l e (rmZ 6 147) s m args below meth c H' locs' 0 0 (QV g σ below args s r) (F0 m 48 ls' [])) (hk58 : ∀ {H' : Heap} {locs' : List Loc} {ls' : Array Slot} {X' : Mx} {x4' : Int32} {x5' : Int32} {x7' : Int32}, Wd g σ X' s H' locs' → lv_has ls' 9 [(0, .ref a), (1, .ref a1), (2, .ref a2), (3, .int x3), (4, .int x4'), (5, .int x5'), (6, .int x6), (7, .int x7')] → k58 X' x4' x5' x7' = some r → W p l e (rmZ 6 147) s m args below meth c H' locs' 0 0 (QV g σ below args s r) (F0 m 58 ls' [])) : ∀ (n : Nat) {X : Mx} {x4 : Int32} {x5 : Int32} {x8 : Int32} {H : Heap} {locs : List Loc} {ls : Array Slot} (hW : Wd g σ X s H locs) (hl : lv_has ls 9 [(0, .ref a), (1, .ref a1), (2, .ref a2), (3, .int x3), (4, .int x4), (5, .int x5), (6, .int x6), (7, .int x7), (8, .int x8)]) (h : f_X3_findEdited_96 k48 k58 σ a a1 a2 x3 x6 x7 n X x4 x5 x8 = some r), W p l e (rmZ 6 147) s m args below meth c H locs 0 0 (QV g σ below args s r) (F0 m 96 ls []) := by
  have hx := C.x
  have hb := C.b
  intro n
  induction n with
  | zero =>
    intro X x4 x5 x8 H locs ls hW hl h
    cases (show none = some r from h)
  | succ n ih =>
    intro X x4 x5 x8 H locs ls hW hl h
    rw [f_X3_findEdited_96] at h
    refine lv_iload hx hb dX3_findEdited_96 (lv_at hl 8 rfl) ?_
    refine lv_bipush (v := 9) hx hb dX3_findEdited_98 (by decide) ?_
    refine r_br h (lv_icmp_gt (tgt := 158) hx hb dX3_findEdited_100 (by decide)) (fun h => ?_) (fun h => ?_)
    · exact b_X3_findEdited_158 C hk48 hk58 hW (lv_sub hl [0, 1, 2, 3, 4, 5, 6, 7] rfl) h
    · refine lv_aload_n hx hb dX3_findEdited_103 rfl (lv_at hl 0 rfl) ?_
      refine lv_aload_n hx hb dX3_findEdited_104 rfl (lv_at hl 1 rfl) ?_
      refine lv_aload_n hx hb dX3_findEdited_105 rfl (lv_at hl 2 rfl) ?_
      refine lv_iload hx hb dX3_findEdited_106 (lv_at hl 6 rfl) ?_
      refine lv_iload hx hb dX3_findEdited_108 (lv_at hl 7 rfl) ?_
      refine lv_iload hx hb dX3_findEdited_110 (lv_at hl 8 rfl) ?_
      obtain ⟨v3, X2, h1, h⟩ := bnd2_inv h
      refine r_cI hW (run_V (rest := []) C hW (t_X3_wouldBeSo h1) mk_X3_wouldBeSo vk_X3_137 (kd_X3_wouldBeSo h1) rfl rfl (by decide) ⟨Nat.le_of_ble_eq_true rfl, Nat.le_of_ble_eq_true rfl⟩ ⟨Nat.zero_le _, Nat.zero_le _⟩ rfl rfl (Nat.le_of_ble_eq_true rfl) hl.1 dX3_findEdited_112) (fun H locs hW _ => ?_)
      refine r_br h (lv_if_eq (tgt := 152) hx hb dX3_findEdited_115 (by decide)) (fun h => ?_) (fun h => ?_)
      · exact b_X3_findEdited_152 C hk48 hk58 (fun hW hl h => ih hW hl h) hW (lv_sub hl [0, 1, 2, 3, 4, 5, 6, 7, 8] rfl) h
      · refine lv_iinc (v := (x4 + 1)) (lv' := [(4, .int (x4 + 1)), (0, .ref a), (1, .ref a1), (2, .ref a2), (3, .int x3), (5, .int x5), (6, .int x6), (7, .int x7), (8, .int x8)]) hx hb dX3_findEdited_118 hl (k := 4) rfl rfl (by decide) rfl (fun ls hl => ?_)
        refine lv_iload hx hb dX3_findEdited_121 (lv_at hl 5 rfl) ?_
        refine lv_iconst (v := (-1)) hx hb dX3_findEdited_123 (by decide) ?_
        refine r_brn h (lv_icmp_ne (tgt := 148) hx hb dX3_findEdited_124 (by decide)) (fun h => ?_) (fun h => ?_)
        · refine lv_iload hx hb dX3_findEdited_148 (lv_at hl 5 rfl) ?_
          exact b_X3_findEdited_150 C hk48 hk58 (fun hW hl h => ih hW hl h) hW (lv_sub hl [1, 2, 3, 4, 0, 6, 7, 8] rfl) h
        · refine lv_sipush (v := 1000) hx hb dX3_findEdited_127 (by decide) ?_
          refine lv_iload hx hb dX3_findEdited_130 (lv_at hl 6 rfl) ?_
          refine lv_imul hx hb dX3_findEdited_132 ?_
          refine lv_bipush (v := 100) hx hb dX3_findEdited_133 (by decide) ?_
          refine lv_iload hx hb dX3_findEdited_135 (lv_at hl 7 rfl) ?_
          refine lv_imul hx hb dX3_findEdited_137 ?_
          refine lv_iadd hx hb dX3_findEdited_138 ?_
          refine lv_iload hx hb dX3_findEdited_139 (lv_at hl 8 rfl) ?_
          refine lv_iadd hx hb dX3_findEdited_141 ?_
          refine lv_bipush (v := 50) hx hb dX3_findEdited_142 (by decide) ?_
          refine lv_iadd hx hb dX3_findEdited_144 ?_
          refine lv_goto (tgt := 150) hx hb dX3_findEdited_145 (by decide) ?_
          exact b_X3_findEdited_150 C hk48 hk58 (fun hW hl h => ih hW hl h) hW (lv_sub hl [1, 2, 3, 4, 0, 6, 7, 8] rfl) h
set_option maxRecDepth 20000 in
set_option maxHeartbeats 2000000 in
theorem b_X3_findEdited_58 {k48 : Mx → Int32 → Int32 → Int32 → Option Mx} {a : Nat} {a1 : Nat} {a2 : Nat} {x3 : Int32} {x6 : Int32} (C : Cx g RX3 cX3_findEdited 9 none p s m args meth c) {r : Mx} (hk48 : ∀ {H' : Heap} {locs' : List Loc} {ls' : Array Slot} {X' : Mx} {x4' : Int32} {x5' : Int32} {x6' : Int32}, Wd g σ X' s H' locs' → lv_has ls' 9 [(0, .ref a), (1, .ref a1), (2, .ref a2), (3, .int x3), (4, .int x4'), (5, .int x5'), (6, .int x6')] → k48 X' x4' x5' x6' = some r → W p l e (rmZ 6 147) s m args below meth c H' locs' 0 0 (QV g σ below args s r) (F0 m 48 ls' [])) : ∀ (n : Nat) {X : Mx} {x4 : Int32} {x5 : Int32} {x7 : Int32} {H : Heap} {locs : List Loc} {ls : Array Slot} (hW : Wd g σ X s H locs) (hl : lv_has ls 9 [(0, .ref a), (1, .ref a1), (2, .ref a2), (3, .int x3), (4, .int x4), (5, .int x5), (6, .int x6), (7, .int x7)]) (h : f_X3_findEdited_58 k48 σ a a1 a2 x3 x6 n X x4 x5 x7 = some r), W p l e (rmZ 6 147) s m args below meth c H locs 0 0 (QV g σ below args s r) (F0 m 58 ls []) := by
  have hx := C.x
  have hb := C.b
  intro n
  induction n with
  | zero =>
    intro X x4 x5 x7 H locs ls hW hl h
    cases (show none = some r from h)
  | succ n ih =>
    intro X x4 x5 x7 H locs ls hW hl h
    rw [f_X3_findEdited_58] at h
    refine lv_iload hx hb dX3_findEdited_58 (lv_at hl 7 rfl) ?_
    refine lv_iconst (v := 5) hx hb dX3_findEdited_60 (by decide) ?_
    refine r_br h (lv_icmp_ge (tgt := 164) hx hb dX3_findEdited_61 (by decide)) (fun h => ?_) (fun h => ?_)
    · refine lv_iinc (v := (x6 + 1)) (lv' := [(6, .int (x6 + 1)), (0, .ref a), (1, .ref a1), (2, .ref a2), (3, .int x3), (4, .int x4), (5, .int x5), (7, .int x7)]) hx hb dX3_findEdited_164 hl (k := 6) rfl rfl (by decide) rfl (fun ls hl => ?_)
      refine lv_goto (tgt := 48) hx hb dX3_findEdited_167 (by decide) ?_
      exact hk48 hW (lv_sub hl [1, 2, 3, 4, 5, 6, 0] rfl) h
    · refine lv_aload_n hx hb dX3_findEdited_64 rfl (lv_at hl 1 rfl) ?_
      refine r_gR C hW h fl_X3_128 (by decide) dX3_findEdited_65 (fun b1 h => ?_)
      refine lv_iload hx hb dX3_findEdited_68 (lv_at hl 6 rfl) ?_
      refine lv_iload hx hb dX3_findEdited_70 (lv_at hl 7 rfl) ?_
      obtain ⟨v3, h2, h⟩ := bnd_inv h
      refine r_cI hW (run_V (rest := []) C hW (t_X6_hasCell h2) mk_X6_hasCell vk_X3_131 (kd_X6_hasCell h2) rfl rfl (by decide) ⟨Nat.le_of_ble_eq_true rfl, Nat.le_of_ble_eq_true rfl⟩ ⟨Nat.zero_le _, Nat.zero_le _⟩ rfl rfl (Nat.le_of_ble_eq_true rfl) hl.1 dX3_findEdited_72) (fun H locs hW _ => ?_)
      refine r_br h (lv_if_eq (tgt := 158) hx hb dX3_findEdited_75 (by decide)) (fun h => ?_) (fun h => ?_)
      · exact b_X3_findEdited_158 C hk48 (fun hW hl h => ih hW hl h) hW (lv_sub hl [0, 1, 2, 3, 4, 5, 6, 7] rfl) h
      · refine lv_aload_n hx hb dX3_findEdited_78 rfl (lv_at hl 1 rfl) ?_
        refine r_gR C hW h fl_X3_134 (by decide) dX3_findEdited_79 (fun b4 h => ?_)
        refine lv_iload hx hb dX3_findEdited_82 (lv_at hl 6 rfl) ?_
        refine lv_iload hx hb dX3_findEdited_84 (lv_at hl 7 rfl) ?_
        obtain ⟨v6, h5, h⟩ := bnd_inv h
        refine r_cI hW (run_V (rest := []) C hW (t_X6_hasCell h5) mk_X6_hasCell vk_X3_131 (kd_X6_hasCell h5) rfl rfl (by decide) ⟨Nat.le_of_ble_eq_true rfl, Nat.le_of_ble_eq_true rfl⟩ ⟨Nat.zero_le _, Nat.zero_le _⟩ rfl rfl (Nat.le_of_ble_eq_true rfl) hl.1 dX3_findEdited_86) (fun H locs hW _ => ?_)
        refine r_br h (lv_if_eq (tgt := 158) hx hb dX3_findEdited_89 (by decide)) (fun h => ?_) (fun h => ?_)
        · exact b_X3_findEdited_158 C hk48 (fun hW hl h => ih hW hl h) hW (lv_sub hl [0, 1, 2, 3, 4, 5, 6, 7] rfl) h
        · refine lv_bipush (v := (-9)) hx hb dX3_findEdited_92 (by decide) ?_
          refine lv_istore (lv' := [(8, .int (-9)), (0, .ref a), (1, .ref a1), (2, .ref a2), (3, .int x3), (4, .int x4), (5, .int x5), (6, .int x6), (7, .int x7)]) hx hb dX3_findEdited_94 hl (by decide) rfl (fun ls hl => ?_)
          exact b_X3_findEdited_96 C hk48 (fun hW hl h => ih hW hl h) FU hW (lv_sub hl [1, 2, 3, 4, 5, 6, 7, 8, 0] rfl) h
set_option maxRecDepth 20000 in
set_option maxHeartbeats 2000000 in
theorem b_X3_findEdited_48 {a : Nat} {a1 : Nat} {a2 : Nat} {x3 : Int32} (C : Cx g RX3 cX3_findEdited 9 none p s m args meth c) {r : Mx} : ∀ (n : Nat) {X : Mx} {x4 : Int32} {x5 : Int32} {x6 : Int32} {H : Heap} {locs : List Loc} {ls : Array Slot} (hW : Wd g σ X s H locs) (hl : lv_has ls 9 [(0, .ref a), (1, .ref a1), (2, .ref a2), (3, .int x3), (4, .int x4), (5, .int x5), (6, .int x6)]) (h : f_X3_findEdited_48 σ a a1 a2 x3 n X x4 x5 x6 = some r), W p l e (rmZ 6 147) s m args below meth c H locs 0 0 (QV g σ below args s r) (F0 m 48 ls []) := by
  have hx := C.x
  have hb := C.b
  intro n
  induction n with
  | zero =>
    intro X x4 x5 x6 H locs ls hW hl h
    cases (show none = some r from h)
  | succ n ih =>
    intro X x4 x5 x6 H locs ls hW hl h
    rw [f_X3_findEdited_48] at h
    refine lv_iload hx hb dX3_findEdited_48 (lv_at hl 6 rfl) ?_
    refine lv_bipush (v := 20) hx hb dX3_findEdited_50 (by decide) ?_
    refine r_br h (lv_icmp_ge (tgt := 170) hx hb dX3_findEdited_52 (by decide)) (fun h => ?_) (fun h => ?_)
    · refine lv_aload_n hx hb dX3_findEdited_170 rfl (lv_at hl 0 rfl) ?_
      refine lv_iconst (v := 5) hx hb dX3_findEdited_171 (by decide) ?_
      refine lv_iload hx hb dX3_findEdited_172 (lv_at hl 4 rfl) ?_
      refine lv_iload hx hb dX3_findEdited_174 (lv_at hl 5 rfl) ?_
      refine lv_iload_n hx hb dX3_findEdited_176 rfl (lv_at hl 3 rfl) ?_
      obtain ⟨X2, h1, h⟩ := bnd_inv h
      refine r_cV hW (run_V (rest := []) C hW (t_X3_keepAnswer h1) mk_X3_keepAnswer vk_X3_84 (kd_X3_keepAnswer h1) rfl rfl (by decide) ⟨Nat.le_of_ble_eq_true rfl, Nat.le_of_ble_eq_true rfl⟩ ⟨Nat.zero_le _, Nat.zero_le _⟩ rfl rfl (Nat.le_of_ble_eq_true rfl) hl.1 dX3_findEdited_177) (fun H locs hW _ => ?_)
      exact r_vret C hW (Option.some.inj h).symm dX3_findEdited_180
    · refine lv_iconst (v := 0) hx hb dX3_findEdited_55 (by decide) ?_
      refine lv_istore (lv' := [(7, .int 0), (0, .ref a), (1, .ref a1), (2, .ref a2), (3, .int x3), (4, .int x4), (5, .int x5), (6, .int x6)]) hx hb dX3_findEdited_56 hl (by decide) rfl (fun ls hl => ?_)
      exact b_X3_findEdited_58 C (fun hW hl h => ih hW hl h) FU hW (lv_sub hl [1, 2, 3, 4, 5, 6, 7, 0] rfl) h
set_option maxRecDepth 20000 in
set_option maxHeartbeats 2000000 in
theorem b_X3_findEdited_38 {a : Nat} {a1 : Nat} {a2 : Nat} (C : Cx g RX3 cX3_findEdited 9 none p s m args meth c) {r : Mx} {X : Mx} {y0 : Int32} (hW : Wd g σ X s H locs) (hl : lv_has ls 9 [(0, .ref a), (1, .ref a1), (2, .ref a2)]) (h : f_X3_findEdited_38 σ a a1 a2 X y0 = some r) : W p l e (rmZ 6 147) s m args below meth c H locs 0 0 (QV g σ below args s r) (F0 m 38 ls [.int y0]) := by
  have hx := C.x
  have hb := C.b
  unfold f_X3_findEdited_38 at h
  refine lv_istore_n (lv' := [(3, .int y0), (0, .ref a), (1, .ref a1), (2, .ref a2)]) hx hb dX3_findEdited_38 rfl hl (by decide) rfl (fun ls hl => ?_)
  refine lv_iconst (v := 0) hx hb dX3_findEdited_39 (by decide) ?_
  refine lv_istore (lv' := [(4, .int 0), (3, .int y0), (0, .ref a), (1, .ref a1), (2, .ref a2)]) hx hb dX3_findEdited_40 hl (by decide) rfl (fun ls hl => ?_)
  refine lv_iconst (v := (-1)) hx hb dX3_findEdited_42 (by decide) ?_
  refine lv_istore (lv' := [(5, .int (-1)), (4, .int 0), (3, .int y0), (0, .ref a), (1, .ref a1), (2, .ref a2)]) hx hb dX3_findEdited_43 hl (by decide) rfl (fun ls hl => ?_)
  refine lv_iconst (v := 0) hx hb dX3_findEdited_45 (by decide) ?_
  refine lv_istore (lv' := [(6, .int 0), (5, .int (-1)), (4, .int 0), (3, .int y0), (0, .ref a), (1, .ref a1), (2, .ref a2)]) hx hb dX3_findEdited_46 hl (by decide) rfl (fun ls hl => ?_)
  exact b_X3_findEdited_48 C FU hW (lv_sub hl [4, 5, 6, 3, 2, 1, 0] rfl) h
theorem kd_X3_findEdited {X : Mx} {r : Mx} {a : Nat} {a1 : Nat} {a2 : Nat} (h : f_X3_findEdited σ X a a1 a2 = some r) : shK σ a = 2 := (grd_inv h).1
set_option maxRecDepth 20000 in
set_option maxHeartbeats 2000000 in
theorem t_X3_findEdited {X : Mx} {r : Mx} {a : Nat} {a1 : Nat} {a2 : Nat} (h : f_X3_findEdited σ X a a1 a2 = some r) : MtV g l yX3_findEdited cX3_findEdited 9 none 6 147 [.ref a, .ref a1, .ref a2] σ X r := by
  refine met_of mk_X3_findEdited (Nat.le_of_ble_eq_true rfl) (fun p e s m args below meth c ls C hW hl => ?_)
  have hx := C.x
  have hb := C.b
  have hl : lv_has ls 9 [(0, .ref a), (1, .ref a1), (2, .ref a2)] := hl
  unfold f_X3_findEdited at h
  obtain ⟨hk0, h⟩ := grd_inv h
  refine lv_aload_n hx hb dX3_findEdited_0 rfl (lv_at hl 0 rfl) ?_
  refine r_gR C hW h fl_X3_12 (by decide) dX3_findEdited_1 (fun b1 h => ?_)
  refine lv_aload_n hx hb dX3_findEdited_4 rfl (lv_at hl 1 rfl) ?_
  obtain ⟨X3, h2, h⟩ := bnd_inv h
  refine r_cV hW (run_V (rest := []) C hW (t_X5_copyFrom h2) mk_X5_copyFrom vk_X3_41 (kd_X5_copyFrom h2) rfl rfl (by decide) ⟨Nat.le_of_ble_eq_true rfl, Nat.le_of_ble_eq_true rfl⟩ ⟨Nat.zero_le _, Nat.zero_le _⟩ rfl rfl (Nat.le_of_ble_eq_true rfl) hl.1 dX3_findEdited_5) (fun H locs hW _ => ?_)
  refine lv_aload_n hx hb dX3_findEdited_8 rfl (lv_at hl 0 rfl) ?_
  refine r_gR C hW h fl_X3_21 (by decide) dX3_findEdited_9 (fun b4 h => ?_)
  refine lv_aload_n hx hb dX3_findEdited_12 rfl (lv_at hl 0 rfl) ?_
  refine r_gR C hW h fl_X3_12 (by decide) dX3_findEdited_13 (fun b5 h => ?_)
  obtain ⟨X7, h6, h⟩ := bnd_inv h
  refine r_cV hW (run_V (rest := []) C hW (t_X2_run h6) mk_X2_run vk_X3_45 (kd_X2_run h6) rfl rfl (by decide) ⟨Nat.le_of_ble_eq_true rfl, Nat.le_of_ble_eq_true rfl⟩ ⟨Nat.zero_le _, Nat.zero_le _⟩ rfl rfl (Nat.le_of_ble_eq_true rfl) hl.1 dX3_findEdited_16) (fun H locs hW _ => ?_)
  refine lv_aload_n hx hb dX3_findEdited_19 rfl (lv_at hl 2 rfl) ?_
  refine lv_aload_n hx hb dX3_findEdited_20 rfl (lv_at hl 0 rfl) ?_
  refine r_gR C hW h fl_X3_21 (by decide) dX3_findEdited_21 (fun b8 h => ?_)
  refine r_gR C hW h fl_X3_70 (by decide) dX3_findEdited_24 (fun b9 h => ?_)
  obtain ⟨v11, h10, h⟩ := bnd_inv h
  refine r_cI hW (run_V (rest := []) C hW (t_X4_isSo h10) mk_X4_isSo vk_X3_122 (kd_X4_isSo h10) rfl rfl (by decide) ⟨Nat.le_of_ble_eq_true rfl, Nat.le_of_ble_eq_true rfl⟩ ⟨Nat.zero_le _, Nat.zero_le _⟩ rfl rfl (Nat.le_of_ble_eq_true rfl) hl.1 dX3_findEdited_27) (fun H locs hW _ => ?_)
  refine r_br h (lv_if_eq (tgt := 37) hx hb dX3_findEdited_30 (by decide)) (fun h => ?_) (fun h => ?_)
  · refine lv_iconst (v := 0) hx hb dX3_findEdited_37 (by decide) ?_
    exact b_X3_findEdited_38 C hW (lv_sub hl [0, 1, 2] rfl) h
  · refine lv_iconst (v := 1) hx hb dX3_findEdited_33 (by decide) ?_
    refine lv_goto (tgt := 38) hx hb dX3_findEdited_34 (by decide) ?_
    exact b_X3_findEdited_38 C hW (lv_sub hl [0, 1, 2] rfl) h
set_option maxRecDepth 20000 in
set_option maxHeartbeats 2000000 in
theorem t_J9_floorMod_7cf53 {X : Mx} {r : Int32} {x0 : Int32} {x1 : Int32} (h : f_J9_floorMod_7cf53 x0 x1 = some r) : MtI g l yJ9_floorMod_7cf53 cJ9_floorMod_7cf53 3 (some .int) 0 0 [.int x0, .int x1] σ X (r, X) := by
  refine met_of mk_J9_floorMod_7cf53 (Nat.le_of_ble_eq_true rfl) (fun p e s m args below meth c ls C hW hl => ?_)
  have hx := C.x
  have hb := C.b
  have hl : lv_has ls 3 [(0, .int x0), (1, .int x1)] := hl
  unfold f_J9_floorMod_7cf53 at h
  refine lv_iload_n hx hb dJ9_floorMod_7cf53_0 rfl (lv_at hl 0 rfl) ?_
  refine lv_iload_n hx hb dJ9_floorMod_7cf53_1 rfl (lv_at hl 1 rfl) ?_
  obtain ⟨hz, h⟩ := grd_inv h
  refine lv_irem hx hb dJ9_floorMod_7cf53_2 hz ?_
  refine lv_istore_n (lv' := [(2, .int (x0 - x0 / x1 * x1)), (0, .int x0), (1, .int x1)]) hx hb dJ9_floorMod_7cf53_3 rfl hl (by decide) rfl (fun ls hl => ?_)
  refine lv_iload_n hx hb dJ9_floorMod_7cf53_4 rfl (lv_at hl 1 rfl) ?_
  refine lv_iload_n hx hb dJ9_floorMod_7cf53_5 rfl (lv_at hl 2 rfl) ?_
  refine lv_ixor hx hb dJ9_floorMod_7cf53_6 ?_
  refine r_br h (lv_if_ge (tgt := 18) hx hb dJ9_floorMod_7cf53_7 (by decide)) (fun h => ?_) (fun h => ?_)
  · refine lv_iload_n hx hb dJ9_floorMod_7cf53_18 rfl (lv_at hl 0 rfl) ?_
    exact r_iret C hW (rt_R h) rfl dJ9_floorMod_7cf53_19
  · refine lv_iload_n hx hb dJ9_floorMod_7cf53_10 rfl (lv_at hl 0 rfl) ?_
    refine r_br h (lv_if_eq (tgt := 18) hx hb dJ9_floorMod_7cf53_11 (by decide)) (fun h => ?_) (fun h => ?_)
    · refine lv_iload_n hx hb dJ9_floorMod_7cf53_18 rfl (lv_at hl 0 rfl) ?_
      exact r_iret C hW (rt_R h) rfl dJ9_floorMod_7cf53_19
    · refine lv_iload_n hx hb dJ9_floorMod_7cf53_14 rfl (lv_at hl 0 rfl) ?_
      refine lv_iload_n hx hb dJ9_floorMod_7cf53_15 rfl (lv_at hl 2 rfl) ?_
      refine lv_iadd hx hb dJ9_floorMod_7cf53_16 ?_
      exact r_iret C hW (rt_R h) rfl dJ9_floorMod_7cf53_17
theorem kd_X3_draw {X : Mx} {r : (Int32 × Mx)} {a : Nat} {x1 : Int32} (h : f_X3_draw σ X a x1 = some r) : shK σ a = 2 := (grd_inv h).1
set_option maxRecDepth 20000 in
set_option maxHeartbeats 2000000 in
theorem t_X3_draw {X : Mx} {r : (Int32 × Mx)} {a : Nat} {x1 : Int32} (h : f_X3_draw σ X a x1 = some r) : MtI g l yX3_draw cX3_draw 2 (some .int) 1 22 [.ref a, .int x1] σ X r := by
  refine met_of mk_X3_draw (Nat.le_of_ble_eq_true rfl) (fun p e s m args below meth c ls C hW hl => ?_)
  have hx := C.x
  have hb := C.b
  have hl : lv_has ls 2 [(0, .ref a), (1, .int x1)] := hl
  unfold f_X3_draw at h
  obtain ⟨hk0, h⟩ := grd_inv h
  refine lv_aload_n hx hb dX3_draw_0 rfl (lv_at hl 0 rfl) ?_
  refine lv_aload_n hx hb dX3_draw_1 rfl (lv_at hl 0 rfl) ?_
  refine r_gI C hW h fl_X3_149 (by decide) dX3_draw_2 (fun v1 h => ?_)
  refine lv_ldc hx hb C.1.2.2.2.1 (C.1.2.2.2.2 _ ck_X3_163) dX3_draw_5 ?_
  refine lv_imul hx hb dX3_draw_7 ?_
  refine lv_sipush (v := 12345) hx hb dX3_draw_8 (by decide) ?_
  refine lv_iadd hx hb dX3_draw_11 ?_
  refine r_pI C hW h pf_X3_149 (by decide) rfl rfl dX3_draw_12 (fun X2 H locs h hW _ => ?_)
  refine lv_aload_n hx hb dX3_draw_15 rfl (lv_at hl 0 rfl) ?_
  refine r_gI C hW h fl_X3_149 (by decide) dX3_draw_16 (fun v3 h => ?_)
  refine lv_bipush (v := 16) hx hb dX3_draw_19 (by decide) ?_
  refine lv_ishr hx hb dX3_draw_21 ?_
  refine lv_sipush (v := 32767) hx hb dX3_draw_22 (by decide) ?_
  refine lv_iand hx hb dX3_draw_25 ?_
  refine lv_iconst (v := 1) hx hb dX3_draw_26 (by decide) ?_
  refine lv_iload_n hx hb dX3_draw_27 rfl (lv_at hl 1 rfl) ?_
  refine r_cI hW (run_S (rest := [.int ((v3 >>> ((16 : Int32) &&& 31)) &&& 32767)]) C hW (t_J9_max_7cf53 (X := X2)) mk_J9_max_7cf53 sk_X3_164 ⟨Nat.le_of_ble_eq_true rfl, Nat.le_of_ble_eq_true rfl⟩ ⟨Nat.zero_le _, Nat.zero_le _⟩ rfl rfl (Nat.le_of_ble_eq_true rfl) hl.1 dX3_draw_28) (fun H locs hW _ => ?_)
  obtain ⟨v5, h4, h⟩ := bnd_inv h
  refine r_cI hW (run_S (rest := []) C hW (t_J9_floorMod_7cf53 h4) mk_J9_floorMod_7cf53 sk_X3_167 ⟨Nat.le_of_ble_eq_true rfl, Nat.le_of_ble_eq_true rfl⟩ ⟨Nat.zero_le _, Nat.zero_le _⟩ rfl rfl (Nat.le_of_ble_eq_true rfl) hl.1 dX3_draw_31) (fun H locs hW _ => ?_)
  exact r_iret C hW (Option.some.inj h).symm rfl dX3_draw_34
set_option maxRecDepth 20000 in
set_option maxHeartbeats 2000000 in
theorem b_X5_addColumn_70 {a : Nat} {x1 : Int32} {x2 : Int32} {x3 : Int32} {a4 : Nat} {x5 : Int32} (C : Cx g RX5 cX5_addColumn 7 (some .int) p s m args meth c) {r : (Int32 × Mx)} {X : Mx} {y0 : Int32} (hW : Wd g σ X s H locs) (hl : lv_has ls 7 [(0, .ref a), (1, .int x1), (2, .int x2), (3, .int x3), (4, .ref a4), (5, .int x5)]) (h : f_X5_addColumn_70 σ a x1 x2 x3 a4 x5 X y0 = some r) : W p l e (rmZ 2 43) s m args below meth c H locs 0 0 (QI g σ below args s r) (F0 m 70 ls [.int y0]) := by
  have hx := C.x
  have hb := C.b
  unfold f_X5_addColumn_70 at h
  refine lv_iload hx hb dX5_addColumn_70 (lv_at hl 5 rfl) ?_
  refine lv_iadd hx hb dX5_addColumn_72 ?_
  refine lv_istore (lv' := [(6, .int (y0 + x5)), (0, .ref a), (1, .int x1), (2, .int x2), (3, .int x3), (4, .ref a4), (5, .int x5)]) hx hb dX5_addColumn_73 hl (by decide) rfl (fun ls hl => ?_)
  refine lv_aload hx hb dX5_addColumn_75 (lv_at hl 5 rfl) ?_
  refine lv_iload hx hb dX5_addColumn_77 (lv_at hl 0 rfl) ?_
  refine lv_iload_n hx hb dX5_addColumn_79 rfl (lv_at hl 3 rfl) ?_
  refine lv_iload_n hx hb dX5_addColumn_80 rfl (lv_at hl 4 rfl) ?_
  obtain ⟨X2, h1, h⟩ := bnd_inv h
  refine r_cV hW (run_V (rest := []) C hW (t_X6_putColumn h1) mk_X6_putColumn vk_X5_154 (kd_X6_putColumn h1) rfl rfl (by decide) ⟨Nat.le_of_ble_eq_true rfl, Nat.le_of_ble_eq_true rfl⟩ ⟨Nat.zero_le _, Nat.zero_le _⟩ rfl rfl (Nat.le_of_ble_eq_true rfl) hl.1 dX5_addColumn_81) (fun H locs hW _ => ?_)
  refine lv_iload_n hx hb dX5_addColumn_84 rfl (lv_at hl 2 rfl) ?_
  refine r_brn h (lv_if_ne (tgt := 101) hx hb dX5_addColumn_85 (by decide)) (fun h => ?_) (fun h => ?_)
  · refine lv_aload_n hx hb dX5_addColumn_101 rfl (lv_at hl 1 rfl) ?_
    refine lv_dup hx hb dX5_addColumn_102 rfl ?_
    refine r_gI C hW h fl_X5_60 (by decide) dX5_addColumn_103 (fun v3 h => ?_)
    refine lv_iconst (v := 1) hx hb dX5_addColumn_106 (by decide) ?_
    refine lv_iadd hx hb dX5_addColumn_107 ?_
    refine r_pI C hW h pf_X5_60 (by decide) rfl rfl dX5_addColumn_108 (fun X4 H locs h hW _ => ?_)
    refine lv_iload hx hb dX5_addColumn_111 (lv_at hl 0 rfl) ?_
    exact r_iret C hW (Option.some.inj h).symm rfl dX5_addColumn_113
  · refine lv_aload_n hx hb dX5_addColumn_88 rfl (lv_at hl 1 rfl) ?_
    refine lv_dup hx hb dX5_addColumn_89 rfl ?_
    refine r_gI C hW h fl_X5_57 (by decide) dX5_addColumn_90 (fun v5 h => ?_)
    refine lv_iconst (v := 1) hx hb dX5_addColumn_93 (by decide) ?_
    refine lv_iadd hx hb dX5_addColumn_94 ?_
    refine r_pI C hW h pf_X5_57 (by decide) rfl rfl dX5_addColumn_95 (fun X6 H locs h hW _ => ?_)
    refine lv_goto (tgt := 111) hx hb dX5_addColumn_98 (by decide) ?_
    refine lv_iload hx hb dX5_addColumn_111 (lv_at hl 0 rfl) ?_
    exact r_iret C hW (Option.some.inj h).symm rfl dX5_addColumn_113
set_option maxRecDepth 20000 in
set_option maxHeartbeats 2000000 in
theorem b_X5_addColumn_22 {a : Nat} {x1 : Int32} {x2 : Int32} {x3 : Int32} {a4 : Nat} (C : Cx g RX5 cX5_addColumn 7 (some .int) p s m args meth c) {r : (Int32 × Mx)} {X : Mx} {y0 : Int32} (hW : Wd g σ X s H locs) (hl : lv_has ls 7 [(0, .ref a), (1, .int x1), (2, .int x2), (3, .int x3), (4, .ref a4)]) (h : f_X5_addColumn_22 σ a x1 x2 x3 a4 X y0 = some r) : W p l e (rmZ 2 43) s m args below meth c H locs 0 0 (QI g σ below args s r) (F0 m 22 ls [.int y0]) := by
  have hx := C.x
  have hb := C.b
  unfold f_X5_addColumn_22 at h
  refine lv_istore (lv' := [(5, .int y0), (0, .ref a), (1, .int x1), (2, .int x2), (3, .int x3), (4, .ref a4)]) hx hb dX5_addColumn_22 hl (by decide) rfl (fun ls hl => ?_)
  refine lv_iload hx hb dX5_addColumn_24 (lv_at hl 0 rfl) ?_
  refine lv_iconst (v := 2) hx hb dX5_addColumn_26 (by decide) ?_
  refine r_br h (lv_icmp_ge (tgt := 58) hx hb dX5_addColumn_27 (by decide)) (fun h => ?_) (fun h => ?_)
  · refine lv_iconst (v := (-1)) hx hb dX5_addColumn_58 (by decide) ?_
    exact r_iret C hW (Option.some.inj h).symm rfl dX5_addColumn_59
  · refine lv_iload_n hx hb dX5_addColumn_30 rfl (lv_at hl 3 rfl) ?_
    refine r_br h (lv_if_lt (tgt := 58) hx hb dX5_addColumn_31 (by decide)) (fun h => ?_) (fun h => ?_)
    · refine lv_iconst (v := (-1)) hx hb dX5_addColumn_58 (by decide) ?_
      exact r_iret C hW (Option.some.inj h).symm rfl dX5_addColumn_59
    · refine lv_iload_n hx hb dX5_addColumn_34 rfl (lv_at hl 3 rfl) ?_
      refine lv_bipush (v := 26) hx hb dX5_addColumn_35 (by decide) ?_
      refine r_br h (lv_icmp_ge (tgt := 58) hx hb dX5_addColumn_37 (by decide)) (fun h => ?_) (fun h => ?_)
      · refine lv_iconst (v := (-1)) hx hb dX5_addColumn_58 (by decide) ?_
        exact r_iret C hW (Option.some.inj h).symm rfl dX5_addColumn_59
      · refine lv_aload hx hb dX5_addColumn_40 (lv_at hl 5 rfl) ?_
        refine lv_iload_n hx hb dX5_addColumn_42 rfl (lv_at hl 3 rfl) ?_
        obtain ⟨v2, h1, h⟩ := bnd_inv h
        refine r_cI hW (run_V (rest := []) C hW (t_X6_hasName h1) mk_X6_hasName vk_X5_148 (kd_X6_hasName h1) rfl rfl (by decide) ⟨Nat.le_of_ble_eq_true rfl, Nat.le_of_ble_eq_true rfl⟩ ⟨Nat.zero_le _, Nat.zero_le _⟩ rfl rfl (Nat.le_of_ble_eq_true rfl) hl.1 dX5_addColumn_43) (fun H locs hW _ => ?_)
        refine r_brn h (lv_if_ne (tgt := 58) hx hb dX5_addColumn_46 (by decide)) (fun h => ?_) (fun h => ?_)
        · refine lv_iconst (v := (-1)) hx hb dX5_addColumn_58 (by decide) ?_
          exact r_iret C hW (Option.some.inj h).symm rfl dX5_addColumn_59
        · refine lv_iload_n hx hb dX5_addColumn_49 rfl (lv_at hl 4 rfl) ?_
          refine r_br h (lv_if_lt (tgt := 58) hx hb dX5_addColumn_50 (by decide)) (fun h => ?_) (fun h => ?_)
          · refine lv_iconst (v := (-1)) hx hb dX5_addColumn_58 (by decide) ?_
            exact r_iret C hW (Option.some.inj h).symm rfl dX5_addColumn_59
          · refine lv_iload_n hx hb dX5_addColumn_53 rfl (lv_at hl 4 rfl) ?_
            refine lv_iconst (v := 4) hx hb dX5_addColumn_54 (by decide) ?_
            refine r_br h (lv_icmp_lt (tgt := 60) hx hb dX5_addColumn_55 (by decide)) (fun h => ?_) (fun h => ?_)
            · refine lv_iload_n hx hb dX5_addColumn_60 rfl (lv_at hl 2 rfl) ?_
              refine r_brn h (lv_if_ne (tgt := 68) hx hb dX5_addColumn_61 (by decide)) (fun h => ?_) (fun h => ?_)
              · refine lv_bipush (v := 7) hx hb dX5_addColumn_68 (by decide) ?_
                exact b_X5_addColumn_70 C hW (lv_sub hl [1, 2, 3, 4, 5, 0] rfl) h
              · refine lv_iconst (v := 5) hx hb dX5_addColumn_64 (by decide) ?_
                refine lv_goto (tgt := 70) hx hb dX5_addColumn_65 (by decide) ?_
                exact b_X5_addColumn_70 C hW (lv_sub hl [1, 2, 3, 4, 5, 0] rfl) h
            · refine lv_iconst (v := (-1)) hx hb dX5_addColumn_58 (by decide) ?_
              exact r_iret C hW (Option.some.inj h).symm rfl dX5_addColumn_59
theorem kd_X5_addColumn {X : Mx} {r : (Int32 × Mx)} {a : Nat} {x1 : Int32} {x2 : Int32} {x3 : Int32} (h : f_X5_addColumn σ X a x1 x2 x3 = some r) : shK σ a = 4 := (grd_inv h).1
set_option maxRecDepth 20000 in
set_option maxHeartbeats 2000000 in
theorem t_X5_addColumn {X : Mx} {r : (Int32 × Mx)} {a : Nat} {x1 : Int32} {x2 : Int32} {x3 : Int32} (h : f_X5_addColumn σ X a x1 x2 x3 = some r) : MtI g l yX5_addColumn cX5_addColumn 7 (some .int) 2 43 [.ref a, .int x1, .int x2, .int x3] σ X r := by
  refine met_of mk_X5_addColumn (Nat.le_of_ble_eq_true rfl) (fun p e s m args below meth c ls C hW hl => ?_)
  have hx := C.x
  have hb := C.b
  have hl : lv_has ls 7 [(0, .ref a), (1, .int x1), (2, .int x2), (3, .int x3)] := hl
  unfold f_X5_addColumn at h
  obtain ⟨hk0, h⟩ := grd_inv h
  refine lv_aload_n hx hb dX5_addColumn_0 rfl (lv_at hl 0 rfl) ?_
  refine lv_iload_n hx hb dX5_addColumn_1 rfl (lv_at hl 1 rfl) ?_
  obtain ⟨b2, h1, h⟩ := bnd_inv h
  refine r_cR hW (run_V (rest := []) C hW (t_X5_sideOf h1) mk_X5_sideOf vk_X5_69 (kd_X5_sideOf h1) rfl rfl (by decide) ⟨Nat.le_of_ble_eq_true rfl, Nat.le_of_ble_eq_true rfl⟩ ⟨Nat.zero_le _, Nat.zero_le _⟩ rfl rfl (Nat.le_of_ble_eq_true rfl) hl.1 dX5_addColumn_2) (fun H locs hW _ => ?_)
  refine lv_astore (lv' := [(4, .ref b2), (0, .ref a), (1, .int x1), (2, .int x2), (3, .int x3)]) hx hb dX5_addColumn_5 hl (by decide) rfl (fun ls hl => ?_)
  refine lv_iload_n hx hb dX5_addColumn_7 rfl (lv_at hl 2 rfl) ?_
  refine r_brn h (lv_if_ne (tgt := 18) hx hb dX5_addColumn_8 (by decide)) (fun h => ?_) (fun h => ?_)
  · refine lv_aload_n hx hb dX5_addColumn_18 rfl (lv_at hl 1 rfl) ?_
    refine r_gI C hW h fl_X5_60 (by decide) dX5_addColumn_19 (fun v3 h => ?_)
    exact b_X5_addColumn_22 C hW (lv_sub hl [1, 2, 3, 4, 0] rfl) h
  · refine lv_aload_n hx hb dX5_addColumn_11 rfl (lv_at hl 1 rfl) ?_
    refine r_gI C hW h fl_X5_57 (by decide) dX5_addColumn_12 (fun v4 h => ?_)
    refine lv_goto (tgt := 22) hx hb dX5_addColumn_15 (by decide) ?_
    exact b_X5_addColumn_22 C hW (lv_sub hl [1, 2, 3, 4, 0] rfl) h
theorem kd_X5_deleteRow {X : Mx} {r : (Int32 × Mx)} {a : Nat} {a1 : Nat} {x2 : Int32} (h : f_X5_deleteRow σ X a a1 x2 = some r) : shK σ a = 4 := (grd_inv h).1
set_option maxRecDepth 20000 in
set_option maxHeartbeats 2000000 in
theorem t_X5_deleteRow {X : Mx} {r : (Int32 × Mx)} {a : Nat} {a1 : Nat} {x2 : Int32} (h : f_X5_deleteRow σ X a a1 x2 = some r) : MtI g l yX5_deleteRow cX5_deleteRow 3 (some .boolean) 2 45 [.ref a, .ref a1, .int x2] σ X r := by
  refine met_of mk_X5_deleteRow (Nat.le_of_ble_eq_true rfl) (fun p e s m args below meth c ls C hW hl => ?_)
  have hx := C.x
  have hb := C.b
  have hl : lv_has ls 3 [(0, .ref a), (1, .ref a1), (2, .int x2)] := hl
  unfold f_X5_deleteRow at h
  obtain ⟨hk0, h⟩ := grd_inv h
  refine lv_aload_n hx hb dX5_deleteRow_0 rfl (lv_at hl 1 rfl) ?_
  refine lv_iload_n hx hb dX5_deleteRow_1 rfl (lv_at hl 2 rfl) ?_
  obtain ⟨v2, h1, h⟩ := bnd_inv h
  refine r_cI hW (run_V (rest := []) C hW (t_X6_hasRow h1) mk_X6_hasRow vk_X5_129 (kd_X6_hasRow h1) rfl rfl (by decide) ⟨Nat.le_of_ble_eq_true rfl, Nat.le_of_ble_eq_true rfl⟩ ⟨Nat.zero_le _, Nat.zero_le _⟩ rfl rfl (Nat.le_of_ble_eq_true rfl) hl.1 dX5_deleteRow_2) (fun H locs hW _ => ?_)
  refine r_brn h (lv_if_ne (tgt := 10) hx hb dX5_deleteRow_5 (by decide)) (fun h => ?_) (fun h => ?_)
  · refine lv_aload_n hx hb dX5_deleteRow_10 rfl (lv_at hl 1 rfl) ?_
    refine lv_iload_n hx hb dX5_deleteRow_11 rfl (lv_at hl 2 rfl) ?_
    obtain ⟨X4, h3, h⟩ := bnd_inv h
    refine r_cV hW (run_V (rest := []) C hW (t_X6_takeRow h3) mk_X6_takeRow vk_X5_145 (kd_X6_takeRow h3) rfl rfl (by decide) ⟨Nat.le_of_ble_eq_true rfl, Nat.le_of_ble_eq_true rfl⟩ ⟨Nat.zero_le _, Nat.zero_le _⟩ rfl rfl (Nat.le_of_ble_eq_true rfl) hl.1 dX5_deleteRow_12) (fun H locs hW _ => ?_)
    refine lv_iconst (v := 1) hx hb dX5_deleteRow_15 (by decide) ?_
    exact r_iret C hW (Option.some.inj h).symm rfl dX5_deleteRow_16
  · refine lv_iconst (v := 0) hx hb dX5_deleteRow_8 (by decide) ?_
    exact r_iret C hW (Option.some.inj h).symm rfl dX5_deleteRow_9
theorem kd_X5_dropColumn {X : Mx} {r : (Int32 × Mx)} {a : Nat} {a1 : Nat} {x2 : Int32} (h : f_X5_dropColumn σ X a a1 x2 = some r) : shK σ a = 4 := (grd_inv h).1
set_option maxRecDepth 20000 in
set_option maxHeartbeats 2000000 in
theorem t_X5_dropColumn {X : Mx} {r : (Int32 × Mx)} {a : Nat} {a1 : Nat} {x2 : Int32} (h : f_X5_dropColumn σ X a a1 x2 = some r) : MtI g l yX5_dropColumn cX5_dropColumn 3 (some .boolean) 2 45 [.ref a, .ref a1, .int x2] σ X r := by
  refine met_of mk_X5_dropColumn (Nat.le_of_ble_eq_true rfl) (fun p e s m args below meth c ls C hW hl => ?_)
  have hx := C.x
  have hb := C.b
  have hl : lv_has ls 3 [(0, .ref a), (1, .ref a1), (2, .int x2)] := hl
  unfold f_X5_dropColumn at h
  obtain ⟨hk0, h⟩ := grd_inv h
  refine lv_aload_n hx hb dX5_dropColumn_0 rfl (lv_at hl 1 rfl) ?_
  refine lv_iload_n hx hb dX5_dropColumn_1 rfl (lv_at hl 2 rfl) ?_
  obtain ⟨v2, h1, h⟩ := bnd_inv h
  refine r_cI hW (run_V (rest := []) C hW (t_X6_hasColumn h1) mk_X6_hasColumn vk_X5_77 (kd_X6_hasColumn h1) rfl rfl (by decide) ⟨Nat.le_of_ble_eq_true rfl, Nat.le_of_ble_eq_true rfl⟩ ⟨Nat.zero_le _, Nat.zero_le _⟩ rfl rfl (Nat.le_of_ble_eq_true rfl) hl.1 dX5_dropColumn_2) (fun H locs hW _ => ?_)
  refine r_brn h (lv_if_ne (tgt := 10) hx hb dX5_dropColumn_5 (by decide)) (fun h => ?_) (fun h => ?_)
  · refine lv_aload_n hx hb dX5_dropColumn_10 rfl (lv_at hl 1 rfl) ?_
    refine lv_iload_n hx hb dX5_dropColumn_11 rfl (lv_at hl 2 rfl) ?_
    obtain ⟨X4, h3, h⟩ := bnd_inv h
    refine r_cV hW (run_V (rest := []) C hW (t_X6_takeColumn h3) mk_X6_takeColumn vk_X5_157 (kd_X6_takeColumn h3) rfl rfl (by decide) ⟨Nat.le_of_ble_eq_true rfl, Nat.le_of_ble_eq_true rfl⟩ ⟨Nat.zero_le _, Nat.zero_le _⟩ rfl rfl (Nat.le_of_ble_eq_true rfl) hl.1 dX5_dropColumn_12) (fun H locs hW _ => ?_)
    refine lv_iconst (v := 1) hx hb dX5_dropColumn_15 (by decide) ?_
    exact r_iret C hW (Option.some.inj h).symm rfl dX5_dropColumn_16
  · refine lv_iconst (v := 0) hx hb dX5_dropColumn_8 (by decide) ?_
    exact r_iret C hW (Option.some.inj h).symm rfl dX5_dropColumn_9
theorem kd_X5_insertRow {X : Mx} {r : (Int32 × Mx)} {a : Nat} {a1 : Nat} {x2 : Int32} (h : f_X5_insertRow σ X a a1 x2 = some r) : shK σ a = 4 := (grd_inv h).1
set_option maxRecDepth 20000 in
set_option maxHeartbeats 2000000 in
theorem t_X5_insertRow {X : Mx} {r : (Int32 × Mx)} {a : Nat} {a1 : Nat} {x2 : Int32} (h : f_X5_insertRow σ X a a1 x2 = some r) : MtI g l yX5_insertRow cX5_insertRow 3 (some .boolean) 1 21 [.ref a, .ref a1, .int x2] σ X r := by
  refine met_of mk_X5_insertRow (Nat.le_of_ble_eq_true rfl) (fun p e s m args below meth c ls C hW hl => ?_)
  have hx := C.x
  have hb := C.b
  have hl : lv_has ls 3 [(0, .ref a), (1, .ref a1), (2, .int x2)] := hl
  unfold f_X5_insertRow at h
  obtain ⟨hk0, h⟩ := grd_inv h
  refine lv_iload_n hx hb dX5_insertRow_0 rfl (lv_at hl 2 rfl) ?_
  refine r_br h (lv_if_lt (tgt := 30) hx hb dX5_insertRow_1 (by decide)) (fun h => ?_) (fun h => ?_)
  · refine lv_iconst (v := 0) hx hb dX5_insertRow_30 (by decide) ?_
    exact r_iret C hW (Option.some.inj h).symm rfl dX5_insertRow_31
  · refine lv_iload_n hx hb dX5_insertRow_4 rfl (lv_at hl 2 rfl) ?_
    refine lv_bipush (v := 20) hx hb dX5_insertRow_5 (by decide) ?_
    refine r_br h (lv_icmp_ge (tgt := 30) hx hb dX5_insertRow_7 (by decide)) (fun h => ?_) (fun h => ?_)
    · refine lv_iconst (v := 0) hx hb dX5_insertRow_30 (by decide) ?_
      exact r_iret C hW (Option.some.inj h).symm rfl dX5_insertRow_31
    · refine lv_aload_n hx hb dX5_insertRow_10 rfl (lv_at hl 1 rfl) ?_
      refine lv_iload_n hx hb dX5_insertRow_11 rfl (lv_at hl 2 rfl) ?_
      obtain ⟨v2, h1, h⟩ := bnd_inv h
      refine r_cI hW (run_V (rest := []) C hW (t_X6_hasRow h1) mk_X6_hasRow vk_X5_129 (kd_X6_hasRow h1) rfl rfl (by decide) ⟨Nat.le_of_ble_eq_true rfl, Nat.le_of_ble_eq_true rfl⟩ ⟨Nat.zero_le _, Nat.zero_le _⟩ rfl rfl (Nat.le_of_ble_eq_true rfl) hl.1 dX5_insertRow_12) (fun H locs hW _ => ?_)
      refine r_brn h (lv_if_ne (tgt := 30) hx hb dX5_insertRow_15 (by decide)) (fun h => ?_) (fun h => ?_)
      · refine lv_iconst (v := 0) hx hb dX5_insertRow_30 (by decide) ?_
        exact r_iret C hW (Option.some.inj h).symm rfl dX5_insertRow_31
      · refine lv_aload_n hx hb dX5_insertRow_18 rfl (lv_at hl 1 rfl) ?_
        refine r_gI C hW h fl_X5_132 (by decide) dX5_insertRow_19 (fun v3 h => ?_)
        refine r_cI hW (run_S (rest := []) C hW (t_J6_bitCount_0f7a4 (X := X)) mk_J6_bitCount_0f7a4 sk_X5_135 ⟨Nat.le_of_ble_eq_true rfl, Nat.le_of_ble_eq_true rfl⟩ ⟨Nat.zero_le _, Nat.zero_le _⟩ rfl rfl (Nat.le_of_ble_eq_true rfl) hl.1 dX5_insertRow_22) (fun H locs hW _ => ?_)
        refine lv_bipush (v := 12) hx hb dX5_insertRow_25 (by decide) ?_
        refine r_br h (lv_icmp_lt (tgt := 32) hx hb dX5_insertRow_27 (by decide)) (fun h => ?_) (fun h => ?_)
        · refine lv_aload_n hx hb dX5_insertRow_32 rfl (lv_at hl 1 rfl) ?_
          refine lv_iload_n hx hb dX5_insertRow_33 rfl (lv_at hl 2 rfl) ?_
          obtain ⟨X5, h4, h⟩ := bnd_inv h
          refine r_cV hW (run_V (rest := []) C hW (t_X6_putRow h4) mk_X6_putRow vk_X5_141 (kd_X6_putRow h4) rfl rfl (by decide) ⟨Nat.le_of_ble_eq_true rfl, Nat.le_of_ble_eq_true rfl⟩ ⟨Nat.zero_le _, Nat.zero_le _⟩ rfl rfl (Nat.le_of_ble_eq_true rfl) hl.1 dX5_insertRow_34) (fun H locs hW _ => ?_)
          refine lv_iconst (v := 1) hx hb dX5_insertRow_37 (by decide) ?_
          exact r_iret C hW (Option.some.inj h).symm rfl dX5_insertRow_38
        · refine lv_iconst (v := 0) hx hb dX5_insertRow_30 (by decide) ?_
          exact r_iret C hW (Option.some.inj h).symm rfl dX5_insertRow_31
theorem kd_X5_renameColumn {X : Mx} {r : (Int32 × Mx)} {a : Nat} {a1 : Nat} {x2 : Int32} {x3 : Int32} (h : f_X5_renameColumn σ X a a1 x2 x3 = some r) : shK σ a = 4 := (grd_inv h).1
set_option maxRecDepth 20000 in
set_option maxHeartbeats 2000000 in
theorem t_X5_renameColumn {X : Mx} {r : (Int32 × Mx)} {a : Nat} {a1 : Nat} {x2 : Int32} {x3 : Int32} (h : f_X5_renameColumn σ X a a1 x2 x3 = some r) : MtI g l yX5_renameColumn cX5_renameColumn 4 (some .boolean) 2 43 [.ref a, .ref a1, .int x2, .int x3] σ X r := by
  refine met_of mk_X5_renameColumn (Nat.le_of_ble_eq_true rfl) (fun p e s m args below meth c ls C hW hl => ?_)
  have hx := C.x
  have hb := C.b
  have hl : lv_has ls 4 [(0, .ref a), (1, .ref a1), (2, .int x2), (3, .int x3)] := hl
  unfold f_X5_renameColumn at h
  obtain ⟨hk0, h⟩ := grd_inv h
  refine lv_aload_n hx hb dX5_renameColumn_0 rfl (lv_at hl 1 rfl) ?_
  refine lv_iload_n hx hb dX5_renameColumn_1 rfl (lv_at hl 2 rfl) ?_
  obtain ⟨v2, h1, h⟩ := bnd_inv h
  refine r_cI hW (run_V (rest := []) C hW (t_X6_hasColumn h1) mk_X6_hasColumn vk_X5_77 (kd_X6_hasColumn h1) rfl rfl (by decide) ⟨Nat.le_of_ble_eq_true rfl, Nat.le_of_ble_eq_true rfl⟩ ⟨Nat.zero_le _, Nat.zero_le _⟩ rfl rfl (Nat.le_of_ble_eq_true rfl) hl.1 dX5_renameColumn_2) (fun H locs hW _ => ?_)
  refine r_br h (lv_if_eq (tgt := 26) hx hb dX5_renameColumn_5 (by decide)) (fun h => ?_) (fun h => ?_)
  · refine lv_iconst (v := 0) hx hb dX5_renameColumn_26 (by decide) ?_
    exact r_iret C hW (Option.some.inj h).symm rfl dX5_renameColumn_27
  · refine lv_iload_n hx hb dX5_renameColumn_8 rfl (lv_at hl 3 rfl) ?_
    refine r_br h (lv_if_lt (tgt := 26) hx hb dX5_renameColumn_9 (by decide)) (fun h => ?_) (fun h => ?_)
    · refine lv_iconst (v := 0) hx hb dX5_renameColumn_26 (by decide) ?_
      exact r_iret C hW (Option.some.inj h).symm rfl dX5_renameColumn_27
    · refine lv_iload_n hx hb dX5_renameColumn_12 rfl (lv_at hl 3 rfl) ?_
      refine lv_bipush (v := 26) hx hb dX5_renameColumn_13 (by decide) ?_
      refine r_br h (lv_icmp_ge (tgt := 26) hx hb dX5_renameColumn_15 (by decide)) (fun h => ?_) (fun h => ?_)
      · refine lv_iconst (v := 0) hx hb dX5_renameColumn_26 (by decide) ?_
        exact r_iret C hW (Option.some.inj h).symm rfl dX5_renameColumn_27
      · refine lv_aload_n hx hb dX5_renameColumn_18 rfl (lv_at hl 1 rfl) ?_
        refine lv_iload_n hx hb dX5_renameColumn_19 rfl (lv_at hl 3 rfl) ?_
        obtain ⟨v4, h3, h⟩ := bnd_inv h
        refine r_cI hW (run_V (rest := []) C hW (t_X6_hasName h3) mk_X6_hasName vk_X5_148 (kd_X6_hasName h3) rfl rfl (by decide) ⟨Nat.le_of_ble_eq_true rfl, Nat.le_of_ble_eq_true rfl⟩ ⟨Nat.zero_le _, Nat.zero_le _⟩ rfl rfl (Nat.le_of_ble_eq_true rfl) hl.1 dX5_renameColumn_20) (fun H locs hW _ => ?_)
        refine r_br h (lv_if_eq (tgt := 28) hx hb dX5_renameColumn_23 (by decide)) (fun h => ?_) (fun h => ?_)
        · refine lv_aload_n hx hb dX5_renameColumn_28 rfl (lv_at hl 1 rfl) ?_
          refine r_gR C hW h fl_X5_151 (by decide) dX5_renameColumn_29 (fun b5 h => ?_)
          refine lv_iload_n hx hb dX5_renameColumn_32 rfl (lv_at hl 2 rfl) ?_
          refine lv_iload_n hx hb dX5_renameColumn_33 rfl (lv_at hl 3 rfl) ?_
          refine r_iast C hW h dX5_renameColumn_34 (fun X6 H locs h hW _ => ?_)
          refine lv_iconst (v := 1) hx hb dX5_renameColumn_35 (by decide) ?_
          exact r_iret C hW (Option.some.inj h).symm rfl dX5_renameColumn_36
        · refine lv_iconst (v := 0) hx hb dX5_renameColumn_26 (by decide) ?_
          exact r_iret C hW (Option.some.inj h).symm rfl dX5_renameColumn_27
set_option maxRecDepth 20000 in
set_option maxHeartbeats 2000000 in
theorem b_X5_retypeColumn_39 {a1 : Nat} {x2 : Int32} {x3 : Int32} (C : Cx g RX5 cX5_retypeColumn 5 (some .boolean) p s m args meth c) {r : (Int32 × Mx)} : ∀ (n : Nat) {X : Mx} {x4 : Int32} {H : Heap} {locs : List Loc} {ls : Array Slot} (hW : Wd g σ X s H locs) (hl : lv_has ls 5 [(1, .ref a1), (2, .int x2), (3, .int x3), (4, .int x4)]) (h : f_X5_retypeColumn_39 σ a1 x2 x3 n X x4 = some r), W p l e (rmZ 1 23) s m args below meth c H locs 0 0 (QI g σ below args s r) (F0 m 39 ls []) := by
  have hx := C.x
  have hb := C.b
  intro n
  induction n with
  | zero =>
    intro X x4 H locs ls hW hl h
    cases (show none = some r from h)
  | succ n ih =>
    intro X x4 H locs ls hW hl h
    rw [f_X5_retypeColumn_39] at h
    refine lv_iload hx hb dX5_retypeColumn_39 (lv_at hl 3 rfl) ?_
    refine lv_bipush (v := 20) hx hb dX5_retypeColumn_41 (by decide) ?_
    refine r_br h (lv_icmp_ge (tgt := 70) hx hb dX5_retypeColumn_43 (by decide)) (fun h => ?_) (fun h => ?_)
    · refine lv_iconst (v := 1) hx hb dX5_retypeColumn_70 (by decide) ?_
      exact r_iret C hW (Option.some.inj h).symm rfl dX5_retypeColumn_71
    · refine lv_aload_n hx hb dX5_retypeColumn_46 rfl (lv_at hl 0 rfl) ?_
      refine lv_iload hx hb dX5_retypeColumn_47 (lv_at hl 3 rfl) ?_
      refine lv_iload_n hx hb dX5_retypeColumn_49 rfl (lv_at hl 1 rfl) ?_
      refine lv_aload_n hx hb dX5_retypeColumn_50 rfl (lv_at hl 0 rfl) ?_
      refine lv_iload hx hb dX5_retypeColumn_51 (lv_at hl 3 rfl) ?_
      refine lv_iload_n hx hb dX5_retypeColumn_53 rfl (lv_at hl 1 rfl) ?_
      obtain ⟨v2, h1, h⟩ := bnd_inv h
      refine r_cI hW (run_V (rest := [.int x2, .int x4, .ref a1]) C hW (t_X6_numberAt h1) mk_X6_numberAt vk_X5_73 (kd_X6_numberAt h1) rfl rfl (by decide) ⟨Nat.le_of_ble_eq_true rfl, Nat.le_of_ble_eq_true rfl⟩ ⟨Nat.zero_le _, Nat.zero_le _⟩ rfl rfl (Nat.le_of_ble_eq_true rfl) hl.1 dX5_retypeColumn_54) (fun H locs hW _ => ?_)
      refine lv_iload_n hx hb dX5_retypeColumn_57 rfl (lv_at hl 2 rfl) ?_
      refine r_cI hW (run_S (rest := [.int x2, .int x4, .ref a1]) C hW (t_X8_cast (X := X)) mk_X8_cast sk_X5_84 ⟨Nat.le_of_ble_eq_true rfl, Nat.le_of_ble_eq_true rfl⟩ ⟨Nat.zero_le _, Nat.zero_le _⟩ rfl rfl (Nat.le_of_ble_eq_true rfl) hl.1 dX5_retypeColumn_58) (fun H locs hW _ => ?_)
      obtain ⟨X4, h3, h⟩ := bnd_inv h
      refine r_cV hW (run_V (rest := []) C hW (t_X6_putNumber h3) mk_X6_putNumber vk_X5_125 (kd_X6_putNumber h3) rfl rfl (by decide) ⟨Nat.le_of_ble_eq_true rfl, Nat.le_of_ble_eq_true rfl⟩ ⟨Nat.zero_le _, Nat.zero_le _⟩ rfl rfl (Nat.le_of_ble_eq_true rfl) hl.1 dX5_retypeColumn_61) (fun H locs hW _ => ?_)
      refine lv_iinc (v := (x4 + 1)) (lv' := [(4, .int (x4 + 1)), (1, .ref a1), (2, .int x2), (3, .int x3)]) hx hb dX5_retypeColumn_64 hl (k := 3) rfl rfl (by decide) rfl (fun ls hl => ?_)
      refine lv_goto (tgt := 39) hx hb dX5_retypeColumn_67 (by decide) ?_
      exact ih hW (lv_sub hl [1, 2, 3, 0] rfl) h
theorem kd_X5_retypeColumn {X : Mx} {r : (Int32 × Mx)} {a : Nat} {a1 : Nat} {x2 : Int32} {x3 : Int32} (h : f_X5_retypeColumn σ X a a1 x2 x3 = some r) : shK σ a = 4 := (grd_inv h).1
set_option maxRecDepth 20000 in
set_option maxHeartbeats 2000000 in
theorem t_X5_retypeColumn {X : Mx} {r : (Int32 × Mx)} {a : Nat} {a1 : Nat} {x2 : Int32} {x3 : Int32} (h : f_X5_retypeColumn σ X a a1 x2 x3 = some r) : MtI g l yX5_retypeColumn cX5_retypeColumn 5 (some .boolean) 1 23 [.ref a, .ref a1, .int x2, .int x3] σ X r := by
  refine met_of mk_X5_retypeColumn (Nat.le_of_ble_eq_true rfl) (fun p e s m args below meth c ls C hW hl => ?_)
  have hx := C.x
  have hb := C.b
  have hl : lv_has ls 5 [(0, .ref a), (1, .ref a1), (2, .int x2), (3, .int x3)] := hl
  unfold f_X5_retypeColumn at h
  obtain ⟨hk0, h⟩ := grd_inv h
  refine lv_aload_n hx hb dX5_retypeColumn_0 rfl (lv_at hl 1 rfl) ?_
  refine lv_iload_n hx hb dX5_retypeColumn_1 rfl (lv_at hl 2 rfl) ?_
  obtain ⟨v2, h1, h⟩ := bnd_inv h
  refine r_cI hW (run_V (rest := []) C hW (t_X6_hasColumn h1) mk_X6_hasColumn vk_X5_77 (kd_X6_hasColumn h1) rfl rfl (by decide) ⟨Nat.le_of_ble_eq_true rfl, Nat.le_of_ble_eq_true rfl⟩ ⟨Nat.zero_le _, Nat.zero_le _⟩ rfl rfl (Nat.le_of_ble_eq_true rfl) hl.1 dX5_retypeColumn_2) (fun H locs hW _ => ?_)
  refine r_br h (lv_if_eq (tgt := 27) hx hb dX5_retypeColumn_5 (by decide)) (fun h => ?_) (fun h => ?_)
  · refine lv_iconst (v := 0) hx hb dX5_retypeColumn_27 (by decide) ?_
    exact r_iret C hW (Option.some.inj h).symm rfl dX5_retypeColumn_28
  · refine lv_iload_n hx hb dX5_retypeColumn_8 rfl (lv_at hl 3 rfl) ?_
    refine r_br h (lv_if_lt (tgt := 27) hx hb dX5_retypeColumn_9 (by decide)) (fun h => ?_) (fun h => ?_)
    · refine lv_iconst (v := 0) hx hb dX5_retypeColumn_27 (by decide) ?_
      exact r_iret C hW (Option.some.inj h).symm rfl dX5_retypeColumn_28
    · refine lv_iload_n hx hb dX5_retypeColumn_12 rfl (lv_at hl 3 rfl) ?_
      refine lv_iconst (v := 4) hx hb dX5_retypeColumn_13 (by decide) ?_
      refine r_br h (lv_icmp_ge (tgt := 27) hx hb dX5_retypeColumn_14 (by decide)) (fun h => ?_) (fun h => ?_)
      · refine lv_iconst (v := 0) hx hb dX5_retypeColumn_27 (by decide) ?_
        exact r_iret C hW (Option.some.inj h).symm rfl dX5_retypeColumn_28
      · refine lv_aload_n hx hb dX5_retypeColumn_17 rfl (lv_at hl 1 rfl) ?_
        refine r_gR C hW h fl_X5_81 (by decide) dX5_retypeColumn_18 (fun b3 h => ?_)
        refine lv_iload_n hx hb dX5_retypeColumn_21 rfl (lv_at hl 2 rfl) ?_
        refine r_iald C hW h dX5_retypeColumn_22 (fun v4 h => ?_)
        refine lv_iload_n hx hb dX5_retypeColumn_23 rfl (lv_at hl 3 rfl) ?_
        refine r_brn h (lv_icmp_ne (tgt := 29) hx hb dX5_retypeColumn_24 (by decide)) (fun h => ?_) (fun h => ?_)
        · refine lv_aload_n hx hb dX5_retypeColumn_29 rfl (lv_at hl 1 rfl) ?_
          refine r_gR C hW h fl_X5_81 (by decide) dX5_retypeColumn_30 (fun b5 h => ?_)
          refine lv_iload_n hx hb dX5_retypeColumn_33 rfl (lv_at hl 2 rfl) ?_
          refine lv_iload_n hx hb dX5_retypeColumn_34 rfl (lv_at hl 3 rfl) ?_
          refine r_iast C hW h dX5_retypeColumn_35 (fun X6 H locs h hW _ => ?_)
          refine lv_iconst (v := 0) hx hb dX5_retypeColumn_36 (by decide) ?_
          refine lv_istore (lv' := [(4, .int 0), (0, .ref a), (1, .ref a1), (2, .int x2), (3, .int x3)]) hx hb dX5_retypeColumn_37 hl (by decide) rfl (fun ls hl => ?_)
          exact b_X5_retypeColumn_39 C FU hW (lv_sub hl [2, 3, 4, 0] rfl) h
        · refine lv_iconst (v := 0) hx hb dX5_retypeColumn_27 (by decide) ?_
          exact r_iret C hW (Option.some.inj h).symm rfl dX5_retypeColumn_28
theorem kd_X5_setNumber {X : Mx} {r : (Int32 × Mx)} {a : Nat} {a1 : Nat} {x2 : Int32} {x3 : Int32} {x4 : Int32} (h : f_X5_setNumber σ X a a1 x2 x3 x4 = some r) : shK σ a = 4 := (grd_inv h).1
set_option maxRecDepth 20000 in
set_option maxHeartbeats 2000000 in
theorem t_X5_setNumber {X : Mx} {r : (Int32 × Mx)} {a : Nat} {a1 : Nat} {x2 : Int32} {x3 : Int32} {x4 : Int32} (h : f_X5_setNumber σ X a a1 x2 x3 x4 = some r) : MtI g l yX5_setNumber cX5_setNumber 5 (some .boolean) 1 23 [.ref a, .ref a1, .int x2, .int x3, .int x4] σ X r := by
  refine met_of mk_X5_setNumber (Nat.le_of_ble_eq_true rfl) (fun p e s m args below meth c ls C hW hl => ?_)
  have hx := C.x
  have hb := C.b
  have hl : lv_has ls 5 [(0, .ref a), (1, .ref a1), (2, .int x2), (3, .int x3), (4, .int x4)] := hl
  unfold f_X5_setNumber at h
  obtain ⟨hk0, h⟩ := grd_inv h
  refine lv_aload_n hx hb dX5_setNumber_0 rfl (lv_at hl 1 rfl) ?_
  refine lv_iload_n hx hb dX5_setNumber_1 rfl (lv_at hl 2 rfl) ?_
  refine lv_iload_n hx hb dX5_setNumber_2 rfl (lv_at hl 3 rfl) ?_
  obtain ⟨v2, h1, h⟩ := bnd_inv h
  refine r_cI hW (run_V (rest := []) C hW (t_X6_hasCell h1) mk_X6_hasCell vk_X5_89 (kd_X6_hasCell h1) rfl rfl (by decide) ⟨Nat.le_of_ble_eq_true rfl, Nat.le_of_ble_eq_true rfl⟩ ⟨Nat.zero_le _, Nat.zero_le _⟩ rfl rfl (Nat.le_of_ble_eq_true rfl) hl.1 dX5_setNumber_3) (fun H locs hW _ => ?_)
  refine r_br h (lv_if_eq (tgt := 34) hx hb dX5_setNumber_6 (by decide)) (fun h => ?_) (fun h => ?_)
  · refine lv_iconst (v := 0) hx hb dX5_setNumber_34 (by decide) ?_
    exact r_iret C hW (Option.some.inj h).symm rfl dX5_setNumber_35
  · refine lv_aload_n hx hb dX5_setNumber_9 rfl (lv_at hl 1 rfl) ?_
    refine lv_iload_n hx hb dX5_setNumber_10 rfl (lv_at hl 2 rfl) ?_
    refine lv_iload_n hx hb dX5_setNumber_11 rfl (lv_at hl 3 rfl) ?_
    obtain ⟨v4, h3, h⟩ := bnd_inv h
    refine r_cI hW (run_V (rest := []) C hW (t_X6_numberAt h3) mk_X6_numberAt vk_X5_73 (kd_X6_numberAt h3) rfl rfl (by decide) ⟨Nat.le_of_ble_eq_true rfl, Nat.le_of_ble_eq_true rfl⟩ ⟨Nat.zero_le _, Nat.zero_le _⟩ rfl rfl (Nat.le_of_ble_eq_true rfl) hl.1 dX5_setNumber_12) (fun H locs hW _ => ?_)
    refine lv_iload hx hb dX5_setNumber_15 (lv_at hl 4 rfl) ?_
    refine r_br h (lv_icmp_eq (tgt := 34) hx hb dX5_setNumber_17 (by decide)) (fun h => ?_) (fun h => ?_)
    · refine lv_iconst (v := 0) hx hb dX5_setNumber_34 (by decide) ?_
      exact r_iret C hW (Option.some.inj h).symm rfl dX5_setNumber_35
    · refine lv_aload_n hx hb dX5_setNumber_20 rfl (lv_at hl 1 rfl) ?_
      refine r_gR C hW h fl_X5_81 (by decide) dX5_setNumber_21 (fun b5 h => ?_)
      refine lv_iload_n hx hb dX5_setNumber_24 rfl (lv_at hl 3 rfl) ?_
      refine r_iald C hW h dX5_setNumber_25 (fun v6 h => ?_)
      refine lv_iload hx hb dX5_setNumber_26 (lv_at hl 4 rfl) ?_
      refine r_cI hW (run_S (rest := []) C hW (t_X8_holds (X := X)) mk_X8_holds sk_X5_122 ⟨Nat.le_of_ble_eq_true rfl, Nat.le_of_ble_eq_true rfl⟩ ⟨Nat.zero_le _, Nat.zero_le _⟩ rfl rfl (Nat.le_of_ble_eq_true rfl) hl.1 dX5_setNumber_28) (fun H locs hW _ => ?_)
      refine r_brn h (lv_if_ne (tgt := 36) hx hb dX5_setNumber_31 (by decide)) (fun h => ?_) (fun h => ?_)
      · refine lv_aload_n hx hb dX5_setNumber_36 rfl (lv_at hl 1 rfl) ?_
        refine lv_iload_n hx hb dX5_setNumber_37 rfl (lv_at hl 2 rfl) ?_
        refine lv_iload_n hx hb dX5_setNumber_38 rfl (lv_at hl 3 rfl) ?_
        refine lv_iload hx hb dX5_setNumber_39 (lv_at hl 4 rfl) ?_
        obtain ⟨X8, h7, h⟩ := bnd_inv h
        refine r_cV hW (run_V (rest := []) C hW (t_X6_putNumber h7) mk_X6_putNumber vk_X5_125 (kd_X6_putNumber h7) rfl rfl (by decide) ⟨Nat.le_of_ble_eq_true rfl, Nat.le_of_ble_eq_true rfl⟩ ⟨Nat.zero_le _, Nat.zero_le _⟩ rfl rfl (Nat.le_of_ble_eq_true rfl) hl.1 dX5_setNumber_41) (fun H locs hW _ => ?_)
        refine lv_iconst (v := 1) hx hb dX5_setNumber_44 (by decide) ?_
        exact r_iret C hW (Option.some.inj h).symm rfl dX5_setNumber_45
      · refine lv_iconst (v := 0) hx hb dX5_setNumber_34 (by decide) ?_
        exact r_iret C hW (Option.some.inj h).symm rfl dX5_setNumber_35
theorem kd_X5_doEdit {X : Mx} {r : (Int32 × Mx)} {a : Nat} {x1 : Int32} {x2 : Int32} {x3 : Int32} {x4 : Int32} {x5 : Int32} (h : f_X5_doEdit σ X a x1 x2 x3 x4 x5 = some r) : shK σ a = 4 := (grd_inv h).1
set_option maxRecDepth 20000 in
set_option maxHeartbeats 2000000 in
theorem t_X5_doEdit {X : Mx} {r : (Int32 × Mx)} {a : Nat} {x1 : Int32} {x2 : Int32} {x3 : Int32} {x4 : Int32} {x5 : Int32} (h : f_X5_doEdit σ X a x1 x2 x3 x4 x5 = some r) : MtI g l yX5_doEdit cX5_doEdit 7 (some .int) 3 69 [.ref a, .int x1, .int x2, .int x3, .int x4, .int x5] σ X r := by
  refine met_of mk_X5_doEdit (Nat.le_of_ble_eq_true rfl) (fun p e s m args below meth c ls C hW hl => ?_)
  have hx := C.x
  have hb := C.b
  have hl : lv_has ls 7 [(0, .ref a), (1, .int x1), (2, .int x2), (3, .int x3), (4, .int x4), (5, .int x5)] := hl
  unfold f_X5_doEdit at h
  obtain ⟨hk0, h⟩ := grd_inv h
  refine lv_aload_n hx hb dX5_doEdit_0 rfl (lv_at hl 0 rfl) ?_
  refine lv_iload_n hx hb dX5_doEdit_1 rfl (lv_at hl 2 rfl) ?_
  obtain ⟨b2, h1, h⟩ := bnd_inv h
  refine r_cR hW (run_V (rest := []) C hW (t_X5_sideOf h1) mk_X5_sideOf vk_X5_69 (kd_X5_sideOf h1) rfl rfl (by decide) ⟨Nat.le_of_ble_eq_true rfl, Nat.le_of_ble_eq_true rfl⟩ ⟨Nat.zero_le _, Nat.zero_le _⟩ rfl rfl (Nat.le_of_ble_eq_true rfl) hl.1 dX5_doEdit_2) (fun H locs hW _ => ?_)
  refine lv_astore (lv' := [(6, .ref b2), (0, .ref a), (1, .int x1), (2, .int x2), (3, .int x3), (4, .int x4), (5, .int x5)]) hx hb dX5_doEdit_5 hl (by decide) rfl (fun ls hl => ?_)
  refine lv_iload_n hx hb dX5_doEdit_7 rfl (lv_at hl 2 rfl) ?_
  refine r_case h (fun ec h => ?_) (fun nc0 h => ?_)
  · refine lv_tableIn (tgt := 52) (off := 44) hx hb dX5_doEdit_8 (by rw [ec]; decide) (by rw [ec]; decide) (by rw [ec]; rfl) (by decide) ?_
    refine lv_aload_n hx hb dX5_doEdit_52 rfl (lv_at hl 1 rfl) ?_
    refine lv_aload hx hb dX5_doEdit_53 (lv_at hl 0 rfl) ?_
    refine lv_iload_n hx hb dX5_doEdit_55 rfl (lv_at hl 4 rfl) ?_
    refine lv_iload hx hb dX5_doEdit_56 (lv_at hl 5 rfl) ?_
    refine lv_iload hx hb dX5_doEdit_58 (lv_at hl 6 rfl) ?_
    obtain ⟨v5, X4, h3, h⟩ := bnd2_inv h
    refine r_cI hW (run_V (rest := []) C hW (t_X5_setNumber h3) mk_X5_setNumber vk_X5_97 (kd_X5_setNumber h3) rfl rfl (by decide) ⟨Nat.le_of_ble_eq_true rfl, Nat.le_of_ble_eq_true rfl⟩ ⟨Nat.zero_le _, Nat.zero_le _⟩ rfl rfl (Nat.le_of_ble_eq_true rfl) hl.1 dX5_doEdit_60) (fun H locs hW _ => ?_)
    refine r_br h (lv_if_eq (tgt := 70) hx hb dX5_doEdit_63 (by decide)) (fun h => ?_) (fun h => ?_)
    · refine lv_iconst (v := (-1)) hx hb dX5_doEdit_70 (by decide) ?_
      exact r_iret C hW (Option.some.inj h).symm rfl dX5_doEdit_71
    · refine lv_iconst (v := 0) hx hb dX5_doEdit_66 (by decide) ?_
      refine lv_goto (tgt := 71) hx hb dX5_doEdit_67 (by decide) ?_
      exact r_iret C hW (Option.some.inj h).symm rfl dX5_doEdit_71
  refine r_case h (fun ec h => ?_) (fun nc1 h => ?_)
  · refine lv_tableIn (tgt := 72) (off := 64) hx hb dX5_doEdit_8 (by rw [ec]; decide) (by rw [ec]; decide) (by rw [ec]; rfl) (by decide) ?_
    refine lv_aload_n hx hb dX5_doEdit_72 rfl (lv_at hl 1 rfl) ?_
    refine lv_aload hx hb dX5_doEdit_73 (lv_at hl 0 rfl) ?_
    refine lv_iload_n hx hb dX5_doEdit_75 rfl (lv_at hl 4 rfl) ?_
    obtain ⟨v8, X7, h6, h⟩ := bnd2_inv h
    refine r_cI hW (run_V (rest := []) C hW (t_X5_insertRow h6) mk_X5_insertRow vk_X5_101 (kd_X5_insertRow h6) rfl rfl (by decide) ⟨Nat.le_of_ble_eq_true rfl, Nat.le_of_ble_eq_true rfl⟩ ⟨Nat.zero_le _, Nat.zero_le _⟩ rfl rfl (Nat.le_of_ble_eq_true rfl) hl.1 dX5_doEdit_76) (fun H locs hW _ => ?_)
    refine r_br h (lv_if_eq (tgt := 86) hx hb dX5_doEdit_79 (by decide)) (fun h => ?_) (fun h => ?_)
    · refine lv_iconst (v := (-1)) hx hb dX5_doEdit_86 (by decide) ?_
      exact r_iret C hW (Option.some.inj h).symm rfl dX5_doEdit_87
    · refine lv_iconst (v := 0) hx hb dX5_doEdit_82 (by decide) ?_
      refine lv_goto (tgt := 87) hx hb dX5_doEdit_83 (by decide) ?_
      exact r_iret C hW (Option.some.inj h).symm rfl dX5_doEdit_87
  refine r_case h (fun ec h => ?_) (fun nc2 h => ?_)
  · refine lv_tableIn (tgt := 88) (off := 80) hx hb dX5_doEdit_8 (by rw [ec]; decide) (by rw [ec]; decide) (by rw [ec]; rfl) (by decide) ?_
    refine lv_aload_n hx hb dX5_doEdit_88 rfl (lv_at hl 1 rfl) ?_
    refine lv_aload hx hb dX5_doEdit_89 (lv_at hl 0 rfl) ?_
    refine lv_iload_n hx hb dX5_doEdit_91 rfl (lv_at hl 4 rfl) ?_
    obtain ⟨v11, X10, h9, h⟩ := bnd2_inv h
    refine r_cI hW (run_V (rest := []) C hW (t_X5_deleteRow h9) mk_X5_deleteRow vk_X5_105 (kd_X5_deleteRow h9) rfl rfl (by decide) ⟨Nat.le_of_ble_eq_true rfl, Nat.le_of_ble_eq_true rfl⟩ ⟨Nat.zero_le _, Nat.zero_le _⟩ rfl rfl (Nat.le_of_ble_eq_true rfl) hl.1 dX5_doEdit_92) (fun H locs hW _ => ?_)
    refine r_br h (lv_if_eq (tgt := 102) hx hb dX5_doEdit_95 (by decide)) (fun h => ?_) (fun h => ?_)
    · refine lv_iconst (v := (-1)) hx hb dX5_doEdit_102 (by decide) ?_
      exact r_iret C hW (Option.some.inj h).symm rfl dX5_doEdit_103
    · refine lv_iconst (v := 0) hx hb dX5_doEdit_98 (by decide) ?_
      refine lv_goto (tgt := 103) hx hb dX5_doEdit_99 (by decide) ?_
      exact r_iret C hW (Option.some.inj h).symm rfl dX5_doEdit_103
  refine r_case h (fun ec h => ?_) (fun nc3 h => ?_)
  · refine lv_tableIn (tgt := 104) (off := 96) hx hb dX5_doEdit_8 (by rw [ec]; decide) (by rw [ec]; decide) (by rw [ec]; rfl) (by decide) ?_
    refine lv_aload_n hx hb dX5_doEdit_104 rfl (lv_at hl 1 rfl) ?_
    refine lv_aload hx hb dX5_doEdit_105 (lv_at hl 0 rfl) ?_
    refine lv_iload_n hx hb dX5_doEdit_107 rfl (lv_at hl 4 rfl) ?_
    refine lv_iload hx hb dX5_doEdit_108 (lv_at hl 5 rfl) ?_
    obtain ⟨v14, X13, h12, h⟩ := bnd2_inv h
    refine r_cI hW (run_V (rest := []) C hW (t_X5_retypeColumn h12) mk_X5_retypeColumn vk_X5_108 (kd_X5_retypeColumn h12) rfl rfl (by decide) ⟨Nat.le_of_ble_eq_true rfl, Nat.le_of_ble_eq_true rfl⟩ ⟨Nat.zero_le _, Nat.zero_le _⟩ rfl rfl (Nat.le_of_ble_eq_true rfl) hl.1 dX5_doEdit_110) (fun H locs hW _ => ?_)
    refine r_br h (lv_if_eq (tgt := 120) hx hb dX5_doEdit_113 (by decide)) (fun h => ?_) (fun h => ?_)
    · refine lv_iconst (v := (-1)) hx hb dX5_doEdit_120 (by decide) ?_
      exact r_iret C hW (Option.some.inj h).symm rfl dX5_doEdit_121
    · refine lv_iconst (v := 0) hx hb dX5_doEdit_116 (by decide) ?_
      refine lv_goto (tgt := 121) hx hb dX5_doEdit_117 (by decide) ?_
      exact r_iret C hW (Option.some.inj h).symm rfl dX5_doEdit_121
  refine r_case h (fun ec h => ?_) (fun nc4 h => ?_)
  · refine lv_tableIn (tgt := 122) (off := 114) hx hb dX5_doEdit_8 (by rw [ec]; decide) (by rw [ec]; decide) (by rw [ec]; rfl) (by decide) ?_
    refine lv_aload_n hx hb dX5_doEdit_122 rfl (lv_at hl 1 rfl) ?_
    refine lv_aload hx hb dX5_doEdit_123 (lv_at hl 0 rfl) ?_
    refine lv_iload_n hx hb dX5_doEdit_125 rfl (lv_at hl 4 rfl) ?_
    refine lv_iload hx hb dX5_doEdit_126 (lv_at hl 5 rfl) ?_
    obtain ⟨v17, X16, h15, h⟩ := bnd2_inv h
    refine r_cI hW (run_V (rest := []) C hW (t_X5_renameColumn h15) mk_X5_renameColumn vk_X5_112 (kd_X5_renameColumn h15) rfl rfl (by decide) ⟨Nat.le_of_ble_eq_true rfl, Nat.le_of_ble_eq_true rfl⟩ ⟨Nat.zero_le _, Nat.zero_le _⟩ rfl rfl (Nat.le_of_ble_eq_true rfl) hl.1 dX5_doEdit_128) (fun H locs hW _ => ?_)
    refine r_br h (lv_if_eq (tgt := 138) hx hb dX5_doEdit_131 (by decide)) (fun h => ?_) (fun h => ?_)
    · refine lv_iconst (v := (-1)) hx hb dX5_doEdit_138 (by decide) ?_
      exact r_iret C hW (Option.some.inj h).symm rfl dX5_doEdit_139
    · refine lv_iconst (v := 0) hx hb dX5_doEdit_134 (by decide) ?_
      refine lv_goto (tgt := 139) hx hb dX5_doEdit_135 (by decide) ?_
      exact r_iret C hW (Option.some.inj h).symm rfl dX5_doEdit_139
  refine r_case h (fun ec h => ?_) (fun nc5 h => ?_)
  · refine lv_tableIn (tgt := 140) (off := 132) hx hb dX5_doEdit_8 (by rw [ec]; decide) (by rw [ec]; decide) (by rw [ec]; rfl) (by decide) ?_
    refine lv_aload_n hx hb dX5_doEdit_140 rfl (lv_at hl 1 rfl) ?_
    refine lv_iload_n hx hb dX5_doEdit_141 rfl (lv_at hl 3 rfl) ?_
    refine lv_iload_n hx hb dX5_doEdit_142 rfl (lv_at hl 4 rfl) ?_
    refine lv_iload hx hb dX5_doEdit_143 (lv_at hl 5 rfl) ?_
    obtain ⟨v20, X19, h18, h⟩ := bnd2_inv h
    refine r_cI hW (run_V (rest := []) C hW (t_X5_addColumn h18) mk_X5_addColumn vk_X5_115 (kd_X5_addColumn h18) rfl rfl (by decide) ⟨Nat.le_of_ble_eq_true rfl, Nat.le_of_ble_eq_true rfl⟩ ⟨Nat.zero_le _, Nat.zero_le _⟩ rfl rfl (Nat.le_of_ble_eq_true rfl) hl.1 dX5_doEdit_145) (fun H locs hW _ => ?_)
    exact r_iret C hW (Option.some.inj h).symm rfl dX5_doEdit_148
  refine r_case h (fun ec h => ?_) (fun nc6 h => ?_)
  · refine lv_tableIn (tgt := 149) (off := 141) hx hb dX5_doEdit_8 (by rw [ec]; decide) (by rw [ec]; decide) (by rw [ec]; rfl) (by decide) ?_
    refine lv_aload_n hx hb dX5_doEdit_149 rfl (lv_at hl 1 rfl) ?_
    refine lv_aload hx hb dX5_doEdit_150 (lv_at hl 0 rfl) ?_
    refine lv_iload_n hx hb dX5_doEdit_152 rfl (lv_at hl 4 rfl) ?_
    obtain ⟨v23, X22, h21, h⟩ := bnd2_inv h
    refine r_cI hW (run_V (rest := []) C hW (t_X5_dropColumn h21) mk_X5_dropColumn vk_X5_119 (kd_X5_dropColumn h21) rfl rfl (by decide) ⟨Nat.le_of_ble_eq_true rfl, Nat.le_of_ble_eq_true rfl⟩ ⟨Nat.zero_le _, Nat.zero_le _⟩ rfl rfl (Nat.le_of_ble_eq_true rfl) hl.1 dX5_doEdit_153) (fun H locs hW _ => ?_)
    refine r_br h (lv_if_eq (tgt := 163) hx hb dX5_doEdit_156 (by decide)) (fun h => ?_) (fun h => ?_)
    · refine lv_iconst (v := (-1)) hx hb dX5_doEdit_163 (by decide) ?_
      exact r_iret C hW (Option.some.inj h).symm rfl dX5_doEdit_164
    · refine lv_iconst (v := 0) hx hb dX5_doEdit_159 (by decide) ?_
      refine lv_goto (tgt := 164) hx hb dX5_doEdit_160 (by decide) ?_
      exact r_iret C hW (Option.some.inj h).symm rfl dX5_doEdit_164
  refine lv_tableOut (tgt := 165) hx hb dX5_doEdit_8 (sw_out (lo := 0) (n := 6) (sw_s nc6 (sw_s nc5 (sw_s nc4 (sw_s nc3 (sw_s nc2 (sw_s nc1 (sw_0 nc0))))))) (by decide)) (by decide) ?_
  refine lv_iconst (v := (-1)) hx hb dX5_doEdit_165 (by decide) ?_
  exact r_iret C hW (Option.some.inj h).symm rfl dX5_doEdit_166
theorem kd_X3_passYear {X : Mx} {r : (Int32 × Mx)} {a : Nat} (h : f_X3_passYear σ X a = some r) : shK σ a = 2 := (grd_inv h).1
set_option maxRecDepth 20000 in
set_option maxHeartbeats 2000000 in
theorem t_X3_passYear {X : Mx} {r : (Int32 × Mx)} {a : Nat} (h : f_X3_passYear σ X a = some r) : MtI g l yX3_passYear cX3_passYear 5 (some .boolean) 4 95 [.ref a] σ X r := by
  refine met_of mk_X3_passYear (Nat.le_of_ble_eq_true rfl) (fun p e s m args below meth c ls C hW hl => ?_)
  have hx := C.x
  have hb := C.b
  have hl : lv_has ls 5 [(0, .ref a)] := hl
  unfold f_X3_passYear at h
  obtain ⟨hk0, h⟩ := grd_inv h
  refine lv_aload_n hx hb dX3_passYear_0 rfl (lv_at hl 0 rfl) ?_
  refine lv_iconst (v := 2) hx hb dX3_passYear_1 (by decide) ?_
  obtain ⟨v3, X2, h1, h⟩ := bnd2_inv h
  refine r_cI hW (run_V (rest := []) C hW (t_X3_draw h1) mk_X3_draw vk_X3_156 (kd_X3_draw h1) rfl rfl (by decide) ⟨Nat.le_of_ble_eq_true rfl, Nat.le_of_ble_eq_true rfl⟩ ⟨Nat.zero_le _, Nat.zero_le _⟩ rfl rfl (Nat.le_of_ble_eq_true rfl) hl.1 dX3_passYear_2) (fun H locs hW _ => ?_)
  refine lv_istore_n (lv' := [(1, .int v3), (0, .ref a)]) hx hb dX3_passYear_5 rfl hl (by decide) rfl (fun ls hl => ?_)
  refine lv_aload_n hx hb dX3_passYear_6 rfl (lv_at hl 1 rfl) ?_
  refine lv_iconst (v := 4) hx hb dX3_passYear_7 (by decide) ?_
  obtain ⟨v6, X5, h4, h⟩ := bnd2_inv h
  refine r_cI hW (run_V (rest := []) C hW (t_X3_draw h4) mk_X3_draw vk_X3_156 (kd_X3_draw h4) rfl rfl (by decide) ⟨Nat.le_of_ble_eq_true rfl, Nat.le_of_ble_eq_true rfl⟩ ⟨Nat.zero_le _, Nat.zero_le _⟩ rfl rfl (Nat.le_of_ble_eq_true rfl) hl.1 dX3_passYear_8) (fun H locs hW _ => ?_)
  refine lv_istore_n (lv' := [(2, .int v6), (1, .int v3), (0, .ref a)]) hx hb dX3_passYear_11 rfl hl (by decide) rfl (fun ls hl => ?_)
  refine lv_iload_n hx hb dX3_passYear_12 rfl (lv_at hl 0 rfl) ?_
  refine lv_iconst (v := 3) hx hb dX3_passYear_13 (by decide) ?_
  refine r_brn h (lv_icmp_ne (tgt := 50) hx hb dX3_passYear_14 (by decide)) (fun h => ?_) (fun h => ?_)
  · refine lv_aload_n hx hb dX3_passYear_50 rfl (lv_at hl 2 rfl) ?_
    refine lv_bipush (v := 20) hx hb dX3_passYear_51 (by decide) ?_
    obtain ⟨v9, X8, h7, h⟩ := bnd2_inv h
    refine r_cI hW (run_V (rest := []) C hW (t_X3_draw h7) mk_X3_draw vk_X3_156 (kd_X3_draw h7) rfl rfl (by decide) ⟨Nat.le_of_ble_eq_true rfl, Nat.le_of_ble_eq_true rfl⟩ ⟨Nat.zero_le _, Nat.zero_le _⟩ rfl rfl (Nat.le_of_ble_eq_true rfl) hl.1 dX3_passYear_53) (fun H locs hW _ => ?_)
    refine lv_istore_n (lv' := [(3, .int v9), (2, .int v6), (1, .int v3), (0, .ref a)]) hx hb dX3_passYear_56 rfl hl (by decide) rfl (fun ls hl => ?_)
    refine lv_iload_n hx hb dX3_passYear_57 rfl (lv_at hl 1 rfl) ?_
    refine r_br h (lv_if_eq (tgt := 83) hx hb dX3_passYear_58 (by decide)) (fun h => ?_) (fun h => ?_)
    · refine lv_aload_n hx hb dX3_passYear_83 rfl (lv_at hl 3 rfl) ?_
      refine lv_bipush (v := 9) hx hb dX3_passYear_84 (by decide) ?_
      obtain ⟨v12, X11, h10, h⟩ := bnd2_inv h
      refine r_cI hW (run_V (rest := []) C hW (t_X3_draw h10) mk_X3_draw vk_X3_156 (kd_X3_draw h10) rfl rfl (by decide) ⟨Nat.le_of_ble_eq_true rfl, Nat.le_of_ble_eq_true rfl⟩ ⟨Nat.zero_le _, Nat.zero_le _⟩ rfl rfl (Nat.le_of_ble_eq_true rfl) hl.1 dX3_passYear_86) (fun H locs hW _ => ?_)
      refine lv_istore (lv' := [(4, .int v12), (3, .int v9), (2, .int v6), (1, .int v3), (0, .ref a)]) hx hb dX3_passYear_89 hl (by decide) rfl (fun ls hl => ?_)
      refine lv_aload_n hx hb dX3_passYear_91 rfl (lv_at hl 4 rfl) ?_
      refine r_gR C hW h fl_X3_12 (by decide) dX3_passYear_92 (fun b13 h => ?_)
      refine lv_iload_n hx hb dX3_passYear_95 rfl (lv_at hl 2 rfl) ?_
      refine lv_iload_n hx hb dX3_passYear_96 rfl (lv_at hl 3 rfl) ?_
      refine lv_iload_n hx hb dX3_passYear_97 rfl (lv_at hl 1 rfl) ?_
      refine lv_iload hx hb dX3_passYear_98 (lv_at hl 0 rfl) ?_
      refine lv_aload_n hx hb dX3_passYear_100 rfl (lv_at hl 4 rfl) ?_
      refine lv_bipush (v := 10) hx hb dX3_passYear_101 (by decide) ?_
      obtain ⟨v16, X15, h14, h⟩ := bnd2_inv h
      refine r_cI hW (run_V (rest := [.int v12, .int v9, .int v3, .int v6, .ref b13]) C hW (t_X3_draw h14) mk_X3_draw vk_X3_156 (kd_X3_draw h14) rfl rfl (by decide) ⟨Nat.le_of_ble_eq_true rfl, Nat.le_of_ble_eq_true rfl⟩ ⟨Nat.zero_le _, Nat.zero_le _⟩ rfl rfl (Nat.le_of_ble_eq_true rfl) hl.1 dX3_passYear_103) (fun H locs hW _ => ?_)
      obtain ⟨v19, X18, h17, h⟩ := bnd2_inv h
      refine r_cI hW (run_V (rest := []) C hW (t_X5_doEdit h17) mk_X5_doEdit vk_X3_159 (kd_X5_doEdit h17) rfl rfl (by decide) ⟨Nat.le_of_ble_eq_true rfl, Nat.le_of_ble_eq_true rfl⟩ ⟨Nat.zero_le _, Nat.zero_le _⟩ rfl rfl (Nat.le_of_ble_eq_true rfl) hl.1 dX3_passYear_106) (fun H locs hW _ => ?_)
      refine lv_iconst (v := (-1)) hx hb dX3_passYear_109 (by decide) ?_
      refine r_br h (lv_icmp_eq (tgt := 117) hx hb dX3_passYear_110 (by decide)) (fun h => ?_) (fun h => ?_)
      · refine lv_iconst (v := 0) hx hb dX3_passYear_117 (by decide) ?_
        exact r_iret C hW (Option.some.inj h).symm rfl dX3_passYear_118
      · refine lv_iconst (v := 1) hx hb dX3_passYear_113 (by decide) ?_
        refine lv_goto (tgt := 118) hx hb dX3_passYear_114 (by decide) ?_
        exact r_iret C hW (Option.some.inj h).symm rfl dX3_passYear_118
    · refine lv_aload_n hx hb dX3_passYear_61 rfl (lv_at hl 3 rfl) ?_
      refine r_gR C hW h fl_X3_12 (by decide) dX3_passYear_62 (fun b20 h => ?_)
      refine lv_iload_n hx hb dX3_passYear_65 rfl (lv_at hl 1 rfl) ?_
      refine lv_iload_n hx hb dX3_passYear_66 rfl (lv_at hl 2 rfl) ?_
      refine lv_iload_n hx hb dX3_passYear_67 rfl (lv_at hl 0 rfl) ?_
      refine lv_iconst (v := 0) hx hb dX3_passYear_68 (by decide) ?_
      refine lv_iconst (v := 0) hx hb dX3_passYear_69 (by decide) ?_
      obtain ⟨v23, X22, h21, h⟩ := bnd2_inv h
      refine r_cI hW (run_V (rest := []) C hW (t_X5_doEdit h21) mk_X5_doEdit vk_X3_159 (kd_X5_doEdit h21) rfl rfl (by decide) ⟨Nat.le_of_ble_eq_true rfl, Nat.le_of_ble_eq_true rfl⟩ ⟨Nat.zero_le _, Nat.zero_le _⟩ rfl rfl (Nat.le_of_ble_eq_true rfl) hl.1 dX3_passYear_70) (fun H locs hW _ => ?_)
      refine lv_iconst (v := (-1)) hx hb dX3_passYear_73 (by decide) ?_
      refine r_br h (lv_icmp_eq (tgt := 81) hx hb dX3_passYear_74 (by decide)) (fun h => ?_) (fun h => ?_)
      · refine lv_iconst (v := 0) hx hb dX3_passYear_81 (by decide) ?_
        exact r_iret C hW (Option.some.inj h).symm rfl dX3_passYear_82
      · refine lv_iconst (v := 1) hx hb dX3_passYear_77 (by decide) ?_
        refine lv_goto (tgt := 82) hx hb dX3_passYear_78 (by decide) ?_
        exact r_iret C hW (Option.some.inj h).symm rfl dX3_passYear_82
  · refine lv_aload_n hx hb dX3_passYear_17 rfl (lv_at hl 2 rfl) ?_
    refine lv_bipush (v := 9) hx hb dX3_passYear_18 (by decide) ?_
    obtain ⟨v26, X25, h24, h⟩ := bnd2_inv h
    refine r_cI hW (run_V (rest := []) C hW (t_X3_draw h24) mk_X3_draw vk_X3_156 (kd_X3_draw h24) rfl rfl (by decide) ⟨Nat.le_of_ble_eq_true rfl, Nat.le_of_ble_eq_true rfl⟩ ⟨Nat.zero_le _, Nat.zero_le _⟩ rfl rfl (Nat.le_of_ble_eq_true rfl) hl.1 dX3_passYear_20) (fun H locs hW _ => ?_)
    refine lv_istore_n (lv' := [(3, .int v26), (2, .int v6), (1, .int v3), (0, .ref a)]) hx hb dX3_passYear_23 rfl hl (by decide) rfl (fun ls hl => ?_)
    refine lv_aload_n hx hb dX3_passYear_24 rfl (lv_at hl 3 rfl) ?_
    refine r_gR C hW h fl_X3_12 (by decide) dX3_passYear_25 (fun b27 h => ?_)
    refine lv_iload_n hx hb dX3_passYear_28 rfl (lv_at hl 1 rfl) ?_
    refine lv_iload_n hx hb dX3_passYear_29 rfl (lv_at hl 2 rfl) ?_
    refine lv_iload_n hx hb dX3_passYear_30 rfl (lv_at hl 0 rfl) ?_
    refine lv_aload_n hx hb dX3_passYear_31 rfl (lv_at hl 3 rfl) ?_
    refine lv_iconst (v := 4) hx hb dX3_passYear_32 (by decide) ?_
    obtain ⟨v30, X29, h28, h⟩ := bnd2_inv h
    refine r_cI hW (run_V (rest := [.int v26, .int v3, .int v6, .ref b27]) C hW (t_X3_draw h28) mk_X3_draw vk_X3_156 (kd_X3_draw h28) rfl rfl (by decide) ⟨Nat.le_of_ble_eq_true rfl, Nat.le_of_ble_eq_true rfl⟩ ⟨Nat.zero_le _, Nat.zero_le _⟩ rfl rfl (Nat.le_of_ble_eq_true rfl) hl.1 dX3_passYear_33) (fun H locs hW _ => ?_)
    refine lv_iconst (v := 0) hx hb dX3_passYear_36 (by decide) ?_
    obtain ⟨v33, X32, h31, h⟩ := bnd2_inv h
    refine r_cI hW (run_V (rest := []) C hW (t_X5_doEdit h31) mk_X5_doEdit vk_X3_159 (kd_X5_doEdit h31) rfl rfl (by decide) ⟨Nat.le_of_ble_eq_true rfl, Nat.le_of_ble_eq_true rfl⟩ ⟨Nat.zero_le _, Nat.zero_le _⟩ rfl rfl (Nat.le_of_ble_eq_true rfl) hl.1 dX3_passYear_37) (fun H locs hW _ => ?_)
    refine lv_iconst (v := (-1)) hx hb dX3_passYear_40 (by decide) ?_
    refine r_br h (lv_icmp_eq (tgt := 48) hx hb dX3_passYear_41 (by decide)) (fun h => ?_) (fun h => ?_)
    · refine lv_iconst (v := 0) hx hb dX3_passYear_48 (by decide) ?_
      exact r_iret C hW (Option.some.inj h).symm rfl dX3_passYear_49
    · refine lv_iconst (v := 1) hx hb dX3_passYear_44 (by decide) ?_
      refine lv_goto (tgt := 49) hx hb dX3_passYear_45 (by decide) ?_
      exact r_iret C hW (Option.some.inj h).symm rfl dX3_passYear_49
set_option maxRecDepth 20000 in
set_option maxHeartbeats 2000000 in
theorem b_X3_findYears_35 {k19 : Mx → Int32 → Int32 → Option Mx} {a : Nat} {x3 : Int32} {x4 : Int32} {x5 : Int32} (C : Cx g RX3 cX3_findYears 6 none p s m args meth c) {r : Mx} {X : Mx} (hk19 : ∀ {H' : Heap} {locs' : List Loc} {ls' : Array Slot} {X' : Mx} {x4' : Int32} {x5' : Int32}, Wd g σ X' s H' locs' → lv_has ls' 6 [(0, .ref a), (3, .int x3), (4, .int x4'), (5, .int x5')] → k19 X' x4' x5' = some r → W p l e (rmZ 5 121) s m args below meth c H' locs' 0 0 (QV g σ below args s r) (F0 m 19 ls' [])) (hW : Wd g σ X s H locs) (hl : lv_has ls 6 [(0, .ref a), (3, .int x3), (4, .int x4), (5, .int x5)]) (h : f_X3_findYears_35 k19 σ a x3 x4 x5 X = some r) : W p l e (rmZ 5 121) s m args below meth c H locs 0 0 (QV g σ below args s r) (F0 m 35 ls []) := by
  have hx := C.x
  have hb := C.b
  unfold f_X3_findYears_35 at h
  refine lv_iinc (v := (x5 + 1)) (lv' := [(5, .int (x5 + 1)), (0, .ref a), (3, .int x3), (4, .int x4)]) hx hb dX3_findYears_35 hl (k := 3) rfl rfl (by decide) rfl (fun ls hl => ?_)
  refine lv_goto (tgt := 19) hx hb dX3_findYears_38 (by decide) ?_
  exact hk19 hW (lv_sub hl [1, 2, 3, 0] rfl) h
set_option maxRecDepth 20000 in
set_option maxHeartbeats 2000000 in
theorem b_X3_findYears_19 {a : Nat} {x3 : Int32} (C : Cx g RX3 cX3_findYears 6 none p s m args meth c) {r : Mx} : ∀ (n : Nat) {X : Mx} {x4 : Int32} {x5 : Int32} {H : Heap} {locs : List Loc} {ls : Array Slot} (hW : Wd g σ X s H locs) (hl : lv_has ls 6 [(0, .ref a), (3, .int x3), (4, .int x4), (5, .int x5)]) (h : f_X3_findYears_19 σ a x3 n X x4 x5 = some r), W p l e (rmZ 5 121) s m args below meth c H locs 0 0 (QV g σ below args s r) (F0 m 19 ls []) := by
  have hx := C.x
  have hb := C.b
  intro n
  induction n with
  | zero =>
    intro X x4 x5 H locs ls hW hl h
    cases (show none = some r from h)
  | succ n ih =>
    intro X x4 x5 H locs ls hW hl h
    rw [f_X3_findYears_19] at h
    refine lv_iload hx hb dX3_findYears_19 (lv_at hl 3 rfl) ?_
    refine lv_iload_n hx hb dX3_findYears_21 rfl (lv_at hl 1 rfl) ?_
    refine r_br h (lv_icmp_ge (tgt := 41) hx hb dX3_findYears_22 (by decide)) (fun h => ?_) (fun h => ?_)
    · refine lv_aload_n hx hb dX3_findYears_41 rfl (lv_at hl 0 rfl) ?_
      refine r_gR C hW h fl_X3_21 (by decide) dX3_findYears_42 (fun b1 h => ?_)
      refine lv_aload_n hx hb dX3_findYears_45 rfl (lv_at hl 0 rfl) ?_
      refine r_gR C hW h fl_X3_12 (by decide) dX3_findYears_46 (fun b2 h => ?_)
      obtain ⟨X4, h3, h⟩ := bnd_inv h
      refine r_cV hW (run_V (rest := []) C hW (t_X2_run h3) mk_X2_run vk_X3_45 (kd_X2_run h3) rfl rfl (by decide) ⟨Nat.le_of_ble_eq_true rfl, Nat.le_of_ble_eq_true rfl⟩ ⟨Nat.zero_le _, Nat.zero_le _⟩ rfl rfl (Nat.le_of_ble_eq_true rfl) hl.1 dX3_findYears_49) (fun H locs hW _ => ?_)
      refine lv_aload_n hx hb dX3_findYears_52 rfl (lv_at hl 0 rfl) ?_
      refine lv_bipush (v := 6) hx hb dX3_findYears_53 (by decide) ?_
      refine lv_iload hx hb dX3_findYears_55 (lv_at hl 2 rfl) ?_
      refine lv_aload_n hx hb dX3_findYears_57 rfl (lv_at hl 0 rfl) ?_
      refine r_gR C hW h fl_X3_21 (by decide) dX3_findYears_58 (fun b5 h => ?_)
      refine r_gI C hW h fl_X3_48 (by decide) dX3_findYears_61 (fun v6 h => ?_)
      refine lv_aload_n hx hb dX3_findYears_64 rfl (lv_at hl 0 rfl) ?_
      refine r_gR C hW h fl_X3_21 (by decide) dX3_findYears_65 (fun b7 h => ?_)
      refine r_gR C hW h fl_X3_70 (by decide) dX3_findYears_68 (fun b8 h => ?_)
      refine r_gI C hW h fl_X3_74 (by decide) dX3_findYears_71 (fun v9 h => ?_)
      refine r_cI hW (run_S (rest := [.int v6, .int x4, .int 6, .ref a]) C hW (t_J6_bitCount_0f7a4 (X := X4)) mk_J6_bitCount_0f7a4 sk_X3_79 ⟨Nat.le_of_ble_eq_true rfl, Nat.le_of_ble_eq_true rfl⟩ ⟨Nat.zero_le _, Nat.zero_le _⟩ rfl rfl (Nat.le_of_ble_eq_true rfl) hl.1 dX3_findYears_74) (fun H locs hW _ => ?_)
      obtain ⟨X11, h10, h⟩ := bnd_inv h
      refine r_cV hW (run_V (rest := []) C hW (t_X3_keepAnswer h10) mk_X3_keepAnswer vk_X3_84 (kd_X3_keepAnswer h10) rfl rfl (by decide) ⟨Nat.le_of_ble_eq_true rfl, Nat.le_of_ble_eq_true rfl⟩ ⟨Nat.zero_le _, Nat.zero_le _⟩ rfl rfl (Nat.le_of_ble_eq_true rfl) hl.1 dX3_findYears_77) (fun H locs hW _ => ?_)
      exact r_vret C hW (Option.some.inj h).symm dX3_findYears_80
    · refine lv_aload_n hx hb dX3_findYears_25 rfl (lv_at hl 0 rfl) ?_
      obtain ⟨v14, X13, h12, h⟩ := bnd2_inv h
      refine r_cI hW (run_V (rest := []) C hW (t_X3_passYear h12) mk_X3_passYear vk_X3_152 (kd_X3_passYear h12) rfl rfl (by decide) ⟨Nat.le_of_ble_eq_true rfl, Nat.le_of_ble_eq_true rfl⟩ ⟨Nat.zero_le _, Nat.zero_le _⟩ rfl rfl (Nat.le_of_ble_eq_true rfl) hl.1 dX3_findYears_26) (fun H locs hW _ => ?_)
      refine r_br h (lv_if_eq (tgt := 35) hx hb dX3_findYears_29 (by decide)) (fun h => ?_) (fun h => ?_)
      · exact b_X3_findYears_35 C (fun hW hl h => ih hW hl h) hW (lv_sub hl [0, 1, 2, 3] rfl) h
      · refine lv_iinc (v := (x4 + 1)) (lv' := [(4, .int (x4 + 1)), (0, .ref a), (3, .int x3), (5, .int x5)]) hx hb dX3_findYears_32 hl (k := 2) rfl rfl (by decide) rfl (fun ls hl => ?_)
        exact b_X3_findYears_35 C (fun hW hl h => ih hW hl h) hW (lv_sub hl [1, 2, 0, 3] rfl) h
theorem kd_X3_findYears {X : Mx} {r : Mx} {a : Nat} {a1 : Nat} {x2 : Int32} {x3 : Int32} (h : f_X3_findYears σ X a a1 x2 x3 = some r) : shK σ a = 2 := (grd_inv h).1
set_option maxRecDepth 20000 in
set_option maxHeartbeats 2000000 in
theorem t_X3_findYears {X : Mx} {r : Mx} {a : Nat} {a1 : Nat} {x2 : Int32} {x3 : Int32} (h : f_X3_findYears σ X a a1 x2 x3 = some r) : MtV g l yX3_findYears cX3_findYears 6 none 5 121 [.ref a, .ref a1, .int x2, .int x3] σ X r := by
  refine met_of mk_X3_findYears (Nat.le_of_ble_eq_true rfl) (fun p e s m args below meth c ls C hW hl => ?_)
  have hx := C.x
  have hb := C.b
  have hl : lv_has ls 6 [(0, .ref a), (1, .ref a1), (2, .int x2), (3, .int x3)] := hl
  unfold f_X3_findYears at h
  obtain ⟨hk0, h⟩ := grd_inv h
  refine lv_aload_n hx hb dX3_findYears_0 rfl (lv_at hl 0 rfl) ?_
  refine r_gR C hW h fl_X3_12 (by decide) dX3_findYears_1 (fun b1 h => ?_)
  refine lv_aload_n hx hb dX3_findYears_4 rfl (lv_at hl 1 rfl) ?_
  obtain ⟨X3, h2, h⟩ := bnd_inv h
  refine r_cV hW (run_V (rest := []) C hW (t_X5_copyFrom h2) mk_X5_copyFrom vk_X3_41 (kd_X5_copyFrom h2) rfl rfl (by decide) ⟨Nat.le_of_ble_eq_true rfl, Nat.le_of_ble_eq_true rfl⟩ ⟨Nat.zero_le _, Nat.zero_le _⟩ rfl rfl (Nat.le_of_ble_eq_true rfl) hl.1 dX3_findYears_5) (fun H locs hW _ => ?_)
  refine lv_aload_n hx hb dX3_findYears_8 rfl (lv_at hl 0 rfl) ?_
  refine lv_iload_n hx hb dX3_findYears_9 rfl (lv_at hl 2 rfl) ?_
  refine r_pI C hW h pf_X3_149 (by decide) rfl rfl dX3_findYears_10 (fun X4 H locs h hW _ => ?_)
  refine lv_iconst (v := 0) hx hb dX3_findYears_13 (by decide) ?_
  refine lv_istore (lv' := [(4, .int 0), (0, .ref a), (1, .ref a1), (2, .int x2), (3, .int x3)]) hx hb dX3_findYears_14 hl (by decide) rfl (fun ls hl => ?_)
  refine lv_iconst (v := 0) hx hb dX3_findYears_16 (by decide) ?_
  refine lv_istore (lv' := [(5, .int 0), (4, .int 0), (0, .ref a), (1, .ref a1), (2, .int x2), (3, .int x3)]) hx hb dX3_findYears_17 hl (by decide) rfl (fun ls hl => ?_)
  exact b_X3_findYears_19 C FU hW (lv_sub hl [2, 5, 1, 0] rfl) h
theorem kd_X4_clear {X : Mx} {r : Mx} {a : Nat} (h : f_X4_clear σ X a = some r) : shK σ a = 3 := (grd_inv h).1
set_option maxRecDepth 20000 in
set_option maxHeartbeats 2000000 in
theorem t_X4_clear {X : Mx} {r : Mx} {a : Nat} (h : f_X4_clear σ X a = some r) : MtV g l yX4_clear cX4_clear 1 none 0 0 [.ref a] σ X r := by
  refine met_of mk_X4_clear (Nat.le_of_ble_eq_true rfl) (fun p e s m args below meth c ls C hW hl => ?_)
  have hx := C.x
  have hb := C.b
  have hl : lv_has ls 1 [(0, .ref a)] := hl
  unfold f_X4_clear at h
  obtain ⟨hk0, h⟩ := grd_inv h
  refine lv_aload_n hx hb dX4_clear_0 rfl (lv_at hl 0 rfl) ?_
  refine lv_iconst (v := 0) hx hb dX4_clear_1 (by decide) ?_
  refine r_pI C hW h pf_X4_21 (by decide) rfl rfl dX4_clear_2 (fun X1 H locs h hW _ => ?_)
  exact r_vret C hW (Option.some.inj h).symm dX4_clear_5
theorem kd_X4_note {X : Mx} {r : (Int32 × Mx)} {a : Nat} {x1 : Int32} {x2 : Int32} {x3 : Int32} (h : f_X4_note σ X a x1 x2 x3 = some r) : shK σ a = 3 := (grd_inv h).1
set_option maxRecDepth 20000 in
set_option maxHeartbeats 2000000 in
theorem t_X4_note {X : Mx} {r : (Int32 × Mx)} {a : Nat} {x1 : Int32} {x2 : Int32} {x3 : Int32} (h : f_X4_note σ X a x1 x2 x3 = some r) : MtI g l yX4_note cX4_note 4 (some .boolean) 1 21 [.ref a, .int x1, .int x2, .int x3] σ X r := by
  refine met_of mk_X4_note (Nat.le_of_ble_eq_true rfl) (fun p e s m args below meth c ls C hW hl => ?_)
  have hx := C.x
  have hb := C.b
  have hl : lv_has ls 4 [(0, .ref a), (1, .int x1), (2, .int x2), (3, .int x3)] := hl
  unfold f_X4_note at h
  obtain ⟨hk0, h⟩ := grd_inv h
  refine lv_aload_n hx hb dX4_note_0 rfl (lv_at hl 0 rfl) ?_
  refine r_gI C hW h fl_X4_21 (by decide) dX4_note_1 (fun v1 h => ?_)
  refine lv_bipush (v := 8) hx hb dX4_note_4 (by decide) ?_
  refine r_br h (lv_icmp_ge (tgt := 37) hx hb dX4_note_6 (by decide)) (fun h => ?_) (fun h => ?_)
  · refine lv_iconst (v := 0) hx hb dX4_note_37 (by decide) ?_
    exact r_iret C hW (Option.some.inj h).symm rfl dX4_note_38
  · refine lv_iload_n hx hb dX4_note_9 rfl (lv_at hl 1 rfl) ?_
    refine r_br h (lv_if_lt (tgt := 37) hx hb dX4_note_10 (by decide)) (fun h => ?_) (fun h => ?_)
    · refine lv_iconst (v := 0) hx hb dX4_note_37 (by decide) ?_
      exact r_iret C hW (Option.some.inj h).symm rfl dX4_note_38
    · refine lv_iload_n hx hb dX4_note_13 rfl (lv_at hl 1 rfl) ?_
      refine lv_bipush (v := 20) hx hb dX4_note_14 (by decide) ?_
      refine r_br h (lv_icmp_ge (tgt := 37) hx hb dX4_note_16 (by decide)) (fun h => ?_) (fun h => ?_)
      · refine lv_iconst (v := 0) hx hb dX4_note_37 (by decide) ?_
        exact r_iret C hW (Option.some.inj h).symm rfl dX4_note_38
      · refine lv_iload_n hx hb dX4_note_19 rfl (lv_at hl 2 rfl) ?_
        refine r_br h (lv_if_lt (tgt := 37) hx hb dX4_note_20 (by decide)) (fun h => ?_) (fun h => ?_)
        · refine lv_iconst (v := 0) hx hb dX4_note_37 (by decide) ?_
          exact r_iret C hW (Option.some.inj h).symm rfl dX4_note_38
        · refine lv_iload_n hx hb dX4_note_23 rfl (lv_at hl 2 rfl) ?_
          refine lv_bipush (v := 9) hx hb dX4_note_24 (by decide) ?_
          refine r_br h (lv_icmp_ge (tgt := 37) hx hb dX4_note_26 (by decide)) (fun h => ?_) (fun h => ?_)
          · refine lv_iconst (v := 0) hx hb dX4_note_37 (by decide) ?_
            exact r_iret C hW (Option.some.inj h).symm rfl dX4_note_38
          · refine lv_iconst (v := 0) hx hb dX4_note_29 (by decide) ?_
            refine lv_iload_n hx hb dX4_note_30 rfl (lv_at hl 3 rfl) ?_
            refine r_cI hW (run_S (rest := []) C hW (t_X8_holds (X := X)) mk_X8_holds sk_X4_25 ⟨Nat.le_of_ble_eq_true rfl, Nat.le_of_ble_eq_true rfl⟩ ⟨Nat.zero_le _, Nat.zero_le _⟩ rfl rfl (Nat.le_of_ble_eq_true rfl) hl.1 dX4_note_31) (fun H locs hW _ => ?_)
            refine r_brn h (lv_if_ne (tgt := 39) hx hb dX4_note_34 (by decide)) (fun h => ?_) (fun h => ?_)
            · refine lv_aload_n hx hb dX4_note_39 rfl (lv_at hl 0 rfl) ?_
              refine r_gR C hW h fl_X4_9 (by decide) dX4_note_40 (fun b2 h => ?_)
              refine lv_aload_n hx hb dX4_note_43 rfl (lv_at hl 0 rfl) ?_
              refine r_gI C hW h fl_X4_21 (by decide) dX4_note_44 (fun v3 h => ?_)
              refine lv_iload_n hx hb dX4_note_47 rfl (lv_at hl 1 rfl) ?_
              refine r_iast C hW h dX4_note_48 (fun X4 H locs h hW _ => ?_)
              refine lv_aload_n hx hb dX4_note_49 rfl (lv_at hl 0 rfl) ?_
              refine r_gR C hW h fl_X4_15 (by decide) dX4_note_50 (fun b5 h => ?_)
              refine lv_aload_n hx hb dX4_note_53 rfl (lv_at hl 0 rfl) ?_
              refine r_gI C hW h fl_X4_21 (by decide) dX4_note_54 (fun v6 h => ?_)
              refine lv_iload_n hx hb dX4_note_57 rfl (lv_at hl 2 rfl) ?_
              refine r_iast C hW h dX4_note_58 (fun X7 H locs h hW _ => ?_)
              refine lv_aload_n hx hb dX4_note_59 rfl (lv_at hl 0 rfl) ?_
              refine r_gR C hW h fl_X4_18 (by decide) dX4_note_60 (fun b8 h => ?_)
              refine lv_aload_n hx hb dX4_note_63 rfl (lv_at hl 0 rfl) ?_
              refine r_gI C hW h fl_X4_21 (by decide) dX4_note_64 (fun v9 h => ?_)
              refine lv_iload_n hx hb dX4_note_67 rfl (lv_at hl 3 rfl) ?_
              refine r_iast C hW h dX4_note_68 (fun X10 H locs h hW _ => ?_)
              refine lv_aload_n hx hb dX4_note_69 rfl (lv_at hl 0 rfl) ?_
              refine lv_dup hx hb dX4_note_70 rfl ?_
              refine r_gI C hW h fl_X4_21 (by decide) dX4_note_71 (fun v11 h => ?_)
              refine lv_iconst (v := 1) hx hb dX4_note_74 (by decide) ?_
              refine lv_iadd hx hb dX4_note_75 ?_
              refine r_pI C hW h pf_X4_21 (by decide) rfl rfl dX4_note_76 (fun X12 H locs h hW _ => ?_)
              refine lv_iconst (v := 1) hx hb dX4_note_79 (by decide) ?_
              exact r_iret C hW (Option.some.inj h).symm rfl dX4_note_80
            · refine lv_iconst (v := 0) hx hb dX4_note_37 (by decide) ?_
              exact r_iret C hW (Option.some.inj h).symm rfl dX4_note_38
theorem kd_X4_copyFrom {X : Mx} {r : Mx} {a : Nat} {a1 : Nat} (h : f_X4_copyFrom σ X a a1 = some r) : shK σ a = 3 := (grd_inv h).1
set_option maxRecDepth 20000 in
set_option maxHeartbeats 2000000 in
theorem t_X4_copyFrom {X : Mx} {r : Mx} {a : Nat} {a1 : Nat} (h : f_X4_copyFrom σ X a a1 = some r) : MtV g l yX4_copyFrom cX4_copyFrom 2 none 1 26 [.ref a, .ref a1] σ X r := by
  refine met_of mk_X4_copyFrom (Nat.le_of_ble_eq_true rfl) (fun p e s m args below meth c ls C hW hl => ?_)
  have hx := C.x
  have hb := C.b
  have hl : lv_has ls 2 [(0, .ref a), (1, .ref a1)] := hl
  unfold f_X4_copyFrom at h
  obtain ⟨hk0, h⟩ := grd_inv h
  refine lv_aload_n hx hb dX4_copyFrom_0 rfl (lv_at hl 0 rfl) ?_
  refine lv_aload_n hx hb dX4_copyFrom_1 rfl (lv_at hl 1 rfl) ?_
  refine r_gI C hW h fl_X4_21 (by decide) dX4_copyFrom_2 (fun v1 h => ?_)
  refine r_pI C hW h pf_X4_21 (by decide) rfl rfl dX4_copyFrom_5 (fun X2 H locs h hW _ => ?_)
  refine lv_aload_n hx hb dX4_copyFrom_8 rfl (lv_at hl 1 rfl) ?_
  refine r_gR C hW h fl_X4_9 (by decide) dX4_copyFrom_9 (fun b3 h => ?_)
  refine lv_iconst (v := 0) hx hb dX4_copyFrom_12 (by decide) ?_
  refine lv_aload_n hx hb dX4_copyFrom_13 rfl (lv_at hl 0 rfl) ?_
  refine r_gR C hW h fl_X4_9 (by decide) dX4_copyFrom_14 (fun b4 h => ?_)
  refine lv_iconst (v := 0) hx hb dX4_copyFrom_17 (by decide) ?_
  refine lv_bipush (v := 8) hx hb dX4_copyFrom_18 (by decide) ?_
  refine r_copy C hW h cpk_X4_31 (by decide) (by decide) hl.1 dX4_copyFrom_20 (fun X5 H locs h hW _ => ?_)
  refine lv_aload_n hx hb dX4_copyFrom_23 rfl (lv_at hl 1 rfl) ?_
  refine r_gR C hW h fl_X4_15 (by decide) dX4_copyFrom_24 (fun b6 h => ?_)
  refine lv_iconst (v := 0) hx hb dX4_copyFrom_27 (by decide) ?_
  refine lv_aload_n hx hb dX4_copyFrom_28 rfl (lv_at hl 0 rfl) ?_
  refine r_gR C hW h fl_X4_15 (by decide) dX4_copyFrom_29 (fun b7 h => ?_)
  refine lv_iconst (v := 0) hx hb dX4_copyFrom_32 (by decide) ?_
  refine lv_bipush (v := 8) hx hb dX4_copyFrom_33 (by decide) ?_
  refine r_copy C hW h cpk_X4_31 (by decide) (by decide) hl.1 dX4_copyFrom_35 (fun X8 H locs h hW _ => ?_)
  refine lv_aload_n hx hb dX4_copyFrom_38 rfl (lv_at hl 1 rfl) ?_
  refine r_gR C hW h fl_X4_18 (by decide) dX4_copyFrom_39 (fun b9 h => ?_)
  refine lv_iconst (v := 0) hx hb dX4_copyFrom_42 (by decide) ?_
  refine lv_aload_n hx hb dX4_copyFrom_43 rfl (lv_at hl 0 rfl) ?_
  refine r_gR C hW h fl_X4_18 (by decide) dX4_copyFrom_44 (fun b10 h => ?_)
  refine lv_iconst (v := 0) hx hb dX4_copyFrom_47 (by decide) ?_
  refine lv_bipush (v := 8) hx hb dX4_copyFrom_48 (by decide) ?_
  refine r_copy C hW h cpk_X4_31 (by decide) (by decide) hl.1 dX4_copyFrom_50 (fun X11 H locs h hW _ => ?_)
  exact r_vret C hW (Option.some.inj h).symm dX4_copyFrom_53
theorem kd_X5_startSides {X : Mx} {r : Mx} {a : Nat} (h : f_X5_startSides σ X a = some r) : shK σ a = 4 := (grd_inv h).1
set_option maxRecDepth 20000 in
set_option maxHeartbeats 2000000 in
theorem t_X5_startSides {X : Mx} {r : Mx} {a : Nat} (h : f_X5_startSides σ X a = some r) : MtV g l yX5_startSides cX5_startSides 1 none 2 47 [.ref a] σ X r := by
  refine met_of mk_X5_startSides (Nat.le_of_ble_eq_true rfl) (fun p e s m args below meth c ls C hW hl => ?_)
  have hx := C.x
  have hb := C.b
  have hl : lv_has ls 1 [(0, .ref a)] := hl
  unfold f_X5_startSides at h
  obtain ⟨hk0, h⟩ := grd_inv h
  refine lv_aload_n hx hb dX5_startSides_0 rfl (lv_at hl 0 rfl) ?_
  refine r_gR C hW h fl_X5_18 (by decide) dX5_startSides_1 (fun b1 h => ?_)
  refine lv_aload_n hx hb dX5_startSides_4 rfl (lv_at hl 0 rfl) ?_
  refine r_gR C hW h fl_X5_12 (by decide) dX5_startSides_5 (fun b2 h => ?_)
  obtain ⟨X4, h3, h⟩ := bnd_inv h
  refine r_cV hW (run_V (rest := []) C hW (t_X6_copyFrom h3) mk_X6_copyFrom vk_X5_53 (kd_X6_copyFrom h3) rfl rfl (by decide) ⟨Nat.le_of_ble_eq_true rfl, Nat.le_of_ble_eq_true rfl⟩ ⟨Nat.zero_le _, Nat.zero_le _⟩ rfl rfl (Nat.le_of_ble_eq_true rfl) hl.1 dX5_startSides_8) (fun H locs hW _ => ?_)
  refine lv_aload_n hx hb dX5_startSides_11 rfl (lv_at hl 0 rfl) ?_
  refine r_gR C hW h fl_X5_21 (by decide) dX5_startSides_12 (fun b5 h => ?_)
  refine lv_aload_n hx hb dX5_startSides_15 rfl (lv_at hl 0 rfl) ?_
  refine r_gR C hW h fl_X5_12 (by decide) dX5_startSides_16 (fun b6 h => ?_)
  obtain ⟨X8, h7, h⟩ := bnd_inv h
  refine r_cV hW (run_V (rest := []) C hW (t_X6_copyFrom h7) mk_X6_copyFrom vk_X5_53 (kd_X6_copyFrom h7) rfl rfl (by decide) ⟨Nat.le_of_ble_eq_true rfl, Nat.le_of_ble_eq_true rfl⟩ ⟨Nat.zero_le _, Nat.zero_le _⟩ rfl rfl (Nat.le_of_ble_eq_true rfl) hl.1 dX5_startSides_19) (fun H locs hW _ => ?_)
  refine lv_aload_n hx hb dX5_startSides_22 rfl (lv_at hl 0 rfl) ?_
  refine lv_iconst (v := 0) hx hb dX5_startSides_23 (by decide) ?_
  refine r_pI C hW h pf_X5_57 (by decide) rfl rfl dX5_startSides_24 (fun X9 H locs h hW _ => ?_)
  refine lv_aload_n hx hb dX5_startSides_27 rfl (lv_at hl 0 rfl) ?_
  refine lv_iconst (v := 0) hx hb dX5_startSides_28 (by decide) ?_
  refine r_pI C hW h pf_X5_60 (by decide) rfl rfl dX5_startSides_29 (fun X10 H locs h hW _ => ?_)
  refine lv_aload_n hx hb dX5_startSides_32 rfl (lv_at hl 0 rfl) ?_
  refine r_gR C hW h fl_X5_34 (by decide) dX5_startSides_33 (fun b11 h => ?_)
  refine lv_iconst (v := (-1)) hx hb dX5_startSides_36 (by decide) ?_
  obtain ⟨X13, h12, h⟩ := bnd_inv h
  refine r_cV hW (run_S (rest := []) C hW (t_J7_fill_53178 h12) mk_J7_fill_53178 sk_X5_37 ⟨Nat.le_of_ble_eq_true rfl, Nat.le_of_ble_eq_true rfl⟩ ⟨Nat.zero_le _, Nat.zero_le _⟩ rfl rfl (Nat.le_of_ble_eq_true rfl) hl.1 dX5_startSides_37) (fun H locs hW _ => ?_)
  exact r_vret C hW (Option.some.inj h).symm dX5_startSides_40
theorem kd_X5_clear {X : Mx} {r : Mx} {a : Nat} (h : f_X5_clear σ X a = some r) : shK σ a = 4 := (grd_inv h).1
set_option maxRecDepth 20000 in
set_option maxHeartbeats 2000000 in
theorem t_X5_clear {X : Mx} {r : Mx} {a : Nat} (h : f_X5_clear σ X a = some r) : MtV g l yX5_clear cX5_clear 1 none 3 67 [.ref a] σ X r := by
  refine met_of mk_X5_clear (Nat.le_of_ble_eq_true rfl) (fun p e s m args below meth c ls C hW hl => ?_)
  have hx := C.x
  have hb := C.b
  have hl : lv_has ls 1 [(0, .ref a)] := hl
  unfold f_X5_clear at h
  obtain ⟨hk0, h⟩ := grd_inv h
  refine lv_aload_n hx hb dX5_clear_0 rfl (lv_at hl 0 rfl) ?_
  refine r_gR C hW h fl_X5_12 (by decide) dX5_clear_1 (fun b1 h => ?_)
  obtain ⟨X3, h2, h⟩ := bnd_inv h
  refine r_cV hW (run_V (rest := []) C hW (t_X6_clear h2) mk_X6_clear vk_X5_43 (kd_X6_clear h2) rfl rfl (by decide) ⟨Nat.le_of_ble_eq_true rfl, Nat.le_of_ble_eq_true rfl⟩ ⟨Nat.zero_le _, Nat.zero_le _⟩ rfl rfl (Nat.le_of_ble_eq_true rfl) hl.1 dX5_clear_4) (fun H locs hW _ => ?_)
  refine lv_aload_n hx hb dX5_clear_7 rfl (lv_at hl 0 rfl) ?_
  refine lv_iconst (v := 0) hx hb dX5_clear_8 (by decide) ?_
  refine r_pI C hW h pf_X5_46 (by decide) rfl rfl dX5_clear_9 (fun X4 H locs h hW _ => ?_)
  refine lv_aload_n hx hb dX5_clear_12 rfl (lv_at hl 0 rfl) ?_
  obtain ⟨X6, h5, h⟩ := bnd_inv h
  refine r_cV hW (run_V (rest := []) C hW (t_X5_startSides h5) mk_X5_startSides vk_X5_50 (kd_X5_startSides h5) rfl rfl (by decide) ⟨Nat.le_of_ble_eq_true rfl, Nat.le_of_ble_eq_true rfl⟩ ⟨Nat.zero_le _, Nat.zero_le _⟩ rfl rfl (Nat.le_of_ble_eq_true rfl) hl.1 dX5_clear_13) (fun H locs hW _ => ?_)
  exact r_vret C hW (Option.some.inj h).symm dX5_clear_16
theorem kd_X5_putDemand {X : Mx} {r : Mx} {a : Nat} {x1 : Int32} {x2 : Int32} {x3 : Int32} (h : f_X5_putDemand σ X a x1 x2 x3 = some r) : shK σ a = 4 := (grd_inv h).1
set_option maxRecDepth 20000 in
set_option maxHeartbeats 2000000 in
theorem t_X5_putDemand {X : Mx} {r : Mx} {a : Nat} {x1 : Int32} {x2 : Int32} {x3 : Int32} (h : f_X5_putDemand σ X a x1 x2 x3 = some r) : MtV g l yX5_putDemand cX5_putDemand 4 none 0 0 [.ref a, .int x1, .int x2, .int x3] σ X r := by
  refine met_of mk_X5_putDemand (Nat.le_of_ble_eq_true rfl) (fun p e s m args below meth c ls C hW hl => ?_)
  have hx := C.x
  have hb := C.b
  have hl : lv_has ls 4 [(0, .ref a), (1, .int x1), (2, .int x2), (3, .int x3)] := hl
  unfold f_X5_putDemand at h
  obtain ⟨hk0, h⟩ := grd_inv h
  refine lv_aload_n hx hb dX5_putDemand_0 rfl (lv_at hl 0 rfl) ?_
  refine r_gI C hW h fl_X5_46 (by decide) dX5_putDemand_1 (fun v1 h => ?_)
  refine lv_iconst (v := 4) hx hb dX5_putDemand_4 (by decide) ?_
  refine r_br h (lv_icmp_ge (tgt := 48) hx hb dX5_putDemand_5 (by decide)) (fun h => ?_) (fun h => ?_)
  · exact r_vret C hW (Option.some.inj h).symm dX5_putDemand_48
  · refine lv_aload_n hx hb dX5_putDemand_8 rfl (lv_at hl 0 rfl) ?_
    refine r_gR C hW h fl_X5_24 (by decide) dX5_putDemand_9 (fun b2 h => ?_)
    refine lv_aload_n hx hb dX5_putDemand_12 rfl (lv_at hl 0 rfl) ?_
    refine r_gI C hW h fl_X5_46 (by decide) dX5_putDemand_13 (fun v3 h => ?_)
    refine lv_iload_n hx hb dX5_putDemand_16 rfl (lv_at hl 1 rfl) ?_
    refine r_iast C hW h dX5_putDemand_17 (fun X4 H locs h hW _ => ?_)
    refine lv_aload_n hx hb dX5_putDemand_18 rfl (lv_at hl 0 rfl) ?_
    refine r_gR C hW h fl_X5_28 (by decide) dX5_putDemand_19 (fun b5 h => ?_)
    refine lv_aload_n hx hb dX5_putDemand_22 rfl (lv_at hl 0 rfl) ?_
    refine r_gI C hW h fl_X5_46 (by decide) dX5_putDemand_23 (fun v6 h => ?_)
    refine lv_iload_n hx hb dX5_putDemand_26 rfl (lv_at hl 2 rfl) ?_
    refine r_iast C hW h dX5_putDemand_27 (fun X7 H locs h hW _ => ?_)
    refine lv_aload_n hx hb dX5_putDemand_28 rfl (lv_at hl 0 rfl) ?_
    refine r_gR C hW h fl_X5_31 (by decide) dX5_putDemand_29 (fun b8 h => ?_)
    refine lv_aload_n hx hb dX5_putDemand_32 rfl (lv_at hl 0 rfl) ?_
    refine r_gI C hW h fl_X5_46 (by decide) dX5_putDemand_33 (fun v9 h => ?_)
    refine lv_iload_n hx hb dX5_putDemand_36 rfl (lv_at hl 3 rfl) ?_
    refine r_iast C hW h dX5_putDemand_37 (fun X10 H locs h hW _ => ?_)
    refine lv_aload_n hx hb dX5_putDemand_38 rfl (lv_at hl 0 rfl) ?_
    refine lv_dup hx hb dX5_putDemand_39 rfl ?_
    refine r_gI C hW h fl_X5_46 (by decide) dX5_putDemand_40 (fun v11 h => ?_)
    refine lv_iconst (v := 1) hx hb dX5_putDemand_43 (by decide) ?_
    refine lv_iadd hx hb dX5_putDemand_44 ?_
    refine r_pI C hW h pf_X5_46 (by decide) rfl rfl dX5_putDemand_45 (fun X12 H locs h hW _ => ?_)
    exact r_vret C hW (Option.some.inj h).symm dX5_putDemand_48
set_option maxRecDepth 20000 in
set_option maxHeartbeats 2000000 in
theorem b_X5_countChanged_47 {k4 : Int32 → Int32 → Option Int32} {k13 : Int32 → Int32 → Option Int32} {a : Nat} {x1 : Int32} {x2 : Int32} {x3 : Int32} {x4 : Int32} (C : Cx g RX5 cX5_countChanged 5 (some .int) p s m args meth c) {r : Int32} {X : Mx} (hk4 : ∀ {H' : Heap} {locs' : List Loc} {ls' : Array Slot} {x2' : Int32} {x3' : Int32}, Wd g σ X s H' locs' → lv_has ls' 5 [(0, .ref a), (1, .int x1), (2, .int x2'), (3, .int x3')] → k4 x2' x3' = some r → W p l e (rmZ 2 46) s m args below meth c H' locs' 0 0 (QI g σ below args s (r, X)) (F0 m 4 ls' [])) (hk13 : ∀ {H' : Heap} {locs' : List Loc} {ls' : Array Slot} {x2' : Int32} {x4' : Int32}, Wd g σ X s H' locs' → lv_has ls' 5 [(0, .ref a), (1, .int x1), (2, .int x2'), (3, .int x3), (4, .int x4')] → k13 x2' x4' = some r → W p l e (rmZ 2 46) s m args below meth c H' locs' 0 0 (QI g σ below args s (r, X)) (F0 m 13 ls' [])) (hW : Wd g σ X s H locs) (hl : lv_has ls 5 [(0, .ref a), (1, .int x1), (2, .int x2), (3, .int x3), (4, .int x4)]) (h : f_X5_countChanged_47 k4 k13 σ X a x1 x2 x3 x4 = some r) : W p l e (rmZ 2 46) s m args below meth c H locs 0 0 (QI g σ below args s (r, X)) (F0 m 47 ls []) := by
  have hx := C.x
  have hb := C.b
  unfold f_X5_countChanged_47 at h
  refine lv_iinc (v := (x4 + 1)) (lv' := [(4, .int (x4 + 1)), (0, .ref a), (1, .int x1), (2, .int x2), (3, .int x3)]) hx hb dX5_countChanged_47 hl (k := 4) rfl rfl (by decide) rfl (fun ls hl => ?_)
  refine lv_goto (tgt := 13) hx hb dX5_countChanged_50 (by decide) ?_
  exact hk13 hW (lv_sub hl [1, 2, 3, 4, 0] rfl) h
set_option maxRecDepth 20000 in
set_option maxHeartbeats 2000000 in
theorem b_X5_countChanged_13 {k4 : Int32 → Int32 → Option Int32} {a : Nat} {x1 : Int32} {x3 : Int32} (C : Cx g RX5 cX5_countChanged 5 (some .int) p s m args meth c) {r : Int32} {X : Mx} (hk4 : ∀ {H' : Heap} {locs' : List Loc} {ls' : Array Slot} {x2' : Int32} {x3' : Int32}, Wd g σ X s H' locs' → lv_has ls' 5 [(0, .ref a), (1, .int x1), (2, .int x2'), (3, .int x3')] → k4 x2' x3' = some r → W p l e (rmZ 2 46) s m args below meth c H' locs' 0 0 (QI g σ below args s (r, X)) (F0 m 4 ls' [])) : ∀ (n : Nat) {x2 : Int32} {x4 : Int32} {H : Heap} {locs : List Loc} {ls : Array Slot} (hW : Wd g σ X s H locs) (hl : lv_has ls 5 [(0, .ref a), (1, .int x1), (2, .int x2), (3, .int x3), (4, .int x4)]) (h : f_X5_countChanged_13 k4 σ X a x1 x3 n x2 x4 = some r), W p l e (rmZ 2 46) s m args below meth c H locs 0 0 (QI g σ below args s (r, X)) (F0 m 13 ls []) := by
  have hx := C.x
  have hb := C.b
  intro n
  induction n with
  | zero =>
    intro x2 x4 H locs ls hW hl h
    cases (show none = some r from h)
  | succ n ih =>
    intro x2 x4 H locs ls hW hl h
    rw [f_X5_countChanged_13] at h
    refine lv_iload hx hb dX5_countChanged_13 (lv_at hl 4 rfl) ?_
    refine lv_bipush (v := 9) hx hb dX5_countChanged_15 (by decide) ?_
    refine r_br h (lv_icmp_ge (tgt := 53) hx hb dX5_countChanged_17 (by decide)) (fun h => ?_) (fun h => ?_)
    · refine lv_iinc (v := (x3 + 1)) (lv' := [(3, .int (x3 + 1)), (0, .ref a), (1, .int x1), (2, .int x2), (4, .int x4)]) hx hb dX5_countChanged_53 hl (k := 3) rfl rfl (by decide) rfl (fun ls hl => ?_)
      refine lv_goto (tgt := 4) hx hb dX5_countChanged_56 (by decide) ?_
      exact hk4 hW (lv_sub hl [1, 2, 3, 0] rfl) h
    · refine lv_aload_n hx hb dX5_countChanged_20 rfl (lv_at hl 0 rfl) ?_
      refine r_gR C hW h fl_X5_12 (by decide) dX5_countChanged_21 (fun b1 h => ?_)
      refine lv_iload_n hx hb dX5_countChanged_24 rfl (lv_at hl 3 rfl) ?_
      refine lv_iload hx hb dX5_countChanged_25 (lv_at hl 4 rfl) ?_
      obtain ⟨v3, h2, h⟩ := bnd_inv h
      refine r_cI hW (run_V (rest := []) C hW (t_X6_hasCell h2) mk_X6_hasCell vk_X5_89 (kd_X6_hasCell h2) rfl rfl (by decide) ⟨Nat.le_of_ble_eq_true rfl, Nat.le_of_ble_eq_true rfl⟩ ⟨Nat.zero_le _, Nat.zero_le _⟩ rfl rfl (Nat.le_of_ble_eq_true rfl) hl.1 dX5_countChanged_27) (fun H locs hW _ => ?_)
      refine r_br h (lv_if_eq (tgt := 47) hx hb dX5_countChanged_30 (by decide)) (fun h => ?_) (fun h => ?_)
      · exact b_X5_countChanged_47 C hk4 (fun hW hl h => ih hW hl h) hW (lv_sub hl [0, 1, 2, 3, 4] rfl) h
      · refine lv_aload_n hx hb dX5_countChanged_33 rfl (lv_at hl 0 rfl) ?_
        refine lv_iload_n hx hb dX5_countChanged_34 rfl (lv_at hl 1 rfl) ?_
        refine lv_iload_n hx hb dX5_countChanged_35 rfl (lv_at hl 3 rfl) ?_
        refine lv_iload hx hb dX5_countChanged_36 (lv_at hl 4 rfl) ?_
        obtain ⟨v5, h4, h⟩ := bnd_inv h
        refine r_cI hW (run_V (rest := []) C hW (t_X5_isChanged h4) mk_X5_isChanged vk_X5_93 (kd_X5_isChanged h4) rfl rfl (by decide) ⟨Nat.le_of_ble_eq_true rfl, Nat.le_of_ble_eq_true rfl⟩ ⟨Nat.zero_le _, Nat.zero_le _⟩ rfl rfl (Nat.le_of_ble_eq_true rfl) hl.1 dX5_countChanged_38) (fun H locs hW _ => ?_)
        refine r_br h (lv_if_eq (tgt := 47) hx hb dX5_countChanged_41 (by decide)) (fun h => ?_) (fun h => ?_)
        · exact b_X5_countChanged_47 C hk4 (fun hW hl h => ih hW hl h) hW (lv_sub hl [0, 1, 2, 3, 4] rfl) h
        · refine lv_iinc (v := (x2 + 1)) (lv' := [(2, .int (x2 + 1)), (0, .ref a), (1, .int x1), (3, .int x3), (4, .int x4)]) hx hb dX5_countChanged_44 hl (k := 2) rfl rfl (by decide) rfl (fun ls hl => ?_)
          exact b_X5_countChanged_47 C hk4 (fun hW hl h => ih hW hl h) hW (lv_sub hl [1, 2, 0, 3, 4] rfl) h
set_option maxRecDepth 20000 in
set_option maxHeartbeats 2000000 in
theorem b_X5_countChanged_4 {a : Nat} {x1 : Int32} (C : Cx g RX5 cX5_countChanged 5 (some .int) p s m args meth c) {r : Int32} {X : Mx} : ∀ (n : Nat) {x2 : Int32} {x3 : Int32} {H : Heap} {locs : List Loc} {ls : Array Slot} (hW : Wd g σ X s H locs) (hl : lv_has ls 5 [(0, .ref a), (1, .int x1), (2, .int x2), (3, .int x3)]) (h : f_X5_countChanged_4 σ X a x1 n x2 x3 = some r), W p l e (rmZ 2 46) s m args below meth c H locs 0 0 (QI g σ below args s (r, X)) (F0 m 4 ls []) := by
  have hx := C.x
  have hb := C.b
  intro n
  induction n with
  | zero =>
    intro x2 x3 H locs ls hW hl h
    cases (show none = some r from h)
  | succ n ih =>
    intro x2 x3 H locs ls hW hl h
    rw [f_X5_countChanged_4] at h
    refine lv_iload_n hx hb dX5_countChanged_4 rfl (lv_at hl 3 rfl) ?_
    refine lv_bipush (v := 20) hx hb dX5_countChanged_5 (by decide) ?_
    refine r_br h (lv_icmp_ge (tgt := 59) hx hb dX5_countChanged_7 (by decide)) (fun h => ?_) (fun h => ?_)
    · refine lv_iload_n hx hb dX5_countChanged_59 rfl (lv_at hl 2 rfl) ?_
      exact r_iret C hW (rt_R h) rfl dX5_countChanged_60
    · refine lv_iconst (v := 0) hx hb dX5_countChanged_10 (by decide) ?_
      refine lv_istore (lv' := [(4, .int 0), (0, .ref a), (1, .int x1), (2, .int x2), (3, .int x3)]) hx hb dX5_countChanged_11 hl (by decide) rfl (fun ls hl => ?_)
      exact b_X5_countChanged_13 C (fun hW hl h => ih hW hl h) FU hW (lv_sub hl [1, 2, 3, 4, 0] rfl) h
theorem kd_X5_countChanged {X : Mx} {r : Int32} {a : Nat} {x1 : Int32} (h : f_X5_countChanged σ X a x1 = some r) : shK σ a = 4 := (grd_inv h).1
set_option maxRecDepth 20000 in
set_option maxHeartbeats 2000000 in
theorem t_X5_countChanged {X : Mx} {r : Int32} {a : Nat} {x1 : Int32} (h : f_X5_countChanged σ X a x1 = some r) : MtI g l yX5_countChanged cX5_countChanged 5 (some .int) 2 46 [.ref a, .int x1] σ X (r, X) := by
  refine met_of mk_X5_countChanged (Nat.le_of_ble_eq_true rfl) (fun p e s m args below meth c ls C hW hl => ?_)
  have hx := C.x
  have hb := C.b
  have hl : lv_has ls 5 [(0, .ref a), (1, .int x1)] := hl
  unfold f_X5_countChanged at h
  obtain ⟨hk0, h⟩ := grd_inv h
  refine lv_iconst (v := 0) hx hb dX5_countChanged_0 (by decide) ?_
  refine lv_istore_n (lv' := [(2, .int 0), (0, .ref a), (1, .int x1)]) hx hb dX5_countChanged_1 rfl hl (by decide) rfl (fun ls hl => ?_)
  refine lv_iconst (v := 0) hx hb dX5_countChanged_2 (by decide) ?_
  refine lv_istore_n (lv' := [(3, .int 0), (2, .int 0), (0, .ref a), (1, .int x1)]) hx hb dX5_countChanged_3 rfl hl (by decide) rfl (fun ls hl => ?_)
  exact b_X5_countChanged_4 C FU hW (lv_sub hl [2, 3, 1, 0] rfl) h
set_option maxRecDepth 20000 in
set_option maxHeartbeats 2000000 in
theorem b_X5_countChoices_24 {k4 : Int32 → Int32 → Option Int32} {a : Nat} {x1 : Int32} {x2 : Int32} (C : Cx g RX5 cX5_countChoices 3 (some .int) p s m args meth c) {r : Int32} {X : Mx} (hk4 : ∀ {H' : Heap} {locs' : List Loc} {ls' : Array Slot} {x1' : Int32} {x2' : Int32}, Wd g σ X s H' locs' → lv_has ls' 3 [(0, .ref a), (1, .int x1'), (2, .int x2')] → k4 x1' x2' = some r → W p l e (rmZ 0 0) s m args below meth c H' locs' 0 0 (QI g σ below args s (r, X)) (F0 m 4 ls' [])) (hW : Wd g σ X s H locs) (hl : lv_has ls 3 [(0, .ref a), (1, .int x1), (2, .int x2)]) (h : f_X5_countChoices_24 k4 σ X a x1 x2 = some r) : W p l e (rmZ 0 0) s m args below meth c H locs 0 0 (QI g σ below args s (r, X)) (F0 m 24 ls []) := by
  have hx := C.x
  have hb := C.b
  unfold f_X5_countChoices_24 at h
  refine lv_iinc (v := (x2 + 1)) (lv' := [(2, .int (x2 + 1)), (0, .ref a), (1, .int x1)]) hx hb dX5_countChoices_24 hl (k := 2) rfl rfl (by decide) rfl (fun ls hl => ?_)
  refine lv_goto (tgt := 4) hx hb dX5_countChoices_27 (by decide) ?_
  exact hk4 hW (lv_sub hl [1, 2, 0] rfl) h
set_option maxRecDepth 20000 in
set_option maxHeartbeats 2000000 in
theorem b_X5_countChoices_4 {a : Nat} (C : Cx g RX5 cX5_countChoices 3 (some .int) p s m args meth c) {r : Int32} {X : Mx} : ∀ (n : Nat) {x1 : Int32} {x2 : Int32} {H : Heap} {locs : List Loc} {ls : Array Slot} (hW : Wd g σ X s H locs) (hl : lv_has ls 3 [(0, .ref a), (1, .int x1), (2, .int x2)]) (h : f_X5_countChoices_4 σ X a n x1 x2 = some r), W p l e (rmZ 0 0) s m args below meth c H locs 0 0 (QI g σ below args s (r, X)) (F0 m 4 ls []) := by
  have hx := C.x
  have hb := C.b
  intro n
  induction n with
  | zero =>
    intro x1 x2 H locs ls hW hl h
    cases (show none = some r from h)
  | succ n ih =>
    intro x1 x2 H locs ls hW hl h
    rw [f_X5_countChoices_4] at h
    refine lv_iload_n hx hb dX5_countChoices_4 rfl (lv_at hl 2 rfl) ?_
    refine lv_sipush (v := 316) hx hb dX5_countChoices_5 (by decide) ?_
    refine r_br h (lv_icmp_ge (tgt := 30) hx hb dX5_countChoices_8 (by decide)) (fun h => ?_) (fun h => ?_)
    · refine lv_iload_n hx hb dX5_countChoices_30 rfl (lv_at hl 1 rfl) ?_
      exact r_iret C hW (rt_R h) rfl dX5_countChoices_31
    · refine lv_aload_n hx hb dX5_countChoices_11 rfl (lv_at hl 0 rfl) ?_
      refine r_gR C hW h fl_X5_34 (by decide) dX5_countChoices_12 (fun b1 h => ?_)
      refine lv_iload_n hx hb dX5_countChoices_15 rfl (lv_at hl 2 rfl) ?_
      refine r_iald C hW h dX5_countChoices_16 (fun v2 h => ?_)
      refine lv_iconst (v := (-1)) hx hb dX5_countChoices_17 (by decide) ?_
      refine r_br h (lv_icmp_eq (tgt := 24) hx hb dX5_countChoices_18 (by decide)) (fun h => ?_) (fun h => ?_)
      · exact b_X5_countChoices_24 C (fun hW hl h => ih hW hl h) hW (lv_sub hl [0, 1, 2] rfl) h
      · refine lv_iinc (v := (x1 + 1)) (lv' := [(1, .int (x1 + 1)), (0, .ref a), (2, .int x2)]) hx hb dX5_countChoices_21 hl (k := 1) rfl rfl (by decide) rfl (fun ls hl => ?_)
        exact b_X5_countChoices_24 C (fun hW hl h => ih hW hl h) hW (lv_sub hl [1, 0, 2] rfl) h
theorem kd_X5_countChoices {X : Mx} {r : Int32} {a : Nat} (h : f_X5_countChoices σ X a = some r) : shK σ a = 4 := (grd_inv h).1
set_option maxRecDepth 20000 in
set_option maxHeartbeats 2000000 in
theorem t_X5_countChoices {X : Mx} {r : Int32} {a : Nat} (h : f_X5_countChoices σ X a = some r) : MtI g l yX5_countChoices cX5_countChoices 3 (some .int) 0 0 [.ref a] σ X (r, X) := by
  refine met_of mk_X5_countChoices (Nat.le_of_ble_eq_true rfl) (fun p e s m args below meth c ls C hW hl => ?_)
  have hx := C.x
  have hb := C.b
  have hl : lv_has ls 3 [(0, .ref a)] := hl
  unfold f_X5_countChoices at h
  obtain ⟨hk0, h⟩ := grd_inv h
  refine lv_iconst (v := 0) hx hb dX5_countChoices_0 (by decide) ?_
  refine lv_istore_n (lv' := [(1, .int 0), (0, .ref a)]) hx hb dX5_countChoices_1 rfl hl (by decide) rfl (fun ls hl => ?_)
  refine lv_iconst (v := 0) hx hb dX5_countChoices_2 (by decide) ?_
  refine lv_istore_n (lv' := [(2, .int 0), (1, .int 0), (0, .ref a)]) hx hb dX5_countChoices_3 rfl hl (by decide) rfl (fun ls hl => ?_)
  exact b_X5_countChoices_4 C FU hW (lv_sub hl [2, 1, 0] rfl) h
set_option maxRecDepth 20000 in
set_option maxHeartbeats 2000000 in
theorem t_X6_swap {X : Mx} {r : Mx} {a0 : Nat} {x1 : Int32} {x2 : Int32} (h : f_X6_swap σ X a0 x1 x2 = some r) : MtV g l yX6_swap cX6_swap 4 none 0 0 [.ref a0, .int x1, .int x2] σ X r := by
  refine met_of mk_X6_swap (Nat.le_of_ble_eq_true rfl) (fun p e s m args below meth c ls C hW hl => ?_)
  have hx := C.x
  have hb := C.b
  have hl : lv_has ls 4 [(0, .ref a0), (1, .int x1), (2, .int x2)] := hl
  unfold f_X6_swap at h
  refine lv_iload_n hx hb dX6_swap_0 rfl (lv_at hl 1 rfl) ?_
  refine r_br h (lv_if_lt (tgt := 20) hx hb dX6_swap_1 (by decide)) (fun h => ?_) (fun h => ?_)
  · exact r_vret C hW (Option.some.inj h).symm dX6_swap_20
  · refine lv_iload_n hx hb dX6_swap_4 rfl (lv_at hl 2 rfl) ?_
    refine r_br h (lv_if_lt (tgt := 20) hx hb dX6_swap_5 (by decide)) (fun h => ?_) (fun h => ?_)
    · exact r_vret C hW (Option.some.inj h).symm dX6_swap_20
    · refine lv_iload_n hx hb dX6_swap_8 rfl (lv_at hl 1 rfl) ?_
      refine lv_aload_n hx hb dX6_swap_9 rfl (lv_at hl 0 rfl) ?_
      refine r_alenI C hW h dX6_swap_10 (fun v1 h => ?_)
      refine r_br h (lv_icmp_ge (tgt := 20) hx hb dX6_swap_11 (by decide)) (fun h => ?_) (fun h => ?_)
      · exact r_vret C hW (Option.some.inj h).symm dX6_swap_20
      · refine lv_iload_n hx hb dX6_swap_14 rfl (lv_at hl 2 rfl) ?_
        refine lv_aload_n hx hb dX6_swap_15 rfl (lv_at hl 0 rfl) ?_
        refine r_alenI C hW h dX6_swap_16 (fun v2 h => ?_)
        refine r_br h (lv_icmp_lt (tgt := 21) hx hb dX6_swap_17 (by decide)) (fun h => ?_) (fun h => ?_)
        · refine lv_aload_n hx hb dX6_swap_21 rfl (lv_at hl 0 rfl) ?_
          refine lv_iload_n hx hb dX6_swap_22 rfl (lv_at hl 1 rfl) ?_
          refine r_iald C hW h dX6_swap_23 (fun v3 h => ?_)
          refine lv_istore_n (lv' := [(3, .int v3), (0, .ref a0), (1, .int x1), (2, .int x2)]) hx hb dX6_swap_24 rfl hl (by decide) rfl (fun ls hl => ?_)
          refine lv_aload_n hx hb dX6_swap_25 rfl (lv_at hl 1 rfl) ?_
          refine lv_iload_n hx hb dX6_swap_26 rfl (lv_at hl 2 rfl) ?_
          refine lv_aload_n hx hb dX6_swap_27 rfl (lv_at hl 1 rfl) ?_
          refine lv_iload_n hx hb dX6_swap_28 rfl (lv_at hl 3 rfl) ?_
          refine r_iald C hW h dX6_swap_29 (fun v4 h => ?_)
          refine r_iast C hW h dX6_swap_30 (fun X5 H locs h hW _ => ?_)
          refine lv_aload_n hx hb dX6_swap_31 rfl (lv_at hl 1 rfl) ?_
          refine lv_iload_n hx hb dX6_swap_32 rfl (lv_at hl 3 rfl) ?_
          refine lv_iload_n hx hb dX6_swap_33 rfl (lv_at hl 0 rfl) ?_
          refine r_iast C hW h dX6_swap_34 (fun X6 H locs h hW _ => ?_)
          exact r_vret C hW (Option.some.inj h).symm dX6_swap_35
        · exact r_vret C hW (Option.some.inj h).symm dX6_swap_20
theorem kd_X5_swapChoices {X : Mx} {r : Mx} {a : Nat} {x1 : Int32} {x2 : Int32} {x3 : Int32} {x4 : Int32} {x5 : Int32} (h : f_X5_swapChoices σ X a x1 x2 x3 x4 x5 = some r) : shK σ a = 4 := (grd_inv h).1
set_option maxRecDepth 20000 in
set_option maxHeartbeats 2000000 in
theorem t_X5_swapChoices {X : Mx} {r : Mx} {a : Nat} {x1 : Int32} {x2 : Int32} {x3 : Int32} {x4 : Int32} {x5 : Int32} (h : f_X5_swapChoices σ X a x1 x2 x3 x4 x5 = some r) : MtV g l yX5_swapChoices cX5_swapChoices 6 none 2 43 [.ref a, .int x1, .int x2, .int x3, .int x4, .int x5] σ X r := by
  refine met_of mk_X5_swapChoices (Nat.le_of_ble_eq_true rfl) (fun p e s m args below meth c ls C hW hl => ?_)
  have hx := C.x
  have hb := C.b
  have hl : lv_has ls 6 [(0, .ref a), (1, .int x1), (2, .int x2), (3, .int x3), (4, .int x4), (5, .int x5)] := hl
  unfold f_X5_swapChoices at h
  obtain ⟨hk0, h⟩ := grd_inv h
  refine lv_aload_n hx hb dX5_swapChoices_0 rfl (lv_at hl 0 rfl) ?_
  refine r_gR C hW h fl_X5_34 (by decide) dX5_swapChoices_1 (fun b1 h => ?_)
  refine lv_iload_n hx hb dX5_swapChoices_4 rfl (lv_at hl 1 rfl) ?_
  refine lv_iload_n hx hb dX5_swapChoices_5 rfl (lv_at hl 2 rfl) ?_
  refine lv_iload_n hx hb dX5_swapChoices_6 rfl (lv_at hl 3 rfl) ?_
  refine r_cI hW (run_S (rest := [.ref b1]) C hW (t_X1_idOf (X := X)) mk_X1_idOf sk_X5_175 ⟨Nat.le_of_ble_eq_true rfl, Nat.le_of_ble_eq_true rfl⟩ ⟨Nat.zero_le _, Nat.zero_le _⟩ rfl rfl (Nat.le_of_ble_eq_true rfl) hl.1 dX5_swapChoices_7) (fun H locs hW _ => ?_)
  refine lv_iload_n hx hb dX5_swapChoices_10 rfl (lv_at hl 1 rfl) ?_
  refine lv_iload hx hb dX5_swapChoices_11 (lv_at hl 4 rfl) ?_
  refine lv_iload hx hb dX5_swapChoices_13 (lv_at hl 5 rfl) ?_
  refine r_cI hW (run_S (rest := [.int (f_X1_idOf x1 x2 x3), .ref b1]) C hW (t_X1_idOf (X := X)) mk_X1_idOf sk_X5_175 ⟨Nat.le_of_ble_eq_true rfl, Nat.le_of_ble_eq_true rfl⟩ ⟨Nat.zero_le _, Nat.zero_le _⟩ rfl rfl (Nat.le_of_ble_eq_true rfl) hl.1 dX5_swapChoices_15) (fun H locs hW _ => ?_)
  obtain ⟨X3, h2, h⟩ := bnd_inv h
  refine r_cV hW (run_S (rest := []) C hW (t_X6_swap h2) mk_X6_swap sk_X5_178 ⟨Nat.le_of_ble_eq_true rfl, Nat.le_of_ble_eq_true rfl⟩ ⟨Nat.zero_le _, Nat.zero_le _⟩ rfl rfl (Nat.le_of_ble_eq_true rfl) hl.1 dX5_swapChoices_18) (fun H locs hW _ => ?_)
  exact r_vret C hW (Option.some.inj h).symm dX5_swapChoices_21
set_option maxRecDepth 20000 in
set_option maxHeartbeats 2000000 in
theorem b_X5_changeChoicesAbout_23 {k2 : Mx → Int32 → Option Mx} {a : Nat} {x1 : Int32} (C : Cx g RX5 cX5_changeChoicesAbout 3 none p s m args meth c) {r : Mx} (hk2 : ∀ {H' : Heap} {locs' : List Loc} {ls' : Array Slot} {X' : Mx} {x1' : Int32}, Wd g σ X' s H' locs' → lv_has ls' 3 [(0, .ref a), (1, .int x1')] → k2 X' x1' = some r → W p l e (rmZ 3 68) s m args below meth c H' locs' 0 0 (QV g σ below args s r) (F0 m 2 ls' [])) : ∀ (n : Nat) {X : Mx} {x2 : Int32} {H : Heap} {locs : List Loc} {ls : Array Slot} (hW : Wd g σ X s H locs) (hl : lv_has ls 3 [(0, .ref a), (1, .int x1), (2, .int x2)]) (h : f_X5_changeChoicesAbout_23 k2 σ a x1 n X x2 = some r), W p l e (rmZ 3 68) s m args below meth c H locs 0 0 (QV g σ below args s r) (F0 m 23 ls []) := by
  have hx := C.x
  have hb := C.b
  intro n
  induction n with
  | zero =>
    intro X x2 H locs ls hW hl h
    cases (show none = some r from h)
  | succ n ih =>
    intro X x2 H locs ls hW hl h
    rw [f_X5_changeChoicesAbout_23] at h
    refine lv_iload_n hx hb dX5_changeChoicesAbout_23 rfl (lv_at hl 2 rfl) ?_
    refine lv_bipush (v := 20) hx hb dX5_changeChoicesAbout_24 (by decide) ?_
    refine r_br h (lv_icmp_ge (tgt := 49) hx hb dX5_changeChoicesAbout_26 (by decide)) (fun h => ?_) (fun h => ?_)
    · refine lv_iinc (v := (x1 + 1)) (lv' := [(1, .int (x1 + 1)), (0, .ref a), (2, .int x2)]) hx hb dX5_changeChoicesAbout_49 hl (k := 1) rfl rfl (by decide) rfl (fun ls hl => ?_)
      refine lv_goto (tgt := 2) hx hb dX5_changeChoicesAbout_52 (by decide) ?_
      exact hk2 hW (lv_sub hl [1, 0] rfl) h
    · refine lv_aload_n hx hb dX5_changeChoicesAbout_29 rfl (lv_at hl 0 rfl) ?_
      refine lv_iconst (v := 5) hx hb dX5_changeChoicesAbout_30 (by decide) ?_
      refine lv_iload_n hx hb dX5_changeChoicesAbout_31 rfl (lv_at hl 2 rfl) ?_
      refine lv_iconst (v := 5) hx hb dX5_changeChoicesAbout_32 (by decide) ?_
      refine lv_iload_n hx hb dX5_changeChoicesAbout_33 rfl (lv_at hl 1 rfl) ?_
      refine lv_iadd hx hb dX5_changeChoicesAbout_34 ?_
      refine lv_iload_n hx hb dX5_changeChoicesAbout_35 rfl (lv_at hl 2 rfl) ?_
      refine lv_bipush (v := 7) hx hb dX5_changeChoicesAbout_36 (by decide) ?_
      refine lv_iload_n hx hb dX5_changeChoicesAbout_38 rfl (lv_at hl 1 rfl) ?_
      refine lv_iadd hx hb dX5_changeChoicesAbout_39 ?_
      obtain ⟨X2, h1, h⟩ := bnd_inv h
      refine r_cV hW (run_V (rest := []) C hW (t_X5_swapChoices h1) mk_X5_swapChoices vk_X5_166 (kd_X5_swapChoices h1) rfl rfl (by decide) ⟨Nat.le_of_ble_eq_true rfl, Nat.le_of_ble_eq_true rfl⟩ ⟨Nat.zero_le _, Nat.zero_le _⟩ rfl rfl (Nat.le_of_ble_eq_true rfl) hl.1 dX5_changeChoicesAbout_40) (fun H locs hW _ => ?_)
      refine lv_iinc (v := (x2 + 1)) (lv' := [(2, .int (x2 + 1)), (0, .ref a), (1, .int x1)]) hx hb dX5_changeChoicesAbout_43 hl (k := 2) rfl rfl (by decide) rfl (fun ls hl => ?_)
      refine lv_goto (tgt := 23) hx hb dX5_changeChoicesAbout_46 (by decide) ?_
      exact ih hW (lv_sub hl [1, 2, 0] rfl) h
set_option maxRecDepth 20000 in
set_option maxHeartbeats 2000000 in
theorem b_X5_changeChoicesAbout_94 {k57 : Mx → Int32 → Option Mx} {a : Nat} {x1 : Int32} (C : Cx g RX5 cX5_changeChoicesAbout 3 none p s m args meth c) {r : Mx} {X : Mx} (hk57 : ∀ {H' : Heap} {locs' : List Loc} {ls' : Array Slot} {X' : Mx} {x1' : Int32}, Wd g σ X' s H' locs' → lv_has ls' 3 [(0, .ref a), (1, .int x1')] → k57 X' x1' = some r → W p l e (rmZ 3 68) s m args below meth c H' locs' 0 0 (QV g σ below args s r) (F0 m 57 ls' [])) (hW : Wd g σ X s H locs) (hl : lv_has ls 3 [(0, .ref a), (1, .int x1)]) (h : f_X5_changeChoicesAbout_94 k57 σ a x1 X = some r) : W p l e (rmZ 3 68) s m args below meth c H locs 0 0 (QV g σ below args s r) (F0 m 94 ls []) := by
  have hx := C.x
  have hb := C.b
  unfold f_X5_changeChoicesAbout_94 at h
  refine lv_iinc (v := (x1 + 1)) (lv' := [(1, .int (x1 + 1)), (0, .ref a)]) hx hb dX5_changeChoicesAbout_94 hl (k := 1) rfl rfl (by decide) rfl (fun ls hl => ?_)
  refine lv_goto (tgt := 57) hx hb dX5_changeChoicesAbout_97 (by decide) ?_
  exact hk57 hW (lv_sub hl [1, 0] rfl) h
set_option maxRecDepth 20000 in
set_option maxHeartbeats 2000000 in
theorem b_X5_changeChoicesAbout_57 {a : Nat} (C : Cx g RX5 cX5_changeChoicesAbout 3 none p s m args meth c) {r : Mx} : ∀ (n : Nat) {X : Mx} {x1 : Int32} {H : Heap} {locs : List Loc} {ls : Array Slot} (hW : Wd g σ X s H locs) (hl : lv_has ls 3 [(0, .ref a), (1, .int x1)]) (h : f_X5_changeChoicesAbout_57 σ a n X x1 = some r), W p l e (rmZ 3 68) s m args below meth c H locs 0 0 (QV g σ below args s r) (F0 m 57 ls []) := by
  have hx := C.x
  have hb := C.b
  intro n
  induction n with
  | zero =>
    intro X x1 H locs ls hW hl h
    cases (show none = some r from h)
  | succ n ih =>
    intro X x1 H locs ls hW hl h
    rw [f_X5_changeChoicesAbout_57] at h
    refine lv_iload_n hx hb dX5_changeChoicesAbout_57 rfl (lv_at hl 1 rfl) ?_
    refine lv_sipush (v := 316) hx hb dX5_changeChoicesAbout_58 (by decide) ?_
    refine r_br h (lv_icmp_ge (tgt := 100) hx hb dX5_changeChoicesAbout_61 (by decide)) (fun h => ?_) (fun h => ?_)
    · exact r_vret C hW (Option.some.inj h).symm dX5_changeChoicesAbout_100
    · refine lv_aload_n hx hb dX5_changeChoicesAbout_64 rfl (lv_at hl 0 rfl) ?_
      refine r_gR C hW h fl_X5_34 (by decide) dX5_changeChoicesAbout_65 (fun b1 h => ?_)
      refine lv_iload_n hx hb dX5_changeChoicesAbout_68 rfl (lv_at hl 1 rfl) ?_
      refine r_iald C hW h dX5_changeChoicesAbout_69 (fun v2 h => ?_)
      refine r_br h (lv_if_le (tgt := 94) hx hb dX5_changeChoicesAbout_70 (by decide)) (fun h => ?_) (fun h => ?_)
      · exact b_X5_changeChoicesAbout_94 C (fun hW hl h => ih hW hl h) hW (lv_sub hl [0, 1] rfl) h
      · refine lv_iload_n hx hb dX5_changeChoicesAbout_73 rfl (lv_at hl 1 rfl) ?_
        refine r_cI hW (run_S (rest := []) C hW (t_X1_isOfSides (X := X)) mk_X1_isOfSides sk_X5_170 ⟨Nat.le_of_ble_eq_true rfl, Nat.le_of_ble_eq_true rfl⟩ ⟨Nat.zero_le _, Nat.zero_le _⟩ rfl rfl (Nat.le_of_ble_eq_true rfl) hl.1 dX5_changeChoicesAbout_74) (fun H locs hW _ => ?_)
        refine r_br h (lv_if_eq (tgt := 94) hx hb dX5_changeChoicesAbout_77 (by decide)) (fun h => ?_) (fun h => ?_)
        · exact b_X5_changeChoicesAbout_94 C (fun hW hl h => ih hW hl h) hW (lv_sub hl [0, 1] rfl) h
        · refine lv_aload_n hx hb dX5_changeChoicesAbout_80 rfl (lv_at hl 0 rfl) ?_
          refine r_gR C hW h fl_X5_34 (by decide) dX5_changeChoicesAbout_81 (fun b3 h => ?_)
          refine lv_iload_n hx hb dX5_changeChoicesAbout_84 rfl (lv_at hl 1 rfl) ?_
          refine lv_iconst (v := 3) hx hb dX5_changeChoicesAbout_85 (by decide) ?_
          refine lv_aload_n hx hb dX5_changeChoicesAbout_86 rfl (lv_at hl 0 rfl) ?_
          refine r_gR C hW h fl_X5_34 (by decide) dX5_changeChoicesAbout_87 (fun b4 h => ?_)
          refine lv_iload_n hx hb dX5_changeChoicesAbout_90 rfl (lv_at hl 1 rfl) ?_
          refine r_iald C hW h dX5_changeChoicesAbout_91 (fun v5 h => ?_)
          refine lv_isub hx hb dX5_changeChoicesAbout_92 ?_
          refine r_iast C hW h dX5_changeChoicesAbout_93 (fun X6 H locs h hW _ => ?_)
          exact b_X5_changeChoicesAbout_94 C (fun hW hl h => ih hW hl h) hW (lv_sub hl [0, 1] rfl) h
set_option maxRecDepth 20000 in
set_option maxHeartbeats 2000000 in
theorem b_X5_changeChoicesAbout_2 {a : Nat} (C : Cx g RX5 cX5_changeChoicesAbout 3 none p s m args meth c) {r : Mx} : ∀ (n : Nat) {X : Mx} {x1 : Int32} {H : Heap} {locs : List Loc} {ls : Array Slot} (hW : Wd g σ X s H locs) (hl : lv_has ls 3 [(0, .ref a), (1, .int x1)]) (h : f_X5_changeChoicesAbout_2 σ a n X x1 = some r), W p l e (rmZ 3 68) s m args below meth c H locs 0 0 (QV g σ below args s r) (F0 m 2 ls []) := by
  have hx := C.x
  have hb := C.b
  intro n
  induction n with
  | zero =>
    intro X x1 H locs ls hW hl h
    cases (show none = some r from h)
  | succ n ih =>
    intro X x1 H locs ls hW hl h
    rw [f_X5_changeChoicesAbout_2] at h
    refine lv_iload_n hx hb dX5_changeChoicesAbout_2 rfl (lv_at hl 1 rfl) ?_
    refine lv_iconst (v := 2) hx hb dX5_changeChoicesAbout_3 (by decide) ?_
    refine r_br h (lv_icmp_ge (tgt := 55) hx hb dX5_changeChoicesAbout_4 (by decide)) (fun h => ?_) (fun h => ?_)
    · refine lv_iconst (v := 0) hx hb dX5_changeChoicesAbout_55 (by decide) ?_
      refine lv_istore_n (lv' := [(1, .int 0), (0, .ref a)]) hx hb dX5_changeChoicesAbout_56 rfl hl (by decide) rfl (fun ls hl => ?_)
      exact b_X5_changeChoicesAbout_57 C FU hW (lv_sub hl [1, 0] rfl) h
    · refine lv_aload_n hx hb dX5_changeChoicesAbout_7 rfl (lv_at hl 0 rfl) ?_
      refine lv_iconst (v := 3) hx hb dX5_changeChoicesAbout_8 (by decide) ?_
      refine lv_iconst (v := 5) hx hb dX5_changeChoicesAbout_9 (by decide) ?_
      refine lv_iload_n hx hb dX5_changeChoicesAbout_10 rfl (lv_at hl 1 rfl) ?_
      refine lv_iadd hx hb dX5_changeChoicesAbout_11 ?_
      refine lv_iconst (v := 0) hx hb dX5_changeChoicesAbout_12 (by decide) ?_
      refine lv_bipush (v := 7) hx hb dX5_changeChoicesAbout_13 (by decide) ?_
      refine lv_iload_n hx hb dX5_changeChoicesAbout_15 rfl (lv_at hl 1 rfl) ?_
      refine lv_iadd hx hb dX5_changeChoicesAbout_16 ?_
      refine lv_iconst (v := 0) hx hb dX5_changeChoicesAbout_17 (by decide) ?_
      obtain ⟨X2, h1, h⟩ := bnd_inv h
      refine r_cV hW (run_V (rest := []) C hW (t_X5_swapChoices h1) mk_X5_swapChoices vk_X5_166 (kd_X5_swapChoices h1) rfl rfl (by decide) ⟨Nat.le_of_ble_eq_true rfl, Nat.le_of_ble_eq_true rfl⟩ ⟨Nat.zero_le _, Nat.zero_le _⟩ rfl rfl (Nat.le_of_ble_eq_true rfl) hl.1 dX5_changeChoicesAbout_18) (fun H locs hW _ => ?_)
      refine lv_iconst (v := 0) hx hb dX5_changeChoicesAbout_21 (by decide) ?_
      refine lv_istore_n (lv' := [(2, .int 0), (0, .ref a), (1, .int x1)]) hx hb dX5_changeChoicesAbout_22 rfl hl (by decide) rfl (fun ls hl => ?_)
      exact b_X5_changeChoicesAbout_23 C (fun hW hl h => ih hW hl h) FU hW (lv_sub hl [1, 2, 0] rfl) h
theorem kd_X5_changeChoicesAbout {X : Mx} {r : Mx} {a : Nat} (h : f_X5_changeChoicesAbout σ X a = some r) : shK σ a = 4 := (grd_inv h).1
set_option maxRecDepth 20000 in
set_option maxHeartbeats 2000000 in
theorem t_X5_changeChoicesAbout {X : Mx} {r : Mx} {a : Nat} (h : f_X5_changeChoicesAbout σ X a = some r) : MtV g l yX5_changeChoicesAbout cX5_changeChoicesAbout 3 none 3 68 [.ref a] σ X r := by
  refine met_of mk_X5_changeChoicesAbout (Nat.le_of_ble_eq_true rfl) (fun p e s m args below meth c ls C hW hl => ?_)
  have hx := C.x
  have hb := C.b
  have hl : lv_has ls 3 [(0, .ref a)] := hl
  unfold f_X5_changeChoicesAbout at h
  obtain ⟨hk0, h⟩ := grd_inv h
  refine lv_iconst (v := 0) hx hb dX5_changeChoicesAbout_0 (by decide) ?_
  refine lv_istore_n (lv' := [(1, .int 0), (0, .ref a)]) hx hb dX5_changeChoicesAbout_1 rfl hl (by decide) rfl (fun ls hl => ?_)
  exact b_X5_changeChoicesAbout_2 C FU hW (lv_sub hl [1, 0] rfl) h
set_option maxRecDepth 20000 in
set_option maxHeartbeats 2000000 in
theorem t_X5_placeAmong {X : Mx} {r : Int32} {a0 : Nat} {x1 : Int32} (h : f_X5_placeAmong σ X a0 x1 = some r) : MtI g l yX5_placeAmong cX5_placeAmong 2 (some .int) 1 20 [.ref a0, .int x1] σ X (r, X) := by
  refine met_of mk_X5_placeAmong (Nat.le_of_ble_eq_true rfl) (fun p e s m args below meth c ls C hW hl => ?_)
  have hx := C.x
  have hb := C.b
  have hl : lv_has ls 2 [(0, .ref a0), (1, .int x1)] := hl
  unfold f_X5_placeAmong at h
  refine lv_aload_n hx hb dX5_placeAmong_0 rfl (lv_at hl 0 rfl) ?_
  refine r_gI C hW h fl_X5_192 (by decide) dX5_placeAmong_1 (fun v1 h => ?_)
  refine lv_iconst (v := 1) hx hb dX5_placeAmong_4 (by decide) ?_
  refine lv_iload_n hx hb dX5_placeAmong_5 rfl (lv_at hl 1 rfl) ?_
  refine lv_ishl hx hb dX5_placeAmong_6 ?_
  refine lv_iconst (v := 1) hx hb dX5_placeAmong_7 (by decide) ?_
  refine lv_isub hx hb dX5_placeAmong_8 ?_
  refine lv_iand hx hb dX5_placeAmong_9 ?_
  refine r_cI hW (run_S (rest := []) C hW (t_J6_bitCount_0f7a4 (X := X)) mk_J6_bitCount_0f7a4 sk_X5_135 ⟨Nat.le_of_ble_eq_true rfl, Nat.le_of_ble_eq_true rfl⟩ ⟨Nat.zero_le _, Nat.zero_le _⟩ rfl rfl (Nat.le_of_ble_eq_true rfl) hl.1 dX5_placeAmong_10) (fun H locs hW _ => ?_)
  exact r_iret C hW (rt_R h) rfl dX5_placeAmong_13
set_option maxRecDepth 20000 in
set_option maxHeartbeats 2000000 in
theorem b_X5_keepDemandsOf_78 {k12 : Mx → Int32 → Option Mx} {a : Nat} {a1 : Nat} {x2 : Int32} {x3 : Int32} (C : Cx g RX5 cX5_keepDemandsOf 6 none p s m args meth c) {r : Mx} {X : Mx} (hk12 : ∀ {H' : Heap} {locs' : List Loc} {ls' : Array Slot} {X' : Mx} {x3' : Int32}, Wd g σ X' s H' locs' → lv_has ls' 6 [(0, .ref a), (1, .ref a1), (2, .int x2), (3, .int x3')] → k12 X' x3' = some r → W p l e (rmZ 2 41) s m args below meth c H' locs' 0 0 (QV g σ below args s r) (F0 m 12 ls' [])) (hW : Wd g σ X s H locs) (hl : lv_has ls 6 [(0, .ref a), (1, .ref a1), (2, .int x2), (3, .int x3)]) (h : f_X5_keepDemandsOf_78 k12 σ a a1 x2 x3 X = some r) : W p l e (rmZ 2 41) s m args below meth c H locs 0 0 (QV g σ below args s r) (F0 m 78 ls []) := by
  have hx := C.x
  have hb := C.b
  unfold f_X5_keepDemandsOf_78 at h
  refine lv_iinc (v := (x3 + 1)) (lv' := [(3, .int (x3 + 1)), (0, .ref a), (1, .ref a1), (2, .int x2)]) hx hb dX5_keepDemandsOf_78 hl (k := 3) rfl rfl (by decide) rfl (fun ls hl => ?_)
  refine lv_goto (tgt := 12) hx hb dX5_keepDemandsOf_81 (by decide) ?_
  exact hk12 hW (lv_sub hl [1, 2, 3, 0] rfl) h
set_option maxRecDepth 20000 in
set_option maxHeartbeats 2000000 in
theorem b_X5_keepDemandsOf_12 {a : Nat} {a1 : Nat} {x2 : Int32} (C : Cx g RX5 cX5_keepDemandsOf 6 none p s m args meth c) {r : Mx} : ∀ (n : Nat) {X : Mx} {x3 : Int32} {H : Heap} {locs : List Loc} {ls : Array Slot} (hW : Wd g σ X s H locs) (hl : lv_has ls 6 [(0, .ref a), (1, .ref a1), (2, .int x2), (3, .int x3)]) (h : f_X5_keepDemandsOf_12 σ a a1 x2 n X x3 = some r), W p l e (rmZ 2 41) s m args below meth c H locs 0 0 (QV g σ below args s r) (F0 m 12 ls []) := by
  have hx := C.x
  have hb := C.b
  intro n
  induction n with
  | zero =>
    intro X x3 H locs ls hW hl h
    cases (show none = some r from h)
  | succ n ih =>
    intro X x3 H locs ls hW hl h
    rw [f_X5_keepDemandsOf_12] at h
    refine lv_iload_n hx hb dX5_keepDemandsOf_12 rfl (lv_at hl 3 rfl) ?_
    refine lv_iload_n hx hb dX5_keepDemandsOf_13 rfl (lv_at hl 2 rfl) ?_
    refine r_br h (lv_icmp_ge (tgt := 84) hx hb dX5_keepDemandsOf_14 (by decide)) (fun h => ?_) (fun h => ?_)
    · exact r_vret C hW (Option.some.inj h).symm dX5_keepDemandsOf_84
    · refine lv_iload_n hx hb dX5_keepDemandsOf_17 rfl (lv_at hl 3 rfl) ?_
      refine lv_iconst (v := 4) hx hb dX5_keepDemandsOf_18 (by decide) ?_
      refine r_br h (lv_icmp_ge (tgt := 84) hx hb dX5_keepDemandsOf_19 (by decide)) (fun h => ?_) (fun h => ?_)
      · exact r_vret C hW (Option.some.inj h).symm dX5_keepDemandsOf_84
      · refine lv_aload_n hx hb dX5_keepDemandsOf_22 rfl (lv_at hl 0 rfl) ?_
        refine r_gR C hW h fl_X5_28 (by decide) dX5_keepDemandsOf_23 (fun b1 h => ?_)
        refine lv_iload_n hx hb dX5_keepDemandsOf_26 rfl (lv_at hl 3 rfl) ?_
        refine r_iald C hW h dX5_keepDemandsOf_27 (fun v2 h => ?_)
        refine lv_istore (lv' := [(4, .int v2), (0, .ref a), (1, .ref a1), (2, .int x2), (3, .int x3)]) hx hb dX5_keepDemandsOf_28 hl (by decide) rfl (fun ls hl => ?_)
        refine lv_aload_n hx hb dX5_keepDemandsOf_30 rfl (lv_at hl 1 rfl) ?_
        refine r_gR C hW h fl_X5_31 (by decide) dX5_keepDemandsOf_31 (fun b3 h => ?_)
        refine lv_iload_n hx hb dX5_keepDemandsOf_34 rfl (lv_at hl 4 rfl) ?_
        refine r_iald C hW h dX5_keepDemandsOf_35 (fun v4 h => ?_)
        refine lv_istore (lv' := [(5, .int v4), (4, .int v2), (0, .ref a), (1, .ref a1), (2, .int x2), (3, .int x3)]) hx hb dX5_keepDemandsOf_36 hl (by decide) rfl (fun ls hl => ?_)
        refine lv_aload_n hx hb dX5_keepDemandsOf_38 rfl (lv_at hl 3 rfl) ?_
        refine lv_iload hx hb dX5_keepDemandsOf_39 (lv_at hl 1 rfl) ?_
        obtain ⟨v6, h5, h⟩ := bnd_inv h
        refine r_cI hW (run_V (rest := []) C hW (t_X6_hasColumn h5) mk_X6_hasColumn vk_X5_77 (kd_X6_hasColumn h5) rfl rfl (by decide) ⟨Nat.le_of_ble_eq_true rfl, Nat.le_of_ble_eq_true rfl⟩ ⟨Nat.zero_le _, Nat.zero_le _⟩ rfl rfl (Nat.le_of_ble_eq_true rfl) hl.1 dX5_keepDemandsOf_41) (fun H locs hW _ => ?_)
        refine r_br h (lv_if_eq (tgt := 78) hx hb dX5_keepDemandsOf_44 (by decide)) (fun h => ?_) (fun h => ?_)
        · exact b_X5_keepDemandsOf_78 C (fun hW hl h => ih hW hl h) hW (lv_sub hl [2, 3, 4, 5] rfl) h
        · refine lv_aload_n hx hb dX5_keepDemandsOf_47 rfl (lv_at hl 3 rfl) ?_
          refine lv_iload hx hb dX5_keepDemandsOf_48 (lv_at hl 0 rfl) ?_
          obtain ⟨v8, h7, h⟩ := bnd_inv h
          refine r_cI hW (run_V (rest := []) C hW (t_X6_hasColumn h7) mk_X6_hasColumn vk_X5_77 (kd_X6_hasColumn h7) rfl rfl (by decide) ⟨Nat.le_of_ble_eq_true rfl, Nat.le_of_ble_eq_true rfl⟩ ⟨Nat.zero_le _, Nat.zero_le _⟩ rfl rfl (Nat.le_of_ble_eq_true rfl) hl.1 dX5_keepDemandsOf_50) (fun H locs hW _ => ?_)
          refine r_br h (lv_if_eq (tgt := 78) hx hb dX5_keepDemandsOf_53 (by decide)) (fun h => ?_) (fun h => ?_)
          · exact b_X5_keepDemandsOf_78 C (fun hW hl h => ih hW hl h) hW (lv_sub hl [2, 3, 4, 5] rfl) h
          · refine lv_aload_n hx hb dX5_keepDemandsOf_56 rfl (lv_at hl 2 rfl) ?_
            refine lv_aload_n hx hb dX5_keepDemandsOf_57 rfl (lv_at hl 2 rfl) ?_
            refine r_gR C hW h fl_X5_24 (by decide) dX5_keepDemandsOf_58 (fun b9 h => ?_)
            refine lv_iload_n hx hb dX5_keepDemandsOf_61 rfl (lv_at hl 5 rfl) ?_
            refine r_iald C hW h dX5_keepDemandsOf_62 (fun v10 h => ?_)
            refine lv_aload_n hx hb dX5_keepDemandsOf_63 rfl (lv_at hl 3 rfl) ?_
            refine lv_iload hx hb dX5_keepDemandsOf_64 (lv_at hl 1 rfl) ?_
            obtain ⟨v12, h11, h⟩ := bnd_inv h
            refine r_cI hW (run_S (rest := [.int v10, .ref a]) C hW (t_X5_placeAmong h11) mk_X5_placeAmong sk_X5_185 ⟨Nat.le_of_ble_eq_true rfl, Nat.le_of_ble_eq_true rfl⟩ ⟨Nat.zero_le _, Nat.zero_le _⟩ rfl rfl (Nat.le_of_ble_eq_true rfl) hl.1 dX5_keepDemandsOf_66) (fun H locs hW _ => ?_)
            refine lv_aload_n hx hb dX5_keepDemandsOf_69 rfl (lv_at hl 3 rfl) ?_
            refine lv_iload hx hb dX5_keepDemandsOf_70 (lv_at hl 0 rfl) ?_
            obtain ⟨v14, h13, h⟩ := bnd_inv h
            refine r_cI hW (run_S (rest := [.int v12, .int v10, .ref a]) C hW (t_X5_placeAmong h13) mk_X5_placeAmong sk_X5_185 ⟨Nat.le_of_ble_eq_true rfl, Nat.le_of_ble_eq_true rfl⟩ ⟨Nat.zero_le _, Nat.zero_le _⟩ rfl rfl (Nat.le_of_ble_eq_true rfl) hl.1 dX5_keepDemandsOf_72) (fun H locs hW _ => ?_)
            obtain ⟨X16, h15, h⟩ := bnd_inv h
            refine r_cV hW (run_V (rest := []) C hW (t_X5_putDemand h15) mk_X5_putDemand vk_X5_189 (kd_X5_putDemand h15) rfl rfl (by decide) ⟨Nat.le_of_ble_eq_true rfl, Nat.le_of_ble_eq_true rfl⟩ ⟨Nat.zero_le _, Nat.zero_le _⟩ rfl rfl (Nat.le_of_ble_eq_true rfl) hl.1 dX5_keepDemandsOf_75) (fun H locs hW _ => ?_)
            exact b_X5_keepDemandsOf_78 C (fun hW hl h => ih hW hl h) hW (lv_sub hl [2, 3, 4, 5] rfl) h
theorem kd_X5_keepDemandsOf {X : Mx} {r : Mx} {a : Nat} {a1 : Nat} (h : f_X5_keepDemandsOf σ X a a1 = some r) : shK σ a = 4 := (grd_inv h).1
set_option maxRecDepth 20000 in
set_option maxHeartbeats 2000000 in
theorem t_X5_keepDemandsOf {X : Mx} {r : Mx} {a : Nat} {a1 : Nat} (h : f_X5_keepDemandsOf σ X a a1 = some r) : MtV g l yX5_keepDemandsOf cX5_keepDemandsOf 6 none 2 41 [.ref a, .ref a1] σ X r := by
  refine met_of mk_X5_keepDemandsOf (Nat.le_of_ble_eq_true rfl) (fun p e s m args below meth c ls C hW hl => ?_)
  have hx := C.x
  have hb := C.b
  have hl : lv_has ls 6 [(0, .ref a), (1, .ref a1)] := hl
  unfold f_X5_keepDemandsOf at h
  obtain ⟨hk0, h⟩ := grd_inv h
  refine lv_aload_n hx hb dX5_keepDemandsOf_0 rfl (lv_at hl 0 rfl) ?_
  refine r_gI C hW h fl_X5_46 (by decide) dX5_keepDemandsOf_1 (fun v1 h => ?_)
  refine lv_istore_n (lv' := [(2, .int v1), (0, .ref a), (1, .ref a1)]) hx hb dX5_keepDemandsOf_4 rfl hl (by decide) rfl (fun ls hl => ?_)
  refine lv_aload_n hx hb dX5_keepDemandsOf_5 rfl (lv_at hl 1 rfl) ?_
  refine lv_iconst (v := 0) hx hb dX5_keepDemandsOf_6 (by decide) ?_
  refine r_pI C hW h pf_X5_46 (by decide) rfl rfl dX5_keepDemandsOf_7 (fun X2 H locs h hW _ => ?_)
  refine lv_iconst (v := 0) hx hb dX5_keepDemandsOf_10 (by decide) ?_
  refine lv_istore_n (lv' := [(3, .int 0), (2, .int v1), (0, .ref a), (1, .ref a1)]) hx hb dX5_keepDemandsOf_11 rfl hl (by decide) rfl (fun ls hl => ?_)
  exact b_X5_keepDemandsOf_12 C FU hW (lv_sub hl [2, 3, 1, 0] rfl) h
set_option maxRecDepth 20000 in
set_option maxHeartbeats 2000000 in
theorem b_X5_becomeMerged_97 {k27 : Mx → Int32 → Int32 → Option Mx} {a : Nat} {a1 : Nat} {x2 : Int32} {x3 : Int32} (C : Cx g RX5 cX5_becomeMerged 5 none p s m args meth c) {r : Mx} {X : Mx} (hk27 : ∀ {H' : Heap} {locs' : List Loc} {ls' : Array Slot} {X' : Mx} {x2' : Int32} {x3' : Int32}, Wd g σ X' s H' locs' → lv_has ls' 5 [(0, .ref a), (1, .ref a1), (2, .int x2'), (3, .int x3')] → k27 X' x2' x3' = some r → W p l e (rmZ 3 67) s m args below meth c H' locs' 0 0 (QV g σ below args s r) (F0 m 27 ls' [])) (hW : Wd g σ X s H locs) (hl : lv_has ls 5 [(0, .ref a), (1, .ref a1), (2, .int x2), (3, .int x3)]) (h : f_X5_becomeMerged_97 k27 σ a a1 x2 x3 X = some r) : W p l e (rmZ 3 67) s m args below meth c H locs 0 0 (QV g σ below args s r) (F0 m 97 ls []) := by
  have hx := C.x
  have hb := C.b
  unfold f_X5_becomeMerged_97 at h
  refine lv_iinc (v := (x3 + 1)) (lv' := [(3, .int (x3 + 1)), (0, .ref a), (1, .ref a1), (2, .int x2)]) hx hb dX5_becomeMerged_97 hl (k := 3) rfl rfl (by decide) rfl (fun ls hl => ?_)
  refine lv_goto (tgt := 27) hx hb dX5_becomeMerged_100 (by decide) ?_
  exact hk27 hW (lv_sub hl [1, 2, 3, 0] rfl) h
set_option maxRecDepth 20000 in
set_option maxHeartbeats 2000000 in
theorem b_X5_becomeMerged_64 {k27 : Mx → Int32 → Int32 → Option Mx} {a : Nat} {a1 : Nat} {x2 : Int32} {x3 : Int32} (C : Cx g RX5 cX5_becomeMerged 5 none p s m args meth c) {r : Mx} (hk27 : ∀ {H' : Heap} {locs' : List Loc} {ls' : Array Slot} {X' : Mx} {x2' : Int32} {x3' : Int32}, Wd g σ X' s H' locs' → lv_has ls' 5 [(0, .ref a), (1, .ref a1), (2, .int x2'), (3, .int x3')] → k27 X' x2' x3' = some r → W p l e (rmZ 3 67) s m args below meth c H' locs' 0 0 (QV g σ below args s r) (F0 m 27 ls' [])) : ∀ (n : Nat) {X : Mx} {x4 : Int32} {H : Heap} {locs : List Loc} {ls : Array Slot} (hW : Wd g σ X s H locs) (hl : lv_has ls 5 [(0, .ref a), (1, .ref a1), (2, .int x2), (3, .int x3), (4, .int x4)]) (h : f_X5_becomeMerged_64 k27 σ a a1 x2 x3 n X x4 = some r), W p l e (rmZ 3 67) s m args below meth c H locs 0 0 (QV g σ below args s r) (F0 m 64 ls []) := by
  have hx := C.x
  have hb := C.b
  intro n
  induction n with
  | zero =>
    intro X x4 H locs ls hW hl h
    cases (show none = some r from h)
  | succ n ih =>
    intro X x4 H locs ls hW hl h
    rw [f_X5_becomeMerged_64] at h
    refine lv_iload hx hb dX5_becomeMerged_64 (lv_at hl 4 rfl) ?_
    refine lv_bipush (v := 20) hx hb dX5_becomeMerged_66 (by decide) ?_
    refine r_br h (lv_icmp_ge (tgt := 94) hx hb dX5_becomeMerged_68 (by decide)) (fun h => ?_) (fun h => ?_)
    · refine lv_iinc (v := (x2 + 1)) (lv' := [(2, .int (x2 + 1)), (0, .ref a), (1, .ref a1), (3, .int x3), (4, .int x4)]) hx hb dX5_becomeMerged_94 hl (k := 2) rfl rfl (by decide) rfl (fun ls hl => ?_)
      exact b_X5_becomeMerged_97 C hk27 hW (lv_sub hl [1, 2, 0, 3] rfl) h
    · refine lv_aload_n hx hb dX5_becomeMerged_71 rfl (lv_at hl 0 rfl) ?_
      refine r_gR C hW h fl_X5_12 (by decide) dX5_becomeMerged_72 (fun b1 h => ?_)
      refine lv_iload hx hb dX5_becomeMerged_75 (lv_at hl 4 rfl) ?_
      refine lv_iload_n hx hb dX5_becomeMerged_77 rfl (lv_at hl 2 rfl) ?_
      refine lv_aload_n hx hb dX5_becomeMerged_78 rfl (lv_at hl 1 rfl) ?_
      refine lv_iload hx hb dX5_becomeMerged_79 (lv_at hl 4 rfl) ?_
      refine lv_iload_n hx hb dX5_becomeMerged_81 rfl (lv_at hl 3 rfl) ?_
      obtain ⟨v3, h2, h⟩ := bnd_inv h
      refine r_cI hW (run_V (rest := [.int x2, .int x4, .ref b1]) C hW (t_X6_numberAt h2) mk_X6_numberAt vk_X5_73 (kd_X6_numberAt h2) rfl rfl (by decide) ⟨Nat.le_of_ble_eq_true rfl, Nat.le_of_ble_eq_true rfl⟩ ⟨Nat.zero_le _, Nat.zero_le _⟩ rfl rfl (Nat.le_of_ble_eq_true rfl) hl.1 dX5_becomeMerged_82) (fun H locs hW _ => ?_)
      obtain ⟨X5, h4, h⟩ := bnd_inv h
      refine r_cV hW (run_V (rest := []) C hW (t_X6_putNumber h4) mk_X6_putNumber vk_X5_125 (kd_X6_putNumber h4) rfl rfl (by decide) ⟨Nat.le_of_ble_eq_true rfl, Nat.le_of_ble_eq_true rfl⟩ ⟨Nat.zero_le _, Nat.zero_le _⟩ rfl rfl (Nat.le_of_ble_eq_true rfl) hl.1 dX5_becomeMerged_85) (fun H locs hW _ => ?_)
      refine lv_iinc (v := (x4 + 1)) (lv' := [(4, .int (x4 + 1)), (0, .ref a), (1, .ref a1), (2, .int x2), (3, .int x3)]) hx hb dX5_becomeMerged_88 hl (k := 4) rfl rfl (by decide) rfl (fun ls hl => ?_)
      refine lv_goto (tgt := 64) hx hb dX5_becomeMerged_91 (by decide) ?_
      exact ih hW (lv_sub hl [1, 2, 3, 4, 0] rfl) h
set_option maxRecDepth 20000 in
set_option maxHeartbeats 2000000 in
theorem b_X5_becomeMerged_27 {a : Nat} {a1 : Nat} (C : Cx g RX5 cX5_becomeMerged 5 none p s m args meth c) {r : Mx} : ∀ (n : Nat) {X : Mx} {x2 : Int32} {x3 : Int32} {H : Heap} {locs : List Loc} {ls : Array Slot} (hW : Wd g σ X s H locs) (hl : lv_has ls 5 [(0, .ref a), (1, .ref a1), (2, .int x2), (3, .int x3)]) (h : f_X5_becomeMerged_27 σ a a1 n X x2 x3 = some r), W p l e (rmZ 3 67) s m args below meth c H locs 0 0 (QV g σ below args s r) (F0 m 27 ls []) := by
  have hx := C.x
  have hb := C.b
  intro n
  induction n with
  | zero =>
    intro X x2 x3 H locs ls hW hl h
    cases (show none = some r from h)
  | succ n ih =>
    intro X x2 x3 H locs ls hW hl h
    rw [f_X5_becomeMerged_27] at h
    refine lv_iload_n hx hb dX5_becomeMerged_27 rfl (lv_at hl 3 rfl) ?_
    refine lv_bipush (v := 9) hx hb dX5_becomeMerged_28 (by decide) ?_
    refine r_br h (lv_icmp_ge (tgt := 103) hx hb dX5_becomeMerged_30 (by decide)) (fun h => ?_) (fun h => ?_)
    · refine lv_aload_n hx hb dX5_becomeMerged_103 rfl (lv_at hl 0 rfl) ?_
      obtain ⟨X2, h1, h⟩ := bnd_inv h
      refine r_cV hW (run_V (rest := []) C hW (t_X5_startSides h1) mk_X5_startSides vk_X5_50 (kd_X5_startSides h1) rfl rfl (by decide) ⟨Nat.le_of_ble_eq_true rfl, Nat.le_of_ble_eq_true rfl⟩ ⟨Nat.zero_le _, Nat.zero_le _⟩ rfl rfl (Nat.le_of_ble_eq_true rfl) hl.1 dX5_becomeMerged_104) (fun H locs hW _ => ?_)
      exact r_vret C hW (Option.some.inj h).symm dX5_becomeMerged_107
    · refine lv_aload_n hx hb dX5_becomeMerged_33 rfl (lv_at hl 1 rfl) ?_
      refine lv_iload_n hx hb dX5_becomeMerged_34 rfl (lv_at hl 3 rfl) ?_
      obtain ⟨v4, h3, h⟩ := bnd_inv h
      refine r_cI hW (run_V (rest := []) C hW (t_X6_hasColumn h3) mk_X6_hasColumn vk_X5_77 (kd_X6_hasColumn h3) rfl rfl (by decide) ⟨Nat.le_of_ble_eq_true rfl, Nat.le_of_ble_eq_true rfl⟩ ⟨Nat.zero_le _, Nat.zero_le _⟩ rfl rfl (Nat.le_of_ble_eq_true rfl) hl.1 dX5_becomeMerged_35) (fun H locs hW _ => ?_)
      refine r_br h (lv_if_eq (tgt := 97) hx hb dX5_becomeMerged_38 (by decide)) (fun h => ?_) (fun h => ?_)
      · exact b_X5_becomeMerged_97 C (fun hW hl h => ih hW hl h) hW (lv_sub hl [0, 1, 2, 3] rfl) h
      · refine lv_aload_n hx hb dX5_becomeMerged_41 rfl (lv_at hl 0 rfl) ?_
        refine r_gR C hW h fl_X5_12 (by decide) dX5_becomeMerged_42 (fun b5 h => ?_)
        refine lv_iload_n hx hb dX5_becomeMerged_45 rfl (lv_at hl 2 rfl) ?_
        refine lv_aload_n hx hb dX5_becomeMerged_46 rfl (lv_at hl 1 rfl) ?_
        refine r_gR C hW h fl_X5_151 (by decide) dX5_becomeMerged_47 (fun b6 h => ?_)
        refine lv_iload_n hx hb dX5_becomeMerged_50 rfl (lv_at hl 3 rfl) ?_
        refine r_iald C hW h dX5_becomeMerged_51 (fun v7 h => ?_)
        refine lv_aload_n hx hb dX5_becomeMerged_52 rfl (lv_at hl 1 rfl) ?_
        refine r_gR C hW h fl_X5_81 (by decide) dX5_becomeMerged_53 (fun b8 h => ?_)
        refine lv_iload_n hx hb dX5_becomeMerged_56 rfl (lv_at hl 3 rfl) ?_
        refine r_iald C hW h dX5_becomeMerged_57 (fun v9 h => ?_)
        obtain ⟨X11, h10, h⟩ := bnd_inv h
        refine r_cV hW (run_V (rest := []) C hW (t_X6_putColumn h10) mk_X6_putColumn vk_X5_154 (kd_X6_putColumn h10) rfl rfl (by decide) ⟨Nat.le_of_ble_eq_true rfl, Nat.le_of_ble_eq_true rfl⟩ ⟨Nat.zero_le _, Nat.zero_le _⟩ rfl rfl (Nat.le_of_ble_eq_true rfl) hl.1 dX5_becomeMerged_58) (fun H locs hW _ => ?_)
        refine lv_iconst (v := 0) hx hb dX5_becomeMerged_61 (by decide) ?_
        refine lv_istore (lv' := [(4, .int 0), (0, .ref a), (1, .ref a1), (2, .int x2), (3, .int x3)]) hx hb dX5_becomeMerged_62 hl (by decide) rfl (fun ls hl => ?_)
        exact b_X5_becomeMerged_64 C (fun hW hl h => ih hW hl h) FU hW (lv_sub hl [1, 2, 3, 4, 0] rfl) h
theorem kd_X5_becomeMerged {X : Mx} {r : Mx} {a : Nat} {a1 : Nat} (h : f_X5_becomeMerged σ X a a1 = some r) : shK σ a = 4 := (grd_inv h).1
set_option maxRecDepth 20000 in
set_option maxHeartbeats 2000000 in
theorem t_X5_becomeMerged {X : Mx} {r : Mx} {a : Nat} {a1 : Nat} (h : f_X5_becomeMerged σ X a a1 = some r) : MtV g l yX5_becomeMerged cX5_becomeMerged 5 none 3 67 [.ref a, .ref a1] σ X r := by
  refine met_of mk_X5_becomeMerged (Nat.le_of_ble_eq_true rfl) (fun p e s m args below meth c ls C hW hl => ?_)
  have hx := C.x
  have hb := C.b
  have hl : lv_has ls 5 [(0, .ref a), (1, .ref a1)] := hl
  unfold f_X5_becomeMerged at h
  obtain ⟨hk0, h⟩ := grd_inv h
  refine lv_aload_n hx hb dX5_becomeMerged_0 rfl (lv_at hl 0 rfl) ?_
  refine lv_aload_n hx hb dX5_becomeMerged_1 rfl (lv_at hl 1 rfl) ?_
  obtain ⟨X2, h1, h⟩ := bnd_inv h
  refine r_cV hW (run_V (rest := []) C hW (t_X5_keepDemandsOf h1) mk_X5_keepDemandsOf vk_X5_182 (kd_X5_keepDemandsOf h1) rfl rfl (by decide) ⟨Nat.le_of_ble_eq_true rfl, Nat.le_of_ble_eq_true rfl⟩ ⟨Nat.zero_le _, Nat.zero_le _⟩ rfl rfl (Nat.le_of_ble_eq_true rfl) hl.1 dX5_becomeMerged_2) (fun H locs hW _ => ?_)
  refine lv_aload_n hx hb dX5_becomeMerged_5 rfl (lv_at hl 0 rfl) ?_
  refine r_gR C hW h fl_X5_12 (by decide) dX5_becomeMerged_6 (fun b3 h => ?_)
  obtain ⟨X5, h4, h⟩ := bnd_inv h
  refine r_cV hW (run_V (rest := []) C hW (t_X6_clear h4) mk_X6_clear vk_X5_43 (kd_X6_clear h4) rfl rfl (by decide) ⟨Nat.le_of_ble_eq_true rfl, Nat.le_of_ble_eq_true rfl⟩ ⟨Nat.zero_le _, Nat.zero_le _⟩ rfl rfl (Nat.le_of_ble_eq_true rfl) hl.1 dX5_becomeMerged_9) (fun H locs hW _ => ?_)
  refine lv_aload_n hx hb dX5_becomeMerged_12 rfl (lv_at hl 0 rfl) ?_
  refine r_gR C hW h fl_X5_12 (by decide) dX5_becomeMerged_13 (fun b6 h => ?_)
  refine lv_aload_n hx hb dX5_becomeMerged_16 rfl (lv_at hl 1 rfl) ?_
  refine r_gI C hW h fl_X5_132 (by decide) dX5_becomeMerged_17 (fun v7 h => ?_)
  refine r_pI C hW h pf_X5_132 (by decide) rfl rfl dX5_becomeMerged_20 (fun X8 H locs h hW _ => ?_)
  refine lv_iconst (v := 0) hx hb dX5_becomeMerged_23 (by decide) ?_
  refine lv_istore_n (lv' := [(2, .int 0), (0, .ref a), (1, .ref a1)]) hx hb dX5_becomeMerged_24 rfl hl (by decide) rfl (fun ls hl => ?_)
  refine lv_iconst (v := 0) hx hb dX5_becomeMerged_25 (by decide) ?_
  refine lv_istore_n (lv' := [(3, .int 0), (2, .int 0), (0, .ref a), (1, .ref a1)]) hx hb dX5_becomeMerged_26 rfl hl (by decide) rfl (fun ls hl => ?_)
  exact b_X5_becomeMerged_27 C FU hW (lv_sub hl [2, 3, 1, 0] rfl) h
set_option maxRecDepth 20000 in
set_option maxHeartbeats 2000000 in
theorem b_X6_renumberAdded_37 {k2 : Mx → Int32 → Option Mx} {a : Nat} {x1 : Int32} {x2 : Int32} {x3 : Int32} (C : Cx g RX6 cX6_renumberAdded 5 none p s m args meth c) {r : Mx} (hk2 : ∀ {H' : Heap} {locs' : List Loc} {ls' : Array Slot} {X' : Mx} {x1' : Int32}, Wd g σ X' s H' locs' → lv_has ls' 5 [(0, .ref a), (1, .int x1')] → k2 X' x1' = some r → W p l e (rmZ 1 23) s m args below meth c H' locs' 0 0 (QV g σ below args s r) (F0 m 2 ls' [])) : ∀ (n : Nat) {X : Mx} {x4 : Int32} {H : Heap} {locs : List Loc} {ls : Array Slot} (hW : Wd g σ X s H locs) (hl : lv_has ls 5 [(0, .ref a), (1, .int x1), (2, .int x2), (3, .int x3), (4, .int x4)]) (h : f_X6_renumberAdded_37 k2 σ a x1 x2 x3 n X x4 = some r), W p l e (rmZ 1 23) s m args below meth c H locs 0 0 (QV g σ below args s r) (F0 m 37 ls []) := by
  have hx := C.x
  have hb := C.b
  intro n
  induction n with
  | zero =>
    intro X x4 H locs ls hW hl h
    cases (show none = some r from h)
  | succ n ih =>
    intro X x4 H locs ls hW hl h
    rw [f_X6_renumberAdded_37] at h
    refine lv_iload hx hb dX6_renumberAdded_37 (lv_at hl 4 rfl) ?_
    refine lv_bipush (v := 20) hx hb dX6_renumberAdded_39 (by decide) ?_
    refine r_br h (lv_icmp_ge (tgt := 71) hx hb dX6_renumberAdded_41 (by decide)) (fun h => ?_) (fun h => ?_)
    · refine lv_iinc (v := (x1 + 1)) (lv' := [(1, .int (x1 + 1)), (0, .ref a), (2, .int x2), (3, .int x3), (4, .int x4)]) hx hb dX6_renumberAdded_71 hl (k := 1) rfl rfl (by decide) rfl (fun ls hl => ?_)
      refine lv_goto (tgt := 2) hx hb dX6_renumberAdded_74 (by decide) ?_
      exact hk2 hW (lv_sub hl [1, 0] rfl) h
    · refine lv_aload_n hx hb dX6_renumberAdded_44 rfl (lv_at hl 0 rfl) ?_
      refine r_gR C hW h fl_X6_18 (by decide) dX6_renumberAdded_45 (fun b1 h => ?_)
      refine lv_iload hx hb dX6_renumberAdded_48 (lv_at hl 4 rfl) ?_
      refine lv_bipush (v := 9) hx hb dX6_renumberAdded_50 (by decide) ?_
      refine lv_imul hx hb dX6_renumberAdded_52 ?_
      refine lv_iload_n hx hb dX6_renumberAdded_53 rfl (lv_at hl 2 rfl) ?_
      refine lv_iadd hx hb dX6_renumberAdded_54 ?_
      refine lv_iload hx hb dX6_renumberAdded_55 (lv_at hl 4 rfl) ?_
      refine lv_bipush (v := 9) hx hb dX6_renumberAdded_57 (by decide) ?_
      refine lv_imul hx hb dX6_renumberAdded_59 ?_
      refine lv_iload_n hx hb dX6_renumberAdded_60 rfl (lv_at hl 3 rfl) ?_
      refine lv_iadd hx hb dX6_renumberAdded_61 ?_
      obtain ⟨X3, h2, h⟩ := bnd_inv h
      refine r_cV hW (run_S (rest := []) C hW (t_X6_swap h2) mk_X6_swap sk_X6_51 ⟨Nat.le_of_ble_eq_true rfl, Nat.le_of_ble_eq_true rfl⟩ ⟨Nat.zero_le _, Nat.zero_le _⟩ rfl rfl (Nat.le_of_ble_eq_true rfl) hl.1 dX6_renumberAdded_62) (fun H locs hW _ => ?_)
      refine lv_iinc (v := (x4 + 1)) (lv' := [(4, .int (x4 + 1)), (0, .ref a), (1, .int x1), (2, .int x2), (3, .int x3)]) hx hb dX6_renumberAdded_65 hl (k := 4) rfl rfl (by decide) rfl (fun ls hl => ?_)
      refine lv_goto (tgt := 37) hx hb dX6_renumberAdded_68 (by decide) ?_
      exact ih hW (lv_sub hl [1, 2, 3, 4, 0] rfl) h
set_option maxRecDepth 20000 in
set_option maxHeartbeats 2000000 in
theorem b_X6_renumberAdded_2 {a : Nat} (C : Cx g RX6 cX6_renumberAdded 5 none p s m args meth c) {r : Mx} : ∀ (n : Nat) {X : Mx} {x1 : Int32} {H : Heap} {locs : List Loc} {ls : Array Slot} (hW : Wd g σ X s H locs) (hl : lv_has ls 5 [(0, .ref a), (1, .int x1)]) (h : f_X6_renumberAdded_2 σ a n X x1 = some r), W p l e (rmZ 1 23) s m args below meth c H locs 0 0 (QV g σ below args s r) (F0 m 2 ls []) := by
  have hx := C.x
  have hb := C.b
  intro n
  induction n with
  | zero =>
    intro X x1 H locs ls hW hl h
    cases (show none = some r from h)
  | succ n ih =>
    intro X x1 H locs ls hW hl h
    rw [f_X6_renumberAdded_2] at h
    refine lv_iload_n hx hb dX6_renumberAdded_2 rfl (lv_at hl 1 rfl) ?_
    refine lv_iconst (v := 2) hx hb dX6_renumberAdded_3 (by decide) ?_
    refine r_br h (lv_icmp_ge (tgt := 77) hx hb dX6_renumberAdded_4 (by decide)) (fun h => ?_) (fun h => ?_)
    · refine lv_aload_n hx hb dX6_renumberAdded_77 rfl (lv_at hl 0 rfl) ?_
      refine lv_aload_n hx hb dX6_renumberAdded_78 rfl (lv_at hl 0 rfl) ?_
      refine r_gI C hW h fl_X6_27 (by decide) dX6_renumberAdded_79 (fun v1 h => ?_)
      refine lv_bipush (v := 31) hx hb dX6_renumberAdded_82 (by decide) ?_
      refine lv_iand hx hb dX6_renumberAdded_84 ?_
      refine lv_aload_n hx hb dX6_renumberAdded_85 rfl (lv_at hl 0 rfl) ?_
      refine r_gI C hW h fl_X6_27 (by decide) dX6_renumberAdded_86 (fun v2 h => ?_)
      refine lv_iconst (v := 5) hx hb dX6_renumberAdded_89 (by decide) ?_
      refine lv_ishr hx hb dX6_renumberAdded_90 ?_
      refine lv_iconst (v := 3) hx hb dX6_renumberAdded_91 (by decide) ?_
      refine lv_iand hx hb dX6_renumberAdded_92 ?_
      refine lv_bipush (v := 7) hx hb dX6_renumberAdded_93 (by decide) ?_
      refine lv_ishl hx hb dX6_renumberAdded_95 ?_
      refine lv_ior hx hb dX6_renumberAdded_96 ?_
      refine lv_aload_n hx hb dX6_renumberAdded_97 rfl (lv_at hl 0 rfl) ?_
      refine r_gI C hW h fl_X6_27 (by decide) dX6_renumberAdded_98 (fun v3 h => ?_)
      refine lv_bipush (v := 7) hx hb dX6_renumberAdded_101 (by decide) ?_
      refine lv_ishr hx hb dX6_renumberAdded_103 ?_
      refine lv_iconst (v := 3) hx hb dX6_renumberAdded_104 (by decide) ?_
      refine lv_iand hx hb dX6_renumberAdded_105 ?_
      refine lv_iconst (v := 5) hx hb dX6_renumberAdded_106 (by decide) ?_
      refine lv_ishl hx hb dX6_renumberAdded_107 ?_
      refine lv_ior hx hb dX6_renumberAdded_108 ?_
      refine r_pI C hW h pf_X6_27 (by decide) rfl rfl dX6_renumberAdded_109 (fun X4 H locs h hW _ => ?_)
      exact r_vret C hW (Option.some.inj h).symm dX6_renumberAdded_112
    · refine lv_iconst (v := 5) hx hb dX6_renumberAdded_7 (by decide) ?_
      refine lv_iload_n hx hb dX6_renumberAdded_8 rfl (lv_at hl 1 rfl) ?_
      refine lv_iadd hx hb dX6_renumberAdded_9 ?_
      refine lv_istore_n (lv' := [(2, .int (5 + x1)), (0, .ref a), (1, .int x1)]) hx hb dX6_renumberAdded_10 rfl hl (by decide) rfl (fun ls hl => ?_)
      refine lv_bipush (v := 7) hx hb dX6_renumberAdded_11 (by decide) ?_
      refine lv_iload_n hx hb dX6_renumberAdded_13 rfl (lv_at hl 2 rfl) ?_
      refine lv_iadd hx hb dX6_renumberAdded_14 ?_
      refine lv_istore_n (lv' := [(3, .int (7 + x1)), (2, .int (5 + x1)), (0, .ref a), (1, .int x1)]) hx hb dX6_renumberAdded_15 rfl hl (by decide) rfl (fun ls hl => ?_)
      refine lv_aload_n hx hb dX6_renumberAdded_16 rfl (lv_at hl 2 rfl) ?_
      refine r_gR C hW h fl_X6_9 (by decide) dX6_renumberAdded_17 (fun b5 h => ?_)
      refine lv_iload_n hx hb dX6_renumberAdded_20 rfl (lv_at hl 1 rfl) ?_
      refine lv_iload_n hx hb dX6_renumberAdded_21 rfl (lv_at hl 0 rfl) ?_
      obtain ⟨X7, h6, h⟩ := bnd_inv h
      refine r_cV hW (run_S (rest := []) C hW (t_X6_swap h6) mk_X6_swap sk_X6_51 ⟨Nat.le_of_ble_eq_true rfl, Nat.le_of_ble_eq_true rfl⟩ ⟨Nat.zero_le _, Nat.zero_le _⟩ rfl rfl (Nat.le_of_ble_eq_true rfl) hl.1 dX6_renumberAdded_22) (fun H locs hW _ => ?_)
      refine lv_aload_n hx hb dX6_renumberAdded_25 rfl (lv_at hl 2 rfl) ?_
      refine r_gR C hW h fl_X6_15 (by decide) dX6_renumberAdded_26 (fun b8 h => ?_)
      refine lv_iload_n hx hb dX6_renumberAdded_29 rfl (lv_at hl 1 rfl) ?_
      refine lv_iload_n hx hb dX6_renumberAdded_30 rfl (lv_at hl 0 rfl) ?_
      obtain ⟨X10, h9, h⟩ := bnd_inv h
      refine r_cV hW (run_S (rest := []) C hW (t_X6_swap h9) mk_X6_swap sk_X6_51 ⟨Nat.le_of_ble_eq_true rfl, Nat.le_of_ble_eq_true rfl⟩ ⟨Nat.zero_le _, Nat.zero_le _⟩ rfl rfl (Nat.le_of_ble_eq_true rfl) hl.1 dX6_renumberAdded_31) (fun H locs hW _ => ?_)
      refine lv_iconst (v := 0) hx hb dX6_renumberAdded_34 (by decide) ?_
      refine lv_istore (lv' := [(4, .int 0), (3, .int (7 + x1)), (2, .int (5 + x1)), (0, .ref a), (1, .int x1)]) hx hb dX6_renumberAdded_35 hl (by decide) rfl (fun ls hl => ?_)
      exact b_X6_renumberAdded_37 C (fun hW hl h => ih hW hl h) FU hW (lv_sub hl [3, 4, 2, 1, 0] rfl) h
theorem kd_X6_renumberAdded {X : Mx} {r : Mx} {a : Nat} (h : f_X6_renumberAdded σ X a = some r) : shK σ a = 5 := (grd_inv h).1
set_option maxRecDepth 20000 in
set_option maxHeartbeats 2000000 in
theorem t_X6_renumberAdded {X : Mx} {r : Mx} {a : Nat} (h : f_X6_renumberAdded σ X a = some r) : MtV g l yX6_renumberAdded cX6_renumberAdded 5 none 1 23 [.ref a] σ X r := by
  refine met_of mk_X6_renumberAdded (Nat.le_of_ble_eq_true rfl) (fun p e s m args below meth c ls C hW hl => ?_)
  have hx := C.x
  have hb := C.b
  have hl : lv_has ls 5 [(0, .ref a)] := hl
  unfold f_X6_renumberAdded at h
  obtain ⟨hk0, h⟩ := grd_inv h
  refine lv_iconst (v := 0) hx hb dX6_renumberAdded_0 (by decide) ?_
  refine lv_istore_n (lv' := [(1, .int 0), (0, .ref a)]) hx hb dX6_renumberAdded_1 rfl hl (by decide) rfl (fun ls hl => ?_)
  exact b_X6_renumberAdded_2 C FU hW (lv_sub hl [1, 0] rfl) h
set_option maxRecDepth 20000 in
set_option maxHeartbeats 2000000 in
theorem b_X6_countFull_26 {k4 : Int32 → Int32 → Option Int32} {a : Nat} {x1 : Int32} {x2 : Int32} (C : Cx g RX6 cX6_countFull 3 (some .int) p s m args meth c) {r : Int32} {X : Mx} (hk4 : ∀ {H' : Heap} {locs' : List Loc} {ls' : Array Slot} {x1' : Int32} {x2' : Int32}, Wd g σ X s H' locs' → lv_has ls' 3 [(0, .ref a), (1, .int x1'), (2, .int x2')] → k4 x1' x2' = some r → W p l e (rmZ 0 0) s m args below meth c H' locs' 0 0 (QI g σ below args s (r, X)) (F0 m 4 ls' [])) (hW : Wd g σ X s H locs) (hl : lv_has ls 3 [(0, .ref a), (1, .int x1), (2, .int x2)]) (h : f_X6_countFull_26 k4 σ X a x1 x2 = some r) : W p l e (rmZ 0 0) s m args below meth c H locs 0 0 (QI g σ below args s (r, X)) (F0 m 26 ls []) := by
  have hx := C.x
  have hb := C.b
  unfold f_X6_countFull_26 at h
  refine lv_iinc (v := (x2 + 1)) (lv' := [(2, .int (x2 + 1)), (0, .ref a), (1, .int x1)]) hx hb dX6_countFull_26 hl (k := 2) rfl rfl (by decide) rfl (fun ls hl => ?_)
  refine lv_goto (tgt := 4) hx hb dX6_countFull_29 (by decide) ?_
  exact hk4 hW (lv_sub hl [1, 2, 0] rfl) h
end
