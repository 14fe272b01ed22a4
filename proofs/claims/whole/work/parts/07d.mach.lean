section
variable {p : Program} {l : Launch} {e : Env} {s : State} {m : MethodId} {args : Array Value} {below : List Frame} {meth : Method} {c : Code} {H : Heap} {locs : List Loc} {g : Gp} {σ : Sh} {ls : Array Slot}
set_option maxRecDepth 20000 in
set_option maxHeartbeats 2000000 in
theorem b_X6_countFull_4 {a : Nat} (C : Cx g RX6 cX6_countFull 3 (some .int) p s m args meth c) {r : Int32} {X : Mx} : ∀ (n : Nat) {x1 : Int32} {x2 : Int32} {H : Heap} {locs : List Loc} {ls : Array Slot} (hW : Wd g σ X s H locs) (hl : lv_has ls 3 [(0, .ref a), (1, .int x1), (2, .int x2)]) (h : f_X6_countFull_4 σ X a n x1 x2 = some r), W p l e (rmZ 0 0) s m args below meth c H locs 0 0 (QI g σ below args s (r, X)) (F0 m 4 ls []) := by
  have hx := C.x
  have hb := C.b
  intro n
  induction n with
  | zero =>
    intro x1 x2 H locs ls hW hl h
    cases (show none = some r from h)
  | succ n ih =>
    intro x1 x2 H locs ls hW hl h
    rw [f_X6_countFull_4] at h
    refine lv_iload_n hx hb dX6_countFull_4 rfl (lv_at hl 2 rfl) ?_
    refine lv_sipush (v := 180) hx hb dX6_countFull_5 (by decide) ?_
    refine r_br h (lv_icmp_ge (tgt := 32) hx hb dX6_countFull_8 (by decide)) (fun h => ?_) (fun h => ?_)
    · refine lv_iload_n hx hb dX6_countFull_32 rfl (lv_at hl 1 rfl) ?_
      exact r_iret C hW (rt_R h) rfl dX6_countFull_33
    · refine lv_aload_n hx hb dX6_countFull_11 rfl (lv_at hl 0 rfl) ?_
      refine r_gR C hW h fl_X6_18 (by decide) dX6_countFull_12 (fun b1 h => ?_)
      refine lv_iload_n hx hb dX6_countFull_15 rfl (lv_at hl 2 rfl) ?_
      refine r_iald C hW h dX6_countFull_16 (fun v2 h => ?_)
      refine lv_sipush (v := 9999) hx hb dX6_countFull_17 (by decide) ?_
      refine r_br h (lv_icmp_eq (tgt := 26) hx hb dX6_countFull_20 (by decide)) (fun h => ?_) (fun h => ?_)
      · exact b_X6_countFull_26 C (fun hW hl h => ih hW hl h) hW (lv_sub hl [0, 1, 2] rfl) h
      · refine lv_iinc (v := (x1 + 1)) (lv' := [(1, .int (x1 + 1)), (0, .ref a), (2, .int x2)]) hx hb dX6_countFull_23 hl (k := 1) rfl rfl (by decide) rfl (fun ls hl => ?_)
        exact b_X6_countFull_26 C (fun hW hl h => ih hW hl h) hW (lv_sub hl [1, 0, 2] rfl) h
theorem kd_X6_countFull {X : Mx} {r : Int32} {a : Nat} (h : f_X6_countFull σ X a = some r) : shK σ a = 5 := (grd_inv h).1
set_option maxRecDepth 20000 in
set_option maxHeartbeats 2000000 in
theorem t_X6_countFull {X : Mx} {r : Int32} {a : Nat} (h : f_X6_countFull σ X a = some r) : MtI g l yX6_countFull cX6_countFull 3 (some .int) 0 0 [.ref a] σ X (r, X) := by
  refine met_of mk_X6_countFull (Nat.le_of_ble_eq_true rfl) (fun p e s m args below meth c ls C hW hl => ?_)
  have hx := C.x
  have hb := C.b
  have hl : lv_has ls 3 [(0, .ref a)] := hl
  unfold f_X6_countFull at h
  obtain ⟨hk0, h⟩ := grd_inv h
  refine lv_iconst (v := 0) hx hb dX6_countFull_0 (by decide) ?_
  refine lv_istore_n (lv' := [(1, .int 0), (0, .ref a)]) hx hb dX6_countFull_1 rfl hl (by decide) rfl (fun ls hl => ?_)
  refine lv_iconst (v := 0) hx hb dX6_countFull_2 (by decide) ?_
  refine lv_istore_n (lv' := [(2, .int 0), (1, .int 0), (0, .ref a)]) hx hb dX6_countFull_3 rfl hl (by decide) rfl (fun ls hl => ?_)
  exact b_X6_countFull_4 C FU hW (lv_sub hl [2, 1, 0] rfl) h
set_option maxRecDepth 20000 in
set_option maxHeartbeats 2000000 in
theorem b_X6_countOtherNames_44 {k4 : Int32 → Int32 → Option Int32} {a : Nat} {a1 : Nat} {x2 : Int32} {x3 : Int32} (C : Cx g RX6 cX6_countOtherNames 4 (some .int) p s m args meth c) {r : Int32} {X : Mx} (hk4 : ∀ {H' : Heap} {locs' : List Loc} {ls' : Array Slot} {x2' : Int32} {x3' : Int32}, Wd g σ X s H' locs' → lv_has ls' 4 [(0, .ref a), (1, .ref a1), (2, .int x2'), (3, .int x3')] → k4 x2' x3' = some r → W p l e (rmZ 1 21) s m args below meth c H' locs' 0 0 (QI g σ below args s (r, X)) (F0 m 4 ls' [])) (hW : Wd g σ X s H locs) (hl : lv_has ls 4 [(0, .ref a), (1, .ref a1), (2, .int x2), (3, .int x3)]) (h : f_X6_countOtherNames_44 k4 σ X a a1 x2 x3 = some r) : W p l e (rmZ 1 21) s m args below meth c H locs 0 0 (QI g σ below args s (r, X)) (F0 m 44 ls []) := by
  have hx := C.x
  have hb := C.b
  unfold f_X6_countOtherNames_44 at h
  refine lv_iinc (v := (x3 + 1)) (lv' := [(3, .int (x3 + 1)), (0, .ref a), (1, .ref a1), (2, .int x2)]) hx hb dX6_countOtherNames_44 hl (k := 3) rfl rfl (by decide) rfl (fun ls hl => ?_)
  refine lv_goto (tgt := 4) hx hb dX6_countOtherNames_47 (by decide) ?_
  exact hk4 hW (lv_sub hl [1, 2, 3, 0] rfl) h
set_option maxRecDepth 20000 in
set_option maxHeartbeats 2000000 in
theorem b_X6_countOtherNames_4 {a : Nat} {a1 : Nat} (C : Cx g RX6 cX6_countOtherNames 4 (some .int) p s m args meth c) {r : Int32} {X : Mx} : ∀ (n : Nat) {x2 : Int32} {x3 : Int32} {H : Heap} {locs : List Loc} {ls : Array Slot} (hW : Wd g σ X s H locs) (hl : lv_has ls 4 [(0, .ref a), (1, .ref a1), (2, .int x2), (3, .int x3)]) (h : f_X6_countOtherNames_4 σ X a a1 n x2 x3 = some r), W p l e (rmZ 1 21) s m args below meth c H locs 0 0 (QI g σ below args s (r, X)) (F0 m 4 ls []) := by
  have hx := C.x
  have hb := C.b
  intro n
  induction n with
  | zero =>
    intro x2 x3 H locs ls hW hl h
    cases (show none = some r from h)
  | succ n ih =>
    intro x2 x3 H locs ls hW hl h
    rw [f_X6_countOtherNames_4] at h
    refine lv_iload_n hx hb dX6_countOtherNames_4 rfl (lv_at hl 3 rfl) ?_
    refine lv_bipush (v := 9) hx hb dX6_countOtherNames_5 (by decide) ?_
    refine r_br h (lv_icmp_ge (tgt := 50) hx hb dX6_countOtherNames_7 (by decide)) (fun h => ?_) (fun h => ?_)
    · refine lv_iload_n hx hb dX6_countOtherNames_50 rfl (lv_at hl 2 rfl) ?_
      exact r_iret C hW (rt_R h) rfl dX6_countOtherNames_51
    · refine lv_aload_n hx hb dX6_countOtherNames_10 rfl (lv_at hl 0 rfl) ?_
      refine lv_iload_n hx hb dX6_countOtherNames_11 rfl (lv_at hl 3 rfl) ?_
      obtain ⟨v2, h1, h⟩ := bnd_inv h
      refine r_cI hW (run_V (rest := []) C hW (t_X6_hasColumn h1) mk_X6_hasColumn vk_X6_40 (kd_X6_hasColumn h1) rfl rfl (by decide) ⟨Nat.le_of_ble_eq_true rfl, Nat.le_of_ble_eq_true rfl⟩ ⟨Nat.zero_le _, Nat.zero_le _⟩ rfl rfl (Nat.le_of_ble_eq_true rfl) hl.1 dX6_countOtherNames_12) (fun H locs hW _ => ?_)
      refine r_br h (lv_if_eq (tgt := 44) hx hb dX6_countOtherNames_15 (by decide)) (fun h => ?_) (fun h => ?_)
      · exact b_X6_countOtherNames_44 C (fun hW hl h => ih hW hl h) hW (lv_sub hl [0, 1, 2, 3] rfl) h
      · refine lv_aload_n hx hb dX6_countOtherNames_18 rfl (lv_at hl 1 rfl) ?_
        refine lv_iload_n hx hb dX6_countOtherNames_19 rfl (lv_at hl 3 rfl) ?_
        obtain ⟨v4, h3, h⟩ := bnd_inv h
        refine r_cI hW (run_V (rest := []) C hW (t_X6_hasColumn h3) mk_X6_hasColumn vk_X6_40 (kd_X6_hasColumn h3) rfl rfl (by decide) ⟨Nat.le_of_ble_eq_true rfl, Nat.le_of_ble_eq_true rfl⟩ ⟨Nat.zero_le _, Nat.zero_le _⟩ rfl rfl (Nat.le_of_ble_eq_true rfl) hl.1 dX6_countOtherNames_20) (fun H locs hW _ => ?_)
        refine r_br h (lv_if_eq (tgt := 44) hx hb dX6_countOtherNames_23 (by decide)) (fun h => ?_) (fun h => ?_)
        · exact b_X6_countOtherNames_44 C (fun hW hl h => ih hW hl h) hW (lv_sub hl [0, 1, 2, 3] rfl) h
        · refine lv_aload_n hx hb dX6_countOtherNames_26 rfl (lv_at hl 0 rfl) ?_
          refine r_gR C hW h fl_X6_9 (by decide) dX6_countOtherNames_27 (fun b5 h => ?_)
          refine lv_iload_n hx hb dX6_countOtherNames_30 rfl (lv_at hl 3 rfl) ?_
          refine r_iald C hW h dX6_countOtherNames_31 (fun v6 h => ?_)
          refine lv_aload_n hx hb dX6_countOtherNames_32 rfl (lv_at hl 1 rfl) ?_
          refine r_gR C hW h fl_X6_9 (by decide) dX6_countOtherNames_33 (fun b7 h => ?_)
          refine lv_iload_n hx hb dX6_countOtherNames_36 rfl (lv_at hl 3 rfl) ?_
          refine r_iald C hW h dX6_countOtherNames_37 (fun v8 h => ?_)
          refine r_br h (lv_icmp_eq (tgt := 44) hx hb dX6_countOtherNames_38 (by decide)) (fun h => ?_) (fun h => ?_)
          · exact b_X6_countOtherNames_44 C (fun hW hl h => ih hW hl h) hW (lv_sub hl [0, 1, 2, 3] rfl) h
          · refine lv_iinc (v := (x2 + 1)) (lv' := [(2, .int (x2 + 1)), (0, .ref a), (1, .ref a1), (3, .int x3)]) hx hb dX6_countOtherNames_41 hl (k := 2) rfl rfl (by decide) rfl (fun ls hl => ?_)
            exact b_X6_countOtherNames_44 C (fun hW hl h => ih hW hl h) hW (lv_sub hl [1, 2, 0, 3] rfl) h
theorem kd_X6_countOtherNames {X : Mx} {r : Int32} {a : Nat} {a1 : Nat} (h : f_X6_countOtherNames σ X a a1 = some r) : shK σ a = 5 := (grd_inv h).1
set_option maxRecDepth 20000 in
set_option maxHeartbeats 2000000 in
theorem t_X6_countOtherNames {X : Mx} {r : Int32} {a : Nat} {a1 : Nat} (h : f_X6_countOtherNames σ X a a1 = some r) : MtI g l yX6_countOtherNames cX6_countOtherNames 4 (some .int) 1 21 [.ref a, .ref a1] σ X (r, X) := by
  refine met_of mk_X6_countOtherNames (Nat.le_of_ble_eq_true rfl) (fun p e s m args below meth c ls C hW hl => ?_)
  have hx := C.x
  have hb := C.b
  have hl : lv_has ls 4 [(0, .ref a), (1, .ref a1)] := hl
  unfold f_X6_countOtherNames at h
  obtain ⟨hk0, h⟩ := grd_inv h
  refine lv_iconst (v := 0) hx hb dX6_countOtherNames_0 (by decide) ?_
  refine lv_istore_n (lv' := [(2, .int 0), (0, .ref a), (1, .ref a1)]) hx hb dX6_countOtherNames_1 rfl hl (by decide) rfl (fun ls hl => ?_)
  refine lv_iconst (v := 0) hx hb dX6_countOtherNames_2 (by decide) ?_
  refine lv_istore_n (lv' := [(3, .int 0), (2, .int 0), (0, .ref a), (1, .ref a1)]) hx hb dX6_countOtherNames_3 rfl hl (by decide) rfl (fun ls hl => ?_)
  exact b_X6_countOtherNames_4 C FU hW (lv_sub hl [2, 3, 1, 0] rfl) h
set_option maxRecDepth 20000 in
set_option maxHeartbeats 2000000 in
theorem b_X6_countOtherTypes_44 {k4 : Int32 → Int32 → Option Int32} {a : Nat} {a1 : Nat} {x2 : Int32} {x3 : Int32} (C : Cx g RX6 cX6_countOtherTypes 4 (some .int) p s m args meth c) {r : Int32} {X : Mx} (hk4 : ∀ {H' : Heap} {locs' : List Loc} {ls' : Array Slot} {x2' : Int32} {x3' : Int32}, Wd g σ X s H' locs' → lv_has ls' 4 [(0, .ref a), (1, .ref a1), (2, .int x2'), (3, .int x3')] → k4 x2' x3' = some r → W p l e (rmZ 1 21) s m args below meth c H' locs' 0 0 (QI g σ below args s (r, X)) (F0 m 4 ls' [])) (hW : Wd g σ X s H locs) (hl : lv_has ls 4 [(0, .ref a), (1, .ref a1), (2, .int x2), (3, .int x3)]) (h : f_X6_countOtherTypes_44 k4 σ X a a1 x2 x3 = some r) : W p l e (rmZ 1 21) s m args below meth c H locs 0 0 (QI g σ below args s (r, X)) (F0 m 44 ls []) := by
  have hx := C.x
  have hb := C.b
  unfold f_X6_countOtherTypes_44 at h
  refine lv_iinc (v := (x3 + 1)) (lv' := [(3, .int (x3 + 1)), (0, .ref a), (1, .ref a1), (2, .int x2)]) hx hb dX6_countOtherTypes_44 hl (k := 3) rfl rfl (by decide) rfl (fun ls hl => ?_)
  refine lv_goto (tgt := 4) hx hb dX6_countOtherTypes_47 (by decide) ?_
  exact hk4 hW (lv_sub hl [1, 2, 3, 0] rfl) h
set_option maxRecDepth 20000 in
set_option maxHeartbeats 2000000 in
theorem b_X6_countOtherTypes_4 {a : Nat} {a1 : Nat} (C : Cx g RX6 cX6_countOtherTypes 4 (some .int) p s m args meth c) {r : Int32} {X : Mx} : ∀ (n : Nat) {x2 : Int32} {x3 : Int32} {H : Heap} {locs : List Loc} {ls : Array Slot} (hW : Wd g σ X s H locs) (hl : lv_has ls 4 [(0, .ref a), (1, .ref a1), (2, .int x2), (3, .int x3)]) (h : f_X6_countOtherTypes_4 σ X a a1 n x2 x3 = some r), W p l e (rmZ 1 21) s m args below meth c H locs 0 0 (QI g σ below args s (r, X)) (F0 m 4 ls []) := by
  have hx := C.x
  have hb := C.b
  intro n
  induction n with
  | zero =>
    intro x2 x3 H locs ls hW hl h
    cases (show none = some r from h)
  | succ n ih =>
    intro x2 x3 H locs ls hW hl h
    rw [f_X6_countOtherTypes_4] at h
    refine lv_iload_n hx hb dX6_countOtherTypes_4 rfl (lv_at hl 3 rfl) ?_
    refine lv_bipush (v := 9) hx hb dX6_countOtherTypes_5 (by decide) ?_
    refine r_br h (lv_icmp_ge (tgt := 50) hx hb dX6_countOtherTypes_7 (by decide)) (fun h => ?_) (fun h => ?_)
    · refine lv_iload_n hx hb dX6_countOtherTypes_50 rfl (lv_at hl 2 rfl) ?_
      exact r_iret C hW (rt_R h) rfl dX6_countOtherTypes_51
    · refine lv_aload_n hx hb dX6_countOtherTypes_10 rfl (lv_at hl 0 rfl) ?_
      refine lv_iload_n hx hb dX6_countOtherTypes_11 rfl (lv_at hl 3 rfl) ?_
      obtain ⟨v2, h1, h⟩ := bnd_inv h
      refine r_cI hW (run_V (rest := []) C hW (t_X6_hasColumn h1) mk_X6_hasColumn vk_X6_40 (kd_X6_hasColumn h1) rfl rfl (by decide) ⟨Nat.le_of_ble_eq_true rfl, Nat.le_of_ble_eq_true rfl⟩ ⟨Nat.zero_le _, Nat.zero_le _⟩ rfl rfl (Nat.le_of_ble_eq_true rfl) hl.1 dX6_countOtherTypes_12) (fun H locs hW _ => ?_)
      refine r_br h (lv_if_eq (tgt := 44) hx hb dX6_countOtherTypes_15 (by decide)) (fun h => ?_) (fun h => ?_)
      · exact b_X6_countOtherTypes_44 C (fun hW hl h => ih hW hl h) hW (lv_sub hl [0, 1, 2, 3] rfl) h
      · refine lv_aload_n hx hb dX6_countOtherTypes_18 rfl (lv_at hl 1 rfl) ?_
        refine lv_iload_n hx hb dX6_countOtherTypes_19 rfl (lv_at hl 3 rfl) ?_
        obtain ⟨v4, h3, h⟩ := bnd_inv h
        refine r_cI hW (run_V (rest := []) C hW (t_X6_hasColumn h3) mk_X6_hasColumn vk_X6_40 (kd_X6_hasColumn h3) rfl rfl (by decide) ⟨Nat.le_of_ble_eq_true rfl, Nat.le_of_ble_eq_true rfl⟩ ⟨Nat.zero_le _, Nat.zero_le _⟩ rfl rfl (Nat.le_of_ble_eq_true rfl) hl.1 dX6_countOtherTypes_20) (fun H locs hW _ => ?_)
        refine r_br h (lv_if_eq (tgt := 44) hx hb dX6_countOtherTypes_23 (by decide)) (fun h => ?_) (fun h => ?_)
        · exact b_X6_countOtherTypes_44 C (fun hW hl h => ih hW hl h) hW (lv_sub hl [0, 1, 2, 3] rfl) h
        · refine lv_aload_n hx hb dX6_countOtherTypes_26 rfl (lv_at hl 0 rfl) ?_
          refine r_gR C hW h fl_X6_15 (by decide) dX6_countOtherTypes_27 (fun b5 h => ?_)
          refine lv_iload_n hx hb dX6_countOtherTypes_30 rfl (lv_at hl 3 rfl) ?_
          refine r_iald C hW h dX6_countOtherTypes_31 (fun v6 h => ?_)
          refine lv_aload_n hx hb dX6_countOtherTypes_32 rfl (lv_at hl 1 rfl) ?_
          refine r_gR C hW h fl_X6_15 (by decide) dX6_countOtherTypes_33 (fun b7 h => ?_)
          refine lv_iload_n hx hb dX6_countOtherTypes_36 rfl (lv_at hl 3 rfl) ?_
          refine r_iald C hW h dX6_countOtherTypes_37 (fun v8 h => ?_)
          refine r_br h (lv_icmp_eq (tgt := 44) hx hb dX6_countOtherTypes_38 (by decide)) (fun h => ?_) (fun h => ?_)
          · exact b_X6_countOtherTypes_44 C (fun hW hl h => ih hW hl h) hW (lv_sub hl [0, 1, 2, 3] rfl) h
          · refine lv_iinc (v := (x2 + 1)) (lv' := [(2, .int (x2 + 1)), (0, .ref a), (1, .ref a1), (3, .int x3)]) hx hb dX6_countOtherTypes_41 hl (k := 2) rfl rfl (by decide) rfl (fun ls hl => ?_)
            exact b_X6_countOtherTypes_44 C (fun hW hl h => ih hW hl h) hW (lv_sub hl [1, 2, 0, 3] rfl) h
theorem kd_X6_countOtherTypes {X : Mx} {r : Int32} {a : Nat} {a1 : Nat} (h : f_X6_countOtherTypes σ X a a1 = some r) : shK σ a = 5 := (grd_inv h).1
set_option maxRecDepth 20000 in
set_option maxHeartbeats 2000000 in
theorem t_X6_countOtherTypes {X : Mx} {r : Int32} {a : Nat} {a1 : Nat} (h : f_X6_countOtherTypes σ X a a1 = some r) : MtI g l yX6_countOtherTypes cX6_countOtherTypes 4 (some .int) 1 21 [.ref a, .ref a1] σ X (r, X) := by
  refine met_of mk_X6_countOtherTypes (Nat.le_of_ble_eq_true rfl) (fun p e s m args below meth c ls C hW hl => ?_)
  have hx := C.x
  have hb := C.b
  have hl : lv_has ls 4 [(0, .ref a), (1, .ref a1)] := hl
  unfold f_X6_countOtherTypes at h
  obtain ⟨hk0, h⟩ := grd_inv h
  refine lv_iconst (v := 0) hx hb dX6_countOtherTypes_0 (by decide) ?_
  refine lv_istore_n (lv' := [(2, .int 0), (0, .ref a), (1, .ref a1)]) hx hb dX6_countOtherTypes_1 rfl hl (by decide) rfl (fun ls hl => ?_)
  refine lv_iconst (v := 0) hx hb dX6_countOtherTypes_2 (by decide) ?_
  refine lv_istore_n (lv' := [(3, .int 0), (2, .int 0), (0, .ref a), (1, .ref a1)]) hx hb dX6_countOtherTypes_3 rfl hl (by decide) rfl (fun ls hl => ?_)
  exact b_X6_countOtherTypes_4 C FU hW (lv_sub hl [2, 3, 1, 0] rfl) h
theorem kd_X7_hasRoom {X : Mx} {r : Int32} {a : Nat} {x1 : Int32} (h : f_X7_hasRoom σ X a x1 = some r) : shK σ a = 6 := (grd_inv h).1
set_option maxRecDepth 20000 in
set_option maxHeartbeats 2000000 in
theorem t_X7_hasRoom {X : Mx} {r : Int32} {a : Nat} {x1 : Int32} (h : f_X7_hasRoom σ X a x1 = some r) : MtI g l yX7_hasRoom cX7_hasRoom 2 (some .boolean) 0 0 [.ref a, .int x1] σ X (r, X) := by
  refine met_of mk_X7_hasRoom (Nat.le_of_ble_eq_true rfl) (fun p e s m args below meth c ls C hW hl => ?_)
  have hx := C.x
  have hb := C.b
  have hl : lv_has ls 2 [(0, .ref a), (1, .int x1)] := hl
  unfold f_X7_hasRoom at h
  obtain ⟨hk0, h⟩ := grd_inv h
  refine lv_aload_n hx hb dX7_hasRoom_0 rfl (lv_at hl 0 rfl) ?_
  refine r_gI C hW h fl_X7_26 (by decide) dX7_hasRoom_1 (fun v1 h => ?_)
  refine lv_iload_n hx hb dX7_hasRoom_4 rfl (lv_at hl 1 rfl) ?_
  refine lv_iadd hx hb dX7_hasRoom_5 ?_
  refine lv_sipush (v := 700) hx hb dX7_hasRoom_6 (by decide) ?_
  refine r_br h (lv_icmp_gt (tgt := 16) hx hb dX7_hasRoom_9 (by decide)) (fun h => ?_) (fun h => ?_)
  · refine lv_iconst (v := 0) hx hb dX7_hasRoom_16 (by decide) ?_
    exact r_iret C hW (rt_R h) rfl dX7_hasRoom_17
  · refine lv_iconst (v := 1) hx hb dX7_hasRoom_12 (by decide) ?_
    refine lv_goto (tgt := 17) hx hb dX7_hasRoom_13 (by decide) ?_
    exact r_iret C hW (rt_R h) rfl dX7_hasRoom_17
set_option maxRecDepth 20000 in
set_option maxHeartbeats 2000000 in
theorem b_X7_append_11 {a : Nat} {x1 : Int32} (C : Cx g RX7 cX7_append 3 none p s m args meth c) {r : Mx} : ∀ (n : Nat) {X : Mx} {x2 : Int32} {H : Heap} {locs : List Loc} {ls : Array Slot} (hW : Wd g σ X s H locs) (hl : lv_has ls 3 [(0, .ref a), (1, .int x1), (2, .int x2)]) (h : f_X7_append_11 σ a x1 n X x2 = some r), W p l e (rmZ 1 21) s m args below meth c H locs 0 0 (QV g σ below args s r) (F0 m 11 ls []) := by
  have hx := C.x
  have hb := C.b
  intro n
  induction n with
  | zero =>
    intro X x2 H locs ls hW hl h
    cases (show none = some r from h)
  | succ n ih =>
    intro X x2 H locs ls hW hl h
    rw [f_X7_append_11] at h
    refine lv_iload_n hx hb dX7_append_11 rfl (lv_at hl 2 rfl) ?_
    refine r_br h (lv_if_lt (tgt := 44) hx hb dX7_append_12 (by decide)) (fun h => ?_) (fun h => ?_)
    · exact r_vret C hW (Option.some.inj h).symm dX7_append_44
    · refine lv_aload_n hx hb dX7_append_15 rfl (lv_at hl 0 rfl) ?_
      refine r_gR C hW h fl_X7_9 (by decide) dX7_append_16 (fun b1 h => ?_)
      refine lv_aload_n hx hb dX7_append_19 rfl (lv_at hl 0 rfl) ?_
      refine r_gI C hW h fl_X7_26 (by decide) dX7_append_20 (fun v2 h => ?_)
      refine lv_iload_n hx hb dX7_append_23 rfl (lv_at hl 1 rfl) ?_
      refine lv_iload_n hx hb dX7_append_24 rfl (lv_at hl 2 rfl) ?_
      refine lv_ishr hx hb dX7_append_25 ?_
      refine lv_i2b (v := (Int8.toInt32 (Int32.toInt8 (x1 >>> (x2 &&& 31))))) hx hb dX7_append_26 rfl ?_
      refine r_bast C hW h dX7_append_27 (fun X3 H locs h hW _ => ?_)
      refine lv_aload_n hx hb dX7_append_28 rfl (lv_at hl 0 rfl) ?_
      refine lv_dup hx hb dX7_append_29 rfl ?_
      refine r_gI C hW h fl_X7_26 (by decide) dX7_append_30 (fun v4 h => ?_)
      refine lv_iconst (v := 1) hx hb dX7_append_33 (by decide) ?_
      refine lv_iadd hx hb dX7_append_34 ?_
      refine r_pI C hW h pf_X7_26 (by decide) rfl rfl dX7_append_35 (fun X5 H locs h hW _ => ?_)
      refine lv_iinc (v := (x2 + (-8))) (lv' := [(2, .int (x2 + (-8))), (0, .ref a), (1, .int x1)]) hx hb dX7_append_38 hl (k := 2) rfl rfl (by decide) rfl (fun ls hl => ?_)
      refine lv_goto (tgt := 11) hx hb dX7_append_41 (by decide) ?_
      exact ih hW (lv_sub hl [1, 2, 0] rfl) h
theorem kd_X7_append {X : Mx} {r : Mx} {a : Nat} {x1 : Int32} (h : f_X7_append σ X a x1 = some r) : shK σ a = 6 := (grd_inv h).1
set_option maxRecDepth 20000 in
set_option maxHeartbeats 2000000 in
theorem t_X7_append {X : Mx} {r : Mx} {a : Nat} {x1 : Int32} (h : f_X7_append σ X a x1 = some r) : MtV g l yX7_append cX7_append 3 none 1 21 [.ref a, .int x1] σ X r := by
  refine met_of mk_X7_append (Nat.le_of_ble_eq_true rfl) (fun p e s m args below meth c ls C hW hl => ?_)
  have hx := C.x
  have hb := C.b
  have hl : lv_has ls 3 [(0, .ref a), (1, .int x1)] := hl
  unfold f_X7_append at h
  obtain ⟨hk0, h⟩ := grd_inv h
  refine lv_aload_n hx hb dX7_append_0 rfl (lv_at hl 0 rfl) ?_
  refine lv_iconst (v := 4) hx hb dX7_append_1 (by decide) ?_
  obtain ⟨v2, h1, h⟩ := bnd_inv h
  refine r_cI hW (run_V (rest := []) C hW (t_X7_hasRoom h1) mk_X7_hasRoom vk_X7_29 (kd_X7_hasRoom h1) rfl rfl (by decide) ⟨Nat.le_of_ble_eq_true rfl, Nat.le_of_ble_eq_true rfl⟩ ⟨Nat.zero_le _, Nat.zero_le _⟩ rfl rfl (Nat.le_of_ble_eq_true rfl) hl.1 dX7_append_2) (fun H locs hW _ => ?_)
  refine r_br h (lv_if_eq (tgt := 44) hx hb dX7_append_5 (by decide)) (fun h => ?_) (fun h => ?_)
  · exact r_vret C hW (Option.some.inj h).symm dX7_append_44
  · refine lv_bipush (v := 24) hx hb dX7_append_8 (by decide) ?_
    refine lv_istore_n (lv' := [(2, .int 24), (0, .ref a), (1, .int x1)]) hx hb dX7_append_10 rfl hl (by decide) rfl (fun ls hl => ?_)
    exact b_X7_append_11 C FU hW (lv_sub hl [1, 2, 0] rfl) h
theorem kd_X7_fail {X : Mx} {r : (Int32 × Mx)} {a : Nat} {x1 : Int32} {x2 : Int32} (h : f_X7_fail σ X a x1 x2 = some r) : shK σ a = 6 := (grd_inv h).1
set_option maxRecDepth 20000 in
set_option maxHeartbeats 2000000 in
theorem t_X7_fail {X : Mx} {r : (Int32 × Mx)} {a : Nat} {x1 : Int32} {x2 : Int32} (h : f_X7_fail σ X a x1 x2 = some r) : MtI g l yX7_fail cX7_fail 3 (some .int) 0 0 [.ref a, .int x1, .int x2] σ X r := by
  refine met_of mk_X7_fail (Nat.le_of_ble_eq_true rfl) (fun p e s m args below meth c ls C hW hl => ?_)
  have hx := C.x
  have hb := C.b
  have hl : lv_has ls 3 [(0, .ref a), (1, .int x1), (2, .int x2)] := hl
  unfold f_X7_fail at h
  obtain ⟨hk0, h⟩ := grd_inv h
  refine lv_aload_n hx hb dX7_fail_0 rfl (lv_at hl 0 rfl) ?_
  refine r_gI C hW h fl_X7_45 (by decide) dX7_fail_1 (fun v1 h => ?_)
  refine r_brn h (lv_if_ne (tgt := 17) hx hb dX7_fail_4 (by decide)) (fun h => ?_) (fun h => ?_)
  · refine lv_iconst (v := (-1)) hx hb dX7_fail_17 (by decide) ?_
    exact r_iret C hW (Option.some.inj h).symm rfl dX7_fail_18
  · refine lv_aload_n hx hb dX7_fail_7 rfl (lv_at hl 0 rfl) ?_
    refine lv_iload_n hx hb dX7_fail_8 rfl (lv_at hl 1 rfl) ?_
    refine r_pI C hW h pf_X7_45 (by decide) rfl rfl dX7_fail_9 (fun X2 H locs h hW _ => ?_)
    refine lv_aload_n hx hb dX7_fail_12 rfl (lv_at hl 0 rfl) ?_
    refine lv_iload_n hx hb dX7_fail_13 rfl (lv_at hl 2 rfl) ?_
    refine r_pI C hW h pf_X7_22 (by decide) rfl rfl dX7_fail_14 (fun X3 H locs h hW _ => ?_)
    refine lv_iconst (v := (-1)) hx hb dX7_fail_17 (by decide) ?_
    exact r_iret C hW (Option.some.inj h).symm rfl dX7_fail_18
set_option maxRecDepth 20000 in
set_option maxHeartbeats 2000000 in
theorem b_X7_isWord_28 {a : Nat} {a1 : Nat} (C : Cx g RX7 cX7_isWord 3 (some .boolean) p s m args meth c) {r : Int32} {X : Mx} : ∀ (n : Nat) {x2 : Int32} {H : Heap} {locs : List Loc} {ls : Array Slot} (hW : Wd g σ X s H locs) (hl : lv_has ls 3 [(0, .ref a), (1, .ref (gS g a1)), (2, .int x2)]) (h : f_X7_isWord_28 σ X a a1 n x2 = some r), W p l e (rmZ 4 85) s m args below meth c H locs 0 0 (QI g σ below args s (r, X)) (F0 m 28 ls []) := by
  have hx := C.x
  have hb := C.b
  intro n
  induction n with
  | zero =>
    intro x2 H locs ls hW hl h
    cases (show none = some r from h)
  | succ n ih =>
    intro x2 H locs ls hW hl h
    rw [f_X7_isWord_28] at h
    refine lv_iload_n hx hb dX7_isWord_28 rfl (lv_at hl 2 rfl) ?_
    refine lv_aload_n hx hb dX7_isWord_29 rfl (lv_at hl 1 rfl) ?_
    refine r_slen (w := a1) C hW h vk_X7_222 ⟨Nat.le_of_ble_eq_true rfl, Nat.le_of_ble_eq_true rfl⟩ ⟨Nat.zero_le _, Nat.zero_le _⟩ (Nat.le_of_ble_eq_true rfl) hl.1 dX7_isWord_30 (fun v1 H locs h hW _ => ?_)
    refine r_br h (lv_icmp_ge (tgt := 75) hx hb dX7_isWord_33 (by decide)) (fun h => ?_) (fun h => ?_)
    · refine lv_iconst (v := 1) hx hb dX7_isWord_75 (by decide) ?_
      exact r_iret C hW (rt_R h) rfl dX7_isWord_76
    · refine lv_aload_n hx hb dX7_isWord_36 rfl (lv_at hl 0 rfl) ?_
      refine r_gI C hW h fl_X7_104 (by decide) dX7_isWord_37 (fun v2 h => ?_)
      refine lv_iload_n hx hb dX7_isWord_40 rfl (lv_at hl 2 rfl) ?_
      refine lv_iadd hx hb dX7_isWord_41 ?_
      refine lv_sipush (v := 700) hx hb dX7_isWord_42 (by decide) ?_
      refine r_br h (lv_icmp_ge (tgt := 75) hx hb dX7_isWord_45 (by decide)) (fun h => ?_) (fun h => ?_)
      · refine lv_iconst (v := 1) hx hb dX7_isWord_75 (by decide) ?_
        exact r_iret C hW (rt_R h) rfl dX7_isWord_76
      · refine lv_aload_n hx hb dX7_isWord_48 rfl (lv_at hl 0 rfl) ?_
        refine r_gR C hW h fl_X7_9 (by decide) dX7_isWord_49 (fun b3 h => ?_)
        refine lv_aload_n hx hb dX7_isWord_52 rfl (lv_at hl 0 rfl) ?_
        refine r_gI C hW h fl_X7_104 (by decide) dX7_isWord_53 (fun v4 h => ?_)
        refine lv_iload_n hx hb dX7_isWord_56 rfl (lv_at hl 2 rfl) ?_
        refine lv_iadd hx hb dX7_isWord_57 ?_
        refine r_bald C hW h dX7_isWord_58 (fun v5 h => ?_)
        refine lv_aload_n hx hb dX7_isWord_59 rfl (lv_at hl 1 rfl) ?_
        refine lv_iload_n hx hb dX7_isWord_60 rfl (lv_at hl 2 rfl) ?_
        refine r_schr (w := a1) C hW h vk_X7_226 ⟨Nat.le_of_ble_eq_true rfl, Nat.le_of_ble_eq_true rfl⟩ ⟨Nat.zero_le _, Nat.zero_le _⟩ (Nat.le_of_ble_eq_true rfl) hl.1 dX7_isWord_61 (fun v6 H locs h hW _ => ?_)
        refine r_br h (lv_icmp_eq (tgt := 69) hx hb dX7_isWord_64 (by decide)) (fun h => ?_) (fun h => ?_)
        · refine lv_iinc (v := (x2 + 1)) (lv' := [(2, .int (x2 + 1)), (0, .ref a), (1, .ref (gS g a1))]) hx hb dX7_isWord_69 hl (k := 2) rfl rfl (by decide) rfl (fun ls hl => ?_)
          refine lv_goto (tgt := 28) hx hb dX7_isWord_72 (by decide) ?_
          exact ih hW (lv_sub hl [1, 2, 0] rfl) h
        · refine lv_iconst (v := 0) hx hb dX7_isWord_67 (by decide) ?_
          exact r_iret C hW (rt_R h) rfl dX7_isWord_68
theorem kd_X7_isWord {X : Mx} {r : Int32} {a : Nat} {a1 : Nat} (h : f_X7_isWord σ X a a1 = some r) : shK σ a = 6 := (grd_inv h).1
set_option maxRecDepth 20000 in
set_option maxHeartbeats 2000000 in
theorem t_X7_isWord {X : Mx} {r : Int32} {a : Nat} {a1 : Nat} (h : f_X7_isWord σ X a a1 = some r) : MtI g l yX7_isWord cX7_isWord 3 (some .boolean) 4 85 [.ref a, .ref (gS g a1)] σ X (r, X) := by
  refine met_of mk_X7_isWord (Nat.le_of_ble_eq_true rfl) (fun p e s m args below meth c ls C hW hl => ?_)
  have hx := C.x
  have hb := C.b
  have hl : lv_has ls 3 [(0, .ref a), (1, .ref (gS g a1))] := hl
  unfold f_X7_isWord at h
  obtain ⟨hk0, h⟩ := grd_inv h
  refine lv_aload_n hx hb dX7_isWord_0 rfl (lv_at hl 0 rfl) ?_
  refine r_gI C hW h fl_X7_64 (by decide) dX7_isWord_1 (fun v1 h => ?_)
  refine lv_iconst (v := 1) hx hb dX7_isWord_4 (by decide) ?_
  refine r_brn h (lv_icmp_ne (tgt := 24) hx hb dX7_isWord_5 (by decide)) (fun h => ?_) (fun h => ?_)
  · refine lv_iconst (v := 0) hx hb dX7_isWord_24 (by decide) ?_
    exact r_iret C hW (rt_R h) rfl dX7_isWord_25
  · refine lv_aload_n hx hb dX7_isWord_8 rfl (lv_at hl 0 rfl) ?_
    refine r_gI C hW h fl_X7_48 (by decide) dX7_isWord_9 (fun v2 h => ?_)
    refine lv_aload_n hx hb dX7_isWord_12 rfl (lv_at hl 0 rfl) ?_
    refine r_gI C hW h fl_X7_104 (by decide) dX7_isWord_13 (fun v3 h => ?_)
    refine lv_isub hx hb dX7_isWord_16 ?_
    refine lv_aload_n hx hb dX7_isWord_17 rfl (lv_at hl 1 rfl) ?_
    refine r_slen (w := a1) C hW h vk_X7_222 ⟨Nat.le_of_ble_eq_true rfl, Nat.le_of_ble_eq_true rfl⟩ ⟨Nat.zero_le _, Nat.zero_le _⟩ (Nat.le_of_ble_eq_true rfl) hl.1 dX7_isWord_18 (fun v4 H locs h hW _ => ?_)
    refine r_br h (lv_icmp_eq (tgt := 26) hx hb dX7_isWord_21 (by decide)) (fun h => ?_) (fun h => ?_)
    · refine lv_iconst (v := 0) hx hb dX7_isWord_26 (by decide) ?_
      refine lv_istore_n (lv' := [(2, .int 0), (0, .ref a), (1, .ref (gS g a1))]) hx hb dX7_isWord_27 rfl hl (by decide) rfl (fun ls hl => ?_)
      exact b_X7_isWord_28 C FU hW (lv_sub hl [1, 2, 0] rfl) h
    · refine lv_iconst (v := 0) hx hb dX7_isWord_24 (by decide) ?_
      exact r_iret C hW (rt_R h) rfl dX7_isWord_25
set_option maxRecDepth 20000 in
set_option maxHeartbeats 2000000 in
theorem b_X7_kindOf_14 {x0 : Int32} (C : Cx g RX7 cX7_kindOf 1 (some .int) p s m args meth c) {r : Int32} {X : Mx} (hW : Wd g σ X s H locs) (hl : lv_has ls 1 [(0, .int x0)]) (h : f_X7_kindOf_14 x0 = r) : W p l e (rmZ 0 0) s m args below meth c H locs 0 0 (QI g σ below args s (r, X)) (F0 m 14 ls []) := by
  have hx := C.x
  have hb := C.b
  unfold f_X7_kindOf_14 at h
  refine lv_iload_n hx hb dX7_kindOf_14 rfl (lv_at hl 0 rfl) ?_
  refine lv_bipush (v := 48) hx hb dX7_kindOf_15 (by decide) ?_
  refine r_br h (lv_icmp_lt (tgt := 30) hx hb dX7_kindOf_17 (by decide)) (fun h => ?_) (fun h => ?_)
  · refine lv_iconst (v := 3) hx hb dX7_kindOf_30 (by decide) ?_
    exact r_iret C hW (rt_T h) rfl dX7_kindOf_31
  · refine lv_iload_n hx hb dX7_kindOf_20 rfl (lv_at hl 0 rfl) ?_
    refine lv_bipush (v := 57) hx hb dX7_kindOf_21 (by decide) ?_
    refine r_br h (lv_icmp_gt (tgt := 30) hx hb dX7_kindOf_23 (by decide)) (fun h => ?_) (fun h => ?_)
    · refine lv_iconst (v := 3) hx hb dX7_kindOf_30 (by decide) ?_
      exact r_iret C hW (rt_T h) rfl dX7_kindOf_31
    · refine lv_iconst (v := 2) hx hb dX7_kindOf_26 (by decide) ?_
      refine lv_goto (tgt := 31) hx hb dX7_kindOf_27 (by decide) ?_
      exact r_iret C hW (rt_T h) rfl dX7_kindOf_31
set_option maxRecDepth 20000 in
set_option maxHeartbeats 2000000 in
theorem t_X7_kindOf {X : Mx} {x0 : Int32} : MtI g l yX7_kindOf cX7_kindOf 1 (some .int) 0 0 [.int x0] σ X (f_X7_kindOf x0, X) := by
  obtain ⟨r, h⟩ : ∃ r, f_X7_kindOf x0 = r := ⟨_, rfl⟩
  rw [h]
  refine met_of mk_X7_kindOf (Nat.le_of_ble_eq_true rfl) (fun p e s m args below meth c ls C hW hl => ?_)
  have hx := C.x
  have hb := C.b
  have hl : lv_has ls 1 [(0, .int x0)] := hl
  unfold f_X7_kindOf at h
  refine lv_iload_n hx hb dX7_kindOf_0 rfl (lv_at hl 0 rfl) ?_
  refine lv_bipush (v := 97) hx hb dX7_kindOf_1 (by decide) ?_
  refine r_br h (lv_icmp_lt (tgt := 14) hx hb dX7_kindOf_3 (by decide)) (fun h => ?_) (fun h => ?_)
  · exact b_X7_kindOf_14 C hW (lv_sub hl [0] rfl) h
  · refine lv_iload_n hx hb dX7_kindOf_6 rfl (lv_at hl 0 rfl) ?_
    refine lv_bipush (v := 122) hx hb dX7_kindOf_7 (by decide) ?_
    refine r_br h (lv_icmp_gt (tgt := 14) hx hb dX7_kindOf_9 (by decide)) (fun h => ?_) (fun h => ?_)
    · exact b_X7_kindOf_14 C hW (lv_sub hl [0] rfl) h
    · refine lv_iconst (v := 1) hx hb dX7_kindOf_12 (by decide) ?_
      exact r_iret C hW (rt_T h) rfl dX7_kindOf_13
set_option maxRecDepth 20000 in
set_option maxHeartbeats 2000000 in
theorem b_X7_step_110 {a : Nat} (C : Cx g RX7 cX7_step 1 none p s m args meth c) {r : Mx} : ∀ (n : Nat) {X : Mx} {H : Heap} {locs : List Loc} {ls : Array Slot} (hW : Wd g σ X s H locs) (hl : lv_has ls 1 [(0, .ref a)]) (h : f_X7_step_110 σ a n X = some r), W p l e (rmZ 1 20) s m args below meth c H locs 0 0 (QV g σ below args s r) (F0 m 110 ls []) := by
  have hx := C.x
  have hb := C.b
  intro n
  induction n with
  | zero =>
    intro X H locs ls hW hl h
    cases (show none = some r from h)
  | succ n ih =>
    intro X H locs ls hW hl h
    rw [f_X7_step_110] at h
    refine lv_aload_n hx hb dX7_step_110 rfl (lv_at hl 0 rfl) ?_
    refine r_gI C hW h fl_X7_64 (by decide) dX7_step_111 (fun v1 h => ?_)
    refine lv_iconst (v := 3) hx hb dX7_step_114 (by decide) ?_
    refine r_br h (lv_icmp_eq (tgt := 161) hx hb dX7_step_115 (by decide)) (fun h => ?_) (fun h => ?_)
    · exact r_vret C hW (Option.some.inj h).symm dX7_step_161
    · refine lv_aload_n hx hb dX7_step_118 rfl (lv_at hl 0 rfl) ?_
      refine r_gI C hW h fl_X7_48 (by decide) dX7_step_119 (fun v2 h => ?_)
      refine lv_aload_n hx hb dX7_step_122 rfl (lv_at hl 0 rfl) ?_
      refine r_gI C hW h fl_X7_42 (by decide) dX7_step_123 (fun v3 h => ?_)
      refine r_br h (lv_icmp_ge (tgt := 161) hx hb dX7_step_126 (by decide)) (fun h => ?_) (fun h => ?_)
      · exact r_vret C hW (Option.some.inj h).symm dX7_step_161
      · refine lv_aload_n hx hb dX7_step_129 rfl (lv_at hl 0 rfl) ?_
        refine r_gR C hW h fl_X7_9 (by decide) dX7_step_130 (fun b4 h => ?_)
        refine lv_aload_n hx hb dX7_step_133 rfl (lv_at hl 0 rfl) ?_
        refine r_gI C hW h fl_X7_48 (by decide) dX7_step_134 (fun v5 h => ?_)
        refine r_bald C hW h dX7_step_137 (fun v6 h => ?_)
        refine r_cI hW (run_S (rest := []) C hW (t_X7_kindOf (X := X)) mk_X7_kindOf sk_X7_230 ⟨Nat.le_of_ble_eq_true rfl, Nat.le_of_ble_eq_true rfl⟩ ⟨Nat.zero_le _, Nat.zero_le _⟩ rfl rfl (Nat.le_of_ble_eq_true rfl) hl.1 dX7_step_138) (fun H locs hW _ => ?_)
        refine lv_aload_n hx hb dX7_step_141 rfl (lv_at hl 0 rfl) ?_
        refine r_gI C hW h fl_X7_64 (by decide) dX7_step_142 (fun v7 h => ?_)
        refine r_brn h (lv_icmp_ne (tgt := 161) hx hb dX7_step_145 (by decide)) (fun h => ?_) (fun h => ?_)
        · exact r_vret C hW (Option.some.inj h).symm dX7_step_161
        · refine lv_aload_n hx hb dX7_step_148 rfl (lv_at hl 0 rfl) ?_
          refine lv_dup hx hb dX7_step_149 rfl ?_
          refine r_gI C hW h fl_X7_48 (by decide) dX7_step_150 (fun v8 h => ?_)
          refine lv_iconst (v := 1) hx hb dX7_step_153 (by decide) ?_
          refine lv_iadd hx hb dX7_step_154 ?_
          refine r_pI C hW h pf_X7_48 (by decide) rfl rfl dX7_step_155 (fun X9 H locs h hW _ => ?_)
          refine lv_goto (tgt := 110) hx hb dX7_step_158 (by decide) ?_
          exact ih hW (lv_sub hl [0] rfl) h
set_option maxRecDepth 20000 in
set_option maxHeartbeats 2000000 in
theorem b_X7_step_60 {a : Nat} (C : Cx g RX7 cX7_step 1 none p s m args meth c) {r : Mx} {X : Mx} (hW : Wd g σ X s H locs) (hl : lv_has ls 1 [(0, .ref a)]) (h : f_X7_step_60 σ a X = some r) : W p l e (rmZ 1 20) s m args below meth c H locs 0 0 (QV g σ below args s r) (F0 m 60 ls []) := by
  have hx := C.x
  have hb := C.b
  unfold f_X7_step_60 at h
  refine lv_aload_n hx hb dX7_step_60 rfl (lv_at hl 0 rfl) ?_
  refine lv_aload_n hx hb dX7_step_61 rfl (lv_at hl 0 rfl) ?_
  refine r_gI C hW h fl_X7_104 (by decide) dX7_step_62 (fun v1 h => ?_)
  refine r_pI C hW h pf_X7_48 (by decide) rfl rfl dX7_step_65 (fun X2 H locs h hW _ => ?_)
  refine lv_aload_n hx hb dX7_step_68 rfl (lv_at hl 0 rfl) ?_
  refine lv_iconst (v := 0) hx hb dX7_step_69 (by decide) ?_
  refine r_pI C hW h pf_X7_64 (by decide) rfl rfl dX7_step_70 (fun X3 H locs h hW _ => ?_)
  refine lv_aload_n hx hb dX7_step_73 rfl (lv_at hl 0 rfl) ?_
  refine r_gI C hW h fl_X7_104 (by decide) dX7_step_74 (fun v4 h => ?_)
  refine lv_aload_n hx hb dX7_step_77 rfl (lv_at hl 0 rfl) ?_
  refine r_gI C hW h fl_X7_42 (by decide) dX7_step_78 (fun v5 h => ?_)
  refine r_br h (lv_icmp_ge (tgt := 161) hx hb dX7_step_81 (by decide)) (fun h => ?_) (fun h => ?_)
  · exact r_vret C hW (Option.some.inj h).symm dX7_step_161
  · refine lv_aload_n hx hb dX7_step_84 rfl (lv_at hl 0 rfl) ?_
    refine lv_aload_n hx hb dX7_step_85 rfl (lv_at hl 0 rfl) ?_
    refine r_gR C hW h fl_X7_9 (by decide) dX7_step_86 (fun b6 h => ?_)
    refine lv_aload_n hx hb dX7_step_89 rfl (lv_at hl 0 rfl) ?_
    refine r_gI C hW h fl_X7_104 (by decide) dX7_step_90 (fun v7 h => ?_)
    refine r_bald C hW h dX7_step_93 (fun v8 h => ?_)
    refine r_cI hW (run_S (rest := [.ref a]) C hW (t_X7_kindOf (X := X3)) mk_X7_kindOf sk_X7_230 ⟨Nat.le_of_ble_eq_true rfl, Nat.le_of_ble_eq_true rfl⟩ ⟨Nat.zero_le _, Nat.zero_le _⟩ rfl rfl (Nat.le_of_ble_eq_true rfl) hl.1 dX7_step_94) (fun H locs hW _ => ?_)
    refine r_pI C hW h pf_X7_64 (by decide) rfl rfl dX7_step_97 (fun X9 H locs h hW _ => ?_)
    refine lv_aload_n hx hb dX7_step_100 rfl (lv_at hl 0 rfl) ?_
    refine lv_dup hx hb dX7_step_101 rfl ?_
    refine r_gI C hW h fl_X7_48 (by decide) dX7_step_102 (fun v10 h => ?_)
    refine lv_iconst (v := 1) hx hb dX7_step_105 (by decide) ?_
    refine lv_iadd hx hb dX7_step_106 ?_
    refine r_pI C hW h pf_X7_48 (by decide) rfl rfl dX7_step_107 (fun X11 H locs h hW _ => ?_)
    exact b_X7_step_110 C FU hW (lv_sub hl [0] rfl) h
set_option maxRecDepth 20000 in
set_option maxHeartbeats 2000000 in
theorem b_X7_step_47 {k8 : Mx → Option Mx} {a : Nat} (C : Cx g RX7 cX7_step 1 none p s m args meth c) {r : Mx} {X : Mx} (hk8 : ∀ {H' : Heap} {locs' : List Loc} {ls' : Array Slot} {X' : Mx}, Wd g σ X' s H' locs' → lv_has ls' 1 [(0, .ref a)] → k8 X' = some r → W p l e (rmZ 1 20) s m args below meth c H' locs' 0 0 (QV g σ below args s r) (F0 m 8 ls' [])) (hW : Wd g σ X s H locs) (hl : lv_has ls 1 [(0, .ref a)]) (h : f_X7_step_47 k8 σ a X = some r) : W p l e (rmZ 1 20) s m args below meth c H locs 0 0 (QV g σ below args s r) (F0 m 47 ls []) := by
  have hx := C.x
  have hb := C.b
  unfold f_X7_step_47 at h
  refine lv_aload_n hx hb dX7_step_47 rfl (lv_at hl 0 rfl) ?_
  refine lv_dup hx hb dX7_step_48 rfl ?_
  refine r_gI C hW h fl_X7_104 (by decide) dX7_step_49 (fun v1 h => ?_)
  refine lv_iconst (v := 1) hx hb dX7_step_52 (by decide) ?_
  refine lv_iadd hx hb dX7_step_53 ?_
  refine r_pI C hW h pf_X7_104 (by decide) rfl rfl dX7_step_54 (fun X2 H locs h hW _ => ?_)
  refine lv_goto (tgt := 8) hx hb dX7_step_57 (by decide) ?_
  exact hk8 hW (lv_sub hl [0] rfl) h
set_option maxRecDepth 20000 in
set_option maxHeartbeats 2000000 in
theorem b_X7_step_8 {a : Nat} (C : Cx g RX7 cX7_step 1 none p s m args meth c) {r : Mx} : ∀ (n : Nat) {X : Mx} {H : Heap} {locs : List Loc} {ls : Array Slot} (hW : Wd g σ X s H locs) (hl : lv_has ls 1 [(0, .ref a)]) (h : f_X7_step_8 σ a n X = some r), W p l e (rmZ 1 20) s m args below meth c H locs 0 0 (QV g σ below args s r) (F0 m 8 ls []) := by
  have hx := C.x
  have hb := C.b
  intro n
  induction n with
  | zero =>
    intro X H locs ls hW hl h
    cases (show none = some r from h)
  | succ n ih =>
    intro X H locs ls hW hl h
    rw [f_X7_step_8] at h
    refine lv_aload_n hx hb dX7_step_8 rfl (lv_at hl 0 rfl) ?_
    refine r_gI C hW h fl_X7_104 (by decide) dX7_step_9 (fun v1 h => ?_)
    refine lv_aload_n hx hb dX7_step_12 rfl (lv_at hl 0 rfl) ?_
    refine r_gI C hW h fl_X7_42 (by decide) dX7_step_13 (fun v2 h => ?_)
    refine r_br h (lv_icmp_ge (tgt := 60) hx hb dX7_step_16 (by decide)) (fun h => ?_) (fun h => ?_)
    · exact b_X7_step_60 C hW (lv_sub hl [0] rfl) h
    · refine lv_aload_n hx hb dX7_step_19 rfl (lv_at hl 0 rfl) ?_
      refine r_gR C hW h fl_X7_9 (by decide) dX7_step_20 (fun b3 h => ?_)
      refine lv_aload_n hx hb dX7_step_23 rfl (lv_at hl 0 rfl) ?_
      refine r_gI C hW h fl_X7_104 (by decide) dX7_step_24 (fun v4 h => ?_)
      refine r_bald C hW h dX7_step_27 (fun v5 h => ?_)
      refine lv_bipush (v := 32) hx hb dX7_step_28 (by decide) ?_
      refine r_br h (lv_icmp_eq (tgt := 47) hx hb dX7_step_30 (by decide)) (fun h => ?_) (fun h => ?_)
      · exact b_X7_step_47 C (fun hW hl h => ih hW hl h) hW (lv_sub hl [0] rfl) h
      · refine lv_aload_n hx hb dX7_step_33 rfl (lv_at hl 0 rfl) ?_
        refine r_gR C hW h fl_X7_9 (by decide) dX7_step_34 (fun b6 h => ?_)
        refine lv_aload_n hx hb dX7_step_37 rfl (lv_at hl 0 rfl) ?_
        refine r_gI C hW h fl_X7_104 (by decide) dX7_step_38 (fun v7 h => ?_)
        refine r_bald C hW h dX7_step_41 (fun v8 h => ?_)
        refine lv_bipush (v := 10) hx hb dX7_step_42 (by decide) ?_
        refine r_brn h (lv_icmp_ne (tgt := 60) hx hb dX7_step_44 (by decide)) (fun h => ?_) (fun h => ?_)
        · exact b_X7_step_60 C hW (lv_sub hl [0] rfl) h
        · exact b_X7_step_47 C (fun hW hl h => ih hW hl h) hW (lv_sub hl [0] rfl) h
theorem kd_X7_step {X : Mx} {r : Mx} {a : Nat} (h : f_X7_step σ X a = some r) : shK σ a = 6 := (grd_inv h).1
set_option maxRecDepth 20000 in
set_option maxHeartbeats 2000000 in
theorem t_X7_step {X : Mx} {r : Mx} {a : Nat} (h : f_X7_step σ X a = some r) : MtV g l yX7_step cX7_step 1 none 1 20 [.ref a] σ X r := by
  refine met_of mk_X7_step (Nat.le_of_ble_eq_true rfl) (fun p e s m args below meth c ls C hW hl => ?_)
  have hx := C.x
  have hb := C.b
  have hl : lv_has ls 1 [(0, .ref a)] := hl
  unfold f_X7_step at h
  obtain ⟨hk0, h⟩ := grd_inv h
  refine lv_aload_n hx hb dX7_step_0 rfl (lv_at hl 0 rfl) ?_
  refine lv_aload_n hx hb dX7_step_1 rfl (lv_at hl 0 rfl) ?_
  refine r_gI C hW h fl_X7_48 (by decide) dX7_step_2 (fun v1 h => ?_)
  refine r_pI C hW h pf_X7_104 (by decide) rfl rfl dX7_step_5 (fun X2 H locs h hW _ => ?_)
  exact b_X7_step_8 C FU hW (lv_sub hl [0] rfl) h
theorem kd_X7_takeHead {X : Mx} {r : Mx} {a : Nat} {x1 : Int32} {x2 : Int32} (h : f_X7_takeHead σ X a x1 x2 = some r) : shK σ a = 6 := (grd_inv h).1
set_option maxRecDepth 20000 in
set_option maxHeartbeats 2000000 in
theorem t_X7_takeHead {X : Mx} {r : Mx} {a : Nat} {x1 : Int32} {x2 : Int32} (h : f_X7_takeHead σ X a x1 x2 = some r) : MtV g l yX7_takeHead cX7_takeHead 3 none 2 40 [.ref a, .int x1, .int x2] σ X r := by
  refine met_of mk_X7_takeHead (Nat.le_of_ble_eq_true rfl) (fun p e s m args below meth c ls C hW hl => ?_)
  have hx := C.x
  have hb := C.b
  have hl : lv_has ls 3 [(0, .ref a), (1, .int x1), (2, .int x2)] := hl
  unfold f_X7_takeHead at h
  obtain ⟨hk0, h⟩ := grd_inv h
  refine lv_iload_n hx hb dX7_takeHead_0 rfl (lv_at hl 1 rfl) ?_
  refine r_brn h (lv_if_ne (tgt := 17) hx hb dX7_takeHead_1 (by decide)) (fun h => ?_) (fun h => ?_)
  · refine lv_iload_n hx hb dX7_takeHead_17 rfl (lv_at hl 2 rfl) ?_
    refine r_brn h (lv_if_ne (tgt := 34) hx hb dX7_takeHead_18 (by decide)) (fun h => ?_) (fun h => ?_)
    · refine lv_aload_n hx hb dX7_takeHead_34 rfl (lv_at hl 0 rfl) ?_
      obtain ⟨X2, h1, h⟩ := bnd_inv h
      refine r_cV hW (run_V (rest := []) C hW (t_X7_step h1) mk_X7_step vk_X7_61 (kd_X7_step h1) rfl rfl (by decide) ⟨Nat.le_of_ble_eq_true rfl, Nat.le_of_ble_eq_true rfl⟩ ⟨Nat.zero_le _, Nat.zero_le _⟩ rfl rfl (Nat.le_of_ble_eq_true rfl) hl.1 dX7_takeHead_35) (fun H locs hW _ => ?_)
      exact r_vret C hW (Option.some.inj h).symm dX7_takeHead_38
    · refine lv_aload_n hx hb dX7_takeHead_21 rfl (lv_at hl 0 rfl) ?_
      refine lv_iconst (v := 2) hx hb dX7_takeHead_22 (by decide) ?_
      refine lv_aload_n hx hb dX7_takeHead_23 rfl (lv_at hl 0 rfl) ?_
      refine r_gI C hW h fl_X7_104 (by decide) dX7_takeHead_24 (fun v3 h => ?_)
      obtain ⟨v6, X5, h4, h⟩ := bnd2_inv h
      refine r_cI hW (run_V (rest := []) C hW (t_X7_fail h4) mk_X7_fail vk_X7_107 (kd_X7_fail h4) rfl rfl (by decide) ⟨Nat.le_of_ble_eq_true rfl, Nat.le_of_ble_eq_true rfl⟩ ⟨Nat.zero_le _, Nat.zero_le _⟩ rfl rfl (Nat.le_of_ble_eq_true rfl) hl.1 dX7_takeHead_27) (fun H locs hW _ => ?_)
      refine lv_pop hx hb dX7_takeHead_30 rfl ?_
      refine lv_goto (tgt := 38) hx hb dX7_takeHead_31 (by decide) ?_
      exact r_vret C hW (Option.some.inj h).symm dX7_takeHead_38
  · refine lv_aload_n hx hb dX7_takeHead_4 rfl (lv_at hl 0 rfl) ?_
    refine lv_iconst (v := 1) hx hb dX7_takeHead_5 (by decide) ?_
    refine lv_aload_n hx hb dX7_takeHead_6 rfl (lv_at hl 0 rfl) ?_
    refine r_gI C hW h fl_X7_104 (by decide) dX7_takeHead_7 (fun v7 h => ?_)
    obtain ⟨v10, X9, h8, h⟩ := bnd2_inv h
    refine r_cI hW (run_V (rest := []) C hW (t_X7_fail h8) mk_X7_fail vk_X7_107 (kd_X7_fail h8) rfl rfl (by decide) ⟨Nat.le_of_ble_eq_true rfl, Nat.le_of_ble_eq_true rfl⟩ ⟨Nat.zero_le _, Nat.zero_le _⟩ rfl rfl (Nat.le_of_ble_eq_true rfl) hl.1 dX7_takeHead_10) (fun H locs hW _ => ?_)
    refine lv_pop hx hb dX7_takeHead_13 rfl ?_
    refine lv_goto (tgt := 38) hx hb dX7_takeHead_14 (by decide) ?_
    exact r_vret C hW (Option.some.inj h).symm dX7_takeHead_38
theorem kd_X7_passed {X : Mx} {r : (Int32 × Mx)} {a : Nat} {x1 : Int32} (h : f_X7_passed σ X a x1 = some r) : shK σ a = 6 := (grd_inv h).1
set_option maxRecDepth 20000 in
set_option maxHeartbeats 2000000 in
theorem t_X7_passed {X : Mx} {r : (Int32 × Mx)} {a : Nat} {x1 : Int32} (h : f_X7_passed σ X a x1 = some r) : MtI g l yX7_passed cX7_passed 2 (some .int) 2 40 [.ref a, .int x1] σ X r := by
  refine met_of mk_X7_passed (Nat.le_of_ble_eq_true rfl) (fun p e s m args below meth c ls C hW hl => ?_)
  have hx := C.x
  have hb := C.b
  have hl : lv_has ls 2 [(0, .ref a), (1, .int x1)] := hl
  unfold f_X7_passed at h
  obtain ⟨hk0, h⟩ := grd_inv h
  refine lv_aload_n hx hb dX7_passed_0 rfl (lv_at hl 0 rfl) ?_
  obtain ⟨X2, h1, h⟩ := bnd_inv h
  refine r_cV hW (run_V (rest := []) C hW (t_X7_step h1) mk_X7_step vk_X7_61 (kd_X7_step h1) rfl rfl (by decide) ⟨Nat.le_of_ble_eq_true rfl, Nat.le_of_ble_eq_true rfl⟩ ⟨Nat.zero_le _, Nat.zero_le _⟩ rfl rfl (Nat.le_of_ble_eq_true rfl) hl.1 dX7_passed_1) (fun H locs hW _ => ?_)
  refine lv_iload_n hx hb dX7_passed_4 rfl (lv_at hl 1 rfl) ?_
  exact r_iret C hW (Option.some.inj h).symm rfl dX7_passed_5
set_option maxRecDepth 20000 in
set_option maxHeartbeats 2000000 in
theorem b_X7_takeName_21 {a : Nat} (C : Cx g RX7 cX7_takeName 1 (some .int) p s m args meth c) {r : (Int32 × Mx)} {X : Mx} (hW : Wd g σ X s H locs) (hl : lv_has ls 1 [(0, .ref a)]) (h : f_X7_takeName_21 σ a X = some r) : W p l e (rmZ 3 61) s m args below meth c H locs 0 0 (QI g σ below args s r) (F0 m 21 ls []) := by
  have hx := C.x
  have hb := C.b
  unfold f_X7_takeName_21 at h
  refine lv_aload_n hx hb dX7_takeName_21 rfl (lv_at hl 0 rfl) ?_
  refine lv_iconst (v := 1) hx hb dX7_takeName_22 (by decide) ?_
  refine lv_aload_n hx hb dX7_takeName_23 rfl (lv_at hl 0 rfl) ?_
  refine r_gI C hW h fl_X7_104 (by decide) dX7_takeName_24 (fun v1 h => ?_)
  obtain ⟨v4, X3, h2, h⟩ := bnd2_inv h
  refine r_cI hW (run_V (rest := []) C hW (t_X7_fail h2) mk_X7_fail vk_X7_107 (kd_X7_fail h2) rfl rfl (by decide) ⟨Nat.le_of_ble_eq_true rfl, Nat.le_of_ble_eq_true rfl⟩ ⟨Nat.zero_le _, Nat.zero_le _⟩ rfl rfl (Nat.le_of_ble_eq_true rfl) hl.1 dX7_takeName_27) (fun H locs hW _ => ?_)
  exact r_iret C hW (Option.some.inj h).symm rfl dX7_takeName_30
theorem kd_X7_takeName {X : Mx} {r : (Int32 × Mx)} {a : Nat} (h : f_X7_takeName σ X a = some r) : shK σ a = 6 := (grd_inv h).1
set_option maxRecDepth 20000 in
set_option maxHeartbeats 2000000 in
theorem t_X7_takeName {X : Mx} {r : (Int32 × Mx)} {a : Nat} (h : f_X7_takeName σ X a = some r) : MtI g l yX7_takeName cX7_takeName 1 (some .int) 3 61 [.ref a] σ X r := by
  refine met_of mk_X7_takeName (Nat.le_of_ble_eq_true rfl) (fun p e s m args below meth c ls C hW hl => ?_)
  have hx := C.x
  have hb := C.b
  have hl : lv_has ls 1 [(0, .ref a)] := hl
  unfold f_X7_takeName at h
  obtain ⟨hk0, h⟩ := grd_inv h
  refine lv_aload_n hx hb dX7_takeName_0 rfl (lv_at hl 0 rfl) ?_
  refine r_gI C hW h fl_X7_64 (by decide) dX7_takeName_1 (fun v1 h => ?_)
  refine lv_iconst (v := 1) hx hb dX7_takeName_4 (by decide) ?_
  refine r_brn h (lv_icmp_ne (tgt := 21) hx hb dX7_takeName_5 (by decide)) (fun h => ?_) (fun h => ?_)
  · exact b_X7_takeName_21 C hW (lv_sub hl [0] rfl) h
  · refine lv_aload_n hx hb dX7_takeName_8 rfl (lv_at hl 0 rfl) ?_
    refine r_gI C hW h fl_X7_48 (by decide) dX7_takeName_9 (fun v2 h => ?_)
    refine lv_aload_n hx hb dX7_takeName_12 rfl (lv_at hl 0 rfl) ?_
    refine r_gI C hW h fl_X7_104 (by decide) dX7_takeName_13 (fun v3 h => ?_)
    refine lv_isub hx hb dX7_takeName_16 ?_
    refine lv_iconst (v := 1) hx hb dX7_takeName_17 (by decide) ?_
    refine r_br h (lv_icmp_eq (tgt := 31) hx hb dX7_takeName_18 (by decide)) (fun h => ?_) (fun h => ?_)
    · refine lv_aload_n hx hb dX7_takeName_31 rfl (lv_at hl 0 rfl) ?_
      refine lv_aload_n hx hb dX7_takeName_32 rfl (lv_at hl 0 rfl) ?_
      refine r_gR C hW h fl_X7_9 (by decide) dX7_takeName_33 (fun b4 h => ?_)
      refine lv_aload_n hx hb dX7_takeName_36 rfl (lv_at hl 0 rfl) ?_
      refine r_gI C hW h fl_X7_104 (by decide) dX7_takeName_37 (fun v5 h => ?_)
      refine r_bald C hW h dX7_takeName_40 (fun v6 h => ?_)
      refine lv_bipush (v := 97) hx hb dX7_takeName_41 (by decide) ?_
      refine lv_isub hx hb dX7_takeName_43 ?_
      obtain ⟨v9, X8, h7, h⟩ := bnd2_inv h
      refine r_cI hW (run_V (rest := []) C hW (t_X7_passed h7) mk_X7_passed vk_X7_207 (kd_X7_passed h7) rfl rfl (by decide) ⟨Nat.le_of_ble_eq_true rfl, Nat.le_of_ble_eq_true rfl⟩ ⟨Nat.zero_le _, Nat.zero_le _⟩ rfl rfl (Nat.le_of_ble_eq_true rfl) hl.1 dX7_takeName_44) (fun H locs hW _ => ?_)
      exact r_iret C hW (Option.some.inj h).symm rfl dX7_takeName_47
    · exact b_X7_takeName_21 C hW (lv_sub hl [0] rfl) h
theorem kd_X7_isSign {X : Mx} {r : Int32} {a : Nat} {x1 : Int32} (h : f_X7_isSign σ X a x1 = some r) : shK σ a = 6 := (grd_inv h).1
set_option maxRecDepth 20000 in
set_option maxHeartbeats 2000000 in
theorem t_X7_isSign {X : Mx} {r : Int32} {a : Nat} {x1 : Int32} (h : f_X7_isSign σ X a x1 = some r) : MtI g l yX7_isSign cX7_isSign 2 (some .boolean) 0 0 [.ref a, .int x1] σ X (r, X) := by
  refine met_of mk_X7_isSign (Nat.le_of_ble_eq_true rfl) (fun p e s m args below meth c ls C hW hl => ?_)
  have hx := C.x
  have hb := C.b
  have hl : lv_has ls 2 [(0, .ref a), (1, .int x1)] := hl
  unfold f_X7_isSign at h
  obtain ⟨hk0, h⟩ := grd_inv h
  refine lv_aload_n hx hb dX7_isSign_0 rfl (lv_at hl 0 rfl) ?_
  refine r_gI C hW h fl_X7_64 (by decide) dX7_isSign_1 (fun v1 h => ?_)
  refine lv_iconst (v := 3) hx hb dX7_isSign_4 (by decide) ?_
  refine r_brn h (lv_icmp_ne (tgt := 35) hx hb dX7_isSign_5 (by decide)) (fun h => ?_) (fun h => ?_)
  · refine lv_iconst (v := 0) hx hb dX7_isSign_35 (by decide) ?_
    exact r_iret C hW (rt_R h) rfl dX7_isSign_36
  · refine lv_aload_n hx hb dX7_isSign_8 rfl (lv_at hl 0 rfl) ?_
    refine r_gI C hW h fl_X7_104 (by decide) dX7_isSign_9 (fun v2 h => ?_)
    refine lv_sipush (v := 700) hx hb dX7_isSign_12 (by decide) ?_
    refine r_br h (lv_icmp_ge (tgt := 35) hx hb dX7_isSign_15 (by decide)) (fun h => ?_) (fun h => ?_)
    · refine lv_iconst (v := 0) hx hb dX7_isSign_35 (by decide) ?_
      exact r_iret C hW (rt_R h) rfl dX7_isSign_36
    · refine lv_aload_n hx hb dX7_isSign_18 rfl (lv_at hl 0 rfl) ?_
      refine r_gR C hW h fl_X7_9 (by decide) dX7_isSign_19 (fun b3 h => ?_)
      refine lv_aload_n hx hb dX7_isSign_22 rfl (lv_at hl 0 rfl) ?_
      refine r_gI C hW h fl_X7_104 (by decide) dX7_isSign_23 (fun v4 h => ?_)
      refine r_bald C hW h dX7_isSign_26 (fun v5 h => ?_)
      refine lv_iload_n hx hb dX7_isSign_27 rfl (lv_at hl 1 rfl) ?_
      refine r_brn h (lv_icmp_ne (tgt := 35) hx hb dX7_isSign_28 (by decide)) (fun h => ?_) (fun h => ?_)
      · refine lv_iconst (v := 0) hx hb dX7_isSign_35 (by decide) ?_
        exact r_iret C hW (rt_R h) rfl dX7_isSign_36
      · refine lv_iconst (v := 1) hx hb dX7_isSign_31 (by decide) ?_
        refine lv_goto (tgt := 36) hx hb dX7_isSign_32 (by decide) ?_
        exact r_iret C hW (rt_R h) rfl dX7_isSign_36
theorem kd_X7_takeSemicolon {X : Mx} {r : Mx} {a : Nat} (h : f_X7_takeSemicolon σ X a = some r) : shK σ a = 6 := (grd_inv h).1
set_option maxRecDepth 20000 in
set_option maxHeartbeats 2000000 in
theorem t_X7_takeSemicolon {X : Mx} {r : Mx} {a : Nat} (h : f_X7_takeSemicolon σ X a = some r) : MtV g l yX7_takeSemicolon cX7_takeSemicolon 1 none 2 40 [.ref a] σ X r := by
  refine met_of mk_X7_takeSemicolon (Nat.le_of_ble_eq_true rfl) (fun p e s m args below meth c ls C hW hl => ?_)
  have hx := C.x
  have hb := C.b
  have hl : lv_has ls 1 [(0, .ref a)] := hl
  unfold f_X7_takeSemicolon at h
  obtain ⟨hk0, h⟩ := grd_inv h
  refine lv_aload_n hx hb dX7_takeSemicolon_0 rfl (lv_at hl 0 rfl) ?_
  refine lv_bipush (v := 59) hx hb dX7_takeSemicolon_1 (by decide) ?_
  obtain ⟨v2, h1, h⟩ := bnd_inv h
  refine r_cI hW (run_V (rest := []) C hW (t_X7_isSign h1) mk_X7_isSign vk_X7_218 (kd_X7_isSign h1) rfl rfl (by decide) ⟨Nat.le_of_ble_eq_true rfl, Nat.le_of_ble_eq_true rfl⟩ ⟨Nat.zero_le _, Nat.zero_le _⟩ rfl rfl (Nat.le_of_ble_eq_true rfl) hl.1 dX7_takeSemicolon_3) (fun H locs hW _ => ?_)
  refine r_br h (lv_if_eq (tgt := 16) hx hb dX7_takeSemicolon_6 (by decide)) (fun h => ?_) (fun h => ?_)
  · refine lv_aload_n hx hb dX7_takeSemicolon_16 rfl (lv_at hl 0 rfl) ?_
    refine lv_iconst (v := 1) hx hb dX7_takeSemicolon_17 (by decide) ?_
    refine lv_aload_n hx hb dX7_takeSemicolon_18 rfl (lv_at hl 0 rfl) ?_
    refine r_gI C hW h fl_X7_104 (by decide) dX7_takeSemicolon_19 (fun v3 h => ?_)
    obtain ⟨v6, X5, h4, h⟩ := bnd2_inv h
    refine r_cI hW (run_V (rest := []) C hW (t_X7_fail h4) mk_X7_fail vk_X7_107 (kd_X7_fail h4) rfl rfl (by decide) ⟨Nat.le_of_ble_eq_true rfl, Nat.le_of_ble_eq_true rfl⟩ ⟨Nat.zero_le _, Nat.zero_le _⟩ rfl rfl (Nat.le_of_ble_eq_true rfl) hl.1 dX7_takeSemicolon_22) (fun H locs hW _ => ?_)
    refine lv_pop hx hb dX7_takeSemicolon_25 rfl ?_
    exact r_vret C hW (Option.some.inj h).symm dX7_takeSemicolon_26
  · refine lv_aload_n hx hb dX7_takeSemicolon_9 rfl (lv_at hl 0 rfl) ?_
    obtain ⟨X8, h7, h⟩ := bnd_inv h
    refine r_cV hW (run_V (rest := []) C hW (t_X7_step h7) mk_X7_step vk_X7_61 (kd_X7_step h7) rfl rfl (by decide) ⟨Nat.le_of_ble_eq_true rfl, Nat.le_of_ble_eq_true rfl⟩ ⟨Nat.zero_le _, Nat.zero_le _⟩ rfl rfl (Nat.le_of_ble_eq_true rfl) hl.1 dX7_takeSemicolon_10) (fun H locs hW _ => ?_)
    refine lv_goto (tgt := 26) hx hb dX7_takeSemicolon_13 (by decide) ?_
    exact r_vret C hW (Option.some.inj h).symm dX7_takeSemicolon_26
theorem kd_X7_takeType {X : Mx} {r : (Int32 × Mx)} {a : Nat} (h : f_X7_takeType σ X a = some r) : shK σ a = 6 := (grd_inv h).1
set_option maxRecDepth 20000 in
set_option maxHeartbeats 2000000 in
theorem t_X7_takeType {X : Mx} {r : (Int32 × Mx)} {a : Nat} (h : f_X7_takeType σ X a = some r) : MtI g l yX7_takeType cX7_takeType 1 (some .int) 5 107 [.ref a] σ X r := by
  refine met_of mk_X7_takeType (Nat.le_of_ble_eq_true rfl) (fun p e s m args below meth c ls C hW hl => ?_)
  have hx := C.x
  have hb := C.b
  have hl : lv_has ls 1 [(0, .ref a)] := hl
  unfold f_X7_takeType at h
  obtain ⟨hk0, h⟩ := grd_inv h
  refine lv_aload_n hx hb dX7_takeType_0 rfl (lv_at hl 0 rfl) ?_
  refine r_ldcS (w := 14) C rfl (by decide) rfl dX7_takeType_1 ?_
  obtain ⟨v2, h1, h⟩ := bnd_inv h
  refine r_cI hW (run_V (rest := []) C hW (t_X7_isWord h1) mk_X7_isWord vk_X7_75 (kd_X7_isWord h1) rfl rfl (by decide) ⟨Nat.le_of_ble_eq_true rfl, Nat.le_of_ble_eq_true rfl⟩ ⟨Nat.zero_le _, Nat.zero_le _⟩ rfl rfl (Nat.le_of_ble_eq_true rfl) hl.1 dX7_takeType_3) (fun H locs hW _ => ?_)
  refine r_br h (lv_if_eq (tgt := 15) hx hb dX7_takeType_6 (by decide)) (fun h => ?_) (fun h => ?_)
  · refine lv_aload_n hx hb dX7_takeType_15 rfl (lv_at hl 0 rfl) ?_
    refine r_ldcS (w := 15) C rfl (by decide) rfl dX7_takeType_16 ?_
    obtain ⟨v4, h3, h⟩ := bnd_inv h
    refine r_cI hW (run_V (rest := []) C hW (t_X7_isWord h3) mk_X7_isWord vk_X7_75 (kd_X7_isWord h3) rfl rfl (by decide) ⟨Nat.le_of_ble_eq_true rfl, Nat.le_of_ble_eq_true rfl⟩ ⟨Nat.zero_le _, Nat.zero_le _⟩ rfl rfl (Nat.le_of_ble_eq_true rfl) hl.1 dX7_takeType_18) (fun H locs hW _ => ?_)
    refine r_br h (lv_if_eq (tgt := 30) hx hb dX7_takeType_21 (by decide)) (fun h => ?_) (fun h => ?_)
    · refine lv_aload_n hx hb dX7_takeType_30 rfl (lv_at hl 0 rfl) ?_
      refine r_ldcS (w := 16) C rfl (by decide) rfl dX7_takeType_31 ?_
      obtain ⟨v6, h5, h⟩ := bnd_inv h
      refine r_cI hW (run_V (rest := []) C hW (t_X7_isWord h5) mk_X7_isWord vk_X7_75 (kd_X7_isWord h5) rfl rfl (by decide) ⟨Nat.le_of_ble_eq_true rfl, Nat.le_of_ble_eq_true rfl⟩ ⟨Nat.zero_le _, Nat.zero_le _⟩ rfl rfl (Nat.le_of_ble_eq_true rfl) hl.1 dX7_takeType_33) (fun H locs hW _ => ?_)
      refine r_br h (lv_if_eq (tgt := 45) hx hb dX7_takeType_36 (by decide)) (fun h => ?_) (fun h => ?_)
      · refine lv_aload_n hx hb dX7_takeType_45 rfl (lv_at hl 0 rfl) ?_
        refine r_ldcS (w := 17) C rfl (by decide) rfl dX7_takeType_46 ?_
        obtain ⟨v8, h7, h⟩ := bnd_inv h
        refine r_cI hW (run_V (rest := []) C hW (t_X7_isWord h7) mk_X7_isWord vk_X7_75 (kd_X7_isWord h7) rfl rfl (by decide) ⟨Nat.le_of_ble_eq_true rfl, Nat.le_of_ble_eq_true rfl⟩ ⟨Nat.zero_le _, Nat.zero_le _⟩ rfl rfl (Nat.le_of_ble_eq_true rfl) hl.1 dX7_takeType_48) (fun H locs hW _ => ?_)
        refine r_br h (lv_if_eq (tgt := 60) hx hb dX7_takeType_51 (by decide)) (fun h => ?_) (fun h => ?_)
        · refine lv_aload_n hx hb dX7_takeType_60 rfl (lv_at hl 0 rfl) ?_
          refine lv_iconst (v := 1) hx hb dX7_takeType_61 (by decide) ?_
          refine lv_aload_n hx hb dX7_takeType_62 rfl (lv_at hl 0 rfl) ?_
          refine r_gI C hW h fl_X7_104 (by decide) dX7_takeType_63 (fun v9 h => ?_)
          obtain ⟨v12, X11, h10, h⟩ := bnd2_inv h
          refine r_cI hW (run_V (rest := []) C hW (t_X7_fail h10) mk_X7_fail vk_X7_107 (kd_X7_fail h10) rfl rfl (by decide) ⟨Nat.le_of_ble_eq_true rfl, Nat.le_of_ble_eq_true rfl⟩ ⟨Nat.zero_le _, Nat.zero_le _⟩ rfl rfl (Nat.le_of_ble_eq_true rfl) hl.1 dX7_takeType_66) (fun H locs hW _ => ?_)
          exact r_iret C hW (Option.some.inj h).symm rfl dX7_takeType_69
        · refine lv_aload_n hx hb dX7_takeType_54 rfl (lv_at hl 0 rfl) ?_
          refine lv_iconst (v := 3) hx hb dX7_takeType_55 (by decide) ?_
          obtain ⟨v15, X14, h13, h⟩ := bnd2_inv h
          refine r_cI hW (run_V (rest := []) C hW (t_X7_passed h13) mk_X7_passed vk_X7_207 (kd_X7_passed h13) rfl rfl (by decide) ⟨Nat.le_of_ble_eq_true rfl, Nat.le_of_ble_eq_true rfl⟩ ⟨Nat.zero_le _, Nat.zero_le _⟩ rfl rfl (Nat.le_of_ble_eq_true rfl) hl.1 dX7_takeType_56) (fun H locs hW _ => ?_)
          exact r_iret C hW (Option.some.inj h).symm rfl dX7_takeType_59
      · refine lv_aload_n hx hb dX7_takeType_39 rfl (lv_at hl 0 rfl) ?_
        refine lv_iconst (v := 2) hx hb dX7_takeType_40 (by decide) ?_
        obtain ⟨v18, X17, h16, h⟩ := bnd2_inv h
        refine r_cI hW (run_V (rest := []) C hW (t_X7_passed h16) mk_X7_passed vk_X7_207 (kd_X7_passed h16) rfl rfl (by decide) ⟨Nat.le_of_ble_eq_true rfl, Nat.le_of_ble_eq_true rfl⟩ ⟨Nat.zero_le _, Nat.zero_le _⟩ rfl rfl (Nat.le_of_ble_eq_true rfl) hl.1 dX7_takeType_41) (fun H locs hW _ => ?_)
        exact r_iret C hW (Option.some.inj h).symm rfl dX7_takeType_44
    · refine lv_aload_n hx hb dX7_takeType_24 rfl (lv_at hl 0 rfl) ?_
      refine lv_iconst (v := 1) hx hb dX7_takeType_25 (by decide) ?_
      obtain ⟨v21, X20, h19, h⟩ := bnd2_inv h
      refine r_cI hW (run_V (rest := []) C hW (t_X7_passed h19) mk_X7_passed vk_X7_207 (kd_X7_passed h19) rfl rfl (by decide) ⟨Nat.le_of_ble_eq_true rfl, Nat.le_of_ble_eq_true rfl⟩ ⟨Nat.zero_le _, Nat.zero_le _⟩ rfl rfl (Nat.le_of_ble_eq_true rfl) hl.1 dX7_takeType_26) (fun H locs hW _ => ?_)
      exact r_iret C hW (Option.some.inj h).symm rfl dX7_takeType_29
  · refine lv_aload_n hx hb dX7_takeType_9 rfl (lv_at hl 0 rfl) ?_
    refine lv_iconst (v := 0) hx hb dX7_takeType_10 (by decide) ?_
    obtain ⟨v24, X23, h22, h⟩ := bnd2_inv h
    refine r_cI hW (run_V (rest := []) C hW (t_X7_passed h22) mk_X7_passed vk_X7_207 (kd_X7_passed h22) rfl rfl (by decide) ⟨Nat.le_of_ble_eq_true rfl, Nat.le_of_ble_eq_true rfl⟩ ⟨Nat.zero_le _, Nat.zero_le _⟩ rfl rfl (Nat.le_of_ble_eq_true rfl) hl.1 dX7_takeType_11) (fun H locs hW _ => ?_)
    exact r_iret C hW (Option.some.inj h).symm rfl dX7_takeType_14
set_option maxRecDepth 20000 in
set_option maxHeartbeats 2000000 in
theorem b_X7_readColumn_85 {a : Nat} {x1 : Int32} {x3 : Int32} (C : Cx g RX7 cX7_readColumn 5 none p s m args meth c) {r : Mx} {X : Mx} (hW : Wd g σ X s H locs) (hl : lv_has ls 5 [(0, .ref a), (1, .int x1), (3, .int x3)]) (h : f_X7_readColumn_85 σ a x1 x3 X = some r) : W p l e (rmZ 6 127) s m args below meth c H locs 0 0 (QV g σ below args s r) (F0 m 85 ls []) := by
  have hx := C.x
  have hb := C.b
  unfold f_X7_readColumn_85 at h
  refine lv_aload_n hx hb dX7_readColumn_85 rfl (lv_at hl 0 rfl) ?_
  obtain ⟨v3, X2, h1, h⟩ := bnd2_inv h
  refine r_cI hW (run_V (rest := []) C hW (t_X7_takeType h1) mk_X7_takeType vk_X7_136 (kd_X7_takeType h1) rfl rfl (by decide) ⟨Nat.le_of_ble_eq_true rfl, Nat.le_of_ble_eq_true rfl⟩ ⟨Nat.zero_le _, Nat.zero_le _⟩ rfl rfl (Nat.le_of_ble_eq_true rfl) hl.1 dX7_readColumn_86) (fun H locs hW _ => ?_)
  refine lv_istore (lv' := [(4, .int v3), (0, .ref a), (1, .int x1), (3, .int x3)]) hx hb dX7_readColumn_89 hl (by decide) rfl (fun ls hl => ?_)
  refine lv_aload_n hx hb dX7_readColumn_91 rfl (lv_at hl 1 rfl) ?_
  obtain ⟨X5, h4, h⟩ := bnd_inv h
  refine r_cV hW (run_V (rest := []) C hW (t_X7_takeSemicolon h4) mk_X7_takeSemicolon vk_X7_139 (kd_X7_takeSemicolon h4) rfl rfl (by decide) ⟨Nat.le_of_ble_eq_true rfl, Nat.le_of_ble_eq_true rfl⟩ ⟨Nat.zero_le _, Nat.zero_le _⟩ rfl rfl (Nat.le_of_ble_eq_true rfl) hl.1 dX7_readColumn_92) (fun H locs hW _ => ?_)
  refine lv_aload_n hx hb dX7_readColumn_95 rfl (lv_at hl 1 rfl) ?_
  refine r_gI C hW h fl_X7_45 (by decide) dX7_readColumn_96 (fun v6 h => ?_)
  refine r_brn h (lv_if_ne (tgt := 116) hx hb dX7_readColumn_99 (by decide)) (fun h => ?_) (fun h => ?_)
  · exact r_vret C hW (Option.some.inj h).symm dX7_readColumn_116
  · refine lv_aload_n hx hb dX7_readColumn_102 rfl (lv_at hl 1 rfl) ?_
    refine r_gR C hW h fl_X7_18 (by decide) dX7_readColumn_103 (fun b7 h => ?_)
    refine r_gR C hW h fl_X7_110 (by decide) dX7_readColumn_106 (fun b8 h => ?_)
    refine lv_iload_n hx hb dX7_readColumn_109 rfl (lv_at hl 2 rfl) ?_
    refine lv_iload_n hx hb dX7_readColumn_110 rfl (lv_at hl 3 rfl) ?_
    refine lv_iload hx hb dX7_readColumn_111 (lv_at hl 0 rfl) ?_
    obtain ⟨X10, h9, h⟩ := bnd_inv h
    refine r_cV hW (run_V (rest := []) C hW (t_X6_putColumn h9) mk_X6_putColumn vk_X7_142 (kd_X6_putColumn h9) rfl rfl (by decide) ⟨Nat.le_of_ble_eq_true rfl, Nat.le_of_ble_eq_true rfl⟩ ⟨Nat.zero_le _, Nat.zero_le _⟩ rfl rfl (Nat.le_of_ble_eq_true rfl) hl.1 dX7_readColumn_113) (fun H locs hW _ => ?_)
    exact r_vret C hW (Option.some.inj h).symm dX7_readColumn_116
set_option maxRecDepth 20000 in
set_option maxHeartbeats 2000000 in
theorem b_X7_readColumn_44 {a : Nat} {x1 : Int32} (C : Cx g RX7 cX7_readColumn 5 none p s m args meth c) {r : Mx} {X : Mx} {y0 : Nat} {y1 : Int32} {y2 : Int32} (hW : Wd g σ X s H locs) (hl : lv_has ls 5 [(0, .ref a), (1, .int x1)]) (h : f_X7_readColumn_44 σ a x1 X y0 y1 y2 = some r) : W p l e (rmZ 6 127) s m args below meth c H locs 0 0 (QV g σ below args s r) (F0 m 44 ls [.int y2, .int y1, .ref y0]) := by
  have hx := C.x
  have hb := C.b
  unfold f_X7_readColumn_44 at h
  obtain ⟨X2, h1, h⟩ := bnd_inv h
  refine r_cV hW (run_V (rest := []) C hW (t_X7_takeHead h1) mk_X7_takeHead vk_X7_125 (kd_X7_takeHead h1) rfl rfl (by decide) ⟨Nat.le_of_ble_eq_true rfl, Nat.le_of_ble_eq_true rfl⟩ ⟨Nat.zero_le _, Nat.zero_le _⟩ rfl rfl (Nat.le_of_ble_eq_true rfl) hl.1 dX7_readColumn_44) (fun H locs hW _ => ?_)
  refine lv_aload_n hx hb dX7_readColumn_47 rfl (lv_at hl 0 rfl) ?_
  refine r_gI C hW h fl_X7_104 (by decide) dX7_readColumn_48 (fun v3 h => ?_)
  refine lv_istore_n (lv' := [(2, .int v3), (0, .ref a), (1, .int x1)]) hx hb dX7_readColumn_51 rfl hl (by decide) rfl (fun ls hl => ?_)
  refine lv_aload_n hx hb dX7_readColumn_52 rfl (lv_at hl 1 rfl) ?_
  obtain ⟨v6, X5, h4, h⟩ := bnd2_inv h
  refine r_cI hW (run_V (rest := []) C hW (t_X7_takeName h4) mk_X7_takeName vk_X7_129 (kd_X7_takeName h4) rfl rfl (by decide) ⟨Nat.le_of_ble_eq_true rfl, Nat.le_of_ble_eq_true rfl⟩ ⟨Nat.zero_le _, Nat.zero_le _⟩ rfl rfl (Nat.le_of_ble_eq_true rfl) hl.1 dX7_readColumn_53) (fun H locs hW _ => ?_)
  refine lv_istore_n (lv' := [(3, .int v6), (2, .int v3), (0, .ref a), (1, .int x1)]) hx hb dX7_readColumn_56 rfl hl (by decide) rfl (fun ls hl => ?_)
  refine lv_aload_n hx hb dX7_readColumn_57 rfl (lv_at hl 2 rfl) ?_
  refine r_gI C hW h fl_X7_45 (by decide) dX7_readColumn_58 (fun v7 h => ?_)
  refine r_brn h (lv_if_ne (tgt := 85) hx hb dX7_readColumn_61 (by decide)) (fun h => ?_) (fun h => ?_)
  · exact b_X7_readColumn_85 C hW (lv_sub hl [2, 3, 0] rfl) h
  · refine lv_aload_n hx hb dX7_readColumn_64 rfl (lv_at hl 2 rfl) ?_
    refine r_gR C hW h fl_X7_18 (by decide) dX7_readColumn_65 (fun b8 h => ?_)
    refine r_gR C hW h fl_X7_110 (by decide) dX7_readColumn_68 (fun b9 h => ?_)
    refine lv_iload_n hx hb dX7_readColumn_71 rfl (lv_at hl 0 rfl) ?_
    obtain ⟨v11, h10, h⟩ := bnd_inv h
    refine r_cI hW (run_V (rest := []) C hW (t_X6_hasName h10) mk_X6_hasName vk_X7_133 (kd_X6_hasName h10) rfl rfl (by decide) ⟨Nat.le_of_ble_eq_true rfl, Nat.le_of_ble_eq_true rfl⟩ ⟨Nat.zero_le _, Nat.zero_le _⟩ rfl rfl (Nat.le_of_ble_eq_true rfl) hl.1 dX7_readColumn_72) (fun H locs hW _ => ?_)
    refine r_br h (lv_if_eq (tgt := 85) hx hb dX7_readColumn_75 (by decide)) (fun h => ?_) (fun h => ?_)
    · exact b_X7_readColumn_85 C hW (lv_sub hl [2, 3, 0] rfl) h
    · refine lv_aload_n hx hb dX7_readColumn_78 rfl (lv_at hl 2 rfl) ?_
      refine lv_iconst (v := 4) hx hb dX7_readColumn_79 (by decide) ?_
      refine lv_iload_n hx hb dX7_readColumn_80 rfl (lv_at hl 1 rfl) ?_
      obtain ⟨v14, X13, h12, h⟩ := bnd2_inv h
      refine r_cI hW (run_V (rest := []) C hW (t_X7_fail h12) mk_X7_fail vk_X7_107 (kd_X7_fail h12) rfl rfl (by decide) ⟨Nat.le_of_ble_eq_true rfl, Nat.le_of_ble_eq_true rfl⟩ ⟨Nat.zero_le _, Nat.zero_le _⟩ rfl rfl (Nat.le_of_ble_eq_true rfl) hl.1 dX7_readColumn_81) (fun H locs hW _ => ?_)
      refine lv_pop hx hb dX7_readColumn_84 rfl ?_
      exact b_X7_readColumn_85 C hW (lv_sub hl [2, 3, 0] rfl) h
set_option maxRecDepth 20000 in
set_option maxHeartbeats 2000000 in
theorem b_X7_readColumn_34 {a : Nat} {x1 : Int32} (C : Cx g RX7 cX7_readColumn 5 none p s m args meth c) {r : Mx} {X : Mx} {y0 : Nat} {y1 : Int32} (hW : Wd g σ X s H locs) (hl : lv_has ls 5 [(0, .ref a), (1, .int x1)]) (h : f_X7_readColumn_34 σ a x1 X y0 y1 = some r) : W p l e (rmZ 6 127) s m args below meth c H locs 0 0 (QV g σ below args s r) (F0 m 34 ls [.int y1, .ref y0]) := by
  have hx := C.x
  have hb := C.b
  unfold f_X7_readColumn_34 at h
  refine lv_iload_n hx hb dX7_readColumn_34 rfl (lv_at hl 1 rfl) ?_
  refine lv_iconst (v := 5) hx hb dX7_readColumn_35 (by decide) ?_
  refine r_br h (lv_icmp_ge (tgt := 43) hx hb dX7_readColumn_36 (by decide)) (fun h => ?_) (fun h => ?_)
  · refine lv_iconst (v := 0) hx hb dX7_readColumn_43 (by decide) ?_
    exact b_X7_readColumn_44 C hW (lv_sub hl [0, 1] rfl) h
  · refine lv_iconst (v := 1) hx hb dX7_readColumn_39 (by decide) ?_
    refine lv_goto (tgt := 44) hx hb dX7_readColumn_40 (by decide) ?_
    exact b_X7_readColumn_44 C hW (lv_sub hl [0, 1] rfl) h
set_option maxRecDepth 20000 in
set_option maxHeartbeats 2000000 in
theorem b_X7_readColumn_33 {a : Nat} {x1 : Int32} (C : Cx g RX7 cX7_readColumn 5 none p s m args meth c) {r : Mx} {X : Mx} {y0 : Nat} (hW : Wd g σ X s H locs) (hl : lv_has ls 5 [(0, .ref a), (1, .int x1)]) (h : f_X7_readColumn_33 σ a x1 X y0 = some r) : W p l e (rmZ 6 127) s m args below meth c H locs 0 0 (QV g σ below args s r) (F0 m 33 ls [.ref y0]) := by
  have hx := C.x
  have hb := C.b
  unfold f_X7_readColumn_33 at h
  refine lv_iconst (v := 0) hx hb dX7_readColumn_33 (by decide) ?_
  exact b_X7_readColumn_34 C hW (lv_sub hl [0, 1] rfl) h
theorem kd_X7_readColumn {X : Mx} {r : Mx} {a : Nat} (h : f_X7_readColumn σ X a = some r) : shK σ a = 6 := (grd_inv h).1
set_option maxRecDepth 20000 in
set_option maxHeartbeats 2000000 in
theorem t_X7_readColumn {X : Mx} {r : Mx} {a : Nat} (h : f_X7_readColumn σ X a = some r) : MtV g l yX7_readColumn cX7_readColumn 5 none 6 127 [.ref a] σ X r := by
  refine met_of mk_X7_readColumn (Nat.le_of_ble_eq_true rfl) (fun p e s m args below meth c ls C hW hl => ?_)
  have hx := C.x
  have hb := C.b
  have hl : lv_has ls 5 [(0, .ref a)] := hl
  unfold f_X7_readColumn at h
  obtain ⟨hk0, h⟩ := grd_inv h
  refine lv_aload_n hx hb dX7_readColumn_0 rfl (lv_at hl 0 rfl) ?_
  refine r_gR C hW h fl_X7_18 (by decide) dX7_readColumn_1 (fun b1 h => ?_)
  refine r_gR C hW h fl_X7_110 (by decide) dX7_readColumn_4 (fun b2 h => ?_)
  refine r_gI C hW h fl_X7_114 (by decide) dX7_readColumn_7 (fun v3 h => ?_)
  refine r_cI hW (run_S (rest := []) C hW (t_J6_bitCount_0f7a4 (X := X)) mk_J6_bitCount_0f7a4 sk_X7_119 ⟨Nat.le_of_ble_eq_true rfl, Nat.le_of_ble_eq_true rfl⟩ ⟨Nat.zero_le _, Nat.zero_le _⟩ rfl rfl (Nat.le_of_ble_eq_true rfl) hl.1 dX7_readColumn_10) (fun H locs hW _ => ?_)
  refine lv_istore_n (lv' := [(1, .int (f_J6_bitCount_0f7a4 v3)), (0, .ref a)]) hx hb dX7_readColumn_13 rfl hl (by decide) rfl (fun ls hl => ?_)
  refine lv_aload_n hx hb dX7_readColumn_14 rfl (lv_at hl 1 rfl) ?_
  refine lv_aload_n hx hb dX7_readColumn_15 rfl (lv_at hl 1 rfl) ?_
  refine r_gI C hW h fl_X7_51 (by decide) dX7_readColumn_16 (fun v4 h => ?_)
  refine r_brn h (lv_if_ne (tgt := 33) hx hb dX7_readColumn_19 (by decide)) (fun h => ?_) (fun h => ?_)
  · exact b_X7_readColumn_33 C hW (lv_sub hl [1, 0] rfl) h
  · refine lv_aload_n hx hb dX7_readColumn_22 rfl (lv_at hl 1 rfl) ?_
    refine r_gI C hW h fl_X7_55 (by decide) dX7_readColumn_23 (fun v5 h => ?_)
    refine r_brn h (lv_if_ne (tgt := 33) hx hb dX7_readColumn_26 (by decide)) (fun h => ?_) (fun h => ?_)
    · exact b_X7_readColumn_33 C hW (lv_sub hl [1, 0] rfl) h
    · refine lv_iconst (v := 1) hx hb dX7_readColumn_29 (by decide) ?_
      refine lv_goto (tgt := 34) hx hb dX7_readColumn_30 (by decide) ?_
      exact b_X7_readColumn_34 C hW (lv_sub hl [1, 0] rfl) h
set_option maxRecDepth 20000 in
set_option maxHeartbeats 2000000 in
theorem b_X7_takeNumber_84 {a : Nat} {x1 : Int32} {x2 : Int32} (C : Cx g RX7 cX7_takeNumber 4 (some .int) p s m args meth c) {r : (Int32 × Mx)} {X : Mx} (hW : Wd g σ X s H locs) (hl : lv_has ls 4 [(0, .ref a), (1, .int x1), (2, .int x2)]) (h : f_X7_takeNumber_84 σ a x1 x2 X = some r) : W p l e (rmZ 2 40) s m args below meth c H locs 0 0 (QI g σ below args s r) (F0 m 84 ls []) := by
  have hx := C.x
  have hb := C.b
  unfold f_X7_takeNumber_84 at h
  refine lv_iload_n hx hb dX7_takeNumber_84 rfl (lv_at hl 2 rfl) ?_
  refine lv_iload_n hx hb dX7_takeNumber_85 rfl (lv_at hl 1 rfl) ?_
  refine r_br h (lv_icmp_le (tgt := 99) hx hb dX7_takeNumber_86 (by decide)) (fun h => ?_) (fun h => ?_)
  · refine lv_aload_n hx hb dX7_takeNumber_99 rfl (lv_at hl 0 rfl) ?_
    obtain ⟨X2, h1, h⟩ := bnd_inv h
    refine r_cV hW (run_V (rest := []) C hW (t_X7_step h1) mk_X7_step vk_X7_61 (kd_X7_step h1) rfl rfl (by decide) ⟨Nat.le_of_ble_eq_true rfl, Nat.le_of_ble_eq_true rfl⟩ ⟨Nat.zero_le _, Nat.zero_le _⟩ rfl rfl (Nat.le_of_ble_eq_true rfl) hl.1 dX7_takeNumber_100) (fun H locs hW _ => ?_)
    refine lv_iload_n hx hb dX7_takeNumber_103 rfl (lv_at hl 2 rfl) ?_
    exact r_iret C hW (Option.some.inj h).symm rfl dX7_takeNumber_104
  · refine lv_aload_n hx hb dX7_takeNumber_89 rfl (lv_at hl 0 rfl) ?_
    refine lv_iconst (v := 2) hx hb dX7_takeNumber_90 (by decide) ?_
    refine lv_aload_n hx hb dX7_takeNumber_91 rfl (lv_at hl 0 rfl) ?_
    refine r_gI C hW h fl_X7_104 (by decide) dX7_takeNumber_92 (fun v3 h => ?_)
    obtain ⟨v6, X5, h4, h⟩ := bnd2_inv h
    refine r_cI hW (run_V (rest := []) C hW (t_X7_fail h4) mk_X7_fail vk_X7_107 (kd_X7_fail h4) rfl rfl (by decide) ⟨Nat.le_of_ble_eq_true rfl, Nat.le_of_ble_eq_true rfl⟩ ⟨Nat.zero_le _, Nat.zero_le _⟩ rfl rfl (Nat.le_of_ble_eq_true rfl) hl.1 dX7_takeNumber_95) (fun H locs hW _ => ?_)
    exact r_iret C hW (Option.some.inj h).symm rfl dX7_takeNumber_98
set_option maxRecDepth 20000 in
set_option maxHeartbeats 2000000 in
theorem b_X7_takeNumber_48 {a : Nat} {x1 : Int32} (C : Cx g RX7 cX7_takeNumber 4 (some .int) p s m args meth c) {r : (Int32 × Mx)} : ∀ (n : Nat) {X : Mx} {x2 : Int32} {x3 : Int32} {H : Heap} {locs : List Loc} {ls : Array Slot} (hW : Wd g σ X s H locs) (hl : lv_has ls 4 [(0, .ref a), (1, .int x1), (2, .int x2), (3, .int x3)]) (h : f_X7_takeNumber_48 σ a x1 n X x2 x3 = some r), W p l e (rmZ 2 40) s m args below meth c H locs 0 0 (QI g σ below args s r) (F0 m 48 ls []) := by
  have hx := C.x
  have hb := C.b
  intro n
  induction n with
  | zero =>
    intro X x2 x3 H locs ls hW hl h
    cases (show none = some r from h)
  | succ n ih =>
    intro X x2 x3 H locs ls hW hl h
    rw [f_X7_takeNumber_48] at h
    refine lv_iload_n hx hb dX7_takeNumber_48 rfl (lv_at hl 3 rfl) ?_
    refine lv_aload_n hx hb dX7_takeNumber_49 rfl (lv_at hl 0 rfl) ?_
    refine r_gI C hW h fl_X7_48 (by decide) dX7_takeNumber_50 (fun v1 h => ?_)
    refine r_br h (lv_icmp_ge (tgt := 84) hx hb dX7_takeNumber_53 (by decide)) (fun h => ?_) (fun h => ?_)
    · exact b_X7_takeNumber_84 C hW (lv_sub hl [0, 1, 2] rfl) h
    · refine lv_iload_n hx hb dX7_takeNumber_56 rfl (lv_at hl 3 rfl) ?_
      refine lv_sipush (v := 700) hx hb dX7_takeNumber_57 (by decide) ?_
      refine r_br h (lv_icmp_ge (tgt := 84) hx hb dX7_takeNumber_60 (by decide)) (fun h => ?_) (fun h => ?_)
      · exact b_X7_takeNumber_84 C hW (lv_sub hl [0, 1, 2] rfl) h
      · refine lv_iload_n hx hb dX7_takeNumber_63 rfl (lv_at hl 2 rfl) ?_
        refine lv_bipush (v := 10) hx hb dX7_takeNumber_64 (by decide) ?_
        refine lv_imul hx hb dX7_takeNumber_66 ?_
        refine lv_aload_n hx hb dX7_takeNumber_67 rfl (lv_at hl 0 rfl) ?_
        refine r_gR C hW h fl_X7_9 (by decide) dX7_takeNumber_68 (fun b2 h => ?_)
        refine lv_iload_n hx hb dX7_takeNumber_71 rfl (lv_at hl 3 rfl) ?_
        refine r_bald C hW h dX7_takeNumber_72 (fun v3 h => ?_)
        refine lv_iadd hx hb dX7_takeNumber_73 ?_
        refine lv_bipush (v := 48) hx hb dX7_takeNumber_74 (by decide) ?_
        refine lv_isub hx hb dX7_takeNumber_76 ?_
        refine lv_istore_n (lv' := [(2, .int (((x2 * 10) + v3) - 48)), (0, .ref a), (1, .int x1), (3, .int x3)]) hx hb dX7_takeNumber_77 rfl hl (by decide) rfl (fun ls hl => ?_)
        refine lv_iinc (v := (x3 + 1)) (lv' := [(3, .int (x3 + 1)), (2, .int (((x2 * 10) + v3) - 48)), (0, .ref a), (1, .int x1)]) hx hb dX7_takeNumber_78 hl (k := 3) rfl rfl (by decide) rfl (fun ls hl => ?_)
        refine lv_goto (tgt := 48) hx hb dX7_takeNumber_81 (by decide) ?_
        exact ih hW (lv_sub hl [2, 3, 1, 0] rfl) h
theorem kd_X7_takeNumber {X : Mx} {r : (Int32 × Mx)} {a : Nat} {x1 : Int32} (h : f_X7_takeNumber σ X a x1 = some r) : shK σ a = 6 := (grd_inv h).1
set_option maxRecDepth 20000 in
set_option maxHeartbeats 2000000 in
theorem t_X7_takeNumber {X : Mx} {r : (Int32 × Mx)} {a : Nat} {x1 : Int32} (h : f_X7_takeNumber σ X a x1 = some r) : MtI g l yX7_takeNumber cX7_takeNumber 4 (some .int) 2 40 [.ref a, .int x1] σ X r := by
  refine met_of mk_X7_takeNumber (Nat.le_of_ble_eq_true rfl) (fun p e s m args below meth c ls C hW hl => ?_)
  have hx := C.x
  have hb := C.b
  have hl : lv_has ls 4 [(0, .ref a), (1, .int x1)] := hl
  unfold f_X7_takeNumber at h
  obtain ⟨hk0, h⟩ := grd_inv h
  refine lv_aload_n hx hb dX7_takeNumber_0 rfl (lv_at hl 0 rfl) ?_
  refine r_gI C hW h fl_X7_64 (by decide) dX7_takeNumber_1 (fun v1 h => ?_)
  refine lv_iconst (v := 2) hx hb dX7_takeNumber_4 (by decide) ?_
  refine r_br h (lv_icmp_eq (tgt := 18) hx hb dX7_takeNumber_5 (by decide)) (fun h => ?_) (fun h => ?_)
  · refine lv_aload_n hx hb dX7_takeNumber_18 rfl (lv_at hl 0 rfl) ?_
    refine r_gI C hW h fl_X7_48 (by decide) dX7_takeNumber_19 (fun v2 h => ?_)
    refine lv_aload_n hx hb dX7_takeNumber_22 rfl (lv_at hl 0 rfl) ?_
    refine r_gI C hW h fl_X7_104 (by decide) dX7_takeNumber_23 (fun v3 h => ?_)
    refine lv_isub hx hb dX7_takeNumber_26 ?_
    refine lv_iconst (v := 4) hx hb dX7_takeNumber_27 (by decide) ?_
    refine r_br h (lv_icmp_le (tgt := 41) hx hb dX7_takeNumber_28 (by decide)) (fun h => ?_) (fun h => ?_)
    · refine lv_iconst (v := 0) hx hb dX7_takeNumber_41 (by decide) ?_
      refine lv_istore_n (lv' := [(2, .int 0), (0, .ref a), (1, .int x1)]) hx hb dX7_takeNumber_42 rfl hl (by decide) rfl (fun ls hl => ?_)
      refine lv_aload_n hx hb dX7_takeNumber_43 rfl (lv_at hl 1 rfl) ?_
      refine r_gI C hW h fl_X7_104 (by decide) dX7_takeNumber_44 (fun v4 h => ?_)
      refine lv_istore_n (lv' := [(3, .int v4), (2, .int 0), (0, .ref a), (1, .int x1)]) hx hb dX7_takeNumber_47 rfl hl (by decide) rfl (fun ls hl => ?_)
      exact b_X7_takeNumber_48 C FU hW (lv_sub hl [2, 3, 1, 0] rfl) h
    · refine lv_aload_n hx hb dX7_takeNumber_31 rfl (lv_at hl 0 rfl) ?_
      refine lv_iconst (v := 2) hx hb dX7_takeNumber_32 (by decide) ?_
      refine lv_aload_n hx hb dX7_takeNumber_33 rfl (lv_at hl 0 rfl) ?_
      refine r_gI C hW h fl_X7_104 (by decide) dX7_takeNumber_34 (fun v5 h => ?_)
      obtain ⟨v8, X7, h6, h⟩ := bnd2_inv h
      refine r_cI hW (run_V (rest := []) C hW (t_X7_fail h6) mk_X7_fail vk_X7_107 (kd_X7_fail h6) rfl rfl (by decide) ⟨Nat.le_of_ble_eq_true rfl, Nat.le_of_ble_eq_true rfl⟩ ⟨Nat.zero_le _, Nat.zero_le _⟩ rfl rfl (Nat.le_of_ble_eq_true rfl) hl.1 dX7_takeNumber_37) (fun H locs hW _ => ?_)
      exact r_iret C hW (Option.some.inj h).symm rfl dX7_takeNumber_40
  · refine lv_aload_n hx hb dX7_takeNumber_8 rfl (lv_at hl 0 rfl) ?_
    refine lv_iconst (v := 1) hx hb dX7_takeNumber_9 (by decide) ?_
    refine lv_aload_n hx hb dX7_takeNumber_10 rfl (lv_at hl 0 rfl) ?_
    refine r_gI C hW h fl_X7_104 (by decide) dX7_takeNumber_11 (fun v9 h => ?_)
    obtain ⟨v12, X11, h10, h⟩ := bnd2_inv h
    refine r_cI hW (run_V (rest := []) C hW (t_X7_fail h10) mk_X7_fail vk_X7_107 (kd_X7_fail h10) rfl rfl (by decide) ⟨Nat.le_of_ble_eq_true rfl, Nat.le_of_ble_eq_true rfl⟩ ⟨Nat.zero_le _, Nat.zero_le _⟩ rfl rfl (Nat.le_of_ble_eq_true rfl) hl.1 dX7_takeNumber_14) (fun H locs hW _ => ?_)
    exact r_iret C hW (Option.some.inj h).symm rfl dX7_takeNumber_17
set_option maxRecDepth 20000 in
set_option maxHeartbeats 2000000 in
theorem b_X7_takeDemanded_39 {a : Nat} {x2 : Int32} {x3 : Int32} (C : Cx g RX7 cX7_takeDemanded 4 (some .int) p s m args meth c) {r : (Int32 × Mx)} {X : Mx} (hW : Wd g σ X s H locs) (hl : lv_has ls 4 [(0, .ref a), (2, .int x2), (3, .int x3)]) (h : f_X7_takeDemanded_39 σ a x2 x3 X = some r) : W p l e (rmZ 3 63) s m args below meth c H locs 0 0 (QI g σ below args s r) (F0 m 39 ls []) := by
  have hx := C.x
  have hb := C.b
  unfold f_X7_takeDemanded_39 at h
  refine lv_aload_n hx hb dX7_takeDemanded_39 rfl (lv_at hl 0 rfl) ?_
  refine lv_iconst (v := 3) hx hb dX7_takeDemanded_40 (by decide) ?_
  refine lv_iload_n hx hb dX7_takeDemanded_41 rfl (lv_at hl 1 rfl) ?_
  obtain ⟨v3, X2, h1, h⟩ := bnd2_inv h
  refine r_cI hW (run_V (rest := []) C hW (t_X7_fail h1) mk_X7_fail vk_X7_107 (kd_X7_fail h1) rfl rfl (by decide) ⟨Nat.le_of_ble_eq_true rfl, Nat.le_of_ble_eq_true rfl⟩ ⟨Nat.zero_le _, Nat.zero_le _⟩ rfl rfl (Nat.le_of_ble_eq_true rfl) hl.1 dX7_takeDemanded_42) (fun H locs hW _ => ?_)
  refine lv_pop hx hb dX7_takeDemanded_45 rfl ?_
  refine lv_iload_n hx hb dX7_takeDemanded_46 rfl (lv_at hl 2 rfl) ?_
  exact r_iret C hW (Option.some.inj h).symm rfl dX7_takeDemanded_47
theorem kd_X7_takeDemanded {X : Mx} {r : (Int32 × Mx)} {a : Nat} {x1 : Int32} (h : f_X7_takeDemanded σ X a x1 = some r) : shK σ a = 6 := (grd_inv h).1
set_option maxRecDepth 20000 in
set_option maxHeartbeats 2000000 in
theorem t_X7_takeDemanded {X : Mx} {r : (Int32 × Mx)} {a : Nat} {x1 : Int32} (h : f_X7_takeDemanded σ X a x1 = some r) : MtI g l yX7_takeDemanded cX7_takeDemanded 4 (some .int) 3 63 [.ref a, .int x1] σ X r := by
  refine met_of mk_X7_takeDemanded (Nat.le_of_ble_eq_true rfl) (fun p e s m args below meth c ls C hW hl => ?_)
  have hx := C.x
  have hb := C.b
  have hl : lv_has ls 4 [(0, .ref a), (1, .int x1)] := hl
  unfold f_X7_takeDemanded at h
  obtain ⟨hk0, h⟩ := grd_inv h
  refine lv_aload_n hx hb dX7_takeDemanded_0 rfl (lv_at hl 0 rfl) ?_
  refine r_gI C hW h fl_X7_104 (by decide) dX7_takeDemanded_1 (fun v1 h => ?_)
  refine lv_istore_n (lv' := [(2, .int v1), (0, .ref a), (1, .int x1)]) hx hb dX7_takeDemanded_4 rfl hl (by decide) rfl (fun ls hl => ?_)
  refine lv_aload_n hx hb dX7_takeDemanded_5 rfl (lv_at hl 1 rfl) ?_
  refine lv_sipush (v := 9999) hx hb dX7_takeDemanded_6 (by decide) ?_
  obtain ⟨v4, X3, h2, h⟩ := bnd2_inv h
  refine r_cI hW (run_V (rest := []) C hW (t_X7_takeNumber h2) mk_X7_takeNumber vk_X7_149 (kd_X7_takeNumber h2) rfl rfl (by decide) ⟨Nat.le_of_ble_eq_true rfl, Nat.le_of_ble_eq_true rfl⟩ ⟨Nat.zero_le _, Nat.zero_le _⟩ rfl rfl (Nat.le_of_ble_eq_true rfl) hl.1 dX7_takeDemanded_9) (fun H locs hW _ => ?_)
  refine lv_istore_n (lv' := [(3, .int v4), (2, .int v1), (0, .ref a), (1, .int x1)]) hx hb dX7_takeDemanded_12 rfl hl (by decide) rfl (fun ls hl => ?_)
  refine lv_aload_n hx hb dX7_takeDemanded_13 rfl (lv_at hl 2 rfl) ?_
  refine r_gI C hW h fl_X7_45 (by decide) dX7_takeDemanded_14 (fun v5 h => ?_)
  refine r_brn h (lv_if_ne (tgt := 46) hx hb dX7_takeDemanded_17 (by decide)) (fun h => ?_) (fun h => ?_)
  · refine lv_iload_n hx hb dX7_takeDemanded_46 rfl (lv_at hl 0 rfl) ?_
    exact r_iret C hW (Option.some.inj h).symm rfl dX7_takeDemanded_47
  · refine lv_aload_n hx hb dX7_takeDemanded_20 rfl (lv_at hl 2 rfl) ?_
    refine r_gR C hW h fl_X7_18 (by decide) dX7_takeDemanded_21 (fun b6 h => ?_)
    refine r_gR C hW h fl_X7_110 (by decide) dX7_takeDemanded_24 (fun b7 h => ?_)
    refine lv_iload_n hx hb dX7_takeDemanded_27 rfl (lv_at hl 0 rfl) ?_
    obtain ⟨v9, h8, h⟩ := bnd_inv h
    refine r_cI hW (run_V (rest := []) C hW (t_X6_hasColumn h8) mk_X6_hasColumn vk_X7_158 (kd_X6_hasColumn h8) rfl rfl (by decide) ⟨Nat.le_of_ble_eq_true rfl, Nat.le_of_ble_eq_true rfl⟩ ⟨Nat.zero_le _, Nat.zero_le _⟩ rfl rfl (Nat.le_of_ble_eq_true rfl) hl.1 dX7_takeDemanded_28) (fun H locs hW _ => ?_)
    refine r_br h (lv_if_eq (tgt := 39) hx hb dX7_takeDemanded_31 (by decide)) (fun h => ?_) (fun h => ?_)
    · exact b_X7_takeDemanded_39 C hW (lv_sub hl [2, 1, 0] rfl) h
    · refine lv_iload_n hx hb dX7_takeDemanded_34 rfl (lv_at hl 0 rfl) ?_
      refine lv_iload_n hx hb dX7_takeDemanded_35 rfl (lv_at hl 3 rfl) ?_
      refine r_brn h (lv_icmp_ne (tgt := 46) hx hb dX7_takeDemanded_36 (by decide)) (fun h => ?_) (fun h => ?_)
      · refine lv_iload_n hx hb dX7_takeDemanded_46 rfl (lv_at hl 0 rfl) ?_
        exact r_iret C hW (Option.some.inj h).symm rfl dX7_takeDemanded_47
      · exact b_X7_takeDemanded_39 C hW (lv_sub hl [2, 1, 0] rfl) h
set_option maxRecDepth 20000 in
set_option maxHeartbeats 2000000 in
theorem b_X7_readDemand_52 {a : Nat} {x1 : Int32} {x2 : Int32} (C : Cx g RX7 cX7_readDemand 4 none p s m args meth c) {r : Mx} {X : Mx} {y0 : Int32} (hW : Wd g σ X s H locs) (hl : lv_has ls 4 [(0, .ref a), (1, .int x1), (2, .int x2)]) (h : f_X7_readDemand_52 σ a x1 x2 X y0 = some r) : W p l e (rmZ 4 86) s m args below meth c H locs 0 0 (QV g σ below args s r) (F0 m 52 ls [.int y0]) := by
  have hx := C.x
  have hb := C.b
  unfold f_X7_readDemand_52 at h
  refine lv_istore_n (lv' := [(3, .int y0), (0, .ref a), (1, .int x1), (2, .int x2)]) hx hb dX7_readDemand_52 rfl hl (by decide) rfl (fun ls hl => ?_)
  refine lv_aload_n hx hb dX7_readDemand_53 rfl (lv_at hl 1 rfl) ?_
  obtain ⟨X2, h1, h⟩ := bnd_inv h
  refine r_cV hW (run_V (rest := []) C hW (t_X7_takeSemicolon h1) mk_X7_takeSemicolon vk_X7_139 (kd_X7_takeSemicolon h1) rfl rfl (by decide) ⟨Nat.le_of_ble_eq_true rfl, Nat.le_of_ble_eq_true rfl⟩ ⟨Nat.zero_le _, Nat.zero_le _⟩ rfl rfl (Nat.le_of_ble_eq_true rfl) hl.1 dX7_readDemand_54) (fun H locs hW _ => ?_)
  refine lv_aload_n hx hb dX7_readDemand_57 rfl (lv_at hl 1 rfl) ?_
  refine r_gI C hW h fl_X7_45 (by decide) dX7_readDemand_58 (fun v3 h => ?_)
  refine r_brn h (lv_if_ne (tgt := 74) hx hb dX7_readDemand_61 (by decide)) (fun h => ?_) (fun h => ?_)
  · exact r_vret C hW (Option.some.inj h).symm dX7_readDemand_74
  · refine lv_aload_n hx hb dX7_readDemand_64 rfl (lv_at hl 1 rfl) ?_
    refine r_gR C hW h fl_X7_18 (by decide) dX7_readDemand_65 (fun b4 h => ?_)
    refine lv_iload_n hx hb dX7_readDemand_68 rfl (lv_at hl 2 rfl) ?_
    refine lv_iload_n hx hb dX7_readDemand_69 rfl (lv_at hl 3 rfl) ?_
    refine lv_iload_n hx hb dX7_readDemand_70 rfl (lv_at hl 0 rfl) ?_
    obtain ⟨X6, h5, h⟩ := bnd_inv h
    refine r_cV hW (run_V (rest := []) C hW (t_X5_putDemand h5) mk_X5_putDemand vk_X7_183 (kd_X5_putDemand h5) rfl rfl (by decide) ⟨Nat.le_of_ble_eq_true rfl, Nat.le_of_ble_eq_true rfl⟩ ⟨Nat.zero_le _, Nat.zero_le _⟩ rfl rfl (Nat.le_of_ble_eq_true rfl) hl.1 dX7_readDemand_71) (fun H locs hW _ => ?_)
    exact r_vret C hW (Option.some.inj h).symm dX7_readDemand_74
set_option maxRecDepth 20000 in
set_option maxHeartbeats 2000000 in
theorem b_X7_readDemand_29 {a : Nat} {x1 : Int32} (C : Cx g RX7 cX7_readDemand 4 none p s m args meth c) {r : Mx} {X : Mx} {y0 : Nat} {y1 : Int32} {y2 : Int32} (hW : Wd g σ X s H locs) (hl : lv_has ls 4 [(0, .ref a), (1, .int x1)]) (h : f_X7_readDemand_29 σ a x1 X y0 y1 y2 = some r) : W p l e (rmZ 4 86) s m args below meth c H locs 0 0 (QV g σ below args s r) (F0 m 29 ls [.int y2, .int y1, .ref y0]) := by
  have hx := C.x
  have hb := C.b
  unfold f_X7_readDemand_29 at h
  obtain ⟨X2, h1, h⟩ := bnd_inv h
  refine r_cV hW (run_V (rest := []) C hW (t_X7_takeHead h1) mk_X7_takeHead vk_X7_125 (kd_X7_takeHead h1) rfl rfl (by decide) ⟨Nat.le_of_ble_eq_true rfl, Nat.le_of_ble_eq_true rfl⟩ ⟨Nat.zero_le _, Nat.zero_le _⟩ rfl rfl (Nat.le_of_ble_eq_true rfl) hl.1 dX7_readDemand_29) (fun H locs hW _ => ?_)
  refine lv_aload_n hx hb dX7_readDemand_32 rfl (lv_at hl 0 rfl) ?_
  refine lv_iconst (v := (-1)) hx hb dX7_readDemand_33 (by decide) ?_
  obtain ⟨v5, X4, h3, h⟩ := bnd2_inv h
  refine r_cI hW (run_V (rest := []) C hW (t_X7_takeDemanded h3) mk_X7_takeDemanded vk_X7_180 (kd_X7_takeDemanded h3) rfl rfl (by decide) ⟨Nat.le_of_ble_eq_true rfl, Nat.le_of_ble_eq_true rfl⟩ ⟨Nat.zero_le _, Nat.zero_le _⟩ rfl rfl (Nat.le_of_ble_eq_true rfl) hl.1 dX7_readDemand_34) (fun H locs hW _ => ?_)
  refine lv_istore_n (lv' := [(2, .int v5), (0, .ref a), (1, .int x1)]) hx hb dX7_readDemand_37 rfl hl (by decide) rfl (fun ls hl => ?_)
  refine lv_iload_n hx hb dX7_readDemand_38 rfl (lv_at hl 2 rfl) ?_
  refine lv_iconst (v := 2) hx hb dX7_readDemand_39 (by decide) ?_
  refine r_brn h (lv_icmp_ne (tgt := 51) hx hb dX7_readDemand_40 (by decide)) (fun h => ?_) (fun h => ?_)
  · refine lv_iload_n hx hb dX7_readDemand_51 rfl (lv_at hl 0 rfl) ?_
    exact b_X7_readDemand_52 C hW (lv_sub hl [1, 2, 0] rfl) h
  · refine lv_aload_n hx hb dX7_readDemand_43 rfl (lv_at hl 1 rfl) ?_
    refine lv_iload_n hx hb dX7_readDemand_44 rfl (lv_at hl 0 rfl) ?_
    obtain ⟨v8, X7, h6, h⟩ := bnd2_inv h
    refine r_cI hW (run_V (rest := []) C hW (t_X7_takeDemanded h6) mk_X7_takeDemanded vk_X7_180 (kd_X7_takeDemanded h6) rfl rfl (by decide) ⟨Nat.le_of_ble_eq_true rfl, Nat.le_of_ble_eq_true rfl⟩ ⟨Nat.zero_le _, Nat.zero_le _⟩ rfl rfl (Nat.le_of_ble_eq_true rfl) hl.1 dX7_readDemand_45) (fun H locs hW _ => ?_)
    refine lv_goto (tgt := 52) hx hb dX7_readDemand_48 (by decide) ?_
    exact b_X7_readDemand_52 C hW (lv_sub hl [1, 2, 0] rfl) h
set_option maxRecDepth 20000 in
set_option maxHeartbeats 2000000 in
theorem b_X7_readDemand_13 {a : Nat} {x1 : Int32} (C : Cx g RX7 cX7_readDemand 4 none p s m args meth c) {r : Mx} {X : Mx} {y0 : Nat} {y1 : Int32} (hW : Wd g σ X s H locs) (hl : lv_has ls 4 [(0, .ref a), (1, .int x1)]) (h : f_X7_readDemand_13 σ a x1 X y0 y1 = some r) : W p l e (rmZ 4 86) s m args below meth c H locs 0 0 (QV g σ below args s r) (F0 m 13 ls [.int y1, .ref y0]) := by
  have hx := C.x
  have hb := C.b
  unfold f_X7_readDemand_13 at h
  refine lv_aload_n hx hb dX7_readDemand_13 rfl (lv_at hl 0 rfl) ?_
  refine r_gR C hW h fl_X7_18 (by decide) dX7_readDemand_14 (fun b1 h => ?_)
  refine r_gI C hW h fl_X7_177 (by decide) dX7_readDemand_17 (fun v2 h => ?_)
  refine lv_iconst (v := 4) hx hb dX7_readDemand_20 (by decide) ?_
  refine r_br h (lv_icmp_ge (tgt := 28) hx hb dX7_readDemand_21 (by decide)) (fun h => ?_) (fun h => ?_)
  · refine lv_iconst (v := 0) hx hb dX7_readDemand_28 (by decide) ?_
    exact b_X7_readDemand_29 C hW (lv_sub hl [0, 1] rfl) h
  · refine lv_iconst (v := 1) hx hb dX7_readDemand_24 (by decide) ?_
    refine lv_goto (tgt := 29) hx hb dX7_readDemand_25 (by decide) ?_
    exact b_X7_readDemand_29 C hW (lv_sub hl [0, 1] rfl) h
theorem kd_X7_readDemand {X : Mx} {r : Mx} {a : Nat} {x1 : Int32} (h : f_X7_readDemand σ X a x1 = some r) : shK σ a = 6 := (grd_inv h).1
set_option maxRecDepth 20000 in
set_option maxHeartbeats 2000000 in
theorem t_X7_readDemand {X : Mx} {r : Mx} {a : Nat} {x1 : Int32} (h : f_X7_readDemand σ X a x1 = some r) : MtV g l yX7_readDemand cX7_readDemand 4 none 4 86 [.ref a, .int x1] σ X r := by
  refine met_of mk_X7_readDemand (Nat.le_of_ble_eq_true rfl) (fun p e s m args below meth c ls C hW hl => ?_)
  have hx := C.x
  have hb := C.b
  have hl : lv_has ls 4 [(0, .ref a), (1, .int x1)] := hl
  unfold f_X7_readDemand at h
  obtain ⟨hk0, h⟩ := grd_inv h
  refine lv_aload_n hx hb dX7_readDemand_0 rfl (lv_at hl 0 rfl) ?_
  refine lv_aload_n hx hb dX7_readDemand_1 rfl (lv_at hl 0 rfl) ?_
  refine r_gI C hW h fl_X7_55 (by decide) dX7_readDemand_2 (fun v1 h => ?_)
  refine r_brn h (lv_if_ne (tgt := 12) hx hb dX7_readDemand_5 (by decide)) (fun h => ?_) (fun h => ?_)
  · refine lv_iconst (v := 0) hx hb dX7_readDemand_12 (by decide) ?_
    exact b_X7_readDemand_13 C hW (lv_sub hl [0, 1] rfl) h
  · refine lv_iconst (v := 1) hx hb dX7_readDemand_8 (by decide) ?_
    refine lv_goto (tgt := 13) hx hb dX7_readDemand_9 (by decide) ?_
    exact b_X7_readDemand_13 C hW (lv_sub hl [0, 1] rfl) h
set_option maxRecDepth 20000 in
set_option maxHeartbeats 2000000 in
theorem b_X7_takeCell_32 {a : Nat} {x1 : Int32} (C : Cx g RX7 cX7_takeCell 3 (some .int) p s m args meth c) {r : (Int32 × Mx)} {X : Mx} (hW : Wd g σ X s H locs) (hl : lv_has ls 3 [(0, .ref a), (1, .int x1)]) (h : f_X7_takeCell_32 σ a x1 X = some r) : W p l e (rmZ 3 63) s m args below meth c H locs 0 0 (QI g σ below args s r) (F0 m 32 ls []) := by
  have hx := C.x
  have hb := C.b
  unfold f_X7_takeCell_32 at h
  refine lv_aload_n hx hb dX7_takeCell_32 rfl (lv_at hl 0 rfl) ?_
  refine lv_sipush (v := 999) hx hb dX7_takeCell_33 (by decide) ?_
  obtain ⟨v3, X2, h1, h⟩ := bnd2_inv h
  refine r_cI hW (run_V (rest := []) C hW (t_X7_takeNumber h1) mk_X7_takeNumber vk_X7_149 (kd_X7_takeNumber h1) rfl rfl (by decide) ⟨Nat.le_of_ble_eq_true rfl, Nat.le_of_ble_eq_true rfl⟩ ⟨Nat.zero_le _, Nat.zero_le _⟩ rfl rfl (Nat.le_of_ble_eq_true rfl) hl.1 dX7_takeCell_36) (fun H locs hW _ => ?_)
  refine lv_istore_n (lv' := [(2, .int v3), (0, .ref a), (1, .int x1)]) hx hb dX7_takeCell_39 rfl hl (by decide) rfl (fun ls hl => ?_)
  refine lv_iload_n hx hb dX7_takeCell_40 rfl (lv_at hl 2 rfl) ?_
  refine r_br h (lv_if_eq (tgt := 49) hx hb dX7_takeCell_41 (by decide)) (fun h => ?_) (fun h => ?_)
  · refine lv_iload_n hx hb dX7_takeCell_49 rfl (lv_at hl 0 rfl) ?_
    exact r_iret C hW (Option.some.inj h).symm rfl dX7_takeCell_50
  · refine lv_iload_n hx hb dX7_takeCell_44 rfl (lv_at hl 0 rfl) ?_
    refine lv_ineg hx hb dX7_takeCell_45 ?_
    refine lv_goto (tgt := 50) hx hb dX7_takeCell_46 (by decide) ?_
    exact r_iret C hW (Option.some.inj h).symm rfl dX7_takeCell_50
theorem kd_X7_takeCell {X : Mx} {r : (Int32 × Mx)} {a : Nat} (h : f_X7_takeCell σ X a = some r) : shK σ a = 6 := (grd_inv h).1
set_option maxRecDepth 20000 in
set_option maxHeartbeats 2000000 in
theorem t_X7_takeCell {X : Mx} {r : (Int32 × Mx)} {a : Nat} (h : f_X7_takeCell σ X a = some r) : MtI g l yX7_takeCell cX7_takeCell 3 (some .int) 3 63 [.ref a] σ X r := by
  refine met_of mk_X7_takeCell (Nat.le_of_ble_eq_true rfl) (fun p e s m args below meth c ls C hW hl => ?_)
  have hx := C.x
  have hb := C.b
  have hl : lv_has ls 3 [(0, .ref a)] := hl
  unfold f_X7_takeCell at h
  obtain ⟨hk0, h⟩ := grd_inv h
  refine lv_aload_n hx hb dX7_takeCell_0 rfl (lv_at hl 0 rfl) ?_
  refine lv_bipush (v := 95) hx hb dX7_takeCell_1 (by decide) ?_
  obtain ⟨v2, h1, h⟩ := bnd_inv h
  refine r_cI hW (run_V (rest := []) C hW (t_X7_isSign h1) mk_X7_isSign vk_X7_218 (kd_X7_isSign h1) rfl rfl (by decide) ⟨Nat.le_of_ble_eq_true rfl, Nat.le_of_ble_eq_true rfl⟩ ⟨Nat.zero_le _, Nat.zero_le _⟩ rfl rfl (Nat.le_of_ble_eq_true rfl) hl.1 dX7_takeCell_3) (fun H locs hW _ => ?_)
  refine r_br h (lv_if_eq (tgt := 17) hx hb dX7_takeCell_6 (by decide)) (fun h => ?_) (fun h => ?_)
  · refine lv_aload_n hx hb dX7_takeCell_17 rfl (lv_at hl 0 rfl) ?_
    refine lv_bipush (v := 45) hx hb dX7_takeCell_18 (by decide) ?_
    obtain ⟨v4, h3, h⟩ := bnd_inv h
    refine r_cI hW (run_V (rest := []) C hW (t_X7_isSign h3) mk_X7_isSign vk_X7_218 (kd_X7_isSign h3) rfl rfl (by decide) ⟨Nat.le_of_ble_eq_true rfl, Nat.le_of_ble_eq_true rfl⟩ ⟨Nat.zero_le _, Nat.zero_le _⟩ rfl rfl (Nat.le_of_ble_eq_true rfl) hl.1 dX7_takeCell_20) (fun H locs hW _ => ?_)
    refine lv_istore_n (lv' := [(1, .int v4), (0, .ref a)]) hx hb dX7_takeCell_23 rfl hl (by decide) rfl (fun ls hl => ?_)
    refine lv_iload_n hx hb dX7_takeCell_24 rfl (lv_at hl 0 rfl) ?_
    refine r_br h (lv_if_eq (tgt := 32) hx hb dX7_takeCell_25 (by decide)) (fun h => ?_) (fun h => ?_)
    · exact b_X7_takeCell_32 C hW (lv_sub hl [1, 0] rfl) h
    · refine lv_aload_n hx hb dX7_takeCell_28 rfl (lv_at hl 1 rfl) ?_
      obtain ⟨X6, h5, h⟩ := bnd_inv h
      refine r_cV hW (run_V (rest := []) C hW (t_X7_step h5) mk_X7_step vk_X7_61 (kd_X7_step h5) rfl rfl (by decide) ⟨Nat.le_of_ble_eq_true rfl, Nat.le_of_ble_eq_true rfl⟩ ⟨Nat.zero_le _, Nat.zero_le _⟩ rfl rfl (Nat.le_of_ble_eq_true rfl) hl.1 dX7_takeCell_29) (fun H locs hW _ => ?_)
      exact b_X7_takeCell_32 C hW (lv_sub hl [1, 0] rfl) h
  · refine lv_aload_n hx hb dX7_takeCell_9 rfl (lv_at hl 0 rfl) ?_
    refine lv_sipush (v := 9999) hx hb dX7_takeCell_10 (by decide) ?_
    obtain ⟨v9, X8, h7, h⟩ := bnd2_inv h
    refine r_cI hW (run_V (rest := []) C hW (t_X7_passed h7) mk_X7_passed vk_X7_207 (kd_X7_passed h7) rfl rfl (by decide) ⟨Nat.le_of_ble_eq_true rfl, Nat.le_of_ble_eq_true rfl⟩ ⟨Nat.zero_le _, Nat.zero_le _⟩ rfl rfl (Nat.le_of_ble_eq_true rfl) hl.1 dX7_takeCell_13) (fun H locs hW _ => ?_)
    exact r_iret C hW (Option.some.inj h).symm rfl dX7_takeCell_16
set_option maxRecDepth 20000 in
set_option maxHeartbeats 2000000 in
theorem b_X7_takeEditWord_98 {a : Nat} {x1 : Int32} (C : Cx g RX7 cX7_takeEditWord 2 (some .int) p s m args meth c) {r : (Int32 × Mx)} {X : Mx} (hW : Wd g σ X s H locs) (hl : lv_has ls 2 [(0, .ref a), (1, .int x1)]) (h : f_X7_takeEditWord_98 σ a x1 X = some r) : W p l e (rmZ 5 107) s m args below meth c H locs 0 0 (QI g σ below args s r) (F0 m 98 ls []) := by
  have hx := C.x
  have hb := C.b
  unfold f_X7_takeEditWord_98 at h
  refine lv_iload_n hx hb dX7_takeEditWord_98 rfl (lv_at hl 1 rfl) ?_
  refine lv_iconst (v := (-1)) hx hb dX7_takeEditWord_99 (by decide) ?_
  refine r_brn h (lv_icmp_ne (tgt := 115) hx hb dX7_takeEditWord_100 (by decide)) (fun h => ?_) (fun h => ?_)
  · refine lv_aload_n hx hb dX7_takeEditWord_115 rfl (lv_at hl 0 rfl) ?_
    refine lv_iload_n hx hb dX7_takeEditWord_116 rfl (lv_at hl 1 rfl) ?_
    obtain ⟨v3, X2, h1, h⟩ := bnd2_inv h
    refine r_cI hW (run_V (rest := []) C hW (t_X7_passed h1) mk_X7_passed vk_X7_207 (kd_X7_passed h1) rfl rfl (by decide) ⟨Nat.le_of_ble_eq_true rfl, Nat.le_of_ble_eq_true rfl⟩ ⟨Nat.zero_le _, Nat.zero_le _⟩ rfl rfl (Nat.le_of_ble_eq_true rfl) hl.1 dX7_takeEditWord_117) (fun H locs hW _ => ?_)
    exact r_iret C hW (Option.some.inj h).symm rfl dX7_takeEditWord_120
  · refine lv_aload_n hx hb dX7_takeEditWord_103 rfl (lv_at hl 0 rfl) ?_
    refine lv_iconst (v := 1) hx hb dX7_takeEditWord_104 (by decide) ?_
    refine lv_aload_n hx hb dX7_takeEditWord_105 rfl (lv_at hl 0 rfl) ?_
    refine r_gI C hW h fl_X7_104 (by decide) dX7_takeEditWord_106 (fun v4 h => ?_)
    obtain ⟨v7, X6, h5, h⟩ := bnd2_inv h
    refine r_cI hW (run_V (rest := []) C hW (t_X7_fail h5) mk_X7_fail vk_X7_107 (kd_X7_fail h5) rfl rfl (by decide) ⟨Nat.le_of_ble_eq_true rfl, Nat.le_of_ble_eq_true rfl⟩ ⟨Nat.zero_le _, Nat.zero_le _⟩ rfl rfl (Nat.le_of_ble_eq_true rfl) hl.1 dX7_takeEditWord_109) (fun H locs hW _ => ?_)
    refine lv_goto (tgt := 120) hx hb dX7_takeEditWord_112 (by decide) ?_
    exact r_iret C hW (Option.some.inj h).symm rfl dX7_takeEditWord_120
theorem kd_X7_takeEditWord {X : Mx} {r : (Int32 × Mx)} {a : Nat} (h : f_X7_takeEditWord σ X a = some r) : shK σ a = 6 := (grd_inv h).1
set_option maxRecDepth 20000 in
set_option maxHeartbeats 2000000 in
theorem t_X7_takeEditWord {X : Mx} {r : (Int32 × Mx)} {a : Nat} (h : f_X7_takeEditWord σ X a = some r) : MtI g l yX7_takeEditWord cX7_takeEditWord 2 (some .int) 5 107 [.ref a] σ X r := by
  refine met_of mk_X7_takeEditWord (Nat.le_of_ble_eq_true rfl) (fun p e s m args below meth c ls C hW hl => ?_)
  have hx := C.x
  have hb := C.b
  have hl : lv_has ls 2 [(0, .ref a)] := hl
  unfold f_X7_takeEditWord at h
  obtain ⟨hk0, h⟩ := grd_inv h
  refine lv_iconst (v := (-1)) hx hb dX7_takeEditWord_0 (by decide) ?_
  refine lv_istore_n (lv' := [(1, .int (-1)), (0, .ref a)]) hx hb dX7_takeEditWord_1 rfl hl (by decide) rfl (fun ls hl => ?_)
  refine lv_aload_n hx hb dX7_takeEditWord_2 rfl (lv_at hl 1 rfl) ?_
  refine r_ldcS (w := 7) C rfl (by decide) rfl dX7_takeEditWord_3 ?_
  obtain ⟨v2, h1, h⟩ := bnd_inv h
  refine r_cI hW (run_V (rest := []) C hW (t_X7_isWord h1) mk_X7_isWord vk_X7_75 (kd_X7_isWord h1) rfl rfl (by decide) ⟨Nat.le_of_ble_eq_true rfl, Nat.le_of_ble_eq_true rfl⟩ ⟨Nat.zero_le _, Nat.zero_le _⟩ rfl rfl (Nat.le_of_ble_eq_true rfl) hl.1 dX7_takeEditWord_5) (fun H locs hW _ => ?_)
  refine r_br h (lv_if_eq (tgt := 16) hx hb dX7_takeEditWord_8 (by decide)) (fun h => ?_) (fun h => ?_)
  · refine lv_aload_n hx hb dX7_takeEditWord_16 rfl (lv_at hl 1 rfl) ?_
    refine r_ldcS (w := 8) C rfl (by decide) rfl dX7_takeEditWord_17 ?_
    obtain ⟨v4, h3, h⟩ := bnd_inv h
    refine r_cI hW (run_V (rest := []) C hW (t_X7_isWord h3) mk_X7_isWord vk_X7_75 (kd_X7_isWord h3) rfl rfl (by decide) ⟨Nat.le_of_ble_eq_true rfl, Nat.le_of_ble_eq_true rfl⟩ ⟨Nat.zero_le _, Nat.zero_le _⟩ rfl rfl (Nat.le_of_ble_eq_true rfl) hl.1 dX7_takeEditWord_19) (fun H locs hW _ => ?_)
    refine r_br h (lv_if_eq (tgt := 30) hx hb dX7_takeEditWord_22 (by decide)) (fun h => ?_) (fun h => ?_)
    · refine lv_aload_n hx hb dX7_takeEditWord_30 rfl (lv_at hl 1 rfl) ?_
      refine r_ldcS (w := 9) C rfl (by decide) rfl dX7_takeEditWord_31 ?_
      obtain ⟨v6, h5, h⟩ := bnd_inv h
      refine r_cI hW (run_V (rest := []) C hW (t_X7_isWord h5) mk_X7_isWord vk_X7_75 (kd_X7_isWord h5) rfl rfl (by decide) ⟨Nat.le_of_ble_eq_true rfl, Nat.le_of_ble_eq_true rfl⟩ ⟨Nat.zero_le _, Nat.zero_le _⟩ rfl rfl (Nat.le_of_ble_eq_true rfl) hl.1 dX7_takeEditWord_33) (fun H locs hW _ => ?_)
      refine r_br h (lv_if_eq (tgt := 44) hx hb dX7_takeEditWord_36 (by decide)) (fun h => ?_) (fun h => ?_)
      · refine lv_aload_n hx hb dX7_takeEditWord_44 rfl (lv_at hl 1 rfl) ?_
        refine r_ldcS (w := 10) C rfl (by decide) rfl dX7_takeEditWord_45 ?_
        obtain ⟨v8, h7, h⟩ := bnd_inv h
        refine r_cI hW (run_V (rest := []) C hW (t_X7_isWord h7) mk_X7_isWord vk_X7_75 (kd_X7_isWord h7) rfl rfl (by decide) ⟨Nat.le_of_ble_eq_true rfl, Nat.le_of_ble_eq_true rfl⟩ ⟨Nat.zero_le _, Nat.zero_le _⟩ rfl rfl (Nat.le_of_ble_eq_true rfl) hl.1 dX7_takeEditWord_47) (fun H locs hW _ => ?_)
        refine r_br h (lv_if_eq (tgt := 58) hx hb dX7_takeEditWord_50 (by decide)) (fun h => ?_) (fun h => ?_)
        · refine lv_aload_n hx hb dX7_takeEditWord_58 rfl (lv_at hl 1 rfl) ?_
          refine r_ldcS (w := 11) C rfl (by decide) rfl dX7_takeEditWord_59 ?_
          obtain ⟨v10, h9, h⟩ := bnd_inv h
          refine r_cI hW (run_V (rest := []) C hW (t_X7_isWord h9) mk_X7_isWord vk_X7_75 (kd_X7_isWord h9) rfl rfl (by decide) ⟨Nat.le_of_ble_eq_true rfl, Nat.le_of_ble_eq_true rfl⟩ ⟨Nat.zero_le _, Nat.zero_le _⟩ rfl rfl (Nat.le_of_ble_eq_true rfl) hl.1 dX7_takeEditWord_61) (fun H locs hW _ => ?_)
          refine r_br h (lv_if_eq (tgt := 72) hx hb dX7_takeEditWord_64 (by decide)) (fun h => ?_) (fun h => ?_)
          · refine lv_aload_n hx hb dX7_takeEditWord_72 rfl (lv_at hl 1 rfl) ?_
            refine r_ldcS (w := 12) C rfl (by decide) rfl dX7_takeEditWord_73 ?_
            obtain ⟨v12, h11, h⟩ := bnd_inv h
            refine r_cI hW (run_V (rest := []) C hW (t_X7_isWord h11) mk_X7_isWord vk_X7_75 (kd_X7_isWord h11) rfl rfl (by decide) ⟨Nat.le_of_ble_eq_true rfl, Nat.le_of_ble_eq_true rfl⟩ ⟨Nat.zero_le _, Nat.zero_le _⟩ rfl rfl (Nat.le_of_ble_eq_true rfl) hl.1 dX7_takeEditWord_75) (fun H locs hW _ => ?_)
            refine r_br h (lv_if_eq (tgt := 86) hx hb dX7_takeEditWord_78 (by decide)) (fun h => ?_) (fun h => ?_)
            · refine lv_aload_n hx hb dX7_takeEditWord_86 rfl (lv_at hl 1 rfl) ?_
              refine r_ldcS (w := 13) C rfl (by decide) rfl dX7_takeEditWord_87 ?_
              obtain ⟨v14, h13, h⟩ := bnd_inv h
              refine r_cI hW (run_V (rest := []) C hW (t_X7_isWord h13) mk_X7_isWord vk_X7_75 (kd_X7_isWord h13) rfl rfl (by decide) ⟨Nat.le_of_ble_eq_true rfl, Nat.le_of_ble_eq_true rfl⟩ ⟨Nat.zero_le _, Nat.zero_le _⟩ rfl rfl (Nat.le_of_ble_eq_true rfl) hl.1 dX7_takeEditWord_89) (fun H locs hW _ => ?_)
              refine r_br h (lv_if_eq (tgt := 98) hx hb dX7_takeEditWord_92 (by decide)) (fun h => ?_) (fun h => ?_)
              · exact b_X7_takeEditWord_98 C hW (lv_sub hl [1, 0] rfl) h
              · refine lv_bipush (v := 6) hx hb dX7_takeEditWord_95 (by decide) ?_
                refine lv_istore_n (lv' := [(1, .int 6), (0, .ref a)]) hx hb dX7_takeEditWord_97 rfl hl (by decide) rfl (fun ls hl => ?_)
                exact b_X7_takeEditWord_98 C hW (lv_sub hl [1, 0] rfl) h
            · refine lv_iconst (v := 5) hx hb dX7_takeEditWord_81 (by decide) ?_
              refine lv_istore_n (lv' := [(1, .int 5), (0, .ref a)]) hx hb dX7_takeEditWord_82 rfl hl (by decide) rfl (fun ls hl => ?_)
              refine lv_goto (tgt := 98) hx hb dX7_takeEditWord_83 (by decide) ?_
              exact b_X7_takeEditWord_98 C hW (lv_sub hl [1, 0] rfl) h
          · refine lv_iconst (v := 3) hx hb dX7_takeEditWord_67 (by decide) ?_
            refine lv_istore_n (lv' := [(1, .int 3), (0, .ref a)]) hx hb dX7_takeEditWord_68 rfl hl (by decide) rfl (fun ls hl => ?_)
            refine lv_goto (tgt := 98) hx hb dX7_takeEditWord_69 (by decide) ?_
            exact b_X7_takeEditWord_98 C hW (lv_sub hl [1, 0] rfl) h
        · refine lv_iconst (v := 4) hx hb dX7_takeEditWord_53 (by decide) ?_
          refine lv_istore_n (lv' := [(1, .int 4), (0, .ref a)]) hx hb dX7_takeEditWord_54 rfl hl (by decide) rfl (fun ls hl => ?_)
          refine lv_goto (tgt := 98) hx hb dX7_takeEditWord_55 (by decide) ?_
          exact b_X7_takeEditWord_98 C hW (lv_sub hl [1, 0] rfl) h
      · refine lv_iconst (v := 2) hx hb dX7_takeEditWord_39 (by decide) ?_
        refine lv_istore_n (lv' := [(1, .int 2), (0, .ref a)]) hx hb dX7_takeEditWord_40 rfl hl (by decide) rfl (fun ls hl => ?_)
        refine lv_goto (tgt := 98) hx hb dX7_takeEditWord_41 (by decide) ?_
        exact b_X7_takeEditWord_98 C hW (lv_sub hl [1, 0] rfl) h
    · refine lv_iconst (v := 1) hx hb dX7_takeEditWord_25 (by decide) ?_
      refine lv_istore_n (lv' := [(1, .int 1), (0, .ref a)]) hx hb dX7_takeEditWord_26 rfl hl (by decide) rfl (fun ls hl => ?_)
      refine lv_goto (tgt := 98) hx hb dX7_takeEditWord_27 (by decide) ?_
      exact b_X7_takeEditWord_98 C hW (lv_sub hl [1, 0] rfl) h
  · refine lv_iconst (v := 0) hx hb dX7_takeEditWord_11 (by decide) ?_
    refine lv_istore_n (lv' := [(1, .int 0), (0, .ref a)]) hx hb dX7_takeEditWord_12 rfl hl (by decide) rfl (fun ls hl => ?_)
    refine lv_goto (tgt := 98) hx hb dX7_takeEditWord_13 (by decide) ?_
    exact b_X7_takeEditWord_98 C hW (lv_sub hl [1, 0] rfl) h
set_option maxRecDepth 20000 in
set_option maxHeartbeats 2000000 in
theorem b_X7_readEdit_177 {a : Nat} {x1 : Int32} {x2 : Int32} {x3 : Int32} {x4 : Int32} {x5 : Int32} {x6 : Int32} (C : Cx g RX7 cX7_readEdit 7 none p s m args meth c) {r : Mx} {X : Mx} (hW : Wd g σ X s H locs) (hl : lv_has ls 7 [(0, .ref a), (1, .int x1), (2, .int x2), (3, .int x3), (4, .int x4), (5, .int x5), (6, .int x6)]) (h : f_X7_readEdit_177 σ a x1 x2 x3 x4 x5 x6 X = some r) : W p l e (rmZ 6 128) s m args below meth c H locs 0 0 (QV g σ below args s r) (F0 m 177 ls []) := by
  have hx := C.x
  have hb := C.b
  unfold f_X7_readEdit_177 at h
  refine lv_aload_n hx hb dX7_readEdit_177 rfl (lv_at hl 0 rfl) ?_
  obtain ⟨X2, h1, h⟩ := bnd_inv h
  refine r_cV hW (run_V (rest := []) C hW (t_X7_takeSemicolon h1) mk_X7_takeSemicolon vk_X7_139 (kd_X7_takeSemicolon h1) rfl rfl (by decide) ⟨Nat.le_of_ble_eq_true rfl, Nat.le_of_ble_eq_true rfl⟩ ⟨Nat.zero_le _, Nat.zero_le _⟩ rfl rfl (Nat.le_of_ble_eq_true rfl) hl.1 dX7_readEdit_178) (fun H locs hW _ => ?_)
  refine lv_aload_n hx hb dX7_readEdit_181 rfl (lv_at hl 0 rfl) ?_
  refine r_gI C hW h fl_X7_45 (by decide) dX7_readEdit_182 (fun v3 h => ?_)
  refine r_brn h (lv_if_ne (tgt := 215) hx hb dX7_readEdit_185 (by decide)) (fun h => ?_) (fun h => ?_)
  · exact r_vret C hW (Option.some.inj h).symm dX7_readEdit_215
  · refine lv_aload_n hx hb dX7_readEdit_188 rfl (lv_at hl 0 rfl) ?_
    refine r_gR C hW h fl_X7_18 (by decide) dX7_readEdit_189 (fun b4 h => ?_)
    refine lv_iload_n hx hb dX7_readEdit_192 rfl (lv_at hl 3 rfl) ?_
    refine lv_iload_n hx hb dX7_readEdit_193 rfl (lv_at hl 1 rfl) ?_
    refine lv_iload hx hb dX7_readEdit_194 (lv_at hl 4 rfl) ?_
    refine lv_iload hx hb dX7_readEdit_196 (lv_at hl 5 rfl) ?_
    refine lv_iload hx hb dX7_readEdit_198 (lv_at hl 6 rfl) ?_
    obtain ⟨v7, X6, h5, h⟩ := bnd2_inv h
    refine r_cI hW (run_V (rest := []) C hW (t_X5_doEdit h5) mk_X5_doEdit vk_X7_189 (kd_X5_doEdit h5) rfl rfl (by decide) ⟨Nat.le_of_ble_eq_true rfl, Nat.le_of_ble_eq_true rfl⟩ ⟨Nat.zero_le _, Nat.zero_le _⟩ rfl rfl (Nat.le_of_ble_eq_true rfl) hl.1 dX7_readEdit_200) (fun H locs hW _ => ?_)
    refine lv_iconst (v := (-1)) hx hb dX7_readEdit_203 (by decide) ?_
    refine r_brn h (lv_icmp_ne (tgt := 215) hx hb dX7_readEdit_204 (by decide)) (fun h => ?_) (fun h => ?_)
    · exact r_vret C hW (Option.some.inj h).symm dX7_readEdit_215
    · refine lv_aload_n hx hb dX7_readEdit_207 rfl (lv_at hl 0 rfl) ?_
      refine lv_bipush (v := 6) hx hb dX7_readEdit_208 (by decide) ?_
      refine lv_iload_n hx hb dX7_readEdit_210 rfl (lv_at hl 2 rfl) ?_
      obtain ⟨v10, X9, h8, h⟩ := bnd2_inv h
      refine r_cI hW (run_V (rest := []) C hW (t_X7_fail h8) mk_X7_fail vk_X7_107 (kd_X7_fail h8) rfl rfl (by decide) ⟨Nat.le_of_ble_eq_true rfl, Nat.le_of_ble_eq_true rfl⟩ ⟨Nat.zero_le _, Nat.zero_le _⟩ rfl rfl (Nat.le_of_ble_eq_true rfl) hl.1 dX7_readEdit_211) (fun H locs hW _ => ?_)
      refine lv_pop hx hb dX7_readEdit_214 rfl ?_
      exact r_vret C hW (Option.some.inj h).symm dX7_readEdit_215
set_option maxRecDepth 20000 in
set_option maxHeartbeats 2000000 in
theorem b_X7_readEdit_24 {a : Nat} {x1 : Int32} {x2 : Int32} (C : Cx g RX7 cX7_readEdit 7 none p s m args meth c) {r : Mx} {X : Mx} (hW : Wd g σ X s H locs) (hl : lv_has ls 7 [(0, .ref a), (1, .int x1), (2, .int x2)]) (h : f_X7_readEdit_24 σ a x1 x2 X = some r) : W p l e (rmZ 6 128) s m args below meth c H locs 0 0 (QV g σ below args s r) (F0 m 24 ls []) := by
  have hx := C.x
  have hb := C.b
  unfold f_X7_readEdit_24 at h
  refine lv_aload_n hx hb dX7_readEdit_24 rfl (lv_at hl 0 rfl) ?_
  obtain ⟨X2, h1, h⟩ := bnd_inv h
  refine r_cV hW (run_V (rest := []) C hW (t_X7_step h1) mk_X7_step vk_X7_61 (kd_X7_step h1) rfl rfl (by decide) ⟨Nat.le_of_ble_eq_true rfl, Nat.le_of_ble_eq_true rfl⟩ ⟨Nat.zero_le _, Nat.zero_le _⟩ rfl rfl (Nat.le_of_ble_eq_true rfl) hl.1 dX7_readEdit_25) (fun H locs hW _ => ?_)
  refine lv_aload_n hx hb dX7_readEdit_28 rfl (lv_at hl 0 rfl) ?_
  obtain ⟨v5, X4, h3, h⟩ := bnd2_inv h
  refine r_cI hW (run_V (rest := []) C hW (t_X7_takeEditWord h3) mk_X7_takeEditWord vk_X7_186 (kd_X7_takeEditWord h3) rfl rfl (by decide) ⟨Nat.le_of_ble_eq_true rfl, Nat.le_of_ble_eq_true rfl⟩ ⟨Nat.zero_le _, Nat.zero_le _⟩ rfl rfl (Nat.le_of_ble_eq_true rfl) hl.1 dX7_readEdit_29) (fun H locs hW _ => ?_)
  refine lv_istore_n (lv' := [(3, .int v5), (0, .ref a), (1, .int x1), (2, .int x2)]) hx hb dX7_readEdit_32 rfl hl (by decide) rfl (fun ls hl => ?_)
  refine lv_iconst (v := 0) hx hb dX7_readEdit_33 (by decide) ?_
  refine lv_istore (lv' := [(4, .int 0), (3, .int v5), (0, .ref a), (1, .int x1), (2, .int x2)]) hx hb dX7_readEdit_34 hl (by decide) rfl (fun ls hl => ?_)
  refine lv_iconst (v := 0) hx hb dX7_readEdit_36 (by decide) ?_
  refine lv_istore (lv' := [(5, .int 0), (4, .int 0), (3, .int v5), (0, .ref a), (1, .int x1), (2, .int x2)]) hx hb dX7_readEdit_37 hl (by decide) rfl (fun ls hl => ?_)
  refine lv_iconst (v := 0) hx hb dX7_readEdit_39 (by decide) ?_
  refine lv_istore (lv' := [(6, .int 0), (5, .int 0), (4, .int 0), (3, .int v5), (0, .ref a), (1, .int x1), (2, .int x2)]) hx hb dX7_readEdit_40 hl (by decide) rfl (fun ls hl => ?_)
  refine lv_iload_n hx hb dX7_readEdit_42 rfl (lv_at hl 3 rfl) ?_
  refine r_case h (fun ec h => ?_) (fun nc0 h => ?_)
  · refine lv_tableIn (tgt := 80) (off := 37) hx hb dX7_readEdit_43 (by rw [ec]; decide) (by rw [ec]; decide) (by rw [ec]; rfl) (by decide) ?_
    refine lv_aload_n hx hb dX7_readEdit_80 rfl (lv_at hl 4 rfl) ?_
    refine lv_bipush (v := 19) hx hb dX7_readEdit_81 (by decide) ?_
    obtain ⟨v8, X7, h6, h⟩ := bnd2_inv h
    refine r_cI hW (run_V (rest := []) C hW (t_X7_takeNumber h6) mk_X7_takeNumber vk_X7_149 (kd_X7_takeNumber h6) rfl rfl (by decide) ⟨Nat.le_of_ble_eq_true rfl, Nat.le_of_ble_eq_true rfl⟩ ⟨Nat.zero_le _, Nat.zero_le _⟩ rfl rfl (Nat.le_of_ble_eq_true rfl) hl.1 dX7_readEdit_83) (fun H locs hW _ => ?_)
    refine lv_istore (lv' := [(4, .int v8), (6, .int 0), (5, .int 0), (3, .int v5), (0, .ref a), (1, .int x1), (2, .int x2)]) hx hb dX7_readEdit_86 hl (by decide) rfl (fun ls hl => ?_)
    refine lv_aload_n hx hb dX7_readEdit_88 rfl (lv_at hl 4 rfl) ?_
    refine lv_sipush (v := 9999) hx hb dX7_readEdit_89 (by decide) ?_
    obtain ⟨v11, X10, h9, h⟩ := bnd2_inv h
    refine r_cI hW (run_V (rest := []) C hW (t_X7_takeNumber h9) mk_X7_takeNumber vk_X7_149 (kd_X7_takeNumber h9) rfl rfl (by decide) ⟨Nat.le_of_ble_eq_true rfl, Nat.le_of_ble_eq_true rfl⟩ ⟨Nat.zero_le _, Nat.zero_le _⟩ rfl rfl (Nat.le_of_ble_eq_true rfl) hl.1 dX7_readEdit_92) (fun H locs hW _ => ?_)
    refine lv_istore (lv' := [(5, .int v11), (4, .int v8), (6, .int 0), (3, .int v5), (0, .ref a), (1, .int x1), (2, .int x2)]) hx hb dX7_readEdit_95 hl (by decide) rfl (fun ls hl => ?_)
    refine lv_aload_n hx hb dX7_readEdit_97 rfl (lv_at hl 4 rfl) ?_
    obtain ⟨v14, X13, h12, h⟩ := bnd2_inv h
    refine r_cI hW (run_V (rest := []) C hW (t_X7_takeCell h12) mk_X7_takeCell vk_X7_161 (kd_X7_takeCell h12) rfl rfl (by decide) ⟨Nat.le_of_ble_eq_true rfl, Nat.le_of_ble_eq_true rfl⟩ ⟨Nat.zero_le _, Nat.zero_le _⟩ rfl rfl (Nat.le_of_ble_eq_true rfl) hl.1 dX7_readEdit_98) (fun H locs hW _ => ?_)
    refine lv_istore (lv' := [(6, .int v14), (5, .int v11), (4, .int v8), (3, .int v5), (0, .ref a), (1, .int x1), (2, .int x2)]) hx hb dX7_readEdit_101 hl (by decide) rfl (fun ls hl => ?_)
    refine lv_goto (tgt := 177) hx hb dX7_readEdit_103 (by decide) ?_
    exact b_X7_readEdit_177 C hW (lv_sub hl [4, 5, 6, 3, 2, 1, 0] rfl) h
  refine r_case h (fun ec h => ?_) (fun nc1 h => ?_)
  · refine lv_tableIn (tgt := 106) (off := 63) hx hb dX7_readEdit_43 (by rw [ec]; decide) (by rw [ec]; decide) (by rw [ec]; rfl) (by decide) ?_
    refine lv_aload_n hx hb dX7_readEdit_106 rfl (lv_at hl 4 rfl) ?_
    refine lv_bipush (v := 19) hx hb dX7_readEdit_107 (by decide) ?_
    obtain ⟨v17, X16, h15, h⟩ := bnd2_inv h
    refine r_cI hW (run_V (rest := []) C hW (t_X7_takeNumber h15) mk_X7_takeNumber vk_X7_149 (kd_X7_takeNumber h15) rfl rfl (by decide) ⟨Nat.le_of_ble_eq_true rfl, Nat.le_of_ble_eq_true rfl⟩ ⟨Nat.zero_le _, Nat.zero_le _⟩ rfl rfl (Nat.le_of_ble_eq_true rfl) hl.1 dX7_readEdit_109) (fun H locs hW _ => ?_)
    refine lv_istore (lv' := [(4, .int v17), (6, .int 0), (5, .int 0), (3, .int v5), (0, .ref a), (1, .int x1), (2, .int x2)]) hx hb dX7_readEdit_112 hl (by decide) rfl (fun ls hl => ?_)
    refine lv_goto (tgt := 177) hx hb dX7_readEdit_114 (by decide) ?_
    exact b_X7_readEdit_177 C hW (lv_sub hl [4, 5, 6, 3, 0, 2, 1] rfl) h
  refine r_case h (fun ec h => ?_) (fun nc2 h => ?_)
  · refine lv_tableIn (tgt := 106) (off := 63) hx hb dX7_readEdit_43 (by rw [ec]; decide) (by rw [ec]; decide) (by rw [ec]; rfl) (by decide) ?_
    refine lv_aload_n hx hb dX7_readEdit_106 rfl (lv_at hl 4 rfl) ?_
    refine lv_bipush (v := 19) hx hb dX7_readEdit_107 (by decide) ?_
    obtain ⟨v20, X19, h18, h⟩ := bnd2_inv h
    refine r_cI hW (run_V (rest := []) C hW (t_X7_takeNumber h18) mk_X7_takeNumber vk_X7_149 (kd_X7_takeNumber h18) rfl rfl (by decide) ⟨Nat.le_of_ble_eq_true rfl, Nat.le_of_ble_eq_true rfl⟩ ⟨Nat.zero_le _, Nat.zero_le _⟩ rfl rfl (Nat.le_of_ble_eq_true rfl) hl.1 dX7_readEdit_109) (fun H locs hW _ => ?_)
    refine lv_istore (lv' := [(4, .int v20), (6, .int 0), (5, .int 0), (3, .int v5), (0, .ref a), (1, .int x1), (2, .int x2)]) hx hb dX7_readEdit_112 hl (by decide) rfl (fun ls hl => ?_)
    refine lv_goto (tgt := 177) hx hb dX7_readEdit_114 (by decide) ?_
    exact b_X7_readEdit_177 C hW (lv_sub hl [4, 5, 6, 3, 0, 2, 1] rfl) h
  refine r_case h (fun ec h => ?_) (fun nc3 h => ?_)
  · refine lv_tableIn (tgt := 135) (off := 92) hx hb dX7_readEdit_43 (by rw [ec]; decide) (by rw [ec]; decide) (by rw [ec]; rfl) (by decide) ?_
    refine lv_aload_n hx hb dX7_readEdit_135 rfl (lv_at hl 4 rfl) ?_
    refine lv_sipush (v := 9999) hx hb dX7_readEdit_136 (by decide) ?_
    obtain ⟨v23, X22, h21, h⟩ := bnd2_inv h
    refine r_cI hW (run_V (rest := []) C hW (t_X7_takeNumber h21) mk_X7_takeNumber vk_X7_149 (kd_X7_takeNumber h21) rfl rfl (by decide) ⟨Nat.le_of_ble_eq_true rfl, Nat.le_of_ble_eq_true rfl⟩ ⟨Nat.zero_le _, Nat.zero_le _⟩ rfl rfl (Nat.le_of_ble_eq_true rfl) hl.1 dX7_readEdit_139) (fun H locs hW _ => ?_)
    refine lv_istore (lv' := [(4, .int v23), (6, .int 0), (5, .int 0), (3, .int v5), (0, .ref a), (1, .int x1), (2, .int x2)]) hx hb dX7_readEdit_142 hl (by decide) rfl (fun ls hl => ?_)
    refine lv_aload_n hx hb dX7_readEdit_144 rfl (lv_at hl 4 rfl) ?_
    obtain ⟨v26, X25, h24, h⟩ := bnd2_inv h
    refine r_cI hW (run_V (rest := []) C hW (t_X7_takeType h24) mk_X7_takeType vk_X7_136 (kd_X7_takeType h24) rfl rfl (by decide) ⟨Nat.le_of_ble_eq_true rfl, Nat.le_of_ble_eq_true rfl⟩ ⟨Nat.zero_le _, Nat.zero_le _⟩ rfl rfl (Nat.le_of_ble_eq_true rfl) hl.1 dX7_readEdit_145) (fun H locs hW _ => ?_)
    refine lv_istore (lv' := [(5, .int v26), (4, .int v23), (6, .int 0), (3, .int v5), (0, .ref a), (1, .int x1), (2, .int x2)]) hx hb dX7_readEdit_148 hl (by decide) rfl (fun ls hl => ?_)
    refine lv_goto (tgt := 177) hx hb dX7_readEdit_150 (by decide) ?_
    exact b_X7_readEdit_177 C hW (lv_sub hl [4, 5, 6, 3, 1, 0, 2] rfl) h
  refine r_case h (fun ec h => ?_) (fun nc4 h => ?_)
  · refine lv_tableIn (tgt := 117) (off := 74) hx hb dX7_readEdit_43 (by rw [ec]; decide) (by rw [ec]; decide) (by rw [ec]; rfl) (by decide) ?_
    refine lv_aload_n hx hb dX7_readEdit_117 rfl (lv_at hl 4 rfl) ?_
    refine lv_sipush (v := 9999) hx hb dX7_readEdit_118 (by decide) ?_
    obtain ⟨v29, X28, h27, h⟩ := bnd2_inv h
    refine r_cI hW (run_V (rest := []) C hW (t_X7_takeNumber h27) mk_X7_takeNumber vk_X7_149 (kd_X7_takeNumber h27) rfl rfl (by decide) ⟨Nat.le_of_ble_eq_true rfl, Nat.le_of_ble_eq_true rfl⟩ ⟨Nat.zero_le _, Nat.zero_le _⟩ rfl rfl (Nat.le_of_ble_eq_true rfl) hl.1 dX7_readEdit_121) (fun H locs hW _ => ?_)
    refine lv_istore (lv' := [(4, .int v29), (6, .int 0), (5, .int 0), (3, .int v5), (0, .ref a), (1, .int x1), (2, .int x2)]) hx hb dX7_readEdit_124 hl (by decide) rfl (fun ls hl => ?_)
    refine lv_aload_n hx hb dX7_readEdit_126 rfl (lv_at hl 4 rfl) ?_
    obtain ⟨v32, X31, h30, h⟩ := bnd2_inv h
    refine r_cI hW (run_V (rest := []) C hW (t_X7_takeName h30) mk_X7_takeName vk_X7_129 (kd_X7_takeName h30) rfl rfl (by decide) ⟨Nat.le_of_ble_eq_true rfl, Nat.le_of_ble_eq_true rfl⟩ ⟨Nat.zero_le _, Nat.zero_le _⟩ rfl rfl (Nat.le_of_ble_eq_true rfl) hl.1 dX7_readEdit_127) (fun H locs hW _ => ?_)
    refine lv_istore (lv' := [(5, .int v32), (4, .int v29), (6, .int 0), (3, .int v5), (0, .ref a), (1, .int x1), (2, .int x2)]) hx hb dX7_readEdit_130 hl (by decide) rfl (fun ls hl => ?_)
    refine lv_goto (tgt := 177) hx hb dX7_readEdit_132 (by decide) ?_
    exact b_X7_readEdit_177 C hW (lv_sub hl [4, 5, 6, 3, 1, 0, 2] rfl) h
  refine r_case h (fun ec h => ?_) (fun nc5 h => ?_)
  · refine lv_tableIn (tgt := 153) (off := 110) hx hb dX7_readEdit_43 (by rw [ec]; decide) (by rw [ec]; decide) (by rw [ec]; rfl) (by decide) ?_
    refine lv_aload_n hx hb dX7_readEdit_153 rfl (lv_at hl 4 rfl) ?_
    obtain ⟨v35, X34, h33, h⟩ := bnd2_inv h
    refine r_cI hW (run_V (rest := []) C hW (t_X7_takeName h33) mk_X7_takeName vk_X7_129 (kd_X7_takeName h33) rfl rfl (by decide) ⟨Nat.le_of_ble_eq_true rfl, Nat.le_of_ble_eq_true rfl⟩ ⟨Nat.zero_le _, Nat.zero_le _⟩ rfl rfl (Nat.le_of_ble_eq_true rfl) hl.1 dX7_readEdit_154) (fun H locs hW _ => ?_)
    refine lv_istore (lv' := [(4, .int v35), (6, .int 0), (5, .int 0), (3, .int v5), (0, .ref a), (1, .int x1), (2, .int x2)]) hx hb dX7_readEdit_157 hl (by decide) rfl (fun ls hl => ?_)
    refine lv_aload_n hx hb dX7_readEdit_159 rfl (lv_at hl 4 rfl) ?_
    obtain ⟨v38, X37, h36, h⟩ := bnd2_inv h
    refine r_cI hW (run_V (rest := []) C hW (t_X7_takeType h36) mk_X7_takeType vk_X7_136 (kd_X7_takeType h36) rfl rfl (by decide) ⟨Nat.le_of_ble_eq_true rfl, Nat.le_of_ble_eq_true rfl⟩ ⟨Nat.zero_le _, Nat.zero_le _⟩ rfl rfl (Nat.le_of_ble_eq_true rfl) hl.1 dX7_readEdit_160) (fun H locs hW _ => ?_)
    refine lv_istore (lv' := [(5, .int v38), (4, .int v35), (6, .int 0), (3, .int v5), (0, .ref a), (1, .int x1), (2, .int x2)]) hx hb dX7_readEdit_163 hl (by decide) rfl (fun ls hl => ?_)
    refine lv_goto (tgt := 177) hx hb dX7_readEdit_165 (by decide) ?_
    exact b_X7_readEdit_177 C hW (lv_sub hl [4, 5, 6, 3, 1, 0, 2] rfl) h
  refine lv_tableOut (tgt := 168) hx hb dX7_readEdit_43 (sw_out (lo := 0) (n := 5) (sw_s nc5 (sw_s nc4 (sw_s nc3 (sw_s nc2 (sw_s nc1 (sw_0 nc0)))))) (by decide)) (by decide) ?_
  refine lv_aload_n hx hb dX7_readEdit_168 rfl (lv_at hl 4 rfl) ?_
  refine lv_sipush (v := 9999) hx hb dX7_readEdit_169 (by decide) ?_
  obtain ⟨v41, X40, h39, h⟩ := bnd2_inv h
  refine r_cI hW (run_V (rest := []) C hW (t_X7_takeNumber h39) mk_X7_takeNumber vk_X7_149 (kd_X7_takeNumber h39) rfl rfl (by decide) ⟨Nat.le_of_ble_eq_true rfl, Nat.le_of_ble_eq_true rfl⟩ ⟨Nat.zero_le _, Nat.zero_le _⟩ rfl rfl (Nat.le_of_ble_eq_true rfl) hl.1 dX7_readEdit_172) (fun H locs hW _ => ?_)
  refine lv_istore (lv' := [(4, .int v41), (6, .int 0), (5, .int 0), (3, .int v5), (0, .ref a), (1, .int x1), (2, .int x2)]) hx hb dX7_readEdit_175 hl (by decide) rfl (fun ls hl => ?_)
  exact b_X7_readEdit_177 C hW (lv_sub hl [4, 5, 6, 3, 0, 2, 1] rfl) h
theorem kd_X7_readEdit {X : Mx} {r : Mx} {a : Nat} {x1 : Int32} (h : f_X7_readEdit σ X a x1 = some r) : shK σ a = 6 := (grd_inv h).1
set_option maxRecDepth 20000 in
set_option maxHeartbeats 2000000 in
theorem t_X7_readEdit {X : Mx} {r : Mx} {a : Nat} {x1 : Int32} (h : f_X7_readEdit σ X a x1 = some r) : MtV g l yX7_readEdit cX7_readEdit 7 none 6 128 [.ref a, .int x1] σ X r := by
  refine met_of mk_X7_readEdit (Nat.le_of_ble_eq_true rfl) (fun p e s m args below meth c ls C hW hl => ?_)
  have hx := C.x
  have hb := C.b
  have hl : lv_has ls 7 [(0, .ref a), (1, .int x1)] := hl
  unfold f_X7_readEdit at h
  obtain ⟨hk0, h⟩ := grd_inv h
  refine lv_aload_n hx hb dX7_readEdit_0 rfl (lv_at hl 0 rfl) ?_
  refine r_gI C hW h fl_X7_104 (by decide) dX7_readEdit_1 (fun v1 h => ?_)
  refine lv_istore_n (lv' := [(2, .int v1), (0, .ref a), (1, .int x1)]) hx hb dX7_readEdit_4 rfl hl (by decide) rfl (fun ls hl => ?_)
  refine lv_aload_n hx hb dX7_readEdit_5 rfl (lv_at hl 1 rfl) ?_
  refine r_gI C hW h fl_X7_55 (by decide) dX7_readEdit_6 (fun v2 h => ?_)
  refine r_brn h (lv_if_ne (tgt := 24) hx hb dX7_readEdit_9 (by decide)) (fun h => ?_) (fun h => ?_)
  · exact b_X7_readEdit_24 C hW (lv_sub hl [1, 2, 0] rfl) h
  · refine lv_aload_n hx hb dX7_readEdit_12 rfl (lv_at hl 1 rfl) ?_
    refine r_gR C hW h fl_X7_18 (by decide) dX7_readEdit_13 (fun b3 h => ?_)
    obtain ⟨X5, h4, h⟩ := bnd_inv h
    refine r_cV hW (run_V (rest := []) C hW (t_X5_startSides h4) mk_X5_startSides vk_X7_70 (kd_X5_startSides h4) rfl rfl (by decide) ⟨Nat.le_of_ble_eq_true rfl, Nat.le_of_ble_eq_true rfl⟩ ⟨Nat.zero_le _, Nat.zero_le _⟩ rfl rfl (Nat.le_of_ble_eq_true rfl) hl.1 dX7_readEdit_16) (fun H locs hW _ => ?_)
    refine lv_aload_n hx hb dX7_readEdit_19 rfl (lv_at hl 1 rfl) ?_
    refine lv_iconst (v := 1) hx hb dX7_readEdit_20 (by decide) ?_
    refine r_pI C hW h pf_X7_55 (by decide) rfl rfl dX7_readEdit_21 (fun X6 H locs h hW _ => ?_)
    exact b_X7_readEdit_24 C hW (lv_sub hl [1, 2, 0] rfl) h
set_option maxRecDepth 20000 in
set_option maxHeartbeats 2000000 in
theorem b_X7_readRow_204 {a : Nat} (C : Cx g RX7 cX7_readRow 6 none p s m args meth c) {r : Mx} {X : Mx} (hW : Wd g σ X s H locs) (hl : lv_has ls 6 [(0, .ref a)]) (h : f_X7_readRow_204 σ a X = some r) : W p l e (rmZ 4 85) s m args below meth c H locs 0 0 (QV g σ below args s r) (F0 m 204 ls []) := by
  have hx := C.x
  have hb := C.b
  unfold f_X7_readRow_204 at h
  refine lv_aload_n hx hb dX7_readRow_204 rfl (lv_at hl 0 rfl) ?_
  obtain ⟨X2, h1, h⟩ := bnd_inv h
  refine r_cV hW (run_V (rest := []) C hW (t_X7_takeSemicolon h1) mk_X7_takeSemicolon vk_X7_139 (kd_X7_takeSemicolon h1) rfl rfl (by decide) ⟨Nat.le_of_ble_eq_true rfl, Nat.le_of_ble_eq_true rfl⟩ ⟨Nat.zero_le _, Nat.zero_le _⟩ rfl rfl (Nat.le_of_ble_eq_true rfl) hl.1 dX7_readRow_205) (fun H locs hW _ => ?_)
  exact r_vret C hW (Option.some.inj h).symm dX7_readRow_208
set_option maxRecDepth 20000 in
set_option maxHeartbeats 2000000 in
theorem b_X7_readRow_198 {k104 : Mx → Int32 → Option Mx} {a : Nat} {x2 : Int32} {x3 : Int32} (C : Cx g RX7 cX7_readRow 6 none p s m args meth c) {r : Mx} {X : Mx} (hk104 : ∀ {H' : Heap} {locs' : List Loc} {ls' : Array Slot} {X' : Mx} {x3' : Int32}, Wd g σ X' s H' locs' → lv_has ls' 6 [(0, .ref a), (2, .int x2), (3, .int x3')] → k104 X' x3' = some r → W p l e (rmZ 4 85) s m args below meth c H' locs' 0 0 (QV g σ below args s r) (F0 m 104 ls' [])) (hW : Wd g σ X s H locs) (hl : lv_has ls 6 [(0, .ref a), (2, .int x2), (3, .int x3)]) (h : f_X7_readRow_198 k104 σ a x2 x3 X = some r) : W p l e (rmZ 4 85) s m args below meth c H locs 0 0 (QV g σ below args s r) (F0 m 198 ls []) := by
  have hx := C.x
  have hb := C.b
  unfold f_X7_readRow_198 at h
  refine lv_iinc (v := (x3 + 1)) (lv' := [(3, .int (x3 + 1)), (0, .ref a), (2, .int x2)]) hx hb dX7_readRow_198 hl (k := 2) rfl rfl (by decide) rfl (fun ls hl => ?_)
  refine lv_goto (tgt := 104) hx hb dX7_readRow_201 (by decide) ?_
  exact hk104 hW (lv_sub hl [1, 2, 0] rfl) h
set_option maxRecDepth 20000 in
set_option maxHeartbeats 2000000 in
theorem b_X7_readRow_177 {k104 : Mx → Int32 → Option Mx} {a : Nat} {x2 : Int32} {x3 : Int32} {x5 : Int32} (C : Cx g RX7 cX7_readRow 6 none p s m args meth c) {r : Mx} {X : Mx} (hk104 : ∀ {H' : Heap} {locs' : List Loc} {ls' : Array Slot} {X' : Mx} {x3' : Int32}, Wd g σ X' s H' locs' → lv_has ls' 6 [(0, .ref a), (2, .int x2), (3, .int x3')] → k104 X' x3' = some r → W p l e (rmZ 4 85) s m args below meth c H' locs' 0 0 (QV g σ below args s r) (F0 m 104 ls' [])) (hW : Wd g σ X s H locs) (hl : lv_has ls 6 [(0, .ref a), (2, .int x2), (3, .int x3), (5, .int x5)]) (h : f_X7_readRow_177 k104 σ a x2 x3 x5 X = some r) : W p l e (rmZ 4 85) s m args below meth c H locs 0 0 (QV g σ below args s r) (F0 m 177 ls []) := by
  have hx := C.x
  have hb := C.b
  unfold f_X7_readRow_177 at h
  refine lv_aload_n hx hb dX7_readRow_177 rfl (lv_at hl 0 rfl) ?_
  refine r_gI C hW h fl_X7_45 (by decide) dX7_readRow_178 (fun v1 h => ?_)
  refine r_brn h (lv_if_ne (tgt := 198) hx hb dX7_readRow_181 (by decide)) (fun h => ?_) (fun h => ?_)
  · exact b_X7_readRow_198 C hk104 hW (lv_sub hl [0, 1, 2] rfl) h
  · refine lv_aload_n hx hb dX7_readRow_184 rfl (lv_at hl 0 rfl) ?_
    refine r_gR C hW h fl_X7_18 (by decide) dX7_readRow_185 (fun b2 h => ?_)
    refine r_gR C hW h fl_X7_110 (by decide) dX7_readRow_188 (fun b3 h => ?_)
    refine lv_iload_n hx hb dX7_readRow_191 rfl (lv_at hl 1 rfl) ?_
    refine lv_iload_n hx hb dX7_readRow_192 rfl (lv_at hl 2 rfl) ?_
    refine lv_iload hx hb dX7_readRow_193 (lv_at hl 3 rfl) ?_
    obtain ⟨X5, h4, h⟩ := bnd_inv h
    refine r_cV hW (run_V (rest := []) C hW (t_X6_putNumber h4) mk_X6_putNumber vk_X7_174 (kd_X6_putNumber h4) rfl rfl (by decide) ⟨Nat.le_of_ble_eq_true rfl, Nat.le_of_ble_eq_true rfl⟩ ⟨Nat.zero_le _, Nat.zero_le _⟩ rfl rfl (Nat.le_of_ble_eq_true rfl) hl.1 dX7_readRow_195) (fun H locs hW _ => ?_)
    exact b_X7_readRow_198 C hk104 hW (lv_sub hl [0, 1, 2] rfl) h
set_option maxRecDepth 20000 in
set_option maxHeartbeats 2000000 in
theorem b_X7_readRow_104 {a : Nat} {x2 : Int32} (C : Cx g RX7 cX7_readRow 6 none p s m args meth c) {r : Mx} : ∀ (n : Nat) {X : Mx} {x3 : Int32} {H : Heap} {locs : List Loc} {ls : Array Slot} (hW : Wd g σ X s H locs) (hl : lv_has ls 6 [(0, .ref a), (2, .int x2), (3, .int x3)]) (h : f_X7_readRow_104 σ a x2 n X x3 = some r), W p l e (rmZ 4 85) s m args below meth c H locs 0 0 (QV g σ below args s r) (F0 m 104 ls []) := by
  have hx := C.x
  have hb := C.b
  intro n
  induction n with
  | zero =>
    intro X x3 H locs ls hW hl h
    cases (show none = some r from h)
  | succ n ih =>
    intro X x3 H locs ls hW hl h
    rw [f_X7_readRow_104] at h
    refine lv_iload_n hx hb dX7_readRow_104 rfl (lv_at hl 2 rfl) ?_
    refine lv_iconst (v := 5) hx hb dX7_readRow_105 (by decide) ?_
    refine r_br h (lv_icmp_ge (tgt := 204) hx hb dX7_readRow_106 (by decide)) (fun h => ?_) (fun h => ?_)
    · exact b_X7_readRow_204 C hW (lv_sub hl [0] rfl) h
    · refine lv_aload_n hx hb dX7_readRow_109 rfl (lv_at hl 0 rfl) ?_
      refine r_gI C hW h fl_X7_45 (by decide) dX7_readRow_110 (fun v1 h => ?_)
      refine r_brn h (lv_if_ne (tgt := 204) hx hb dX7_readRow_113 (by decide)) (fun h => ?_) (fun h => ?_)
      · exact b_X7_readRow_204 C hW (lv_sub hl [0] rfl) h
      · refine lv_aload_n hx hb dX7_readRow_116 rfl (lv_at hl 0 rfl) ?_
        refine r_gR C hW h fl_X7_18 (by decide) dX7_readRow_117 (fun b2 h => ?_)
        refine r_gR C hW h fl_X7_110 (by decide) dX7_readRow_120 (fun b3 h => ?_)
        refine lv_iload_n hx hb dX7_readRow_123 rfl (lv_at hl 2 rfl) ?_
        obtain ⟨v5, h4, h⟩ := bnd_inv h
        refine r_cI hW (run_V (rest := []) C hW (t_X6_hasColumn h4) mk_X6_hasColumn vk_X7_158 (kd_X6_hasColumn h4) rfl rfl (by decide) ⟨Nat.le_of_ble_eq_true rfl, Nat.le_of_ble_eq_true rfl⟩ ⟨Nat.zero_le _, Nat.zero_le _⟩ rfl rfl (Nat.le_of_ble_eq_true rfl) hl.1 dX7_readRow_124) (fun H locs hW _ => ?_)
        refine r_br h (lv_if_eq (tgt := 204) hx hb dX7_readRow_127 (by decide)) (fun h => ?_) (fun h => ?_)
        · exact b_X7_readRow_204 C hW (lv_sub hl [0] rfl) h
        · refine lv_aload_n hx hb dX7_readRow_130 rfl (lv_at hl 0 rfl) ?_
          refine r_gI C hW h fl_X7_104 (by decide) dX7_readRow_131 (fun v6 h => ?_)
          refine lv_istore (lv' := [(4, .int v6), (0, .ref a), (2, .int x2), (3, .int x3)]) hx hb dX7_readRow_134 hl (by decide) rfl (fun ls hl => ?_)
          refine lv_aload_n hx hb dX7_readRow_136 rfl (lv_at hl 1 rfl) ?_
          obtain ⟨v9, X8, h7, h⟩ := bnd2_inv h
          refine r_cI hW (run_V (rest := []) C hW (t_X7_takeCell h7) mk_X7_takeCell vk_X7_161 (kd_X7_takeCell h7) rfl rfl (by decide) ⟨Nat.le_of_ble_eq_true rfl, Nat.le_of_ble_eq_true rfl⟩ ⟨Nat.zero_le _, Nat.zero_le _⟩ rfl rfl (Nat.le_of_ble_eq_true rfl) hl.1 dX7_readRow_137) (fun H locs hW _ => ?_)
          refine lv_istore (lv' := [(5, .int v9), (4, .int v6), (0, .ref a), (2, .int x2), (3, .int x3)]) hx hb dX7_readRow_140 hl (by decide) rfl (fun ls hl => ?_)
          refine lv_aload_n hx hb dX7_readRow_142 rfl (lv_at hl 2 rfl) ?_
          refine r_gI C hW h fl_X7_45 (by decide) dX7_readRow_143 (fun v10 h => ?_)
          refine r_brn h (lv_if_ne (tgt := 177) hx hb dX7_readRow_146 (by decide)) (fun h => ?_) (fun h => ?_)
          · exact b_X7_readRow_177 C (fun hW hl h => ih hW hl h) hW (lv_sub hl [2, 3, 4, 0] rfl) h
          · refine lv_aload_n hx hb dX7_readRow_149 rfl (lv_at hl 2 rfl) ?_
            refine r_gR C hW h fl_X7_18 (by decide) dX7_readRow_150 (fun b11 h => ?_)
            refine r_gR C hW h fl_X7_110 (by decide) dX7_readRow_153 (fun b12 h => ?_)
            refine r_gR C hW h fl_X7_164 (by decide) dX7_readRow_156 (fun b13 h => ?_)
            refine lv_iload_n hx hb dX7_readRow_159 rfl (lv_at hl 4 rfl) ?_
            refine r_iald C hW h dX7_readRow_160 (fun v14 h => ?_)
            refine lv_iload hx hb dX7_readRow_161 (lv_at hl 0 rfl) ?_
            refine r_cI hW (run_S (rest := []) C hW (t_X8_holds (X := X8)) mk_X8_holds sk_X7_168 ⟨Nat.le_of_ble_eq_true rfl, Nat.le_of_ble_eq_true rfl⟩ ⟨Nat.zero_le _, Nat.zero_le _⟩ rfl rfl (Nat.le_of_ble_eq_true rfl) hl.1 dX7_readRow_163) (fun H locs hW _ => ?_)
            refine r_brn h (lv_if_ne (tgt := 177) hx hb dX7_readRow_166 (by decide)) (fun h => ?_) (fun h => ?_)
            · exact b_X7_readRow_177 C (fun hW hl h => ih hW hl h) hW (lv_sub hl [2, 3, 4, 0] rfl) h
            · refine lv_aload_n hx hb dX7_readRow_169 rfl (lv_at hl 2 rfl) ?_
              refine lv_iconst (v := 5) hx hb dX7_readRow_170 (by decide) ?_
              refine lv_iload hx hb dX7_readRow_171 (lv_at hl 1 rfl) ?_
              obtain ⟨v17, X16, h15, h⟩ := bnd2_inv h
              refine r_cI hW (run_V (rest := []) C hW (t_X7_fail h15) mk_X7_fail vk_X7_107 (kd_X7_fail h15) rfl rfl (by decide) ⟨Nat.le_of_ble_eq_true rfl, Nat.le_of_ble_eq_true rfl⟩ ⟨Nat.zero_le _, Nat.zero_le _⟩ rfl rfl (Nat.le_of_ble_eq_true rfl) hl.1 dX7_readRow_173) (fun H locs hW _ => ?_)
              refine lv_pop hx hb dX7_readRow_176 rfl ?_
              exact b_X7_readRow_177 C (fun hW hl h => ih hW hl h) hW (lv_sub hl [2, 3, 4, 0] rfl) h
set_option maxRecDepth 20000 in
set_option maxHeartbeats 2000000 in
theorem b_X7_readRow_102 {a : Nat} {x2 : Int32} (C : Cx g RX7 cX7_readRow 6 none p s m args meth c) {r : Mx} {X : Mx} (hW : Wd g σ X s H locs) (hl : lv_has ls 6 [(0, .ref a), (2, .int x2)]) (h : f_X7_readRow_102 σ a x2 X = some r) : W p l e (rmZ 4 85) s m args below meth c H locs 0 0 (QV g σ below args s r) (F0 m 102 ls []) := by
  have hx := C.x
  have hb := C.b
  unfold f_X7_readRow_102 at h
  refine lv_iconst (v := 0) hx hb dX7_readRow_102 (by decide) ?_
  refine lv_istore_n (lv' := [(3, .int 0), (0, .ref a), (2, .int x2)]) hx hb dX7_readRow_103 rfl hl (by decide) rfl (fun ls hl => ?_)
  exact b_X7_readRow_104 C FU hW (lv_sub hl [1, 2, 0] rfl) h
set_option maxRecDepth 20000 in
set_option maxHeartbeats 2000000 in
theorem b_X7_readRow_84 {a : Nat} {x2 : Int32} (C : Cx g RX7 cX7_readRow 6 none p s m args meth c) {r : Mx} {X : Mx} (hW : Wd g σ X s H locs) (hl : lv_has ls 6 [(0, .ref a), (2, .int x2)]) (h : f_X7_readRow_84 σ a x2 X = some r) : W p l e (rmZ 4 85) s m args below meth c H locs 0 0 (QV g σ below args s r) (F0 m 84 ls []) := by
  have hx := C.x
  have hb := C.b
  unfold f_X7_readRow_84 at h
  refine lv_aload_n hx hb dX7_readRow_84 rfl (lv_at hl 0 rfl) ?_
  refine r_gI C hW h fl_X7_45 (by decide) dX7_readRow_85 (fun v1 h => ?_)
  refine r_brn h (lv_if_ne (tgt := 102) hx hb dX7_readRow_88 (by decide)) (fun h => ?_) (fun h => ?_)
  · exact b_X7_readRow_102 C hW (lv_sub hl [0, 1] rfl) h
  · refine lv_aload_n hx hb dX7_readRow_91 rfl (lv_at hl 0 rfl) ?_
    refine r_gR C hW h fl_X7_18 (by decide) dX7_readRow_92 (fun b2 h => ?_)
    refine r_gR C hW h fl_X7_110 (by decide) dX7_readRow_95 (fun b3 h => ?_)
    refine lv_iload_n hx hb dX7_readRow_98 rfl (lv_at hl 1 rfl) ?_
    obtain ⟨X5, h4, h⟩ := bnd_inv h
    refine r_cV hW (run_V (rest := []) C hW (t_X6_putRow h4) mk_X6_putRow vk_X7_155 (kd_X6_putRow h4) rfl rfl (by decide) ⟨Nat.le_of_ble_eq_true rfl, Nat.le_of_ble_eq_true rfl⟩ ⟨Nat.zero_le _, Nat.zero_le _⟩ rfl rfl (Nat.le_of_ble_eq_true rfl) hl.1 dX7_readRow_99) (fun H locs hW _ => ?_)
    exact b_X7_readRow_102 C hW (lv_sub hl [0, 1] rfl) h
set_option maxRecDepth 20000 in
set_option maxHeartbeats 2000000 in
theorem b_X7_readRow_36 {a : Nat} (C : Cx g RX7 cX7_readRow 6 none p s m args meth c) {r : Mx} {X : Mx} {y0 : Nat} {y1 : Int32} {y2 : Int32} (hW : Wd g σ X s H locs) (hl : lv_has ls 6 [(0, .ref a)]) (h : f_X7_readRow_36 σ a X y0 y1 y2 = some r) : W p l e (rmZ 4 85) s m args below meth c H locs 0 0 (QV g σ below args s r) (F0 m 36 ls [.int y2, .int y1, .ref y0]) := by
  have hx := C.x
  have hb := C.b
  unfold f_X7_readRow_36 at h
  obtain ⟨X2, h1, h⟩ := bnd_inv h
  refine r_cV hW (run_V (rest := []) C hW (t_X7_takeHead h1) mk_X7_takeHead vk_X7_125 (kd_X7_takeHead h1) rfl rfl (by decide) ⟨Nat.le_of_ble_eq_true rfl, Nat.le_of_ble_eq_true rfl⟩ ⟨Nat.zero_le _, Nat.zero_le _⟩ rfl rfl (Nat.le_of_ble_eq_true rfl) hl.1 dX7_readRow_36) (fun H locs hW _ => ?_)
  refine lv_aload_n hx hb dX7_readRow_39 rfl (lv_at hl 0 rfl) ?_
  refine lv_iconst (v := 1) hx hb dX7_readRow_40 (by decide) ?_
  refine r_pI C hW h pf_X7_51 (by decide) rfl rfl dX7_readRow_41 (fun X3 H locs h hW _ => ?_)
  refine lv_aload_n hx hb dX7_readRow_44 rfl (lv_at hl 0 rfl) ?_
  refine r_gI C hW h fl_X7_104 (by decide) dX7_readRow_45 (fun v4 h => ?_)
  refine lv_istore_n (lv' := [(1, .int v4), (0, .ref a)]) hx hb dX7_readRow_48 rfl hl (by decide) rfl (fun ls hl => ?_)
  refine lv_aload_n hx hb dX7_readRow_49 rfl (lv_at hl 1 rfl) ?_
  refine lv_bipush (v := 19) hx hb dX7_readRow_50 (by decide) ?_
  obtain ⟨v7, X6, h5, h⟩ := bnd2_inv h
  refine r_cI hW (run_V (rest := []) C hW (t_X7_takeNumber h5) mk_X7_takeNumber vk_X7_149 (kd_X7_takeNumber h5) rfl rfl (by decide) ⟨Nat.le_of_ble_eq_true rfl, Nat.le_of_ble_eq_true rfl⟩ ⟨Nat.zero_le _, Nat.zero_le _⟩ rfl rfl (Nat.le_of_ble_eq_true rfl) hl.1 dX7_readRow_52) (fun H locs hW _ => ?_)
  refine lv_istore_n (lv' := [(2, .int v7), (1, .int v4), (0, .ref a)]) hx hb dX7_readRow_55 rfl hl (by decide) rfl (fun ls hl => ?_)
  refine lv_aload_n hx hb dX7_readRow_56 rfl (lv_at hl 2 rfl) ?_
  refine r_gI C hW h fl_X7_45 (by decide) dX7_readRow_57 (fun v8 h => ?_)
  refine r_brn h (lv_if_ne (tgt := 84) hx hb dX7_readRow_60 (by decide)) (fun h => ?_) (fun h => ?_)
  · exact b_X7_readRow_84 C hW (lv_sub hl [2, 0] rfl) h
  · refine lv_aload_n hx hb dX7_readRow_63 rfl (lv_at hl 2 rfl) ?_
    refine r_gR C hW h fl_X7_18 (by decide) dX7_readRow_64 (fun b9 h => ?_)
    refine r_gR C hW h fl_X7_110 (by decide) dX7_readRow_67 (fun b10 h => ?_)
    refine lv_iload_n hx hb dX7_readRow_70 rfl (lv_at hl 0 rfl) ?_
    obtain ⟨v12, h11, h⟩ := bnd_inv h
    refine r_cI hW (run_V (rest := []) C hW (t_X6_hasRow h11) mk_X6_hasRow vk_X7_152 (kd_X6_hasRow h11) rfl rfl (by decide) ⟨Nat.le_of_ble_eq_true rfl, Nat.le_of_ble_eq_true rfl⟩ ⟨Nat.zero_le _, Nat.zero_le _⟩ rfl rfl (Nat.le_of_ble_eq_true rfl) hl.1 dX7_readRow_71) (fun H locs hW _ => ?_)
    refine r_br h (lv_if_eq (tgt := 84) hx hb dX7_readRow_74 (by decide)) (fun h => ?_) (fun h => ?_)
    · exact b_X7_readRow_84 C hW (lv_sub hl [2, 0] rfl) h
    · refine lv_aload_n hx hb dX7_readRow_77 rfl (lv_at hl 2 rfl) ?_
      refine lv_iconst (v := 4) hx hb dX7_readRow_78 (by decide) ?_
      refine lv_iload_n hx hb dX7_readRow_79 rfl (lv_at hl 1 rfl) ?_
      obtain ⟨v15, X14, h13, h⟩ := bnd2_inv h
      refine r_cI hW (run_V (rest := []) C hW (t_X7_fail h13) mk_X7_fail vk_X7_107 (kd_X7_fail h13) rfl rfl (by decide) ⟨Nat.le_of_ble_eq_true rfl, Nat.le_of_ble_eq_true rfl⟩ ⟨Nat.zero_le _, Nat.zero_le _⟩ rfl rfl (Nat.le_of_ble_eq_true rfl) hl.1 dX7_readRow_80) (fun H locs hW _ => ?_)
      refine lv_pop hx hb dX7_readRow_83 rfl ?_
      exact b_X7_readRow_84 C hW (lv_sub hl [2, 0] rfl) h
set_option maxRecDepth 20000 in
set_option maxHeartbeats 2000000 in
theorem b_X7_readRow_13 {a : Nat} (C : Cx g RX7 cX7_readRow 6 none p s m args meth c) {r : Mx} {X : Mx} {y0 : Nat} {y1 : Int32} (hW : Wd g σ X s H locs) (hl : lv_has ls 6 [(0, .ref a)]) (h : f_X7_readRow_13 σ a X y0 y1 = some r) : W p l e (rmZ 4 85) s m args below meth c H locs 0 0 (QV g σ below args s r) (F0 m 13 ls [.int y1, .ref y0]) := by
  have hx := C.x
  have hb := C.b
  unfold f_X7_readRow_13 at h
  refine lv_aload_n hx hb dX7_readRow_13 rfl (lv_at hl 0 rfl) ?_
  refine r_gR C hW h fl_X7_18 (by decide) dX7_readRow_14 (fun b1 h => ?_)
  refine r_gR C hW h fl_X7_110 (by decide) dX7_readRow_17 (fun b2 h => ?_)
  refine r_gI C hW h fl_X7_146 (by decide) dX7_readRow_20 (fun v3 h => ?_)
  refine r_cI hW (run_S (rest := [.int y1, .ref y0]) C hW (t_J6_bitCount_0f7a4 (X := X)) mk_J6_bitCount_0f7a4 sk_X7_119 ⟨Nat.le_of_ble_eq_true rfl, Nat.le_of_ble_eq_true rfl⟩ ⟨Nat.zero_le _, Nat.zero_le _⟩ rfl rfl (Nat.le_of_ble_eq_true rfl) hl.1 dX7_readRow_23) (fun H locs hW _ => ?_)
  refine lv_bipush (v := 12) hx hb dX7_readRow_26 (by decide) ?_
  refine r_br h (lv_icmp_ge (tgt := 35) hx hb dX7_readRow_28 (by decide)) (fun h => ?_) (fun h => ?_)
  · refine lv_iconst (v := 0) hx hb dX7_readRow_35 (by decide) ?_
    exact b_X7_readRow_36 C hW (lv_sub hl [0] rfl) h
  · refine lv_iconst (v := 1) hx hb dX7_readRow_31 (by decide) ?_
    refine lv_goto (tgt := 36) hx hb dX7_readRow_32 (by decide) ?_
    exact b_X7_readRow_36 C hW (lv_sub hl [0] rfl) h
theorem kd_X7_readRow {X : Mx} {r : Mx} {a : Nat} (h : f_X7_readRow σ X a = some r) : shK σ a = 6 := (grd_inv h).1
set_option maxRecDepth 20000 in
set_option maxHeartbeats 2000000 in
theorem t_X7_readRow {X : Mx} {r : Mx} {a : Nat} (h : f_X7_readRow σ X a = some r) : MtV g l yX7_readRow cX7_readRow 6 none 4 85 [.ref a] σ X r := by
  refine met_of mk_X7_readRow (Nat.le_of_ble_eq_true rfl) (fun p e s m args below meth c ls C hW hl => ?_)
  have hx := C.x
  have hb := C.b
  have hl : lv_has ls 6 [(0, .ref a)] := hl
  unfold f_X7_readRow at h
  obtain ⟨hk0, h⟩ := grd_inv h
  refine lv_aload_n hx hb dX7_readRow_0 rfl (lv_at hl 0 rfl) ?_
  refine lv_aload_n hx hb dX7_readRow_1 rfl (lv_at hl 0 rfl) ?_
  refine r_gI C hW h fl_X7_55 (by decide) dX7_readRow_2 (fun v1 h => ?_)
  refine r_brn h (lv_if_ne (tgt := 12) hx hb dX7_readRow_5 (by decide)) (fun h => ?_) (fun h => ?_)
  · refine lv_iconst (v := 0) hx hb dX7_readRow_12 (by decide) ?_
    exact b_X7_readRow_13 C hW (lv_sub hl [0] rfl) h
  · refine lv_iconst (v := 1) hx hb dX7_readRow_8 (by decide) ?_
    refine lv_goto (tgt := 13) hx hb dX7_readRow_9 (by decide) ?_
    exact b_X7_readRow_13 C hW (lv_sub hl [0] rfl) h
theorem kd_X7_readLine {X : Mx} {r : Mx} {a : Nat} (h : f_X7_readLine σ X a = some r) : shK σ a = 6 := (grd_inv h).1
set_option maxRecDepth 20000 in
set_option maxHeartbeats 2000000 in
theorem t_X7_readLine {X : Mx} {r : Mx} {a : Nat} (h : f_X7_readLine σ X a = some r) : MtV g l yX7_readLine cX7_readLine 1 none 7 154 [.ref a] σ X r := by
  refine met_of mk_X7_readLine (Nat.le_of_ble_eq_true rfl) (fun p e s m args below meth c ls C hW hl => ?_)
  have hx := C.x
  have hb := C.b
  have hl : lv_has ls 1 [(0, .ref a)] := hl
  unfold f_X7_readLine at h
  obtain ⟨hk0, h⟩ := grd_inv h
  refine lv_aload_n hx hb dX7_readLine_0 rfl (lv_at hl 0 rfl) ?_
  refine r_ldcS (w := 0) C rfl (by decide) rfl dX7_readLine_1 ?_
  obtain ⟨v2, h1, h⟩ := bnd_inv h
  refine r_cI hW (run_V (rest := []) C hW (t_X7_isWord h1) mk_X7_isWord vk_X7_75 (kd_X7_isWord h1) rfl rfl (by decide) ⟨Nat.le_of_ble_eq_true rfl, Nat.le_of_ble_eq_true rfl⟩ ⟨Nat.zero_le _, Nat.zero_le _⟩ rfl rfl (Nat.le_of_ble_eq_true rfl) hl.1 dX7_readLine_3) (fun H locs hW _ => ?_)
  refine r_br h (lv_if_eq (tgt := 16) hx hb dX7_readLine_6 (by decide)) (fun h => ?_) (fun h => ?_)
  · refine lv_aload_n hx hb dX7_readLine_16 rfl (lv_at hl 0 rfl) ?_
    refine r_ldcS (w := 1) C rfl (by decide) rfl dX7_readLine_17 ?_
    obtain ⟨v4, h3, h⟩ := bnd_inv h
    refine r_cI hW (run_V (rest := []) C hW (t_X7_isWord h3) mk_X7_isWord vk_X7_75 (kd_X7_isWord h3) rfl rfl (by decide) ⟨Nat.le_of_ble_eq_true rfl, Nat.le_of_ble_eq_true rfl⟩ ⟨Nat.zero_le _, Nat.zero_le _⟩ rfl rfl (Nat.le_of_ble_eq_true rfl) hl.1 dX7_readLine_19) (fun H locs hW _ => ?_)
    refine r_br h (lv_if_eq (tgt := 32) hx hb dX7_readLine_22 (by decide)) (fun h => ?_) (fun h => ?_)
    · refine lv_aload_n hx hb dX7_readLine_32 rfl (lv_at hl 0 rfl) ?_
      refine r_ldcS (w := 2) C rfl (by decide) rfl dX7_readLine_33 ?_
      obtain ⟨v6, h5, h⟩ := bnd_inv h
      refine r_cI hW (run_V (rest := []) C hW (t_X7_isWord h5) mk_X7_isWord vk_X7_75 (kd_X7_isWord h5) rfl rfl (by decide) ⟨Nat.le_of_ble_eq_true rfl, Nat.le_of_ble_eq_true rfl⟩ ⟨Nat.zero_le _, Nat.zero_le _⟩ rfl rfl (Nat.le_of_ble_eq_true rfl) hl.1 dX7_readLine_35) (fun H locs hW _ => ?_)
      refine r_br h (lv_if_eq (tgt := 49) hx hb dX7_readLine_38 (by decide)) (fun h => ?_) (fun h => ?_)
      · refine lv_aload_n hx hb dX7_readLine_49 rfl (lv_at hl 0 rfl) ?_
        refine r_ldcS (w := 3) C rfl (by decide) rfl dX7_readLine_50 ?_
        obtain ⟨v8, h7, h⟩ := bnd_inv h
        refine r_cI hW (run_V (rest := []) C hW (t_X7_isWord h7) mk_X7_isWord vk_X7_75 (kd_X7_isWord h7) rfl rfl (by decide) ⟨Nat.le_of_ble_eq_true rfl, Nat.le_of_ble_eq_true rfl⟩ ⟨Nat.zero_le _, Nat.zero_le _⟩ rfl rfl (Nat.le_of_ble_eq_true rfl) hl.1 dX7_readLine_52) (fun H locs hW _ => ?_)
        refine r_br h (lv_if_eq (tgt := 66) hx hb dX7_readLine_55 (by decide)) (fun h => ?_) (fun h => ?_)
        · refine lv_aload_n hx hb dX7_readLine_66 rfl (lv_at hl 0 rfl) ?_
          refine r_ldcS (w := 4) C rfl (by decide) rfl dX7_readLine_67 ?_
          obtain ⟨v10, h9, h⟩ := bnd_inv h
          refine r_cI hW (run_V (rest := []) C hW (t_X7_isWord h9) mk_X7_isWord vk_X7_75 (kd_X7_isWord h9) rfl rfl (by decide) ⟨Nat.le_of_ble_eq_true rfl, Nat.le_of_ble_eq_true rfl⟩ ⟨Nat.zero_le _, Nat.zero_le _⟩ rfl rfl (Nat.le_of_ble_eq_true rfl) hl.1 dX7_readLine_69) (fun H locs hW _ => ?_)
          refine r_br h (lv_if_eq (tgt := 83) hx hb dX7_readLine_72 (by decide)) (fun h => ?_) (fun h => ?_)
          · refine lv_aload_n hx hb dX7_readLine_83 rfl (lv_at hl 0 rfl) ?_
            refine r_ldcS (w := 5) C rfl (by decide) rfl dX7_readLine_84 ?_
            obtain ⟨v12, h11, h⟩ := bnd_inv h
            refine r_cI hW (run_V (rest := []) C hW (t_X7_isWord h11) mk_X7_isWord vk_X7_75 (kd_X7_isWord h11) rfl rfl (by decide) ⟨Nat.le_of_ble_eq_true rfl, Nat.le_of_ble_eq_true rfl⟩ ⟨Nat.zero_le _, Nat.zero_le _⟩ rfl rfl (Nat.le_of_ble_eq_true rfl) hl.1 dX7_readLine_86) (fun H locs hW _ => ?_)
            refine r_br h (lv_if_eq (tgt := 100) hx hb dX7_readLine_89 (by decide)) (fun h => ?_) (fun h => ?_)
            · refine lv_aload_n hx hb dX7_readLine_100 rfl (lv_at hl 0 rfl) ?_
              refine r_ldcS (w := 6) C rfl (by decide) rfl dX7_readLine_101 ?_
              obtain ⟨v14, h13, h⟩ := bnd_inv h
              refine r_cI hW (run_V (rest := []) C hW (t_X7_isWord h13) mk_X7_isWord vk_X7_75 (kd_X7_isWord h13) rfl rfl (by decide) ⟨Nat.le_of_ble_eq_true rfl, Nat.le_of_ble_eq_true rfl⟩ ⟨Nat.zero_le _, Nat.zero_le _⟩ rfl rfl (Nat.le_of_ble_eq_true rfl) hl.1 dX7_readLine_103) (fun H locs hW _ => ?_)
              refine r_br h (lv_if_eq (tgt := 117) hx hb dX7_readLine_106 (by decide)) (fun h => ?_) (fun h => ?_)
              · refine lv_aload_n hx hb dX7_readLine_117 rfl (lv_at hl 0 rfl) ?_
                refine lv_iconst (v := 1) hx hb dX7_readLine_118 (by decide) ?_
                refine lv_aload_n hx hb dX7_readLine_119 rfl (lv_at hl 0 rfl) ?_
                refine r_gI C hW h fl_X7_104 (by decide) dX7_readLine_120 (fun v15 h => ?_)
                obtain ⟨v18, X17, h16, h⟩ := bnd2_inv h
                refine r_cI hW (run_V (rest := []) C hW (t_X7_fail h16) mk_X7_fail vk_X7_107 (kd_X7_fail h16) rfl rfl (by decide) ⟨Nat.le_of_ble_eq_true rfl, Nat.le_of_ble_eq_true rfl⟩ ⟨Nat.zero_le _, Nat.zero_le _⟩ rfl rfl (Nat.le_of_ble_eq_true rfl) hl.1 dX7_readLine_123) (fun H locs hW _ => ?_)
                refine lv_pop hx hb dX7_readLine_126 rfl ?_
                exact r_vret C hW (Option.some.inj h).symm dX7_readLine_127
              · refine lv_aload_n hx hb dX7_readLine_109 rfl (lv_at hl 0 rfl) ?_
                refine lv_iconst (v := 1) hx hb dX7_readLine_110 (by decide) ?_
                obtain ⟨X20, h19, h⟩ := bnd_inv h
                refine r_cV hW (run_V (rest := []) C hW (t_X7_readEdit h19) mk_X7_readEdit vk_X7_99 (kd_X7_readEdit h19) rfl rfl (by decide) ⟨Nat.le_of_ble_eq_true rfl, Nat.le_of_ble_eq_true rfl⟩ ⟨Nat.zero_le _, Nat.zero_le _⟩ rfl rfl (Nat.le_of_ble_eq_true rfl) hl.1 dX7_readLine_111) (fun H locs hW _ => ?_)
                refine lv_goto (tgt := 127) hx hb dX7_readLine_114 (by decide) ?_
                exact r_vret C hW (Option.some.inj h).symm dX7_readLine_127
            · refine lv_aload_n hx hb dX7_readLine_92 rfl (lv_at hl 0 rfl) ?_
              refine lv_iconst (v := 0) hx hb dX7_readLine_93 (by decide) ?_
              obtain ⟨X22, h21, h⟩ := bnd_inv h
              refine r_cV hW (run_V (rest := []) C hW (t_X7_readEdit h21) mk_X7_readEdit vk_X7_99 (kd_X7_readEdit h21) rfl rfl (by decide) ⟨Nat.le_of_ble_eq_true rfl, Nat.le_of_ble_eq_true rfl⟩ ⟨Nat.zero_le _, Nat.zero_le _⟩ rfl rfl (Nat.le_of_ble_eq_true rfl) hl.1 dX7_readLine_94) (fun H locs hW _ => ?_)
              refine lv_goto (tgt := 127) hx hb dX7_readLine_97 (by decide) ?_
              exact r_vret C hW (Option.some.inj h).symm dX7_readLine_127
          · refine lv_aload_n hx hb dX7_readLine_75 rfl (lv_at hl 0 rfl) ?_
            refine lv_iconst (v := 2) hx hb dX7_readLine_76 (by decide) ?_
            obtain ⟨X24, h23, h⟩ := bnd_inv h
            refine r_cV hW (run_V (rest := []) C hW (t_X7_readDemand h23) mk_X7_readDemand vk_X7_89 (kd_X7_readDemand h23) rfl rfl (by decide) ⟨Nat.le_of_ble_eq_true rfl, Nat.le_of_ble_eq_true rfl⟩ ⟨Nat.zero_le _, Nat.zero_le _⟩ rfl rfl (Nat.le_of_ble_eq_true rfl) hl.1 dX7_readLine_77) (fun H locs hW _ => ?_)
            refine lv_goto (tgt := 127) hx hb dX7_readLine_80 (by decide) ?_
            exact r_vret C hW (Option.some.inj h).symm dX7_readLine_127
        · refine lv_aload_n hx hb dX7_readLine_58 rfl (lv_at hl 0 rfl) ?_
          refine lv_iconst (v := 1) hx hb dX7_readLine_59 (by decide) ?_
          obtain ⟨X26, h25, h⟩ := bnd_inv h
          refine r_cV hW (run_V (rest := []) C hW (t_X7_readDemand h25) mk_X7_readDemand vk_X7_89 (kd_X7_readDemand h25) rfl rfl (by decide) ⟨Nat.le_of_ble_eq_true rfl, Nat.le_of_ble_eq_true rfl⟩ ⟨Nat.zero_le _, Nat.zero_le _⟩ rfl rfl (Nat.le_of_ble_eq_true rfl) hl.1 dX7_readLine_60) (fun H locs hW _ => ?_)
          refine lv_goto (tgt := 127) hx hb dX7_readLine_63 (by decide) ?_
          exact r_vret C hW (Option.some.inj h).symm dX7_readLine_127
      · refine lv_aload_n hx hb dX7_readLine_41 rfl (lv_at hl 0 rfl) ?_
        refine lv_iconst (v := 0) hx hb dX7_readLine_42 (by decide) ?_
        obtain ⟨X28, h27, h⟩ := bnd_inv h
        refine r_cV hW (run_V (rest := []) C hW (t_X7_readDemand h27) mk_X7_readDemand vk_X7_89 (kd_X7_readDemand h27) rfl rfl (by decide) ⟨Nat.le_of_ble_eq_true rfl, Nat.le_of_ble_eq_true rfl⟩ ⟨Nat.zero_le _, Nat.zero_le _⟩ rfl rfl (Nat.le_of_ble_eq_true rfl) hl.1 dX7_readLine_43) (fun H locs hW _ => ?_)
        refine lv_goto (tgt := 127) hx hb dX7_readLine_46 (by decide) ?_
        exact r_vret C hW (Option.some.inj h).symm dX7_readLine_127
    · refine lv_aload_n hx hb dX7_readLine_25 rfl (lv_at hl 0 rfl) ?_
      obtain ⟨X30, h29, h⟩ := bnd_inv h
      refine r_cV hW (run_V (rest := []) C hW (t_X7_readRow h29) mk_X7_readRow vk_X7_84 (kd_X7_readRow h29) rfl rfl (by decide) ⟨Nat.le_of_ble_eq_true rfl, Nat.le_of_ble_eq_true rfl⟩ ⟨Nat.zero_le _, Nat.zero_le _⟩ rfl rfl (Nat.le_of_ble_eq_true rfl) hl.1 dX7_readLine_26) (fun H locs hW _ => ?_)
      refine lv_goto (tgt := 127) hx hb dX7_readLine_29 (by decide) ?_
      exact r_vret C hW (Option.some.inj h).symm dX7_readLine_127
  · refine lv_aload_n hx hb dX7_readLine_9 rfl (lv_at hl 0 rfl) ?_
    obtain ⟨X32, h31, h⟩ := bnd_inv h
    refine r_cV hW (run_V (rest := []) C hW (t_X7_readColumn h31) mk_X7_readColumn vk_X7_79 (kd_X7_readColumn h31) rfl rfl (by decide) ⟨Nat.le_of_ble_eq_true rfl, Nat.le_of_ble_eq_true rfl⟩ ⟨Nat.zero_le _, Nat.zero_le _⟩ rfl rfl (Nat.le_of_ble_eq_true rfl) hl.1 dX7_readLine_10) (fun H locs hW _ => ?_)
    refine lv_goto (tgt := 127) hx hb dX7_readLine_13 (by decide) ?_
    exact r_vret C hW (Option.some.inj h).symm dX7_readLine_127
set_option maxRecDepth 20000 in
set_option maxHeartbeats 2000000 in
theorem b_X7_readTables_90 {a : Nat} (C : Cx g RX7 cX7_readTables 3 (some .int) p s m args meth c) {r : (Int32 × Mx)} {X : Mx} (hW : Wd g σ X s H locs) (hl : lv_has ls 3 [(0, .ref a)]) (h : f_X7_readTables_90 σ a X = some r) : W p l e (rmZ 8 174) s m args below meth c H locs 0 0 (QI g σ below args s r) (F0 m 90 ls []) := by
  have hx := C.x
  have hb := C.b
  unfold f_X7_readTables_90 at h
  refine lv_aload_n hx hb dX7_readTables_90 rfl (lv_at hl 0 rfl) ?_
  refine r_gI C hW h fl_X7_55 (by decide) dX7_readTables_91 (fun v1 h => ?_)
  refine r_brn h (lv_if_ne (tgt := 104) hx hb dX7_readTables_94 (by decide)) (fun h => ?_) (fun h => ?_)
  · refine lv_aload_n hx hb dX7_readTables_104 rfl (lv_at hl 0 rfl) ?_
    refine r_gI C hW h fl_X7_45 (by decide) dX7_readTables_105 (fun v2 h => ?_)
    exact r_iret C hW (Option.some.inj h).symm rfl dX7_readTables_108
  · refine lv_aload_n hx hb dX7_readTables_97 rfl (lv_at hl 0 rfl) ?_
    refine r_gR C hW h fl_X7_18 (by decide) dX7_readTables_98 (fun b3 h => ?_)
    obtain ⟨X5, h4, h⟩ := bnd_inv h
    refine r_cV hW (run_V (rest := []) C hW (t_X5_startSides h4) mk_X5_startSides vk_X7_70 (kd_X5_startSides h4) rfl rfl (by decide) ⟨Nat.le_of_ble_eq_true rfl, Nat.le_of_ble_eq_true rfl⟩ ⟨Nat.zero_le _, Nat.zero_le _⟩ rfl rfl (Nat.le_of_ble_eq_true rfl) hl.1 dX7_readTables_101) (fun H locs hW _ => ?_)
    refine lv_aload_n hx hb dX7_readTables_104 rfl (lv_at hl 0 rfl) ?_
    refine r_gI C hW h fl_X7_45 (by decide) dX7_readTables_105 (fun v6 h => ?_)
    exact r_iret C hW (Option.some.inj h).symm rfl dX7_readTables_108
set_option maxRecDepth 20000 in
set_option maxHeartbeats 2000000 in
theorem b_X7_readTables_59 {a : Nat} (C : Cx g RX7 cX7_readTables 3 (some .int) p s m args meth c) {r : (Int32 × Mx)} : ∀ (n : Nat) {X : Mx} {x2 : Int32} {H : Heap} {locs : List Loc} {ls : Array Slot} (hW : Wd g σ X s H locs) (hl : lv_has ls 3 [(0, .ref a), (2, .int x2)]) (h : f_X7_readTables_59 σ a n X x2 = some r), W p l e (rmZ 8 174) s m args below meth c H locs 0 0 (QI g σ below args s r) (F0 m 59 ls []) := by
  have hx := C.x
  have hb := C.b
  intro n
  induction n with
  | zero =>
    intro X x2 H locs ls hW hl h
    cases (show none = some r from h)
  | succ n ih =>
    intro X x2 H locs ls hW hl h
    rw [f_X7_readTables_59] at h
    refine lv_iload_n hx hb dX7_readTables_59 rfl (lv_at hl 1 rfl) ?_
    refine lv_sipush (v := 700) hx hb dX7_readTables_60 (by decide) ?_
    refine r_br h (lv_icmp_ge (tgt := 90) hx hb dX7_readTables_63 (by decide)) (fun h => ?_) (fun h => ?_)
    · exact b_X7_readTables_90 C hW (lv_sub hl [0] rfl) h
    · refine lv_aload_n hx hb dX7_readTables_66 rfl (lv_at hl 0 rfl) ?_
      refine r_gI C hW h fl_X7_64 (by decide) dX7_readTables_67 (fun v1 h => ?_)
      refine r_br h (lv_if_eq (tgt := 90) hx hb dX7_readTables_70 (by decide)) (fun h => ?_) (fun h => ?_)
      · exact b_X7_readTables_90 C hW (lv_sub hl [0] rfl) h
      · refine lv_aload_n hx hb dX7_readTables_73 rfl (lv_at hl 0 rfl) ?_
        refine r_gI C hW h fl_X7_45 (by decide) dX7_readTables_74 (fun v2 h => ?_)
        refine r_brn h (lv_if_ne (tgt := 90) hx hb dX7_readTables_77 (by decide)) (fun h => ?_) (fun h => ?_)
        · exact b_X7_readTables_90 C hW (lv_sub hl [0] rfl) h
        · refine lv_aload_n hx hb dX7_readTables_80 rfl (lv_at hl 0 rfl) ?_
          obtain ⟨X4, h3, h⟩ := bnd_inv h
          refine r_cV hW (run_V (rest := []) C hW (t_X7_readLine h3) mk_X7_readLine vk_X7_67 (kd_X7_readLine h3) rfl rfl (by decide) ⟨Nat.le_of_ble_eq_true rfl, Nat.le_of_ble_eq_true rfl⟩ ⟨Nat.zero_le _, Nat.zero_le _⟩ rfl rfl (Nat.le_of_ble_eq_true rfl) hl.1 dX7_readTables_81) (fun H locs hW _ => ?_)
          refine lv_iinc (v := (x2 + 1)) (lv' := [(2, .int (x2 + 1)), (0, .ref a)]) hx hb dX7_readTables_84 hl (k := 1) rfl rfl (by decide) rfl (fun ls hl => ?_)
          refine lv_goto (tgt := 59) hx hb dX7_readTables_87 (by decide) ?_
          exact ih hW (lv_sub hl [1, 0] rfl) h
theorem kd_X7_readTables {X : Mx} {r : (Int32 × Mx)} {a : Nat} {x1 : Int32} (h : f_X7_readTables σ X a x1 = some r) : shK σ a = 6 := (grd_inv h).1
set_option maxRecDepth 20000 in
set_option maxHeartbeats 2000000 in
theorem t_X7_readTables {X : Mx} {r : (Int32 × Mx)} {a : Nat} {x1 : Int32} (h : f_X7_readTables σ X a x1 = some r) : MtI g l yX7_readTables cX7_readTables 3 (some .int) 8 174 [.ref a, .int x1] σ X r := by
  refine met_of mk_X7_readTables (Nat.le_of_ble_eq_true rfl) (fun p e s m args below meth c ls C hW hl => ?_)
  have hx := C.x
  have hb := C.b
  have hl : lv_has ls 3 [(0, .ref a), (1, .int x1)] := hl
  unfold f_X7_readTables at h
  obtain ⟨hk0, h⟩ := grd_inv h
  refine lv_aload_n hx hb dX7_readTables_0 rfl (lv_at hl 0 rfl) ?_
  refine lv_iconst (v := 0) hx hb dX7_readTables_1 (by decide) ?_
  refine lv_iload_n hx hb dX7_readTables_2 rfl (lv_at hl 1 rfl) ?_
  refine lv_aload_n hx hb dX7_readTables_3 rfl (lv_at hl 0 rfl) ?_
  refine r_gI C hW h fl_X7_26 (by decide) dX7_readTables_4 (fun v1 h => ?_)
  refine r_cI hW (run_S (rest := [.int 0, .ref a]) C hW (t_J9_min_7cf53 (X := X)) mk_J9_min_7cf53 sk_X7_33 ⟨Nat.le_of_ble_eq_true rfl, Nat.le_of_ble_eq_true rfl⟩ ⟨Nat.zero_le _, Nat.zero_le _⟩ rfl rfl (Nat.le_of_ble_eq_true rfl) hl.1 dX7_readTables_7) (fun H locs hW _ => ?_)
  refine r_cI hW (run_S (rest := [.ref a]) C hW (t_J9_max_7cf53 (X := X)) mk_J9_max_7cf53 sk_X7_39 ⟨Nat.le_of_ble_eq_true rfl, Nat.le_of_ble_eq_true rfl⟩ ⟨Nat.zero_le _, Nat.zero_le _⟩ rfl rfl (Nat.le_of_ble_eq_true rfl) hl.1 dX7_readTables_10) (fun H locs hW _ => ?_)
  refine r_pI C hW h pf_X7_42 (by decide) rfl rfl dX7_readTables_13 (fun X2 H locs h hW _ => ?_)
  refine lv_aload_n hx hb dX7_readTables_16 rfl (lv_at hl 0 rfl) ?_
  refine lv_iconst (v := 0) hx hb dX7_readTables_17 (by decide) ?_
  refine r_pI C hW h pf_X7_26 (by decide) rfl rfl dX7_readTables_18 (fun X3 H locs h hW _ => ?_)
  refine lv_aload_n hx hb dX7_readTables_21 rfl (lv_at hl 0 rfl) ?_
  refine lv_iconst (v := 0) hx hb dX7_readTables_22 (by decide) ?_
  refine r_pI C hW h pf_X7_45 (by decide) rfl rfl dX7_readTables_23 (fun X4 H locs h hW _ => ?_)
  refine lv_aload_n hx hb dX7_readTables_26 rfl (lv_at hl 0 rfl) ?_
  refine lv_iconst (v := (-1)) hx hb dX7_readTables_27 (by decide) ?_
  refine r_pI C hW h pf_X7_22 (by decide) rfl rfl dX7_readTables_28 (fun X5 H locs h hW _ => ?_)
  refine lv_aload_n hx hb dX7_readTables_31 rfl (lv_at hl 0 rfl) ?_
  refine lv_iconst (v := 0) hx hb dX7_readTables_32 (by decide) ?_
  refine r_pI C hW h pf_X7_48 (by decide) rfl rfl dX7_readTables_33 (fun X6 H locs h hW _ => ?_)
  refine lv_aload_n hx hb dX7_readTables_36 rfl (lv_at hl 0 rfl) ?_
  refine lv_iconst (v := 0) hx hb dX7_readTables_37 (by decide) ?_
  refine r_pI C hW h pf_X7_51 (by decide) rfl rfl dX7_readTables_38 (fun X7 H locs h hW _ => ?_)
  refine lv_aload_n hx hb dX7_readTables_41 rfl (lv_at hl 0 rfl) ?_
  refine lv_iconst (v := 0) hx hb dX7_readTables_42 (by decide) ?_
  refine r_pI C hW h pf_X7_55 (by decide) rfl rfl dX7_readTables_43 (fun X8 H locs h hW _ => ?_)
  refine lv_aload_n hx hb dX7_readTables_46 rfl (lv_at hl 0 rfl) ?_
  refine r_gR C hW h fl_X7_18 (by decide) dX7_readTables_47 (fun b9 h => ?_)
  obtain ⟨X11, h10, h⟩ := bnd_inv h
  refine r_cV hW (run_V (rest := []) C hW (t_X5_clear h10) mk_X5_clear vk_X7_58 (kd_X5_clear h10) rfl rfl (by decide) ⟨Nat.le_of_ble_eq_true rfl, Nat.le_of_ble_eq_true rfl⟩ ⟨Nat.zero_le _, Nat.zero_le _⟩ rfl rfl (Nat.le_of_ble_eq_true rfl) hl.1 dX7_readTables_50) (fun H locs hW _ => ?_)
  refine lv_aload_n hx hb dX7_readTables_53 rfl (lv_at hl 0 rfl) ?_
  obtain ⟨X13, h12, h⟩ := bnd_inv h
  refine r_cV hW (run_V (rest := []) C hW (t_X7_step h12) mk_X7_step vk_X7_61 (kd_X7_step h12) rfl rfl (by decide) ⟨Nat.le_of_ble_eq_true rfl, Nat.le_of_ble_eq_true rfl⟩ ⟨Nat.zero_le _, Nat.zero_le _⟩ rfl rfl (Nat.le_of_ble_eq_true rfl) hl.1 dX7_readTables_54) (fun H locs hW _ => ?_)
  refine lv_iconst (v := 0) hx hb dX7_readTables_57 (by decide) ?_
  refine lv_istore_n (lv' := [(2, .int 0), (0, .ref a), (1, .int x1)]) hx hb dX7_readTables_58 rfl hl (by decide) rfl (fun ls hl => ?_)
  exact b_X7_readTables_59 C FU hW (lv_sub hl [1, 0] rfl) h
theorem kd_X9_feed {X : Mx} {r : (Int32 × Mx)} {a : Nat} {x1 : Int32} {x2 : Int32} {x3 : Int32} {x4 : Int32} {x5 : Int32} (h : f_X9_feed σ X a x1 x2 x3 x4 x5 = some r) : shK σ a = 7 := (grd_inv h).1
set_option maxRecDepth 20000 in
set_option maxHeartbeats 2000000 in
theorem t_X9_feed {X : Mx} {r : (Int32 × Mx)} {a : Nat} {x1 : Int32} {x2 : Int32} {x3 : Int32} {x4 : Int32} {x5 : Int32} (h : f_X9_feed σ X a x1 x2 x3 x4 x5 = some r) : MtI g l yX9_feed cX9_feed 6 (some .int) 2 43 [.ref a, .int x1, .int x2, .int x3, .int x4, .int x5] σ X r := by
  refine met_of mk_X9_feed (Nat.le_of_ble_eq_true rfl) (fun p e s m args below meth c ls C hW hl => ?_)
  have hx := C.x
  have hb := C.b
  have hl : lv_has ls 6 [(0, .ref a), (1, .int x1), (2, .int x2), (3, .int x3), (4, .int x4), (5, .int x5)] := hl
  unfold f_X9_feed at h
  obtain ⟨hk0, h⟩ := grd_inv h
  refine lv_aload_n hx hb dX9_feed_0 rfl (lv_at hl 0 rfl) ?_
  refine r_gR C hW h fl_X9_26 (by decide) dX9_feed_1 (fun b1 h => ?_)
  refine lv_bipush (v := 20) hx hb dX9_feed_4 (by decide) ?_
  obtain ⟨v3, h2, h⟩ := bnd_inv h
  refine r_cI hW (run_V (rest := []) C hW (t_X7_hasRoom h2) mk_X7_hasRoom vk_X9_68 (kd_X7_hasRoom h2) rfl rfl (by decide) ⟨Nat.le_of_ble_eq_true rfl, Nat.le_of_ble_eq_true rfl⟩ ⟨Nat.zero_le _, Nat.zero_le _⟩ rfl rfl (Nat.le_of_ble_eq_true rfl) hl.1 dX9_feed_6) (fun H locs hW _ => ?_)
  refine r_brn h (lv_if_ne (tgt := 14) hx hb dX9_feed_9 (by decide)) (fun h => ?_) (fun h => ?_)
  · refine lv_aload_n hx hb dX9_feed_14 rfl (lv_at hl 0 rfl) ?_
    refine r_gR C hW h fl_X9_26 (by decide) dX9_feed_15 (fun b4 h => ?_)
    refine lv_iload_n hx hb dX9_feed_18 rfl (lv_at hl 1 rfl) ?_
    obtain ⟨X6, h5, h⟩ := bnd_inv h
    refine r_cV hW (run_V (rest := []) C hW (t_X7_append h5) mk_X7_append vk_X9_72 (kd_X7_append h5) rfl rfl (by decide) ⟨Nat.le_of_ble_eq_true rfl, Nat.le_of_ble_eq_true rfl⟩ ⟨Nat.zero_le _, Nat.zero_le _⟩ rfl rfl (Nat.le_of_ble_eq_true rfl) hl.1 dX9_feed_19) (fun H locs hW _ => ?_)
    refine lv_aload_n hx hb dX9_feed_22 rfl (lv_at hl 0 rfl) ?_
    refine r_gR C hW h fl_X9_26 (by decide) dX9_feed_23 (fun b7 h => ?_)
    refine lv_iload_n hx hb dX9_feed_26 rfl (lv_at hl 2 rfl) ?_
    obtain ⟨X9, h8, h⟩ := bnd_inv h
    refine r_cV hW (run_V (rest := []) C hW (t_X7_append h8) mk_X7_append vk_X9_72 (kd_X7_append h8) rfl rfl (by decide) ⟨Nat.le_of_ble_eq_true rfl, Nat.le_of_ble_eq_true rfl⟩ ⟨Nat.zero_le _, Nat.zero_le _⟩ rfl rfl (Nat.le_of_ble_eq_true rfl) hl.1 dX9_feed_27) (fun H locs hW _ => ?_)
    refine lv_aload_n hx hb dX9_feed_30 rfl (lv_at hl 0 rfl) ?_
    refine r_gR C hW h fl_X9_26 (by decide) dX9_feed_31 (fun b10 h => ?_)
    refine lv_iload_n hx hb dX9_feed_34 rfl (lv_at hl 3 rfl) ?_
    obtain ⟨X12, h11, h⟩ := bnd_inv h
    refine r_cV hW (run_V (rest := []) C hW (t_X7_append h11) mk_X7_append vk_X9_72 (kd_X7_append h11) rfl rfl (by decide) ⟨Nat.le_of_ble_eq_true rfl, Nat.le_of_ble_eq_true rfl⟩ ⟨Nat.zero_le _, Nat.zero_le _⟩ rfl rfl (Nat.le_of_ble_eq_true rfl) hl.1 dX9_feed_35) (fun H locs hW _ => ?_)
    refine lv_aload_n hx hb dX9_feed_38 rfl (lv_at hl 0 rfl) ?_
    refine r_gR C hW h fl_X9_26 (by decide) dX9_feed_39 (fun b13 h => ?_)
    refine lv_iload hx hb dX9_feed_42 (lv_at hl 4 rfl) ?_
    obtain ⟨X15, h14, h⟩ := bnd_inv h
    refine r_cV hW (run_V (rest := []) C hW (t_X7_append h14) mk_X7_append vk_X9_72 (kd_X7_append h14) rfl rfl (by decide) ⟨Nat.le_of_ble_eq_true rfl, Nat.le_of_ble_eq_true rfl⟩ ⟨Nat.zero_le _, Nat.zero_le _⟩ rfl rfl (Nat.le_of_ble_eq_true rfl) hl.1 dX9_feed_44) (fun H locs hW _ => ?_)
    refine lv_aload_n hx hb dX9_feed_47 rfl (lv_at hl 0 rfl) ?_
    refine r_gR C hW h fl_X9_26 (by decide) dX9_feed_48 (fun b16 h => ?_)
    refine lv_iload hx hb dX9_feed_51 (lv_at hl 5 rfl) ?_
    obtain ⟨X18, h17, h⟩ := bnd_inv h
    refine r_cV hW (run_V (rest := []) C hW (t_X7_append h17) mk_X7_append vk_X9_72 (kd_X7_append h17) rfl rfl (by decide) ⟨Nat.le_of_ble_eq_true rfl, Nat.le_of_ble_eq_true rfl⟩ ⟨Nat.zero_le _, Nat.zero_le _⟩ rfl rfl (Nat.le_of_ble_eq_true rfl) hl.1 dX9_feed_53) (fun H locs hW _ => ?_)
    refine lv_aload_n hx hb dX9_feed_56 rfl (lv_at hl 0 rfl) ?_
    refine r_gR C hW h fl_X9_26 (by decide) dX9_feed_57 (fun b19 h => ?_)
    refine r_gI C hW h fl_X9_76 (by decide) dX9_feed_60 (fun v20 h => ?_)
    exact r_iret C hW (Option.some.inj h).symm rfl dX9_feed_63
  · refine lv_iconst (v := (-1)) hx hb dX9_feed_12 (by decide) ?_
    exact r_iret C hW (Option.some.inj h).symm rfl dX9_feed_13
end
