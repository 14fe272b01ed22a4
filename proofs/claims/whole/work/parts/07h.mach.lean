section
variable {p : Program} {l : Launch} {e : Env} {s : State} {m : MethodId} {args : Array Value} {below : List Frame} {meth : Method} {c : Code} {H : Heap} {locs : List Loc} {g : Gp} {σ : Sh} {ls : Array Slot}
set_option maxRecDepth 20000 in
set_option maxHeartbeats 2000000 in
theorem b_X10_merges_17 {a : Nat} {x1 : Int32} (C : Cx g RX10 cX10_merges 4 none p s m args meth c) {r : Mx} : ∀ (n : Nat) {X : Mx} {x2 : Int32} {H : Heap} {locs : List Loc} {ls : Array Slot} (hW : Wd g σ X s H locs) (hl : lv_has ls 4 [(0, .ref a), (1, .int x1), (2, .int x2)]) (h : f_X10_merges_17 σ a x1 n X x2 = some r), W p l e (rmZ 6 146) s m args below meth c H locs 0 0 (QV g σ below args s r) (F0 m 17 ls []) := by
  have hx := C.x
  have hb := C.b
  intro n
  induction n with
  | zero =>
    intro X x2 H locs ls hW hl h
    cases (show none = some r from h)
  | succ n ih =>
    intro X x2 H locs ls hW hl h
    rw [f_X10_merges_17] at h
    refine lv_iload_n hx hb dX10_merges_17 rfl (lv_at hl 2 rfl) ?_
    refine lv_sipush (v := 316) hx hb dX10_merges_18 (by decide) ?_
    refine r_br h (lv_icmp_ge (tgt := 37) hx hb dX10_merges_21 (by decide)) (fun h => ?_) (fun h => ?_)
    · refine lv_iconst (v := 0) hx hb dX10_merges_37 (by decide) ?_
      refine lv_istore_n (lv' := [(2, .int 0), (0, .ref a), (1, .int x1)]) hx hb dX10_merges_38 rfl hl (by decide) rfl (fun ls hl => ?_)
      exact b_X10_merges_39 C FU hW (lv_sub hl [1, 2, 0] rfl) h
    · refine lv_aload_n hx hb dX10_merges_24 rfl (lv_at hl 0 rfl) ?_
      refine r_gR C hW h fl_X10_44 (by decide) dX10_merges_25 (fun b1 h => ?_)
      refine lv_iload_n hx hb dX10_merges_28 rfl (lv_at hl 2 rfl) ?_
      refine lv_iconst (v := 0) hx hb dX10_merges_29 (by decide) ?_
      refine r_iast C hW h dX10_merges_30 (fun X2 H locs h hW => ?_)
      refine lv_iinc (v := (x2 + 1)) (lv' := [(2, .int (x2 + 1)), (0, .ref a), (1, .int x1)]) hx hb dX10_merges_31 hl (k := 2) rfl rfl (by decide) rfl (fun ls hl => ?_)
      refine lv_goto (tgt := 17) hx hb dX10_merges_34 (by decide) ?_
      exact ih hW (lv_sub hl [1, 2, 0] rfl) h
theorem kd_X10_merges {X : Mx} {r : Mx} {a : Nat} {x1 : Int32} (h : f_X10_merges σ X a x1 = some r) : shK σ a = 8 := (grd_inv h).1
set_option maxRecDepth 20000 in
set_option maxHeartbeats 2000000 in
theorem t_X10_merges {X : Mx} {r : Mx} {a : Nat} {x1 : Int32} (h : f_X10_merges σ X a x1 = some r) : MtV g l yX10_merges cX10_merges 4 none 6 146 [.ref a, .int x1] σ X r := by
  refine met_of mk_X10_merges (Nat.le_of_ble_eq_true rfl) (fun p e s m args below meth c ls C hW hl => ?_)
  have hx := C.x
  have hb := C.b
  have hl : lv_has ls 4 [(0, .ref a), (1, .int x1)] := hl
  unfold f_X10_merges at h
  obtain ⟨hk0, h⟩ := grd_inv h
  refine lv_aload_n hx hb dX10_merges_0 rfl (lv_at hl 0 rfl) ?_
  refine lv_iconst (v := 0) hx hb dX10_merges_1 (by decide) ?_
  refine r_pI C hW h pf_X10_291 (by decide) rfl rfl dX10_merges_2 (fun X1 H locs h hW => ?_)
  refine lv_aload_n hx hb dX10_merges_5 rfl (lv_at hl 0 rfl) ?_
  refine lv_iconst (v := 0) hx hb dX10_merges_6 (by decide) ?_
  refine r_pI C hW h pf_X10_323 (by decide) rfl rfl dX10_merges_7 (fun X2 H locs h hW => ?_)
  refine lv_aload_n hx hb dX10_merges_10 rfl (lv_at hl 0 rfl) ?_
  refine lv_iconst (v := 0) hx hb dX10_merges_11 (by decide) ?_
  refine r_pI C hW h pf_X10_282 (by decide) rfl rfl dX10_merges_12 (fun X3 H locs h hW => ?_)
  refine lv_iconst (v := 0) hx hb dX10_merges_15 (by decide) ?_
  refine lv_istore_n (lv' := [(2, .int 0), (0, .ref a), (1, .int x1)]) hx hb dX10_merges_16 rfl hl (by decide) rfl (fun ls hl => ?_)
  exact b_X10_merges_17 C FU hW (lv_sub hl [1, 2, 0] rfl) h
set_option maxRecDepth 20000 in
set_option maxHeartbeats 2000000 in
theorem b_X10_choicesThere_31 {k4 : Int32 → Int32 → Option Int32} {a : Nat} {x2 : Int32} (C : Cx g RX10 cX10_choicesThere 3 (some .int) p s m args meth c) {r : Int32} {X : Mx} {y0 : Int32} {y1 : Int32} (hk4 : ∀ {H' : Heap} {locs' : List Loc} {ls' : Array Slot} {x1' : Int32} {x2' : Int32}, Wd g σ X s H' locs' → lv_has ls' 3 [(0, .ref a), (1, .int x1'), (2, .int x2')] → k4 x1' x2' = some r → W p l e (rmZ 0 0) s m args below meth c H' locs' 0 0 (QI g σ below args s (r, X)) (F0 m 4 ls' [])) (hW : Wd g σ X s H locs) (hl : lv_has ls 3 [(0, .ref a), (2, .int x2)]) (h : f_X10_choicesThere_31 k4 σ X a x2 y0 y1 = some r) : W p l e (rmZ 0 0) s m args below meth c H locs 0 0 (QI g σ below args s (r, X)) (F0 m 31 ls [.int y1, .int y0]) := by
  have hx := C.x
  have hb := C.b
  unfold f_X10_choicesThere_31 at h
  refine lv_iadd hx hb dX10_choicesThere_31 ?_
  refine lv_istore_n (lv' := [(1, .int (y0 + y1)), (0, .ref a), (2, .int x2)]) hx hb dX10_choicesThere_32 rfl hl (by decide) rfl (fun ls hl => ?_)
  refine lv_iinc (v := (x2 + 1)) (lv' := [(2, .int (x2 + 1)), (1, .int (y0 + y1)), (0, .ref a)]) hx hb dX10_choicesThere_33 hl (k := 2) rfl rfl (by decide) rfl (fun ls hl => ?_)
  refine lv_goto (tgt := 4) hx hb dX10_choicesThere_36 (by decide) ?_
  exact hk4 hW (lv_sub hl [2, 1, 0] rfl) h
set_option maxRecDepth 20000 in
set_option maxHeartbeats 2000000 in
theorem b_X10_choicesThere_4 {a : Nat} (C : Cx g RX10 cX10_choicesThere 3 (some .int) p s m args meth c) {r : Int32} {X : Mx} : ∀ (n : Nat) {x1 : Int32} {x2 : Int32} {H : Heap} {locs : List Loc} {ls : Array Slot} (hW : Wd g σ X s H locs) (hl : lv_has ls 3 [(0, .ref a), (1, .int x1), (2, .int x2)]) (h : f_X10_choicesThere_4 σ X a n x1 x2 = some r), W p l e (rmZ 0 0) s m args below meth c H locs 0 0 (QI g σ below args s (r, X)) (F0 m 4 ls []) := by
  have hx := C.x
  have hb := C.b
  intro n
  induction n with
  | zero =>
    intro x1 x2 H locs ls hW hl h
    cases (show none = some r from h)
  | succ n ih =>
    intro x1 x2 H locs ls hW hl h
    rw [f_X10_choicesThere_4] at h
    refine lv_iload_n hx hb dX10_choicesThere_4 rfl (lv_at hl 2 rfl) ?_
    refine lv_sipush (v := 316) hx hb dX10_choicesThere_5 (by decide) ?_
    refine r_br h (lv_icmp_ge (tgt := 39) hx hb dX10_choicesThere_8 (by decide)) (fun h => ?_) (fun h => ?_)
    · refine lv_iload_n hx hb dX10_choicesThere_39 rfl (lv_at hl 1 rfl) ?_
      exact r_iret C hW (rt_R h) rfl dX10_choicesThere_40
    · refine lv_iload_n hx hb dX10_choicesThere_11 rfl (lv_at hl 1 rfl) ?_
      refine lv_aload_n hx hb dX10_choicesThere_12 rfl (lv_at hl 0 rfl) ?_
      refine r_gR C hW h fl_X10_20 (by decide) dX10_choicesThere_13 (fun b1 h => ?_)
      refine lv_sipush (v := 615) hx hb dX10_choicesThere_16 (by decide) ?_
      refine lv_iload_n hx hb dX10_choicesThere_19 rfl (lv_at hl 2 rfl) ?_
      refine lv_iadd hx hb dX10_choicesThere_20 ?_
      refine r_iald C hW h dX10_choicesThere_21 (fun v2 h => ?_)
      refine lv_iconst (v := (-1)) hx hb dX10_choicesThere_22 (by decide) ?_
      refine r_brn h (lv_icmp_ne (tgt := 30) hx hb dX10_choicesThere_23 (by decide)) (fun h => ?_) (fun h => ?_)
      · refine lv_iconst (v := 1) hx hb dX10_choicesThere_30 (by decide) ?_
        exact b_X10_choicesThere_31 C (fun hW hl h => ih hW hl h) hW (lv_sub hl [0, 2] rfl) h
      · refine lv_iconst (v := 0) hx hb dX10_choicesThere_26 (by decide) ?_
        refine lv_goto (tgt := 31) hx hb dX10_choicesThere_27 (by decide) ?_
        exact b_X10_choicesThere_31 C (fun hW hl h => ih hW hl h) hW (lv_sub hl [0, 2] rfl) h
theorem kd_X10_choicesThere {X : Mx} {r : Int32} {a : Nat} (h : f_X10_choicesThere σ X a = some r) : shK σ a = 8 := (grd_inv h).1
set_option maxRecDepth 20000 in
set_option maxHeartbeats 2000000 in
theorem t_X10_choicesThere {X : Mx} {r : Int32} {a : Nat} (h : f_X10_choicesThere σ X a = some r) : MtI g l yX10_choicesThere cX10_choicesThere 3 (some .int) 0 0 [.ref a] σ X (r, X) := by
  refine met_of mk_X10_choicesThere (Nat.le_of_ble_eq_true rfl) (fun p e s m args below meth c ls C hW hl => ?_)
  have hx := C.x
  have hb := C.b
  have hl : lv_has ls 3 [(0, .ref a)] := hl
  unfold f_X10_choicesThere at h
  obtain ⟨hk0, h⟩ := grd_inv h
  refine lv_iconst (v := 0) hx hb dX10_choicesThere_0 (by decide) ?_
  refine lv_istore_n (lv' := [(1, .int 0), (0, .ref a)]) hx hb dX10_choicesThere_1 rfl hl (by decide) rfl (fun ls hl => ?_)
  refine lv_iconst (v := 0) hx hb dX10_choicesThere_2 (by decide) ?_
  refine lv_istore_n (lv' := [(2, .int 0), (1, .int 0), (0, .ref a)]) hx hb dX10_choicesThere_3 rfl hl (by decide) rfl (fun ls hl => ?_)
  exact b_X10_choicesThere_4 C FU hW (lv_sub hl [2, 1, 0] rfl) h
set_option maxRecDepth 20000 in
set_option maxHeartbeats 2000000 in
theorem b_X10_choicesWaiting_41 {k4 : Int32 → Int32 → Option Int32} {a : Nat} {x2 : Int32} (C : Cx g RX10 cX10_choicesWaiting 3 (some .int) p s m args meth c) {r : Int32} {X : Mx} {y0 : Int32} {y1 : Int32} (hk4 : ∀ {H' : Heap} {locs' : List Loc} {ls' : Array Slot} {x1' : Int32} {x2' : Int32}, Wd g σ X s H' locs' → lv_has ls' 3 [(0, .ref a), (1, .int x1'), (2, .int x2')] → k4 x1' x2' = some r → W p l e (rmZ 0 0) s m args below meth c H' locs' 0 0 (QI g σ below args s (r, X)) (F0 m 4 ls' [])) (hW : Wd g σ X s H locs) (hl : lv_has ls 3 [(0, .ref a), (2, .int x2)]) (h : f_X10_choicesWaiting_41 k4 σ X a x2 y0 y1 = some r) : W p l e (rmZ 0 0) s m args below meth c H locs 0 0 (QI g σ below args s (r, X)) (F0 m 41 ls [.int y1, .int y0]) := by
  have hx := C.x
  have hb := C.b
  unfold f_X10_choicesWaiting_41 at h
  refine lv_iadd hx hb dX10_choicesWaiting_41 ?_
  refine lv_istore_n (lv' := [(1, .int (y0 + y1)), (0, .ref a), (2, .int x2)]) hx hb dX10_choicesWaiting_42 rfl hl (by decide) rfl (fun ls hl => ?_)
  refine lv_iinc (v := (x2 + 1)) (lv' := [(2, .int (x2 + 1)), (1, .int (y0 + y1)), (0, .ref a)]) hx hb dX10_choicesWaiting_43 hl (k := 2) rfl rfl (by decide) rfl (fun ls hl => ?_)
  refine lv_goto (tgt := 4) hx hb dX10_choicesWaiting_46 (by decide) ?_
  exact hk4 hW (lv_sub hl [2, 1, 0] rfl) h
set_option maxRecDepth 20000 in
set_option maxHeartbeats 2000000 in
theorem b_X10_choicesWaiting_36 {k4 : Int32 → Int32 → Option Int32} {a : Nat} {x2 : Int32} (C : Cx g RX10 cX10_choicesWaiting 3 (some .int) p s m args meth c) {r : Int32} {X : Mx} {y0 : Int32} (hk4 : ∀ {H' : Heap} {locs' : List Loc} {ls' : Array Slot} {x1' : Int32} {x2' : Int32}, Wd g σ X s H' locs' → lv_has ls' 3 [(0, .ref a), (1, .int x1'), (2, .int x2')] → k4 x1' x2' = some r → W p l e (rmZ 0 0) s m args below meth c H' locs' 0 0 (QI g σ below args s (r, X)) (F0 m 4 ls' [])) (hW : Wd g σ X s H locs) (hl : lv_has ls 3 [(0, .ref a), (2, .int x2)]) (h : f_X10_choicesWaiting_36 k4 σ X a x2 y0 = some r) : W p l e (rmZ 0 0) s m args below meth c H locs 0 0 (QI g σ below args s (r, X)) (F0 m 36 ls [.int y0]) := by
  have hx := C.x
  have hb := C.b
  unfold f_X10_choicesWaiting_36 at h
  refine lv_iconst (v := 0) hx hb dX10_choicesWaiting_36 (by decide) ?_
  refine lv_goto (tgt := 41) hx hb dX10_choicesWaiting_37 (by decide) ?_
  exact b_X10_choicesWaiting_41 C hk4 hW (lv_sub hl [0, 1] rfl) h
set_option maxRecDepth 20000 in
set_option maxHeartbeats 2000000 in
theorem b_X10_choicesWaiting_4 {a : Nat} (C : Cx g RX10 cX10_choicesWaiting 3 (some .int) p s m args meth c) {r : Int32} {X : Mx} : ∀ (n : Nat) {x1 : Int32} {x2 : Int32} {H : Heap} {locs : List Loc} {ls : Array Slot} (hW : Wd g σ X s H locs) (hl : lv_has ls 3 [(0, .ref a), (1, .int x1), (2, .int x2)]) (h : f_X10_choicesWaiting_4 σ X a n x1 x2 = some r), W p l e (rmZ 0 0) s m args below meth c H locs 0 0 (QI g σ below args s (r, X)) (F0 m 4 ls []) := by
  have hx := C.x
  have hb := C.b
  intro n
  induction n with
  | zero =>
    intro x1 x2 H locs ls hW hl h
    cases (show none = some r from h)
  | succ n ih =>
    intro x1 x2 H locs ls hW hl h
    rw [f_X10_choicesWaiting_4] at h
    refine lv_iload_n hx hb dX10_choicesWaiting_4 rfl (lv_at hl 2 rfl) ?_
    refine lv_sipush (v := 316) hx hb dX10_choicesWaiting_5 (by decide) ?_
    refine r_br h (lv_icmp_ge (tgt := 49) hx hb dX10_choicesWaiting_8 (by decide)) (fun h => ?_) (fun h => ?_)
    · refine lv_iload_n hx hb dX10_choicesWaiting_49 rfl (lv_at hl 1 rfl) ?_
      exact r_iret C hW (rt_R h) rfl dX10_choicesWaiting_50
    · refine lv_iload_n hx hb dX10_choicesWaiting_11 rfl (lv_at hl 1 rfl) ?_
      refine lv_aload_n hx hb dX10_choicesWaiting_12 rfl (lv_at hl 0 rfl) ?_
      refine r_gR C hW h fl_X10_20 (by decide) dX10_choicesWaiting_13 (fun b1 h => ?_)
      refine lv_sipush (v := 615) hx hb dX10_choicesWaiting_16 (by decide) ?_
      refine lv_iload_n hx hb dX10_choicesWaiting_19 rfl (lv_at hl 2 rfl) ?_
      refine lv_iadd hx hb dX10_choicesWaiting_20 ?_
      refine r_iald C hW h dX10_choicesWaiting_21 (fun v2 h => ?_)
      refine lv_iconst (v := (-1)) hx hb dX10_choicesWaiting_22 (by decide) ?_
      refine r_br h (lv_icmp_eq (tgt := 36) hx hb dX10_choicesWaiting_23 (by decide)) (fun h => ?_) (fun h => ?_)
      · exact b_X10_choicesWaiting_36 C (fun hW hl h => ih hW hl h) hW (lv_sub hl [0, 2] rfl) h
      · refine lv_aload_n hx hb dX10_choicesWaiting_26 rfl (lv_at hl 0 rfl) ?_
        refine r_gR C hW h fl_X10_44 (by decide) dX10_choicesWaiting_27 (fun b3 h => ?_)
        refine lv_iload_n hx hb dX10_choicesWaiting_30 rfl (lv_at hl 2 rfl) ?_
        refine r_iald C hW h dX10_choicesWaiting_31 (fun v4 h => ?_)
        refine lv_iconst (v := 1) hx hb dX10_choicesWaiting_32 (by decide) ?_
        refine r_brn h (lv_icmp_ne (tgt := 40) hx hb dX10_choicesWaiting_33 (by decide)) (fun h => ?_) (fun h => ?_)
        · refine lv_iconst (v := 1) hx hb dX10_choicesWaiting_40 (by decide) ?_
          exact b_X10_choicesWaiting_41 C (fun hW hl h => ih hW hl h) hW (lv_sub hl [0, 2] rfl) h
        · exact b_X10_choicesWaiting_36 C (fun hW hl h => ih hW hl h) hW (lv_sub hl [0, 2] rfl) h
theorem kd_X10_choicesWaiting {X : Mx} {r : Int32} {a : Nat} (h : f_X10_choicesWaiting σ X a = some r) : shK σ a = 8 := (grd_inv h).1
set_option maxRecDepth 20000 in
set_option maxHeartbeats 2000000 in
theorem t_X10_choicesWaiting {X : Mx} {r : Int32} {a : Nat} (h : f_X10_choicesWaiting σ X a = some r) : MtI g l yX10_choicesWaiting cX10_choicesWaiting 3 (some .int) 0 0 [.ref a] σ X (r, X) := by
  refine met_of mk_X10_choicesWaiting (Nat.le_of_ble_eq_true rfl) (fun p e s m args below meth c ls C hW hl => ?_)
  have hx := C.x
  have hb := C.b
  have hl : lv_has ls 3 [(0, .ref a)] := hl
  unfold f_X10_choicesWaiting at h
  obtain ⟨hk0, h⟩ := grd_inv h
  refine lv_iconst (v := 0) hx hb dX10_choicesWaiting_0 (by decide) ?_
  refine lv_istore_n (lv' := [(1, .int 0), (0, .ref a)]) hx hb dX10_choicesWaiting_1 rfl hl (by decide) rfl (fun ls hl => ?_)
  refine lv_iconst (v := 0) hx hb dX10_choicesWaiting_2 (by decide) ?_
  refine lv_istore_n (lv' := [(2, .int 0), (1, .int 0), (0, .ref a)]) hx hb dX10_choicesWaiting_3 rfl hl (by decide) rfl (fun ls hl => ?_)
  exact b_X10_choicesWaiting_4 C FU hW (lv_sub hl [2, 1, 0] rfl) h
set_option maxRecDepth 20000 in
set_option maxHeartbeats 2000000 in
theorem b_X10_filled_62 {k4 : Int32 → Int32 → Option Int32} {k12 : Int32 → Int32 → Option Int32} {a : Nat} {x1 : Int32} {x2 : Int32} {x3 : Int32} (C : Cx g RX10 cX10_filled 4 (some .int) p s m args meth c) {r : Int32} {X : Mx} (hk4 : ∀ {H' : Heap} {locs' : List Loc} {ls' : Array Slot} {x1' : Int32} {x2' : Int32}, Wd g σ X s H' locs' → lv_has ls' 4 [(0, .ref a), (1, .int x1'), (2, .int x2')] → k4 x1' x2' = some r → W p l e (rmZ 1 22) s m args below meth c H' locs' 0 0 (QI g σ below args s (r, X)) (F0 m 4 ls' [])) (hk12 : ∀ {H' : Heap} {locs' : List Loc} {ls' : Array Slot} {x1' : Int32} {x3' : Int32}, Wd g σ X s H' locs' → lv_has ls' 4 [(0, .ref a), (1, .int x1'), (2, .int x2), (3, .int x3')] → k12 x1' x3' = some r → W p l e (rmZ 1 22) s m args below meth c H' locs' 0 0 (QI g σ below args s (r, X)) (F0 m 12 ls' [])) (hW : Wd g σ X s H locs) (hl : lv_has ls 4 [(0, .ref a), (1, .int x1), (2, .int x2), (3, .int x3)]) (h : f_X10_filled_62 k4 k12 σ X a x1 x2 x3 = some r) : W p l e (rmZ 1 22) s m args below meth c H locs 0 0 (QI g σ below args s (r, X)) (F0 m 62 ls []) := by
  have hx := C.x
  have hb := C.b
  unfold f_X10_filled_62 at h
  refine lv_iinc (v := (x3 + 1)) (lv' := [(3, .int (x3 + 1)), (0, .ref a), (1, .int x1), (2, .int x2)]) hx hb dX10_filled_62 hl (k := 3) rfl rfl (by decide) rfl (fun ls hl => ?_)
  refine lv_goto (tgt := 12) hx hb dX10_filled_65 (by decide) ?_
  exact hk12 hW (lv_sub hl [1, 2, 3, 0] rfl) h
set_option maxRecDepth 20000 in
set_option maxHeartbeats 2000000 in
theorem b_X10_filled_60 {k4 : Int32 → Int32 → Option Int32} {k12 : Int32 → Int32 → Option Int32} {a : Nat} {x2 : Int32} {x3 : Int32} (C : Cx g RX10 cX10_filled 4 (some .int) p s m args meth c) {r : Int32} {X : Mx} {y0 : Int32} {y1 : Int32} (hk4 : ∀ {H' : Heap} {locs' : List Loc} {ls' : Array Slot} {x1' : Int32} {x2' : Int32}, Wd g σ X s H' locs' → lv_has ls' 4 [(0, .ref a), (1, .int x1'), (2, .int x2')] → k4 x1' x2' = some r → W p l e (rmZ 1 22) s m args below meth c H' locs' 0 0 (QI g σ below args s (r, X)) (F0 m 4 ls' [])) (hk12 : ∀ {H' : Heap} {locs' : List Loc} {ls' : Array Slot} {x1' : Int32} {x3' : Int32}, Wd g σ X s H' locs' → lv_has ls' 4 [(0, .ref a), (1, .int x1'), (2, .int x2), (3, .int x3')] → k12 x1' x3' = some r → W p l e (rmZ 1 22) s m args below meth c H' locs' 0 0 (QI g σ below args s (r, X)) (F0 m 12 ls' [])) (hW : Wd g σ X s H locs) (hl : lv_has ls 4 [(0, .ref a), (2, .int x2), (3, .int x3)]) (h : f_X10_filled_60 k4 k12 σ X a x2 x3 y0 y1 = some r) : W p l e (rmZ 1 22) s m args below meth c H locs 0 0 (QI g σ below args s (r, X)) (F0 m 60 ls [.int y1, .int y0]) := by
  have hx := C.x
  have hb := C.b
  unfold f_X10_filled_60 at h
  refine lv_iadd hx hb dX10_filled_60 ?_
  refine lv_istore_n (lv' := [(1, .int (y0 + y1)), (0, .ref a), (2, .int x2), (3, .int x3)]) hx hb dX10_filled_61 rfl hl (by decide) rfl (fun ls hl => ?_)
  exact b_X10_filled_62 C hk4 hk12 hW (lv_sub hl [1, 0, 2, 3] rfl) h
set_option maxRecDepth 20000 in
set_option maxHeartbeats 2000000 in
theorem b_X10_filled_12 {k4 : Int32 → Int32 → Option Int32} {a : Nat} {x2 : Int32} (C : Cx g RX10 cX10_filled 4 (some .int) p s m args meth c) {r : Int32} {X : Mx} (hk4 : ∀ {H' : Heap} {locs' : List Loc} {ls' : Array Slot} {x1' : Int32} {x2' : Int32}, Wd g σ X s H' locs' → lv_has ls' 4 [(0, .ref a), (1, .int x1'), (2, .int x2')] → k4 x1' x2' = some r → W p l e (rmZ 1 22) s m args below meth c H' locs' 0 0 (QI g σ below args s (r, X)) (F0 m 4 ls' [])) : ∀ (n : Nat) {x1 : Int32} {x3 : Int32} {H : Heap} {locs : List Loc} {ls : Array Slot} (hW : Wd g σ X s H locs) (hl : lv_has ls 4 [(0, .ref a), (1, .int x1), (2, .int x2), (3, .int x3)]) (h : f_X10_filled_12 k4 σ X a x2 n x1 x3 = some r), W p l e (rmZ 1 22) s m args below meth c H locs 0 0 (QI g σ below args s (r, X)) (F0 m 12 ls []) := by
  have hx := C.x
  have hb := C.b
  intro n
  induction n with
  | zero =>
    intro x1 x3 H locs ls hW hl h
    cases (show none = some r from h)
  | succ n ih =>
    intro x1 x3 H locs ls hW hl h
    rw [f_X10_filled_12] at h
    refine lv_iload_n hx hb dX10_filled_12 rfl (lv_at hl 3 rfl) ?_
    refine lv_bipush (v := 9) hx hb dX10_filled_13 (by decide) ?_
    refine r_br h (lv_icmp_ge (tgt := 68) hx hb dX10_filled_15 (by decide)) (fun h => ?_) (fun h => ?_)
    · refine lv_iinc (v := (x2 + 1)) (lv' := [(2, .int (x2 + 1)), (0, .ref a), (1, .int x1), (3, .int x3)]) hx hb dX10_filled_68 hl (k := 2) rfl rfl (by decide) rfl (fun ls hl => ?_)
      refine lv_goto (tgt := 4) hx hb dX10_filled_71 (by decide) ?_
      exact hk4 hW (lv_sub hl [1, 2, 0] rfl) h
    · refine lv_aload_n hx hb dX10_filled_18 rfl (lv_at hl 0 rfl) ?_
      refine r_gI C hW h fl_X10_323 (by decide) dX10_filled_19 (fun v1 h => ?_)
      refine lv_iload_n hx hb dX10_filled_22 rfl (lv_at hl 2 rfl) ?_
      refine lv_ishr hx hb dX10_filled_23 ?_
      refine lv_iconst (v := 1) hx hb dX10_filled_24 (by decide) ?_
      refine lv_iand hx hb dX10_filled_25 ?_
      refine lv_iconst (v := 1) hx hb dX10_filled_26 (by decide) ?_
      refine r_brn h (lv_icmp_ne (tgt := 62) hx hb dX10_filled_27 (by decide)) (fun h => ?_) (fun h => ?_)
      · exact b_X10_filled_62 C hk4 (fun hW hl h => ih hW hl h) hW (lv_sub hl [0, 1, 2, 3] rfl) h
      · refine lv_aload_n hx hb dX10_filled_30 rfl (lv_at hl 0 rfl) ?_
        refine r_gI C hW h fl_X10_291 (by decide) dX10_filled_31 (fun v2 h => ?_)
        refine lv_iload_n hx hb dX10_filled_34 rfl (lv_at hl 3 rfl) ?_
        refine lv_ishr hx hb dX10_filled_35 ?_
        refine lv_iconst (v := 1) hx hb dX10_filled_36 (by decide) ?_
        refine lv_iand hx hb dX10_filled_37 ?_
        refine lv_iconst (v := 1) hx hb dX10_filled_38 (by decide) ?_
        refine r_brn h (lv_icmp_ne (tgt := 62) hx hb dX10_filled_39 (by decide)) (fun h => ?_) (fun h => ?_)
        · exact b_X10_filled_62 C hk4 (fun hW hl h => ih hW hl h) hW (lv_sub hl [0, 1, 2, 3] rfl) h
        · refine lv_iload_n hx hb dX10_filled_42 rfl (lv_at hl 1 rfl) ?_
          refine lv_aload_n hx hb dX10_filled_43 rfl (lv_at hl 0 rfl) ?_
          refine lv_iload_n hx hb dX10_filled_44 rfl (lv_at hl 2 rfl) ?_
          refine lv_iload_n hx hb dX10_filled_45 rfl (lv_at hl 3 rfl) ?_
          obtain ⟨v4, h3, h⟩ := bnd_inv h
          refine r_cI hW (run_V (rest := [.int x1]) C hW (t_X10_mergedAt h3) mk_X10_mergedAt vk_X10_326 (kd_X10_mergedAt h3) rfl rfl (by decide) ⟨Nat.le_of_ble_eq_true rfl, Nat.le_of_ble_eq_true rfl⟩ ⟨Nat.zero_le _, Nat.zero_le _⟩ rfl rfl (Nat.le_of_ble_eq_true rfl) hl.1 dX10_filled_46) (fun H locs hW => ?_)
          refine lv_sipush (v := 9999) hx hb dX10_filled_49 (by decide) ?_
          refine r_brn h (lv_icmp_ne (tgt := 59) hx hb dX10_filled_52 (by decide)) (fun h => ?_) (fun h => ?_)
          · refine lv_iconst (v := 1) hx hb dX10_filled_59 (by decide) ?_
            exact b_X10_filled_60 C hk4 (fun hW hl h => ih hW hl h) hW (lv_sub hl [0, 2, 3] rfl) h
          · refine lv_iconst (v := 0) hx hb dX10_filled_55 (by decide) ?_
            refine lv_goto (tgt := 60) hx hb dX10_filled_56 (by decide) ?_
            exact b_X10_filled_60 C hk4 (fun hW hl h => ih hW hl h) hW (lv_sub hl [0, 2, 3] rfl) h
set_option maxRecDepth 20000 in
set_option maxHeartbeats 2000000 in
theorem b_X10_filled_4 {a : Nat} (C : Cx g RX10 cX10_filled 4 (some .int) p s m args meth c) {r : Int32} {X : Mx} : ∀ (n : Nat) {x1 : Int32} {x2 : Int32} {H : Heap} {locs : List Loc} {ls : Array Slot} (hW : Wd g σ X s H locs) (hl : lv_has ls 4 [(0, .ref a), (1, .int x1), (2, .int x2)]) (h : f_X10_filled_4 σ X a n x1 x2 = some r), W p l e (rmZ 1 22) s m args below meth c H locs 0 0 (QI g σ below args s (r, X)) (F0 m 4 ls []) := by
  have hx := C.x
  have hb := C.b
  intro n
  induction n with
  | zero =>
    intro x1 x2 H locs ls hW hl h
    cases (show none = some r from h)
  | succ n ih =>
    intro x1 x2 H locs ls hW hl h
    rw [f_X10_filled_4] at h
    refine lv_iload_n hx hb dX10_filled_4 rfl (lv_at hl 2 rfl) ?_
    refine lv_bipush (v := 20) hx hb dX10_filled_5 (by decide) ?_
    refine r_br h (lv_icmp_ge (tgt := 74) hx hb dX10_filled_7 (by decide)) (fun h => ?_) (fun h => ?_)
    · refine lv_iload_n hx hb dX10_filled_74 rfl (lv_at hl 1 rfl) ?_
      exact r_iret C hW (rt_R h) rfl dX10_filled_75
    · refine lv_iconst (v := 0) hx hb dX10_filled_10 (by decide) ?_
      refine lv_istore_n (lv' := [(3, .int 0), (0, .ref a), (1, .int x1), (2, .int x2)]) hx hb dX10_filled_11 rfl hl (by decide) rfl (fun ls hl => ?_)
      exact b_X10_filled_12 C (fun hW hl h => ih hW hl h) FU hW (lv_sub hl [1, 2, 3, 0] rfl) h
theorem kd_X10_filled {X : Mx} {r : Int32} {a : Nat} (h : f_X10_filled σ X a = some r) : shK σ a = 8 := (grd_inv h).1
set_option maxRecDepth 20000 in
set_option maxHeartbeats 2000000 in
theorem t_X10_filled {X : Mx} {r : Int32} {a : Nat} (h : f_X10_filled σ X a = some r) : MtI g l yX10_filled cX10_filled 4 (some .int) 1 22 [.ref a] σ X (r, X) := by
  refine met_of mk_X10_filled (Nat.le_of_ble_eq_true rfl) (fun p e s m args below meth c ls C hW hl => ?_)
  have hx := C.x
  have hb := C.b
  have hl : lv_has ls 4 [(0, .ref a)] := hl
  unfold f_X10_filled at h
  obtain ⟨hk0, h⟩ := grd_inv h
  refine lv_iconst (v := 0) hx hb dX10_filled_0 (by decide) ?_
  refine lv_istore_n (lv' := [(1, .int 0), (0, .ref a)]) hx hb dX10_filled_1 rfl hl (by decide) rfl (fun ls hl => ?_)
  refine lv_iconst (v := 0) hx hb dX10_filled_2 (by decide) ?_
  refine lv_istore_n (lv' := [(2, .int 0), (1, .int 0), (0, .ref a)]) hx hb dX10_filled_3 rfl hl (by decide) rfl (fun ls hl => ?_)
  exact b_X10_filled_4 C FU hW (lv_sub hl [2, 1, 0] rfl) h
theorem kd_X10_count {X : Mx} {r : (Int32 × Mx)} {a : Nat} {x1 : Int32} (h : f_X10_count σ X a x1 = some r) : shK σ a = 8 := (grd_inv h).1
set_option maxRecDepth 20000 in
set_option maxHeartbeats 2000000 in
theorem t_X10_count {X : Mx} {r : (Int32 × Mx)} {a : Nat} {x1 : Int32} (h : f_X10_count σ X a x1 = some r) : MtI g l yX10_count cX10_count 2 (some .int) 7 169 [.ref a, .int x1] σ X r := by
  refine met_of mk_X10_count (Nat.le_of_ble_eq_true rfl) (fun p e s m args below meth c ls C hW hl => ?_)
  have hx := C.x
  have hb := C.b
  have hl : lv_has ls 2 [(0, .ref a), (1, .int x1)] := hl
  unfold f_X10_count at h
  obtain ⟨hk0, h⟩ := grd_inv h
  refine lv_aload_n hx hb dX10_count_0 rfl (lv_at hl 0 rfl) ?_
  refine lv_iconst (v := 0) hx hb dX10_count_1 (by decide) ?_
  refine r_pI C hW h pf_X10_65 (by decide) rfl rfl dX10_count_2 (fun X1 H locs h hW => ?_)
  refine lv_aload_n hx hb dX10_count_5 rfl (lv_at hl 0 rfl) ?_
  refine lv_iload_n hx hb dX10_count_6 rfl (lv_at hl 1 rfl) ?_
  refine lv_iconst (v := 0) hx hb dX10_count_7 (by decide) ?_
  refine lv_bipush (v := 14) hx hb dX10_count_8 (by decide) ?_
  refine r_cI hW (run_S (rest := [.ref a]) C hW (t_X10_within (X := X1)) mk_X10_within sk_X10_231 ⟨Nat.le_of_ble_eq_true rfl, Nat.le_of_ble_eq_true rfl⟩ ⟨Nat.zero_le _, Nat.zero_le _⟩ rfl rfl (Nat.le_of_ble_eq_true rfl) hl.1 dX10_count_10) (fun H locs hW => ?_)
  refine lv_iconst (v := 1) hx hb dX10_count_13 (by decide) ?_
  obtain ⟨v4, X3, h2, h⟩ := bnd2_inv h
  refine r_cI hW (run_V (rest := []) C hW (t_X10_right h2) mk_X10_right vk_X10_214 (kd_X10_right h2) rfl rfl (by decide) ⟨Nat.le_of_ble_eq_true rfl, Nat.le_of_ble_eq_true rfl⟩ ⟨Nat.zero_le _, Nat.zero_le _⟩ rfl rfl (Nat.le_of_ble_eq_true rfl) hl.1 dX10_count_14) (fun H locs hW => ?_)
  refine r_brn h (lv_if_ne (tgt := 22) hx hb dX10_count_17 (by decide)) (fun h => ?_) (fun h => ?_)
  · refine lv_aload_n hx hb dX10_count_22 rfl (lv_at hl 0 rfl) ?_
    refine lv_iconst (v := 0) hx hb dX10_count_23 (by decide) ?_
    obtain ⟨X6, h5, h⟩ := bnd_inv h
    refine r_cV hW (run_V (rest := []) C hW (t_X10_merges h5) mk_X10_merges vk_X10_354 (kd_X10_merges h5) rfl rfl (by decide) ⟨Nat.le_of_ble_eq_true rfl, Nat.le_of_ble_eq_true rfl⟩ ⟨Nat.zero_le _, Nat.zero_le _⟩ rfl rfl (Nat.le_of_ble_eq_true rfl) hl.1 dX10_count_24) (fun H locs hW => ?_)
    refine lv_iload_n hx hb dX10_count_27 rfl (lv_at hl 1 rfl) ?_
    refine r_case h (fun ec h => ?_) (fun nc0 h => ?_)
    · refine lv_tableIn (tgt := 92) (off := 64) hx hb dX10_count_28 (by rw [ec]; decide) (by rw [ec]; decide) (by rw [ec]; rfl) (by decide) ?_
      refine lv_aload_n hx hb dX10_count_92 rfl (lv_at hl 0 rfl) ?_
      refine r_gR C hW h fl_X10_20 (by decide) dX10_count_93 (fun b7 h => ?_)
      refine lv_sipush (v := 400) hx hb dX10_count_96 (by decide) ?_
      refine r_iald C hW h dX10_count_99 (fun v8 h => ?_)
      obtain ⟨v10, h9, h⟩ := bnd_inv h
      refine r_cI hW (run_S (rest := []) C hW (t_X10_bits h9) mk_X10_bits sk_X10_240 ⟨Nat.le_of_ble_eq_true rfl, Nat.le_of_ble_eq_true rfl⟩ ⟨Nat.zero_le _, Nat.zero_le _⟩ rfl rfl (Nat.le_of_ble_eq_true rfl) hl.1 dX10_count_100) (fun H locs hW => ?_)
      exact r_iret C hW (Option.some.inj h).symm rfl dX10_count_103
    refine r_case h (fun ec h => ?_) (fun nc1 h => ?_)
    · refine lv_tableIn (tgt := 104) (off := 76) hx hb dX10_count_28 (by rw [ec]; decide) (by rw [ec]; decide) (by rw [ec]; rfl) (by decide) ?_
      refine lv_aload_n hx hb dX10_count_104 rfl (lv_at hl 0 rfl) ?_
      refine r_gR C hW h fl_X10_20 (by decide) dX10_count_105 (fun b11 h => ?_)
      refine lv_sipush (v := 401) hx hb dX10_count_108 (by decide) ?_
      refine r_iald C hW h dX10_count_111 (fun v12 h => ?_)
      obtain ⟨v14, h13, h⟩ := bnd_inv h
      refine r_cI hW (run_S (rest := []) C hW (t_X10_bits h13) mk_X10_bits sk_X10_240 ⟨Nat.le_of_ble_eq_true rfl, Nat.le_of_ble_eq_true rfl⟩ ⟨Nat.zero_le _, Nat.zero_le _⟩ rfl rfl (Nat.le_of_ble_eq_true rfl) hl.1 dX10_count_112) (fun H locs hW => ?_)
      exact r_iret C hW (Option.some.inj h).symm rfl dX10_count_115
    refine r_case h (fun ec h => ?_) (fun nc2 h => ?_)
    · refine lv_tableIn (tgt := 116) (off := 88) hx hb dX10_count_28 (by rw [ec]; decide) (by rw [ec]; decide) (by rw [ec]; rfl) (by decide) ?_
      refine lv_aload_n hx hb dX10_count_116 rfl (lv_at hl 0 rfl) ?_
      refine r_gR C hW h fl_X10_20 (by decide) dX10_count_117 (fun b15 h => ?_)
      refine lv_sipush (v := 600) hx hb dX10_count_120 (by decide) ?_
      refine r_iald C hW h dX10_count_123 (fun v16 h => ?_)
      exact r_iret C hW (Option.some.inj h).symm rfl dX10_count_124
    refine r_case h (fun ec h => ?_) (fun nc3 h => ?_)
    · refine lv_tableIn (tgt := 125) (off := 97) hx hb dX10_count_28 (by rw [ec]; decide) (by rw [ec]; decide) (by rw [ec]; rfl) (by decide) ?_
      refine lv_aload_n hx hb dX10_count_125 rfl (lv_at hl 0 rfl) ?_
      refine r_gI C hW h fl_X10_291 (by decide) dX10_count_126 (fun v17 h => ?_)
      obtain ⟨v19, h18, h⟩ := bnd_inv h
      refine r_cI hW (run_S (rest := []) C hW (t_X10_bits h18) mk_X10_bits sk_X10_240 ⟨Nat.le_of_ble_eq_true rfl, Nat.le_of_ble_eq_true rfl⟩ ⟨Nat.zero_le _, Nat.zero_le _⟩ rfl rfl (Nat.le_of_ble_eq_true rfl) hl.1 dX10_count_129) (fun H locs hW => ?_)
      exact r_iret C hW (Option.some.inj h).symm rfl dX10_count_132
    refine r_case h (fun ec h => ?_) (fun nc4 h => ?_)
    · refine lv_tableIn (tgt := 133) (off := 105) hx hb dX10_count_28 (by rw [ec]; decide) (by rw [ec]; decide) (by rw [ec]; rfl) (by decide) ?_
      refine lv_aload_n hx hb dX10_count_133 rfl (lv_at hl 0 rfl) ?_
      refine r_gI C hW h fl_X10_323 (by decide) dX10_count_134 (fun v20 h => ?_)
      obtain ⟨v22, h21, h⟩ := bnd_inv h
      refine r_cI hW (run_S (rest := []) C hW (t_X10_bits h21) mk_X10_bits sk_X10_240 ⟨Nat.le_of_ble_eq_true rfl, Nat.le_of_ble_eq_true rfl⟩ ⟨Nat.zero_le _, Nat.zero_le _⟩ rfl rfl (Nat.le_of_ble_eq_true rfl) hl.1 dX10_count_137) (fun H locs hW => ?_)
      exact r_iret C hW (Option.some.inj h).symm rfl dX10_count_140
    refine r_case h (fun ec h => ?_) (fun nc5 h => ?_)
    · refine lv_tableIn (tgt := 141) (off := 113) hx hb dX10_count_28 (by rw [ec]; decide) (by rw [ec]; decide) (by rw [ec]; rfl) (by decide) ?_
      refine lv_aload_n hx hb dX10_count_141 rfl (lv_at hl 0 rfl) ?_
      refine r_gI C hW h fl_X10_282 (by decide) dX10_count_142 (fun v23 h => ?_)
      exact r_iret C hW (Option.some.inj h).symm rfl dX10_count_145
    refine r_case h (fun ec h => ?_) (fun nc6 h => ?_)
    · refine lv_tableIn (tgt := 146) (off := 118) hx hb dX10_count_28 (by rw [ec]; decide) (by rw [ec]; decide) (by rw [ec]; rfl) (by decide) ?_
      refine lv_aload_n hx hb dX10_count_146 rfl (lv_at hl 0 rfl) ?_
      obtain ⟨v25, h24, h⟩ := bnd_inv h
      refine r_cI hW (run_V (rest := []) C hW (t_X10_choicesThere h24) mk_X10_choicesThere vk_X10_357 (kd_X10_choicesThere h24) rfl rfl (by decide) ⟨Nat.le_of_ble_eq_true rfl, Nat.le_of_ble_eq_true rfl⟩ ⟨Nat.zero_le _, Nat.zero_le _⟩ rfl rfl (Nat.le_of_ble_eq_true rfl) hl.1 dX10_count_147) (fun H locs hW => ?_)
      exact r_iret C hW (Option.some.inj h).symm rfl dX10_count_150
    refine r_case h (fun ec h => ?_) (fun nc7 h => ?_)
    · refine lv_tableIn (tgt := 151) (off := 123) hx hb dX10_count_28 (by rw [ec]; decide) (by rw [ec]; decide) (by rw [ec]; rfl) (by decide) ?_
      refine lv_aload_n hx hb dX10_count_151 rfl (lv_at hl 0 rfl) ?_
      obtain ⟨v27, h26, h⟩ := bnd_inv h
      refine r_cI hW (run_V (rest := []) C hW (t_X10_choicesWaiting h26) mk_X10_choicesWaiting vk_X10_360 (kd_X10_choicesWaiting h26) rfl rfl (by decide) ⟨Nat.le_of_ble_eq_true rfl, Nat.le_of_ble_eq_true rfl⟩ ⟨Nat.zero_le _, Nat.zero_le _⟩ rfl rfl (Nat.le_of_ble_eq_true rfl) hl.1 dX10_count_152) (fun H locs hW => ?_)
      exact r_iret C hW (Option.some.inj h).symm rfl dX10_count_155
    refine r_case h (fun ec h => ?_) (fun nc8 h => ?_)
    · refine lv_tableIn (tgt := 156) (off := 128) hx hb dX10_count_28 (by rw [ec]; decide) (by rw [ec]; decide) (by rw [ec]; rfl) (by decide) ?_
      refine lv_aload_n hx hb dX10_count_156 rfl (lv_at hl 0 rfl) ?_
      obtain ⟨v29, h28, h⟩ := bnd_inv h
      refine r_cI hW (run_V (rest := []) C hW (t_X10_filled h28) mk_X10_filled vk_X10_363 (kd_X10_filled h28) rfl rfl (by decide) ⟨Nat.le_of_ble_eq_true rfl, Nat.le_of_ble_eq_true rfl⟩ ⟨Nat.zero_le _, Nat.zero_le _⟩ rfl rfl (Nat.le_of_ble_eq_true rfl) hl.1 dX10_count_157) (fun H locs hW => ?_)
      exact r_iret C hW (Option.some.inj h).symm rfl dX10_count_160
    refine r_case h (fun ec h => ?_) (fun nc9 h => ?_)
    · refine lv_tableIn (tgt := 161) (off := 133) hx hb dX10_count_28 (by rw [ec]; decide) (by rw [ec]; decide) (by rw [ec]; rfl) (by decide) ?_
      refine lv_aload_n hx hb dX10_count_161 rfl (lv_at hl 0 rfl) ?_
      refine r_gI C hW h fl_X10_221 (by decide) dX10_count_162 (fun v30 h => ?_)
      exact r_iret C hW (Option.some.inj h).symm rfl dX10_count_165
    refine r_case h (fun ec h => ?_) (fun nc10 h => ?_)
    · refine lv_tableIn (tgt := 166) (off := 138) hx hb dX10_count_28 (by rw [ec]; decide) (by rw [ec]; decide) (by rw [ec]; rfl) (by decide) ?_
      refine lv_aload_n hx hb dX10_count_166 rfl (lv_at hl 0 rfl) ?_
      refine r_gI C hW h fl_X10_224 (by decide) dX10_count_167 (fun v31 h => ?_)
      exact r_iret C hW (Option.some.inj h).symm rfl dX10_count_170
    refine r_case h (fun ec h => ?_) (fun nc11 h => ?_)
    · refine lv_tableIn (tgt := 171) (off := 143) hx hb dX10_count_28 (by rw [ec]; decide) (by rw [ec]; decide) (by rw [ec]; rfl) (by decide) ?_
      refine lv_aload_n hx hb dX10_count_171 rfl (lv_at hl 0 rfl) ?_
      refine r_gI C hW h fl_X10_68 (by decide) dX10_count_172 (fun v32 h => ?_)
      exact r_iret C hW (Option.some.inj h).symm rfl dX10_count_175
    refine lv_tableOut (tgt := 176) hx hb dX10_count_28 (sw_out (lo := 0) (n := 11) (sw_s nc11 (sw_s nc10 (sw_s nc9 (sw_s nc8 (sw_s nc7 (sw_s nc6 (sw_s nc5 (sw_s nc4 (sw_s nc3 (sw_s nc2 (sw_s nc1 (sw_0 nc0)))))))))))) (by decide)) (by decide) ?_
    refine lv_aload_n hx hb dX10_count_176 rfl (lv_at hl 0 rfl) ?_
    refine r_gR C hW h fl_X10_17 (by decide) dX10_count_177 (fun b33 h => ?_)
    refine lv_iload_n hx hb dX10_count_180 rfl (lv_at hl 1 rfl) ?_
    refine lv_bipush (v := 12) hx hb dX10_count_181 (by decide) ?_
    refine lv_isub hx hb dX10_count_183 ?_
    refine r_iald C hW h dX10_count_184 (fun v34 h => ?_)
    exact r_iret C hW (Option.some.inj h).symm rfl dX10_count_185
  · refine lv_iconst (v := 0) hx hb dX10_count_20 (by decide) ?_
    exact r_iret C hW (Option.some.inj h).symm rfl dX10_count_21
theorem kd_X10_isTable {X : Mx} {r : (Int32 × Mx)} {a : Nat} {x1 : Int32} (h : f_X10_isTable σ X a x1 = some r) : shK σ a = 8 := (grd_inv h).1
set_option maxRecDepth 20000 in
set_option maxHeartbeats 2000000 in
theorem t_X10_isTable {X : Mx} {r : (Int32 × Mx)} {a : Nat} {x1 : Int32} (h : f_X10_isTable σ X a x1 = some r) : MtI g l yX10_isTable cX10_isTable 2 (some .boolean) 7 169 [.ref a, .int x1] σ X r := by
  refine met_of mk_X10_isTable (Nat.le_of_ble_eq_true rfl) (fun p e s m args below meth c ls C hW hl => ?_)
  have hx := C.x
  have hb := C.b
  have hl : lv_has ls 2 [(0, .ref a), (1, .int x1)] := hl
  unfold f_X10_isTable at h
  obtain ⟨hk0, h⟩ := grd_inv h
  refine lv_aload_n hx hb dX10_isTable_0 rfl (lv_at hl 0 rfl) ?_
  refine lv_iload_n hx hb dX10_isTable_1 rfl (lv_at hl 1 rfl) ?_
  refine lv_iconst (v := 0) hx hb dX10_isTable_2 (by decide) ?_
  refine lv_iconst (v := 3) hx hb dX10_isTable_3 (by decide) ?_
  refine r_cI hW (run_S (rest := [.ref a]) C hW (t_X10_within (X := X)) mk_X10_within sk_X10_231 ⟨Nat.le_of_ble_eq_true rfl, Nat.le_of_ble_eq_true rfl⟩ ⟨Nat.zero_le _, Nat.zero_le _⟩ rfl rfl (Nat.le_of_ble_eq_true rfl) hl.1 dX10_isTable_4) (fun H locs hW => ?_)
  refine lv_iconst (v := 1) hx hb dX10_isTable_7 (by decide) ?_
  obtain ⟨v3, X2, h1, h⟩ := bnd2_inv h
  refine r_cI hW (run_V (rest := []) C hW (t_X10_right h1) mk_X10_right vk_X10_214 (kd_X10_right h1) rfl rfl (by decide) ⟨Nat.le_of_ble_eq_true rfl, Nat.le_of_ble_eq_true rfl⟩ ⟨Nat.zero_le _, Nat.zero_le _⟩ rfl rfl (Nat.le_of_ble_eq_true rfl) hl.1 dX10_isTable_8) (fun H locs hW => ?_)
  refine r_brn h (lv_if_ne (tgt := 16) hx hb dX10_isTable_11 (by decide)) (fun h => ?_) (fun h => ?_)
  · refine lv_iload_n hx hb dX10_isTable_16 rfl (lv_at hl 1 rfl) ?_
    refine lv_iconst (v := 3) hx hb dX10_isTable_17 (by decide) ?_
    refine r_brn h (lv_icmp_ne (tgt := 26) hx hb dX10_isTable_18 (by decide)) (fun h => ?_) (fun h => ?_)
    · refine lv_iconst (v := 1) hx hb dX10_isTable_26 (by decide) ?_
      exact r_iret C hW (Option.some.inj h).symm rfl dX10_isTable_27
    · refine lv_aload_n hx hb dX10_isTable_21 rfl (lv_at hl 0 rfl) ?_
      refine lv_iconst (v := 0) hx hb dX10_isTable_22 (by decide) ?_
      obtain ⟨X5, h4, h⟩ := bnd_inv h
      refine r_cV hW (run_V (rest := []) C hW (t_X10_merges h4) mk_X10_merges vk_X10_354 (kd_X10_merges h4) rfl rfl (by decide) ⟨Nat.le_of_ble_eq_true rfl, Nat.le_of_ble_eq_true rfl⟩ ⟨Nat.zero_le _, Nat.zero_le _⟩ rfl rfl (Nat.le_of_ble_eq_true rfl) hl.1 dX10_isTable_23) (fun H locs hW => ?_)
      refine lv_iconst (v := 1) hx hb dX10_isTable_26 (by decide) ?_
      exact r_iret C hW (Option.some.inj h).symm rfl dX10_isTable_27
  · refine lv_iconst (v := 0) hx hb dX10_isTable_14 (by decide) ?_
    exact r_iret C hW (Option.some.inj h).symm rfl dX10_isTable_15
theorem kd_X10_hasOf {X : Mx} {r : Int32} {a : Nat} {x1 : Int32} (h : f_X10_hasOf σ X a x1 = some r) : shK σ a = 8 := (grd_inv h).1
set_option maxRecDepth 20000 in
set_option maxHeartbeats 2000000 in
theorem t_X10_hasOf {X : Mx} {r : Int32} {a : Nat} {x1 : Int32} (h : f_X10_hasOf σ X a x1 = some r) : MtI g l yX10_hasOf cX10_hasOf 2 (some .int) 0 0 [.ref a, .int x1] σ X (r, X) := by
  refine met_of mk_X10_hasOf (Nat.le_of_ble_eq_true rfl) (fun p e s m args below meth c ls C hW hl => ?_)
  have hx := C.x
  have hb := C.b
  have hl : lv_has ls 2 [(0, .ref a), (1, .int x1)] := hl
  unfold f_X10_hasOf at h
  obtain ⟨hk0, h⟩ := grd_inv h
  refine lv_iload_n hx hb dX10_hasOf_0 rfl (lv_at hl 1 rfl) ?_
  refine lv_iconst (v := 3) hx hb dX10_hasOf_1 (by decide) ?_
  refine r_brn h (lv_icmp_ne (tgt := 12) hx hb dX10_hasOf_2 (by decide)) (fun h => ?_) (fun h => ?_)
  · refine lv_aload_n hx hb dX10_hasOf_12 rfl (lv_at hl 0 rfl) ?_
    refine r_gR C hW h fl_X10_20 (by decide) dX10_hasOf_13 (fun b1 h => ?_)
    refine lv_sipush (v := 200) hx hb dX10_hasOf_16 (by decide) ?_
    refine lv_iload_n hx hb dX10_hasOf_19 rfl (lv_at hl 1 rfl) ?_
    refine lv_imul hx hb dX10_hasOf_20 ?_
    refine lv_iconst (v := 0) hx hb dX10_hasOf_21 (by decide) ?_
    refine lv_iadd hx hb dX10_hasOf_22 ?_
    refine r_iald C hW h dX10_hasOf_23 (fun v2 h => ?_)
    exact r_iret C hW (rt_R h) rfl dX10_hasOf_24
  · refine lv_aload_n hx hb dX10_hasOf_5 rfl (lv_at hl 0 rfl) ?_
    refine r_gI C hW h fl_X10_291 (by decide) dX10_hasOf_6 (fun v3 h => ?_)
    refine lv_goto (tgt := 24) hx hb dX10_hasOf_9 (by decide) ?_
    exact r_iret C hW (rt_R h) rfl dX10_hasOf_24
theorem kd_X10_keysOf {X : Mx} {r : Int32} {a : Nat} {x1 : Int32} (h : f_X10_keysOf σ X a x1 = some r) : shK σ a = 8 := (grd_inv h).1
set_option maxRecDepth 20000 in
set_option maxHeartbeats 2000000 in
theorem t_X10_keysOf {X : Mx} {r : Int32} {a : Nat} {x1 : Int32} (h : f_X10_keysOf σ X a x1 = some r) : MtI g l yX10_keysOf cX10_keysOf 2 (some .int) 0 0 [.ref a, .int x1] σ X (r, X) := by
  refine met_of mk_X10_keysOf (Nat.le_of_ble_eq_true rfl) (fun p e s m args below meth c ls C hW hl => ?_)
  have hx := C.x
  have hb := C.b
  have hl : lv_has ls 2 [(0, .ref a), (1, .int x1)] := hl
  unfold f_X10_keysOf at h
  obtain ⟨hk0, h⟩ := grd_inv h
  refine lv_iload_n hx hb dX10_keysOf_0 rfl (lv_at hl 1 rfl) ?_
  refine lv_iconst (v := 3) hx hb dX10_keysOf_1 (by decide) ?_
  refine r_brn h (lv_icmp_ne (tgt := 12) hx hb dX10_keysOf_2 (by decide)) (fun h => ?_) (fun h => ?_)
  · refine lv_aload_n hx hb dX10_keysOf_12 rfl (lv_at hl 0 rfl) ?_
    refine r_gR C hW h fl_X10_20 (by decide) dX10_keysOf_13 (fun b1 h => ?_)
    refine lv_sipush (v := 200) hx hb dX10_keysOf_16 (by decide) ?_
    refine lv_iload_n hx hb dX10_keysOf_19 rfl (lv_at hl 1 rfl) ?_
    refine lv_imul hx hb dX10_keysOf_20 ?_
    refine lv_iconst (v := 1) hx hb dX10_keysOf_21 (by decide) ?_
    refine lv_iadd hx hb dX10_keysOf_22 ?_
    refine r_iald C hW h dX10_keysOf_23 (fun v2 h => ?_)
    exact r_iret C hW (rt_R h) rfl dX10_keysOf_24
  · refine lv_aload_n hx hb dX10_keysOf_5 rfl (lv_at hl 0 rfl) ?_
    refine r_gI C hW h fl_X10_323 (by decide) dX10_keysOf_6 (fun v3 h => ?_)
    refine lv_goto (tgt := 24) hx hb dX10_keysOf_9 (by decide) ?_
    exact r_iret C hW (rt_R h) rfl dX10_keysOf_24
set_option maxRecDepth 20000 in
set_option maxHeartbeats 2000000 in
theorem b_X10_isColumn_29 (C : Cx g RX10 cX10_isColumn 3 (some .boolean) p s m args meth c) {r : (Int32 × Mx)} {X : Mx} {y0 : Nat} {y1 : Int32} (hW : Wd g σ X s H locs) (hl : lv_has ls 3 []) (h : f_X10_isColumn_29 σ X y0 y1 = some r) : W p l e (rmZ 1 22) s m args below meth c H locs 0 0 (QI g σ below args s r) (F0 m 29 ls [.int y1, .ref y0]) := by
  have hx := C.x
  have hb := C.b
  unfold f_X10_isColumn_29 at h
  refine lv_iconst (v := 1) hx hb dX10_isColumn_29 (by decide) ?_
  obtain ⟨v3, X2, h1, h⟩ := bnd2_inv h
  refine r_cI hW (run_V (rest := []) C hW (t_X10_right h1) mk_X10_right vk_X10_214 (kd_X10_right h1) rfl rfl (by decide) ⟨Nat.le_of_ble_eq_true rfl, Nat.le_of_ble_eq_true rfl⟩ ⟨Nat.zero_le _, Nat.zero_le _⟩ rfl rfl (Nat.le_of_ble_eq_true rfl) hl.1 dX10_isColumn_30) (fun H locs hW => ?_)
  obtain ⟨hz, h⟩ := grd_inv h
  exact r_iret C hW (Option.some.inj h).symm (zb hz) dX10_isColumn_33
set_option maxRecDepth 20000 in
set_option maxHeartbeats 2000000 in
theorem b_X10_isColumn_28 (C : Cx g RX10 cX10_isColumn 3 (some .boolean) p s m args meth c) {r : (Int32 × Mx)} {X : Mx} {y0 : Nat} (hW : Wd g σ X s H locs) (hl : lv_has ls 3 []) (h : f_X10_isColumn_28 σ X y0 = some r) : W p l e (rmZ 1 22) s m args below meth c H locs 0 0 (QI g σ below args s r) (F0 m 28 ls [.ref y0]) := by
  have hx := C.x
  have hb := C.b
  unfold f_X10_isColumn_28 at h
  refine lv_iconst (v := 0) hx hb dX10_isColumn_28 (by decide) ?_
  exact b_X10_isColumn_29 C hW (lv_sub hl [] rfl) h
theorem kd_X10_isColumn {X : Mx} {r : (Int32 × Mx)} {a : Nat} {x1 : Int32} {x2 : Int32} (h : f_X10_isColumn σ X a x1 x2 = some r) : shK σ a = 8 := (grd_inv h).1
set_option maxRecDepth 20000 in
set_option maxHeartbeats 2000000 in
theorem t_X10_isColumn {X : Mx} {r : (Int32 × Mx)} {a : Nat} {x1 : Int32} {x2 : Int32} (h : f_X10_isColumn σ X a x1 x2 = some r) : MtI g l yX10_isColumn cX10_isColumn 3 (some .boolean) 1 22 [.ref a, .int x1, .int x2] σ X r := by
  refine met_of mk_X10_isColumn (Nat.le_of_ble_eq_true rfl) (fun p e s m args below meth c ls C hW hl => ?_)
  have hx := C.x
  have hb := C.b
  have hl : lv_has ls 3 [(0, .ref a), (1, .int x1), (2, .int x2)] := hl
  unfold f_X10_isColumn at h
  obtain ⟨hk0, h⟩ := grd_inv h
  refine lv_aload_n hx hb dX10_isColumn_0 rfl (lv_at hl 0 rfl) ?_
  refine lv_iload_n hx hb dX10_isColumn_1 rfl (lv_at hl 2 rfl) ?_
  refine lv_iconst (v := 0) hx hb dX10_isColumn_2 (by decide) ?_
  refine lv_bipush (v := 8) hx hb dX10_isColumn_3 (by decide) ?_
  refine r_cI hW (run_S (rest := [.ref a]) C hW (t_X10_within (X := X)) mk_X10_within sk_X10_231 ⟨Nat.le_of_ble_eq_true rfl, Nat.le_of_ble_eq_true rfl⟩ ⟨Nat.zero_le _, Nat.zero_le _⟩ rfl rfl (Nat.le_of_ble_eq_true rfl) hl.1 dX10_isColumn_5) (fun H locs hW => ?_)
  refine r_br h (lv_if_eq (tgt := 28) hx hb dX10_isColumn_8 (by decide)) (fun h => ?_) (fun h => ?_)
  · exact b_X10_isColumn_28 C hW (lv_sub hl [] rfl) h
  · refine lv_aload_n hx hb dX10_isColumn_11 rfl (lv_at hl 0 rfl) ?_
    refine lv_iload_n hx hb dX10_isColumn_12 rfl (lv_at hl 1 rfl) ?_
    obtain ⟨v2, h1, h⟩ := bnd_inv h
    refine r_cI hW (run_V (rest := [.ref a]) C hW (t_X10_hasOf h1) mk_X10_hasOf vk_X10_366 (kd_X10_hasOf h1) rfl rfl (by decide) ⟨Nat.le_of_ble_eq_true rfl, Nat.le_of_ble_eq_true rfl⟩ ⟨Nat.zero_le _, Nat.zero_le _⟩ rfl rfl (Nat.le_of_ble_eq_true rfl) hl.1 dX10_isColumn_13) (fun H locs hW => ?_)
    refine lv_iload_n hx hb dX10_isColumn_16 rfl (lv_at hl 2 rfl) ?_
    refine lv_ishr hx hb dX10_isColumn_17 ?_
    refine lv_iconst (v := 1) hx hb dX10_isColumn_18 (by decide) ?_
    refine lv_iand hx hb dX10_isColumn_19 ?_
    refine lv_iconst (v := 1) hx hb dX10_isColumn_20 (by decide) ?_
    refine r_brn h (lv_icmp_ne (tgt := 28) hx hb dX10_isColumn_21 (by decide)) (fun h => ?_) (fun h => ?_)
    · exact b_X10_isColumn_28 C hW (lv_sub hl [] rfl) h
    · refine lv_iconst (v := 1) hx hb dX10_isColumn_24 (by decide) ?_
      refine lv_goto (tgt := 29) hx hb dX10_isColumn_25 (by decide) ?_
      exact b_X10_isColumn_29 C hW (lv_sub hl [] rfl) h
set_option maxRecDepth 20000 in
set_option maxHeartbeats 2000000 in
theorem b_X10_isKey_29 (C : Cx g RX10 cX10_isKey 3 (some .boolean) p s m args meth c) {r : (Int32 × Mx)} {X : Mx} {y0 : Nat} {y1 : Int32} (hW : Wd g σ X s H locs) (hl : lv_has ls 3 []) (h : f_X10_isKey_29 σ X y0 y1 = some r) : W p l e (rmZ 1 22) s m args below meth c H locs 0 0 (QI g σ below args s r) (F0 m 29 ls [.int y1, .ref y0]) := by
  have hx := C.x
  have hb := C.b
  unfold f_X10_isKey_29 at h
  refine lv_iconst (v := 1) hx hb dX10_isKey_29 (by decide) ?_
  obtain ⟨v3, X2, h1, h⟩ := bnd2_inv h
  refine r_cI hW (run_V (rest := []) C hW (t_X10_right h1) mk_X10_right vk_X10_214 (kd_X10_right h1) rfl rfl (by decide) ⟨Nat.le_of_ble_eq_true rfl, Nat.le_of_ble_eq_true rfl⟩ ⟨Nat.zero_le _, Nat.zero_le _⟩ rfl rfl (Nat.le_of_ble_eq_true rfl) hl.1 dX10_isKey_30) (fun H locs hW => ?_)
  obtain ⟨hz, h⟩ := grd_inv h
  exact r_iret C hW (Option.some.inj h).symm (zb hz) dX10_isKey_33
set_option maxRecDepth 20000 in
set_option maxHeartbeats 2000000 in
theorem b_X10_isKey_28 (C : Cx g RX10 cX10_isKey 3 (some .boolean) p s m args meth c) {r : (Int32 × Mx)} {X : Mx} {y0 : Nat} (hW : Wd g σ X s H locs) (hl : lv_has ls 3 []) (h : f_X10_isKey_28 σ X y0 = some r) : W p l e (rmZ 1 22) s m args below meth c H locs 0 0 (QI g σ below args s r) (F0 m 28 ls [.ref y0]) := by
  have hx := C.x
  have hb := C.b
  unfold f_X10_isKey_28 at h
  refine lv_iconst (v := 0) hx hb dX10_isKey_28 (by decide) ?_
  exact b_X10_isKey_29 C hW (lv_sub hl [] rfl) h
theorem kd_X10_isKey {X : Mx} {r : (Int32 × Mx)} {a : Nat} {x1 : Int32} {x2 : Int32} (h : f_X10_isKey σ X a x1 x2 = some r) : shK σ a = 8 := (grd_inv h).1
set_option maxRecDepth 20000 in
set_option maxHeartbeats 2000000 in
theorem t_X10_isKey {X : Mx} {r : (Int32 × Mx)} {a : Nat} {x1 : Int32} {x2 : Int32} (h : f_X10_isKey σ X a x1 x2 = some r) : MtI g l yX10_isKey cX10_isKey 3 (some .boolean) 1 22 [.ref a, .int x1, .int x2] σ X r := by
  refine met_of mk_X10_isKey (Nat.le_of_ble_eq_true rfl) (fun p e s m args below meth c ls C hW hl => ?_)
  have hx := C.x
  have hb := C.b
  have hl : lv_has ls 3 [(0, .ref a), (1, .int x1), (2, .int x2)] := hl
  unfold f_X10_isKey at h
  obtain ⟨hk0, h⟩ := grd_inv h
  refine lv_aload_n hx hb dX10_isKey_0 rfl (lv_at hl 0 rfl) ?_
  refine lv_iload_n hx hb dX10_isKey_1 rfl (lv_at hl 2 rfl) ?_
  refine lv_iconst (v := 0) hx hb dX10_isKey_2 (by decide) ?_
  refine lv_bipush (v := 19) hx hb dX10_isKey_3 (by decide) ?_
  refine r_cI hW (run_S (rest := [.ref a]) C hW (t_X10_within (X := X)) mk_X10_within sk_X10_231 ⟨Nat.le_of_ble_eq_true rfl, Nat.le_of_ble_eq_true rfl⟩ ⟨Nat.zero_le _, Nat.zero_le _⟩ rfl rfl (Nat.le_of_ble_eq_true rfl) hl.1 dX10_isKey_5) (fun H locs hW => ?_)
  refine r_br h (lv_if_eq (tgt := 28) hx hb dX10_isKey_8 (by decide)) (fun h => ?_) (fun h => ?_)
  · exact b_X10_isKey_28 C hW (lv_sub hl [] rfl) h
  · refine lv_aload_n hx hb dX10_isKey_11 rfl (lv_at hl 0 rfl) ?_
    refine lv_iload_n hx hb dX10_isKey_12 rfl (lv_at hl 1 rfl) ?_
    obtain ⟨v2, h1, h⟩ := bnd_inv h
    refine r_cI hW (run_V (rest := [.ref a]) C hW (t_X10_keysOf h1) mk_X10_keysOf vk_X10_369 (kd_X10_keysOf h1) rfl rfl (by decide) ⟨Nat.le_of_ble_eq_true rfl, Nat.le_of_ble_eq_true rfl⟩ ⟨Nat.zero_le _, Nat.zero_le _⟩ rfl rfl (Nat.le_of_ble_eq_true rfl) hl.1 dX10_isKey_13) (fun H locs hW => ?_)
    refine lv_iload_n hx hb dX10_isKey_16 rfl (lv_at hl 2 rfl) ?_
    refine lv_ishr hx hb dX10_isKey_17 ?_
    refine lv_iconst (v := 1) hx hb dX10_isKey_18 (by decide) ?_
    refine lv_iand hx hb dX10_isKey_19 ?_
    refine lv_iconst (v := 1) hx hb dX10_isKey_20 (by decide) ?_
    refine r_brn h (lv_icmp_ne (tgt := 28) hx hb dX10_isKey_21 (by decide)) (fun h => ?_) (fun h => ?_)
    · exact b_X10_isKey_28 C hW (lv_sub hl [] rfl) h
    · refine lv_iconst (v := 1) hx hb dX10_isKey_24 (by decide) ?_
      refine lv_goto (tgt := 29) hx hb dX10_isKey_25 (by decide) ?_
      exact b_X10_isKey_29 C hW (lv_sub hl [] rfl) h
theorem kd_X10_isWhat {X : Mx} {r : (Int32 × Mx)} {a : Nat} {x1 : Int32} {x2 : Int32} (h : f_X10_isWhat σ X a x1 x2 = some r) : shK σ a = 8 := (grd_inv h).1
set_option maxRecDepth 20000 in
set_option maxHeartbeats 2000000 in
theorem t_X10_isWhat {X : Mx} {r : (Int32 × Mx)} {a : Nat} {x1 : Int32} {x2 : Int32} (h : f_X10_isWhat σ X a x1 x2 = some r) : MtI g l yX10_isWhat cX10_isWhat 3 (some .boolean) 1 22 [.ref a, .int x1, .int x2] σ X r := by
  refine met_of mk_X10_isWhat (Nat.le_of_ble_eq_true rfl) (fun p e s m args below meth c ls C hW hl => ?_)
  have hx := C.x
  have hb := C.b
  have hl : lv_has ls 3 [(0, .ref a), (1, .int x1), (2, .int x2)] := hl
  unfold f_X10_isWhat at h
  obtain ⟨hk0, h⟩ := grd_inv h
  refine lv_aload_n hx hb dX10_isWhat_0 rfl (lv_at hl 0 rfl) ?_
  refine lv_iload_n hx hb dX10_isWhat_1 rfl (lv_at hl 1 rfl) ?_
  refine lv_iconst (v := 0) hx hb dX10_isWhat_2 (by decide) ?_
  refine lv_iload_n hx hb dX10_isWhat_3 rfl (lv_at hl 2 rfl) ?_
  refine r_cI hW (run_S (rest := [.ref a]) C hW (t_X10_within (X := X)) mk_X10_within sk_X10_231 ⟨Nat.le_of_ble_eq_true rfl, Nat.le_of_ble_eq_true rfl⟩ ⟨Nat.zero_le _, Nat.zero_le _⟩ rfl rfl (Nat.le_of_ble_eq_true rfl) hl.1 dX10_isWhat_4) (fun H locs hW => ?_)
  refine lv_iconst (v := 1) hx hb dX10_isWhat_7 (by decide) ?_
  obtain ⟨v3, X2, h1, h⟩ := bnd2_inv h
  refine r_cI hW (run_V (rest := []) C hW (t_X10_right h1) mk_X10_right vk_X10_214 (kd_X10_right h1) rfl rfl (by decide) ⟨Nat.le_of_ble_eq_true rfl, Nat.le_of_ble_eq_true rfl⟩ ⟨Nat.zero_le _, Nat.zero_le _⟩ rfl rfl (Nat.le_of_ble_eq_true rfl) hl.1 dX10_isWhat_8) (fun H locs hW => ?_)
  obtain ⟨hz, h⟩ := grd_inv h
  exact r_iret C hW (Option.some.inj h).symm (zb hz) dX10_isWhat_11
theorem kd_X10_table {X : Mx} {r : (Int32 × Mx)} {a : Nat} {x1 : Int32} {x2 : Int32} (h : f_X10_table σ X a x1 x2 = some r) : shK σ a = 8 := (grd_inv h).1
set_option maxRecDepth 20000 in
set_option maxHeartbeats 2000000 in
theorem t_X10_table {X : Mx} {r : (Int32 × Mx)} {a : Nat} {x1 : Int32} {x2 : Int32} (h : f_X10_table σ X a x1 x2 = some r) : MtI g l yX10_table cX10_table 3 (some .int) 8 190 [.ref a, .int x1, .int x2] σ X r := by
  refine met_of mk_X10_table (Nat.le_of_ble_eq_true rfl) (fun p e s m args below meth c ls C hW hl => ?_)
  have hx := C.x
  have hb := C.b
  have hl : lv_has ls 3 [(0, .ref a), (1, .int x1), (2, .int x2)] := hl
  unfold f_X10_table at h
  obtain ⟨hk0, h⟩ := grd_inv h
  refine lv_aload_n hx hb dX10_table_0 rfl (lv_at hl 0 rfl) ?_
  refine lv_iconst (v := 0) hx hb dX10_table_1 (by decide) ?_
  refine r_pI C hW h pf_X10_65 (by decide) rfl rfl dX10_table_2 (fun X1 H locs h hW => ?_)
  refine lv_aload_n hx hb dX10_table_5 rfl (lv_at hl 0 rfl) ?_
  refine lv_iload_n hx hb dX10_table_6 rfl (lv_at hl 1 rfl) ?_
  obtain ⟨v4, X3, h2, h⟩ := bnd2_inv h
  refine r_cI hW (run_V (rest := []) C hW (t_X10_isTable h2) mk_X10_isTable vk_X10_372 (kd_X10_isTable h2) rfl rfl (by decide) ⟨Nat.le_of_ble_eq_true rfl, Nat.le_of_ble_eq_true rfl⟩ ⟨Nat.zero_le _, Nat.zero_le _⟩ rfl rfl (Nat.le_of_ble_eq_true rfl) hl.1 dX10_table_7) (fun H locs hW => ?_)
  refine r_br h (lv_if_eq (tgt := 22) hx hb dX10_table_10 (by decide)) (fun h => ?_) (fun h => ?_)
  · refine lv_iconst (v := 0) hx hb dX10_table_22 (by decide) ?_
    exact r_iret C hW (Option.some.inj h).symm rfl dX10_table_23
  · refine lv_aload_n hx hb dX10_table_13 rfl (lv_at hl 0 rfl) ?_
    refine lv_iload_n hx hb dX10_table_14 rfl (lv_at hl 2 rfl) ?_
    refine lv_iconst (v := 1) hx hb dX10_table_15 (by decide) ?_
    obtain ⟨v7, X6, h5, h⟩ := bnd2_inv h
    refine r_cI hW (run_V (rest := []) C hW (t_X10_isWhat h5) mk_X10_isWhat vk_X10_375 (kd_X10_isWhat h5) rfl rfl (by decide) ⟨Nat.le_of_ble_eq_true rfl, Nat.le_of_ble_eq_true rfl⟩ ⟨Nat.zero_le _, Nat.zero_le _⟩ rfl rfl (Nat.le_of_ble_eq_true rfl) hl.1 dX10_table_16) (fun H locs hW => ?_)
    refine r_brn h (lv_if_ne (tgt := 24) hx hb dX10_table_19 (by decide)) (fun h => ?_) (fun h => ?_)
    · refine lv_iload_n hx hb dX10_table_24 rfl (lv_at hl 2 rfl) ?_
      refine r_brn h (lv_if_ne (tgt := 36) hx hb dX10_table_25 (by decide)) (fun h => ?_) (fun h => ?_)
      · refine lv_aload_n hx hb dX10_table_36 rfl (lv_at hl 0 rfl) ?_
        refine lv_iload_n hx hb dX10_table_37 rfl (lv_at hl 1 rfl) ?_
        obtain ⟨v9, h8, h⟩ := bnd_inv h
        refine r_cI hW (run_V (rest := []) C hW (t_X10_keysOf h8) mk_X10_keysOf vk_X10_369 (kd_X10_keysOf h8) rfl rfl (by decide) ⟨Nat.le_of_ble_eq_true rfl, Nat.le_of_ble_eq_true rfl⟩ ⟨Nat.zero_le _, Nat.zero_le _⟩ rfl rfl (Nat.le_of_ble_eq_true rfl) hl.1 dX10_table_38) (fun H locs hW => ?_)
        exact r_iret C hW (Option.some.inj h).symm rfl dX10_table_41
      · refine lv_aload_n hx hb dX10_table_28 rfl (lv_at hl 0 rfl) ?_
        refine lv_iload_n hx hb dX10_table_29 rfl (lv_at hl 1 rfl) ?_
        obtain ⟨v11, h10, h⟩ := bnd_inv h
        refine r_cI hW (run_V (rest := []) C hW (t_X10_hasOf h10) mk_X10_hasOf vk_X10_366 (kd_X10_hasOf h10) rfl rfl (by decide) ⟨Nat.le_of_ble_eq_true rfl, Nat.le_of_ble_eq_true rfl⟩ ⟨Nat.zero_le _, Nat.zero_le _⟩ rfl rfl (Nat.le_of_ble_eq_true rfl) hl.1 dX10_table_30) (fun H locs hW => ?_)
        refine lv_goto (tgt := 41) hx hb dX10_table_33 (by decide) ?_
        exact r_iret C hW (Option.some.inj h).symm rfl dX10_table_41
    · refine lv_iconst (v := 0) hx hb dX10_table_22 (by decide) ?_
      exact r_iret C hW (Option.some.inj h).symm rfl dX10_table_23
theorem kd_X10_column {X : Mx} {r : (Int32 × Mx)} {a : Nat} {x1 : Int32} {x2 : Int32} {x3 : Int32} (h : f_X10_column σ X a x1 x2 x3 = some r) : shK σ a = 8 := (grd_inv h).1
set_option maxRecDepth 20000 in
set_option maxHeartbeats 2000000 in
theorem t_X10_column {X : Mx} {r : (Int32 × Mx)} {a : Nat} {x1 : Int32} {x2 : Int32} {x3 : Int32} (h : f_X10_column σ X a x1 x2 x3 = some r) : MtI g l yX10_column cX10_column 4 (some .int) 8 190 [.ref a, .int x1, .int x2, .int x3] σ X r := by
  refine met_of mk_X10_column (Nat.le_of_ble_eq_true rfl) (fun p e s m args below meth c ls C hW hl => ?_)
  have hx := C.x
  have hb := C.b
  have hl : lv_has ls 4 [(0, .ref a), (1, .int x1), (2, .int x2), (3, .int x3)] := hl
  unfold f_X10_column at h
  obtain ⟨hk0, h⟩ := grd_inv h
  refine lv_aload_n hx hb dX10_column_0 rfl (lv_at hl 0 rfl) ?_
  refine lv_iconst (v := 0) hx hb dX10_column_1 (by decide) ?_
  refine r_pI C hW h pf_X10_65 (by decide) rfl rfl dX10_column_2 (fun X1 H locs h hW => ?_)
  refine lv_aload_n hx hb dX10_column_5 rfl (lv_at hl 0 rfl) ?_
  refine lv_iload_n hx hb dX10_column_6 rfl (lv_at hl 1 rfl) ?_
  obtain ⟨v4, X3, h2, h⟩ := bnd2_inv h
  refine r_cI hW (run_V (rest := []) C hW (t_X10_isTable h2) mk_X10_isTable vk_X10_372 (kd_X10_isTable h2) rfl rfl (by decide) ⟨Nat.le_of_ble_eq_true rfl, Nat.le_of_ble_eq_true rfl⟩ ⟨Nat.zero_le _, Nat.zero_le _⟩ rfl rfl (Nat.le_of_ble_eq_true rfl) hl.1 dX10_column_7) (fun H locs hW => ?_)
  refine r_br h (lv_if_eq (tgt := 31) hx hb dX10_column_10 (by decide)) (fun h => ?_) (fun h => ?_)
  · refine lv_iconst (v := 0) hx hb dX10_column_31 (by decide) ?_
    exact r_iret C hW (Option.some.inj h).symm rfl dX10_column_32
  · refine lv_aload_n hx hb dX10_column_13 rfl (lv_at hl 0 rfl) ?_
    refine lv_iload_n hx hb dX10_column_14 rfl (lv_at hl 1 rfl) ?_
    refine lv_iload_n hx hb dX10_column_15 rfl (lv_at hl 2 rfl) ?_
    obtain ⟨v7, X6, h5, h⟩ := bnd2_inv h
    refine r_cI hW (run_V (rest := []) C hW (t_X10_isColumn h5) mk_X10_isColumn vk_X10_378 (kd_X10_isColumn h5) rfl rfl (by decide) ⟨Nat.le_of_ble_eq_true rfl, Nat.le_of_ble_eq_true rfl⟩ ⟨Nat.zero_le _, Nat.zero_le _⟩ rfl rfl (Nat.le_of_ble_eq_true rfl) hl.1 dX10_column_16) (fun H locs hW => ?_)
    refine r_br h (lv_if_eq (tgt := 31) hx hb dX10_column_19 (by decide)) (fun h => ?_) (fun h => ?_)
    · refine lv_iconst (v := 0) hx hb dX10_column_31 (by decide) ?_
      exact r_iret C hW (Option.some.inj h).symm rfl dX10_column_32
    · refine lv_aload_n hx hb dX10_column_22 rfl (lv_at hl 0 rfl) ?_
      refine lv_iload_n hx hb dX10_column_23 rfl (lv_at hl 3 rfl) ?_
      refine lv_iconst (v := 1) hx hb dX10_column_24 (by decide) ?_
      obtain ⟨v10, X9, h8, h⟩ := bnd2_inv h
      refine r_cI hW (run_V (rest := []) C hW (t_X10_isWhat h8) mk_X10_isWhat vk_X10_375 (kd_X10_isWhat h8) rfl rfl (by decide) ⟨Nat.le_of_ble_eq_true rfl, Nat.le_of_ble_eq_true rfl⟩ ⟨Nat.zero_le _, Nat.zero_le _⟩ rfl rfl (Nat.le_of_ble_eq_true rfl) hl.1 dX10_column_25) (fun H locs hW => ?_)
      refine r_brn h (lv_if_ne (tgt := 33) hx hb dX10_column_28 (by decide)) (fun h => ?_) (fun h => ?_)
      · refine lv_iload_n hx hb dX10_column_33 rfl (lv_at hl 1 rfl) ?_
        refine lv_iconst (v := 3) hx hb dX10_column_34 (by decide) ?_
        refine r_brn h (lv_icmp_ne (tgt := 58) hx hb dX10_column_35 (by decide)) (fun h => ?_) (fun h => ?_)
        · refine lv_iload_n hx hb dX10_column_58 rfl (lv_at hl 3 rfl) ?_
          refine r_brn h (lv_if_ne (tgt := 72) hx hb dX10_column_59 (by decide)) (fun h => ?_) (fun h => ?_)
          · refine lv_aload_n hx hb dX10_column_72 rfl (lv_at hl 0 rfl) ?_
            refine lv_iconst (v := 0) hx hb dX10_column_73 (by decide) ?_
            refine lv_iload_n hx hb dX10_column_74 rfl (lv_at hl 1 rfl) ?_
            refine lv_iload_n hx hb dX10_column_75 rfl (lv_at hl 2 rfl) ?_
            obtain ⟨v12, h11, h⟩ := bnd_inv h
            refine r_cI hW (run_V (rest := []) C hW (t_X10_typeAt h11) mk_X10_typeAt vk_X10_166 (kd_X10_typeAt h11) rfl rfl (by decide) ⟨Nat.le_of_ble_eq_true rfl, Nat.le_of_ble_eq_true rfl⟩ ⟨Nat.zero_le _, Nat.zero_le _⟩ rfl rfl (Nat.le_of_ble_eq_true rfl) hl.1 dX10_column_76) (fun H locs hW => ?_)
            exact r_iret C hW (Option.some.inj h).symm rfl dX10_column_79
          · refine lv_aload_n hx hb dX10_column_62 rfl (lv_at hl 0 rfl) ?_
            refine lv_iconst (v := 0) hx hb dX10_column_63 (by decide) ?_
            refine lv_iload_n hx hb dX10_column_64 rfl (lv_at hl 1 rfl) ?_
            refine lv_iload_n hx hb dX10_column_65 rfl (lv_at hl 2 rfl) ?_
            obtain ⟨v14, h13, h⟩ := bnd_inv h
            refine r_cI hW (run_V (rest := []) C hW (t_X10_nameAt h13) mk_X10_nameAt vk_X10_237 (kd_X10_nameAt h13) rfl rfl (by decide) ⟨Nat.le_of_ble_eq_true rfl, Nat.le_of_ble_eq_true rfl⟩ ⟨Nat.zero_le _, Nat.zero_le _⟩ rfl rfl (Nat.le_of_ble_eq_true rfl) hl.1 dX10_column_66) (fun H locs hW => ?_)
            refine lv_goto (tgt := 79) hx hb dX10_column_69 (by decide) ?_
            exact r_iret C hW (Option.some.inj h).symm rfl dX10_column_79
        · refine lv_iload_n hx hb dX10_column_38 rfl (lv_at hl 3 rfl) ?_
          refine r_brn h (lv_if_ne (tgt := 51) hx hb dX10_column_39 (by decide)) (fun h => ?_) (fun h => ?_)
          · refine lv_aload_n hx hb dX10_column_51 rfl (lv_at hl 0 rfl) ?_
            refine r_gR C hW h fl_X10_29 (by decide) dX10_column_52 (fun b15 h => ?_)
            refine lv_iload_n hx hb dX10_column_55 rfl (lv_at hl 2 rfl) ?_
            refine r_iald C hW h dX10_column_56 (fun v16 h => ?_)
            exact r_iret C hW (Option.some.inj h).symm rfl dX10_column_57
          · refine lv_aload_n hx hb dX10_column_42 rfl (lv_at hl 0 rfl) ?_
            refine r_gR C hW h fl_X10_26 (by decide) dX10_column_43 (fun b17 h => ?_)
            refine lv_iload_n hx hb dX10_column_46 rfl (lv_at hl 2 rfl) ?_
            refine r_iald C hW h dX10_column_47 (fun v18 h => ?_)
            refine lv_goto (tgt := 57) hx hb dX10_column_48 (by decide) ?_
            exact r_iret C hW (Option.some.inj h).symm rfl dX10_column_57
      · refine lv_iconst (v := 0) hx hb dX10_column_31 (by decide) ?_
        exact r_iret C hW (Option.some.inj h).symm rfl dX10_column_32
theorem kd_X10_cell {X : Mx} {r : (Int32 × Mx)} {a : Nat} {x1 : Int32} {x2 : Int32} {x3 : Int32} (h : f_X10_cell σ X a x1 x2 x3 = some r) : shK σ a = 8 := (grd_inv h).1
set_option maxRecDepth 20000 in
set_option maxHeartbeats 2000000 in
theorem t_X10_cell {X : Mx} {r : (Int32 × Mx)} {a : Nat} {x1 : Int32} {x2 : Int32} {x3 : Int32} (h : f_X10_cell σ X a x1 x2 x3 = some r) : MtI g l yX10_cell cX10_cell 4 (some .int) 8 190 [.ref a, .int x1, .int x2, .int x3] σ X r := by
  refine met_of mk_X10_cell (Nat.le_of_ble_eq_true rfl) (fun p e s m args below meth c ls C hW hl => ?_)
  have hx := C.x
  have hb := C.b
  have hl : lv_has ls 4 [(0, .ref a), (1, .int x1), (2, .int x2), (3, .int x3)] := hl
  unfold f_X10_cell at h
  obtain ⟨hk0, h⟩ := grd_inv h
  refine lv_aload_n hx hb dX10_cell_0 rfl (lv_at hl 0 rfl) ?_
  refine lv_iconst (v := 0) hx hb dX10_cell_1 (by decide) ?_
  refine r_pI C hW h pf_X10_65 (by decide) rfl rfl dX10_cell_2 (fun X1 H locs h hW => ?_)
  refine lv_aload_n hx hb dX10_cell_5 rfl (lv_at hl 0 rfl) ?_
  refine lv_iload_n hx hb dX10_cell_6 rfl (lv_at hl 1 rfl) ?_
  obtain ⟨v4, X3, h2, h⟩ := bnd2_inv h
  refine r_cI hW (run_V (rest := []) C hW (t_X10_isTable h2) mk_X10_isTable vk_X10_372 (kd_X10_isTable h2) rfl rfl (by decide) ⟨Nat.le_of_ble_eq_true rfl, Nat.le_of_ble_eq_true rfl⟩ ⟨Nat.zero_le _, Nat.zero_le _⟩ rfl rfl (Nat.le_of_ble_eq_true rfl) hl.1 dX10_cell_7) (fun H locs hW => ?_)
  refine r_br h (lv_if_eq (tgt := 31) hx hb dX10_cell_10 (by decide)) (fun h => ?_) (fun h => ?_)
  · refine lv_iconst (v := 0) hx hb dX10_cell_31 (by decide) ?_
    exact r_iret C hW (Option.some.inj h).symm rfl dX10_cell_32
  · refine lv_aload_n hx hb dX10_cell_13 rfl (lv_at hl 0 rfl) ?_
    refine lv_iload_n hx hb dX10_cell_14 rfl (lv_at hl 1 rfl) ?_
    refine lv_iload_n hx hb dX10_cell_15 rfl (lv_at hl 2 rfl) ?_
    obtain ⟨v7, X6, h5, h⟩ := bnd2_inv h
    refine r_cI hW (run_V (rest := []) C hW (t_X10_isKey h5) mk_X10_isKey vk_X10_381 (kd_X10_isKey h5) rfl rfl (by decide) ⟨Nat.le_of_ble_eq_true rfl, Nat.le_of_ble_eq_true rfl⟩ ⟨Nat.zero_le _, Nat.zero_le _⟩ rfl rfl (Nat.le_of_ble_eq_true rfl) hl.1 dX10_cell_16) (fun H locs hW => ?_)
    refine r_br h (lv_if_eq (tgt := 31) hx hb dX10_cell_19 (by decide)) (fun h => ?_) (fun h => ?_)
    · refine lv_iconst (v := 0) hx hb dX10_cell_31 (by decide) ?_
      exact r_iret C hW (Option.some.inj h).symm rfl dX10_cell_32
    · refine lv_aload_n hx hb dX10_cell_22 rfl (lv_at hl 0 rfl) ?_
      refine lv_iload_n hx hb dX10_cell_23 rfl (lv_at hl 1 rfl) ?_
      refine lv_iload_n hx hb dX10_cell_24 rfl (lv_at hl 3 rfl) ?_
      obtain ⟨v10, X9, h8, h⟩ := bnd2_inv h
      refine r_cI hW (run_V (rest := []) C hW (t_X10_isColumn h8) mk_X10_isColumn vk_X10_378 (kd_X10_isColumn h8) rfl rfl (by decide) ⟨Nat.le_of_ble_eq_true rfl, Nat.le_of_ble_eq_true rfl⟩ ⟨Nat.zero_le _, Nat.zero_le _⟩ rfl rfl (Nat.le_of_ble_eq_true rfl) hl.1 dX10_cell_25) (fun H locs hW => ?_)
      refine r_brn h (lv_if_ne (tgt := 33) hx hb dX10_cell_28 (by decide)) (fun h => ?_) (fun h => ?_)
      · refine lv_iload_n hx hb dX10_cell_33 rfl (lv_at hl 1 rfl) ?_
        refine lv_iconst (v := 3) hx hb dX10_cell_34 (by decide) ?_
        refine r_brn h (lv_icmp_ne (tgt := 47) hx hb dX10_cell_35 (by decide)) (fun h => ?_) (fun h => ?_)
        · refine lv_aload_n hx hb dX10_cell_47 rfl (lv_at hl 0 rfl) ?_
          refine r_gR C hW h fl_X10_20 (by decide) dX10_cell_48 (fun b11 h => ?_)
          refine lv_iconst (v := 0) hx hb dX10_cell_51 (by decide) ?_
          refine lv_iload_n hx hb dX10_cell_52 rfl (lv_at hl 1 rfl) ?_
          refine lv_iload_n hx hb dX10_cell_53 rfl (lv_at hl 2 rfl) ?_
          refine lv_iload_n hx hb dX10_cell_54 rfl (lv_at hl 3 rfl) ?_
          refine r_cI hW (run_S (rest := [.ref b11]) C hW (t_X10_cellAt (X := X9)) mk_X10_cellAt sk_X10_174 ⟨Nat.le_of_ble_eq_true rfl, Nat.le_of_ble_eq_true rfl⟩ ⟨Nat.zero_le _, Nat.zero_le _⟩ rfl rfl (Nat.le_of_ble_eq_true rfl) hl.1 dX10_cell_55) (fun H locs hW => ?_)
          refine r_iald C hW h dX10_cell_58 (fun v12 h => ?_)
          exact r_iret C hW (Option.some.inj h).symm rfl dX10_cell_59
        · refine lv_aload_n hx hb dX10_cell_38 rfl (lv_at hl 0 rfl) ?_
          refine lv_iload_n hx hb dX10_cell_39 rfl (lv_at hl 2 rfl) ?_
          refine lv_iload_n hx hb dX10_cell_40 rfl (lv_at hl 3 rfl) ?_
          obtain ⟨v14, h13, h⟩ := bnd_inv h
          refine r_cI hW (run_V (rest := []) C hW (t_X10_mergedAt h13) mk_X10_mergedAt vk_X10_326 (kd_X10_mergedAt h13) rfl rfl (by decide) ⟨Nat.le_of_ble_eq_true rfl, Nat.le_of_ble_eq_true rfl⟩ ⟨Nat.zero_le _, Nat.zero_le _⟩ rfl rfl (Nat.le_of_ble_eq_true rfl) hl.1 dX10_cell_41) (fun H locs hW => ?_)
          refine lv_goto (tgt := 59) hx hb dX10_cell_44 (by decide) ?_
          exact r_iret C hW (Option.some.inj h).symm rfl dX10_cell_59
      · refine lv_iconst (v := 0) hx hb dX10_cell_31 (by decide) ?_
        exact r_iret C hW (Option.some.inj h).symm rfl dX10_cell_32
theorem kd_X10_whose {X : Mx} {r : (Int32 × Mx)} {a : Nat} {x1 : Int32} {x2 : Int32} (h : f_X10_whose σ X a x1 x2 = some r) : shK σ a = 8 := (grd_inv h).1
set_option maxRecDepth 20000 in
set_option maxHeartbeats 2000000 in
theorem t_X10_whose {X : Mx} {r : (Int32 × Mx)} {a : Nat} {x1 : Int32} {x2 : Int32} (h : f_X10_whose σ X a x1 x2 = some r) : MtI g l yX10_whose cX10_whose 3 (some .int) 8 190 [.ref a, .int x1, .int x2] σ X r := by
  refine met_of mk_X10_whose (Nat.le_of_ble_eq_true rfl) (fun p e s m args below meth c ls C hW hl => ?_)
  have hx := C.x
  have hb := C.b
  have hl : lv_has ls 3 [(0, .ref a), (1, .int x1), (2, .int x2)] := hl
  unfold f_X10_whose at h
  obtain ⟨hk0, h⟩ := grd_inv h
  refine lv_aload_n hx hb dX10_whose_0 rfl (lv_at hl 0 rfl) ?_
  refine lv_iconst (v := 0) hx hb dX10_whose_1 (by decide) ?_
  refine r_pI C hW h pf_X10_65 (by decide) rfl rfl dX10_whose_2 (fun X1 H locs h hW => ?_)
  refine lv_aload_n hx hb dX10_whose_5 rfl (lv_at hl 0 rfl) ?_
  refine lv_iconst (v := 3) hx hb dX10_whose_6 (by decide) ?_
  obtain ⟨v4, X3, h2, h⟩ := bnd2_inv h
  refine r_cI hW (run_V (rest := []) C hW (t_X10_isTable h2) mk_X10_isTable vk_X10_372 (kd_X10_isTable h2) rfl rfl (by decide) ⟨Nat.le_of_ble_eq_true rfl, Nat.le_of_ble_eq_true rfl⟩ ⟨Nat.zero_le _, Nat.zero_le _⟩ rfl rfl (Nat.le_of_ble_eq_true rfl) hl.1 dX10_whose_7) (fun H locs hW => ?_)
  refine r_br h (lv_if_eq (tgt := 31) hx hb dX10_whose_10 (by decide)) (fun h => ?_) (fun h => ?_)
  · refine lv_iconst (v := 0) hx hb dX10_whose_31 (by decide) ?_
    exact r_iret C hW (Option.some.inj h).symm rfl dX10_whose_32
  · refine lv_aload_n hx hb dX10_whose_13 rfl (lv_at hl 0 rfl) ?_
    refine lv_iconst (v := 3) hx hb dX10_whose_14 (by decide) ?_
    refine lv_iload_n hx hb dX10_whose_15 rfl (lv_at hl 1 rfl) ?_
    obtain ⟨v7, X6, h5, h⟩ := bnd2_inv h
    refine r_cI hW (run_V (rest := []) C hW (t_X10_isKey h5) mk_X10_isKey vk_X10_381 (kd_X10_isKey h5) rfl rfl (by decide) ⟨Nat.le_of_ble_eq_true rfl, Nat.le_of_ble_eq_true rfl⟩ ⟨Nat.zero_le _, Nat.zero_le _⟩ rfl rfl (Nat.le_of_ble_eq_true rfl) hl.1 dX10_whose_16) (fun H locs hW => ?_)
    refine r_br h (lv_if_eq (tgt := 31) hx hb dX10_whose_19 (by decide)) (fun h => ?_) (fun h => ?_)
    · refine lv_iconst (v := 0) hx hb dX10_whose_31 (by decide) ?_
      exact r_iret C hW (Option.some.inj h).symm rfl dX10_whose_32
    · refine lv_aload_n hx hb dX10_whose_22 rfl (lv_at hl 0 rfl) ?_
      refine lv_iconst (v := 3) hx hb dX10_whose_23 (by decide) ?_
      refine lv_iload_n hx hb dX10_whose_24 rfl (lv_at hl 2 rfl) ?_
      obtain ⟨v10, X9, h8, h⟩ := bnd2_inv h
      refine r_cI hW (run_V (rest := []) C hW (t_X10_isColumn h8) mk_X10_isColumn vk_X10_378 (kd_X10_isColumn h8) rfl rfl (by decide) ⟨Nat.le_of_ble_eq_true rfl, Nat.le_of_ble_eq_true rfl⟩ ⟨Nat.zero_le _, Nat.zero_le _⟩ rfl rfl (Nat.le_of_ble_eq_true rfl) hl.1 dX10_whose_25) (fun H locs hW => ?_)
      refine r_brn h (lv_if_ne (tgt := 33) hx hb dX10_whose_28 (by decide)) (fun h => ?_) (fun h => ?_)
      · refine lv_aload_n hx hb dX10_whose_33 rfl (lv_at hl 0 rfl) ?_
        refine r_gR C hW h fl_X10_35 (by decide) dX10_whose_34 (fun b11 h => ?_)
        refine lv_bipush (v := 9) hx hb dX10_whose_37 (by decide) ?_
        refine lv_iload_n hx hb dX10_whose_39 rfl (lv_at hl 1 rfl) ?_
        refine lv_imul hx hb dX10_whose_40 ?_
        refine lv_iload_n hx hb dX10_whose_41 rfl (lv_at hl 2 rfl) ?_
        refine lv_iadd hx hb dX10_whose_42 ?_
        refine r_iald C hW h dX10_whose_43 (fun v12 h => ?_)
        exact r_iret C hW (Option.some.inj h).symm rfl dX10_whose_44
      · refine lv_iconst (v := 0) hx hb dX10_whose_31 (by decide) ?_
        exact r_iret C hW (Option.some.inj h).symm rfl dX10_whose_32
set_option maxRecDepth 20000 in
set_option maxHeartbeats 2000000 in
theorem b_X10_conflict_28 {a : Nat} {x1 : Int32} {x2 : Int32} (C : Cx g RX10 cX10_conflict 3 (some .int) p s m args meth c) {r : (Int32 × Mx)} {X : Mx} {y0 : Nat} {y1 : Int32} (hW : Wd g σ X s H locs) (hl : lv_has ls 3 [(0, .ref a), (1, .int x1), (2, .int x2)]) (h : f_X10_conflict_28 σ a x1 x2 X y0 y1 = some r) : W p l e (rmZ 7 169) s m args below meth c H locs 0 0 (QI g σ below args s r) (F0 m 28 ls [.int y1, .ref y0]) := by
  have hx := C.x
  have hb := C.b
  unfold f_X10_conflict_28 at h
  refine lv_iconst (v := 1) hx hb dX10_conflict_28 (by decide) ?_
  obtain ⟨v3, X2, h1, h⟩ := bnd2_inv h
  refine r_cI hW (run_V (rest := []) C hW (t_X10_right h1) mk_X10_right vk_X10_214 (kd_X10_right h1) rfl rfl (by decide) ⟨Nat.le_of_ble_eq_true rfl, Nat.le_of_ble_eq_true rfl⟩ ⟨Nat.zero_le _, Nat.zero_le _⟩ rfl rfl (Nat.le_of_ble_eq_true rfl) hl.1 dX10_conflict_29) (fun H locs hW => ?_)
  refine r_br h (lv_if_eq (tgt := 44) hx hb dX10_conflict_32 (by decide)) (fun h => ?_) (fun h => ?_)
  · refine lv_iconst (v := 0) hx hb dX10_conflict_44 (by decide) ?_
    exact r_iret C hW (Option.some.inj h).symm rfl dX10_conflict_45
  · refine lv_aload_n hx hb dX10_conflict_35 rfl (lv_at hl 0 rfl) ?_
    refine lv_iload_n hx hb dX10_conflict_36 rfl (lv_at hl 2 rfl) ?_
    refine lv_iconst (v := 5) hx hb dX10_conflict_37 (by decide) ?_
    obtain ⟨v6, X5, h4, h⟩ := bnd2_inv h
    refine r_cI hW (run_V (rest := []) C hW (t_X10_isWhat h4) mk_X10_isWhat vk_X10_375 (kd_X10_isWhat h4) rfl rfl (by decide) ⟨Nat.le_of_ble_eq_true rfl, Nat.le_of_ble_eq_true rfl⟩ ⟨Nat.zero_le _, Nat.zero_le _⟩ rfl rfl (Nat.le_of_ble_eq_true rfl) hl.1 dX10_conflict_38) (fun H locs hW => ?_)
    refine r_brn h (lv_if_ne (tgt := 46) hx hb dX10_conflict_41 (by decide)) (fun h => ?_) (fun h => ?_)
    · refine lv_iload_n hx hb dX10_conflict_46 rfl (lv_at hl 2 rfl) ?_
      refine lv_iconst (v := 5) hx hb dX10_conflict_47 (by decide) ?_
      refine r_brn h (lv_icmp_ne (tgt := 65) hx hb dX10_conflict_48 (by decide)) (fun h => ?_) (fun h => ?_)
      · refine lv_aload_n hx hb dX10_conflict_65 rfl (lv_at hl 0 rfl) ?_
        refine r_gR C hW h fl_X10_41 (by decide) dX10_conflict_66 (fun b7 h => ?_)
        refine lv_iconst (v := 5) hx hb dX10_conflict_69 (by decide) ?_
        refine lv_iload_n hx hb dX10_conflict_70 rfl (lv_at hl 1 rfl) ?_
        refine lv_imul hx hb dX10_conflict_71 ?_
        refine lv_iload_n hx hb dX10_conflict_72 rfl (lv_at hl 2 rfl) ?_
        refine lv_iadd hx hb dX10_conflict_73 ?_
        refine r_iald C hW h dX10_conflict_74 (fun v8 h => ?_)
        exact r_iret C hW (Option.some.inj h).symm rfl dX10_conflict_75
      · refine lv_aload_n hx hb dX10_conflict_51 rfl (lv_at hl 0 rfl) ?_
        refine r_gR C hW h fl_X10_41 (by decide) dX10_conflict_52 (fun b9 h => ?_)
        refine lv_iconst (v := 5) hx hb dX10_conflict_55 (by decide) ?_
        refine lv_iload_n hx hb dX10_conflict_56 rfl (lv_at hl 1 rfl) ?_
        refine lv_imul hx hb dX10_conflict_57 ?_
        refine r_iald C hW h dX10_conflict_58 (fun v10 h => ?_)
        refine r_cI hW (run_S (rest := []) C hW (t_X10_choicesOf (X := X5)) mk_X10_choicesOf sk_X10_384 ⟨Nat.le_of_ble_eq_true rfl, Nat.le_of_ble_eq_true rfl⟩ ⟨Nat.zero_le _, Nat.zero_le _⟩ rfl rfl (Nat.le_of_ble_eq_true rfl) hl.1 dX10_conflict_59) (fun H locs hW => ?_)
        refine lv_goto (tgt := 75) hx hb dX10_conflict_62 (by decide) ?_
        exact r_iret C hW (Option.some.inj h).symm rfl dX10_conflict_75
    · refine lv_iconst (v := 0) hx hb dX10_conflict_44 (by decide) ?_
      exact r_iret C hW (Option.some.inj h).symm rfl dX10_conflict_45
set_option maxRecDepth 20000 in
set_option maxHeartbeats 2000000 in
theorem b_X10_conflict_27 {a : Nat} {x1 : Int32} {x2 : Int32} (C : Cx g RX10 cX10_conflict 3 (some .int) p s m args meth c) {r : (Int32 × Mx)} {X : Mx} {y0 : Nat} (hW : Wd g σ X s H locs) (hl : lv_has ls 3 [(0, .ref a), (1, .int x1), (2, .int x2)]) (h : f_X10_conflict_27 σ a x1 x2 X y0 = some r) : W p l e (rmZ 7 169) s m args below meth c H locs 0 0 (QI g σ below args s r) (F0 m 27 ls [.ref y0]) := by
  have hx := C.x
  have hb := C.b
  unfold f_X10_conflict_27 at h
  refine lv_iconst (v := 0) hx hb dX10_conflict_27 (by decide) ?_
  exact b_X10_conflict_28 C hW (lv_sub hl [0, 1, 2] rfl) h
theorem kd_X10_conflict {X : Mx} {r : (Int32 × Mx)} {a : Nat} {x1 : Int32} {x2 : Int32} (h : f_X10_conflict σ X a x1 x2 = some r) : shK σ a = 8 := (grd_inv h).1
set_option maxRecDepth 20000 in
set_option maxHeartbeats 2000000 in
theorem t_X10_conflict {X : Mx} {r : (Int32 × Mx)} {a : Nat} {x1 : Int32} {x2 : Int32} (h : f_X10_conflict σ X a x1 x2 = some r) : MtI g l yX10_conflict cX10_conflict 3 (some .int) 7 169 [.ref a, .int x1, .int x2] σ X r := by
  refine met_of mk_X10_conflict (Nat.le_of_ble_eq_true rfl) (fun p e s m args below meth c ls C hW hl => ?_)
  have hx := C.x
  have hb := C.b
  have hl : lv_has ls 3 [(0, .ref a), (1, .int x1), (2, .int x2)] := hl
  unfold f_X10_conflict at h
  obtain ⟨hk0, h⟩ := grd_inv h
  refine lv_aload_n hx hb dX10_conflict_0 rfl (lv_at hl 0 rfl) ?_
  refine lv_iconst (v := 0) hx hb dX10_conflict_1 (by decide) ?_
  refine r_pI C hW h pf_X10_65 (by decide) rfl rfl dX10_conflict_2 (fun X1 H locs h hW => ?_)
  refine lv_aload_n hx hb dX10_conflict_5 rfl (lv_at hl 0 rfl) ?_
  refine lv_iconst (v := 0) hx hb dX10_conflict_6 (by decide) ?_
  obtain ⟨X3, h2, h⟩ := bnd_inv h
  refine r_cV hW (run_V (rest := []) C hW (t_X10_merges h2) mk_X10_merges vk_X10_354 (kd_X10_merges h2) rfl rfl (by decide) ⟨Nat.le_of_ble_eq_true rfl, Nat.le_of_ble_eq_true rfl⟩ ⟨Nat.zero_le _, Nat.zero_le _⟩ rfl rfl (Nat.le_of_ble_eq_true rfl) hl.1 dX10_conflict_7) (fun H locs hW => ?_)
  refine lv_aload_n hx hb dX10_conflict_10 rfl (lv_at hl 0 rfl) ?_
  refine lv_iload_n hx hb dX10_conflict_11 rfl (lv_at hl 1 rfl) ?_
  refine r_br h (lv_if_lt (tgt := 27) hx hb dX10_conflict_12 (by decide)) (fun h => ?_) (fun h => ?_)
  · exact b_X10_conflict_27 C hW (lv_sub hl [0, 1, 2] rfl) h
  · refine lv_iload_n hx hb dX10_conflict_15 rfl (lv_at hl 1 rfl) ?_
    refine lv_aload_n hx hb dX10_conflict_16 rfl (lv_at hl 0 rfl) ?_
    refine r_gI C hW h fl_X10_282 (by decide) dX10_conflict_17 (fun v4 h => ?_)
    refine r_br h (lv_icmp_ge (tgt := 27) hx hb dX10_conflict_20 (by decide)) (fun h => ?_) (fun h => ?_)
    · exact b_X10_conflict_27 C hW (lv_sub hl [0, 1, 2] rfl) h
    · refine lv_iconst (v := 1) hx hb dX10_conflict_23 (by decide) ?_
      refine lv_goto (tgt := 28) hx hb dX10_conflict_24 (by decide) ?_
      exact b_X10_conflict_28 C hW (lv_sub hl [0, 1, 2] rfl) h
set_option maxRecDepth 20000 in
set_option maxHeartbeats 2000000 in
theorem b_X10_isConflict_57 {k3 : Int32 → Option Int32} {a : Nat} {x1 : Int32} {x2 : Int32} {x3 : Int32} {x4 : Int32} (C : Cx g RX10 cX10_isConflict 5 (some .boolean) p s m args meth c) {r : Int32} {X : Mx} (hk3 : ∀ {H' : Heap} {locs' : List Loc} {ls' : Array Slot} {x4' : Int32}, Wd g σ X s H' locs' → lv_has ls' 5 [(0, .ref a), (1, .int x1), (2, .int x2), (3, .int x3), (4, .int x4')] → k3 x4' = some r → W p l e (rmZ 0 0) s m args below meth c H' locs' 0 0 (QI g σ below args s (r, X)) (F0 m 3 ls' [])) (hW : Wd g σ X s H locs) (hl : lv_has ls 5 [(0, .ref a), (1, .int x1), (2, .int x2), (3, .int x3), (4, .int x4)]) (h : f_X10_isConflict_57 k3 σ X a x1 x2 x3 x4 = some r) : W p l e (rmZ 0 0) s m args below meth c H locs 0 0 (QI g σ below args s (r, X)) (F0 m 57 ls []) := by
  have hx := C.x
  have hb := C.b
  unfold f_X10_isConflict_57 at h
  refine lv_iinc (v := (x4 + 1)) (lv' := [(4, .int (x4 + 1)), (0, .ref a), (1, .int x1), (2, .int x2), (3, .int x3)]) hx hb dX10_isConflict_57 hl (k := 4) rfl rfl (by decide) rfl (fun ls hl => ?_)
  refine lv_goto (tgt := 3) hx hb dX10_isConflict_60 (by decide) ?_
  exact hk3 hW (lv_sub hl [1, 2, 3, 4, 0] rfl) h
set_option maxRecDepth 20000 in
set_option maxHeartbeats 2000000 in
theorem b_X10_isConflict_3 {a : Nat} {x1 : Int32} {x2 : Int32} {x3 : Int32} (C : Cx g RX10 cX10_isConflict 5 (some .boolean) p s m args meth c) {r : Int32} {X : Mx} : ∀ (n : Nat) {x4 : Int32} {H : Heap} {locs : List Loc} {ls : Array Slot} (hW : Wd g σ X s H locs) (hl : lv_has ls 5 [(0, .ref a), (1, .int x1), (2, .int x2), (3, .int x3), (4, .int x4)]) (h : f_X10_isConflict_3 σ X a x1 x2 x3 n x4 = some r), W p l e (rmZ 0 0) s m args below meth c H locs 0 0 (QI g σ below args s (r, X)) (F0 m 3 ls []) := by
  have hx := C.x
  have hb := C.b
  intro n
  induction n with
  | zero =>
    intro x4 H locs ls hW hl h
    cases (show none = some r from h)
  | succ n ih =>
    intro x4 H locs ls hW hl h
    rw [f_X10_isConflict_3] at h
    refine lv_iload hx hb dX10_isConflict_3 (lv_at hl 4 rfl) ?_
    refine lv_aload_n hx hb dX10_isConflict_5 rfl (lv_at hl 0 rfl) ?_
    refine r_gI C hW h fl_X10_282 (by decide) dX10_isConflict_6 (fun v1 h => ?_)
    refine r_br h (lv_icmp_ge (tgt := 63) hx hb dX10_isConflict_9 (by decide)) (fun h => ?_) (fun h => ?_)
    · refine lv_iconst (v := 0) hx hb dX10_isConflict_63 (by decide) ?_
      exact r_iret C hW (rt_R h) rfl dX10_isConflict_64
    · refine lv_aload_n hx hb dX10_isConflict_12 rfl (lv_at hl 0 rfl) ?_
      refine r_gR C hW h fl_X10_41 (by decide) dX10_isConflict_13 (fun b2 h => ?_)
      refine lv_iconst (v := 5) hx hb dX10_isConflict_16 (by decide) ?_
      refine lv_iload hx hb dX10_isConflict_17 (lv_at hl 4 rfl) ?_
      refine lv_imul hx hb dX10_isConflict_19 ?_
      refine r_iald C hW h dX10_isConflict_20 (fun v3 h => ?_)
      refine lv_iload_n hx hb dX10_isConflict_21 rfl (lv_at hl 1 rfl) ?_
      refine r_brn h (lv_icmp_ne (tgt := 57) hx hb dX10_isConflict_22 (by decide)) (fun h => ?_) (fun h => ?_)
      · exact b_X10_isConflict_57 C (fun hW hl h => ih hW hl h) hW (lv_sub hl [0, 1, 2, 3, 4] rfl) h
      · refine lv_aload_n hx hb dX10_isConflict_25 rfl (lv_at hl 0 rfl) ?_
        refine r_gR C hW h fl_X10_41 (by decide) dX10_isConflict_26 (fun b4 h => ?_)
        refine lv_iconst (v := 5) hx hb dX10_isConflict_29 (by decide) ?_
        refine lv_iload hx hb dX10_isConflict_30 (lv_at hl 4 rfl) ?_
        refine lv_imul hx hb dX10_isConflict_32 ?_
        refine lv_iconst (v := 1) hx hb dX10_isConflict_33 (by decide) ?_
        refine lv_iadd hx hb dX10_isConflict_34 ?_
        refine r_iald C hW h dX10_isConflict_35 (fun v5 h => ?_)
        refine lv_iload_n hx hb dX10_isConflict_36 rfl (lv_at hl 2 rfl) ?_
        refine r_brn h (lv_icmp_ne (tgt := 57) hx hb dX10_isConflict_37 (by decide)) (fun h => ?_) (fun h => ?_)
        · exact b_X10_isConflict_57 C (fun hW hl h => ih hW hl h) hW (lv_sub hl [0, 1, 2, 3, 4] rfl) h
        · refine lv_aload_n hx hb dX10_isConflict_40 rfl (lv_at hl 0 rfl) ?_
          refine r_gR C hW h fl_X10_41 (by decide) dX10_isConflict_41 (fun b6 h => ?_)
          refine lv_iconst (v := 5) hx hb dX10_isConflict_44 (by decide) ?_
          refine lv_iload hx hb dX10_isConflict_45 (lv_at hl 4 rfl) ?_
          refine lv_imul hx hb dX10_isConflict_47 ?_
          refine lv_iconst (v := 2) hx hb dX10_isConflict_48 (by decide) ?_
          refine lv_iadd hx hb dX10_isConflict_49 ?_
          refine r_iald C hW h dX10_isConflict_50 (fun v7 h => ?_)
          refine lv_iload_n hx hb dX10_isConflict_51 rfl (lv_at hl 3 rfl) ?_
          refine r_brn h (lv_icmp_ne (tgt := 57) hx hb dX10_isConflict_52 (by decide)) (fun h => ?_) (fun h => ?_)
          · exact b_X10_isConflict_57 C (fun hW hl h => ih hW hl h) hW (lv_sub hl [0, 1, 2, 3, 4] rfl) h
          · refine lv_iconst (v := 1) hx hb dX10_isConflict_55 (by decide) ?_
            exact r_iret C hW (rt_R h) rfl dX10_isConflict_56
theorem kd_X10_isConflict {X : Mx} {r : Int32} {a : Nat} {x1 : Int32} {x2 : Int32} {x3 : Int32} (h : f_X10_isConflict σ X a x1 x2 x3 = some r) : shK σ a = 8 := (grd_inv h).1
set_option maxRecDepth 20000 in
set_option maxHeartbeats 2000000 in
theorem t_X10_isConflict {X : Mx} {r : Int32} {a : Nat} {x1 : Int32} {x2 : Int32} {x3 : Int32} (h : f_X10_isConflict σ X a x1 x2 x3 = some r) : MtI g l yX10_isConflict cX10_isConflict 5 (some .boolean) 0 0 [.ref a, .int x1, .int x2, .int x3] σ X (r, X) := by
  refine met_of mk_X10_isConflict (Nat.le_of_ble_eq_true rfl) (fun p e s m args below meth c ls C hW hl => ?_)
  have hx := C.x
  have hb := C.b
  have hl : lv_has ls 5 [(0, .ref a), (1, .int x1), (2, .int x2), (3, .int x3)] := hl
  unfold f_X10_isConflict at h
  obtain ⟨hk0, h⟩ := grd_inv h
  refine lv_iconst (v := 0) hx hb dX10_isConflict_0 (by decide) ?_
  refine lv_istore (lv' := [(4, .int 0), (0, .ref a), (1, .int x1), (2, .int x2), (3, .int x3)]) hx hb dX10_isConflict_1 hl (by decide) rfl (fun ls hl => ?_)
  exact b_X10_isConflict_3 C FU hW (lv_sub hl [1, 2, 3, 4, 0] rfl) h
set_option maxRecDepth 20000 in
set_option maxHeartbeats 2000000 in
theorem b_X10_settle_35 {a : Nat} (C : Cx g RX10 cX10_settle 5 (some .int) p s m args meth c) {r : (Int32 × Mx)} {X : Mx} (hW : Wd g σ X s H locs) (hl : lv_has ls 5 [(0, .ref a)]) (h : f_X10_settle_35 σ a X = some r) : W p l e (rmZ 7 169) s m args below meth c H locs 0 0 (QI g σ below args s r) (F0 m 35 ls []) := by
  have hx := C.x
  have hb := C.b
  unfold f_X10_settle_35 at h
  refine lv_aload_n hx hb dX10_settle_35 rfl (lv_at hl 0 rfl) ?_
  refine lv_iconst (v := 1) hx hb dX10_settle_36 (by decide) ?_
  obtain ⟨v3, X2, h1, h⟩ := bnd2_inv h
  refine r_cI hW (run_V (rest := []) C hW (t_X10_refuses h1) mk_X10_refuses vk_X10_270 (kd_X10_refuses h1) rfl rfl (by decide) ⟨Nat.le_of_ble_eq_true rfl, Nat.le_of_ble_eq_true rfl⟩ ⟨Nat.zero_le _, Nat.zero_le _⟩ rfl rfl (Nat.le_of_ble_eq_true rfl) hl.1 dX10_settle_37) (fun H locs hW => ?_)
  exact r_iret C hW (Option.some.inj h).symm rfl dX10_settle_40
theorem kd_X10_settle {X : Mx} {r : (Int32 × Mx)} {a : Nat} {x1 : Int32} {x2 : Int32} {x3 : Int32} {x4 : Int32} (h : f_X10_settle σ X a x1 x2 x3 x4 = some r) : shK σ a = 8 := (grd_inv h).1
set_option maxRecDepth 20000 in
set_option maxHeartbeats 2000000 in
theorem t_X10_settle {X : Mx} {r : (Int32 × Mx)} {a : Nat} {x1 : Int32} {x2 : Int32} {x3 : Int32} {x4 : Int32} (h : f_X10_settle σ X a x1 x2 x3 x4 = some r) : MtI g l yX10_settle cX10_settle 5 (some .int) 7 169 [.ref a, .int x1, .int x2, .int x3, .int x4] σ X r := by
  refine met_of mk_X10_settle (Nat.le_of_ble_eq_true rfl) (fun p e s m args below meth c ls C hW hl => ?_)
  have hx := C.x
  have hb := C.b
  have hl : lv_has ls 5 [(0, .ref a), (1, .int x1), (2, .int x2), (3, .int x3), (4, .int x4)] := hl
  unfold f_X10_settle at h
  obtain ⟨hk0, h⟩ := grd_inv h
  refine lv_aload_n hx hb dX10_settle_0 rfl (lv_at hl 0 rfl) ?_
  refine lv_iconst (v := 0) hx hb dX10_settle_1 (by decide) ?_
  refine r_pI C hW h pf_X10_65 (by decide) rfl rfl dX10_settle_2 (fun X1 H locs h hW => ?_)
  refine lv_aload_n hx hb dX10_settle_5 rfl (lv_at hl 0 rfl) ?_
  refine lv_iconst (v := 0) hx hb dX10_settle_6 (by decide) ?_
  obtain ⟨X3, h2, h⟩ := bnd_inv h
  refine r_cV hW (run_V (rest := []) C hW (t_X10_merges h2) mk_X10_merges vk_X10_354 (kd_X10_merges h2) rfl rfl (by decide) ⟨Nat.le_of_ble_eq_true rfl, Nat.le_of_ble_eq_true rfl⟩ ⟨Nat.zero_le _, Nat.zero_le _⟩ rfl rfl (Nat.le_of_ble_eq_true rfl) hl.1 dX10_settle_7) (fun H locs hW => ?_)
  refine lv_aload_n hx hb dX10_settle_10 rfl (lv_at hl 0 rfl) ?_
  refine lv_iload_n hx hb dX10_settle_11 rfl (lv_at hl 1 rfl) ?_
  refine lv_iload_n hx hb dX10_settle_12 rfl (lv_at hl 2 rfl) ?_
  refine lv_iload_n hx hb dX10_settle_13 rfl (lv_at hl 3 rfl) ?_
  obtain ⟨v5, h4, h⟩ := bnd_inv h
  refine r_cI hW (run_V (rest := []) C hW (t_X10_isConflict h4) mk_X10_isConflict vk_X10_387 (kd_X10_isConflict h4) rfl rfl (by decide) ⟨Nat.le_of_ble_eq_true rfl, Nat.le_of_ble_eq_true rfl⟩ ⟨Nat.zero_le _, Nat.zero_le _⟩ rfl rfl (Nat.le_of_ble_eq_true rfl) hl.1 dX10_settle_14) (fun H locs hW => ?_)
  refine r_br h (lv_if_eq (tgt := 35) hx hb dX10_settle_17 (by decide)) (fun h => ?_) (fun h => ?_)
  · exact b_X10_settle_35 C hW (lv_sub hl [0] rfl) h
  · refine lv_iload hx hb dX10_settle_20 (lv_at hl 4 rfl) ?_
    refine lv_iconst (v := 0) hx hb dX10_settle_22 (by decide) ?_
    refine lv_iload_n hx hb dX10_settle_23 rfl (lv_at hl 1 rfl) ?_
    refine r_cI hW (run_S (rest := [.int 0, .int x4]) C hW (t_X10_choicesOf (X := X3)) mk_X10_choicesOf sk_X10_384 ⟨Nat.le_of_ble_eq_true rfl, Nat.le_of_ble_eq_true rfl⟩ ⟨Nat.zero_le _, Nat.zero_le _⟩ rfl rfl (Nat.le_of_ble_eq_true rfl) hl.1 dX10_settle_24) (fun H locs hW => ?_)
    refine lv_iconst (v := 1) hx hb dX10_settle_27 (by decide) ?_
    refine lv_isub hx hb dX10_settle_28 ?_
    refine r_cI hW (run_S (rest := []) C hW (t_X10_within (X := X3)) mk_X10_within sk_X10_231 ⟨Nat.le_of_ble_eq_true rfl, Nat.le_of_ble_eq_true rfl⟩ ⟨Nat.zero_le _, Nat.zero_le _⟩ rfl rfl (Nat.le_of_ble_eq_true rfl) hl.1 dX10_settle_29) (fun H locs hW => ?_)
    refine r_brn h (lv_if_ne (tgt := 41) hx hb dX10_settle_32 (by decide)) (fun h => ?_) (fun h => ?_)
    · refine lv_aload_n hx hb dX10_settle_41 rfl (lv_at hl 0 rfl) ?_
      obtain ⟨X7, h6, h⟩ := bnd_inv h
      refine r_cV hW (run_V (rest := []) C hW (t_X10_keeps h6) mk_X10_keeps vk_X10_273 (kd_X10_keeps h6) rfl rfl (by decide) ⟨Nat.le_of_ble_eq_true rfl, Nat.le_of_ble_eq_true rfl⟩ ⟨Nat.zero_le _, Nat.zero_le _⟩ rfl rfl (Nat.le_of_ble_eq_true rfl) hl.1 dX10_settle_42) (fun H locs hW => ?_)
      refine lv_aload_n hx hb dX10_settle_45 rfl (lv_at hl 0 rfl) ?_
      refine r_gR C hW h fl_X10_20 (by decide) dX10_settle_46 (fun b8 h => ?_)
      refine lv_sipush (v := 615) hx hb dX10_settle_49 (by decide) ?_
      refine lv_iload_n hx hb dX10_settle_52 rfl (lv_at hl 1 rfl) ?_
      refine lv_iload_n hx hb dX10_settle_53 rfl (lv_at hl 2 rfl) ?_
      refine lv_iload_n hx hb dX10_settle_54 rfl (lv_at hl 3 rfl) ?_
      refine r_cI hW (run_S (rest := [.int 615, .ref b8]) C hW (t_X10_choiceAt (X := X7)) mk_X10_choiceAt sk_X10_279 ⟨Nat.le_of_ble_eq_true rfl, Nat.le_of_ble_eq_true rfl⟩ ⟨Nat.zero_le _, Nat.zero_le _⟩ rfl rfl (Nat.le_of_ble_eq_true rfl) hl.1 dX10_settle_55) (fun H locs hW => ?_)
      refine lv_iadd hx hb dX10_settle_58 ?_
      refine lv_iload hx hb dX10_settle_59 (lv_at hl 4 rfl) ?_
      refine r_iast C hW h dX10_settle_61 (fun X9 H locs h hW => ?_)
      refine lv_aload_n hx hb dX10_settle_62 rfl (lv_at hl 0 rfl) ?_
      refine lv_iconst (v := 0) hx hb dX10_settle_63 (by decide) ?_
      obtain ⟨X11, h10, h⟩ := bnd_inv h
      refine r_cV hW (run_V (rest := []) C hW (t_X10_merges h10) mk_X10_merges vk_X10_354 (kd_X10_merges h10) rfl rfl (by decide) ⟨Nat.le_of_ble_eq_true rfl, Nat.le_of_ble_eq_true rfl⟩ ⟨Nat.zero_le _, Nat.zero_le _⟩ rfl rfl (Nat.le_of_ble_eq_true rfl) hl.1 dX10_settle_64) (fun H locs hW => ?_)
      refine lv_aload_n hx hb dX10_settle_67 rfl (lv_at hl 0 rfl) ?_
      refine r_gI C hW h fl_X10_282 (by decide) dX10_settle_68 (fun v12 h => ?_)
      exact r_iret C hW (Option.some.inj h).symm rfl dX10_settle_71
    · exact b_X10_settle_35 C hW (lv_sub hl [0] rfl) h
set_option maxRecDepth 20000 in
set_option maxHeartbeats 2000000 in
theorem b_X10_unsettle_34 {a : Nat} {x4 : Int32} (C : Cx g RX10 cX10_unsettle 6 (some .int) p s m args meth c) {r : (Int32 × Mx)} {X : Mx} {y0 : Int32} (hW : Wd g σ X s H locs) (hl : lv_has ls 6 [(0, .ref a), (4, .int x4)]) (h : f_X10_unsettle_34 σ a x4 X y0 = some r) : W p l e (rmZ 2 44) s m args below meth c H locs 0 0 (QI g σ below args s r) (F0 m 34 ls [.int y0]) := by
  have hx := C.x
  have hb := C.b
  unfold f_X10_unsettle_34 at h
  refine lv_istore (lv' := [(5, .int y0), (0, .ref a), (4, .int x4)]) hx hb dX10_unsettle_34 hl (by decide) rfl (fun ls hl => ?_)
  refine lv_iload hx hb dX10_unsettle_36 (lv_at hl 0 rfl) ?_
  refine lv_iconst (v := (-1)) hx hb dX10_unsettle_38 (by decide) ?_
  refine r_brn h (lv_icmp_ne (tgt := 48) hx hb dX10_unsettle_39 (by decide)) (fun h => ?_) (fun h => ?_)
  · refine lv_aload_n hx hb dX10_unsettle_48 rfl (lv_at hl 1 rfl) ?_
    obtain ⟨X2, h1, h⟩ := bnd_inv h
    refine r_cV hW (run_V (rest := []) C hW (t_X10_keeps h1) mk_X10_keeps vk_X10_273 (kd_X10_keeps h1) rfl rfl (by decide) ⟨Nat.le_of_ble_eq_true rfl, Nat.le_of_ble_eq_true rfl⟩ ⟨Nat.zero_le _, Nat.zero_le _⟩ rfl rfl (Nat.le_of_ble_eq_true rfl) hl.1 dX10_unsettle_49) (fun H locs hW => ?_)
    refine lv_aload_n hx hb dX10_unsettle_52 rfl (lv_at hl 1 rfl) ?_
    refine r_gR C hW h fl_X10_20 (by decide) dX10_unsettle_53 (fun b3 h => ?_)
    refine lv_sipush (v := 615) hx hb dX10_unsettle_56 (by decide) ?_
    refine lv_iload hx hb dX10_unsettle_59 (lv_at hl 2 rfl) ?_
    refine lv_iadd hx hb dX10_unsettle_61 ?_
    refine lv_iconst (v := (-1)) hx hb dX10_unsettle_62 (by decide) ?_
    refine r_iast C hW h dX10_unsettle_63 (fun X4 H locs h hW => ?_)
    refine lv_iload hx hb dX10_unsettle_64 (lv_at hl 0 rfl) ?_
    exact r_iret C hW (Option.some.inj h).symm rfl dX10_unsettle_66
  · refine lv_aload_n hx hb dX10_unsettle_42 rfl (lv_at hl 1 rfl) ?_
    refine lv_iconst (v := 1) hx hb dX10_unsettle_43 (by decide) ?_
    obtain ⟨v7, X6, h5, h⟩ := bnd2_inv h
    refine r_cI hW (run_V (rest := []) C hW (t_X10_refuses h5) mk_X10_refuses vk_X10_270 (kd_X10_refuses h5) rfl rfl (by decide) ⟨Nat.le_of_ble_eq_true rfl, Nat.le_of_ble_eq_true rfl⟩ ⟨Nat.zero_le _, Nat.zero_le _⟩ rfl rfl (Nat.le_of_ble_eq_true rfl) hl.1 dX10_unsettle_44) (fun H locs hW => ?_)
    exact r_iret C hW (Option.some.inj h).symm rfl dX10_unsettle_47
theorem kd_X10_unsettle {X : Mx} {r : (Int32 × Mx)} {a : Nat} {x1 : Int32} {x2 : Int32} {x3 : Int32} (h : f_X10_unsettle σ X a x1 x2 x3 = some r) : shK σ a = 8 := (grd_inv h).1
set_option maxRecDepth 20000 in
set_option maxHeartbeats 2000000 in
theorem t_X10_unsettle {X : Mx} {r : (Int32 × Mx)} {a : Nat} {x1 : Int32} {x2 : Int32} {x3 : Int32} (h : f_X10_unsettle σ X a x1 x2 x3 = some r) : MtI g l yX10_unsettle cX10_unsettle 6 (some .int) 2 44 [.ref a, .int x1, .int x2, .int x3] σ X r := by
  refine met_of mk_X10_unsettle (Nat.le_of_ble_eq_true rfl) (fun p e s m args below meth c ls C hW hl => ?_)
  have hx := C.x
  have hb := C.b
  have hl : lv_has ls 6 [(0, .ref a), (1, .int x1), (2, .int x2), (3, .int x3)] := hl
  unfold f_X10_unsettle at h
  obtain ⟨hk0, h⟩ := grd_inv h
  refine lv_aload_n hx hb dX10_unsettle_0 rfl (lv_at hl 0 rfl) ?_
  refine lv_iconst (v := 0) hx hb dX10_unsettle_1 (by decide) ?_
  refine r_pI C hW h pf_X10_65 (by decide) rfl rfl dX10_unsettle_2 (fun X1 H locs h hW => ?_)
  refine lv_iload_n hx hb dX10_unsettle_5 rfl (lv_at hl 1 rfl) ?_
  refine lv_iload_n hx hb dX10_unsettle_6 rfl (lv_at hl 2 rfl) ?_
  refine lv_iload_n hx hb dX10_unsettle_7 rfl (lv_at hl 3 rfl) ?_
  refine r_cI hW (run_S (rest := []) C hW (t_X10_choiceAt (X := X1)) mk_X10_choiceAt sk_X10_279 ⟨Nat.le_of_ble_eq_true rfl, Nat.le_of_ble_eq_true rfl⟩ ⟨Nat.zero_le _, Nat.zero_le _⟩ rfl rfl (Nat.le_of_ble_eq_true rfl) hl.1 dX10_unsettle_8) (fun H locs hW => ?_)
  refine lv_istore (lv' := [(4, .int (f_X10_choiceAt x1 x2 x3)), (0, .ref a), (1, .int x1), (2, .int x2), (3, .int x3)]) hx hb dX10_unsettle_11 hl (by decide) rfl (fun ls hl => ?_)
  refine lv_iload hx hb dX10_unsettle_13 (lv_at hl 0 rfl) ?_
  refine lv_iconst (v := (-1)) hx hb dX10_unsettle_15 (by decide) ?_
  refine r_brn h (lv_icmp_ne (tgt := 23) hx hb dX10_unsettle_16 (by decide)) (fun h => ?_) (fun h => ?_)
  · refine lv_aload_n hx hb dX10_unsettle_23 rfl (lv_at hl 1 rfl) ?_
    refine r_gR C hW h fl_X10_20 (by decide) dX10_unsettle_24 (fun b2 h => ?_)
    refine lv_sipush (v := 615) hx hb dX10_unsettle_27 (by decide) ?_
    refine lv_iload hx hb dX10_unsettle_30 (lv_at hl 0 rfl) ?_
    refine lv_iadd hx hb dX10_unsettle_32 ?_
    refine r_iald C hW h dX10_unsettle_33 (fun v3 h => ?_)
    exact b_X10_unsettle_34 C hW (lv_sub hl [1, 0] rfl) h
  · refine lv_iconst (v := (-1)) hx hb dX10_unsettle_19 (by decide) ?_
    refine lv_goto (tgt := 34) hx hb dX10_unsettle_20 (by decide) ?_
    exact b_X10_unsettle_34 C hW (lv_sub hl [1, 0] rfl) h
set_option maxRecDepth 20000 in
set_option maxHeartbeats 2000000 in
theorem t_X10_flipped {X : Mx} {x0 : Int32} : MtI g l yX10_flipped cX10_flipped 1 (some .int) 0 0 [.int x0] σ X (f_X10_flipped x0, X) := by
  obtain ⟨r, h⟩ : ∃ r, f_X10_flipped x0 = r := ⟨_, rfl⟩
  rw [h]
  refine met_of mk_X10_flipped (Nat.le_of_ble_eq_true rfl) (fun p e s m args below meth c ls C hW hl => ?_)
  have hx := C.x
  have hb := C.b
  have hl : lv_has ls 1 [(0, .int x0)] := hl
  unfold f_X10_flipped at h
  refine lv_iload_n hx hb dX10_flipped_0 rfl (lv_at hl 0 rfl) ?_
  refine lv_iconst (v := 5) hx hb dX10_flipped_1 (by decide) ?_
  refine r_br h (lv_icmp_ge (tgt := 9) hx hb dX10_flipped_2 (by decide)) (fun h => ?_) (fun h => ?_)
  · refine lv_iload_n hx hb dX10_flipped_9 rfl (lv_at hl 0 rfl) ?_
    refine lv_bipush (v := 7) hx hb dX10_flipped_10 (by decide) ?_
    refine r_br h (lv_icmp_ge (tgt := 21) hx hb dX10_flipped_12 (by decide)) (fun h => ?_) (fun h => ?_)
    · refine lv_iload_n hx hb dX10_flipped_21 rfl (lv_at hl 0 rfl) ?_
      refine lv_iconst (v := 2) hx hb dX10_flipped_22 (by decide) ?_
      refine lv_isub hx hb dX10_flipped_23 ?_
      exact r_iret C hW (rt_T h) rfl dX10_flipped_24
    · refine lv_iload_n hx hb dX10_flipped_15 rfl (lv_at hl 0 rfl) ?_
      refine lv_iconst (v := 2) hx hb dX10_flipped_16 (by decide) ?_
      refine lv_iadd hx hb dX10_flipped_17 ?_
      refine lv_goto (tgt := 24) hx hb dX10_flipped_18 (by decide) ?_
      exact r_iret C hW (rt_T h) rfl dX10_flipped_24
  · refine lv_iload_n hx hb dX10_flipped_5 rfl (lv_at hl 0 rfl) ?_
    refine lv_goto (tgt := 24) hx hb dX10_flipped_6 (by decide) ?_
    exact r_iret C hW (rt_T h) rfl dX10_flipped_24
set_option maxRecDepth 20000 in
set_option maxHeartbeats 2000000 in
theorem b_X10_flipsTable_139 {k46 : Mx → Int32 → Option Mx} {a : Nat} {x3 : Int32} {x4 : Int32} {x5 : Int32} {x6 : Int32} (C : Cx g RX10 cX10_flipsTable 8 none p s m args meth c) {r : Mx} (hk46 : ∀ {H' : Heap} {locs' : List Loc} {ls' : Array Slot} {X' : Mx} {x5' : Int32}, Wd g σ X' s H' locs' → lv_has ls' 8 [(0, .ref a), (3, .int x3), (4, .int x4), (5, .int x5')] → k46 X' x5' = some r → W p l e (rmZ 1 20) s m args below meth c H' locs' 0 0 (QV g σ below args s r) (F0 m 46 ls' [])) : ∀ (n : Nat) {X : Mx} {x7 : Int32} {H : Heap} {locs : List Loc} {ls : Array Slot} (hW : Wd g σ X s H locs) (hl : lv_has ls 8 [(0, .ref a), (3, .int x3), (4, .int x4), (5, .int x5), (6, .int x6), (7, .int x7)]) (h : f_X10_flipsTable_139 k46 σ a x3 x4 x5 x6 n X x7 = some r), W p l e (rmZ 1 20) s m args below meth c H locs 0 0 (QV g σ below args s r) (F0 m 139 ls []) := by
  have hx := C.x
  have hb := C.b
  intro n
  induction n with
  | zero =>
    intro X x7 H locs ls hW hl h
    cases (show none = some r from h)
  | succ n ih =>
    intro X x7 H locs ls hW hl h
    rw [f_X10_flipsTable_139] at h
    refine lv_iload hx hb dX10_flipsTable_139 (lv_at hl 5 rfl) ?_
    refine lv_bipush (v := 20) hx hb dX10_flipsTable_141 (by decide) ?_
    refine r_br h (lv_icmp_ge (tgt := 189) hx hb dX10_flipsTable_143 (by decide)) (fun h => ?_) (fun h => ?_)
    · refine lv_iinc (v := (x5 + 1)) (lv' := [(5, .int (x5 + 1)), (0, .ref a), (3, .int x3), (4, .int x4), (6, .int x6), (7, .int x7)]) hx hb dX10_flipsTable_189 hl (k := 3) rfl rfl (by decide) rfl (fun ls hl => ?_)
      refine lv_goto (tgt := 46) hx hb dX10_flipsTable_192 (by decide) ?_
      exact hk46 hW (lv_sub hl [1, 2, 3, 0] rfl) h
    · refine lv_aload_n hx hb dX10_flipsTable_146 rfl (lv_at hl 0 rfl) ?_
      refine r_gR C hW h fl_X10_20 (by decide) dX10_flipsTable_147 (fun b1 h => ?_)
      refine lv_iload_n hx hb dX10_flipsTable_150 rfl (lv_at hl 1 rfl) ?_
      refine lv_bipush (v := 20) hx hb dX10_flipsTable_151 (by decide) ?_
      refine lv_iadd hx hb dX10_flipsTable_153 ?_
      refine lv_bipush (v := 9) hx hb dX10_flipsTable_154 (by decide) ?_
      refine lv_iload hx hb dX10_flipsTable_156 (lv_at hl 5 rfl) ?_
      refine lv_imul hx hb dX10_flipsTable_158 ?_
      refine lv_iadd hx hb dX10_flipsTable_159 ?_
      refine lv_iload hx hb dX10_flipsTable_160 (lv_at hl 3 rfl) ?_
      refine lv_iadd hx hb dX10_flipsTable_162 ?_
      refine lv_aload_n hx hb dX10_flipsTable_163 rfl (lv_at hl 0 rfl) ?_
      refine r_gR C hW h fl_X10_20 (by decide) dX10_flipsTable_164 (fun b2 h => ?_)
      refine lv_iload hx hb dX10_flipsTable_167 (lv_at hl 2 rfl) ?_
      refine lv_bipush (v := 20) hx hb dX10_flipsTable_169 (by decide) ?_
      refine lv_iadd hx hb dX10_flipsTable_171 ?_
      refine lv_bipush (v := 9) hx hb dX10_flipsTable_172 (by decide) ?_
      refine lv_iload hx hb dX10_flipsTable_174 (lv_at hl 5 rfl) ?_
      refine lv_imul hx hb dX10_flipsTable_176 ?_
      refine lv_iadd hx hb dX10_flipsTable_177 ?_
      refine lv_iload hx hb dX10_flipsTable_178 (lv_at hl 4 rfl) ?_
      refine lv_iadd hx hb dX10_flipsTable_180 ?_
      refine r_iald C hW h dX10_flipsTable_181 (fun v3 h => ?_)
      refine r_iast C hW h dX10_flipsTable_182 (fun X4 H locs h hW => ?_)
      refine lv_iinc (v := (x7 + 1)) (lv' := [(7, .int (x7 + 1)), (0, .ref a), (3, .int x3), (4, .int x4), (5, .int x5), (6, .int x6)]) hx hb dX10_flipsTable_183 hl (k := 5) rfl rfl (by decide) rfl (fun ls hl => ?_)
      refine lv_goto (tgt := 139) hx hb dX10_flipsTable_186 (by decide) ?_
      exact ih hW (lv_sub hl [1, 2, 3, 4, 5, 0] rfl) h
set_option maxRecDepth 20000 in
set_option maxHeartbeats 2000000 in
theorem b_X10_flipsTable_46 {a : Nat} {x3 : Int32} {x4 : Int32} (C : Cx g RX10 cX10_flipsTable 8 none p s m args meth c) {r : Mx} : ∀ (n : Nat) {X : Mx} {x5 : Int32} {H : Heap} {locs : List Loc} {ls : Array Slot} (hW : Wd g σ X s H locs) (hl : lv_has ls 8 [(0, .ref a), (3, .int x3), (4, .int x4), (5, .int x5)]) (h : f_X10_flipsTable_46 σ a x3 x4 n X x5 = some r), W p l e (rmZ 1 20) s m args below meth c H locs 0 0 (QV g σ below args s r) (F0 m 46 ls []) := by
  have hx := C.x
  have hb := C.b
  intro n
  induction n with
  | zero =>
    intro X x5 H locs ls hW hl h
    cases (show none = some r from h)
  | succ n ih =>
    intro X x5 H locs ls hW hl h
    rw [f_X10_flipsTable_46] at h
    refine lv_iload hx hb dX10_flipsTable_46 (lv_at hl 3 rfl) ?_
    refine lv_bipush (v := 9) hx hb dX10_flipsTable_48 (by decide) ?_
    refine r_br h (lv_icmp_ge (tgt := 195) hx hb dX10_flipsTable_50 (by decide)) (fun h => ?_) (fun h => ?_)
    · exact r_vret C hW (Option.some.inj h).symm dX10_flipsTable_195
    · refine lv_iload hx hb dX10_flipsTable_53 (lv_at hl 3 rfl) ?_
      refine r_cI hW (run_S (rest := []) C hW (t_X10_flipped (X := X)) mk_X10_flipped sk_X10_390 ⟨Nat.le_of_ble_eq_true rfl, Nat.le_of_ble_eq_true rfl⟩ ⟨Nat.zero_le _, Nat.zero_le _⟩ rfl rfl (Nat.le_of_ble_eq_true rfl) hl.1 dX10_flipsTable_55) (fun H locs hW => ?_)
      refine lv_istore (lv' := [(6, .int (f_X10_flipped x5)), (0, .ref a), (3, .int x3), (4, .int x4), (5, .int x5)]) hx hb dX10_flipsTable_58 hl (by decide) rfl (fun ls hl => ?_)
      refine lv_aload_n hx hb dX10_flipsTable_60 rfl (lv_at hl 1 rfl) ?_
      refine r_gR C hW h fl_X10_20 (by decide) dX10_flipsTable_61 (fun b1 h => ?_)
      refine lv_iload_n hx hb dX10_flipsTable_64 rfl (lv_at hl 2 rfl) ?_
      refine lv_iconst (v := 0) hx hb dX10_flipsTable_65 (by decide) ?_
      refine lv_iadd hx hb dX10_flipsTable_66 ?_
      refine lv_dup2_11 hx hb dX10_flipsTable_67 rfl rfl ?_
      refine r_iald C hW h dX10_flipsTable_68 (fun v2 h => ?_)
      refine lv_aload_n hx hb dX10_flipsTable_69 rfl (lv_at hl 1 rfl) ?_
      refine r_gR C hW h fl_X10_20 (by decide) dX10_flipsTable_70 (fun b3 h => ?_)
      refine lv_iload hx hb dX10_flipsTable_73 (lv_at hl 3 rfl) ?_
      refine lv_iconst (v := 0) hx hb dX10_flipsTable_75 (by decide) ?_
      refine lv_iadd hx hb dX10_flipsTable_76 ?_
      refine r_iald C hW h dX10_flipsTable_77 (fun v4 h => ?_)
      refine lv_iload hx hb dX10_flipsTable_78 (lv_at hl 0 rfl) ?_
      refine lv_ishr hx hb dX10_flipsTable_80 ?_
      refine lv_iconst (v := 1) hx hb dX10_flipsTable_81 (by decide) ?_
      refine lv_iand hx hb dX10_flipsTable_82 ?_
      refine lv_iload hx hb dX10_flipsTable_83 (lv_at hl 4 rfl) ?_
      refine lv_ishl hx hb dX10_flipsTable_85 ?_
      refine lv_ior hx hb dX10_flipsTable_86 ?_
      refine r_iast C hW h dX10_flipsTable_87 (fun X5 H locs h hW => ?_)
      refine lv_aload_n hx hb dX10_flipsTable_88 rfl (lv_at hl 1 rfl) ?_
      refine r_gR C hW h fl_X10_20 (by decide) dX10_flipsTable_89 (fun b6 h => ?_)
      refine lv_iload_n hx hb dX10_flipsTable_92 rfl (lv_at hl 2 rfl) ?_
      refine lv_iconst (v := 2) hx hb dX10_flipsTable_93 (by decide) ?_
      refine lv_iadd hx hb dX10_flipsTable_94 ?_
      refine lv_iload hx hb dX10_flipsTable_95 (lv_at hl 4 rfl) ?_
      refine lv_iadd hx hb dX10_flipsTable_97 ?_
      refine lv_aload_n hx hb dX10_flipsTable_98 rfl (lv_at hl 1 rfl) ?_
      refine r_gR C hW h fl_X10_20 (by decide) dX10_flipsTable_99 (fun b7 h => ?_)
      refine lv_iload hx hb dX10_flipsTable_102 (lv_at hl 3 rfl) ?_
      refine lv_iconst (v := 2) hx hb dX10_flipsTable_104 (by decide) ?_
      refine lv_iadd hx hb dX10_flipsTable_105 ?_
      refine lv_iload hx hb dX10_flipsTable_106 (lv_at hl 0 rfl) ?_
      refine lv_iadd hx hb dX10_flipsTable_108 ?_
      refine r_iald C hW h dX10_flipsTable_109 (fun v8 h => ?_)
      refine r_iast C hW h dX10_flipsTable_110 (fun X9 H locs h hW => ?_)
      refine lv_aload_n hx hb dX10_flipsTable_111 rfl (lv_at hl 1 rfl) ?_
      refine r_gR C hW h fl_X10_20 (by decide) dX10_flipsTable_112 (fun b10 h => ?_)
      refine lv_iload_n hx hb dX10_flipsTable_115 rfl (lv_at hl 2 rfl) ?_
      refine lv_bipush (v := 11) hx hb dX10_flipsTable_116 (by decide) ?_
      refine lv_iadd hx hb dX10_flipsTable_118 ?_
      refine lv_iload hx hb dX10_flipsTable_119 (lv_at hl 4 rfl) ?_
      refine lv_iadd hx hb dX10_flipsTable_121 ?_
      refine lv_aload_n hx hb dX10_flipsTable_122 rfl (lv_at hl 1 rfl) ?_
      refine r_gR C hW h fl_X10_20 (by decide) dX10_flipsTable_123 (fun b11 h => ?_)
      refine lv_iload hx hb dX10_flipsTable_126 (lv_at hl 3 rfl) ?_
      refine lv_bipush (v := 11) hx hb dX10_flipsTable_128 (by decide) ?_
      refine lv_iadd hx hb dX10_flipsTable_130 ?_
      refine lv_iload hx hb dX10_flipsTable_131 (lv_at hl 0 rfl) ?_
      refine lv_iadd hx hb dX10_flipsTable_133 ?_
      refine r_iald C hW h dX10_flipsTable_134 (fun v12 h => ?_)
      refine r_iast C hW h dX10_flipsTable_135 (fun X13 H locs h hW => ?_)
      refine lv_iconst (v := 0) hx hb dX10_flipsTable_136 (by decide) ?_
      refine lv_istore (lv' := [(7, .int 0), (6, .int (f_X10_flipped x5)), (0, .ref a), (3, .int x3), (4, .int x4), (5, .int x5)]) hx hb dX10_flipsTable_137 hl (by decide) rfl (fun ls hl => ?_)
      exact b_X10_flipsTable_139 C (fun hW hl h => ih hW hl h) FU hW (lv_sub hl [2, 3, 4, 5, 1, 0] rfl) h
theorem kd_X10_flipsTable {X : Mx} {r : Mx} {a : Nat} {x1 : Int32} {x2 : Int32} (h : f_X10_flipsTable σ X a x1 x2 = some r) : shK σ a = 8 := (grd_inv h).1
set_option maxRecDepth 20000 in
set_option maxHeartbeats 2000000 in
theorem t_X10_flipsTable {X : Mx} {r : Mx} {a : Nat} {x1 : Int32} {x2 : Int32} (h : f_X10_flipsTable σ X a x1 x2 = some r) : MtV g l yX10_flipsTable cX10_flipsTable 8 none 1 20 [.ref a, .int x1, .int x2] σ X r := by
  refine met_of mk_X10_flipsTable (Nat.le_of_ble_eq_true rfl) (fun p e s m args below meth c ls C hW hl => ?_)
  have hx := C.x
  have hb := C.b
  have hl : lv_has ls 8 [(0, .ref a), (1, .int x1), (2, .int x2)] := hl
  unfold f_X10_flipsTable at h
  obtain ⟨hk0, h⟩ := grd_inv h
  refine lv_sipush (v := 200) hx hb dX10_flipsTable_0 (by decide) ?_
  refine lv_iload_n hx hb dX10_flipsTable_3 rfl (lv_at hl 1 rfl) ?_
  refine lv_imul hx hb dX10_flipsTable_4 ?_
  refine lv_istore_n (lv' := [(3, .int (200 * x1)), (0, .ref a), (1, .int x1), (2, .int x2)]) hx hb dX10_flipsTable_5 rfl hl (by decide) rfl (fun ls hl => ?_)
  refine lv_sipush (v := 931) hx hb dX10_flipsTable_6 (by decide) ?_
  refine lv_sipush (v := 200) hx hb dX10_flipsTable_9 (by decide) ?_
  refine lv_iload_n hx hb dX10_flipsTable_12 rfl (lv_at hl 3 rfl) ?_
  refine lv_imul hx hb dX10_flipsTable_13 ?_
  refine lv_iadd hx hb dX10_flipsTable_14 ?_
  refine lv_istore (lv' := [(4, .int (931 + (200 * x2))), (3, .int (200 * x1)), (0, .ref a), (1, .int x1), (2, .int x2)]) hx hb dX10_flipsTable_15 hl (by decide) rfl (fun ls hl => ?_)
  refine lv_aload_n hx hb dX10_flipsTable_17 rfl (lv_at hl 2 rfl) ?_
  refine r_gR C hW h fl_X10_20 (by decide) dX10_flipsTable_18 (fun b1 h => ?_)
  refine lv_iload_n hx hb dX10_flipsTable_21 rfl (lv_at hl 1 rfl) ?_
  refine lv_iconst (v := 1) hx hb dX10_flipsTable_22 (by decide) ?_
  refine lv_iadd hx hb dX10_flipsTable_23 ?_
  refine lv_aload_n hx hb dX10_flipsTable_24 rfl (lv_at hl 2 rfl) ?_
  refine r_gR C hW h fl_X10_20 (by decide) dX10_flipsTable_25 (fun b2 h => ?_)
  refine lv_iload hx hb dX10_flipsTable_28 (lv_at hl 0 rfl) ?_
  refine lv_iconst (v := 1) hx hb dX10_flipsTable_30 (by decide) ?_
  refine lv_iadd hx hb dX10_flipsTable_31 ?_
  refine r_iald C hW h dX10_flipsTable_32 (fun v3 h => ?_)
  refine r_iast C hW h dX10_flipsTable_33 (fun X4 H locs h hW => ?_)
  refine lv_aload_n hx hb dX10_flipsTable_34 rfl (lv_at hl 2 rfl) ?_
  refine r_gR C hW h fl_X10_20 (by decide) dX10_flipsTable_35 (fun b5 h => ?_)
  refine lv_iload_n hx hb dX10_flipsTable_38 rfl (lv_at hl 1 rfl) ?_
  refine lv_iconst (v := 0) hx hb dX10_flipsTable_39 (by decide) ?_
  refine lv_iadd hx hb dX10_flipsTable_40 ?_
  refine lv_iconst (v := 0) hx hb dX10_flipsTable_41 (by decide) ?_
  refine r_iast C hW h dX10_flipsTable_42 (fun X6 H locs h hW => ?_)
  refine lv_iconst (v := 0) hx hb dX10_flipsTable_43 (by decide) ?_
  refine lv_istore (lv' := [(5, .int 0), (4, .int (931 + (200 * x2))), (3, .int (200 * x1)), (0, .ref a), (1, .int x1), (2, .int x2)]) hx hb dX10_flipsTable_44 hl (by decide) rfl (fun ls hl => ?_)
  exact b_X10_flipsTable_46 C FU hW (lv_sub hl [3, 2, 1, 0] rfl) h
set_option maxRecDepth 20000 in
set_option maxHeartbeats 2000000 in
theorem b_X10_flipsChoice_37 {a : Nat} {x1 : Int32} {x2 : Int32} {x3 : Int32} {x6 : Int32} (C : Cx g RX10 cX10_flipsChoice 8 none p s m args meth c) {r : Mx} {X : Mx} {y0 : Int32} (hW : Wd g σ X s H locs) (hl : lv_has ls 8 [(0, .ref a), (1, .int x1), (2, .int x2), (3, .int x3), (6, .int x6)]) (h : f_X10_flipsChoice_37 σ a x1 x2 x3 x6 X y0 = some r) : W p l e (rmZ 2 44) s m args below meth c H locs 0 0 (QV g σ below args s r) (F0 m 37 ls [.int y0]) := by
  have hx := C.x
  have hb := C.b
  unfold f_X10_flipsChoice_37 at h
  refine lv_istore (lv' := [(7, .int y0), (0, .ref a), (1, .int x1), (2, .int x2), (3, .int x3), (6, .int x6)]) hx hb dX10_flipsChoice_37 hl (by decide) rfl (fun ls hl => ?_)
  refine lv_aload_n hx hb dX10_flipsChoice_39 rfl (lv_at hl 1 rfl) ?_
  refine r_gR C hW h fl_X10_20 (by decide) dX10_flipsChoice_40 (fun b1 h => ?_)
  refine lv_sipush (v := 615) hx hb dX10_flipsChoice_43 (by decide) ?_
  refine lv_iload_n hx hb dX10_flipsChoice_46 rfl (lv_at hl 2 rfl) ?_
  refine lv_iload_n hx hb dX10_flipsChoice_47 rfl (lv_at hl 3 rfl) ?_
  refine lv_iload_n hx hb dX10_flipsChoice_48 rfl (lv_at hl 4 rfl) ?_
  refine r_cI hW (run_S (rest := [.int 615, .ref b1]) C hW (t_X10_choiceAt (X := X)) mk_X10_choiceAt sk_X10_279 ⟨Nat.le_of_ble_eq_true rfl, Nat.le_of_ble_eq_true rfl⟩ ⟨Nat.zero_le _, Nat.zero_le _⟩ rfl rfl (Nat.le_of_ble_eq_true rfl) hl.1 dX10_flipsChoice_49) (fun H locs hW => ?_)
  refine lv_iadd hx hb dX10_flipsChoice_52 ?_
  refine lv_iload hx hb dX10_flipsChoice_53 (lv_at hl 0 rfl) ?_
  refine r_br h (lv_if_eq (tgt := 65) hx hb dX10_flipsChoice_55 (by decide)) (fun h => ?_) (fun h => ?_)
  · refine lv_iload hx hb dX10_flipsChoice_65 (lv_at hl 5 rfl) ?_
    refine r_iast C hW h dX10_flipsChoice_67 (fun X2 H locs h hW => ?_)
    exact r_vret C hW (Option.some.inj h).symm dX10_flipsChoice_68
  · refine lv_iconst (v := 3) hx hb dX10_flipsChoice_58 (by decide) ?_
    refine lv_iload hx hb dX10_flipsChoice_59 (lv_at hl 5 rfl) ?_
    refine lv_isub hx hb dX10_flipsChoice_61 ?_
    refine lv_goto (tgt := 67) hx hb dX10_flipsChoice_62 (by decide) ?_
    refine r_iast C hW h dX10_flipsChoice_67 (fun X3 H locs h hW => ?_)
    exact r_vret C hW (Option.some.inj h).symm dX10_flipsChoice_68
set_option maxRecDepth 20000 in
set_option maxHeartbeats 2000000 in
theorem b_X10_flipsChoice_36 {a : Nat} {x1 : Int32} {x2 : Int32} {x3 : Int32} {x6 : Int32} (C : Cx g RX10 cX10_flipsChoice 8 none p s m args meth c) {r : Mx} {X : Mx} (hW : Wd g σ X s H locs) (hl : lv_has ls 8 [(0, .ref a), (1, .int x1), (2, .int x2), (3, .int x3), (6, .int x6)]) (h : f_X10_flipsChoice_36 σ a x1 x2 x3 x6 X = some r) : W p l e (rmZ 2 44) s m args below meth c H locs 0 0 (QV g σ below args s r) (F0 m 36 ls []) := by
  have hx := C.x
  have hb := C.b
  unfold f_X10_flipsChoice_36 at h
  refine lv_iconst (v := 0) hx hb dX10_flipsChoice_36 (by decide) ?_
  exact b_X10_flipsChoice_37 C hW (lv_sub hl [0, 1, 2, 3, 4] rfl) h
theorem kd_X10_flipsChoice {X : Mx} {r : Mx} {a : Nat} {x1 : Int32} {x2 : Int32} {x3 : Int32} {x4 : Int32} {x5 : Int32} (h : f_X10_flipsChoice σ X a x1 x2 x3 x4 x5 = some r) : shK σ a = 8 := (grd_inv h).1
set_option maxRecDepth 20000 in
set_option maxHeartbeats 2000000 in
theorem t_X10_flipsChoice {X : Mx} {r : Mx} {a : Nat} {x1 : Int32} {x2 : Int32} {x3 : Int32} {x4 : Int32} {x5 : Int32} (h : f_X10_flipsChoice σ X a x1 x2 x3 x4 x5 = some r) : MtV g l yX10_flipsChoice cX10_flipsChoice 8 none 2 44 [.ref a, .int x1, .int x2, .int x3, .int x4, .int x5] σ X r := by
  refine met_of mk_X10_flipsChoice (Nat.le_of_ble_eq_true rfl) (fun p e s m args below meth c ls C hW hl => ?_)
  have hx := C.x
  have hb := C.b
  have hl : lv_has ls 8 [(0, .ref a), (1, .int x1), (2, .int x2), (3, .int x3), (4, .int x4), (5, .int x5)] := hl
  unfold f_X10_flipsChoice at h
  obtain ⟨hk0, h⟩ := grd_inv h
  refine lv_aload_n hx hb dX10_flipsChoice_0 rfl (lv_at hl 0 rfl) ?_
  refine r_gR C hW h fl_X10_20 (by decide) dX10_flipsChoice_1 (fun b1 h => ?_)
  refine lv_sipush (v := 1546) hx hb dX10_flipsChoice_4 (by decide) ?_
  refine lv_iload_n hx hb dX10_flipsChoice_7 rfl (lv_at hl 1 rfl) ?_
  refine lv_iload hx hb dX10_flipsChoice_8 (lv_at hl 4 rfl) ?_
  refine lv_iload hx hb dX10_flipsChoice_10 (lv_at hl 5 rfl) ?_
  refine r_cI hW (run_S (rest := [.int 1546, .ref b1]) C hW (t_X10_choiceAt (X := X)) mk_X10_choiceAt sk_X10_279 ⟨Nat.le_of_ble_eq_true rfl, Nat.le_of_ble_eq_true rfl⟩ ⟨Nat.zero_le _, Nat.zero_le _⟩ rfl rfl (Nat.le_of_ble_eq_true rfl) hl.1 dX10_flipsChoice_12) (fun H locs hW => ?_)
  refine lv_iadd hx hb dX10_flipsChoice_15 ?_
  refine r_iald C hW h dX10_flipsChoice_16 (fun v2 h => ?_)
  refine lv_istore (lv' := [(6, .int v2), (0, .ref a), (1, .int x1), (2, .int x2), (3, .int x3), (4, .int x4), (5, .int x5)]) hx hb dX10_flipsChoice_17 hl (by decide) rfl (fun ls hl => ?_)
  refine lv_iload_n hx hb dX10_flipsChoice_19 rfl (lv_at hl 2 rfl) ?_
  refine r_cI hW (run_S (rest := []) C hW (t_X10_choicesOf (X := X)) mk_X10_choicesOf sk_X10_384 ⟨Nat.le_of_ble_eq_true rfl, Nat.le_of_ble_eq_true rfl⟩ ⟨Nat.zero_le _, Nat.zero_le _⟩ rfl rfl (Nat.le_of_ble_eq_true rfl) hl.1 dX10_flipsChoice_20) (fun H locs hW => ?_)
  refine lv_iconst (v := 3) hx hb dX10_flipsChoice_23 (by decide) ?_
  refine r_brn h (lv_icmp_ne (tgt := 36) hx hb dX10_flipsChoice_24 (by decide)) (fun h => ?_) (fun h => ?_)
  · exact b_X10_flipsChoice_36 C hW (lv_sub hl [1, 2, 3, 4, 0] rfl) h
  · refine lv_iload hx hb dX10_flipsChoice_27 (lv_at hl 0 rfl) ?_
    refine r_br h (lv_if_le (tgt := 36) hx hb dX10_flipsChoice_29 (by decide)) (fun h => ?_) (fun h => ?_)
    · exact b_X10_flipsChoice_36 C hW (lv_sub hl [1, 2, 3, 4, 0] rfl) h
    · refine lv_iconst (v := 1) hx hb dX10_flipsChoice_32 (by decide) ?_
      refine lv_goto (tgt := 37) hx hb dX10_flipsChoice_33 (by decide) ?_
      exact b_X10_flipsChoice_37 C hW (lv_sub hl [1, 2, 3, 4, 0] rfl) h
set_option maxRecDepth 20000 in
set_option maxHeartbeats 2000000 in
theorem b_X10_flip_66 {k59 : Mx → Int32 → Option Mx} {a : Nat} {x1 : Int32} (C : Cx g RX10 cX10_flip 3 none p s m args meth c) {r : Mx} (hk59 : ∀ {H' : Heap} {locs' : List Loc} {ls' : Array Slot} {X' : Mx} {x1' : Int32}, Wd g σ X' s H' locs' → lv_has ls' 3 [(0, .ref a), (1, .int x1')] → k59 X' x1' = some r → W p l e (rmZ 3 71) s m args below meth c H' locs' 0 0 (QV g σ below args s r) (F0 m 59 ls' [])) : ∀ (n : Nat) {X : Mx} {x2 : Int32} {H : Heap} {locs : List Loc} {ls : Array Slot} (hW : Wd g σ X s H locs) (hl : lv_has ls 3 [(0, .ref a), (1, .int x1), (2, .int x2)]) (h : f_X10_flip_66 k59 σ a x1 n X x2 = some r), W p l e (rmZ 3 71) s m args below meth c H locs 0 0 (QV g σ below args s r) (F0 m 66 ls []) := by
  have hx := C.x
  have hb := C.b
  intro n
  induction n with
  | zero =>
    intro X x2 H locs ls hW hl h
    cases (show none = some r from h)
  | succ n ih =>
    intro X x2 H locs ls hW hl h
    rw [f_X10_flip_66] at h
    refine lv_iload_n hx hb dX10_flip_66 rfl (lv_at hl 2 rfl) ?_
    refine lv_bipush (v := 9) hx hb dX10_flip_67 (by decide) ?_
    refine r_br h (lv_icmp_ge (tgt := 90) hx hb dX10_flip_69 (by decide)) (fun h => ?_) (fun h => ?_)
    · refine lv_iinc (v := (x1 + 1)) (lv' := [(1, .int (x1 + 1)), (0, .ref a), (2, .int x2)]) hx hb dX10_flip_90 hl (k := 1) rfl rfl (by decide) rfl (fun ls hl => ?_)
      refine lv_goto (tgt := 59) hx hb dX10_flip_93 (by decide) ?_
      exact hk59 hW (lv_sub hl [1, 0] rfl) h
    · refine lv_aload_n hx hb dX10_flip_72 rfl (lv_at hl 0 rfl) ?_
      refine lv_iload_n hx hb dX10_flip_73 rfl (lv_at hl 1 rfl) ?_
      refine lv_iload_n hx hb dX10_flip_74 rfl (lv_at hl 2 rfl) ?_
      refine lv_iconst (v := 0) hx hb dX10_flip_75 (by decide) ?_
      refine lv_iload_n hx hb dX10_flip_76 rfl (lv_at hl 2 rfl) ?_
      refine r_cI hW (run_S (rest := [.int 0, .int x2, .int x1, .ref a]) C hW (t_X10_flipped (X := X)) mk_X10_flipped sk_X10_390 ⟨Nat.le_of_ble_eq_true rfl, Nat.le_of_ble_eq_true rfl⟩ ⟨Nat.zero_le _, Nat.zero_le _⟩ rfl rfl (Nat.le_of_ble_eq_true rfl) hl.1 dX10_flip_77) (fun H locs hW => ?_)
      refine lv_iconst (v := 0) hx hb dX10_flip_80 (by decide) ?_
      obtain ⟨X2, h1, h⟩ := bnd_inv h
      refine r_cV hW (run_V (rest := []) C hW (t_X10_flipsChoice h1) mk_X10_flipsChoice vk_X10_396 (kd_X10_flipsChoice h1) rfl rfl (by decide) ⟨Nat.le_of_ble_eq_true rfl, Nat.le_of_ble_eq_true rfl⟩ ⟨Nat.zero_le _, Nat.zero_le _⟩ rfl rfl (Nat.le_of_ble_eq_true rfl) hl.1 dX10_flip_81) (fun H locs hW => ?_)
      refine lv_iinc (v := (x2 + 1)) (lv' := [(2, .int (x2 + 1)), (0, .ref a), (1, .int x1)]) hx hb dX10_flip_84 hl (k := 2) rfl rfl (by decide) rfl (fun ls hl => ?_)
      refine lv_goto (tgt := 66) hx hb dX10_flip_87 (by decide) ?_
      exact ih hW (lv_sub hl [1, 2, 0] rfl) h
set_option maxRecDepth 20000 in
set_option maxHeartbeats 2000000 in
theorem b_X10_flip_106 {k98 : Mx → Int32 → Option Mx} {a : Nat} {x1 : Int32} (C : Cx g RX10 cX10_flip 3 none p s m args meth c) {r : Mx} (hk98 : ∀ {H' : Heap} {locs' : List Loc} {ls' : Array Slot} {X' : Mx} {x1' : Int32}, Wd g σ X' s H' locs' → lv_has ls' 3 [(0, .ref a), (1, .int x1')] → k98 X' x1' = some r → W p l e (rmZ 3 71) s m args below meth c H' locs' 0 0 (QV g σ below args s r) (F0 m 98 ls' [])) : ∀ (n : Nat) {X : Mx} {x2 : Int32} {H : Heap} {locs : List Loc} {ls : Array Slot} (hW : Wd g σ X s H locs) (hl : lv_has ls 3 [(0, .ref a), (1, .int x1), (2, .int x2)]) (h : f_X10_flip_106 k98 σ a x1 n X x2 = some r), W p l e (rmZ 3 71) s m args below meth c H locs 0 0 (QV g σ below args s r) (F0 m 106 ls []) := by
  have hx := C.x
  have hb := C.b
  intro n
  induction n with
  | zero =>
    intro X x2 H locs ls hW hl h
    cases (show none = some r from h)
  | succ n ih =>
    intro X x2 H locs ls hW hl h
    rw [f_X10_flip_106] at h
    refine lv_iload_n hx hb dX10_flip_106 rfl (lv_at hl 2 rfl) ?_
    refine lv_bipush (v := 9) hx hb dX10_flip_107 (by decide) ?_
    refine r_br h (lv_icmp_ge (tgt := 130) hx hb dX10_flip_109 (by decide)) (fun h => ?_) (fun h => ?_)
    · refine lv_iinc (v := (x1 + 1)) (lv' := [(1, .int (x1 + 1)), (0, .ref a), (2, .int x2)]) hx hb dX10_flip_130 hl (k := 1) rfl rfl (by decide) rfl (fun ls hl => ?_)
      refine lv_goto (tgt := 98) hx hb dX10_flip_133 (by decide) ?_
      exact hk98 hW (lv_sub hl [1, 0] rfl) h
    · refine lv_aload_n hx hb dX10_flip_112 rfl (lv_at hl 0 rfl) ?_
      refine lv_iconst (v := 5) hx hb dX10_flip_113 (by decide) ?_
      refine lv_iload_n hx hb dX10_flip_114 rfl (lv_at hl 1 rfl) ?_
      refine lv_iload_n hx hb dX10_flip_115 rfl (lv_at hl 2 rfl) ?_
      refine lv_iload_n hx hb dX10_flip_116 rfl (lv_at hl 1 rfl) ?_
      refine lv_iload_n hx hb dX10_flip_117 rfl (lv_at hl 2 rfl) ?_
      refine r_cI hW (run_S (rest := [.int x1, .int x2, .int x1, .int 5, .ref a]) C hW (t_X10_flipped (X := X)) mk_X10_flipped sk_X10_390 ⟨Nat.le_of_ble_eq_true rfl, Nat.le_of_ble_eq_true rfl⟩ ⟨Nat.zero_le _, Nat.zero_le _⟩ rfl rfl (Nat.le_of_ble_eq_true rfl) hl.1 dX10_flip_118) (fun H locs hW => ?_)
      obtain ⟨X2, h1, h⟩ := bnd_inv h
      refine r_cV hW (run_V (rest := []) C hW (t_X10_flipsChoice h1) mk_X10_flipsChoice vk_X10_396 (kd_X10_flipsChoice h1) rfl rfl (by decide) ⟨Nat.le_of_ble_eq_true rfl, Nat.le_of_ble_eq_true rfl⟩ ⟨Nat.zero_le _, Nat.zero_le _⟩ rfl rfl (Nat.le_of_ble_eq_true rfl) hl.1 dX10_flip_121) (fun H locs hW => ?_)
      refine lv_iinc (v := (x2 + 1)) (lv' := [(2, .int (x2 + 1)), (0, .ref a), (1, .int x1)]) hx hb dX10_flip_124 hl (k := 2) rfl rfl (by decide) rfl (fun ls hl => ?_)
      refine lv_goto (tgt := 106) hx hb dX10_flip_127 (by decide) ?_
      exact ih hW (lv_sub hl [1, 2, 0] rfl) h
set_option maxRecDepth 20000 in
set_option maxHeartbeats 2000000 in
theorem b_X10_flip_98 {a : Nat} (C : Cx g RX10 cX10_flip 3 none p s m args meth c) {r : Mx} : ∀ (n : Nat) {X : Mx} {x1 : Int32} {H : Heap} {locs : List Loc} {ls : Array Slot} (hW : Wd g σ X s H locs) (hl : lv_has ls 3 [(0, .ref a), (1, .int x1)]) (h : f_X10_flip_98 σ a n X x1 = some r), W p l e (rmZ 3 71) s m args below meth c H locs 0 0 (QV g σ below args s r) (F0 m 98 ls []) := by
  have hx := C.x
  have hb := C.b
  intro n
  induction n with
  | zero =>
    intro X x1 H locs ls hW hl h
    cases (show none = some r from h)
  | succ n ih =>
    intro X x1 H locs ls hW hl h
    rw [f_X10_flip_98] at h
    refine lv_iload_n hx hb dX10_flip_98 rfl (lv_at hl 1 rfl) ?_
    refine lv_bipush (v := 20) hx hb dX10_flip_99 (by decide) ?_
    refine r_br h (lv_icmp_ge (tgt := 136) hx hb dX10_flip_101 (by decide)) (fun h => ?_) (fun h => ?_)
    · exact r_vret C hW (Option.some.inj h).symm dX10_flip_136
    · refine lv_iconst (v := 0) hx hb dX10_flip_104 (by decide) ?_
      refine lv_istore_n (lv' := [(2, .int 0), (0, .ref a), (1, .int x1)]) hx hb dX10_flip_105 rfl hl (by decide) rfl (fun ls hl => ?_)
      exact b_X10_flip_106 C (fun hW hl h => ih hW hl h) FU hW (lv_sub hl [1, 2, 0] rfl) h
set_option maxRecDepth 20000 in
set_option maxHeartbeats 2000000 in
theorem b_X10_flip_59 {a : Nat} (C : Cx g RX10 cX10_flip 3 none p s m args meth c) {r : Mx} : ∀ (n : Nat) {X : Mx} {x1 : Int32} {H : Heap} {locs : List Loc} {ls : Array Slot} (hW : Wd g σ X s H locs) (hl : lv_has ls 3 [(0, .ref a), (1, .int x1)]) (h : f_X10_flip_59 σ a n X x1 = some r), W p l e (rmZ 3 71) s m args below meth c H locs 0 0 (QV g σ below args s r) (F0 m 59 ls []) := by
  have hx := C.x
  have hb := C.b
  intro n
  induction n with
  | zero =>
    intro X x1 H locs ls hW hl h
    cases (show none = some r from h)
  | succ n ih =>
    intro X x1 H locs ls hW hl h
    rw [f_X10_flip_59] at h
    refine lv_iload_n hx hb dX10_flip_59 rfl (lv_at hl 1 rfl) ?_
    refine lv_iconst (v := 4) hx hb dX10_flip_60 (by decide) ?_
    refine r_br h (lv_icmp_ge (tgt := 96) hx hb dX10_flip_61 (by decide)) (fun h => ?_) (fun h => ?_)
    · refine lv_iconst (v := 0) hx hb dX10_flip_96 (by decide) ?_
      refine lv_istore_n (lv' := [(1, .int 0), (0, .ref a)]) hx hb dX10_flip_97 rfl hl (by decide) rfl (fun ls hl => ?_)
      exact b_X10_flip_98 C FU hW (lv_sub hl [1, 0] rfl) h
    · refine lv_iconst (v := 0) hx hb dX10_flip_64 (by decide) ?_
      refine lv_istore_n (lv' := [(2, .int 0), (0, .ref a), (1, .int x1)]) hx hb dX10_flip_65 rfl hl (by decide) rfl (fun ls hl => ?_)
      exact b_X10_flip_66 C (fun hW hl h => ih hW hl h) FU hW (lv_sub hl [1, 2, 0] rfl) h
theorem kd_X10_flip {X : Mx} {r : Mx} {a : Nat} (h : f_X10_flip σ X a = some r) : shK σ a = 8 := (grd_inv h).1
set_option maxRecDepth 20000 in
set_option maxHeartbeats 2000000 in
theorem t_X10_flip {X : Mx} {r : Mx} {a : Nat} (h : f_X10_flip σ X a = some r) : MtV g l yX10_flip cX10_flip 3 none 3 71 [.ref a] σ X r := by
  refine met_of mk_X10_flip (Nat.le_of_ble_eq_true rfl) (fun p e s m args below meth c ls C hW hl => ?_)
  have hx := C.x
  have hb := C.b
  have hl : lv_has ls 3 [(0, .ref a)] := hl
  unfold f_X10_flip at h
  obtain ⟨hk0, h⟩ := grd_inv h
  refine lv_aload_n hx hb dX10_flip_0 rfl (lv_at hl 0 rfl) ?_
  refine lv_iconst (v := 0) hx hb dX10_flip_1 (by decide) ?_
  refine r_pI C hW h pf_X10_65 (by decide) rfl rfl dX10_flip_2 (fun X1 H locs h hW => ?_)
  refine lv_aload_n hx hb dX10_flip_5 rfl (lv_at hl 0 rfl) ?_
  obtain ⟨X3, h2, h⟩ := bnd_inv h
  refine r_cV hW (run_V (rest := []) C hW (t_X10_keeps h2) mk_X10_keeps vk_X10_273 (kd_X10_keeps h2) rfl rfl (by decide) ⟨Nat.le_of_ble_eq_true rfl, Nat.le_of_ble_eq_true rfl⟩ ⟨Nat.zero_le _, Nat.zero_le _⟩ rfl rfl (Nat.le_of_ble_eq_true rfl) hl.1 dX10_flip_6) (fun H locs hW => ?_)
  refine lv_aload_n hx hb dX10_flip_9 rfl (lv_at hl 0 rfl) ?_
  obtain ⟨X5, h4, h⟩ := bnd_inv h
  refine r_cV hW (run_V (rest := []) C hW (t_X10_tries h4) mk_X10_tries vk_X10_267 (kd_X10_tries h4) rfl rfl (by decide) ⟨Nat.le_of_ble_eq_true rfl, Nat.le_of_ble_eq_true rfl⟩ ⟨Nat.zero_le _, Nat.zero_le _⟩ rfl rfl (Nat.le_of_ble_eq_true rfl) hl.1 dX10_flip_10) (fun H locs hW => ?_)
  refine lv_aload_n hx hb dX10_flip_13 rfl (lv_at hl 0 rfl) ?_
  refine lv_iconst (v := 0) hx hb dX10_flip_14 (by decide) ?_
  refine lv_iconst (v := 1) hx hb dX10_flip_15 (by decide) ?_
  obtain ⟨X7, h6, h⟩ := bnd_inv h
  refine r_cV hW (run_V (rest := []) C hW (t_X10_flipsTable h6) mk_X10_flipsTable vk_X10_393 (kd_X10_flipsTable h6) rfl rfl (by decide) ⟨Nat.le_of_ble_eq_true rfl, Nat.le_of_ble_eq_true rfl⟩ ⟨Nat.zero_le _, Nat.zero_le _⟩ rfl rfl (Nat.le_of_ble_eq_true rfl) hl.1 dX10_flip_16) (fun H locs hW => ?_)
  refine lv_aload_n hx hb dX10_flip_19 rfl (lv_at hl 0 rfl) ?_
  refine lv_iconst (v := 1) hx hb dX10_flip_20 (by decide) ?_
  refine lv_iconst (v := 0) hx hb dX10_flip_21 (by decide) ?_
  obtain ⟨X9, h8, h⟩ := bnd_inv h
  refine r_cV hW (run_V (rest := []) C hW (t_X10_flipsTable h8) mk_X10_flipsTable vk_X10_393 (kd_X10_flipsTable h8) rfl rfl (by decide) ⟨Nat.le_of_ble_eq_true rfl, Nat.le_of_ble_eq_true rfl⟩ ⟨Nat.zero_le _, Nat.zero_le _⟩ rfl rfl (Nat.le_of_ble_eq_true rfl) hl.1 dX10_flip_22) (fun H locs hW => ?_)
  refine lv_aload_n hx hb dX10_flip_25 rfl (lv_at hl 0 rfl) ?_
  refine r_gR C hW h fl_X10_20 (by decide) dX10_flip_26 (fun b10 h => ?_)
  refine lv_sipush (v := 613) hx hb dX10_flip_29 (by decide) ?_
  refine lv_aload_n hx hb dX10_flip_32 rfl (lv_at hl 0 rfl) ?_
  refine r_gR C hW h fl_X10_20 (by decide) dX10_flip_33 (fun b11 h => ?_)
  refine lv_sipush (v := 1545) hx hb dX10_flip_36 (by decide) ?_
  refine r_iald C hW h dX10_flip_39 (fun v12 h => ?_)
  refine r_iast C hW h dX10_flip_40 (fun X13 H locs h hW => ?_)
  refine lv_aload_n hx hb dX10_flip_41 rfl (lv_at hl 0 rfl) ?_
  refine r_gR C hW h fl_X10_20 (by decide) dX10_flip_42 (fun b14 h => ?_)
  refine lv_sipush (v := 614) hx hb dX10_flip_45 (by decide) ?_
  refine lv_aload_n hx hb dX10_flip_48 rfl (lv_at hl 0 rfl) ?_
  refine r_gR C hW h fl_X10_20 (by decide) dX10_flip_49 (fun b15 h => ?_)
  refine lv_sipush (v := 1544) hx hb dX10_flip_52 (by decide) ?_
  refine r_iald C hW h dX10_flip_55 (fun v16 h => ?_)
  refine r_iast C hW h dX10_flip_56 (fun X17 H locs h hW => ?_)
  refine lv_iconst (v := 0) hx hb dX10_flip_57 (by decide) ?_
  refine lv_istore_n (lv' := [(1, .int 0), (0, .ref a)]) hx hb dX10_flip_58 rfl hl (by decide) rfl (fun ls hl => ?_)
  exact b_X10_flip_59 C FU hW (lv_sub hl [1, 0] rfl) h
set_option maxRecDepth 20000 in
set_option maxHeartbeats 2000000 in
theorem b_X10_commitsTable_162 {k29 : Mx → Int32 → Int32 → Option Mx} {a : Nat} {x1 : Int32} {x2 : Int32} {x3 : Int32} (C : Cx g RX10 cX10_commitsTable 5 none p s m args meth c) {r : Mx} {X : Mx} (hk29 : ∀ {H' : Heap} {locs' : List Loc} {ls' : Array Slot} {X' : Mx} {x2' : Int32} {x3' : Int32}, Wd g σ X' s H' locs' → lv_has ls' 5 [(0, .ref a), (1, .int x1), (2, .int x2'), (3, .int x3')] → k29 X' x2' x3' = some r → W p l e (rmZ 1 23) s m args below meth c H' locs' 0 0 (QV g σ below args s r) (F0 m 29 ls' [])) (hW : Wd g σ X s H locs) (hl : lv_has ls 5 [(0, .ref a), (1, .int x1), (2, .int x2), (3, .int x3)]) (h : f_X10_commitsTable_162 k29 σ a x1 x2 x3 X = some r) : W p l e (rmZ 1 23) s m args below meth c H locs 0 0 (QV g σ below args s r) (F0 m 162 ls []) := by
  have hx := C.x
  have hb := C.b
  unfold f_X10_commitsTable_162 at h
  refine lv_iinc (v := (x3 + 1)) (lv' := [(3, .int (x3 + 1)), (0, .ref a), (1, .int x1), (2, .int x2)]) hx hb dX10_commitsTable_162 hl (k := 3) rfl rfl (by decide) rfl (fun ls hl => ?_)
  refine lv_goto (tgt := 29) hx hb dX10_commitsTable_165 (by decide) ?_
  exact hk29 hW (lv_sub hl [1, 2, 3, 0] rfl) h
set_option maxRecDepth 20000 in
set_option maxHeartbeats 2000000 in
theorem b_X10_commitsTable_153 {k29 : Mx → Int32 → Int32 → Option Mx} {k113 : Mx → Int32 → Option Mx} {a : Nat} {x1 : Int32} {x2 : Int32} {x3 : Int32} {x4 : Int32} (C : Cx g RX10 cX10_commitsTable 5 none p s m args meth c) {r : Mx} {X : Mx} (hk29 : ∀ {H' : Heap} {locs' : List Loc} {ls' : Array Slot} {X' : Mx} {x2' : Int32} {x3' : Int32}, Wd g σ X' s H' locs' → lv_has ls' 5 [(0, .ref a), (1, .int x1), (2, .int x2'), (3, .int x3')] → k29 X' x2' x3' = some r → W p l e (rmZ 1 23) s m args below meth c H' locs' 0 0 (QV g σ below args s r) (F0 m 29 ls' [])) (hk113 : ∀ {H' : Heap} {locs' : List Loc} {ls' : Array Slot} {X' : Mx} {x4' : Int32}, Wd g σ X' s H' locs' → lv_has ls' 5 [(0, .ref a), (1, .int x1), (2, .int x2), (3, .int x3), (4, .int x4')] → k113 X' x4' = some r → W p l e (rmZ 1 23) s m args below meth c H' locs' 0 0 (QV g σ below args s r) (F0 m 113 ls' [])) (hW : Wd g σ X s H locs) (hl : lv_has ls 5 [(0, .ref a), (1, .int x1), (2, .int x2), (3, .int x3), (4, .int x4)]) (h : f_X10_commitsTable_153 k29 k113 σ a x1 x2 x3 x4 X = some r) : W p l e (rmZ 1 23) s m args below meth c H locs 0 0 (QV g σ below args s r) (F0 m 153 ls []) := by
  have hx := C.x
  have hb := C.b
  unfold f_X10_commitsTable_153 at h
  refine lv_iinc (v := (x4 + 1)) (lv' := [(4, .int (x4 + 1)), (0, .ref a), (1, .int x1), (2, .int x2), (3, .int x3)]) hx hb dX10_commitsTable_153 hl (k := 4) rfl rfl (by decide) rfl (fun ls hl => ?_)
  refine lv_goto (tgt := 113) hx hb dX10_commitsTable_156 (by decide) ?_
  exact hk113 hW (lv_sub hl [1, 2, 3, 4, 0] rfl) h
set_option maxRecDepth 20000 in
set_option maxHeartbeats 2000000 in
theorem b_X10_commitsTable_113 {k29 : Mx → Int32 → Int32 → Option Mx} {a : Nat} {x1 : Int32} {x2 : Int32} {x3 : Int32} (C : Cx g RX10 cX10_commitsTable 5 none p s m args meth c) {r : Mx} (hk29 : ∀ {H' : Heap} {locs' : List Loc} {ls' : Array Slot} {X' : Mx} {x2' : Int32} {x3' : Int32}, Wd g σ X' s H' locs' → lv_has ls' 5 [(0, .ref a), (1, .int x1), (2, .int x2'), (3, .int x3')] → k29 X' x2' x3' = some r → W p l e (rmZ 1 23) s m args below meth c H' locs' 0 0 (QV g σ below args s r) (F0 m 29 ls' [])) : ∀ (n : Nat) {X : Mx} {x4 : Int32} {H : Heap} {locs : List Loc} {ls : Array Slot} (hW : Wd g σ X s H locs) (hl : lv_has ls 5 [(0, .ref a), (1, .int x1), (2, .int x2), (3, .int x3), (4, .int x4)]) (h : f_X10_commitsTable_113 k29 σ a x1 x2 x3 n X x4 = some r), W p l e (rmZ 1 23) s m args below meth c H locs 0 0 (QV g σ below args s r) (F0 m 113 ls []) := by
  have hx := C.x
  have hb := C.b
  intro n
  induction n with
  | zero =>
    intro X x4 H locs ls hW hl h
    cases (show none = some r from h)
  | succ n ih =>
    intro X x4 H locs ls hW hl h
    rw [f_X10_commitsTable_113] at h
    refine lv_iload hx hb dX10_commitsTable_113 (lv_at hl 4 rfl) ?_
    refine lv_bipush (v := 20) hx hb dX10_commitsTable_115 (by decide) ?_
    refine r_br h (lv_icmp_ge (tgt := 159) hx hb dX10_commitsTable_117 (by decide)) (fun h => ?_) (fun h => ?_)
    · refine lv_iinc (v := (x2 + 1)) (lv' := [(2, .int (x2 + 1)), (0, .ref a), (1, .int x1), (3, .int x3), (4, .int x4)]) hx hb dX10_commitsTable_159 hl (k := 2) rfl rfl (by decide) rfl (fun ls hl => ?_)
      exact b_X10_commitsTable_162 C hk29 hW (lv_sub hl [1, 2, 0, 3] rfl) h
    · refine lv_aload_n hx hb dX10_commitsTable_120 rfl (lv_at hl 0 rfl) ?_
      refine r_gI C hW h fl_X10_323 (by decide) dX10_commitsTable_121 (fun v1 h => ?_)
      refine lv_iload hx hb dX10_commitsTable_124 (lv_at hl 4 rfl) ?_
      refine lv_ishr hx hb dX10_commitsTable_126 ?_
      refine lv_iconst (v := 1) hx hb dX10_commitsTable_127 (by decide) ?_
      refine lv_iand hx hb dX10_commitsTable_128 ?_
      refine lv_iconst (v := 1) hx hb dX10_commitsTable_129 (by decide) ?_
      refine r_brn h (lv_icmp_ne (tgt := 153) hx hb dX10_commitsTable_130 (by decide)) (fun h => ?_) (fun h => ?_)
      · exact b_X10_commitsTable_153 C hk29 (fun hW hl h => ih hW hl h) hW (lv_sub hl [0, 1, 2, 3, 4] rfl) h
      · refine lv_aload_n hx hb dX10_commitsTable_133 rfl (lv_at hl 0 rfl) ?_
        refine r_gR C hW h fl_X10_20 (by decide) dX10_commitsTable_134 (fun b2 h => ?_)
        refine lv_iconst (v := 0) hx hb dX10_commitsTable_137 (by decide) ?_
        refine lv_iconst (v := 2) hx hb dX10_commitsTable_138 (by decide) ?_
        refine lv_iload hx hb dX10_commitsTable_139 (lv_at hl 4 rfl) ?_
        refine lv_iload_n hx hb dX10_commitsTable_141 rfl (lv_at hl 2 rfl) ?_
        refine r_cI hW (run_S (rest := [.ref b2]) C hW (t_X10_cellAt (X := X)) mk_X10_cellAt sk_X10_174 ⟨Nat.le_of_ble_eq_true rfl, Nat.le_of_ble_eq_true rfl⟩ ⟨Nat.zero_le _, Nat.zero_le _⟩ rfl rfl (Nat.le_of_ble_eq_true rfl) hl.1 dX10_commitsTable_142) (fun H locs hW => ?_)
        refine lv_aload_n hx hb dX10_commitsTable_145 rfl (lv_at hl 0 rfl) ?_
        refine lv_iload hx hb dX10_commitsTable_146 (lv_at hl 4 rfl) ?_
        refine lv_iload_n hx hb dX10_commitsTable_148 rfl (lv_at hl 3 rfl) ?_
        obtain ⟨v4, h3, h⟩ := bnd_inv h
        refine r_cI hW (run_V (rest := [.int (f_X10_cellAt 0 2 x4 x2), .ref b2]) C hW (t_X10_mergedAt h3) mk_X10_mergedAt vk_X10_326 (kd_X10_mergedAt h3) rfl rfl (by decide) ⟨Nat.le_of_ble_eq_true rfl, Nat.le_of_ble_eq_true rfl⟩ ⟨Nat.zero_le _, Nat.zero_le _⟩ rfl rfl (Nat.le_of_ble_eq_true rfl) hl.1 dX10_commitsTable_149) (fun H locs hW => ?_)
        refine r_iast C hW h dX10_commitsTable_152 (fun X5 H locs h hW => ?_)
        exact b_X10_commitsTable_153 C hk29 (fun hW hl h => ih hW hl h) hW (lv_sub hl [0, 1, 2, 3, 4] rfl) h
set_option maxRecDepth 20000 in
set_option maxHeartbeats 2000000 in
theorem b_X10_commitsTable_29 {a : Nat} {x1 : Int32} (C : Cx g RX10 cX10_commitsTable 5 none p s m args meth c) {r : Mx} : ∀ (n : Nat) {X : Mx} {x2 : Int32} {x3 : Int32} {H : Heap} {locs : List Loc} {ls : Array Slot} (hW : Wd g σ X s H locs) (hl : lv_has ls 5 [(0, .ref a), (1, .int x1), (2, .int x2), (3, .int x3)]) (h : f_X10_commitsTable_29 σ a x1 n X x2 x3 = some r), W p l e (rmZ 1 23) s m args below meth c H locs 0 0 (QV g σ below args s r) (F0 m 29 ls []) := by
  have hx := C.x
  have hb := C.b
  intro n
  induction n with
  | zero =>
    intro X x2 x3 H locs ls hW hl h
    cases (show none = some r from h)
  | succ n ih =>
    intro X x2 x3 H locs ls hW hl h
    rw [f_X10_commitsTable_29] at h
    refine lv_iload_n hx hb dX10_commitsTable_29 rfl (lv_at hl 3 rfl) ?_
    refine lv_bipush (v := 9) hx hb dX10_commitsTable_30 (by decide) ?_
    refine r_br h (lv_icmp_ge (tgt := 168) hx hb dX10_commitsTable_32 (by decide)) (fun h => ?_) (fun h => ?_)
    · exact r_vret C hW (Option.some.inj h).symm dX10_commitsTable_168
    · refine lv_aload_n hx hb dX10_commitsTable_35 rfl (lv_at hl 0 rfl) ?_
      refine r_gR C hW h fl_X10_47 (by decide) dX10_commitsTable_36 (fun b1 h => ?_)
      refine lv_iload_n hx hb dX10_commitsTable_39 rfl (lv_at hl 3 rfl) ?_
      refine lv_iconst (v := (-1)) hx hb dX10_commitsTable_40 (by decide) ?_
      refine r_iast C hW h dX10_commitsTable_41 (fun X2 H locs h hW => ?_)
      refine lv_aload_n hx hb dX10_commitsTable_42 rfl (lv_at hl 0 rfl) ?_
      refine r_gI C hW h fl_X10_291 (by decide) dX10_commitsTable_43 (fun v3 h => ?_)
      refine lv_iload_n hx hb dX10_commitsTable_46 rfl (lv_at hl 3 rfl) ?_
      refine lv_ishr hx hb dX10_commitsTable_47 ?_
      refine lv_iconst (v := 1) hx hb dX10_commitsTable_48 (by decide) ?_
      refine lv_iand hx hb dX10_commitsTable_49 ?_
      refine r_brn h (lv_if_ne (tgt := 56) hx hb dX10_commitsTable_50 (by decide)) (fun h => ?_) (fun h => ?_)
      · refine lv_aload_n hx hb dX10_commitsTable_56 rfl (lv_at hl 0 rfl) ?_
        refine r_gR C hW h fl_X10_47 (by decide) dX10_commitsTable_57 (fun b4 h => ?_)
        refine lv_iload_n hx hb dX10_commitsTable_60 rfl (lv_at hl 3 rfl) ?_
        refine lv_iload_n hx hb dX10_commitsTable_61 rfl (lv_at hl 2 rfl) ?_
        refine r_iast C hW h dX10_commitsTable_62 (fun X5 H locs h hW => ?_)
        refine lv_aload_n hx hb dX10_commitsTable_63 rfl (lv_at hl 0 rfl) ?_
        refine r_gR C hW h fl_X10_20 (by decide) dX10_commitsTable_64 (fun b6 h => ?_)
        refine lv_iload_n hx hb dX10_commitsTable_67 rfl (lv_at hl 1 rfl) ?_
        refine lv_iconst (v := 0) hx hb dX10_commitsTable_68 (by decide) ?_
        refine lv_iadd hx hb dX10_commitsTable_69 ?_
        refine lv_dup2_11 hx hb dX10_commitsTable_70 rfl rfl ?_
        refine r_iald C hW h dX10_commitsTable_71 (fun v7 h => ?_)
        refine lv_iconst (v := 1) hx hb dX10_commitsTable_72 (by decide) ?_
        refine lv_iload_n hx hb dX10_commitsTable_73 rfl (lv_at hl 2 rfl) ?_
        refine lv_ishl hx hb dX10_commitsTable_74 ?_
        refine lv_ior hx hb dX10_commitsTable_75 ?_
        refine r_iast C hW h dX10_commitsTable_76 (fun X8 H locs h hW => ?_)
        refine lv_aload_n hx hb dX10_commitsTable_77 rfl (lv_at hl 0 rfl) ?_
        refine r_gR C hW h fl_X10_20 (by decide) dX10_commitsTable_78 (fun b9 h => ?_)
        refine lv_iload_n hx hb dX10_commitsTable_81 rfl (lv_at hl 1 rfl) ?_
        refine lv_iconst (v := 2) hx hb dX10_commitsTable_82 (by decide) ?_
        refine lv_iadd hx hb dX10_commitsTable_83 ?_
        refine lv_iload_n hx hb dX10_commitsTable_84 rfl (lv_at hl 2 rfl) ?_
        refine lv_iadd hx hb dX10_commitsTable_85 ?_
        refine lv_aload_n hx hb dX10_commitsTable_86 rfl (lv_at hl 0 rfl) ?_
        refine r_gR C hW h fl_X10_26 (by decide) dX10_commitsTable_87 (fun b10 h => ?_)
        refine lv_iload_n hx hb dX10_commitsTable_90 rfl (lv_at hl 3 rfl) ?_
        refine r_iald C hW h dX10_commitsTable_91 (fun v11 h => ?_)
        refine r_iast C hW h dX10_commitsTable_92 (fun X12 H locs h hW => ?_)
        refine lv_aload_n hx hb dX10_commitsTable_93 rfl (lv_at hl 0 rfl) ?_
        refine r_gR C hW h fl_X10_20 (by decide) dX10_commitsTable_94 (fun b13 h => ?_)
        refine lv_iload_n hx hb dX10_commitsTable_97 rfl (lv_at hl 1 rfl) ?_
        refine lv_bipush (v := 11) hx hb dX10_commitsTable_98 (by decide) ?_
        refine lv_iadd hx hb dX10_commitsTable_100 ?_
        refine lv_iload_n hx hb dX10_commitsTable_101 rfl (lv_at hl 2 rfl) ?_
        refine lv_iadd hx hb dX10_commitsTable_102 ?_
        refine lv_aload_n hx hb dX10_commitsTable_103 rfl (lv_at hl 0 rfl) ?_
        refine r_gR C hW h fl_X10_29 (by decide) dX10_commitsTable_104 (fun b14 h => ?_)
        refine lv_iload_n hx hb dX10_commitsTable_107 rfl (lv_at hl 3 rfl) ?_
        refine r_iald C hW h dX10_commitsTable_108 (fun v15 h => ?_)
        refine r_iast C hW h dX10_commitsTable_109 (fun X16 H locs h hW => ?_)
        refine lv_iconst (v := 0) hx hb dX10_commitsTable_110 (by decide) ?_
        refine lv_istore (lv' := [(4, .int 0), (0, .ref a), (1, .int x1), (2, .int x2), (3, .int x3)]) hx hb dX10_commitsTable_111 hl (by decide) rfl (fun ls hl => ?_)
        exact b_X10_commitsTable_113 C (fun hW hl h => ih hW hl h) FU hW (lv_sub hl [1, 2, 3, 4, 0] rfl) h
      · refine lv_goto (tgt := 162) hx hb dX10_commitsTable_53 (by decide) ?_
        exact b_X10_commitsTable_162 C (fun hW hl h => ih hW hl h) hW (lv_sub hl [0, 1, 2, 3] rfl) h
theorem kd_X10_commitsTable {X : Mx} {r : Mx} {a : Nat} (h : f_X10_commitsTable σ X a = some r) : shK σ a = 8 := (grd_inv h).1
set_option maxRecDepth 20000 in
set_option maxHeartbeats 2000000 in
theorem t_X10_commitsTable {X : Mx} {r : Mx} {a : Nat} (h : f_X10_commitsTable σ X a = some r) : MtV g l yX10_commitsTable cX10_commitsTable 5 none 1 23 [.ref a] σ X r := by
  refine met_of mk_X10_commitsTable (Nat.le_of_ble_eq_true rfl) (fun p e s m args below meth c ls C hW hl => ?_)
  have hx := C.x
  have hb := C.b
  have hl : lv_has ls 5 [(0, .ref a)] := hl
  unfold f_X10_commitsTable at h
  obtain ⟨hk0, h⟩ := grd_inv h
  refine lv_sipush (v := 400) hx hb dX10_commitsTable_0 (by decide) ?_
  refine lv_istore_n (lv' := [(1, .int 400), (0, .ref a)]) hx hb dX10_commitsTable_3 rfl hl (by decide) rfl (fun ls hl => ?_)
  refine lv_iconst (v := 0) hx hb dX10_commitsTable_4 (by decide) ?_
  refine lv_istore_n (lv' := [(2, .int 0), (1, .int 400), (0, .ref a)]) hx hb dX10_commitsTable_5 rfl hl (by decide) rfl (fun ls hl => ?_)
  refine lv_aload_n hx hb dX10_commitsTable_6 rfl (lv_at hl 2 rfl) ?_
  refine r_gR C hW h fl_X10_20 (by decide) dX10_commitsTable_7 (fun b1 h => ?_)
  refine lv_iload_n hx hb dX10_commitsTable_10 rfl (lv_at hl 1 rfl) ?_
  refine lv_iconst (v := 0) hx hb dX10_commitsTable_11 (by decide) ?_
  refine lv_iadd hx hb dX10_commitsTable_12 ?_
  refine lv_iconst (v := 0) hx hb dX10_commitsTable_13 (by decide) ?_
  refine r_iast C hW h dX10_commitsTable_14 (fun X2 H locs h hW => ?_)
  refine lv_aload_n hx hb dX10_commitsTable_15 rfl (lv_at hl 2 rfl) ?_
  refine r_gR C hW h fl_X10_20 (by decide) dX10_commitsTable_16 (fun b3 h => ?_)
  refine lv_iload_n hx hb dX10_commitsTable_19 rfl (lv_at hl 1 rfl) ?_
  refine lv_iconst (v := 1) hx hb dX10_commitsTable_20 (by decide) ?_
  refine lv_iadd hx hb dX10_commitsTable_21 ?_
  refine lv_aload_n hx hb dX10_commitsTable_22 rfl (lv_at hl 2 rfl) ?_
  refine r_gI C hW h fl_X10_323 (by decide) dX10_commitsTable_23 (fun v4 h => ?_)
  refine r_iast C hW h dX10_commitsTable_26 (fun X5 H locs h hW => ?_)
  refine lv_iconst (v := 0) hx hb dX10_commitsTable_27 (by decide) ?_
  refine lv_istore_n (lv' := [(3, .int 0), (2, .int 0), (1, .int 400), (0, .ref a)]) hx hb dX10_commitsTable_28 rfl hl (by decide) rfl (fun ls hl => ?_)
  exact b_X10_commitsTable_29 C FU hW (lv_sub hl [3, 2, 1, 0] rfl) h
set_option maxRecDepth 20000 in
set_option maxHeartbeats 2000000 in
theorem b_X10_commitsDemands_123 {k4 : Mx → Int32 → Int32 → Option Mx} {a : Nat} {x1 : Int32} {x2 : Int32} (C : Cx g RX10 cX10_commitsDemands 6 none p s m args meth c) {r : Mx} {X : Mx} (hk4 : ∀ {H' : Heap} {locs' : List Loc} {ls' : Array Slot} {X' : Mx} {x1' : Int32} {x2' : Int32}, Wd g σ X' s H' locs' → lv_has ls' 6 [(0, .ref a), (1, .int x1'), (2, .int x2')] → k4 X' x1' x2' = some r → W p l e (rmZ 0 0) s m args below meth c H' locs' 0 0 (QV g σ below args s r) (F0 m 4 ls' [])) (hW : Wd g σ X s H locs) (hl : lv_has ls 6 [(0, .ref a), (1, .int x1), (2, .int x2)]) (h : f_X10_commitsDemands_123 k4 σ a x1 x2 X = some r) : W p l e (rmZ 0 0) s m args below meth c H locs 0 0 (QV g σ below args s r) (F0 m 123 ls []) := by
  have hx := C.x
  have hb := C.b
  unfold f_X10_commitsDemands_123 at h
  refine lv_iinc (v := (x2 + 1)) (lv' := [(2, .int (x2 + 1)), (0, .ref a), (1, .int x1)]) hx hb dX10_commitsDemands_123 hl (k := 2) rfl rfl (by decide) rfl (fun ls hl => ?_)
  refine lv_goto (tgt := 4) hx hb dX10_commitsDemands_126 (by decide) ?_
  exact hk4 hW (lv_sub hl [1, 2, 0] rfl) h
set_option maxRecDepth 20000 in
set_option maxHeartbeats 2000000 in
theorem b_X10_commitsDemands_68 {k4 : Mx → Int32 → Int32 → Option Mx} {a : Nat} {x1 : Int32} {x2 : Int32} {x3 : Int32} {x4 : Int32} (C : Cx g RX10 cX10_commitsDemands 6 none p s m args meth c) {r : Mx} {X : Mx} {y0 : Int32} (hk4 : ∀ {H' : Heap} {locs' : List Loc} {ls' : Array Slot} {X' : Mx} {x1' : Int32} {x2' : Int32}, Wd g σ X' s H' locs' → lv_has ls' 6 [(0, .ref a), (1, .int x1'), (2, .int x2')] → k4 X' x1' x2' = some r → W p l e (rmZ 0 0) s m args below meth c H' locs' 0 0 (QV g σ below args s r) (F0 m 4 ls' [])) (hW : Wd g σ X s H locs) (hl : lv_has ls 6 [(0, .ref a), (1, .int x1), (2, .int x2), (3, .int x3), (4, .int x4)]) (h : f_X10_commitsDemands_68 k4 σ a x1 x2 x3 x4 X y0 = some r) : W p l e (rmZ 0 0) s m args below meth c H locs 0 0 (QV g σ below args s r) (F0 m 68 ls [.int y0]) := by
  have hx := C.x
  have hb := C.b
  unfold f_X10_commitsDemands_68 at h
  refine lv_istore (lv' := [(5, .int y0), (0, .ref a), (1, .int x1), (2, .int x2), (3, .int x3), (4, .int x4)]) hx hb dX10_commitsDemands_68 hl (by decide) rfl (fun ls hl => ?_)
  refine lv_iload hx hb dX10_commitsDemands_70 (lv_at hl 5 rfl) ?_
  refine lv_iconst (v := (-1)) hx hb dX10_commitsDemands_72 (by decide) ?_
  refine r_br h (lv_icmp_eq (tgt := 123) hx hb dX10_commitsDemands_73 (by decide)) (fun h => ?_) (fun h => ?_)
  · exact b_X10_commitsDemands_123 C hk4 hW (lv_sub hl [1, 2, 3] rfl) h
  · refine lv_iload hx hb dX10_commitsDemands_76 (lv_at hl 0 rfl) ?_
    refine lv_iconst (v := (-1)) hx hb dX10_commitsDemands_78 (by decide) ?_
    refine r_brn h (lv_icmp_ne (tgt := 85) hx hb dX10_commitsDemands_79 (by decide)) (fun h => ?_) (fun h => ?_)
    · refine lv_aload_n hx hb dX10_commitsDemands_85 rfl (lv_at hl 1 rfl) ?_
      refine r_gR C hW h fl_X10_20 (by decide) dX10_commitsDemands_86 (fun b1 h => ?_)
      refine lv_sipush (v := 601) hx hb dX10_commitsDemands_89 (by decide) ?_
      refine lv_iload_n hx hb dX10_commitsDemands_92 rfl (lv_at hl 2 rfl) ?_
      refine lv_iadd hx hb dX10_commitsDemands_93 ?_
      refine lv_iload_n hx hb dX10_commitsDemands_94 rfl (lv_at hl 4 rfl) ?_
      refine r_iast C hW h dX10_commitsDemands_95 (fun X2 H locs h hW => ?_)
      refine lv_aload_n hx hb dX10_commitsDemands_96 rfl (lv_at hl 1 rfl) ?_
      refine r_gR C hW h fl_X10_20 (by decide) dX10_commitsDemands_97 (fun b3 h => ?_)
      refine lv_sipush (v := 605) hx hb dX10_commitsDemands_100 (by decide) ?_
      refine lv_iload_n hx hb dX10_commitsDemands_103 rfl (lv_at hl 2 rfl) ?_
      refine lv_iadd hx hb dX10_commitsDemands_104 ?_
      refine lv_iload hx hb dX10_commitsDemands_105 (lv_at hl 5 rfl) ?_
      refine r_iast C hW h dX10_commitsDemands_107 (fun X4 H locs h hW => ?_)
      refine lv_aload_n hx hb dX10_commitsDemands_108 rfl (lv_at hl 1 rfl) ?_
      refine r_gR C hW h fl_X10_20 (by decide) dX10_commitsDemands_109 (fun b5 h => ?_)
      refine lv_sipush (v := 609) hx hb dX10_commitsDemands_112 (by decide) ?_
      refine lv_iload_n hx hb dX10_commitsDemands_115 rfl (lv_at hl 2 rfl) ?_
      refine lv_iadd hx hb dX10_commitsDemands_116 ?_
      refine lv_iload hx hb dX10_commitsDemands_117 (lv_at hl 0 rfl) ?_
      refine r_iast C hW h dX10_commitsDemands_119 (fun X6 H locs h hW => ?_)
      refine lv_iinc (v := (x1 + 1)) (lv' := [(1, .int (x1 + 1)), (5, .int y0), (0, .ref a), (2, .int x2), (3, .int x3), (4, .int x4)]) hx hb dX10_commitsDemands_120 hl (k := 2) rfl rfl (by decide) rfl (fun ls hl => ?_)
      exact b_X10_commitsDemands_123 C hk4 hW (lv_sub hl [2, 0, 3] rfl) h
    · refine lv_goto (tgt := 123) hx hb dX10_commitsDemands_82 (by decide) ?_
      exact b_X10_commitsDemands_123 C hk4 hW (lv_sub hl [1, 2, 3] rfl) h
set_option maxRecDepth 20000 in
set_option maxHeartbeats 2000000 in
theorem b_X10_commitsDemands_4 {a : Nat} (C : Cx g RX10 cX10_commitsDemands 6 none p s m args meth c) {r : Mx} : ∀ (n : Nat) {X : Mx} {x1 : Int32} {x2 : Int32} {H : Heap} {locs : List Loc} {ls : Array Slot} (hW : Wd g σ X s H locs) (hl : lv_has ls 6 [(0, .ref a), (1, .int x1), (2, .int x2)]) (h : f_X10_commitsDemands_4 σ a n X x1 x2 = some r), W p l e (rmZ 0 0) s m args below meth c H locs 0 0 (QV g σ below args s r) (F0 m 4 ls []) := by
  have hx := C.x
  have hb := C.b
  intro n
  induction n with
  | zero =>
    intro X x1 x2 H locs ls hW hl h
    cases (show none = some r from h)
  | succ n ih =>
    intro X x1 x2 H locs ls hW hl h
    rw [f_X10_commitsDemands_4] at h
    refine lv_iload_n hx hb dX10_commitsDemands_4 rfl (lv_at hl 2 rfl) ?_
    refine lv_aload_n hx hb dX10_commitsDemands_5 rfl (lv_at hl 0 rfl) ?_
    refine r_gR C hW h fl_X10_20 (by decide) dX10_commitsDemands_6 (fun b1 h => ?_)
    refine lv_sipush (v := 600) hx hb dX10_commitsDemands_9 (by decide) ?_
    refine r_iald C hW h dX10_commitsDemands_12 (fun v2 h => ?_)
    refine r_br h (lv_icmp_ge (tgt := 129) hx hb dX10_commitsDemands_13 (by decide)) (fun h => ?_) (fun h => ?_)
    · refine lv_aload_n hx hb dX10_commitsDemands_129 rfl (lv_at hl 0 rfl) ?_
      refine r_gR C hW h fl_X10_20 (by decide) dX10_commitsDemands_130 (fun b3 h => ?_)
      refine lv_sipush (v := 600) hx hb dX10_commitsDemands_133 (by decide) ?_
      refine lv_iload_n hx hb dX10_commitsDemands_136 rfl (lv_at hl 1 rfl) ?_
      refine r_iast C hW h dX10_commitsDemands_137 (fun X4 H locs h hW => ?_)
      exact r_vret C hW (Option.some.inj h).symm dX10_commitsDemands_138
    · refine lv_aload_n hx hb dX10_commitsDemands_16 rfl (lv_at hl 0 rfl) ?_
      refine r_gR C hW h fl_X10_20 (by decide) dX10_commitsDemands_17 (fun b5 h => ?_)
      refine lv_sipush (v := 601) hx hb dX10_commitsDemands_20 (by decide) ?_
      refine lv_iload_n hx hb dX10_commitsDemands_23 rfl (lv_at hl 2 rfl) ?_
      refine lv_iadd hx hb dX10_commitsDemands_24 ?_
      refine r_iald C hW h dX10_commitsDemands_25 (fun v6 h => ?_)
      refine lv_istore_n (lv' := [(3, .int v6), (0, .ref a), (1, .int x1), (2, .int x2)]) hx hb dX10_commitsDemands_26 rfl hl (by decide) rfl (fun ls hl => ?_)
      refine lv_aload_n hx hb dX10_commitsDemands_27 rfl (lv_at hl 1 rfl) ?_
      refine r_gR C hW h fl_X10_47 (by decide) dX10_commitsDemands_28 (fun b7 h => ?_)
      refine lv_aload_n hx hb dX10_commitsDemands_31 rfl (lv_at hl 1 rfl) ?_
      refine r_gR C hW h fl_X10_20 (by decide) dX10_commitsDemands_32 (fun b8 h => ?_)
      refine lv_sipush (v := 605) hx hb dX10_commitsDemands_35 (by decide) ?_
      refine lv_iload_n hx hb dX10_commitsDemands_38 rfl (lv_at hl 3 rfl) ?_
      refine lv_iadd hx hb dX10_commitsDemands_39 ?_
      refine r_iald C hW h dX10_commitsDemands_40 (fun v9 h => ?_)
      refine r_iald C hW h dX10_commitsDemands_41 (fun v10 h => ?_)
      refine lv_istore (lv' := [(4, .int v10), (3, .int v6), (0, .ref a), (1, .int x1), (2, .int x2)]) hx hb dX10_commitsDemands_42 hl (by decide) rfl (fun ls hl => ?_)
      refine lv_iload_n hx hb dX10_commitsDemands_44 rfl (lv_at hl 1 rfl) ?_
      refine lv_iconst (v := 2) hx hb dX10_commitsDemands_45 (by decide) ?_
      refine r_brn h (lv_icmp_ne (tgt := 67) hx hb dX10_commitsDemands_46 (by decide)) (fun h => ?_) (fun h => ?_)
      · refine lv_iconst (v := 0) hx hb dX10_commitsDemands_67 (by decide) ?_
        exact b_X10_commitsDemands_68 C (fun hW hl h => ih hW hl h) hW (lv_sub hl [2, 3, 4, 1, 0] rfl) h
      · refine lv_aload_n hx hb dX10_commitsDemands_49 rfl (lv_at hl 2 rfl) ?_
        refine r_gR C hW h fl_X10_47 (by decide) dX10_commitsDemands_50 (fun b11 h => ?_)
        refine lv_aload_n hx hb dX10_commitsDemands_53 rfl (lv_at hl 2 rfl) ?_
        refine r_gR C hW h fl_X10_20 (by decide) dX10_commitsDemands_54 (fun b12 h => ?_)
        refine lv_sipush (v := 609) hx hb dX10_commitsDemands_57 (by decide) ?_
        refine lv_iload_n hx hb dX10_commitsDemands_60 rfl (lv_at hl 4 rfl) ?_
        refine lv_iadd hx hb dX10_commitsDemands_61 ?_
        refine r_iald C hW h dX10_commitsDemands_62 (fun v13 h => ?_)
        refine r_iald C hW h dX10_commitsDemands_63 (fun v14 h => ?_)
        refine lv_goto (tgt := 68) hx hb dX10_commitsDemands_64 (by decide) ?_
        exact b_X10_commitsDemands_68 C (fun hW hl h => ih hW hl h) hW (lv_sub hl [2, 3, 4, 1, 0] rfl) h
theorem kd_X10_commitsDemands {X : Mx} {r : Mx} {a : Nat} (h : f_X10_commitsDemands σ X a = some r) : shK σ a = 8 := (grd_inv h).1
set_option maxRecDepth 20000 in
set_option maxHeartbeats 2000000 in
theorem t_X10_commitsDemands {X : Mx} {r : Mx} {a : Nat} (h : f_X10_commitsDemands σ X a = some r) : MtV g l yX10_commitsDemands cX10_commitsDemands 6 none 0 0 [.ref a] σ X r := by
  refine met_of mk_X10_commitsDemands (Nat.le_of_ble_eq_true rfl) (fun p e s m args below meth c ls C hW hl => ?_)
  have hx := C.x
  have hb := C.b
  have hl : lv_has ls 6 [(0, .ref a)] := hl
  unfold f_X10_commitsDemands at h
  obtain ⟨hk0, h⟩ := grd_inv h
  refine lv_iconst (v := 0) hx hb dX10_commitsDemands_0 (by decide) ?_
  refine lv_istore_n (lv' := [(1, .int 0), (0, .ref a)]) hx hb dX10_commitsDemands_1 rfl hl (by decide) rfl (fun ls hl => ?_)
  refine lv_iconst (v := 0) hx hb dX10_commitsDemands_2 (by decide) ?_
  refine lv_istore_n (lv' := [(2, .int 0), (1, .int 0), (0, .ref a)]) hx hb dX10_commitsDemands_3 rfl hl (by decide) rfl (fun ls hl => ?_)
  exact b_X10_commitsDemands_4 C FU hW (lv_sub hl [2, 1, 0] rfl) h
set_option maxRecDepth 20000 in
set_option maxHeartbeats 2000000 in
theorem b_X10_commit_40 {a : Nat} (C : Cx g RX10 cX10_commit 2 (some .int) p s m args meth c) {r : (Int32 × Mx)} {X : Mx} (hW : Wd g σ X s H locs) (hl : lv_has ls 2 [(0, .ref a)]) (h : f_X10_commit_40 σ a X = some r) : W p l e (rmZ 7 169) s m args below meth c H locs 0 0 (QI g σ below args s r) (F0 m 40 ls []) := by
  have hx := C.x
  have hb := C.b
  unfold f_X10_commit_40 at h
  refine lv_aload_n hx hb dX10_commit_40 rfl (lv_at hl 0 rfl) ?_
  refine lv_iconst (v := 1) hx hb dX10_commit_41 (by decide) ?_
  obtain ⟨v3, X2, h1, h⟩ := bnd2_inv h
  refine r_cI hW (run_V (rest := []) C hW (t_X10_refuses h1) mk_X10_refuses vk_X10_270 (kd_X10_refuses h1) rfl rfl (by decide) ⟨Nat.le_of_ble_eq_true rfl, Nat.le_of_ble_eq_true rfl⟩ ⟨Nat.zero_le _, Nat.zero_le _⟩ rfl rfl (Nat.le_of_ble_eq_true rfl) hl.1 dX10_commit_42) (fun H locs hW => ?_)
  exact r_iret C hW (Option.some.inj h).symm rfl dX10_commit_45
set_option maxRecDepth 20000 in
set_option maxHeartbeats 2000000 in
theorem b_X10_commit_83 {a : Nat} (C : Cx g RX10 cX10_commit 2 (some .int) p s m args meth c) {r : (Int32 × Mx)} : ∀ (n : Nat) {X : Mx} {x1 : Int32} {H : Heap} {locs : List Loc} {ls : Array Slot} (hW : Wd g σ X s H locs) (hl : lv_has ls 2 [(0, .ref a), (1, .int x1)]) (h : f_X10_commit_83 σ a n X x1 = some r), W p l e (rmZ 7 169) s m args below meth c H locs 0 0 (QI g σ below args s r) (F0 m 83 ls []) := by
  have hx := C.x
  have hb := C.b
  intro n
  induction n with
  | zero =>
    intro X x1 H locs ls hW hl h
    cases (show none = some r from h)
  | succ n ih =>
    intro X x1 H locs ls hW hl h
    rw [f_X10_commit_83] at h
    refine lv_iload_n hx hb dX10_commit_83 rfl (lv_at hl 1 rfl) ?_
    refine lv_sipush (v := 316) hx hb dX10_commit_84 (by decide) ?_
    refine r_br h (lv_icmp_ge (tgt := 107) hx hb dX10_commit_87 (by decide)) (fun h => ?_) (fun h => ?_)
    · refine lv_aload_n hx hb dX10_commit_107 rfl (lv_at hl 0 rfl) ?_
      refine r_gR C hW h fl_X10_20 (by decide) dX10_commit_108 (fun b1 h => ?_)
      refine lv_sipush (v := 401) hx hb dX10_commit_111 (by decide) ?_
      refine r_iald C hW h dX10_commit_114 (fun v2 h => ?_)
      obtain ⟨v4, h3, h⟩ := bnd_inv h
      refine r_cI hW (run_S (rest := []) C hW (t_X10_bits h3) mk_X10_bits sk_X10_240 ⟨Nat.le_of_ble_eq_true rfl, Nat.le_of_ble_eq_true rfl⟩ ⟨Nat.zero_le _, Nat.zero_le _⟩ rfl rfl (Nat.le_of_ble_eq_true rfl) hl.1 dX10_commit_115) (fun H locs hW => ?_)
      exact r_iret C hW (Option.some.inj h).symm rfl dX10_commit_118
    · refine lv_aload_n hx hb dX10_commit_90 rfl (lv_at hl 0 rfl) ?_
      refine r_gR C hW h fl_X10_20 (by decide) dX10_commit_91 (fun b5 h => ?_)
      refine lv_sipush (v := 615) hx hb dX10_commit_94 (by decide) ?_
      refine lv_iload_n hx hb dX10_commit_97 rfl (lv_at hl 1 rfl) ?_
      refine lv_iadd hx hb dX10_commit_98 ?_
      refine lv_iconst (v := (-1)) hx hb dX10_commit_99 (by decide) ?_
      refine r_iast C hW h dX10_commit_100 (fun X6 H locs h hW => ?_)
      refine lv_iinc (v := (x1 + 1)) (lv' := [(1, .int (x1 + 1)), (0, .ref a)]) hx hb dX10_commit_101 hl (k := 1) rfl rfl (by decide) rfl (fun ls hl => ?_)
      refine lv_goto (tgt := 83) hx hb dX10_commit_104 (by decide) ?_
      exact ih hW (lv_sub hl [1, 0] rfl) h
end
