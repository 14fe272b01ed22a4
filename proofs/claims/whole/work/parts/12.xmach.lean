section
variable {p : Program} {l : Launch} {e : Env} {s : State} {m : MethodId} {args : Array Value} {below : List Frame} {meth : Method} {c : Code} {g : Gp}
set_option maxRecDepth 20000 in
set_option maxHeartbeats 2000000 in
theorem t_X9_demandSide {σ : Sh} {X : Mx} {z : Nat} {r : Hr (Unit ⊕ Nat)} {x0 : Int32} (hst : l.stackTraces = false) (h : f_X9_demandSide σ X z x0 = some r) : HxV g l yX9_demandSide cX9_demandSide 1 none 6 90 [.int x0] σ X z r := by
  obtain ⟨v0, σ0, X0, mc, ms⟩ := r
  refine met_ofX mk_X9_demandSide (by decide +kernel) (Nat.le_of_ble_eq_true rfl) (fun p e s m args below meth c ls C hno hW hzz hl => ?_)
  have hx := C.x
  have hb := C.b
  have hl : lv_has ls 1 [(0, .int x0)] := hl
  have hz : z ≤ s.heap.size := Nat.le_of_eq hzz.symm
  have hc : s.heap.size + 0 = z := hzz
  have hzf : s.heap.size + mc = z + mc := by rw [hzz]
  have hm : 0 + mc = mc ∧ 0 + ms = ms := ⟨Nat.zero_add _, Nat.zero_add _⟩
  unfold f_X9_demandSide at h
  refine lv_iload_n hx hb dX9_demandSide_0 rfl (lv_at hl 0 rfl) ?_
  refine r_br h (lv_if_eq (tgt := 20) hx hb dX9_demandSide_1 (by decide)) (fun h => ?_) (fun h => ?_)
  · exact r_xvret C hzf hW hz hc hm h dX9_demandSide_20
  · refine lv_iload_n hx hb dX9_demandSide_4 rfl (lv_at hl 0 rfl) ?_
    refine lv_iconst (v := 1) hx hb dX9_demandSide_5 (by decide) ?_
    refine r_br h (lv_icmp_eq (tgt := 20) hx hb dX9_demandSide_6 (by decide)) (fun h => ?_) (fun h => ?_)
    · exact r_xvret C hzf hW hz hc hm h dX9_demandSide_20
    · exact r_throwSWN (text := "no such side") hst C hno hW hm h ⟨rfl, rfl, rfl⟩ (by decide) ⟨Nat.le_of_ble_eq_true rfl, Nat.le_of_ble_eq_true rfl⟩ hl.1 dX9_demandSide_9 dX9_demandSide_12 dX9_demandSide_13 dX9_demandSide_16 dX9_demandSide_19
theorem kd_X9_editByHand {σ : Sh} {X : Mx} {z : Nat} {r : Hr (Int32 ⊕ Nat)} {a : Nat} {x1 : Int32} {x2 : Int32} {x3 : Int32} {x4 : Int32} {x5 : Int32} (h : f_X9_editByHand σ X z a x1 x2 x3 x4 x5 = some r) : shK σ a = 7 := (grd_inv h).1
set_option maxRecDepth 20000 in
set_option maxHeartbeats 2000000 in
theorem t_X9_editByHand {σ : Sh} {X : Mx} {z : Nat} {r : Hr (Int32 ⊕ Nat)} {a : Nat} {x1 : Int32} {x2 : Int32} {x3 : Int32} {x4 : Int32} {x5 : Int32} (hst : l.stackTraces = false) (h : f_X9_editByHand σ X z a x1 x2 x3 x4 x5 = some r) : HxI g l yX9_editByHand cX9_editByHand 7 (some .int) 7 110 [.ref a, .int x1, .int x2, .int x3, .int x4, .int x5] σ X z r := by
  obtain ⟨v0, σ0, X0, mc, ms⟩ := r
  refine met_ofX mk_X9_editByHand (by decide +kernel) (Nat.le_of_ble_eq_true rfl) (fun p e s m args below meth c ls C hno hW hzz hl => ?_)
  have hx := C.x
  have hb := C.b
  have hl : lv_has ls 7 [(0, .ref a), (1, .int x1), (2, .int x2), (3, .int x3), (4, .int x4), (5, .int x5)] := hl
  have hz : z ≤ s.heap.size := Nat.le_of_eq hzz.symm
  have hc : s.heap.size + 0 = z := hzz
  have hzf : s.heap.size + mc = z + mc := by rw [hzz]
  have hm : 0 + mc = mc ∧ 0 + ms = ms := ⟨Nat.zero_add _, Nat.zero_add _⟩
  unfold f_X9_editByHand at h
  obtain ⟨hk0, h⟩ := grd_inv h
  refine lv_iload_n hx hb dX9_editByHand_0 rfl (lv_at hl 2 rfl) ?_
  obtain ⟨o9, h1, h⟩ := bndX_inv h
  refine c_XS_V (rest := []) C hno hW hz hc hm h (t_X9_demandSide hst h1) mk_X9_demandSide sk_X9_251 ⟨Nat.le_of_ble_eq_true rfl, Nat.le_of_ble_eq_true rfl⟩ rfl rfl (Nat.le_of_ble_eq_true rfl) hl.1 dX9_editByHand_1 (fun u1 σ1 X1 c1 d1 H locs cells slots cu du ho h hW hz hc hm => ?_)
  refine lv_aload_n hx hb dX9_editByHand_4 rfl (lv_at hl 0 rfl) ?_
  refine r_gR C hW h fl_X9_33 (by decide) dX9_editByHand_5 (fun b2 h => ?_)
  refine lv_aload_n hx hb dX9_editByHand_8 rfl (lv_at hl 0 rfl) ?_
  refine r_gR C hW h fl_X9_12 (by decide) dX9_editByHand_9 (fun b3 h => ?_)
  obtain ⟨u4, σ4, X4, c4, d4, cu9, du9, h4, h, hcu, hdu⟩ := bndH_inv h
  refine c_HV_V (rest := []) C hW hz hc hcu hdu hm (t_X0_prepare h4) mk_X0_prepare vk_X9_231 (kd_X0_prepare h4) rfl rfl (by decide) ⟨Nat.le_of_ble_eq_true rfl, Nat.le_of_ble_eq_true rfl⟩ rfl rfl (Nat.le_of_ble_eq_true rfl) hl.1 dX9_editByHand_12 (fun H locs cells slots hW hz hc hm => ?_)
  refine lv_aload_n hx hb dX9_editByHand_15 rfl (lv_at hl 0 rfl) ?_
  refine r_gR C hW h fl_X9_12 (by decide) dX9_editByHand_16 (fun b5 h => ?_)
  refine lv_iload_n hx hb dX9_editByHand_19 rfl (lv_at hl 1 rfl) ?_
  refine lv_iload_n hx hb dX9_editByHand_20 rfl (lv_at hl 2 rfl) ?_
  refine lv_iload_n hx hb dX9_editByHand_21 rfl (lv_at hl 3 rfl) ?_
  refine lv_iload hx hb dX9_editByHand_22 (lv_at hl 4 rfl) ?_
  refine lv_iload hx hb dX9_editByHand_24 (lv_at hl 5 rfl) ?_
  obtain ⟨v8, X7, h6, h⟩ := bnd2_inv h
  refine r_cI hW (run_V (rest := []) C hW (t_X5_doEdit h6) mk_X5_doEdit vk_X9_330 (kd_X5_doEdit h6) rfl rfl (by decide) ⟨Nat.le_of_ble_eq_true rfl, Nat.le_of_ble_eq_true rfl⟩ (hm_le hm) rfl rfl (Nat.le_of_ble_eq_true rfl) hl.1 dX9_editByHand_26) (fun H locs hW hz1 => ?_)
  have hz := Nat.le_trans hz hz1
  refine lv_istore (lv' := [(6, .int v8), (0, .ref a), (1, .int x1), (2, .int x2), (3, .int x3), (4, .int x4), (5, .int x5)]) hx hb dX9_editByHand_29 hl (by decide) rfl (fun ls hl => ?_)
  refine lv_iload hx hb dX9_editByHand_31 (lv_at hl 0 rfl) ?_
  refine lv_iconst (v := (-1)) hx hb dX9_editByHand_33 (by decide) ?_
  refine r_brn h (lv_icmp_ne (tgt := 42) hx hb dX9_editByHand_34 (by decide)) (fun h => ?_) (fun h => ?_)
  · refine lv_aload_n hx hb dX9_editByHand_42 rfl (lv_at hl 1 rfl) ?_
    obtain ⟨X10, h9, h⟩ := bnd_inv h
    refine r_cV hW (run_V (rest := []) C hW (t_X9_keepAct h9) mk_X9_keepAct vk_X9_237 (kd_X9_keepAct h9) rfl rfl (by decide) ⟨Nat.le_of_ble_eq_true rfl, Nat.le_of_ble_eq_true rfl⟩ (hm_le hm) rfl rfl (Nat.le_of_ble_eq_true rfl) hl.1 dX9_editByHand_43) (fun H locs hW hz1 => ?_)
    have hz := Nat.le_trans hz hz1
    refine lv_iload hx hb dX9_editByHand_46 (lv_at hl 0 rfl) ?_
    exact r_xiret C hzf hW hz hc hm h rfl dX9_editByHand_48
  · refine lv_aload_n hx hb dX9_editByHand_37 rfl (lv_at hl 1 rfl) ?_
    obtain ⟨v13, X12, h11, h⟩ := bnd2_inv h
    refine r_cI hW (run_V (rest := []) C hW (t_X9_refuseAct h11) mk_X9_refuseAct vk_X9_228 (kd_X9_refuseAct h11) rfl rfl (by decide) ⟨Nat.le_of_ble_eq_true rfl, Nat.le_of_ble_eq_true rfl⟩ (hm_le hm) rfl rfl (Nat.le_of_ble_eq_true rfl) hl.1 dX9_editByHand_38) (fun H locs hW hz1 => ?_)
    have hz := Nat.le_trans hz hz1
    exact r_xiret C hzf hW hz hc hm h rfl dX9_editByHand_41
theorem kd_X9_add {σ : Sh} {X : Mx} {z : Nat} {r : Hr (Int32 ⊕ Nat)} {a : Nat} {x1 : Int32} {x2 : Int32} {x3 : Int32} (h : f_X9_add σ X z a x1 x2 x3 = some r) : shK σ a = 7 := (grd_inv h).1
set_option maxRecDepth 20000 in
set_option maxHeartbeats 2000000 in
theorem t_X9_add {σ : Sh} {X : Mx} {z : Nat} {r : Hr (Int32 ⊕ Nat)} {a : Nat} {x1 : Int32} {x2 : Int32} {x3 : Int32} (hst : l.stackTraces = false) (h : f_X9_add σ X z a x1 x2 x3 = some r) : HxI g l yX9_add cX9_add 4 (some .int) 8 136 [.ref a, .int x1, .int x2, .int x3] σ X z r := by
  obtain ⟨v0, σ0, X0, mc, ms⟩ := r
  refine met_ofX mk_X9_add (by decide +kernel) (Nat.le_of_ble_eq_true rfl) (fun p e s m args below meth c ls C hno hW hzz hl => ?_)
  have hx := C.x
  have hb := C.b
  have hl : lv_has ls 4 [(0, .ref a), (1, .int x1), (2, .int x2), (3, .int x3)] := hl
  have hz : z ≤ s.heap.size := Nat.le_of_eq hzz.symm
  have hc : s.heap.size + 0 = z := hzz
  have hzf : s.heap.size + mc = z + mc := by rw [hzz]
  have hm : 0 + mc = mc ∧ 0 + ms = ms := ⟨Nat.zero_add _, Nat.zero_add _⟩
  unfold f_X9_add at h
  obtain ⟨hk0, h⟩ := grd_inv h
  refine lv_aload_n hx hb dX9_add_0 rfl (lv_at hl 0 rfl) ?_
  refine lv_iconst (v := 5) hx hb dX9_add_1 (by decide) ?_
  refine lv_iload_n hx hb dX9_add_2 rfl (lv_at hl 1 rfl) ?_
  refine lv_iload_n hx hb dX9_add_3 rfl (lv_at hl 2 rfl) ?_
  refine lv_iload_n hx hb dX9_add_4 rfl (lv_at hl 3 rfl) ?_
  refine lv_iconst (v := 0) hx hb dX9_add_5 (by decide) ?_
  obtain ⟨o9, h1, h⟩ := bndX_inv h
  refine c_XV_I (rest := []) C hno hW hz hc hm h (t_X9_editByHand hst h1) mk_X9_editByHand vk_X9_217 (kd_X9_editByHand h1) rfl rfl (by decide) ⟨Nat.le_of_ble_eq_true rfl, Nat.le_of_ble_eq_true rfl⟩ rfl rfl (Nat.le_of_ble_eq_true rfl) hl.1 dX9_add_6 (fun v1 σ1 X1 c1 d1 H locs cells slots cu du ho h hW hz hc hm => ?_)
  exact r_xiret C hzf hW hz hc hm h rfl dX9_add_9
set_option maxRecDepth 20000 in
set_option maxHeartbeats 2000000 in
theorem b_X9_demandThreefold_9 (C : Cx g RX9 cX9_demandThreefold 1 none p s m args meth c) {mc ms zf : Nat} {v0 : (Unit ⊕ Nat)} {σ0 : Sh} {X0 : Mx} (hst : l.stackTraces = false) (hno : ∀ x ∈ c.exceptionTable.toList, False) (hzf : s.heap.size + mc = zf) {σ : Sh} {X : Mx} {z cu du cells slots : Nat} {H : Heap} {locs : List Loc} {ls : Array Slot} (hW : Wd g σ X s H locs) (hz : z ≤ H.size) (hc : s.heap.size + cells = z) (hm : cells + cu = mc ∧ slots + du = ms) (hl : lv_has ls 1 []) (h : f_X9_demandThreefold_9 σ X z = some (v0, σ0, X0, cu, du)) : W p l e (rmH 6 90 mc ms) s m args below meth c H locs cells slots (QXV g below args s mc ms zf v0 σ0 X0) (F0 m 9 ls []) := by
  have hx := C.x
  have hb := C.b
  unfold f_X9_demandThreefold_9 at h
  exact r_throwSWN (text := "no such question") hst C hno hW hm h ⟨rfl, rfl, rfl⟩ (by decide) ⟨Nat.le_of_ble_eq_true rfl, Nat.le_of_ble_eq_true rfl⟩ hl.1 dX9_demandThreefold_9 dX9_demandThreefold_12 dX9_demandThreefold_13 dX9_demandThreefold_16 dX9_demandThreefold_19
set_option maxRecDepth 20000 in
set_option maxHeartbeats 2000000 in
theorem t_X9_demandThreefold {σ : Sh} {X : Mx} {z : Nat} {r : Hr (Unit ⊕ Nat)} {x0 : Int32} (hst : l.stackTraces = false) (h : f_X9_demandThreefold σ X z x0 = some r) : HxV g l yX9_demandThreefold cX9_demandThreefold 1 none 6 90 [.int x0] σ X z r := by
  obtain ⟨v0, σ0, X0, mc, ms⟩ := r
  refine met_ofX mk_X9_demandThreefold (by decide +kernel) (Nat.le_of_ble_eq_true rfl) (fun p e s m args below meth c ls C hno hW hzz hl => ?_)
  have hx := C.x
  have hb := C.b
  have hl : lv_has ls 1 [(0, .int x0)] := hl
  have hz : z ≤ s.heap.size := Nat.le_of_eq hzz.symm
  have hc : s.heap.size + 0 = z := hzz
  have hzf : s.heap.size + mc = z + mc := by rw [hzz]
  have hm : 0 + mc = mc ∧ 0 + ms = ms := ⟨Nat.zero_add _, Nat.zero_add _⟩
  unfold f_X9_demandThreefold at h
  refine lv_iload_n hx hb dX9_demandThreefold_0 rfl (lv_at hl 0 rfl) ?_
  refine r_br h (lv_if_lt (tgt := 9) hx hb dX9_demandThreefold_1 (by decide)) (fun h => ?_) (fun h => ?_)
  · exact b_X9_demandThreefold_9 C hst hno hzf hW hz hc hm (lv_sub hl [] rfl) h
  · refine lv_iload_n hx hb dX9_demandThreefold_4 rfl (lv_at hl 0 rfl) ?_
    refine lv_iconst (v := 2) hx hb dX9_demandThreefold_5 (by decide) ?_
    refine r_br h (lv_icmp_le (tgt := 20) hx hb dX9_demandThreefold_6 (by decide)) (fun h => ?_) (fun h => ?_)
    · exact r_xvret C hzf hW hz hc hm h dX9_demandThreefold_20
    · exact b_X9_demandThreefold_9 C hst hno hzf hW hz hc hm (lv_sub hl [] rfl) h
set_option maxRecDepth 20000 in
set_option maxHeartbeats 2000000 in
theorem b_X9_alone_51 {a : Nat} {x2 : Int32} {x3 : Int32} (C : Cx g RX9 cX9_alone 4 (some .int) p s m args meth c) {mc ms zf : Nat} {v0 : (Int32 ⊕ Nat)} {σ0 : Sh} {X0 : Mx} (hst : l.stackTraces = false) (hno : ∀ x ∈ c.exceptionTable.toList, False) (hzf : s.heap.size + mc = zf) {σ : Sh} {X : Mx} {z cu du cells slots : Nat} {H : Heap} {locs : List Loc} {ls : Array Slot} (hW : Wd g σ X s H locs) (hz : z ≤ H.size) (hc : s.heap.size + cells = z) (hm : cells + cu = mc ∧ slots + du = ms) (hl : lv_has ls 4 [(0, .ref a), (2, .int x2), (3, .int x3)]) (h : f_X9_alone_51 a x2 x3 σ X z = some (v0, σ0, X0, cu, du)) : W p l e (rmH 7 148 mc ms) s m args below meth c H locs cells slots (QXI g below args s mc ms zf v0 σ0 X0) (F0 m 51 ls []) := by
  have hx := C.x
  have hb := C.b
  unfold f_X9_alone_51 at h
  refine lv_aload_n hx hb dX9_alone_51 rfl (lv_at hl 0 rfl) ?_
  refine r_gR C hW h fl_X9_47 (by decide) dX9_alone_52 (fun b1 h => ?_)
  refine lv_iload_n hx hb dX9_alone_55 rfl (lv_at hl 2 rfl) ?_
  refine lv_iload_n hx hb dX9_alone_56 rfl (lv_at hl 1 rfl) ?_
  obtain ⟨v3, h2, h⟩ := bnd_inv h
  refine r_cI hW (run_V (rest := []) C hW (t_X3_answerTo h2) mk_X3_answerTo vk_X9_281 (kd_X3_answerTo h2) rfl rfl (by decide) ⟨Nat.le_of_ble_eq_true rfl, Nat.le_of_ble_eq_true rfl⟩ (hm_le hm) rfl rfl (Nat.le_of_ble_eq_true rfl) hl.1 dX9_alone_57) (fun H locs hW hz1 => ?_)
  have hz := Nat.le_trans hz hz1
  exact r_xiret C hzf hW hz hc hm h rfl dX9_alone_60
theorem kd_X9_alone {σ : Sh} {X : Mx} {z : Nat} {r : Hr (Int32 ⊕ Nat)} {a : Nat} {x1 : Int32} {x2 : Int32} (h : f_X9_alone σ X z a x1 x2 = some r) : shK σ a = 7 := (grd_inv h).1
set_option maxRecDepth 20000 in
set_option maxHeartbeats 2000000 in
theorem t_X9_alone {σ : Sh} {X : Mx} {z : Nat} {r : Hr (Int32 ⊕ Nat)} {a : Nat} {x1 : Int32} {x2 : Int32} (hst : l.stackTraces = false) (h : f_X9_alone σ X z a x1 x2 = some r) : HxI g l yX9_alone cX9_alone 4 (some .int) 7 148 [.ref a, .int x1, .int x2] σ X z r := by
  obtain ⟨v0, σ0, X0, mc, ms⟩ := r
  refine met_ofX mk_X9_alone (by decide +kernel) (Nat.le_of_ble_eq_true rfl) (fun p e s m args below meth c ls C hno hW hzz hl => ?_)
  have hx := C.x
  have hb := C.b
  have hl : lv_has ls 4 [(0, .ref a), (1, .int x1), (2, .int x2)] := hl
  have hz : z ≤ s.heap.size := Nat.le_of_eq hzz.symm
  have hc : s.heap.size + 0 = z := hzz
  have hzf : s.heap.size + mc = z + mc := by rw [hzz]
  have hm : 0 + mc = mc ∧ 0 + ms = ms := ⟨Nat.zero_add _, Nat.zero_add _⟩
  unfold f_X9_alone at h
  obtain ⟨hk0, h⟩ := grd_inv h
  refine lv_iload_n hx hb dX9_alone_0 rfl (lv_at hl 1 rfl) ?_
  obtain ⟨o9, h1, h⟩ := bndX_inv h
  refine c_XS_V (rest := []) C hno hW hz hc hm h (t_X9_demandSide hst h1) mk_X9_demandSide sk_X9_251 ⟨Nat.le_of_ble_eq_true rfl, Nat.le_of_ble_eq_true rfl⟩ rfl rfl (Nat.le_of_ble_eq_true rfl) hl.1 dX9_alone_1 (fun u1 σ1 X1 c1 d1 H locs cells slots cu du ho h hW hz hc hm => ?_)
  refine lv_iload_n hx hb dX9_alone_4 rfl (lv_at hl 2 rfl) ?_
  obtain ⟨o9, h2, h⟩ := bndX_inv h
  refine c_XS_V (rest := []) C hno hW hz hc hm h (t_X9_demandThreefold hst h2) mk_X9_demandThreefold sk_X9_269 ⟨Nat.le_of_ble_eq_true rfl, Nat.le_of_ble_eq_true rfl⟩ rfl rfl (Nat.le_of_ble_eq_true rfl) hl.1 dX9_alone_5 (fun u2 σ2 X2 c2 d2 H locs cells slots cu du ho h hW hz hc hm => ?_)
  refine lv_iconst (v := 0) hx hb dX9_alone_8 (by decide) ?_
  refine lv_iload_n hx hb dX9_alone_9 rfl (lv_at hl 1 rfl) ?_
  refine lv_iadd hx hb dX9_alone_10 ?_
  refine lv_istore_n (lv' := [(3, .int (0 + x1)), (0, .ref a), (1, .int x1), (2, .int x2)]) hx hb dX9_alone_11 rfl hl (by decide) rfl (fun ls hl => ?_)
  refine lv_aload_n hx hb dX9_alone_12 rfl (lv_at hl 1 rfl) ?_
  refine r_gR C hW h fl_X9_47 (by decide) dX9_alone_13 (fun b3 h => ?_)
  refine lv_iload_n hx hb dX9_alone_16 rfl (lv_at hl 0 rfl) ?_
  obtain ⟨v5, h4, h⟩ := bnd_inv h
  refine r_cI hW (run_V (rest := []) C hW (t_X3_knows h4) mk_X3_knows vk_X9_274 (kd_X3_knows h4) rfl rfl (by decide) ⟨Nat.le_of_ble_eq_true rfl, Nat.le_of_ble_eq_true rfl⟩ (hm_le hm) rfl rfl (Nat.le_of_ble_eq_true rfl) hl.1 dX9_alone_17) (fun H locs hW hz1 => ?_)
  have hz := Nat.le_trans hz hz1
  refine r_brn h (lv_if_ne (tgt := 51) hx hb dX9_alone_20 (by decide)) (fun h => ?_) (fun h => ?_)
  · exact b_X9_alone_51 C hst hno hzf hW hz hc hm (lv_sub hl [1, 3, 0] rfl) h
  · refine lv_aload_n hx hb dX9_alone_23 rfl (lv_at hl 1 rfl) ?_
    refine r_gR C hW h fl_X9_47 (by decide) dX9_alone_24 (fun b6 h => ?_)
    refine lv_aload_n hx hb dX9_alone_27 rfl (lv_at hl 1 rfl) ?_
    refine r_gR C hW h fl_X9_12 (by decide) dX9_alone_28 (fun b7 h => ?_)
    refine lv_aload_n hx hb dX9_alone_31 rfl (lv_at hl 1 rfl) ?_
    obtain ⟨b10, X9, h8, h⟩ := bnd2_inv h
    refine r_cR hW (run_V (rest := [.ref b7, .ref b6]) C hW (t_X9_freshMerge h8) mk_X9_freshMerge vk_X9_131 (kd_X9_freshMerge h8) rfl rfl (by decide) ⟨Nat.le_of_ble_eq_true rfl, Nat.le_of_ble_eq_true rfl⟩ (hm_le hm) rfl rfl (Nat.le_of_ble_eq_true rfl) hl.1 dX9_alone_32) (fun H locs hW hz1 => ?_)
    have hz := Nat.le_trans hz hz1
    refine lv_iload_n hx hb dX9_alone_35 rfl (lv_at hl 2 rfl) ?_
    obtain ⟨X12, h11, h⟩ := bnd_inv h
    refine r_cV hW (run_V (rest := []) C hW (t_X3_pickChanged h11) mk_X3_pickChanged vk_X9_284 (kd_X3_pickChanged h11) rfl rfl (by decide) ⟨Nat.le_of_ble_eq_true rfl, Nat.le_of_ble_eq_true rfl⟩ (hm_le hm) rfl rfl (Nat.le_of_ble_eq_true rfl) hl.1 dX9_alone_36) (fun H locs hW hz1 => ?_)
    have hz := Nat.le_trans hz hz1
    refine lv_aload_n hx hb dX9_alone_39 rfl (lv_at hl 1 rfl) ?_
    refine r_gR C hW h fl_X9_47 (by decide) dX9_alone_40 (fun b13 h => ?_)
    refine lv_aload_n hx hb dX9_alone_43 rfl (lv_at hl 1 rfl) ?_
    refine r_gR C hW h fl_X9_12 (by decide) dX9_alone_44 (fun b14 h => ?_)
    refine lv_iload_n hx hb dX9_alone_47 rfl (lv_at hl 2 rfl) ?_
    obtain ⟨X16, h15, h⟩ := bnd_inv h
    refine r_cV hW (run_V (rest := []) C hW (t_X3_findAlone h15) mk_X3_findAlone vk_X9_288 (kd_X3_findAlone h15) rfl rfl (by decide) ⟨Nat.le_of_ble_eq_true rfl, Nat.le_of_ble_eq_true rfl⟩ (hm_le hm) rfl rfl (Nat.le_of_ble_eq_true rfl) hl.1 dX9_alone_48) (fun H locs hW hz1 => ?_)
    have hz := Nat.le_trans hz hz1
    exact b_X9_alone_51 C hst hno hzf hW hz hc hm (lv_sub hl [1, 3, 0] rfl) h
set_option maxRecDepth 20000 in
set_option maxHeartbeats 2000000 in
theorem b_X9_along_13 (C : Cx g RX9 cX9_along 4 (some .int) p s m args meth c) {mc ms zf : Nat} {v0 : (Int32 ⊕ Nat)} {σ0 : Sh} {X0 : Mx} (hst : l.stackTraces = false) (hno : ∀ x ∈ c.exceptionTable.toList, False) (hzf : s.heap.size + mc = zf) {σ : Sh} {X : Mx} {z cu du cells slots : Nat} {H : Heap} {locs : List Loc} {ls : Array Slot} (hW : Wd g σ X s H locs) (hz : z ≤ H.size) (hc : s.heap.size + cells = z) (hm : cells + cu = mc ∧ slots + du = ms) (hl : lv_has ls 4 []) (h : f_X9_along_13 σ X z = some (v0, σ0, X0, cu, du)) : W p l e (rmH 7 145 mc ms) s m args below meth c H locs cells slots (QXI g below args s mc ms zf v0 σ0 X0) (F0 m 13 ls []) := by
  have hx := C.x
  have hb := C.b
  unfold f_X9_along_13 at h
  exact r_throwSW (text := "no such choice") hst C hno hW hm h xk_79_83 (by decide) ⟨Nat.le_of_ble_eq_true rfl, Nat.le_of_ble_eq_true rfl⟩ hl.1 dX9_along_13 dX9_along_16 dX9_along_17 dX9_along_20 dX9_along_23
set_option maxRecDepth 20000 in
set_option maxHeartbeats 2000000 in
theorem b_X9_along_51 {a : Nat} {x2 : Int32} {x3 : Int32} (C : Cx g RX9 cX9_along 4 (some .int) p s m args meth c) {mc ms zf : Nat} {v0 : (Int32 ⊕ Nat)} {σ0 : Sh} {X0 : Mx} (hst : l.stackTraces = false) (hno : ∀ x ∈ c.exceptionTable.toList, False) (hzf : s.heap.size + mc = zf) {σ : Sh} {X : Mx} {z cu du cells slots : Nat} {H : Heap} {locs : List Loc} {ls : Array Slot} (hW : Wd g σ X s H locs) (hz : z ≤ H.size) (hc : s.heap.size + cells = z) (hm : cells + cu = mc ∧ slots + du = ms) (hl : lv_has ls 4 [(0, .ref a), (2, .int x2), (3, .int x3)]) (h : f_X9_along_51 a x2 x3 σ X z = some (v0, σ0, X0, cu, du)) : W p l e (rmH 7 145 mc ms) s m args below meth c H locs cells slots (QXI g below args s mc ms zf v0 σ0 X0) (F0 m 51 ls []) := by
  have hx := C.x
  have hb := C.b
  unfold f_X9_along_51 at h
  refine lv_aload_n hx hb dX9_along_51 rfl (lv_at hl 0 rfl) ?_
  refine r_gR C hW h fl_X9_47 (by decide) dX9_along_52 (fun b1 h => ?_)
  refine lv_iload_n hx hb dX9_along_55 rfl (lv_at hl 2 rfl) ?_
  refine lv_iload_n hx hb dX9_along_56 rfl (lv_at hl 1 rfl) ?_
  obtain ⟨v3, h2, h⟩ := bnd_inv h
  refine r_cI hW (run_V (rest := []) C hW (t_X3_answerTo h2) mk_X3_answerTo vk_X9_281 (kd_X3_answerTo h2) rfl rfl (by decide) ⟨Nat.le_of_ble_eq_true rfl, Nat.le_of_ble_eq_true rfl⟩ (hm_le hm) rfl rfl (Nat.le_of_ble_eq_true rfl) hl.1 dX9_along_57) (fun H locs hW hz1 => ?_)
  have hz := Nat.le_trans hz hz1
  exact r_xiret C hzf hW hz hc hm h rfl dX9_along_60
theorem kd_X9_along {σ : Sh} {X : Mx} {z : Nat} {r : Hr (Int32 ⊕ Nat)} {a : Nat} {x1 : Int32} {x2 : Int32} (h : f_X9_along σ X z a x1 x2 = some r) : shK σ a = 7 := (grd_inv h).1
set_option maxRecDepth 20000 in
set_option maxHeartbeats 2000000 in
theorem t_X9_along {σ : Sh} {X : Mx} {z : Nat} {r : Hr (Int32 ⊕ Nat)} {a : Nat} {x1 : Int32} {x2 : Int32} (hst : l.stackTraces = false) (h : f_X9_along σ X z a x1 x2 = some r) : HxI g l yX9_along cX9_along 4 (some .int) 7 145 [.ref a, .int x1, .int x2] σ X z r := by
  obtain ⟨v0, σ0, X0, mc, ms⟩ := r
  refine met_ofX mk_X9_along (by decide +kernel) (Nat.le_of_ble_eq_true rfl) (fun p e s m args below meth c ls C hno hW hzz hl => ?_)
  have hx := C.x
  have hb := C.b
  have hl : lv_has ls 4 [(0, .ref a), (1, .int x1), (2, .int x2)] := hl
  have hz : z ≤ s.heap.size := Nat.le_of_eq hzz.symm
  have hc : s.heap.size + 0 = z := hzz
  have hzf : s.heap.size + mc = z + mc := by rw [hzz]
  have hm : 0 + mc = mc ∧ 0 + ms = ms := ⟨Nat.zero_add _, Nat.zero_add _⟩
  unfold f_X9_along at h
  obtain ⟨hk0, h⟩ := grd_inv h
  refine lv_iload_n hx hb dX9_along_0 rfl (lv_at hl 2 rfl) ?_
  obtain ⟨o9, h1, h⟩ := bndX_inv h
  refine c_XS_V (rest := []) C hno hW hz hc hm h (t_X9_demandThreefold hst h1) mk_X9_demandThreefold sk_X9_269 ⟨Nat.le_of_ble_eq_true rfl, Nat.le_of_ble_eq_true rfl⟩ rfl rfl (Nat.le_of_ble_eq_true rfl) hl.1 dX9_along_1 (fun u1 σ1 X1 c1 d1 H locs cells slots cu du ho h hW hz hc hm => ?_)
  refine lv_iload_n hx hb dX9_along_4 rfl (lv_at hl 1 rfl) ?_
  refine r_br h (lv_if_lt (tgt := 13) hx hb dX9_along_5 (by decide)) (fun h => ?_) (fun h => ?_)
  · exact b_X9_along_13 C hst hno hzf hW hz hc hm (lv_sub hl [] rfl) h
  · refine lv_iload_n hx hb dX9_along_8 rfl (lv_at hl 1 rfl) ?_
    refine lv_iconst (v := 2) hx hb dX9_along_9 (by decide) ?_
    refine r_br h (lv_icmp_le (tgt := 24) hx hb dX9_along_10 (by decide)) (fun h => ?_) (fun h => ?_)
    · refine lv_iconst (v := 2) hx hb dX9_along_24 (by decide) ?_
      refine lv_iload_n hx hb dX9_along_25 rfl (lv_at hl 1 rfl) ?_
      refine lv_iadd hx hb dX9_along_26 ?_
      refine lv_istore_n (lv' := [(3, .int (2 + x1)), (0, .ref a), (1, .int x1), (2, .int x2)]) hx hb dX9_along_27 rfl hl (by decide) rfl (fun ls hl => ?_)
      refine lv_aload_n hx hb dX9_along_28 rfl (lv_at hl 1 rfl) ?_
      refine r_gR C hW h fl_X9_47 (by decide) dX9_along_29 (fun b2 h => ?_)
      refine lv_iload_n hx hb dX9_along_32 rfl (lv_at hl 0 rfl) ?_
      obtain ⟨v4, h3, h⟩ := bnd_inv h
      refine r_cI hW (run_V (rest := []) C hW (t_X3_knows h3) mk_X3_knows vk_X9_274 (kd_X3_knows h3) rfl rfl (by decide) ⟨Nat.le_of_ble_eq_true rfl, Nat.le_of_ble_eq_true rfl⟩ (hm_le hm) rfl rfl (Nat.le_of_ble_eq_true rfl) hl.1 dX9_along_33) (fun H locs hW hz1 => ?_)
      have hz := Nat.le_trans hz hz1
      refine r_brn h (lv_if_ne (tgt := 51) hx hb dX9_along_36 (by decide)) (fun h => ?_) (fun h => ?_)
      · exact b_X9_along_51 C hst hno hzf hW hz hc hm (lv_sub hl [1, 3, 0] rfl) h
      · refine lv_aload_n hx hb dX9_along_39 rfl (lv_at hl 1 rfl) ?_
        refine r_gR C hW h fl_X9_47 (by decide) dX9_along_40 (fun b5 h => ?_)
        refine lv_aload_n hx hb dX9_along_43 rfl (lv_at hl 1 rfl) ?_
        refine r_gR C hW h fl_X9_12 (by decide) dX9_along_44 (fun b6 h => ?_)
        refine lv_iload_n hx hb dX9_along_47 rfl (lv_at hl 2 rfl) ?_
        obtain ⟨X8, h7, h⟩ := bnd_inv h
        refine r_cV hW (run_V (rest := []) C hW (t_X3_findAlong h7) mk_X3_findAlong vk_X9_277 (kd_X3_findAlong h7) rfl rfl (by decide) ⟨Nat.le_of_ble_eq_true rfl, Nat.le_of_ble_eq_true rfl⟩ (hm_le hm) rfl rfl (Nat.le_of_ble_eq_true rfl) hl.1 dX9_along_48) (fun H locs hW hz1 => ?_)
        have hz := Nat.le_trans hz hz1
        exact b_X9_along_51 C hst hno hzf hW hz hc hm (lv_sub hl [1, 3, 0] rfl) h
    · exact b_X9_along_13 C hst hno hzf hW hz hc hm (lv_sub hl [] rfl) h
theorem kd_X9_tableOf {σ : Sh} {X : Mx} {z : Nat} {r : Hr (Nat ⊕ Nat)} {a : Nat} {x1 : Int32} (h : f_X9_tableOf σ X z a x1 = some r) : shK σ a = 7 := (grd_inv h).1
set_option maxRecDepth 20000 in
set_option maxHeartbeats 2000000 in
theorem t_X9_tableOf {σ : Sh} {X : Mx} {z : Nat} {r : Hr (Nat ⊕ Nat)} {a : Nat} {x1 : Int32} (hst : l.stackTraces = false) (h : f_X9_tableOf σ X z a x1 = some r) : HxR g l yX9_tableOf cX9_tableOf 2 (some (.object "TableMerge$Table")) 6 141 [.ref a, .int x1] σ X z r := by
  obtain ⟨v0, σ0, X0, mc, ms⟩ := r
  refine met_ofX mk_X9_tableOf (by decide +kernel) (Nat.le_of_ble_eq_true rfl) (fun p e s m args below meth c ls C hno hW hzz hl => ?_)
  have hx := C.x
  have hb := C.b
  have hl : lv_has ls 2 [(0, .ref a), (1, .int x1)] := hl
  have hz : z ≤ s.heap.size := Nat.le_of_eq hzz.symm
  have hc : s.heap.size + 0 = z := hzz
  have hzf : s.heap.size + mc = z + mc := by rw [hzz]
  have hm : 0 + mc = mc ∧ 0 + ms = ms := ⟨Nat.zero_add _, Nat.zero_add _⟩
  unfold f_X9_tableOf at h
  obtain ⟨hk0, h⟩ := grd_inv h
  refine lv_iload_n hx hb dX9_tableOf_0 rfl (lv_at hl 1 rfl) ?_
  refine r_case h (fun ec h => ?_) (fun nc0 h => ?_)
  · refine lv_tableIn (tgt := 32) (off := 31) hx hb dX9_tableOf_1 (by rw [ec]; decide) (by rw [ec]; decide) (by rw [ec]; rfl) (by decide) ?_
    refine lv_aload_n hx hb dX9_tableOf_32 rfl (lv_at hl 0 rfl) ?_
    refine r_gR C hW h fl_X9_12 (by decide) dX9_tableOf_33 (fun b1 h => ?_)
    refine r_gR C hW h fl_X9_316 (by decide) dX9_tableOf_36 (fun b2 h => ?_)
    exact r_xaret C hzf hW hz hc hm h dX9_tableOf_39
  refine r_case h (fun ec h => ?_) (fun nc1 h => ?_)
  · refine lv_tableIn (tgt := 40) (off := 39) hx hb dX9_tableOf_1 (by rw [ec]; decide) (by rw [ec]; decide) (by rw [ec]; rfl) (by decide) ?_
    refine lv_aload_n hx hb dX9_tableOf_40 rfl (lv_at hl 0 rfl) ?_
    refine r_gR C hW h fl_X9_12 (by decide) dX9_tableOf_41 (fun b3 h => ?_)
    refine r_gR C hW h fl_X9_319 (by decide) dX9_tableOf_44 (fun b4 h => ?_)
    exact r_xaret C hzf hW hz hc hm h dX9_tableOf_47
  refine r_case h (fun ec h => ?_) (fun nc2 h => ?_)
  · refine lv_tableIn (tgt := 48) (off := 47) hx hb dX9_tableOf_1 (by rw [ec]; decide) (by rw [ec]; decide) (by rw [ec]; rfl) (by decide) ?_
    refine lv_aload_n hx hb dX9_tableOf_48 rfl (lv_at hl 0 rfl) ?_
    refine r_gR C hW h fl_X9_12 (by decide) dX9_tableOf_49 (fun b5 h => ?_)
    refine r_gR C hW h fl_X9_111 (by decide) dX9_tableOf_52 (fun b6 h => ?_)
    exact r_xaret C hzf hW hz hc hm h dX9_tableOf_55
  refine r_case h (fun ec h => ?_) (fun nc3 h => ?_)
  · refine lv_tableIn (tgt := 56) (off := 55) hx hb dX9_tableOf_1 (by rw [ec]; decide) (by rw [ec]; decide) (by rw [ec]; rfl) (by decide) ?_
    refine lv_aload_n hx hb dX9_tableOf_56 rfl (lv_at hl 0 rfl) ?_
    obtain ⟨b9, X8, h7, h⟩ := bnd2_inv h
    refine r_cR hW (run_V (rest := []) C hW (t_X9_freshMerge h7) mk_X9_freshMerge vk_X9_131 (kd_X9_freshMerge h7) rfl rfl (by decide) ⟨Nat.le_of_ble_eq_true rfl, Nat.le_of_ble_eq_true rfl⟩ (hm_le hm) rfl rfl (Nat.le_of_ble_eq_true rfl) hl.1 dX9_tableOf_57) (fun H locs hW hz1 => ?_)
    have hz := Nat.le_trans hz hz1
    refine r_gR C hW h fl_X9_135 (by decide) dX9_tableOf_60 (fun b10 h => ?_)
    exact r_xaret C hzf hW hz hc hm h dX9_tableOf_63
  refine lv_tableOut (tgt := 64) hx hb dX9_tableOf_1 (sw_out (lo := 0) (n := 3) (sw_s nc3 (sw_s nc2 (sw_s nc1 (sw_0 nc0)))) (by decide)) (by decide) ?_
  exact r_throwSWN (text := "no such table") hst C hno hW hm h ⟨rfl, rfl, rfl⟩ (by decide) ⟨Nat.le_of_ble_eq_true rfl, Nat.le_of_ble_eq_true rfl⟩ hl.1 dX9_tableOf_64 dX9_tableOf_67 dX9_tableOf_68 dX9_tableOf_71 dX9_tableOf_74
theorem kd_X9_cell {σ : Sh} {X : Mx} {z : Nat} {r : Hr (Int32 ⊕ Nat)} {a : Nat} {x1 : Int32} {x2 : Int32} {x3 : Int32} (h : f_X9_cell σ X z a x1 x2 x3 = some r) : shK σ a = 7 := (grd_inv h).1
set_option maxRecDepth 20000 in
set_option maxHeartbeats 2000000 in
theorem t_X9_cell {σ : Sh} {X : Mx} {z : Nat} {r : Hr (Int32 ⊕ Nat)} {a : Nat} {x1 : Int32} {x2 : Int32} {x3 : Int32} (hst : l.stackTraces = false) (h : f_X9_cell σ X z a x1 x2 x3 = some r) : HxI g l yX9_cell cX9_cell 5 (some .int) 7 162 [.ref a, .int x1, .int x2, .int x3] σ X z r := by
  obtain ⟨v0, σ0, X0, mc, ms⟩ := r
  refine met_ofX mk_X9_cell (by decide +kernel) (Nat.le_of_ble_eq_true rfl) (fun p e s m args below meth c ls C hno hW hzz hl => ?_)
  have hx := C.x
  have hb := C.b
  have hl : lv_has ls 5 [(0, .ref a), (1, .int x1), (2, .int x2), (3, .int x3)] := hl
  have hz : z ≤ s.heap.size := Nat.le_of_eq hzz.symm
  have hc : s.heap.size + 0 = z := hzz
  have hzf : s.heap.size + mc = z + mc := by rw [hzz]
  have hm : 0 + mc = mc ∧ 0 + ms = ms := ⟨Nat.zero_add _, Nat.zero_add _⟩
  unfold f_X9_cell at h
  obtain ⟨hk0, h⟩ := grd_inv h
  refine lv_aload_n hx hb dX9_cell_0 rfl (lv_at hl 0 rfl) ?_
  refine lv_iload_n hx hb dX9_cell_1 rfl (lv_at hl 1 rfl) ?_
  obtain ⟨o9, h1, h⟩ := bndX_inv h
  refine c_XV_R (rest := []) C hno hW hz hc hm h (t_X9_tableOf hst h1) mk_X9_tableOf vk_X9_158 (kd_X9_tableOf h1) rfl rfl (by decide) ⟨Nat.le_of_ble_eq_true rfl, Nat.le_of_ble_eq_true rfl⟩ rfl rfl (Nat.le_of_ble_eq_true rfl) hl.1 dX9_cell_2 (fun b1 σ1 X1 c1 d1 H locs cells slots cu du ho h hW hz hc hm => ?_)
  refine lv_astore (lv' := [(4, .ref b1), (0, .ref a), (1, .int x1), (2, .int x2), (3, .int x3)]) hx hb dX9_cell_5 hl (by decide) rfl (fun ls hl => ?_)
  refine lv_aload hx hb dX9_cell_7 (lv_at hl 0 rfl) ?_
  refine lv_iload_n hx hb dX9_cell_9 rfl (lv_at hl 3 rfl) ?_
  refine lv_iload_n hx hb dX9_cell_10 rfl (lv_at hl 4 rfl) ?_
  obtain ⟨v3, h2, h⟩ := bnd_inv h
  refine r_cI hW (run_V (rest := []) C hW (t_X6_hasCell h2) mk_X6_hasCell vk_X9_175 (kd_X6_hasCell h2) rfl rfl (by decide) ⟨Nat.le_of_ble_eq_true rfl, Nat.le_of_ble_eq_true rfl⟩ (hm_le hm) rfl rfl (Nat.le_of_ble_eq_true rfl) hl.1 dX9_cell_11) (fun H locs hW hz1 => ?_)
  have hz := Nat.le_trans hz hz1
  refine r_brn h (lv_if_ne (tgt := 27) hx hb dX9_cell_14 (by decide)) (fun h => ?_) (fun h => ?_)
  · refine lv_aload hx hb dX9_cell_27 (lv_at hl 0 rfl) ?_
    refine lv_iload_n hx hb dX9_cell_29 rfl (lv_at hl 3 rfl) ?_
    refine lv_iload_n hx hb dX9_cell_30 rfl (lv_at hl 4 rfl) ?_
    obtain ⟨v5, h4, h⟩ := bnd_inv h
    refine r_cI hW (run_V (rest := []) C hW (t_X6_numberAt h4) mk_X6_numberAt vk_X9_181 (kd_X6_numberAt h4) rfl rfl (by decide) ⟨Nat.le_of_ble_eq_true rfl, Nat.le_of_ble_eq_true rfl⟩ (hm_le hm) rfl rfl (Nat.le_of_ble_eq_true rfl) hl.1 dX9_cell_31) (fun H locs hW hz1 => ?_)
    have hz := Nat.le_trans hz hz1
    exact r_xiret C hzf hW hz hc hm h rfl dX9_cell_34
  · exact r_throwSN (text := "no such row or column") hst C hno hW hm h ⟨rfl, rfl, rfl⟩ (by decide) ⟨Nat.le_of_ble_eq_true rfl, Nat.le_of_ble_eq_true rfl⟩ hl.1 dX9_cell_17 dX9_cell_20 dX9_cell_21 dX9_cell_23 dX9_cell_26
set_option maxRecDepth 20000 in
set_option maxHeartbeats 2000000 in
theorem b_X9_column_25 (C : Cx g RX9 cX9_column 5 (some .int) p s m args meth c) {mc ms zf : Nat} {v0 : (Int32 ⊕ Nat)} {σ0 : Sh} {X0 : Mx} (hst : l.stackTraces = false) (hno : ∀ x ∈ c.exceptionTable.toList, False) (hzf : s.heap.size + mc = zf) {σ : Sh} {X : Mx} {z cu du cells slots : Nat} {H : Heap} {locs : List Loc} {ls : Array Slot} (hW : Wd g σ X s H locs) (hz : z ≤ H.size) (hc : s.heap.size + cells = z) (hm : cells + cu = mc ∧ slots + du = ms) (hl : lv_has ls 5 []) (h : f_X9_column_25 σ X z = some (v0, σ0, X0, cu, du)) : W p l e (rmH 7 162 mc ms) s m args below meth c H locs cells slots (QXI g below args s mc ms zf v0 σ0 X0) (F0 m 25 ls []) := by
  have hx := C.x
  have hb := C.b
  unfold f_X9_column_25 at h
  exact r_throwSN (text := "no such column, or question of it") hst C hno hW hm h ⟨rfl, rfl, rfl⟩ (by decide) ⟨Nat.le_of_ble_eq_true rfl, Nat.le_of_ble_eq_true rfl⟩ hl.1 dX9_column_25 dX9_column_28 dX9_column_29 dX9_column_31 dX9_column_34
theorem kd_X9_column {σ : Sh} {X : Mx} {z : Nat} {r : Hr (Int32 ⊕ Nat)} {a : Nat} {x1 : Int32} {x2 : Int32} {x3 : Int32} (h : f_X9_column σ X z a x1 x2 x3 = some r) : shK σ a = 7 := (grd_inv h).1
set_option maxRecDepth 20000 in
set_option maxHeartbeats 2000000 in
theorem t_X9_column {σ : Sh} {X : Mx} {z : Nat} {r : Hr (Int32 ⊕ Nat)} {a : Nat} {x1 : Int32} {x2 : Int32} {x3 : Int32} (hst : l.stackTraces = false) (h : f_X9_column σ X z a x1 x2 x3 = some r) : HxI g l yX9_column cX9_column 5 (some .int) 7 162 [.ref a, .int x1, .int x2, .int x3] σ X z r := by
  obtain ⟨v0, σ0, X0, mc, ms⟩ := r
  refine met_ofX mk_X9_column (by decide +kernel) (Nat.le_of_ble_eq_true rfl) (fun p e s m args below meth c ls C hno hW hzz hl => ?_)
  have hx := C.x
  have hb := C.b
  have hl : lv_has ls 5 [(0, .ref a), (1, .int x1), (2, .int x2), (3, .int x3)] := hl
  have hz : z ≤ s.heap.size := Nat.le_of_eq hzz.symm
  have hc : s.heap.size + 0 = z := hzz
  have hzf : s.heap.size + mc = z + mc := by rw [hzz]
  have hm : 0 + mc = mc ∧ 0 + ms = ms := ⟨Nat.zero_add _, Nat.zero_add _⟩
  unfold f_X9_column at h
  obtain ⟨hk0, h⟩ := grd_inv h
  refine lv_aload_n hx hb dX9_column_0 rfl (lv_at hl 0 rfl) ?_
  refine lv_iload_n hx hb dX9_column_1 rfl (lv_at hl 1 rfl) ?_
  obtain ⟨o9, h1, h⟩ := bndX_inv h
  refine c_XV_R (rest := []) C hno hW hz hc hm h (t_X9_tableOf hst h1) mk_X9_tableOf vk_X9_158 (kd_X9_tableOf h1) rfl rfl (by decide) ⟨Nat.le_of_ble_eq_true rfl, Nat.le_of_ble_eq_true rfl⟩ rfl rfl (Nat.le_of_ble_eq_true rfl) hl.1 dX9_column_2 (fun b1 σ1 X1 c1 d1 H locs cells slots cu du ho h hW hz hc hm => ?_)
  refine lv_astore (lv' := [(4, .ref b1), (0, .ref a), (1, .int x1), (2, .int x2), (3, .int x3)]) hx hb dX9_column_5 hl (by decide) rfl (fun ls hl => ?_)
  refine lv_aload hx hb dX9_column_7 (lv_at hl 0 rfl) ?_
  refine lv_iload_n hx hb dX9_column_9 rfl (lv_at hl 3 rfl) ?_
  obtain ⟨v3, h2, h⟩ := bnd_inv h
  refine r_cI hW (run_V (rest := []) C hW (t_X6_hasColumn h2) mk_X6_hasColumn vk_X9_164 (kd_X6_hasColumn h2) rfl rfl (by decide) ⟨Nat.le_of_ble_eq_true rfl, Nat.le_of_ble_eq_true rfl⟩ (hm_le hm) rfl rfl (Nat.le_of_ble_eq_true rfl) hl.1 dX9_column_10) (fun H locs hW hz1 => ?_)
  have hz := Nat.le_trans hz hz1
  refine r_br h (lv_if_eq (tgt := 25) hx hb dX9_column_13 (by decide)) (fun h => ?_) (fun h => ?_)
  · exact b_X9_column_25 C hst hno hzf hW hz hc hm (lv_sub hl [] rfl) h
  · refine lv_iload_n hx hb dX9_column_16 rfl (lv_at hl 4 rfl) ?_
    refine r_br h (lv_if_lt (tgt := 25) hx hb dX9_column_17 (by decide)) (fun h => ?_) (fun h => ?_)
    · exact b_X9_column_25 C hst hno hzf hW hz hc hm (lv_sub hl [] rfl) h
    · refine lv_iload_n hx hb dX9_column_20 rfl (lv_at hl 4 rfl) ?_
      refine lv_iconst (v := 1) hx hb dX9_column_21 (by decide) ?_
      refine r_br h (lv_icmp_le (tgt := 35) hx hb dX9_column_22 (by decide)) (fun h => ?_) (fun h => ?_)
      · refine lv_iload_n hx hb dX9_column_35 rfl (lv_at hl 4 rfl) ?_
        refine r_brn h (lv_if_ne (tgt := 49) hx hb dX9_column_36 (by decide)) (fun h => ?_) (fun h => ?_)
        · refine lv_aload hx hb dX9_column_49 (lv_at hl 0 rfl) ?_
          refine r_gR C hW h fl_X9_172 (by decide) dX9_column_51 (fun b4 h => ?_)
          refine lv_iload_n hx hb dX9_column_54 rfl (lv_at hl 3 rfl) ?_
          refine r_iald C hW h dX9_column_55 (fun v5 h => ?_)
          exact r_xiret C hzf hW hz hc hm h rfl dX9_column_56
        · refine lv_aload hx hb dX9_column_39 (lv_at hl 0 rfl) ?_
          refine r_gR C hW h fl_X9_169 (by decide) dX9_column_41 (fun b6 h => ?_)
          refine lv_iload_n hx hb dX9_column_44 rfl (lv_at hl 3 rfl) ?_
          refine r_iald C hW h dX9_column_45 (fun v7 h => ?_)
          refine lv_goto (tgt := 56) hx hb dX9_column_46 (by decide) ?_
          exact r_xiret C hzf hW hz hc hm h rfl dX9_column_56
      · exact b_X9_column_25 C hst hno hzf hW hz hc hm (lv_sub hl [] rfl) h
set_option maxRecDepth 20000 in
set_option maxHeartbeats 2000000 in
theorem b_X9_conflict_17 (C : Cx g RX9 cX9_conflict 5 (some .int) p s m args meth c) {mc ms zf : Nat} {v0 : (Int32 ⊕ Nat)} {σ0 : Sh} {X0 : Mx} (hst : l.stackTraces = false) (hno : ∀ x ∈ c.exceptionTable.toList, False) (hzf : s.heap.size + mc = zf) {σ : Sh} {X : Mx} {z cu du cells slots : Nat} {H : Heap} {locs : List Loc} {ls : Array Slot} (hW : Wd g σ X s H locs) (hz : z ≤ H.size) (hc : s.heap.size + cells = z) (hm : cells + cu = mc ∧ slots + du = ms) (hl : lv_has ls 5 []) (h : f_X9_conflict_17 σ X z = some (v0, σ0, X0, cu, du)) : W p l e (rmH 6 141 mc ms) s m args below meth c H locs cells slots (QXI g below args s mc ms zf v0 σ0 X0) (F0 m 17 ls []) := by
  have hx := C.x
  have hb := C.b
  unfold f_X9_conflict_17 at h
  exact r_throwSN (text := "no such conflict") hst C hno hW hm h ⟨rfl, rfl, rfl⟩ (by decide) ⟨Nat.le_of_ble_eq_true rfl, Nat.le_of_ble_eq_true rfl⟩ hl.1 dX9_conflict_17 dX9_conflict_20 dX9_conflict_21 dX9_conflict_23 dX9_conflict_26
theorem kd_X9_conflict {σ : Sh} {X : Mx} {z : Nat} {r : Hr (Int32 ⊕ Nat)} {a : Nat} {x1 : Int32} {x2 : Int32} (h : f_X9_conflict σ X z a x1 x2 = some r) : shK σ a = 7 := (grd_inv h).1
set_option maxRecDepth 20000 in
set_option maxHeartbeats 2000000 in
theorem t_X9_conflict {σ : Sh} {X : Mx} {z : Nat} {r : Hr (Int32 ⊕ Nat)} {a : Nat} {x1 : Int32} {x2 : Int32} (hst : l.stackTraces = false) (h : f_X9_conflict σ X z a x1 x2 = some r) : HxI g l yX9_conflict cX9_conflict 5 (some .int) 6 141 [.ref a, .int x1, .int x2] σ X z r := by
  obtain ⟨v0, σ0, X0, mc, ms⟩ := r
  refine met_ofX mk_X9_conflict (by decide +kernel) (Nat.le_of_ble_eq_true rfl) (fun p e s m args below meth c ls C hno hW hzz hl => ?_)
  have hx := C.x
  have hb := C.b
  have hl : lv_has ls 5 [(0, .ref a), (1, .int x1), (2, .int x2)] := hl
  have hz : z ≤ s.heap.size := Nat.le_of_eq hzz.symm
  have hc : s.heap.size + 0 = z := hzz
  have hzf : s.heap.size + mc = z + mc := by rw [hzz]
  have hm : 0 + mc = mc ∧ 0 + ms = ms := ⟨Nat.zero_add _, Nat.zero_add _⟩
  unfold f_X9_conflict at h
  obtain ⟨hk0, h⟩ := grd_inv h
  refine lv_aload_n hx hb dX9_conflict_0 rfl (lv_at hl 0 rfl) ?_
  obtain ⟨b3, X2, h1, h⟩ := bnd2_inv h
  refine r_cR hW (run_V (rest := []) C hW (t_X9_freshMerge h1) mk_X9_freshMerge vk_X9_131 (kd_X9_freshMerge h1) rfl rfl (by decide) ⟨Nat.le_of_ble_eq_true rfl, Nat.le_of_ble_eq_true rfl⟩ (hm_le hm) rfl rfl (Nat.le_of_ble_eq_true rfl) hl.1 dX9_conflict_1) (fun H locs hW hz1 => ?_)
  have hz := Nat.le_trans hz hz1
  refine lv_astore_n (lv' := [(3, .ref b3), (0, .ref a), (1, .int x1), (2, .int x2)]) hx hb dX9_conflict_4 rfl hl (by decide) rfl (fun ls hl => ?_)
  refine lv_iload_n hx hb dX9_conflict_5 rfl (lv_at hl 2 rfl) ?_
  refine r_br h (lv_if_lt (tgt := 17) hx hb dX9_conflict_6 (by decide)) (fun h => ?_) (fun h => ?_)
  · exact b_X9_conflict_17 C hst hno hzf hW hz hc hm (lv_sub hl [] rfl) h
  · refine lv_iload_n hx hb dX9_conflict_9 rfl (lv_at hl 2 rfl) ?_
    refine lv_aload_n hx hb dX9_conflict_10 rfl (lv_at hl 0 rfl) ?_
    refine r_gI C hW h fl_X9_138 (by decide) dX9_conflict_11 (fun v4 h => ?_)
    refine r_br h (lv_icmp_lt (tgt := 27) hx hb dX9_conflict_14 (by decide)) (fun h => ?_) (fun h => ?_)
    · refine lv_aload_n hx hb dX9_conflict_27 rfl (lv_at hl 0 rfl) ?_
      refine r_gR C hW h fl_X9_192 (by decide) dX9_conflict_28 (fun b5 h => ?_)
      refine lv_iload_n hx hb dX9_conflict_31 rfl (lv_at hl 2 rfl) ?_
      refine r_iald C hW h dX9_conflict_32 (fun v6 h => ?_)
      refine lv_istore (lv' := [(4, .int v6), (3, .ref b3), (0, .ref a), (1, .int x1), (2, .int x2)]) hx hb dX9_conflict_33 hl (by decide) rfl (fun ls hl => ?_)
      refine lv_iload_n hx hb dX9_conflict_35 rfl (lv_at hl 4 rfl) ?_
      refine r_case h (fun ec h => ?_) (fun nc0 h => ?_)
      · refine lv_tableIn (tgt := 76) (off := 40) hx hb dX9_conflict_36 (by rw [ec]; decide) (by rw [ec]; decide) (by rw [ec]; rfl) (by decide) ?_
        refine lv_iload hx hb dX9_conflict_76 (lv_at hl 0 rfl) ?_
        refine r_cI hW (run_S (rest := []) C hW (t_X1_kindOf (X := X2)) mk_X1_kindOf sk_X9_195 ⟨Nat.le_of_ble_eq_true rfl, Nat.le_of_ble_eq_true rfl⟩ (hm_le hm) rfl rfl (Nat.le_of_ble_eq_true rfl) hl.1 dX9_conflict_78) (fun H locs hW hz1 => ?_)
        have hz := Nat.le_trans hz hz1
        exact r_xiret C hzf hW hz hc hm h rfl dX9_conflict_81
      refine r_case h (fun ec h => ?_) (fun nc1 h => ?_)
      · refine lv_tableIn (tgt := 82) (off := 46) hx hb dX9_conflict_36 (by rw [ec]; decide) (by rw [ec]; decide) (by rw [ec]; rfl) (by decide) ?_
        refine lv_iload hx hb dX9_conflict_82 (lv_at hl 0 rfl) ?_
        refine r_cI hW (run_S (rest := []) C hW (t_X1_firstOf (X := X2)) mk_X1_firstOf sk_X9_200 ⟨Nat.le_of_ble_eq_true rfl, Nat.le_of_ble_eq_true rfl⟩ (hm_le hm) rfl rfl (Nat.le_of_ble_eq_true rfl) hl.1 dX9_conflict_84) (fun H locs hW hz1 => ?_)
        have hz := Nat.le_trans hz hz1
        exact r_xiret C hzf hW hz hc hm h rfl dX9_conflict_87
      refine r_case h (fun ec h => ?_) (fun nc2 h => ?_)
      · refine lv_tableIn (tgt := 88) (off := 52) hx hb dX9_conflict_36 (by rw [ec]; decide) (by rw [ec]; decide) (by rw [ec]; rfl) (by decide) ?_
        refine lv_iload hx hb dX9_conflict_88 (lv_at hl 0 rfl) ?_
        refine r_cI hW (run_S (rest := []) C hW (t_X1_secondOf (X := X2)) mk_X1_secondOf sk_X9_203 ⟨Nat.le_of_ble_eq_true rfl, Nat.le_of_ble_eq_true rfl⟩ (hm_le hm) rfl rfl (Nat.le_of_ble_eq_true rfl) hl.1 dX9_conflict_90) (fun H locs hW hz1 => ?_)
        have hz := Nat.le_trans hz hz1
        exact r_xiret C hzf hW hz hc hm h rfl dX9_conflict_93
      refine r_case h (fun ec h => ?_) (fun nc3 h => ?_)
      · refine lv_tableIn (tgt := 94) (off := 58) hx hb dX9_conflict_36 (by rw [ec]; decide) (by rw [ec]; decide) (by rw [ec]; rfl) (by decide) ?_
        refine lv_aload_n hx hb dX9_conflict_94 rfl (lv_at hl 1 rfl) ?_
        refine r_gR C hW h fl_X9_206 (by decide) dX9_conflict_95 (fun b7 h => ?_)
        refine lv_iload_n hx hb dX9_conflict_98 rfl (lv_at hl 3 rfl) ?_
        refine r_iald C hW h dX9_conflict_99 (fun v8 h => ?_)
        exact r_xiret C hzf hW hz hc hm h rfl dX9_conflict_100
      refine r_case h (fun ec h => ?_) (fun nc4 h => ?_)
      · refine lv_tableIn (tgt := 101) (off := 65) hx hb dX9_conflict_36 (by rw [ec]; decide) (by rw [ec]; decide) (by rw [ec]; rfl) (by decide) ?_
        refine lv_aload_n hx hb dX9_conflict_101 rfl (lv_at hl 1 rfl) ?_
        refine r_gR C hW h fl_X9_209 (by decide) dX9_conflict_102 (fun b9 h => ?_)
        refine lv_iload_n hx hb dX9_conflict_105 rfl (lv_at hl 3 rfl) ?_
        refine r_iald C hW h dX9_conflict_106 (fun v10 h => ?_)
        exact r_xiret C hzf hW hz hc hm h rfl dX9_conflict_107
      refine r_case h (fun ec h => ?_) (fun nc5 h => ?_)
      · refine lv_tableIn (tgt := 108) (off := 72) hx hb dX9_conflict_36 (by rw [ec]; decide) (by rw [ec]; decide) (by rw [ec]; rfl) (by decide) ?_
        refine lv_iload hx hb dX9_conflict_108 (lv_at hl 0 rfl) ?_
        refine r_cI hW (run_S (rest := []) C hW (t_X1_choicesOf (X := X2)) mk_X1_choicesOf sk_X9_212 ⟨Nat.le_of_ble_eq_true rfl, Nat.le_of_ble_eq_true rfl⟩ (hm_le hm) rfl rfl (Nat.le_of_ble_eq_true rfl) hl.1 dX9_conflict_110) (fun H locs hW hz1 => ?_)
        have hz := Nat.le_trans hz hz1
        exact r_xiret C hzf hW hz hc hm h rfl dX9_conflict_113
      refine lv_tableOut (tgt := 114) hx hb dX9_conflict_36 (sw_out (lo := 0) (n := 5) (sw_s nc5 (sw_s nc4 (sw_s nc3 (sw_s nc2 (sw_s nc1 (sw_0 nc0)))))) (by decide)) (by decide) ?_
      exact r_throwSN (text := "no such question of a conflict") hst C hno hW hm h ⟨rfl, rfl, rfl⟩ (by decide) ⟨Nat.le_of_ble_eq_true rfl, Nat.le_of_ble_eq_true rfl⟩ hl.1 dX9_conflict_114 dX9_conflict_117 dX9_conflict_118 dX9_conflict_120 dX9_conflict_123
    · exact b_X9_conflict_17 C hst hno hzf hW hz hc hm (lv_sub hl [] rfl) h
theorem kd_X9_count {σ : Sh} {X : Mx} {z : Nat} {r : Hr (Int32 ⊕ Nat)} {a : Nat} {x1 : Int32} (h : f_X9_count σ X z a x1 = some r) : shK σ a = 7 := (grd_inv h).1
set_option maxRecDepth 20000 in
set_option maxHeartbeats 2000000 in
theorem t_X9_count {σ : Sh} {X : Mx} {z : Nat} {r : Hr (Int32 ⊕ Nat)} {a : Nat} {x1 : Int32} (hst : l.stackTraces = false) (h : f_X9_count σ X z a x1 = some r) : HxI g l yX9_count cX9_count 2 (some .int) 6 141 [.ref a, .int x1] σ X z r := by
  obtain ⟨v0, σ0, X0, mc, ms⟩ := r
  refine met_ofX mk_X9_count (by decide +kernel) (Nat.le_of_ble_eq_true rfl) (fun p e s m args below meth c ls C hno hW hzz hl => ?_)
  have hx := C.x
  have hb := C.b
  have hl : lv_has ls 2 [(0, .ref a), (1, .int x1)] := hl
  have hz : z ≤ s.heap.size := Nat.le_of_eq hzz.symm
  have hc : s.heap.size + 0 = z := hzz
  have hzf : s.heap.size + mc = z + mc := by rw [hzz]
  have hm : 0 + mc = mc ∧ 0 + ms = ms := ⟨Nat.zero_add _, Nat.zero_add _⟩
  unfold f_X9_count at h
  obtain ⟨hk0, h⟩ := grd_inv h
  refine lv_iload_n hx hb dX9_count_0 rfl (lv_at hl 1 rfl) ?_
  refine r_case h (fun ec h => ?_) (fun nc0 h => ?_)
  · refine lv_tableIn (tgt := 76) (off := 75) hx hb dX9_count_1 (by rw [ec]; decide) (by rw [ec]; decide) (by rw [ec]; rfl) (by decide) ?_
    refine lv_aload_n hx hb dX9_count_76 rfl (lv_at hl 0 rfl) ?_
    refine r_gR C hW h fl_X9_12 (by decide) dX9_count_77 (fun b1 h => ?_)
    refine r_gR C hW h fl_X9_111 (by decide) dX9_count_80 (fun b2 h => ?_)
    refine r_gI C hW h fl_X9_115 (by decide) dX9_count_83 (fun v3 h => ?_)
    refine r_cI hW (run_S (rest := []) C hW (t_J6_bitCount_0f7a4 (X := X)) mk_J6_bitCount_0f7a4 sk_X9_120 ⟨Nat.le_of_ble_eq_true rfl, Nat.le_of_ble_eq_true rfl⟩ (hm_le hm) rfl rfl (Nat.le_of_ble_eq_true rfl) hl.1 dX9_count_86) (fun H locs hW hz1 => ?_)
    have hz := Nat.le_trans hz hz1
    exact r_xiret C hzf hW hz hc hm h rfl dX9_count_89
  refine r_case h (fun ec h => ?_) (fun nc1 h => ?_)
  · refine lv_tableIn (tgt := 90) (off := 89) hx hb dX9_count_1 (by rw [ec]; decide) (by rw [ec]; decide) (by rw [ec]; rfl) (by decide) ?_
    refine lv_aload_n hx hb dX9_count_90 rfl (lv_at hl 0 rfl) ?_
    refine r_gR C hW h fl_X9_12 (by decide) dX9_count_91 (fun b4 h => ?_)
    refine r_gR C hW h fl_X9_111 (by decide) dX9_count_94 (fun b5 h => ?_)
    refine r_gI C hW h fl_X9_125 (by decide) dX9_count_97 (fun v6 h => ?_)
    refine r_cI hW (run_S (rest := []) C hW (t_J6_bitCount_0f7a4 (X := X)) mk_J6_bitCount_0f7a4 sk_X9_120 ⟨Nat.le_of_ble_eq_true rfl, Nat.le_of_ble_eq_true rfl⟩ (hm_le hm) rfl rfl (Nat.le_of_ble_eq_true rfl) hl.1 dX9_count_100) (fun H locs hW hz1 => ?_)
    have hz := Nat.le_trans hz hz1
    exact r_xiret C hzf hW hz hc hm h rfl dX9_count_103
  refine r_case h (fun ec h => ?_) (fun nc2 h => ?_)
  · refine lv_tableIn (tgt := 104) (off := 103) hx hb dX9_count_1 (by rw [ec]; decide) (by rw [ec]; decide) (by rw [ec]; rfl) (by decide) ?_
    refine lv_aload_n hx hb dX9_count_104 rfl (lv_at hl 0 rfl) ?_
    refine r_gR C hW h fl_X9_12 (by decide) dX9_count_105 (fun b7 h => ?_)
    refine r_gI C hW h fl_X9_128 (by decide) dX9_count_108 (fun v8 h => ?_)
    exact r_xiret C hzf hW hz hc hm h rfl dX9_count_111
  refine r_case h (fun ec h => ?_) (fun nc3 h => ?_)
  · refine lv_tableIn (tgt := 112) (off := 111) hx hb dX9_count_1 (by rw [ec]; decide) (by rw [ec]; decide) (by rw [ec]; rfl) (by decide) ?_
    refine lv_aload_n hx hb dX9_count_112 rfl (lv_at hl 0 rfl) ?_
    obtain ⟨b11, X10, h9, h⟩ := bnd2_inv h
    refine r_cR hW (run_V (rest := []) C hW (t_X9_freshMerge h9) mk_X9_freshMerge vk_X9_131 (kd_X9_freshMerge h9) rfl rfl (by decide) ⟨Nat.le_of_ble_eq_true rfl, Nat.le_of_ble_eq_true rfl⟩ (hm_le hm) rfl rfl (Nat.le_of_ble_eq_true rfl) hl.1 dX9_count_113) (fun H locs hW hz1 => ?_)
    have hz := Nat.le_trans hz hz1
    refine r_gR C hW h fl_X9_135 (by decide) dX9_count_116 (fun b12 h => ?_)
    refine r_gI C hW h fl_X9_115 (by decide) dX9_count_119 (fun v13 h => ?_)
    refine r_cI hW (run_S (rest := []) C hW (t_J6_bitCount_0f7a4 (X := X10)) mk_J6_bitCount_0f7a4 sk_X9_120 ⟨Nat.le_of_ble_eq_true rfl, Nat.le_of_ble_eq_true rfl⟩ (hm_le hm) rfl rfl (Nat.le_of_ble_eq_true rfl) hl.1 dX9_count_122) (fun H locs hW hz1 => ?_)
    have hz := Nat.le_trans hz hz1
    exact r_xiret C hzf hW hz hc hm h rfl dX9_count_125
  refine r_case h (fun ec h => ?_) (fun nc4 h => ?_)
  · refine lv_tableIn (tgt := 126) (off := 125) hx hb dX9_count_1 (by rw [ec]; decide) (by rw [ec]; decide) (by rw [ec]; rfl) (by decide) ?_
    refine lv_aload_n hx hb dX9_count_126 rfl (lv_at hl 0 rfl) ?_
    obtain ⟨b16, X15, h14, h⟩ := bnd2_inv h
    refine r_cR hW (run_V (rest := []) C hW (t_X9_freshMerge h14) mk_X9_freshMerge vk_X9_131 (kd_X9_freshMerge h14) rfl rfl (by decide) ⟨Nat.le_of_ble_eq_true rfl, Nat.le_of_ble_eq_true rfl⟩ (hm_le hm) rfl rfl (Nat.le_of_ble_eq_true rfl) hl.1 dX9_count_127) (fun H locs hW hz1 => ?_)
    have hz := Nat.le_trans hz hz1
    refine r_gR C hW h fl_X9_135 (by decide) dX9_count_130 (fun b17 h => ?_)
    refine r_gI C hW h fl_X9_125 (by decide) dX9_count_133 (fun v18 h => ?_)
    refine r_cI hW (run_S (rest := []) C hW (t_J6_bitCount_0f7a4 (X := X15)) mk_J6_bitCount_0f7a4 sk_X9_120 ⟨Nat.le_of_ble_eq_true rfl, Nat.le_of_ble_eq_true rfl⟩ (hm_le hm) rfl rfl (Nat.le_of_ble_eq_true rfl) hl.1 dX9_count_136) (fun H locs hW hz1 => ?_)
    have hz := Nat.le_trans hz hz1
    exact r_xiret C hzf hW hz hc hm h rfl dX9_count_139
  refine r_case h (fun ec h => ?_) (fun nc5 h => ?_)
  · refine lv_tableIn (tgt := 140) (off := 139) hx hb dX9_count_1 (by rw [ec]; decide) (by rw [ec]; decide) (by rw [ec]; rfl) (by decide) ?_
    refine lv_aload_n hx hb dX9_count_140 rfl (lv_at hl 0 rfl) ?_
    obtain ⟨b21, X20, h19, h⟩ := bnd2_inv h
    refine r_cR hW (run_V (rest := []) C hW (t_X9_freshMerge h19) mk_X9_freshMerge vk_X9_131 (kd_X9_freshMerge h19) rfl rfl (by decide) ⟨Nat.le_of_ble_eq_true rfl, Nat.le_of_ble_eq_true rfl⟩ (hm_le hm) rfl rfl (Nat.le_of_ble_eq_true rfl) hl.1 dX9_count_141) (fun H locs hW hz1 => ?_)
    have hz := Nat.le_trans hz hz1
    refine r_gI C hW h fl_X9_138 (by decide) dX9_count_144 (fun v22 h => ?_)
    exact r_xiret C hzf hW hz hc hm h rfl dX9_count_147
  refine r_case h (fun ec h => ?_) (fun nc6 h => ?_)
  · refine lv_tableIn (tgt := 148) (off := 147) hx hb dX9_count_1 (by rw [ec]; decide) (by rw [ec]; decide) (by rw [ec]; rfl) (by decide) ?_
    refine lv_aload_n hx hb dX9_count_148 rfl (lv_at hl 0 rfl) ?_
    refine r_gR C hW h fl_X9_12 (by decide) dX9_count_149 (fun b23 h => ?_)
    obtain ⟨v25, h24, h⟩ := bnd_inv h
    refine r_cI hW (run_V (rest := []) C hW (t_X5_countChoices h24) mk_X5_countChoices vk_X9_141 (kd_X5_countChoices h24) rfl rfl (by decide) ⟨Nat.le_of_ble_eq_true rfl, Nat.le_of_ble_eq_true rfl⟩ (hm_le hm) rfl rfl (Nat.le_of_ble_eq_true rfl) hl.1 dX9_count_152) (fun H locs hW hz1 => ?_)
    have hz := Nat.le_trans hz hz1
    exact r_xiret C hzf hW hz hc hm h rfl dX9_count_155
  refine r_case h (fun ec h => ?_) (fun nc7 h => ?_)
  · refine lv_tableIn (tgt := 156) (off := 155) hx hb dX9_count_1 (by rw [ec]; decide) (by rw [ec]; decide) (by rw [ec]; rfl) (by decide) ?_
    refine lv_aload_n hx hb dX9_count_156 rfl (lv_at hl 0 rfl) ?_
    refine r_gR C hW h fl_X9_12 (by decide) dX9_count_157 (fun b26 h => ?_)
    obtain ⟨v28, h27, h⟩ := bnd_inv h
    refine r_cI hW (run_V (rest := []) C hW (t_X5_countChoices h27) mk_X5_countChoices vk_X9_141 (kd_X5_countChoices h27) rfl rfl (by decide) ⟨Nat.le_of_ble_eq_true rfl, Nat.le_of_ble_eq_true rfl⟩ (hm_le hm) rfl rfl (Nat.le_of_ble_eq_true rfl) hl.1 dX9_count_160) (fun H locs hW hz1 => ?_)
    have hz := Nat.le_trans hz hz1
    refine lv_aload_n hx hb dX9_count_163 rfl (lv_at hl 0 rfl) ?_
    obtain ⟨b31, X30, h29, h⟩ := bnd2_inv h
    refine r_cR hW (run_V (rest := [.int v28]) C hW (t_X9_freshMerge h29) mk_X9_freshMerge vk_X9_131 (kd_X9_freshMerge h29) rfl rfl (by decide) ⟨Nat.le_of_ble_eq_true rfl, Nat.le_of_ble_eq_true rfl⟩ (hm_le hm) rfl rfl (Nat.le_of_ble_eq_true rfl) hl.1 dX9_count_164) (fun H locs hW hz1 => ?_)
    have hz := Nat.le_trans hz hz1
    refine r_gI C hW h fl_X9_145 (by decide) dX9_count_167 (fun v32 h => ?_)
    refine lv_isub hx hb dX9_count_170 ?_
    exact r_xiret C hzf hW hz hc hm h rfl dX9_count_171
  refine r_case h (fun ec h => ?_) (fun nc8 h => ?_)
  · refine lv_tableIn (tgt := 172) (off := 171) hx hb dX9_count_1 (by rw [ec]; decide) (by rw [ec]; decide) (by rw [ec]; rfl) (by decide) ?_
    refine lv_aload_n hx hb dX9_count_172 rfl (lv_at hl 0 rfl) ?_
    obtain ⟨b35, X34, h33, h⟩ := bnd2_inv h
    refine r_cR hW (run_V (rest := []) C hW (t_X9_freshMerge h33) mk_X9_freshMerge vk_X9_131 (kd_X9_freshMerge h33) rfl rfl (by decide) ⟨Nat.le_of_ble_eq_true rfl, Nat.le_of_ble_eq_true rfl⟩ (hm_le hm) rfl rfl (Nat.le_of_ble_eq_true rfl) hl.1 dX9_count_173) (fun H locs hW hz1 => ?_)
    have hz := Nat.le_trans hz hz1
    refine r_gR C hW h fl_X9_135 (by decide) dX9_count_176 (fun b36 h => ?_)
    obtain ⟨v38, h37, h⟩ := bnd_inv h
    refine r_cI hW (run_V (rest := []) C hW (t_X6_countFull h37) mk_X6_countFull vk_X9_148 (kd_X6_countFull h37) rfl rfl (by decide) ⟨Nat.le_of_ble_eq_true rfl, Nat.le_of_ble_eq_true rfl⟩ (hm_le hm) rfl rfl (Nat.le_of_ble_eq_true rfl) hl.1 dX9_count_179) (fun H locs hW hz1 => ?_)
    have hz := Nat.le_trans hz hz1
    exact r_xiret C hzf hW hz hc hm h rfl dX9_count_182
  refine r_case h (fun ec h => ?_) (fun nc9 h => ?_)
  · refine lv_tableIn (tgt := 183) (off := 182) hx hb dX9_count_1 (by rw [ec]; decide) (by rw [ec]; decide) (by rw [ec]; rfl) (by decide) ?_
    refine lv_aload_n hx hb dX9_count_183 rfl (lv_at hl 0 rfl) ?_
    refine r_gR C hW h fl_X9_33 (by decide) dX9_count_184 (fun b39 h => ?_)
    refine r_gI C hW h fl_X9_151 (by decide) dX9_count_187 (fun v40 h => ?_)
    exact r_xiret C hzf hW hz hc hm h rfl dX9_count_190
  refine r_case h (fun ec h => ?_) (fun nc10 h => ?_)
  · refine lv_tableIn (tgt := 191) (off := 190) hx hb dX9_count_1 (by rw [ec]; decide) (by rw [ec]; decide) (by rw [ec]; rfl) (by decide) ?_
    refine lv_aload_n hx hb dX9_count_191 rfl (lv_at hl 0 rfl) ?_
    refine r_gR C hW h fl_X9_40 (by decide) dX9_count_192 (fun b41 h => ?_)
    refine r_gI C hW h fl_X9_152 (by decide) dX9_count_195 (fun v42 h => ?_)
    exact r_xiret C hzf hW hz hc hm h rfl dX9_count_198
  refine r_case h (fun ec h => ?_) (fun nc11 h => ?_)
  · refine lv_tableIn (tgt := 199) (off := 198) hx hb dX9_count_1 (by rw [ec]; decide) (by rw [ec]; decide) (by rw [ec]; rfl) (by decide) ?_
    refine lv_aload_n hx hb dX9_count_199 rfl (lv_at hl 0 rfl) ?_
    refine r_gR C hW h fl_X9_26 (by decide) dX9_count_200 (fun b43 h => ?_)
    refine r_gI C hW h fl_X9_76 (by decide) dX9_count_203 (fun v44 h => ?_)
    exact r_xiret C hzf hW hz hc hm h rfl dX9_count_206
  refine r_case h (fun ec h => ?_) (fun nc12 h => ?_)
  · refine lv_tableIn (tgt := 207) (off := 206) hx hb dX9_count_1 (by rw [ec]; decide) (by rw [ec]; decide) (by rw [ec]; rfl) (by decide) ?_
    refine lv_aload_n hx hb dX9_count_207 rfl (lv_at hl 0 rfl) ?_
    refine r_gR C hW h fl_X9_64 (by decide) dX9_count_208 (fun b45 h => ?_)
    refine lv_iconst (v := 0) hx hb dX9_count_211 (by decide) ?_
    refine r_iald C hW h dX9_count_212 (fun v46 h => ?_)
    exact r_xiret C hzf hW hz hc hm h rfl dX9_count_213
  refine r_case h (fun ec h => ?_) (fun nc13 h => ?_)
  · refine lv_tableIn (tgt := 214) (off := 213) hx hb dX9_count_1 (by rw [ec]; decide) (by rw [ec]; decide) (by rw [ec]; rfl) (by decide) ?_
    refine lv_aload_n hx hb dX9_count_214 rfl (lv_at hl 0 rfl) ?_
    refine r_gR C hW h fl_X9_64 (by decide) dX9_count_215 (fun b47 h => ?_)
    refine lv_iconst (v := 1) hx hb dX9_count_218 (by decide) ?_
    refine r_iald C hW h dX9_count_219 (fun v48 h => ?_)
    exact r_xiret C hzf hW hz hc hm h rfl dX9_count_220
  refine r_case h (fun ec h => ?_) (fun nc14 h => ?_)
  · refine lv_tableIn (tgt := 221) (off := 220) hx hb dX9_count_1 (by rw [ec]; decide) (by rw [ec]; decide) (by rw [ec]; rfl) (by decide) ?_
    refine lv_aload_n hx hb dX9_count_221 rfl (lv_at hl 0 rfl) ?_
    refine r_gR C hW h fl_X9_64 (by decide) dX9_count_222 (fun b49 h => ?_)
    refine lv_iconst (v := 2) hx hb dX9_count_225 (by decide) ?_
    refine r_iald C hW h dX9_count_226 (fun v50 h => ?_)
    exact r_xiret C hzf hW hz hc hm h rfl dX9_count_227
  refine lv_tableOut (tgt := 228) hx hb dX9_count_1 (sw_out (lo := 0) (n := 14) (sw_s nc14 (sw_s nc13 (sw_s nc12 (sw_s nc11 (sw_s nc10 (sw_s nc9 (sw_s nc8 (sw_s nc7 (sw_s nc6 (sw_s nc5 (sw_s nc4 (sw_s nc3 (sw_s nc2 (sw_s nc1 (sw_0 nc0))))))))))))))) (by decide)) (by decide) ?_
  exact r_throwSN (text := "no such count") hst C hno hW hm h ⟨rfl, rfl, rfl⟩ (by decide) ⟨Nat.le_of_ble_eq_true rfl, Nat.le_of_ble_eq_true rfl⟩ hl.1 dX9_count_228 dX9_count_231 dX9_count_232 dX9_count_234 dX9_count_237
theorem kd_X9_delete {σ : Sh} {X : Mx} {z : Nat} {r : Hr (Int32 ⊕ Nat)} {a : Nat} {x1 : Int32} {x2 : Int32} (h : f_X9_delete σ X z a x1 x2 = some r) : shK σ a = 7 := (grd_inv h).1
set_option maxRecDepth 20000 in
set_option maxHeartbeats 2000000 in
theorem t_X9_delete {σ : Sh} {X : Mx} {z : Nat} {r : Hr (Int32 ⊕ Nat)} {a : Nat} {x1 : Int32} {x2 : Int32} (hst : l.stackTraces = false) (h : f_X9_delete σ X z a x1 x2 = some r) : HxI g l yX9_delete cX9_delete 3 (some .boolean) 8 136 [.ref a, .int x1, .int x2] σ X z r := by
  obtain ⟨v0, σ0, X0, mc, ms⟩ := r
  refine met_ofX mk_X9_delete (by decide +kernel) (Nat.le_of_ble_eq_true rfl) (fun p e s m args below meth c ls C hno hW hzz hl => ?_)
  have hx := C.x
  have hb := C.b
  have hl : lv_has ls 3 [(0, .ref a), (1, .int x1), (2, .int x2)] := hl
  have hz : z ≤ s.heap.size := Nat.le_of_eq hzz.symm
  have hc : s.heap.size + 0 = z := hzz
  have hzf : s.heap.size + mc = z + mc := by rw [hzz]
  have hm : 0 + mc = mc ∧ 0 + ms = ms := ⟨Nat.zero_add _, Nat.zero_add _⟩
  unfold f_X9_delete at h
  obtain ⟨hk0, h⟩ := grd_inv h
  refine lv_aload_n hx hb dX9_delete_0 rfl (lv_at hl 0 rfl) ?_
  refine lv_iconst (v := 2) hx hb dX9_delete_1 (by decide) ?_
  refine lv_iload_n hx hb dX9_delete_2 rfl (lv_at hl 1 rfl) ?_
  refine lv_iload_n hx hb dX9_delete_3 rfl (lv_at hl 2 rfl) ?_
  refine lv_iconst (v := 0) hx hb dX9_delete_4 (by decide) ?_
  refine lv_iconst (v := 0) hx hb dX9_delete_5 (by decide) ?_
  obtain ⟨o9, h1, h⟩ := bndX_inv h
  refine c_XV_I (rest := []) C hno hW hz hc hm h (t_X9_editByHand hst h1) mk_X9_editByHand vk_X9_217 (kd_X9_editByHand h1) rfl rfl (by decide) ⟨Nat.le_of_ble_eq_true rfl, Nat.le_of_ble_eq_true rfl⟩ rfl rfl (Nat.le_of_ble_eq_true rfl) hl.1 dX9_delete_6 (fun v1 σ1 X1 c1 d1 H locs cells slots cu du ho h hW hz hc hm => ?_)
  refine lv_iconst (v := (-1)) hx hb dX9_delete_9 (by decide) ?_
  refine r_br h (lv_icmp_eq (tgt := 17) hx hb dX9_delete_10 (by decide)) (fun h => ?_) (fun h => ?_)
  · refine lv_iconst (v := 0) hx hb dX9_delete_17 (by decide) ?_
    exact r_xiret C hzf hW hz hc hm h rfl dX9_delete_18
  · refine lv_iconst (v := 1) hx hb dX9_delete_13 (by decide) ?_
    refine lv_goto (tgt := 18) hx hb dX9_delete_14 (by decide) ?_
    exact r_xiret C hzf hW hz hc hm h rfl dX9_delete_18
theorem kd_X9_difference {σ : Sh} {X : Mx} {z : Nat} {r : Hr (Int32 ⊕ Nat)} {a : Nat} {x1 : Int32} {x2 : Int32} (h : f_X9_difference σ X z a x1 x2 = some r) : shK σ a = 7 := (grd_inv h).1
set_option maxRecDepth 20000 in
set_option maxHeartbeats 2000000 in
theorem t_X9_difference {σ : Sh} {X : Mx} {z : Nat} {r : Hr (Int32 ⊕ Nat)} {a : Nat} {x1 : Int32} {x2 : Int32} (hst : l.stackTraces = false) (h : f_X9_difference σ X z a x1 x2 = some r) : HxI g l yX9_difference cX9_difference 5 (some .int) 7 110 [.ref a, .int x1, .int x2] σ X z r := by
  obtain ⟨v0, σ0, X0, mc, ms⟩ := r
  refine met_ofX mk_X9_difference (by decide +kernel) (Nat.le_of_ble_eq_true rfl) (fun p e s m args below meth c ls C hno hW hzz hl => ?_)
  have hx := C.x
  have hb := C.b
  have hl : lv_has ls 5 [(0, .ref a), (1, .int x1), (2, .int x2)] := hl
  have hz : z ≤ s.heap.size := Nat.le_of_eq hzz.symm
  have hc : s.heap.size + 0 = z := hzz
  have hzf : s.heap.size + mc = z + mc := by rw [hzz]
  have hm : 0 + mc = mc ∧ 0 + ms = ms := ⟨Nat.zero_add _, Nat.zero_add _⟩
  unfold f_X9_difference at h
  obtain ⟨hk0, h⟩ := grd_inv h
  refine lv_iload_n hx hb dX9_difference_0 rfl (lv_at hl 1 rfl) ?_
  obtain ⟨o9, h1, h⟩ := bndX_inv h
  refine c_XS_V (rest := []) C hno hW hz hc hm h (t_X9_demandSide hst h1) mk_X9_demandSide sk_X9_251 ⟨Nat.le_of_ble_eq_true rfl, Nat.le_of_ble_eq_true rfl⟩ rfl rfl (Nat.le_of_ble_eq_true rfl) hl.1 dX9_difference_1 (fun u1 σ1 X1 c1 d1 H locs cells slots cu du ho h hW hz hc hm => ?_)
  refine lv_aload_n hx hb dX9_difference_4 rfl (lv_at hl 0 rfl) ?_
  refine r_gR C hW h fl_X9_12 (by decide) dX9_difference_5 (fun b2 h => ?_)
  refine lv_iload_n hx hb dX9_difference_8 rfl (lv_at hl 1 rfl) ?_
  obtain ⟨b4, h3, h⟩ := bnd_inv h
  refine r_cR hW (run_V (rest := []) C hW (t_X5_sideOf h3) mk_X5_sideOf vk_X9_254 (kd_X5_sideOf h3) rfl rfl (by decide) ⟨Nat.le_of_ble_eq_true rfl, Nat.le_of_ble_eq_true rfl⟩ (hm_le hm) rfl rfl (Nat.le_of_ble_eq_true rfl) hl.1 dX9_difference_9) (fun H locs hW hz1 => ?_)
  have hz := Nat.le_trans hz hz1
  refine lv_astore_n (lv' := [(3, .ref b4), (0, .ref a), (1, .int x1), (2, .int x2)]) hx hb dX9_difference_12 rfl hl (by decide) rfl (fun ls hl => ?_)
  refine lv_aload_n hx hb dX9_difference_13 rfl (lv_at hl 1 rfl) ?_
  refine r_gR C hW h fl_X9_12 (by decide) dX9_difference_14 (fun b5 h => ?_)
  refine r_gR C hW h fl_X9_111 (by decide) dX9_difference_17 (fun b6 h => ?_)
  refine lv_astore (lv' := [(4, .ref b6), (3, .ref b4), (0, .ref a), (1, .int x1), (2, .int x2)]) hx hb dX9_difference_20 hl (by decide) rfl (fun ls hl => ?_)
  refine lv_iload_n hx hb dX9_difference_22 rfl (lv_at hl 4 rfl) ?_
  refine r_case h (fun ec h => ?_) (fun nc0 h => ?_)
  · refine lv_tableIn (tgt := 64) (off := 41) hx hb dX9_difference_23 (by rw [ec]; decide) (by rw [ec]; decide) (by rw [ec]; rfl) (by decide) ?_
    refine lv_aload_n hx hb dX9_difference_64 rfl (lv_at hl 2 rfl) ?_
    refine r_gR C hW h fl_X9_12 (by decide) dX9_difference_65 (fun b7 h => ?_)
    refine lv_iload_n hx hb dX9_difference_68 rfl (lv_at hl 3 rfl) ?_
    obtain ⟨v9, h8, h⟩ := bnd_inv h
    refine r_cI hW (run_V (rest := []) C hW (t_X5_countChanged h8) mk_X5_countChanged vk_X9_257 (kd_X5_countChanged h8) rfl rfl (by decide) ⟨Nat.le_of_ble_eq_true rfl, Nat.le_of_ble_eq_true rfl⟩ (hm_le hm) rfl rfl (Nat.le_of_ble_eq_true rfl) hl.1 dX9_difference_69) (fun H locs hW hz1 => ?_)
    have hz := Nat.le_trans hz hz1
    exact r_xiret C hzf hW hz hc hm h rfl dX9_difference_72
  refine r_case h (fun ec h => ?_) (fun nc1 h => ?_)
  · refine lv_tableIn (tgt := 73) (off := 50) hx hb dX9_difference_23 (by rw [ec]; decide) (by rw [ec]; decide) (by rw [ec]; rfl) (by decide) ?_
    refine lv_aload_n hx hb dX9_difference_73 rfl (lv_at hl 1 rfl) ?_
    refine r_gI C hW h fl_X9_125 (by decide) dX9_difference_74 (fun v10 h => ?_)
    refine lv_aload hx hb dX9_difference_77 (lv_at hl 0 rfl) ?_
    refine r_gI C hW h fl_X9_125 (by decide) dX9_difference_79 (fun v11 h => ?_)
    refine lv_iconst (v := (-1)) hx hb dX9_difference_82 (by decide) ?_
    refine lv_ixor hx hb dX9_difference_83 ?_
    refine lv_iand hx hb dX9_difference_84 ?_
    refine r_cI hW (run_S (rest := []) C hW (t_J6_bitCount_0f7a4 (X := X1)) mk_J6_bitCount_0f7a4 sk_X9_120 ⟨Nat.le_of_ble_eq_true rfl, Nat.le_of_ble_eq_true rfl⟩ (hm_le hm) rfl rfl (Nat.le_of_ble_eq_true rfl) hl.1 dX9_difference_85) (fun H locs hW hz1 => ?_)
    have hz := Nat.le_trans hz hz1
    exact r_xiret C hzf hW hz hc hm h rfl dX9_difference_88
  refine r_case h (fun ec h => ?_) (fun nc2 h => ?_)
  · refine lv_tableIn (tgt := 89) (off := 66) hx hb dX9_difference_23 (by rw [ec]; decide) (by rw [ec]; decide) (by rw [ec]; rfl) (by decide) ?_
    refine lv_aload hx hb dX9_difference_89 (lv_at hl 0 rfl) ?_
    refine r_gI C hW h fl_X9_125 (by decide) dX9_difference_91 (fun v12 h => ?_)
    refine lv_aload_n hx hb dX9_difference_94 rfl (lv_at hl 1 rfl) ?_
    refine r_gI C hW h fl_X9_125 (by decide) dX9_difference_95 (fun v13 h => ?_)
    refine lv_iconst (v := (-1)) hx hb dX9_difference_98 (by decide) ?_
    refine lv_ixor hx hb dX9_difference_99 ?_
    refine lv_iand hx hb dX9_difference_100 ?_
    refine r_cI hW (run_S (rest := []) C hW (t_J6_bitCount_0f7a4 (X := X1)) mk_J6_bitCount_0f7a4 sk_X9_120 ⟨Nat.le_of_ble_eq_true rfl, Nat.le_of_ble_eq_true rfl⟩ (hm_le hm) rfl rfl (Nat.le_of_ble_eq_true rfl) hl.1 dX9_difference_101) (fun H locs hW hz1 => ?_)
    have hz := Nat.le_trans hz hz1
    exact r_xiret C hzf hW hz hc hm h rfl dX9_difference_104
  refine r_case h (fun ec h => ?_) (fun nc3 h => ?_)
  · refine lv_tableIn (tgt := 105) (off := 82) hx hb dX9_difference_23 (by rw [ec]; decide) (by rw [ec]; decide) (by rw [ec]; rfl) (by decide) ?_
    refine lv_aload_n hx hb dX9_difference_105 rfl (lv_at hl 1 rfl) ?_
    refine r_gI C hW h fl_X9_115 (by decide) dX9_difference_106 (fun v14 h => ?_)
    refine lv_aload hx hb dX9_difference_109 (lv_at hl 0 rfl) ?_
    refine r_gI C hW h fl_X9_115 (by decide) dX9_difference_111 (fun v15 h => ?_)
    refine lv_iconst (v := (-1)) hx hb dX9_difference_114 (by decide) ?_
    refine lv_ixor hx hb dX9_difference_115 ?_
    refine lv_iand hx hb dX9_difference_116 ?_
    refine r_cI hW (run_S (rest := []) C hW (t_J6_bitCount_0f7a4 (X := X1)) mk_J6_bitCount_0f7a4 sk_X9_120 ⟨Nat.le_of_ble_eq_true rfl, Nat.le_of_ble_eq_true rfl⟩ (hm_le hm) rfl rfl (Nat.le_of_ble_eq_true rfl) hl.1 dX9_difference_117) (fun H locs hW hz1 => ?_)
    have hz := Nat.le_trans hz hz1
    exact r_xiret C hzf hW hz hc hm h rfl dX9_difference_120
  refine r_case h (fun ec h => ?_) (fun nc4 h => ?_)
  · refine lv_tableIn (tgt := 121) (off := 98) hx hb dX9_difference_23 (by rw [ec]; decide) (by rw [ec]; decide) (by rw [ec]; rfl) (by decide) ?_
    refine lv_aload hx hb dX9_difference_121 (lv_at hl 0 rfl) ?_
    refine r_gI C hW h fl_X9_115 (by decide) dX9_difference_123 (fun v16 h => ?_)
    refine lv_aload_n hx hb dX9_difference_126 rfl (lv_at hl 1 rfl) ?_
    refine r_gI C hW h fl_X9_115 (by decide) dX9_difference_127 (fun v17 h => ?_)
    refine lv_iconst (v := (-1)) hx hb dX9_difference_130 (by decide) ?_
    refine lv_ixor hx hb dX9_difference_131 ?_
    refine lv_iand hx hb dX9_difference_132 ?_
    refine r_cI hW (run_S (rest := []) C hW (t_J6_bitCount_0f7a4 (X := X1)) mk_J6_bitCount_0f7a4 sk_X9_120 ⟨Nat.le_of_ble_eq_true rfl, Nat.le_of_ble_eq_true rfl⟩ (hm_le hm) rfl rfl (Nat.le_of_ble_eq_true rfl) hl.1 dX9_difference_133) (fun H locs hW hz1 => ?_)
    have hz := Nat.le_trans hz hz1
    exact r_xiret C hzf hW hz hc hm h rfl dX9_difference_136
  refine r_case h (fun ec h => ?_) (fun nc5 h => ?_)
  · refine lv_tableIn (tgt := 137) (off := 114) hx hb dX9_difference_23 (by rw [ec]; decide) (by rw [ec]; decide) (by rw [ec]; rfl) (by decide) ?_
    refine lv_aload_n hx hb dX9_difference_137 rfl (lv_at hl 1 rfl) ?_
    refine lv_aload hx hb dX9_difference_138 (lv_at hl 0 rfl) ?_
    obtain ⟨v19, h18, h⟩ := bnd_inv h
    refine r_cI hW (run_V (rest := []) C hW (t_X6_countOtherNames h18) mk_X6_countOtherNames vk_X9_260 (kd_X6_countOtherNames h18) rfl rfl (by decide) ⟨Nat.le_of_ble_eq_true rfl, Nat.le_of_ble_eq_true rfl⟩ (hm_le hm) rfl rfl (Nat.le_of_ble_eq_true rfl) hl.1 dX9_difference_140) (fun H locs hW hz1 => ?_)
    have hz := Nat.le_trans hz hz1
    exact r_xiret C hzf hW hz hc hm h rfl dX9_difference_143
  refine r_case h (fun ec h => ?_) (fun nc6 h => ?_)
  · refine lv_tableIn (tgt := 144) (off := 121) hx hb dX9_difference_23 (by rw [ec]; decide) (by rw [ec]; decide) (by rw [ec]; rfl) (by decide) ?_
    refine lv_aload_n hx hb dX9_difference_144 rfl (lv_at hl 1 rfl) ?_
    refine lv_aload hx hb dX9_difference_145 (lv_at hl 0 rfl) ?_
    obtain ⟨v21, h20, h⟩ := bnd_inv h
    refine r_cI hW (run_V (rest := []) C hW (t_X6_countOtherTypes h20) mk_X6_countOtherTypes vk_X9_264 (kd_X6_countOtherTypes h20) rfl rfl (by decide) ⟨Nat.le_of_ble_eq_true rfl, Nat.le_of_ble_eq_true rfl⟩ (hm_le hm) rfl rfl (Nat.le_of_ble_eq_true rfl) hl.1 dX9_difference_147) (fun H locs hW hz1 => ?_)
    have hz := Nat.le_trans hz hz1
    exact r_xiret C hzf hW hz hc hm h rfl dX9_difference_150
  refine lv_tableOut (tgt := 151) hx hb dX9_difference_23 (sw_out (lo := 0) (n := 6) (sw_s nc6 (sw_s nc5 (sw_s nc4 (sw_s nc3 (sw_s nc2 (sw_s nc1 (sw_0 nc0))))))) (by decide)) (by decide) ?_
  exact r_throwSWN (text := "no such difference") hst C hno hW hm h ⟨rfl, rfl, rfl⟩ (by decide) ⟨Nat.le_of_ble_eq_true rfl, Nat.le_of_ble_eq_true rfl⟩ hl.1 dX9_difference_151 dX9_difference_154 dX9_difference_155 dX9_difference_158 dX9_difference_161
theorem kd_X9_drop {σ : Sh} {X : Mx} {z : Nat} {r : Hr (Int32 ⊕ Nat)} {a : Nat} {x1 : Int32} {x2 : Int32} (h : f_X9_drop σ X z a x1 x2 = some r) : shK σ a = 7 := (grd_inv h).1
set_option maxRecDepth 20000 in
set_option maxHeartbeats 2000000 in
theorem t_X9_drop {σ : Sh} {X : Mx} {z : Nat} {r : Hr (Int32 ⊕ Nat)} {a : Nat} {x1 : Int32} {x2 : Int32} (hst : l.stackTraces = false) (h : f_X9_drop σ X z a x1 x2 = some r) : HxI g l yX9_drop cX9_drop 3 (some .boolean) 8 136 [.ref a, .int x1, .int x2] σ X z r := by
  obtain ⟨v0, σ0, X0, mc, ms⟩ := r
  refine met_ofX mk_X9_drop (by decide +kernel) (Nat.le_of_ble_eq_true rfl) (fun p e s m args below meth c ls C hno hW hzz hl => ?_)
  have hx := C.x
  have hb := C.b
  have hl : lv_has ls 3 [(0, .ref a), (1, .int x1), (2, .int x2)] := hl
  have hz : z ≤ s.heap.size := Nat.le_of_eq hzz.symm
  have hc : s.heap.size + 0 = z := hzz
  have hzf : s.heap.size + mc = z + mc := by rw [hzz]
  have hm : 0 + mc = mc ∧ 0 + ms = ms := ⟨Nat.zero_add _, Nat.zero_add _⟩
  unfold f_X9_drop at h
  obtain ⟨hk0, h⟩ := grd_inv h
  refine lv_aload_n hx hb dX9_drop_0 rfl (lv_at hl 0 rfl) ?_
  refine lv_bipush (v := 6) hx hb dX9_drop_1 (by decide) ?_
  refine lv_iload_n hx hb dX9_drop_3 rfl (lv_at hl 1 rfl) ?_
  refine lv_iload_n hx hb dX9_drop_4 rfl (lv_at hl 2 rfl) ?_
  refine lv_iconst (v := 0) hx hb dX9_drop_5 (by decide) ?_
  refine lv_iconst (v := 0) hx hb dX9_drop_6 (by decide) ?_
  obtain ⟨o9, h1, h⟩ := bndX_inv h
  refine c_XV_I (rest := []) C hno hW hz hc hm h (t_X9_editByHand hst h1) mk_X9_editByHand vk_X9_217 (kd_X9_editByHand h1) rfl rfl (by decide) ⟨Nat.le_of_ble_eq_true rfl, Nat.le_of_ble_eq_true rfl⟩ rfl rfl (Nat.le_of_ble_eq_true rfl) hl.1 dX9_drop_7 (fun v1 σ1 X1 c1 d1 H locs cells slots cu du ho h hW hz hc hm => ?_)
  refine lv_iconst (v := (-1)) hx hb dX9_drop_10 (by decide) ?_
  refine r_br h (lv_icmp_eq (tgt := 18) hx hb dX9_drop_11 (by decide)) (fun h => ?_) (fun h => ?_)
  · refine lv_iconst (v := 0) hx hb dX9_drop_18 (by decide) ?_
    exact r_xiret C hzf hW hz hc hm h rfl dX9_drop_19
  · refine lv_iconst (v := 1) hx hb dX9_drop_14 (by decide) ?_
    refine lv_goto (tgt := 19) hx hb dX9_drop_15 (by decide) ?_
    exact r_xiret C hzf hW hz hc hm h rfl dX9_drop_19
set_option maxRecDepth 20000 in
set_option maxHeartbeats 2000000 in
theorem b_X9_edited_30 {a : Nat} {x1 : Int32} (C : Cx g RX9 cX9_edited 2 (some .int) p s m args meth c) {mc ms zf : Nat} {v0 : (Int32 ⊕ Nat)} {σ0 : Sh} {X0 : Mx} (hst : l.stackTraces = false) (hno : ∀ x ∈ c.exceptionTable.toList, False) (hzf : s.heap.size + mc = zf) {σ : Sh} {X : Mx} {z cu du cells slots : Nat} {H : Heap} {locs : List Loc} {ls : Array Slot} (hW : Wd g σ X s H locs) (hz : z ≤ H.size) (hc : s.heap.size + cells = z) (hm : cells + cu = mc ∧ slots + du = ms) (hl : lv_has ls 2 [(0, .ref a), (1, .int x1)]) (h : f_X9_edited_30 a x1 σ X z = some (v0, σ0, X0, cu, du)) : W p l e (rmH 7 175 mc ms) s m args below meth c H locs cells slots (QXI g below args s mc ms zf v0 σ0 X0) (F0 m 30 ls []) := by
  have hx := C.x
  have hb := C.b
  unfold f_X9_edited_30 at h
  refine lv_aload_n hx hb dX9_edited_30 rfl (lv_at hl 0 rfl) ?_
  refine r_gR C hW h fl_X9_47 (by decide) dX9_edited_31 (fun b1 h => ?_)
  refine lv_iconst (v := 5) hx hb dX9_edited_34 (by decide) ?_
  refine lv_iload_n hx hb dX9_edited_35 rfl (lv_at hl 1 rfl) ?_
  obtain ⟨v3, h2, h⟩ := bnd_inv h
  refine r_cI hW (run_V (rest := []) C hW (t_X3_answerTo h2) mk_X3_answerTo vk_X9_281 (kd_X3_answerTo h2) rfl rfl (by decide) ⟨Nat.le_of_ble_eq_true rfl, Nat.le_of_ble_eq_true rfl⟩ (hm_le hm) rfl rfl (Nat.le_of_ble_eq_true rfl) hl.1 dX9_edited_36) (fun H locs hW hz1 => ?_)
  have hz := Nat.le_trans hz hz1
  exact r_xiret C hzf hW hz hc hm h rfl dX9_edited_39
theorem kd_X9_edited {σ : Sh} {X : Mx} {z : Nat} {r : Hr (Int32 ⊕ Nat)} {a : Nat} {x1 : Int32} (h : f_X9_edited σ X z a x1 = some r) : shK σ a = 7 := (grd_inv h).1
set_option maxRecDepth 20000 in
set_option maxHeartbeats 2000000 in
theorem t_X9_edited {σ : Sh} {X : Mx} {z : Nat} {r : Hr (Int32 ⊕ Nat)} {a : Nat} {x1 : Int32} (hst : l.stackTraces = false) (h : f_X9_edited σ X z a x1 = some r) : HxI g l yX9_edited cX9_edited 2 (some .int) 7 175 [.ref a, .int x1] σ X z r := by
  obtain ⟨v0, σ0, X0, mc, ms⟩ := r
  refine met_ofX mk_X9_edited (by decide +kernel) (Nat.le_of_ble_eq_true rfl) (fun p e s m args below meth c ls C hno hW hzz hl => ?_)
  have hx := C.x
  have hb := C.b
  have hl : lv_has ls 2 [(0, .ref a), (1, .int x1)] := hl
  have hz : z ≤ s.heap.size := Nat.le_of_eq hzz.symm
  have hc : s.heap.size + 0 = z := hzz
  have hzf : s.heap.size + mc = z + mc := by rw [hzz]
  have hm : 0 + mc = mc ∧ 0 + ms = ms := ⟨Nat.zero_add _, Nat.zero_add _⟩
  unfold f_X9_edited at h
  obtain ⟨hk0, h⟩ := grd_inv h
  refine lv_iload_n hx hb dX9_edited_0 rfl (lv_at hl 1 rfl) ?_
  obtain ⟨o9, h1, h⟩ := bndX_inv h
  refine c_XS_V (rest := []) C hno hW hz hc hm h (t_X9_demandThreefold hst h1) mk_X9_demandThreefold sk_X9_269 ⟨Nat.le_of_ble_eq_true rfl, Nat.le_of_ble_eq_true rfl⟩ rfl rfl (Nat.le_of_ble_eq_true rfl) hl.1 dX9_edited_1 (fun u1 σ1 X1 c1 d1 H locs cells slots cu du ho h hW hz hc hm => ?_)
  refine lv_aload_n hx hb dX9_edited_4 rfl (lv_at hl 0 rfl) ?_
  refine r_gR C hW h fl_X9_47 (by decide) dX9_edited_5 (fun b2 h => ?_)
  refine lv_iconst (v := 5) hx hb dX9_edited_8 (by decide) ?_
  obtain ⟨v4, h3, h⟩ := bnd_inv h
  refine r_cI hW (run_V (rest := []) C hW (t_X3_knows h3) mk_X3_knows vk_X9_274 (kd_X3_knows h3) rfl rfl (by decide) ⟨Nat.le_of_ble_eq_true rfl, Nat.le_of_ble_eq_true rfl⟩ (hm_le hm) rfl rfl (Nat.le_of_ble_eq_true rfl) hl.1 dX9_edited_9) (fun H locs hW hz1 => ?_)
  have hz := Nat.le_trans hz hz1
  refine r_brn h (lv_if_ne (tgt := 30) hx hb dX9_edited_12 (by decide)) (fun h => ?_) (fun h => ?_)
  · exact b_X9_edited_30 C hst hno hzf hW hz hc hm (lv_sub hl [0, 1] rfl) h
  · refine lv_aload_n hx hb dX9_edited_15 rfl (lv_at hl 0 rfl) ?_
    refine r_gR C hW h fl_X9_47 (by decide) dX9_edited_16 (fun b5 h => ?_)
    refine lv_aload_n hx hb dX9_edited_19 rfl (lv_at hl 0 rfl) ?_
    refine r_gR C hW h fl_X9_12 (by decide) dX9_edited_20 (fun b6 h => ?_)
    refine lv_aload_n hx hb dX9_edited_23 rfl (lv_at hl 0 rfl) ?_
    refine r_gR C hW h fl_X9_40 (by decide) dX9_edited_24 (fun b7 h => ?_)
    obtain ⟨X9, h8, h⟩ := bnd_inv h
    refine r_cV hW (run_V (rest := []) C hW (t_X3_findEdited h8) mk_X3_findEdited vk_X9_296 (kd_X3_findEdited h8) rfl rfl (by decide) ⟨Nat.le_of_ble_eq_true rfl, Nat.le_of_ble_eq_true rfl⟩ (hm_le hm) rfl rfl (Nat.le_of_ble_eq_true rfl) hl.1 dX9_edited_27) (fun H locs hW hz1 => ?_)
    have hz := Nat.le_trans hz hz1
    exact b_X9_edited_30 C hst hno hzf hW hz hc hm (lv_sub hl [0, 1] rfl) h
theorem kd_X9_insert {σ : Sh} {X : Mx} {z : Nat} {r : Hr (Int32 ⊕ Nat)} {a : Nat} {x1 : Int32} {x2 : Int32} (h : f_X9_insert σ X z a x1 x2 = some r) : shK σ a = 7 := (grd_inv h).1
set_option maxRecDepth 20000 in
set_option maxHeartbeats 2000000 in
theorem t_X9_insert {σ : Sh} {X : Mx} {z : Nat} {r : Hr (Int32 ⊕ Nat)} {a : Nat} {x1 : Int32} {x2 : Int32} (hst : l.stackTraces = false) (h : f_X9_insert σ X z a x1 x2 = some r) : HxI g l yX9_insert cX9_insert 3 (some .boolean) 8 136 [.ref a, .int x1, .int x2] σ X z r := by
  obtain ⟨v0, σ0, X0, mc, ms⟩ := r
  refine met_ofX mk_X9_insert (by decide +kernel) (Nat.le_of_ble_eq_true rfl) (fun p e s m args below meth c ls C hno hW hzz hl => ?_)
  have hx := C.x
  have hb := C.b
  have hl : lv_has ls 3 [(0, .ref a), (1, .int x1), (2, .int x2)] := hl
  have hz : z ≤ s.heap.size := Nat.le_of_eq hzz.symm
  have hc : s.heap.size + 0 = z := hzz
  have hzf : s.heap.size + mc = z + mc := by rw [hzz]
  have hm : 0 + mc = mc ∧ 0 + ms = ms := ⟨Nat.zero_add _, Nat.zero_add _⟩
  unfold f_X9_insert at h
  obtain ⟨hk0, h⟩ := grd_inv h
  refine lv_aload_n hx hb dX9_insert_0 rfl (lv_at hl 0 rfl) ?_
  refine lv_iconst (v := 1) hx hb dX9_insert_1 (by decide) ?_
  refine lv_iload_n hx hb dX9_insert_2 rfl (lv_at hl 1 rfl) ?_
  refine lv_iload_n hx hb dX9_insert_3 rfl (lv_at hl 2 rfl) ?_
  refine lv_iconst (v := 0) hx hb dX9_insert_4 (by decide) ?_
  refine lv_iconst (v := 0) hx hb dX9_insert_5 (by decide) ?_
  obtain ⟨o9, h1, h⟩ := bndX_inv h
  refine c_XV_I (rest := []) C hno hW hz hc hm h (t_X9_editByHand hst h1) mk_X9_editByHand vk_X9_217 (kd_X9_editByHand h1) rfl rfl (by decide) ⟨Nat.le_of_ble_eq_true rfl, Nat.le_of_ble_eq_true rfl⟩ rfl rfl (Nat.le_of_ble_eq_true rfl) hl.1 dX9_insert_6 (fun v1 σ1 X1 c1 d1 H locs cells slots cu du ho h hW hz hc hm => ?_)
  refine lv_iconst (v := (-1)) hx hb dX9_insert_9 (by decide) ?_
  refine r_br h (lv_icmp_eq (tgt := 17) hx hb dX9_insert_10 (by decide)) (fun h => ?_) (fun h => ?_)
  · refine lv_iconst (v := 0) hx hb dX9_insert_17 (by decide) ?_
    exact r_xiret C hzf hW hz hc hm h rfl dX9_insert_18
  · refine lv_iconst (v := 1) hx hb dX9_insert_13 (by decide) ?_
    refine lv_goto (tgt := 18) hx hb dX9_insert_14 (by decide) ?_
    exact r_xiret C hzf hW hz hc hm h rfl dX9_insert_18
theorem kd_X9_rename {σ : Sh} {X : Mx} {z : Nat} {r : Hr (Int32 ⊕ Nat)} {a : Nat} {x1 : Int32} {x2 : Int32} {x3 : Int32} (h : f_X9_rename σ X z a x1 x2 x3 = some r) : shK σ a = 7 := (grd_inv h).1
set_option maxRecDepth 20000 in
set_option maxHeartbeats 2000000 in
theorem t_X9_rename {σ : Sh} {X : Mx} {z : Nat} {r : Hr (Int32 ⊕ Nat)} {a : Nat} {x1 : Int32} {x2 : Int32} {x3 : Int32} (hst : l.stackTraces = false) (h : f_X9_rename σ X z a x1 x2 x3 = some r) : HxI g l yX9_rename cX9_rename 4 (some .boolean) 8 136 [.ref a, .int x1, .int x2, .int x3] σ X z r := by
  obtain ⟨v0, σ0, X0, mc, ms⟩ := r
  refine met_ofX mk_X9_rename (by decide +kernel) (Nat.le_of_ble_eq_true rfl) (fun p e s m args below meth c ls C hno hW hzz hl => ?_)
  have hx := C.x
  have hb := C.b
  have hl : lv_has ls 4 [(0, .ref a), (1, .int x1), (2, .int x2), (3, .int x3)] := hl
  have hz : z ≤ s.heap.size := Nat.le_of_eq hzz.symm
  have hc : s.heap.size + 0 = z := hzz
  have hzf : s.heap.size + mc = z + mc := by rw [hzz]
  have hm : 0 + mc = mc ∧ 0 + ms = ms := ⟨Nat.zero_add _, Nat.zero_add _⟩
  unfold f_X9_rename at h
  obtain ⟨hk0, h⟩ := grd_inv h
  refine lv_aload_n hx hb dX9_rename_0 rfl (lv_at hl 0 rfl) ?_
  refine lv_iconst (v := 4) hx hb dX9_rename_1 (by decide) ?_
  refine lv_iload_n hx hb dX9_rename_2 rfl (lv_at hl 1 rfl) ?_
  refine lv_iload_n hx hb dX9_rename_3 rfl (lv_at hl 2 rfl) ?_
  refine lv_iload_n hx hb dX9_rename_4 rfl (lv_at hl 3 rfl) ?_
  refine lv_iconst (v := 0) hx hb dX9_rename_5 (by decide) ?_
  obtain ⟨o9, h1, h⟩ := bndX_inv h
  refine c_XV_I (rest := []) C hno hW hz hc hm h (t_X9_editByHand hst h1) mk_X9_editByHand vk_X9_217 (kd_X9_editByHand h1) rfl rfl (by decide) ⟨Nat.le_of_ble_eq_true rfl, Nat.le_of_ble_eq_true rfl⟩ rfl rfl (Nat.le_of_ble_eq_true rfl) hl.1 dX9_rename_6 (fun v1 σ1 X1 c1 d1 H locs cells slots cu du ho h hW hz hc hm => ?_)
  refine lv_iconst (v := (-1)) hx hb dX9_rename_9 (by decide) ?_
  refine r_br h (lv_icmp_eq (tgt := 17) hx hb dX9_rename_10 (by decide)) (fun h => ?_) (fun h => ?_)
  · refine lv_iconst (v := 0) hx hb dX9_rename_17 (by decide) ?_
    exact r_xiret C hzf hW hz hc hm h rfl dX9_rename_18
  · refine lv_iconst (v := 1) hx hb dX9_rename_13 (by decide) ?_
    refine lv_goto (tgt := 18) hx hb dX9_rename_14 (by decide) ?_
    exact r_xiret C hzf hW hz hc hm h rfl dX9_rename_18
theorem kd_X9_retype {σ : Sh} {X : Mx} {z : Nat} {r : Hr (Int32 ⊕ Nat)} {a : Nat} {x1 : Int32} {x2 : Int32} {x3 : Int32} (h : f_X9_retype σ X z a x1 x2 x3 = some r) : shK σ a = 7 := (grd_inv h).1
set_option maxRecDepth 20000 in
set_option maxHeartbeats 2000000 in
theorem t_X9_retype {σ : Sh} {X : Mx} {z : Nat} {r : Hr (Int32 ⊕ Nat)} {a : Nat} {x1 : Int32} {x2 : Int32} {x3 : Int32} (hst : l.stackTraces = false) (h : f_X9_retype σ X z a x1 x2 x3 = some r) : HxI g l yX9_retype cX9_retype 4 (some .boolean) 8 136 [.ref a, .int x1, .int x2, .int x3] σ X z r := by
  obtain ⟨v0, σ0, X0, mc, ms⟩ := r
  refine met_ofX mk_X9_retype (by decide +kernel) (Nat.le_of_ble_eq_true rfl) (fun p e s m args below meth c ls C hno hW hzz hl => ?_)
  have hx := C.x
  have hb := C.b
  have hl : lv_has ls 4 [(0, .ref a), (1, .int x1), (2, .int x2), (3, .int x3)] := hl
  have hz : z ≤ s.heap.size := Nat.le_of_eq hzz.symm
  have hc : s.heap.size + 0 = z := hzz
  have hzf : s.heap.size + mc = z + mc := by rw [hzz]
  have hm : 0 + mc = mc ∧ 0 + ms = ms := ⟨Nat.zero_add _, Nat.zero_add _⟩
  unfold f_X9_retype at h
  obtain ⟨hk0, h⟩ := grd_inv h
  refine lv_aload_n hx hb dX9_retype_0 rfl (lv_at hl 0 rfl) ?_
  refine lv_iconst (v := 3) hx hb dX9_retype_1 (by decide) ?_
  refine lv_iload_n hx hb dX9_retype_2 rfl (lv_at hl 1 rfl) ?_
  refine lv_iload_n hx hb dX9_retype_3 rfl (lv_at hl 2 rfl) ?_
  refine lv_iload_n hx hb dX9_retype_4 rfl (lv_at hl 3 rfl) ?_
  refine lv_iconst (v := 0) hx hb dX9_retype_5 (by decide) ?_
  obtain ⟨o9, h1, h⟩ := bndX_inv h
  refine c_XV_I (rest := []) C hno hW hz hc hm h (t_X9_editByHand hst h1) mk_X9_editByHand vk_X9_217 (kd_X9_editByHand h1) rfl rfl (by decide) ⟨Nat.le_of_ble_eq_true rfl, Nat.le_of_ble_eq_true rfl⟩ rfl rfl (Nat.le_of_ble_eq_true rfl) hl.1 dX9_retype_6 (fun v1 σ1 X1 c1 d1 H locs cells slots cu du ho h hW hz hc hm => ?_)
  refine lv_iconst (v := (-1)) hx hb dX9_retype_9 (by decide) ?_
  refine r_br h (lv_icmp_eq (tgt := 17) hx hb dX9_retype_10 (by decide)) (fun h => ?_) (fun h => ?_)
  · refine lv_iconst (v := 0) hx hb dX9_retype_17 (by decide) ?_
    exact r_xiret C hzf hW hz hc hm h rfl dX9_retype_18
  · refine lv_iconst (v := 1) hx hb dX9_retype_13 (by decide) ?_
    refine lv_goto (tgt := 18) hx hb dX9_retype_14 (by decide) ?_
    exact r_xiret C hzf hW hz hc hm h rfl dX9_retype_18
theorem kd_X9_set {σ : Sh} {X : Mx} {z : Nat} {r : Hr (Int32 ⊕ Nat)} {a : Nat} {x1 : Int32} {x2 : Int32} {x3 : Int32} {x4 : Int32} (h : f_X9_set σ X z a x1 x2 x3 x4 = some r) : shK σ a = 7 := (grd_inv h).1
set_option maxRecDepth 20000 in
set_option maxHeartbeats 2000000 in
theorem t_X9_set {σ : Sh} {X : Mx} {z : Nat} {r : Hr (Int32 ⊕ Nat)} {a : Nat} {x1 : Int32} {x2 : Int32} {x3 : Int32} {x4 : Int32} (hst : l.stackTraces = false) (h : f_X9_set σ X z a x1 x2 x3 x4 = some r) : HxI g l yX9_set cX9_set 5 (some .boolean) 8 136 [.ref a, .int x1, .int x2, .int x3, .int x4] σ X z r := by
  obtain ⟨v0, σ0, X0, mc, ms⟩ := r
  refine met_ofX mk_X9_set (by decide +kernel) (Nat.le_of_ble_eq_true rfl) (fun p e s m args below meth c ls C hno hW hzz hl => ?_)
  have hx := C.x
  have hb := C.b
  have hl : lv_has ls 5 [(0, .ref a), (1, .int x1), (2, .int x2), (3, .int x3), (4, .int x4)] := hl
  have hz : z ≤ s.heap.size := Nat.le_of_eq hzz.symm
  have hc : s.heap.size + 0 = z := hzz
  have hzf : s.heap.size + mc = z + mc := by rw [hzz]
  have hm : 0 + mc = mc ∧ 0 + ms = ms := ⟨Nat.zero_add _, Nat.zero_add _⟩
  unfold f_X9_set at h
  obtain ⟨hk0, h⟩ := grd_inv h
  refine lv_aload_n hx hb dX9_set_0 rfl (lv_at hl 0 rfl) ?_
  refine lv_iconst (v := 0) hx hb dX9_set_1 (by decide) ?_
  refine lv_iload_n hx hb dX9_set_2 rfl (lv_at hl 1 rfl) ?_
  refine lv_iload_n hx hb dX9_set_3 rfl (lv_at hl 2 rfl) ?_
  refine lv_iload_n hx hb dX9_set_4 rfl (lv_at hl 3 rfl) ?_
  refine lv_iload hx hb dX9_set_5 (lv_at hl 4 rfl) ?_
  obtain ⟨o9, h1, h⟩ := bndX_inv h
  refine c_XV_I (rest := []) C hno hW hz hc hm h (t_X9_editByHand hst h1) mk_X9_editByHand vk_X9_217 (kd_X9_editByHand h1) rfl rfl (by decide) ⟨Nat.le_of_ble_eq_true rfl, Nat.le_of_ble_eq_true rfl⟩ rfl rfl (Nat.le_of_ble_eq_true rfl) hl.1 dX9_set_7 (fun v1 σ1 X1 c1 d1 H locs cells slots cu du ho h hW hz hc hm => ?_)
  refine lv_iconst (v := (-1)) hx hb dX9_set_10 (by decide) ?_
  refine r_br h (lv_icmp_eq (tgt := 18) hx hb dX9_set_11 (by decide)) (fun h => ?_) (fun h => ?_)
  · refine lv_iconst (v := 0) hx hb dX9_set_18 (by decide) ?_
    exact r_xiret C hzf hW hz hc hm h rfl dX9_set_19
  · refine lv_iconst (v := 1) hx hb dX9_set_14 (by decide) ?_
    refine lv_goto (tgt := 19) hx hb dX9_set_15 (by decide) ?_
    exact r_xiret C hzf hW hz hc hm h rfl dX9_set_19
theorem kd_X9_table {σ : Sh} {X : Mx} {z : Nat} {r : Hr (Int32 ⊕ Nat)} {a : Nat} {x1 : Int32} {x2 : Int32} (h : f_X9_table σ X z a x1 x2 = some r) : shK σ a = 7 := (grd_inv h).1
set_option maxRecDepth 20000 in
set_option maxHeartbeats 2000000 in
theorem t_X9_table {σ : Sh} {X : Mx} {z : Nat} {r : Hr (Int32 ⊕ Nat)} {a : Nat} {x1 : Int32} {x2 : Int32} (hst : l.stackTraces = false) (h : f_X9_table σ X z a x1 x2 = some r) : HxI g l yX9_table cX9_table 4 (some .int) 7 162 [.ref a, .int x1, .int x2] σ X z r := by
  obtain ⟨v0, σ0, X0, mc, ms⟩ := r
  refine met_ofX mk_X9_table (by decide +kernel) (Nat.le_of_ble_eq_true rfl) (fun p e s m args below meth c ls C hno hW hzz hl => ?_)
  have hx := C.x
  have hb := C.b
  have hl : lv_has ls 4 [(0, .ref a), (1, .int x1), (2, .int x2)] := hl
  have hz : z ≤ s.heap.size := Nat.le_of_eq hzz.symm
  have hc : s.heap.size + 0 = z := hzz
  have hzf : s.heap.size + mc = z + mc := by rw [hzz]
  have hm : 0 + mc = mc ∧ 0 + ms = ms := ⟨Nat.zero_add _, Nat.zero_add _⟩
  unfold f_X9_table at h
  obtain ⟨hk0, h⟩ := grd_inv h
  refine lv_aload_n hx hb dX9_table_0 rfl (lv_at hl 0 rfl) ?_
  refine lv_iload_n hx hb dX9_table_1 rfl (lv_at hl 1 rfl) ?_
  obtain ⟨o9, h1, h⟩ := bndX_inv h
  refine c_XV_R (rest := []) C hno hW hz hc hm h (t_X9_tableOf hst h1) mk_X9_tableOf vk_X9_158 (kd_X9_tableOf h1) rfl rfl (by decide) ⟨Nat.le_of_ble_eq_true rfl, Nat.le_of_ble_eq_true rfl⟩ rfl rfl (Nat.le_of_ble_eq_true rfl) hl.1 dX9_table_2 (fun b1 σ1 X1 c1 d1 H locs cells slots cu du ho h hW hz hc hm => ?_)
  refine lv_astore_n (lv' := [(3, .ref b1), (0, .ref a), (1, .int x1), (2, .int x2)]) hx hb dX9_table_5 rfl hl (by decide) rfl (fun ls hl => ?_)
  refine lv_iload_n hx hb dX9_table_6 rfl (lv_at hl 3 rfl) ?_
  refine r_brn h (lv_if_ne (tgt := 15) hx hb dX9_table_7 (by decide)) (fun h => ?_) (fun h => ?_)
  · refine lv_iload_n hx hb dX9_table_15 rfl (lv_at hl 3 rfl) ?_
    refine lv_iconst (v := 1) hx hb dX9_table_16 (by decide) ?_
    refine r_brn h (lv_icmp_ne (tgt := 25) hx hb dX9_table_17 (by decide)) (fun h => ?_) (fun h => ?_)
    · exact r_throwSN (text := "no such question of a table") hst C hno hW hm h ⟨rfl, rfl, rfl⟩ (by decide) ⟨Nat.le_of_ble_eq_true rfl, Nat.le_of_ble_eq_true rfl⟩ hl.1 dX9_table_25 dX9_table_28 dX9_table_29 dX9_table_31 dX9_table_34
    · refine lv_aload_n hx hb dX9_table_20 rfl (lv_at hl 0 rfl) ?_
      refine r_gI C hW h fl_X9_125 (by decide) dX9_table_21 (fun v2 h => ?_)
      exact r_xiret C hzf hW hz hc hm h rfl dX9_table_24
  · refine lv_aload_n hx hb dX9_table_10 rfl (lv_at hl 0 rfl) ?_
    refine r_gI C hW h fl_X9_115 (by decide) dX9_table_11 (fun v3 h => ?_)
    exact r_xiret C hzf hW hz hc hm h rfl dX9_table_14
set_option maxRecDepth 20000 in
set_option maxHeartbeats 2000000 in
theorem b_X9_tables_15 (C : Cx g RX9 cX9_tables 3 (some .int) p s m args meth c) {mc ms zf : Nat} {v0 : (Int32 ⊕ Nat)} {σ0 : Sh} {X0 : Mx} (hst : l.stackTraces = false) (hno : ∀ x ∈ c.exceptionTable.toList, False) (hzf : s.heap.size + mc = zf) {σ : Sh} {X : Mx} {z cu du cells slots : Nat} {H : Heap} {locs : List Loc} {ls : Array Slot} (hW : Wd g σ X s H locs) (hz : z ≤ H.size) (hc : s.heap.size + cells = z) (hm : cells + cu = mc ∧ slots + du = ms) (hl : lv_has ls 3 []) (h : f_X9_tables_15 σ X z = some (v0, σ0, X0, cu, du)) : W p l e (rmH 9 196 mc ms) s m args below meth c H locs cells slots (QXI g below args s mc ms zf v0 σ0 X0) (F0 m 15 ls []) := by
  have hx := C.x
  have hb := C.b
  unfold f_X9_tables_15 at h
  exact r_throwS (text := "the tape has not so many bytes") hst C hno hW hm h xk_79_83 (by decide) ⟨Nat.le_of_ble_eq_true rfl, Nat.le_of_ble_eq_true rfl⟩ hl.1 dX9_tables_15 dX9_tables_18 dX9_tables_19 dX9_tables_21 dX9_tables_24
theorem kd_X9_tables {σ : Sh} {X : Mx} {z : Nat} {r : Hr (Int32 ⊕ Nat)} {a : Nat} {x1 : Int32} (h : f_X9_tables σ X z a x1 = some r) : shK σ a = 7 := (grd_inv h).1
set_option maxRecDepth 20000 in
set_option maxHeartbeats 2000000 in
theorem t_X9_tables {σ : Sh} {X : Mx} {z : Nat} {r : Hr (Int32 ⊕ Nat)} {a : Nat} {x1 : Int32} (hst : l.stackTraces = false) (h : f_X9_tables σ X z a x1 = some r) : HxI g l yX9_tables cX9_tables 3 (some .int) 9 196 [.ref a, .int x1] σ X z r := by
  obtain ⟨v0, σ0, X0, mc, ms⟩ := r
  refine met_ofX mk_X9_tables (by decide +kernel) (Nat.le_of_ble_eq_true rfl) (fun p e s m args below meth c ls C hno hW hzz hl => ?_)
  have hx := C.x
  have hb := C.b
  have hl : lv_has ls 3 [(0, .ref a), (1, .int x1)] := hl
  have hz : z ≤ s.heap.size := Nat.le_of_eq hzz.symm
  have hc : s.heap.size + 0 = z := hzz
  have hzf : s.heap.size + mc = z + mc := by rw [hzz]
  have hm : 0 + mc = mc ∧ 0 + ms = ms := ⟨Nat.zero_add _, Nat.zero_add _⟩
  unfold f_X9_tables at h
  obtain ⟨hk0, h⟩ := grd_inv h
  refine lv_iload_n hx hb dX9_tables_0 rfl (lv_at hl 1 rfl) ?_
  refine r_br h (lv_if_lt (tgt := 15) hx hb dX9_tables_1 (by decide)) (fun h => ?_) (fun h => ?_)
  · exact b_X9_tables_15 C hst hno hzf hW hz hc hm (lv_sub hl [] rfl) h
  · refine lv_iload_n hx hb dX9_tables_4 rfl (lv_at hl 1 rfl) ?_
    refine lv_aload_n hx hb dX9_tables_5 rfl (lv_at hl 0 rfl) ?_
    refine r_gR C hW h fl_X9_26 (by decide) dX9_tables_6 (fun b1 h => ?_)
    refine r_gI C hW h fl_X9_76 (by decide) dX9_tables_9 (fun v2 h => ?_)
    refine r_br h (lv_icmp_le (tgt := 25) hx hb dX9_tables_12 (by decide)) (fun h => ?_) (fun h => ?_)
    · refine lv_aload_n hx hb dX9_tables_25 rfl (lv_at hl 0 rfl) ?_
      refine r_gR C hW h fl_X9_26 (by decide) dX9_tables_26 (fun b3 h => ?_)
      refine lv_iload_n hx hb dX9_tables_29 rfl (lv_at hl 1 rfl) ?_
      obtain ⟨v6, X5, h4, h⟩ := bnd2_inv h
      refine r_cI hW (run_V (rest := []) C hW (t_X7_readTables h4) mk_X7_readTables vk_X9_86 (kd_X7_readTables h4) rfl rfl (by decide) ⟨Nat.le_of_ble_eq_true rfl, Nat.le_of_ble_eq_true rfl⟩ (hm_le hm) rfl rfl (Nat.le_of_ble_eq_true rfl) hl.1 dX9_tables_30) (fun H locs hW hz1 => ?_)
      have hz := Nat.le_trans hz hz1
      refine lv_istore_n (lv' := [(2, .int v6), (0, .ref a), (1, .int x1)]) hx hb dX9_tables_33 rfl hl (by decide) rfl (fun ls hl => ?_)
      refine lv_aload_n hx hb dX9_tables_34 rfl (lv_at hl 1 rfl) ?_
      refine lv_aload_n hx hb dX9_tables_35 rfl (lv_at hl 1 rfl) ?_
      refine r_gR C hW h fl_X9_26 (by decide) dX9_tables_36 (fun b7 h => ?_)
      refine r_gI C hW h fl_X9_90 (by decide) dX9_tables_39 (fun v8 h => ?_)
      refine r_pI C hW h pf_X9_60 (by decide) rfl rfl dX9_tables_42 (fun X9 H locs h hW hz1 => ?_)
      have hz := Nat.le_trans hz hz1
      refine lv_iload_n hx hb dX9_tables_45 rfl (lv_at hl 0 rfl) ?_
      refine r_br h (lv_if_eq (tgt := 61) hx hb dX9_tables_46 (by decide)) (fun h => ?_) (fun h => ?_)
      · refine lv_aload_n hx hb dX9_tables_61 rfl (lv_at hl 1 rfl) ?_
        refine r_gR C hW h fl_X9_12 (by decide) dX9_tables_62 (fun b10 h => ?_)
        refine lv_aload_n hx hb dX9_tables_65 rfl (lv_at hl 1 rfl) ?_
        refine r_gR C hW h fl_X9_26 (by decide) dX9_tables_66 (fun b11 h => ?_)
        refine r_gR C hW h fl_X9_93 (by decide) dX9_tables_69 (fun b12 h => ?_)
        obtain ⟨X14, h13, h⟩ := bnd_inv h
        refine r_cV hW (run_V (rest := []) C hW (t_X5_copyFrom h13) mk_X5_copyFrom vk_X9_96 (kd_X5_copyFrom h13) rfl rfl (by decide) ⟨Nat.le_of_ble_eq_true rfl, Nat.le_of_ble_eq_true rfl⟩ (hm_le hm) rfl rfl (Nat.le_of_ble_eq_true rfl) hl.1 dX9_tables_72) (fun H locs hW hz1 => ?_)
        have hz := Nat.le_trans hz hz1
        refine lv_aload_n hx hb dX9_tables_75 rfl (lv_at hl 1 rfl) ?_
        refine r_gR C hW h fl_X9_33 (by decide) dX9_tables_76 (fun b15 h => ?_)
        obtain ⟨X17, h16, h⟩ := bnd_inv h
        refine r_cV hW (run_V (rest := []) C hW (t_X0_clear h16) mk_X0_clear vk_X9_100 (kd_X0_clear h16) rfl rfl (by decide) ⟨Nat.le_of_ble_eq_true rfl, Nat.le_of_ble_eq_true rfl⟩ (hm_le hm) rfl rfl (Nat.le_of_ble_eq_true rfl) hl.1 dX9_tables_79) (fun H locs hW hz1 => ?_)
        have hz := Nat.le_trans hz hz1
        refine lv_aload_n hx hb dX9_tables_82 rfl (lv_at hl 1 rfl) ?_
        refine r_gR C hW h fl_X9_40 (by decide) dX9_tables_83 (fun b18 h => ?_)
        obtain ⟨X20, h19, h⟩ := bnd_inv h
        refine r_cV hW (run_V (rest := []) C hW (t_X4_clear h19) mk_X4_clear vk_X9_103 (kd_X4_clear h19) rfl rfl (by decide) ⟨Nat.le_of_ble_eq_true rfl, Nat.le_of_ble_eq_true rfl⟩ (hm_le hm) rfl rfl (Nat.le_of_ble_eq_true rfl) hl.1 dX9_tables_86) (fun H locs hW hz1 => ?_)
        have hz := Nat.le_trans hz hz1
        refine lv_aload_n hx hb dX9_tables_89 rfl (lv_at hl 1 rfl) ?_
        refine lv_iconst (v := 0) hx hb dX9_tables_90 (by decide) ?_
        refine r_pI C hW h pf_X9_104 (by decide) rfl rfl dX9_tables_91 (fun X21 H locs h hW hz1 => ?_)
        have hz := Nat.le_trans hz hz1
        refine lv_aload_n hx hb dX9_tables_94 rfl (lv_at hl 1 rfl) ?_
        obtain ⟨X23, h22, h⟩ := bnd_inv h
        refine r_cV hW (run_V (rest := []) C hW (t_X9_noteChange h22) mk_X9_noteChange vk_X9_108 (kd_X9_noteChange h22) rfl rfl (by decide) ⟨Nat.le_of_ble_eq_true rfl, Nat.le_of_ble_eq_true rfl⟩ (hm_le hm) rfl rfl (Nat.le_of_ble_eq_true rfl) hl.1 dX9_tables_95) (fun H locs hW hz1 => ?_)
        have hz := Nat.le_trans hz hz1
        refine lv_iconst (v := 0) hx hb dX9_tables_98 (by decide) ?_
        exact r_xiret C hzf hW hz hc hm h rfl dX9_tables_99
      · refine lv_aload_n hx hb dX9_tables_49 rfl (lv_at hl 1 rfl) ?_
        refine r_gR C hW h fl_X9_64 (by decide) dX9_tables_50 (fun b24 h => ?_)
        refine lv_iconst (v := 0) hx hb dX9_tables_53 (by decide) ?_
        refine lv_dup2_11 hx hb dX9_tables_54 rfl rfl ?_
        refine r_iald C hW h dX9_tables_55 (fun v25 h => ?_)
        refine lv_iconst (v := 1) hx hb dX9_tables_56 (by decide) ?_
        refine lv_iadd hx hb dX9_tables_57 ?_
        refine r_iast C hW h dX9_tables_58 (fun X26 H locs h hW hz1 => ?_)
        have hz := Nat.le_trans hz hz1
        refine lv_iload_n hx hb dX9_tables_59 rfl (lv_at hl 0 rfl) ?_
        exact r_xiret C hzf hW hz hc hm h rfl dX9_tables_60
    · exact b_X9_tables_15 C hst hno hzf hW hz hc hm (lv_sub hl [] rfl) h
theorem kd_X9_whose {σ : Sh} {X : Mx} {z : Nat} {r : Hr (Int32 ⊕ Nat)} {a : Nat} {x1 : Int32} {x2 : Int32} (h : f_X9_whose σ X z a x1 x2 = some r) : shK σ a = 7 := (grd_inv h).1
set_option maxRecDepth 20000 in
set_option maxHeartbeats 2000000 in
theorem t_X9_whose {σ : Sh} {X : Mx} {z : Nat} {r : Hr (Int32 ⊕ Nat)} {a : Nat} {x1 : Int32} {x2 : Int32} (hst : l.stackTraces = false) (h : f_X9_whose σ X z a x1 x2 = some r) : HxI g l yX9_whose cX9_whose 4 (some .int) 6 141 [.ref a, .int x1, .int x2] σ X z r := by
  obtain ⟨v0, σ0, X0, mc, ms⟩ := r
  refine met_ofX mk_X9_whose (by decide +kernel) (Nat.le_of_ble_eq_true rfl) (fun p e s m args below meth c ls C hno hW hzz hl => ?_)
  have hx := C.x
  have hb := C.b
  have hl : lv_has ls 4 [(0, .ref a), (1, .int x1), (2, .int x2)] := hl
  have hz : z ≤ s.heap.size := Nat.le_of_eq hzz.symm
  have hc : s.heap.size + 0 = z := hzz
  have hzf : s.heap.size + mc = z + mc := by rw [hzz]
  have hm : 0 + mc = mc ∧ 0 + ms = ms := ⟨Nat.zero_add _, Nat.zero_add _⟩
  unfold f_X9_whose at h
  obtain ⟨hk0, h⟩ := grd_inv h
  refine lv_aload_n hx hb dX9_whose_0 rfl (lv_at hl 0 rfl) ?_
  obtain ⟨b3, X2, h1, h⟩ := bnd2_inv h
  refine r_cR hW (run_V (rest := []) C hW (t_X9_freshMerge h1) mk_X9_freshMerge vk_X9_131 (kd_X9_freshMerge h1) rfl rfl (by decide) ⟨Nat.le_of_ble_eq_true rfl, Nat.le_of_ble_eq_true rfl⟩ (hm_le hm) rfl rfl (Nat.le_of_ble_eq_true rfl) hl.1 dX9_whose_1) (fun H locs hW hz1 => ?_)
  have hz := Nat.le_trans hz hz1
  refine lv_astore_n (lv' := [(3, .ref b3), (0, .ref a), (1, .int x1), (2, .int x2)]) hx hb dX9_whose_4 rfl hl (by decide) rfl (fun ls hl => ?_)
  refine lv_aload_n hx hb dX9_whose_5 rfl (lv_at hl 0 rfl) ?_
  refine r_gR C hW h fl_X9_135 (by decide) dX9_whose_6 (fun b4 h => ?_)
  refine lv_iload_n hx hb dX9_whose_9 rfl (lv_at hl 2 rfl) ?_
  refine lv_iload_n hx hb dX9_whose_10 rfl (lv_at hl 3 rfl) ?_
  obtain ⟨v6, h5, h⟩ := bnd_inv h
  refine r_cI hW (run_V (rest := []) C hW (t_X6_hasCell h5) mk_X6_hasCell vk_X9_175 (kd_X6_hasCell h5) rfl rfl (by decide) ⟨Nat.le_of_ble_eq_true rfl, Nat.le_of_ble_eq_true rfl⟩ (hm_le hm) rfl rfl (Nat.le_of_ble_eq_true rfl) hl.1 dX9_whose_11) (fun H locs hW hz1 => ?_)
  have hz := Nat.le_trans hz hz1
  refine r_brn h (lv_if_ne (tgt := 27) hx hb dX9_whose_14 (by decide)) (fun h => ?_) (fun h => ?_)
  · refine lv_aload_n hx hb dX9_whose_27 rfl (lv_at hl 0 rfl) ?_
    refine r_gR C hW h fl_X9_187 (by decide) dX9_whose_28 (fun b7 h => ?_)
    refine lv_iload_n hx hb dX9_whose_31 rfl (lv_at hl 2 rfl) ?_
    refine lv_bipush (v := 9) hx hb dX9_whose_32 (by decide) ?_
    refine lv_imul hx hb dX9_whose_34 ?_
    refine lv_iload_n hx hb dX9_whose_35 rfl (lv_at hl 3 rfl) ?_
    refine lv_iadd hx hb dX9_whose_36 ?_
    refine r_iald C hW h dX9_whose_37 (fun v8 h => ?_)
    exact r_xiret C hzf hW hz hc hm h rfl dX9_whose_38
  · exact r_throwSN (text := "no such row or column merged") hst C hno hW hm h ⟨rfl, rfl, rfl⟩ (by decide) ⟨Nat.le_of_ble_eq_true rfl, Nat.le_of_ble_eq_true rfl⟩ hl.1 dX9_whose_17 dX9_whose_20 dX9_whose_21 dX9_whose_23 dX9_whose_26
set_option maxRecDepth 20000 in
set_option maxHeartbeats 2000000 in
theorem b_X9_years_14 (C : Cx g RX9 cX9_years 4 (some .int) p s m args meth c) {mc ms zf : Nat} {v0 : (Int32 ⊕ Nat)} {σ0 : Sh} {X0 : Mx} (hst : l.stackTraces = false) (hno : ∀ x ∈ c.exceptionTable.toList, False) (hzf : s.heap.size + mc = zf) {σ : Sh} {X : Mx} {z cu du cells slots : Nat} {H : Heap} {locs : List Loc} {ls : Array Slot} (hW : Wd g σ X s H locs) (hz : z ≤ H.size) (hc : s.heap.size + cells = z) (hm : cells + cu = mc ∧ slots + du = ms) (hl : lv_has ls 4 []) (h : f_X9_years_14 σ X z = some (v0, σ0, X0, cu, du)) : W p l e (rmH 7 146 mc ms) s m args below meth c H locs cells slots (QXI g below args s mc ms zf v0 σ0 X0) (F0 m 14 ls []) := by
  have hx := C.x
  have hb := C.b
  unfold f_X9_years_14 at h
  exact r_throwSW (text := "no such number of years") hst C hno hW hm h xk_79_83 (by decide) ⟨Nat.le_of_ble_eq_true rfl, Nat.le_of_ble_eq_true rfl⟩ hl.1 dX9_years_14 dX9_years_17 dX9_years_18 dX9_years_21 dX9_years_24
theorem kd_X9_years {σ : Sh} {X : Mx} {z : Nat} {r : Hr (Int32 ⊕ Nat)} {a : Nat} {x1 : Int32} {x2 : Int32} {x3 : Int32} (h : f_X9_years σ X z a x1 x2 x3 = some r) : shK σ a = 7 := (grd_inv h).1
set_option maxRecDepth 20000 in
set_option maxHeartbeats 2000000 in
theorem t_X9_years {σ : Sh} {X : Mx} {z : Nat} {r : Hr (Int32 ⊕ Nat)} {a : Nat} {x1 : Int32} {x2 : Int32} {x3 : Int32} (hst : l.stackTraces = false) (h : f_X9_years σ X z a x1 x2 x3 = some r) : HxI g l yX9_years cX9_years 4 (some .int) 7 146 [.ref a, .int x1, .int x2, .int x3] σ X z r := by
  obtain ⟨v0, σ0, X0, mc, ms⟩ := r
  refine met_ofX mk_X9_years (by decide +kernel) (Nat.le_of_ble_eq_true rfl) (fun p e s m args below meth c ls C hno hW hzz hl => ?_)
  have hx := C.x
  have hb := C.b
  have hl : lv_has ls 4 [(0, .ref a), (1, .int x1), (2, .int x2), (3, .int x3)] := hl
  have hz : z ≤ s.heap.size := Nat.le_of_eq hzz.symm
  have hc : s.heap.size + 0 = z := hzz
  have hzf : s.heap.size + mc = z + mc := by rw [hzz]
  have hm : 0 + mc = mc ∧ 0 + ms = ms := ⟨Nat.zero_add _, Nat.zero_add _⟩
  unfold f_X9_years at h
  obtain ⟨hk0, h⟩ := grd_inv h
  refine lv_iload_n hx hb dX9_years_0 rfl (lv_at hl 3 rfl) ?_
  obtain ⟨o9, h1, h⟩ := bndX_inv h
  refine c_XS_V (rest := []) C hno hW hz hc hm h (t_X9_demandThreefold hst h1) mk_X9_demandThreefold sk_X9_269 ⟨Nat.le_of_ble_eq_true rfl, Nat.le_of_ble_eq_true rfl⟩ rfl rfl (Nat.le_of_ble_eq_true rfl) hl.1 dX9_years_1 (fun u1 σ1 X1 c1 d1 H locs cells slots cu du ho h hW hz hc hm => ?_)
  refine lv_iload_n hx hb dX9_years_4 rfl (lv_at hl 2 rfl) ?_
  refine r_br h (lv_if_lt (tgt := 14) hx hb dX9_years_5 (by decide)) (fun h => ?_) (fun h => ?_)
  · exact b_X9_years_14 C hst hno hzf hW hz hc hm (lv_sub hl [] rfl) h
  · refine lv_iload_n hx hb dX9_years_8 rfl (lv_at hl 2 rfl) ?_
    refine lv_bipush (v := 60) hx hb dX9_years_9 (by decide) ?_
    refine r_br h (lv_icmp_le (tgt := 25) hx hb dX9_years_11 (by decide)) (fun h => ?_) (fun h => ?_)
    · refine lv_aload_n hx hb dX9_years_25 rfl (lv_at hl 0 rfl) ?_
      refine r_gR C hW h fl_X9_47 (by decide) dX9_years_26 (fun b2 h => ?_)
      refine lv_aload_n hx hb dX9_years_29 rfl (lv_at hl 0 rfl) ?_
      refine r_gR C hW h fl_X9_12 (by decide) dX9_years_30 (fun b3 h => ?_)
      refine lv_iload_n hx hb dX9_years_33 rfl (lv_at hl 1 rfl) ?_
      refine lv_iload_n hx hb dX9_years_34 rfl (lv_at hl 2 rfl) ?_
      obtain ⟨X5, h4, h⟩ := bnd_inv h
      refine r_cV hW (run_V (rest := []) C hW (t_X3_findYears h4) mk_X3_findYears vk_X9_302 (kd_X3_findYears h4) rfl rfl (by decide) ⟨Nat.le_of_ble_eq_true rfl, Nat.le_of_ble_eq_true rfl⟩ (hm_le hm) rfl rfl (Nat.le_of_ble_eq_true rfl) hl.1 dX9_years_35) (fun H locs hW hz1 => ?_)
      have hz := Nat.le_trans hz hz1
      refine lv_aload_n hx hb dX9_years_38 rfl (lv_at hl 0 rfl) ?_
      refine r_gR C hW h fl_X9_47 (by decide) dX9_years_39 (fun b6 h => ?_)
      refine lv_bipush (v := 6) hx hb dX9_years_42 (by decide) ?_
      refine lv_iload_n hx hb dX9_years_44 rfl (lv_at hl 3 rfl) ?_
      obtain ⟨v8, h7, h⟩ := bnd_inv h
      refine r_cI hW (run_V (rest := []) C hW (t_X3_answerTo h7) mk_X3_answerTo vk_X9_281 (kd_X3_answerTo h7) rfl rfl (by decide) ⟨Nat.le_of_ble_eq_true rfl, Nat.le_of_ble_eq_true rfl⟩ (hm_le hm) rfl rfl (Nat.le_of_ble_eq_true rfl) hl.1 dX9_years_45) (fun H locs hW hz1 => ?_)
      have hz := Nat.le_trans hz hz1
      exact r_xiret C hzf hW hz hc hm h rfl dX9_years_48
    · exact b_X9_years_14 C hst hno hzf hW hz hc hm (lv_sub hl [] rfl) h
end
