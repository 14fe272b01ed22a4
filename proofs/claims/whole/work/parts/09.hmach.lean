section
variable {p : Program} {l : Launch} {e : Env} {s : State} {m : MethodId} {args : Array Value} {below : List Frame} {meth : Method} {c : Code} {g : Gp}
theorem kd_X0_init {σ : Sh} {X : Mx} {z : Nat} {r : Hr Unit} {a : Nat} (h : f_X0_init σ X z a = some r) : shK σ a = 0 := (grd_inv h).1
set_option maxRecDepth 20000 in
set_option maxHeartbeats 2000000 in
theorem t_X0_init {σ : Sh} {X : Mx} {z : Nat} {r : Hr Unit} {a : Nat} (h : f_X0_init σ X z a = some r) : HvV g l yX0_init cX0_init 1 none 1 20 [.ref a] σ X z r := by
  obtain ⟨v0, σ0, X0, mc, ms⟩ := r
  refine met_ofH mk_X0_init (Nat.le_of_ble_eq_true rfl) (fun p e s m args below meth c ls C hin hW hzz hl => ?_)
  have hx := C.x
  have hb := C.b
  have hl : lv_has ls 1 [(0, .ref a)] := hl
  have hz : z ≤ s.heap.size := Nat.le_of_eq hzz.symm
  have hc : s.heap.size + 0 = z := hzz
  have hzf : s.heap.size + mc = z + mc := by rw [hzz]
  have hm : 0 + mc = mc ∧ 0 + ms = ms := ⟨Nat.zero_add _, Nat.zero_add _⟩
  unfold f_X0_init at h
  obtain ⟨hk0, h⟩ := grd_inv h
  refine lv_aload_n hx hb dX0_init_0 rfl (lv_at hl 0 rfl) ?_
  refine r_obj C ok_X0_3 ⟨Nat.le_of_ble_eq_true rfl, Nat.le_of_ble_eq_true rfl⟩ hl.1 dX0_init_1 ?_
  refine lv_aload_n hx hb dX0_init_4 rfl (lv_at hl 0 rfl) ?_
  refine lv_bipush (v := 31) hx hb dX0_init_5 (by decide) ?_
  refine r_newq C hW hz hc hm h cl_X0_11 dX0_init_7 (fun σ1 X2 H cells slots cu du h hW hz hc hm => ?_)
  refine r_pRF C hin hW h pff_X0_13 (by decide) rfl rfl dX0_init_10 (fun σ3 H locs h hW hz1 => ?_)
  have hz := Nat.le_trans hz hz1
  exact r_hvret C hzf hW hz hc hm h dX0_init_13
theorem kd_X6_init {σ : Sh} {X : Mx} {z : Nat} {r : Hr Unit} {a : Nat} (h : f_X6_init σ X z a = some r) : shK σ a = 5 := (grd_inv h).1
set_option maxRecDepth 20000 in
set_option maxHeartbeats 2000000 in
theorem t_X6_init {σ : Sh} {X : Mx} {z : Nat} {r : Hr Unit} {a : Nat} (h : f_X6_init σ X z a = some r) : HvV g l yX6_init cX6_init 1 none 1 23 [.ref a] σ X z r := by
  obtain ⟨v0, σ0, X0, mc, ms⟩ := r
  refine met_ofH mk_X6_init (Nat.le_of_ble_eq_true rfl) (fun p e s m args below meth c ls C hin hW hzz hl => ?_)
  have hx := C.x
  have hb := C.b
  have hl : lv_has ls 1 [(0, .ref a)] := hl
  have hz : z ≤ s.heap.size := Nat.le_of_eq hzz.symm
  have hc : s.heap.size + 0 = z := hzz
  have hzf : s.heap.size + mc = z + mc := by rw [hzz]
  have hm : 0 + mc = mc ∧ 0 + ms = ms := ⟨Nat.zero_add _, Nat.zero_add _⟩
  unfold f_X6_init at h
  obtain ⟨hk0, h⟩ := grd_inv h
  refine lv_aload_n hx hb dX6_init_0 rfl (lv_at hl 0 rfl) ?_
  refine r_obj C ok_X6_3 ⟨Nat.le_of_ble_eq_true rfl, Nat.le_of_ble_eq_true rfl⟩ hl.1 dX6_init_1 ?_
  refine lv_aload_n hx hb dX6_init_4 rfl (lv_at hl 0 rfl) ?_
  refine lv_bipush (v := 9) hx hb dX6_init_5 (by decide) ?_
  refine r_newaI C hW hz hc hm h ak_I dX6_init_7 (fun σ1 X2 H cells slots cu du h hW hz hc hm => ?_)
  refine r_pRF C hin hW h pff_X6_9 (by decide) rfl rfl dX6_init_9 (fun σ3 H locs h hW hz1 => ?_)
  have hz := Nat.le_trans hz hz1
  refine lv_aload_n hx hb dX6_init_12 rfl (lv_at hl 0 rfl) ?_
  refine lv_bipush (v := 9) hx hb dX6_init_13 (by decide) ?_
  refine r_newaI C hW hz hc hm h ak_I dX6_init_15 (fun σ4 X5 H cells slots cu du h hW hz hc hm => ?_)
  refine r_pRF C hin hW h pff_X6_15 (by decide) rfl rfl dX6_init_17 (fun σ6 H locs h hW hz1 => ?_)
  have hz := Nat.le_trans hz hz1
  refine lv_aload_n hx hb dX6_init_20 rfl (lv_at hl 0 rfl) ?_
  refine lv_sipush (v := 180) hx hb dX6_init_21 (by decide) ?_
  refine r_newaI C hW hz hc hm h ak_I dX6_init_24 (fun σ7 X8 H cells slots cu du h hW hz hc hm => ?_)
  refine r_pRF C hin hW h pff_X6_18 (by decide) rfl rfl dX6_init_26 (fun σ9 H locs h hW hz1 => ?_)
  have hz := Nat.le_trans hz hz1
  refine lv_aload_n hx hb dX6_init_29 rfl (lv_at hl 0 rfl) ?_
  refine r_gR C hW h fl_X6_18 (by decide) dX6_init_30 (fun b10 h => ?_)
  refine lv_sipush (v := 9999) hx hb dX6_init_33 (by decide) ?_
  obtain ⟨X12, h11, h⟩ := bnd_inv h
  refine r_cV hW (run_S (rest := []) C hW (t_J7_fill_53178 h11) mk_J7_fill_53178 sk_X6_21 ⟨Nat.le_of_ble_eq_true rfl, Nat.le_of_ble_eq_true rfl⟩ (hm_le hm) rfl rfl (Nat.le_of_ble_eq_true rfl) hl.1 dX6_init_36) (fun H locs hW hz1 => ?_)
  have hz := Nat.le_trans hz hz1
  exact r_hvret C hzf hW hz hc hm h dX6_init_39
theorem kd_X5_init {σ : Sh} {X : Mx} {z : Nat} {r : Hr Unit} {a : Nat} (h : f_X5_init σ X z a = some r) : shK σ a = 4 := (grd_inv h).1
set_option maxRecDepth 20000 in
set_option maxHeartbeats 2000000 in
theorem t_X5_init {σ : Sh} {X : Mx} {z : Nat} {r : Hr Unit} {a : Nat} (h : f_X5_init σ X z a = some r) : HvV g l yX5_init cX5_init 1 none 2 43 [.ref a] σ X z r := by
  obtain ⟨v0, σ0, X0, mc, ms⟩ := r
  refine met_ofH mk_X5_init (Nat.le_of_ble_eq_true rfl) (fun p e s m args below meth c ls C hin hW hzz hl => ?_)
  have hx := C.x
  have hb := C.b
  have hl : lv_has ls 1 [(0, .ref a)] := hl
  have hz : z ≤ s.heap.size := Nat.le_of_eq hzz.symm
  have hc : s.heap.size + 0 = z := hzz
  have hzf : s.heap.size + mc = z + mc := by rw [hzz]
  have hm : 0 + mc = mc ∧ 0 + ms = ms := ⟨Nat.zero_add _, Nat.zero_add _⟩
  unfold f_X5_init at h
  obtain ⟨hk0, h⟩ := grd_inv h
  refine lv_aload_n hx hb dX5_init_0 rfl (lv_at hl 0 rfl) ?_
  refine r_obj C ok_X5_3 ⟨Nat.le_of_ble_eq_true rfl, Nat.le_of_ble_eq_true rfl⟩ hl.1 dX5_init_1 ?_
  refine lv_aload_n hx hb dX5_init_4 rfl (lv_at hl 0 rfl) ?_
  refine r_new C hW hz hc hm h (by decide) nk_X5_9 dX5_init_5 (fun σ1 X2 H cells slots cu du h hW hz hc hm => ?_)
  refine lv_dup hx hb dX5_init_8 rfl ?_
  obtain ⟨u3, σ3, X3, c3, d3, cu9, du9, h3, h, hcu, hdu⟩ := bndH_inv h
  refine c_HI_V (rest := [.ref z, .ref a]) C hW hz hc hcu hdu hm (t_X6_init h3) mk_X6_init ik_X5_11 rfl ⟨Nat.le_of_ble_eq_true rfl, Nat.le_of_ble_eq_true rfl⟩ rfl rfl (Nat.le_of_ble_eq_true rfl) hl.1 dX5_init_9 (fun H locs cells slots hW hz hc hm => ?_)
  refine r_pRF C hin hW h pff_X5_12 (by decide) rfl rfl dX5_init_12 (fun σ4 H locs h hW hz1 => ?_)
  have hz := Nat.le_trans hz hz1
  refine lv_aload_n hx hb dX5_init_15 rfl (lv_at hl 0 rfl) ?_
  refine r_new C hW hz hc hm h (by decide) nk_X5_9 dX5_init_16 (fun σ5 X6 H cells slots cu du h hW hz hc hm => ?_)
  refine lv_dup hx hb dX5_init_19 rfl ?_
  obtain ⟨u7, σ7, X7, c7, d7, cu9, du9, h7, h, hcu, hdu⟩ := bndH_inv h
  refine c_HI_V (rest := [.ref ((z + 1) + c3), .ref a]) C hW hz hc hcu hdu hm (t_X6_init h7) mk_X6_init ik_X5_11 rfl ⟨Nat.le_of_ble_eq_true rfl, Nat.le_of_ble_eq_true rfl⟩ rfl rfl (Nat.le_of_ble_eq_true rfl) hl.1 dX5_init_20 (fun H locs cells slots hW hz hc hm => ?_)
  refine r_pR C hW h pf_X5_18 (by decide) rfl rfl dX5_init_23 (fun σ8 H locs h hW hz1 => ?_)
  have hz := Nat.le_trans hz hz1
  refine lv_aload_n hx hb dX5_init_26 rfl (lv_at hl 0 rfl) ?_
  refine r_new C hW hz hc hm h (by decide) nk_X5_9 dX5_init_27 (fun σ9 X10 H cells slots cu du h hW hz hc hm => ?_)
  refine lv_dup hx hb dX5_init_30 rfl ?_
  obtain ⟨u11, σ11, X11, c11, d11, cu9, du9, h11, h, hcu, hdu⟩ := bndH_inv h
  refine c_HI_V (rest := [.ref ((((z + 1) + c3) + 1) + c7), .ref a]) C hW hz hc hcu hdu hm (t_X6_init h11) mk_X6_init ik_X5_11 rfl ⟨Nat.le_of_ble_eq_true rfl, Nat.le_of_ble_eq_true rfl⟩ rfl rfl (Nat.le_of_ble_eq_true rfl) hl.1 dX5_init_31 (fun H locs cells slots hW hz hc hm => ?_)
  refine r_pR C hW h pf_X5_21 (by decide) rfl rfl dX5_init_34 (fun σ12 H locs h hW hz1 => ?_)
  have hz := Nat.le_trans hz hz1
  refine lv_aload_n hx hb dX5_init_37 rfl (lv_at hl 0 rfl) ?_
  refine lv_iconst (v := 4) hx hb dX5_init_38 (by decide) ?_
  refine r_newaI C hW hz hc hm h ak_I dX5_init_39 (fun σ13 X14 H cells slots cu du h hW hz hc hm => ?_)
  refine r_pRF C hin hW h pff_X5_24 (by decide) rfl rfl dX5_init_41 (fun σ15 H locs h hW hz1 => ?_)
  have hz := Nat.le_trans hz hz1
  refine lv_aload_n hx hb dX5_init_44 rfl (lv_at hl 0 rfl) ?_
  refine lv_iconst (v := 4) hx hb dX5_init_45 (by decide) ?_
  refine r_newaI C hW hz hc hm h ak_I dX5_init_46 (fun σ16 X17 H cells slots cu du h hW hz hc hm => ?_)
  refine r_pRF C hin hW h pff_X5_28 (by decide) rfl rfl dX5_init_48 (fun σ18 H locs h hW hz1 => ?_)
  have hz := Nat.le_trans hz hz1
  refine lv_aload_n hx hb dX5_init_51 rfl (lv_at hl 0 rfl) ?_
  refine lv_iconst (v := 4) hx hb dX5_init_52 (by decide) ?_
  refine r_newaI C hW hz hc hm h ak_I dX5_init_53 (fun σ19 X20 H cells slots cu du h hW hz hc hm => ?_)
  refine r_pRF C hin hW h pff_X5_31 (by decide) rfl rfl dX5_init_55 (fun σ21 H locs h hW hz1 => ?_)
  have hz := Nat.le_trans hz hz1
  refine lv_aload_n hx hb dX5_init_58 rfl (lv_at hl 0 rfl) ?_
  refine lv_sipush (v := 316) hx hb dX5_init_59 (by decide) ?_
  refine r_newaI C hW hz hc hm h ak_I dX5_init_62 (fun σ22 X23 H cells slots cu du h hW hz hc hm => ?_)
  refine r_pRF C hin hW h pff_X5_34 (by decide) rfl rfl dX5_init_64 (fun σ24 H locs h hW hz1 => ?_)
  have hz := Nat.le_trans hz hz1
  refine lv_aload_n hx hb dX5_init_67 rfl (lv_at hl 0 rfl) ?_
  refine r_gR C hW h fl_X5_34 (by decide) dX5_init_68 (fun b25 h => ?_)
  refine lv_iconst (v := (-1)) hx hb dX5_init_71 (by decide) ?_
  obtain ⟨X27, h26, h⟩ := bnd_inv h
  refine r_cV hW (run_S (rest := []) C hW (t_J7_fill_53178 h26) mk_J7_fill_53178 sk_X5_37 ⟨Nat.le_of_ble_eq_true rfl, Nat.le_of_ble_eq_true rfl⟩ (hm_le hm) rfl rfl (Nat.le_of_ble_eq_true rfl) hl.1 dX5_init_72) (fun H locs hW hz1 => ?_)
  have hz := Nat.le_trans hz hz1
  exact r_hvret C hzf hW hz hc hm h dX5_init_75
theorem kd_X0_slot {σ : Sh} {X : Mx} {z : Nat} {r : Hr Nat} {a : Nat} {x1 : Int32} (h : f_X0_slot σ X z a x1 = some r) : shK σ a = 0 := (grd_inv h).1
set_option maxRecDepth 20000 in
set_option maxHeartbeats 2000000 in
theorem t_X0_slot {σ : Sh} {X : Mx} {z : Nat} {r : Hr Nat} {a : Nat} {x1 : Int32} (h : f_X0_slot σ X z a x1 = some r) : HvR g l yX0_slot cX0_slot 4 (some (.object "TableMerge$State")) 3 63 [.ref a, .int x1] σ X z r := by
  obtain ⟨v0, σ0, X0, mc, ms⟩ := r
  refine met_ofH mk_X0_slot (Nat.le_of_ble_eq_true rfl) (fun p e s m args below meth c ls C hin hW hzz hl => ?_)
  have hx := C.x
  have hb := C.b
  have hl : lv_has ls 4 [(0, .ref a), (1, .int x1)] := hl
  have hz : z ≤ s.heap.size := Nat.le_of_eq hzz.symm
  have hc : s.heap.size + 0 = z := hzz
  have hzf : s.heap.size + mc = z + mc := by rw [hzz]
  have hm : 0 + mc = mc ∧ 0 + ms = ms := ⟨Nat.zero_add _, Nat.zero_add _⟩
  unfold f_X0_slot at h
  obtain ⟨hk0, h⟩ := grd_inv h
  refine lv_aload_n hx hb dX0_slot_0 rfl (lv_at hl 0 rfl) ?_
  refine r_gI C hW h fl_X0_29 (by decide) dX0_slot_1 (fun v1 h => ?_)
  refine lv_iload_n hx hb dX0_slot_4 rfl (lv_at hl 1 rfl) ?_
  refine lv_iadd hx hb dX0_slot_5 ?_
  refine lv_bipush (v := 31) hx hb dX0_slot_6 (by decide) ?_
  obtain ⟨v3, h2, h⟩ := bnd_inv h
  refine r_cI hW (run_S (rest := []) C hW (t_J9_floorMod_7cf53 h2) mk_J9_floorMod_7cf53 sk_X0_32 ⟨Nat.le_of_ble_eq_true rfl, Nat.le_of_ble_eq_true rfl⟩ (hm_le hm) rfl rfl (Nat.le_of_ble_eq_true rfl) hl.1 dX0_slot_8) (fun H locs hW hz1 => ?_)
  have hz := Nat.le_trans hz hz1
  refine lv_istore_n (lv' := [(2, .int v3), (0, .ref a), (1, .int x1)]) hx hb dX0_slot_11 rfl hl (by decide) rfl (fun ls hl => ?_)
  refine lv_aload_n hx hb dX0_slot_12 rfl (lv_at hl 1 rfl) ?_
  refine r_gR C hW h fl_X0_13 (by decide) dX0_slot_13 (fun b4 h => ?_)
  refine lv_iload_n hx hb dX0_slot_16 rfl (lv_at hl 0 rfl) ?_
  refine r_aldq C hW h dX0_slot_17 (fun b5 h => ?_) (fun h => ?_)
  · refine lv_astore_n (lv' := [(3, .ref b5), (2, .int v3), (0, .ref a), (1, .int x1)]) hx hb dX0_slot_18 rfl hl (by decide) rfl (fun ls hl => ?_)
    refine lv_aload_n hx hb dX0_slot_19 rfl (lv_at hl 0 rfl) ?_
    refine lv_ifnonnull (tgt := 38) hx hb dX0_slot_20 (by decide) ?_
    refine lv_aload_n hx hb dX0_slot_38 rfl (lv_at hl 0 rfl) ?_
    exact r_haret C hzf hW hz hc hm h dX0_slot_39
  · refine lv_astore_nN (lv' := [(3, .null), (2, .int v3), (0, .ref a), (1, .int x1)]) hx hb dX0_slot_18 rfl hl (by decide) rfl (fun ls hl => ?_)
    refine lv_aload_nN hx hb dX0_slot_19 rfl (lv_at hl 0 rfl) ?_
    refine lv_ifnonnullN hx hb dX0_slot_20 ?_
    refine r_new C hW hz hc hm h (by decide) nk_X0_11 dX0_slot_23 (fun σ6 X7 H cells slots cu du h hW hz hc hm => ?_)
    refine lv_dup hx hb dX0_slot_26 rfl ?_
    obtain ⟨u8, σ8, X8, c8, d8, cu9, du9, h8, h, hcu, hdu⟩ := bndH_inv h
    refine c_HI_V (rest := [.ref z]) C hW hz hc hcu hdu hm (t_X5_init h8) mk_X5_init ik_X0_38 rfl ⟨Nat.le_of_ble_eq_true rfl, Nat.le_of_ble_eq_true rfl⟩ rfl rfl (Nat.le_of_ble_eq_true rfl) hl.1 dX0_slot_27 (fun H locs cells slots hW hz hc hm => ?_)
    refine lv_astore_n (lv' := [(3, .ref z), (2, .int v3), (0, .ref a), (1, .int x1)]) hx hb dX0_slot_30 rfl hl (by decide) rfl (fun ls hl => ?_)
    refine lv_aload_n hx hb dX0_slot_31 rfl (lv_at hl 2 rfl) ?_
    refine r_gR C hW h fl_X0_13 (by decide) dX0_slot_32 (fun b9 h => ?_)
    refine lv_iload_n hx hb dX0_slot_35 rfl (lv_at hl 1 rfl) ?_
    refine lv_aload_n hx hb dX0_slot_36 rfl (lv_at hl 0 rfl) ?_
    refine r_astq C hW h dX0_slot_37 (fun σ10 H locs h hW hz1 => ?_)
    have hz := Nat.le_trans hz hz1
    refine lv_aload_n hx hb dX0_slot_38 rfl (lv_at hl 0 rfl) ?_
    exact r_haret C hzf hW hz hc hm h dX0_slot_39
theorem kd_X0_prepare {σ : Sh} {X : Mx} {z : Nat} {r : Hr Unit} {a : Nat} {a1 : Nat} (h : f_X0_prepare σ X z a a1 = some r) : shK σ a = 0 := (grd_inv h).1
set_option maxRecDepth 20000 in
set_option maxHeartbeats 2000000 in
theorem t_X0_prepare {σ : Sh} {X : Mx} {z : Nat} {r : Hr Unit} {a : Nat} {a1 : Nat} (h : f_X0_prepare σ X z a a1 = some r) : HvV g l yX0_prepare cX0_prepare 2 none 4 86 [.ref a, .ref a1] σ X z r := by
  obtain ⟨v0, σ0, X0, mc, ms⟩ := r
  refine met_ofH mk_X0_prepare (Nat.le_of_ble_eq_true rfl) (fun p e s m args below meth c ls C hin hW hzz hl => ?_)
  have hx := C.x
  have hb := C.b
  have hl : lv_has ls 2 [(0, .ref a), (1, .ref a1)] := hl
  have hz : z ≤ s.heap.size := Nat.le_of_eq hzz.symm
  have hc : s.heap.size + 0 = z := hzz
  have hzf : s.heap.size + mc = z + mc := by rw [hzz]
  have hm : 0 + mc = mc ∧ 0 + ms = ms := ⟨Nat.zero_add _, Nat.zero_add _⟩
  unfold f_X0_prepare at h
  obtain ⟨hk0, h⟩ := grd_inv h
  refine lv_aload_n hx hb dX0_prepare_0 rfl (lv_at hl 0 rfl) ?_
  refine lv_aload_n hx hb dX0_prepare_1 rfl (lv_at hl 0 rfl) ?_
  refine r_gI C hW h fl_X0_17 (by decide) dX0_prepare_2 (fun v1 h => ?_)
  obtain ⟨b2, σ2, X2, c2, d2, cu9, du9, h2, h, hcu, hdu⟩ := bndH_inv h
  refine c_HV_R (rest := []) C hW hz hc hcu hdu hm (t_X0_slot h2) mk_X0_slot vk_X0_21 (kd_X0_slot h2) rfl rfl (by decide) ⟨Nat.le_of_ble_eq_true rfl, Nat.le_of_ble_eq_true rfl⟩ rfl rfl (Nat.le_of_ble_eq_true rfl) hl.1 dX0_prepare_5 (fun H locs cells slots hW hz hc hm => ?_)
  refine lv_aload_n hx hb dX0_prepare_8 rfl (lv_at hl 1 rfl) ?_
  obtain ⟨X4, h3, h⟩ := bnd_inv h
  refine r_cV hW (run_V (rest := []) C hW (t_X5_copyFrom h3) mk_X5_copyFrom vk_X0_25 (kd_X5_copyFrom h3) rfl rfl (by decide) ⟨Nat.le_of_ble_eq_true rfl, Nat.le_of_ble_eq_true rfl⟩ (hm_le hm) rfl rfl (Nat.le_of_ble_eq_true rfl) hl.1 dX0_prepare_9) (fun H locs hW hz1 => ?_)
  have hz := Nat.le_trans hz hz1
  exact r_hvret C hzf hW hz hc hm h dX0_prepare_12
theorem kd_X0_takeBack {σ : Sh} {X : Mx} {z : Nat} {r : Hr Int32} {a : Nat} {a1 : Nat} (h : f_X0_takeBack σ X z a a1 = some r) : shK σ a = 0 := (grd_inv h).1
set_option maxRecDepth 20000 in
set_option maxHeartbeats 2000000 in
theorem t_X0_takeBack {σ : Sh} {X : Mx} {z : Nat} {r : Hr Int32} {a : Nat} {a1 : Nat} (h : f_X0_takeBack σ X z a a1 = some r) : HvI g l yX0_takeBack cX0_takeBack 2 (some .boolean) 4 86 [.ref a, .ref a1] σ X z r := by
  obtain ⟨v0, σ0, X0, mc, ms⟩ := r
  refine met_ofH mk_X0_takeBack (Nat.le_of_ble_eq_true rfl) (fun p e s m args below meth c ls C hin hW hzz hl => ?_)
  have hx := C.x
  have hb := C.b
  have hl : lv_has ls 2 [(0, .ref a), (1, .ref a1)] := hl
  have hz : z ≤ s.heap.size := Nat.le_of_eq hzz.symm
  have hc : s.heap.size + 0 = z := hzz
  have hzf : s.heap.size + mc = z + mc := by rw [hzz]
  have hm : 0 + mc = mc ∧ 0 + ms = ms := ⟨Nat.zero_add _, Nat.zero_add _⟩
  unfold f_X0_takeBack at h
  obtain ⟨hk0, h⟩ := grd_inv h
  refine lv_aload_n hx hb dX0_takeBack_0 rfl (lv_at hl 0 rfl) ?_
  refine r_gI C hW h fl_X0_17 (by decide) dX0_takeBack_1 (fun v1 h => ?_)
  refine r_brn h (lv_if_ne (tgt := 9) hx hb dX0_takeBack_4 (by decide)) (fun h => ?_) (fun h => ?_)
  · refine lv_aload_n hx hb dX0_takeBack_9 rfl (lv_at hl 0 rfl) ?_
    refine lv_dup hx hb dX0_takeBack_10 rfl ?_
    refine r_gI C hW h fl_X0_17 (by decide) dX0_takeBack_11 (fun v2 h => ?_)
    refine lv_iconst (v := 1) hx hb dX0_takeBack_14 (by decide) ?_
    refine lv_isub hx hb dX0_takeBack_15 ?_
    refine r_pI C hW h pf_X0_17 (by decide) rfl rfl dX0_takeBack_16 (fun X3 H locs h hW hz1 => ?_)
    have hz := Nat.le_trans hz hz1
    refine lv_aload_n hx hb dX0_takeBack_19 rfl (lv_at hl 1 rfl) ?_
    refine lv_aload_n hx hb dX0_takeBack_20 rfl (lv_at hl 0 rfl) ?_
    refine lv_aload_n hx hb dX0_takeBack_21 rfl (lv_at hl 0 rfl) ?_
    refine r_gI C hW h fl_X0_17 (by decide) dX0_takeBack_22 (fun v4 h => ?_)
    obtain ⟨b5, σ5, X5, c5, d5, cu9, du9, h5, h, hcu, hdu⟩ := bndH_inv h
    refine c_HV_R (rest := [.ref a1]) C hW hz hc hcu hdu hm (t_X0_slot h5) mk_X0_slot vk_X0_21 (kd_X0_slot h5) rfl rfl (by decide) ⟨Nat.le_of_ble_eq_true rfl, Nat.le_of_ble_eq_true rfl⟩ rfl rfl (Nat.le_of_ble_eq_true rfl) hl.1 dX0_takeBack_25 (fun H locs cells slots hW hz hc hm => ?_)
    obtain ⟨X7, h6, h⟩ := bnd_inv h
    refine r_cV hW (run_V (rest := []) C hW (t_X5_copyFrom h6) mk_X5_copyFrom vk_X0_25 (kd_X5_copyFrom h6) rfl rfl (by decide) ⟨Nat.le_of_ble_eq_true rfl, Nat.le_of_ble_eq_true rfl⟩ (hm_le hm) rfl rfl (Nat.le_of_ble_eq_true rfl) hl.1 dX0_takeBack_28) (fun H locs hW hz1 => ?_)
    have hz := Nat.le_trans hz hz1
    refine lv_iconst (v := 1) hx hb dX0_takeBack_31 (by decide) ?_
    exact r_hiret C hzf hW hz hc hm h rfl dX0_takeBack_32
  · refine lv_iconst (v := 0) hx hb dX0_takeBack_7 (by decide) ?_
    exact r_hiret C hzf hW hz hc hm h rfl dX0_takeBack_8
set_option maxRecDepth 20000 in
set_option maxHeartbeats 2000000 in
theorem b_X0_copyFrom_10 {a : Nat} {a1 : Nat} (C : Cx g RX0 cX0_copyFrom 3 none p s m args meth c) {mc ms zf : Nat} {v0 : Unit} {σ0 : Sh} {X0 : Mx} (hzf : s.heap.size + mc = zf) : ∀ (n : Nat) {σ : Sh} {X : Mx} {z : Nat} {x2 : Int32} {cu du cells slots : Nat} {H : Heap} {locs : List Loc} {ls : Array Slot} (hW : Wd g σ X s H locs) (hz : z ≤ H.size) (hc : s.heap.size + cells = z) (hm : cells + cu = mc ∧ slots + du = ms) (hl : lv_has ls 3 [(0, .ref a), (1, .ref a1), (2, .int x2)]) (h : f_X0_copyFrom_10 a a1 n σ X z x2 = some (v0, σ0, X0, cu, du)), W p l e (rmH 4 86 mc ms) s m args below meth c H locs cells slots (QHV g below args s mc ms zf v0 σ0 X0) (F0 m 10 ls []) := by
  have hx := C.x
  have hb := C.b
  intro n
  induction n with
  | zero =>
    intro σ X z x2 cu du cells slots H locs ls hW hz hc hm hl h
    cases (show none = some (v0, σ0, X0, cu, du) from h)
  | succ n ih =>
    intro σ X z x2 cu du cells slots H locs ls hW hz hc hm hl h
    rw [f_X0_copyFrom_10] at h
    refine lv_iload_n hx hb dX0_copyFrom_10 rfl (lv_at hl 2 rfl) ?_
    refine lv_aload_n hx hb dX0_copyFrom_11 rfl (lv_at hl 0 rfl) ?_
    refine r_gI C hW h fl_X0_17 (by decide) dX0_copyFrom_12 (fun v1 h => ?_)
    refine r_br h (lv_icmp_ge (tgt := 37) hx hb dX0_copyFrom_15 (by decide)) (fun h => ?_) (fun h => ?_)
    · exact r_hvret C hzf hW hz hc hm h dX0_copyFrom_37
    · refine lv_aload_n hx hb dX0_copyFrom_18 rfl (lv_at hl 0 rfl) ?_
      refine lv_iload_n hx hb dX0_copyFrom_19 rfl (lv_at hl 2 rfl) ?_
      obtain ⟨b2, σ2, X2, c2, d2, cu9, du9, h2, h, hcu, hdu⟩ := bndH_inv h
      refine c_HV_R (rest := []) C hW hz hc hcu hdu hm (t_X0_slot h2) mk_X0_slot vk_X0_21 (kd_X0_slot h2) rfl rfl (by decide) ⟨Nat.le_of_ble_eq_true rfl, Nat.le_of_ble_eq_true rfl⟩ rfl rfl (Nat.le_of_ble_eq_true rfl) hl.1 dX0_copyFrom_20 (fun H locs cells slots hW hz hc hm => ?_)
      refine lv_aload_n hx hb dX0_copyFrom_23 rfl (lv_at hl 1 rfl) ?_
      refine lv_iload_n hx hb dX0_copyFrom_24 rfl (lv_at hl 2 rfl) ?_
      obtain ⟨b3, σ3, X3, c3, d3, cu9, du9, h3, h, hcu, hdu⟩ := bndH_inv h
      refine c_HV_R (rest := [.ref b2]) C hW hz hc hcu hdu hm (t_X0_slot h3) mk_X0_slot vk_X0_21 (kd_X0_slot h3) rfl rfl (by decide) ⟨Nat.le_of_ble_eq_true rfl, Nat.le_of_ble_eq_true rfl⟩ rfl rfl (Nat.le_of_ble_eq_true rfl) hl.1 dX0_copyFrom_25 (fun H locs cells slots hW hz hc hm => ?_)
      obtain ⟨X5, h4, h⟩ := bnd_inv h
      refine r_cV hW (run_V (rest := []) C hW (t_X5_copyFrom h4) mk_X5_copyFrom vk_X0_25 (kd_X5_copyFrom h4) rfl rfl (by decide) ⟨Nat.le_of_ble_eq_true rfl, Nat.le_of_ble_eq_true rfl⟩ (hm_le hm) rfl rfl (Nat.le_of_ble_eq_true rfl) hl.1 dX0_copyFrom_28) (fun H locs hW hz1 => ?_)
      have hz := Nat.le_trans hz hz1
      refine lv_iinc (v := (x2 + 1)) (lv' := [(2, .int (x2 + 1)), (0, .ref a), (1, .ref a1)]) hx hb dX0_copyFrom_31 hl (k := 2) rfl rfl (by decide) rfl (fun ls hl => ?_)
      refine lv_goto (tgt := 10) hx hb dX0_copyFrom_34 (by decide) ?_
      exact ih hW hz hc hm (lv_sub hl [1, 2, 0] rfl) h
theorem kd_X0_copyFrom {σ : Sh} {X : Mx} {z : Nat} {r : Hr Unit} {a : Nat} {a1 : Nat} (h : f_X0_copyFrom σ X z a a1 = some r) : shK σ a = 0 := (grd_inv h).1
set_option maxRecDepth 20000 in
set_option maxHeartbeats 2000000 in
theorem t_X0_copyFrom {σ : Sh} {X : Mx} {z : Nat} {r : Hr Unit} {a : Nat} {a1 : Nat} (h : f_X0_copyFrom σ X z a a1 = some r) : HvV g l yX0_copyFrom cX0_copyFrom 3 none 4 86 [.ref a, .ref a1] σ X z r := by
  obtain ⟨v0, σ0, X0, mc, ms⟩ := r
  refine met_ofH mk_X0_copyFrom (Nat.le_of_ble_eq_true rfl) (fun p e s m args below meth c ls C hin hW hzz hl => ?_)
  have hx := C.x
  have hb := C.b
  have hl : lv_has ls 3 [(0, .ref a), (1, .ref a1)] := hl
  have hz : z ≤ s.heap.size := Nat.le_of_eq hzz.symm
  have hc : s.heap.size + 0 = z := hzz
  have hzf : s.heap.size + mc = z + mc := by rw [hzz]
  have hm : 0 + mc = mc ∧ 0 + ms = ms := ⟨Nat.zero_add _, Nat.zero_add _⟩
  unfold f_X0_copyFrom at h
  obtain ⟨hk0, h⟩ := grd_inv h
  refine lv_aload_n hx hb dX0_copyFrom_0 rfl (lv_at hl 0 rfl) ?_
  refine lv_aload_n hx hb dX0_copyFrom_1 rfl (lv_at hl 1 rfl) ?_
  refine r_gI C hW h fl_X0_17 (by decide) dX0_copyFrom_2 (fun v1 h => ?_)
  refine r_pI C hW h pf_X0_17 (by decide) rfl rfl dX0_copyFrom_5 (fun X2 H locs h hW hz1 => ?_)
  have hz := Nat.le_trans hz hz1
  refine lv_iconst (v := 0) hx hb dX0_copyFrom_8 (by decide) ?_
  refine lv_istore_n (lv' := [(2, .int 0), (0, .ref a), (1, .ref a1)]) hx hb dX0_copyFrom_9 rfl hl (by decide) rfl (fun ls hl => ?_)
  exact b_X0_copyFrom_10 C hzf FU hW hz hc hm (lv_sub hl [1, 2, 0] rfl) h
theorem kd_X2_init {σ : Sh} {X : Mx} {z : Nat} {r : Hr Unit} {a : Nat} (h : f_X2_init σ X z a = some r) : shK σ a = 1 := (grd_inv h).1
set_option maxRecDepth 20000 in
set_option maxHeartbeats 2000000 in
theorem t_X2_init {σ : Sh} {X : Mx} {z : Nat} {r : Hr Unit} {a : Nat} (h : f_X2_init σ X z a = some r) : HvV g l yX2_init cX2_init 1 none 2 43 [.ref a] σ X z r := by
  obtain ⟨v0, σ0, X0, mc, ms⟩ := r
  refine met_ofH mk_X2_init (Nat.le_of_ble_eq_true rfl) (fun p e s m args below meth c ls C hin hW hzz hl => ?_)
  have hx := C.x
  have hb := C.b
  have hl : lv_has ls 1 [(0, .ref a)] := hl
  have hz : z ≤ s.heap.size := Nat.le_of_eq hzz.symm
  have hc : s.heap.size + 0 = z := hzz
  have hzf : s.heap.size + mc = z + mc := by rw [hzz]
  have hm : 0 + mc = mc ∧ 0 + ms = ms := ⟨Nat.zero_add _, Nat.zero_add _⟩
  unfold f_X2_init at h
  obtain ⟨hk0, h⟩ := grd_inv h
  refine lv_aload_n hx hb dX2_init_0 rfl (lv_at hl 0 rfl) ?_
  refine r_obj C ok_X2_3 ⟨Nat.le_of_ble_eq_true rfl, Nat.le_of_ble_eq_true rfl⟩ hl.1 dX2_init_1 ?_
  refine lv_aload_n hx hb dX2_init_4 rfl (lv_at hl 0 rfl) ?_
  refine r_new C hW hz hc hm h (by decide) nk_X2_9 dX2_init_5 (fun σ1 X2 H cells slots cu du h hW hz hc hm => ?_)
  refine lv_dup hx hb dX2_init_8 rfl ?_
  obtain ⟨u3, σ3, X3, c3, d3, cu9, du9, h3, h, hcu, hdu⟩ := bndH_inv h
  refine c_HI_V (rest := [.ref z, .ref a]) C hW hz hc hcu hdu hm (t_X6_init h3) mk_X6_init ik_X2_11 rfl ⟨Nat.le_of_ble_eq_true rfl, Nat.le_of_ble_eq_true rfl⟩ rfl rfl (Nat.le_of_ble_eq_true rfl) hl.1 dX2_init_9 (fun H locs cells slots hW hz hc hm => ?_)
  refine r_pRF C hin hW h pff_X2_12 (by decide) rfl rfl dX2_init_12 (fun σ4 H locs h hW hz1 => ?_)
  have hz := Nat.le_trans hz hz1
  refine lv_aload_n hx hb dX2_init_15 rfl (lv_at hl 0 rfl) ?_
  refine lv_sipush (v := 180) hx hb dX2_init_16 (by decide) ?_
  refine r_newaI C hW hz hc hm h ak_I dX2_init_19 (fun σ5 X6 H cells slots cu du h hW hz hc hm => ?_)
  refine r_pRF C hin hW h pff_X2_18 (by decide) rfl rfl dX2_init_21 (fun σ7 H locs h hW hz1 => ?_)
  have hz := Nat.le_trans hz hz1
  refine lv_aload_n hx hb dX2_init_24 rfl (lv_at hl 0 rfl) ?_
  refine lv_sipush (v := 316) hx hb dX2_init_25 (by decide) ?_
  refine r_newaI C hW hz hc hm h ak_I dX2_init_28 (fun σ8 X9 H cells slots cu du h hW hz hc hm => ?_)
  refine r_pRF C hin hW h pff_X2_22 (by decide) rfl rfl dX2_init_30 (fun σ10 H locs h hW hz1 => ?_)
  have hz := Nat.le_trans hz hz1
  refine lv_aload_n hx hb dX2_init_33 rfl (lv_at hl 0 rfl) ?_
  refine lv_sipush (v := 316) hx hb dX2_init_34 (by decide) ?_
  refine r_newaI C hW hz hc hm h ak_I dX2_init_37 (fun σ11 X12 H cells slots cu du h hW hz hc hm => ?_)
  refine r_pRF C hin hW h pff_X2_25 (by decide) rfl rfl dX2_init_39 (fun σ13 H locs h hW hz1 => ?_)
  have hz := Nat.le_trans hz hz1
  refine lv_aload_n hx hb dX2_init_42 rfl (lv_at hl 0 rfl) ?_
  refine lv_sipush (v := 316) hx hb dX2_init_43 (by decide) ?_
  refine r_newaI C hW hz hc hm h ak_I dX2_init_46 (fun σ14 X15 H cells slots cu du h hW hz hc hm => ?_)
  refine r_pRF C hin hW h pff_X2_28 (by decide) rfl rfl dX2_init_48 (fun σ16 H locs h hW hz1 => ?_)
  have hz := Nat.le_trans hz hz1
  refine lv_aload_n hx hb dX2_init_51 rfl (lv_at hl 0 rfl) ?_
  refine lv_bipush (v := 9) hx hb dX2_init_52 (by decide) ?_
  refine r_newaI C hW hz hc hm h ak_I dX2_init_54 (fun σ17 X18 H cells slots cu du h hW hz hc hm => ?_)
  refine r_pRF C hin hW h pff_X2_31 (by decide) rfl rfl dX2_init_56 (fun σ19 H locs h hW hz1 => ?_)
  have hz := Nat.le_trans hz hz1
  exact r_hvret C hzf hW hz hc hm h dX2_init_59
theorem kd_X3_init {σ : Sh} {X : Mx} {z : Nat} {r : Hr Unit} {a : Nat} (h : f_X3_init σ X z a = some r) : shK σ a = 2 := (grd_inv h).1
set_option maxRecDepth 20000 in
set_option maxHeartbeats 2000000 in
theorem t_X3_init {σ : Sh} {X : Mx} {z : Nat} {r : Hr Unit} {a : Nat} (h : f_X3_init σ X z a = some r) : HvV g l yX3_init cX3_init 1 none 3 63 [.ref a] σ X z r := by
  obtain ⟨v0, σ0, X0, mc, ms⟩ := r
  refine met_ofH mk_X3_init (Nat.le_of_ble_eq_true rfl) (fun p e s m args below meth c ls C hin hW hzz hl => ?_)
  have hx := C.x
  have hb := C.b
  have hl : lv_has ls 1 [(0, .ref a)] := hl
  have hz : z ≤ s.heap.size := Nat.le_of_eq hzz.symm
  have hc : s.heap.size + 0 = z := hzz
  have hzf : s.heap.size + mc = z + mc := by rw [hzz]
  have hm : 0 + mc = mc ∧ 0 + ms = ms := ⟨Nat.zero_add _, Nat.zero_add _⟩
  unfold f_X3_init at h
  obtain ⟨hk0, h⟩ := grd_inv h
  refine lv_aload_n hx hb dX3_init_0 rfl (lv_at hl 0 rfl) ?_
  refine r_obj C ok_X3_3 ⟨Nat.le_of_ble_eq_true rfl, Nat.le_of_ble_eq_true rfl⟩ hl.1 dX3_init_1 ?_
  refine lv_aload_n hx hb dX3_init_4 rfl (lv_at hl 0 rfl) ?_
  refine r_new C hW hz hc hm h (by decide) nk_X3_9 dX3_init_5 (fun σ1 X2 H cells slots cu du h hW hz hc hm => ?_)
  refine lv_dup hx hb dX3_init_8 rfl ?_
  obtain ⟨u3, σ3, X3, c3, d3, cu9, du9, h3, h, hcu, hdu⟩ := bndH_inv h
  refine c_HI_V (rest := [.ref z, .ref a]) C hW hz hc hcu hdu hm (t_X5_init h3) mk_X5_init ik_X3_11 rfl ⟨Nat.le_of_ble_eq_true rfl, Nat.le_of_ble_eq_true rfl⟩ rfl rfl (Nat.le_of_ble_eq_true rfl) hl.1 dX3_init_9 (fun H locs cells slots hW hz hc hm => ?_)
  refine r_pRF C hin hW h pff_X3_12 (by decide) rfl rfl dX3_init_12 (fun σ4 H locs h hW hz1 => ?_)
  have hz := Nat.le_trans hz hz1
  refine lv_aload_n hx hb dX3_init_15 rfl (lv_at hl 0 rfl) ?_
  refine r_new C hW hz hc hm h (by decide) nk_X3_18 dX3_init_16 (fun σ5 X6 H cells slots cu du h hW hz hc hm => ?_)
  refine lv_dup hx hb dX3_init_19 rfl ?_
  obtain ⟨u7, σ7, X7, c7, d7, cu9, du9, h7, h, hcu, hdu⟩ := bndH_inv h
  refine c_HIN_V (rest := [.ref ((z + 1) + c3), .ref a]) C hW hz hc hcu hdu hm (t_X2_init h7) mk_X2_init ink_X3_20 rfl ⟨Nat.le_of_ble_eq_true rfl, Nat.le_of_ble_eq_true rfl⟩ rfl rfl (Nat.le_of_ble_eq_true rfl) hl.1 dX3_init_20 (fun H locs cells slots hW hz hc hm => ?_)
  refine r_pRF C hin hW h pff_X3_21 (by decide) rfl rfl dX3_init_23 (fun σ8 H locs h hW hz1 => ?_)
  have hz := Nat.le_trans hz hz1
  refine lv_aload_n hx hb dX3_init_26 rfl (lv_at hl 0 rfl) ?_
  refine lv_bipush (v := 7) hx hb dX3_init_27 (by decide) ?_
  refine r_newaI C hW hz hc hm h ak_I dX3_init_29 (fun σ9 X10 H cells slots cu du h hW hz hc hm => ?_)
  refine r_pRF C hin hW h pff_X3_25 (by decide) rfl rfl dX3_init_31 (fun σ11 H locs h hW hz1 => ?_)
  have hz := Nat.le_trans hz hz1
  refine lv_aload_n hx hb dX3_init_34 rfl (lv_at hl 0 rfl) ?_
  refine lv_bipush (v := 21) hx hb dX3_init_35 (by decide) ?_
  refine r_newaI C hW hz hc hm h ak_I dX3_init_37 (fun σ12 X13 H cells slots cu du h hW hz hc hm => ?_)
  refine r_pRF C hin hW h pff_X3_29 (by decide) rfl rfl dX3_init_39 (fun σ14 H locs h hW hz1 => ?_)
  have hz := Nat.le_trans hz hz1
  refine lv_aload_n hx hb dX3_init_42 rfl (lv_at hl 0 rfl) ?_
  refine lv_bipush (v := 10) hx hb dX3_init_43 (by decide) ?_
  refine r_newaI C hW hz hc hm h ak_I dX3_init_45 (fun σ15 X16 H cells slots cu du h hW hz hc hm => ?_)
  refine r_pRF C hin hW h pff_X3_32 (by decide) rfl rfl dX3_init_47 (fun σ17 H locs h hW hz1 => ?_)
  have hz := Nat.le_trans hz hz1
  exact r_hvret C hzf hW hz hc hm h dX3_init_50
theorem kd_X4_init {σ : Sh} {X : Mx} {z : Nat} {r : Hr Unit} {a : Nat} (h : f_X4_init σ X z a = some r) : shK σ a = 3 := (grd_inv h).1
set_option maxRecDepth 20000 in
set_option maxHeartbeats 2000000 in
theorem t_X4_init {σ : Sh} {X : Mx} {z : Nat} {r : Hr Unit} {a : Nat} (h : f_X4_init σ X z a = some r) : HvV g l yX4_init cX4_init 1 none 1 20 [.ref a] σ X z r := by
  obtain ⟨v0, σ0, X0, mc, ms⟩ := r
  refine met_ofH mk_X4_init (Nat.le_of_ble_eq_true rfl) (fun p e s m args below meth c ls C hin hW hzz hl => ?_)
  have hx := C.x
  have hb := C.b
  have hl : lv_has ls 1 [(0, .ref a)] := hl
  have hz : z ≤ s.heap.size := Nat.le_of_eq hzz.symm
  have hc : s.heap.size + 0 = z := hzz
  have hzf : s.heap.size + mc = z + mc := by rw [hzz]
  have hm : 0 + mc = mc ∧ 0 + ms = ms := ⟨Nat.zero_add _, Nat.zero_add _⟩
  unfold f_X4_init at h
  obtain ⟨hk0, h⟩ := grd_inv h
  refine lv_aload_n hx hb dX4_init_0 rfl (lv_at hl 0 rfl) ?_
  refine r_obj C ok_X4_3 ⟨Nat.le_of_ble_eq_true rfl, Nat.le_of_ble_eq_true rfl⟩ hl.1 dX4_init_1 ?_
  refine lv_aload_n hx hb dX4_init_4 rfl (lv_at hl 0 rfl) ?_
  refine lv_bipush (v := 8) hx hb dX4_init_5 (by decide) ?_
  refine r_newaI C hW hz hc hm h ak_I dX4_init_7 (fun σ1 X2 H cells slots cu du h hW hz hc hm => ?_)
  refine r_pRF C hin hW h pff_X4_9 (by decide) rfl rfl dX4_init_9 (fun σ3 H locs h hW hz1 => ?_)
  have hz := Nat.le_trans hz hz1
  refine lv_aload_n hx hb dX4_init_12 rfl (lv_at hl 0 rfl) ?_
  refine lv_bipush (v := 8) hx hb dX4_init_13 (by decide) ?_
  refine r_newaI C hW hz hc hm h ak_I dX4_init_15 (fun σ4 X5 H cells slots cu du h hW hz hc hm => ?_)
  refine r_pRF C hin hW h pff_X4_15 (by decide) rfl rfl dX4_init_17 (fun σ6 H locs h hW hz1 => ?_)
  have hz := Nat.le_trans hz hz1
  refine lv_aload_n hx hb dX4_init_20 rfl (lv_at hl 0 rfl) ?_
  refine lv_bipush (v := 8) hx hb dX4_init_21 (by decide) ?_
  refine r_newaI C hW hz hc hm h ak_I dX4_init_23 (fun σ7 X8 H cells slots cu du h hW hz hc hm => ?_)
  refine r_pRF C hin hW h pff_X4_18 (by decide) rfl rfl dX4_init_25 (fun σ9 H locs h hW hz1 => ?_)
  have hz := Nat.le_trans hz hz1
  exact r_hvret C hzf hW hz hc hm h dX4_init_28
theorem kd_X5_changeSidesAbout {σ : Sh} {X : Mx} {z : Nat} {r : Hr Unit} {a : Nat} (h : f_X5_changeSidesAbout σ X z a = some r) : shK σ a = 4 := (grd_inv h).1
set_option maxRecDepth 20000 in
set_option maxHeartbeats 2000000 in
theorem t_X5_changeSidesAbout {σ : Sh} {X : Mx} {z : Nat} {r : Hr Unit} {a : Nat} (h : f_X5_changeSidesAbout σ X z a = some r) : HvV g l yX5_changeSidesAbout cX5_changeSidesAbout 3 none 4 90 [.ref a] σ X z r := by
  obtain ⟨v0, σ0, X0, mc, ms⟩ := r
  refine met_ofH mk_X5_changeSidesAbout (Nat.le_of_ble_eq_true rfl) (fun p e s m args below meth c ls C hin hW hzz hl => ?_)
  have hx := C.x
  have hb := C.b
  have hl : lv_has ls 3 [(0, .ref a)] := hl
  have hz : z ≤ s.heap.size := Nat.le_of_eq hzz.symm
  have hc : s.heap.size + 0 = z := hzz
  have hzf : s.heap.size + mc = z + mc := by rw [hzz]
  have hm : 0 + mc = mc ∧ 0 + ms = ms := ⟨Nat.zero_add _, Nat.zero_add _⟩
  unfold f_X5_changeSidesAbout at h
  obtain ⟨hk0, h⟩ := grd_inv h
  refine lv_aload_n hx hb dX5_changeSidesAbout_0 rfl (lv_at hl 0 rfl) ?_
  refine r_gR C hW h fl_X5_18 (by decide) dX5_changeSidesAbout_1 (fun b1 h => ?_)
  refine lv_astore_n (lv' := [(1, .ref b1), (0, .ref a)]) hx hb dX5_changeSidesAbout_4 rfl hl (by decide) rfl (fun ls hl => ?_)
  refine lv_aload_n hx hb dX5_changeSidesAbout_5 rfl (lv_at hl 1 rfl) ?_
  refine lv_aload_n hx hb dX5_changeSidesAbout_6 rfl (lv_at hl 1 rfl) ?_
  refine r_gR C hW h fl_X5_21 (by decide) dX5_changeSidesAbout_7 (fun b2 h => ?_)
  refine r_pR C hW h pf_X5_18 (by decide) rfl rfl dX5_changeSidesAbout_10 (fun σ3 H locs h hW hz1 => ?_)
  have hz := Nat.le_trans hz hz1
  refine lv_aload_n hx hb dX5_changeSidesAbout_13 rfl (lv_at hl 1 rfl) ?_
  refine lv_aload_n hx hb dX5_changeSidesAbout_14 rfl (lv_at hl 0 rfl) ?_
  refine r_pR C hW h pf_X5_21 (by decide) rfl rfl dX5_changeSidesAbout_15 (fun σ4 H locs h hW hz1 => ?_)
  have hz := Nat.le_trans hz hz1
  refine lv_aload_n hx hb dX5_changeSidesAbout_18 rfl (lv_at hl 1 rfl) ?_
  refine r_gR C hW h fl_X5_18 (by decide) dX5_changeSidesAbout_19 (fun b5 h => ?_)
  obtain ⟨X7, h6, h⟩ := bnd_inv h
  refine r_cV hW (run_V (rest := []) C hW (t_X6_renumberAdded h6) mk_X6_renumberAdded vk_X5_160 (kd_X6_renumberAdded h6) rfl rfl (by decide) ⟨Nat.le_of_ble_eq_true rfl, Nat.le_of_ble_eq_true rfl⟩ (hm_le hm) rfl rfl (Nat.le_of_ble_eq_true rfl) hl.1 dX5_changeSidesAbout_22) (fun H locs hW hz1 => ?_)
  have hz := Nat.le_trans hz hz1
  refine lv_aload_n hx hb dX5_changeSidesAbout_25 rfl (lv_at hl 1 rfl) ?_
  refine r_gR C hW h fl_X5_21 (by decide) dX5_changeSidesAbout_26 (fun b8 h => ?_)
  obtain ⟨X10, h9, h⟩ := bnd_inv h
  refine r_cV hW (run_V (rest := []) C hW (t_X6_renumberAdded h9) mk_X6_renumberAdded vk_X5_160 (kd_X6_renumberAdded h9) rfl rfl (by decide) ⟨Nat.le_of_ble_eq_true rfl, Nat.le_of_ble_eq_true rfl⟩ (hm_le hm) rfl rfl (Nat.le_of_ble_eq_true rfl) hl.1 dX5_changeSidesAbout_29) (fun H locs hW hz1 => ?_)
  have hz := Nat.le_trans hz hz1
  refine lv_aload_n hx hb dX5_changeSidesAbout_32 rfl (lv_at hl 1 rfl) ?_
  refine r_gI C hW h fl_X5_57 (by decide) dX5_changeSidesAbout_33 (fun v11 h => ?_)
  refine lv_istore_n (lv' := [(2, .int v11), (1, .ref b1), (0, .ref a)]) hx hb dX5_changeSidesAbout_36 rfl hl (by decide) rfl (fun ls hl => ?_)
  refine lv_aload_n hx hb dX5_changeSidesAbout_37 rfl (lv_at hl 2 rfl) ?_
  refine lv_aload_n hx hb dX5_changeSidesAbout_38 rfl (lv_at hl 2 rfl) ?_
  refine r_gI C hW h fl_X5_60 (by decide) dX5_changeSidesAbout_39 (fun v12 h => ?_)
  refine r_pI C hW h pf_X5_57 (by decide) rfl rfl dX5_changeSidesAbout_42 (fun X13 H locs h hW hz1 => ?_)
  have hz := Nat.le_trans hz hz1
  refine lv_aload_n hx hb dX5_changeSidesAbout_45 rfl (lv_at hl 2 rfl) ?_
  refine lv_iload_n hx hb dX5_changeSidesAbout_46 rfl (lv_at hl 0 rfl) ?_
  refine r_pI C hW h pf_X5_60 (by decide) rfl rfl dX5_changeSidesAbout_47 (fun X14 H locs h hW hz1 => ?_)
  have hz := Nat.le_trans hz hz1
  refine lv_aload_n hx hb dX5_changeSidesAbout_50 rfl (lv_at hl 2 rfl) ?_
  obtain ⟨X16, h15, h⟩ := bnd_inv h
  refine r_cV hW (run_V (rest := []) C hW (t_X5_changeChoicesAbout h15) mk_X5_changeChoicesAbout vk_X5_163 (kd_X5_changeChoicesAbout h15) rfl rfl (by decide) ⟨Nat.le_of_ble_eq_true rfl, Nat.le_of_ble_eq_true rfl⟩ (hm_le hm) rfl rfl (Nat.le_of_ble_eq_true rfl) hl.1 dX5_changeSidesAbout_51) (fun H locs hW hz1 => ?_)
  have hz := Nat.le_trans hz hz1
  exact r_hvret C hzf hW hz hc hm h dX5_changeSidesAbout_54
theorem kd_X7_init {σ : Sh} {X : Mx} {z : Nat} {r : Hr Unit} {a : Nat} (h : f_X7_init σ X z a = some r) : shK σ a = 6 := (grd_inv h).1
set_option maxRecDepth 20000 in
set_option maxHeartbeats 2000000 in
theorem t_X7_init {σ : Sh} {X : Mx} {z : Nat} {r : Hr Unit} {a : Nat} (h : f_X7_init σ X z a = some r) : HvV g l yX7_init cX7_init 1 none 3 63 [.ref a] σ X z r := by
  obtain ⟨v0, σ0, X0, mc, ms⟩ := r
  refine met_ofH mk_X7_init (Nat.le_of_ble_eq_true rfl) (fun p e s m args below meth c ls C hin hW hzz hl => ?_)
  have hx := C.x
  have hb := C.b
  have hl : lv_has ls 1 [(0, .ref a)] := hl
  have hz : z ≤ s.heap.size := Nat.le_of_eq hzz.symm
  have hc : s.heap.size + 0 = z := hzz
  have hzf : s.heap.size + mc = z + mc := by rw [hzz]
  have hm : 0 + mc = mc ∧ 0 + ms = ms := ⟨Nat.zero_add _, Nat.zero_add _⟩
  unfold f_X7_init at h
  obtain ⟨hk0, h⟩ := grd_inv h
  refine lv_aload_n hx hb dX7_init_0 rfl (lv_at hl 0 rfl) ?_
  refine r_obj C ok_X7_3 ⟨Nat.le_of_ble_eq_true rfl, Nat.le_of_ble_eq_true rfl⟩ hl.1 dX7_init_1 ?_
  refine lv_aload_n hx hb dX7_init_4 rfl (lv_at hl 0 rfl) ?_
  refine lv_sipush (v := 700) hx hb dX7_init_5 (by decide) ?_
  refine r_newaB C hW hz hc hm h ak_B dX7_init_8 (fun σ1 X2 H cells slots cu du h hW hz hc hm => ?_)
  refine r_pRF C hin hW h pff_X7_9 (by decide) rfl rfl dX7_init_10 (fun σ3 H locs h hW hz1 => ?_)
  have hz := Nat.le_trans hz hz1
  refine lv_aload_n hx hb dX7_init_13 rfl (lv_at hl 0 rfl) ?_
  refine r_new C hW hz hc hm h (by decide) nk_X7_15 dX7_init_14 (fun σ4 X5 H cells slots cu du h hW hz hc hm => ?_)
  refine lv_dup hx hb dX7_init_17 rfl ?_
  obtain ⟨u6, σ6, X6, c6, d6, cu9, du9, h6, h, hcu, hdu⟩ := bndH_inv h
  refine c_HI_V (rest := [.ref (z + 1), .ref a]) C hW hz hc hcu hdu hm (t_X5_init h6) mk_X5_init ik_X7_17 rfl ⟨Nat.le_of_ble_eq_true rfl, Nat.le_of_ble_eq_true rfl⟩ rfl rfl (Nat.le_of_ble_eq_true rfl) hl.1 dX7_init_18 (fun H locs cells slots hW hz hc hm => ?_)
  refine r_pRF C hin hW h pff_X7_18 (by decide) rfl rfl dX7_init_21 (fun σ7 H locs h hW hz1 => ?_)
  have hz := Nat.le_trans hz hz1
  refine lv_aload_n hx hb dX7_init_24 rfl (lv_at hl 0 rfl) ?_
  refine lv_iconst (v := (-1)) hx hb dX7_init_25 (by decide) ?_
  refine r_pI C hW h pf_X7_22 (by decide) rfl rfl dX7_init_26 (fun X8 H locs h hW hz1 => ?_)
  have hz := Nat.le_trans hz hz1
  exact r_hvret C hzf hW hz hc hm h dX7_init_29
theorem kd_X9_init {σ : Sh} {X : Mx} {z : Nat} {r : Hr Unit} {a : Nat} (h : f_X9_init σ X z a = some r) : shK σ a = 7 := (grd_inv h).1
set_option maxRecDepth 20000 in
set_option maxHeartbeats 2000000 in
theorem t_X9_init {σ : Sh} {X : Mx} {z : Nat} {r : Hr Unit} {a : Nat} (h : f_X9_init σ X z a = some r) : HvV g l yX9_init cX9_init 1 none 4 83 [.ref a] σ X z r := by
  obtain ⟨v0, σ0, X0, mc, ms⟩ := r
  refine met_ofH mk_X9_init (Nat.le_of_ble_eq_true rfl) (fun p e s m args below meth c ls C hin hW hzz hl => ?_)
  have hx := C.x
  have hb := C.b
  have hl : lv_has ls 1 [(0, .ref a)] := hl
  have hz : z ≤ s.heap.size := Nat.le_of_eq hzz.symm
  have hc : s.heap.size + 0 = z := hzz
  have hzf : s.heap.size + mc = z + mc := by rw [hzz]
  have hm : 0 + mc = mc ∧ 0 + ms = ms := ⟨Nat.zero_add _, Nat.zero_add _⟩
  unfold f_X9_init at h
  obtain ⟨hk0, h⟩ := grd_inv h
  refine lv_aload_n hx hb dX9_init_0 rfl (lv_at hl 0 rfl) ?_
  refine r_obj C ok_X9_3 ⟨Nat.le_of_ble_eq_true rfl, Nat.le_of_ble_eq_true rfl⟩ hl.1 dX9_init_1 ?_
  refine lv_aload_n hx hb dX9_init_4 rfl (lv_at hl 0 rfl) ?_
  refine r_new C hW hz hc hm h (by decide) nk_X9_9 dX9_init_5 (fun σ1 X2 H cells slots cu du h hW hz hc hm => ?_)
  refine lv_dup hx hb dX9_init_8 rfl ?_
  obtain ⟨u3, σ3, X3, c3, d3, cu9, du9, h3, h, hcu, hdu⟩ := bndH_inv h
  refine c_HI_V (rest := [.ref z, .ref a]) C hW hz hc hcu hdu hm (t_X5_init h3) mk_X5_init ik_X9_11 rfl ⟨Nat.le_of_ble_eq_true rfl, Nat.le_of_ble_eq_true rfl⟩ rfl rfl (Nat.le_of_ble_eq_true rfl) hl.1 dX9_init_9 (fun H locs cells slots hW hz hc hm => ?_)
  refine r_pRF C hin hW h pff_X9_12 (by decide) rfl rfl dX9_init_12 (fun σ4 H locs h hW hz1 => ?_)
  have hz := Nat.le_trans hz hz1
  refine lv_aload_n hx hb dX9_init_15 rfl (lv_at hl 0 rfl) ?_
  refine r_new C hW hz hc hm h (by decide) nk_X9_16 dX9_init_16 (fun σ5 X6 H cells slots cu du h hW hz hc hm => ?_)
  refine lv_dup hx hb dX9_init_19 rfl ?_
  obtain ⟨u7, σ7, X7, c7, d7, cu9, du9, h7, h, hcu, hdu⟩ := bndH_inv h
  refine c_HIN_V (rest := [.ref ((z + 1) + c3), .ref a]) C hW hz hc hcu hdu hm (t_X2_init h7) mk_X2_init ink_X9_18 rfl ⟨Nat.le_of_ble_eq_true rfl, Nat.le_of_ble_eq_true rfl⟩ rfl rfl (Nat.le_of_ble_eq_true rfl) hl.1 dX9_init_20 (fun H locs cells slots hW hz hc hm => ?_)
  refine r_pRF C hin hW h pff_X9_19 (by decide) rfl rfl dX9_init_23 (fun σ8 H locs h hW hz1 => ?_)
  have hz := Nat.le_trans hz hz1
  refine lv_aload_n hx hb dX9_init_26 rfl (lv_at hl 0 rfl) ?_
  refine r_new C hW hz hc hm h (by decide) nk_X9_23 dX9_init_27 (fun σ9 X10 H cells slots cu du h hW hz hc hm => ?_)
  refine lv_dup hx hb dX9_init_30 rfl ?_
  obtain ⟨u11, σ11, X11, c11, d11, cu9, du9, h11, h, hcu, hdu⟩ := bndH_inv h
  refine c_HIN_V (rest := [.ref ((((z + 1) + c3) + 1) + c7), .ref a]) C hW hz hc hcu hdu hm (t_X7_init h11) mk_X7_init ink_X9_25 rfl ⟨Nat.le_of_ble_eq_true rfl, Nat.le_of_ble_eq_true rfl⟩ rfl rfl (Nat.le_of_ble_eq_true rfl) hl.1 dX9_init_31 (fun H locs cells slots hW hz hc hm => ?_)
  refine r_pRF C hin hW h pff_X9_26 (by decide) rfl rfl dX9_init_34 (fun σ12 H locs h hW hz1 => ?_)
  have hz := Nat.le_trans hz hz1
  refine lv_aload_n hx hb dX9_init_37 rfl (lv_at hl 0 rfl) ?_
  refine r_new C hW hz hc hm h (by decide) nk_X9_30 dX9_init_38 (fun σ13 X14 H cells slots cu du h hW hz hc hm => ?_)
  refine lv_dup hx hb dX9_init_41 rfl ?_
  obtain ⟨u15, σ15, X15, c15, d15, cu9, du9, h15, h, hcu, hdu⟩ := bndH_inv h
  refine c_HIN_V (rest := [.ref ((((((z + 1) + c3) + 1) + c7) + 1) + c11), .ref a]) C hW hz hc hcu hdu hm (t_X0_init h15) mk_X0_init ink_X9_32 rfl ⟨Nat.le_of_ble_eq_true rfl, Nat.le_of_ble_eq_true rfl⟩ rfl rfl (Nat.le_of_ble_eq_true rfl) hl.1 dX9_init_42 (fun H locs cells slots hW hz hc hm => ?_)
  refine r_pRF C hin hW h pff_X9_33 (by decide) rfl rfl dX9_init_45 (fun σ16 H locs h hW hz1 => ?_)
  have hz := Nat.le_trans hz hz1
  refine lv_aload_n hx hb dX9_init_48 rfl (lv_at hl 0 rfl) ?_
  refine r_new C hW hz hc hm h (by decide) nk_X9_37 dX9_init_49 (fun σ17 X18 H cells slots cu du h hW hz hc hm => ?_)
  refine lv_dup hx hb dX9_init_52 rfl ?_
  obtain ⟨u19, σ19, X19, c19, d19, cu9, du9, h19, h, hcu, hdu⟩ := bndH_inv h
  refine c_HIN_V (rest := [.ref ((((((((z + 1) + c3) + 1) + c7) + 1) + c11) + 1) + c15), .ref a]) C hW hz hc hcu hdu hm (t_X4_init h19) mk_X4_init ink_X9_39 rfl ⟨Nat.le_of_ble_eq_true rfl, Nat.le_of_ble_eq_true rfl⟩ rfl rfl (Nat.le_of_ble_eq_true rfl) hl.1 dX9_init_53 (fun H locs cells slots hW hz hc hm => ?_)
  refine r_pRF C hin hW h pff_X9_40 (by decide) rfl rfl dX9_init_56 (fun σ20 H locs h hW hz1 => ?_)
  have hz := Nat.le_trans hz hz1
  refine lv_aload_n hx hb dX9_init_59 rfl (lv_at hl 0 rfl) ?_
  refine r_new C hW hz hc hm h (by decide) nk_X9_44 dX9_init_60 (fun σ21 X22 H cells slots cu du h hW hz hc hm => ?_)
  refine lv_dup hx hb dX9_init_63 rfl ?_
  obtain ⟨u23, σ23, X23, c23, d23, cu9, du9, h23, h, hcu, hdu⟩ := bndH_inv h
  refine c_HIN_V (rest := [.ref ((((((((((z + 1) + c3) + 1) + c7) + 1) + c11) + 1) + c15) + 1) + c19), .ref a]) C hW hz hc hcu hdu hm (t_X3_init h23) mk_X3_init ink_X9_46 rfl ⟨Nat.le_of_ble_eq_true rfl, Nat.le_of_ble_eq_true rfl⟩ rfl rfl (Nat.le_of_ble_eq_true rfl) hl.1 dX9_init_64 (fun H locs cells slots hW hz hc hm => ?_)
  refine r_pRF C hin hW h pff_X9_47 (by decide) rfl rfl dX9_init_67 (fun σ24 H locs h hW hz1 => ?_)
  have hz := Nat.le_trans hz hz1
  refine lv_aload_n hx hb dX9_init_70 rfl (lv_at hl 0 rfl) ?_
  refine r_new C hW hz hc hm h (by decide) nk_X9_9 dX9_init_71 (fun σ25 X26 H cells slots cu du h hW hz hc hm => ?_)
  refine lv_dup hx hb dX9_init_74 rfl ?_
  obtain ⟨u27, σ27, X27, c27, d27, cu9, du9, h27, h, hcu, hdu⟩ := bndH_inv h
  refine c_HI_V (rest := [.ref ((((((((((((z + 1) + c3) + 1) + c7) + 1) + c11) + 1) + c15) + 1) + c19) + 1) + c23), .ref a]) C hW hz hc hcu hdu hm (t_X5_init h27) mk_X5_init ik_X9_11 rfl ⟨Nat.le_of_ble_eq_true rfl, Nat.le_of_ble_eq_true rfl⟩ rfl rfl (Nat.le_of_ble_eq_true rfl) hl.1 dX9_init_75 (fun H locs cells slots hW hz hc hm => ?_)
  refine r_pRF C hin hW h pff_X9_51 (by decide) rfl rfl dX9_init_78 (fun σ28 H locs h hW hz1 => ?_)
  have hz := Nat.le_trans hz hz1
  refine lv_aload_n hx hb dX9_init_81 rfl (lv_at hl 0 rfl) ?_
  refine r_new C hW hz hc hm h (by decide) nk_X9_30 dX9_init_82 (fun σ29 X30 H cells slots cu du h hW hz hc hm => ?_)
  refine lv_dup hx hb dX9_init_85 rfl ?_
  obtain ⟨u31, σ31, X31, c31, d31, cu9, du9, h31, h, hcu, hdu⟩ := bndH_inv h
  refine c_HIN_V (rest := [.ref ((((((((((((((z + 1) + c3) + 1) + c7) + 1) + c11) + 1) + c15) + 1) + c19) + 1) + c23) + 1) + c27), .ref a]) C hW hz hc hcu hdu hm (t_X0_init h31) mk_X0_init ink_X9_32 rfl ⟨Nat.le_of_ble_eq_true rfl, Nat.le_of_ble_eq_true rfl⟩ rfl rfl (Nat.le_of_ble_eq_true rfl) hl.1 dX9_init_86 (fun H locs cells slots hW hz hc hm => ?_)
  refine r_pRF C hin hW h pff_X9_54 (by decide) rfl rfl dX9_init_89 (fun σ32 H locs h hW hz1 => ?_)
  have hz := Nat.le_trans hz hz1
  refine lv_aload_n hx hb dX9_init_92 rfl (lv_at hl 0 rfl) ?_
  refine r_new C hW hz hc hm h (by decide) nk_X9_37 dX9_init_93 (fun σ33 X34 H cells slots cu du h hW hz hc hm => ?_)
  refine lv_dup hx hb dX9_init_96 rfl ?_
  obtain ⟨u35, σ35, X35, c35, d35, cu9, du9, h35, h, hcu, hdu⟩ := bndH_inv h
  refine c_HIN_V (rest := [.ref ((((((((((((((((z + 1) + c3) + 1) + c7) + 1) + c11) + 1) + c15) + 1) + c19) + 1) + c23) + 1) + c27) + 1) + c31), .ref a]) C hW hz hc hcu hdu hm (t_X4_init h35) mk_X4_init ink_X9_39 rfl ⟨Nat.le_of_ble_eq_true rfl, Nat.le_of_ble_eq_true rfl⟩ rfl rfl (Nat.le_of_ble_eq_true rfl) hl.1 dX9_init_97 (fun H locs cells slots hW hz hc hm => ?_)
  refine r_pRF C hin hW h pff_X9_57 (by decide) rfl rfl dX9_init_100 (fun σ36 H locs h hW hz1 => ?_)
  have hz := Nat.le_trans hz hz1
  refine lv_aload_n hx hb dX9_init_103 rfl (lv_at hl 0 rfl) ?_
  refine lv_iconst (v := (-1)) hx hb dX9_init_104 (by decide) ?_
  refine r_pI C hW h pf_X9_60 (by decide) rfl rfl dX9_init_105 (fun X37 H locs h hW hz1 => ?_)
  have hz := Nat.le_trans hz hz1
  refine lv_aload_n hx hb dX9_init_108 rfl (lv_at hl 0 rfl) ?_
  refine lv_iconst (v := 3) hx hb dX9_init_109 (by decide) ?_
  refine r_newaI C hW hz hc hm h ak_I dX9_init_110 (fun σ38 X39 H cells slots cu du h hW hz hc hm => ?_)
  refine r_pRF C hin hW h pff_X9_64 (by decide) rfl rfl dX9_init_112 (fun σ40 H locs h hW hz1 => ?_)
  have hz := Nat.le_trans hz hz1
  exact r_hvret C hzf hW hz hc hm h dX9_init_115
set_option maxRecDepth 20000 in
set_option maxHeartbeats 2000000 in
theorem b_X10_init_155 {a : Nat} (C : Cx g RX10 cX10_init 2 none p s m args meth c) {mc ms zf : Nat} {v0 : Unit} {σ0 : Sh} {X0 : Mx} (hzf : s.heap.size + mc = zf) : ∀ (n : Nat) {σ : Sh} {X : Mx} {z : Nat} {x1 : Int32} {cu du cells slots : Nat} {H : Heap} {locs : List Loc} {ls : Array Slot} (hW : Wd g σ X s H locs) (hz : z ≤ H.size) (hc : s.heap.size + cells = z) (hm : cells + cu = mc ∧ slots + du = ms) (hl : lv_has ls 2 [(0, .ref a), (1, .int x1)]) (h : f_X10_init_155 a n σ X z x1 = some (v0, σ0, X0, cu, du)), W p l e (rmH 1 20 mc ms) s m args below meth c H locs cells slots (QHV g below args s mc ms zf v0 σ0 X0) (F0 m 155 ls []) := by
  have hx := C.x
  have hb := C.b
  intro n
  induction n with
  | zero =>
    intro σ X z x1 cu du cells slots H locs ls hW hz hc hm hl h
    cases (show none = some (v0, σ0, X0, cu, du) from h)
  | succ n ih =>
    intro σ X z x1 cu du cells slots H locs ls hW hz hc hm hl h
    rw [f_X10_init_155] at h
    refine lv_iload_n hx hb dX10_init_155 rfl (lv_at hl 1 rfl) ?_
    refine lv_sipush (v := 316) hx hb dX10_init_156 (by decide) ?_
    refine r_br h (lv_icmp_ge (tgt := 179) hx hb dX10_init_159 (by decide)) (fun h => ?_) (fun h => ?_)
    · exact r_hvret C hzf hW hz hc hm h dX10_init_179
    · refine lv_aload_n hx hb dX10_init_162 rfl (lv_at hl 0 rfl) ?_
      refine r_gR C hW h fl_X10_20 (by decide) dX10_init_163 (fun b1 h => ?_)
      refine lv_sipush (v := 615) hx hb dX10_init_166 (by decide) ?_
      refine lv_iload_n hx hb dX10_init_169 rfl (lv_at hl 1 rfl) ?_
      refine lv_iadd hx hb dX10_init_170 ?_
      refine lv_iconst (v := (-1)) hx hb dX10_init_171 (by decide) ?_
      refine r_iast C hW h dX10_init_172 (fun X2 H locs h hW hz1 => ?_)
      have hz := Nat.le_trans hz hz1
      refine lv_iinc (v := (x1 + 1)) (lv' := [(1, .int (x1 + 1)), (0, .ref a)]) hx hb dX10_init_173 hl (k := 1) rfl rfl (by decide) rfl (fun ls hl => ?_)
      refine lv_goto (tgt := 155) hx hb dX10_init_176 (by decide) ?_
      exact ih hW hz hc hm (lv_sub hl [1, 0] rfl) h
theorem kd_X10_init {σ : Sh} {X : Mx} {z : Nat} {r : Hr Unit} {a : Nat} (h : f_X10_init σ X z a = some r) : shK σ a = 8 := (grd_inv h).1
set_option maxRecDepth 20000 in
set_option maxHeartbeats 2000000 in
theorem t_X10_init {σ : Sh} {X : Mx} {z : Nat} {r : Hr Unit} {a : Nat} (h : f_X10_init σ X z a = some r) : HvV g l yX10_init cX10_init 2 none 1 20 [.ref a] σ X z r := by
  obtain ⟨v0, σ0, X0, mc, ms⟩ := r
  refine met_ofH mk_X10_init (Nat.le_of_ble_eq_true rfl) (fun p e s m args below meth c ls C hin hW hzz hl => ?_)
  have hx := C.x
  have hb := C.b
  have hl : lv_has ls 2 [(0, .ref a)] := hl
  have hz : z ≤ s.heap.size := Nat.le_of_eq hzz.symm
  have hc : s.heap.size + 0 = z := hzz
  have hzf : s.heap.size + mc = z + mc := by rw [hzz]
  have hm : 0 + mc = mc ∧ 0 + ms = ms := ⟨Nat.zero_add _, Nat.zero_add _⟩
  unfold f_X10_init at h
  obtain ⟨hk0, h⟩ := grd_inv h
  refine lv_aload_n hx hb dX10_init_0 rfl (lv_at hl 0 rfl) ?_
  refine r_obj C ok_X10_1 ⟨Nat.le_of_ble_eq_true rfl, Nat.le_of_ble_eq_true rfl⟩ hl.1 dX10_init_1 ?_
  refine lv_aload_n hx hb dX10_init_4 rfl (lv_at hl 0 rfl) ?_
  refine lv_sipush (v := 700) hx hb dX10_init_5 (by decide) ?_
  refine r_newaI C hW hz hc hm h ak_I dX10_init_8 (fun σ1 X2 H cells slots cu du h hW hz hc hm => ?_)
  refine r_pRF C hin hW h pff_X10_7 (by decide) rfl rfl dX10_init_10 (fun σ3 H locs h hW hz1 => ?_)
  have hz := Nat.le_trans hz hz1
  refine lv_aload_n hx hb dX10_init_13 rfl (lv_at hl 0 rfl) ?_
  refine lv_iconst (v := (-1)) hx hb dX10_init_14 (by decide) ?_
  refine r_pI C hW h pf_X10_13 (by decide) rfl rfl dX10_init_15 (fun X4 H locs h hW hz1 => ?_)
  have hz := Nat.le_trans hz hz1
  refine lv_aload_n hx hb dX10_init_18 rfl (lv_at hl 0 rfl) ?_
  refine lv_iconst (v := 3) hx hb dX10_init_19 (by decide) ?_
  refine r_newaI C hW hz hc hm h ak_I dX10_init_20 (fun σ5 X6 H cells slots cu du h hW hz hc hm => ?_)
  refine r_pRF C hin hW h pff_X10_17 (by decide) rfl rfl dX10_init_22 (fun σ7 H locs h hW hz1 => ?_)
  have hz := Nat.le_trans hz hz1
  refine lv_aload_n hx hb dX10_init_25 rfl (lv_at hl 0 rfl) ?_
  refine lv_sipush (v := 1862) hx hb dX10_init_26 (by decide) ?_
  refine r_newaI C hW hz hc hm h ak_I dX10_init_29 (fun σ8 X9 H cells slots cu du h hW hz hc hm => ?_)
  refine r_pRF C hin hW h pff_X10_20 (by decide) rfl rfl dX10_init_31 (fun σ10 H locs h hW hz1 => ?_)
  have hz := Nat.le_trans hz hz1
  refine lv_aload_n hx hb dX10_init_34 rfl (lv_at hl 0 rfl) ?_
  refine lv_sipush (v := 27930) hx hb dX10_init_35 (by decide) ?_
  refine r_newaI C hW hz hc hm h ak_I dX10_init_38 (fun σ11 X12 H cells slots cu du h hW hz hc hm => ?_)
  refine r_pRF C hin hW h pff_X10_23 (by decide) rfl rfl dX10_init_40 (fun σ13 H locs h hW hz1 => ?_)
  have hz := Nat.le_trans hz hz1
  refine lv_aload_n hx hb dX10_init_43 rfl (lv_at hl 0 rfl) ?_
  refine lv_bipush (v := 9) hx hb dX10_init_44 (by decide) ?_
  refine r_newaI C hW hz hc hm h ak_I dX10_init_46 (fun σ14 X15 H cells slots cu du h hW hz hc hm => ?_)
  refine r_pRF C hin hW h pff_X10_26 (by decide) rfl rfl dX10_init_48 (fun σ16 H locs h hW hz1 => ?_)
  have hz := Nat.le_trans hz hz1
  refine lv_aload_n hx hb dX10_init_51 rfl (lv_at hl 0 rfl) ?_
  refine lv_bipush (v := 9) hx hb dX10_init_52 (by decide) ?_
  refine r_newaI C hW hz hc hm h ak_I dX10_init_54 (fun σ17 X18 H cells slots cu du h hW hz hc hm => ?_)
  refine r_pRF C hin hW h pff_X10_29 (by decide) rfl rfl dX10_init_56 (fun σ19 H locs h hW hz1 => ?_)
  have hz := Nat.le_trans hz hz1
  refine lv_aload_n hx hb dX10_init_59 rfl (lv_at hl 0 rfl) ?_
  refine lv_sipush (v := 180) hx hb dX10_init_60 (by decide) ?_
  refine r_newaI C hW hz hc hm h ak_I dX10_init_63 (fun σ20 X21 H cells slots cu du h hW hz hc hm => ?_)
  refine r_pRF C hin hW h pff_X10_32 (by decide) rfl rfl dX10_init_65 (fun σ22 H locs h hW hz1 => ?_)
  have hz := Nat.le_trans hz hz1
  refine lv_aload_n hx hb dX10_init_68 rfl (lv_at hl 0 rfl) ?_
  refine lv_sipush (v := 180) hx hb dX10_init_69 (by decide) ?_
  refine r_newaI C hW hz hc hm h ak_I dX10_init_72 (fun σ23 X24 H cells slots cu du h hW hz hc hm => ?_)
  refine r_pRF C hin hW h pff_X10_35 (by decide) rfl rfl dX10_init_74 (fun σ25 H locs h hW hz1 => ?_)
  have hz := Nat.le_trans hz hz1
  refine lv_aload_n hx hb dX10_init_77 rfl (lv_at hl 0 rfl) ?_
  refine lv_bipush (v := 18) hx hb dX10_init_78 (by decide) ?_
  refine r_newaI C hW hz hc hm h ak_I dX10_init_80 (fun σ26 X27 H cells slots cu du h hW hz hc hm => ?_)
  refine r_pRF C hin hW h pff_X10_38 (by decide) rfl rfl dX10_init_82 (fun σ28 H locs h hW hz1 => ?_)
  have hz := Nat.le_trans hz hz1
  refine lv_aload_n hx hb dX10_init_85 rfl (lv_at hl 0 rfl) ?_
  refine lv_sipush (v := 2000) hx hb dX10_init_86 (by decide) ?_
  refine r_newaI C hW hz hc hm h ak_I dX10_init_89 (fun σ29 X30 H cells slots cu du h hW hz hc hm => ?_)
  refine r_pRF C hin hW h pff_X10_41 (by decide) rfl rfl dX10_init_91 (fun σ31 H locs h hW hz1 => ?_)
  have hz := Nat.le_trans hz hz1
  refine lv_aload_n hx hb dX10_init_94 rfl (lv_at hl 0 rfl) ?_
  refine lv_sipush (v := 316) hx hb dX10_init_95 (by decide) ?_
  refine r_newaI C hW hz hc hm h ak_I dX10_init_98 (fun σ32 X33 H cells slots cu du h hW hz hc hm => ?_)
  refine r_pRF C hin hW h pff_X10_44 (by decide) rfl rfl dX10_init_100 (fun σ34 H locs h hW hz1 => ?_)
  have hz := Nat.le_trans hz hz1
  refine lv_aload_n hx hb dX10_init_103 rfl (lv_at hl 0 rfl) ?_
  refine lv_bipush (v := 9) hx hb dX10_init_104 (by decide) ?_
  refine r_newaI C hW hz hc hm h ak_I dX10_init_106 (fun σ35 X36 H cells slots cu du h hW hz hc hm => ?_)
  refine r_pRF C hin hW h pff_X10_47 (by decide) rfl rfl dX10_init_108 (fun σ37 H locs h hW hz1 => ?_)
  have hz := Nat.le_trans hz hz1
  refine lv_aload_n hx hb dX10_init_111 rfl (lv_at hl 0 rfl) ?_
  refine lv_bipush (v := 10) hx hb dX10_init_112 (by decide) ?_
  refine r_newaI C hW hz hc hm h ak_I dX10_init_114 (fun σ38 X39 H cells slots cu du h hW hz hc hm => ?_)
  refine r_pRF C hin hW h pff_X10_50 (by decide) rfl rfl dX10_init_116 (fun σ40 H locs h hW hz1 => ?_)
  have hz := Nat.le_trans hz hz1
  refine lv_aload_n hx hb dX10_init_119 rfl (lv_at hl 0 rfl) ?_
  refine lv_bipush (v := 24) hx hb dX10_init_120 (by decide) ?_
  refine r_newaI C hW hz hc hm h ak_I dX10_init_122 (fun σ41 X42 H cells slots cu du h hW hz hc hm => ?_)
  refine r_pRF C hin hW h pff_X10_53 (by decide) rfl rfl dX10_init_124 (fun σ43 H locs h hW hz1 => ?_)
  have hz := Nat.le_trans hz hz1
  refine lv_aload_n hx hb dX10_init_127 rfl (lv_at hl 0 rfl) ?_
  refine lv_sipush (v := 931) hx hb dX10_init_128 (by decide) ?_
  refine r_newaI C hW hz hc hm h ak_I dX10_init_131 (fun σ44 X45 H cells slots cu du h hW hz hc hm => ?_)
  refine r_pRF C hin hW h pff_X10_56 (by decide) rfl rfl dX10_init_133 (fun σ46 H locs h hW hz1 => ?_)
  have hz := Nat.le_trans hz hz1
  refine lv_aload_n hx hb dX10_init_136 rfl (lv_at hl 0 rfl) ?_
  refine lv_sipush (v := 27930) hx hb dX10_init_137 (by decide) ?_
  refine r_newaI C hW hz hc hm h ak_I dX10_init_140 (fun σ47 X48 H cells slots cu du h hW hz hc hm => ?_)
  refine r_pRF C hin hW h pff_X10_59 (by decide) rfl rfl dX10_init_142 (fun σ49 H locs h hW hz1 => ?_)
  have hz := Nat.le_trans hz hz1
  refine lv_aload_n hx hb dX10_init_145 rfl (lv_at hl 0 rfl) ?_
  refine lv_bipush (v := 24) hx hb dX10_init_146 (by decide) ?_
  refine r_newaI C hW hz hc hm h ak_I dX10_init_148 (fun σ50 X51 H cells slots cu du h hW hz hc hm => ?_)
  refine r_pRF C hin hW h pff_X10_62 (by decide) rfl rfl dX10_init_150 (fun σ52 H locs h hW hz1 => ?_)
  have hz := Nat.le_trans hz hz1
  refine lv_iconst (v := 0) hx hb dX10_init_153 (by decide) ?_
  refine lv_istore_n (lv' := [(1, .int 0), (0, .ref a)]) hx hb dX10_init_154 rfl hl (by decide) rfl (fun ls hl => ?_)
  exact b_X10_init_155 C hzf FU hW hz hc hm (lv_sub hl [1, 0] rfl) h
set_option maxRecDepth 20000 in
set_option maxHeartbeats 2000000 in
theorem b_X9_settle_41 {a : Nat} (C : Cx g RX9 cX9_settle 6 (some .int) p s m args meth c) {mc ms zf : Nat} {v0 : Int32} {σ0 : Sh} {X0 : Mx} (hzf : s.heap.size + mc = zf) {σ : Sh} {X : Mx} {z cu du cells slots : Nat} {H : Heap} {locs : List Loc} {ls : Array Slot} (hW : Wd g σ X s H locs) (hz : z ≤ H.size) (hc : s.heap.size + cells = z) (hm : cells + cu = mc ∧ slots + du = ms) (hl : lv_has ls 6 [(0, .ref a)]) (h : f_X9_settle_41 a σ X z = some (v0, σ0, X0, cu, du)) : W p l e (rmH 6 141 mc ms) s m args below meth c H locs cells slots (QHI g below args s mc ms zf v0 σ0 X0) (F0 m 41 ls []) := by
  have hx := C.x
  have hb := C.b
  unfold f_X9_settle_41 at h
  refine lv_aload_n hx hb dX9_settle_41 rfl (lv_at hl 0 rfl) ?_
  obtain ⟨v3, X2, h1, h⟩ := bnd2_inv h
  refine r_cI hW (run_V (rest := []) C hW (t_X9_refuseAct h1) mk_X9_refuseAct vk_X9_228 (kd_X9_refuseAct h1) rfl rfl (by decide) ⟨Nat.le_of_ble_eq_true rfl, Nat.le_of_ble_eq_true rfl⟩ (hm_le hm) rfl rfl (Nat.le_of_ble_eq_true rfl) hl.1 dX9_settle_42) (fun H locs hW hz1 => ?_)
  have hz := Nat.le_trans hz hz1
  exact r_hiret C hzf hW hz hc hm h rfl dX9_settle_45
theorem kd_X9_settle {σ : Sh} {X : Mx} {z : Nat} {r : Hr Int32} {a : Nat} {x1 : Int32} {x2 : Int32} {x3 : Int32} {x4 : Int32} (h : f_X9_settle σ X z a x1 x2 x3 x4 = some r) : shK σ a = 7 := (grd_inv h).1
set_option maxRecDepth 20000 in
set_option maxHeartbeats 2000000 in
theorem t_X9_settle {σ : Sh} {X : Mx} {z : Nat} {r : Hr Int32} {a : Nat} {x1 : Int32} {x2 : Int32} {x3 : Int32} {x4 : Int32} (h : f_X9_settle σ X z a x1 x2 x3 x4 = some r) : HvI g l yX9_settle cX9_settle 6 (some .int) 6 141 [.ref a, .int x1, .int x2, .int x3, .int x4] σ X z r := by
  obtain ⟨v0, σ0, X0, mc, ms⟩ := r
  refine met_ofH mk_X9_settle (Nat.le_of_ble_eq_true rfl) (fun p e s m args below meth c ls C hin hW hzz hl => ?_)
  have hx := C.x
  have hb := C.b
  have hl : lv_has ls 6 [(0, .ref a), (1, .int x1), (2, .int x2), (3, .int x3), (4, .int x4)] := hl
  have hz : z ≤ s.heap.size := Nat.le_of_eq hzz.symm
  have hc : s.heap.size + 0 = z := hzz
  have hzf : s.heap.size + mc = z + mc := by rw [hzz]
  have hm : 0 + mc = mc ∧ 0 + ms = ms := ⟨Nat.zero_add _, Nat.zero_add _⟩
  unfold f_X9_settle at h
  obtain ⟨hk0, h⟩ := grd_inv h
  refine lv_iload_n hx hb dX9_settle_0 rfl (lv_at hl 1 rfl) ?_
  refine lv_iload_n hx hb dX9_settle_1 rfl (lv_at hl 2 rfl) ?_
  refine lv_iload_n hx hb dX9_settle_2 rfl (lv_at hl 3 rfl) ?_
  refine r_cI hW (run_S (rest := []) C hW (t_X1_idOf (X := X)) mk_X1_idOf sk_X9_221 ⟨Nat.le_of_ble_eq_true rfl, Nat.le_of_ble_eq_true rfl⟩ (hm_le hm) rfl rfl (Nat.le_of_ble_eq_true rfl) hl.1 dX9_settle_3) (fun H locs hW hz1 => ?_)
  have hz := Nat.le_trans hz hz1
  refine lv_istore (lv' := [(5, .int (f_X1_idOf x1 x2 x3)), (0, .ref a), (1, .int x1), (2, .int x2), (3, .int x3), (4, .int x4)]) hx hb dX9_settle_6 hl (by decide) rfl (fun ls hl => ?_)
  refine lv_iload hx hb dX9_settle_8 (lv_at hl 0 rfl) ?_
  refine lv_iconst (v := (-1)) hx hb dX9_settle_10 (by decide) ?_
  refine r_br h (lv_icmp_eq (tgt := 41) hx hb dX9_settle_11 (by decide)) (fun h => ?_) (fun h => ?_)
  · exact b_X9_settle_41 C hzf hW hz hc hm (lv_sub hl [1] rfl) h
  · refine lv_aload_n hx hb dX9_settle_14 rfl (lv_at hl 1 rfl) ?_
    obtain ⟨b3, X2, h1, h⟩ := bnd2_inv h
    refine r_cR hW (run_V (rest := []) C hW (t_X9_freshMerge h1) mk_X9_freshMerge vk_X9_131 (kd_X9_freshMerge h1) rfl rfl (by decide) ⟨Nat.le_of_ble_eq_true rfl, Nat.le_of_ble_eq_true rfl⟩ (hm_le hm) rfl rfl (Nat.le_of_ble_eq_true rfl) hl.1 dX9_settle_15) (fun H locs hW hz1 => ?_)
    have hz := Nat.le_trans hz hz1
    refine lv_iload hx hb dX9_settle_18 (lv_at hl 0 rfl) ?_
    obtain ⟨v5, h4, h⟩ := bnd_inv h
    refine r_cI hW (run_V (rest := []) C hW (t_X2_isOpen h4) mk_X2_isOpen vk_X9_225 (kd_X2_isOpen h4) rfl rfl (by decide) ⟨Nat.le_of_ble_eq_true rfl, Nat.le_of_ble_eq_true rfl⟩ (hm_le hm) rfl rfl (Nat.le_of_ble_eq_true rfl) hl.1 dX9_settle_20) (fun H locs hW hz1 => ?_)
    have hz := Nat.le_trans hz hz1
    refine r_br h (lv_if_eq (tgt := 41) hx hb dX9_settle_23 (by decide)) (fun h => ?_) (fun h => ?_)
    · exact b_X9_settle_41 C hzf hW hz hc hm (lv_sub hl [1] rfl) h
    · refine lv_iload hx hb dX9_settle_26 (lv_at hl 5 rfl) ?_
      refine r_br h (lv_if_lt (tgt := 41) hx hb dX9_settle_28 (by decide)) (fun h => ?_) (fun h => ?_)
      · exact b_X9_settle_41 C hzf hW hz hc hm (lv_sub hl [1] rfl) h
      · refine lv_iload hx hb dX9_settle_31 (lv_at hl 5 rfl) ?_
        refine lv_iload hx hb dX9_settle_33 (lv_at hl 0 rfl) ?_
        refine r_cI hW (run_S (rest := [.int x4]) C hW (t_X1_choicesOf (X := X2)) mk_X1_choicesOf sk_X9_212 ⟨Nat.le_of_ble_eq_true rfl, Nat.le_of_ble_eq_true rfl⟩ (hm_le hm) rfl rfl (Nat.le_of_ble_eq_true rfl) hl.1 dX9_settle_35) (fun H locs hW hz1 => ?_)
        have hz := Nat.le_trans hz hz1
        refine r_br h (lv_icmp_lt (tgt := 46) hx hb dX9_settle_38 (by decide)) (fun h => ?_) (fun h => ?_)
        · refine lv_aload_n hx hb dX9_settle_46 rfl (lv_at hl 1 rfl) ?_
          refine r_gR C hW h fl_X9_33 (by decide) dX9_settle_47 (fun b6 h => ?_)
          refine lv_aload_n hx hb dX9_settle_50 rfl (lv_at hl 1 rfl) ?_
          refine r_gR C hW h fl_X9_12 (by decide) dX9_settle_51 (fun b7 h => ?_)
          obtain ⟨u8, σ8, X8, c8, d8, cu9, du9, h8, h, hcu, hdu⟩ := bndH_inv h
          refine c_HV_V (rest := []) C hW hz hc hcu hdu hm (t_X0_prepare h8) mk_X0_prepare vk_X9_231 (kd_X0_prepare h8) rfl rfl (by decide) ⟨Nat.le_of_ble_eq_true rfl, Nat.le_of_ble_eq_true rfl⟩ rfl rfl (Nat.le_of_ble_eq_true rfl) hl.1 dX9_settle_54 (fun H locs cells slots hW hz hc hm => ?_)
          refine lv_aload_n hx hb dX9_settle_57 rfl (lv_at hl 1 rfl) ?_
          refine r_gR C hW h fl_X9_12 (by decide) dX9_settle_58 (fun b9 h => ?_)
          refine r_gR C hW h fl_X9_234 (by decide) dX9_settle_61 (fun b10 h => ?_)
          refine lv_iload hx hb dX9_settle_64 (lv_at hl 0 rfl) ?_
          refine lv_iload hx hb dX9_settle_66 (lv_at hl 5 rfl) ?_
          refine r_iast C hW h dX9_settle_68 (fun X11 H locs h hW hz1 => ?_)
          have hz := Nat.le_trans hz hz1
          refine lv_aload_n hx hb dX9_settle_69 rfl (lv_at hl 1 rfl) ?_
          obtain ⟨X13, h12, h⟩ := bnd_inv h
          refine r_cV hW (run_V (rest := []) C hW (t_X9_keepAct h12) mk_X9_keepAct vk_X9_237 (kd_X9_keepAct h12) rfl rfl (by decide) ⟨Nat.le_of_ble_eq_true rfl, Nat.le_of_ble_eq_true rfl⟩ (hm_le hm) rfl rfl (Nat.le_of_ble_eq_true rfl) hl.1 dX9_settle_70) (fun H locs hW hz1 => ?_)
          have hz := Nat.le_trans hz hz1
          refine lv_aload_n hx hb dX9_settle_73 rfl (lv_at hl 1 rfl) ?_
          obtain ⟨b16, X15, h14, h⟩ := bnd2_inv h
          refine r_cR hW (run_V (rest := []) C hW (t_X9_freshMerge h14) mk_X9_freshMerge vk_X9_131 (kd_X9_freshMerge h14) rfl rfl (by decide) ⟨Nat.le_of_ble_eq_true rfl, Nat.le_of_ble_eq_true rfl⟩ (hm_le hm) rfl rfl (Nat.le_of_ble_eq_true rfl) hl.1 dX9_settle_74) (fun H locs hW hz1 => ?_)
          have hz := Nat.le_trans hz hz1
          refine r_gI C hW h fl_X9_138 (by decide) dX9_settle_77 (fun v17 h => ?_)
          exact r_hiret C hzf hW hz hc hm h rfl dX9_settle_80
        · exact b_X9_settle_41 C hzf hW hz hc hm (lv_sub hl [1] rfl) h
set_option maxRecDepth 20000 in
set_option maxHeartbeats 2000000 in
theorem b_X9_unsettle_28 {a : Nat} (C : Cx g RX9 cX9_unsettle 6 (some .int) p s m args meth c) {mc ms zf : Nat} {v0 : Int32} {σ0 : Sh} {X0 : Mx} (hzf : s.heap.size + mc = zf) {σ : Sh} {X : Mx} {z cu du cells slots : Nat} {H : Heap} {locs : List Loc} {ls : Array Slot} (hW : Wd g σ X s H locs) (hz : z ≤ H.size) (hc : s.heap.size + cells = z) (hm : cells + cu = mc ∧ slots + du = ms) (hl : lv_has ls 6 [(0, .ref a)]) (h : f_X9_unsettle_28 a σ X z = some (v0, σ0, X0, cu, du)) : W p l e (rmH 5 107 mc ms) s m args below meth c H locs cells slots (QHI g below args s mc ms zf v0 σ0 X0) (F0 m 28 ls []) := by
  have hx := C.x
  have hb := C.b
  unfold f_X9_unsettle_28 at h
  refine lv_aload_n hx hb dX9_unsettle_28 rfl (lv_at hl 0 rfl) ?_
  obtain ⟨v3, X2, h1, h⟩ := bnd2_inv h
  refine r_cI hW (run_V (rest := []) C hW (t_X9_refuseAct h1) mk_X9_refuseAct vk_X9_228 (kd_X9_refuseAct h1) rfl rfl (by decide) ⟨Nat.le_of_ble_eq_true rfl, Nat.le_of_ble_eq_true rfl⟩ (hm_le hm) rfl rfl (Nat.le_of_ble_eq_true rfl) hl.1 dX9_unsettle_29) (fun H locs hW hz1 => ?_)
  have hz := Nat.le_trans hz hz1
  exact r_hiret C hzf hW hz hc hm h rfl dX9_unsettle_32
theorem kd_X9_unsettle {σ : Sh} {X : Mx} {z : Nat} {r : Hr Int32} {a : Nat} {x1 : Int32} {x2 : Int32} {x3 : Int32} (h : f_X9_unsettle σ X z a x1 x2 x3 = some r) : shK σ a = 7 := (grd_inv h).1
set_option maxRecDepth 20000 in
set_option maxHeartbeats 2000000 in
theorem t_X9_unsettle {σ : Sh} {X : Mx} {z : Nat} {r : Hr Int32} {a : Nat} {x1 : Int32} {x2 : Int32} {x3 : Int32} (h : f_X9_unsettle σ X z a x1 x2 x3 = some r) : HvI g l yX9_unsettle cX9_unsettle 6 (some .int) 5 107 [.ref a, .int x1, .int x2, .int x3] σ X z r := by
  obtain ⟨v0, σ0, X0, mc, ms⟩ := r
  refine met_ofH mk_X9_unsettle (Nat.le_of_ble_eq_true rfl) (fun p e s m args below meth c ls C hin hW hzz hl => ?_)
  have hx := C.x
  have hb := C.b
  have hl : lv_has ls 6 [(0, .ref a), (1, .int x1), (2, .int x2), (3, .int x3)] := hl
  have hz : z ≤ s.heap.size := Nat.le_of_eq hzz.symm
  have hc : s.heap.size + 0 = z := hzz
  have hzf : s.heap.size + mc = z + mc := by rw [hzz]
  have hm : 0 + mc = mc ∧ 0 + ms = ms := ⟨Nat.zero_add _, Nat.zero_add _⟩
  unfold f_X9_unsettle at h
  obtain ⟨hk0, h⟩ := grd_inv h
  refine lv_iload_n hx hb dX9_unsettle_0 rfl (lv_at hl 1 rfl) ?_
  refine lv_iload_n hx hb dX9_unsettle_1 rfl (lv_at hl 2 rfl) ?_
  refine lv_iload_n hx hb dX9_unsettle_2 rfl (lv_at hl 3 rfl) ?_
  refine r_cI hW (run_S (rest := []) C hW (t_X1_idOf (X := X)) mk_X1_idOf sk_X9_221 ⟨Nat.le_of_ble_eq_true rfl, Nat.le_of_ble_eq_true rfl⟩ (hm_le hm) rfl rfl (Nat.le_of_ble_eq_true rfl) hl.1 dX9_unsettle_3) (fun H locs hW hz1 => ?_)
  have hz := Nat.le_trans hz hz1
  refine lv_istore (lv' := [(4, .int (f_X1_idOf x1 x2 x3)), (0, .ref a), (1, .int x1), (2, .int x2), (3, .int x3)]) hx hb dX9_unsettle_6 hl (by decide) rfl (fun ls hl => ?_)
  refine lv_iload hx hb dX9_unsettle_8 (lv_at hl 0 rfl) ?_
  refine lv_iconst (v := (-1)) hx hb dX9_unsettle_10 (by decide) ?_
  refine r_br h (lv_icmp_eq (tgt := 28) hx hb dX9_unsettle_11 (by decide)) (fun h => ?_) (fun h => ?_)
  · exact b_X9_unsettle_28 C hzf hW hz hc hm (lv_sub hl [1] rfl) h
  · refine lv_aload_n hx hb dX9_unsettle_14 rfl (lv_at hl 1 rfl) ?_
    refine r_gR C hW h fl_X9_12 (by decide) dX9_unsettle_15 (fun b1 h => ?_)
    refine r_gR C hW h fl_X9_234 (by decide) dX9_unsettle_18 (fun b2 h => ?_)
    refine lv_iload hx hb dX9_unsettle_21 (lv_at hl 0 rfl) ?_
    refine r_iald C hW h dX9_unsettle_23 (fun v3 h => ?_)
    refine lv_iconst (v := (-1)) hx hb dX9_unsettle_24 (by decide) ?_
    refine r_brn h (lv_icmp_ne (tgt := 33) hx hb dX9_unsettle_25 (by decide)) (fun h => ?_) (fun h => ?_)
    · refine lv_aload_n hx hb dX9_unsettle_33 rfl (lv_at hl 1 rfl) ?_
      refine r_gR C hW h fl_X9_33 (by decide) dX9_unsettle_34 (fun b4 h => ?_)
      refine lv_aload_n hx hb dX9_unsettle_37 rfl (lv_at hl 1 rfl) ?_
      refine r_gR C hW h fl_X9_12 (by decide) dX9_unsettle_38 (fun b5 h => ?_)
      obtain ⟨u6, σ6, X6, c6, d6, cu9, du9, h6, h, hcu, hdu⟩ := bndH_inv h
      refine c_HV_V (rest := []) C hW hz hc hcu hdu hm (t_X0_prepare h6) mk_X0_prepare vk_X9_231 (kd_X0_prepare h6) rfl rfl (by decide) ⟨Nat.le_of_ble_eq_true rfl, Nat.le_of_ble_eq_true rfl⟩ rfl rfl (Nat.le_of_ble_eq_true rfl) hl.1 dX9_unsettle_41 (fun H locs cells slots hW hz hc hm => ?_)
      refine lv_aload_n hx hb dX9_unsettle_44 rfl (lv_at hl 1 rfl) ?_
      refine r_gR C hW h fl_X9_12 (by decide) dX9_unsettle_45 (fun b7 h => ?_)
      refine r_gR C hW h fl_X9_234 (by decide) dX9_unsettle_48 (fun b8 h => ?_)
      refine lv_iload hx hb dX9_unsettle_51 (lv_at hl 0 rfl) ?_
      refine r_iald C hW h dX9_unsettle_53 (fun v9 h => ?_)
      refine lv_istore (lv' := [(5, .int v9), (4, .int (f_X1_idOf x1 x2 x3)), (0, .ref a), (1, .int x1), (2, .int x2), (3, .int x3)]) hx hb dX9_unsettle_54 hl (by decide) rfl (fun ls hl => ?_)
      refine lv_aload_n hx hb dX9_unsettle_56 rfl (lv_at hl 2 rfl) ?_
      refine r_gR C hW h fl_X9_12 (by decide) dX9_unsettle_57 (fun b10 h => ?_)
      refine r_gR C hW h fl_X9_234 (by decide) dX9_unsettle_60 (fun b11 h => ?_)
      refine lv_iload hx hb dX9_unsettle_63 (lv_at hl 1 rfl) ?_
      refine lv_iconst (v := (-1)) hx hb dX9_unsettle_65 (by decide) ?_
      refine r_iast C hW h dX9_unsettle_66 (fun X12 H locs h hW hz1 => ?_)
      have hz := Nat.le_trans hz hz1
      refine lv_aload_n hx hb dX9_unsettle_67 rfl (lv_at hl 2 rfl) ?_
      obtain ⟨X14, h13, h⟩ := bnd_inv h
      refine r_cV hW (run_V (rest := []) C hW (t_X9_keepAct h13) mk_X9_keepAct vk_X9_237 (kd_X9_keepAct h13) rfl rfl (by decide) ⟨Nat.le_of_ble_eq_true rfl, Nat.le_of_ble_eq_true rfl⟩ (hm_le hm) rfl rfl (Nat.le_of_ble_eq_true rfl) hl.1 dX9_unsettle_68) (fun H locs hW hz1 => ?_)
      have hz := Nat.le_trans hz hz1
      refine lv_iload hx hb dX9_unsettle_71 (lv_at hl 0 rfl) ?_
      exact r_hiret C hzf hW hz hc hm h rfl dX9_unsettle_73
    · exact b_X9_unsettle_28 C hzf hW hz hc hm (lv_sub hl [1] rfl) h
theorem kd_X9_flip {σ : Sh} {X : Mx} {z : Nat} {r : Hr Unit} {a : Nat} (h : f_X9_flip σ X z a = some r) : shK σ a = 7 := (grd_inv h).1
set_option maxRecDepth 20000 in
set_option maxHeartbeats 2000000 in
theorem t_X9_flip {σ : Sh} {X : Mx} {z : Nat} {r : Hr Unit} {a : Nat} (h : f_X9_flip σ X z a = some r) : HvV g l yX9_flip cX9_flip 1 none 5 112 [.ref a] σ X z r := by
  obtain ⟨v0, σ0, X0, mc, ms⟩ := r
  refine met_ofH mk_X9_flip (Nat.le_of_ble_eq_true rfl) (fun p e s m args below meth c ls C hin hW hzz hl => ?_)
  have hx := C.x
  have hb := C.b
  have hl : lv_has ls 1 [(0, .ref a)] := hl
  have hz : z ≤ s.heap.size := Nat.le_of_eq hzz.symm
  have hc : s.heap.size + 0 = z := hzz
  have hzf : s.heap.size + mc = z + mc := by rw [hzz]
  have hm : 0 + mc = mc ∧ 0 + ms = ms := ⟨Nat.zero_add _, Nat.zero_add _⟩
  unfold f_X9_flip at h
  obtain ⟨hk0, h⟩ := grd_inv h
  refine lv_aload_n hx hb dX9_flip_0 rfl (lv_at hl 0 rfl) ?_
  refine r_gR C hW h fl_X9_33 (by decide) dX9_flip_1 (fun b1 h => ?_)
  refine lv_aload_n hx hb dX9_flip_4 rfl (lv_at hl 0 rfl) ?_
  refine r_gR C hW h fl_X9_12 (by decide) dX9_flip_5 (fun b2 h => ?_)
  obtain ⟨u3, σ3, X3, c3, d3, cu9, du9, h3, h, hcu, hdu⟩ := bndH_inv h
  refine c_HV_V (rest := []) C hW hz hc hcu hdu hm (t_X0_prepare h3) mk_X0_prepare vk_X9_231 (kd_X0_prepare h3) rfl rfl (by decide) ⟨Nat.le_of_ble_eq_true rfl, Nat.le_of_ble_eq_true rfl⟩ rfl rfl (Nat.le_of_ble_eq_true rfl) hl.1 dX9_flip_8 (fun H locs cells slots hW hz hc hm => ?_)
  refine lv_aload_n hx hb dX9_flip_11 rfl (lv_at hl 0 rfl) ?_
  refine r_gR C hW h fl_X9_12 (by decide) dX9_flip_12 (fun b4 h => ?_)
  obtain ⟨u5, σ5, X5, c5, d5, cu9, du9, h5, h, hcu, hdu⟩ := bndH_inv h
  refine c_HV_V (rest := []) C hW hz hc hcu hdu hm (t_X5_changeSidesAbout h5) mk_X5_changeSidesAbout vk_X9_240 (kd_X5_changeSidesAbout h5) rfl rfl (by decide) ⟨Nat.le_of_ble_eq_true rfl, Nat.le_of_ble_eq_true rfl⟩ rfl rfl (Nat.le_of_ble_eq_true rfl) hl.1 dX9_flip_15 (fun H locs cells slots hW hz hc hm => ?_)
  refine lv_aload_n hx hb dX9_flip_18 rfl (lv_at hl 0 rfl) ?_
  obtain ⟨X7, h6, h⟩ := bnd_inv h
  refine r_cV hW (run_V (rest := []) C hW (t_X9_keepAct h6) mk_X9_keepAct vk_X9_237 (kd_X9_keepAct h6) rfl rfl (by decide) ⟨Nat.le_of_ble_eq_true rfl, Nat.le_of_ble_eq_true rfl⟩ (hm_le hm) rfl rfl (Nat.le_of_ble_eq_true rfl) hl.1 dX9_flip_19) (fun H locs hW hz1 => ?_)
  have hz := Nat.le_trans hz hz1
  exact r_hvret C hzf hW hz hc hm h dX9_flip_22
set_option maxRecDepth 20000 in
set_option maxHeartbeats 2000000 in
theorem b_X9_commit_43 {a : Nat} (C : Cx g RX9 cX9_commit 3 (some .int) p s m args meth c) {mc ms zf : Nat} {v0 : Int32} {σ0 : Sh} {X0 : Mx} (hzf : s.heap.size + mc = zf) {σ : Sh} {X : Mx} {z cu du cells slots : Nat} {H : Heap} {locs : List Loc} {ls : Array Slot} (hW : Wd g σ X s H locs) (hz : z ≤ H.size) (hc : s.heap.size + cells = z) (hm : cells + cu = mc ∧ slots + du = ms) (hl : lv_has ls 3 [(0, .ref a)]) (h : f_X9_commit_43 a σ X z = some (v0, σ0, X0, cu, du)) : W p l e (rmH 6 141 mc ms) s m args below meth c H locs cells slots (QHI g below args s mc ms zf v0 σ0 X0) (F0 m 43 ls []) := by
  have hx := C.x
  have hb := C.b
  unfold f_X9_commit_43 at h
  refine lv_aload_n hx hb dX9_commit_43 rfl (lv_at hl 0 rfl) ?_
  obtain ⟨v3, X2, h1, h⟩ := bnd2_inv h
  refine r_cI hW (run_V (rest := []) C hW (t_X9_refuseAct h1) mk_X9_refuseAct vk_X9_228 (kd_X9_refuseAct h1) rfl rfl (by decide) ⟨Nat.le_of_ble_eq_true rfl, Nat.le_of_ble_eq_true rfl⟩ (hm_le hm) rfl rfl (Nat.le_of_ble_eq_true rfl) hl.1 dX9_commit_44) (fun H locs hW hz1 => ?_)
  have hz := Nat.le_trans hz hz1
  exact r_hiret C hzf hW hz hc hm h rfl dX9_commit_47
theorem kd_X9_commit {σ : Sh} {X : Mx} {z : Nat} {r : Hr Int32} {a : Nat} (h : f_X9_commit σ X z a = some r) : shK σ a = 7 := (grd_inv h).1
set_option maxRecDepth 20000 in
set_option maxHeartbeats 2000000 in
theorem t_X9_commit {σ : Sh} {X : Mx} {z : Nat} {r : Hr Int32} {a : Nat} (h : f_X9_commit σ X z a = some r) : HvI g l yX9_commit cX9_commit 3 (some .int) 6 141 [.ref a] σ X z r := by
  obtain ⟨v0, σ0, X0, mc, ms⟩ := r
  refine met_ofH mk_X9_commit (Nat.le_of_ble_eq_true rfl) (fun p e s m args below meth c ls C hin hW hzz hl => ?_)
  have hx := C.x
  have hb := C.b
  have hl : lv_has ls 3 [(0, .ref a)] := hl
  have hz : z ≤ s.heap.size := Nat.le_of_eq hzz.symm
  have hc : s.heap.size + 0 = z := hzz
  have hzf : s.heap.size + mc = z + mc := by rw [hzz]
  have hm : 0 + mc = mc ∧ 0 + ms = ms := ⟨Nat.zero_add _, Nat.zero_add _⟩
  unfold f_X9_commit at h
  obtain ⟨hk0, h⟩ := grd_inv h
  refine lv_aload_n hx hb dX9_commit_0 rfl (lv_at hl 0 rfl) ?_
  obtain ⟨b3, X2, h1, h⟩ := bnd2_inv h
  refine r_cR hW (run_V (rest := []) C hW (t_X9_freshMerge h1) mk_X9_freshMerge vk_X9_131 (kd_X9_freshMerge h1) rfl rfl (by decide) ⟨Nat.le_of_ble_eq_true rfl, Nat.le_of_ble_eq_true rfl⟩ (hm_le hm) rfl rfl (Nat.le_of_ble_eq_true rfl) hl.1 dX9_commit_1) (fun H locs hW hz1 => ?_)
  have hz := Nat.le_trans hz hz1
  refine lv_astore_n (lv' := [(1, .ref b3), (0, .ref a)]) hx hb dX9_commit_4 rfl hl (by decide) rfl (fun ls hl => ?_)
  refine lv_aload_n hx hb dX9_commit_5 rfl (lv_at hl 0 rfl) ?_
  refine r_gR C hW h fl_X9_135 (by decide) dX9_commit_6 (fun b4 h => ?_)
  refine r_gI C hW h fl_X9_125 (by decide) dX9_commit_9 (fun v5 h => ?_)
  refine r_cI hW (run_S (rest := []) C hW (t_J6_bitCount_0f7a4 (X := X2)) mk_J6_bitCount_0f7a4 sk_X9_120 ⟨Nat.le_of_ble_eq_true rfl, Nat.le_of_ble_eq_true rfl⟩ (hm_le hm) rfl rfl (Nat.le_of_ble_eq_true rfl) hl.1 dX9_commit_12) (fun H locs hW hz1 => ?_)
  have hz := Nat.le_trans hz hz1
  refine lv_istore_n (lv' := [(2, .int (f_J6_bitCount_0f7a4 v5)), (1, .ref b3), (0, .ref a)]) hx hb dX9_commit_15 rfl hl (by decide) rfl (fun ls hl => ?_)
  refine lv_aload_n hx hb dX9_commit_16 rfl (lv_at hl 1 rfl) ?_
  refine r_gI C hW h fl_X9_138 (by decide) dX9_commit_17 (fun v6 h => ?_)
  refine r_br h (lv_if_gt (tgt := 43) hx hb dX9_commit_20 (by decide)) (fun h => ?_) (fun h => ?_)
  · exact b_X9_commit_43 C hzf hW hz hc hm (lv_sub hl [2] rfl) h
  · refine lv_iload_n hx hb dX9_commit_23 rfl (lv_at hl 0 rfl) ?_
    refine lv_bipush (v := 12) hx hb dX9_commit_24 (by decide) ?_
    refine r_br h (lv_icmp_gt (tgt := 43) hx hb dX9_commit_26 (by decide)) (fun h => ?_) (fun h => ?_)
    · exact b_X9_commit_43 C hzf hW hz hc hm (lv_sub hl [2] rfl) h
    · refine lv_aload_n hx hb dX9_commit_29 rfl (lv_at hl 1 rfl) ?_
      refine r_gR C hW h fl_X9_135 (by decide) dX9_commit_30 (fun b7 h => ?_)
      refine r_gI C hW h fl_X9_115 (by decide) dX9_commit_33 (fun v8 h => ?_)
      refine r_cI hW (run_S (rest := []) C hW (t_J6_bitCount_0f7a4 (X := X2)) mk_J6_bitCount_0f7a4 sk_X9_120 ⟨Nat.le_of_ble_eq_true rfl, Nat.le_of_ble_eq_true rfl⟩ (hm_le hm) rfl rfl (Nat.le_of_ble_eq_true rfl) hl.1 dX9_commit_36) (fun H locs hW hz1 => ?_)
      have hz := Nat.le_trans hz hz1
      refine lv_iconst (v := 5) hx hb dX9_commit_39 (by decide) ?_
      refine r_br h (lv_icmp_le (tgt := 48) hx hb dX9_commit_40 (by decide)) (fun h => ?_) (fun h => ?_)
      · refine lv_aload_n hx hb dX9_commit_48 rfl (lv_at hl 2 rfl) ?_
        refine r_gR C hW h fl_X9_33 (by decide) dX9_commit_49 (fun b9 h => ?_)
        refine lv_aload_n hx hb dX9_commit_52 rfl (lv_at hl 2 rfl) ?_
        refine r_gR C hW h fl_X9_12 (by decide) dX9_commit_53 (fun b10 h => ?_)
        obtain ⟨u11, σ11, X11, c11, d11, cu9, du9, h11, h, hcu, hdu⟩ := bndH_inv h
        refine c_HV_V (rest := []) C hW hz hc hcu hdu hm (t_X0_prepare h11) mk_X0_prepare vk_X9_231 (kd_X0_prepare h11) rfl rfl (by decide) ⟨Nat.le_of_ble_eq_true rfl, Nat.le_of_ble_eq_true rfl⟩ rfl rfl (Nat.le_of_ble_eq_true rfl) hl.1 dX9_commit_56 (fun H locs cells slots hW hz hc hm => ?_)
        refine lv_aload_n hx hb dX9_commit_59 rfl (lv_at hl 2 rfl) ?_
        refine r_gR C hW h fl_X9_12 (by decide) dX9_commit_60 (fun b12 h => ?_)
        refine lv_aload_n hx hb dX9_commit_63 rfl (lv_at hl 1 rfl) ?_
        refine r_gR C hW h fl_X9_135 (by decide) dX9_commit_64 (fun b13 h => ?_)
        obtain ⟨X15, h14, h⟩ := bnd_inv h
        refine r_cV hW (run_V (rest := []) C hW (t_X5_becomeMerged h14) mk_X5_becomeMerged vk_X9_243 (kd_X5_becomeMerged h14) rfl rfl (by decide) ⟨Nat.le_of_ble_eq_true rfl, Nat.le_of_ble_eq_true rfl⟩ (hm_le hm) rfl rfl (Nat.le_of_ble_eq_true rfl) hl.1 dX9_commit_67) (fun H locs hW hz1 => ?_)
        have hz := Nat.le_trans hz hz1
        refine lv_aload_n hx hb dX9_commit_70 rfl (lv_at hl 2 rfl) ?_
        obtain ⟨X17, h16, h⟩ := bnd_inv h
        refine r_cV hW (run_V (rest := []) C hW (t_X9_keepAct h16) mk_X9_keepAct vk_X9_237 (kd_X9_keepAct h16) rfl rfl (by decide) ⟨Nat.le_of_ble_eq_true rfl, Nat.le_of_ble_eq_true rfl⟩ (hm_le hm) rfl rfl (Nat.le_of_ble_eq_true rfl) hl.1 dX9_commit_71) (fun H locs hW hz1 => ?_)
        have hz := Nat.le_trans hz hz1
        refine lv_iload_n hx hb dX9_commit_74 rfl (lv_at hl 0 rfl) ?_
        exact r_hiret C hzf hW hz hc hm h rfl dX9_commit_75
      · exact b_X9_commit_43 C hzf hW hz hc hm (lv_sub hl [2] rfl) h
theorem kd_X9_undo {σ : Sh} {X : Mx} {z : Nat} {r : Hr Int32} {a : Nat} (h : f_X9_undo σ X z a = some r) : shK σ a = 7 := (grd_inv h).1
set_option maxRecDepth 20000 in
set_option maxHeartbeats 2000000 in
theorem t_X9_undo {σ : Sh} {X : Mx} {z : Nat} {r : Hr Int32} {a : Nat} (h : f_X9_undo σ X z a = some r) : HvI g l yX9_undo cX9_undo 1 (some .int) 5 107 [.ref a] σ X z r := by
  obtain ⟨v0, σ0, X0, mc, ms⟩ := r
  refine met_ofH mk_X9_undo (Nat.le_of_ble_eq_true rfl) (fun p e s m args below meth c ls C hin hW hzz hl => ?_)
  have hx := C.x
  have hb := C.b
  have hl : lv_has ls 1 [(0, .ref a)] := hl
  have hz : z ≤ s.heap.size := Nat.le_of_eq hzz.symm
  have hc : s.heap.size + 0 = z := hzz
  have hzf : s.heap.size + mc = z + mc := by rw [hzz]
  have hm : 0 + mc = mc ∧ 0 + ms = ms := ⟨Nat.zero_add _, Nat.zero_add _⟩
  unfold f_X9_undo at h
  obtain ⟨hk0, h⟩ := grd_inv h
  refine lv_aload_n hx hb dX9_undo_0 rfl (lv_at hl 0 rfl) ?_
  refine r_gR C hW h fl_X9_33 (by decide) dX9_undo_1 (fun b1 h => ?_)
  refine lv_aload_n hx hb dX9_undo_4 rfl (lv_at hl 0 rfl) ?_
  refine r_gR C hW h fl_X9_12 (by decide) dX9_undo_5 (fun b2 h => ?_)
  obtain ⟨v3, σ3, X3, c3, d3, cu9, du9, h3, h, hcu, hdu⟩ := bndH_inv h
  refine c_HV_I (rest := []) C hW hz hc hcu hdu hm (t_X0_takeBack h3) mk_X0_takeBack vk_X9_247 (kd_X0_takeBack h3) rfl rfl (by decide) ⟨Nat.le_of_ble_eq_true rfl, Nat.le_of_ble_eq_true rfl⟩ rfl rfl (Nat.le_of_ble_eq_true rfl) hl.1 dX9_undo_8 (fun H locs cells slots hW hz hc hm => ?_)
  refine r_brn h (lv_if_ne (tgt := 16) hx hb dX9_undo_11 (by decide)) (fun h => ?_) (fun h => ?_)
  · refine lv_aload_n hx hb dX9_undo_16 rfl (lv_at hl 0 rfl) ?_
    obtain ⟨X5, h4, h⟩ := bnd_inv h
    refine r_cV hW (run_V (rest := []) C hW (t_X9_noteChange h4) mk_X9_noteChange vk_X9_108 (kd_X9_noteChange h4) rfl rfl (by decide) ⟨Nat.le_of_ble_eq_true rfl, Nat.le_of_ble_eq_true rfl⟩ (hm_le hm) rfl rfl (Nat.le_of_ble_eq_true rfl) hl.1 dX9_undo_17) (fun H locs hW hz1 => ?_)
    have hz := Nat.le_trans hz hz1
    refine lv_aload_n hx hb dX9_undo_20 rfl (lv_at hl 0 rfl) ?_
    refine r_gR C hW h fl_X9_33 (by decide) dX9_undo_21 (fun b6 h => ?_)
    refine r_gI C hW h fl_X9_151 (by decide) dX9_undo_24 (fun v7 h => ?_)
    exact r_hiret C hzf hW hz hc hm h rfl dX9_undo_27
  · refine lv_iconst (v := (-1)) hx hb dX9_undo_14 (by decide) ?_
    exact r_hiret C hzf hW hz hc hm h rfl dX9_undo_15
theorem kd_X9_image {σ : Sh} {X : Mx} {z : Nat} {r : Hr Unit} {a : Nat} (h : f_X9_image σ X z a = some r) : shK σ a = 7 := (grd_inv h).1
set_option maxRecDepth 20000 in
set_option maxHeartbeats 2000000 in
theorem t_X9_image {σ : Sh} {X : Mx} {z : Nat} {r : Hr Unit} {a : Nat} (h : f_X9_image σ X z a = some r) : HvV g l yX9_image cX9_image 1 none 5 108 [.ref a] σ X z r := by
  obtain ⟨v0, σ0, X0, mc, ms⟩ := r
  refine met_ofH mk_X9_image (Nat.le_of_ble_eq_true rfl) (fun p e s m args below meth c ls C hin hW hzz hl => ?_)
  have hx := C.x
  have hb := C.b
  have hl : lv_has ls 1 [(0, .ref a)] := hl
  have hz : z ≤ s.heap.size := Nat.le_of_eq hzz.symm
  have hc : s.heap.size + 0 = z := hzz
  have hzf : s.heap.size + mc = z + mc := by rw [hzz]
  have hm : 0 + mc = mc ∧ 0 + ms = ms := ⟨Nat.zero_add _, Nat.zero_add _⟩
  unfold f_X9_image at h
  obtain ⟨hk0, h⟩ := grd_inv h
  refine lv_aload_n hx hb dX9_image_0 rfl (lv_at hl 0 rfl) ?_
  refine r_gR C hW h fl_X9_51 (by decide) dX9_image_1 (fun b1 h => ?_)
  refine lv_aload_n hx hb dX9_image_4 rfl (lv_at hl 0 rfl) ?_
  refine r_gR C hW h fl_X9_12 (by decide) dX9_image_5 (fun b2 h => ?_)
  obtain ⟨X4, h3, h⟩ := bnd_inv h
  refine r_cV hW (run_V (rest := []) C hW (t_X5_copyFrom h3) mk_X5_copyFrom vk_X9_96 (kd_X5_copyFrom h3) rfl rfl (by decide) ⟨Nat.le_of_ble_eq_true rfl, Nat.le_of_ble_eq_true rfl⟩ (hm_le hm) rfl rfl (Nat.le_of_ble_eq_true rfl) hl.1 dX9_image_8) (fun H locs hW hz1 => ?_)
  have hz := Nat.le_trans hz hz1
  refine lv_aload_n hx hb dX9_image_11 rfl (lv_at hl 0 rfl) ?_
  refine r_gR C hW h fl_X9_54 (by decide) dX9_image_12 (fun b5 h => ?_)
  refine lv_aload_n hx hb dX9_image_15 rfl (lv_at hl 0 rfl) ?_
  refine r_gR C hW h fl_X9_33 (by decide) dX9_image_16 (fun b6 h => ?_)
  obtain ⟨u7, σ7, X7, c7, d7, cu9, du9, h7, h, hcu, hdu⟩ := bndH_inv h
  refine c_HV_V (rest := []) C hW hz hc hcu hdu hm (t_X0_copyFrom h7) mk_X0_copyFrom vk_X9_306 (kd_X0_copyFrom h7) rfl rfl (by decide) ⟨Nat.le_of_ble_eq_true rfl, Nat.le_of_ble_eq_true rfl⟩ rfl rfl (Nat.le_of_ble_eq_true rfl) hl.1 dX9_image_19 (fun H locs cells slots hW hz hc hm => ?_)
  refine lv_aload_n hx hb dX9_image_22 rfl (lv_at hl 0 rfl) ?_
  refine r_gR C hW h fl_X9_57 (by decide) dX9_image_23 (fun b8 h => ?_)
  refine lv_aload_n hx hb dX9_image_26 rfl (lv_at hl 0 rfl) ?_
  refine r_gR C hW h fl_X9_40 (by decide) dX9_image_27 (fun b9 h => ?_)
  obtain ⟨X11, h10, h⟩ := bnd_inv h
  refine r_cV hW (run_V (rest := []) C hW (t_X4_copyFrom h10) mk_X4_copyFrom vk_X9_309 (kd_X4_copyFrom h10) rfl rfl (by decide) ⟨Nat.le_of_ble_eq_true rfl, Nat.le_of_ble_eq_true rfl⟩ (hm_le hm) rfl rfl (Nat.le_of_ble_eq_true rfl) hl.1 dX9_image_30) (fun H locs hW hz1 => ?_)
  have hz := Nat.le_trans hz hz1
  refine lv_aload_n hx hb dX9_image_33 rfl (lv_at hl 0 rfl) ?_
  refine lv_iconst (v := 1) hx hb dX9_image_34 (by decide) ?_
  refine r_pI C hW h pf_X9_104 (by decide) rfl rfl dX9_image_35 (fun X12 H locs h hW hz1 => ?_)
  have hz := Nat.le_trans hz hz1
  exact r_hvret C hzf hW hz hc hm h dX9_image_38
theorem kd_X9_restore {σ : Sh} {X : Mx} {z : Nat} {r : Hr Int32} {a : Nat} (h : f_X9_restore σ X z a = some r) : shK σ a = 7 := (grd_inv h).1
set_option maxRecDepth 20000 in
set_option maxHeartbeats 2000000 in
theorem t_X9_restore {σ : Sh} {X : Mx} {z : Nat} {r : Hr Int32} {a : Nat} (h : f_X9_restore σ X z a = some r) : HvI g l yX9_restore cX9_restore 1 (some .boolean) 5 108 [.ref a] σ X z r := by
  obtain ⟨v0, σ0, X0, mc, ms⟩ := r
  refine met_ofH mk_X9_restore (Nat.le_of_ble_eq_true rfl) (fun p e s m args below meth c ls C hin hW hzz hl => ?_)
  have hx := C.x
  have hb := C.b
  have hl : lv_has ls 1 [(0, .ref a)] := hl
  have hz : z ≤ s.heap.size := Nat.le_of_eq hzz.symm
  have hc : s.heap.size + 0 = z := hzz
  have hzf : s.heap.size + mc = z + mc := by rw [hzz]
  have hm : 0 + mc = mc ∧ 0 + ms = ms := ⟨Nat.zero_add _, Nat.zero_add _⟩
  unfold f_X9_restore at h
  obtain ⟨hk0, h⟩ := grd_inv h
  refine lv_aload_n hx hb dX9_restore_0 rfl (lv_at hl 0 rfl) ?_
  refine r_gI C hW h fl_X9_104 (by decide) dX9_restore_1 (fun v1 h => ?_)
  refine r_brn h (lv_if_ne (tgt := 9) hx hb dX9_restore_4 (by decide)) (fun h => ?_) (fun h => ?_)
  · refine lv_aload_n hx hb dX9_restore_9 rfl (lv_at hl 0 rfl) ?_
    refine r_gR C hW h fl_X9_12 (by decide) dX9_restore_10 (fun b2 h => ?_)
    refine lv_aload_n hx hb dX9_restore_13 rfl (lv_at hl 0 rfl) ?_
    refine r_gR C hW h fl_X9_51 (by decide) dX9_restore_14 (fun b3 h => ?_)
    obtain ⟨X5, h4, h⟩ := bnd_inv h
    refine r_cV hW (run_V (rest := []) C hW (t_X5_copyFrom h4) mk_X5_copyFrom vk_X9_96 (kd_X5_copyFrom h4) rfl rfl (by decide) ⟨Nat.le_of_ble_eq_true rfl, Nat.le_of_ble_eq_true rfl⟩ (hm_le hm) rfl rfl (Nat.le_of_ble_eq_true rfl) hl.1 dX9_restore_17) (fun H locs hW hz1 => ?_)
    have hz := Nat.le_trans hz hz1
    refine lv_aload_n hx hb dX9_restore_20 rfl (lv_at hl 0 rfl) ?_
    refine r_gR C hW h fl_X9_33 (by decide) dX9_restore_21 (fun b6 h => ?_)
    refine lv_aload_n hx hb dX9_restore_24 rfl (lv_at hl 0 rfl) ?_
    refine r_gR C hW h fl_X9_54 (by decide) dX9_restore_25 (fun b7 h => ?_)
    obtain ⟨u8, σ8, X8, c8, d8, cu9, du9, h8, h, hcu, hdu⟩ := bndH_inv h
    refine c_HV_V (rest := []) C hW hz hc hcu hdu hm (t_X0_copyFrom h8) mk_X0_copyFrom vk_X9_306 (kd_X0_copyFrom h8) rfl rfl (by decide) ⟨Nat.le_of_ble_eq_true rfl, Nat.le_of_ble_eq_true rfl⟩ rfl rfl (Nat.le_of_ble_eq_true rfl) hl.1 dX9_restore_28 (fun H locs cells slots hW hz hc hm => ?_)
    refine lv_aload_n hx hb dX9_restore_31 rfl (lv_at hl 0 rfl) ?_
    refine r_gR C hW h fl_X9_40 (by decide) dX9_restore_32 (fun b9 h => ?_)
    refine lv_aload_n hx hb dX9_restore_35 rfl (lv_at hl 0 rfl) ?_
    refine r_gR C hW h fl_X9_57 (by decide) dX9_restore_36 (fun b10 h => ?_)
    obtain ⟨X12, h11, h⟩ := bnd_inv h
    refine r_cV hW (run_V (rest := []) C hW (t_X4_copyFrom h11) mk_X4_copyFrom vk_X9_309 (kd_X4_copyFrom h11) rfl rfl (by decide) ⟨Nat.le_of_ble_eq_true rfl, Nat.le_of_ble_eq_true rfl⟩ (hm_le hm) rfl rfl (Nat.le_of_ble_eq_true rfl) hl.1 dX9_restore_39) (fun H locs hW hz1 => ?_)
    have hz := Nat.le_trans hz hz1
    refine lv_aload_n hx hb dX9_restore_42 rfl (lv_at hl 0 rfl) ?_
    obtain ⟨X14, h13, h⟩ := bnd_inv h
    refine r_cV hW (run_V (rest := []) C hW (t_X9_noteChange h13) mk_X9_noteChange vk_X9_108 (kd_X9_noteChange h13) rfl rfl (by decide) ⟨Nat.le_of_ble_eq_true rfl, Nat.le_of_ble_eq_true rfl⟩ (hm_le hm) rfl rfl (Nat.le_of_ble_eq_true rfl) hl.1 dX9_restore_43) (fun H locs hW hz1 => ?_)
    have hz := Nat.le_trans hz hz1
    refine lv_iconst (v := 1) hx hb dX9_restore_46 (by decide) ?_
    exact r_hiret C hzf hW hz hc hm h rfl dX9_restore_47
  · refine lv_iconst (v := 0) hx hb dX9_restore_7 (by decide) ?_
    exact r_hiret C hzf hW hz hc hm h rfl dX9_restore_8
end
