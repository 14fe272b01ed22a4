section STRINGS
variable {p : Program} {l : Launch} {e : Env} {R : Room} {s : State} {m : MethodId} {args : Array Value} {below : List Frame} {meth : Method} {c : Code} {H : Heap} {locs : List Loc} {cells slots : Nat} {Q : State → Prop}
variable {g : Gp} {own : String} {cc : ByteArray} {nL : Nat} {rt : Option FieldType} {σ : Sh} {X : Mx} {pc : Nat} {ls : Array Slot} {rest st0 As : List Value} {ρ : Type} {r : ρ}
variable {y : MethodName} {cy : ByteArray} {nLy fr lo idx n w : Nat} {rty : Option FieldType}
/-- a virtual call on one of the texts' words -/
theorem run_VS (C : Cx g own cc nL rt p s m args meth c) (hW : Wd g σ X s H locs) {Qc : Array Value → State → Outcome → State → Prop} (hM : Met l y (Cond.code y cy nLy rty :: TB) (rmZ fr lo) (va_Pc (.ref (gS g w) :: As) (Rp g σ X)) Qc 0 0 (gA g)) (hm : mOK y cy nLy rty n) (hv : vOK own idx y) (hw : w < 18) (hq : y.cls = "java/lang/String") (hR : fr + 1 ≤ R.frames ∧ 8 + (nLy + 11) + lo ≤ R.locals) (hcs : cells ≤ R.cells ∧ slots ≤ R.slots) (hn : As.length = n) (hst : st0 = As.reverse ++ .ref (gS g w) :: rest) (hsz : (rest.map fun v => v.category).sum ≤ 8) (hls : ls.size = nL) (hdg : decode cc pc = .ok (.invokevirtual idx, 3)) :
    va_Run p l e R s m args below meth c H locs cells slots 0 0 (F0 m pc ls st0) rest (Qc (Value.ref (gS g w) :: As).toArray) (gA g) := by
  have hts := C.1.2.2.2.2
  obtain ⟨h1, h2, h3, h4⟩ := hm
  obtain ⟨v1, v2, v3⟩ := hv
  obtain ⟨cell, k1, k2, k3, -⟩ := (C.2.2.2.2.2.2.2.1 w hw).1.kept hW.2.2.1.2.1
  rw [← hq] at k3
  exact va_runV (C := y.cls) (As := As) C.1 hM ⟨callB_of n hts (tb_code h1) rfl rfl rfl (hts _ h4) (hts _ v1) h3 hR, hts _ v2, hts _ v3⟩ ⟨rp_blind, ⟨cell, k1, k2, k3⟩, rp_pre C hW⟩ rfl hn hls hst (lv_room hsz) hdg ⟨hcs.1, hcs.2⟩
theorem r_ldcS (C : Cx g own cc nL rt p s m args meth c) (ho : own = RX7) (hw : w < 18) (hi : (wTx.getD w (0, "")).1 = idx) (hdg : decode cc pc = .ok (.ldc idx, 2)) (kk : W p l e R s m args below meth c H locs cells slots Q (F0 m (pc + 2) ls (.ref (gS g w) :: rest))) : W p l e R s m args below meth c H locs cells slots Q (F0 m pc ls rest) := by
  subst ho; subst hi
  exact va_ldcS C.x C.b C.1.2.2.2.1 (C.2.2.2.2.2.2.2.2.2.2.1 w hw) hdg kk
set_option maxRecDepth 20000 in
theorem t_J0_coder_7d493 {X : Mx} (hw : w < 18) : MtI g l yJ0_coder_7d493 cJ0_coder_7d493 1 (some .byte) 0 0 [.ref (gS g w)] σ X (0, X) := by
  refine met_of mk_J0_coder_7d493 (Nat.le_of_ble_eq_true rfl) (fun p e s m args below meth c ls C hW hl => ?_)
  have hx := C.x
  have hb := C.b
  have hl : lv_has ls 1 [(0, .ref (gS g w))] := hl
  have hsc := C.2.2.2.2.2
  refine va_gets hx hb hsc.1 hW.2.2.1 C.1.2.2.2.1 (C.1.2.2.2.2 _ lk_J0_38) (fun _ h => h) dJ0_coder_7d493_0 ?_
  refine lv_if_eq (tgt := 13) hx hb dJ0_coder_7d493_3 (by decide) (fun h => absurd h (by decide)) (fun _ => ?_)
  refine lv_aload_n hx hb dJ0_coder_7d493_6 rfl (lv_at hl 0 rfl) ?_
  refine vk_getf hx hb (hsc.2.2.1 w hw).2.1 hW.2.2.1 C.1.2.2.2.1 (C.1.2.2.2.2 _ lk_J0_15) (fun _ h => h) dJ0_coder_7d493_7 ?_
  refine lv_goto (tgt := 14) hx hb dJ0_coder_7d493_10 (by decide) ?_
  exact r_iret C hW rfl rfl dJ0_coder_7d493_14
set_option maxRecDepth 20000 in
theorem t_J0_isLatin1_aae02 {X : Mx} (hw : w < 18) : MtI g l yJ0_isLatin1_aae02 cJ0_isLatin1_aae02 1 (some .boolean) 0 0 [.ref (gS g w)] σ X (1, X) := by
  refine met_of mk_J0_isLatin1_aae02 (Nat.le_of_ble_eq_true rfl) (fun p e s m args below meth c ls C hW hl => ?_)
  have hx := C.x
  have hb := C.b
  have hl : lv_has ls 1 [(0, .ref (gS g w))] := hl
  have hsc := C.2.2.2.2.2
  refine va_gets hx hb hsc.1 hW.2.2.1 C.1.2.2.2.1 (C.1.2.2.2.2 _ lk_J0_38) (fun _ h => h) dJ0_isLatin1_aae02_0 ?_
  refine lv_if_eq (tgt := 17) hx hb dJ0_isLatin1_aae02_3 (by decide) (fun h => absurd h (by decide)) (fun _ => ?_)
  refine lv_aload_n hx hb dJ0_isLatin1_aae02_6 rfl (lv_at hl 0 rfl) ?_
  refine vk_getf hx hb (hsc.2.2.1 w hw).2.1 hW.2.2.1 C.1.2.2.2.1 (C.1.2.2.2.2 _ lk_J0_15) (fun _ h => h) dJ0_isLatin1_aae02_7 ?_
  refine lv_if_ne (tgt := 17) hx hb dJ0_isLatin1_aae02_10 (by decide) (fun h => absurd rfl h) (fun _ => ?_)
  refine lv_iconst (v := 1) hx hb dJ0_isLatin1_aae02_13 (by decide) ?_
  refine lv_goto (tgt := 18) hx hb dJ0_isLatin1_aae02_14 (by decide) ?_
  exact r_iret C hW rfl rfl dJ0_isLatin1_aae02_18
set_option maxRecDepth 20000 in
theorem t_J0_length_8abf5 {X : Mx} (hw : w < 18) : MtI g l yJ0_length_8abf5 cJ0_length_8abf5 1 (some .int) 1 20 [.ref (gS g w)] σ X (Int32.ofNat (wN w) >>> ((0 : Int32) &&& 31), X) := by
  refine met_of mk_J0_length_8abf5 (Nat.le_of_ble_eq_true rfl) (fun p e s m args below meth c ls C hW hl => ?_)
  have hx := C.x
  have hb := C.b
  have hl : lv_has ls 1 [(0, .ref (gS g w))] := hl
  have hsc := C.2.2.2.2.2
  refine lv_aload_n hx hb dJ0_length_8abf5_0 rfl (lv_at hl 0 rfl) ?_
  refine vk_getf hx hb (hsc.2.2.1 w hw).2.2.1 hW.2.2.1 C.1.2.2.2.1 (C.1.2.2.2.2 _ lk_J0_9) (fun _ h => h) dJ0_length_8abf5_1 ?_
  refine va_tlen (v := Int32.ofNat (wN w)) hx hb (hsc.2.2.1 w hw).2.2.2 hW.2.2.1 rfl dJ0_length_8abf5_4 ?_
  refine lv_aload_n hx hb dJ0_length_8abf5_5 rfl (lv_at hl 0 rfl) ?_
  refine r_cI hW (run_VS (rest := [.int (Int32.ofNat (wN w))]) C hW (t_J0_coder_7d493 (X := X) hw) mk_J0_coder_7d493 vk_J0_335 hw rfl ⟨Nat.le_of_ble_eq_true rfl, Nat.le_of_ble_eq_true rfl⟩ ⟨Nat.zero_le _, Nat.zero_le _⟩ rfl rfl (Nat.le_of_ble_eq_true rfl) hl.1 dJ0_length_8abf5_6) (fun H locs hW _ => ?_)
  refine lv_ishr hx hb dJ0_length_8abf5_9 ?_
  exact r_iret C hW rfl rfl dJ0_length_8abf5_10
set_option maxRecDepth 20000 in
theorem t_J3_checkIndex_8e157 {X : Mx} {i k : Int32} {v : Value} (hv : v = .null ∨ ∃ t, v = .ref t) (h0 : ¬ i < 0) (h1 : i < k) : MtI g l yJ3_checkIndex_8e157 cJ3_checkIndex_8e157 3 (some .int) 0 0 [.int i, .int k, v] σ X (i, X) := by
  refine met_of mk_J3_checkIndex_8e157 (by rcases hv with rfl | ⟨t, rfl⟩ <;> exact Nat.le_of_ble_eq_true rfl) (fun p e s m args below meth c ls C hW hl => ?_)
  have hx := C.x
  have hb := C.b
  have hl : lv_has ls 3 [(0, .int i), (1, .int k)] := by rcases hv with rfl | ⟨t, rfl⟩ <;> exact lv_sub hl [0, 1] rfl
  refine lv_iload_n hx hb dJ3_checkIndex_8e157_0 rfl (lv_at hl 0 rfl) ?_
  refine lv_if_lt (tgt := 9) hx hb dJ3_checkIndex_8e157_1 (by decide) (fun h => absurd h h0) (fun _ => ?_)
  refine lv_iload_n hx hb dJ3_checkIndex_8e157_4 rfl (lv_at hl 0 rfl) ?_
  refine lv_iload_n hx hb dJ3_checkIndex_8e157_5 rfl (lv_at hl 1 rfl) ?_
  refine lv_icmp_lt (tgt := 16) hx hb dJ3_checkIndex_8e157_6 (by decide) (fun _ => ?_) (fun h => absurd h1 h)
  refine lv_iload_n hx hb dJ3_checkIndex_8e157_16 rfl (lv_at hl 0 rfl) ?_
  exact r_iret C hW rfl rfl dJ3_checkIndex_8e157_17
set_option maxRecDepth 20000 in
theorem t_J0_checkIndex_df160 {X : Mx} {i k : Int32} (h0 : ¬ i < 0) (h1 : i < k) : MtV g l yJ0_checkIndex_df160 cJ0_checkIndex_df160 2 none 1 22 [.int i, .int k] σ X X := by
  refine met_of mk_J0_checkIndex_df160 (Nat.le_of_ble_eq_true rfl) (fun p e s m args below meth c ls C hW hl => ?_)
  have hx := C.x
  have hb := C.b
  have hl : lv_has ls 2 [(0, .int i), (1, .int k)] := hl
  refine lv_iload_n hx hb dJ0_checkIndex_df160_0 rfl (lv_at hl 0 rfl) ?_
  refine lv_iload_n hx hb dJ0_checkIndex_df160_1 rfl (lv_at hl 1 rfl) ?_
  have go : ∀ v : Value, (v = .null ∨ ∃ t, v = .ref t) → va_Z "jdk/internal/util/Preconditions" "SIOOBE_FORMATTER" "Ljava/util/function/BiFunction;" v (gA g) s s.heap → W p l e (rmZ 1 22) s m args below meth c s.heap [] 0 0 (QV g σ below args s X) (F0 m 2 ls [.int k, .int i]) := by
    intro v hv hz
    refine va_gets hx hb hz hW.2.2.1 C.1.2.2.2.1 (C.1.2.2.2.2 _ lk_J0_1053) (fun _ h => h) dJ0_checkIndex_df160_2 ?_
    refine r_cI hW (run_S (As := [.int i, .int k, v]) (rest := []) C hW (t_J3_checkIndex_8e157 (X := X) hv h0 h1) mk_J3_checkIndex_8e157 sk_J0_1059 ⟨Nat.le_of_ble_eq_true rfl, Nat.le_of_ble_eq_true rfl⟩ ⟨Nat.zero_le _, Nat.zero_le _⟩ rfl rfl (Nat.le_of_ble_eq_true rfl) hl.1 dJ0_checkIndex_df160_5) (fun H locs hW _ => ?_)
    refine lv_pop hx hb dJ0_checkIndex_df160_8 rfl ?_
    exact r_vret C hW rfl dJ0_checkIndex_df160_9
  rcases C.2.2.2.2.2.2.1 with h | ⟨t, h⟩
  · exact go _ (Or.inl rfl) h
  · exact go _ (Or.inr ⟨t, rfl⟩) h
theorem wN_small : ∀ w, w < 18 → wN w < 2 ^ 31 := by decide
set_option maxRecDepth 20000 in
theorem t_J1_charAt_3b067 {X : Mx} {i : Int32} (hw : w < 18) (hi : ¬ (i < 0 ∨ wN w ≤ i.toNatClampNeg)) : MtI g l yJ1_charAt_3b067 cJ1_charAt_3b067 2 (some .char) 2 43 [.ref (gV g w), .int i] σ X (wC w i, X) := by
  refine met_of mk_J1_charAt_3b067 (Nat.le_of_ble_eq_true rfl) (fun p e s m args below meth c ls C hW hl => ?_)
  have hx := C.x
  have hb := C.b
  have hl : lv_has ls 2 [(0, .ref (gV g w)), (1, .int i)] := hl
  have hsc := C.2.2.2.2.2
  have h0 : ¬ i < 0 := fun h => hi (Or.inl h)
  have hk : i.toNatClampNeg < wN w := Nat.not_le.mp fun h => hi (Or.inr h)
  have h1 : i < Int32.ofNat (wN w) := by
    apply Int32.lt_iff_toInt_lt.mpr
    have e1 := nI_toInt (wN_small w hw)
    unfold nI at e1
    rw [e1]
    have e2 : i.toInt = (i.toNatClampNeg : Int) := by
      have := Int32.not_lt.mp h0
      have := Int32.le_iff_toInt_le.mp this
      show i.toInt = ((i.toInt.toNat : Nat) : Int)
      simp at this
      omega
    omega
  refine lv_iload_n hx hb dJ1_charAt_3b067_0 rfl (lv_at hl 1 rfl) ?_
  refine lv_aload_n hx hb dJ1_charAt_3b067_1 rfl (lv_at hl 0 rfl) ?_
  refine va_tlen (v := Int32.ofNat (wN w)) hx hb (hsc.2.2.1 w hw).2.2.2 hW.2.2.1 rfl dJ1_charAt_3b067_2 ?_
  refine r_cV hW (run_S (rest := []) C hW (t_J0_checkIndex_df160 (X := X) h0 h1) mk_J0_checkIndex_df160 sk_J1_9 ⟨Nat.le_of_ble_eq_true rfl, Nat.le_of_ble_eq_true rfl⟩ ⟨Nat.zero_le _, Nat.zero_le _⟩ rfl rfl (Nat.le_of_ble_eq_true rfl) hl.1 dJ1_charAt_3b067_3) (fun H locs hW _ => ?_)
  refine lv_aload_n hx hb dJ1_charAt_3b067_6 rfl (lv_at hl 0 rfl) ?_
  refine lv_iload_n hx hb dJ1_charAt_3b067_7 rfl (lv_at hl 1 rfl) ?_
  refine va_tb (v := .int ((wB w).getD i.toNatClampNeg 0)) hx hb (hsc.2.2.1 w hw).2.2.2 hW.2.2.1 hi rfl dJ1_charAt_3b067_8 ?_
  refine lv_sipush (v := 255) hx hb dJ1_charAt_3b067_9 (by decide) ?_
  refine lv_iand hx hb dJ1_charAt_3b067_12 ?_
  refine lv_i2c (v := wC w i) hx hb dJ1_charAt_3b067_13 rfl ?_
  exact r_iret C hW rfl (wC_nar0 w hw _ hk) dJ1_charAt_3b067_14
set_option maxRecDepth 20000 in
theorem t_J0_charAt_5068e {X : Mx} {i : Int32} (hw : w < 18) (hi : ¬ (i < 0 ∨ wN w ≤ i.toNatClampNeg)) : MtI g l yJ0_charAt_5068e cJ0_charAt_5068e 2 (some .char) 3 64 [.ref (gS g w), .int i] σ X (wC w i, X) := by
  refine met_of mk_J0_charAt_5068e (Nat.le_of_ble_eq_true rfl) (fun p e s m args below meth c ls C hW hl => ?_)
  have hx := C.x
  have hb := C.b
  have hl : lv_has ls 2 [(0, .ref (gS g w)), (1, .int i)] := hl
  have hsc := C.2.2.2.2.2
  have hk : i.toNatClampNeg < wN w := Nat.not_le.mp fun h => hi (Or.inr h)
  refine lv_aload_n hx hb dJ0_charAt_5068e_0 rfl (lv_at hl 0 rfl) ?_
  refine r_cI hW (run_VS (rest := []) C hW (t_J0_isLatin1_aae02 (X := X) hw) mk_J0_isLatin1_aae02 vk_J0_492 hw rfl ⟨Nat.le_of_ble_eq_true rfl, Nat.le_of_ble_eq_true rfl⟩ ⟨Nat.zero_le _, Nat.zero_le _⟩ rfl rfl (Nat.le_of_ble_eq_true rfl) hl.1 dJ0_charAt_5068e_1) (fun H locs hW _ => ?_)
  refine lv_if_eq (tgt := 16) hx hb dJ0_charAt_5068e_4 (by decide) (fun h => absurd h (by decide)) (fun _ => ?_)
  refine lv_aload_n hx hb dJ0_charAt_5068e_7 rfl (lv_at hl 0 rfl) ?_
  refine vk_getf hx hb (hsc.2.2.1 w hw).2.2.1 hW.2.2.1 C.1.2.2.2.1 (C.1.2.2.2.2 _ lk_J0_9) (fun _ h => h) dJ0_charAt_5068e_8 ?_
  refine lv_iload_n hx hb dJ0_charAt_5068e_11 rfl (lv_at hl 1 rfl) ?_
  refine r_cI hW (run_S (rest := []) C hW (t_J1_charAt_3b067 (X := X) hw hi) mk_J1_charAt_3b067 sk_J0_495 ⟨Nat.le_of_ble_eq_true rfl, Nat.le_of_ble_eq_true rfl⟩ ⟨Nat.zero_le _, Nat.zero_le _⟩ rfl rfl (Nat.le_of_ble_eq_true rfl) hl.1 dJ0_charAt_5068e_12) (fun H locs hW _ => ?_)
  exact r_iret C hW rfl (wC_nar0 w hw _ hk) dJ0_charAt_5068e_15
theorem r_slen (C : Cx g own cc nL rt p s m args meth c) (hW : Wd g σ X s H locs) {cont : Int32 → Option ρ} (h : slen w cont = some r) (hv : vOK own idx yJ0_length_8abf5) (hR : 1 + 1 ≤ R.frames ∧ 8 + (1 + 11) + 20 ≤ R.locals) (hcs : cells ≤ R.cells ∧ slots ≤ R.slots) (hsz : (rest.map fun v => v.category).sum ≤ 8) (hls : ls.size = nL) (hdg : decode cc pc = .ok (.invokevirtual idx, 3))
    (kk : ∀ x H1 locs1, cont x = some r → Wd g σ X s H1 locs1 → H.size ≤ H1.size → W p l e R s m args below meth c H1 locs1 cells slots Q (F0 m (pc + 3) ls (.int x :: rest))) : W p l e R s m args below meth c H locs cells slots Q (F0 m pc ls (.ref (gS g w) :: rest)) := by
  obtain ⟨hw, h⟩ := if_inv h
  exact r_cI hW (run_VS (rest := rest) C hW (t_J0_length_8abf5 (X := X) hw) mk_J0_length_8abf5 hv hw rfl hR hcs rfl rfl hsz hls hdg) (fun H1 locs1 hW1 hz => kk _ _ _ h hW1 hz)
theorem r_schr (C : Cx g own cc nL rt p s m args meth c) (hW : Wd g σ X s H locs) {i : Int32} {cont : Int32 → Option ρ} (h : schr w i cont = some r) (hv : vOK own idx yJ0_charAt_5068e) (hR : 3 + 1 ≤ R.frames ∧ 8 + (2 + 11) + 64 ≤ R.locals) (hcs : cells ≤ R.cells ∧ slots ≤ R.slots) (hsz : (rest.map fun v => v.category).sum ≤ 8) (hls : ls.size = nL) (hdg : decode cc pc = .ok (.invokevirtual idx, 3))
    (kk : ∀ x H1 locs1, cont x = some r → Wd g σ X s H1 locs1 → H.size ≤ H1.size → W p l e R s m args below meth c H1 locs1 cells slots Q (F0 m (pc + 3) ls (.int x :: rest))) : W p l e R s m args below meth c H locs cells slots Q (F0 m pc ls (.int i :: .ref (gS g w) :: rest)) := by
  obtain ⟨⟨hw, hi⟩, h⟩ := if_inv h
  exact r_cI hW (run_VS (As := [.int i]) (rest := rest) C hW (t_J0_charAt_5068e (X := X) hw hi) mk_J0_charAt_5068e hv hw rfl hR hcs rfl rfl hsz hls hdg) (fun H1 locs1 hW1 hz => kk _ _ _ h hW1 hz)
end STRINGS
