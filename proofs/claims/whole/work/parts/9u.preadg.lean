theorem eArgs_d {σ τ : Sh} {X : Mx} {tp m e : Nat} {β : Nat → Nat} {s p v : Int32} (hp : tpOK σ tp) (hm : mdOK τ m) (h : RdC X tp e β) (hf : ¬ X.1 tp 4 = nI 0) : ∃ X2, eArgs σ tp s p v X = some X2 ∧ CD X X2 tp e β := by
  have e7 : ∀ (a b c : Int32) (X1 : Mx), RdC X1 tp e β → ¬ X1.1 tp 4 = nI 0 → ∃ X2, f_X7_readEdit_177 σ tp s p v a b c X1 = some X2 ∧ CD X1 X2 tp e β := fun a b c X1 h1 h2 => e177_d hp hm h1 h2
  unfold eArgs
  split
  · exact n177_d hp hm (fun a X1 h1 f1 => n177_d hp hm (fun b X2 h2 f2 => c177_d hp hm (fun c X3 h3 f3 => e7 a b c X3 h3 f3) h2 f2) h1 f1) h hf
  · split
    · exact n177_d hp hm (fun a X1 h1 f1 => e7 a _ _ X1 h1 f1) h hf
    · split
      · exact n177_d hp hm (fun a X1 h1 f1 => e7 a _ _ X1 h1 f1) h hf
      · split
        · exact n177_d hp hm (fun a X1 h1 f1 => t177_d hp hm (fun b X2 h2 f2 => e7 a b _ X2 h2 f2) h1 f1) h hf
        · split
          · exact n177_d hp hm (fun a X1 h1 f1 => a177_d hp hm (fun b X2 h2 f2 => e7 a b _ X2 h2 f2) h1 f1) h hf
          · split
            · exact a177_d hp hm (fun a X1 h1 f1 => t177_d hp hm (fun b X2 h2 f2 => e7 a b _ X2 h2 f2) h1 f1) h hf
            · exact n177_d hp hm (fun a X1 h1 f1 => e7 a _ _ X1 h1 f1) h hf
theorem edit_args {σ τ : Sh} {X Y : Mx} {tp m e st be k ed s0 : Nat} {β : Nat → Nat} {p : Int32} (hp : tpOK σ tp) (hm : mdOK τ m) (h : GdR X Y tp m e β st be) (hE : EdR X Y tp m k) (hs0 : s0 < 2) (he : ed < 7) : LnR X Y tp m e β be k (eArgs σ tp (nI s0) p (nI ed) X) ((if nI 13 < nI (howOf ed) then f_X10_readsEdit_72 τ m (nI s0) p (nI (howOf ed)) Y (nI 0) else f_X10_readsEdit_72 τ m (nI s0) p (nI (howOf ed)) Y (nI 1)).bind fun X5 => f_X10_line_188 τ m X5) := by
  have m0 := hm.1
  have e7 : ∀ (v a b c : Int32) (X1 : Mx), RdC X1 tp e β → ¬ X1.1 tp 4 = nI 0 → ∃ X2, f_X7_readEdit_177 σ tp (nI s0) p v a b c X1 = some X2 ∧ CD X1 X2 tp e β := fun v a b c X1 h1 h2 => e177_d hp hm h1 h2
  rcases (show ed = 0 ∨ ed = 1 ∨ ed = 2 ∨ ed = 3 ∨ ed = 4 ∨ ed = 5 ∨ ed = 6 by omega) with rfl | rfl | rfl | rfl | rfl | rfl | rfl
  · have cl : eArgs σ tp (nI s0) p (nI 0) X = bnd2 (f_X7_takeNumber σ X tp (nI 19)) fun v8 X7 => bnd2 (f_X7_takeNumber σ X7 tp (nI 9999)) fun v11 X10 => bnd2 (f_X7_takeCell σ X10 tp) fun v14 X13 => f_X7_readEdit_177 σ tp (nI s0) p (nI 0) v8 v11 v14 X13 := if_pos rfl
    have md : (if nI 13 < nI (howOf 0) then f_X10_readsEdit_72 τ m (nI s0) p (nI (howOf 0)) Y (nI 0) else f_X10_readsEdit_72 τ m (nI s0) p (nI (howOf 0)) Y (nI 1)) = bnd2 (f_X10_number τ Y m (nI 19)) fun a Y1 => bnd2 (f_X10_number τ Y1 m (nI 9999)) fun b Y2 => bnd2 (f_X10_cellOf τ Y2 m) fun c Y3 => f_X10_readsEdit_205 τ m (nI s0) p (nI (howOf 0)) a b Y3 c := rfl
    rw [cl, md]
    refine go_num hp hm h (by omega) (fun a X1 h1 f1 => n177_d hp hm (fun b X2 h2 f2 => c177_d hp hm (fun c X3 h3 f3 => e7 _ a b c X3 h3 f3) h2 f2) h1 f1) (fun u Y1 hd => by rw [numOf_d hm hd, bnd2_k, cellOf_d hm hd, bnd2_k, r205_d hm hd]) (fun a X1 Y1 st1 be1 t1 k1 _ g1 => ?_)
    refine go_num hp hm g1 (by omega) (fun b X2 h2 f2 => c177_d hp hm (fun c X3 h3 f3 => e7 _ _ b c X3 h3 f3) h2 f2) (fun u Y1 hd => by rw [cellOf_d hm hd, bnd2_k, r205_d hm hd]) (fun b X2 Y2 st2 be2 t2 k2 _ g2 => ?_)
    refine go_cell hp hm g2 (fun c X3 h3 f3 => e7 _ _ _ c X3 h3 f3) (fun u Y1 hd => r205_d hm hd) (fun c X3 Y3 st3 be3 t3 k3 _ g3 => ?_)
    exact edit_end hp hm g3 (((hE.tk t1 k1).tk t2 k2).tk t3 k3) hs0 he
  · have cl : eArgs σ tp (nI s0) p (nI 1) X = bnd2 (f_X7_takeNumber σ X tp (nI 19)) fun v17 X16 => f_X7_readEdit_177 σ tp (nI s0) p (nI 1) v17 (nI 0) (nI 0) X16 := rfl
    have md : (if nI 13 < nI (howOf 1) then f_X10_readsEdit_72 τ m (nI s0) p (nI (howOf 1)) Y (nI 0) else f_X10_readsEdit_72 τ m (nI s0) p (nI (howOf 1)) Y (nI 1)) = bnd2 (f_X10_number τ Y m (nI 19)) fun a Y1 => f_X10_readsEdit_205 τ m (nI s0) p (nI (howOf 1)) a (nI 0) Y1 (nI 0) := rfl
    rw [cl, md]
    refine go_num hp hm h (by omega) (fun a X1 h1 f1 => e7 _ a _ _ X1 h1 f1) (fun u Y1 hd => r205_d hm hd) (fun a X1 Y1 st1 be1 t1 k1 _ g1 => ?_)
    exact edit_end hp hm g1 (hE.tk t1 k1) hs0 he
  · have cl : eArgs σ tp (nI s0) p (nI 2) X = bnd2 (f_X7_takeNumber σ X tp (nI 19)) fun v17 X16 => f_X7_readEdit_177 σ tp (nI s0) p (nI 2) v17 (nI 0) (nI 0) X16 := rfl
    have md : (if nI 13 < nI (howOf 2) then f_X10_readsEdit_72 τ m (nI s0) p (nI (howOf 2)) Y (nI 0) else f_X10_readsEdit_72 τ m (nI s0) p (nI (howOf 2)) Y (nI 1)) = bnd2 (f_X10_number τ Y m (nI 19)) fun a Y1 => f_X10_readsEdit_205 τ m (nI s0) p (nI (howOf 2)) a (nI 0) Y1 (nI 0) := rfl
    rw [cl, md]
    refine go_num hp hm h (by omega) (fun a X1 h1 f1 => e7 _ a _ _ X1 h1 f1) (fun u Y1 hd => r205_d hm hd) (fun a X1 Y1 st1 be1 t1 k1 _ g1 => ?_)
    exact edit_end hp hm g1 (hE.tk t1 k1) hs0 he
  · have cl : eArgs σ tp (nI s0) p (nI 3) X = bnd2 (f_X7_takeNumber σ X tp (nI 9999)) fun v23 X22 => bnd2 (f_X7_takeType σ X22 tp) fun v26 X25 => f_X7_readEdit_177 σ tp (nI s0) p (nI 3) v23 v26 (nI 0) X25 := rfl
    have md : (if nI 13 < nI (howOf 3) then f_X10_readsEdit_72 τ m (nI s0) p (nI (howOf 3)) Y (nI 0) else f_X10_readsEdit_72 τ m (nI s0) p (nI (howOf 3)) Y (nI 1)) = bnd2 (f_X10_number τ Y m (nI 9999)) fun a Y1 => bnd2 (f_X10_typeOf τ Y1 m) fun b Y2 => f_X10_readsEdit_205 τ m (nI s0) p (nI (howOf 3)) a b Y2 (nI 0) := rfl
    rw [cl, md]
    refine go_num hp hm h (by omega) (fun a X1 h1 f1 => t177_d hp hm (fun b X2 h2 f2 => e7 _ a b _ X2 h2 f2) h1 f1) (fun u Y1 hd => by rw [typeOf_d hm hd, bnd2_k, r205_d hm hd]) (fun a X1 Y1 st1 be1 t1 k1 _ g1 => ?_)
    refine go_type hp hm g1 (fun b X2 h2 f2 => e7 _ _ b _ X2 h2 f2) (fun u Y1 hd => r205_d hm hd) (fun b X2 Y2 st2 be2 t2 k2 _ g2 => ?_)
    exact edit_end hp hm g2 ((hE.tk t1 k1).tk t2 k2) hs0 he
  · have cl : eArgs σ tp (nI s0) p (nI 4) X = bnd2 (f_X7_takeNumber σ X tp (nI 9999)) fun v23 X22 => bnd2 (f_X7_takeName σ X22 tp) fun v26 X25 => f_X7_readEdit_177 σ tp (nI s0) p (nI 4) v23 v26 (nI 0) X25 := rfl
    have md : (if nI 13 < nI (howOf 4) then f_X10_readsEdit_72 τ m (nI s0) p (nI (howOf 4)) Y (nI 0) else f_X10_readsEdit_72 τ m (nI s0) p (nI (howOf 4)) Y (nI 1)) = bnd2 (f_X10_number τ Y m (nI 9999)) fun a Y1 => bnd2 (f_X10_nameHere τ Y1 m) fun b Y2 => (f_X10_isGood τ Y2 m).bind fun v2 => (if v2 = nI 0 then f_X10_readsEdit_205 τ m (nI s0) p (nI (howOf 4)) a b Y2 (nI 0) else (f_X10_goes τ Y2 m).bind fun X4 => f_X10_readsEdit_205 τ m (nI s0) p (nI (howOf 4)) a b X4 (nI 0)) := rfl
    rw [cl, md]
    refine go_num hp hm h (by omega) (fun a X1 h1 f1 => a177_d hp hm (fun b X2 h2 f2 => e7 _ a b _ X2 h2 f2) h1 f1) (fun u Y1 hd => by
      obtain ⟨v, ev⟩ := nameOf_d hm hd
      rw [ev, bnd2_k, m_good_f hm hd, Option.bind_some, if_pos rfl, r205_d hm hd]) (fun a X1 Y1 st1 be1 t1 k1 _ g1 => ?_)
    refine go_name (J2 := fun b Y2 => f_X10_readsEdit_205 τ m (nI s0) p (nI (howOf 4)) (nI a) b Y2 (nI 0)) hp hm g1 (fun b X2 h2 f2 => e7 _ _ b _ X2 h2 f2) (fun u Y1 hd => by rw [m_good_f hm hd, Option.bind_some, if_pos rfl, r205_d hm hd]) (fun u Y1 Y2 h3 hgo => by rw [m_good_t hm h3, Option.bind_some, if_neg (by decide), hgo, Option.bind_some]) (fun b X2 Y2 st2 be2 t2 k2 _ g2 => ?_)
    exact edit_end hp hm g2 ((hE.tk t1 k1).tk t2 k2) hs0 he
  · have cl : eArgs σ tp (nI s0) p (nI 5) X = bnd2 (f_X7_takeName σ X tp) fun v23 X22 => bnd2 (f_X7_takeType σ X22 tp) fun v26 X25 => f_X7_readEdit_177 σ tp (nI s0) p (nI 5) v23 v26 (nI 0) X25 := rfl
    have md : (if nI 13 < nI (howOf 5) then f_X10_readsEdit_72 τ m (nI s0) p (nI (howOf 5)) Y (nI 0) else f_X10_readsEdit_72 τ m (nI s0) p (nI (howOf 5)) Y (nI 1)) = bnd2 (f_X10_nameHere τ Y m) fun a Y1 => (f_X10_isGood τ Y1 m).bind fun v2 => (if v2 = nI 0 then bnd2 (f_X10_typeOf τ Y1 m) fun b Y2 => f_X10_readsEdit_205 τ m (nI s0) p (nI (howOf 5)) a b Y2 (nI 0) else (f_X10_goes τ Y1 m).bind fun X4 => bnd2 (f_X10_typeOf τ X4 m) fun b Y2 => f_X10_readsEdit_205 τ m (nI s0) p (nI (howOf 5)) a b Y2 (nI 0)) := rfl
    rw [cl, md]
    refine go_name (J2 := fun a Y1 => bnd2 (f_X10_typeOf τ Y1 m) fun b Y2 => f_X10_readsEdit_205 τ m (nI s0) p (nI (howOf 5)) a b Y2 (nI 0)) hp hm h (fun a X1 h1 f1 => t177_d hp hm (fun b X2 h2 f2 => e7 _ a b _ X2 h2 f2) h1 f1) (fun u Y1 hd => by rw [m_good_f hm hd, Option.bind_some, if_pos rfl, typeOf_d hm hd, bnd2_k, r205_d hm hd]) (fun u Y1 Y2 h3 hgo => by rw [m_good_t hm h3, Option.bind_some, if_neg (by decide), hgo, Option.bind_some]) (fun a X1 Y1 st1 be1 t1 k1 _ g1 => ?_)
    refine go_type hp hm g1 (fun b X2 h2 f2 => e7 _ _ b _ X2 h2 f2) (fun u Y1 hd => r205_d hm hd) (fun b X2 Y2 st2 be2 t2 k2 _ g2 => ?_)
    exact edit_end hp hm g2 ((hE.tk t1 k1).tk t2 k2) hs0 he
  · have cl : eArgs σ tp (nI s0) p (nI 6) X = bnd2 (f_X7_takeNumber σ X tp (nI 9999)) fun v17 X16 => f_X7_readEdit_177 σ tp (nI s0) p (nI 6) v17 (nI 0) (nI 0) X16 := rfl
    have md : (if nI 13 < nI (howOf 6) then f_X10_readsEdit_72 τ m (nI s0) p (nI (howOf 6)) Y (nI 0) else f_X10_readsEdit_72 τ m (nI s0) p (nI (howOf 6)) Y (nI 1)) = bnd2 (f_X10_number τ Y m (nI 9999)) fun a Y1 => f_X10_readsEdit_205 τ m (nI s0) p (nI (howOf 6)) a (nI 0) Y1 (nI 0) := rfl
    rw [cl, md]
    refine go_num hp hm h (by omega) (fun a X1 h1 f1 => e7 _ a _ _ X1 h1 f1) (fun u Y1 hd => r205_d hm hd) (fun a X1 Y1 st1 be1 t1 k1 _ g1 => ?_)
    exact edit_end hp hm g1 (hE.tk t1 k1) hs0 he
theorem edit_line {σ τ : Sh} {X Y : Mx} {tp m e st be k s0 : Nat} {β : Nat → Nat} (hp : tpOK σ tp) (hm : mdOK τ m) (h : GdR X Y tp m e β st be) (hT : Told X Y tp m k) (hk : k < 30000) (hs0 : s0 < 2) : LnR X Y tp m e β be (k + 1) (f_X7_readEdit σ X tp (nI s0)) ((f_X10_readsEdit τ Y m (nI s0)).bind fun X5 => f_X10_line_188 τ m X5) := by
  have t0 := hp.1
  have t2 : shR σ tp 2 = some (tp + 2) := hp.2.2.1
  have m0 := hm.1
  have x7 : X.1 tp 7 = nI st := h.2.2.2.2.2.2.2.1
  have y9 : Y.1 m 9 = nI st := h.2.2.2.2.2.2.2.2.2.1
  -- the edits begin
  have beg : ∃ X1 Y1, f_X7_readEdit σ X tp (nI s0) = f_X7_readEdit_24 σ tp (nI s0) (nI st) X1 ∧ f_X10_readsEdit τ Y m (nI s0) = ((f_X10_goes τ Y1 m).bind fun X4 => (f_X10_knownWord τ X4 m).bind fun v6 => (if nI 11 ≤ v6 then f_X10_readsEdit_49 τ m (nI s0) (nI st) v6 X4 else (f_X10_wrong τ X4 m (nI 1)).bind fun X8 => f_X10_readsEdit_49 τ m (nI s0) (nI st) v6 X8)) ∧ LF X X1 tp ∧ LM Y Y1 m ∧ GdR X1 Y1 tp m e β st be ∧ EdR X1 Y1 tp m (k + 1) := by
    rcases hT with ⟨nc, nr, d, hB⟩ | hE
    · obtain ⟨X1, Y1, a1, a2, a3, a4, a5, a6, a7, a8⟩ := hB.sides hp hm
      have x10 : X.1 tp 10 = nI 0 := hB.2.2.2.2.2.2.2.2.1
      have y16 : Y.1 m 16 = nI 0 := hB.2.2.2.2.2.2.2.2.2.1
      have y16' : Y1.1 m 16 = nI 0 := by rw [a6 m (by omega)]; exact y16
      refine ⟨sI X1 tp 10 (nI 1), sI Y1 m 16 (nI 1), ?_, ?_, ⟨a3, fun r c1 c2 => by rw [sI_ne c1, a4 r (by omega) (by omega) (by omega)], by rw [sI_nk (by omega), a4 tp (by omega) (by omega) (by omega)]⟩, ⟨fun r _ => by rw [sI_2, a5], fun r c1 c2 => by rw [sI_ne c1, a6 r c2], fun j hj => by rw [sI_nk (by omega), a6 m (by omega)], fun j hj => by rw [sI_na (by omega)]; exact a7 j hj⟩, ?_, ?_⟩
      · unfold f_X7_readEdit
        simp only [litM]
        rw [grd_t t0, ldI_t t0, ldI_t t0, x7, x10, if_pos rfl]
        simp only [ldR, t0, t2, if_true, Option.bind_some]
        rw [a1, Option.bind_some, stI_t t0]
      · unfold f_X10_readsEdit f_X10_readsEdit_19
        simp only [litM]
        rw [grd_t m0, ldI_t m0, ldI_t m0, y9, y16, if_pos rfl, a2, Option.bind_some, ldI_t m0, y16', stI_t m0, nI_add]
      · exact h.fr (by rw [sI_ne (by omega), a4 _ (by omega) (by omega) (by omega)]) (fun j _ _ => by rw [sI_nk (by omega), a4 tp (by omega) (by omega) (by omega)]) (by rw [sI_ne (by omega), a6 _ (by omega)]) (fun j hj => by rw [sI_nk (by omega), a6 m (by omega)]) (by rw [sI_2, a5])
      · exact ⟨a8.fr (Or.inl ⟨rfl, rfl⟩) (fun q c1 c2 => sI_ne (by omega)) (fun j _ => by rw [sI_ne (by omega)]), sI_eq, 1, by omega, by omega, sI_eq⟩
    · obtain ⟨a1, x10, ec, e1, e2, y16⟩ := hE
      refine ⟨X, sI Y m 16 (nI (ec + 1)), ?_, ?_, LF.refl, ⟨fun _ _ => rfl, fun r c1 _ => sI_ne c1, fun j hj => sI_nk (by omega), fun j _ => sI_na (by omega)⟩, ?_, ?_⟩
      · unfold f_X7_readEdit
        simp only [litM]
        rw [grd_t t0, ldI_t t0, ldI_t t0, x7, x10, if_neg (by decide)]
      · unfold f_X10_readsEdit f_X10_readsEdit_19
        simp only [litM]
        rw [grd_t m0, ldI_t m0, ldI_t m0, y9, y16, if_neg (nI_ne (by omega) (by omega) (by omega)), ldI_t m0, y16, stI_t m0, nI_add]
      · exact h.fr rfl (fun _ _ _ => rfl) (sI_ne (by omega)) (fun j hj => sI_nk (by omega)) rfl
      · exact ⟨a1.fr (Or.inl ⟨rfl, rfl⟩) (fun q c1 c2 => rfl) (fun j _ => by rw [sI_ne (by omega)]), x10, ec + 1, by omega, by omega, sI_eq⟩
  obtain ⟨X1, Y1, b1, b2, b3, b4, b5, b6⟩ := beg
  obtain ⟨X2, Y2, c1, c2, c3, c4, st2, be2, c5, c6⟩ := step_ok hp hm b5
  have hE2 := b6.tk c3 c4
  have r2 := c6.2.2.2.2.2.1
  have cl : f_X7_readEdit σ X tp (nI s0) = bnd2 (f_X7_takeEditWord σ X2 tp) fun v5 X4 => eArgs σ tp (nI s0) (nI st) v5 X4 := by
    rw [b1]
    unfold f_X7_readEdit_24
    simp only [litM]
    rw [c1, Option.bind_some]
    rfl
  rw [c2, Option.bind_some] at b2
  obtain ⟨Xd, Yd, d1, d2, d3⟩ := die_no (f := 1) hp hm c6 (by omega) (by omega)
  have e98 : f_X7_takeEditWord_98 σ tp (-(nI 1)) X2 = some (-(nI 1), Xd) := by
    unfold f_X7_takeEditWord_98
    simp only [litM]
    rw [if_pos trivial, ldI_t t0, d1, bnd2_k]
  have dead : f_X7_takeEditWord σ X2 tp = some (-(nI 1), Xd) → ∀ v6, f_X10_knownWord τ Y2 m = some v6 → ¬ nI 11 ≤ v6 → LnR X Y tp m e β be (k + 1) (f_X7_readEdit σ X tp (nI s0)) ((f_X10_readsEdit τ Y m (nI s0)).bind fun X5 => f_X10_line_188 τ m X5) := by
    intro hw v6 hk6 h11
    obtain ⟨X3, q1, q2⟩ := eArgs_d (s := nI s0) (p := nI st) (v := -(nI 1)) hp hm d3.2.2.1 d3.2.2.nx
    refine ⟨X3, Yd, by rw [cl, hw, bnd2_k, q1], ?_, b3.trans ((c3.trans d3.1).trans q2.1).lf, b4.trans (c4.trans d3.2.1).lm, Or.inr (d3.2.2.cd q2)⟩
    rw [b2, hk6, Option.bind_some, if_neg h11, d2, Option.bind_some]
    unfold f_X10_readsEdit_49
    simp only [litM]
    rw [m_good_f hm d3.2.2.ny, Option.bind_some, if_pos rfl, Option.bind_some, line188_d hm d3.2.2.ny]
  have wd : ∀ w, (∀ w', w' < 18 → f_X7_isWord σ X2 tp w' = some (bI (decide (w' = w)))) → f_X7_takeEditWord σ X2 tp = (if w = 7 then f_X7_takeEditWord_98 σ tp (nI 0) X2 else if w = 8 then f_X7_takeEditWord_98 σ tp (nI 1) X2 else if w = 9 then f_X7_takeEditWord_98 σ tp (nI 2) X2 else if w = 10 then f_X7_takeEditWord_98 σ tp (nI 4) X2 else if w = 11 then f_X7_takeEditWord_98 σ tp (nI 3) X2 else if w = 12 then f_X7_takeEditWord_98 σ tp (nI 5) X2 else if w = 13 then f_X7_takeEditWord_98 σ tp (nI 6) X2 else f_X7_takeEditWord_98 σ tp (-(nI 1)) X2) := fun w hw => by
    have z : ∀ w', (bI (decide (w' = w)) = nI 0) = ¬ (w = w') := fun w' => by
      rw [bI_z]
      exact propext ⟨fun q e => of_decide_eq_false q e.symm, fun q => decide_eq_false (fun e => q e.symm)⟩
    unfold f_X7_takeEditWord
    simp only [litM]
    rw [grd_t t0, hw 7 (by omega), Option.bind_some, hw 8 (by omega), Option.bind_some, hw 9 (by omega), Option.bind_some, hw 10 (by omega), Option.bind_some, hw 11 (by omega), Option.bind_some, hw 12 (by omega), Option.bind_some, hw 13 (by omega), Option.bind_some]
    have sw : ∀ (w' : Nat) (x y : Option (Int32 × Mx)), (if bI (decide (w' = w)) = nI 0 then x else y) = if w = w' then y else x := fun w' x y => by
      by_cases q : w = w'
      · rw [if_pos q, if_neg (by rw [z]; exact fun h => h q)]
      · rw [if_neg q, if_pos (by rw [z]; exact q)]
    rw [sw 7, sw 8, sw 9, sw 10, sw 11, sw 12, sw 13]
  rcases known_both hp hm c6.1 c6.2.2.2.2.2 with ⟨i, hi, k1, k2⟩ | ⟨k1, k2⟩
  · by_cases q : 11 ≤ i
    · have fin : ∀ ed, ed < 7 → howOf ed = i → f_X7_takeEditWord σ X2 tp = f_X7_takeEditWord_98 σ tp (nI ed) X2 → LnR X Y tp m e β be (k + 1) (f_X7_readEdit σ X tp (nI s0)) ((f_X10_readsEdit τ Y m (nI s0)).bind fun X5 => f_X10_line_188 τ m X5) := by
        intro ed he hho hw
        obtain ⟨X3, Y3, s1, s2, s3, s4, st3, be3, s5, s6⟩ := step_ok hp hm c6
        have r3 := s6.2.2.2.2.2.1
        have hw2 : f_X7_takeEditWord σ X2 tp = some (nI ed, X3) := by
          rw [hw]
          unfold f_X7_takeEditWord_98 f_X7_passed
          simp only [litM]
          rw [if_neg (by rw [m_eq (by omega)]; exact not_false), grd_t t0, s1, Option.bind_some, bnd2_k]
        have md : f_X10_readsEdit τ Y m (nI s0) = (if nI 13 < nI (howOf ed) then f_X10_readsEdit_72 τ m (nI s0) (nI st) (nI (howOf ed)) Y3 (nI 0) else f_X10_readsEdit_72 τ m (nI s0) (nI st) (nI (howOf ed)) Y3 (nI 1)) := by
          rw [b2, k1, Option.bind_some, if_pos (by rw [n_le (by omega) (by omega)]; exact q), hho]
          unfold f_X10_readsEdit_49
          simp only [litM]
          rw [m_good_t hm c6.2.2.2.2.1, Option.bind_some, if_neg (show ¬ nI 1 = nI 0 by decide), s2, Option.bind_some]
        rw [cl, hw2, bnd2_k, md]
        obtain ⟨X4, Y4, f1, f2, f3, f4, f5⟩ := edit_args (k := k + 1) (p := nI st) hp hm s6 (hE2.tk s3 s4) hs0 he
        refine ⟨X4, Y4, f1, f2, (b3.trans (c3.trans s3).lf).trans f3, (b4.trans (c4.trans s4).lm).trans f4, ?_⟩
        rcases f5 with ⟨s, b, f6, f7⟩ | f5
        · exact Or.inl ⟨s, b, by omega, f7⟩
        · exact Or.inr f5
      have hw := wd _ k2
      rcases (show i = 11 ∨ i = 12 ∨ i = 13 ∨ i = 14 ∨ i = 15 ∨ i = 16 ∨ i = 17 by omega) with rfl | rfl | rfl | rfl | rfl | rfl | rfl
      · exact fin 0 (by omega) rfl hw
      · exact fin 1 (by omega) rfl hw
      · exact fin 2 (by omega) rfl hw
      · exact fin 4 (by omega) rfl hw
      · exact fin 3 (by omega) rfl hw
      · exact fin 5 (by omega) rfl hw
      · exact fin 6 (by omega) rfl hw
    · have hw := wd _ k2
      have pi : ∀ n, 7 ≤ n → n ≤ 13 → ¬ pw i = n := fun n h1 h2 => by unfold pw; split <;> omega
      rw [if_neg (pi 7 (by omega) (by omega)), if_neg (pi 8 (by omega) (by omega)), if_neg (pi 9 (by omega) (by omega)), if_neg (pi 10 (by omega) (by omega)), if_neg (pi 11 (by omega) (by omega)), if_neg (pi 12 (by omega) (by omega)), if_neg (pi 13 (by omega) (by omega)), e98] at hw
      exact dead hw _ k1 (by rw [n_le (by omega) (by omega)]; exact q)
  · refine dead ?_ _ k1 (by decide)
    unfold f_X7_takeEditWord
    simp only [litM]
    rw [grd_t t0, k2 7 (by omega), Option.bind_some, if_pos rfl, k2 8 (by omega), Option.bind_some, if_pos rfl, k2 9 (by omega), Option.bind_some, if_pos rfl, k2 10 (by omega), Option.bind_some, if_pos rfl, k2 11 (by omega), Option.bind_some, if_pos rfl, k2 12 (by omega), Option.bind_some, if_pos rfl, k2 13 (by omega), Option.bind_some, if_pos rfl, e98]
