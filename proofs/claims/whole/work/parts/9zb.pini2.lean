/-! ===== the start (written by gen_new2.py) ===== -/
def POb (s : Nat) (σ : Sh) (X : Mx) : Prop := ((shK σ s = 7 ∧ shR σ s 0 = some (s + 1) ∧ shR σ s 1 = some (s + 18) ∧ shR σ s 2 = some (s + 28) ∧ shR σ s 3 = some (s + 47) ∧ shR σ s 4 = some (s + 49) ∧ shR σ s 5 = some (s + 53) ∧ shR σ s 6 = some (s + 84) ∧ shR σ s 7 = some (s + 101) ∧ shR σ s 8 = some (s + 103) ∧ shR σ s 12 = some (s + 107)) ∧ mgOK σ (s + 18) ∧ tpOK σ (s + 28) ∧ acOK σ (s + 47) ∧ snOK σ (s + 49) ∧ quOK σ (s + 53) ∧ stOK σ (s + 84) (s + 84 + 5) (s + 84 + 9) ∧ acOK σ (s + 101) ∧ snOK σ (s + 103) ∧ (shK σ (s + 107) = 10 ∧ shN σ (s + 107) = 3)) ∧ stOK σ (s + 1) (s + 1 + 5) (s + 1 + 9) ∧ (∀ i, shR σ (s + 48) i = none) ∧ (∀ i, shR σ (s + 102) i = none) ∧
  (∀ j, X.1 (s + 1) j = nI 0) ∧ (∀ t, (t = s + 1 + 1 ∨ t = s + 1 + 5 ∨ t = s + 1 + 9) → X.1 t 0 = nI 0 ∧ X.1 t 1 = nI 0 ∧ ∀ j, j < 180 → X.1 (t + 3) j = nI 9999) ∧ (∀ j, j < 316 → X.1 (s + 1 + 16) j = -(nI 1)) ∧ X.1 (s + 28) 1 = nI 0 ∧ (∀ j, X.1 (s + 47) j = nI 0) ∧ (∀ j, X.1 (s + 49) j = nI 0) ∧ (∀ j, X.1 (s + 81) j = nI 0) ∧ (∀ j, X.1 (s + 101) j = nI 0) ∧ (∀ j, X.1 (s + 107) j = nI 0) ∧ (∀ j, j ≠ 11 → X.1 s j = nI 0) ∧ X.1 s 11 = -(nI 1)
set_option maxRecDepth 4000 in
theorem ob_new {s : Nat} (σ : Sh) (X : Mx) (hK : shK σ s = 7) (hx : ∀ j, X.1 s j = nI 0) : ∃ σ1 X1, f_X9_init σ X (s + 1) s = some ((), σ1, X1, 107, 7367) ∧ NwF σ σ1 X X1 s (s + 107) ∧ POb s σ1 X1 := by
  obtain ⟨σ1, X1, e1, p1, τ1, o1, g1⟩ := obj_put (σ := σ) (X := X) (s := s) (t := s + 1) (f := 0) (ci := 7) (P := PSt (s + 1)) (st_new' (s := s + 1)) hK (by omega)
  have K1 : shK σ1 s = 7 := (p1.knd (by omega)).trans hK
  obtain ⟨σ2, X2, e2, p2, τ2, o2, g2⟩ := obj_put (σ := σ1) (X := X1) (s := s) (t := s + 1 + 1 + 16) (f := 1) (ci := 7) (P := PMg (s + 1 + 1 + 16)) (mg_new (s := s + 1 + 1 + 16)) K1 (by omega)
  have K2 : shK σ2 s = 7 := (p2.knd (by omega)).trans K1
  obtain ⟨σ3, X3, e3, p3, τ3, o3, g3⟩ := obj_put (σ := σ2) (X := X2) (s := s) (t := s + 1 + 1 + 16 + 1 + 9) (f := 2) (ci := 7) (P := PTp (s + 1 + 1 + 16 + 1 + 9)) (tp_new (s := s + 1 + 1 + 16 + 1 + 9)) K2 (by omega)
  have K3 : shK σ3 s = 7 := (p3.knd (by omega)).trans K2
  obtain ⟨σ4, X4, e4, p4, τ4, o4, g4⟩ := obj_put (σ := σ3) (X := X3) (s := s) (t := s + 1 + 1 + 16 + 1 + 9 + 1 + 18) (f := 3) (ci := 7) (P := PAc (s + 1 + 1 + 16 + 1 + 9 + 1 + 18)) (ac_new (s := s + 1 + 1 + 16 + 1 + 9 + 1 + 18)) K3 (by omega)
  have K4 : shK σ4 s = 7 := (p4.knd (by omega)).trans K3
  obtain ⟨σ5, X5, e5, p5, τ5, o5, g5⟩ := obj_put (σ := σ4) (X := X4) (s := s) (t := s + 1 + 1 + 16 + 1 + 9 + 1 + 18 + 1 + 1) (f := 4) (ci := 7) (P := PSn (s + 1 + 1 + 16 + 1 + 9 + 1 + 18 + 1 + 1)) (sn_new (s := s + 1 + 1 + 16 + 1 + 9 + 1 + 18 + 1 + 1)) K4 (by omega)
  have K5 : shK σ5 s = 7 := (p5.knd (by omega)).trans K4
  obtain ⟨σ6, X6, e6, p6, τ6, o6, g6⟩ := obj_put (σ := σ5) (X := X5) (s := s) (t := s + 1 + 1 + 16 + 1 + 9 + 1 + 18 + 1 + 1 + 1 + 3) (f := 5) (ci := 7) (P := PQu (s + 1 + 1 + 16 + 1 + 9 + 1 + 18 + 1 + 1 + 1 + 3)) (qu_new (s := s + 1 + 1 + 16 + 1 + 9 + 1 + 18 + 1 + 1 + 1 + 3)) K5 (by omega)
  have K6 : shK σ6 s = 7 := (p6.knd (by omega)).trans K5
  obtain ⟨σ7, X7, e7, p7, τ7, o7, g7⟩ := obj_put (σ := σ6) (X := X6) (s := s) (t := s + 1 + 1 + 16 + 1 + 9 + 1 + 18 + 1 + 1 + 1 + 3 + 1 + 30) (f := 6) (ci := 7) (P := PSt (s + 1 + 1 + 16 + 1 + 9 + 1 + 18 + 1 + 1 + 1 + 3 + 1 + 30)) (st_new' (s := s + 1 + 1 + 16 + 1 + 9 + 1 + 18 + 1 + 1 + 1 + 3 + 1 + 30)) K6 (by omega)
  have K7 : shK σ7 s = 7 := (p7.knd (by omega)).trans K6
  obtain ⟨σ8, X8, e8, p8, τ8, o8, g8⟩ := obj_put (σ := σ7) (X := X7) (s := s) (t := s + 1 + 1 + 16 + 1 + 9 + 1 + 18 + 1 + 1 + 1 + 3 + 1 + 30 + 1 + 16) (f := 7) (ci := 7) (P := PAc (s + 1 + 1 + 16 + 1 + 9 + 1 + 18 + 1 + 1 + 1 + 3 + 1 + 30 + 1 + 16)) (ac_new (s := s + 1 + 1 + 16 + 1 + 9 + 1 + 18 + 1 + 1 + 1 + 3 + 1 + 30 + 1 + 16)) K7 (by omega)
  have K8 : shK σ8 s = 7 := (p8.knd (by omega)).trans K7
  obtain ⟨σ9, X9, e9, p9, τ9, o9, g9⟩ := obj_put (σ := σ8) (X := X8) (s := s) (t := s + 1 + 1 + 16 + 1 + 9 + 1 + 18 + 1 + 1 + 1 + 3 + 1 + 30 + 1 + 16 + 1 + 1) (f := 8) (ci := 7) (P := PSn (s + 1 + 1 + 16 + 1 + 9 + 1 + 18 + 1 + 1 + 1 + 3 + 1 + 30 + 1 + 16 + 1 + 1)) (sn_new (s := s + 1 + 1 + 16 + 1 + 9 + 1 + 18 + 1 + 1 + 1 + 3 + 1 + 30 + 1 + 16 + 1 + 1)) K8 (by omega)
  have K9 : shK σ9 s = 7 := (p9.knd (by omega)).trans K8
  obtain ⟨X9b, hX9b⟩ : ∃ X9b, X9b = sI X9 s 11 (-(nI 1)) := ⟨_, rfl⟩
  obtain ⟨σ10, X10, e10, q10, n10, p10, x10, w10⟩ := arr_putK (σ := σ9) (X := X9b) (s := s) (t := s + 1 + 1 + 16 + 1 + 9 + 1 + 18 + 1 + 1 + 1 + 3 + 1 + 30 + 1 + 16 + 1 + 1 + 1 + 3) (f := 12) (ci := 7) (n := 3) (kd := 10) (by omega) K9 (by omega)
  have K10 : shK σ10 s = 7 := (p10.knd (by omega)).trans K9
  have G1 : SEq τ1 σ10 (s + 1) (s + 1 + 16) := SEq.trans g1 ((((((((((p2.seq (by omega) (by omega) : SEq σ1 σ2 (s + 1) (s + 1 + 16)).trans (p3.seq (by omega) (by omega))).trans (p4.seq (by omega) (by omega))).trans (p5.seq (by omega) (by omega))).trans (p6.seq (by omega) (by omega))).trans (p7.seq (by omega) (by omega))).trans (p8.seq (by omega) (by omega))).trans (p9.seq (by omega) (by omega))).trans (p10.seq (by omega) (by omega))))
  have G2 : SEq τ2 σ10 (s + 18) (s + 18 + 9) := SEq.trans g2 (((((((((p3.seq (by omega) (by omega) : SEq σ2 σ3 (s + 18) (s + 18 + 9)).trans (p4.seq (by omega) (by omega))).trans (p5.seq (by omega) (by omega))).trans (p6.seq (by omega) (by omega))).trans (p7.seq (by omega) (by omega))).trans (p8.seq (by omega) (by omega))).trans (p9.seq (by omega) (by omega))).trans (p10.seq (by omega) (by omega))))
  have G3 : SEq τ3 σ10 (s + 28) (s + 28 + 18) := SEq.trans g3 ((((((((p4.seq (by omega) (by omega) : SEq σ3 σ4 (s + 28) (s + 28 + 18)).trans (p5.seq (by omega) (by omega))).trans (p6.seq (by omega) (by omega))).trans (p7.seq (by omega) (by omega))).trans (p8.seq (by omega) (by omega))).trans (p9.seq (by omega) (by omega))).trans (p10.seq (by omega) (by omega))))
  have G4 : SEq τ4 σ10 (s + 47) (s + 47 + 1) := SEq.trans g4 (((((((p5.seq (by omega) (by omega) : SEq σ4 σ5 (s + 47) (s + 47 + 1)).trans (p6.seq (by omega) (by omega))).trans (p7.seq (by omega) (by omega))).trans (p8.seq (by omega) (by omega))).trans (p9.seq (by omega) (by omega))).trans (p10.seq (by omega) (by omega))))
  have G5 : SEq τ5 σ10 (s + 49) (s + 49 + 3) := SEq.trans g5 ((((((p6.seq (by omega) (by omega) : SEq σ5 σ6 (s + 49) (s + 49 + 3)).trans (p7.seq (by omega) (by omega))).trans (p8.seq (by omega) (by omega))).trans (p9.seq (by omega) (by omega))).trans (p10.seq (by omega) (by omega))))
  have G6 : SEq τ6 σ10 (s + 53) (s + 53 + 30) := SEq.trans g6 (((((p7.seq (by omega) (by omega) : SEq σ6 σ7 (s + 53) (s + 53 + 30)).trans (p8.seq (by omega) (by omega))).trans (p9.seq (by omega) (by omega))).trans (p10.seq (by omega) (by omega))))
  have G7 : SEq τ7 σ10 (s + 84) (s + 84 + 16) := SEq.trans g7 ((((p8.seq (by omega) (by omega) : SEq σ7 σ8 (s + 84) (s + 84 + 16)).trans (p9.seq (by omega) (by omega))).trans (p10.seq (by omega) (by omega))))
  have G8 : SEq τ8 σ10 (s + 101) (s + 101 + 1) := SEq.trans g8 (((p9.seq (by omega) (by omega) : SEq σ8 σ9 (s + 101) (s + 101 + 1)).trans (p10.seq (by omega) (by omega))))
  have G9 : SEq τ9 σ10 (s + 103) (s + 103 + 3) := SEq.trans g9 ((p10.seq (by omega) (by omega) : SEq σ9 σ10 (s + 103) (s + 103 + 3)))
  have bw : BuF σ σ9 X X9b s (s + 106) := by
    have w : BuF σ σ9 X X9 s (s + 106) := (((((((((BuF.start.put p1 (by omega) (by omega) (by omega)).put p2 (by omega) (by omega) (by omega)).put p3 (by omega) (by omega) (by omega)).put p4 (by omega) (by omega) (by omega)).put p5 (by omega) (by omega) (by omega)).put p6 (by omega) (by omega) (by omega)).put p7 (by omega) (by omega) (by omega)).put p8 (by omega) (by omega) (by omega)).put p9 (by omega) (by omega) (by omega))
    exact ⟨w.1, fun q hq => by rw [hX9b, sI_ne (by omega)]; exact w.2.1 q hq, w.2.2⟩
  have hxs : ∀ j, X10.1 s j = if j = 11 then -(nI 1) else nI 0 := fun j => by
    rw [p10.mem (show s < _ by omega), hX9b]
    by_cases q : j = 11
    · rw [q, sI_eq, if_pos rfl]
    · rw [sI_nk q, p9.mem (show s < _ by omega), p8.mem (show s < _ by omega), p7.mem (show s < _ by omega), p6.mem (show s < _ by omega), p5.mem (show s < _ by omega), p4.mem (show s < _ by omega), p3.mem (show s < _ by omega), p2.mem (show s < _ by omega), p1.mem (show s < _ by omega), if_neg q]; exact hx j
  refine ⟨σ10, X10, ?_, BuF.nwF (bw.put p10 (by omega) (by omega) (by omega)) (by omega), ⟨⟨K10, (by rw [p10.fld (by omega) (by omega), p9.fld (by omega) (by omega), p8.fld (by omega) (by omega), p7.fld (by omega) (by omega), p6.fld (by omega) (by omega), p5.fld (by omega) (by omega), p4.fld (by omega) (by omega), p3.fld (by omega) (by omega), p2.fld (by omega) (by omega)]; exact p1.1), (by rw [p10.fld (by omega) (by omega), p9.fld (by omega) (by omega), p8.fld (by omega) (by omega), p7.fld (by omega) (by omega), p6.fld (by omega) (by omega), p5.fld (by omega) (by omega), p4.fld (by omega) (by omega), p3.fld (by omega) (by omega)]; exact p2.1), (by rw [p10.fld (by omega) (by omega), p9.fld (by omega) (by omega), p8.fld (by omega) (by omega), p7.fld (by omega) (by omega), p6.fld (by omega) (by omega), p5.fld (by omega) (by omega), p4.fld (by omega) (by omega)]; exact p3.1), (by rw [p10.fld (by omega) (by omega), p9.fld (by omega) (by omega), p8.fld (by omega) (by omega), p7.fld (by omega) (by omega), p6.fld (by omega) (by omega), p5.fld (by omega) (by omega)]; exact p4.1), (by rw [p10.fld (by omega) (by omega), p9.fld (by omega) (by omega), p8.fld (by omega) (by omega), p7.fld (by omega) (by omega), p6.fld (by omega) (by omega)]; exact p5.1), (by rw [p10.fld (by omega) (by omega), p9.fld (by omega) (by omega), p8.fld (by omega) (by omega), p7.fld (by omega) (by omega)]; exact p6.1), (by rw [p10.fld (by omega) (by omega), p9.fld (by omega) (by omega), p8.fld (by omega) (by omega)]; exact p7.1), (by rw [p10.fld (by omega) (by omega), p9.fld (by omega) (by omega)]; exact p8.1), (by rw [p10.fld (by omega) (by omega)]; exact p9.1), p10.1⟩, mgOK.ext o2 G2, o3.1.ext G3, o4.1.ext G4, o5.1.ext G5, o6.1.ext G6, o7.1.ext G7, o8.1.ext G8, o9.1.ext G9, q10, n10⟩, o1.1.ext G1, fun i => ?_, fun i => ?_, fun j => ?_, fun t ht => ?_, fun j hj => ?_, ?_, fun j => ?_, fun j => ?_, fun j => ?_, fun j => ?_, fun j => x10 j, fun j hj => by rw [hxs, if_neg hj], by rw [hxs, if_pos rfl]⟩
  · unfold f_X9_init
    rw [grd_t hK]
    simp only [litM]
    rw [e1, e2, e3, e4, e5, e6, e7, e8, e9, stI_t K9, ← hX9b, e10]
    rfl
  · exact ((G4 (s + 48) (by omega) (by omega)).2.2 i).trans (o4.2.2 i)
  · exact ((G8 (s + 102) (by omega) (by omega)).2.2 i).trans (o8.2.2 i)
  · rw [p10.mem (show s + 1 < _ by omega), hX9b, sI_ne (show s + 1 ≠ s by omega), p9.mem (show s + 1 < _ by omega), p8.mem (show s + 1 < _ by omega), p7.mem (show s + 1 < _ by omega), p6.mem (show s + 1 < _ by omega), p5.mem (show s + 1 < _ by omega), p4.mem (show s + 1 < _ by omega), p3.mem (show s + 1 < _ by omega), p2.mem (show s + 1 < _ by omega)]; exact o1.2.1 j
  · have e0 : X10.1 t = X1.1 t := by rw [p10.mem (show t < _ by omega), hX9b, sI_ne (show t ≠ s by omega), p9.mem (show t < _ by omega), p8.mem (show t < _ by omega), p7.mem (show t < _ by omega), p6.mem (show t < _ by omega), p5.mem (show t < _ by omega), p4.mem (show t < _ by omega), p3.mem (show t < _ by omega), p2.mem (show t < _ by omega)]
    have e3 : X10.1 (t + 3) = X1.1 (t + 3) := by rw [p10.mem (show t + 3 < _ by omega), hX9b, sI_ne (show t + 3 ≠ s by omega), p9.mem (show t + 3 < _ by omega), p8.mem (show t + 3 < _ by omega), p7.mem (show t + 3 < _ by omega), p6.mem (show t + 3 < _ by omega), p5.mem (show t + 3 < _ by omega), p4.mem (show t + 3 < _ by omega), p3.mem (show t + 3 < _ by omega), p2.mem (show t + 3 < _ by omega)]
    rw [e0, e3]; exact o1.2.2.1 t ht
  · rw [p10.mem (show s + 1 + 16 < _ by omega), hX9b, sI_ne (show s + 1 + 16 ≠ s by omega), p9.mem (show s + 1 + 16 < _ by omega), p8.mem (show s + 1 + 16 < _ by omega), p7.mem (show s + 1 + 16 < _ by omega), p6.mem (show s + 1 + 16 < _ by omega), p5.mem (show s + 1 + 16 < _ by omega), p4.mem (show s + 1 + 16 < _ by omega), p3.mem (show s + 1 + 16 < _ by omega), p2.mem (show s + 1 + 16 < _ by omega)]; exact o1.2.2.2 j hj
  · rw [p10.mem (show s + 28 < _ by omega), hX9b, sI_ne (show s + 28 ≠ s by omega), p9.mem (show s + 28 < _ by omega), p8.mem (show s + 28 < _ by omega), p7.mem (show s + 28 < _ by omega), p6.mem (show s + 28 < _ by omega), p5.mem (show s + 28 < _ by omega), p4.mem (show s + 28 < _ by omega)]; exact o3.2
  · rw [p10.mem (show s + 47 < _ by omega), hX9b, sI_ne (show s + 47 ≠ s by omega), p9.mem (show s + 47 < _ by omega), p8.mem (show s + 47 < _ by omega), p7.mem (show s + 47 < _ by omega), p6.mem (show s + 47 < _ by omega), p5.mem (show s + 47 < _ by omega)]; exact o4.2.1 j
  · rw [p10.mem (show s + 49 < _ by omega), hX9b, sI_ne (show s + 49 ≠ s by omega), p9.mem (show s + 49 < _ by omega), p8.mem (show s + 49 < _ by omega), p7.mem (show s + 49 < _ by omega), p6.mem (show s + 49 < _ by omega)]; exact o5.2 j
  · rw [p10.mem (show s + 81 < _ by omega), hX9b, sI_ne (show s + 81 ≠ s by omega), p9.mem (show s + 81 < _ by omega), p8.mem (show s + 81 < _ by omega), p7.mem (show s + 81 < _ by omega)]; exact o6.2 j
  · rw [p10.mem (show s + 101 < _ by omega), hX9b, sI_ne (show s + 101 ≠ s by omega), p9.mem (show s + 101 < _ by omega)]; exact o8.2.1 j
theorem nul_le {σ : Sh} {c : Nat} : ∀ n, nul σ c n ≤ n := by
  intro n
  induction n with
  | zero => exact Nat.le_refl _
  | succ n ih =>
    unfold nul
    split <;> omega
set_option maxRecDepth 100000 in
theorem pure_start (z K D : Nat) : ∃ (σ : Sh) (X : Mx), f_L_law_0 K D sh0 mx0 z = some ((z, z + 108, z + 126), σ, X, K + 127, D + 69557) ∧ IV σ X z (z + 1 + 5) (z + 1 + 9) ∧ pot σ z ≤ 62 := by
  obtain ⟨σb, Xb, e1, ⟨k1, x1, l1⟩, hO⟩ := ob_new (s := z) (shNew sh0 z 7 0) (xNew mx0 z) (by rw [shK_n, if_pos rfl]) (fun j => xN_at)
  obtain ⟨σc, Xc, e2, ⟨k2, x2, l2⟩, hM⟩ := md_new (s := z + 108) (shNew σb (z + 108) 8 0) (xNew Xb (z + 108)) (by rw [shK_n, if_pos rfl]) (fun j => xN_at)
  obtain ⟨σ, hσ⟩ : ∃ σ, σ = shNew σc (z + 126) 12 1 := ⟨_, rfl⟩
  obtain ⟨X, hX⟩ : ∃ X, X = xNew Xc (z + 126) := ⟨_, rfl⟩
  have sK : ∀ q, q ≠ z + 126 → shK σ q = shK σc q ∧ shN σ q = shN σc q ∧ ∀ j, shR σ q j = shR σc q j := fun q hq => ⟨by rw [hσ, shK_n, if_neg hq], by rw [hσ, shN_n, if_neg hq], fun j => by rw [hσ, shR_n, if_neg hq]⟩
  have sB : ∀ q, (q < z + 108 ∨ z + 126 < q) → shK σ q = shK σb q ∧ shN σ q = shN σb q ∧ ∀ j, shR σ q j = shR σb q j := fun q hq => by
    obtain ⟨a1, a2, a3⟩ := sK q (by omega)
    obtain ⟨c1, c2, c3⟩ := k2 q (by omega)
    exact ⟨by rw [a1, c1, shK_n, if_neg (by omega)], by rw [a2, c2, shN_n, if_neg (by omega)], fun j => by rw [a3, c3, shR_n, if_neg (by omega)]⟩
  have E : ∀ lo hi, hi < z + 108 → SEq σb σ lo hi := fun lo hi h q a b => sB q (by omega)
  have xm : ∀ q, q ≠ z + 126 → X.1 q = Xc.1 q := fun q hq => by rw [hX, xN_ne hq]
  have xb : ∀ q, q < z + 108 → X.1 q = Xb.1 q := fun q hq => by rw [xm q (by omega), x2 q (by omega), xN_ne (by omega)]
  obtain ⟨⟨⟨o0, o1, o2, o3, o4, o5, o6, o7, o8, o9, o10⟩, oM, oT, oA, oS, oQ, oI, oA2, oS2, oR⟩, oSt, w48, w102, m1, mt, mc, m28, m47, m49, m81, m101, m107, ma, ma11⟩ := hO
  obtain ⟨hmd, d0, d4, d3, d3', d2⟩ := hM
  have f0 := sB z (by omega)
  have hmd' : mdOK σ (z + 108) := hmd.ext (fun q a b => sK q (by omega))
  have hobj : objOK σ z := ⟨⟨f0.1.trans o0, (f0.2.2 0).trans o1, (f0.2.2 1).trans o2, (f0.2.2 2).trans o3, (f0.2.2 3).trans o4, (f0.2.2 4).trans o5, (f0.2.2 5).trans o6, (f0.2.2 6).trans o7, (f0.2.2 7).trans o8, (f0.2.2 8).trans o9, (f0.2.2 12).trans o10⟩, oM.ext (E _ _ (by omega)), oT.ext (E _ _ (by omega)), oA.ext (E _ _ (by omega)), oS.ext (E _ _ (by omega)), oQ.ext (E _ _ (by omega)), oI.ext (E _ _ (by omega)), oA2.ext (E _ _ (by omega)), oS2.ext (E _ _ (by omega)), ⟨(sB (z + 107) (by omega)).1.trans oR.1, (sB (z + 107) (by omega)).2.1.trans oR.2⟩, hmd', ⟨by rw [hσ, shK_n, if_pos rfl], by rw [hσ, shN_n, if_pos rfl]⟩⟩
  have n48 : ∀ i, shR σ (z + 48) i = none := fun i => ((sB (z + 48) (by omega)).2.2 i).trans (w48 i)
  have n102 : ∀ i, shR σ (z + 102) i = none := fun i => ((sB (z + 102) (by omega)).2.2 i).trans (w102 i)
  have nn : ∀ c i s, (c = z + 48 ∨ c = z + 102) → ¬ shR σ c i = some s := fun c i s hc h => by
    rcases hc with rfl | rfl
    · rw [n48] at h; cases h
    · rw [n102] at h; cases h
  have hsh : ShOK σ := fun q hq => by
    rw [hσ, shL_n, List.mem_append, List.mem_singleton]
    by_cases e : q = z + 126
    · exact Or.inr e
    · refine Or.inl ?_
      rw [l2, shL_n, List.mem_append, List.mem_singleton, l1, shL_n, List.mem_append, List.mem_singleton]
      by_cases e1 : q < z
      · rw [(sB q (by omega)).1, (k1 q (by omega)).1, shK_n, if_neg (by omega)] at hq
        exact absurd hq (by show ¬ (13 < 13); omega)
      · by_cases e2 : q = z
        · exact Or.inl (Or.inl (Or.inl (Or.inr e2)))
        · by_cases e3 : q ≤ z + 107
          · exact Or.inl (Or.inl (Or.inr (by omega)))
          · by_cases e4 : q = z + 108
            · exact Or.inl (Or.inr e4)
            · by_cases e5 : q ≤ z + 125
              · exact Or.inr (by omega)
              · rw [(sB q (by omega)).1, (k1 q (by omega)).1, shK_n, if_neg (by omega)] at hq
                exact absurd hq (by show ¬ (13 < 13); omega)
  have x108 : ∀ j, j ≠ 4 → X.1 (z + 108) j = nI 0 := fun j hj => by rw [xm _ (by omega)]; exact d0 j hj
  have x111 : ∀ j, j < 615 → X.1 (z + 111) j = nI 0 := fun j hj => by rw [xm _ (by omega)]; exact d3 j hj
  have z0 : (nI 0 : Int32) = 0 := rfl
  have tab : ∀ t o, (t = z + 1 + 1 ∨ t = z + 1 + 5 ∨ t = z + 1 + 9) → (o = 0 ∨ o = 200 ∨ o = 400) → TabR X.1 t (X.1 (z + 111)) o := fun t o ht ho => by
    obtain ⟨t0, t1, t3⟩ := mt t ht
    rw [← xb t (by omega)] at t0 t1
    rw [← xb (t + 3) (by omega)] at t3
    refine ⟨?_, ?_, ?_, ?_, fun c hc hb => ?_, fun k c hk hc hbk => ?_, fun k c hk hc _ => t3 _ (by omega)⟩
    · rw [t0, x111 _ (by omega)]
    · rw [t1, x111 _ (by omega)]
    · rw [t0, z0]; exact low_0 9
    · rw [t1, z0]; exact low_0 20
    · rw [t0, z0, bt_zero] at hb; cases hb
    · rw [t1, z0, bt_zero] at hbk; cases hbk
  have bits : ∀ t, (t = z + 1 + 1 ∨ t = z + 1 + 5 ∨ t = z + 1 + 9) → ∀ c, bt (X.1 t 0) c = false := fun t ht c => by
    rw [xb t (by omega), (mt t ht).1, z0, bt_zero]
  have m1' : ∀ j, X.1 (z + 1) j = nI 0 := fun j => by rw [xb _ (by omega)]; exact m1 j
  refine ⟨σ, X, ?_, ⟨⟨hobj, oSt.ext (E _ _ (by omega)), ⟨fun c i s hc _ h => absurd h (nn c i s hc), fun c i s c' i' s' hc _ h => absurd h (nn c i s hc)⟩, hsh⟩, ⟨⟨tab _ _ (Or.inr (Or.inl rfl)) (Or.inl rfl), tab _ _ (Or.inr (Or.inr rfl)) (Or.inr (Or.inl rfl)), tab _ _ (Or.inl rfl) (Or.inr (Or.inr rfl)), ?_, ⟨bits _ (Or.inr (Or.inl rfl)) 7, bits _ (Or.inr (Or.inl rfl)) 8⟩, ⟨bits _ (Or.inr (Or.inr rfl)) 5, bits _ (Or.inr (Or.inr rfl)) 6⟩, ⟨0, by omega, m1' 5, x111 600 (by omega), fun i hi => absurd hi (Nat.not_lt_zero _)⟩, ⟨0, by omega, m1' 3, x111 613 (by omega), fun j _ _ => bits _ (Or.inr (Or.inl rfl)) _⟩, ⟨0, by omega, m1' 4, x111 614 (by omega), fun j _ _ => bits _ (Or.inr (Or.inr rfl)) _⟩, fun i hi => ?_⟩, ⟨0, by omega, by rw [xb _ (by omega)]; exact m28, x108 2 (by omega), fun j hj => absurd hj (Nat.not_lt_zero _)⟩, ⟨0, 0, by omega, by omega, by rw [xb _ (by omega)]; exact m47 2, x108 19 (by omega), by rw [xb _ (by omega)]; exact m47 1, fun i hi => absurd hi (Nat.not_lt_zero _)⟩, ⟨0, by omega, by rw [xb _ (by omega)]; exact m49 0, x108 32 (by omega), fun i hi => absurd hi (Nat.not_lt_zero _)⟩, ⟨?_, Or.inl ?_⟩, ⟨0, by omega, by rw [xb _ (by omega)]; exact m101 1⟩, fun i hi => ?_, ?_⟩, Or.inl ?_, fun q hq => Or.inl ?_⟩, ?_⟩
  · unfold f_L_law_0
    simp only [litM]
    unfold nwO
    show adc 1 (fN 7) (bndH (f_X9_init (shNew sh0 z 7 0) (xNew mx0 z) (z + 1) z) _) = _
    rw [e1, bndH_s]
    show adc 1 (fN 7) (adc 107 7367 (adc 1 (fN 8) (bndH (f_X10_init (shNew σb (z + 108) 8 0) (xNew Xb (z + 108)) (z + 108 + 1) (z + 108)) _))) = _
    rw [e2, bndH_s]
    show adc 1 (fN 7) (adc 107 7367 (adc 1 (fN 8) (adc 17 62135 (nwA σc Xc (z + 126) 12 (nI 1) _)))) = _
    rw [nwA_t (by omega), hσ, hX]
    show adc 1 (fN 7) (adc 107 7367 (adc 1 (fN 8) (adc 17 62135 (adc 1 1 (some ((z, z + 108, z + 126), shNew σc (z + 126) 12 1, xNew Xc (z + 126), K, D)))))) = _
    rw [adc_some, adc_some, adc_some, adc_some, adc_some, show fN 7 = 13 from rfl, show fN 8 = 41 from rfl, show K + 1 + 17 + 1 + 107 + 1 = K + 127 by omega, show D + 1 + 62135 + 41 + 7367 + 13 = D + 69557 by omega]
  · intro c _
    exact bits _ (Or.inl rfl) c
  · rw [xb _ (by omega), mc i hi, Nat.zero_add]
    refine ⟨?_, Or.inl rfl, fun _ _ => rfl⟩
    rw [xm _ (by omega)]
    exact (d3' i hi).symm
  · rw [xb _ (by omega), ma 9 (by omega), x108 35 (by omega)]
  · rw [xb _ (by omega), ma 9 (by omega)]
  · rw [xb (z + 107) (by omega), m107 i, xm (z + 110) (by omega)]
    exact (d2 i).symm
  · rw [xb _ (by omega), ma11, xm _ (by omega)]
    exact d4.symm
  · rw [xb _ (by omega)]; exact ma 10 (by omega)
  · rw [xb _ (by omega)]; exact m81 q
  · unfold pot
    have a1 := nul_le (σ := σ) (c := z + 48) 31
    have a2 := nul_le (σ := σ) (c := z + 102) 31
    omega
theorem pure_all {L b : Nat} {xs : Nat → Int32} (hL : L ≤ 3072) : ∀ z : Nat, ∃ (a1 a2 a3 : Nat) (σ : Sh) (X : Mx) (c0 d0 pc ps : Nat) (Inv : Sh → Mx → Nat → Nat → Prop), f_L_law_0 (601024 - c0) (7293034 - d0) sh0 mx0 z = some ((a1, a2, a3), σ, X, 601024, 7293034) ∧ Inv σ X pc ps ∧ c0 + pc + 100 * 3078 ≤ 601024 ∧ d0 + ps + 1000 * 3078 ≤ 7293034 ∧ RoundOK Inv L xs b a1 a2 a3 := by
  intro z
  obtain ⟨σ, X, e, hI, hp⟩ := pure_start z (601024 - 127) (7293034 - 69557)
  rw [show 601024 - 127 + 127 = 601024 by omega, show 7293034 - 69557 + 69557 = 7293034 by omega] at e
  exact ⟨z, z + 108, z + 126, σ, X, 127, 69557, 17 * pot σ z, 947 * pot σ z, InvR z, e, ⟨_, _, hI, rfl, rfl⟩, by omega, by omega, round_ok hL⟩
