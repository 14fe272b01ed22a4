def TbR (σ : Sh) (a L R : Nat) (fc : Option (Hr (Int32 ⊕ Nat))) (fm : Mx → Option (Int32 × Mx)) : Prop := ∃ w X1 c d, fc = some (w, σ, X1, c, d) ∧ c ≤ 1 ∧ d ≤ 6 ∧ ∀ X2 : Mx, X2.1 = X1.1 → ∃ b X3, fm X2 = some (b, X3) ∧ IV σ X3 a L R ∧ ((∃ v, w = .inl v ∧ X3.1 (a + 108) 0 = nI 0 ∧ b = v) ∨ (w = .inr 1 ∧ X3.1 (a + 108) 0 = nI 1)) ∧ ∀ r, r ≠ a + 108 → X3.2 r = X2.2 r
theorem a_tables {σ : Sh} {X : Mx} {a L R z : Nat} {x : Int32} (h : IV σ X a L R) : TbR σ a L R (f_X9_tables σ X z a x) (fun Y => f_X10_tables σ Y (a + 108) x) := by
  obtain ⟨hs, ⟨e1, ⟨t, t1, t2, t3, t4⟩, e3, e4, ⟨e5, e6⟩, ⟨f0, e7, e8⟩, e9, e10⟩, hIm, hIq⟩ := id h
  have lr := hs.2.1.lr
  have hD := hs.md
  have m0 := hD.1
  have o0 : shK σ a = 7 := hs.1.1.1
  have o1 : shR σ a 0 = some (a + 1) := hs.1.1.2.1
  have o2 : shR σ a 2 = some (a + 28) := hs.1.1.2.2.2.1
  have o3 : shR σ a 3 = some (a + 47) := hs.1.1.2.2.2.2.1
  have o4 : shR σ a 4 = some (a + 49) := hs.1.1.2.2.2.2.2.1
  have o12 : shR σ a 12 = some (a + 107) := hs.1.1.2.2.2.2.2.2.2.2.2.2
  have hTp : tpOK σ (a + 28) := hs.1.2.2.1
  have hAc : acOK σ (a + 47) := hs.1.2.2.2.1
  have hSn : snOK σ (a + 49) := hs.1.2.2.2.2.1
  have hRf : shK σ (a + 107) = 10 ∧ shN σ (a + 107) = 3 := hs.1.2.2.2.2.2.2.2.2.2.1
  have bad : (x < nI 0 ∨ nI t < x) → TbR σ a L R (f_X9_tables σ X z a x) (fun Y => f_X10_tables σ Y (a + 108) x) := fun hx => by
    refine ⟨.inr 1, X, 1, 6, ?_, by omega, by omega, fun X2 e2 => ⟨nI 0, sI (sI X2 (a + 108) 0 (nI 0)) (a + 108) 0 (nI 1), ?_, h.thr e2, Or.inr ⟨rfl, sI_eq⟩, fun r _ => rfl⟩⟩
    · unfold f_X9_tables f_X9_tables_15
      simp only [litM]
      rw [grd_t o0]
      simp only [ldR, o0, o2, if_true, Option.bind_some]
      rw [ldI_t hTp.1, t2]
      by_cases q : x < nI 0
      · rw [if_pos q]
      · rw [if_neg q, if_neg (Int32.not_le.mpr (hx.resolve_left q))]
    · show f_X10_tables σ X2 (a + 108) x = _
      unfold f_X10_tables f_X10_tables_22 f_X10_tables_23
      simp only [litM]
      rw [grd_t m0, stI_t m0, ldI_t m0, sI_nk (by omega), e2, t3, s10_rf hD sI_eq (Or.inl rfl), bnd2_k, if_pos (show nI 0 = nI 0 from rfl)]
      by_cases q : x < nI 0
      · rw [if_pos q]
      · rw [if_neg q, if_pos (hx.resolve_left q)]
  rcases i32_cases x (t + 1) (by omega) with ⟨n, hn, rfl⟩ | hx | ⟨hx, hx2⟩
  · -- both read
    have tb : ∀ j, j < t → X.1 (a + 108 + 1) j = X.1 (a + 28 + 1) j &&& nI 255 ∧ X.1 (a + 28 + 1) j = (X.1 (a + 28 + 1) j).toInt8.toInt32 := t4
    obtain ⟨X1, Y0, hr, x2, xr, xl, -⟩ := read_both (X := X) (Y := sI X (a + 108) 0 (nI 0)) (n := n) hTp hD t1 (by omega) t2 sI_eq (fun j hj => by rw [sI_na (by omega)]; exact tb j hj)
    obtain ⟨X9, hX9⟩ : ∃ X9, X9 = sI X1 a 11 (X1.1 (a + 28) 3) := ⟨_, rfl⟩
    have x9r : ∀ r, r ≠ a → X9.1 r = X1.1 r := fun r hr => by rw [hX9, sI_ne hr]
    have x9a : ∀ j, j ≠ 11 → X9.1 a j = X.1 a j := fun j hj => by rw [hX9, sI_nk hj, xr a (by omega) (by omega)]
    have x9x : ∀ r, r ≠ a → (r < a + 28 ∨ r = a + 29 ∨ a + 46 < r) → X9.1 r = X.1 r := fun r q1 q2 => by rw [x9r r q1, xr r (by omega) (by omega)]
    have again : ∀ X2 : Mx, (∀ j, j < 931 → X2.1 (a + 111) j = X.1 (a + 111) j) → X2.1 (a + 109) = X.1 (a + 109) → ∃ Y1, ((f_X7_readTables σ X (a + 28) (nI n) = some (nI 0, X1) ∧ f_X10_tables_23 σ (a + 108) (nI n) (sI X2 (a + 108) 0 (nI 0)) (a + 108) (nI 1) = (f_X10_tables_170 σ (a + 108) Y1) ∧ StR X1.1 (a + 28 + 2) (a + 28 + 2 + 5) (a + 28 + 2 + 9) (Y1.1 (a + 108 + 3)) 931 ∧ X1.1 (a + 28) 3 = -(nI 1) ∧ Y1.1 (a + 108) 4 = -(nI 1)) ∨ (∃ f, 1 ≤ f ∧ f ≤ 6 ∧ f_X7_readTables σ X (a + 28) (nI n) = some (nI f, X1) ∧ f_X10_tables_23 σ (a + 108) (nI n) (sI X2 (a + 108) 0 (nI 0)) (a + 108) (nI 1) = some (nI f, sI Y1 (a + 108 + 2) 0 (Y1.1 (a + 108 + 2) 0 + nI 1)) ∧ X1.1 (a + 28) 3 = Y1.1 (a + 108) 4)) ∧ (∀ r, r ≠ a + 108 → Y1.2 r = X2.2 r) ∧ (∀ r, r ≠ a + 108 → r ≠ a + 111 → Y1.1 r = X2.1 r) ∧ (∀ j, (j = 1 ∨ 16 < j) → Y1.1 (a + 108) j = X2.1 (a + 108) j) ∧ Y1.1 (a + 108) 0 = nI 0 ∧ Y1.1 (a + 108) 2 = nI 0 ∧ (∀ j, j < 931 → Y1.1 (a + 111) j = X2.1 (a + 111) j) := fun X2 h1 h2 => by
      obtain ⟨X1', Y1, hr', -, -, -, y2, y3, y4, y5, y6⟩ := read_both (X := X) (Y := sI X2 (a + 108) 0 (nI 0)) (n := n) hTp hD t1 (by omega) t2 sI_eq (fun j hj => by
        rw [sI_na (by omega)]
        have e : X2.1 (a + 108 + 1) = X.1 (a + 108 + 1) := h2
        rw [e]; exact tb j hj)
      have eX : X1' = X1 := by
        rcases hr with ⟨q1, -⟩ | ⟨f, q1, q2, q3, -⟩
        · rcases hr' with ⟨p1, -⟩ | ⟨f, p1, p2, p3, -⟩
          · exact (Prod.mk.inj (Option.some.inj (p1.symm.trans q1))).2
          · exact absurd ((Prod.mk.inj (Option.some.inj (p3.symm.trans q1))).1) (nI_nz p1 p2)
        · rcases hr' with ⟨p1, -⟩ | ⟨f', p1, p2, p3, -⟩
          · exact absurd ((Prod.mk.inj (Option.some.inj (q3.symm.trans p1))).1) (nI_nz q1 q2)
          · exact (Prod.mk.inj (Option.some.inj (p3.symm.trans q3))).2
      subst eX
      refine ⟨Y1, hr', y2, fun r a b => by rw [y3 r a b, sI_ne a], fun j hj => by rw [y4 j (by omega), sI_nk (by omega)], by rw [y4 0 (by omega), sI_eq], y5, fun j hj => ?_⟩
      refine (y6 j hj).trans ?_
      rw [sI_na (by omega)]
    have mdl : ∀ X2 : Mx, X2.1 (a + 108) 2 = nI t → f_X10_tables σ X2 (a + 108) (nI n) = f_X10_tables_23 σ (a + 108) (nI n) (sI X2 (a + 108) 0 (nI 0)) (a + 108) (nI 1) := fun X2 h2 => by
      unfold f_X10_tables
      simp only [litM]
      rw [grd_t m0, stI_t m0, if_neg (by rw [n_lt (by omega) (by omega)]; omega), ldI_t m0, sI_nk (by omega), h2, if_neg (by rw [n_lt (by omega) (by omega)]; omega)]
    have cl : ∀ v, f_X7_readTables σ X (a + 28) (nI n) = some (v, X1) → f_X9_tables σ X z a (nI n) = (if v = nI 0 then (f_X5_copyFrom σ X9 (a + 1) (a + 28 + 2)).bind fun X14 => (f_X0_clear σ X14 (a + 47)).bind fun X17 => (f_X4_clear σ X17 (a + 49)).bind fun X20 => stI σ X20 7 a 9 (nI 0) fun X21 => (f_X9_noteChange σ X21 a).bind fun X23 => some (.inl (nI 0), σ, X23, 0, 0) else ldA σ X9 10 (a + 107) (nI 0) fun v25 => stA σ X9 10 (a + 107) (nI 0) (v25 + nI 1) fun X26 => some (.inl v, σ, X26, 0, 0)) := fun v hv => by
      unfold f_X9_tables
      simp only [litM]
      rw [grd_t o0, if_neg (by rw [n_lt (by omega) (by omega)]; omega)]
      simp only [ldR, o0, o1, o2, o3, o4, o12, hTp.1, hTp.2.2.1, if_true, Option.bind_some]
      rw [ldI_t hTp.1, t2, if_pos (by rw [n_le (by omega) (by omega)]; omega), hv, bnd2_k, ldI_t hTp.1, stI_t o0, ← hX9]
    rcases hr with ⟨r1, -, -, r4, -⟩ | ⟨f, f1, f2, r1, -, -⟩
    · -- read well
      have ct := cl _ r1
      rw [if_pos rfl] at ct
      obtain ⟨X14, a1, a2, a3⟩ := st_copy (X := X9) hs.2.1 (told_sk hTp) (Or.inl (by omega))
      obtain ⟨X21, hX21⟩ : ∃ X21, X21 = sI (sI (sI X14 (a + 47) 2 (nI 0)) (a + 49) 0 (nI 0)) a 9 (nI 0) := ⟨_, rfl⟩
      obtain ⟨X23, b1, b2, b3, b4, b5⟩ := noteChange (X := X21) hs
      have x21 : ∀ r, r ≠ a → r ≠ a + 47 → r ≠ a + 49 → X21.1 r = X14.1 r := fun r q1 q2 q3 => by rw [hX21, sI_ne q1, sI_ne q3, sI_ne q2]
      have x23 : ∀ r, r ≠ a → r ≠ a + 47 → r ≠ a + 49 → r ≠ a + 81 → (r < a + 1 ∨ a + 17 < r) → (r < a + 28 ∨ r = a + 29 ∨ a + 46 < r) → X23.1 r = X.1 r := fun r q1 q2 q3 q4 q5 q6 => by rw [b2 r q1 q4, x21 r q1 q2 q3, a2.2 r (by omega), x9x r q1 q6]
      have c3 : f_X9_tables σ X z a (nI n) = some (.inl (nI 0), σ, X23, 0, 0) := by
        rw [ct, a1, Option.bind_some]
        unfold f_X0_clear f_X4_clear
        simp only [litM]
        rw [grd_t hAc.1, stI_t hAc.1, Option.bind_some, grd_t hSn.1, stI_t hSn.1, Option.bind_some, stI_t o0, ← hX21, b1, Option.bind_some]
      refine ⟨.inl (nI 0), X23, 0, 0, c3, by omega, by omega, fun X2 ex => ?_⟩
      obtain ⟨Y1, hy, y2, y3, y4, y40, y5, y6⟩ := again X2 (fun j _ => by rw [ex, x23 _ (by omega) (by omega) (by omega) (by omega) (by omega) (by omega)]) (by rw [ex, x23 _ (by omega) (by omega) (by omega) (by omega) (by omega) (by omega)])
      rcases hy with ⟨-, q2, q3, q4, q5⟩ | ⟨f, f1, f2, q3, -⟩
      · obtain ⟨Z, z1, z2, z3, z4, z5, z6, z7, z8⟩ := m_t172 (Y := Y1) hD
        have zx : ∀ r, r ≠ a + 108 → r ≠ a + 111 → Z.1 r = X23.1 r := fun r p1 p2 => by rw [z3 r p1 p2, y3 r p1 p2, ex]
        have zxx : ∀ r, r ≠ a → r ≠ a + 47 → r ≠ a + 49 → r ≠ a + 81 → (r < a + 1 ∨ a + 17 < r) → (r < a + 28 ∨ r = a + 29 ∨ a + 46 < r) → r ≠ a + 108 → r ≠ a + 111 → Z.1 r = X.1 r := fun r q1 q2 q3 q4 q5 q6 p1 p2 => by rw [zx r p1 p2, x23 r q1 q2 q3 q4 q5 q6]
        have z47 : ∀ j, j ≠ 2 → Z.1 (a + 47) j = X.1 (a + 47) j := fun j hj => by rw [zx _ (by omega) (by omega), b2 _ (by omega) (by omega), hX21, sI_na (by omega), sI_na (by omega), sI_nk hj, a2.2 _ (by omega), x9x _ (by omega) (by omega)]
        refine ⟨nI 0, Z, ?_, ⟨hs, ⟨?_, ⟨0, by omega, ?_, ?_, fun j hj => absurd hj (Nat.not_lt_zero _)⟩, ?_, ⟨0, by omega, ?_, z6, fun i hi => absurd hi (Nat.not_lt_zero _)⟩, ⟨?_, Or.inl ?_⟩, ⟨f0, e7, ?_⟩, fun i hi => ?_, ?_⟩, Or.inl ?_, fun q hq => Or.inl ?_⟩, Or.inl ⟨nI 0, rfl, ?_, rfl⟩, fun r hr => ?_⟩
        · show f_X10_tables σ X2 (a + 108) (nI n) = _
          rw [mdl X2 (by rw [ex, x23 _ (by omega) (by omega) (by omega) (by omega) (by omega) (by omega)]; exact t3), q2, z1]
        · have q3' : StR X9.1 (a + 28 + 2) (a + 28 + 2 + 5) (a + 28 + 2 + 9) (Y1.1 (a + 108 + 3)) 931 := q3.fr (Or.inl ⟨rfl, rfl⟩) (fun q c1 c2 => x9r q (by omega)) (fun _ _ => rfl)
          refine (q3'.cp (W1 := Z.1 (a + 111)) (b1 := 0) a3 (fun j hj => by rw [Nat.zero_add]; exact z8 j hj)).fr lr (fun q c1 c2 => ?_) (fun _ _ => rfl)
          rw [zx q (by omega) (by omega), b2 q (by omega) (by omega), x21 q (by omega) (by omega) (by omega)]
        · rw [zx _ (by omega) (by omega), b2 _ (by omega) (by omega), x21 _ (by omega) (by omega) (by omega), a2.2 _ (by omega), x9r _ (by omega)]; exact xl
        · rw [z4 2 (by omega) (by omega) (by omega)]; exact y5
        · obtain ⟨k, f, k1, k2, k3, k4, k5, -⟩ := e3
          refine ⟨0, f, by omega, k2, ?_, z5, by rw [z47 1 (by omega)]; exact k5, fun i hi => absurd hi (Nat.not_lt_zero _)⟩
          rw [zx _ (by omega) (by omega), b2 _ (by omega) (by omega), hX21, sI_na (by omega), sI_na (by omega), sI_eq]
        · rw [zx _ (by omega) (by omega), b2 _ (by omega) (by omega), hX21, sI_na (by omega), sI_eq]
        · rw [zx _ (by omega) (by omega), b3 9 (by omega), hX21, sI_eq, z7]
        · rw [zx _ (by omega) (by omega), b3 9 (by omega), hX21, sI_eq]
        · rw [zxx _ (by omega) (by omega) (by omega) (by omega) (by omega) (by omega) (by omega) (by omega)]; exact e8
        · rw [zxx (a + 107) (by omega) (by omega) (by omega) (by omega) (by omega) (by omega) (by omega) (by omega), zxx (a + 110) (by omega) (by omega) (by omega) (by omega) (by omega) (by omega) (by omega) (by omega)]; exact e9 i hi
        · rw [zx _ (by omega) (by omega), b3 11 (by omega), hX21, sI_nk (by omega), sI_na (by omega), sI_na (by omega), a2.2 a (by omega), hX9, sI_eq, z4 4 (by omega) (by omega) (by omega), q4, q5]
        · rw [zx _ (by omega) (by omega)]; exact b4
        · rw [zx _ (by omega) (by omega)]; exact b5 q (by omega)
        · rw [z4 0 (by omega) (by omega) (by omega)]; exact y40
        · rw [z2]; exact y2 r hr
      · exact absurd ((Prod.mk.inj (Option.some.inj (q3.symm.trans r1))).1) (nI_nz f1 f2)
    · -- a fault
      have ct := cl _ r1
      rw [if_neg (nI_nz f1 f2), ldA_t hRf.1 (by omega) (by omega), stA_t hRf.1 (by omega) (by omega)] at ct
      obtain ⟨X26, hX26⟩ : ∃ X26, X26 = sI X9 (a + 107) 0 (X9.1 (a + 107) 0 + nI 1) := ⟨_, rfl⟩
      rw [← hX26] at ct
      have x26 : ∀ r, r ≠ a → r ≠ a + 107 → (r < a + 28 ∨ r = a + 29 ∨ a + 46 < r) → X26.1 r = X.1 r := fun r q1 q2 q3 => by rw [hX26, sI_ne q2, x9x r q1 q3]
      refine ⟨.inl (nI f), X26, 0, 0, ct, by omega, by omega, fun X2 ex => ?_⟩
      obtain ⟨Y1, hy, y2, y3, y4, y40, y5, y6⟩ := again X2 (fun j _ => by rw [ex, x26 _ (by omega) (by omega) (by omega)]) (by rw [ex, x26 _ (by omega) (by omega) (by omega)])
      rcases hy with ⟨q1, -⟩ | ⟨f', f1', f2', q3, q4, q5⟩
      · exact absurd ((Prod.mk.inj (Option.some.inj (r1.symm.trans q1))).1) (nI_nz f1 f2)
      · have ef := (Prod.mk.inj (Option.some.inj (q3.symm.trans r1))).1
        rw [ef] at q4
        obtain ⟨Z, hZ⟩ : ∃ Z, Z = sI Y1 (a + 108 + 2) 0 (Y1.1 (a + 108 + 2) 0 + nI 1) := ⟨_, rfl⟩
        rw [← hZ] at q4
        have zr : ∀ r, r ≠ a + 110 → Z.1 r = Y1.1 r := fun r hr => by rw [hZ, sI_ne (by omega)]
        have zx : ∀ r, r ≠ a → r ≠ a + 107 → (r < a + 28 ∨ r = a + 29 ∨ a + 46 < r) → r ≠ a + 108 → r ≠ a + 110 → r ≠ a + 111 → Z.1 r = X.1 r := fun r q1 q2 q3 p1 p2 p3 => by rw [zr r p2, y3 r p1 p3, ex, x26 r q1 q2 q3]
        have za : ∀ j, j ≠ 11 → Z.1 a j = X.1 a j := fun j hj => by rw [zr a (by omega), y3 a (by omega) (by omega), ex, hX26, sI_na (by omega), x9a j hj]
        have zm : ∀ j, 16 < j → Z.1 (a + 108) j = X.1 (a + 108) j := fun j hj => by rw [zr _ (by omega), y4 j (by omega), ex, x26 _ (by omega) (by omega) (by omega)]
        have zw : ∀ j, j < 931 → Z.1 (a + 111) j = X.1 (a + 111) j := fun j hj => by rw [zr _ (by omega), y6 j hj, ex, x26 _ (by omega) (by omega) (by omega)]
        refine ⟨nI f, Z, ?_, ⟨hs, ⟨?_, ⟨0, by omega, ?_, ?_, fun j hj => absurd hj (Nat.not_lt_zero _)⟩, ?_, ?_, ⟨?_, ?_⟩, ⟨f0, e7, ?_⟩, fun i hi => ?_, ?_⟩, hIm.fr hs.lr (za 10 (by omega)) (fun q c1 c2 => zx q (by omega) (by omega) (by omega) (by omega) (by omega) (by omega)) zw, hIq.fr (zx _ (by omega) (by omega) (by omega) (by omega) (by omega) (by omega)) (zx _ (by omega) (by omega) (by omega) (by omega) (by omega) (by omega)) zw (zm 32 (by omega)) (fun j _ => by rw [zx (a + 122) (by omega) (by omega) (by omega) (by omega) (by omega) (by omega)])⟩, Or.inl ⟨nI f, rfl, ?_, rfl⟩, fun r hr => ?_⟩
        · show f_X10_tables σ X2 (a + 108) (nI n) = _
          rw [mdl X2 (by rw [ex, x26 _ (by omega) (by omega) (by omega)]; exact t3), q4]
        · exact e1.fr lr (fun q c1 c2 => zx q (by omega) (by omega) (by omega) (by omega) (by omega) (by omega)) (fun j hj => by rw [Nat.zero_add]; exact zw j hj)
        · rw [zr _ (by omega), y3 _ (by omega) (by omega), ex, hX26, sI_na (by omega), x9r _ (by omega)]; exact xl
        · rw [zr _ (by omega)]; exact y5
        · exact e3.fr (Or.inl rfl) hs.2.2.1 (by rw [zx _ (by omega) (by omega) (by omega) (by omega) (by omega) (by omega)]) (by rw [zx _ (by omega) (by omega) (by omega) (by omega) (by omega) (by omega)]) (zm 19 (by omega)) (zx _ (by omega) (by omega) (by omega) (by omega) (by omega) (by omega)) (fun q hq => zx q (by omega) (by omega) (by omega) (by omega) (by omega) (by omega))
        · exact e4.fr (zx _ (by omega) (by omega) (by omega) (by omega) (by omega) (by omega)) (zx _ (by omega) (by omega) (by omega) (by omega) (by omega) (by omega)) (zx _ (by omega) (by omega) (by omega) (by omega) (by omega) (by omega)) (zx _ (by omega) (by omega) (by omega) (by omega) (by omega) (by omega)) (zm 32 (by omega)) (zx _ (by omega) (by omega) (by omega) (by omega) (by omega) (by omega))
        · rw [za 9 (by omega), zm 35 (by omega)]; exact e5
        · rw [za 9 (by omega)]
          refine e6.imp_right (fun ⟨g1, g2, g3, g4⟩ => ⟨g1, ?_, ?_, ?_⟩)
          · rw [zx (a + 123) (by omega) (by omega) (by omega) (by omega) (by omega) (by omega)]
            exact g2.fr (Or.inl ⟨rfl, rfl⟩) (fun q c1 c2 => zx q (by omega) (by omega) (by omega) (by omega) (by omega) (by omega)) (fun _ _ => rfl)
          · exact g3.fr (Or.inr rfl) hs.2.2.1 (by rw [zx _ (by omega) (by omega) (by omega) (by omega) (by omega) (by omega)]) (by rw [zx _ (by omega) (by omega) (by omega) (by omega) (by omega) (by omega)]) (zm 36 (by omega)) (zx _ (by omega) (by omega) (by omega) (by omega) (by omega) (by omega)) (fun q hq => zx q (by omega) (by omega) (by omega) (by omega) (by omega) (by omega))
          · exact g4.fr (zx _ (by omega) (by omega) (by omega) (by omega) (by omega) (by omega)) (zx _ (by omega) (by omega) (by omega) (by omega) (by omega) (by omega)) (zx _ (by omega) (by omega) (by omega) (by omega) (by omega) (by omega)) (zx _ (by omega) (by omega) (by omega) (by omega) (by omega) (by omega)) (zm 37 (by omega)) (zx _ (by omega) (by omega) (by omega) (by omega) (by omega) (by omega))
        · rw [zx _ (by omega) (by omega) (by omega) (by omega) (by omega) (by omega)]; exact e8
        · have z107 : Z.1 (a + 107) i = X26.1 (a + 107) i := by rw [zr _ (by omega), y3 _ (by omega) (by omega), ex]
          have y110 : Y1.1 (a + 110) = X.1 (a + 110) := by rw [y3 _ (by omega) (by omega), ex, x26 _ (by omega) (by omega) (by omega)]
          have z110 : Z.1 (a + 110) i = (sI Y1 (a + 110) 0 (Y1.1 (a + 110) 0 + nI 1)).1 (a + 110) i := by rw [hZ]
          have x9107 : X9.1 (a + 107) = X.1 (a + 107) := x9x _ (by omega) (by omega)
          rw [z107, z110, hX26]
          by_cases q : i = 0
          · rw [q, sI_eq, sI_eq, x9107, y110, e9 0 (by omega)]
          · rw [sI_nk q, sI_nk q, x9107, y110]; exact e9 i hi
        · rw [zr _ (by omega), zr _ (by omega), y3 _ (by omega) (by omega), ex, hX26, sI_na (by omega), hX9, sI_eq]
          exact q5
        · rw [zr _ (by omega)]; exact y40
        · rw [hZ, sI_2]; exact y2 r hr
  · exact bad (Or.inl hx)
  · exact bad (Or.inr (by
      have := n_nlt (n := t) hx2 (by omega)
      exact of_eq_true this))
