/-! ===== restore ===== -/
theorem a_restore {σ : Sh} {X : Mx} {a L R z : Nat} (h : IV σ X a L R) (hz : ∀ q ∈ shL σ, q < z) : ActI σ a (f_X9_restore σ X z a) (fun τ Y => f_X10_restore τ Y (a + 108)) := by
  obtain ⟨hs, hc, hm, hq⟩ := id h
  obtain ⟨⟨⟨o0, o1, o2, o3, o4, o5, o6, o7, o8, o9, o10⟩, oM, oT, oA, oS, oQ, oI, oA2, oS2, oR, oD, oO⟩, hst, hsl, hsh⟩ := id hs
  obtain ⟨c1, c2, c3, c4, ⟨c5, c6⟩, ⟨f0, c7, c8⟩, c9, c10⟩ := id hc
  obtain ⟨-, fd, -, hfd, -, -, e1, -⟩ := id c3
  have hT := hs.top hz
  have lr := hs.2.1.lr
  rcases c6 with h9 | ⟨h9, i1, i2, i3⟩
  · have m0 := oD.1
    refine ⟨nI 0, σ, X, 0, 0, sI X (a + 108) 0 (nI 0), L, R, ?_, by omega, by omega, ?_, h.frQ (FrQ.fld (by omega))⟩
    · unfold f_X9_restore
      simp only [litM]
      rw [grd_t o0, ldI_t o0, h9, if_pos rfl]
    · unfold f_X10_restore
      simp only [litM]
      rw [grd_t m0, stI_t m0, ldI_t m0, sI_nk (by omega), ← c5, h9, if_pos rfl]
  · obtain ⟨k, fs, hk, hfs, e2, e3, e4, e6⟩ := id i2
    obtain ⟨Xa, ea, fa, ca⟩ := st_copy (X := X) hst oI (Or.inl (by omega))
    have xa : ∀ q, (q < a + 1 ∨ a + 17 < q) → Xa.1 q = X.1 q := fun q hq => fa.2 q (by omega)
    obtain ⟨Xb, hXb⟩ : ∃ Xb, Xb = sI Xa (a + 47) 2 (nI k) := ⟨_, rfl⟩
    have xb : ∀ q, q ≠ a + 47 → Xb.1 q = Xa.1 q := fun q hq => by rw [hXb, sI_ne hq]
    obtain ⟨σ1, Xc, kk, d, ec, hs1, w1, w2, w3, w4, w5, w6⟩ := cpy_loop (Or.inl ⟨rfl, rfl⟩) hfd hfs hk k 0 FU σ Xb z (by omega) (by rw [FU_40000]; omega) hs hz (by rw [hXb, sI_nk (by omega), xa _ (by omega)]; exact e1) (by rw [hXb, sI_eq]) (by rw [xb _ (by omega), xa _ (by omega)]; exact e4) (fun j hj => by
      obtain ⟨s, s1, -⟩ := e6 j hj
      exact ⟨s, s1⟩)
    obtain ⟨o0', o1', o2', o3', o4', o5', o6', o7', o8', o9', o10'⟩ := hs1.1.1
    have hD1 := hs1.md
    have n0 := hD1.1
    obtain ⟨Xd, ed, fdd, d0, d1, d2, d3⟩ := sn_copy (X := Xc) hs1.1.2.2.2.2.2.2.2.2.1 hs1.1.2.2.2.2.1 (Or.inr (by omega))
    obtain ⟨Xe, ee, v1, v2, v3, v4⟩ := noteChange (X := Xd) hs1
    have xall : ∀ q, q ≤ a + 126 → q ≠ a → q ≠ a + 81 → q ≠ a + 47 → (q < a + 1 ∨ a + 17 < q) → (q < a + 49 ∨ a + 52 < q) → Xe.1 q = X.1 q := fun q q1 q2 q3 q4 q5 q6 => by rw [v1 q q2 q3, fdd.2 q (by omega), w3 q q1, xb q q4, xa q q5]
    have xea : ∀ j, j ≠ 10 → Xe.1 a j = X.1 a j := fun j hj => by rw [v2 j hj, fdd.2 a (by omega), w3 a (by omega), xb a (by omega), xa a (by omega)]
    obtain ⟨Y0, hY0⟩ : ∃ Y0, Y0 = sI (sI (sI Xe (a + 108) 0 (nI 0)) (a + 108) 19 (X.1 (a + 108) 36)) (a + 108) 32 (X.1 (a + 108) 37) := ⟨_, rfl⟩
    have y0 : ∀ q, q ≠ a + 108 → Y0.1 q = Xe.1 q := fun q hq => by rw [hY0, sI_ne hq, sI_ne hq, sI_ne hq]
    have g : ∀ j, Xe.1 (a + 108) j = X.1 (a + 108) j := fun j => by rw [xall _ (by omega) (by omega) (by omega) (by omega) (by omega) (by omega)]
    obtain ⟨Z, ez, -, z1, z2, z3, z4⟩ := m_cp2 (Y := Y0) hD1
    have zq : ∀ q, q ≠ a + 108 → q ≠ a + 111 → q ≠ a + 112 → q ≠ a + 122 → Z.1 q = Xe.1 q := fun q q1 q2 q3 q4 => by rw [z1 q (by omega) (by omega) (by omega), y0 q q1]
    have zx : ∀ q, q ≤ a + 126 → q ≠ a → q ≠ a + 81 → q ≠ a + 47 → (q < a + 1 ∨ a + 17 < q) → (q < a + 49 ∨ a + 52 < q) → q ≠ a + 108 → q ≠ a + 111 → q ≠ a + 112 → q ≠ a + 122 → Z.1 q = X.1 q := fun q q1 q2 q3 q4 q5 q6 q7 q8 q9 q10 => by rw [zq q q7 q8 q9 q10, xall q q1 q2 q3 q4 q5 q6]
    have zm : ∀ j, j ≠ 0 → j ≠ 19 → j ≠ 32 → Z.1 (a + 108) j = X.1 (a + 108) j := fun j j0 j1 j2 => by rw [z1 _ (by omega) (by omega) (by omega), hY0, sI_nk j2, sI_nk j1, sI_nk j0, g]
    have z19 : Z.1 (a + 108) 19 = X.1 (a + 108) 36 := by rw [z1 _ (by omega) (by omega) (by omega), hY0, sI_nk (by omega), sI_eq]
    have z32 : Z.1 (a + 108) 32 = X.1 (a + 108) 37 := by rw [z1 _ (by omega) (by omega) (by omega), hY0, sI_eq]
    have za : ∀ j, j ≠ 10 → Z.1 a j = X.1 a j := fun j hj => by rw [zq a (by omega) (by omega) (by omega) (by omega)]; exact xea j hj
    have zc : ∀ q, (a + 1 ≤ q ∧ q ≤ a + 17) ∨ q = a + 47 ∨ a + 126 < q → Z.1 q = Xc.1 q := fun q hq => by rw [zq q (by omega) (by omega) (by omega) (by omega), v1 q (by omega) (by omega), fdd.2 q (by omega)]
    have ze : ∀ q, (a + 49 ≤ q ∧ q ≤ a + 52) → Z.1 q = Xd.1 q := fun q hq => by rw [zq q (by omega) (by omega) (by omega) (by omega), v1 q (by omega) (by omega)]
    have xbb : ∀ q, a + 126 < q → Xb.1 q = X.1 q := fun q hq => by rw [xb q (by omega), xa q (by omega)]
    have m35 : ¬ X.1 (a + 108) 35 = nI 0 := by rw [← c5, h9]; decide
    refine ⟨nI 1, σ1, Xe, kk, d, Z, L, R, ?_, w1, w2, ?_, hs1, ⟨?_, ?_, ?_, ?_, ⟨?_, Or.inr ⟨?_, ?_, ?_, ?_⟩⟩, ⟨f0, c7, ?_⟩, fun i hi => ?_, ?_⟩, Or.inl ?_, fun q hq => Or.inl ?_⟩
    · unfold f_X9_restore f_X0_copyFrom
      simp only [litM]
      rw [grd_t o0, ldI_t o0, h9, if_neg (by decide)]
      simp only [ldR, o0, o7, o1, o8, o4, if_true, Option.bind_some]
      rw [ea, Option.bind_some, grd_t oA.1, ldI_t oA2.1, stI_t oA.1, xa _ (by omega), e2, ← hXb, ec, bndH_s]
      simp only [o0', o9', o5', if_true, Option.bind_some]
      rw [ed, Option.bind_some, ee, Option.bind_some, adc_some, Nat.zero_add, Nat.zero_add]
    · unfold f_X10_restore
      simp only [litM]
      rw [grd_t n0, stI_t n0, ldI_t n0, sI_nk (show 35 ≠ 0 by omega), g, if_neg m35, ldI_t n0, stI_t n0, ldI_t n0, stI_t n0]
      refine Eq.trans ?_ ez
      rw [hY0, sI_nk (show 36 ≠ 0 by omega), g, sI_nk (show 37 ≠ 19 by omega), sI_nk (show 37 ≠ 0 by omega), g]
    · have s1 := i1.cp (Z := Xa.1) (a := a + 1) (La := L) (Ra := R) (b1 := 0) (W1 := Z.1 (a + 111)) ca (fun j hj => by
        rw [Nat.zero_add]
        refine (z2 j hj).trans ?_
        rw [y0 _ (by omega), xall _ (by omega) (by omega) (by omega) (by omega) (by omega) (by omega)])
      refine s1.fr lr (fun q q1 q2 => ?_) (fun _ _ => rfl)
      rw [zc q (by omega), w3 q (by omega), xb q (by omega)]
    · exact c2.fr (by rw [zx _ (by omega) (by omega) (by omega) (by omega) (by omega) (by omega) (by omega) (by omega) (by omega) (by omega)]) (zm 2 (by omega) (by omega) (by omega)) (zx _ (by omega) (by omega) (by omega) (by omega) (by omega) (by omega) (by omega) (by omega) (by omega) (by omega)) (zx _ (by omega) (by omega) (by omega) (by omega) (by omega) (by omega) (by omega) (by omega) (by omega) (by omega))
    · refine ActsR.cp (fd := fd) (fs := fs) (k := k) i2 hfd e2 e4 hfs hk ?_ ?_ z19 (fun j hj => ?_) (fun j hj => ?_)
      · rw [zc _ (by omega), w3 _ (by omega), hXb, sI_nk (by omega), xa _ (by omega)]; exact e1
      · rw [zc _ (by omega), w3 _ (by omega), hXb, sI_eq]
      · refine (z3 j hj).trans ?_
        rw [y0 _ (by omega), xall _ (by omega) (by omega) (by omega) (by omega) (by omega) (by omega)]
      · obtain ⟨t, s, t1, t2, t3⟩ := w6 j (by omega) hj
        have sz := hs.slz hz (Or.inr rfl) (Nat.mod_lt _ (by omega)) t2
        have ta := (hs1.2.2.1.1 (a + 47 + 1) _ t (Or.inl rfl) (Nat.mod_lt _ (by omega)) t1).2
        exact ⟨t, s, t1, t2, t3.fr (fun q q1 q2 => (xbb q (by omega)).symm) (fun q q1 q2 => zc q (by omega))⟩
    · have xc : ∀ q, a + 103 ≤ q → q ≤ a + 106 → Xc.1 q = X.1 q := fun q q1 q2 => by rw [w3 q (by omega), xb q (by omega), xa q (by omega)]
      refine i3.cp ?_ (fun j hj => ?_) (fun j hj => ?_) (fun j hj => ?_) z32 (fun j hj => ?_)
      · rw [ze _ (by omega), d0, xc _ (by omega) (by omega)]
      · rw [ze _ (by omega), d1 j hj, xc _ (by omega) (by omega)]
      · rw [ze _ (by omega), d2 j hj, xc _ (by omega) (by omega)]
      · rw [ze _ (by omega), d3 j hj, xc _ (by omega) (by omega)]
      · refine (z4 j hj).trans ?_
        rw [y0 _ (by omega), xall _ (by omega) (by omega) (by omega) (by omega) (by omega) (by omega)]
    · rw [za 9 (by omega), zm 35 (by omega) (by omega) (by omega)]; exact c5
    · rw [za 9 (by omega)]; exact h9
    · rw [zx (a + 123) (by omega) (by omega) (by omega) (by omega) (by omega) (by omega) (by omega) (by omega) (by omega) (by omega)]
      exact i1.fr (Or.inl ⟨rfl, rfl⟩) (fun q q1 q2 => zx q (by omega) (by omega) (by omega) (by omega) (by omega) (by omega) (by omega) (by omega) (by omega) (by omega)) (fun _ _ => rfl)
    · rw [zm 36 (by omega) (by omega) (by omega)]
      refine i2.grow (fun i s hr => w4 (a + 102) i s (Or.inr rfl) hr) (zx _ (by omega) (by omega) (by omega) (by omega) (by omega) (by omega) (by omega) (by omega) (by omega) (by omega)) (zx _ (by omega) (by omega) (by omega) (by omega) (by omega) (by omega) (by omega) (by omega) (by omega) (by omega)) ?_
      intro k' f' i s h1 h2 h3 h4 h5 h6 q q1 q2
      have sz := hs.slz hz (Or.inr rfl) (Nat.mod_lt _ (by omega)) h6
      rw [zc q (by omega), w5 (a + 102) _ s (Or.inr rfl) (Nat.mod_lt _ (by omega)) h6 (fun e => by omega) q q1 q2, xbb q (by omega)]
    · rw [zm 37 (by omega) (by omega) (by omega)]
      exact i3.fr (zx _ (by omega) (by omega) (by omega) (by omega) (by omega) (by omega) (by omega) (by omega) (by omega) (by omega)) (zx _ (by omega) (by omega) (by omega) (by omega) (by omega) (by omega) (by omega) (by omega) (by omega) (by omega)) (zx _ (by omega) (by omega) (by omega) (by omega) (by omega) (by omega) (by omega) (by omega) (by omega) (by omega)) (zx _ (by omega) (by omega) (by omega) (by omega) (by omega) (by omega) (by omega) (by omega) (by omega) (by omega)) rfl (zx _ (by omega) (by omega) (by omega) (by omega) (by omega) (by omega) (by omega) (by omega) (by omega) (by omega))
    · rw [zx _ (by omega) (by omega) (by omega) (by omega) (by omega) (by omega) (by omega) (by omega) (by omega) (by omega)]; exact c8
    · rw [zx (a + 107) (by omega) (by omega) (by omega) (by omega) (by omega) (by omega) (by omega) (by omega) (by omega) (by omega), zx (a + 110) (by omega) (by omega) (by omega) (by omega) (by omega) (by omega) (by omega) (by omega) (by omega) (by omega)]; exact c9 i hi
    · rw [za 11 (by omega), zm 4 (by omega) (by omega) (by omega)]; exact c10
    · rw [zq a (by omega) (by omega) (by omega) (by omega)]; exact v3
    · rw [zq _ (by omega) (by omega) (by omega) (by omega)]; exact v4 q (by omega)
