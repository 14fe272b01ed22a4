/-- acts copied by both -/
theorem ActsR.cp {σ σ1 : Sh} {X Z : Nat → Nat → Int32} {c c' kp kp' fd fs k : Nat} {ac ac' : Int32} (h : ActsR σ X c' ac kp) (hfd : fd < 31) (e2 : X c' 2 = nI k) (e1 : X c' 1 = nI fs) (hfs : fs < 31) (hk : k ≤ 30) (z1 : Z c 1 = nI fd) (z2 : Z c 2 = nI k) (za : ac' = ac) (hp : ∀ j, j < 27930 → Z kp' j = X kp j)
    (hc : ∀ j, j < k → ∃ t s, shR σ1 (c + 1) ((fd + j) % 31) = some t ∧ shR σ (c' + 1) ((fs + j) % 31) = some s ∧ StC X s (s + 5) (s + 9) Z t (t + 5) (t + 9)) : ActsR σ1 Z c ac' kp' := by
  obtain ⟨k', f', a1, a2, a3, a4, a5, a6⟩ := h
  have hk' : k' = k := nI_inj (by omega) (by omega) (a3.symm.trans e2)
  have hf' : f' = fs := nI_inj (by omega) (by omega) (a5.symm.trans e1)
  subst hk' hf'
  refine ⟨k', fd, hk, hfd, z2, za.trans a4, z1, fun i hi => ?_⟩
  obtain ⟨t, s, t1, t2, t3⟩ := hc i hi
  obtain ⟨s', b1, b2⟩ := a6 i hi
  rw [t2] at b1
  cases b1
  refine ⟨t, t1, b2.cp t3 (fun j hj => hp _ ?_)⟩
  have : 931 * (i + 1) ≤ 931 * 30 := Nat.mul_le_mul_left _ (by omega)
  omega
theorem a_image {σ : Sh} {X : Mx} {a L R z : Nat} (h : IV σ X a L R) (hz : ∀ q ∈ shL σ, q < z) : ∃ σ1 X1 c d X3, f_X9_image σ X z a = some ((), σ1, X1, c, d) ∧ c + 17 * pot σ1 a ≤ 17 * pot σ a ∧ d + 947 * pot σ1 a ≤ 947 * pot σ a ∧ f_X10_image σ1 X1 (a + 108) = some X3 ∧ IV σ1 X3 a L R := by
  obtain ⟨hs, hc, hm, hq⟩ := id h
  obtain ⟨⟨⟨o0, o1, o2, o3, o4, o5, o6, o7, o8, o9, o10⟩, oM, oT, oA, oS, oQ, oI, oA2, oS2, oR, oD, oO⟩, hst, hsl, hsh⟩ := id hs
  obtain ⟨c1, c2, c3, c4, ⟨c5, c6⟩, ⟨fd, c7, c8⟩, c9, c10⟩ := id hc
  obtain ⟨k, fs, hk, hfs, e2, e3, e1, e6⟩ := id c3
  have hT := hs.top hz
  have lr := hs.2.1.lr
  obtain ⟨Xa, ea, fa, ca⟩ := st_copy (X := X) oI hst (Or.inr (by omega))
  have xa : ∀ q, (q < a + 84 ∨ a + 100 < q) → Xa.1 q = X.1 q := fun q hq => fa.2 q (by omega)
  obtain ⟨Xb, hXb⟩ : ∃ Xb, Xb = sI Xa (a + 101) 2 (nI k) := ⟨_, rfl⟩
  have xb : ∀ q, q ≠ a + 101 → Xb.1 q = Xa.1 q := fun q hq => by rw [hXb, sI_ne hq]
  obtain ⟨σ1, Xc, kk, d, ec, hs1, w1, w2, w3, w4, w5, w6⟩ := cpy_loop (Or.inr ⟨rfl, rfl⟩) c7 hfs hk k 0 FU σ Xb z (by omega) (by rw [FU_40000]; omega) hs hz (by rw [hXb, sI_nk (by omega), xa _ (by omega)]; exact c8) (by rw [hXb, sI_eq]) (by rw [xb _ (by omega), xa _ (by omega)]; exact e1) (fun j hj => by
    obtain ⟨s, s1, -⟩ := e6 j hj
    exact ⟨s, s1⟩)
  obtain ⟨o0', o1', o2', o3', o4', o5', o6', o7', o8', o9', o10'⟩ := hs1.1.1
  have hD1 := hs1.md
  have n0 := hD1.1
  obtain ⟨Xd, ed, fdd, d0, d1, d2, d3⟩ := sn_copy (X := Xc) hs1.1.2.2.2.2.1 hs1.1.2.2.2.2.2.2.2.2.1 (Or.inl (by omega))
  obtain ⟨Xe, hXe⟩ : ∃ Xe, Xe = sI Xd a 9 (nI 1) := ⟨_, rfl⟩
  have xe : ∀ q, q ≠ a → Xe.1 q = Xd.1 q := fun q hq => by rw [hXe, sI_ne hq]
  have xall : ∀ q, q ≤ a + 126 → q ≠ a → (q < a + 84 ∨ a + 106 < q) → Xe.1 q = X.1 q := fun q q1 q2 q3 => by rw [xe q q2, fdd.2 q (by omega), w3 q q1, xb q (by omega), xa q (by omega)]
  obtain ⟨Y0, hY0⟩ : ∃ Y0, Y0 = sI (sI (sI (sI Xe (a + 108) 0 (nI 0)) (a + 108) 35 (nI 1)) (a + 108) 36 (X.1 (a + 108) 19)) (a + 108) 37 (X.1 (a + 108) 32) := ⟨_, rfl⟩
  have y0 : ∀ q, q ≠ a + 108 → Y0.1 q = Xe.1 q := fun q hq => by rw [hY0, sI_ne hq, sI_ne hq, sI_ne hq, sI_ne hq]
  obtain ⟨Z, ez, -, z1, z2, z3, z4⟩ := m_cp (Y := Y0) hD1
  have zq : ∀ q, q ≠ a + 108 → (q < a + 123 ∨ a + 125 < q) → Z.1 q = Xe.1 q := fun q q1 q2 => by rw [z1 q (by omega), y0 q q1]
  have zx : ∀ q, q ≤ a + 126 → q ≠ a → q ≠ a + 108 → (q < a + 84 ∨ a + 106 < q) → (q < a + 123 ∨ a + 125 < q) → Z.1 q = X.1 q := fun q q1 q2 q3 q4 q5 => by rw [zq q q3 q5, xall q q1 q2 q4]
  have zm : ∀ j, j ≠ 0 → j ≠ 35 → j ≠ 36 → j ≠ 37 → Z.1 (a + 108) j = X.1 (a + 108) j := fun j j0 j1 j2 j3 => by rw [z1 _ (by omega), hY0, sI_nk j3, sI_nk j2, sI_nk j1, sI_nk j0, xall _ (by omega) (by omega) (by omega)]
  have za : ∀ j, j ≠ 9 → Z.1 a j = X.1 a j := fun j hj => by rw [zq a (by omega) (by omega), hXe, sI_nk hj, fdd.2 a (by omega), w3 a (by omega), xb a (by omega), xa a (by omega)]
  have z9 : Z.1 a 9 = nI 1 := by rw [zq a (by omega) (by omega), hXe, sI_eq]
  have z35 : Z.1 (a + 108) 35 = nI 1 := by rw [z1 _ (by omega), hY0, sI_nk (by omega), sI_nk (by omega), sI_eq]
  have z36 : Z.1 (a + 108) 36 = X.1 (a + 108) 19 := by rw [z1 _ (by omega), hY0, sI_nk (by omega), sI_eq]
  have z37 : Z.1 (a + 108) 37 = X.1 (a + 108) 32 := by rw [z1 _ (by omega), hY0, sI_eq]
  have zc : ∀ q, (a + 84 ≤ q ∧ q ≤ a + 101) ∨ a + 126 < q → Z.1 q = Xc.1 q := fun q hq => by rw [zq q (by omega) (by omega), xe q (by omega), fdd.2 q (by omega)]
  have ze : ∀ q, (a + 103 ≤ q ∧ q ≤ a + 106) → Z.1 q = Xd.1 q := fun q hq => by rw [zq q (by omega) (by omega), xe q (by omega)]
  have xbb : ∀ q, a + 126 < q → Xb.1 q = X.1 q := fun q hq => by rw [xb q (by omega), xa q (by omega)]
  refine ⟨σ1, Xe, kk, d, Z, ?_, w1, w2, ?_, hs1, ⟨?_, ?_, ?_, ?_, ⟨?_, Or.inr ⟨z9, ?_, ?_, ?_⟩⟩, ⟨fd, c7, ?_⟩, fun i hi => ?_, ?_⟩, ?_, ?_⟩
  · unfold f_X9_image f_X0_copyFrom
    simp only [litM]
    rw [grd_t o0]
    simp only [ldR, o0, o7, o1, o8, o4, if_true, Option.bind_some]
    rw [ea, Option.bind_some, grd_t oA2.1, ldI_t oA.1, stI_t oA2.1, xa _ (by omega), e2, ← hXb, ec, bndH_s]
    simp only [o0', o9', o5', if_true, Option.bind_some]
    rw [ed, Option.bind_some, stI_t o0', ← hXe, adc_some, Nat.zero_add, Nat.zero_add]
  · unfold f_X10_image
    simp only [litM]
    rw [grd_t n0, stI_t n0, stI_t n0, ldI_t n0, stI_t n0, ldI_t n0, stI_t n0]
    refine Eq.trans ?_ ez
    have g : ∀ j, Xe.1 (a + 108) j = X.1 (a + 108) j := fun j => by rw [xall _ (by omega) (by omega) (by omega)]
    rw [hY0, sI_nk (show 19 ≠ 35 by omega), sI_nk (show 19 ≠ 0 by omega), g, sI_nk (show 32 ≠ 36 by omega), sI_nk (show 32 ≠ 35 by omega), sI_nk (show 32 ≠ 0 by omega), g]
  · rw [zx (a + 111) (by omega) (by omega) (by omega) (by omega) (by omega)]
    exact c1.fr lr (fun q q1 q2 => zx q (by omega) (by omega) (by omega) (by omega) (by omega)) (fun _ _ => rfl)
  · exact c2.fr (by rw [zx _ (by omega) (by omega) (by omega) (by omega) (by omega)]) (zm 2 (by omega) (by omega) (by omega) (by omega)) (zx _ (by omega) (by omega) (by omega) (by omega) (by omega)) (zx _ (by omega) (by omega) (by omega) (by omega) (by omega))
  · rw [zm 19 (by omega) (by omega) (by omega) (by omega)]
    refine c3.grow (fun i s hr => w4 (a + 48) i s (Or.inl rfl) hr) (zx _ (by omega) (by omega) (by omega) (by omega) (by omega)) (zx _ (by omega) (by omega) (by omega) (by omega) (by omega)) ?_
    intro k' f' i s h1 h2 h3 h4 h5 h6 q q1 q2
    have sz := hs.slz hz (Or.inl rfl) (Nat.mod_lt _ (by omega)) h6
    rw [zc q (by omega), w5 (a + 48) _ s (Or.inl rfl) (Nat.mod_lt _ (by omega)) h6 (fun e => by omega) q q1 q2, xbb q (by omega)]
  · rw [zm 32 (by omega) (by omega) (by omega) (by omega)]
    exact c4.fr (zx _ (by omega) (by omega) (by omega) (by omega) (by omega)) (zx _ (by omega) (by omega) (by omega) (by omega) (by omega)) (zx _ (by omega) (by omega) (by omega) (by omega) (by omega)) (zx _ (by omega) (by omega) (by omega) (by omega) (by omega)) rfl (zx _ (by omega) (by omega) (by omega) (by omega) (by omega))
  · rw [z9, z35]
  · have s1 := c1.cp (Z := Xa.1) (a := a + 84) (La := a + 84 + 5) (Ra := a + 84 + 9) (b1 := 0) (W1 := Z.1 (a + 123)) ca (fun j hj => by
      rw [Nat.zero_add]
      refine (z2 j hj).trans ?_
      rw [y0 _ (by omega), xall _ (by omega) (by omega) (by omega)])
    refine s1.fr (Or.inl ⟨rfl, rfl⟩) (fun q q1 q2 => ?_) (fun _ _ => rfl)
    rw [zc q (by omega), w3 q (by omega), xb q (by omega)]
  · refine ActsR.cp (fd := fd) (fs := fs) (k := k) c3 c7 e2 e1 hfs hk ?_ ?_ z36 (fun j hj => ?_) (fun j hj => ?_)
    · rw [zc _ (by omega), w3 _ (by omega), hXb, sI_nk (by omega), xa _ (by omega)]; exact c8
    · rw [zc _ (by omega), w3 _ (by omega), hXb, sI_eq]
    · refine (z3 j hj).trans ?_
      rw [y0 _ (by omega), xall _ (by omega) (by omega) (by omega)]
    · obtain ⟨t, s, t1, t2, t3⟩ := w6 j (by omega) hj
      have sz := hs.slz hz (Or.inl rfl) (Nat.mod_lt _ (by omega)) t2
      have ta := (hs1.2.2.1.1 (a + 101 + 1) _ t (Or.inr rfl) (Nat.mod_lt _ (by omega)) t1).2
      exact ⟨t, s, t1, t2, t3.fr (fun q q1 q2 => (xbb q (by omega)).symm) (fun q q1 q2 => zc q (by omega))⟩
  · have xc : ∀ q, a + 49 ≤ q → q ≤ a + 52 → Xc.1 q = X.1 q := fun q q1 q2 => by rw [w3 q (by omega), xb q (by omega), xa q (by omega)]
    refine c4.cp ?_ (fun j hj => ?_) (fun j hj => ?_) (fun j hj => ?_) z37 (fun j hj => ?_)
    · rw [ze _ (by omega), d0, xc _ (by omega) (by omega)]
    · rw [ze _ (by omega), d1 j hj, xc _ (by omega) (by omega)]
    · rw [ze _ (by omega), d2 j hj, xc _ (by omega) (by omega)]
    · rw [ze _ (by omega), d3 j hj, xc _ (by omega) (by omega)]
    · refine (z4 j hj).trans ?_
      rw [y0 _ (by omega), xall _ (by omega) (by omega) (by omega)]
  · rw [zc _ (by omega), w3 _ (by omega), hXb, sI_nk (by omega), xa _ (by omega)]; exact c8
  · rw [zx (a + 107) (by omega) (by omega) (by omega) (by omega) (by omega), zx (a + 110) (by omega) (by omega) (by omega) (by omega) (by omega)]; exact c9 i hi
  · rw [za 11 (by omega), zm 4 (by omega) (by omega) (by omega) (by omega)]; exact c10
  · exact hm.fr hs.lr (za 10 (by omega)) (fun q q1 q2 => zx q (by omega) (by omega) (by omega) (by omega) (by omega)) (fun j _ => by rw [zx _ (by omega) (by omega) (by omega) (by omega) (by omega)])
  · exact hq.fr (zx _ (by omega) (by omega) (by omega) (by omega) (by omega)) (zx _ (by omega) (by omega) (by omega) (by omega) (by omega)) (fun j _ => by rw [zx _ (by omega) (by omega) (by omega) (by omega) (by omega)]) (zm 32 (by omega) (by omega) (by omega) (by omega)) (fun j _ => by rw [zx _ (by omega) (by omega) (by omega) (by omega) (by omega)])
