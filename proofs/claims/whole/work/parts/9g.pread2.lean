/-- what a token is, in both -/
def TokR (X Y : Mx) (tp m e : Nat) (β : Nat → Nat) (st be : Nat) : Prop := st ≤ be ∧ be ≤ e ∧ X.1 tp 7 = nI st ∧ X.1 tp 8 = nI be ∧ Y.1 m 9 = nI st ∧ Y.1 m 7 = nI be ∧ Y.1 m 10 = nI (be - st) ∧
  ((st = e ∧ X.1 tp 6 = nI 0 ∧ Y.1 m 8 = nI 0) ∨
   (st < be ∧ X.1 tp 6 = nI 1 ∧ Y.1 m 8 = nI 1 ∧ (∀ j, st ≤ j → j < be → knd (β j) = 1) ∧ Y.2 m 13 = nJ (cd β st (min (be - st) 6))) ∨
   (st < be ∧ X.1 tp 6 = nI 2 ∧ Y.1 m 8 = nI 2 ∧ (∀ j, st ≤ j → j < be → knd (β j) = 2) ∧ Y.1 m 11 = nI (vl β st (min (be - st) 4))) ∨
   (be = st + 1 ∧ X.1 tp 6 = nI 3 ∧ knd (β st) = 3 ∧ Y.1 m 12 = nI (β st) ∧ Y.1 m 8 = nI (if β st = 59 ∨ β st = 45 ∨ β st = 95 then 3 else 4)))
theorem c_110 {σ : Sh} {tp e be N kd : Nat} {X : Mx} {β : Nat → Nat} (hp : tpOK σ tp) (he : e ≤ 700) (hb : ∀ j, j < e → β j < 256 ∧ X.1 (tp + 1) j = sx (β j)) (h5 : X.1 tp 5 = nI e) (h6 : X.1 tp 6 = nI kd) (hk : kd < 3) (h8 : X.1 tp 8 = nI be) (hbe : be ≤ e) : f_X7_step_110 σ tp (N + 1) X = if be < e ∧ knd (β be) = kd then f_X7_step_110 σ tp N (sI X tp 8 (nI (be + 1))) else some X := by
  obtain ⟨t0, t1, t2, t3, t4, t5⟩ := hp
  rw [f_X7_step_110]
  simp only [litM]
  rw [ldI_t t0, h6, if_neg (nI_ne (by omega) (by omega) (by omega)), ldI_t t0, ldI_t t0, h5, h8]
  by_cases q : be < e
  · rw [if_neg (by rw [n_le (by omega) (by omega)]; omega)]
    simp only [ldR, t0, t1, if_true, Option.bind_some]
    have k3 := knd_3 (β be)
    rw [ldI_t t0, h8, ldA_t t3 (by omega) (by omega), (hb be q).2, ldI_t t0, h6, (by_kind (β be) (hb be q).1).1, ldI_t t0, h8, stI_t t0, nI_add]
    by_cases q2 : knd (β be) = kd
    · rw [if_pos (by rw [q2]), if_pos ⟨q, q2⟩]
    · rw [if_neg (nI_ne q2 (by omega) (by omega)), if_neg (fun h => q2 h.2)]
  · rw [if_pos (by rw [n_le (by omega) (by omega)]; omega), if_neg (fun h => q h.1)]
theorem m_108 {τ : Sh} {m e st be M : Nat} {Y : Mx} {β : Nat → Nat} (hm : mdOK τ m) (he : e ≤ 700) (hb : ∀ j, j < e → β j < 256 ∧ Y.1 (m + 1) j = nI (β j)) (h6 : Y.1 m 6 = nI e) (h7 : Y.1 m 7 = nI be) (h9 : Y.1 m 9 = nI st) (hst : st ≤ be) (hbe : be ≤ e) (hl : ∀ j, st ≤ j → j < be → knd (β j) = 1) (hc : Y.2 m 13 = nJ (cd β st (min (be - st) 6))) : ∃ Y1, f_X10_goes_108 τ m (M + 1) Y = (if be < e ∧ knd (β be) = 1 then f_X10_goes_108 τ m M Y1 else some Y1) ∧ GoF Y Y1 m ∧ Y1.1 m 9 = nI st ∧ (be < e ∧ knd (β be) = 1 → Y1.1 m 7 = nI (be + 1) ∧ Y1.2 m 13 = nJ (cd β st (min (be + 1 - st) 6))) ∧ (¬ (be < e ∧ knd (β be) = 1) → Y1.1 m 7 = nI be ∧ Y1.1 m 8 = nI 1 ∧ Y1.1 m 10 = nI (be - st) ∧ Y1.2 m 13 = nJ (cd β st (min (be - st) 6))) := by
  have ba := s10_byteAt (β := β) hm he h6 hbe (fun j hj => (hb j hj).2)
  have m0 := hm.1
  by_cases q : be < e ∧ knd (β be) = 1
  · rw [if_pos q.1] at ba
    have bk := by_kind (β be) (hb be q.1).1
    have k1 := knd_l q.2
    by_cases q6 : 6 ≤ be - st
    · refine ⟨sI Y m 7 (nI (be + 1)), ?_, GoF.fld (by omega), by rw [sI_nk (by omega)]; exact h9, fun _ => ⟨sI_eq, ?_⟩, fun h => absurd q h⟩
      · rw [f_X10_goes_108]
        unfold f_X10_goes_159
        simp only [litM]
        rw [ldI_t m0, h7, ba, Option.bind_some, bk.2.1, q.2, if_neg (by decide), ldI_t m0, ldI_t m0, h7, h9, sub_n hst, if_pos (by rw [n_le (by omega) (by omega)]; omega), ldI_t m0, h7, stI_t m0, nI_add, if_pos ⟨q.1, rfl⟩]
      · rw [sI_2, hc, show min (be - st) 6 = 6 by omega, show min (be + 1 - st) 6 = 6 by omega]
    · refine ⟨sI (sJ Y m 13 (nJ (cd β st (be + 1 - st)))) m 7 (nI (be + 1)), ?_, GoF.lng.trans (GoF.fld (by omega)), by rw [sI_nk (by omega)]; exact h9, fun _ => ⟨sI_eq, ?_⟩, fun h => absurd q h⟩
      · have cl : cd β st (be - st) < 2 ^ 30 := by
          have c1 := cd_lt (β := β) (s := st) (n := be - st) (fun j hj => hl _ (by omega) (by omega))
          have c2 : 32 ^ (be - st) ≤ 32 ^ 6 := Nat.pow_le_pow_right (by omega) (by omega)
          omega
        rw [f_X10_goes_108]
        unfold f_X10_goes_159
        simp only [litM]
        rw [ldI_t m0, h7, ba, Option.bind_some, bk.2.1, q.2, if_neg (by decide), ldI_t m0, ldI_t m0, h7, h9, sub_n hst, if_neg (by rw [n_le (by omega) (by omega)]; omega), ldJ_t m0, ldI_t m0, h7, ba, Option.bind_some, stJ_t m0, ldI_t m0]
        rw [show (sJ Y m 13 ((Y.2 m 13 <<< (Int32.toInt64 (nI 5) &&& 63)) ||| (Int32.toInt64 (nI (β be) - nI 96)))).1 m 7 = nI be from h7, stI_t m0, nI_add, hc, show min (be - st) 6 = be - st by omega, nJ_add cl k1, if_pos ⟨q.1, rfl⟩]
        rw [show 32 * cd β st (be - st) + (β be - 96) = cd β st (be + 1 - st) by
          rw [show be + 1 - st = (be - st) + 1 by omega, cd, show st + (be - st) = be by omega]]
      · rw [sI_2, show min (be + 1 - st) 6 = be + 1 - st by omega]
        exact if_pos ⟨rfl, rfl⟩
  · refine ⟨sI (sI Y m 8 (nI 1)) m 10 (nI (be - st)), ?_, (GoF.fld (by omega)).trans (GoF.fld (by omega)), by rw [sI_nk (by omega), sI_nk (by omega)]; exact h9, fun h => absurd h q, fun _ => ⟨by rw [sI_nk (by omega), sI_nk (by omega)]; exact h7, by rw [sI_nk (by omega), sI_eq], sI_eq, hc⟩⟩
    have hv : f_X10_isLetter (if be < e then nI (β be) else nI 0) = nI 0 := by
      by_cases q1 : be < e
      · rw [if_pos q1, (by_kind (β be) (hb be q1).1).2.1, decide_eq_false (fun h => q ⟨q1, h⟩)]; rfl
      · rw [if_neg q1]; decide
    rw [f_X10_goes_108]
    unfold f_X10_goes_295
    simp only [litM]
    rw [ldI_t m0, h7, ba, Option.bind_some, hv, if_pos rfl, stI_t m0, ldI_t m0, ldI_t m0, sI_nk (by omega), sI_nk (by omega), h7, h9, sub_n hst, stI_t m0, if_neg q]
theorem m_187 {τ : Sh} {m e st be M : Nat} {Y : Mx} {β : Nat → Nat} (hm : mdOK τ m) (he : e ≤ 700) (hb : ∀ j, j < e → β j < 256 ∧ Y.1 (m + 1) j = nI (β j)) (h6 : Y.1 m 6 = nI e) (h7 : Y.1 m 7 = nI be) (h9 : Y.1 m 9 = nI st) (hst : st ≤ be) (hbe : be ≤ e) (hl : ∀ j, st ≤ j → j < be → knd (β j) = 2) (hc : Y.1 m 11 = nI (vl β st (min (be - st) 4))) : ∃ Y1, f_X10_goes_187 τ m (M + 1) Y = (if be < e ∧ knd (β be) = 2 then f_X10_goes_187 τ m M Y1 else some Y1) ∧ GoF Y Y1 m ∧ Y1.1 m 9 = nI st ∧ (be < e ∧ knd (β be) = 2 → Y1.1 m 7 = nI (be + 1) ∧ Y1.1 m 11 = nI (vl β st (min (be + 1 - st) 4))) ∧ (¬ (be < e ∧ knd (β be) = 2) → Y1.1 m 7 = nI be ∧ Y1.1 m 8 = nI 2 ∧ Y1.1 m 10 = nI (be - st) ∧ Y1.1 m 11 = nI (vl β st (min (be - st) 4))) := by
  have ba := s10_byteAt (β := β) hm he h6 hbe (fun j hj => (hb j hj).2)
  have m0 := hm.1
  by_cases q : be < e ∧ knd (β be) = 2
  · rw [if_pos q.1] at ba
    have bk := by_kind (β be) (hb be q.1).1
    have k1 := knd_d q.2
    by_cases q6 : 4 ≤ be - st
    · refine ⟨sI Y m 7 (nI (be + 1)), ?_, GoF.fld (by omega), by rw [sI_nk (by omega)]; exact h9, fun _ => ⟨sI_eq, ?_⟩, fun h => absurd q h⟩
      · rw [f_X10_goes_187]
        unfold f_X10_goes_237
        simp only [litM]
        rw [ldI_t m0, h7, ba, Option.bind_some, bk.2.2, q.2, if_neg (by decide), ldI_t m0, ldI_t m0, h7, h9, sub_n hst, if_pos (by rw [n_le (by omega) (by omega)]; omega), ldI_t m0, h7, stI_t m0, nI_add, if_pos ⟨q.1, rfl⟩]
      · rw [sI_nk (by omega), hc, show min (be - st) 4 = 4 by omega, show min (be + 1 - st) 4 = 4 by omega]
    · refine ⟨sI (sI Y m 11 (nI (vl β st (be + 1 - st)))) m 7 (nI (be + 1)), ?_, (GoF.fld (by omega)).trans (GoF.fld (by omega)), by rw [sI_nk (by omega), sI_nk (by omega)]; exact h9, fun _ => ⟨sI_eq, ?_⟩, fun h => absurd q h⟩
      · rw [f_X10_goes_187]
        unfold f_X10_goes_237
        simp only [litM]
        rw [ldI_t m0, h7, ba, Option.bind_some, bk.2.2, q.2, if_neg (by decide), ldI_t m0, ldI_t m0, h7, h9, sub_n hst, if_neg (by rw [n_le (by omega) (by omega)]; omega), ldI_t m0, ldI_t m0, h7, ba, Option.bind_some, stI_t m0, ldI_t m0, sI_nk (by omega), h7, stI_t m0, nI_add, hc, show min (be - st) 4 = be - st by omega, if_pos ⟨q.1, rfl⟩, nI_mul, nI_add, sub_n (by omega)]
        rw [show 10 * vl β st (be - st) + β be - 48 = vl β st (be + 1 - st) by
          rw [show be + 1 - st = (be - st) + 1 by omega, vl, show st + (be - st) = be by omega]
          omega]
      · rw [sI_nk (by omega), sI_eq, show min (be + 1 - st) 4 = be + 1 - st by omega]
  · refine ⟨sI (sI Y m 8 (nI 2)) m 10 (nI (be - st)), ?_, (GoF.fld (by omega)).trans (GoF.fld (by omega)), by rw [sI_nk (by omega), sI_nk (by omega)]; exact h9, fun h => absurd h q, fun _ => ⟨by rw [sI_nk (by omega), sI_nk (by omega)]; exact h7, by rw [sI_nk (by omega), sI_eq], sI_eq, by rw [sI_nk (by omega), sI_nk (by omega)]; exact hc⟩⟩
    have hv : f_X10_isDigit (if be < e then nI (β be) else nI 0) = nI 0 := by
      by_cases q1 : be < e
      · rw [if_pos q1, (by_kind (β be) (hb be q1).1).2.2, decide_eq_false (fun h => q ⟨q1, h⟩)]; rfl
      · rw [if_neg q1]; decide
    rw [f_X10_goes_187]
    unfold f_X10_goes_295
    simp only [litM]
    rw [ldI_t m0, h7, ba, Option.bind_some, hv, if_pos rfl, stI_t m0, ldI_t m0, ldI_t m0, sI_nk (by omega), sI_nk (by omega), h7, h9, sub_n hst, stI_t m0, if_neg q]
theorem word_loop {σ τ : Sh} {tp m e st : Nat} {β : Nat → Nat} (hp : tpOK σ tp) (hm : mdOK τ m) : ∀ (r be N M : Nat) (X Y : Mx), be + r = e → r < N → r < M → BR X.1 Y.1 tp m e β → X.1 tp 5 = nI e → X.1 tp 6 = nI 1 → X.1 tp 7 = nI st → X.1 tp 8 = nI be → Y.1 m 6 = nI e → Y.1 m 7 = nI be → Y.1 m 9 = nI st → st < be → (∀ j, st ≤ j → j < be → knd (β j) = 1) → Y.2 m 13 = nJ (cd β st (min (be - st) 6)) → ∃ be1 X1 Y1, be ≤ be1 ∧ f_X7_step_110 σ tp N X = some X1 ∧ f_X10_goes_108 τ m M Y = some Y1 ∧ StF X X1 tp ∧ GoF Y Y1 m ∧ TokR X1 Y1 tp m e β st be1 := by
  intro r
  induction r with
  | zero =>
    intro be N M X Y hr hN hM hB h5 h6 h7 h8 y6 y7 y9 hst hl hc
    obtain ⟨N, rfl⟩ : ∃ N', N = N' + 1 := ⟨N - 1, by omega⟩
    obtain ⟨M, rfl⟩ : ∃ N', M = N' + 1 := ⟨M - 1, by omega⟩
    have c1 := c_110 (N := N) hp hB.1 (fun j hj => ⟨(hB.2 j hj).1, (hB.2 j hj).2.2⟩) h5 h6 (by omega) h8 (show be ≤ e by omega)
    obtain ⟨Y1, c2, c3, c4, -, c5⟩ := m_108 (M := M) hm hB.1 (fun j hj => ⟨(hB.2 j hj).1, (hB.2 j hj).2.1⟩) y6 y7 y9 (show st ≤ be by omega) (show be ≤ e by omega) hl hc
    rw [if_neg (by omega)] at c1 c2
    obtain ⟨d1, d2, d3, d4⟩ := c5 (by omega)
    exact ⟨be, X, Y1, Nat.le_refl _, c1, c2, StF.refl, c3, by omega, by omega, h7, h8, c4, d1, d3, Or.inr (Or.inl ⟨hst, h6, d2, hl, d4⟩)⟩
  | succ r ih =>
    intro be N M X Y hr hN hM hB h5 h6 h7 h8 y6 y7 y9 hst hl hc
    obtain ⟨N, rfl⟩ : ∃ N', N = N' + 1 := ⟨N - 1, by omega⟩
    obtain ⟨M, rfl⟩ : ∃ N', M = N' + 1 := ⟨M - 1, by omega⟩
    have c1 := c_110 (N := N) hp hB.1 (fun j hj => ⟨(hB.2 j hj).1, (hB.2 j hj).2.2⟩) h5 h6 (by omega) h8 (show be ≤ e by omega)
    obtain ⟨Y1, c2, c3, c4, c6, c5⟩ := m_108 (M := M) hm hB.1 (fun j hj => ⟨(hB.2 j hj).1, (hB.2 j hj).2.1⟩) y6 y7 y9 (show st ≤ be by omega) (show be ≤ e by omega) hl hc
    by_cases q : be < e ∧ knd (β be) = 1
    · rw [if_pos q] at c1 c2
      obtain ⟨d1, d2⟩ := c6 q
      obtain ⟨be1, X2, Y2, i1, i2, i3, i4, i5, i6⟩ := ih (be + 1) N M (sI X tp 8 (nI (be + 1))) Y1 (by omega) (by omega) (by omega) (hB.fr (sI_ne (by omega)) (c3.2.1 _ (by omega))) (by rw [sI_nk (by omega)]; exact h5) (by rw [sI_nk (by omega)]; exact h6) (by rw [sI_nk (by omega)]; exact h7) sI_eq (by rw [c3.2.2 6 (by omega)]; exact y6) d1 c4 (by omega) (fun j j1 j2 => by
        by_cases e : j = be
        · rw [e]; exact q.2
        · exact hl j j1 (by omega)) d2
      exact ⟨be1, X2, Y2, by omega, c1.trans i2, c2.trans i3, (StF.fld (by omega)).trans i4, c3.trans i5, i6⟩
    · rw [if_neg q] at c1 c2
      obtain ⟨d1, d2, d3, d4⟩ := c5 q
      exact ⟨be, X, Y1, Nat.le_refl _, c1, c2, StF.refl, c3, by omega, by omega, h7, h8, c4, d1, d3, Or.inr (Or.inl ⟨hst, h6, d2, hl, d4⟩)⟩
theorem digit_loop {σ τ : Sh} {tp m e st : Nat} {β : Nat → Nat} (hp : tpOK σ tp) (hm : mdOK τ m) : ∀ (r be N M : Nat) (X Y : Mx), be + r = e → r < N → r < M → BR X.1 Y.1 tp m e β → X.1 tp 5 = nI e → X.1 tp 6 = nI 2 → X.1 tp 7 = nI st → X.1 tp 8 = nI be → Y.1 m 6 = nI e → Y.1 m 7 = nI be → Y.1 m 9 = nI st → st < be → (∀ j, st ≤ j → j < be → knd (β j) = 2) → Y.1 m 11 = nI (vl β st (min (be - st) 4)) → ∃ be1 X1 Y1, be ≤ be1 ∧ f_X7_step_110 σ tp N X = some X1 ∧ f_X10_goes_187 τ m M Y = some Y1 ∧ StF X X1 tp ∧ GoF Y Y1 m ∧ TokR X1 Y1 tp m e β st be1 := by
  intro r
  induction r with
  | zero =>
    intro be N M X Y hr hN hM hB h5 h6 h7 h8 y6 y7 y9 hst hl hc
    obtain ⟨N, rfl⟩ : ∃ N', N = N' + 1 := ⟨N - 1, by omega⟩
    obtain ⟨M, rfl⟩ : ∃ N', M = N' + 1 := ⟨M - 1, by omega⟩
    have c1 := c_110 (N := N) hp hB.1 (fun j hj => ⟨(hB.2 j hj).1, (hB.2 j hj).2.2⟩) h5 h6 (by omega) h8 (show be ≤ e by omega)
    obtain ⟨Y1, c2, c3, c4, -, c5⟩ := m_187 (M := M) hm hB.1 (fun j hj => ⟨(hB.2 j hj).1, (hB.2 j hj).2.1⟩) y6 y7 y9 (show st ≤ be by omega) (show be ≤ e by omega) hl hc
    rw [if_neg (by omega)] at c1 c2
    obtain ⟨d1, d2, d3, d4⟩ := c5 (by omega)
    exact ⟨be, X, Y1, Nat.le_refl _, c1, c2, StF.refl, c3, by omega, by omega, h7, h8, c4, d1, d3, Or.inr (Or.inr (Or.inl ⟨hst, h6, d2, hl, d4⟩))⟩
  | succ r ih =>
    intro be N M X Y hr hN hM hB h5 h6 h7 h8 y6 y7 y9 hst hl hc
    obtain ⟨N, rfl⟩ : ∃ N', N = N' + 1 := ⟨N - 1, by omega⟩
    obtain ⟨M, rfl⟩ : ∃ N', M = N' + 1 := ⟨M - 1, by omega⟩
    have c1 := c_110 (N := N) hp hB.1 (fun j hj => ⟨(hB.2 j hj).1, (hB.2 j hj).2.2⟩) h5 h6 (by omega) h8 (show be ≤ e by omega)
    obtain ⟨Y1, c2, c3, c4, c6, c5⟩ := m_187 (M := M) hm hB.1 (fun j hj => ⟨(hB.2 j hj).1, (hB.2 j hj).2.1⟩) y6 y7 y9 (show st ≤ be by omega) (show be ≤ e by omega) hl hc
    by_cases q : be < e ∧ knd (β be) = 2
    · rw [if_pos q] at c1 c2
      obtain ⟨d1, d2⟩ := c6 q
      obtain ⟨be1, X2, Y2, i1, i2, i3, i4, i5, i6⟩ := ih (be + 1) N M (sI X tp 8 (nI (be + 1))) Y1 (by omega) (by omega) (by omega) (hB.fr (sI_ne (by omega)) (c3.2.1 _ (by omega))) (by rw [sI_nk (by omega)]; exact h5) (by rw [sI_nk (by omega)]; exact h6) (by rw [sI_nk (by omega)]; exact h7) sI_eq (by rw [c3.2.2 6 (by omega)]; exact y6) d1 c4 (by omega) (fun j j1 j2 => by
        by_cases e : j = be
        · rw [e]; exact q.2
        · exact hl j j1 (by omega)) d2
      exact ⟨be1, X2, Y2, by omega, c1.trans i2, c2.trans i3, (StF.fld (by omega)).trans i4, c3.trans i5, i6⟩
    · rw [if_neg q] at c1 c2
      obtain ⟨d1, d2, d3, d4⟩ := c5 q
      exact ⟨be, X, Y1, Nat.le_refl _, c1, c2, StF.refl, c3, by omega, by omega, h7, h8, c4, d1, d3, Or.inr (Or.inr (Or.inl ⟨hst, h6, d2, hl, d4⟩))⟩
