theorem step_both {σ τ : Sh} {tp m e p : Nat} {β : Nat → Nat} {X Y : Mx} (hp : tpOK σ tp) (hm : mdOK τ m) (hB : BR X.1 Y.1 tp m e β) (x5 : X.1 tp 5 = nI e) (x8 : X.1 tp 8 = nI p) (y6 : Y.1 m 6 = nI e) (y7 : Y.1 m 7 = nI p) (hpe : p ≤ e) : ∃ st be X1 Y1, p ≤ st ∧ f_X7_step σ X tp = some X1 ∧ f_X10_goes τ Y m = some Y1 ∧ StF X X1 tp ∧ GoF Y Y1 m ∧ TokR X1 Y1 tp m e β st be := by
  have he := hB.1
  have t0 := hp.1
  have t1 := hp.2.1
  have t3 : shK σ (tp + 1) = 9 := hp.2.2.2.1
  have t4 : shN σ (tp + 1) = 700 := hp.2.2.2.2.1
  have m0 := hm.1
  obtain ⟨st, X1, Y1, s1, s2, s3, s4, s5, s6, s7, s8⟩ := skip_both (β := β) hp hm (e - p) p FU FU (sI X tp 7 (nI p)) Y (by omega) (by rw [FU_40000]; omega) (by rw [FU_40000]; omega) (hB.fr (sI_ne (by omega)) rfl) (by rw [sI_nk (by omega)]; exact x5) y6 sI_eq y7
  have fX : StF X X1 tp := (StF.fld (by omega)).trans s5
  have hB1 : BR X1.1 Y1.1 tp m e β := hB.fr (fX.2.1 _ (by omega)) (s7.2.1 _ (by omega))
  have x5' : X1.1 tp 5 = nI e := by rw [fX.2.2 5 (by omega) (by omega) (by omega)]; exact x5
  have y6' : Y1.1 m 6 = nI e := by rw [s7.2.2 6 (by omega)]; exact y6
  -- the class's memory where the token begins
  obtain ⟨X2, hX2⟩ : ∃ X2, X2 = sI (sI X1 tp 8 (nI st)) tp 6 (nI 0) := ⟨_, rfl⟩
  have fX2 : StF X X2 tp := by rw [hX2]; exact fX.trans ((StF.fld (by omega)).trans (StF.fld (by omega)))
  have x25 : X2.1 tp 5 = nI e := by rw [fX2.2.2 5 (by omega) (by omega) (by omega)]; exact x5
  have x27 : X2.1 tp 7 = nI st := by rw [hX2, sI_nk (by omega), sI_nk (by omega)]; exact s6
  have x28 : X2.1 tp 8 = nI st := by rw [hX2, sI_nk (by omega), sI_eq]
  have x26 : X2.1 tp 6 = nI 0 := by rw [hX2, sI_eq]
  have ba := s10_byteAt (Y := sI (sJ (sI Y1 m 9 (nI st)) m 13 (nJ 0)) m 11 (nI 0)) (β := β) hm he (by rw [sI_nk (by omega)]; show (sI Y1 m 9 (nI st)).1 m 6 = _; rw [sI_nk (by omega)]; exact y6') s2 (fun j hj => by rw [sI_na (by omega)]; show (sI Y1 m 9 (nI st)).1 (m + 1) j = _; rw [sI_na (by omega)]; exact (hB1.2 j hj).2.1)
  obtain ⟨Y2, hY2⟩ : ∃ Y2, Y2 = sI (sI (sJ (sI Y1 m 9 (nI st)) m 13 (nJ 0)) m 11 (nI 0)) m 12 (if st < e then nI (β st) else nI 0) := ⟨_, rfl⟩
  have fY2 : GoF Y Y2 m := by rw [hY2]; exact s7.trans ((GoF.fld (by omega)).trans (GoF.lng.trans ((GoF.fld (by omega)).trans (GoF.fld (by omega)))))
  have y2 : ∀ j, j ≠ 9 → j ≠ 11 → j ≠ 12 → Y2.1 m j = Y1.1 m j := fun j a b c => by
    rw [hY2, sI_nk c, sI_nk b]
    show (sI Y1 m 9 (nI st)).1 m j = _
    rw [sI_nk a]
  have y29 : Y2.1 m 9 = nI st := by
    rw [hY2, sI_nk (by omega), sI_nk (by omega)]
    show (sI Y1 m 9 (nI st)).1 m 9 = _
    rw [sI_eq]
  have y211 : Y2.1 m 11 = nI 0 := by rw [hY2, sI_nk (by omega), sI_eq]
  have y212 : Y2.1 m 12 = if st < e then nI (β st) else nI 0 := by rw [hY2, sI_eq]
  have y213 : Y2.2 m 13 = nJ 0 := by rw [hY2]; exact if_pos ⟨rfl, rfl⟩
  have y27 : Y2.1 m 7 = nI st := by rw [y2 7 (by omega) (by omega) (by omega)]; exact s8
  have y26 : Y2.1 m 6 = nI e := by rw [y2 6 (by omega) (by omega) (by omega)]; exact y6'
  have hB2 : BR X2.1 Y2.1 tp m e β := hB.fr (fX2.2.1 _ (by omega)) (fY2.2.1 _ (by omega))
  have cl : f_X7_step σ X tp = if st < e then f_X7_step_110 σ tp FU (sI (sI X2 tp 6 (nI (knd (β st)))) tp 8 (nI (st + 1))) else some X2 := by
    unfold f_X7_step
    rw [grd_t t0, ldI_t t0, x8, stI_t t0, s3]
    unfold f_X7_step_60
    simp only [litM]
    rw [ldI_t t0, s6, stI_t t0, stI_t t0, ← hX2, ldI_t t0, ldI_t t0, x27, x25]
    by_cases q : st < e
    · rw [if_neg (by rw [n_le (by omega) (by omega)]; omega), if_pos q]
      simp only [ldR, t0, t1, if_true, Option.bind_some]
      rw [ldI_t t0, x27, ldA_t t3 (by omega) (by omega), (hB2.2 st q).2.2, (by_kind (β st) (hB2.2 st q).1).1, stI_t t0, ldI_t t0, sI_nk (by omega), x28, stI_t t0, nI_add]
    · rw [if_pos (by rw [n_le (by omega) (by omega)]; omega), if_neg q]
  have md : f_X10_goes τ Y m = if st < e then (if knd (β st) = 1 then f_X10_goes_108 τ m FU Y2 else if knd (β st) = 2 then f_X10_goes_187 τ m FU Y2 else some (sI (sI (sI Y2 m 7 (nI (st + 1))) m 8 (nI (if β st = 59 ∨ β st = 45 ∨ β st = 95 then 3 else 4))) m 10 (nI 1))) else some (sI (sI Y2 m 8 (nI 0)) m 10 (nI 0)) := by
    unfold f_X10_goes
    rw [grd_t m0, s4]
    unfold f_X10_goes_50
    simp only [litM]
    rw [ldI_t m0, s8, stI_t m0, stJ_t m0, show (0 : Int64) = nJ 0 from rfl, stI_t m0, ldI_t m0]
    have e7 : (sI (sJ (sI Y1 m 9 (nI st)) m 13 (nJ 0)) m 11 (nI 0)).1 m 7 = nI st := by
      rw [sI_nk (by omega)]
      show (sI Y1 m 9 (nI st)).1 m 7 = _
      rw [sI_nk (by omega)]; exact s8
    refine Eq.trans (congrArg (fun z => Option.bind (f_X10_byteAt τ (sI (sJ (sI Y1 m 9 (nI st)) m 13 (nJ 0)) m 11 (nI 0)) m z) _) e7) ?_
    rw [ba, Option.bind_some, stI_t m0, ← hY2, ldI_t m0, ldI_t m0, y27, y26]
    by_cases q : st < e
    · rw [if_pos (by rw [n_lt (by omega) (by omega)]; exact q), if_pos q, if_pos q]
      obtain ⟨k1, k2, k3⟩ := by_kind (β st) (hB2.2 st q).1
      have b256 := (hB2.2 st q).1
      rw [k2, k3]
      by_cases q1 : knd (β st) = 1
      · rw [if_pos q1, decide_eq_true q1, if_neg (by decide)]
      · rw [if_neg q1, decide_eq_false q1, if_pos bI_f]
        by_cases q2 : knd (β st) = 2
        · rw [if_pos q2, decide_eq_true q2, if_neg (by decide)]
        · rw [if_neg q2, decide_eq_false q2, if_pos bI_f, ldI_t m0, y27, stI_t m0, nI_add]
          unfold f_X10_goes_287 f_X10_goes_292 f_X10_goes_295
          simp only [litM]
          have fin : ∀ v, (stI τ (sI Y2 m 7 (nI (st + 1))) 8 m 8 (nI v) fun X1 => ldI τ X1 8 m 7 fun v1 => ldI τ X1 8 m 9 fun v2 => stI τ X1 8 m 10 (v1 - v2) fun X3 => some X3) = some (sI (sI (sI Y2 m 7 (nI (st + 1))) m 8 (nI v)) m 10 (nI 1)) := fun v => by
            rw [stI_t m0, ldI_t m0, ldI_t m0, sI_nk (by omega), sI_eq, sI_nk (by omega), sI_nk (by omega), y29, sub_n (by omega), stI_t m0, show st + 1 - st = 1 by omega]
          rw [fin 3, fin 4]
          by_cases a1 : β st = 59
          · rw [if_pos (by rw [a1]), if_pos (Or.inl a1)]
          · rw [if_neg (nI_ne a1 (by omega) (by omega))]
            by_cases a2 : β st = 45
            · rw [if_pos (by rw [a2]), if_pos (Or.inr (Or.inl a2))]
            · rw [if_neg (nI_ne a2 (by omega) (by omega))]
              by_cases a3 : β st = 95
              · rw [if_pos (by rw [a3]), if_pos (Or.inr (Or.inr a3))]
              · rw [if_neg (nI_ne a3 (by omega) (by omega)), if_neg (by omega)]
    · rw [if_neg (by rw [n_lt (by omega) (by omega)]; exact q), if_neg q]
      unfold f_X10_goes_295
      rw [stI_t m0, ldI_t m0, ldI_t m0, sI_nk (by omega), sI_nk (by omega), y27, y29, sub_n (by omega), stI_t m0, Nat.sub_self]
  by_cases q : st < e
  · rw [if_pos q] at cl md
    obtain ⟨X3, hX3⟩ : ∃ X3, X3 = sI (sI X2 tp 6 (nI (knd (β st)))) tp 8 (nI (st + 1)) := ⟨_, rfl⟩
    rw [← hX3] at cl
    have fX3 : StF X X3 tp := by rw [hX3]; exact fX2.trans ((StF.fld (by omega)).trans (StF.fld (by omega)))
    have x35 : X3.1 tp 5 = nI e := by rw [fX3.2.2 5 (by omega) (by omega) (by omega)]; exact x5
    have x36 : X3.1 tp 6 = nI (knd (β st)) := by rw [hX3, sI_nk (by omega), sI_eq]
    have x37 : X3.1 tp 7 = nI st := by rw [hX3, sI_nk (by omega), sI_nk (by omega)]; exact x27
    have x38 : X3.1 tp 8 = nI (st + 1) := by rw [hX3, sI_eq]
    have hB3 : BR X3.1 Y2.1 tp m e β := hB.fr (fX3.2.1 _ (by omega)) (fY2.2.1 _ (by omega))
    obtain ⟨M, hM⟩ : ∃ M, FU = M + 1 := ⟨39999, FU_40000⟩
    rcases knd_3 (β st) with k | k | k
    · rw [if_pos k, hM] at md
      rw [k] at x36
      obtain ⟨Y3, c2, c3, c4, c6, -⟩ := m_108 (M := M) (st := st) hm he (fun j hj => ⟨(hB2.2 j hj).1, (hB2.2 j hj).2.1⟩) y26 y27 y29 (Nat.le_refl _) s2 (fun j a b => absurd b (by omega)) (by rw [Nat.sub_self]; exact y213)
      rw [if_pos ⟨q, k⟩] at c2
      obtain ⟨d1, d2⟩ := c6 ⟨q, k⟩
      obtain ⟨be, X4, Y4, i1, i2, i3, i4, i5, i6⟩ := word_loop (st := st) hp hm (e - (st + 1)) (st + 1) FU M X3 Y3 (by omega) (by rw [FU_40000]; omega) (by rw [FU_40000] at hM; omega) (hB3.fr rfl (c3.2.1 _ (by omega))) x35 x36 x37 x38 (by rw [c3.2.2 6 (by omega)]; exact y26) d1 c4 (by omega) (fun j a b => by rw [show j = st by omega]; exact k) d2
      exact ⟨st, be, X4, Y4, s1, cl.trans i2, md.trans (c2.trans i3), fX3.trans i4, fY2.trans (c3.trans i5), i6⟩
    · rw [if_neg (by omega), if_pos k, hM] at md
      rw [k] at x36
      obtain ⟨Y3, c2, c3, c4, c6, -⟩ := m_187 (M := M) (st := st) hm he (fun j hj => ⟨(hB2.2 j hj).1, (hB2.2 j hj).2.1⟩) y26 y27 y29 (Nat.le_refl _) s2 (fun j a b => absurd b (by omega)) (by rw [Nat.sub_self]; exact y211)
      rw [if_pos ⟨q, k⟩] at c2
      obtain ⟨d1, d2⟩ := c6 ⟨q, k⟩
      obtain ⟨be, X4, Y4, i1, i2, i3, i4, i5, i6⟩ := digit_loop (st := st) hp hm (e - (st + 1)) (st + 1) FU M X3 Y3 (by omega) (by rw [FU_40000]; omega) (by rw [FU_40000] at hM; omega) (hB3.fr rfl (c3.2.1 _ (by omega))) x35 x36 x37 x38 (by rw [c3.2.2 6 (by omega)]; exact y26) d1 c4 (by omega) (fun j a b => by rw [show j = st by omega]; exact k) d2
      exact ⟨st, be, X4, Y4, s1, cl.trans i2, md.trans (c2.trans i3), fX3.trans i4, fY2.trans (c3.trans i5), i6⟩
    · rw [if_neg (by omega), if_neg (by omega)] at md
      rw [k] at x36
      have c1 : f_X7_step_110 σ tp FU X3 = some X3 := by
        rw [hM, f_X7_step_110]
        simp only [litM]
        rw [ldI_t t0, x36, if_pos rfl]
      refine ⟨st, st + 1, X3, _, s1, cl.trans c1, md, fX3, fY2.trans ((GoF.fld (by omega)).trans ((GoF.fld (by omega)).trans (GoF.fld (by omega)))), by omega, by omega, x37, x38, ?_, ?_, ?_, Or.inr (Or.inr (Or.inr ⟨rfl, x36, k, ?_, ?_⟩))⟩
      · rw [sI_nk (by omega), sI_nk (by omega), sI_nk (by omega)]; exact y29
      · rw [sI_nk (by omega), sI_nk (by omega), sI_eq]
      · rw [sI_eq, show st + 1 - st = 1 by omega]
      · rw [sI_nk (by omega), sI_nk (by omega), sI_nk (by omega), y212, if_pos q]
      · rw [sI_nk (by omega), sI_eq]
  · rw [if_neg q] at cl md
    refine ⟨st, st, X2, _, s1, cl, md, fX2, fY2.trans ((GoF.fld (by omega)).trans (GoF.fld (by omega))), Nat.le_refl _, s2, x27, x28, ?_, ?_, ?_, Or.inl ⟨by omega, x26, ?_⟩⟩
    · rw [sI_nk (by omega), sI_nk (by omega)]; exact y29
    · rw [sI_nk (by omega), sI_nk (by omega)]; exact y27
    · rw [sI_eq, Nat.sub_self]
    · rw [sI_nk (by omega), sI_eq]
