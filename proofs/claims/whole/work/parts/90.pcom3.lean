/-! ===== commit: what must be so ===== -/
theorem bt_and {v w : Int32} {d : Nat} : bt (v &&& w) d = (bt v d && bt w d) := by
  show (v &&& w).toBitVec.getLsbD d = _
  rw [Int32.toBitVec_and, BitVec.getLsbD_and]
  rfl
theorem msk_get : ∀ c, c < 9 → ∀ d, d < 32 → bt ((nI 1 <<< (nI c &&& nI 31)) - nI 1) d = decide (d < c) := by decide +kernel
theorem cnt_msk {h w : Int32} {c : Nat} (hw : ∀ d, d < 32 → bt w d = (bt h d && decide (d < c))) : ∀ n, n ≤ 32 → cnt n w = cnt (min n c) h := by
  intro n
  induction n with
  | zero => intro _; rw [Nat.zero_min]; rfl
  | succ n ih =>
    intro hn
    have e := hw n (by omega)
    by_cases q : n < c
    · rw [decide_eq_true q, Bool.and_true] at e
      rw [show min (n + 1) c = n + 1 by omega]
      have i := ih (by omega)
      rw [show min n c = n by omega] at i
      cases b : bt h n with
      | true => rw [cnt_t b, cnt_t (e.trans b), i]
      | false => rw [cnt_f b, cnt_f (e.trans b), i]
    · rw [decide_eq_false q, Bool.and_false] at e
      rw [cnt_f e, ih (by omega), show min (n + 1) c = min n c by omega]
theorem s_placeAmong {σ : Sh} {X : Mx} {g c : Nat} (hg : tabOK σ g) (hc : c < 9) (lo : low 9 (X.1 g 0)) : f_X5_placeAmong σ X g (nI c) = some (nI (cnt c (X.1 g 0))) := by
  unfold f_X5_placeAmong
  simp only [litM]
  rw [ldI_t hg.1, s_bitCount (fun d hd => by rw [bt_and, lo d (by omega), Bool.false_and]), cnt_msk (h := X.1 g 0) (c := c) (fun d hd => by rw [bt_and, msk_get c hc d hd]) 20 (by omega), show min 20 c = c by omega]
def DmR (S : Nat → Nat → Int32) (s p : Nat) (W : Nat → Int32) : Prop := ∀ i, i < p → ∃ kd f q, kd < 3 ∧ f < 9 ∧ q < 9 ∧ S (s + 13) i = nI kd ∧ S (s + 14) i = nI f ∧ S (s + 15) i = nI q ∧ W (601 + i) = nI kd ∧ W (605 + i) = nI f ∧ (kd = 2 → W (609 + i) = nI q) ∧ (kd ≠ 2 → q = f)
def DmI (X Y : Mx) (s m k : Nat) (S T : Mx) (p : Nat) : Prop := p ≤ k ∧ S.2 = X.2 ∧ T.2 = Y.2 ∧ (∀ q, q ≠ s → q ≠ s + 13 → q ≠ s + 14 → q ≠ s + 15 → S.1 q = X.1 q) ∧ (∀ j, j ≠ 5 → S.1 s j = X.1 s j) ∧ S.1 s 5 = nI p ∧ (∀ i, k ≤ i → S.1 (s + 13) i = X.1 (s + 13) i ∧ S.1 (s + 14) i = X.1 (s + 14) i ∧ S.1 (s + 15) i = X.1 (s + 15) i) ∧ (∀ q, q ≠ m + 3 → T.1 q = Y.1 q) ∧ (∀ j, (j < 601 ∨ 613 ≤ j) → T.1 (m + 3) j = Y.1 (m + 3) j) ∧ (∀ i, k ≤ i → i < 4 → T.1 (m + 3) (601 + i) = Y.1 (m + 3) (601 + i) ∧ T.1 (m + 3) (605 + i) = Y.1 (m + 3) (605 + i) ∧ T.1 (m + 3) (609 + i) = Y.1 (m + 3) (609 + i)) ∧ DmR S.1 s p (T.1 (m + 3))
theorem DmI.skip {X Y S T : Mx} {s m k p : Nat} (h : DmI X Y s m k S T p) : DmI X Y s m (k + 1) S T p := by
  obtain ⟨h1, h2, h3, h4, h5, h6, h7, h8, h9, h10, h11⟩ := h
  exact ⟨by omega, h2, h3, h4, h5, h6, fun i hi => h7 i (by omega), h8, h9, fun i hi => h10 i (by omega), h11⟩
theorem DmI.put {X Y S T : Mx} {s m k p kd f q : Nat} {y0 : Int32} (h : DmI X Y s m k S T p) (hk : k < 4) (hkd : kd < 3) (hf : f < 9) (hq : q < 9) (h2 : kd = 2 → y0 = nI q) (hn : kd ≠ 2 → q = f) : DmI X Y s m (k + 1) (sI (sI (sI (sI S (s + 13) p (nI kd)) (s + 14) p (nI f)) (s + 15) p (nI q)) s 5 (nI (p + 1))) (sI (sI (sI T (m + 3) (601 + p) (nI kd)) (m + 3) (605 + p) (nI f)) (m + 3) (609 + p) y0) (p + 1) := by
  obtain ⟨h1, hS2, h3, h4, h5, h6, h7, h8, h9, h10, h11⟩ := h
  have a13 : ∀ i, (sI (sI (sI (sI S (s + 13) p (nI kd)) (s + 14) p (nI f)) (s + 15) p (nI q)) s 5 (nI (p + 1))).1 (s + 13) i = if i = p then nI kd else S.1 (s + 13) i := fun i => by
    rw [sI_na (by omega), sI_na (by omega), sI_na (by omega)]
    by_cases e : i = p
    · rw [e, sI_eq, if_pos rfl]
    · rw [sI_nk e, if_neg e]
  have a14 : ∀ i, (sI (sI (sI (sI S (s + 13) p (nI kd)) (s + 14) p (nI f)) (s + 15) p (nI q)) s 5 (nI (p + 1))).1 (s + 14) i = if i = p then nI f else S.1 (s + 14) i := fun i => by
    rw [sI_na (by omega), sI_na (by omega)]
    by_cases e : i = p
    · rw [e, sI_eq, if_pos rfl]
    · rw [sI_nk e, sI_na (by omega), if_neg e]
  have a15 : ∀ i, (sI (sI (sI (sI S (s + 13) p (nI kd)) (s + 14) p (nI f)) (s + 15) p (nI q)) s 5 (nI (p + 1))).1 (s + 15) i = if i = p then nI q else S.1 (s + 15) i := fun i => by
    rw [sI_na (by omega)]
    by_cases e : i = p
    · rw [e, sI_eq, if_pos rfl]
    · rw [sI_nk e, sI_na (by omega), sI_na (by omega), if_neg e]
  have bw : ∀ j, j ≠ 601 + p → j ≠ 605 + p → j ≠ 609 + p → (sI (sI (sI T (m + 3) (601 + p) (nI kd)) (m + 3) (605 + p) (nI f)) (m + 3) (609 + p) y0).1 (m + 3) j = T.1 (m + 3) j := fun j e1 e2 e3 => by rw [sI_nk e3, sI_nk e2, sI_nk e1]
  refine ⟨by omega, hS2, h3, fun q q1 q2 q3 q4 => by rw [sI_ne q1, sI_ne q4, sI_ne q3, sI_ne q2]; exact h4 q q1 q2 q3 q4, fun j hj => by rw [sI_nk hj, sI_na (by omega), sI_na (by omega), sI_na (by omega)]; exact h5 j hj, sI_eq, fun i hi => ?_, fun q hq => by rw [sI_ne hq, sI_ne hq, sI_ne hq]; exact h8 q hq, fun j hj => by rw [bw j (by omega) (by omega) (by omega)]; exact h9 j hj, fun i hi hi4 => ?_, fun i hi => ?_⟩
  · rw [a13, a14, a15, if_neg (by omega), if_neg (by omega), if_neg (by omega)]
    exact h7 i (by omega)
  · rw [bw _ (by omega) (by omega) (by omega), bw _ (by omega) (by omega) (by omega), bw _ (by omega) (by omega) (by omega)]
    exact h10 i (by omega) hi4
  · by_cases e : i = p
    · subst e
      refine ⟨kd, f, q, hkd, hf, hq, by rw [a13, if_pos rfl], by rw [a14, if_pos rfl], by rw [a15, if_pos rfl], ?_, ?_, fun e => ?_, hn⟩
      · rw [sI_nk (by omega), sI_nk (by omega), sI_eq]
      · rw [sI_nk (by omega), sI_eq]
      · rw [sI_eq]; exact h2 e
    · obtain ⟨kd', f', q', g1, g2, g3, g4, g5, g6, g7, g8, g9, g10⟩ := h11 i (by omega)
      refine ⟨kd', f', q', g1, g2, g3, by rw [a13, if_neg e]; exact g4, by rw [a14, if_neg e]; exact g5, by rw [a15, if_neg e]; exact g6, ?_, ?_, fun e => ?_, g10⟩
      · rw [bw _ (by omega) (by omega) (by omega)]; exact g7
      · rw [bw _ (by omega) (by omega) (by omega)]; exact g8
      · rw [bw _ (by omega) (by omega) (by omega)]; exact g9 e
theorem s_putDemand {σ : Sh} {S : Mx} {s L R p : Nat} {x y w : Int32} (hs : stOK σ s L R) (hp : p < 4) (h5 : S.1 s 5 = nI p) : f_X5_putDemand σ S s x y w = some (sI (sI (sI (sI S (s + 13) p x) (s + 14) p y) (s + 15) p w) s 5 (nI (p + 1))) := by
  obtain ⟨s0, s1, s2, s3, s4, s5, s6, s7, s8, s9, s10, s11, s12, s13, s14, s15, s16, s17, s18⟩ := hs
  unfold f_X5_putDemand
  simp only [litM]
  rw [grd_t s0, ldI_t s0, h5, if_neg (by rw [n_le (by omega) (by omega)]; omega)]
  simp only [ldR, s0, s4, s5, s6, if_true, Option.bind_some]
  rw [ldI_t s0, h5, stA_t s11 (by omega) (by omega), ldI_t s0, sI_na (by omega), h5, stA_t s13 (by omega) (by omega), ldI_t s0, sI_na (by omega), sI_na (by omega), h5, stA_t s15 (by omega) (by omega), ldI_t s0, sI_na (by omega), sI_na (by omega), sI_na (by omega), h5, stI_t s0, nI_add]
theorem c_dstep {σ : Sh} {S : Mx} {s L R g k d f q p n : Nat} {kd : Int32} (hs : stOK σ s L R) (hg : tabOK σ g) (hk : k < d) (hd : d ≤ 4) (hf : f < 9) (hq : q < 9) (hp : p < 4) (lo : low 9 (S.1 g 0)) (h13 : S.1 (s + 13) k = kd) (h14 : S.1 (s + 14) k = nI f) (h15 : S.1 (s + 15) k = nI q) (h5 : S.1 s 5 = nI p) : f_X5_keepDemandsOf_12 σ s g (nI d) (n + 1) S (nI k) = f_X5_keepDemandsOf_12 σ s g (nI d) n (if bt (S.1 g 0) f = true ∧ bt (S.1 g 0) q = true then sI (sI (sI (sI S (s + 13) p kd) (s + 14) p (nI (cnt f (S.1 g 0)))) (s + 15) p (nI (cnt q (S.1 g 0)))) s 5 (nI (p + 1)) else S) (nI (k + 1)) := by
  have hss := id hs
  obtain ⟨s0, s1, s2, s3, s4, s5, s6, s7, s8, s9, s10, s11, s12, s13, s14, s15, s16, s17, s18⟩ := hs
  rw [f_X5_keepDemandsOf_12]
  simp only [litM]
  rw [if_neg (by rw [n_le (by omega) (by omega)]; omega), if_neg (by rw [n_le (by omega) (by omega)]; omega)]
  simp only [ldR, s0, s4, s5, s6, if_true, Option.bind_some]
  rw [ldA_t s13 (by omega) (by omega), ldA_t s15 (by omega) (by omega), h14, h15, s_hasColumn hg, Option.bind_some, inB_n hf (by omega)]
  unfold f_X5_keepDemandsOf_78
  cases e1 : bt (S.1 g 0) f with
  | false => rw [if_pos bI_f, if_neg (by intro h; exact absurd h.1 (by decide))]; simp only [litM, nI_add]
  | true =>
    rw [if_neg (by decide), s_hasColumn hg, Option.bind_some, inB_n hq (by omega)]
    cases e2 : bt (S.1 g 0) q with
    | false => rw [if_pos bI_f, if_neg (by intro h; exact absurd h.2 (by decide))]; simp only [litM, nI_add]
    | true =>
      rw [if_neg (by decide), if_pos ⟨rfl, rfl⟩, ldA_t s11 (by omega) (by omega), h13, s_placeAmong hg hf lo, Option.bind_some, s_placeAmong hg hq lo, Option.bind_some, s_putDemand hss hp h5, Option.bind_some]
      simp only [litM, nI_add]
theorem m_dstep {τ : Sh} {T : Mx} {m k d f q p n kd : Nat} {h : Int32} (hm : mdOK τ m) (hk : k < d) (hd : d ≤ 4) (hkd : kd < 3) (hf : f < 9) (hq : q < 9) (hp : p < 4) (hN : ∀ c, c < 9 → T.1 (m + 12) c = if bt h c = true then nI (cnt c h) else -(nI 1)) (h600 : T.1 (m + 3) 600 = nI d) (h13 : T.1 (m + 3) (601 + k) = nI kd) (h14 : T.1 (m + 3) (605 + k) = nI f) (h15 : kd = 2 → T.1 (m + 3) (609 + k) = nI q) (hn : kd ≠ 2 → q = f) : ∃ y0, (kd = 2 → y0 = nI (cnt q h)) ∧ f_X10_commitsDemands_4 τ m (n + 1) T (nI p) (nI k) = f_X10_commitsDemands_4 τ m n (if bt h f = true ∧ bt h q = true then sI (sI (sI T (m + 3) (601 + p) (nI kd)) (m + 3) (605 + p) (nI (cnt f h))) (m + 3) (609 + p) y0 else T) (nI (if bt h f = true ∧ bt h q = true then p + 1 else p)) (nI (k + 1)) := by
  obtain ⟨m0, m1, m2, m3, m4, m5, m6, m7, m8, m9, m10, m11, m12, m13, m14, m15, m16, m17, mq1, mq2, mq3, mq4, mq5, mq6, mq7, mq8, mq9, mq10, mq11, mq12, mq13, mq14, mq15, mq16, mq17, mn1, mn2, mn3, mn4, mn5, mn6, mn7, mn8, mn9, mn10, mn11, mn12, mn13, mn14, mn15, mn16, mn17⟩ := hm
  have lf := cnt_le f h
  have lq := cnt_le q h
  refine ⟨if kd = 2 then nI (cnt q h) else nI 0, fun e => if_pos e, ?_⟩
  have pre : ∀ kd2 : kd = 2 ∨ kd ≠ 2, f_X10_commitsDemands_4 τ m (n + 1) T (nI p) (nI k) = f_X10_commitsDemands_68 (f_X10_commitsDemands_4 τ m n) τ m (nI p) (nI k) (nI kd) (T.1 (m + 12) f) T (if kd = 2 then T.1 (m + 12) q else nI 0) := by
    intro kd2
    rw [f_X10_commitsDemands_4]
    simp only [litM]
    simp only [ldR, m0, m3, m12, if_true, Option.bind_some, nI_add]
    rw [ldA_t mq3 (by omega) (by omega), h600, if_neg (by rw [n_le (by omega) (by omega)]; omega), ldA_t mq3 (by omega) (by omega), h13, ldA_t mq3 (by omega) (by omega), h14, ldA_t mq12 (by omega) (by omega)]
    rcases kd2 with e | e
    · rw [if_pos (by rw [e]), ldA_t mq3 (by omega) (by omega), h15 e, ldA_t mq12 (by omega) (by omega), if_pos e]
    · rw [if_neg (by rw [n_eq (by omega) (by omega)]; exact e), if_neg e]
  rw [pre (by omega)]
  unfold f_X10_commitsDemands_68 f_X10_commitsDemands_123
  simp only [litM]
  have no : ∀ {c}, c < 9 → bt h c = false → T.1 (m + 12) c = -(nI 1) := fun hc e => by rw [hN _ hc, e]; rfl
  have ye : ∀ {c}, c < 9 → bt h c = true → T.1 (m + 12) c = nI (cnt c h) := fun hc e => by rw [hN _ hc, e]; rfl
  cases e1 : bt h f with
  | false => rw [no hf e1, if_pos rfl, if_neg (by intro h; exact absurd h.1 (by decide)), if_neg (by intro h; exact absurd h.1 (by decide))]; simp only [nI_add]
  | true =>
    rw [ye hf e1, if_neg (by rw [m_eq (by omega)]; exact not_false)]
    cases e2 : bt h q with
    | false =>
      have k2 : kd = 2 := by
        by_cases e : kd = 2
        · exact e
        · rw [hn e, e1] at e2; cases e2
      rw [if_pos k2, no hq e2, if_pos rfl, if_neg (by intro h; exact absurd h.2 (by decide)), if_neg (by intro h; exact absurd h.2 (by decide))]; simp only [nI_add]
    | true =>
      rw [ye hq e2]
      obtain ⟨y0, hy0⟩ : ∃ y0, y0 = if kd = 2 then nI (cnt q h) else nI 0 := ⟨_, rfl⟩
      have ny : ¬ y0 = -(nI 1) := by
        rw [hy0]
        by_cases e : kd = 2
        · rw [if_pos e, m_eq (by omega)]; exact not_false
        · rw [if_neg e, m_eq (by omega)]; exact not_false
      rw [← hy0, if_neg ny, if_pos ⟨rfl, rfl⟩, if_pos ⟨rfl, rfl⟩]
      simp only [ldR, m0, m3, if_true, Option.bind_some, nI_add]
      rw [stA_t mq3 (by omega) (by omega), stA_t mq3 (by omega) (by omega), stA_t mq3 (by omega) (by omega)]
theorem dem_step {σ τ : Sh} {X Y S T : Mx} {s L R g m d k p n n' : Nat} {h : Int32} (hs : stOK σ s L R) (hg : tabOK σ g) (hm : mdOK τ m) (hsg : s + 16 < g) (hX : X.1 g 0 = h) (lo : low 9 h) (hN : ∀ c, c < 9 → Y.1 (m + 12) c = if bt h c = true then nI (cnt c h) else -(nI 1)) (d4 : d ≤ 4) (y6 : Y.1 (m + 3) 600 = nI d) (hD : DmR X.1 s d (Y.1 (m + 3))) (hk : k < d) (hI : DmI X Y s m k S T p) :
    ∃ S1 T1 p1, f_X5_keepDemandsOf_12 σ s g (nI d) (n + 1) S (nI k) = f_X5_keepDemandsOf_12 σ s g (nI d) n S1 (nI (k + 1)) ∧ f_X10_commitsDemands_4 τ m (n' + 1) T (nI p) (nI k) = f_X10_commitsDemands_4 τ m n' T1 (nI p1) (nI (k + 1)) ∧ DmI X Y s m (k + 1) S1 T1 p1 := by
  obtain ⟨h1, h2, h3, h4, h5, h6, h7, h8, h9, h10, h11⟩ := id hI
  obtain ⟨kd, f, q, g1, g2, g3, g4, g5, g6, g7, g8, g9, g10⟩ := hD k hk
  have eg : S.1 g 0 = h := by rw [h4 g (by omega) (by omega) (by omega) (by omega)]; exact hX
  have c1 := c_dstep (n := n) (S := S) (kd := nI kd) hs hg hk d4 g2 g3 (show p < 4 by omega) (by rw [eg]; exact lo) ((h7 k (Nat.le_refl _)).1.trans g4) ((h7 k (Nat.le_refl _)).2.1.trans g5) ((h7 k (Nat.le_refl _)).2.2.trans g6) h6
  rw [eg] at c1
  obtain ⟨y0, z1, z2⟩ := m_dstep (n := n') (T := T) (p := p) (h := h) (q := q) hm hk d4 g1 g2 g3 (show p < 4 by omega) (fun c hc => by rw [h8 (m + 12) (by omega)]; exact hN c hc) (by rw [h9 600 (by omega)]; exact y6) ((h10 k (Nat.le_refl _) (by omega)).1.trans g7) ((h10 k (Nat.le_refl _) (by omega)).2.1.trans g8) (fun e => ((h10 k (Nat.le_refl _) (by omega)).2.2.trans (g9 e))) g10
  by_cases q0 : bt h f = true ∧ bt h q = true
  · rw [if_pos q0] at c1
    rw [if_pos q0, if_pos q0] at z2
    have lf := cnt_le f h
    have lq := cnt_le q h
    exact ⟨sI (sI (sI (sI S (s + 13) p (nI kd)) (s + 14) p (nI (cnt f h))) (s + 15) p (nI (cnt q h))) s 5 (nI (p + 1)), sI (sI (sI T (m + 3) (601 + p) (nI kd)) (m + 3) (605 + p) (nI (cnt f h))) (m + 3) (609 + p) y0, p + 1, c1, z2, hI.put (by omega) g1 (by omega) (by omega) z1 (fun e => by rw [g10 e])⟩
  · rw [if_neg q0] at c1
    rw [if_neg q0, if_neg q0] at z2
    exact ⟨S, T, p, c1, z2, hI.skip⟩
theorem dem_both {σ τ : Sh} {X Y : Mx} {s L R g m d : Nat} {h : Int32} (hs : stOK σ s L R) (hg : tabOK σ g) (hm : mdOK τ m) (hsg : s + 16 < g) (hX : X.1 g 0 = h) (lo : low 9 h) (hN : ∀ c, c < 9 → Y.1 (m + 12) c = if bt h c = true then nI (cnt c h) else -(nI 1)) (d4 : d ≤ 4) (x5 : X.1 s 5 = nI d) (y6 : Y.1 (m + 3) 600 = nI d) (hD : DmR X.1 s d (Y.1 (m + 3))) :
    ∃ X1 Y1 p, f_X5_keepDemandsOf σ X s g = some X1 ∧ f_X10_commitsDemands τ Y m = some Y1 ∧ p ≤ d ∧ X1.2 = X.2 ∧ Y1.2 = Y.2 ∧ (∀ q, q ≠ s → q ≠ s + 13 → q ≠ s + 14 → q ≠ s + 15 → X1.1 q = X.1 q) ∧ (∀ j, j ≠ 5 → X1.1 s j = X.1 s j) ∧ X1.1 s 5 = nI p ∧ (∀ q, q ≠ m + 3 → Y1.1 q = Y.1 q) ∧ (∀ j, (j < 600 ∨ 613 ≤ j) → Y1.1 (m + 3) j = Y.1 (m + 3) j) ∧ Y1.1 (m + 3) 600 = nI p ∧ DmR X1.1 s p (Y1.1 (m + 3)) := by
  obtain ⟨n1, nG, S, ⟨T, p⟩, eF, eG, w1, w2, w3, w4, w5, w6, w7, w8, w9, w10, w11⟩ := up_loop2 (fun n (S : Mx) k => f_X5_keepDemandsOf_12 σ s g (nI d) n S (nI k)) (fun n (T : Mx × Nat) k => f_X10_commitsDemands_4 τ m n T.1 (nI T.2) (nI k)) d (fun k S T => DmI X Y s m k S T.1 T.2) (by
    intro n n' k S ⟨T, p⟩ hk hI
    obtain ⟨S1, T1, p1, e1, e2, e3⟩ := dem_step (n := n) (n' := n') hs hg hm hsg hX lo hN d4 y6 hD hk hI
    exact ⟨S1, (T1, p1), e1, e2, e3⟩) FU FU 0 (sI X s 5 (nI 0)) (Y, 0) (by omega) ⟨Nat.le_refl _, rfl, rfl, fun q h1 _ _ _ => sI_ne h1, fun j hj => sI_nk hj, sI_eq, fun i _ => ⟨sI_na (by omega), sI_na (by omega), sI_na (by omega)⟩, fun _ _ => rfl, fun _ _ => rfl, fun _ _ _ => ⟨rfl, rfl, rfl⟩, fun i hi => absurd hi (Nat.not_lt_zero _)⟩ (by rw [FU_40000]; omega) (by rw [FU_40000]; omega)
  refine ⟨S, sI T (m + 3) 600 (nI p), p, ?_, ?_, w1, w2, w3, w4, w5, w6, fun q hq => by rw [sI_ne hq]; exact w8 q hq, fun j hj => by rw [sI_nk (by omega)]; exact w9 j (by omega), sI_eq, fun i hi => ?_⟩
  · unfold f_X5_keepDemandsOf
    simp only [litM]
    rw [grd_t hs.1, ldI_t hs.1, x5, stI_t hs.1]
    refine Eq.trans eF ?_
    show f_X5_keepDemandsOf_12 σ s g (nI d) (n1 + 1) S (nI d) = _
    rw [f_X5_keepDemandsOf_12]
    exact if_pos (Int32.le_refl _)
  · obtain ⟨m0, m1, m2, m3, m4, m5, m6, m7, m8, m9, m10, m11, m12, m13, m14, m15, m16, m17, mq1, mq2, mq3, mq4, mq5, mq6, mq7, mq8, mq9, mq10, mq11, mq12, mq13, mq14, mq15, mq16, mq17, mn1, mn2, mn3, mn4, mn5, mn6, mn7, mn8, mn9, mn10, mn11, mn12, mn13, mn14, mn15, mn16, mn17⟩ := hm
    unfold f_X10_commitsDemands
    simp only [litM]
    rw [grd_t m0]
    refine Eq.trans eG ?_
    show f_X10_commitsDemands_4 τ m (nG + 1) T (nI p) (nI d) = _
    rw [f_X10_commitsDemands_4]
    simp only [litM]
    simp only [ldR, m0, m3, if_true, Option.bind_some]
    rw [ldA_t mq3 (by omega) (by omega), w9 600 (by omega), y6, if_pos (Int32.le_refl _), stA_t mq3 (by omega) (by omega)]
  · obtain ⟨kd, f, q, g1, g2, g3, g4, g5, g6, g7, g8, g9, g10⟩ := w11 i hi
    have hi' : i < p := hi
    have := w1
    exact ⟨kd, f, q, g1, g2, g3, g4, g5, g6, by rw [sI_nk (by omega)]; exact g7, by rw [sI_nk (by omega)]; exact g8, fun e => by rw [sI_nk (by omega)]; exact g9 e, g10⟩
