theorem leave_both {σ τ : Sh} {Xs Ys X : Mx} {q s L R m t p b : Nat} {w x4 x5 : Int32} {v : Nat → Nat} {k39 : Mx → Int32 → Int32 → Int32 → Option (Int32 × Mx)} (hq : quOK σ q) (hs : stOK σ s L R) (hm : mdOK τ m) (hsq : s + 16 < q) (ht : t < 2) (hp : p ≤ 10) (h5 : Xs.1 q 5 = nI p) (hS : StR Xs.1 s L R (Ys.1 (m + 3)) 0) (hSt : StR Xs.1 (q + 1) (q + 1 + 5) (q + 1 + 9) (Ys.1 (m + 3)) 931) (hcp : ∀ j, j < 931 → Ys.1 (m + 3) (931 + j) = Ys.1 (m + 3) j) (hv : ∀ i, i < p → v i < 180 ∧ Xs.1 (q + 30) i = nI (v i) ∧ Ys.1 (m + 13) i = nI (v i) ∧ bt (Xs.1 (sd t L R) 1) (v i / 9) = true ∧ bt (Xs.1 (sd t L R) 0) (v i % 9) = true) (hinc : ∀ i j, i < j → j < p → v i < v j) (h : TrC Xs q (sd t (q + 1 + 5) (q + 1 + 9)) p v X) :
    ∃ X1 Y1 N, f_X3_leavePicked σ X q s (nI t) (nI b) = some X1 ∧ f_X10_alone_54 k39 τ m (nI t) w (nI p) x4 x5 (nI b) FU Ys (nI 0) = f_X10_alone_54 k39 τ m (nI t) w (nI p) x4 x5 (nI b) (N + 1) Y1 (nI p) ∧ TrC Xs q (sd t (q + 1 + 5) (q + 1 + 9)) p v X1 ∧ StR X1.1 (q + 1) (q + 1 + 5) (q + 1 + 9) (Y1.1 (m + 3)) 931 ∧ Y1.2 = Ys.2 ∧ (∀ r, r ≠ m + 3 → Y1.1 r = Ys.1 r) ∧ (∀ j, j < 931 → Y1.1 (m + 3) j = Ys.1 (m + 3) j) := by
  have qs := hq.2.2.2.2.2.2.1
  have q0 := hq.1
  have htt := sd_in qs t
  obtain ⟨n1, n2, X1, Y1, eF, eG, hI⟩ := up_loop2 (fun N (S : Mx) i => f_X3_leavePicked_20 σ q s (nI t) (nI b) (sd t L R) (sd t (q + 1 + 5) (q + 1 + 9)) N S (nI i)) (fun N (T : Mx) i => f_X10_alone_54 k39 τ m (nI t) w (nI p) x4 x5 (nI b) N T (nI i)) p (fun i S T => LvI Xs Ys q m (sd t (q + 1 + 5) (q + 1 + 9)) t p v i S T) (by
    intro N M i S T hi hI
    exact leave_step (n := N) (n' := M) (w := w) (x4 := x4) (x5 := x5) (k39 := k39) hq hs hm hsq ht hp hi h5 hS hcp hv hinc hI) FU FU 0 X Ys (by omega) ⟨h, rfl, fun _ _ => rfl, fun _ _ => rfl, fun _ _ _ => rfl, fun i hi => absurd hi (Nat.not_lt_zero _)⟩ (by rw [FU_40000]; omega) (by rw [FU_40000]; omega)
  obtain ⟨hT1, a4, a5, a6, a7, a8⟩ := hI
  obtain ⟨a1, a2, a3⟩ := id hT1
  have hT := hSt.tab ht
  have hTo := hS.tab ht
  obtain ⟨b0, b1, b2, b3, b4, b5, b6⟩ := id hT
  have e0 : Xs.1 (sd t (q + 1 + 5) (q + 1 + 9)) 0 = Xs.1 (sd t L R) 0 := by
    rw [b0, hTo.1, show 931 + 200 * t = 931 + (0 + 200 * t) by omega, hcp _ (by omega)]
  have e1 : Xs.1 (sd t (q + 1 + 5) (q + 1 + 9)) 1 = Xs.1 (sd t L R) 1 := by
    rw [b1, hTo.2.1, show 931 + 200 * t + 1 = 931 + (0 + 200 * t + 1) by omega, hcp _ (by omega)]
  have x0 : ∀ r, r ≠ sd t (q + 1 + 5) (q + 1 + 9) + 3 → r < q + 18 → X1.1 r = Xs.1 r := fun r h1 h2 => a2 r h1 (Or.inl h2)
  refine ⟨X1, Y1, n2, ?_, eG, hT1, ?_, a4, a5, fun j hj => a6 j (by omega)⟩
  · unfold f_X3_leavePicked
    simp only [litM]
    rw [grd_t q0, s_sideOf hs ht, Option.bind_some]
    simp only [ldR, q0, hq.2.1, if_true, Option.bind_some]
    rw [s_sideOf qs ht, Option.bind_some]
    refine Eq.trans eF ?_
    show f_X3_leavePicked_20 σ q s (nI t) (nI b) (sd t L R) (sd t (q + 1 + 5) (q + 1 + 9)) (n1 + 1) X1 (nI p) = _
    rw [f_X3_leavePicked_20]
    rw [ldI_t q0, x0 q (by omega) (by omega), h5]
    exact if_pos (Int32.le_refl _)
  · refine hSt.own qs.lr ht (fun r h1 h2 h3 => x0 r (by omega) (by omega)) (fun j h1 h2 => a6 _ (by omega)) ?_ (fun c hc => by rw [x0 _ (by omega) (by omega)]; exact hc)
    refine ⟨?_, ?_, ?_, ?_, fun c hc hb => ?_, fun k c hk hc hbk hb => ?_, fun k c hk hc hab => ?_⟩
    · rw [x0 _ (by omega) (by omega), a6 _ (by omega)]; exact b0
    · rw [x0 _ (by omega) (by omega), a6 _ (by omega)]; exact b1
    · rw [x0 _ (by omega) (by omega)]; exact b2
    · rw [x0 _ (by omega) (by omega)]; exact b3
    · rw [x0 _ (by omega) (by omega)] at hb
      rw [x0 _ (by omega) (by omega), x0 _ (by omega) (by omega), a6 _ (by omega), a6 _ (by omega)]
      exact b4 c hc hb
    · rw [x0 _ (by omega) (by omega)] at hb hbk
      rw [show 931 + 200 * t + 20 + 9 * k + c = 951 + 200 * t + (9 * k + c) by omega]
      by_cases e : ∃ i, i < p ∧ v i = 9 * k + c
      · obtain ⟨i, hi, e⟩ := e
        rw [← e]
        exact a8 i hi
      · have hn : ∀ i, i < p → v i ≠ 9 * k + c := fun i hi q => e ⟨i, hi, q⟩
        rw [a3 _ (by omega) hn, a7 _ (by omega) hn, b5 k c hk hc hbk hb]
        exact congrArg (Ys.1 (m + 3)) (by omega)
    · rw [x0 _ (by omega) (by omega)] at hab
      have hn : ∀ i, i < p → v i ≠ 9 * k + c := fun i hi q => by
        obtain ⟨v1, v2, v3, v4, v5⟩ := hv i hi
        rw [q, show (9 * k + c) / 9 = k by omega] at v4
        rw [q, show (9 * k + c) % 9 = c by omega] at v5
        rw [e0, e1, v4, v5] at hab
        rcases hab with h | h <;> cases h
      rw [a3 _ (by omega) hn]
      exact b6 k c hk hc hab
theorem pw2 : ∀ p, p ≤ 10 → nI 1 <<< (nI p &&& nI 31) = nI (2 ^ p) ∧ 1 ≤ 2 ^ p ∧ 2 ^ p ≤ 1024 := by decide +kernel
theorem low_b {b : Nat} (hb : b < 1024) : low 20 (nI b) := fun d hd => by
  rw [bt_n (by omega), Nat.testBit_lt_two_pow (Nat.lt_of_lt_of_le (show b < 2 ^ 20 by omega) (Nat.pow_le_pow_right (by omega) hd))]
def AlI (Xs Yb : Mx) (q m tt p : Nat) (v : Nat → Nat) (b : Nat) (X Y : Mx) (f mo be x4 x5 : Int32) : Prop := TrC Xs q tt p v X ∧ FrQ Yb Y m ∧ Y.1 (m + 13) = Yb.1 (m + 13) ∧ Y.1 m 0 = Yb.1 m 0 ∧ ((b = 0 ∧ f = nI 317 ∧ mo = nI 0 ∧ be = nI 0 ∧ x4 = -(nI 1) ∧ x5 = nI 0) ∨ (0 < b ∧ ∃ f0 bb, f0 ≤ 299 ∧ bb < 1024 ∧ f = nI f0 ∧ be = nI bb ∧ mo = nI (cnt 20 (nI bb)) ∧ x4 = nI f0 ∧ x5 = nI bb))
theorem al_step {σ τ : Sh} {Xs Yb X Y : Mx} {q s L R m t p b n n' : Nat} {w f mo be x4 x5 : Int32} {v : Nat → Nat} (hq : quOK σ q) (hs : stOK σ s L R) (hm : mdOK τ m) (hsq : s + 16 < q) (ht : t < 2) (hp : p ≤ 10) (h5 : Xs.1 q 5 = nI p) (hS : StR Xs.1 s L R (Yb.1 (m + 3)) 0) (hC : ∀ W : Nat → Int32, (∀ j, j < 931 → W (931 + j) = Yb.1 (m + 3) j) → StR Xs.1 (q + 1) (q + 1 + 5) (q + 1 + 9) W 931) (hv : ∀ i, i < p → v i < 180 ∧ Xs.1 (q + 30) i = nI (v i) ∧ Yb.1 (m + 13) i = nI (v i) ∧ bt (Xs.1 (sd t L R) 1) (v i / 9) = true ∧ bt (Xs.1 (sd t L R) 0) (v i % 9) = true) (hinc : ∀ i j, i < j → j < p → v i < v j) (hb : b < 2 ^ p) (h : AlI Xs Yb q m (sd t (q + 1 + 5) (q + 1 + 9)) p v b X Y f mo be x4 x5) :
    ∃ X1 Y1 f1 mo1 be1 y4 y5, f_X3_findAlone_21 σ q s (nI t) (n + 1) X f mo be (nI b) = f_X3_findAlone_21 σ q s (nI t) n X1 f1 mo1 be1 (nI (b + 1)) ∧ f_X10_alone_39 τ m (nI t) w (nI p) (n' + 1) Y x4 x5 (nI b) = f_X10_alone_39 τ m (nI t) w (nI p) n' Y1 y4 y5 (nI (b + 1)) ∧ AlI Xs Yb q m (sd t (q + 1 + 5) (q + 1 + 9)) p v (b + 1) X1 Y1 f1 mo1 be1 y4 y5 := by
  obtain ⟨hT, hQ, h13, h0, hst⟩ := h
  obtain ⟨w1, w2, w3⟩ := pw2 p hp
  have qs := hq.2.2.2.2.2.2.1
  have q0 := hq.1
  have qg := hq.2.2.2.2.2.2.2.1
  have m0 := hm.1
  have htt := sd_in qs t
  -- the reference tries anew
  obtain ⟨Ys, hYs⟩ : ∃ Ys, Ys = wF Y (m + 3) (fun j => if 931 ≤ j ∧ j < 931 + 931 then Y.1 (m + 3) (0 + (j - 931)) else Y.1 (m + 3) j) := ⟨_, rfl⟩
  have e2 : f_X10_tries τ Y m = some Ys := by rw [hYs]; exact s10_tries hm
  have y2a : ∀ j, j < 931 → Ys.1 (m + 3) j = Yb.1 (m + 3) j := fun j hj => by rw [hYs, wF_at, if_neg (by omega)]; exact hQ.2.2.2 j hj
  have y2b : ∀ j, j < 931 → Ys.1 (m + 3) (931 + j) = Yb.1 (m + 3) j := fun j hj => by rw [hYs, wF_at, if_pos (by omega), Nat.zero_add, Nat.add_sub_cancel_left]; exact hQ.2.2.2 j hj
  have y2q : ∀ r, r ≠ m + 3 → Ys.1 r = Y.1 r := fun r hr => by rw [hYs, wF_fn hr]
  have f2 : FrQ Y Ys m := FrQ.of3 (by rw [hYs]; rfl) y2q (fun j hj => by rw [y2a j hj, hQ.2.2.2 j hj])
  obtain ⟨X1, Y1, N, l1, l2, l3, l4, l5, l6, l7⟩ := leave_both (Ys := Ys) (b := b) (w := w) (x4 := x4) (x5 := x5) (k39 := f_X10_alone_39 τ m (nI t) w (nI p) n') hq hs hm hsq ht hp h5 (hS.mvw (fun j hj => by rw [Nat.zero_add]; exact y2a j hj)) (hC _ y2b) (fun j hj => by rw [y2b j hj, y2a j hj]) (fun i hi => by rw [y2q _ (by omega), h13]; exact hv i hi) hinc hT
  obtain ⟨X2, Y2, c, r1, r2, r3, r4, r5, r6, r7⟩ := trial_run hq hm l4
  have hT2 : TrC Xs q (sd t (q + 1 + 5) (q + 1 + 9)) p v X2 := ⟨r4.1.trans l3.1, fun r h1 h2 => by rw [r4.2 r (by omega)]; exact l3.2.1 r h1 h2, fun j hj hn => by rw [r4.2 _ (by omega)]; exact l3.2.2 j hj hn⟩
  have fY : FrQ Yb Y2 m := hQ.trans (f2.trans ((FrQ.of3 l5 l6 l7).trans r5.q))
  have y13 : Y2.1 (m + 13) = Yb.1 (m + 13) := by rw [r5.2.1 (m + 13) (by omega) (by omega), l6 _ (by omega), y2q _ (by omega), h13]
  have y0 : Y2.1 m 0 = Yb.1 m 0 := by rw [r5.2.2 0 (by omega) (by omega) (by omega), l6 _ (by omega), y2q _ (by omega), h0]
  have xq : X.1 q 5 = nI p := by rw [hT.2.1 q (by omega) (by omega), h5]
  have lb := low_b (show b < 1024 by omega)
  have cb := cnt_le 20 (nI b)
  have cl : f_X3_findAlone_21 σ q s (nI t) (n + 1) X f mo be (nI b) = (if nI c < f then f_X3_findAlone_21 σ q s (nI t) n X2 (nI c) (nI (cnt 20 (nI b))) (nI b) (nI (b + 1)) else if nI c = f then (if nI (cnt 20 (nI b)) ≤ mo then f_X3_findAlone_21 σ q s (nI t) n X2 f mo be (nI (b + 1)) else f_X3_findAlone_21 σ q s (nI t) n X2 (nI c) (nI (cnt 20 (nI b))) (nI b) (nI (b + 1))) else f_X3_findAlone_21 σ q s (nI t) n X2 f mo be (nI (b + 1))) := by
    rw [f_X3_findAlone_21]
    unfold f_X3_findAlone_87 f_X3_findAlone_103
    simp only [litM]
    rw [ldI_t q0, xq, w1, if_neg (by rw [n_le (by omega) (by omega)]; omega), l1, Option.bind_some]
    simp only [ldR, q0, hq.2.1, hq.2.2.1, if_true, Option.bind_some]
    rw [r1, Option.bind_some, ldI_t qg.1, r6.2.1.1, ldI_t qg.1, r6.2.1.1, ldI_t qg.1, r6.2.1.1, s_bitCount lb, nI_add]
  have md : f_X10_alone_39 τ m (nI t) w (nI p) (n' + 1) Y x4 x5 (nI b) = (if x4 = -(nI 1) then f_X10_alone_39 τ m (nI t) w (nI p) n' Y2 (nI c) (nI b) (nI (b + 1)) else if x4 < nI c then f_X10_alone_39 τ m (nI t) w (nI p) n' Y2 x4 x5 (nI (b + 1)) else if nI c = x4 then (if nI (cnt 20 x5) < nI (cnt 20 (nI b)) then f_X10_alone_39 τ m (nI t) w (nI p) n' Y2 (nI c) (nI b) (nI (b + 1)) else f_X10_alone_39 τ m (nI t) w (nI p) n' Y2 x4 x5 (nI (b + 1))) else f_X10_alone_39 τ m (nI t) w (nI p) n' Y2 (nI c) (nI b) (nI (b + 1))) := by
    rw [f_X10_alone_39]
    simp only [litM]
    rw [w1, if_neg (by rw [n_le (by omega) (by omega)]; omega), e2, Option.bind_some]
    refine Eq.trans l2 ?_
    rw [f_X10_alone_54]
    refine Eq.trans (if_pos (Int32.le_refl _)) ?_
    unfold f_X10_alone_183 f_X10_alone_193
    simp only [litM]
    rw [r2, Option.bind_some, ldI_t m0, r6.2.1.2.1, ldI_t m0, r6.2.1.2.1, ldI_t m0, r6.2.1.2.1, s_bits, Option.bind_some, s_bits, Option.bind_some, nI_add]
  rcases hst with ⟨rfl, rfl, rfl, rfl, rfl, rfl⟩ | ⟨hb0, f0, bb, g1, g2, rfl, rfl, rfl, rfl, rfl⟩
  · rw [if_pos (by rw [n_lt (by omega) (by omega)]; omega)] at cl
    rw [if_pos rfl] at md
    exact ⟨X2, Y2, nI c, nI (cnt 20 (nI 0)), nI 0, nI c, nI 0, cl, md, hT2, fY, y13, y0, Or.inr ⟨by omega, c, 0, r3, by omega, rfl, rfl, rfl, rfl, rfl⟩⟩
  · have cbb := cnt_le 20 (nI bb)
    rw [if_neg (by rw [m_eq (by omega)]; exact not_false)] at md
    by_cases c1 : c < f0
    · rw [if_pos (by rw [n_lt (by omega) (by omega)]; exact c1)] at cl
      rw [if_neg (by rw [n_lt (by omega) (by omega)]; omega), if_neg (nI_ne (by omega) (by omega) (by omega))] at md
      exact ⟨X2, Y2, nI c, nI (cnt 20 (nI b)), nI b, nI c, nI b, cl, md, hT2, fY, y13, y0, Or.inr ⟨by omega, c, b, r3, by omega, rfl, rfl, rfl, rfl, rfl⟩⟩
    · rw [if_neg (by rw [n_lt (by omega) (by omega)]; exact c1)] at cl
      by_cases c2 : c = f0
      · subst c2
        rw [if_pos rfl] at cl
        rw [if_neg (by rw [n_lt (by omega) (by omega)]; omega), if_pos rfl] at md
        by_cases c3 : cnt 20 (nI bb) < cnt 20 (nI b)
        · rw [if_neg (by rw [n_le (by omega) (by omega)]; omega)] at cl
          rw [if_pos (by rw [n_lt (by omega) (by omega)]; exact c3)] at md
          exact ⟨X2, Y2, nI c, nI (cnt 20 (nI b)), nI b, nI c, nI b, cl, md, hT2, fY, y13, y0, Or.inr ⟨by omega, c, b, r3, by omega, rfl, rfl, rfl, rfl, rfl⟩⟩
        · rw [if_pos (by rw [n_le (by omega) (by omega)]; omega)] at cl
          rw [if_neg (by rw [n_lt (by omega) (by omega)]; exact c3)] at md
          exact ⟨X2, Y2, nI c, nI (cnt 20 (nI bb)), nI bb, nI c, nI bb, cl, md, hT2, fY, y13, y0, Or.inr ⟨by omega, c, bb, r3, g2, rfl, rfl, rfl, rfl, rfl⟩⟩
      · rw [if_neg (nI_ne c2 (by omega) (by omega))] at cl
        rw [if_pos (by rw [n_lt (by omega) (by omega)]; omega)] at md
        exact ⟨X2, Y2, nI f0, nI (cnt 20 (nI bb)), nI bb, nI f0, nI bb, cl, md, hT2, fY, y13, y0, Or.inr ⟨by omega, f0, bb, g1, g2, rfl, rfl, rfl, rfl, rfl⟩⟩
