/-! ===== edits of a Table and of a row's stretch ===== -/
theorem inB_ex {n : Nat} {w x : Int32} (hn : n < 32) (h : inB n w x = true) : ∃ k, k < n ∧ x = nI k ∧ bt w k = true := by
  rcases i32_cases x n (by omega) with ⟨k, hk, rfl⟩ | hk | ⟨hk, hk2⟩
  · exact ⟨k, hk, rfl, by rw [← inB_n hk hn]; exact h⟩
  · rw [inB_lo hk] at h; cases h
  · rw [inB_hi hk hk2] at h; cases h
theorem TabR.set {X X1 : Nat → Nat → Int32} {W W1 : Nat → Int32} {a o k c : Nat} {v : Int32} (h : TabR X a W o) (hk : k < 20) (hc : c < 9) (bk : bt (X a 1) k = true) (bc : bt (X a 0) c = true) (x0 : X1 a = X a) (x1 : X1 (a + 1) = X (a + 1)) (x2 : X1 (a + 2) = X (a + 2)) (x3 : ∀ j, X1 (a + 3) j = if j = 9 * k + c then v else X (a + 3) j) (w : ∀ j, W1 j = if j = o + 20 + 9 * k + c then v else W j) : TabR X1 a W1 o := by
  obtain ⟨b0, b1, b2, b3, b4, b5, b6⟩ := h
  unfold TabR
  rw [x0, x1, x2]
  refine ⟨by rw [w, if_neg (by omega)]; exact b0, by rw [w, if_neg (by omega)]; exact b1, b2, b3, fun d hd hb => ?_, fun i d hi hd q1 q2 => ?_, fun i d hi hd q => ?_⟩
  · rw [w, if_neg (by omega), w, if_neg (by omega)]; exact b4 d hd hb
  · rw [x3, w]
    by_cases e : 9 * i + d = 9 * k + c
    · rw [if_pos e, if_pos (by omega)]
    · rw [if_neg e, if_neg (by omega)]; exact b5 i d hi hd q1 q2
  · rw [x3, if_neg (fun e => ?_)]
    · exact b6 i d hi hd q
    · have e1 : i = k := by omega
      have e2 : d = c := by omega
      subst e1; subst e2
      rw [bk, bc] at q
      rcases q with q | q <;> cases q
theorem TabR.insert {X X1 : Nat → Nat → Int32} {W W1 : Nat → Int32} {a o k : Nat} (h : TabR X a W o) (hk : k < 20) (bk : bt (X a 1) k = false) (x00 : X1 a 0 = X a 0) (x01 : X1 a 1 = X a 1 ||| ((1 : Int32) <<< (nI k &&& 31))) (x1 : X1 (a + 1) = X (a + 1)) (x2 : X1 (a + 2) = X (a + 2)) (x3 : X1 (a + 3) = X (a + 3)) (w : ∀ j, W1 j = if o + 20 + 9 * k ≤ j ∧ j < o + 20 + 9 * k + 9 then nI 9999 else if j = o + 1 then W (o + 1) ||| ((1 : Int32) <<< (nI k &&& 31)) else W j) : TabR X1 a W1 o := by
  obtain ⟨b0, b1, b2, b3, b4, b5, b6⟩ := h
  unfold TabR
  rw [x00, x01, x1, x2, x3]
  refine ⟨by rw [w, if_neg (by omega), if_neg (by omega)]; exact b0, by rw [w, if_neg (by omega), if_pos rfl, b1], b2, low_set b3 hk (by omega), fun d hd hb => ?_, fun i d hi hd q1 q2 => ?_, fun i d hi hd q => ?_⟩
  · rw [w, if_neg (by omega), if_neg (by omega), w, if_neg (by omega), if_neg (by omega)]; exact b4 d hd hb
  · rw [bt_set (by omega)] at q1
    rw [w]
    by_cases e : i = k
    · subst e
      rw [if_pos (by omega)]
      exact b6 i d hi hd (Or.inl bk)
    · rw [if_neg (by omega), if_neg (by omega)]
      exact b5 i d hi hd (by simpa [e] using q1) q2
  · rw [bt_set (by omega)] at q
    refine b6 i d hi hd (q.imp_left (fun q => ?_))
    rw [Bool.or_eq_false_iff] at q
    exact q.1
theorem TabR.delete {X X1 : Nat → Nat → Int32} {W W1 : Nat → Int32} {a o k : Nat} (h : TabR X a W o) (hk : k < 20) (x00 : X1 a 0 = X a 0) (x01 : X1 a 1 = X a 1 &&& (((1 : Int32) <<< (nI k &&& 31)) ^^^ (-1))) (x1 : X1 (a + 1) = X (a + 1)) (x2 : X1 (a + 2) = X (a + 2)) (x3 : ∀ j, X1 (a + 3) j = if 9 * k ≤ j ∧ j < 9 * k + 9 then nI 9999 else X (a + 3) j) (w : ∀ j, W1 j = if j = o + 1 then W (o + 1) &&& (((1 : Int32) <<< (nI k &&& 31)) ^^^ (-1)) else W j) : TabR X1 a W1 o := by
  obtain ⟨b0, b1, b2, b3, b4, b5, b6⟩ := h
  unfold TabR
  rw [x00, x01, x1, x2]
  refine ⟨by rw [w, if_neg (by omega)]; exact b0, by rw [w, if_pos rfl, b1], b2, low_clr b3 (by omega), fun d hd hb => ?_, fun i d hi hd q1 q2 => ?_, fun i d hi hd q => ?_⟩
  · rw [w, if_neg (by omega), w, if_neg (by omega)]; exact b4 d hd hb
  · rw [bt_clr (by omega), Bool.and_eq_true] at q1
    have hne : i ≠ k := by simpa using q1.2
    rw [x3, if_neg (by omega), w, if_neg (by omega)]
    exact b5 i d hi hd q1.1 q2
  · rw [x3]
    by_cases e : 9 * k ≤ 9 * i + d ∧ 9 * i + d < 9 * k + 9
    · rw [if_pos e]
    · rw [if_neg e]
      rw [bt_clr (by omega)] at q
      refine b6 i d hi hd (q.imp_left (fun q => ?_))
      rw [Bool.and_eq_false_iff] at q
      rcases q with q | q
      · exact q
      · exfalso
        have : i = k := by simpa using q
        omega
theorem TabR.rename {X X1 : Nat → Nat → Int32} {W W1 : Nat → Int32} {a o c : Nat} {n : Int32} (h : TabR X a W o) (hc : c < 9) (x0 : X1 a = X a) (x1 : ∀ j, X1 (a + 1) j = if j = c then n else X (a + 1) j) (x2 : X1 (a + 2) = X (a + 2)) (x3 : X1 (a + 3) = X (a + 3)) (w : ∀ j, W1 j = if j = o + 2 + c then n else W j) : TabR X1 a W1 o := by
  obtain ⟨b0, b1, b2, b3, b4, b5, b6⟩ := h
  unfold TabR
  rw [x0, x2, x3]
  refine ⟨by rw [w, if_neg (by omega)]; exact b0, by rw [w, if_neg (by omega)]; exact b1, b2, b3, fun d hd hb => ?_, fun i d hi hd q1 q2 => ?_, b6⟩
  · rw [x1, w, w]
    rw [if_neg (show o + 11 + d ≠ o + 2 + c by omega)]
    refine ⟨?_, (b4 d hd hb).2⟩
    by_cases e : d = c
    · rw [if_pos e, if_pos (by omega)]
    · rw [if_neg e, if_neg (by omega)]; exact (b4 d hd hb).1
  · rw [w, if_neg (by omega)]; exact b5 i d hi hd q1 q2
theorem cast_E {ty : Int32} : f_X8_cast (nI 9999) ty = nI 9999 := by
  unfold f_X8_cast; exact if_pos rfl
theorem TabR.retype {X X1 : Nat → Nat → Int32} {W W1 : Nat → Int32} {a o c q : Nat} (h : TabR X a W o) (hc : c < 9) (hq : q < 4) (x0 : X1 a = X a) (x1 : X1 (a + 1) = X (a + 1)) (x2 : ∀ j, X1 (a + 2) j = if j = c then nI q else X (a + 2) j) (x3 : ∀ j, X1 (a + 3) j = if j % 9 = c ∧ j < 180 then f_X8_cast (X (a + 3) j) (nI q) else X (a + 3) j)
    (w : ∀ j, ¬ (o + 20 ≤ j ∧ j < o + 200) → W1 j = if j = o + 11 + c then nI q else W j) (w2 : ∀ i d, i < 20 → d < 9 → W1 (o + 20 + 9 * i + d) = if d = c ∧ bt (X a 1) i = true then f_X10_castTo (nI q) (W (o + 20 + 9 * i + d)) else W (o + 20 + 9 * i + d)) : TabR X1 a W1 o := by
  obtain ⟨b0, b1, b2, b3, b4, b5, b6⟩ := h
  unfold TabR
  rw [x0, x1]
  refine ⟨by rw [w _ (by omega), if_neg (by omega)]; exact b0, by rw [w _ (by omega), if_neg (by omega)]; exact b1, b2, b3, fun d hd hb => ?_, fun i d hi hd q1 q2 => ?_, fun i d hi hd q0 => ?_⟩
  · rw [w _ (by omega), if_neg (show o + 2 + d ≠ o + 11 + c by omega), w _ (by omega), x2]
    refine ⟨(b4 d hd hb).1, ?_, ?_⟩
    · by_cases e : d = c
      · rw [if_pos e, if_pos (by omega)]
      · rw [if_neg e, if_neg (by omega)]; exact (b4 d hd hb).2.1
    · by_cases e : d = c
      · rw [if_pos e]; exact ⟨q, hq, rfl⟩
      · rw [if_neg e]; exact (b4 d hd hb).2.2
  · rw [w2 i d hi hd, x3, ← b5 i d hi hd q1 q2]
    by_cases e : d = c
    · rw [if_pos (by omega), if_pos ⟨e, q1⟩, cast_eq _ hq]
    · rw [if_neg (by omega), if_neg (fun z => e z.1)]
  · rw [x3, b6 i d hi hd q0]
    split
    · exact cast_E
    · rfl
theorem TabR.add {X X1 : Nat → Nat → Int32} {W W1 : Nat → Int32} {a o c q : Nat} {n : Int32} (h : TabR X a W o) (hc : c < 9) (hq : q < 4) (bc : bt (X a 0) c = false) (x00 : X1 a 0 = X a 0 ||| ((1 : Int32) <<< (nI c &&& 31))) (x01 : X1 a 1 = X a 1) (x1 : ∀ j, X1 (a + 1) j = if j = c then n else X (a + 1) j) (x2 : ∀ j, X1 (a + 2) j = if j = c then nI q else X (a + 2) j) (x3 : X1 (a + 3) = X (a + 3))
    (w0 : W1 o = W o ||| ((1 : Int32) <<< (nI c &&& 31))) (w1 : W1 (o + 1) = W (o + 1)) (w2 : ∀ d, d < 9 → W1 (o + 2 + d) = if d = c then n else W (o + 2 + d)) (w3 : ∀ d, d < 9 → W1 (o + 11 + d) = if d = c then nI q else W (o + 11 + d)) (w4 : ∀ i d, i < 20 → d < 9 → W1 (o + 20 + 9 * i + d) = if d = c then nI 9999 else W (o + 20 + 9 * i + d)) : TabR X1 a W1 o := by
  obtain ⟨b0, b1, b2, b3, b4, b5, b6⟩ := h
  unfold TabR
  rw [x00, x01, x3]
  refine ⟨by rw [w0, b0], by rw [w1]; exact b1, low_set b2 hc (by omega), b3, fun d hd hb => ?_, fun i d hi hd q1 q2 => ?_, fun i d hi hd q0 => ?_⟩
  · rw [x1, x2, w2 d hd, w3 d hd]
    by_cases e : d = c
    · rw [if_pos e, if_pos e, if_pos e, if_pos e]; exact ⟨rfl, rfl, q, hq, rfl⟩
    · rw [if_neg e, if_neg e, if_neg e, if_neg e]
      rw [bt_set (by omega)] at hb
      exact b4 d hd (by simpa [e] using hb)
  · rw [w4 i d hi hd]
    by_cases e : d = c
    · rw [if_pos e, e]; exact b6 i c hi hc (Or.inr bc)
    · rw [if_neg e]
      rw [bt_set (by omega)] at q2
      exact b5 i d hi hd q1 (by simpa [e] using q2)
  · rw [bt_set (by omega)] at q0
    refine b6 i d hi hd (q0.imp_right (fun z => ?_))
    rw [Bool.or_eq_false_iff] at z
    exact z.1
theorem TabR.drop {X X1 : Nat → Nat → Int32} {W W1 : Nat → Int32} {a o c : Nat} (h : TabR X a W o) (hc : c < 9) (x00 : X1 a 0 = X a 0 &&& (((1 : Int32) <<< (nI c &&& 31)) ^^^ (-1))) (x01 : X1 a 1 = X a 1) (x1 : X1 (a + 1) = X (a + 1)) (x2 : X1 (a + 2) = X (a + 2)) (x3 : ∀ j, X1 (a + 3) j = if j % 9 = c ∧ j < 180 then nI 9999 else X (a + 3) j) (w : ∀ j, W1 j = if j = o then W o &&& (((1 : Int32) <<< (nI c &&& 31)) ^^^ (-1)) else W j) : TabR X1 a W1 o := by
  obtain ⟨b0, b1, b2, b3, b4, b5, b6⟩ := h
  unfold TabR
  rw [x00, x01, x1, x2]
  refine ⟨by rw [w, if_pos rfl, b0], by rw [w, if_neg (by omega)]; exact b1, low_clr b2 (by omega), b3, fun d hd hb => ?_, fun i d hi hd q1 q2 => ?_, fun i d hi hd q => ?_⟩
  · rw [w, if_neg (by omega), w, if_neg (by omega)]
    rw [bt_clr (by omega), Bool.and_eq_true] at hb
    exact b4 d hd hb.1
  · rw [bt_clr (by omega), Bool.and_eq_true] at q2
    have hne : d ≠ c := by simpa using q2.2
    rw [x3, if_neg (by omega), w, if_neg (by omega)]
    exact b5 i d hi hd q1 q2.1
  · rw [x3]
    by_cases e : (9 * i + d) % 9 = c ∧ 9 * i + d < 180
    · rw [if_pos e]
    · rw [if_neg e]
      rw [bt_clr (by omega)] at q
      refine b6 i d hi hd (q.imp_right (fun q => ?_))
      rw [Bool.and_eq_false_iff] at q
      rcases q with q | q
      · exact q
      · exfalso
        have : d = c := by simpa using q
        omega
/-- one side's Table changed, and its stretch of the row: no new columns -/
theorem StR.own {X X1 : Nat → Nat → Int32} {W W1 : Nat → Int32} {s L R b t : Nat} (h : StR X s L R W b) (hLR : (L = s + 5 ∧ R = s + 9) ∨ (L = s + 9 ∧ R = s + 5)) (ht : t < 2) (hX : ∀ q, s ≤ q → q ≤ s + 16 → ¬ (sd t L R ≤ q ∧ q ≤ sd t L R + 3) → X1 q = X q) (hW : ∀ j, j < 931 → ¬ (200 * t ≤ j ∧ j < 200 * t + 200) → W1 (b + j) = W (b + j)) (hT : TabR X1 (sd t L R) W1 (b + 200 * t)) (hbits : ∀ c, bt (X (sd t L R) 0) c = false → bt (X1 (sd t L R) 0) c = false) : StR X1 s L R W1 b := by
  obtain ⟨tL, tR, tB, lB, lL, lR, ⟨d, d1, d2, d3, d4⟩, ⟨p, p1, p2, p3, p4⟩, ⟨q, q1, q2, q3, q4⟩, cs⟩ := h
  have hsd : sd t L R = if t = 0 then L else R := rfl
  have hs' : X1 s = X s := hX s (by omega) (by omega) (by rw [hsd]; split <;> omega)
  have h13 : X1 (s + 13) = X (s + 13) := hX _ (by omega) (by omega) (by rw [hsd]; split <;> omega)
  have h14 : X1 (s + 14) = X (s + 14) := hX _ (by omega) (by omega) (by rw [hsd]; split <;> omega)
  have h15 : X1 (s + 15) = X (s + 15) := hX _ (by omega) (by omega) (by rw [hsd]; split <;> omega)
  have h16 : X1 (s + 16) = X (s + 16) := hX _ (by omega) (by omega) (by rw [hsd]; split <;> omega)
  have hB1 : X1 (s + 1) = X (s + 1) := hX _ (by omega) (by omega) (by rw [hsd]; split <;> omega)
  have hB : TabR X1 (s + 1) W1 (b + 200 * 2) := tB.fr (fun q h1 h2 => hX q (by omega) (by omega) (by rw [hsd]; split <;> omega)) (fun j h1 h2 => by
    obtain ⟨i, rfl⟩ : ∃ i, j = b + i := ⟨j - b, by omega⟩
    exact hW i (by omega) (by omega))
  have hdem : ∀ i, i < d → ∃ kd f r, kd < 3 ∧ f < 9 ∧ r < 9 ∧ X1 (s + 13) i = nI kd ∧ X1 (s + 14) i = nI f ∧ X1 (s + 15) i = nI r ∧ W1 (b + 601 + i) = nI kd ∧ W1 (b + 605 + i) = nI f ∧ (kd = 2 → W1 (b + 609 + i) = nI r) ∧ (kd ≠ 2 → r = f) := by
    intro i hi
    obtain ⟨kd, f, r, c1, c2, c3, c4, c5, c6, c7, c8, c9, c10⟩ := d4 i hi
    have w1 := hW (601 + i) (by omega) (by omega)
    have w2 := hW (605 + i) (by omega) (by omega)
    have w3 := hW (609 + i) (by omega) (by omega)
    rw [← Nat.add_assoc] at w1 w2 w3
    rw [h13, h14, h15]
    exact ⟨kd, f, r, c1, c2, c3, c4, c5, c6, w1.trans c7, w2.trans c8, fun e => w3.trans (c9 e), c10⟩
  have hch : ∀ i, i < 316 → X1 (s + 16) i = W1 (b + 615 + i) ∧ chOI i (X1 (s + 16) i) := by
    intro i hi
    have w1 := hW (615 + i) (by omega) (by omega)
    rw [← Nat.add_assoc] at w1
    rw [h16]
    exact ⟨(cs i hi).1.trans w1.symm, (cs i hi).2⟩
  have e600 := hW 600 (by omega) (by omega)
  have e613 := hW 613 (by omega) (by omega)
  have e614 := hW 614 (by omega) (by omega)
  rcases (show t = 0 ∨ t = 1 by omega) with rfl | rfl
  · have hs0 : sd 0 L R = L := rfl
    rw [hs0] at hT hbits hX
    have hR : TabR X1 R W1 (b + 200 * 1) := tR.fr (fun q h1 h2 => hX q (by omega) (by omega) (by omega)) (fun j h1 h2 => by
      obtain ⟨i, rfl⟩ : ∃ i, j = b + i := ⟨j - b, by omega⟩
      exact hW i (by omega) (by omega))
    have hR1 : X1 R = X R := hX R (by omega) (by omega) (by omega)
    refine ⟨hT, hR, hB, by rw [hB1]; exact lB, ⟨hbits _ lL.1, hbits _ lL.2⟩, by rw [hR1]; exact lR, ⟨d, d1, by rw [hs']; exact d2, e600.trans d3, hdem⟩, ⟨p, p1, by rw [hs']; exact p2, e613.trans p3, fun j h1 h2 => hbits _ (p4 j h1 h2)⟩, ⟨q, q1, by rw [hs']; exact q2, e614.trans q3, by rw [hR1]; exact q4⟩, hch⟩
  · have hs0 : sd 1 L R = R := rfl
    rw [hs0] at hT hbits hX
    have hL : TabR X1 L W1 (b + 200 * 0) := tL.fr (fun q h1 h2 => hX q (by omega) (by omega) (by omega)) (fun j h1 h2 => by
      obtain ⟨i, rfl⟩ : ∃ i, j = b + i := ⟨j - b, by omega⟩
      exact hW i (by omega) (by omega))
    have hL1 : X1 L = X L := hX L (by omega) (by omega) (by omega)
    refine ⟨hL, hT, hB, by rw [hB1]; exact lB, by rw [hL1]; exact lL, ⟨hbits _ lR.1, hbits _ lR.2⟩, ⟨d, d1, by rw [hs']; exact d2, e600.trans d3, hdem⟩, ⟨p, p1, by rw [hs']; exact p2, e613.trans p3, by rw [hL1]; exact p4⟩, ⟨q, q1, by rw [hs']; exact q2, e614.trans q3, fun j h1 h2 => hbits _ (q4 j h1 h2)⟩, hch⟩
