theorem TabR.flip {X X1 : Nat → Nat → Int32} {W W1 : Nat → Int32} {t o o1 : Nat} (h : TabR X t W o) (x0 : X1 t 0 = ren (X t 0)) (x1 : X1 t 1 = X t 1) (xn : ∀ c, c < 9 → X1 (t + 1) c = X (t + 1) (flp c)) (xt : ∀ c, c < 9 → X1 (t + 2) c = X (t + 2) (flp c)) (xc : ∀ k c, k < 20 → c < 9 → X1 (t + 3) (9 * k + c) = X (t + 3) (9 * k + flp c))
    (w0 : ∀ d, bt (W1 o1) d = (decide (d < 9) && bt (W o) (flp d))) (w1 : W1 (o1 + 1) = W (o + 1)) (wn : ∀ c, c < 9 → W1 (o1 + 2 + c) = W (o + 2 + flp c) ∧ W1 (o1 + 11 + c) = W (o + 11 + flp c) ∧ ∀ k, k < 20 → W1 (o1 + 20 + 9 * k + c) = W (o + 20 + 9 * k + flp c)) : TabR X1 t W1 o1 := by
  obtain ⟨b0, b1, b2, b3, b4, b5, b6⟩ := h
  have hb : ∀ d, bt (X1 t 0) d = (decide (d < 9) && bt (X t 0) (flp d)) := fun d => by rw [x0]; exact ren_bt b2 d
  have hb9 : ∀ c, c < 9 → bt (X1 t 0) c = bt (X t 0) (flp c) := fun c hc => by rw [hb, decide_eq_true hc, Bool.true_and]
  refine ⟨bt_ext (fun d _ => by rw [hb, w0, b0]), by rw [x1, b1, w1], fun d hd => by rw [hb, decide_eq_false (by omega), Bool.false_and], by rw [x1]; exact b3, fun c hc q => ?_, fun k c hk hc q1 q2 => ?_, fun k c hk hc q => ?_⟩
  · rw [hb9 c hc] at q
    rw [xn c hc, xt c hc, (wn c hc).1, (wn c hc).2.1]
    exact b4 _ (flp_lt hc) q
  · rw [hb9 c hc] at q2
    rw [x1] at q1
    rw [xc k c hk hc, (wn c hc).2.2 k hk]
    exact b5 k _ hk (flp_lt hc) q1 q2
  · rw [hb9 c hc, x1] at q
    rw [xc k c hk hc]
    exact b6 k _ hk (flp_lt hc) q
