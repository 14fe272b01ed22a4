/-! ===== flip: the reference's choices ===== -/
/-- one choice laid anew -/
theorem m_flC {τ : Sh} {Y : Mx} {m p q : Nat} {kd a b c d : Int32} (hm : mdOK τ m) (hp : f_X10_choiceAt kd a b = nI p) (hq : f_X10_choiceAt kd c d = nI q) (p3 : p < 316) (q3 : q < 316) : f_X10_flipsChoice τ Y m kd a b c d = some (sI Y (m + 3) (615 + p) (if f_X10_choicesOf kd = nI 3 then (if Y.1 (m + 3) (1546 + q) ≤ nI 0 then Y.1 (m + 3) (1546 + q) else nI 3 - Y.1 (m + 3) (1546 + q)) else Y.1 (m + 3) (1546 + q))) := by
  obtain ⟨m0, m1, m2, m3, m4, m5, m6, m7, m8, m9, m10, m11, m12, m13, m14, m15, m16, m17, mq1, mq2, mq3, mq4, mq5, mq6, mq7, mq8, mq9, mq10, mq11, mq12, mq13, mq14, mq15, mq16, mq17, mn1, mn2, mn3, mn4, mn5, mn6, mn7, mn8, mn9, mn10, mn11, mn12, mn13, mn14, mn15, mn16, mn17⟩ := hm
  have o1 : (nI 1 = nI 0) = False := eq_false (by decide)
  unfold f_X10_flipsChoice f_X10_flipsChoice_36 f_X10_flipsChoice_37
  simp only [litM]
  rw [grd_t m0]
  simp only [ldR, m0, m3, if_true, Option.bind_some, o1, if_false]
  rw [hq, hp, nI_add, nI_add, ldA_t mq3 (by rw [mn3]; omega) (by rw [mn3]; omega)]
  by_cases h3 : f_X10_choicesOf kd = nI 3
  · rw [if_pos h3, if_pos h3]
    by_cases h0 : Y.1 (m + 3) (1546 + q) ≤ nI 0
    · rw [if_pos h0, if_pos h0, stA_t mq3 (by rw [mn3]; omega) (by rw [mn3]; omega)]
    · rw [if_neg h0, if_neg h0, stA_t mq3 (by rw [mn3]; omega) (by rw [mn3]; omega)]
  · rw [if_neg h3, if_neg h3, stA_t mq3 (by rw [mn3]; omega) (by rw [mn3]; omega)]
