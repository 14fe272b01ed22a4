/-- an edit read whole: its semicolon, and done -/
theorem edit_end {σ τ : Sh} {X Y : Mx} {tp m e st be k ed sd0 : Nat} {β : Nat → Nat} {p a b c : Int32} (hp : tpOK σ tp) (hm : mdOK τ m) (h : GdR X Y tp m e β st be) (hE : EdR X Y tp m k) (hs0 : sd0 < 2) (he : ed < 7) : LnR X Y tp m e β be k (f_X7_readEdit_177 σ tp (nI sd0) p (nI ed) a b c X) ((f_X10_readsEdit_205 τ m (nI sd0) p (nI (howOf ed)) a b Y c).bind fun X5 => f_X10_line_188 τ m X5) := by
  have t0 := hp.1
  have t2 : shR σ tp 2 = some (tp + 2) := hp.2.2.1
  have m0 := hm.1
  have hS := told_sk hp
  obtain ⟨X5, Y5, s1, s2, hs⟩ := semi_both hp hm h
  have cl : f_X7_readEdit_177 σ tp (nI sd0) p (nI ed) a b c X = if X5.1 tp 4 = nI 0 then bnd2 (f_X5_doEdit σ X5 (tp + 2) (nI ed) (nI sd0) a b c) fun v7 X6 => (if v7 = -(nI 1) then bnd2 (f_X7_fail σ X6 tp (nI 6) p) fun v10 X9 => some X9 else some X6) else some X5 := by
    unfold f_X7_readEdit_177
    simp only [litM]
    rw [s1, Option.bind_some, ldI_t t0]
    simp only [ldR, t0, t2, if_true, Option.bind_some]
  rcases hs with ⟨⟨s3, s4, st4, be4, s5, s6⟩, s7⟩ | ⟨hno, s7, s8⟩
  · rw [if_pos s6.2.2.2.1] at cl
    obtain ⟨hSt, h10, ec, hec⟩ := id hE
    have hSt5 : StR X5.1 (tp + 2) (tp + 2 + 5) (tp + 2 + 9) (Y.1 (m + 3)) 931 := hSt.fr (Or.inl ⟨rfl, rfl⟩) (fun q c1 c2 => s3.2.1 q (by omega)) (fun _ _ => rfl)
    obtain ⟨ok, v, X6, Y6, e1, e2, ⟨e3, e4, e5, e6⟩, e7, e8⟩ := edit_rel (x := a) (y := b) (z := c) hS hm (show 931 ≤ 931 by omega) hs0 he hSt5
    have md : f_X10_readsEdit_205 τ m (nI sd0) p (nI (howOf ed)) a b Y c = (if bI ok = nI 0 then (f_X10_wrong τ Y6 m (nI 6)).bind fun X7 => stI τ X7 8 m 4 p fun X8 => some X8 else some Y6) := by
      unfold f_X10_readsEdit_205 f_X10_readsEdit_228
      simp only [litM]
      rw [m_good_t hm h.2.2.2.2.1, Option.bind_some, if_neg (show ¬ nI 1 = nI 0 by decide), s7, Option.bind_some, if_neg (show ¬ nI 1 = nI 0 by decide), Option.bind_some, if_neg (show ¬ nI 1 = nI 0 by decide), e2, bnd2_k]
    rw [e1, bnd2_k] at cl
    cases ok with
    | true =>
      rw [if_neg (e8 rfl).1] at cl
      rw [if_neg (by decide)] at md
      have g6 : GdR X Y6 tp m e β st be := h.fr rfl (fun _ _ _ => rfl) (e5.2.1 _ (by omega)) (fun j _ => by rw [e5.2.1 m (by omega)]) (by rw [e5.1])
      obtain ⟨X5', Y7, q1, q2, hq⟩ := semi_both hp hm g6
      rw [s1] at q1
      cases q1
      have lm6 : LM Y Y6 m := ⟨fun r _ => by rw [e5.1], fun r _ b => e5.2.1 r b, fun j _ => by rw [e5.2.1 m (by omega)], fun j hj => e5.2.2 j (by omega)⟩
      have lx6 : LF X5 X6 tp := ⟨e4.1, fun r a b => e4.2 r (by omega), by rw [e4.2 tp (by omega)]⟩
      rcases hq with ⟨⟨q3, q4, st7, be7, q5, q6⟩, -⟩ | ⟨⟨-, -, q5⟩, -, -⟩
      · refine ⟨X6, Y7, cl, by rw [md, Option.bind_some, q2], s3.lf.trans lx6, lm6.trans q4.lm, Or.inl ⟨st7, be7, by omega, q6.fr (e4.2 _ (by omega)) (fun j _ _ => by rw [e4.2 tp (by omega)]) rfl (fun _ _ => rfl) rfl, Or.inr ⟨?_, ?_, ec, hec.1, hec.2.1, ?_⟩⟩⟩
        · exact e3.fr (Or.inl ⟨rfl, rfl⟩) (fun _ _ _ => rfl) (fun j _ => by rw [q4.2.1 (m + 3) (by omega)])
        · rw [e4.2 tp (by omega), s3.2.2 10 (by omega) (by omega) (by omega) (by omega) (by omega)]; exact h10
        · rw [q4.2.2 16 (by omega) (by omega) (by omega), e5.2.1 m (by omega)]; exact hec.2.2
      · exact absurd s6.2.2.2.1 q5.nx
    | false =>
      obtain ⟨f1, f2⟩ := e6 rfl
      rw [f1] at cl
      rw [f2] at md
      rw [if_pos (e7 rfl), c_fail_g hp s6.2.2.2.1, bnd2_k] at cl
      rw [if_pos bI_f, m_wrong_g hm h.2.2.2.2.1, Option.bind_some, stI_t m0] at md
      have dd : DdR (sI (sI X5 tp 4 (nI 6)) tp 3 p) (sI (sI (sI Y m 3 (nI 6)) m 4 (Y.1 m 9)) m 4 p) tp m e β := by
        obtain ⟨d1, f, d2, d3, d4, d5, d6⟩ := GdR.die (Y := Y) (m := m) (st := st4) (be := be4) (f := 6) (p := p) s6.rd (by omega) (by omega)
        refine ⟨d1, f, d2, d3, d4, ?_, ?_⟩
        · rw [sI_nk (by omega), sI_nk (by omega)]
          rw [sI_nk (by omega)] at d5; exact d5
        · rw [sI_eq, sI_eq]
      refine ⟨sI (sI X5 tp 4 (nI 6)) tp 3 p, sI (sI (sI Y m 3 (nI 6)) m 4 (Y.1 m 9)) m 4 p, cl, by rw [md, Option.bind_some, line188_d hm dd.ny], (s3.trans TkF.die).lf, ⟨fun _ _ => rfl, fun r a _ => by rw [sI_ne a, sI_ne a, sI_ne a], fun j hj => by rw [sI_nk (by omega), sI_nk (by omega), sI_nk (by omega)], fun j hj => by rw [sI_na (by omega), sI_na (by omega), sI_na (by omega)]⟩, Or.inr dd⟩
  · rw [if_neg hno.2.2.nx] at cl
    refine ⟨X5, Y5, cl, ?_, hno.1.lf, hno.2.1.lm, Or.inr hno.2.2⟩
    unfold f_X10_readsEdit_205
    simp only [litM]
    rw [m_good_t hm h.2.2.2.2.1, Option.bind_some, if_neg (show ¬ nI 1 = nI 0 by decide), s7, Option.bind_some, if_pos rfl, s8, Option.bind_some, r228_d hm hno.2.2.ny, Option.bind_some, line188_d hm hno.2.2.ny]
/-- the class's edit, word read: what is read of it then -/
def eArgs (σ : Sh) (tp : Nat) (s p : Int32) (v5 : Int32) (X4 : Mx) : Option Mx := (if v5 = nI 0 then bnd2 (f_X7_takeNumber σ X4 tp (nI 19)) fun v8 X7 => bnd2 (f_X7_takeNumber σ X7 tp (nI 9999)) fun v11 X10 => bnd2 (f_X7_takeCell σ X10 tp) fun v14 X13 => f_X7_readEdit_177 σ tp s p v5 v8 v11 v14 X13 else (if v5 = nI 1 then bnd2 (f_X7_takeNumber σ X4 tp (nI 19)) fun v17 X16 => f_X7_readEdit_177 σ tp s p v5 v17 (nI 0) (nI 0) X16 else (if v5 = nI 2 then bnd2 (f_X7_takeNumber σ X4 tp (nI 19)) fun v20 X19 => f_X7_readEdit_177 σ tp s p v5 v20 (nI 0) (nI 0) X19 else (if v5 = nI 3 then bnd2 (f_X7_takeNumber σ X4 tp (nI 9999)) fun v23 X22 => bnd2 (f_X7_takeType σ X22 tp) fun v26 X25 => f_X7_readEdit_177 σ tp s p v5 v23 v26 (nI 0) X25 else (if v5 = nI 4 then bnd2 (f_X7_takeNumber σ X4 tp (nI 9999)) fun v29 X28 => bnd2 (f_X7_takeName σ X28 tp) fun v32 X31 => f_X7_readEdit_177 σ tp s p v5 v29 v32 (nI 0) X31 else (if v5 = nI 5 then bnd2 (f_X7_takeName σ X4 tp) fun v35 X34 => bnd2 (f_X7_takeType σ X34 tp) fun v38 X37 => f_X7_readEdit_177 σ tp s p v5 v35 v38 (nI 0) X37 else bnd2 (f_X7_takeNumber σ X4 tp (nI 9999)) fun v41 X40 => f_X7_readEdit_177 σ tp s p v5 v41 (nI 0) (nI 0) X40))))))
section DEADCLS
variable {σ τ : Sh} {tp m e : Nat} {β : Nat → Nat}
theorem n177_d {X : Mx} {l : Int32} {K : Int32 → Mx → Option Mx} (hp : tpOK σ tp) (hm : mdOK τ m) (hK : ∀ v X1, RdC X1 tp e β → ¬ X1.1 tp 4 = nI 0 → ∃ X2, K v X1 = some X2 ∧ CD X1 X2 tp e β) (h : RdC X tp e β) (hf : ¬ X.1 tp 4 = nI 0) : ∃ X2, bnd2 (f_X7_takeNumber σ X tp l) K = some X2 ∧ CD X X2 tp e β := by
  obtain ⟨v, X1, a1, a2⟩ := num_d (x := l) hp hm h hf
  obtain ⟨X2, b1, b2⟩ := hK v X1 a2.2.2.2 (by rw [a2.2.2.1]; exact hf)
  exact ⟨X2, by rw [a1, bnd2_k, b1], a2.trans b2⟩
theorem c177_d {X : Mx} {K : Int32 → Mx → Option Mx} (hp : tpOK σ tp) (hm : mdOK τ m) (hK : ∀ v X1, RdC X1 tp e β → ¬ X1.1 tp 4 = nI 0 → ∃ X2, K v X1 = some X2 ∧ CD X1 X2 tp e β) (h : RdC X tp e β) (hf : ¬ X.1 tp 4 = nI 0) : ∃ X2, bnd2 (f_X7_takeCell σ X tp) K = some X2 ∧ CD X X2 tp e β := by
  obtain ⟨v, X1, a1, a2⟩ := cell_d hp hm h hf
  obtain ⟨X2, b1, b2⟩ := hK v X1 a2.2.2.2 (by rw [a2.2.2.1]; exact hf)
  exact ⟨X2, by rw [a1, bnd2_k, b1], a2.trans b2⟩
theorem t177_d {X : Mx} {K : Int32 → Mx → Option Mx} (hp : tpOK σ tp) (hm : mdOK τ m) (hK : ∀ v X1, RdC X1 tp e β → ¬ X1.1 tp 4 = nI 0 → ∃ X2, K v X1 = some X2 ∧ CD X1 X2 tp e β) (h : RdC X tp e β) (hf : ¬ X.1 tp 4 = nI 0) : ∃ X2, bnd2 (f_X7_takeType σ X tp) K = some X2 ∧ CD X X2 tp e β := by
  obtain ⟨v, X1, a1, a2⟩ := type_d hp hm h hf
  obtain ⟨X2, b1, b2⟩ := hK v X1 a2.2.2.2 (by rw [a2.2.2.1]; exact hf)
  exact ⟨X2, by rw [a1, bnd2_k, b1], a2.trans b2⟩
theorem a177_d {X : Mx} {K : Int32 → Mx → Option Mx} (hp : tpOK σ tp) (hm : mdOK τ m) (hK : ∀ v X1, RdC X1 tp e β → ¬ X1.1 tp 4 = nI 0 → ∃ X2, K v X1 = some X2 ∧ CD X1 X2 tp e β) (h : RdC X tp e β) (hf : ¬ X.1 tp 4 = nI 0) : ∃ X2, bnd2 (f_X7_takeName σ X tp) K = some X2 ∧ CD X X2 tp e β := by
  obtain ⟨v, X1, a1, a2⟩ := name_d hp hm h hf
  obtain ⟨X2, b1, b2⟩ := hK v X1 a2.2.2.2 (by rw [a2.2.2.1]; exact hf)
  exact ⟨X2, by rw [a1, bnd2_k, b1], a2.trans b2⟩
end DEADCLS
section PAIRS
variable {σ τ : Sh} {X Y : Mx} {tp m e st be k : Nat} {β : Nat → Nat}
/-- read one piece by both and go on: K, J are what follows -/
theorem go_num {lim : Nat} {K : Int32 → Mx → Option Mx} {J : Int32 → Mx → Option Mx} (hp : tpOK σ tp) (hm : mdOK τ m) (h : GdR X Y tp m e β st be) (hl : lim ≤ 9999) (hd : ∀ v X1, RdC X1 tp e β → ¬ X1.1 tp 4 = nI 0 → ∃ X2, K v X1 = some X2 ∧ CD X1 X2 tp e β) (hj : ∀ u Y1, ¬ Y1.1 m 3 = nI 0 → J u Y1 = some Y1) (hg : ∀ n X1 Y1 st1 be1, TkF X X1 tp → MkF Y Y1 m → be ≤ st1 → GdR X1 Y1 tp m e β st1 be1 → LnR X1 Y1 tp m e β be1 k (K (nI n) X1) ((J (nI n) Y1).bind fun X5 => f_X10_line_188 τ m X5)) : LnR X Y tp m e β be k (bnd2 (f_X7_takeNumber σ X tp (nI lim)) K) ((bnd2 (f_X10_number τ Y m (nI lim)) J).bind fun X5 => f_X10_line_188 τ m X5) := by
  rcases number_both hp hm h hl with ⟨n, X1, Y1, -, a2, a3, a4, a5, st1, be1, a6, a7⟩ | ⟨v, u, X1, Y1, a2, a3, a4⟩
  · rw [a2, a3, bnd2_k, bnd2_k]
    exact (hg n X1 Y1 st1 be1 a4 a5 a6 a7).pre a4 a5 (by have := a7.2.2.2.2.2.1; omega)
  · obtain ⟨X2, b1, b2⟩ := hd v X1 a4.2.2.1 a4.2.2.nx
    exact LnR.dead a4 b2 (by rw [a2, bnd2_k, b1]) (by rw [a3, bnd2_k, hj u Y1 a4.2.2.ny, Option.bind_some, line188_d hm a4.2.2.ny])
theorem go_cell {K : Int32 → Mx → Option Mx} {J : Int32 → Mx → Option Mx} (hp : tpOK σ tp) (hm : mdOK τ m) (h : GdR X Y tp m e β st be) (hd : ∀ v X1, RdC X1 tp e β → ¬ X1.1 tp 4 = nI 0 → ∃ X2, K v X1 = some X2 ∧ CD X1 X2 tp e β) (hj : ∀ u Y1, ¬ Y1.1 m 3 = nI 0 → J u Y1 = some Y1) (hg : ∀ n X1 Y1 st1 be1, TkF X X1 tp → MkF Y Y1 m → be ≤ st1 → GdR X1 Y1 tp m e β st1 be1 → LnR X1 Y1 tp m e β be1 k (K n X1) ((J n Y1).bind fun X5 => f_X10_line_188 τ m X5)) : LnR X Y tp m e β be k (bnd2 (f_X7_takeCell σ X tp) K) ((bnd2 (f_X10_cellOf τ Y m) J).bind fun X5 => f_X10_line_188 τ m X5) := by
  rcases cell_both hp hm h with ⟨n, X1, Y1, a2, a3, a4, a5, st1, be1, a6, a7⟩ | ⟨v, u, X1, Y1, a2, a3, a4⟩
  · rw [a2, a3, bnd2_k, bnd2_k]
    exact (hg n X1 Y1 st1 be1 a4 a5 a6 a7).pre a4 a5 (by have := a7.2.2.2.2.2.1; omega)
  · obtain ⟨X2, b1, b2⟩ := hd v X1 a4.2.2.1 a4.2.2.nx
    exact LnR.dead a4 b2 (by rw [a2, bnd2_k, b1]) (by rw [a3, bnd2_k, hj u Y1 a4.2.2.ny, Option.bind_some, line188_d hm a4.2.2.ny])
theorem go_type {K : Int32 → Mx → Option Mx} {J : Int32 → Mx → Option Mx} (hp : tpOK σ tp) (hm : mdOK τ m) (h : GdR X Y tp m e β st be) (hd : ∀ v X1, RdC X1 tp e β → ¬ X1.1 tp 4 = nI 0 → ∃ X2, K v X1 = some X2 ∧ CD X1 X2 tp e β) (hj : ∀ u Y1, ¬ Y1.1 m 3 = nI 0 → J u Y1 = some Y1) (hg : ∀ n X1 Y1 st1 be1, TkF X X1 tp → MkF Y Y1 m → be ≤ st1 → GdR X1 Y1 tp m e β st1 be1 → LnR X1 Y1 tp m e β be1 k (K (nI n) X1) ((J (nI n) Y1).bind fun X5 => f_X10_line_188 τ m X5)) : LnR X Y tp m e β be k (bnd2 (f_X7_takeType σ X tp) K) ((bnd2 (f_X10_typeOf τ Y m) J).bind fun X5 => f_X10_line_188 τ m X5) := by
  rcases type_both hp hm h with ⟨n, X1, Y1, -, a2, a3, a4, a5, st1, be1, a6, a7⟩ | ⟨v, u, X1, Y1, a2, a3, a4⟩
  · rw [a2, a3, bnd2_k, bnd2_k]
    exact (hg n X1 Y1 st1 be1 a4 a5 a6 a7).pre a4 a5 (by have := a7.2.2.2.2.2.1; omega)
  · obtain ⟨X2, b1, b2⟩ := hd v X1 a4.2.2.1 a4.2.2.nx
    exact LnR.dead a4 b2 (by rw [a2, bnd2_k, b1]) (by rw [a3, bnd2_k, hj u Y1 a4.2.2.ny, Option.bind_some, line188_d hm a4.2.2.ny])
/-- a name: the reference goes on only where what follows says so -/
theorem go_name {K : Int32 → Mx → Option Mx} {J : Int32 → Mx → Option Mx} {J2 : Int32 → Mx → Option Mx} (hp : tpOK σ tp) (hm : mdOK τ m) (h : GdR X Y tp m e β st be) (hd : ∀ v X1, RdC X1 tp e β → ¬ X1.1 tp 4 = nI 0 → ∃ X2, K v X1 = some X2 ∧ CD X1 X2 tp e β) (hj : ∀ u Y1, ¬ Y1.1 m 3 = nI 0 → J u Y1 = some Y1) (h2 : ∀ u Y1 Y2, Y1.1 m 3 = nI 0 → f_X10_goes τ Y1 m = some Y2 → J u Y1 = J2 u Y2) (hg : ∀ n X1 Y1 st1 be1, TkF X X1 tp → MkF Y Y1 m → be ≤ st1 → GdR X1 Y1 tp m e β st1 be1 → LnR X1 Y1 tp m e β be1 k (K n X1) ((J2 n Y1).bind fun X5 => f_X10_line_188 τ m X5)) : LnR X Y tp m e β be k (bnd2 (f_X7_takeName σ X tp) K) ((bnd2 (f_X10_nameHere τ Y m) J).bind fun X5 => f_X10_line_188 τ m X5) := by
  rcases name_both hp hm h with ⟨n, X1, Y1, a2, a3, a0, a4, a5, st1, be1, a6, a7⟩ | ⟨v, u, X1, Y1, a2, a3, a4⟩
  · rw [a2, a3, bnd2_k, bnd2_k, h2 n Y Y1 h.2.2.2.2.1 a0]
    exact (hg n X1 Y1 st1 be1 a4 a5 a6 a7).pre a4 a5 (by have := a7.2.2.2.2.2.1; omega)
  · obtain ⟨X2, b1, b2⟩ := hd v X1 a4.2.2.1 a4.2.2.nx
    exact LnR.dead a4 b2 (by rw [a2, bnd2_k, b1]) (by rw [a3, bnd2_k, hj u Y1 a4.2.2.ny, Option.bind_some, line188_d hm a4.2.2.ny])
end PAIRS
