/-! ===== no other exception than the first ===== -/
def N1 {α : Type} (o : Option (Hr (α ⊕ Nat))) : Prop := ∀ k r, o = some (Sum.inr k, r) → k = 0
section N1S
variable {α β γ ρ : Type}
theorem n1_no : N1 (none : Option (Hr (α ⊕ Nat))) := fun k r h => by cases h
theorem n1_l {v : α} {q : Sh × Mx × Nat × Nat} : N1 (some (Sum.inl v, q)) := fun k r h => by cases h
theorem n1_r0 {q : Sh × Mx × Nat × Nat} : N1 (some ((Sum.inr 0 : α ⊕ Nat), q)) := fun k r h => by cases h; rfl
theorem n1_ite {c : Prop} [Decidable c] {x y : Option (Hr (α ⊕ Nat))} (h1 : N1 x) (h2 : N1 y) : N1 (if c then x else y) := by
  split
  · exact h1
  · exact h2
theorem n1_grd {P : Prop} [Decidable P] {o : Option (Hr (α ⊕ Nat))} (h : N1 o) : N1 (grd P o) := by
  unfold grd
  split
  · exact h
  · exact n1_no
theorem n1_bind {o : Option β} {k : β → Option (Hr (α ⊕ Nat))} (h : ∀ v, N1 (k v)) : N1 (o.bind k) := by
  cases o with
  | none => exact n1_no
  | some v => exact h v
theorem n1_bnd2 {o : Option (β × γ)} {k : β → γ → Option (Hr (α ⊕ Nat))} (h : ∀ v w, N1 (k v w)) : N1 (bnd2 o k) := by
  cases o with
  | none => exact n1_no
  | some v => exact h v.1 v.2
theorem n1_ldR {σ : Sh} {ci a j : Nat} {k : Nat → Option (Hr (α ⊕ Nat))} (h : ∀ v, N1 (k v)) : N1 (ldR σ ci a j k) := by
  unfold ldR
  split
  · exact n1_bind h
  · exact n1_no
theorem n1_ldI {σ : Sh} {X : Mx} {ci a j : Nat} {k : Int32 → Option (Hr (α ⊕ Nat))} (h : ∀ v, N1 (k v)) : N1 (ldI σ X ci a j k) := by
  unfold ldI
  split
  · exact h _
  · exact n1_no
theorem n1_ldA {σ : Sh} {X : Mx} {ci a : Nat} {j : Int32} {k : Int32 → Option (Hr (α ⊕ Nat))} (h : ∀ v, N1 (k v)) : N1 (ldA σ X ci a j k) := by
  unfold ldA
  split
  · exact h _
  · exact n1_no
theorem n1_adc {i j : Nat} {o : Option (Hr (α ⊕ Nat))} (h : N1 o) : N1 (adc i j o) := by
  intro k r e
  cases o with
  | none => cases e
  | some q =>
    obtain ⟨v, q⟩ := q
    cases e
    exact h k q rfl
theorem n1_bndX {o : Option (Hr (β ⊕ Nat))} {k : β → Sh → Mx → Nat → Nat → Option (Hr (α ⊕ Nat))} (h0 : N1 o) (h : ∀ v σ X c d, N1 (k v σ X c d)) : N1 (bndX o k) := by
  cases o with
  | none => exact n1_no
  | some q =>
    obtain ⟨v, σ, X, c, d⟩ := q
    cases v with
    | inl v => exact n1_adc (h v σ X c d)
    | inr x =>
      intro k r e
      cases e
      exact h0 _ _ rfl
theorem n1_bndH {o : Option (Hr β)} {k : β → Sh → Mx → Nat → Nat → Option (Hr (α ⊕ Nat))} (h : ∀ v σ X c d, N1 (k v σ X c d)) : N1 (bndH o k) := by
  cases o with
  | none => exact n1_no
  | some q => exact n1_adc (h _ _ _ _ _)
end N1S
section N1F
variable {σ : Sh} {X : Mx} {z a : Nat} {x1 x2 x3 x4 x5 : Int32}
set_option maxHeartbeats 200000 in
theorem n1_side : N1 (f_X9_demandSide σ X z x1) := by
  unfold f_X9_demandSide
  exact (n1_ite n1_l (n1_ite n1_l n1_r0))
set_option maxHeartbeats 200000 in
theorem n1_three : N1 (f_X9_demandThreefold σ X z x1) := by
  unfold f_X9_demandThreefold f_X9_demandThreefold_9
  exact (n1_ite n1_r0 (n1_ite n1_l n1_r0))
set_option maxHeartbeats 200000 in
theorem n1_tableOf : N1 (f_X9_tableOf σ X z a x1) := by
  unfold f_X9_tableOf
  exact (n1_grd (n1_ite (n1_ldR fun _ => (n1_ldR fun _ => n1_l)) (n1_ite (n1_ldR fun _ => (n1_ldR fun _ => n1_l)) (n1_ite (n1_ldR fun _ => (n1_ldR fun _ => n1_l)) (n1_ite (n1_bnd2 fun _ _ => (n1_ldR fun _ => n1_l)) n1_r0)))))
set_option maxHeartbeats 200000 in
theorem n1_edit : N1 (f_X9_editByHand σ X z a x1 x2 x3 x4 x5) := by
  unfold f_X9_editByHand
  exact (n1_grd (n1_bndX n1_side fun _ _ _ _ _ => (n1_ldR fun _ => (n1_ldR fun _ => (n1_bndH fun _ _ _ _ _ => (n1_ldR fun _ => (n1_bnd2 fun _ _ => (n1_ite (n1_bnd2 fun _ _ => n1_l) (n1_bind fun _ => n1_l)))))))))
set_option maxHeartbeats 200000 in
theorem n1_cell : N1 (f_X9_cell σ X z a x1 x2 x3) := by
  unfold f_X9_cell
  exact (n1_grd (n1_bndX n1_tableOf fun _ _ _ _ _ => (n1_bind fun _ => (n1_ite n1_r0 (n1_bind fun _ => n1_l)))))
set_option maxHeartbeats 200000 in
theorem n1_column : N1 (f_X9_column σ X z a x1 x2 x3) := by
  unfold f_X9_column f_X9_column_25
  exact (n1_grd (n1_bndX n1_tableOf fun _ _ _ _ _ => (n1_bind fun _ => (n1_ite n1_r0 (n1_ite n1_r0 (n1_ite (n1_ite (n1_ldR fun _ => (n1_ldA fun _ => n1_l)) (n1_ldR fun _ => (n1_ldA fun _ => n1_l))) n1_r0))))))
set_option maxHeartbeats 200000 in
theorem n1_table : N1 (f_X9_table σ X z a x1 x2) := by
  unfold f_X9_table
  exact (n1_grd (n1_bndX n1_tableOf fun _ _ _ _ _ => (n1_ite (n1_ldI fun _ => n1_l) (n1_ite (n1_ldI fun _ => n1_l) n1_r0))))
set_option maxHeartbeats 200000 in
theorem n1_conflict : N1 (f_X9_conflict σ X z a x1 x2) := by
  unfold f_X9_conflict f_X9_conflict_17
  exact (n1_grd (n1_bnd2 fun _ _ => (n1_ite n1_r0 (n1_ldI fun _ => (n1_ite (n1_ldR fun _ => (n1_ldA fun _ => (n1_ite n1_l (n1_ite n1_l (n1_ite n1_l (n1_ite (n1_ldR fun _ => (n1_ldA fun _ => n1_l)) (n1_ite (n1_ldR fun _ => (n1_ldA fun _ => n1_l)) (n1_ite n1_l n1_r0)))))))) n1_r0)))))
set_option maxHeartbeats 200000 in
theorem n1_count : N1 (f_X9_count σ X z a x1) := by
  unfold f_X9_count
  exact (n1_grd (n1_ite (n1_ldR fun _ => (n1_ldR fun _ => (n1_ldI fun _ => n1_l))) (n1_ite (n1_ldR fun _ => (n1_ldR fun _ => (n1_ldI fun _ => n1_l))) (n1_ite (n1_ldR fun _ => (n1_ldI fun _ => n1_l)) (n1_ite (n1_bnd2 fun _ _ => (n1_ldR fun _ => (n1_ldI fun _ => n1_l))) (n1_ite (n1_bnd2 fun _ _ => (n1_ldR fun _ => (n1_ldI fun _ => n1_l))) (n1_ite (n1_bnd2 fun _ _ => (n1_ldI fun _ => n1_l)) (n1_ite (n1_ldR fun _ => (n1_bind fun _ => n1_l)) (n1_ite (n1_ldR fun _ => (n1_bind fun _ => (n1_bnd2 fun _ _ => (n1_ldI fun _ => n1_l)))) (n1_ite (n1_bnd2 fun _ _ => (n1_ldR fun _ => (n1_bind fun _ => n1_l))) (n1_ite (n1_ldR fun _ => (n1_ldI fun _ => n1_l)) (n1_ite (n1_ldR fun _ => (n1_ldI fun _ => n1_l)) (n1_ite (n1_ldR fun _ => (n1_ldI fun _ => n1_l)) (n1_ite (n1_ldR fun _ => (n1_ldA fun _ => n1_l)) (n1_ite (n1_ldR fun _ => (n1_ldA fun _ => n1_l)) (n1_ite (n1_ldR fun _ => (n1_ldA fun _ => n1_l)) n1_r0))))))))))))))))
set_option maxHeartbeats 200000 in
theorem n1_whose : N1 (f_X9_whose σ X z a x1 x2) := by
  unfold f_X9_whose
  exact (n1_grd (n1_bnd2 fun _ _ => (n1_ldR fun _ => (n1_bind fun _ => (n1_ite n1_r0 (n1_ldR fun _ => (n1_ldA fun _ => n1_l)))))))
set_option maxHeartbeats 200000 in
theorem n1_difference : N1 (f_X9_difference σ X z a x1 x2) := by
  unfold f_X9_difference
  exact (n1_grd (n1_bndX n1_side fun _ _ _ _ _ => (n1_ldR fun _ => (n1_bind fun _ => (n1_ldR fun _ => (n1_ldR fun _ => (n1_ite (n1_ldR fun _ => (n1_bind fun _ => n1_l)) (n1_ite (n1_ldI fun _ => (n1_ldI fun _ => n1_l)) (n1_ite (n1_ldI fun _ => (n1_ldI fun _ => n1_l)) (n1_ite (n1_ldI fun _ => (n1_ldI fun _ => n1_l)) (n1_ite (n1_ldI fun _ => (n1_ldI fun _ => n1_l)) (n1_ite (n1_bind fun _ => n1_l) (n1_ite (n1_bind fun _ => n1_l) n1_r0)))))))))))))
set_option maxHeartbeats 200000 in
theorem n1_alone : N1 (f_X9_alone σ X z a x1 x2) := by
  unfold f_X9_alone f_X9_alone_51
  exact (n1_grd (n1_bndX n1_side fun _ _ _ _ _ => (n1_bndX n1_three fun _ _ _ _ _ => (n1_ldR fun _ => (n1_bind fun _ => (n1_ite (n1_ldR fun _ => (n1_ldR fun _ => (n1_bnd2 fun _ _ => (n1_bind fun _ => (n1_ldR fun _ => (n1_ldR fun _ => (n1_bind fun _ => (n1_ldR fun _ => (n1_bind fun _ => n1_l))))))))) (n1_ldR fun _ => (n1_bind fun _ => n1_l))))))))
set_option maxHeartbeats 200000 in
theorem n1_edited : N1 (f_X9_edited σ X z a x1) := by
  unfold f_X9_edited f_X9_edited_30
  exact (n1_grd (n1_bndX n1_three fun _ _ _ _ _ => (n1_ldR fun _ => (n1_bind fun _ => (n1_ite (n1_ldR fun _ => (n1_ldR fun _ => (n1_ldR fun _ => (n1_bind fun _ => (n1_ldR fun _ => (n1_bind fun _ => n1_l)))))) (n1_ldR fun _ => (n1_bind fun _ => n1_l)))))))
set_option maxHeartbeats 200000 in
theorem n1_set : N1 (f_X9_set σ X z a x1 x2 x3 x4) := by
  unfold f_X9_set
  exact (n1_grd (n1_bndX n1_edit fun _ _ _ _ _ => (n1_ite n1_l n1_l)))
set_option maxHeartbeats 200000 in
theorem n1_insert : N1 (f_X9_insert σ X z a x1 x2) := by
  unfold f_X9_insert
  exact (n1_grd (n1_bndX n1_edit fun _ _ _ _ _ => (n1_ite n1_l n1_l)))
set_option maxHeartbeats 200000 in
theorem n1_delete : N1 (f_X9_delete σ X z a x1 x2) := by
  unfold f_X9_delete
  exact (n1_grd (n1_bndX n1_edit fun _ _ _ _ _ => (n1_ite n1_l n1_l)))
set_option maxHeartbeats 200000 in
theorem n1_drop : N1 (f_X9_drop σ X z a x1 x2) := by
  unfold f_X9_drop
  exact (n1_grd (n1_bndX n1_edit fun _ _ _ _ _ => (n1_ite n1_l n1_l)))
set_option maxHeartbeats 200000 in
theorem n1_rename : N1 (f_X9_rename σ X z a x1 x2 x3) := by
  unfold f_X9_rename
  exact (n1_grd (n1_bndX n1_edit fun _ _ _ _ _ => (n1_ite n1_l n1_l)))
set_option maxHeartbeats 200000 in
theorem n1_retype : N1 (f_X9_retype σ X z a x1 x2 x3) := by
  unfold f_X9_retype
  exact (n1_grd (n1_bndX n1_edit fun _ _ _ _ _ => (n1_ite n1_l n1_l)))
set_option maxHeartbeats 200000 in
theorem n1_add : N1 (f_X9_add σ X z a x1 x2 x3) := by
  unfold f_X9_add
  exact (n1_grd (n1_bndX n1_edit fun _ _ _ _ _ => n1_l))
end N1F
/-! ===== one round ===== -/
/-- a call with its exceptions, in both -/
def Gn (σ : Sh) (a : Nat) (E : Nat → Int32 → Prop) (fc : Option (Hr (Int32 ⊕ Nat))) (fm : Sh → Mx → Option (Int32 × Mx)) : Prop := ∃ w σ1 X1 c d, fc = some (w, σ1, X1, c, d) ∧ c + 17 * pot σ1 a ≤ 17 * pot σ a + 1 ∧ d + 947 * pot σ1 a ≤ 947 * pot σ a + 6 ∧ objOK σ1 a ∧ ∀ X2 : Mx, X2.1 = X1.1 → ∃ b X3 L R, fm σ1 X2 = some (b, X3) ∧ IV σ1 X3 a L R ∧ X3.2 (a + 126) = X2.2 (a + 126) ∧ ((∃ v, w = .inl v ∧ X3.1 (a + 108) 0 = nI 0 ∧ b = v) ∨ (∃ k, w = .inr k ∧ E k (X3.1 (a + 108) 0)))
theorem Gn.act {σ : Sh} {a : Nat} {fc : Option (Hr (Int32 ⊕ Nat))} {fm : Sh → Mx → Option (Int32 × Mx)} (h : Act σ a fc fm) (hn : N1 fc) : Gn σ a (fun k t => k = 0 ∧ t = nI 1) fc fm := by
  obtain ⟨w, σ1, X1, c, d, e, b1, b2, ho, hf⟩ := h
  refine ⟨w, σ1, X1, c, d, e, b1, b2, ho, fun X2 ex => ?_⟩
  obtain ⟨b, X3, L, R, f1, f2, f3, f4⟩ := hf X2 ex
  refine ⟨b, X3, L, R, f1, f2, by rw [f4], ?_⟩
  rcases f3 with h | ⟨k, k1, k2, k3⟩
  · exact Or.inl h
  · rw [k1] at e
    have := hn _ _ e
    subst this
    exact Or.inr ⟨0, k1, rfl, k3⟩
theorem Gn.qry {σ : Sh} {X : Mx} {a L R : Nat} {fc : Option (Hr (Int32 ⊕ Nat))} {fm : Mx → Option (Int32 × Mx)} {fm' : Sh → Mx → Option (Int32 × Mx)} (hI : IV σ X a L R) (h : Qry σ a L R fc fm) (he : fm = fm' σ) : Gn σ a (fun k t => k < 2 ∧ t = nI (k + 1)) fc fm' := by
  obtain ⟨w, X1, c, d, e, b1, b2, hI1, hf⟩ := h
  refine ⟨w, σ, X1, c, d, e, by omega, by omega, hI.1.1, fun X2 ex => ?_⟩
  obtain ⟨b, X3, f1, f2, f3⟩ := hf X2 ex
  refine ⟨b, X3, L, R, by rw [← he]; exact f1, (hI1.out ex).frQ f2, by rw [f2.1], ?_⟩
  rcases f3 with h | ⟨k, k1, k2, k3⟩
  · exact Or.inl h
  · exact Or.inr ⟨k, k1, k2, k3⟩
theorem Gn.n1 {σ : Sh} {a : Nat} {fc : Option (Hr (Int32 ⊕ Nat))} {fm : Sh → Mx → Option (Int32 × Mx)} (h : Gn σ a (fun k t => k < 2 ∧ t = nI (k + 1)) fc fm) (hn : N1 fc) : Gn σ a (fun k t => k = 0 ∧ t = nI 1) fc fm := by
  obtain ⟨w, σ1, X1, c, d, e, b1, b2, ho, hf⟩ := h
  refine ⟨w, σ1, X1, c, d, e, b1, b2, ho, fun X2 ex => ?_⟩
  obtain ⟨b, X3, L, R, f1, f2, f3, f4⟩ := hf X2 ex
  refine ⟨b, X3, L, R, f1, f2, f3, ?_⟩
  rcases f4 with h | ⟨k, k1, k2, k3⟩
  · exact Or.inl h
  · rw [k1] at e
    have := hn _ _ e
    subst this
    exact Or.inr ⟨0, k1, rfl, k3⟩
theorem Gn.tab {σ : Sh} {X : Mx} {a L R : Nat} {fc : Option (Hr (Int32 ⊕ Nat))} {fm : Mx → Option (Int32 × Mx)} {fm' : Sh → Mx → Option (Int32 × Mx)} (hI : IV σ X a L R) (h : TbR σ a L R fc fm) (he : fm = fm' σ) : Gn σ a (fun k t => k = 1 ∧ t = nI 1) fc fm' := by
  obtain ⟨w, X1, c, d, e, b1, b2, hf⟩ := h
  refine ⟨w, σ, X1, c, d, e, by omega, by omega, hI.1.1, fun X2 ex => ?_⟩
  obtain ⟨b, X3, f1, f2, f3, f4⟩ := hf X2 ex
  refine ⟨b, X3, L, R, by rw [← he]; exact f1, f2, f4 _ (by omega), ?_⟩
  rcases f3 with h | ⟨k1, k2⟩
  · exact Or.inl h
  · exact Or.inr ⟨1, k1, rfl, k2⟩
theorem stL_t {ρ : Type} {σ : Sh} {X : Mx} {b : Nat} {v : Int64} {cont : Mx → Option ρ} (h : shK σ b = 12) (h2 : shN σ b = 1) : stL σ X b (nI 0) v cont = cont (sJ X b 0 v) := by
  unfold stL
  rw [if_pos ⟨h, by rw [h2]; decide⟩]
  rfl
theorem ldL_t {ρ : Type} {σ : Sh} {X : Mx} {b : Nat} {cont : Int64 → Option ρ} (h : shK σ b = 12) (h2 : shN σ b = 1) : ldL σ X b (nI 0) cont = cont (X.2 b 0) := by
  unfold ldL
  rw [if_pos ⟨h, by rw [h2]; decide⟩]
  rfl
theorem rnd {σ : Sh} {a : Nat} {E : Nat → Int32 → Prop} {fc : Option (Hr (Int32 ⊕ Nat))} {fm : Sh → Mx → Option (Int32 × Mx)} (hG : Gn σ a E fc fm) (cv : Int32 → Int64) {kn : Int32 → Sh → Mx → Option (Hr Int32)} {kx : Nat → Sh → Mx → Option (Hr Int32)} {chk : Int32 → Sh → Mx → Int64 → Option (Hr Unit)} (hkn : ∀ v σ1 X1, shK σ1 (a + 126) = 12 → shN σ1 (a + 126) = 1 → kn v σ1 X1 = some (nI 0, σ1, sJ X1 (a + 126) 0 (cv v), 0, 0)) (hkx : ∀ k t σ1 X1, E k t → kx k σ1 X1 = some (t, σ1, X1, 0, 0) ∧ ¬ t = nI 0) (hchk : ∀ v σ1 X1, chk v σ1 X1 (cv v) = some ((), σ1, X1, 0, 0)) :
    ∃ σ1 X3 c d L R, (bndH (bndC fc kn kx) fun v19 σ19 X19 c19 d19 => bnd2 (fm σ19 X19) fun v23 X22 => (f_X10_thrown σ19 X22 (a + 108)).bind fun v25 => (if v25 = v19 then (if v19 = nI 0 then ldL σ19 X22 (a + 126) (nI 0) fun v26 => chk v23 σ19 X22 v26 else some ((), σ19, X22, 0, 0)) else none)) = some ((), σ1, X3, c, d) ∧ IV σ1 X3 a L R ∧ c + 17 * pot σ1 a ≤ 17 * pot σ a + 1 ∧ d + 947 * pot σ1 a ≤ 947 * pot σ a + 6 := by
  obtain ⟨w, σ1, X1, c, d, e, b1, b2, ho, hf⟩ := hG
  have o126 : shK σ1 (a + 126) = 12 ∧ shN σ1 (a + 126) = 1 := ho.2.2.2.2.2.2.2.2.2.2.2
  have m0 : shK σ1 (a + 108) = 8 := ho.2.2.2.2.2.2.2.2.2.2.1.1
  have th : ∀ Y : Mx, f_X10_thrown σ1 Y (a + 108) = some (Y.1 (a + 108) 0) := fun Y => by
    unfold f_X10_thrown
    rw [grd_t m0, ldI_t m0]
  cases w with
  | inl v =>
    obtain ⟨b, X3, L, R, f1, f2, f3, f4⟩ := hf (sJ X1 (a + 126) 0 (cv v)) rfl
    rcases f4 with ⟨v', q1, q2, q3⟩ | ⟨k, q1, -⟩
    · cases q1
      have e2 : X3.2 (a + 126) 0 = cv v := by rw [f3]; exact if_pos ⟨rfl, rfl⟩
      refine ⟨σ1, X3, c, d, L, R, ?_, f2, b1, b2⟩
      rw [e]
      show bndH (adc c d (kn v σ1 X1)) _ = _
      rw [hkn v σ1 X1 o126.1 o126.2, adc_some, Nat.zero_add, Nat.zero_add, bndH_s, f1, bnd2_k, th, Option.bind_some, q2, if_pos rfl, if_pos rfl, ldL_t o126.1 o126.2, e2, q3, hchk, adc_some, Nat.zero_add, Nat.zero_add]
    · cases q1
  | inr k =>
    obtain ⟨b, X3, L, R, f1, f2, f3, f4⟩ := hf X1 rfl
    rcases f4 with ⟨v', q1, -⟩ | ⟨k', q1, q2⟩
    · cases q1
    · cases q1
      obtain ⟨x1, x2⟩ := hkx _ _ σ1 X1 q2
      refine ⟨σ1, X3, c, d, L, R, ?_, f2, b1, b2⟩
      rw [e]
      show bndH (adc c d (kx k σ1 X1)) _ = _
      rw [x1, adc_some, Nat.zero_add, Nat.zero_add, bndH_s, f1, bnd2_k, th, Option.bind_some, if_pos rfl, if_neg x2, adc_some, Nat.zero_add, Nat.zero_add]
