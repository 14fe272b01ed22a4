/-! ===== the thirty cases of a round (written by gen_round.py) ===== -/
def Rk (σ : Sh) (a : Nat) (o : Option (Hr Unit)) : Prop := ∃ σ1 X3 c d L R, o = some ((), σ1, X3, c, d) ∧ IV σ1 X3 a L R ∧ c + 17 * pot σ1 a ≤ 17 * pot σ a + 1 ∧ d + 947 * pot σ1 a ≤ 947 * pot σ a + 6
theorem rk_ite {σ : Sh} {a : Nat} {c : Prop} [Decidable c] {x y : Option (Hr Unit)} (h1 : Rk σ a x) (h2 : Rk σ a y) : Rk σ a (if c then x else y) := by
  split
  · exact h1
  · exact h2
theorem rk_pl {σ : Sh} {a : Nat} {fc : Option (Int32 × Mx)} {fm : Mx → Option (Int32 × Mx)} (h : Pl σ a fc fm) : Rk σ a (bnd2 fc fun v X8 => bnd2 (fm X8) fun v17 X16 => (if v = v17 then some ((), σ, X16, 0, 0) else none)) := by
  obtain ⟨w, X1, X3, L, R, e1, e2, e3⟩ := h
  exact ⟨σ, X3, 0, 0, L, R, by rw [e1, bnd2_k, e2, bnd2_k, if_pos rfl], e3, by omega, by omega⟩
theorem rk_actI {σ : Sh} {a : Nat} {fc : Option (Hr Int32)} {fm : Sh → Mx → Option (Int32 × Mx)} (h : ActI σ a fc fm) : Rk σ a (bndH fc fun v191 σ191 X191 c191 d191 => bnd2 (fm σ191 X191) fun v198 X197 => (if v191 = v198 then some ((), σ191, X197, 0, 0) else none)) := by
  obtain ⟨w, σ1, X1, c, d, X3, L, R, e1, b1, b2, e2, e3⟩ := h
  exact ⟨σ1, X3, c, d, L, R, by rw [e1, bndH_s, e2, bnd2_k, if_pos rfl, adc_some, Nat.zero_add, Nat.zero_add], e3, by omega, by omega⟩
def cvB (v : Int32) : Int64 := if v = nI 0 then 0 else 1
section CASES
variable {σ : Sh} {X : Mx} {a L0 R0 z : Nat} {y1 y2 y3 y4 y5 : Int32}
set_option maxHeartbeats 400000 in
theorem rk_feed (h : IV σ X a L0 R0) (hz : ∀ q ∈ shL σ, q < z) : Rk σ a (bnd2 (f_X9_feed σ X a y1 y2 y3 y4 y5) fun v9 X8 => bnd2 (f_X10_feed σ X8 (a + 108) y1 y2 y3 y4 y5) fun v17 X16 => (if v9 = v17 then some ((), σ, X16, 0, 0) else none)) := by
  exact rk_pl (a_feed h)
set_option maxHeartbeats 400000 in
theorem rk_tables (h : IV σ X a L0 R0) (hz : ∀ q ∈ shL σ, q < z) : Rk σ a (bndH (f_L_tables σ X z a y1 (a + 126)) fun v19 σ19 X19 c19 d19 => bnd2 (f_X10_tables σ19 X19 (a + 108) y1) fun v23 X22 => (f_X10_thrown σ19 X22 (a + 108)).bind fun v25 => (if v25 = v19 then (if v19 = 0 then ldL σ19 X22 (a + 126) 0 fun v26 => (if (lg_cmp v26 (Int32.toInt64 v23)) = 0 then some ((), σ19, X22, 0, 0) else none) else some ((), σ19, X22, 0, 0)) else none)) := by
  unfold f_L_tables
  simp only [litM]
  exact rnd (Gn.tab h (a_tables h) (fm' := fun τ Y => f_X10_tables τ Y (a + 108) y1) rfl) Int32.toInt64 (fun v σ1 X1 h1 h2 => stL_t h1 h2) (fun k t σ1 X1 hk => by obtain ⟨rfl, rfl⟩ := hk; exact ⟨rfl, by decide⟩) (fun v σ1 X1 => if_pos (by rw [lg_eq]))
set_option maxHeartbeats 400000 in
theorem rk_fault (h : IV σ X a L0 R0) (hz : ∀ q ∈ shL σ, q < z) : Rk σ a ((f_X9_fault σ X a).bind fun v28 => bnd2 (f_X10_fault σ X (a + 108)) fun v31 X30 => (if v28 = v31 then some ((), σ, X30, 0, 0) else none)) := by
  obtain ⟨w, X3, e1, e2, e3⟩ := a_fault h
  exact ⟨σ, X3, 0, 0, L0, R0, by rw [e1, Option.bind_some, e2, bnd2_k, if_pos rfl], e3, by omega, by omega⟩
set_option maxHeartbeats 400000 in
theorem rk_count (h : IV σ X a L0 R0) (hz : ∀ q ∈ shL σ, q < z) : Rk σ a (bndH (f_L_count σ X z a y1 (a + 126)) fun v33 σ33 X33 c33 d33 => bnd2 (f_X10_count σ33 X33 (a + 108) y1) fun v37 X36 => (f_X10_thrown σ33 X36 (a + 108)).bind fun v39 => (if v39 = v33 then (if v33 = 0 then ldL σ33 X36 (a + 126) 0 fun v40 => (if (lg_cmp v40 (Int32.toInt64 v37)) = 0 then some ((), σ33, X36, 0, 0) else none) else some ((), σ33, X36, 0, 0)) else none)) := by
  unfold f_L_count
  simp only [litM]
  exact rnd (Gn.n1 (Gn.qry h (q_count h) (fm' := fun τ Y => f_X10_count τ Y (a + 108) y1) rfl) n1_count) Int32.toInt64 (fun v σ1 X1 h1 h2 => stL_t h1 h2) (fun k t σ1 X1 hk => by obtain ⟨rfl, rfl⟩ := hk; exact ⟨rfl, by decide⟩) (fun v σ1 X1 => if_pos (by rw [lg_eq]))
set_option maxHeartbeats 400000 in
theorem rk_table (h : IV σ X a L0 R0) (hz : ∀ q ∈ shL σ, q < z) : Rk σ a (bndH (f_L_table σ X z a y1 y2 (a + 126)) fun v43 σ43 X43 c43 d43 => bnd2 (f_X10_table σ43 X43 (a + 108) y1 y2) fun v48 X47 => (f_X10_thrown σ43 X47 (a + 108)).bind fun v50 => (if v50 = v43 then (if v43 = 0 then ldL σ43 X47 (a + 126) 0 fun v51 => (if (lg_cmp v51 (Int32.toInt64 v48)) = 0 then some ((), σ43, X47, 0, 0) else none) else some ((), σ43, X47, 0, 0)) else none)) := by
  unfold f_L_table
  simp only [litM]
  exact rnd (Gn.n1 (Gn.qry h (q_table h) (fm' := fun τ Y => f_X10_table τ Y (a + 108) y1 y2) rfl) n1_table) Int32.toInt64 (fun v σ1 X1 h1 h2 => stL_t h1 h2) (fun k t σ1 X1 hk => by obtain ⟨rfl, rfl⟩ := hk; exact ⟨rfl, by decide⟩) (fun v σ1 X1 => if_pos (by rw [lg_eq]))
set_option maxHeartbeats 400000 in
theorem rk_column (h : IV σ X a L0 R0) (hz : ∀ q ∈ shL σ, q < z) : Rk σ a (bndH (f_L_column σ X z a y1 y2 y3 (a + 126)) fun v55 σ55 X55 c55 d55 => bnd2 (f_X10_column σ55 X55 (a + 108) y1 y2 y3) fun v61 X60 => (f_X10_thrown σ55 X60 (a + 108)).bind fun v63 => (if v63 = v55 then (if v55 = 0 then ldL σ55 X60 (a + 126) 0 fun v64 => (if (lg_cmp v64 (Int32.toInt64 v61)) = 0 then some ((), σ55, X60, 0, 0) else none) else some ((), σ55, X60, 0, 0)) else none)) := by
  unfold f_L_column
  simp only [litM]
  exact rnd (Gn.n1 (Gn.qry h (q_column h) (fm' := fun τ Y => f_X10_column τ Y (a + 108) y1 y2 y3) rfl) n1_column) Int32.toInt64 (fun v σ1 X1 h1 h2 => stL_t h1 h2) (fun k t σ1 X1 hk => by obtain ⟨rfl, rfl⟩ := hk; exact ⟨rfl, by decide⟩) (fun v σ1 X1 => if_pos (by rw [lg_eq]))
set_option maxHeartbeats 400000 in
theorem rk_cell (h : IV σ X a L0 R0) (hz : ∀ q ∈ shL σ, q < z) : Rk σ a (bndH (f_L_cell σ X z a y1 y2 y3 (a + 126)) fun v68 σ68 X68 c68 d68 => bnd2 (f_X10_cell σ68 X68 (a + 108) y1 y2 y3) fun v74 X73 => (f_X10_thrown σ68 X73 (a + 108)).bind fun v76 => (if v76 = v68 then (if v68 = 0 then ldL σ68 X73 (a + 126) 0 fun v77 => (if (lg_cmp v77 (Int32.toInt64 v74)) = 0 then some ((), σ68, X73, 0, 0) else none) else some ((), σ68, X73, 0, 0)) else none)) := by
  unfold f_L_cell
  simp only [litM]
  exact rnd (Gn.n1 (Gn.qry h (q_cell h) (fm' := fun τ Y => f_X10_cell τ Y (a + 108) y1 y2 y3) rfl) n1_cell) Int32.toInt64 (fun v σ1 X1 h1 h2 => stL_t h1 h2) (fun k t σ1 X1 hk => by obtain ⟨rfl, rfl⟩ := hk; exact ⟨rfl, by decide⟩) (fun v σ1 X1 => if_pos (by rw [lg_eq]))
set_option maxHeartbeats 400000 in
theorem rk_whose (h : IV σ X a L0 R0) (hz : ∀ q ∈ shL σ, q < z) : Rk σ a (bndH (f_L_whose σ X z a y1 y2 (a + 126)) fun v80 σ80 X80 c80 d80 => bnd2 (f_X10_whose σ80 X80 (a + 108) y1 y2) fun v85 X84 => (f_X10_thrown σ80 X84 (a + 108)).bind fun v87 => (if v87 = v80 then (if v80 = 0 then ldL σ80 X84 (a + 126) 0 fun v88 => (if (lg_cmp v88 (Int32.toInt64 v85)) = 0 then some ((), σ80, X84, 0, 0) else none) else some ((), σ80, X84, 0, 0)) else none)) := by
  unfold f_L_whose
  simp only [litM]
  exact rnd (Gn.n1 (Gn.qry h (q_whose h) (fm' := fun τ Y => f_X10_whose τ Y (a + 108) y1 y2) rfl) n1_whose) Int32.toInt64 (fun v σ1 X1 h1 h2 => stL_t h1 h2) (fun k t σ1 X1 hk => by obtain ⟨rfl, rfl⟩ := hk; exact ⟨rfl, by decide⟩) (fun v σ1 X1 => if_pos (by rw [lg_eq]))
set_option maxHeartbeats 400000 in
theorem rk_conflict (h : IV σ X a L0 R0) (hz : ∀ q ∈ shL σ, q < z) : Rk σ a (bndH (f_L_conflict σ X z a y1 y2 (a + 126)) fun v91 σ91 X91 c91 d91 => bnd2 (f_X10_conflict σ91 X91 (a + 108) y1 y2) fun v96 X95 => (f_X10_thrown σ91 X95 (a + 108)).bind fun v98 => (if v98 = v91 then (if v91 = 0 then ldL σ91 X95 (a + 126) 0 fun v99 => (if (lg_cmp v99 (Int32.toInt64 v96)) = 0 then some ((), σ91, X95, 0, 0) else none) else some ((), σ91, X95, 0, 0)) else none)) := by
  unfold f_L_conflict
  simp only [litM]
  exact rnd (Gn.n1 (Gn.qry h (q_conflict h) (fm' := fun τ Y => f_X10_conflict τ Y (a + 108) y1 y2) rfl) n1_conflict) Int32.toInt64 (fun v σ1 X1 h1 h2 => stL_t h1 h2) (fun k t σ1 X1 hk => by obtain ⟨rfl, rfl⟩ := hk; exact ⟨rfl, by decide⟩) (fun v σ1 X1 => if_pos (by rw [lg_eq]))
set_option maxHeartbeats 400000 in
theorem rk_set {L : Nat} {xs : Nat → Int32} {x0 : Nat} {x4 : Int32} (h : IV σ X a L0 R0) (hz : ∀ q ∈ shL σ, q < z) : Rk σ a (bndH (f_L_set σ X z a y1 y2 y3 y4 (a + 126)) fun v104 σ104 X104 c104 d104 => bnd2 (f_X10_set σ104 X104 (a + 108) y1 y2 y3 y4) fun v111 X110 => (f_X10_thrown σ104 X110 (a + 108)).bind fun v113 => (if v113 = v104 then (if v104 = 0 then ldL σ104 X110 (a + 126) 0 fun v114 => (if v111 = 0 then f_L_law_828 L xs x0 a (a + 108) (a + 126) x4 (σ104) X110 v114 0 else f_L_law_828 L xs x0 a (a + 108) (a + 126) x4 (σ104) X110 v114 1) else some ((), σ104, X110, 0, 0)) else none)) := by
  unfold f_L_set f_L_law_828
  simp only [litM]
  exact rnd (Gn.act (a_set h hz) n1_set) cvB (fun v σ1 X1 h1 h2 => by
    unfold cvB
    by_cases q : v = nI 0
    · rw [if_pos q, if_pos q, stL_t h1 h2]
    · rw [if_neg q, if_neg q, stL_t h1 h2]) (fun k t σ1 X1 hk => by obtain ⟨rfl, rfl⟩ := hk; exact ⟨rfl, by decide⟩) (fun v σ1 X1 => by
    unfold cvB
    by_cases q : v = nI 0
    · rw [if_pos q, if_pos q]; exact if_pos (by rw [lg_eq])
    · rw [if_neg q, if_neg q]; exact if_pos (by rw [lg_eq]))
set_option maxHeartbeats 400000 in
theorem rk_insert {L : Nat} {xs : Nat → Int32} {x0 : Nat} {x4 : Int32} (h : IV σ X a L0 R0) (hz : ∀ q ∈ shL σ, q < z) : Rk σ a (bndH (f_L_insert σ X z a y1 y2 (a + 126)) fun v117 σ117 X117 c117 d117 => bnd2 (f_X10_insert σ117 X117 (a + 108) y1 y2) fun v122 X121 => (f_X10_thrown σ117 X121 (a + 108)).bind fun v124 => (if v124 = v117 then (if v117 = 0 then ldL σ117 X121 (a + 126) 0 fun v125 => (if v122 = 0 then f_L_law_903 L xs x0 a (a + 108) (a + 126) x4 (σ117) X121 v125 0 else f_L_law_903 L xs x0 a (a + 108) (a + 126) x4 (σ117) X121 v125 1) else some ((), σ117, X121, 0, 0)) else none)) := by
  unfold f_L_insert f_L_law_903
  simp only [litM]
  exact rnd (Gn.act (a_insert h hz) n1_insert) cvB (fun v σ1 X1 h1 h2 => by
    unfold cvB
    by_cases q : v = nI 0
    · rw [if_pos q, if_pos q, stL_t h1 h2]
    · rw [if_neg q, if_neg q, stL_t h1 h2]) (fun k t σ1 X1 hk => by obtain ⟨rfl, rfl⟩ := hk; exact ⟨rfl, by decide⟩) (fun v σ1 X1 => by
    unfold cvB
    by_cases q : v = nI 0
    · rw [if_pos q, if_pos q]; exact if_pos (by rw [lg_eq])
    · rw [if_neg q, if_neg q]; exact if_pos (by rw [lg_eq]))
set_option maxHeartbeats 400000 in
theorem rk_delete {L : Nat} {xs : Nat → Int32} {x0 : Nat} {x4 : Int32} (h : IV σ X a L0 R0) (hz : ∀ q ∈ shL σ, q < z) : Rk σ a (bndH (f_L_delete σ X z a y1 y2 (a + 126)) fun v128 σ128 X128 c128 d128 => bnd2 (f_X10_delete σ128 X128 (a + 108) y1 y2) fun v133 X132 => (f_X10_thrown σ128 X132 (a + 108)).bind fun v135 => (if v135 = v128 then (if v128 = 0 then ldL σ128 X132 (a + 126) 0 fun v136 => (if v133 = 0 then f_L_law_978 L xs x0 a (a + 108) (a + 126) x4 (σ128) X132 v136 0 else f_L_law_978 L xs x0 a (a + 108) (a + 126) x4 (σ128) X132 v136 1) else some ((), σ128, X132, 0, 0)) else none)) := by
  unfold f_L_delete f_L_law_978
  simp only [litM]
  exact rnd (Gn.act (a_delete h hz) n1_delete) cvB (fun v σ1 X1 h1 h2 => by
    unfold cvB
    by_cases q : v = nI 0
    · rw [if_pos q, if_pos q, stL_t h1 h2]
    · rw [if_neg q, if_neg q, stL_t h1 h2]) (fun k t σ1 X1 hk => by obtain ⟨rfl, rfl⟩ := hk; exact ⟨rfl, by decide⟩) (fun v σ1 X1 => by
    unfold cvB
    by_cases q : v = nI 0
    · rw [if_pos q, if_pos q]; exact if_pos (by rw [lg_eq])
    · rw [if_neg q, if_neg q]; exact if_pos (by rw [lg_eq]))
set_option maxHeartbeats 400000 in
theorem rk_rename {L : Nat} {xs : Nat → Int32} {x0 : Nat} {x4 : Int32} (h : IV σ X a L0 R0) (hz : ∀ q ∈ shL σ, q < z) : Rk σ a (bndH (f_L_rename σ X z a y1 y2 y3 (a + 126)) fun v140 σ140 X140 c140 d140 => bnd2 (f_X10_rename σ140 X140 (a + 108) y1 y2 y3) fun v146 X145 => (f_X10_thrown σ140 X145 (a + 108)).bind fun v148 => (if v148 = v140 then (if v140 = 0 then ldL σ140 X145 (a + 126) 0 fun v149 => (if v146 = 0 then f_L_law_1065 L xs x0 a (a + 108) (a + 126) x4 (σ140) X145 v149 0 else f_L_law_1065 L xs x0 a (a + 108) (a + 126) x4 (σ140) X145 v149 1) else some ((), σ140, X145, 0, 0)) else none)) := by
  unfold f_L_rename f_L_law_1065
  simp only [litM]
  exact rnd (Gn.act (a_rename h hz) n1_rename) cvB (fun v σ1 X1 h1 h2 => by
    unfold cvB
    by_cases q : v = nI 0
    · rw [if_pos q, if_pos q, stL_t h1 h2]
    · rw [if_neg q, if_neg q, stL_t h1 h2]) (fun k t σ1 X1 hk => by obtain ⟨rfl, rfl⟩ := hk; exact ⟨rfl, by decide⟩) (fun v σ1 X1 => by
    unfold cvB
    by_cases q : v = nI 0
    · rw [if_pos q, if_pos q]; exact if_pos (by rw [lg_eq])
    · rw [if_neg q, if_neg q]; exact if_pos (by rw [lg_eq]))
set_option maxHeartbeats 400000 in
theorem rk_retype {L : Nat} {xs : Nat → Int32} {x0 : Nat} {x4 : Int32} (h : IV σ X a L0 R0) (hz : ∀ q ∈ shL σ, q < z) : Rk σ a (bndH (f_L_retype σ X z a y1 y2 y3 (a + 126)) fun v153 σ153 X153 c153 d153 => bnd2 (f_X10_retype σ153 X153 (a + 108) y1 y2 y3) fun v159 X158 => (f_X10_thrown σ153 X158 (a + 108)).bind fun v161 => (if v161 = v153 then (if v153 = 0 then ldL σ153 X158 (a + 126) 0 fun v162 => (if v159 = 0 then f_L_law_1152 L xs x0 a (a + 108) (a + 126) x4 (σ153) X158 v162 0 else f_L_law_1152 L xs x0 a (a + 108) (a + 126) x4 (σ153) X158 v162 1) else some ((), σ153, X158, 0, 0)) else none)) := by
  unfold f_L_retype f_L_law_1152
  simp only [litM]
  exact rnd (Gn.act (a_retype h hz) n1_retype) cvB (fun v σ1 X1 h1 h2 => by
    unfold cvB
    by_cases q : v = nI 0
    · rw [if_pos q, if_pos q, stL_t h1 h2]
    · rw [if_neg q, if_neg q, stL_t h1 h2]) (fun k t σ1 X1 hk => by obtain ⟨rfl, rfl⟩ := hk; exact ⟨rfl, by decide⟩) (fun v σ1 X1 => by
    unfold cvB
    by_cases q : v = nI 0
    · rw [if_pos q, if_pos q]; exact if_pos (by rw [lg_eq])
    · rw [if_neg q, if_neg q]; exact if_pos (by rw [lg_eq]))
set_option maxHeartbeats 400000 in
theorem rk_add (h : IV σ X a L0 R0) (hz : ∀ q ∈ shL σ, q < z) : Rk σ a (bndH (f_L_add σ X z a y1 y2 y3 (a + 126)) fun v166 σ166 X166 c166 d166 => bnd2 (f_X10_add σ166 X166 (a + 108) y1 y2 y3) fun v172 X171 => (f_X10_thrown σ166 X171 (a + 108)).bind fun v174 => (if v174 = v166 then (if v166 = 0 then ldL σ166 X171 (a + 126) 0 fun v175 => (if (lg_cmp v175 (Int32.toInt64 v172)) = 0 then some ((), σ166, X171, 0, 0) else none) else some ((), σ166, X171, 0, 0)) else none)) := by
  unfold f_L_add
  simp only [litM]
  exact rnd (Gn.act (a_add h hz) n1_add) Int32.toInt64 (fun v σ1 X1 h1 h2 => stL_t h1 h2) (fun k t σ1 X1 hk => by obtain ⟨rfl, rfl⟩ := hk; exact ⟨rfl, by decide⟩) (fun v σ1 X1 => if_pos (by rw [lg_eq]))
set_option maxHeartbeats 400000 in
theorem rk_drop {L : Nat} {xs : Nat → Int32} {x0 : Nat} {x4 : Int32} (h : IV σ X a L0 R0) (hz : ∀ q ∈ shL σ, q < z) : Rk σ a (bndH (f_L_drop σ X z a y1 y2 (a + 126)) fun v178 σ178 X178 c178 d178 => bnd2 (f_X10_drop σ178 X178 (a + 108) y1 y2) fun v183 X182 => (f_X10_thrown σ178 X182 (a + 108)).bind fun v185 => (if v185 = v178 then (if v178 = 0 then ldL σ178 X182 (a + 126) 0 fun v186 => (if v183 = 0 then f_L_law_1307 L xs x0 a (a + 108) (a + 126) x4 (σ178) X182 v186 0 else f_L_law_1307 L xs x0 a (a + 108) (a + 126) x4 (σ178) X182 v186 1) else some ((), σ178, X182, 0, 0)) else none)) := by
  unfold f_L_drop f_L_law_1307
  simp only [litM]
  exact rnd (Gn.act (a_drop h hz) n1_drop) cvB (fun v σ1 X1 h1 h2 => by
    unfold cvB
    by_cases q : v = nI 0
    · rw [if_pos q, if_pos q, stL_t h1 h2]
    · rw [if_neg q, if_neg q, stL_t h1 h2]) (fun k t σ1 X1 hk => by obtain ⟨rfl, rfl⟩ := hk; exact ⟨rfl, by decide⟩) (fun v σ1 X1 => by
    unfold cvB
    by_cases q : v = nI 0
    · rw [if_pos q, if_pos q]; exact if_pos (by rw [lg_eq])
    · rw [if_neg q, if_neg q]; exact if_pos (by rw [lg_eq]))
set_option maxHeartbeats 400000 in
theorem rk_settle (h : IV σ X a L0 R0) (hz : ∀ q ∈ shL σ, q < z) : Rk σ a (bndH (f_X9_settle σ X z a y1 y2 y3 y4) fun v191 σ191 X191 c191 d191 => bnd2 (f_X10_settle σ191 X191 (a + 108) y1 y2 y3 y4) fun v198 X197 => (if v191 = v198 then some ((), σ191, X197, 0, 0) else none)) := by
  exact rk_actI (a_settle h hz)
set_option maxHeartbeats 400000 in
theorem rk_unsettle (h : IV σ X a L0 R0) (hz : ∀ q ∈ shL σ, q < z) : Rk σ a (bndH (f_X9_unsettle σ X z a y1 y2 y3) fun v202 σ202 X202 c202 d202 => bnd2 (f_X10_unsettle σ202 X202 (a + 108) y1 y2 y3) fun v208 X207 => (if v202 = v208 then some ((), σ202, X207, 0, 0) else none)) := by
  exact rk_actI (a_unsettle h hz)
set_option maxHeartbeats 400000 in
theorem rk_flip (h : IV σ X a L0 R0) (hz : ∀ q ∈ shL σ, q < z) : Rk σ a (bndH (f_X9_flip σ X z a) fun u209 σ209 X209 c209 d209 => (f_X10_flip σ209 X209 (a + 108)).bind fun X211 => some ((), σ209, X211, 0, 0)) := by
  obtain ⟨σ1, X1, c, d, X3, e1, b1, b2, e2, e3⟩ := a_flip h hz
  exact ⟨σ1, X3, c, d, R0, L0, by rw [e1, bndH_s, e2, Option.bind_some, adc_some, Nat.zero_add, Nat.zero_add], e3, by omega, by omega⟩
set_option maxHeartbeats 400000 in
theorem rk_commit (h : IV σ X a L0 R0) (hz : ∀ q ∈ shL σ, q < z) : Rk σ a (bndH (f_X9_commit σ X z a) fun v212 σ212 X212 c212 d212 => bnd2 (f_X10_commit σ212 X212 (a + 108)) fun v215 X214 => (if v212 = v215 then some ((), σ212, X214, 0, 0) else none)) := by
  exact rk_actI (a_commit h hz)
set_option maxHeartbeats 400000 in
theorem rk_undo (h : IV σ X a L0 R0) (hz : ∀ q ∈ shL σ, q < z) : Rk σ a (bndH (f_X9_undo σ X z a) fun v216 σ216 X216 c216 d216 => bnd2 (f_X10_undo σ216 X216 (a + 108)) fun v219 X218 => (if v216 = v219 then some ((), σ216, X218, 0, 0) else none)) := by
  exact rk_actI (a_undo h)
set_option maxHeartbeats 400000 in
theorem rk_difference (h : IV σ X a L0 R0) (hz : ∀ q ∈ shL σ, q < z) : Rk σ a (bndH (f_L_difference σ X z a y1 y2 (a + 126)) fun v222 σ222 X222 c222 d222 => bnd2 (f_X10_difference σ222 X222 (a + 108) y1 y2) fun v227 X226 => (f_X10_thrown σ222 X226 (a + 108)).bind fun v229 => (if v229 = v222 then (if v222 = 0 then ldL σ222 X226 (a + 126) 0 fun v230 => (if (lg_cmp v230 (Int32.toInt64 v227)) = 0 then some ((), σ222, X226, 0, 0) else none) else some ((), σ222, X226, 0, 0)) else none)) := by
  unfold f_L_difference
  simp only [litM]
  exact rnd (Gn.n1 (Gn.qry h (q_difference h) (fm' := fun τ Y => f_X10_difference τ Y (a + 108) y1 y2) rfl) n1_difference) Int32.toInt64 (fun v σ1 X1 h1 h2 => stL_t h1 h2) (fun k t σ1 X1 hk => by obtain ⟨rfl, rfl⟩ := hk; exact ⟨rfl, by decide⟩) (fun v σ1 X1 => if_pos (by rw [lg_eq]))
set_option maxHeartbeats 400000 in
theorem rk_along (h : IV σ X a L0 R0) (hz : ∀ q ∈ shL σ, q < z) : Rk σ a (bndH (f_L_along σ X z a y1 y2 (a + 126)) fun v233 σ233 X233 c233 d233 => bnd2 (f_X10_along σ233 X233 (a + 108) y1 y2) fun v238 X237 => (f_X10_thrown σ233 X237 (a + 108)).bind fun v240 => (if v240 = v233 then (if v233 = 0 then ldL σ233 X237 (a + 126) 0 fun v241 => (if (lg_cmp v241 (Int32.toInt64 v238)) = 0 then some ((), σ233, X237, 0, 0) else none) else some ((), σ233, X237, 0, 0)) else none)) := by
  unfold f_L_along
  simp only [litM]
  exact rnd (Gn.qry h (q_along h) (fm' := fun τ Y => f_X10_along τ Y (a + 108) y1 y2) rfl) Int32.toInt64 (fun v σ1 X1 h1 h2 => stL_t h1 h2) (fun k t σ1 X1 hk => by
    obtain ⟨h2, rfl⟩ := hk
    rcases (show k = 0 ∨ k = 1 by omega) with rfl | rfl
    · exact ⟨rfl, by decide⟩
    · exact ⟨rfl, by decide⟩) (fun v σ1 X1 => if_pos (by rw [lg_eq]))
set_option maxHeartbeats 400000 in
theorem rk_alone (h : IV σ X a L0 R0) (hz : ∀ q ∈ shL σ, q < z) : Rk σ a (bndH (f_L_alone σ X z a y1 y2 (a + 126)) fun v244 σ244 X244 c244 d244 => bnd2 (f_X10_alone σ244 X244 (a + 108) y1 y2) fun v249 X248 => (f_X10_thrown σ244 X248 (a + 108)).bind fun v251 => (if v251 = v244 then (if v244 = 0 then ldL σ244 X248 (a + 126) 0 fun v252 => (if (lg_cmp v252 (Int32.toInt64 v249)) = 0 then some ((), σ244, X248, 0, 0) else none) else some ((), σ244, X248, 0, 0)) else none)) := by
  unfold f_L_alone
  simp only [litM]
  exact rnd (Gn.n1 (Gn.qry h (q_alone h) (fm' := fun τ Y => f_X10_alone τ Y (a + 108) y1 y2) rfl) n1_alone) Int32.toInt64 (fun v σ1 X1 h1 h2 => stL_t h1 h2) (fun k t σ1 X1 hk => by obtain ⟨rfl, rfl⟩ := hk; exact ⟨rfl, by decide⟩) (fun v σ1 X1 => if_pos (by rw [lg_eq]))
set_option maxHeartbeats 400000 in
theorem rk_see (h : IV σ X a L0 R0) (hz : ∀ q ∈ shL σ, q < z) : Rk σ a (bnd2 (f_X9_see σ X a y1 y2 y3) fun v258 X257 => bnd2 (f_X10_see σ X257 (a + 108) y1 y2 y3) fun v264 X263 => (if v258 = v264 then some ((), σ, X263, 0, 0) else none)) := by
  exact rk_pl (a_see h)
set_option maxHeartbeats 400000 in
theorem rk_forget (h : IV σ X a L0 R0) (hz : ∀ q ∈ shL σ, q < z) : Rk σ a ((f_X9_forget σ X a).bind fun X266 => (f_X10_forget σ X266 (a + 108)).bind fun X268 => some ((), σ, X268, 0, 0)) := by
  obtain ⟨X1, X3, e1, e2, e3⟩ := a_forget h
  exact ⟨σ, X3, 0, 0, L0, R0, by rw [e1, Option.bind_some, e2, Option.bind_some], e3, by omega, by omega⟩
set_option maxHeartbeats 400000 in
theorem rk_edited (h : IV σ X a L0 R0) (hz : ∀ q ∈ shL σ, q < z) : Rk σ a (bndH (f_L_edited σ X z a y1 (a + 126)) fun v270 σ270 X270 c270 d270 => bnd2 (f_X10_edited σ270 X270 (a + 108) y1) fun v274 X273 => (f_X10_thrown σ270 X273 (a + 108)).bind fun v276 => (if v276 = v270 then (if v270 = 0 then ldL σ270 X273 (a + 126) 0 fun v277 => (if (lg_cmp v277 (Int32.toInt64 v274)) = 0 then some ((), σ270, X273, 0, 0) else none) else some ((), σ270, X273, 0, 0)) else none)) := by
  unfold f_L_edited
  simp only [litM]
  exact rnd (Gn.n1 (Gn.qry h (q_edited h) (fm' := fun τ Y => f_X10_edited τ Y (a + 108) y1) rfl) n1_edited) Int32.toInt64 (fun v σ1 X1 h1 h2 => stL_t h1 h2) (fun k t σ1 X1 hk => by obtain ⟨rfl, rfl⟩ := hk; exact ⟨rfl, by decide⟩) (fun v σ1 X1 => if_pos (by rw [lg_eq]))
set_option maxHeartbeats 400000 in
theorem rk_years (h : IV σ X a L0 R0) (hz : ∀ q ∈ shL σ, q < z) : Rk σ a (bndH (f_L_years σ X z a y1 y2 y3 (a + 126)) fun v281 σ281 X281 c281 d281 => bnd2 (f_X10_years σ281 X281 (a + 108) y1 y2 y3) fun v287 X286 => (f_X10_thrown σ281 X286 (a + 108)).bind fun v289 => (if v289 = v281 then (if v281 = 0 then ldL σ281 X286 (a + 126) 0 fun v290 => (if (lg_cmp v290 (Int32.toInt64 v287)) = 0 then some ((), σ281, X286, 0, 0) else none) else some ((), σ281, X286, 0, 0)) else none)) := by
  unfold f_L_years
  simp only [litM]
  exact rnd (Gn.qry h (q_years h) (fm' := fun τ Y => f_X10_years τ Y (a + 108) y1 y2 y3) rfl) Int32.toInt64 (fun v σ1 X1 h1 h2 => stL_t h1 h2) (fun k t σ1 X1 hk => by
    obtain ⟨h2, rfl⟩ := hk
    rcases (show k = 0 ∨ k = 1 by omega) with rfl | rfl
    · exact ⟨rfl, by decide⟩
    · exact ⟨rfl, by decide⟩) (fun v σ1 X1 => if_pos (by rw [lg_eq]))
set_option maxHeartbeats 400000 in
theorem rk_image (h : IV σ X a L0 R0) (hz : ∀ q ∈ shL σ, q < z) : Rk σ a (bndH (f_X9_image σ X z a) fun u291 σ291 X291 c291 d291 => (f_X10_image σ291 X291 (a + 108)).bind fun X293 => some ((), σ291, X293, 0, 0)) := by
  obtain ⟨σ1, X1, c, d, X3, e1, b1, b2, e2, e3⟩ := a_image h hz
  exact ⟨σ1, X3, c, d, L0, R0, by rw [e1, bndH_s, e2, Option.bind_some, adc_some, Nat.zero_add, Nat.zero_add], e3, by omega, by omega⟩
set_option maxHeartbeats 400000 in
theorem rk_restore (h : IV σ X a L0 R0) (hz : ∀ q ∈ shL σ, q < z) : Rk σ a (bndH (f_X9_restore σ X z a) fun v294 σ294 X294 c294 d294 => bnd2 (f_X10_restore σ294 X294 (a + 108)) fun v297 X296 => (if v294 = v297 then some ((), σ294, X296, 0, 0) else none)) := by
  exact rk_actI (a_restore h hz)
end CASES
def InvR (a : Nat) (σ : Sh) (X : Mx) (pc ps : Nat) : Prop := ∃ L R, IV σ X a L R ∧ pc = 17 * pot σ a ∧ ps = 947 * pot σ a
theorem ldS_0 {ρ : Type} {L i : Nat} {xs : Nat → Int32} {cont : Int32 → Option ρ} (h : i < L) (hi : i < 2 ^ 31) : ldS L xs (nI i) cont = cont (xs i) := by
  have e : (nI i).toNatClampNeg = i := by
    unfold Int32.toNatClampNeg
    rw [nI_toInt hi]
    exact Int.toNat_natCast i
  unfold ldS
  rw [show (0 : Int32) = nI 0 from rfl, e, if_pos (fun q => q.elim (fun q => by rw [n_lt hi (by omega)] at q; omega) (fun q => by omega))]
theorem round_ok {L b a : Nat} {xs : Nat → Int32} (hL : L ≤ 3072) : RoundOK (InvR a) L xs b a (a + 108) (a + 126) := by
  intro i σ X z pc ps hI hz hi
  obtain ⟨L0, R0, h, rfl, rfl⟩ := hI
  have key : Rk σ a (f_L_law_33 L xs b a (a + 108) (a + 126) (nI i) σ X z) := by
    have e0 : ∀ {ρ : Type} (cont : Int32 → Option ρ), ldS L xs (nI i) cont = cont (xs i) := fun cont => ldS_0 (by omega) (by omega)
    have e1 : ∀ {ρ : Type} (cont : Int32 → Option ρ), ldS L xs (nI i + 1) cont = cont (xs (i + 1)) := fun cont => by rw [show (1 : Int32) = nI 1 from rfl, nI_add]; exact ldS_0 (by omega) (by omega)
    have e2 : ∀ {ρ : Type} (cont : Int32 → Option ρ), ldS L xs (nI i + 2) cont = cont (xs (i + 2)) := fun cont => by rw [show (2 : Int32) = nI 2 from rfl, nI_add]; exact ldS_0 (by omega) (by omega)
    have e3 : ∀ {ρ : Type} (cont : Int32 → Option ρ), ldS L xs (nI i + 3) cont = cont (xs (i + 3)) := fun cont => by rw [show (3 : Int32) = nI 3 from rfl, nI_add]; exact ldS_0 (by omega) (by omega)
    have e4 : ∀ {ρ : Type} (cont : Int32 → Option ρ), ldS L xs (nI i + 4) cont = cont (xs (i + 4)) := fun cont => by rw [show (4 : Int32) = nI 4 from rfl, nI_add]; exact ldS_0 (by omega) (by omega)
    have e5 : ∀ {ρ : Type} (cont : Int32 → Option ρ), ldS L xs (nI i + 5) cont = cont (xs (i + 5)) := fun cont => by rw [show (5 : Int32) = nI 5 from rfl, nI_add]; exact ldS_0 (by omega) (by omega)
    unfold f_L_law_33
    simp only [e0, e1, e2, e3, e4, e5]
    exact rk_ite (rk_feed h hz) (rk_ite (rk_tables h hz) (rk_ite (rk_fault h hz) (rk_ite (rk_count h hz) (rk_ite (rk_table h hz) (rk_ite (rk_column h hz) (rk_ite (rk_cell h hz) (rk_ite (rk_whose h hz) (rk_ite (rk_conflict h hz) (rk_ite (rk_set h hz) (rk_ite (rk_insert h hz) (rk_ite (rk_delete h hz) (rk_ite (rk_rename h hz) (rk_ite (rk_retype h hz) (rk_ite (rk_add h hz) (rk_ite (rk_drop h hz) (rk_ite (rk_settle h hz) (rk_ite (rk_unsettle h hz) (rk_ite (rk_flip h hz) (rk_ite (rk_commit h hz) (rk_ite (rk_undo h hz) (rk_ite (rk_difference h hz) (rk_ite (rk_along h hz) (rk_ite (rk_alone h hz) (rk_ite (rk_see h hz) (rk_ite (rk_forget h hz) (rk_ite (rk_edited h hz) (rk_ite (rk_years h hz) (rk_ite (rk_image h hz) (rk_ite (rk_restore h hz) (⟨σ, X, 0, 0, L0, R0, rfl, h, by omega, by omega⟩))))))))))))))))))))))))))))))
  obtain ⟨σ1, X3, c, d, L1, R1, e1, e2, b1, b2⟩ := key
  exact ⟨σ1, X3, c, d, 17 * pot σ1 a, 947 * pot σ1 a, e1, ⟨L1, R1, e2, rfl, rfl⟩, by omega, by omega⟩
