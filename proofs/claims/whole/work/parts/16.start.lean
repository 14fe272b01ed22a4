/-! THE CLAIM OUT OF ONE WALK OF THE LAW'S BODY. Your part is whole_start (and what it stands on); all else here is the same for every law, but numbers. -/
def R_law : String := "TableMergeLaw"
def lw_P (b : Addr) (xs : List Int32) (args : Array Value) (s : State) : Prop := args = #[.ref b] ∧ s.IntsAt b xs ∧ xs.length ≤ 3072 ∧ (Jvm.Cond.and given_1 narrow_1).before args s = true
def lw_Q (_ : Array Value) (s : State) (o : Outcome) (t : State) : Prop := o = .returned (some (.int 1)) ∧ Framed s o t [] 601024 7293034
def lw_Z (below : List Frame) (a : Array Value) (s : State) : State → Prop := fun t => ∃ o, t.status = .running ∧ Ended t below o ∧ lw_Q a s o t
/-- the law's own end, with 1 on the stack, nothing written that was there before, its room as the claim has it -/
theorem lw_ret {p : Program} {l : Launch} {e : Env} {s : State} {m : MethodId} {below : List Frame} {meth : Method} {c : Code} {b : Nat} (hx : p.tables.exec = Jvm.exec) (hb : c.code = code) (hr : meth.sig.returnType = ret) (hlocks : meth.locks = false) {pc : Nat} {H : Heap} {ls : Array Slot} (hdg : decode code pc = .ok (.ireturn, 1)) : W p l e room_1 s m #[Value.ref b] below meth c H [] 601024 7293034 (lw_Z below #[Value.ref b] s) (F0 m pc ls [.int 1]) := by
  intro T hT X
  obtain ⟨fs, hret, hrun, hended, hW, hframe⟩ := X.leave (v := some (.int 1)) (hlocks := hlocks) (fun h => by rw [hr] at h; cases h)
  have hmeth' : T.vm.method? m = some meth := X.method'
  refine ⟨T.setFrames fs, ?_, .returned (some (.int 1)), hrun, hended, rfl, ⟨_, rfl⟩, hW, hframe⟩
  jvm_step X.here [X.here.top, hx, hb, hdg, hmeth', hr, ret, narrow_b1]
  (try refine ⟨rfl, ?_⟩); (try refine ⟨rfl, ?_⟩)
  first | (intro acts; rw [hret _ acts rfl rfl rfl]) | rw [hret _ _ rfl rfl rfl]
  exact Steps.refl _
/-- what holds at the law's entry: the machine, the code, the tables' words (any of lw_tbl by 'hts w (by decide +kernel)'), the script of L ints xs at the cell b, what the Statement gives of the start (any of its parts by flat_of_before) -/
def lw_At (p : Program) (s : State) (m : MethodId) (meth : Method) (c : Code) (b L : Nat) (xs : Nat → Int32) : Prop :=
  p.tables.exec = Jvm.exec ∧ c.code = code ∧ meth.sig.returnType = ret ∧ c.maxLocals = 7 ∧ s.vm.findClass R_law = some m.cls ∧ (∀ w ∈ lw_tbl, w.before #[Value.ref b] s = true) ∧ va_X b L xs s s.heap ∧ b < s.heap.size ∧ meth.locks = false ∧ (Jvm.Cond.and given_1 narrow_1).before #[Value.ref b] s = true
/-! ===== the law's loop, over any invariant that one round keeps ===== -/
/-- one round keeps Inv, and pays for what it makes -/
def RoundOK (Inv : Sh → Mx → Nat → Nat → Prop) (L : Nat) (xs : Nat → Int32) (b a1 a2 a3 : Nat) : Prop := ∀ (i : Nat) (σ : Sh) (X : Mx) (z pc ps : Nat), Inv σ X pc ps → (∀ a ∈ shL σ, a < z) → i + 6 ≤ L → ∃ (σ1 : Sh) (X1 : Mx) (c d pc1 ps1 : Nat), f_L_law_33 L xs b a1 a2 a3 (nI i) σ X z = some ((), σ1, X1, c, d) ∧ Inv σ1 X1 pc1 ps1 ∧ c + pc1 ≤ pc + 600 ∧ d + ps1 ≤ ps + 6000
theorem lp_gt {i L : Nat} (hL : L ≤ 3072) (hi : i ≤ 4000) : (nI L - 6 < nI i) ↔ L < i + 6 := by
  have h1 : (nI L - 6).toInt = (L : Int) - 6 := by
    rw [Int32.toInt_sub, nI_toInt (by omega), show (6 : Int32).toInt = 6 from rfl, Int.bmod_eq_of_le (by omega) (by omega)]
  rw [Int32.lt_iff_toInt_lt, h1, nI_toInt (by omega)]
  omega
section
variable {p : Program} {l : Launch} {e : Env} {s : State} {m : MethodId} {below : List Frame} {meth : Method} {c : Code} {g : Gp} {b L : Nat} {xs : Nat → Int32}
set_option maxRecDepth 20000 in
set_option maxHeartbeats 4000000 in
theorem law_loop {Inv : Sh → Mx → Nat → Nat → Prop} {a1 a2 a3 : Nat} (C : Cx g RL cL_law 7 (some .boolean) p s m #[Value.ref b] meth c) (hgB : gB g = s.heap.size) (hst : l.stackTraces = false) (hL : L ≤ 3072) (hX : va_X b L xs s s.heap) (hbl : b < s.heap.size) (hbA : ¬ gA g b) (hR : RoundOK Inv L xs b a1 a2 a3) :
    ∀ (n i : Nat) {σ : Sh} {X : Mx} {pc ps cells slots : Nat} {H : Heap} {locs : List Loc} {ls : Array Slot}, L < i + n → i ≤ L + 6 → Wd g σ X s H locs → Inv σ X pc ps → cells + pc + 100 * (L + 6 - i) ≤ 601024 → slots + ps + 1000 * (L + 6 - i) ≤ 7293034 → lv_has ls 7 [(0, .ref b), (1, .ref a1), (2, .ref a2), (3, .ref a3), (4, .int (nI i))] →
      W p l e room_1 s m #[Value.ref b] below meth c H locs cells slots (lw_Z below #[Value.ref b] s) (F0 m 23 ls []) := by
  have hx := C.x
  have hb := C.b
  have hr := C.2.2.2.1
  have hlocks := C.2.2.2.2.1
  intro n
  induction n with
  | zero =>
    intro i σ X pc ps cells slots H locs ls h1 h2 hW hI hc hs hl
    refine lv_iload hx hb dL_law_23 (lv_at hl 4 rfl) ?_
    refine lv_aload_n hx hb dL_law_25 rfl (lv_at hl 0 rfl) ?_
    refine va_slen hx hb hX hbl hbA hW.2.2.1 dL_law_26 ?_
    refine lv_bipush (v := 6) hx hb dL_law_27 (by decide) ?_
    refine lv_isub hx hb dL_law_29 ?_
    refine lv_icmp_gt (tgt := 1893) hx hb dL_law_30 (by decide) (fun q => ?_) (fun q => absurd ((lp_gt hL (by omega)).mpr (by omega)) q)
    refine lv_iconst (v := 1) hx hb dL_law_1893 (by decide) ?_
    refine va_forget (fun q hq => by rw [← hgB]; exact hW.2.2.1.2.2 q hq) ?_
    refine W.widen (k := 601024) (n := 7293034) (by omega) (by omega) ?_
    exact lw_ret hx hb hr hlocks dL_law_1894
  | succ n ih =>
    intro i σ X pc ps cells slots H locs ls h1 h2 hW hI hc hs hl
    refine lv_iload hx hb dL_law_23 (lv_at hl 4 rfl) ?_
    refine lv_aload_n hx hb dL_law_25 rfl (lv_at hl 0 rfl) ?_
    refine va_slen hx hb hX hbl hbA hW.2.2.1 dL_law_26 ?_
    refine lv_bipush (v := 6) hx hb dL_law_27 (by decide) ?_
    refine lv_isub hx hb dL_law_29 ?_
    refine lv_icmp_gt (tgt := 1893) hx hb dL_law_30 (by decide) (fun q => ?_) (fun q => ?_)
    · refine lv_iconst (v := 1) hx hb dL_law_1893 (by decide) ?_
      refine va_forget (fun q hq => by rw [← hgB]; exact hW.2.2.1.2.2 q hq) ?_
      refine W.widen (k := 601024) (n := 7293034) (by omega) (by omega) ?_
      exact lw_ret hx hb hr hlocks dL_law_1894
    · have hi : i + 6 ≤ L := by
        rcases Nat.lt_or_ge L (i + 6) with h | h
        · exact absurd ((lp_gt hL (by omega)).mpr h) q
        · exact h
      obtain ⟨σ1, X1, c1, d1, pc1, ps1, hf, hI1, hc1, hd1⟩ := hR i σ X H.size pc ps hI (fun a ha => pool_lt hW.1 ha) hi
      refine b_L_law_33 (mc := cells + c1) (ms := slots + d1) C hst ⟨by omega, by omega⟩ hX hbl hbA ?_ hW rfl ⟨rfl, rfl⟩ hl hf
      intro σ2 X2 cu du cells2 slots2 H2 locs2 ls2 hW2 hm2 hl2 he
      simp only [Option.some.injEq, Prod.mk.injEq, true_and] at he
      obtain ⟨rfl, rfl, rfl, rfl⟩ := he
      refine lv_iinc (v := nI (i + 6)) (lv' := [(4, .int (nI (i + 6))), (0, .ref b), (1, .ref a1), (2, .ref a2), (3, .ref a3)]) hx hb dL_law_1887 hl2 (k := 4) rfl (by rw [← nI_add]; rfl) (by decide) rfl (fun ls hl => ?_)
      refine lv_goto (tgt := 23) hx hb dL_law_1890 (by decide) ?_
      exact ih (i + 6) (by omega) (by omega) hW2 hI1 (by omega) (by omega) (lv_sub hl [1, 2, 3, 4, 0] rfl)
end
/-! ===== the law's start: what the Statement gives of the world below ===== -/
theorem st_str {A : Nat → Prop} {args : Array Value} {s : State} (hA : ∀ a : Nat, a < s.heap.size → ¬ A a) (hf : ∀ w ∈ flatC (Jvm.Cond.and given_1 narrow_1), w.before args s = true) (ht : ∀ w ∈ lw_tbl, w.before args s = true) : ∀ w : Nat, ∃ q : Nat × Nat, w < 18 → (va_O "java/lang/String" q.1 A s s.heap ∧ va_OF "java/lang/String" "coder" "B" (.int 0) q.1 A s s.heap ∧ va_OF "java/lang/String" "value" "[B" (.ref q.2) q.1 A s s.heap ∧ va_T .byte q.2 (wN w) (fun j => .int ((wB w).getD j 0)) A s s.heap) ∧ vk_R RX7 (wTx.getD w (0, "")).1 (wTx.getD w (0, "")).2 q.1 s := by
  intro w
  by_cases hw : w < 18
  · have h1 := (show ∀ w : Nat, w < 18 → Cond.exactly (.string RX7 (wTx.getD w (0, "")).1) "java/lang/String" ∈ flatC (Jvm.Cond.and given_1 narrow_1) by decide +kernel) w hw
    have h2 := (show ∀ w : Nat, w < 18 → Cond.eq (.field (.string RX7 (wTx.getD w (0, "")).1) "java/lang/String" "coder" "B") (.int 0) ∈ flatC (Jvm.Cond.and given_1 narrow_1) by decide +kernel) w hw
    have h3 := (show ∀ w : Nat, w < 18 → Cond.arrayOf (.field (.string RX7 (wTx.getD w (0, "")).1) "java/lang/String" "value" "[B") .byte ∈ flatC (Jvm.Cond.and given_1 narrow_1) by decide +kernel) w hw
    have h4 := (show ∀ w : Nat, w < 18 → Cond.eq (.length (.field (.string RX7 (wTx.getD w (0, "")).1) "java/lang/String" "value" "[B")) (.int (Int32.ofNat (wN w))) ∈ flatC (Jvm.Cond.and given_1 narrow_1) by decide +kernel) w hw
    have h5 := (show ∀ w : Nat, w < 18 → ∀ j : Nat, j < wN w → Cond.eq (.elem (.field (.string RX7 (wTx.getD w (0, "")).1) "java/lang/String" "value" "[B") (.int (Int32.ofNat j))) (.int ((wB w).getD j 0)) ∈ flatC (Jvm.Cond.and given_1 narrow_1) by decide +kernel) w hw
    have h6 := (show ∀ w : Nat, w < 18 → Cond.stringRef RX7 (wTx.getD w (0, "")).1 (wTx.getD w (0, "")).2 ∈ lw_tbl by decide +kernel) w hw
    have h7 : wN w < 2 ^ 31 := (show ∀ w : Nat, w < 18 → wN w < 2 ^ 31 by decide +kernel) w hw
    obtain ⟨adK, adV, hS, he⟩ := vk_Sof (args := args) (N := 1) (tm := fun _ => .string RX7 (wTx.getD w (0, "")).1) (len := [wN w]) (byt := [wB w]) (A := A) (fun i hi => by rw [show i = 0 by omega]; exact h7) (fun i hi => hf _ h1) (fun i hi => hf _ h2) (fun i hi => hf _ h3) (fun i hi => by rw [show i = 0 by omega]; exact hf _ h4) (fun i hi => by rw [show i = 0 by omega]; exact fun j hj => hf _ (h5 j hj)) (fun i j hi hj hij => absurd (show i = j by omega) hij) hA
    exact ⟨(adK 0, adV 0), fun _ => ⟨hS.1 0 (by omega), vk_R.of (ht _ h6) (he 0 (by omega))⟩⟩
  · exact ⟨(0, 0), fun h => absurd h hw⟩
theorem st_xtx {args : Array Value} {s : State} (hf : ∀ w ∈ flatC (Jvm.Cond.and given_1 narrow_1), w.before args s = true) (ht : ∀ w ∈ lw_tbl, w.before args s = true) : ∀ q ∈ xTx, ∃ sa, vk_R RX9 q.1 q.2 sa s := by
  intro q hq
  have h1 := (show ∀ q ∈ xTx, Cond.exactly (.string RX9 q.1) "java/lang/String" ∈ flatC (Jvm.Cond.and given_1 narrow_1) by decide +kernel) q hq
  have h6 := (show ∀ q ∈ xTx, Cond.stringRef RX9 q.1 q.2 ∈ lw_tbl by decide +kernel) q hq
  obtain ⟨a, c, cA, kA, q1, -⟩ := Cond.exactly_spec (args := args) (first := s) (o := none) (s := s) (idx := []) (t := .string RX9 q.1) (cls := "java/lang/String") (hf _ h1)
  exact ⟨a, vk_R.of (ht _ h6) q1⟩
theorem st_Sc {g : Gp} {args : Array Value} {s : State} (hgB : gB g = s.heap.size) (hw : ∀ w, w < 18 → (va_O "java/lang/String" (gS g w) (gA g) s s.heap ∧ va_OF "java/lang/String" "coder" "B" (.int 0) (gS g w) (gA g) s s.heap ∧ va_OF "java/lang/String" "value" "[B" (.ref (gV g w)) (gS g w) (gA g) s s.heap ∧ va_T .byte (gV g w) (wN w) (fun j => .int ((wB w).getD j 0)) (gA g) s s.heap) ∧ vk_R RX7 (wTx.getD w (0, "")).1 (wTx.getD w (0, "")).2 (gS g w) s) (hf : ∀ w ∈ flatC (Jvm.Cond.and given_1 narrow_1), w.before args s = true) (ht : ∀ w ∈ lw_tbl, w.before args s = true) : Sc g s s.heap := by
  have hA : ∀ a : Nat, a < s.heap.size → ¬ gA g a := fun a h q => by
    have q : gB g ≤ a := q
    omega
  refine ⟨va_Zof (args := args) (ht _ (by decide +kernel)) (ht _ (by decide +kernel)) (va_eqt (hf (Cond.eq (.static "java/lang/String" "COMPACT_STRINGS" "Z") (.int 1)) (by decide +kernel))) hA, va_Zqof (args := args) (ht _ (by decide +kernel)) (ht _ (by decide +kernel)) (hf _ (by decide +kernel)) hA, fun w h => (hw w h).1, vx_Zqof (args := args) (ht _ (by decide +kernel)) (ht _ (by decide +kernel)) (hf _ (by decide +kernel)) hA, vx_Zqof (args := args) (ht _ (by decide +kernel)) (ht _ (by decide +kernel)) (hf _ (by decide +kernel)) hA, fun w h => (hw w h).2, st_xtx hf ht, ?_, ?_, ?_, ?_, ?_⟩
  · exact fun q hq => va_Nw.of rfl (ht _ ((show ∀ q ∈ nwN, Cond.methodLinkNest q.1 q.2.1 q.2.2.1 q.2.2.2 ∈ lw_tbl by decide +kernel) q hq))
  · exact fun q hq => va_Nw.of rfl (ht _ ((show ∀ q ∈ nwC, Cond.castable q.1 q.2 ∈ lw_tbl by decide +kernel) q hq))
  · exact fun q hq => va_Nw.of rfl (ht _ ((show ∀ q ∈ nwD, Cond.declares q ∈ lw_tbl by decide +kernel) q hq))
  · exact va_AO.of (ht (.arrayOver (.object "TableMerge$State")) (by decide +kernel))
  · exact va_Nc.of (hf (.not (.castable "java/lang/IllegalArgumentException" "java/util/NoSuchElementException")) (by decide +kernel))
theorem st_arr {args : Array Value} {s : State} {ty : FieldType} (hn : ∀ C, ty ≠ .object C) (h : (Cond.arrayClass ty).before args s = true) : ∃ cA, ArrOfT s cA ty ∧ va_RA s cA ty := by
  obtain ⟨cA, kA, comp, h1, h2, h3⟩ := Cond.arrayClass_spec h
  refine ⟨cA, fun n z => ⟨fun k h => (by cases h), kA, h2, comp, h3⟩, ?_⟩
  cases ty with
  | object C => exact absurd rfl (hn C)
  | _ => exact h1
theorem st_arq {args : Array Value} {s : State} {C : String} (h : (Cond.arrayOver (.object C)).before args s = true) : ∃ cA, ArrOfT s cA (.object C) ∧ va_RA s cA (.object C) := by
  obtain ⟨comp, cA, kA, h1, h2, h3, h4, h5⟩ := Cond.arrayOver_spec h
  exact ⟨cA, fun n z => ⟨fun k h => (by cases h), kA, h3, comp, h4⟩, kA, comp, h3, h4, h1, h5⟩
theorem st_cls {args : Array Value} {s : State} (ht : ∀ w ∈ lw_tbl, w.before args s = true) : ∃ (dC : Nat → ClassId) (dI : Nat → Nat → Nat), ∀ (k : Nat) (q : vw_C), vwCl[k]? = some q → u_Kn s q.1 q.2.1 q.2.2 (dC k) (dI k) := by
  have h : ∀ k : Nat, ∃ d : ClassId × (Nat → Nat), ∀ q : vw_C, vwCl[k]? = some q → u_Kn s q.1 q.2.1 q.2.2 d.1 d.2 := by
    intro k
    cases hq : vwCl[k]? with
    | none => exact ⟨(0, fun _ => 0), fun q h => by cases h⟩
    | some q =>
      have hmem : q ∈ vwCl := List.mem_of_getElem? hq
      have h1 := (show ∀ q ∈ vwCl, ∀ w ∈ u_ws q.1 q.2.1 q.2.2, w ∈ lw_tbl by decide +kernel) q hmem
      have h2 := (show ∀ q ∈ vwCl, Cond.instantiable q.1 q.2.2 ∈ lw_tbl by decide +kernel) q hmem
      obtain ⟨cC, iS, hK⟩ := u_known (C := q.1) (T := q.2.1) (N := q.2.2) ht h1 (ht _ h2)
      exact ⟨(cC, iS), fun q' h => by cases h; exact hK⟩
  obtain ⟨d, hd⟩ := Classical.axiomOfChoice h
  exact ⟨fun k => (d k).1, fun k => (d k).2, fun k q hq => hd k q hq⟩
/-- nothing made yet -/
def sh0 : Sh := (fun _ _ => none, fun _ => 13, fun _ => 0, [])
def mx0 : Mx := (fun _ _ => 0, fun _ _ => 0)
set_option maxRecDepth 100000 in
set_option maxHeartbeats 4000000 in
theorem start_of {p : Program} {e : Env} {s : State} {m : MethodId} {below : List Frame} {meth : Method} {c : Code} (l : Launch) (hst : l.stackTraces = false) {b L : Nat} {xs : Nat → Int32} (hL : L ≤ 3072) (C0 : lw_At p s m meth c b L xs)
    (hpure : ∀ z : Nat, ∃ (a1 a2 a3 : Nat) (σ : Sh) (X : Mx) (c0 d0 pc ps : Nat) (Inv : Sh → Mx → Nat → Nat → Prop), f_L_law_0 (601024 - c0) (7293034 - d0) sh0 mx0 z = some ((a1, a2, a3), σ, X, 601024, 7293034) ∧ Inv σ X pc ps ∧ c0 + pc + 100 * 3078 ≤ 601024 ∧ d0 + ps + 1000 * 3078 ≤ 7293034 ∧ RoundOK Inv L xs b a1 a2 a3) :
    W p l e room_1 s m #[Value.ref b] below meth c s.heap [] 0 0 (lw_Z below #[Value.ref b] s) (entryFrame m ([Value.ref b] : List Value).toArray 7) := by
  obtain ⟨hx, hb, hr, hml, hown, hts, hX, hbl, hlocks, hgv⟩ := C0
  have hf := flat_of_before _ hgv
  have hA : ∀ a : Nat, a < s.heap.size → ¬ (s.heap.size ≤ a) := fun a h => Nat.not_le.mpr h
  obtain ⟨ad, had⟩ := Classical.axiomOfChoice (st_str (A := fun q => s.heap.size ≤ q) hA hf hts)
  obtain ⟨dC, dI, hKc⟩ := st_cls hts
  obtain ⟨c1, k1⟩ := st_arr (ty := .byte) (fun C h => by cases h) (hts (.arrayClass .byte) (by decide +kernel))
  obtain ⟨c2, k2⟩ := st_arr (ty := .int) (fun C h => by cases h) (hts (.arrayClass .int) (by decide +kernel))
  obtain ⟨c3, k3⟩ := st_arq (C := "TableMerge$State") (hts (.arrayOver (.object "TableMerge$State")) (by decide +kernel))
  obtain ⟨c4, k4⟩ := st_arr (ty := .long) (fun C h => by cases h) (hts (.arrayClass .long) (by decide +kernel))
  obtain ⟨g, hg⟩ : ∃ g : Gp, g = ((dC, dI), (c1, c2, c3, c4), s.heap.size, (fun w => (ad w).1), (fun w => (ad w).2)) := ⟨_, rfl⟩
  have hgB : gB g = s.heap.size := by rw [hg]; rfl
  have hSc : Sc g s s.heap := st_Sc hgB (fun w hw => by rw [hg]; exact had w hw) hf hts
  have hK : va_K g.1 vwCl (tys g) s := by
    rw [hg]
    refine ⟨hKc, fun k q h => ?_⟩
    match k, h with
    | 0, h => cases h; exact k1
    | 1, h => cases h; exact k2
    | 2, h => cases h; exact k3
    | 3, h => cases h; exact k4
    | k + 4, h => simp [tys] at h
  have C : Cx g RL cL_law 7 (some .boolean) p s m #[Value.ref b] meth c := ⟨⟨hx, hb, hml, hown, fun w hw => hts w (List.mem_filter.mp hw).1⟩, hK, by rw [hgB]; exact Nat.le_refl _, hr, hlocks, hSc⟩
  have hW : Wd g sh0 mx0 s s.heap [] := ⟨fun k q h => by simp [pool, shL, sh0, va_pl] at h, ⟨fun i j p q h => by simp [pool, shL, sh0, va_pl] at h, fun k q h => by simp [pool, shL, sh0, va_pl] at h⟩, va_S.rf, fun a h => by simp [shK, sh0] at h⟩
  obtain ⟨a1, a2, a3, σ, X, c0, d0, pc, ps, Inv, h0, hI, hc, hd, hR⟩ := hpure s.heap.size
  have hl := lv_entry ([.ref b]) (n := 7) (Nat.le_of_ble_eq_true rfl)
  rw [lg_entry_eq]
  generalize (lg_sl ([.ref b]) ++ List.replicate (7 - (lg_sl ([.ref b])).length) Slot.unset).toArray = ls at hl ⊢
  have hl : lv_has ls 7 [(0, .ref b)] := hl
  refine b_L_law_0 (K := 601024 - c0) (D := 7293034 - d0) C ?_ hW (Nat.le_refl _) (Nat.add_zero _) ⟨Nat.zero_add _, Nat.zero_add _⟩ hl h0
  intro b1 b2 b3 σ2 X2 cu du cells slots H locs ls hW2 hm hl he
  simp only [Option.some.injEq, Prod.mk.injEq] at he
  obtain ⟨⟨rfl, rfl, rfl⟩, rfl, rfl, rfl, rfl⟩ := he
  exact law_loop C hgB hst hL hX hbl (by rw [gA, hgB]; exact Nat.not_le.mpr hbl) hR (L + 1) 0 (by omega) (by omega) hW2 hI (by omega) (by omega) (by rw [nI_0]; exact hl)
