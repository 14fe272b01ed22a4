/-! ===== 'throw new NoSuchElementException("text")': its constructor's link has another place than the library's chains ask, so the chain is begun by hand ===== -/
abbrev vnN : String := "java/util/NoSuchElementException"
abbrev vnR : String := "java/lang/RuntimeException"
abbrev vnE : String := "java/lang/Exception"
def vnB : ByteArray := ⟨#[0x2a, 0x2b, 0xb7, 0x00, 0x0d, 0xb1]⟩
/-- the words of this throw: the chain's head by its own bytes, the rest as the library's list has it -/
def vnAt : List Cond := Bundle.throwableAtoms ++ Bundle.throwableSAtoms ++ Bundle.passSAtoms vnN vnR 13 vnB ++ Bundle.chainSAtoms vnR [vnE] ++ (Bundle.ownAtoms RX9 157 vnN [vnR, vnE]).drop ((Bundle.ownAtoms RX9 157 vnN [vnR, vnE]).length - 14)
theorem vn_m1 : ∀ w ∈ Bundle.passSAtoms vnN vnR 13 vnB, w ∈ vnAt := by decide +kernel
theorem vn_m2 : ∀ w ∈ Bundle.chainSAtoms vnR [vnE], w ∈ vnAt := by decide +kernel
section NSEE
variable {p : Program} {l : Launch} {e : Env} {R : Room} {s : State} {m : MethodId} {args : Array Value} {below : List Frame} {meth : Method} {c : Code} {H : Heap} {locs : List Loc} {cells slots : Nat} {Q : State → Prop}
theorem vn_chain {pl : Platform} (hpl : pl.magicAccessors = ({} : Platform).magicAccessors) {top : MethodId} (ht : s.methodNamed? (Bundle.initS Bundle.tN) = some top) (h : ∀ w ∈ vnAt, w.before args s = true) :
    ∃ P1 P2 P3 : PassC, (∀ P ∈ [P1, P2, P3], P.LinksS pl s) ∧ s.methodNamed? (Bundle.initS vnN) = some P1.m ∧ PassesOn top ([P1, P2, P3].map (·.toPassT)) := by
  obtain ⟨P1, L1, n1, u1⟩ := PassC.ofS_atoms (args := args) (s := s) hpl (X := vnN) (Y := vnR) (index := 13) (bytes := vnB) (by decide +kernel) (by decide +kernel) (by decide +kernel) (by decide +kernel) (by decide +kernel) (by decide +kernel)
    (fun w hw => h w (vn_m1 w hw))
  obtain ⟨P2, Ps, hlen, L2, L3, n2, u2, pa⟩ := Bundle.chainS (args := args) hpl ht [vnE] vnR (by decide +kernel) (by decide +kernel) (fun w hw => h w (vn_m2 w hw))
  rcases Ps with _ | ⟨P3, _ | ⟨P4, Pr⟩⟩
  · exact absurd hlen (by decide)
  · refine ⟨P1, P2, P3, ?_, n1, ?_⟩
    · intro P hP
      rcases List.mem_cons.mp hP with rfl | hP
      · exact L1
      · rcases List.mem_cons.mp hP with rfl | hP
        · exact L2
        · exact L3 _ hP
    · exact ⟨Option.some.inj (u1.symm.trans n2), u2, pa⟩
  · exact absurd (Nat.succ.inj hlen) (Nat.succ_ne_zero _)
theorem vn_mT : ∀ w ∈ Bundle.throwableAtoms, w ∈ vnAt := by decide +kernel
theorem vn_mS : ∀ w ∈ Bundle.throwableSAtoms, w ∈ vnAt := by decide +kernel
/-- the words of the object itself, one by one -/
def vnOwn : List Cond := [.methodLink RX9 157 (Bundle.initS vnN), .instanceMethod (Bundle.initS vnN), .code (Bundle.initS vnN) vnB 2 none, .instantiable vnN 6, .selects vnN Bundle.tFill0 Bundle.tFill0, .selects vnN Bundle.tFill Bundle.tFill,
   .lays vnN Bundle.tN "cause" "Ljava/lang/Throwable;", .lays vnN Bundle.tN "stackTrace" Bundle.steD, .lays vnN Bundle.tN "suppressedExceptions" Bundle.listD, .lays vnN Bundle.tN "detailMessage" "Ljava/lang/String;", .lays vnN Bundle.tN "backtrace" "Ljava/lang/Object;",
   .isRef (.static Bundle.tN "UNASSIGNED_STACK" Bundle.steD), .isRef (.static Bundle.tN "SUPPRESSED_SENTINEL" Bundle.listD), .fieldLink Bundle.tN 198 Bundle.tN "backtrace" "Ljava/lang/Object;", .lays Bundle.tN Bundle.tN "backtrace" "Ljava/lang/Object;"]
theorem vn_mO : ∀ w ∈ vnOwn, w ∈ vnAt := by decide +kernel
theorem vn_w {k : Nat} {w : Cond} (hk : vnOwn[k]? = some w) (h : ∀ w ∈ vnAt, w.before args s = true) : w.before args s = true := h w (vn_mO w (List.mem_of_getElem? hk))
/-- a method that the class inherits is the one selected -/
theorem vn_sel {pl : Platform} {f : MethodName} {r : MethodId} {k : ClassId} (hA : ∀ x y, selectMethod pl s.vm x y = selectMethod ({} : Platform) s.vm x y) (hc : s.vm.findClass vnN = some k) (hn : s.methodNamed? f = some r) (hf : s.methodFound? f.cls f.name f.desc = some r) (hw : (Cond.selects vnN f f).before args s = true) : selectMethod pl s.vm k r = .method r := by
  obtain ⟨c2, r2, m2, q1, q2, q3, q4, -⟩ := Cond.selects_spec hw
  cases Option.some.inj (q1.symm.trans hc)
  cases Option.some.inj (q2.symm.trans hf)
  cases Option.some.inj (q3.symm.trans hn)
  rw [hA]; exact q4
set_option maxHeartbeats 2000000 in
/-- the constructor's call on a fresh object, then athrow: it leaves, with an object of its class -/
theorem vn_ctor {U0 : State} (X : Stand p l e R s m args below meth c U0 [] cells slots) (hexec : p.tables.exec = Jvm.exec) (htr : e.platform.stackTraces = false) (hown : s.vm.findClass RX9 = some m.cls) (h : ∀ w ∈ vnAt, w.before args s = true)
    {a : Addr} {cX : ClassId} {kX : Class} (hfX : s.vm.findClass vnN = some cX) (hkX : s.vm.classes[cX]? = some kX) (hcell : U0.heap[a]? = some (freshCell cX kX)) (hnew : s.heap.size ≤ a) {msg : Value} (hmsg : msg.isRef = true)
    {g : JFrame} (hg : g.method = m) (hsize : g.locals.size = c.maxLocals) (hlocked : g.locked = none) (hent : g.entered = []) {rest : List Value} (hst : g.stack = msg :: .ref a :: .ref a :: rest)
    (d0 : decode c.code g.pc = .ok (.invokespecial 157, 3)) (d3 : decode c.code (g.pc + 3) = .ok (.athrow, 1)) (hout : ∀ x ∈ c.exceptionTable.toList, covers x (g.pc + 3) = false)
    (hF : 5 < R.frames) (hL : 2 * g.monitorRoom + ((Value.ref a :: rest).map fun v => v.category).sum + 81 ≤ R.locals) (hlocks : meth.locks = false) :
    ∃ U : State, Steps p.tables e below (U0.setTop g) U ∧ U.status = .running ∧ Ended U below (.threw a) ∧ s.WarmedH U.vm ∧ s.sameButNew ({ U with vm := s.vm } : State) [] cells slots ∧
      ∃ ce, U.heap[a]? = some ce ∧ ce.vm = .none ∧ ce.cls = cX := by
  have hpl : e.platform.magicAccessors = ({} : Platform).magicAccessors := by rw [X.admits.platform]
  obtain ⟨T, Z0, LT, -, Y⟩ := ThrowableC.of_atoms (args := args) (pl := e.platform) (by rw [X.admits.platform]) (by rw [X.admits.platform]) hpl (fun w hw => h w (vn_mT w hw))
  obtain ⟨Z, M, LZ, LM, hnZ⟩ := Init0T.ofS_atoms (args := args) hpl LT Y (fun w hw => h w (vn_mS w hw))
  obtain ⟨P1, P2, P3, LP, hP1, hpass⟩ := vn_chain (args := args) hpl hnZ h
  obtain ⟨c1, k1, hc1, hk1, hord, -, -, -⟩ := Cond.instantiable_spec (vn_w (k := 3) rfl h)
  cases Option.some.inj (hc1.symm.trans hfX)
  cases Option.some.inj (hk1.symm.trans hkX)
  cases Option.some.inj (hfX.symm.trans (findClass_of_methodNamed hP1))
  have hA : ∀ x y, selectMethod e.platform s.vm x y = selectMethod ({} : Platform) s.vm x y := fun x y => Launch.admits_selectMethod X.admits s.vm x y
  have s0 := vn_sel hA hfX Y.fill0 (State.methodFound?_of_named Y.fill0 (by decide)) (vn_w (k := 4) rfl h)
  have s1 := vn_sel hA hfX Y.fill (State.methodFound?_of_named Y.fill (by decide)) (vn_w (k := 5) rfl h)
  obtain ⟨cS0, hS0, hiss⟩ := Y.statics
  obtain ⟨u0, hu0⟩ := Cond.staticRefV Y.unassigned LT.unassignedStatic LT.statics hS0 hiss (vn_w (k := 11) rfl h)
  obtain ⟨u1, hu1⟩ := Cond.staticRefV Y.sentinel LT.sentinelStatic LT.statics hS0 hiss (vn_w (k := 12) rfl h)
  obtain ⟨cS, hS, heS, -, hkeep⟩ := X.same.2.2.2.2.2 T.aS cS0 hS0
  have hS' : U0.heap[T.aS]? = some cS := hS
  obtain ⟨iM, hfM⟩ := Y.msg
  obtain ⟨cB, iB, fB, b1, b2, b3, b4, -, b5, b6, hfB⟩ := Cond.ownField (t := .object "java/lang/Object") Y.found LT.cls (by decide +kernel) (vn_w (k := 13) rfl h) (vn_w (k := 14) rfl h) e.platform hpl
  obtain ⟨tC, dC, eC, nC⟩ := Cond.laysAt hfX hkX Y.cause (vn_w (k := 6) rfl h)
  obtain ⟨tS, dS, eS, nS⟩ := Cond.laysAt hfX hkX Y.stack (vn_w (k := 7) rfl h)
  obtain ⟨tP, dP, eP, nP⟩ := Cond.laysAt hfX hkX Y.supp (vn_w (k := 8) rfl h)
  obtain ⟨tM, dM, eM, nM⟩ := Cond.laysAt hfX hkX hfM (vn_w (k := 9) rfl h)
  obtain ⟨tB, dB, eB, nB⟩ := Cond.laysAt hfX hkX hfB (vn_w (k := 10) rfl h)
  have aC := Cond.laysApart eB eC nB nC (by rw [b5, Y.causeName]; decide)
  have aS := Cond.laysApart eB eS nB nS (by rw [b5, Y.stackName]; decide)
  have aP := Cond.laysApart eB eP nB nP (by rw [b5, Y.suppName]; decide)
  have hskip : SkipFacts T e.platform s (fun u => u) u0 ((preparedCellV T.toThrowableT (freshCell P1.m.cls kX) a u0 u1).withEntry U0.cur) := by
    refine ⟨{ ci198 := cB, i198 := iB, fBack := fB }, ⟨b1, b2, b3, b4⟩, ?_, fun _ _ => rfl⟩
    have hd := fresh_default (c := P1.m.cls) tB
    rw [b6] at hd
    simpa [preparedCellV, Cell.setSlot, Cell.withEntry, Array.getElem?_setIfInBounds, aC, aS, aP, aC.symm, aS.symm, aP.symm, defaultValue] using hd
  obtain ⟨tm, mC, kC, cC, vm1, hn1, -, -, -, -, -, -, -, hW1, st1⟩ := Steps.initColdS (tb := p.tables) (e := e) (below := below) (s := s) (U := U0) X.here hexec X.warmed hpl hown (t := Bundle.initS vnN) rfl rfl (by decide +kernel)
    (vn_w (k := 0) rfl h) (vn_w (k := 1) rfl h) (bytes := vnB) (maxL := 2) (vn_w (k := 2) rfl h) (f := g) hg (a := a) (msg := msg) (rest := .ref a :: rest) hst d0
  cases Option.some.inj (hn1.symm.trans hP1)
  obtain ⟨vm2, X2, st2⟩ := (X.noted hW1).ctorMessageOffV hexec (g := { g with stack := .ref a :: rest }) hg hsize T LT Z LZ M LM [P1, P2, P3] LP hpass (u0 := u0) (sen := u1) (self := a) hmsg (cell := freshCell P1.m.cls kX) (cellS := cS)
    hcell (fun _ => by simp) (by simp) rfl rfl s0 s1 hS' (Nat.ne_of_lt (Nat.lt_of_lt_of_le (Array.getElem?_eq_some_iff.mp hS0).1 hnew)) (by rw [heS]; intro hu; rw [show cS0.vm = .unknown from hu] at hiss; cases hiss)
    (by rw [hkeep _ (fun hm => nomatch hm)]; exact hu0) (by rw [hkeep _ (fun hm => nomatch hm)]; exact hu1)
    (Takes.of_laid hkX hord tC (by rw [Y.causeType]; rfl)) (Takes.of_laid hkX hord tS (by rw [Y.stackType]; exact fits_refV_array _ u0)) (Takes.of_laid hkX hord tP (by rw [Y.suppType]; exact fits_refV_object _ u1)) (Takes.of_laid hkX hord tM (by rw [Y.msgType]; exact fits_refV_object _ ⟨msg, hmsg⟩))
    Y.objLocals hskip htr [] d0 hF hL
  obtain ⟨hwalk, hrun, hend, hWU, hsame⟩ := X2.athrowLeaves hexec (g := { g with stack := .ref a :: rest, pc := g.pc + 3 }) hg hlocked hent hout (a := a) (rest := rest) rfl d3 hlocks
  have hU := heapAt_setCell_self (s := (U0.setVm vm1).setVm vm2) (plainBareV T.toThrowableT (freshCell P1.m.cls kX) a u0 u1 msg) (Array.getElem?_eq_some_iff.mp hcell).1
  refine ⟨_, st1 _ (fun acts => ?_), hrun, hend, hWU, hsame.weaken (fun y hy hlt => ?_) (Nat.le_refl _) (Nat.le_refl _), _, hU, rfl, rfl⟩
  · rw [doInvoke_state]
    exact st2 _ hwalk
  · have hb : y.base = a := by
      simp only [List.nil_append, List.mem_cons, List.not_mem_nil, or_false] at hy
      rcases hy with rfl | rfl | rfl | rfl | rfl <;> rfl
    rw [hb] at hlt
    exact absurd hlt (Nat.not_lt.mpr hnew)
variable {mc ms : Nat} {free : Addr → Prop} {ls : Array Slot} {rest : List Value} {Qc : Array Value → State → Outcome → State → Prop} {XC : String → State → State → Prop}
/-- new; dup; ldc; invokespecial; athrow -/
theorem vn_throwS {cc : ByteArray} {pc is sa : Nat} {text : String} {A : Nat → Prop} (hexec : p.tables.exec = Jvm.exec) (hb : c.code = cc) (hl : l.stackTraces = false) (hown : s.vm.findClass RX9 = some m.cls)
    (hk : (Cond.classLink RX9 153 vnN).before args s = true) (hini : (Cond.initialized vnN).before args s = true) (hstr : vk_R RX9 is text sa s) (hat : ∀ w ∈ vnAt.filter vx_no, w.before args s = true)
    (hgood : ∀ w ∈ Cond.classLink RX9 153 vnN :: Cond.initialized vnN :: vnAt.filter vx_no, vx_ot w = true)
    (hU : vx_Zq Bundle.tN "UNASSIGNED_STACK" Bundle.steD A s s.heap) (hN : vx_Zq Bundle.tN "SUPPRESSED_SENTINEL" Bundle.listD A s s.heap) (hS : va_S A s.heap H locs) (hsize : ls.size = c.maxLocals)
    (d0 : decode cc pc = .ok (.new 153, 3)) (d3 : decode cc (pc + 3) = .ok (.dup, 1)) (d4 : decode cc (pc + 4) = .ok (.ldc is, 2)) (d6 : decode cc (pc + 6) = .ok (.invokespecial 157, 3)) (d9 : decode cc (pc + 9) = .ok (.athrow, 1))
    (hout : ∀ x ∈ c.exceptionTable.toList, covers x (pc + 9) = false) (hF : 5 < R.frames) (hL : (rest.map fun v => v.category).sum + 82 ≤ R.locals) (hRc : cells + 1 ≤ R.cells) (hRs : slots + 6 ≤ R.slots) (hlocks : meth.locks = false)
    (hx : ∀ t : State, s.vm.Alike t.vm → H.size ≤ t.heap.size → (∀ q : Nat, q < H.size → t.heap[q]? = H[q]?) → XC vnN s t) (hf : ∀ z ∈ locs, free z.base) (hc : cells + 1 ≤ mc) (hs : slots + 6 ≤ ms) :
    W p l e R s m args below meth c H locs cells slots (vx_MQ below Qc XC args s mc ms free) (F0 m pc ls rest) := by
  intro T hT X
  have htr : e.platform.stackTraces = false := (show e.platform.stackTraces = l.stackTraces by rw [X.admits.platform]).trans hl
  have Y := vx_rebase X (R' := { frames := R.frames, locals := R.locals, cells := 1, slots := 6 }) (Nat.le_refl _) (Nat.le_refl _) hRc hRs
  obtain ⟨s', hA⟩ : ∃ z, z = (T.setVm s.vm).setFrames (.invoking m args :: below) := ⟨_, rfl⟩
  rw [← hA] at Y
  have hvm : s'.vm = s.vm := by rw [hA]; rfl
  have hhp : s'.heap = H := by rw [hA]; exact hT
  have hW0 : s.WarmedH s'.vm := by rw [hvm]; exact State.WarmedH.refl s
  have hU' : vx_Zq Bundle.tN "UNASSIGNED_STACK" Bundle.steD A s' s'.heap := by rw [hhp]; exact vx_Zq.moved hW0.alike (hU.kept hS.2.1)
  have hN' : vx_Zq Bundle.tN "SUPPRESSED_SENTINEL" Bundle.listD A s' s'.heap := by rw [hhp]; exact vx_Zq.moved hW0.alike (hN.kept hS.2.1)
  have h : ∀ w ∈ vnAt, w.before args s' = true := vx_own (fun w hw => vx_ot_at hW0 hvm.symm (hgood w (List.mem_cons_of_mem _ (List.mem_cons_of_mem _ hw))) (hat w hw)) (vx_isRefq hU'.1) (vx_isRefq hN'.1) hU'.2.word hN'.2.word
  have hown' : s'.vm.findClass RX9 = some m.cls := by rw [hvm]; exact hown
  obtain ⟨vm1, cX, kX, hfX, hkX, -, -, X1, st1⟩ := Y.newCold hexec (own := RX9) (C := vnN) (index := 153) (n := 6) hown' (vx_ot_at hW0 hvm.symm (hgood _ List.mem_cons_self) hk) (vn_w (k := 3) rfl h) (vx_ot_at hW0 hvm.symm (hgood _ (List.mem_cons_of_mem _ List.mem_cons_self)) hini)
    (g := F0 m pc ls rest) rfl (by rw [hb]; exact d0) (Nat.le_refl _) (Nat.le_refl _)
  generalize hT1 : (T.setVm vm1).pushCell { cls := cX, slots := kX.instanceTypes.map defaultValue, vm := .none } = T1 at X1 st1
  have hcA : T1.heap[T.heap.size]? = some (freshCell cX kX) := by rw [← hT1]; exact State.heap_pushCell_size _ _
  have hcat : (Value.ref T.heap.size).category = 1 := rfl
  have d3' : decode c.code (pc + 3) = .ok (.dup, 1) := by rw [hb]; exact d3
  have hstr' : vk_R RX9 is text sa s' := vk_R.warm hW0 hstr
  obtain ⟨U, hsteps, hrun, hend, hWU, hsame, ce, hce, hv, hcc⟩ := vn_ctor X1 hexec htr hown' h hfX hkX hcA (by rw [hhp, hT]; exact Nat.le_refl _) (msg := .ref sa) rfl
    (g := { method := m, pc := pc + 6, locals := ls, stack := .ref sa :: .ref T.heap.size :: .ref T.heap.size :: rest, locked := none }) rfl hsize rfl rfl (rest := rest) rfl
    (by rw [hb]; exact d6) (by rw [hb]; exact d9) hout hF (by simp only [List.map_cons, List.sum_cons, hcat]; show 2 * 0 + _ + 81 ≤ _; omega) hlocks
  obtain ⟨f1, f2⟩ := vx_frame hsame
  rw [hhp] at f1 f2
  have hWs : s.WarmedH U.vm := State.WarmedH.trans hW0 hWU
  have hcl : s.vm.findClass vnN = some ce.cls := by rw [hcc, ← hvm]; exact hfX
  have hall : s.sameButNew ({ U with vm := s.vm } : State) locs mc ms := by
    subst hA
    obtain ⟨e1, e2⟩ := hsame
    rw [State.setFrames_setFrames] at e1
    have h2 : (T.setVm s.vm).sameButNew ({ U with vm := s.vm } : State) [] (0 + 1) (0 + 6) := ⟨e1, e2⟩
    have h3 := X.same.trans h2
    rw [List.append_nil] at h3
    exact h3.mono hc hs
  refine ⟨U, ?_, .threw T.heap.size, hrun, hend, Or.inr ⟨T.heap.size, rfl, vnN, ce, locs, hx U hWs.alike f1 (fun q hq => f2 q hq (fun z hz => nomatch hz)), hce, hv, hcl, hWs, hall, hf⟩⟩
  refine st1 _ ?_
  show Steps p.tables e below (T1.setTop { method := m, pc := pc + 3, locals := ls, stack := .ref T.heap.size :: rest, locked := none }) _
  jvm_step X1.here [X1.here.top, hexec, d3', Value.category]
  exact X1.ldcString hexec (own := RX9) (text := text) (index := is) (a := sa) hown' hstr'.1 hstr'.2
    (g := { method := m, pc := pc + 4, locals := ls, stack := .ref T.heap.size :: .ref T.heap.size :: rest, locked := none }) rfl (by rw [hb]; exact d4) _ hsteps
/-- new; dup; ldc_w; invokespecial; athrow -/
theorem vn_throwSW {cc : ByteArray} {pc is sa : Nat} {text : String} {A : Nat → Prop} (hexec : p.tables.exec = Jvm.exec) (hb : c.code = cc) (hl : l.stackTraces = false) (hown : s.vm.findClass RX9 = some m.cls)
    (hk : (Cond.classLink RX9 153 vnN).before args s = true) (hini : (Cond.initialized vnN).before args s = true) (hstr : vk_R RX9 is text sa s) (hat : ∀ w ∈ vnAt.filter vx_no, w.before args s = true)
    (hgood : ∀ w ∈ Cond.classLink RX9 153 vnN :: Cond.initialized vnN :: vnAt.filter vx_no, vx_ot w = true)
    (hU : vx_Zq Bundle.tN "UNASSIGNED_STACK" Bundle.steD A s s.heap) (hN : vx_Zq Bundle.tN "SUPPRESSED_SENTINEL" Bundle.listD A s s.heap) (hS : va_S A s.heap H locs) (hsize : ls.size = c.maxLocals)
    (d0 : decode cc pc = .ok (.new 153, 3)) (d3 : decode cc (pc + 3) = .ok (.dup, 1)) (d4 : decode cc (pc + 4) = .ok (.ldc_w is, 3)) (d6 : decode cc (pc + 7) = .ok (.invokespecial 157, 3)) (d9 : decode cc (pc + 10) = .ok (.athrow, 1))
    (hout : ∀ x ∈ c.exceptionTable.toList, covers x (pc + 10) = false) (hF : 5 < R.frames) (hL : (rest.map fun v => v.category).sum + 82 ≤ R.locals) (hRc : cells + 1 ≤ R.cells) (hRs : slots + 6 ≤ R.slots) (hlocks : meth.locks = false)
    (hx : ∀ t : State, s.vm.Alike t.vm → H.size ≤ t.heap.size → (∀ q : Nat, q < H.size → t.heap[q]? = H[q]?) → XC vnN s t) (hf : ∀ z ∈ locs, free z.base) (hc : cells + 1 ≤ mc) (hs : slots + 6 ≤ ms) :
    W p l e R s m args below meth c H locs cells slots (vx_MQ below Qc XC args s mc ms free) (F0 m pc ls rest) := by
  intro T hT X
  have htr : e.platform.stackTraces = false := (show e.platform.stackTraces = l.stackTraces by rw [X.admits.platform]).trans hl
  have Y := vx_rebase X (R' := { frames := R.frames, locals := R.locals, cells := 1, slots := 6 }) (Nat.le_refl _) (Nat.le_refl _) hRc hRs
  obtain ⟨s', hA⟩ : ∃ z, z = (T.setVm s.vm).setFrames (.invoking m args :: below) := ⟨_, rfl⟩
  rw [← hA] at Y
  have hvm : s'.vm = s.vm := by rw [hA]; rfl
  have hhp : s'.heap = H := by rw [hA]; exact hT
  have hW0 : s.WarmedH s'.vm := by rw [hvm]; exact State.WarmedH.refl s
  have hU' : vx_Zq Bundle.tN "UNASSIGNED_STACK" Bundle.steD A s' s'.heap := by rw [hhp]; exact vx_Zq.moved hW0.alike (hU.kept hS.2.1)
  have hN' : vx_Zq Bundle.tN "SUPPRESSED_SENTINEL" Bundle.listD A s' s'.heap := by rw [hhp]; exact vx_Zq.moved hW0.alike (hN.kept hS.2.1)
  have h : ∀ w ∈ vnAt, w.before args s' = true := vx_own (fun w hw => vx_ot_at hW0 hvm.symm (hgood w (List.mem_cons_of_mem _ (List.mem_cons_of_mem _ hw))) (hat w hw)) (vx_isRefq hU'.1) (vx_isRefq hN'.1) hU'.2.word hN'.2.word
  have hown' : s'.vm.findClass RX9 = some m.cls := by rw [hvm]; exact hown
  obtain ⟨vm1, cX, kX, hfX, hkX, -, -, X1, st1⟩ := Y.newCold hexec (own := RX9) (C := vnN) (index := 153) (n := 6) hown' (vx_ot_at hW0 hvm.symm (hgood _ List.mem_cons_self) hk) (vn_w (k := 3) rfl h) (vx_ot_at hW0 hvm.symm (hgood _ (List.mem_cons_of_mem _ List.mem_cons_self)) hini)
    (g := F0 m pc ls rest) rfl (by rw [hb]; exact d0) (Nat.le_refl _) (Nat.le_refl _)
  generalize hT1 : (T.setVm vm1).pushCell { cls := cX, slots := kX.instanceTypes.map defaultValue, vm := .none } = T1 at X1 st1
  have hcA : T1.heap[T.heap.size]? = some (freshCell cX kX) := by rw [← hT1]; exact State.heap_pushCell_size _ _
  have hcat : (Value.ref T.heap.size).category = 1 := rfl
  have d3' : decode c.code (pc + 3) = .ok (.dup, 1) := by rw [hb]; exact d3
  have hstr' : vk_R RX9 is text sa s' := vk_R.warm hW0 hstr
  obtain ⟨U, hsteps, hrun, hend, hWU, hsame, ce, hce, hv, hcc⟩ := vn_ctor X1 hexec htr hown' h hfX hkX hcA (by rw [hhp, hT]; exact Nat.le_refl _) (msg := .ref sa) rfl
    (g := { method := m, pc := pc + 7, locals := ls, stack := .ref sa :: .ref T.heap.size :: .ref T.heap.size :: rest, locked := none }) rfl hsize rfl rfl (rest := rest) rfl
    (by rw [hb]; exact d6) (by rw [hb]; exact d9) hout hF (by simp only [List.map_cons, List.sum_cons, hcat]; show 2 * 0 + _ + 81 ≤ _; omega) hlocks
  obtain ⟨f1, f2⟩ := vx_frame hsame
  rw [hhp] at f1 f2
  have hWs : s.WarmedH U.vm := State.WarmedH.trans hW0 hWU
  have hcl : s.vm.findClass vnN = some ce.cls := by rw [hcc, ← hvm]; exact hfX
  have hall : s.sameButNew ({ U with vm := s.vm } : State) locs mc ms := by
    subst hA
    obtain ⟨e1, e2⟩ := hsame
    rw [State.setFrames_setFrames] at e1
    have h2 : (T.setVm s.vm).sameButNew ({ U with vm := s.vm } : State) [] (0 + 1) (0 + 6) := ⟨e1, e2⟩
    have h3 := X.same.trans h2
    rw [List.append_nil] at h3
    exact h3.mono hc hs
  refine ⟨U, ?_, .threw T.heap.size, hrun, hend, Or.inr ⟨T.heap.size, rfl, vnN, ce, locs, hx U hWs.alike f1 (fun q hq => f2 q hq (fun z hz => nomatch hz)), hce, hv, hcl, hWs, hall, hf⟩⟩
  refine st1 _ ?_
  show Steps p.tables e below (T1.setTop { method := m, pc := pc + 3, locals := ls, stack := .ref T.heap.size :: rest, locked := none }) _
  jvm_step X1.here [X1.here.top, hexec, d3', Value.category]
  exact X1.ldcStringW hexec (own := RX9) (text := text) (index := is) (a := sa) hown' hstr'.1 hstr'.2
    (g := { method := m, pc := pc + 4, locals := ls, stack := .ref T.heap.size :: .ref T.heap.size :: rest, locked := none }) rfl (by rw [hb]; exact d4) _ hsteps
end NSEE
set_option maxRecDepth 100000 in
theorem vn_k1 : Cond.classLink RX9 153 vnN ∈ TB := tb (by decide +kernel) (by decide +kernel)
set_option maxRecDepth 100000 in
theorem vn_k2 : Cond.initialized vnN ∈ TB := tb (by decide +kernel) (by decide +kernel)
set_option maxRecDepth 100000 in
theorem vn_k3 : ∀ w ∈ (vnAt.filter vx_no).filter goodWord, w ∈ TB := fun w h => tb ((show ∀ w ∈ (vnAt.filter vx_no).filter goodWord, w ∈ lw_tbl by decide +kernel) w h) (List.mem_filter.mp h).2
theorem vn_k4 : ∀ w ∈ (vnAt.filter vx_no).filter (fun w => !goodWord w), w ∈ Cond.castable vnN vnN :: nwD.map Cond.declares := by decide +kernel
theorem vn_k5 : ∀ w ∈ Cond.classLink RX9 153 vnN :: Cond.initialized vnN :: vnAt.filter vx_no, vx_ot w = true := by decide +kernel
theorem vn_hat {g : Gp} {own : String} {cc : ByteArray} {nL : Nat} {rt : Option FieldType} {p : Program} {s : State} {m : MethodId} {args : Array Value} {meth : Method} {c : Code} (C : Cx g own cc nL rt p s m args meth c) : ∀ w ∈ vnAt.filter vx_no, w.before args s = true := by
  refine vx_hat (fun w h => C.1.2.2.2.2 w (vn_k3 w h)) vn_k4 (vx_c ?_ (fun w hw => ?_))
  · exact va_Nw.use rfl (C.2.2.2.2.2.2.2.2.2.2.2.2.2.1 (vnN, vnN) (by decide +kernel))
  · obtain ⟨q, hq, rfl⟩ := List.mem_map.mp hw
    exact va_Nw.use rfl (C.2.2.2.2.2.2.2.2.2.2.2.2.2.2.1 _ hq)
