/-! THE THROW OF NoSuchElementException: its constructor's link stands at entry 13 -/
def tr_nx : ByteArray := ⟨#[0x2a, 0x2b, 0xb7, 0x00, 0x0d, 0xb1]⟩
def tr_nN : String := "java/util/NoSuchElementException"
def tr_nR : String := "java/lang/RuntimeException"
def tr_nT : List Cond := [Cond.methodLink RX7 300 (Bundle.initS tr_nN), Cond.instantiable tr_nN 6, Cond.castable tr_nN tr_nN, Cond.selects tr_nN Bundle.tFill0 Bundle.tFill0, Cond.selects tr_nN Bundle.tFill Bundle.tFill,
  Cond.lays tr_nN Bundle.tN "cause" "Ljava/lang/Throwable;", Cond.lays tr_nN Bundle.tN "stackTrace" Bundle.steD, Cond.lays tr_nN Bundle.tN "suppressedExceptions" Bundle.listD, Cond.lays tr_nN Bundle.tN "detailMessage" "Ljava/lang/String;",
  Cond.isRef (.static Bundle.tN "UNASSIGNED_STACK" Bundle.steD), Cond.isRef (.static Bundle.tN "SUPPRESSED_SENTINEL" Bundle.listD),
  Cond.fieldLink Bundle.tN 198 Bundle.tN "backtrace" "Ljava/lang/Object;", Cond.lays Bundle.tN Bundle.tN "backtrace" "Ljava/lang/Object;", Cond.lays tr_nN Bundle.tN "backtrace" "Ljava/lang/Object;"]
/-- all words of that throw -/
def tr_nA : List Cond := Bundle.throwableAtoms ++ (Bundle.throwableSAtoms ++ (Bundle.passSAtoms tr_nN tr_nR 13 tr_nx ++ (Bundle.chainSAtoms tr_nR ["java/lang/Exception"] ++ tr_nT)))
theorem tr_n1 : ∀ w ∈ Bundle.throwableAtoms, w ∈ tr_nA := fun w h => List.mem_append_left _ h
theorem tr_n2 : ∀ w ∈ Bundle.throwableSAtoms, w ∈ tr_nA := fun w h => List.mem_append_right _ (List.mem_append_left _ h)
theorem tr_n3 : ∀ w ∈ Bundle.passSAtoms tr_nN tr_nR 13 tr_nx, w ∈ tr_nA := fun w h => List.mem_append_right _ (List.mem_append_right _ (List.mem_append_left _ h))
theorem tr_n4 : ∀ w ∈ Bundle.chainSAtoms tr_nR ["java/lang/Exception"], w ∈ tr_nA := fun w h => List.mem_append_right _ (List.mem_append_right _ (List.mem_append_right _ (List.mem_append_left _ h)))
theorem tr_n5 : ∀ w ∈ tr_nT, w ∈ tr_nA := fun w h => List.mem_append_right _ (List.mem_append_right _ (List.mem_append_right _ (List.mem_append_right _ h)))
section TRX
variable {p : Program} {l : Launch} {e : Env} {R : Room} {s : State} {m : MethodId} {args : Array Value} {below : List Frame} {meth : Method} {c : Code}
set_option maxHeartbeats 1000000 in
/-- the constructor's call, and the throw behind it -/
theorem tr_ctorN {V : State} {cells slots : Nat} (X : Stand p l e R s m args below meth c V [] cells slots) (hexec : p.tables.exec = Jvm.exec) (htr : e.platform.stackTraces = false) (hown : s.vm.findClass RX7 = some m.cls) (h : ∀ w ∈ tr_nA, w.before args s = true)
    {a : Addr} {cX : ClassId} {kX : Class} (hfX : s.vm.findClass tr_nN = some cX) (hkX : s.vm.classes[cX]? = some kX) (hcell : V.heap[a]? = some (freshCell cX kX)) (hnew : s.heap.size ≤ a) {msg : Value} (hmsg : msg.isRef = true)
    {g : JFrame} (hg : g.method = m) (hsize : g.locals.size = c.maxLocals) (hlocked : g.locked = none) (hentered : g.entered = []) {rest : List Value} (hstack : g.stack = msg :: .ref a :: .ref a :: rest)
    (hd6 : decode c.code g.pc = .ok (.invokespecial 300, 3)) (hd9 : decode c.code (g.pc + 3) = .ok (.athrow, 1)) (hout : ∀ x ∈ c.exceptionTable.toList, covers x (g.pc + 3) = false)
    (hRf : 5 < R.frames) (hRl : 2 * g.monitorRoom + ((Value.ref a :: rest).map fun v => v.category).sum + 81 ≤ R.locals) (hlocks : meth.locks = false) :
    ∃ U : State, Steps p.tables e below (V.setTop g) U ∧ U.status = .running ∧ Ended U below (.threw a) ∧ s.WarmedH U.vm ∧ s.sameButNew ({ U with vm := s.vm } : State) [] cells slots ∧ ∃ ce, U.heap[a]? = some ce ∧ ce.vm = .none ∧ ce.cls = cX := by
  have hpl : e.platform.magicAccessors = ({} : Platform).magicAccessors := by rw [X.admits.platform]
  have t' : ∀ w ∈ tr_nT, w.holds args s none s [] = true := fun w hw => h w (tr_n5 w hw)
  obtain ⟨T, Z0, L, -, Y⟩ := ThrowableC.of_atoms (args := args) (s := s) (pl := e.platform) (by rw [X.admits.platform]) (by rw [X.admits.platform]) hpl (fun w hw => h w (tr_n1 w hw))
  obtain ⟨Z, M, LZ, LM, hnZ⟩ := Init0T.ofS_atoms (args := args) hpl L Y (fun w hw => h w (tr_n2 w hw))
  obtain ⟨P0, L0, hm0, hs0⟩ := PassC.ofS_atoms (args := args) (s := s) (pl := e.platform) hpl (X := tr_nN) (Y := tr_nR) (index := 13) (bytes := tr_nx) (by decide +kernel) (by decide +kernel) (by decide +kernel) (by decide +kernel) (by decide +kernel) (by decide +kernel) (fun w hw => h w (tr_n3 w hw))
  obtain ⟨P1, Ps, hlen, L1, hL, hm1, hsup, hpass⟩ := Bundle.chainS (args := args) hpl hnZ ["java/lang/Exception"] tr_nR (by decide +kernel) (fun n hn => by rw [List.mem_singleton.mp hn]; decide +kernel) (fun w hw => h w (tr_n4 w hw))
  have hsup0 : P0.sup = P1.m := Option.some.inj (hs0.symm.trans hm1)
  have hPs : ∀ P, P ∈ P0 :: P1 :: Ps → P.LinksS e.platform s := by
    intro P hP
    rcases List.mem_cons.mp hP with rfl | hP
    · exact L0
    · rcases List.mem_cons.mp hP with rfl | hP
      · exact L1
      · exact hL P hP
  have hln : (P0 :: P1 :: Ps).length = 3 := by simp only [List.length_cons, hlen]; rfl
  have hc0 : s.vm.findClass tr_nN = some P0.m.cls := findClass_of_methodNamed hm0
  cases Option.some.inj (hfX.symm.trans hc0)
  obtain ⟨c1, k1, hc1, hk1, hord, -, -, -⟩ := Cond.instantiable_spec (t' (.instantiable tr_nN 6) (by simp [tr_nT]))
  cases Option.some.inj (hc1.symm.trans hc0)
  cases Option.some.inj (hkX.symm.trans hk1)
  have hsel0 : selectMethod e.platform s.vm P0.m.cls T.fill0 = .method T.fill0 := by
    obtain ⟨c2, r2, m2, q1, q2, q3, q4, -⟩ := Cond.selects_spec (t' (.selects tr_nN Bundle.tFill0 Bundle.tFill0) (by simp [tr_nT]))
    cases Option.some.inj (q1.symm.trans hc0)
    cases Option.some.inj (q2.symm.trans (State.methodFound?_of_named Y.fill0 (by decide)))
    cases Option.some.inj (q3.symm.trans Y.fill0)
    rw [Launch.admits_selectMethod X.admits]
    exact q4
  have hselF : selectMethod e.platform s.vm P0.m.cls T.fill = .method T.fill := by
    obtain ⟨c2, r2, m2, q1, q2, q3, q4, -⟩ := Cond.selects_spec (t' (.selects tr_nN Bundle.tFill Bundle.tFill) (by simp [tr_nT]))
    cases Option.some.inj (q1.symm.trans hc0)
    cases Option.some.inj (q2.symm.trans (State.methodFound?_of_named Y.fill (by decide)))
    cases Option.some.inj (q3.symm.trans Y.fill)
    rw [Launch.admits_selectMethod X.admits]
    exact q4
  obtain ⟨cs, hcs, hiss⟩ := Y.statics
  obtain ⟨u0, hu0⟩ := Cond.staticRefV Y.unassigned L.unassignedStatic L.statics hcs hiss (t' (.isRef (.static Bundle.tN "UNASSIGNED_STACK" Bundle.steD)) (by simp [tr_nT]))
  obtain ⟨sen, hsen⟩ := Cond.staticRefV Y.sentinel L.sentinelStatic L.statics hcs hiss (t' (.isRef (.static Bundle.tN "SUPPRESSED_SENTINEL" Bundle.listD)) (by simp [tr_nT]))
  obtain ⟨ci, ib, fB, hk198, hg198, ha198, hsB, -, hnB, htB, hffB⟩ := Cond.ownField (t := .object "java/lang/Object") Y.found L.cls (by decide +kernel) (t' (.fieldLink Bundle.tN 198 Bundle.tN "backtrace" "Ljava/lang/Object;") (by simp [tr_nT])) (t' (.lays Bundle.tN Bundle.tN "backtrace" "Ljava/lang/Object;") (by simp [tr_nT])) e.platform hpl
  obtain ⟨cS, hcS, heS, -, hkeep⟩ := X.same.2.2.2.2.2 T.aS cs hcs
  have hcS : V.heap[T.aS]? = some cS := hcS
  have hkS : cS.vm ≠ .unknown := by
    rw [heS]
    intro hu
    rw [show cs.vm = .unknown from hu] at hiss
    cases hiss
  have hno : ∀ i, (⟨T.aS, i⟩ : Loc) ∉ ([] : List Loc) := fun i hm => nomatch hm
  have hneS : T.aS ≠ a := Nat.ne_of_lt (Nat.lt_of_lt_of_le (Array.getElem?_eq_some_iff.mp hcs).1 hnew)
  obtain ⟨iM, hffM⟩ := Y.msg
  obtain ⟨tyC, dC, hdC, hdnC⟩ := Cond.laysAt hc0 hkX Y.cause (t' (.lays tr_nN Bundle.tN "cause" "Ljava/lang/Throwable;") (by simp [tr_nT]))
  obtain ⟨tyS, dS, hdS, hdnS⟩ := Cond.laysAt hc0 hkX Y.stack (t' (.lays tr_nN Bundle.tN "stackTrace" Bundle.steD) (by simp [tr_nT]))
  obtain ⟨tyP, dP, hdP, hdnP⟩ := Cond.laysAt hc0 hkX Y.supp (t' (.lays tr_nN Bundle.tN "suppressedExceptions" Bundle.listD) (by simp [tr_nT]))
  obtain ⟨tyM, dM, hdM, hdnM⟩ := Cond.laysAt hc0 hkX hffM (t' (.lays tr_nN Bundle.tN "detailMessage" "Ljava/lang/String;") (by simp [tr_nT]))
  obtain ⟨tyB, dB, hdB, hdnB⟩ := Cond.laysAt hc0 hkX hffB (t' (.lays tr_nN Bundle.tN "backtrace" "Ljava/lang/Object;") (by simp [tr_nT]))
  have bC := Cond.laysApart hdB hdC hdnB hdnC (by rw [hnB, Y.causeName]; decide)
  have bS := Cond.laysApart hdB hdS hdnB hdnS (by rw [hnB, Y.stackName]; decide)
  have bP := Cond.laysApart hdB hdP hdnB hdnP (by rw [hnB, Y.suppName]; decide)
  have hskip : SkipFacts T e.platform s (fun u => u) u0 ((preparedCellV T.toThrowableT (freshCell P0.m.cls kX) a u0 sen).withEntry V.cur) :=
    ⟨{ ci198 := ci, i198 := ib, fBack := fB }, ⟨hk198, hg198, ha198, hsB⟩, by
      have := fresh_default (c := P0.m.cls) tyB
      rw [htB] at this
      simpa [preparedCellV, Cell.setSlot, Cell.withEntry, Array.getElem?_setIfInBounds, bC, bS, bP, bC.symm, bS.symm, bP.symm, defaultValue] using this, fun _ _ => rfl⟩
  obtain ⟨tm, -, -, -, vm1, hnC, -, -, -, -, -, -, -, hW1, st1⟩ := Steps.initColdS (tb := p.tables) (e := e) (below := below) (s := s) (U := V) X.here hexec X.warmed hpl hown (t := Bundle.initS tr_nN) rfl rfl (by decide +kernel) (t' (.methodLink RX7 300 (Bundle.initS tr_nN)) (by simp [tr_nT]))
    (h (.instanceMethod (Bundle.initS tr_nN)) (tr_n3 _ (by simp [Bundle.passSAtoms]))) (bytes := tr_nx) (maxL := 2) (h (.code (Bundle.initS tr_nN) tr_nx 2 none) (tr_n3 _ (by simp [Bundle.passSAtoms]))) (f := g) hg (a := a) (msg := msg) (rest := .ref a :: rest) hstack hd6
  cases Option.some.inj (hnC.symm.trans hm0)
  have X1 := X.noted hW1
  obtain ⟨vm2, X2, st2⟩ := X1.ctorMessageOffV hexec (g := { g with stack := .ref a :: rest }) hg hsize T L Z LZ M LM (P0 :: P1 :: Ps) hPs ⟨hsup0, hsup, hpass⟩ (u0 := u0) (sen := sen) (self := a) hmsg (cell := freshCell P0.m.cls kX) (cellS := cS)
    hcell (fun _ => by simp) (by simp) rfl rfl hsel0 hselF hcS hneS hkS (by rw [hkeep _ (hno _)]; exact hu0) (by rw [hkeep _ (hno _)]; exact hsen)
    (Takes.of_laid hkX hord tyC (by rw [Y.causeType]; rfl)) (Takes.of_laid hkX hord tyS (by rw [Y.stackType]; exact fits_refV_array _ u0)) (Takes.of_laid hkX hord tyP (by rw [Y.suppType]; exact fits_refV_object _ sen))
    (Takes.of_laid hkX hord tyM (by rw [Y.msgType]; exact fits_refV_object _ ⟨msg, hmsg⟩)) Y.objLocals hskip htr [] hd6 (by rw [hln]; exact hRf) (by rw [hln]; exact hRl)
  obtain ⟨hwalk, hrun, hended, hWU, hsame⟩ := X2.athrowLeaves hexec (g := { g with stack := .ref a :: rest, pc := g.pc + 3 }) hg hlocked hentered hout (a := a) (rest := rest) rfl hd9 hlocks
  have hlt : a < ((V.setVm vm1).setVm vm2).heap.size := (Array.getElem?_eq_some_iff.mp hcell).1
  have hU := heapAt_setCell_self (s := (V.setVm vm1).setVm vm2) (plainBareV T.toThrowableT (freshCell P0.m.cls kX) a u0 sen msg) hlt
  refine ⟨_, st1 _ (fun acts => ?_), hrun, hended, hWU, hsame.weaken (fun y hy hlt' => ?_) (Nat.le_refl _) (Nat.le_refl _), _, hU, rfl, rfl⟩
  · rw [doInvoke_state]
    exact st2 _ hwalk
  · exfalso
    have hb : y.base = a := by
      rcases List.mem_append.mp hy with h1 | h1
      · cases h1
      · simp only [List.mem_cons, List.not_mem_nil, or_false] at h1
        rcases h1 with rfl | rfl | rfl | rfl | rfl <;> rfl
    rw [hb] at hlt'
    exact Nat.not_lt.mpr hnew hlt'
end TRX
theorem tr_nw : ∀ w ∈ (tr_nA.filter vx_no).filter goodWord, w ∈ tr_LW := fun w hw => List.mem_filter.mpr ⟨(show ∀ w ∈ (tr_nA.filter vx_no).filter goodWord, w ∈ lw_tbl by decide +kernel) w hw, (List.mem_filter.mp hw).2⟩
theorem tr_nv : ∀ w ∈ (tr_nA.filter vx_no).filter (fun w => !goodWord w), w ∈ tr_exB "java/util/NoSuchElementException" := by decide +kernel
theorem tr_n_in : Cond.classLink RX7 296 tr_nN ∈ tr_LW ∧ Cond.initialized tr_nN ∈ tr_LW ∧ (∀ w ∈ tr_exB tr_nN, w ∈ lw_tbl) ∧ ∀ w ∈ Cond.classLink RX7 296 tr_nN :: Cond.initialized tr_nN :: tr_nA.filter vx_no, vx_ot w = true := ⟨List.mem_filter.mpr ⟨by decide +kernel, by decide⟩, List.mem_filter.mpr ⟨by decide +kernel, by decide⟩, by decide +kernel, by decide +kernel⟩
