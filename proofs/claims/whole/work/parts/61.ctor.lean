/-! new NoSuchElementException(text), thrown: its own constructor calls its superclass's by entry 13, not 7 as the kit's row has it; out of the library's laws of Throwable's constructors -/
def px_six : ByteArray := ⟨#[0x2a, 0x2b, 0xb7, 0x00, 0x0d, 0xb1]⟩
def px_rt : String := "java/lang/RuntimeException"
def px_ex : String := "java/lang/Exception"
def px_last (own : String) (ic : Nat) : List Cond := [.methodLink own ic (Bundle.initS pt_E), .instantiable pt_E 6, .castable pt_E pt_E, .selects pt_E Bundle.tFill0 Bundle.tFill0, .selects pt_E Bundle.tFill Bundle.tFill,
  .lays pt_E Bundle.tN "cause" "Ljava/lang/Throwable;", .lays pt_E Bundle.tN "stackTrace" Bundle.steD, .lays pt_E Bundle.tN "suppressedExceptions" Bundle.listD, .lays pt_E Bundle.tN "detailMessage" "Ljava/lang/String;",
  .isRef (.static Bundle.tN "UNASSIGNED_STACK" Bundle.steD), .isRef (.static Bundle.tN "SUPPRESSED_SENTINEL" Bundle.listD),
  .fieldLink Bundle.tN 198 Bundle.tN "backtrace" "Ljava/lang/Object;", .lays Bundle.tN Bundle.tN "backtrace" "Ljava/lang/Object;", .lays pt_E Bundle.tN "backtrace" "Ljava/lang/Object;"]
def px_atoms (own : String) (ic : Nat) : List Cond := Bundle.throwableAtoms ++ (Bundle.throwableSAtoms ++ (Bundle.passSAtoms pt_E px_rt 13 px_six ++ (Bundle.chainSAtoms px_rt [px_ex] ++ px_last own ic)))
section PXC
variable {p : Program} {l : Launch} {e : Env} {R : Room} {s : State} {m₀ : MethodId} {args : Array Value} {below : List Frame} {meth : Method} {c : Code} {W : State} {locs : List Loc} {cells slots : Nat}
set_option maxHeartbeats 4000000 in
theorem px_ctor (X : Stand p l e R s m₀ args below meth c W locs cells slots) (hexec : p.tables.exec = Jvm.exec) (htr : e.platform.stackTraces = false) {own : String} {ic : Nat} (hown : s.vm.findClass own = some m₀.cls)
    (hat : ∀ a ∈ px_atoms own ic, a.before args s = true) (hlocs : ∀ x ∈ locs, ∀ cell, s.heap[x.base]? = some cell → cell.vm.isStatics = false)
    {a : Addr} {cX : ClassId} {kX : Class} (hfX : s.vm.findClass pt_E = some cX) (hkX : s.vm.classes[cX]? = some kX) (hcell : W.heap[a]? = some (freshCell cX kX)) (hnew : s.heap.size ≤ a) {msg : Value} (hmsg : msg.isRef = true)
    {g : JFrame} (hg : g.method = m₀) (hsize : g.locals.size = c.maxLocals) (hlocked : g.locked = none) (hentered : g.entered = []) {rest : List Value} (hstack : g.stack = msg :: .ref a :: .ref a :: rest)
    (hd6 : decode c.code g.pc = .ok (.invokespecial ic, 3)) (hd9 : decode c.code (g.pc + 3) = .ok (.athrow, 1)) (hout : ∀ x ∈ c.exceptionTable.toList, covers x (g.pc + 3) = false)
    (hRframes : 5 < R.frames) (hRlocals : 2 * g.monitorRoom + ((Value.ref a :: rest).map fun v => v.category).sum + 81 ≤ R.locals) (hlocks : meth.locks = false) :
    ∃ U : State, Steps p.tables e below (W.setTop g) U ∧ U.status = .running ∧ Ended U below (.threw a) ∧ s.WarmedH U.vm ∧ s.sameButNew ({ U with vm := s.vm } : State) locs cells slots ∧ ∃ ce : Cell, U.heap[a]? = some ce ∧ ce.vm = .none ∧ ce.cls = cX := by
  have howns : e.platform.frameOwnsMonitors = true := by rw [X.admits.platform]
  have hfin : e.platform.finalization = false := by rw [X.admits.platform]
  have hpl : e.platform.magicAccessors = ({} : Platform).magicAccessors := by rw [X.admits.platform]
  have g1 : ∀ w ∈ Bundle.throwableAtoms, w.before args s = true := fun w h => hat w (List.mem_append_left _ h)
  have g2 : ∀ w ∈ Bundle.throwableSAtoms, w.before args s = true := fun w h => hat w (List.mem_append_right _ (List.mem_append_left _ h))
  have g3 : ∀ w ∈ Bundle.passSAtoms pt_E px_rt 13 px_six, w.before args s = true := fun w h => hat w (List.mem_append_right _ (List.mem_append_right _ (List.mem_append_left _ h)))
  have g4 : ∀ w ∈ Bundle.chainSAtoms px_rt [px_ex], w.before args s = true := fun w h => hat w (List.mem_append_right _ (List.mem_append_right _ (List.mem_append_right _ (List.mem_append_left _ h))))
  have g5 : ∀ w ∈ px_last own ic, w.before args s = true := fun w h => hat w (List.mem_append_right _ (List.mem_append_right _ (List.mem_append_right _ (List.mem_append_right _ h))))
  have g6 : ∀ (k : Nat) (w : Cond), (px_last own ic)[k]? = some w → w.holds args s none s [] = true := fun k w h => g5 w (List.mem_of_getElem? h)
  obtain ⟨T, Z0, L, -, Y⟩ := ThrowableC.of_atoms (args := args) howns hfin hpl g1
  obtain ⟨Z, M, LZ, LM, hnZ⟩ := Init0T.ofS_atoms (args := args) hpl L Y g2
  -- the chain of constructors
  obtain ⟨P1, L1, hP1, hS1⟩ := PassC.ofS_atoms (args := args) (s := s) hpl (X := pt_E) (Y := px_rt) (index := 13) (bytes := px_six) (by decide +kernel) (by decide +kernel) (by decide +kernel) (by decide +kernel) (by decide +kernel) (by decide +kernel) g3
  obtain ⟨P2, Ps, hlen, L2, hL, hP2, hlk2, hlk⟩ := Bundle.chainS (args := args) hpl hnZ [px_ex] px_rt (by decide +kernel) (by decide +kernel) g4
  have hsup : P1.sup = P2.m := Option.some.inj (hS1.symm.trans hP2)
  have hfound : s.vm.findClass pt_E = some P1.m.cls := findClass_of_methodNamed hP1
  cases Option.some.inj (hfX.symm.trans hfound)
  -- the object's class and its fields
  obtain ⟨c1, k1, hc1, hk1, hord, -, -, hn6⟩ := Cond.instantiable_spec (g6 1 _ rfl)
  cases Option.some.inj (hc1.symm.trans hfound)
  cases Option.some.inj (hkX.symm.trans hk1)
  have sel : ∀ (y : MethodName) (mk : MethodId), s.methodNamed? y = some mk → y.cls.startsWith "[" = false → (Cond.selects pt_E y y).holds args s none s [] = true → s.methodFound? y.cls y.name y.desc = some mk → selectMethod e.platform s.vm P1.m.cls mk = .method mk := by
    intro y mk hy _ hsel hfo
    obtain ⟨c2, r2, m2, q1, q2, q3, q4, -⟩ := Cond.selects_spec hsel
    cases Option.some.inj (q1.symm.trans hfound)
    cases Option.some.inj (q2.symm.trans hfo)
    cases Option.some.inj (q3.symm.trans hy)
    rw [Launch.admits_selectMethod X.admits]
    exact q4
  have hsel0 := sel _ _ Y.fill0 (by decide +kernel) (g6 3 _ rfl) (State.methodFound?_of_named Y.fill0 (by decide))
  have hselF := sel _ _ Y.fill (by decide +kernel) (g6 4 _ rfl) (State.methodFound?_of_named Y.fill (by decide))
  obtain ⟨iM, hffM⟩ := Y.msg
  obtain ⟨ciB, iB, fB, hkB, hgB, haB, hsB, -, hnB, htB, hffB⟩ := Cond.ownField (t := .object "java/lang/Object") Y.found L.cls (by decide +kernel) (g6 11 _ rfl) (g6 12 _ rfl) e.platform hpl
  obtain ⟨tyC, dC, hdC, nmC⟩ := Cond.laysAt hfound hk1 Y.cause (g6 5 _ rfl)
  obtain ⟨tyS, dS, hdS, nmS⟩ := Cond.laysAt hfound hk1 Y.stack (g6 6 _ rfl)
  obtain ⟨tyP, dP, hdP, nmP⟩ := Cond.laysAt hfound hk1 Y.supp (g6 7 _ rfl)
  obtain ⟨tyM, dM, hdM, nmM⟩ := Cond.laysAt hfound hk1 hffM (g6 8 _ rfl)
  obtain ⟨tyB, dB, hdB, nmB⟩ := Cond.laysAt hfound hk1 hffB (g6 13 _ rfl)
  have bC := Cond.laysApart hdB hdC nmB nmC (by rw [hnB, Y.causeName]; decide)
  have bS := Cond.laysApart hdB hdS nmB nmS (by rw [hnB, Y.stackName]; decide)
  have bP := Cond.laysApart hdB hdP nmB nmP (by rw [hnB, Y.suppName]; decide)
  -- the two statics of Throwable
  obtain ⟨cS0, hS0, hst0⟩ := Y.statics
  obtain ⟨u0, hu0⟩ := Cond.staticRefV Y.unassigned L.unassignedStatic L.statics hS0 hst0 (g6 9 _ rfl)
  obtain ⟨sen, hsen⟩ := Cond.staticRefV Y.sentinel L.sentinelStatic L.statics hS0 hst0 (g6 10 _ rfl)
  obtain ⟨cS, hcS, heS, -, hkS⟩ := X.same.2.2.2.2.2 T.aS cS0 hS0
  have hcS : W.heap[T.aS]? = some cS := hcS
  have away : ∀ i, (⟨T.aS, i⟩ : Loc) ∉ locs := fun i hm => by
    have h9 := hlocs _ hm cS0 hS0
    rw [hst0] at h9
    cases h9
  have knS : cS.vm ≠ .unknown := by
    rw [heS]
    intro hu
    rw [show cS0.vm = .unknown from hu] at hst0
    cases hst0
  have neS : T.aS ≠ a := Nat.ne_of_lt (Nat.lt_of_lt_of_le (Array.getElem?_eq_some_iff.mp hS0).1 hnew)
  have hskip : SkipFacts T e.platform s (fun u => u) u0 ((preparedCellV T.toThrowableT (freshCell P1.m.cls kX) a u0 sen).withEntry W.cur) := by
    refine ⟨{ ci198 := ciB, i198 := iB, fBack := fB }, ⟨hkB, hgB, haB, hsB⟩, ?_, fun _ _ => rfl⟩
    have h9 := fresh_default (c := P1.m.cls) tyB
    rw [htB] at h9
    simpa [preparedCellV, Cell.setSlot, Cell.withEntry, Array.getElem?_setIfInBounds, bC, bS, bP, bC.symm, bS.symm, bP.symm, defaultValue] using h9
  -- the call, the walk of the constructors, the throw
  obtain ⟨tm, methC, cdC, kC, vm₁, hnC, -, -, -, -, -, -, -, hW₁, st1⟩ := Steps.initColdS (tb := p.tables) (e := e) (below := below) (s := s) (U := W) X.here hexec X.warmed hpl hown (t := Bundle.initS pt_E) rfl rfl (by decide +kernel)
    (g5 _ (List.mem_of_getElem? (i := 0) rfl)) (g3 _ (List.mem_of_getElem? (i := 0) rfl)) (bytes := px_six) (maxL := 2) (g3 _ (List.mem_of_getElem? (i := 1) rfl)) (f := g) hg (a := a) (msg := msg) (rest := .ref a :: rest) hstack hd6
  cases Option.some.inj (hnC.symm.trans hP1)
  have X₁ := X.noted hW₁
  have hlen2 : (P1 :: P2 :: Ps).length = 3 := by simp [hlen]
  obtain ⟨vm₂, X₂, st2⟩ := X₁.ctorMessageOffV hexec (g := { g with stack := .ref a :: rest }) hg hsize T L Z LZ M LM (P1 :: P2 :: Ps)
    (fun P hP => by
      rcases List.mem_cons.mp hP with rfl | hP
      · exact L1
      · rcases List.mem_cons.mp hP with rfl | hP
        · exact L2
        · exact hL P hP) ⟨hsup, hlk2, hlk⟩ (u0 := u0) (sen := sen) (self := a) hmsg (cell := freshCell P1.m.cls kX) (cellS := cS)
    hcell (fun _ => by simp) (by simp) rfl rfl hsel0 hselF hcS neS knS (by rw [hkS _ (away _)]; exact hu0) (by rw [hkS _ (away _)]; exact hsen)
    (Takes.of_laid hk1 hord tyC (by rw [Y.causeType]; rfl)) (Takes.of_laid hk1 hord tyS (by rw [Y.stackType]; exact fits_refV_array _ u0)) (Takes.of_laid hk1 hord tyP (by rw [Y.suppType]; exact fits_refV_object _ sen))
    (Takes.of_laid hk1 hord tyM (by rw [Y.msgType]; exact fits_refV_object _ ⟨msg, hmsg⟩)) Y.objLocals hskip htr [] hd6 (by rw [hlen2]; omega) (by rw [hlen2]; exact hRlocals)
  obtain ⟨hwalk, hrun, hended, hWU, hsame⟩ := X₂.athrowLeaves hexec (g := { g with stack := .ref a :: rest, pc := g.pc + 3 }) hg hlocked hentered hout (a := a) (rest := rest) rfl hd9 hlocks
  have hlt : a < ((W.setVm vm₁).setVm vm₂).heap.size := (Array.getElem?_eq_some_iff.mp hcell).1
  have hU := heapAt_setCell_self (s := (W.setVm vm₁).setVm vm₂) (plainBareV T.toThrowableT (freshCell P1.m.cls kX) a u0 sen msg) hlt
  refine ⟨_, st1 _ (fun acts => ?_), hrun, hended, hWU, hsame.weaken (fun z hz hz2 => ?_) (Nat.le_refl _) (Nat.le_refl _), _, hU, rfl, rfl⟩
  · rw [doInvoke_state]
    exact st2 _ hwalk
  · rcases List.mem_append.mp hz with h1 | h1
    · exact h1
    · exfalso
      have hb : z.base = a := by
        simp only [List.mem_cons, List.not_mem_nil, or_false] at h1
        rcases h1 with rfl | rfl | rfl | rfl | rfl <;> rfl
      rw [hb] at hz2
      exact Nat.not_lt.mpr hnew hz2
end PXC
