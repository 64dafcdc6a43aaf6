/-! A throw of a class whose constructor hands its text on by another place of its pool than the bundle's (JDK 17's NoSuchElementException: 13). Own proof over the library's laws of Throwable's constructors. -/
section NSE
/-- the words of such a throw -/
def nx_E (own : String) (ic : Nat) (X : String) : List Cond :=
  [.methodLink own ic (Bundle.initS X), .instantiable X 6, .castable X X, .selects X Bundle.tFill0 Bundle.tFill0, .selects X Bundle.tFill Bundle.tFill] ++
  ([.lays X Bundle.tN "cause" "Ljava/lang/Throwable;", .lays X Bundle.tN "stackTrace" Bundle.steD, .lays X Bundle.tN "suppressedExceptions" Bundle.listD, .lays X Bundle.tN "detailMessage" "Ljava/lang/String;"] ++
  ([.isRef (.static Bundle.tN "UNASSIGNED_STACK" Bundle.steD), .isRef (.static Bundle.tN "SUPPRESSED_SENTINEL" Bundle.listD)] ++
   [.fieldLink Bundle.tN 198 Bundle.tN "backtrace" "Ljava/lang/Object;", .lays Bundle.tN Bundle.tN "backtrace" "Ljava/lang/Object;", .lays X Bundle.tN "backtrace" "Ljava/lang/Object;"]))
def nx_C (X Y : String) (ix : Nat) (rx : ByteArray) (r : List String) : List Cond := Bundle.passSAtoms X Y ix rx ++ Bundle.chainSAtoms Y r
def nx_L (own : String) (ic : Nat) (X Y : String) (ix : Nat) (rx : ByteArray) (r : List String) : List Cond := (Bundle.throwableAtoms ++ Bundle.throwableSAtoms) ++ (nx_C X Y ix rx r ++ nx_E own ic X)
variable {p : Program} {l : Launch} {e : Env} {R : Room} {s : State} {m : MethodId} {args : Array Value} {below : List Frame} {meth : Method} {c : Code} {locs : List Loc} {cells slots : Nat}
set_option maxHeartbeats 1000000 in
/-- from the constructor's call to the exception that has left the method -/
theorem nx_made {T0 : State} (S : Stand p l e R s m args below meth c T0 locs cells slots) (hexec : p.tables.exec = Jvm.exec) (htr : e.platform.stackTraces = false) {own X Y : String} {r : List String} {ic ix : Nat} {rx : ByteArray}
    (x0 : decode rx 0 = .ok (.aload_n 0, 1)) (x1 : decode rx 1 = .ok (.aload_n 1, 1)) (x2 : decode rx 2 = .ok (.invokespecial ix, 3)) (x5 : decode rx 5 = .ok (.return_, 1))
    (hown : s.vm.findClass own = some m.cls) (hX : Bundle.fit X = true) (hY : Bundle.fit Y = true) (hr : ∀ n ∈ r, Bundle.fit n = true)
    (h : ∀ w ∈ nx_L own ic X Y ix rx r, w.before args s = true)
    (hlocs : ∀ x ∈ locs, ∀ cell, s.heap[x.base]? = some cell → cell.vm.isStatics = false)
    {a : Addr} {cX : ClassId} {kX : Class} (hfX : s.vm.findClass X = some cX) (hkX : s.vm.classes[cX]? = some kX) (hcell : T0.heap[a]? = some (freshCell cX kX)) (hnew : s.heap.size ≤ a)
    {msg : Value} (hmsg : msg.isRef = true) {g : JFrame} (hg : g.method = m) (hsize : g.locals.size = c.maxLocals) (hlocked : g.locked = none) (hentered : g.entered = []) {rest : List Value} (hstack : g.stack = msg :: .ref a :: .ref a :: rest)
    (hd0 : decode c.code g.pc = .ok (.invokespecial ic, 3)) (hd3 : decode c.code (g.pc + 3) = .ok (.athrow, 1)) (hout : ∀ x ∈ c.exceptionTable.toList, covers x (g.pc + 3) = false)
    (hRf : r.length + 4 < R.frames) (hRl : 2 * g.monitorRoom + ((Value.ref a :: rest).map fun v => v.category).sum + (13 * (r.length + 2) + 42) ≤ R.locals) (hlocks : meth.locks = false) :
    ∃ U : State, Steps p.tables e below (T0.setTop g) U ∧ U.status = .running ∧ Ended U below (.threw a) ∧ s.WarmedH U.vm ∧ s.sameButNew ({ U with vm := s.vm } : State) locs cells slots ∧ ∃ ce, U.heap[a]? = some ce ∧ ce.cls = cX ∧ ce.vm = .none := by
  have pO : e.platform.frameOwnsMonitors = true := by rw [S.admits.platform]
  have pF : e.platform.finalization = false := by rw [S.admits.platform]
  have pM : e.platform.magicAccessors = ({} : Platform).magicAccessors := by rw [S.admits.platform]
  -- the words, family by family
  have hA : ∀ w ∈ Bundle.throwableAtoms, w.before args s = true := fun w hw => h w (List.mem_append_left _ (List.mem_append_left _ hw))
  have hB : ∀ w ∈ Bundle.throwableSAtoms, w.before args s = true := fun w hw => h w (List.mem_append_left _ (List.mem_append_right _ hw))
  have hC : ∀ w ∈ Bundle.passSAtoms X Y ix rx, w.before args s = true := fun w hw => h w (List.mem_append_right _ (List.mem_append_left _ (List.mem_append_left _ hw)))
  have hD : ∀ w ∈ Bundle.chainSAtoms Y r, w.before args s = true := fun w hw => h w (List.mem_append_right _ (List.mem_append_left _ (List.mem_append_right _ hw)))
  have hE : ∀ w ∈ nx_E own ic X, w.before args s = true := fun w hw => h w (List.mem_append_right _ (List.mem_append_right _ hw))
  have e1 : (Cond.methodLink own ic (Bundle.initS X)).before args s = true := hE _ (by simp [nx_E])
  have e2 : (Cond.instantiable X 6).before args s = true := hE _ (by simp [nx_E])
  have e4 : (Cond.selects X Bundle.tFill0 Bundle.tFill0).before args s = true := hE _ (by simp [nx_E])
  have e5 : (Cond.selects X Bundle.tFill Bundle.tFill).before args s = true := hE _ (by simp [nx_E])
  have f1 : (Cond.lays X Bundle.tN "cause" "Ljava/lang/Throwable;").before args s = true := hE _ (by simp [nx_E])
  have f2 : (Cond.lays X Bundle.tN "stackTrace" Bundle.steD).before args s = true := hE _ (by simp [nx_E])
  have f3 : (Cond.lays X Bundle.tN "suppressedExceptions" Bundle.listD).before args s = true := hE _ (by simp [nx_E])
  have f4 : (Cond.lays X Bundle.tN "detailMessage" "Ljava/lang/String;").before args s = true := hE _ (by simp [nx_E])
  have f5 : (Cond.lays X Bundle.tN "backtrace" "Ljava/lang/Object;").before args s = true := hE _ (by simp [nx_E])
  have r1 : (Cond.isRef (.static Bundle.tN "UNASSIGNED_STACK" Bundle.steD)).before args s = true := hE _ (by simp [nx_E])
  have r2 : (Cond.isRef (.static Bundle.tN "SUPPRESSED_SENTINEL" Bundle.listD)).before args s = true := hE _ (by simp [nx_E])
  have b1 : (Cond.fieldLink Bundle.tN 198 Bundle.tN "backtrace" "Ljava/lang/Object;").before args s = true := hE _ (by simp [nx_E])
  have b2 : (Cond.lays Bundle.tN Bundle.tN "backtrace" "Ljava/lang/Object;").before args s = true := hE _ (by simp [nx_E])
  -- the constructors
  obtain ⟨T, Z0, L, -, Ti⟩ := ThrowableC.of_atoms (args := args) pO pF pM hA
  obtain ⟨Z, M, LZ, LM, nZ⟩ := Init0T.ofS_atoms (args := args) pM L Ti hB
  obtain ⟨P, LP, hP, hPs⟩ := PassC.ofS_atoms (args := args) (s := s) pM (Bundle.fit_spec hX).1 (Bundle.fit_spec hY).2 x0 x1 x2 x5 hC
  obtain ⟨P', Ps, hlen, LP', LPs, hP', hsup, hpass⟩ := Bundle.chainS (args := args) pM nZ r Y hY hr hD
  have hjoin : P.sup = P'.m := Option.some.inj (hPs.symm.trans hP')
  -- the class
  have fX : s.vm.findClass X = some P.m.cls := findClass_of_methodNamed hP
  cases Option.some.inj (hfX.symm.trans fX)
  obtain ⟨c1, k1, hc1, hk, hord, -, -, -⟩ := Cond.instantiable_spec e2
  cases Option.some.inj (hc1.symm.trans fX)
  cases Option.some.inj (hkX.symm.trans hk)
  have s0 : selectMethod e.platform s.vm P.m.cls T.fill0 = .method T.fill0 := by
    obtain ⟨c2, c3, c4, q1, q2, q3, q4, -⟩ := Cond.selects_spec e4
    cases Option.some.inj (q1.symm.trans fX)
    cases Option.some.inj (q2.symm.trans (State.methodFound?_of_named Ti.fill0 (by decide)))
    cases Option.some.inj (q3.symm.trans Ti.fill0)
    rw [Launch.admits_selectMethod S.admits]
    exact q4
  have s1 : selectMethod e.platform s.vm P.m.cls T.fill = .method T.fill := by
    obtain ⟨c2, c3, c4, q1, q2, q3, q4, -⟩ := Cond.selects_spec e5
    cases Option.some.inj (q1.symm.trans fX)
    cases Option.some.inj (q2.symm.trans (State.methodFound?_of_named Ti.fill (by decide)))
    cases Option.some.inj (q3.symm.trans Ti.fill)
    rw [Launch.admits_selectMethod S.admits]
    exact q4
  -- the two statics
  obtain ⟨cs, hcs, his⟩ := Ti.statics
  obtain ⟨u0, hu0⟩ := Cond.staticRefV Ti.unassigned L.unassignedStatic L.statics hcs his r1
  obtain ⟨sen, hsen⟩ := Cond.staticRefV Ti.sentinel L.sentinelStatic L.statics hcs his r2
  obtain ⟨cellS, hcS', heS, -, hkeep⟩ := S.same.2.2.2.2.2 T.aS cs hcs
  have hcS : T0.heap[T.aS]? = some cellS := hcS'
  have hfar : ∀ i, (⟨T.aS, i⟩ : Loc) ∉ locs := fun i hm => by
    have := hlocs _ hm cs hcs
    rw [his] at this
    cases this
  have hkn : cellS.vm ≠ .unknown := by
    rw [heS]
    intro hu
    rw [show cs.vm = .unknown from hu] at his
    cases his
  have hne : T.aS ≠ a := Nat.ne_of_lt (Nat.lt_of_lt_of_le (Array.getElem?_eq_some_iff.mp hcs).1 hnew)
  -- where the fields lie
  obtain ⟨ci, i9, fB, hk9, hg9, ha9, hsB, -, hnB, htB, hffB⟩ := Cond.ownField (t := .object "java/lang/Object") Ti.found L.cls (by decide +kernel) b1 b2 e.platform pM
  obtain ⟨iM, hfM⟩ := Ti.msg
  obtain ⟨tyC, dC, hdC, ndC⟩ := Cond.laysAt fX hk Ti.cause f1
  obtain ⟨tyS, dS, hdS, ndS⟩ := Cond.laysAt fX hk Ti.stack f2
  obtain ⟨tyP, dP, hdP, ndP⟩ := Cond.laysAt fX hk Ti.supp f3
  obtain ⟨tyM, dM, hdM, ndM⟩ := Cond.laysAt fX hk hfM f4
  obtain ⟨tyB, dB, hdB, ndB⟩ := Cond.laysAt fX hk hffB f5
  have n1 := Cond.laysApart hdB hdC ndB ndC (by rw [hnB, Ti.causeName]; decide)
  have n2 := Cond.laysApart hdB hdS ndB ndS (by rw [hnB, Ti.stackName]; decide)
  have n3 := Cond.laysApart hdB hdP ndB ndP (by rw [hnB, Ti.suppName]; decide)
  have hsk : SkipFacts T e.platform s (fun u => u) u0 ((preparedCellV T.toThrowableT (freshCell P.m.cls kX) a u0 sen).withEntry T0.cur) := by
    refine ⟨{ ci198 := ci, i198 := i9, fBack := fB }, ⟨hk9, hg9, ha9, hsB⟩, ?_, fun _ _ => rfl⟩
    have z := fresh_default (c := P.m.cls) tyB
    rw [htB] at z
    simpa [preparedCellV, Cell.setSlot, Cell.withEntry, Array.getElem?_setIfInBounds, n1, n2, n3, n1.symm, n2.symm, n3.symm, defaultValue] using z
  -- the call, the constructors, the throw
  have i1 : (Cond.instanceMethod (Bundle.initS X)).before args s = true := hC _ (by simp [Bundle.passSAtoms])
  have i2 : (Cond.code (Bundle.initS X) rx 2 none).before args s = true := hC _ (by simp [Bundle.passSAtoms])
  obtain ⟨tm, -, -, -, vm1, hn1, -, -, -, -, -, -, -, hW1, st1⟩ := Steps.initColdS (tb := p.tables) (e := e) (below := below) (s := s) (U := T0) S.here hexec S.warmed pM hown (t := Bundle.initS X) rfl rfl (Bundle.fit_spec hX).2 e1 i1 (bytes := rx) (maxL := 2) i2 (f := g) hg (a := a) (msg := msg) (rest := .ref a :: rest) hstack hd0
  cases Option.some.inj (hn1.symm.trans hP)
  have S1 := S.noted hW1
  obtain ⟨vm2, S2, st2⟩ := S1.ctorMessageOffV hexec (g := { g with stack := .ref a :: rest }) hg hsize T L Z LZ M LM (P :: P' :: Ps)
    (fun Q hQ => by
      rcases List.mem_cons.mp hQ with rfl | hQ
      · exact LP
      · rcases List.mem_cons.mp hQ with rfl | hQ
        · exact LP'
        · exact LPs Q hQ)
    ⟨hjoin, hsup, hpass⟩ (u0 := u0) (sen := sen) (self := a) hmsg (cell := freshCell P.m.cls kX) (cellS := cellS)
    hcell (fun _ => by simp) (by simp) rfl rfl s0 s1 hcS hne hkn (by rw [hkeep _ (hfar _)]; exact hu0) (by rw [hkeep _ (hfar _)]; exact hsen)
    (Takes.of_laid hk hord tyC (by rw [Ti.causeType]; rfl)) (Takes.of_laid hk hord tyS (by rw [Ti.stackType]; exact fits_refV_array _ u0)) (Takes.of_laid hk hord tyP (by rw [Ti.suppType]; exact fits_refV_object _ sen))
    (Takes.of_laid hk hord tyM (by rw [Ti.msgType]; exact fits_refV_object _ ⟨msg, hmsg⟩)) Ti.objLocals hsk htr [] hd0
    (by simp only [List.length_cons, hlen]; omega) (by simp only [List.length_cons, hlen]; exact hRl)
  obtain ⟨hwalk, hrun, hend, hWU, hsame⟩ := S2.athrowLeaves hexec (g := { g with stack := .ref a :: rest, pc := g.pc + 3 }) hg hlocked hentered hout (a := a) (rest := rest) rfl hd3 hlocks
  have hlt : a < ((T0.setVm vm1).setVm vm2).heap.size := (Array.getElem?_eq_some_iff.mp hcell).1
  have hU := heapAt_setCell_self (s := (T0.setVm vm1).setVm vm2) (plainBareV T.toThrowableT (freshCell P.m.cls kX) a u0 sen msg) hlt
  refine ⟨_, st1 _ (fun acts => ?_), hrun, hend, hWU, hsame.weaken (fun y hy hy2 => ?_) (Nat.le_refl _) (Nat.le_refl _), _, hU, rfl, rfl⟩
  · rw [doInvoke_state]
    exact st2 _ hwalk
  · rcases List.mem_append.mp hy with z | z
    · exact z
    · have hb : y.base = a := by
        simp only [List.mem_cons, List.not_mem_nil, or_false] at z
        rcases z with rfl | rfl | rfl | rfl | rfl <;> rfl
      rw [hb] at hy2
      exact absurd hy2 (Nat.not_lt.mpr hnew)
variable {H : Heap} {free : Addr → Prop} {ls : Array Slot} {rest : List Value} {Qc : Array Value → State → Outcome → State → Prop} {XC : String → State → State → Prop}
set_option maxHeartbeats 1000000 in
/-- 'throw new X("text")': new; dup; ldc or ldc_w (n: its length); invokespecial; athrow -/
theorem nx_throw {cc : ByteArray} {pc n : Nat} (hexec : p.tables.exec = Jvm.exec) (hb : c.code = cc) (hl : l.stackTraces = false) {own X Y text : String} {r : List String} {ik is ic ix mc ms sa : Nat} {rx : ByteArray} {A : Nat → Prop}
    (x0 : decode rx 0 = .ok (.aload_n 0, 1)) (x1 : decode rx 1 = .ok (.aload_n 1, 1)) (x2 : decode rx 2 = .ok (.invokespecial ix, 3)) (x5 : decode rx 5 = .ok (.return_, 1))
    (hown : s.vm.findClass own = some m.cls) (hX : Bundle.fit X = true) (hY : Bundle.fit Y = true) (hr : ∀ n ∈ r, Bundle.fit n = true)
    (hk : (Cond.classLink own ik X).before args s = true) (hini : (Cond.initialized X).before args s = true) (hstr : vk_R own is text sa s) (hat : ∀ w ∈ (nx_L own ic X Y ix rx r).filter vx_no, w.before args s = true)
    (hgood : ∀ w ∈ Cond.classLink own ik X :: Cond.initialized X :: (nx_L own ic X Y ix rx r).filter vx_no, vx_ot w = true)
    (hU : vx_Zq Bundle.tN "UNASSIGNED_STACK" Bundle.steD A s s.heap) (hN : vx_Zq Bundle.tN "SUPPRESSED_SENTINEL" Bundle.listD A s s.heap) (hS : va_S A s.heap H locs) (hsize : ls.size = c.maxLocals)
    (d0 : decode cc pc = .ok (.new ik, 3)) (d3 : decode cc (pc + 3) = .ok (.dup, 1)) (d4 : decode cc (pc + 4) = .ok (.ldc is, n) ∧ n = 2 ∨ decode cc (pc + 4) = .ok (.ldc_w is, n) ∧ n = 3) (d6 : decode cc (pc + 4 + n) = .ok (.invokespecial ic, 3)) (d9 : decode cc (pc + 4 + n + 3) = .ok (.athrow, 1))
    (hout : ∀ x ∈ c.exceptionTable.toList, covers x (pc + 4 + n + 3) = false)
    (hRf : r.length + 4 < R.frames) (hRl : (rest.map fun v => v.category).sum + (13 * (r.length + 2) + 43) ≤ R.locals) (hRc : cells + 1 ≤ R.cells) (hRs : slots + 6 ≤ R.slots) (hlocks : meth.locks = false)
    (hx : ∀ t : State, s.vm.Alike t.vm → H.size ≤ t.heap.size → (∀ q : Nat, q < H.size → t.heap[q]? = H[q]?) → XC X s t)
    (hf : ∀ z ∈ locs, free z.base) (hc : cells + 1 ≤ mc) (hs : slots + 6 ≤ ms) :
    W p l e R s m args below meth c H locs cells slots (vx_MQ below Qc XC args s mc ms free) (F0 m pc ls rest) := by
  intro T hT S0
  have htr : e.platform.stackTraces = false := (show e.platform.stackTraces = l.stackTraces by rw [S0.admits.platform]).trans hl
  have Y0 := vx_rebase S0 (R' := { frames := R.frames, locals := R.locals, cells := 1, slots := 6 }) (Nat.le_refl _) (Nat.le_refl _) hRc hRs
  obtain ⟨s', hs'⟩ : ∃ z, z = (T.setVm s.vm).setFrames (.invoking m args :: below) := ⟨_, rfl⟩
  rw [← hs'] at Y0
  have hvm : s'.vm = s.vm := by rw [hs']; rfl
  have hhp : s'.heap = H := by rw [hs']; exact hT
  have hW0 : s.WarmedH s'.vm := by rw [hvm]; exact State.WarmedH.refl s
  have at1 : ∀ w ∈ (nx_L own ic X Y ix rx r).filter vx_no, w.before args s' = true := fun w hw => vx_ot_at hW0 hvm.symm (hgood w (List.mem_cons_of_mem _ (List.mem_cons_of_mem _ hw))) (hat w hw)
  have k1 : (Cond.classLink own ik X).before args s' = true := vx_ot_at hW0 hvm.symm (hgood _ List.mem_cons_self) hk
  have k2 : (Cond.initialized X).before args s' = true := vx_ot_at hW0 hvm.symm (hgood _ (List.mem_cons_of_mem _ List.mem_cons_self)) hini
  have z1 : vx_Zq Bundle.tN "UNASSIGNED_STACK" Bundle.steD A s' s'.heap := by rw [hhp]; exact vx_Zq.moved hW0.alike (hU.kept hS.2.1)
  have z2 : vx_Zq Bundle.tN "SUPPRESSED_SENTINEL" Bundle.listD A s' s'.heap := by rw [hhp]; exact vx_Zq.moved hW0.alike (hN.kept hS.2.1)
  have h : ∀ w ∈ nx_L own ic X Y ix rx r, w.before args s' = true := vx_own at1 (vx_isRefq z1.1) (vx_isRefq z2.1) z1.2.word z2.2.word
  have ho : s'.vm.findClass own = some m.cls := by rw [hvm]; exact hown
  have hins : (Cond.instantiable X 6).before args s' = true := h _ (List.mem_append_right _ (List.mem_append_right _ (by simp [nx_E])))
  obtain ⟨vm1, cX, kX, hfX, hkX, -, -, S1, st1⟩ := Y0.newCold hexec (own := own) (C := X) (index := ik) (n := 6) ho k1 hins k2 (g := F0 m pc ls rest) rfl (by rw [hb]; exact d0) (Nat.le_refl _) (Nat.le_refl _)
  generalize hT1 : (T.setVm vm1).pushCell { cls := cX, slots := kX.instanceTypes.map defaultValue, vm := .none } = T1 at S1 st1
  have hcat : (Value.ref T.heap.size).category = 1 := rfl
  have hcA : T1.heap[T.heap.size]? = some (freshCell cX kX) := by rw [← hT1]; exact State.heap_pushCell_size _ _
  have d3' : decode c.code (pc + 3) = .ok (.dup, 1) := by rw [hb]; exact d3
  have hstr' : vk_R own is text sa s' := vk_R.warm hW0 hstr
  obtain ⟨U, hsteps, hrun, hend, hW, hsame, ce, hce, hcc, hcv⟩ := nx_made S1 hexec htr (own := own) (X := X) (Y := Y) (r := r) (ic := ic) x0 x1 x2 x5 ho hX hY hr h (fun x hx => nomatch hx) hfX hkX hcA (by rw [hhp, hT]; exact Nat.le_refl _) (msg := .ref sa) rfl
    (g := { method := m, pc := pc + 4 + n, locals := ls, stack := .ref sa :: .ref T.heap.size :: .ref T.heap.size :: rest, locked := none }) rfl hsize rfl rfl (rest := rest) rfl
    (by rw [hb]; exact d6) (by rw [hb]; exact d9) hout hRf (by
      simp only [List.map_cons, List.sum_cons, hcat]
      show 2 * 0 + (1 + (rest.map fun v => v.category).sum) + (13 * (r.length + 2) + 42) ≤ R.locals
      omega) hlocks
  obtain ⟨g1, g2⟩ := vx_frame hsame
  rw [hhp] at g1 g2
  have hWs : s.WarmedH U.vm := State.WarmedH.trans hW0 hW
  have hcl : s.vm.findClass X = some ce.cls := by
    rw [hcc, ← hvm]
    exact hfX
  have hall : s.sameButNew ({ U with vm := s.vm } : State) locs mc ms := by
    subst hs'
    obtain ⟨q1, q2⟩ := hsame
    rw [State.setFrames_setFrames] at q1
    have q3 : (T.setVm s.vm).sameButNew ({ U with vm := s.vm } : State) [] (0 + 1) (0 + 6) := ⟨q1, q2⟩
    have q4 := S0.same.trans q3
    rw [List.append_nil] at q4
    exact q4.mono hc hs
  refine ⟨U, st1 _ ?_, .threw T.heap.size, hrun, hend, Or.inr ⟨T.heap.size, rfl, X, ce, locs, hx U hWs.alike g1 (fun q hq => g2 q hq (fun z hz => nomatch hz)), hce, hcv, hcl, hWs, hall, hf⟩⟩
  show Steps p.tables e below (T1.setTop { method := m, pc := pc + 3, locals := ls, stack := .ref T.heap.size :: rest, locked := none }) _
  jvm_step S1.here [S1.here.top, hexec, d3', Value.category]
  rcases d4 with ⟨d4, rfl⟩ | ⟨d4, rfl⟩
  · have d4' : decode c.code (pc + 4) = .ok (.ldc is, 2) := by rw [hb]; exact d4
    exact S1.ldcString hexec (own := own) (text := text) (index := is) (a := sa) ho hstr'.1 hstr'.2 (g := { method := m, pc := pc + 4, locals := ls, stack := .ref T.heap.size :: .ref T.heap.size :: rest, locked := none }) rfl d4' _ hsteps
  · have d4' : decode c.code (pc + 4) = .ok (.ldc_w is, 3) := by rw [hb]; exact d4
    exact S1.ldcStringW hexec (own := own) (text := text) (index := is) (a := sa) ho hstr'.1 hstr'.2 (g := { method := m, pc := pc + 4, locals := ls, stack := .ref T.heap.size :: .ref T.heap.size :: rest, locked := none }) rfl d4' _ hsteps
end NSE
