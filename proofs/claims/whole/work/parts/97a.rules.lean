-- rules for the law's own body
section PWl
variable {G : GT} {cc : ByteArray} {nL : Nat} {own : String} {rc rs pc : Nat} {ls : List (Option PV)} {st : List PV} {μ : Mem}
theorem px_aload_nw {n : Fin 4} {i x : Nat} (C : PCx G cc nL own) (d : decode cc pc = .ok (.aload_n n, 1)) (hi : (n : Nat) = i) (h : ls[i]? = some (some (pW (.ref x)))) (k : PW G rc rs (pc + 1) ls (pW (.ref x) :: st) μ) : PW G rc rs pc ls st μ := by
  obtain ⟨p, l, e, R, s, m, args, below, meth, c, Q, A, V, idx, tl⟩ := G
  intro H locs cells slots lsM hP hS hl hL hV h1 h2
  exact lv_aload_n C.1 C.2.1 d hi (asc_at hl h) (k H locs cells slots lsM hP hS hl hL (List.forall_mem_cons.mpr ⟨hL _ _ h, hV⟩) h1 h2)
/-- the script lies where the law found it -/
def Scr (G : GT) (b L : Nat) (xs : Nat → Int32) : Prop := match G with
  | (p, l, e, R, s, m, args, below, meth, c, Q, A, V, idx, tl) => va_X b L xs s s.heap ∧ b < s.heap.size ∧ ¬ A b
theorem px_sld {b L : Nat} {xs : Nat → Int32} {i : Int32} (C : PCx G cc nL own) (hX : Scr G b L xs) (d : decode cc pc = .ok (.iaload, 1)) (hin : vp_in i L) (k : PW G rc rs (pc + 1) ls (pI (xs i.toNatClampNeg) :: st) μ) : PW G rc rs pc ls (pI i :: pW (.ref b) :: st) μ := by
  obtain ⟨p, l, e, R, s, m, args, below, meth, c, Q, A, V, idx, tl⟩ := G
  intro H locs cells slots lsM hP hS hl hL hV h1 h2
  exact va_sld C.1 C.2.1 hX.1 hX.2.1 hX.2.2 hS hin d (k H locs cells slots lsM hP hS hl hL (List.forall_mem_cons.mpr ⟨trivial, (List.forall_mem_cons.mp (List.forall_mem_cons.mp hV).2).2⟩) h1 h2)
theorem px_slen {b L : Nat} {xs : Nat → Int32} (C : PCx G cc nL own) (hX : Scr G b L xs) (d : decode cc pc = .ok (.arraylength, 1)) (k : PW G rc rs (pc + 1) ls (pI (Int32.ofNat L) :: st) μ) : PW G rc rs pc ls (pW (.ref b) :: st) μ := by
  obtain ⟨p, l, e, R, s, m, args, below, meth, c, Q, A, V, idx, tl⟩ := G
  intro H locs cells slots lsM hP hS hl hL hV h1 h2
  exact va_slen C.1 C.2.1 hX.1 hX.2.1 hX.2.2 hS d (k H locs cells slots lsM hP hS hl hL (List.forall_mem_cons.mpr ⟨trivial, (List.forall_mem_cons.mp hV).2⟩) h1 h2)
theorem px_fstore {i : Nat} {x : UInt32} (C : PCx G cc nL own) (d : decode cc pc = .ok (.fstore i, 2)) (hn : i < nL) (hc : c1b ls i = true) (k : PW G rc rs (pc + 2) (ls.set i (some (pW (.float x)))) st μ) : PW G rc rs pc ls (pW (.float x) :: st) μ := by
  obtain ⟨p, l, e, R, s, m, args, below, meth, c, Q, A, V, idx, tl⟩ := G
  intro H locs cells slots lsM hP hS hl hL hV h1 h2
  exact lv_fstore C.1 C.2.1 d hl (by rw [C.2.2.1]; exact hn) rfl fun ls' hl' => k H locs cells slots ls' hP hS ⟨hl'.1, hl'.2.1, fun r hr => hl'.2.2 r (asc_set hc r hr)⟩ (okL_set hL (List.forall_mem_cons.mp hV).1) (List.forall_mem_cons.mp hV).2 h1 h2
theorem px_fload {i : Nat} {x : UInt32} (C : PCx G cc nL own) (d : decode cc pc = .ok (.fload i, 2)) (h : ls[i]? = some (some (pW (.float x)))) (k : PW G rc rs (pc + 2) ls (pW (.float x) :: st) μ) : PW G rc rs pc ls st μ := by
  obtain ⟨p, l, e, R, s, m, args, below, meth, c, Q, A, V, idx, tl⟩ := G
  intro H locs cells slots lsM hP hS hl hL hV h1 h2
  exact lv_fload C.1 C.2.1 d (asc_at hl h) (k H locs cells slots lsM hP hS hl hL (List.forall_mem_cons.mpr ⟨hL _ _ h, hV⟩) h1 h2)
theorem px_dload {i : Nat} {x : UInt64} (C : PCx G cc nL own) (d : decode cc pc = .ok (.dload i, 2)) (h : ls[i]? = some (some (pW (.double x)))) (k : PW G rc rs (pc + 2) ls (pW (.double x) :: st) μ) : PW G rc rs pc ls st μ := by
  obtain ⟨p, l, e, R, s, m, args, below, meth, c, Q, A, V, idx, tl⟩ := G
  intro H locs cells slots lsM hP hS hl hL hV h1 h2
  exact lv_dload C.1 C.2.1 d (asc_at hl h) (k H locs cells slots lsM hP hS hl hL (List.forall_mem_cons.mpr ⟨hL _ _ h, hV⟩) h1 h2)
theorem asc_set2 {ad : Nat → Nat → Nat} {ls : List (Option PV)} {i : Nat} {x : PV} (hc : c1b ls i = true) (h2 : ls[i + 1]? = some none) : ∀ q ∈ asc ad 0 (ls.set i (some x)), q ∈ (i, cv ad x) :: (asc ad 0 ls).filter (fun q => !(q.1 == i) && (!(q.1 == i + 1) && !(q.1 + 1 == i && q.2.category == 2))) := by
  intro q hq
  rcases List.mem_cons.mp (asc_set hc q hq) with h | h
  · exact h ▸ List.mem_cons_self
  · obtain ⟨h3, h4⟩ := List.mem_filter.mp h
    refine List.mem_cons_of_mem _ (List.mem_filter.mpr ⟨h3, ?_⟩)
    obtain ⟨n, v, e1, e2⟩ := asc_of h3
    rw [Nat.zero_add] at e2
    subst e2
    have hn : n ≠ i + 1 := fun e => by rw [e, h2] at e1; cases e1
    have e3 : (n == i + 1) = false := by simpa using hn
    show (!(n == i) && (!(n == i + 1) && !(n + 1 == i && (cv ad v).category == 2))) = true
    rw [e3, Bool.not_false, Bool.true_and]
    exact h4
theorem px_dstore {i : Nat} {x : UInt64} (C : PCx G cc nL own) (d : decode cc pc = .ok (.dstore i, 2)) (hn : i + 1 < nL) (hc : c1b ls i = true) (hc2 : ls[i + 1]? = some none) (k : PW G rc rs (pc + 2) (ls.set i (some (pW (.double x)))) st μ) : PW G rc rs pc ls (pW (.double x) :: st) μ := by
  obtain ⟨p, l, e, R, s, m, args, below, meth, c, Q, A, V, idx, tl⟩ := G
  intro H locs cells slots lsM hP hS hl hL hV h1 h2
  exact lv_dstore C.1 C.2.1 d hl (by rw [C.2.2.1]; exact hn) rfl fun ls' hl' => k H locs cells slots ls' hP hS ⟨hl'.1, hl'.2.1, fun r hr => hl'.2.2 r (asc_set2 hc hc2 r hr)⟩ (okL_set hL (List.forall_mem_cons.mp hV).1) (List.forall_mem_cons.mp hV).2 h1 h2
theorem px_dcmp {x y : UInt64} {op : CmpOp} (C : PCx G cc nL own) (d : decode cc pc = .ok (.dcmp op, 1)) (k : PW G rc rs (pc + 1) ls (pI (Op.cmpValue (FP.dcmp x y) op) :: st) μ) : PW G rc rs pc ls (pW (.double y) :: pW (.double x) :: st) μ := by
  obtain ⟨p, l, e, R, s, m, args, below, meth, c, Q, A, V, idx, tl⟩ := G
  intro H locs cells slots lsM hP hS hl hL hV h1 h2
  exact lv_dcmp C.1 C.2.1 d (k H locs cells slots lsM hP hS hl hL (List.forall_mem_cons.mpr ⟨trivial, fun v hv => hV v (List.mem_cons_of_mem _ (List.mem_cons_of_mem _ hv))⟩) h1 h2)
theorem px_fcmp {x y : UInt32} {op : CmpOp} (C : PCx G cc nL own) (d : decode cc pc = .ok (.fcmp op, 1)) (k : PW G rc rs (pc + 1) ls (pI (Op.cmpValue (FP.fcmp x y) op) :: st) μ) : PW G rc rs pc ls (pW (.float y) :: pW (.float x) :: st) μ := by
  obtain ⟨p, l, e, R, s, m, args, below, meth, c, Q, A, V, idx, tl⟩ := G
  intro H locs cells slots lsM hP hS hl hL hV h1 h2
  exact lv_fcmp C.1 C.2.1 d (k H locs cells slots lsM hP hS hl hL (List.forall_mem_cons.mpr ⟨trivial, fun v hv => hV v (List.mem_cons_of_mem _ (List.mem_cons_of_mem _ hv))⟩) h1 h2)
/-- a static method with handlers, that throws nothing out -/
theorem px_callSH {i h mc ms n maxL rc' rs' : Nat} {y : MethodName} {b : ByteArray} {ret : Option FieldType} {hh : List (Nat × Nat × Nat × Nat)} {as rest : List PV} {P : Int32 → Mem → Prop} (C : PCx G cc nL own) (hHR : HR G (h + 1)) (d : decode cc pc = .ok (.invokestatic i, 3)) (hl : Cond.methodLink own i y ∈ gW) (hm : MSW y b maxL ret hh n) (hM : PMet (GL G) y (.codeWith y b maxL ret hh) h mc ms (GX G) as μ (qI P) (fun _ _ => False)) (hst : st = as.reverse ++ rest) (hn : as.length = n) (hk : stK rest ≤ 8) (hmx : maxL ≤ 45) (hrc : mc + rc' ≤ rc) (hrs : ms + rs' ≤ rs)
    (k : ∀ (r : Int32) (μ' : Mem), P r μ' → PW G rc' rs' (pc + 3) ls (pI r :: rest) μ') : PW G rc rs pc ls st μ := by
  obtain ⟨p, l, e, R, s, m, args, below, meth, c, Q, A, V, idx, tl⟩ := G
  subst hst
  intro H locs cells slots lsM hP hS hl9 hL9 hV h1 h2
  have hok : ∀ v ∈ as.reverse ++ rest, okP idx v := hV
  have hokA : ∀ v ∈ as, okP idx v := fun v hv => hok v (List.mem_append_left _ (List.mem_reverse.mpr hv))
  have hokR : ∀ v ∈ rest, okP idx v := fun v hv => hok v (List.mem_append_right _ hv)
  obtain ⟨hx, hb, hml, hown, hts, hE, hD, hI, hAs, hA, hlk, htr⟩ := C
  obtain ⟨m1, m3, m4, m5, m6, -⟩ := hm
  have cw : vx_CSW R s args own i y b maxL ret hh (.codeWith y b maxL ret hh :: gW) (rmh h mc ms) mc ms n := ⟨⟨rfl, rfl, hHR.1, (by have := hHR.2; show 8 + (maxL + 11) + 64 * h ≤ R.locals; omega), gW_pay hts m4, List.mem_cons_self⟩, hts _ m4, hts _ m3, m5, fun sig h9 => by rw [h9] at m6; exact (Option.some.inj m6).symm, hts _ hl, hts _ m1⟩
  refine px_call (st := rest) (mc := mc) (ms := ms) hA hS hokR (vx_runSX (As := as.map (cv V.1)) (nL := nL) ⟨hx, hb, hml, hown, hts⟩ (hM V tl H.size) cw ⟨PcF_blind, fun U hU hW => ?_⟩ rfl (by rw [List.length_map]; exact hn) (by show lsM.size = nL; rw [hl9.1, hml]) (by show List.map _ _ = _; rw [List.map_append, List.map_reverse]) (lv_room (Nat.le_trans stK_le hk)) d ⟨by omega, by omega⟩) ?_ ?_
  · subst hU
    exact PcF_at (μ := μ) (as := as) hE hA hW hS hokA hP
  · intro E ce q9 μ' H1 locs1 hXE hP1 hS1 hce hcv hcl
    exact hXE.elim
  · rintro v μ' H1 locs1 ⟨r, rfl, hPv⟩ hP1 hS1 hok2
    exact k r μ' hPv H1 locs1 (cells + mc) (slots + ms) lsM hP1 hS1 hl9 hL9 hok2 (by omega) (by omega)
/-- a method that throws nothing -/
theorem px_callVN {i h mc ms j q ci n maxL rc' rs' : Nat} {fs : List (Option (Nat × Nat))} {y : MethodName} {b : ByteArray} {ret : Option FieldType} {as rest : List PV} {P : Option PV → Mem → Prop} (C : PCx G cc nL own) (hHR : HR G (h + 1)) (d : decode cc pc = .ok (.invokevirtual i, 3)) (hl : Cond.methodLink own i y ∈ gW) (hm : MV y b maxL ret n) (hM : PMet (GL G) y (.code y b maxL ret) h mc ms (GX G) (pR j q :: as) μ P (fun _ _ => False)) (hs : sp j q = .inl (ci, fs)) (hc : (vwCl[ci]?).map (fun r => r.1) = some y.cls) (hj : (j == 41) = false) (hst : st = as.reverse ++ pR j q :: rest) (hn : as.length = n) (hk : stK rest ≤ 8) (hmx : maxL ≤ 45) (hrc : mc + rc' ≤ rc) (hrs : ms + rs' ≤ rs)
    (k : ∀ (v : Option PV) (μ' : Mem), P v μ' → PW G rc' rs' (pc + 3) ls (v.toList ++ rest) μ') : PW G rc rs pc ls st μ :=
  px_callVH (hh := (G.2.2.2.2.2.2.2.2.2.1).exceptionTable.toList.map fun h => (h.startPc, h.endPc, h.handlerPc, h.catchType)) (rc' := rc') (rs' := rs') C hHR (table_eq _).symm d hl hm hM hs hc hj hst hn hk hmx hrc hrs (fun _ _ z => z.elim) k
theorem lv_lcmp_eq {p : Program} {l : Launch} {e : Env} {R : Room} {s : State} {m : MethodId} {args : Array Value} {below : List Frame} {meth : Method} {c : Code} {Q : State → Prop} {H : Heap} {locs : List Loc} {cells slots : Nat} {lsM : Array Slot} {rest : List Value} (hexec : p.tables.exec = Jvm.exec) (hb : c.code = cc) {x : Int64} (hdg : decode cc pc = .ok (.lcmp, 1))
    (k : W p l e R s m args below meth c H locs cells slots Q (F0 m (pc + 1) lsM (.int 0 :: rest))) : W p l e R s m args below meth c H locs cells slots Q (F0 m pc lsM (.long x :: .long x :: rest)) := by
  intro T hT X
  obtain ⟨t, a, b⟩ := k T hT X
  refine ⟨t, ?_, b⟩
  have h1 : ¬ x > x := Int64.lt_irrefl
  jvm_step X.here [X.here.top, hexec, hb, hdg, h1]
  exact a
theorem px_lcmp {x y : Int32} (C : PCx G cc nL own) (d : decode cc pc = .ok (.lcmp, 1)) (h : x = y) (k : PW G rc rs (pc + 1) ls (pI (0 : Int32) :: st) μ) : PW G rc rs pc ls (pW (.long y.toInt64) :: pW (.long x.toInt64) :: st) μ := by
  subst h
  obtain ⟨p, l, e, R, s, m, args, below, meth, c, Q, A, V, idx, tl⟩ := G
  intro H locs cells slots lsM hP hS hl hL hV h1 h2
  exact lv_lcmp_eq C.1 C.2.1 d (k H locs cells slots lsM hP hS hl hL (List.forall_mem_cons.mpr ⟨trivial, fun v hv => hV v (List.mem_cons_of_mem _ (List.mem_cons_of_mem _ hv))⟩) h1 h2)
theorem px_callVNi {i h mc ms j q ci n maxL rc' rs' : Nat} {fs : List (Option (Nat × Nat))} {y : MethodName} {b : ByteArray} {ret : Option FieldType} {as rest : List PV} {P : Int32 → Mem → Prop} (C : PCx G cc nL own) (hHR : HR G (h + 1)) (d : decode cc pc = .ok (.invokevirtual i, 3)) (hl : Cond.methodLink own i y ∈ gW) (hm : MV y b maxL ret n) (hM : PMet (GL G) y (.code y b maxL ret) h mc ms (GX G) (pR j q :: as) μ (qI P) (fun _ _ => False)) (hs : sp j q = .inl (ci, fs)) (hc : (vwCl[ci]?).map (fun r => r.1) = some y.cls) (hj : (j == 41) = false) (hst : st = as.reverse ++ pR j q :: rest) (hn : as.length = n) (hk : stK rest ≤ 8) (hmx : maxL ≤ 45) (hrc : mc + rc' ≤ rc) (hrs : ms + rs' ≤ rs)
    (k : ∀ (r : Int32) (μ' : Mem), P r μ' → PW G rc' rs' (pc + 3) ls (pI r :: rest) μ') : PW G rc rs pc ls st μ := px_callVN (rc' := rc') (rs' := rs') C hHR d hl hm hM hs hc hj hst hn hk hmx hrc hrs (fun v μ' h9 => by obtain ⟨r, rfl, h9⟩ := h9; exact k r μ' h9)
theorem px_callVNd {i h mc ms j q ci n maxL rc' rs' : Nat} {fs : List (Option (Nat × Nat))} {y : MethodName} {b : ByteArray} {ret : Option FieldType} {as rest : List PV} {P : UInt64 → Mem → Prop} (C : PCx G cc nL own) (hHR : HR G (h + 1)) (d : decode cc pc = .ok (.invokevirtual i, 3)) (hl : Cond.methodLink own i y ∈ gW) (hm : MV y b maxL ret n) (hM : PMet (GL G) y (.code y b maxL ret) h mc ms (GX G) (pR j q :: as) μ (qD P) (fun _ _ => False)) (hs : sp j q = .inl (ci, fs)) (hc : (vwCl[ci]?).map (fun r => r.1) = some y.cls) (hj : (j == 41) = false) (hst : st = as.reverse ++ pR j q :: rest) (hn : as.length = n) (hk : stK rest ≤ 8) (hmx : maxL ≤ 45) (hrc : mc + rc' ≤ rc) (hrs : ms + rs' ≤ rs)
    (k : ∀ (r : UInt64) (μ' : Mem), P r μ' → PW G rc' rs' (pc + 3) ls (pW (.double r) :: rest) μ') : PW G rc rs pc ls st μ := px_callVN (rc' := rc') (rs' := rs') C hHR d hl hm hM hs hc hj hst hn hk hmx hrc hrs (fun v μ' h9 => by obtain ⟨r, rfl, h9⟩ := h9; exact k r μ' h9)
theorem px_callVNf {i h mc ms j q ci n maxL rc' rs' : Nat} {fs : List (Option (Nat × Nat))} {y : MethodName} {b : ByteArray} {ret : Option FieldType} {as rest : List PV} {P : UInt32 → Mem → Prop} (C : PCx G cc nL own) (hHR : HR G (h + 1)) (d : decode cc pc = .ok (.invokevirtual i, 3)) (hl : Cond.methodLink own i y ∈ gW) (hm : MV y b maxL ret n) (hM : PMet (GL G) y (.code y b maxL ret) h mc ms (GX G) (pR j q :: as) μ (qF P) (fun _ _ => False)) (hs : sp j q = .inl (ci, fs)) (hc : (vwCl[ci]?).map (fun r => r.1) = some y.cls) (hj : (j == 41) = false) (hst : st = as.reverse ++ pR j q :: rest) (hn : as.length = n) (hk : stK rest ≤ 8) (hmx : maxL ≤ 45) (hrc : mc + rc' ≤ rc) (hrs : ms + rs' ≤ rs)
    (k : ∀ (r : UInt32) (μ' : Mem), P r μ' → PW G rc' rs' (pc + 3) ls (pW (.float r) :: rest) μ') : PW G rc rs pc ls st μ := px_callVN (rc' := rc') (rs' := rs') C hHR d hl hm hM hs hc hj hst hn hk hmx hrc hrs (fun v μ' h9 => by obtain ⟨r, rfl, h9⟩ := h9; exact k r μ' h9)
end PWl
