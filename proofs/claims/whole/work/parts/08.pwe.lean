-- ends, entries, throws, static calls
section PWe
variable {G : GT} {cc : ByteArray} {nL : Nat} {own : String} {rc rs pc : Nat} {ls : List (Option PV)} {st : List PV} {μ : Mem} {P9 : Option PV → Mem → Prop} {X9 : String → Mem → Prop}
theorem px_iret {P : Int32 → Mem → Prop} {ty : FieldType} {v : Int32} (C : PCx G cc nL own) (hR : PRt G (some ty) (qI P) X9) (d : decode cc pc = .ok (.ireturn, 1)) (hn : narrow ty (.int v) = .int v) (hst : st = [pI v]) (k : P v μ) : PW G rc rs pc ls st μ := by
  obtain ⟨p, l, e, R, s, m, args, below, meth, c, Q, A, V, idx, tl⟩ := G
  subst hst
  intro H locs cells slots lsM hP hS hl hL hV h1 h2
  obtain ⟨hx, hb, hml, hown, hts, hE, hD, hI, hAs, hA, hlk, htr⟩ := C
  obtain ⟨hQ, hr⟩ := hR
  rw [hQ]
  refine W.widen (k := R.cells) (n := R.slots) (by omega) (by omega) (vx_ret ?_)
  exact W.zret hx hb hr hn (fun t ht hW => ⟨⟨some (pI v), μ, rfl, ⟨v, rfl, k⟩, (fun x hx => by cases hx; trivial), by rw [ht]; exact hP⟩, by rw [← hA]; exact hS.F ht⟩) (by rw [← hA]; exact hS.2.2) d hlk
theorem px_vret {P : Mem → Prop} (C : PCx G cc nL own) (hR : PRt G none (qV P) X9) (d : decode cc pc = .ok (.return_, 1)) (hst : st = []) (k : P μ) : PW G rc rs pc ls st μ := by
  obtain ⟨p, l, e, R, s, m, args, below, meth, c, Q, A, V, idx, tl⟩ := G
  subst hst
  intro H locs cells slots lsM hP hS hl hL hV h1 h2
  obtain ⟨hx, hb, hml, hown, hts, hE, hD, hI, hAs, hA, hlk, htr⟩ := C
  obtain ⟨hQ, hr⟩ := hR
  rw [hQ]
  refine W.widen (k := R.cells) (n := R.slots) (by omega) (by omega) (vx_ret ?_)
  exact W.vret hx hb hr (fun t ht hW => ⟨⟨none, μ, rfl, ⟨rfl, k⟩, (fun x hx => by cases hx), by rw [ht]; exact hP⟩, by rw [← hA]; exact hS.F ht⟩) (by rw [← hA]; exact hS.2.2) d hlk
theorem px_dret {P : UInt64 → Mem → Prop} {v : UInt64} (C : PCx G cc nL own) (hR : PRt G (some .double) (qD P) X9) (d : decode cc pc = .ok (.dreturn, 1)) (hst : st = [pW (.double v)]) (k : P v μ) : PW G rc rs pc ls st μ := by
  obtain ⟨p, l, e, R, s, m, args, below, meth, c, Q, A, V, idx, tl⟩ := G
  subst hst
  intro H locs cells slots lsM hP hS hl hL hV h1 h2
  obtain ⟨hx, hb, hml, hown, hts, hE, hD, hI, hAs, hA, hlk, htr⟩ := C
  obtain ⟨hQ, hr⟩ := hR
  rw [hQ]
  refine W.widen (k := R.cells) (n := R.slots) (by omega) (by omega) (vx_ret ?_)
  exact W.dret hx hb hr (fun t ht hW => ⟨⟨some (pW (.double v)), μ, rfl, ⟨v, rfl, k⟩, (fun x hx => by cases hx; trivial), by rw [ht]; exact hP⟩, by rw [← hA]; exact hS.F ht⟩) (by rw [← hA]; exact hS.2.2) d hlk
theorem px_fret {P : UInt32 → Mem → Prop} {v : UInt32} (C : PCx G cc nL own) (hR : PRt G (some .float) (qF P) X9) (d : decode cc pc = .ok (.freturn, 1)) (hst : st = [pW (.float v)]) (k : P v μ) : PW G rc rs pc ls st μ := by
  obtain ⟨p, l, e, R, s, m, args, below, meth, c, Q, A, V, idx, tl⟩ := G
  subst hst
  intro H locs cells slots lsM hP hS hl hL hV h1 h2
  obtain ⟨hx, hb, hml, hown, hts, hE, hD, hI, hAs, hA, hlk, htr⟩ := C
  obtain ⟨hQ, hr⟩ := hR
  rw [hQ]
  refine W.widen (k := R.cells) (n := R.slots) (by omega) (by omega) (vx_ret ?_)
  exact W.fret hx hb hr (fun t ht hW => ⟨⟨some (pW (.float v)), μ, rfl, ⟨v, rfl, k⟩, (fun x hx => by cases hx; trivial), by rw [ht]; exact hP⟩, by rw [← hA]; exact hS.F ht⟩) (by rw [← hA]; exact hS.2.2) d hlk
/-- new E(text), thrown out of the method -/
theorem px_throw {ik is ic h9 : Nat} {E text : String} {r9 : Option FieldType} (C : PCx G cc nL RX8) (hHR : HR G (h9 + 8)) (hRt : PRt G r9 P9 X9) (hnoT : ∀ z ∈ (G.2.2.2.2.2.2.2.2.2.1).exceptionTable.toList, False) (hk : Cond.classLink RX8 ik E ∈ gW) (hi : Cond.initialized E ∈ gW) (hw : ∀ w ∈ vx_atS RX8 ic E ["java/lang/RuntimeException", "java/lang/Exception"], w ∈ gW ∨ w ∈ noteL) (hfit : Bundle.fit E = true) (hs : (is, text) ∈ strL)
    (d0 : decode cc pc = .ok (.new ik, 3)) (d3 : decode cc (pc + 3) = .ok (.dup, 1)) (d4 : decode cc (pc + 4) = .ok (.ldc is, 2)) (d6 : decode cc (pc + 6) = .ok (.invokespecial ic, 3)) (d9 : decode cc (pc + 9) = .ok (.athrow, 1)) (hst : st = []) (hrc : 1 ≤ rc) (hrs : 6 ≤ rs) (k : X9 E μ) : PW G rc rs pc ls st μ := by
  obtain ⟨p, l, e, R, s, m, args, below, meth, c, Q, A, V, idx, tl⟩ := G
  subst hst
  intro H locs cells slots lsM hP hS hl hL hV h1 h2
  obtain ⟨hx, hb, hml, hown, hts, hE, hD, hI, hAs, hA, hlk, htr⟩ := C
  obtain ⟨hQ, hr⟩ := hRt
  rw [hQ]
  obtain ⟨sa, hsa⟩ := hE.2.2.2.2.1 _ hs
  have hg : ∀ w ∈ gW, vx_ot w = true := fun w hw => by
    unfold vx_ot
    rw [(List.mem_filter.mp hw).2, Bool.or_true]
  have hf9 := hHR.1
  have hf10 := hHR.2
  refine vx_throwS (names := ["java/lang/RuntimeException", "java/lang/Exception"]) (A := A) hx hb htr hown hfit (by decide +kernel) (hts _ hk) (hts _ hi) hsa (fun w hw9 => (hw w hw9).elim (fun z => hts _ z) (fun z => va_Nw.use (noteL_ot w z) (hE.2.2.2.2.2.1 w z))) (fun w hw9 => ?_) hE.2.2.1 hE.2.2.2.1 hS hl.1 d0 d3 d4 d6 d9 (fun x hx9 => absurd hx9 (fun z => hnoT x z)) ?_ ?_ (by omega) (by omega) hlk (fun t ht hz hq => ⟨μ, k, ?_, ?_⟩) (by rw [← hA]; exact hS.2.2) (by omega) (by omega)
  · rcases List.mem_cons.mp hw9 with h | h
    · rw [h]; exact hg _ hk
    · rcases List.mem_cons.mp h with h | h
      · rw [h]; exact hg _ hi
      · exact (hw w h).elim (fun z => hg _ z) (fun z => by unfold vx_ot; rw [noteL_ot w z, Bool.true_or])
  · show 2 + 3 < R.frames
    omega
  · show 0 + (13 * 3 + 43) ≤ R.locals
    omega
  · exact hP.kept (fun n q9 hq9 => hq _ (hP n q9 hq9).lt)
  · rw [← hA]
    exact ⟨Nat.le_trans hS.1 hz, fun q h3 h4 => by rw [hq q (Nat.lt_of_lt_of_le h3 hS.1)]; exact hS.2.1 q h3 h4⟩
theorem px_throww {ik is ic h9 : Nat} {E text : String} {r9 : Option FieldType} (C : PCx G cc nL RX8) (hHR : HR G (h9 + 8)) (hRt : PRt G r9 P9 X9) (hnoT : ∀ z ∈ (G.2.2.2.2.2.2.2.2.2.1).exceptionTable.toList, False) (hk : Cond.classLink RX8 ik E ∈ gW) (hi : Cond.initialized E ∈ gW) (hw : ∀ w ∈ vx_atS RX8 ic E ["java/lang/RuntimeException", "java/lang/Exception"], w ∈ gW ∨ w ∈ noteL) (hfit : Bundle.fit E = true) (hs : (is, text) ∈ strL)
    (d0 : decode cc pc = .ok (.new ik, 3)) (d3 : decode cc (pc + 3) = .ok (.dup, 1)) (d4 : decode cc (pc + 4) = .ok (.ldc_w is, 3)) (d7 : decode cc (pc + 7) = .ok (.invokespecial ic, 3)) (d10 : decode cc (pc + 10) = .ok (.athrow, 1)) (hst : st = []) (hrc : 1 ≤ rc) (hrs : 6 ≤ rs) (k : X9 E μ) : PW G rc rs pc ls st μ := by
  obtain ⟨p, l, e, R, s, m, args, below, meth, c, Q, A, V, idx, tl⟩ := G
  subst hst
  intro H locs cells slots lsM hP hS hl hL hV h1 h2
  obtain ⟨hx, hb, hml, hown, hts, hE, hD, hI, hAs, hA, hlk, htr⟩ := C
  obtain ⟨hQ, hr⟩ := hRt
  rw [hQ]
  obtain ⟨sa, hsa⟩ := hE.2.2.2.2.1 _ hs
  have hg : ∀ w ∈ gW, vx_ot w = true := fun w hw => by
    unfold vx_ot
    rw [(List.mem_filter.mp hw).2, Bool.or_true]
  have hf9 := hHR.1
  have hf10 := hHR.2
  refine vx_throwSW (names := ["java/lang/RuntimeException", "java/lang/Exception"]) (A := A) hx hb htr hown hfit (by decide +kernel) (hts _ hk) (hts _ hi) hsa (fun w hw9 => (hw w hw9).elim (fun z => hts _ z) (fun z => va_Nw.use (noteL_ot w z) (hE.2.2.2.2.2.1 w z))) (fun w hw9 => ?_) hE.2.2.1 hE.2.2.2.1 hS hl.1 d0 d3 d4 d7 d10 (fun x hx9 => absurd hx9 (fun z => hnoT x z)) ?_ ?_ (by omega) (by omega) hlk (fun t ht hz hq => ⟨μ, k, ?_, ?_⟩) (by rw [← hA]; exact hS.2.2) (by omega) (by omega)
  · rcases List.mem_cons.mp hw9 with h | h
    · rw [h]; exact hg _ hk
    · rcases List.mem_cons.mp h with h | h
      · rw [h]; exact hg _ hi
      · exact (hw w h).elim (fun z => hg _ z) (fun z => by unfold vx_ot; rw [noteL_ot w z, Bool.true_or])
  · show 2 + 3 < R.frames
    omega
  · show 0 + (13 * 3 + 43) ≤ R.locals
    omega
  · exact hP.kept (fun n q9 hq9 => hq _ (hP n q9 hq9).lt)
  · rw [← hA]
    exact ⟨Nat.le_trans hS.1 hz, fun q h3 h4 => by rw [hq q (Nat.lt_of_lt_of_le h3 hS.1)]; exact hS.2.1 q h3 h4⟩
theorem px_throwN0 {ik is h9 n : Nat} {text : String} {r9 : Option FieldType} (C : PCx G cc nL RX8) (hHR : HR G (h9 + 8)) (hRt : PRt G r9 P9 X9) (hnoT : ∀ z ∈ (G.2.2.2.2.2.2.2.2.2.1).exceptionTable.toList, False) (hk : Cond.classLink RX8 ik "java/util/NoSuchElementException" ∈ gW) (hi : Cond.initialized "java/util/NoSuchElementException" ∈ gW) (hs : (is, text) ∈ strL)
    (d0 : decode cc pc = .ok (.new ik, 3)) (d3 : decode cc (pc + 3) = .ok (.dup, 1)) (d4 : decode cc (pc + 4) = .ok (.ldc is, n) ∧ n = 2 ∨ decode cc (pc + 4) = .ok (.ldc_w is, n) ∧ n = 3) (d6 : decode cc (pc + 4 + n) = .ok (.invokespecial 210, 3)) (d9 : decode cc (pc + 4 + n + 3) = .ok (.athrow, 1)) (hst : st = []) (hrc : 1 ≤ rc) (hrs : 6 ≤ rs) (k : X9 "java/util/NoSuchElementException" μ) : PW G rc rs pc ls st μ := by
  obtain ⟨p, l, e, R, s, m, args, below, meth, c, Q, A, V, idx, tl⟩ := G
  subst hst
  intro H locs cells slots lsM hP hS hl hL hV h1 h2
  obtain ⟨hx, hb, hml, hown, hts, hE, hD, hI, hAs, hA, hlk, htr⟩ := C
  obtain ⟨hQ, hr⟩ := hRt
  rw [hQ]
  obtain ⟨sa, hsa⟩ := hE.2.2.2.2.1 _ hs
  have hg : ∀ w ∈ gW, vx_ot w = true := fun w hw => by
    unfold vx_ot
    rw [(List.mem_filter.mp hw).2, Bool.or_true]
  have hf9 := hHR.1
  have hf10 := hHR.2
  have hw := tw_NoSuchElementException
  refine nx_throw (r := ["java/lang/Exception"]) (A := A) hx hb htr dNSE_0 dNSE_1 dNSE_2 dNSE_5 hown (by decide +kernel) (by decide +kernel) (by decide +kernel) (hts _ hk) (hts _ hi) hsa (fun w hw9 => (hw w hw9).elim (fun z => hts _ z) (fun z => va_Nw.use (noteL_ot w z) (hE.2.2.2.2.2.1 w z))) (fun w hw9 => ?_) hE.2.2.1 hE.2.2.2.1 hS hl.1 d0 d3 d4 d6 d9 (fun x hx9 => absurd hx9 (fun z => hnoT x z)) ?_ ?_ (by omega) (by omega) hlk (fun t ht hz hq => ⟨μ, k, ?_, ?_⟩) (by rw [← hA]; exact hS.2.2) (by omega) (by omega)
  · rcases List.mem_cons.mp hw9 with h | h
    · rw [h]; exact hg _ hk
    · rcases List.mem_cons.mp h with h | h
      · rw [h]; exact hg _ hi
      · exact (hw w h).elim (fun z => hg _ z) (fun z => by unfold vx_ot; rw [noteL_ot w z, Bool.true_or])
  · show 1 + 4 < R.frames
    omega
  · show 0 + (13 * (1 + 2) + 43) ≤ R.locals
    omega
  · exact hP.kept (fun n q9 hq9 => hq _ (hP n q9 hq9).lt)
  · rw [← hA]
    exact ⟨Nat.le_trans hS.1 hz, fun q h3 h4 => by rw [hq q (Nat.lt_of_lt_of_le h3 hS.1)]; exact hS.2.1 q h3 h4⟩
theorem px_throwN {ik is ic h9 : Nat} {text : String} {r9 : Option FieldType} (C : PCx G cc nL RX8) (hHR : HR G (h9 + 8)) (hRt : PRt G r9 P9 X9) (hnoT : ∀ z ∈ (G.2.2.2.2.2.2.2.2.2.1).exceptionTable.toList, False) (hk : Cond.classLink RX8 ik "java/util/NoSuchElementException" ∈ gW) (hi : Cond.initialized "java/util/NoSuchElementException" ∈ gW) (hs : (is, text) ∈ strL) (hic : ic = 210)
    (d0 : decode cc pc = .ok (.new ik, 3)) (d3 : decode cc (pc + 3) = .ok (.dup, 1)) (d4 : decode cc (pc + 4) = .ok (.ldc is, 2)) (d6 : decode cc (pc + 6) = .ok (.invokespecial ic, 3)) (d9 : decode cc (pc + 9) = .ok (.athrow, 1)) (hst : st = []) (hrc : 1 ≤ rc) (hrs : 6 ≤ rs) (k : X9 "java/util/NoSuchElementException" μ) : PW G rc rs pc ls st μ := by
  subst hic
  exact px_throwN0 C hHR hRt hnoT hk hi hs d0 d3 (Or.inl ⟨d4, rfl⟩) d6 d9 hst hrc hrs k
theorem px_throwwN {ik is ic h9 : Nat} {text : String} {r9 : Option FieldType} (C : PCx G cc nL RX8) (hHR : HR G (h9 + 8)) (hRt : PRt G r9 P9 X9) (hnoT : ∀ z ∈ (G.2.2.2.2.2.2.2.2.2.1).exceptionTable.toList, False) (hk : Cond.classLink RX8 ik "java/util/NoSuchElementException" ∈ gW) (hi : Cond.initialized "java/util/NoSuchElementException" ∈ gW) (hs : (is, text) ∈ strL) (hic : ic = 210)
    (d0 : decode cc pc = .ok (.new ik, 3)) (d3 : decode cc (pc + 3) = .ok (.dup, 1)) (d4 : decode cc (pc + 4) = .ok (.ldc_w is, 3)) (d7 : decode cc (pc + 7) = .ok (.invokespecial ic, 3)) (d10 : decode cc (pc + 10) = .ok (.athrow, 1)) (hst : st = []) (hrc : 1 ≤ rc) (hrs : 6 ≤ rs) (k : X9 "java/util/NoSuchElementException" μ) : PW G rc rs pc ls st μ := by
  subst hic
  exact px_throwN0 C hHR hRt hnoT hk hi hs d0 d3 (Or.inr ⟨d4, rfl⟩) d7 d10 hst hrc hrs k
/-- Math.max, Math.min -/
theorem px_mmax {i : Nat} {x y : Int32} (C : PCx G cc nL own) (hHR : HR G 1) (d : decode cc pc = .ok (.invokestatic i, 3)) (hl : Cond.methodLink own i Lib.Math.max.name ∈ gW) (h0 : Cond.static Lib.Math.max.name ∈ gW ∧ Cond.initialized "java/lang/Math" ∈ gW ∧ Cond.code Lib.Math.max.name Lib.Math.max.code 2 (some .int) ∈ gW) (hk : stK st ≤ 40) (k : PW G rc rs (pc + 3) ls (pI (if x < y then y else x) :: st) μ) : PW G rc rs pc ls (pI y :: pI x :: st) μ := by
  obtain ⟨p, l, e, R, s, m, args, below, meth, c, Q, A, V, idx, tl⟩ := G
  intro H locs cells slots lsM hP hS hl9 hL hV h1 h2
  obtain ⟨hx, hb, hml, hown, hts, hE, hD, hI, hAs, hA, hlk, htr⟩ := C
  have := stK_le (ad := V.1) (st := st)
  have hf := hHR.2
  exact va_mmax hx hb hl9.1.symm hown (hts _ hl) (hts _ h0.1) (hts _ h0.2.1) (hts _ h0.2.2) hHR.1 (by omega) (by omega) (by omega) d (k H locs cells slots lsM hP hS hl9 hL (List.forall_mem_cons.mpr ⟨trivial, fun v hv => hV v (List.mem_cons_of_mem _ (List.mem_cons_of_mem _ hv))⟩) h1 h2)
theorem px_mmin {i : Nat} {x y : Int32} (C : PCx G cc nL own) (hHR : HR G 1) (d : decode cc pc = .ok (.invokestatic i, 3)) (hl : Cond.methodLink own i Lib.Math.min.name ∈ gW) (h0 : Cond.static Lib.Math.min.name ∈ gW ∧ Cond.initialized "java/lang/Math" ∈ gW ∧ Cond.code Lib.Math.min.name Lib.Math.min.code 2 (some .int) ∈ gW) (hk : stK st ≤ 40) (k : PW G rc rs (pc + 3) ls (pI (if y < x then y else x) :: st) μ) : PW G rc rs pc ls (pI y :: pI x :: st) μ := by
  obtain ⟨p, l, e, R, s, m, args, below, meth, c, Q, A, V, idx, tl⟩ := G
  intro H locs cells slots lsM hP hS hl9 hL hV h1 h2
  obtain ⟨hx, hb, hml, hown, hts, hE, hD, hI, hAs, hA, hlk, htr⟩ := C
  have := stK_le (ad := V.1) (st := st)
  have hf := hHR.2
  exact va_mmin hx hb hl9.1.symm hown (hts _ hl) (hts _ h0.1) (hts _ h0.2.1) (hts _ h0.2.2) hHR.1 (by omega) (by omega) (by omega) d (k H locs cells slots lsM hP hS hl9 hL (List.forall_mem_cons.mpr ⟨trivial, fun v hv => hV v (List.mem_cons_of_mem _ (List.mem_cons_of_mem _ hv))⟩) h1 h2)
theorem px_ixor {x y : Int32} (C : PCx G cc nL own) (d : decode cc pc = .ok (.ixor, 1)) (k : PW G rc rs (pc + 1) ls (pI (x ^^^ y) :: st) μ) : PW G rc rs pc ls (pI y :: pI x :: st) μ := by
  obtain ⟨p, l, e, R, s, m, args, below, meth, c, Q, A, V, idx, tl⟩ := G
  intro H locs cells slots lsM hP hS hl hL hV h1 h2
  exact lv_ixor C.1 C.2.1 d (k H locs cells slots lsM hP hS hl hL (List.forall_mem_cons.mpr ⟨trivial, fun v hv => hV v (List.mem_cons_of_mem _ (List.mem_cons_of_mem _ hv))⟩) h1 h2)
/-- a static method of the same class -/
theorem px_callS {i h mc ms n maxL rc' rs' : Nat} {y : MethodName} {b : ByteArray} {ret r9 : Option FieldType} {as rest : List PV} {P P9 : Option PV → Mem → Prop} {X : String → Mem → Prop} (C : PCx G cc nL own) (hHR : HR G (h + 1)) (hRt : PRt G r9 P9 X) (hnoT : ∀ z ∈ (G.2.2.2.2.2.2.2.2.2.1).exceptionTable.toList, False) (d : decode cc pc = .ok (.invokestatic i, 3)) (hl : Cond.methodLink own i y ∈ gW) (hm : MS y b maxL ret n) (hM : PMet (GL G) y (.code y b maxL ret) h mc ms (GX G) as μ P X) (hst : st = as.reverse ++ rest) (hn : as.length = n) (hk : stK rest ≤ 8) (hmx : maxL ≤ 45) (hrc : mc + rc' ≤ rc) (hrs : ms + rs' ≤ rs)
    (k : ∀ (v : Option PV) (μ' : Mem), P v μ' → PW G rc' rs' (pc + 3) ls (v.toList ++ rest) μ') : PW G rc rs pc ls st μ := by
  obtain ⟨p, l, e, R, s, m, args, below, meth, c, Q, A, V, idx, tl⟩ := G
  subst hst
  intro H locs cells slots lsM hP hS hl9 hL9 hV h1 h2
  have hok : ∀ v ∈ as.reverse ++ rest, okP idx v := hV
  have hokA : ∀ v ∈ as, okP idx v := fun v hv => hok v (List.mem_append_left _ (List.mem_reverse.mpr hv))
  have hokR : ∀ v ∈ rest, okP idx v := fun v hv => hok v (List.mem_append_right _ hv)
  obtain ⟨hx, hb, hml, hown, hts, hE, hD, hI, hAs, hA, hlk, htr⟩ := C
  obtain ⟨m1, m3, m4, m5, m6, -⟩ := hm
  have cw : CallB R s args own i y b maxL ret (.code y b maxL ret :: gW) (rmh h mc ms) mc ms n := ⟨rfl, rfl, hHR.1, (by have := hHR.2; show 8 + (maxL + 11) + 64 * h ≤ R.locals; omega), gW_pay hts m4, List.mem_cons_self, hts _ m4, hts _ m3, m5, fun sig h9 => by rw [h9] at m6; exact (Option.some.inj m6).symm, hts _ hl⟩
  refine px_call (st := rest) (mc := mc) (ms := ms) hA hS hokR (vx_runS (As := as.map (cv V.1)) (nL := nL) ⟨hx, hb, hml, hown, hts⟩ (hM V tl H.size) ⟨cw, hts _ m1⟩ ⟨PcF_blind, fun U hU hW => ?_⟩ rfl (by rw [List.length_map]; exact hn) (by show lsM.size = nL; rw [hl9.1, hml]) (by show List.map _ _ = _; rw [List.map_append, List.map_reverse]) (lv_room (Nat.le_trans stK_le hk)) d ⟨by omega, by omega⟩) ?_ ?_
  · subst hU
    exact PcF_at (μ := μ) (as := as) hE hA hW hS hokA hP
  · intro E ce q9 μ' H1 locs1 hXE hP1 hS1 hce hcv hcl
    rw [hRt.1]
    refine vx_out (fun x hx9 => absurd hx9 (fun z => hnoT x z)) hlk hce hcv hcl (fun t ht _ => ⟨μ', hXE, by rw [ht]; exact hP1, ?_⟩) (by rw [← hA]; exact hS1.2.2) (by omega) (by omega)
    rw [← hA]
    exact hS1.F ht
  · intro v μ' H1 locs1 hPv hP1 hS1 hok2
    exact k v μ' hPv H1 locs1 (cells + mc) (slots + ms) lsM hP1 hS1 hl9 hL9 hok2 (by omega) (by omega)
/-- a static method of a nest mate -/
theorem px_callSN {i h mc ms n maxL rc' rs' : Nat} {host : String} {y : MethodName} {b : ByteArray} {ret r9 : Option FieldType} {as rest : List PV} {P P9 : Option PV → Mem → Prop} {X : String → Mem → Prop} (C : PCx G cc nL own) (hHR : HR G (h + 1)) (hRt : PRt G r9 P9 X) (hnoT : ∀ z ∈ (G.2.2.2.2.2.2.2.2.2.1).exceptionTable.toList, False) (d : decode cc pc = .ok (.invokestatic i, 3)) (hlg : Cond.methodLinkNest own i y host ∈ noteL) (hm : MS y b maxL ret n) (hM : PMet (GL G) y (.code y b maxL ret) h mc ms (GX G) as μ P X) (hst : st = as.reverse ++ rest) (hn : as.length = n) (hk : stK rest ≤ 8) (hmx : maxL ≤ 45) (hrc : mc + rc' ≤ rc) (hrs : ms + rs' ≤ rs)
    (k : ∀ (v : Option PV) (μ' : Mem), P v μ' → PW G rc' rs' (pc + 3) ls (v.toList ++ rest) μ') : PW G rc rs pc ls st μ := by
  obtain ⟨p, l, e, R, s, m, args, below, meth, c, Q, A, V, idx, tl⟩ := G
  subst hst
  intro H locs cells slots lsM hP hS hl9 hL9 hV h1 h2
  have hok : ∀ v ∈ as.reverse ++ rest, okP idx v := hV
  have hokA : ∀ v ∈ as, okP idx v := fun v hv => hok v (List.mem_append_left _ (List.mem_reverse.mpr hv))
  have hokR : ∀ v ∈ rest, okP idx v := fun v hv => hok v (List.mem_append_right _ hv)
  obtain ⟨hx, hb, hml, hown, hts, hE, hD, hI, hAs, hA, hlk, htr⟩ := C
  obtain ⟨m1, m3, m4, m5, m6, -⟩ := hm
  have cw : va_CN R s args own i y host b maxL ret (.code y b maxL ret :: gW) (rmh h mc ms) mc ms n := ⟨⟨rfl, rfl, hHR.1, (by have := hHR.2; show 8 + (maxL + 11) + 64 * h ≤ R.locals; omega), gW_pay hts m4, List.mem_cons_self⟩, hts _ m4, hts _ m3, m5, fun sig h9 => by rw [h9] at m6; exact (Option.some.inj m6).symm, va_Nw.use (noteL_ot _ hlg) (hE.2.2.2.2.2.1 _ hlg)⟩
  refine px_call (st := rest) (mc := mc) (ms := ms) hA hS hokR (vx_runSN (As := as.map (cv V.1)) (nL := nL) ⟨hx, hb, hml, hown, hts⟩ (hM V tl H.size) ⟨cw, hts _ m1, trivial⟩ ⟨PcF_blind, fun U hU hW => ?_⟩ rfl (by rw [List.length_map]; exact hn) (by show lsM.size = nL; rw [hl9.1, hml]) (by show List.map _ _ = _; rw [List.map_append, List.map_reverse]) (lv_room (Nat.le_trans stK_le hk)) d ⟨by omega, by omega⟩) ?_ ?_
  · subst hU
    exact PcF_at (μ := μ) (as := as) hE hA hW hS hokA hP
  · intro E ce q9 μ' H1 locs1 hXE hP1 hS1 hce hcv hcl
    rw [hRt.1]
    refine vx_out (fun x hx9 => absurd hx9 (fun z => hnoT x z)) hlk hce hcv hcl (fun t ht _ => ⟨μ', hXE, by rw [ht]; exact hP1, ?_⟩) (by rw [← hA]; exact hS1.2.2) (by omega) (by omega)
    rw [← hA]
    exact hS1.F ht
  · intro v μ' H1 locs1 hPv hP1 hS1 hok2
    exact k v μ' hPv H1 locs1 (cells + mc) (slots + ms) lsM hP1 hS1 hl9 hL9 hok2 (by omega) (by omega)
end PWe
theorem asc_args {ad : Nat → Nat → Nat} : ∀ {as : List PV} {n i : Nat}, as.all c1 = true → ∀ q ∈ asc ad i (as.map some ++ List.replicate n none), q ∈ lv_args i (as.map (cv ad))
  | [], n, i, _, q, hq => by
    obtain ⟨k, v, h1, h2⟩ := asc_of hq
    have := List.mem_of_getElem? h1
    simp at this
  | a :: r, n, i, h, q, hq => by
    rw [List.all_cons, Bool.and_eq_true] at h
    rcases List.mem_cons.mp hq with h1 | h1
    · rw [h1]
      exact List.mem_cons_self
    · refine List.mem_cons_of_mem _ ?_
      rw [if_neg (by rw [c1_cat h.1]; decide)]
      exact asc_args h.2 q h1
theorem lg_sl_len {ad : Nat → Nat → Nat} : ∀ {as : List PV}, as.all c1 = true → (lg_sl (as.map (cv ad))).length = as.length
  | [], _ => rfl
  | a :: r, h => by
    rw [List.all_cons, Bool.and_eq_true] at h
    have := lg_sl_len (ad := ad) h.2
    show (lg_sl (cv ad a :: r.map (cv ad))).length = _
    unfold lg_sl at this ⊢
    rw [List.flatMap_cons, List.length_append, this, if_neg (by rw [c1_cat h.1]; decide)]
    simp
    omega
/-- a method's body, walked from its entry, is its contract -/
theorem PMet_of {l : Launch} {y : MethodName} {cc : ByteArray} {maxL h mc ms : Nat} {ret : Option FieldType} {idx : List (Nat × Nat)} {args : List PV} {μ : Mem} {P : Option PV → Mem → Prop} {X : String → Mem → Prop} (hy : plainFor y = true) (hl : l.stackTraces = false) (hI : IdxOK idx) (h0 : Cond.code y cc maxL ret ∈ gW) (hc : args.all c1 = true) (hn : args.length ≤ maxL)
    (body : ∀ G : GT, GX G = idx → GL G = l → PCx G cc maxL y.cls → PRt G ret P X → HR G h → (∀ z ∈ (G.2.2.2.2.2.2.2.2.2.1).exceptionTable.toList, False) → PW G mc ms 0 (args.map some ++ List.replicate (maxL - args.length) none) [] μ) : PMet l y (.code y cc maxL ret) h mc ms idx args μ P X := by
  intro V tl sz
  refine MetFree.of_bodySF (code := cc) (maxLocals := maxL) (ret := ret) hy ?_ ?_
  · intro args s m h hn
    obtain ⟨meth, c, h1, h2, h3, h4, h5, h6, -, -⟩ := Cond.code_spec hn (atoms_spec (ws := .code y cc maxL ret :: gW) h _ List.mem_cons_self)
    exact ⟨meth, c, h1, h2, h3, h4, h5, h6⟩
  · intro p e s m args9 below meth c s₁ B hml hP _
    have hh0 : s₁.heap = s.heap := by rw [B.state]; rfl
    have hX := Stand.of_body B
    have hts := atoms_spec (ws := .code y cc maxL ret :: gW) B.pre
    have ht : ∀ x ∈ c.exceptionTable.toList, False := by
      obtain ⟨meth9, c9, h1, h2, -, -, -, -, h7, -⟩ := Cond.code_spec B.named (hts _ List.mem_cons_self)
      cases Option.some.inj (h1.symm.trans B.method)
      cases Option.some.inj (h2.symm.trans hX.code)
      intro x hx
      rw [Array.isEmpty_iff.mp h7] at hx
      cases hx
    obtain ⟨rfl, rfl, hE, hok, hPw⟩ := hP
    have hD0 : va_D (fun _ => True) (wl V idx (fun _ _ _ => 0) ++ tl) := hE.2.1 _
    have K := body (p, l, e, rmh h mc ms, s, m, (args.map (cv V.1)).toArray, below, meth, c, vx_MQ below (QcF V idx tl s.heap.size P) (XcF V idx tl s.heap.size X) (args.map (cv V.1)).toArray s mc ms (Aof V idx tl s.heap.size), Aof V idx tl s.heap.size, V, idx, tl) rfl rfl
      ⟨B.exec, B.bytes, hml, findClass_of_methodNamed B.named, fun w hw => hts w (List.mem_cons_of_mem _ hw), hE, hD0.self, hI, fun q hq => Or.inr hq, rfl, B.notSynchronized, hl⟩ ⟨rfl, B.returns⟩ ⟨Nat.le_refl _, Nat.le_refl _⟩ ht
    have hlen := lg_sl_len (ad := V.1) hc
    have hl9 := lv_entry (args.map (cv V.1)) (n := maxL) (by rw [hlen]; exact hn)
    obtain ⟨t, a1, o, b1, b2, b3⟩ := K s.heap [] 0 0 _ hPw va_S.rf ⟨by rw [hml]; exact hl9.1, hl9.2.1, fun q hq => hl9.2.2 q (asc_args hc q hq)⟩ (by
      intro i v hv
      have := List.mem_of_getElem? hv
      rcases List.mem_append.mp this with h1 | h1
      · obtain ⟨w, hw, hw2⟩ := List.mem_map.mp h1
        cases hw2
        exact hok _ hw
      · have := (List.mem_replicate.mp h1).2
        cases this) (fun v hv => by cases hv) (by show 0 + mc ≤ mc; omega) (by show 0 + ms ≤ ms; omega) s₁ hh0 hX
    rw [lg_entry_eq]
    exact ⟨t, o, a1, b1, b2, b3⟩
