-- the contracts of such methods; their calls
theorem PMetT_of {l : Launch} {y : MethodName} {cc : ByteArray} {maxL h mc ms : Nat} {ret : Option FieldType} {idx : List (Nat × Nat)} {args : List PV} {μ : Mem} {V : VT} {tl : va_W} {P : Option PV → Mem → va_W → Prop} {X : String → Mem → va_W → Prop} (hy : plainFor y = true) (hl : l.stackTraces = false) (hI : IdxOK idx) (hc : args.all c1 = true) (hn : args.length ≤ maxL)
    (body : ∀ G : GT, GX G = idx → GL G = l → GV G = V → GTl G = tl → PCx G cc maxL y.cls → SBG G → PRtT G tl ret P X → HR G h → (∀ z ∈ (G.2.2.2.2.2.2.2.2.2.1).exceptionTable.toList, False) → PW G mc ms 0 (args.map some ++ List.replicate (maxL - args.length) none) [] μ) : PMetT l y (.code y cc maxL ret) h mc ms idx args μ V tl P X := by
  intro sz
  refine MetFree.of_bodySF (code := cc) (maxLocals := maxL) (ret := ret) hy ?_ ?_
  · intro args s m h hn
    obtain ⟨meth, c, h1, h2, h3, h4, h5, h6, -, -⟩ := Cond.code_spec hn (atoms_spec (ws := .code y cc maxL ret :: gW) h _ List.mem_cons_self)
    exact ⟨meth, c, h1, h2, h3, h4, h5, h6⟩
  · intro p e s m args9 below meth c s₁ B hml hP _
    have hh0 : s₁.heap = s.heap := by rw [B.state]; rfl
    have hX := Stand.of_body B
    have hts := atoms_spec (ws := .code y cc maxL ret :: gW) B.pre
    have ht : ∀ x ∈ c.exceptionTable.toList, False := by
      obtain ⟨meth9, c9, h1, h2, -, -, -, -, h7, -⟩ := Cond.code_spec B.named (hts _ List.mem_cons_self)
      cases Option.some.inj (h1.symm.trans B.method)
      cases Option.some.inj (h2.symm.trans hX.code)
      intro x hx
      rw [Array.isEmpty_iff.mp h7] at hx
      cases hx
    obtain ⟨rfl, rfl, ⟨hE, hB⟩, hok, hPw⟩ := hP
    have hD0 : va_D (fun _ => True) (wl V idx (fun _ _ _ => 0) ++ tl) := hE.2.1 _
    have K := body (p, l, e, rmh h mc ms, s, m, (args.map (cv V.1)).toArray, below, meth, c, vx_MQ below (QcT V idx tl s.heap.size P) (XcT V idx tl s.heap.size X) (args.map (cv V.1)).toArray s mc ms (Aof V idx tl s.heap.size), Aof V idx tl s.heap.size, V, idx, tl) rfl rfl rfl rfl
      ⟨B.exec, B.bytes, hml, findClass_of_methodNamed B.named, fun w hw => hts w (List.mem_cons_of_mem _ hw), hE, hD0.self, hI, fun q hq => Or.inr hq, rfl, B.notSynchronized, hl⟩ hB ⟨rfl, rfl, B.returns⟩ ⟨Nat.le_refl _, Nat.le_refl _⟩ ht
    have hlen := lg_sl_len (ad := V.1) hc
    have hl9 := lv_entry (args.map (cv V.1)) (n := maxL) (by rw [hlen]; exact hn)
    obtain ⟨t, a1, o, b1, b2, b3⟩ := K s.heap [] 0 0 _ hPw va_S.rf ⟨by rw [hml]; exact hl9.1, hl9.2.1, fun q hq => hl9.2.2 q (asc_args hc q hq)⟩ (by
      intro i v hv
      have := List.mem_of_getElem? hv
      rcases List.mem_append.mp this with h1 | h1
      · obtain ⟨w, hw, hw2⟩ := List.mem_map.mp h1
        cases hw2
        exact hok _ hw
      · have := (List.mem_replicate.mp h1).2
        cases this) (fun v hv => by cases hv) (by show 0 + mc ≤ mc; omega) (by show 0 + ms ≤ ms; omega) s₁ hh0 hX
    rw [lg_entry_eq]
    exact ⟨t, o, a1, b1, b2, b3⟩
theorem PMetTH_of {l : Launch} {y : MethodName} {cc : ByteArray} {maxL h mc ms : Nat} {ret : Option FieldType} {hh : List (Nat × Nat × Nat × Nat)} {idx : List (Nat × Nat)} {args : List PV} {μ : Mem} {V : VT} {tl : va_W} {P : Option PV → Mem → va_W → Prop} {X : String → Mem → va_W → Prop} (hy : plainName y.cls = true) (hl : l.stackTraces = false) (hI : IdxOK idx) (hc : args.all c1 = true) (hn : args.length ≤ maxL)
    (body : ∀ G : GT, GX G = idx → GL G = l → GV G = V → GTl G = tl → PCx G cc maxL y.cls → SBG G → PRtT G tl ret P X → HR G h → (G.2.2.2.2.2.2.2.2.2.1).exceptionTable.toList = tableOf hh → PW G mc ms 0 (args.map some ++ List.replicate (maxL - args.length) none) [] μ) : PMetT l y (.codeWith y cc maxL ret hh) h mc ms idx args μ V tl P X := by
  intro sz
  refine vx_ofWH (cc := cc) (maxL := maxL) (ret := ret) (hh := hh) hy rfl ?_
  intro p e s m args9 below meth c s₁ B hml hP
  have hX := Stand.of_body B
  have hts := atoms_spec (ws := .codeWith y cc maxL ret hh :: gW) B.pre
  have ht := vx_table (x := y) B (hts _ List.mem_cons_self)
  obtain ⟨rfl, rfl, ⟨hE, hB⟩, hok, hPw⟩ := hP
  have hD0 : va_D (fun _ => True) (wl V idx (fun _ _ _ => 0) ++ tl) := hE.2.1 _
  have K := body (p, l, e, rmh h mc ms, s, m, (args.map (cv V.1)).toArray, below, meth, c, vx_MQ below (QcT V idx tl s.heap.size P) (XcT V idx tl s.heap.size X) (args.map (cv V.1)).toArray s mc ms (Aof V idx tl s.heap.size), Aof V idx tl s.heap.size, V, idx, tl) rfl rfl rfl rfl
    ⟨B.exec, B.bytes, hml, findClass_of_methodNamed B.named, fun w hw => hts w (List.mem_cons_of_mem _ hw), hE, hD0.self, hI, fun q hq => Or.inr hq, rfl, B.notSynchronized, hl⟩ hB ⟨rfl, rfl, B.returns⟩ ⟨Nat.le_refl _, Nat.le_refl _⟩ ht
  have hlen := lg_sl_len (ad := V.1) hc
  have hl9 := lv_entry (args.map (cv V.1)) (n := maxL) (by rw [hlen]; exact hn)
  rw [lg_entry_eq]
  exact K s.heap [] 0 0 _ hPw va_S.rf ⟨by rw [hml]; exact hl9.1, hl9.2.1, fun q hq => hl9.2.2 q (asc_args hc q hq)⟩ (by
    intro i v hv
    have := List.mem_of_getElem? hv
    rcases List.mem_append.mp this with h1 | h1
    · obtain ⟨w, hw, hw2⟩ := List.mem_map.mp h1
      cases hw2
      exact hok _ hw
    · have := (List.mem_replicate.mp h1).2
      cases this) (fun v hv => by cases hv) (by show 0 + mc ≤ mc; omega) (by show 0 + ms ≤ ms; omega)
section PWw
variable {G : GT} {cc : ByteArray} {nL : Nat} {own : String} {rc rs pc : Nat} {ls : List (Option PV)} {st : List PV} {μ : Mem}
/-- a call of a method that leaves the builder alone; what it throws leaves this one too -/
theorem pt_callV {tl0 : va_W} {P9 : Option PV → Mem → va_W → Prop} {r9 : Option FieldType} {X9 : String → Mem → va_W → Prop} {i h mc ms j q ci n maxL rc' rs' : Nat} {fs : List (Option (Nat × Nat))} {y : MethodName} {b : ByteArray} {ret : Option FieldType} {as rest : List PV} {P : Option PV → Mem → Prop} {X : String → Mem → Prop} (C : PCx G cc nL own) (hHR : HR G (h + 1)) (hR : PRtT G tl0 r9 P9 X9) (hX9 : ∀ E μ', X E μ' → X9 E μ' (GTl G)) (hnoT : ∀ z ∈ (G.2.2.2.2.2.2.2.2.2.1).exceptionTable.toList, False) (d : decode cc pc = .ok (.invokevirtual i, 3)) (hl : Cond.methodLink own i y ∈ gW) (hm : MV y b maxL ret n) (hM : PMet (GL G) y (.code y b maxL ret) h mc ms (GX G) (pR j q :: as) μ P X) (hs : sp j q = .inl (ci, fs)) (hc : (vwCl[ci]?).map (fun r => r.1) = some y.cls) (hj : (j == 41) = false) (hst : st = as.reverse ++ pR j q :: rest) (hn : as.length = n) (hk : stK rest ≤ 8) (hmx : maxL ≤ 45) (hrc : mc + rc' ≤ rc) (hrs : ms + rs' ≤ rs)
    (k : ∀ (v : Option PV) (μ' : Mem), P v μ' → PW G rc' rs' (pc + 3) ls (v.toList ++ rest) μ') : PW G rc rs pc ls st μ := by
  obtain ⟨p, l, e, R, s, m, args, below, meth, c, Q, A, V, idx, tl⟩ := G
  subst hst
  intro H locs cells slots lsM hP hS hl9 hL9 hV h1 h2
  have hok : ∀ v ∈ as.reverse ++ pR j q :: rest, okP idx v := hV
  have hok1 : okP idx (pR j q) := hok _ (List.mem_append_right _ List.mem_cons_self)
  have hin : (j, q) ∈ idx := Or.resolve_right hok1 (fun h => by rw [show j = 41 from h] at hj; cases hj)
  have hokA : ∀ v ∈ pR j q :: as, okP idx v := fun v hv => (List.mem_cons.mp hv).elim (fun e => e ▸ hok1) (fun h => hok v (List.mem_append_left _ (List.mem_reverse.mpr h)))
  have hokR : ∀ v ∈ rest, okP idx v := fun v hv => hok v (List.mem_append_right _ (List.mem_cons_of_mem _ hv))
  obtain ⟨hx, hb, hml, hown, hts, hE, hD, hI, hAs, hA, hlk, htr⟩ := C
  obtain ⟨m1, m2, m3, m4, m5, m6, -⟩ := hm
  have cw : CallW R s args own y.cls i y b maxL ret (.code y b maxL ret :: gW) (rmh h mc ms) mc ms n := ⟨⟨rfl, rfl, hHR.1, (by have := hHR.2; show 8 + (maxL + 11) + 64 * h ≤ R.locals; omega), gW_pay hts m4, List.mem_cons_self, hts _ m4, hts _ m3, m5, fun sig h9 => by rw [h9] at m6; exact (Option.some.inj m6).symm, hts _ hl⟩, hts _ m1, hts _ m2⟩
  refine px_call (st := rest) (mc := mc) (ms := ms) hA hS hokR (vx_runV (As := as.map (cv V.1)) (nL := nL) ⟨hx, hb, hml, hown, hts⟩ (hM V tl H.size) cw ⟨PcF_blind, px_recv hE hP hin hs hc, fun U hU hW => ?_⟩ rfl (by rw [List.length_map]; exact hn) (by show lsM.size = nL; rw [hl9.1, hml]) (by show List.map _ _ = _; rw [List.map_append, List.map_cons, List.map_reverse]; rfl) (lv_room (Nat.le_trans stK_le hk)) d ⟨by omega, by omega⟩) ?_ ?_
  · subst hU
    exact PcF_at (μ := μ) (as := pR j q :: as) hE hA hW hS hokA hP
  · intro E ce q9 μ' H1 locs1 hXE hP1 hS1 hce hcv hcl
    obtain ⟨hQ, hA0, hr⟩ := hR
    have hA1 : Aof V idx tl s.heap.size = Aof V idx tl0 s.heap.size := hA.symm.trans hA0
    rw [hQ]
    refine vx_out (fun x hx9 => absurd hx9 (fun z => hnoT x z)) hlk hce hcv hcl (fun t ht _ => ⟨μ', tl, hX9 E μ' hXE, by rw [ht]; exact hP1, ⟨by rw [← hA0]; exact hD, hA1⟩, ?_⟩) (by rw [← hA0]; exact hS1.2.2) (by omega) (by omega)
    rw [← hA0]
    exact hS1.F ht
  · intro v μ' H1 locs1 hPv hP1 hS1 hok2
    exact k v μ' hPv H1 locs1 (cells + mc) (slots + ms) lsM hP1 hS1 hl9 hL9 hok2 (by omega) (by omega)
/-- a call of a method that changes the builder, in a body with handlers -/
theorem pt_callVH {i h mc ms j q ci n maxL rc' rs' : Nat} {fs : List (Option (Nat × Nat))} {y : MethodName} {b : ByteArray} {ret : Option FieldType} {as rest : List PV} {P : Option PV → Mem → va_W → Prop} {X : String → Mem → va_W → Prop} {hh : List (Nat × Nat × Nat × Nat)} (C : PCx G cc nL own) (hB : SBG G) (hHR : HR G (h + 1)) (hT : (G.2.2.2.2.2.2.2.2.2.1).exceptionTable.toList = tableOf hh) (d : decode cc pc = .ok (.invokevirtual i, 3)) (hl : Cond.methodLink own i y ∈ gW) (hm : MV y b maxL ret n) (hM : PMetT (GL G) y (.code y b maxL ret) h mc ms (GX G) (pR j q :: as) μ (GV G) (GTl G) P X) (hs : sp j q = .inl (ci, fs)) (hc : (vwCl[ci]?).map (fun r => r.1) = some y.cls) (hj : (j == 41) = false) (hst : st = as.reverse ++ pR j q :: rest) (hn : as.length = n) (hk : stK rest ≤ 8) (hmx : maxL ≤ 45) (hrc : mc + rc' ≤ rc) (hrs : ms + rs' ≤ rs)
    (kx : ∀ (E : String) (μ' : Mem) (tl' : va_W), X E μ' tl' → TlOK (GV G) (GX G) (G.2.2.2.2.1).heap.size (GTl G) tl' → Caught G hh own pc E (fun t => ∀ q9 : Nat, PW (setTl G tl') rc' rs' t ls [pW (.ref q9)] μ'))
    (k : ∀ (v : Option PV) (μ' : Mem) (tl' : va_W), P v μ' tl' → TlOK (GV G) (GX G) (G.2.2.2.2.1).heap.size (GTl G) tl' → PW (setTl G tl') rc' rs' (pc + 3) ls (v.toList ++ rest) μ') : PW G rc rs pc ls st μ := by
  obtain ⟨p, l, e, R, s, m, args, below, meth, c, Q, A, V, idx, tl⟩ := G
  subst hst
  intro H locs cells slots lsM hP hS hl9 hL9 hV h1 h2
  have hok : ∀ v ∈ as.reverse ++ pR j q :: rest, okP idx v := hV
  have hok1 : okP idx (pR j q) := hok _ (List.mem_append_right _ List.mem_cons_self)
  have hin : (j, q) ∈ idx := Or.resolve_right hok1 (fun h => by rw [show j = 41 from h] at hj; cases hj)
  have hokA : ∀ v ∈ pR j q :: as, okP idx v := fun v hv => (List.mem_cons.mp hv).elim (fun e => e ▸ hok1) (fun h => hok v (List.mem_append_left _ (List.mem_reverse.mpr h)))
  have hokR : ∀ v ∈ rest, okP idx v := fun v hv => hok v (List.mem_append_right _ (List.mem_cons_of_mem _ hv))
  obtain ⟨hx, hb, hml, hown, hts, hE, hD, hI, hAs, hA, hlk, htr⟩ := C
  obtain ⟨m1, m2, m3, m4, m5, m6, -⟩ := hm
  have cw : CallW R s args own y.cls i y b maxL ret (.code y b maxL ret :: gW) (rmh h mc ms) mc ms n := ⟨⟨rfl, rfl, hHR.1, (by have := hHR.2; show 8 + (maxL + 11) + 64 * h ≤ R.locals; omega), gW_pay hts m4, List.mem_cons_self, hts _ m4, hts _ m3, m5, fun sig h9 => by rw [h9] at m6; exact (Option.some.inj m6).symm, hts _ hl⟩, hts _ m1, hts _ m2⟩
  refine pt_call (st := rest) (mc := mc) (ms := ms) hA hS hokR (vx_runV (As := as.map (cv V.1)) (nL := nL) ⟨hx, hb, hml, hown, hts⟩ (hM H.size) cw ⟨PcT_blind, px_recv hE hP hin hs hc, fun U hU hW => ?_⟩ rfl (by rw [List.length_map]; exact hn) (by show lsM.size = nL; rw [hl9.1, hml]) (by show List.map _ _ = _; rw [List.map_append, List.map_cons, List.map_reverse]; rfl) (lv_room (Nat.le_trans stK_le hk)) d ⟨by omega, by omega⟩) ?_ ?_
  · subst hU
    exact PcT_at (μ := μ) (as := pR j q :: as) hE hB hA hW hS hokA hP
  · intro E ce q9 μ' tl' H1 locs1 hXE hTl hP1 hS1 hce hcv hcl
    obtain ⟨pre, x, suf, t1, t2, t3, t4, ⟨name, t5, t6⟩, t7⟩ := kx E μ' tl' hXE hTl
    refine vx_catch hown pre x suf (by show c.exceptionTable.toList = _; rw [show c.exceptionTable.toList = tableOf hh from hT]; exact t1) (fun z hz => ?_) t3 t4 (hts _ t5) (va_Nw.use (noteL_ot _ t6) (hE.2.2.2.2.2.1 _ t6)) hce hcv hcl ?_
    · rcases t2 z hz with h | ⟨h8, nm, h9, h10⟩
      · exact Or.inl h
      · exact Or.inr ⟨h8, nm, hts _ h9, hE.2.2.2.2.2.2 _ h10⟩
    · exact t7 q9 H1 locs1 (cells + mc) (slots + ms) lsM hP1 hS1 hl9 hL9 (fun v hv => by rw [List.mem_singleton.mp hv]; trivial) (by omega) (by omega)
  · intro v μ' tl' H1 locs1 hPv hTl hP1 hS1 hok2
    exact k v μ' tl' hPv hTl H1 locs1 (cells + mc) (slots + ms) lsM hP1 hS1 hl9 hL9 hok2 (by omega) (by omega)
/-- one that throws nothing -/
theorem pt_callVN {i h mc ms j q ci n maxL rc' rs' : Nat} {fs : List (Option (Nat × Nat))} {y : MethodName} {b : ByteArray} {ret : Option FieldType} {as rest : List PV} {P : Option PV → Mem → va_W → Prop} (C : PCx G cc nL own) (hB : SBG G) (hHR : HR G (h + 1)) (d : decode cc pc = .ok (.invokevirtual i, 3)) (hl : Cond.methodLink own i y ∈ gW) (hm : MV y b maxL ret n) (hM : PMetT (GL G) y (.code y b maxL ret) h mc ms (GX G) (pR j q :: as) μ (GV G) (GTl G) P (fun _ _ _ => False)) (hs : sp j q = .inl (ci, fs)) (hc : (vwCl[ci]?).map (fun r => r.1) = some y.cls) (hj : (j == 41) = false) (hst : st = as.reverse ++ pR j q :: rest) (hn : as.length = n) (hk : stK rest ≤ 8) (hmx : maxL ≤ 45) (hrc : mc + rc' ≤ rc) (hrs : ms + rs' ≤ rs)
    (k : ∀ (v : Option PV) (μ' : Mem) (tl' : va_W), P v μ' tl' → TlOK (GV G) (GX G) (G.2.2.2.2.1).heap.size (GTl G) tl' → PW (setTl G tl') rc' rs' (pc + 3) ls (v.toList ++ rest) μ') : PW G rc rs pc ls st μ :=
  pt_callVH (hh := (G.2.2.2.2.2.2.2.2.2.1).exceptionTable.toList.map fun h => (h.startPc, h.endPc, h.handlerPc, h.catchType)) (rc' := rc') (rs' := rs') C hB hHR (table_eq _).symm d hl hm hM hs hc hj hst hn hk hmx hrc hrs (fun _ _ _ z => z.elim) k
/-- the law's own call -/
theorem pt_callSH {i h mc ms n maxL rc' rs' : Nat} {y : MethodName} {b : ByteArray} {ret : Option FieldType} {hh : List (Nat × Nat × Nat × Nat)} {as rest : List PV} {P : Option PV → Mem → va_W → Prop} (C : PCx G cc nL own) (hB : SBG G) (hHR : HR G (h + 1)) (d : decode cc pc = .ok (.invokestatic i, 3)) (hl : Cond.methodLink own i y ∈ gW) (hm : MSW y b maxL ret hh n) (hM : PMetT (GL G) y (.codeWith y b maxL ret hh) h mc ms (GX G) as μ (GV G) (GTl G) P (fun _ _ _ => False)) (hst : st = as.reverse ++ rest) (hn : as.length = n) (hk : stK rest ≤ 8) (hmx : maxL ≤ 45) (hrc : mc + rc' ≤ rc) (hrs : ms + rs' ≤ rs)
    (k : ∀ (v : Option PV) (μ' : Mem) (tl' : va_W), P v μ' tl' → TlOK (GV G) (GX G) (G.2.2.2.2.1).heap.size (GTl G) tl' → PW (setTl G tl') rc' rs' (pc + 3) ls (v.toList ++ rest) μ') : PW G rc rs pc ls st μ := by
  obtain ⟨p, l, e, R, s, m, args, below, meth, c, Q, A, V, idx, tl⟩ := G
  subst hst
  intro H locs cells slots lsM hP hS hl9 hL9 hV h1 h2
  have hok : ∀ v ∈ as.reverse ++ rest, okP idx v := hV
  have hokA : ∀ v ∈ as, okP idx v := fun v hv => hok v (List.mem_append_left _ (List.mem_reverse.mpr hv))
  have hokR : ∀ v ∈ rest, okP idx v := fun v hv => hok v (List.mem_append_right _ hv)
  obtain ⟨hx, hb, hml, hown, hts, hE, hD, hI, hAs, hA, hlk, htr⟩ := C
  obtain ⟨m1, m3, m4, m5, m6, -⟩ := hm
  have cw : vx_CSW R s args own i y b maxL ret hh (.codeWith y b maxL ret hh :: gW) (rmh h mc ms) mc ms n := ⟨⟨rfl, rfl, hHR.1, (by have := hHR.2; show 8 + (maxL + 11) + 64 * h ≤ R.locals; omega), gW_pay hts m4, List.mem_cons_self⟩, hts _ m4, hts _ m3, m5, fun sig h9 => by rw [h9] at m6; exact (Option.some.inj m6).symm, hts _ hl, hts _ m1⟩
  refine pt_call (st := rest) (mc := mc) (ms := ms) hA hS hokR (vx_runSX (As := as.map (cv V.1)) (nL := nL) ⟨hx, hb, hml, hown, hts⟩ (hM H.size) cw ⟨PcT_blind, fun U hU hW => ?_⟩ rfl (by rw [List.length_map]; exact hn) (by show lsM.size = nL; rw [hl9.1, hml]) (by show List.map _ _ = _; rw [List.map_append, List.map_reverse]) (lv_room (Nat.le_trans stK_le hk)) d ⟨by omega, by omega⟩) ?_ ?_
  · subst hU
    exact PcT_at (μ := μ) (as := as) hE hB hA hW hS hokA hP
  · intro E ce q9 μ' tl' H1 locs1 hXE hTl hP1 hS1 hce hcv hcl
    exact hXE.elim
  · intro v μ' tl' H1 locs1 hPv hTl hP1 hS1 hok2
    exact k v μ' tl' hPv hTl H1 locs1 (cells + mc) (slots + ms) lsM hP1 hS1 hl9 hL9 hok2 (by omega) (by omega)
end PWw
