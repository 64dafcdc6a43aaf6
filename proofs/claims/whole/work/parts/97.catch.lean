-- bodies with handlers: the law's calls
section PWh
variable {G : GT} {cc : ByteArray} {nL : Nat} {own : String} {rc rs pc : Nat} {ls : List (Option PV)} {st : List PV} {μ : Mem}
theorem px_astore_nw {n : Fin 4} {i x : Nat} (C : PCx G cc nL own) (d : decode cc pc = .ok (.astore_n n, 1)) (hi : (n : Nat) = i) (hn : i < nL) (hc : c1b ls i = true) (k : PW G rc rs (pc + 1) (ls.set i (some (pW (.ref x)))) st μ) : PW G rc rs pc ls (pW (.ref x) :: st) μ := by
  obtain ⟨p, l, e, R, s, m, args, below, meth, c, Q, A, V, idx, tl⟩ := G
  intro H locs cells slots lsM hP hS hl hL hV h1 h2
  exact lv_astore_n C.1 C.2.1 d hi hl (by rw [C.2.2.1]; exact hn) rfl fun ls' hl' => k H locs cells slots ls' hP hS ⟨hl'.1, hl'.2.1, fun r hr => hl'.2.2 r (asc_set hc r hr)⟩ (okL_set hL (List.forall_mem_cons.mp hV).1) (List.forall_mem_cons.mp hV).2 h1 h2
theorem px_astorew {i x : Nat} (C : PCx G cc nL own) (d : decode cc pc = .ok (.astore i, 2)) (hn : i < nL) (hc : c1b ls i = true) (k : PW G rc rs (pc + 2) (ls.set i (some (pW (.ref x)))) st μ) : PW G rc rs pc ls (pW (.ref x) :: st) μ := by
  obtain ⟨p, l, e, R, s, m, args, below, meth, c, Q, A, V, idx, tl⟩ := G
  intro H locs cells slots lsM hP hS hl hL hV h1 h2
  exact lv_astore C.1 C.2.1 d hl (by rw [C.2.2.1]; exact hn) rfl fun ls' hl' => k H locs cells slots ls' hP hS ⟨hl'.1, hl'.2.1, fun r hr => hl'.2.2 r (asc_set hc r hr)⟩ (okL_set hL (List.forall_mem_cons.mp hV).1) (List.forall_mem_cons.mp hV).2 h1 h2
/-- the row of the table that takes E, and what walks on from it -/
def Caught (G : GT) (hh : List (Nat × Nat × Nat × Nat)) (own : String) (pc : Nat) (E : String) (K : Nat → Prop) : Prop := ∃ (pre : List ExceptionTableEntry) (x : ExceptionTableEntry) (suf : List ExceptionTableEntry), tableOf hh = pre ++ x :: suf ∧ (∀ z ∈ pre, covers z pc = false ∨ (z.catchType ≠ 0 ∧ ∃ nm : String, Cond.classLink own z.catchType nm ∈ gW ∧ (E, nm) ∈ ncL)) ∧ covers x pc = true ∧ x.catchType ≠ 0 ∧ (∃ name : String, Cond.classLink own x.catchType name ∈ gW ∧ Cond.castable E name ∈ noteL) ∧ K x.handlerPc
theorem px_callVH {i h mc ms j q ci n maxL rc' rs' : Nat} {fs : List (Option (Nat × Nat))} {y : MethodName} {b : ByteArray} {ret : Option FieldType} {as rest : List PV} {P : Option PV → Mem → Prop} {X : String → Mem → Prop} {hh : List (Nat × Nat × Nat × Nat)} (C : PCx G cc nL own) (hHR : HR G (h + 1)) (hT : (G.2.2.2.2.2.2.2.2.2.1).exceptionTable.toList = tableOf hh) (d : decode cc pc = .ok (.invokevirtual i, 3)) (hl : Cond.methodLink own i y ∈ gW) (hm : MV y b maxL ret n) (hM : PMet (GL G) y (.code y b maxL ret) h mc ms (GX G) (pR j q :: as) μ P X) (hs : sp j q = .inl (ci, fs)) (hc : (vwCl[ci]?).map (fun r => r.1) = some y.cls) (hj : (j == 41) = false) (hst : st = as.reverse ++ pR j q :: rest) (hn : as.length = n) (hk : stK rest ≤ 8) (hmx : maxL ≤ 45) (hrc : mc + rc' ≤ rc) (hrs : ms + rs' ≤ rs)
    (kx : ∀ (E : String) (μ' : Mem), X E μ' → Caught G hh own pc E (fun t => ∀ q9 : Nat, PW G rc' rs' t ls [pW (.ref q9)] μ'))
    (k : ∀ (v : Option PV) (μ' : Mem), P v μ' → PW G rc' rs' (pc + 3) ls (v.toList ++ rest) μ') : PW G rc rs pc ls st μ := by
  obtain ⟨p, l, e, R, s, m, args, below, meth, c, Q, A, V, idx, tl⟩ := G
  subst hst
  intro H locs cells slots lsM hP hS hl9 hL9 hV h1 h2
  have hok : ∀ v ∈ as.reverse ++ pR j q :: rest, okP idx v := hV
  have hok1 : okP idx (pR j q) := hok _ (List.mem_append_right _ List.mem_cons_self)
  have hin : (j, q) ∈ idx := Or.resolve_right hok1 (fun h => by rw [show j = 41 from h] at hj; cases hj)
  have hokA : ∀ v ∈ pR j q :: as, okP idx v := fun v hv => (List.mem_cons.mp hv).elim (fun e => e ▸ hok1) (fun h => hok v (List.mem_append_left _ (List.mem_reverse.mpr h)))
  have hokR : ∀ v ∈ rest, okP idx v := fun v hv => hok v (List.mem_append_right _ (List.mem_cons_of_mem _ hv))
  obtain ⟨hx, hb, hml, hown, hts, hE, hD, hI, hAs, hA, hlk, htr⟩ := C
  obtain ⟨m1, m2, m3, m4, m5, m6, -⟩ := hm
  have cw : CallW R s args own y.cls i y b maxL ret (.code y b maxL ret :: gW) (rmh h mc ms) mc ms n := ⟨⟨rfl, rfl, hHR.1, (by have := hHR.2; show 8 + (maxL + 11) + 64 * h ≤ R.locals; omega), gW_pay hts m4, List.mem_cons_self, hts _ m4, hts _ m3, m5, fun sig h9 => by rw [h9] at m6; exact (Option.some.inj m6).symm, hts _ hl⟩, hts _ m1, hts _ m2⟩
  refine px_call (st := rest) (mc := mc) (ms := ms) hA hS hokR (vx_runV (As := as.map (cv V.1)) (nL := nL) ⟨hx, hb, hml, hown, hts⟩ (hM V tl H.size) cw ⟨PcF_blind, px_recv hE hP hin hs hc, fun U hU hW => ?_⟩ rfl (by rw [List.length_map]; exact hn) (by show lsM.size = nL; rw [hl9.1, hml]) (by show List.map _ _ = _; rw [List.map_append, List.map_cons, List.map_reverse]; rfl) (lv_room (Nat.le_trans stK_le hk)) d ⟨by omega, by omega⟩) ?_ ?_
  · subst hU
    exact PcF_at (μ := μ) (as := pR j q :: as) hE hA hW hS hokA hP
  · intro E ce q9 μ' H1 locs1 hXE hP1 hS1 hce hcv hcl
    obtain ⟨pre, x, suf, t1, t2, t3, t4, ⟨name, t5, t6⟩, t7⟩ := kx E μ' hXE
    refine vx_catch hown pre x suf (by show c.exceptionTable.toList = _; rw [show c.exceptionTable.toList = tableOf hh from hT]; exact t1) (fun z hz => ?_) t3 t4 (hts _ t5) (va_Nw.use (noteL_ot _ t6) (hE.2.2.2.2.2.1 _ t6)) hce hcv hcl ?_
    · rcases t2 z hz with h | ⟨h8, nm, h9, h10⟩
      · exact Or.inl h
      · exact Or.inr ⟨h8, nm, hts _ h9, hE.2.2.2.2.2.2 _ h10⟩
    · exact t7 q9 H1 locs1 (cells + mc) (slots + ms) lsM hP1 hS1 hl9 hL9 (fun v hv => by rw [List.mem_singleton.mp hv]; trivial) (by omega) (by omega)
  · intro v μ' H1 locs1 hPv hP1 hS1 hok2
    exact k v μ' hPv H1 locs1 (cells + mc) (slots + ms) lsM hP1 hS1 hl9 hL9 hok2 (by omega) (by omega)
def va_E_d (c : ClassId) (n : Nat) (f : Nat → UInt64) : va_E := .inl (c, n, .inr (.inr (.inr (.inl f))))
theorem px_f2d {x : UInt32} (C : PCx G cc nL own) (d : decode cc pc = .ok (.f2d, 1)) (hn : vf_n64 (FP.f2d x)) (k : PW G rc rs (pc + 1) ls (pW (.double (FP.f2d x)) :: st) μ) : PW G rc rs pc ls (pW (.float x) :: st) μ := by
  obtain ⟨p, l, e, R, s, m, args, below, meth, c, Q, A, V, idx, tl⟩ := G
  intro H locs cells slots lsM hP hS hl hL hV h1 h2
  exact lv_f2d C.1 C.2.1 d hn (k H locs cells slots lsM hP hS hl hL (List.forall_mem_cons.mpr ⟨trivial, fun v hv => hV v (List.mem_cons_of_mem _ hv)⟩) h1 h2)
theorem px_dast {n a j q : Nat} {i : Int32} {y : UInt64} (loc : Nat) (C : PCx G cc nL own) (d : decode cc pc = .ok (.dastore, 1)) (hs : sp j q = .inr (a, n, none)) (ha : a = 7) (hj : (j == 41) = false) (hl : 64 * j = loc) (hin : vp_in i n) (k : PW G rc rs (pc + 1) ls st (up (up μ loc q (2 * i.toNatClampNeg) (dHi y)) loc q (2 * i.toNatClampNeg + 1) (dLo y))) : PW G rc rs pc ls (pW (.double y) :: pI i :: pR j q :: st) μ := by
  subst hl; subst ha
  obtain ⟨p, l, e, R, s, m, args, below, meth, c, Q, A, V, idx, tl⟩ := G
  intro H locs cells slots lsM hP hS hl hL hV h1 h2
  have hV' := List.forall_mem_cons.mp (List.forall_mem_cons.mp (List.forall_mem_cons.mp hV).2).2
  have hi : (j, q) ∈ idx := hV'.1.resolve_right (fun h => by rw [show j = 41 from h] at hj; cases hj)
  obtain ⟨n9, hni, hn⟩ := wl_get (V := V) (μ := μ) (tl := tl) hi
  rw [cc1_arr hs] at hn
  refine va_dast C.1 C.2.1 C.2.2.2.2.2.1.1 hP (wl_D C.2.2.2.2.2.2.1) hS n9 7 hn (tyL_at V (by decide)) hin d (fun H1 locs1 hP1 _ hS1 => ?_)
  rw [wl_set (μ' := up (up μ (64 * j) q (2 * i.toNatClampNeg) (dHi y)) (64 * j) q (2 * i.toNatClampNeg + 1) (dLo y)) hni C.2.2.2.2.2.2.2.1.1 (by
    rw [cc1_arr hs, up_same, up_same]
    refine congrArg (va_E_d (V.2.2 7) n) (funext fun z => ?_)
    unfold vf_upd upd
    by_cases hz : z = i.toNatClampNeg
    · subst hz
      rw [if_pos rfl, if_neg (by omega), if_pos rfl, if_pos rfl, dbl_of]
    · rw [if_neg hz, if_neg (by omega), if_neg (by omega), if_neg (by omega), if_neg (by omega)]) (fun j' k' h => (cc1_ne (f := 0) (by omega) h).trans (cc1_ne (f := 0) (by omega) h))] at hP1
  exact k H1 locs1 cells slots lsM hP1 hS1 hl hL hV'.2 h1 h2
theorem px_callVHi {i h mc ms j q ci n maxL rc' rs' : Nat} {fs : List (Option (Nat × Nat))} {y : MethodName} {b : ByteArray} {ret : Option FieldType} {as rest : List PV} {P : Int32 → Mem → Prop} {X : String → Mem → Prop} {hh : List (Nat × Nat × Nat × Nat)} (C : PCx G cc nL own) (hHR : HR G (h + 1)) (hT : (G.2.2.2.2.2.2.2.2.2.1).exceptionTable.toList = tableOf hh) (d : decode cc pc = .ok (.invokevirtual i, 3)) (hl : Cond.methodLink own i y ∈ gW) (hm : MV y b maxL ret n) (hM : PMet (GL G) y (.code y b maxL ret) h mc ms (GX G) (pR j q :: as) μ (qI P) X) (hs : sp j q = .inl (ci, fs)) (hc : (vwCl[ci]?).map (fun r => r.1) = some y.cls) (hj : (j == 41) = false) (hst : st = as.reverse ++ pR j q :: rest) (hn : as.length = n) (hk : stK rest ≤ 8) (hmx : maxL ≤ 45) (hrc : mc + rc' ≤ rc) (hrs : ms + rs' ≤ rs)
    (kx : ∀ (E : String) (μ' : Mem), X E μ' → Caught G hh own pc E (fun t => ∀ q9 : Nat, PW G rc' rs' t ls [pW (.ref q9)] μ'))
    (k : ∀ (r : Int32) (μ' : Mem), P r μ' → PW G rc' rs' (pc + 3) ls (pI r :: rest) μ') : PW G rc rs pc ls st μ := px_callVH (rc' := rc') (rs' := rs') C hHR hT d hl hm hM hs hc hj hst hn hk hmx hrc hrs kx (fun v μ' h9 => by obtain ⟨r, rfl, h9⟩ := h9; exact k r μ' h9)
theorem px_callVHd {i h mc ms j q ci n maxL rc' rs' : Nat} {fs : List (Option (Nat × Nat))} {y : MethodName} {b : ByteArray} {ret : Option FieldType} {as rest : List PV} {P : UInt64 → Mem → Prop} {X : String → Mem → Prop} {hh : List (Nat × Nat × Nat × Nat)} (C : PCx G cc nL own) (hHR : HR G (h + 1)) (hT : (G.2.2.2.2.2.2.2.2.2.1).exceptionTable.toList = tableOf hh) (d : decode cc pc = .ok (.invokevirtual i, 3)) (hl : Cond.methodLink own i y ∈ gW) (hm : MV y b maxL ret n) (hM : PMet (GL G) y (.code y b maxL ret) h mc ms (GX G) (pR j q :: as) μ (qD P) X) (hs : sp j q = .inl (ci, fs)) (hc : (vwCl[ci]?).map (fun r => r.1) = some y.cls) (hj : (j == 41) = false) (hst : st = as.reverse ++ pR j q :: rest) (hn : as.length = n) (hk : stK rest ≤ 8) (hmx : maxL ≤ 45) (hrc : mc + rc' ≤ rc) (hrs : ms + rs' ≤ rs)
    (kx : ∀ (E : String) (μ' : Mem), X E μ' → Caught G hh own pc E (fun t => ∀ q9 : Nat, PW G rc' rs' t ls [pW (.ref q9)] μ'))
    (k : ∀ (r : UInt64) (μ' : Mem), P r μ' → PW G rc' rs' (pc + 3) ls (pW (.double r) :: rest) μ') : PW G rc rs pc ls st μ := px_callVH (rc' := rc') (rs' := rs') C hHR hT d hl hm hM hs hc hj hst hn hk hmx hrc hrs kx (fun v μ' h9 => by obtain ⟨r, rfl, h9⟩ := h9; exact k r μ' h9)
theorem px_callVHf {i h mc ms j q ci n maxL rc' rs' : Nat} {fs : List (Option (Nat × Nat))} {y : MethodName} {b : ByteArray} {ret : Option FieldType} {as rest : List PV} {P : UInt32 → Mem → Prop} {X : String → Mem → Prop} {hh : List (Nat × Nat × Nat × Nat)} (C : PCx G cc nL own) (hHR : HR G (h + 1)) (hT : (G.2.2.2.2.2.2.2.2.2.1).exceptionTable.toList = tableOf hh) (d : decode cc pc = .ok (.invokevirtual i, 3)) (hl : Cond.methodLink own i y ∈ gW) (hm : MV y b maxL ret n) (hM : PMet (GL G) y (.code y b maxL ret) h mc ms (GX G) (pR j q :: as) μ (qF P) X) (hs : sp j q = .inl (ci, fs)) (hc : (vwCl[ci]?).map (fun r => r.1) = some y.cls) (hj : (j == 41) = false) (hst : st = as.reverse ++ pR j q :: rest) (hn : as.length = n) (hk : stK rest ≤ 8) (hmx : maxL ≤ 45) (hrc : mc + rc' ≤ rc) (hrs : ms + rs' ≤ rs)
    (kx : ∀ (E : String) (μ' : Mem), X E μ' → Caught G hh own pc E (fun t => ∀ q9 : Nat, PW G rc' rs' t ls [pW (.ref q9)] μ'))
    (k : ∀ (r : UInt32) (μ' : Mem), P r μ' → PW G rc' rs' (pc + 3) ls (pW (.float r) :: rest) μ') : PW G rc rs pc ls st μ := px_callVH (rc' := rc') (rs' := rs') C hHR hT d hl hm hM hs hc hj hst hn hk hmx hrc hrs kx (fun v μ' h9 => by obtain ⟨r, rfl, h9⟩ := h9; exact k r μ' h9)
end PWh
/-- a method with handlers, walked from its entry -/
theorem PMetH_of {l : Launch} {y : MethodName} {cc : ByteArray} {maxL h mc ms : Nat} {ret : Option FieldType} {hh : List (Nat × Nat × Nat × Nat)} {idx : List (Nat × Nat)} {args : List PV} {μ : Mem} {P : Option PV → Mem → Prop} {X : String → Mem → Prop} (hy : plainName y.cls = true) (hl : l.stackTraces = false) (hI : IdxOK idx) (hc : args.all c1 = true) (hn : args.length ≤ maxL)
    (body : ∀ G : GT, GX G = idx → GL G = l → PCx G cc maxL y.cls → PRt G ret P X → HR G h → (G.2.2.2.2.2.2.2.2.2.1).exceptionTable.toList = tableOf hh → PW G mc ms 0 (args.map some ++ List.replicate (maxL - args.length) none) [] μ) : PMet l y (.codeWith y cc maxL ret hh) h mc ms idx args μ P X := by
  intro V tl sz
  refine vx_ofWH (cc := cc) (maxL := maxL) (ret := ret) (hh := hh) hy rfl ?_
  intro p e s m args9 below meth c s₁ B hml hP
  have hX := Stand.of_body B
  have hts := atoms_spec (ws := .codeWith y cc maxL ret hh :: gW) B.pre
  have ht := vx_table (x := y) B (hts _ List.mem_cons_self)
  obtain ⟨rfl, rfl, hE, hok, hPw⟩ := hP
  have hD0 : va_D (fun _ => True) (wl V idx (fun _ _ _ => 0) ++ tl) := hE.2.1 _
  have K := body (p, l, e, rmh h mc ms, s, m, (args.map (cv V.1)).toArray, below, meth, c, vx_MQ below (QcF V idx tl s.heap.size P) (XcF V idx tl s.heap.size X) (args.map (cv V.1)).toArray s mc ms (Aof V idx tl s.heap.size), Aof V idx tl s.heap.size, V, idx, tl) rfl rfl
    ⟨B.exec, B.bytes, hml, findClass_of_methodNamed B.named, fun w hw => hts w (List.mem_cons_of_mem _ hw), hE, hD0.self, hI, fun q hq => Or.inr hq, rfl, B.notSynchronized, hl⟩ ⟨rfl, B.returns⟩ ⟨Nat.le_refl _, Nat.le_refl _⟩ ht
  have hlen := lg_sl_len (ad := V.1) hc
  have hl9 := lv_entry (args.map (cv V.1)) (n := maxL) (by rw [hlen]; exact hn)
  rw [lg_entry_eq]
  exact K s.heap [] 0 0 _ hPw va_S.rf ⟨by rw [hml]; exact hl9.1, hl9.2.1, fun q hq => hl9.2.2 q (asc_args hc q hq)⟩ (by
    intro i v hv
    have := List.mem_of_getElem? hv
    rcases List.mem_append.mp this with h1 | h1
    · obtain ⟨w, hw, hw2⟩ := List.mem_map.mp h1
      cases hw2
      exact hok _ hw
    · have := (List.mem_replicate.mp h1).2
      cases this) (fun v hv => by cases hv) (by show 0 + mc ≤ mc; omega) (by show 0 + ms ≤ ms; omega)
