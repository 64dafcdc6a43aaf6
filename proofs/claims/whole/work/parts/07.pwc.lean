-- contracts over the pure memory
def rmh (h mc ms : Nat) : Room := { frames := h, cells := mc, slots := ms, locals := 64 * h }
def PcF (V : VT) (idx : List (Nat × Nat)) (tl : va_W) (sz : Nat) (args : List PV) (μ : Mem) : Array Value → State → Prop := va_Pc (args.map (cv V.1)) (fun U => U.heap.size = sz ∧ EnvS V idx tl (Aof V idx tl sz) U ∧ (∀ v ∈ args, okP idx v) ∧ va_P V.2.1 vwCl (wl V idx μ ++ tl) U.heap)
def QcF (V : VT) (idx : List (Nat × Nat)) (tl : va_W) (sz : Nat) (P : Option PV → Mem → Prop) : Array Value → State → Outcome → State → Prop := fun _ st o t => (∃ (v : Option PV) (μ' : Mem), o = .returned (v.map (cv V.1)) ∧ P v μ' ∧ (∀ x, v = some x → okP idx x) ∧ va_P V.2.1 vwCl (wl V idx μ' ++ tl) t.heap) ∧ va_F (Aof V idx tl sz) st t
def XcF (V : VT) (idx : List (Nat × Nat)) (tl : va_W) (sz : Nat) (X : String → Mem → Prop) : String → State → State → Prop := fun E st t => ∃ μ' : Mem, X E μ' ∧ va_P V.2.1 vwCl (wl V idx μ' ++ tl) t.heap ∧ va_F (Aof V idx tl sz) st t
/-- the contract of a method: from these arguments and this memory it returns with P, or throws with X -/
def PMet (l : Launch) (y : MethodName) (w0 : Cond) (h mc ms : Nat) (idx : List (Nat × Nat)) (args : List PV) (μ : Mem) (P : Option PV → Mem → Prop) (X : String → Mem → Prop) : Prop :=
  ∀ (V : VT) (tl : va_W) (sz : Nat), vx_Met l y (w0 :: gW) (rmh h mc ms) (PcF V idx tl sz args μ) (QcF V idx tl sz P) (XcF V idx tl sz X) mc ms (Aof V idx tl sz)
def PRt (G : GT) (ret : Option FieldType) (P : Option PV → Mem → Prop) (X : String → Mem → Prop) : Prop := match G with
  | (p, l, e, R, s, m, args, below, meth, c, Q, A, V, idx, tl) => Q = vx_MQ below (QcF V idx tl s.heap.size P) (XcF V idx tl s.heap.size X) args s R.cells R.slots (Aof V idx tl s.heap.size) ∧ meth.sig.returnType = ret
def qI (P : Int32 → Mem → Prop) : Option PV → Mem → Prop := fun v μ => ∃ i, v = some (pI i) ∧ P i μ
def qV (P : Mem → Prop) : Option PV → Mem → Prop := fun v μ => v = none ∧ P μ
def qD (P : UInt64 → Mem → Prop) : Option PV → Mem → Prop := fun v μ => ∃ i, v = some (pW (.double i)) ∧ P i μ
def qF (P : UInt32 → Mem → Prop) : Option PV → Mem → Prop := fun v μ => ∃ i, v = some (pW (.float i)) ∧ P i μ
theorem EnvS_calling {V : VT} {idx : List (Nat × Nat)} {tl : va_W} {A : Nat → Prop} {U : State} {g : JFrame} {mk : MethodId} {a : Array Value} (h : EnvS V idx tl A U) : EnvS V idx tl A (U.calling g mk a) := by
  obtain ⟨h1, h2, h3, h4, h5, h6, h7⟩ := h
  refine ⟨va_K.moved (u := U) (U := U.calling g mk a) (Vm.Alike.refl U.vm) h1, h2, vx_Zq.moved (u := U) (U := U.calling g mk a) (Vm.Alike.refl U.vm) h3, vx_Zq.moved (u := U) (U := U.calling g mk a) (Vm.Alike.refl U.vm) h4, fun q hq => ?_, fun w hw => va_Nw.same (noteL_ot w hw) (u := U) (U := U.calling g mk a) rfl (h6 w hw), fun q hq => va_Nc.moved (u := U) (U := U.calling g mk a) (Vm.Alike.refl U.vm) (h7 q hq)⟩
  obtain ⟨z, hz⟩ := h5 q hq
  exact ⟨z, vk_R.same (u := U) rfl hz⟩
theorem PcF_blind {V : VT} {idx : List (Nat × Nat)} {tl : va_W} {sz : Nat} {args : List PV} {μ : Mem} : FrameBlind (PcF V idx tl sz args μ) := by
  intro a U g mk h
  obtain ⟨h0, h1, h2, h3, h4⟩ := h
  exact ⟨h0, h1, EnvS_calling h2, h3, h4⟩
theorem EnvS_at {V : VT} {idx : List (Nat × Nat)} {tl : va_W} {A : Nat → Prop} {s U : State} {locs : List Loc} (h : EnvS V idx tl A s) (hW : s.WarmedH U.vm) (hS : va_S A s.heap U.heap locs) {B : Nat → Prop} (hAB : ∀ q, B q → A q) : EnvS V idx tl B U := by
  obtain ⟨h1, h2, h3, h4, h5, h6, h7⟩ := h
  refine ⟨va_K.moved hW.alike h1, h2, ((vx_Zq.kept h3 hS.2.1).moved hW.alike).narrow hAB, ((vx_Zq.kept h4 hS.2.1).moved hW.alike).narrow hAB, fun q hq => ?_, fun w hw => noteL_warm hW w hw (h6 w hw), fun q hq => va_Nc.moved hW.alike (h7 q hq)⟩
  obtain ⟨z, hz⟩ := h5 q hq
  exact ⟨z, vk_R.warm hW hz⟩
theorem gW_pay {s : State} {args : Array Value} {w0 : Cond} (hts : ∀ w ∈ gW, w.before args s = true) (h0 : w0 ∈ gW) : ∀ w ∈ (w0 :: gW), ∀ (a' : Array Value) (U : State), s.WarmedH U.vm → w.before a' U = true := by
  intro w hw a' U hW
  have hw' : w ∈ gW := (List.mem_cons.mp hw).elim (fun e => e ▸ h0) id
  exact word_at hW (gW_good w hw').2 (hts w hw')
section PWc
variable {G : GT} {cc : ByteArray} {nL : Nat} {own : String} {rc rs pc : Nat} {ls : List (Option PV)} {st : List PV} {μ : Mem}
/-- the height that this frame still has -/
def HR (G : GT) (h : Nat) : Prop := match G with
  | (p, l, e, R, s, m, args, below, meth, c, Q, A, V, idx, tl) => h ≤ R.frames ∧ 64 * h ≤ R.locals
def GX (G : GT) : List (Nat × Nat) := match G with
  | (p, l, e, R, s, m, args, below, meth, c, Q, A, V, idx, tl) => idx
def GL (G : GT) : Launch := match G with
  | (p, l, e, R, s, m, args, below, meth, c, Q, A, V, idx, tl) => l
def stW (st : List PV) : Nat := match st with
  | [] => 0
  | _ :: r => 2 + stW r
theorem stW_le {ad : Nat → Nat → Nat} : ∀ {st : List PV}, ((st.map (cv ad)).map fun v => v.category).sum ≤ stW st
  | [] => Nat.le_refl _
  | v :: r => by
    have h := stW_le (ad := ad) (st := r)
    have h2 : (cv ad v).category ≤ 2 := by
      unfold Value.category
      split <;> decide
    simp only [List.map_cons, List.sum_cons, stW]
    omega
def stK (st : List PV) : Nat := match st with
  | [] => 0
  | .inr (.inr _) :: r => 2 + stK r
  | _ :: r => 1 + stK r
theorem stK_le {ad : Nat → Nat → Nat} : ∀ {st : List PV}, ((st.map (cv ad)).map fun v => v.category).sum ≤ stK st
  | [] => Nat.le_refl _
  | v :: r => by
    have h := stK_le (ad := ad) (st := r)
    have h2 : (cv ad v).category + stK r ≤ stK (v :: r) := by
      rcases v with i | q | w
      · exact Nat.le_refl _
      · exact Nat.le_refl _
      · have : (cv ad (.inr (.inr w))).category ≤ 2 := by
          unfold Value.category
          split <;> decide
        show _ ≤ 2 + stK r
        omega
    simp only [List.map_cons, List.sum_cons]
    omega
/-- behind a call: back with P, or thrown with X -/
theorem px_call {l : Launch} {e : Env} {p : Program} {R : Room} {s : State} {m : MethodId} {args : Array Value} {below : List Frame} {meth : Method} {c : Code} {Q : State → Prop} {A : Nat → Prop} {V : VT} {idx : List (Nat × Nat)} {tl : va_W} {H : Heap} {locs : List Loc} {cells slots mc ms : Nat} {lsM : Array Slot} {st0 : List Value} {P : Option PV → Mem → Prop} {X : String → Mem → Prop} {a : Array Value}
    (hA : A = Aof V idx tl s.heap.size) (hS : va_S A s.heap H locs) (hok : ∀ v ∈ st, okP idx v)
    (hr : vx_Run p l e R s m args below meth c H locs cells slots mc ms (F0 m pc lsM st0) (st.map (cv V.1)) (QcF V idx tl H.size P a) (XcF V idx tl H.size X) (Aof V idx tl H.size))
    (kx : ∀ (E : String) (ce : Cell) (q9 : Addr) (μ' : Mem) (H1 : Heap) (locs1 : List Loc), X E μ' → va_P V.2.1 vwCl (wl V idx μ' ++ tl) H1 → va_S A s.heap H1 locs1 → H1[q9]? = some ce → ce.vm = .none → s.vm.findClass E = some ce.cls → vx_W p l e R s m args below meth c H1 locs1 (cells + mc) (slots + ms) Q (F0 m pc lsM (st.map (cv V.1))) q9)
    (kk : ∀ (v : Option PV) (μ' : Mem) (H1 : Heap) (locs1 : List Loc), P v μ' → va_P V.2.1 vwCl (wl V idx μ' ++ tl) H1 → va_S A s.heap H1 locs1 → (∀ x ∈ v.toList ++ st, okP idx x) → W p l e R s m args below meth c H1 locs1 (cells + mc) (slots + ms) Q (F0 m (pc + 3) lsM ((v.toList ++ st).map (cv V.1)))) :
    W p l e R s m args below meth c H locs cells slots Q (F0 m pc lsM st0) := by
  subst hA
  intro T hT X9
  have hf : ∀ q, Aof V idx tl H.size q → Aof V idx tl s.heap.size q := Aof_mono hS.1
  rcases hr T hT X9 with ⟨v, st₀, t, T', L, h0, X', hL, e1, e2, ⟨⟨v', μ', hv, hp, hx, hb⟩, hF⟩, hst⟩ | ⟨q, st₀, t, T', L, E, ce, h0, X', hL, e1, e2, ⟨μ', hp, hb, hF⟩, hce, hcv, hcl, hst⟩
  · cases hv
    obtain ⟨k1, k2, k3⟩ := vx_keep h0 e1 hS (fun q _ h => hf q h) hf hL hF
    obtain ⟨t2, a1, b1⟩ := kk v' μ' T'.heap (locs ++ L) hp (by rw [e1]; exact hb) k3 (fun x hx' => (List.mem_append.mp hx').elim (fun h => hx x (by simpa using h)) (hok x)) T' rfl X'
    refine ⟨t2, hst t2 ?_, b1⟩
    have : (v'.map (cv V.1)).toList ++ st.map (cv V.1) = (v'.toList ++ st).map (cv V.1) := by cases v' <;> simp
    show Steps p.tables e below (T'.setTop (F0 m (pc + 3) lsM ((v'.map (cv V.1)).toList ++ st.map (cv V.1)))) t2
    rw [this]
    exact a1
  · obtain ⟨k1, k2, k3⟩ := vx_keep h0 e1 hS (fun q _ h => hf q h) hf hL hF
    obtain ⟨t2, a1, b1⟩ := kx E ce q μ' T'.heap (locs ++ L) hp (by rw [e1]; exact hb) k3 (by rw [e1]; exact hce) hcv hcl T' rfl X'
    exact ⟨t2, hst.trans a1, b1⟩
theorem PcF_at {V : VT} {idx : List (Nat × Nat)} {tl : va_W} {A : Nat → Prop} {s U : State} {locs : List Loc} {as : List PV} (hE : EnvS V idx tl A s) (hA : A = Aof V idx tl s.heap.size) (hW : s.WarmedH U.vm) (hS : va_S A s.heap U.heap locs) (hok : ∀ v ∈ as, okP idx v) (hP : va_P V.2.1 vwCl (wl V idx μ ++ tl) U.heap) : PcF V idx tl U.heap.size as μ ((as.map (cv V.1)).toArray) U :=
  ⟨rfl, rfl, EnvS_at hE hW hS (by rw [hA]; exact Aof_mono hS.1), hok, hP⟩
theorem px_recv {V : VT} {idx : List (Nat × Nat)} {tl : va_W} {A : Nat → Prop} {s : State} {H : Heap} {j q ci : Nat} {fs : List (Option (Nat × Nat))} {y : MethodName} (hE : EnvS V idx tl A s) (hP : va_P V.2.1 vwCl (wl V idx μ ++ tl) H) (hin : (j, q) ∈ idx) (hs : sp j q = .inl (ci, fs)) (hc : (vwCl[ci]?).map (fun r => r.1) = some y.cls) : ∃ cell : Cell, H[V.1 j q]? = some cell ∧ cell.vm.isStatics = false ∧ s.vm.findClass y.cls = some cell.cls := by
  obtain ⟨n, -, hn⟩ := wl_get (V := V) (μ := μ) (tl := tl) hin
  rw [cc1_obj hs] at hn
  cases hr : vwCl[ci]? with
  | none => rw [hr] at hc; cases hc
  | some r =>
    rw [hr] at hc
    have : r.1 = y.cls := Option.some.inj hc
    rw [← this]
    exact va_recv hE.1 hP hr hn
/-- invokevirtual of a method whose exceptions leave this one too -/
theorem px_callV {i h mc ms j q ci n maxL rc' rs' : Nat} {fs : List (Option (Nat × Nat))} {y : MethodName} {b : ByteArray} {ret r9 : Option FieldType} {as rest : List PV} {P P9 : Option PV → Mem → Prop} {X : String → Mem → Prop} (C : PCx G cc nL own) (hHR : HR G (h + 1)) (hRt : PRt G r9 P9 X) (hnoT : ∀ z ∈ (G.2.2.2.2.2.2.2.2.2.1).exceptionTable.toList, False) (d : decode cc pc = .ok (.invokevirtual i, 3)) (hl : Cond.methodLink own i y ∈ gW) (hm : MV y b maxL ret n) (hM : PMet (GL G) y (.code y b maxL ret) h mc ms (GX G) (pR j q :: as) μ P X) (hs : sp j q = .inl (ci, fs)) (hc : (vwCl[ci]?).map (fun r => r.1) = some y.cls) (hj : (j == 41) = false) (hst : st = as.reverse ++ pR j q :: rest) (hn : as.length = n) (hk : stK rest ≤ 8) (hmx : maxL ≤ 45) (hrc : mc + rc' ≤ rc) (hrs : ms + rs' ≤ rs)
    (k : ∀ (v : Option PV) (μ' : Mem), P v μ' → PW G rc' rs' (pc + 3) ls (v.toList ++ rest) μ') : PW G rc rs pc ls st μ := by
  obtain ⟨p, l, e, R, s, m, args, below, meth, c, Q, A, V, idx, tl⟩ := G
  subst hst
  intro H locs cells slots lsM hP hS hl9 hL9 hV h1 h2
  have hok : ∀ v ∈ as.reverse ++ pR j q :: rest, okP idx v := hV
  have hok1 : okP idx (pR j q) := hok _ (List.mem_append_right _ List.mem_cons_self)
  have hin : (j, q) ∈ idx := Or.resolve_right hok1 (fun h => by rw [show j = 41 from h] at hj; cases hj)
  have hokA : ∀ v ∈ pR j q :: as, okP idx v := fun v hv => (List.mem_cons.mp hv).elim (fun e => e ▸ hok1) (fun h => hok v (List.mem_append_left _ (List.mem_reverse.mpr h)))
  have hokR : ∀ v ∈ rest, okP idx v := fun v hv => hok v (List.mem_append_right _ (List.mem_cons_of_mem _ hv))
  obtain ⟨hx, hb, hml, hown, hts, hE, hD, hI, hAs, hA, hlk, htr⟩ := C
  obtain ⟨m1, m2, m3, m4, m5, m6, -⟩ := hm
  have cw : CallW R s args own y.cls i y b maxL ret (.code y b maxL ret :: gW) (rmh h mc ms) mc ms n := ⟨⟨rfl, rfl, hHR.1, (by have := hHR.2; show 8 + (maxL + 11) + 64 * h ≤ R.locals; omega), gW_pay hts m4, List.mem_cons_self, hts _ m4, hts _ m3, m5, fun sig h9 => by rw [h9] at m6; exact (Option.some.inj m6).symm, hts _ hl⟩, hts _ m1, hts _ m2⟩
  refine px_call (st := rest) (mc := mc) (ms := ms) hA hS hokR (vx_runV (As := as.map (cv V.1)) (nL := nL) ⟨hx, hb, hml, hown, hts⟩ (hM V tl H.size) cw ⟨PcF_blind, px_recv hE hP hin hs hc, fun U hU hW => ?_⟩ rfl (by rw [List.length_map]; exact hn) (by show lsM.size = nL; rw [hl9.1, hml]) (by show List.map _ _ = _; rw [List.map_append, List.map_cons, List.map_reverse]; rfl) (lv_room (Nat.le_trans stK_le hk)) d ⟨by omega, by omega⟩) ?_ ?_
  · subst hU
    exact PcF_at (μ := μ) (as := pR j q :: as) hE hA hW hS hokA hP
  · intro E ce q9 μ' H1 locs1 hXE hP1 hS1 hce hcv hcl
    rw [hRt.1]
    refine vx_out (fun x hx9 => absurd hx9 (fun z => hnoT x z)) hlk hce hcv hcl (fun t ht _ => ⟨μ', hXE, by rw [ht]; exact hP1, ?_⟩) (by rw [← hA]; exact hS1.2.2) (by omega) (by omega)
    rw [← hA]
    exact hS1.F ht
  · intro v μ' H1 locs1 hPv hP1 hS1 hok2
    exact k v μ' hPv H1 locs1 (cells + mc) (slots + ms) lsM hP1 hS1 hl9 hL9 hok2 (by omega) (by omega)
end PWc
