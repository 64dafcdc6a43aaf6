-- calls that change the text's builder: what lies behind the layout's cells changes with it
def GTl (G : GT) : va_W := match G with
  | (p, l, e, R, s, m, args, below, meth, c, Q, A, V, idx, tl) => tl
def GV (G : GT) : VT := match G with
  | (p, l, e, R, s, m, args, below, meth, c, Q, A, V, idx, tl) => V
def setTl (G : GT) (tl' : va_W) : GT := match G with
  | (p, l, e, R, s, m, args, below, meth, c, Q, A, V, idx, tl) => (p, l, e, R, s, m, args, below, meth, c, Q, A, V, idx, tl')
def SBG (G : GT) : Prop := match G with
  | (p, l, e, R, s, m, args, below, meth, c, Q, A, V, idx, tl) => CEnv V A s
theorem va_D_fst {A : Nat → Prop} {w w' : va_W} (h : w.map Prod.fst = w'.map Prod.fst) (hD : va_D A w) : va_D A w' := by
  obtain ⟨d1, d2⟩ := va_D_iff.mp hD
  refine va_D_iff.mpr ⟨h ▸ d1, fun q hq => ?_⟩
  have : q.1 ∈ w.map Prod.fst := h ▸ List.mem_map.mpr ⟨q, hq, rfl⟩
  obtain ⟨q9, h9, e9⟩ := List.mem_map.mp this
  exact e9 ▸ d2 q9 h9
theorem wl_fst2 {V : VT} {idx : List (Nat × Nat)} {μ μ' : Mem} {tl : va_W} : (wl V idx μ ++ tl).map Prod.fst = (wl V idx μ' ++ tl).map Prod.fst := by
  rw [List.map_append, List.map_append, wl_fst, wl_fst]
theorem Aof_iff {V : VT} {idx : List (Nat × Nat)} {tl : va_W} {sz q : Nat} : Aof V idx tl sz q ↔ (q ∈ (wl V idx (fun _ _ _ => 0) ++ tl).map Prod.fst) ∨ sz ≤ q := by
  constructor
  · rintro (⟨k, e, h⟩ | h)
    · exact Or.inl (List.mem_map.mpr ⟨(q, e), List.mem_of_getElem? h, rfl⟩)
    · exact Or.inr h
  · rintro (h | h)
    · obtain ⟨⟨a, e⟩, h1, rfl⟩ := List.mem_map.mp h
      obtain ⟨k, hk⟩ := List.getElem?_of_mem h1
      exact Or.inl ⟨k, e, hk⟩
    · exact Or.inr h
/-- the new cells behind: what has to be known of them -/
def TlOK (V : VT) (idx : List (Nat × Nat)) (sz : Nat) (tl tl' : va_W) : Prop := va_D (Aof V idx tl sz) (wl V idx (fun _ _ _ => 0) ++ tl') ∧ Aof V idx tl' sz = Aof V idx tl sz
theorem TlOK.rf {V : VT} {idx : List (Nat × Nat)} {sz : Nat} {tl : va_W} (h : va_D (Aof V idx tl sz) (wl V idx (fun _ _ _ => 0) ++ tl)) : TlOK V idx sz tl tl := ⟨h, rfl⟩
theorem TlOK.up {V : VT} {idx : List (Nat × Nat)} {sz sz' : Nat} {tl tl' : va_W} (hs : sz ≤ sz') (h : TlOK V idx sz' tl tl') : TlOK V idx sz tl tl' := by
  obtain ⟨d, e⟩ := h
  have hmono : ∀ q, Aof V idx tl sz' q → Aof V idx tl sz q := Aof_mono hs
  refine ⟨va_D_iff.mpr ⟨(va_D_iff.mp d).1, fun q hq => hmono _ ((va_D_iff.mp d).2 q hq)⟩, ?_⟩
  funext q
  apply propext
  constructor
  · intro h9
    rcases Aof_iff.mp h9 with h | h
    · obtain ⟨⟨a, x⟩, h1, rfl⟩ := List.mem_map.mp h
      exact hmono _ ((va_D_iff.mp d).2 _ h1)
    · exact Or.inr h
  · intro h9
    rcases Aof_iff.mp h9 with h | h
    · have h2 : Aof V idx tl' sz' q := by rw [e]; exact Aof_iff.mpr (Or.inl h)
      rcases Aof_iff.mp h2 with h3 | h3
      · exact Aof_iff.mpr (Or.inl h3)
      · exact Or.inr (Nat.le_trans hs h3)
    · exact Or.inr h
theorem EnvS_tl {V : VT} {idx : List (Nat × Nat)} {tl tl' : va_W} {A : Nat → Prop} {U : State} (h : EnvS V idx tl A U) (hD : va_D A (wl V idx (fun _ _ _ => 0) ++ tl')) : EnvS V idx tl' A U := by
  obtain ⟨h1, -, h3⟩ := h
  exact ⟨h1, fun μ => va_D_fst wl_fst2 (va_D_iff.mpr ⟨(va_D_iff.mp hD).1, fun _ _ => trivial⟩), h3⟩
theorem PCx_tl {G : GT} {cc : ByteArray} {nL : Nat} {own : String} {tl' : va_W} (C : PCx G cc nL own) (h : TlOK (GV G) (GX G) (G.2.2.2.2.1).heap.size (GTl G) tl') : PCx (setTl G tl') cc nL own := by
  obtain ⟨p, l, e, R, s, m, args, below, meth, c, Q, A, V, idx, tl⟩ := G
  obtain ⟨hx, hb, hml, hown, hts, hE, hD, hI, hAs, hA, hlk, htr⟩ := C
  obtain ⟨d, e9⟩ := h
  have e9' : Aof V idx tl' s.heap.size = Aof V idx tl s.heap.size := e9
  have d' : va_D A (wl V idx (fun _ _ _ => 0) ++ tl') := by rw [hA]; exact d
  exact ⟨hx, hb, hml, hown, hts, EnvS_tl hE d', d', hI, hAs, by rw [hA]; exact e9'.symm, hlk, htr⟩
-- contracts
def PcT (V : VT) (idx : List (Nat × Nat)) (tl : va_W) (sz : Nat) (args : List PV) (μ : Mem) : Array Value → State → Prop := va_Pc (args.map (cv V.1)) (fun U => U.heap.size = sz ∧ (EnvS V idx tl (Aof V idx tl sz) U ∧ CEnv V (Aof V idx tl sz) U) ∧ (∀ v ∈ args, okP idx v) ∧ va_P V.2.1 vwCl (wl V idx μ ++ tl) U.heap)
def QcT (V : VT) (idx : List (Nat × Nat)) (tl : va_W) (sz : Nat) (P : Option PV → Mem → va_W → Prop) : Array Value → State → Outcome → State → Prop := fun _ st o t => (∃ (v : Option PV) (μ' : Mem) (tl' : va_W), o = .returned (v.map (cv V.1)) ∧ P v μ' tl' ∧ (∀ x, v = some x → okP idx x) ∧ va_P V.2.1 vwCl (wl V idx μ' ++ tl') t.heap ∧ TlOK V idx sz tl tl') ∧ va_F (Aof V idx tl sz) st t
def XcT (V : VT) (idx : List (Nat × Nat)) (tl : va_W) (sz : Nat) (X : String → Mem → va_W → Prop) : String → State → State → Prop := fun E st t => ∃ (μ' : Mem) (tl' : va_W), X E μ' tl' ∧ va_P V.2.1 vwCl (wl V idx μ' ++ tl') t.heap ∧ TlOK V idx sz tl tl' ∧ va_F (Aof V idx tl sz) st t
/-- the contract of a method that may change the builder -/
def PMetT (l : Launch) (y : MethodName) (w0 : Cond) (h mc ms : Nat) (idx : List (Nat × Nat)) (args : List PV) (μ : Mem) (V : VT) (tl : va_W) (P : Option PV → Mem → va_W → Prop) (X : String → Mem → va_W → Prop) : Prop :=
  ∀ sz : Nat, vx_Met l y (w0 :: gW) (rmh h mc ms) (PcT V idx tl sz args μ) (QcT V idx tl sz P) (XcT V idx tl sz X) mc ms (Aof V idx tl sz)
def PRtT (G : GT) (tl0 : va_W) (ret : Option FieldType) (P : Option PV → Mem → va_W → Prop) (X : String → Mem → va_W → Prop) : Prop := match G with
  | (p, l, e, R, s, m, args, below, meth, c, Q, A, V, idx, tl) => Q = vx_MQ below (QcT V idx tl0 s.heap.size P) (XcT V idx tl0 s.heap.size X) args s R.cells R.slots (Aof V idx tl0 s.heap.size) ∧ A = Aof V idx tl0 s.heap.size ∧ meth.sig.returnType = ret
theorem PcT_blind {V : VT} {idx : List (Nat × Nat)} {tl : va_W} {sz : Nat} {args : List PV} {μ : Mem} : FrameBlind (PcT V idx tl sz args μ) := by
  intro a U g mk h
  obtain ⟨h0, h1, ⟨h2, h3⟩, h4, h5⟩ := h
  exact ⟨h0, h1, ⟨EnvS_calling h2, CEnv_calling h3⟩, h4, h5⟩
theorem PcT_at {V : VT} {idx : List (Nat × Nat)} {tl : va_W} {A : Nat → Prop} {s U : State} {locs : List Loc} {as : List PV} {μ : Mem} (hE : EnvS V idx tl A s) (hB : CEnv V A s) (hA : A = Aof V idx tl s.heap.size) (hW : s.WarmedH U.vm) (hS : va_S A s.heap U.heap locs) (hok : ∀ v ∈ as, okP idx v) (hP : va_P V.2.1 vwCl (wl V idx μ ++ tl) U.heap) : PcT V idx tl U.heap.size as μ ((as.map (cv V.1)).toArray) U :=
  have hm : ∀ q, Aof V idx tl U.heap.size q → A q := by rw [hA]; exact Aof_mono hS.1
  ⟨rfl, rfl, ⟨EnvS_at hE hW hS hm, CEnv_at hB hW hS hm⟩, hok, hP⟩
theorem vx_Q_mono {Qc Qc' : Array Value → State → Outcome → State → Prop} {XC XC' : String → State → State → Prop} {mc ms : Nat} {free : Addr → Prop} {a : Array Value} {s t : State} {o : Outcome} (h1 : ∀ st o t, Qc a st o t → Qc' a st o t) (h2 : ∀ E st t, XC E st t → XC' E st t) (h : vx_Q Qc XC mc ms free a s o t) : vx_Q Qc' XC' mc ms free a s o t := by
  rcases h with ⟨z1, z2⟩ | ⟨q, z1, z2⟩
  · exact Or.inl ⟨h1 _ _ _ z1, z2⟩
  · refine Or.inr ⟨q, z1, ?_⟩
    obtain ⟨E, ce, L, y1, y2⟩ := z2
    exact ⟨E, ce, L, h2 _ _ _ y1, y2⟩
section PWt
variable {G : GT} {cc : ByteArray} {nL : Nat} {own : String} {rc rs pc : Nat} {ls : List (Option PV)} {st : List PV} {μ : Mem}
/-- behind such a call: back with P, or thrown with X -/
theorem pt_call {l : Launch} {e : Env} {p : Program} {R : Room} {s : State} {m : MethodId} {args : Array Value} {below : List Frame} {meth : Method} {c : Code} {Q : State → Prop} {A : Nat → Prop} {V : VT} {idx : List (Nat × Nat)} {tl : va_W} {H : Heap} {locs : List Loc} {cells slots mc ms : Nat} {lsM : Array Slot} {st0 : List Value} {P : Option PV → Mem → va_W → Prop} {X : String → Mem → va_W → Prop} {a : Array Value}
    (hA : A = Aof V idx tl s.heap.size) (hS : va_S A s.heap H locs) (hok : ∀ v ∈ st, okP idx v)
    (hr : vx_Run p l e R s m args below meth c H locs cells slots mc ms (F0 m pc lsM st0) (st.map (cv V.1)) (QcT V idx tl H.size P a) (XcT V idx tl H.size X) (Aof V idx tl H.size))
    (kx : ∀ (E : String) (ce : Cell) (q9 : Addr) (μ' : Mem) (tl' : va_W) (H1 : Heap) (locs1 : List Loc), X E μ' tl' → TlOK V idx s.heap.size tl tl' → va_P V.2.1 vwCl (wl V idx μ' ++ tl') H1 → va_S A s.heap H1 locs1 → H1[q9]? = some ce → ce.vm = .none → s.vm.findClass E = some ce.cls → vx_W p l e R s m args below meth c H1 locs1 (cells + mc) (slots + ms) Q (F0 m pc lsM (st.map (cv V.1))) q9)
    (kk : ∀ (v : Option PV) (μ' : Mem) (tl' : va_W) (H1 : Heap) (locs1 : List Loc), P v μ' tl' → TlOK V idx s.heap.size tl tl' → va_P V.2.1 vwCl (wl V idx μ' ++ tl') H1 → va_S A s.heap H1 locs1 → (∀ x ∈ v.toList ++ st, okP idx x) → W p l e R s m args below meth c H1 locs1 (cells + mc) (slots + ms) Q (F0 m (pc + 3) lsM ((v.toList ++ st).map (cv V.1)))) :
    W p l e R s m args below meth c H locs cells slots Q (F0 m pc lsM st0) := by
  subst hA
  intro T hT X9
  have hf : ∀ q, Aof V idx tl H.size q → Aof V idx tl s.heap.size q := Aof_mono hS.1
  rcases hr T hT X9 with ⟨v, st₀, t, T', L, h0, X', hL, e1, e2, ⟨⟨v', μ', tl', hv, hp, hx, hb, ho⟩, hF⟩, hst⟩ | ⟨q, st₀, t, T', L, E, ce, h0, X', hL, e1, e2, ⟨μ', tl', hp, hb, ho, hF⟩, hce, hcv, hcl, hst⟩
  · cases hv
    obtain ⟨k1, k2, k3⟩ := vx_keep h0 e1 hS (fun q _ h => hf q h) hf hL hF
    obtain ⟨t2, a1, b1⟩ := kk v' μ' tl' T'.heap (locs ++ L) hp (ho.up hS.1) (by rw [e1]; exact hb) k3 (fun x hx' => (List.mem_append.mp hx').elim (fun h => hx x (by simpa using h)) (hok x)) T' rfl X'
    refine ⟨t2, hst t2 ?_, b1⟩
    have : (v'.map (cv V.1)).toList ++ st.map (cv V.1) = (v'.toList ++ st).map (cv V.1) := by cases v' <;> simp
    show Steps p.tables e below (T'.setTop (F0 m (pc + 3) lsM ((v'.map (cv V.1)).toList ++ st.map (cv V.1)))) t2
    rw [this]
    exact a1
  · obtain ⟨k1, k2, k3⟩ := vx_keep h0 e1 hS (fun q _ h => hf q h) hf hL hF
    obtain ⟨t2, a1, b1⟩ := kx E ce q μ' tl' T'.heap (locs ++ L) hp (ho.up hS.1) (by rw [e1]; exact hb) k3 (by rw [e1]; exact hce) hcv hcl T' rfl X'
    exact ⟨t2, hst.trans a1, b1⟩
/-- a call on the builder -/
theorem pt_callSB {i h mc ms n maxL rc' rs' : Nat} {x x' : TX} {y : MethodName} {b : ByteArray} {ret : Option FieldType} {as rest : List PV} {rv : Option PV} (C : PCx G cc nL own) (hB : SBG G) (hX : SBX (GV G) (GTl G) x) (hHR : HR G (h + 1)) (d : decode cc pc = .ok (.invokevirtual i, 3)) (hl : Cond.methodLink own i y ∈ gW) (hm : MV y b maxL ret n) (hC : y.cls = RJ4)
    (hM : ∀ (V : VT) (a q m : Nat) (f : Nat → Int32) (ml : Int32), V = GV G → a = V.1 41 0 → x.1 ≤ m → 16 ≤ m → m ≤ 60 → sb_Fit f → sb_Lat x.2 x.1 f → CMet (GL G) y (.code y b maxL ret) h mc ms V (.ref a :: as.map (cv V.1)) (sbW V a q m f ml (nI x.1)) (fun v W1 => v = rv.map (cv V.1) ∧ SBq V a x' (sbW V a q m f ml (nI x.1)) W1))
    (hrv : ∀ z, rv = some z → okP (GX G) z) (hst : st = as.reverse ++ pR 41 0 :: rest) (hn : as.length = n) (hk : stK rest ≤ 8) (hmx : maxL ≤ 45) (hrc : mc + rc' ≤ rc) (hrs : ms + rs' ≤ rs)
    (k : ∀ tl' : va_W, SBX (GV G) tl' x' → TlOK (GV G) (GX G) (G.2.2.2.2.1).heap.size (GTl G) tl' → PW (setTl G tl') rc' rs' (pc + 3) ls (rv.toList ++ rest) μ) : PW G rc rs pc ls st μ := by
  obtain ⟨p, l, e, R, s, m, args, below, meth, c, Q, A, V, idx, tl⟩ := G
  subst hst
  intro H locs cells slots lsM hP hS hl9 hL9 hV h1 h2
  obtain ⟨hx, hb, hml, hown, hts, hE, hD, hI, hAs, hA, hlk, htr⟩ := C
  obtain ⟨m1, m2, m3, m4, m5, m6, -⟩ := hm
  obtain ⟨q, m9, f, ml, tr, et, x1, x2, x3, x4, x5⟩ := hX
  have et : tl = sbW V (V.1 41 0) q m9 f ml (nI x.1) ++ tr := et
  subst et
  have hokR : ∀ v ∈ rest, okP idx v := fun v hv => hV v (List.mem_append_right _ (List.mem_cons_of_mem _ hv))
  have cw : CallW R s args own y.cls i y b maxL ret (.code y b maxL ret :: gW) (rmh h mc ms) mc ms n := ⟨⟨rfl, rfl, hHR.1, (by have := hHR.2; show 8 + (maxL + 11) + 64 * h ≤ R.locals; omega), gW_pay hts m4, List.mem_cons_self, hts _ m4, hts _ m3, m5, fun sig h9 => by rw [h9] at m6; exact (Option.some.inj m6).symm, hts _ hl⟩, hts _ m1, hts _ m2⟩
  generalize hW0 : sbW V (V.1 41 0) q m9 f ml (nI x.1) = W0 at hP hD hE hA ⊢
  have pm : (wl V idx μ ++ (W0 ++ tr)).Perm (W0 ++ (wl V idx μ ++ tr)) := perm_mid2 (α := Nat × va_E) _ _ _
  have hP2 := hP.perm pm
  have hD2 : va_D A (W0 ++ (wl V idx μ ++ tr)) := (va_D_fst (wl_fst2 (tl := W0 ++ tr)) hD).perm pm
  have he : (W0 ++ (wl V idx μ ++ tr))[0]? = some (V.1 41 0, .inr (1, [.ref q, .int 0, .int ml, .int (nI x.1)])) := by rw [← hW0]; rfl
  have hMM := hM V (V.1 41 0) q m9 f ml rfl rfl x1 x2 x3 x4 x5
  rw [hW0] at hMM
  refine cw_back (W0 := W0) (Wr := wl V idx μ ++ tr) (mc := mc) (ms := ms) (rest := rest.map (cv V.1)) hAs hP2 hD2 hS (va_runV (As := as.map (cv V.1)) (nL := nL) (b := V.1 41 0) ⟨hx, hb, hml, hown, hts⟩ (hMM H.size) cw ⟨PcC_blind, by rw [hC]; exact va_recv hE.1 hP2 rfl he, fun U hU hW => ?_⟩ rfl (by rw [List.length_map]; exact hn) (by show lsM.size = nL; rw [hl9.1, hml]) (by show List.map _ _ = _; rw [List.map_append, List.map_cons, List.map_reverse]; rfl) (lv_room (Nat.le_trans stK_le hk)) d ⟨by omega, by omega⟩) (fun v W1 H1 locs1 hp hP1 hD1 hS1 => ?_)
  · subst hU
    exact PcC_at hB hAs hW hS hP2 hD2
  · obtain ⟨rfl, ⟨q2, m2, f2, ml2, J9, e1, y1, y2, y3, y4, y5⟩, hsub⟩ := hp
    have pm2 : (W1 ++ (wl V idx μ ++ tr)).Perm (wl V idx μ ++ (W1 ++ tr)) := perm_mid2 (α := Nat × va_E) _ _ _
    have hD3 : va_D A (wl V idx (fun _ _ _ => 0) ++ (W1 ++ tr)) := va_D_fst (wl_fst2 (tl := W1 ++ tr)) (hD1.perm pm2)
    have hT : TlOK V idx s.heap.size (W0 ++ tr) (W1 ++ tr) := by
      refine ⟨by rw [← hA]; exact hD3, ?_⟩
      rw [← hA]
      funext a
      apply propext
      constructor
      · intro h9
        rcases Aof_iff.mp h9 with h | h
        · obtain ⟨⟨b9, z⟩, h3, rfl⟩ := List.mem_map.mp h
          exact (va_D_iff.mp hD3).2 _ h3
        · exact hAs _ h
      · intro h9
        rw [hA] at h9
        rcases Aof_iff.mp h9 with h | h
        · refine Aof_iff.mpr (Or.inl ?_)
          rw [List.map_append, List.map_append, List.mem_append, List.mem_append] at h ⊢
          rcases h with h | h | h
          · exact Or.inl h
          · exact Or.inr (Or.inl (hsub a h))
          · exact Or.inr (Or.inr h)
        · exact Or.inr h
    have K := k (W1 ++ tr) ⟨q2, m2, f2, ml2, J9 ++ tr, by rw [e1, List.append_assoc]; rfl, y1, y2, y3, y4, y5⟩ (by rw [← hW0] at hT; exact hT)
    have e9 : (rv.map (cv V.1)).toList ++ rest.map (cv V.1) = (rv.toList ++ rest).map (cv V.1) := by cases rv <;> simp
    rw [e9]
    exact K H1 locs1 (cells + mc) (slots + ms) lsM (hP1.perm pm2) hS1 hl9 hL9 (fun v hv => (List.mem_append.mp hv).elim (fun h => hrv v (by cases rv with | none => cases h | some z => exact congrArg some (List.mem_singleton.mp h).symm)) (hokR v)) (by omega) (by omega)
/-- ends of such a method -/
theorem pt_vret {tl0 : va_W} {P : Option PV → Mem → va_W → Prop} {X : String → Mem → va_W → Prop} (C : PCx G cc nL own) (hR : PRtT G tl0 none P X) (d : decode cc pc = .ok (.return_, 1)) (hst : st = []) (k : P none μ (GTl G)) : PW G rc rs pc ls st μ := by
  obtain ⟨p, l, e, R, s, m, args, below, meth, c, Q, A, V, idx, tl⟩ := G
  subst hst
  intro H locs cells slots lsM hP hS hl hL hV h1 h2
  obtain ⟨hx, hb, hml, hown, hts, hE, hD, hI, hAs, hA, hlk, htr⟩ := C
  obtain ⟨hQ, hA0, hr⟩ := hR
  have hA1 : Aof V idx tl s.heap.size = Aof V idx tl0 s.heap.size := hA.symm.trans hA0
  rw [hQ]
  refine W.widen (k := R.cells) (n := R.slots) (by omega) (by omega) (vx_ret ?_)
  exact W.vret hx hb hr (fun t ht hW => ⟨⟨none, μ, tl, rfl, k, (fun x hx => by cases hx), by rw [ht]; exact hP, by rw [← hA0]; exact hD, hA1⟩, by rw [← hA0]; exact hS.F ht⟩) (by rw [← hA0]; exact hS.2.2) d hlk
/-- what follows changes nothing behind the cells any more -/
theorem pt_std {tl0 : va_W} {ret : Option FieldType} {P : Option PV → Mem → va_W → Prop} {X : String → Mem → va_W → Prop} {P9 : Option PV → Mem → Prop} {X9 : String → Mem → Prop} (C : PCx G cc nL own) (hR : PRtT G tl0 ret P X) (hp : ∀ v μ', P9 v μ' → P v μ' (GTl G)) (hx9 : ∀ E μ', X9 E μ' → X E μ' (GTl G)) (k : ∀ G9 : GT, GX G9 = GX G → GL G9 = GL G → GV G9 = GV G → GTl G9 = GTl G → PCx G9 cc nL own → PRt G9 ret P9 X9 → (SBG G → SBG G9) → (∀ h, HR G h → HR G9 h) → G9.2.2.2.2.2.2.2.2.2.1 = G.2.2.2.2.2.2.2.2.2.1 → PW G9 rc rs pc ls st μ) : PW G rc rs pc ls st μ := by
  obtain ⟨p, l, e, R, s, m, args, below, meth, c, Q, A, V, idx, tl⟩ := G
  have C0 := C
  obtain ⟨hx, hb, hml, hown, hts, hE, hD, hI, hAs, hA, hlk, htr⟩ := C
  obtain ⟨hQ, hA0, hr⟩ := hR
  have hA1 : Aof V idx tl s.heap.size = Aof V idx tl0 s.heap.size := hA.symm.trans hA0
  have K := k (p, l, e, R, s, m, args, below, meth, c, vx_MQ below (QcF V idx tl s.heap.size P9) (XcF V idx tl s.heap.size X9) args s R.cells R.slots (Aof V idx tl s.heap.size), A, V, idx, tl) rfl rfl rfl rfl ⟨hx, hb, hml, hown, hts, hE, hD, hI, hAs, hA, hlk, htr⟩ ⟨rfl, hr⟩ (fun z => z) (fun h z => z) rfl
  intro H locs cells slots lsM hP hS hl hL hV h1 h2 T hT X5
  obtain ⟨t, a1, b1⟩ := K H locs cells slots lsM hP hS hl hL hV h1 h2 T hT X5
  refine ⟨t, a1, ?_⟩
  rw [hQ]
  obtain ⟨o, z1, z2, z3⟩ := b1
  refine ⟨o, z1, z2, ?_⟩
  have hD' : va_D (Aof V idx tl0 s.heap.size) (wl V idx (fun _ _ _ => 0) ++ tl) := by rw [← hA0]; exact hD
  rw [← hA1]
  exact vx_Q_mono (fun st o9 t9 z => by
    obtain ⟨⟨v, μ', q1, q2, q3, q4⟩, q5⟩ := z
    exact ⟨⟨v, μ', tl, q1, hp v μ' q2, q3, q4, hD', hA1⟩, by rw [← hA1]; exact q5⟩) (fun E st t9 z => by
    obtain ⟨μ', q1, q2, q3⟩ := z
    exact ⟨μ', tl, hx9 E μ' q1, q2, ⟨hD', hA1⟩, by rw [← hA1]; exact q3⟩) z3
end PWt
