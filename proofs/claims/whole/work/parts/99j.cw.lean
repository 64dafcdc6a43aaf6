-- walks over a world of cells that grows: the constructors, the JDK's StringBuilder
abbrev CG : Type := Program × Launch × Env × Room × State × MethodId × Array Value × List Frame × Method × Code × (State → Prop) × (Nat → Prop) × VT
def RPre : String := "jdk/internal/util/Preconditions"
def va_M2 (V : VT) (U : State) : Prop := ∃ (kA kc : Class) (ci : ClassId), U.vm.classes[V.2.2 5]? = some kA ∧ kA.kind = .array (V.2.2 2) (.array .int) ∧ U.vm.classes[V.2.2 2]? = some kc ∧ kc.kind = .array ci .int
theorem va_M2.moved {V : VT} {u U : State} (hvm : u.vm.Alike U.vm) (h : va_M2 V u) : va_M2 V U := by
  obtain ⟨kA, kc, ci, h1, h2, h3, h4⟩ := h
  obtain ⟨k1, hk1, e1⟩ := hvm.2.2 _ _ h1
  obtain ⟨k2, hk2, e2⟩ := hvm.2.2 _ _ h3
  exact ⟨k1, k2, ci, hk1, by rw [e1]; exact h2, hk2, by rw [e2]; exact h4⟩
theorem sel_priv {C : String} {w x : MethodName} {s : State} {args : Array Value} (hy : x.cls ≠ "java/lang/invoke/MethodHandle" ∧ x.cls ≠ "java/lang/invoke/VarHandle") (hw : w.cls = x.cls) (h0 : (Cond.selects C w w).before args s = true) (hp : (Cond.privateMethod x).before args s = true) (hi : (Cond.instanceMethod x).before args s = true) : (Cond.selects C x x).before args s = true := by
  obtain ⟨mk, methM, hnamed, hmethM, -, -⟩ := Cond.instanceMethod_spec hi
  have hfound : s.methodFound? x.cls x.name x.desc = some mk := State.methodFound?_of_named hnamed hy
  simp only [Cond.before, Cond.holds, Cond.value] at h0
  cases hc : s.vm.findClass C with
  | none => simp [hc] at h0
  | some c =>
    have hsel : selectMethod {} s.vm c mk = .method mk := selectMethod_private hmethM (Cond.privateMethod_at hp mk methM hnamed hmethM)
    simp only [hc] at h0
    cases h1 : s.methodFound? w.cls w.name w.desc with
    | none => simp [h1] at h0
    | some r =>
      cases h2 : s.methodNamed? w with
      | none => simp [h1, h2] at h0
      | some m0 =>
        have e : m0.cls = mk.cls := by
          have a := findClass_of_methodNamed h2
          have b := findClass_of_methodNamed hnamed
          rw [hw] at a
          exact Option.some.inj (a.symm.trans b)
        simp only [h1, h2] at h0
        simp only [Cond.before, Cond.holds, Cond.value, hc, hfound, hnamed, hsel]
        cases h3 : selectMethod {} s.vm c r with
        | method m' =>
          simp only [h3] at h0
          rw [e] at h0
          simp at h0 ⊢
          exact h0.2
        | _ => simp [h3] at h0
/-- methods that only the builder's own class calls -/
def prvL : List MethodName := [yJ5_ensureCapacityInternal_d00df, yJ5_newCapacity_0f7a4]
theorem prv_warm {s U : State} (hW : s.WarmedH U.vm) {y : MethodName} (h : va_Nw (.selects RJ4 y y) s) : va_Nw (.selects RJ4 y y) U := word_at hW (Or.inl rfl) h
/-- what the tables and the JDK's own statics hold -/
def CEnv (V : VT) (A : Nat → Prop) (U : State) : Prop := va_K V.2.1 vwCl (tyL V) U ∧ (∀ w ∈ noteL, va_Nw w U) ∧ (va_AO RX7 U ∧ va_M2 V U ∧ ∀ y ∈ prvL, va_Nw (.selects RJ4 y y) U) ∧ va_Z RJ0 "COMPACT_STRINGS" "Z" (.int 1) A U U.heap ∧ va_Zq RPre "SIOOBE_FORMATTER" "Ljava/util/function/BiFunction;" A U U.heap ∧ (∃ t, va_Z RJ6 "DigitOnes" "[B" (.ref t) A U U.heap ∧ va_T .byte t 100 (fun j => .int (nI (48 + j % 10))) A U U.heap) ∧ ∃ t, va_Z RJ6 "DigitTens" "[B" (.ref t) A U U.heap ∧ va_T .byte t 100 (fun j => .int (nI (48 + j / 10))) A U U.heap
theorem CEnv_calling {V : VT} {A : Nat → Prop} {U : State} {g : JFrame} {mk : MethodId} {a : Array Value} (h : CEnv V A U) : CEnv V A (U.calling g mk a) := by
  obtain ⟨h1, h2, h9, h3, h4, ⟨t1, h5, h6⟩, t2, h7, h8⟩ := h
  have al : U.vm.Alike (U.calling g mk a).vm := Vm.Alike.refl U.vm
  exact ⟨va_K.moved (u := U) al h1, fun w hw => va_Nw.same (noteL_ot w hw) (u := U) (U := U.calling g mk a) rfl (h2 w hw), ⟨va_AO.moved (u := U) al h9.1, va_M2.moved (u := U) al h9.2.1, fun y hy => va_Nw.same rfl (u := U) (U := U.calling g mk a) rfl (h9.2.2 y hy)⟩, va_Z.moved (u := U) al h3, va_Zq.moved (u := U) al h4, ⟨t1, va_Z.moved (u := U) al h5, va_T.moved (u := U) al h6⟩, t2, va_Z.moved (u := U) al h7, va_T.moved (u := U) al h8⟩
theorem CEnv_at {V : VT} {A B : Nat → Prop} {s U : State} {locs : List Loc} (h : CEnv V A s) (hW : s.WarmedH U.vm) (hS : va_S A s.heap U.heap locs) (hAB : ∀ q, B q → A q) : CEnv V B U := by
  obtain ⟨h1, h2, h9, h3, h4, ⟨t1, h5, h6⟩, t2, h7, h8⟩ := h
  have al := hW.alike
  exact ⟨va_K.moved al h1, fun w hw => noteL_warm hW w hw (h2 w hw), ⟨h9.1.moved al, h9.2.1.moved al, fun y hy => prv_warm hW (h9.2.2 y hy)⟩, ((h3.kept hS.2.1).moved al).narrow hAB, ((h4.kept hS.2.1).moved al).narrow hAB, ⟨t1, ((h5.kept hS.2.1).moved al).narrow hAB, ((h6.kept hS.2.1).moved al).narrow hAB⟩, t2, ((h7.kept hS.2.1).moved al).narrow hAB, ((h8.kept hS.2.1).moved al).narrow hAB⟩
def CW (G : CG) (rc rs pc : Nat) (ls : List (Option PV)) (st : List Value) (W9 : va_W) : Prop := match G with
  | (p, l, e, R, s, m, args, below, meth, c, Q, A, V) => ∀ (H : Heap) (locs : List Loc) (cells slots : Nat) (lsM : Array Slot), va_P V.2.1 vwCl W9 H → va_D A W9 → va_S A s.heap H locs → lv_has lsM c.maxLocals (asc V.1 0 ls) → cells + rc ≤ R.cells → slots + rs ≤ R.slots → W p l e R s m args below meth c H locs cells slots Q (F0 m pc lsM st)
def CC (G : CG) (cc : ByteArray) (nL : Nat) (own : String) : Prop := match G with
  | (p, l, e, R, s, m, args, below, meth, c, Q, A, V) => p.tables.exec = Jvm.exec ∧ c.code = cc ∧ c.maxLocals = nL ∧ s.vm.findClass own = some m.cls ∧ (∀ w ∈ gW, w.before args s = true) ∧ CEnv V A s ∧ (∀ q, s.heap.size ≤ q → A q) ∧ meth.locks = false
def CGV (G : CG) : VT := G.2.2.2.2.2.2.2.2.2.2.2.2
def CGL (G : CG) : Launch := G.2.1
def CNm (G : CG) (n : String) : Prop := (G.2.2.2.2.2.2.2.2.1).name = n
def CHR (G : CG) (h : Nat) : Prop := match G with
  | (p, l, e, R, s, m, args, below, meth, c, Q, A, V) => h ≤ R.frames ∧ 64 * h ≤ R.locals
def QcC (V : VT) (W0 : va_W) (sz : Nat) (P : Option Value → va_W → Prop) : Array Value → State → Outcome → State → Prop := fun _ st o t => (∃ (v : Option Value) (W1 : va_W), o = .returned v ∧ P v W1 ∧ va_P V.2.1 vwCl W1 t.heap ∧ va_D (va_A W0 sz) W1) ∧ va_F (va_A W0 sz) st t
def PcC (V : VT) (W0 : va_W) (sz : Nat) (args : List Value) : Array Value → State → Prop := va_Pc args (fun U => U.heap.size = sz ∧ CEnv V (va_A W0 sz) U ∧ va_P V.2.1 vwCl W0 U.heap ∧ va_D (fun _ => True) W0)
def CMet (l : Launch) (y : MethodName) (w0 : Cond) (h mc ms : Nat) (V : VT) (args : List Value) (W0 : va_W) (P : Option Value → va_W → Prop) : Prop := ∀ sz : Nat, Met l y (w0 :: gW) (rmh h mc ms) (PcC V W0 sz args) (QcC V W0 sz P) mc ms (va_A W0 sz)
def CRt (G : CG) (ret : Option FieldType) (W0 : va_W) (P : Option Value → va_W → Prop) : Prop := match G with
  | (p, l, e, R, s, m, args, below, meth, c, Q, A, V) => Q = MQ below (QcC V W0 s.heap.size P) args s R.cells R.slots (va_A W0 s.heap.size) ∧ A = va_A W0 s.heap.size ∧ meth.sig.returnType = ret
theorem va_P_iff {D : va_G} {cl : List vw_C} {ws : va_W} {H : Heap} : va_P D cl ws H ↔ ∀ q ∈ ws, va_at D cl q H := ⟨fun h q hq => by obtain ⟨k, hk⟩ := List.getElem?_of_mem hq; exact h k q hk, fun h k q hk => h q (List.mem_of_getElem? hk)⟩
theorem va_D_iff {A : Nat → Prop} {ws : va_W} : va_D A ws ↔ (ws.map Prod.fst).Nodup ∧ ∀ q ∈ ws, A q.1 := by
  constructor
  · intro h
    refine ⟨?_, fun q hq => by obtain ⟨k, hk⟩ := List.getElem?_of_mem hq; exact h.2 k q hk⟩
    refine List.pairwise_iff_getElem.mpr fun i j hi hj hij e => ?_
    rw [List.length_map] at hi hj
    rw [List.getElem_map, List.getElem_map] at e
    have := h.1 i j _ _ (List.getElem?_eq_getElem hi) (List.getElem?_eq_getElem hj) e
    omega
  · intro h
    refine ⟨fun i j p q hi hj e => ?_, fun k q hk => h.2 q (List.mem_of_getElem? hk)⟩
    obtain ⟨li, ei⟩ := List.getElem?_eq_some_iff.mp hi
    obtain ⟨lj, ej⟩ := List.getElem?_eq_some_iff.mp hj
    have hN := List.pairwise_iff_getElem.mp h.1
    rcases Nat.lt_trichotomy i j with h1 | h1 | h1
    · exact absurd (by rw [List.getElem_map, List.getElem_map, ei, ej]; exact e) (hN i j (by rw [List.length_map]; exact li) (by rw [List.length_map]; exact lj) h1)
    · exact h1
    · exact absurd (by rw [List.getElem_map, List.getElem_map, ei, ej]; exact e.symm) (hN j i (by rw [List.length_map]; exact lj) (by rw [List.length_map]; exact li) h1)
theorem va_P.perm {D : va_G} {cl : List vw_C} {w w' : va_W} {H : Heap} (h : va_P D cl w H) (p : w.Perm w') : va_P D cl w' H := va_P_iff.mpr fun q hq => va_P_iff.mp h q (p.mem_iff.mpr hq)
theorem va_D.perm {A : Nat → Prop} {w w' : va_W} (h : va_D A w) (p : w.Perm w') : va_D A w' := by
  obtain ⟨h1, h2⟩ := va_D_iff.mp h
  exact va_D_iff.mpr ⟨(p.map Prod.fst).nodup_iff.mp h1, fun q hq => h2 q (p.mem_iff.mpr hq)⟩
theorem va_join2 {A0 : Nat → Prop} {D : va_G} {cl : List vw_C} {wc wr w1 : va_W} {H H1 : Heap} (hP : va_P D cl (wc ++ wr) H) (hD : va_D A0 (wc ++ wr)) (hk : ∀ q : Nat, q < H.size → ¬ va_A wc H.size q → H1[q]? = H[q]?) (hF : ∀ q, va_A wc H.size q → A0 q) (hP1 : va_P D cl w1 H1) (hD1 : va_D (va_A wc H.size) w1) : va_P D cl (w1 ++ wr) H1 ∧ va_D A0 (w1 ++ wr) := by
  have ap : ∀ q ∈ wr, q.1 < H.size ∧ ¬ va_A wc H.size q.1 := by
    intro q hq
    have hl := (va_P_iff.mp hP q (List.mem_append_right _ hq)).lt
    refine ⟨hl, fun z => ?_⟩
    rcases z with ⟨k, e, z⟩ | z
    · have hN := (va_D_iff.mp hD).1
      rw [List.map_append, List.nodup_append] at hN
      exact hN.2.2 q.1 (List.mem_map.mpr ⟨(q.1, e), List.mem_of_getElem? z, rfl⟩) q.1 (List.mem_map.mpr ⟨q, hq, rfl⟩) rfl
    · omega
  refine ⟨va_P_iff.mpr fun q hq => ?_, va_D_iff.mpr ⟨?_, fun q hq => ?_⟩⟩
  · rcases List.mem_append.mp hq with h | h
    · exact va_P_iff.mp hP1 q h
    · exact (va_P_iff.mp hP q (List.mem_append_right _ h)).kept (hk q.1 (ap q h).1 (ap q h).2)
  · have hN := (va_D_iff.mp hD).1
    rw [List.map_append, List.nodup_append] at hN ⊢
    refine ⟨(va_D_iff.mp hD1).1, hN.2.1, fun a ha b hb e => ?_⟩
    obtain ⟨q1, hq1, rfl⟩ := List.mem_map.mp ha
    obtain ⟨q2, hq2, rfl⟩ := List.mem_map.mp hb
    exact (ap q2 hq2).2 (e ▸ (va_D_iff.mp hD1).2 q1 hq1)
  · rcases List.mem_append.mp hq with h | h
    · exact hF _ ((va_D_iff.mp hD1).2 q h)
    · exact (va_D_iff.mp hD).2 q (List.mem_append_right _ h)
section CWr
variable {G : CG} {cc : ByteArray} {nL : Nat} {own : String} {rc rs pc : Nat} {ls : List (Option PV)} {st : List Value} {W9 : va_W}
theorem cw_perm {W' : va_W} (hp : W9.Perm W') (k : CW G rc rs pc ls st W') : CW G rc rs pc ls st W9 := by
  obtain ⟨p, l, e, R, s, m, args, below, meth, c, Q, A, V⟩ := G
  intro H locs cells slots lsM hP hD hS hl h1 h2
  exact k H locs cells slots lsM (hP.perm hp) (hD.perm hp) hS hl h1 h2
theorem cw_goto {off : Int} {tgt : Nat} (C : CC G cc nL own) (d : decode cc pc = .ok (.goto off, 3)) (ht : (pc : Int) + off = (tgt : Int)) (k : CW G rc rs tgt ls st W9) : CW G rc rs pc ls st W9 := by
  obtain ⟨p, l, e, R, s, m, args, below, meth, c, Q, A, V⟩ := G
  intro H locs cells slots lsM hP hD hS hl h1 h2
  exact lv_goto C.1 C.2.1 d ht (k H locs cells slots lsM hP hD hS hl h1 h2)
theorem cw_iconst {n : Int} {v : Int32} (C : CC G cc nL own) (d : decode cc pc = .ok (.iconst n, 1)) (hv : Int32.ofInt n = v) (k : CW G rc rs (pc + 1) ls (.int v :: st) W9) : CW G rc rs pc ls st W9 := by
  obtain ⟨p, l, e, R, s, m, args, below, meth, c, Q, A, V⟩ := G
  intro H locs cells slots lsM hP hD hS hl h1 h2
  exact lv_iconst C.1 C.2.1 d hv (k H locs cells slots lsM hP hD hS hl h1 h2)
theorem cw_bipush {n : Int} {v : Int32} (C : CC G cc nL own) (d : decode cc pc = .ok (.bipush n, 2)) (hv : (Int8.ofInt n).toInt32 = v) (k : CW G rc rs (pc + 2) ls (.int v :: st) W9) : CW G rc rs pc ls st W9 := by
  obtain ⟨p, l, e, R, s, m, args, below, meth, c, Q, A, V⟩ := G
  intro H locs cells slots lsM hP hD hS hl h1 h2
  exact lv_bipush C.1 C.2.1 d hv (k H locs cells slots lsM hP hD hS hl h1 h2)
theorem cw_sipush {n : Int} {v : Int32} (C : CC G cc nL own) (d : decode cc pc = .ok (.sipush n, 3)) (hv : (Int16.ofInt n).toInt32 = v) (k : CW G rc rs (pc + 3) ls (.int v :: st) W9) : CW G rc rs pc ls st W9 := by
  obtain ⟨p, l, e, R, s, m, args, below, meth, c, Q, A, V⟩ := G
  intro H locs cells slots lsM hP hD hS hl h1 h2
  exact lv_sipush C.1 C.2.1 d hv (k H locs cells slots lsM hP hD hS hl h1 h2)
theorem cw_iload_n {n : Fin 4} {i : Nat} {x : Int32} (C : CC G cc nL own) (d : decode cc pc = .ok (.iload_n n, 1)) (hi : (n : Nat) = i) (h : ls[i]? = some (some (pI x))) (k : CW G rc rs (pc + 1) ls (.int x :: st) W9) : CW G rc rs pc ls st W9 := by
  obtain ⟨p, l, e, R, s, m, args, below, meth, c, Q, A, V⟩ := G
  intro H locs cells slots lsM hP hD hS hl h1 h2
  exact lv_iload_n C.1 C.2.1 d hi (asc_at hl h) (k H locs cells slots lsM hP hD hS hl h1 h2)
theorem cw_iload {i : Nat} {x : Int32} (C : CC G cc nL own) (d : decode cc pc = .ok (.iload i, 2)) (h : ls[i]? = some (some (pI x))) (k : CW G rc rs (pc + 2) ls (.int x :: st) W9) : CW G rc rs pc ls st W9 := by
  obtain ⟨p, l, e, R, s, m, args, below, meth, c, Q, A, V⟩ := G
  intro H locs cells slots lsM hP hD hS hl h1 h2
  exact lv_iload C.1 C.2.1 d (asc_at hl h) (k H locs cells slots lsM hP hD hS hl h1 h2)
theorem cw_aload_n {n : Fin 4} {i a : Nat} (C : CC G cc nL own) (d : decode cc pc = .ok (.aload_n n, 1)) (hi : (n : Nat) = i) (h : ls[i]? = some (some (pW (.ref a)))) (k : CW G rc rs (pc + 1) ls (.ref a :: st) W9) : CW G rc rs pc ls st W9 := by
  obtain ⟨p, l, e, R, s, m, args, below, meth, c, Q, A, V⟩ := G
  intro H locs cells slots lsM hP hD hS hl h1 h2
  exact lv_aload_n C.1 C.2.1 d hi (asc_at hl h) (k H locs cells slots lsM hP hD hS hl h1 h2)
theorem cw_aload {i a : Nat} (C : CC G cc nL own) (d : decode cc pc = .ok (.aload i, 2)) (h : ls[i]? = some (some (pW (.ref a)))) (k : CW G rc rs (pc + 2) ls (.ref a :: st) W9) : CW G rc rs pc ls st W9 := by
  obtain ⟨p, l, e, R, s, m, args, below, meth, c, Q, A, V⟩ := G
  intro H locs cells slots lsM hP hD hS hl h1 h2
  exact lv_aload C.1 C.2.1 d (asc_at hl h) (k H locs cells slots lsM hP hD hS hl h1 h2)
theorem cw_istore_n {n : Fin 4} {i : Nat} {x : Int32} (C : CC G cc nL own) (d : decode cc pc = .ok (.istore_n n, 1)) (hi : (n : Nat) = i) (hn : i < nL) (hc : c1b ls i = true) (k : CW G rc rs (pc + 1) (ls.set i (some (pI x))) st W9) : CW G rc rs pc ls (.int x :: st) W9 := by
  obtain ⟨p, l, e, R, s, m, args, below, meth, c, Q, A, V⟩ := G
  intro H locs cells slots lsM hP hD hS hl h1 h2
  exact lv_istore_n C.1 C.2.1 d hi hl (by rw [C.2.2.1]; exact hn) rfl fun ls' hl' => k H locs cells slots ls' hP hD hS ⟨hl'.1, hl'.2.1, fun q hq => hl'.2.2 q (asc_set (x := pI x) hc q hq)⟩ h1 h2
theorem cw_istore {i : Nat} {x : Int32} (C : CC G cc nL own) (d : decode cc pc = .ok (.istore i, 2)) (hn : i < nL) (hc : c1b ls i = true) (k : CW G rc rs (pc + 2) (ls.set i (some (pI x))) st W9) : CW G rc rs pc ls (.int x :: st) W9 := by
  obtain ⟨p, l, e, R, s, m, args, below, meth, c, Q, A, V⟩ := G
  intro H locs cells slots lsM hP hD hS hl h1 h2
  exact lv_istore C.1 C.2.1 d hl (by rw [C.2.2.1]; exact hn) rfl fun ls' hl' => k H locs cells slots ls' hP hD hS ⟨hl'.1, hl'.2.1, fun q hq => hl'.2.2 q (asc_set (x := pI x) hc q hq)⟩ h1 h2
theorem cw_astore_n {n : Fin 4} {i a : Nat} (C : CC G cc nL own) (d : decode cc pc = .ok (.astore_n n, 1)) (hi : (n : Nat) = i) (hn : i < nL) (hc : c1b ls i = true) (k : CW G rc rs (pc + 1) (ls.set i (some (pW (.ref a)))) st W9) : CW G rc rs pc ls (.ref a :: st) W9 := by
  obtain ⟨p, l, e, R, s, m, args, below, meth, c, Q, A, V⟩ := G
  intro H locs cells slots lsM hP hD hS hl h1 h2
  exact lv_astore_n C.1 C.2.1 d hi hl (by rw [C.2.2.1]; exact hn) rfl fun ls' hl' => k H locs cells slots ls' hP hD hS ⟨hl'.1, hl'.2.1, fun r hr => hl'.2.2 r (asc_set (x := pW (.ref a)) hc r hr)⟩ h1 h2
theorem cw_astore {i a : Nat} (C : CC G cc nL own) (d : decode cc pc = .ok (.astore i, 2)) (hn : i < nL) (hc : c1b ls i = true) (k : CW G rc rs (pc + 2) (ls.set i (some (pW (.ref a)))) st W9) : CW G rc rs pc ls (.ref a :: st) W9 := by
  obtain ⟨p, l, e, R, s, m, args, below, meth, c, Q, A, V⟩ := G
  intro H locs cells slots lsM hP hD hS hl h1 h2
  exact lv_astore C.1 C.2.1 d hl (by rw [C.2.2.1]; exact hn) rfl fun ls' hl' => k H locs cells slots ls' hP hD hS ⟨hl'.1, hl'.2.1, fun r hr => hl'.2.2 r (asc_set (x := pW (.ref a)) hc r hr)⟩ h1 h2
theorem cw_iinc {i : Nat} {n : Int} {x v : Int32} (C : CC G cc nL own) (d : decode cc pc = .ok (.iinc i n, 3)) (h : ls[i]? = some (some (pI x))) (hv : x + Int32.ofInt n = v) (hn : i < nL) (hc : c1b ls i = true) (k : CW G rc rs (pc + 3) (ls.set i (some (pI v))) st W9) : CW G rc rs pc ls st W9 := by
  subst hv
  obtain ⟨p, l, e, R, s, m, args, below, meth, c, Q, A, V⟩ := G
  intro H locs cells slots lsM hP hD hS hl h1 h2
  have hm := asc_mem (ad := V.1) (i0 := 0) h
  rw [Nat.zero_add] at hm
  obtain ⟨n9, hn9⟩ := List.getElem?_of_mem hm
  exact lv_iinc C.1 C.2.1 d hl hn9 rfl (by rw [C.2.2.1]; exact hn) rfl fun ls' hl' => k H locs cells slots ls' hP hD hS ⟨hl'.1, hl'.2.1, fun q hq => hl'.2.2 q (asc_set (x := pI _) hc q hq)⟩ h1 h2
theorem cw_iadd {x y : Int32} (C : CC G cc nL own) (d : decode cc pc = .ok (.iadd, 1)) (k : CW G rc rs (pc + 1) ls (.int (x + y) :: st) W9) : CW G rc rs pc ls (.int y :: .int x :: st) W9 := by
  obtain ⟨p, l, e, R, s, m, args, below, meth, c, Q, A, V⟩ := G
  intro H locs cells slots lsM hP hD hS hl h1 h2
  exact lv_iadd C.1 C.2.1 d (k H locs cells slots lsM hP hD hS hl h1 h2)
theorem cw_isub {x y : Int32} (C : CC G cc nL own) (d : decode cc pc = .ok (.isub, 1)) (k : CW G rc rs (pc + 1) ls (.int (x - y) :: st) W9) : CW G rc rs pc ls (.int y :: .int x :: st) W9 := by
  obtain ⟨p, l, e, R, s, m, args, below, meth, c, Q, A, V⟩ := G
  intro H locs cells slots lsM hP hD hS hl h1 h2
  exact lv_isub C.1 C.2.1 d (k H locs cells slots lsM hP hD hS hl h1 h2)
theorem cw_imul {x y : Int32} (C : CC G cc nL own) (d : decode cc pc = .ok (.imul, 1)) (k : CW G rc rs (pc + 1) ls (.int (x * y) :: st) W9) : CW G rc rs pc ls (.int y :: .int x :: st) W9 := by
  obtain ⟨p, l, e, R, s, m, args, below, meth, c, Q, A, V⟩ := G
  intro H locs cells slots lsM hP hD hS hl h1 h2
  exact lv_imul C.1 C.2.1 d (k H locs cells slots lsM hP hD hS hl h1 h2)
theorem cw_idiv {x y : Int32} (C : CC G cc nL own) (d : decode cc pc = .ok (.idiv, 1)) (hne : ¬ y = 0) (k : CW G rc rs (pc + 1) ls (.int (x / y) :: st) W9) : CW G rc rs pc ls (.int y :: .int x :: st) W9 := by
  obtain ⟨p, l, e, R, s, m, args, below, meth, c, Q, A, V⟩ := G
  intro H locs cells slots lsM hP hD hS hl h1 h2
  exact lv_idiv C.1 C.2.1 d hne (k H locs cells slots lsM hP hD hS hl h1 h2)
theorem cw_ishl {x y : Int32} (C : CC G cc nL own) (d : decode cc pc = .ok (.ishl, 1)) (k : CW G rc rs (pc + 1) ls (.int (x <<< (y &&& 31)) :: st) W9) : CW G rc rs pc ls (.int y :: .int x :: st) W9 := by
  obtain ⟨p, l, e, R, s, m, args, below, meth, c, Q, A, V⟩ := G
  intro H locs cells slots lsM hP hD hS hl h1 h2
  exact lv_ishl C.1 C.2.1 d (k H locs cells slots lsM hP hD hS hl h1 h2)
theorem cw_ishr {x y : Int32} (C : CC G cc nL own) (d : decode cc pc = .ok (.ishr, 1)) (k : CW G rc rs (pc + 1) ls (.int (x >>> (y &&& 31)) :: st) W9) : CW G rc rs pc ls (.int y :: .int x :: st) W9 := by
  obtain ⟨p, l, e, R, s, m, args, below, meth, c, Q, A, V⟩ := G
  intro H locs cells slots lsM hP hD hS hl h1 h2
  exact lv_ishr C.1 C.2.1 d (k H locs cells slots lsM hP hD hS hl h1 h2)
theorem cw_iand {x y : Int32} (C : CC G cc nL own) (d : decode cc pc = .ok (.iand, 1)) (k : CW G rc rs (pc + 1) ls (.int (x &&& y) :: st) W9) : CW G rc rs pc ls (.int y :: .int x :: st) W9 := by
  obtain ⟨p, l, e, R, s, m, args, below, meth, c, Q, A, V⟩ := G
  intro H locs cells slots lsM hP hD hS hl h1 h2
  exact lv_iand C.1 C.2.1 d (k H locs cells slots lsM hP hD hS hl h1 h2)
theorem cw_ineg {x : Int32} (C : CC G cc nL own) (d : decode cc pc = .ok (.ineg, 1)) (k : CW G rc rs (pc + 1) ls (.int (-x) :: st) W9) : CW G rc rs pc ls (.int x :: st) W9 := by
  obtain ⟨p, l, e, R, s, m, args, below, meth, c, Q, A, V⟩ := G
  intro H locs cells slots lsM hP hD hS hl h1 h2
  exact lv_ineg C.1 C.2.1 d (k H locs cells slots lsM hP hD hS hl h1 h2)
theorem cw_i2b {x v : Int32} (C : CC G cc nL own) (d : decode cc pc = .ok (.i2b, 1)) (hv : x.toInt8.toInt32 = v) (k : CW G rc rs (pc + 1) ls (.int v :: st) W9) : CW G rc rs pc ls (.int x :: st) W9 := by
  obtain ⟨p, l, e, R, s, m, args, below, meth, c, Q, A, V⟩ := G
  intro H locs cells slots lsM hP hD hS hl h1 h2
  exact lv_i2b C.1 C.2.1 d hv (k H locs cells slots lsM hP hD hS hl h1 h2)
theorem cw_i2c {x v : Int32} (C : CC G cc nL own) (d : decode cc pc = .ok (.i2c, 1)) (hv : (x.toUInt32 % 65536).toInt32 = v) (k : CW G rc rs (pc + 1) ls (.int v :: st) W9) : CW G rc rs pc ls (.int x :: st) W9 := by
  obtain ⟨p, l, e, R, s, m, args, below, meth, c, Q, A, V⟩ := G
  intro H locs cells slots lsM hP hD hS hl h1 h2
  exact lv_i2c C.1 C.2.1 d hv (k H locs cells slots lsM hP hD hS hl h1 h2)
theorem cw_dup {v : Value} (C : CC G cc nL own) (d : decode cc pc = .ok (.dup, 1)) (hv : v.category = 1) (k : CW G rc rs (pc + 1) ls (v :: v :: st) W9) : CW G rc rs pc ls (v :: st) W9 := by
  obtain ⟨p, l, e, R, s, m, args, below, meth, c, Q, A, V⟩ := G
  intro H locs cells slots lsM hP hD hS hl h1 h2
  exact lv_dup C.1 C.2.1 d hv (k H locs cells slots lsM hP hD hS hl h1 h2)
theorem cw_dup_x1 {v w : Value} (C : CC G cc nL own) (d : decode cc pc = .ok (.dup_x1, 1)) (hv : v.category = 1) (hw : w.category = 1) (k : CW G rc rs (pc + 1) ls (v :: w :: v :: st) W9) : CW G rc rs pc ls (v :: w :: st) W9 := by
  obtain ⟨p, l, e, R, s, m, args, below, meth, c, Q, A, V⟩ := G
  intro H locs cells slots lsM hP hD hS hl h1 h2
  exact lv_dup_x1 C.1 C.2.1 d hv hw (k H locs cells slots lsM hP hD hS hl h1 h2)
theorem cw_pop {v : Value} (C : CC G cc nL own) (d : decode cc pc = .ok (.pop, 1)) (hv : v.category = 1) (k : CW G rc rs (pc + 1) ls st W9) : CW G rc rs pc ls (v :: st) W9 := by
  obtain ⟨p, l, e, R, s, m, args, below, meth, c, Q, A, V⟩ := G
  intro H locs cells slots lsM hP hD hS hl h1 h2
  exact lv_pop C.1 C.2.1 d hv (k H locs cells slots lsM hP hD hS hl h1 h2)
/-- Object.<init> -/
theorem cw_obj {i a : Nat} (C : CC G cc nL own) (hH : CHR G 1) (d : decode cc pc = .ok (.invokespecial i, 3)) (h1 : Cond.methodLink own i objectInit ∈ gW) (h2 : Cond.instanceMethod objectInit ∈ gW) (h3 : Cond.code objectInit ⟨#[0xb1]⟩ 1 none ∈ gW) (hst : st = []) (k : CW G rc rs (pc + 3) ls [] W9) : CW G rc rs pc ls (.ref a :: st) W9 := by
  obtain ⟨p, l, e, R, s, m, args, below, meth, c, Q, A, V⟩ := G
  subst hst
  intro H locs cells slots lsM hP hD hS hl h4 h5
  exact W.objInit C.1 C.2.1 C.2.2.2.1 (C.2.2.2.2.1 _ h1) (C.2.2.2.2.1 _ h2) (C.2.2.2.2.1 _ h3) rfl hl.1 rfl d hH.1 (by have := hH.2; show 0 + 0 + 12 ≤ R.locals; omega) (k H locs cells slots lsM hP hD hS hl h4 h5)
/-- what comes back with no answer -/
theorem cw_vret {W0 : va_W} {P : Option Value → va_W → Prop} (C : CC G cc nL own) (hR : CRt G none W0 P) (d : decode cc pc = .ok (.return_, 1)) (hst : st = []) (k : P none W9) : CW G rc rs pc ls st W9 := by
  obtain ⟨p, l, e, R, s, m, args, below, meth, c, Q, A, V⟩ := G
  subst hst
  intro H locs cells slots lsM hP hD hS hl h1 h2
  obtain ⟨hQ, hA, hr⟩ := hR
  rw [hQ]
  refine W.widen (k := R.cells) (n := R.slots) (by omega) (by omega) ?_
  exact W.vret C.1 C.2.1 hr (fun t ht hW => ⟨⟨none, W9, rfl, k, by rw [ht]; exact hP, by rw [← hA]; exact hD⟩, by rw [← hA]; exact hS.F ht⟩) (by rw [← hA]; exact hS.2.2) d C.2.2.2.2.2.2.2
theorem cw_iret {ty : FieldType} {v : Int32} {W0 : va_W} {P : Option Value → va_W → Prop} (C : CC G cc nL own) (hR : CRt G (some ty) W0 P) (d : decode cc pc = .ok (.ireturn, 1)) (hn : narrow ty (.int v) = .int v) (hst : st = [.int v]) (k : P (some (.int v)) W9) : CW G rc rs pc ls st W9 := by
  obtain ⟨p, l, e, R, s, m, args, below, meth, c, Q, A, V⟩ := G
  subst hst
  intro H locs cells slots lsM hP hD hS hl h1 h2
  obtain ⟨hQ, hA, hr⟩ := hR
  rw [hQ]
  refine W.widen (k := R.cells) (n := R.slots) (by omega) (by omega) ?_
  exact W.zret C.1 C.2.1 hr hn (fun t ht hW => ⟨⟨some (.int v), W9, rfl, k, by rw [ht]; exact hP, by rw [← hA]; exact hD⟩, by rw [← hA]; exact hS.F ht⟩) (by rw [← hA]; exact hS.2.2) d C.2.2.2.2.2.2.2
theorem cw_aret {ty : FieldType} {a : Nat} {W0 : va_W} {P : Option Value → va_W → Prop} (C : CC G cc nL own) (hR : CRt G (some ty) W0 P) (d : decode cc pc = .ok (.areturn, 1)) (hty : (∃ n, ty = .object n) ∨ ∃ t, ty = .array t) (hst : st = [.ref a]) (k : P (some (.ref a)) W9) : CW G rc rs pc ls st W9 := by
  obtain ⟨p, l, e, R, s, m, args, below, meth, c, Q, A, V⟩ := G
  subst hst
  intro H locs cells slots lsM hP hD hS hl h1 h2
  obtain ⟨hQ, hA, hr⟩ := hR
  rw [hQ]
  refine W.widen (k := R.cells) (n := R.slots) (by omega) (by omega) ?_
  exact W.aret C.1 C.2.1 hr hty (Or.inr ⟨a, rfl⟩) (fun t ht hW => ⟨⟨some (.ref a), W9, rfl, k, by rw [ht]; exact hP, by rw [← hA]; exact hD⟩, by rw [← hA]; exact hS.F ht⟩) (by rw [← hA]; exact hS.2.2) d C.2.2.2.2.2.2.2
/-- new -/
theorem cw_new {i ci N : Nat} {K : String} {T : u_T} {fs : List Value} {pre Wr : va_W} (C : CC G cc nL own) (d : decode cc pc = .ok (.new i, 3)) (hin : ∀ w ∈ u_ws K T N, w ∈ gW) (ty : Nat → FieldType) (hty : ∀ k, k < N → parseFieldDescriptor (T k).2.2.1 = some (ty k)) (h1 : Cond.classLink own i K ∈ gW) (h2 : Cond.instantiable K N ∈ gW) (h3 : Cond.initialized K ∈ gW) (hc : vwCl[ci]? = some (K, T, N)) (hfs : ∀ j, j < N → defaultValue (ty j) = vp_V fs j) (hw : W9 = pre ++ Wr)
    (k : ∀ q : Nat, CW G rc rs (pc + 3) ls (.ref q :: st) (pre ++ (q, .inr (ci, fs)) :: Wr)) : CW G (rc + 1) (rs + N) pc ls st W9 := by
  obtain ⟨p, l, e, R, s, m, args, below, meth, c, Q, A, V⟩ := G
  subst hw
  intro H locs cells slots lsM hP hD hS hl h4 h5
  refine va_new (ci := ci) (fs := fs) C.1 C.2.1 C.2.2.2.2.1 hin ty hty C.2.2.2.1 (C.2.2.2.2.1 _ h1) (C.2.2.2.2.1 _ h2) (C.2.2.2.2.1 _ h3) C.2.2.2.2.2.1.1 hP hD hS C.2.2.2.2.2.2.1 hc hfs (by omega) (by omega) d (fun q H1 hP hD hS => ?_)
  have pm : ((pre ++ Wr) ++ [(q, Sum.inr (ci, fs))]).Perm (pre ++ (q, Sum.inr (ci, fs)) :: Wr) := by
    rw [List.append_assoc]
    exact List.Perm.append_left _ List.perm_append_comm
  exact k q H1 locs (cells + 1) (slots + N) lsM (hP.perm pm) (hD.perm pm) hS hl (by omega) (by omega)
/-- newarray of a primitive type -/
theorem cw_newa {atype : ArrayType} {a N : Nat} {n : Int32} {a0 : vp_A} {pre Wr : va_W} (C : CC G cc nL own) (d : decode cc pc = .ok (.newarray atype, 2)) (harr : Cond.arrayClass (newarray.typeOf atype) ∈ gW) (ha8 : a < 8) (hty : newarray.typeOf atype = aty a) (ha : ∀ cA : ClassId, vp_cell cA a0 = arrV cA N (fun _ => defaultValue (aty a))) (hn : ¬ n < 0) (hN : n.toNatClampNeg = N) (hb : N * componentBytes (aty a) ≤ 536870912) (hw : W9 = pre ++ Wr)
    (k : ∀ q : Nat, CW G rc rs (pc + 2) ls (.ref q :: st) (pre ++ (q, .inl ((CGV G).2.2 a, a0)) :: Wr)) : CW G (rc + 1) (rs + N) pc ls (.int n :: st) W9 := by
  obtain ⟨p, l, e, R, s, m, args, below, meth, c, Q, A, V⟩ := G
  subst hw
  intro H locs cells slots lsM hP hD hS hl h4 h5
  refine va_newa (atype := atype) C.1 C.2.1 (C.2.2.2.2.1 _ harr) hty C.2.2.2.2.2.1.1 hP hD hS C.2.2.2.2.2.2.1 ha hn hN hb (by omega) (by omega) d (fun q cA H1 hK hP hD hS => ?_)
  have e1 := (hK.2 (tyL V).length (cA, aty a) (by simp)).2
  have e2 := (C.2.2.2.2.2.1.1.2 a _ (tyL_at V ha8)).2
  have ec : cA = V.2.2 a := by
    rw [← hty] at e1 e2
    cases atype <;> exact Option.some.inj (Eq.trans (Eq.symm e1) e2)
  subst ec
  have pm : ((pre ++ Wr) ++ [(q, Sum.inl (V.2.2 a, a0))]).Perm (pre ++ (q, Sum.inl (V.2.2 a, a0)) :: Wr) := by
    rw [List.append_assoc]
    exact List.Perm.append_left _ List.perm_append_comm
  exact k q H1 locs (cells + 1) (slots + N) lsM (hP.perm pm) (hD.perm pm) hS hl (by omega) (by omega)
/-- putfield of the cell at place j -/
theorem cw_put {i ci N j f a : Nat} {ref K : String} {T : u_T} {fs : List Value} {v : Value} {ty : FieldType} (C : CC G cc nL own) (d : decode cc pc = .ok (.putfield i, 3)) (hin : ∀ w ∈ u_ws K T N, w ∈ gW) (ty0 : Nat → FieldType) (hty : ∀ k, k < N → parseFieldDescriptor (T k).2.2.1 = some (ty0 k)) (hnm : ∀ a, a < N → ∀ b, b < N → a ≠ b → (T a).2.1 ≠ (T b).2.1) (he : W9[j]? = some (a, .inr (ci, fs))) (hc : vwCl[ci]? = some (K, T, N)) (hk : f < N) (hlink : Cond.fieldLink own i ref (T f).2.1 (T f).2.2.1 ∈ gW) (hsame : (T f).1 = ref ∨ Cond.sameField ref (T f).1 (T f).2.1 (T f).2.2.1 ∈ gW) (hfin : (T f).2.2.2 = false ∨ ((T f).2.2.2 = true ∧ CNm G "<init>" ∧ (T f).1 = own)) (hd : parseFieldDescriptor (T f).2.2.1 = some ty) (hn : narrow ty v = v) (hfit : fits ty v = true) (hl : f < fs.length)
    (k : CW G rc rs (pc + 3) ls st (W9.set j (a, .inr (ci, fs.set f v)))) : CW G rc rs pc ls (v :: .ref a :: st) W9 := by
  obtain ⟨p, l, e, R, s, m, args, below, meth, c, Q, A, V⟩ := G
  intro H locs cells slots lsM hP hD hS hl9 h4 h5
  have hs : ∀ x, s.fieldFound? (T f).1 (T f).2.1 (T f).2.2.1 = some x → s.fieldFound? ref (T f).2.1 (T f).2.2.1 = some x := by
    rcases hsame with h | h
    · rw [h]; exact fun x h => h
    · exact fun x h9 => u_same (C.2.2.2.2.1 _ h) x h9
  rcases hfin with h | ⟨h, h', h''⟩
  · exact va_put C.1 C.2.1 C.2.2.2.2.1 hin ty0 hty hnm C.2.2.2.1 C.2.2.2.2.2.1.1 hP hD hS j he hc f hk (C.2.2.2.2.1 _ hlink) hs h hd hn hfit hl d (fun H1 locs1 hP hD hS => k H1 locs1 cells slots lsM hP hD hS hl9 h4 h5)
  · exact va_putF C.1 C.2.1 C.2.2.2.2.1 hin ty0 hty hnm C.2.2.2.1 C.2.2.2.2.2.1.1 hP hD hS j he hc f hk (C.2.2.2.2.1 _ hlink) hs h h' h'' hd hn hfit hl d (fun H1 locs1 hP hD hS => k H1 locs1 cells slots lsM hP hD hS hl9 h4 h5)
theorem cw_get {i ci N j f a : Nat} {ref K : String} {T : u_T} {fs : List Value} {v : Value} (C : CC G cc nL own) (d : decode cc pc = .ok (.getfield i, 3)) (hin : ∀ w ∈ u_ws K T N, w ∈ gW) (he : W9[j]? = some (a, .inr (ci, fs))) (hc : vwCl[ci]? = some (K, T, N)) (hk : f < N) (hlink : Cond.fieldLink own i ref (T f).2.1 (T f).2.2.1 ∈ gW) (hsame : (T f).1 = ref ∨ Cond.sameField ref (T f).1 (T f).2.1 (T f).2.2.1 ∈ gW) (hv : fs[f]? = some v)
    (k : CW G rc rs (pc + 3) ls (v :: st) W9) : CW G rc rs pc ls (.ref a :: st) W9 := by
  obtain ⟨p, l, e, R, s, m, args, below, meth, c, Q, A, V⟩ := G
  intro H locs cells slots lsM hP hD hS hl9 h4 h5
  have hs : ∀ x, s.fieldFound? (T f).1 (T f).2.1 (T f).2.2.1 = some x → s.fieldFound? ref (T f).2.1 (T f).2.2.1 = some x := by
    rcases hsame with h | h
    · rw [h]; exact fun x h => h
    · exact fun x h9 => u_same (C.2.2.2.2.1 _ h) x h9
  exact va_get C.1 C.2.1 C.2.2.2.2.1 hin C.2.2.2.1 C.2.2.2.2.2.1.1 hP j he hc f hk (C.2.2.2.2.1 _ hlink) hs hv d (k H locs cells slots lsM hP hD hS hl9 h4 h5)
end CWr
