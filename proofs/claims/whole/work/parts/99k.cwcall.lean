-- multianewarray of two dimensions of ints; calls
/-- what an outer row holds when i inner rows stand -/
def mO (h i : Nat) : Nat → Value := fun j => if j < i then .ref (h + 1 + j) else .null
theorem mO_succ (h i : Nat) : updV (mO h i) i (.ref (h + 1 + i)) = mO h (i + 1) := by
  funext j
  unfold updV mO
  by_cases hj : j = i
  · subst hj
    simp
  · by_cases h2 : j < i
    · simp [hj, h2, show j < i + 1 by omega]
    · simp [hj, h2, show ¬ j < i + 1 by omega]
def mS (cA comp : ClassId) (N M : Nat) (T : State) : Nat → State
  | 0 => T.pushCell (arrV cA N (fun _ => .null))
  | i + 1 => ((mS cA comp N M T i).pushCell (arrV comp M (fun _ => .int 0))).setCell T.heap.size (arrV cA N (mO T.heap.size (i + 1)))
def mI (h N M : Nat) (cA comp : ClassId) (T S : State) (i : Nat) : Prop := S.heap.size = h + 1 + i ∧ S.vm = T.vm ∧ S.heap[h]? = some (arrV cA N (mO h i)) ∧ (∀ j, j < i → S.heap[h + 1 + j]? = some (arrV comp M (fun _ => .int 0))) ∧ ∀ a, a < h → S.heap[a]? = T.heap[a]?
theorem mS_I (cA comp : ClassId) (N M : Nat) (T : State) : ∀ i, mI T.heap.size N M cA comp T (mS cA comp N M T i) i
  | 0 => ⟨by simp [mS], rfl, by show (T.pushCell _).heap[T.heap.size]? = _; rw [State.heap_pushCell_size]; rfl, fun j hj => absurd hj (Nat.not_lt_zero _), fun a ha => State.heap_pushCell_of_lt _ _ ha⟩
  | i + 1 => by
    obtain ⟨i1, i2, i3, i4, i5⟩ := mS_I cA comp N M T i
    have hcell : ((mS cA comp N M T i).pushCell (arrV comp M (fun _ => .int 0))).heap[T.heap.size]? = some (arrV cA N (mO T.heap.size i)) := by
      rw [State.heap_pushCell_of_lt (h := (show T.heap.size < (mS cA comp N M T i).heap.size by rw [i1]; omega))]; exact i3
    refine ⟨?_, i2, State.heap_setCell_self hcell, fun j hj => ?_, fun a ha => ?_⟩
    · show (((mS cA comp N M T i).pushCell _).setCell _ _).heap.size = _
      simp [State.setCell, i1]
      omega
    · show (((mS cA comp N M T i).pushCell _).setCell _ _).heap[_]? = _
      rw [State.heap_setCell_other (show T.heap.size ≠ T.heap.size + 1 + j by omega)]
      by_cases h2 : j < i
      · rw [State.heap_pushCell_of_lt (h := (show T.heap.size + 1 + j < (mS cA comp N M T i).heap.size by rw [i1]; omega))]
        exact i4 j h2
      · rw [show T.heap.size + 1 + j = (mS cA comp N M T i).heap.size by omega]
        exact State.heap_pushCell_size _ _
    · show (((mS cA comp N M T i).pushCell _).setCell _ _).heap[_]? = _
      rw [State.heap_setCell_other (show T.heap.size ≠ a by omega), State.heap_pushCell_of_lt (h := (show a < (mS cA comp N M T i).heap.size by rw [i1]; omega))]
      exact i5 a ha
section MU
variable {p : Program} {l : Launch} {e : Env} {R : Room} {s : State} {m : MethodId} {args : Array Value} {below : List Frame} {meth : Method} {c : Code} {T : State} {locs : List Loc} {cells slots : Nat}
theorem mS_stand (cA comp : ClassId) (N M : Nat) (X : Stand p l e R s m args below meth c T locs cells slots) : ∀ i, ∃ L : List Loc, Stand p l e R s m args below meth c (mS cA comp N M T i) (locs ++ L) (cells + 1 + i) (slots + N + i * M) ∧ ∀ q ∈ L, q.base = T.heap.size
  | 0 => by
    have h := X.pushed (arrV cA N (fun _ => .null))
    rw [arrV_size] at h
    refine ⟨[], ?_, fun q hq => (by cases hq)⟩
    rw [List.append_nil, Nat.zero_mul]
    exact h
  | i + 1 => by
    obtain ⟨L, XS, hL⟩ := mS_stand cA comp N M X i
    obtain ⟨i1, i2, i3, i4, i5⟩ := mS_I cA comp N M T i
    have hcell : ((mS cA comp N M T i).pushCell (arrV comp M (fun _ => .int 0))).heap[T.heap.size]? = some (arrV cA N (mO T.heap.size i)) := by
      rw [State.heap_pushCell_of_lt (h := (show T.heap.size < (mS cA comp N M T i).heap.size by rw [i1]; omega))]; exact i3
    have h := (XS.pushed (arrV comp M (fun _ => .int 0))).stored hcell i (.ref (T.heap.size + 1 + i))
    rw [arrV_size, arrV_store, mO_succ] at h
    refine ⟨L ++ [⟨T.heap.size, i⟩], ?_, fun q hq => ?_⟩
    · rw [← List.append_assoc, Nat.succ_mul, ← Nat.add_assoc, ← Nat.add_assoc]
      exact h
    · rcases List.mem_append.mp hq with h | h
      · exact hL q h
      · obtain rfl := List.mem_singleton.mp h
        rfl
theorem mu_row {E : CtlPost} {d : Bool} {acts : List Action} {U : State} {comp cc : ClassId} {kc : Class} {M : Nat} {Q : Addr → Pre} (hM : M < 2 ^ 31) (hkc : U.vm.classes[comp]? = some kc) (hkind : kc.kind = .array cc .int) (hl : ¬ M > e.platform.arrayLengthLimit) (hh : ¬ M * 4 > e.platform.maxHeapBytes) (h1 : U.heap.size < e.platform.maxCells) (h2 : U.slotsUsed + M ≤ e.platform.maxSlots)
    (hq : ∀ acts', Q U.heap.size d acts' (U.pushCell (arrV comp M (fun _ => .int 0)))) : wp (multianewarray.make comp [nI M]) Q E e d acts U := by
  have hn : ¬ nI M < 0 := nI_pos hM
  have hc : (nI M).toNatClampNeg = M := nI_clamp hM
  rw [multianewarray.make]
  simp only [wp_bind', W.ite, hn, if_false, wp_pure', W.theClass, hkc, hkind, Option.some.injEq, exists_eq_left']
  rw [hc]
  refine W.newArray_of hkc hkind hl hh h1 h2 rfl (fun acts' => ?_)
  have := hq acts'
  rw [← arrV_new] at this
  exact this
theorem mu_make {E : CtlPost} {d : Bool} {acts : List Action} {g : JFrame} {cA comp cc : ClassId} {kA kc : Class} {N M : Nat} {Q : Addr → Pre} (X : Stand p l e R s m args below meth c T locs cells slots) (hN : N < 2 ^ 20) (hM : M < 2 ^ 20) (hkA : T.vm.classes[cA]? = some kA) (hkindA : kA.kind = .array comp (.array .int)) (hkc : T.vm.classes[comp]? = some kc) (hkind : kc.kind = .array cc .int) (hcl : cells + 1 + N ≤ R.cells) (hsl : slots + N + N * M ≤ R.slots)
    (hq : ∀ (d' : Bool) (acts' : List Action), Q T.heap.size d' acts' ((mS cA comp N M T N).setTop g)) : wp (multianewarray.make cA [nI N, nI M]) Q E e d acts (T.setTop g) := by
  have hn : ¬ nI N < 0 := nI_pos (by omega)
  have hm : ¬ nI M < 0 := nI_pos (by omega)
  have hcN : (nI N).toNatClampNeg = N := nI_clamp (by omega)
  have hlim : ∀ K : Nat, K < 2 ^ 20 → ¬ K > e.platform.arrayLengthLimit := fun K hK => by rw [Launch.admits_arrayLengthLimit X.admits]; omega
  have hheap : ∀ K : Nat, K < 2 ^ 20 → ¬ K * 4 > e.platform.maxHeapBytes := fun K hK => by rw [Launch.admits_maxHeapBytes X.admits]; omega
  have hfind : ([nI M].find? (· < 0)) = none := by simp [hm]
  obtain ⟨r1, r2⟩ := X.roomAbove (show cells + 1 ≤ R.cells by omega) (show slots + N ≤ R.slots by omega)
  rw [multianewarray.make]
  simp only [wp_bind', W.ite, hn, if_false, wp_pure', W.theClass, State.vm_setTop, hkA, hkindA, Option.some.injEq, exists_eq_left']
  rw [hcN]
  refine W.newArray_of (k := kA) (comp := comp) (type := .array .int) hkA hkindA (hlim N hN) (hheap N hN) (by rw [State.heap_setTop]; omega) (by rw [State.slotsUsed_setTop]; omega) rfl (fun acts1 => ?_)
  simp only [hfind]
  rw [ite_self, wp_bind', Std.Legacy.Range.forIn_eq_forIn_range']
  rw [show ([:N] : Std.Legacy.Range).size = N by simp [Std.Legacy.Range.size]]
  show wp (forIn (List.range' 0 N 1) PUnit.unit _) _ E e d acts1 _
  rw [State.heap_setTop, State.pushCell_setTop]
  refine wp_forIn_inv (fun rest U => ∃ i : Nat, i ≤ N ∧ rest = List.range' i (N - i) ∧ U = (mS cA comp N M T i).setTop g) _ _ ?_ ?_ ?_
  · refine ⟨0, Nat.zero_le _, rfl, ?_⟩
    show _ = (T.pushCell (arrV cA N (fun _ => .null))).setTop g
    rw [← arrV_new]
  · rintro x rest U d' acts' Q' ⟨i, hi, hl, rfl⟩ hnext
    have hlt : i < N := by
      rcases Nat.lt_or_ge i N with h | h
      · exact h
      · rw [show N - i = 0 by omega] at hl
        simp at hl
    rw [show N - i = (N - (i + 1)) + 1 by omega, List.range'_succ] at hl
    obtain ⟨rfl, rfl⟩ := List.cons.inj hl
    obtain ⟨i1, i2, i3, i4, i5⟩ := mS_I cA comp N M T x
    obtain ⟨L, XS, -⟩ := mS_stand cA comp N M X x
    have hmul : x * M + M ≤ N * M := by
      have := Nat.mul_le_mul_right M (show x + 1 ≤ N from hlt)
      rwa [Nat.succ_mul] at this
    obtain ⟨q1, q2⟩ := XS.roomAbove (show cells + 1 + x + 1 ≤ R.cells by omega) (show slots + N + x * M + M ≤ R.slots by omega)
    simp only [wp_bind']
    refine mu_row (kc := kc) (cc := cc) (by omega) (by rw [State.vm_setTop, i2]; exact hkc) hkind (hlim M hM) (hheap M hM) (by rw [State.heap_setTop]; omega) (by rw [State.slotsUsed_setTop]; omega) (fun acts2 => ?_)
    rw [State.heap_setTop, State.pushCell_setTop]
    have hcell : ((mS cA comp N M T x).pushCell (arrV comp M (fun _ => .int 0))).heap[T.heap.size]? = some (arrV cA N (mO T.heap.size x)) := by
      rw [State.heap_pushCell_of_lt (h := (show T.heap.size < (mS cA comp N M T x).heap.size by rw [i1]; omega))]; exact i3
    simp only [wp_bind', W.writeLoc, wp_pure', State.heap_setTop]
    refine ⟨_, hcell, (fun z => by cases z), by rw [arrV_size]; exact hlt, ?_, hnext _ _ _ ⟨x + 1, hlt, rfl, ?_⟩⟩
    · show State.fitsSlot _ cA .none x _ = true
      simp [State.fitsSlot, State.slotType?, i2, hkA, hkindA, fits]
    · rw [State.setCell_setTop, arrV_store, i1, mO_succ]
      rfl
  · rintro U d' acts' ⟨i, hi, hl, rfl⟩
    have hiN : i = N := by
      rcases Nat.lt_or_ge i N with h | h
      · rw [show N - i = (N - (i + 1)) + 1 by omega, List.range'_succ] at hl
        cases hl
      · omega
    subst hiN
    simp only [wp_pure']
    exact hq _ _
theorem mu_W {Q : State → Prop} {H : Heap} {cc : ByteArray} {own : String} {i N M : Nat} {cA comp ccI : ClassId} {kA kc : Class} {g : JFrame} {rest : List Value} (hexec : p.tables.exec = Jvm.exec) (hb : c.code = cc) (hown : s.vm.findClass own = some m.cls) (hcl0 : (Cond.classLink own i "[[I").before args s = true) (hf : s.vm.findClass "[[I" = some cA) (hkA : s.vm.classes[cA]? = some kA) (hkindA : kA.kind = .array comp (.array .int)) (hkc : s.vm.classes[comp]? = some kc) (hkind : kc.kind = .array ccI .int) (hg : g.method = m) (hdg : decode cc g.pc = .ok (.multianewarray i 2, 4)) (hstack : g.stack = .int (nI M) :: .int (nI N) :: rest) (hN : N < 2 ^ 20) (hM : M < 2 ^ 20) (hcl : cells + 1 + N ≤ R.cells) (hsl : slots + N + N * M ≤ R.slots)
    (kk : ∀ (H' : Heap) (L : List Loc), H'.size = H.size + 1 + N → H'[H.size]? = some (arrV cA N (mO H.size N)) → (∀ j, j < N → H'[H.size + 1 + j]? = some (arrV comp M (fun _ => .int 0))) → (∀ a, a < H.size → H'[a]? = H[a]?) → (∀ q ∈ L, q.base = H.size) → W p l e R s m args below meth c H' (locs ++ L) (cells + 1 + N) (slots + N + N * M) Q { g with pc := g.pc + 4, stack := .ref H.size :: rest }) : W p l e R s m args below meth c H locs cells slots Q g := by
  intro T hT X
  subst hT
  subst hg
  subst hb
  have hpl : e.platform.magicAccessors = ({} : Platform).magicAccessors := by rw [X.admits.platform]
  obtain ⟨c0, hfc0, hcl9⟩ := Cond.classLink_spec hown hcl0 e.platform hpl
  cases hf.symm.trans hfc0
  obtain ⟨hg1, hwarm, -⟩ := State.classEntry (e := e) X.warmed hcl9
  generalize T.vm.noted g.method.cls i (.cls cA) = vm1 at hg1 hwarm
  have hal : s.vm.Alike vm1 := hwarm.alike
  obtain ⟨kA1, hkA1, heA⟩ := hal.2.2 _ _ hkA
  obtain ⟨kc1, hkc1, hec⟩ := hal.2.2 _ _ hkc
  have X1 := X.noted hwarm
  obtain ⟨L, XS, hL⟩ := mS_stand cA comp N M X1 N
  obtain ⟨i1, i2, i3, i4, i5⟩ := mS_I cA comp N M (T.setVm vm1) N
  obtain ⟨t, a1, b1⟩ := kk _ L i1 i3 i4 i5 hL _ rfl XS
  refine ⟨t, ?_, b1⟩
  jvm_step X.here [hexec, hdg]
  simp only [multianewarray.sem, wp_bind', W.resolveClassAt_links (State.method?_setTop g X.here.top) hg1]
  rw [W.popN, if_neg (by decide)]
  refine ⟨g, State.topJava?_setTop' (s := T.setVm vm1) g X.here.top, [.int (nI N), .int (nI M)], rest, rfl, hstack, ?_⟩
  simp only [List.mapM_cons, List.mapM_nil, wp_bind', wp_pure']
  have eS : ((T.setTop g).setVm vm1).setTop { g with stack := rest } = (T.setVm vm1).setTop { g with stack := rest } := by
    show ((T.setVm vm1).setTop g).setTop _ = _
    rw [State.setTop_setTop]
  rw [eS]
  refine mu_make X1 hN hM (kA := kA1) (kc := kc1) (cc := ccI) hkA1 (by rw [heA]; exact hkindA) hkc1 (by rw [hec]; exact hkind) hcl hsl (fun d' acts' => ?_)
  simp only [wp_bind', W.mark, W.pushRef, State.topJava?_setTop' _ XS.here.top, Option.some.injEq, exists_eq_left', State.setTop_setTop, State.heap_setTop]
  intro acts
  simp [jvm, XS.here.top]
  exact a1
end MU
section CWk
variable {G : CG} {cc : ByteArray} {nL : Nat} {own : String} {rc rs pc : Nat} {ls : List (Option PV)} {st : List Value} {W9 : va_W}
/-- a row of rows of ints -/
def mW (V : VT) (N M q : Nat) : va_W := (q, .inl (V.2.2 5, N, .inr (.inr (.inr (.inr (fun i => some (q + 1 + i))))))) :: (List.range N).map fun j => (q + 1 + j, .inl (V.2.2 2, M, .inl fun _ => 0))
theorem arrV_eq {cA : ClassId} {N : Nat} {f g : Nat → Value} (h : ∀ j, j < N → f j = g j) : arrV cA N f = arrV cA N g := by
  unfold arrV
  congr 2
  funext j
  exact h j.val j.isLt
theorem cw_multi {i N M : Nat} {pre Wr : va_W} (C : CC G cc nL own) (d : decode cc pc = .ok (.multianewarray i 2, 4)) (h1 : Cond.classLink own i "[[I" ∈ gW) (hN : N < 2 ^ 20) (hM : M < 2 ^ 20) (hw : W9 = pre ++ Wr)
    (k : ∀ q : Nat, CW G rc rs (pc + 4) ls (.ref q :: st) (pre ++ (mW (CGV G) N M q ++ Wr))) : CW G (rc + 1 + N) (rs + N + N * M) pc ls (.int (nI M) :: .int (nI N) :: st) W9 := by
  obtain ⟨p, l, e, R, s, m, args, below, meth, c, Q, A, V⟩ := G
  subst hw
  intro H locs cells slots lsM hP hD hS hl h4 h5
  obtain ⟨kA, kc, ci, m1, m2, m3, m4⟩ := C.2.2.2.2.2.1.2.2.1.2.1
  have hf : s.vm.findClass "[[I" = some (V.2.2 5) := (C.2.2.2.2.2.1.1.2 5 _ (tyL_at V (by decide))).2
  refine mu_W C.1 C.2.1 C.2.2.2.1 (C.2.2.2.2.1 _ h1) hf m1 m2 m3 m4 rfl d rfl hN hM (by omega) (by omega) (fun H' L e1 e2 e3 e4 e5 => ?_)
  have hA : ∀ q, s.heap.size ≤ q → A q := C.2.2.2.2.2.2.1
  have hk : ∀ q ∈ pre ++ Wr, H'[q.1]? = H[q.1]? := fun q hq => e4 q.1 (va_P_iff.mp hP q hq).lt
  have hmP : va_P V.2.1 vwCl (mW V N M H.size) H' := va_P_iff.mpr fun q hq => by
    rcases List.mem_cons.mp hq with rfl | h
    · show H'[H.size]? = some (vp_cell _ _)
      rw [e2, vp_cell_q]
      congr 1
      exact arrV_eq (fun j hj => by simp [mO, hj, va_rf])
    · obtain ⟨j, hj, rfl⟩ := List.mem_map.mp h
      exact e3 j (List.mem_range.mp hj)
  have hm1 : ∀ q ∈ mW V N M H.size, H.size ≤ q.1 := fun q hq => by
    rcases List.mem_cons.mp hq with rfl | h
    · exact Nat.le_refl _
    · obtain ⟨j, hj, rfl⟩ := List.mem_map.mp h
      show H.size ≤ H.size + 1 + j
      omega
  have hmN : ((mW V N M H.size).map Prod.fst).Nodup := by
    unfold mW
    rw [List.map_cons, List.map_map]
    refine List.nodup_cons.mpr ⟨fun z => ?_, ?_⟩
    · obtain ⟨j, -, hj⟩ := List.mem_map.mp z
      have : H.size + 1 + j = H.size := hj
      omega
    · refine List.Pairwise.map _ ?_ (List.nodup_range (n := N))
      intro a b hab h
      have : H.size + 1 + a = H.size + 1 + b := h
      exact hab (by omega)
  have hP1 : va_P V.2.1 vwCl (mW V N M H.size ++ (pre ++ Wr)) H' := va_P_iff.mpr fun q hq => by
    rcases List.mem_append.mp hq with h | h
    · exact va_P_iff.mp hmP q h
    · exact (va_P_iff.mp hP q h).kept (hk q h)
  have hD1 : va_D A (mW V N M H.size ++ (pre ++ Wr)) := by
    obtain ⟨d1, d2⟩ := va_D_iff.mp hD
    refine va_D_iff.mpr ⟨?_, fun q hq => ?_⟩
    · rw [List.map_append, List.nodup_append]
      refine ⟨hmN, d1, fun a ha b hb e => ?_⟩
      obtain ⟨q1, hq1, rfl⟩ := List.mem_map.mp ha
      obtain ⟨q2, hq2, rfl⟩ := List.mem_map.mp hb
      have := hm1 q1 hq1
      have := (va_P_iff.mp hP q2 hq2).lt
      omega
    · rcases List.mem_append.mp hq with h | h
      · exact hA _ (Nat.le_trans hS.1 (hm1 q h))
      · exact d2 q h
  have pm : (mW V N M H.size ++ (pre ++ Wr)).Perm (pre ++ (mW V N M H.size ++ Wr)) := by
    rw [← List.append_assoc, ← List.append_assoc]
    exact List.Perm.append_right _ List.perm_append_comm
  exact k H.size H' (locs ++ L) (cells + 1 + N) (slots + N + N * M) lsM (hP1.perm pm) (hD1.perm pm) ⟨Nat.le_trans hS.1 (by omega), fun a h6 h7 => (e4 a (Nat.lt_of_lt_of_le h6 hS.1)).trans (hS.2.1 a h6 h7), fun q hq => (List.mem_append.mp hq).elim (hS.2.2 q) (fun h => by rw [e5 q h]; exact hA _ hS.1)⟩ hl (by omega) (by omega)
end CWk
/-- a body, walked from its entry, is its contract -/
theorem CMet_of {l : Launch} {y : MethodName} {cc : ByteArray} {maxL h mc ms : Nat} {ret : Option FieldType} {V : VT} {args : List PV} {W0 : va_W} {P : Option Value → va_W → Prop} (hy : plainName y.cls = true) (hc : args.all c1 = true) (hn : args.length ≤ maxL)
    (body : ∀ G : CG, CGV G = V → CGL G = l → CC G cc maxL y.cls → CRt G ret W0 P → CHR G h → CNm G y.name → CW G mc ms 0 (args.map some ++ List.replicate (maxL - args.length) none) [] W0) : CMet l y (.code y cc maxL ret) h mc ms V (args.map (cv V.1)) W0 P := by
  intro sz
  refine Met.ofW (cc := cc) (maxL := maxL) (ret := ret) hy rfl ?_
  intro p e s m args9 below meth c s₁ B hml hP
  have hts := atoms_spec (ws := .code y cc maxL ret :: gW) B.pre
  obtain ⟨rfl, rfl, hE, hPw, hD0⟩ := hP
  have K := body (p, l, e, rmh h mc ms, s, m, (args.map (cv V.1)).toArray, below, meth, c, MQ below (QcC V W0 s.heap.size P) (args.map (cv V.1)).toArray s mc ms (va_A W0 s.heap.size), va_A W0 s.heap.size, V) rfl rfl
    ⟨B.exec, B.bytes, hml, findClass_of_methodNamed B.named, fun w hw => hts w (List.mem_cons_of_mem _ hw), hE, fun q hq => Or.inr hq, B.notSynchronized⟩ ⟨rfl, rfl, B.returns⟩ ⟨Nat.le_refl _, Nat.le_refl _⟩ (name_of_methodNamed B.named B.method).1
  have hlen := lg_sl_len (ad := V.1) hc
  have hl9 := lv_entry (args.map (cv V.1)) (n := maxL) (by rw [hlen]; exact hn)
  have K2 := K s.heap [] 0 0 _ hPw hD0.self va_S.rf ⟨by rw [hml]; exact hl9.1, hl9.2.1, fun q hq => hl9.2.2 q (asc_args hc q hq)⟩ (by show 0 + mc ≤ mc; omega) (by show 0 + ms ≤ ms; omega)
  rw [lg_entry_eq]
  exact K2
section CWc
variable {p : Program} {l : Launch} {e : Env} {R : Room} {s : State} {m : MethodId} {args : Array Value} {below : List Frame} {meth : Method} {c : Code} {Q : State → Prop}
/-- behind a call -/
theorem cw_back {pc mc ms cells slots : Nat} {A : Nat → Prop} {V : VT} {W0 Wr : va_W} {H : Heap} {locs : List Loc} {lsM : Array Slot} {rest st0 : List Value} {P : Option Value → va_W → Prop} {a : Array Value} (hA : ∀ q, s.heap.size ≤ q → A q) (hP : va_P V.2.1 vwCl (W0 ++ Wr) H) (hD : va_D A (W0 ++ Wr)) (hS : va_S A s.heap H locs)
    (hr : va_Run p l e R s m args below meth c H locs cells slots mc ms (F0 m pc lsM st0) rest (QcC V W0 H.size P a) (va_A W0 H.size))
    (kk : ∀ (v : Option Value) (W1 : va_W) (H1 : Heap) (locs1 : List Loc), P v W1 → va_P V.2.1 vwCl (W1 ++ Wr) H1 → va_D A (W1 ++ Wr) → va_S A s.heap H1 locs1 → W p l e R s m args below meth c H1 locs1 (cells + mc) (slots + ms) Q (F0 m (pc + 3) lsM (v.toList ++ rest))) : W p l e R s m args below meth c H locs cells slots Q (F0 m pc lsM st0) := by
  have hF : ∀ q, va_A W0 H.size q → A q := fun q h => by
    rcases h with ⟨k, e9, h⟩ | h
    · exact (va_D_iff.mp hD).2 (q, e9) (List.mem_append_left _ (List.mem_of_getElem? h))
    · exact hA _ (Nat.le_trans hS.1 h)
  intro T hT X
  obtain ⟨v, st₀, t, T', L, h0, X', hL, e1, e2, ⟨⟨v', W1, hv, hp, hb, hd⟩, hz, hk⟩, st⟩ := hr T hT X
  cases hv
  rw [h0] at hz hk
  obtain ⟨j1, j2⟩ := va_join2 (H1 := t.heap) hP hD (fun q h1 h2 => hk q h1 h2) hF hb hd
  obtain ⟨t2, a1, b1⟩ := kk v W1 T'.heap (locs ++ L) hp (by rw [e1]; exact j1) j2
    ⟨Nat.le_trans hS.1 (by rw [e1]; exact hz), fun q h1 h2 => by rw [e1, hk q (Nat.lt_of_lt_of_le h1 hS.1) (fun z => h2 (hF q z))]; exact hS.2.1 q h1 h2, fun q hq => by
      rcases List.mem_append.mp hq with h | h
      · exact hS.2.2 q h
      · exact hF _ (hL q h)⟩ T' rfl X'
  exact ⟨t2, st t2 a1, b1⟩
theorem PcC_blind {V : VT} {W0 : va_W} {sz : Nat} {as : List Value} : FrameBlind (PcC V W0 sz as) := by
  intro a U g mk h
  obtain ⟨h0, h1, h2, h3, h4⟩ := h
  exact ⟨h0, h1, CEnv_calling h2, h3, h4⟩
theorem PcC_at {V : VT} {A : Nat → Prop} {U : State} {locs : List Loc} {W0 Wr : va_W} {as : List Value} (hE : CEnv V A s) (hA : ∀ q, s.heap.size ≤ q → A q) (hW : s.WarmedH U.vm) (hS : va_S A s.heap U.heap locs) (hP : va_P V.2.1 vwCl (W0 ++ Wr) U.heap) (hD : va_D A (W0 ++ Wr)) : PcC V W0 U.heap.size as as.toArray U :=
  ⟨rfl, rfl, CEnv_at hE hW hS (fun q h => by
    rcases h with ⟨k, e9, h⟩ | h
    · exact (va_D_iff.mp hD).2 (q, e9) (List.mem_append_left _ (List.mem_of_getElem? h))
    · exact hA _ (Nat.le_trans hS.1 h)), va_P_iff.mpr (fun q hq => va_P_iff.mp hP q (List.mem_append_left _ hq)), by
    obtain ⟨d1, -⟩ := va_D_iff.mp hD
    rw [List.map_append, List.nodup_append] at d1
    exact va_D_iff.mpr ⟨d1.1, fun _ _ => trivial⟩⟩
end CWc
def MI9 (y : MethodName) (b : ByteArray) (maxL n : Nat) : Prop := Cond.instanceMethod y ∈ gW ∧ Cond.initialized y.cls ∈ gW ∧ Cond.code y b maxL none ∈ gW ∧ (y.cls ≠ "java/lang/invoke/MethodHandle" ∧ y.cls ≠ "java/lang/invoke/VarHandle") ∧ (parseMethodDescriptor y.desc).map (fun d => d.parameters.length) = some n ∧ y.name = "<init>"
section CWi
variable {G : CG} {cc : ByteArray} {nL : Nat} {own : String} {rc rs pc : Nat} {ls : List (Option PV)} {st : List Value} {W9 : va_W}
def catS (st : List Value) : Nat := (st.map fun v => v.category).sum
/-- a constructor's call -/
theorem cw_callI {i h mc ms n maxL rc' rs' a : Nat} {y : MethodName} {b : ByteArray} {as rest : List Value} {W0 Wr : va_W} {P : Option Value → va_W → Prop} (C : CC G cc nL own) (hHR : CHR G (h + 1)) (d : decode cc pc = .ok (.invokespecial i, 3)) (hl : Cond.methodLink own i y ∈ gW) (hm : MI9 y b maxL n) (hM : CMet (CGL G) y (.code y b maxL none) h mc ms (CGV G) (.ref a :: as) W0 P) (hw : W9.Perm (W0 ++ Wr)) (hst : st = as.reverse ++ .ref a :: rest) (hn : as.length = n) (hk : catS rest ≤ 8) (hmx : maxL ≤ 45) (hrc : mc + rc' ≤ rc) (hrs : ms + rs' ≤ rs)
    (k : ∀ (v : Option Value) (W1 : va_W), P v W1 → CW G rc' rs' (pc + 3) ls (v.toList ++ rest) (W1 ++ Wr)) : CW G rc rs pc ls st W9 := by
  obtain ⟨p, l, e, R, s, m, args, below, meth, c, Q, A, V⟩ := G
  subst hst
  intro H locs cells slots lsM hP hD hS hl9 h1 h2
  replace hP := hP.perm hw
  replace hD := hD.perm hw
  obtain ⟨hx, hb, hml, hown, hts, hE, hA, hlk⟩ := C
  obtain ⟨m1, m3, m4, m5, m6, m7⟩ := hm
  have cw : CallB R s args own i y b maxL none (.code y b maxL none :: gW) (rmh h mc ms) mc ms n := ⟨rfl, rfl, hHR.1, (by have := hHR.2; show 8 + (maxL + 11) + 64 * h ≤ R.locals; omega), gW_pay hts m4, List.mem_cons_self, hts _ m4, hts _ m3, m5, fun sig h9 => by rw [h9] at m6; exact (Option.some.inj m6).symm, hts _ hl⟩
  refine cw_back (W0 := W0) (Wr := Wr) (mc := mc) (ms := ms) (rest := rest) hA hP hD hS (va_runI (As := as) (nL := nL) (b := a) ⟨hx, hb, hml, hown, hts⟩ (hM H.size) ⟨cw, m7, hts _ m1⟩ ⟨PcC_blind, fun U hU hW => ?_⟩ rfl hn (by show lsM.size = nL; rw [hl9.1, hml]) rfl (lv_room hk) d ⟨by omega, by omega⟩) (fun v W1 H1 locs1 hp hP1 hD1 hS1 => k v W1 hp H1 locs1 (cells + mc) (slots + ms) lsM hP1 hD1 hS1 hl9 (by omega) (by omega))
  subst hU
  exact PcC_at hE hA hW hS hP hD
theorem cw_callIN {host : String} {i h mc ms n maxL rc' rs' a : Nat} {y : MethodName} {b : ByteArray} {as rest : List Value} {W0 Wr : va_W} {P : Option Value → va_W → Prop} (C : CC G cc nL own) (hHR : CHR G (h + 1)) (d : decode cc pc = .ok (.invokespecial i, 3)) (hl : Cond.methodLinkNest own i y host ∈ noteL) (hm : MI9 y b maxL n) (hM : CMet (CGL G) y (.code y b maxL none) h mc ms (CGV G) (.ref a :: as) W0 P) (hw : W9.Perm (W0 ++ Wr)) (hst : st = as.reverse ++ .ref a :: rest) (hn : as.length = n) (hk : catS rest ≤ 8) (hmx : maxL ≤ 45) (hrc : mc + rc' ≤ rc) (hrs : ms + rs' ≤ rs)
    (k : ∀ (v : Option Value) (W1 : va_W), P v W1 → CW G rc' rs' (pc + 3) ls (v.toList ++ rest) (W1 ++ Wr)) : CW G rc rs pc ls st W9 := by
  obtain ⟨p, l, e, R, s, m, args, below, meth, c, Q, A, V⟩ := G
  subst hst
  intro H locs cells slots lsM hP hD hS hl9 h1 h2
  replace hP := hP.perm hw
  replace hD := hD.perm hw
  obtain ⟨hx, hb, hml, hown, hts, hE, hA, hlk⟩ := C
  obtain ⟨m1, m3, m4, m5, m6, m7⟩ := hm
  have cw : va_CN R s args own i y host b maxL none (.code y b maxL none :: gW) (rmh h mc ms) mc ms n := ⟨⟨rfl, rfl, hHR.1, (by have := hHR.2; show 8 + (maxL + 11) + 64 * h ≤ R.locals; omega), gW_pay hts m4, List.mem_cons_self⟩, hts _ m4, hts _ m3, m5, fun sig h9 => by rw [h9] at m6; exact (Option.some.inj m6).symm, va_Nw.use (noteL_ot _ hl) (hE.2.1 _ hl)⟩
  refine cw_back (W0 := W0) (Wr := Wr) (mc := mc) (ms := ms) (rest := rest) hA hP hD hS (va_runIN (As := as) (nL := nL) (b := a) ⟨hx, hb, hml, hown, hts⟩ (hM H.size) ⟨cw, m7, hts _ m1⟩ ⟨PcC_blind, fun U hU hW => ?_⟩ rfl hn (by show lsM.size = nL; rw [hl9.1, hml]) rfl (lv_room hk) d ⟨by omega, by omega⟩) (fun v W1 H1 locs1 hp hP1 hD1 hS1 => k v W1 hp H1 locs1 (cells + mc) (slots + ms) lsM hP1 hD1 hS1 hl9 (by omega) (by omega))
  subst hU
  exact PcC_at hE hA hW hS hP hD
end CWi
