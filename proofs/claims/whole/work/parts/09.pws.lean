def NoT (G : GT) : Prop := ∀ z ∈ (G.2.2.2.2.2.2.2.2.2.1).exceptionTable.toList, False
theorem HR_le {G : GT} {h h' : Nat} (H : HR G h) (hh : h' ≤ h) : HR G h' := by
  obtain ⟨p, l, e, R, s, m, args, below, meth, c, Q, A, V, idx, tl⟩ := G
  exact ⟨Nat.le_trans hh H.1, Nat.le_trans (Nat.mul_le_mul_left 64 hh) H.2⟩
theorem PCx_l {G : GT} {cc : ByteArray} {nL : Nat} {own : String} (C : PCx G cc nL own) : (GL G).stackTraces = false := by
  obtain ⟨p, l, e, R, s, m, args, below, meth, c, Q, A, V, idx, tl⟩ := G
  exact C.2.2.2.2.2.2.2.2.2.2.2
theorem PCx_I {G : GT} {cc : ByteArray} {nL : Nat} {own : String} (C : PCx G cc nL own) : IdxOK (GX G) := by
  obtain ⟨p, l, e, R, s, m, args, below, meth, c, Q, A, V, idx, tl⟩ := G
  exact C.2.2.2.2.2.2.2.1
/-- some locals forgotten -/
def subL : List (Option PV) → List (Option PV) → Prop
  | [], _ => True
  | none :: r, _ :: r' => subL r r'
  | none :: r, [] => subL r []
  | some v :: r, w :: r' => w = some v ∧ subL r r'
  | some _ :: _, [] => False
theorem subL_at : ∀ {l l' : List (Option PV)} {i : Nat} {v : PV}, subL l l' → l[i]? = some (some v) → l'[i]? = some (some v)
  | [], _, i, v, _, h => by simp at h
  | none :: r, _ :: r', 0, v, _, h => by simp at h
  | none :: r, _ :: r', i + 1, v, hs, h => subL_at (l := r) (l' := r') (i := i) hs h
  | none :: r, [], 0, v, _, h => by simp at h
  | none :: r, [], i + 1, v, hs, h => by
    have := subL_at (l := r) (l' := []) (i := i) hs h
    simp at this
  | some w :: r, x :: r', 0, v, hs, h => by
    have : w = v := by simpa using h
    subst this
    show some x = _
    rw [hs.1]
  | some w :: r, x :: r', i + 1, v, hs, h => subL_at (l := r) (l' := r') (i := i) hs.2 h
theorem PW_at {G : GT} {a b rc rs pc : Nat} {ls ls' : List (Option PV)} {st : List PV} {μ : Mem} (k : PW G a b pc ls' st μ) (hs : subL ls' ls) (h1 : a ≤ rc) (h2 : b ≤ rs) : PW G rc rs pc ls st μ := by
  obtain ⟨p, l, e, R, s, m, args, below, meth, c, Q, A, V, idx, tl⟩ := G
  intro H locs cells slots lsM hP hS hl hL hV h3 h4
  refine k H locs cells slots lsM hP hS ⟨hl.1, hl.2.1, fun q hq => ?_⟩ (fun i v hv => hL i v (subL_at hs hv)) hV (by omega) (by omega)
  obtain ⟨i, v, e1, e2⟩ := asc_of hq
  subst e2
  exact hl.2.2 _ (asc_mem (i0 := 0) (subL_at hs e1))
theorem nar_z {x : Int32} (h : vp_nar .boolean x = x) : narrow .boolean (.int x) = .int x := by
  have h2 : narrow .boolean (.int x) = .int (vp_nar .boolean x) := rfl
  rw [h2, h]
theorem and1 (x : Int32) : x &&& 1 = 0 ∨ x &&& 1 = 1 := by
  have h : (x &&& 1).toBitVec = BitVec.setWidth 32 (BitVec.ofBool (x.toBitVec.getLsbD 0)) := by
    show x.toBitVec &&& 1#32 = _
    rw [BitVec.and_one_eq_setWidth_ofBool_getLsbD]
  cases hb : x.toBitVec.getLsbD 0
  · left
    apply Int32.toBitVec_inj.mp
    rw [h, hb]
    rfl
  · right
    apply Int32.toBitVec_inj.mp
    rw [h, hb]
    rfl
theorem fit_z {x : Int32} (h : vp_nar .boolean x = x) : fits .boolean (.int x) = true := by
  have h2 : x &&& 1 = x := h
  show (x == 0 || x == 1) = true
  rcases and1 x with e | e
  · rw [← h2, e]; rfl
  · rw [← h2, e]; rfl
section PWs
variable {G : GT} {cc : ByteArray} {nL : Nat} {own : String} {rc rs pc : Nat} {ls : List (Option PV)} {st : List PV} {μ : Mem}
theorem px_lconst {n : Fin 2} {v : Int32} (C : PCx G cc nL own) (d : decode cc pc = .ok (.lconst n, 1)) (hv : Int64.ofNat (n : Nat) = v.toInt64) (k : PW G rc rs (pc + 1) ls (pW (.long v.toInt64) :: st) μ) : PW G rc rs pc ls st μ := by
  obtain ⟨p, l, e, R, s, m, args, below, meth, c, Q, A, V, idx, tl⟩ := G
  intro H locs cells slots lsM hP hS hl hL hV h1 h2
  exact lv_lconst C.1 C.2.1 d hv (k H locs cells slots lsM hP hS hl hL (List.forall_mem_cons.mpr ⟨trivial, hV⟩) h1 h2)
theorem px_dconst0 (C : PCx G cc nL own) (d : decode cc pc = .ok (.dconst 0, 1)) (k : PW G rc rs (pc + 1) ls (pW (.double 0) :: st) μ) : PW G rc rs pc ls st μ := by
  obtain ⟨p, l, e, R, s, m, args, below, meth, c, Q, A, V, idx, tl⟩ := G
  intro H locs cells slots lsM hP hS hl hL hV h1 h2
  exact lv_dconst0 C.1 C.2.1 d (k H locs cells slots lsM hP hS hl hL (List.forall_mem_cons.mpr ⟨trivial, hV⟩) h1 h2)
theorem px_fconst0 (C : PCx G cc nL own) (d : decode cc pc = .ok (.fconst 0, 1)) (k : PW G rc rs (pc + 1) ls (pW (.float 0) :: st) μ) : PW G rc rs pc ls st μ := by
  obtain ⟨p, l, e, R, s, m, args, below, meth, c, Q, A, V, idx, tl⟩ := G
  intro H locs cells slots lsM hP hS hl hL hV h1 h2
  exact lv_fconst0 C.1 C.2.1 d (k H locs cells slots lsM hP hS hl hL (List.forall_mem_cons.mpr ⟨trivial, hV⟩) h1 h2)
theorem px_ddiv {x y : UInt64} (C : PCx G cc nL own) (d : decode cc pc = .ok (.ddiv, 1)) (hn : vf_n64 (FP.ddiv x y)) (k : PW G rc rs (pc + 1) ls (pW (.double (FP.ddiv x y)) :: st) μ) : PW G rc rs pc ls (pW (.double y) :: pW (.double x) :: st) μ := by
  obtain ⟨p, l, e, R, s, m, args, below, meth, c, Q, A, V, idx, tl⟩ := G
  intro H locs cells slots lsM hP hS hl hL hV h1 h2
  exact lv_ddiv C.1 C.2.1 d hn (k H locs cells slots lsM hP hS hl hL (List.forall_mem_cons.mpr ⟨trivial, fun v hv => hV v (List.mem_cons_of_mem _ (List.mem_cons_of_mem _ hv))⟩) h1 h2)
theorem px_fdiv {x y : UInt32} (C : PCx G cc nL own) (d : decode cc pc = .ok (.fdiv, 1)) (hn : vf_n32 (FP.fdiv x y)) (k : PW G rc rs (pc + 1) ls (pW (.float (FP.fdiv x y)) :: st) μ) : PW G rc rs pc ls (pW (.float y) :: pW (.float x) :: st) μ := by
  obtain ⟨p, l, e, R, s, m, args, below, meth, c, Q, A, V, idx, tl⟩ := G
  intro H locs cells slots lsM hP hS hl hL hV h1 h2
  exact lv_fdiv C.1 C.2.1 d hn (k H locs cells slots lsM hP hS hl hL (List.forall_mem_cons.mpr ⟨trivial, fun v hv => hV v (List.mem_cons_of_mem _ (List.mem_cons_of_mem _ hv))⟩) h1 h2)
theorem px_tsw {dflt lo hi : Int} {offs : Array Int} {len : Nat} {x v : Int32} {off : Int} {tgt : Nat} (C : PCx G cc nL own) (d : decode cc pc = .ok (.tableswitch dflt lo hi offs, len)) (hx : x = v) (h1 : ¬ v.toInt < lo) (h2 : ¬ hi < v.toInt) (ho : offs[(v.toInt - lo).toNat]? = some off) (ht : (pc : Int) + off = (tgt : Int)) (k : PW G rc rs tgt ls st μ) : PW G rc rs pc ls (pI x :: st) μ := by
  subst hx
  obtain ⟨p, l, e, R, s, m, args, below, meth, c, Q, A, V, idx, tl⟩ := G
  intro H locs cells slots lsM hP hS hl hL hV h3 h4
  exact lv_tableIn C.1 C.2.1 d h1 h2 ho ht (k H locs cells slots lsM hP hS hl hL (List.forall_mem_cons.mp hV).2 h3 h4)
theorem px_tswo {dflt lo hi : Int} {offs : Array Int} {len : Nat} {x vlo vhi : Int32} {tgt : Nat} (C : PCx G cc nL own) (d : decode cc pc = .ok (.tableswitch dflt lo hi offs, len)) (e1 : vlo.toInt = lo) (e2 : vhi.toInt = hi) (h : x < vlo ∨ vhi < x) (ht : (pc : Int) + dflt = (tgt : Int)) (k : PW G rc rs tgt ls st μ) : PW G rc rs pc ls (pI x :: st) μ := by
  obtain ⟨p, l, e, R, s, m, args, below, meth, c, Q, A, V, idx, tl⟩ := G
  intro H locs cells slots lsM hP hS hl hL hV h3 h4
  exact lv_tableOut C.1 C.2.1 d (by rw [← e1, ← e2]; exact h.imp Int32.lt_iff_toInt_lt.mp Int32.lt_iff_toInt_lt.mp) ht (k H locs cells slots lsM hP hS hl hL (List.forall_mem_cons.mp hV).2 h3 h4)
theorem px_lsw {dflt : Int} {ps : Array (Int × Int)} {len : Nat} {x v : Int32} {off : Int} {tgt : Nat} (C : PCx G cc nL own) (d : decode cc pc = .ok (.lookupswitch dflt ps, len)) (hx : x = v) (hp : (ps.toList.zip (ps.toList.drop 1)).all (fun (a, next) => a.1 < next.1) = true) (ho : Op.lookupswitch.offset ps.toList dflt v.toInt = off) (ht : (pc : Int) + off = (tgt : Int)) (k : PW G rc rs tgt ls st μ) : PW G rc rs pc ls (pI x :: st) μ := by
  subst hx
  obtain ⟨p, l, e, R, s, m, args, below, meth, c, Q, A, V, idx, tl⟩ := G
  intro H locs cells slots lsM hP hS hl hL hV h3 h4
  exact lv_lookup C.1 C.2.1 d hp ho ht (k H locs cells slots lsM hP hS hl hL (List.forall_mem_cons.mp hV).2 h3 h4)
theorem px_lsw2 {dflt : Int} {ps : Array (Int × Int)} {len : Nat} {x : Int32} {off : Int} {tgt : Nat} (C : PCx G cc nL own) (d : decode cc pc = .ok (.lookupswitch dflt ps, len)) (hp : (ps.toList.zip (ps.toList.drop 1)).all (fun (a, next) => a.1 < next.1) = true) (ho : Op.lookupswitch.offset ps.toList dflt x.toInt = off) (ht : (pc : Int) + off = (tgt : Int)) (k : PW G rc rs tgt ls st μ) : PW G rc rs pc ls (pI x :: st) μ := by
  obtain ⟨p, l, e, R, s, m, args, below, meth, c, Q, A, V, idx, tl⟩ := G
  intro H locs cells slots lsM hP hS hl hL hV h3 h4
  exact lv_lookup C.1 C.2.1 d hp ho ht (k H locs cells slots lsM hP hS hl hL (List.forall_mem_cons.mp hV).2 h3 h4)
theorem i32_ne {x v : Int32} (h : ¬ x = v) : x.toInt ≠ v.toInt := fun e => h (Int32.toInt_inj.mp e)
theorem tsw_out6 {x : Int32} (h0 : ¬ x = 0) (h1 : ¬ x = 1) (h2 : ¬ x = 2) (h3 : ¬ x = 3) (h4 : ¬ x = 4) (h5 : ¬ x = 5) : x < 0 ∨ 5 < x := by
  have e0 : x.toInt ≠ 0 := i32_ne h0
  have e1 : x.toInt ≠ 1 := i32_ne h1
  have e2 : x.toInt ≠ 2 := i32_ne h2
  have e3 : x.toInt ≠ 3 := i32_ne h3
  have e4 : x.toInt ≠ 4 := i32_ne h4
  have e5 : x.toInt ≠ 5 := i32_ne h5
  rw [Int32.lt_iff_toInt_lt, Int32.lt_iff_toInt_lt]
  show x.toInt < 0 ∨ 5 < x.toInt
  omega
theorem tsw_out5 {x : Int32} (h0 : ¬ x = 0) (h1 : ¬ x = 1) (h2 : ¬ x = 2) (h3 : ¬ x = 3) (h4 : ¬ x = 4) : x < 0 ∨ 4 < x := by
  have e0 : x.toInt ≠ 0 := i32_ne h0
  have e1 : x.toInt ≠ 1 := i32_ne h1
  have e2 : x.toInt ≠ 2 := i32_ne h2
  have e3 : x.toInt ≠ 3 := i32_ne h3
  have e4 : x.toInt ≠ 4 := i32_ne h4
  rw [Int32.lt_iff_toInt_lt, Int32.lt_iff_toInt_lt]
  show x.toInt < 0 ∨ 4 < x.toInt
  omega
theorem tsw_out4 {x : Int32} (h0 : ¬ x = 0) (h1 : ¬ x = 1) (h2 : ¬ x = 2) (h3 : ¬ x = 3) : x < 0 ∨ 3 < x := by
  have e0 : x.toInt ≠ 0 := i32_ne h0
  have e1 : x.toInt ≠ 1 := i32_ne h1
  have e2 : x.toInt ≠ 2 := i32_ne h2
  have e3 : x.toInt ≠ 3 := i32_ne h3
  rw [Int32.lt_iff_toInt_lt, Int32.lt_iff_toInt_lt]
  show x.toInt < 0 ∨ 3 < x.toInt
  omega
theorem lsw_out2 {x v1 v2 : Int32} {k1 k2 o1 o2 d : Int} (h1 : ¬ x = v1) (h2 : ¬ x = v2) (e1 : v1.toInt = k1) (e2 : v2.toInt = k2) : Op.lookupswitch.offset (#[(k1, o1), (k2, o2)] : Array (Int × Int)).toList d x.toInt = d := by
  have n1 : ¬ k1 = x.toInt := fun h => i32_ne h1 (by rw [e1, h])
  have n2 : ¬ k2 = x.toInt := fun h => i32_ne h2 (by rw [e2, h])
  have n1' : ¬ x.toInt = k1 := fun h => n1 h.symm
  have n2' : ¬ x.toInt = k2 := fun h => n2 h.symm
  simp [Op.lookupswitch.offset, n1, n2, n1', n2']
-- calls by the kind of their answer
theorem px_callVi {i h mc ms j q ci n maxL rc' rs' : Nat} {fs : List (Option (Nat × Nat))} {y : MethodName} {b : ByteArray} {ret r9 : Option FieldType} {as rest : List PV} {P : Int32 → Mem → Prop} {P9 : Option PV → Mem → Prop} {X : String → Mem → Prop} (C : PCx G cc nL own) (hHR : HR G (h + 1)) (hRt : PRt G r9 P9 X) (hnoT : NoT G) (d : decode cc pc = .ok (.invokevirtual i, 3)) (hl : Cond.methodLink own i y ∈ gW) (hm : MV y b maxL ret n) (hM : PMet (GL G) y (.code y b maxL ret) h mc ms (GX G) (pR j q :: as) μ (qI P) X) (hs : sp j q = .inl (ci, fs)) (hc : (vwCl[ci]?).map (fun r => r.1) = some y.cls) (hj : (j == 41) = false) (hst : st = as.reverse ++ pR j q :: rest) (hn : as.length = n) (hk : stK rest ≤ 8) (hmx : maxL ≤ 45) (hrc : mc + rc' ≤ rc) (hrs : ms + rs' ≤ rs) (k : ∀ (r : Int32) (μ' : Mem), P r μ' → PW G rc' rs' (pc + 3) ls (pI r :: rest) μ') : PW G rc rs pc ls st μ := px_callV (rc' := rc') (rs' := rs') C hHR hRt hnoT d hl hm hM hs hc hj hst hn hk hmx hrc hrs (fun v μ' h9 => by obtain ⟨r, rfl, h9⟩ := h9; exact k r μ' h9)
theorem px_callSi {i h mc ms n maxL rc' rs' : Nat} {y : MethodName} {b : ByteArray} {ret r9 : Option FieldType} {as rest : List PV} {P : Int32 → Mem → Prop} {P9 : Option PV → Mem → Prop} {X : String → Mem → Prop} (C : PCx G cc nL own) (hHR : HR G (h + 1)) (hRt : PRt G r9 P9 X) (hnoT : NoT G) (d : decode cc pc = .ok (.invokestatic i, 3)) (hl : Cond.methodLink own i y ∈ gW) (hm : MS y b maxL ret n) (hM : PMet (GL G) y (.code y b maxL ret) h mc ms (GX G) as μ (qI P) X) (hst : st = as.reverse ++ rest) (hn : as.length = n) (hk : stK rest ≤ 8) (hmx : maxL ≤ 45) (hrc : mc + rc' ≤ rc) (hrs : ms + rs' ≤ rs) (k : ∀ (r : Int32) (μ' : Mem), P r μ' → PW G rc' rs' (pc + 3) ls (pI r :: rest) μ') : PW G rc rs pc ls st μ := px_callS (rc' := rc') (rs' := rs') C hHR hRt hnoT d hl hm hM hst hn hk hmx hrc hrs (fun v μ' h9 => by obtain ⟨r, rfl, h9⟩ := h9; exact k r μ' h9)
theorem px_callSNi {host : String} {i h mc ms n maxL rc' rs' : Nat} {y : MethodName} {b : ByteArray} {ret r9 : Option FieldType} {as rest : List PV} {P : Int32 → Mem → Prop} {P9 : Option PV → Mem → Prop} {X : String → Mem → Prop} (C : PCx G cc nL own) (hHR : HR G (h + 1)) (hRt : PRt G r9 P9 X) (hnoT : NoT G) (d : decode cc pc = .ok (.invokestatic i, 3)) (hlg : Cond.methodLinkNest own i y host ∈ noteL) (hm : MS y b maxL ret n) (hM : PMet (GL G) y (.code y b maxL ret) h mc ms (GX G) as μ (qI P) X) (hst : st = as.reverse ++ rest) (hn : as.length = n) (hk : stK rest ≤ 8) (hmx : maxL ≤ 45) (hrc : mc + rc' ≤ rc) (hrs : ms + rs' ≤ rs) (k : ∀ (r : Int32) (μ' : Mem), P r μ' → PW G rc' rs' (pc + 3) ls (pI r :: rest) μ') : PW G rc rs pc ls st μ := px_callSN (rc' := rc') (rs' := rs') C hHR hRt hnoT d hlg hm hM hst hn hk hmx hrc hrs (fun v μ' h9 => by obtain ⟨r, rfl, h9⟩ := h9; exact k r μ' h9)
theorem px_callVv {i h mc ms j q ci n maxL rc' rs' : Nat} {fs : List (Option (Nat × Nat))} {y : MethodName} {b : ByteArray} {ret r9 : Option FieldType} {as rest : List PV} {P : Mem → Prop} {P9 : Option PV → Mem → Prop} {X : String → Mem → Prop} (C : PCx G cc nL own) (hHR : HR G (h + 1)) (hRt : PRt G r9 P9 X) (hnoT : NoT G) (d : decode cc pc = .ok (.invokevirtual i, 3)) (hl : Cond.methodLink own i y ∈ gW) (hm : MV y b maxL ret n) (hM : PMet (GL G) y (.code y b maxL ret) h mc ms (GX G) (pR j q :: as) μ (qV P) X) (hs : sp j q = .inl (ci, fs)) (hc : (vwCl[ci]?).map (fun r => r.1) = some y.cls) (hj : (j == 41) = false) (hst : st = as.reverse ++ pR j q :: rest) (hn : as.length = n) (hk : stK rest ≤ 8) (hmx : maxL ≤ 45) (hrc : mc + rc' ≤ rc) (hrs : ms + rs' ≤ rs) (k : ∀ (μ' : Mem), P μ' → PW G rc' rs' (pc + 3) ls rest μ') : PW G rc rs pc ls st μ := px_callV (rc' := rc') (rs' := rs') C hHR hRt hnoT d hl hm hM hs hc hj hst hn hk hmx hrc hrs (fun v μ' h9 => by obtain ⟨rfl, h9⟩ := h9; exact k μ' h9)
theorem px_callSv {i h mc ms n maxL rc' rs' : Nat} {y : MethodName} {b : ByteArray} {ret r9 : Option FieldType} {as rest : List PV} {P : Mem → Prop} {P9 : Option PV → Mem → Prop} {X : String → Mem → Prop} (C : PCx G cc nL own) (hHR : HR G (h + 1)) (hRt : PRt G r9 P9 X) (hnoT : NoT G) (d : decode cc pc = .ok (.invokestatic i, 3)) (hl : Cond.methodLink own i y ∈ gW) (hm : MS y b maxL ret n) (hM : PMet (GL G) y (.code y b maxL ret) h mc ms (GX G) as μ (qV P) X) (hst : st = as.reverse ++ rest) (hn : as.length = n) (hk : stK rest ≤ 8) (hmx : maxL ≤ 45) (hrc : mc + rc' ≤ rc) (hrs : ms + rs' ≤ rs) (k : ∀ (μ' : Mem), P μ' → PW G rc' rs' (pc + 3) ls rest μ') : PW G rc rs pc ls st μ := px_callS (rc' := rc') (rs' := rs') C hHR hRt hnoT d hl hm hM hst hn hk hmx hrc hrs (fun v μ' h9 => by obtain ⟨rfl, h9⟩ := h9; exact k μ' h9)
theorem px_callSNv {host : String} {i h mc ms n maxL rc' rs' : Nat} {y : MethodName} {b : ByteArray} {ret r9 : Option FieldType} {as rest : List PV} {P : Mem → Prop} {P9 : Option PV → Mem → Prop} {X : String → Mem → Prop} (C : PCx G cc nL own) (hHR : HR G (h + 1)) (hRt : PRt G r9 P9 X) (hnoT : NoT G) (d : decode cc pc = .ok (.invokestatic i, 3)) (hlg : Cond.methodLinkNest own i y host ∈ noteL) (hm : MS y b maxL ret n) (hM : PMet (GL G) y (.code y b maxL ret) h mc ms (GX G) as μ (qV P) X) (hst : st = as.reverse ++ rest) (hn : as.length = n) (hk : stK rest ≤ 8) (hmx : maxL ≤ 45) (hrc : mc + rc' ≤ rc) (hrs : ms + rs' ≤ rs) (k : ∀ (μ' : Mem), P μ' → PW G rc' rs' (pc + 3) ls rest μ') : PW G rc rs pc ls st μ := px_callSN (rc' := rc') (rs' := rs') C hHR hRt hnoT d hlg hm hM hst hn hk hmx hrc hrs (fun v μ' h9 => by obtain ⟨rfl, h9⟩ := h9; exact k μ' h9)
theorem px_callVd {i h mc ms j q ci n maxL rc' rs' : Nat} {fs : List (Option (Nat × Nat))} {y : MethodName} {b : ByteArray} {ret r9 : Option FieldType} {as rest : List PV} {P : UInt64 → Mem → Prop} {P9 : Option PV → Mem → Prop} {X : String → Mem → Prop} (C : PCx G cc nL own) (hHR : HR G (h + 1)) (hRt : PRt G r9 P9 X) (hnoT : NoT G) (d : decode cc pc = .ok (.invokevirtual i, 3)) (hl : Cond.methodLink own i y ∈ gW) (hm : MV y b maxL ret n) (hM : PMet (GL G) y (.code y b maxL ret) h mc ms (GX G) (pR j q :: as) μ (qD P) X) (hs : sp j q = .inl (ci, fs)) (hc : (vwCl[ci]?).map (fun r => r.1) = some y.cls) (hj : (j == 41) = false) (hst : st = as.reverse ++ pR j q :: rest) (hn : as.length = n) (hk : stK rest ≤ 8) (hmx : maxL ≤ 45) (hrc : mc + rc' ≤ rc) (hrs : ms + rs' ≤ rs) (k : ∀ (r : UInt64) (μ' : Mem), P r μ' → PW G rc' rs' (pc + 3) ls (pW (.double r) :: rest) μ') : PW G rc rs pc ls st μ := px_callV (rc' := rc') (rs' := rs') C hHR hRt hnoT d hl hm hM hs hc hj hst hn hk hmx hrc hrs (fun v μ' h9 => by obtain ⟨r, rfl, h9⟩ := h9; exact k r μ' h9)
theorem px_callSd {i h mc ms n maxL rc' rs' : Nat} {y : MethodName} {b : ByteArray} {ret r9 : Option FieldType} {as rest : List PV} {P : UInt64 → Mem → Prop} {P9 : Option PV → Mem → Prop} {X : String → Mem → Prop} (C : PCx G cc nL own) (hHR : HR G (h + 1)) (hRt : PRt G r9 P9 X) (hnoT : NoT G) (d : decode cc pc = .ok (.invokestatic i, 3)) (hl : Cond.methodLink own i y ∈ gW) (hm : MS y b maxL ret n) (hM : PMet (GL G) y (.code y b maxL ret) h mc ms (GX G) as μ (qD P) X) (hst : st = as.reverse ++ rest) (hn : as.length = n) (hk : stK rest ≤ 8) (hmx : maxL ≤ 45) (hrc : mc + rc' ≤ rc) (hrs : ms + rs' ≤ rs) (k : ∀ (r : UInt64) (μ' : Mem), P r μ' → PW G rc' rs' (pc + 3) ls (pW (.double r) :: rest) μ') : PW G rc rs pc ls st μ := px_callS (rc' := rc') (rs' := rs') C hHR hRt hnoT d hl hm hM hst hn hk hmx hrc hrs (fun v μ' h9 => by obtain ⟨r, rfl, h9⟩ := h9; exact k r μ' h9)
theorem px_callSNd {host : String} {i h mc ms n maxL rc' rs' : Nat} {y : MethodName} {b : ByteArray} {ret r9 : Option FieldType} {as rest : List PV} {P : UInt64 → Mem → Prop} {P9 : Option PV → Mem → Prop} {X : String → Mem → Prop} (C : PCx G cc nL own) (hHR : HR G (h + 1)) (hRt : PRt G r9 P9 X) (hnoT : NoT G) (d : decode cc pc = .ok (.invokestatic i, 3)) (hlg : Cond.methodLinkNest own i y host ∈ noteL) (hm : MS y b maxL ret n) (hM : PMet (GL G) y (.code y b maxL ret) h mc ms (GX G) as μ (qD P) X) (hst : st = as.reverse ++ rest) (hn : as.length = n) (hk : stK rest ≤ 8) (hmx : maxL ≤ 45) (hrc : mc + rc' ≤ rc) (hrs : ms + rs' ≤ rs) (k : ∀ (r : UInt64) (μ' : Mem), P r μ' → PW G rc' rs' (pc + 3) ls (pW (.double r) :: rest) μ') : PW G rc rs pc ls st μ := px_callSN (rc' := rc') (rs' := rs') C hHR hRt hnoT d hlg hm hM hst hn hk hmx hrc hrs (fun v μ' h9 => by obtain ⟨r, rfl, h9⟩ := h9; exact k r μ' h9)
theorem px_callVf {i h mc ms j q ci n maxL rc' rs' : Nat} {fs : List (Option (Nat × Nat))} {y : MethodName} {b : ByteArray} {ret r9 : Option FieldType} {as rest : List PV} {P : UInt32 → Mem → Prop} {P9 : Option PV → Mem → Prop} {X : String → Mem → Prop} (C : PCx G cc nL own) (hHR : HR G (h + 1)) (hRt : PRt G r9 P9 X) (hnoT : NoT G) (d : decode cc pc = .ok (.invokevirtual i, 3)) (hl : Cond.methodLink own i y ∈ gW) (hm : MV y b maxL ret n) (hM : PMet (GL G) y (.code y b maxL ret) h mc ms (GX G) (pR j q :: as) μ (qF P) X) (hs : sp j q = .inl (ci, fs)) (hc : (vwCl[ci]?).map (fun r => r.1) = some y.cls) (hj : (j == 41) = false) (hst : st = as.reverse ++ pR j q :: rest) (hn : as.length = n) (hk : stK rest ≤ 8) (hmx : maxL ≤ 45) (hrc : mc + rc' ≤ rc) (hrs : ms + rs' ≤ rs) (k : ∀ (r : UInt32) (μ' : Mem), P r μ' → PW G rc' rs' (pc + 3) ls (pW (.float r) :: rest) μ') : PW G rc rs pc ls st μ := px_callV (rc' := rc') (rs' := rs') C hHR hRt hnoT d hl hm hM hs hc hj hst hn hk hmx hrc hrs (fun v μ' h9 => by obtain ⟨r, rfl, h9⟩ := h9; exact k r μ' h9)
theorem px_callSf {i h mc ms n maxL rc' rs' : Nat} {y : MethodName} {b : ByteArray} {ret r9 : Option FieldType} {as rest : List PV} {P : UInt32 → Mem → Prop} {P9 : Option PV → Mem → Prop} {X : String → Mem → Prop} (C : PCx G cc nL own) (hHR : HR G (h + 1)) (hRt : PRt G r9 P9 X) (hnoT : NoT G) (d : decode cc pc = .ok (.invokestatic i, 3)) (hl : Cond.methodLink own i y ∈ gW) (hm : MS y b maxL ret n) (hM : PMet (GL G) y (.code y b maxL ret) h mc ms (GX G) as μ (qF P) X) (hst : st = as.reverse ++ rest) (hn : as.length = n) (hk : stK rest ≤ 8) (hmx : maxL ≤ 45) (hrc : mc + rc' ≤ rc) (hrs : ms + rs' ≤ rs) (k : ∀ (r : UInt32) (μ' : Mem), P r μ' → PW G rc' rs' (pc + 3) ls (pW (.float r) :: rest) μ') : PW G rc rs pc ls st μ := px_callS (rc' := rc') (rs' := rs') C hHR hRt hnoT d hl hm hM hst hn hk hmx hrc hrs (fun v μ' h9 => by obtain ⟨r, rfl, h9⟩ := h9; exact k r μ' h9)
theorem px_callSNf {host : String} {i h mc ms n maxL rc' rs' : Nat} {y : MethodName} {b : ByteArray} {ret r9 : Option FieldType} {as rest : List PV} {P : UInt32 → Mem → Prop} {P9 : Option PV → Mem → Prop} {X : String → Mem → Prop} (C : PCx G cc nL own) (hHR : HR G (h + 1)) (hRt : PRt G r9 P9 X) (hnoT : NoT G) (d : decode cc pc = .ok (.invokestatic i, 3)) (hlg : Cond.methodLinkNest own i y host ∈ noteL) (hm : MS y b maxL ret n) (hM : PMet (GL G) y (.code y b maxL ret) h mc ms (GX G) as μ (qF P) X) (hst : st = as.reverse ++ rest) (hn : as.length = n) (hk : stK rest ≤ 8) (hmx : maxL ≤ 45) (hrc : mc + rc' ≤ rc) (hrs : ms + rs' ≤ rs) (k : ∀ (r : UInt32) (μ' : Mem), P r μ' → PW G rc' rs' (pc + 3) ls (pW (.float r) :: rest) μ') : PW G rc rs pc ls st μ := px_callSN (rc' := rc') (rs' := rs') C hHR hRt hnoT d hlg hm hM hst hn hk hmx hrc hrs (fun v μ' h9 => by obtain ⟨r, rfl, h9⟩ := h9; exact k r μ' h9)
end PWs
theorem math_max : Cond.static Lib.Math.max.name ∈ gW ∧ Cond.initialized "java/lang/Math" ∈ gW ∧ Cond.code Lib.Math.max.name Lib.Math.max.code 2 (some .int) ∈ gW := ⟨(gw2 213 rfl rfl), (gw1 21 rfl rfl), (gw2 214 rfl rfl)⟩
theorem math_min : Cond.static Lib.Math.min.name ∈ gW ∧ Cond.initialized "java/lang/Math" ∈ gW ∧ Cond.code Lib.Math.min.name Lib.Math.min.code 2 (some .int) ∈ gW := ⟨(gw2 202 rfl rfl), (gw1 21 rfl rfl), (gw2 203 rfl rfl)⟩
