-- rows read and written by the class's own methods; a reference as answer
section PWa
variable {G : GT} {cc : ByteArray} {nL : Nat} {own : String} {rc rs pc : Nat} {ls : List (Option PV)} {st : List PV} {μ : Mem} {P9 : Option PV → Mem → Prop} {X9 : String → Mem → Prop}
theorem px_alen {n a j q : Nat} {v : Int32} (C : PCx G cc nL own) (d : decode cc pc = .ok (.arraylength, 1)) (hs : sp j q = .inr (a, n, none)) (ha : a < 8) (hj : (j == 41) = false) (hv : Int32.ofNat n = v) (k : PW G rc rs (pc + 1) ls (pI v :: st) μ) : PW G rc rs pc ls (pR j q :: st) μ := by
  obtain ⟨p, l, e, R, s, m, args, below, meth, c, Q, A, V, idx, tl⟩ := G
  intro H locs cells slots lsM hP hS hl hL hV h1 h2
  have hV' := List.forall_mem_cons.mp hV
  have hi : (j, q) ∈ idx := hV'.1.resolve_right (fun h => by rw [show j = 41 from h] at hj; cases hj)
  obtain ⟨n9, -, hn⟩ := wl_get (V := V) (μ := μ) (tl := tl) hi
  rw [cc1_arr hs] at hn
  exact va_alen C.1 C.2.1 C.2.2.2.2.2.1.1 hP n9 a hn (tyL_at V ha) hv d (k H locs cells slots lsM hP hS hl hL (List.forall_mem_cons.mpr ⟨trivial, hV'.2⟩) h1 h2)
def qS (P : Nat → Mem → Prop) : Option PV → Mem → Prop := fun v μ => ∃ k, v = some (pR 0 k) ∧ P k μ
theorem px_aret {P : Nat → Mem → Prop} {ty : FieldType} {q : Nat} (C : PCx G cc nL own) (hR : PRt G (some ty) (qS P) X9) (d : decode cc pc = .ok (.areturn, 1)) (hty : (∃ n, ty = .object n) ∨ ∃ t, ty = .array t) (hst : st = [pR 0 q]) (k : P q μ) : PW G rc rs pc ls st μ := by
  obtain ⟨p, l, e, R, s, m, args, below, meth, c, Q, A, V, idx, tl⟩ := G
  subst hst
  intro H locs cells slots lsM hP hS hl hL hV h1 h2
  obtain ⟨hx, hb, hml, hown, hts, hE, hD, hI, hAs, hA, hlk, htr⟩ := C
  obtain ⟨hQ, hr⟩ := hR
  rw [hQ]
  refine W.widen (k := R.cells) (n := R.slots) (by omega) (by omega) (vx_ret ?_)
  exact W.aret hx hb hr hty (Or.inr ⟨V.1 0 q, rfl⟩) (fun t ht hW => ⟨⟨some (pR 0 q), μ, rfl, ⟨q, rfl, k⟩, (fun x hx => by cases hx; exact hV _ List.mem_cons_self), by rw [ht]; exact hP⟩, by rw [← hA]; exact hS.F ht⟩) (by rw [← hA]; exact hS.2.2) d hlk
theorem px_callVr {i h mc ms j q ci n maxL rc' rs' : Nat} {fs : List (Option (Nat × Nat))} {y : MethodName} {b : ByteArray} {ret r9 : Option FieldType} {as rest : List PV} {P : Nat → Mem → Prop} {P9 : Option PV → Mem → Prop} {X : String → Mem → Prop} (C : PCx G cc nL own) (hHR : HR G (h + 1)) (hRt : PRt G r9 P9 X) (hnoT : NoT G) (d : decode cc pc = .ok (.invokevirtual i, 3)) (hl : Cond.methodLink own i y ∈ gW) (hm : MV y b maxL ret n) (hM : PMet (GL G) y (.code y b maxL ret) h mc ms (GX G) (pR j q :: as) μ (qS P) X) (hs : sp j q = .inl (ci, fs)) (hc : (vwCl[ci]?).map (fun r => r.1) = some y.cls) (hj : (j == 41) = false) (hst : st = as.reverse ++ pR j q :: rest) (hn : as.length = n) (hk : stK rest ≤ 8) (hmx : maxL ≤ 45) (hrc : mc + rc' ≤ rc) (hrs : ms + rs' ≤ rs) (k : ∀ (r : Nat) (μ' : Mem), P r μ' → PW G rc' rs' (pc + 3) ls (pR 0 r :: rest) μ') : PW G rc rs pc ls st μ := px_callV (rc' := rc') (rs' := rs') C hHR hRt hnoT d hl hm hM hs hc hj hst hn hk hmx hrc hrs (fun v μ' h9 => by obtain ⟨r, rfl, h9⟩ := h9; exact k r μ' h9)
end PWa
theorem at_lt {n : Nat} {i : Int32} (h : n < 2147483648) (hin : vp_in i n) : ¬ Int32.ofNat n ≤ i := by
  intro hle
  have h0 : ¬ i < 0 := fun z => hin (Or.inl z)
  have h1 : ¬ n ≤ i.toNatClampNeg := fun z => hin (Or.inr z)
  rw [Int32.le_iff_toInt_le, Int32.toInt_ofNat_of_lt (by omega)] at hle
  have h2 : i.toNatClampNeg = i.toInt.toNat := rfl
  omega
theorem nar_bool {x : Int32} (h : vp_nar .boolean x = x) : x = if x = 0 then 0 else 1 := by
  by_cases h0 : x = 0
  · rw [if_pos h0]; exact h0
  · rw [if_neg h0]
    have h2 : x &&& 1 = x := h
    rcases and1 x with e | e
    · exact absurd (h2.symm.trans e) h0
    · exact h2.symm.trans e
theorem fz_1 {x : Int32} (h : (if x = 0 then (0 : Int32) else 1) = 0) : x = 0 := by
  by_cases h0 : x = 0
  · exact h0
  · rw [if_neg h0] at h; cases h
theorem fz_2 {x : Int32} (h : ¬ (if x = 0 then (0 : Int32) else 1) = 0) : ¬ x = 0 := fun z => h (if_pos z)
