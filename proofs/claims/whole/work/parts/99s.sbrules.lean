-- rules for the JDK's builder of texts
section CWs
variable {G : CG} {cc : ByteArray} {nL : Nat} {own : String} {rc rs pc : Nat} {ls : List (Option PV)} {st : List Value} {W9 : va_W}
theorem cw_less {rc' rs' : Nat} (h1 : rc' ≤ rc) (h2 : rs' ≤ rs) (k : CW G rc' rs' pc ls st W9) : CW G rc rs pc ls st W9 := by
  obtain ⟨p, l, e, R, s, m, args, below, meth, c, Q, A, V⟩ := G
  intro H locs cells slots lsM hP hD hS hl h3 h4
  exact k H locs cells slots lsM hP hD hS hl (by omega) (by omega)
theorem cw_ldc {i : Nat} {v : Int32} (C : CC G cc nL own) (d : decode cc pc = .ok (.ldc i, 2)) (hw : Cond.constant own i v ∈ gW) (k : CW G rc rs (pc + 2) ls (.int v :: st) W9) : CW G rc rs pc ls st W9 := by
  obtain ⟨p, l, e, R, s, m, args, below, meth, c, Q, A, V⟩ := G
  intro H locs cells slots lsM hP hD hS hl h1 h2
  exact lv_ldc C.1 C.2.1 C.2.2.2.1 (C.2.2.2.2.1 _ hw) d (k H locs cells slots lsM hP hD hS hl h1 h2)
/-- super.m(..), the receiver a StringBuilder -/
theorem cw_callSU {i h mc ms n maxL rc' rs' a : Nat} {y : MethodName} {b : ByteArray} {ret : Option FieldType} {as rest : List Value} {fs : List Value} {W0 Wr : va_W} {P : Option Value → va_W → Prop} (C : CC G cc nL own) (hHR : CHR G (h + 1)) (d : decode cc pc = .ok (.invokespecial i, 3)) (w1 : Cond.methodLink own i y ∈ gW) (w2 : Cond.sameMethod y.cls y.cls y.name y.desc ∈ gW) (w3 : Cond.superclass own y.cls ∈ gW) (w4 : Cond.instanceMethod y ∈ gW) (w5 : Cond.initialized y.cls ∈ gW) (w6 : Cond.code y b maxL ret ∈ gW) (hno : y.name ≠ "<init>") (hd : (parseMethodDescriptor y.desc).map (fun d => d.parameters.length) = some n) (hM : CMet (CGL G) y (.code y b maxL ret) h mc ms (CGV G) (.ref a :: as) W0 P) (he : W0[0]? = some (a, .inr (1, fs))) (hw : W9.Perm (W0 ++ Wr)) (hst : st = as.reverse ++ .ref a :: rest) (hn : as.length = n) (hk : catS rest ≤ 8) (hmx : maxL ≤ 45) (hrc : mc + rc' ≤ rc) (hrs : ms + rs' ≤ rs)
    (k : ∀ (v : Option Value) (W1 : va_W), P v W1 → CW G rc' rs' (pc + 3) ls (v.toList ++ rest) (W1 ++ Wr)) : CW G rc rs pc ls st W9 := by
  obtain ⟨p, l, e, R, s, m, args, below, meth, c, Q, A, V⟩ := G
  subst hst
  intro H locs cells slots lsM hP hD hS hl9 h1 h2
  replace hP := hP.perm hw
  replace hD := hD.perm hw
  obtain ⟨hx, hb, hml, hown, hts, hE, hA, hlk⟩ := C
  have cw : va_CS R s args own i y b maxL ret (.code y b maxL ret :: gW) (rmh h mc ms) mc ms n := ⟨⟨rfl, rfl, hHR.1, (by have := hHR.2; show 8 + (maxL + 11) + 64 * h ≤ R.locals; omega), gW_pay hts w6, List.mem_cons_self⟩, hts _ w1, hts _ w2, hts _ w3, hts _ w4, hts _ w5, hts _ w6, hno, fun sig h9 => by rw [h9] at hd; exact (Option.some.inj hd).symm⟩
  have he' : (W0 ++ Wr)[0]? = some (a, .inr (1, fs)) := by
    rw [List.getElem?_append_left (List.getElem?_eq_some_iff.mp he).1]
    exact he
  refine cw_back (W0 := W0) (Wr := Wr) (mc := mc) (ms := ms) (rest := rest) hA hP hD hS (va_runSU (C := RJ4) (As := as) (nL := nL) (b := a) (hE.1.1 1 _ rfl).2 ⟨hx, hb, hml, hown, hts⟩ (hM H.size) cw ⟨PcC_blind, va_recv hE.1 hP rfl he', fun U hU hW => ?_⟩ rfl hn (by show lsM.size = nL; rw [hl9.1, hml]) rfl (lv_room hk) d ⟨by omega, by omega⟩) (fun v W1 H1 locs1 hp hP1 hD1 hS1 => k v W1 hp H1 locs1 (cells + mc) (slots + ms) lsM hP1 hD1 hS1 hl9 (by omega) (by omega))
  subst hU
  exact PcC_at hE hA hW hS hP hD
/-- this.m(..) of a method of the class above, the receiver a StringBuilder -/
theorem cw_callU {i h mc ms n maxL rc' rs' a : Nat} {y : MethodName} {b : ByteArray} {ret : Option FieldType} {as rest : List Value} {fs : List Value} {W0 Wr : va_W} {P : Option Value → va_W → Prop} (C : CC G cc nL own) (hHR : CHR G (h + 1)) (d : decode cc pc = .ok (.invokevirtual i, 3)) (w1 : Cond.methodLink own i y ∈ gW) (w2 : Cond.sameMethod y.cls y.cls y.name y.desc ∈ gW) (w3 : Cond.selects RJ4 y y ∈ gW ∨ y ∈ prvL) (w4 : Cond.instanceMethod y ∈ gW) (w5 : Cond.initialized y.cls ∈ gW) (w6 : Cond.code y b maxL ret ∈ gW) (hy : y.cls ≠ "java/lang/invoke/MethodHandle" ∧ y.cls ≠ "java/lang/invoke/VarHandle") (hd : (parseMethodDescriptor y.desc).map (fun d => d.parameters.length) = some n) (hM : CMet (CGL G) y (.code y b maxL ret) h mc ms (CGV G) (.ref a :: as) W0 P) (he : W0[0]? = some (a, .inr (1, fs))) (hw : W9.Perm (W0 ++ Wr)) (hst : st = as.reverse ++ .ref a :: rest) (hn : as.length = n) (hk : catS rest ≤ 8) (hmx : maxL ≤ 45) (hrc : mc + rc' ≤ rc) (hrs : ms + rs' ≤ rs)
    (k : ∀ (v : Option Value) (W1 : va_W), P v W1 → CW G rc' rs' (pc + 3) ls (v.toList ++ rest) (W1 ++ Wr)) : CW G rc rs pc ls st W9 := by
  obtain ⟨p, l, e, R, s, m, args, below, meth, c, Q, A, V⟩ := G
  subst hst
  intro H locs cells slots lsM hP hD hS hl9 h1 h2
  replace hP := hP.perm hw
  replace hD := hD.perm hw
  obtain ⟨hx, hb, hml, hown, hts, hE, hA, hlk⟩ := C
  have cw : va_CU R s args own RJ4 y.cls i y y b maxL ret (.code y b maxL ret :: gW) (rmh h mc ms) mc ms n := ⟨⟨rfl, rfl, hHR.1, (by have := hHR.2; show 8 + (maxL + 11) + 64 * h ≤ R.locals; omega), gW_pay hts w6, List.mem_cons_self⟩, hts _ w6, hts _ w5, hy, fun sig h9 => by rw [h9] at hd; exact (Option.some.inj hd).symm, hts _ w1, hts _ w2, va_Decl.of (hts _ w4) (hts _ w6), w3.elim (fun z => hts _ z) (fun z => va_Nw.use rfl (hE.2.2.1.2.2 y z)), hts _ w4⟩
  have he' : (W0 ++ Wr)[0]? = some (a, .inr (1, fs)) := by
    rw [List.getElem?_append_left (List.getElem?_eq_some_iff.mp he).1]
    exact he
  refine cw_back (W0 := W0) (Wr := Wr) (mc := mc) (ms := ms) (rest := rest) hA hP hD hS (va_runU (C := RJ4) (As := as) (nL := nL) (b := a) ⟨hx, hb, hml, hown, hts⟩ (hM H.size) cw ⟨PcC_blind, va_recv hE.1 hP rfl he', fun U hU hW => ?_⟩ rfl hn (by show lsM.size = nL; rw [hl9.1, hml]) rfl (lv_room hk) d ⟨by omega, by omega⟩) (fun v W1 H1 locs1 hp hP1 hD1 hS1 => k v W1 hp H1 locs1 (cells + mc) (slots + ms) lsM hP1 hD1 hS1 hl9 (by omega) (by omega))
  subst hU
  exact PcC_at hE hA hW hS hP hD
theorem cw_min {i : Nat} {x y : Int32} (C : CC G cc nL own) (hH : CHR G 1) (d : decode cc pc = .ok (.invokestatic i, 3)) (hl0 : Cond.methodLink own i Lib.Math.min.name ∈ gW) (hk : catS st ≤ 8) (k : CW G rc rs (pc + 3) ls (.int (if y < x then y else x) :: st) W9) : CW G rc rs pc ls (.int y :: .int x :: st) W9 := by
  obtain ⟨p, l, e, R, s, m, args, below, meth, c, Q, A, V⟩ := G
  intro H locs cells slots lsM hP hD hS hl h1 h2
  exact va_mmin C.1 C.2.1 hl.1.symm C.2.2.2.1 (C.2.2.2.2.1 _ hl0) (C.2.2.2.2.1 _ math_min.1) (C.2.2.2.2.1 _ math_min.2.1) (C.2.2.2.2.1 _ math_min.2.2) hH.1 (by have := hH.2; unfold catS at hk; omega) (by omega) (by omega) d (k H locs cells slots lsM hP hD hS hl h1 h2)
theorem cw_max {i : Nat} {x y : Int32} (C : CC G cc nL own) (hH : CHR G 1) (d : decode cc pc = .ok (.invokestatic i, 3)) (hl0 : Cond.methodLink own i Lib.Math.max.name ∈ gW) (hk : catS st ≤ 8) (k : CW G rc rs (pc + 3) ls (.int (if x < y then y else x) :: st) W9) : CW G rc rs pc ls (.int y :: .int x :: st) W9 := by
  obtain ⟨p, l, e, R, s, m, args, below, meth, c, Q, A, V⟩ := G
  intro H locs cells slots lsM hP hD hS hl h1 h2
  exact va_mmax C.1 C.2.1 hl.1.symm C.2.2.2.1 (C.2.2.2.2.1 _ hl0) (C.2.2.2.2.1 _ math_max.1) (C.2.2.2.2.1 _ math_max.2.1) (C.2.2.2.2.1 _ math_max.2.2) hH.1 (by have := hH.2; unfold catS at hk; omega) (by omega) (by omega) d (k H locs cells slots lsM hP hD hS hl h1 h2)
theorem cw_copyB {i q0 q1 a0 a n0 n1 : Nat} {f g : Nat → Int32} {sp dp n : Int32} (C : CC G cc nL own) (hH : CHR G 1) (d : decode cc pc = .ok (.invokestatic i, 3)) (hl0 : Cond.methodLink own i arraycopyName ∈ gW) (w1 : Cond.native arraycopyName ∈ gW) (w2 : Cond.static arraycopyName ∈ gW) (w3 : Cond.initialized "java/lang/System" ∈ gW) (ha0 : W9[q0]? = some (a0, .inl ((CGV G).2.2 0, n0, .inl f))) (ha1 : W9[q1]? = some (a, .inl ((CGV G).2.2 0, n1, .inl g))) (h1 : ¬ sp < 0) (h2 : ¬ dp < 0) (h3 : ¬ n < 0) (h4 : sp.toNatClampNeg + n.toNatClampNeg ≤ n0) (h5 : dp.toNatClampNeg + n.toNatClampNeg ≤ n1) (hfit : ∀ i, i < n.toNatClampNeg → fits .byte (.int (f (sp.toNatClampNeg + i))) = true) (hk : catS st ≤ 8) (k : CW G rc rs (pc + 3) ls st (W9.set q1 (a, .inl ((CGV G).2.2 0, n1, .inl (va_cpy f g sp.toNatClampNeg dp.toNatClampNeg n.toNatClampNeg))))) : CW G rc rs pc ls (.int n :: .int dp :: .ref a :: .int sp :: .ref a0 :: st) W9 := by
  obtain ⟨p, l, e, R, s, m, args, below, meth, c, Q, A, V⟩ := G
  intro H locs cells slots lsM hP hD hS hl z1 z2
  have hlo : (st.map fun v => v.category).sum + (nativeFrameWords "java/lang/System" "arraycopy" 5 + 11) ≤ R.locals := by
    have h1 := hH.2
    have e9 : nativeFrameWords "java/lang/System" "arraycopy" 5 + 11 ≤ 40 := by decide
    unfold catS at hk
    omega
  exact va_copyi C.1 C.2.1 hl.1.symm C.2.2.2.1 (C.2.2.2.2.1 _ hl0) (C.2.2.2.2.1 _ w1) (C.2.2.2.2.1 _ w2) (C.2.2.2.2.1 _ w3) C.2.2.2.2.2.1.1 hP hD hS q0 q1 0 0 ha0 ha1 (tyL_at V (by decide)) (tyL_at V (by decide)) rfl h1 h2 h3 h4 h5 hfit hH.1 hlo d (fun H1 locs1 hP hD hS => k H1 locs1 cells slots lsM hP hD hS hl z1 z2)
/-- the tables of digits -/
theorem cw_dig {i i2 : Nat} {x : Int32} {fn : Nat → Nat} {nm : String} (C : CC G cc nL own) (hT : (nm = "DigitOnes" ∧ fn = fun j => 48 + j % 10) ∨ (nm = "DigitTens" ∧ fn = fun j => 48 + j / 10)) (d : decode cc pc = .ok (.getstatic i, 3)) (hl0 : Cond.fieldLink own i RJ6 nm "[B" ∈ gW) (hin : vp_in x 100)
    (k : ∀ t : Nat, (∀ {ls' : List (Option PV)} {st' : List Value} {W' : va_W} {rc' rs' : Nat} {pc' : Nat}, decode cc pc' = .ok (.baload, 1) → CW G rc' rs' (pc' + 1) ls' (.int (nI (fn x.toNatClampNeg)) :: st') W' → CW G rc' rs' pc' ls' (.int x :: .ref t :: st') W') → CW G rc rs (pc + 3) ls (.ref t :: st) W9) : CW G rc rs pc ls st W9 := by
  obtain ⟨p, l, e, R, s, m, args, below, meth, c, Q, A, V⟩ := G
  obtain ⟨t, z1, z2⟩ : ∃ t, va_Z RJ6 nm "[B" (.ref t) A s s.heap ∧ va_T .byte t 100 (fun j => .int (nI (fn j))) A s s.heap := by
    rcases hT with ⟨rfl, rfl⟩ | ⟨rfl, rfl⟩
    · exact C.2.2.2.2.2.1.2.2.2.2.2.1
    · exact C.2.2.2.2.2.1.2.2.2.2.2.2
  have K := k t (fun {ls' st' W' rc' rs' pc'} d2 k2 => by
    intro H locs cells slots lsM hP hD hS hl h1 h2
    exact va_tb C.1 C.2.1 z2 hS hin rfl d2 (k2 H locs cells slots lsM hP hD hS hl h1 h2))
  intro H locs cells slots lsM hP hD hS hl h1 h2
  exact va_gets C.1 C.2.1 z1 hS C.2.2.2.1 (C.2.2.2.2.1 _ hl0) (fun x h => h) d (K H locs cells slots lsM hP hD hS hl h1 h2)
theorem cw_getF {i : Nat} (C : CC G cc nL own) (d : decode cc pc = .ok (.getstatic i, 3)) (hl0 : Cond.fieldLink own i RPre "SIOOBE_FORMATTER" "Ljava/util/function/BiFunction;" ∈ gW) (k : ∀ v : Value, v.category = 1 → CW G rc rs (pc + 3) ls (v :: st) W9) : CW G rc rs pc ls st W9 := by
  obtain ⟨p, l, e, R, s, m, args, below, meth, c, Q, A, V⟩ := G
  intro H locs cells slots lsM hP hD hS hl h1 h2
  rcases C.2.2.2.2.2.1.2.2.2.2.1 with z | ⟨t, z⟩
  · exact va_gets C.1 C.2.1 z hS C.2.2.2.1 (C.2.2.2.2.1 _ hl0) (fun x h => h) d (k _ rfl H locs cells slots lsM hP hD hS hl h1 h2)
  · exact va_gets C.1 C.2.1 z hS C.2.2.2.1 (C.2.2.2.2.1 _ hl0) (fun x h => h) d (k _ rfl H locs cells slots lsM hP hD hS hl h1 h2)
end CWs
