-- more rules of walks over growing worlds: branches, arrays, statics, calls
section CWl
variable {G : CG} {cc : ByteArray} {nL : Nat} {own : String} {rc rs pc : Nat} {ls : List (Option PV)} {st : List Value} {W9 : va_W}
theorem cw_icmp_eq {x y : Int32} {off : Int} {tgt : Nat} (C : CC G cc nL own) (d : decode cc pc = .ok (.if_icmp .eq off, 3)) (ht : (pc : Int) + off = (tgt : Int)) (kt : x = y → CW G rc rs tgt ls st W9) (kf : ¬ x = y → CW G rc rs (pc + 3) ls st W9) : CW G rc rs pc ls (.int y :: .int x :: st) W9 := by
  obtain ⟨p, l, e, R, s, m, args, below, meth, c, Q, A, V⟩ := G
  intro H locs cells slots lsM hP hD hS hl h1 h2
  exact lv_icmp_eq C.1 C.2.1 d ht (fun z => kt z H locs cells slots lsM hP hD hS hl h1 h2) (fun z => kf z H locs cells slots lsM hP hD hS hl h1 h2)
theorem cw_icmp_ne {x y : Int32} {off : Int} {tgt : Nat} (C : CC G cc nL own) (d : decode cc pc = .ok (.if_icmp .ne off, 3)) (ht : (pc : Int) + off = (tgt : Int)) (kt : ¬ x = y → CW G rc rs tgt ls st W9) (kf : x = y → CW G rc rs (pc + 3) ls st W9) : CW G rc rs pc ls (.int y :: .int x :: st) W9 := by
  obtain ⟨p, l, e, R, s, m, args, below, meth, c, Q, A, V⟩ := G
  intro H locs cells slots lsM hP hD hS hl h1 h2
  exact lv_icmp_ne C.1 C.2.1 d ht (fun z => kt z H locs cells slots lsM hP hD hS hl h1 h2) (fun z => kf z H locs cells slots lsM hP hD hS hl h1 h2)
theorem cw_icmp_lt {x y : Int32} {off : Int} {tgt : Nat} (C : CC G cc nL own) (d : decode cc pc = .ok (.if_icmp .lt off, 3)) (ht : (pc : Int) + off = (tgt : Int)) (kt : x < y → CW G rc rs tgt ls st W9) (kf : ¬ x < y → CW G rc rs (pc + 3) ls st W9) : CW G rc rs pc ls (.int y :: .int x :: st) W9 := by
  obtain ⟨p, l, e, R, s, m, args, below, meth, c, Q, A, V⟩ := G
  intro H locs cells slots lsM hP hD hS hl h1 h2
  exact lv_icmp_lt C.1 C.2.1 d ht (fun z => kt z H locs cells slots lsM hP hD hS hl h1 h2) (fun z => kf z H locs cells slots lsM hP hD hS hl h1 h2)
theorem cw_icmp_ge {x y : Int32} {off : Int} {tgt : Nat} (C : CC G cc nL own) (d : decode cc pc = .ok (.if_icmp .ge off, 3)) (ht : (pc : Int) + off = (tgt : Int)) (kt : y ≤ x → CW G rc rs tgt ls st W9) (kf : ¬ y ≤ x → CW G rc rs (pc + 3) ls st W9) : CW G rc rs pc ls (.int y :: .int x :: st) W9 := by
  obtain ⟨p, l, e, R, s, m, args, below, meth, c, Q, A, V⟩ := G
  intro H locs cells slots lsM hP hD hS hl h1 h2
  exact lv_icmp_ge C.1 C.2.1 d ht (fun z => kt z H locs cells slots lsM hP hD hS hl h1 h2) (fun z => kf z H locs cells slots lsM hP hD hS hl h1 h2)
theorem cw_icmp_gt {x y : Int32} {off : Int} {tgt : Nat} (C : CC G cc nL own) (d : decode cc pc = .ok (.if_icmp .gt off, 3)) (ht : (pc : Int) + off = (tgt : Int)) (kt : y < x → CW G rc rs tgt ls st W9) (kf : ¬ y < x → CW G rc rs (pc + 3) ls st W9) : CW G rc rs pc ls (.int y :: .int x :: st) W9 := by
  obtain ⟨p, l, e, R, s, m, args, below, meth, c, Q, A, V⟩ := G
  intro H locs cells slots lsM hP hD hS hl h1 h2
  exact lv_icmp_gt C.1 C.2.1 d ht (fun z => kt z H locs cells slots lsM hP hD hS hl h1 h2) (fun z => kf z H locs cells slots lsM hP hD hS hl h1 h2)
theorem cw_icmp_le {x y : Int32} {off : Int} {tgt : Nat} (C : CC G cc nL own) (d : decode cc pc = .ok (.if_icmp .le off, 3)) (ht : (pc : Int) + off = (tgt : Int)) (kt : x ≤ y → CW G rc rs tgt ls st W9) (kf : ¬ x ≤ y → CW G rc rs (pc + 3) ls st W9) : CW G rc rs pc ls (.int y :: .int x :: st) W9 := by
  obtain ⟨p, l, e, R, s, m, args, below, meth, c, Q, A, V⟩ := G
  intro H locs cells slots lsM hP hD hS hl h1 h2
  exact lv_icmp_le C.1 C.2.1 d ht (fun z => kt z H locs cells slots lsM hP hD hS hl h1 h2) (fun z => kf z H locs cells slots lsM hP hD hS hl h1 h2)
theorem cw_if_eq {x : Int32} {off : Int} {tgt : Nat} (C : CC G cc nL own) (d : decode cc pc = .ok (.ifCond .eq off, 3)) (ht : (pc : Int) + off = (tgt : Int)) (kt : x = 0 → CW G rc rs tgt ls st W9) (kf : ¬ x = 0 → CW G rc rs (pc + 3) ls st W9) : CW G rc rs pc ls (.int x :: st) W9 := by
  obtain ⟨p, l, e, R, s, m, args, below, meth, c, Q, A, V⟩ := G
  intro H locs cells slots lsM hP hD hS hl h1 h2
  exact lv_if_eq C.1 C.2.1 d ht (fun z => kt z H locs cells slots lsM hP hD hS hl h1 h2) (fun z => kf z H locs cells slots lsM hP hD hS hl h1 h2)
theorem cw_if_ne {x : Int32} {off : Int} {tgt : Nat} (C : CC G cc nL own) (d : decode cc pc = .ok (.ifCond .ne off, 3)) (ht : (pc : Int) + off = (tgt : Int)) (kt : ¬ x = 0 → CW G rc rs tgt ls st W9) (kf : x = 0 → CW G rc rs (pc + 3) ls st W9) : CW G rc rs pc ls (.int x :: st) W9 := by
  obtain ⟨p, l, e, R, s, m, args, below, meth, c, Q, A, V⟩ := G
  intro H locs cells slots lsM hP hD hS hl h1 h2
  exact lv_if_ne C.1 C.2.1 d ht (fun z => kt z H locs cells slots lsM hP hD hS hl h1 h2) (fun z => kf z H locs cells slots lsM hP hD hS hl h1 h2)
theorem cw_if_lt {x : Int32} {off : Int} {tgt : Nat} (C : CC G cc nL own) (d : decode cc pc = .ok (.ifCond .lt off, 3)) (ht : (pc : Int) + off = (tgt : Int)) (kt : x < 0 → CW G rc rs tgt ls st W9) (kf : ¬ x < 0 → CW G rc rs (pc + 3) ls st W9) : CW G rc rs pc ls (.int x :: st) W9 := by
  obtain ⟨p, l, e, R, s, m, args, below, meth, c, Q, A, V⟩ := G
  intro H locs cells slots lsM hP hD hS hl h1 h2
  exact lv_if_lt C.1 C.2.1 d ht (fun z => kt z H locs cells slots lsM hP hD hS hl h1 h2) (fun z => kf z H locs cells slots lsM hP hD hS hl h1 h2)
theorem cw_if_ge {x : Int32} {off : Int} {tgt : Nat} (C : CC G cc nL own) (d : decode cc pc = .ok (.ifCond .ge off, 3)) (ht : (pc : Int) + off = (tgt : Int)) (kt : 0 ≤ x → CW G rc rs tgt ls st W9) (kf : ¬ 0 ≤ x → CW G rc rs (pc + 3) ls st W9) : CW G rc rs pc ls (.int x :: st) W9 := by
  obtain ⟨p, l, e, R, s, m, args, below, meth, c, Q, A, V⟩ := G
  intro H locs cells slots lsM hP hD hS hl h1 h2
  exact lv_if_ge C.1 C.2.1 d ht (fun z => kt z H locs cells slots lsM hP hD hS hl h1 h2) (fun z => kf z H locs cells slots lsM hP hD hS hl h1 h2)
theorem cw_if_gt {x : Int32} {off : Int} {tgt : Nat} (C : CC G cc nL own) (d : decode cc pc = .ok (.ifCond .gt off, 3)) (ht : (pc : Int) + off = (tgt : Int)) (kt : 0 < x → CW G rc rs tgt ls st W9) (kf : ¬ 0 < x → CW G rc rs (pc + 3) ls st W9) : CW G rc rs pc ls (.int x :: st) W9 := by
  obtain ⟨p, l, e, R, s, m, args, below, meth, c, Q, A, V⟩ := G
  intro H locs cells slots lsM hP hD hS hl h1 h2
  exact lv_if_gt C.1 C.2.1 d ht (fun z => kt z H locs cells slots lsM hP hD hS hl h1 h2) (fun z => kf z H locs cells slots lsM hP hD hS hl h1 h2)
theorem cw_if_le {x : Int32} {off : Int} {tgt : Nat} (C : CC G cc nL own) (d : decode cc pc = .ok (.ifCond .le off, 3)) (ht : (pc : Int) + off = (tgt : Int)) (kt : x ≤ 0 → CW G rc rs tgt ls st W9) (kf : ¬ x ≤ 0 → CW G rc rs (pc + 3) ls st W9) : CW G rc rs pc ls (.int x :: st) W9 := by
  obtain ⟨p, l, e, R, s, m, args, below, meth, c, Q, A, V⟩ := G
  intro H locs cells slots lsM hP hD hS hl h1 h2
  exact lv_if_le C.1 C.2.1 d ht (fun z => kt z H locs cells slots lsM hP hD hS hl h1 h2) (fun z => kf z H locs cells slots lsM hP hD hS hl h1 h2)
theorem cw_alen {j a q : Nat} {x : vp_A} {v : Int32} (C : CC G cc nL own) (d : decode cc pc = .ok (.arraylength, 1)) (ha : W9[j]? = some (q, .inl ((CGV G).2.2 a, x))) (h8 : a < 8) (hv : Int32.ofNat x.1 = v) (k : CW G rc rs (pc + 1) ls (.int v :: st) W9) : CW G rc rs pc ls (.ref q :: st) W9 := by
  obtain ⟨p, l, e, R, s, m, args, below, meth, c, Q, A, V⟩ := G
  intro H locs cells slots lsM hP hD hS hl h1 h2
  exact va_alen C.1 C.2.1 C.2.2.2.2.2.1.1 hP j a ha (tyL_at V h8) hv d (k H locs cells slots lsM hP hD hS hl h1 h2)
theorem cw_iast {j q n : Nat} {f : Nat → Int32} {i x : Int32} (C : CC G cc nL own) (d : decode cc pc = .ok (.iastore, 1)) (ha : W9[j]? = some (q, .inl ((CGV G).2.2 2, n, .inl f))) (hin : vp_in i n) (k : CW G rc rs (pc + 1) ls st (W9.set j (q, .inl ((CGV G).2.2 2, n, .inl (upd f i.toNatClampNeg x))))) : CW G rc rs pc ls (.int x :: .int i :: .ref q :: st) W9 := by
  obtain ⟨p, l, e, R, s, m, args, below, meth, c, Q, A, V⟩ := G
  intro H locs cells slots lsM hP hD hS hl h1 h2
  exact va_iast C.1 C.2.1 C.2.2.2.2.2.1.1 hP hD hS j 2 ha (tyL_at V (by decide)) hin d (fun H1 locs1 hP hD hS => k H1 locs1 cells slots lsM hP hD hS hl h1 h2)
theorem cw_bast {j q n : Nat} {f : Nat → Int32} {i x : Int32} (C : CC G cc nL own) (d : decode cc pc = .ok (.bastore, 1)) (ha : W9[j]? = some (q, .inl ((CGV G).2.2 0, n, .inl f))) (hin : vp_in i n) (k : CW G rc rs (pc + 1) ls st (W9.set j (q, .inl ((CGV G).2.2 0, n, .inl (upd f i.toNatClampNeg (vp_nar .byte x)))))) : CW G rc rs pc ls (.int x :: .int i :: .ref q :: st) W9 := by
  obtain ⟨p, l, e, R, s, m, args, below, meth, c, Q, A, V⟩ := G
  intro H locs cells slots lsM hP hD hS hl h1 h2
  exact va_bast C.1 C.2.1 C.2.2.2.2.2.1.1 hP hD hS j 0 ha (tyL_at V (by decide)) hin d (fun H1 locs1 hP hD hS => k H1 locs1 cells slots lsM hP hD hS hl h1 h2)
theorem cw_bald {j q n : Nat} {f : Nat → Int32} {i : Int32} (C : CC G cc nL own) (d : decode cc pc = .ok (.baload, 1)) (ha : W9[j]? = some (q, .inl ((CGV G).2.2 0, n, .inl f))) (hin : vp_in i n) (k : CW G rc rs (pc + 1) ls (.int (f i.toNatClampNeg) :: st) W9) : CW G rc rs pc ls (.int i :: .ref q :: st) W9 := by
  obtain ⟨p, l, e, R, s, m, args, below, meth, c, Q, A, V⟩ := G
  intro H locs cells slots lsM hP hD hS hl h1 h2
  exact va_bald C.1 C.2.1 C.2.2.2.2.2.1.1 hP j 0 ha (tyL_at V (by decide)) hin d (k H locs cells slots lsM hP hD hS hl h1 h2)
theorem cw_aald {j a q n r : Nat} {f : Nat → Option Nat} {i : Int32} (C : CC G cc nL own) (d : decode cc pc = .ok (.aaload, 1)) (ha : W9[j]? = some (q, .inl ((CGV G).2.2 a, n, .inr (.inr (.inr (.inr f)))))) (h8 : a < 8) (hr : (aty a).isReference = true) (hin : vp_in i n) (hf : f i.toNatClampNeg = some r) (k : CW G rc rs (pc + 1) ls (.ref r :: st) W9) : CW G rc rs pc ls (.int i :: .ref q :: st) W9 := by
  obtain ⟨p, l, e, R, s, m, args, below, meth, c, Q, A, V⟩ := G
  intro H locs cells slots lsM hP hD hS hl h1 h2
  have hlt : i.toNatClampNeg < n := Nat.not_le.mp fun z => hin (Or.inr z)
  exact W.aald (v := .ref r) (ty := aty a) C.1 C.2.1 (hP j _ ha) ((C.2.2.2.2.2.1.1.2 a _ (tyL_at V h8)).1 n (fun z => va_rf (f z))) hr (fun z => by cases z) (by show ¬ (i < 0 ∨ (arrV _ _ _).slots.size ≤ _); rw [arrV_size]; exact hin) (by show (arrV _ _ _).slots[_]? = _; rw [arrV_read _ _ hlt, hf]; rfl) rfl rfl d (k H locs cells slots lsM hP hD hS hl h1 h2)
theorem cw_aast {j jk ci a q n v : Nat} {r : vw_C} {vs : List Value} {f : Nat → Option Nat} {i : Int32} (C : CC G cc nL own) (d : decode cc pc = .ok (.aastore, 1)) (ha : W9[j]? = some (q, .inl ((CGV G).2.2 a, n, .inr (.inr (.inr (.inr f)))))) (h8 : a < 8) (ht : aty a = .object r.1) (hv : W9[jk]? = some (v, .inr (ci, vs))) (hc : vwCl[ci]? = some r) (hin : vp_in i n) (k : CW G rc rs (pc + 1) ls st (W9.set j (q, .inl ((CGV G).2.2 a, n, .inr (.inr (.inr (.inr (va_up f i.toNatClampNeg (some v))))))))) : CW G rc rs pc ls (.ref v :: .int i :: .ref q :: st) W9 := by
  obtain ⟨p, l, e, R, s, m, args, below, meth, c, Q, A, V⟩ := G
  intro H locs cells slots lsM hP hD hS hl h1 h2
  exact va_astq C.1 C.2.1 C.2.2.2.2.2.1.1 hP hD hS j a jk ci ha (by rw [tyL_at V h8, ht]; rfl) hv hc hin d (fun H1 locs1 hP hD hS => k H1 locs1 cells slots lsM hP hD hS hl h1 h2)
/-- anewarray of stores -/
theorem cw_newq {i N : Nat} {n : Int32} {pre Wr : va_W} (C : CC G cc nL own) (d : decode cc pc = .ok (.anewarray i, 3)) (h1 : Cond.classLink own i RX7 ∈ gW) (hn : ¬ n < 0) (hN : n.toNatClampNeg = N) (hb : N * 4 ≤ 536870912) (hw : W9 = pre ++ Wr)
    (k : ∀ q : Nat, CW G rc rs (pc + 3) ls (.ref q :: st) (pre ++ (q, .inl ((CGV G).2.2 4, N, .inr (.inr (.inr (.inr (fun _ => none)))))) :: Wr)) : CW G (rc + 1) (rs + N) pc ls (.int n :: st) W9 := by
  obtain ⟨p, l, e, R, s, m, args, below, meth, c, Q, A, V⟩ := G
  subst hw
  intro H locs cells slots lsM hP hD hS hl h4 h5
  refine va_newq C.1 C.2.1 C.2.2.2.1 (C.2.2.2.2.1 _ h1) C.2.2.2.2.2.1.2.2.1.1 C.2.2.2.2.2.1.1 hP hD hS C.2.2.2.2.2.2.1 hn hN hb (by omega) (by omega) d (fun q cA H1 hK hP hD hS => ?_)
  obtain ⟨-, -, -, -, -, e1⟩ := (hK.2 (tyL V).length (cA, .object RX7) (by simp)).2
  obtain ⟨-, -, -, -, -, e2⟩ := (C.2.2.2.2.2.1.1.2 4 _ (tyL_at V (by decide))).2
  have ec : cA = V.2.2 4 := Option.some.inj (Eq.trans (Eq.symm e1) e2)
  subst ec
  have pm : ∀ x : Nat × va_E, ((pre ++ Wr) ++ [x]).Perm (pre ++ x :: Wr) := fun x => by
    rw [List.append_assoc]
    exact List.Perm.append_left _ List.perm_append_comm
  exact k q H1 locs (cells + 1) (slots + N) lsM (hP.perm (pm _)) (hD.perm (pm _)) hS hl (by omega) (by omega)
/-- another way to write a world -/
theorem cw_conv {W' : va_W} (ha : W9.map Prod.fst = W'.map Prod.fst) (hc : ∀ (V : VT) (H : Heap), V = CGV G → va_P V.2.1 vwCl W9 H → va_P V.2.1 vwCl W' H) (k : CW G rc rs pc ls st W') : CW G rc rs pc ls st W9 := by
  obtain ⟨p, l, e, R, s, m, args, below, meth, c, Q, A, V⟩ := G
  intro H locs cells slots lsM hP hD hS hl h1 h2
  obtain ⟨d1, d2⟩ := va_D_iff.mp hD
  refine k H locs cells slots lsM (hc V H rfl hP) (va_D_iff.mpr ⟨by rw [← ha]; exact d1, fun q hq => ?_⟩) hS hl h1 h2
  have : q.1 ∈ W9.map Prod.fst := by rw [ha]; exact List.mem_map.mpr ⟨q, hq, rfl⟩
  obtain ⟨q9, h9, e9⟩ := List.mem_map.mp this
  exact e9 ▸ d2 q9 h9
/-- a call of a static method -/
theorem cw_callS {i h mc ms n maxL rc' rs' : Nat} {y : MethodName} {b : ByteArray} {ret : Option FieldType} {as rest : List Value} {W0 Wr : va_W} {P : Option Value → va_W → Prop} (C : CC G cc nL own) (hHR : CHR G (h + 1)) (d : decode cc pc = .ok (.invokestatic i, 3)) (hl : Cond.methodLink own i y ∈ gW) (hm : MS y b maxL ret n) (hM : CMet (CGL G) y (.code y b maxL ret) h mc ms (CGV G) as W0 P) (hw : W9.Perm (W0 ++ Wr)) (hst : st = as.reverse ++ rest) (hn : as.length = n) (hk : catS rest ≤ 8) (hmx : maxL ≤ 45) (hrc : mc + rc' ≤ rc) (hrs : ms + rs' ≤ rs)
    (k : ∀ (v : Option Value) (W1 : va_W), P v W1 → CW G rc' rs' (pc + 3) ls (v.toList ++ rest) (W1 ++ Wr)) : CW G rc rs pc ls st W9 := by
  obtain ⟨p, l, e, R, s, m, args, below, meth, c, Q, A, V⟩ := G
  subst hst
  intro H locs cells slots lsM hP hD hS hl9 h1 h2
  replace hP := hP.perm hw
  replace hD := hD.perm hw
  obtain ⟨hx, hb, hml, hown, hts, hE, hA, hlk⟩ := C
  obtain ⟨m1, m3, m4, m5, m6, m7⟩ := hm
  have cw : CallB R s args own i y b maxL ret (.code y b maxL ret :: gW) (rmh h mc ms) mc ms n := ⟨rfl, rfl, hHR.1, (by have := hHR.2; show 8 + (maxL + 11) + 64 * h ≤ R.locals; omega), gW_pay hts m4, List.mem_cons_self, hts _ m4, hts _ m3, m5, fun sig h9 => by rw [h9] at m6; exact (Option.some.inj m6).symm, hts _ hl⟩
  refine cw_back (W0 := W0) (Wr := Wr) (mc := mc) (ms := ms) (rest := rest) hA hP hD hS (va_runS (As := as) (nL := nL) ⟨hx, hb, hml, hown, hts⟩ (hM H.size) ⟨cw, hts _ m1⟩ ⟨PcC_blind, fun U hU hW => ?_⟩ rfl hn (by show lsM.size = nL; rw [hl9.1, hml]) rfl (lv_room hk) d ⟨by omega, by omega⟩) (fun v W1 H1 locs1 hp hP1 hD1 hS1 => k v W1 hp H1 locs1 (cells + mc) (slots + ms) lsM hP1 hD1 hS1 hl9 (by omega) (by omega))
  subst hU
  exact PcC_at hE hA hW hS hP hD
end CWl
