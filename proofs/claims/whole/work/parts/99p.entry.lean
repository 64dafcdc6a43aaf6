-- what the law's start gives (gen/mk_ent.py)
theorem inJ0 : ∀ w ∈ u_ws RJ0 TJ0 4, w ∈ gW := by
  intro w h
  obtain ⟨k, hk, rfl⟩ := List.mem_map.mp h
  have hk := List.mem_range.mp hk
  match k, hk with
  | 0, _ => exact (gw3 201 rfl rfl)
  | 1, _ => exact (gw3 203 rfl rfl)
  | 2, _ => exact (gw7 160 rfl rfl)
  | 3, _ => exact (gw7 162 rfl rfl)
  | k + 4, h => exact absurd h (by omega)
theorem inJx00060 : ∀ w ∈ u_ws RJx00060 TJx00060 6, w ∈ gW := by
  intro w h
  obtain ⟨k, hk, rfl⟩ := List.mem_map.mp h
  have hk := List.mem_range.mp hk
  match k, hk with
  | 0, _ => exact (gw3 189 rfl rfl)
  | 1, _ => exact (gw3 190 rfl rfl)
  | 2, _ => exact (gw3 191 rfl rfl)
  | 3, _ => exact (gw3 192 rfl rfl)
  | 4, _ => exact (gw3 193 rfl rfl)
  | 5, _ => exact (gw3 194 rfl rfl)
  | k + 6, h => exact absurd h (by omega)
theorem inJx7c733 : ∀ w ∈ u_ws RJx7c733 TJx7c733 6, w ∈ gW := by
  intro w h
  obtain ⟨k, hk, rfl⟩ := List.mem_map.mp h
  have hk := List.mem_range.mp hk
  match k, hk with
  | 0, _ => exact (gw7 166 rfl rfl)
  | 1, _ => exact (gw7 167 rfl rfl)
  | 2, _ => exact (gw7 168 rfl rfl)
  | 3, _ => exact (gw7 169 rfl rfl)
  | 4, _ => exact (gw7 170 rfl rfl)
  | 5, _ => exact (gw7 171 rfl rfl)
  | k + 6, h => exact absurd h (by omega)
/-- the class of the arrays of arrays -/
theorem arrOver_arr {args : Array Value} {s : State} {t : FieldType} (h : (Cond.arrayOver (.array t)).before args s = true) : ∃ (comp c : ClassId) (k : Class), s.vm.findClass (FieldType.array t).toString = some comp ∧ s.vm.classes[c]? = some k ∧ k.kind = .array comp (.array t) ∧ s.vm.findClass ("[" ++ (FieldType.array t).toString) = some c := by
  simp only [Cond.before, Cond.holds, Cond.value, beq_iff_eq] at h
  cases hc : s.vm.findClass (FieldType.array t).toString with
  | none => simp [hc] at h
  | some comp =>
    simp only [hc, Option.bind_some, Option.bind_eq_some_iff, Option.map_eq_some_iff] at h
    obtain ⟨c, hi, k, hk, hb⟩ := h
    obtain ⟨hlt, hp, -⟩ := Array.findIdx?_eq_some_iff_getElem.mp hi
    rw [(Array.getElem?_eq_some_iff.mp hk).2] at hp
    cases hd : k.kind with
    | array co ty =>
      rw [hd] at hb hp
      simp at hb hp
      exact ⟨comp, c, k, rfl, hk, by rw [hd, hp, hb.1], hb.2⟩
    | _ => rw [hd] at hb; simp at hb
theorem arr_prim {args : Array Value} {s : State} {ty : FieldType} (h : (Cond.arrayClass ty).before args s = true) : ∃ (c : ClassId) (k : Class) (comp : ClassId), s.vm.findClass ("[" ++ ty.toString) = some c ∧ s.vm.classes[c]? = some k ∧ k.kind = .array comp ty := Cond.arrayClass_spec h
theorem arr_of {s : State} {cA comp : ClassId} {kA : Class} {ty : FieldType} (h2 : s.vm.classes[cA]? = some kA) (h3 : kA.kind = .array comp ty) : ArrOfT s cA ty := fun n z => ⟨fun k h => (by cases h), kA, h2, comp, h3⟩
theorem law_K {args : Array Value} {s : State} (ht : ∀ w ∈ lw_tbl, w.before args s = true) : ∃ V : VT, va_K V.2.1 vwCl (tyL V) s ∧ va_AO RX7 s ∧ va_M2 V s := by
  have hg : ∀ w ∈ gW, w.before args s = true := fun w h => ht w (gW_good w h).1
  obtain ⟨c0, i0, h0⟩ := u_known (C := RJ0) (T := TJ0) (N := 4) (n := 4) hg inJ0 (hg _ (gw3 200 rfl rfl))
  obtain ⟨c1, i1, h1⟩ := u_known (C := RJ4) (T := TJ4) (N := 4) (n := 4) hg inJ4 (hg _ (gw1 176 rfl rfl))
  obtain ⟨c2, i2, h2⟩ := u_known (C := RJx00060) (T := TJx00060) (N := 6) (n := 6) hg inJx00060 (hg _ (gw3 182 rfl rfl))
  obtain ⟨c3, i3, h3⟩ := u_known (C := RJx7c733) (T := TJx7c733) (N := 6) (n := 6) hg inJx7c733 (hg _ (gw6 194 rfl rfl))
  obtain ⟨c4, i4, h4⟩ := u_known (C := RX0) (T := TX0) (N := 5) (n := 5) hg inX0 (hg _ (gw1 209 rfl rfl))
  obtain ⟨c5, i5, h5⟩ := u_known (C := RX1) (T := TX1) (N := 3) (n := 3) hg inX1 (hg _ (gw2 87 rfl rfl))
  obtain ⟨c6, i6, h6⟩ := u_known (C := RX2) (T := TX2) (N := 10) (n := 10) hg inX2 (hg _ (gw1 236 rfl rfl))
  obtain ⟨c7, i7, h7⟩ := u_known (C := RX3) (T := TX3) (N := 3) (n := 3) hg inX3 (hg _ (gw1 119 rfl rfl))
  obtain ⟨c8, i8, h8⟩ := u_known (C := RX4) (T := TX4) (N := 3) (n := 3) hg inX4 (hg _ (gw1 157 rfl rfl))
  obtain ⟨c9, i9, h9⟩ := u_known (C := RX5) (T := TX5) (N := 11) (n := 11) hg inX5 (hg _ (gw2 43 rfl rfl))
  obtain ⟨c10, i10, h10⟩ := u_known (C := RX6) (T := TX6) (N := 2) (n := 2) hg inX6 (hg _ (gw1 139 rfl rfl))
  obtain ⟨c11, i11, h11⟩ := u_known (C := RX7) (T := TX7) (N := 11) (n := 11) hg inX7 (hg _ (gw1 43 rfl rfl))
  obtain ⟨c12, i12, h12⟩ := u_known (C := RX8) (T := TX8) (N := 14) (n := 14) hg inX8 (hg _ (gw1 35 rfl rfl))
  obtain ⟨c13, i13, h13⟩ := u_known (C := RX9) (T := TX9) (N := 34) (n := 34) hg inX9 (hg _ (gw8 15 rfl rfl))
  obtain ⟨a0, k0, p0, n0, x0, z0⟩ := arr_prim (hg _ (gw1 207 rfl rfl))
  obtain ⟨a1, k1, p1, n1, x1, z1⟩ := arr_prim (hg _ (gw1 174 rfl rfl))
  obtain ⟨a2, k2, p2, n2, x2, z2⟩ := arr_prim (hg _ (gw1 116 rfl rfl))
  obtain ⟨a3, k3, p3, n3, x3, z3⟩ := arr_prim (hg _ (gw1 117 rfl rfl))
  obtain ⟨a6, k6, p6, n6, x6, z6⟩ := arr_prim (hg _ (gw10 99 rfl rfl))
  obtain ⟨a7, k7, p7, n7, x7, z7⟩ := arr_prim (hg _ (gw10 100 rfl rfl))
  obtain ⟨p4, a4, k4, m4, -, x4, z4, n4⟩ := Cond.arrayOver_spec (ht _ (tab1 _ (List.mem_of_getElem? (i := 125) rfl)))
  obtain ⟨p5, a5, k5, m5, x5, z5, n5⟩ := arrOver_arr (ht _ (tab1 _ (List.mem_of_getElem? (i := 145) rfl)))
  have e5 : p5 = a2 := Option.some.inj (Eq.trans (Eq.symm m5) n2)
  subst e5
  refine ⟨(fun _ _ => 0, (fun j => match j with | 0 => c0 | 1 => c1 | 2 => c2 | 3 => c3 | 4 => c4 | 5 => c5 | 6 => c6 | 7 => c7 | 8 => c8 | 9 => c9 | 10 => c10 | 11 => c11 | 12 => c12 | _ => c13, fun j => match j with | 0 => i0 | 1 => i1 | 2 => i2 | 3 => i3 | 4 => i4 | 5 => i5 | 6 => i6 | 7 => i7 | 8 => i8 | 9 => i9 | 10 => i10 | 11 => i11 | 12 => i12 | _ => i13), fun j => match j with | 0 => a0 | 1 => a1 | 2 => p5 | 3 => a3 | 4 => a4 | 5 => a5 | 6 => a6 | _ => a7), ⟨fun c q hq => ?_, fun k q hk => ?_⟩, va_AO.of (ht _ (tab1 _ (List.mem_of_getElem? (i := 125) rfl))), k5, k2, p2, x5, z5, x2, z2⟩
  · match c, hq with
    | 0, hq => cases hq; exact h0
    | 1, hq => cases hq; exact h1
    | 2, hq => cases hq; exact h2
    | 3, hq => cases hq; exact h3
    | 4, hq => cases hq; exact h4
    | 5, hq => cases hq; exact h5
    | 6, hq => cases hq; exact h6
    | 7, hq => cases hq; exact h7
    | 8, hq => cases hq; exact h8
    | 9, hq => cases hq; exact h9
    | 10, hq => cases hq; exact h10
    | 11, hq => cases hq; exact h11
    | 12, hq => cases hq; exact h12
    | 13, hq => cases hq; exact h13
    | c + 14, hq => simp [vwCl] at hq
  · match k, hk with
    | 0, hk => cases hk; exact ⟨arr_of x0 z0, n0⟩
    | 1, hk => cases hk; exact ⟨arr_of x1 z1, n1⟩
    | 2, hk => cases hk; exact ⟨arr_of x2 z2, n2⟩
    | 3, hk => cases hk; exact ⟨arr_of x3 z3, n3⟩
    | 4, hk => cases hk; exact ⟨arr_of x4 z4, k4, p4, x4, z4, m4, n4⟩
    | 5, hk => cases hk; exact ⟨arr_of x5 z5, n5⟩
    | 6, hk => cases hk; exact ⟨arr_of x6 z6, n6⟩
    | 7, hk => cases hk; exact ⟨arr_of x7 z7, n7⟩
    | k + 8, hk => simp [tyL] at hk
theorem law_DigitOnes {args : Array Value} {s : State} (ht : ∀ w ∈ lw_tbl, w.before args s = true) (hs : ∀ w ∈ flatC (Jvm.Cond.and given_1 narrow_1), w.before args s = true) : ∃ t, va_Z RJ6 "DigitOnes" "[B" (.ref t) (fun q => s.heap.size ≤ q) s s.heap ∧ va_T .byte t 100 (fun j => .int (nI (48 + j % 10))) (fun q => s.heap.size ≤ q) s s.heap := by
  have hA : ∀ a : Nat, a < s.heap.size → ¬ (fun q => s.heap.size ≤ q) a := fun a h => Nat.not_le.mpr h
  have hr : (List.range 100).map (fun j => Cond.eq (.elem (Term.static RJ6 "DigitOnes" "[B") (.int (Int32.ofNat j))) (.int (nI (48 + j % 10)))) = ((flatC (Jvm.Cond.and given_1 narrow_1)).drop 14).take 100 := by decide +kernel
  obtain ⟨t, h1, h2⟩ := va_Tof (A := fun q => s.heap.size ≤ q) (tm := (Term.static RJ6 "DigitOnes" "[B")) (ty := .byte) (N := 100) (f := fun j => .int (nI (48 + j % 10))) (by decide) (hs _ (List.mem_of_getElem? (i := 12) (by decide +kernel))) (va_eqt (z := Int32.ofNat 100) (hs _ (List.mem_of_getElem? (i := 13) (by decide +kernel)))) (fun j hj => va_eqt (hs _ (List.mem_of_mem_drop (List.mem_of_mem_take (hr ▸ List.mem_map.mpr ⟨j, List.mem_range.mpr hj, rfl⟩))))) hA
  exact ⟨t, va_Zref (ht _ (tab7 _ (List.mem_of_getElem? (i := 91) rfl))) (ht _ (gW_good _ (gw1 33 rfl rfl)).1) h1 hA, h2⟩
theorem law_DigitTens {args : Array Value} {s : State} (ht : ∀ w ∈ lw_tbl, w.before args s = true) (hs : ∀ w ∈ flatC (Jvm.Cond.and given_1 narrow_1), w.before args s = true) : ∃ t, va_Z RJ6 "DigitTens" "[B" (.ref t) (fun q => s.heap.size ≤ q) s s.heap ∧ va_T .byte t 100 (fun j => .int (nI (48 + j / 10))) (fun q => s.heap.size ≤ q) s s.heap := by
  have hA : ∀ a : Nat, a < s.heap.size → ¬ (fun q => s.heap.size ≤ q) a := fun a h => Nat.not_le.mpr h
  have hr : (List.range 100).map (fun j => Cond.eq (.elem (Term.static RJ6 "DigitTens" "[B") (.int (Int32.ofNat j))) (.int (nI (48 + j / 10)))) = ((flatC (Jvm.Cond.and given_1 narrow_1)).drop 117).take 100 := by decide +kernel
  obtain ⟨t, h1, h2⟩ := va_Tof (A := fun q => s.heap.size ≤ q) (tm := (Term.static RJ6 "DigitTens" "[B")) (ty := .byte) (N := 100) (f := fun j => .int (nI (48 + j / 10))) (by decide) (hs _ (List.mem_of_getElem? (i := 115) (by decide +kernel))) (va_eqt (z := Int32.ofNat 100) (hs _ (List.mem_of_getElem? (i := 116) (by decide +kernel)))) (fun j hj => va_eqt (hs _ (List.mem_of_mem_drop (List.mem_of_mem_take (hr ▸ List.mem_map.mpr ⟨j, List.mem_range.mpr hj, rfl⟩))))) hA
  exact ⟨t, va_Zref (ht _ (tab7 _ (List.mem_of_getElem? (i := 93) rfl))) (ht _ (gW_good _ (gw1 33 rfl rfl)).1) h1 hA, h2⟩
theorem law_C {args : Array Value} {s : State} (ht : ∀ w ∈ lw_tbl, w.before args s = true) (hs : ∀ w ∈ flatC (Jvm.Cond.and given_1 narrow_1), w.before args s = true) : ∃ V : VT, CEnv V (fun q => s.heap.size ≤ q) s := by
  have hA : ∀ a : Nat, a < s.heap.size → ¬ (fun q => s.heap.size ≤ q) a := fun a h => Nat.not_le.mpr h
  obtain ⟨V, h1, h2, h3⟩ := law_K ht
  have hp : ∀ y ∈ prvL, va_Nw (.selects RJ4 y y) s := (List.forall_mem_cons.mpr ⟨(va_Nw.of rfl (sel_priv (w := yJ5_isLatin1_aae02) ⟨by decide +kernel, by decide +kernel⟩ rfl (ht _ (gW_good _ (gw7 6 rfl rfl)).1) (ht _ (tab6 _ (List.mem_of_getElem? (i := 213) rfl))) (ht _ (gW_good _ (gw6 214 rfl rfl)).1))), (List.forall_mem_cons.mpr ⟨(va_Nw.of rfl (sel_priv (w := yJ5_isLatin1_aae02) ⟨by decide +kernel, by decide +kernel⟩ rfl (ht _ (gW_good _ (gw7 6 rfl rfl)).1) (ht _ (tab6 _ (List.mem_of_getElem? (i := 217) rfl))) (ht _ (gW_good _ (gw6 218 rfl rfl)).1))), (fun _ h => absurd h List.not_mem_nil)⟩)⟩)
  exact ⟨V, h1, fun w hw => va_Nw.of (noteL_ot w hw) (ht w (noteL_tab w hw)), ⟨h2, h3, hp⟩, va_Zof (ht _ (tab1 _ (List.mem_of_getElem? (i := 185) rfl))) (ht _ (gW_good _ (gw1 9 rfl rfl)).1) (va_eqi (hs _ (List.mem_of_getElem? (i := 4) (by decide +kernel)))) hA, va_Zqof (ht _ (tab7 _ (List.mem_of_getElem? (i := 21) rfl))) (ht _ (gW_good _ (gw1 30 rfl rfl)).1) (hs _ (List.mem_of_getElem? (i := 7) (by decide +kernel))) hA, law_DigitOnes ht hs, law_DigitTens ht hs⟩
theorem law_str {args : Array Value} {s : State} {k : Nat} {tx : String} (h1 : (Cond.stringRef RX8 k tx).before args s = true) (h2 : (Cond.exactly (.string RX8 k) "java/lang/String").before args s = true) : ∃ a, vk_R RX8 k tx a s := by
  obtain ⟨a, -, -, -, h3, -⟩ := Cond.exactly_spec h2
  exact ⟨a, vk_R.of h1 h3⟩
theorem law_strs {args : Array Value} {s : State} (ht : ∀ w ∈ lw_tbl, w.before args s = true) (hs : ∀ w ∈ flatC (Jvm.Cond.and given_1 narrow_1), w.before args s = true) : ∀ q ∈ strL, ∃ a, vk_R RX8 q.1 q.2 a s :=
  (List.forall_mem_cons.mpr ⟨(law_str (ht _ (tab3 _ (List.mem_of_getElem? (i := 112) rfl))) (hs _ (List.mem_of_getElem? (i := 329) (by decide +kernel)))), (List.forall_mem_cons.mpr ⟨(law_str (ht _ (tab3 _ (List.mem_of_getElem? (i := 144) rfl))) (hs _ (List.mem_of_getElem? (i := 366) (by decide +kernel)))), (List.forall_mem_cons.mpr ⟨(law_str (ht _ (tab3 _ (List.mem_of_getElem? (i := 155) rfl))) (hs _ (List.mem_of_getElem? (i := 398) (by decide +kernel)))), (List.forall_mem_cons.mpr ⟨(law_str (ht _ (tab3 _ (List.mem_of_getElem? (i := 222) rfl))) (hs _ (List.mem_of_getElem? (i := 429) (by decide +kernel)))), (List.forall_mem_cons.mpr ⟨(law_str (ht _ (tab4 _ (List.mem_of_getElem? (i := 1) rfl))) (hs _ (List.mem_of_getElem? (i := 445) (by decide +kernel)))), (List.forall_mem_cons.mpr ⟨(law_str (ht _ (tab4 _ (List.mem_of_getElem? (i := 11) rfl))) (hs _ (List.mem_of_getElem? (i := 468) (by decide +kernel)))), (List.forall_mem_cons.mpr ⟨(law_str (ht _ (tab4 _ (List.mem_of_getElem? (i := 32) rfl))) (hs _ (List.mem_of_getElem? (i := 490) (by decide +kernel)))), (List.forall_mem_cons.mpr ⟨(law_str (ht _ (tab4 _ (List.mem_of_getElem? (i := 44) rfl))) (hs _ (List.mem_of_getElem? (i := 512) (by decide +kernel)))), (List.forall_mem_cons.mpr ⟨(law_str (ht _ (tab4 _ (List.mem_of_getElem? (i := 62) rfl))) (hs _ (List.mem_of_getElem? (i := 531) (by decide +kernel)))), (List.forall_mem_cons.mpr ⟨(law_str (ht _ (tab4 _ (List.mem_of_getElem? (i := 76) rfl))) (hs _ (List.mem_of_getElem? (i := 560) (by decide +kernel)))), (List.forall_mem_cons.mpr ⟨(law_str (ht _ (tab4 _ (List.mem_of_getElem? (i := 84) rfl))) (hs _ (List.mem_of_getElem? (i := 584) (by decide +kernel)))), (List.forall_mem_cons.mpr ⟨(law_str (ht _ (tab4 _ (List.mem_of_getElem? (i := 140) rfl))) (hs _ (List.mem_of_getElem? (i := 613) (by decide +kernel)))), (List.forall_mem_cons.mpr ⟨(law_str (ht _ (tab4 _ (List.mem_of_getElem? (i := 158) rfl))) (hs _ (List.mem_of_getElem? (i := 630) (by decide +kernel)))), (List.forall_mem_cons.mpr ⟨(law_str (ht _ (tab4 _ (List.mem_of_getElem? (i := 186) rfl))) (hs _ (List.mem_of_getElem? (i := 646) (by decide +kernel)))), (List.forall_mem_cons.mpr ⟨(law_str (ht _ (tab4 _ (List.mem_of_getElem? (i := 214) rfl))) (hs _ (List.mem_of_getElem? (i := 663) (by decide +kernel)))), (List.forall_mem_cons.mpr ⟨(law_str (ht _ (tab4 _ (List.mem_of_getElem? (i := 223) rfl))) (hs _ (List.mem_of_getElem? (i := 679) (by decide +kernel)))), (List.forall_mem_cons.mpr ⟨(law_str (ht _ (tab5 _ (List.mem_of_getElem? (i := 38) rfl))) (hs _ (List.mem_of_getElem? (i := 702) (by decide +kernel)))), (List.forall_mem_cons.mpr ⟨(law_str (ht _ (tab5 _ (List.mem_of_getElem? (i := 39) rfl))) (hs _ (List.mem_of_getElem? (i := 724) (by decide +kernel)))), (List.forall_mem_cons.mpr ⟨(law_str (ht _ (tab5 _ (List.mem_of_getElem? (i := 66) rfl))) (hs _ (List.mem_of_getElem? (i := 743) (by decide +kernel)))), (List.forall_mem_cons.mpr ⟨(law_str (ht _ (tab5 _ (List.mem_of_getElem? (i := 118) rfl))) (hs _ (List.mem_of_getElem? (i := 770) (by decide +kernel)))), (List.forall_mem_cons.mpr ⟨(law_str (ht _ (tab5 _ (List.mem_of_getElem? (i := 145) rfl))) (hs _ (List.mem_of_getElem? (i := 787) (by decide +kernel)))), (List.forall_mem_cons.mpr ⟨(law_str (ht _ (tab5 _ (List.mem_of_getElem? (i := 189) rfl))) (hs _ (List.mem_of_getElem? (i := 813) (by decide +kernel)))), (List.forall_mem_cons.mpr ⟨(law_str (ht _ (tab5 _ (List.mem_of_getElem? (i := 190) rfl))) (hs _ (List.mem_of_getElem? (i := 840) (by decide +kernel)))), (List.forall_mem_cons.mpr ⟨(law_str (ht _ (tab5 _ (List.mem_of_getElem? (i := 232) rfl))) (hs _ (List.mem_of_getElem? (i := 866) (by decide +kernel)))), (List.forall_mem_cons.mpr ⟨(law_str (ht _ (tab6 _ (List.mem_of_getElem? (i := 16) rfl))) (hs _ (List.mem_of_getElem? (i := 885) (by decide +kernel)))), (List.forall_mem_cons.mpr ⟨(law_str (ht _ (tab6 _ (List.mem_of_getElem? (i := 21) rfl))) (hs _ (List.mem_of_getElem? (i := 917) (by decide +kernel)))), (List.forall_mem_cons.mpr ⟨(law_str (ht _ (tab6 _ (List.mem_of_getElem? (i := 34) rfl))) (hs _ (List.mem_of_getElem? (i := 953) (by decide +kernel)))), (List.forall_mem_cons.mpr ⟨(law_str (ht _ (tab6 _ (List.mem_of_getElem? (i := 70) rfl))) (hs _ (List.mem_of_getElem? (i := 969) (by decide +kernel)))), (List.forall_mem_cons.mpr ⟨(law_str (ht _ (tab6 _ (List.mem_of_getElem? (i := 80) rfl))) (hs _ (List.mem_of_getElem? (i := 995) (by decide +kernel)))), (List.forall_mem_cons.mpr ⟨(law_str (ht _ (tab6 _ (List.mem_of_getElem? (i := 112) rfl))) (hs _ (List.mem_of_getElem? (i := 1023) (by decide +kernel)))), (List.forall_mem_cons.mpr ⟨(law_str (ht _ (tab6 _ (List.mem_of_getElem? (i := 120) rfl))) (hs _ (List.mem_of_getElem? (i := 1071) (by decide +kernel)))), (List.forall_mem_cons.mpr ⟨(law_str (ht _ (tab6 _ (List.mem_of_getElem? (i := 121) rfl))) (hs _ (List.mem_of_getElem? (i := 1097) (by decide +kernel)))), (List.forall_mem_cons.mpr ⟨(law_str (ht _ (tab6 _ (List.mem_of_getElem? (i := 160) rfl))) (hs _ (List.mem_of_getElem? (i := 1118) (by decide +kernel)))), (List.forall_mem_cons.mpr ⟨(law_str (ht _ (tab6 _ (List.mem_of_getElem? (i := 165) rfl))) (hs _ (List.mem_of_getElem? (i := 1142) (by decide +kernel)))), (List.forall_mem_cons.mpr ⟨(law_str (ht _ (tab6 _ (List.mem_of_getElem? (i := 174) rfl))) (hs _ (List.mem_of_getElem? (i := 1180) (by decide +kernel)))), (List.forall_mem_cons.mpr ⟨(law_str (ht _ (tab7 _ (List.mem_of_getElem? (i := 223) rfl))) (hs _ (List.mem_of_getElem? (i := 1313) (by decide +kernel)))), (List.forall_mem_cons.mpr ⟨(law_str (ht _ (tab8 _ (List.mem_of_getElem? (i := 1) rfl))) (hs _ (List.mem_of_getElem? (i := 1334) (by decide +kernel)))), (List.forall_mem_cons.mpr ⟨(law_str (ht _ (tab8 _ (List.mem_of_getElem? (i := 13) rfl))) (hs _ (List.mem_of_getElem? (i := 1361) (by decide +kernel)))), (fun _ h => absurd h List.not_mem_nil)⟩)⟩)⟩)⟩)⟩)⟩)⟩)⟩)⟩)⟩)⟩)⟩)⟩)⟩)⟩)⟩)⟩)⟩)⟩)⟩)⟩)⟩)⟩)⟩)⟩)⟩)⟩)⟩)⟩)⟩)⟩)⟩)⟩)⟩)⟩)⟩)⟩)⟩)
theorem law_ncs {args : Array Value} {s : State} (hs : ∀ w ∈ flatC (Jvm.Cond.and given_1 narrow_1), w.before args s = true) : ∀ q ∈ ncL, va_Nc q.1 q.2 s :=
  (List.forall_mem_cons.mpr ⟨(va_Nc.of (hs _ (List.mem_of_getElem? (i := 247) (by decide +kernel)))), (List.forall_mem_cons.mpr ⟨(va_Nc.of (hs _ (List.mem_of_getElem? (i := 266) (by decide +kernel)))), (List.forall_mem_cons.mpr ⟨(va_Nc.of (hs _ (List.mem_of_getElem? (i := 283) (by decide +kernel)))), (List.forall_mem_cons.mpr ⟨(va_Nc.of (hs _ (List.mem_of_getElem? (i := 302) (by decide +kernel)))), (List.forall_mem_cons.mpr ⟨(va_Nc.of (hs _ (List.mem_of_getElem? (i := 321) (by decide +kernel)))), (List.forall_mem_cons.mpr ⟨(va_Nc.of (hs _ (List.mem_of_getElem? (i := 228) (by decide +kernel)))), (List.forall_mem_cons.mpr ⟨(va_Nc.of (hs _ (List.mem_of_getElem? (i := 267) (by decide +kernel)))), (List.forall_mem_cons.mpr ⟨(va_Nc.of (hs _ (List.mem_of_getElem? (i := 284) (by decide +kernel)))), (List.forall_mem_cons.mpr ⟨(va_Nc.of (hs _ (List.mem_of_getElem? (i := 303) (by decide +kernel)))), (List.forall_mem_cons.mpr ⟨(va_Nc.of (hs _ (List.mem_of_getElem? (i := 322) (by decide +kernel)))), (List.forall_mem_cons.mpr ⟨(va_Nc.of (hs _ (List.mem_of_getElem? (i := 230) (by decide +kernel)))), (List.forall_mem_cons.mpr ⟨(va_Nc.of (hs _ (List.mem_of_getElem? (i := 249) (by decide +kernel)))), (List.forall_mem_cons.mpr ⟨(va_Nc.of (hs _ (List.mem_of_getElem? (i := 286) (by decide +kernel)))), (List.forall_mem_cons.mpr ⟨(va_Nc.of (hs _ (List.mem_of_getElem? (i := 305) (by decide +kernel)))), (List.forall_mem_cons.mpr ⟨(va_Nc.of (hs _ (List.mem_of_getElem? (i := 324) (by decide +kernel)))), (List.forall_mem_cons.mpr ⟨(va_Nc.of (hs _ (List.mem_of_getElem? (i := 231) (by decide +kernel)))), (List.forall_mem_cons.mpr ⟨(va_Nc.of (hs _ (List.mem_of_getElem? (i := 250) (by decide +kernel)))), (List.forall_mem_cons.mpr ⟨(va_Nc.of (hs _ (List.mem_of_getElem? (i := 268) (by decide +kernel)))), (List.forall_mem_cons.mpr ⟨(va_Nc.of (hs _ (List.mem_of_getElem? (i := 306) (by decide +kernel)))), (List.forall_mem_cons.mpr ⟨(va_Nc.of (hs _ (List.mem_of_getElem? (i := 325) (by decide +kernel)))), (List.forall_mem_cons.mpr ⟨(va_Nc.of (hs _ (List.mem_of_getElem? (i := 232) (by decide +kernel)))), (List.forall_mem_cons.mpr ⟨(va_Nc.of (hs _ (List.mem_of_getElem? (i := 251) (by decide +kernel)))), (List.forall_mem_cons.mpr ⟨(va_Nc.of (hs _ (List.mem_of_getElem? (i := 269) (by decide +kernel)))), (List.forall_mem_cons.mpr ⟨(va_Nc.of (hs _ (List.mem_of_getElem? (i := 287) (by decide +kernel)))), (List.forall_mem_cons.mpr ⟨(va_Nc.of (hs _ (List.mem_of_getElem? (i := 326) (by decide +kernel)))), (List.forall_mem_cons.mpr ⟨(va_Nc.of (hs _ (List.mem_of_getElem? (i := 233) (by decide +kernel)))), (List.forall_mem_cons.mpr ⟨(va_Nc.of (hs _ (List.mem_of_getElem? (i := 252) (by decide +kernel)))), (List.forall_mem_cons.mpr ⟨(va_Nc.of (hs _ (List.mem_of_getElem? (i := 270) (by decide +kernel)))), (List.forall_mem_cons.mpr ⟨(va_Nc.of (hs _ (List.mem_of_getElem? (i := 288) (by decide +kernel)))), (List.forall_mem_cons.mpr ⟨(va_Nc.of (hs _ (List.mem_of_getElem? (i := 307) (by decide +kernel)))), (fun _ h => absurd h List.not_mem_nil)⟩)⟩)⟩)⟩)⟩)⟩)⟩)⟩)⟩)⟩)⟩)⟩)⟩)⟩)⟩)⟩)⟩)⟩)⟩)⟩)⟩)⟩)⟩)⟩)⟩)⟩)⟩)⟩)⟩)⟩)
theorem law_Zs {args : Array Value} {s : State} (ht : ∀ w ∈ lw_tbl, w.before args s = true) (hs : ∀ w ∈ flatC (Jvm.Cond.and given_1 narrow_1), w.before args s = true) : vx_Zq Bundle.tN "UNASSIGNED_STACK" Bundle.steD (fun q => s.heap.size ≤ q) s s.heap ∧ vx_Zq Bundle.tN "SUPPRESSED_SENTINEL" Bundle.listD (fun q => s.heap.size ≤ q) s s.heap := by
  have hA : ∀ a : Nat, a < s.heap.size → ¬ (fun q => s.heap.size ≤ q) a := fun a h => Nat.not_le.mpr h
  exact ⟨vx_Zqof (ht _ (tab3 _ (List.mem_of_getElem? (i := 93) rfl))) (ht _ (gW_good _ (gw1 16 rfl rfl)).1) (hs _ (List.mem_of_getElem? (i := 5) (by decide +kernel))) hA, vx_Zqof (ht _ (tab3 _ (List.mem_of_getElem? (i := 95) rfl))) (ht _ (gW_good _ (gw1 16 rfl rfl)).1) (hs _ (List.mem_of_getElem? (i := 6) (by decide +kernel))) hA⟩
