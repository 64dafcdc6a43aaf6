-- the constructors (by gen/mk_con.py out of their bytecode)
theorem CHR_le {G : CG} {h h' : Nat} (hh : h' ≤ h) (H : CHR G h) : CHR G h' := by
  obtain ⟨p, l, e, R, s, m, args, below, meth, c, Q, A, V⟩ := G
  exact ⟨Nat.le_trans hh H.1, Nat.le_trans (Nat.mul_le_mul_left _ hh) H.2⟩
theorem perm_pick {α : Type} : ∀ {w : List α} {j : Nat} {x : α}, w[j]? = some x → w.Perm (x :: w.eraseIdx j)
  | [], j, x, h => by simp at h
  | y :: w, 0, x, h => by
    have : y = x := by simpa using h
    subst this
    exact List.Perm.refl _
  | y :: w, j + 1, x, h => by
    have h' : w[j]? = some x := by simpa using h
    exact (List.Perm.cons y (perm_pick h')).trans (List.Perm.swap _ _ _)
theorem perm_mid2 {α : Type} (x y z : List α) : (x ++ (y ++ z)).Perm (y ++ (x ++ z)) := by
  rw [← List.append_assoc, ← List.append_assoc]
  exact List.Perm.append_right _ List.perm_append_comm
theorem set_fst {w : va_W} {j q : Nat} {e e' : va_E} (h : w[j]? = some (q, e)) : w.map Prod.fst = (w.set j (q, e')).map Prod.fst := by
  rw [List.map_set]
  obtain ⟨hj, hq⟩ := List.getElem?_eq_some_iff.mp h
  apply List.ext_getElem?
  intro i
  by_cases hi : i = j
  · subst hi
    rw [List.getElem?_set_self (by rw [List.length_map]; exact hj), List.getElem?_map, h]
    rfl
  · rw [List.getElem?_set_ne (Ne.symm hi)]
theorem vp_eqi {cA : ClassId} {n : Nat} {f g : Nat → Int32} (h : ∀ j, j < n → f j = g j) : vp_cell cA (n, .inl f) = vp_cell cA (n, .inl g) := by
  rw [vp_cell_i, vp_cell_i]
  exact arrV_eq fun j hj => by rw [h j hj]
theorem vp_eqq {cA : ClassId} {n : Nat} {f g : Nat → Option Nat} (h : ∀ j, j < n → f j = g j) : vp_cell cA (n, .inr (.inr (.inr (.inr f)))) = vp_cell cA (n, .inr (.inr (.inr (.inr g)))) := by
  rw [vp_cell_q, vp_cell_q]
  exact arrV_eq fun j hj => by rw [h j hj]
/-- an array told with other numbers behind its end -/
theorem cw_same {G : CG} {rc rs pc : Nat} {ls : List (Option PV)} {st : List Value} {W9 : va_W} {j q : Nat} {cA : ClassId} {x x' : vp_A} (he : W9[j]? = some (q, .inl (cA, x))) (hx : vp_cell cA x = vp_cell cA x') (k : CW G rc rs pc ls st (W9.set j (q, .inl (cA, x')))) : CW G rc rs pc ls st W9 := by
  refine cw_conv (set_fst he) (fun V H _ hP => va_P_iff.mpr fun q9 hq => ?_) k
  rcases List.mem_or_eq_of_mem_set hq with h | h
  · exact va_P_iff.mp hP q9 h
  · subst h
    have := hP j _ he
    show H[q]? = some (vp_cell cA x')
    rw [← hx]
    exact this
theorem cw_gets {G : CG} {cc : ByteArray} {nL : Nat} {own : String} {rc rs pc : Nat} {ls : List (Option PV)} {st : List Value} {W9 : va_W} {i : Nat} (C : CC G cc nL own) (d : decode cc pc = .ok (.getstatic i, 3)) (hl : Cond.fieldLink own i RJ0 "COMPACT_STRINGS" "Z" ∈ gW) (k : CW G rc rs (pc + 3) ls (.int 1 :: st) W9) : CW G rc rs pc ls st W9 := by
  obtain ⟨p, l, e, R, s, m, args, below, meth, c, Q, A, V⟩ := G
  intro H locs cells slots lsM hP hD hS hl9 h1 h2
  exact va_gets C.1 C.2.1 C.2.2.2.2.2.1.2.2.2.1 hS C.2.2.2.1 (C.2.2.2.2.1 _ hl) (fun x h => h) d (k H locs cells slots lsM hP hD hS hl9 h1 h2)
/-- a builder of texts, coder 0: count n, capacity m, the bytes f -/
def sbW (V : VT) (h q m : Nat) (f : Nat → Int32) (ml n : Int32) : va_W := [(h, .inr (1, [.ref q, .int 0, .int ml, .int n])), (q, .inl (V.2.2 0, m, .inl f))]
theorem dfX7 : ∀ j, j < 11 → defaultValue (tyX7 j) = vp_V [.int 0, .int 0, .null, .null, .null, .null, .null, .null, .null, .null, .null] j := by
  intro j hj
  match j, hj with
  | 0, _ => rfl
  | 1, _ => rfl
  | 2, _ => rfl
  | 3, _ => rfl
  | 4, _ => rfl
  | 5, _ => rfl
  | 6, _ => rfl
  | 7, _ => rfl
  | 8, _ => rfl
  | 9, _ => rfl
  | 10, _ => rfl
  | j + 11, h => exact absurd h (by omega)
theorem dfX0 : ∀ j, j < 5 → defaultValue (tyX0 j) = vp_V [.null, .null, .null, .null, .null] j := by
  intro j hj
  match j, hj with
  | 0, _ => rfl
  | 1, _ => rfl
  | 2, _ => rfl
  | 3, _ => rfl
  | 4, _ => rfl
  | j + 5, h => exact absurd h (by omega)
theorem dfX2 : ∀ j, j < 10 → defaultValue (tyX2 j) = vp_V [.null, .null, .null, .null, .null, .null, .null, .null, .null, .null] j := by
  intro j hj
  match j, hj with
  | 0, _ => rfl
  | 1, _ => rfl
  | 2, _ => rfl
  | 3, _ => rfl
  | 4, _ => rfl
  | 5, _ => rfl
  | 6, _ => rfl
  | 7, _ => rfl
  | 8, _ => rfl
  | 9, _ => rfl
  | j + 10, h => exact absurd h (by omega)
theorem dfX5 : ∀ j, j < 11 → defaultValue (tyX5 j) = vp_V [.int 0, .null, .null, .null, .null, .null, .int 0, .int 0, .null, .null, .null] j := by
  intro j hj
  match j, hj with
  | 0, _ => rfl
  | 1, _ => rfl
  | 2, _ => rfl
  | 3, _ => rfl
  | 4, _ => rfl
  | 5, _ => rfl
  | 6, _ => rfl
  | 7, _ => rfl
  | 8, _ => rfl
  | 9, _ => rfl
  | 10, _ => rfl
  | j + 11, h => exact absurd h (by omega)
theorem dfX1 : ∀ j, j < 3 → defaultValue (tyX1 j) = vp_V [.null, .null, .null] j := by
  intro j hj
  match j, hj with
  | 0, _ => rfl
  | 1, _ => rfl
  | 2, _ => rfl
  | j + 3, h => exact absurd h (by omega)
theorem dfX3 : ∀ j, j < 3 → defaultValue (tyX3 j) = vp_V [.int 0, .int 0, .null] j := by
  intro j hj
  match j, hj with
  | 0, _ => rfl
  | 1, _ => rfl
  | 2, _ => rfl
  | j + 3, h => exact absurd h (by omega)
theorem dfX6 : ∀ j, j < 2 → defaultValue (tyX6 j) = vp_V [.null, .null] j := by
  intro j hj
  match j, hj with
  | 0, _ => rfl
  | 1, _ => rfl
  | j + 2, h => exact absurd h (by omega)
theorem dfX4 : ∀ j, j < 3 → defaultValue (tyX4 j) = vp_V [.int 0, .int 0, .null] j := by
  intro j hj
  match j, hj with
  | 0, _ => rfl
  | 1, _ => rfl
  | 2, _ => rfl
  | j + 3, h => exact absurd h (by omega)
theorem dfX8 : ∀ j, j < 14 → defaultValue (tyX8 j) = vp_V [.null, .null, .null, .null, .null, .null, .null, .null, .null, .null, .null, .int 0, .int 0, .int 0] j := by
  intro j hj
  match j, hj with
  | 0, _ => rfl
  | 1, _ => rfl
  | 2, _ => rfl
  | 3, _ => rfl
  | 4, _ => rfl
  | 5, _ => rfl
  | 6, _ => rfl
  | 7, _ => rfl
  | 8, _ => rfl
  | 9, _ => rfl
  | 10, _ => rfl
  | 11, _ => rfl
  | 12, _ => rfl
  | 13, _ => rfl
  | j + 14, h => exact absurd h (by omega)
theorem dfX9 : ∀ j, j < 34 → defaultValue (tyX9 j) = vp_V [.int 0, .null, .null, .null, .null, .int 0, .int 0, .null, .null, .int 0, .int 0, .int 0, .null, .null, .null, .null, .null, .null, .null, .null, .null, .int 0, .null, .null, .null, .int 0, .null, .null, .int 0, .int 0, .int 0, .null, .null, .int 0] j := by
  intro j hj
  match j, hj with
  | 0, _ => rfl
  | 1, _ => rfl
  | 2, _ => rfl
  | 3, _ => rfl
  | 4, _ => rfl
  | 5, _ => rfl
  | 6, _ => rfl
  | 7, _ => rfl
  | 8, _ => rfl
  | 9, _ => rfl
  | 10, _ => rfl
  | 11, _ => rfl
  | 12, _ => rfl
  | 13, _ => rfl
  | 14, _ => rfl
  | 15, _ => rfl
  | 16, _ => rfl
  | 17, _ => rfl
  | 18, _ => rfl
  | 19, _ => rfl
  | 20, _ => rfl
  | 21, _ => rfl
  | 22, _ => rfl
  | 23, _ => rfl
  | 24, _ => rfl
  | 25, _ => rfl
  | 26, _ => rfl
  | 27, _ => rfl
  | 28, _ => rfl
  | 29, _ => rfl
  | 30, _ => rfl
  | 31, _ => rfl
  | 32, _ => rfl
  | 33, _ => rfl
  | j + 34, h => exact absurd h (by omega)
theorem dfJ4 : ∀ j, j < 4 → defaultValue (tyJ4 j) = vp_V [.null, .int 0, .int 0, .int 0] j := by
  intro j hj
  match j, hj with
  | 0, _ => rfl
  | 1, _ => rfl
  | 2, _ => rfl
  | 3, _ => rfl
  | j + 4, h => exact absurd h (by omega)
def stoW (V : VT) (a : Nat → Nat) : va_W := (((a 0), .inr (11, [.int (0 : Int32), .int (0 : Int32), .ref (a 1), .ref (a 2), .ref (a 3), .ref (a 4), .ref (a 5), .ref (a 6), .ref (a 7), .ref (a 8), .ref (a 9)])) :: (((a 9), .inl (V.2.2 2, (30, .inl (fun _ => 0)))) :: (((a 8), .inl (V.2.2 2, (30, .inl (fun _ => 0)))) :: (((a 7), .inl (V.2.2 3, (40, .inl (fun _ => 0)))) :: (((a 6), .inl (V.2.2 2, (40, .inl (fun _ => 0)))) :: (((a 5), .inl (V.2.2 2, (40, .inl (fun _ => 0)))) :: (((a 4), .inl (V.2.2 2, (40, .inl (fun _ => 0)))) :: (((a 3), .inl (V.2.2 2, (40, .inl (fun _ => 0)))) :: (((a 2), .inl (V.2.2 2, (40, .inl (fun _ => 0)))) :: (((a 1), .inl (V.2.2 2, (40, .inl (fun _ => 0)))) :: []))))))))))
theorem dX7_init_0 : decode cX7_init 0 = .ok (.aload_n 0, 1) := by decide +kernel
theorem dX7_init_1 : decode cX7_init 1 = .ok (.invokespecial 3, 3) := by decide +kernel
theorem dX7_init_4 : decode cX7_init 4 = .ok (.aload_n 0, 1) := by decide +kernel
theorem dX7_init_5 : decode cX7_init 5 = .ok (.iconst 0, 1) := by decide +kernel
theorem dX7_init_6 : decode cX7_init 6 = .ok (.putfield 9, 3) := by decide +kernel
theorem dX7_init_9 : decode cX7_init 9 = .ok (.aload_n 0, 1) := by decide +kernel
theorem dX7_init_10 : decode cX7_init 10 = .ok (.iconst 0, 1) := by decide +kernel
theorem dX7_init_11 : decode cX7_init 11 = .ok (.putfield 15, 3) := by decide +kernel
theorem dX7_init_14 : decode cX7_init 14 = .ok (.aload_n 0, 1) := by decide +kernel
theorem dX7_init_15 : decode cX7_init 15 = .ok (.bipush 40, 2) := by decide +kernel
theorem dX7_init_17 : decode cX7_init 17 = .ok (.newarray .int, 2) := by decide +kernel
theorem dX7_init_19 : decode cX7_init 19 = .ok (.putfield 18, 3) := by decide +kernel
theorem dX7_init_22 : decode cX7_init 22 = .ok (.aload_n 0, 1) := by decide +kernel
theorem dX7_init_23 : decode cX7_init 23 = .ok (.bipush 40, 2) := by decide +kernel
theorem dX7_init_25 : decode cX7_init 25 = .ok (.newarray .int, 2) := by decide +kernel
theorem dX7_init_27 : decode cX7_init 27 = .ok (.putfield 22, 3) := by decide +kernel
theorem dX7_init_30 : decode cX7_init 30 = .ok (.aload_n 0, 1) := by decide +kernel
theorem dX7_init_31 : decode cX7_init 31 = .ok (.bipush 40, 2) := by decide +kernel
theorem dX7_init_33 : decode cX7_init 33 = .ok (.newarray .int, 2) := by decide +kernel
theorem dX7_init_35 : decode cX7_init 35 = .ok (.putfield 25, 3) := by decide +kernel
theorem dX7_init_38 : decode cX7_init 38 = .ok (.aload_n 0, 1) := by decide +kernel
theorem dX7_init_39 : decode cX7_init 39 = .ok (.bipush 40, 2) := by decide +kernel
theorem dX7_init_41 : decode cX7_init 41 = .ok (.newarray .int, 2) := by decide +kernel
theorem dX7_init_43 : decode cX7_init 43 = .ok (.putfield 28, 3) := by decide +kernel
theorem dX7_init_46 : decode cX7_init 46 = .ok (.aload_n 0, 1) := by decide +kernel
theorem dX7_init_47 : decode cX7_init 47 = .ok (.bipush 40, 2) := by decide +kernel
theorem dX7_init_49 : decode cX7_init 49 = .ok (.newarray .int, 2) := by decide +kernel
theorem dX7_init_51 : decode cX7_init 51 = .ok (.putfield 31, 3) := by decide +kernel
theorem dX7_init_54 : decode cX7_init 54 = .ok (.aload_n 0, 1) := by decide +kernel
theorem dX7_init_55 : decode cX7_init 55 = .ok (.bipush 40, 2) := by decide +kernel
theorem dX7_init_57 : decode cX7_init 57 = .ok (.newarray .int, 2) := by decide +kernel
theorem dX7_init_59 : decode cX7_init 59 = .ok (.putfield 34, 3) := by decide +kernel
theorem dX7_init_62 : decode cX7_init 62 = .ok (.aload_n 0, 1) := by decide +kernel
theorem dX7_init_63 : decode cX7_init 63 = .ok (.bipush 40, 2) := by decide +kernel
theorem dX7_init_65 : decode cX7_init 65 = .ok (.newarray .boolean, 2) := by decide +kernel
theorem dX7_init_67 : decode cX7_init 67 = .ok (.putfield 37, 3) := by decide +kernel
theorem dX7_init_70 : decode cX7_init 70 = .ok (.aload_n 0, 1) := by decide +kernel
theorem dX7_init_71 : decode cX7_init 71 = .ok (.bipush 30, 2) := by decide +kernel
theorem dX7_init_73 : decode cX7_init 73 = .ok (.newarray .int, 2) := by decide +kernel
theorem dX7_init_75 : decode cX7_init 75 = .ok (.putfield 41, 3) := by decide +kernel
theorem dX7_init_78 : decode cX7_init 78 = .ok (.aload_n 0, 1) := by decide +kernel
theorem dX7_init_79 : decode cX7_init 79 = .ok (.bipush 30, 2) := by decide +kernel
theorem dX7_init_81 : decode cX7_init 81 = .ok (.newarray .int, 2) := by decide +kernel
theorem dX7_init_83 : decode cX7_init 83 = .ok (.putfield 44, 3) := by decide +kernel
theorem dX7_init_86 : decode cX7_init 86 = .ok (.return_, 1) := by decide +kernel
theorem mi_X7_init : MI9 yX7_init cX7_init 1 0 := ⟨(gw1 45 rfl rfl), (gw1 2 rfl rfl), (gw1 46 rfl rfl), ⟨by decide +kernel, by decide +kernel⟩, by decide +kernel, rfl⟩
set_option maxHeartbeats 2000000 in
set_option maxRecDepth 20000 in
theorem c_X7_init {l : Launch} {V : VT} (h0 : Nat) : CMet l yX7_init (.code yX7_init cX7_init 1 none) 1 9 340 V [.ref h0] [(h0, .inr (11, [.int 0, .int 0, .null, .null, .null, .null, .null, .null, .null, .null, .null]))] (fun v W1 => v = none ∧ ∃ a : Nat → Nat, a 0 = h0 ∧ W1 = stoW V a) := by
  refine CMet_of (args := [pW (.ref h0)]) (by decide +kernel) rfl (Nat.le_of_ble_eq_true rfl) (fun G hV hl C hR hH hN => ?_)
  subst hV
  subst hl
  refine cw_aload_n C dX7_init_0 rfl rfl ?_
  refine cw_obj C (CHR_le (by decide) hH) dX7_init_1 (gw1 47 rfl rfl) (gw1 40 rfl rfl) (gw1 41 rfl rfl) rfl ?_
  refine cw_aload_n C dX7_init_4 rfl rfl ?_
  refine cw_iconst (v := (0 : Int32)) C dX7_init_5 (by decide) ?_
  refine cw_put (j := 0) (f := 0) (ci := 11) (K := RX7) (T := TX7) (N := 11) (fs := [.int 0, .int 0, .null, .null, .null, .null, .null, .null, .null, .null, .null]) (ty := .int) C dX7_init_6 inX7 tyX7 tyX7_ok nmX7 rfl rfl (by decide) (gw1 48 rfl rfl) (Or.inl rfl) (Or.inl rfl) (by decide +kernel) rfl rfl (Nat.le_of_ble_eq_true rfl) ?_
  refine cw_aload_n C dX7_init_9 rfl rfl ?_
  refine cw_iconst (v := (0 : Int32)) C dX7_init_10 (by decide) ?_
  refine cw_put (j := 0) (f := 1) (ci := 11) (K := RX7) (T := TX7) (N := 11) (fs := [.int (0 : Int32), .int 0, .null, .null, .null, .null, .null, .null, .null, .null, .null]) (ty := .int) C dX7_init_11 inX7 tyX7 tyX7_ok nmX7 rfl rfl (by decide) (gw1 54 rfl rfl) (Or.inl rfl) (Or.inl rfl) (by decide +kernel) rfl rfl (Nat.le_of_ble_eq_true rfl) ?_
  refine cw_aload_n C dX7_init_14 rfl rfl ?_
  refine cw_bipush (v := (40 : Int32)) C dX7_init_15 (by decide) ?_
  refine cw_newa (atype := .int) (a := 2) (N := 40) (a0 := (40, .inl (fun _ => 0))) (rc := 8) (rs := 300) (pre := [(h0, .inr (11, [.int (0 : Int32), .int (0 : Int32), .null, .null, .null, .null, .null, .null, .null, .null, .null]))]) (Wr := []) C dX7_init_17 (gw1 116 rfl rfl) (by decide) rfl (fun _ => rfl) (by decide) (by decide) (Nat.le_of_ble_eq_true rfl) rfl (fun q1 => ?_)
  refine cw_put (j := 0) (f := 2) (ci := 11) (K := RX7) (T := TX7) (N := 11) (fs := [.int (0 : Int32), .int (0 : Int32), .null, .null, .null, .null, .null, .null, .null, .null, .null]) (ty := (.array .int)) C dX7_init_19 inX7 tyX7 tyX7_ok nmX7 rfl rfl (by decide) (gw1 57 rfl rfl) (Or.inl rfl) (Or.inr ⟨rfl, hN, rfl⟩) (by decide +kernel) rfl rfl (Nat.le_of_ble_eq_true rfl) ?_
  refine cw_aload_n C dX7_init_22 rfl rfl ?_
  refine cw_bipush (v := (40 : Int32)) C dX7_init_23 (by decide) ?_
  refine cw_newa (atype := .int) (a := 2) (N := 40) (a0 := (40, .inl (fun _ => 0))) (rc := 7) (rs := 260) (pre := [(h0, .inr (11, [.int (0 : Int32), .int (0 : Int32), .ref q1, .null, .null, .null, .null, .null, .null, .null, .null]))]) (Wr := ((q1, .inl ((CGV G).2.2 2, (40, .inl (fun _ => 0)))) :: [])) C dX7_init_25 (gw1 116 rfl rfl) (by decide) rfl (fun _ => rfl) (by decide) (by decide) (Nat.le_of_ble_eq_true rfl) rfl (fun q2 => ?_)
  refine cw_put (j := 0) (f := 3) (ci := 11) (K := RX7) (T := TX7) (N := 11) (fs := [.int (0 : Int32), .int (0 : Int32), .ref q1, .null, .null, .null, .null, .null, .null, .null, .null]) (ty := (.array .int)) C dX7_init_27 inX7 tyX7 tyX7_ok nmX7 rfl rfl (by decide) (gw1 61 rfl rfl) (Or.inl rfl) (Or.inr ⟨rfl, hN, rfl⟩) (by decide +kernel) rfl rfl (Nat.le_of_ble_eq_true rfl) ?_
  refine cw_aload_n C dX7_init_30 rfl rfl ?_
  refine cw_bipush (v := (40 : Int32)) C dX7_init_31 (by decide) ?_
  refine cw_newa (atype := .int) (a := 2) (N := 40) (a0 := (40, .inl (fun _ => 0))) (rc := 6) (rs := 220) (pre := [(h0, .inr (11, [.int (0 : Int32), .int (0 : Int32), .ref q1, .ref q2, .null, .null, .null, .null, .null, .null, .null]))]) (Wr := ((q2, .inl ((CGV G).2.2 2, (40, .inl (fun _ => 0)))) :: ((q1, .inl ((CGV G).2.2 2, (40, .inl (fun _ => 0)))) :: []))) C dX7_init_33 (gw1 116 rfl rfl) (by decide) rfl (fun _ => rfl) (by decide) (by decide) (Nat.le_of_ble_eq_true rfl) rfl (fun q3 => ?_)
  refine cw_put (j := 0) (f := 4) (ci := 11) (K := RX7) (T := TX7) (N := 11) (fs := [.int (0 : Int32), .int (0 : Int32), .ref q1, .ref q2, .null, .null, .null, .null, .null, .null, .null]) (ty := (.array .int)) C dX7_init_35 inX7 tyX7 tyX7_ok nmX7 rfl rfl (by decide) (gw1 66 rfl rfl) (Or.inl rfl) (Or.inr ⟨rfl, hN, rfl⟩) (by decide +kernel) rfl rfl (Nat.le_of_ble_eq_true rfl) ?_
  refine cw_aload_n C dX7_init_38 rfl rfl ?_
  refine cw_bipush (v := (40 : Int32)) C dX7_init_39 (by decide) ?_
  refine cw_newa (atype := .int) (a := 2) (N := 40) (a0 := (40, .inl (fun _ => 0))) (rc := 5) (rs := 180) (pre := [(h0, .inr (11, [.int (0 : Int32), .int (0 : Int32), .ref q1, .ref q2, .ref q3, .null, .null, .null, .null, .null, .null]))]) (Wr := ((q3, .inl ((CGV G).2.2 2, (40, .inl (fun _ => 0)))) :: ((q2, .inl ((CGV G).2.2 2, (40, .inl (fun _ => 0)))) :: ((q1, .inl ((CGV G).2.2 2, (40, .inl (fun _ => 0)))) :: [])))) C dX7_init_41 (gw1 116 rfl rfl) (by decide) rfl (fun _ => rfl) (by decide) (by decide) (Nat.le_of_ble_eq_true rfl) rfl (fun q4 => ?_)
  refine cw_put (j := 0) (f := 5) (ci := 11) (K := RX7) (T := TX7) (N := 11) (fs := [.int (0 : Int32), .int (0 : Int32), .ref q1, .ref q2, .ref q3, .null, .null, .null, .null, .null, .null]) (ty := (.array .int)) C dX7_init_43 inX7 tyX7 tyX7_ok nmX7 rfl rfl (by decide) (gw1 69 rfl rfl) (Or.inl rfl) (Or.inr ⟨rfl, hN, rfl⟩) (by decide +kernel) rfl rfl (Nat.le_of_ble_eq_true rfl) ?_
  refine cw_aload_n C dX7_init_46 rfl rfl ?_
  refine cw_bipush (v := (40 : Int32)) C dX7_init_47 (by decide) ?_
  refine cw_newa (atype := .int) (a := 2) (N := 40) (a0 := (40, .inl (fun _ => 0))) (rc := 4) (rs := 140) (pre := [(h0, .inr (11, [.int (0 : Int32), .int (0 : Int32), .ref q1, .ref q2, .ref q3, .ref q4, .null, .null, .null, .null, .null]))]) (Wr := ((q4, .inl ((CGV G).2.2 2, (40, .inl (fun _ => 0)))) :: ((q3, .inl ((CGV G).2.2 2, (40, .inl (fun _ => 0)))) :: ((q2, .inl ((CGV G).2.2 2, (40, .inl (fun _ => 0)))) :: ((q1, .inl ((CGV G).2.2 2, (40, .inl (fun _ => 0)))) :: []))))) C dX7_init_49 (gw1 116 rfl rfl) (by decide) rfl (fun _ => rfl) (by decide) (by decide) (Nat.le_of_ble_eq_true rfl) rfl (fun q5 => ?_)
  refine cw_put (j := 0) (f := 6) (ci := 11) (K := RX7) (T := TX7) (N := 11) (fs := [.int (0 : Int32), .int (0 : Int32), .ref q1, .ref q2, .ref q3, .ref q4, .null, .null, .null, .null, .null]) (ty := (.array .int)) C dX7_init_51 inX7 tyX7 tyX7_ok nmX7 rfl rfl (by decide) (gw1 75 rfl rfl) (Or.inl rfl) (Or.inr ⟨rfl, hN, rfl⟩) (by decide +kernel) rfl rfl (Nat.le_of_ble_eq_true rfl) ?_
  refine cw_aload_n C dX7_init_54 rfl rfl ?_
  refine cw_bipush (v := (40 : Int32)) C dX7_init_55 (by decide) ?_
  refine cw_newa (atype := .int) (a := 2) (N := 40) (a0 := (40, .inl (fun _ => 0))) (rc := 3) (rs := 100) (pre := [(h0, .inr (11, [.int (0 : Int32), .int (0 : Int32), .ref q1, .ref q2, .ref q3, .ref q4, .ref q5, .null, .null, .null, .null]))]) (Wr := ((q5, .inl ((CGV G).2.2 2, (40, .inl (fun _ => 0)))) :: ((q4, .inl ((CGV G).2.2 2, (40, .inl (fun _ => 0)))) :: ((q3, .inl ((CGV G).2.2 2, (40, .inl (fun _ => 0)))) :: ((q2, .inl ((CGV G).2.2 2, (40, .inl (fun _ => 0)))) :: ((q1, .inl ((CGV G).2.2 2, (40, .inl (fun _ => 0)))) :: [])))))) C dX7_init_57 (gw1 116 rfl rfl) (by decide) rfl (fun _ => rfl) (by decide) (by decide) (Nat.le_of_ble_eq_true rfl) rfl (fun q6 => ?_)
  refine cw_put (j := 0) (f := 7) (ci := 11) (K := RX7) (T := TX7) (N := 11) (fs := [.int (0 : Int32), .int (0 : Int32), .ref q1, .ref q2, .ref q3, .ref q4, .ref q5, .null, .null, .null, .null]) (ty := (.array .int)) C dX7_init_59 inX7 tyX7 tyX7_ok nmX7 rfl rfl (by decide) (gw1 79 rfl rfl) (Or.inl rfl) (Or.inr ⟨rfl, hN, rfl⟩) (by decide +kernel) rfl rfl (Nat.le_of_ble_eq_true rfl) ?_
  refine cw_aload_n C dX7_init_62 rfl rfl ?_
  refine cw_bipush (v := (40 : Int32)) C dX7_init_63 (by decide) ?_
  refine cw_newa (atype := .boolean) (a := 3) (N := 40) (a0 := (40, .inl (fun _ => 0))) (rc := 2) (rs := 60) (pre := [(h0, .inr (11, [.int (0 : Int32), .int (0 : Int32), .ref q1, .ref q2, .ref q3, .ref q4, .ref q5, .ref q6, .null, .null, .null]))]) (Wr := ((q6, .inl ((CGV G).2.2 2, (40, .inl (fun _ => 0)))) :: ((q5, .inl ((CGV G).2.2 2, (40, .inl (fun _ => 0)))) :: ((q4, .inl ((CGV G).2.2 2, (40, .inl (fun _ => 0)))) :: ((q3, .inl ((CGV G).2.2 2, (40, .inl (fun _ => 0)))) :: ((q2, .inl ((CGV G).2.2 2, (40, .inl (fun _ => 0)))) :: ((q1, .inl ((CGV G).2.2 2, (40, .inl (fun _ => 0)))) :: []))))))) C dX7_init_65 (gw1 117 rfl rfl) (by decide) rfl (fun _ => rfl) (by decide) (by decide) (Nat.le_of_ble_eq_true rfl) rfl (fun q7 => ?_)
  refine cw_put (j := 0) (f := 8) (ci := 11) (K := RX7) (T := TX7) (N := 11) (fs := [.int (0 : Int32), .int (0 : Int32), .ref q1, .ref q2, .ref q3, .ref q4, .ref q5, .ref q6, .null, .null, .null]) (ty := (.array .boolean)) C dX7_init_67 inX7 tyX7 tyX7_ok nmX7 rfl rfl (by decide) (gw1 83 rfl rfl) (Or.inl rfl) (Or.inr ⟨rfl, hN, rfl⟩) (by decide +kernel) rfl rfl (Nat.le_of_ble_eq_true rfl) ?_
  refine cw_aload_n C dX7_init_70 rfl rfl ?_
  refine cw_bipush (v := (30 : Int32)) C dX7_init_71 (by decide) ?_
  refine cw_newa (atype := .int) (a := 2) (N := 30) (a0 := (30, .inl (fun _ => 0))) (rc := 1) (rs := 30) (pre := [(h0, .inr (11, [.int (0 : Int32), .int (0 : Int32), .ref q1, .ref q2, .ref q3, .ref q4, .ref q5, .ref q6, .ref q7, .null, .null]))]) (Wr := ((q7, .inl ((CGV G).2.2 3, (40, .inl (fun _ => 0)))) :: ((q6, .inl ((CGV G).2.2 2, (40, .inl (fun _ => 0)))) :: ((q5, .inl ((CGV G).2.2 2, (40, .inl (fun _ => 0)))) :: ((q4, .inl ((CGV G).2.2 2, (40, .inl (fun _ => 0)))) :: ((q3, .inl ((CGV G).2.2 2, (40, .inl (fun _ => 0)))) :: ((q2, .inl ((CGV G).2.2 2, (40, .inl (fun _ => 0)))) :: ((q1, .inl ((CGV G).2.2 2, (40, .inl (fun _ => 0)))) :: [])))))))) C dX7_init_73 (gw1 116 rfl rfl) (by decide) rfl (fun _ => rfl) (by decide) (by decide) (Nat.le_of_ble_eq_true rfl) rfl (fun q8 => ?_)
  refine cw_put (j := 0) (f := 9) (ci := 11) (K := RX7) (T := TX7) (N := 11) (fs := [.int (0 : Int32), .int (0 : Int32), .ref q1, .ref q2, .ref q3, .ref q4, .ref q5, .ref q6, .ref q7, .null, .null]) (ty := (.array .int)) C dX7_init_75 inX7 tyX7 tyX7_ok nmX7 rfl rfl (by decide) (gw1 87 rfl rfl) (Or.inl rfl) (Or.inr ⟨rfl, hN, rfl⟩) (by decide +kernel) rfl rfl (Nat.le_of_ble_eq_true rfl) ?_
  refine cw_aload_n C dX7_init_78 rfl rfl ?_
  refine cw_bipush (v := (30 : Int32)) C dX7_init_79 (by decide) ?_
  refine cw_newa (atype := .int) (a := 2) (N := 30) (a0 := (30, .inl (fun _ => 0))) (rc := 0) (rs := 0) (pre := [(h0, .inr (11, [.int (0 : Int32), .int (0 : Int32), .ref q1, .ref q2, .ref q3, .ref q4, .ref q5, .ref q6, .ref q7, .ref q8, .null]))]) (Wr := ((q8, .inl ((CGV G).2.2 2, (30, .inl (fun _ => 0)))) :: ((q7, .inl ((CGV G).2.2 3, (40, .inl (fun _ => 0)))) :: ((q6, .inl ((CGV G).2.2 2, (40, .inl (fun _ => 0)))) :: ((q5, .inl ((CGV G).2.2 2, (40, .inl (fun _ => 0)))) :: ((q4, .inl ((CGV G).2.2 2, (40, .inl (fun _ => 0)))) :: ((q3, .inl ((CGV G).2.2 2, (40, .inl (fun _ => 0)))) :: ((q2, .inl ((CGV G).2.2 2, (40, .inl (fun _ => 0)))) :: ((q1, .inl ((CGV G).2.2 2, (40, .inl (fun _ => 0)))) :: []))))))))) C dX7_init_81 (gw1 116 rfl rfl) (by decide) rfl (fun _ => rfl) (by decide) (by decide) (Nat.le_of_ble_eq_true rfl) rfl (fun q9 => ?_)
  refine cw_put (j := 0) (f := 10) (ci := 11) (K := RX7) (T := TX7) (N := 11) (fs := [.int (0 : Int32), .int (0 : Int32), .ref q1, .ref q2, .ref q3, .ref q4, .ref q5, .ref q6, .ref q7, .ref q8, .null]) (ty := (.array .int)) C dX7_init_83 inX7 tyX7 tyX7_ok nmX7 rfl rfl (by decide) (gw1 90 rfl rfl) (Or.inl rfl) (Or.inr ⟨rfl, hN, rfl⟩) (by decide +kernel) rfl rfl (Nat.le_of_ble_eq_true rfl) ?_
  exact cw_vret C hR dX7_init_86 rfl ⟨rfl, fun j => [h0, q1, q2, q3, q4, q5, q6, q7, q8, q9].getD j 0, rfl, rfl⟩
def cloW (V : VT) (p1 : Nat) (a : Nat → Nat) : va_W := (((a 0), .inr (4, [.ref (a 1), .ref (a 2), .ref (a 3), .ref p1, .ref (a 4)])) :: (mW V 8 8 (a 4) ++ ((((a 3), .inl (V.2.2 2, (8, .inl (fun _ => 0)))) :: (((a 2), .inl (V.2.2 2, (8, .inl (fun _ => 0)))) :: (((a 1), .inl (V.2.2 2, (40, .inl (fun _ => 0)))) :: []))))))
theorem dX0_init_0 : decode cX0_init 0 = .ok (.aload_n 0, 1) := by decide +kernel
theorem dX0_init_1 : decode cX0_init 1 = .ok (.invokespecial 3, 3) := by decide +kernel
theorem dX0_init_4 : decode cX0_init 4 = .ok (.aload_n 0, 1) := by decide +kernel
theorem dX0_init_5 : decode cX0_init 5 = .ok (.bipush 40, 2) := by decide +kernel
theorem dX0_init_7 : decode cX0_init 7 = .ok (.newarray .int, 2) := by decide +kernel
theorem dX0_init_9 : decode cX0_init 9 = .ok (.putfield 9, 3) := by decide +kernel
theorem dX0_init_12 : decode cX0_init 12 = .ok (.aload_n 0, 1) := by decide +kernel
theorem dX0_init_13 : decode cX0_init 13 = .ok (.bipush 8, 2) := by decide +kernel
theorem dX0_init_15 : decode cX0_init 15 = .ok (.newarray .int, 2) := by decide +kernel
theorem dX0_init_17 : decode cX0_init 17 = .ok (.putfield 15, 3) := by decide +kernel
theorem dX0_init_20 : decode cX0_init 20 = .ok (.aload_n 0, 1) := by decide +kernel
theorem dX0_init_21 : decode cX0_init 21 = .ok (.bipush 8, 2) := by decide +kernel
theorem dX0_init_23 : decode cX0_init 23 = .ok (.newarray .int, 2) := by decide +kernel
theorem dX0_init_25 : decode cX0_init 25 = .ok (.putfield 18, 3) := by decide +kernel
theorem dX0_init_28 : decode cX0_init 28 = .ok (.aload_n 0, 1) := by decide +kernel
theorem dX0_init_29 : decode cX0_init 29 = .ok (.bipush 8, 2) := by decide +kernel
theorem dX0_init_31 : decode cX0_init 31 = .ok (.bipush 8, 2) := by decide +kernel
theorem dX0_init_33 : decode cX0_init 33 = .ok (.multianewarray 21 2, 4) := by decide +kernel
theorem dX0_init_37 : decode cX0_init 37 = .ok (.putfield 23, 3) := by decide +kernel
theorem dX0_init_40 : decode cX0_init 40 = .ok (.aload_n 0, 1) := by decide +kernel
theorem dX0_init_41 : decode cX0_init 41 = .ok (.aload_n 1, 1) := by decide +kernel
theorem dX0_init_42 : decode cX0_init 42 = .ok (.putfield 26, 3) := by decide +kernel
theorem dX0_init_45 : decode cX0_init 45 = .ok (.return_, 1) := by decide +kernel
theorem mi_X0_init : MI9 yX0_init cX0_init 2 1 := ⟨(gw1 211 rfl rfl), (gw1 11 rfl rfl), (gw1 212 rfl rfl), ⟨by decide +kernel, by decide +kernel⟩, by decide +kernel, rfl⟩
set_option maxHeartbeats 2000000 in
set_option maxRecDepth 20000 in
theorem c_X0_init {l : Launch} {V : VT} (h0 p1 : Nat) : CMet l yX0_init (.code yX0_init cX0_init 2 none) 1 12 128 V [.ref h0, .ref p1] [(h0, .inr (4, [.null, .null, .null, .null, .null]))] (fun v W1 => v = none ∧ ∃ a : Nat → Nat, a 0 = h0 ∧ W1 = cloW V p1 a) := by
  refine CMet_of (args := [pW (.ref h0), pW (.ref p1)]) (by decide +kernel) rfl (Nat.le_of_ble_eq_true rfl) (fun G hV hl C hR hH hN => ?_)
  subst hV
  subst hl
  refine cw_aload_n C dX0_init_0 rfl rfl ?_
  refine cw_obj C (CHR_le (by decide) hH) dX0_init_1 (gw1 213 rfl rfl) (gw1 40 rfl rfl) (gw1 41 rfl rfl) rfl ?_
  refine cw_aload_n C dX0_init_4 rfl rfl ?_
  refine cw_bipush (v := (40 : Int32)) C dX0_init_5 (by decide) ?_
  refine cw_newa (atype := .int) (a := 2) (N := 40) (a0 := (40, .inl (fun _ => 0))) (rc := 11) (rs := 88) (pre := [(h0, .inr (4, [.null, .null, .null, .null, .null]))]) (Wr := []) C dX0_init_7 (gw1 116 rfl rfl) (by decide) rfl (fun _ => rfl) (by decide) (by decide) (Nat.le_of_ble_eq_true rfl) rfl (fun q1 => ?_)
  refine cw_put (j := 0) (f := 0) (ci := 4) (K := RX0) (T := TX0) (N := 5) (fs := [.null, .null, .null, .null, .null]) (ty := (.array .int)) C dX0_init_9 inX0 tyX0 tyX0_ok nmX0 rfl rfl (by decide) (gw1 215 rfl rfl) (Or.inl rfl) (Or.inr ⟨rfl, hN, rfl⟩) (by decide +kernel) rfl rfl (Nat.le_of_ble_eq_true rfl) ?_
  refine cw_aload_n C dX0_init_12 rfl rfl ?_
  refine cw_bipush (v := (8 : Int32)) C dX0_init_13 (by decide) ?_
  refine cw_newa (atype := .int) (a := 2) (N := 8) (a0 := (8, .inl (fun _ => 0))) (rc := 10) (rs := 80) (pre := [(h0, .inr (4, [.ref q1, .null, .null, .null, .null]))]) (Wr := ((q1, .inl ((CGV G).2.2 2, (40, .inl (fun _ => 0)))) :: [])) C dX0_init_15 (gw1 116 rfl rfl) (by decide) rfl (fun _ => rfl) (by decide) (by decide) (Nat.le_of_ble_eq_true rfl) rfl (fun q2 => ?_)
  refine cw_put (j := 0) (f := 1) (ci := 4) (K := RX0) (T := TX0) (N := 5) (fs := [.ref q1, .null, .null, .null, .null]) (ty := (.array .int)) C dX0_init_17 inX0 tyX0 tyX0_ok nmX0 rfl rfl (by decide) (gw1 217 rfl rfl) (Or.inl rfl) (Or.inr ⟨rfl, hN, rfl⟩) (by decide +kernel) rfl rfl (Nat.le_of_ble_eq_true rfl) ?_
  refine cw_aload_n C dX0_init_20 rfl rfl ?_
  refine cw_bipush (v := (8 : Int32)) C dX0_init_21 (by decide) ?_
  refine cw_newa (atype := .int) (a := 2) (N := 8) (a0 := (8, .inl (fun _ => 0))) (rc := 9) (rs := 72) (pre := [(h0, .inr (4, [.ref q1, .ref q2, .null, .null, .null]))]) (Wr := ((q2, .inl ((CGV G).2.2 2, (8, .inl (fun _ => 0)))) :: ((q1, .inl ((CGV G).2.2 2, (40, .inl (fun _ => 0)))) :: []))) C dX0_init_23 (gw1 116 rfl rfl) (by decide) rfl (fun _ => rfl) (by decide) (by decide) (Nat.le_of_ble_eq_true rfl) rfl (fun q3 => ?_)
  refine cw_put (j := 0) (f := 2) (ci := 4) (K := RX0) (T := TX0) (N := 5) (fs := [.ref q1, .ref q2, .null, .null, .null]) (ty := (.array .int)) C dX0_init_25 inX0 tyX0 tyX0_ok nmX0 rfl rfl (by decide) (gw1 220 rfl rfl) (Or.inl rfl) (Or.inr ⟨rfl, hN, rfl⟩) (by decide +kernel) rfl rfl (Nat.le_of_ble_eq_true rfl) ?_
  refine cw_aload_n C dX0_init_28 rfl rfl ?_
  refine cw_bipush (v := (8 : Int32)) C dX0_init_29 (by decide) ?_
  refine cw_bipush (v := (8 : Int32)) C dX0_init_31 (by decide) ?_
  refine cw_multi (N := 8) (M := 8) (rc := 0) (rs := 0) (pre := [(h0, .inr (4, [.ref q1, .ref q2, .ref q3, .null, .null]))]) (Wr := ((q3, .inl ((CGV G).2.2 2, (8, .inl (fun _ => 0)))) :: ((q2, .inl ((CGV G).2.2 2, (8, .inl (fun _ => 0)))) :: ((q1, .inl ((CGV G).2.2 2, (40, .inl (fun _ => 0)))) :: [])))) C dX0_init_33 (gw1 214 rfl rfl) (by decide) (by decide) rfl (fun q4 => ?_)
  refine cw_put (j := 0) (f := 4) (ci := 4) (K := RX0) (T := TX0) (N := 5) (fs := [.ref q1, .ref q2, .ref q3, .null, .null]) (ty := (.array (.array .int))) C dX0_init_37 inX0 tyX0 tyX0_ok nmX0 rfl rfl (by decide) (gw1 223 rfl rfl) (Or.inl rfl) (Or.inr ⟨rfl, hN, rfl⟩) (by decide +kernel) rfl rfl (Nat.le_of_ble_eq_true rfl) ?_
  refine cw_aload_n C dX0_init_40 rfl rfl ?_
  refine cw_aload_n C dX0_init_41 rfl rfl ?_
  refine cw_put (j := 0) (f := 3) (ci := 4) (K := RX0) (T := TX0) (N := 5) (fs := [.ref q1, .ref q2, .ref q3, .null, .ref q4]) (ty := (.object "TraceAssembler$Store")) C dX0_init_42 inX0 tyX0 tyX0_ok nmX0 rfl rfl (by decide) (gw1 222 rfl rfl) (Or.inl rfl) (Or.inr ⟨rfl, hN, rfl⟩) (by decide +kernel) rfl rfl (Nat.le_of_ble_eq_true rfl) ?_
  exact cw_vret C hR dX0_init_45 rfl ⟨rfl, fun j => [h0, q1, q2, q3, q4].getD j 0, rfl, rfl⟩
def forW (V : VT) (p1 : Nat) (p2 : Nat) (a : Nat → Nat) : va_W := (((a 0), .inr (6, [.ref (a 1), .ref (a 2), .ref (a 3), .ref (a 4), .ref (a 5), .ref (a 6), .ref (a 7), .ref (a 8), .ref p1, .ref p2])) :: (((a 8), .inl (V.2.2 2, (40, .inl (fun _ => 0)))) :: (((a 7), .inl (V.2.2 3, (40, .inl (fun _ => 0)))) :: (((a 6), .inl (V.2.2 2, (40, .inl (fun _ => 0)))) :: (((a 5), .inl (V.2.2 2, (40, .inl (fun _ => 0)))) :: (((a 4), .inl (V.2.2 2, (40, .inl (fun _ => 0)))) :: (((a 3), .inl (V.2.2 2, (40, .inl (fun _ => 0)))) :: (((a 2), .inl (V.2.2 2, (40, .inl (fun _ => 0)))) :: (((a 1), .inl (V.2.2 2, (40, .inl (fun _ => 0)))) :: [])))))))))
theorem dX2_init_0 : decode cX2_init 0 = .ok (.aload_n 0, 1) := by decide +kernel
theorem dX2_init_1 : decode cX2_init 1 = .ok (.invokespecial 3, 3) := by decide +kernel
theorem dX2_init_4 : decode cX2_init 4 = .ok (.aload_n 0, 1) := by decide +kernel
theorem dX2_init_5 : decode cX2_init 5 = .ok (.bipush 40, 2) := by decide +kernel
theorem dX2_init_7 : decode cX2_init 7 = .ok (.newarray .int, 2) := by decide +kernel
theorem dX2_init_9 : decode cX2_init 9 = .ok (.putfield 9, 3) := by decide +kernel
theorem dX2_init_12 : decode cX2_init 12 = .ok (.aload_n 0, 1) := by decide +kernel
theorem dX2_init_13 : decode cX2_init 13 = .ok (.bipush 40, 2) := by decide +kernel
theorem dX2_init_15 : decode cX2_init 15 = .ok (.newarray .int, 2) := by decide +kernel
theorem dX2_init_17 : decode cX2_init 17 = .ok (.putfield 15, 3) := by decide +kernel
theorem dX2_init_20 : decode cX2_init 20 = .ok (.aload_n 0, 1) := by decide +kernel
theorem dX2_init_21 : decode cX2_init 21 = .ok (.bipush 40, 2) := by decide +kernel
theorem dX2_init_23 : decode cX2_init 23 = .ok (.newarray .int, 2) := by decide +kernel
theorem dX2_init_25 : decode cX2_init 25 = .ok (.putfield 18, 3) := by decide +kernel
theorem dX2_init_28 : decode cX2_init 28 = .ok (.aload_n 0, 1) := by decide +kernel
theorem dX2_init_29 : decode cX2_init 29 = .ok (.bipush 40, 2) := by decide +kernel
theorem dX2_init_31 : decode cX2_init 31 = .ok (.newarray .int, 2) := by decide +kernel
theorem dX2_init_33 : decode cX2_init 33 = .ok (.putfield 21, 3) := by decide +kernel
theorem dX2_init_36 : decode cX2_init 36 = .ok (.aload_n 0, 1) := by decide +kernel
theorem dX2_init_37 : decode cX2_init 37 = .ok (.bipush 40, 2) := by decide +kernel
theorem dX2_init_39 : decode cX2_init 39 = .ok (.newarray .int, 2) := by decide +kernel
theorem dX2_init_41 : decode cX2_init 41 = .ok (.putfield 24, 3) := by decide +kernel
theorem dX2_init_44 : decode cX2_init 44 = .ok (.aload_n 0, 1) := by decide +kernel
theorem dX2_init_45 : decode cX2_init 45 = .ok (.bipush 40, 2) := by decide +kernel
theorem dX2_init_47 : decode cX2_init 47 = .ok (.newarray .int, 2) := by decide +kernel
theorem dX2_init_49 : decode cX2_init 49 = .ok (.putfield 27, 3) := by decide +kernel
theorem dX2_init_52 : decode cX2_init 52 = .ok (.aload_n 0, 1) := by decide +kernel
theorem dX2_init_53 : decode cX2_init 53 = .ok (.bipush 40, 2) := by decide +kernel
theorem dX2_init_55 : decode cX2_init 55 = .ok (.newarray .boolean, 2) := by decide +kernel
theorem dX2_init_57 : decode cX2_init 57 = .ok (.putfield 30, 3) := by decide +kernel
theorem dX2_init_60 : decode cX2_init 60 = .ok (.aload_n 0, 1) := by decide +kernel
theorem dX2_init_61 : decode cX2_init 61 = .ok (.bipush 40, 2) := by decide +kernel
theorem dX2_init_63 : decode cX2_init 63 = .ok (.newarray .int, 2) := by decide +kernel
theorem dX2_init_65 : decode cX2_init 65 = .ok (.putfield 34, 3) := by decide +kernel
theorem dX2_init_68 : decode cX2_init 68 = .ok (.aload_n 0, 1) := by decide +kernel
theorem dX2_init_69 : decode cX2_init 69 = .ok (.aload_n 1, 1) := by decide +kernel
theorem dX2_init_70 : decode cX2_init 70 = .ok (.putfield 37, 3) := by decide +kernel
theorem dX2_init_73 : decode cX2_init 73 = .ok (.aload_n 0, 1) := by decide +kernel
theorem dX2_init_74 : decode cX2_init 74 = .ok (.aload_n 2, 1) := by decide +kernel
theorem dX2_init_75 : decode cX2_init 75 = .ok (.putfield 41, 3) := by decide +kernel
theorem dX2_init_78 : decode cX2_init 78 = .ok (.return_, 1) := by decide +kernel
theorem mi_X2_init : MI9 yX2_init cX2_init 3 2 := ⟨(gw1 238 rfl rfl), (gw1 12 rfl rfl), (gw1 239 rfl rfl), ⟨by decide +kernel, by decide +kernel⟩, by decide +kernel, rfl⟩
set_option maxHeartbeats 2000000 in
set_option maxRecDepth 20000 in
theorem c_X2_init {l : Launch} {V : VT} (h0 p1 p2 : Nat) : CMet l yX2_init (.code yX2_init cX2_init 3 none) 1 8 320 V [.ref h0, .ref p1, .ref p2] [(h0, .inr (6, [.null, .null, .null, .null, .null, .null, .null, .null, .null, .null]))] (fun v W1 => v = none ∧ ∃ a : Nat → Nat, a 0 = h0 ∧ W1 = forW V p1 p2 a) := by
  refine CMet_of (args := [pW (.ref h0), pW (.ref p1), pW (.ref p2)]) (by decide +kernel) rfl (Nat.le_of_ble_eq_true rfl) (fun G hV hl C hR hH hN => ?_)
  subst hV
  subst hl
  refine cw_aload_n C dX2_init_0 rfl rfl ?_
  refine cw_obj C (CHR_le (by decide) hH) dX2_init_1 (gw2 0 rfl rfl) (gw1 40 rfl rfl) (gw1 41 rfl rfl) rfl ?_
  refine cw_aload_n C dX2_init_4 rfl rfl ?_
  refine cw_bipush (v := (40 : Int32)) C dX2_init_5 (by decide) ?_
  refine cw_newa (atype := .int) (a := 2) (N := 40) (a0 := (40, .inl (fun _ => 0))) (rc := 7) (rs := 280) (pre := [(h0, .inr (6, [.null, .null, .null, .null, .null, .null, .null, .null, .null, .null]))]) (Wr := []) C dX2_init_7 (gw1 116 rfl rfl) (by decide) rfl (fun _ => rfl) (by decide) (by decide) (Nat.le_of_ble_eq_true rfl) rfl (fun q1 => ?_)
  refine cw_put (j := 0) (f := 0) (ci := 6) (K := RX2) (T := TX2) (N := 10) (fs := [.null, .null, .null, .null, .null, .null, .null, .null, .null, .null]) (ty := (.array .int)) C dX2_init_9 inX2 tyX2 tyX2_ok nmX2 rfl rfl (by decide) (gw2 1 rfl rfl) (Or.inl rfl) (Or.inr ⟨rfl, hN, rfl⟩) (by decide +kernel) rfl rfl (Nat.le_of_ble_eq_true rfl) ?_
  refine cw_aload_n C dX2_init_12 rfl rfl ?_
  refine cw_bipush (v := (40 : Int32)) C dX2_init_13 (by decide) ?_
  refine cw_newa (atype := .int) (a := 2) (N := 40) (a0 := (40, .inl (fun _ => 0))) (rc := 6) (rs := 240) (pre := [(h0, .inr (6, [.ref q1, .null, .null, .null, .null, .null, .null, .null, .null, .null]))]) (Wr := ((q1, .inl ((CGV G).2.2 2, (40, .inl (fun _ => 0)))) :: [])) C dX2_init_15 (gw1 116 rfl rfl) (by decide) rfl (fun _ => rfl) (by decide) (by decide) (Nat.le_of_ble_eq_true rfl) rfl (fun q2 => ?_)
  refine cw_put (j := 0) (f := 1) (ci := 6) (K := RX2) (T := TX2) (N := 10) (fs := [.ref q1, .null, .null, .null, .null, .null, .null, .null, .null, .null]) (ty := (.array .int)) C dX2_init_17 inX2 tyX2 tyX2_ok nmX2 rfl rfl (by decide) (gw2 5 rfl rfl) (Or.inl rfl) (Or.inr ⟨rfl, hN, rfl⟩) (by decide +kernel) rfl rfl (Nat.le_of_ble_eq_true rfl) ?_
  refine cw_aload_n C dX2_init_20 rfl rfl ?_
  refine cw_bipush (v := (40 : Int32)) C dX2_init_21 (by decide) ?_
  refine cw_newa (atype := .int) (a := 2) (N := 40) (a0 := (40, .inl (fun _ => 0))) (rc := 5) (rs := 200) (pre := [(h0, .inr (6, [.ref q1, .ref q2, .null, .null, .null, .null, .null, .null, .null, .null]))]) (Wr := ((q2, .inl ((CGV G).2.2 2, (40, .inl (fun _ => 0)))) :: ((q1, .inl ((CGV G).2.2 2, (40, .inl (fun _ => 0)))) :: []))) C dX2_init_23 (gw1 116 rfl rfl) (by decide) rfl (fun _ => rfl) (by decide) (by decide) (Nat.le_of_ble_eq_true rfl) rfl (fun q3 => ?_)
  refine cw_put (j := 0) (f := 2) (ci := 6) (K := RX2) (T := TX2) (N := 10) (fs := [.ref q1, .ref q2, .null, .null, .null, .null, .null, .null, .null, .null]) (ty := (.array .int)) C dX2_init_25 inX2 tyX2 tyX2_ok nmX2 rfl rfl (by decide) (gw2 9 rfl rfl) (Or.inl rfl) (Or.inr ⟨rfl, hN, rfl⟩) (by decide +kernel) rfl rfl (Nat.le_of_ble_eq_true rfl) ?_
  refine cw_aload_n C dX2_init_28 rfl rfl ?_
  refine cw_bipush (v := (40 : Int32)) C dX2_init_29 (by decide) ?_
  refine cw_newa (atype := .int) (a := 2) (N := 40) (a0 := (40, .inl (fun _ => 0))) (rc := 4) (rs := 160) (pre := [(h0, .inr (6, [.ref q1, .ref q2, .ref q3, .null, .null, .null, .null, .null, .null, .null]))]) (Wr := ((q3, .inl ((CGV G).2.2 2, (40, .inl (fun _ => 0)))) :: ((q2, .inl ((CGV G).2.2 2, (40, .inl (fun _ => 0)))) :: ((q1, .inl ((CGV G).2.2 2, (40, .inl (fun _ => 0)))) :: [])))) C dX2_init_31 (gw1 116 rfl rfl) (by decide) rfl (fun _ => rfl) (by decide) (by decide) (Nat.le_of_ble_eq_true rfl) rfl (fun q4 => ?_)
  refine cw_put (j := 0) (f := 3) (ci := 6) (K := RX2) (T := TX2) (N := 10) (fs := [.ref q1, .ref q2, .ref q3, .null, .null, .null, .null, .null, .null, .null]) (ty := (.array .int)) C dX2_init_33 inX2 tyX2 tyX2_ok nmX2 rfl rfl (by decide) (gw2 11 rfl rfl) (Or.inl rfl) (Or.inr ⟨rfl, hN, rfl⟩) (by decide +kernel) rfl rfl (Nat.le_of_ble_eq_true rfl) ?_
  refine cw_aload_n C dX2_init_36 rfl rfl ?_
  refine cw_bipush (v := (40 : Int32)) C dX2_init_37 (by decide) ?_
  refine cw_newa (atype := .int) (a := 2) (N := 40) (a0 := (40, .inl (fun _ => 0))) (rc := 3) (rs := 120) (pre := [(h0, .inr (6, [.ref q1, .ref q2, .ref q3, .ref q4, .null, .null, .null, .null, .null, .null]))]) (Wr := ((q4, .inl ((CGV G).2.2 2, (40, .inl (fun _ => 0)))) :: ((q3, .inl ((CGV G).2.2 2, (40, .inl (fun _ => 0)))) :: ((q2, .inl ((CGV G).2.2 2, (40, .inl (fun _ => 0)))) :: ((q1, .inl ((CGV G).2.2 2, (40, .inl (fun _ => 0)))) :: []))))) C dX2_init_39 (gw1 116 rfl rfl) (by decide) rfl (fun _ => rfl) (by decide) (by decide) (Nat.le_of_ble_eq_true rfl) rfl (fun q5 => ?_)
  refine cw_put (j := 0) (f := 4) (ci := 6) (K := RX2) (T := TX2) (N := 10) (fs := [.ref q1, .ref q2, .ref q3, .ref q4, .null, .null, .null, .null, .null, .null]) (ty := (.array .int)) C dX2_init_41 inX2 tyX2 tyX2_ok nmX2 rfl rfl (by decide) (gw2 13 rfl rfl) (Or.inl rfl) (Or.inr ⟨rfl, hN, rfl⟩) (by decide +kernel) rfl rfl (Nat.le_of_ble_eq_true rfl) ?_
  refine cw_aload_n C dX2_init_44 rfl rfl ?_
  refine cw_bipush (v := (40 : Int32)) C dX2_init_45 (by decide) ?_
  refine cw_newa (atype := .int) (a := 2) (N := 40) (a0 := (40, .inl (fun _ => 0))) (rc := 2) (rs := 80) (pre := [(h0, .inr (6, [.ref q1, .ref q2, .ref q3, .ref q4, .ref q5, .null, .null, .null, .null, .null]))]) (Wr := ((q5, .inl ((CGV G).2.2 2, (40, .inl (fun _ => 0)))) :: ((q4, .inl ((CGV G).2.2 2, (40, .inl (fun _ => 0)))) :: ((q3, .inl ((CGV G).2.2 2, (40, .inl (fun _ => 0)))) :: ((q2, .inl ((CGV G).2.2 2, (40, .inl (fun _ => 0)))) :: ((q1, .inl ((CGV G).2.2 2, (40, .inl (fun _ => 0)))) :: [])))))) C dX2_init_47 (gw1 116 rfl rfl) (by decide) rfl (fun _ => rfl) (by decide) (by decide) (Nat.le_of_ble_eq_true rfl) rfl (fun q6 => ?_)
  refine cw_put (j := 0) (f := 5) (ci := 6) (K := RX2) (T := TX2) (N := 10) (fs := [.ref q1, .ref q2, .ref q3, .ref q4, .ref q5, .null, .null, .null, .null, .null]) (ty := (.array .int)) C dX2_init_49 inX2 tyX2 tyX2_ok nmX2 rfl rfl (by decide) (gw2 14 rfl rfl) (Or.inl rfl) (Or.inr ⟨rfl, hN, rfl⟩) (by decide +kernel) rfl rfl (Nat.le_of_ble_eq_true rfl) ?_
  refine cw_aload_n C dX2_init_52 rfl rfl ?_
  refine cw_bipush (v := (40 : Int32)) C dX2_init_53 (by decide) ?_
  refine cw_newa (atype := .boolean) (a := 3) (N := 40) (a0 := (40, .inl (fun _ => 0))) (rc := 1) (rs := 40) (pre := [(h0, .inr (6, [.ref q1, .ref q2, .ref q3, .ref q4, .ref q5, .ref q6, .null, .null, .null, .null]))]) (Wr := ((q6, .inl ((CGV G).2.2 2, (40, .inl (fun _ => 0)))) :: ((q5, .inl ((CGV G).2.2 2, (40, .inl (fun _ => 0)))) :: ((q4, .inl ((CGV G).2.2 2, (40, .inl (fun _ => 0)))) :: ((q3, .inl ((CGV G).2.2 2, (40, .inl (fun _ => 0)))) :: ((q2, .inl ((CGV G).2.2 2, (40, .inl (fun _ => 0)))) :: ((q1, .inl ((CGV G).2.2 2, (40, .inl (fun _ => 0)))) :: []))))))) C dX2_init_55 (gw1 117 rfl rfl) (by decide) rfl (fun _ => rfl) (by decide) (by decide) (Nat.le_of_ble_eq_true rfl) rfl (fun q7 => ?_)
  refine cw_put (j := 0) (f := 6) (ci := 6) (K := RX2) (T := TX2) (N := 10) (fs := [.ref q1, .ref q2, .ref q3, .ref q4, .ref q5, .ref q6, .null, .null, .null, .null]) (ty := (.array .boolean)) C dX2_init_57 inX2 tyX2 tyX2_ok nmX2 rfl rfl (by decide) (gw2 15 rfl rfl) (Or.inl rfl) (Or.inr ⟨rfl, hN, rfl⟩) (by decide +kernel) rfl rfl (Nat.le_of_ble_eq_true rfl) ?_
  refine cw_aload_n C dX2_init_60 rfl rfl ?_
  refine cw_bipush (v := (40 : Int32)) C dX2_init_61 (by decide) ?_
  refine cw_newa (atype := .int) (a := 2) (N := 40) (a0 := (40, .inl (fun _ => 0))) (rc := 0) (rs := 0) (pre := [(h0, .inr (6, [.ref q1, .ref q2, .ref q3, .ref q4, .ref q5, .ref q6, .ref q7, .null, .null, .null]))]) (Wr := ((q7, .inl ((CGV G).2.2 3, (40, .inl (fun _ => 0)))) :: ((q6, .inl ((CGV G).2.2 2, (40, .inl (fun _ => 0)))) :: ((q5, .inl ((CGV G).2.2 2, (40, .inl (fun _ => 0)))) :: ((q4, .inl ((CGV G).2.2 2, (40, .inl (fun _ => 0)))) :: ((q3, .inl ((CGV G).2.2 2, (40, .inl (fun _ => 0)))) :: ((q2, .inl ((CGV G).2.2 2, (40, .inl (fun _ => 0)))) :: ((q1, .inl ((CGV G).2.2 2, (40, .inl (fun _ => 0)))) :: [])))))))) C dX2_init_63 (gw1 116 rfl rfl) (by decide) rfl (fun _ => rfl) (by decide) (by decide) (Nat.le_of_ble_eq_true rfl) rfl (fun q8 => ?_)
  refine cw_put (j := 0) (f := 7) (ci := 6) (K := RX2) (T := TX2) (N := 10) (fs := [.ref q1, .ref q2, .ref q3, .ref q4, .ref q5, .ref q6, .ref q7, .null, .null, .null]) (ty := (.array .int)) C dX2_init_65 inX2 tyX2 tyX2_ok nmX2 rfl rfl (by decide) (gw2 17 rfl rfl) (Or.inl rfl) (Or.inr ⟨rfl, hN, rfl⟩) (by decide +kernel) rfl rfl (Nat.le_of_ble_eq_true rfl) ?_
  refine cw_aload_n C dX2_init_68 rfl rfl ?_
  refine cw_aload_n C dX2_init_69 rfl rfl ?_
  refine cw_put (j := 0) (f := 8) (ci := 6) (K := RX2) (T := TX2) (N := 10) (fs := [.ref q1, .ref q2, .ref q3, .ref q4, .ref q5, .ref q6, .ref q7, .ref q8, .null, .null]) (ty := (.object "TraceAssembler$Store")) C dX2_init_70 inX2 tyX2 tyX2_ok nmX2 rfl rfl (by decide) (gw2 19 rfl rfl) (Or.inl rfl) (Or.inr ⟨rfl, hN, rfl⟩) (by decide +kernel) rfl rfl (Nat.le_of_ble_eq_true rfl) ?_
  refine cw_aload_n C dX2_init_73 rfl rfl ?_
  refine cw_aload_n C dX2_init_74 rfl rfl ?_
  refine cw_put (j := 0) (f := 9) (ci := 6) (K := RX2) (T := TX2) (N := 10) (fs := [.ref q1, .ref q2, .ref q3, .ref q4, .ref q5, .ref q6, .ref q7, .ref q8, .ref p1, .null]) (ty := (.object "TraceAssembler$Clocks")) C dX2_init_75 inX2 tyX2 tyX2_ok nmX2 rfl rfl (by decide) (gw2 20 rfl rfl) (Or.inl rfl) (Or.inr ⟨rfl, hN, rfl⟩) (by decide +kernel) rfl rfl (Nat.le_of_ble_eq_true rfl) ?_
  exact cw_vret C hR dX2_init_78 rfl ⟨rfl, fun j => [h0, q1, q2, q3, q4, q5, q6, q7, q8].getD j 0, rfl, rfl⟩
def patW (V : VT) (p1 : Nat) (p2 : Nat) (a : Nat → Nat) : va_W := (((a 0), .inr (9, [.int (0 : Int32), .ref (a 1), .ref (a 2), .ref (a 3), .ref p1, .ref p2, .int (0 : Int32), .int (0 : Int32), .ref (a 4), .ref (a 5), .ref (a 6)])) :: (((a 6), .inl (V.2.2 2, (41, .inl (fun _ => 0)))) :: (((a 5), .inl (V.2.2 2, (41, .inl (fun _ => 0)))) :: (((a 4), .inl (V.2.2 2, (41, .inl (fun _ => 0)))) :: (((a 3), .inl (V.2.2 2, (82, .inl (fun _ => 0)))) :: (((a 2), .inl (V.2.2 2, (82, .inl (fun _ => 0)))) :: (((a 1), .inl (V.2.2 2, (82, .inl (fun _ => 0)))) :: [])))))))
theorem dX5_init_0 : decode cX5_init 0 = .ok (.aload_n 0, 1) := by decide +kernel
theorem dX5_init_1 : decode cX5_init 1 = .ok (.invokespecial 5, 3) := by decide +kernel
theorem dX5_init_4 : decode cX5_init 4 = .ok (.aload_n 0, 1) := by decide +kernel
theorem dX5_init_5 : decode cX5_init 5 = .ok (.iconst 0, 1) := by decide +kernel
theorem dX5_init_6 : decode cX5_init 6 = .ok (.putfield 11, 3) := by decide +kernel
theorem dX5_init_9 : decode cX5_init 9 = .ok (.aload_n 0, 1) := by decide +kernel
theorem dX5_init_10 : decode cX5_init 10 = .ok (.bipush 82, 2) := by decide +kernel
theorem dX5_init_12 : decode cX5_init 12 = .ok (.newarray .int, 2) := by decide +kernel
theorem dX5_init_14 : decode cX5_init 14 = .ok (.putfield 15, 3) := by decide +kernel
theorem dX5_init_17 : decode cX5_init 17 = .ok (.aload_n 0, 1) := by decide +kernel
theorem dX5_init_18 : decode cX5_init 18 = .ok (.bipush 82, 2) := by decide +kernel
theorem dX5_init_20 : decode cX5_init 20 = .ok (.newarray .int, 2) := by decide +kernel
theorem dX5_init_22 : decode cX5_init 22 = .ok (.putfield 19, 3) := by decide +kernel
theorem dX5_init_25 : decode cX5_init 25 = .ok (.aload_n 0, 1) := by decide +kernel
theorem dX5_init_26 : decode cX5_init 26 = .ok (.bipush 82, 2) := by decide +kernel
theorem dX5_init_28 : decode cX5_init 28 = .ok (.newarray .int, 2) := by decide +kernel
theorem dX5_init_30 : decode cX5_init 30 = .ok (.putfield 22, 3) := by decide +kernel
theorem dX5_init_33 : decode cX5_init 33 = .ok (.aload_n 0, 1) := by decide +kernel
theorem dX5_init_34 : decode cX5_init 34 = .ok (.iconst 0, 1) := by decide +kernel
theorem dX5_init_35 : decode cX5_init 35 = .ok (.putfield 25, 3) := by decide +kernel
theorem dX5_init_38 : decode cX5_init 38 = .ok (.aload_n 0, 1) := by decide +kernel
theorem dX5_init_39 : decode cX5_init 39 = .ok (.iconst 0, 1) := by decide +kernel
theorem dX5_init_40 : decode cX5_init 40 = .ok (.putfield 28, 3) := by decide +kernel
theorem dX5_init_43 : decode cX5_init 43 = .ok (.aload_n 0, 1) := by decide +kernel
theorem dX5_init_44 : decode cX5_init 44 = .ok (.bipush 41, 2) := by decide +kernel
theorem dX5_init_46 : decode cX5_init 46 = .ok (.newarray .int, 2) := by decide +kernel
theorem dX5_init_48 : decode cX5_init 48 = .ok (.putfield 31, 3) := by decide +kernel
theorem dX5_init_51 : decode cX5_init 51 = .ok (.aload_n 0, 1) := by decide +kernel
theorem dX5_init_52 : decode cX5_init 52 = .ok (.bipush 41, 2) := by decide +kernel
theorem dX5_init_54 : decode cX5_init 54 = .ok (.newarray .int, 2) := by decide +kernel
theorem dX5_init_56 : decode cX5_init 56 = .ok (.putfield 34, 3) := by decide +kernel
theorem dX5_init_59 : decode cX5_init 59 = .ok (.aload_n 0, 1) := by decide +kernel
theorem dX5_init_60 : decode cX5_init 60 = .ok (.bipush 41, 2) := by decide +kernel
theorem dX5_init_62 : decode cX5_init 62 = .ok (.newarray .int, 2) := by decide +kernel
theorem dX5_init_64 : decode cX5_init 64 = .ok (.putfield 37, 3) := by decide +kernel
theorem dX5_init_67 : decode cX5_init 67 = .ok (.aload_n 0, 1) := by decide +kernel
theorem dX5_init_68 : decode cX5_init 68 = .ok (.aload_n 1, 1) := by decide +kernel
theorem dX5_init_69 : decode cX5_init 69 = .ok (.putfield 40, 3) := by decide +kernel
theorem dX5_init_72 : decode cX5_init 72 = .ok (.aload_n 0, 1) := by decide +kernel
theorem dX5_init_73 : decode cX5_init 73 = .ok (.aload_n 2, 1) := by decide +kernel
theorem dX5_init_74 : decode cX5_init 74 = .ok (.putfield 44, 3) := by decide +kernel
theorem dX5_init_77 : decode cX5_init 77 = .ok (.return_, 1) := by decide +kernel
theorem mi_X5_init : MI9 yX5_init cX5_init 3 2 := ⟨(gw2 45 rfl rfl), (gw1 13 rfl rfl), (gw2 46 rfl rfl), ⟨by decide +kernel, by decide +kernel⟩, by decide +kernel, rfl⟩
set_option maxHeartbeats 2000000 in
set_option maxRecDepth 20000 in
theorem c_X5_init {l : Launch} {V : VT} (h0 p1 p2 : Nat) : CMet l yX5_init (.code yX5_init cX5_init 3 none) 1 6 369 V [.ref h0, .ref p1, .ref p2] [(h0, .inr (9, [.int 0, .null, .null, .null, .null, .null, .int 0, .int 0, .null, .null, .null]))] (fun v W1 => v = none ∧ ∃ a : Nat → Nat, a 0 = h0 ∧ W1 = patW V p1 p2 a) := by
  refine CMet_of (args := [pW (.ref h0), pW (.ref p1), pW (.ref p2)]) (by decide +kernel) rfl (Nat.le_of_ble_eq_true rfl) (fun G hV hl C hR hH hN => ?_)
  subst hV
  subst hl
  refine cw_aload_n C dX5_init_0 rfl rfl ?_
  refine cw_obj C (CHR_le (by decide) hH) dX5_init_1 (gw2 47 rfl rfl) (gw1 40 rfl rfl) (gw1 41 rfl rfl) rfl ?_
  refine cw_aload_n C dX5_init_4 rfl rfl ?_
  refine cw_iconst (v := (0 : Int32)) C dX5_init_5 (by decide) ?_
  refine cw_put (j := 0) (f := 0) (ci := 9) (K := RX5) (T := TX5) (N := 11) (fs := [.int 0, .null, .null, .null, .null, .null, .int 0, .int 0, .null, .null, .null]) (ty := .int) C dX5_init_6 inX5 tyX5 tyX5_ok nmX5 rfl rfl (by decide) (gw2 48 rfl rfl) (Or.inl rfl) (Or.inl rfl) (by decide +kernel) rfl rfl (Nat.le_of_ble_eq_true rfl) ?_
  refine cw_aload_n C dX5_init_9 rfl rfl ?_
  refine cw_bipush (v := (82 : Int32)) C dX5_init_10 (by decide) ?_
  refine cw_newa (atype := .int) (a := 2) (N := 82) (a0 := (82, .inl (fun _ => 0))) (rc := 5) (rs := 287) (pre := [(h0, .inr (9, [.int (0 : Int32), .null, .null, .null, .null, .null, .int 0, .int 0, .null, .null, .null]))]) (Wr := []) C dX5_init_12 (gw1 116 rfl rfl) (by decide) rfl (fun _ => rfl) (by decide) (by decide) (Nat.le_of_ble_eq_true rfl) rfl (fun q1 => ?_)
  refine cw_put (j := 0) (f := 1) (ci := 9) (K := RX5) (T := TX5) (N := 11) (fs := [.int (0 : Int32), .null, .null, .null, .null, .null, .int 0, .int 0, .null, .null, .null]) (ty := (.array .int)) C dX5_init_14 inX5 tyX5 tyX5_ok nmX5 rfl rfl (by decide) (gw2 50 rfl rfl) (Or.inl rfl) (Or.inr ⟨rfl, hN, rfl⟩) (by decide +kernel) rfl rfl (Nat.le_of_ble_eq_true rfl) ?_
  refine cw_aload_n C dX5_init_17 rfl rfl ?_
  refine cw_bipush (v := (82 : Int32)) C dX5_init_18 (by decide) ?_
  refine cw_newa (atype := .int) (a := 2) (N := 82) (a0 := (82, .inl (fun _ => 0))) (rc := 4) (rs := 205) (pre := [(h0, .inr (9, [.int (0 : Int32), .ref q1, .null, .null, .null, .null, .int 0, .int 0, .null, .null, .null]))]) (Wr := ((q1, .inl ((CGV G).2.2 2, (82, .inl (fun _ => 0)))) :: [])) C dX5_init_20 (gw1 116 rfl rfl) (by decide) rfl (fun _ => rfl) (by decide) (by decide) (Nat.le_of_ble_eq_true rfl) rfl (fun q2 => ?_)
  refine cw_put (j := 0) (f := 2) (ci := 9) (K := RX5) (T := TX5) (N := 11) (fs := [.int (0 : Int32), .ref q1, .null, .null, .null, .null, .int 0, .int 0, .null, .null, .null]) (ty := (.array .int)) C dX5_init_22 inX5 tyX5 tyX5_ok nmX5 rfl rfl (by decide) (gw2 52 rfl rfl) (Or.inl rfl) (Or.inr ⟨rfl, hN, rfl⟩) (by decide +kernel) rfl rfl (Nat.le_of_ble_eq_true rfl) ?_
  refine cw_aload_n C dX5_init_25 rfl rfl ?_
  refine cw_bipush (v := (82 : Int32)) C dX5_init_26 (by decide) ?_
  refine cw_newa (atype := .int) (a := 2) (N := 82) (a0 := (82, .inl (fun _ => 0))) (rc := 3) (rs := 123) (pre := [(h0, .inr (9, [.int (0 : Int32), .ref q1, .ref q2, .null, .null, .null, .int 0, .int 0, .null, .null, .null]))]) (Wr := ((q2, .inl ((CGV G).2.2 2, (82, .inl (fun _ => 0)))) :: ((q1, .inl ((CGV G).2.2 2, (82, .inl (fun _ => 0)))) :: []))) C dX5_init_28 (gw1 116 rfl rfl) (by decide) rfl (fun _ => rfl) (by decide) (by decide) (Nat.le_of_ble_eq_true rfl) rfl (fun q3 => ?_)
  refine cw_put (j := 0) (f := 3) (ci := 9) (K := RX5) (T := TX5) (N := 11) (fs := [.int (0 : Int32), .ref q1, .ref q2, .null, .null, .null, .int 0, .int 0, .null, .null, .null]) (ty := (.array .int)) C dX5_init_30 inX5 tyX5 tyX5_ok nmX5 rfl rfl (by decide) (gw2 54 rfl rfl) (Or.inl rfl) (Or.inr ⟨rfl, hN, rfl⟩) (by decide +kernel) rfl rfl (Nat.le_of_ble_eq_true rfl) ?_
  refine cw_aload_n C dX5_init_33 rfl rfl ?_
  refine cw_iconst (v := (0 : Int32)) C dX5_init_34 (by decide) ?_
  refine cw_put (j := 0) (f := 6) (ci := 9) (K := RX5) (T := TX5) (N := 11) (fs := [.int (0 : Int32), .ref q1, .ref q2, .ref q3, .null, .null, .int 0, .int 0, .null, .null, .null]) (ty := .int) C dX5_init_35 inX5 tyX5 tyX5_ok nmX5 rfl rfl (by decide) (gw2 58 rfl rfl) (Or.inl rfl) (Or.inl rfl) (by decide +kernel) rfl rfl (Nat.le_of_ble_eq_true rfl) ?_
  refine cw_aload_n C dX5_init_38 rfl rfl ?_
  refine cw_iconst (v := (0 : Int32)) C dX5_init_39 (by decide) ?_
  refine cw_put (j := 0) (f := 7) (ci := 9) (K := RX5) (T := TX5) (N := 11) (fs := [.int (0 : Int32), .ref q1, .ref q2, .ref q3, .null, .null, .int (0 : Int32), .int 0, .null, .null, .null]) (ty := .int) C dX5_init_40 inX5 tyX5 tyX5_ok nmX5 rfl rfl (by decide) (gw2 59 rfl rfl) (Or.inl rfl) (Or.inl rfl) (by decide +kernel) rfl rfl (Nat.le_of_ble_eq_true rfl) ?_
  refine cw_aload_n C dX5_init_43 rfl rfl ?_
  refine cw_bipush (v := (41 : Int32)) C dX5_init_44 (by decide) ?_
  refine cw_newa (atype := .int) (a := 2) (N := 41) (a0 := (41, .inl (fun _ => 0))) (rc := 2) (rs := 82) (pre := [(h0, .inr (9, [.int (0 : Int32), .ref q1, .ref q2, .ref q3, .null, .null, .int (0 : Int32), .int (0 : Int32), .null, .null, .null]))]) (Wr := ((q3, .inl ((CGV G).2.2 2, (82, .inl (fun _ => 0)))) :: ((q2, .inl ((CGV G).2.2 2, (82, .inl (fun _ => 0)))) :: ((q1, .inl ((CGV G).2.2 2, (82, .inl (fun _ => 0)))) :: [])))) C dX5_init_46 (gw1 116 rfl rfl) (by decide) rfl (fun _ => rfl) (by decide) (by decide) (Nat.le_of_ble_eq_true rfl) rfl (fun q4 => ?_)
  refine cw_put (j := 0) (f := 8) (ci := 9) (K := RX5) (T := TX5) (N := 11) (fs := [.int (0 : Int32), .ref q1, .ref q2, .ref q3, .null, .null, .int (0 : Int32), .int (0 : Int32), .null, .null, .null]) (ty := (.array .int)) C dX5_init_48 inX5 tyX5 tyX5_ok nmX5 rfl rfl (by decide) (gw2 60 rfl rfl) (Or.inl rfl) (Or.inr ⟨rfl, hN, rfl⟩) (by decide +kernel) rfl rfl (Nat.le_of_ble_eq_true rfl) ?_
  refine cw_aload_n C dX5_init_51 rfl rfl ?_
  refine cw_bipush (v := (41 : Int32)) C dX5_init_52 (by decide) ?_
  refine cw_newa (atype := .int) (a := 2) (N := 41) (a0 := (41, .inl (fun _ => 0))) (rc := 1) (rs := 41) (pre := [(h0, .inr (9, [.int (0 : Int32), .ref q1, .ref q2, .ref q3, .null, .null, .int (0 : Int32), .int (0 : Int32), .ref q4, .null, .null]))]) (Wr := ((q4, .inl ((CGV G).2.2 2, (41, .inl (fun _ => 0)))) :: ((q3, .inl ((CGV G).2.2 2, (82, .inl (fun _ => 0)))) :: ((q2, .inl ((CGV G).2.2 2, (82, .inl (fun _ => 0)))) :: ((q1, .inl ((CGV G).2.2 2, (82, .inl (fun _ => 0)))) :: []))))) C dX5_init_54 (gw1 116 rfl rfl) (by decide) rfl (fun _ => rfl) (by decide) (by decide) (Nat.le_of_ble_eq_true rfl) rfl (fun q5 => ?_)
  refine cw_put (j := 0) (f := 9) (ci := 9) (K := RX5) (T := TX5) (N := 11) (fs := [.int (0 : Int32), .ref q1, .ref q2, .ref q3, .null, .null, .int (0 : Int32), .int (0 : Int32), .ref q4, .null, .null]) (ty := (.array .int)) C dX5_init_56 inX5 tyX5 tyX5_ok nmX5 rfl rfl (by decide) (gw2 61 rfl rfl) (Or.inl rfl) (Or.inr ⟨rfl, hN, rfl⟩) (by decide +kernel) rfl rfl (Nat.le_of_ble_eq_true rfl) ?_
  refine cw_aload_n C dX5_init_59 rfl rfl ?_
  refine cw_bipush (v := (41 : Int32)) C dX5_init_60 (by decide) ?_
  refine cw_newa (atype := .int) (a := 2) (N := 41) (a0 := (41, .inl (fun _ => 0))) (rc := 0) (rs := 0) (pre := [(h0, .inr (9, [.int (0 : Int32), .ref q1, .ref q2, .ref q3, .null, .null, .int (0 : Int32), .int (0 : Int32), .ref q4, .ref q5, .null]))]) (Wr := ((q5, .inl ((CGV G).2.2 2, (41, .inl (fun _ => 0)))) :: ((q4, .inl ((CGV G).2.2 2, (41, .inl (fun _ => 0)))) :: ((q3, .inl ((CGV G).2.2 2, (82, .inl (fun _ => 0)))) :: ((q2, .inl ((CGV G).2.2 2, (82, .inl (fun _ => 0)))) :: ((q1, .inl ((CGV G).2.2 2, (82, .inl (fun _ => 0)))) :: [])))))) C dX5_init_62 (gw1 116 rfl rfl) (by decide) rfl (fun _ => rfl) (by decide) (by decide) (Nat.le_of_ble_eq_true rfl) rfl (fun q6 => ?_)
  refine cw_put (j := 0) (f := 10) (ci := 9) (K := RX5) (T := TX5) (N := 11) (fs := [.int (0 : Int32), .ref q1, .ref q2, .ref q3, .null, .null, .int (0 : Int32), .int (0 : Int32), .ref q4, .ref q5, .null]) (ty := (.array .int)) C dX5_init_64 inX5 tyX5 tyX5_ok nmX5 rfl rfl (by decide) (gw2 62 rfl rfl) (Or.inl rfl) (Or.inr ⟨rfl, hN, rfl⟩) (by decide +kernel) rfl rfl (Nat.le_of_ble_eq_true rfl) ?_
  refine cw_aload_n C dX5_init_67 rfl rfl ?_
  refine cw_aload_n C dX5_init_68 rfl rfl ?_
  refine cw_put (j := 0) (f := 4) (ci := 9) (K := RX5) (T := TX5) (N := 11) (fs := [.int (0 : Int32), .ref q1, .ref q2, .ref q3, .null, .null, .int (0 : Int32), .int (0 : Int32), .ref q4, .ref q5, .ref q6]) (ty := (.object "TraceAssembler$Store")) C dX5_init_69 inX5 tyX5 tyX5_ok nmX5 rfl rfl (by decide) (gw2 56 rfl rfl) (Or.inl rfl) (Or.inr ⟨rfl, hN, rfl⟩) (by decide +kernel) rfl rfl (Nat.le_of_ble_eq_true rfl) ?_
  refine cw_aload_n C dX5_init_72 rfl rfl ?_
  refine cw_aload_n C dX5_init_73 rfl rfl ?_
  refine cw_put (j := 0) (f := 5) (ci := 9) (K := RX5) (T := TX5) (N := 11) (fs := [.int (0 : Int32), .ref q1, .ref q2, .ref q3, .ref p1, .null, .int (0 : Int32), .int (0 : Int32), .ref q4, .ref q5, .ref q6]) (ty := (.object "TraceAssembler$Forest")) C dX5_init_74 inX5 tyX5 tyX5_ok nmX5 rfl rfl (by decide) (gw2 57 rfl rfl) (Or.inl rfl) (Or.inr ⟨rfl, hN, rfl⟩) (by decide +kernel) rfl rfl (Nat.le_of_ble_eq_true rfl) ?_
  exact cw_vret C hR dX5_init_77 rfl ⟨rfl, fun j => [h0, q1, q2, q3, q4, q5, q6].getD j 0, rfl, rfl⟩
def figW (V : VT) (p1 : Nat) (p2 : Nat) (p3 : Nat) (a : Nat → Nat) : va_W := (((a 0), .inr (5, [.ref p1, .ref p2, .ref p3])) :: [])
theorem dX1_init_0 : decode cX1_init 0 = .ok (.aload_n 0, 1) := by decide +kernel
theorem dX1_init_1 : decode cX1_init 1 = .ok (.invokespecial 3, 3) := by decide +kernel
theorem dX1_init_4 : decode cX1_init 4 = .ok (.aload_n 0, 1) := by decide +kernel
theorem dX1_init_5 : decode cX1_init 5 = .ok (.aload_n 1, 1) := by decide +kernel
theorem dX1_init_6 : decode cX1_init 6 = .ok (.putfield 9, 3) := by decide +kernel
theorem dX1_init_9 : decode cX1_init 9 = .ok (.aload_n 0, 1) := by decide +kernel
theorem dX1_init_10 : decode cX1_init 10 = .ok (.aload_n 2, 1) := by decide +kernel
theorem dX1_init_11 : decode cX1_init 11 = .ok (.putfield 15, 3) := by decide +kernel
theorem dX1_init_14 : decode cX1_init 14 = .ok (.aload_n 0, 1) := by decide +kernel
theorem dX1_init_15 : decode cX1_init 15 = .ok (.aload_n 3, 1) := by decide +kernel
theorem dX1_init_16 : decode cX1_init 16 = .ok (.putfield 19, 3) := by decide +kernel
theorem dX1_init_19 : decode cX1_init 19 = .ok (.return_, 1) := by decide +kernel
theorem mi_X1_init : MI9 yX1_init cX1_init 4 3 := ⟨(gw2 89 rfl rfl), (gw1 14 rfl rfl), (gw2 90 rfl rfl), ⟨by decide +kernel, by decide +kernel⟩, by decide +kernel, rfl⟩
set_option maxHeartbeats 2000000 in
set_option maxRecDepth 20000 in
theorem c_X1_init {l : Launch} {V : VT} (h0 p1 p2 p3 : Nat) : CMet l yX1_init (.code yX1_init cX1_init 4 none) 1 0 0 V [.ref h0, .ref p1, .ref p2, .ref p3] [(h0, .inr (5, [.null, .null, .null]))] (fun v W1 => v = none ∧ ∃ a : Nat → Nat, a 0 = h0 ∧ W1 = figW V p1 p2 p3 a) := by
  refine CMet_of (args := [pW (.ref h0), pW (.ref p1), pW (.ref p2), pW (.ref p3)]) (by decide +kernel) rfl (Nat.le_of_ble_eq_true rfl) (fun G hV hl C hR hH hN => ?_)
  subst hV
  subst hl
  refine cw_aload_n C dX1_init_0 rfl rfl ?_
  refine cw_obj C (CHR_le (by decide) hH) dX1_init_1 (gw2 91 rfl rfl) (gw1 40 rfl rfl) (gw1 41 rfl rfl) rfl ?_
  refine cw_aload_n C dX1_init_4 rfl rfl ?_
  refine cw_aload_n C dX1_init_5 rfl rfl ?_
  refine cw_put (j := 0) (f := 0) (ci := 5) (K := RX1) (T := TX1) (N := 3) (fs := [.null, .null, .null]) (ty := (.object "TraceAssembler$Store")) C dX1_init_6 inX1 tyX1 tyX1_ok nmX1 rfl rfl (by decide) (gw2 92 rfl rfl) (Or.inl rfl) (Or.inr ⟨rfl, hN, rfl⟩) (by decide +kernel) rfl rfl (Nat.le_of_ble_eq_true rfl) ?_
  refine cw_aload_n C dX1_init_9 rfl rfl ?_
  refine cw_aload_n C dX1_init_10 rfl rfl ?_
  refine cw_put (j := 0) (f := 1) (ci := 5) (K := RX1) (T := TX1) (N := 3) (fs := [.ref p1, .null, .null]) (ty := (.object "TraceAssembler$Forest")) C dX1_init_11 inX1 tyX1 tyX1_ok nmX1 rfl rfl (by decide) (gw2 93 rfl rfl) (Or.inl rfl) (Or.inr ⟨rfl, hN, rfl⟩) (by decide +kernel) rfl rfl (Nat.le_of_ble_eq_true rfl) ?_
  refine cw_aload_n C dX1_init_14 rfl rfl ?_
  refine cw_aload_n C dX1_init_15 rfl rfl ?_
  refine cw_put (j := 0) (f := 2) (ci := 5) (K := RX1) (T := TX1) (N := 3) (fs := [.ref p1, .ref p2, .null]) (ty := (.object "TraceAssembler$Path")) C dX1_init_16 inX1 tyX1 tyX1_ok nmX1 rfl rfl (by decide) (gw2 94 rfl rfl) (Or.inl rfl) (Or.inr ⟨rfl, hN, rfl⟩) (by decide +kernel) rfl rfl (Nat.le_of_ble_eq_true rfl) ?_
  exact cw_vret C hR dX1_init_19 rfl ⟨rfl, fun j => [h0].getD j 0, rfl, rfl⟩
def inpW (V : VT) (a : Nat → Nat) : va_W := (((a 0), .inr (8, [.int (0 : Int32), .int (0 : Int32), .ref (a 1)])) :: (((a 1), .inl (V.2.2 1, (80, .inl (fun _ => 0)))) :: []))
theorem dX4_init_0 : decode cX4_init 0 = .ok (.aload_n 0, 1) := by decide +kernel
theorem dX4_init_1 : decode cX4_init 1 = .ok (.invokespecial 3, 3) := by decide +kernel
theorem dX4_init_4 : decode cX4_init 4 = .ok (.aload_n 0, 1) := by decide +kernel
theorem dX4_init_5 : decode cX4_init 5 = .ok (.iconst 0, 1) := by decide +kernel
theorem dX4_init_6 : decode cX4_init 6 = .ok (.putfield 9, 3) := by decide +kernel
theorem dX4_init_9 : decode cX4_init 9 = .ok (.aload_n 0, 1) := by decide +kernel
theorem dX4_init_10 : decode cX4_init 10 = .ok (.iconst 0, 1) := by decide +kernel
theorem dX4_init_11 : decode cX4_init 11 = .ok (.putfield 15, 3) := by decide +kernel
theorem dX4_init_14 : decode cX4_init 14 = .ok (.aload_n 0, 1) := by decide +kernel
theorem dX4_init_15 : decode cX4_init 15 = .ok (.bipush 80, 2) := by decide +kernel
theorem dX4_init_17 : decode cX4_init 17 = .ok (.newarray .char, 2) := by decide +kernel
theorem dX4_init_19 : decode cX4_init 19 = .ok (.putfield 18, 3) := by decide +kernel
theorem dX4_init_22 : decode cX4_init 22 = .ok (.return_, 1) := by decide +kernel
theorem mi_X4_init : MI9 yX4_init cX4_init 1 0 := ⟨(gw1 159 rfl rfl), (gw1 6 rfl rfl), (gw1 160 rfl rfl), ⟨by decide +kernel, by decide +kernel⟩, by decide +kernel, rfl⟩
set_option maxHeartbeats 2000000 in
set_option maxRecDepth 20000 in
theorem c_X4_init {l : Launch} {V : VT} (h0 : Nat) : CMet l yX4_init (.code yX4_init cX4_init 1 none) 1 1 80 V [.ref h0] [(h0, .inr (8, [.int 0, .int 0, .null]))] (fun v W1 => v = none ∧ ∃ a : Nat → Nat, a 0 = h0 ∧ W1 = inpW V a) := by
  refine CMet_of (args := [pW (.ref h0)]) (by decide +kernel) rfl (Nat.le_of_ble_eq_true rfl) (fun G hV hl C hR hH hN => ?_)
  subst hV
  subst hl
  refine cw_aload_n C dX4_init_0 rfl rfl ?_
  refine cw_obj C (CHR_le (by decide) hH) dX4_init_1 (gw1 161 rfl rfl) (gw1 40 rfl rfl) (gw1 41 rfl rfl) rfl ?_
  refine cw_aload_n C dX4_init_4 rfl rfl ?_
  refine cw_iconst (v := (0 : Int32)) C dX4_init_5 (by decide) ?_
  refine cw_put (j := 0) (f := 0) (ci := 8) (K := RX4) (T := TX4) (N := 3) (fs := [.int 0, .int 0, .null]) (ty := .int) C dX4_init_6 inX4 tyX4 tyX4_ok nmX4 rfl rfl (by decide) (gw1 162 rfl rfl) (Or.inl rfl) (Or.inl rfl) (by decide +kernel) rfl rfl (Nat.le_of_ble_eq_true rfl) ?_
  refine cw_aload_n C dX4_init_9 rfl rfl ?_
  refine cw_iconst (v := (0 : Int32)) C dX4_init_10 (by decide) ?_
  refine cw_put (j := 0) (f := 1) (ci := 8) (K := RX4) (T := TX4) (N := 3) (fs := [.int (0 : Int32), .int 0, .null]) (ty := .int) C dX4_init_11 inX4 tyX4 tyX4_ok nmX4 rfl rfl (by decide) (gw1 164 rfl rfl) (Or.inl rfl) (Or.inl rfl) (by decide +kernel) rfl rfl (Nat.le_of_ble_eq_true rfl) ?_
  refine cw_aload_n C dX4_init_14 rfl rfl ?_
  refine cw_bipush (v := (80 : Int32)) C dX4_init_15 (by decide) ?_
  refine cw_newa (atype := .char) (a := 1) (N := 80) (a0 := (80, .inl (fun _ => 0))) (rc := 0) (rs := 0) (pre := [(h0, .inr (8, [.int (0 : Int32), .int (0 : Int32), .null]))]) (Wr := []) C dX4_init_17 (gw1 174 rfl rfl) (by decide) rfl (fun _ => rfl) (by decide) (by decide) (Nat.le_of_ble_eq_true rfl) rfl (fun q1 => ?_)
  refine cw_put (j := 0) (f := 2) (ci := 8) (K := RX4) (T := TX4) (N := 3) (fs := [.int (0 : Int32), .int (0 : Int32), .null]) (ty := (.array .char)) C dX4_init_19 inX4 tyX4 tyX4_ok nmX4 rfl rfl (by decide) (gw1 166 rfl rfl) (Or.inl rfl) (Or.inr ⟨rfl, hN, rfl⟩) (by decide +kernel) rfl rfl (Nat.le_of_ble_eq_true rfl) ?_
  exact cw_vret C hR dX4_init_22 rfl ⟨rfl, fun j => [h0, q1].getD j 0, rfl, rfl⟩
theorem dJ5_init_d00df_0 : decode cJ5_init_d00df 0 = .ok (.aload_n 0, 1) := by decide +kernel
theorem dJ5_init_d00df_1 : decode cJ5_init_d00df 1 = .ok (.invokespecial 3, 3) := by decide +kernel
theorem dJ5_init_d00df_4 : decode cJ5_init_d00df 4 = .ok (.getstatic 18, 3) := by decide +kernel
theorem dJ5_init_d00df_7 : decode cJ5_init_d00df 7 = .ok (.ifCond .eq 18, 3) := by decide +kernel
theorem dJ5_init_d00df_10 : decode cJ5_init_d00df 10 = .ok (.aload_n 0, 1) := by decide +kernel
theorem dJ5_init_d00df_11 : decode cJ5_init_d00df 11 = .ok (.iload_n 1, 1) := by decide +kernel
theorem dJ5_init_d00df_12 : decode cJ5_init_d00df 12 = .ok (.newarray .byte, 2) := by decide +kernel
theorem dJ5_init_d00df_14 : decode cJ5_init_d00df 14 = .ok (.putfield 15, 3) := by decide +kernel
theorem dJ5_init_d00df_17 : decode cJ5_init_d00df 17 = .ok (.aload_n 0, 1) := by decide +kernel
theorem dJ5_init_d00df_18 : decode cJ5_init_d00df 18 = .ok (.iconst 0, 1) := by decide +kernel
theorem dJ5_init_d00df_19 : decode cJ5_init_d00df 19 = .ok (.putfield 22, 3) := by decide +kernel
theorem dJ5_init_d00df_22 : decode cJ5_init_d00df 22 = .ok (.goto 16, 3) := by decide +kernel
theorem dJ5_init_d00df_25 : decode cJ5_init_d00df 25 = .ok (.aload_n 0, 1) := by decide +kernel
theorem dJ5_init_d00df_26 : decode cJ5_init_d00df 26 = .ok (.iload_n 1, 1) := by decide +kernel
theorem dJ5_init_d00df_27 : decode cJ5_init_d00df 27 = .ok (.invokestatic 26, 3) := by decide +kernel
theorem dJ5_init_d00df_30 : decode cJ5_init_d00df 30 = .ok (.putfield 15, 3) := by decide +kernel
theorem dJ5_init_d00df_33 : decode cJ5_init_d00df 33 = .ok (.aload_n 0, 1) := by decide +kernel
theorem dJ5_init_d00df_34 : decode cJ5_init_d00df 34 = .ok (.iconst 1, 1) := by decide +kernel
theorem dJ5_init_d00df_35 : decode cJ5_init_d00df 35 = .ok (.putfield 22, 3) := by decide +kernel
theorem dJ5_init_d00df_38 : decode cJ5_init_d00df 38 = .ok (.return_, 1) := by decide +kernel
theorem mi_J5_init_d00df : MI9 yJ5_init_d00df cJ5_init_d00df 2 1 := ⟨(gw1 181 rfl rfl), (gw1 7 rfl rfl), (gw1 182 rfl rfl), ⟨by decide +kernel, by decide +kernel⟩, by decide +kernel, rfl⟩
theorem dJ4_init_da8c8_0 : decode cJ4_init_da8c8 0 = .ok (.aload_n 0, 1) := by decide +kernel
theorem dJ4_init_da8c8_1 : decode cJ4_init_da8c8 1 = .ok (.bipush 16, 2) := by decide +kernel
theorem dJ4_init_da8c8_3 : decode cJ4_init_da8c8 3 = .ok (.invokespecial 1, 3) := by decide +kernel
theorem dJ4_init_da8c8_6 : decode cJ4_init_da8c8 6 = .ok (.return_, 1) := by decide +kernel
theorem mi_J4_init_da8c8 : MI9 yJ4_init_da8c8 cJ4_init_da8c8 1 0 := ⟨(gw1 178 rfl rfl), (gw1 8 rfl rfl), (gw1 179 rfl rfl), ⟨by decide +kernel, by decide +kernel⟩, by decide +kernel, rfl⟩
set_option maxRecDepth 20000 in
theorem c_J5_init_d00df {l : Launch} {V : VT} (h0 : Nat) : CMet l yJ5_init_d00df (.code yJ5_init_d00df cJ5_init_d00df 2 none) 1 1 16 V [.ref h0, .int (16 : Int32)] [(h0, .inr (1, [.null, .int 0, .int 0, .int 0]))] (fun v W1 => v = none ∧ ∃ q : Nat, W1 = sbW V h0 q 16 (fun _ => 0) 0 0) := by
  refine CMet_of (args := [pW (.ref h0), pI (16 : Int32)]) (by decide +kernel) rfl (Nat.le_of_ble_eq_true rfl) (fun G hV hl C hR hH hN => ?_)
  subst hV
  subst hl
  refine cw_aload_n C dJ5_init_d00df_0 rfl rfl ?_
  refine cw_obj C (CHR_le (by decide) hH) dJ5_init_d00df_1 (gw1 183 rfl rfl) (gw1 40 rfl rfl) (gw1 41 rfl rfl) rfl ?_
  refine cw_gets C dJ5_init_d00df_4 (gw1 184 rfl rfl) ?_
  refine cw_if_eq (tgt := 25) C dJ5_init_d00df_7 (by decide) (fun z => absurd z (by decide)) (fun _ => ?_)
  refine cw_aload_n C dJ5_init_d00df_10 rfl rfl ?_
  refine cw_iload_n C dJ5_init_d00df_11 rfl rfl ?_
  refine cw_newa (atype := .byte) (a := 0) (N := 16) (a0 := (16, .inl (fun _ => 0))) (rc := 0) (rs := 0) (pre := [(h0, .inr (1, [.null, .int 0, .int 0, .int 0]))]) (Wr := []) C dJ5_init_d00df_12 (gw1 207 rfl rfl) (by decide) rfl (fun _ => rfl) (by decide) (by decide) (Nat.le_of_ble_eq_true rfl) rfl (fun q => ?_)
  refine cw_put (j := 0) (f := 0) (ci := 1) (K := RJ4) (T := TJ4) (N := 4) (fs := [.null, .int 0, .int 0, .int 0]) (ty := .array .byte) C dJ5_init_d00df_14 inJ4 tyJ4 tyJ4_ok nmJ4 rfl rfl (by decide) (gw1 193 rfl rfl) (Or.inl rfl) (Or.inl rfl) (by decide +kernel) rfl rfl (Nat.le_of_ble_eq_true rfl) ?_
  refine cw_aload_n C dJ5_init_d00df_17 rfl rfl ?_
  refine cw_iconst (v := (0 : Int32)) C dJ5_init_d00df_18 (by decide) ?_
  refine cw_put (j := 0) (f := 1) (ci := 1) (K := RJ4) (T := TJ4) (N := 4) (fs := [.ref q, .int 0, .int 0, .int 0]) (ty := .byte) C dJ5_init_d00df_19 inJ4 tyJ4 tyJ4_ok nmJ4 rfl rfl (by decide) (gw1 194 rfl rfl) (Or.inl rfl) (Or.inl rfl) (by decide +kernel) rfl rfl (Nat.le_of_ble_eq_true rfl) ?_
  refine cw_goto (tgt := 38) C dJ5_init_d00df_22 (by decide) ?_
  exact cw_vret C hR dJ5_init_d00df_38 rfl ⟨rfl, q, rfl⟩
theorem c_J4_init_da8c8 {l : Launch} {V : VT} (h0 : Nat) : CMet l yJ4_init_da8c8 (.code yJ4_init_da8c8 cJ4_init_da8c8 1 none) 2 1 16 V [.ref h0] [(h0, .inr (1, [.null, .int 0, .int 0, .int 0]))] (fun v W1 => v = none ∧ ∃ q : Nat, W1 = sbW V h0 q 16 (fun _ => 0) 0 0) := by
  refine CMet_of (args := [pW (.ref h0)]) (by decide +kernel) rfl (Nat.le_of_ble_eq_true rfl) (fun G hV hl C hR hH hN => ?_)
  subst hV
  subst hl
  refine cw_aload_n C dJ4_init_da8c8_0 rfl rfl ?_
  refine cw_bipush (v := (16 : Int32)) C dJ4_init_da8c8_1 (by decide) ?_
  refine cw_callI (h := 1) (mc := 1) (ms := 16) (rc' := 0) (rs' := 0) (as := [.int (16 : Int32)]) (rest := []) (W0 := [(h0, .inr (1, [.null, .int 0, .int 0, .int 0]))]) (Wr := []) C (CHR_le (by decide) hH) dJ4_init_da8c8_3 (gw1 180 rfl rfl) mi_J5_init_d00df (c_J5_init_d00df h0) (List.Perm.refl _) rfl rfl (Nat.le_of_ble_eq_true rfl) (by decide) (by decide) (by decide) (fun v9 W9 h9 => ?_)
  obtain ⟨rfl, q, rfl⟩ := h9
  exact cw_vret C hR dJ4_init_da8c8_6 rfl ⟨rfl, q, rfl⟩
def hisW (V : VT) (a : Nat → Nat) (b : Nat → Nat → Nat) : va_W := (a 0, .inr (7, [.int (0 : Int32), .int (0 : Int32), .ref (a 1)])) :: ((a 1, .inl (V.2.2 4, 8, .inr (.inr (.inr (.inr (fun i => some (b i 0))))))) :: (stoW V (b 7) ++ (stoW V (b 6) ++ (stoW V (b 5) ++ (stoW V (b 4) ++ (stoW V (b 3) ++ (stoW V (b 2) ++ (stoW V (b 1) ++ (stoW V (b 0) ++ [])))))))))
theorem dX3_init_0 : decode cX3_init 0 = .ok (.aload_n 0, 1) := by decide +kernel
theorem dX3_init_1 : decode cX3_init 1 = .ok (.invokespecial 3, 3) := by decide +kernel
theorem dX3_init_4 : decode cX3_init 4 = .ok (.aload_n 0, 1) := by decide +kernel
theorem dX3_init_5 : decode cX3_init 5 = .ok (.iconst 0, 1) := by decide +kernel
theorem dX3_init_6 : decode cX3_init 6 = .ok (.putfield 9, 3) := by decide +kernel
theorem dX3_init_9 : decode cX3_init 9 = .ok (.aload_n 0, 1) := by decide +kernel
theorem dX3_init_10 : decode cX3_init 10 = .ok (.iconst 0, 1) := by decide +kernel
theorem dX3_init_11 : decode cX3_init 11 = .ok (.putfield 15, 3) := by decide +kernel
theorem dX3_init_14 : decode cX3_init 14 = .ok (.aload_n 0, 1) := by decide +kernel
theorem dX3_init_15 : decode cX3_init 15 = .ok (.bipush 8, 2) := by decide +kernel
theorem dX3_init_17 : decode cX3_init 17 = .ok (.anewarray 18, 3) := by decide +kernel
theorem dX3_init_20 : decode cX3_init 20 = .ok (.putfield 20, 3) := by decide +kernel
theorem dX3_init_23 : decode cX3_init 23 = .ok (.iconst 0, 1) := by decide +kernel
theorem dX3_init_24 : decode cX3_init 24 = .ok (.istore_n 1, 1) := by decide +kernel
theorem dX3_init_25 : decode cX3_init 25 = .ok (.iload_n 1, 1) := by decide +kernel
theorem dX3_init_26 : decode cX3_init 26 = .ok (.bipush 8, 2) := by decide +kernel
theorem dX3_init_28 : decode cX3_init 28 = .ok (.if_icmp .ge 22, 3) := by decide +kernel
theorem dX3_init_31 : decode cX3_init 31 = .ok (.aload_n 0, 1) := by decide +kernel
theorem dX3_init_32 : decode cX3_init 32 = .ok (.getfield 20, 3) := by decide +kernel
theorem dX3_init_35 : decode cX3_init 35 = .ok (.iload_n 1, 1) := by decide +kernel
theorem dX3_init_36 : decode cX3_init 36 = .ok (.new 18, 3) := by decide +kernel
theorem dX3_init_39 : decode cX3_init 39 = .ok (.dup, 1) := by decide +kernel
theorem dX3_init_40 : decode cX3_init 40 = .ok (.invokespecial 24, 3) := by decide +kernel
theorem dX3_init_43 : decode cX3_init 43 = .ok (.aastore, 1) := by decide +kernel
theorem dX3_init_44 : decode cX3_init 44 = .ok (.iinc 1 1, 3) := by decide +kernel
theorem dX3_init_47 : decode cX3_init 47 = .ok (.goto (-22), 3) := by decide +kernel
theorem dX3_init_50 : decode cX3_init 50 = .ok (.return_, 1) := by decide +kernel
theorem mi_X3_init : MI9 yX3_init cX3_init 2 0 := ⟨(gw1 121 rfl rfl), (gw1 3 rfl rfl), (gw1 122 rfl rfl), ⟨by decide +kernel, by decide +kernel⟩, by decide +kernel, rfl⟩
set_option maxHeartbeats 2000000 in
set_option maxRecDepth 20000 in
theorem c_X3_init {l : Launch} {V : VT} (h0 : Nat) : CMet l yX3_init (.code yX3_init cX3_init 2 none) 2 81 2816 V [.ref h0] [(h0, .inr (7, [.int 0, .int 0, .null]))] (fun v W1 => v = none ∧ ∃ (a : Nat → Nat) (b : Nat → Nat → Nat), a 0 = h0 ∧ W1 = hisW V a b) := by
  refine CMet_of (args := [pW (.ref h0)]) (by decide +kernel) rfl (Nat.le_of_ble_eq_true rfl) (fun G hV hl C hR hH hN => ?_)
  subst hV
  subst hl
  refine cw_aload_n C dX3_init_0 rfl rfl ?_
  refine cw_obj C (CHR_le (by decide) hH) dX3_init_1 (gw1 123 rfl rfl) (gw1 40 rfl rfl) (gw1 41 rfl rfl) rfl ?_
  refine cw_aload_n C dX3_init_4 rfl rfl ?_
  refine cw_iconst (v := (0 : Int32)) C dX3_init_5 (by decide) ?_
  refine cw_put (j := 0) (f := 0) (ci := 7) (K := RX3) (T := TX3) (N := 3) (fs := [.int 0, .int 0, .null]) (ty := .int) C dX3_init_6 inX3 tyX3 tyX3_ok nmX3 rfl rfl (by decide) (gw1 127 rfl rfl) (Or.inl rfl) (Or.inl rfl) (by decide +kernel) rfl rfl (Nat.le_of_ble_eq_true rfl) ?_
  refine cw_aload_n C dX3_init_9 rfl rfl ?_
  refine cw_iconst (v := (0 : Int32)) C dX3_init_10 (by decide) ?_
  refine cw_put (j := 0) (f := 1) (ci := 7) (K := RX3) (T := TX3) (N := 3) (fs := [.int (0 : Int32), .int 0, .null]) (ty := .int) C dX3_init_11 inX3 tyX3 tyX3_ok nmX3 rfl rfl (by decide) (gw1 129 rfl rfl) (Or.inl rfl) (Or.inl rfl) (by decide +kernel) rfl rfl (Nat.le_of_ble_eq_true rfl) ?_
  refine cw_aload_n C dX3_init_14 rfl rfl ?_
  refine cw_bipush (v := (8 : Int32)) C dX3_init_15 (by decide) ?_
  refine cw_newq (N := 8) (rc := 80) (rs := 2808) (pre := [(h0, .inr (7, [.int (0 : Int32), .int (0 : Int32), .null]))]) (Wr := []) C dX3_init_17 (gw1 124 rfl rfl) (by decide) (by decide) (by decide) rfl (fun q1 => ?_)
  refine cw_put (j := 0) (f := 2) (ci := 7) (K := RX3) (T := TX3) (N := 3) (fs := [.int (0 : Int32), .int (0 : Int32), .null]) (ty := (.array (.object "TraceAssembler$Store"))) C dX3_init_20 inX3 tyX3 tyX3_ok nmX3 rfl rfl (by decide) (gw1 130 rfl rfl) (Or.inl rfl) (Or.inr ⟨rfl, hN, rfl⟩) (by decide +kernel) rfl rfl (Nat.le_of_ble_eq_true rfl) ?_
  refine cw_iconst (v := (0 : Int32)) C dX3_init_23 (by decide) ?_
  refine cw_istore_n C dX3_init_24 rfl (by decide) rfl ?_
  refine cw_iload_n C dX3_init_25 rfl rfl ?_
  refine cw_bipush (v := (8 : Int32)) C dX3_init_26 (by decide) ?_
  refine cw_icmp_ge (tgt := 50) C dX3_init_28 (by decide) (fun z => absurd z (by decide)) (fun _ => ?_)
  refine cw_aload_n C dX3_init_31 rfl rfl ?_
  refine cw_get (j := 0) (f := 2) (ci := 7) (K := RX3) (T := TX3) (N := 3) (fs := [.int (0 : Int32), .int (0 : Int32), .ref q1]) C dX3_init_32 inX3 rfl rfl (by decide) (gw1 130 rfl rfl) (Or.inl rfl) rfl ?_
  refine cw_iload_n C dX3_init_35 rfl rfl ?_
  refine cw_new (ci := 11) (K := RX7) (T := TX7) (N := 11) (fs := [.int 0, .int 0, .null, .null, .null, .null, .null, .null, .null, .null, .null]) (rc := 79) (rs := 2797) (pre := [(h0, .inr (7, [.int (0 : Int32), .int (0 : Int32), .ref q1])), (q1, .inl ((CGV G).2.2 4, 8, .inr (.inr (.inr (.inr (fun _ => none))))))]) (Wr := []) C dX3_init_36 inX7 tyX7 tyX7_ok (gw1 124 rfl rfl) (gw1 43 rfl rfl) (gw1 2 rfl rfl) rfl dfX7 rfl (fun q2 => ?_)
  refine cw_dup C dX3_init_39 rfl ?_
  refine cw_callIN (h := 1) (mc := 9) (ms := 340) (rc' := 70) (rs' := 2457) (as := []) (rest := [.ref q2, .int (0 : Int32), .ref q1]) (W0 := [(q2, .inr (11, [.int 0, .int 0, .null, .null, .null, .null, .null, .null, .null, .null, .null]))]) (Wr := (h0, .inr (7, [.int (0 : Int32), .int (0 : Int32), .ref q1])) :: ((q1, .inl ((CGV G).2.2 4, 8, .inr (.inr (.inr (.inr (fun _ => none)))))) :: [])) C (CHR_le (by decide) hH) dX3_init_40 (List.mem_append_right _ (List.mem_append_left _ (List.mem_map.mpr ⟨_, List.mem_of_getElem? (i := 1) rfl, rfl⟩))) mi_X7_init (c_X7_init q2) (perm_mid2 (α := Nat × va_E) [(h0, .inr (7, [.int (0 : Int32), .int (0 : Int32), .ref q1])), (q1, .inl ((CGV G).2.2 4, 8, .inr (.inr (.inr (.inr (fun _ => none))))))] [(q2, .inr (11, [.int 0, .int 0, .null, .null, .null, .null, .null, .null, .null, .null, .null]))] []) rfl rfl (Nat.le_of_ble_eq_true rfl) (by decide) (by decide) (by decide) (fun v9 W9 h9 => ?_)
  obtain ⟨rfl, a3, rfl, rfl⟩ := h9
  refine cw_perm (perm_mid2 (α := Nat × va_E) (stoW (CGV G) a3) [(h0, .inr (7, [.int (0 : Int32), .int (0 : Int32), .ref q1])), (q1, .inl ((CGV G).2.2 4, 8, .inr (.inr (.inr (.inr (fun _ => none))))))] []) ?_
  refine cw_aast (j := 1) (jk := 2) (ci := 11) (a := 4) (n := 8) (f := (fun _ => none)) (r := (RX7, TX7, 11)) C dX3_init_43 rfl (by decide) rfl rfl rfl (by unfold vp_in; decide) ?_
  refine cw_iinc (v := (1 : Int32)) C dX3_init_44 rfl (by decide) (by decide) rfl ?_
  refine cw_goto (tgt := 25) C dX3_init_47 (by decide) ?_
  refine cw_iload_n C dX3_init_25 rfl rfl ?_
  refine cw_bipush (v := (8 : Int32)) C dX3_init_26 (by decide) ?_
  refine cw_icmp_ge (tgt := 50) C dX3_init_28 (by decide) (fun z => absurd z (by decide)) (fun _ => ?_)
  refine cw_aload_n C dX3_init_31 rfl rfl ?_
  refine cw_get (j := 0) (f := 2) (ci := 7) (K := RX3) (T := TX3) (N := 3) (fs := [.int (0 : Int32), .int (0 : Int32), .ref q1]) C dX3_init_32 inX3 rfl rfl (by decide) (gw1 130 rfl rfl) (Or.inl rfl) rfl ?_
  refine cw_iload_n C dX3_init_35 rfl rfl ?_
  refine cw_new (ci := 11) (K := RX7) (T := TX7) (N := 11) (fs := [.int 0, .int 0, .null, .null, .null, .null, .null, .null, .null, .null, .null]) (rc := 69) (rs := 2446) (pre := [(h0, .inr (7, [.int (0 : Int32), .int (0 : Int32), .ref q1])), (q1, .inl ((CGV G).2.2 4, 8, .inr (.inr (.inr (.inr (va_up (fun _ => none) (0 : Int32).toNatClampNeg (some (a3 0))))))))]) (Wr := (stoW (CGV G) a3 ++ ([]))) C dX3_init_36 inX7 tyX7 tyX7_ok (gw1 124 rfl rfl) (gw1 43 rfl rfl) (gw1 2 rfl rfl) rfl dfX7 rfl (fun q4 => ?_)
  refine cw_dup C dX3_init_39 rfl ?_
  refine cw_callIN (h := 1) (mc := 9) (ms := 340) (rc' := 60) (rs' := 2106) (as := []) (rest := [.ref q4, .int (1 : Int32), .ref q1]) (W0 := [(q4, .inr (11, [.int 0, .int 0, .null, .null, .null, .null, .null, .null, .null, .null, .null]))]) (Wr := (h0, .inr (7, [.int (0 : Int32), .int (0 : Int32), .ref q1])) :: ((q1, .inl ((CGV G).2.2 4, 8, .inr (.inr (.inr (.inr (va_up (fun _ => none) (0 : Int32).toNatClampNeg (some (a3 0)))))))) :: (stoW (CGV G) a3 ++ ([])))) C (CHR_le (by decide) hH) dX3_init_40 (List.mem_append_right _ (List.mem_append_left _ (List.mem_map.mpr ⟨_, List.mem_of_getElem? (i := 1) rfl, rfl⟩))) mi_X7_init (c_X7_init q4) (perm_mid2 (α := Nat × va_E) [(h0, .inr (7, [.int (0 : Int32), .int (0 : Int32), .ref q1])), (q1, .inl ((CGV G).2.2 4, 8, .inr (.inr (.inr (.inr (va_up (fun _ => none) (0 : Int32).toNatClampNeg (some (a3 0))))))))] [(q4, .inr (11, [.int 0, .int 0, .null, .null, .null, .null, .null, .null, .null, .null, .null]))] (stoW (CGV G) a3 ++ ([]))) rfl rfl (Nat.le_of_ble_eq_true rfl) (by decide) (by decide) (by decide) (fun v9 W9 h9 => ?_)
  obtain ⟨rfl, a5, rfl, rfl⟩ := h9
  refine cw_perm (perm_mid2 (α := Nat × va_E) (stoW (CGV G) a5) [(h0, .inr (7, [.int (0 : Int32), .int (0 : Int32), .ref q1])), (q1, .inl ((CGV G).2.2 4, 8, .inr (.inr (.inr (.inr (va_up (fun _ => none) (0 : Int32).toNatClampNeg (some (a3 0))))))))] (stoW (CGV G) a3 ++ ([]))) ?_
  refine cw_aast (j := 1) (jk := 2) (ci := 11) (a := 4) (n := 8) (f := (va_up (fun _ => none) (0 : Int32).toNatClampNeg (some (a3 0)))) (r := (RX7, TX7, 11)) C dX3_init_43 rfl (by decide) rfl rfl rfl (by unfold vp_in; decide) ?_
  refine cw_iinc (v := (2 : Int32)) C dX3_init_44 rfl (by decide) (by decide) rfl ?_
  refine cw_goto (tgt := 25) C dX3_init_47 (by decide) ?_
  refine cw_iload_n C dX3_init_25 rfl rfl ?_
  refine cw_bipush (v := (8 : Int32)) C dX3_init_26 (by decide) ?_
  refine cw_icmp_ge (tgt := 50) C dX3_init_28 (by decide) (fun z => absurd z (by decide)) (fun _ => ?_)
  refine cw_aload_n C dX3_init_31 rfl rfl ?_
  refine cw_get (j := 0) (f := 2) (ci := 7) (K := RX3) (T := TX3) (N := 3) (fs := [.int (0 : Int32), .int (0 : Int32), .ref q1]) C dX3_init_32 inX3 rfl rfl (by decide) (gw1 130 rfl rfl) (Or.inl rfl) rfl ?_
  refine cw_iload_n C dX3_init_35 rfl rfl ?_
  refine cw_new (ci := 11) (K := RX7) (T := TX7) (N := 11) (fs := [.int 0, .int 0, .null, .null, .null, .null, .null, .null, .null, .null, .null]) (rc := 59) (rs := 2095) (pre := [(h0, .inr (7, [.int (0 : Int32), .int (0 : Int32), .ref q1])), (q1, .inl ((CGV G).2.2 4, 8, .inr (.inr (.inr (.inr (va_up (va_up (fun _ => none) (0 : Int32).toNatClampNeg (some (a3 0))) (1 : Int32).toNatClampNeg (some (a5 0))))))))]) (Wr := (stoW (CGV G) a5 ++ ((stoW (CGV G) a3 ++ ([]))))) C dX3_init_36 inX7 tyX7 tyX7_ok (gw1 124 rfl rfl) (gw1 43 rfl rfl) (gw1 2 rfl rfl) rfl dfX7 rfl (fun q6 => ?_)
  refine cw_dup C dX3_init_39 rfl ?_
  refine cw_callIN (h := 1) (mc := 9) (ms := 340) (rc' := 50) (rs' := 1755) (as := []) (rest := [.ref q6, .int (2 : Int32), .ref q1]) (W0 := [(q6, .inr (11, [.int 0, .int 0, .null, .null, .null, .null, .null, .null, .null, .null, .null]))]) (Wr := (h0, .inr (7, [.int (0 : Int32), .int (0 : Int32), .ref q1])) :: ((q1, .inl ((CGV G).2.2 4, 8, .inr (.inr (.inr (.inr (va_up (va_up (fun _ => none) (0 : Int32).toNatClampNeg (some (a3 0))) (1 : Int32).toNatClampNeg (some (a5 0)))))))) :: (stoW (CGV G) a5 ++ ((stoW (CGV G) a3 ++ ([])))))) C (CHR_le (by decide) hH) dX3_init_40 (List.mem_append_right _ (List.mem_append_left _ (List.mem_map.mpr ⟨_, List.mem_of_getElem? (i := 1) rfl, rfl⟩))) mi_X7_init (c_X7_init q6) (perm_mid2 (α := Nat × va_E) [(h0, .inr (7, [.int (0 : Int32), .int (0 : Int32), .ref q1])), (q1, .inl ((CGV G).2.2 4, 8, .inr (.inr (.inr (.inr (va_up (va_up (fun _ => none) (0 : Int32).toNatClampNeg (some (a3 0))) (1 : Int32).toNatClampNeg (some (a5 0))))))))] [(q6, .inr (11, [.int 0, .int 0, .null, .null, .null, .null, .null, .null, .null, .null, .null]))] (stoW (CGV G) a5 ++ ((stoW (CGV G) a3 ++ ([]))))) rfl rfl (Nat.le_of_ble_eq_true rfl) (by decide) (by decide) (by decide) (fun v9 W9 h9 => ?_)
  obtain ⟨rfl, a7, rfl, rfl⟩ := h9
  refine cw_perm (perm_mid2 (α := Nat × va_E) (stoW (CGV G) a7) [(h0, .inr (7, [.int (0 : Int32), .int (0 : Int32), .ref q1])), (q1, .inl ((CGV G).2.2 4, 8, .inr (.inr (.inr (.inr (va_up (va_up (fun _ => none) (0 : Int32).toNatClampNeg (some (a3 0))) (1 : Int32).toNatClampNeg (some (a5 0))))))))] (stoW (CGV G) a5 ++ ((stoW (CGV G) a3 ++ ([]))))) ?_
  refine cw_aast (j := 1) (jk := 2) (ci := 11) (a := 4) (n := 8) (f := (va_up (va_up (fun _ => none) (0 : Int32).toNatClampNeg (some (a3 0))) (1 : Int32).toNatClampNeg (some (a5 0)))) (r := (RX7, TX7, 11)) C dX3_init_43 rfl (by decide) rfl rfl rfl (by unfold vp_in; decide) ?_
  refine cw_iinc (v := (3 : Int32)) C dX3_init_44 rfl (by decide) (by decide) rfl ?_
  refine cw_goto (tgt := 25) C dX3_init_47 (by decide) ?_
  refine cw_iload_n C dX3_init_25 rfl rfl ?_
  refine cw_bipush (v := (8 : Int32)) C dX3_init_26 (by decide) ?_
  refine cw_icmp_ge (tgt := 50) C dX3_init_28 (by decide) (fun z => absurd z (by decide)) (fun _ => ?_)
  refine cw_aload_n C dX3_init_31 rfl rfl ?_
  refine cw_get (j := 0) (f := 2) (ci := 7) (K := RX3) (T := TX3) (N := 3) (fs := [.int (0 : Int32), .int (0 : Int32), .ref q1]) C dX3_init_32 inX3 rfl rfl (by decide) (gw1 130 rfl rfl) (Or.inl rfl) rfl ?_
  refine cw_iload_n C dX3_init_35 rfl rfl ?_
  refine cw_new (ci := 11) (K := RX7) (T := TX7) (N := 11) (fs := [.int 0, .int 0, .null, .null, .null, .null, .null, .null, .null, .null, .null]) (rc := 49) (rs := 1744) (pre := [(h0, .inr (7, [.int (0 : Int32), .int (0 : Int32), .ref q1])), (q1, .inl ((CGV G).2.2 4, 8, .inr (.inr (.inr (.inr (va_up (va_up (va_up (fun _ => none) (0 : Int32).toNatClampNeg (some (a3 0))) (1 : Int32).toNatClampNeg (some (a5 0))) (2 : Int32).toNatClampNeg (some (a7 0))))))))]) (Wr := (stoW (CGV G) a7 ++ ((stoW (CGV G) a5 ++ ((stoW (CGV G) a3 ++ ([]))))))) C dX3_init_36 inX7 tyX7 tyX7_ok (gw1 124 rfl rfl) (gw1 43 rfl rfl) (gw1 2 rfl rfl) rfl dfX7 rfl (fun q8 => ?_)
  refine cw_dup C dX3_init_39 rfl ?_
  refine cw_callIN (h := 1) (mc := 9) (ms := 340) (rc' := 40) (rs' := 1404) (as := []) (rest := [.ref q8, .int (3 : Int32), .ref q1]) (W0 := [(q8, .inr (11, [.int 0, .int 0, .null, .null, .null, .null, .null, .null, .null, .null, .null]))]) (Wr := (h0, .inr (7, [.int (0 : Int32), .int (0 : Int32), .ref q1])) :: ((q1, .inl ((CGV G).2.2 4, 8, .inr (.inr (.inr (.inr (va_up (va_up (va_up (fun _ => none) (0 : Int32).toNatClampNeg (some (a3 0))) (1 : Int32).toNatClampNeg (some (a5 0))) (2 : Int32).toNatClampNeg (some (a7 0)))))))) :: (stoW (CGV G) a7 ++ ((stoW (CGV G) a5 ++ ((stoW (CGV G) a3 ++ ([])))))))) C (CHR_le (by decide) hH) dX3_init_40 (List.mem_append_right _ (List.mem_append_left _ (List.mem_map.mpr ⟨_, List.mem_of_getElem? (i := 1) rfl, rfl⟩))) mi_X7_init (c_X7_init q8) (perm_mid2 (α := Nat × va_E) [(h0, .inr (7, [.int (0 : Int32), .int (0 : Int32), .ref q1])), (q1, .inl ((CGV G).2.2 4, 8, .inr (.inr (.inr (.inr (va_up (va_up (va_up (fun _ => none) (0 : Int32).toNatClampNeg (some (a3 0))) (1 : Int32).toNatClampNeg (some (a5 0))) (2 : Int32).toNatClampNeg (some (a7 0))))))))] [(q8, .inr (11, [.int 0, .int 0, .null, .null, .null, .null, .null, .null, .null, .null, .null]))] (stoW (CGV G) a7 ++ ((stoW (CGV G) a5 ++ ((stoW (CGV G) a3 ++ ([]))))))) rfl rfl (Nat.le_of_ble_eq_true rfl) (by decide) (by decide) (by decide) (fun v9 W9 h9 => ?_)
  obtain ⟨rfl, a9, rfl, rfl⟩ := h9
  refine cw_perm (perm_mid2 (α := Nat × va_E) (stoW (CGV G) a9) [(h0, .inr (7, [.int (0 : Int32), .int (0 : Int32), .ref q1])), (q1, .inl ((CGV G).2.2 4, 8, .inr (.inr (.inr (.inr (va_up (va_up (va_up (fun _ => none) (0 : Int32).toNatClampNeg (some (a3 0))) (1 : Int32).toNatClampNeg (some (a5 0))) (2 : Int32).toNatClampNeg (some (a7 0))))))))] (stoW (CGV G) a7 ++ ((stoW (CGV G) a5 ++ ((stoW (CGV G) a3 ++ ([]))))))) ?_
  refine cw_aast (j := 1) (jk := 2) (ci := 11) (a := 4) (n := 8) (f := (va_up (va_up (va_up (fun _ => none) (0 : Int32).toNatClampNeg (some (a3 0))) (1 : Int32).toNatClampNeg (some (a5 0))) (2 : Int32).toNatClampNeg (some (a7 0)))) (r := (RX7, TX7, 11)) C dX3_init_43 rfl (by decide) rfl rfl rfl (by unfold vp_in; decide) ?_
  refine cw_iinc (v := (4 : Int32)) C dX3_init_44 rfl (by decide) (by decide) rfl ?_
  refine cw_goto (tgt := 25) C dX3_init_47 (by decide) ?_
  refine cw_iload_n C dX3_init_25 rfl rfl ?_
  refine cw_bipush (v := (8 : Int32)) C dX3_init_26 (by decide) ?_
  refine cw_icmp_ge (tgt := 50) C dX3_init_28 (by decide) (fun z => absurd z (by decide)) (fun _ => ?_)
  refine cw_aload_n C dX3_init_31 rfl rfl ?_
  refine cw_get (j := 0) (f := 2) (ci := 7) (K := RX3) (T := TX3) (N := 3) (fs := [.int (0 : Int32), .int (0 : Int32), .ref q1]) C dX3_init_32 inX3 rfl rfl (by decide) (gw1 130 rfl rfl) (Or.inl rfl) rfl ?_
  refine cw_iload_n C dX3_init_35 rfl rfl ?_
  refine cw_new (ci := 11) (K := RX7) (T := TX7) (N := 11) (fs := [.int 0, .int 0, .null, .null, .null, .null, .null, .null, .null, .null, .null]) (rc := 39) (rs := 1393) (pre := [(h0, .inr (7, [.int (0 : Int32), .int (0 : Int32), .ref q1])), (q1, .inl ((CGV G).2.2 4, 8, .inr (.inr (.inr (.inr (va_up (va_up (va_up (va_up (fun _ => none) (0 : Int32).toNatClampNeg (some (a3 0))) (1 : Int32).toNatClampNeg (some (a5 0))) (2 : Int32).toNatClampNeg (some (a7 0))) (3 : Int32).toNatClampNeg (some (a9 0))))))))]) (Wr := (stoW (CGV G) a9 ++ ((stoW (CGV G) a7 ++ ((stoW (CGV G) a5 ++ ((stoW (CGV G) a3 ++ ([]))))))))) C dX3_init_36 inX7 tyX7 tyX7_ok (gw1 124 rfl rfl) (gw1 43 rfl rfl) (gw1 2 rfl rfl) rfl dfX7 rfl (fun q10 => ?_)
  refine cw_dup C dX3_init_39 rfl ?_
  refine cw_callIN (h := 1) (mc := 9) (ms := 340) (rc' := 30) (rs' := 1053) (as := []) (rest := [.ref q10, .int (4 : Int32), .ref q1]) (W0 := [(q10, .inr (11, [.int 0, .int 0, .null, .null, .null, .null, .null, .null, .null, .null, .null]))]) (Wr := (h0, .inr (7, [.int (0 : Int32), .int (0 : Int32), .ref q1])) :: ((q1, .inl ((CGV G).2.2 4, 8, .inr (.inr (.inr (.inr (va_up (va_up (va_up (va_up (fun _ => none) (0 : Int32).toNatClampNeg (some (a3 0))) (1 : Int32).toNatClampNeg (some (a5 0))) (2 : Int32).toNatClampNeg (some (a7 0))) (3 : Int32).toNatClampNeg (some (a9 0)))))))) :: (stoW (CGV G) a9 ++ ((stoW (CGV G) a7 ++ ((stoW (CGV G) a5 ++ ((stoW (CGV G) a3 ++ ([])))))))))) C (CHR_le (by decide) hH) dX3_init_40 (List.mem_append_right _ (List.mem_append_left _ (List.mem_map.mpr ⟨_, List.mem_of_getElem? (i := 1) rfl, rfl⟩))) mi_X7_init (c_X7_init q10) (perm_mid2 (α := Nat × va_E) [(h0, .inr (7, [.int (0 : Int32), .int (0 : Int32), .ref q1])), (q1, .inl ((CGV G).2.2 4, 8, .inr (.inr (.inr (.inr (va_up (va_up (va_up (va_up (fun _ => none) (0 : Int32).toNatClampNeg (some (a3 0))) (1 : Int32).toNatClampNeg (some (a5 0))) (2 : Int32).toNatClampNeg (some (a7 0))) (3 : Int32).toNatClampNeg (some (a9 0))))))))] [(q10, .inr (11, [.int 0, .int 0, .null, .null, .null, .null, .null, .null, .null, .null, .null]))] (stoW (CGV G) a9 ++ ((stoW (CGV G) a7 ++ ((stoW (CGV G) a5 ++ ((stoW (CGV G) a3 ++ ([]))))))))) rfl rfl (Nat.le_of_ble_eq_true rfl) (by decide) (by decide) (by decide) (fun v9 W9 h9 => ?_)
  obtain ⟨rfl, a11, rfl, rfl⟩ := h9
  refine cw_perm (perm_mid2 (α := Nat × va_E) (stoW (CGV G) a11) [(h0, .inr (7, [.int (0 : Int32), .int (0 : Int32), .ref q1])), (q1, .inl ((CGV G).2.2 4, 8, .inr (.inr (.inr (.inr (va_up (va_up (va_up (va_up (fun _ => none) (0 : Int32).toNatClampNeg (some (a3 0))) (1 : Int32).toNatClampNeg (some (a5 0))) (2 : Int32).toNatClampNeg (some (a7 0))) (3 : Int32).toNatClampNeg (some (a9 0))))))))] (stoW (CGV G) a9 ++ ((stoW (CGV G) a7 ++ ((stoW (CGV G) a5 ++ ((stoW (CGV G) a3 ++ ([]))))))))) ?_
  refine cw_aast (j := 1) (jk := 2) (ci := 11) (a := 4) (n := 8) (f := (va_up (va_up (va_up (va_up (fun _ => none) (0 : Int32).toNatClampNeg (some (a3 0))) (1 : Int32).toNatClampNeg (some (a5 0))) (2 : Int32).toNatClampNeg (some (a7 0))) (3 : Int32).toNatClampNeg (some (a9 0)))) (r := (RX7, TX7, 11)) C dX3_init_43 rfl (by decide) rfl rfl rfl (by unfold vp_in; decide) ?_
  refine cw_iinc (v := (5 : Int32)) C dX3_init_44 rfl (by decide) (by decide) rfl ?_
  refine cw_goto (tgt := 25) C dX3_init_47 (by decide) ?_
  refine cw_iload_n C dX3_init_25 rfl rfl ?_
  refine cw_bipush (v := (8 : Int32)) C dX3_init_26 (by decide) ?_
  refine cw_icmp_ge (tgt := 50) C dX3_init_28 (by decide) (fun z => absurd z (by decide)) (fun _ => ?_)
  refine cw_aload_n C dX3_init_31 rfl rfl ?_
  refine cw_get (j := 0) (f := 2) (ci := 7) (K := RX3) (T := TX3) (N := 3) (fs := [.int (0 : Int32), .int (0 : Int32), .ref q1]) C dX3_init_32 inX3 rfl rfl (by decide) (gw1 130 rfl rfl) (Or.inl rfl) rfl ?_
  refine cw_iload_n C dX3_init_35 rfl rfl ?_
  refine cw_new (ci := 11) (K := RX7) (T := TX7) (N := 11) (fs := [.int 0, .int 0, .null, .null, .null, .null, .null, .null, .null, .null, .null]) (rc := 29) (rs := 1042) (pre := [(h0, .inr (7, [.int (0 : Int32), .int (0 : Int32), .ref q1])), (q1, .inl ((CGV G).2.2 4, 8, .inr (.inr (.inr (.inr (va_up (va_up (va_up (va_up (va_up (fun _ => none) (0 : Int32).toNatClampNeg (some (a3 0))) (1 : Int32).toNatClampNeg (some (a5 0))) (2 : Int32).toNatClampNeg (some (a7 0))) (3 : Int32).toNatClampNeg (some (a9 0))) (4 : Int32).toNatClampNeg (some (a11 0))))))))]) (Wr := (stoW (CGV G) a11 ++ ((stoW (CGV G) a9 ++ ((stoW (CGV G) a7 ++ ((stoW (CGV G) a5 ++ ((stoW (CGV G) a3 ++ ([]))))))))))) C dX3_init_36 inX7 tyX7 tyX7_ok (gw1 124 rfl rfl) (gw1 43 rfl rfl) (gw1 2 rfl rfl) rfl dfX7 rfl (fun q12 => ?_)
  refine cw_dup C dX3_init_39 rfl ?_
  refine cw_callIN (h := 1) (mc := 9) (ms := 340) (rc' := 20) (rs' := 702) (as := []) (rest := [.ref q12, .int (5 : Int32), .ref q1]) (W0 := [(q12, .inr (11, [.int 0, .int 0, .null, .null, .null, .null, .null, .null, .null, .null, .null]))]) (Wr := (h0, .inr (7, [.int (0 : Int32), .int (0 : Int32), .ref q1])) :: ((q1, .inl ((CGV G).2.2 4, 8, .inr (.inr (.inr (.inr (va_up (va_up (va_up (va_up (va_up (fun _ => none) (0 : Int32).toNatClampNeg (some (a3 0))) (1 : Int32).toNatClampNeg (some (a5 0))) (2 : Int32).toNatClampNeg (some (a7 0))) (3 : Int32).toNatClampNeg (some (a9 0))) (4 : Int32).toNatClampNeg (some (a11 0)))))))) :: (stoW (CGV G) a11 ++ ((stoW (CGV G) a9 ++ ((stoW (CGV G) a7 ++ ((stoW (CGV G) a5 ++ ((stoW (CGV G) a3 ++ ([])))))))))))) C (CHR_le (by decide) hH) dX3_init_40 (List.mem_append_right _ (List.mem_append_left _ (List.mem_map.mpr ⟨_, List.mem_of_getElem? (i := 1) rfl, rfl⟩))) mi_X7_init (c_X7_init q12) (perm_mid2 (α := Nat × va_E) [(h0, .inr (7, [.int (0 : Int32), .int (0 : Int32), .ref q1])), (q1, .inl ((CGV G).2.2 4, 8, .inr (.inr (.inr (.inr (va_up (va_up (va_up (va_up (va_up (fun _ => none) (0 : Int32).toNatClampNeg (some (a3 0))) (1 : Int32).toNatClampNeg (some (a5 0))) (2 : Int32).toNatClampNeg (some (a7 0))) (3 : Int32).toNatClampNeg (some (a9 0))) (4 : Int32).toNatClampNeg (some (a11 0))))))))] [(q12, .inr (11, [.int 0, .int 0, .null, .null, .null, .null, .null, .null, .null, .null, .null]))] (stoW (CGV G) a11 ++ ((stoW (CGV G) a9 ++ ((stoW (CGV G) a7 ++ ((stoW (CGV G) a5 ++ ((stoW (CGV G) a3 ++ ([]))))))))))) rfl rfl (Nat.le_of_ble_eq_true rfl) (by decide) (by decide) (by decide) (fun v9 W9 h9 => ?_)
  obtain ⟨rfl, a13, rfl, rfl⟩ := h9
  refine cw_perm (perm_mid2 (α := Nat × va_E) (stoW (CGV G) a13) [(h0, .inr (7, [.int (0 : Int32), .int (0 : Int32), .ref q1])), (q1, .inl ((CGV G).2.2 4, 8, .inr (.inr (.inr (.inr (va_up (va_up (va_up (va_up (va_up (fun _ => none) (0 : Int32).toNatClampNeg (some (a3 0))) (1 : Int32).toNatClampNeg (some (a5 0))) (2 : Int32).toNatClampNeg (some (a7 0))) (3 : Int32).toNatClampNeg (some (a9 0))) (4 : Int32).toNatClampNeg (some (a11 0))))))))] (stoW (CGV G) a11 ++ ((stoW (CGV G) a9 ++ ((stoW (CGV G) a7 ++ ((stoW (CGV G) a5 ++ ((stoW (CGV G) a3 ++ ([]))))))))))) ?_
  refine cw_aast (j := 1) (jk := 2) (ci := 11) (a := 4) (n := 8) (f := (va_up (va_up (va_up (va_up (va_up (fun _ => none) (0 : Int32).toNatClampNeg (some (a3 0))) (1 : Int32).toNatClampNeg (some (a5 0))) (2 : Int32).toNatClampNeg (some (a7 0))) (3 : Int32).toNatClampNeg (some (a9 0))) (4 : Int32).toNatClampNeg (some (a11 0)))) (r := (RX7, TX7, 11)) C dX3_init_43 rfl (by decide) rfl rfl rfl (by unfold vp_in; decide) ?_
  refine cw_iinc (v := (6 : Int32)) C dX3_init_44 rfl (by decide) (by decide) rfl ?_
  refine cw_goto (tgt := 25) C dX3_init_47 (by decide) ?_
  refine cw_iload_n C dX3_init_25 rfl rfl ?_
  refine cw_bipush (v := (8 : Int32)) C dX3_init_26 (by decide) ?_
  refine cw_icmp_ge (tgt := 50) C dX3_init_28 (by decide) (fun z => absurd z (by decide)) (fun _ => ?_)
  refine cw_aload_n C dX3_init_31 rfl rfl ?_
  refine cw_get (j := 0) (f := 2) (ci := 7) (K := RX3) (T := TX3) (N := 3) (fs := [.int (0 : Int32), .int (0 : Int32), .ref q1]) C dX3_init_32 inX3 rfl rfl (by decide) (gw1 130 rfl rfl) (Or.inl rfl) rfl ?_
  refine cw_iload_n C dX3_init_35 rfl rfl ?_
  refine cw_new (ci := 11) (K := RX7) (T := TX7) (N := 11) (fs := [.int 0, .int 0, .null, .null, .null, .null, .null, .null, .null, .null, .null]) (rc := 19) (rs := 691) (pre := [(h0, .inr (7, [.int (0 : Int32), .int (0 : Int32), .ref q1])), (q1, .inl ((CGV G).2.2 4, 8, .inr (.inr (.inr (.inr (va_up (va_up (va_up (va_up (va_up (va_up (fun _ => none) (0 : Int32).toNatClampNeg (some (a3 0))) (1 : Int32).toNatClampNeg (some (a5 0))) (2 : Int32).toNatClampNeg (some (a7 0))) (3 : Int32).toNatClampNeg (some (a9 0))) (4 : Int32).toNatClampNeg (some (a11 0))) (5 : Int32).toNatClampNeg (some (a13 0))))))))]) (Wr := (stoW (CGV G) a13 ++ ((stoW (CGV G) a11 ++ ((stoW (CGV G) a9 ++ ((stoW (CGV G) a7 ++ ((stoW (CGV G) a5 ++ ((stoW (CGV G) a3 ++ ([]))))))))))))) C dX3_init_36 inX7 tyX7 tyX7_ok (gw1 124 rfl rfl) (gw1 43 rfl rfl) (gw1 2 rfl rfl) rfl dfX7 rfl (fun q14 => ?_)
  refine cw_dup C dX3_init_39 rfl ?_
  refine cw_callIN (h := 1) (mc := 9) (ms := 340) (rc' := 10) (rs' := 351) (as := []) (rest := [.ref q14, .int (6 : Int32), .ref q1]) (W0 := [(q14, .inr (11, [.int 0, .int 0, .null, .null, .null, .null, .null, .null, .null, .null, .null]))]) (Wr := (h0, .inr (7, [.int (0 : Int32), .int (0 : Int32), .ref q1])) :: ((q1, .inl ((CGV G).2.2 4, 8, .inr (.inr (.inr (.inr (va_up (va_up (va_up (va_up (va_up (va_up (fun _ => none) (0 : Int32).toNatClampNeg (some (a3 0))) (1 : Int32).toNatClampNeg (some (a5 0))) (2 : Int32).toNatClampNeg (some (a7 0))) (3 : Int32).toNatClampNeg (some (a9 0))) (4 : Int32).toNatClampNeg (some (a11 0))) (5 : Int32).toNatClampNeg (some (a13 0)))))))) :: (stoW (CGV G) a13 ++ ((stoW (CGV G) a11 ++ ((stoW (CGV G) a9 ++ ((stoW (CGV G) a7 ++ ((stoW (CGV G) a5 ++ ((stoW (CGV G) a3 ++ ([])))))))))))))) C (CHR_le (by decide) hH) dX3_init_40 (List.mem_append_right _ (List.mem_append_left _ (List.mem_map.mpr ⟨_, List.mem_of_getElem? (i := 1) rfl, rfl⟩))) mi_X7_init (c_X7_init q14) (perm_mid2 (α := Nat × va_E) [(h0, .inr (7, [.int (0 : Int32), .int (0 : Int32), .ref q1])), (q1, .inl ((CGV G).2.2 4, 8, .inr (.inr (.inr (.inr (va_up (va_up (va_up (va_up (va_up (va_up (fun _ => none) (0 : Int32).toNatClampNeg (some (a3 0))) (1 : Int32).toNatClampNeg (some (a5 0))) (2 : Int32).toNatClampNeg (some (a7 0))) (3 : Int32).toNatClampNeg (some (a9 0))) (4 : Int32).toNatClampNeg (some (a11 0))) (5 : Int32).toNatClampNeg (some (a13 0))))))))] [(q14, .inr (11, [.int 0, .int 0, .null, .null, .null, .null, .null, .null, .null, .null, .null]))] (stoW (CGV G) a13 ++ ((stoW (CGV G) a11 ++ ((stoW (CGV G) a9 ++ ((stoW (CGV G) a7 ++ ((stoW (CGV G) a5 ++ ((stoW (CGV G) a3 ++ ([]))))))))))))) rfl rfl (Nat.le_of_ble_eq_true rfl) (by decide) (by decide) (by decide) (fun v9 W9 h9 => ?_)
  obtain ⟨rfl, a15, rfl, rfl⟩ := h9
  refine cw_perm (perm_mid2 (α := Nat × va_E) (stoW (CGV G) a15) [(h0, .inr (7, [.int (0 : Int32), .int (0 : Int32), .ref q1])), (q1, .inl ((CGV G).2.2 4, 8, .inr (.inr (.inr (.inr (va_up (va_up (va_up (va_up (va_up (va_up (fun _ => none) (0 : Int32).toNatClampNeg (some (a3 0))) (1 : Int32).toNatClampNeg (some (a5 0))) (2 : Int32).toNatClampNeg (some (a7 0))) (3 : Int32).toNatClampNeg (some (a9 0))) (4 : Int32).toNatClampNeg (some (a11 0))) (5 : Int32).toNatClampNeg (some (a13 0))))))))] (stoW (CGV G) a13 ++ ((stoW (CGV G) a11 ++ ((stoW (CGV G) a9 ++ ((stoW (CGV G) a7 ++ ((stoW (CGV G) a5 ++ ((stoW (CGV G) a3 ++ ([]))))))))))))) ?_
  refine cw_aast (j := 1) (jk := 2) (ci := 11) (a := 4) (n := 8) (f := (va_up (va_up (va_up (va_up (va_up (va_up (fun _ => none) (0 : Int32).toNatClampNeg (some (a3 0))) (1 : Int32).toNatClampNeg (some (a5 0))) (2 : Int32).toNatClampNeg (some (a7 0))) (3 : Int32).toNatClampNeg (some (a9 0))) (4 : Int32).toNatClampNeg (some (a11 0))) (5 : Int32).toNatClampNeg (some (a13 0)))) (r := (RX7, TX7, 11)) C dX3_init_43 rfl (by decide) rfl rfl rfl (by unfold vp_in; decide) ?_
  refine cw_iinc (v := (7 : Int32)) C dX3_init_44 rfl (by decide) (by decide) rfl ?_
  refine cw_goto (tgt := 25) C dX3_init_47 (by decide) ?_
  refine cw_iload_n C dX3_init_25 rfl rfl ?_
  refine cw_bipush (v := (8 : Int32)) C dX3_init_26 (by decide) ?_
  refine cw_icmp_ge (tgt := 50) C dX3_init_28 (by decide) (fun z => absurd z (by decide)) (fun _ => ?_)
  refine cw_aload_n C dX3_init_31 rfl rfl ?_
  refine cw_get (j := 0) (f := 2) (ci := 7) (K := RX3) (T := TX3) (N := 3) (fs := [.int (0 : Int32), .int (0 : Int32), .ref q1]) C dX3_init_32 inX3 rfl rfl (by decide) (gw1 130 rfl rfl) (Or.inl rfl) rfl ?_
  refine cw_iload_n C dX3_init_35 rfl rfl ?_
  refine cw_new (ci := 11) (K := RX7) (T := TX7) (N := 11) (fs := [.int 0, .int 0, .null, .null, .null, .null, .null, .null, .null, .null, .null]) (rc := 9) (rs := 340) (pre := [(h0, .inr (7, [.int (0 : Int32), .int (0 : Int32), .ref q1])), (q1, .inl ((CGV G).2.2 4, 8, .inr (.inr (.inr (.inr (va_up (va_up (va_up (va_up (va_up (va_up (va_up (fun _ => none) (0 : Int32).toNatClampNeg (some (a3 0))) (1 : Int32).toNatClampNeg (some (a5 0))) (2 : Int32).toNatClampNeg (some (a7 0))) (3 : Int32).toNatClampNeg (some (a9 0))) (4 : Int32).toNatClampNeg (some (a11 0))) (5 : Int32).toNatClampNeg (some (a13 0))) (6 : Int32).toNatClampNeg (some (a15 0))))))))]) (Wr := (stoW (CGV G) a15 ++ ((stoW (CGV G) a13 ++ ((stoW (CGV G) a11 ++ ((stoW (CGV G) a9 ++ ((stoW (CGV G) a7 ++ ((stoW (CGV G) a5 ++ ((stoW (CGV G) a3 ++ ([]))))))))))))))) C dX3_init_36 inX7 tyX7 tyX7_ok (gw1 124 rfl rfl) (gw1 43 rfl rfl) (gw1 2 rfl rfl) rfl dfX7 rfl (fun q16 => ?_)
  refine cw_dup C dX3_init_39 rfl ?_
  refine cw_callIN (h := 1) (mc := 9) (ms := 340) (rc' := 0) (rs' := 0) (as := []) (rest := [.ref q16, .int (7 : Int32), .ref q1]) (W0 := [(q16, .inr (11, [.int 0, .int 0, .null, .null, .null, .null, .null, .null, .null, .null, .null]))]) (Wr := (h0, .inr (7, [.int (0 : Int32), .int (0 : Int32), .ref q1])) :: ((q1, .inl ((CGV G).2.2 4, 8, .inr (.inr (.inr (.inr (va_up (va_up (va_up (va_up (va_up (va_up (va_up (fun _ => none) (0 : Int32).toNatClampNeg (some (a3 0))) (1 : Int32).toNatClampNeg (some (a5 0))) (2 : Int32).toNatClampNeg (some (a7 0))) (3 : Int32).toNatClampNeg (some (a9 0))) (4 : Int32).toNatClampNeg (some (a11 0))) (5 : Int32).toNatClampNeg (some (a13 0))) (6 : Int32).toNatClampNeg (some (a15 0)))))))) :: (stoW (CGV G) a15 ++ ((stoW (CGV G) a13 ++ ((stoW (CGV G) a11 ++ ((stoW (CGV G) a9 ++ ((stoW (CGV G) a7 ++ ((stoW (CGV G) a5 ++ ((stoW (CGV G) a3 ++ ([])))))))))))))))) C (CHR_le (by decide) hH) dX3_init_40 (List.mem_append_right _ (List.mem_append_left _ (List.mem_map.mpr ⟨_, List.mem_of_getElem? (i := 1) rfl, rfl⟩))) mi_X7_init (c_X7_init q16) (perm_mid2 (α := Nat × va_E) [(h0, .inr (7, [.int (0 : Int32), .int (0 : Int32), .ref q1])), (q1, .inl ((CGV G).2.2 4, 8, .inr (.inr (.inr (.inr (va_up (va_up (va_up (va_up (va_up (va_up (va_up (fun _ => none) (0 : Int32).toNatClampNeg (some (a3 0))) (1 : Int32).toNatClampNeg (some (a5 0))) (2 : Int32).toNatClampNeg (some (a7 0))) (3 : Int32).toNatClampNeg (some (a9 0))) (4 : Int32).toNatClampNeg (some (a11 0))) (5 : Int32).toNatClampNeg (some (a13 0))) (6 : Int32).toNatClampNeg (some (a15 0))))))))] [(q16, .inr (11, [.int 0, .int 0, .null, .null, .null, .null, .null, .null, .null, .null, .null]))] (stoW (CGV G) a15 ++ ((stoW (CGV G) a13 ++ ((stoW (CGV G) a11 ++ ((stoW (CGV G) a9 ++ ((stoW (CGV G) a7 ++ ((stoW (CGV G) a5 ++ ((stoW (CGV G) a3 ++ ([]))))))))))))))) rfl rfl (Nat.le_of_ble_eq_true rfl) (by decide) (by decide) (by decide) (fun v9 W9 h9 => ?_)
  obtain ⟨rfl, a17, rfl, rfl⟩ := h9
  refine cw_perm (perm_mid2 (α := Nat × va_E) (stoW (CGV G) a17) [(h0, .inr (7, [.int (0 : Int32), .int (0 : Int32), .ref q1])), (q1, .inl ((CGV G).2.2 4, 8, .inr (.inr (.inr (.inr (va_up (va_up (va_up (va_up (va_up (va_up (va_up (fun _ => none) (0 : Int32).toNatClampNeg (some (a3 0))) (1 : Int32).toNatClampNeg (some (a5 0))) (2 : Int32).toNatClampNeg (some (a7 0))) (3 : Int32).toNatClampNeg (some (a9 0))) (4 : Int32).toNatClampNeg (some (a11 0))) (5 : Int32).toNatClampNeg (some (a13 0))) (6 : Int32).toNatClampNeg (some (a15 0))))))))] (stoW (CGV G) a15 ++ ((stoW (CGV G) a13 ++ ((stoW (CGV G) a11 ++ ((stoW (CGV G) a9 ++ ((stoW (CGV G) a7 ++ ((stoW (CGV G) a5 ++ ((stoW (CGV G) a3 ++ ([]))))))))))))))) ?_
  refine cw_aast (j := 1) (jk := 2) (ci := 11) (a := 4) (n := 8) (f := (va_up (va_up (va_up (va_up (va_up (va_up (va_up (fun _ => none) (0 : Int32).toNatClampNeg (some (a3 0))) (1 : Int32).toNatClampNeg (some (a5 0))) (2 : Int32).toNatClampNeg (some (a7 0))) (3 : Int32).toNatClampNeg (some (a9 0))) (4 : Int32).toNatClampNeg (some (a11 0))) (5 : Int32).toNatClampNeg (some (a13 0))) (6 : Int32).toNatClampNeg (some (a15 0)))) (r := (RX7, TX7, 11)) C dX3_init_43 rfl (by decide) rfl rfl rfl (by unfold vp_in; decide) ?_
  refine cw_iinc (v := (8 : Int32)) C dX3_init_44 rfl (by decide) (by decide) rfl ?_
  refine cw_goto (tgt := 25) C dX3_init_47 (by decide) ?_
  refine cw_iload_n C dX3_init_25 rfl rfl ?_
  refine cw_bipush (v := (8 : Int32)) C dX3_init_26 (by decide) ?_
  refine cw_icmp_ge (tgt := 50) C dX3_init_28 (by decide) (fun _ => ?_) (fun z => absurd (by decide) z)
  refine cw_same (j := 1) (q := q1) (cA := (CGV G).2.2 4) (x := (8, .inr (.inr (.inr (.inr (va_up (va_up (va_up (va_up (va_up (va_up (va_up (va_up (fun _ => none) (0 : Int32).toNatClampNeg (some (a3 0))) (1 : Int32).toNatClampNeg (some (a5 0))) (2 : Int32).toNatClampNeg (some (a7 0))) (3 : Int32).toNatClampNeg (some (a9 0))) (4 : Int32).toNatClampNeg (some (a11 0))) (5 : Int32).toNatClampNeg (some (a13 0))) (6 : Int32).toNatClampNeg (some (a15 0))) (7 : Int32).toNatClampNeg (some (a17 0)))))))) (x' := (8, .inr (.inr (.inr (.inr (fun i => some ((fun i => [a3, a5, a7, a9, a11, a13, a15, a17].getD i (fun _ => 0)) i 0))))))) rfl (vp_eqq fun j hj => by match j, hj with | 0, _ => rfl | 1, _ => rfl | 2, _ => rfl | 3, _ => rfl | 4, _ => rfl | 5, _ => rfl | 6, _ => rfl | 7, _ => rfl | j + 8, h => exact absurd h (by omega)) ?_
  exact cw_vret C hR dX3_init_50 rfl ⟨rfl, fun j => [h0, q1].getD j 0, (fun i => [a3, a5, a7, a9, a11, a13, a15, a17].getD i (fun _ => 0)), rfl, rfl⟩
theorem dJ7_fill_53178_0 : decode cJ7_fill_53178 0 = .ok (.iconst 0, 1) := by decide +kernel
theorem dJ7_fill_53178_1 : decode cJ7_fill_53178 1 = .ok (.istore_n 2, 1) := by decide +kernel
theorem dJ7_fill_53178_2 : decode cJ7_fill_53178 2 = .ok (.aload_n 0, 1) := by decide +kernel
theorem dJ7_fill_53178_3 : decode cJ7_fill_53178 3 = .ok (.arraylength, 1) := by decide +kernel
theorem dJ7_fill_53178_4 : decode cJ7_fill_53178 4 = .ok (.istore_n 3, 1) := by decide +kernel
theorem dJ7_fill_53178_5 : decode cJ7_fill_53178 5 = .ok (.iload_n 2, 1) := by decide +kernel
theorem dJ7_fill_53178_6 : decode cJ7_fill_53178 6 = .ok (.iload_n 3, 1) := by decide +kernel
theorem dJ7_fill_53178_7 : decode cJ7_fill_53178 7 = .ok (.if_icmp .ge 13, 3) := by decide +kernel
theorem dJ7_fill_53178_10 : decode cJ7_fill_53178 10 = .ok (.aload_n 0, 1) := by decide +kernel
theorem dJ7_fill_53178_11 : decode cJ7_fill_53178 11 = .ok (.iload_n 2, 1) := by decide +kernel
theorem dJ7_fill_53178_12 : decode cJ7_fill_53178 12 = .ok (.iload_n 1, 1) := by decide +kernel
theorem dJ7_fill_53178_13 : decode cJ7_fill_53178 13 = .ok (.iastore, 1) := by decide +kernel
theorem dJ7_fill_53178_14 : decode cJ7_fill_53178 14 = .ok (.iinc 2 1, 3) := by decide +kernel
theorem dJ7_fill_53178_17 : decode cJ7_fill_53178 17 = .ok (.goto (-12), 3) := by decide +kernel
theorem dJ7_fill_53178_20 : decode cJ7_fill_53178 20 = .ok (.return_, 1) := by decide +kernel
theorem c_fill {l : Launch} {V : VT} (q n : Nat) (f : Nat → Int32) (x : Int32) (hn : n < 2 ^ 31) : CMet l yJ7_fill_53178 (.code yJ7_fill_53178 cJ7_fill_53178 4 none) 1 0 0 V [.ref q, .int x] [(q, .inl (V.2.2 2, n, .inl f))] (fun v W1 => v = none ∧ W1 = [(q, .inl (V.2.2 2, n, .inl (fun _ => x)))]) := by
  refine CMet_of (args := [pW (.ref q), pI x]) (by decide +kernel) rfl (Nat.le_of_ble_eq_true rfl) (fun G hV hl C hR hH hN => ?_)
  subst hV
  subst hl
  have L : ∀ d k : Nat, k + d = n → CW G 0 0 5 [some (pW (.ref q)), some (pI x), some (pI (nI k)), some (pI (nI n))] [] [(q, .inl ((CGV G).2.2 2, n, .inl (fun i => if i < k then x else f i)))] := by
    intro d
    induction d with
    | zero =>
      intro k hk
      have hk : k = n := by omega
      subst hk
      refine cw_iload_n C dJ7_fill_53178_5 rfl rfl ?_
      refine cw_iload_n C dJ7_fill_53178_6 rfl rfl ?_
      refine cw_icmp_ge (tgt := 20) C dJ7_fill_53178_7 (by decide) (fun _ => ?_) (fun z => absurd (Int32.le_refl _) z)
      refine cw_same (j := 0) (x' := (k, .inl (fun _ => x))) rfl (vp_eqi fun j hj => if_pos hj) ?_
      exact cw_vret C hR dJ7_fill_53178_20 rfl ⟨rfl, rfl⟩
    | succ d ih =>
      intro k hk
      refine cw_iload_n C dJ7_fill_53178_5 rfl rfl ?_
      refine cw_iload_n C dJ7_fill_53178_6 rfl rfl ?_
      refine cw_icmp_ge (tgt := 20) C dJ7_fill_53178_7 (by decide) (fun z => absurd z (nI_ge (by omega) hn)) (fun _ => ?_)
      refine cw_aload_n C dJ7_fill_53178_10 rfl rfl ?_
      refine cw_iload_n C dJ7_fill_53178_11 rfl rfl ?_
      refine cw_iload_n C dJ7_fill_53178_12 rfl rfl ?_
      refine cw_iast (j := 0) C dJ7_fill_53178_13 rfl (vp_in_nI (by omega) hn) ?_
      refine cw_iinc (v := nI (k + 1)) C dJ7_fill_53178_14 rfl (nI_1 k) (by decide) rfl ?_
      refine cw_goto (tgt := 5) C dJ7_fill_53178_17 (by decide) ?_
      have e : upd (fun i => if i < k then x else f i) (nI k).toNatClampNeg x = fun i => if i < k + 1 then x else f i := by
        rw [nI_clamp (by omega)]
        funext i
        unfold upd
        by_cases h : i = k
        · subst h
          rw [if_pos rfl, if_pos (by omega)]
        · rw [if_neg h]
          show (if i < k then x else f i) = _
          by_cases h2 : i < k
          · rw [if_pos h2, if_pos (by omega)]
          · rw [if_neg h2, if_neg (by omega)]
      have := ih (k + 1) (by omega)
      rw [← e] at this
      exact this
  refine cw_iconst (v := (0 : Int32)) C dJ7_fill_53178_0 (by decide) ?_
  refine cw_istore_n C dJ7_fill_53178_1 rfl (by decide) rfl ?_
  refine cw_aload_n C dJ7_fill_53178_2 rfl rfl ?_
  refine cw_alen (j := 0) (a := 2) (v := nI n) C dJ7_fill_53178_3 rfl (by decide) rfl ?_
  refine cw_istore_n C dJ7_fill_53178_4 rfl (by decide) rfl ?_
  have h0 := L n 0 (by omega)
  simp only [Nat.not_lt_zero, if_false] at h0
  exact h0
def sheW (V : VT) (a : Nat → Nat) : va_W := [(a 0, .inr (10, [.ref (a 1), .ref (a 2)])), (a 1 + 1 + 1, .inl (V.2.2 2, 4, .inl (fun _ => -1))), (a 1 + 1 + 0, .inl (V.2.2 2, 4, .inl (fun _ => -1))), (a 2, .inl (V.2.2 5, 2, .inr (.inr (.inr (.inr (fun i => some (a 2 + 1 + i))))))), (a 2 + 1 + 0, .inl (V.2.2 2, 4, .inl (fun _ => 0))), (a 2 + 1 + 1, .inl (V.2.2 2, 4, .inl (fun _ => 0))), (a 1, .inl (V.2.2 5, 2, .inr (.inr (.inr (.inr (fun i => some (a 1 + 1 + i)))))))]
theorem dX6_init_0 : decode cX6_init 0 = .ok (.aload_n 0, 1) := by decide +kernel
theorem dX6_init_1 : decode cX6_init 1 = .ok (.invokespecial 3, 3) := by decide +kernel
theorem dX6_init_4 : decode cX6_init 4 = .ok (.aload_n 0, 1) := by decide +kernel
theorem dX6_init_5 : decode cX6_init 5 = .ok (.iconst 2, 1) := by decide +kernel
theorem dX6_init_6 : decode cX6_init 6 = .ok (.iconst 4, 1) := by decide +kernel
theorem dX6_init_7 : decode cX6_init 7 = .ok (.multianewarray 9 2, 4) := by decide +kernel
theorem dX6_init_11 : decode cX6_init 11 = .ok (.putfield 11, 3) := by decide +kernel
theorem dX6_init_14 : decode cX6_init 14 = .ok (.aload_n 0, 1) := by decide +kernel
theorem dX6_init_15 : decode cX6_init 15 = .ok (.iconst 2, 1) := by decide +kernel
theorem dX6_init_16 : decode cX6_init 16 = .ok (.iconst 4, 1) := by decide +kernel
theorem dX6_init_17 : decode cX6_init 17 = .ok (.multianewarray 9 2, 4) := by decide +kernel
theorem dX6_init_21 : decode cX6_init 21 = .ok (.putfield 16, 3) := by decide +kernel
theorem dX6_init_24 : decode cX6_init 24 = .ok (.iconst 0, 1) := by decide +kernel
theorem dX6_init_25 : decode cX6_init 25 = .ok (.istore_n 1, 1) := by decide +kernel
theorem dX6_init_26 : decode cX6_init 26 = .ok (.iload_n 1, 1) := by decide +kernel
theorem dX6_init_27 : decode cX6_init 27 = .ok (.iconst 2, 1) := by decide +kernel
theorem dX6_init_28 : decode cX6_init 28 = .ok (.if_icmp .ge 19, 3) := by decide +kernel
theorem dX6_init_31 : decode cX6_init 31 = .ok (.aload_n 0, 1) := by decide +kernel
theorem dX6_init_32 : decode cX6_init 32 = .ok (.getfield 11, 3) := by decide +kernel
theorem dX6_init_35 : decode cX6_init 35 = .ok (.iload_n 1, 1) := by decide +kernel
theorem dX6_init_36 : decode cX6_init 36 = .ok (.aaload, 1) := by decide +kernel
theorem dX6_init_37 : decode cX6_init 37 = .ok (.iconst (-1), 1) := by decide +kernel
theorem dX6_init_38 : decode cX6_init 38 = .ok (.invokestatic 19, 3) := by decide +kernel
theorem dX6_init_41 : decode cX6_init 41 = .ok (.iinc 1 1, 3) := by decide +kernel
theorem dX6_init_44 : decode cX6_init 44 = .ok (.goto (-18), 3) := by decide +kernel
theorem dX6_init_47 : decode cX6_init 47 = .ok (.return_, 1) := by decide +kernel
theorem mi_X6_init : MI9 yX6_init cX6_init 2 0 := ⟨(gw1 141 rfl rfl), (gw1 4 rfl rfl), (gw1 142 rfl rfl), ⟨by decide +kernel, by decide +kernel⟩, by decide +kernel, rfl⟩
set_option maxHeartbeats 2000000 in
set_option maxRecDepth 20000 in
theorem c_X6_init {l : Launch} {V : VT} (h0 : Nat) : CMet l yX6_init (.code yX6_init cX6_init 2 none) 2 6 20 V [.ref h0] [(h0, .inr (10, [.null, .null]))] (fun v W1 => v = none ∧ ∃ a : Nat → Nat, a 0 = h0 ∧ W1 = sheW V a) := by
  refine CMet_of (args := [pW (.ref h0)]) (by decide +kernel) rfl (Nat.le_of_ble_eq_true rfl) (fun G hV hl C hR hH hN => ?_)
  subst hV
  subst hl
  refine cw_aload_n C dX6_init_0 rfl rfl ?_
  refine cw_obj C (CHR_le (by decide) hH) dX6_init_1 (gw1 143 rfl rfl) (gw1 40 rfl rfl) (gw1 41 rfl rfl) rfl ?_
  refine cw_aload_n C dX6_init_4 rfl rfl ?_
  refine cw_iconst (v := (2 : Int32)) C dX6_init_5 (by decide) ?_
  refine cw_iconst (v := (4 : Int32)) C dX6_init_6 (by decide) ?_
  refine cw_multi (N := 2) (M := 4) (rc := 3) (rs := 10) (pre := [(h0, .inr (10, [.null, .null]))]) (Wr := []) C dX6_init_7 (gw1 144 rfl rfl) (by decide) (by decide) rfl (fun q1 => ?_)
  refine cw_put (j := 0) (f := 0) (ci := 10) (K := RX6) (T := TX6) (N := 2) (fs := [.null, .null]) (ty := (.array (.array .int))) C dX6_init_11 inX6 tyX6 tyX6_ok nmX6 rfl rfl (by decide) (gw1 149 rfl rfl) (Or.inl rfl) (Or.inr ⟨rfl, hN, rfl⟩) (by decide +kernel) rfl rfl (Nat.le_of_ble_eq_true rfl) ?_
  refine cw_aload_n C dX6_init_14 rfl rfl ?_
  refine cw_iconst (v := (2 : Int32)) C dX6_init_15 (by decide) ?_
  refine cw_iconst (v := (4 : Int32)) C dX6_init_16 (by decide) ?_
  refine cw_multi (N := 2) (M := 4) (rc := 0) (rs := 0) (pre := [(h0, .inr (10, [.ref q1, .null]))]) (Wr := (mW (CGV G) 2 4 q1 ++ ([]))) C dX6_init_17 (gw1 144 rfl rfl) (by decide) (by decide) rfl (fun q2 => ?_)
  refine cw_put (j := 0) (f := 1) (ci := 10) (K := RX6) (T := TX6) (N := 2) (fs := [.ref q1, .null]) (ty := (.array (.array .int))) C dX6_init_21 inX6 tyX6 tyX6_ok nmX6 rfl rfl (by decide) (gw1 150 rfl rfl) (Or.inl rfl) (Or.inr ⟨rfl, hN, rfl⟩) (by decide +kernel) rfl rfl (Nat.le_of_ble_eq_true rfl) ?_
  refine cw_iconst (v := (0 : Int32)) C dX6_init_24 (by decide) ?_
  refine cw_istore_n C dX6_init_25 rfl (by decide) rfl ?_
  refine cw_iload_n C dX6_init_26 rfl rfl ?_
  refine cw_iconst (v := (2 : Int32)) C dX6_init_27 (by decide) ?_
  refine cw_icmp_ge (tgt := 47) C dX6_init_28 (by decide) (fun z => absurd z (by decide)) (fun _ => ?_)
  refine cw_aload_n C dX6_init_31 rfl rfl ?_
  refine cw_get (j := 0) (f := 0) (ci := 10) (K := RX6) (T := TX6) (N := 2) (fs := [.ref q1, .ref q2]) C dX6_init_32 inX6 rfl rfl (by decide) (gw1 149 rfl rfl) (Or.inl rfl) rfl ?_
  refine cw_iload_n C dX6_init_35 rfl rfl ?_
  refine cw_aald (j := 4) (a := 5) (n := 2) (f := fun i => some (q1 + 1 + i)) (r := q1 + 1 + 0) C dX6_init_36 rfl (by decide) rfl (by unfold vp_in; decide) rfl ?_
  refine cw_iconst (v := (-1 : Int32)) C dX6_init_37 (by decide) ?_
  refine cw_callS (h := 1) (mc := 0) (ms := 0) (n := 2) (rc' := 0) (rs' := 0) (as := [.ref (q1 + 1 + 0), .int (-1 : Int32)]) (rest := []) (W0 := [(q1 + 1 + 0, .inl ((CGV G).2.2 2, 4, .inl (fun _ => 0)))]) (Wr := [(h0, .inr (10, [.ref q1, .ref q2])), (q2, .inl ((CGV G).2.2 5, 2, .inr (.inr (.inr (.inr (fun i => some (q2 + 1 + i))))))), (q2 + 1 + 0, .inl ((CGV G).2.2 2, 4, .inl (fun _ => 0))), (q2 + 1 + 1, .inl ((CGV G).2.2 2, 4, .inl (fun _ => 0))), (q1, .inl ((CGV G).2.2 5, 2, .inr (.inr (.inr (.inr (fun i => some (q1 + 1 + i))))))), (q1 + 1 + 1, .inl ((CGV G).2.2 2, 4, .inl (fun _ => 0)))]) C (CHR_le (by decide) hH) dX6_init_38 (gw1 146 rfl rfl) ms_J7_fill_53178 (c_fill (q1 + 1 + 0) 4 (fun _ => 0) (-1) (by decide)) (perm_pick (j := 5) rfl) rfl rfl (Nat.le_of_ble_eq_true rfl) (by decide) (by decide) (by decide) (fun v9 W9 h9 => ?_)
  obtain ⟨rfl, rfl⟩ := h9
  refine cw_iinc (v := (1 : Int32)) C dX6_init_41 rfl (by decide) (by decide) rfl ?_
  refine cw_goto (tgt := 26) C dX6_init_44 (by decide) ?_
  refine cw_iload_n C dX6_init_26 rfl rfl ?_
  refine cw_iconst (v := (2 : Int32)) C dX6_init_27 (by decide) ?_
  refine cw_icmp_ge (tgt := 47) C dX6_init_28 (by decide) (fun z => absurd z (by decide)) (fun _ => ?_)
  refine cw_aload_n C dX6_init_31 rfl rfl ?_
  refine cw_get (j := 1) (f := 0) (ci := 10) (K := RX6) (T := TX6) (N := 2) (fs := [.ref q1, .ref q2]) C dX6_init_32 inX6 rfl rfl (by decide) (gw1 149 rfl rfl) (Or.inl rfl) rfl ?_
  refine cw_iload_n C dX6_init_35 rfl rfl ?_
  refine cw_aald (j := 5) (a := 5) (n := 2) (f := fun i => some (q1 + 1 + i)) (r := q1 + 1 + 1) C dX6_init_36 rfl (by decide) rfl (by unfold vp_in; decide) rfl ?_
  refine cw_iconst (v := (-1 : Int32)) C dX6_init_37 (by decide) ?_
  refine cw_callS (h := 1) (mc := 0) (ms := 0) (n := 2) (rc' := 0) (rs' := 0) (as := [.ref (q1 + 1 + 1), .int (-1 : Int32)]) (rest := []) (W0 := [(q1 + 1 + 1, .inl ((CGV G).2.2 2, 4, .inl (fun _ => 0)))]) (Wr := [(q1 + 1 + 0, .inl ((CGV G).2.2 2, 4, .inl (fun _ => -1))), (h0, .inr (10, [.ref q1, .ref q2])), (q2, .inl ((CGV G).2.2 5, 2, .inr (.inr (.inr (.inr (fun i => some (q2 + 1 + i))))))), (q2 + 1 + 0, .inl ((CGV G).2.2 2, 4, .inl (fun _ => 0))), (q2 + 1 + 1, .inl ((CGV G).2.2 2, 4, .inl (fun _ => 0))), (q1, .inl ((CGV G).2.2 5, 2, .inr (.inr (.inr (.inr (fun i => some (q1 + 1 + i)))))))]) C (CHR_le (by decide) hH) dX6_init_38 (gw1 146 rfl rfl) ms_J7_fill_53178 (c_fill (q1 + 1 + 1) 4 (fun _ => 0) (-1) (by decide)) (perm_pick (j := 6) rfl) rfl rfl (Nat.le_of_ble_eq_true rfl) (by decide) (by decide) (by decide) (fun v9 W9 h9 => ?_)
  obtain ⟨rfl, rfl⟩ := h9
  refine cw_iinc (v := (2 : Int32)) C dX6_init_41 rfl (by decide) (by decide) rfl ?_
  refine cw_goto (tgt := 26) C dX6_init_44 (by decide) ?_
  refine cw_iload_n C dX6_init_26 rfl rfl ?_
  refine cw_iconst (v := (2 : Int32)) C dX6_init_27 (by decide) ?_
  refine cw_icmp_ge (tgt := 47) C dX6_init_28 (by decide) (fun _ => ?_) (fun z => absurd (by decide) z)
  refine cw_perm (W' := (h0, .inr (10, [.ref q1, .ref q2])) :: [(q1 + 1 + 1, .inl ((CGV G).2.2 2, 4, .inl (fun _ => -1))), (q1 + 1 + 0, .inl ((CGV G).2.2 2, 4, .inl (fun _ => -1))), (q2, .inl ((CGV G).2.2 5, 2, .inr (.inr (.inr (.inr (fun i => some (q2 + 1 + i))))))), (q2 + 1 + 0, .inl ((CGV G).2.2 2, 4, .inl (fun _ => 0))), (q2 + 1 + 1, .inl ((CGV G).2.2 2, 4, .inl (fun _ => 0))), (q1, .inl ((CGV G).2.2 5, 2, .inr (.inr (.inr (.inr (fun i => some (q1 + 1 + i)))))))]) (perm_pick (j := 2) rfl) ?_
  exact cw_vret C hR dX6_init_47 rfl ⟨rfl, fun j => [h0, q1, q2].getD j 0, rfl, rfl⟩
def taW (V : VT) (h0 : Nat) (a2 : Nat → Nat) (a4 : Nat → Nat) (a6 : Nat → Nat) (a6b : Nat → Nat → Nat) (a8 : Nat → Nat) (a10 : Nat → Nat) (a12 : Nat) (a14 : Nat → Nat) (a16 : Nat → Nat) (a18 : Nat → Nat) (a20 : Nat → Nat) (a22 : Nat → Nat) (q11 : Nat) : va_W := ((h0, .inr (12, [.ref (a14 0), .ref (a2 0), .ref (a4 0), .ref (a6 0), .ref (a16 0), .ref (a18 0), .ref (a20 0), .ref (a22 0), .ref (a8 0), .ref (a10 0), .ref q11, .int (0 : Int32), .int (0 : Int32), .int (-1 : Int32)])) :: (figW V (a14 0) (a18 0) (a20 0) a22 ++ ((patW V (a14 0) (a18 0) a20 ++ ((forW V (a14 0) (a16 0) a18 ++ ((cloW V (a14 0) a16 ++ ((stoW V a14 ++ ((sbW V q11 a12 16 (fun _ => 0) 0 0 ++ ((inpW V a10 ++ ((sheW V a8 ++ ((hisW V a6 a6b ++ ((stoW V a4 ++ ((stoW V a2 ++ ([])))))))))))))))))))))))
theorem dX8_init_0 : decode cX8_init 0 = .ok (.aload_n 0, 1) := by decide +kernel
theorem dX8_init_1 : decode cX8_init 1 = .ok (.invokespecial 1, 3) := by decide +kernel
theorem dX8_init_4 : decode cX8_init 4 = .ok (.aload_n 0, 1) := by decide +kernel
theorem dX8_init_5 : decode cX8_init 5 = .ok (.new 7, 3) := by decide +kernel
theorem dX8_init_8 : decode cX8_init 8 = .ok (.dup, 1) := by decide +kernel
theorem dX8_init_9 : decode cX8_init 9 = .ok (.invokespecial 9, 3) := by decide +kernel
theorem dX8_init_12 : decode cX8_init 12 = .ok (.putfield 10, 3) := by decide +kernel
theorem dX8_init_15 : decode cX8_init 15 = .ok (.aload_n 0, 1) := by decide +kernel
theorem dX8_init_16 : decode cX8_init 16 = .ok (.new 7, 3) := by decide +kernel
theorem dX8_init_19 : decode cX8_init 19 = .ok (.dup, 1) := by decide +kernel
theorem dX8_init_20 : decode cX8_init 20 = .ok (.invokespecial 9, 3) := by decide +kernel
theorem dX8_init_23 : decode cX8_init 23 = .ok (.putfield 16, 3) := by decide +kernel
theorem dX8_init_26 : decode cX8_init 26 = .ok (.aload_n 0, 1) := by decide +kernel
theorem dX8_init_27 : decode cX8_init 27 = .ok (.new 19, 3) := by decide +kernel
theorem dX8_init_30 : decode cX8_init 30 = .ok (.dup, 1) := by decide +kernel
theorem dX8_init_31 : decode cX8_init 31 = .ok (.invokespecial 21, 3) := by decide +kernel
theorem dX8_init_34 : decode cX8_init 34 = .ok (.putfield 22, 3) := by decide +kernel
theorem dX8_init_37 : decode cX8_init 37 = .ok (.aload_n 0, 1) := by decide +kernel
theorem dX8_init_38 : decode cX8_init 38 = .ok (.new 26, 3) := by decide +kernel
theorem dX8_init_41 : decode cX8_init 41 = .ok (.dup, 1) := by decide +kernel
theorem dX8_init_42 : decode cX8_init 42 = .ok (.invokespecial 28, 3) := by decide +kernel
theorem dX8_init_45 : decode cX8_init 45 = .ok (.putfield 29, 3) := by decide +kernel
theorem dX8_init_48 : decode cX8_init 48 = .ok (.aload_n 0, 1) := by decide +kernel
theorem dX8_init_49 : decode cX8_init 49 = .ok (.new 33, 3) := by decide +kernel
theorem dX8_init_52 : decode cX8_init 52 = .ok (.dup, 1) := by decide +kernel
theorem dX8_init_53 : decode cX8_init 53 = .ok (.invokespecial 35, 3) := by decide +kernel
theorem dX8_init_56 : decode cX8_init 56 = .ok (.putfield 36, 3) := by decide +kernel
theorem dX8_init_59 : decode cX8_init 59 = .ok (.aload_n 0, 1) := by decide +kernel
theorem dX8_init_60 : decode cX8_init 60 = .ok (.new 40, 3) := by decide +kernel
theorem dX8_init_63 : decode cX8_init 63 = .ok (.dup, 1) := by decide +kernel
theorem dX8_init_64 : decode cX8_init 64 = .ok (.invokespecial 42, 3) := by decide +kernel
theorem dX8_init_67 : decode cX8_init 67 = .ok (.putfield 43, 3) := by decide +kernel
theorem dX8_init_70 : decode cX8_init 70 = .ok (.aload_n 0, 1) := by decide +kernel
theorem dX8_init_71 : decode cX8_init 71 = .ok (.iconst 0, 1) := by decide +kernel
theorem dX8_init_72 : decode cX8_init 72 = .ok (.putfield 47, 3) := by decide +kernel
theorem dX8_init_75 : decode cX8_init 75 = .ok (.aload_n 0, 1) := by decide +kernel
theorem dX8_init_76 : decode cX8_init 76 = .ok (.iconst 0, 1) := by decide +kernel
theorem dX8_init_77 : decode cX8_init 77 = .ok (.putfield 51, 3) := by decide +kernel
theorem dX8_init_80 : decode cX8_init 80 = .ok (.aload_n 0, 1) := by decide +kernel
theorem dX8_init_81 : decode cX8_init 81 = .ok (.iconst (-1), 1) := by decide +kernel
theorem dX8_init_82 : decode cX8_init 82 = .ok (.putfield 54, 3) := by decide +kernel
theorem dX8_init_85 : decode cX8_init 85 = .ok (.new 7, 3) := by decide +kernel
theorem dX8_init_88 : decode cX8_init 88 = .ok (.dup, 1) := by decide +kernel
theorem dX8_init_89 : decode cX8_init 89 = .ok (.invokespecial 9, 3) := by decide +kernel
theorem dX8_init_92 : decode cX8_init 92 = .ok (.astore_n 1, 1) := by decide +kernel
theorem dX8_init_93 : decode cX8_init 93 = .ok (.new 58, 3) := by decide +kernel
theorem dX8_init_96 : decode cX8_init 96 = .ok (.dup, 1) := by decide +kernel
theorem dX8_init_97 : decode cX8_init 97 = .ok (.aload_n 1, 1) := by decide +kernel
theorem dX8_init_98 : decode cX8_init 98 = .ok (.invokespecial 60, 3) := by decide +kernel
theorem dX8_init_101 : decode cX8_init 101 = .ok (.astore_n 2, 1) := by decide +kernel
theorem dX8_init_102 : decode cX8_init 102 = .ok (.new 63, 3) := by decide +kernel
theorem dX8_init_105 : decode cX8_init 105 = .ok (.dup, 1) := by decide +kernel
theorem dX8_init_106 : decode cX8_init 106 = .ok (.aload_n 1, 1) := by decide +kernel
theorem dX8_init_107 : decode cX8_init 107 = .ok (.aload_n 2, 1) := by decide +kernel
theorem dX8_init_108 : decode cX8_init 108 = .ok (.invokespecial 65, 3) := by decide +kernel
theorem dX8_init_111 : decode cX8_init 111 = .ok (.astore_n 3, 1) := by decide +kernel
theorem dX8_init_112 : decode cX8_init 112 = .ok (.new 68, 3) := by decide +kernel
theorem dX8_init_115 : decode cX8_init 115 = .ok (.dup, 1) := by decide +kernel
theorem dX8_init_116 : decode cX8_init 116 = .ok (.aload_n 1, 1) := by decide +kernel
theorem dX8_init_117 : decode cX8_init 117 = .ok (.aload_n 3, 1) := by decide +kernel
theorem dX8_init_118 : decode cX8_init 118 = .ok (.invokespecial 70, 3) := by decide +kernel
theorem dX8_init_121 : decode cX8_init 121 = .ok (.astore 4, 2) := by decide +kernel
theorem dX8_init_123 : decode cX8_init 123 = .ok (.aload_n 0, 1) := by decide +kernel
theorem dX8_init_124 : decode cX8_init 124 = .ok (.new 73, 3) := by decide +kernel
theorem dX8_init_127 : decode cX8_init 127 = .ok (.dup, 1) := by decide +kernel
theorem dX8_init_128 : decode cX8_init 128 = .ok (.aload_n 1, 1) := by decide +kernel
theorem dX8_init_129 : decode cX8_init 129 = .ok (.aload_n 3, 1) := by decide +kernel
theorem dX8_init_130 : decode cX8_init 130 = .ok (.aload 4, 2) := by decide +kernel
theorem dX8_init_132 : decode cX8_init 132 = .ok (.invokespecial 75, 3) := by decide +kernel
theorem dX8_init_135 : decode cX8_init 135 = .ok (.putfield 78, 3) := by decide +kernel
theorem dX8_init_138 : decode cX8_init 138 = .ok (.aload_n 0, 1) := by decide +kernel
theorem dX8_init_139 : decode cX8_init 139 = .ok (.aload 4, 2) := by decide +kernel
theorem dX8_init_141 : decode cX8_init 141 = .ok (.putfield 82, 3) := by decide +kernel
theorem dX8_init_144 : decode cX8_init 144 = .ok (.aload_n 0, 1) := by decide +kernel
theorem dX8_init_145 : decode cX8_init 145 = .ok (.aload_n 3, 1) := by decide +kernel
theorem dX8_init_146 : decode cX8_init 146 = .ok (.putfield 86, 3) := by decide +kernel
theorem dX8_init_149 : decode cX8_init 149 = .ok (.aload_n 0, 1) := by decide +kernel
theorem dX8_init_150 : decode cX8_init 150 = .ok (.aload_n 2, 1) := by decide +kernel
theorem dX8_init_151 : decode cX8_init 151 = .ok (.putfield 90, 3) := by decide +kernel
theorem dX8_init_154 : decode cX8_init 154 = .ok (.aload_n 0, 1) := by decide +kernel
theorem dX8_init_155 : decode cX8_init 155 = .ok (.aload_n 1, 1) := by decide +kernel
theorem dX8_init_156 : decode cX8_init 156 = .ok (.putfield 94, 3) := by decide +kernel
theorem dX8_init_159 : decode cX8_init 159 = .ok (.return_, 1) := by decide +kernel
theorem mi_X8_init : MI9 yX8_init cX8_init 5 0 := ⟨(gw1 37 rfl rfl), (gw1 1 rfl rfl), (gw1 38 rfl rfl), ⟨by decide +kernel, by decide +kernel⟩, by decide +kernel, rfl⟩
set_option maxHeartbeats 2000000 in
set_option maxRecDepth 20000 in
theorem c_X8_init {l : Launch} {V : VT} (h0 : Nat) : CMet l yX8_init (.code yX8_init cX8_init 5 none) 3 153 4843 V [.ref h0] [(h0, .inr (12, [.null, .null, .null, .null, .null, .null, .null, .null, .null, .null, .null, .int 0, .int 0, .int 0]))] (fun v W1 => v = none ∧ ∃ (a2 : Nat → Nat) (a4 : Nat → Nat) (a6 : Nat → Nat) (a6b : Nat → Nat → Nat) (a8 : Nat → Nat) (a10 : Nat → Nat) (a12 : Nat) (a14 : Nat → Nat) (a16 : Nat → Nat) (a18 : Nat → Nat) (a20 : Nat → Nat) (a22 : Nat → Nat) (q11 : Nat), W1 = taW V h0 a2 a4 a6 a6b a8 a10 a12 a14 a16 a18 a20 a22 q11) := by
  refine CMet_of (args := [pW (.ref h0)]) (by decide +kernel) rfl (Nat.le_of_ble_eq_true rfl) (fun G hV hl C hR hH hN => ?_)
  subst hV
  subst hl
  refine cw_aload_n C dX8_init_0 rfl rfl ?_
  refine cw_obj C (CHR_le (by decide) hH) dX8_init_1 (gw1 39 rfl rfl) (gw1 40 rfl rfl) (gw1 41 rfl rfl) rfl ?_
  refine cw_aload_n C dX8_init_4 rfl rfl ?_
  refine cw_new (ci := 11) (K := RX7) (T := TX7) (N := 11) (fs := [.int 0, .int 0, .null, .null, .null, .null, .null, .null, .null, .null, .null]) (rc := 152) (rs := 4832) (pre := [(h0, .inr (12, [.null, .null, .null, .null, .null, .null, .null, .null, .null, .null, .null, .int 0, .int 0, .int 0]))]) (Wr := []) C dX8_init_5 inX7 tyX7 tyX7_ok (gw1 42 rfl rfl) (gw1 43 rfl rfl) (gw1 2 rfl rfl) rfl dfX7 rfl (fun q1 => ?_)
  refine cw_dup C dX8_init_8 rfl ?_
  refine cw_callIN (h := 1) (mc := 9) (ms := 340) (rc' := 143) (rs' := 4492) (as := []) (rest := [.ref q1, .ref h0]) (W0 := [(q1, .inr (11, [.int 0, .int 0, .null, .null, .null, .null, .null, .null, .null, .null, .null]))]) (Wr := (h0, .inr (12, [.null, .null, .null, .null, .null, .null, .null, .null, .null, .null, .null, .int 0, .int 0, .int 0])) :: []) C (CHR_le (by decide) hH) dX8_init_9 (List.mem_append_right _ (List.mem_append_left _ (List.mem_map.mpr ⟨_, List.mem_of_getElem? (i := 0) rfl, rfl⟩))) mi_X7_init (c_X7_init q1) (perm_mid2 (α := Nat × va_E) [(h0, .inr (12, [.null, .null, .null, .null, .null, .null, .null, .null, .null, .null, .null, .int 0, .int 0, .int 0]))] [(q1, .inr (11, [.int 0, .int 0, .null, .null, .null, .null, .null, .null, .null, .null, .null]))] []) rfl rfl (Nat.le_of_ble_eq_true rfl) (by decide) (by decide) (by decide) (fun v9 W9 h9 => ?_)
  obtain ⟨rfl, a2, rfl, rfl⟩ := h9
  refine cw_perm (perm_mid2 (α := Nat × va_E) (stoW (CGV G) a2) [(h0, .inr (12, [.null, .null, .null, .null, .null, .null, .null, .null, .null, .null, .null, .int 0, .int 0, .int 0]))] []) ?_
  refine cw_put (j := 0) (f := 1) (ci := 12) (K := RX8) (T := TX8) (N := 14) (fs := [.null, .null, .null, .null, .null, .null, .null, .null, .null, .null, .null, .int 0, .int 0, .int 0]) (ty := (.object "TraceAssembler$Store")) C dX8_init_12 inX8 tyX8 tyX8_ok nmX8 rfl rfl (by decide) (gw2 103 rfl rfl) (Or.inl rfl) (Or.inr ⟨rfl, hN, rfl⟩) (by decide +kernel) rfl rfl (Nat.le_of_ble_eq_true rfl) ?_
  refine cw_aload_n C dX8_init_15 rfl rfl ?_
  refine cw_new (ci := 11) (K := RX7) (T := TX7) (N := 11) (fs := [.int 0, .int 0, .null, .null, .null, .null, .null, .null, .null, .null, .null]) (rc := 142) (rs := 4481) (pre := [(h0, .inr (12, [.null, .ref (a2 0), .null, .null, .null, .null, .null, .null, .null, .null, .null, .int 0, .int 0, .int 0]))]) (Wr := (stoW (CGV G) a2 ++ ([]))) C dX8_init_16 inX7 tyX7 tyX7_ok (gw1 42 rfl rfl) (gw1 43 rfl rfl) (gw1 2 rfl rfl) rfl dfX7 rfl (fun q3 => ?_)
  refine cw_dup C dX8_init_19 rfl ?_
  refine cw_callIN (h := 1) (mc := 9) (ms := 340) (rc' := 133) (rs' := 4141) (as := []) (rest := [.ref q3, .ref h0]) (W0 := [(q3, .inr (11, [.int 0, .int 0, .null, .null, .null, .null, .null, .null, .null, .null, .null]))]) (Wr := (h0, .inr (12, [.null, .ref (a2 0), .null, .null, .null, .null, .null, .null, .null, .null, .null, .int 0, .int 0, .int 0])) :: (stoW (CGV G) a2 ++ ([]))) C (CHR_le (by decide) hH) dX8_init_20 (List.mem_append_right _ (List.mem_append_left _ (List.mem_map.mpr ⟨_, List.mem_of_getElem? (i := 0) rfl, rfl⟩))) mi_X7_init (c_X7_init q3) (perm_mid2 (α := Nat × va_E) [(h0, .inr (12, [.null, .ref (a2 0), .null, .null, .null, .null, .null, .null, .null, .null, .null, .int 0, .int 0, .int 0]))] [(q3, .inr (11, [.int 0, .int 0, .null, .null, .null, .null, .null, .null, .null, .null, .null]))] (stoW (CGV G) a2 ++ ([]))) rfl rfl (Nat.le_of_ble_eq_true rfl) (by decide) (by decide) (by decide) (fun v9 W9 h9 => ?_)
  obtain ⟨rfl, a4, rfl, rfl⟩ := h9
  refine cw_perm (perm_mid2 (α := Nat × va_E) (stoW (CGV G) a4) [(h0, .inr (12, [.null, .ref (a2 0), .null, .null, .null, .null, .null, .null, .null, .null, .null, .int 0, .int 0, .int 0]))] (stoW (CGV G) a2 ++ ([]))) ?_
  refine cw_put (j := 0) (f := 2) (ci := 12) (K := RX8) (T := TX8) (N := 14) (fs := [.null, .ref (a2 0), .null, .null, .null, .null, .null, .null, .null, .null, .null, .int 0, .int 0, .int 0]) (ty := (.object "TraceAssembler$Store")) C dX8_init_23 inX8 tyX8 tyX8_ok nmX8 rfl rfl (by decide) (gw2 104 rfl rfl) (Or.inl rfl) (Or.inr ⟨rfl, hN, rfl⟩) (by decide +kernel) rfl rfl (Nat.le_of_ble_eq_true rfl) ?_
  refine cw_aload_n C dX8_init_26 rfl rfl ?_
  refine cw_new (ci := 7) (K := RX3) (T := TX3) (N := 3) (fs := [.int 0, .int 0, .null]) (rc := 132) (rs := 4138) (pre := [(h0, .inr (12, [.null, .ref (a2 0), .ref (a4 0), .null, .null, .null, .null, .null, .null, .null, .null, .int 0, .int 0, .int 0]))]) (Wr := (stoW (CGV G) a4 ++ ((stoW (CGV G) a2 ++ ([]))))) C dX8_init_27 inX3 tyX3 tyX3_ok (gw1 118 rfl rfl) (gw1 119 rfl rfl) (gw1 3 rfl rfl) rfl dfX3 rfl (fun q5 => ?_)
  refine cw_dup C dX8_init_30 rfl ?_
  refine cw_callI (h := 2) (mc := 81) (ms := 2816) (rc' := 51) (rs' := 1322) (as := []) (rest := [.ref q5, .ref h0]) (W0 := [(q5, .inr (7, [.int 0, .int 0, .null]))]) (Wr := (h0, .inr (12, [.null, .ref (a2 0), .ref (a4 0), .null, .null, .null, .null, .null, .null, .null, .null, .int 0, .int 0, .int 0])) :: (stoW (CGV G) a4 ++ ((stoW (CGV G) a2 ++ ([]))))) C (CHR_le (by decide) hH) dX8_init_31 (gw1 120 rfl rfl) mi_X3_init (c_X3_init q5) (perm_mid2 (α := Nat × va_E) [(h0, .inr (12, [.null, .ref (a2 0), .ref (a4 0), .null, .null, .null, .null, .null, .null, .null, .null, .int 0, .int 0, .int 0]))] [(q5, .inr (7, [.int 0, .int 0, .null]))] (stoW (CGV G) a4 ++ ((stoW (CGV G) a2 ++ ([]))))) rfl rfl (Nat.le_of_ble_eq_true rfl) (by decide) (by decide) (by decide) (fun v9 W9 h9 => ?_)
  obtain ⟨rfl, a6, a6b, rfl, rfl⟩ := h9
  refine cw_perm (perm_mid2 (α := Nat × va_E) (hisW (CGV G) a6 a6b) [(h0, .inr (12, [.null, .ref (a2 0), .ref (a4 0), .null, .null, .null, .null, .null, .null, .null, .null, .int 0, .int 0, .int 0]))] (stoW (CGV G) a4 ++ ((stoW (CGV G) a2 ++ ([]))))) ?_
  refine cw_put (j := 0) (f := 3) (ci := 12) (K := RX8) (T := TX8) (N := 14) (fs := [.null, .ref (a2 0), .ref (a4 0), .null, .null, .null, .null, .null, .null, .null, .null, .int 0, .int 0, .int 0]) (ty := (.object "TraceAssembler$History")) C dX8_init_34 inX8 tyX8 tyX8_ok nmX8 rfl rfl (by decide) (gw2 105 rfl rfl) (Or.inl rfl) (Or.inr ⟨rfl, hN, rfl⟩) (by decide +kernel) rfl rfl (Nat.le_of_ble_eq_true rfl) ?_
  refine cw_aload_n C dX8_init_37 rfl rfl ?_
  refine cw_new (ci := 10) (K := RX6) (T := TX6) (N := 2) (fs := [.null, .null]) (rc := 50) (rs := 1320) (pre := [(h0, .inr (12, [.null, .ref (a2 0), .ref (a4 0), .ref (a6 0), .null, .null, .null, .null, .null, .null, .null, .int 0, .int 0, .int 0]))]) (Wr := (hisW (CGV G) a6 a6b ++ ((stoW (CGV G) a4 ++ ((stoW (CGV G) a2 ++ ([]))))))) C dX8_init_38 inX6 tyX6 tyX6_ok (gw1 138 rfl rfl) (gw1 139 rfl rfl) (gw1 4 rfl rfl) rfl dfX6 rfl (fun q7 => ?_)
  refine cw_dup C dX8_init_41 rfl ?_
  refine cw_callI (h := 2) (mc := 6) (ms := 20) (rc' := 44) (rs' := 1300) (as := []) (rest := [.ref q7, .ref h0]) (W0 := [(q7, .inr (10, [.null, .null]))]) (Wr := (h0, .inr (12, [.null, .ref (a2 0), .ref (a4 0), .ref (a6 0), .null, .null, .null, .null, .null, .null, .null, .int 0, .int 0, .int 0])) :: (hisW (CGV G) a6 a6b ++ ((stoW (CGV G) a4 ++ ((stoW (CGV G) a2 ++ ([]))))))) C (CHR_le (by decide) hH) dX8_init_42 (gw1 140 rfl rfl) mi_X6_init (c_X6_init q7) (perm_mid2 (α := Nat × va_E) [(h0, .inr (12, [.null, .ref (a2 0), .ref (a4 0), .ref (a6 0), .null, .null, .null, .null, .null, .null, .null, .int 0, .int 0, .int 0]))] [(q7, .inr (10, [.null, .null]))] (hisW (CGV G) a6 a6b ++ ((stoW (CGV G) a4 ++ ((stoW (CGV G) a2 ++ ([]))))))) rfl rfl (Nat.le_of_ble_eq_true rfl) (by decide) (by decide) (by decide) (fun v9 W9 h9 => ?_)
  obtain ⟨rfl, a8, rfl, rfl⟩ := h9
  refine cw_perm (perm_mid2 (α := Nat × va_E) (sheW (CGV G) a8) [(h0, .inr (12, [.null, .ref (a2 0), .ref (a4 0), .ref (a6 0), .null, .null, .null, .null, .null, .null, .null, .int 0, .int 0, .int 0]))] (hisW (CGV G) a6 a6b ++ ((stoW (CGV G) a4 ++ ((stoW (CGV G) a2 ++ ([]))))))) ?_
  refine cw_put (j := 0) (f := 8) (ci := 12) (K := RX8) (T := TX8) (N := 14) (fs := [.null, .ref (a2 0), .ref (a4 0), .ref (a6 0), .null, .null, .null, .null, .null, .null, .null, .int 0, .int 0, .int 0]) (ty := (.object "TraceAssembler$Shelves")) C dX8_init_45 inX8 tyX8 tyX8_ok nmX8 rfl rfl (by decide) (gw2 110 rfl rfl) (Or.inl rfl) (Or.inr ⟨rfl, hN, rfl⟩) (by decide +kernel) rfl rfl (Nat.le_of_ble_eq_true rfl) ?_
  refine cw_aload_n C dX8_init_48 rfl rfl ?_
  refine cw_new (ci := 8) (K := RX4) (T := TX4) (N := 3) (fs := [.int 0, .int 0, .null]) (rc := 43) (rs := 1297) (pre := [(h0, .inr (12, [.null, .ref (a2 0), .ref (a4 0), .ref (a6 0), .null, .null, .null, .null, .ref (a8 0), .null, .null, .int 0, .int 0, .int 0]))]) (Wr := (sheW (CGV G) a8 ++ ((hisW (CGV G) a6 a6b ++ ((stoW (CGV G) a4 ++ ((stoW (CGV G) a2 ++ ([]))))))))) C dX8_init_49 inX4 tyX4 tyX4_ok (gw1 156 rfl rfl) (gw1 157 rfl rfl) (gw1 6 rfl rfl) rfl dfX4 rfl (fun q9 => ?_)
  refine cw_dup C dX8_init_52 rfl ?_
  refine cw_callIN (h := 1) (mc := 1) (ms := 80) (rc' := 42) (rs' := 1217) (as := []) (rest := [.ref q9, .ref h0]) (W0 := [(q9, .inr (8, [.int 0, .int 0, .null]))]) (Wr := (h0, .inr (12, [.null, .ref (a2 0), .ref (a4 0), .ref (a6 0), .null, .null, .null, .null, .ref (a8 0), .null, .null, .int 0, .int 0, .int 0])) :: (sheW (CGV G) a8 ++ ((hisW (CGV G) a6 a6b ++ ((stoW (CGV G) a4 ++ ((stoW (CGV G) a2 ++ ([]))))))))) C (CHR_le (by decide) hH) dX8_init_53 (List.mem_append_right _ (List.mem_append_left _ (List.mem_map.mpr ⟨_, List.mem_of_getElem? (i := 2) rfl, rfl⟩))) mi_X4_init (c_X4_init q9) (perm_mid2 (α := Nat × va_E) [(h0, .inr (12, [.null, .ref (a2 0), .ref (a4 0), .ref (a6 0), .null, .null, .null, .null, .ref (a8 0), .null, .null, .int 0, .int 0, .int 0]))] [(q9, .inr (8, [.int 0, .int 0, .null]))] (sheW (CGV G) a8 ++ ((hisW (CGV G) a6 a6b ++ ((stoW (CGV G) a4 ++ ((stoW (CGV G) a2 ++ ([]))))))))) rfl rfl (Nat.le_of_ble_eq_true rfl) (by decide) (by decide) (by decide) (fun v9 W9 h9 => ?_)
  obtain ⟨rfl, a10, rfl, rfl⟩ := h9
  refine cw_perm (perm_mid2 (α := Nat × va_E) (inpW (CGV G) a10) [(h0, .inr (12, [.null, .ref (a2 0), .ref (a4 0), .ref (a6 0), .null, .null, .null, .null, .ref (a8 0), .null, .null, .int 0, .int 0, .int 0]))] (sheW (CGV G) a8 ++ ((hisW (CGV G) a6 a6b ++ ((stoW (CGV G) a4 ++ ((stoW (CGV G) a2 ++ ([]))))))))) ?_
  refine cw_put (j := 0) (f := 9) (ci := 12) (K := RX8) (T := TX8) (N := 14) (fs := [.null, .ref (a2 0), .ref (a4 0), .ref (a6 0), .null, .null, .null, .null, .ref (a8 0), .null, .null, .int 0, .int 0, .int 0]) (ty := (.object "TraceAssembler$Input")) C dX8_init_56 inX8 tyX8 tyX8_ok nmX8 rfl rfl (by decide) (gw2 111 rfl rfl) (Or.inl rfl) (Or.inr ⟨rfl, hN, rfl⟩) (by decide +kernel) rfl rfl (Nat.le_of_ble_eq_true rfl) ?_
  refine cw_aload_n C dX8_init_59 rfl rfl ?_
  refine cw_new (ci := 1) (K := RJ4) (T := TJ4) (N := 4) (fs := [.null, .int 0, .int 0, .int 0]) (rc := 41) (rs := 1213) (pre := [(h0, .inr (12, [.null, .ref (a2 0), .ref (a4 0), .ref (a6 0), .null, .null, .null, .null, .ref (a8 0), .ref (a10 0), .null, .int 0, .int 0, .int 0]))]) (Wr := (inpW (CGV G) a10 ++ ((sheW (CGV G) a8 ++ ((hisW (CGV G) a6 a6b ++ ((stoW (CGV G) a4 ++ ((stoW (CGV G) a2 ++ ([]))))))))))) C dX8_init_60 inJ4 tyJ4 tyJ4_ok (gw1 175 rfl rfl) (gw1 176 rfl rfl) (gw1 8 rfl rfl) rfl dfJ4 rfl (fun q11 => ?_)
  refine cw_dup C dX8_init_63 rfl ?_
  refine cw_callI (h := 2) (mc := 1) (ms := 16) (rc' := 40) (rs' := 1197) (as := []) (rest := [.ref q11, .ref h0]) (W0 := [(q11, .inr (1, [.null, .int 0, .int 0, .int 0]))]) (Wr := (h0, .inr (12, [.null, .ref (a2 0), .ref (a4 0), .ref (a6 0), .null, .null, .null, .null, .ref (a8 0), .ref (a10 0), .null, .int 0, .int 0, .int 0])) :: (inpW (CGV G) a10 ++ ((sheW (CGV G) a8 ++ ((hisW (CGV G) a6 a6b ++ ((stoW (CGV G) a4 ++ ((stoW (CGV G) a2 ++ ([]))))))))))) C (CHR_le (by decide) hH) dX8_init_64 (gw1 177 rfl rfl) mi_J4_init_da8c8 (c_J4_init_da8c8 q11) (perm_mid2 (α := Nat × va_E) [(h0, .inr (12, [.null, .ref (a2 0), .ref (a4 0), .ref (a6 0), .null, .null, .null, .null, .ref (a8 0), .ref (a10 0), .null, .int 0, .int 0, .int 0]))] [(q11, .inr (1, [.null, .int 0, .int 0, .int 0]))] (inpW (CGV G) a10 ++ ((sheW (CGV G) a8 ++ ((hisW (CGV G) a6 a6b ++ ((stoW (CGV G) a4 ++ ((stoW (CGV G) a2 ++ ([]))))))))))) rfl rfl (Nat.le_of_ble_eq_true rfl) (by decide) (by decide) (by decide) (fun v9 W9 h9 => ?_)
  obtain ⟨rfl, a12, rfl⟩ := h9
  refine cw_perm (perm_mid2 (α := Nat × va_E) (sbW (CGV G) q11 a12 16 (fun _ => 0) 0 0) [(h0, .inr (12, [.null, .ref (a2 0), .ref (a4 0), .ref (a6 0), .null, .null, .null, .null, .ref (a8 0), .ref (a10 0), .null, .int 0, .int 0, .int 0]))] (inpW (CGV G) a10 ++ ((sheW (CGV G) a8 ++ ((hisW (CGV G) a6 a6b ++ ((stoW (CGV G) a4 ++ ((stoW (CGV G) a2 ++ ([]))))))))))) ?_
  refine cw_put (j := 0) (f := 10) (ci := 12) (K := RX8) (T := TX8) (N := 14) (fs := [.null, .ref (a2 0), .ref (a4 0), .ref (a6 0), .null, .null, .null, .null, .ref (a8 0), .ref (a10 0), .null, .int 0, .int 0, .int 0]) (ty := (.object "java/lang/StringBuilder")) C dX8_init_67 inX8 tyX8 tyX8_ok nmX8 rfl rfl (by decide) (gw2 112 rfl rfl) (Or.inl rfl) (Or.inr ⟨rfl, hN, rfl⟩) (by decide +kernel) rfl rfl (Nat.le_of_ble_eq_true rfl) ?_
  refine cw_aload_n C dX8_init_70 rfl rfl ?_
  refine cw_iconst (v := (0 : Int32)) C dX8_init_71 (by decide) ?_
  refine cw_put (j := 0) (f := 11) (ci := 12) (K := RX8) (T := TX8) (N := 14) (fs := [.null, .ref (a2 0), .ref (a4 0), .ref (a6 0), .null, .null, .null, .null, .ref (a8 0), .ref (a10 0), .ref q11, .int 0, .int 0, .int 0]) (ty := .boolean) C dX8_init_72 inX8 tyX8 tyX8_ok nmX8 rfl rfl (by decide) (gw2 113 rfl rfl) (Or.inl rfl) (Or.inl rfl) (by decide +kernel) rfl rfl (Nat.le_of_ble_eq_true rfl) ?_
  refine cw_aload_n C dX8_init_75 rfl rfl ?_
  refine cw_iconst (v := (0 : Int32)) C dX8_init_76 (by decide) ?_
  refine cw_put (j := 0) (f := 12) (ci := 12) (K := RX8) (T := TX8) (N := 14) (fs := [.null, .ref (a2 0), .ref (a4 0), .ref (a6 0), .null, .null, .null, .null, .ref (a8 0), .ref (a10 0), .ref q11, .int (0 : Int32), .int 0, .int 0]) (ty := .boolean) C dX8_init_77 inX8 tyX8 tyX8_ok nmX8 rfl rfl (by decide) (gw2 114 rfl rfl) (Or.inl rfl) (Or.inl rfl) (by decide +kernel) rfl rfl (Nat.le_of_ble_eq_true rfl) ?_
  refine cw_aload_n C dX8_init_80 rfl rfl ?_
  refine cw_iconst (v := (-1 : Int32)) C dX8_init_81 (by decide) ?_
  refine cw_put (j := 0) (f := 13) (ci := 12) (K := RX8) (T := TX8) (N := 14) (fs := [.null, .ref (a2 0), .ref (a4 0), .ref (a6 0), .null, .null, .null, .null, .ref (a8 0), .ref (a10 0), .ref q11, .int (0 : Int32), .int (0 : Int32), .int 0]) (ty := .int) C dX8_init_82 inX8 tyX8 tyX8_ok nmX8 rfl rfl (by decide) (gw2 115 rfl rfl) (Or.inl rfl) (Or.inl rfl) (by decide +kernel) rfl rfl (Nat.le_of_ble_eq_true rfl) ?_
  refine cw_new (ci := 11) (K := RX7) (T := TX7) (N := 11) (fs := [.int 0, .int 0, .null, .null, .null, .null, .null, .null, .null, .null, .null]) (rc := 39) (rs := 1186) (pre := [(h0, .inr (12, [.null, .ref (a2 0), .ref (a4 0), .ref (a6 0), .null, .null, .null, .null, .ref (a8 0), .ref (a10 0), .ref q11, .int (0 : Int32), .int (0 : Int32), .int (-1 : Int32)]))]) (Wr := (sbW (CGV G) q11 a12 16 (fun _ => 0) 0 0 ++ ((inpW (CGV G) a10 ++ ((sheW (CGV G) a8 ++ ((hisW (CGV G) a6 a6b ++ ((stoW (CGV G) a4 ++ ((stoW (CGV G) a2 ++ ([]))))))))))))) C dX8_init_85 inX7 tyX7 tyX7_ok (gw1 42 rfl rfl) (gw1 43 rfl rfl) (gw1 2 rfl rfl) rfl dfX7 rfl (fun q13 => ?_)
  refine cw_dup C dX8_init_88 rfl ?_
  refine cw_callIN (h := 1) (mc := 9) (ms := 340) (rc' := 30) (rs' := 846) (as := []) (rest := [.ref q13]) (W0 := [(q13, .inr (11, [.int 0, .int 0, .null, .null, .null, .null, .null, .null, .null, .null, .null]))]) (Wr := (h0, .inr (12, [.null, .ref (a2 0), .ref (a4 0), .ref (a6 0), .null, .null, .null, .null, .ref (a8 0), .ref (a10 0), .ref q11, .int (0 : Int32), .int (0 : Int32), .int (-1 : Int32)])) :: (sbW (CGV G) q11 a12 16 (fun _ => 0) 0 0 ++ ((inpW (CGV G) a10 ++ ((sheW (CGV G) a8 ++ ((hisW (CGV G) a6 a6b ++ ((stoW (CGV G) a4 ++ ((stoW (CGV G) a2 ++ ([]))))))))))))) C (CHR_le (by decide) hH) dX8_init_89 (List.mem_append_right _ (List.mem_append_left _ (List.mem_map.mpr ⟨_, List.mem_of_getElem? (i := 0) rfl, rfl⟩))) mi_X7_init (c_X7_init q13) (perm_mid2 (α := Nat × va_E) [(h0, .inr (12, [.null, .ref (a2 0), .ref (a4 0), .ref (a6 0), .null, .null, .null, .null, .ref (a8 0), .ref (a10 0), .ref q11, .int (0 : Int32), .int (0 : Int32), .int (-1 : Int32)]))] [(q13, .inr (11, [.int 0, .int 0, .null, .null, .null, .null, .null, .null, .null, .null, .null]))] (sbW (CGV G) q11 a12 16 (fun _ => 0) 0 0 ++ ((inpW (CGV G) a10 ++ ((sheW (CGV G) a8 ++ ((hisW (CGV G) a6 a6b ++ ((stoW (CGV G) a4 ++ ((stoW (CGV G) a2 ++ ([]))))))))))))) rfl rfl (Nat.le_of_ble_eq_true rfl) (by decide) (by decide) (by decide) (fun v9 W9 h9 => ?_)
  obtain ⟨rfl, a14, rfl, rfl⟩ := h9
  refine cw_perm (perm_mid2 (α := Nat × va_E) (stoW (CGV G) a14) [(h0, .inr (12, [.null, .ref (a2 0), .ref (a4 0), .ref (a6 0), .null, .null, .null, .null, .ref (a8 0), .ref (a10 0), .ref q11, .int (0 : Int32), .int (0 : Int32), .int (-1 : Int32)]))] (sbW (CGV G) q11 a12 16 (fun _ => 0) 0 0 ++ ((inpW (CGV G) a10 ++ ((sheW (CGV G) a8 ++ ((hisW (CGV G) a6 a6b ++ ((stoW (CGV G) a4 ++ ((stoW (CGV G) a2 ++ ([]))))))))))))) ?_
  refine cw_astore_n C dX8_init_92 rfl (by decide) rfl ?_
  refine cw_new (ci := 4) (K := RX0) (T := TX0) (N := 5) (fs := [.null, .null, .null, .null, .null]) (rc := 29) (rs := 841) (pre := [(h0, .inr (12, [.null, .ref (a2 0), .ref (a4 0), .ref (a6 0), .null, .null, .null, .null, .ref (a8 0), .ref (a10 0), .ref q11, .int (0 : Int32), .int (0 : Int32), .int (-1 : Int32)]))]) (Wr := (stoW (CGV G) a14 ++ ((sbW (CGV G) q11 a12 16 (fun _ => 0) 0 0 ++ ((inpW (CGV G) a10 ++ ((sheW (CGV G) a8 ++ ((hisW (CGV G) a6 a6b ++ ((stoW (CGV G) a4 ++ ((stoW (CGV G) a2 ++ ([]))))))))))))))) C dX8_init_93 inX0 tyX0 tyX0_ok (gw1 208 rfl rfl) (gw1 209 rfl rfl) (gw1 11 rfl rfl) rfl dfX0 rfl (fun q15 => ?_)
  refine cw_dup C dX8_init_96 rfl ?_
  refine cw_aload_n C dX8_init_97 rfl rfl ?_
  refine cw_callI (h := 1) (mc := 12) (ms := 128) (rc' := 17) (rs' := 713) (as := [.ref (a14 0)]) (rest := [.ref q15]) (W0 := [(q15, .inr (4, [.null, .null, .null, .null, .null]))]) (Wr := (h0, .inr (12, [.null, .ref (a2 0), .ref (a4 0), .ref (a6 0), .null, .null, .null, .null, .ref (a8 0), .ref (a10 0), .ref q11, .int (0 : Int32), .int (0 : Int32), .int (-1 : Int32)])) :: (stoW (CGV G) a14 ++ ((sbW (CGV G) q11 a12 16 (fun _ => 0) 0 0 ++ ((inpW (CGV G) a10 ++ ((sheW (CGV G) a8 ++ ((hisW (CGV G) a6 a6b ++ ((stoW (CGV G) a4 ++ ((stoW (CGV G) a2 ++ ([]))))))))))))))) C (CHR_le (by decide) hH) dX8_init_98 (gw1 210 rfl rfl) mi_X0_init (c_X0_init q15 (a14 0)) (perm_mid2 (α := Nat × va_E) [(h0, .inr (12, [.null, .ref (a2 0), .ref (a4 0), .ref (a6 0), .null, .null, .null, .null, .ref (a8 0), .ref (a10 0), .ref q11, .int (0 : Int32), .int (0 : Int32), .int (-1 : Int32)]))] [(q15, .inr (4, [.null, .null, .null, .null, .null]))] (stoW (CGV G) a14 ++ ((sbW (CGV G) q11 a12 16 (fun _ => 0) 0 0 ++ ((inpW (CGV G) a10 ++ ((sheW (CGV G) a8 ++ ((hisW (CGV G) a6 a6b ++ ((stoW (CGV G) a4 ++ ((stoW (CGV G) a2 ++ ([]))))))))))))))) rfl rfl (Nat.le_of_ble_eq_true rfl) (by decide) (by decide) (by decide) (fun v9 W9 h9 => ?_)
  obtain ⟨rfl, a16, rfl, rfl⟩ := h9
  refine cw_perm (perm_mid2 (α := Nat × va_E) (cloW (CGV G) (a14 0) a16) [(h0, .inr (12, [.null, .ref (a2 0), .ref (a4 0), .ref (a6 0), .null, .null, .null, .null, .ref (a8 0), .ref (a10 0), .ref q11, .int (0 : Int32), .int (0 : Int32), .int (-1 : Int32)]))] (stoW (CGV G) a14 ++ ((sbW (CGV G) q11 a12 16 (fun _ => 0) 0 0 ++ ((inpW (CGV G) a10 ++ ((sheW (CGV G) a8 ++ ((hisW (CGV G) a6 a6b ++ ((stoW (CGV G) a4 ++ ((stoW (CGV G) a2 ++ ([]))))))))))))))) ?_
  refine cw_astore_n C dX8_init_101 rfl (by decide) rfl ?_
  refine cw_new (ci := 6) (K := RX2) (T := TX2) (N := 10) (fs := [.null, .null, .null, .null, .null, .null, .null, .null, .null, .null]) (rc := 16) (rs := 703) (pre := [(h0, .inr (12, [.null, .ref (a2 0), .ref (a4 0), .ref (a6 0), .null, .null, .null, .null, .ref (a8 0), .ref (a10 0), .ref q11, .int (0 : Int32), .int (0 : Int32), .int (-1 : Int32)]))]) (Wr := (cloW (CGV G) (a14 0) a16 ++ ((stoW (CGV G) a14 ++ ((sbW (CGV G) q11 a12 16 (fun _ => 0) 0 0 ++ ((inpW (CGV G) a10 ++ ((sheW (CGV G) a8 ++ ((hisW (CGV G) a6 a6b ++ ((stoW (CGV G) a4 ++ ((stoW (CGV G) a2 ++ ([]))))))))))))))))) C dX8_init_102 inX2 tyX2 tyX2_ok (gw1 235 rfl rfl) (gw1 236 rfl rfl) (gw1 12 rfl rfl) rfl dfX2 rfl (fun q17 => ?_)
  refine cw_dup C dX8_init_105 rfl ?_
  refine cw_aload_n C dX8_init_106 rfl rfl ?_
  refine cw_aload_n C dX8_init_107 rfl rfl ?_
  refine cw_callI (h := 1) (mc := 8) (ms := 320) (rc' := 8) (rs' := 383) (as := [.ref (a14 0), .ref (a16 0)]) (rest := [.ref q17]) (W0 := [(q17, .inr (6, [.null, .null, .null, .null, .null, .null, .null, .null, .null, .null]))]) (Wr := (h0, .inr (12, [.null, .ref (a2 0), .ref (a4 0), .ref (a6 0), .null, .null, .null, .null, .ref (a8 0), .ref (a10 0), .ref q11, .int (0 : Int32), .int (0 : Int32), .int (-1 : Int32)])) :: (cloW (CGV G) (a14 0) a16 ++ ((stoW (CGV G) a14 ++ ((sbW (CGV G) q11 a12 16 (fun _ => 0) 0 0 ++ ((inpW (CGV G) a10 ++ ((sheW (CGV G) a8 ++ ((hisW (CGV G) a6 a6b ++ ((stoW (CGV G) a4 ++ ((stoW (CGV G) a2 ++ ([]))))))))))))))))) C (CHR_le (by decide) hH) dX8_init_108 (gw1 237 rfl rfl) mi_X2_init (c_X2_init q17 (a14 0) (a16 0)) (perm_mid2 (α := Nat × va_E) [(h0, .inr (12, [.null, .ref (a2 0), .ref (a4 0), .ref (a6 0), .null, .null, .null, .null, .ref (a8 0), .ref (a10 0), .ref q11, .int (0 : Int32), .int (0 : Int32), .int (-1 : Int32)]))] [(q17, .inr (6, [.null, .null, .null, .null, .null, .null, .null, .null, .null, .null]))] (cloW (CGV G) (a14 0) a16 ++ ((stoW (CGV G) a14 ++ ((sbW (CGV G) q11 a12 16 (fun _ => 0) 0 0 ++ ((inpW (CGV G) a10 ++ ((sheW (CGV G) a8 ++ ((hisW (CGV G) a6 a6b ++ ((stoW (CGV G) a4 ++ ((stoW (CGV G) a2 ++ ([]))))))))))))))))) rfl rfl (Nat.le_of_ble_eq_true rfl) (by decide) (by decide) (by decide) (fun v9 W9 h9 => ?_)
  obtain ⟨rfl, a18, rfl, rfl⟩ := h9
  refine cw_perm (perm_mid2 (α := Nat × va_E) (forW (CGV G) (a14 0) (a16 0) a18) [(h0, .inr (12, [.null, .ref (a2 0), .ref (a4 0), .ref (a6 0), .null, .null, .null, .null, .ref (a8 0), .ref (a10 0), .ref q11, .int (0 : Int32), .int (0 : Int32), .int (-1 : Int32)]))] (cloW (CGV G) (a14 0) a16 ++ ((stoW (CGV G) a14 ++ ((sbW (CGV G) q11 a12 16 (fun _ => 0) 0 0 ++ ((inpW (CGV G) a10 ++ ((sheW (CGV G) a8 ++ ((hisW (CGV G) a6 a6b ++ ((stoW (CGV G) a4 ++ ((stoW (CGV G) a2 ++ ([]))))))))))))))))) ?_
  refine cw_astore_n C dX8_init_111 rfl (by decide) rfl ?_
  refine cw_new (ci := 9) (K := RX5) (T := TX5) (N := 11) (fs := [.int 0, .null, .null, .null, .null, .null, .int 0, .int 0, .null, .null, .null]) (rc := 7) (rs := 372) (pre := [(h0, .inr (12, [.null, .ref (a2 0), .ref (a4 0), .ref (a6 0), .null, .null, .null, .null, .ref (a8 0), .ref (a10 0), .ref q11, .int (0 : Int32), .int (0 : Int32), .int (-1 : Int32)]))]) (Wr := (forW (CGV G) (a14 0) (a16 0) a18 ++ ((cloW (CGV G) (a14 0) a16 ++ ((stoW (CGV G) a14 ++ ((sbW (CGV G) q11 a12 16 (fun _ => 0) 0 0 ++ ((inpW (CGV G) a10 ++ ((sheW (CGV G) a8 ++ ((hisW (CGV G) a6 a6b ++ ((stoW (CGV G) a4 ++ ((stoW (CGV G) a2 ++ ([]))))))))))))))))))) C dX8_init_112 inX5 tyX5 tyX5_ok (gw2 42 rfl rfl) (gw2 43 rfl rfl) (gw1 13 rfl rfl) rfl dfX5 rfl (fun q19 => ?_)
  refine cw_dup C dX8_init_115 rfl ?_
  refine cw_aload_n C dX8_init_116 rfl rfl ?_
  refine cw_aload_n C dX8_init_117 rfl rfl ?_
  refine cw_callI (h := 1) (mc := 6) (ms := 369) (rc' := 1) (rs' := 3) (as := [.ref (a14 0), .ref (a18 0)]) (rest := [.ref q19]) (W0 := [(q19, .inr (9, [.int 0, .null, .null, .null, .null, .null, .int 0, .int 0, .null, .null, .null]))]) (Wr := (h0, .inr (12, [.null, .ref (a2 0), .ref (a4 0), .ref (a6 0), .null, .null, .null, .null, .ref (a8 0), .ref (a10 0), .ref q11, .int (0 : Int32), .int (0 : Int32), .int (-1 : Int32)])) :: (forW (CGV G) (a14 0) (a16 0) a18 ++ ((cloW (CGV G) (a14 0) a16 ++ ((stoW (CGV G) a14 ++ ((sbW (CGV G) q11 a12 16 (fun _ => 0) 0 0 ++ ((inpW (CGV G) a10 ++ ((sheW (CGV G) a8 ++ ((hisW (CGV G) a6 a6b ++ ((stoW (CGV G) a4 ++ ((stoW (CGV G) a2 ++ ([]))))))))))))))))))) C (CHR_le (by decide) hH) dX8_init_118 (gw2 44 rfl rfl) mi_X5_init (c_X5_init q19 (a14 0) (a18 0)) (perm_mid2 (α := Nat × va_E) [(h0, .inr (12, [.null, .ref (a2 0), .ref (a4 0), .ref (a6 0), .null, .null, .null, .null, .ref (a8 0), .ref (a10 0), .ref q11, .int (0 : Int32), .int (0 : Int32), .int (-1 : Int32)]))] [(q19, .inr (9, [.int 0, .null, .null, .null, .null, .null, .int 0, .int 0, .null, .null, .null]))] (forW (CGV G) (a14 0) (a16 0) a18 ++ ((cloW (CGV G) (a14 0) a16 ++ ((stoW (CGV G) a14 ++ ((sbW (CGV G) q11 a12 16 (fun _ => 0) 0 0 ++ ((inpW (CGV G) a10 ++ ((sheW (CGV G) a8 ++ ((hisW (CGV G) a6 a6b ++ ((stoW (CGV G) a4 ++ ((stoW (CGV G) a2 ++ ([]))))))))))))))))))) rfl rfl (Nat.le_of_ble_eq_true rfl) (by decide) (by decide) (by decide) (fun v9 W9 h9 => ?_)
  obtain ⟨rfl, a20, rfl, rfl⟩ := h9
  refine cw_perm (perm_mid2 (α := Nat × va_E) (patW (CGV G) (a14 0) (a18 0) a20) [(h0, .inr (12, [.null, .ref (a2 0), .ref (a4 0), .ref (a6 0), .null, .null, .null, .null, .ref (a8 0), .ref (a10 0), .ref q11, .int (0 : Int32), .int (0 : Int32), .int (-1 : Int32)]))] (forW (CGV G) (a14 0) (a16 0) a18 ++ ((cloW (CGV G) (a14 0) a16 ++ ((stoW (CGV G) a14 ++ ((sbW (CGV G) q11 a12 16 (fun _ => 0) 0 0 ++ ((inpW (CGV G) a10 ++ ((sheW (CGV G) a8 ++ ((hisW (CGV G) a6 a6b ++ ((stoW (CGV G) a4 ++ ((stoW (CGV G) a2 ++ ([]))))))))))))))))))) ?_
  refine cw_astore C dX8_init_121 (by decide) rfl ?_
  refine cw_aload_n C dX8_init_123 rfl rfl ?_
  refine cw_new (ci := 5) (K := RX1) (T := TX1) (N := 3) (fs := [.null, .null, .null]) (rc := 0) (rs := 0) (pre := [(h0, .inr (12, [.null, .ref (a2 0), .ref (a4 0), .ref (a6 0), .null, .null, .null, .null, .ref (a8 0), .ref (a10 0), .ref q11, .int (0 : Int32), .int (0 : Int32), .int (-1 : Int32)]))]) (Wr := (patW (CGV G) (a14 0) (a18 0) a20 ++ ((forW (CGV G) (a14 0) (a16 0) a18 ++ ((cloW (CGV G) (a14 0) a16 ++ ((stoW (CGV G) a14 ++ ((sbW (CGV G) q11 a12 16 (fun _ => 0) 0 0 ++ ((inpW (CGV G) a10 ++ ((sheW (CGV G) a8 ++ ((hisW (CGV G) a6 a6b ++ ((stoW (CGV G) a4 ++ ((stoW (CGV G) a2 ++ ([]))))))))))))))))))))) C dX8_init_124 inX1 tyX1 tyX1_ok (gw2 86 rfl rfl) (gw2 87 rfl rfl) (gw1 14 rfl rfl) rfl dfX1 rfl (fun q21 => ?_)
  refine cw_dup C dX8_init_127 rfl ?_
  refine cw_aload_n C dX8_init_128 rfl rfl ?_
  refine cw_aload_n C dX8_init_129 rfl rfl ?_
  refine cw_aload C dX8_init_130 rfl ?_
  refine cw_callI (h := 1) (mc := 0) (ms := 0) (rc' := 0) (rs' := 0) (as := [.ref (a14 0), .ref (a18 0), .ref (a20 0)]) (rest := [.ref q21, .ref h0]) (W0 := [(q21, .inr (5, [.null, .null, .null]))]) (Wr := (h0, .inr (12, [.null, .ref (a2 0), .ref (a4 0), .ref (a6 0), .null, .null, .null, .null, .ref (a8 0), .ref (a10 0), .ref q11, .int (0 : Int32), .int (0 : Int32), .int (-1 : Int32)])) :: (patW (CGV G) (a14 0) (a18 0) a20 ++ ((forW (CGV G) (a14 0) (a16 0) a18 ++ ((cloW (CGV G) (a14 0) a16 ++ ((stoW (CGV G) a14 ++ ((sbW (CGV G) q11 a12 16 (fun _ => 0) 0 0 ++ ((inpW (CGV G) a10 ++ ((sheW (CGV G) a8 ++ ((hisW (CGV G) a6 a6b ++ ((stoW (CGV G) a4 ++ ((stoW (CGV G) a2 ++ ([]))))))))))))))))))))) C (CHR_le (by decide) hH) dX8_init_132 (gw2 88 rfl rfl) mi_X1_init (c_X1_init q21 (a14 0) (a18 0) (a20 0)) (perm_mid2 (α := Nat × va_E) [(h0, .inr (12, [.null, .ref (a2 0), .ref (a4 0), .ref (a6 0), .null, .null, .null, .null, .ref (a8 0), .ref (a10 0), .ref q11, .int (0 : Int32), .int (0 : Int32), .int (-1 : Int32)]))] [(q21, .inr (5, [.null, .null, .null]))] (patW (CGV G) (a14 0) (a18 0) a20 ++ ((forW (CGV G) (a14 0) (a16 0) a18 ++ ((cloW (CGV G) (a14 0) a16 ++ ((stoW (CGV G) a14 ++ ((sbW (CGV G) q11 a12 16 (fun _ => 0) 0 0 ++ ((inpW (CGV G) a10 ++ ((sheW (CGV G) a8 ++ ((hisW (CGV G) a6 a6b ++ ((stoW (CGV G) a4 ++ ((stoW (CGV G) a2 ++ ([]))))))))))))))))))))) rfl rfl (Nat.le_of_ble_eq_true rfl) (by decide) (by decide) (by decide) (fun v9 W9 h9 => ?_)
  obtain ⟨rfl, a22, rfl, rfl⟩ := h9
  refine cw_perm (perm_mid2 (α := Nat × va_E) (figW (CGV G) (a14 0) (a18 0) (a20 0) a22) [(h0, .inr (12, [.null, .ref (a2 0), .ref (a4 0), .ref (a6 0), .null, .null, .null, .null, .ref (a8 0), .ref (a10 0), .ref q11, .int (0 : Int32), .int (0 : Int32), .int (-1 : Int32)]))] (patW (CGV G) (a14 0) (a18 0) a20 ++ ((forW (CGV G) (a14 0) (a16 0) a18 ++ ((cloW (CGV G) (a14 0) a16 ++ ((stoW (CGV G) a14 ++ ((sbW (CGV G) q11 a12 16 (fun _ => 0) 0 0 ++ ((inpW (CGV G) a10 ++ ((sheW (CGV G) a8 ++ ((hisW (CGV G) a6 a6b ++ ((stoW (CGV G) a4 ++ ((stoW (CGV G) a2 ++ ([]))))))))))))))))))))) ?_
  refine cw_put (j := 0) (f := 7) (ci := 12) (K := RX8) (T := TX8) (N := 14) (fs := [.null, .ref (a2 0), .ref (a4 0), .ref (a6 0), .null, .null, .null, .null, .ref (a8 0), .ref (a10 0), .ref q11, .int (0 : Int32), .int (0 : Int32), .int (-1 : Int32)]) (ty := (.object "TraceAssembler$Figures")) C dX8_init_135 inX8 tyX8 tyX8_ok nmX8 rfl rfl (by decide) (gw2 109 rfl rfl) (Or.inl rfl) (Or.inr ⟨rfl, hN, rfl⟩) (by decide +kernel) rfl rfl (Nat.le_of_ble_eq_true rfl) ?_
  refine cw_aload_n C dX8_init_138 rfl rfl ?_
  refine cw_aload C dX8_init_139 rfl ?_
  refine cw_put (j := 0) (f := 6) (ci := 12) (K := RX8) (T := TX8) (N := 14) (fs := [.null, .ref (a2 0), .ref (a4 0), .ref (a6 0), .null, .null, .null, .ref (a22 0), .ref (a8 0), .ref (a10 0), .ref q11, .int (0 : Int32), .int (0 : Int32), .int (-1 : Int32)]) (ty := (.object "TraceAssembler$Path")) C dX8_init_141 inX8 tyX8 tyX8_ok nmX8 rfl rfl (by decide) (gw2 108 rfl rfl) (Or.inl rfl) (Or.inr ⟨rfl, hN, rfl⟩) (by decide +kernel) rfl rfl (Nat.le_of_ble_eq_true rfl) ?_
  refine cw_aload_n C dX8_init_144 rfl rfl ?_
  refine cw_aload_n C dX8_init_145 rfl rfl ?_
  refine cw_put (j := 0) (f := 5) (ci := 12) (K := RX8) (T := TX8) (N := 14) (fs := [.null, .ref (a2 0), .ref (a4 0), .ref (a6 0), .null, .null, .ref (a20 0), .ref (a22 0), .ref (a8 0), .ref (a10 0), .ref q11, .int (0 : Int32), .int (0 : Int32), .int (-1 : Int32)]) (ty := (.object "TraceAssembler$Forest")) C dX8_init_146 inX8 tyX8 tyX8_ok nmX8 rfl rfl (by decide) (gw2 107 rfl rfl) (Or.inl rfl) (Or.inr ⟨rfl, hN, rfl⟩) (by decide +kernel) rfl rfl (Nat.le_of_ble_eq_true rfl) ?_
  refine cw_aload_n C dX8_init_149 rfl rfl ?_
  refine cw_aload_n C dX8_init_150 rfl rfl ?_
  refine cw_put (j := 0) (f := 4) (ci := 12) (K := RX8) (T := TX8) (N := 14) (fs := [.null, .ref (a2 0), .ref (a4 0), .ref (a6 0), .null, .ref (a18 0), .ref (a20 0), .ref (a22 0), .ref (a8 0), .ref (a10 0), .ref q11, .int (0 : Int32), .int (0 : Int32), .int (-1 : Int32)]) (ty := (.object "TraceAssembler$Clocks")) C dX8_init_151 inX8 tyX8 tyX8_ok nmX8 rfl rfl (by decide) (gw2 106 rfl rfl) (Or.inl rfl) (Or.inr ⟨rfl, hN, rfl⟩) (by decide +kernel) rfl rfl (Nat.le_of_ble_eq_true rfl) ?_
  refine cw_aload_n C dX8_init_154 rfl rfl ?_
  refine cw_aload_n C dX8_init_155 rfl rfl ?_
  refine cw_put (j := 0) (f := 0) (ci := 12) (K := RX8) (T := TX8) (N := 14) (fs := [.null, .ref (a2 0), .ref (a4 0), .ref (a6 0), .ref (a16 0), .ref (a18 0), .ref (a20 0), .ref (a22 0), .ref (a8 0), .ref (a10 0), .ref q11, .int (0 : Int32), .int (0 : Int32), .int (-1 : Int32)]) (ty := (.object "TraceAssembler$Store")) C dX8_init_156 inX8 tyX8 tyX8_ok nmX8 rfl rfl (by decide) (gw2 102 rfl rfl) (Or.inl rfl) (Or.inr ⟨rfl, hN, rfl⟩) (by decide +kernel) rfl rfl (Nat.le_of_ble_eq_true rfl) ?_
  exact cw_vret C hR dX8_init_159 rfl ⟨rfl, a2, a4, a6, a6b, a8, a10, a12, a14, a16, a18, a20, a22, q11, rfl⟩
