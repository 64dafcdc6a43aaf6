-- describe of the class (gen/mk_de.py)
theorem dX8_describe_0 : decode cX8_describe 0 = .ok (.aload_n 0, 1) := by decide +kernel
theorem dX8_describe_1 : decode cX8_describe 1 = .ok (.aload_n 0, 1) := by decide +kernel
theorem dX8_describe_2 : decode cX8_describe 2 = .ok (.iload_n 1, 1) := by decide +kernel
theorem dX8_describe_3 : decode cX8_describe 3 = .ok (.invokevirtual 142, 3) := by decide +kernel
theorem dX8_describe_6 : decode cX8_describe 6 = .ok (.invokevirtual 449, 3) := by decide +kernel
theorem dX8_describe_9 : decode cX8_describe 9 = .ok (.iload_n 2, 1) := by decide +kernel
theorem dX8_describe_10 : decode cX8_describe 10 = .ok (.iconst (-1), 1) := by decide +kernel
theorem dX8_describe_11 : decode cX8_describe 11 = .ok (.if_icmp .ne 11, 3) := by decide +kernel
theorem dX8_describe_14 : decode cX8_describe 14 = .ok (.aload_n 0, 1) := by decide +kernel
theorem dX8_describe_15 : decode cX8_describe 15 = .ok (.getfield 43, 3) := by decide +kernel
theorem dX8_describe_18 : decode cX8_describe 18 = .ok (.invokevirtual 452, 3) := by decide +kernel
theorem dX8_describe_21 : decode cX8_describe 21 = .ok (.ireturn, 1) := by decide +kernel
theorem dX8_describe_22 : decode cX8_describe 22 = .ok (.iload_n 2, 1) := by decide +kernel
theorem dX8_describe_23 : decode cX8_describe 23 = .ok (.aload_n 0, 1) := by decide +kernel
theorem dX8_describe_24 : decode cX8_describe 24 = .ok (.getfield 43, 3) := by decide +kernel
theorem dX8_describe_27 : decode cX8_describe 27 = .ok (.invokevirtual 452, 3) := by decide +kernel
theorem dX8_describe_30 : decode cX8_describe 30 = .ok (.invokestatic 106, 3) := by decide +kernel
theorem dX8_describe_33 : decode cX8_describe 33 = .ok (.ifCond .ne 14, 3) := by decide +kernel
theorem dX8_describe_36 : decode cX8_describe 36 = .ok (.new 206, 3) := by decide +kernel
theorem dX8_describe_39 : decode cX8_describe 39 = .ok (.dup, 1) := by decide +kernel
theorem dX8_describe_40 : decode cX8_describe 40 = .ok (.ldc_w 455, 3) := by decide +kernel
theorem dX8_describe_43 : decode cX8_describe 43 = .ok (.invokespecial 210, 3) := by decide +kernel
theorem dX8_describe_46 : decode cX8_describe 46 = .ok (.athrow, 1) := by decide +kernel
theorem dX8_describe_47 : decode cX8_describe 47 = .ok (.aload_n 0, 1) := by decide +kernel
theorem dX8_describe_48 : decode cX8_describe 48 = .ok (.getfield 43, 3) := by decide +kernel
theorem dX8_describe_51 : decode cX8_describe 51 = .ok (.iload_n 2, 1) := by decide +kernel
theorem dX8_describe_52 : decode cX8_describe 52 = .ok (.invokevirtual 457, 3) := by decide +kernel
theorem dX8_describe_55 : decode cX8_describe 55 = .ok (.ireturn, 1) := by decide +kernel
/-- what a body that reads the builder knows -/
def BD (G : GT) (cc : ByteArray) (nL : Nat) (own : String) (tl0 : va_W) (ret : Option FieldType) (P : Option PV → Mem → va_W → Prop) (X : String → Mem → va_W → Prop) (h : Nat) (V : VT) (x : TX) : Prop := PCx G cc nL own ∧ SBG G ∧ PRtT G tl0 ret P X ∧ HR G h ∧ NoT G ∧ GV G = V ∧ SBX V (GTl G) x
section BDs
variable {G : GT} {cc : ByteArray} {nL : Nat} {own : String} {rc rs pc h : Nat} {ls : List (Option PV)} {μ : Mem} {tl0 : va_W} {ret : Option FieldType} {P : Option PV → Mem → va_W → Prop} {X : String → Mem → va_W → Prop} {V : VT} {x : TX}
theorem BD.tl {x' : TX} {tl' : va_W} (B : BD G cc nL own tl0 ret P X h V x) (h1 : TlOK (GV G) (GX G) (G.2.2.2.2.1).heap.size (GTl G) tl') (hx : SBX (GV G) tl' x') : BD (setTl G tl') cc nL own tl0 ret P X h V x' := by
  obtain ⟨b1, b2, b3, b4, b5, b6, b7⟩ := B
  have c1 := PCx_tl b1 h1
  obtain ⟨p, l, e, R, s, m, args, below, meth, c, Q, A, V1, idx1, tl⟩ := G
  subst b6
  exact ⟨c1, b2, b3, b4, b5, rfl, hx⟩
theorem bd_len {i : Nat} {rest : List PV} (B : BD G cc nL own tl0 ret P X h V x) (hh : 3 ≤ h) (d : decode cc pc = .ok (.invokevirtual i, 3)) (hl : Cond.methodLink own i yJ4_length_8abf5 ∈ gW) (hk : stK rest ≤ 8)
    (k : ∀ G1 : GT, BD G1 cc nL own tl0 ret P X h V x → PW G1 rc rs (pc + 3) ls (pI (nI x.1) :: rest) μ) : PW G rc rs pc ls (pR 41 0 :: rest) μ := by
  have B0 := B
  obtain ⟨b1, b2, b3, b4, b5, b6, b7⟩ := B
  subst b6
  exact pt_callSB (as := []) (rest := rest) (rv := some (pI (nI x.1))) b1 b2 b7 (HR_le b4 hh) d hl mv_J4_length_8abf5 rfl (fun V9 a q m f ml hV ha h1 h2 h3 h4 h5 => by
    subst hV; subst ha
    exact c_len4 x _ q m f ml ⟨h1, h2, h3, h4, h5⟩) (fun z hz => by cases hz; trivial) rfl rfl hk (Nat.le_of_ble_eq_true rfl) (by omega) (by omega) (fun tl' z1 z2 => k _ (B0.tl z2 z1))
theorem bd_chr {i j : Nat} {y : Int32} (B : BD G cc nL own tl0 ret P X h V x) (hh : 5 ≤ h) (d : decode cc pc = .ok (.invokevirtual i, 3)) (hl : Cond.methodLink own i yJ4_charAt_5068e ∈ gW) (ey : y = nI j) (hj : j < x.1)
    (k : ∀ G1 : GT, BD G1 cc nL own tl0 ret P X h V x → PW G1 rc rs (pc + 3) ls [pI (nI (x.2 j))] μ) : PW G rc rs pc ls [pI y, pR 41 0] μ := by
  subst ey
  have B0 := B
  obtain ⟨b1, b2, b3, b4, b5, b6, b7⟩ := B
  subst b6
  exact pt_callSB (as := [pI (nI j)]) (rest := []) (rv := some (pI (nI (x.2 j)))) b1 b2 b7 (HR_le b4 hh) d hl mv_J4_charAt_5068e rfl (fun V9 a q m f ml hV ha h1 h2 h3 h4 h5 => by
    subst hV; subst ha
    exact c_chr4 x _ q m f ml j ⟨h1, h2, h3, h4, h5⟩ hj) (fun z hz => by cases hz; trivial) rfl rfl (Nat.le_of_ble_eq_true rfl) (Nat.le_of_ble_eq_true rfl) (by omega) (by omega) (fun tl' z1 z2 => k _ (B0.tl z2 z1))
theorem bd_iret {v : Int32} (B : BD G cc nL own tl0 (some .int) P X h V x) (d : decode cc pc = .ok (.ireturn, 1)) (k : P (some (pI v)) μ (GTl G)) : PW G rc rs pc ls [pI v] μ :=
  pt_std (P9 := qI fun r μ' => P (some (pI r)) μ' (GTl G)) (X9 := fun E μ' => X E μ' (GTl G)) B.1 B.2.2.1 (fun v μ' h => by obtain ⟨r, rfl, h⟩ := h; exact h) (fun _ _ h => h) (fun G9 _ _ _ _ C9 R9 _ _ _ => px_iret C9 R9 d rfl rfl k)
end BDs
theorem c_describe {l : Launch} {idx : List (Nat × Nat)} {V : VT} {tl : va_W} {S : GS} {μ : Mem} {x : TX} {z k : Int} (hl : l.stackTraces = false) (hI : IdxOK idx) (hc : CI S μ) (g : GOK S) (hz : -2147483648 ≤ z ∧ z ≤ 2147483647) (hk : -2147483648 ≤ k ∧ k ≤ 2147483647) (hx : SBX V tl x) : PMetT l yX8_describe (.code yX8_describe cX8_describe 3 (some .int)) 9 20 900 idx [pR 40 0, pI (J z), pI (J k)] μ V tl (fun v μ' tl' => μ' = μ ∧ (∃ y, SBX V tl' y) ∧ ∃ q, v = some (pI (J q)) ∧ (op_describe S z k).2 = .inl q) (fun E μ' tl' => μ' = μ ∧ (∃ y, SBX V tl' y) ∧ ∃ e, (op_describe S z k).2 = .inr (E, e)) := by
  refine PMetT_of mv_X8_describe.2.2.2.2.2.2 hl hI rfl (Nat.le_of_ble_eq_true rfl) (fun G hGX hGL hGV hGT C hB hR hHR hnT => ?_)
  show PW G 20 900 0 [some (pR 40 0), some (pI (J z)), some (pI (J k))] [] μ
  refine px_aload_n (i := 0) C dX8_describe_0 rfl rfl ?_
  refine px_aload_n (i := 0) C dX8_describe_1 rfl rfl ?_
  refine px_iload_n (i := 1) C dX8_describe_2 rfl rfl ?_
  have hp : w8_placeOf_wp μ (J z) (fun r μ' => μ' = μ ∧ ∃ i : Nat, i < S.1.1 ∧ (fnd S.1.1 S.1.2.1 z) = i ∧ r = J i) (fun E μ' => μ' = μ ∧ E = xIO ∧ (fnd S.1.1 S.1.2.1 z) = -1) := placeOf_spec hc.1.1 g hz (fun c => ⟨rfl, rfl, c⟩) (fun i hi e ez => ⟨rfl, i, hi, e, rfl⟩)
  refine pt_callV (h := 8) (rc' := 18) (rs' := 880) C hHR hR (fun E μ' h9 => ?_) hnT dX8_describe_3 (gw3 209 rfl rfl) mv_X8_placeOf (w8_placeOf_ok (PCx_l C) (PCx_I C) hp) rfl rfl rfl rfl rfl (Nat.le_of_ble_eq_true rfl) (Nat.le_of_ble_eq_true rfl) (Nat.le_of_ble_eq_true rfl) (Nat.le_of_ble_eq_true rfl) (fun v μ' h9 => ?_)
  · obtain ⟨rfl, rfl, e⟩ := h9
    refine ⟨rfl, ⟨x, by rw [hGT]; exact hx⟩, 1, ?_⟩
    unfold op_describe
    rw [if_pos e]
  obtain ⟨r, rfl, rfl, i, hi, ei, rfl⟩ := h9
  have rn := g.1.n
  have rg := (g.w.r i hi).1
  have hS : SV μ' 0 (S.1.1) (S.1.2.1) := hc.1.1.1
  refine pt_callVN (h := 6) (rc' := 4) (rs' := 40) C hB (HR_le hHR (Nat.le_of_ble_eq_true rfl)) dX8_describe_6 (gw6 182 rfl rfl) mv_X8_writeEntry (c_writeEntry (x := x) (PCx_l C) (PCx_I C) hS hi rn rg (by rw [hGV, hGT]; exact hx)) rfl rfl rfl rfl rfl (Nat.le_of_ble_eq_true rfl) (Nat.le_of_ble_eq_true rfl) (Nat.le_of_ble_eq_true rfl) (Nat.le_of_ble_eq_true rfl) (fun v μ2 tl' h9 hT => ?_)
  obtain ⟨rfl, rfl, hx2⟩ := h9
  have hD0 : BD G cX8_describe 3 RX8 tl (some .int) _ _ 9 V x := ⟨C, hB, hR, hHR, hnT, hGV, by rw [hGT]; exact hx⟩
  have hD := hD0.tl hT hx2
  clear hD0 hT hx2 hR hB C hnT
  have hlen := dtx_le rg
  have eop : (op_describe S z k).2 = (if k = -1 then ok S ((dtx (S.1.2.1) i).1 : Int) else if 0 ≤ k ∧ k < (dtx (S.1.2.1) i).1 then ok S (((dtx (S.1.2.1) i).2 k.toNat : Nat) : Int) else thw S xNE 2 : OpR Int).2 := by
    unfold op_describe
    rw [if_neg (by omega), ei, Int.toNat_natCast]
  generalize dtx (S.1.2.1) i = y at hD hlen eop
  generalize setTl G tl' = G1 at hD
  show PW G1 4 40 9 _ [] μ2
  refine px_iload_n (i := 2) hD.1 dX8_describe_9 rfl rfl ?_
  refine px_iconst (v := (-1 : Int32)) hD.1 dX8_describe_10 rfl ?_
  refine px_icmp_ne (tgt := 22) hD.1 dX8_describe_11 (by decide) (fun c5 => ?_) (fun c5 => ?_)
  · rw [show (-1 : Int32) = J (-1) from rfl, J_eq hk (by decide)] at c5
    rw [if_neg c5] at eop
    refine px_iload_n (i := 2) hD.1 dX8_describe_22 rfl rfl ?_
    refine px_aload_n (i := 0) hD.1 dX8_describe_23 rfl rfl ?_
    refine px_getr hD.1 dX8_describe_24 fl_RX8_43 rfl rfl rfl ?_
    refine bd_len hD (by decide) dX8_describe_27 (gw7 222 rfl rfl) (Nat.le_of_ble_eq_true rfl) (fun G2 hD2 => ?_)
    have hw : w8_isWithin_wp μ2 (J k) (nI y.1) (fun r μ' => μ' = μ2 ∧ ((r = 1 ∧ 0 ≤ k ∧ k < y.1) ∨ (r = 0 ∧ ¬ (0 ≤ k ∧ k < y.1)))) := isWithin_spec k y.1 rfl (Jn _).symm hk (by omega) (fun h => ⟨rfl, Or.inl ⟨rfl, h⟩⟩) (fun h => ⟨rfl, Or.inr ⟨rfl, h⟩⟩)
    refine px_callS0 (h := 0) (rc' := 4) (rs' := 40) hD2.1 (HR_le hD2.2.2.2.1 (Nat.le_of_ble_eq_true rfl)) dX8_describe_30 (gw3 65 rfl rfl) ms_X8_isWithin (w8_isWithin_ok (PCx_l hD2.1) (PCx_I hD2.1) hw) rfl rfl (Nat.le_of_ble_eq_true rfl) (Nat.le_of_ble_eq_true rfl) (Nat.le_of_ble_eq_true rfl) (Nat.le_of_ble_eq_true rfl) (fun r μ3 h9 => ?_)
    obtain ⟨rfl, h9⟩ := h9
    refine px_if_ne (tgt := 47) hD2.1 dX8_describe_33 (by decide) (fun c6 => ?_) (fun c6 => ?_)
    · obtain ⟨k0, k1⟩ : 0 ≤ k ∧ k < y.1 := by
        rcases h9 with ⟨_, h⟩ | ⟨h, _⟩
        · exact h
        · exact absurd h c6
      rw [if_pos ⟨k0, k1⟩] at eop
      refine px_aload_n (i := 0) hD2.1 dX8_describe_47 rfl rfl ?_
      refine px_getr hD2.1 dX8_describe_48 fl_RX8_43 rfl rfl rfl ?_
      refine px_iload_n (i := 2) hD2.1 dX8_describe_51 rfl rfl ?_
      refine bd_chr (j := k.toNat) hD2 (by decide) dX8_describe_52 (gw7 224 rfl rfl) (by rw [← Jn]; congr 1; omega) (by omega) (fun G3 hD3 => ?_)
      exact bd_iret hD3 dX8_describe_55 ⟨rfl, ⟨y, hD3.2.2.2.2.2.2⟩, _, by rw [Jn], eop⟩
    · have kk : ¬ (0 ≤ k ∧ k < y.1) := by
        rcases h9 with ⟨h, _⟩ | ⟨_, h⟩
        · rw [h] at c6
          exact absurd c6 (by decide)
        · exact h
      rw [if_neg kk] at eop
      exact pt_std (P9 := fun _ _ => False) (X9 := fun E μ' => μ' = μ3 ∧ E = xNE) hD2.1 hD2.2.2.1 (fun _ _ h => h.elim) (fun E μ' h => by obtain ⟨rfl, rfl⟩ := h; exact ⟨rfl, ⟨y, hD2.2.2.2.2.2.2⟩, 2, eop⟩) (fun G9 _ _ _ _ C9 R9 _ hH9 hc9 => px_throwwN (h9 := 1) C9 (hH9 _ hD2.2.2.2.1) R9 (by rw [hc9]; exact hD2.2.2.2.2.1) tk_NoSuchElementException ti_NoSuchElementException (List.mem_of_getElem? (i := 35) rfl) rfl dX8_describe_36 dX8_describe_39 dX8_describe_40 dX8_describe_43 dX8_describe_46 rfl (Nat.le_of_ble_eq_true rfl) (Nat.le_of_ble_eq_true rfl) ⟨rfl, rfl⟩)
  · rw [show (-1 : Int32) = J (-1) from rfl, J_eq hk (by decide)] at c5
    rw [if_pos c5] at eop
    refine px_aload_n (i := 0) hD.1 dX8_describe_14 rfl rfl ?_
    refine px_getr hD.1 dX8_describe_15 fl_RX8_43 rfl rfl rfl ?_
    refine bd_len hD (by decide) dX8_describe_18 (gw7 222 rfl rfl) (Nat.le_of_ble_eq_true rfl) (fun G2 hD2 => ?_)
    exact bd_iret hD2 dX8_describe_21 ⟨rfl, ⟨y, hD2.2.2.2.2.2.2⟩, _, by rw [Jn], eop⟩
