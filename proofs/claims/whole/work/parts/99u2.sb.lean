theorem gch_nar {c : Nat} (h : c < 58) : vp_nar .byte (nI c) = sb_b c := by
  have : ∀ c : Nat, c < 58 → vp_nar .byte (nI c) = sb_b c := by decide +kernel
  exact this c h
theorem gch_end {G : CG} {rc rs pc : Nat} {ls ls' : List (Option PV)} {st : List Value} {W9 : va_W} (h : ls' = ls' ∨ True) (k : CW G rc rs pc [] st W9) : CW G rc rs pc ls st W9 := by
  obtain ⟨p, l, e, R, s, m, args, below, meth, c, Q, A, V⟩ := G
  intro H locs cells slots lsM hP hD hS hl h1 h2
  exact k H locs cells slots lsM hP hD hS ⟨hl.1, hl.2.1, fun q hq => by cases hq⟩ h1 h2
theorem dJ6_getChars_ba4f3_0 : decode cJ6_getChars_ba4f3 0 = .ok (.iload_n 1, 1) := by decide +kernel
theorem dJ6_getChars_ba4f3_1 : decode cJ6_getChars_ba4f3 1 = .ok (.istore 5, 2) := by decide +kernel
theorem dJ6_getChars_ba4f3_3 : decode cJ6_getChars_ba4f3 3 = .ok (.iload_n 0, 1) := by decide +kernel
theorem dJ6_getChars_ba4f3_4 : decode cJ6_getChars_ba4f3 4 = .ok (.ifCond .ge 7, 3) := by decide +kernel
theorem dJ6_getChars_ba4f3_7 : decode cJ6_getChars_ba4f3 7 = .ok (.iconst 1, 1) := by decide +kernel
theorem dJ6_getChars_ba4f3_8 : decode cJ6_getChars_ba4f3 8 = .ok (.goto 4, 3) := by decide +kernel
theorem dJ6_getChars_ba4f3_11 : decode cJ6_getChars_ba4f3 11 = .ok (.iconst 0, 1) := by decide +kernel
theorem dJ6_getChars_ba4f3_12 : decode cJ6_getChars_ba4f3 12 = .ok (.istore 6, 2) := by decide +kernel
theorem dJ6_getChars_ba4f3_14 : decode cJ6_getChars_ba4f3 14 = .ok (.iload 6, 2) := by decide +kernel
theorem dJ6_getChars_ba4f3_16 : decode cJ6_getChars_ba4f3 16 = .ok (.ifCond .ne 6, 3) := by decide +kernel
theorem dJ6_getChars_ba4f3_19 : decode cJ6_getChars_ba4f3 19 = .ok (.iload_n 0, 1) := by decide +kernel
theorem dJ6_getChars_ba4f3_20 : decode cJ6_getChars_ba4f3 20 = .ok (.ineg, 1) := by decide +kernel
theorem dJ6_getChars_ba4f3_21 : decode cJ6_getChars_ba4f3 21 = .ok (.istore_n 0, 1) := by decide +kernel
theorem dJ6_getChars_ba4f3_22 : decode cJ6_getChars_ba4f3 22 = .ok (.iload_n 0, 1) := by decide +kernel
theorem dJ6_getChars_ba4f3_23 : decode cJ6_getChars_ba4f3 23 = .ok (.bipush (-100), 2) := by decide +kernel
theorem dJ6_getChars_ba4f3_25 : decode cJ6_getChars_ba4f3 25 = .ok (.if_icmp .gt 47, 3) := by decide +kernel
theorem dJ6_getChars_ba4f3_28 : decode cJ6_getChars_ba4f3 28 = .ok (.iload_n 0, 1) := by decide +kernel
theorem dJ6_getChars_ba4f3_29 : decode cJ6_getChars_ba4f3 29 = .ok (.bipush 100, 2) := by decide +kernel
theorem dJ6_getChars_ba4f3_31 : decode cJ6_getChars_ba4f3 31 = .ok (.idiv, 1) := by decide +kernel
theorem dJ6_getChars_ba4f3_32 : decode cJ6_getChars_ba4f3 32 = .ok (.istore_n 3, 1) := by decide +kernel
theorem dJ6_getChars_ba4f3_33 : decode cJ6_getChars_ba4f3 33 = .ok (.iload_n 3, 1) := by decide +kernel
theorem dJ6_getChars_ba4f3_34 : decode cJ6_getChars_ba4f3 34 = .ok (.bipush 100, 2) := by decide +kernel
theorem dJ6_getChars_ba4f3_36 : decode cJ6_getChars_ba4f3 36 = .ok (.imul, 1) := by decide +kernel
theorem dJ6_getChars_ba4f3_37 : decode cJ6_getChars_ba4f3 37 = .ok (.iload_n 0, 1) := by decide +kernel
theorem dJ6_getChars_ba4f3_38 : decode cJ6_getChars_ba4f3 38 = .ok (.isub, 1) := by decide +kernel
theorem dJ6_getChars_ba4f3_39 : decode cJ6_getChars_ba4f3 39 = .ok (.istore 4, 2) := by decide +kernel
theorem dJ6_getChars_ba4f3_41 : decode cJ6_getChars_ba4f3 41 = .ok (.iload_n 3, 1) := by decide +kernel
theorem dJ6_getChars_ba4f3_42 : decode cJ6_getChars_ba4f3 42 = .ok (.istore_n 0, 1) := by decide +kernel
theorem dJ6_getChars_ba4f3_43 : decode cJ6_getChars_ba4f3 43 = .ok (.aload_n 2, 1) := by decide +kernel
theorem dJ6_getChars_ba4f3_44 : decode cJ6_getChars_ba4f3 44 = .ok (.iinc 5 (-1), 3) := by decide +kernel
theorem dJ6_getChars_ba4f3_47 : decode cJ6_getChars_ba4f3 47 = .ok (.iload 5, 2) := by decide +kernel
theorem dJ6_getChars_ba4f3_49 : decode cJ6_getChars_ba4f3 49 = .ok (.getstatic 83, 3) := by decide +kernel
theorem dJ6_getChars_ba4f3_52 : decode cJ6_getChars_ba4f3 52 = .ok (.iload 4, 2) := by decide +kernel
theorem dJ6_getChars_ba4f3_54 : decode cJ6_getChars_ba4f3 54 = .ok (.baload, 1) := by decide +kernel
theorem dJ6_getChars_ba4f3_55 : decode cJ6_getChars_ba4f3 55 = .ok (.bastore, 1) := by decide +kernel
theorem dJ6_getChars_ba4f3_56 : decode cJ6_getChars_ba4f3 56 = .ok (.aload_n 2, 1) := by decide +kernel
theorem dJ6_getChars_ba4f3_57 : decode cJ6_getChars_ba4f3 57 = .ok (.iinc 5 (-1), 3) := by decide +kernel
theorem dJ6_getChars_ba4f3_60 : decode cJ6_getChars_ba4f3 60 = .ok (.iload 5, 2) := by decide +kernel
theorem dJ6_getChars_ba4f3_62 : decode cJ6_getChars_ba4f3 62 = .ok (.getstatic 87, 3) := by decide +kernel
theorem dJ6_getChars_ba4f3_65 : decode cJ6_getChars_ba4f3 65 = .ok (.iload 4, 2) := by decide +kernel
theorem dJ6_getChars_ba4f3_67 : decode cJ6_getChars_ba4f3 67 = .ok (.baload, 1) := by decide +kernel
theorem dJ6_getChars_ba4f3_68 : decode cJ6_getChars_ba4f3 68 = .ok (.bastore, 1) := by decide +kernel
theorem dJ6_getChars_ba4f3_69 : decode cJ6_getChars_ba4f3 69 = .ok (.goto (-47), 3) := by decide +kernel
theorem dJ6_getChars_ba4f3_72 : decode cJ6_getChars_ba4f3 72 = .ok (.aload_n 2, 1) := by decide +kernel
theorem dJ6_getChars_ba4f3_73 : decode cJ6_getChars_ba4f3 73 = .ok (.iinc 5 (-1), 3) := by decide +kernel
theorem dJ6_getChars_ba4f3_76 : decode cJ6_getChars_ba4f3 76 = .ok (.iload 5, 2) := by decide +kernel
theorem dJ6_getChars_ba4f3_78 : decode cJ6_getChars_ba4f3 78 = .ok (.getstatic 83, 3) := by decide +kernel
theorem dJ6_getChars_ba4f3_81 : decode cJ6_getChars_ba4f3 81 = .ok (.iload_n 0, 1) := by decide +kernel
theorem dJ6_getChars_ba4f3_82 : decode cJ6_getChars_ba4f3 82 = .ok (.ineg, 1) := by decide +kernel
theorem dJ6_getChars_ba4f3_83 : decode cJ6_getChars_ba4f3 83 = .ok (.baload, 1) := by decide +kernel
theorem dJ6_getChars_ba4f3_84 : decode cJ6_getChars_ba4f3 84 = .ok (.bastore, 1) := by decide +kernel
theorem dJ6_getChars_ba4f3_85 : decode cJ6_getChars_ba4f3 85 = .ok (.iload_n 0, 1) := by decide +kernel
theorem dJ6_getChars_ba4f3_86 : decode cJ6_getChars_ba4f3 86 = .ok (.bipush (-9), 2) := by decide +kernel
theorem dJ6_getChars_ba4f3_88 : decode cJ6_getChars_ba4f3 88 = .ok (.if_icmp .ge 16, 3) := by decide +kernel
theorem dJ6_getChars_ba4f3_91 : decode cJ6_getChars_ba4f3 91 = .ok (.aload_n 2, 1) := by decide +kernel
theorem dJ6_getChars_ba4f3_92 : decode cJ6_getChars_ba4f3 92 = .ok (.iinc 5 (-1), 3) := by decide +kernel
theorem dJ6_getChars_ba4f3_95 : decode cJ6_getChars_ba4f3 95 = .ok (.iload 5, 2) := by decide +kernel
theorem dJ6_getChars_ba4f3_97 : decode cJ6_getChars_ba4f3 97 = .ok (.getstatic 87, 3) := by decide +kernel
theorem dJ6_getChars_ba4f3_100 : decode cJ6_getChars_ba4f3 100 = .ok (.iload_n 0, 1) := by decide +kernel
theorem dJ6_getChars_ba4f3_101 : decode cJ6_getChars_ba4f3 101 = .ok (.ineg, 1) := by decide +kernel
theorem dJ6_getChars_ba4f3_102 : decode cJ6_getChars_ba4f3 102 = .ok (.baload, 1) := by decide +kernel
theorem dJ6_getChars_ba4f3_103 : decode cJ6_getChars_ba4f3 103 = .ok (.bastore, 1) := by decide +kernel
theorem dJ6_getChars_ba4f3_104 : decode cJ6_getChars_ba4f3 104 = .ok (.iload 6, 2) := by decide +kernel
theorem dJ6_getChars_ba4f3_106 : decode cJ6_getChars_ba4f3 106 = .ok (.ifCond .eq 12, 3) := by decide +kernel
theorem dJ6_getChars_ba4f3_109 : decode cJ6_getChars_ba4f3 109 = .ok (.aload_n 2, 1) := by decide +kernel
theorem dJ6_getChars_ba4f3_110 : decode cJ6_getChars_ba4f3 110 = .ok (.iinc 5 (-1), 3) := by decide +kernel
theorem dJ6_getChars_ba4f3_113 : decode cJ6_getChars_ba4f3 113 = .ok (.iload 5, 2) := by decide +kernel
theorem dJ6_getChars_ba4f3_115 : decode cJ6_getChars_ba4f3 115 = .ok (.bipush 45, 2) := by decide +kernel
theorem dJ6_getChars_ba4f3_117 : decode cJ6_getChars_ba4f3 117 = .ok (.bastore, 1) := by decide +kernel
theorem dJ6_getChars_ba4f3_118 : decode cJ6_getChars_ba4f3 118 = .ok (.iload 5, 2) := by decide +kernel
theorem dJ6_getChars_ba4f3_120 : decode cJ6_getChars_ba4f3 120 = .ok (.ireturn, 1) := by decide +kernel
set_option maxHeartbeats 2000000 in
set_option maxRecDepth 20000 in
theorem c_gch {l : Launch} {V : VT} (v n p q m : Nat) (f : Nat → Int32) (hv : v < 10000) (hp : p = n + sb_dg v) (hm : p ≤ m ∧ m < 1000) : CMet l yJ6_getChars_ba4f3 (.code yJ6_getChars_ba4f3 cJ6_getChars_ba4f3 7 (some .int)) 1 0 0 V [.int (nI v), .int (nI p), .ref q] ([(q, .inl (V.2.2 0, m, .inl f))]) (fun w W1 => w = some (.int (nI n)) ∧ ∃ f2 : Nat → Int32, W1 = [(q, .inl (V.2.2 0, m, .inl f2))] ∧ (∀ j, j < n ∨ p ≤ j → f2 j = f j) ∧ (∀ i, i < sb_dg v → f2 (p - 1 - i) = sb_b (48 + v / 10 ^ i % 10)) ∧ (sb_Fit f → sb_Fit f2)) := by
  refine CMet_of (args := [pI (nI v), pI (nI p), pW (.ref q)]) (by decide +kernel) rfl (Nat.le_of_ble_eq_true rfl) (fun G hV hl C hR hH hN => ?_)
  subst hV
  subst hl
  have L : ∀ (fu w p9 : Nat) (g : Nat → Int32), w < fu → w < 10000 → p9 = n + sb_dg w → p9 ≤ m → (∀ g2 : Nat → Int32, (∀ j, j < n ∨ p9 ≤ j → g2 j = g j) → (∀ i, i < sb_dg w → g2 (p9 - 1 - i) = sb_b (48 + w / 10 ^ i % 10)) → (sb_Fit g → sb_Fit g2) → CW G 0 0 120 [] [.int (nI n)] [(q, .inl ((CGV G).2.2 0, m, .inl g2))]) → CW G 0 0 22 [some (pI (-nI w)), some (pI (nI p)), some (pW (.ref q)), none, none, some (pI (nI p9)), some (pI 0)] [] [(q, .inl ((CGV G).2.2 0, m, .inl g))] := by
    intro fu
    induction fu with
    | zero =>
      intro w p9 g h
      omega
    | succ fu ih =>
      intro w p9 g hwf hw hp9 hpm K
      have hd1 := (sb_dg_in w).1
      have e1 : -(-nI w) = nI w := Int32.neg_neg
      have ew : (nI w).toNatClampNeg = w := nI_clamp (by omega)
      refine cw_iload_n C dJ6_getChars_ba4f3_22 rfl rfl ?_
      refine cw_bipush (v := (-100 : Int32)) C dJ6_getChars_ba4f3_23 (by decide) ?_
      by_cases h100 : w < 100
      · refine cw_icmp_gt (tgt := 72) C dJ6_getChars_ba4f3_25 (by decide) (fun _ => ?_) (fun z => absurd (show -nI 100 < -nI w from (sb_nlt (by decide) (by omega)).mpr h100) z)
        refine cw_aload_n C dJ6_getChars_ba4f3_72 rfl rfl ?_
        refine cw_iinc (v := nI (p9 - 1)) C dJ6_getChars_ba4f3_73 rfl (sb_m1 (by omega)) (by decide) rfl ?_
        refine cw_iload C dJ6_getChars_ba4f3_76 rfl ?_
        refine cw_dig (i2 := 0) (nm := "DigitOnes") (fn := fun j => 48 + j % 10) (x := nI w) C (Or.inl ⟨rfl, rfl⟩) dJ6_getChars_ba4f3_78 (gw7 90 rfl rfl) (vp_in_nI h100 (by decide)) (fun t ht => ?_)
        refine cw_iload_n C dJ6_getChars_ba4f3_81 rfl rfl ?_
        refine cw_ineg C dJ6_getChars_ba4f3_82 ?_
        rw [e1]
        refine ht dJ6_getChars_ba4f3_83 ?_
        rw [ew]
        refine cw_bast (j := 0) (n := m) (f := g) C dJ6_getChars_ba4f3_84 rfl (vp_in_nI (by omega) (by omega)) ?_
        rw [nI_clamp (by omega), show vp_nar .byte (nI (48 + w % 10)) = sb_b (48 + w % 10) from gch_nar (by omega)]
        refine cw_iload_n C dJ6_getChars_ba4f3_85 rfl rfl ?_
        refine cw_bipush (v := (-9 : Int32)) C dJ6_getChars_ba4f3_86 (by decide) ?_
        by_cases h9 : w < 10
        · have hd : sb_dg w = 1 := if_pos h9
          refine cw_icmp_ge (tgt := 104) C dJ6_getChars_ba4f3_88 (by decide) (fun _ => ?_) (fun z => absurd (show -nI 9 ≤ -nI w from (sb_nle (by decide) (by omega)).mpr (by omega)) z)
          refine cw_iload C dJ6_getChars_ba4f3_104 rfl ?_
          refine cw_if_eq (tgt := 118) C dJ6_getChars_ba4f3_106 (by decide) (fun _ => ?_) (fun z => absurd rfl z)
          refine cw_iload C dJ6_getChars_ba4f3_118 rfl ?_
          rw [show p9 - 1 = n by omega]
          refine gch_end (ls' := []) (Or.inr trivial) (K _ (fun j hj => pk_un (by omega)) (fun i hi => ?_) (fun hf => sb_fitU hf (sb_fitB _)))
          obtain rfl : i = 0 := by omega
          rw [show p9 - 1 - 0 = n by omega, pk_us, Nat.pow_zero, Nat.div_one]
        · have hd : sb_dg w = 2 := by rw [sb_dg, if_neg h9, if_pos h100]
          have d2 : w / 10 % 10 = w / 10 := by omega
          refine cw_icmp_ge (tgt := 104) C dJ6_getChars_ba4f3_88 (by decide) (fun z => by have := (sb_nle (by decide) (by omega)).mp (show -nI 9 ≤ -nI w from z); omega) (fun _ => ?_)
          refine cw_aload_n C dJ6_getChars_ba4f3_91 rfl rfl ?_
          refine cw_iinc (v := nI (p9 - 1 - 1)) C dJ6_getChars_ba4f3_92 rfl (sb_m1 (by omega)) (by decide) rfl ?_
          refine cw_iload C dJ6_getChars_ba4f3_95 rfl ?_
          refine cw_dig (i2 := 0) (nm := "DigitTens") (fn := fun j => 48 + j / 10) (x := nI w) C (Or.inr ⟨rfl, rfl⟩) dJ6_getChars_ba4f3_97 (gw7 92 rfl rfl) (vp_in_nI h100 (by decide)) (fun t ht => ?_)
          refine cw_iload_n C dJ6_getChars_ba4f3_100 rfl rfl ?_
          refine cw_ineg C dJ6_getChars_ba4f3_101 ?_
          rw [e1]
          refine ht dJ6_getChars_ba4f3_102 ?_
          rw [ew]
          refine cw_bast (j := 0) (n := m) (f := upd g (p9 - 1) (sb_b (48 + w % 10))) C dJ6_getChars_ba4f3_103 rfl (vp_in_nI (by omega) (by omega)) ?_
          rw [nI_clamp (by omega), show vp_nar .byte (nI (48 + w / 10)) = sb_b (48 + w / 10) from gch_nar (by omega)]
          refine cw_iload C dJ6_getChars_ba4f3_104 rfl ?_
          refine cw_if_eq (tgt := 118) C dJ6_getChars_ba4f3_106 (by decide) (fun _ => ?_) (fun z => absurd rfl z)
          refine cw_iload C dJ6_getChars_ba4f3_118 rfl ?_
          rw [show nI (p9 - 1 - 1) = nI n from congrArg nI (by omega)]
          refine gch_end (ls' := []) (Or.inr trivial) (K _ (fun j hj => by rw [pk_un (by omega), pk_un (by omega)]) (fun i hi => ?_) (fun hf => sb_fitU (sb_fitU hf (sb_fitB _)) (sb_fitB _)))
          obtain rfl | rfl : i = 0 ∨ i = 1 := by omega
          · rw [Nat.sub_zero, pk_un (by omega), pk_us, Nat.pow_zero, Nat.div_one]
          · rw [pk_us, Nat.pow_one, d2]
      · refine cw_icmp_gt (tgt := 72) C dJ6_getChars_ba4f3_25 (by decide) (fun z => absurd ((sb_nlt (by decide) (by omega)).mp (show -nI 100 < -nI w from z)) h100) (fun _ => ?_)
        have hdd := sb_dg100 (w := w) (by omega) (by omega)
        have hd2 := (sb_dg_in (w / 100)).1
        have er : (nI (w % 100)).toNatClampNeg = w % 100 := nI_clamp (by omega)
        refine cw_iload_n C dJ6_getChars_ba4f3_28 rfl rfl ?_
        refine cw_bipush (v := (100 : Int32)) C dJ6_getChars_ba4f3_29 (by decide) ?_
        refine cw_idiv C dJ6_getChars_ba4f3_31 (by decide) ?_
        rw [show (-nI w) / (100 : Int32) = -nI (w / 100) from sb_ndiv (by omega)]
        refine cw_istore_n C dJ6_getChars_ba4f3_32 rfl (by decide) rfl ?_
        refine cw_iload_n C dJ6_getChars_ba4f3_33 rfl rfl ?_
        refine cw_bipush (v := (100 : Int32)) C dJ6_getChars_ba4f3_34 (by decide) ?_
        refine cw_imul C dJ6_getChars_ba4f3_36 ?_
        refine cw_iload_n C dJ6_getChars_ba4f3_37 rfl rfl ?_
        refine cw_isub C dJ6_getChars_ba4f3_38 ?_
        rw [show -nI (w / 100) * (100 : Int32) - -nI w = nI (w % 100) from sb_nrem (by omega)]
        refine cw_istore C dJ6_getChars_ba4f3_39 (by decide) rfl ?_
        refine cw_iload_n C dJ6_getChars_ba4f3_41 rfl rfl ?_
        refine cw_istore_n C dJ6_getChars_ba4f3_42 rfl (by decide) rfl ?_
        refine cw_aload_n C dJ6_getChars_ba4f3_43 rfl rfl ?_
        refine cw_iinc (v := nI (p9 - 1)) C dJ6_getChars_ba4f3_44 rfl (sb_m1 (by omega)) (by decide) rfl ?_
        refine cw_iload C dJ6_getChars_ba4f3_47 rfl ?_
        refine cw_dig (i2 := 0) (nm := "DigitOnes") (fn := fun j => 48 + j % 10) (x := nI (w % 100)) C (Or.inl ⟨rfl, rfl⟩) dJ6_getChars_ba4f3_49 (gw7 90 rfl rfl) (vp_in_nI (Nat.mod_lt _ (by decide)) (by decide)) (fun t ht => ?_)
        refine cw_iload C dJ6_getChars_ba4f3_52 rfl ?_
        refine ht dJ6_getChars_ba4f3_54 ?_
        rw [er, show 48 + w % 100 % 10 = 48 + w % 10 by omega]
        refine cw_bast (j := 0) (n := m) (f := g) C dJ6_getChars_ba4f3_55 rfl (vp_in_nI (by omega) (by omega)) ?_
        rw [nI_clamp (by omega), show vp_nar .byte (nI (48 + w % 10)) = sb_b (48 + w % 10) from gch_nar (by omega)]
        refine cw_aload_n C dJ6_getChars_ba4f3_56 rfl rfl ?_
        refine cw_iinc (v := nI (p9 - 1 - 1)) C dJ6_getChars_ba4f3_57 rfl (sb_m1 (by omega)) (by decide) rfl ?_
        refine cw_iload C dJ6_getChars_ba4f3_60 rfl ?_
        refine cw_dig (i2 := 0) (nm := "DigitTens") (fn := fun j => 48 + j / 10) (x := nI (w % 100)) C (Or.inr ⟨rfl, rfl⟩) dJ6_getChars_ba4f3_62 (gw7 92 rfl rfl) (vp_in_nI (Nat.mod_lt _ (by decide)) (by decide)) (fun t2 ht2 => ?_)
        refine cw_iload C dJ6_getChars_ba4f3_65 rfl ?_
        refine ht2 dJ6_getChars_ba4f3_67 ?_
        rw [er, show 48 + w % 100 / 10 = 48 + w / 10 % 10 by omega]
        refine cw_bast (j := 0) (n := m) (f := upd g (p9 - 1) (sb_b (48 + w % 10))) C dJ6_getChars_ba4f3_68 rfl (vp_in_nI (by omega) (by omega)) ?_
        rw [nI_clamp (by omega), show vp_nar .byte (nI (48 + w / 10 % 10)) = sb_b (48 + w / 10 % 10) from gch_nar (by omega)]
        refine cw_goto (tgt := 22) C dJ6_getChars_ba4f3_69 (by decide) ?_
        refine cw_none (i := 3) (cw_none (i := 4) ?_)
        refine ih (w / 100) (p9 - 1 - 1) _ (by omega) (by omega) (by omega) (by omega) (fun a' h1 h2 h3 => ?_)
        refine K a' (fun j hj => by rw [h1 j (by omega), pk_un (by omega), pk_un (by omega)]) (fun i hi => ?_) (fun hf => h3 (sb_fitU (sb_fitU hf (sb_fitB _)) (sb_fitB _)))
        match i, hi with
        | 0, _ => rw [Nat.sub_zero, h1 _ (by omega), pk_un (by omega), pk_us, Nat.pow_zero, Nat.div_one]
        | 1, _ => rw [h1 _ (by omega), pk_us, Nat.pow_one]
        | i + 2, hi =>
          rw [show p9 - 1 - (i + 2) = p9 - 1 - 1 - 1 - i by omega, h2 i (by omega), Nat.div_div_eq_div_mul, show 100 * 10 ^ i = 10 ^ (i + 2) by rw [show i + 2 = i + 1 + 1 from rfl, Nat.pow_succ, Nat.pow_succ]; omega]
  refine cw_iload_n C dJ6_getChars_ba4f3_0 rfl rfl ?_
  refine cw_istore C dJ6_getChars_ba4f3_1 (by decide) rfl ?_
  refine cw_iload_n C dJ6_getChars_ba4f3_3 rfl rfl ?_
  refine cw_if_ge (tgt := 11) C dJ6_getChars_ba4f3_4 (by decide) (fun _ => ?_) (fun z => absurd (nI_pos' (by omega)) z)
  refine cw_iconst (v := (0 : Int32)) C dJ6_getChars_ba4f3_11 (by decide) ?_
  refine cw_istore C dJ6_getChars_ba4f3_12 (by decide) rfl ?_
  refine cw_iload C dJ6_getChars_ba4f3_14 rfl ?_
  refine cw_if_ne (tgt := 22) C dJ6_getChars_ba4f3_16 (by decide) (fun z => absurd rfl z) (fun _ => ?_)
  refine cw_iload_n C dJ6_getChars_ba4f3_19 rfl rfl ?_
  refine cw_ineg C dJ6_getChars_ba4f3_20 ?_
  refine cw_istore_n C dJ6_getChars_ba4f3_21 rfl (by decide) rfl ?_
  refine L (v + 1) v p f (by omega) hv hp hm.1 (fun g2 h1 h2 h3 => ?_)
  exact cw_iret C hR dJ6_getChars_ba4f3_120 rfl rfl ⟨rfl, g2, rfl, h1, h2, h3⟩
theorem dJ5_append_c97b9_0 : decode cJ5_append_c97b9 0 = .ok (.aload_n 0, 1) := by decide +kernel
theorem dJ5_append_c97b9_1 : decode cJ5_append_c97b9 1 = .ok (.getfield 79, 3) := by decide +kernel
theorem dJ5_append_c97b9_4 : decode cJ5_append_c97b9 4 = .ok (.istore_n 2, 1) := by decide +kernel
theorem dJ5_append_c97b9_5 : decode cJ5_append_c97b9 5 = .ok (.iload_n 2, 1) := by decide +kernel
theorem dJ5_append_c97b9_6 : decode cJ5_append_c97b9 6 = .ok (.iload_n 1, 1) := by decide +kernel
theorem dJ5_append_c97b9_7 : decode cJ5_append_c97b9 7 = .ok (.invokestatic 245, 3) := by decide +kernel
theorem dJ5_append_c97b9_10 : decode cJ5_append_c97b9 10 = .ok (.iadd, 1) := by decide +kernel
theorem dJ5_append_c97b9_11 : decode cJ5_append_c97b9 11 = .ok (.istore_n 3, 1) := by decide +kernel
theorem dJ5_append_c97b9_12 : decode cJ5_append_c97b9 12 = .ok (.aload_n 0, 1) := by decide +kernel
theorem dJ5_append_c97b9_13 : decode cJ5_append_c97b9 13 = .ok (.iload_n 3, 1) := by decide +kernel
theorem dJ5_append_c97b9_14 : decode cJ5_append_c97b9 14 = .ok (.invokevirtual 100, 3) := by decide +kernel
theorem dJ5_append_c97b9_17 : decode cJ5_append_c97b9 17 = .ok (.aload_n 0, 1) := by decide +kernel
theorem dJ5_append_c97b9_18 : decode cJ5_append_c97b9 18 = .ok (.invokevirtual 83, 3) := by decide +kernel
theorem dJ5_append_c97b9_21 : decode cJ5_append_c97b9 21 = .ok (.ifCond .eq 16, 3) := by decide +kernel
theorem dJ5_append_c97b9_24 : decode cJ5_append_c97b9 24 = .ok (.iload_n 1, 1) := by decide +kernel
theorem dJ5_append_c97b9_25 : decode cJ5_append_c97b9 25 = .ok (.iload_n 3, 1) := by decide +kernel
theorem dJ5_append_c97b9_26 : decode cJ5_append_c97b9 26 = .ok (.aload_n 0, 1) := by decide +kernel
theorem dJ5_append_c97b9_27 : decode cJ5_append_c97b9 27 = .ok (.getfield 15, 3) := by decide +kernel
theorem dJ5_append_c97b9_30 : decode cJ5_append_c97b9 30 = .ok (.invokestatic 248, 3) := by decide +kernel
theorem dJ5_append_c97b9_33 : decode cJ5_append_c97b9 33 = .ok (.pop, 1) := by decide +kernel
theorem dJ5_append_c97b9_34 : decode cJ5_append_c97b9 34 = .ok (.goto 14, 3) := by decide +kernel
theorem dJ5_append_c97b9_37 : decode cJ5_append_c97b9 37 = .ok (.iload_n 1, 1) := by decide +kernel
theorem dJ5_append_c97b9_38 : decode cJ5_append_c97b9 38 = .ok (.iload_n 2, 1) := by decide +kernel
theorem dJ5_append_c97b9_39 : decode cJ5_append_c97b9 39 = .ok (.iload_n 3, 1) := by decide +kernel
theorem dJ5_append_c97b9_40 : decode cJ5_append_c97b9 40 = .ok (.aload_n 0, 1) := by decide +kernel
theorem dJ5_append_c97b9_41 : decode cJ5_append_c97b9 41 = .ok (.getfield 15, 3) := by decide +kernel
theorem dJ5_append_c97b9_44 : decode cJ5_append_c97b9 44 = .ok (.invokestatic 251, 3) := by decide +kernel
theorem dJ5_append_c97b9_47 : decode cJ5_append_c97b9 47 = .ok (.pop, 1) := by decide +kernel
theorem dJ5_append_c97b9_48 : decode cJ5_append_c97b9 48 = .ok (.aload_n 0, 1) := by decide +kernel
theorem dJ5_append_c97b9_49 : decode cJ5_append_c97b9 49 = .ok (.iload_n 3, 1) := by decide +kernel
theorem dJ5_append_c97b9_50 : decode cJ5_append_c97b9 50 = .ok (.putfield 79, 3) := by decide +kernel
theorem dJ5_append_c97b9_53 : decode cJ5_append_c97b9 53 = .ok (.aload_n 0, 1) := by decide +kernel
theorem dJ5_append_c97b9_54 : decode cJ5_append_c97b9 54 = .ok (.areturn, 1) := by decide +kernel
set_option maxHeartbeats 2000000 in
set_option maxRecDepth 20000 in
theorem c_api5 {l : Launch} {V : VT} (x : TX) (h q m : Nat) (f : Nat → Int32) (ml : Int32) (v : Nat) (hx : (x.1 ≤ m ∧ 16 ≤ m ∧ m ≤ 60 ∧ sb_Fit f ∧ sb_Lat x.2 x.1 f)) (hv : v < 10000) (hl : x.1 + sb_dg v ≤ 27) : CMet l yJ5_append_c97b9 (.code yJ5_append_c97b9 cJ5_append_c97b9 4 (some (.object "java/lang/AbstractStringBuilder"))) 4 1 60 V [.ref h, .int (nI v)] (sbW V h q m f ml (nI x.1)) (fun w W1 => w = some (.ref h) ∧ SBq V h (txN x v) (sbW V h q m f ml (nI x.1)) W1) := by
  refine CMet_of (args := [pW (.ref h), pI (nI v)]) (by decide +kernel) rfl (Nat.le_of_ble_eq_true rfl) (fun G hV hl C hR hH hN => ?_)
  subst hV
  subst hl
  have g := dg_le hv
  refine cw_aload_n C dJ5_append_c97b9_0 rfl rfl ?_
  refine cw_get (j := 0) (f := 3) (ci := 1) (K := RJ4) (T := TJ4) (N := 4) (fs := [.ref q, .int 0, .int ml, .int (nI x.1)]) C dJ5_append_c97b9_1 inJ4 rfl rfl (by decide) (gw1 197 rfl rfl) (Or.inl rfl) rfl ?_
  refine cw_istore_n C dJ5_append_c97b9_4 rfl (by decide) rfl ?_
  refine cw_iload_n C dJ5_append_c97b9_5 rfl rfl ?_
  refine cw_iload_n C dJ5_append_c97b9_6 rfl rfl ?_
  refine cw_callS (h := 1) (mc := 0) (ms := 0) (n := 1) (rc' := 1) (rs' := 60) (as := [.int (nI v)]) (rest := [.int (nI x.1)]) (W0 := []) (Wr := (sbW (CGV G) h q m f ml (nI x.1))) C (CHR_le (by decide) hH) dJ5_append_c97b9_7 (gw7 84 rfl rfl) ms_J6_stringSize_0f7a4 (c_siz v hv) (List.Perm.refl _) rfl rfl (Nat.le_of_ble_eq_true rfl) (by decide) (by omega) (by omega) (fun v9 W9 h9 => ?_)
  obtain ⟨rfl, rfl⟩ := h9
  refine cw_iadd C dJ5_append_c97b9_10 ?_
  rw [nI_add]
  refine cw_istore_n C dJ5_append_c97b9_11 rfl (by decide) rfl ?_
  refine cw_aload_n C dJ5_append_c97b9_12 rfl rfl ?_
  refine cw_iload_n C dJ5_append_c97b9_13 rfl rfl ?_
  refine cw_callU (h := 3) (mc := 1) (ms := 60) (n := 1) (rc' := 0) (rs' := 0) (as := [.int (nI (x.1 + sb_dg v))]) (rest := []) (fs := [.ref q, .int 0, .int ml, .int (nI x.1)]) (W0 := (sbW (CGV G) h q m f ml (nI x.1))) (Wr := []) C (CHR_le (by decide) hH) dJ5_append_c97b9_14 (gw6 212 rfl rfl) (gw10 105 rfl rfl) (Or.inr List.mem_cons_self) (gw6 214 rfl rfl) (gw1 7 rfl rfl) (gw6 215 rfl rfl) ⟨by decide +kernel, by decide +kernel⟩ (by decide +kernel) (c_ens h q m f ml (nI x.1) (x.1 + sb_dg v) (by omega) (by omega) hx.2.2.2.1) rfl (List.Perm.refl _) rfl rfl (Nat.le_of_ble_eq_true rfl) (by decide) (by omega) (by omega) (fun v9 W9 h9 => ?_)
  obtain ⟨rfl, q2, m2, f2, J9, rfl, b1, b2, b3, b4, b5, b6⟩ := h9
  rw [List.append_assoc]
  refine cw_aload_n C dJ5_append_c97b9_17 rfl rfl ?_
  refine cw_callU (h := 1) (mc := 0) (ms := 0) (n := 0) (rc' := 0) (rs' := 0) (as := []) (rest := []) (fs := [.ref q2, .int 0, .int ml, .int (nI x.1)]) (W0 := (sbW (CGV G) h q2 m2 f2 ml (nI x.1))) (Wr := (J9 ++ [])) C (CHR_le (by decide) hH) dJ5_append_c97b9_18 (gw7 3 rfl rfl) (gw7 5 rfl rfl) (Or.inl (gw7 6 rfl rfl)) (gw7 4 rfl rfl) (gw1 7 rfl rfl) (gw7 7 rfl rfl) ⟨by decide +kernel, by decide +kernel⟩ (by decide +kernel) (c_isL h q2 m2 f2 ml (nI x.1)) rfl (List.Perm.refl _) rfl rfl (Nat.le_of_ble_eq_true rfl) (by decide) (by omega) (by omega) (fun v9 W9 h9 => ?_)
  obtain ⟨rfl, rfl⟩ := h9
  refine cw_if_eq (tgt := 37) C dJ5_append_c97b9_21 (by decide) (fun z => absurd z (by decide)) (fun _ => ?_)
  refine cw_iload_n C dJ5_append_c97b9_24 rfl rfl ?_
  refine cw_iload_n C dJ5_append_c97b9_25 rfl rfl ?_
  refine cw_aload_n C dJ5_append_c97b9_26 rfl rfl ?_
  refine cw_get (j := 0) (f := 0) (ci := 1) (K := RJ4) (T := TJ4) (N := 4) (fs := [.ref q2, .int 0, .int ml, .int (nI x.1)]) C dJ5_append_c97b9_27 inJ4 rfl rfl (by decide) (gw1 193 rfl rfl) (Or.inl rfl) rfl ?_
  refine cw_callS (h := 1) (mc := 0) (ms := 0) (n := 3) (rc' := 0) (rs' := 0) (as := [.int (nI v), .int (nI (x.1 + sb_dg v)), .ref q2]) (rest := []) (W0 := [(q2, .inl ((CGV G).2.2 0, m2, .inl f2))]) (Wr := ((h, .inr (1, [.ref q2, .int 0, .int ml, .int (nI x.1)])) :: (J9 ++ []))) C (CHR_le (by decide) hH) dJ5_append_c97b9_30 (gw7 87 rfl rfl) ms_J6_getChars_ba4f3 (c_gch v x.1 (x.1 + sb_dg v) q2 m2 f2 hv rfl (by omega)) (perm_pick (j := 1) rfl) rfl rfl (Nat.le_of_ble_eq_true rfl) (by decide) (by omega) (by omega) (fun v9 W9 h9 => ?_)
  obtain ⟨rfl, f3, rfl, y1, y2, y3⟩ := h9
  refine cw_perm (W' := sbW (CGV G) h q2 m2 f3 ml (nI x.1) ++ (J9 ++ [])) (perm_pick (j := 1) rfl) ?_
  refine cw_pop C dJ5_append_c97b9_33 rfl ?_
  refine cw_goto (tgt := 48) C dJ5_append_c97b9_34 (by decide) ?_
  refine cw_aload_n C dJ5_append_c97b9_48 rfl rfl ?_
  refine cw_iload_n C dJ5_append_c97b9_49 rfl rfl ?_
  refine cw_put (j := 0) (f := 3) (ci := 1) (K := RJ4) (T := TJ4) (N := 4) (fs := [.ref q2, .int 0, .int ml, .int (nI x.1)]) (ty := .int) C dJ5_append_c97b9_50 inJ4 tyJ4 tyJ4_ok nmJ4 rfl rfl (by decide) (gw1 197 rfl rfl) (Or.inl rfl) (Or.inl rfl) (by decide +kernel) rfl rfl (Nat.le_of_ble_eq_true rfl) ?_
  refine cw_aload_n C dJ5_append_c97b9_53 rfl rfl ?_
  refine cw_aret C hR dJ5_append_c97b9_54 (Or.inl ⟨_, rfl⟩) rfl ⟨rfl, ⟨q2, m2, f3, ml, J9 ++ [], rfl, b1, by omega, b3, y3 b5, sb_latPut (s := sb_dec v) (w := sb_dg v) (a' := f3) hx.2.2.2.2 (fun j hj => (y1 j (Or.inl hj)).trans (b4 j (by omega))) (fun i hi => ?_)⟩, sub_ens b6⟩
  have h9 := y2 (sb_dg v - 1 - i) (by omega)
  rw [show x.1 + sb_dg v - 1 - (sb_dg v - 1 - i) = x.1 + i by omega] at h9
  exact ⟨by unfold sb_dec; omega, h9⟩
theorem dJ4_append_bf812_0 : decode cJ4_append_bf812 0 = .ok (.aload_n 0, 1) := by decide +kernel
theorem dJ4_append_bf812_1 : decode cJ4_append_bf812 1 = .ok (.iload_n 1, 1) := by decide +kernel
theorem dJ4_append_bf812_2 : decode cJ4_append_bf812 2 = .ok (.invokespecial 53, 3) := by decide +kernel
theorem dJ4_append_bf812_5 : decode cJ4_append_bf812 5 = .ok (.pop, 1) := by decide +kernel
theorem dJ4_append_bf812_6 : decode cJ4_append_bf812 6 = .ok (.aload_n 0, 1) := by decide +kernel
theorem dJ4_append_bf812_7 : decode cJ4_append_bf812 7 = .ok (.areturn, 1) := by decide +kernel
set_option maxHeartbeats 2000000 in
set_option maxRecDepth 20000 in
theorem c_api4 {l : Launch} {V : VT} (x : TX) (h q m : Nat) (f : Nat → Int32) (ml : Int32) (v : Nat) (hx : (x.1 ≤ m ∧ 16 ≤ m ∧ m ≤ 60 ∧ sb_Fit f ∧ sb_Lat x.2 x.1 f)) (hv : v < 10000) (hl : x.1 + sb_dg v ≤ 27) : CMet l yJ4_append_bf812 (.code yJ4_append_bf812 cJ4_append_bf812 2 (some (.object "java/lang/StringBuilder"))) 5 1 60 V [.ref h, .int (nI v)] (sbW V h q m f ml (nI x.1)) (fun w W1 => w = some (.ref h) ∧ SBq V h (txN x v) (sbW V h q m f ml (nI x.1)) W1) := by
  refine CMet_of (args := [pW (.ref h), pI (nI v)]) (by decide +kernel) rfl (Nat.le_of_ble_eq_true rfl) (fun G hV hl C hR hH hN => ?_)
  subst hV
  subst hl
  refine cw_aload_n C dJ4_append_bf812_0 rfl rfl ?_
  refine cw_iload_n C dJ4_append_bf812_1 rfl rfl ?_
  refine cw_callSU (h := 4) (mc := 1) (ms := 60) (n := 1) (rc' := 0) (rs' := 0) (as := [.int (nI v)]) (rest := []) (fs := [.ref q, .int 0, .int ml, .int (nI x.1)]) (W0 := (sbW (CGV G) h q m f ml (nI x.1))) (Wr := []) C (CHR_le (by decide) hH) dJ4_append_bf812_2 (gw7 81 rfl rfl) (gw10 110 rfl rfl) (gw1 206 rfl rfl) (gw7 82 rfl rfl) (gw1 7 rfl rfl) (gw7 83 rfl rfl) (by decide +kernel) (by decide +kernel) (c_api5 x h q m f ml v hx hv hl) rfl (List.Perm.refl _) rfl rfl (Nat.le_of_ble_eq_true rfl) (by decide) (by omega) (by omega) (fun v9 W9 h9 => ?_)
  obtain ⟨rfl, h9⟩ := h9
  refine cw_pop C dJ4_append_bf812_5 rfl ?_
  refine cw_aload_n C dJ4_append_bf812_6 rfl rfl ?_
  exact cw_aret C hR dJ4_append_bf812_7 (Or.inl ⟨_, rfl⟩) rfl ⟨rfl, by rw [List.append_nil]; exact h9⟩
