theorem dX9_own_0 : decode cX9_own 0 = .ok (.aload_n 0, 1) := by decide +kernel
theorem dX9_own_1 : decode cX9_own 1 = .ok (.iconst 0, 1) := by decide +kernel
theorem dX9_own_2 : decode cX9_own 2 = .ok (.putfield 186, 3) := by decide +kernel
theorem dX9_own_5 : decode cX9_own 5 = .ok (.iconst 0, 1) := by decide +kernel
theorem dX9_own_6 : decode cX9_own 6 = .ok (.istore_n 2, 1) := by decide +kernel
theorem dX9_own_7 : decode cX9_own 7 = .ok (.iload_n 2, 1) := by decide +kernel
theorem dX9_own_8 : decode cX9_own 8 = .ok (.aload_n 0, 1) := by decide +kernel
theorem dX9_own_9 : decode cX9_own 9 = .ok (.getfield 7, 3) := by decide +kernel
theorem dX9_own_12 : decode cX9_own 12 = .ok (.iconst 0, 1) := by decide +kernel
theorem dX9_own_13 : decode cX9_own 13 = .ok (.iaload, 1) := by decide +kernel
theorem dX9_own_14 : decode cX9_own 14 = .ok (.if_icmp .ge 49, 3) := by decide +kernel
theorem dX9_own_17 : decode cX9_own 17 = .ok (.aload_n 0, 1) := by decide +kernel
theorem dX9_own_18 : decode cX9_own 18 = .ok (.getfield 47, 3) := by decide +kernel
theorem dX9_own_21 : decode cX9_own 21 = .ok (.iload_n 2, 1) := by decide +kernel
theorem dX9_own_22 : decode cX9_own 22 = .ok (.iaload, 1) := by decide +kernel
theorem dX9_own_23 : decode cX9_own 23 = .ok (.iload_n 1, 1) := by decide +kernel
theorem dX9_own_24 : decode cX9_own 24 = .ok (.if_icmp .ne 33, 3) := by decide +kernel
theorem dX9_own_27 : decode cX9_own 27 = .ok (.aload_n 0, 1) := by decide +kernel
theorem dX9_own_28 : decode cX9_own 28 = .ok (.aload_n 0, 1) := by decide +kernel
theorem dX9_own_29 : decode cX9_own 29 = .ok (.iload_n 1, 1) := by decide +kernel
theorem dX9_own_30 : decode cX9_own 30 = .ok (.invokevirtual 131, 3) := by decide +kernel
theorem dX9_own_33 : decode cX9_own 33 = .ok (.aload_n 0, 1) := by decide +kernel
theorem dX9_own_34 : decode cX9_own 34 = .ok (.iload_n 2, 1) := by decide +kernel
theorem dX9_own_35 : decode cX9_own 35 = .ok (.invokevirtual 131, 3) := by decide +kernel
theorem dX9_own_38 : decode cX9_own 38 = .ok (.invokestatic 156, 3) := by decide +kernel
theorem dX9_own_41 : decode cX9_own 41 = .ok (.aload_n 0, 1) := by decide +kernel
theorem dX9_own_42 : decode cX9_own 42 = .ok (.iload_n 1, 1) := by decide +kernel
theorem dX9_own_43 : decode cX9_own 43 = .ok (.invokevirtual 134, 3) := by decide +kernel
theorem dX9_own_46 : decode cX9_own 46 = .ok (.aload_n 0, 1) := by decide +kernel
theorem dX9_own_47 : decode cX9_own 47 = .ok (.iload_n 2, 1) := by decide +kernel
theorem dX9_own_48 : decode cX9_own 48 = .ok (.invokevirtual 134, 3) := by decide +kernel
theorem dX9_own_51 : decode cX9_own 51 = .ok (.invokestatic 159, 3) := by decide +kernel
theorem dX9_own_54 : decode cX9_own 54 = .ok (.invokevirtual 189, 3) := by decide +kernel
theorem dX9_own_57 : decode cX9_own 57 = .ok (.iinc 2 1, 3) := by decide +kernel
theorem dX9_own_60 : decode cX9_own 60 = .ok (.goto (-53), 3) := by decide +kernel
theorem dX9_own_63 : decode cX9_own 63 = .ok (.aload_n 0, 1) := by decide +kernel
theorem dX9_own_64 : decode cX9_own 64 = .ok (.iload_n 1, 1) := by decide +kernel
theorem dX9_own_65 : decode cX9_own 65 = .ok (.invokevirtual 134, 3) := by decide +kernel
theorem dX9_own_68 : decode cX9_own 68 = .ok (.aload_n 0, 1) := by decide +kernel
theorem dX9_own_69 : decode cX9_own 69 = .ok (.iload_n 1, 1) := by decide +kernel
theorem dX9_own_70 : decode cX9_own 70 = .ok (.invokevirtual 131, 3) := by decide +kernel
theorem dX9_own_73 : decode cX9_own 73 = .ok (.isub, 1) := by decide +kernel
theorem dX9_own_74 : decode cX9_own 74 = .ok (.aload_n 0, 1) := by decide +kernel
theorem dX9_own_75 : decode cX9_own 75 = .ok (.invokevirtual 193, 3) := by decide +kernel
theorem dX9_own_78 : decode cX9_own 78 = .ok (.isub, 1) := by decide +kernel
theorem dX9_own_79 : decode cX9_own 79 = .ok (.ireturn, 1) := by decide +kernel
set_option maxRecDepth 100000 in
set_option maxHeartbeats 4000000 in
theorem w9_own_b7_ok {G : GT} {P : Int32 → Mem → Prop} {X : String → Mem → Prop} (C : PCx G cX9_own 3 RX9) (hRt : PRt G (some .int) (qI P) X) (hHR : HR G (2)) (hnT : NoT G) {μ : Mem} {l1 : Int32} {l2 : Int32} (hk : w9_own_b7 P μ l1 l2) : PW G 0 0 7 [some (pR 50 0), some (pI l1), some (pI l2)] [] μ := by
  refine hk (fun (μ : Mem) (l1 : Int32) (l2 : Int32) => PW G 0 0 7 [some (pR 50 0), some (pI l1), some (pI l2)] [] μ) (fun (μ : Mem) l1 l2 hk => ?_)
  have hR7 : ∀ (μ : Mem) (l1 : Int32) (l2 : Int32), PW G 0 0 7 [some (pR 50 0), some (pI l1), some (pI l2)] [] μ → PW G 0 0 7 [some (pR 50 0), some (pI l1), some (pI l2)] [] μ := fun _ _ _ h => h
  unfold w9_own_b7_body at hk
  refine px_iload_n (i := 2) C dX9_own_7 rfl rfl ?_
  refine px_aload_n (i := 0) C dX9_own_8 rfl rfl ?_
  refine px_getr C dX9_own_9 fl_RX9_7 rfl rfl rfl ?_
  refine px_iconst (v := (0 : Int32)) C dX9_own_12 rfl ?_
  obtain ⟨o2, hk⟩ := hk
  refine px_iald 3264 C dX9_own_13 rfl rfl rfl rfl o2 ?_
  refine px_icmp_ge (tgt := 63) C dX9_own_14 (by decide) (fun c20 => ?_) (fun c20 => ?_)
  · replace hk := hk.1 c20
    refine px_aload_n (i := 0) C dX9_own_63 rfl rfl ?_
    refine px_iload_n (i := 1) C dX9_own_64 rfl rfl ?_
    refine px_callVi (h := 1) (rc' := 0) (rs' := 0) C (HR_le hHR (Nat.le_of_ble_eq_true rfl)) hRt hnT dX9_own_65 (gw9 26 rfl rfl) mv_X9_end (w9_end_ok (PCx_l C) (PCx_I C) hk) rfl rfl rfl rfl rfl (Nat.le_of_ble_eq_true rfl) (Nat.le_of_ble_eq_true rfl) (Nat.le_of_ble_eq_true rfl) (Nat.le_of_ble_eq_true rfl) ?_
    intro r4 μ3 hk
    refine px_aload_n (i := 0) C dX9_own_68 rfl rfl ?_
    refine px_iload_n (i := 1) C dX9_own_69 rfl rfl ?_
    refine px_callVi (h := 1) (rc' := 0) (rs' := 0) C (HR_le hHR (Nat.le_of_ble_eq_true rfl)) hRt hnT dX9_own_70 (gw9 22 rfl rfl) mv_X9_begin (w9_begin_ok (PCx_l C) (PCx_I C) hk) rfl rfl rfl rfl rfl (Nat.le_of_ble_eq_true rfl) (Nat.le_of_ble_eq_true rfl) (Nat.le_of_ble_eq_true rfl) (Nat.le_of_ble_eq_true rfl) ?_
    intro r6 μ5 hk
    refine px_isub C dX9_own_73 ?_
    refine px_aload_n (i := 0) C dX9_own_74 rfl rfl ?_
    refine px_callVi (h := 1) (rc' := 0) (rs' := 0) C (HR_le hHR (Nat.le_of_ble_eq_true rfl)) hRt hnT dX9_own_75 (gw9 176 rfl rfl) mv_X9_covered (w9_covered_ok (PCx_l C) (PCx_I C) hk) rfl rfl rfl rfl rfl (Nat.le_of_ble_eq_true rfl) (Nat.le_of_ble_eq_true rfl) (Nat.le_of_ble_eq_true rfl) (Nat.le_of_ble_eq_true rfl) ?_
    intro r8 μ7 hk
    refine px_isub C dX9_own_78 ?_
    exact px_iret C hRt dX9_own_79 rfl rfl hk
  · replace hk := hk.2 c20
    refine px_aload_n (i := 0) C dX9_own_17 rfl rfl ?_
    refine px_getr C dX9_own_18 fl_RX9_47 rfl rfl rfl ?_
    refine px_iload_n (i := 2) C dX9_own_21 rfl rfl ?_
    obtain ⟨o9, hk⟩ := hk
    refine px_iald 3968 C dX9_own_22 rfl rfl rfl rfl o9 ?_
    refine px_iload_n (i := 1) C dX9_own_23 rfl rfl ?_
    refine px_icmp_ne (tgt := 57) C dX9_own_24 (by decide) (fun c19 => ?_) (fun c19 => ?_)
    · replace hk := hk.1 c19
      refine px_iinc (i := 2) (v := (1 : Int32)) C dX9_own_57 rfl rfl (by decide) rfl ?_
      refine px_goto (tgt := 7) C dX9_own_60 (by decide) ?_
      exact PW_at (hR7 _ _ _ hk) (And.intro rfl (And.intro rfl (And.intro rfl trivial))) (Nat.le_of_ble_eq_true rfl) (Nat.le_of_ble_eq_true rfl)
    · replace hk := hk.2 c19
      refine px_aload_n (i := 0) C dX9_own_27 rfl rfl ?_
      refine px_aload_n (i := 0) C dX9_own_28 rfl rfl ?_
      refine px_iload_n (i := 1) C dX9_own_29 rfl rfl ?_
      refine px_callVi (h := 1) (rc' := 0) (rs' := 0) C (HR_le hHR (Nat.le_of_ble_eq_true rfl)) hRt hnT dX9_own_30 (gw9 22 rfl rfl) mv_X9_begin (w9_begin_ok (PCx_l C) (PCx_I C) hk) rfl rfl rfl rfl rfl (Nat.le_of_ble_eq_true rfl) (Nat.le_of_ble_eq_true rfl) (Nat.le_of_ble_eq_true rfl) (Nat.le_of_ble_eq_true rfl) ?_
      intro r11 μ10 hk
      refine px_aload_n (i := 0) C dX9_own_33 rfl rfl ?_
      refine px_iload_n (i := 2) C dX9_own_34 rfl rfl ?_
      refine px_callVi (h := 1) (rc' := 0) (rs' := 0) C (HR_le hHR (Nat.le_of_ble_eq_true rfl)) hRt hnT dX9_own_35 (gw9 22 rfl rfl) mv_X9_begin (w9_begin_ok (PCx_l C) (PCx_I C) hk) rfl rfl rfl rfl rfl (Nat.le_of_ble_eq_true rfl) (Nat.le_of_ble_eq_true rfl) (Nat.le_of_ble_eq_true rfl) (Nat.le_of_ble_eq_true rfl) ?_
      intro r13 μ12 hk
      refine px_mmax C (HR_le hHR (Nat.le_of_ble_eq_true rfl)) dX9_own_38 (gw9 142 rfl rfl) math_max (Nat.le_of_ble_eq_true rfl) ?_
      refine px_aload_n (i := 0) C dX9_own_41 rfl rfl ?_
      refine px_iload_n (i := 1) C dX9_own_42 rfl rfl ?_
      refine px_callVi (h := 1) (rc' := 0) (rs' := 0) C (HR_le hHR (Nat.le_of_ble_eq_true rfl)) hRt hnT dX9_own_43 (gw9 26 rfl rfl) mv_X9_end (w9_end_ok (PCx_l C) (PCx_I C) hk) rfl rfl rfl rfl rfl (Nat.le_of_ble_eq_true rfl) (Nat.le_of_ble_eq_true rfl) (Nat.le_of_ble_eq_true rfl) (Nat.le_of_ble_eq_true rfl) ?_
      intro r15 μ14 hk
      refine px_aload_n (i := 0) C dX9_own_46 rfl rfl ?_
      refine px_iload_n (i := 2) C dX9_own_47 rfl rfl ?_
      refine px_callVi (h := 1) (rc' := 0) (rs' := 0) C (HR_le hHR (Nat.le_of_ble_eq_true rfl)) hRt hnT dX9_own_48 (gw9 26 rfl rfl) mv_X9_end (w9_end_ok (PCx_l C) (PCx_I C) hk) rfl rfl rfl rfl rfl (Nat.le_of_ble_eq_true rfl) (Nat.le_of_ble_eq_true rfl) (Nat.le_of_ble_eq_true rfl) (Nat.le_of_ble_eq_true rfl) ?_
      intro r17 μ16 hk
      refine px_mmin C (HR_le hHR (Nat.le_of_ble_eq_true rfl)) dX9_own_51 (gw9 143 rfl rfl) math_min (Nat.le_of_ble_eq_true rfl) ?_
      refine px_callVv (h := 0) (rc' := 0) (rs' := 0) C (HR_le hHR (Nat.le_of_ble_eq_true rfl)) hRt hnT dX9_own_54 (gw9 172 rfl rfl) mv_X9_range (w9_range_ok (PCx_l C) (PCx_I C) hk) rfl rfl rfl rfl rfl (Nat.le_of_ble_eq_true rfl) (Nat.le_of_ble_eq_true rfl) (Nat.le_of_ble_eq_true rfl) (Nat.le_of_ble_eq_true rfl) ?_
      intro μ18 hk
      refine px_iinc (i := 2) (v := (1 : Int32)) C dX9_own_57 rfl rfl (by decide) rfl ?_
      refine px_goto (tgt := 7) C dX9_own_60 (by decide) ?_
      exact PW_at (hR7 _ _ _ hk) (And.intro rfl (And.intro rfl (And.intro rfl trivial))) (Nat.le_of_ble_eq_true rfl) (Nat.le_of_ble_eq_true rfl)
set_option maxRecDepth 100000 in
set_option maxHeartbeats 4000000 in
theorem w9_own_ok {l : Launch} {idx : List (Nat × Nat)} {μ : Mem} {a1 : Int32} {P : Int32 → Mem → Prop} {X : String → Mem → Prop} (hl : l.stackTraces = false) (hI : IdxOK idx) (hk : w9_own_wp μ a1 P) : PMet l yX9_own (.code yX9_own cX9_own 3 (some .int)) 2 0 0 idx [pR 50 0, pI a1] μ (qI P) X := by
  refine PMet_of mv_X9_own.2.2.2.2.2.2 hl hI mv_X9_own.2.2.2.1 rfl (Nat.le_of_ble_eq_true rfl) (fun G _ _ C hRt hHR hnT => ?_)
  show PW G 0 0 0 [some (pR 50 0), some (pI a1), none] [] μ
  unfold w9_own_wp at hk
  refine px_aload_n (i := 0) C dX9_own_0 rfl rfl ?_
  refine px_iconst (v := (0 : Int32)) C dX9_own_1 rfl ?_
  replace hk := hk _ rfl
  refine px_puti 3229 C dX9_own_2 fp_RX9_186 rfl rfl rfl rfl rfl rfl ?_
  refine px_iconst (v := (0 : Int32)) C dX9_own_5 rfl ?_
  refine px_istore_n (i := 2) C dX9_own_6 rfl (by decide) rfl ?_
  exact PW_at (w9_own_b7_ok C hRt hHR hnT hk) (And.intro rfl (And.intro rfl (And.intro rfl trivial))) (Nat.le_of_ble_eq_true rfl) (Nat.le_of_ble_eq_true rfl)
theorem dX9_clear_0 : decode cX9_clear 0 = .ok (.aload_n 0, 1) := by decide +kernel
theorem dX9_clear_1 : decode cX9_clear 1 = .ok (.iconst 0, 1) := by decide +kernel
theorem dX9_clear_2 : decode cX9_clear 2 = .ok (.putfield 80, 3) := by decide +kernel
theorem dX9_clear_5 : decode cX9_clear 5 = .ok (.aload_n 0, 1) := by decide +kernel
theorem dX9_clear_6 : decode cX9_clear 6 = .ok (.getfield 7, 3) := by decide +kernel
theorem dX9_clear_9 : decode cX9_clear 9 = .ok (.iconst 0, 1) := by decide +kernel
theorem dX9_clear_10 : decode cX9_clear 10 = .ok (.iaload, 1) := by decide +kernel
theorem dX9_clear_11 : decode cX9_clear 11 = .ok (.istore_n 1, 1) := by decide +kernel
theorem dX9_clear_12 : decode cX9_clear 12 = .ok (.aload_n 0, 1) := by decide +kernel
theorem dX9_clear_13 : decode cX9_clear 13 = .ok (.getfield 7, 3) := by decide +kernel
theorem dX9_clear_16 : decode cX9_clear 16 = .ok (.iconst 0, 1) := by decide +kernel
theorem dX9_clear_17 : decode cX9_clear 17 = .ok (.iconst 0, 1) := by decide +kernel
theorem dX9_clear_18 : decode cX9_clear 18 = .ok (.iastore, 1) := by decide +kernel
theorem dX9_clear_19 : decode cX9_clear 19 = .ok (.aload_n 0, 1) := by decide +kernel
theorem dX9_clear_20 : decode cX9_clear 20 = .ok (.getfield 7, 3) := by decide +kernel
theorem dX9_clear_23 : decode cX9_clear 23 = .ok (.iconst 1, 1) := by decide +kernel
theorem dX9_clear_24 : decode cX9_clear 24 = .ok (.iconst 0, 1) := by decide +kernel
theorem dX9_clear_25 : decode cX9_clear 25 = .ok (.iastore, 1) := by decide +kernel
theorem dX9_clear_26 : decode cX9_clear 26 = .ok (.aload_n 0, 1) := by decide +kernel
theorem dX9_clear_27 : decode cX9_clear 27 = .ok (.iconst 0, 1) := by decide +kernel
theorem dX9_clear_28 : decode cX9_clear 28 = .ok (.putfield 91, 3) := by decide +kernel
theorem dX9_clear_31 : decode cX9_clear 31 = .ok (.aload_n 0, 1) := by decide +kernel
theorem dX9_clear_32 : decode cX9_clear 32 = .ok (.iconst 0, 1) := by decide +kernel
theorem dX9_clear_33 : decode cX9_clear 33 = .ok (.putfield 94, 3) := by decide +kernel
theorem dX9_clear_36 : decode cX9_clear 36 = .ok (.iload_n 1, 1) := by decide +kernel
theorem dX9_clear_37 : decode cX9_clear 37 = .ok (.ireturn, 1) := by decide +kernel
set_option maxRecDepth 100000 in
set_option maxHeartbeats 4000000 in
theorem w9_clear_ok {l : Launch} {idx : List (Nat × Nat)} {μ : Mem} {P : Int32 → Mem → Prop} {X : String → Mem → Prop} (hl : l.stackTraces = false) (hI : IdxOK idx) (hk : w9_clear_wp μ P) : PMet l yX9_clear (.code yX9_clear cX9_clear 2 (some .int)) 0 0 0 idx [pR 50 0] μ (qI P) X := by
  refine PMet_of mv_X9_clear.2.2.2.2.2.2 hl hI mv_X9_clear.2.2.2.1 rfl (Nat.le_of_ble_eq_true rfl) (fun G _ _ C hRt hHR hnT => ?_)
  show PW G 0 0 0 [some (pR 50 0), none] [] μ
  unfold w9_clear_wp at hk
  refine px_aload_n (i := 0) C dX9_clear_0 rfl rfl ?_
  refine px_iconst (v := (0 : Int32)) C dX9_clear_1 rfl ?_
  replace hk := hk _ rfl
  refine px_puti 3201 C dX9_clear_2 fp_RX9_80 rfl rfl rfl rfl rfl rfl ?_
  refine px_aload_n (i := 0) C dX9_clear_5 rfl rfl ?_
  refine px_getr C dX9_clear_6 fl_RX9_7 rfl rfl rfl ?_
  refine px_iconst (v := (0 : Int32)) C dX9_clear_9 rfl ?_
  obtain ⟨o2, hk⟩ := hk
  refine px_iald 3264 C dX9_clear_10 rfl rfl rfl rfl o2 ?_
  refine px_istore_n (i := 1) C dX9_clear_11 rfl (by decide) rfl ?_
  refine px_aload_n (i := 0) C dX9_clear_12 rfl rfl ?_
  refine px_getr C dX9_clear_13 fl_RX9_7 rfl rfl rfl ?_
  refine px_iconst (v := (0 : Int32)) C dX9_clear_16 rfl ?_
  refine px_iconst (v := (0 : Int32)) C dX9_clear_17 rfl ?_
  obtain ⟨o3, hk⟩ := hk
  replace hk := hk _ rfl
  refine px_iast 3264 C dX9_clear_18 rfl rfl rfl rfl o3 ?_
  refine px_aload_n (i := 0) C dX9_clear_19 rfl rfl ?_
  refine px_getr C dX9_clear_20 fl_RX9_7 rfl rfl rfl ?_
  refine px_iconst (v := (1 : Int32)) C dX9_clear_23 rfl ?_
  refine px_iconst (v := (0 : Int32)) C dX9_clear_24 rfl ?_
  obtain ⟨o5, hk⟩ := hk
  replace hk := hk _ rfl
  refine px_iast 3264 C dX9_clear_25 rfl rfl rfl rfl o5 ?_
  refine px_aload_n (i := 0) C dX9_clear_26 rfl rfl ?_
  refine px_iconst (v := (0 : Int32)) C dX9_clear_27 rfl ?_
  replace hk := hk _ rfl
  refine px_puti 3207 C dX9_clear_28 fp_RX9_91 rfl rfl rfl rfl rfl rfl ?_
  refine px_aload_n (i := 0) C dX9_clear_31 rfl rfl ?_
  refine px_iconst (v := (0 : Int32)) C dX9_clear_32 rfl ?_
  replace hk := hk _ rfl
  refine px_puti 3212 C dX9_clear_33 fp_RX9_94 rfl rfl rfl rfl rfl rfl ?_
  refine px_iload_n (i := 1) C dX9_clear_36 rfl rfl ?_
  exact px_iret C hRt dX9_clear_37 rfl rfl hk
theorem dX9_areTimes_0 : decode cX9_areTimes 0 = .ok (.iload_n 0, 1) := by decide +kernel
theorem dX9_areTimes_1 : decode cX9_areTimes 1 = .ok (.iconst 0, 1) := by decide +kernel
theorem dX9_areTimes_2 : decode cX9_areTimes 2 = .ok (.sipush 9999, 3) := by decide +kernel
theorem dX9_areTimes_5 : decode cX9_areTimes 5 = .ok (.invokestatic 140, 3) := by decide +kernel
theorem dX9_areTimes_8 : decode cX9_areTimes 8 = .ok (.ifCond .eq 23, 3) := by decide +kernel
theorem dX9_areTimes_11 : decode cX9_areTimes 11 = .ok (.iload_n 1, 1) := by decide +kernel
theorem dX9_areTimes_12 : decode cX9_areTimes 12 = .ok (.iconst 0, 1) := by decide +kernel
theorem dX9_areTimes_13 : decode cX9_areTimes 13 = .ok (.sipush 9999, 3) := by decide +kernel
theorem dX9_areTimes_16 : decode cX9_areTimes 16 = .ok (.invokestatic 140, 3) := by decide +kernel
theorem dX9_areTimes_19 : decode cX9_areTimes 19 = .ok (.ifCond .eq 12, 3) := by decide +kernel
theorem dX9_areTimes_22 : decode cX9_areTimes 22 = .ok (.iload_n 0, 1) := by decide +kernel
theorem dX9_areTimes_23 : decode cX9_areTimes 23 = .ok (.iload_n 1, 1) := by decide +kernel
theorem dX9_areTimes_24 : decode cX9_areTimes 24 = .ok (.if_icmp .gt 7, 3) := by decide +kernel
theorem dX9_areTimes_27 : decode cX9_areTimes 27 = .ok (.iconst 1, 1) := by decide +kernel
theorem dX9_areTimes_28 : decode cX9_areTimes 28 = .ok (.goto 4, 3) := by decide +kernel
theorem dX9_areTimes_31 : decode cX9_areTimes 31 = .ok (.iconst 0, 1) := by decide +kernel
theorem dX9_areTimes_32 : decode cX9_areTimes 32 = .ok (.ireturn, 1) := by decide +kernel
set_option maxRecDepth 100000 in
set_option maxHeartbeats 4000000 in
theorem w9_areTimes_ok {l : Launch} {idx : List (Nat × Nat)} {μ : Mem} {a1 : Int32} {a2 : Int32} {P : Int32 → Mem → Prop} {X : String → Mem → Prop} (hl : l.stackTraces = false) (hI : IdxOK idx) (hk : w9_areTimes_wp μ a1 a2 P) : PMet l yX9_areTimes (.code yX9_areTimes cX9_areTimes 2 (some .boolean)) 1 0 0 idx [pI a1, pI a2] μ (qI P) X := by
  refine PMet_of ms_X9_areTimes.2.2.2.2.2 hl hI ms_X9_areTimes.2.2.1 rfl (Nat.le_of_ble_eq_true rfl) (fun G _ _ C hRt hHR hnT => ?_)
  show PW G 0 0 0 [some (pI a1), some (pI a2)] [] μ
  unfold w9_areTimes_wp at hk
  refine px_iload_n (i := 0) C dX9_areTimes_0 rfl rfl ?_
  refine px_iconst (v := (0 : Int32)) C dX9_areTimes_1 rfl ?_
  refine px_sipush (v := (9999 : Int32)) C dX9_areTimes_2 rfl ?_
  refine px_callSi (h := 0) (rc' := 0) (rs' := 0) C (HR_le hHR (Nat.le_of_ble_eq_true rfl)) hRt hnT dX9_areTimes_5 (gw8 138 rfl rfl) ms_X9_in (w9_in_ok (PCx_l C) (PCx_I C) hk) rfl rfl (Nat.le_of_ble_eq_true rfl) (Nat.le_of_ble_eq_true rfl) (Nat.le_of_ble_eq_true rfl) (Nat.le_of_ble_eq_true rfl) ?_
  intro r2 μ1 hk
  refine px_if_eq (tgt := 31) C dX9_areTimes_8 (by decide) (fun c7 => ?_) (fun c7 => ?_)
  · replace hk := hk.1 c7
    refine px_iconst (v := (0 : Int32)) C dX9_areTimes_31 rfl ?_
    exact px_iret C hRt dX9_areTimes_32 rfl rfl hk
  · replace hk := hk.2 c7
    refine px_iload_n (i := 1) C dX9_areTimes_11 rfl rfl ?_
    refine px_iconst (v := (0 : Int32)) C dX9_areTimes_12 rfl ?_
    refine px_sipush (v := (9999 : Int32)) C dX9_areTimes_13 rfl ?_
    refine px_callSi (h := 0) (rc' := 0) (rs' := 0) C (HR_le hHR (Nat.le_of_ble_eq_true rfl)) hRt hnT dX9_areTimes_16 (gw8 138 rfl rfl) ms_X9_in (w9_in_ok (PCx_l C) (PCx_I C) hk) rfl rfl (Nat.le_of_ble_eq_true rfl) (Nat.le_of_ble_eq_true rfl) (Nat.le_of_ble_eq_true rfl) (Nat.le_of_ble_eq_true rfl) ?_
    intro r4 μ3 hk
    refine px_if_eq (tgt := 31) C dX9_areTimes_19 (by decide) (fun c6 => ?_) (fun c6 => ?_)
    · replace hk := hk.1 c6
      refine px_iconst (v := (0 : Int32)) C dX9_areTimes_31 rfl ?_
      exact px_iret C hRt dX9_areTimes_32 rfl rfl hk
    · replace hk := hk.2 c6
      refine px_iload_n (i := 0) C dX9_areTimes_22 rfl rfl ?_
      refine px_iload_n (i := 1) C dX9_areTimes_23 rfl rfl ?_
      refine px_icmp_gt (tgt := 31) C dX9_areTimes_24 (by decide) (fun c5 => ?_) (fun c5 => ?_)
      · replace hk := hk.1 c5
        refine px_iconst (v := (0 : Int32)) C dX9_areTimes_31 rfl ?_
        exact px_iret C hRt dX9_areTimes_32 rfl rfl hk
      · replace hk := hk.2 c5
        refine px_iconst (v := (1 : Int32)) C dX9_areTimes_27 rfl ?_
        refine px_goto (tgt := 32) C dX9_areTimes_28 (by decide) ?_
        exact px_iret C hRt dX9_areTimes_32 rfl rfl hk
theorem dX9_appends_0 : decode cX9_appends 0 = .ok (.aload_n 0, 1) := by decide +kernel
theorem dX9_appends_1 : decode cX9_appends 1 = .ok (.getfield 7, 3) := by decide +kernel
theorem dX9_appends_4 : decode cX9_appends 4 = .ok (.iconst 0, 1) := by decide +kernel
theorem dX9_appends_5 : decode cX9_appends 5 = .ok (.iaload, 1) := by decide +kernel
theorem dX9_appends_6 : decode cX9_appends 6 = .ok (.istore 7, 2) := by decide +kernel
theorem dX9_appends_8 : decode cX9_appends 8 = .ok (.aload_n 0, 1) := by decide +kernel
theorem dX9_appends_9 : decode cX9_appends 9 = .ok (.getfield 7, 3) := by decide +kernel
theorem dX9_appends_12 : decode cX9_appends 12 = .ok (.iconst 0, 1) := by decide +kernel
theorem dX9_appends_13 : decode cX9_appends 13 = .ok (.dup2, 1) := by decide +kernel
theorem dX9_appends_14 : decode cX9_appends 14 = .ok (.iaload, 1) := by decide +kernel
theorem dX9_appends_15 : decode cX9_appends 15 = .ok (.iconst 1, 1) := by decide +kernel
theorem dX9_appends_16 : decode cX9_appends 16 = .ok (.iadd, 1) := by decide +kernel
theorem dX9_appends_17 : decode cX9_appends 17 = .ok (.iastore, 1) := by decide +kernel
theorem dX9_appends_18 : decode cX9_appends 18 = .ok (.aload_n 0, 1) := by decide +kernel
theorem dX9_appends_19 : decode cX9_appends 19 = .ok (.iload 7, 2) := by decide +kernel
theorem dX9_appends_21 : decode cX9_appends 21 = .ok (.iconst 0, 1) := by decide +kernel
theorem dX9_appends_22 : decode cX9_appends 22 = .ok (.iload_n 2, 1) := by decide +kernel
theorem dX9_appends_23 : decode cX9_appends 23 = .ok (.invokevirtual 197, 3) := by decide +kernel
theorem dX9_appends_26 : decode cX9_appends 26 = .ok (.aload_n 0, 1) := by decide +kernel
theorem dX9_appends_27 : decode cX9_appends 27 = .ok (.iload 7, 2) := by decide +kernel
theorem dX9_appends_29 : decode cX9_appends 29 = .ok (.iconst 1, 1) := by decide +kernel
theorem dX9_appends_30 : decode cX9_appends 30 = .ok (.iload_n 1, 1) := by decide +kernel
theorem dX9_appends_31 : decode cX9_appends 31 = .ok (.invokevirtual 197, 3) := by decide +kernel
theorem dX9_appends_34 : decode cX9_appends 34 = .ok (.aload_n 0, 1) := by decide +kernel
theorem dX9_appends_35 : decode cX9_appends 35 = .ok (.iload 7, 2) := by decide +kernel
theorem dX9_appends_37 : decode cX9_appends 37 = .ok (.iconst 2, 1) := by decide +kernel
theorem dX9_appends_38 : decode cX9_appends 38 = .ok (.iload_n 3, 1) := by decide +kernel
theorem dX9_appends_39 : decode cX9_appends 39 = .ok (.invokevirtual 197, 3) := by decide +kernel
theorem dX9_appends_42 : decode cX9_appends 42 = .ok (.aload_n 0, 1) := by decide +kernel
theorem dX9_appends_43 : decode cX9_appends 43 = .ok (.iload 7, 2) := by decide +kernel
theorem dX9_appends_45 : decode cX9_appends 45 = .ok (.iconst 3, 1) := by decide +kernel
theorem dX9_appends_46 : decode cX9_appends 46 = .ok (.iload 4, 2) := by decide +kernel
theorem dX9_appends_48 : decode cX9_appends 48 = .ok (.invokevirtual 197, 3) := by decide +kernel
theorem dX9_appends_51 : decode cX9_appends 51 = .ok (.aload_n 0, 1) := by decide +kernel
theorem dX9_appends_52 : decode cX9_appends 52 = .ok (.iload 7, 2) := by decide +kernel
theorem dX9_appends_54 : decode cX9_appends 54 = .ok (.iconst 4, 1) := by decide +kernel
theorem dX9_appends_55 : decode cX9_appends 55 = .ok (.iload 5, 2) := by decide +kernel
theorem dX9_appends_57 : decode cX9_appends 57 = .ok (.invokevirtual 197, 3) := by decide +kernel
theorem dX9_appends_60 : decode cX9_appends 60 = .ok (.aload_n 0, 1) := by decide +kernel
theorem dX9_appends_61 : decode cX9_appends 61 = .ok (.iload 7, 2) := by decide +kernel
theorem dX9_appends_63 : decode cX9_appends 63 = .ok (.iconst 5, 1) := by decide +kernel
theorem dX9_appends_64 : decode cX9_appends 64 = .ok (.iload 6, 2) := by decide +kernel
theorem dX9_appends_66 : decode cX9_appends 66 = .ok (.invokevirtual 197, 3) := by decide +kernel
theorem dX9_appends_69 : decode cX9_appends 69 = .ok (.aload_n 0, 1) := by decide +kernel
theorem dX9_appends_70 : decode cX9_appends 70 = .ok (.iload 7, 2) := by decide +kernel
theorem dX9_appends_72 : decode cX9_appends 72 = .ok (.bipush 6, 2) := by decide +kernel
theorem dX9_appends_74 : decode cX9_appends 74 = .ok (.iconst 0, 1) := by decide +kernel
theorem dX9_appends_75 : decode cX9_appends 75 = .ok (.invokevirtual 197, 3) := by decide +kernel
theorem dX9_appends_78 : decode cX9_appends 78 = .ok (.return_, 1) := by decide +kernel
set_option maxRecDepth 100000 in
set_option maxHeartbeats 4000000 in
theorem w9_appends_ok {l : Launch} {idx : List (Nat × Nat)} {μ : Mem} {a1 : Int32} {a2 : Int32} {a3 : Int32} {a4 : Int32} {a5 : Int32} {a6 : Int32} {P : Mem → Prop} {X : String → Mem → Prop} (hl : l.stackTraces = false) (hI : IdxOK idx) (hk : w9_appends_wp μ a1 a2 a3 a4 a5 a6 P) : PMet l yX9_appends (.code yX9_appends cX9_appends 8 none) 1 0 0 idx [pR 50 0, pI a1, pI a2, pI a3, pI a4, pI a5, pI a6] μ (qV P) X := by
  refine PMet_of mv_X9_appends.2.2.2.2.2.2 hl hI mv_X9_appends.2.2.2.1 rfl (Nat.le_of_ble_eq_true rfl) (fun G _ _ C hRt hHR hnT => ?_)
  show PW G 0 0 0 [some (pR 50 0), some (pI a1), some (pI a2), some (pI a3), some (pI a4), some (pI a5), some (pI a6), none] [] μ
  unfold w9_appends_wp at hk
  refine px_aload_n (i := 0) C dX9_appends_0 rfl rfl ?_
  refine px_getr C dX9_appends_1 fl_RX9_7 rfl rfl rfl ?_
  refine px_iconst (v := (0 : Int32)) C dX9_appends_4 rfl ?_
  obtain ⟨o1, hk⟩ := hk
  refine px_iald 3264 C dX9_appends_5 rfl rfl rfl rfl o1 ?_
  refine px_istore (i := 7) C dX9_appends_6 (by decide) rfl ?_
  refine px_aload_n (i := 0) C dX9_appends_8 rfl rfl ?_
  refine px_getr C dX9_appends_9 fl_RX9_7 rfl rfl rfl ?_
  refine px_iconst (v := (0 : Int32)) C dX9_appends_12 rfl ?_
  refine px_dup2 C dX9_appends_13 rfl rfl ?_
  obtain ⟨o2, hk⟩ := hk
  refine px_iald 3264 C dX9_appends_14 rfl rfl rfl rfl o2 ?_
  refine px_iconst (v := (1 : Int32)) C dX9_appends_15 rfl ?_
  refine px_iadd C dX9_appends_16 ?_
  obtain ⟨o3, hk⟩ := hk
  replace hk := hk _ rfl
  refine px_iast 3264 C dX9_appends_17 rfl rfl rfl rfl o3 ?_
  refine px_aload_n (i := 0) C dX9_appends_18 rfl rfl ?_
  refine px_iload (i := 7) C dX9_appends_19 rfl ?_
  refine px_iconst (v := (0 : Int32)) C dX9_appends_21 rfl ?_
  refine px_iload_n (i := 2) C dX9_appends_22 rfl rfl ?_
  refine px_callVv (h := 0) (rc' := 0) (rs' := 0) C (HR_le hHR (Nat.le_of_ble_eq_true rfl)) hRt hnT dX9_appends_23 (gw8 164 rfl rfl) mv_X9_put (w9_put_ok (PCx_l C) (PCx_I C) hk) rfl rfl rfl rfl rfl (Nat.le_of_ble_eq_true rfl) (Nat.le_of_ble_eq_true rfl) (Nat.le_of_ble_eq_true rfl) (Nat.le_of_ble_eq_true rfl) ?_
  intro μ5 hk
  refine px_aload_n (i := 0) C dX9_appends_26 rfl rfl ?_
  refine px_iload (i := 7) C dX9_appends_27 rfl ?_
  refine px_iconst (v := (1 : Int32)) C dX9_appends_29 rfl ?_
  refine px_iload_n (i := 1) C dX9_appends_30 rfl rfl ?_
  refine px_callVv (h := 0) (rc' := 0) (rs' := 0) C (HR_le hHR (Nat.le_of_ble_eq_true rfl)) hRt hnT dX9_appends_31 (gw8 164 rfl rfl) mv_X9_put (w9_put_ok (PCx_l C) (PCx_I C) hk) rfl rfl rfl rfl rfl (Nat.le_of_ble_eq_true rfl) (Nat.le_of_ble_eq_true rfl) (Nat.le_of_ble_eq_true rfl) (Nat.le_of_ble_eq_true rfl) ?_
  intro μ6 hk
  refine px_aload_n (i := 0) C dX9_appends_34 rfl rfl ?_
  refine px_iload (i := 7) C dX9_appends_35 rfl ?_
  refine px_iconst (v := (2 : Int32)) C dX9_appends_37 rfl ?_
  refine px_iload_n (i := 3) C dX9_appends_38 rfl rfl ?_
  refine px_callVv (h := 0) (rc' := 0) (rs' := 0) C (HR_le hHR (Nat.le_of_ble_eq_true rfl)) hRt hnT dX9_appends_39 (gw8 164 rfl rfl) mv_X9_put (w9_put_ok (PCx_l C) (PCx_I C) hk) rfl rfl rfl rfl rfl (Nat.le_of_ble_eq_true rfl) (Nat.le_of_ble_eq_true rfl) (Nat.le_of_ble_eq_true rfl) (Nat.le_of_ble_eq_true rfl) ?_
  intro μ7 hk
  refine px_aload_n (i := 0) C dX9_appends_42 rfl rfl ?_
  refine px_iload (i := 7) C dX9_appends_43 rfl ?_
  refine px_iconst (v := (3 : Int32)) C dX9_appends_45 rfl ?_
  refine px_iload (i := 4) C dX9_appends_46 rfl ?_
  refine px_callVv (h := 0) (rc' := 0) (rs' := 0) C (HR_le hHR (Nat.le_of_ble_eq_true rfl)) hRt hnT dX9_appends_48 (gw8 164 rfl rfl) mv_X9_put (w9_put_ok (PCx_l C) (PCx_I C) hk) rfl rfl rfl rfl rfl (Nat.le_of_ble_eq_true rfl) (Nat.le_of_ble_eq_true rfl) (Nat.le_of_ble_eq_true rfl) (Nat.le_of_ble_eq_true rfl) ?_
  intro μ8 hk
  refine px_aload_n (i := 0) C dX9_appends_51 rfl rfl ?_
  refine px_iload (i := 7) C dX9_appends_52 rfl ?_
  refine px_iconst (v := (4 : Int32)) C dX9_appends_54 rfl ?_
  refine px_iload (i := 5) C dX9_appends_55 rfl ?_
  refine px_callVv (h := 0) (rc' := 0) (rs' := 0) C (HR_le hHR (Nat.le_of_ble_eq_true rfl)) hRt hnT dX9_appends_57 (gw8 164 rfl rfl) mv_X9_put (w9_put_ok (PCx_l C) (PCx_I C) hk) rfl rfl rfl rfl rfl (Nat.le_of_ble_eq_true rfl) (Nat.le_of_ble_eq_true rfl) (Nat.le_of_ble_eq_true rfl) (Nat.le_of_ble_eq_true rfl) ?_
  intro μ9 hk
  refine px_aload_n (i := 0) C dX9_appends_60 rfl rfl ?_
  refine px_iload (i := 7) C dX9_appends_61 rfl ?_
  refine px_iconst (v := (5 : Int32)) C dX9_appends_63 rfl ?_
  refine px_iload (i := 6) C dX9_appends_64 rfl ?_
  refine px_callVv (h := 0) (rc' := 0) (rs' := 0) C (HR_le hHR (Nat.le_of_ble_eq_true rfl)) hRt hnT dX9_appends_66 (gw8 164 rfl rfl) mv_X9_put (w9_put_ok (PCx_l C) (PCx_I C) hk) rfl rfl rfl rfl rfl (Nat.le_of_ble_eq_true rfl) (Nat.le_of_ble_eq_true rfl) (Nat.le_of_ble_eq_true rfl) (Nat.le_of_ble_eq_true rfl) ?_
  intro μ10 hk
  refine px_aload_n (i := 0) C dX9_appends_69 rfl rfl ?_
  refine px_iload (i := 7) C dX9_appends_70 rfl ?_
  refine px_bipush (v := (6 : Int32)) C dX9_appends_72 rfl ?_
  refine px_iconst (v := (0 : Int32)) C dX9_appends_74 rfl ?_
  refine px_callVv (h := 0) (rc' := 0) (rs' := 0) C (HR_le hHR (Nat.le_of_ble_eq_true rfl)) hRt hnT dX9_appends_75 (gw8 164 rfl rfl) mv_X9_put (w9_put_ok (PCx_l C) (PCx_I C) hk) rfl rfl rfl rfl rfl (Nat.le_of_ble_eq_true rfl) (Nat.le_of_ble_eq_true rfl) (Nat.le_of_ble_eq_true rfl) (Nat.le_of_ble_eq_true rfl) ?_
  intro μ11 hk
  exact px_vret C hRt dX9_appends_78 rfl hk
theorem dX9_add_0 : decode cX9_add 0 = .ok (.aload_n 0, 1) := by decide +kernel
theorem dX9_add_1 : decode cX9_add 1 = .ok (.iconst 0, 1) := by decide +kernel
theorem dX9_add_2 : decode cX9_add 2 = .ok (.putfield 80, 3) := by decide +kernel
theorem dX9_add_5 : decode cX9_add 5 = .ok (.iload_n 1, 1) := by decide +kernel
theorem dX9_add_6 : decode cX9_add 6 = .ok (.invokestatic 143, 3) := by decide +kernel
theorem dX9_add_9 : decode cX9_add 9 = .ok (.ifCond .eq 44, 3) := by decide +kernel
theorem dX9_add_12 : decode cX9_add 12 = .ok (.iload_n 2, 1) := by decide +kernel
theorem dX9_add_13 : decode cX9_add 13 = .ok (.iconst 0, 1) := by decide +kernel
theorem dX9_add_14 : decode cX9_add 14 = .ok (.bipush 99, 2) := by decide +kernel
theorem dX9_add_16 : decode cX9_add 16 = .ok (.invokestatic 140, 3) := by decide +kernel
theorem dX9_add_19 : decode cX9_add 19 = .ok (.ifCond .eq 34, 3) := by decide +kernel
theorem dX9_add_22 : decode cX9_add 22 = .ok (.iload_n 3, 1) := by decide +kernel
theorem dX9_add_23 : decode cX9_add 23 = .ok (.iconst (-1), 1) := by decide +kernel
theorem dX9_add_24 : decode cX9_add 24 = .ok (.bipush 99, 2) := by decide +kernel
theorem dX9_add_26 : decode cX9_add 26 = .ok (.invokestatic 140, 3) := by decide +kernel
theorem dX9_add_29 : decode cX9_add 29 = .ok (.ifCond .eq 24, 3) := by decide +kernel
theorem dX9_add_32 : decode cX9_add 32 = .ok (.iload 4, 2) := by decide +kernel
theorem dX9_add_34 : decode cX9_add 34 = .ok (.iconst 0, 1) := by decide +kernel
theorem dX9_add_35 : decode cX9_add 35 = .ok (.bipush 7, 2) := by decide +kernel
theorem dX9_add_37 : decode cX9_add 37 = .ok (.invokestatic 140, 3) := by decide +kernel
theorem dX9_add_40 : decode cX9_add 40 = .ok (.ifCond .eq 13, 3) := by decide +kernel
theorem dX9_add_43 : decode cX9_add 43 = .ok (.iload 5, 2) := by decide +kernel
theorem dX9_add_45 : decode cX9_add 45 = .ok (.iload 6, 2) := by decide +kernel
theorem dX9_add_47 : decode cX9_add 47 = .ok (.invokestatic 200, 3) := by decide +kernel
theorem dX9_add_50 : decode cX9_add 50 = .ok (.ifCond .ne 9, 3) := by decide +kernel
theorem dX9_add_53 : decode cX9_add 53 = .ok (.aload_n 0, 1) := by decide +kernel
theorem dX9_add_54 : decode cX9_add 54 = .ok (.iconst 1, 1) := by decide +kernel
theorem dX9_add_55 : decode cX9_add 55 = .ok (.invokevirtual 203, 3) := by decide +kernel
theorem dX9_add_58 : decode cX9_add 58 = .ok (.ireturn, 1) := by decide +kernel
theorem dX9_add_59 : decode cX9_add 59 = .ok (.aload_n 0, 1) := by decide +kernel
theorem dX9_add_60 : decode cX9_add 60 = .ok (.getfield 7, 3) := by decide +kernel
theorem dX9_add_63 : decode cX9_add 63 = .ok (.iconst 0, 1) := by decide +kernel
theorem dX9_add_64 : decode cX9_add 64 = .ok (.iaload, 1) := by decide +kernel
theorem dX9_add_65 : decode cX9_add 65 = .ok (.bipush 40, 2) := by decide +kernel
theorem dX9_add_67 : decode cX9_add 67 = .ok (.if_icmp .eq 12, 3) := by decide +kernel
theorem dX9_add_70 : decode cX9_add 70 = .ok (.aload_n 0, 1) := by decide +kernel
theorem dX9_add_71 : decode cX9_add 71 = .ok (.iload_n 2, 1) := by decide +kernel
theorem dX9_add_72 : decode cX9_add 72 = .ok (.invokevirtual 87, 3) := by decide +kernel
theorem dX9_add_75 : decode cX9_add 75 = .ok (.iconst (-1), 1) := by decide +kernel
theorem dX9_add_76 : decode cX9_add 76 = .ok (.if_icmp .eq 9, 3) := by decide +kernel
theorem dX9_add_79 : decode cX9_add 79 = .ok (.aload_n 0, 1) := by decide +kernel
theorem dX9_add_80 : decode cX9_add 80 = .ok (.iconst 2, 1) := by decide +kernel
theorem dX9_add_81 : decode cX9_add 81 = .ok (.invokevirtual 203, 3) := by decide +kernel
theorem dX9_add_84 : decode cX9_add 84 = .ok (.ireturn, 1) := by decide +kernel
theorem dX9_add_85 : decode cX9_add 85 = .ok (.aload_n 0, 1) := by decide +kernel
theorem dX9_add_86 : decode cX9_add 86 = .ok (.invokevirtual 206, 3) := by decide +kernel
theorem dX9_add_89 : decode cX9_add 89 = .ok (.aload_n 0, 1) := by decide +kernel
theorem dX9_add_90 : decode cX9_add 90 = .ok (.iload_n 1, 1) := by decide +kernel
theorem dX9_add_91 : decode cX9_add 91 = .ok (.iload_n 2, 1) := by decide +kernel
theorem dX9_add_92 : decode cX9_add 92 = .ok (.iload_n 3, 1) := by decide +kernel
theorem dX9_add_93 : decode cX9_add 93 = .ok (.iload 4, 2) := by decide +kernel
theorem dX9_add_95 : decode cX9_add 95 = .ok (.iload 5, 2) := by decide +kernel
theorem dX9_add_97 : decode cX9_add 97 = .ok (.iload 6, 2) := by decide +kernel
theorem dX9_add_99 : decode cX9_add 99 = .ok (.invokevirtual 209, 3) := by decide +kernel
theorem dX9_add_102 : decode cX9_add 102 = .ok (.aload_n 0, 1) := by decide +kernel
theorem dX9_add_103 : decode cX9_add 103 = .ok (.invokevirtual 213, 3) := by decide +kernel
theorem dX9_add_106 : decode cX9_add 106 = .ok (.aload_n 0, 1) := by decide +kernel
theorem dX9_add_107 : decode cX9_add 107 = .ok (.getfield 7, 3) := by decide +kernel
theorem dX9_add_110 : decode cX9_add 110 = .ok (.iconst 0, 1) := by decide +kernel
theorem dX9_add_111 : decode cX9_add 111 = .ok (.iaload, 1) := by decide +kernel
theorem dX9_add_112 : decode cX9_add 112 = .ok (.ireturn, 1) := by decide +kernel
set_option maxRecDepth 100000 in
set_option maxHeartbeats 4000000 in
theorem w9_add_ok {l : Launch} {idx : List (Nat × Nat)} {μ : Mem} {a1 : Int32} {a2 : Int32} {a3 : Int32} {a4 : Int32} {a5 : Int32} {a6 : Int32} {P : Int32 → Mem → Prop} {X : String → Mem → Prop} (hl : l.stackTraces = false) (hI : IdxOK idx) (hk : w9_add_wp μ a1 a2 a3 a4 a5 a6 P) : PMet l yX9_add (.code yX9_add cX9_add 7 (some .int)) 2 0 0 idx [pR 50 0, pI a1, pI a2, pI a3, pI a4, pI a5, pI a6] μ (qI P) X := by
  refine PMet_of mv_X9_add.2.2.2.2.2.2 hl hI mv_X9_add.2.2.2.1 rfl (Nat.le_of_ble_eq_true rfl) (fun G _ _ C hRt hHR hnT => ?_)
  show PW G 0 0 0 [some (pR 50 0), some (pI a1), some (pI a2), some (pI a3), some (pI a4), some (pI a5), some (pI a6)] [] μ
  unfold w9_add_wp at hk
  refine px_aload_n (i := 0) C dX9_add_0 rfl rfl ?_
  refine px_iconst (v := (0 : Int32)) C dX9_add_1 rfl ?_
  replace hk := hk _ rfl
  refine px_puti 3201 C dX9_add_2 fp_RX9_80 rfl rfl rfl rfl rfl rfl ?_
  refine px_iload_n (i := 1) C dX9_add_5 rfl rfl ?_
  refine px_callSi (h := 1) (rc' := 0) (rs' := 0) C (HR_le hHR (Nat.le_of_ble_eq_true rfl)) hRt hnT dX9_add_6 (gw8 135 rfl rfl) ms_X9_isTrace (w9_isTrace_ok (PCx_l C) (PCx_I C) hk) rfl rfl (Nat.le_of_ble_eq_true rfl) (Nat.le_of_ble_eq_true rfl) (Nat.le_of_ble_eq_true rfl) (Nat.le_of_ble_eq_true rfl) ?_
  intro r3 μ2 hk
  refine px_if_eq (tgt := 53) C dX9_add_9 (by decide) (fun c39 => ?_) (fun c39 => ?_)
  · replace hk := hk.1 c39
    refine px_aload_n (i := 0) C dX9_add_53 rfl rfl ?_
    refine px_iconst (v := (1 : Int32)) C dX9_add_54 rfl ?_
    refine px_callVi (h := 0) (rc' := 0) (rs' := 0) C (HR_le hHR (Nat.le_of_ble_eq_true rfl)) hRt hnT dX9_add_55 (gw8 144 rfl rfl) mv_X9_fails (w9_fails_ok (PCx_l C) (PCx_I C) hk) rfl rfl rfl rfl rfl (Nat.le_of_ble_eq_true rfl) (Nat.le_of_ble_eq_true rfl) (Nat.le_of_ble_eq_true rfl) (Nat.le_of_ble_eq_true rfl) ?_
    intro r5 μ4 hk
    exact px_iret C hRt dX9_add_58 rfl rfl hk
  · replace hk := hk.2 c39
    refine px_iload_n (i := 2) C dX9_add_12 rfl rfl ?_
    refine px_iconst (v := (0 : Int32)) C dX9_add_13 rfl ?_
    refine px_bipush (v := (99 : Int32)) C dX9_add_14 rfl ?_
    refine px_callSi (h := 0) (rc' := 0) (rs' := 0) C (HR_le hHR (Nat.le_of_ble_eq_true rfl)) hRt hnT dX9_add_16 (gw8 138 rfl rfl) ms_X9_in (w9_in_ok (PCx_l C) (PCx_I C) hk) rfl rfl (Nat.le_of_ble_eq_true rfl) (Nat.le_of_ble_eq_true rfl) (Nat.le_of_ble_eq_true rfl) (Nat.le_of_ble_eq_true rfl) ?_
    intro r7 μ6 hk
    refine px_if_eq (tgt := 53) C dX9_add_19 (by decide) (fun c38 => ?_) (fun c38 => ?_)
    · replace hk := hk.1 c38
      refine px_aload_n (i := 0) C dX9_add_53 rfl rfl ?_
      refine px_iconst (v := (1 : Int32)) C dX9_add_54 rfl ?_
      refine px_callVi (h := 0) (rc' := 0) (rs' := 0) C (HR_le hHR (Nat.le_of_ble_eq_true rfl)) hRt hnT dX9_add_55 (gw8 144 rfl rfl) mv_X9_fails (w9_fails_ok (PCx_l C) (PCx_I C) hk) rfl rfl rfl rfl rfl (Nat.le_of_ble_eq_true rfl) (Nat.le_of_ble_eq_true rfl) (Nat.le_of_ble_eq_true rfl) (Nat.le_of_ble_eq_true rfl) ?_
      intro r9 μ8 hk
      exact px_iret C hRt dX9_add_58 rfl rfl hk
    · replace hk := hk.2 c38
      refine px_iload_n (i := 3) C dX9_add_22 rfl rfl ?_
      refine px_iconst (v := (-1 : Int32)) C dX9_add_23 rfl ?_
      refine px_bipush (v := (99 : Int32)) C dX9_add_24 rfl ?_
      refine px_callSi (h := 0) (rc' := 0) (rs' := 0) C (HR_le hHR (Nat.le_of_ble_eq_true rfl)) hRt hnT dX9_add_26 (gw8 138 rfl rfl) ms_X9_in (w9_in_ok (PCx_l C) (PCx_I C) hk) rfl rfl (Nat.le_of_ble_eq_true rfl) (Nat.le_of_ble_eq_true rfl) (Nat.le_of_ble_eq_true rfl) (Nat.le_of_ble_eq_true rfl) ?_
      intro r11 μ10 hk
      refine px_if_eq (tgt := 53) C dX9_add_29 (by decide) (fun c37 => ?_) (fun c37 => ?_)
      · replace hk := hk.1 c37
        refine px_aload_n (i := 0) C dX9_add_53 rfl rfl ?_
        refine px_iconst (v := (1 : Int32)) C dX9_add_54 rfl ?_
        refine px_callVi (h := 0) (rc' := 0) (rs' := 0) C (HR_le hHR (Nat.le_of_ble_eq_true rfl)) hRt hnT dX9_add_55 (gw8 144 rfl rfl) mv_X9_fails (w9_fails_ok (PCx_l C) (PCx_I C) hk) rfl rfl rfl rfl rfl (Nat.le_of_ble_eq_true rfl) (Nat.le_of_ble_eq_true rfl) (Nat.le_of_ble_eq_true rfl) (Nat.le_of_ble_eq_true rfl) ?_
        intro r13 μ12 hk
        exact px_iret C hRt dX9_add_58 rfl rfl hk
      · replace hk := hk.2 c37
        refine px_iload (i := 4) C dX9_add_32 rfl ?_
        refine px_iconst (v := (0 : Int32)) C dX9_add_34 rfl ?_
        refine px_bipush (v := (7 : Int32)) C dX9_add_35 rfl ?_
        refine px_callSi (h := 0) (rc' := 0) (rs' := 0) C (HR_le hHR (Nat.le_of_ble_eq_true rfl)) hRt hnT dX9_add_37 (gw8 138 rfl rfl) ms_X9_in (w9_in_ok (PCx_l C) (PCx_I C) hk) rfl rfl (Nat.le_of_ble_eq_true rfl) (Nat.le_of_ble_eq_true rfl) (Nat.le_of_ble_eq_true rfl) (Nat.le_of_ble_eq_true rfl) ?_
        intro r15 μ14 hk
        refine px_if_eq (tgt := 53) C dX9_add_40 (by decide) (fun c36 => ?_) (fun c36 => ?_)
        · replace hk := hk.1 c36
          refine px_aload_n (i := 0) C dX9_add_53 rfl rfl ?_
          refine px_iconst (v := (1 : Int32)) C dX9_add_54 rfl ?_
          refine px_callVi (h := 0) (rc' := 0) (rs' := 0) C (HR_le hHR (Nat.le_of_ble_eq_true rfl)) hRt hnT dX9_add_55 (gw8 144 rfl rfl) mv_X9_fails (w9_fails_ok (PCx_l C) (PCx_I C) hk) rfl rfl rfl rfl rfl (Nat.le_of_ble_eq_true rfl) (Nat.le_of_ble_eq_true rfl) (Nat.le_of_ble_eq_true rfl) (Nat.le_of_ble_eq_true rfl) ?_
          intro r17 μ16 hk
          exact px_iret C hRt dX9_add_58 rfl rfl hk
        · replace hk := hk.2 c36
          refine px_iload (i := 5) C dX9_add_43 rfl ?_
          refine px_iload (i := 6) C dX9_add_45 rfl ?_
          refine px_callSi (h := 1) (rc' := 0) (rs' := 0) C (HR_le hHR (Nat.le_of_ble_eq_true rfl)) hRt hnT dX9_add_47 (gw8 141 rfl rfl) ms_X9_areTimes (w9_areTimes_ok (PCx_l C) (PCx_I C) hk) rfl rfl (Nat.le_of_ble_eq_true rfl) (Nat.le_of_ble_eq_true rfl) (Nat.le_of_ble_eq_true rfl) (Nat.le_of_ble_eq_true rfl) ?_
          intro r19 μ18 hk
          refine px_if_ne (tgt := 59) C dX9_add_50 (by decide) (fun c35 => ?_) (fun c35 => ?_)
          · replace hk := hk.1 c35
            refine px_aload_n (i := 0) C dX9_add_59 rfl rfl ?_
            refine px_getr C dX9_add_60 fl_RX9_7 rfl rfl rfl ?_
            refine px_iconst (v := (0 : Int32)) C dX9_add_63 rfl ?_
            obtain ⟨o20, hk⟩ := hk
            refine px_iald 3264 C dX9_add_64 rfl rfl rfl rfl o20 ?_
            refine px_bipush (v := (40 : Int32)) C dX9_add_65 rfl ?_
            refine px_icmp_eq (tgt := 79) C dX9_add_67 (by decide) (fun c32 => ?_) (fun c32 => ?_)
            · replace hk := hk.1 c32
              refine px_aload_n (i := 0) C dX9_add_79 rfl rfl ?_
              refine px_iconst (v := (2 : Int32)) C dX9_add_80 rfl ?_
              refine px_callVi (h := 0) (rc' := 0) (rs' := 0) C (HR_le hHR (Nat.le_of_ble_eq_true rfl)) hRt hnT dX9_add_81 (gw8 144 rfl rfl) mv_X9_fails (w9_fails_ok (PCx_l C) (PCx_I C) hk) rfl rfl rfl rfl rfl (Nat.le_of_ble_eq_true rfl) (Nat.le_of_ble_eq_true rfl) (Nat.le_of_ble_eq_true rfl) (Nat.le_of_ble_eq_true rfl) ?_
              intro r22 μ21 hk
              exact px_iret C hRt dX9_add_84 rfl rfl hk
            · replace hk := hk.2 c32
              refine px_aload_n (i := 0) C dX9_add_70 rfl rfl ?_
              refine px_iload_n (i := 2) C dX9_add_71 rfl rfl ?_
              refine px_callVi (h := 1) (rc' := 0) (rs' := 0) C (HR_le hHR (Nat.le_of_ble_eq_true rfl)) hRt hnT dX9_add_72 (gw8 148 rfl rfl) mv_X9_find (w9_find_ok (PCx_l C) (PCx_I C) hk) rfl rfl rfl rfl rfl (Nat.le_of_ble_eq_true rfl) (Nat.le_of_ble_eq_true rfl) (Nat.le_of_ble_eq_true rfl) (Nat.le_of_ble_eq_true rfl) ?_
              intro r24 μ23 hk
              refine px_iconst (v := (-1 : Int32)) C dX9_add_75 rfl ?_
              refine px_icmp_eq (tgt := 85) C dX9_add_76 (by decide) (fun c31 => ?_) (fun c31 => ?_)
              · replace hk := hk.1 c31
                refine px_aload_n (i := 0) C dX9_add_85 rfl rfl ?_
                refine px_callVv (h := 0) (rc' := 0) (rs' := 0) C (HR_le hHR (Nat.le_of_ble_eq_true rfl)) hRt hnT dX9_add_86 (gw8 156 rfl rfl) mv_X9_frames (w9_frames_ok (PCx_l C) (PCx_I C) hk) rfl rfl rfl rfl rfl (Nat.le_of_ble_eq_true rfl) (Nat.le_of_ble_eq_true rfl) (Nat.le_of_ble_eq_true rfl) (Nat.le_of_ble_eq_true rfl) ?_
                intro μ25 hk
                refine px_aload_n (i := 0) C dX9_add_89 rfl rfl ?_
                refine px_iload_n (i := 1) C dX9_add_90 rfl rfl ?_
                refine px_iload_n (i := 2) C dX9_add_91 rfl rfl ?_
                refine px_iload_n (i := 3) C dX9_add_92 rfl rfl ?_
                refine px_iload (i := 4) C dX9_add_93 rfl ?_
                refine px_iload (i := 5) C dX9_add_95 rfl ?_
                refine px_iload (i := 6) C dX9_add_97 rfl ?_
                refine px_callVv (h := 1) (rc' := 0) (rs' := 0) C (HR_le hHR (Nat.le_of_ble_eq_true rfl)) hRt hnT dX9_add_99 (gw8 160 rfl rfl) mv_X9_appends (w9_appends_ok (PCx_l C) (PCx_I C) hk) rfl rfl rfl rfl rfl (Nat.le_of_ble_eq_true rfl) (Nat.le_of_ble_eq_true rfl) (Nat.le_of_ble_eq_true rfl) (Nat.le_of_ble_eq_true rfl) ?_
                intro μ26 hk
                refine px_aload_n (i := 0) C dX9_add_102 rfl rfl ?_
                refine px_callVv (h := 0) (rc' := 0) (rs' := 0) C (HR_le hHR (Nat.le_of_ble_eq_true rfl)) hRt hnT dX9_add_103 (gw8 168 rfl rfl) mv_X9_remembers (w9_remembers_ok (PCx_l C) (PCx_I C) hk) rfl rfl rfl rfl rfl (Nat.le_of_ble_eq_true rfl) (Nat.le_of_ble_eq_true rfl) (Nat.le_of_ble_eq_true rfl) (Nat.le_of_ble_eq_true rfl) ?_
                intro μ27 hk
                refine px_aload_n (i := 0) C dX9_add_106 rfl rfl ?_
                refine px_getr C dX9_add_107 fl_RX9_7 rfl rfl rfl ?_
                refine px_iconst (v := (0 : Int32)) C dX9_add_110 rfl ?_
                obtain ⟨o28, hk⟩ := hk
                refine px_iald 3264 C dX9_add_111 rfl rfl rfl rfl o28 ?_
                exact px_iret C hRt dX9_add_112 rfl rfl hk
              · replace hk := hk.2 c31
                refine px_aload_n (i := 0) C dX9_add_79 rfl rfl ?_
                refine px_iconst (v := (2 : Int32)) C dX9_add_80 rfl ?_
                refine px_callVi (h := 0) (rc' := 0) (rs' := 0) C (HR_le hHR (Nat.le_of_ble_eq_true rfl)) hRt hnT dX9_add_81 (gw8 144 rfl rfl) mv_X9_fails (w9_fails_ok (PCx_l C) (PCx_I C) hk) rfl rfl rfl rfl rfl (Nat.le_of_ble_eq_true rfl) (Nat.le_of_ble_eq_true rfl) (Nat.le_of_ble_eq_true rfl) (Nat.le_of_ble_eq_true rfl) ?_
                intro r30 μ29 hk
                exact px_iret C hRt dX9_add_84 rfl rfl hk
          · replace hk := hk.2 c35
            refine px_aload_n (i := 0) C dX9_add_53 rfl rfl ?_
            refine px_iconst (v := (1 : Int32)) C dX9_add_54 rfl ?_
            refine px_callVi (h := 0) (rc' := 0) (rs' := 0) C (HR_le hHR (Nat.le_of_ble_eq_true rfl)) hRt hnT dX9_add_55 (gw8 144 rfl rfl) mv_X9_fails (w9_fails_ok (PCx_l C) (PCx_I C) hk) rfl rfl rfl rfl rfl (Nat.le_of_ble_eq_true rfl) (Nat.le_of_ble_eq_true rfl) (Nat.le_of_ble_eq_true rfl) (Nat.le_of_ble_eq_true rfl) ?_
            intro r34 μ33 hk
            exact px_iret C hRt dX9_add_58 rfl rfl hk
theorem dX9_unlinks_0 : decode cX9_unlinks 0 = .ok (.aload_n 0, 1) := by decide +kernel
theorem dX9_unlinks_1 : decode cX9_unlinks 1 = .ok (.getfield 7, 3) := by decide +kernel
theorem dX9_unlinks_4 : decode cX9_unlinks 4 = .ok (.iconst 1, 1) := by decide +kernel
theorem dX9_unlinks_5 : decode cX9_unlinks 5 = .ok (.dup2, 1) := by decide +kernel
theorem dX9_unlinks_6 : decode cX9_unlinks 6 = .ok (.iaload, 1) := by decide +kernel
theorem dX9_unlinks_7 : decode cX9_unlinks 7 = .ok (.iconst 1, 1) := by decide +kernel
theorem dX9_unlinks_8 : decode cX9_unlinks 8 = .ok (.isub, 1) := by decide +kernel
theorem dX9_unlinks_9 : decode cX9_unlinks 9 = .ok (.iastore, 1) := by decide +kernel
theorem dX9_unlinks_10 : decode cX9_unlinks 10 = .ok (.iconst 2, 1) := by decide +kernel
theorem dX9_unlinks_11 : decode cX9_unlinks 11 = .ok (.iload_n 1, 1) := by decide +kernel
theorem dX9_unlinks_12 : decode cX9_unlinks 12 = .ok (.imul, 1) := by decide +kernel
theorem dX9_unlinks_13 : decode cX9_unlinks 13 = .ok (.istore_n 2, 1) := by decide +kernel
theorem dX9_unlinks_14 : decode cX9_unlinks 14 = .ok (.iload_n 2, 1) := by decide +kernel
theorem dX9_unlinks_15 : decode cX9_unlinks 15 = .ok (.iconst 2, 1) := by decide +kernel
theorem dX9_unlinks_16 : decode cX9_unlinks 16 = .ok (.aload_n 0, 1) := by decide +kernel
theorem dX9_unlinks_17 : decode cX9_unlinks 17 = .ok (.getfield 7, 3) := by decide +kernel
theorem dX9_unlinks_20 : decode cX9_unlinks 20 = .ok (.iconst 1, 1) := by decide +kernel
theorem dX9_unlinks_21 : decode cX9_unlinks 21 = .ok (.iaload, 1) := by decide +kernel
theorem dX9_unlinks_22 : decode cX9_unlinks 22 = .ok (.imul, 1) := by decide +kernel
theorem dX9_unlinks_23 : decode cX9_unlinks 23 = .ok (.if_icmp .ge 31, 3) := by decide +kernel
theorem dX9_unlinks_26 : decode cX9_unlinks 26 = .ok (.aload_n 0, 1) := by decide +kernel
theorem dX9_unlinks_27 : decode cX9_unlinks 27 = .ok (.getfield 7, 3) := by decide +kernel
theorem dX9_unlinks_30 : decode cX9_unlinks 30 = .ok (.sipush 282, 3) := by decide +kernel
theorem dX9_unlinks_33 : decode cX9_unlinks 33 = .ok (.iload_n 2, 1) := by decide +kernel
theorem dX9_unlinks_34 : decode cX9_unlinks 34 = .ok (.iadd, 1) := by decide +kernel
theorem dX9_unlinks_35 : decode cX9_unlinks 35 = .ok (.aload_n 0, 1) := by decide +kernel
theorem dX9_unlinks_36 : decode cX9_unlinks 36 = .ok (.getfield 7, 3) := by decide +kernel
theorem dX9_unlinks_39 : decode cX9_unlinks 39 = .ok (.sipush 282, 3) := by decide +kernel
theorem dX9_unlinks_42 : decode cX9_unlinks 42 = .ok (.iload_n 2, 1) := by decide +kernel
theorem dX9_unlinks_43 : decode cX9_unlinks 43 = .ok (.iadd, 1) := by decide +kernel
theorem dX9_unlinks_44 : decode cX9_unlinks 44 = .ok (.iconst 2, 1) := by decide +kernel
theorem dX9_unlinks_45 : decode cX9_unlinks 45 = .ok (.iadd, 1) := by decide +kernel
theorem dX9_unlinks_46 : decode cX9_unlinks 46 = .ok (.iaload, 1) := by decide +kernel
theorem dX9_unlinks_47 : decode cX9_unlinks 47 = .ok (.iastore, 1) := by decide +kernel
theorem dX9_unlinks_48 : decode cX9_unlinks 48 = .ok (.iinc 2 1, 3) := by decide +kernel
theorem dX9_unlinks_51 : decode cX9_unlinks 51 = .ok (.goto (-37), 3) := by decide +kernel
theorem dX9_unlinks_54 : decode cX9_unlinks 54 = .ok (.return_, 1) := by decide +kernel
set_option maxRecDepth 100000 in
set_option maxHeartbeats 4000000 in
theorem w9_unlinks_b14_ok {G : GT} {P : Mem → Prop} {X : String → Mem → Prop} (C : PCx G cX9_unlinks 3 RX9) (hRt : PRt G none (qV P) X) (hHR : HR G (0)) (hnT : NoT G) {μ : Mem} {l2 : Int32} (hk : w9_unlinks_b14 P μ l2) : PW G 0 0 14 [some (pR 50 0), none, some (pI l2)] [] μ := by
  refine hk (fun (μ : Mem) (l2 : Int32) => PW G 0 0 14 [some (pR 50 0), none, some (pI l2)] [] μ) (fun (μ : Mem) l2 hk => ?_)
  have hR14 : ∀ (μ : Mem) (l2 : Int32), PW G 0 0 14 [some (pR 50 0), none, some (pI l2)] [] μ → PW G 0 0 14 [some (pR 50 0), none, some (pI l2)] [] μ := fun _ _ h => h
  unfold w9_unlinks_b14_body at hk
  refine px_iload_n (i := 2) C dX9_unlinks_14 rfl rfl ?_
  refine px_iconst (v := (2 : Int32)) C dX9_unlinks_15 rfl ?_
  refine px_aload_n (i := 0) C dX9_unlinks_16 rfl rfl ?_
  refine px_getr C dX9_unlinks_17 fl_RX9_7 rfl rfl rfl ?_
  refine px_iconst (v := (1 : Int32)) C dX9_unlinks_20 rfl ?_
  obtain ⟨o4, hk⟩ := hk
  refine px_iald 3264 C dX9_unlinks_21 rfl rfl rfl rfl o4 ?_
  refine px_imul C dX9_unlinks_22 ?_
  refine px_icmp_ge (tgt := 54) C dX9_unlinks_23 (by decide) (fun c8 => ?_) (fun c8 => ?_)
  · replace hk := hk.1 c8
    exact px_vret C hRt dX9_unlinks_54 rfl hk
  · replace hk := hk.2 c8
    refine px_aload_n (i := 0) C dX9_unlinks_26 rfl rfl ?_
    refine px_getr C dX9_unlinks_27 fl_RX9_7 rfl rfl rfl ?_
    refine px_sipush (v := (282 : Int32)) C dX9_unlinks_30 rfl ?_
    refine px_iload_n (i := 2) C dX9_unlinks_33 rfl rfl ?_
    refine px_iadd C dX9_unlinks_34 ?_
    refine px_aload_n (i := 0) C dX9_unlinks_35 rfl rfl ?_
    refine px_getr C dX9_unlinks_36 fl_RX9_7 rfl rfl rfl ?_
    refine px_sipush (v := (282 : Int32)) C dX9_unlinks_39 rfl ?_
    refine px_iload_n (i := 2) C dX9_unlinks_42 rfl rfl ?_
    refine px_iadd C dX9_unlinks_43 ?_
    refine px_iconst (v := (2 : Int32)) C dX9_unlinks_44 rfl ?_
    refine px_iadd C dX9_unlinks_45 ?_
    obtain ⟨o5, hk⟩ := hk
    refine px_iald 3264 C dX9_unlinks_46 rfl rfl rfl rfl o5 ?_
    obtain ⟨o6, hk⟩ := hk
    replace hk := hk _ rfl
    refine px_iast 3264 C dX9_unlinks_47 rfl rfl rfl rfl o6 ?_
    refine px_iinc (i := 2) (v := (1 : Int32)) C dX9_unlinks_48 rfl rfl (by decide) rfl ?_
    refine px_goto (tgt := 14) C dX9_unlinks_51 (by decide) ?_
    exact PW_at (hR14 _ _ hk) (And.intro rfl (And.intro rfl trivial)) (Nat.le_of_ble_eq_true rfl) (Nat.le_of_ble_eq_true rfl)
set_option maxRecDepth 100000 in
set_option maxHeartbeats 4000000 in
theorem w9_unlinks_ok {l : Launch} {idx : List (Nat × Nat)} {μ : Mem} {a1 : Int32} {P : Mem → Prop} {X : String → Mem → Prop} (hl : l.stackTraces = false) (hI : IdxOK idx) (hk : w9_unlinks_wp μ a1 P) : PMet l yX9_unlinks (.code yX9_unlinks cX9_unlinks 3 none) 0 0 0 idx [pR 50 0, pI a1] μ (qV P) X := by
  refine PMet_of mv_X9_unlinks.2.2.2.2.2.2 hl hI mv_X9_unlinks.2.2.2.1 rfl (Nat.le_of_ble_eq_true rfl) (fun G _ _ C hRt hHR hnT => ?_)
  show PW G 0 0 0 [some (pR 50 0), some (pI a1), none] [] μ
  unfold w9_unlinks_wp at hk
  refine px_aload_n (i := 0) C dX9_unlinks_0 rfl rfl ?_
  refine px_getr C dX9_unlinks_1 fl_RX9_7 rfl rfl rfl ?_
  refine px_iconst (v := (1 : Int32)) C dX9_unlinks_4 rfl ?_
  refine px_dup2 C dX9_unlinks_5 rfl rfl ?_
  obtain ⟨o1, hk⟩ := hk
  refine px_iald 3264 C dX9_unlinks_6 rfl rfl rfl rfl o1 ?_
  refine px_iconst (v := (1 : Int32)) C dX9_unlinks_7 rfl ?_
  refine px_isub C dX9_unlinks_8 ?_
  obtain ⟨o2, hk⟩ := hk
  replace hk := hk _ rfl
  refine px_iast 3264 C dX9_unlinks_9 rfl rfl rfl rfl o2 ?_
  refine px_iconst (v := (2 : Int32)) C dX9_unlinks_10 rfl ?_
  refine px_iload_n (i := 1) C dX9_unlinks_11 rfl rfl ?_
  refine px_imul C dX9_unlinks_12 ?_
  refine px_istore_n (i := 2) C dX9_unlinks_13 rfl (by decide) rfl ?_
  exact PW_at (w9_unlinks_b14_ok C hRt hHR hnT hk) (And.intro rfl (And.intro rfl trivial)) (Nat.le_of_ble_eq_true rfl) (Nat.le_of_ble_eq_true rfl)
theorem dX9_remove_0 : decode cX9_remove 0 = .ok (.aload_n 0, 1) := by decide +kernel
theorem dX9_remove_1 : decode cX9_remove 1 = .ok (.iload_n 1, 1) := by decide +kernel
theorem dX9_remove_2 : decode cX9_remove 2 = .ok (.invokevirtual 216, 3) := by decide +kernel
theorem dX9_remove_5 : decode cX9_remove 5 = .ok (.istore_n 2, 1) := by decide +kernel
theorem dX9_remove_6 : decode cX9_remove 6 = .ok (.aload_n 0, 1) := by decide +kernel
theorem dX9_remove_7 : decode cX9_remove 7 = .ok (.getfield 80, 3) := by decide +kernel
theorem dX9_remove_10 : decode cX9_remove 10 = .ok (.ifCond .le 5, 3) := by decide +kernel
theorem dX9_remove_13 : decode cX9_remove 13 = .ok (.iconst 0, 1) := by decide +kernel
theorem dX9_remove_14 : decode cX9_remove 14 = .ok (.ireturn, 1) := by decide +kernel
theorem dX9_remove_15 : decode cX9_remove 15 = .ok (.aload_n 0, 1) := by decide +kernel
theorem dX9_remove_16 : decode cX9_remove 16 = .ok (.invokevirtual 206, 3) := by decide +kernel
theorem dX9_remove_19 : decode cX9_remove 19 = .ok (.aload_n 0, 1) := by decide +kernel
theorem dX9_remove_20 : decode cX9_remove 20 = .ok (.getfield 7, 3) := by decide +kernel
theorem dX9_remove_23 : decode cX9_remove 23 = .ok (.iconst 0, 1) := by decide +kernel
theorem dX9_remove_24 : decode cX9_remove 24 = .ok (.dup2, 1) := by decide +kernel
theorem dX9_remove_25 : decode cX9_remove 25 = .ok (.iaload, 1) := by decide +kernel
theorem dX9_remove_26 : decode cX9_remove 26 = .ok (.iconst 1, 1) := by decide +kernel
theorem dX9_remove_27 : decode cX9_remove 27 = .ok (.isub, 1) := by decide +kernel
theorem dX9_remove_28 : decode cX9_remove 28 = .ok (.iastore, 1) := by decide +kernel
theorem dX9_remove_29 : decode cX9_remove 29 = .ok (.bipush 7, 2) := by decide +kernel
theorem dX9_remove_31 : decode cX9_remove 31 = .ok (.iload_n 2, 1) := by decide +kernel
theorem dX9_remove_32 : decode cX9_remove 32 = .ok (.imul, 1) := by decide +kernel
theorem dX9_remove_33 : decode cX9_remove 33 = .ok (.istore_n 3, 1) := by decide +kernel
theorem dX9_remove_34 : decode cX9_remove 34 = .ok (.iload_n 3, 1) := by decide +kernel
theorem dX9_remove_35 : decode cX9_remove 35 = .ok (.bipush 7, 2) := by decide +kernel
theorem dX9_remove_37 : decode cX9_remove 37 = .ok (.aload_n 0, 1) := by decide +kernel
theorem dX9_remove_38 : decode cX9_remove 38 = .ok (.getfield 7, 3) := by decide +kernel
theorem dX9_remove_41 : decode cX9_remove 41 = .ok (.iconst 0, 1) := by decide +kernel
theorem dX9_remove_42 : decode cX9_remove 42 = .ok (.iaload, 1) := by decide +kernel
theorem dX9_remove_43 : decode cX9_remove 43 = .ok (.imul, 1) := by decide +kernel
theorem dX9_remove_44 : decode cX9_remove 44 = .ok (.if_icmp .ge 28, 3) := by decide +kernel
theorem dX9_remove_47 : decode cX9_remove 47 = .ok (.aload_n 0, 1) := by decide +kernel
theorem dX9_remove_48 : decode cX9_remove 48 = .ok (.getfield 7, 3) := by decide +kernel
theorem dX9_remove_51 : decode cX9_remove 51 = .ok (.iconst 2, 1) := by decide +kernel
theorem dX9_remove_52 : decode cX9_remove 52 = .ok (.iload_n 3, 1) := by decide +kernel
theorem dX9_remove_53 : decode cX9_remove 53 = .ok (.iadd, 1) := by decide +kernel
theorem dX9_remove_54 : decode cX9_remove 54 = .ok (.aload_n 0, 1) := by decide +kernel
theorem dX9_remove_55 : decode cX9_remove 55 = .ok (.getfield 7, 3) := by decide +kernel
theorem dX9_remove_58 : decode cX9_remove 58 = .ok (.iconst 2, 1) := by decide +kernel
theorem dX9_remove_59 : decode cX9_remove 59 = .ok (.iload_n 3, 1) := by decide +kernel
theorem dX9_remove_60 : decode cX9_remove 60 = .ok (.iadd, 1) := by decide +kernel
theorem dX9_remove_61 : decode cX9_remove 61 = .ok (.bipush 7, 2) := by decide +kernel
theorem dX9_remove_63 : decode cX9_remove 63 = .ok (.iadd, 1) := by decide +kernel
theorem dX9_remove_64 : decode cX9_remove 64 = .ok (.iaload, 1) := by decide +kernel
theorem dX9_remove_65 : decode cX9_remove 65 = .ok (.iastore, 1) := by decide +kernel
theorem dX9_remove_66 : decode cX9_remove 66 = .ok (.iinc 3 1, 3) := by decide +kernel
theorem dX9_remove_69 : decode cX9_remove 69 = .ok (.goto (-35), 3) := by decide +kernel
theorem dX9_remove_72 : decode cX9_remove 72 = .ok (.aload_n 0, 1) := by decide +kernel
theorem dX9_remove_73 : decode cX9_remove 73 = .ok (.getfield 7, 3) := by decide +kernel
theorem dX9_remove_76 : decode cX9_remove 76 = .ok (.iconst 1, 1) := by decide +kernel
theorem dX9_remove_77 : decode cX9_remove 77 = .ok (.iaload, 1) := by decide +kernel
theorem dX9_remove_78 : decode cX9_remove 78 = .ok (.iconst 1, 1) := by decide +kernel
theorem dX9_remove_79 : decode cX9_remove 79 = .ok (.isub, 1) := by decide +kernel
theorem dX9_remove_80 : decode cX9_remove 80 = .ok (.istore_n 3, 1) := by decide +kernel
theorem dX9_remove_81 : decode cX9_remove 81 = .ok (.iload_n 3, 1) := by decide +kernel
theorem dX9_remove_82 : decode cX9_remove 82 = .ok (.ifCond .lt 48, 3) := by decide +kernel
theorem dX9_remove_85 : decode cX9_remove 85 = .ok (.aload_n 0, 1) := by decide +kernel
theorem dX9_remove_86 : decode cX9_remove 86 = .ok (.getfield 7, 3) := by decide +kernel
theorem dX9_remove_89 : decode cX9_remove 89 = .ok (.sipush 282, 3) := by decide +kernel
theorem dX9_remove_92 : decode cX9_remove 92 = .ok (.iconst 2, 1) := by decide +kernel
theorem dX9_remove_93 : decode cX9_remove 93 = .ok (.iload_n 3, 1) := by decide +kernel
theorem dX9_remove_94 : decode cX9_remove 94 = .ok (.imul, 1) := by decide +kernel
theorem dX9_remove_95 : decode cX9_remove 95 = .ok (.iadd, 1) := by decide +kernel
theorem dX9_remove_96 : decode cX9_remove 96 = .ok (.iaload, 1) := by decide +kernel
theorem dX9_remove_97 : decode cX9_remove 97 = .ok (.iload_n 1, 1) := by decide +kernel
theorem dX9_remove_98 : decode cX9_remove 98 = .ok (.if_icmp .eq 21, 3) := by decide +kernel
theorem dX9_remove_101 : decode cX9_remove 101 = .ok (.aload_n 0, 1) := by decide +kernel
theorem dX9_remove_102 : decode cX9_remove 102 = .ok (.getfield 7, 3) := by decide +kernel
theorem dX9_remove_105 : decode cX9_remove 105 = .ok (.sipush 282, 3) := by decide +kernel
theorem dX9_remove_108 : decode cX9_remove 108 = .ok (.iconst 2, 1) := by decide +kernel
theorem dX9_remove_109 : decode cX9_remove 109 = .ok (.iload_n 3, 1) := by decide +kernel
theorem dX9_remove_110 : decode cX9_remove 110 = .ok (.imul, 1) := by decide +kernel
theorem dX9_remove_111 : decode cX9_remove 111 = .ok (.iadd, 1) := by decide +kernel
theorem dX9_remove_112 : decode cX9_remove 112 = .ok (.iconst 1, 1) := by decide +kernel
theorem dX9_remove_113 : decode cX9_remove 113 = .ok (.iadd, 1) := by decide +kernel
theorem dX9_remove_114 : decode cX9_remove 114 = .ok (.iaload, 1) := by decide +kernel
theorem dX9_remove_115 : decode cX9_remove 115 = .ok (.iload_n 1, 1) := by decide +kernel
theorem dX9_remove_116 : decode cX9_remove 116 = .ok (.if_icmp .ne 8, 3) := by decide +kernel
theorem dX9_remove_119 : decode cX9_remove 119 = .ok (.aload_n 0, 1) := by decide +kernel
theorem dX9_remove_120 : decode cX9_remove 120 = .ok (.iload_n 3, 1) := by decide +kernel
theorem dX9_remove_121 : decode cX9_remove 121 = .ok (.invokevirtual 219, 3) := by decide +kernel
theorem dX9_remove_124 : decode cX9_remove 124 = .ok (.iinc 3 (-1), 3) := by decide +kernel
theorem dX9_remove_127 : decode cX9_remove 127 = .ok (.goto (-46), 3) := by decide +kernel
theorem dX9_remove_130 : decode cX9_remove 130 = .ok (.aload_n 0, 1) := by decide +kernel
theorem dX9_remove_131 : decode cX9_remove 131 = .ok (.invokevirtual 213, 3) := by decide +kernel
theorem dX9_remove_134 : decode cX9_remove 134 = .ok (.aload_n 0, 1) := by decide +kernel
theorem dX9_remove_135 : decode cX9_remove 135 = .ok (.getfield 7, 3) := by decide +kernel
theorem dX9_remove_138 : decode cX9_remove 138 = .ok (.iconst 0, 1) := by decide +kernel
theorem dX9_remove_139 : decode cX9_remove 139 = .ok (.iaload, 1) := by decide +kernel
theorem dX9_remove_140 : decode cX9_remove 140 = .ok (.ireturn, 1) := by decide +kernel
set_option maxRecDepth 100000 in
set_option maxHeartbeats 4000000 in
theorem w9_remove_b81_ok {G : GT} {P : Int32 → Mem → Prop} {X : String → Mem → Prop} (C : PCx G cX9_remove 4 RX9) (hRt : PRt G (some .int) (qI P) X) (hHR : HR G (3)) (hnT : NoT G) {μ : Mem} {l1 : Int32} {l3 : Int32} (hk : w9_remove_b81 P μ l1 l3) : PW G 0 0 81 [some (pR 50 0), some (pI l1), none, some (pI l3)] [] μ := by
  refine hk (fun (μ : Mem) (l1 : Int32) (l3 : Int32) => PW G 0 0 81 [some (pR 50 0), some (pI l1), none, some (pI l3)] [] μ) (fun (μ : Mem) l1 l3 hk => ?_)
  have hR81 : ∀ (μ : Mem) (l1 : Int32) (l3 : Int32), PW G 0 0 81 [some (pR 50 0), some (pI l1), none, some (pI l3)] [] μ → PW G 0 0 81 [some (pR 50 0), some (pI l1), none, some (pI l3)] [] μ := fun _ _ _ h => h
  unfold w9_remove_b81_body at hk
  refine px_iload_n (i := 3) C dX9_remove_81 rfl rfl ?_
  refine px_if_lt (tgt := 130) C dX9_remove_82 (by decide) (fun c17 => ?_) (fun c17 => ?_)
  · replace hk := hk.1 c17
    refine px_aload_n (i := 0) C dX9_remove_130 rfl rfl ?_
    refine px_callVv (h := 0) (rc' := 0) (rs' := 0) C (HR_le hHR (Nat.le_of_ble_eq_true rfl)) hRt hnT dX9_remove_131 (gw8 168 rfl rfl) mv_X9_remembers (w9_remembers_ok (PCx_l C) (PCx_I C) hk) rfl rfl rfl rfl rfl (Nat.le_of_ble_eq_true rfl) (Nat.le_of_ble_eq_true rfl) (Nat.le_of_ble_eq_true rfl) (Nat.le_of_ble_eq_true rfl) ?_
    intro μ9 hk
    refine px_aload_n (i := 0) C dX9_remove_134 rfl rfl ?_
    refine px_getr C dX9_remove_135 fl_RX9_7 rfl rfl rfl ?_
    refine px_iconst (v := (0 : Int32)) C dX9_remove_138 rfl ?_
    obtain ⟨o10, hk⟩ := hk
    refine px_iald 3264 C dX9_remove_139 rfl rfl rfl rfl o10 ?_
    exact px_iret C hRt dX9_remove_140 rfl rfl hk
  · replace hk := hk.2 c17
    refine px_aload_n (i := 0) C dX9_remove_85 rfl rfl ?_
    refine px_getr C dX9_remove_86 fl_RX9_7 rfl rfl rfl ?_
    refine px_sipush (v := (282 : Int32)) C dX9_remove_89 rfl ?_
    refine px_iconst (v := (2 : Int32)) C dX9_remove_92 rfl ?_
    refine px_iload_n (i := 3) C dX9_remove_93 rfl rfl ?_
    refine px_imul C dX9_remove_94 ?_
    refine px_iadd C dX9_remove_95 ?_
    obtain ⟨o11, hk⟩ := hk
    refine px_iald 3264 C dX9_remove_96 rfl rfl rfl rfl o11 ?_
    refine px_iload_n (i := 1) C dX9_remove_97 rfl rfl ?_
    refine px_icmp_eq (tgt := 119) C dX9_remove_98 (by decide) (fun c16 => ?_) (fun c16 => ?_)
    · replace hk := hk.1 c16
      refine px_aload_n (i := 0) C dX9_remove_119 rfl rfl ?_
      refine px_iload_n (i := 3) C dX9_remove_120 rfl rfl ?_
      refine px_callVv (h := 0) (rc' := 0) (rs' := 0) C (HR_le hHR (Nat.le_of_ble_eq_true rfl)) hRt hnT dX9_remove_121 (gw8 180 rfl rfl) mv_X9_unlinks (w9_unlinks_ok (PCx_l C) (PCx_I C) hk) rfl rfl rfl rfl rfl (Nat.le_of_ble_eq_true rfl) (Nat.le_of_ble_eq_true rfl) (Nat.le_of_ble_eq_true rfl) (Nat.le_of_ble_eq_true rfl) ?_
      intro μ12 hk
      refine px_iinc (i := 3) (v := (-1 : Int32)) C dX9_remove_124 rfl rfl (by decide) rfl ?_
      refine px_goto (tgt := 81) C dX9_remove_127 (by decide) ?_
      exact PW_at (hR81 _ _ _ hk) (And.intro rfl (And.intro rfl (And.intro rfl trivial))) (Nat.le_of_ble_eq_true rfl) (Nat.le_of_ble_eq_true rfl)
    · replace hk := hk.2 c16
      refine px_aload_n (i := 0) C dX9_remove_101 rfl rfl ?_
      refine px_getr C dX9_remove_102 fl_RX9_7 rfl rfl rfl ?_
      refine px_sipush (v := (282 : Int32)) C dX9_remove_105 rfl ?_
      refine px_iconst (v := (2 : Int32)) C dX9_remove_108 rfl ?_
      refine px_iload_n (i := 3) C dX9_remove_109 rfl rfl ?_
      refine px_imul C dX9_remove_110 ?_
      refine px_iadd C dX9_remove_111 ?_
      refine px_iconst (v := (1 : Int32)) C dX9_remove_112 rfl ?_
      refine px_iadd C dX9_remove_113 ?_
      obtain ⟨o13, hk⟩ := hk
      refine px_iald 3264 C dX9_remove_114 rfl rfl rfl rfl o13 ?_
      refine px_iload_n (i := 1) C dX9_remove_115 rfl rfl ?_
      refine px_icmp_ne (tgt := 124) C dX9_remove_116 (by decide) (fun c15 => ?_) (fun c15 => ?_)
      · replace hk := hk.1 c15
        refine px_iinc (i := 3) (v := (-1 : Int32)) C dX9_remove_124 rfl rfl (by decide) rfl ?_
        refine px_goto (tgt := 81) C dX9_remove_127 (by decide) ?_
        exact PW_at (hR81 _ _ _ hk) (And.intro rfl (And.intro rfl (And.intro rfl trivial))) (Nat.le_of_ble_eq_true rfl) (Nat.le_of_ble_eq_true rfl)
      · replace hk := hk.2 c15
        refine px_aload_n (i := 0) C dX9_remove_119 rfl rfl ?_
        refine px_iload_n (i := 3) C dX9_remove_120 rfl rfl ?_
        refine px_callVv (h := 0) (rc' := 0) (rs' := 0) C (HR_le hHR (Nat.le_of_ble_eq_true rfl)) hRt hnT dX9_remove_121 (gw8 180 rfl rfl) mv_X9_unlinks (w9_unlinks_ok (PCx_l C) (PCx_I C) hk) rfl rfl rfl rfl rfl (Nat.le_of_ble_eq_true rfl) (Nat.le_of_ble_eq_true rfl) (Nat.le_of_ble_eq_true rfl) (Nat.le_of_ble_eq_true rfl) ?_
        intro μ14 hk
        refine px_iinc (i := 3) (v := (-1 : Int32)) C dX9_remove_124 rfl rfl (by decide) rfl ?_
        refine px_goto (tgt := 81) C dX9_remove_127 (by decide) ?_
        exact PW_at (hR81 _ _ _ hk) (And.intro rfl (And.intro rfl (And.intro rfl trivial))) (Nat.le_of_ble_eq_true rfl) (Nat.le_of_ble_eq_true rfl)
set_option maxRecDepth 100000 in
set_option maxHeartbeats 4000000 in
theorem w9_remove_b34_ok {G : GT} {P : Int32 → Mem → Prop} {X : String → Mem → Prop} (C : PCx G cX9_remove 4 RX9) (hRt : PRt G (some .int) (qI P) X) (hHR : HR G (3)) (hnT : NoT G) {μ : Mem} {l1 : Int32} {l3 : Int32} (hk : w9_remove_b34 P μ l1 l3) : PW G 0 0 34 [some (pR 50 0), some (pI l1), none, some (pI l3)] [] μ := by
  refine hk (fun (μ : Mem) (l1 : Int32) (l3 : Int32) => PW G 0 0 34 [some (pR 50 0), some (pI l1), none, some (pI l3)] [] μ) (fun (μ : Mem) l1 l3 hk => ?_)
  have hR34 : ∀ (μ : Mem) (l1 : Int32) (l3 : Int32), PW G 0 0 34 [some (pR 50 0), some (pI l1), none, some (pI l3)] [] μ → PW G 0 0 34 [some (pR 50 0), some (pI l1), none, some (pI l3)] [] μ := fun _ _ _ h => h
  unfold w9_remove_b34_body at hk
  refine px_iload_n (i := 3) C dX9_remove_34 rfl rfl ?_
  refine px_bipush (v := (7 : Int32)) C dX9_remove_35 rfl ?_
  refine px_aload_n (i := 0) C dX9_remove_37 rfl rfl ?_
  refine px_getr C dX9_remove_38 fl_RX9_7 rfl rfl rfl ?_
  refine px_iconst (v := (0 : Int32)) C dX9_remove_41 rfl ?_
  obtain ⟨o7, hk⟩ := hk
  refine px_iald 3264 C dX9_remove_42 rfl rfl rfl rfl o7 ?_
  refine px_imul C dX9_remove_43 ?_
  refine px_icmp_ge (tgt := 72) C dX9_remove_44 (by decide) (fun c21 => ?_) (fun c21 => ?_)
  · replace hk := hk.1 c21
    refine px_aload_n (i := 0) C dX9_remove_72 rfl rfl ?_
    refine px_getr C dX9_remove_73 fl_RX9_7 rfl rfl rfl ?_
    refine px_iconst (v := (1 : Int32)) C dX9_remove_76 rfl ?_
    obtain ⟨o8, hk⟩ := hk
    refine px_iald 3264 C dX9_remove_77 rfl rfl rfl rfl o8 ?_
    refine px_iconst (v := (1 : Int32)) C dX9_remove_78 rfl ?_
    refine px_isub C dX9_remove_79 ?_
    refine px_istore_n (i := 3) C dX9_remove_80 rfl (by decide) rfl ?_
    exact PW_at (w9_remove_b81_ok C hRt hHR hnT hk) (And.intro rfl (And.intro rfl (And.intro rfl trivial))) (Nat.le_of_ble_eq_true rfl) (Nat.le_of_ble_eq_true rfl)
  · replace hk := hk.2 c21
    refine px_aload_n (i := 0) C dX9_remove_47 rfl rfl ?_
    refine px_getr C dX9_remove_48 fl_RX9_7 rfl rfl rfl ?_
    refine px_iconst (v := (2 : Int32)) C dX9_remove_51 rfl ?_
    refine px_iload_n (i := 3) C dX9_remove_52 rfl rfl ?_
    refine px_iadd C dX9_remove_53 ?_
    refine px_aload_n (i := 0) C dX9_remove_54 rfl rfl ?_
    refine px_getr C dX9_remove_55 fl_RX9_7 rfl rfl rfl ?_
    refine px_iconst (v := (2 : Int32)) C dX9_remove_58 rfl ?_
    refine px_iload_n (i := 3) C dX9_remove_59 rfl rfl ?_
    refine px_iadd C dX9_remove_60 ?_
    refine px_bipush (v := (7 : Int32)) C dX9_remove_61 rfl ?_
    refine px_iadd C dX9_remove_63 ?_
    obtain ⟨o18, hk⟩ := hk
    refine px_iald 3264 C dX9_remove_64 rfl rfl rfl rfl o18 ?_
    obtain ⟨o19, hk⟩ := hk
    replace hk := hk _ rfl
    refine px_iast 3264 C dX9_remove_65 rfl rfl rfl rfl o19 ?_
    refine px_iinc (i := 3) (v := (1 : Int32)) C dX9_remove_66 rfl rfl (by decide) rfl ?_
    refine px_goto (tgt := 34) C dX9_remove_69 (by decide) ?_
    exact PW_at (hR34 _ _ _ hk) (And.intro rfl (And.intro rfl (And.intro rfl trivial))) (Nat.le_of_ble_eq_true rfl) (Nat.le_of_ble_eq_true rfl)
set_option maxRecDepth 100000 in
set_option maxHeartbeats 4000000 in
theorem w9_remove_ok {l : Launch} {idx : List (Nat × Nat)} {μ : Mem} {a1 : Int32} {P : Int32 → Mem → Prop} {X : String → Mem → Prop} (hl : l.stackTraces = false) (hI : IdxOK idx) (hk : w9_remove_wp μ a1 P) : PMet l yX9_remove (.code yX9_remove cX9_remove 4 (some .int)) 3 0 0 idx [pR 50 0, pI a1] μ (qI P) X := by
  refine PMet_of mv_X9_remove.2.2.2.2.2.2 hl hI mv_X9_remove.2.2.2.1 rfl (Nat.le_of_ble_eq_true rfl) (fun G _ _ C hRt hHR hnT => ?_)
  show PW G 0 0 0 [some (pR 50 0), some (pI a1), none, none] [] μ
  unfold w9_remove_wp at hk
  refine px_aload_n (i := 0) C dX9_remove_0 rfl rfl ?_
  refine px_iload_n (i := 1) C dX9_remove_1 rfl rfl ?_
  refine px_callVi (h := 2) (rc' := 0) (rs' := 0) C (HR_le hHR (Nat.le_of_ble_eq_true rfl)) hRt hnT dX9_remove_2 (gw8 176 rfl rfl) mv_X9_spanOr (w9_spanOr_ok (PCx_l C) (PCx_I C) hk) rfl rfl rfl rfl rfl (Nat.le_of_ble_eq_true rfl) (Nat.le_of_ble_eq_true rfl) (Nat.le_of_ble_eq_true rfl) (Nat.le_of_ble_eq_true rfl) ?_
  intro r2 μ1 hk
  refine px_istore_n (i := 2) C dX9_remove_5 rfl (by decide) rfl ?_
  refine px_aload_n (i := 0) C dX9_remove_6 rfl rfl ?_
  refine px_geti 3201 C dX9_remove_7 fl_RX9_80 rfl rfl rfl rfl ?_
  refine px_if_le (tgt := 15) C dX9_remove_10 (by decide) (fun c22 => ?_) (fun c22 => ?_)
  · replace hk := hk.1 c22
    refine px_aload_n (i := 0) C dX9_remove_15 rfl rfl ?_
    refine px_callVv (h := 0) (rc' := 0) (rs' := 0) C (HR_le hHR (Nat.le_of_ble_eq_true rfl)) hRt hnT dX9_remove_16 (gw8 156 rfl rfl) mv_X9_frames (w9_frames_ok (PCx_l C) (PCx_I C) hk) rfl rfl rfl rfl rfl (Nat.le_of_ble_eq_true rfl) (Nat.le_of_ble_eq_true rfl) (Nat.le_of_ble_eq_true rfl) (Nat.le_of_ble_eq_true rfl) ?_
    intro μ3 hk
    refine px_aload_n (i := 0) C dX9_remove_19 rfl rfl ?_
    refine px_getr C dX9_remove_20 fl_RX9_7 rfl rfl rfl ?_
    refine px_iconst (v := (0 : Int32)) C dX9_remove_23 rfl ?_
    refine px_dup2 C dX9_remove_24 rfl rfl ?_
    obtain ⟨o4, hk⟩ := hk
    refine px_iald 3264 C dX9_remove_25 rfl rfl rfl rfl o4 ?_
    refine px_iconst (v := (1 : Int32)) C dX9_remove_26 rfl ?_
    refine px_isub C dX9_remove_27 ?_
    obtain ⟨o5, hk⟩ := hk
    replace hk := hk _ rfl
    refine px_iast 3264 C dX9_remove_28 rfl rfl rfl rfl o5 ?_
    refine px_bipush (v := (7 : Int32)) C dX9_remove_29 rfl ?_
    refine px_iload_n (i := 2) C dX9_remove_31 rfl rfl ?_
    refine px_imul C dX9_remove_32 ?_
    refine px_istore_n (i := 3) C dX9_remove_33 rfl (by decide) rfl ?_
    exact PW_at (w9_remove_b34_ok C hRt hHR hnT hk) (And.intro rfl (And.intro rfl (And.intro rfl trivial))) (Nat.le_of_ble_eq_true rfl) (Nat.le_of_ble_eq_true rfl)
  · replace hk := hk.2 c22
    refine px_iconst (v := (0 : Int32)) C dX9_remove_13 rfl ?_
    exact px_iret C hRt dX9_remove_14 rfl rfl hk
theorem dX9_setParent_0 : decode cX9_setParent 0 = .ok (.aload_n 0, 1) := by decide +kernel
theorem dX9_setParent_1 : decode cX9_setParent 1 = .ok (.iload_n 1, 1) := by decide +kernel
theorem dX9_setParent_2 : decode cX9_setParent 2 = .ok (.invokevirtual 216, 3) := by decide +kernel
theorem dX9_setParent_5 : decode cX9_setParent 5 = .ok (.istore_n 3, 1) := by decide +kernel
theorem dX9_setParent_6 : decode cX9_setParent 6 = .ok (.aload_n 0, 1) := by decide +kernel
theorem dX9_setParent_7 : decode cX9_setParent 7 = .ok (.getfield 80, 3) := by decide +kernel
theorem dX9_setParent_10 : decode cX9_setParent 10 = .ok (.ifCond .le 5, 3) := by decide +kernel
theorem dX9_setParent_13 : decode cX9_setParent 13 = .ok (.iconst 0, 1) := by decide +kernel
theorem dX9_setParent_14 : decode cX9_setParent 14 = .ok (.ireturn, 1) := by decide +kernel
theorem dX9_setParent_15 : decode cX9_setParent 15 = .ok (.iload_n 2, 1) := by decide +kernel
theorem dX9_setParent_16 : decode cX9_setParent 16 = .ok (.iconst (-1), 1) := by decide +kernel
theorem dX9_setParent_17 : decode cX9_setParent 17 = .ok (.bipush 99, 2) := by decide +kernel
theorem dX9_setParent_19 : decode cX9_setParent 19 = .ok (.invokestatic 140, 3) := by decide +kernel
theorem dX9_setParent_22 : decode cX9_setParent 22 = .ok (.ifCond .ne 9, 3) := by decide +kernel
theorem dX9_setParent_25 : decode cX9_setParent 25 = .ok (.aload_n 0, 1) := by decide +kernel
theorem dX9_setParent_26 : decode cX9_setParent 26 = .ok (.iconst 2, 1) := by decide +kernel
theorem dX9_setParent_27 : decode cX9_setParent 27 = .ok (.invokevirtual 203, 3) := by decide +kernel
theorem dX9_setParent_30 : decode cX9_setParent 30 = .ok (.ireturn, 1) := by decide +kernel
theorem dX9_setParent_31 : decode cX9_setParent 31 = .ok (.aload_n 0, 1) := by decide +kernel
theorem dX9_setParent_32 : decode cX9_setParent 32 = .ok (.invokevirtual 206, 3) := by decide +kernel
theorem dX9_setParent_35 : decode cX9_setParent 35 = .ok (.aload_n 0, 1) := by decide +kernel
theorem dX9_setParent_36 : decode cX9_setParent 36 = .ok (.iload_n 3, 1) := by decide +kernel
theorem dX9_setParent_37 : decode cX9_setParent 37 = .ok (.iconst 2, 1) := by decide +kernel
theorem dX9_setParent_38 : decode cX9_setParent 38 = .ok (.invokevirtual 83, 3) := by decide +kernel
theorem dX9_setParent_41 : decode cX9_setParent 41 = .ok (.istore 4, 2) := by decide +kernel
theorem dX9_setParent_43 : decode cX9_setParent 43 = .ok (.aload_n 0, 1) := by decide +kernel
theorem dX9_setParent_44 : decode cX9_setParent 44 = .ok (.iload_n 3, 1) := by decide +kernel
theorem dX9_setParent_45 : decode cX9_setParent 45 = .ok (.iconst 2, 1) := by decide +kernel
theorem dX9_setParent_46 : decode cX9_setParent 46 = .ok (.iload_n 2, 1) := by decide +kernel
theorem dX9_setParent_47 : decode cX9_setParent 47 = .ok (.invokevirtual 197, 3) := by decide +kernel
theorem dX9_setParent_50 : decode cX9_setParent 50 = .ok (.aload_n 0, 1) := by decide +kernel
theorem dX9_setParent_51 : decode cX9_setParent 51 = .ok (.invokevirtual 213, 3) := by decide +kernel
theorem dX9_setParent_54 : decode cX9_setParent 54 = .ok (.iload 4, 2) := by decide +kernel
theorem dX9_setParent_56 : decode cX9_setParent 56 = .ok (.ireturn, 1) := by decide +kernel
set_option maxRecDepth 100000 in
set_option maxHeartbeats 4000000 in
theorem w9_setParent_ok {l : Launch} {idx : List (Nat × Nat)} {μ : Mem} {a1 : Int32} {a2 : Int32} {P : Int32 → Mem → Prop} {X : String → Mem → Prop} (hl : l.stackTraces = false) (hI : IdxOK idx) (hk : w9_setParent_wp μ a1 a2 P) : PMet l yX9_setParent (.code yX9_setParent cX9_setParent 5 (some .int)) 3 0 0 idx [pR 50 0, pI a1, pI a2] μ (qI P) X := by
  refine PMet_of mv_X9_setParent.2.2.2.2.2.2 hl hI mv_X9_setParent.2.2.2.1 rfl (Nat.le_of_ble_eq_true rfl) (fun G _ _ C hRt hHR hnT => ?_)
  show PW G 0 0 0 [some (pR 50 0), some (pI a1), some (pI a2), none, none] [] μ
  unfold w9_setParent_wp at hk
  refine px_aload_n (i := 0) C dX9_setParent_0 rfl rfl ?_
  refine px_iload_n (i := 1) C dX9_setParent_1 rfl rfl ?_
  refine px_callVi (h := 2) (rc' := 0) (rs' := 0) C (HR_le hHR (Nat.le_of_ble_eq_true rfl)) hRt hnT dX9_setParent_2 (gw8 176 rfl rfl) mv_X9_spanOr (w9_spanOr_ok (PCx_l C) (PCx_I C) hk) rfl rfl rfl rfl rfl (Nat.le_of_ble_eq_true rfl) (Nat.le_of_ble_eq_true rfl) (Nat.le_of_ble_eq_true rfl) (Nat.le_of_ble_eq_true rfl) ?_
  intro r2 μ1 hk
  refine px_istore_n (i := 3) C dX9_setParent_5 rfl (by decide) rfl ?_
  refine px_aload_n (i := 0) C dX9_setParent_6 rfl rfl ?_
  refine px_geti 3201 C dX9_setParent_7 fl_RX9_80 rfl rfl rfl rfl ?_
  refine px_if_le (tgt := 15) C dX9_setParent_10 (by decide) (fun c13 => ?_) (fun c13 => ?_)
  · replace hk := hk.1 c13
    refine px_iload_n (i := 2) C dX9_setParent_15 rfl rfl ?_
    refine px_iconst (v := (-1 : Int32)) C dX9_setParent_16 rfl ?_
    refine px_bipush (v := (99 : Int32)) C dX9_setParent_17 rfl ?_
    refine px_callSi (h := 0) (rc' := 0) (rs' := 0) C (HR_le hHR (Nat.le_of_ble_eq_true rfl)) hRt hnT dX9_setParent_19 (gw8 138 rfl rfl) ms_X9_in (w9_in_ok (PCx_l C) (PCx_I C) hk) rfl rfl (Nat.le_of_ble_eq_true rfl) (Nat.le_of_ble_eq_true rfl) (Nat.le_of_ble_eq_true rfl) (Nat.le_of_ble_eq_true rfl) ?_
    intro r4 μ3 hk
    refine px_if_ne (tgt := 31) C dX9_setParent_22 (by decide) (fun c12 => ?_) (fun c12 => ?_)
    · replace hk := hk.1 c12
      refine px_aload_n (i := 0) C dX9_setParent_31 rfl rfl ?_
      refine px_callVv (h := 0) (rc' := 0) (rs' := 0) C (HR_le hHR (Nat.le_of_ble_eq_true rfl)) hRt hnT dX9_setParent_32 (gw8 156 rfl rfl) mv_X9_frames (w9_frames_ok (PCx_l C) (PCx_I C) hk) rfl rfl rfl rfl rfl (Nat.le_of_ble_eq_true rfl) (Nat.le_of_ble_eq_true rfl) (Nat.le_of_ble_eq_true rfl) (Nat.le_of_ble_eq_true rfl) ?_
      intro μ5 hk
      refine px_aload_n (i := 0) C dX9_setParent_35 rfl rfl ?_
      refine px_iload_n (i := 3) C dX9_setParent_36 rfl rfl ?_
      refine px_iconst (v := (2 : Int32)) C dX9_setParent_37 rfl ?_
      refine px_callVi (h := 0) (rc' := 0) (rs' := 0) C (HR_le hHR (Nat.le_of_ble_eq_true rfl)) hRt hnT dX9_setParent_38 (gw8 152 rfl rfl) mv_X9_of (w9_of_ok (PCx_l C) (PCx_I C) hk) rfl rfl rfl rfl rfl (Nat.le_of_ble_eq_true rfl) (Nat.le_of_ble_eq_true rfl) (Nat.le_of_ble_eq_true rfl) (Nat.le_of_ble_eq_true rfl) ?_
      intro r7 μ6 hk
      refine px_istore (i := 4) C dX9_setParent_41 (by decide) rfl ?_
      refine px_aload_n (i := 0) C dX9_setParent_43 rfl rfl ?_
      refine px_iload_n (i := 3) C dX9_setParent_44 rfl rfl ?_
      refine px_iconst (v := (2 : Int32)) C dX9_setParent_45 rfl ?_
      refine px_iload_n (i := 2) C dX9_setParent_46 rfl rfl ?_
      refine px_callVv (h := 0) (rc' := 0) (rs' := 0) C (HR_le hHR (Nat.le_of_ble_eq_true rfl)) hRt hnT dX9_setParent_47 (gw8 164 rfl rfl) mv_X9_put (w9_put_ok (PCx_l C) (PCx_I C) hk) rfl rfl rfl rfl rfl (Nat.le_of_ble_eq_true rfl) (Nat.le_of_ble_eq_true rfl) (Nat.le_of_ble_eq_true rfl) (Nat.le_of_ble_eq_true rfl) ?_
      intro μ8 hk
      refine px_aload_n (i := 0) C dX9_setParent_50 rfl rfl ?_
      refine px_callVv (h := 0) (rc' := 0) (rs' := 0) C (HR_le hHR (Nat.le_of_ble_eq_true rfl)) hRt hnT dX9_setParent_51 (gw8 168 rfl rfl) mv_X9_remembers (w9_remembers_ok (PCx_l C) (PCx_I C) hk) rfl rfl rfl rfl rfl (Nat.le_of_ble_eq_true rfl) (Nat.le_of_ble_eq_true rfl) (Nat.le_of_ble_eq_true rfl) (Nat.le_of_ble_eq_true rfl) ?_
      intro μ9 hk
      refine px_iload (i := 4) C dX9_setParent_54 rfl ?_
      exact px_iret C hRt dX9_setParent_56 rfl rfl hk
    · replace hk := hk.2 c12
      refine px_aload_n (i := 0) C dX9_setParent_25 rfl rfl ?_
      refine px_iconst (v := (2 : Int32)) C dX9_setParent_26 rfl ?_
      refine px_callVi (h := 0) (rc' := 0) (rs' := 0) C (HR_le hHR (Nat.le_of_ble_eq_true rfl)) hRt hnT dX9_setParent_27 (gw8 144 rfl rfl) mv_X9_fails (w9_fails_ok (PCx_l C) (PCx_I C) hk) rfl rfl rfl rfl rfl (Nat.le_of_ble_eq_true rfl) (Nat.le_of_ble_eq_true rfl) (Nat.le_of_ble_eq_true rfl) (Nat.le_of_ble_eq_true rfl) ?_
      intro r11 μ10 hk
      exact px_iret C hRt dX9_setParent_30 rfl rfl hk
  · replace hk := hk.2 c13
    refine px_iconst (v := (0 : Int32)) C dX9_setParent_13 rfl ?_
    exact px_iret C hRt dX9_setParent_14 rfl rfl hk
theorem dX9_setTimes_0 : decode cX9_setTimes 0 = .ok (.aload_n 0, 1) := by decide +kernel
theorem dX9_setTimes_1 : decode cX9_setTimes 1 = .ok (.iload_n 1, 1) := by decide +kernel
theorem dX9_setTimes_2 : decode cX9_setTimes 2 = .ok (.invokevirtual 216, 3) := by decide +kernel
theorem dX9_setTimes_5 : decode cX9_setTimes 5 = .ok (.istore 4, 2) := by decide +kernel
theorem dX9_setTimes_7 : decode cX9_setTimes 7 = .ok (.aload_n 0, 1) := by decide +kernel
theorem dX9_setTimes_8 : decode cX9_setTimes 8 = .ok (.getfield 80, 3) := by decide +kernel
theorem dX9_setTimes_11 : decode cX9_setTimes 11 = .ok (.ifCond .le 5, 3) := by decide +kernel
theorem dX9_setTimes_14 : decode cX9_setTimes 14 = .ok (.iconst 0, 1) := by decide +kernel
theorem dX9_setTimes_15 : decode cX9_setTimes 15 = .ok (.ireturn, 1) := by decide +kernel
theorem dX9_setTimes_16 : decode cX9_setTimes 16 = .ok (.iload_n 2, 1) := by decide +kernel
theorem dX9_setTimes_17 : decode cX9_setTimes 17 = .ok (.iload_n 3, 1) := by decide +kernel
theorem dX9_setTimes_18 : decode cX9_setTimes 18 = .ok (.invokestatic 200, 3) := by decide +kernel
theorem dX9_setTimes_21 : decode cX9_setTimes 21 = .ok (.ifCond .ne 9, 3) := by decide +kernel
theorem dX9_setTimes_24 : decode cX9_setTimes 24 = .ok (.aload_n 0, 1) := by decide +kernel
theorem dX9_setTimes_25 : decode cX9_setTimes 25 = .ok (.iconst 2, 1) := by decide +kernel
theorem dX9_setTimes_26 : decode cX9_setTimes 26 = .ok (.invokevirtual 203, 3) := by decide +kernel
theorem dX9_setTimes_29 : decode cX9_setTimes 29 = .ok (.ireturn, 1) := by decide +kernel
theorem dX9_setTimes_30 : decode cX9_setTimes 30 = .ok (.aload_n 0, 1) := by decide +kernel
theorem dX9_setTimes_31 : decode cX9_setTimes 31 = .ok (.invokevirtual 206, 3) := by decide +kernel
theorem dX9_setTimes_34 : decode cX9_setTimes 34 = .ok (.aload_n 0, 1) := by decide +kernel
theorem dX9_setTimes_35 : decode cX9_setTimes 35 = .ok (.iload 4, 2) := by decide +kernel
theorem dX9_setTimes_37 : decode cX9_setTimes 37 = .ok (.iconst 5, 1) := by decide +kernel
theorem dX9_setTimes_38 : decode cX9_setTimes 38 = .ok (.invokevirtual 83, 3) := by decide +kernel
theorem dX9_setTimes_41 : decode cX9_setTimes 41 = .ok (.aload_n 0, 1) := by decide +kernel
theorem dX9_setTimes_42 : decode cX9_setTimes 42 = .ok (.iload 4, 2) := by decide +kernel
theorem dX9_setTimes_44 : decode cX9_setTimes 44 = .ok (.iconst 4, 1) := by decide +kernel
theorem dX9_setTimes_45 : decode cX9_setTimes 45 = .ok (.invokevirtual 83, 3) := by decide +kernel
theorem dX9_setTimes_48 : decode cX9_setTimes 48 = .ok (.isub, 1) := by decide +kernel
theorem dX9_setTimes_49 : decode cX9_setTimes 49 = .ok (.istore 5, 2) := by decide +kernel
theorem dX9_setTimes_51 : decode cX9_setTimes 51 = .ok (.aload_n 0, 1) := by decide +kernel
theorem dX9_setTimes_52 : decode cX9_setTimes 52 = .ok (.iload 4, 2) := by decide +kernel
theorem dX9_setTimes_54 : decode cX9_setTimes 54 = .ok (.iconst 4, 1) := by decide +kernel
theorem dX9_setTimes_55 : decode cX9_setTimes 55 = .ok (.iload_n 2, 1) := by decide +kernel
theorem dX9_setTimes_56 : decode cX9_setTimes 56 = .ok (.invokevirtual 197, 3) := by decide +kernel
theorem dX9_setTimes_59 : decode cX9_setTimes 59 = .ok (.aload_n 0, 1) := by decide +kernel
theorem dX9_setTimes_60 : decode cX9_setTimes 60 = .ok (.iload 4, 2) := by decide +kernel
theorem dX9_setTimes_62 : decode cX9_setTimes 62 = .ok (.iconst 5, 1) := by decide +kernel
theorem dX9_setTimes_63 : decode cX9_setTimes 63 = .ok (.iload_n 3, 1) := by decide +kernel
theorem dX9_setTimes_64 : decode cX9_setTimes 64 = .ok (.invokevirtual 197, 3) := by decide +kernel
theorem dX9_setTimes_67 : decode cX9_setTimes 67 = .ok (.aload_n 0, 1) := by decide +kernel
theorem dX9_setTimes_68 : decode cX9_setTimes 68 = .ok (.invokevirtual 213, 3) := by decide +kernel
theorem dX9_setTimes_71 : decode cX9_setTimes 71 = .ok (.iload 5, 2) := by decide +kernel
theorem dX9_setTimes_73 : decode cX9_setTimes 73 = .ok (.ireturn, 1) := by decide +kernel
set_option maxRecDepth 100000 in
set_option maxHeartbeats 4000000 in
theorem w9_setTimes_ok {l : Launch} {idx : List (Nat × Nat)} {μ : Mem} {a1 : Int32} {a2 : Int32} {a3 : Int32} {P : Int32 → Mem → Prop} {X : String → Mem → Prop} (hl : l.stackTraces = false) (hI : IdxOK idx) (hk : w9_setTimes_wp μ a1 a2 a3 P) : PMet l yX9_setTimes (.code yX9_setTimes cX9_setTimes 6 (some .int)) 3 0 0 idx [pR 50 0, pI a1, pI a2, pI a3] μ (qI P) X := by
  refine PMet_of mv_X9_setTimes.2.2.2.2.2.2 hl hI mv_X9_setTimes.2.2.2.1 rfl (Nat.le_of_ble_eq_true rfl) (fun G _ _ C hRt hHR hnT => ?_)
  show PW G 0 0 0 [some (pR 50 0), some (pI a1), some (pI a2), some (pI a3), none, none] [] μ
  unfold w9_setTimes_wp at hk
  refine px_aload_n (i := 0) C dX9_setTimes_0 rfl rfl ?_
  refine px_iload_n (i := 1) C dX9_setTimes_1 rfl rfl ?_
  refine px_callVi (h := 2) (rc' := 0) (rs' := 0) C (HR_le hHR (Nat.le_of_ble_eq_true rfl)) hRt hnT dX9_setTimes_2 (gw8 176 rfl rfl) mv_X9_spanOr (w9_spanOr_ok (PCx_l C) (PCx_I C) hk) rfl rfl rfl rfl rfl (Nat.le_of_ble_eq_true rfl) (Nat.le_of_ble_eq_true rfl) (Nat.le_of_ble_eq_true rfl) (Nat.le_of_ble_eq_true rfl) ?_
  intro r2 μ1 hk
  refine px_istore (i := 4) C dX9_setTimes_5 (by decide) rfl ?_
  refine px_aload_n (i := 0) C dX9_setTimes_7 rfl rfl ?_
  refine px_geti 3201 C dX9_setTimes_8 fl_RX9_80 rfl rfl rfl rfl ?_
  refine px_if_le (tgt := 16) C dX9_setTimes_11 (by decide) (fun c16 => ?_) (fun c16 => ?_)
  · replace hk := hk.1 c16
    refine px_iload_n (i := 2) C dX9_setTimes_16 rfl rfl ?_
    refine px_iload_n (i := 3) C dX9_setTimes_17 rfl rfl ?_
    refine px_callSi (h := 1) (rc' := 0) (rs' := 0) C (HR_le hHR (Nat.le_of_ble_eq_true rfl)) hRt hnT dX9_setTimes_18 (gw8 141 rfl rfl) ms_X9_areTimes (w9_areTimes_ok (PCx_l C) (PCx_I C) hk) rfl rfl (Nat.le_of_ble_eq_true rfl) (Nat.le_of_ble_eq_true rfl) (Nat.le_of_ble_eq_true rfl) (Nat.le_of_ble_eq_true rfl) ?_
    intro r4 μ3 hk
    refine px_if_ne (tgt := 30) C dX9_setTimes_21 (by decide) (fun c15 => ?_) (fun c15 => ?_)
    · replace hk := hk.1 c15
      refine px_aload_n (i := 0) C dX9_setTimes_30 rfl rfl ?_
      refine px_callVv (h := 0) (rc' := 0) (rs' := 0) C (HR_le hHR (Nat.le_of_ble_eq_true rfl)) hRt hnT dX9_setTimes_31 (gw8 156 rfl rfl) mv_X9_frames (w9_frames_ok (PCx_l C) (PCx_I C) hk) rfl rfl rfl rfl rfl (Nat.le_of_ble_eq_true rfl) (Nat.le_of_ble_eq_true rfl) (Nat.le_of_ble_eq_true rfl) (Nat.le_of_ble_eq_true rfl) ?_
      intro μ5 hk
      refine px_aload_n (i := 0) C dX9_setTimes_34 rfl rfl ?_
      refine px_iload (i := 4) C dX9_setTimes_35 rfl ?_
      refine px_iconst (v := (5 : Int32)) C dX9_setTimes_37 rfl ?_
      refine px_callVi (h := 0) (rc' := 0) (rs' := 0) C (HR_le hHR (Nat.le_of_ble_eq_true rfl)) hRt hnT dX9_setTimes_38 (gw8 152 rfl rfl) mv_X9_of (w9_of_ok (PCx_l C) (PCx_I C) hk) rfl rfl rfl rfl rfl (Nat.le_of_ble_eq_true rfl) (Nat.le_of_ble_eq_true rfl) (Nat.le_of_ble_eq_true rfl) (Nat.le_of_ble_eq_true rfl) ?_
      intro r7 μ6 hk
      refine px_aload_n (i := 0) C dX9_setTimes_41 rfl rfl ?_
      refine px_iload (i := 4) C dX9_setTimes_42 rfl ?_
      refine px_iconst (v := (4 : Int32)) C dX9_setTimes_44 rfl ?_
      refine px_callVi (h := 0) (rc' := 0) (rs' := 0) C (HR_le hHR (Nat.le_of_ble_eq_true rfl)) hRt hnT dX9_setTimes_45 (gw8 152 rfl rfl) mv_X9_of (w9_of_ok (PCx_l C) (PCx_I C) hk) rfl rfl rfl rfl rfl (Nat.le_of_ble_eq_true rfl) (Nat.le_of_ble_eq_true rfl) (Nat.le_of_ble_eq_true rfl) (Nat.le_of_ble_eq_true rfl) ?_
      intro r9 μ8 hk
      refine px_isub C dX9_setTimes_48 ?_
      refine px_istore (i := 5) C dX9_setTimes_49 (by decide) rfl ?_
      refine px_aload_n (i := 0) C dX9_setTimes_51 rfl rfl ?_
      refine px_iload (i := 4) C dX9_setTimes_52 rfl ?_
      refine px_iconst (v := (4 : Int32)) C dX9_setTimes_54 rfl ?_
      refine px_iload_n (i := 2) C dX9_setTimes_55 rfl rfl ?_
      refine px_callVv (h := 0) (rc' := 0) (rs' := 0) C (HR_le hHR (Nat.le_of_ble_eq_true rfl)) hRt hnT dX9_setTimes_56 (gw8 164 rfl rfl) mv_X9_put (w9_put_ok (PCx_l C) (PCx_I C) hk) rfl rfl rfl rfl rfl (Nat.le_of_ble_eq_true rfl) (Nat.le_of_ble_eq_true rfl) (Nat.le_of_ble_eq_true rfl) (Nat.le_of_ble_eq_true rfl) ?_
      intro μ10 hk
      refine px_aload_n (i := 0) C dX9_setTimes_59 rfl rfl ?_
      refine px_iload (i := 4) C dX9_setTimes_60 rfl ?_
      refine px_iconst (v := (5 : Int32)) C dX9_setTimes_62 rfl ?_
      refine px_iload_n (i := 3) C dX9_setTimes_63 rfl rfl ?_
      refine px_callVv (h := 0) (rc' := 0) (rs' := 0) C (HR_le hHR (Nat.le_of_ble_eq_true rfl)) hRt hnT dX9_setTimes_64 (gw8 164 rfl rfl) mv_X9_put (w9_put_ok (PCx_l C) (PCx_I C) hk) rfl rfl rfl rfl rfl (Nat.le_of_ble_eq_true rfl) (Nat.le_of_ble_eq_true rfl) (Nat.le_of_ble_eq_true rfl) (Nat.le_of_ble_eq_true rfl) ?_
      intro μ11 hk
      refine px_aload_n (i := 0) C dX9_setTimes_67 rfl rfl ?_
      refine px_callVv (h := 0) (rc' := 0) (rs' := 0) C (HR_le hHR (Nat.le_of_ble_eq_true rfl)) hRt hnT dX9_setTimes_68 (gw8 168 rfl rfl) mv_X9_remembers (w9_remembers_ok (PCx_l C) (PCx_I C) hk) rfl rfl rfl rfl rfl (Nat.le_of_ble_eq_true rfl) (Nat.le_of_ble_eq_true rfl) (Nat.le_of_ble_eq_true rfl) (Nat.le_of_ble_eq_true rfl) ?_
      intro μ12 hk
      refine px_iload (i := 5) C dX9_setTimes_71 rfl ?_
      exact px_iret C hRt dX9_setTimes_73 rfl rfl hk
    · replace hk := hk.2 c15
      refine px_aload_n (i := 0) C dX9_setTimes_24 rfl rfl ?_
      refine px_iconst (v := (2 : Int32)) C dX9_setTimes_25 rfl ?_
      refine px_callVi (h := 0) (rc' := 0) (rs' := 0) C (HR_le hHR (Nat.le_of_ble_eq_true rfl)) hRt hnT dX9_setTimes_26 (gw8 144 rfl rfl) mv_X9_fails (w9_fails_ok (PCx_l C) (PCx_I C) hk) rfl rfl rfl rfl rfl (Nat.le_of_ble_eq_true rfl) (Nat.le_of_ble_eq_true rfl) (Nat.le_of_ble_eq_true rfl) (Nat.le_of_ble_eq_true rfl) ?_
      intro r14 μ13 hk
      exact px_iret C hRt dX9_setTimes_29 rfl rfl hk
  · replace hk := hk.2 c16
    refine px_iconst (v := (0 : Int32)) C dX9_setTimes_14 rfl ?_
    exact px_iret C hRt dX9_setTimes_15 rfl rfl hk
theorem dX9_mark_0 : decode cX9_mark 0 = .ok (.aload_n 0, 1) := by decide +kernel
theorem dX9_mark_1 : decode cX9_mark 1 = .ok (.iload_n 1, 1) := by decide +kernel
theorem dX9_mark_2 : decode cX9_mark 2 = .ok (.invokevirtual 216, 3) := by decide +kernel
theorem dX9_mark_5 : decode cX9_mark 5 = .ok (.istore_n 3, 1) := by decide +kernel
theorem dX9_mark_6 : decode cX9_mark 6 = .ok (.aload_n 0, 1) := by decide +kernel
theorem dX9_mark_7 : decode cX9_mark 7 = .ok (.getfield 80, 3) := by decide +kernel
theorem dX9_mark_10 : decode cX9_mark 10 = .ok (.ifCond .le 5, 3) := by decide +kernel
theorem dX9_mark_13 : decode cX9_mark 13 = .ok (.iconst 0, 1) := by decide +kernel
theorem dX9_mark_14 : decode cX9_mark 14 = .ok (.ireturn, 1) := by decide +kernel
theorem dX9_mark_15 : decode cX9_mark 15 = .ok (.aload_n 0, 1) := by decide +kernel
theorem dX9_mark_16 : decode cX9_mark 16 = .ok (.invokevirtual 206, 3) := by decide +kernel
theorem dX9_mark_19 : decode cX9_mark 19 = .ok (.aload_n 0, 1) := by decide +kernel
theorem dX9_mark_20 : decode cX9_mark 20 = .ok (.iload_n 3, 1) := by decide +kernel
theorem dX9_mark_21 : decode cX9_mark 21 = .ok (.bipush 6, 2) := by decide +kernel
theorem dX9_mark_23 : decode cX9_mark 23 = .ok (.invokevirtual 83, 3) := by decide +kernel
theorem dX9_mark_26 : decode cX9_mark 26 = .ok (.iconst 1, 1) := by decide +kernel
theorem dX9_mark_27 : decode cX9_mark 27 = .ok (.if_icmp .ne 7, 3) := by decide +kernel
theorem dX9_mark_30 : decode cX9_mark 30 = .ok (.iconst 1, 1) := by decide +kernel
theorem dX9_mark_31 : decode cX9_mark 31 = .ok (.goto 4, 3) := by decide +kernel
theorem dX9_mark_34 : decode cX9_mark 34 = .ok (.iconst 0, 1) := by decide +kernel
theorem dX9_mark_35 : decode cX9_mark 35 = .ok (.istore 4, 2) := by decide +kernel
theorem dX9_mark_37 : decode cX9_mark 37 = .ok (.aload_n 0, 1) := by decide +kernel
theorem dX9_mark_38 : decode cX9_mark 38 = .ok (.iload_n 3, 1) := by decide +kernel
theorem dX9_mark_39 : decode cX9_mark 39 = .ok (.bipush 6, 2) := by decide +kernel
theorem dX9_mark_41 : decode cX9_mark 41 = .ok (.iload_n 2, 1) := by decide +kernel
theorem dX9_mark_42 : decode cX9_mark 42 = .ok (.ifCond .eq 7, 3) := by decide +kernel
theorem dX9_mark_45 : decode cX9_mark 45 = .ok (.iconst 1, 1) := by decide +kernel
theorem dX9_mark_46 : decode cX9_mark 46 = .ok (.goto 4, 3) := by decide +kernel
theorem dX9_mark_49 : decode cX9_mark 49 = .ok (.iconst 0, 1) := by decide +kernel
theorem dX9_mark_50 : decode cX9_mark 50 = .ok (.invokevirtual 197, 3) := by decide +kernel
theorem dX9_mark_53 : decode cX9_mark 53 = .ok (.aload_n 0, 1) := by decide +kernel
theorem dX9_mark_54 : decode cX9_mark 54 = .ok (.invokevirtual 213, 3) := by decide +kernel
theorem dX9_mark_57 : decode cX9_mark 57 = .ok (.iload 4, 2) := by decide +kernel
theorem dX9_mark_59 : decode cX9_mark 59 = .ok (.ireturn, 1) := by decide +kernel
set_option maxRecDepth 100000 in
set_option maxHeartbeats 4000000 in
theorem w9_mark_b35_ok {G : GT} {P : Int32 → Mem → Prop} {X : String → Mem → Prop} (C : PCx G cX9_mark 5 RX9) (hRt : PRt G (some .boolean) (qI P) X) (hHR : HR G (3)) (hnT : NoT G) {μ : Mem} {l2 : Int32} {l3 : Int32} {s0 : Int32} (hk : w9_mark_b35 P μ l2 l3 s0) : PW G 0 0 35 [some (pR 50 0), none, some (pI l2), some (pI l3), none] [pI s0] μ := by
  unfold w9_mark_b35 at hk
  refine px_istore (i := 4) C dX9_mark_35 (by decide) rfl ?_
  refine px_aload_n (i := 0) C dX9_mark_37 rfl rfl ?_
  refine px_iload_n (i := 3) C dX9_mark_38 rfl rfl ?_
  refine px_bipush (v := (6 : Int32)) C dX9_mark_39 rfl ?_
  refine px_iload_n (i := 2) C dX9_mark_41 rfl rfl ?_
  refine px_if_eq (tgt := 49) C dX9_mark_42 (by decide) (fun c12 => ?_) (fun c12 => ?_)
  · replace hk := hk.1 c12
    refine px_iconst (v := (0 : Int32)) C dX9_mark_49 rfl ?_
    refine px_callVv (h := 0) (rc' := 0) (rs' := 0) C (HR_le hHR (Nat.le_of_ble_eq_true rfl)) hRt hnT dX9_mark_50 (gw8 164 rfl rfl) mv_X9_put (w9_put_ok (PCx_l C) (PCx_I C) hk) rfl rfl rfl rfl rfl (Nat.le_of_ble_eq_true rfl) (Nat.le_of_ble_eq_true rfl) (Nat.le_of_ble_eq_true rfl) (Nat.le_of_ble_eq_true rfl) ?_
    intro μ6 hk
    refine px_aload_n (i := 0) C dX9_mark_53 rfl rfl ?_
    refine px_callVv (h := 0) (rc' := 0) (rs' := 0) C (HR_le hHR (Nat.le_of_ble_eq_true rfl)) hRt hnT dX9_mark_54 (gw8 168 rfl rfl) mv_X9_remembers (w9_remembers_ok (PCx_l C) (PCx_I C) hk) rfl rfl rfl rfl rfl (Nat.le_of_ble_eq_true rfl) (Nat.le_of_ble_eq_true rfl) (Nat.le_of_ble_eq_true rfl) (Nat.le_of_ble_eq_true rfl) ?_
    intro μ7 hk
    refine px_iload (i := 4) C dX9_mark_57 rfl ?_
    obtain ⟨o8, hk⟩ := hk
    exact px_iret C hRt dX9_mark_59 (nar_z o8) rfl hk
  · replace hk := hk.2 c12
    refine px_iconst (v := (1 : Int32)) C dX9_mark_45 rfl ?_
    refine px_goto (tgt := 50) C dX9_mark_46 (by decide) ?_
    refine px_callVv (h := 0) (rc' := 0) (rs' := 0) C (HR_le hHR (Nat.le_of_ble_eq_true rfl)) hRt hnT dX9_mark_50 (gw8 164 rfl rfl) mv_X9_put (w9_put_ok (PCx_l C) (PCx_I C) hk) rfl rfl rfl rfl rfl (Nat.le_of_ble_eq_true rfl) (Nat.le_of_ble_eq_true rfl) (Nat.le_of_ble_eq_true rfl) (Nat.le_of_ble_eq_true rfl) ?_
    intro μ9 hk
    refine px_aload_n (i := 0) C dX9_mark_53 rfl rfl ?_
    refine px_callVv (h := 0) (rc' := 0) (rs' := 0) C (HR_le hHR (Nat.le_of_ble_eq_true rfl)) hRt hnT dX9_mark_54 (gw8 168 rfl rfl) mv_X9_remembers (w9_remembers_ok (PCx_l C) (PCx_I C) hk) rfl rfl rfl rfl rfl (Nat.le_of_ble_eq_true rfl) (Nat.le_of_ble_eq_true rfl) (Nat.le_of_ble_eq_true rfl) (Nat.le_of_ble_eq_true rfl) ?_
    intro μ10 hk
    refine px_iload (i := 4) C dX9_mark_57 rfl ?_
    obtain ⟨o11, hk⟩ := hk
    exact px_iret C hRt dX9_mark_59 (nar_z o11) rfl hk
set_option maxRecDepth 100000 in
set_option maxHeartbeats 4000000 in
theorem w9_mark_ok {l : Launch} {idx : List (Nat × Nat)} {μ : Mem} {a1 : Int32} {a2 : Int32} {P : Int32 → Mem → Prop} {X : String → Mem → Prop} (hl : l.stackTraces = false) (hI : IdxOK idx) (hk : w9_mark_wp μ a1 a2 P) : PMet l yX9_mark (.code yX9_mark cX9_mark 5 (some .boolean)) 3 0 0 idx [pR 50 0, pI a1, pI a2] μ (qI P) X := by
  refine PMet_of mv_X9_mark.2.2.2.2.2.2 hl hI mv_X9_mark.2.2.2.1 rfl (Nat.le_of_ble_eq_true rfl) (fun G _ _ C hRt hHR hnT => ?_)
  show PW G 0 0 0 [some (pR 50 0), some (pI a1), some (pI a2), none, none] [] μ
  unfold w9_mark_wp at hk
  refine px_aload_n (i := 0) C dX9_mark_0 rfl rfl ?_
  refine px_iload_n (i := 1) C dX9_mark_1 rfl rfl ?_
  refine px_callVi (h := 2) (rc' := 0) (rs' := 0) C (HR_le hHR (Nat.le_of_ble_eq_true rfl)) hRt hnT dX9_mark_2 (gw8 176 rfl rfl) mv_X9_spanOr (w9_spanOr_ok (PCx_l C) (PCx_I C) hk) rfl rfl rfl rfl rfl (Nat.le_of_ble_eq_true rfl) (Nat.le_of_ble_eq_true rfl) (Nat.le_of_ble_eq_true rfl) (Nat.le_of_ble_eq_true rfl) ?_
  intro r2 μ1 hk
  refine px_istore_n (i := 3) C dX9_mark_5 rfl (by decide) rfl ?_
  refine px_aload_n (i := 0) C dX9_mark_6 rfl rfl ?_
  refine px_geti 3201 C dX9_mark_7 fl_RX9_80 rfl rfl rfl rfl ?_
  refine px_if_le (tgt := 15) C dX9_mark_10 (by decide) (fun c14 => ?_) (fun c14 => ?_)
  · replace hk := hk.1 c14
    refine px_aload_n (i := 0) C dX9_mark_15 rfl rfl ?_
    refine px_callVv (h := 0) (rc' := 0) (rs' := 0) C (HR_le hHR (Nat.le_of_ble_eq_true rfl)) hRt hnT dX9_mark_16 (gw8 156 rfl rfl) mv_X9_frames (w9_frames_ok (PCx_l C) (PCx_I C) hk) rfl rfl rfl rfl rfl (Nat.le_of_ble_eq_true rfl) (Nat.le_of_ble_eq_true rfl) (Nat.le_of_ble_eq_true rfl) (Nat.le_of_ble_eq_true rfl) ?_
    intro μ3 hk
    refine px_aload_n (i := 0) C dX9_mark_19 rfl rfl ?_
    refine px_iload_n (i := 3) C dX9_mark_20 rfl rfl ?_
    refine px_bipush (v := (6 : Int32)) C dX9_mark_21 rfl ?_
    refine px_callVi (h := 0) (rc' := 0) (rs' := 0) C (HR_le hHR (Nat.le_of_ble_eq_true rfl)) hRt hnT dX9_mark_23 (gw8 152 rfl rfl) mv_X9_of (w9_of_ok (PCx_l C) (PCx_I C) hk) rfl rfl rfl rfl rfl (Nat.le_of_ble_eq_true rfl) (Nat.le_of_ble_eq_true rfl) (Nat.le_of_ble_eq_true rfl) (Nat.le_of_ble_eq_true rfl) ?_
    intro r5 μ4 hk
    refine px_iconst (v := (1 : Int32)) C dX9_mark_26 rfl ?_
    refine px_icmp_ne (tgt := 34) C dX9_mark_27 (by decide) (fun c13 => ?_) (fun c13 => ?_)
    · replace hk := hk.1 c13
      refine px_iconst (v := (0 : Int32)) C dX9_mark_34 rfl ?_
      exact PW_at (w9_mark_b35_ok C hRt hHR hnT hk) (And.intro rfl (And.intro rfl (And.intro rfl trivial))) (Nat.le_of_ble_eq_true rfl) (Nat.le_of_ble_eq_true rfl)
    · replace hk := hk.2 c13
      refine px_iconst (v := (1 : Int32)) C dX9_mark_30 rfl ?_
      refine px_goto (tgt := 35) C dX9_mark_31 (by decide) ?_
      exact PW_at (w9_mark_b35_ok C hRt hHR hnT hk) (And.intro rfl (And.intro rfl (And.intro rfl trivial))) (Nat.le_of_ble_eq_true rfl) (Nat.le_of_ble_eq_true rfl)
  · replace hk := hk.2 c14
    refine px_iconst (v := (0 : Int32)) C dX9_mark_13 rfl ?_
    exact px_iret C hRt dX9_mark_14 rfl rfl hk
theorem dX9_spanCount_0 : decode cX9_spanCount 0 = .ok (.aload_n 0, 1) := by decide +kernel
theorem dX9_spanCount_1 : decode cX9_spanCount 1 = .ok (.iconst 0, 1) := by decide +kernel
theorem dX9_spanCount_2 : decode cX9_spanCount 2 = .ok (.putfield 80, 3) := by decide +kernel
theorem dX9_spanCount_5 : decode cX9_spanCount 5 = .ok (.aload_n 0, 1) := by decide +kernel
theorem dX9_spanCount_6 : decode cX9_spanCount 6 = .ok (.getfield 7, 3) := by decide +kernel
theorem dX9_spanCount_9 : decode cX9_spanCount 9 = .ok (.iconst 0, 1) := by decide +kernel
theorem dX9_spanCount_10 : decode cX9_spanCount 10 = .ok (.iaload, 1) := by decide +kernel
theorem dX9_spanCount_11 : decode cX9_spanCount 11 = .ok (.ireturn, 1) := by decide +kernel
set_option maxRecDepth 100000 in
set_option maxHeartbeats 4000000 in
theorem w9_spanCount_ok {l : Launch} {idx : List (Nat × Nat)} {μ : Mem} {P : Int32 → Mem → Prop} {X : String → Mem → Prop} (hl : l.stackTraces = false) (hI : IdxOK idx) (hk : w9_spanCount_wp μ P) : PMet l yX9_spanCount (.code yX9_spanCount cX9_spanCount 1 (some .int)) 0 0 0 idx [pR 50 0] μ (qI P) X := by
  refine PMet_of mv_X9_spanCount.2.2.2.2.2.2 hl hI mv_X9_spanCount.2.2.2.1 rfl (Nat.le_of_ble_eq_true rfl) (fun G _ _ C hRt hHR hnT => ?_)
  show PW G 0 0 0 [some (pR 50 0)] [] μ
  unfold w9_spanCount_wp at hk
  refine px_aload_n (i := 0) C dX9_spanCount_0 rfl rfl ?_
  refine px_iconst (v := (0 : Int32)) C dX9_spanCount_1 rfl ?_
  replace hk := hk _ rfl
  refine px_puti 3201 C dX9_spanCount_2 fp_RX9_80 rfl rfl rfl rfl rfl rfl ?_
  refine px_aload_n (i := 0) C dX9_spanCount_5 rfl rfl ?_
  refine px_getr C dX9_spanCount_6 fl_RX9_7 rfl rfl rfl ?_
  refine px_iconst (v := (0 : Int32)) C dX9_spanCount_9 rfl ?_
  obtain ⟨o2, hk⟩ := hk
  refine px_iald 3264 C dX9_spanCount_10 rfl rfl rfl rfl o2 ?_
  exact px_iret C hRt dX9_spanCount_11 rfl rfl hk
theorem dX9_span_0 : decode cX9_span 0 = .ok (.aload_n 0, 1) := by decide +kernel
theorem dX9_span_1 : decode cX9_span 1 = .ok (.iload_n 1, 1) := by decide +kernel
theorem dX9_span_2 : decode cX9_span 2 = .ok (.invokevirtual 216, 3) := by decide +kernel
theorem dX9_span_5 : decode cX9_span 5 = .ok (.istore_n 3, 1) := by decide +kernel
theorem dX9_span_6 : decode cX9_span 6 = .ok (.aload_n 0, 1) := by decide +kernel
theorem dX9_span_7 : decode cX9_span 7 = .ok (.getfield 80, 3) := by decide +kernel
theorem dX9_span_10 : decode cX9_span 10 = .ok (.ifCond .le 5, 3) := by decide +kernel
theorem dX9_span_13 : decode cX9_span 13 = .ok (.iconst 0, 1) := by decide +kernel
theorem dX9_span_14 : decode cX9_span 14 = .ok (.ireturn, 1) := by decide +kernel
theorem dX9_span_15 : decode cX9_span 15 = .ok (.iload_n 2, 1) := by decide +kernel
theorem dX9_span_16 : decode cX9_span 16 = .ok (.iconst 0, 1) := by decide +kernel
theorem dX9_span_17 : decode cX9_span 17 = .ok (.iconst 5, 1) := by decide +kernel
theorem dX9_span_18 : decode cX9_span 18 = .ok (.invokestatic 140, 3) := by decide +kernel
theorem dX9_span_21 : decode cX9_span 21 = .ok (.ifCond .ne 9, 3) := by decide +kernel
theorem dX9_span_24 : decode cX9_span 24 = .ok (.aload_n 0, 1) := by decide +kernel
theorem dX9_span_25 : decode cX9_span 25 = .ok (.iconst 2, 1) := by decide +kernel
theorem dX9_span_26 : decode cX9_span 26 = .ok (.invokevirtual 203, 3) := by decide +kernel
theorem dX9_span_29 : decode cX9_span 29 = .ok (.ireturn, 1) := by decide +kernel
theorem dX9_span_30 : decode cX9_span 30 = .ok (.iload_n 2, 1) := by decide +kernel
theorem dX9_span_31 : decode cX9_span 31 = .ok (.iconst 5, 1) := by decide +kernel
theorem dX9_span_32 : decode cX9_span 32 = .ok (.if_icmp .ne 7, 3) := by decide +kernel
theorem dX9_span_35 : decode cX9_span 35 = .ok (.iload_n 3, 1) := by decide +kernel
theorem dX9_span_36 : decode cX9_span 36 = .ok (.goto 11, 3) := by decide +kernel
theorem dX9_span_39 : decode cX9_span 39 = .ok (.aload_n 0, 1) := by decide +kernel
theorem dX9_span_40 : decode cX9_span 40 = .ok (.iload_n 3, 1) := by decide +kernel
theorem dX9_span_41 : decode cX9_span 41 = .ok (.iconst 1, 1) := by decide +kernel
theorem dX9_span_42 : decode cX9_span 42 = .ok (.iload_n 2, 1) := by decide +kernel
theorem dX9_span_43 : decode cX9_span 43 = .ok (.iadd, 1) := by decide +kernel
theorem dX9_span_44 : decode cX9_span 44 = .ok (.invokevirtual 83, 3) := by decide +kernel
theorem dX9_span_47 : decode cX9_span 47 = .ok (.ireturn, 1) := by decide +kernel
set_option maxRecDepth 100000 in
set_option maxHeartbeats 4000000 in
theorem w9_span_ok {l : Launch} {idx : List (Nat × Nat)} {μ : Mem} {a1 : Int32} {a2 : Int32} {P : Int32 → Mem → Prop} {X : String → Mem → Prop} (hl : l.stackTraces = false) (hI : IdxOK idx) (hk : w9_span_wp μ a1 a2 P) : PMet l yX9_span (.code yX9_span cX9_span 4 (some .int)) 3 0 0 idx [pR 50 0, pI a1, pI a2] μ (qI P) X := by
  refine PMet_of mv_X9_span.2.2.2.2.2.2 hl hI mv_X9_span.2.2.2.1 rfl (Nat.le_of_ble_eq_true rfl) (fun G _ _ C hRt hHR hnT => ?_)
  show PW G 0 0 0 [some (pR 50 0), some (pI a1), some (pI a2), none] [] μ
  unfold w9_span_wp at hk
  refine px_aload_n (i := 0) C dX9_span_0 rfl rfl ?_
  refine px_iload_n (i := 1) C dX9_span_1 rfl rfl ?_
  refine px_callVi (h := 2) (rc' := 0) (rs' := 0) C (HR_le hHR (Nat.le_of_ble_eq_true rfl)) hRt hnT dX9_span_2 (gw8 176 rfl rfl) mv_X9_spanOr (w9_spanOr_ok (PCx_l C) (PCx_I C) hk) rfl rfl rfl rfl rfl (Nat.le_of_ble_eq_true rfl) (Nat.le_of_ble_eq_true rfl) (Nat.le_of_ble_eq_true rfl) (Nat.le_of_ble_eq_true rfl) ?_
  intro r2 μ1 hk
  refine px_istore_n (i := 3) C dX9_span_5 rfl (by decide) rfl ?_
  refine px_aload_n (i := 0) C dX9_span_6 rfl rfl ?_
  refine px_geti 3201 C dX9_span_7 fl_RX9_80 rfl rfl rfl rfl ?_
  refine px_if_le (tgt := 15) C dX9_span_10 (by decide) (fun c11 => ?_) (fun c11 => ?_)
  · replace hk := hk.1 c11
    refine px_iload_n (i := 2) C dX9_span_15 rfl rfl ?_
    refine px_iconst (v := (0 : Int32)) C dX9_span_16 rfl ?_
    refine px_iconst (v := (5 : Int32)) C dX9_span_17 rfl ?_
    refine px_callSi (h := 0) (rc' := 0) (rs' := 0) C (HR_le hHR (Nat.le_of_ble_eq_true rfl)) hRt hnT dX9_span_18 (gw8 138 rfl rfl) ms_X9_in (w9_in_ok (PCx_l C) (PCx_I C) hk) rfl rfl (Nat.le_of_ble_eq_true rfl) (Nat.le_of_ble_eq_true rfl) (Nat.le_of_ble_eq_true rfl) (Nat.le_of_ble_eq_true rfl) ?_
    intro r4 μ3 hk
    refine px_if_ne (tgt := 30) C dX9_span_21 (by decide) (fun c10 => ?_) (fun c10 => ?_)
    · replace hk := hk.1 c10
      refine px_iload_n (i := 2) C dX9_span_30 rfl rfl ?_
      refine px_iconst (v := (5 : Int32)) C dX9_span_31 rfl ?_
      refine px_icmp_ne (tgt := 39) C dX9_span_32 (by decide) (fun c7 => ?_) (fun c7 => ?_)
      · replace hk := hk.1 c7
        refine px_aload_n (i := 0) C dX9_span_39 rfl rfl ?_
        refine px_iload_n (i := 3) C dX9_span_40 rfl rfl ?_
        refine px_iconst (v := (1 : Int32)) C dX9_span_41 rfl ?_
        refine px_iload_n (i := 2) C dX9_span_42 rfl rfl ?_
        refine px_iadd C dX9_span_43 ?_
        refine px_callVi (h := 0) (rc' := 0) (rs' := 0) C (HR_le hHR (Nat.le_of_ble_eq_true rfl)) hRt hnT dX9_span_44 (gw8 152 rfl rfl) mv_X9_of (w9_of_ok (PCx_l C) (PCx_I C) hk) rfl rfl rfl rfl rfl (Nat.le_of_ble_eq_true rfl) (Nat.le_of_ble_eq_true rfl) (Nat.le_of_ble_eq_true rfl) (Nat.le_of_ble_eq_true rfl) ?_
        intro r6 μ5 hk
        exact px_iret C hRt dX9_span_47 rfl rfl hk
      · replace hk := hk.2 c7
        refine px_iload_n (i := 3) C dX9_span_35 rfl rfl ?_
        refine px_goto (tgt := 47) C dX9_span_36 (by decide) ?_
        exact px_iret C hRt dX9_span_47 rfl rfl hk
    · replace hk := hk.2 c10
      refine px_aload_n (i := 0) C dX9_span_24 rfl rfl ?_
      refine px_iconst (v := (2 : Int32)) C dX9_span_25 rfl ?_
      refine px_callVi (h := 0) (rc' := 0) (rs' := 0) C (HR_le hHR (Nat.le_of_ble_eq_true rfl)) hRt hnT dX9_span_26 (gw8 144 rfl rfl) mv_X9_fails (w9_fails_ok (PCx_l C) (PCx_I C) hk) rfl rfl rfl rfl rfl (Nat.le_of_ble_eq_true rfl) (Nat.le_of_ble_eq_true rfl) (Nat.le_of_ble_eq_true rfl) (Nat.le_of_ble_eq_true rfl) ?_
      intro r9 μ8 hk
      exact px_iret C hRt dX9_span_29 rfl rfl hk
  · replace hk := hk.2 c11
    refine px_iconst (v := (0 : Int32)) C dX9_span_13 rfl ?_
    exact px_iret C hRt dX9_span_14 rfl rfl hk
theorem dX9_isService_0 : decode cX9_isService 0 = .ok (.iload_n 0, 1) := by decide +kernel
theorem dX9_isService_1 : decode cX9_isService 1 = .ok (.iconst 0, 1) := by decide +kernel
theorem dX9_isService_2 : decode cX9_isService 2 = .ok (.bipush 7, 2) := by decide +kernel
theorem dX9_isService_4 : decode cX9_isService 4 = .ok (.invokestatic 140, 3) := by decide +kernel
theorem dX9_isService_7 : decode cX9_isService 7 = .ok (.ireturn, 1) := by decide +kernel
set_option maxRecDepth 100000 in
set_option maxHeartbeats 4000000 in
theorem w9_isService_ok {l : Launch} {idx : List (Nat × Nat)} {μ : Mem} {a1 : Int32} {P : Int32 → Mem → Prop} {X : String → Mem → Prop} (hl : l.stackTraces = false) (hI : IdxOK idx) (hk : w9_isService_wp μ a1 P) : PMet l yX9_isService (.code yX9_isService cX9_isService 1 (some .boolean)) 1 0 0 idx [pI a1] μ (qI P) X := by
  refine PMet_of ms_X9_isService.2.2.2.2.2 hl hI ms_X9_isService.2.2.1 rfl (Nat.le_of_ble_eq_true rfl) (fun G _ _ C hRt hHR hnT => ?_)
  show PW G 0 0 0 [some (pI a1)] [] μ
  unfold w9_isService_wp at hk
  refine px_iload_n (i := 0) C dX9_isService_0 rfl rfl ?_
  refine px_iconst (v := (0 : Int32)) C dX9_isService_1 rfl ?_
  refine px_bipush (v := (7 : Int32)) C dX9_isService_2 rfl ?_
  refine px_callSi (h := 0) (rc' := 0) (rs' := 0) C (HR_le hHR (Nat.le_of_ble_eq_true rfl)) hRt hnT dX9_isService_4 (gw8 138 rfl rfl) ms_X9_in (w9_in_ok (PCx_l C) (PCx_I C) hk) rfl rfl (Nat.le_of_ble_eq_true rfl) (Nat.le_of_ble_eq_true rfl) (Nat.le_of_ble_eq_true rfl) (Nat.le_of_ble_eq_true rfl) ?_
  intro r2 μ1 hk
  obtain ⟨o3, hk⟩ := hk
  exact px_iret C hRt dX9_isService_7 (nar_z o3) rfl hk
theorem dX9_spanRoots_0 : decode cX9_spanRoots 0 = .ok (.iconst 0, 1) := by decide +kernel
theorem dX9_spanRoots_1 : decode cX9_spanRoots 1 = .ok (.istore_n 2, 1) := by decide +kernel
theorem dX9_spanRoots_2 : decode cX9_spanRoots 2 = .ok (.iconst 0, 1) := by decide +kernel
theorem dX9_spanRoots_3 : decode cX9_spanRoots 3 = .ok (.istore_n 3, 1) := by decide +kernel
theorem dX9_spanRoots_4 : decode cX9_spanRoots 4 = .ok (.iload_n 3, 1) := by decide +kernel
theorem dX9_spanRoots_5 : decode cX9_spanRoots 5 = .ok (.aload_n 0, 1) := by decide +kernel
theorem dX9_spanRoots_6 : decode cX9_spanRoots 6 = .ok (.getfield 7, 3) := by decide +kernel
theorem dX9_spanRoots_9 : decode cX9_spanRoots 9 = .ok (.iconst 0, 1) := by decide +kernel
theorem dX9_spanRoots_10 : decode cX9_spanRoots 10 = .ok (.iaload, 1) := by decide +kernel
theorem dX9_spanRoots_11 : decode cX9_spanRoots 11 = .ok (.if_icmp .ge 37, 3) := by decide +kernel
theorem dX9_spanRoots_14 : decode cX9_spanRoots 14 = .ok (.iload_n 2, 1) := by decide +kernel
theorem dX9_spanRoots_15 : decode cX9_spanRoots 15 = .ok (.aload_n 0, 1) := by decide +kernel
theorem dX9_spanRoots_16 : decode cX9_spanRoots 16 = .ok (.iload_n 3, 1) := by decide +kernel
theorem dX9_spanRoots_17 : decode cX9_spanRoots 17 = .ok (.iconst 1, 1) := by decide +kernel
theorem dX9_spanRoots_18 : decode cX9_spanRoots 18 = .ok (.invokevirtual 83, 3) := by decide +kernel
theorem dX9_spanRoots_21 : decode cX9_spanRoots 21 = .ok (.iload_n 1, 1) := by decide +kernel
theorem dX9_spanRoots_22 : decode cX9_spanRoots 22 = .ok (.if_icmp .ne 17, 3) := by decide +kernel
theorem dX9_spanRoots_25 : decode cX9_spanRoots 25 = .ok (.aload_n 0, 1) := by decide +kernel
theorem dX9_spanRoots_26 : decode cX9_spanRoots 26 = .ok (.getfield 47, 3) := by decide +kernel
theorem dX9_spanRoots_29 : decode cX9_spanRoots 29 = .ok (.iload_n 3, 1) := by decide +kernel
theorem dX9_spanRoots_30 : decode cX9_spanRoots 30 = .ok (.iaload, 1) := by decide +kernel
theorem dX9_spanRoots_31 : decode cX9_spanRoots 31 = .ok (.iconst (-1), 1) := by decide +kernel
theorem dX9_spanRoots_32 : decode cX9_spanRoots 32 = .ok (.if_icmp .ne 7, 3) := by decide +kernel
theorem dX9_spanRoots_35 : decode cX9_spanRoots 35 = .ok (.iconst 1, 1) := by decide +kernel
theorem dX9_spanRoots_36 : decode cX9_spanRoots 36 = .ok (.goto 4, 3) := by decide +kernel
theorem dX9_spanRoots_39 : decode cX9_spanRoots 39 = .ok (.iconst 0, 1) := by decide +kernel
theorem dX9_spanRoots_40 : decode cX9_spanRoots 40 = .ok (.iadd, 1) := by decide +kernel
theorem dX9_spanRoots_41 : decode cX9_spanRoots 41 = .ok (.istore_n 2, 1) := by decide +kernel
theorem dX9_spanRoots_42 : decode cX9_spanRoots 42 = .ok (.iinc 3 1, 3) := by decide +kernel
theorem dX9_spanRoots_45 : decode cX9_spanRoots 45 = .ok (.goto (-41), 3) := by decide +kernel
theorem dX9_spanRoots_48 : decode cX9_spanRoots 48 = .ok (.iload_n 2, 1) := by decide +kernel
theorem dX9_spanRoots_49 : decode cX9_spanRoots 49 = .ok (.ireturn, 1) := by decide +kernel
set_option maxRecDepth 100000 in
set_option maxHeartbeats 4000000 in
theorem w9_spanRoots_b4_ok {G : GT} {P : Int32 → Mem → Prop} {X : String → Mem → Prop} (C : PCx G cX9_spanRoots 4 RX9) (hRt : PRt G (some .int) (qI P) X) (hHR : HR G (1)) (hnT : NoT G) {μ : Mem} {l1 : Int32} {l2 : Int32} {l3 : Int32} (hk : w9_spanRoots_b4 P μ l1 l2 l3) : PW G 0 0 4 [some (pR 50 0), some (pI l1), some (pI l2), some (pI l3)] [] μ := by
  refine hk (fun (μ : Mem) (l1 : Int32) (l2 : Int32) (l3 : Int32) => PW G 0 0 4 [some (pR 50 0), some (pI l1), some (pI l2), some (pI l3)] [] μ) (fun (μ : Mem) l1 l2 l3 hk => ?_)
  have hR4 : ∀ (μ : Mem) (l1 : Int32) (l2 : Int32) (l3 : Int32), PW G 0 0 4 [some (pR 50 0), some (pI l1), some (pI l2), some (pI l3)] [] μ → PW G 0 0 4 [some (pR 50 0), some (pI l1), some (pI l2), some (pI l3)] [] μ := fun _ _ _ _ h => h
  unfold w9_spanRoots_b4_body at hk
  refine px_iload_n (i := 3) C dX9_spanRoots_4 rfl rfl ?_
  refine px_aload_n (i := 0) C dX9_spanRoots_5 rfl rfl ?_
  refine px_getr C dX9_spanRoots_6 fl_RX9_7 rfl rfl rfl ?_
  refine px_iconst (v := (0 : Int32)) C dX9_spanRoots_9 rfl ?_
  obtain ⟨o1, hk⟩ := hk
  refine px_iald 3264 C dX9_spanRoots_10 rfl rfl rfl rfl o1 ?_
  refine px_icmp_ge (tgt := 48) C dX9_spanRoots_11 (by decide) (fun c7 => ?_) (fun c7 => ?_)
  · replace hk := hk.1 c7
    refine px_iload_n (i := 2) C dX9_spanRoots_48 rfl rfl ?_
    exact px_iret C hRt dX9_spanRoots_49 rfl rfl hk
  · replace hk := hk.2 c7
    refine px_iload_n (i := 2) C dX9_spanRoots_14 rfl rfl ?_
    refine px_aload_n (i := 0) C dX9_spanRoots_15 rfl rfl ?_
    refine px_iload_n (i := 3) C dX9_spanRoots_16 rfl rfl ?_
    refine px_iconst (v := (1 : Int32)) C dX9_spanRoots_17 rfl ?_
    refine px_callVi (h := 0) (rc' := 0) (rs' := 0) C (HR_le hHR (Nat.le_of_ble_eq_true rfl)) hRt hnT dX9_spanRoots_18 (gw8 152 rfl rfl) mv_X9_of (w9_of_ok (PCx_l C) (PCx_I C) hk) rfl rfl rfl rfl rfl (Nat.le_of_ble_eq_true rfl) (Nat.le_of_ble_eq_true rfl) (Nat.le_of_ble_eq_true rfl) (Nat.le_of_ble_eq_true rfl) ?_
    intro r3 μ2 hk
    refine px_iload_n (i := 1) C dX9_spanRoots_21 rfl rfl ?_
    refine px_icmp_ne (tgt := 39) C dX9_spanRoots_22 (by decide) (fun c6 => ?_) (fun c6 => ?_)
    · replace hk := hk.1 c6
      refine px_iconst (v := (0 : Int32)) C dX9_spanRoots_39 rfl ?_
      refine px_iadd C dX9_spanRoots_40 ?_
      refine px_istore_n (i := 2) C dX9_spanRoots_41 rfl (by decide) rfl ?_
      refine px_iinc (i := 3) (v := (1 : Int32)) C dX9_spanRoots_42 rfl rfl (by decide) rfl ?_
      refine px_goto (tgt := 4) C dX9_spanRoots_45 (by decide) ?_
      exact PW_at (hR4 _ _ _ _ hk) (And.intro rfl (And.intro rfl (And.intro rfl (And.intro rfl trivial)))) (Nat.le_of_ble_eq_true rfl) (Nat.le_of_ble_eq_true rfl)
    · replace hk := hk.2 c6
      refine px_aload_n (i := 0) C dX9_spanRoots_25 rfl rfl ?_
      refine px_getr C dX9_spanRoots_26 fl_RX9_47 rfl rfl rfl ?_
      refine px_iload_n (i := 3) C dX9_spanRoots_29 rfl rfl ?_
      obtain ⟨o4, hk⟩ := hk
      refine px_iald 3968 C dX9_spanRoots_30 rfl rfl rfl rfl o4 ?_
      refine px_iconst (v := (-1 : Int32)) C dX9_spanRoots_31 rfl ?_
      refine px_icmp_ne (tgt := 39) C dX9_spanRoots_32 (by decide) (fun c5 => ?_) (fun c5 => ?_)
      · replace hk := hk.1 c5
        refine px_iconst (v := (0 : Int32)) C dX9_spanRoots_39 rfl ?_
        refine px_iadd C dX9_spanRoots_40 ?_
        refine px_istore_n (i := 2) C dX9_spanRoots_41 rfl (by decide) rfl ?_
        refine px_iinc (i := 3) (v := (1 : Int32)) C dX9_spanRoots_42 rfl rfl (by decide) rfl ?_
        refine px_goto (tgt := 4) C dX9_spanRoots_45 (by decide) ?_
        exact PW_at (hR4 _ _ _ _ hk) (And.intro rfl (And.intro rfl (And.intro rfl (And.intro rfl trivial)))) (Nat.le_of_ble_eq_true rfl) (Nat.le_of_ble_eq_true rfl)
      · replace hk := hk.2 c5
        refine px_iconst (v := (1 : Int32)) C dX9_spanRoots_35 rfl ?_
        refine px_goto (tgt := 40) C dX9_spanRoots_36 (by decide) ?_
        refine px_iadd C dX9_spanRoots_40 ?_
        refine px_istore_n (i := 2) C dX9_spanRoots_41 rfl (by decide) rfl ?_
        refine px_iinc (i := 3) (v := (1 : Int32)) C dX9_spanRoots_42 rfl rfl (by decide) rfl ?_
        refine px_goto (tgt := 4) C dX9_spanRoots_45 (by decide) ?_
        exact PW_at (hR4 _ _ _ _ hk) (And.intro rfl (And.intro rfl (And.intro rfl (And.intro rfl trivial)))) (Nat.le_of_ble_eq_true rfl) (Nat.le_of_ble_eq_true rfl)
set_option maxRecDepth 100000 in
set_option maxHeartbeats 4000000 in
theorem w9_spanRoots_ok {l : Launch} {idx : List (Nat × Nat)} {μ : Mem} {a1 : Int32} {P : Int32 → Mem → Prop} {X : String → Mem → Prop} (hl : l.stackTraces = false) (hI : IdxOK idx) (hk : w9_spanRoots_wp μ a1 P) : PMet l yX9_spanRoots (.code yX9_spanRoots cX9_spanRoots 4 (some .int)) 1 0 0 idx [pR 50 0, pI a1] μ (qI P) X := by
  refine PMet_of mv_X9_spanRoots.2.2.2.2.2.2 hl hI mv_X9_spanRoots.2.2.2.1 rfl (Nat.le_of_ble_eq_true rfl) (fun G _ _ C hRt hHR hnT => ?_)
  show PW G 0 0 0 [some (pR 50 0), some (pI a1), none, none] [] μ
  unfold w9_spanRoots_wp at hk
  refine px_iconst (v := (0 : Int32)) C dX9_spanRoots_0 rfl ?_
  refine px_istore_n (i := 2) C dX9_spanRoots_1 rfl (by decide) rfl ?_
  refine px_iconst (v := (0 : Int32)) C dX9_spanRoots_2 rfl ?_
  refine px_istore_n (i := 3) C dX9_spanRoots_3 rfl (by decide) rfl ?_
  exact PW_at (w9_spanRoots_b4_ok C hRt hHR hnT hk) (And.intro rfl (And.intro rfl (And.intro rfl (And.intro rfl trivial)))) (Nat.le_of_ble_eq_true rfl) (Nat.le_of_ble_eq_true rfl)
theorem dX9_holderRoots_0 : decode cX9_holderRoots 0 = .ok (.iconst 0, 1) := by decide +kernel
theorem dX9_holderRoots_1 : decode cX9_holderRoots 1 = .ok (.istore_n 2, 1) := by decide +kernel
theorem dX9_holderRoots_2 : decode cX9_holderRoots 2 = .ok (.iconst 0, 1) := by decide +kernel
theorem dX9_holderRoots_3 : decode cX9_holderRoots 3 = .ok (.istore_n 3, 1) := by decide +kernel
theorem dX9_holderRoots_4 : decode cX9_holderRoots 4 = .ok (.iload_n 3, 1) := by decide +kernel
theorem dX9_holderRoots_5 : decode cX9_holderRoots 5 = .ok (.aload_n 0, 1) := by decide +kernel
theorem dX9_holderRoots_6 : decode cX9_holderRoots 6 = .ok (.getfield 112, 3) := by decide +kernel
theorem dX9_holderRoots_9 : decode cX9_holderRoots 9 = .ok (.if_icmp .ge 27, 3) := by decide +kernel
theorem dX9_holderRoots_12 : decode cX9_holderRoots 12 = .ok (.iload_n 2, 1) := by decide +kernel
theorem dX9_holderRoots_13 : decode cX9_holderRoots 13 = .ok (.aload_n 0, 1) := by decide +kernel
theorem dX9_holderRoots_14 : decode cX9_holderRoots 14 = .ok (.getfield 53, 3) := by decide +kernel
theorem dX9_holderRoots_17 : decode cX9_holderRoots 17 = .ok (.iload_n 3, 1) := by decide +kernel
theorem dX9_holderRoots_18 : decode cX9_holderRoots 18 = .ok (.iaload, 1) := by decide +kernel
theorem dX9_holderRoots_19 : decode cX9_holderRoots 19 = .ok (.iload_n 1, 1) := by decide +kernel
theorem dX9_holderRoots_20 : decode cX9_holderRoots 20 = .ok (.if_icmp .ne 7, 3) := by decide +kernel
theorem dX9_holderRoots_23 : decode cX9_holderRoots 23 = .ok (.iconst 1, 1) := by decide +kernel
theorem dX9_holderRoots_24 : decode cX9_holderRoots 24 = .ok (.goto 4, 3) := by decide +kernel
theorem dX9_holderRoots_27 : decode cX9_holderRoots 27 = .ok (.iconst 0, 1) := by decide +kernel
theorem dX9_holderRoots_28 : decode cX9_holderRoots 28 = .ok (.iadd, 1) := by decide +kernel
theorem dX9_holderRoots_29 : decode cX9_holderRoots 29 = .ok (.istore_n 2, 1) := by decide +kernel
theorem dX9_holderRoots_30 : decode cX9_holderRoots 30 = .ok (.iinc 3 1, 3) := by decide +kernel
theorem dX9_holderRoots_33 : decode cX9_holderRoots 33 = .ok (.goto (-29), 3) := by decide +kernel
theorem dX9_holderRoots_36 : decode cX9_holderRoots 36 = .ok (.iload_n 2, 1) := by decide +kernel
theorem dX9_holderRoots_37 : decode cX9_holderRoots 37 = .ok (.ireturn, 1) := by decide +kernel
set_option maxRecDepth 100000 in
set_option maxHeartbeats 4000000 in
theorem w9_holderRoots_b4_ok {G : GT} {P : Int32 → Mem → Prop} {X : String → Mem → Prop} (C : PCx G cX9_holderRoots 4 RX9) (hRt : PRt G (some .int) (qI P) X) (hHR : HR G (0)) (hnT : NoT G) {μ : Mem} {l1 : Int32} {l2 : Int32} {l3 : Int32} (hk : w9_holderRoots_b4 P μ l1 l2 l3) : PW G 0 0 4 [some (pR 50 0), some (pI l1), some (pI l2), some (pI l3)] [] μ := by
  refine hk (fun (μ : Mem) (l1 : Int32) (l2 : Int32) (l3 : Int32) => PW G 0 0 4 [some (pR 50 0), some (pI l1), some (pI l2), some (pI l3)] [] μ) (fun (μ : Mem) l1 l2 l3 hk => ?_)
  have hR4 : ∀ (μ : Mem) (l1 : Int32) (l2 : Int32) (l3 : Int32), PW G 0 0 4 [some (pR 50 0), some (pI l1), some (pI l2), some (pI l3)] [] μ → PW G 0 0 4 [some (pR 50 0), some (pI l1), some (pI l2), some (pI l3)] [] μ := fun _ _ _ _ h => h
  unfold w9_holderRoots_b4_body at hk
  refine px_iload_n (i := 3) C dX9_holderRoots_4 rfl rfl ?_
  refine px_aload_n (i := 0) C dX9_holderRoots_5 rfl rfl ?_
  refine px_geti 3222 C dX9_holderRoots_6 fl_RX9_112 rfl rfl rfl rfl ?_
  refine px_icmp_ge (tgt := 36) C dX9_holderRoots_9 (by decide) (fun c3 => ?_) (fun c3 => ?_)
  · replace hk := hk.1 c3
    refine px_iload_n (i := 2) C dX9_holderRoots_36 rfl rfl ?_
    exact px_iret C hRt dX9_holderRoots_37 rfl rfl hk
  · replace hk := hk.2 c3
    refine px_iload_n (i := 2) C dX9_holderRoots_12 rfl rfl ?_
    refine px_aload_n (i := 0) C dX9_holderRoots_13 rfl rfl ?_
    refine px_getr C dX9_holderRoots_14 fl_RX9_53 rfl rfl rfl ?_
    refine px_iload_n (i := 3) C dX9_holderRoots_17 rfl rfl ?_
    obtain ⟨o1, hk⟩ := hk
    refine px_iald 4096 C dX9_holderRoots_18 rfl rfl rfl rfl o1 ?_
    refine px_iload_n (i := 1) C dX9_holderRoots_19 rfl rfl ?_
    refine px_icmp_ne (tgt := 27) C dX9_holderRoots_20 (by decide) (fun c2 => ?_) (fun c2 => ?_)
    · replace hk := hk.1 c2
      refine px_iconst (v := (0 : Int32)) C dX9_holderRoots_27 rfl ?_
      refine px_iadd C dX9_holderRoots_28 ?_
      refine px_istore_n (i := 2) C dX9_holderRoots_29 rfl (by decide) rfl ?_
      refine px_iinc (i := 3) (v := (1 : Int32)) C dX9_holderRoots_30 rfl rfl (by decide) rfl ?_
      refine px_goto (tgt := 4) C dX9_holderRoots_33 (by decide) ?_
      exact PW_at (hR4 _ _ _ _ hk) (And.intro rfl (And.intro rfl (And.intro rfl (And.intro rfl trivial)))) (Nat.le_of_ble_eq_true rfl) (Nat.le_of_ble_eq_true rfl)
    · replace hk := hk.2 c2
      refine px_iconst (v := (1 : Int32)) C dX9_holderRoots_23 rfl ?_
      refine px_goto (tgt := 28) C dX9_holderRoots_24 (by decide) ?_
      refine px_iadd C dX9_holderRoots_28 ?_
      refine px_istore_n (i := 2) C dX9_holderRoots_29 rfl (by decide) rfl ?_
      refine px_iinc (i := 3) (v := (1 : Int32)) C dX9_holderRoots_30 rfl rfl (by decide) rfl ?_
      refine px_goto (tgt := 4) C dX9_holderRoots_33 (by decide) ?_
      exact PW_at (hR4 _ _ _ _ hk) (And.intro rfl (And.intro rfl (And.intro rfl (And.intro rfl trivial)))) (Nat.le_of_ble_eq_true rfl) (Nat.le_of_ble_eq_true rfl)
set_option maxRecDepth 100000 in
set_option maxHeartbeats 4000000 in
theorem w9_holderRoots_ok {l : Launch} {idx : List (Nat × Nat)} {μ : Mem} {a1 : Int32} {P : Int32 → Mem → Prop} {X : String → Mem → Prop} (hl : l.stackTraces = false) (hI : IdxOK idx) (hk : w9_holderRoots_wp μ a1 P) : PMet l yX9_holderRoots (.code yX9_holderRoots cX9_holderRoots 4 (some .int)) 0 0 0 idx [pR 50 0, pI a1] μ (qI P) X := by
  refine PMet_of mv_X9_holderRoots.2.2.2.2.2.2 hl hI mv_X9_holderRoots.2.2.2.1 rfl (Nat.le_of_ble_eq_true rfl) (fun G _ _ C hRt hHR hnT => ?_)
  show PW G 0 0 0 [some (pR 50 0), some (pI a1), none, none] [] μ
  unfold w9_holderRoots_wp at hk
  refine px_iconst (v := (0 : Int32)) C dX9_holderRoots_0 rfl ?_
  refine px_istore_n (i := 2) C dX9_holderRoots_1 rfl (by decide) rfl ?_
  refine px_iconst (v := (0 : Int32)) C dX9_holderRoots_2 rfl ?_
  refine px_istore_n (i := 3) C dX9_holderRoots_3 rfl (by decide) rfl ?_
  exact PW_at (w9_holderRoots_b4_ok C hRt hHR hnT hk) (And.intro rfl (And.intro rfl (And.intro rfl (And.intro rfl trivial)))) (Nat.le_of_ble_eq_true rfl) (Nat.le_of_ble_eq_true rfl)
theorem dX9_causes_0 : decode cX9_causes 0 = .ok (.aload_n 0, 1) := by decide +kernel
theorem dX9_causes_1 : decode cX9_causes 1 = .ok (.iload_n 1, 1) := by decide +kernel
theorem dX9_causes_2 : decode cX9_causes 2 = .ok (.bipush 6, 2) := by decide +kernel
theorem dX9_causes_4 : decode cX9_causes 4 = .ok (.invokevirtual 83, 3) := by decide +kernel
theorem dX9_causes_7 : decode cX9_causes 7 = .ok (.iconst 1, 1) := by decide +kernel
theorem dX9_causes_8 : decode cX9_causes 8 = .ok (.if_icmp .ne 7, 3) := by decide +kernel
theorem dX9_causes_11 : decode cX9_causes 11 = .ok (.iconst 1, 1) := by decide +kernel
theorem dX9_causes_12 : decode cX9_causes 12 = .ok (.goto 4, 3) := by decide +kernel
theorem dX9_causes_15 : decode cX9_causes 15 = .ok (.iconst 0, 1) := by decide +kernel
theorem dX9_causes_16 : decode cX9_causes 16 = .ok (.istore_n 2, 1) := by decide +kernel
theorem dX9_causes_17 : decode cX9_causes 17 = .ok (.iconst 0, 1) := by decide +kernel
theorem dX9_causes_18 : decode cX9_causes 18 = .ok (.istore_n 3, 1) := by decide +kernel
theorem dX9_causes_19 : decode cX9_causes 19 = .ok (.iload_n 3, 1) := by decide +kernel
theorem dX9_causes_20 : decode cX9_causes 20 = .ok (.aload_n 0, 1) := by decide +kernel
theorem dX9_causes_21 : decode cX9_causes 21 = .ok (.getfield 7, 3) := by decide +kernel
theorem dX9_causes_24 : decode cX9_causes 24 = .ok (.iconst 0, 1) := by decide +kernel
theorem dX9_causes_25 : decode cX9_causes 25 = .ok (.iaload, 1) := by decide +kernel
theorem dX9_causes_26 : decode cX9_causes 26 = .ok (.if_icmp .ge 38, 3) := by decide +kernel
theorem dX9_causes_29 : decode cX9_causes 29 = .ok (.iload_n 2, 1) := by decide +kernel
theorem dX9_causes_30 : decode cX9_causes 30 = .ok (.ifCond .eq 26, 3) := by decide +kernel
theorem dX9_causes_33 : decode cX9_causes 33 = .ok (.aload_n 0, 1) := by decide +kernel
theorem dX9_causes_34 : decode cX9_causes 34 = .ok (.iload_n 3, 1) := by decide +kernel
theorem dX9_causes_35 : decode cX9_causes 35 = .ok (.bipush 6, 2) := by decide +kernel
theorem dX9_causes_37 : decode cX9_causes 37 = .ok (.invokevirtual 83, 3) := by decide +kernel
theorem dX9_causes_40 : decode cX9_causes 40 = .ok (.ifCond .eq 12, 3) := by decide +kernel
theorem dX9_causes_43 : decode cX9_causes 43 = .ok (.aload_n 0, 1) := by decide +kernel
theorem dX9_causes_44 : decode cX9_causes 44 = .ok (.iload_n 3, 1) := by decide +kernel
theorem dX9_causes_45 : decode cX9_causes 45 = .ok (.iload_n 1, 1) := by decide +kernel
theorem dX9_causes_46 : decode cX9_causes 46 = .ok (.invokevirtual 234, 3) := by decide +kernel
theorem dX9_causes_49 : decode cX9_causes 49 = .ok (.ifCond .ne 7, 3) := by decide +kernel
theorem dX9_causes_52 : decode cX9_causes 52 = .ok (.iconst 1, 1) := by decide +kernel
theorem dX9_causes_53 : decode cX9_causes 53 = .ok (.goto 4, 3) := by decide +kernel
theorem dX9_causes_56 : decode cX9_causes 56 = .ok (.iconst 0, 1) := by decide +kernel
theorem dX9_causes_57 : decode cX9_causes 57 = .ok (.istore_n 2, 1) := by decide +kernel
theorem dX9_causes_58 : decode cX9_causes 58 = .ok (.iinc 3 1, 3) := by decide +kernel
theorem dX9_causes_61 : decode cX9_causes 61 = .ok (.goto (-42), 3) := by decide +kernel
theorem dX9_causes_64 : decode cX9_causes 64 = .ok (.iload_n 2, 1) := by decide +kernel
theorem dX9_causes_65 : decode cX9_causes 65 = .ok (.ireturn, 1) := by decide +kernel
set_option maxRecDepth 100000 in
set_option maxHeartbeats 4000000 in
theorem w9_causes_b19_ok {G : GT} {P : Int32 → Mem → Prop} {X : String → Mem → Prop} (C : PCx G cX9_causes 4 RX9) (hRt : PRt G (some .boolean) (qI P) X) (hHR : HR G (1)) (hnT : NoT G) {μ : Mem} {l1 : Int32} {l2 : Int32} {l3 : Int32} (hk : w9_causes_b19 P μ l1 l2 l3) : PW G 0 0 19 [some (pR 50 0), some (pI l1), some (pI l2), some (pI l3)] [] μ := by
  refine hk (fun (μ : Mem) (l1 : Int32) (l2 : Int32) (l3 : Int32) => PW G 0 0 19 [some (pR 50 0), some (pI l1), some (pI l2), some (pI l3)] [] μ) (fun (μ : Mem) l1 l2 l3 hk => ?_)
  have hR19 : ∀ (μ : Mem) (l1 : Int32) (l2 : Int32) (l3 : Int32), PW G 0 0 19 [some (pR 50 0), some (pI l1), some (pI l2), some (pI l3)] [] μ → PW G 0 0 19 [some (pR 50 0), some (pI l1), some (pI l2), some (pI l3)] [] μ := fun _ _ _ _ h => h
  unfold w9_causes_b19_body at hk
  refine px_iload_n (i := 3) C dX9_causes_19 rfl rfl ?_
  refine px_aload_n (i := 0) C dX9_causes_20 rfl rfl ?_
  refine px_getr C dX9_causes_21 fl_RX9_7 rfl rfl rfl ?_
  refine px_iconst (v := (0 : Int32)) C dX9_causes_24 rfl ?_
  obtain ⟨o3, hk⟩ := hk
  refine px_iald 3264 C dX9_causes_25 rfl rfl rfl rfl o3 ?_
  refine px_icmp_ge (tgt := 64) C dX9_causes_26 (by decide) (fun c12 => ?_) (fun c12 => ?_)
  · replace hk := hk.1 c12
    refine px_iload_n (i := 2) C dX9_causes_64 rfl rfl ?_
    obtain ⟨o4, hk⟩ := hk
    exact px_iret C hRt dX9_causes_65 (nar_z o4) rfl hk
  · replace hk := hk.2 c12
    refine px_iload_n (i := 2) C dX9_causes_29 rfl rfl ?_
    refine px_if_eq (tgt := 56) C dX9_causes_30 (by decide) (fun c11 => ?_) (fun c11 => ?_)
    · replace hk := hk.1 c11
      refine px_iconst (v := (0 : Int32)) C dX9_causes_56 rfl ?_
      refine px_istore_n (i := 2) C dX9_causes_57 rfl (by decide) rfl ?_
      refine px_iinc (i := 3) (v := (1 : Int32)) C dX9_causes_58 rfl rfl (by decide) rfl ?_
      refine px_goto (tgt := 19) C dX9_causes_61 (by decide) ?_
      exact PW_at (hR19 _ _ _ _ hk) (And.intro rfl (And.intro rfl (And.intro rfl (And.intro rfl trivial)))) (Nat.le_of_ble_eq_true rfl) (Nat.le_of_ble_eq_true rfl)
    · replace hk := hk.2 c11
      refine px_aload_n (i := 0) C dX9_causes_33 rfl rfl ?_
      refine px_iload_n (i := 3) C dX9_causes_34 rfl rfl ?_
      refine px_bipush (v := (6 : Int32)) C dX9_causes_35 rfl ?_
      refine px_callVi (h := 0) (rc' := 0) (rs' := 0) C (HR_le hHR (Nat.le_of_ble_eq_true rfl)) hRt hnT dX9_causes_37 (gw8 152 rfl rfl) mv_X9_of (w9_of_ok (PCx_l C) (PCx_I C) hk) rfl rfl rfl rfl rfl (Nat.le_of_ble_eq_true rfl) (Nat.le_of_ble_eq_true rfl) (Nat.le_of_ble_eq_true rfl) (Nat.le_of_ble_eq_true rfl) ?_
      intro r6 μ5 hk
      refine px_if_eq (tgt := 52) C dX9_causes_40 (by decide) (fun c10 => ?_) (fun c10 => ?_)
      · replace hk := hk.1 c10
        refine px_iconst (v := (1 : Int32)) C dX9_causes_52 rfl ?_
        refine px_goto (tgt := 57) C dX9_causes_53 (by decide) ?_
        refine px_istore_n (i := 2) C dX9_causes_57 rfl (by decide) rfl ?_
        refine px_iinc (i := 3) (v := (1 : Int32)) C dX9_causes_58 rfl rfl (by decide) rfl ?_
        refine px_goto (tgt := 19) C dX9_causes_61 (by decide) ?_
        exact PW_at (hR19 _ _ _ _ hk) (And.intro rfl (And.intro rfl (And.intro rfl (And.intro rfl trivial)))) (Nat.le_of_ble_eq_true rfl) (Nat.le_of_ble_eq_true rfl)
      · replace hk := hk.2 c10
        refine px_aload_n (i := 0) C dX9_causes_43 rfl rfl ?_
        refine px_iload_n (i := 3) C dX9_causes_44 rfl rfl ?_
        refine px_iload_n (i := 1) C dX9_causes_45 rfl rfl ?_
        refine px_callVi (h := 0) (rc' := 0) (rs' := 0) C (HR_le hHR (Nat.le_of_ble_eq_true rfl)) hRt hnT dX9_causes_46 (gw9 70 rfl rfl) mv_X9_isBelow (w9_isBelow_ok (PCx_l C) (PCx_I C) hk) rfl rfl rfl rfl rfl (Nat.le_of_ble_eq_true rfl) (Nat.le_of_ble_eq_true rfl) (Nat.le_of_ble_eq_true rfl) (Nat.le_of_ble_eq_true rfl) ?_
        intro r8 μ7 hk
        refine px_if_ne (tgt := 56) C dX9_causes_49 (by decide) (fun c9 => ?_) (fun c9 => ?_)
        · replace hk := hk.1 c9
          refine px_iconst (v := (0 : Int32)) C dX9_causes_56 rfl ?_
          refine px_istore_n (i := 2) C dX9_causes_57 rfl (by decide) rfl ?_
          refine px_iinc (i := 3) (v := (1 : Int32)) C dX9_causes_58 rfl rfl (by decide) rfl ?_
          refine px_goto (tgt := 19) C dX9_causes_61 (by decide) ?_
          exact PW_at (hR19 _ _ _ _ hk) (And.intro rfl (And.intro rfl (And.intro rfl (And.intro rfl trivial)))) (Nat.le_of_ble_eq_true rfl) (Nat.le_of_ble_eq_true rfl)
        · replace hk := hk.2 c9
          refine px_iconst (v := (1 : Int32)) C dX9_causes_52 rfl ?_
          refine px_goto (tgt := 57) C dX9_causes_53 (by decide) ?_
          refine px_istore_n (i := 2) C dX9_causes_57 rfl (by decide) rfl ?_
          refine px_iinc (i := 3) (v := (1 : Int32)) C dX9_causes_58 rfl rfl (by decide) rfl ?_
          refine px_goto (tgt := 19) C dX9_causes_61 (by decide) ?_
          exact PW_at (hR19 _ _ _ _ hk) (And.intro rfl (And.intro rfl (And.intro rfl (And.intro rfl trivial)))) (Nat.le_of_ble_eq_true rfl) (Nat.le_of_ble_eq_true rfl)
set_option maxRecDepth 100000 in
set_option maxHeartbeats 4000000 in
theorem w9_causes_ok {l : Launch} {idx : List (Nat × Nat)} {μ : Mem} {a1 : Int32} {P : Int32 → Mem → Prop} {X : String → Mem → Prop} (hl : l.stackTraces = false) (hI : IdxOK idx) (hk : w9_causes_wp μ a1 P) : PMet l yX9_causes (.code yX9_causes cX9_causes 4 (some .boolean)) 1 0 0 idx [pR 50 0, pI a1] μ (qI P) X := by
  refine PMet_of mv_X9_causes.2.2.2.2.2.2 hl hI mv_X9_causes.2.2.2.1 rfl (Nat.le_of_ble_eq_true rfl) (fun G _ _ C hRt hHR hnT => ?_)
  show PW G 0 0 0 [some (pR 50 0), some (pI a1), none, none] [] μ
  unfold w9_causes_wp at hk
  refine px_aload_n (i := 0) C dX9_causes_0 rfl rfl ?_
  refine px_iload_n (i := 1) C dX9_causes_1 rfl rfl ?_
  refine px_bipush (v := (6 : Int32)) C dX9_causes_2 rfl ?_
  refine px_callVi (h := 0) (rc' := 0) (rs' := 0) C (HR_le hHR (Nat.le_of_ble_eq_true rfl)) hRt hnT dX9_causes_4 (gw8 152 rfl rfl) mv_X9_of (w9_of_ok (PCx_l C) (PCx_I C) hk) rfl rfl rfl rfl rfl (Nat.le_of_ble_eq_true rfl) (Nat.le_of_ble_eq_true rfl) (Nat.le_of_ble_eq_true rfl) (Nat.le_of_ble_eq_true rfl) ?_
  intro r2 μ1 hk
  refine px_iconst (v := (1 : Int32)) C dX9_causes_7 rfl ?_
  refine px_icmp_ne (tgt := 15) C dX9_causes_8 (by decide) (fun c13 => ?_) (fun c13 => ?_)
  · replace hk := hk.1 c13
    refine px_iconst (v := (0 : Int32)) C dX9_causes_15 rfl ?_
    refine px_istore_n (i := 2) C dX9_causes_16 rfl (by decide) rfl ?_
    refine px_iconst (v := (0 : Int32)) C dX9_causes_17 rfl ?_
    refine px_istore_n (i := 3) C dX9_causes_18 rfl (by decide) rfl ?_
    exact PW_at (w9_causes_b19_ok C hRt hHR hnT hk) (And.intro rfl (And.intro rfl (And.intro rfl (And.intro rfl trivial)))) (Nat.le_of_ble_eq_true rfl) (Nat.le_of_ble_eq_true rfl)
  · replace hk := hk.2 c13
    refine px_iconst (v := (1 : Int32)) C dX9_causes_11 rfl ?_
    refine px_goto (tgt := 16) C dX9_causes_12 (by decide) ?_
    refine px_istore_n (i := 2) C dX9_causes_16 rfl (by decide) rfl ?_
    refine px_iconst (v := (0 : Int32)) C dX9_causes_17 rfl ?_
    refine px_istore_n (i := 3) C dX9_causes_18 rfl (by decide) rfl ?_
    exact PW_at (w9_causes_b19_ok C hRt hHR hnT hk) (And.intro rfl (And.intro rfl (And.intro rfl (And.intro rfl trivial)))) (Nat.le_of_ble_eq_true rfl) (Nat.le_of_ble_eq_true rfl)
theorem dX9_inTrace_0 : decode cX9_inTrace 0 = .ok (.iconst 0, 1) := by decide +kernel
theorem dX9_inTrace_1 : decode cX9_inTrace 1 = .ok (.istore_n 2, 1) := by decide +kernel
theorem dX9_inTrace_2 : decode cX9_inTrace 2 = .ok (.iconst 0, 1) := by decide +kernel
theorem dX9_inTrace_3 : decode cX9_inTrace 3 = .ok (.istore_n 3, 1) := by decide +kernel
theorem dX9_inTrace_4 : decode cX9_inTrace 4 = .ok (.iload_n 3, 1) := by decide +kernel
theorem dX9_inTrace_5 : decode cX9_inTrace 5 = .ok (.aload_n 0, 1) := by decide +kernel
theorem dX9_inTrace_6 : decode cX9_inTrace 6 = .ok (.getfield 7, 3) := by decide +kernel
theorem dX9_inTrace_9 : decode cX9_inTrace 9 = .ok (.iconst 0, 1) := by decide +kernel
theorem dX9_inTrace_10 : decode cX9_inTrace 10 = .ok (.iaload, 1) := by decide +kernel
theorem dX9_inTrace_11 : decode cX9_inTrace 11 = .ok (.if_icmp .ge 27, 3) := by decide +kernel
theorem dX9_inTrace_14 : decode cX9_inTrace 14 = .ok (.iload_n 2, 1) := by decide +kernel
theorem dX9_inTrace_15 : decode cX9_inTrace 15 = .ok (.aload_n 0, 1) := by decide +kernel
theorem dX9_inTrace_16 : decode cX9_inTrace 16 = .ok (.iload_n 3, 1) := by decide +kernel
theorem dX9_inTrace_17 : decode cX9_inTrace 17 = .ok (.iconst 1, 1) := by decide +kernel
theorem dX9_inTrace_18 : decode cX9_inTrace 18 = .ok (.invokevirtual 83, 3) := by decide +kernel
theorem dX9_inTrace_21 : decode cX9_inTrace 21 = .ok (.iload_n 1, 1) := by decide +kernel
theorem dX9_inTrace_22 : decode cX9_inTrace 22 = .ok (.if_icmp .ne 7, 3) := by decide +kernel
theorem dX9_inTrace_25 : decode cX9_inTrace 25 = .ok (.iconst 1, 1) := by decide +kernel
theorem dX9_inTrace_26 : decode cX9_inTrace 26 = .ok (.goto 4, 3) := by decide +kernel
theorem dX9_inTrace_29 : decode cX9_inTrace 29 = .ok (.iconst 0, 1) := by decide +kernel
theorem dX9_inTrace_30 : decode cX9_inTrace 30 = .ok (.iadd, 1) := by decide +kernel
theorem dX9_inTrace_31 : decode cX9_inTrace 31 = .ok (.istore_n 2, 1) := by decide +kernel
theorem dX9_inTrace_32 : decode cX9_inTrace 32 = .ok (.iinc 3 1, 3) := by decide +kernel
theorem dX9_inTrace_35 : decode cX9_inTrace 35 = .ok (.goto (-31), 3) := by decide +kernel
theorem dX9_inTrace_38 : decode cX9_inTrace 38 = .ok (.iload_n 2, 1) := by decide +kernel
theorem dX9_inTrace_39 : decode cX9_inTrace 39 = .ok (.ireturn, 1) := by decide +kernel
set_option maxRecDepth 100000 in
set_option maxHeartbeats 4000000 in
theorem w9_inTrace_b4_ok {G : GT} {P : Int32 → Mem → Prop} {X : String → Mem → Prop} (C : PCx G cX9_inTrace 4 RX9) (hRt : PRt G (some .int) (qI P) X) (hHR : HR G (1)) (hnT : NoT G) {μ : Mem} {l1 : Int32} {l2 : Int32} {l3 : Int32} (hk : w9_inTrace_b4 P μ l1 l2 l3) : PW G 0 0 4 [some (pR 50 0), some (pI l1), some (pI l2), some (pI l3)] [] μ := by
  refine hk (fun (μ : Mem) (l1 : Int32) (l2 : Int32) (l3 : Int32) => PW G 0 0 4 [some (pR 50 0), some (pI l1), some (pI l2), some (pI l3)] [] μ) (fun (μ : Mem) l1 l2 l3 hk => ?_)
  have hR4 : ∀ (μ : Mem) (l1 : Int32) (l2 : Int32) (l3 : Int32), PW G 0 0 4 [some (pR 50 0), some (pI l1), some (pI l2), some (pI l3)] [] μ → PW G 0 0 4 [some (pR 50 0), some (pI l1), some (pI l2), some (pI l3)] [] μ := fun _ _ _ _ h => h
  unfold w9_inTrace_b4_body at hk
  refine px_iload_n (i := 3) C dX9_inTrace_4 rfl rfl ?_
  refine px_aload_n (i := 0) C dX9_inTrace_5 rfl rfl ?_
  refine px_getr C dX9_inTrace_6 fl_RX9_7 rfl rfl rfl ?_
  refine px_iconst (v := (0 : Int32)) C dX9_inTrace_9 rfl ?_
  obtain ⟨o1, hk⟩ := hk
  refine px_iald 3264 C dX9_inTrace_10 rfl rfl rfl rfl o1 ?_
  refine px_icmp_ge (tgt := 38) C dX9_inTrace_11 (by decide) (fun c5 => ?_) (fun c5 => ?_)
  · replace hk := hk.1 c5
    refine px_iload_n (i := 2) C dX9_inTrace_38 rfl rfl ?_
    exact px_iret C hRt dX9_inTrace_39 rfl rfl hk
  · replace hk := hk.2 c5
    refine px_iload_n (i := 2) C dX9_inTrace_14 rfl rfl ?_
    refine px_aload_n (i := 0) C dX9_inTrace_15 rfl rfl ?_
    refine px_iload_n (i := 3) C dX9_inTrace_16 rfl rfl ?_
    refine px_iconst (v := (1 : Int32)) C dX9_inTrace_17 rfl ?_
    refine px_callVi (h := 0) (rc' := 0) (rs' := 0) C (HR_le hHR (Nat.le_of_ble_eq_true rfl)) hRt hnT dX9_inTrace_18 (gw8 152 rfl rfl) mv_X9_of (w9_of_ok (PCx_l C) (PCx_I C) hk) rfl rfl rfl rfl rfl (Nat.le_of_ble_eq_true rfl) (Nat.le_of_ble_eq_true rfl) (Nat.le_of_ble_eq_true rfl) (Nat.le_of_ble_eq_true rfl) ?_
    intro r3 μ2 hk
    refine px_iload_n (i := 1) C dX9_inTrace_21 rfl rfl ?_
    refine px_icmp_ne (tgt := 29) C dX9_inTrace_22 (by decide) (fun c4 => ?_) (fun c4 => ?_)
    · replace hk := hk.1 c4
      refine px_iconst (v := (0 : Int32)) C dX9_inTrace_29 rfl ?_
      refine px_iadd C dX9_inTrace_30 ?_
      refine px_istore_n (i := 2) C dX9_inTrace_31 rfl (by decide) rfl ?_
      refine px_iinc (i := 3) (v := (1 : Int32)) C dX9_inTrace_32 rfl rfl (by decide) rfl ?_
      refine px_goto (tgt := 4) C dX9_inTrace_35 (by decide) ?_
      exact PW_at (hR4 _ _ _ _ hk) (And.intro rfl (And.intro rfl (And.intro rfl (And.intro rfl trivial)))) (Nat.le_of_ble_eq_true rfl) (Nat.le_of_ble_eq_true rfl)
    · replace hk := hk.2 c4
      refine px_iconst (v := (1 : Int32)) C dX9_inTrace_25 rfl ?_
      refine px_goto (tgt := 30) C dX9_inTrace_26 (by decide) ?_
      refine px_iadd C dX9_inTrace_30 ?_
      refine px_istore_n (i := 2) C dX9_inTrace_31 rfl (by decide) rfl ?_
      refine px_iinc (i := 3) (v := (1 : Int32)) C dX9_inTrace_32 rfl rfl (by decide) rfl ?_
      refine px_goto (tgt := 4) C dX9_inTrace_35 (by decide) ?_
      exact PW_at (hR4 _ _ _ _ hk) (And.intro rfl (And.intro rfl (And.intro rfl (And.intro rfl trivial)))) (Nat.le_of_ble_eq_true rfl) (Nat.le_of_ble_eq_true rfl)
set_option maxRecDepth 100000 in
set_option maxHeartbeats 4000000 in
theorem w9_inTrace_ok {l : Launch} {idx : List (Nat × Nat)} {μ : Mem} {a1 : Int32} {P : Int32 → Mem → Prop} {X : String → Mem → Prop} (hl : l.stackTraces = false) (hI : IdxOK idx) (hk : w9_inTrace_wp μ a1 P) : PMet l yX9_inTrace (.code yX9_inTrace cX9_inTrace 4 (some .int)) 1 0 0 idx [pR 50 0, pI a1] μ (qI P) X := by
  refine PMet_of mv_X9_inTrace.2.2.2.2.2.2 hl hI mv_X9_inTrace.2.2.2.1 rfl (Nat.le_of_ble_eq_true rfl) (fun G _ _ C hRt hHR hnT => ?_)
  show PW G 0 0 0 [some (pR 50 0), some (pI a1), none, none] [] μ
  unfold w9_inTrace_wp at hk
  refine px_iconst (v := (0 : Int32)) C dX9_inTrace_0 rfl ?_
  refine px_istore_n (i := 2) C dX9_inTrace_1 rfl (by decide) rfl ?_
  refine px_iconst (v := (0 : Int32)) C dX9_inTrace_2 rfl ?_
  refine px_istore_n (i := 3) C dX9_inTrace_3 rfl (by decide) rfl ?_
  exact PW_at (w9_inTrace_b4_ok C hRt hHR hnT hk) (And.intro rfl (And.intro rfl (And.intro rfl (And.intro rfl trivial)))) (Nat.le_of_ble_eq_true rfl) (Nat.le_of_ble_eq_true rfl)
theorem dX9_errorShare_0 : decode cX9_errorShare 0 = .ok (.aload_n 0, 1) := by decide +kernel
theorem dX9_errorShare_1 : decode cX9_errorShare 1 = .ok (.iload_n 1, 1) := by decide +kernel
theorem dX9_errorShare_2 : decode cX9_errorShare 2 = .ok (.invokestatic 143, 3) := by decide +kernel
theorem dX9_errorShare_5 : decode cX9_errorShare 5 = .ok (.ifCond .ne 7, 3) := by decide +kernel
theorem dX9_errorShare_8 : decode cX9_errorShare 8 = .ok (.iconst 1, 1) := by decide +kernel
theorem dX9_errorShare_9 : decode cX9_errorShare 9 = .ok (.goto 16, 3) := by decide +kernel
theorem dX9_errorShare_12 : decode cX9_errorShare 12 = .ok (.aload_n 0, 1) := by decide +kernel
theorem dX9_errorShare_13 : decode cX9_errorShare 13 = .ok (.iload_n 1, 1) := by decide +kernel
theorem dX9_errorShare_14 : decode cX9_errorShare 14 = .ok (.invokevirtual 258, 3) := by decide +kernel
theorem dX9_errorShare_17 : decode cX9_errorShare 17 = .ok (.ifCond .ne 7, 3) := by decide +kernel
theorem dX9_errorShare_20 : decode cX9_errorShare 20 = .ok (.iconst 2, 1) := by decide +kernel
theorem dX9_errorShare_21 : decode cX9_errorShare 21 = .ok (.goto 4, 3) := by decide +kernel
theorem dX9_errorShare_24 : decode cX9_errorShare 24 = .ok (.iconst 0, 1) := by decide +kernel
theorem dX9_errorShare_25 : decode cX9_errorShare 25 = .ok (.putfield 80, 3) := by decide +kernel
theorem dX9_errorShare_28 : decode cX9_errorShare 28 = .ok (.iconst 0, 1) := by decide +kernel
theorem dX9_errorShare_29 : decode cX9_errorShare 29 = .ok (.istore_n 2, 1) := by decide +kernel
theorem dX9_errorShare_30 : decode cX9_errorShare 30 = .ok (.iconst 0, 1) := by decide +kernel
theorem dX9_errorShare_31 : decode cX9_errorShare 31 = .ok (.istore_n 3, 1) := by decide +kernel
theorem dX9_errorShare_32 : decode cX9_errorShare 32 = .ok (.iload_n 3, 1) := by decide +kernel
theorem dX9_errorShare_33 : decode cX9_errorShare 33 = .ok (.aload_n 0, 1) := by decide +kernel
theorem dX9_errorShare_34 : decode cX9_errorShare 34 = .ok (.getfield 7, 3) := by decide +kernel
theorem dX9_errorShare_37 : decode cX9_errorShare 37 = .ok (.iconst 0, 1) := by decide +kernel
theorem dX9_errorShare_38 : decode cX9_errorShare 38 = .ok (.iaload, 1) := by decide +kernel
theorem dX9_errorShare_39 : decode cX9_errorShare 39 = .ok (.if_icmp .ge 40, 3) := by decide +kernel
theorem dX9_errorShare_42 : decode cX9_errorShare 42 = .ok (.aload_n 0, 1) := by decide +kernel
theorem dX9_errorShare_43 : decode cX9_errorShare 43 = .ok (.getfield 80, 3) := by decide +kernel
theorem dX9_errorShare_46 : decode cX9_errorShare 46 = .ok (.ifCond .ne 33, 3) := by decide +kernel
theorem dX9_errorShare_49 : decode cX9_errorShare 49 = .ok (.iload_n 2, 1) := by decide +kernel
theorem dX9_errorShare_50 : decode cX9_errorShare 50 = .ok (.aload_n 0, 1) := by decide +kernel
theorem dX9_errorShare_51 : decode cX9_errorShare 51 = .ok (.iload_n 3, 1) := by decide +kernel
theorem dX9_errorShare_52 : decode cX9_errorShare 52 = .ok (.iconst 1, 1) := by decide +kernel
theorem dX9_errorShare_53 : decode cX9_errorShare 53 = .ok (.invokevirtual 83, 3) := by decide +kernel
theorem dX9_errorShare_56 : decode cX9_errorShare 56 = .ok (.iload_n 1, 1) := by decide +kernel
theorem dX9_errorShare_57 : decode cX9_errorShare 57 = .ok (.if_icmp .ne 13, 3) := by decide +kernel
theorem dX9_errorShare_60 : decode cX9_errorShare 60 = .ok (.aload_n 0, 1) := by decide +kernel
theorem dX9_errorShare_61 : decode cX9_errorShare 61 = .ok (.iload_n 3, 1) := by decide +kernel
theorem dX9_errorShare_62 : decode cX9_errorShare 62 = .ok (.bipush 6, 2) := by decide +kernel
theorem dX9_errorShare_64 : decode cX9_errorShare 64 = .ok (.invokevirtual 83, 3) := by decide +kernel
theorem dX9_errorShare_67 : decode cX9_errorShare 67 = .ok (.goto 4, 3) := by decide +kernel
theorem dX9_errorShare_70 : decode cX9_errorShare 70 = .ok (.iconst 0, 1) := by decide +kernel
theorem dX9_errorShare_71 : decode cX9_errorShare 71 = .ok (.iadd, 1) := by decide +kernel
theorem dX9_errorShare_72 : decode cX9_errorShare 72 = .ok (.istore_n 2, 1) := by decide +kernel
theorem dX9_errorShare_73 : decode cX9_errorShare 73 = .ok (.iinc 3 1, 3) := by decide +kernel
theorem dX9_errorShare_76 : decode cX9_errorShare 76 = .ok (.goto (-44), 3) := by decide +kernel
theorem dX9_errorShare_79 : decode cX9_errorShare 79 = .ok (.aload_n 0, 1) := by decide +kernel
theorem dX9_errorShare_80 : decode cX9_errorShare 80 = .ok (.getfield 80, 3) := by decide +kernel
theorem dX9_errorShare_83 : decode cX9_errorShare 83 = .ok (.ifCond .ne 15, 3) := by decide +kernel
theorem dX9_errorShare_86 : decode cX9_errorShare 86 = .ok (.iload_n 2, 1) := by decide +kernel
theorem dX9_errorShare_87 : decode cX9_errorShare 87 = .ok (.i2d, 1) := by decide +kernel
theorem dX9_errorShare_88 : decode cX9_errorShare 88 = .ok (.aload_n 0, 1) := by decide +kernel
theorem dX9_errorShare_89 : decode cX9_errorShare 89 = .ok (.iload_n 1, 1) := by decide +kernel
theorem dX9_errorShare_90 : decode cX9_errorShare 90 = .ok (.invokevirtual 258, 3) := by decide +kernel
theorem dX9_errorShare_93 : decode cX9_errorShare 93 = .ok (.i2d, 1) := by decide +kernel
theorem dX9_errorShare_94 : decode cX9_errorShare 94 = .ok (.ddiv, 1) := by decide +kernel
theorem dX9_errorShare_95 : decode cX9_errorShare 95 = .ok (.goto 4, 3) := by decide +kernel
theorem dX9_errorShare_98 : decode cX9_errorShare 98 = .ok (.dconst 0, 1) := by decide +kernel
theorem dX9_errorShare_99 : decode cX9_errorShare 99 = .ok (.dreturn, 1) := by decide +kernel
set_option maxRecDepth 100000 in
set_option maxHeartbeats 4000000 in
theorem w9_errorShare_b79_ok {G : GT} {P : UInt64 → Mem → Prop} {X : String → Mem → Prop} (C : PCx G cX9_errorShare 4 RX9) (hRt : PRt G (some .double) (qD P) X) (hHR : HR G (2)) (hnT : NoT G) {μ : Mem} {l1 : Int32} {l2 : Int32} (hk : w9_errorShare_b79 P μ l1 l2) : PW G 0 0 79 [some (pR 50 0), some (pI l1), some (pI l2), none] [] μ := by
  unfold w9_errorShare_b79 at hk
  refine px_aload_n (i := 0) C dX9_errorShare_79 rfl rfl ?_
  refine px_geti 3201 C dX9_errorShare_80 fl_RX9_80 rfl rfl rfl rfl ?_
  refine px_if_ne (tgt := 98) C dX9_errorShare_83 (by decide) (fun c10 => ?_) (fun c10 => ?_)
  · replace hk := hk.1 c10
    refine px_dconst0 C dX9_errorShare_98 ?_
    exact px_dret C hRt dX9_errorShare_99 rfl hk
  · replace hk := hk.2 c10
    refine px_iload_n (i := 2) C dX9_errorShare_86 rfl rfl ?_
    refine px_i2d C dX9_errorShare_87 ?_
    refine px_aload_n (i := 0) C dX9_errorShare_88 rfl rfl ?_
    refine px_iload_n (i := 1) C dX9_errorShare_89 rfl rfl ?_
    refine px_callVi (h := 1) (rc' := 0) (rs' := 0) C (HR_le hHR (Nat.le_of_ble_eq_true rfl)) hRt hnT dX9_errorShare_90 (gw9 200 rfl rfl) mv_X9_inTrace (w9_inTrace_ok (PCx_l C) (PCx_I C) hk) rfl rfl rfl rfl rfl (Nat.le_of_ble_eq_true rfl) (Nat.le_of_ble_eq_true rfl) (Nat.le_of_ble_eq_true rfl) (Nat.le_of_ble_eq_true rfl) ?_
    intro r8 μ7 hk
    refine px_i2d C dX9_errorShare_93 ?_
    obtain ⟨o9, hk⟩ := hk
    refine px_ddiv C dX9_errorShare_94 o9 ?_
    refine px_goto (tgt := 99) C dX9_errorShare_95 (by decide) ?_
    exact px_dret C hRt dX9_errorShare_99 rfl hk
set_option maxRecDepth 100000 in
set_option maxHeartbeats 4000000 in
theorem w9_errorShare_b32_ok {G : GT} {P : UInt64 → Mem → Prop} {X : String → Mem → Prop} (C : PCx G cX9_errorShare 4 RX9) (hRt : PRt G (some .double) (qD P) X) (hHR : HR G (2)) (hnT : NoT G) {μ : Mem} {l1 : Int32} {l2 : Int32} {l3 : Int32} (hk : w9_errorShare_b32 P μ l1 l2 l3) : PW G 0 0 32 [some (pR 50 0), some (pI l1), some (pI l2), some (pI l3)] [] μ := by
  refine hk (fun (μ : Mem) (l1 : Int32) (l2 : Int32) (l3 : Int32) => PW G 0 0 32 [some (pR 50 0), some (pI l1), some (pI l2), some (pI l3)] [] μ) (fun (μ : Mem) l1 l2 l3 hk => ?_)
  have hR32 : ∀ (μ : Mem) (l1 : Int32) (l2 : Int32) (l3 : Int32), PW G 0 0 32 [some (pR 50 0), some (pI l1), some (pI l2), some (pI l3)] [] μ → PW G 0 0 32 [some (pR 50 0), some (pI l1), some (pI l2), some (pI l3)] [] μ := fun _ _ _ _ h => h
  unfold w9_errorShare_b32_body at hk
  refine px_iload_n (i := 3) C dX9_errorShare_32 rfl rfl ?_
  refine px_aload_n (i := 0) C dX9_errorShare_33 rfl rfl ?_
  refine px_getr C dX9_errorShare_34 fl_RX9_7 rfl rfl rfl ?_
  refine px_iconst (v := (0 : Int32)) C dX9_errorShare_37 rfl ?_
  obtain ⟨o6, hk⟩ := hk
  refine px_iald 3264 C dX9_errorShare_38 rfl rfl rfl rfl o6 ?_
  refine px_icmp_ge (tgt := 79) C dX9_errorShare_39 (by decide) (fun c17 => ?_) (fun c17 => ?_)
  · replace hk := hk.1 c17
    exact PW_at (w9_errorShare_b79_ok C hRt hHR hnT hk) (And.intro rfl (And.intro rfl (And.intro rfl trivial))) (Nat.le_of_ble_eq_true rfl) (Nat.le_of_ble_eq_true rfl)
  · replace hk := hk.2 c17
    refine px_aload_n (i := 0) C dX9_errorShare_42 rfl rfl ?_
    refine px_geti 3201 C dX9_errorShare_43 fl_RX9_80 rfl rfl rfl rfl ?_
    refine px_if_ne (tgt := 79) C dX9_errorShare_46 (by decide) (fun c16 => ?_) (fun c16 => ?_)
    · replace hk := hk.1 c16
      exact PW_at (w9_errorShare_b79_ok C hRt hHR hnT hk) (And.intro rfl (And.intro rfl (And.intro rfl trivial))) (Nat.le_of_ble_eq_true rfl) (Nat.le_of_ble_eq_true rfl)
    · replace hk := hk.2 c16
      refine px_iload_n (i := 2) C dX9_errorShare_49 rfl rfl ?_
      refine px_aload_n (i := 0) C dX9_errorShare_50 rfl rfl ?_
      refine px_iload_n (i := 3) C dX9_errorShare_51 rfl rfl ?_
      refine px_iconst (v := (1 : Int32)) C dX9_errorShare_52 rfl ?_
      refine px_callVi (h := 0) (rc' := 0) (rs' := 0) C (HR_le hHR (Nat.le_of_ble_eq_true rfl)) hRt hnT dX9_errorShare_53 (gw8 152 rfl rfl) mv_X9_of (w9_of_ok (PCx_l C) (PCx_I C) hk) rfl rfl rfl rfl rfl (Nat.le_of_ble_eq_true rfl) (Nat.le_of_ble_eq_true rfl) (Nat.le_of_ble_eq_true rfl) (Nat.le_of_ble_eq_true rfl) ?_
      intro r12 μ11 hk
      refine px_iload_n (i := 1) C dX9_errorShare_56 rfl rfl ?_
      refine px_icmp_ne (tgt := 70) C dX9_errorShare_57 (by decide) (fun c15 => ?_) (fun c15 => ?_)
      · replace hk := hk.1 c15
        refine px_iconst (v := (0 : Int32)) C dX9_errorShare_70 rfl ?_
        refine px_iadd C dX9_errorShare_71 ?_
        refine px_istore_n (i := 2) C dX9_errorShare_72 rfl (by decide) rfl ?_
        refine px_iinc (i := 3) (v := (1 : Int32)) C dX9_errorShare_73 rfl rfl (by decide) rfl ?_
        refine px_goto (tgt := 32) C dX9_errorShare_76 (by decide) ?_
        exact PW_at (hR32 _ _ _ _ hk) (And.intro rfl (And.intro rfl (And.intro rfl (And.intro rfl trivial)))) (Nat.le_of_ble_eq_true rfl) (Nat.le_of_ble_eq_true rfl)
      · replace hk := hk.2 c15
        refine px_aload_n (i := 0) C dX9_errorShare_60 rfl rfl ?_
        refine px_iload_n (i := 3) C dX9_errorShare_61 rfl rfl ?_
        refine px_bipush (v := (6 : Int32)) C dX9_errorShare_62 rfl ?_
        refine px_callVi (h := 0) (rc' := 0) (rs' := 0) C (HR_le hHR (Nat.le_of_ble_eq_true rfl)) hRt hnT dX9_errorShare_64 (gw8 152 rfl rfl) mv_X9_of (w9_of_ok (PCx_l C) (PCx_I C) hk) rfl rfl rfl rfl rfl (Nat.le_of_ble_eq_true rfl) (Nat.le_of_ble_eq_true rfl) (Nat.le_of_ble_eq_true rfl) (Nat.le_of_ble_eq_true rfl) ?_
        intro r14 μ13 hk
        refine px_goto (tgt := 71) C dX9_errorShare_67 (by decide) ?_
        refine px_iadd C dX9_errorShare_71 ?_
        refine px_istore_n (i := 2) C dX9_errorShare_72 rfl (by decide) rfl ?_
        refine px_iinc (i := 3) (v := (1 : Int32)) C dX9_errorShare_73 rfl rfl (by decide) rfl ?_
        refine px_goto (tgt := 32) C dX9_errorShare_76 (by decide) ?_
        exact PW_at (hR32 _ _ _ _ hk) (And.intro rfl (And.intro rfl (And.intro rfl (And.intro rfl trivial)))) (Nat.le_of_ble_eq_true rfl) (Nat.le_of_ble_eq_true rfl)
set_option maxRecDepth 100000 in
set_option maxHeartbeats 4000000 in
theorem w9_errorShare_ok {l : Launch} {idx : List (Nat × Nat)} {μ : Mem} {a1 : Int32} {P : UInt64 → Mem → Prop} {X : String → Mem → Prop} (hl : l.stackTraces = false) (hI : IdxOK idx) (hk : w9_errorShare_wp μ a1 P) : PMet l yX9_errorShare (.code yX9_errorShare cX9_errorShare 4 (some .double)) 2 0 0 idx [pR 50 0, pI a1] μ (qD P) X := by
  refine PMet_of mv_X9_errorShare.2.2.2.2.2.2 hl hI mv_X9_errorShare.2.2.2.1 rfl (Nat.le_of_ble_eq_true rfl) (fun G _ _ C hRt hHR hnT => ?_)
  show PW G 0 0 0 [some (pR 50 0), some (pI a1), none, none] [] μ
  unfold w9_errorShare_wp at hk
  refine px_aload_n (i := 0) C dX9_errorShare_0 rfl rfl ?_
  refine px_iload_n (i := 1) C dX9_errorShare_1 rfl rfl ?_
  refine px_callSi (h := 1) (rc' := 0) (rs' := 0) C (HR_le hHR (Nat.le_of_ble_eq_true rfl)) hRt hnT dX9_errorShare_2 (gw8 135 rfl rfl) ms_X9_isTrace (w9_isTrace_ok (PCx_l C) (PCx_I C) hk) rfl rfl (Nat.le_of_ble_eq_true rfl) (Nat.le_of_ble_eq_true rfl) (Nat.le_of_ble_eq_true rfl) (Nat.le_of_ble_eq_true rfl) ?_
  intro r2 μ1 hk
  refine px_if_ne (tgt := 12) C dX9_errorShare_5 (by decide) (fun c21 => ?_) (fun c21 => ?_)
  · replace hk := hk.1 c21
    refine px_aload_n (i := 0) C dX9_errorShare_12 rfl rfl ?_
    refine px_iload_n (i := 1) C dX9_errorShare_13 rfl rfl ?_
    refine px_callVi (h := 1) (rc' := 0) (rs' := 0) C (HR_le hHR (Nat.le_of_ble_eq_true rfl)) hRt hnT dX9_errorShare_14 (gw9 200 rfl rfl) mv_X9_inTrace (w9_inTrace_ok (PCx_l C) (PCx_I C) hk) rfl rfl rfl rfl rfl (Nat.le_of_ble_eq_true rfl) (Nat.le_of_ble_eq_true rfl) (Nat.le_of_ble_eq_true rfl) (Nat.le_of_ble_eq_true rfl) ?_
    intro r4 μ3 hk
    refine px_if_ne (tgt := 24) C dX9_errorShare_17 (by decide) (fun c19 => ?_) (fun c19 => ?_)
    · replace hk := hk.1 c19
      refine px_iconst (v := (0 : Int32)) C dX9_errorShare_24 rfl ?_
      replace hk := hk _ rfl
      refine px_puti 3201 C dX9_errorShare_25 fp_RX9_80 rfl rfl rfl rfl rfl rfl ?_
      refine px_iconst (v := (0 : Int32)) C dX9_errorShare_28 rfl ?_
      refine px_istore_n (i := 2) C dX9_errorShare_29 rfl (by decide) rfl ?_
      refine px_iconst (v := (0 : Int32)) C dX9_errorShare_30 rfl ?_
      refine px_istore_n (i := 3) C dX9_errorShare_31 rfl (by decide) rfl ?_
      exact PW_at (w9_errorShare_b32_ok C hRt hHR hnT hk) (And.intro rfl (And.intro rfl (And.intro rfl (And.intro rfl trivial)))) (Nat.le_of_ble_eq_true rfl) (Nat.le_of_ble_eq_true rfl)
    · replace hk := hk.2 c19
      refine px_iconst (v := (2 : Int32)) C dX9_errorShare_20 rfl ?_
      refine px_goto (tgt := 25) C dX9_errorShare_21 (by decide) ?_
      replace hk := hk _ rfl
      refine px_puti 3201 C dX9_errorShare_25 fp_RX9_80 rfl rfl rfl rfl rfl rfl ?_
      refine px_iconst (v := (0 : Int32)) C dX9_errorShare_28 rfl ?_
      refine px_istore_n (i := 2) C dX9_errorShare_29 rfl (by decide) rfl ?_
      refine px_iconst (v := (0 : Int32)) C dX9_errorShare_30 rfl ?_
      refine px_istore_n (i := 3) C dX9_errorShare_31 rfl (by decide) rfl ?_
      exact PW_at (w9_errorShare_b32_ok C hRt hHR hnT hk) (And.intro rfl (And.intro rfl (And.intro rfl (And.intro rfl trivial)))) (Nat.le_of_ble_eq_true rfl) (Nat.le_of_ble_eq_true rfl)
  · replace hk := hk.2 c21
    refine px_iconst (v := (1 : Int32)) C dX9_errorShare_8 rfl ?_
    refine px_goto (tgt := 25) C dX9_errorShare_9 (by decide) ?_
    replace hk := hk _ rfl
    refine px_puti 3201 C dX9_errorShare_25 fp_RX9_80 rfl rfl rfl rfl rfl rfl ?_
    refine px_iconst (v := (0 : Int32)) C dX9_errorShare_28 rfl ?_
    refine px_istore_n (i := 2) C dX9_errorShare_29 rfl (by decide) rfl ?_
    refine px_iconst (v := (0 : Int32)) C dX9_errorShare_30 rfl ?_
    refine px_istore_n (i := 3) C dX9_errorShare_31 rfl (by decide) rfl ?_
    exact PW_at (w9_errorShare_b32_ok C hRt hHR hnT hk) (And.intro rfl (And.intro rfl (And.intro rfl (And.intro rfl trivial)))) (Nat.le_of_ble_eq_true rfl) (Nat.le_of_ble_eq_true rfl)
theorem dX9_duration_0 : decode cX9_duration 0 = .ok (.aload_n 0, 1) := by decide +kernel
theorem dX9_duration_1 : decode cX9_duration 1 = .ok (.iload_n 1, 1) := by decide +kernel
theorem dX9_duration_2 : decode cX9_duration 2 = .ok (.iconst 5, 1) := by decide +kernel
theorem dX9_duration_3 : decode cX9_duration 3 = .ok (.invokevirtual 83, 3) := by decide +kernel
theorem dX9_duration_6 : decode cX9_duration 6 = .ok (.aload_n 0, 1) := by decide +kernel
theorem dX9_duration_7 : decode cX9_duration 7 = .ok (.iload_n 1, 1) := by decide +kernel
theorem dX9_duration_8 : decode cX9_duration 8 = .ok (.iconst 4, 1) := by decide +kernel
theorem dX9_duration_9 : decode cX9_duration 9 = .ok (.invokevirtual 83, 3) := by decide +kernel
theorem dX9_duration_12 : decode cX9_duration 12 = .ok (.isub, 1) := by decide +kernel
theorem dX9_duration_13 : decode cX9_duration 13 = .ok (.ireturn, 1) := by decide +kernel
set_option maxRecDepth 100000 in
set_option maxHeartbeats 4000000 in
theorem w9_duration_ok {l : Launch} {idx : List (Nat × Nat)} {μ : Mem} {a1 : Int32} {P : Int32 → Mem → Prop} {X : String → Mem → Prop} (hl : l.stackTraces = false) (hI : IdxOK idx) (hk : w9_duration_wp μ a1 P) : PMet l yX9_duration (.code yX9_duration cX9_duration 2 (some .int)) 1 0 0 idx [pR 50 0, pI a1] μ (qI P) X := by
  refine PMet_of mv_X9_duration.2.2.2.2.2.2 hl hI mv_X9_duration.2.2.2.1 rfl (Nat.le_of_ble_eq_true rfl) (fun G _ _ C hRt hHR hnT => ?_)
  show PW G 0 0 0 [some (pR 50 0), some (pI a1)] [] μ
  unfold w9_duration_wp at hk
  refine px_aload_n (i := 0) C dX9_duration_0 rfl rfl ?_
  refine px_iload_n (i := 1) C dX9_duration_1 rfl rfl ?_
  refine px_iconst (v := (5 : Int32)) C dX9_duration_2 rfl ?_
  refine px_callVi (h := 0) (rc' := 0) (rs' := 0) C (HR_le hHR (Nat.le_of_ble_eq_true rfl)) hRt hnT dX9_duration_3 (gw8 152 rfl rfl) mv_X9_of (w9_of_ok (PCx_l C) (PCx_I C) hk) rfl rfl rfl rfl rfl (Nat.le_of_ble_eq_true rfl) (Nat.le_of_ble_eq_true rfl) (Nat.le_of_ble_eq_true rfl) (Nat.le_of_ble_eq_true rfl) ?_
  intro r2 μ1 hk
  refine px_aload_n (i := 0) C dX9_duration_6 rfl rfl ?_
  refine px_iload_n (i := 1) C dX9_duration_7 rfl rfl ?_
  refine px_iconst (v := (4 : Int32)) C dX9_duration_8 rfl ?_
  refine px_callVi (h := 0) (rc' := 0) (rs' := 0) C (HR_le hHR (Nat.le_of_ble_eq_true rfl)) hRt hnT dX9_duration_9 (gw8 152 rfl rfl) mv_X9_of (w9_of_ok (PCx_l C) (PCx_I C) hk) rfl rfl rfl rfl rfl (Nat.le_of_ble_eq_true rfl) (Nat.le_of_ble_eq_true rfl) (Nat.le_of_ble_eq_true rfl) (Nat.le_of_ble_eq_true rfl) ?_
  intro r4 μ3 hk
  refine px_isub C dX9_duration_12 ?_
  exact px_iret C hRt dX9_duration_13 rfl rfl hk
theorem dX9_counted_0 : decode cX9_counted 0 = .ok (.iload_n 2, 1) := by decide +kernel
theorem dX9_counted_1 : decode cX9_counted 1 = .ok (.tableswitch 63 0 4 #[35, 37, 45, 51, 57], 35) := by decide +kernel
theorem dX9_counted_36 : decode cX9_counted 36 = .ok (.iconst 1, 1) := by decide +kernel
theorem dX9_counted_37 : decode cX9_counted 37 = .ok (.ireturn, 1) := by decide +kernel
theorem dX9_counted_38 : decode cX9_counted 38 = .ok (.aload_n 0, 1) := by decide +kernel
theorem dX9_counted_39 : decode cX9_counted 39 = .ok (.iload_n 1, 1) := by decide +kernel
theorem dX9_counted_40 : decode cX9_counted 40 = .ok (.bipush 6, 2) := by decide +kernel
theorem dX9_counted_42 : decode cX9_counted 42 = .ok (.invokevirtual 83, 3) := by decide +kernel
theorem dX9_counted_45 : decode cX9_counted 45 = .ok (.ireturn, 1) := by decide +kernel
theorem dX9_counted_46 : decode cX9_counted 46 = .ok (.aload_n 0, 1) := by decide +kernel
theorem dX9_counted_47 : decode cX9_counted 47 = .ok (.iload_n 1, 1) := by decide +kernel
theorem dX9_counted_48 : decode cX9_counted 48 = .ok (.invokevirtual 261, 3) := by decide +kernel
theorem dX9_counted_51 : decode cX9_counted 51 = .ok (.ireturn, 1) := by decide +kernel
theorem dX9_counted_52 : decode cX9_counted 52 = .ok (.aload_n 0, 1) := by decide +kernel
theorem dX9_counted_53 : decode cX9_counted 53 = .ok (.iload_n 1, 1) := by decide +kernel
theorem dX9_counted_54 : decode cX9_counted 54 = .ok (.invokevirtual 252, 3) := by decide +kernel
theorem dX9_counted_57 : decode cX9_counted 57 = .ok (.ireturn, 1) := by decide +kernel
theorem dX9_counted_58 : decode cX9_counted 58 = .ok (.aload_n 0, 1) := by decide +kernel
theorem dX9_counted_59 : decode cX9_counted 59 = .ok (.iload_n 1, 1) := by decide +kernel
theorem dX9_counted_60 : decode cX9_counted 60 = .ok (.invokevirtual 249, 3) := by decide +kernel
theorem dX9_counted_63 : decode cX9_counted 63 = .ok (.ireturn, 1) := by decide +kernel
theorem dX9_counted_64 : decode cX9_counted 64 = .ok (.iconst 0, 1) := by decide +kernel
theorem dX9_counted_65 : decode cX9_counted 65 = .ok (.ireturn, 1) := by decide +kernel
set_option maxRecDepth 100000 in
set_option maxHeartbeats 4000000 in
theorem w9_counted_ok {l : Launch} {idx : List (Nat × Nat)} {μ : Mem} {a1 : Int32} {a2 : Int32} {P : Int32 → Mem → Prop} {X : String → Mem → Prop} (hl : l.stackTraces = false) (hI : IdxOK idx) (hk : w9_counted_wp μ a1 a2 P) : PMet l yX9_counted (.code yX9_counted cX9_counted 3 (some .int)) 66 0 0 idx [pR 50 0, pI a1, pI a2] μ (qI P) X := by
  refine PMet_of mv_X9_counted.2.2.2.2.2.2 hl hI mv_X9_counted.2.2.2.1 rfl (Nat.le_of_ble_eq_true rfl) (fun G _ _ C hRt hHR hnT => ?_)
  show PW G 0 0 0 [some (pR 50 0), some (pI a1), some (pI a2)] [] μ
  unfold w9_counted_wp at hk
  refine px_iload_n (i := 2) C dX9_counted_0 rfl rfl ?_
  by_cases c9_0 : a2 = (0 : Int32)
  · replace hk := hk.1 c9_0
    refine px_tsw (tgt := 36) C dX9_counted_1 c9_0 (by decide) (by decide) rfl (by decide) ?_
    refine px_iconst (v := (1 : Int32)) C dX9_counted_36 rfl ?_
    exact px_iret C hRt dX9_counted_37 rfl rfl hk
  · skip
    by_cases c9_1 : a2 = (1 : Int32)
    · replace hk := hk.2.1 c9_1
      refine px_tsw (tgt := 38) C dX9_counted_1 c9_1 (by decide) (by decide) rfl (by decide) ?_
      refine px_aload_n (i := 0) C dX9_counted_38 rfl rfl ?_
      refine px_iload_n (i := 1) C dX9_counted_39 rfl rfl ?_
      refine px_bipush (v := (6 : Int32)) C dX9_counted_40 rfl ?_
      refine px_callVi (h := 0) (rc' := 0) (rs' := 0) C (HR_le hHR (Nat.le_of_ble_eq_true rfl)) hRt hnT dX9_counted_42 (gw8 152 rfl rfl) mv_X9_of (w9_of_ok (PCx_l C) (PCx_I C) hk) rfl rfl rfl rfl rfl (Nat.le_of_ble_eq_true rfl) (Nat.le_of_ble_eq_true rfl) (Nat.le_of_ble_eq_true rfl) (Nat.le_of_ble_eq_true rfl) ?_
      intro r2 μ1 hk
      exact px_iret C hRt dX9_counted_45 rfl rfl hk
    · skip
      by_cases c9_2 : a2 = (2 : Int32)
      · replace hk := hk.2.2.1 c9_2
        refine px_tsw (tgt := 46) C dX9_counted_1 c9_2 (by decide) (by decide) rfl (by decide) ?_
        refine px_aload_n (i := 0) C dX9_counted_46 rfl rfl ?_
        refine px_iload_n (i := 1) C dX9_counted_47 rfl rfl ?_
        refine px_callVi (h := 1) (rc' := 0) (rs' := 0) C (HR_le hHR (Nat.le_of_ble_eq_true rfl)) hRt hnT dX9_counted_48 (gw9 212 rfl rfl) mv_X9_duration (w9_duration_ok (PCx_l C) (PCx_I C) hk) rfl rfl rfl rfl rfl (Nat.le_of_ble_eq_true rfl) (Nat.le_of_ble_eq_true rfl) (Nat.le_of_ble_eq_true rfl) (Nat.le_of_ble_eq_true rfl) ?_
        intro r4 μ3 hk
        exact px_iret C hRt dX9_counted_51 rfl rfl hk
      · skip
        by_cases c9_3 : a2 = (3 : Int32)
        · replace hk := hk.2.2.2.1 c9_3
          refine px_tsw (tgt := 52) C dX9_counted_1 c9_3 (by decide) (by decide) rfl (by decide) ?_
          refine px_aload_n (i := 0) C dX9_counted_52 rfl rfl ?_
          refine px_iload_n (i := 1) C dX9_counted_53 rfl rfl ?_
          refine px_callVi (h := 2) (rc' := 0) (rs' := 0) C (HR_le hHR (Nat.le_of_ble_eq_true rfl)) hRt hnT dX9_counted_54 (gw9 168 rfl rfl) mv_X9_own (w9_own_ok (PCx_l C) (PCx_I C) hk) rfl rfl rfl rfl rfl (Nat.le_of_ble_eq_true rfl) (Nat.le_of_ble_eq_true rfl) (Nat.le_of_ble_eq_true rfl) (Nat.le_of_ble_eq_true rfl) ?_
          intro r6 μ5 hk
          exact px_iret C hRt dX9_counted_57 rfl rfl hk
        · skip
          by_cases c9_4 : a2 = (4 : Int32)
          · replace hk := hk.2.2.2.2.1 c9_4
            refine px_tsw (tgt := 58) C dX9_counted_1 c9_4 (by decide) (by decide) rfl (by decide) ?_
            refine px_aload_n (i := 0) C dX9_counted_58 rfl rfl ?_
            refine px_iload_n (i := 1) C dX9_counted_59 rfl rfl ?_
            refine px_callVi (h := 65) (rc' := 0) (rs' := 0) C (HR_le hHR (Nat.le_of_ble_eq_true rfl)) hRt hnT dX9_counted_60 (gw9 156 rfl rfl) mv_X9_critical (w9_critical_ok (PCx_l C) (PCx_I C) hk) rfl rfl rfl rfl rfl (Nat.le_of_ble_eq_true rfl) (Nat.le_of_ble_eq_true rfl) (Nat.le_of_ble_eq_true rfl) (Nat.le_of_ble_eq_true rfl) ?_
            intro r8 μ7 hk
            exact px_iret C hRt dX9_counted_63 rfl rfl hk
          · skip
            have c9_d : (a2 < (0 : Int32) ∨ (4 : Int32) < a2) := tsw_out5 c9_0 c9_1 c9_2 c9_3 c9_4
            replace hk := hk.2.2.2.2.2 c9_d
            refine px_tswo (tgt := 64) C dX9_counted_1 (by decide) (by decide) c9_d (by decide) ?_
            refine px_iconst (v := (0 : Int32)) C dX9_counted_64 rfl ?_
            exact px_iret C hRt dX9_counted_65 rfl rfl hk
theorem dX9_upTo_0 : decode cX9_upTo 0 = .ok (.iconst 0, 1) := by decide +kernel
theorem dX9_upTo_1 : decode cX9_upTo 1 = .ok (.istore_n 3, 1) := by decide +kernel
theorem dX9_upTo_2 : decode cX9_upTo 2 = .ok (.iconst 0, 1) := by decide +kernel
theorem dX9_upTo_3 : decode cX9_upTo 3 = .ok (.istore 4, 2) := by decide +kernel
theorem dX9_upTo_5 : decode cX9_upTo 5 = .ok (.iload 4, 2) := by decide +kernel
theorem dX9_upTo_7 : decode cX9_upTo 7 = .ok (.aload_n 0, 1) := by decide +kernel
theorem dX9_upTo_8 : decode cX9_upTo 8 = .ok (.getfield 7, 3) := by decide +kernel
theorem dX9_upTo_11 : decode cX9_upTo 11 = .ok (.iconst 0, 1) := by decide +kernel
theorem dX9_upTo_12 : decode cX9_upTo 12 = .ok (.iaload, 1) := by decide +kernel
theorem dX9_upTo_13 : decode cX9_upTo 13 = .ok (.if_icmp .ge 38, 3) := by decide +kernel
theorem dX9_upTo_16 : decode cX9_upTo 16 = .ok (.iload_n 3, 1) := by decide +kernel
theorem dX9_upTo_17 : decode cX9_upTo 17 = .ok (.aload_n 0, 1) := by decide +kernel
theorem dX9_upTo_18 : decode cX9_upTo 18 = .ok (.iload 4, 2) := by decide +kernel
theorem dX9_upTo_20 : decode cX9_upTo 20 = .ok (.iconst 3, 1) := by decide +kernel
theorem dX9_upTo_21 : decode cX9_upTo 21 = .ok (.invokevirtual 83, 3) := by decide +kernel
theorem dX9_upTo_24 : decode cX9_upTo 24 = .ok (.iload_n 1, 1) := by decide +kernel
theorem dX9_upTo_25 : decode cX9_upTo 25 = .ok (.if_icmp .ne 17, 3) := by decide +kernel
theorem dX9_upTo_28 : decode cX9_upTo 28 = .ok (.aload_n 0, 1) := by decide +kernel
theorem dX9_upTo_29 : decode cX9_upTo 29 = .ok (.iload 4, 2) := by decide +kernel
theorem dX9_upTo_31 : decode cX9_upTo 31 = .ok (.invokevirtual 261, 3) := by decide +kernel
theorem dX9_upTo_34 : decode cX9_upTo 34 = .ok (.iload_n 2, 1) := by decide +kernel
theorem dX9_upTo_35 : decode cX9_upTo 35 = .ok (.if_icmp .gt 7, 3) := by decide +kernel
theorem dX9_upTo_38 : decode cX9_upTo 38 = .ok (.iconst 1, 1) := by decide +kernel
theorem dX9_upTo_39 : decode cX9_upTo 39 = .ok (.goto 4, 3) := by decide +kernel
theorem dX9_upTo_42 : decode cX9_upTo 42 = .ok (.iconst 0, 1) := by decide +kernel
theorem dX9_upTo_43 : decode cX9_upTo 43 = .ok (.iadd, 1) := by decide +kernel
theorem dX9_upTo_44 : decode cX9_upTo 44 = .ok (.istore_n 3, 1) := by decide +kernel
theorem dX9_upTo_45 : decode cX9_upTo 45 = .ok (.iinc 4 1, 3) := by decide +kernel
theorem dX9_upTo_48 : decode cX9_upTo 48 = .ok (.goto (-43), 3) := by decide +kernel
theorem dX9_upTo_51 : decode cX9_upTo 51 = .ok (.iload_n 3, 1) := by decide +kernel
theorem dX9_upTo_52 : decode cX9_upTo 52 = .ok (.ireturn, 1) := by decide +kernel
set_option maxRecDepth 100000 in
set_option maxHeartbeats 4000000 in
theorem w9_upTo_b5_ok {G : GT} {P : Int32 → Mem → Prop} {X : String → Mem → Prop} (C : PCx G cX9_upTo 5 RX9) (hRt : PRt G (some .int) (qI P) X) (hHR : HR G (2)) (hnT : NoT G) {μ : Mem} {l1 : Int32} {l2 : Int32} {l3 : Int32} {l4 : Int32} (hk : w9_upTo_b5 P μ l1 l2 l3 l4) : PW G 0 0 5 [some (pR 50 0), some (pI l1), some (pI l2), some (pI l3), some (pI l4)] [] μ := by
  refine hk (fun (μ : Mem) (l1 : Int32) (l2 : Int32) (l3 : Int32) (l4 : Int32) => PW G 0 0 5 [some (pR 50 0), some (pI l1), some (pI l2), some (pI l3), some (pI l4)] [] μ) (fun (μ : Mem) l1 l2 l3 l4 hk => ?_)
  have hR5 : ∀ (μ : Mem) (l1 : Int32) (l2 : Int32) (l3 : Int32) (l4 : Int32), PW G 0 0 5 [some (pR 50 0), some (pI l1), some (pI l2), some (pI l3), some (pI l4)] [] μ → PW G 0 0 5 [some (pR 50 0), some (pI l1), some (pI l2), some (pI l3), some (pI l4)] [] μ := fun _ _ _ _ _ h => h
  unfold w9_upTo_b5_body at hk
  refine px_iload (i := 4) C dX9_upTo_5 rfl ?_
  refine px_aload_n (i := 0) C dX9_upTo_7 rfl rfl ?_
  refine px_getr C dX9_upTo_8 fl_RX9_7 rfl rfl rfl ?_
  refine px_iconst (v := (0 : Int32)) C dX9_upTo_11 rfl ?_
  obtain ⟨o1, hk⟩ := hk
  refine px_iald 3264 C dX9_upTo_12 rfl rfl rfl rfl o1 ?_
  refine px_icmp_ge (tgt := 51) C dX9_upTo_13 (by decide) (fun c8 => ?_) (fun c8 => ?_)
  · replace hk := hk.1 c8
    refine px_iload_n (i := 3) C dX9_upTo_51 rfl rfl ?_
    exact px_iret C hRt dX9_upTo_52 rfl rfl hk
  · replace hk := hk.2 c8
    refine px_iload_n (i := 3) C dX9_upTo_16 rfl rfl ?_
    refine px_aload_n (i := 0) C dX9_upTo_17 rfl rfl ?_
    refine px_iload (i := 4) C dX9_upTo_18 rfl ?_
    refine px_iconst (v := (3 : Int32)) C dX9_upTo_20 rfl ?_
    refine px_callVi (h := 0) (rc' := 0) (rs' := 0) C (HR_le hHR (Nat.le_of_ble_eq_true rfl)) hRt hnT dX9_upTo_21 (gw8 152 rfl rfl) mv_X9_of (w9_of_ok (PCx_l C) (PCx_I C) hk) rfl rfl rfl rfl rfl (Nat.le_of_ble_eq_true rfl) (Nat.le_of_ble_eq_true rfl) (Nat.le_of_ble_eq_true rfl) (Nat.le_of_ble_eq_true rfl) ?_
    intro r3 μ2 hk
    refine px_iload_n (i := 1) C dX9_upTo_24 rfl rfl ?_
    refine px_icmp_ne (tgt := 42) C dX9_upTo_25 (by decide) (fun c7 => ?_) (fun c7 => ?_)
    · replace hk := hk.1 c7
      refine px_iconst (v := (0 : Int32)) C dX9_upTo_42 rfl ?_
      refine px_iadd C dX9_upTo_43 ?_
      refine px_istore_n (i := 3) C dX9_upTo_44 rfl (by decide) rfl ?_
      refine px_iinc (i := 4) (v := (1 : Int32)) C dX9_upTo_45 rfl rfl (by decide) rfl ?_
      refine px_goto (tgt := 5) C dX9_upTo_48 (by decide) ?_
      exact PW_at (hR5 _ _ _ _ _ hk) (And.intro rfl (And.intro rfl (And.intro rfl (And.intro rfl (And.intro rfl trivial))))) (Nat.le_of_ble_eq_true rfl) (Nat.le_of_ble_eq_true rfl)
    · replace hk := hk.2 c7
      refine px_aload_n (i := 0) C dX9_upTo_28 rfl rfl ?_
      refine px_iload (i := 4) C dX9_upTo_29 rfl ?_
      refine px_callVi (h := 1) (rc' := 0) (rs' := 0) C (HR_le hHR (Nat.le_of_ble_eq_true rfl)) hRt hnT dX9_upTo_31 (gw9 212 rfl rfl) mv_X9_duration (w9_duration_ok (PCx_l C) (PCx_I C) hk) rfl rfl rfl rfl rfl (Nat.le_of_ble_eq_true rfl) (Nat.le_of_ble_eq_true rfl) (Nat.le_of_ble_eq_true rfl) (Nat.le_of_ble_eq_true rfl) ?_
      intro r5 μ4 hk
      refine px_iload_n (i := 2) C dX9_upTo_34 rfl rfl ?_
      refine px_icmp_gt (tgt := 42) C dX9_upTo_35 (by decide) (fun c6 => ?_) (fun c6 => ?_)
      · replace hk := hk.1 c6
        refine px_iconst (v := (0 : Int32)) C dX9_upTo_42 rfl ?_
        refine px_iadd C dX9_upTo_43 ?_
        refine px_istore_n (i := 3) C dX9_upTo_44 rfl (by decide) rfl ?_
        refine px_iinc (i := 4) (v := (1 : Int32)) C dX9_upTo_45 rfl rfl (by decide) rfl ?_
        refine px_goto (tgt := 5) C dX9_upTo_48 (by decide) ?_
        exact PW_at (hR5 _ _ _ _ _ hk) (And.intro rfl (And.intro rfl (And.intro rfl (And.intro rfl (And.intro rfl trivial))))) (Nat.le_of_ble_eq_true rfl) (Nat.le_of_ble_eq_true rfl)
      · replace hk := hk.2 c6
        refine px_iconst (v := (1 : Int32)) C dX9_upTo_38 rfl ?_
        refine px_goto (tgt := 43) C dX9_upTo_39 (by decide) ?_
        refine px_iadd C dX9_upTo_43 ?_
        refine px_istore_n (i := 3) C dX9_upTo_44 rfl (by decide) rfl ?_
        refine px_iinc (i := 4) (v := (1 : Int32)) C dX9_upTo_45 rfl rfl (by decide) rfl ?_
        refine px_goto (tgt := 5) C dX9_upTo_48 (by decide) ?_
        exact PW_at (hR5 _ _ _ _ _ hk) (And.intro rfl (And.intro rfl (And.intro rfl (And.intro rfl (And.intro rfl trivial))))) (Nat.le_of_ble_eq_true rfl) (Nat.le_of_ble_eq_true rfl)
set_option maxRecDepth 100000 in
set_option maxHeartbeats 4000000 in
theorem w9_upTo_ok {l : Launch} {idx : List (Nat × Nat)} {μ : Mem} {a1 : Int32} {a2 : Int32} {P : Int32 → Mem → Prop} {X : String → Mem → Prop} (hl : l.stackTraces = false) (hI : IdxOK idx) (hk : w9_upTo_wp μ a1 a2 P) : PMet l yX9_upTo (.code yX9_upTo cX9_upTo 5 (some .int)) 2 0 0 idx [pR 50 0, pI a1, pI a2] μ (qI P) X := by
  refine PMet_of mv_X9_upTo.2.2.2.2.2.2 hl hI mv_X9_upTo.2.2.2.1 rfl (Nat.le_of_ble_eq_true rfl) (fun G _ _ C hRt hHR hnT => ?_)
  show PW G 0 0 0 [some (pR 50 0), some (pI a1), some (pI a2), none, none] [] μ
  unfold w9_upTo_wp at hk
  refine px_iconst (v := (0 : Int32)) C dX9_upTo_0 rfl ?_
  refine px_istore_n (i := 3) C dX9_upTo_1 rfl (by decide) rfl ?_
  refine px_iconst (v := (0 : Int32)) C dX9_upTo_2 rfl ?_
  refine px_istore (i := 4) C dX9_upTo_3 (by decide) rfl ?_
  exact PW_at (w9_upTo_b5_ok C hRt hHR hnT hk) (And.intro rfl (And.intro rfl (And.intro rfl (And.intro rfl (And.intro rfl trivial))))) (Nat.le_of_ble_eq_true rfl) (Nat.le_of_ble_eq_true rfl)
