theorem dX9_extentOf_0 : decode cX9_extentOf 0 = .ok (.ldc 98, 2) := by decide +kernel
theorem dX9_extentOf_2 : decode cX9_extentOf 2 = .ok (.istore_n 2, 1) := by decide +kernel
theorem dX9_extentOf_3 : decode cX9_extentOf 3 = .ok (.ldc 106, 2) := by decide +kernel
theorem dX9_extentOf_5 : decode cX9_extentOf 5 = .ok (.istore_n 3, 1) := by decide +kernel
theorem dX9_extentOf_6 : decode cX9_extentOf 6 = .ok (.iconst 0, 1) := by decide +kernel
theorem dX9_extentOf_7 : decode cX9_extentOf 7 = .ok (.istore 4, 2) := by decide +kernel
theorem dX9_extentOf_9 : decode cX9_extentOf 9 = .ok (.iload 4, 2) := by decide +kernel
theorem dX9_extentOf_11 : decode cX9_extentOf 11 = .ok (.aload_n 0, 1) := by decide +kernel
theorem dX9_extentOf_12 : decode cX9_extentOf 12 = .ok (.getfield 7, 3) := by decide +kernel
theorem dX9_extentOf_15 : decode cX9_extentOf 15 = .ok (.iconst 0, 1) := by decide +kernel
theorem dX9_extentOf_16 : decode cX9_extentOf 16 = .ok (.iaload, 1) := by decide +kernel
theorem dX9_extentOf_17 : decode cX9_extentOf 17 = .ok (.if_icmp .ge 42, 3) := by decide +kernel
theorem dX9_extentOf_20 : decode cX9_extentOf 20 = .ok (.aload_n 0, 1) := by decide +kernel
theorem dX9_extentOf_21 : decode cX9_extentOf 21 = .ok (.iload 4, 2) := by decide +kernel
theorem dX9_extentOf_23 : decode cX9_extentOf 23 = .ok (.iconst 1, 1) := by decide +kernel
theorem dX9_extentOf_24 : decode cX9_extentOf 24 = .ok (.invokevirtual 83, 3) := by decide +kernel
theorem dX9_extentOf_27 : decode cX9_extentOf 27 = .ok (.iload_n 1, 1) := by decide +kernel
theorem dX9_extentOf_28 : decode cX9_extentOf 28 = .ok (.if_icmp .ne 25, 3) := by decide +kernel
theorem dX9_extentOf_31 : decode cX9_extentOf 31 = .ok (.iload_n 2, 1) := by decide +kernel
theorem dX9_extentOf_32 : decode cX9_extentOf 32 = .ok (.aload_n 0, 1) := by decide +kernel
theorem dX9_extentOf_33 : decode cX9_extentOf 33 = .ok (.iload 4, 2) := by decide +kernel
theorem dX9_extentOf_35 : decode cX9_extentOf 35 = .ok (.invokevirtual 131, 3) := by decide +kernel
theorem dX9_extentOf_38 : decode cX9_extentOf 38 = .ok (.invokestatic 159, 3) := by decide +kernel
theorem dX9_extentOf_41 : decode cX9_extentOf 41 = .ok (.istore_n 2, 1) := by decide +kernel
theorem dX9_extentOf_42 : decode cX9_extentOf 42 = .ok (.iload_n 3, 1) := by decide +kernel
theorem dX9_extentOf_43 : decode cX9_extentOf 43 = .ok (.aload_n 0, 1) := by decide +kernel
theorem dX9_extentOf_44 : decode cX9_extentOf 44 = .ok (.iload 4, 2) := by decide +kernel
theorem dX9_extentOf_46 : decode cX9_extentOf 46 = .ok (.invokevirtual 134, 3) := by decide +kernel
theorem dX9_extentOf_49 : decode cX9_extentOf 49 = .ok (.invokestatic 156, 3) := by decide +kernel
theorem dX9_extentOf_52 : decode cX9_extentOf 52 = .ok (.istore_n 3, 1) := by decide +kernel
theorem dX9_extentOf_53 : decode cX9_extentOf 53 = .ok (.iinc 4 1, 3) := by decide +kernel
theorem dX9_extentOf_56 : decode cX9_extentOf 56 = .ok (.goto (-47), 3) := by decide +kernel
theorem dX9_extentOf_59 : decode cX9_extentOf 59 = .ok (.iload_n 3, 1) := by decide +kernel
theorem dX9_extentOf_60 : decode cX9_extentOf 60 = .ok (.iload_n 2, 1) := by decide +kernel
theorem dX9_extentOf_61 : decode cX9_extentOf 61 = .ok (.isub, 1) := by decide +kernel
theorem dX9_extentOf_62 : decode cX9_extentOf 62 = .ok (.ireturn, 1) := by decide +kernel
set_option maxRecDepth 100000 in
set_option maxHeartbeats 4000000 in
theorem w9_extentOf_b9_ok {G : GT} {P : Int32 → Mem → Prop} {X : String → Mem → Prop} (C : PCx G cX9_extentOf 5 RX9) (hRt : PRt G (some .int) (qI P) X) (hHR : HR G (2)) (hnT : NoT G) {μ : Mem} {l1 : Int32} {l2 : Int32} {l3 : Int32} {l4 : Int32} (hk : w9_extentOf_b9 P μ l1 l2 l3 l4) : PW G 0 0 9 [some (pR 50 0), some (pI l1), some (pI l2), some (pI l3), some (pI l4)] [] μ := by
  refine hk (fun (μ : Mem) (l1 : Int32) (l2 : Int32) (l3 : Int32) (l4 : Int32) => PW G 0 0 9 [some (pR 50 0), some (pI l1), some (pI l2), some (pI l3), some (pI l4)] [] μ) (fun (μ : Mem) l1 l2 l3 l4 hk => ?_)
  have hR9 : ∀ (μ : Mem) (l1 : Int32) (l2 : Int32) (l3 : Int32) (l4 : Int32), PW G 0 0 9 [some (pR 50 0), some (pI l1), some (pI l2), some (pI l3), some (pI l4)] [] μ → PW G 0 0 9 [some (pR 50 0), some (pI l1), some (pI l2), some (pI l3), some (pI l4)] [] μ := fun _ _ _ _ _ h => h
  unfold w9_extentOf_b9_body at hk
  refine px_iload (i := 4) C dX9_extentOf_9 rfl ?_
  refine px_aload_n (i := 0) C dX9_extentOf_11 rfl rfl ?_
  refine px_getr C dX9_extentOf_12 fl_RX9_7 rfl rfl rfl ?_
  refine px_iconst (v := (0 : Int32)) C dX9_extentOf_15 rfl ?_
  obtain ⟨o1, hk⟩ := hk
  refine px_iald 3264 C dX9_extentOf_16 rfl rfl rfl rfl o1 ?_
  refine px_icmp_ge (tgt := 59) C dX9_extentOf_17 (by decide) (fun c9 => ?_) (fun c9 => ?_)
  · replace hk := hk.1 c9
    refine px_iload_n (i := 3) C dX9_extentOf_59 rfl rfl ?_
    refine px_iload_n (i := 2) C dX9_extentOf_60 rfl rfl ?_
    refine px_isub C dX9_extentOf_61 ?_
    exact px_iret C hRt dX9_extentOf_62 rfl rfl hk
  · replace hk := hk.2 c9
    refine px_aload_n (i := 0) C dX9_extentOf_20 rfl rfl ?_
    refine px_iload (i := 4) C dX9_extentOf_21 rfl ?_
    refine px_iconst (v := (1 : Int32)) C dX9_extentOf_23 rfl ?_
    refine px_callVi (h := 0) (rc' := 0) (rs' := 0) C (HR_le hHR (Nat.le_of_ble_eq_true rfl)) hRt hnT dX9_extentOf_24 (gw8 152 rfl rfl) mv_X9_of (w9_of_ok (PCx_l C) (PCx_I C) hk) rfl rfl rfl rfl rfl (Nat.le_of_ble_eq_true rfl) (Nat.le_of_ble_eq_true rfl) (Nat.le_of_ble_eq_true rfl) (Nat.le_of_ble_eq_true rfl) ?_
    intro r3 μ2 hk
    refine px_iload_n (i := 1) C dX9_extentOf_27 rfl rfl ?_
    refine px_icmp_ne (tgt := 53) C dX9_extentOf_28 (by decide) (fun c8 => ?_) (fun c8 => ?_)
    · replace hk := hk.1 c8
      refine px_iinc (i := 4) (v := (1 : Int32)) C dX9_extentOf_53 rfl rfl (by decide) rfl ?_
      refine px_goto (tgt := 9) C dX9_extentOf_56 (by decide) ?_
      exact PW_at (hR9 _ _ _ _ _ hk) (And.intro rfl (And.intro rfl (And.intro rfl (And.intro rfl (And.intro rfl trivial))))) (Nat.le_of_ble_eq_true rfl) (Nat.le_of_ble_eq_true rfl)
    · replace hk := hk.2 c8
      refine px_iload_n (i := 2) C dX9_extentOf_31 rfl rfl ?_
      refine px_aload_n (i := 0) C dX9_extentOf_32 rfl rfl ?_
      refine px_iload (i := 4) C dX9_extentOf_33 rfl ?_
      refine px_callVi (h := 1) (rc' := 0) (rs' := 0) C (HR_le hHR (Nat.le_of_ble_eq_true rfl)) hRt hnT dX9_extentOf_35 (gw9 22 rfl rfl) mv_X9_begin (w9_begin_ok (PCx_l C) (PCx_I C) hk) rfl rfl rfl rfl rfl (Nat.le_of_ble_eq_true rfl) (Nat.le_of_ble_eq_true rfl) (Nat.le_of_ble_eq_true rfl) (Nat.le_of_ble_eq_true rfl) ?_
      intro r5 μ4 hk
      refine px_mmin C (HR_le hHR (Nat.le_of_ble_eq_true rfl)) dX9_extentOf_38 (gw9 143 rfl rfl) math_min (Nat.le_of_ble_eq_true rfl) ?_
      refine px_istore_n (i := 2) C dX9_extentOf_41 rfl (by decide) rfl ?_
      refine px_iload_n (i := 3) C dX9_extentOf_42 rfl rfl ?_
      refine px_aload_n (i := 0) C dX9_extentOf_43 rfl rfl ?_
      refine px_iload (i := 4) C dX9_extentOf_44 rfl ?_
      refine px_callVi (h := 1) (rc' := 0) (rs' := 0) C (HR_le hHR (Nat.le_of_ble_eq_true rfl)) hRt hnT dX9_extentOf_46 (gw9 26 rfl rfl) mv_X9_end (w9_end_ok (PCx_l C) (PCx_I C) hk) rfl rfl rfl rfl rfl (Nat.le_of_ble_eq_true rfl) (Nat.le_of_ble_eq_true rfl) (Nat.le_of_ble_eq_true rfl) (Nat.le_of_ble_eq_true rfl) ?_
      intro r7 μ6 hk
      refine px_mmax C (HR_le hHR (Nat.le_of_ble_eq_true rfl)) dX9_extentOf_49 (gw9 142 rfl rfl) math_max (Nat.le_of_ble_eq_true rfl) ?_
      refine px_istore_n (i := 3) C dX9_extentOf_52 rfl (by decide) rfl ?_
      refine px_iinc (i := 4) (v := (1 : Int32)) C dX9_extentOf_53 rfl rfl (by decide) rfl ?_
      refine px_goto (tgt := 9) C dX9_extentOf_56 (by decide) ?_
      exact PW_at (hR9 _ _ _ _ _ hk) (And.intro rfl (And.intro rfl (And.intro rfl (And.intro rfl (And.intro rfl trivial))))) (Nat.le_of_ble_eq_true rfl) (Nat.le_of_ble_eq_true rfl)
set_option maxRecDepth 100000 in
set_option maxHeartbeats 4000000 in
theorem w9_extentOf_ok {l : Launch} {idx : List (Nat × Nat)} {μ : Mem} {a1 : Int32} {P : Int32 → Mem → Prop} {X : String → Mem → Prop} (hl : l.stackTraces = false) (hI : IdxOK idx) (hk : w9_extentOf_wp μ a1 P) : PMet l yX9_extentOf (.code yX9_extentOf cX9_extentOf 5 (some .int)) 2 0 0 idx [pR 50 0, pI a1] μ (qI P) X := by
  refine PMet_of mv_X9_extentOf.2.2.2.2.2.2 hl hI mv_X9_extentOf.2.2.2.1 rfl (Nat.le_of_ble_eq_true rfl) (fun G _ _ C hRt hHR hnT => ?_)
  show PW G 0 0 0 [some (pR 50 0), some (pI a1), none, none, none] [] μ
  unfold w9_extentOf_wp at hk
  refine px_ldc (v := (100000000 : Int32)) C dX9_extentOf_0 (gw8 216 rfl rfl) ?_
  refine px_istore_n (i := 2) C dX9_extentOf_2 rfl (by decide) rfl ?_
  refine px_ldc (v := (-100000000 : Int32)) C dX9_extentOf_3 (gw8 229 rfl rfl) ?_
  refine px_istore_n (i := 3) C dX9_extentOf_5 rfl (by decide) rfl ?_
  refine px_iconst (v := (0 : Int32)) C dX9_extentOf_6 rfl ?_
  refine px_istore (i := 4) C dX9_extentOf_7 (by decide) rfl ?_
  exact PW_at (w9_extentOf_b9_ok C hRt hHR hnT hk) (And.intro rfl (And.intro rfl (And.intro rfl (And.intro rfl (And.intro rfl trivial))))) (Nat.le_of_ble_eq_true rfl) (Nat.le_of_ble_eq_true rfl)
theorem dX9_active_0 : decode cX9_active 0 = .ok (.aload_n 0, 1) := by decide +kernel
theorem dX9_active_1 : decode cX9_active 1 = .ok (.iconst 0, 1) := by decide +kernel
theorem dX9_active_2 : decode cX9_active 2 = .ok (.putfield 186, 3) := by decide +kernel
theorem dX9_active_5 : decode cX9_active 5 = .ok (.iconst 0, 1) := by decide +kernel
theorem dX9_active_6 : decode cX9_active 6 = .ok (.istore_n 3, 1) := by decide +kernel
theorem dX9_active_7 : decode cX9_active 7 = .ok (.iload_n 3, 1) := by decide +kernel
theorem dX9_active_8 : decode cX9_active 8 = .ok (.aload_n 0, 1) := by decide +kernel
theorem dX9_active_9 : decode cX9_active 9 = .ok (.getfield 7, 3) := by decide +kernel
theorem dX9_active_12 : decode cX9_active 12 = .ok (.iconst 0, 1) := by decide +kernel
theorem dX9_active_13 : decode cX9_active 13 = .ok (.iaload, 1) := by decide +kernel
theorem dX9_active_14 : decode cX9_active 14 = .ok (.if_icmp .ge 43, 3) := by decide +kernel
theorem dX9_active_17 : decode cX9_active 17 = .ok (.aload_n 0, 1) := by decide +kernel
theorem dX9_active_18 : decode cX9_active 18 = .ok (.iload_n 3, 1) := by decide +kernel
theorem dX9_active_19 : decode cX9_active 19 = .ok (.iconst 1, 1) := by decide +kernel
theorem dX9_active_20 : decode cX9_active 20 = .ok (.invokevirtual 83, 3) := by decide +kernel
theorem dX9_active_23 : decode cX9_active 23 = .ok (.iload_n 1, 1) := by decide +kernel
theorem dX9_active_24 : decode cX9_active 24 = .ok (.if_icmp .ne 27, 3) := by decide +kernel
theorem dX9_active_27 : decode cX9_active 27 = .ok (.aload_n 0, 1) := by decide +kernel
theorem dX9_active_28 : decode cX9_active 28 = .ok (.iload_n 3, 1) := by decide +kernel
theorem dX9_active_29 : decode cX9_active 29 = .ok (.iconst 3, 1) := by decide +kernel
theorem dX9_active_30 : decode cX9_active 30 = .ok (.invokevirtual 83, 3) := by decide +kernel
theorem dX9_active_33 : decode cX9_active 33 = .ok (.iload_n 2, 1) := by decide +kernel
theorem dX9_active_34 : decode cX9_active 34 = .ok (.if_icmp .ne 17, 3) := by decide +kernel
theorem dX9_active_37 : decode cX9_active 37 = .ok (.aload_n 0, 1) := by decide +kernel
theorem dX9_active_38 : decode cX9_active 38 = .ok (.aload_n 0, 1) := by decide +kernel
theorem dX9_active_39 : decode cX9_active 39 = .ok (.iload_n 3, 1) := by decide +kernel
theorem dX9_active_40 : decode cX9_active 40 = .ok (.invokevirtual 131, 3) := by decide +kernel
theorem dX9_active_43 : decode cX9_active 43 = .ok (.aload_n 0, 1) := by decide +kernel
theorem dX9_active_44 : decode cX9_active 44 = .ok (.iload_n 3, 1) := by decide +kernel
theorem dX9_active_45 : decode cX9_active 45 = .ok (.invokevirtual 134, 3) := by decide +kernel
theorem dX9_active_48 : decode cX9_active 48 = .ok (.invokevirtual 189, 3) := by decide +kernel
theorem dX9_active_51 : decode cX9_active 51 = .ok (.iinc 3 1, 3) := by decide +kernel
theorem dX9_active_54 : decode cX9_active 54 = .ok (.goto (-47), 3) := by decide +kernel
theorem dX9_active_57 : decode cX9_active 57 = .ok (.aload_n 0, 1) := by decide +kernel
theorem dX9_active_58 : decode cX9_active 58 = .ok (.invokevirtual 193, 3) := by decide +kernel
theorem dX9_active_61 : decode cX9_active 61 = .ok (.ireturn, 1) := by decide +kernel
set_option maxRecDepth 100000 in
set_option maxHeartbeats 4000000 in
theorem w9_active_b7_ok {G : GT} {P : Int32 → Mem → Prop} {X : String → Mem → Prop} (C : PCx G cX9_active 4 RX9) (hRt : PRt G (some .int) (qI P) X) (hHR : HR G (2)) (hnT : NoT G) {μ : Mem} {l1 : Int32} {l2 : Int32} {l3 : Int32} (hk : w9_active_b7 P μ l1 l2 l3) : PW G 0 0 7 [some (pR 50 0), some (pI l1), some (pI l2), some (pI l3)] [] μ := by
  refine hk (fun (μ : Mem) (l1 : Int32) (l2 : Int32) (l3 : Int32) => PW G 0 0 7 [some (pR 50 0), some (pI l1), some (pI l2), some (pI l3)] [] μ) (fun (μ : Mem) l1 l2 l3 hk => ?_)
  have hR7 : ∀ (μ : Mem) (l1 : Int32) (l2 : Int32) (l3 : Int32), PW G 0 0 7 [some (pR 50 0), some (pI l1), some (pI l2), some (pI l3)] [] μ → PW G 0 0 7 [some (pR 50 0), some (pI l1), some (pI l2), some (pI l3)] [] μ := fun _ _ _ _ h => h
  unfold w9_active_b7_body at hk
  refine px_iload_n (i := 3) C dX9_active_7 rfl rfl ?_
  refine px_aload_n (i := 0) C dX9_active_8 rfl rfl ?_
  refine px_getr C dX9_active_9 fl_RX9_7 rfl rfl rfl ?_
  refine px_iconst (v := (0 : Int32)) C dX9_active_12 rfl ?_
  obtain ⟨o2, hk⟩ := hk
  refine px_iald 3264 C dX9_active_13 rfl rfl rfl rfl o2 ?_
  refine px_icmp_ge (tgt := 57) C dX9_active_14 (by decide) (fun c16 => ?_) (fun c16 => ?_)
  · replace hk := hk.1 c16
    refine px_aload_n (i := 0) C dX9_active_57 rfl rfl ?_
    refine px_callVi (h := 1) (rc' := 0) (rs' := 0) C (HR_le hHR (Nat.le_of_ble_eq_true rfl)) hRt hnT dX9_active_58 (gw9 176 rfl rfl) mv_X9_covered (w9_covered_ok (PCx_l C) (PCx_I C) hk) rfl rfl rfl rfl rfl (Nat.le_of_ble_eq_true rfl) (Nat.le_of_ble_eq_true rfl) (Nat.le_of_ble_eq_true rfl) (Nat.le_of_ble_eq_true rfl) ?_
    intro r4 μ3 hk
    exact px_iret C hRt dX9_active_61 rfl rfl hk
  · replace hk := hk.2 c16
    refine px_aload_n (i := 0) C dX9_active_17 rfl rfl ?_
    refine px_iload_n (i := 3) C dX9_active_18 rfl rfl ?_
    refine px_iconst (v := (1 : Int32)) C dX9_active_19 rfl ?_
    refine px_callVi (h := 0) (rc' := 0) (rs' := 0) C (HR_le hHR (Nat.le_of_ble_eq_true rfl)) hRt hnT dX9_active_20 (gw8 152 rfl rfl) mv_X9_of (w9_of_ok (PCx_l C) (PCx_I C) hk) rfl rfl rfl rfl rfl (Nat.le_of_ble_eq_true rfl) (Nat.le_of_ble_eq_true rfl) (Nat.le_of_ble_eq_true rfl) (Nat.le_of_ble_eq_true rfl) ?_
    intro r6 μ5 hk
    refine px_iload_n (i := 1) C dX9_active_23 rfl rfl ?_
    refine px_icmp_ne (tgt := 51) C dX9_active_24 (by decide) (fun c15 => ?_) (fun c15 => ?_)
    · replace hk := hk.1 c15
      refine px_iinc (i := 3) (v := (1 : Int32)) C dX9_active_51 rfl rfl (by decide) rfl ?_
      refine px_goto (tgt := 7) C dX9_active_54 (by decide) ?_
      exact PW_at (hR7 _ _ _ _ hk) (And.intro rfl (And.intro rfl (And.intro rfl (And.intro rfl trivial)))) (Nat.le_of_ble_eq_true rfl) (Nat.le_of_ble_eq_true rfl)
    · replace hk := hk.2 c15
      refine px_aload_n (i := 0) C dX9_active_27 rfl rfl ?_
      refine px_iload_n (i := 3) C dX9_active_28 rfl rfl ?_
      refine px_iconst (v := (3 : Int32)) C dX9_active_29 rfl ?_
      refine px_callVi (h := 0) (rc' := 0) (rs' := 0) C (HR_le hHR (Nat.le_of_ble_eq_true rfl)) hRt hnT dX9_active_30 (gw8 152 rfl rfl) mv_X9_of (w9_of_ok (PCx_l C) (PCx_I C) hk) rfl rfl rfl rfl rfl (Nat.le_of_ble_eq_true rfl) (Nat.le_of_ble_eq_true rfl) (Nat.le_of_ble_eq_true rfl) (Nat.le_of_ble_eq_true rfl) ?_
      intro r8 μ7 hk
      refine px_iload_n (i := 2) C dX9_active_33 rfl rfl ?_
      refine px_icmp_ne (tgt := 51) C dX9_active_34 (by decide) (fun c14 => ?_) (fun c14 => ?_)
      · replace hk := hk.1 c14
        refine px_iinc (i := 3) (v := (1 : Int32)) C dX9_active_51 rfl rfl (by decide) rfl ?_
        refine px_goto (tgt := 7) C dX9_active_54 (by decide) ?_
        exact PW_at (hR7 _ _ _ _ hk) (And.intro rfl (And.intro rfl (And.intro rfl (And.intro rfl trivial)))) (Nat.le_of_ble_eq_true rfl) (Nat.le_of_ble_eq_true rfl)
      · replace hk := hk.2 c14
        refine px_aload_n (i := 0) C dX9_active_37 rfl rfl ?_
        refine px_aload_n (i := 0) C dX9_active_38 rfl rfl ?_
        refine px_iload_n (i := 3) C dX9_active_39 rfl rfl ?_
        refine px_callVi (h := 1) (rc' := 0) (rs' := 0) C (HR_le hHR (Nat.le_of_ble_eq_true rfl)) hRt hnT dX9_active_40 (gw9 22 rfl rfl) mv_X9_begin (w9_begin_ok (PCx_l C) (PCx_I C) hk) rfl rfl rfl rfl rfl (Nat.le_of_ble_eq_true rfl) (Nat.le_of_ble_eq_true rfl) (Nat.le_of_ble_eq_true rfl) (Nat.le_of_ble_eq_true rfl) ?_
        intro r10 μ9 hk
        refine px_aload_n (i := 0) C dX9_active_43 rfl rfl ?_
        refine px_iload_n (i := 3) C dX9_active_44 rfl rfl ?_
        refine px_callVi (h := 1) (rc' := 0) (rs' := 0) C (HR_le hHR (Nat.le_of_ble_eq_true rfl)) hRt hnT dX9_active_45 (gw9 26 rfl rfl) mv_X9_end (w9_end_ok (PCx_l C) (PCx_I C) hk) rfl rfl rfl rfl rfl (Nat.le_of_ble_eq_true rfl) (Nat.le_of_ble_eq_true rfl) (Nat.le_of_ble_eq_true rfl) (Nat.le_of_ble_eq_true rfl) ?_
        intro r12 μ11 hk
        refine px_callVv (h := 0) (rc' := 0) (rs' := 0) C (HR_le hHR (Nat.le_of_ble_eq_true rfl)) hRt hnT dX9_active_48 (gw9 172 rfl rfl) mv_X9_range (w9_range_ok (PCx_l C) (PCx_I C) hk) rfl rfl rfl rfl rfl (Nat.le_of_ble_eq_true rfl) (Nat.le_of_ble_eq_true rfl) (Nat.le_of_ble_eq_true rfl) (Nat.le_of_ble_eq_true rfl) ?_
        intro μ13 hk
        refine px_iinc (i := 3) (v := (1 : Int32)) C dX9_active_51 rfl rfl (by decide) rfl ?_
        refine px_goto (tgt := 7) C dX9_active_54 (by decide) ?_
        exact PW_at (hR7 _ _ _ _ hk) (And.intro rfl (And.intro rfl (And.intro rfl (And.intro rfl trivial)))) (Nat.le_of_ble_eq_true rfl) (Nat.le_of_ble_eq_true rfl)
set_option maxRecDepth 100000 in
set_option maxHeartbeats 4000000 in
theorem w9_active_ok {l : Launch} {idx : List (Nat × Nat)} {μ : Mem} {a1 : Int32} {a2 : Int32} {P : Int32 → Mem → Prop} {X : String → Mem → Prop} (hl : l.stackTraces = false) (hI : IdxOK idx) (hk : w9_active_wp μ a1 a2 P) : PMet l yX9_active (.code yX9_active cX9_active 4 (some .int)) 2 0 0 idx [pR 50 0, pI a1, pI a2] μ (qI P) X := by
  refine PMet_of mv_X9_active.2.2.2.2.2.2 hl hI mv_X9_active.2.2.2.1 rfl (Nat.le_of_ble_eq_true rfl) (fun G _ _ C hRt hHR hnT => ?_)
  show PW G 0 0 0 [some (pR 50 0), some (pI a1), some (pI a2), none] [] μ
  unfold w9_active_wp at hk
  refine px_aload_n (i := 0) C dX9_active_0 rfl rfl ?_
  refine px_iconst (v := (0 : Int32)) C dX9_active_1 rfl ?_
  replace hk := hk _ rfl
  refine px_puti 3229 C dX9_active_2 fp_RX9_186 rfl rfl rfl rfl rfl rfl ?_
  refine px_iconst (v := (0 : Int32)) C dX9_active_5 rfl ?_
  refine px_istore_n (i := 3) C dX9_active_6 rfl (by decide) rfl ?_
  exact PW_at (w9_active_b7_ok C hRt hHR hnT hk) (And.intro rfl (And.intro rfl (And.intro rfl (And.intro rfl trivial)))) (Nat.le_of_ble_eq_true rfl) (Nat.le_of_ble_eq_true rfl)
theorem dX9_linkOf_0 : decode cX9_linkOf 0 = .ok (.iconst 0, 1) := by decide +kernel
theorem dX9_linkOf_1 : decode cX9_linkOf 1 = .ok (.istore_n 3, 1) := by decide +kernel
theorem dX9_linkOf_2 : decode cX9_linkOf 2 = .ok (.iload_n 3, 1) := by decide +kernel
theorem dX9_linkOf_3 : decode cX9_linkOf 3 = .ok (.aload_n 0, 1) := by decide +kernel
theorem dX9_linkOf_4 : decode cX9_linkOf 4 = .ok (.getfield 7, 3) := by decide +kernel
theorem dX9_linkOf_7 : decode cX9_linkOf 7 = .ok (.iconst 1, 1) := by decide +kernel
theorem dX9_linkOf_8 : decode cX9_linkOf 8 = .ok (.iaload, 1) := by decide +kernel
theorem dX9_linkOf_9 : decode cX9_linkOf 9 = .ok (.if_icmp .ge 45, 3) := by decide +kernel
theorem dX9_linkOf_12 : decode cX9_linkOf 12 = .ok (.aload_n 0, 1) := by decide +kernel
theorem dX9_linkOf_13 : decode cX9_linkOf 13 = .ok (.getfield 7, 3) := by decide +kernel
theorem dX9_linkOf_16 : decode cX9_linkOf 16 = .ok (.sipush 282, 3) := by decide +kernel
theorem dX9_linkOf_19 : decode cX9_linkOf 19 = .ok (.iconst 2, 1) := by decide +kernel
theorem dX9_linkOf_20 : decode cX9_linkOf 20 = .ok (.iload_n 3, 1) := by decide +kernel
theorem dX9_linkOf_21 : decode cX9_linkOf 21 = .ok (.imul, 1) := by decide +kernel
theorem dX9_linkOf_22 : decode cX9_linkOf 22 = .ok (.iadd, 1) := by decide +kernel
theorem dX9_linkOf_23 : decode cX9_linkOf 23 = .ok (.iaload, 1) := by decide +kernel
theorem dX9_linkOf_24 : decode cX9_linkOf 24 = .ok (.iload_n 1, 1) := by decide +kernel
theorem dX9_linkOf_25 : decode cX9_linkOf 25 = .ok (.if_icmp .ne 23, 3) := by decide +kernel
theorem dX9_linkOf_28 : decode cX9_linkOf 28 = .ok (.aload_n 0, 1) := by decide +kernel
theorem dX9_linkOf_29 : decode cX9_linkOf 29 = .ok (.getfield 7, 3) := by decide +kernel
theorem dX9_linkOf_32 : decode cX9_linkOf 32 = .ok (.sipush 282, 3) := by decide +kernel
theorem dX9_linkOf_35 : decode cX9_linkOf 35 = .ok (.iconst 2, 1) := by decide +kernel
theorem dX9_linkOf_36 : decode cX9_linkOf 36 = .ok (.iload_n 3, 1) := by decide +kernel
theorem dX9_linkOf_37 : decode cX9_linkOf 37 = .ok (.imul, 1) := by decide +kernel
theorem dX9_linkOf_38 : decode cX9_linkOf 38 = .ok (.iadd, 1) := by decide +kernel
theorem dX9_linkOf_39 : decode cX9_linkOf 39 = .ok (.iconst 1, 1) := by decide +kernel
theorem dX9_linkOf_40 : decode cX9_linkOf 40 = .ok (.iadd, 1) := by decide +kernel
theorem dX9_linkOf_41 : decode cX9_linkOf 41 = .ok (.iaload, 1) := by decide +kernel
theorem dX9_linkOf_42 : decode cX9_linkOf 42 = .ok (.iload_n 2, 1) := by decide +kernel
theorem dX9_linkOf_43 : decode cX9_linkOf 43 = .ok (.if_icmp .ne 5, 3) := by decide +kernel
theorem dX9_linkOf_46 : decode cX9_linkOf 46 = .ok (.iload_n 3, 1) := by decide +kernel
theorem dX9_linkOf_47 : decode cX9_linkOf 47 = .ok (.ireturn, 1) := by decide +kernel
theorem dX9_linkOf_48 : decode cX9_linkOf 48 = .ok (.iinc 3 1, 3) := by decide +kernel
theorem dX9_linkOf_51 : decode cX9_linkOf 51 = .ok (.goto (-49), 3) := by decide +kernel
theorem dX9_linkOf_54 : decode cX9_linkOf 54 = .ok (.iconst (-1), 1) := by decide +kernel
theorem dX9_linkOf_55 : decode cX9_linkOf 55 = .ok (.ireturn, 1) := by decide +kernel
set_option maxRecDepth 100000 in
set_option maxHeartbeats 4000000 in
theorem w9_linkOf_b2_ok {G : GT} {P : Int32 → Mem → Prop} {X : String → Mem → Prop} (C : PCx G cX9_linkOf 4 RX9) (hRt : PRt G (some .int) (qI P) X) (hHR : HR G (0)) (hnT : NoT G) {μ : Mem} {l1 : Int32} {l2 : Int32} {l3 : Int32} (hk : w9_linkOf_b2 P μ l1 l2 l3) : PW G 0 0 2 [some (pR 50 0), some (pI l1), some (pI l2), some (pI l3)] [] μ := by
  refine hk (fun (μ : Mem) (l1 : Int32) (l2 : Int32) (l3 : Int32) => PW G 0 0 2 [some (pR 50 0), some (pI l1), some (pI l2), some (pI l3)] [] μ) (fun (μ : Mem) l1 l2 l3 hk => ?_)
  have hR2 : ∀ (μ : Mem) (l1 : Int32) (l2 : Int32) (l3 : Int32), PW G 0 0 2 [some (pR 50 0), some (pI l1), some (pI l2), some (pI l3)] [] μ → PW G 0 0 2 [some (pR 50 0), some (pI l1), some (pI l2), some (pI l3)] [] μ := fun _ _ _ _ h => h
  unfold w9_linkOf_b2_body at hk
  refine px_iload_n (i := 3) C dX9_linkOf_2 rfl rfl ?_
  refine px_aload_n (i := 0) C dX9_linkOf_3 rfl rfl ?_
  refine px_getr C dX9_linkOf_4 fl_RX9_7 rfl rfl rfl ?_
  refine px_iconst (v := (1 : Int32)) C dX9_linkOf_7 rfl ?_
  obtain ⟨o1, hk⟩ := hk
  refine px_iald 3264 C dX9_linkOf_8 rfl rfl rfl rfl o1 ?_
  refine px_icmp_ge (tgt := 54) C dX9_linkOf_9 (by decide) (fun c6 => ?_) (fun c6 => ?_)
  · replace hk := hk.1 c6
    refine px_iconst (v := (-1 : Int32)) C dX9_linkOf_54 rfl ?_
    exact px_iret C hRt dX9_linkOf_55 rfl rfl hk
  · replace hk := hk.2 c6
    refine px_aload_n (i := 0) C dX9_linkOf_12 rfl rfl ?_
    refine px_getr C dX9_linkOf_13 fl_RX9_7 rfl rfl rfl ?_
    refine px_sipush (v := (282 : Int32)) C dX9_linkOf_16 rfl ?_
    refine px_iconst (v := (2 : Int32)) C dX9_linkOf_19 rfl ?_
    refine px_iload_n (i := 3) C dX9_linkOf_20 rfl rfl ?_
    refine px_imul C dX9_linkOf_21 ?_
    refine px_iadd C dX9_linkOf_22 ?_
    obtain ⟨o2, hk⟩ := hk
    refine px_iald 3264 C dX9_linkOf_23 rfl rfl rfl rfl o2 ?_
    refine px_iload_n (i := 1) C dX9_linkOf_24 rfl rfl ?_
    refine px_icmp_ne (tgt := 48) C dX9_linkOf_25 (by decide) (fun c5 => ?_) (fun c5 => ?_)
    · replace hk := hk.1 c5
      refine px_iinc (i := 3) (v := (1 : Int32)) C dX9_linkOf_48 rfl rfl (by decide) rfl ?_
      refine px_goto (tgt := 2) C dX9_linkOf_51 (by decide) ?_
      exact PW_at (hR2 _ _ _ _ hk) (And.intro rfl (And.intro rfl (And.intro rfl (And.intro rfl trivial)))) (Nat.le_of_ble_eq_true rfl) (Nat.le_of_ble_eq_true rfl)
    · replace hk := hk.2 c5
      refine px_aload_n (i := 0) C dX9_linkOf_28 rfl rfl ?_
      refine px_getr C dX9_linkOf_29 fl_RX9_7 rfl rfl rfl ?_
      refine px_sipush (v := (282 : Int32)) C dX9_linkOf_32 rfl ?_
      refine px_iconst (v := (2 : Int32)) C dX9_linkOf_35 rfl ?_
      refine px_iload_n (i := 3) C dX9_linkOf_36 rfl rfl ?_
      refine px_imul C dX9_linkOf_37 ?_
      refine px_iadd C dX9_linkOf_38 ?_
      refine px_iconst (v := (1 : Int32)) C dX9_linkOf_39 rfl ?_
      refine px_iadd C dX9_linkOf_40 ?_
      obtain ⟨o3, hk⟩ := hk
      refine px_iald 3264 C dX9_linkOf_41 rfl rfl rfl rfl o3 ?_
      refine px_iload_n (i := 2) C dX9_linkOf_42 rfl rfl ?_
      refine px_icmp_ne (tgt := 48) C dX9_linkOf_43 (by decide) (fun c4 => ?_) (fun c4 => ?_)
      · replace hk := hk.1 c4
        refine px_iinc (i := 3) (v := (1 : Int32)) C dX9_linkOf_48 rfl rfl (by decide) rfl ?_
        refine px_goto (tgt := 2) C dX9_linkOf_51 (by decide) ?_
        exact PW_at (hR2 _ _ _ _ hk) (And.intro rfl (And.intro rfl (And.intro rfl (And.intro rfl trivial)))) (Nat.le_of_ble_eq_true rfl) (Nat.le_of_ble_eq_true rfl)
      · replace hk := hk.2 c4
        refine px_iload_n (i := 3) C dX9_linkOf_46 rfl rfl ?_
        exact px_iret C hRt dX9_linkOf_47 rfl rfl hk
set_option maxRecDepth 100000 in
set_option maxHeartbeats 4000000 in
theorem w9_linkOf_ok {l : Launch} {idx : List (Nat × Nat)} {μ : Mem} {a1 : Int32} {a2 : Int32} {P : Int32 → Mem → Prop} {X : String → Mem → Prop} (hl : l.stackTraces = false) (hI : IdxOK idx) (hk : w9_linkOf_wp μ a1 a2 P) : PMet l yX9_linkOf (.code yX9_linkOf cX9_linkOf 4 (some .int)) 0 0 0 idx [pR 50 0, pI a1, pI a2] μ (qI P) X := by
  refine PMet_of mv_X9_linkOf.2.2.2.2.2.2 hl hI mv_X9_linkOf.2.2.2.1 rfl (Nat.le_of_ble_eq_true rfl) (fun G _ _ C hRt hHR hnT => ?_)
  show PW G 0 0 0 [some (pR 50 0), some (pI a1), some (pI a2), none] [] μ
  unfold w9_linkOf_wp at hk
  refine px_iconst (v := (0 : Int32)) C dX9_linkOf_0 rfl ?_
  refine px_istore_n (i := 3) C dX9_linkOf_1 rfl (by decide) rfl ?_
  exact PW_at (w9_linkOf_b2_ok C hRt hHR hnT hk) (And.intro rfl (And.intro rfl (And.intro rfl (And.intro rfl trivial)))) (Nat.le_of_ble_eq_true rfl) (Nat.le_of_ble_eq_true rfl)
theorem dX9_link_0 : decode cX9_link 0 = .ok (.aload_n 0, 1) := by decide +kernel
theorem dX9_link_1 : decode cX9_link 1 = .ok (.iconst 0, 1) := by decide +kernel
theorem dX9_link_2 : decode cX9_link 2 = .ok (.putfield 80, 3) := by decide +kernel
theorem dX9_link_5 : decode cX9_link 5 = .ok (.aload_n 0, 1) := by decide +kernel
theorem dX9_link_6 : decode cX9_link 6 = .ok (.iload_n 1, 1) := by decide +kernel
theorem dX9_link_7 : decode cX9_link 7 = .ok (.invokevirtual 87, 3) := by decide +kernel
theorem dX9_link_10 : decode cX9_link 10 = .ok (.iconst (-1), 1) := by decide +kernel
theorem dX9_link_11 : decode cX9_link 11 = .ok (.if_icmp .eq 12, 3) := by decide +kernel
theorem dX9_link_14 : decode cX9_link 14 = .ok (.aload_n 0, 1) := by decide +kernel
theorem dX9_link_15 : decode cX9_link 15 = .ok (.iload_n 2, 1) := by decide +kernel
theorem dX9_link_16 : decode cX9_link 16 = .ok (.invokevirtual 87, 3) := by decide +kernel
theorem dX9_link_19 : decode cX9_link 19 = .ok (.iconst (-1), 1) := by decide +kernel
theorem dX9_link_20 : decode cX9_link 20 = .ok (.if_icmp .ne 9, 3) := by decide +kernel
theorem dX9_link_23 : decode cX9_link 23 = .ok (.aload_n 0, 1) := by decide +kernel
theorem dX9_link_24 : decode cX9_link 24 = .ok (.iconst 1, 1) := by decide +kernel
theorem dX9_link_25 : decode cX9_link 25 = .ok (.invokevirtual 203, 3) := by decide +kernel
theorem dX9_link_28 : decode cX9_link 28 = .ok (.ireturn, 1) := by decide +kernel
theorem dX9_link_29 : decode cX9_link 29 = .ok (.iload_n 1, 1) := by decide +kernel
theorem dX9_link_30 : decode cX9_link 30 = .ok (.iload_n 2, 1) := by decide +kernel
theorem dX9_link_31 : decode cX9_link 31 = .ok (.if_icmp .ne 9, 3) := by decide +kernel
theorem dX9_link_34 : decode cX9_link 34 = .ok (.aload_n 0, 1) := by decide +kernel
theorem dX9_link_35 : decode cX9_link 35 = .ok (.iconst 2, 1) := by decide +kernel
theorem dX9_link_36 : decode cX9_link 36 = .ok (.invokevirtual 203, 3) := by decide +kernel
theorem dX9_link_39 : decode cX9_link 39 = .ok (.ireturn, 1) := by decide +kernel
theorem dX9_link_40 : decode cX9_link 40 = .ok (.aload_n 0, 1) := by decide +kernel
theorem dX9_link_41 : decode cX9_link 41 = .ok (.getfield 7, 3) := by decide +kernel
theorem dX9_link_44 : decode cX9_link 44 = .ok (.iconst 1, 1) := by decide +kernel
theorem dX9_link_45 : decode cX9_link 45 = .ok (.iaload, 1) := by decide +kernel
theorem dX9_link_46 : decode cX9_link 46 = .ok (.bipush 30, 2) := by decide +kernel
theorem dX9_link_48 : decode cX9_link 48 = .ok (.if_icmp .eq 13, 3) := by decide +kernel
theorem dX9_link_51 : decode cX9_link 51 = .ok (.aload_n 0, 1) := by decide +kernel
theorem dX9_link_52 : decode cX9_link 52 = .ok (.iload_n 1, 1) := by decide +kernel
theorem dX9_link_53 : decode cX9_link 53 = .ok (.iload_n 2, 1) := by decide +kernel
theorem dX9_link_54 : decode cX9_link 54 = .ok (.invokevirtual 280, 3) := by decide +kernel
theorem dX9_link_57 : decode cX9_link 57 = .ok (.iconst (-1), 1) := by decide +kernel
theorem dX9_link_58 : decode cX9_link 58 = .ok (.if_icmp .eq 9, 3) := by decide +kernel
theorem dX9_link_61 : decode cX9_link 61 = .ok (.aload_n 0, 1) := by decide +kernel
theorem dX9_link_62 : decode cX9_link 62 = .ok (.iconst 3, 1) := by decide +kernel
theorem dX9_link_63 : decode cX9_link 63 = .ok (.invokevirtual 203, 3) := by decide +kernel
theorem dX9_link_66 : decode cX9_link 66 = .ok (.ireturn, 1) := by decide +kernel
theorem dX9_link_67 : decode cX9_link 67 = .ok (.aload_n 0, 1) := by decide +kernel
theorem dX9_link_68 : decode cX9_link 68 = .ok (.invokevirtual 206, 3) := by decide +kernel
theorem dX9_link_71 : decode cX9_link 71 = .ok (.aload_n 0, 1) := by decide +kernel
theorem dX9_link_72 : decode cX9_link 72 = .ok (.getfield 7, 3) := by decide +kernel
theorem dX9_link_75 : decode cX9_link 75 = .ok (.sipush 282, 3) := by decide +kernel
theorem dX9_link_78 : decode cX9_link 78 = .ok (.iconst 2, 1) := by decide +kernel
theorem dX9_link_79 : decode cX9_link 79 = .ok (.aload_n 0, 1) := by decide +kernel
theorem dX9_link_80 : decode cX9_link 80 = .ok (.getfield 7, 3) := by decide +kernel
theorem dX9_link_83 : decode cX9_link 83 = .ok (.iconst 1, 1) := by decide +kernel
theorem dX9_link_84 : decode cX9_link 84 = .ok (.iaload, 1) := by decide +kernel
theorem dX9_link_85 : decode cX9_link 85 = .ok (.imul, 1) := by decide +kernel
theorem dX9_link_86 : decode cX9_link 86 = .ok (.iadd, 1) := by decide +kernel
theorem dX9_link_87 : decode cX9_link 87 = .ok (.iload_n 1, 1) := by decide +kernel
theorem dX9_link_88 : decode cX9_link 88 = .ok (.iastore, 1) := by decide +kernel
theorem dX9_link_89 : decode cX9_link 89 = .ok (.aload_n 0, 1) := by decide +kernel
theorem dX9_link_90 : decode cX9_link 90 = .ok (.getfield 7, 3) := by decide +kernel
theorem dX9_link_93 : decode cX9_link 93 = .ok (.sipush 282, 3) := by decide +kernel
theorem dX9_link_96 : decode cX9_link 96 = .ok (.iconst 2, 1) := by decide +kernel
theorem dX9_link_97 : decode cX9_link 97 = .ok (.aload_n 0, 1) := by decide +kernel
theorem dX9_link_98 : decode cX9_link 98 = .ok (.getfield 7, 3) := by decide +kernel
theorem dX9_link_101 : decode cX9_link 101 = .ok (.iconst 1, 1) := by decide +kernel
theorem dX9_link_102 : decode cX9_link 102 = .ok (.iaload, 1) := by decide +kernel
theorem dX9_link_103 : decode cX9_link 103 = .ok (.imul, 1) := by decide +kernel
theorem dX9_link_104 : decode cX9_link 104 = .ok (.iadd, 1) := by decide +kernel
theorem dX9_link_105 : decode cX9_link 105 = .ok (.iconst 1, 1) := by decide +kernel
theorem dX9_link_106 : decode cX9_link 106 = .ok (.iadd, 1) := by decide +kernel
theorem dX9_link_107 : decode cX9_link 107 = .ok (.iload_n 2, 1) := by decide +kernel
theorem dX9_link_108 : decode cX9_link 108 = .ok (.iastore, 1) := by decide +kernel
theorem dX9_link_109 : decode cX9_link 109 = .ok (.aload_n 0, 1) := by decide +kernel
theorem dX9_link_110 : decode cX9_link 110 = .ok (.getfield 7, 3) := by decide +kernel
theorem dX9_link_113 : decode cX9_link 113 = .ok (.iconst 1, 1) := by decide +kernel
theorem dX9_link_114 : decode cX9_link 114 = .ok (.dup2, 1) := by decide +kernel
theorem dX9_link_115 : decode cX9_link 115 = .ok (.iaload, 1) := by decide +kernel
theorem dX9_link_116 : decode cX9_link 116 = .ok (.iconst 1, 1) := by decide +kernel
theorem dX9_link_117 : decode cX9_link 117 = .ok (.iadd, 1) := by decide +kernel
theorem dX9_link_118 : decode cX9_link 118 = .ok (.iastore, 1) := by decide +kernel
theorem dX9_link_119 : decode cX9_link 119 = .ok (.aload_n 0, 1) := by decide +kernel
theorem dX9_link_120 : decode cX9_link 120 = .ok (.invokevirtual 213, 3) := by decide +kernel
theorem dX9_link_123 : decode cX9_link 123 = .ok (.aload_n 0, 1) := by decide +kernel
theorem dX9_link_124 : decode cX9_link 124 = .ok (.getfield 7, 3) := by decide +kernel
theorem dX9_link_127 : decode cX9_link 127 = .ok (.iconst 1, 1) := by decide +kernel
theorem dX9_link_128 : decode cX9_link 128 = .ok (.iaload, 1) := by decide +kernel
theorem dX9_link_129 : decode cX9_link 129 = .ok (.iconst 1, 1) := by decide +kernel
theorem dX9_link_130 : decode cX9_link 130 = .ok (.isub, 1) := by decide +kernel
theorem dX9_link_131 : decode cX9_link 131 = .ok (.ireturn, 1) := by decide +kernel
set_option maxRecDepth 100000 in
set_option maxHeartbeats 4000000 in
theorem w9_link_ok {l : Launch} {idx : List (Nat × Nat)} {μ : Mem} {a1 : Int32} {a2 : Int32} {P : Int32 → Mem → Prop} {X : String → Mem → Prop} (hl : l.stackTraces = false) (hI : IdxOK idx) (hk : w9_link_wp μ a1 a2 P) : PMet l yX9_link (.code yX9_link cX9_link 3 (some .int)) 2 0 0 idx [pR 50 0, pI a1, pI a2] μ (qI P) X := by
  refine PMet_of mv_X9_link.2.2.2.2.2.2 hl hI mv_X9_link.2.2.2.1 rfl (Nat.le_of_ble_eq_true rfl) (fun G _ _ C hRt hHR hnT => ?_)
  show PW G 0 0 0 [some (pR 50 0), some (pI a1), some (pI a2)] [] μ
  unfold w9_link_wp at hk
  refine px_aload_n (i := 0) C dX9_link_0 rfl rfl ?_
  refine px_iconst (v := (0 : Int32)) C dX9_link_1 rfl ?_
  replace hk := hk _ rfl
  refine px_puti 3201 C dX9_link_2 fp_RX9_80 rfl rfl rfl rfl rfl rfl ?_
  refine px_aload_n (i := 0) C dX9_link_5 rfl rfl ?_
  refine px_iload_n (i := 1) C dX9_link_6 rfl rfl ?_
  refine px_callVi (h := 1) (rc' := 0) (rs' := 0) C (HR_le hHR (Nat.le_of_ble_eq_true rfl)) hRt hnT dX9_link_7 (gw8 148 rfl rfl) mv_X9_find (w9_find_ok (PCx_l C) (PCx_I C) hk) rfl rfl rfl rfl rfl (Nat.le_of_ble_eq_true rfl) (Nat.le_of_ble_eq_true rfl) (Nat.le_of_ble_eq_true rfl) (Nat.le_of_ble_eq_true rfl) ?_
  intro r3 μ2 hk
  refine px_iconst (v := (-1 : Int32)) C dX9_link_10 rfl ?_
  refine px_icmp_eq (tgt := 23) C dX9_link_11 (by decide) (fun c35 => ?_) (fun c35 => ?_)
  · replace hk := hk.1 c35
    refine px_aload_n (i := 0) C dX9_link_23 rfl rfl ?_
    refine px_iconst (v := (1 : Int32)) C dX9_link_24 rfl ?_
    refine px_callVi (h := 0) (rc' := 0) (rs' := 0) C (HR_le hHR (Nat.le_of_ble_eq_true rfl)) hRt hnT dX9_link_25 (gw8 144 rfl rfl) mv_X9_fails (w9_fails_ok (PCx_l C) (PCx_I C) hk) rfl rfl rfl rfl rfl (Nat.le_of_ble_eq_true rfl) (Nat.le_of_ble_eq_true rfl) (Nat.le_of_ble_eq_true rfl) (Nat.le_of_ble_eq_true rfl) ?_
    intro r5 μ4 hk
    exact px_iret C hRt dX9_link_28 rfl rfl hk
  · replace hk := hk.2 c35
    refine px_aload_n (i := 0) C dX9_link_14 rfl rfl ?_
    refine px_iload_n (i := 2) C dX9_link_15 rfl rfl ?_
    refine px_callVi (h := 1) (rc' := 0) (rs' := 0) C (HR_le hHR (Nat.le_of_ble_eq_true rfl)) hRt hnT dX9_link_16 (gw8 148 rfl rfl) mv_X9_find (w9_find_ok (PCx_l C) (PCx_I C) hk) rfl rfl rfl rfl rfl (Nat.le_of_ble_eq_true rfl) (Nat.le_of_ble_eq_true rfl) (Nat.le_of_ble_eq_true rfl) (Nat.le_of_ble_eq_true rfl) ?_
    intro r7 μ6 hk
    refine px_iconst (v := (-1 : Int32)) C dX9_link_19 rfl ?_
    refine px_icmp_ne (tgt := 29) C dX9_link_20 (by decide) (fun c34 => ?_) (fun c34 => ?_)
    · replace hk := hk.1 c34
      refine px_iload_n (i := 1) C dX9_link_29 rfl rfl ?_
      refine px_iload_n (i := 2) C dX9_link_30 rfl rfl ?_
      refine px_icmp_ne (tgt := 40) C dX9_link_31 (by decide) (fun c31 => ?_) (fun c31 => ?_)
      · replace hk := hk.1 c31
        refine px_aload_n (i := 0) C dX9_link_40 rfl rfl ?_
        refine px_getr C dX9_link_41 fl_RX9_7 rfl rfl rfl ?_
        refine px_iconst (v := (1 : Int32)) C dX9_link_44 rfl ?_
        obtain ⟨o8, hk⟩ := hk
        refine px_iald 3264 C dX9_link_45 rfl rfl rfl rfl o8 ?_
        refine px_bipush (v := (30 : Int32)) C dX9_link_46 rfl ?_
        refine px_icmp_eq (tgt := 61) C dX9_link_48 (by decide) (fun c28 => ?_) (fun c28 => ?_)
        · replace hk := hk.1 c28
          refine px_aload_n (i := 0) C dX9_link_61 rfl rfl ?_
          refine px_iconst (v := (3 : Int32)) C dX9_link_62 rfl ?_
          refine px_callVi (h := 0) (rc' := 0) (rs' := 0) C (HR_le hHR (Nat.le_of_ble_eq_true rfl)) hRt hnT dX9_link_63 (gw8 144 rfl rfl) mv_X9_fails (w9_fails_ok (PCx_l C) (PCx_I C) hk) rfl rfl rfl rfl rfl (Nat.le_of_ble_eq_true rfl) (Nat.le_of_ble_eq_true rfl) (Nat.le_of_ble_eq_true rfl) (Nat.le_of_ble_eq_true rfl) ?_
          intro r10 μ9 hk
          exact px_iret C hRt dX9_link_66 rfl rfl hk
        · replace hk := hk.2 c28
          refine px_aload_n (i := 0) C dX9_link_51 rfl rfl ?_
          refine px_iload_n (i := 1) C dX9_link_52 rfl rfl ?_
          refine px_iload_n (i := 2) C dX9_link_53 rfl rfl ?_
          refine px_callVi (h := 0) (rc' := 0) (rs' := 0) C (HR_le hHR (Nat.le_of_ble_eq_true rfl)) hRt hnT dX9_link_54 (gw10 12 rfl rfl) mv_X9_linkOf (w9_linkOf_ok (PCx_l C) (PCx_I C) hk) rfl rfl rfl rfl rfl (Nat.le_of_ble_eq_true rfl) (Nat.le_of_ble_eq_true rfl) (Nat.le_of_ble_eq_true rfl) (Nat.le_of_ble_eq_true rfl) ?_
          intro r12 μ11 hk
          refine px_iconst (v := (-1 : Int32)) C dX9_link_57 rfl ?_
          refine px_icmp_eq (tgt := 67) C dX9_link_58 (by decide) (fun c27 => ?_) (fun c27 => ?_)
          · replace hk := hk.1 c27
            refine px_aload_n (i := 0) C dX9_link_67 rfl rfl ?_
            refine px_callVv (h := 0) (rc' := 0) (rs' := 0) C (HR_le hHR (Nat.le_of_ble_eq_true rfl)) hRt hnT dX9_link_68 (gw8 156 rfl rfl) mv_X9_frames (w9_frames_ok (PCx_l C) (PCx_I C) hk) rfl rfl rfl rfl rfl (Nat.le_of_ble_eq_true rfl) (Nat.le_of_ble_eq_true rfl) (Nat.le_of_ble_eq_true rfl) (Nat.le_of_ble_eq_true rfl) ?_
            intro μ13 hk
            refine px_aload_n (i := 0) C dX9_link_71 rfl rfl ?_
            refine px_getr C dX9_link_72 fl_RX9_7 rfl rfl rfl ?_
            refine px_sipush (v := (282 : Int32)) C dX9_link_75 rfl ?_
            refine px_iconst (v := (2 : Int32)) C dX9_link_78 rfl ?_
            refine px_aload_n (i := 0) C dX9_link_79 rfl rfl ?_
            refine px_getr C dX9_link_80 fl_RX9_7 rfl rfl rfl ?_
            refine px_iconst (v := (1 : Int32)) C dX9_link_83 rfl ?_
            obtain ⟨o14, hk⟩ := hk
            refine px_iald 3264 C dX9_link_84 rfl rfl rfl rfl o14 ?_
            refine px_imul C dX9_link_85 ?_
            refine px_iadd C dX9_link_86 ?_
            refine px_iload_n (i := 1) C dX9_link_87 rfl rfl ?_
            obtain ⟨o15, hk⟩ := hk
            replace hk := hk _ rfl
            refine px_iast 3264 C dX9_link_88 rfl rfl rfl rfl o15 ?_
            refine px_aload_n (i := 0) C dX9_link_89 rfl rfl ?_
            refine px_getr C dX9_link_90 fl_RX9_7 rfl rfl rfl ?_
            refine px_sipush (v := (282 : Int32)) C dX9_link_93 rfl ?_
            refine px_iconst (v := (2 : Int32)) C dX9_link_96 rfl ?_
            refine px_aload_n (i := 0) C dX9_link_97 rfl rfl ?_
            refine px_getr C dX9_link_98 fl_RX9_7 rfl rfl rfl ?_
            refine px_iconst (v := (1 : Int32)) C dX9_link_101 rfl ?_
            obtain ⟨o17, hk⟩ := hk
            refine px_iald 3264 C dX9_link_102 rfl rfl rfl rfl o17 ?_
            refine px_imul C dX9_link_103 ?_
            refine px_iadd C dX9_link_104 ?_
            refine px_iconst (v := (1 : Int32)) C dX9_link_105 rfl ?_
            refine px_iadd C dX9_link_106 ?_
            refine px_iload_n (i := 2) C dX9_link_107 rfl rfl ?_
            obtain ⟨o18, hk⟩ := hk
            replace hk := hk _ rfl
            refine px_iast 3264 C dX9_link_108 rfl rfl rfl rfl o18 ?_
            refine px_aload_n (i := 0) C dX9_link_109 rfl rfl ?_
            refine px_getr C dX9_link_110 fl_RX9_7 rfl rfl rfl ?_
            refine px_iconst (v := (1 : Int32)) C dX9_link_113 rfl ?_
            refine px_dup2 C dX9_link_114 rfl rfl ?_
            obtain ⟨o20, hk⟩ := hk
            refine px_iald 3264 C dX9_link_115 rfl rfl rfl rfl o20 ?_
            refine px_iconst (v := (1 : Int32)) C dX9_link_116 rfl ?_
            refine px_iadd C dX9_link_117 ?_
            obtain ⟨o21, hk⟩ := hk
            replace hk := hk _ rfl
            refine px_iast 3264 C dX9_link_118 rfl rfl rfl rfl o21 ?_
            refine px_aload_n (i := 0) C dX9_link_119 rfl rfl ?_
            refine px_callVv (h := 0) (rc' := 0) (rs' := 0) C (HR_le hHR (Nat.le_of_ble_eq_true rfl)) hRt hnT dX9_link_120 (gw8 168 rfl rfl) mv_X9_remembers (w9_remembers_ok (PCx_l C) (PCx_I C) hk) rfl rfl rfl rfl rfl (Nat.le_of_ble_eq_true rfl) (Nat.le_of_ble_eq_true rfl) (Nat.le_of_ble_eq_true rfl) (Nat.le_of_ble_eq_true rfl) ?_
            intro μ23 hk
            refine px_aload_n (i := 0) C dX9_link_123 rfl rfl ?_
            refine px_getr C dX9_link_124 fl_RX9_7 rfl rfl rfl ?_
            refine px_iconst (v := (1 : Int32)) C dX9_link_127 rfl ?_
            obtain ⟨o24, hk⟩ := hk
            refine px_iald 3264 C dX9_link_128 rfl rfl rfl rfl o24 ?_
            refine px_iconst (v := (1 : Int32)) C dX9_link_129 rfl ?_
            refine px_isub C dX9_link_130 ?_
            exact px_iret C hRt dX9_link_131 rfl rfl hk
          · replace hk := hk.2 c27
            refine px_aload_n (i := 0) C dX9_link_61 rfl rfl ?_
            refine px_iconst (v := (3 : Int32)) C dX9_link_62 rfl ?_
            refine px_callVi (h := 0) (rc' := 0) (rs' := 0) C (HR_le hHR (Nat.le_of_ble_eq_true rfl)) hRt hnT dX9_link_63 (gw8 144 rfl rfl) mv_X9_fails (w9_fails_ok (PCx_l C) (PCx_I C) hk) rfl rfl rfl rfl rfl (Nat.le_of_ble_eq_true rfl) (Nat.le_of_ble_eq_true rfl) (Nat.le_of_ble_eq_true rfl) (Nat.le_of_ble_eq_true rfl) ?_
            intro r26 μ25 hk
            exact px_iret C hRt dX9_link_66 rfl rfl hk
      · replace hk := hk.2 c31
        refine px_aload_n (i := 0) C dX9_link_34 rfl rfl ?_
        refine px_iconst (v := (2 : Int32)) C dX9_link_35 rfl ?_
        refine px_callVi (h := 0) (rc' := 0) (rs' := 0) C (HR_le hHR (Nat.le_of_ble_eq_true rfl)) hRt hnT dX9_link_36 (gw8 144 rfl rfl) mv_X9_fails (w9_fails_ok (PCx_l C) (PCx_I C) hk) rfl rfl rfl rfl rfl (Nat.le_of_ble_eq_true rfl) (Nat.le_of_ble_eq_true rfl) (Nat.le_of_ble_eq_true rfl) (Nat.le_of_ble_eq_true rfl) ?_
        intro r30 μ29 hk
        exact px_iret C hRt dX9_link_39 rfl rfl hk
    · replace hk := hk.2 c34
      refine px_aload_n (i := 0) C dX9_link_23 rfl rfl ?_
      refine px_iconst (v := (1 : Int32)) C dX9_link_24 rfl ?_
      refine px_callVi (h := 0) (rc' := 0) (rs' := 0) C (HR_le hHR (Nat.le_of_ble_eq_true rfl)) hRt hnT dX9_link_25 (gw8 144 rfl rfl) mv_X9_fails (w9_fails_ok (PCx_l C) (PCx_I C) hk) rfl rfl rfl rfl rfl (Nat.le_of_ble_eq_true rfl) (Nat.le_of_ble_eq_true rfl) (Nat.le_of_ble_eq_true rfl) (Nat.le_of_ble_eq_true rfl) ?_
      intro r33 μ32 hk
      exact px_iret C hRt dX9_link_28 rfl rfl hk
theorem dX9_unlink_0 : decode cX9_unlink 0 = .ok (.aload_n 0, 1) := by decide +kernel
theorem dX9_unlink_1 : decode cX9_unlink 1 = .ok (.iconst 0, 1) := by decide +kernel
theorem dX9_unlink_2 : decode cX9_unlink 2 = .ok (.putfield 80, 3) := by decide +kernel
theorem dX9_unlink_5 : decode cX9_unlink 5 = .ok (.iload_n 1, 1) := by decide +kernel
theorem dX9_unlink_6 : decode cX9_unlink 6 = .ok (.iconst 0, 1) := by decide +kernel
theorem dX9_unlink_7 : decode cX9_unlink 7 = .ok (.aload_n 0, 1) := by decide +kernel
theorem dX9_unlink_8 : decode cX9_unlink 8 = .ok (.getfield 7, 3) := by decide +kernel
theorem dX9_unlink_11 : decode cX9_unlink 11 = .ok (.iconst 1, 1) := by decide +kernel
theorem dX9_unlink_12 : decode cX9_unlink 12 = .ok (.iaload, 1) := by decide +kernel
theorem dX9_unlink_13 : decode cX9_unlink 13 = .ok (.iconst 1, 1) := by decide +kernel
theorem dX9_unlink_14 : decode cX9_unlink 14 = .ok (.isub, 1) := by decide +kernel
theorem dX9_unlink_15 : decode cX9_unlink 15 = .ok (.invokestatic 140, 3) := by decide +kernel
theorem dX9_unlink_18 : decode cX9_unlink 18 = .ok (.ifCond .ne 9, 3) := by decide +kernel
theorem dX9_unlink_21 : decode cX9_unlink 21 = .ok (.aload_n 0, 1) := by decide +kernel
theorem dX9_unlink_22 : decode cX9_unlink 22 = .ok (.iconst 1, 1) := by decide +kernel
theorem dX9_unlink_23 : decode cX9_unlink 23 = .ok (.invokevirtual 203, 3) := by decide +kernel
theorem dX9_unlink_26 : decode cX9_unlink 26 = .ok (.ireturn, 1) := by decide +kernel
theorem dX9_unlink_27 : decode cX9_unlink 27 = .ok (.aload_n 0, 1) := by decide +kernel
theorem dX9_unlink_28 : decode cX9_unlink 28 = .ok (.invokevirtual 206, 3) := by decide +kernel
theorem dX9_unlink_31 : decode cX9_unlink 31 = .ok (.aload_n 0, 1) := by decide +kernel
theorem dX9_unlink_32 : decode cX9_unlink 32 = .ok (.iload_n 1, 1) := by decide +kernel
theorem dX9_unlink_33 : decode cX9_unlink 33 = .ok (.invokevirtual 219, 3) := by decide +kernel
theorem dX9_unlink_36 : decode cX9_unlink 36 = .ok (.aload_n 0, 1) := by decide +kernel
theorem dX9_unlink_37 : decode cX9_unlink 37 = .ok (.invokevirtual 213, 3) := by decide +kernel
theorem dX9_unlink_40 : decode cX9_unlink 40 = .ok (.aload_n 0, 1) := by decide +kernel
theorem dX9_unlink_41 : decode cX9_unlink 41 = .ok (.getfield 7, 3) := by decide +kernel
theorem dX9_unlink_44 : decode cX9_unlink 44 = .ok (.iconst 1, 1) := by decide +kernel
theorem dX9_unlink_45 : decode cX9_unlink 45 = .ok (.iaload, 1) := by decide +kernel
theorem dX9_unlink_46 : decode cX9_unlink 46 = .ok (.ireturn, 1) := by decide +kernel
set_option maxRecDepth 100000 in
set_option maxHeartbeats 4000000 in
theorem w9_unlink_ok {l : Launch} {idx : List (Nat × Nat)} {μ : Mem} {a1 : Int32} {P : Int32 → Mem → Prop} {X : String → Mem → Prop} (hl : l.stackTraces = false) (hI : IdxOK idx) (hk : w9_unlink_wp μ a1 P) : PMet l yX9_unlink (.code yX9_unlink cX9_unlink 2 (some .int)) 1 0 0 idx [pR 50 0, pI a1] μ (qI P) X := by
  refine PMet_of mv_X9_unlink.2.2.2.2.2.2 hl hI mv_X9_unlink.2.2.2.1 rfl (Nat.le_of_ble_eq_true rfl) (fun G _ _ C hRt hHR hnT => ?_)
  show PW G 0 0 0 [some (pR 50 0), some (pI a1)] [] μ
  unfold w9_unlink_wp at hk
  refine px_aload_n (i := 0) C dX9_unlink_0 rfl rfl ?_
  refine px_iconst (v := (0 : Int32)) C dX9_unlink_1 rfl ?_
  replace hk := hk _ rfl
  refine px_puti 3201 C dX9_unlink_2 fp_RX9_80 rfl rfl rfl rfl rfl rfl ?_
  refine px_iload_n (i := 1) C dX9_unlink_5 rfl rfl ?_
  refine px_iconst (v := (0 : Int32)) C dX9_unlink_6 rfl ?_
  refine px_aload_n (i := 0) C dX9_unlink_7 rfl rfl ?_
  refine px_getr C dX9_unlink_8 fl_RX9_7 rfl rfl rfl ?_
  refine px_iconst (v := (1 : Int32)) C dX9_unlink_11 rfl ?_
  obtain ⟨o2, hk⟩ := hk
  refine px_iald 3264 C dX9_unlink_12 rfl rfl rfl rfl o2 ?_
  refine px_iconst (v := (1 : Int32)) C dX9_unlink_13 rfl ?_
  refine px_isub C dX9_unlink_14 ?_
  refine px_callSi (h := 0) (rc' := 0) (rs' := 0) C (HR_le hHR (Nat.le_of_ble_eq_true rfl)) hRt hnT dX9_unlink_15 (gw8 138 rfl rfl) ms_X9_in (w9_in_ok (PCx_l C) (PCx_I C) hk) rfl rfl (Nat.le_of_ble_eq_true rfl) (Nat.le_of_ble_eq_true rfl) (Nat.le_of_ble_eq_true rfl) (Nat.le_of_ble_eq_true rfl) ?_
  intro r4 μ3 hk
  refine px_if_ne (tgt := 27) C dX9_unlink_18 (by decide) (fun c11 => ?_) (fun c11 => ?_)
  · replace hk := hk.1 c11
    refine px_aload_n (i := 0) C dX9_unlink_27 rfl rfl ?_
    refine px_callVv (h := 0) (rc' := 0) (rs' := 0) C (HR_le hHR (Nat.le_of_ble_eq_true rfl)) hRt hnT dX9_unlink_28 (gw8 156 rfl rfl) mv_X9_frames (w9_frames_ok (PCx_l C) (PCx_I C) hk) rfl rfl rfl rfl rfl (Nat.le_of_ble_eq_true rfl) (Nat.le_of_ble_eq_true rfl) (Nat.le_of_ble_eq_true rfl) (Nat.le_of_ble_eq_true rfl) ?_
    intro μ5 hk
    refine px_aload_n (i := 0) C dX9_unlink_31 rfl rfl ?_
    refine px_iload_n (i := 1) C dX9_unlink_32 rfl rfl ?_
    refine px_callVv (h := 0) (rc' := 0) (rs' := 0) C (HR_le hHR (Nat.le_of_ble_eq_true rfl)) hRt hnT dX9_unlink_33 (gw8 180 rfl rfl) mv_X9_unlinks (w9_unlinks_ok (PCx_l C) (PCx_I C) hk) rfl rfl rfl rfl rfl (Nat.le_of_ble_eq_true rfl) (Nat.le_of_ble_eq_true rfl) (Nat.le_of_ble_eq_true rfl) (Nat.le_of_ble_eq_true rfl) ?_
    intro μ6 hk
    refine px_aload_n (i := 0) C dX9_unlink_36 rfl rfl ?_
    refine px_callVv (h := 0) (rc' := 0) (rs' := 0) C (HR_le hHR (Nat.le_of_ble_eq_true rfl)) hRt hnT dX9_unlink_37 (gw8 168 rfl rfl) mv_X9_remembers (w9_remembers_ok (PCx_l C) (PCx_I C) hk) rfl rfl rfl rfl rfl (Nat.le_of_ble_eq_true rfl) (Nat.le_of_ble_eq_true rfl) (Nat.le_of_ble_eq_true rfl) (Nat.le_of_ble_eq_true rfl) ?_
    intro μ7 hk
    refine px_aload_n (i := 0) C dX9_unlink_40 rfl rfl ?_
    refine px_getr C dX9_unlink_41 fl_RX9_7 rfl rfl rfl ?_
    refine px_iconst (v := (1 : Int32)) C dX9_unlink_44 rfl ?_
    obtain ⟨o8, hk⟩ := hk
    refine px_iald 3264 C dX9_unlink_45 rfl rfl rfl rfl o8 ?_
    exact px_iret C hRt dX9_unlink_46 rfl rfl hk
  · replace hk := hk.2 c11
    refine px_aload_n (i := 0) C dX9_unlink_21 rfl rfl ?_
    refine px_iconst (v := (1 : Int32)) C dX9_unlink_22 rfl ?_
    refine px_callVi (h := 0) (rc' := 0) (rs' := 0) C (HR_le hHR (Nat.le_of_ble_eq_true rfl)) hRt hnT dX9_unlink_23 (gw8 144 rfl rfl) mv_X9_fails (w9_fails_ok (PCx_l C) (PCx_I C) hk) rfl rfl rfl rfl rfl (Nat.le_of_ble_eq_true rfl) (Nat.le_of_ble_eq_true rfl) (Nat.le_of_ble_eq_true rfl) (Nat.le_of_ble_eq_true rfl) ?_
    intro r10 μ9 hk
    exact px_iret C hRt dX9_unlink_26 rfl rfl hk
theorem dX9_linkCount_0 : decode cX9_linkCount 0 = .ok (.aload_n 0, 1) := by decide +kernel
theorem dX9_linkCount_1 : decode cX9_linkCount 1 = .ok (.iconst 0, 1) := by decide +kernel
theorem dX9_linkCount_2 : decode cX9_linkCount 2 = .ok (.putfield 80, 3) := by decide +kernel
theorem dX9_linkCount_5 : decode cX9_linkCount 5 = .ok (.aload_n 0, 1) := by decide +kernel
theorem dX9_linkCount_6 : decode cX9_linkCount 6 = .ok (.getfield 7, 3) := by decide +kernel
theorem dX9_linkCount_9 : decode cX9_linkCount 9 = .ok (.iconst 1, 1) := by decide +kernel
theorem dX9_linkCount_10 : decode cX9_linkCount 10 = .ok (.iaload, 1) := by decide +kernel
theorem dX9_linkCount_11 : decode cX9_linkCount 11 = .ok (.ireturn, 1) := by decide +kernel
set_option maxRecDepth 100000 in
set_option maxHeartbeats 4000000 in
theorem w9_linkCount_ok {l : Launch} {idx : List (Nat × Nat)} {μ : Mem} {P : Int32 → Mem → Prop} {X : String → Mem → Prop} (hl : l.stackTraces = false) (hI : IdxOK idx) (hk : w9_linkCount_wp μ P) : PMet l yX9_linkCount (.code yX9_linkCount cX9_linkCount 1 (some .int)) 0 0 0 idx [pR 50 0] μ (qI P) X := by
  refine PMet_of mv_X9_linkCount.2.2.2.2.2.2 hl hI mv_X9_linkCount.2.2.2.1 rfl (Nat.le_of_ble_eq_true rfl) (fun G _ _ C hRt hHR hnT => ?_)
  show PW G 0 0 0 [some (pR 50 0)] [] μ
  unfold w9_linkCount_wp at hk
  refine px_aload_n (i := 0) C dX9_linkCount_0 rfl rfl ?_
  refine px_iconst (v := (0 : Int32)) C dX9_linkCount_1 rfl ?_
  replace hk := hk _ rfl
  refine px_puti 3201 C dX9_linkCount_2 fp_RX9_80 rfl rfl rfl rfl rfl rfl ?_
  refine px_aload_n (i := 0) C dX9_linkCount_5 rfl rfl ?_
  refine px_getr C dX9_linkCount_6 fl_RX9_7 rfl rfl rfl ?_
  refine px_iconst (v := (1 : Int32)) C dX9_linkCount_9 rfl ?_
  obtain ⟨o2, hk⟩ := hk
  refine px_iald 3264 C dX9_linkCount_10 rfl rfl rfl rfl o2 ?_
  exact px_iret C hRt dX9_linkCount_11 rfl rfl hk
theorem dX9_linkedTraces_0 : decode cX9_linkedTraces 0 = .ok (.aload_n 0, 1) := by decide +kernel
theorem dX9_linkedTraces_1 : decode cX9_linkedTraces 1 = .ok (.iconst 0, 1) := by decide +kernel
theorem dX9_linkedTraces_2 : decode cX9_linkedTraces 2 = .ok (.putfield 80, 3) := by decide +kernel
theorem dX9_linkedTraces_5 : decode cX9_linkedTraces 5 = .ok (.iload_n 1, 1) := by decide +kernel
theorem dX9_linkedTraces_6 : decode cX9_linkedTraces 6 = .ok (.invokestatic 143, 3) := by decide +kernel
theorem dX9_linkedTraces_9 : decode cX9_linkedTraces 9 = .ok (.ifCond .ne 9, 3) := by decide +kernel
theorem dX9_linkedTraces_12 : decode cX9_linkedTraces 12 = .ok (.aload_n 0, 1) := by decide +kernel
theorem dX9_linkedTraces_13 : decode cX9_linkedTraces 13 = .ok (.iconst 1, 1) := by decide +kernel
theorem dX9_linkedTraces_14 : decode cX9_linkedTraces 14 = .ok (.invokevirtual 203, 3) := by decide +kernel
theorem dX9_linkedTraces_17 : decode cX9_linkedTraces 17 = .ok (.ireturn, 1) := by decide +kernel
theorem dX9_linkedTraces_18 : decode cX9_linkedTraces 18 = .ok (.iconst 0, 1) := by decide +kernel
theorem dX9_linkedTraces_19 : decode cX9_linkedTraces 19 = .ok (.istore_n 2, 1) := by decide +kernel
theorem dX9_linkedTraces_20 : decode cX9_linkedTraces 20 = .ok (.iconst 0, 1) := by decide +kernel
theorem dX9_linkedTraces_21 : decode cX9_linkedTraces 21 = .ok (.istore_n 3, 1) := by decide +kernel
theorem dX9_linkedTraces_22 : decode cX9_linkedTraces 22 = .ok (.iload_n 3, 1) := by decide +kernel
theorem dX9_linkedTraces_23 : decode cX9_linkedTraces 23 = .ok (.iconst 5, 1) := by decide +kernel
theorem dX9_linkedTraces_24 : decode cX9_linkedTraces 24 = .ok (.if_icmp .ge 104, 3) := by decide +kernel
theorem dX9_linkedTraces_27 : decode cX9_linkedTraces 27 = .ok (.iload_n 2, 1) := by decide +kernel
theorem dX9_linkedTraces_28 : decode cX9_linkedTraces 28 = .ok (.iconst 1, 1) := by decide +kernel
theorem dX9_linkedTraces_29 : decode cX9_linkedTraces 29 = .ok (.iload_n 1, 1) := by decide +kernel
theorem dX9_linkedTraces_30 : decode cX9_linkedTraces 30 = .ok (.ishl, 1) := by decide +kernel
theorem dX9_linkedTraces_31 : decode cX9_linkedTraces 31 = .ok (.ior, 1) := by decide +kernel
theorem dX9_linkedTraces_32 : decode cX9_linkedTraces 32 = .ok (.istore 4, 2) := by decide +kernel
theorem dX9_linkedTraces_34 : decode cX9_linkedTraces 34 = .ok (.iconst 0, 1) := by decide +kernel
theorem dX9_linkedTraces_35 : decode cX9_linkedTraces 35 = .ok (.istore 5, 2) := by decide +kernel
theorem dX9_linkedTraces_37 : decode cX9_linkedTraces 37 = .ok (.iload 5, 2) := by decide +kernel
theorem dX9_linkedTraces_39 : decode cX9_linkedTraces 39 = .ok (.aload_n 0, 1) := by decide +kernel
theorem dX9_linkedTraces_40 : decode cX9_linkedTraces 40 = .ok (.getfield 7, 3) := by decide +kernel
theorem dX9_linkedTraces_43 : decode cX9_linkedTraces 43 = .ok (.iconst 1, 1) := by decide +kernel
theorem dX9_linkedTraces_44 : decode cX9_linkedTraces 44 = .ok (.iaload, 1) := by decide +kernel
theorem dX9_linkedTraces_45 : decode cX9_linkedTraces 45 = .ok (.if_icmp .ge 77, 3) := by decide +kernel
theorem dX9_linkedTraces_48 : decode cX9_linkedTraces 48 = .ok (.aload_n 0, 1) := by decide +kernel
theorem dX9_linkedTraces_49 : decode cX9_linkedTraces 49 = .ok (.aload_n 0, 1) := by decide +kernel
theorem dX9_linkedTraces_50 : decode cX9_linkedTraces 50 = .ok (.aload_n 0, 1) := by decide +kernel
theorem dX9_linkedTraces_51 : decode cX9_linkedTraces 51 = .ok (.getfield 7, 3) := by decide +kernel
theorem dX9_linkedTraces_54 : decode cX9_linkedTraces 54 = .ok (.sipush 282, 3) := by decide +kernel
theorem dX9_linkedTraces_57 : decode cX9_linkedTraces 57 = .ok (.iconst 2, 1) := by decide +kernel
theorem dX9_linkedTraces_58 : decode cX9_linkedTraces 58 = .ok (.iload 5, 2) := by decide +kernel
theorem dX9_linkedTraces_60 : decode cX9_linkedTraces 60 = .ok (.imul, 1) := by decide +kernel
theorem dX9_linkedTraces_61 : decode cX9_linkedTraces 61 = .ok (.iadd, 1) := by decide +kernel
theorem dX9_linkedTraces_62 : decode cX9_linkedTraces 62 = .ok (.iaload, 1) := by decide +kernel
theorem dX9_linkedTraces_63 : decode cX9_linkedTraces 63 = .ok (.invokevirtual 87, 3) := by decide +kernel
theorem dX9_linkedTraces_66 : decode cX9_linkedTraces 66 = .ok (.iconst 1, 1) := by decide +kernel
theorem dX9_linkedTraces_67 : decode cX9_linkedTraces 67 = .ok (.invokevirtual 83, 3) := by decide +kernel
theorem dX9_linkedTraces_70 : decode cX9_linkedTraces 70 = .ok (.istore 6, 2) := by decide +kernel
theorem dX9_linkedTraces_72 : decode cX9_linkedTraces 72 = .ok (.iload_n 2, 1) := by decide +kernel
theorem dX9_linkedTraces_73 : decode cX9_linkedTraces 73 = .ok (.iload 4, 2) := by decide +kernel
theorem dX9_linkedTraces_75 : decode cX9_linkedTraces 75 = .ok (.iload 6, 2) := by decide +kernel
theorem dX9_linkedTraces_77 : decode cX9_linkedTraces 77 = .ok (.ishr, 1) := by decide +kernel
theorem dX9_linkedTraces_78 : decode cX9_linkedTraces 78 = .ok (.iconst 1, 1) := by decide +kernel
theorem dX9_linkedTraces_79 : decode cX9_linkedTraces 79 = .ok (.iand, 1) := by decide +kernel
theorem dX9_linkedTraces_80 : decode cX9_linkedTraces 80 = .ok (.iconst 1, 1) := by decide +kernel
theorem dX9_linkedTraces_81 : decode cX9_linkedTraces 81 = .ok (.if_icmp .ne 32, 3) := by decide +kernel
theorem dX9_linkedTraces_84 : decode cX9_linkedTraces 84 = .ok (.iconst 1, 1) := by decide +kernel
theorem dX9_linkedTraces_85 : decode cX9_linkedTraces 85 = .ok (.aload_n 0, 1) := by decide +kernel
theorem dX9_linkedTraces_86 : decode cX9_linkedTraces 86 = .ok (.aload_n 0, 1) := by decide +kernel
theorem dX9_linkedTraces_87 : decode cX9_linkedTraces 87 = .ok (.aload_n 0, 1) := by decide +kernel
theorem dX9_linkedTraces_88 : decode cX9_linkedTraces 88 = .ok (.getfield 7, 3) := by decide +kernel
theorem dX9_linkedTraces_91 : decode cX9_linkedTraces 91 = .ok (.sipush 282, 3) := by decide +kernel
theorem dX9_linkedTraces_94 : decode cX9_linkedTraces 94 = .ok (.iconst 2, 1) := by decide +kernel
theorem dX9_linkedTraces_95 : decode cX9_linkedTraces 95 = .ok (.iload 5, 2) := by decide +kernel
theorem dX9_linkedTraces_97 : decode cX9_linkedTraces 97 = .ok (.imul, 1) := by decide +kernel
theorem dX9_linkedTraces_98 : decode cX9_linkedTraces 98 = .ok (.iadd, 1) := by decide +kernel
theorem dX9_linkedTraces_99 : decode cX9_linkedTraces 99 = .ok (.iconst 1, 1) := by decide +kernel
theorem dX9_linkedTraces_100 : decode cX9_linkedTraces 100 = .ok (.iadd, 1) := by decide +kernel
theorem dX9_linkedTraces_101 : decode cX9_linkedTraces 101 = .ok (.iaload, 1) := by decide +kernel
theorem dX9_linkedTraces_102 : decode cX9_linkedTraces 102 = .ok (.invokevirtual 87, 3) := by decide +kernel
theorem dX9_linkedTraces_105 : decode cX9_linkedTraces 105 = .ok (.iconst 1, 1) := by decide +kernel
theorem dX9_linkedTraces_106 : decode cX9_linkedTraces 106 = .ok (.invokevirtual 83, 3) := by decide +kernel
theorem dX9_linkedTraces_109 : decode cX9_linkedTraces 109 = .ok (.ishl, 1) := by decide +kernel
theorem dX9_linkedTraces_110 : decode cX9_linkedTraces 110 = .ok (.goto 4, 3) := by decide +kernel
theorem dX9_linkedTraces_113 : decode cX9_linkedTraces 113 = .ok (.iconst 0, 1) := by decide +kernel
theorem dX9_linkedTraces_114 : decode cX9_linkedTraces 114 = .ok (.ior, 1) := by decide +kernel
theorem dX9_linkedTraces_115 : decode cX9_linkedTraces 115 = .ok (.istore_n 2, 1) := by decide +kernel
theorem dX9_linkedTraces_116 : decode cX9_linkedTraces 116 = .ok (.iinc 5 1, 3) := by decide +kernel
theorem dX9_linkedTraces_119 : decode cX9_linkedTraces 119 = .ok (.goto (-82), 3) := by decide +kernel
theorem dX9_linkedTraces_122 : decode cX9_linkedTraces 122 = .ok (.iinc 3 1, 3) := by decide +kernel
theorem dX9_linkedTraces_125 : decode cX9_linkedTraces 125 = .ok (.goto (-103), 3) := by decide +kernel
theorem dX9_linkedTraces_128 : decode cX9_linkedTraces 128 = .ok (.iload_n 2, 1) := by decide +kernel
theorem dX9_linkedTraces_129 : decode cX9_linkedTraces 129 = .ok (.ireturn, 1) := by decide +kernel
set_option maxRecDepth 100000 in
set_option maxHeartbeats 4000000 in
theorem w9_linkedTraces_b37_ok {G : GT} {P : Int32 → Mem → Prop} {X : String → Mem → Prop} (C : PCx G cX9_linkedTraces 7 RX9) (hRt : PRt G (some .int) (qI P) X) (hHR : HR G (2)) (hnT : NoT G) {R22 : Mem → Int32 → Int32 → Int32 → Prop} (hR22 : ∀ (μ : Mem) (l1 : Int32) (l2 : Int32) (l3 : Int32), R22 μ l1 l2 l3 → PW G 0 0 22 [some (pR 50 0), some (pI l1), some (pI l2), some (pI l3), none, none, none] [] μ) {μ : Mem} {l1 : Int32} {l2 : Int32} {l3 : Int32} {l4 : Int32} {l5 : Int32} (hk : w9_linkedTraces_b37 P R22 μ l1 l2 l3 l4 l5) : PW G 0 0 37 [some (pR 50 0), some (pI l1), some (pI l2), some (pI l3), some (pI l4), some (pI l5), none] [] μ := by
  refine hk (fun (μ : Mem) (l1 : Int32) (l2 : Int32) (l3 : Int32) (l4 : Int32) (l5 : Int32) => PW G 0 0 37 [some (pR 50 0), some (pI l1), some (pI l2), some (pI l3), some (pI l4), some (pI l5), none] [] μ) (fun (μ : Mem) l1 l2 l3 l4 l5 hk => ?_)
  have hR37 : ∀ (μ : Mem) (l1 : Int32) (l2 : Int32) (l3 : Int32) (l4 : Int32) (l5 : Int32), PW G 0 0 37 [some (pR 50 0), some (pI l1), some (pI l2), some (pI l3), some (pI l4), some (pI l5), none] [] μ → PW G 0 0 37 [some (pR 50 0), some (pI l1), some (pI l2), some (pI l3), some (pI l4), some (pI l5), none] [] μ := fun _ _ _ _ _ _ h => h
  unfold w9_linkedTraces_b37_body at hk
  refine px_iload (i := 5) C dX9_linkedTraces_37 rfl ?_
  refine px_aload_n (i := 0) C dX9_linkedTraces_39 rfl rfl ?_
  refine px_getr C dX9_linkedTraces_40 fl_RX9_7 rfl rfl rfl ?_
  refine px_iconst (v := (1 : Int32)) C dX9_linkedTraces_43 rfl ?_
  obtain ⟨o4, hk⟩ := hk
  refine px_iald 3264 C dX9_linkedTraces_44 rfl rfl rfl rfl o4 ?_
  refine px_icmp_ge (tgt := 122) C dX9_linkedTraces_45 (by decide) (fun c16 => ?_) (fun c16 => ?_)
  · replace hk := hk.1 c16
    refine px_iinc (i := 3) (v := (1 : Int32)) C dX9_linkedTraces_122 rfl rfl (by decide) rfl ?_
    refine px_goto (tgt := 22) C dX9_linkedTraces_125 (by decide) ?_
    exact PW_at (hR22 _ _ _ _ hk) (And.intro rfl (And.intro rfl (And.intro rfl (And.intro rfl trivial)))) (Nat.le_of_ble_eq_true rfl) (Nat.le_of_ble_eq_true rfl)
  · replace hk := hk.2 c16
    refine px_aload_n (i := 0) C dX9_linkedTraces_48 rfl rfl ?_
    refine px_aload_n (i := 0) C dX9_linkedTraces_49 rfl rfl ?_
    refine px_aload_n (i := 0) C dX9_linkedTraces_50 rfl rfl ?_
    refine px_getr C dX9_linkedTraces_51 fl_RX9_7 rfl rfl rfl ?_
    refine px_sipush (v := (282 : Int32)) C dX9_linkedTraces_54 rfl ?_
    refine px_iconst (v := (2 : Int32)) C dX9_linkedTraces_57 rfl ?_
    refine px_iload (i := 5) C dX9_linkedTraces_58 rfl ?_
    refine px_imul C dX9_linkedTraces_60 ?_
    refine px_iadd C dX9_linkedTraces_61 ?_
    obtain ⟨o5, hk⟩ := hk
    refine px_iald 3264 C dX9_linkedTraces_62 rfl rfl rfl rfl o5 ?_
    refine px_callVi (h := 1) (rc' := 0) (rs' := 0) C (HR_le hHR (Nat.le_of_ble_eq_true rfl)) hRt hnT dX9_linkedTraces_63 (gw8 148 rfl rfl) mv_X9_find (w9_find_ok (PCx_l C) (PCx_I C) hk) rfl rfl rfl rfl rfl (Nat.le_of_ble_eq_true rfl) (Nat.le_of_ble_eq_true rfl) (Nat.le_of_ble_eq_true rfl) (Nat.le_of_ble_eq_true rfl) ?_
    intro r7 μ6 hk
    refine px_iconst (v := (1 : Int32)) C dX9_linkedTraces_66 rfl ?_
    refine px_callVi (h := 0) (rc' := 0) (rs' := 0) C (HR_le hHR (Nat.le_of_ble_eq_true rfl)) hRt hnT dX9_linkedTraces_67 (gw8 152 rfl rfl) mv_X9_of (w9_of_ok (PCx_l C) (PCx_I C) hk) rfl rfl rfl rfl rfl (Nat.le_of_ble_eq_true rfl) (Nat.le_of_ble_eq_true rfl) (Nat.le_of_ble_eq_true rfl) (Nat.le_of_ble_eq_true rfl) ?_
    intro r9 μ8 hk
    refine px_istore (i := 6) C dX9_linkedTraces_70 (by decide) rfl ?_
    refine px_iload_n (i := 2) C dX9_linkedTraces_72 rfl rfl ?_
    refine px_iload (i := 4) C dX9_linkedTraces_73 rfl ?_
    refine px_iload (i := 6) C dX9_linkedTraces_75 rfl ?_
    refine px_ishr C dX9_linkedTraces_77 ?_
    refine px_iconst (v := (1 : Int32)) C dX9_linkedTraces_78 rfl ?_
    refine px_iand C dX9_linkedTraces_79 ?_
    refine px_iconst (v := (1 : Int32)) C dX9_linkedTraces_80 rfl ?_
    refine px_icmp_ne (tgt := 113) C dX9_linkedTraces_81 (by decide) (fun c15 => ?_) (fun c15 => ?_)
    · replace hk := hk.1 c15
      refine px_iconst (v := (0 : Int32)) C dX9_linkedTraces_113 rfl ?_
      refine px_ior C dX9_linkedTraces_114 ?_
      refine px_istore_n (i := 2) C dX9_linkedTraces_115 rfl (by decide) rfl ?_
      refine px_iinc (i := 5) (v := (1 : Int32)) C dX9_linkedTraces_116 rfl rfl (by decide) rfl ?_
      refine px_goto (tgt := 37) C dX9_linkedTraces_119 (by decide) ?_
      exact PW_at (hR37 _ _ _ _ _ _ hk) (And.intro rfl (And.intro rfl (And.intro rfl (And.intro rfl (And.intro rfl (And.intro rfl trivial)))))) (Nat.le_of_ble_eq_true rfl) (Nat.le_of_ble_eq_true rfl)
    · replace hk := hk.2 c15
      refine px_iconst (v := (1 : Int32)) C dX9_linkedTraces_84 rfl ?_
      refine px_aload_n (i := 0) C dX9_linkedTraces_85 rfl rfl ?_
      refine px_aload_n (i := 0) C dX9_linkedTraces_86 rfl rfl ?_
      refine px_aload_n (i := 0) C dX9_linkedTraces_87 rfl rfl ?_
      refine px_getr C dX9_linkedTraces_88 fl_RX9_7 rfl rfl rfl ?_
      refine px_sipush (v := (282 : Int32)) C dX9_linkedTraces_91 rfl ?_
      refine px_iconst (v := (2 : Int32)) C dX9_linkedTraces_94 rfl ?_
      refine px_iload (i := 5) C dX9_linkedTraces_95 rfl ?_
      refine px_imul C dX9_linkedTraces_97 ?_
      refine px_iadd C dX9_linkedTraces_98 ?_
      refine px_iconst (v := (1 : Int32)) C dX9_linkedTraces_99 rfl ?_
      refine px_iadd C dX9_linkedTraces_100 ?_
      obtain ⟨o10, hk⟩ := hk
      refine px_iald 3264 C dX9_linkedTraces_101 rfl rfl rfl rfl o10 ?_
      refine px_callVi (h := 1) (rc' := 0) (rs' := 0) C (HR_le hHR (Nat.le_of_ble_eq_true rfl)) hRt hnT dX9_linkedTraces_102 (gw8 148 rfl rfl) mv_X9_find (w9_find_ok (PCx_l C) (PCx_I C) hk) rfl rfl rfl rfl rfl (Nat.le_of_ble_eq_true rfl) (Nat.le_of_ble_eq_true rfl) (Nat.le_of_ble_eq_true rfl) (Nat.le_of_ble_eq_true rfl) ?_
      intro r12 μ11 hk
      refine px_iconst (v := (1 : Int32)) C dX9_linkedTraces_105 rfl ?_
      refine px_callVi (h := 0) (rc' := 0) (rs' := 0) C (HR_le hHR (Nat.le_of_ble_eq_true rfl)) hRt hnT dX9_linkedTraces_106 (gw8 152 rfl rfl) mv_X9_of (w9_of_ok (PCx_l C) (PCx_I C) hk) rfl rfl rfl rfl rfl (Nat.le_of_ble_eq_true rfl) (Nat.le_of_ble_eq_true rfl) (Nat.le_of_ble_eq_true rfl) (Nat.le_of_ble_eq_true rfl) ?_
      intro r14 μ13 hk
      refine px_ishl C dX9_linkedTraces_109 ?_
      refine px_goto (tgt := 114) C dX9_linkedTraces_110 (by decide) ?_
      refine px_ior C dX9_linkedTraces_114 ?_
      refine px_istore_n (i := 2) C dX9_linkedTraces_115 rfl (by decide) rfl ?_
      refine px_iinc (i := 5) (v := (1 : Int32)) C dX9_linkedTraces_116 rfl rfl (by decide) rfl ?_
      refine px_goto (tgt := 37) C dX9_linkedTraces_119 (by decide) ?_
      exact PW_at (hR37 _ _ _ _ _ _ hk) (And.intro rfl (And.intro rfl (And.intro rfl (And.intro rfl (And.intro rfl (And.intro rfl trivial)))))) (Nat.le_of_ble_eq_true rfl) (Nat.le_of_ble_eq_true rfl)
set_option maxRecDepth 100000 in
set_option maxHeartbeats 4000000 in
theorem w9_linkedTraces_b22_ok {G : GT} {P : Int32 → Mem → Prop} {X : String → Mem → Prop} (C : PCx G cX9_linkedTraces 7 RX9) (hRt : PRt G (some .int) (qI P) X) (hHR : HR G (2)) (hnT : NoT G) {μ : Mem} {l1 : Int32} {l2 : Int32} {l3 : Int32} (hk : w9_linkedTraces_b22 P μ l1 l2 l3) : PW G 0 0 22 [some (pR 50 0), some (pI l1), some (pI l2), some (pI l3), none, none, none] [] μ := by
  refine hk (fun (μ : Mem) (l1 : Int32) (l2 : Int32) (l3 : Int32) => PW G 0 0 22 [some (pR 50 0), some (pI l1), some (pI l2), some (pI l3), none, none, none] [] μ) (fun (μ : Mem) l1 l2 l3 hk => ?_)
  have hR22 : ∀ (μ : Mem) (l1 : Int32) (l2 : Int32) (l3 : Int32), PW G 0 0 22 [some (pR 50 0), some (pI l1), some (pI l2), some (pI l3), none, none, none] [] μ → PW G 0 0 22 [some (pR 50 0), some (pI l1), some (pI l2), some (pI l3), none, none, none] [] μ := fun _ _ _ _ h => h
  unfold w9_linkedTraces_b22_body at hk
  refine px_iload_n (i := 3) C dX9_linkedTraces_22 rfl rfl ?_
  refine px_iconst (v := (5 : Int32)) C dX9_linkedTraces_23 rfl ?_
  refine px_icmp_ge (tgt := 128) C dX9_linkedTraces_24 (by decide) (fun c17 => ?_) (fun c17 => ?_)
  · replace hk := hk.1 c17
    refine px_iload_n (i := 2) C dX9_linkedTraces_128 rfl rfl ?_
    exact px_iret C hRt dX9_linkedTraces_129 rfl rfl hk
  · replace hk := hk.2 c17
    refine px_iload_n (i := 2) C dX9_linkedTraces_27 rfl rfl ?_
    refine px_iconst (v := (1 : Int32)) C dX9_linkedTraces_28 rfl ?_
    refine px_iload_n (i := 1) C dX9_linkedTraces_29 rfl rfl ?_
    refine px_ishl C dX9_linkedTraces_30 ?_
    refine px_ior C dX9_linkedTraces_31 ?_
    refine px_istore (i := 4) C dX9_linkedTraces_32 (by decide) rfl ?_
    refine px_iconst (v := (0 : Int32)) C dX9_linkedTraces_34 rfl ?_
    refine px_istore (i := 5) C dX9_linkedTraces_35 (by decide) rfl ?_
    exact PW_at (w9_linkedTraces_b37_ok C hRt hHR hnT hR22 hk) (And.intro rfl (And.intro rfl (And.intro rfl (And.intro rfl (And.intro rfl (And.intro rfl trivial)))))) (Nat.le_of_ble_eq_true rfl) (Nat.le_of_ble_eq_true rfl)
set_option maxRecDepth 100000 in
set_option maxHeartbeats 4000000 in
theorem w9_linkedTraces_ok {l : Launch} {idx : List (Nat × Nat)} {μ : Mem} {a1 : Int32} {P : Int32 → Mem → Prop} {X : String → Mem → Prop} (hl : l.stackTraces = false) (hI : IdxOK idx) (hk : w9_linkedTraces_wp μ a1 P) : PMet l yX9_linkedTraces (.code yX9_linkedTraces cX9_linkedTraces 7 (some .int)) 2 0 0 idx [pR 50 0, pI a1] μ (qI P) X := by
  refine PMet_of mv_X9_linkedTraces.2.2.2.2.2.2 hl hI mv_X9_linkedTraces.2.2.2.1 rfl (Nat.le_of_ble_eq_true rfl) (fun G _ _ C hRt hHR hnT => ?_)
  show PW G 0 0 0 [some (pR 50 0), some (pI a1), none, none, none, none, none] [] μ
  unfold w9_linkedTraces_wp at hk
  refine px_aload_n (i := 0) C dX9_linkedTraces_0 rfl rfl ?_
  refine px_iconst (v := (0 : Int32)) C dX9_linkedTraces_1 rfl ?_
  replace hk := hk _ rfl
  refine px_puti 3201 C dX9_linkedTraces_2 fp_RX9_80 rfl rfl rfl rfl rfl rfl ?_
  refine px_iload_n (i := 1) C dX9_linkedTraces_5 rfl rfl ?_
  refine px_callSi (h := 1) (rc' := 0) (rs' := 0) C (HR_le hHR (Nat.le_of_ble_eq_true rfl)) hRt hnT dX9_linkedTraces_6 (gw8 135 rfl rfl) ms_X9_isTrace (w9_isTrace_ok (PCx_l C) (PCx_I C) hk) rfl rfl (Nat.le_of_ble_eq_true rfl) (Nat.le_of_ble_eq_true rfl) (Nat.le_of_ble_eq_true rfl) (Nat.le_of_ble_eq_true rfl) ?_
  intro r3 μ2 hk
  refine px_if_ne (tgt := 18) C dX9_linkedTraces_9 (by decide) (fun c20 => ?_) (fun c20 => ?_)
  · replace hk := hk.1 c20
    refine px_iconst (v := (0 : Int32)) C dX9_linkedTraces_18 rfl ?_
    refine px_istore_n (i := 2) C dX9_linkedTraces_19 rfl (by decide) rfl ?_
    refine px_iconst (v := (0 : Int32)) C dX9_linkedTraces_20 rfl ?_
    refine px_istore_n (i := 3) C dX9_linkedTraces_21 rfl (by decide) rfl ?_
    exact PW_at (w9_linkedTraces_b22_ok C hRt hHR hnT hk) (And.intro rfl (And.intro rfl (And.intro rfl (And.intro rfl trivial)))) (Nat.le_of_ble_eq_true rfl) (Nat.le_of_ble_eq_true rfl)
  · replace hk := hk.2 c20
    refine px_aload_n (i := 0) C dX9_linkedTraces_12 rfl rfl ?_
    refine px_iconst (v := (1 : Int32)) C dX9_linkedTraces_13 rfl ?_
    refine px_callVi (h := 0) (rc' := 0) (rs' := 0) C (HR_le hHR (Nat.le_of_ble_eq_true rfl)) hRt hnT dX9_linkedTraces_14 (gw8 144 rfl rfl) mv_X9_fails (w9_fails_ok (PCx_l C) (PCx_I C) hk) rfl rfl rfl rfl rfl (Nat.le_of_ble_eq_true rfl) (Nat.le_of_ble_eq_true rfl) (Nat.le_of_ble_eq_true rfl) (Nat.le_of_ble_eq_true rfl) ?_
    intro r19 μ18 hk
    exact px_iret C hRt dX9_linkedTraces_17 rfl rfl hk
theorem dX9_isPlace_0 : decode cX9_isPlace 0 = .ok (.iload_n 0, 1) := by decide +kernel
theorem dX9_isPlace_1 : decode cX9_isPlace 1 = .ok (.iconst 0, 1) := by decide +kernel
theorem dX9_isPlace_2 : decode cX9_isPlace 2 = .ok (.iconst 1, 1) := by decide +kernel
theorem dX9_isPlace_3 : decode cX9_isPlace 3 = .ok (.invokestatic 140, 3) := by decide +kernel
theorem dX9_isPlace_6 : decode cX9_isPlace 6 = .ok (.ifCond .eq 16, 3) := by decide +kernel
theorem dX9_isPlace_9 : decode cX9_isPlace 9 = .ok (.iload_n 1, 1) := by decide +kernel
theorem dX9_isPlace_10 : decode cX9_isPlace 10 = .ok (.iconst 0, 1) := by decide +kernel
theorem dX9_isPlace_11 : decode cX9_isPlace 11 = .ok (.iconst 3, 1) := by decide +kernel
theorem dX9_isPlace_12 : decode cX9_isPlace 12 = .ok (.invokestatic 140, 3) := by decide +kernel
theorem dX9_isPlace_15 : decode cX9_isPlace 15 = .ok (.ifCond .eq 7, 3) := by decide +kernel
theorem dX9_isPlace_18 : decode cX9_isPlace 18 = .ok (.iconst 1, 1) := by decide +kernel
theorem dX9_isPlace_19 : decode cX9_isPlace 19 = .ok (.goto 4, 3) := by decide +kernel
theorem dX9_isPlace_22 : decode cX9_isPlace 22 = .ok (.iconst 0, 1) := by decide +kernel
theorem dX9_isPlace_23 : decode cX9_isPlace 23 = .ok (.ireturn, 1) := by decide +kernel
set_option maxRecDepth 100000 in
set_option maxHeartbeats 4000000 in
theorem w9_isPlace_ok {l : Launch} {idx : List (Nat × Nat)} {μ : Mem} {a1 : Int32} {a2 : Int32} {P : Int32 → Mem → Prop} {X : String → Mem → Prop} (hl : l.stackTraces = false) (hI : IdxOK idx) (hk : w9_isPlace_wp μ a1 a2 P) : PMet l yX9_isPlace (.code yX9_isPlace cX9_isPlace 2 (some .boolean)) 1 0 0 idx [pI a1, pI a2] μ (qI P) X := by
  refine PMet_of ms_X9_isPlace.2.2.2.2.2 hl hI ms_X9_isPlace.2.2.1 rfl (Nat.le_of_ble_eq_true rfl) (fun G _ _ C hRt hHR hnT => ?_)
  show PW G 0 0 0 [some (pI a1), some (pI a2)] [] μ
  unfold w9_isPlace_wp at hk
  refine px_iload_n (i := 0) C dX9_isPlace_0 rfl rfl ?_
  refine px_iconst (v := (0 : Int32)) C dX9_isPlace_1 rfl ?_
  refine px_iconst (v := (1 : Int32)) C dX9_isPlace_2 rfl ?_
  refine px_callSi (h := 0) (rc' := 0) (rs' := 0) C (HR_le hHR (Nat.le_of_ble_eq_true rfl)) hRt hnT dX9_isPlace_3 (gw8 138 rfl rfl) ms_X9_in (w9_in_ok (PCx_l C) (PCx_I C) hk) rfl rfl (Nat.le_of_ble_eq_true rfl) (Nat.le_of_ble_eq_true rfl) (Nat.le_of_ble_eq_true rfl) (Nat.le_of_ble_eq_true rfl) ?_
  intro r2 μ1 hk
  refine px_if_eq (tgt := 22) C dX9_isPlace_6 (by decide) (fun c6 => ?_) (fun c6 => ?_)
  · replace hk := hk.1 c6
    refine px_iconst (v := (0 : Int32)) C dX9_isPlace_22 rfl ?_
    exact px_iret C hRt dX9_isPlace_23 rfl rfl hk
  · replace hk := hk.2 c6
    refine px_iload_n (i := 1) C dX9_isPlace_9 rfl rfl ?_
    refine px_iconst (v := (0 : Int32)) C dX9_isPlace_10 rfl ?_
    refine px_iconst (v := (3 : Int32)) C dX9_isPlace_11 rfl ?_
    refine px_callSi (h := 0) (rc' := 0) (rs' := 0) C (HR_le hHR (Nat.le_of_ble_eq_true rfl)) hRt hnT dX9_isPlace_12 (gw8 138 rfl rfl) ms_X9_in (w9_in_ok (PCx_l C) (PCx_I C) hk) rfl rfl (Nat.le_of_ble_eq_true rfl) (Nat.le_of_ble_eq_true rfl) (Nat.le_of_ble_eq_true rfl) (Nat.le_of_ble_eq_true rfl) ?_
    intro r4 μ3 hk
    refine px_if_eq (tgt := 22) C dX9_isPlace_15 (by decide) (fun c5 => ?_) (fun c5 => ?_)
    · replace hk := hk.1 c5
      refine px_iconst (v := (0 : Int32)) C dX9_isPlace_22 rfl ?_
      exact px_iret C hRt dX9_isPlace_23 rfl rfl hk
    · replace hk := hk.2 c5
      refine px_iconst (v := (1 : Int32)) C dX9_isPlace_18 rfl ?_
      refine px_goto (tgt := 23) C dX9_isPlace_19 (by decide) ?_
      exact px_iret C hRt dX9_isPlace_23 rfl rfl hk
theorem dX9_append_0 : decode cX9_append 0 = .ok (.aload_n 0, 1) := by decide +kernel
theorem dX9_append_1 : decode cX9_append 1 = .ok (.iconst 0, 1) := by decide +kernel
theorem dX9_append_2 : decode cX9_append 2 = .ok (.putfield 80, 3) := by decide +kernel
theorem dX9_append_5 : decode cX9_append 5 = .ok (.iload_n 1, 1) := by decide +kernel
theorem dX9_append_6 : decode cX9_append 6 = .ok (.bipush 32, 2) := by decide +kernel
theorem dX9_append_8 : decode cX9_append 8 = .ok (.bipush 126, 2) := by decide +kernel
theorem dX9_append_10 : decode cX9_append 10 = .ok (.invokestatic 140, 3) := by decide +kernel
theorem dX9_append_13 : decode cX9_append 13 = .ok (.ifCond .ne 9, 3) := by decide +kernel
theorem dX9_append_16 : decode cX9_append 16 = .ok (.aload_n 0, 1) := by decide +kernel
theorem dX9_append_17 : decode cX9_append 17 = .ok (.iconst 1, 1) := by decide +kernel
theorem dX9_append_18 : decode cX9_append 18 = .ok (.invokevirtual 203, 3) := by decide +kernel
theorem dX9_append_21 : decode cX9_append 21 = .ok (.ireturn, 1) := by decide +kernel
theorem dX9_append_22 : decode cX9_append 22 = .ok (.aload_n 0, 1) := by decide +kernel
theorem dX9_append_23 : decode cX9_append 23 = .ok (.getfield 286, 3) := by decide +kernel
theorem dX9_append_26 : decode cX9_append 26 = .ok (.bipush 80, 2) := by decide +kernel
theorem dX9_append_28 : decode cX9_append 28 = .ok (.if_icmp .ne 9, 3) := by decide +kernel
theorem dX9_append_31 : decode cX9_append 31 = .ok (.aload_n 0, 1) := by decide +kernel
theorem dX9_append_32 : decode cX9_append 32 = .ok (.iconst 2, 1) := by decide +kernel
theorem dX9_append_33 : decode cX9_append 33 = .ok (.invokevirtual 203, 3) := by decide +kernel
theorem dX9_append_36 : decode cX9_append 36 = .ok (.ireturn, 1) := by decide +kernel
theorem dX9_append_37 : decode cX9_append 37 = .ok (.aload_n 0, 1) := by decide +kernel
theorem dX9_append_38 : decode cX9_append 38 = .ok (.getfield 25, 3) := by decide +kernel
theorem dX9_append_41 : decode cX9_append 41 = .ok (.aload_n 0, 1) := by decide +kernel
theorem dX9_append_42 : decode cX9_append 42 = .ok (.getfield 286, 3) := by decide +kernel
theorem dX9_append_45 : decode cX9_append 45 = .ok (.iload_n 1, 1) := by decide +kernel
theorem dX9_append_46 : decode cX9_append 46 = .ok (.iastore, 1) := by decide +kernel
theorem dX9_append_47 : decode cX9_append 47 = .ok (.aload_n 0, 1) := by decide +kernel
theorem dX9_append_48 : decode cX9_append 48 = .ok (.dup, 1) := by decide +kernel
theorem dX9_append_49 : decode cX9_append 49 = .ok (.getfield 286, 3) := by decide +kernel
theorem dX9_append_52 : decode cX9_append 52 = .ok (.iconst 1, 1) := by decide +kernel
theorem dX9_append_53 : decode cX9_append 53 = .ok (.iadd, 1) := by decide +kernel
theorem dX9_append_54 : decode cX9_append 54 = .ok (.putfield 286, 3) := by decide +kernel
theorem dX9_append_57 : decode cX9_append 57 = .ok (.aload_n 0, 1) := by decide +kernel
theorem dX9_append_58 : decode cX9_append 58 = .ok (.getfield 286, 3) := by decide +kernel
theorem dX9_append_61 : decode cX9_append 61 = .ok (.ireturn, 1) := by decide +kernel
set_option maxRecDepth 100000 in
set_option maxHeartbeats 4000000 in
theorem w9_append_ok {l : Launch} {idx : List (Nat × Nat)} {μ : Mem} {a1 : Int32} {P : Int32 → Mem → Prop} {X : String → Mem → Prop} (hl : l.stackTraces = false) (hI : IdxOK idx) (hk : w9_append_wp μ a1 P) : PMet l yX9_append (.code yX9_append cX9_append 2 (some .int)) 1 0 0 idx [pR 50 0, pI a1] μ (qI P) X := by
  refine PMet_of mv_X9_append.2.2.2.2.2.2 hl hI mv_X9_append.2.2.2.1 rfl (Nat.le_of_ble_eq_true rfl) (fun G _ _ C hRt hHR hnT => ?_)
  show PW G 0 0 0 [some (pR 50 0), some (pI a1)] [] μ
  unfold w9_append_wp at hk
  refine px_aload_n (i := 0) C dX9_append_0 rfl rfl ?_
  refine px_iconst (v := (0 : Int32)) C dX9_append_1 rfl ?_
  replace hk := hk _ rfl
  refine px_puti 3201 C dX9_append_2 fp_RX9_80 rfl rfl rfl rfl rfl rfl ?_
  refine px_iload_n (i := 1) C dX9_append_5 rfl rfl ?_
  refine px_bipush (v := (32 : Int32)) C dX9_append_6 rfl ?_
  refine px_bipush (v := (126 : Int32)) C dX9_append_8 rfl ?_
  refine px_callSi (h := 0) (rc' := 0) (rs' := 0) C (HR_le hHR (Nat.le_of_ble_eq_true rfl)) hRt hnT dX9_append_10 (gw8 138 rfl rfl) ms_X9_in (w9_in_ok (PCx_l C) (PCx_I C) hk) rfl rfl (Nat.le_of_ble_eq_true rfl) (Nat.le_of_ble_eq_true rfl) (Nat.le_of_ble_eq_true rfl) (Nat.le_of_ble_eq_true rfl) ?_
  intro r3 μ2 hk
  refine px_if_ne (tgt := 22) C dX9_append_13 (by decide) (fun c12 => ?_) (fun c12 => ?_)
  · replace hk := hk.1 c12
    refine px_aload_n (i := 0) C dX9_append_22 rfl rfl ?_
    refine px_geti 3210 C dX9_append_23 fl_RX9_286 rfl rfl rfl rfl ?_
    refine px_bipush (v := (80 : Int32)) C dX9_append_26 rfl ?_
    refine px_icmp_ne (tgt := 37) C dX9_append_28 (by decide) (fun c9 => ?_) (fun c9 => ?_)
    · replace hk := hk.1 c9
      refine px_aload_n (i := 0) C dX9_append_37 rfl rfl ?_
      refine px_getr C dX9_append_38 fl_RX9_25 rfl rfl rfl ?_
      refine px_aload_n (i := 0) C dX9_append_41 rfl rfl ?_
      refine px_geti 3210 C dX9_append_42 fl_RX9_286 rfl rfl rfl rfl ?_
      refine px_iload_n (i := 1) C dX9_append_45 rfl rfl ?_
      obtain ⟨o4, hk⟩ := hk
      replace hk := hk _ rfl
      refine px_iast 3584 C dX9_append_46 rfl rfl rfl rfl o4 ?_
      refine px_aload_n (i := 0) C dX9_append_47 rfl rfl ?_
      refine px_dup C dX9_append_48 rfl ?_
      refine px_geti 3210 C dX9_append_49 fl_RX9_286 rfl rfl rfl rfl ?_
      refine px_iconst (v := (1 : Int32)) C dX9_append_52 rfl ?_
      refine px_iadd C dX9_append_53 ?_
      replace hk := hk _ rfl
      refine px_puti 3210 C dX9_append_54 fp_RX9_286 rfl rfl rfl rfl rfl rfl ?_
      refine px_aload_n (i := 0) C dX9_append_57 rfl rfl ?_
      refine px_geti 3210 C dX9_append_58 fl_RX9_286 rfl rfl rfl rfl ?_
      exact px_iret C hRt dX9_append_61 rfl rfl hk
    · replace hk := hk.2 c9
      refine px_aload_n (i := 0) C dX9_append_31 rfl rfl ?_
      refine px_iconst (v := (2 : Int32)) C dX9_append_32 rfl ?_
      refine px_callVi (h := 0) (rc' := 0) (rs' := 0) C (HR_le hHR (Nat.le_of_ble_eq_true rfl)) hRt hnT dX9_append_33 (gw8 144 rfl rfl) mv_X9_fails (w9_fails_ok (PCx_l C) (PCx_I C) hk) rfl rfl rfl rfl rfl (Nat.le_of_ble_eq_true rfl) (Nat.le_of_ble_eq_true rfl) (Nat.le_of_ble_eq_true rfl) (Nat.le_of_ble_eq_true rfl) ?_
      intro r8 μ7 hk
      exact px_iret C hRt dX9_append_36 rfl rfl hk
  · replace hk := hk.2 c12
    refine px_aload_n (i := 0) C dX9_append_16 rfl rfl ?_
    refine px_iconst (v := (1 : Int32)) C dX9_append_17 rfl ?_
    refine px_callVi (h := 0) (rc' := 0) (rs' := 0) C (HR_le hHR (Nat.le_of_ble_eq_true rfl)) hRt hnT dX9_append_18 (gw8 144 rfl rfl) mv_X9_fails (w9_fails_ok (PCx_l C) (PCx_I C) hk) rfl rfl rfl rfl rfl (Nat.le_of_ble_eq_true rfl) (Nat.le_of_ble_eq_true rfl) (Nat.le_of_ble_eq_true rfl) (Nat.le_of_ble_eq_true rfl) ?_
    intro r11 μ10 hk
    exact px_iret C hRt dX9_append_21 rfl rfl hk
theorem dX9_here_0 : decode cX9_here 0 = .ok (.aload_n 0, 1) := by decide +kernel
theorem dX9_here_1 : decode cX9_here 1 = .ok (.getfield 289, 3) := by decide +kernel
theorem dX9_here_4 : decode cX9_here 4 = .ok (.aload_n 0, 1) := by decide +kernel
theorem dX9_here_5 : decode cX9_here 5 = .ok (.getfield 286, 3) := by decide +kernel
theorem dX9_here_8 : decode cX9_here 8 = .ok (.if_icmp .ge 15, 3) := by decide +kernel
theorem dX9_here_11 : decode cX9_here 11 = .ok (.aload_n 0, 1) := by decide +kernel
theorem dX9_here_12 : decode cX9_here 12 = .ok (.getfield 25, 3) := by decide +kernel
theorem dX9_here_15 : decode cX9_here 15 = .ok (.aload_n 0, 1) := by decide +kernel
theorem dX9_here_16 : decode cX9_here 16 = .ok (.getfield 289, 3) := by decide +kernel
theorem dX9_here_19 : decode cX9_here 19 = .ok (.iaload, 1) := by decide +kernel
theorem dX9_here_20 : decode cX9_here 20 = .ok (.goto 4, 3) := by decide +kernel
theorem dX9_here_23 : decode cX9_here 23 = .ok (.iconst (-1), 1) := by decide +kernel
theorem dX9_here_24 : decode cX9_here 24 = .ok (.ireturn, 1) := by decide +kernel
set_option maxRecDepth 100000 in
set_option maxHeartbeats 4000000 in
theorem w9_here_ok {l : Launch} {idx : List (Nat × Nat)} {μ : Mem} {P : Int32 → Mem → Prop} {X : String → Mem → Prop} (hl : l.stackTraces = false) (hI : IdxOK idx) (hk : w9_here_wp μ P) : PMet l yX9_here (.code yX9_here cX9_here 1 (some .int)) 0 0 0 idx [pR 50 0] μ (qI P) X := by
  refine PMet_of mv_X9_here.2.2.2.2.2.2 hl hI mv_X9_here.2.2.2.1 rfl (Nat.le_of_ble_eq_true rfl) (fun G _ _ C hRt hHR hnT => ?_)
  show PW G 0 0 0 [some (pR 50 0)] [] μ
  unfold w9_here_wp at hk
  refine px_aload_n (i := 0) C dX9_here_0 rfl rfl ?_
  refine px_geti 3230 C dX9_here_1 fl_RX9_289 rfl rfl rfl rfl ?_
  refine px_aload_n (i := 0) C dX9_here_4 rfl rfl ?_
  refine px_geti 3210 C dX9_here_5 fl_RX9_286 rfl rfl rfl rfl ?_
  refine px_icmp_ge (tgt := 23) C dX9_here_8 (by decide) (fun c2 => ?_) (fun c2 => ?_)
  · replace hk := hk.1 c2
    refine px_iconst (v := (-1 : Int32)) C dX9_here_23 rfl ?_
    exact px_iret C hRt dX9_here_24 rfl rfl hk
  · replace hk := hk.2 c2
    refine px_aload_n (i := 0) C dX9_here_11 rfl rfl ?_
    refine px_getr C dX9_here_12 fl_RX9_25 rfl rfl rfl ?_
    refine px_aload_n (i := 0) C dX9_here_15 rfl rfl ?_
    refine px_geti 3230 C dX9_here_16 fl_RX9_289 rfl rfl rfl rfl ?_
    obtain ⟨o1, hk⟩ := hk
    refine px_iald 3584 C dX9_here_19 rfl rfl rfl rfl o1 ?_
    refine px_goto (tgt := 24) C dX9_here_20 (by decide) ?_
    exact px_iret C hRt dX9_here_24 rfl rfl hk
theorem dX9_must_0 : decode cX9_must 0 = .ok (.aload_n 0, 1) := by decide +kernel
theorem dX9_must_1 : decode cX9_must 1 = .ok (.aload_n 0, 1) := by decide +kernel
theorem dX9_must_2 : decode cX9_must 2 = .ok (.getfield 292, 3) := by decide +kernel
theorem dX9_must_5 : decode cX9_must 5 = .ok (.ifCond .eq 15, 3) := by decide +kernel
theorem dX9_must_8 : decode cX9_must 8 = .ok (.aload_n 0, 1) := by decide +kernel
theorem dX9_must_9 : decode cX9_must 9 = .ok (.invokevirtual 295, 3) := by decide +kernel
theorem dX9_must_12 : decode cX9_must 12 = .ok (.iload_n 1, 1) := by decide +kernel
theorem dX9_must_13 : decode cX9_must 13 = .ok (.if_icmp .ne 7, 3) := by decide +kernel
theorem dX9_must_16 : decode cX9_must 16 = .ok (.iconst 1, 1) := by decide +kernel
theorem dX9_must_17 : decode cX9_must 17 = .ok (.goto 4, 3) := by decide +kernel
theorem dX9_must_20 : decode cX9_must 20 = .ok (.iconst 0, 1) := by decide +kernel
theorem dX9_must_21 : decode cX9_must 21 = .ok (.putfield 292, 3) := by decide +kernel
theorem dX9_must_24 : decode cX9_must 24 = .ok (.aload_n 0, 1) := by decide +kernel
theorem dX9_must_25 : decode cX9_must 25 = .ok (.dup, 1) := by decide +kernel
theorem dX9_must_26 : decode cX9_must 26 = .ok (.getfield 289, 3) := by decide +kernel
theorem dX9_must_29 : decode cX9_must 29 = .ok (.aload_n 0, 1) := by decide +kernel
theorem dX9_must_30 : decode cX9_must 30 = .ok (.getfield 292, 3) := by decide +kernel
theorem dX9_must_33 : decode cX9_must 33 = .ok (.ifCond .eq 7, 3) := by decide +kernel
theorem dX9_must_36 : decode cX9_must 36 = .ok (.iconst 1, 1) := by decide +kernel
theorem dX9_must_37 : decode cX9_must 37 = .ok (.goto 4, 3) := by decide +kernel
theorem dX9_must_40 : decode cX9_must 40 = .ok (.iconst 0, 1) := by decide +kernel
theorem dX9_must_41 : decode cX9_must 41 = .ok (.iadd, 1) := by decide +kernel
theorem dX9_must_42 : decode cX9_must 42 = .ok (.putfield 289, 3) := by decide +kernel
theorem dX9_must_45 : decode cX9_must 45 = .ok (.return_, 1) := by decide +kernel
set_option maxRecDepth 100000 in
set_option maxHeartbeats 4000000 in
theorem w9_must_b21_ok {G : GT} {P : Mem → Prop} {X : String → Mem → Prop} (C : PCx G cX9_must 2 RX9) (hRt : PRt G none (qV P) X) (hHR : HR G (1)) (hnT : NoT G) {μ : Mem} {s0 : Int32} (hk : w9_must_b21 P μ s0) : PW G 0 0 21 [some (pR 50 0), none] [pI s0, pR 50 0] μ := by
  unfold w9_must_b21 at hk
  obtain ⟨o2, hk⟩ := hk
  replace hk := hk _ rfl
  refine px_puti 3231 C dX9_must_21 fp_RX9_292 rfl rfl rfl rfl (nar_z o2) (fit_z o2) ?_
  refine px_aload_n (i := 0) C dX9_must_24 rfl rfl ?_
  refine px_dup C dX9_must_25 rfl ?_
  refine px_geti 3230 C dX9_must_26 fl_RX9_289 rfl rfl rfl rfl ?_
  refine px_aload_n (i := 0) C dX9_must_29 rfl rfl ?_
  refine px_geti 3231 C dX9_must_30 fl_RX9_292 rfl rfl rfl rfl ?_
  refine px_if_eq (tgt := 40) C dX9_must_33 (by decide) (fun c5 => ?_) (fun c5 => ?_)
  · replace hk := hk.1 c5
    refine px_iconst (v := (0 : Int32)) C dX9_must_40 rfl ?_
    refine px_iadd C dX9_must_41 ?_
    replace hk := hk _ rfl
    refine px_puti 3230 C dX9_must_42 fp_RX9_289 rfl rfl rfl rfl rfl rfl ?_
    exact px_vret C hRt dX9_must_45 rfl hk
  · replace hk := hk.2 c5
    refine px_iconst (v := (1 : Int32)) C dX9_must_36 rfl ?_
    refine px_goto (tgt := 41) C dX9_must_37 (by decide) ?_
    refine px_iadd C dX9_must_41 ?_
    replace hk := hk _ rfl
    refine px_puti 3230 C dX9_must_42 fp_RX9_289 rfl rfl rfl rfl rfl rfl ?_
    exact px_vret C hRt dX9_must_45 rfl hk
set_option maxRecDepth 100000 in
set_option maxHeartbeats 4000000 in
theorem w9_must_ok {l : Launch} {idx : List (Nat × Nat)} {μ : Mem} {a1 : Int32} {P : Mem → Prop} {X : String → Mem → Prop} (hl : l.stackTraces = false) (hI : IdxOK idx) (hk : w9_must_wp μ a1 P) : PMet l yX9_must (.code yX9_must cX9_must 2 none) 1 0 0 idx [pR 50 0, pI a1] μ (qV P) X := by
  refine PMet_of mv_X9_must.2.2.2.2.2.2 hl hI mv_X9_must.2.2.2.1 rfl (Nat.le_of_ble_eq_true rfl) (fun G _ _ C hRt hHR hnT => ?_)
  show PW G 0 0 0 [some (pR 50 0), some (pI a1)] [] μ
  unfold w9_must_wp at hk
  refine px_aload_n (i := 0) C dX9_must_0 rfl rfl ?_
  refine px_aload_n (i := 0) C dX9_must_1 rfl rfl ?_
  refine px_geti 3231 C dX9_must_2 fl_RX9_292 rfl rfl rfl rfl ?_
  refine px_if_eq (tgt := 20) C dX9_must_5 (by decide) (fun c9 => ?_) (fun c9 => ?_)
  · replace hk := hk.1 c9
    refine px_iconst (v := (0 : Int32)) C dX9_must_20 rfl ?_
    exact PW_at (w9_must_b21_ok C hRt hHR hnT hk) (And.intro rfl trivial) (Nat.le_of_ble_eq_true rfl) (Nat.le_of_ble_eq_true rfl)
  · replace hk := hk.2 c9
    refine px_aload_n (i := 0) C dX9_must_8 rfl rfl ?_
    refine px_callVi (h := 0) (rc' := 0) (rs' := 0) C (HR_le hHR (Nat.le_of_ble_eq_true rfl)) hRt hnT dX9_must_9 (gw10 63 rfl rfl) mv_X9_here (w9_here_ok (PCx_l C) (PCx_I C) hk) rfl rfl rfl rfl rfl (Nat.le_of_ble_eq_true rfl) (Nat.le_of_ble_eq_true rfl) (Nat.le_of_ble_eq_true rfl) (Nat.le_of_ble_eq_true rfl) ?_
    intro r7 μ6 hk
    refine px_iload_n (i := 1) C dX9_must_12 rfl rfl ?_
    refine px_icmp_ne (tgt := 20) C dX9_must_13 (by decide) (fun c8 => ?_) (fun c8 => ?_)
    · replace hk := hk.1 c8
      refine px_iconst (v := (0 : Int32)) C dX9_must_20 rfl ?_
      exact PW_at (w9_must_b21_ok C hRt hHR hnT hk) (And.intro rfl trivial) (Nat.le_of_ble_eq_true rfl) (Nat.le_of_ble_eq_true rfl)
    · replace hk := hk.2 c8
      refine px_iconst (v := (1 : Int32)) C dX9_must_16 rfl ?_
      refine px_goto (tgt := 21) C dX9_must_17 (by decide) ?_
      exact PW_at (w9_must_b21_ok C hRt hHR hnT hk) (And.intro rfl trivial) (Nat.le_of_ble_eq_true rfl) (Nat.le_of_ble_eq_true rfl)
theorem dX9_number__0 : decode cX9_number_ 0 = .ok (.aload_n 0, 1) := by decide +kernel
theorem dX9_number__1 : decode cX9_number_ 1 = .ok (.aload_n 0, 1) := by decide +kernel
theorem dX9_number__2 : decode cX9_number_ 2 = .ok (.getfield 292, 3) := by decide +kernel
theorem dX9_number__5 : decode cX9_number_ 5 = .ok (.ifCond .eq 20, 3) := by decide +kernel
theorem dX9_number__8 : decode cX9_number_ 8 = .ok (.aload_n 0, 1) := by decide +kernel
theorem dX9_number__9 : decode cX9_number_ 9 = .ok (.invokevirtual 295, 3) := by decide +kernel
theorem dX9_number__12 : decode cX9_number_ 12 = .ok (.bipush 48, 2) := by decide +kernel
theorem dX9_number__14 : decode cX9_number_ 14 = .ok (.iload_n 2, 1) := by decide +kernel
theorem dX9_number__15 : decode cX9_number_ 15 = .ok (.invokestatic 140, 3) := by decide +kernel
theorem dX9_number__18 : decode cX9_number_ 18 = .ok (.ifCond .eq 7, 3) := by decide +kernel
theorem dX9_number__21 : decode cX9_number_ 21 = .ok (.iconst 1, 1) := by decide +kernel
theorem dX9_number__22 : decode cX9_number_ 22 = .ok (.goto 4, 3) := by decide +kernel
theorem dX9_number__25 : decode cX9_number_ 25 = .ok (.iconst 0, 1) := by decide +kernel
theorem dX9_number__26 : decode cX9_number_ 26 = .ok (.putfield 292, 3) := by decide +kernel
theorem dX9_number__29 : decode cX9_number_ 29 = .ok (.iconst 0, 1) := by decide +kernel
theorem dX9_number__30 : decode cX9_number_ 30 = .ok (.istore_n 3, 1) := by decide +kernel
theorem dX9_number__31 : decode cX9_number_ 31 = .ok (.iconst 0, 1) := by decide +kernel
theorem dX9_number__32 : decode cX9_number_ 32 = .ok (.istore 4, 2) := by decide +kernel
theorem dX9_number__34 : decode cX9_number_ 34 = .ok (.iload 4, 2) := by decide +kernel
theorem dX9_number__36 : decode cX9_number_ 36 = .ok (.iload_n 1, 1) := by decide +kernel
theorem dX9_number__37 : decode cX9_number_ 37 = .ok (.if_icmp .ge 52, 3) := by decide +kernel
theorem dX9_number__40 : decode cX9_number_ 40 = .ok (.aload_n 0, 1) := by decide +kernel
theorem dX9_number__41 : decode cX9_number_ 41 = .ok (.getfield 292, 3) := by decide +kernel
theorem dX9_number__44 : decode cX9_number_ 44 = .ok (.ifCond .eq 45, 3) := by decide +kernel
theorem dX9_number__47 : decode cX9_number_ 47 = .ok (.aload_n 0, 1) := by decide +kernel
theorem dX9_number__48 : decode cX9_number_ 48 = .ok (.invokevirtual 295, 3) := by decide +kernel
theorem dX9_number__51 : decode cX9_number_ 51 = .ok (.bipush 48, 2) := by decide +kernel
theorem dX9_number__53 : decode cX9_number_ 53 = .ok (.iload_n 2, 1) := by decide +kernel
theorem dX9_number__54 : decode cX9_number_ 54 = .ok (.invokestatic 140, 3) := by decide +kernel
theorem dX9_number__57 : decode cX9_number_ 57 = .ok (.ifCond .eq 32, 3) := by decide +kernel
theorem dX9_number__60 : decode cX9_number_ 60 = .ok (.bipush 10, 2) := by decide +kernel
theorem dX9_number__62 : decode cX9_number_ 62 = .ok (.iload_n 3, 1) := by decide +kernel
theorem dX9_number__63 : decode cX9_number_ 63 = .ok (.imul, 1) := by decide +kernel
theorem dX9_number__64 : decode cX9_number_ 64 = .ok (.aload_n 0, 1) := by decide +kernel
theorem dX9_number__65 : decode cX9_number_ 65 = .ok (.invokevirtual 295, 3) := by decide +kernel
theorem dX9_number__68 : decode cX9_number_ 68 = .ok (.iadd, 1) := by decide +kernel
theorem dX9_number__69 : decode cX9_number_ 69 = .ok (.bipush 48, 2) := by decide +kernel
theorem dX9_number__71 : decode cX9_number_ 71 = .ok (.isub, 1) := by decide +kernel
theorem dX9_number__72 : decode cX9_number_ 72 = .ok (.istore_n 3, 1) := by decide +kernel
theorem dX9_number__73 : decode cX9_number_ 73 = .ok (.aload_n 0, 1) := by decide +kernel
theorem dX9_number__74 : decode cX9_number_ 74 = .ok (.dup, 1) := by decide +kernel
theorem dX9_number__75 : decode cX9_number_ 75 = .ok (.getfield 289, 3) := by decide +kernel
theorem dX9_number__78 : decode cX9_number_ 78 = .ok (.iconst 1, 1) := by decide +kernel
theorem dX9_number__79 : decode cX9_number_ 79 = .ok (.iadd, 1) := by decide +kernel
theorem dX9_number__80 : decode cX9_number_ 80 = .ok (.putfield 289, 3) := by decide +kernel
theorem dX9_number__83 : decode cX9_number_ 83 = .ok (.iinc 4 1, 3) := by decide +kernel
theorem dX9_number__86 : decode cX9_number_ 86 = .ok (.goto (-52), 3) := by decide +kernel
theorem dX9_number__89 : decode cX9_number_ 89 = .ok (.iload_n 3, 1) := by decide +kernel
theorem dX9_number__90 : decode cX9_number_ 90 = .ok (.ireturn, 1) := by decide +kernel
set_option maxRecDepth 100000 in
set_option maxHeartbeats 4000000 in
theorem w9_number__b34_ok {G : GT} {P : Int32 → Mem → Prop} {X : String → Mem → Prop} (C : PCx G cX9_number_ 5 RX9) (hRt : PRt G (some .int) (qI P) X) (hHR : HR G (1)) (hnT : NoT G) {μ : Mem} {l1 : Int32} {l2 : Int32} {l3 : Int32} {l4 : Int32} (hk : w9_number__b34 P μ l1 l2 l3 l4) : PW G 0 0 34 [some (pR 50 0), some (pI l1), some (pI l2), some (pI l3), some (pI l4)] [] μ := by
  refine hk (fun (μ : Mem) (l1 : Int32) (l2 : Int32) (l3 : Int32) (l4 : Int32) => PW G 0 0 34 [some (pR 50 0), some (pI l1), some (pI l2), some (pI l3), some (pI l4)] [] μ) (fun (μ : Mem) l1 l2 l3 l4 hk => ?_)
  have hR34 : ∀ (μ : Mem) (l1 : Int32) (l2 : Int32) (l3 : Int32) (l4 : Int32), PW G 0 0 34 [some (pR 50 0), some (pI l1), some (pI l2), some (pI l3), some (pI l4)] [] μ → PW G 0 0 34 [some (pR 50 0), some (pI l1), some (pI l2), some (pI l3), some (pI l4)] [] μ := fun _ _ _ _ _ h => h
  unfold w9_number__b34_body at hk
  refine px_iload (i := 4) C dX9_number__34 rfl ?_
  refine px_iload_n (i := 1) C dX9_number__36 rfl rfl ?_
  refine px_icmp_ge (tgt := 89) C dX9_number__37 (by decide) (fun c11 => ?_) (fun c11 => ?_)
  · replace hk := hk.1 c11
    refine px_iload_n (i := 3) C dX9_number__89 rfl rfl ?_
    exact px_iret C hRt dX9_number__90 rfl rfl hk
  · replace hk := hk.2 c11
    refine px_aload_n (i := 0) C dX9_number__40 rfl rfl ?_
    refine px_geti 3231 C dX9_number__41 fl_RX9_292 rfl rfl rfl rfl ?_
    refine px_if_eq (tgt := 89) C dX9_number__44 (by decide) (fun c10 => ?_) (fun c10 => ?_)
    · replace hk := hk.1 c10
      refine px_iload_n (i := 3) C dX9_number__89 rfl rfl ?_
      exact px_iret C hRt dX9_number__90 rfl rfl hk
    · replace hk := hk.2 c10
      refine px_aload_n (i := 0) C dX9_number__47 rfl rfl ?_
      refine px_callVi (h := 0) (rc' := 0) (rs' := 0) C (HR_le hHR (Nat.le_of_ble_eq_true rfl)) hRt hnT dX9_number__48 (gw10 63 rfl rfl) mv_X9_here (w9_here_ok (PCx_l C) (PCx_I C) hk) rfl rfl rfl rfl rfl (Nat.le_of_ble_eq_true rfl) (Nat.le_of_ble_eq_true rfl) (Nat.le_of_ble_eq_true rfl) (Nat.le_of_ble_eq_true rfl) ?_
      intro r3 μ2 hk
      refine px_bipush (v := (48 : Int32)) C dX9_number__51 rfl ?_
      refine px_iload_n (i := 2) C dX9_number__53 rfl rfl ?_
      refine px_callSi (h := 0) (rc' := 0) (rs' := 0) C (HR_le hHR (Nat.le_of_ble_eq_true rfl)) hRt hnT dX9_number__54 (gw8 138 rfl rfl) ms_X9_in (w9_in_ok (PCx_l C) (PCx_I C) hk) rfl rfl (Nat.le_of_ble_eq_true rfl) (Nat.le_of_ble_eq_true rfl) (Nat.le_of_ble_eq_true rfl) (Nat.le_of_ble_eq_true rfl) ?_
      intro r5 μ4 hk
      refine px_if_eq (tgt := 89) C dX9_number__57 (by decide) (fun c9 => ?_) (fun c9 => ?_)
      · replace hk := hk.1 c9
        refine px_iload_n (i := 3) C dX9_number__89 rfl rfl ?_
        exact px_iret C hRt dX9_number__90 rfl rfl hk
      · replace hk := hk.2 c9
        refine px_bipush (v := (10 : Int32)) C dX9_number__60 rfl ?_
        refine px_iload_n (i := 3) C dX9_number__62 rfl rfl ?_
        refine px_imul C dX9_number__63 ?_
        refine px_aload_n (i := 0) C dX9_number__64 rfl rfl ?_
        refine px_callVi (h := 0) (rc' := 0) (rs' := 0) C (HR_le hHR (Nat.le_of_ble_eq_true rfl)) hRt hnT dX9_number__65 (gw10 63 rfl rfl) mv_X9_here (w9_here_ok (PCx_l C) (PCx_I C) hk) rfl rfl rfl rfl rfl (Nat.le_of_ble_eq_true rfl) (Nat.le_of_ble_eq_true rfl) (Nat.le_of_ble_eq_true rfl) (Nat.le_of_ble_eq_true rfl) ?_
        intro r7 μ6 hk
        refine px_iadd C dX9_number__68 ?_
        refine px_bipush (v := (48 : Int32)) C dX9_number__69 rfl ?_
        refine px_isub C dX9_number__71 ?_
        refine px_istore_n (i := 3) C dX9_number__72 rfl (by decide) rfl ?_
        refine px_aload_n (i := 0) C dX9_number__73 rfl rfl ?_
        refine px_dup C dX9_number__74 rfl ?_
        refine px_geti 3230 C dX9_number__75 fl_RX9_289 rfl rfl rfl rfl ?_
        refine px_iconst (v := (1 : Int32)) C dX9_number__78 rfl ?_
        refine px_iadd C dX9_number__79 ?_
        replace hk := hk _ rfl
        refine px_puti 3230 C dX9_number__80 fp_RX9_289 rfl rfl rfl rfl rfl rfl ?_
        refine px_iinc (i := 4) (v := (1 : Int32)) C dX9_number__83 rfl rfl (by decide) rfl ?_
        refine px_goto (tgt := 34) C dX9_number__86 (by decide) ?_
        exact PW_at (hR34 _ _ _ _ _ hk) (And.intro rfl (And.intro rfl (And.intro rfl (And.intro rfl (And.intro rfl trivial))))) (Nat.le_of_ble_eq_true rfl) (Nat.le_of_ble_eq_true rfl)
set_option maxRecDepth 100000 in
set_option maxHeartbeats 4000000 in
theorem w9_number__ok {l : Launch} {idx : List (Nat × Nat)} {μ : Mem} {a1 : Int32} {a2 : Int32} {P : Int32 → Mem → Prop} {X : String → Mem → Prop} (hl : l.stackTraces = false) (hI : IdxOK idx) (hk : w9_number__wp μ a1 a2 P) : PMet l yX9_number_ (.code yX9_number_ cX9_number_ 5 (some .int)) 1 0 0 idx [pR 50 0, pI a1, pI a2] μ (qI P) X := by
  refine PMet_of mv_X9_number_.2.2.2.2.2.2 hl hI mv_X9_number_.2.2.2.1 rfl (Nat.le_of_ble_eq_true rfl) (fun G _ _ C hRt hHR hnT => ?_)
  show PW G 0 0 0 [some (pR 50 0), some (pI a1), some (pI a2), none, none] [] μ
  unfold w9_number__wp at hk
  refine px_aload_n (i := 0) C dX9_number__0 rfl rfl ?_
  refine px_aload_n (i := 0) C dX9_number__1 rfl rfl ?_
  refine px_geti 3231 C dX9_number__2 fl_RX9_292 rfl rfl rfl rfl ?_
  refine px_if_eq (tgt := 25) C dX9_number__5 (by decide) (fun c19 => ?_) (fun c19 => ?_)
  · replace hk := hk.1 c19
    refine px_iconst (v := (0 : Int32)) C dX9_number__25 rfl ?_
    replace hk := hk _ rfl
    refine px_puti 3231 C dX9_number__26 fp_RX9_292 rfl rfl rfl rfl rfl rfl ?_
    refine px_iconst (v := (0 : Int32)) C dX9_number__29 rfl ?_
    refine px_istore_n (i := 3) C dX9_number__30 rfl (by decide) rfl ?_
    refine px_iconst (v := (0 : Int32)) C dX9_number__31 rfl ?_
    refine px_istore (i := 4) C dX9_number__32 (by decide) rfl ?_
    exact PW_at (w9_number__b34_ok C hRt hHR hnT hk) (And.intro rfl (And.intro rfl (And.intro rfl (And.intro rfl (And.intro rfl trivial))))) (Nat.le_of_ble_eq_true rfl) (Nat.le_of_ble_eq_true rfl)
  · replace hk := hk.2 c19
    refine px_aload_n (i := 0) C dX9_number__8 rfl rfl ?_
    refine px_callVi (h := 0) (rc' := 0) (rs' := 0) C (HR_le hHR (Nat.le_of_ble_eq_true rfl)) hRt hnT dX9_number__9 (gw10 63 rfl rfl) mv_X9_here (w9_here_ok (PCx_l C) (PCx_I C) hk) rfl rfl rfl rfl rfl (Nat.le_of_ble_eq_true rfl) (Nat.le_of_ble_eq_true rfl) (Nat.le_of_ble_eq_true rfl) (Nat.le_of_ble_eq_true rfl) ?_
    intro r13 μ12 hk
    refine px_bipush (v := (48 : Int32)) C dX9_number__12 rfl ?_
    refine px_iload_n (i := 2) C dX9_number__14 rfl rfl ?_
    refine px_callSi (h := 0) (rc' := 0) (rs' := 0) C (HR_le hHR (Nat.le_of_ble_eq_true rfl)) hRt hnT dX9_number__15 (gw8 138 rfl rfl) ms_X9_in (w9_in_ok (PCx_l C) (PCx_I C) hk) rfl rfl (Nat.le_of_ble_eq_true rfl) (Nat.le_of_ble_eq_true rfl) (Nat.le_of_ble_eq_true rfl) (Nat.le_of_ble_eq_true rfl) ?_
    intro r15 μ14 hk
    refine px_if_eq (tgt := 25) C dX9_number__18 (by decide) (fun c18 => ?_) (fun c18 => ?_)
    · replace hk := hk.1 c18
      refine px_iconst (v := (0 : Int32)) C dX9_number__25 rfl ?_
      replace hk := hk _ rfl
      refine px_puti 3231 C dX9_number__26 fp_RX9_292 rfl rfl rfl rfl rfl rfl ?_
      refine px_iconst (v := (0 : Int32)) C dX9_number__29 rfl ?_
      refine px_istore_n (i := 3) C dX9_number__30 rfl (by decide) rfl ?_
      refine px_iconst (v := (0 : Int32)) C dX9_number__31 rfl ?_
      refine px_istore (i := 4) C dX9_number__32 (by decide) rfl ?_
      exact PW_at (w9_number__b34_ok C hRt hHR hnT hk) (And.intro rfl (And.intro rfl (And.intro rfl (And.intro rfl (And.intro rfl trivial))))) (Nat.le_of_ble_eq_true rfl) (Nat.le_of_ble_eq_true rfl)
    · replace hk := hk.2 c18
      refine px_iconst (v := (1 : Int32)) C dX9_number__21 rfl ?_
      refine px_goto (tgt := 26) C dX9_number__22 (by decide) ?_
      replace hk := hk _ rfl
      refine px_puti 3231 C dX9_number__26 fp_RX9_292 rfl rfl rfl rfl rfl rfl ?_
      refine px_iconst (v := (0 : Int32)) C dX9_number__29 rfl ?_
      refine px_istore_n (i := 3) C dX9_number__30 rfl (by decide) rfl ?_
      refine px_iconst (v := (0 : Int32)) C dX9_number__31 rfl ?_
      refine px_istore (i := 4) C dX9_number__32 (by decide) rfl ?_
      exact PW_at (w9_number__b34_ok C hRt hHR hnT hk) (And.intro rfl (And.intro rfl (And.intro rfl (And.intro rfl (And.intro rfl trivial))))) (Nat.le_of_ble_eq_true rfl) (Nat.le_of_ble_eq_true rfl)
theorem dX9_entry_0 : decode cX9_entry 0 = .ok (.aload_n 0, 1) := by decide +kernel
theorem dX9_entry_1 : decode cX9_entry 1 = .ok (.getfield 74, 3) := by decide +kernel
theorem dX9_entry_4 : decode cX9_entry 4 = .ok (.iconst 1, 1) := by decide +kernel
theorem dX9_entry_5 : decode cX9_entry 5 = .ok (.aload_n 0, 1) := by decide +kernel
theorem dX9_entry_6 : decode cX9_entry 6 = .ok (.iconst 1, 1) := by decide +kernel
theorem dX9_entry_7 : decode cX9_entry 7 = .ok (.bipush 51, 2) := by decide +kernel
theorem dX9_entry_9 : decode cX9_entry 9 = .ok (.invokevirtual 298, 3) := by decide +kernel
theorem dX9_entry_12 : decode cX9_entry 12 = .ok (.iastore, 1) := by decide +kernel
theorem dX9_entry_13 : decode cX9_entry 13 = .ok (.aload_n 0, 1) := by decide +kernel
theorem dX9_entry_14 : decode cX9_entry 14 = .ok (.bipush 47, 2) := by decide +kernel
theorem dX9_entry_16 : decode cX9_entry 16 = .ok (.invokevirtual 301, 3) := by decide +kernel
theorem dX9_entry_19 : decode cX9_entry 19 = .ok (.aload_n 0, 1) := by decide +kernel
theorem dX9_entry_20 : decode cX9_entry 20 = .ok (.getfield 74, 3) := by decide +kernel
theorem dX9_entry_23 : decode cX9_entry 23 = .ok (.iconst 0, 1) := by decide +kernel
theorem dX9_entry_24 : decode cX9_entry 24 = .ok (.aload_n 0, 1) := by decide +kernel
theorem dX9_entry_25 : decode cX9_entry 25 = .ok (.iconst 2, 1) := by decide +kernel
theorem dX9_entry_26 : decode cX9_entry 26 = .ok (.bipush 57, 2) := by decide +kernel
theorem dX9_entry_28 : decode cX9_entry 28 = .ok (.invokevirtual 298, 3) := by decide +kernel
theorem dX9_entry_31 : decode cX9_entry 31 = .ok (.iastore, 1) := by decide +kernel
theorem dX9_entry_32 : decode cX9_entry 32 = .ok (.aload_n 0, 1) := by decide +kernel
theorem dX9_entry_33 : decode cX9_entry 33 = .ok (.bipush 60, 2) := by decide +kernel
theorem dX9_entry_35 : decode cX9_entry 35 = .ok (.invokevirtual 301, 3) := by decide +kernel
theorem dX9_entry_38 : decode cX9_entry 38 = .ok (.aload_n 0, 1) := by decide +kernel
theorem dX9_entry_39 : decode cX9_entry 39 = .ok (.getfield 292, 3) := by decide +kernel
theorem dX9_entry_42 : decode cX9_entry 42 = .ok (.ifCond .eq 16, 3) := by decide +kernel
theorem dX9_entry_45 : decode cX9_entry 45 = .ok (.aload_n 0, 1) := by decide +kernel
theorem dX9_entry_46 : decode cX9_entry 46 = .ok (.invokevirtual 295, 3) := by decide +kernel
theorem dX9_entry_49 : decode cX9_entry 49 = .ok (.bipush 45, 2) := by decide +kernel
theorem dX9_entry_51 : decode cX9_entry 51 = .ok (.if_icmp .ne 7, 3) := by decide +kernel
theorem dX9_entry_54 : decode cX9_entry 54 = .ok (.iconst 1, 1) := by decide +kernel
theorem dX9_entry_55 : decode cX9_entry 55 = .ok (.goto 4, 3) := by decide +kernel
theorem dX9_entry_58 : decode cX9_entry 58 = .ok (.iconst 0, 1) := by decide +kernel
theorem dX9_entry_59 : decode cX9_entry 59 = .ok (.istore_n 1, 1) := by decide +kernel
theorem dX9_entry_60 : decode cX9_entry 60 = .ok (.iload_n 1, 1) := by decide +kernel
theorem dX9_entry_61 : decode cX9_entry 61 = .ok (.ifCond .eq 13, 3) := by decide +kernel
theorem dX9_entry_64 : decode cX9_entry 64 = .ok (.aload_n 0, 1) := by decide +kernel
theorem dX9_entry_65 : decode cX9_entry 65 = .ok (.dup, 1) := by decide +kernel
theorem dX9_entry_66 : decode cX9_entry 66 = .ok (.getfield 289, 3) := by decide +kernel
theorem dX9_entry_69 : decode cX9_entry 69 = .ok (.iconst 1, 1) := by decide +kernel
theorem dX9_entry_70 : decode cX9_entry 70 = .ok (.iadd, 1) := by decide +kernel
theorem dX9_entry_71 : decode cX9_entry 71 = .ok (.putfield 289, 3) := by decide +kernel
theorem dX9_entry_74 : decode cX9_entry 74 = .ok (.aload_n 0, 1) := by decide +kernel
theorem dX9_entry_75 : decode cX9_entry 75 = .ok (.getfield 74, 3) := by decide +kernel
theorem dX9_entry_78 : decode cX9_entry 78 = .ok (.iconst 2, 1) := by decide +kernel
theorem dX9_entry_79 : decode cX9_entry 79 = .ok (.iload_n 1, 1) := by decide +kernel
theorem dX9_entry_80 : decode cX9_entry 80 = .ok (.ifCond .eq 7, 3) := by decide +kernel
theorem dX9_entry_83 : decode cX9_entry 83 = .ok (.iconst (-1), 1) := by decide +kernel
theorem dX9_entry_84 : decode cX9_entry 84 = .ok (.goto 10, 3) := by decide +kernel
theorem dX9_entry_87 : decode cX9_entry 87 = .ok (.aload_n 0, 1) := by decide +kernel
theorem dX9_entry_88 : decode cX9_entry 88 = .ok (.iconst 2, 1) := by decide +kernel
theorem dX9_entry_89 : decode cX9_entry 89 = .ok (.bipush 57, 2) := by decide +kernel
theorem dX9_entry_91 : decode cX9_entry 91 = .ok (.invokevirtual 298, 3) := by decide +kernel
theorem dX9_entry_94 : decode cX9_entry 94 = .ok (.iastore, 1) := by decide +kernel
theorem dX9_entry_95 : decode cX9_entry 95 = .ok (.aload_n 0, 1) := by decide +kernel
theorem dX9_entry_96 : decode cX9_entry 96 = .ok (.bipush 64, 2) := by decide +kernel
theorem dX9_entry_98 : decode cX9_entry 98 = .ok (.invokevirtual 301, 3) := by decide +kernel
theorem dX9_entry_101 : decode cX9_entry 101 = .ok (.aload_n 0, 1) := by decide +kernel
theorem dX9_entry_102 : decode cX9_entry 102 = .ok (.getfield 74, 3) := by decide +kernel
theorem dX9_entry_105 : decode cX9_entry 105 = .ok (.iconst 3, 1) := by decide +kernel
theorem dX9_entry_106 : decode cX9_entry 106 = .ok (.aload_n 0, 1) := by decide +kernel
theorem dX9_entry_107 : decode cX9_entry 107 = .ok (.iconst 1, 1) := by decide +kernel
theorem dX9_entry_108 : decode cX9_entry 108 = .ok (.bipush 55, 2) := by decide +kernel
theorem dX9_entry_110 : decode cX9_entry 110 = .ok (.invokevirtual 298, 3) := by decide +kernel
theorem dX9_entry_113 : decode cX9_entry 113 = .ok (.iastore, 1) := by decide +kernel
theorem dX9_entry_114 : decode cX9_entry 114 = .ok (.aload_n 0, 1) := by decide +kernel
theorem dX9_entry_115 : decode cX9_entry 115 = .ok (.bipush 58, 2) := by decide +kernel
theorem dX9_entry_117 : decode cX9_entry 117 = .ok (.invokevirtual 301, 3) := by decide +kernel
theorem dX9_entry_120 : decode cX9_entry 120 = .ok (.aload_n 0, 1) := by decide +kernel
theorem dX9_entry_121 : decode cX9_entry 121 = .ok (.getfield 74, 3) := by decide +kernel
theorem dX9_entry_124 : decode cX9_entry 124 = .ok (.iconst 4, 1) := by decide +kernel
theorem dX9_entry_125 : decode cX9_entry 125 = .ok (.aload_n 0, 1) := by decide +kernel
theorem dX9_entry_126 : decode cX9_entry 126 = .ok (.iconst 4, 1) := by decide +kernel
theorem dX9_entry_127 : decode cX9_entry 127 = .ok (.bipush 57, 2) := by decide +kernel
theorem dX9_entry_129 : decode cX9_entry 129 = .ok (.invokevirtual 298, 3) := by decide +kernel
theorem dX9_entry_132 : decode cX9_entry 132 = .ok (.iastore, 1) := by decide +kernel
theorem dX9_entry_133 : decode cX9_entry 133 = .ok (.aload_n 0, 1) := by decide +kernel
theorem dX9_entry_134 : decode cX9_entry 134 = .ok (.bipush 45, 2) := by decide +kernel
theorem dX9_entry_136 : decode cX9_entry 136 = .ok (.invokevirtual 301, 3) := by decide +kernel
theorem dX9_entry_139 : decode cX9_entry 139 = .ok (.aload_n 0, 1) := by decide +kernel
theorem dX9_entry_140 : decode cX9_entry 140 = .ok (.getfield 74, 3) := by decide +kernel
theorem dX9_entry_143 : decode cX9_entry 143 = .ok (.iconst 5, 1) := by decide +kernel
theorem dX9_entry_144 : decode cX9_entry 144 = .ok (.aload_n 0, 1) := by decide +kernel
theorem dX9_entry_145 : decode cX9_entry 145 = .ok (.iconst 4, 1) := by decide +kernel
theorem dX9_entry_146 : decode cX9_entry 146 = .ok (.bipush 57, 2) := by decide +kernel
theorem dX9_entry_148 : decode cX9_entry 148 = .ok (.invokevirtual 298, 3) := by decide +kernel
theorem dX9_entry_151 : decode cX9_entry 151 = .ok (.iastore, 1) := by decide +kernel
theorem dX9_entry_152 : decode cX9_entry 152 = .ok (.aload_n 0, 1) := by decide +kernel
theorem dX9_entry_153 : decode cX9_entry 153 = .ok (.getfield 74, 3) := by decide +kernel
theorem dX9_entry_156 : decode cX9_entry 156 = .ok (.bipush 6, 2) := by decide +kernel
theorem dX9_entry_158 : decode cX9_entry 158 = .ok (.aload_n 0, 1) := by decide +kernel
theorem dX9_entry_159 : decode cX9_entry 159 = .ok (.getfield 292, 3) := by decide +kernel
theorem dX9_entry_162 : decode cX9_entry 162 = .ok (.ifCond .eq 16, 3) := by decide +kernel
theorem dX9_entry_165 : decode cX9_entry 165 = .ok (.aload_n 0, 1) := by decide +kernel
theorem dX9_entry_166 : decode cX9_entry 166 = .ok (.invokevirtual 295, 3) := by decide +kernel
theorem dX9_entry_169 : decode cX9_entry 169 = .ok (.bipush 33, 2) := by decide +kernel
theorem dX9_entry_171 : decode cX9_entry 171 = .ok (.if_icmp .ne 7, 3) := by decide +kernel
theorem dX9_entry_174 : decode cX9_entry 174 = .ok (.iconst 1, 1) := by decide +kernel
theorem dX9_entry_175 : decode cX9_entry 175 = .ok (.goto 4, 3) := by decide +kernel
theorem dX9_entry_178 : decode cX9_entry 178 = .ok (.iconst 0, 1) := by decide +kernel
theorem dX9_entry_179 : decode cX9_entry 179 = .ok (.iastore, 1) := by decide +kernel
theorem dX9_entry_180 : decode cX9_entry 180 = .ok (.aload_n 0, 1) := by decide +kernel
theorem dX9_entry_181 : decode cX9_entry 181 = .ok (.dup, 1) := by decide +kernel
theorem dX9_entry_182 : decode cX9_entry 182 = .ok (.getfield 289, 3) := by decide +kernel
theorem dX9_entry_185 : decode cX9_entry 185 = .ok (.aload_n 0, 1) := by decide +kernel
theorem dX9_entry_186 : decode cX9_entry 186 = .ok (.getfield 74, 3) := by decide +kernel
theorem dX9_entry_189 : decode cX9_entry 189 = .ok (.bipush 6, 2) := by decide +kernel
theorem dX9_entry_191 : decode cX9_entry 191 = .ok (.iaload, 1) := by decide +kernel
theorem dX9_entry_192 : decode cX9_entry 192 = .ok (.iadd, 1) := by decide +kernel
theorem dX9_entry_193 : decode cX9_entry 193 = .ok (.putfield 289, 3) := by decide +kernel
theorem dX9_entry_196 : decode cX9_entry 196 = .ok (.aload_n 0, 1) := by decide +kernel
theorem dX9_entry_197 : decode cX9_entry 197 = .ok (.bipush 59, 2) := by decide +kernel
theorem dX9_entry_199 : decode cX9_entry 199 = .ok (.invokevirtual 301, 3) := by decide +kernel
theorem dX9_entry_202 : decode cX9_entry 202 = .ok (.return_, 1) := by decide +kernel
set_option maxRecDepth 100000 in
set_option maxHeartbeats 4000000 in
theorem w9_entry_b179_ok {G : GT} {P : Mem → Prop} {X : String → Mem → Prop} (C : PCx G cX9_entry 2 RX9) (hRt : PRt G none (qV P) X) (hHR : HR G (2)) (hnT : NoT G) {μ : Mem} {s0 : Int32} {s1 : Int32} (hk : w9_entry_b179 P μ s0 s1) : PW G 0 0 179 [some (pR 50 0), none] [pI s0, pI s1, pR 71 0] μ := by
  unfold w9_entry_b179 at hk
  obtain ⟨o30, hk⟩ := hk
  replace hk := hk _ rfl
  refine px_iast 4544 C dX9_entry_179 rfl rfl rfl rfl o30 ?_
  refine px_aload_n (i := 0) C dX9_entry_180 rfl rfl ?_
  refine px_dup C dX9_entry_181 rfl ?_
  refine px_geti 3230 C dX9_entry_182 fl_RX9_289 rfl rfl rfl rfl ?_
  refine px_aload_n (i := 0) C dX9_entry_185 rfl rfl ?_
  refine px_getr C dX9_entry_186 fl_RX9_74 rfl rfl rfl ?_
  refine px_bipush (v := (6 : Int32)) C dX9_entry_189 rfl ?_
  obtain ⟨o32, hk⟩ := hk
  refine px_iald 4544 C dX9_entry_191 rfl rfl rfl rfl o32 ?_
  refine px_iadd C dX9_entry_192 ?_
  replace hk := hk _ rfl
  refine px_puti 3230 C dX9_entry_193 fp_RX9_289 rfl rfl rfl rfl rfl rfl ?_
  refine px_aload_n (i := 0) C dX9_entry_196 rfl rfl ?_
  refine px_bipush (v := (59 : Int32)) C dX9_entry_197 rfl ?_
  refine px_callVv (h := 1) (rc' := 0) (rs' := 0) C (HR_le hHR (Nat.le_of_ble_eq_true rfl)) hRt hnT dX9_entry_199 (gw10 67 rfl rfl) mv_X9_must (w9_must_ok (PCx_l C) (PCx_I C) hk) rfl rfl rfl rfl rfl (Nat.le_of_ble_eq_true rfl) (Nat.le_of_ble_eq_true rfl) (Nat.le_of_ble_eq_true rfl) (Nat.le_of_ble_eq_true rfl) ?_
  intro μ34 hk
  exact px_vret C hRt dX9_entry_202 rfl hk
set_option maxRecDepth 100000 in
set_option maxHeartbeats 4000000 in
theorem w9_entry_b94_ok {G : GT} {P : Mem → Prop} {X : String → Mem → Prop} (C : PCx G cX9_entry 2 RX9) (hRt : PRt G none (qV P) X) (hHR : HR G (2)) (hnT : NoT G) {μ : Mem} {s0 : Int32} {s1 : Int32} (hk : w9_entry_b94 P μ s0 s1) : PW G 0 0 94 [some (pR 50 0), none] [pI s0, pI s1, pR 71 0] μ := by
  unfold w9_entry_b94 at hk
  obtain ⟨o13, hk⟩ := hk
  replace hk := hk _ rfl
  refine px_iast 4544 C dX9_entry_94 rfl rfl rfl rfl o13 ?_
  refine px_aload_n (i := 0) C dX9_entry_95 rfl rfl ?_
  refine px_bipush (v := (64 : Int32)) C dX9_entry_96 rfl ?_
  refine px_callVv (h := 1) (rc' := 0) (rs' := 0) C (HR_le hHR (Nat.le_of_ble_eq_true rfl)) hRt hnT dX9_entry_98 (gw10 67 rfl rfl) mv_X9_must (w9_must_ok (PCx_l C) (PCx_I C) hk) rfl rfl rfl rfl rfl (Nat.le_of_ble_eq_true rfl) (Nat.le_of_ble_eq_true rfl) (Nat.le_of_ble_eq_true rfl) (Nat.le_of_ble_eq_true rfl) ?_
  intro μ15 hk
  refine px_aload_n (i := 0) C dX9_entry_101 rfl rfl ?_
  refine px_getr C dX9_entry_102 fl_RX9_74 rfl rfl rfl ?_
  refine px_iconst (v := (3 : Int32)) C dX9_entry_105 rfl ?_
  refine px_aload_n (i := 0) C dX9_entry_106 rfl rfl ?_
  refine px_iconst (v := (1 : Int32)) C dX9_entry_107 rfl ?_
  refine px_bipush (v := (55 : Int32)) C dX9_entry_108 rfl ?_
  refine px_callVi (h := 1) (rc' := 0) (rs' := 0) C (HR_le hHR (Nat.le_of_ble_eq_true rfl)) hRt hnT dX9_entry_110 (gw10 59 rfl rfl) mv_X9_number_ (w9_number__ok (PCx_l C) (PCx_I C) hk) rfl rfl rfl rfl rfl (Nat.le_of_ble_eq_true rfl) (Nat.le_of_ble_eq_true rfl) (Nat.le_of_ble_eq_true rfl) (Nat.le_of_ble_eq_true rfl) ?_
  intro r17 μ16 hk
  obtain ⟨o18, hk⟩ := hk
  replace hk := hk _ rfl
  refine px_iast 4544 C dX9_entry_113 rfl rfl rfl rfl o18 ?_
  refine px_aload_n (i := 0) C dX9_entry_114 rfl rfl ?_
  refine px_bipush (v := (58 : Int32)) C dX9_entry_115 rfl ?_
  refine px_callVv (h := 1) (rc' := 0) (rs' := 0) C (HR_le hHR (Nat.le_of_ble_eq_true rfl)) hRt hnT dX9_entry_117 (gw10 67 rfl rfl) mv_X9_must (w9_must_ok (PCx_l C) (PCx_I C) hk) rfl rfl rfl rfl rfl (Nat.le_of_ble_eq_true rfl) (Nat.le_of_ble_eq_true rfl) (Nat.le_of_ble_eq_true rfl) (Nat.le_of_ble_eq_true rfl) ?_
  intro μ20 hk
  refine px_aload_n (i := 0) C dX9_entry_120 rfl rfl ?_
  refine px_getr C dX9_entry_121 fl_RX9_74 rfl rfl rfl ?_
  refine px_iconst (v := (4 : Int32)) C dX9_entry_124 rfl ?_
  refine px_aload_n (i := 0) C dX9_entry_125 rfl rfl ?_
  refine px_iconst (v := (4 : Int32)) C dX9_entry_126 rfl ?_
  refine px_bipush (v := (57 : Int32)) C dX9_entry_127 rfl ?_
  refine px_callVi (h := 1) (rc' := 0) (rs' := 0) C (HR_le hHR (Nat.le_of_ble_eq_true rfl)) hRt hnT dX9_entry_129 (gw10 59 rfl rfl) mv_X9_number_ (w9_number__ok (PCx_l C) (PCx_I C) hk) rfl rfl rfl rfl rfl (Nat.le_of_ble_eq_true rfl) (Nat.le_of_ble_eq_true rfl) (Nat.le_of_ble_eq_true rfl) (Nat.le_of_ble_eq_true rfl) ?_
  intro r22 μ21 hk
  obtain ⟨o23, hk⟩ := hk
  replace hk := hk _ rfl
  refine px_iast 4544 C dX9_entry_132 rfl rfl rfl rfl o23 ?_
  refine px_aload_n (i := 0) C dX9_entry_133 rfl rfl ?_
  refine px_bipush (v := (45 : Int32)) C dX9_entry_134 rfl ?_
  refine px_callVv (h := 1) (rc' := 0) (rs' := 0) C (HR_le hHR (Nat.le_of_ble_eq_true rfl)) hRt hnT dX9_entry_136 (gw10 67 rfl rfl) mv_X9_must (w9_must_ok (PCx_l C) (PCx_I C) hk) rfl rfl rfl rfl rfl (Nat.le_of_ble_eq_true rfl) (Nat.le_of_ble_eq_true rfl) (Nat.le_of_ble_eq_true rfl) (Nat.le_of_ble_eq_true rfl) ?_
  intro μ25 hk
  refine px_aload_n (i := 0) C dX9_entry_139 rfl rfl ?_
  refine px_getr C dX9_entry_140 fl_RX9_74 rfl rfl rfl ?_
  refine px_iconst (v := (5 : Int32)) C dX9_entry_143 rfl ?_
  refine px_aload_n (i := 0) C dX9_entry_144 rfl rfl ?_
  refine px_iconst (v := (4 : Int32)) C dX9_entry_145 rfl ?_
  refine px_bipush (v := (57 : Int32)) C dX9_entry_146 rfl ?_
  refine px_callVi (h := 1) (rc' := 0) (rs' := 0) C (HR_le hHR (Nat.le_of_ble_eq_true rfl)) hRt hnT dX9_entry_148 (gw10 59 rfl rfl) mv_X9_number_ (w9_number__ok (PCx_l C) (PCx_I C) hk) rfl rfl rfl rfl rfl (Nat.le_of_ble_eq_true rfl) (Nat.le_of_ble_eq_true rfl) (Nat.le_of_ble_eq_true rfl) (Nat.le_of_ble_eq_true rfl) ?_
  intro r27 μ26 hk
  obtain ⟨o28, hk⟩ := hk
  replace hk := hk _ rfl
  refine px_iast 4544 C dX9_entry_151 rfl rfl rfl rfl o28 ?_
  refine px_aload_n (i := 0) C dX9_entry_152 rfl rfl ?_
  refine px_getr C dX9_entry_153 fl_RX9_74 rfl rfl rfl ?_
  refine px_bipush (v := (6 : Int32)) C dX9_entry_156 rfl ?_
  refine px_aload_n (i := 0) C dX9_entry_158 rfl rfl ?_
  refine px_geti 3231 C dX9_entry_159 fl_RX9_292 rfl rfl rfl rfl ?_
  refine px_if_eq (tgt := 178) C dX9_entry_162 (by decide) (fun c38 => ?_) (fun c38 => ?_)
  · replace hk := hk.1 c38
    refine px_iconst (v := (0 : Int32)) C dX9_entry_178 rfl ?_
    exact PW_at (w9_entry_b179_ok C hRt hHR hnT hk) (And.intro rfl trivial) (Nat.le_of_ble_eq_true rfl) (Nat.le_of_ble_eq_true rfl)
  · replace hk := hk.2 c38
    refine px_aload_n (i := 0) C dX9_entry_165 rfl rfl ?_
    refine px_callVi (h := 0) (rc' := 0) (rs' := 0) C (HR_le hHR (Nat.le_of_ble_eq_true rfl)) hRt hnT dX9_entry_166 (gw10 63 rfl rfl) mv_X9_here (w9_here_ok (PCx_l C) (PCx_I C) hk) rfl rfl rfl rfl rfl (Nat.le_of_ble_eq_true rfl) (Nat.le_of_ble_eq_true rfl) (Nat.le_of_ble_eq_true rfl) (Nat.le_of_ble_eq_true rfl) ?_
    intro r36 μ35 hk
    refine px_bipush (v := (33 : Int32)) C dX9_entry_169 rfl ?_
    refine px_icmp_ne (tgt := 178) C dX9_entry_171 (by decide) (fun c37 => ?_) (fun c37 => ?_)
    · replace hk := hk.1 c37
      refine px_iconst (v := (0 : Int32)) C dX9_entry_178 rfl ?_
      exact PW_at (w9_entry_b179_ok C hRt hHR hnT hk) (And.intro rfl trivial) (Nat.le_of_ble_eq_true rfl) (Nat.le_of_ble_eq_true rfl)
    · replace hk := hk.2 c37
      refine px_iconst (v := (1 : Int32)) C dX9_entry_174 rfl ?_
      refine px_goto (tgt := 179) C dX9_entry_175 (by decide) ?_
      exact PW_at (w9_entry_b179_ok C hRt hHR hnT hk) (And.intro rfl trivial) (Nat.le_of_ble_eq_true rfl) (Nat.le_of_ble_eq_true rfl)
set_option maxRecDepth 100000 in
set_option maxHeartbeats 4000000 in
theorem w9_entry_b74_ok {G : GT} {P : Mem → Prop} {X : String → Mem → Prop} (C : PCx G cX9_entry 2 RX9) (hRt : PRt G none (qV P) X) (hHR : HR G (2)) (hnT : NoT G) {μ : Mem} {l1 : Int32} (hk : w9_entry_b74 P μ l1) : PW G 0 0 74 [some (pR 50 0), some (pI l1)] [] μ := by
  unfold w9_entry_b74 at hk
  refine px_aload_n (i := 0) C dX9_entry_74 rfl rfl ?_
  refine px_getr C dX9_entry_75 fl_RX9_74 rfl rfl rfl ?_
  refine px_iconst (v := (2 : Int32)) C dX9_entry_78 rfl ?_
  refine px_iload_n (i := 1) C dX9_entry_79 rfl rfl ?_
  refine px_if_eq (tgt := 87) C dX9_entry_80 (by decide) (fun c39 => ?_) (fun c39 => ?_)
  · replace hk := hk.1 c39
    refine px_aload_n (i := 0) C dX9_entry_87 rfl rfl ?_
    refine px_iconst (v := (2 : Int32)) C dX9_entry_88 rfl ?_
    refine px_bipush (v := (57 : Int32)) C dX9_entry_89 rfl ?_
    refine px_callVi (h := 1) (rc' := 0) (rs' := 0) C (HR_le hHR (Nat.le_of_ble_eq_true rfl)) hRt hnT dX9_entry_91 (gw10 59 rfl rfl) mv_X9_number_ (w9_number__ok (PCx_l C) (PCx_I C) hk) rfl rfl rfl rfl rfl (Nat.le_of_ble_eq_true rfl) (Nat.le_of_ble_eq_true rfl) (Nat.le_of_ble_eq_true rfl) (Nat.le_of_ble_eq_true rfl) ?_
    intro r12 μ11 hk
    exact PW_at (w9_entry_b94_ok C hRt hHR hnT hk) (And.intro rfl trivial) (Nat.le_of_ble_eq_true rfl) (Nat.le_of_ble_eq_true rfl)
  · replace hk := hk.2 c39
    refine px_iconst (v := (-1 : Int32)) C dX9_entry_83 rfl ?_
    refine px_goto (tgt := 94) C dX9_entry_84 (by decide) ?_
    exact PW_at (w9_entry_b94_ok C hRt hHR hnT hk) (And.intro rfl trivial) (Nat.le_of_ble_eq_true rfl) (Nat.le_of_ble_eq_true rfl)
set_option maxRecDepth 100000 in
set_option maxHeartbeats 4000000 in
theorem w9_entry_b59_ok {G : GT} {P : Mem → Prop} {X : String → Mem → Prop} (C : PCx G cX9_entry 2 RX9) (hRt : PRt G none (qV P) X) (hHR : HR G (2)) (hnT : NoT G) {μ : Mem} {s0 : Int32} (hk : w9_entry_b59 P μ s0) : PW G 0 0 59 [some (pR 50 0), none] [pI s0] μ := by
  unfold w9_entry_b59 at hk
  refine px_istore_n (i := 1) C dX9_entry_59 rfl (by decide) rfl ?_
  refine px_iload_n (i := 1) C dX9_entry_60 rfl rfl ?_
  refine px_if_eq (tgt := 74) C dX9_entry_61 (by decide) (fun c41 => ?_) (fun c41 => ?_)
  · replace hk := hk.1 c41
    exact PW_at (w9_entry_b74_ok C hRt hHR hnT hk) (And.intro rfl (And.intro rfl trivial)) (Nat.le_of_ble_eq_true rfl) (Nat.le_of_ble_eq_true rfl)
  · replace hk := hk.2 c41
    refine px_aload_n (i := 0) C dX9_entry_64 rfl rfl ?_
    refine px_dup C dX9_entry_65 rfl ?_
    refine px_geti 3230 C dX9_entry_66 fl_RX9_289 rfl rfl rfl rfl ?_
    refine px_iconst (v := (1 : Int32)) C dX9_entry_69 rfl ?_
    refine px_iadd C dX9_entry_70 ?_
    replace hk := hk _ rfl
    refine px_puti 3230 C dX9_entry_71 fp_RX9_289 rfl rfl rfl rfl rfl rfl ?_
    exact PW_at (w9_entry_b74_ok C hRt hHR hnT hk) (And.intro rfl (And.intro rfl trivial)) (Nat.le_of_ble_eq_true rfl) (Nat.le_of_ble_eq_true rfl)
set_option maxRecDepth 100000 in
set_option maxHeartbeats 4000000 in
theorem w9_entry_ok {l : Launch} {idx : List (Nat × Nat)} {μ : Mem} {P : Mem → Prop} {X : String → Mem → Prop} (hl : l.stackTraces = false) (hI : IdxOK idx) (hk : w9_entry_wp μ P) : PMet l yX9_entry (.code yX9_entry cX9_entry 2 none) 2 0 0 idx [pR 50 0] μ (qV P) X := by
  refine PMet_of mv_X9_entry.2.2.2.2.2.2 hl hI mv_X9_entry.2.2.2.1 rfl (Nat.le_of_ble_eq_true rfl) (fun G _ _ C hRt hHR hnT => ?_)
  show PW G 0 0 0 [some (pR 50 0), none] [] μ
  unfold w9_entry_wp at hk
  refine px_aload_n (i := 0) C dX9_entry_0 rfl rfl ?_
  refine px_getr C dX9_entry_1 fl_RX9_74 rfl rfl rfl ?_
  refine px_iconst (v := (1 : Int32)) C dX9_entry_4 rfl ?_
  refine px_aload_n (i := 0) C dX9_entry_5 rfl rfl ?_
  refine px_iconst (v := (1 : Int32)) C dX9_entry_6 rfl ?_
  refine px_bipush (v := (51 : Int32)) C dX9_entry_7 rfl ?_
  refine px_callVi (h := 1) (rc' := 0) (rs' := 0) C (HR_le hHR (Nat.le_of_ble_eq_true rfl)) hRt hnT dX9_entry_9 (gw10 59 rfl rfl) mv_X9_number_ (w9_number__ok (PCx_l C) (PCx_I C) hk) rfl rfl rfl rfl rfl (Nat.le_of_ble_eq_true rfl) (Nat.le_of_ble_eq_true rfl) (Nat.le_of_ble_eq_true rfl) (Nat.le_of_ble_eq_true rfl) ?_
  intro r2 μ1 hk
  obtain ⟨o3, hk⟩ := hk
  replace hk := hk _ rfl
  refine px_iast 4544 C dX9_entry_12 rfl rfl rfl rfl o3 ?_
  refine px_aload_n (i := 0) C dX9_entry_13 rfl rfl ?_
  refine px_bipush (v := (47 : Int32)) C dX9_entry_14 rfl ?_
  refine px_callVv (h := 1) (rc' := 0) (rs' := 0) C (HR_le hHR (Nat.le_of_ble_eq_true rfl)) hRt hnT dX9_entry_16 (gw10 67 rfl rfl) mv_X9_must (w9_must_ok (PCx_l C) (PCx_I C) hk) rfl rfl rfl rfl rfl (Nat.le_of_ble_eq_true rfl) (Nat.le_of_ble_eq_true rfl) (Nat.le_of_ble_eq_true rfl) (Nat.le_of_ble_eq_true rfl) ?_
  intro μ5 hk
  refine px_aload_n (i := 0) C dX9_entry_19 rfl rfl ?_
  refine px_getr C dX9_entry_20 fl_RX9_74 rfl rfl rfl ?_
  refine px_iconst (v := (0 : Int32)) C dX9_entry_23 rfl ?_
  refine px_aload_n (i := 0) C dX9_entry_24 rfl rfl ?_
  refine px_iconst (v := (2 : Int32)) C dX9_entry_25 rfl ?_
  refine px_bipush (v := (57 : Int32)) C dX9_entry_26 rfl ?_
  refine px_callVi (h := 1) (rc' := 0) (rs' := 0) C (HR_le hHR (Nat.le_of_ble_eq_true rfl)) hRt hnT dX9_entry_28 (gw10 59 rfl rfl) mv_X9_number_ (w9_number__ok (PCx_l C) (PCx_I C) hk) rfl rfl rfl rfl rfl (Nat.le_of_ble_eq_true rfl) (Nat.le_of_ble_eq_true rfl) (Nat.le_of_ble_eq_true rfl) (Nat.le_of_ble_eq_true rfl) ?_
  intro r7 μ6 hk
  obtain ⟨o8, hk⟩ := hk
  replace hk := hk _ rfl
  refine px_iast 4544 C dX9_entry_31 rfl rfl rfl rfl o8 ?_
  refine px_aload_n (i := 0) C dX9_entry_32 rfl rfl ?_
  refine px_bipush (v := (60 : Int32)) C dX9_entry_33 rfl ?_
  refine px_callVv (h := 1) (rc' := 0) (rs' := 0) C (HR_le hHR (Nat.le_of_ble_eq_true rfl)) hRt hnT dX9_entry_35 (gw10 67 rfl rfl) mv_X9_must (w9_must_ok (PCx_l C) (PCx_I C) hk) rfl rfl rfl rfl rfl (Nat.le_of_ble_eq_true rfl) (Nat.le_of_ble_eq_true rfl) (Nat.le_of_ble_eq_true rfl) (Nat.le_of_ble_eq_true rfl) ?_
  intro μ10 hk
  refine px_aload_n (i := 0) C dX9_entry_38 rfl rfl ?_
  refine px_geti 3231 C dX9_entry_39 fl_RX9_292 rfl rfl rfl rfl ?_
  refine px_if_eq (tgt := 58) C dX9_entry_42 (by decide) (fun c45 => ?_) (fun c45 => ?_)
  · replace hk := hk.1 c45
    refine px_iconst (v := (0 : Int32)) C dX9_entry_58 rfl ?_
    exact PW_at (w9_entry_b59_ok C hRt hHR hnT hk) (And.intro rfl trivial) (Nat.le_of_ble_eq_true rfl) (Nat.le_of_ble_eq_true rfl)
  · replace hk := hk.2 c45
    refine px_aload_n (i := 0) C dX9_entry_45 rfl rfl ?_
    refine px_callVi (h := 0) (rc' := 0) (rs' := 0) C (HR_le hHR (Nat.le_of_ble_eq_true rfl)) hRt hnT dX9_entry_46 (gw10 63 rfl rfl) mv_X9_here (w9_here_ok (PCx_l C) (PCx_I C) hk) rfl rfl rfl rfl rfl (Nat.le_of_ble_eq_true rfl) (Nat.le_of_ble_eq_true rfl) (Nat.le_of_ble_eq_true rfl) (Nat.le_of_ble_eq_true rfl) ?_
    intro r43 μ42 hk
    refine px_bipush (v := (45 : Int32)) C dX9_entry_49 rfl ?_
    refine px_icmp_ne (tgt := 58) C dX9_entry_51 (by decide) (fun c44 => ?_) (fun c44 => ?_)
    · replace hk := hk.1 c44
      refine px_iconst (v := (0 : Int32)) C dX9_entry_58 rfl ?_
      exact PW_at (w9_entry_b59_ok C hRt hHR hnT hk) (And.intro rfl trivial) (Nat.le_of_ble_eq_true rfl) (Nat.le_of_ble_eq_true rfl)
    · replace hk := hk.2 c44
      refine px_iconst (v := (1 : Int32)) C dX9_entry_54 rfl ?_
      refine px_goto (tgt := 59) C dX9_entry_55 (by decide) ?_
      exact PW_at (w9_entry_b59_ok C hRt hHR hnT hk) (And.intro rfl trivial) (Nat.le_of_ble_eq_true rfl) (Nat.le_of_ble_eq_true rfl)
theorem dX9_isText_0 : decode cX9_isText 0 = .ok (.aload_n 0, 1) := by decide +kernel
theorem dX9_isText_1 : decode cX9_isText 1 = .ok (.iconst 0, 1) := by decide +kernel
theorem dX9_isText_2 : decode cX9_isText 2 = .ok (.putfield 289, 3) := by decide +kernel
theorem dX9_isText_5 : decode cX9_isText 5 = .ok (.aload_n 0, 1) := by decide +kernel
theorem dX9_isText_6 : decode cX9_isText 6 = .ok (.aload_n 0, 1) := by decide +kernel
theorem dX9_isText_7 : decode cX9_isText 7 = .ok (.getfield 286, 3) := by decide +kernel
theorem dX9_isText_10 : decode cX9_isText 10 = .ok (.ifCond .le 7, 3) := by decide +kernel
theorem dX9_isText_13 : decode cX9_isText 13 = .ok (.iconst 1, 1) := by decide +kernel
theorem dX9_isText_14 : decode cX9_isText 14 = .ok (.goto 4, 3) := by decide +kernel
theorem dX9_isText_17 : decode cX9_isText 17 = .ok (.iconst 0, 1) := by decide +kernel
theorem dX9_isText_18 : decode cX9_isText 18 = .ok (.putfield 292, 3) := by decide +kernel
theorem dX9_isText_21 : decode cX9_isText 21 = .ok (.aload_n 0, 1) := by decide +kernel
theorem dX9_isText_22 : decode cX9_isText 22 = .ok (.getfield 292, 3) := by decide +kernel
theorem dX9_isText_25 : decode cX9_isText 25 = .ok (.ifCond .eq 21, 3) := by decide +kernel
theorem dX9_isText_28 : decode cX9_isText 28 = .ok (.aload_n 0, 1) := by decide +kernel
theorem dX9_isText_29 : decode cX9_isText 29 = .ok (.getfield 289, 3) := by decide +kernel
theorem dX9_isText_32 : decode cX9_isText 32 = .ok (.aload_n 0, 1) := by decide +kernel
theorem dX9_isText_33 : decode cX9_isText 33 = .ok (.getfield 286, 3) := by decide +kernel
theorem dX9_isText_36 : decode cX9_isText 36 = .ok (.if_icmp .ge 10, 3) := by decide +kernel
theorem dX9_isText_39 : decode cX9_isText 39 = .ok (.aload_n 0, 1) := by decide +kernel
theorem dX9_isText_40 : decode cX9_isText 40 = .ok (.invokevirtual 304, 3) := by decide +kernel
theorem dX9_isText_43 : decode cX9_isText 43 = .ok (.goto (-22), 3) := by decide +kernel
theorem dX9_isText_46 : decode cX9_isText 46 = .ok (.aload_n 0, 1) := by decide +kernel
theorem dX9_isText_47 : decode cX9_isText 47 = .ok (.getfield 292, 3) := by decide +kernel
theorem dX9_isText_50 : decode cX9_isText 50 = .ok (.ireturn, 1) := by decide +kernel
set_option maxRecDepth 100000 in
set_option maxHeartbeats 4000000 in
theorem w9_isText_b21_ok {G : GT} {P : Int32 → Mem → Prop} {X : String → Mem → Prop} (C : PCx G cX9_isText 1 RX9) (hRt : PRt G (some .boolean) (qI P) X) (hHR : HR G (3)) (hnT : NoT G) {μ : Mem} (hk : w9_isText_b21 P μ) : PW G 0 0 21 [some (pR 50 0)] [] μ := by
  refine hk (fun (μ : Mem) => PW G 0 0 21 [some (pR 50 0)] [] μ) (fun (μ : Mem) hk => ?_)
  have hR21 : ∀ (μ : Mem), PW G 0 0 21 [some (pR 50 0)] [] μ → PW G 0 0 21 [some (pR 50 0)] [] μ := fun _ h => h
  unfold w9_isText_b21_body at hk
  refine px_aload_n (i := 0) C dX9_isText_21 rfl rfl ?_
  refine px_geti 3231 C dX9_isText_22 fl_RX9_292 rfl rfl rfl rfl ?_
  refine px_if_eq (tgt := 46) C dX9_isText_25 (by decide) (fun c7 => ?_) (fun c7 => ?_)
  · replace hk := hk.1 c7
    refine px_aload_n (i := 0) C dX9_isText_46 rfl rfl ?_
    refine px_geti 3231 C dX9_isText_47 fl_RX9_292 rfl rfl rfl rfl ?_
    obtain ⟨o3, hk⟩ := hk
    exact px_iret C hRt dX9_isText_50 (nar_z o3) rfl hk
  · replace hk := hk.2 c7
    refine px_aload_n (i := 0) C dX9_isText_28 rfl rfl ?_
    refine px_geti 3230 C dX9_isText_29 fl_RX9_289 rfl rfl rfl rfl ?_
    refine px_aload_n (i := 0) C dX9_isText_32 rfl rfl ?_
    refine px_geti 3210 C dX9_isText_33 fl_RX9_286 rfl rfl rfl rfl ?_
    refine px_icmp_ge (tgt := 46) C dX9_isText_36 (by decide) (fun c6 => ?_) (fun c6 => ?_)
    · replace hk := hk.1 c6
      refine px_aload_n (i := 0) C dX9_isText_46 rfl rfl ?_
      refine px_geti 3231 C dX9_isText_47 fl_RX9_292 rfl rfl rfl rfl ?_
      obtain ⟨o4, hk⟩ := hk
      exact px_iret C hRt dX9_isText_50 (nar_z o4) rfl hk
    · replace hk := hk.2 c6
      refine px_aload_n (i := 0) C dX9_isText_39 rfl rfl ?_
      refine px_callVv (h := 2) (rc' := 0) (rs' := 0) C (HR_le hHR (Nat.le_of_ble_eq_true rfl)) hRt hnT dX9_isText_40 (gw10 55 rfl rfl) mv_X9_entry (w9_entry_ok (PCx_l C) (PCx_I C) hk) rfl rfl rfl rfl rfl (Nat.le_of_ble_eq_true rfl) (Nat.le_of_ble_eq_true rfl) (Nat.le_of_ble_eq_true rfl) (Nat.le_of_ble_eq_true rfl) ?_
      intro μ5 hk
      refine px_goto (tgt := 21) C dX9_isText_43 (by decide) ?_
      exact PW_at (hR21 _ hk) (And.intro rfl trivial) (Nat.le_of_ble_eq_true rfl) (Nat.le_of_ble_eq_true rfl)
set_option maxRecDepth 100000 in
set_option maxHeartbeats 4000000 in
theorem w9_isText_ok {l : Launch} {idx : List (Nat × Nat)} {μ : Mem} {P : Int32 → Mem → Prop} {X : String → Mem → Prop} (hl : l.stackTraces = false) (hI : IdxOK idx) (hk : w9_isText_wp μ P) : PMet l yX9_isText (.code yX9_isText cX9_isText 1 (some .boolean)) 3 0 0 idx [pR 50 0] μ (qI P) X := by
  refine PMet_of mv_X9_isText.2.2.2.2.2.2 hl hI mv_X9_isText.2.2.2.1 rfl (Nat.le_of_ble_eq_true rfl) (fun G _ _ C hRt hHR hnT => ?_)
  show PW G 0 0 0 [some (pR 50 0)] [] μ
  unfold w9_isText_wp at hk
  refine px_aload_n (i := 0) C dX9_isText_0 rfl rfl ?_
  refine px_iconst (v := (0 : Int32)) C dX9_isText_1 rfl ?_
  replace hk := hk _ rfl
  refine px_puti 3230 C dX9_isText_2 fp_RX9_289 rfl rfl rfl rfl rfl rfl ?_
  refine px_aload_n (i := 0) C dX9_isText_5 rfl rfl ?_
  refine px_aload_n (i := 0) C dX9_isText_6 rfl rfl ?_
  refine px_geti 3210 C dX9_isText_7 fl_RX9_286 rfl rfl rfl rfl ?_
  refine px_if_le (tgt := 17) C dX9_isText_10 (by decide) (fun c9 => ?_) (fun c9 => ?_)
  · replace hk := hk.1 c9
    refine px_iconst (v := (0 : Int32)) C dX9_isText_17 rfl ?_
    replace hk := hk _ rfl
    refine px_puti 3231 C dX9_isText_18 fp_RX9_292 rfl rfl rfl rfl rfl rfl ?_
    exact PW_at (w9_isText_b21_ok C hRt hHR hnT hk) (And.intro rfl trivial) (Nat.le_of_ble_eq_true rfl) (Nat.le_of_ble_eq_true rfl)
  · replace hk := hk.2 c9
    refine px_iconst (v := (1 : Int32)) C dX9_isText_13 rfl ?_
    refine px_goto (tgt := 18) C dX9_isText_14 (by decide) ?_
    replace hk := hk _ rfl
    refine px_puti 3231 C dX9_isText_18 fp_RX9_292 rfl rfl rfl rfl rfl rfl ?_
    exact PW_at (w9_isText_b21_ok C hRt hHR hnT hk) (And.intro rfl trivial) (Nat.le_of_ble_eq_true rfl) (Nat.le_of_ble_eq_true rfl)
theorem dX9_read_0 : decode cX9_read 0 = .ok (.aload_n 0, 1) := by decide +kernel
theorem dX9_read_1 : decode cX9_read 1 = .ok (.iconst 0, 1) := by decide +kernel
theorem dX9_read_2 : decode cX9_read 2 = .ok (.putfield 80, 3) := by decide +kernel
theorem dX9_read_5 : decode cX9_read 5 = .ok (.aload_n 0, 1) := by decide +kernel
theorem dX9_read_6 : decode cX9_read 6 = .ok (.invokevirtual 307, 3) := by decide +kernel
theorem dX9_read_9 : decode cX9_read 9 = .ok (.ifCond .ne 22, 3) := by decide +kernel
theorem dX9_read_12 : decode cX9_read 12 = .ok (.aload_n 0, 1) := by decide +kernel
theorem dX9_read_13 : decode cX9_read 13 = .ok (.aload_n 0, 1) := by decide +kernel
theorem dX9_read_14 : decode cX9_read 14 = .ok (.getfield 289, 3) := by decide +kernel
theorem dX9_read_17 : decode cX9_read 17 = .ok (.putfield 28, 3) := by decide +kernel
theorem dX9_read_20 : decode cX9_read 20 = .ok (.aload_n 0, 1) := by decide +kernel
theorem dX9_read_21 : decode cX9_read 21 = .ok (.iconst 0, 1) := by decide +kernel
theorem dX9_read_22 : decode cX9_read 22 = .ok (.putfield 286, 3) := by decide +kernel
theorem dX9_read_25 : decode cX9_read 25 = .ok (.aload_n 0, 1) := by decide +kernel
theorem dX9_read_26 : decode cX9_read 26 = .ok (.iconst 1, 1) := by decide +kernel
theorem dX9_read_27 : decode cX9_read 27 = .ok (.invokevirtual 203, 3) := by decide +kernel
theorem dX9_read_30 : decode cX9_read 30 = .ok (.ireturn, 1) := by decide +kernel
theorem dX9_read_31 : decode cX9_read 31 = .ok (.aload_n 0, 1) := by decide +kernel
theorem dX9_read_32 : decode cX9_read 32 = .ok (.invokevirtual 206, 3) := by decide +kernel
theorem dX9_read_35 : decode cX9_read 35 = .ok (.aload_n 0, 1) := by decide +kernel
theorem dX9_read_36 : decode cX9_read 36 = .ok (.iconst 0, 1) := by decide +kernel
theorem dX9_read_37 : decode cX9_read 37 = .ok (.putfield 289, 3) := by decide +kernel
theorem dX9_read_40 : decode cX9_read 40 = .ok (.iconst 0, 1) := by decide +kernel
theorem dX9_read_41 : decode cX9_read 41 = .ok (.istore_n 1, 1) := by decide +kernel
theorem dX9_read_42 : decode cX9_read 42 = .ok (.iconst 1, 1) := by decide +kernel
theorem dX9_read_43 : decode cX9_read 43 = .ok (.istore_n 2, 1) := by decide +kernel
theorem dX9_read_44 : decode cX9_read 44 = .ok (.iload_n 2, 1) := by decide +kernel
theorem dX9_read_45 : decode cX9_read 45 = .ok (.ifCond .eq 139, 3) := by decide +kernel
theorem dX9_read_48 : decode cX9_read 48 = .ok (.aload_n 0, 1) := by decide +kernel
theorem dX9_read_49 : decode cX9_read 49 = .ok (.getfield 289, 3) := by decide +kernel
theorem dX9_read_52 : decode cX9_read 52 = .ok (.aload_n 0, 1) := by decide +kernel
theorem dX9_read_53 : decode cX9_read 53 = .ok (.getfield 286, 3) := by decide +kernel
theorem dX9_read_56 : decode cX9_read 56 = .ok (.if_icmp .ge 128, 3) := by decide +kernel
theorem dX9_read_59 : decode cX9_read 59 = .ok (.aload_n 0, 1) := by decide +kernel
theorem dX9_read_60 : decode cX9_read 60 = .ok (.invokevirtual 304, 3) := by decide +kernel
theorem dX9_read_63 : decode cX9_read 63 = .ok (.aload_n 0, 1) := by decide +kernel
theorem dX9_read_64 : decode cX9_read 64 = .ok (.getfield 74, 3) := by decide +kernel
theorem dX9_read_67 : decode cX9_read 67 = .ok (.iconst 4, 1) := by decide +kernel
theorem dX9_read_68 : decode cX9_read 68 = .ok (.iaload, 1) := by decide +kernel
theorem dX9_read_69 : decode cX9_read 69 = .ok (.aload_n 0, 1) := by decide +kernel
theorem dX9_read_70 : decode cX9_read 70 = .ok (.getfield 74, 3) := by decide +kernel
theorem dX9_read_73 : decode cX9_read 73 = .ok (.iconst 5, 1) := by decide +kernel
theorem dX9_read_74 : decode cX9_read 74 = .ok (.iaload, 1) := by decide +kernel
theorem dX9_read_75 : decode cX9_read 75 = .ok (.if_icmp .gt 32, 3) := by decide +kernel
theorem dX9_read_78 : decode cX9_read 78 = .ok (.aload_n 0, 1) := by decide +kernel
theorem dX9_read_79 : decode cX9_read 79 = .ok (.getfield 7, 3) := by decide +kernel
theorem dX9_read_82 : decode cX9_read 82 = .ok (.iconst 0, 1) := by decide +kernel
theorem dX9_read_83 : decode cX9_read 83 = .ok (.iaload, 1) := by decide +kernel
theorem dX9_read_84 : decode cX9_read 84 = .ok (.bipush 40, 2) := by decide +kernel
theorem dX9_read_86 : decode cX9_read 86 = .ok (.if_icmp .ge 21, 3) := by decide +kernel
theorem dX9_read_89 : decode cX9_read 89 = .ok (.aload_n 0, 1) := by decide +kernel
theorem dX9_read_90 : decode cX9_read 90 = .ok (.aload_n 0, 1) := by decide +kernel
theorem dX9_read_91 : decode cX9_read 91 = .ok (.getfield 74, 3) := by decide +kernel
theorem dX9_read_94 : decode cX9_read 94 = .ok (.iconst 0, 1) := by decide +kernel
theorem dX9_read_95 : decode cX9_read 95 = .ok (.iaload, 1) := by decide +kernel
theorem dX9_read_96 : decode cX9_read 96 = .ok (.invokevirtual 87, 3) := by decide +kernel
theorem dX9_read_99 : decode cX9_read 99 = .ok (.iconst (-1), 1) := by decide +kernel
theorem dX9_read_100 : decode cX9_read 100 = .ok (.if_icmp .ne 7, 3) := by decide +kernel
theorem dX9_read_103 : decode cX9_read 103 = .ok (.iconst 1, 1) := by decide +kernel
theorem dX9_read_104 : decode cX9_read 104 = .ok (.goto 4, 3) := by decide +kernel
theorem dX9_read_107 : decode cX9_read 107 = .ok (.iconst 0, 1) := by decide +kernel
theorem dX9_read_108 : decode cX9_read 108 = .ok (.istore_n 2, 1) := by decide +kernel
theorem dX9_read_109 : decode cX9_read 109 = .ok (.iload_n 2, 1) := by decide +kernel
theorem dX9_read_110 : decode cX9_read 110 = .ok (.ifCond .eq 43, 3) := by decide +kernel
theorem dX9_read_113 : decode cX9_read 113 = .ok (.aload_n 0, 1) := by decide +kernel
theorem dX9_read_114 : decode cX9_read 114 = .ok (.aload_n 0, 1) := by decide +kernel
theorem dX9_read_115 : decode cX9_read 115 = .ok (.getfield 74, 3) := by decide +kernel
theorem dX9_read_118 : decode cX9_read 118 = .ok (.iconst 1, 1) := by decide +kernel
theorem dX9_read_119 : decode cX9_read 119 = .ok (.iaload, 1) := by decide +kernel
theorem dX9_read_120 : decode cX9_read 120 = .ok (.aload_n 0, 1) := by decide +kernel
theorem dX9_read_121 : decode cX9_read 121 = .ok (.getfield 74, 3) := by decide +kernel
theorem dX9_read_124 : decode cX9_read 124 = .ok (.iconst 0, 1) := by decide +kernel
theorem dX9_read_125 : decode cX9_read 125 = .ok (.iaload, 1) := by decide +kernel
theorem dX9_read_126 : decode cX9_read 126 = .ok (.aload_n 0, 1) := by decide +kernel
theorem dX9_read_127 : decode cX9_read 127 = .ok (.getfield 74, 3) := by decide +kernel
theorem dX9_read_130 : decode cX9_read 130 = .ok (.iconst 2, 1) := by decide +kernel
theorem dX9_read_131 : decode cX9_read 131 = .ok (.iaload, 1) := by decide +kernel
theorem dX9_read_132 : decode cX9_read 132 = .ok (.aload_n 0, 1) := by decide +kernel
theorem dX9_read_133 : decode cX9_read 133 = .ok (.getfield 74, 3) := by decide +kernel
theorem dX9_read_136 : decode cX9_read 136 = .ok (.iconst 3, 1) := by decide +kernel
theorem dX9_read_137 : decode cX9_read 137 = .ok (.iaload, 1) := by decide +kernel
theorem dX9_read_138 : decode cX9_read 138 = .ok (.aload_n 0, 1) := by decide +kernel
theorem dX9_read_139 : decode cX9_read 139 = .ok (.getfield 74, 3) := by decide +kernel
theorem dX9_read_142 : decode cX9_read 142 = .ok (.iconst 4, 1) := by decide +kernel
theorem dX9_read_143 : decode cX9_read 143 = .ok (.iaload, 1) := by decide +kernel
theorem dX9_read_144 : decode cX9_read 144 = .ok (.aload_n 0, 1) := by decide +kernel
theorem dX9_read_145 : decode cX9_read 145 = .ok (.getfield 74, 3) := by decide +kernel
theorem dX9_read_148 : decode cX9_read 148 = .ok (.iconst 5, 1) := by decide +kernel
theorem dX9_read_149 : decode cX9_read 149 = .ok (.iaload, 1) := by decide +kernel
theorem dX9_read_150 : decode cX9_read 150 = .ok (.invokevirtual 209, 3) := by decide +kernel
theorem dX9_read_153 : decode cX9_read 153 = .ok (.iload_n 2, 1) := by decide +kernel
theorem dX9_read_154 : decode cX9_read 154 = .ok (.ifCond .eq 24, 3) := by decide +kernel
theorem dX9_read_157 : decode cX9_read 157 = .ok (.aload_n 0, 1) := by decide +kernel
theorem dX9_read_158 : decode cX9_read 158 = .ok (.aload_n 0, 1) := by decide +kernel
theorem dX9_read_159 : decode cX9_read 159 = .ok (.getfield 7, 3) := by decide +kernel
theorem dX9_read_162 : decode cX9_read 162 = .ok (.iconst 0, 1) := by decide +kernel
theorem dX9_read_163 : decode cX9_read 163 = .ok (.iaload, 1) := by decide +kernel
theorem dX9_read_164 : decode cX9_read 164 = .ok (.iconst 1, 1) := by decide +kernel
theorem dX9_read_165 : decode cX9_read 165 = .ok (.isub, 1) := by decide +kernel
theorem dX9_read_166 : decode cX9_read 166 = .ok (.bipush 6, 2) := by decide +kernel
theorem dX9_read_168 : decode cX9_read 168 = .ok (.aload_n 0, 1) := by decide +kernel
theorem dX9_read_169 : decode cX9_read 169 = .ok (.getfield 74, 3) := by decide +kernel
theorem dX9_read_172 : decode cX9_read 172 = .ok (.bipush 6, 2) := by decide +kernel
theorem dX9_read_174 : decode cX9_read 174 = .ok (.iaload, 1) := by decide +kernel
theorem dX9_read_175 : decode cX9_read 175 = .ok (.invokevirtual 197, 3) := by decide +kernel
theorem dX9_read_178 : decode cX9_read 178 = .ok (.iinc 1 1, 3) := by decide +kernel
theorem dX9_read_181 : decode cX9_read 181 = .ok (.goto (-137), 3) := by decide +kernel
theorem dX9_read_184 : decode cX9_read 184 = .ok (.aload_n 0, 1) := by decide +kernel
theorem dX9_read_185 : decode cX9_read 185 = .ok (.iconst 0, 1) := by decide +kernel
theorem dX9_read_186 : decode cX9_read 186 = .ok (.putfield 286, 3) := by decide +kernel
theorem dX9_read_189 : decode cX9_read 189 = .ok (.iload_n 2, 1) := by decide +kernel
theorem dX9_read_190 : decode cX9_read 190 = .ok (.ifCond .eq 9, 3) := by decide +kernel
theorem dX9_read_193 : decode cX9_read 193 = .ok (.aload_n 0, 1) := by decide +kernel
theorem dX9_read_194 : decode cX9_read 194 = .ok (.invokevirtual 213, 3) := by decide +kernel
theorem dX9_read_197 : decode cX9_read 197 = .ok (.iload_n 1, 1) := by decide +kernel
theorem dX9_read_198 : decode cX9_read 198 = .ok (.ireturn, 1) := by decide +kernel
theorem dX9_read_199 : decode cX9_read 199 = .ok (.iconst 0, 1) := by decide +kernel
theorem dX9_read_200 : decode cX9_read 200 = .ok (.istore_n 3, 1) := by decide +kernel
theorem dX9_read_201 : decode cX9_read 201 = .ok (.iload_n 3, 1) := by decide +kernel
theorem dX9_read_202 : decode cX9_read 202 = .ok (.sipush 342, 3) := by decide +kernel
theorem dX9_read_205 : decode cX9_read 205 = .ok (.if_icmp .ge 21, 3) := by decide +kernel
theorem dX9_read_208 : decode cX9_read 208 = .ok (.aload_n 0, 1) := by decide +kernel
theorem dX9_read_209 : decode cX9_read 209 = .ok (.getfield 7, 3) := by decide +kernel
theorem dX9_read_212 : decode cX9_read 212 = .ok (.iload_n 3, 1) := by decide +kernel
theorem dX9_read_213 : decode cX9_read 213 = .ok (.aload_n 0, 1) := by decide +kernel
theorem dX9_read_214 : decode cX9_read 214 = .ok (.getfield 16, 3) := by decide +kernel
theorem dX9_read_217 : decode cX9_read 217 = .ok (.iload_n 3, 1) := by decide +kernel
theorem dX9_read_218 : decode cX9_read 218 = .ok (.iaload, 1) := by decide +kernel
theorem dX9_read_219 : decode cX9_read 219 = .ok (.iastore, 1) := by decide +kernel
theorem dX9_read_220 : decode cX9_read 220 = .ok (.iinc 3 1, 3) := by decide +kernel
theorem dX9_read_223 : decode cX9_read 223 = .ok (.goto (-22), 3) := by decide +kernel
theorem dX9_read_226 : decode cX9_read 226 = .ok (.aload_n 0, 1) := by decide +kernel
theorem dX9_read_227 : decode cX9_read 227 = .ok (.iconst 2, 1) := by decide +kernel
theorem dX9_read_228 : decode cX9_read 228 = .ok (.invokevirtual 203, 3) := by decide +kernel
theorem dX9_read_231 : decode cX9_read 231 = .ok (.ireturn, 1) := by decide +kernel
set_option maxRecDepth 100000 in
set_option maxHeartbeats 4000000 in
theorem w9_read_b201_ok {G : GT} {P : Int32 → Mem → Prop} {X : String → Mem → Prop} (C : PCx G cX9_read 4 RX9) (hRt : PRt G (some .int) (qI P) X) (hHR : HR G (4)) (hnT : NoT G) {μ : Mem} {l3 : Int32} (hk : w9_read_b201 P μ l3) : PW G 0 0 201 [some (pR 50 0), none, none, some (pI l3)] [] μ := by
  refine hk (fun (μ : Mem) (l3 : Int32) => PW G 0 0 201 [some (pR 50 0), none, none, some (pI l3)] [] μ) (fun (μ : Mem) l3 hk => ?_)
  have hR201 : ∀ (μ : Mem) (l3 : Int32), PW G 0 0 201 [some (pR 50 0), none, none, some (pI l3)] [] μ → PW G 0 0 201 [some (pR 50 0), none, none, some (pI l3)] [] μ := fun _ _ h => h
  unfold w9_read_b201_body at hk
  refine px_iload_n (i := 3) C dX9_read_201 rfl rfl ?_
  refine px_sipush (v := (342 : Int32)) C dX9_read_202 rfl ?_
  refine px_icmp_ge (tgt := 226) C dX9_read_205 (by decide) (fun c12 => ?_) (fun c12 => ?_)
  · replace hk := hk.1 c12
    refine px_aload_n (i := 0) C dX9_read_226 rfl rfl ?_
    refine px_iconst (v := (2 : Int32)) C dX9_read_227 rfl ?_
    refine px_callVi (h := 0) (rc' := 0) (rs' := 0) C (HR_le hHR (Nat.le_of_ble_eq_true rfl)) hRt hnT dX9_read_228 (gw8 144 rfl rfl) mv_X9_fails (w9_fails_ok (PCx_l C) (PCx_I C) hk) rfl rfl rfl rfl rfl (Nat.le_of_ble_eq_true rfl) (Nat.le_of_ble_eq_true rfl) (Nat.le_of_ble_eq_true rfl) (Nat.le_of_ble_eq_true rfl) ?_
    intro r8 μ7 hk
    exact px_iret C hRt dX9_read_231 rfl rfl hk
  · replace hk := hk.2 c12
    refine px_aload_n (i := 0) C dX9_read_208 rfl rfl ?_
    refine px_getr C dX9_read_209 fl_RX9_7 rfl rfl rfl ?_
    refine px_iload_n (i := 3) C dX9_read_212 rfl rfl ?_
    refine px_aload_n (i := 0) C dX9_read_213 rfl rfl ?_
    refine px_getr C dX9_read_214 fl_RX9_16 rfl rfl rfl ?_
    refine px_iload_n (i := 3) C dX9_read_217 rfl rfl ?_
    obtain ⟨o9, hk⟩ := hk
    refine px_iald 3392 C dX9_read_218 rfl rfl rfl rfl o9 ?_
    obtain ⟨o10, hk⟩ := hk
    replace hk := hk _ rfl
    refine px_iast 3264 C dX9_read_219 rfl rfl rfl rfl o10 ?_
    refine px_iinc (i := 3) (v := (1 : Int32)) C dX9_read_220 rfl rfl (by decide) rfl ?_
    refine px_goto (tgt := 201) C dX9_read_223 (by decide) ?_
    exact PW_at (hR201 _ _ hk) (And.intro rfl (And.intro rfl trivial)) (Nat.le_of_ble_eq_true rfl) (Nat.le_of_ble_eq_true rfl)
set_option maxRecDepth 100000 in
set_option maxHeartbeats 4000000 in
theorem w9_read_b184_ok {G : GT} {P : Int32 → Mem → Prop} {X : String → Mem → Prop} (C : PCx G cX9_read 4 RX9) (hRt : PRt G (some .int) (qI P) X) (hHR : HR G (4)) (hnT : NoT G) {μ : Mem} {l1 : Int32} {l2 : Int32} (hk : w9_read_b184 P μ l1 l2) : PW G 0 0 184 [some (pR 50 0), some (pI l1), some (pI l2), none] [] μ := by
  unfold w9_read_b184 at hk
  refine px_aload_n (i := 0) C dX9_read_184 rfl rfl ?_
  refine px_iconst (v := (0 : Int32)) C dX9_read_185 rfl ?_
  replace hk := hk _ rfl
  refine px_puti 3210 C dX9_read_186 fp_RX9_286 rfl rfl rfl rfl rfl rfl ?_
  refine px_iload_n (i := 2) C dX9_read_189 rfl rfl ?_
  refine px_if_eq (tgt := 199) C dX9_read_190 (by decide) (fun c14 => ?_) (fun c14 => ?_)
  · replace hk := hk.1 c14
    refine px_iconst (v := (0 : Int32)) C dX9_read_199 rfl ?_
    refine px_istore_n (i := 3) C dX9_read_200 rfl (by decide) rfl ?_
    exact PW_at (w9_read_b201_ok C hRt hHR hnT hk) (And.intro rfl (And.intro rfl trivial)) (Nat.le_of_ble_eq_true rfl) (Nat.le_of_ble_eq_true rfl)
  · replace hk := hk.2 c14
    refine px_aload_n (i := 0) C dX9_read_193 rfl rfl ?_
    refine px_callVv (h := 0) (rc' := 0) (rs' := 0) C (HR_le hHR (Nat.le_of_ble_eq_true rfl)) hRt hnT dX9_read_194 (gw8 168 rfl rfl) mv_X9_remembers (w9_remembers_ok (PCx_l C) (PCx_I C) hk) rfl rfl rfl rfl rfl (Nat.le_of_ble_eq_true rfl) (Nat.le_of_ble_eq_true rfl) (Nat.le_of_ble_eq_true rfl) (Nat.le_of_ble_eq_true rfl) ?_
    intro μ13 hk
    refine px_iload_n (i := 1) C dX9_read_197 rfl rfl ?_
    exact px_iret C hRt dX9_read_198 rfl rfl hk
set_option maxRecDepth 100000 in
set_option maxHeartbeats 4000000 in
theorem w9_read_b153_ok {G : GT} {P : Int32 → Mem → Prop} {X : String → Mem → Prop} (C : PCx G cX9_read 4 RX9) (hRt : PRt G (some .int) (qI P) X) (hHR : HR G (4)) (hnT : NoT G) {R44 : Mem → Int32 → Int32 → Prop} (hR44 : ∀ (μ : Mem) (l1 : Int32) (l2 : Int32), R44 μ l1 l2 → PW G 0 0 44 [some (pR 50 0), some (pI l1), some (pI l2), none] [] μ) {μ : Mem} {l1 : Int32} {l2 : Int32} (hk : w9_read_b153 P R44 μ l1 l2) : PW G 0 0 153 [some (pR 50 0), some (pI l1), some (pI l2), none] [] μ := by
  unfold w9_read_b153 at hk
  refine px_iload_n (i := 2) C dX9_read_153 rfl rfl ?_
  refine px_if_eq (tgt := 178) C dX9_read_154 (by decide) (fun c21 => ?_) (fun c21 => ?_)
  · replace hk := hk.1 c21
    refine px_iinc (i := 1) (v := (1 : Int32)) C dX9_read_178 rfl rfl (by decide) rfl ?_
    refine px_goto (tgt := 44) C dX9_read_181 (by decide) ?_
    exact PW_at (hR44 _ _ _ hk) (And.intro rfl (And.intro rfl (And.intro rfl trivial))) (Nat.le_of_ble_eq_true rfl) (Nat.le_of_ble_eq_true rfl)
  · replace hk := hk.2 c21
    refine px_aload_n (i := 0) C dX9_read_157 rfl rfl ?_
    refine px_aload_n (i := 0) C dX9_read_158 rfl rfl ?_
    refine px_getr C dX9_read_159 fl_RX9_7 rfl rfl rfl ?_
    refine px_iconst (v := (0 : Int32)) C dX9_read_162 rfl ?_
    obtain ⟨o18, hk⟩ := hk
    refine px_iald 3264 C dX9_read_163 rfl rfl rfl rfl o18 ?_
    refine px_iconst (v := (1 : Int32)) C dX9_read_164 rfl ?_
    refine px_isub C dX9_read_165 ?_
    refine px_bipush (v := (6 : Int32)) C dX9_read_166 rfl ?_
    refine px_aload_n (i := 0) C dX9_read_168 rfl rfl ?_
    refine px_getr C dX9_read_169 fl_RX9_74 rfl rfl rfl ?_
    refine px_bipush (v := (6 : Int32)) C dX9_read_172 rfl ?_
    obtain ⟨o19, hk⟩ := hk
    refine px_iald 4544 C dX9_read_174 rfl rfl rfl rfl o19 ?_
    refine px_callVv (h := 0) (rc' := 0) (rs' := 0) C (HR_le hHR (Nat.le_of_ble_eq_true rfl)) hRt hnT dX9_read_175 (gw8 164 rfl rfl) mv_X9_put (w9_put_ok (PCx_l C) (PCx_I C) hk) rfl rfl rfl rfl rfl (Nat.le_of_ble_eq_true rfl) (Nat.le_of_ble_eq_true rfl) (Nat.le_of_ble_eq_true rfl) (Nat.le_of_ble_eq_true rfl) ?_
    intro μ20 hk
    refine px_iinc (i := 1) (v := (1 : Int32)) C dX9_read_178 rfl rfl (by decide) rfl ?_
    refine px_goto (tgt := 44) C dX9_read_181 (by decide) ?_
    exact PW_at (hR44 _ _ _ hk) (And.intro rfl (And.intro rfl (And.intro rfl trivial))) (Nat.le_of_ble_eq_true rfl) (Nat.le_of_ble_eq_true rfl)
set_option maxRecDepth 100000 in
set_option maxHeartbeats 4000000 in
theorem w9_read_b108_ok {G : GT} {P : Int32 → Mem → Prop} {X : String → Mem → Prop} (C : PCx G cX9_read 4 RX9) (hRt : PRt G (some .int) (qI P) X) (hHR : HR G (4)) (hnT : NoT G) {R44 : Mem → Int32 → Int32 → Prop} (hR44 : ∀ (μ : Mem) (l1 : Int32) (l2 : Int32), R44 μ l1 l2 → PW G 0 0 44 [some (pR 50 0), some (pI l1), some (pI l2), none] [] μ) {μ : Mem} {l1 : Int32} {s0 : Int32} (hk : w9_read_b108 P R44 μ l1 s0) : PW G 0 0 108 [some (pR 50 0), some (pI l1), none, none] [pI s0] μ := by
  unfold w9_read_b108 at hk
  refine px_istore_n (i := 2) C dX9_read_108 rfl (by decide) rfl ?_
  refine px_iload_n (i := 2) C dX9_read_109 rfl rfl ?_
  refine px_if_eq (tgt := 153) C dX9_read_110 (by decide) (fun c29 => ?_) (fun c29 => ?_)
  · replace hk := hk.1 c29
    exact PW_at (w9_read_b153_ok C hRt hHR hnT hR44 hk) (And.intro rfl (And.intro rfl (And.intro rfl trivial))) (Nat.le_of_ble_eq_true rfl) (Nat.le_of_ble_eq_true rfl)
  · replace hk := hk.2 c29
    refine px_aload_n (i := 0) C dX9_read_113 rfl rfl ?_
    refine px_aload_n (i := 0) C dX9_read_114 rfl rfl ?_
    refine px_getr C dX9_read_115 fl_RX9_74 rfl rfl rfl ?_
    refine px_iconst (v := (1 : Int32)) C dX9_read_118 rfl ?_
    obtain ⟨o22, hk⟩ := hk
    refine px_iald 4544 C dX9_read_119 rfl rfl rfl rfl o22 ?_
    refine px_aload_n (i := 0) C dX9_read_120 rfl rfl ?_
    refine px_getr C dX9_read_121 fl_RX9_74 rfl rfl rfl ?_
    refine px_iconst (v := (0 : Int32)) C dX9_read_124 rfl ?_
    obtain ⟨o23, hk⟩ := hk
    refine px_iald 4544 C dX9_read_125 rfl rfl rfl rfl o23 ?_
    refine px_aload_n (i := 0) C dX9_read_126 rfl rfl ?_
    refine px_getr C dX9_read_127 fl_RX9_74 rfl rfl rfl ?_
    refine px_iconst (v := (2 : Int32)) C dX9_read_130 rfl ?_
    obtain ⟨o24, hk⟩ := hk
    refine px_iald 4544 C dX9_read_131 rfl rfl rfl rfl o24 ?_
    refine px_aload_n (i := 0) C dX9_read_132 rfl rfl ?_
    refine px_getr C dX9_read_133 fl_RX9_74 rfl rfl rfl ?_
    refine px_iconst (v := (3 : Int32)) C dX9_read_136 rfl ?_
    obtain ⟨o25, hk⟩ := hk
    refine px_iald 4544 C dX9_read_137 rfl rfl rfl rfl o25 ?_
    refine px_aload_n (i := 0) C dX9_read_138 rfl rfl ?_
    refine px_getr C dX9_read_139 fl_RX9_74 rfl rfl rfl ?_
    refine px_iconst (v := (4 : Int32)) C dX9_read_142 rfl ?_
    obtain ⟨o26, hk⟩ := hk
    refine px_iald 4544 C dX9_read_143 rfl rfl rfl rfl o26 ?_
    refine px_aload_n (i := 0) C dX9_read_144 rfl rfl ?_
    refine px_getr C dX9_read_145 fl_RX9_74 rfl rfl rfl ?_
    refine px_iconst (v := (5 : Int32)) C dX9_read_148 rfl ?_
    obtain ⟨o27, hk⟩ := hk
    refine px_iald 4544 C dX9_read_149 rfl rfl rfl rfl o27 ?_
    refine px_callVv (h := 1) (rc' := 0) (rs' := 0) C (HR_le hHR (Nat.le_of_ble_eq_true rfl)) hRt hnT dX9_read_150 (gw8 160 rfl rfl) mv_X9_appends (w9_appends_ok (PCx_l C) (PCx_I C) hk) rfl rfl rfl rfl rfl (Nat.le_of_ble_eq_true rfl) (Nat.le_of_ble_eq_true rfl) (Nat.le_of_ble_eq_true rfl) (Nat.le_of_ble_eq_true rfl) ?_
    intro μ28 hk
    exact PW_at (w9_read_b153_ok C hRt hHR hnT hR44 hk) (And.intro rfl (And.intro rfl (And.intro rfl trivial))) (Nat.le_of_ble_eq_true rfl) (Nat.le_of_ble_eq_true rfl)
set_option maxRecDepth 100000 in
set_option maxHeartbeats 4000000 in
theorem w9_read_b44_ok {G : GT} {P : Int32 → Mem → Prop} {X : String → Mem → Prop} (C : PCx G cX9_read 4 RX9) (hRt : PRt G (some .int) (qI P) X) (hHR : HR G (4)) (hnT : NoT G) {μ : Mem} {l1 : Int32} {l2 : Int32} (hk : w9_read_b44 P μ l1 l2) : PW G 0 0 44 [some (pR 50 0), some (pI l1), some (pI l2), none] [] μ := by
  refine hk (fun (μ : Mem) (l1 : Int32) (l2 : Int32) => PW G 0 0 44 [some (pR 50 0), some (pI l1), some (pI l2), none] [] μ) (fun (μ : Mem) l1 l2 hk => ?_)
  have hR44 : ∀ (μ : Mem) (l1 : Int32) (l2 : Int32), PW G 0 0 44 [some (pR 50 0), some (pI l1), some (pI l2), none] [] μ → PW G 0 0 44 [some (pR 50 0), some (pI l1), some (pI l2), none] [] μ := fun _ _ _ h => h
  unfold w9_read_b44_body at hk
  refine px_iload_n (i := 2) C dX9_read_44 rfl rfl ?_
  refine px_if_eq (tgt := 184) C dX9_read_45 (by decide) (fun c38 => ?_) (fun c38 => ?_)
  · replace hk := hk.1 c38
    exact PW_at (w9_read_b184_ok C hRt hHR hnT hk) (And.intro rfl (And.intro rfl (And.intro rfl trivial))) (Nat.le_of_ble_eq_true rfl) (Nat.le_of_ble_eq_true rfl)
  · replace hk := hk.2 c38
    refine px_aload_n (i := 0) C dX9_read_48 rfl rfl ?_
    refine px_geti 3230 C dX9_read_49 fl_RX9_289 rfl rfl rfl rfl ?_
    refine px_aload_n (i := 0) C dX9_read_52 rfl rfl ?_
    refine px_geti 3210 C dX9_read_53 fl_RX9_286 rfl rfl rfl rfl ?_
    refine px_icmp_ge (tgt := 184) C dX9_read_56 (by decide) (fun c37 => ?_) (fun c37 => ?_)
    · replace hk := hk.1 c37
      exact PW_at (w9_read_b184_ok C hRt hHR hnT hk) (And.intro rfl (And.intro rfl (And.intro rfl trivial))) (Nat.le_of_ble_eq_true rfl) (Nat.le_of_ble_eq_true rfl)
    · replace hk := hk.2 c37
      refine px_aload_n (i := 0) C dX9_read_59 rfl rfl ?_
      refine px_callVv (h := 2) (rc' := 0) (rs' := 0) C (HR_le hHR (Nat.le_of_ble_eq_true rfl)) hRt hnT dX9_read_60 (gw10 55 rfl rfl) mv_X9_entry (w9_entry_ok (PCx_l C) (PCx_I C) hk) rfl rfl rfl rfl rfl (Nat.le_of_ble_eq_true rfl) (Nat.le_of_ble_eq_true rfl) (Nat.le_of_ble_eq_true rfl) (Nat.le_of_ble_eq_true rfl) ?_
      intro μ15 hk
      refine px_aload_n (i := 0) C dX9_read_63 rfl rfl ?_
      refine px_getr C dX9_read_64 fl_RX9_74 rfl rfl rfl ?_
      refine px_iconst (v := (4 : Int32)) C dX9_read_67 rfl ?_
      obtain ⟨o16, hk⟩ := hk
      refine px_iald 4544 C dX9_read_68 rfl rfl rfl rfl o16 ?_
      refine px_aload_n (i := 0) C dX9_read_69 rfl rfl ?_
      refine px_getr C dX9_read_70 fl_RX9_74 rfl rfl rfl ?_
      refine px_iconst (v := (5 : Int32)) C dX9_read_73 rfl ?_
      obtain ⟨o17, hk⟩ := hk
      refine px_iald 4544 C dX9_read_74 rfl rfl rfl rfl o17 ?_
      refine px_icmp_gt (tgt := 107) C dX9_read_75 (by decide) (fun c36 => ?_) (fun c36 => ?_)
      · replace hk := hk.1 c36
        refine px_iconst (v := (0 : Int32)) C dX9_read_107 rfl ?_
        exact PW_at (w9_read_b108_ok C hRt hHR hnT hR44 hk) (And.intro rfl (And.intro rfl trivial)) (Nat.le_of_ble_eq_true rfl) (Nat.le_of_ble_eq_true rfl)
      · replace hk := hk.2 c36
        refine px_aload_n (i := 0) C dX9_read_78 rfl rfl ?_
        refine px_getr C dX9_read_79 fl_RX9_7 rfl rfl rfl ?_
        refine px_iconst (v := (0 : Int32)) C dX9_read_82 rfl ?_
        obtain ⟨o30, hk⟩ := hk
        refine px_iald 3264 C dX9_read_83 rfl rfl rfl rfl o30 ?_
        refine px_bipush (v := (40 : Int32)) C dX9_read_84 rfl ?_
        refine px_icmp_ge (tgt := 107) C dX9_read_86 (by decide) (fun c35 => ?_) (fun c35 => ?_)
        · replace hk := hk.1 c35
          refine px_iconst (v := (0 : Int32)) C dX9_read_107 rfl ?_
          exact PW_at (w9_read_b108_ok C hRt hHR hnT hR44 hk) (And.intro rfl (And.intro rfl trivial)) (Nat.le_of_ble_eq_true rfl) (Nat.le_of_ble_eq_true rfl)
        · replace hk := hk.2 c35
          refine px_aload_n (i := 0) C dX9_read_89 rfl rfl ?_
          refine px_aload_n (i := 0) C dX9_read_90 rfl rfl ?_
          refine px_getr C dX9_read_91 fl_RX9_74 rfl rfl rfl ?_
          refine px_iconst (v := (0 : Int32)) C dX9_read_94 rfl ?_
          obtain ⟨o31, hk⟩ := hk
          refine px_iald 4544 C dX9_read_95 rfl rfl rfl rfl o31 ?_
          refine px_callVi (h := 1) (rc' := 0) (rs' := 0) C (HR_le hHR (Nat.le_of_ble_eq_true rfl)) hRt hnT dX9_read_96 (gw8 148 rfl rfl) mv_X9_find (w9_find_ok (PCx_l C) (PCx_I C) hk) rfl rfl rfl rfl rfl (Nat.le_of_ble_eq_true rfl) (Nat.le_of_ble_eq_true rfl) (Nat.le_of_ble_eq_true rfl) (Nat.le_of_ble_eq_true rfl) ?_
          intro r33 μ32 hk
          refine px_iconst (v := (-1 : Int32)) C dX9_read_99 rfl ?_
          refine px_icmp_ne (tgt := 107) C dX9_read_100 (by decide) (fun c34 => ?_) (fun c34 => ?_)
          · replace hk := hk.1 c34
            refine px_iconst (v := (0 : Int32)) C dX9_read_107 rfl ?_
            exact PW_at (w9_read_b108_ok C hRt hHR hnT hR44 hk) (And.intro rfl (And.intro rfl trivial)) (Nat.le_of_ble_eq_true rfl) (Nat.le_of_ble_eq_true rfl)
          · replace hk := hk.2 c34
            refine px_iconst (v := (1 : Int32)) C dX9_read_103 rfl ?_
            refine px_goto (tgt := 108) C dX9_read_104 (by decide) ?_
            exact PW_at (w9_read_b108_ok C hRt hHR hnT hR44 hk) (And.intro rfl (And.intro rfl trivial)) (Nat.le_of_ble_eq_true rfl) (Nat.le_of_ble_eq_true rfl)
set_option maxRecDepth 100000 in
set_option maxHeartbeats 4000000 in
theorem w9_read_ok {l : Launch} {idx : List (Nat × Nat)} {μ : Mem} {P : Int32 → Mem → Prop} {X : String → Mem → Prop} (hl : l.stackTraces = false) (hI : IdxOK idx) (hk : w9_read_wp μ P) : PMet l yX9_read (.code yX9_read cX9_read 4 (some .int)) 4 0 0 idx [pR 50 0] μ (qI P) X := by
  refine PMet_of mv_X9_read.2.2.2.2.2.2 hl hI mv_X9_read.2.2.2.1 rfl (Nat.le_of_ble_eq_true rfl) (fun G _ _ C hRt hHR hnT => ?_)
  show PW G 0 0 0 [some (pR 50 0), none, none, none] [] μ
  unfold w9_read_wp at hk
  refine px_aload_n (i := 0) C dX9_read_0 rfl rfl ?_
  refine px_iconst (v := (0 : Int32)) C dX9_read_1 rfl ?_
  replace hk := hk _ rfl
  refine px_puti 3201 C dX9_read_2 fp_RX9_80 rfl rfl rfl rfl rfl rfl ?_
  refine px_aload_n (i := 0) C dX9_read_5 rfl rfl ?_
  refine px_callVi (h := 3) (rc' := 0) (rs' := 0) C (HR_le hHR (Nat.le_of_ble_eq_true rfl)) hRt hnT dX9_read_6 (gw10 51 rfl rfl) mv_X9_isText (w9_isText_ok (PCx_l C) (PCx_I C) hk) rfl rfl rfl rfl rfl (Nat.le_of_ble_eq_true rfl) (Nat.le_of_ble_eq_true rfl) (Nat.le_of_ble_eq_true rfl) (Nat.le_of_ble_eq_true rfl) ?_
  intro r3 μ2 hk
  refine px_if_ne (tgt := 31) C dX9_read_9 (by decide) (fun c43 => ?_) (fun c43 => ?_)
  · replace hk := hk.1 c43
    refine px_aload_n (i := 0) C dX9_read_31 rfl rfl ?_
    refine px_callVv (h := 0) (rc' := 0) (rs' := 0) C (HR_le hHR (Nat.le_of_ble_eq_true rfl)) hRt hnT dX9_read_32 (gw8 156 rfl rfl) mv_X9_frames (w9_frames_ok (PCx_l C) (PCx_I C) hk) rfl rfl rfl rfl rfl (Nat.le_of_ble_eq_true rfl) (Nat.le_of_ble_eq_true rfl) (Nat.le_of_ble_eq_true rfl) (Nat.le_of_ble_eq_true rfl) ?_
    intro μ4 hk
    refine px_aload_n (i := 0) C dX9_read_35 rfl rfl ?_
    refine px_iconst (v := (0 : Int32)) C dX9_read_36 rfl ?_
    replace hk := hk _ rfl
    refine px_puti 3230 C dX9_read_37 fp_RX9_289 rfl rfl rfl rfl rfl rfl ?_
    refine px_iconst (v := (0 : Int32)) C dX9_read_40 rfl ?_
    refine px_istore_n (i := 1) C dX9_read_41 rfl (by decide) rfl ?_
    refine px_iconst (v := (1 : Int32)) C dX9_read_42 rfl ?_
    refine px_istore_n (i := 2) C dX9_read_43 rfl (by decide) rfl ?_
    exact PW_at (w9_read_b44_ok C hRt hHR hnT hk) (And.intro rfl (And.intro rfl (And.intro rfl trivial))) (Nat.le_of_ble_eq_true rfl) (Nat.le_of_ble_eq_true rfl)
  · replace hk := hk.2 c43
    refine px_aload_n (i := 0) C dX9_read_12 rfl rfl ?_
    refine px_aload_n (i := 0) C dX9_read_13 rfl rfl ?_
    refine px_geti 3230 C dX9_read_14 fl_RX9_289 rfl rfl rfl rfl ?_
    replace hk := hk _ rfl
    refine px_puti 3211 C dX9_read_17 fp_RX9_28 rfl rfl rfl rfl rfl rfl ?_
    refine px_aload_n (i := 0) C dX9_read_20 rfl rfl ?_
    refine px_iconst (v := (0 : Int32)) C dX9_read_21 rfl ?_
    replace hk := hk _ rfl
    refine px_puti 3210 C dX9_read_22 fp_RX9_286 rfl rfl rfl rfl rfl rfl ?_
    refine px_aload_n (i := 0) C dX9_read_25 rfl rfl ?_
    refine px_iconst (v := (1 : Int32)) C dX9_read_26 rfl ?_
    refine px_callVi (h := 0) (rc' := 0) (rs' := 0) C (HR_le hHR (Nat.le_of_ble_eq_true rfl)) hRt hnT dX9_read_27 (gw8 144 rfl rfl) mv_X9_fails (w9_fails_ok (PCx_l C) (PCx_I C) hk) rfl rfl rfl rfl rfl (Nat.le_of_ble_eq_true rfl) (Nat.le_of_ble_eq_true rfl) (Nat.le_of_ble_eq_true rfl) (Nat.le_of_ble_eq_true rfl) ?_
    intro r42 μ41 hk
    exact px_iret C hRt dX9_read_30 rfl rfl hk
