theorem dX6_filled_0 : decode cX6_filled 0 = .ok (.iconst 0, 1) := by decide +kernel
theorem dX6_filled_1 : decode cX6_filled 1 = .ok (.istore_n 2, 1) := by decide +kernel
theorem dX6_filled_2 : decode cX6_filled 2 = .ok (.iconst 0, 1) := by decide +kernel
theorem dX6_filled_3 : decode cX6_filled 3 = .ok (.istore_n 3, 1) := by decide +kernel
theorem dX6_filled_4 : decode cX6_filled 4 = .ok (.iload_n 3, 1) := by decide +kernel
theorem dX6_filled_5 : decode cX6_filled 5 = .ok (.iconst 4, 1) := by decide +kernel
theorem dX6_filled_6 : decode cX6_filled 6 = .ok (.if_icmp .ge 22, 3) := by decide +kernel
theorem dX6_filled_9 : decode cX6_filled 9 = .ok (.aload_n 0, 1) := by decide +kernel
theorem dX6_filled_10 : decode cX6_filled 10 = .ok (.iload_n 1, 1) := by decide +kernel
theorem dX6_filled_11 : decode cX6_filled 11 = .ok (.iload_n 3, 1) := by decide +kernel
theorem dX6_filled_12 : decode cX6_filled 12 = .ok (.invokevirtual 29, 3) := by decide +kernel
theorem dX6_filled_15 : decode cX6_filled 15 = .ok (.iconst (-1), 1) := by decide +kernel
theorem dX6_filled_16 : decode cX6_filled 16 = .ok (.if_icmp .eq 6, 3) := by decide +kernel
theorem dX6_filled_19 : decode cX6_filled 19 = .ok (.iinc 2 1, 3) := by decide +kernel
theorem dX6_filled_22 : decode cX6_filled 22 = .ok (.iinc 3 1, 3) := by decide +kernel
theorem dX6_filled_25 : decode cX6_filled 25 = .ok (.goto (-21), 3) := by decide +kernel
theorem dX6_filled_28 : decode cX6_filled 28 = .ok (.iload_n 2, 1) := by decide +kernel
theorem dX6_filled_29 : decode cX6_filled 29 = .ok (.ireturn, 1) := by decide +kernel
set_option maxRecDepth 100000 in
set_option maxHeartbeats 4000000 in
theorem w6_filled_b4_ok {G : GT} {P : Int32 → Mem → Prop} {X : String → Mem → Prop} (C : PCx G cX6_filled 4 RX6) (hRt : PRt G (some .int) (qI P) X) (hHR : HR G (2)) (hnT : NoT G) {μ : Mem} {l1 : Int32} {l2 : Int32} {l3 : Int32} (hk : w6_filled_b4 P μ l1 l2 l3) : PW G 0 0 4 [some (pR 35 0), some (pI l1), some (pI l2), some (pI l3)] [] μ := by
  refine hk (fun (μ : Mem) (l1 : Int32) (l2 : Int32) (l3 : Int32) => PW G 0 0 4 [some (pR 35 0), some (pI l1), some (pI l2), some (pI l3)] [] μ) (fun (μ : Mem) l1 l2 l3 hk => ?_)
  have hR4 : ∀ (μ : Mem) (l1 : Int32) (l2 : Int32) (l3 : Int32), PW G 0 0 4 [some (pR 35 0), some (pI l1), some (pI l2), some (pI l3)] [] μ → PW G 0 0 4 [some (pR 35 0), some (pI l1), some (pI l2), some (pI l3)] [] μ := fun _ _ _ _ h => h
  unfold w6_filled_b4_body at hk
  refine px_iload_n (i := 3) C dX6_filled_4 rfl rfl ?_
  refine px_iconst (v := (4 : Int32)) C dX6_filled_5 rfl ?_
  refine px_icmp_ge (tgt := 28) C dX6_filled_6 (by decide) (fun c4 => ?_) (fun c4 => ?_)
  · replace hk := hk.1 c4
    refine px_iload_n (i := 2) C dX6_filled_28 rfl rfl ?_
    exact px_iret C hRt dX6_filled_29 rfl rfl hk
  · replace hk := hk.2 c4
    refine px_aload_n (i := 0) C dX6_filled_9 rfl rfl ?_
    refine px_iload_n (i := 1) C dX6_filled_10 rfl rfl ?_
    refine px_iload_n (i := 3) C dX6_filled_11 rfl rfl ?_
    refine px_callVi (h := 1) (rc' := 0) (rs' := 0) C (HR_le hHR (Nat.le_of_ble_eq_true rfl)) hRt hnT dX6_filled_12 (gw6 96 rfl rfl) mv_X6_traceIn (w6_traceIn_ok (PCx_l C) (PCx_I C) hk) rfl rfl rfl rfl rfl (Nat.le_of_ble_eq_true rfl) (Nat.le_of_ble_eq_true rfl) (Nat.le_of_ble_eq_true rfl) (Nat.le_of_ble_eq_true rfl) ?_
    intro r2 μ1 hk
    refine px_iconst (v := (-1 : Int32)) C dX6_filled_15 rfl ?_
    refine px_icmp_eq (tgt := 22) C dX6_filled_16 (by decide) (fun c3 => ?_) (fun c3 => ?_)
    · replace hk := hk.1 c3
      refine px_iinc (i := 3) (v := (1 : Int32)) C dX6_filled_22 rfl rfl (by decide) rfl ?_
      refine px_goto (tgt := 4) C dX6_filled_25 (by decide) ?_
      exact PW_at (hR4 _ _ _ _ hk) (And.intro rfl (And.intro rfl (And.intro rfl (And.intro rfl trivial)))) (Nat.le_of_ble_eq_true rfl) (Nat.le_of_ble_eq_true rfl)
    · replace hk := hk.2 c3
      refine px_iinc (i := 2) (v := (1 : Int32)) C dX6_filled_19 rfl rfl (by decide) rfl ?_
      refine px_iinc (i := 3) (v := (1 : Int32)) C dX6_filled_22 rfl rfl (by decide) rfl ?_
      refine px_goto (tgt := 4) C dX6_filled_25 (by decide) ?_
      exact PW_at (hR4 _ _ _ _ hk) (And.intro rfl (And.intro rfl (And.intro rfl (And.intro rfl trivial)))) (Nat.le_of_ble_eq_true rfl) (Nat.le_of_ble_eq_true rfl)
set_option maxRecDepth 100000 in
set_option maxHeartbeats 4000000 in
theorem w6_filled_ok {l : Launch} {idx : List (Nat × Nat)} {μ : Mem} {a1 : Int32} {P : Int32 → Mem → Prop} {X : String → Mem → Prop} (hl : l.stackTraces = false) (hI : IdxOK idx) (hk : w6_filled_wp μ a1 P) : PMet l yX6_filled (.code yX6_filled cX6_filled 4 (some .int)) 2 0 0 idx [pR 35 0, pI a1] μ (qI P) X := by
  refine PMet_of mv_X6_filled.2.2.2.2.2.2 hl hI mv_X6_filled.2.2.2.1 rfl (Nat.le_of_ble_eq_true rfl) (fun G _ _ C hRt hHR hnT => ?_)
  show PW G 0 0 0 [some (pR 35 0), some (pI a1), none, none] [] μ
  unfold w6_filled_wp at hk
  refine px_iconst (v := (0 : Int32)) C dX6_filled_0 rfl ?_
  refine px_istore_n (i := 2) C dX6_filled_1 rfl (by decide) rfl ?_
  refine px_iconst (v := (0 : Int32)) C dX6_filled_2 rfl ?_
  refine px_istore_n (i := 3) C dX6_filled_3 rfl (by decide) rfl ?_
  exact PW_at (w6_filled_b4_ok C hRt hHR hnT hk) (And.intro rfl (And.intro rfl (And.intro rfl (And.intro rfl trivial)))) (Nat.le_of_ble_eq_true rfl) (Nat.le_of_ble_eq_true rfl)
theorem dX7_keep_0 : decode cX7_keep 0 = .ok (.aload_n 0, 1) := by decide +kernel
theorem dX7_keep_1 : decode cX7_keep 1 = .ok (.getfield 9, 3) := by decide +kernel
theorem dX7_keep_4 : decode cX7_keep 4 = .ok (.bipush 40, 2) := by decide +kernel
theorem dX7_keep_6 : decode cX7_keep 6 = .ok (.invokestatic 59, 3) := by decide +kernel
theorem dX7_keep_9 : decode cX7_keep 9 = .ok (.ifCond .ne 4, 3) := by decide +kernel
theorem dX7_keep_12 : decode cX7_keep 12 = .ok (.return_, 1) := by decide +kernel
theorem dX7_keep_13 : decode cX7_keep 13 = .ok (.aload_n 0, 1) := by decide +kernel
theorem dX7_keep_14 : decode cX7_keep 14 = .ok (.getfield 18, 3) := by decide +kernel
theorem dX7_keep_17 : decode cX7_keep 17 = .ok (.aload_n 0, 1) := by decide +kernel
theorem dX7_keep_18 : decode cX7_keep 18 = .ok (.getfield 9, 3) := by decide +kernel
theorem dX7_keep_21 : decode cX7_keep 21 = .ok (.iload_n 1, 1) := by decide +kernel
theorem dX7_keep_22 : decode cX7_keep 22 = .ok (.invokestatic 63, 3) := by decide +kernel
theorem dX7_keep_25 : decode cX7_keep 25 = .ok (.aload_n 0, 1) := by decide +kernel
theorem dX7_keep_26 : decode cX7_keep 26 = .ok (.getfield 22, 3) := by decide +kernel
theorem dX7_keep_29 : decode cX7_keep 29 = .ok (.aload_n 0, 1) := by decide +kernel
theorem dX7_keep_30 : decode cX7_keep 30 = .ok (.getfield 9, 3) := by decide +kernel
theorem dX7_keep_33 : decode cX7_keep 33 = .ok (.iload_n 2, 1) := by decide +kernel
theorem dX7_keep_34 : decode cX7_keep 34 = .ok (.invokestatic 63, 3) := by decide +kernel
theorem dX7_keep_37 : decode cX7_keep 37 = .ok (.aload_n 0, 1) := by decide +kernel
theorem dX7_keep_38 : decode cX7_keep 38 = .ok (.getfield 25, 3) := by decide +kernel
theorem dX7_keep_41 : decode cX7_keep 41 = .ok (.aload_n 0, 1) := by decide +kernel
theorem dX7_keep_42 : decode cX7_keep 42 = .ok (.getfield 9, 3) := by decide +kernel
theorem dX7_keep_45 : decode cX7_keep 45 = .ok (.iload_n 3, 1) := by decide +kernel
theorem dX7_keep_46 : decode cX7_keep 46 = .ok (.invokestatic 63, 3) := by decide +kernel
theorem dX7_keep_49 : decode cX7_keep 49 = .ok (.aload_n 0, 1) := by decide +kernel
theorem dX7_keep_50 : decode cX7_keep 50 = .ok (.getfield 28, 3) := by decide +kernel
theorem dX7_keep_53 : decode cX7_keep 53 = .ok (.aload_n 0, 1) := by decide +kernel
theorem dX7_keep_54 : decode cX7_keep 54 = .ok (.getfield 9, 3) := by decide +kernel
theorem dX7_keep_57 : decode cX7_keep 57 = .ok (.iload 4, 2) := by decide +kernel
theorem dX7_keep_59 : decode cX7_keep 59 = .ok (.invokestatic 63, 3) := by decide +kernel
theorem dX7_keep_62 : decode cX7_keep 62 = .ok (.aload_n 0, 1) := by decide +kernel
theorem dX7_keep_63 : decode cX7_keep 63 = .ok (.getfield 31, 3) := by decide +kernel
theorem dX7_keep_66 : decode cX7_keep 66 = .ok (.aload_n 0, 1) := by decide +kernel
theorem dX7_keep_67 : decode cX7_keep 67 = .ok (.getfield 9, 3) := by decide +kernel
theorem dX7_keep_70 : decode cX7_keep 70 = .ok (.iload 5, 2) := by decide +kernel
theorem dX7_keep_72 : decode cX7_keep 72 = .ok (.invokestatic 63, 3) := by decide +kernel
theorem dX7_keep_75 : decode cX7_keep 75 = .ok (.aload_n 0, 1) := by decide +kernel
theorem dX7_keep_76 : decode cX7_keep 76 = .ok (.getfield 34, 3) := by decide +kernel
theorem dX7_keep_79 : decode cX7_keep 79 = .ok (.aload_n 0, 1) := by decide +kernel
theorem dX7_keep_80 : decode cX7_keep 80 = .ok (.getfield 9, 3) := by decide +kernel
theorem dX7_keep_83 : decode cX7_keep 83 = .ok (.iload 6, 2) := by decide +kernel
theorem dX7_keep_85 : decode cX7_keep 85 = .ok (.invokestatic 63, 3) := by decide +kernel
theorem dX7_keep_88 : decode cX7_keep 88 = .ok (.aload_n 0, 1) := by decide +kernel
theorem dX7_keep_89 : decode cX7_keep 89 = .ok (.getfield 37, 3) := by decide +kernel
theorem dX7_keep_92 : decode cX7_keep 92 = .ok (.aload_n 0, 1) := by decide +kernel
theorem dX7_keep_93 : decode cX7_keep 93 = .ok (.getfield 9, 3) := by decide +kernel
theorem dX7_keep_96 : decode cX7_keep 96 = .ok (.iload 7, 2) := by decide +kernel
theorem dX7_keep_98 : decode cX7_keep 98 = .ok (.invokestatic 67, 3) := by decide +kernel
theorem dX7_keep_101 : decode cX7_keep 101 = .ok (.aload_n 0, 1) := by decide +kernel
theorem dX7_keep_102 : decode cX7_keep 102 = .ok (.dup, 1) := by decide +kernel
theorem dX7_keep_103 : decode cX7_keep 103 = .ok (.getfield 9, 3) := by decide +kernel
theorem dX7_keep_106 : decode cX7_keep 106 = .ok (.iconst 1, 1) := by decide +kernel
theorem dX7_keep_107 : decode cX7_keep 107 = .ok (.iadd, 1) := by decide +kernel
theorem dX7_keep_108 : decode cX7_keep 108 = .ok (.putfield 9, 3) := by decide +kernel
theorem dX7_keep_111 : decode cX7_keep 111 = .ok (.return_, 1) := by decide +kernel
set_option maxRecDepth 100000 in
set_option maxHeartbeats 4000000 in
theorem w7_keep_ok {l : Launch} {idx : List (Nat × Nat)} {μ : Mem} {k : Nat} {a1 : Int32} {a2 : Int32} {a3 : Int32} {a4 : Int32} {a5 : Int32} {a6 : Int32} {a7 : Int32} {P : Mem → Prop} {X : String → Mem → Prop} (hl : l.stackTraces = false) (hI : IdxOK idx) (hk : w7_keep_wp μ k a1 a2 a3 a4 a5 a6 a7 P) : PMet l yX7_keep (.code yX7_keep cX7_keep 8 none) 1 0 0 idx [pR 0 k, pI a1, pI a2, pI a3, pI a4, pI a5, pI a6, pI a7] μ (qV P) X := by
  refine PMet_of mv_X7_keep.2.2.2.2.2.2 hl hI mv_X7_keep.2.2.2.1 rfl (Nat.le_of_ble_eq_true rfl) (fun G _ _ C hRt hHR hnT => ?_)
  show PW G 0 0 0 [some (pR 0 k), some (pI a1), some (pI a2), some (pI a3), some (pI a4), some (pI a5), some (pI a6), some (pI a7)] [] μ
  unfold w7_keep_wp at hk
  refine px_aload_n (i := 0) C dX7_keep_0 rfl rfl ?_
  refine px_geti 1 C dX7_keep_1 fl_RX7_9 rfl rfl rfl rfl ?_
  refine px_bipush (v := (40 : Int32)) C dX7_keep_4 rfl ?_
  refine px_callSNi (h := 0) (rc' := 0) (rs' := 0) C (HR_le hHR (Nat.le_of_ble_eq_true rfl)) hRt hnT dX7_keep_6 (List.mem_append_right _ (List.mem_append_left _ (List.mem_of_getElem? (i := 12) rfl))) ms_X8_isWithin (w8_isWithin_ok (PCx_l C) (PCx_I C) hk) rfl rfl (Nat.le_of_ble_eq_true rfl) (Nat.le_of_ble_eq_true rfl) (Nat.le_of_ble_eq_true rfl) (Nat.le_of_ble_eq_true rfl) ?_
  intro r2 μ1 hk
  refine px_if_ne (tgt := 13) C dX7_keep_9 (by decide) (fun c18 => ?_) (fun c18 => ?_)
  · replace hk := hk.1 c18
    refine px_aload_n (i := 0) C dX7_keep_13 rfl rfl ?_
    refine px_getr C dX7_keep_14 fl_RX7_18 rfl rfl rfl ?_
    refine px_aload_n (i := 0) C dX7_keep_17 rfl rfl ?_
    refine px_geti 1 C dX7_keep_18 fl_RX7_9 rfl rfl rfl rfl ?_
    refine px_iload_n (i := 1) C dX7_keep_21 rfl rfl ?_
    obtain ⟨o3, hk⟩ := hk
    replace hk := hk _ rfl
    refine px_callSNv (h := 0) (rc' := 0) (rs' := 0) C (HR_le hHR (Nat.le_of_ble_eq_true rfl)) hRt hnT dX7_keep_22 (List.mem_append_right _ (List.mem_append_left _ (List.mem_of_getElem? (i := 14) rfl))) ms_X8_set (set_ok (j := 1) (q := k) (n := 40) (loc := 64) (PCx_l C) (PCx_I C) rfl rfl rfl o3) rfl rfl (Nat.le_of_ble_eq_true rfl) (Nat.le_of_ble_eq_true rfl) (Nat.le_of_ble_eq_true rfl) (Nat.le_of_ble_eq_true rfl) ?_
    rintro _ rfl
    refine px_aload_n (i := 0) C dX7_keep_25 rfl rfl ?_
    refine px_getr C dX7_keep_26 fl_RX7_22 rfl rfl rfl ?_
    refine px_aload_n (i := 0) C dX7_keep_29 rfl rfl ?_
    refine px_geti 1 C dX7_keep_30 fl_RX7_9 rfl rfl rfl rfl ?_
    refine px_iload_n (i := 2) C dX7_keep_33 rfl rfl ?_
    obtain ⟨o5, hk⟩ := hk
    replace hk := hk _ rfl
    refine px_callSNv (h := 0) (rc' := 0) (rs' := 0) C (HR_le hHR (Nat.le_of_ble_eq_true rfl)) hRt hnT dX7_keep_34 (List.mem_append_right _ (List.mem_append_left _ (List.mem_of_getElem? (i := 14) rfl))) ms_X8_set (set_ok (j := 2) (q := k) (n := 40) (loc := 128) (PCx_l C) (PCx_I C) rfl rfl rfl o5) rfl rfl (Nat.le_of_ble_eq_true rfl) (Nat.le_of_ble_eq_true rfl) (Nat.le_of_ble_eq_true rfl) (Nat.le_of_ble_eq_true rfl) ?_
    rintro _ rfl
    refine px_aload_n (i := 0) C dX7_keep_37 rfl rfl ?_
    refine px_getr C dX7_keep_38 fl_RX7_25 rfl rfl rfl ?_
    refine px_aload_n (i := 0) C dX7_keep_41 rfl rfl ?_
    refine px_geti 1 C dX7_keep_42 fl_RX7_9 rfl rfl rfl rfl ?_
    refine px_iload_n (i := 3) C dX7_keep_45 rfl rfl ?_
    obtain ⟨o7, hk⟩ := hk
    replace hk := hk _ rfl
    refine px_callSNv (h := 0) (rc' := 0) (rs' := 0) C (HR_le hHR (Nat.le_of_ble_eq_true rfl)) hRt hnT dX7_keep_46 (List.mem_append_right _ (List.mem_append_left _ (List.mem_of_getElem? (i := 14) rfl))) ms_X8_set (set_ok (j := 3) (q := k) (n := 40) (loc := 192) (PCx_l C) (PCx_I C) rfl rfl rfl o7) rfl rfl (Nat.le_of_ble_eq_true rfl) (Nat.le_of_ble_eq_true rfl) (Nat.le_of_ble_eq_true rfl) (Nat.le_of_ble_eq_true rfl) ?_
    rintro _ rfl
    refine px_aload_n (i := 0) C dX7_keep_49 rfl rfl ?_
    refine px_getr C dX7_keep_50 fl_RX7_28 rfl rfl rfl ?_
    refine px_aload_n (i := 0) C dX7_keep_53 rfl rfl ?_
    refine px_geti 1 C dX7_keep_54 fl_RX7_9 rfl rfl rfl rfl ?_
    refine px_iload (i := 4) C dX7_keep_57 rfl ?_
    obtain ⟨o9, hk⟩ := hk
    replace hk := hk _ rfl
    refine px_callSNv (h := 0) (rc' := 0) (rs' := 0) C (HR_le hHR (Nat.le_of_ble_eq_true rfl)) hRt hnT dX7_keep_59 (List.mem_append_right _ (List.mem_append_left _ (List.mem_of_getElem? (i := 14) rfl))) ms_X8_set (set_ok (j := 4) (q := k) (n := 40) (loc := 256) (PCx_l C) (PCx_I C) rfl rfl rfl o9) rfl rfl (Nat.le_of_ble_eq_true rfl) (Nat.le_of_ble_eq_true rfl) (Nat.le_of_ble_eq_true rfl) (Nat.le_of_ble_eq_true rfl) ?_
    rintro _ rfl
    refine px_aload_n (i := 0) C dX7_keep_62 rfl rfl ?_
    refine px_getr C dX7_keep_63 fl_RX7_31 rfl rfl rfl ?_
    refine px_aload_n (i := 0) C dX7_keep_66 rfl rfl ?_
    refine px_geti 1 C dX7_keep_67 fl_RX7_9 rfl rfl rfl rfl ?_
    refine px_iload (i := 5) C dX7_keep_70 rfl ?_
    obtain ⟨o11, hk⟩ := hk
    replace hk := hk _ rfl
    refine px_callSNv (h := 0) (rc' := 0) (rs' := 0) C (HR_le hHR (Nat.le_of_ble_eq_true rfl)) hRt hnT dX7_keep_72 (List.mem_append_right _ (List.mem_append_left _ (List.mem_of_getElem? (i := 14) rfl))) ms_X8_set (set_ok (j := 5) (q := k) (n := 40) (loc := 320) (PCx_l C) (PCx_I C) rfl rfl rfl o11) rfl rfl (Nat.le_of_ble_eq_true rfl) (Nat.le_of_ble_eq_true rfl) (Nat.le_of_ble_eq_true rfl) (Nat.le_of_ble_eq_true rfl) ?_
    rintro _ rfl
    refine px_aload_n (i := 0) C dX7_keep_75 rfl rfl ?_
    refine px_getr C dX7_keep_76 fl_RX7_34 rfl rfl rfl ?_
    refine px_aload_n (i := 0) C dX7_keep_79 rfl rfl ?_
    refine px_geti 1 C dX7_keep_80 fl_RX7_9 rfl rfl rfl rfl ?_
    refine px_iload (i := 6) C dX7_keep_83 rfl ?_
    obtain ⟨o13, hk⟩ := hk
    replace hk := hk _ rfl
    refine px_callSNv (h := 0) (rc' := 0) (rs' := 0) C (HR_le hHR (Nat.le_of_ble_eq_true rfl)) hRt hnT dX7_keep_85 (List.mem_append_right _ (List.mem_append_left _ (List.mem_of_getElem? (i := 14) rfl))) ms_X8_set (set_ok (j := 6) (q := k) (n := 40) (loc := 384) (PCx_l C) (PCx_I C) rfl rfl rfl o13) rfl rfl (Nat.le_of_ble_eq_true rfl) (Nat.le_of_ble_eq_true rfl) (Nat.le_of_ble_eq_true rfl) (Nat.le_of_ble_eq_true rfl) ?_
    rintro _ rfl
    refine px_aload_n (i := 0) C dX7_keep_88 rfl rfl ?_
    refine px_getr C dX7_keep_89 fl_RX7_37 rfl rfl rfl ?_
    refine px_aload_n (i := 0) C dX7_keep_92 rfl rfl ?_
    refine px_geti 1 C dX7_keep_93 fl_RX7_9 rfl rfl rfl rfl ?_
    refine px_iload (i := 7) C dX7_keep_96 rfl ?_
    obtain ⟨o15, hk⟩ := hk
    replace hk := hk _ rfl
    refine px_callSNv (h := 0) (rc' := 0) (rs' := 0) C (HR_le hHR (Nat.le_of_ble_eq_true rfl)) hRt hnT dX7_keep_98 (List.mem_append_right _ (List.mem_append_left _ (List.mem_of_getElem? (i := 15) rfl))) ms_X8_setFlag (setFlag_ok (j := 7) (q := k) (n := 40) (loc := 448) (PCx_l C) (PCx_I C) rfl rfl rfl o15) rfl rfl (Nat.le_of_ble_eq_true rfl) (Nat.le_of_ble_eq_true rfl) (Nat.le_of_ble_eq_true rfl) (Nat.le_of_ble_eq_true rfl) ?_
    rintro _ rfl
    refine px_aload_n (i := 0) C dX7_keep_101 rfl rfl ?_
    refine px_dup C dX7_keep_102 rfl ?_
    refine px_geti 1 C dX7_keep_103 fl_RX7_9 rfl rfl rfl rfl ?_
    refine px_iconst (v := (1 : Int32)) C dX7_keep_106 rfl ?_
    refine px_iadd C dX7_keep_107 ?_
    replace hk := hk _ rfl
    refine px_puti 1 C dX7_keep_108 fp_RX7_9 rfl rfl rfl rfl rfl rfl ?_
    exact px_vret C hRt dX7_keep_111 rfl hk
  · replace hk := hk.2 c18
    exact px_vret C hRt dX7_keep_12 rfl hk
theorem dX7_keepCopy_0 : decode cX7_keepCopy 0 = .ok (.iload_n 2, 1) := by decide +kernel
theorem dX7_keepCopy_1 : decode cX7_keepCopy 1 = .ok (.bipush 40, 2) := by decide +kernel
theorem dX7_keepCopy_3 : decode cX7_keepCopy 3 = .ok (.invokestatic 59, 3) := by decide +kernel
theorem dX7_keepCopy_6 : decode cX7_keepCopy 6 = .ok (.ifCond .eq 63, 3) := by decide +kernel
theorem dX7_keepCopy_9 : decode cX7_keepCopy 9 = .ok (.aload_n 0, 1) := by decide +kernel
theorem dX7_keepCopy_10 : decode cX7_keepCopy 10 = .ok (.aload_n 1, 1) := by decide +kernel
theorem dX7_keepCopy_11 : decode cX7_keepCopy 11 = .ok (.getfield 18, 3) := by decide +kernel
theorem dX7_keepCopy_14 : decode cX7_keepCopy 14 = .ok (.iload_n 2, 1) := by decide +kernel
theorem dX7_keepCopy_15 : decode cX7_keepCopy 15 = .ok (.invokestatic 51, 3) := by decide +kernel
theorem dX7_keepCopy_18 : decode cX7_keepCopy 18 = .ok (.aload_n 1, 1) := by decide +kernel
theorem dX7_keepCopy_19 : decode cX7_keepCopy 19 = .ok (.getfield 22, 3) := by decide +kernel
theorem dX7_keepCopy_22 : decode cX7_keepCopy 22 = .ok (.iload_n 2, 1) := by decide +kernel
theorem dX7_keepCopy_23 : decode cX7_keepCopy 23 = .ok (.invokestatic 51, 3) := by decide +kernel
theorem dX7_keepCopy_26 : decode cX7_keepCopy 26 = .ok (.aload_n 1, 1) := by decide +kernel
theorem dX7_keepCopy_27 : decode cX7_keepCopy 27 = .ok (.getfield 25, 3) := by decide +kernel
theorem dX7_keepCopy_30 : decode cX7_keepCopy 30 = .ok (.iload_n 2, 1) := by decide +kernel
theorem dX7_keepCopy_31 : decode cX7_keepCopy 31 = .ok (.invokestatic 51, 3) := by decide +kernel
theorem dX7_keepCopy_34 : decode cX7_keepCopy 34 = .ok (.aload_n 1, 1) := by decide +kernel
theorem dX7_keepCopy_35 : decode cX7_keepCopy 35 = .ok (.getfield 28, 3) := by decide +kernel
theorem dX7_keepCopy_38 : decode cX7_keepCopy 38 = .ok (.iload_n 2, 1) := by decide +kernel
theorem dX7_keepCopy_39 : decode cX7_keepCopy 39 = .ok (.invokestatic 51, 3) := by decide +kernel
theorem dX7_keepCopy_42 : decode cX7_keepCopy 42 = .ok (.aload_n 1, 1) := by decide +kernel
theorem dX7_keepCopy_43 : decode cX7_keepCopy 43 = .ok (.getfield 31, 3) := by decide +kernel
theorem dX7_keepCopy_46 : decode cX7_keepCopy 46 = .ok (.iload_n 2, 1) := by decide +kernel
theorem dX7_keepCopy_47 : decode cX7_keepCopy 47 = .ok (.invokestatic 51, 3) := by decide +kernel
theorem dX7_keepCopy_50 : decode cX7_keepCopy 50 = .ok (.aload_n 1, 1) := by decide +kernel
theorem dX7_keepCopy_51 : decode cX7_keepCopy 51 = .ok (.getfield 34, 3) := by decide +kernel
theorem dX7_keepCopy_54 : decode cX7_keepCopy 54 = .ok (.iload_n 2, 1) := by decide +kernel
theorem dX7_keepCopy_55 : decode cX7_keepCopy 55 = .ok (.invokestatic 51, 3) := by decide +kernel
theorem dX7_keepCopy_58 : decode cX7_keepCopy 58 = .ok (.aload_n 1, 1) := by decide +kernel
theorem dX7_keepCopy_59 : decode cX7_keepCopy 59 = .ok (.getfield 37, 3) := by decide +kernel
theorem dX7_keepCopy_62 : decode cX7_keepCopy 62 = .ok (.iload_n 2, 1) := by decide +kernel
theorem dX7_keepCopy_63 : decode cX7_keepCopy 63 = .ok (.invokestatic 71, 3) := by decide +kernel
theorem dX7_keepCopy_66 : decode cX7_keepCopy 66 = .ok (.invokevirtual 75, 3) := by decide +kernel
theorem dX7_keepCopy_69 : decode cX7_keepCopy 69 = .ok (.return_, 1) := by decide +kernel
set_option maxRecDepth 100000 in
set_option maxHeartbeats 4000000 in
theorem w7_keepCopy_ok {l : Launch} {idx : List (Nat × Nat)} {μ : Mem} {k : Nat} {k1 : Nat} {a2 : Int32} {P : Mem → Prop} {X : String → Mem → Prop} (hl : l.stackTraces = false) (hI : IdxOK idx) (hk : w7_keepCopy_wp μ k k1 a2 P) : PMet l yX7_keepCopy (.code yX7_keepCopy cX7_keepCopy 3 none) 2 0 0 idx [pR 0 k, pR 0 k1, pI a2] μ (qV P) X := by
  refine PMet_of mv_X7_keepCopy.2.2.2.2.2.2 hl hI mv_X7_keepCopy.2.2.2.1 rfl (Nat.le_of_ble_eq_true rfl) (fun G _ _ C hRt hHR hnT => ?_)
  show PW G 0 0 0 [some (pR 0 k), some (pR 0 k1), some (pI a2)] [] μ
  unfold w7_keepCopy_wp at hk
  refine px_iload_n (i := 2) C dX7_keepCopy_0 rfl rfl ?_
  refine px_bipush (v := (40 : Int32)) C dX7_keepCopy_1 rfl ?_
  refine px_callSNi (h := 0) (rc' := 0) (rs' := 0) C (HR_le hHR (Nat.le_of_ble_eq_true rfl)) hRt hnT dX7_keepCopy_3 (List.mem_append_right _ (List.mem_append_left _ (List.mem_of_getElem? (i := 12) rfl))) ms_X8_isWithin (w8_isWithin_ok (PCx_l C) (PCx_I C) hk) rfl rfl (Nat.le_of_ble_eq_true rfl) (Nat.le_of_ble_eq_true rfl) (Nat.le_of_ble_eq_true rfl) (Nat.le_of_ble_eq_true rfl) ?_
  intro r2 μ1 hk
  refine px_if_eq (tgt := 69) C dX7_keepCopy_6 (by decide) (fun c12 => ?_) (fun c12 => ?_)
  · replace hk := hk.1 c12
    exact px_vret C hRt dX7_keepCopy_69 rfl hk
  · replace hk := hk.2 c12
    refine px_aload_n (i := 0) C dX7_keepCopy_9 rfl rfl ?_
    refine px_aload_n (i := 1) C dX7_keepCopy_10 rfl rfl ?_
    refine px_getr C dX7_keepCopy_11 fl_RX7_18 rfl rfl rfl ?_
    refine px_iload_n (i := 2) C dX7_keepCopy_14 rfl rfl ?_
    obtain ⟨o3, hk⟩ := hk
    refine px_callSNi (h := 0) (rc' := 0) (rs' := 0) C (HR_le hHR (Nat.le_of_ble_eq_true rfl)) hRt hnT dX7_keepCopy_15 (List.mem_append_right _ (List.mem_append_left _ (List.mem_of_getElem? (i := 3) rfl))) ms_X8_at (at_ok (j := 1) (q := k1) (n := 40) (loc := 64) (PCx_l C) (PCx_I C) rfl rfl rfl o3) rfl rfl (Nat.le_of_ble_eq_true rfl) (Nat.le_of_ble_eq_true rfl) (Nat.le_of_ble_eq_true rfl) (Nat.le_of_ble_eq_true rfl) ?_
    rintro _ _ ⟨rfl, rfl⟩
    refine px_aload_n (i := 1) C dX7_keepCopy_18 rfl rfl ?_
    refine px_getr C dX7_keepCopy_19 fl_RX7_22 rfl rfl rfl ?_
    refine px_iload_n (i := 2) C dX7_keepCopy_22 rfl rfl ?_
    obtain ⟨o4, hk⟩ := hk
    refine px_callSNi (h := 0) (rc' := 0) (rs' := 0) C (HR_le hHR (Nat.le_of_ble_eq_true rfl)) hRt hnT dX7_keepCopy_23 (List.mem_append_right _ (List.mem_append_left _ (List.mem_of_getElem? (i := 3) rfl))) ms_X8_at (at_ok (j := 2) (q := k1) (n := 40) (loc := 128) (PCx_l C) (PCx_I C) rfl rfl rfl o4) rfl rfl (Nat.le_of_ble_eq_true rfl) (Nat.le_of_ble_eq_true rfl) (Nat.le_of_ble_eq_true rfl) (Nat.le_of_ble_eq_true rfl) ?_
    rintro _ _ ⟨rfl, rfl⟩
    refine px_aload_n (i := 1) C dX7_keepCopy_26 rfl rfl ?_
    refine px_getr C dX7_keepCopy_27 fl_RX7_25 rfl rfl rfl ?_
    refine px_iload_n (i := 2) C dX7_keepCopy_30 rfl rfl ?_
    obtain ⟨o5, hk⟩ := hk
    refine px_callSNi (h := 0) (rc' := 0) (rs' := 0) C (HR_le hHR (Nat.le_of_ble_eq_true rfl)) hRt hnT dX7_keepCopy_31 (List.mem_append_right _ (List.mem_append_left _ (List.mem_of_getElem? (i := 3) rfl))) ms_X8_at (at_ok (j := 3) (q := k1) (n := 40) (loc := 192) (PCx_l C) (PCx_I C) rfl rfl rfl o5) rfl rfl (Nat.le_of_ble_eq_true rfl) (Nat.le_of_ble_eq_true rfl) (Nat.le_of_ble_eq_true rfl) (Nat.le_of_ble_eq_true rfl) ?_
    rintro _ _ ⟨rfl, rfl⟩
    refine px_aload_n (i := 1) C dX7_keepCopy_34 rfl rfl ?_
    refine px_getr C dX7_keepCopy_35 fl_RX7_28 rfl rfl rfl ?_
    refine px_iload_n (i := 2) C dX7_keepCopy_38 rfl rfl ?_
    obtain ⟨o6, hk⟩ := hk
    refine px_callSNi (h := 0) (rc' := 0) (rs' := 0) C (HR_le hHR (Nat.le_of_ble_eq_true rfl)) hRt hnT dX7_keepCopy_39 (List.mem_append_right _ (List.mem_append_left _ (List.mem_of_getElem? (i := 3) rfl))) ms_X8_at (at_ok (j := 4) (q := k1) (n := 40) (loc := 256) (PCx_l C) (PCx_I C) rfl rfl rfl o6) rfl rfl (Nat.le_of_ble_eq_true rfl) (Nat.le_of_ble_eq_true rfl) (Nat.le_of_ble_eq_true rfl) (Nat.le_of_ble_eq_true rfl) ?_
    rintro _ _ ⟨rfl, rfl⟩
    refine px_aload_n (i := 1) C dX7_keepCopy_42 rfl rfl ?_
    refine px_getr C dX7_keepCopy_43 fl_RX7_31 rfl rfl rfl ?_
    refine px_iload_n (i := 2) C dX7_keepCopy_46 rfl rfl ?_
    obtain ⟨o7, hk⟩ := hk
    refine px_callSNi (h := 0) (rc' := 0) (rs' := 0) C (HR_le hHR (Nat.le_of_ble_eq_true rfl)) hRt hnT dX7_keepCopy_47 (List.mem_append_right _ (List.mem_append_left _ (List.mem_of_getElem? (i := 3) rfl))) ms_X8_at (at_ok (j := 5) (q := k1) (n := 40) (loc := 320) (PCx_l C) (PCx_I C) rfl rfl rfl o7) rfl rfl (Nat.le_of_ble_eq_true rfl) (Nat.le_of_ble_eq_true rfl) (Nat.le_of_ble_eq_true rfl) (Nat.le_of_ble_eq_true rfl) ?_
    rintro _ _ ⟨rfl, rfl⟩
    refine px_aload_n (i := 1) C dX7_keepCopy_50 rfl rfl ?_
    refine px_getr C dX7_keepCopy_51 fl_RX7_34 rfl rfl rfl ?_
    refine px_iload_n (i := 2) C dX7_keepCopy_54 rfl rfl ?_
    obtain ⟨o8, hk⟩ := hk
    refine px_callSNi (h := 0) (rc' := 0) (rs' := 0) C (HR_le hHR (Nat.le_of_ble_eq_true rfl)) hRt hnT dX7_keepCopy_55 (List.mem_append_right _ (List.mem_append_left _ (List.mem_of_getElem? (i := 3) rfl))) ms_X8_at (at_ok (j := 6) (q := k1) (n := 40) (loc := 384) (PCx_l C) (PCx_I C) rfl rfl rfl o8) rfl rfl (Nat.le_of_ble_eq_true rfl) (Nat.le_of_ble_eq_true rfl) (Nat.le_of_ble_eq_true rfl) (Nat.le_of_ble_eq_true rfl) ?_
    rintro _ _ ⟨rfl, rfl⟩
    refine px_aload_n (i := 1) C dX7_keepCopy_58 rfl rfl ?_
    refine px_getr C dX7_keepCopy_59 fl_RX7_37 rfl rfl rfl ?_
    refine px_iload_n (i := 2) C dX7_keepCopy_62 rfl rfl ?_
    obtain ⟨o9, o10, hk⟩ := hk
    refine px_callSNi (h := 0) (rc' := 0) (rs' := 0) C (HR_le hHR (Nat.le_of_ble_eq_true rfl)) hRt hnT dX7_keepCopy_63 (List.mem_append_right _ (List.mem_append_left _ (List.mem_of_getElem? (i := 13) rfl))) ms_X8_flagAt (flagAt_ok2 (j := 7) (q := k1) (n := 40) (loc := 448) (PCx_l C) (PCx_I C) rfl rfl rfl o9 o10) rfl rfl (Nat.le_of_ble_eq_true rfl) (Nat.le_of_ble_eq_true rfl) (Nat.le_of_ble_eq_true rfl) (Nat.le_of_ble_eq_true rfl) ?_
    rintro _ _ ⟨rfl, rfl⟩
    refine px_callVv (h := 1) (rc' := 0) (rs' := 0) C (HR_le hHR (Nat.le_of_ble_eq_true rfl)) hRt hnT dX7_keepCopy_66 (gw3 46 rfl rfl) mv_X7_keep (w7_keep_ok (PCx_l C) (PCx_I C) hk) rfl rfl rfl rfl rfl (Nat.le_of_ble_eq_true rfl) (Nat.le_of_ble_eq_true rfl) (Nat.le_of_ble_eq_true rfl) (Nat.le_of_ble_eq_true rfl) ?_
    intro μ11 hk
    exact px_vret C hRt dX7_keepCopy_69 rfl hk
theorem dX7_keepLink_0 : decode cX7_keepLink 0 = .ok (.aload_n 0, 1) := by decide +kernel
theorem dX7_keepLink_1 : decode cX7_keepLink 1 = .ok (.getfield 15, 3) := by decide +kernel
theorem dX7_keepLink_4 : decode cX7_keepLink 4 = .ok (.bipush 30, 2) := by decide +kernel
theorem dX7_keepLink_6 : decode cX7_keepLink 6 = .ok (.invokestatic 59, 3) := by decide +kernel
theorem dX7_keepLink_9 : decode cX7_keepLink 9 = .ok (.ifCond .eq 37, 3) := by decide +kernel
theorem dX7_keepLink_12 : decode cX7_keepLink 12 = .ok (.aload_n 0, 1) := by decide +kernel
theorem dX7_keepLink_13 : decode cX7_keepLink 13 = .ok (.getfield 41, 3) := by decide +kernel
theorem dX7_keepLink_16 : decode cX7_keepLink 16 = .ok (.aload_n 0, 1) := by decide +kernel
theorem dX7_keepLink_17 : decode cX7_keepLink 17 = .ok (.getfield 15, 3) := by decide +kernel
theorem dX7_keepLink_20 : decode cX7_keepLink 20 = .ok (.iload_n 1, 1) := by decide +kernel
theorem dX7_keepLink_21 : decode cX7_keepLink 21 = .ok (.invokestatic 63, 3) := by decide +kernel
theorem dX7_keepLink_24 : decode cX7_keepLink 24 = .ok (.aload_n 0, 1) := by decide +kernel
theorem dX7_keepLink_25 : decode cX7_keepLink 25 = .ok (.getfield 44, 3) := by decide +kernel
theorem dX7_keepLink_28 : decode cX7_keepLink 28 = .ok (.aload_n 0, 1) := by decide +kernel
theorem dX7_keepLink_29 : decode cX7_keepLink 29 = .ok (.getfield 15, 3) := by decide +kernel
theorem dX7_keepLink_32 : decode cX7_keepLink 32 = .ok (.iload_n 2, 1) := by decide +kernel
theorem dX7_keepLink_33 : decode cX7_keepLink 33 = .ok (.invokestatic 63, 3) := by decide +kernel
theorem dX7_keepLink_36 : decode cX7_keepLink 36 = .ok (.aload_n 0, 1) := by decide +kernel
theorem dX7_keepLink_37 : decode cX7_keepLink 37 = .ok (.dup, 1) := by decide +kernel
theorem dX7_keepLink_38 : decode cX7_keepLink 38 = .ok (.getfield 15, 3) := by decide +kernel
theorem dX7_keepLink_41 : decode cX7_keepLink 41 = .ok (.iconst 1, 1) := by decide +kernel
theorem dX7_keepLink_42 : decode cX7_keepLink 42 = .ok (.iadd, 1) := by decide +kernel
theorem dX7_keepLink_43 : decode cX7_keepLink 43 = .ok (.putfield 15, 3) := by decide +kernel
theorem dX7_keepLink_46 : decode cX7_keepLink 46 = .ok (.return_, 1) := by decide +kernel
set_option maxRecDepth 100000 in
set_option maxHeartbeats 4000000 in
theorem w7_keepLink_ok {l : Launch} {idx : List (Nat × Nat)} {μ : Mem} {k : Nat} {a1 : Int32} {a2 : Int32} {P : Mem → Prop} {X : String → Mem → Prop} (hl : l.stackTraces = false) (hI : IdxOK idx) (hk : w7_keepLink_wp μ k a1 a2 P) : PMet l yX7_keepLink (.code yX7_keepLink cX7_keepLink 3 none) 1 0 0 idx [pR 0 k, pI a1, pI a2] μ (qV P) X := by
  refine PMet_of mv_X7_keepLink.2.2.2.2.2.2 hl hI mv_X7_keepLink.2.2.2.1 rfl (Nat.le_of_ble_eq_true rfl) (fun G _ _ C hRt hHR hnT => ?_)
  show PW G 0 0 0 [some (pR 0 k), some (pI a1), some (pI a2)] [] μ
  unfold w7_keepLink_wp at hk
  refine px_aload_n (i := 0) C dX7_keepLink_0 rfl rfl ?_
  refine px_geti 2 C dX7_keepLink_1 fl_RX7_15 rfl rfl rfl rfl ?_
  refine px_bipush (v := (30 : Int32)) C dX7_keepLink_4 rfl ?_
  refine px_callSNi (h := 0) (rc' := 0) (rs' := 0) C (HR_le hHR (Nat.le_of_ble_eq_true rfl)) hRt hnT dX7_keepLink_6 (List.mem_append_right _ (List.mem_append_left _ (List.mem_of_getElem? (i := 12) rfl))) ms_X8_isWithin (w8_isWithin_ok (PCx_l C) (PCx_I C) hk) rfl rfl (Nat.le_of_ble_eq_true rfl) (Nat.le_of_ble_eq_true rfl) (Nat.le_of_ble_eq_true rfl) (Nat.le_of_ble_eq_true rfl) ?_
  intro r2 μ1 hk
  refine px_if_eq (tgt := 46) C dX7_keepLink_9 (by decide) (fun c8 => ?_) (fun c8 => ?_)
  · replace hk := hk.1 c8
    exact px_vret C hRt dX7_keepLink_46 rfl hk
  · replace hk := hk.2 c8
    refine px_aload_n (i := 0) C dX7_keepLink_12 rfl rfl ?_
    refine px_getr C dX7_keepLink_13 fl_RX7_41 rfl rfl rfl ?_
    refine px_aload_n (i := 0) C dX7_keepLink_16 rfl rfl ?_
    refine px_geti 2 C dX7_keepLink_17 fl_RX7_15 rfl rfl rfl rfl ?_
    refine px_iload_n (i := 1) C dX7_keepLink_20 rfl rfl ?_
    obtain ⟨o3, hk⟩ := hk
    replace hk := hk _ rfl
    refine px_callSNv (h := 0) (rc' := 0) (rs' := 0) C (HR_le hHR (Nat.le_of_ble_eq_true rfl)) hRt hnT dX7_keepLink_21 (List.mem_append_right _ (List.mem_append_left _ (List.mem_of_getElem? (i := 14) rfl))) ms_X8_set (set_ok (j := 8) (q := k) (n := 30) (loc := 512) (PCx_l C) (PCx_I C) rfl rfl rfl o3) rfl rfl (Nat.le_of_ble_eq_true rfl) (Nat.le_of_ble_eq_true rfl) (Nat.le_of_ble_eq_true rfl) (Nat.le_of_ble_eq_true rfl) ?_
    rintro _ rfl
    refine px_aload_n (i := 0) C dX7_keepLink_24 rfl rfl ?_
    refine px_getr C dX7_keepLink_25 fl_RX7_44 rfl rfl rfl ?_
    refine px_aload_n (i := 0) C dX7_keepLink_28 rfl rfl ?_
    refine px_geti 2 C dX7_keepLink_29 fl_RX7_15 rfl rfl rfl rfl ?_
    refine px_iload_n (i := 2) C dX7_keepLink_32 rfl rfl ?_
    obtain ⟨o5, hk⟩ := hk
    replace hk := hk _ rfl
    refine px_callSNv (h := 0) (rc' := 0) (rs' := 0) C (HR_le hHR (Nat.le_of_ble_eq_true rfl)) hRt hnT dX7_keepLink_33 (List.mem_append_right _ (List.mem_append_left _ (List.mem_of_getElem? (i := 14) rfl))) ms_X8_set (set_ok (j := 9) (q := k) (n := 30) (loc := 576) (PCx_l C) (PCx_I C) rfl rfl rfl o5) rfl rfl (Nat.le_of_ble_eq_true rfl) (Nat.le_of_ble_eq_true rfl) (Nat.le_of_ble_eq_true rfl) (Nat.le_of_ble_eq_true rfl) ?_
    rintro _ rfl
    refine px_aload_n (i := 0) C dX7_keepLink_36 rfl rfl ?_
    refine px_dup C dX7_keepLink_37 rfl ?_
    refine px_geti 2 C dX7_keepLink_38 fl_RX7_15 rfl rfl rfl rfl ?_
    refine px_iconst (v := (1 : Int32)) C dX7_keepLink_41 rfl ?_
    refine px_iadd C dX7_keepLink_42 ?_
    replace hk := hk _ rfl
    refine px_puti 2 C dX7_keepLink_43 fp_RX7_15 rfl rfl rfl rfl rfl rfl ?_
    exact px_vret C hRt dX7_keepLink_46 rfl hk
theorem dX7_dropLink_0 : decode cX7_dropLink 0 = .ok (.aload_n 0, 1) := by decide +kernel
theorem dX7_dropLink_1 : decode cX7_dropLink 1 = .ok (.getfield 15, 3) := by decide +kernel
theorem dX7_dropLink_4 : decode cX7_dropLink 4 = .ok (.istore_n 2, 1) := by decide +kernel
theorem dX7_dropLink_5 : decode cX7_dropLink 5 = .ok (.aload_n 0, 1) := by decide +kernel
theorem dX7_dropLink_6 : decode cX7_dropLink 6 = .ok (.iconst 0, 1) := by decide +kernel
theorem dX7_dropLink_7 : decode cX7_dropLink 7 = .ok (.putfield 15, 3) := by decide +kernel
theorem dX7_dropLink_10 : decode cX7_dropLink 10 = .ok (.iconst 0, 1) := by decide +kernel
theorem dX7_dropLink_11 : decode cX7_dropLink 11 = .ok (.istore_n 3, 1) := by decide +kernel
theorem dX7_dropLink_12 : decode cX7_dropLink 12 = .ok (.iload_n 3, 1) := by decide +kernel
theorem dX7_dropLink_13 : decode cX7_dropLink 13 = .ok (.iload_n 2, 1) := by decide +kernel
theorem dX7_dropLink_14 : decode cX7_dropLink 14 = .ok (.if_icmp .ge 34, 3) := by decide +kernel
theorem dX7_dropLink_17 : decode cX7_dropLink 17 = .ok (.iload_n 3, 1) := by decide +kernel
theorem dX7_dropLink_18 : decode cX7_dropLink 18 = .ok (.iload_n 1, 1) := by decide +kernel
theorem dX7_dropLink_19 : decode cX7_dropLink 19 = .ok (.if_icmp .eq 23, 3) := by decide +kernel
theorem dX7_dropLink_22 : decode cX7_dropLink 22 = .ok (.aload_n 0, 1) := by decide +kernel
theorem dX7_dropLink_23 : decode cX7_dropLink 23 = .ok (.aload_n 0, 1) := by decide +kernel
theorem dX7_dropLink_24 : decode cX7_dropLink 24 = .ok (.getfield 41, 3) := by decide +kernel
theorem dX7_dropLink_27 : decode cX7_dropLink 27 = .ok (.iload_n 3, 1) := by decide +kernel
theorem dX7_dropLink_28 : decode cX7_dropLink 28 = .ok (.invokestatic 51, 3) := by decide +kernel
theorem dX7_dropLink_31 : decode cX7_dropLink 31 = .ok (.aload_n 0, 1) := by decide +kernel
theorem dX7_dropLink_32 : decode cX7_dropLink 32 = .ok (.getfield 44, 3) := by decide +kernel
theorem dX7_dropLink_35 : decode cX7_dropLink 35 = .ok (.iload_n 3, 1) := by decide +kernel
theorem dX7_dropLink_36 : decode cX7_dropLink 36 = .ok (.invokestatic 51, 3) := by decide +kernel
theorem dX7_dropLink_39 : decode cX7_dropLink 39 = .ok (.invokevirtual 55, 3) := by decide +kernel
theorem dX7_dropLink_42 : decode cX7_dropLink 42 = .ok (.iinc 3 1, 3) := by decide +kernel
theorem dX7_dropLink_45 : decode cX7_dropLink 45 = .ok (.goto (-33), 3) := by decide +kernel
theorem dX7_dropLink_48 : decode cX7_dropLink 48 = .ok (.return_, 1) := by decide +kernel
set_option maxRecDepth 100000 in
set_option maxHeartbeats 4000000 in
theorem w7_dropLink_b12_ok {G : GT} {k : Nat} {P : Mem → Prop} {X : String → Mem → Prop} (C : PCx G cX7_dropLink 4 RX7) (hRt : PRt G none (qV P) X) (hHR : HR G (2)) (hnT : NoT G) {μ : Mem} {l1 : Int32} {l2 : Int32} {l3 : Int32} (hk : w7_dropLink_b12 k P μ l1 l2 l3) : PW G 0 0 12 [some (pR 0 k), some (pI l1), some (pI l2), some (pI l3)] [] μ := by
  refine hk (fun (μ : Mem) (l1 : Int32) (l2 : Int32) (l3 : Int32) => PW G 0 0 12 [some (pR 0 k), some (pI l1), some (pI l2), some (pI l3)] [] μ) (fun (μ : Mem) l1 l2 l3 hk => ?_)
  have hR12 : ∀ (μ : Mem) (l1 : Int32) (l2 : Int32) (l3 : Int32), PW G 0 0 12 [some (pR 0 k), some (pI l1), some (pI l2), some (pI l3)] [] μ → PW G 0 0 12 [some (pR 0 k), some (pI l1), some (pI l2), some (pI l3)] [] μ := fun _ _ _ _ h => h
  unfold w7_dropLink_b12_body at hk
  refine px_iload_n (i := 3) C dX7_dropLink_12 rfl rfl ?_
  refine px_iload_n (i := 2) C dX7_dropLink_13 rfl rfl ?_
  refine px_icmp_ge (tgt := 48) C dX7_dropLink_14 (by decide) (fun c6 => ?_) (fun c6 => ?_)
  · replace hk := hk.1 c6
    exact px_vret C hRt dX7_dropLink_48 rfl hk
  · replace hk := hk.2 c6
    refine px_iload_n (i := 3) C dX7_dropLink_17 rfl rfl ?_
    refine px_iload_n (i := 1) C dX7_dropLink_18 rfl rfl ?_
    refine px_icmp_eq (tgt := 42) C dX7_dropLink_19 (by decide) (fun c5 => ?_) (fun c5 => ?_)
    · replace hk := hk.1 c5
      refine px_iinc (i := 3) (v := (1 : Int32)) C dX7_dropLink_42 rfl rfl (by decide) rfl ?_
      refine px_goto (tgt := 12) C dX7_dropLink_45 (by decide) ?_
      exact PW_at (hR12 _ _ _ _ hk) (And.intro rfl (And.intro rfl (And.intro rfl (And.intro rfl trivial)))) (Nat.le_of_ble_eq_true rfl) (Nat.le_of_ble_eq_true rfl)
    · replace hk := hk.2 c5
      refine px_aload_n (i := 0) C dX7_dropLink_22 rfl rfl ?_
      refine px_aload_n (i := 0) C dX7_dropLink_23 rfl rfl ?_
      refine px_getr C dX7_dropLink_24 fl_RX7_41 rfl rfl rfl ?_
      refine px_iload_n (i := 3) C dX7_dropLink_27 rfl rfl ?_
      obtain ⟨o2, hk⟩ := hk
      refine px_callSNi (h := 0) (rc' := 0) (rs' := 0) C (HR_le hHR (Nat.le_of_ble_eq_true rfl)) hRt hnT dX7_dropLink_28 (List.mem_append_right _ (List.mem_append_left _ (List.mem_of_getElem? (i := 3) rfl))) ms_X8_at (at_ok (j := 8) (q := k) (n := 30) (loc := 512) (PCx_l C) (PCx_I C) rfl rfl rfl o2) rfl rfl (Nat.le_of_ble_eq_true rfl) (Nat.le_of_ble_eq_true rfl) (Nat.le_of_ble_eq_true rfl) (Nat.le_of_ble_eq_true rfl) ?_
      rintro _ _ ⟨rfl, rfl⟩
      refine px_aload_n (i := 0) C dX7_dropLink_31 rfl rfl ?_
      refine px_getr C dX7_dropLink_32 fl_RX7_44 rfl rfl rfl ?_
      refine px_iload_n (i := 3) C dX7_dropLink_35 rfl rfl ?_
      obtain ⟨o3, hk⟩ := hk
      refine px_callSNi (h := 0) (rc' := 0) (rs' := 0) C (HR_le hHR (Nat.le_of_ble_eq_true rfl)) hRt hnT dX7_dropLink_36 (List.mem_append_right _ (List.mem_append_left _ (List.mem_of_getElem? (i := 3) rfl))) ms_X8_at (at_ok (j := 9) (q := k) (n := 30) (loc := 576) (PCx_l C) (PCx_I C) rfl rfl rfl o3) rfl rfl (Nat.le_of_ble_eq_true rfl) (Nat.le_of_ble_eq_true rfl) (Nat.le_of_ble_eq_true rfl) (Nat.le_of_ble_eq_true rfl) ?_
      rintro _ _ ⟨rfl, rfl⟩
      refine px_callVv (h := 1) (rc' := 0) (rs' := 0) C (HR_le hHR (Nat.le_of_ble_eq_true rfl)) hRt hnT dX7_dropLink_39 (gw3 52 rfl rfl) mv_X7_keepLink (w7_keepLink_ok (PCx_l C) (PCx_I C) hk) rfl rfl rfl rfl rfl (Nat.le_of_ble_eq_true rfl) (Nat.le_of_ble_eq_true rfl) (Nat.le_of_ble_eq_true rfl) (Nat.le_of_ble_eq_true rfl) ?_
      intro μ4 hk
      refine px_iinc (i := 3) (v := (1 : Int32)) C dX7_dropLink_42 rfl rfl (by decide) rfl ?_
      refine px_goto (tgt := 12) C dX7_dropLink_45 (by decide) ?_
      exact PW_at (hR12 _ _ _ _ hk) (And.intro rfl (And.intro rfl (And.intro rfl (And.intro rfl trivial)))) (Nat.le_of_ble_eq_true rfl) (Nat.le_of_ble_eq_true rfl)
set_option maxRecDepth 100000 in
set_option maxHeartbeats 4000000 in
theorem w7_dropLink_ok {l : Launch} {idx : List (Nat × Nat)} {μ : Mem} {k : Nat} {a1 : Int32} {P : Mem → Prop} {X : String → Mem → Prop} (hl : l.stackTraces = false) (hI : IdxOK idx) (hk : w7_dropLink_wp μ k a1 P) : PMet l yX7_dropLink (.code yX7_dropLink cX7_dropLink 4 none) 2 0 0 idx [pR 0 k, pI a1] μ (qV P) X := by
  refine PMet_of mv_X7_dropLink.2.2.2.2.2.2 hl hI mv_X7_dropLink.2.2.2.1 rfl (Nat.le_of_ble_eq_true rfl) (fun G _ _ C hRt hHR hnT => ?_)
  show PW G 0 0 0 [some (pR 0 k), some (pI a1), none, none] [] μ
  unfold w7_dropLink_wp at hk
  refine px_aload_n (i := 0) C dX7_dropLink_0 rfl rfl ?_
  refine px_geti 2 C dX7_dropLink_1 fl_RX7_15 rfl rfl rfl rfl ?_
  refine px_istore_n (i := 2) C dX7_dropLink_4 rfl (by decide) rfl ?_
  refine px_aload_n (i := 0) C dX7_dropLink_5 rfl rfl ?_
  refine px_iconst (v := (0 : Int32)) C dX7_dropLink_6 rfl ?_
  replace hk := hk _ rfl
  refine px_puti 2 C dX7_dropLink_7 fp_RX7_15 rfl rfl rfl rfl rfl rfl ?_
  refine px_iconst (v := (0 : Int32)) C dX7_dropLink_10 rfl ?_
  refine px_istore_n (i := 3) C dX7_dropLink_11 rfl (by decide) rfl ?_
  exact PW_at (w7_dropLink_b12_ok C hRt hHR hnT hk) (And.intro rfl (And.intro rfl (And.intro rfl (And.intro rfl trivial)))) (Nat.le_of_ble_eq_true rfl) (Nat.le_of_ble_eq_true rfl)
theorem dX7_dropLinksOf_0 : decode cX7_dropLinksOf 0 = .ok (.aload_n 0, 1) := by decide +kernel
theorem dX7_dropLinksOf_1 : decode cX7_dropLinksOf 1 = .ok (.getfield 15, 3) := by decide +kernel
theorem dX7_dropLinksOf_4 : decode cX7_dropLinksOf 4 = .ok (.istore_n 2, 1) := by decide +kernel
theorem dX7_dropLinksOf_5 : decode cX7_dropLinksOf 5 = .ok (.aload_n 0, 1) := by decide +kernel
theorem dX7_dropLinksOf_6 : decode cX7_dropLinksOf 6 = .ok (.iconst 0, 1) := by decide +kernel
theorem dX7_dropLinksOf_7 : decode cX7_dropLinksOf 7 = .ok (.putfield 15, 3) := by decide +kernel
theorem dX7_dropLinksOf_10 : decode cX7_dropLinksOf 10 = .ok (.iconst 0, 1) := by decide +kernel
theorem dX7_dropLinksOf_11 : decode cX7_dropLinksOf 11 = .ok (.istore_n 3, 1) := by decide +kernel
theorem dX7_dropLinksOf_12 : decode cX7_dropLinksOf 12 = .ok (.iload_n 3, 1) := by decide +kernel
theorem dX7_dropLinksOf_13 : decode cX7_dropLinksOf 13 = .ok (.iload_n 2, 1) := by decide +kernel
theorem dX7_dropLinksOf_14 : decode cX7_dropLinksOf 14 = .ok (.if_icmp .ge 53, 3) := by decide +kernel
theorem dX7_dropLinksOf_17 : decode cX7_dropLinksOf 17 = .ok (.aload_n 0, 1) := by decide +kernel
theorem dX7_dropLinksOf_18 : decode cX7_dropLinksOf 18 = .ok (.getfield 41, 3) := by decide +kernel
theorem dX7_dropLinksOf_21 : decode cX7_dropLinksOf 21 = .ok (.iload_n 3, 1) := by decide +kernel
theorem dX7_dropLinksOf_22 : decode cX7_dropLinksOf 22 = .ok (.invokestatic 51, 3) := by decide +kernel
theorem dX7_dropLinksOf_25 : decode cX7_dropLinksOf 25 = .ok (.iload_n 1, 1) := by decide +kernel
theorem dX7_dropLinksOf_26 : decode cX7_dropLinksOf 26 = .ok (.if_icmp .eq 35, 3) := by decide +kernel
theorem dX7_dropLinksOf_29 : decode cX7_dropLinksOf 29 = .ok (.aload_n 0, 1) := by decide +kernel
theorem dX7_dropLinksOf_30 : decode cX7_dropLinksOf 30 = .ok (.getfield 44, 3) := by decide +kernel
theorem dX7_dropLinksOf_33 : decode cX7_dropLinksOf 33 = .ok (.iload_n 3, 1) := by decide +kernel
theorem dX7_dropLinksOf_34 : decode cX7_dropLinksOf 34 = .ok (.invokestatic 51, 3) := by decide +kernel
theorem dX7_dropLinksOf_37 : decode cX7_dropLinksOf 37 = .ok (.iload_n 1, 1) := by decide +kernel
theorem dX7_dropLinksOf_38 : decode cX7_dropLinksOf 38 = .ok (.if_icmp .eq 23, 3) := by decide +kernel
theorem dX7_dropLinksOf_41 : decode cX7_dropLinksOf 41 = .ok (.aload_n 0, 1) := by decide +kernel
theorem dX7_dropLinksOf_42 : decode cX7_dropLinksOf 42 = .ok (.aload_n 0, 1) := by decide +kernel
theorem dX7_dropLinksOf_43 : decode cX7_dropLinksOf 43 = .ok (.getfield 41, 3) := by decide +kernel
theorem dX7_dropLinksOf_46 : decode cX7_dropLinksOf 46 = .ok (.iload_n 3, 1) := by decide +kernel
theorem dX7_dropLinksOf_47 : decode cX7_dropLinksOf 47 = .ok (.invokestatic 51, 3) := by decide +kernel
theorem dX7_dropLinksOf_50 : decode cX7_dropLinksOf 50 = .ok (.aload_n 0, 1) := by decide +kernel
theorem dX7_dropLinksOf_51 : decode cX7_dropLinksOf 51 = .ok (.getfield 44, 3) := by decide +kernel
theorem dX7_dropLinksOf_54 : decode cX7_dropLinksOf 54 = .ok (.iload_n 3, 1) := by decide +kernel
theorem dX7_dropLinksOf_55 : decode cX7_dropLinksOf 55 = .ok (.invokestatic 51, 3) := by decide +kernel
theorem dX7_dropLinksOf_58 : decode cX7_dropLinksOf 58 = .ok (.invokevirtual 55, 3) := by decide +kernel
theorem dX7_dropLinksOf_61 : decode cX7_dropLinksOf 61 = .ok (.iinc 3 1, 3) := by decide +kernel
theorem dX7_dropLinksOf_64 : decode cX7_dropLinksOf 64 = .ok (.goto (-52), 3) := by decide +kernel
theorem dX7_dropLinksOf_67 : decode cX7_dropLinksOf 67 = .ok (.return_, 1) := by decide +kernel
set_option maxRecDepth 100000 in
set_option maxHeartbeats 4000000 in
theorem w7_dropLinksOf_b12_ok {G : GT} {k : Nat} {P : Mem → Prop} {X : String → Mem → Prop} (C : PCx G cX7_dropLinksOf 4 RX7) (hRt : PRt G none (qV P) X) (hHR : HR G (2)) (hnT : NoT G) {μ : Mem} {l1 : Int32} {l2 : Int32} {l3 : Int32} (hk : w7_dropLinksOf_b12 k P μ l1 l2 l3) : PW G 0 0 12 [some (pR 0 k), some (pI l1), some (pI l2), some (pI l3)] [] μ := by
  refine hk (fun (μ : Mem) (l1 : Int32) (l2 : Int32) (l3 : Int32) => PW G 0 0 12 [some (pR 0 k), some (pI l1), some (pI l2), some (pI l3)] [] μ) (fun (μ : Mem) l1 l2 l3 hk => ?_)
  have hR12 : ∀ (μ : Mem) (l1 : Int32) (l2 : Int32) (l3 : Int32), PW G 0 0 12 [some (pR 0 k), some (pI l1), some (pI l2), some (pI l3)] [] μ → PW G 0 0 12 [some (pR 0 k), some (pI l1), some (pI l2), some (pI l3)] [] μ := fun _ _ _ _ h => h
  unfold w7_dropLinksOf_b12_body at hk
  refine px_iload_n (i := 3) C dX7_dropLinksOf_12 rfl rfl ?_
  refine px_iload_n (i := 2) C dX7_dropLinksOf_13 rfl rfl ?_
  refine px_icmp_ge (tgt := 67) C dX7_dropLinksOf_14 (by decide) (fun c9 => ?_) (fun c9 => ?_)
  · replace hk := hk.1 c9
    exact px_vret C hRt dX7_dropLinksOf_67 rfl hk
  · replace hk := hk.2 c9
    refine px_aload_n (i := 0) C dX7_dropLinksOf_17 rfl rfl ?_
    refine px_getr C dX7_dropLinksOf_18 fl_RX7_41 rfl rfl rfl ?_
    refine px_iload_n (i := 3) C dX7_dropLinksOf_21 rfl rfl ?_
    obtain ⟨o2, hk⟩ := hk
    refine px_callSNi (h := 0) (rc' := 0) (rs' := 0) C (HR_le hHR (Nat.le_of_ble_eq_true rfl)) hRt hnT dX7_dropLinksOf_22 (List.mem_append_right _ (List.mem_append_left _ (List.mem_of_getElem? (i := 3) rfl))) ms_X8_at (at_ok (j := 8) (q := k) (n := 30) (loc := 512) (PCx_l C) (PCx_I C) rfl rfl rfl o2) rfl rfl (Nat.le_of_ble_eq_true rfl) (Nat.le_of_ble_eq_true rfl) (Nat.le_of_ble_eq_true rfl) (Nat.le_of_ble_eq_true rfl) ?_
    rintro _ _ ⟨rfl, rfl⟩
    refine px_iload_n (i := 1) C dX7_dropLinksOf_25 rfl rfl ?_
    refine px_icmp_eq (tgt := 61) C dX7_dropLinksOf_26 (by decide) (fun c8 => ?_) (fun c8 => ?_)
    · replace hk := hk.1 c8
      refine px_iinc (i := 3) (v := (1 : Int32)) C dX7_dropLinksOf_61 rfl rfl (by decide) rfl ?_
      refine px_goto (tgt := 12) C dX7_dropLinksOf_64 (by decide) ?_
      exact PW_at (hR12 _ _ _ _ hk) (And.intro rfl (And.intro rfl (And.intro rfl (And.intro rfl trivial)))) (Nat.le_of_ble_eq_true rfl) (Nat.le_of_ble_eq_true rfl)
    · replace hk := hk.2 c8
      refine px_aload_n (i := 0) C dX7_dropLinksOf_29 rfl rfl ?_
      refine px_getr C dX7_dropLinksOf_30 fl_RX7_44 rfl rfl rfl ?_
      refine px_iload_n (i := 3) C dX7_dropLinksOf_33 rfl rfl ?_
      obtain ⟨o3, hk⟩ := hk
      refine px_callSNi (h := 0) (rc' := 0) (rs' := 0) C (HR_le hHR (Nat.le_of_ble_eq_true rfl)) hRt hnT dX7_dropLinksOf_34 (List.mem_append_right _ (List.mem_append_left _ (List.mem_of_getElem? (i := 3) rfl))) ms_X8_at (at_ok (j := 9) (q := k) (n := 30) (loc := 576) (PCx_l C) (PCx_I C) rfl rfl rfl o3) rfl rfl (Nat.le_of_ble_eq_true rfl) (Nat.le_of_ble_eq_true rfl) (Nat.le_of_ble_eq_true rfl) (Nat.le_of_ble_eq_true rfl) ?_
      rintro _ _ ⟨rfl, rfl⟩
      refine px_iload_n (i := 1) C dX7_dropLinksOf_37 rfl rfl ?_
      refine px_icmp_eq (tgt := 61) C dX7_dropLinksOf_38 (by decide) (fun c7 => ?_) (fun c7 => ?_)
      · replace hk := hk.1 c7
        refine px_iinc (i := 3) (v := (1 : Int32)) C dX7_dropLinksOf_61 rfl rfl (by decide) rfl ?_
        refine px_goto (tgt := 12) C dX7_dropLinksOf_64 (by decide) ?_
        exact PW_at (hR12 _ _ _ _ hk) (And.intro rfl (And.intro rfl (And.intro rfl (And.intro rfl trivial)))) (Nat.le_of_ble_eq_true rfl) (Nat.le_of_ble_eq_true rfl)
      · replace hk := hk.2 c7
        refine px_aload_n (i := 0) C dX7_dropLinksOf_41 rfl rfl ?_
        refine px_aload_n (i := 0) C dX7_dropLinksOf_42 rfl rfl ?_
        refine px_getr C dX7_dropLinksOf_43 fl_RX7_41 rfl rfl rfl ?_
        refine px_iload_n (i := 3) C dX7_dropLinksOf_46 rfl rfl ?_
        obtain ⟨o4, hk⟩ := hk
        refine px_callSNi (h := 0) (rc' := 0) (rs' := 0) C (HR_le hHR (Nat.le_of_ble_eq_true rfl)) hRt hnT dX7_dropLinksOf_47 (List.mem_append_right _ (List.mem_append_left _ (List.mem_of_getElem? (i := 3) rfl))) ms_X8_at (at_ok (j := 8) (q := k) (n := 30) (loc := 512) (PCx_l C) (PCx_I C) rfl rfl rfl o4) rfl rfl (Nat.le_of_ble_eq_true rfl) (Nat.le_of_ble_eq_true rfl) (Nat.le_of_ble_eq_true rfl) (Nat.le_of_ble_eq_true rfl) ?_
        rintro _ _ ⟨rfl, rfl⟩
        refine px_aload_n (i := 0) C dX7_dropLinksOf_50 rfl rfl ?_
        refine px_getr C dX7_dropLinksOf_51 fl_RX7_44 rfl rfl rfl ?_
        refine px_iload_n (i := 3) C dX7_dropLinksOf_54 rfl rfl ?_
        obtain ⟨o5, hk⟩ := hk
        refine px_callSNi (h := 0) (rc' := 0) (rs' := 0) C (HR_le hHR (Nat.le_of_ble_eq_true rfl)) hRt hnT dX7_dropLinksOf_55 (List.mem_append_right _ (List.mem_append_left _ (List.mem_of_getElem? (i := 3) rfl))) ms_X8_at (at_ok (j := 9) (q := k) (n := 30) (loc := 576) (PCx_l C) (PCx_I C) rfl rfl rfl o5) rfl rfl (Nat.le_of_ble_eq_true rfl) (Nat.le_of_ble_eq_true rfl) (Nat.le_of_ble_eq_true rfl) (Nat.le_of_ble_eq_true rfl) ?_
        rintro _ _ ⟨rfl, rfl⟩
        refine px_callVv (h := 1) (rc' := 0) (rs' := 0) C (HR_le hHR (Nat.le_of_ble_eq_true rfl)) hRt hnT dX7_dropLinksOf_58 (gw3 52 rfl rfl) mv_X7_keepLink (w7_keepLink_ok (PCx_l C) (PCx_I C) hk) rfl rfl rfl rfl rfl (Nat.le_of_ble_eq_true rfl) (Nat.le_of_ble_eq_true rfl) (Nat.le_of_ble_eq_true rfl) (Nat.le_of_ble_eq_true rfl) ?_
        intro μ6 hk
        refine px_iinc (i := 3) (v := (1 : Int32)) C dX7_dropLinksOf_61 rfl rfl (by decide) rfl ?_
        refine px_goto (tgt := 12) C dX7_dropLinksOf_64 (by decide) ?_
        exact PW_at (hR12 _ _ _ _ hk) (And.intro rfl (And.intro rfl (And.intro rfl (And.intro rfl trivial)))) (Nat.le_of_ble_eq_true rfl) (Nat.le_of_ble_eq_true rfl)
set_option maxRecDepth 100000 in
set_option maxHeartbeats 4000000 in
theorem w7_dropLinksOf_ok {l : Launch} {idx : List (Nat × Nat)} {μ : Mem} {k : Nat} {a1 : Int32} {P : Mem → Prop} {X : String → Mem → Prop} (hl : l.stackTraces = false) (hI : IdxOK idx) (hk : w7_dropLinksOf_wp μ k a1 P) : PMet l yX7_dropLinksOf (.code yX7_dropLinksOf cX7_dropLinksOf 4 none) 2 0 0 idx [pR 0 k, pI a1] μ (qV P) X := by
  refine PMet_of mv_X7_dropLinksOf.2.2.2.2.2.2 hl hI mv_X7_dropLinksOf.2.2.2.1 rfl (Nat.le_of_ble_eq_true rfl) (fun G _ _ C hRt hHR hnT => ?_)
  show PW G 0 0 0 [some (pR 0 k), some (pI a1), none, none] [] μ
  unfold w7_dropLinksOf_wp at hk
  refine px_aload_n (i := 0) C dX7_dropLinksOf_0 rfl rfl ?_
  refine px_geti 2 C dX7_dropLinksOf_1 fl_RX7_15 rfl rfl rfl rfl ?_
  refine px_istore_n (i := 2) C dX7_dropLinksOf_4 rfl (by decide) rfl ?_
  refine px_aload_n (i := 0) C dX7_dropLinksOf_5 rfl rfl ?_
  refine px_iconst (v := (0 : Int32)) C dX7_dropLinksOf_6 rfl ?_
  replace hk := hk _ rfl
  refine px_puti 2 C dX7_dropLinksOf_7 fp_RX7_15 rfl rfl rfl rfl rfl rfl ?_
  refine px_iconst (v := (0 : Int32)) C dX7_dropLinksOf_10 rfl ?_
  refine px_istore_n (i := 3) C dX7_dropLinksOf_11 rfl (by decide) rfl ?_
  exact PW_at (w7_dropLinksOf_b12_ok C hRt hHR hnT hk) (And.intro rfl (And.intro rfl (And.intro rfl (And.intro rfl trivial)))) (Nat.le_of_ble_eq_true rfl) (Nat.le_of_ble_eq_true rfl)
theorem dX8_span_0 : decode cX8_span 0 = .ok (.aload_n 0, 1) := by decide +kernel
theorem dX8_span_1 : decode cX8_span 1 = .ok (.iload_n 1, 1) := by decide +kernel
theorem dX8_span_2 : decode cX8_span 2 = .ok (.invokevirtual 142, 3) := by decide +kernel
theorem dX8_span_5 : decode cX8_span 5 = .ok (.istore_n 3, 1) := by decide +kernel
theorem dX8_span_6 : decode cX8_span 6 = .ok (.iload_n 2, 1) := by decide +kernel
theorem dX8_span_7 : decode cX8_span 7 = .ok (.tableswitch 99 0 5 #[37, 49, 61, 73, 85, 97], 37) := by decide +kernel
theorem dX8_span_44 : decode cX8_span 44 = .ok (.aload_n 0, 1) := by decide +kernel
theorem dX8_span_45 : decode cX8_span 45 = .ok (.getfield 94, 3) := by decide +kernel
theorem dX8_span_48 : decode cX8_span 48 = .ok (.getfield 186, 3) := by decide +kernel
theorem dX8_span_51 : decode cX8_span 51 = .ok (.iload_n 3, 1) := by decide +kernel
theorem dX8_span_52 : decode cX8_span 52 = .ok (.invokestatic 155, 3) := by decide +kernel
theorem dX8_span_55 : decode cX8_span 55 = .ok (.ireturn, 1) := by decide +kernel
theorem dX8_span_56 : decode cX8_span 56 = .ok (.aload_n 0, 1) := by decide +kernel
theorem dX8_span_57 : decode cX8_span 57 = .ok (.getfield 94, 3) := by decide +kernel
theorem dX8_span_60 : decode cX8_span 60 = .ok (.getfield 151, 3) := by decide +kernel
theorem dX8_span_63 : decode cX8_span 63 = .ok (.iload_n 3, 1) := by decide +kernel
theorem dX8_span_64 : decode cX8_span 64 = .ok (.invokestatic 155, 3) := by decide +kernel
theorem dX8_span_67 : decode cX8_span 67 = .ok (.ireturn, 1) := by decide +kernel
theorem dX8_span_68 : decode cX8_span 68 = .ok (.aload_n 0, 1) := by decide +kernel
theorem dX8_span_69 : decode cX8_span 69 = .ok (.getfield 94, 3) := by decide +kernel
theorem dX8_span_72 : decode cX8_span 72 = .ok (.getfield 189, 3) := by decide +kernel
theorem dX8_span_75 : decode cX8_span 75 = .ok (.iload_n 3, 1) := by decide +kernel
theorem dX8_span_76 : decode cX8_span 76 = .ok (.invokestatic 155, 3) := by decide +kernel
theorem dX8_span_79 : decode cX8_span 79 = .ok (.ireturn, 1) := by decide +kernel
theorem dX8_span_80 : decode cX8_span 80 = .ok (.aload_n 0, 1) := by decide +kernel
theorem dX8_span_81 : decode cX8_span 81 = .ok (.getfield 94, 3) := by decide +kernel
theorem dX8_span_84 : decode cX8_span 84 = .ok (.getfield 168, 3) := by decide +kernel
theorem dX8_span_87 : decode cX8_span 87 = .ok (.iload_n 3, 1) := by decide +kernel
theorem dX8_span_88 : decode cX8_span 88 = .ok (.invokestatic 155, 3) := by decide +kernel
theorem dX8_span_91 : decode cX8_span 91 = .ok (.ireturn, 1) := by decide +kernel
theorem dX8_span_92 : decode cX8_span 92 = .ok (.aload_n 0, 1) := by decide +kernel
theorem dX8_span_93 : decode cX8_span 93 = .ok (.getfield 94, 3) := by decide +kernel
theorem dX8_span_96 : decode cX8_span 96 = .ok (.getfield 171, 3) := by decide +kernel
theorem dX8_span_99 : decode cX8_span 99 = .ok (.iload_n 3, 1) := by decide +kernel
theorem dX8_span_100 : decode cX8_span 100 = .ok (.invokestatic 155, 3) := by decide +kernel
theorem dX8_span_103 : decode cX8_span 103 = .ok (.ireturn, 1) := by decide +kernel
theorem dX8_span_104 : decode cX8_span 104 = .ok (.iload_n 3, 1) := by decide +kernel
theorem dX8_span_105 : decode cX8_span 105 = .ok (.ireturn, 1) := by decide +kernel
theorem dX8_span_106 : decode cX8_span 106 = .ok (.new 110, 3) := by decide +kernel
theorem dX8_span_109 : decode cX8_span 109 = .ok (.dup, 1) := by decide +kernel
theorem dX8_span_110 : decode cX8_span 110 = .ok (.ldc 192, 2) := by decide +kernel
theorem dX8_span_112 : decode cX8_span 112 = .ok (.invokespecial 114, 3) := by decide +kernel
theorem dX8_span_115 : decode cX8_span 115 = .ok (.athrow, 1) := by decide +kernel
set_option maxRecDepth 100000 in
set_option maxHeartbeats 4000000 in
theorem w8_span_ok {l : Launch} {idx : List (Nat × Nat)} {μ : Mem} {a1 : Int32} {a2 : Int32} {P : Int32 → Mem → Prop} {X : String → Mem → Prop} (hl : l.stackTraces = false) (hI : IdxOK idx) (hk : w8_span_wp μ a1 a2 P X) : PMet l yX8_span (.code yX8_span cX8_span 4 (some .int)) 9 2 12 idx [pR 40 0, pI a1, pI a2] μ (qI P) X := by
  refine PMet_of mv_X8_span.2.2.2.2.2.2 hl hI mv_X8_span.2.2.2.1 rfl (Nat.le_of_ble_eq_true rfl) (fun G _ _ C hRt hHR hnT => ?_)
  show PW G 2 12 0 [some (pR 40 0), some (pI a1), some (pI a2), none] [] μ
  unfold w8_span_wp at hk
  refine px_aload_n (i := 0) C dX8_span_0 rfl rfl ?_
  refine px_iload_n (i := 1) C dX8_span_1 rfl rfl ?_
  refine px_callVi (h := 8) (rc' := 1) (rs' := 6) C (HR_le hHR (Nat.le_of_ble_eq_true rfl)) hRt hnT dX8_span_2 (gw3 209 rfl rfl) mv_X8_placeOf (w8_placeOf_ok (PCx_l C) (PCx_I C) hk) rfl rfl rfl rfl rfl (Nat.le_of_ble_eq_true rfl) (Nat.le_of_ble_eq_true rfl) (Nat.le_of_ble_eq_true rfl) (Nat.le_of_ble_eq_true rfl) ?_
  intro r2 μ1 hk
  refine px_istore_n (i := 3) C dX8_span_5 rfl (by decide) rfl ?_
  refine px_iload_n (i := 2) C dX8_span_6 rfl rfl ?_
  by_cases c8_0 : a2 = (0 : Int32)
  · replace hk := hk.1 c8_0
    refine px_tsw (tgt := 44) C dX8_span_7 c8_0 (by decide) (by decide) rfl (by decide) ?_
    refine px_aload_n (i := 0) C dX8_span_44 rfl rfl ?_
    refine px_getr C dX8_span_45 fl_RX8_94 rfl rfl rfl ?_
    refine px_getr C dX8_span_48 fl_RX8_186 rfl rfl rfl ?_
    refine px_iload_n (i := 3) C dX8_span_51 rfl rfl ?_
    obtain ⟨o3, hk⟩ := hk
    refine px_callSi (h := 0) (rc' := 0) (rs' := 0) C (HR_le hHR (Nat.le_of_ble_eq_true rfl)) hRt hnT dX8_span_52 (gw4 2 rfl rfl) ms_X8_at (at_ok (j := 1) (q := 0) (n := 40) (loc := 64) (PCx_l C) (PCx_I C) rfl rfl rfl o3) rfl rfl (Nat.le_of_ble_eq_true rfl) (Nat.le_of_ble_eq_true rfl) (Nat.le_of_ble_eq_true rfl) (Nat.le_of_ble_eq_true rfl) ?_
    rintro _ _ ⟨rfl, rfl⟩
    exact px_iret C hRt dX8_span_55 rfl rfl hk
  · skip
    by_cases c8_1 : a2 = (1 : Int32)
    · replace hk := hk.2.1 c8_1
      refine px_tsw (tgt := 56) C dX8_span_7 c8_1 (by decide) (by decide) rfl (by decide) ?_
      refine px_aload_n (i := 0) C dX8_span_56 rfl rfl ?_
      refine px_getr C dX8_span_57 fl_RX8_94 rfl rfl rfl ?_
      refine px_getr C dX8_span_60 fl_RX8_151 rfl rfl rfl ?_
      refine px_iload_n (i := 3) C dX8_span_63 rfl rfl ?_
      obtain ⟨o4, hk⟩ := hk
      refine px_callSi (h := 0) (rc' := 0) (rs' := 0) C (HR_le hHR (Nat.le_of_ble_eq_true rfl)) hRt hnT dX8_span_64 (gw4 2 rfl rfl) ms_X8_at (at_ok (j := 3) (q := 0) (n := 40) (loc := 192) (PCx_l C) (PCx_I C) rfl rfl rfl o4) rfl rfl (Nat.le_of_ble_eq_true rfl) (Nat.le_of_ble_eq_true rfl) (Nat.le_of_ble_eq_true rfl) (Nat.le_of_ble_eq_true rfl) ?_
      rintro _ _ ⟨rfl, rfl⟩
      exact px_iret C hRt dX8_span_67 rfl rfl hk
    · skip
      by_cases c8_2 : a2 = (2 : Int32)
      · replace hk := hk.2.2.1 c8_2
        refine px_tsw (tgt := 68) C dX8_span_7 c8_2 (by decide) (by decide) rfl (by decide) ?_
        refine px_aload_n (i := 0) C dX8_span_68 rfl rfl ?_
        refine px_getr C dX8_span_69 fl_RX8_94 rfl rfl rfl ?_
        refine px_getr C dX8_span_72 fl_RX8_189 rfl rfl rfl ?_
        refine px_iload_n (i := 3) C dX8_span_75 rfl rfl ?_
        obtain ⟨o5, hk⟩ := hk
        refine px_callSi (h := 0) (rc' := 0) (rs' := 0) C (HR_le hHR (Nat.le_of_ble_eq_true rfl)) hRt hnT dX8_span_76 (gw4 2 rfl rfl) ms_X8_at (at_ok (j := 4) (q := 0) (n := 40) (loc := 256) (PCx_l C) (PCx_I C) rfl rfl rfl o5) rfl rfl (Nat.le_of_ble_eq_true rfl) (Nat.le_of_ble_eq_true rfl) (Nat.le_of_ble_eq_true rfl) (Nat.le_of_ble_eq_true rfl) ?_
        rintro _ _ ⟨rfl, rfl⟩
        exact px_iret C hRt dX8_span_79 rfl rfl hk
      · skip
        by_cases c8_3 : a2 = (3 : Int32)
        · replace hk := hk.2.2.2.1 c8_3
          refine px_tsw (tgt := 80) C dX8_span_7 c8_3 (by decide) (by decide) rfl (by decide) ?_
          refine px_aload_n (i := 0) C dX8_span_80 rfl rfl ?_
          refine px_getr C dX8_span_81 fl_RX8_94 rfl rfl rfl ?_
          refine px_getr C dX8_span_84 fl_RX8_168 rfl rfl rfl ?_
          refine px_iload_n (i := 3) C dX8_span_87 rfl rfl ?_
          obtain ⟨o6, hk⟩ := hk
          refine px_callSi (h := 0) (rc' := 0) (rs' := 0) C (HR_le hHR (Nat.le_of_ble_eq_true rfl)) hRt hnT dX8_span_88 (gw4 2 rfl rfl) ms_X8_at (at_ok (j := 5) (q := 0) (n := 40) (loc := 320) (PCx_l C) (PCx_I C) rfl rfl rfl o6) rfl rfl (Nat.le_of_ble_eq_true rfl) (Nat.le_of_ble_eq_true rfl) (Nat.le_of_ble_eq_true rfl) (Nat.le_of_ble_eq_true rfl) ?_
          rintro _ _ ⟨rfl, rfl⟩
          exact px_iret C hRt dX8_span_91 rfl rfl hk
        · skip
          by_cases c8_4 : a2 = (4 : Int32)
          · replace hk := hk.2.2.2.2.1 c8_4
            refine px_tsw (tgt := 92) C dX8_span_7 c8_4 (by decide) (by decide) rfl (by decide) ?_
            refine px_aload_n (i := 0) C dX8_span_92 rfl rfl ?_
            refine px_getr C dX8_span_93 fl_RX8_94 rfl rfl rfl ?_
            refine px_getr C dX8_span_96 fl_RX8_171 rfl rfl rfl ?_
            refine px_iload_n (i := 3) C dX8_span_99 rfl rfl ?_
            obtain ⟨o7, hk⟩ := hk
            refine px_callSi (h := 0) (rc' := 0) (rs' := 0) C (HR_le hHR (Nat.le_of_ble_eq_true rfl)) hRt hnT dX8_span_100 (gw4 2 rfl rfl) ms_X8_at (at_ok (j := 6) (q := 0) (n := 40) (loc := 384) (PCx_l C) (PCx_I C) rfl rfl rfl o7) rfl rfl (Nat.le_of_ble_eq_true rfl) (Nat.le_of_ble_eq_true rfl) (Nat.le_of_ble_eq_true rfl) (Nat.le_of_ble_eq_true rfl) ?_
            rintro _ _ ⟨rfl, rfl⟩
            exact px_iret C hRt dX8_span_103 rfl rfl hk
          · skip
            by_cases c8_5 : a2 = (5 : Int32)
            · replace hk := hk.2.2.2.2.2.1 c8_5
              refine px_tsw (tgt := 104) C dX8_span_7 c8_5 (by decide) (by decide) rfl (by decide) ?_
              refine px_iload_n (i := 3) C dX8_span_104 rfl rfl ?_
              exact px_iret C hRt dX8_span_105 rfl rfl hk
            · skip
              have c8_d : (a2 < (0 : Int32) ∨ (5 : Int32) < a2) := tsw_out6 c8_0 c8_1 c8_2 c8_3 c8_4 c8_5
              replace hk := hk.2.2.2.2.2.2 c8_d
              refine px_tswo (tgt := 106) C dX8_span_7 (by decide) (by decide) c8_d (by decide) ?_
              exact px_throw (h9 := 1) C (HR_le hHR (Nat.le_of_ble_eq_true rfl)) hRt hnT tk_IllegalArgumentException ti_IllegalArgumentException tw_IllegalArgumentException (by decide +kernel) (List.mem_of_getElem? (i := 6) rfl) dX8_span_106 dX8_span_109 dX8_span_110 dX8_span_112 dX8_span_115 rfl (Nat.le_of_ble_eq_true rfl) (Nat.le_of_ble_eq_true rfl) hk
theorem dX8_errorShare_0 : decode cX8_errorShare 0 = .ok (.aload_n 0, 1) := by decide +kernel
theorem dX8_errorShare_1 : decode cX8_errorShare 1 = .ok (.iload_n 1, 1) := by decide +kernel
theorem dX8_errorShare_2 : decode cX8_errorShare 2 = .ok (.invokevirtual 255, 3) := by decide +kernel
theorem dX8_errorShare_5 : decode cX8_errorShare 5 = .ok (.aload_n 0, 1) := by decide +kernel
theorem dX8_errorShare_6 : decode cX8_errorShare 6 = .ok (.getfield 78, 3) := by decide +kernel
theorem dX8_errorShare_9 : decode cX8_errorShare 9 = .ok (.iload_n 1, 1) := by decide +kernel
theorem dX8_errorShare_10 : decode cX8_errorShare 10 = .ok (.invokevirtual 321, 3) := by decide +kernel
theorem dX8_errorShare_13 : decode cX8_errorShare 13 = .ok (.istore_n 2, 1) := by decide +kernel
theorem dX8_errorShare_14 : decode cX8_errorShare 14 = .ok (.iload_n 2, 1) := by decide +kernel
theorem dX8_errorShare_15 : decode cX8_errorShare 15 = .ok (.ifCond .ne 14, 3) := by decide +kernel
theorem dX8_errorShare_18 : decode cX8_errorShare 18 = .ok (.new 324, 3) := by decide +kernel
theorem dX8_errorShare_21 : decode cX8_errorShare 21 = .ok (.dup, 1) := by decide +kernel
theorem dX8_errorShare_22 : decode cX8_errorShare 22 = .ok (.ldc_w 326, 3) := by decide +kernel
theorem dX8_errorShare_25 : decode cX8_errorShare 25 = .ok (.invokespecial 328, 3) := by decide +kernel
theorem dX8_errorShare_28 : decode cX8_errorShare 28 = .ok (.athrow, 1) := by decide +kernel
theorem dX8_errorShare_29 : decode cX8_errorShare 29 = .ok (.aload_n 0, 1) := by decide +kernel
theorem dX8_errorShare_30 : decode cX8_errorShare 30 = .ok (.getfield 78, 3) := by decide +kernel
theorem dX8_errorShare_33 : decode cX8_errorShare 33 = .ok (.iload_n 1, 1) := by decide +kernel
theorem dX8_errorShare_34 : decode cX8_errorShare 34 = .ok (.invokevirtual 329, 3) := by decide +kernel
theorem dX8_errorShare_37 : decode cX8_errorShare 37 = .ok (.i2d, 1) := by decide +kernel
theorem dX8_errorShare_38 : decode cX8_errorShare 38 = .ok (.iload_n 2, 1) := by decide +kernel
theorem dX8_errorShare_39 : decode cX8_errorShare 39 = .ok (.i2d, 1) := by decide +kernel
theorem dX8_errorShare_40 : decode cX8_errorShare 40 = .ok (.ddiv, 1) := by decide +kernel
theorem dX8_errorShare_41 : decode cX8_errorShare 41 = .ok (.dreturn, 1) := by decide +kernel
set_option maxRecDepth 100000 in
set_option maxHeartbeats 4000000 in
theorem w8_errorShare_ok {l : Launch} {idx : List (Nat × Nat)} {μ : Mem} {a1 : Int32} {P : UInt64 → Mem → Prop} {X : String → Mem → Prop} (hl : l.stackTraces = false) (hI : IdxOK idx) (hk : w8_errorShare_wp μ a1 P X) : PMet l yX8_errorShare (.code yX8_errorShare cX8_errorShare 3 (some .double)) 9 2 12 idx [pR 40 0, pI a1] μ (qD P) X := by
  refine PMet_of mv_X8_errorShare.2.2.2.2.2.2 hl hI mv_X8_errorShare.2.2.2.1 rfl (Nat.le_of_ble_eq_true rfl) (fun G _ _ C hRt hHR hnT => ?_)
  show PW G 2 12 0 [some (pR 40 0), some (pI a1), none] [] μ
  unfold w8_errorShare_wp at hk
  refine px_aload_n (i := 0) C dX8_errorShare_0 rfl rfl ?_
  refine px_iload_n (i := 1) C dX8_errorShare_1 rfl rfl ?_
  refine px_callVv (h := 8) (rc' := 1) (rs' := 6) C (HR_le hHR (Nat.le_of_ble_eq_true rfl)) hRt hnT dX8_errorShare_2 (gw4 136 rfl rfl) mv_X8_checkTrace (w8_checkTrace_ok (PCx_l C) (PCx_I C) hk) rfl rfl rfl rfl rfl (Nat.le_of_ble_eq_true rfl) (Nat.le_of_ble_eq_true rfl) (Nat.le_of_ble_eq_true rfl) (Nat.le_of_ble_eq_true rfl) ?_
  intro μ1 hk
  refine px_aload_n (i := 0) C dX8_errorShare_5 rfl rfl ?_
  refine px_getr C dX8_errorShare_6 fl_RX8_78 rfl rfl rfl ?_
  refine px_iload_n (i := 1) C dX8_errorShare_9 rfl rfl ?_
  refine px_callVi (h := 1) (rc' := 1) (rs' := 6) C (HR_le hHR (Nat.le_of_ble_eq_true rfl)) hRt hnT dX8_errorShare_10 (gw5 140 rfl rfl) mv_X1_spansOf (w1_spansOf_ok (PCx_l C) (PCx_I C) hk) rfl rfl rfl rfl rfl (Nat.le_of_ble_eq_true rfl) (Nat.le_of_ble_eq_true rfl) (Nat.le_of_ble_eq_true rfl) (Nat.le_of_ble_eq_true rfl) ?_
  intro r3 μ2 hk
  refine px_istore_n (i := 2) C dX8_errorShare_13 rfl (by decide) rfl ?_
  refine px_iload_n (i := 2) C dX8_errorShare_14 rfl rfl ?_
  refine px_if_ne (tgt := 29) C dX8_errorShare_15 (by decide) (fun c7 => ?_) (fun c7 => ?_)
  · replace hk := hk.1 c7
    refine px_aload_n (i := 0) C dX8_errorShare_29 rfl rfl ?_
    refine px_getr C dX8_errorShare_30 fl_RX8_78 rfl rfl rfl ?_
    refine px_iload_n (i := 1) C dX8_errorShare_33 rfl rfl ?_
    refine px_callVi (h := 1) (rc' := 0) (rs' := 0) C (HR_le hHR (Nat.le_of_ble_eq_true rfl)) hRt hnT dX8_errorShare_34 (gw5 147 rfl rfl) mv_X1_errorsOf (w1_errorsOf_ok (PCx_l C) (PCx_I C) hk) rfl rfl rfl rfl rfl (Nat.le_of_ble_eq_true rfl) (Nat.le_of_ble_eq_true rfl) (Nat.le_of_ble_eq_true rfl) (Nat.le_of_ble_eq_true rfl) ?_
    intro r5 μ4 hk
    refine px_i2d C dX8_errorShare_37 ?_
    refine px_iload_n (i := 2) C dX8_errorShare_38 rfl rfl ?_
    refine px_i2d C dX8_errorShare_39 ?_
    obtain ⟨o6, hk⟩ := hk
    refine px_ddiv C dX8_errorShare_40 o6 ?_
    exact px_dret C hRt dX8_errorShare_41 rfl hk
  · replace hk := hk.2 c7
    exact px_throww (h9 := 1) C (HR_le hHR (Nat.le_of_ble_eq_true rfl)) hRt hnT tk_ArithmeticException ti_ArithmeticException tw_ArithmeticException (by decide +kernel) (List.mem_of_getElem? (i := 20) rfl) dX8_errorShare_18 dX8_errorShare_21 dX8_errorShare_22 dX8_errorShare_25 dX8_errorShare_28 rfl (Nat.le_of_ble_eq_true rfl) (Nat.le_of_ble_eq_true rfl) hk
theorem dX8_linkedTraces_0 : decode cX8_linkedTraces 0 = .ok (.aload_n 0, 1) := by decide +kernel
theorem dX8_linkedTraces_1 : decode cX8_linkedTraces 1 = .ok (.iload_n 1, 1) := by decide +kernel
theorem dX8_linkedTraces_2 : decode cX8_linkedTraces 2 = .ok (.invokevirtual 255, 3) := by decide +kernel
theorem dX8_linkedTraces_5 : decode cX8_linkedTraces 5 = .ok (.aload_n 0, 1) := by decide +kernel
theorem dX8_linkedTraces_6 : decode cX8_linkedTraces 6 = .ok (.getfield 78, 3) := by decide +kernel
theorem dX8_linkedTraces_9 : decode cX8_linkedTraces 9 = .ok (.iload_n 1, 1) := by decide +kernel
theorem dX8_linkedTraces_10 : decode cX8_linkedTraces 10 = .ok (.invokevirtual 390, 3) := by decide +kernel
theorem dX8_linkedTraces_13 : decode cX8_linkedTraces 13 = .ok (.ireturn, 1) := by decide +kernel
set_option maxRecDepth 100000 in
set_option maxHeartbeats 4000000 in
theorem w8_linkedTraces_ok {l : Launch} {idx : List (Nat × Nat)} {μ : Mem} {a1 : Int32} {P : Int32 → Mem → Prop} {X : String → Mem → Prop} (hl : l.stackTraces = false) (hI : IdxOK idx) (hk : w8_linkedTraces_wp μ a1 P X) : PMet l yX8_linkedTraces (.code yX8_linkedTraces cX8_linkedTraces 2 (some .int)) 9 1 6 idx [pR 40 0, pI a1] μ (qI P) X := by
  refine PMet_of mv_X8_linkedTraces.2.2.2.2.2.2 hl hI mv_X8_linkedTraces.2.2.2.1 rfl (Nat.le_of_ble_eq_true rfl) (fun G _ _ C hRt hHR hnT => ?_)
  show PW G 1 6 0 [some (pR 40 0), some (pI a1)] [] μ
  unfold w8_linkedTraces_wp at hk
  refine px_aload_n (i := 0) C dX8_linkedTraces_0 rfl rfl ?_
  refine px_iload_n (i := 1) C dX8_linkedTraces_1 rfl rfl ?_
  refine px_callVv (h := 8) (rc' := 0) (rs' := 0) C (HR_le hHR (Nat.le_of_ble_eq_true rfl)) hRt hnT dX8_linkedTraces_2 (gw4 136 rfl rfl) mv_X8_checkTrace (w8_checkTrace_ok (PCx_l C) (PCx_I C) hk) rfl rfl rfl rfl rfl (Nat.le_of_ble_eq_true rfl) (Nat.le_of_ble_eq_true rfl) (Nat.le_of_ble_eq_true rfl) (Nat.le_of_ble_eq_true rfl) ?_
  intro μ1 hk
  refine px_aload_n (i := 0) C dX8_linkedTraces_5 rfl rfl ?_
  refine px_getr C dX8_linkedTraces_6 fl_RX8_78 rfl rfl rfl ?_
  refine px_iload_n (i := 1) C dX8_linkedTraces_9 rfl rfl ?_
  refine px_callVi (h := 1) (rc' := 0) (rs' := 0) C (HR_le hHR (Nat.le_of_ble_eq_true rfl)) hRt hnT dX8_linkedTraces_10 (gw6 53 rfl rfl) mv_X1_tracesReached (w1_tracesReached_ok (PCx_l C) (PCx_I C) hk) rfl rfl rfl rfl rfl (Nat.le_of_ble_eq_true rfl) (Nat.le_of_ble_eq_true rfl) (Nat.le_of_ble_eq_true rfl) (Nat.le_of_ble_eq_true rfl) ?_
  intro r3 μ2 hk
  exact px_iret C hRt dX8_linkedTraces_13 rfl rfl hk
theorem dX8_append_0 : decode cX8_append 0 = .ok (.iload_n 1, 1) := by decide +kernel
theorem dX8_append_1 : decode cX8_append 1 = .ok (.bipush 32, 2) := by decide +kernel
theorem dX8_append_3 : decode cX8_append 3 = .ok (.if_icmp .lt 9, 3) := by decide +kernel
theorem dX8_append_6 : decode cX8_append 6 = .ok (.iload_n 1, 1) := by decide +kernel
theorem dX8_append_7 : decode cX8_append 7 = .ok (.bipush 126, 2) := by decide +kernel
theorem dX8_append_9 : decode cX8_append 9 = .ok (.if_icmp .le 14, 3) := by decide +kernel
theorem dX8_append_12 : decode cX8_append 12 = .ok (.new 110, 3) := by decide +kernel
theorem dX8_append_15 : decode cX8_append 15 = .ok (.dup, 1) := by decide +kernel
theorem dX8_append_16 : decode cX8_append 16 = .ok (.ldc_w 419, 3) := by decide +kernel
theorem dX8_append_19 : decode cX8_append 19 = .ok (.invokespecial 114, 3) := by decide +kernel
theorem dX8_append_22 : decode cX8_append 22 = .ok (.athrow, 1) := by decide +kernel
theorem dX8_append_23 : decode cX8_append 23 = .ok (.aload_n 0, 1) := by decide +kernel
theorem dX8_append_24 : decode cX8_append 24 = .ok (.getfield 36, 3) := by decide +kernel
theorem dX8_append_27 : decode cX8_append 27 = .ok (.getfield 421, 3) := by decide +kernel
theorem dX8_append_30 : decode cX8_append 30 = .ok (.bipush 80, 2) := by decide +kernel
theorem dX8_append_32 : decode cX8_append 32 = .ok (.if_icmp .lt 14, 3) := by decide +kernel
theorem dX8_append_35 : decode cX8_append 35 = .ok (.new 130, 3) := by decide +kernel
theorem dX8_append_38 : decode cX8_append 38 = .ok (.dup, 1) := by decide +kernel
theorem dX8_append_39 : decode cX8_append 39 = .ok (.ldc_w 422, 3) := by decide +kernel
theorem dX8_append_42 : decode cX8_append 42 = .ok (.invokespecial 134, 3) := by decide +kernel
theorem dX8_append_45 : decode cX8_append 45 = .ok (.athrow, 1) := by decide +kernel
theorem dX8_append_46 : decode cX8_append 46 = .ok (.aload_n 0, 1) := by decide +kernel
theorem dX8_append_47 : decode cX8_append 47 = .ok (.getfield 36, 3) := by decide +kernel
theorem dX8_append_50 : decode cX8_append 50 = .ok (.iload_n 1, 1) := by decide +kernel
theorem dX8_append_51 : decode cX8_append 51 = .ok (.invokevirtual 424, 3) := by decide +kernel
theorem dX8_append_54 : decode cX8_append 54 = .ok (.aload_n 0, 1) := by decide +kernel
theorem dX8_append_55 : decode cX8_append 55 = .ok (.getfield 36, 3) := by decide +kernel
theorem dX8_append_58 : decode cX8_append 58 = .ok (.getfield 421, 3) := by decide +kernel
theorem dX8_append_61 : decode cX8_append 61 = .ok (.ireturn, 1) := by decide +kernel
set_option maxRecDepth 100000 in
set_option maxHeartbeats 4000000 in
theorem w8_append_ok {l : Launch} {idx : List (Nat × Nat)} {μ : Mem} {a1 : Int32} {P : Int32 → Mem → Prop} {X : String → Mem → Prop} (hl : l.stackTraces = false) (hI : IdxOK idx) (hk : w8_append_wp μ a1 P X) : PMet l yX8_append (.code yX8_append cX8_append 2 (some .int)) 8 1 6 idx [pR 40 0, pI a1] μ (qI P) X := by
  refine PMet_of mv_X8_append.2.2.2.2.2.2 hl hI mv_X8_append.2.2.2.1 rfl (Nat.le_of_ble_eq_true rfl) (fun G _ _ C hRt hHR hnT => ?_)
  show PW G 1 6 0 [some (pR 40 0), some (pI a1)] [] μ
  unfold w8_append_wp at hk
  refine px_iload_n (i := 1) C dX8_append_0 rfl rfl ?_
  refine px_bipush (v := (32 : Int32)) C dX8_append_1 rfl ?_
  refine px_icmp_lt (tgt := 12) C dX8_append_3 (by decide) (fun c4 => ?_) (fun c4 => ?_)
  · replace hk := hk.1 c4
    exact px_throww (h9 := 0) C (HR_le hHR (Nat.le_of_ble_eq_true rfl)) hRt hnT tk_IllegalArgumentException ti_IllegalArgumentException tw_IllegalArgumentException (by decide +kernel) (List.mem_of_getElem? (i := 30) rfl) dX8_append_12 dX8_append_15 dX8_append_16 dX8_append_19 dX8_append_22 rfl (Nat.le_of_ble_eq_true rfl) (Nat.le_of_ble_eq_true rfl) hk
  · replace hk := hk.2 c4
    refine px_iload_n (i := 1) C dX8_append_6 rfl rfl ?_
    refine px_bipush (v := (126 : Int32)) C dX8_append_7 rfl ?_
    refine px_icmp_le (tgt := 23) C dX8_append_9 (by decide) (fun c3 => ?_) (fun c3 => ?_)
    · replace hk := hk.1 c3
      refine px_aload_n (i := 0) C dX8_append_23 rfl rfl ?_
      refine px_getr C dX8_append_24 fl_RX8_36 rfl rfl rfl ?_
      refine px_geti 2433 C dX8_append_27 fl_RX8_421 rfl rfl rfl rfl ?_
      refine px_bipush (v := (80 : Int32)) C dX8_append_30 rfl ?_
      refine px_icmp_lt (tgt := 46) C dX8_append_32 (by decide) (fun c2 => ?_) (fun c2 => ?_)
      · replace hk := hk.1 c2
        refine px_aload_n (i := 0) C dX8_append_46 rfl rfl ?_
        refine px_getr C dX8_append_47 fl_RX8_36 rfl rfl rfl ?_
        refine px_iload_n (i := 1) C dX8_append_50 rfl rfl ?_
        refine px_callVv (h := 1) (rc' := 0) (rs' := 0) C (HR_le hHR (Nat.le_of_ble_eq_true rfl)) hRt hnT dX8_append_51 (gw6 122 rfl rfl) mv_X4_put (w4_put_ok (PCx_l C) (PCx_I C) hk) rfl rfl rfl rfl rfl (Nat.le_of_ble_eq_true rfl) (Nat.le_of_ble_eq_true rfl) (Nat.le_of_ble_eq_true rfl) (Nat.le_of_ble_eq_true rfl) ?_
        intro μ1 hk
        refine px_aload_n (i := 0) C dX8_append_54 rfl rfl ?_
        refine px_getr C dX8_append_55 fl_RX8_36 rfl rfl rfl ?_
        refine px_geti 2433 C dX8_append_58 fl_RX8_421 rfl rfl rfl rfl ?_
        exact px_iret C hRt dX8_append_61 rfl rfl hk
      · replace hk := hk.2 c2
        exact px_throww (h9 := 0) C (HR_le hHR (Nat.le_of_ble_eq_true rfl)) hRt hnT tk_IllegalStateException ti_IllegalStateException tw_IllegalStateException (by decide +kernel) (List.mem_of_getElem? (i := 31) rfl) dX8_append_35 dX8_append_38 dX8_append_39 dX8_append_42 dX8_append_45 rfl (Nat.le_of_ble_eq_true rfl) (Nat.le_of_ble_eq_true rfl) hk
    · replace hk := hk.2 c3
      exact px_throww (h9 := 0) C (HR_le hHR (Nat.le_of_ble_eq_true rfl)) hRt hnT tk_IllegalArgumentException ti_IllegalArgumentException tw_IllegalArgumentException (by decide +kernel) (List.mem_of_getElem? (i := 30) rfl) dX8_append_12 dX8_append_15 dX8_append_16 dX8_append_19 dX8_append_22 rfl (Nat.le_of_ble_eq_true rfl) (Nat.le_of_ble_eq_true rfl) hk
theorem dX9_chooses_0 : decode cX9_chooses 0 = .ok (.iconst 0, 1) := by decide +kernel
theorem dX9_chooses_1 : decode cX9_chooses 1 = .ok (.istore_n 1, 1) := by decide +kernel
theorem dX9_chooses_2 : decode cX9_chooses 2 = .ok (.iload_n 1, 1) := by decide +kernel
theorem dX9_chooses_3 : decode cX9_chooses 3 = .ok (.bipush 8, 2) := by decide +kernel
theorem dX9_chooses_5 : decode cX9_chooses 5 = .ok (.if_icmp .ge 215, 3) := by decide +kernel
theorem dX9_chooses_8 : decode cX9_chooses 8 = .ok (.ldc 106, 2) := by decide +kernel
theorem dX9_chooses_10 : decode cX9_chooses 10 = .ok (.istore_n 2, 1) := by decide +kernel
theorem dX9_chooses_11 : decode cX9_chooses 11 = .ok (.ldc 98, 2) := by decide +kernel
theorem dX9_chooses_13 : decode cX9_chooses 13 = .ok (.istore_n 3, 1) := by decide +kernel
theorem dX9_chooses_14 : decode cX9_chooses 14 = .ok (.iconst 0, 1) := by decide +kernel
theorem dX9_chooses_15 : decode cX9_chooses 15 = .ok (.istore 4, 2) := by decide +kernel
theorem dX9_chooses_17 : decode cX9_chooses 17 = .ok (.iload 4, 2) := by decide +kernel
theorem dX9_chooses_19 : decode cX9_chooses 19 = .ok (.iload_n 1, 1) := by decide +kernel
theorem dX9_chooses_20 : decode cX9_chooses 20 = .ok (.if_icmp .ge 133, 3) := by decide +kernel
theorem dX9_chooses_23 : decode cX9_chooses 23 = .ok (.aload_n 0, 1) := by decide +kernel
theorem dX9_chooses_24 : decode cX9_chooses 24 = .ok (.getfield 32, 3) := by decide +kernel
theorem dX9_chooses_27 : decode cX9_chooses 27 = .ok (.bipush 8, 2) := by decide +kernel
theorem dX9_chooses_29 : decode cX9_chooses 29 = .ok (.iload 4, 2) := by decide +kernel
theorem dX9_chooses_31 : decode cX9_chooses 31 = .ok (.imul, 1) := by decide +kernel
theorem dX9_chooses_32 : decode cX9_chooses 32 = .ok (.iload_n 1, 1) := by decide +kernel
theorem dX9_chooses_33 : decode cX9_chooses 33 = .ok (.iadd, 1) := by decide +kernel
theorem dX9_chooses_34 : decode cX9_chooses 34 = .ok (.iaload, 1) := by decide +kernel
theorem dX9_chooses_35 : decode cX9_chooses 35 = .ok (.ldc 98, 2) := by decide +kernel
theorem dX9_chooses_37 : decode cX9_chooses 37 = .ok (.if_icmp .ge 48, 3) := by decide +kernel
theorem dX9_chooses_40 : decode cX9_chooses 40 = .ok (.aload_n 0, 1) := by decide +kernel
theorem dX9_chooses_41 : decode cX9_chooses 41 = .ok (.getfield 38, 3) := by decide +kernel
theorem dX9_chooses_44 : decode cX9_chooses 44 = .ok (.iload 4, 2) := by decide +kernel
theorem dX9_chooses_46 : decode cX9_chooses 46 = .ok (.iaload, 1) := by decide +kernel
theorem dX9_chooses_47 : decode cX9_chooses 47 = .ok (.aload_n 0, 1) := by decide +kernel
theorem dX9_chooses_48 : decode cX9_chooses 48 = .ok (.getfield 32, 3) := by decide +kernel
theorem dX9_chooses_51 : decode cX9_chooses 51 = .ok (.bipush 8, 2) := by decide +kernel
theorem dX9_chooses_53 : decode cX9_chooses 53 = .ok (.iload 4, 2) := by decide +kernel
theorem dX9_chooses_55 : decode cX9_chooses 55 = .ok (.imul, 1) := by decide +kernel
theorem dX9_chooses_56 : decode cX9_chooses 56 = .ok (.iload_n 1, 1) := by decide +kernel
theorem dX9_chooses_57 : decode cX9_chooses 57 = .ok (.iadd, 1) := by decide +kernel
theorem dX9_chooses_58 : decode cX9_chooses 58 = .ok (.iaload, 1) := by decide +kernel
theorem dX9_chooses_59 : decode cX9_chooses 59 = .ok (.iadd, 1) := by decide +kernel
theorem dX9_chooses_60 : decode cX9_chooses 60 = .ok (.iload_n 3, 1) := by decide +kernel
theorem dX9_chooses_61 : decode cX9_chooses 61 = .ok (.if_icmp .ge 24, 3) := by decide +kernel
theorem dX9_chooses_64 : decode cX9_chooses 64 = .ok (.aload_n 0, 1) := by decide +kernel
theorem dX9_chooses_65 : decode cX9_chooses 65 = .ok (.getfield 38, 3) := by decide +kernel
theorem dX9_chooses_68 : decode cX9_chooses 68 = .ok (.iload 4, 2) := by decide +kernel
theorem dX9_chooses_70 : decode cX9_chooses 70 = .ok (.iaload, 1) := by decide +kernel
theorem dX9_chooses_71 : decode cX9_chooses 71 = .ok (.aload_n 0, 1) := by decide +kernel
theorem dX9_chooses_72 : decode cX9_chooses 72 = .ok (.getfield 32, 3) := by decide +kernel
theorem dX9_chooses_75 : decode cX9_chooses 75 = .ok (.bipush 8, 2) := by decide +kernel
theorem dX9_chooses_77 : decode cX9_chooses 77 = .ok (.iload 4, 2) := by decide +kernel
theorem dX9_chooses_79 : decode cX9_chooses 79 = .ok (.imul, 1) := by decide +kernel
theorem dX9_chooses_80 : decode cX9_chooses 80 = .ok (.iload_n 1, 1) := by decide +kernel
theorem dX9_chooses_81 : decode cX9_chooses 81 = .ok (.iadd, 1) := by decide +kernel
theorem dX9_chooses_82 : decode cX9_chooses 82 = .ok (.iaload, 1) := by decide +kernel
theorem dX9_chooses_83 : decode cX9_chooses 83 = .ok (.iadd, 1) := by decide +kernel
theorem dX9_chooses_84 : decode cX9_chooses 84 = .ok (.istore_n 3, 1) := by decide +kernel
theorem dX9_chooses_85 : decode cX9_chooses 85 = .ok (.aload_n 0, 1) := by decide +kernel
theorem dX9_chooses_86 : decode cX9_chooses 86 = .ok (.getfield 32, 3) := by decide +kernel
theorem dX9_chooses_89 : decode cX9_chooses 89 = .ok (.bipush 8, 2) := by decide +kernel
theorem dX9_chooses_91 : decode cX9_chooses 91 = .ok (.iload_n 1, 1) := by decide +kernel
theorem dX9_chooses_92 : decode cX9_chooses 92 = .ok (.imul, 1) := by decide +kernel
theorem dX9_chooses_93 : decode cX9_chooses 93 = .ok (.iload 4, 2) := by decide +kernel
theorem dX9_chooses_95 : decode cX9_chooses 95 = .ok (.iadd, 1) := by decide +kernel
theorem dX9_chooses_96 : decode cX9_chooses 96 = .ok (.iaload, 1) := by decide +kernel
theorem dX9_chooses_97 : decode cX9_chooses 97 = .ok (.ldc 98, 2) := by decide +kernel
theorem dX9_chooses_99 : decode cX9_chooses 99 = .ok (.if_icmp .ge 48, 3) := by decide +kernel
theorem dX9_chooses_102 : decode cX9_chooses 102 = .ok (.aload_n 0, 1) := by decide +kernel
theorem dX9_chooses_103 : decode cX9_chooses 103 = .ok (.getfield 38, 3) := by decide +kernel
theorem dX9_chooses_106 : decode cX9_chooses 106 = .ok (.iload 4, 2) := by decide +kernel
theorem dX9_chooses_108 : decode cX9_chooses 108 = .ok (.iaload, 1) := by decide +kernel
theorem dX9_chooses_109 : decode cX9_chooses 109 = .ok (.aload_n 0, 1) := by decide +kernel
theorem dX9_chooses_110 : decode cX9_chooses 110 = .ok (.getfield 32, 3) := by decide +kernel
theorem dX9_chooses_113 : decode cX9_chooses 113 = .ok (.bipush 8, 2) := by decide +kernel
theorem dX9_chooses_115 : decode cX9_chooses 115 = .ok (.iload_n 1, 1) := by decide +kernel
theorem dX9_chooses_116 : decode cX9_chooses 116 = .ok (.imul, 1) := by decide +kernel
theorem dX9_chooses_117 : decode cX9_chooses 117 = .ok (.iload 4, 2) := by decide +kernel
theorem dX9_chooses_119 : decode cX9_chooses 119 = .ok (.iadd, 1) := by decide +kernel
theorem dX9_chooses_120 : decode cX9_chooses 120 = .ok (.iaload, 1) := by decide +kernel
theorem dX9_chooses_121 : decode cX9_chooses 121 = .ok (.isub, 1) := by decide +kernel
theorem dX9_chooses_122 : decode cX9_chooses 122 = .ok (.iload_n 2, 1) := by decide +kernel
theorem dX9_chooses_123 : decode cX9_chooses 123 = .ok (.if_icmp .le 24, 3) := by decide +kernel
theorem dX9_chooses_126 : decode cX9_chooses 126 = .ok (.aload_n 0, 1) := by decide +kernel
theorem dX9_chooses_127 : decode cX9_chooses 127 = .ok (.getfield 38, 3) := by decide +kernel
theorem dX9_chooses_130 : decode cX9_chooses 130 = .ok (.iload 4, 2) := by decide +kernel
theorem dX9_chooses_132 : decode cX9_chooses 132 = .ok (.iaload, 1) := by decide +kernel
theorem dX9_chooses_133 : decode cX9_chooses 133 = .ok (.aload_n 0, 1) := by decide +kernel
theorem dX9_chooses_134 : decode cX9_chooses 134 = .ok (.getfield 32, 3) := by decide +kernel
theorem dX9_chooses_137 : decode cX9_chooses 137 = .ok (.bipush 8, 2) := by decide +kernel
theorem dX9_chooses_139 : decode cX9_chooses 139 = .ok (.iload_n 1, 1) := by decide +kernel
theorem dX9_chooses_140 : decode cX9_chooses 140 = .ok (.imul, 1) := by decide +kernel
theorem dX9_chooses_141 : decode cX9_chooses 141 = .ok (.iload 4, 2) := by decide +kernel
theorem dX9_chooses_143 : decode cX9_chooses 143 = .ok (.iadd, 1) := by decide +kernel
theorem dX9_chooses_144 : decode cX9_chooses 144 = .ok (.iaload, 1) := by decide +kernel
theorem dX9_chooses_145 : decode cX9_chooses 145 = .ok (.isub, 1) := by decide +kernel
theorem dX9_chooses_146 : decode cX9_chooses 146 = .ok (.istore_n 2, 1) := by decide +kernel
theorem dX9_chooses_147 : decode cX9_chooses 147 = .ok (.iinc 4 1, 3) := by decide +kernel
theorem dX9_chooses_150 : decode cX9_chooses 150 = .ok (.goto (-133), 3) := by decide +kernel
theorem dX9_chooses_153 : decode cX9_chooses 153 = .ok (.iload_n 2, 1) := by decide +kernel
theorem dX9_chooses_154 : decode cX9_chooses 154 = .ok (.ldc 106, 2) := by decide +kernel
theorem dX9_chooses_156 : decode cX9_chooses 156 = .ok (.if_icmp .eq 9, 3) := by decide +kernel
theorem dX9_chooses_159 : decode cX9_chooses 159 = .ok (.iload_n 3, 1) := by decide +kernel
theorem dX9_chooses_160 : decode cX9_chooses 160 = .ok (.ldc 98, 2) := by decide +kernel
theorem dX9_chooses_162 : decode cX9_chooses 162 = .ok (.if_icmp .ne 7, 3) := by decide +kernel
theorem dX9_chooses_165 : decode cX9_chooses 165 = .ok (.iconst 1, 1) := by decide +kernel
theorem dX9_chooses_166 : decode cX9_chooses 166 = .ok (.goto 4, 3) := by decide +kernel
theorem dX9_chooses_169 : decode cX9_chooses 169 = .ok (.iconst 0, 1) := by decide +kernel
theorem dX9_chooses_170 : decode cX9_chooses 170 = .ok (.istore 4, 2) := by decide +kernel
theorem dX9_chooses_172 : decode cX9_chooses 172 = .ok (.aload_n 0, 1) := by decide +kernel
theorem dX9_chooses_173 : decode cX9_chooses 173 = .ok (.getfield 38, 3) := by decide +kernel
theorem dX9_chooses_176 : decode cX9_chooses 176 = .ok (.iload_n 1, 1) := by decide +kernel
theorem dX9_chooses_177 : decode cX9_chooses 177 = .ok (.iload 4, 2) := by decide +kernel
theorem dX9_chooses_179 : decode cX9_chooses 179 = .ok (.ifCond .eq 7, 3) := by decide +kernel
theorem dX9_chooses_182 : decode cX9_chooses 182 = .ok (.iconst 0, 1) := by decide +kernel
theorem dX9_chooses_183 : decode cX9_chooses 183 = .ok (.goto 10, 3) := by decide +kernel
theorem dX9_chooses_186 : decode cX9_chooses 186 = .ok (.iload_n 2, 1) := by decide +kernel
theorem dX9_chooses_187 : decode cX9_chooses 187 = .ok (.iload_n 3, 1) := by decide +kernel
theorem dX9_chooses_188 : decode cX9_chooses 188 = .ok (.iadd, 1) := by decide +kernel
theorem dX9_chooses_189 : decode cX9_chooses 189 = .ok (.iconst 2, 1) := by decide +kernel
theorem dX9_chooses_190 : decode cX9_chooses 190 = .ok (.invokestatic 107, 3) := by decide +kernel
theorem dX9_chooses_193 : decode cX9_chooses 193 = .ok (.iastore, 1) := by decide +kernel
theorem dX9_chooses_194 : decode cX9_chooses 194 = .ok (.aload_n 0, 1) := by decide +kernel
theorem dX9_chooses_195 : decode cX9_chooses 195 = .ok (.getfield 41, 3) := by decide +kernel
theorem dX9_chooses_198 : decode cX9_chooses 198 = .ok (.iload_n 1, 1) := by decide +kernel
theorem dX9_chooses_199 : decode cX9_chooses 199 = .ok (.iload 4, 2) := by decide +kernel
theorem dX9_chooses_201 : decode cX9_chooses 201 = .ok (.ifCond .eq 7, 3) := by decide +kernel
theorem dX9_chooses_204 : decode cX9_chooses 204 = .ok (.iconst (-1), 1) := by decide +kernel
theorem dX9_chooses_205 : decode cX9_chooses 205 = .ok (.goto 8, 3) := by decide +kernel
theorem dX9_chooses_208 : decode cX9_chooses 208 = .ok (.iload_n 3, 1) := by decide +kernel
theorem dX9_chooses_209 : decode cX9_chooses 209 = .ok (.iload_n 2, 1) := by decide +kernel
theorem dX9_chooses_210 : decode cX9_chooses 210 = .ok (.isub, 1) := by decide +kernel
theorem dX9_chooses_211 : decode cX9_chooses 211 = .ok (.iconst 1, 1) := by decide +kernel
theorem dX9_chooses_212 : decode cX9_chooses 212 = .ok (.iadd, 1) := by decide +kernel
theorem dX9_chooses_213 : decode cX9_chooses 213 = .ok (.iastore, 1) := by decide +kernel
theorem dX9_chooses_214 : decode cX9_chooses 214 = .ok (.iinc 1 1, 3) := by decide +kernel
theorem dX9_chooses_217 : decode cX9_chooses 217 = .ok (.goto (-215), 3) := by decide +kernel
theorem dX9_chooses_220 : decode cX9_chooses 220 = .ok (.return_, 1) := by decide +kernel
set_option maxRecDepth 100000 in
set_option maxHeartbeats 4000000 in
theorem w9_chooses_b193_ok {G : GT} {P : Mem → Prop} {X : String → Mem → Prop} (C : PCx G cX9_chooses 5 RX9) (hRt : PRt G none (qV P) X) (hHR : HR G (1)) (hnT : NoT G) {R2 : Mem → Int32 → Prop} (hR2 : ∀ (μ : Mem) (l1 : Int32), R2 μ l1 → PW G 0 0 2 [some (pR 50 0), some (pI l1), none, none, none] [] μ) {μ : Mem} {l1 : Int32} {l2 : Int32} {l3 : Int32} {l4 : Int32} {s0 : Int32} {s1 : Int32} (hk : w9_chooses_b193 P R2 μ l1 l2 l3 l4 s0 s1) : PW G 0 0 193 [some (pR 50 0), some (pI l1), some (pI l2), some (pI l3), some (pI l4)] [pI s0, pI s1, pR 59 0] μ := by
  unfold w9_chooses_b193 at hk
  obtain ⟨o3, hk⟩ := hk
  replace hk := hk _ rfl
  refine px_iast 3776 C dX9_chooses_193 rfl rfl rfl rfl o3 ?_
  refine px_aload_n (i := 0) C dX9_chooses_194 rfl rfl ?_
  refine px_getr C dX9_chooses_195 fl_RX9_41 rfl rfl rfl ?_
  refine px_iload_n (i := 1) C dX9_chooses_198 rfl rfl ?_
  refine px_iload (i := 4) C dX9_chooses_199 rfl ?_
  refine px_if_eq (tgt := 208) C dX9_chooses_201 (by decide) (fun c9 => ?_) (fun c9 => ?_)
  · replace hk := hk.1 c9
    refine px_iload_n (i := 3) C dX9_chooses_208 rfl rfl ?_
    refine px_iload_n (i := 2) C dX9_chooses_209 rfl rfl ?_
    refine px_isub C dX9_chooses_210 ?_
    refine px_iconst (v := (1 : Int32)) C dX9_chooses_211 rfl ?_
    refine px_iadd C dX9_chooses_212 ?_
    obtain ⟨o5, hk⟩ := hk
    replace hk := hk _ rfl
    refine px_iast 3840 C dX9_chooses_213 rfl rfl rfl rfl o5 ?_
    refine px_iinc (i := 1) (v := (1 : Int32)) C dX9_chooses_214 rfl rfl (by decide) rfl ?_
    refine px_goto (tgt := 2) C dX9_chooses_217 (by decide) ?_
    exact PW_at (hR2 _ _ hk) (And.intro rfl (And.intro rfl trivial)) (Nat.le_of_ble_eq_true rfl) (Nat.le_of_ble_eq_true rfl)
  · replace hk := hk.2 c9
    refine px_iconst (v := (-1 : Int32)) C dX9_chooses_204 rfl ?_
    refine px_goto (tgt := 213) C dX9_chooses_205 (by decide) ?_
    obtain ⟨o7, hk⟩ := hk
    replace hk := hk _ rfl
    refine px_iast 3840 C dX9_chooses_213 rfl rfl rfl rfl o7 ?_
    refine px_iinc (i := 1) (v := (1 : Int32)) C dX9_chooses_214 rfl rfl (by decide) rfl ?_
    refine px_goto (tgt := 2) C dX9_chooses_217 (by decide) ?_
    exact PW_at (hR2 _ _ hk) (And.intro rfl (And.intro rfl trivial)) (Nat.le_of_ble_eq_true rfl) (Nat.le_of_ble_eq_true rfl)
set_option maxRecDepth 100000 in
set_option maxHeartbeats 4000000 in
theorem w9_chooses_b170_ok {G : GT} {P : Mem → Prop} {X : String → Mem → Prop} (C : PCx G cX9_chooses 5 RX9) (hRt : PRt G none (qV P) X) (hHR : HR G (1)) (hnT : NoT G) {R2 : Mem → Int32 → Prop} (hR2 : ∀ (μ : Mem) (l1 : Int32), R2 μ l1 → PW G 0 0 2 [some (pR 50 0), some (pI l1), none, none, none] [] μ) {μ : Mem} {l1 : Int32} {l2 : Int32} {l3 : Int32} {s0 : Int32} (hk : w9_chooses_b170 P R2 μ l1 l2 l3 s0) : PW G 0 0 170 [some (pR 50 0), some (pI l1), some (pI l2), some (pI l3), none] [pI s0] μ := by
  unfold w9_chooses_b170 at hk
  refine px_istore (i := 4) C dX9_chooses_170 (by decide) rfl ?_
  refine px_aload_n (i := 0) C dX9_chooses_172 rfl rfl ?_
  refine px_getr C dX9_chooses_173 fl_RX9_38 rfl rfl rfl ?_
  refine px_iload_n (i := 1) C dX9_chooses_176 rfl rfl ?_
  refine px_iload (i := 4) C dX9_chooses_177 rfl ?_
  refine px_if_eq (tgt := 186) C dX9_chooses_179 (by decide) (fun c10 => ?_) (fun c10 => ?_)
  · replace hk := hk.1 c10
    refine px_iload_n (i := 2) C dX9_chooses_186 rfl rfl ?_
    refine px_iload_n (i := 3) C dX9_chooses_187 rfl rfl ?_
    refine px_iadd C dX9_chooses_188 ?_
    refine px_iconst (v := (2 : Int32)) C dX9_chooses_189 rfl ?_
    refine px_callSi (h := 0) (rc' := 0) (rs' := 0) C (HR_le hHR (Nat.le_of_ble_eq_true rfl)) hRt hnT dX9_chooses_190 (gw8 230 rfl rfl) ms_J9_floorDiv_7cf53 (J9_floorDiv_7cf53_ok (PCx_l C) (PCx_I C) hk) rfl rfl (Nat.le_of_ble_eq_true rfl) (Nat.le_of_ble_eq_true rfl) (Nat.le_of_ble_eq_true rfl) (Nat.le_of_ble_eq_true rfl) ?_
    intro r2 μ1 hk
    exact PW_at (w9_chooses_b193_ok C hRt hHR hnT hR2 hk) (And.intro rfl (And.intro rfl (And.intro rfl (And.intro rfl (And.intro rfl trivial))))) (Nat.le_of_ble_eq_true rfl) (Nat.le_of_ble_eq_true rfl)
  · replace hk := hk.2 c10
    refine px_iconst (v := (0 : Int32)) C dX9_chooses_182 rfl ?_
    refine px_goto (tgt := 193) C dX9_chooses_183 (by decide) ?_
    exact PW_at (w9_chooses_b193_ok C hRt hHR hnT hR2 hk) (And.intro rfl (And.intro rfl (And.intro rfl (And.intro rfl (And.intro rfl trivial))))) (Nat.le_of_ble_eq_true rfl) (Nat.le_of_ble_eq_true rfl)
set_option maxRecDepth 100000 in
set_option maxHeartbeats 4000000 in
theorem w9_chooses_b85_ok {G : GT} {P : Mem → Prop} {X : String → Mem → Prop} (C : PCx G cX9_chooses 5 RX9) (hRt : PRt G none (qV P) X) (hHR : HR G (1)) (hnT : NoT G) {R2 : Mem → Int32 → Prop} (hR2 : ∀ (μ : Mem) (l1 : Int32), R2 μ l1 → PW G 0 0 2 [some (pR 50 0), some (pI l1), none, none, none] [] μ) {R17 : Mem → Int32 → Int32 → Int32 → Int32 → Prop} (hR17 : ∀ (μ : Mem) (l1 : Int32) (l2 : Int32) (l3 : Int32) (l4 : Int32), R17 μ l1 l2 l3 l4 → PW G 0 0 17 [some (pR 50 0), some (pI l1), some (pI l2), some (pI l3), some (pI l4)] [] μ) {μ : Mem} {l1 : Int32} {l2 : Int32} {l3 : Int32} {l4 : Int32} (hk : w9_chooses_b85 P R2 R17 μ l1 l2 l3 l4) : PW G 0 0 85 [some (pR 50 0), some (pI l1), some (pI l2), some (pI l3), some (pI l4)] [] μ := by
  unfold w9_chooses_b85 at hk
  refine px_aload_n (i := 0) C dX9_chooses_85 rfl rfl ?_
  refine px_getr C dX9_chooses_86 fl_RX9_32 rfl rfl rfl ?_
  refine px_bipush (v := (8 : Int32)) C dX9_chooses_89 rfl ?_
  refine px_iload_n (i := 1) C dX9_chooses_91 rfl rfl ?_
  refine px_imul C dX9_chooses_92 ?_
  refine px_iload (i := 4) C dX9_chooses_93 rfl ?_
  refine px_iadd C dX9_chooses_95 ?_
  obtain ⟨o14, hk⟩ := hk
  refine px_iald 3648 C dX9_chooses_96 rfl rfl rfl rfl o14 ?_
  refine px_ldc (v := (100000000 : Int32)) C dX9_chooses_97 (gw8 216 rfl rfl) ?_
  refine px_icmp_ge (tgt := 147) C dX9_chooses_99 (by decide) (fun c20 => ?_) (fun c20 => ?_)
  · replace hk := hk.1 c20
    refine px_iinc (i := 4) (v := (1 : Int32)) C dX9_chooses_147 rfl rfl (by decide) rfl ?_
    refine px_goto (tgt := 17) C dX9_chooses_150 (by decide) ?_
    exact PW_at (hR17 _ _ _ _ _ hk) (And.intro rfl (And.intro rfl (And.intro rfl (And.intro rfl (And.intro rfl trivial))))) (Nat.le_of_ble_eq_true rfl) (Nat.le_of_ble_eq_true rfl)
  · replace hk := hk.2 c20
    refine px_aload_n (i := 0) C dX9_chooses_102 rfl rfl ?_
    refine px_getr C dX9_chooses_103 fl_RX9_38 rfl rfl rfl ?_
    refine px_iload (i := 4) C dX9_chooses_106 rfl ?_
    obtain ⟨o15, hk⟩ := hk
    refine px_iald 3776 C dX9_chooses_108 rfl rfl rfl rfl o15 ?_
    refine px_aload_n (i := 0) C dX9_chooses_109 rfl rfl ?_
    refine px_getr C dX9_chooses_110 fl_RX9_32 rfl rfl rfl ?_
    refine px_bipush (v := (8 : Int32)) C dX9_chooses_113 rfl ?_
    refine px_iload_n (i := 1) C dX9_chooses_115 rfl rfl ?_
    refine px_imul C dX9_chooses_116 ?_
    refine px_iload (i := 4) C dX9_chooses_117 rfl ?_
    refine px_iadd C dX9_chooses_119 ?_
    obtain ⟨o16, hk⟩ := hk
    refine px_iald 3648 C dX9_chooses_120 rfl rfl rfl rfl o16 ?_
    refine px_isub C dX9_chooses_121 ?_
    refine px_iload_n (i := 2) C dX9_chooses_122 rfl rfl ?_
    refine px_icmp_le (tgt := 147) C dX9_chooses_123 (by decide) (fun c19 => ?_) (fun c19 => ?_)
    · replace hk := hk.1 c19
      refine px_iinc (i := 4) (v := (1 : Int32)) C dX9_chooses_147 rfl rfl (by decide) rfl ?_
      refine px_goto (tgt := 17) C dX9_chooses_150 (by decide) ?_
      exact PW_at (hR17 _ _ _ _ _ hk) (And.intro rfl (And.intro rfl (And.intro rfl (And.intro rfl (And.intro rfl trivial))))) (Nat.le_of_ble_eq_true rfl) (Nat.le_of_ble_eq_true rfl)
    · replace hk := hk.2 c19
      refine px_aload_n (i := 0) C dX9_chooses_126 rfl rfl ?_
      refine px_getr C dX9_chooses_127 fl_RX9_38 rfl rfl rfl ?_
      refine px_iload (i := 4) C dX9_chooses_130 rfl ?_
      obtain ⟨o17, hk⟩ := hk
      refine px_iald 3776 C dX9_chooses_132 rfl rfl rfl rfl o17 ?_
      refine px_aload_n (i := 0) C dX9_chooses_133 rfl rfl ?_
      refine px_getr C dX9_chooses_134 fl_RX9_32 rfl rfl rfl ?_
      refine px_bipush (v := (8 : Int32)) C dX9_chooses_137 rfl ?_
      refine px_iload_n (i := 1) C dX9_chooses_139 rfl rfl ?_
      refine px_imul C dX9_chooses_140 ?_
      refine px_iload (i := 4) C dX9_chooses_141 rfl ?_
      refine px_iadd C dX9_chooses_143 ?_
      obtain ⟨o18, hk⟩ := hk
      refine px_iald 3648 C dX9_chooses_144 rfl rfl rfl rfl o18 ?_
      refine px_isub C dX9_chooses_145 ?_
      refine px_istore_n (i := 2) C dX9_chooses_146 rfl (by decide) rfl ?_
      refine px_iinc (i := 4) (v := (1 : Int32)) C dX9_chooses_147 rfl rfl (by decide) rfl ?_
      refine px_goto (tgt := 17) C dX9_chooses_150 (by decide) ?_
      exact PW_at (hR17 _ _ _ _ _ hk) (And.intro rfl (And.intro rfl (And.intro rfl (And.intro rfl (And.intro rfl trivial))))) (Nat.le_of_ble_eq_true rfl) (Nat.le_of_ble_eq_true rfl)
set_option maxRecDepth 100000 in
set_option maxHeartbeats 4000000 in
theorem w9_chooses_b17_ok {G : GT} {P : Mem → Prop} {X : String → Mem → Prop} (C : PCx G cX9_chooses 5 RX9) (hRt : PRt G none (qV P) X) (hHR : HR G (1)) (hnT : NoT G) {R2 : Mem → Int32 → Prop} (hR2 : ∀ (μ : Mem) (l1 : Int32), R2 μ l1 → PW G 0 0 2 [some (pR 50 0), some (pI l1), none, none, none] [] μ) {μ : Mem} {l1 : Int32} {l2 : Int32} {l3 : Int32} {l4 : Int32} (hk : w9_chooses_b17 P R2 μ l1 l2 l3 l4) : PW G 0 0 17 [some (pR 50 0), some (pI l1), some (pI l2), some (pI l3), some (pI l4)] [] μ := by
  refine hk (fun (μ : Mem) (l1 : Int32) (l2 : Int32) (l3 : Int32) (l4 : Int32) => PW G 0 0 17 [some (pR 50 0), some (pI l1), some (pI l2), some (pI l3), some (pI l4)] [] μ) (fun (μ : Mem) l1 l2 l3 l4 hk => ?_)
  have hR17 : ∀ (μ : Mem) (l1 : Int32) (l2 : Int32) (l3 : Int32) (l4 : Int32), PW G 0 0 17 [some (pR 50 0), some (pI l1), some (pI l2), some (pI l3), some (pI l4)] [] μ → PW G 0 0 17 [some (pR 50 0), some (pI l1), some (pI l2), some (pI l3), some (pI l4)] [] μ := fun _ _ _ _ _ h => h
  unfold w9_chooses_b17_body at hk
  refine px_iload (i := 4) C dX9_chooses_17 rfl ?_
  refine px_iload_n (i := 1) C dX9_chooses_19 rfl rfl ?_
  refine px_icmp_ge (tgt := 153) C dX9_chooses_20 (by decide) (fun c27 => ?_) (fun c27 => ?_)
  · replace hk := hk.1 c27
    refine px_iload_n (i := 2) C dX9_chooses_153 rfl rfl ?_
    refine px_ldc (v := (-100000000 : Int32)) C dX9_chooses_154 (gw8 229 rfl rfl) ?_
    refine px_icmp_eq (tgt := 165) C dX9_chooses_156 (by decide) (fun c12 => ?_) (fun c12 => ?_)
    · replace hk := hk.1 c12
      refine px_iconst (v := (1 : Int32)) C dX9_chooses_165 rfl ?_
      refine px_goto (tgt := 170) C dX9_chooses_166 (by decide) ?_
      exact PW_at (w9_chooses_b170_ok C hRt hHR hnT hR2 hk) (And.intro rfl (And.intro rfl (And.intro rfl (And.intro rfl trivial)))) (Nat.le_of_ble_eq_true rfl) (Nat.le_of_ble_eq_true rfl)
    · replace hk := hk.2 c12
      refine px_iload_n (i := 3) C dX9_chooses_159 rfl rfl ?_
      refine px_ldc (v := (100000000 : Int32)) C dX9_chooses_160 (gw8 216 rfl rfl) ?_
      refine px_icmp_ne (tgt := 169) C dX9_chooses_162 (by decide) (fun c11 => ?_) (fun c11 => ?_)
      · replace hk := hk.1 c11
        refine px_iconst (v := (0 : Int32)) C dX9_chooses_169 rfl ?_
        exact PW_at (w9_chooses_b170_ok C hRt hHR hnT hR2 hk) (And.intro rfl (And.intro rfl (And.intro rfl (And.intro rfl trivial)))) (Nat.le_of_ble_eq_true rfl) (Nat.le_of_ble_eq_true rfl)
      · replace hk := hk.2 c11
        refine px_iconst (v := (1 : Int32)) C dX9_chooses_165 rfl ?_
        refine px_goto (tgt := 170) C dX9_chooses_166 (by decide) ?_
        exact PW_at (w9_chooses_b170_ok C hRt hHR hnT hR2 hk) (And.intro rfl (And.intro rfl (And.intro rfl (And.intro rfl trivial)))) (Nat.le_of_ble_eq_true rfl) (Nat.le_of_ble_eq_true rfl)
  · replace hk := hk.2 c27
    refine px_aload_n (i := 0) C dX9_chooses_23 rfl rfl ?_
    refine px_getr C dX9_chooses_24 fl_RX9_32 rfl rfl rfl ?_
    refine px_bipush (v := (8 : Int32)) C dX9_chooses_27 rfl ?_
    refine px_iload (i := 4) C dX9_chooses_29 rfl ?_
    refine px_imul C dX9_chooses_31 ?_
    refine px_iload_n (i := 1) C dX9_chooses_32 rfl rfl ?_
    refine px_iadd C dX9_chooses_33 ?_
    obtain ⟨o13, hk⟩ := hk
    refine px_iald 3648 C dX9_chooses_34 rfl rfl rfl rfl o13 ?_
    refine px_ldc (v := (100000000 : Int32)) C dX9_chooses_35 (gw8 216 rfl rfl) ?_
    refine px_icmp_ge (tgt := 85) C dX9_chooses_37 (by decide) (fun c26 => ?_) (fun c26 => ?_)
    · replace hk := hk.1 c26
      exact PW_at (w9_chooses_b85_ok C hRt hHR hnT hR2 hR17 hk) (And.intro rfl (And.intro rfl (And.intro rfl (And.intro rfl (And.intro rfl trivial))))) (Nat.le_of_ble_eq_true rfl) (Nat.le_of_ble_eq_true rfl)
    · replace hk := hk.2 c26
      refine px_aload_n (i := 0) C dX9_chooses_40 rfl rfl ?_
      refine px_getr C dX9_chooses_41 fl_RX9_38 rfl rfl rfl ?_
      refine px_iload (i := 4) C dX9_chooses_44 rfl ?_
      obtain ⟨o21, hk⟩ := hk
      refine px_iald 3776 C dX9_chooses_46 rfl rfl rfl rfl o21 ?_
      refine px_aload_n (i := 0) C dX9_chooses_47 rfl rfl ?_
      refine px_getr C dX9_chooses_48 fl_RX9_32 rfl rfl rfl ?_
      refine px_bipush (v := (8 : Int32)) C dX9_chooses_51 rfl ?_
      refine px_iload (i := 4) C dX9_chooses_53 rfl ?_
      refine px_imul C dX9_chooses_55 ?_
      refine px_iload_n (i := 1) C dX9_chooses_56 rfl rfl ?_
      refine px_iadd C dX9_chooses_57 ?_
      obtain ⟨o22, hk⟩ := hk
      refine px_iald 3648 C dX9_chooses_58 rfl rfl rfl rfl o22 ?_
      refine px_iadd C dX9_chooses_59 ?_
      refine px_iload_n (i := 3) C dX9_chooses_60 rfl rfl ?_
      refine px_icmp_ge (tgt := 85) C dX9_chooses_61 (by decide) (fun c25 => ?_) (fun c25 => ?_)
      · replace hk := hk.1 c25
        exact PW_at (w9_chooses_b85_ok C hRt hHR hnT hR2 hR17 hk) (And.intro rfl (And.intro rfl (And.intro rfl (And.intro rfl (And.intro rfl trivial))))) (Nat.le_of_ble_eq_true rfl) (Nat.le_of_ble_eq_true rfl)
      · replace hk := hk.2 c25
        refine px_aload_n (i := 0) C dX9_chooses_64 rfl rfl ?_
        refine px_getr C dX9_chooses_65 fl_RX9_38 rfl rfl rfl ?_
        refine px_iload (i := 4) C dX9_chooses_68 rfl ?_
        obtain ⟨o23, hk⟩ := hk
        refine px_iald 3776 C dX9_chooses_70 rfl rfl rfl rfl o23 ?_
        refine px_aload_n (i := 0) C dX9_chooses_71 rfl rfl ?_
        refine px_getr C dX9_chooses_72 fl_RX9_32 rfl rfl rfl ?_
        refine px_bipush (v := (8 : Int32)) C dX9_chooses_75 rfl ?_
        refine px_iload (i := 4) C dX9_chooses_77 rfl ?_
        refine px_imul C dX9_chooses_79 ?_
        refine px_iload_n (i := 1) C dX9_chooses_80 rfl rfl ?_
        refine px_iadd C dX9_chooses_81 ?_
        obtain ⟨o24, hk⟩ := hk
        refine px_iald 3648 C dX9_chooses_82 rfl rfl rfl rfl o24 ?_
        refine px_iadd C dX9_chooses_83 ?_
        refine px_istore_n (i := 3) C dX9_chooses_84 rfl (by decide) rfl ?_
        exact PW_at (w9_chooses_b85_ok C hRt hHR hnT hR2 hR17 hk) (And.intro rfl (And.intro rfl (And.intro rfl (And.intro rfl (And.intro rfl trivial))))) (Nat.le_of_ble_eq_true rfl) (Nat.le_of_ble_eq_true rfl)
set_option maxRecDepth 100000 in
set_option maxHeartbeats 4000000 in
theorem w9_chooses_b2_ok {G : GT} {P : Mem → Prop} {X : String → Mem → Prop} (C : PCx G cX9_chooses 5 RX9) (hRt : PRt G none (qV P) X) (hHR : HR G (1)) (hnT : NoT G) {μ : Mem} {l1 : Int32} (hk : w9_chooses_b2 P μ l1) : PW G 0 0 2 [some (pR 50 0), some (pI l1), none, none, none] [] μ := by
  refine hk (fun (μ : Mem) (l1 : Int32) => PW G 0 0 2 [some (pR 50 0), some (pI l1), none, none, none] [] μ) (fun (μ : Mem) l1 hk => ?_)
  have hR2 : ∀ (μ : Mem) (l1 : Int32), PW G 0 0 2 [some (pR 50 0), some (pI l1), none, none, none] [] μ → PW G 0 0 2 [some (pR 50 0), some (pI l1), none, none, none] [] μ := fun _ _ h => h
  unfold w9_chooses_b2_body at hk
  refine px_iload_n (i := 1) C dX9_chooses_2 rfl rfl ?_
  refine px_bipush (v := (8 : Int32)) C dX9_chooses_3 rfl ?_
  refine px_icmp_ge (tgt := 220) C dX9_chooses_5 (by decide) (fun c28 => ?_) (fun c28 => ?_)
  · replace hk := hk.1 c28
    exact px_vret C hRt dX9_chooses_220 rfl hk
  · replace hk := hk.2 c28
    refine px_ldc (v := (-100000000 : Int32)) C dX9_chooses_8 (gw8 229 rfl rfl) ?_
    refine px_istore_n (i := 2) C dX9_chooses_10 rfl (by decide) rfl ?_
    refine px_ldc (v := (100000000 : Int32)) C dX9_chooses_11 (gw8 216 rfl rfl) ?_
    refine px_istore_n (i := 3) C dX9_chooses_13 rfl (by decide) rfl ?_
    refine px_iconst (v := (0 : Int32)) C dX9_chooses_14 rfl ?_
    refine px_istore (i := 4) C dX9_chooses_15 (by decide) rfl ?_
    exact PW_at (w9_chooses_b17_ok C hRt hHR hnT hR2 hk) (And.intro rfl (And.intro rfl (And.intro rfl (And.intro rfl (And.intro rfl trivial))))) (Nat.le_of_ble_eq_true rfl) (Nat.le_of_ble_eq_true rfl)
set_option maxRecDepth 100000 in
set_option maxHeartbeats 4000000 in
theorem w9_chooses_ok {l : Launch} {idx : List (Nat × Nat)} {μ : Mem} {P : Mem → Prop} {X : String → Mem → Prop} (hl : l.stackTraces = false) (hI : IdxOK idx) (hk : w9_chooses_wp μ P) : PMet l yX9_chooses (.code yX9_chooses cX9_chooses 5 none) 1 0 0 idx [pR 50 0] μ (qV P) X := by
  refine PMet_of mv_X9_chooses.2.2.2.2.2.2 hl hI mv_X9_chooses.2.2.2.1 rfl (Nat.le_of_ble_eq_true rfl) (fun G _ _ C hRt hHR hnT => ?_)
  show PW G 0 0 0 [some (pR 50 0), none, none, none, none] [] μ
  unfold w9_chooses_wp at hk
  refine px_iconst (v := (0 : Int32)) C dX9_chooses_0 rfl ?_
  refine px_istore_n (i := 1) C dX9_chooses_1 rfl (by decide) rfl ?_
  exact PW_at (w9_chooses_b2_ok C hRt hHR hnT hk) (And.intro rfl (And.intro rfl trivial)) (Nat.le_of_ble_eq_true rfl) (Nat.le_of_ble_eq_true rfl)
theorem dX9_knows_0 : decode cX9_knows 0 = .ok (.aload_n 0, 1) := by decide +kernel
theorem dX9_knows_1 : decode cX9_knows 1 = .ok (.getfield 94, 3) := by decide +kernel
theorem dX9_knows_4 : decode cX9_knows 4 = .ok (.ifCond .eq 4, 3) := by decide +kernel
theorem dX9_knows_7 : decode cX9_knows 7 = .ok (.return_, 1) := by decide +kernel
theorem dX9_knows_8 : decode cX9_knows 8 = .ok (.aload_n 0, 1) := by decide +kernel
theorem dX9_knows_9 : decode cX9_knows 9 = .ok (.invokevirtual 122, 3) := by decide +kernel
theorem dX9_knows_12 : decode cX9_knows 12 = .ok (.aload_n 0, 1) := by decide +kernel
theorem dX9_knows_13 : decode cX9_knows 13 = .ok (.invokevirtual 125, 3) := by decide +kernel
theorem dX9_knows_16 : decode cX9_knows 16 = .ok (.aload_n 0, 1) := by decide +kernel
theorem dX9_knows_17 : decode cX9_knows 17 = .ok (.invokevirtual 128, 3) := by decide +kernel
theorem dX9_knows_20 : decode cX9_knows 20 = .ok (.aload_n 0, 1) := by decide +kernel
theorem dX9_knows_21 : decode cX9_knows 21 = .ok (.iconst 1, 1) := by decide +kernel
theorem dX9_knows_22 : decode cX9_knows 22 = .ok (.putfield 94, 3) := by decide +kernel
theorem dX9_knows_25 : decode cX9_knows 25 = .ok (.return_, 1) := by decide +kernel
set_option maxRecDepth 100000 in
set_option maxHeartbeats 4000000 in
theorem w9_knows_ok {l : Launch} {idx : List (Nat × Nat)} {μ : Mem} {P : Mem → Prop} {X : String → Mem → Prop} (hl : l.stackTraces = false) (hI : IdxOK idx) (hk : w9_knows_wp μ P) : PMet l yX9_knows (.code yX9_knows cX9_knows 1 none) 5 0 0 idx [pR 50 0] μ (qV P) X := by
  refine PMet_of mv_X9_knows.2.2.2.2.2.2 hl hI mv_X9_knows.2.2.2.1 rfl (Nat.le_of_ble_eq_true rfl) (fun G _ _ C hRt hHR hnT => ?_)
  show PW G 0 0 0 [some (pR 50 0)] [] μ
  unfold w9_knows_wp at hk
  refine px_aload_n (i := 0) C dX9_knows_0 rfl rfl ?_
  refine px_geti 3212 C dX9_knows_1 fl_RX9_94 rfl rfl rfl rfl ?_
  refine px_if_eq (tgt := 8) C dX9_knows_4 (by decide) (fun c5 => ?_) (fun c5 => ?_)
  · replace hk := hk.1 c5
    refine px_aload_n (i := 0) C dX9_knows_8 rfl rfl ?_
    refine px_callVv (h := 3) (rc' := 0) (rs' := 0) C (HR_le hHR (Nat.le_of_ble_eq_true rfl)) hRt hnT dX9_knows_9 (gw8 212 rfl rfl) mv_X9_accepts (w9_accepts_ok (PCx_l C) (PCx_I C) hk) rfl rfl rfl rfl rfl (Nat.le_of_ble_eq_true rfl) (Nat.le_of_ble_eq_true rfl) (Nat.le_of_ble_eq_true rfl) (Nat.le_of_ble_eq_true rfl) ?_
    intro μ1 hk
    refine px_aload_n (i := 0) C dX9_knows_12 rfl rfl ?_
    refine px_callVv (h := 1) (rc' := 0) (rs' := 0) C (HR_le hHR (Nat.le_of_ble_eq_true rfl)) hRt hnT dX9_knows_13 (gw8 225 rfl rfl) mv_X9_chooses (w9_chooses_ok (PCx_l C) (PCx_I C) hk) rfl rfl rfl rfl rfl (Nat.le_of_ble_eq_true rfl) (Nat.le_of_ble_eq_true rfl) (Nat.le_of_ble_eq_true rfl) (Nat.le_of_ble_eq_true rfl) ?_
    intro μ2 hk
    refine px_aload_n (i := 0) C dX9_knows_16 rfl rfl ?_
    refine px_callVv (h := 4) (rc' := 0) (rs' := 0) C (HR_le hHR (Nat.le_of_ble_eq_true rfl)) hRt hnT dX9_knows_17 (gw8 231 rfl rfl) mv_X9_plants (w9_plants_ok (PCx_l C) (PCx_I C) hk) rfl rfl rfl rfl rfl (Nat.le_of_ble_eq_true rfl) (Nat.le_of_ble_eq_true rfl) (Nat.le_of_ble_eq_true rfl) (Nat.le_of_ble_eq_true rfl) ?_
    intro μ3 hk
    refine px_aload_n (i := 0) C dX9_knows_20 rfl rfl ?_
    refine px_iconst (v := (1 : Int32)) C dX9_knows_21 rfl ?_
    replace hk := hk _ rfl
    refine px_puti 3212 C dX9_knows_22 fp_RX9_94 rfl rfl rfl rfl rfl rfl ?_
    exact px_vret C hRt dX9_knows_25 rfl hk
  · replace hk := hk.2 c5
    exact px_vret C hRt dX9_knows_7 rfl hk
theorem dX9_node_0 : decode cX9_node 0 = .ok (.aload_n 0, 1) := by decide +kernel
theorem dX9_node_1 : decode cX9_node 1 = .ok (.invokevirtual 137, 3) := by decide +kernel
theorem dX9_node_4 : decode cX9_node 4 = .ok (.iload_n 2, 1) := by decide +kernel
theorem dX9_node_5 : decode cX9_node 5 = .ok (.sipush 1000, 3) := by decide +kernel
theorem dX9_node_8 : decode cX9_node 8 = .ok (.if_icmp .ge 30, 3) := by decide +kernel
theorem dX9_node_11 : decode cX9_node 11 = .ok (.aload_n 0, 1) := by decide +kernel
theorem dX9_node_12 : decode cX9_node 12 = .ok (.iload_n 2, 1) := by decide +kernel
theorem dX9_node_13 : decode cX9_node 13 = .ok (.invokevirtual 87, 3) := by decide +kernel
theorem dX9_node_16 : decode cX9_node 16 = .ok (.istore_n 3, 1) := by decide +kernel
theorem dX9_node_17 : decode cX9_node 17 = .ok (.iload_n 3, 1) := by decide +kernel
theorem dX9_node_18 : decode cX9_node 18 = .ok (.iconst (-1), 1) := by decide +kernel
theorem dX9_node_19 : decode cX9_node 19 = .ok (.if_icmp .eq 17, 3) := by decide +kernel
theorem dX9_node_22 : decode cX9_node 22 = .ok (.aload_n 0, 1) := by decide +kernel
theorem dX9_node_23 : decode cX9_node 23 = .ok (.iload_n 3, 1) := by decide +kernel
theorem dX9_node_24 : decode cX9_node 24 = .ok (.iconst 1, 1) := by decide +kernel
theorem dX9_node_25 : decode cX9_node 25 = .ok (.invokevirtual 83, 3) := by decide +kernel
theorem dX9_node_28 : decode cX9_node 28 = .ok (.iload_n 1, 1) := by decide +kernel
theorem dX9_node_29 : decode cX9_node 29 = .ok (.if_icmp .ne 7, 3) := by decide +kernel
theorem dX9_node_32 : decode cX9_node 32 = .ok (.iload_n 3, 1) := by decide +kernel
theorem dX9_node_33 : decode cX9_node 33 = .ok (.goto 4, 3) := by decide +kernel
theorem dX9_node_36 : decode cX9_node 36 = .ok (.iconst (-1), 1) := by decide +kernel
theorem dX9_node_37 : decode cX9_node 37 = .ok (.ireturn, 1) := by decide +kernel
theorem dX9_node_38 : decode cX9_node 38 = .ok (.iload_n 2, 1) := by decide +kernel
theorem dX9_node_39 : decode cX9_node 39 = .ok (.sipush 1100, 3) := by decide +kernel
theorem dX9_node_42 : decode cX9_node 42 = .ok (.if_icmp .ge 16, 3) := by decide +kernel
theorem dX9_node_45 : decode cX9_node 45 = .ok (.aload_n 0, 1) := by decide +kernel
theorem dX9_node_46 : decode cX9_node 46 = .ok (.iload_n 1, 1) := by decide +kernel
theorem dX9_node_47 : decode cX9_node 47 = .ok (.iload_n 2, 1) := by decide +kernel
theorem dX9_node_48 : decode cX9_node 48 = .ok (.sipush 1000, 3) := by decide +kernel
theorem dX9_node_51 : decode cX9_node 51 = .ok (.isub, 1) := by decide +kernel
theorem dX9_node_52 : decode cX9_node 52 = .ok (.invokevirtual 119, 3) := by decide +kernel
theorem dX9_node_55 : decode cX9_node 55 = .ok (.goto 4, 3) := by decide +kernel
theorem dX9_node_58 : decode cX9_node 58 = .ok (.iconst (-1), 1) := by decide +kernel
theorem dX9_node_59 : decode cX9_node 59 = .ok (.istore_n 3, 1) := by decide +kernel
theorem dX9_node_60 : decode cX9_node 60 = .ok (.iload_n 3, 1) := by decide +kernel
theorem dX9_node_61 : decode cX9_node 61 = .ok (.iconst (-1), 1) := by decide +kernel
theorem dX9_node_62 : decode cX9_node 62 = .ok (.if_icmp .ne 7, 3) := by decide +kernel
theorem dX9_node_65 : decode cX9_node 65 = .ok (.iconst (-1), 1) := by decide +kernel
theorem dX9_node_66 : decode cX9_node 66 = .ok (.goto 7, 3) := by decide +kernel
theorem dX9_node_69 : decode cX9_node 69 = .ok (.bipush 40, 2) := by decide +kernel
theorem dX9_node_71 : decode cX9_node 71 = .ok (.iload_n 3, 1) := by decide +kernel
theorem dX9_node_72 : decode cX9_node 72 = .ok (.iadd, 1) := by decide +kernel
theorem dX9_node_73 : decode cX9_node 73 = .ok (.ireturn, 1) := by decide +kernel
set_option maxRecDepth 100000 in
set_option maxHeartbeats 4000000 in
theorem w9_node_b59_ok {G : GT} {P : Int32 → Mem → Prop} {X : String → Mem → Prop} (C : PCx G cX9_node 4 RX9) (hRt : PRt G (some .int) (qI P) X) (hHR : HR G (6)) (hnT : NoT G) {μ : Mem} {s0 : Int32} (hk : w9_node_b59 P μ s0) : PW G 0 0 59 [none, none, none, none] [pI s0] μ := by
  unfold w9_node_b59 at hk
  refine px_istore_n (i := 3) C dX9_node_59 rfl (by decide) rfl ?_
  refine px_iload_n (i := 3) C dX9_node_60 rfl rfl ?_
  refine px_iconst (v := (-1 : Int32)) C dX9_node_61 rfl ?_
  refine px_icmp_ne (tgt := 69) C dX9_node_62 (by decide) (fun c2 => ?_) (fun c2 => ?_)
  · replace hk := hk.1 c2
    refine px_bipush (v := (40 : Int32)) C dX9_node_69 rfl ?_
    refine px_iload_n (i := 3) C dX9_node_71 rfl rfl ?_
    refine px_iadd C dX9_node_72 ?_
    exact px_iret C hRt dX9_node_73 rfl rfl hk
  · replace hk := hk.2 c2
    refine px_iconst (v := (-1 : Int32)) C dX9_node_65 rfl ?_
    refine px_goto (tgt := 73) C dX9_node_66 (by decide) ?_
    exact px_iret C hRt dX9_node_73 rfl rfl hk
set_option maxRecDepth 100000 in
set_option maxHeartbeats 4000000 in
theorem w9_node_ok {l : Launch} {idx : List (Nat × Nat)} {μ : Mem} {a1 : Int32} {a2 : Int32} {P : Int32 → Mem → Prop} {X : String → Mem → Prop} (hl : l.stackTraces = false) (hI : IdxOK idx) (hk : w9_node_wp μ a1 a2 P) : PMet l yX9_node (.code yX9_node cX9_node 4 (some .int)) 6 0 0 idx [pR 50 0, pI a1, pI a2] μ (qI P) X := by
  refine PMet_of mv_X9_node.2.2.2.2.2.2 hl hI mv_X9_node.2.2.2.1 rfl (Nat.le_of_ble_eq_true rfl) (fun G _ _ C hRt hHR hnT => ?_)
  show PW G 0 0 0 [some (pR 50 0), some (pI a1), some (pI a2), none] [] μ
  unfold w9_node_wp at hk
  refine px_aload_n (i := 0) C dX9_node_0 rfl rfl ?_
  refine px_callVv (h := 5) (rc' := 0) (rs' := 0) C (HR_le hHR (Nat.le_of_ble_eq_true rfl)) hRt hnT dX9_node_1 (gw8 208 rfl rfl) mv_X9_knows (w9_knows_ok (PCx_l C) (PCx_I C) hk) rfl rfl rfl rfl rfl (Nat.le_of_ble_eq_true rfl) (Nat.le_of_ble_eq_true rfl) (Nat.le_of_ble_eq_true rfl) (Nat.le_of_ble_eq_true rfl) ?_
  intro μ1 hk
  refine px_iload_n (i := 2) C dX9_node_4 rfl rfl ?_
  refine px_sipush (v := (1000 : Int32)) C dX9_node_5 rfl ?_
  refine px_icmp_ge (tgt := 38) C dX9_node_8 (by decide) (fun c12 => ?_) (fun c12 => ?_)
  · replace hk := hk.1 c12
    refine px_iload_n (i := 2) C dX9_node_38 rfl rfl ?_
    refine px_sipush (v := (1100 : Int32)) C dX9_node_39 rfl ?_
    refine px_icmp_ge (tgt := 58) C dX9_node_42 (by decide) (fun c5 => ?_) (fun c5 => ?_)
    · replace hk := hk.1 c5
      refine px_iconst (v := (-1 : Int32)) C dX9_node_58 rfl ?_
      exact PW_at (w9_node_b59_ok C hRt hHR hnT hk) trivial (Nat.le_of_ble_eq_true rfl) (Nat.le_of_ble_eq_true rfl)
    · replace hk := hk.2 c5
      refine px_aload_n (i := 0) C dX9_node_45 rfl rfl ?_
      refine px_iload_n (i := 1) C dX9_node_46 rfl rfl ?_
      refine px_iload_n (i := 2) C dX9_node_47 rfl rfl ?_
      refine px_sipush (v := (1000 : Int32)) C dX9_node_48 rfl ?_
      refine px_isub C dX9_node_51 ?_
      refine px_callVi (h := 0) (rc' := 0) (rs' := 0) C (HR_le hHR (Nat.le_of_ble_eq_true rfl)) hRt hnT dX9_node_52 (gw8 239 rfl rfl) mv_X9_holder (w9_holder_ok (PCx_l C) (PCx_I C) hk) rfl rfl rfl rfl rfl (Nat.le_of_ble_eq_true rfl) (Nat.le_of_ble_eq_true rfl) (Nat.le_of_ble_eq_true rfl) (Nat.le_of_ble_eq_true rfl) ?_
      intro r4 μ3 hk
      refine px_goto (tgt := 59) C dX9_node_55 (by decide) ?_
      exact PW_at (w9_node_b59_ok C hRt hHR hnT hk) trivial (Nat.le_of_ble_eq_true rfl) (Nat.le_of_ble_eq_true rfl)
  · replace hk := hk.2 c12
    refine px_aload_n (i := 0) C dX9_node_11 rfl rfl ?_
    refine px_iload_n (i := 2) C dX9_node_12 rfl rfl ?_
    refine px_callVi (h := 1) (rc' := 0) (rs' := 0) C (HR_le hHR (Nat.le_of_ble_eq_true rfl)) hRt hnT dX9_node_13 (gw8 148 rfl rfl) mv_X9_find (w9_find_ok (PCx_l C) (PCx_I C) hk) rfl rfl rfl rfl rfl (Nat.le_of_ble_eq_true rfl) (Nat.le_of_ble_eq_true rfl) (Nat.le_of_ble_eq_true rfl) (Nat.le_of_ble_eq_true rfl) ?_
    intro r7 μ6 hk
    refine px_istore_n (i := 3) C dX9_node_16 rfl (by decide) rfl ?_
    refine px_iload_n (i := 3) C dX9_node_17 rfl rfl ?_
    refine px_iconst (v := (-1 : Int32)) C dX9_node_18 rfl ?_
    refine px_icmp_eq (tgt := 36) C dX9_node_19 (by decide) (fun c11 => ?_) (fun c11 => ?_)
    · replace hk := hk.1 c11
      refine px_iconst (v := (-1 : Int32)) C dX9_node_36 rfl ?_
      exact px_iret C hRt dX9_node_37 rfl rfl hk
    · replace hk := hk.2 c11
      refine px_aload_n (i := 0) C dX9_node_22 rfl rfl ?_
      refine px_iload_n (i := 3) C dX9_node_23 rfl rfl ?_
      refine px_iconst (v := (1 : Int32)) C dX9_node_24 rfl ?_
      refine px_callVi (h := 0) (rc' := 0) (rs' := 0) C (HR_le hHR (Nat.le_of_ble_eq_true rfl)) hRt hnT dX9_node_25 (gw8 152 rfl rfl) mv_X9_of (w9_of_ok (PCx_l C) (PCx_I C) hk) rfl rfl rfl rfl rfl (Nat.le_of_ble_eq_true rfl) (Nat.le_of_ble_eq_true rfl) (Nat.le_of_ble_eq_true rfl) (Nat.le_of_ble_eq_true rfl) ?_
      intro r9 μ8 hk
      refine px_iload_n (i := 1) C dX9_node_28 rfl rfl ?_
      refine px_icmp_ne (tgt := 36) C dX9_node_29 (by decide) (fun c10 => ?_) (fun c10 => ?_)
      · replace hk := hk.1 c10
        refine px_iconst (v := (-1 : Int32)) C dX9_node_36 rfl ?_
        exact px_iret C hRt dX9_node_37 rfl rfl hk
      · replace hk := hk.2 c10
        refine px_iload_n (i := 3) C dX9_node_32 rfl rfl ?_
        refine px_goto (tgt := 37) C dX9_node_33 (by decide) ?_
        exact px_iret C hRt dX9_node_37 rfl rfl hk
theorem dX9_nodeOr_0 : decode cX9_nodeOr 0 = .ok (.aload_n 0, 1) := by decide +kernel
theorem dX9_nodeOr_1 : decode cX9_nodeOr 1 = .ok (.iload_n 1, 1) := by decide +kernel
theorem dX9_nodeOr_2 : decode cX9_nodeOr 2 = .ok (.invokestatic 143, 3) := by decide +kernel
theorem dX9_nodeOr_5 : decode cX9_nodeOr 5 = .ok (.ifCond .ne 7, 3) := by decide +kernel
theorem dX9_nodeOr_8 : decode cX9_nodeOr 8 = .ok (.iconst 1, 1) := by decide +kernel
theorem dX9_nodeOr_9 : decode cX9_nodeOr 9 = .ok (.goto 18, 3) := by decide +kernel
theorem dX9_nodeOr_12 : decode cX9_nodeOr 12 = .ok (.aload_n 0, 1) := by decide +kernel
theorem dX9_nodeOr_13 : decode cX9_nodeOr 13 = .ok (.iload_n 1, 1) := by decide +kernel
theorem dX9_nodeOr_14 : decode cX9_nodeOr 14 = .ok (.iload_n 2, 1) := by decide +kernel
theorem dX9_nodeOr_15 : decode cX9_nodeOr 15 = .ok (.invokevirtual 146, 3) := by decide +kernel
theorem dX9_nodeOr_18 : decode cX9_nodeOr 18 = .ok (.iconst (-1), 1) := by decide +kernel
theorem dX9_nodeOr_19 : decode cX9_nodeOr 19 = .ok (.if_icmp .ne 7, 3) := by decide +kernel
theorem dX9_nodeOr_22 : decode cX9_nodeOr 22 = .ok (.iconst 2, 1) := by decide +kernel
theorem dX9_nodeOr_23 : decode cX9_nodeOr 23 = .ok (.goto 4, 3) := by decide +kernel
theorem dX9_nodeOr_26 : decode cX9_nodeOr 26 = .ok (.iconst 0, 1) := by decide +kernel
theorem dX9_nodeOr_27 : decode cX9_nodeOr 27 = .ok (.putfield 80, 3) := by decide +kernel
theorem dX9_nodeOr_30 : decode cX9_nodeOr 30 = .ok (.aload_n 0, 1) := by decide +kernel
theorem dX9_nodeOr_31 : decode cX9_nodeOr 31 = .ok (.getfield 80, 3) := by decide +kernel
theorem dX9_nodeOr_34 : decode cX9_nodeOr 34 = .ok (.ifCond .ne 12, 3) := by decide +kernel
theorem dX9_nodeOr_37 : decode cX9_nodeOr 37 = .ok (.aload_n 0, 1) := by decide +kernel
theorem dX9_nodeOr_38 : decode cX9_nodeOr 38 = .ok (.iload_n 1, 1) := by decide +kernel
theorem dX9_nodeOr_39 : decode cX9_nodeOr 39 = .ok (.iload_n 2, 1) := by decide +kernel
theorem dX9_nodeOr_40 : decode cX9_nodeOr 40 = .ok (.invokevirtual 146, 3) := by decide +kernel
theorem dX9_nodeOr_43 : decode cX9_nodeOr 43 = .ok (.goto 4, 3) := by decide +kernel
theorem dX9_nodeOr_46 : decode cX9_nodeOr 46 = .ok (.iconst (-1), 1) := by decide +kernel
theorem dX9_nodeOr_47 : decode cX9_nodeOr 47 = .ok (.ireturn, 1) := by decide +kernel
set_option maxRecDepth 100000 in
set_option maxHeartbeats 4000000 in
theorem w9_nodeOr_b27_ok {G : GT} {P : Int32 → Mem → Prop} {X : String → Mem → Prop} (C : PCx G cX9_nodeOr 3 RX9) (hRt : PRt G (some .int) (qI P) X) (hHR : HR G (7)) (hnT : NoT G) {μ : Mem} {l1 : Int32} {l2 : Int32} {s0 : Int32} (hk : w9_nodeOr_b27 P μ l1 l2 s0) : PW G 0 0 27 [some (pR 50 0), some (pI l1), some (pI l2)] [pI s0, pR 50 0] μ := by
  unfold w9_nodeOr_b27 at hk
  replace hk := hk _ rfl
  refine px_puti 3201 C dX9_nodeOr_27 fp_RX9_80 rfl rfl rfl rfl rfl rfl ?_
  refine px_aload_n (i := 0) C dX9_nodeOr_30 rfl rfl ?_
  refine px_geti 3201 C dX9_nodeOr_31 fl_RX9_80 rfl rfl rfl rfl ?_
  refine px_if_ne (tgt := 46) C dX9_nodeOr_34 (by decide) (fun c8 => ?_) (fun c8 => ?_)
  · replace hk := hk.1 c8
    refine px_iconst (v := (-1 : Int32)) C dX9_nodeOr_46 rfl ?_
    exact px_iret C hRt dX9_nodeOr_47 rfl rfl hk
  · replace hk := hk.2 c8
    refine px_aload_n (i := 0) C dX9_nodeOr_37 rfl rfl ?_
    refine px_iload_n (i := 1) C dX9_nodeOr_38 rfl rfl ?_
    refine px_iload_n (i := 2) C dX9_nodeOr_39 rfl rfl ?_
    refine px_callVi (h := 6) (rc' := 0) (rs' := 0) C (HR_le hHR (Nat.le_of_ble_eq_true rfl)) hRt hnT dX9_nodeOr_40 (gw9 66 rfl rfl) mv_X9_node (w9_node_ok (PCx_l C) (PCx_I C) hk) rfl rfl rfl rfl rfl (Nat.le_of_ble_eq_true rfl) (Nat.le_of_ble_eq_true rfl) (Nat.le_of_ble_eq_true rfl) (Nat.le_of_ble_eq_true rfl) ?_
    intro r7 μ6 hk
    refine px_goto (tgt := 47) C dX9_nodeOr_43 (by decide) ?_
    exact px_iret C hRt dX9_nodeOr_47 rfl rfl hk
set_option maxRecDepth 100000 in
set_option maxHeartbeats 4000000 in
theorem w9_nodeOr_ok {l : Launch} {idx : List (Nat × Nat)} {μ : Mem} {a1 : Int32} {a2 : Int32} {P : Int32 → Mem → Prop} {X : String → Mem → Prop} (hl : l.stackTraces = false) (hI : IdxOK idx) (hk : w9_nodeOr_wp μ a1 a2 P) : PMet l yX9_nodeOr (.code yX9_nodeOr cX9_nodeOr 3 (some .int)) 7 0 0 idx [pR 50 0, pI a1, pI a2] μ (qI P) X := by
  refine PMet_of mv_X9_nodeOr.2.2.2.2.2.2 hl hI mv_X9_nodeOr.2.2.2.1 rfl (Nat.le_of_ble_eq_true rfl) (fun G _ _ C hRt hHR hnT => ?_)
  show PW G 0 0 0 [some (pR 50 0), some (pI a1), some (pI a2)] [] μ
  unfold w9_nodeOr_wp at hk
  refine px_aload_n (i := 0) C dX9_nodeOr_0 rfl rfl ?_
  refine px_iload_n (i := 1) C dX9_nodeOr_1 rfl rfl ?_
  refine px_callSi (h := 1) (rc' := 0) (rs' := 0) C (HR_le hHR (Nat.le_of_ble_eq_true rfl)) hRt hnT dX9_nodeOr_2 (gw8 135 rfl rfl) ms_X9_isTrace (w9_isTrace_ok (PCx_l C) (PCx_I C) hk) rfl rfl (Nat.le_of_ble_eq_true rfl) (Nat.le_of_ble_eq_true rfl) (Nat.le_of_ble_eq_true rfl) (Nat.le_of_ble_eq_true rfl) ?_
  intro r2 μ1 hk
  refine px_if_ne (tgt := 12) C dX9_nodeOr_5 (by decide) (fun c10 => ?_) (fun c10 => ?_)
  · replace hk := hk.1 c10
    refine px_aload_n (i := 0) C dX9_nodeOr_12 rfl rfl ?_
    refine px_iload_n (i := 1) C dX9_nodeOr_13 rfl rfl ?_
    refine px_iload_n (i := 2) C dX9_nodeOr_14 rfl rfl ?_
    refine px_callVi (h := 6) (rc' := 0) (rs' := 0) C (HR_le hHR (Nat.le_of_ble_eq_true rfl)) hRt hnT dX9_nodeOr_15 (gw9 66 rfl rfl) mv_X9_node (w9_node_ok (PCx_l C) (PCx_I C) hk) rfl rfl rfl rfl rfl (Nat.le_of_ble_eq_true rfl) (Nat.le_of_ble_eq_true rfl) (Nat.le_of_ble_eq_true rfl) (Nat.le_of_ble_eq_true rfl) ?_
    intro r4 μ3 hk
    refine px_iconst (v := (-1 : Int32)) C dX9_nodeOr_18 rfl ?_
    refine px_icmp_ne (tgt := 26) C dX9_nodeOr_19 (by decide) (fun c9 => ?_) (fun c9 => ?_)
    · replace hk := hk.1 c9
      refine px_iconst (v := (0 : Int32)) C dX9_nodeOr_26 rfl ?_
      exact PW_at (w9_nodeOr_b27_ok C hRt hHR hnT hk) (And.intro rfl (And.intro rfl (And.intro rfl trivial))) (Nat.le_of_ble_eq_true rfl) (Nat.le_of_ble_eq_true rfl)
    · replace hk := hk.2 c9
      refine px_iconst (v := (2 : Int32)) C dX9_nodeOr_22 rfl ?_
      refine px_goto (tgt := 27) C dX9_nodeOr_23 (by decide) ?_
      exact PW_at (w9_nodeOr_b27_ok C hRt hHR hnT hk) (And.intro rfl (And.intro rfl (And.intro rfl trivial))) (Nat.le_of_ble_eq_true rfl) (Nat.le_of_ble_eq_true rfl)
  · replace hk := hk.2 c10
    refine px_iconst (v := (1 : Int32)) C dX9_nodeOr_8 rfl ?_
    refine px_goto (tgt := 27) C dX9_nodeOr_9 (by decide) ?_
    exact PW_at (w9_nodeOr_b27_ok C hRt hHR hnT hk) (And.intro rfl (And.intro rfl (And.intro rfl trivial))) (Nat.le_of_ble_eq_true rfl) (Nat.le_of_ble_eq_true rfl)
theorem dX9_offset_0 : decode cX9_offset 0 = .ok (.aload_n 0, 1) := by decide +kernel
theorem dX9_offset_1 : decode cX9_offset 1 = .ok (.iconst 0, 1) := by decide +kernel
theorem dX9_offset_2 : decode cX9_offset 2 = .ok (.putfield 80, 3) := by decide +kernel
theorem dX9_offset_5 : decode cX9_offset 5 = .ok (.aload_n 0, 1) := by decide +kernel
theorem dX9_offset_6 : decode cX9_offset 6 = .ok (.invokevirtual 137, 3) := by decide +kernel
theorem dX9_offset_9 : decode cX9_offset 9 = .ok (.iload_n 1, 1) := by decide +kernel
theorem dX9_offset_10 : decode cX9_offset 10 = .ok (.invokestatic 222, 3) := by decide +kernel
theorem dX9_offset_13 : decode cX9_offset 13 = .ok (.ifCond .eq 12, 3) := by decide +kernel
theorem dX9_offset_16 : decode cX9_offset 16 = .ok (.aload_n 0, 1) := by decide +kernel
theorem dX9_offset_17 : decode cX9_offset 17 = .ok (.getfield 38, 3) := by decide +kernel
theorem dX9_offset_20 : decode cX9_offset 20 = .ok (.iload_n 1, 1) := by decide +kernel
theorem dX9_offset_21 : decode cX9_offset 21 = .ok (.iaload, 1) := by decide +kernel
theorem dX9_offset_22 : decode cX9_offset 22 = .ok (.goto 8, 3) := by decide +kernel
theorem dX9_offset_25 : decode cX9_offset 25 = .ok (.aload_n 0, 1) := by decide +kernel
theorem dX9_offset_26 : decode cX9_offset 26 = .ok (.iconst 1, 1) := by decide +kernel
theorem dX9_offset_27 : decode cX9_offset 27 = .ok (.invokevirtual 203, 3) := by decide +kernel
theorem dX9_offset_30 : decode cX9_offset 30 = .ok (.ireturn, 1) := by decide +kernel
set_option maxRecDepth 100000 in
set_option maxHeartbeats 4000000 in
theorem w9_offset_ok {l : Launch} {idx : List (Nat × Nat)} {μ : Mem} {a1 : Int32} {P : Int32 → Mem → Prop} {X : String → Mem → Prop} (hl : l.stackTraces = false) (hI : IdxOK idx) (hk : w9_offset_wp μ a1 P) : PMet l yX9_offset (.code yX9_offset cX9_offset 2 (some .int)) 6 0 0 idx [pR 50 0, pI a1] μ (qI P) X := by
  refine PMet_of mv_X9_offset.2.2.2.2.2.2 hl hI mv_X9_offset.2.2.2.1 rfl (Nat.le_of_ble_eq_true rfl) (fun G _ _ C hRt hHR hnT => ?_)
  show PW G 0 0 0 [some (pR 50 0), some (pI a1)] [] μ
  unfold w9_offset_wp at hk
  refine px_aload_n (i := 0) C dX9_offset_0 rfl rfl ?_
  refine px_iconst (v := (0 : Int32)) C dX9_offset_1 rfl ?_
  replace hk := hk _ rfl
  refine px_puti 3201 C dX9_offset_2 fp_RX9_80 rfl rfl rfl rfl rfl rfl ?_
  refine px_aload_n (i := 0) C dX9_offset_5 rfl rfl ?_
  refine px_callVv (h := 5) (rc' := 0) (rs' := 0) C (HR_le hHR (Nat.le_of_ble_eq_true rfl)) hRt hnT dX9_offset_6 (gw8 208 rfl rfl) mv_X9_knows (w9_knows_ok (PCx_l C) (PCx_I C) hk) rfl rfl rfl rfl rfl (Nat.le_of_ble_eq_true rfl) (Nat.le_of_ble_eq_true rfl) (Nat.le_of_ble_eq_true rfl) (Nat.le_of_ble_eq_true rfl) ?_
  intro μ2 hk
  refine px_iload_n (i := 1) C dX9_offset_9 rfl rfl ?_
  refine px_callSi (h := 1) (rc' := 0) (rs' := 0) C (HR_le hHR (Nat.le_of_ble_eq_true rfl)) hRt hnT dX9_offset_10 (gw9 3 rfl rfl) ms_X9_isService (w9_isService_ok (PCx_l C) (PCx_I C) hk) rfl rfl (Nat.le_of_ble_eq_true rfl) (Nat.le_of_ble_eq_true rfl) (Nat.le_of_ble_eq_true rfl) (Nat.le_of_ble_eq_true rfl) ?_
  intro r4 μ3 hk
  refine px_if_eq (tgt := 25) C dX9_offset_13 (by decide) (fun c8 => ?_) (fun c8 => ?_)
  · replace hk := hk.1 c8
    refine px_aload_n (i := 0) C dX9_offset_25 rfl rfl ?_
    refine px_iconst (v := (1 : Int32)) C dX9_offset_26 rfl ?_
    refine px_callVi (h := 0) (rc' := 0) (rs' := 0) C (HR_le hHR (Nat.le_of_ble_eq_true rfl)) hRt hnT dX9_offset_27 (gw8 144 rfl rfl) mv_X9_fails (w9_fails_ok (PCx_l C) (PCx_I C) hk) rfl rfl rfl rfl rfl (Nat.le_of_ble_eq_true rfl) (Nat.le_of_ble_eq_true rfl) (Nat.le_of_ble_eq_true rfl) (Nat.le_of_ble_eq_true rfl) ?_
    intro r6 μ5 hk
    exact px_iret C hRt dX9_offset_30 rfl rfl hk
  · replace hk := hk.2 c8
    refine px_aload_n (i := 0) C dX9_offset_16 rfl rfl ?_
    refine px_getr C dX9_offset_17 fl_RX9_38 rfl rfl rfl ?_
    refine px_iload_n (i := 1) C dX9_offset_20 rfl rfl ?_
    obtain ⟨o7, hk⟩ := hk
    refine px_iald 3776 C dX9_offset_21 rfl rfl rfl rfl o7 ?_
    refine px_goto (tgt := 30) C dX9_offset_22 (by decide) ?_
    exact px_iret C hRt dX9_offset_30 rfl rfl hk
theorem dX9_freedom_0 : decode cX9_freedom 0 = .ok (.aload_n 0, 1) := by decide +kernel
theorem dX9_freedom_1 : decode cX9_freedom 1 = .ok (.iconst 0, 1) := by decide +kernel
theorem dX9_freedom_2 : decode cX9_freedom 2 = .ok (.putfield 80, 3) := by decide +kernel
theorem dX9_freedom_5 : decode cX9_freedom 5 = .ok (.aload_n 0, 1) := by decide +kernel
theorem dX9_freedom_6 : decode cX9_freedom 6 = .ok (.invokevirtual 137, 3) := by decide +kernel
theorem dX9_freedom_9 : decode cX9_freedom 9 = .ok (.iload_n 1, 1) := by decide +kernel
theorem dX9_freedom_10 : decode cX9_freedom 10 = .ok (.invokestatic 222, 3) := by decide +kernel
theorem dX9_freedom_13 : decode cX9_freedom 13 = .ok (.ifCond .ne 9, 3) := by decide +kernel
theorem dX9_freedom_16 : decode cX9_freedom 16 = .ok (.aload_n 0, 1) := by decide +kernel
theorem dX9_freedom_17 : decode cX9_freedom 17 = .ok (.iconst 1, 1) := by decide +kernel
theorem dX9_freedom_18 : decode cX9_freedom 18 = .ok (.invokevirtual 203, 3) := by decide +kernel
theorem dX9_freedom_21 : decode cX9_freedom 21 = .ok (.ireturn, 1) := by decide +kernel
theorem dX9_freedom_22 : decode cX9_freedom 22 = .ok (.aload_n 0, 1) := by decide +kernel
theorem dX9_freedom_23 : decode cX9_freedom 23 = .ok (.getfield 41, 3) := by decide +kernel
theorem dX9_freedom_26 : decode cX9_freedom 26 = .ok (.iload_n 1, 1) := by decide +kernel
theorem dX9_freedom_27 : decode cX9_freedom 27 = .ok (.iaload, 1) := by decide +kernel
theorem dX9_freedom_28 : decode cX9_freedom 28 = .ok (.iconst (-1), 1) := by decide +kernel
theorem dX9_freedom_29 : decode cX9_freedom 29 = .ok (.if_icmp .ne 11, 3) := by decide +kernel
theorem dX9_freedom_32 : decode cX9_freedom 32 = .ok (.aload_n 0, 1) := by decide +kernel
theorem dX9_freedom_33 : decode cX9_freedom 33 = .ok (.iconst 2, 1) := by decide +kernel
theorem dX9_freedom_34 : decode cX9_freedom 34 = .ok (.invokevirtual 203, 3) := by decide +kernel
theorem dX9_freedom_37 : decode cX9_freedom 37 = .ok (.goto 9, 3) := by decide +kernel
theorem dX9_freedom_40 : decode cX9_freedom 40 = .ok (.aload_n 0, 1) := by decide +kernel
theorem dX9_freedom_41 : decode cX9_freedom 41 = .ok (.getfield 41, 3) := by decide +kernel
theorem dX9_freedom_44 : decode cX9_freedom 44 = .ok (.iload_n 1, 1) := by decide +kernel
theorem dX9_freedom_45 : decode cX9_freedom 45 = .ok (.iaload, 1) := by decide +kernel
theorem dX9_freedom_46 : decode cX9_freedom 46 = .ok (.ireturn, 1) := by decide +kernel
set_option maxRecDepth 100000 in
set_option maxHeartbeats 4000000 in
theorem w9_freedom_ok {l : Launch} {idx : List (Nat × Nat)} {μ : Mem} {a1 : Int32} {P : Int32 → Mem → Prop} {X : String → Mem → Prop} (hl : l.stackTraces = false) (hI : IdxOK idx) (hk : w9_freedom_wp μ a1 P) : PMet l yX9_freedom (.code yX9_freedom cX9_freedom 2 (some .int)) 6 0 0 idx [pR 50 0, pI a1] μ (qI P) X := by
  refine PMet_of mv_X9_freedom.2.2.2.2.2.2 hl hI mv_X9_freedom.2.2.2.1 rfl (Nat.le_of_ble_eq_true rfl) (fun G _ _ C hRt hHR hnT => ?_)
  show PW G 0 0 0 [some (pR 50 0), some (pI a1)] [] μ
  unfold w9_freedom_wp at hk
  refine px_aload_n (i := 0) C dX9_freedom_0 rfl rfl ?_
  refine px_iconst (v := (0 : Int32)) C dX9_freedom_1 rfl ?_
  replace hk := hk _ rfl
  refine px_puti 3201 C dX9_freedom_2 fp_RX9_80 rfl rfl rfl rfl rfl rfl ?_
  refine px_aload_n (i := 0) C dX9_freedom_5 rfl rfl ?_
  refine px_callVv (h := 5) (rc' := 0) (rs' := 0) C (HR_le hHR (Nat.le_of_ble_eq_true rfl)) hRt hnT dX9_freedom_6 (gw8 208 rfl rfl) mv_X9_knows (w9_knows_ok (PCx_l C) (PCx_I C) hk) rfl rfl rfl rfl rfl (Nat.le_of_ble_eq_true rfl) (Nat.le_of_ble_eq_true rfl) (Nat.le_of_ble_eq_true rfl) (Nat.le_of_ble_eq_true rfl) ?_
  intro μ2 hk
  refine px_iload_n (i := 1) C dX9_freedom_9 rfl rfl ?_
  refine px_callSi (h := 1) (rc' := 0) (rs' := 0) C (HR_le hHR (Nat.le_of_ble_eq_true rfl)) hRt hnT dX9_freedom_10 (gw9 3 rfl rfl) ms_X9_isService (w9_isService_ok (PCx_l C) (PCx_I C) hk) rfl rfl (Nat.le_of_ble_eq_true rfl) (Nat.le_of_ble_eq_true rfl) (Nat.le_of_ble_eq_true rfl) (Nat.le_of_ble_eq_true rfl) ?_
  intro r4 μ3 hk
  refine px_if_ne (tgt := 22) C dX9_freedom_13 (by decide) (fun c12 => ?_) (fun c12 => ?_)
  · replace hk := hk.1 c12
    refine px_aload_n (i := 0) C dX9_freedom_22 rfl rfl ?_
    refine px_getr C dX9_freedom_23 fl_RX9_41 rfl rfl rfl ?_
    refine px_iload_n (i := 1) C dX9_freedom_26 rfl rfl ?_
    obtain ⟨o5, hk⟩ := hk
    refine px_iald 3840 C dX9_freedom_27 rfl rfl rfl rfl o5 ?_
    refine px_iconst (v := (-1 : Int32)) C dX9_freedom_28 rfl ?_
    refine px_icmp_ne (tgt := 40) C dX9_freedom_29 (by decide) (fun c9 => ?_) (fun c9 => ?_)
    · replace hk := hk.1 c9
      refine px_aload_n (i := 0) C dX9_freedom_40 rfl rfl ?_
      refine px_getr C dX9_freedom_41 fl_RX9_41 rfl rfl rfl ?_
      refine px_iload_n (i := 1) C dX9_freedom_44 rfl rfl ?_
      obtain ⟨o6, hk⟩ := hk
      refine px_iald 3840 C dX9_freedom_45 rfl rfl rfl rfl o6 ?_
      exact px_iret C hRt dX9_freedom_46 rfl rfl hk
    · replace hk := hk.2 c9
      refine px_aload_n (i := 0) C dX9_freedom_32 rfl rfl ?_
      refine px_iconst (v := (2 : Int32)) C dX9_freedom_33 rfl ?_
      refine px_callVi (h := 0) (rc' := 0) (rs' := 0) C (HR_le hHR (Nat.le_of_ble_eq_true rfl)) hRt hnT dX9_freedom_34 (gw8 144 rfl rfl) mv_X9_fails (w9_fails_ok (PCx_l C) (PCx_I C) hk) rfl rfl rfl rfl rfl (Nat.le_of_ble_eq_true rfl) (Nat.le_of_ble_eq_true rfl) (Nat.le_of_ble_eq_true rfl) (Nat.le_of_ble_eq_true rfl) ?_
      intro r8 μ7 hk
      refine px_goto (tgt := 46) C dX9_freedom_37 (by decide) ?_
      exact px_iret C hRt dX9_freedom_46 rfl rfl hk
  · replace hk := hk.2 c12
    refine px_aload_n (i := 0) C dX9_freedom_16 rfl rfl ?_
    refine px_iconst (v := (1 : Int32)) C dX9_freedom_17 rfl ?_
    refine px_callVi (h := 0) (rc' := 0) (rs' := 0) C (HR_le hHR (Nat.le_of_ble_eq_true rfl)) hRt hnT dX9_freedom_18 (gw8 144 rfl rfl) mv_X9_fails (w9_fails_ok (PCx_l C) (PCx_I C) hk) rfl rfl rfl rfl rfl (Nat.le_of_ble_eq_true rfl) (Nat.le_of_ble_eq_true rfl) (Nat.le_of_ble_eq_true rfl) (Nat.le_of_ble_eq_true rfl) ?_
    intro r11 μ10 hk
    exact px_iret C hRt dX9_freedom_21 rfl rfl hk
theorem dX9_pairs_0 : decode cX9_pairs 0 = .ok (.aload_n 0, 1) := by decide +kernel
theorem dX9_pairs_1 : decode cX9_pairs 1 = .ok (.iconst 0, 1) := by decide +kernel
theorem dX9_pairs_2 : decode cX9_pairs 2 = .ok (.putfield 80, 3) := by decide +kernel
theorem dX9_pairs_5 : decode cX9_pairs 5 = .ok (.aload_n 0, 1) := by decide +kernel
theorem dX9_pairs_6 : decode cX9_pairs 6 = .ok (.invokevirtual 137, 3) := by decide +kernel
theorem dX9_pairs_9 : decode cX9_pairs 9 = .ok (.iconst 0, 1) := by decide +kernel
theorem dX9_pairs_10 : decode cX9_pairs 10 = .ok (.istore_n 2, 1) := by decide +kernel
theorem dX9_pairs_11 : decode cX9_pairs 11 = .ok (.iconst 0, 1) := by decide +kernel
theorem dX9_pairs_12 : decode cX9_pairs 12 = .ok (.istore_n 3, 1) := by decide +kernel
theorem dX9_pairs_13 : decode cX9_pairs 13 = .ok (.iload_n 3, 1) := by decide +kernel
theorem dX9_pairs_14 : decode cX9_pairs 14 = .ok (.aload_n 0, 1) := by decide +kernel
theorem dX9_pairs_15 : decode cX9_pairs 15 = .ok (.getfield 7, 3) := by decide +kernel
theorem dX9_pairs_18 : decode cX9_pairs 18 = .ok (.iconst 0, 1) := by decide +kernel
theorem dX9_pairs_19 : decode cX9_pairs 19 = .ok (.iaload, 1) := by decide +kernel
theorem dX9_pairs_20 : decode cX9_pairs 20 = .ok (.if_icmp .ge 35, 3) := by decide +kernel
theorem dX9_pairs_23 : decode cX9_pairs 23 = .ok (.iload_n 2, 1) := by decide +kernel
theorem dX9_pairs_24 : decode cX9_pairs 24 = .ok (.aload_n 0, 1) := by decide +kernel
theorem dX9_pairs_25 : decode cX9_pairs 25 = .ok (.getfield 44, 3) := by decide +kernel
theorem dX9_pairs_28 : decode cX9_pairs 28 = .ok (.iload_n 3, 1) := by decide +kernel
theorem dX9_pairs_29 : decode cX9_pairs 29 = .ok (.iaload, 1) := by decide +kernel
theorem dX9_pairs_30 : decode cX9_pairs 30 = .ok (.iload_n 1, 1) := by decide +kernel
theorem dX9_pairs_31 : decode cX9_pairs 31 = .ok (.ifCond .eq 7, 3) := by decide +kernel
theorem dX9_pairs_34 : decode cX9_pairs 34 = .ok (.iconst 1, 1) := by decide +kernel
theorem dX9_pairs_35 : decode cX9_pairs 35 = .ok (.goto 4, 3) := by decide +kernel
theorem dX9_pairs_38 : decode cX9_pairs 38 = .ok (.iconst 0, 1) := by decide +kernel
theorem dX9_pairs_39 : decode cX9_pairs 39 = .ok (.if_icmp .ne 7, 3) := by decide +kernel
theorem dX9_pairs_42 : decode cX9_pairs 42 = .ok (.iconst 1, 1) := by decide +kernel
theorem dX9_pairs_43 : decode cX9_pairs 43 = .ok (.goto 4, 3) := by decide +kernel
theorem dX9_pairs_46 : decode cX9_pairs 46 = .ok (.iconst 0, 1) := by decide +kernel
theorem dX9_pairs_47 : decode cX9_pairs 47 = .ok (.iadd, 1) := by decide +kernel
theorem dX9_pairs_48 : decode cX9_pairs 48 = .ok (.istore_n 2, 1) := by decide +kernel
theorem dX9_pairs_49 : decode cX9_pairs 49 = .ok (.iinc 3 1, 3) := by decide +kernel
theorem dX9_pairs_52 : decode cX9_pairs 52 = .ok (.goto (-39), 3) := by decide +kernel
theorem dX9_pairs_55 : decode cX9_pairs 55 = .ok (.iload_n 2, 1) := by decide +kernel
theorem dX9_pairs_56 : decode cX9_pairs 56 = .ok (.ireturn, 1) := by decide +kernel
set_option maxRecDepth 100000 in
set_option maxHeartbeats 4000000 in
theorem w9_pairs_b39_ok {G : GT} {P : Int32 → Mem → Prop} {X : String → Mem → Prop} (C : PCx G cX9_pairs 4 RX9) (hRt : PRt G (some .int) (qI P) X) (hHR : HR G (6)) (hnT : NoT G) {R13 : Mem → Int32 → Int32 → Int32 → Prop} (hR13 : ∀ (μ : Mem) (l1 : Int32) (l2 : Int32) (l3 : Int32), R13 μ l1 l2 l3 → PW G 0 0 13 [some (pR 50 0), some (pI l1), some (pI l2), some (pI l3)] [] μ) {μ : Mem} {l1 : Int32} {l3 : Int32} {s0 : Int32} {s1 : Int32} {s2 : Int32} (hk : w9_pairs_b39 P R13 μ l1 l3 s0 s1 s2) : PW G 0 0 39 [some (pR 50 0), some (pI l1), none, some (pI l3)] [pI s0, pI s1, pI s2] μ := by
  unfold w9_pairs_b39 at hk
  refine px_icmp_ne (tgt := 46) C dX9_pairs_39 (by decide) (fun c5 => ?_) (fun c5 => ?_)
  · replace hk := hk.1 c5
    refine px_iconst (v := (0 : Int32)) C dX9_pairs_46 rfl ?_
    refine px_iadd C dX9_pairs_47 ?_
    refine px_istore_n (i := 2) C dX9_pairs_48 rfl (by decide) rfl ?_
    refine px_iinc (i := 3) (v := (1 : Int32)) C dX9_pairs_49 rfl rfl (by decide) rfl ?_
    refine px_goto (tgt := 13) C dX9_pairs_52 (by decide) ?_
    exact PW_at (hR13 _ _ _ _ hk) (And.intro rfl (And.intro rfl (And.intro rfl (And.intro rfl trivial)))) (Nat.le_of_ble_eq_true rfl) (Nat.le_of_ble_eq_true rfl)
  · replace hk := hk.2 c5
    refine px_iconst (v := (1 : Int32)) C dX9_pairs_42 rfl ?_
    refine px_goto (tgt := 47) C dX9_pairs_43 (by decide) ?_
    refine px_iadd C dX9_pairs_47 ?_
    refine px_istore_n (i := 2) C dX9_pairs_48 rfl (by decide) rfl ?_
    refine px_iinc (i := 3) (v := (1 : Int32)) C dX9_pairs_49 rfl rfl (by decide) rfl ?_
    refine px_goto (tgt := 13) C dX9_pairs_52 (by decide) ?_
    exact PW_at (hR13 _ _ _ _ hk) (And.intro rfl (And.intro rfl (And.intro rfl (And.intro rfl trivial)))) (Nat.le_of_ble_eq_true rfl) (Nat.le_of_ble_eq_true rfl)
set_option maxRecDepth 100000 in
set_option maxHeartbeats 4000000 in
theorem w9_pairs_b13_ok {G : GT} {P : Int32 → Mem → Prop} {X : String → Mem → Prop} (C : PCx G cX9_pairs 4 RX9) (hRt : PRt G (some .int) (qI P) X) (hHR : HR G (6)) (hnT : NoT G) {μ : Mem} {l1 : Int32} {l2 : Int32} {l3 : Int32} (hk : w9_pairs_b13 P μ l1 l2 l3) : PW G 0 0 13 [some (pR 50 0), some (pI l1), some (pI l2), some (pI l3)] [] μ := by
  refine hk (fun (μ : Mem) (l1 : Int32) (l2 : Int32) (l3 : Int32) => PW G 0 0 13 [some (pR 50 0), some (pI l1), some (pI l2), some (pI l3)] [] μ) (fun (μ : Mem) l1 l2 l3 hk => ?_)
  have hR13 : ∀ (μ : Mem) (l1 : Int32) (l2 : Int32) (l3 : Int32), PW G 0 0 13 [some (pR 50 0), some (pI l1), some (pI l2), some (pI l3)] [] μ → PW G 0 0 13 [some (pR 50 0), some (pI l1), some (pI l2), some (pI l3)] [] μ := fun _ _ _ _ h => h
  unfold w9_pairs_b13_body at hk
  refine px_iload_n (i := 3) C dX9_pairs_13 rfl rfl ?_
  refine px_aload_n (i := 0) C dX9_pairs_14 rfl rfl ?_
  refine px_getr C dX9_pairs_15 fl_RX9_7 rfl rfl rfl ?_
  refine px_iconst (v := (0 : Int32)) C dX9_pairs_18 rfl ?_
  obtain ⟨o3, hk⟩ := hk
  refine px_iald 3264 C dX9_pairs_19 rfl rfl rfl rfl o3 ?_
  refine px_icmp_ge (tgt := 55) C dX9_pairs_20 (by decide) (fun c7 => ?_) (fun c7 => ?_)
  · replace hk := hk.1 c7
    refine px_iload_n (i := 2) C dX9_pairs_55 rfl rfl ?_
    exact px_iret C hRt dX9_pairs_56 rfl rfl hk
  · replace hk := hk.2 c7
    refine px_iload_n (i := 2) C dX9_pairs_23 rfl rfl ?_
    refine px_aload_n (i := 0) C dX9_pairs_24 rfl rfl ?_
    refine px_getr C dX9_pairs_25 fl_RX9_44 rfl rfl rfl ?_
    refine px_iload_n (i := 3) C dX9_pairs_28 rfl rfl ?_
    obtain ⟨o4, hk⟩ := hk
    refine px_iald 3904 C dX9_pairs_29 rfl rfl rfl rfl o4 ?_
    refine px_iload_n (i := 1) C dX9_pairs_30 rfl rfl ?_
    refine px_if_eq (tgt := 38) C dX9_pairs_31 (by decide) (fun c6 => ?_) (fun c6 => ?_)
    · replace hk := hk.1 c6
      refine px_iconst (v := (0 : Int32)) C dX9_pairs_38 rfl ?_
      exact PW_at (w9_pairs_b39_ok C hRt hHR hnT hR13 hk) (And.intro rfl (And.intro rfl (And.intro rfl trivial))) (Nat.le_of_ble_eq_true rfl) (Nat.le_of_ble_eq_true rfl)
    · replace hk := hk.2 c6
      refine px_iconst (v := (1 : Int32)) C dX9_pairs_34 rfl ?_
      refine px_goto (tgt := 39) C dX9_pairs_35 (by decide) ?_
      exact PW_at (w9_pairs_b39_ok C hRt hHR hnT hR13 hk) (And.intro rfl (And.intro rfl (And.intro rfl trivial))) (Nat.le_of_ble_eq_true rfl) (Nat.le_of_ble_eq_true rfl)
set_option maxRecDepth 100000 in
set_option maxHeartbeats 4000000 in
theorem w9_pairs_ok {l : Launch} {idx : List (Nat × Nat)} {μ : Mem} {a1 : Int32} {P : Int32 → Mem → Prop} {X : String → Mem → Prop} (hl : l.stackTraces = false) (hI : IdxOK idx) (hk : w9_pairs_wp μ a1 P) : PMet l yX9_pairs (.code yX9_pairs cX9_pairs 4 (some .int)) 6 0 0 idx [pR 50 0, pI a1] μ (qI P) X := by
  refine PMet_of mv_X9_pairs.2.2.2.2.2.2 hl hI mv_X9_pairs.2.2.2.1 rfl (Nat.le_of_ble_eq_true rfl) (fun G _ _ C hRt hHR hnT => ?_)
  show PW G 0 0 0 [some (pR 50 0), some (pI a1), none, none] [] μ
  unfold w9_pairs_wp at hk
  refine px_aload_n (i := 0) C dX9_pairs_0 rfl rfl ?_
  refine px_iconst (v := (0 : Int32)) C dX9_pairs_1 rfl ?_
  replace hk := hk _ rfl
  refine px_puti 3201 C dX9_pairs_2 fp_RX9_80 rfl rfl rfl rfl rfl rfl ?_
  refine px_aload_n (i := 0) C dX9_pairs_5 rfl rfl ?_
  refine px_callVv (h := 5) (rc' := 0) (rs' := 0) C (HR_le hHR (Nat.le_of_ble_eq_true rfl)) hRt hnT dX9_pairs_6 (gw8 208 rfl rfl) mv_X9_knows (w9_knows_ok (PCx_l C) (PCx_I C) hk) rfl rfl rfl rfl rfl (Nat.le_of_ble_eq_true rfl) (Nat.le_of_ble_eq_true rfl) (Nat.le_of_ble_eq_true rfl) (Nat.le_of_ble_eq_true rfl) ?_
  intro μ2 hk
  refine px_iconst (v := (0 : Int32)) C dX9_pairs_9 rfl ?_
  refine px_istore_n (i := 2) C dX9_pairs_10 rfl (by decide) rfl ?_
  refine px_iconst (v := (0 : Int32)) C dX9_pairs_11 rfl ?_
  refine px_istore_n (i := 3) C dX9_pairs_12 rfl (by decide) rfl ?_
  exact PW_at (w9_pairs_b13_ok C hRt hHR hnT hk) (And.intro rfl (And.intro rfl (And.intro rfl (And.intro rfl trivial)))) (Nat.le_of_ble_eq_true rfl) (Nat.le_of_ble_eq_true rfl)
theorem dX9_isAccepted_0 : decode cX9_isAccepted 0 = .ok (.aload_n 0, 1) := by decide +kernel
theorem dX9_isAccepted_1 : decode cX9_isAccepted 1 = .ok (.iload_n 1, 1) := by decide +kernel
theorem dX9_isAccepted_2 : decode cX9_isAccepted 2 = .ok (.invokevirtual 216, 3) := by decide +kernel
theorem dX9_isAccepted_5 : decode cX9_isAccepted 5 = .ok (.istore_n 2, 1) := by decide +kernel
theorem dX9_isAccepted_6 : decode cX9_isAccepted 6 = .ok (.aload_n 0, 1) := by decide +kernel
theorem dX9_isAccepted_7 : decode cX9_isAccepted 7 = .ok (.getfield 80, 3) := by decide +kernel
theorem dX9_isAccepted_10 : decode cX9_isAccepted 10 = .ok (.ifCond .le 5, 3) := by decide +kernel
theorem dX9_isAccepted_13 : decode cX9_isAccepted 13 = .ok (.iconst 0, 1) := by decide +kernel
theorem dX9_isAccepted_14 : decode cX9_isAccepted 14 = .ok (.ireturn, 1) := by decide +kernel
theorem dX9_isAccepted_15 : decode cX9_isAccepted 15 = .ok (.aload_n 0, 1) := by decide +kernel
theorem dX9_isAccepted_16 : decode cX9_isAccepted 16 = .ok (.invokevirtual 137, 3) := by decide +kernel
theorem dX9_isAccepted_19 : decode cX9_isAccepted 19 = .ok (.aload_n 0, 1) := by decide +kernel
theorem dX9_isAccepted_20 : decode cX9_isAccepted 20 = .ok (.aload_n 0, 1) := by decide +kernel
theorem dX9_isAccepted_21 : decode cX9_isAccepted 21 = .ok (.getfield 44, 3) := by decide +kernel
theorem dX9_isAccepted_24 : decode cX9_isAccepted 24 = .ok (.iload_n 2, 1) := by decide +kernel
theorem dX9_isAccepted_25 : decode cX9_isAccepted 25 = .ok (.iaload, 1) := by decide +kernel
theorem dX9_isAccepted_26 : decode cX9_isAccepted 26 = .ok (.iconst (-1), 1) := by decide +kernel
theorem dX9_isAccepted_27 : decode cX9_isAccepted 27 = .ok (.if_icmp .ne 7, 3) := by decide +kernel
theorem dX9_isAccepted_30 : decode cX9_isAccepted 30 = .ok (.iconst 2, 1) := by decide +kernel
theorem dX9_isAccepted_31 : decode cX9_isAccepted 31 = .ok (.goto 4, 3) := by decide +kernel
theorem dX9_isAccepted_34 : decode cX9_isAccepted 34 = .ok (.iconst 0, 1) := by decide +kernel
theorem dX9_isAccepted_35 : decode cX9_isAccepted 35 = .ok (.putfield 80, 3) := by decide +kernel
theorem dX9_isAccepted_38 : decode cX9_isAccepted 38 = .ok (.aload_n 0, 1) := by decide +kernel
theorem dX9_isAccepted_39 : decode cX9_isAccepted 39 = .ok (.getfield 44, 3) := by decide +kernel
theorem dX9_isAccepted_42 : decode cX9_isAccepted 42 = .ok (.iload_n 2, 1) := by decide +kernel
theorem dX9_isAccepted_43 : decode cX9_isAccepted 43 = .ok (.iaload, 1) := by decide +kernel
theorem dX9_isAccepted_44 : decode cX9_isAccepted 44 = .ok (.iconst 1, 1) := by decide +kernel
theorem dX9_isAccepted_45 : decode cX9_isAccepted 45 = .ok (.if_icmp .ne 7, 3) := by decide +kernel
theorem dX9_isAccepted_48 : decode cX9_isAccepted 48 = .ok (.iconst 1, 1) := by decide +kernel
theorem dX9_isAccepted_49 : decode cX9_isAccepted 49 = .ok (.goto 4, 3) := by decide +kernel
theorem dX9_isAccepted_52 : decode cX9_isAccepted 52 = .ok (.iconst 0, 1) := by decide +kernel
theorem dX9_isAccepted_53 : decode cX9_isAccepted 53 = .ok (.ireturn, 1) := by decide +kernel
set_option maxRecDepth 100000 in
set_option maxHeartbeats 4000000 in
theorem w9_isAccepted_b35_ok {G : GT} {P : Int32 → Mem → Prop} {X : String → Mem → Prop} (C : PCx G cX9_isAccepted 3 RX9) (hRt : PRt G (some .boolean) (qI P) X) (hHR : HR G (6)) (hnT : NoT G) {μ : Mem} {l2 : Int32} {s0 : Int32} (hk : w9_isAccepted_b35 P μ l2 s0) : PW G 0 0 35 [some (pR 50 0), none, some (pI l2)] [pI s0, pR 50 0] μ := by
  unfold w9_isAccepted_b35 at hk
  replace hk := hk _ rfl
  refine px_puti 3201 C dX9_isAccepted_35 fp_RX9_80 rfl rfl rfl rfl rfl rfl ?_
  refine px_aload_n (i := 0) C dX9_isAccepted_38 rfl rfl ?_
  refine px_getr C dX9_isAccepted_39 fl_RX9_44 rfl rfl rfl ?_
  refine px_iload_n (i := 2) C dX9_isAccepted_42 rfl rfl ?_
  obtain ⟨o6, hk⟩ := hk
  refine px_iald 3904 C dX9_isAccepted_43 rfl rfl rfl rfl o6 ?_
  refine px_iconst (v := (1 : Int32)) C dX9_isAccepted_44 rfl ?_
  refine px_icmp_ne (tgt := 52) C dX9_isAccepted_45 (by decide) (fun c7 => ?_) (fun c7 => ?_)
  · replace hk := hk.1 c7
    refine px_iconst (v := (0 : Int32)) C dX9_isAccepted_52 rfl ?_
    exact px_iret C hRt dX9_isAccepted_53 rfl rfl hk
  · replace hk := hk.2 c7
    refine px_iconst (v := (1 : Int32)) C dX9_isAccepted_48 rfl ?_
    refine px_goto (tgt := 53) C dX9_isAccepted_49 (by decide) ?_
    exact px_iret C hRt dX9_isAccepted_53 rfl rfl hk
set_option maxRecDepth 100000 in
set_option maxHeartbeats 4000000 in
theorem w9_isAccepted_ok {l : Launch} {idx : List (Nat × Nat)} {μ : Mem} {a1 : Int32} {P : Int32 → Mem → Prop} {X : String → Mem → Prop} (hl : l.stackTraces = false) (hI : IdxOK idx) (hk : w9_isAccepted_wp μ a1 P) : PMet l yX9_isAccepted (.code yX9_isAccepted cX9_isAccepted 3 (some .boolean)) 6 0 0 idx [pR 50 0, pI a1] μ (qI P) X := by
  refine PMet_of mv_X9_isAccepted.2.2.2.2.2.2 hl hI mv_X9_isAccepted.2.2.2.1 rfl (Nat.le_of_ble_eq_true rfl) (fun G _ _ C hRt hHR hnT => ?_)
  show PW G 0 0 0 [some (pR 50 0), some (pI a1), none] [] μ
  unfold w9_isAccepted_wp at hk
  refine px_aload_n (i := 0) C dX9_isAccepted_0 rfl rfl ?_
  refine px_iload_n (i := 1) C dX9_isAccepted_1 rfl rfl ?_
  refine px_callVi (h := 2) (rc' := 0) (rs' := 0) C (HR_le hHR (Nat.le_of_ble_eq_true rfl)) hRt hnT dX9_isAccepted_2 (gw8 176 rfl rfl) mv_X9_spanOr (w9_spanOr_ok (PCx_l C) (PCx_I C) hk) rfl rfl rfl rfl rfl (Nat.le_of_ble_eq_true rfl) (Nat.le_of_ble_eq_true rfl) (Nat.le_of_ble_eq_true rfl) (Nat.le_of_ble_eq_true rfl) ?_
  intro r2 μ1 hk
  refine px_istore_n (i := 2) C dX9_isAccepted_5 rfl (by decide) rfl ?_
  refine px_aload_n (i := 0) C dX9_isAccepted_6 rfl rfl ?_
  refine px_geti 3201 C dX9_isAccepted_7 fl_RX9_80 rfl rfl rfl rfl ?_
  refine px_if_le (tgt := 15) C dX9_isAccepted_10 (by decide) (fun c9 => ?_) (fun c9 => ?_)
  · replace hk := hk.1 c9
    refine px_aload_n (i := 0) C dX9_isAccepted_15 rfl rfl ?_
    refine px_callVv (h := 5) (rc' := 0) (rs' := 0) C (HR_le hHR (Nat.le_of_ble_eq_true rfl)) hRt hnT dX9_isAccepted_16 (gw8 208 rfl rfl) mv_X9_knows (w9_knows_ok (PCx_l C) (PCx_I C) hk) rfl rfl rfl rfl rfl (Nat.le_of_ble_eq_true rfl) (Nat.le_of_ble_eq_true rfl) (Nat.le_of_ble_eq_true rfl) (Nat.le_of_ble_eq_true rfl) ?_
    intro μ3 hk
    refine px_aload_n (i := 0) C dX9_isAccepted_19 rfl rfl ?_
    refine px_aload_n (i := 0) C dX9_isAccepted_20 rfl rfl ?_
    refine px_getr C dX9_isAccepted_21 fl_RX9_44 rfl rfl rfl ?_
    refine px_iload_n (i := 2) C dX9_isAccepted_24 rfl rfl ?_
    obtain ⟨o4, hk⟩ := hk
    refine px_iald 3904 C dX9_isAccepted_25 rfl rfl rfl rfl o4 ?_
    refine px_iconst (v := (-1 : Int32)) C dX9_isAccepted_26 rfl ?_
    refine px_icmp_ne (tgt := 34) C dX9_isAccepted_27 (by decide) (fun c8 => ?_) (fun c8 => ?_)
    · replace hk := hk.1 c8
      refine px_iconst (v := (0 : Int32)) C dX9_isAccepted_34 rfl ?_
      exact PW_at (w9_isAccepted_b35_ok C hRt hHR hnT hk) (And.intro rfl (And.intro rfl trivial)) (Nat.le_of_ble_eq_true rfl) (Nat.le_of_ble_eq_true rfl)
    · replace hk := hk.2 c8
      refine px_iconst (v := (2 : Int32)) C dX9_isAccepted_30 rfl ?_
      refine px_goto (tgt := 35) C dX9_isAccepted_31 (by decide) ?_
      exact PW_at (w9_isAccepted_b35_ok C hRt hHR hnT hk) (And.intro rfl (And.intro rfl trivial)) (Nat.le_of_ble_eq_true rfl) (Nat.le_of_ble_eq_true rfl)
  · replace hk := hk.2 c9
    refine px_iconst (v := (0 : Int32)) C dX9_isAccepted_13 rfl ?_
    exact px_iret C hRt dX9_isAccepted_14 rfl rfl hk
theorem dX9_isInside_0 : decode cX9_isInside 0 = .ok (.aload_n 0, 1) := by decide +kernel
theorem dX9_isInside_1 : decode cX9_isInside 1 = .ok (.iload_n 1, 1) := by decide +kernel
theorem dX9_isInside_2 : decode cX9_isInside 2 = .ok (.invokevirtual 216, 3) := by decide +kernel
theorem dX9_isInside_5 : decode cX9_isInside 5 = .ok (.istore_n 2, 1) := by decide +kernel
theorem dX9_isInside_6 : decode cX9_isInside 6 = .ok (.aload_n 0, 1) := by decide +kernel
theorem dX9_isInside_7 : decode cX9_isInside 7 = .ok (.getfield 80, 3) := by decide +kernel
theorem dX9_isInside_10 : decode cX9_isInside 10 = .ok (.ifCond .le 5, 3) := by decide +kernel
theorem dX9_isInside_13 : decode cX9_isInside 13 = .ok (.iconst 0, 1) := by decide +kernel
theorem dX9_isInside_14 : decode cX9_isInside 14 = .ok (.ireturn, 1) := by decide +kernel
theorem dX9_isInside_15 : decode cX9_isInside 15 = .ok (.aload_n 0, 1) := by decide +kernel
theorem dX9_isInside_16 : decode cX9_isInside 16 = .ok (.invokevirtual 137, 3) := by decide +kernel
theorem dX9_isInside_19 : decode cX9_isInside 19 = .ok (.aload_n 0, 1) := by decide +kernel
theorem dX9_isInside_20 : decode cX9_isInside 20 = .ok (.iload_n 2, 1) := by decide +kernel
theorem dX9_isInside_21 : decode cX9_isInside 21 = .ok (.invokevirtual 99, 3) := by decide +kernel
theorem dX9_isInside_24 : decode cX9_isInside 24 = .ok (.istore_n 3, 1) := by decide +kernel
theorem dX9_isInside_25 : decode cX9_isInside 25 = .ok (.aload_n 0, 1) := by decide +kernel
theorem dX9_isInside_26 : decode cX9_isInside 26 = .ok (.iload_n 3, 1) := by decide +kernel
theorem dX9_isInside_27 : decode cX9_isInside 27 = .ok (.iconst (-1), 1) := by decide +kernel
theorem dX9_isInside_28 : decode cX9_isInside 28 = .ok (.if_icmp .ne 7, 3) := by decide +kernel
theorem dX9_isInside_31 : decode cX9_isInside 31 = .ok (.iconst 2, 1) := by decide +kernel
theorem dX9_isInside_32 : decode cX9_isInside 32 = .ok (.goto 4, 3) := by decide +kernel
theorem dX9_isInside_35 : decode cX9_isInside 35 = .ok (.iconst 0, 1) := by decide +kernel
theorem dX9_isInside_36 : decode cX9_isInside 36 = .ok (.putfield 80, 3) := by decide +kernel
theorem dX9_isInside_39 : decode cX9_isInside 39 = .ok (.iload_n 3, 1) := by decide +kernel
theorem dX9_isInside_40 : decode cX9_isInside 40 = .ok (.iconst (-1), 1) := by decide +kernel
theorem dX9_isInside_41 : decode cX9_isInside 41 = .ok (.if_icmp .eq 33, 3) := by decide +kernel
theorem dX9_isInside_44 : decode cX9_isInside 44 = .ok (.aload_n 0, 1) := by decide +kernel
theorem dX9_isInside_45 : decode cX9_isInside 45 = .ok (.iload_n 2, 1) := by decide +kernel
theorem dX9_isInside_46 : decode cX9_isInside 46 = .ok (.invokevirtual 131, 3) := by decide +kernel
theorem dX9_isInside_49 : decode cX9_isInside 49 = .ok (.aload_n 0, 1) := by decide +kernel
theorem dX9_isInside_50 : decode cX9_isInside 50 = .ok (.iload_n 3, 1) := by decide +kernel
theorem dX9_isInside_51 : decode cX9_isInside 51 = .ok (.invokevirtual 131, 3) := by decide +kernel
theorem dX9_isInside_54 : decode cX9_isInside 54 = .ok (.if_icmp .lt 20, 3) := by decide +kernel
theorem dX9_isInside_57 : decode cX9_isInside 57 = .ok (.aload_n 0, 1) := by decide +kernel
theorem dX9_isInside_58 : decode cX9_isInside 58 = .ok (.iload_n 2, 1) := by decide +kernel
theorem dX9_isInside_59 : decode cX9_isInside 59 = .ok (.invokevirtual 134, 3) := by decide +kernel
theorem dX9_isInside_62 : decode cX9_isInside 62 = .ok (.aload_n 0, 1) := by decide +kernel
theorem dX9_isInside_63 : decode cX9_isInside 63 = .ok (.iload_n 3, 1) := by decide +kernel
theorem dX9_isInside_64 : decode cX9_isInside 64 = .ok (.invokevirtual 134, 3) := by decide +kernel
theorem dX9_isInside_67 : decode cX9_isInside 67 = .ok (.if_icmp .gt 7, 3) := by decide +kernel
theorem dX9_isInside_70 : decode cX9_isInside 70 = .ok (.iconst 1, 1) := by decide +kernel
theorem dX9_isInside_71 : decode cX9_isInside 71 = .ok (.goto 4, 3) := by decide +kernel
theorem dX9_isInside_74 : decode cX9_isInside 74 = .ok (.iconst 0, 1) := by decide +kernel
theorem dX9_isInside_75 : decode cX9_isInside 75 = .ok (.ireturn, 1) := by decide +kernel
set_option maxRecDepth 100000 in
set_option maxHeartbeats 4000000 in
theorem w9_isInside_b36_ok {G : GT} {P : Int32 → Mem → Prop} {X : String → Mem → Prop} (C : PCx G cX9_isInside 4 RX9) (hRt : PRt G (some .boolean) (qI P) X) (hHR : HR G (6)) (hnT : NoT G) {μ : Mem} {l2 : Int32} {l3 : Int32} {s0 : Int32} (hk : w9_isInside_b36 P μ l2 l3 s0) : PW G 0 0 36 [some (pR 50 0), none, some (pI l2), some (pI l3)] [pI s0, pR 50 0] μ := by
  unfold w9_isInside_b36 at hk
  replace hk := hk _ rfl
  refine px_puti 3201 C dX9_isInside_36 fp_RX9_80 rfl rfl rfl rfl rfl rfl ?_
  refine px_iload_n (i := 3) C dX9_isInside_39 rfl rfl ?_
  refine px_iconst (v := (-1 : Int32)) C dX9_isInside_40 rfl ?_
  refine px_icmp_eq (tgt := 74) C dX9_isInside_41 (by decide) (fun c17 => ?_) (fun c17 => ?_)
  · replace hk := hk.1 c17
    refine px_iconst (v := (0 : Int32)) C dX9_isInside_74 rfl ?_
    exact px_iret C hRt dX9_isInside_75 rfl rfl hk
  · replace hk := hk.2 c17
    refine px_aload_n (i := 0) C dX9_isInside_44 rfl rfl ?_
    refine px_iload_n (i := 2) C dX9_isInside_45 rfl rfl ?_
    refine px_callVi (h := 1) (rc' := 0) (rs' := 0) C (HR_le hHR (Nat.le_of_ble_eq_true rfl)) hRt hnT dX9_isInside_46 (gw9 22 rfl rfl) mv_X9_begin (w9_begin_ok (PCx_l C) (PCx_I C) hk) rfl rfl rfl rfl rfl (Nat.le_of_ble_eq_true rfl) (Nat.le_of_ble_eq_true rfl) (Nat.le_of_ble_eq_true rfl) (Nat.le_of_ble_eq_true rfl) ?_
    intro r8 μ7 hk
    refine px_aload_n (i := 0) C dX9_isInside_49 rfl rfl ?_
    refine px_iload_n (i := 3) C dX9_isInside_50 rfl rfl ?_
    refine px_callVi (h := 1) (rc' := 0) (rs' := 0) C (HR_le hHR (Nat.le_of_ble_eq_true rfl)) hRt hnT dX9_isInside_51 (gw9 22 rfl rfl) mv_X9_begin (w9_begin_ok (PCx_l C) (PCx_I C) hk) rfl rfl rfl rfl rfl (Nat.le_of_ble_eq_true rfl) (Nat.le_of_ble_eq_true rfl) (Nat.le_of_ble_eq_true rfl) (Nat.le_of_ble_eq_true rfl) ?_
    intro r10 μ9 hk
    refine px_icmp_lt (tgt := 74) C dX9_isInside_54 (by decide) (fun c16 => ?_) (fun c16 => ?_)
    · replace hk := hk.1 c16
      refine px_iconst (v := (0 : Int32)) C dX9_isInside_74 rfl ?_
      exact px_iret C hRt dX9_isInside_75 rfl rfl hk
    · replace hk := hk.2 c16
      refine px_aload_n (i := 0) C dX9_isInside_57 rfl rfl ?_
      refine px_iload_n (i := 2) C dX9_isInside_58 rfl rfl ?_
      refine px_callVi (h := 1) (rc' := 0) (rs' := 0) C (HR_le hHR (Nat.le_of_ble_eq_true rfl)) hRt hnT dX9_isInside_59 (gw9 26 rfl rfl) mv_X9_end (w9_end_ok (PCx_l C) (PCx_I C) hk) rfl rfl rfl rfl rfl (Nat.le_of_ble_eq_true rfl) (Nat.le_of_ble_eq_true rfl) (Nat.le_of_ble_eq_true rfl) (Nat.le_of_ble_eq_true rfl) ?_
      intro r12 μ11 hk
      refine px_aload_n (i := 0) C dX9_isInside_62 rfl rfl ?_
      refine px_iload_n (i := 3) C dX9_isInside_63 rfl rfl ?_
      refine px_callVi (h := 1) (rc' := 0) (rs' := 0) C (HR_le hHR (Nat.le_of_ble_eq_true rfl)) hRt hnT dX9_isInside_64 (gw9 26 rfl rfl) mv_X9_end (w9_end_ok (PCx_l C) (PCx_I C) hk) rfl rfl rfl rfl rfl (Nat.le_of_ble_eq_true rfl) (Nat.le_of_ble_eq_true rfl) (Nat.le_of_ble_eq_true rfl) (Nat.le_of_ble_eq_true rfl) ?_
      intro r14 μ13 hk
      refine px_icmp_gt (tgt := 74) C dX9_isInside_67 (by decide) (fun c15 => ?_) (fun c15 => ?_)
      · replace hk := hk.1 c15
        refine px_iconst (v := (0 : Int32)) C dX9_isInside_74 rfl ?_
        exact px_iret C hRt dX9_isInside_75 rfl rfl hk
      · replace hk := hk.2 c15
        refine px_iconst (v := (1 : Int32)) C dX9_isInside_70 rfl ?_
        refine px_goto (tgt := 75) C dX9_isInside_71 (by decide) ?_
        exact px_iret C hRt dX9_isInside_75 rfl rfl hk
set_option maxRecDepth 100000 in
set_option maxHeartbeats 4000000 in
theorem w9_isInside_ok {l : Launch} {idx : List (Nat × Nat)} {μ : Mem} {a1 : Int32} {P : Int32 → Mem → Prop} {X : String → Mem → Prop} (hl : l.stackTraces = false) (hI : IdxOK idx) (hk : w9_isInside_wp μ a1 P) : PMet l yX9_isInside (.code yX9_isInside cX9_isInside 4 (some .boolean)) 6 0 0 idx [pR 50 0, pI a1] μ (qI P) X := by
  refine PMet_of mv_X9_isInside.2.2.2.2.2.2 hl hI mv_X9_isInside.2.2.2.1 rfl (Nat.le_of_ble_eq_true rfl) (fun G _ _ C hRt hHR hnT => ?_)
  show PW G 0 0 0 [some (pR 50 0), some (pI a1), none, none] [] μ
  unfold w9_isInside_wp at hk
  refine px_aload_n (i := 0) C dX9_isInside_0 rfl rfl ?_
  refine px_iload_n (i := 1) C dX9_isInside_1 rfl rfl ?_
  refine px_callVi (h := 2) (rc' := 0) (rs' := 0) C (HR_le hHR (Nat.le_of_ble_eq_true rfl)) hRt hnT dX9_isInside_2 (gw8 176 rfl rfl) mv_X9_spanOr (w9_spanOr_ok (PCx_l C) (PCx_I C) hk) rfl rfl rfl rfl rfl (Nat.le_of_ble_eq_true rfl) (Nat.le_of_ble_eq_true rfl) (Nat.le_of_ble_eq_true rfl) (Nat.le_of_ble_eq_true rfl) ?_
  intro r2 μ1 hk
  refine px_istore_n (i := 2) C dX9_isInside_5 rfl (by decide) rfl ?_
  refine px_aload_n (i := 0) C dX9_isInside_6 rfl rfl ?_
  refine px_geti 3201 C dX9_isInside_7 fl_RX9_80 rfl rfl rfl rfl ?_
  refine px_if_le (tgt := 15) C dX9_isInside_10 (by decide) (fun c19 => ?_) (fun c19 => ?_)
  · replace hk := hk.1 c19
    refine px_aload_n (i := 0) C dX9_isInside_15 rfl rfl ?_
    refine px_callVv (h := 5) (rc' := 0) (rs' := 0) C (HR_le hHR (Nat.le_of_ble_eq_true rfl)) hRt hnT dX9_isInside_16 (gw8 208 rfl rfl) mv_X9_knows (w9_knows_ok (PCx_l C) (PCx_I C) hk) rfl rfl rfl rfl rfl (Nat.le_of_ble_eq_true rfl) (Nat.le_of_ble_eq_true rfl) (Nat.le_of_ble_eq_true rfl) (Nat.le_of_ble_eq_true rfl) ?_
    intro μ3 hk
    refine px_aload_n (i := 0) C dX9_isInside_19 rfl rfl ?_
    refine px_iload_n (i := 2) C dX9_isInside_20 rfl rfl ?_
    refine px_callVi (h := 2) (rc' := 0) (rs' := 0) C (HR_le hHR (Nat.le_of_ble_eq_true rfl)) hRt hnT dX9_isInside_21 (gw8 217 rfl rfl) mv_X9_parentOf (w9_parentOf_ok (PCx_l C) (PCx_I C) hk) rfl rfl rfl rfl rfl (Nat.le_of_ble_eq_true rfl) (Nat.le_of_ble_eq_true rfl) (Nat.le_of_ble_eq_true rfl) (Nat.le_of_ble_eq_true rfl) ?_
    intro r5 μ4 hk
    refine px_istore_n (i := 3) C dX9_isInside_24 rfl (by decide) rfl ?_
    refine px_aload_n (i := 0) C dX9_isInside_25 rfl rfl ?_
    refine px_iload_n (i := 3) C dX9_isInside_26 rfl rfl ?_
    refine px_iconst (v := (-1 : Int32)) C dX9_isInside_27 rfl ?_
    refine px_icmp_ne (tgt := 35) C dX9_isInside_28 (by decide) (fun c18 => ?_) (fun c18 => ?_)
    · replace hk := hk.1 c18
      refine px_iconst (v := (0 : Int32)) C dX9_isInside_35 rfl ?_
      exact PW_at (w9_isInside_b36_ok C hRt hHR hnT hk) (And.intro rfl (And.intro rfl (And.intro rfl trivial))) (Nat.le_of_ble_eq_true rfl) (Nat.le_of_ble_eq_true rfl)
    · replace hk := hk.2 c18
      refine px_iconst (v := (2 : Int32)) C dX9_isInside_31 rfl ?_
      refine px_goto (tgt := 36) C dX9_isInside_32 (by decide) ?_
      exact PW_at (w9_isInside_b36_ok C hRt hHR hnT hk) (And.intro rfl (And.intro rfl (And.intro rfl trivial))) (Nat.le_of_ble_eq_true rfl) (Nat.le_of_ble_eq_true rfl)
  · replace hk := hk.2 c19
    refine px_iconst (v := (0 : Int32)) C dX9_isInside_13 rfl ?_
    exact px_iret C hRt dX9_isInside_14 rfl rfl hk
theorem dX9_corrected_0 : decode cX9_corrected 0 = .ok (.aload_n 0, 1) := by decide +kernel
theorem dX9_corrected_1 : decode cX9_corrected 1 = .ok (.iload_n 1, 1) := by decide +kernel
theorem dX9_corrected_2 : decode cX9_corrected 2 = .ok (.invokevirtual 216, 3) := by decide +kernel
theorem dX9_corrected_5 : decode cX9_corrected 5 = .ok (.istore_n 3, 1) := by decide +kernel
theorem dX9_corrected_6 : decode cX9_corrected 6 = .ok (.aload_n 0, 1) := by decide +kernel
theorem dX9_corrected_7 : decode cX9_corrected 7 = .ok (.getfield 80, 3) := by decide +kernel
theorem dX9_corrected_10 : decode cX9_corrected 10 = .ok (.ifCond .le 5, 3) := by decide +kernel
theorem dX9_corrected_13 : decode cX9_corrected 13 = .ok (.iconst 0, 1) := by decide +kernel
theorem dX9_corrected_14 : decode cX9_corrected 14 = .ok (.ireturn, 1) := by decide +kernel
theorem dX9_corrected_15 : decode cX9_corrected 15 = .ok (.aload_n 0, 1) := by decide +kernel
theorem dX9_corrected_16 : decode cX9_corrected 16 = .ok (.invokevirtual 137, 3) := by decide +kernel
theorem dX9_corrected_19 : decode cX9_corrected 19 = .ok (.iload_n 2, 1) := by decide +kernel
theorem dX9_corrected_20 : decode cX9_corrected 20 = .ok (.ifCond .eq 11, 3) := by decide +kernel
theorem dX9_corrected_23 : decode cX9_corrected 23 = .ok (.aload_n 0, 1) := by decide +kernel
theorem dX9_corrected_24 : decode cX9_corrected 24 = .ok (.iload_n 3, 1) := by decide +kernel
theorem dX9_corrected_25 : decode cX9_corrected 25 = .ok (.invokevirtual 134, 3) := by decide +kernel
theorem dX9_corrected_28 : decode cX9_corrected 28 = .ok (.goto 8, 3) := by decide +kernel
theorem dX9_corrected_31 : decode cX9_corrected 31 = .ok (.aload_n 0, 1) := by decide +kernel
theorem dX9_corrected_32 : decode cX9_corrected 32 = .ok (.iload_n 3, 1) := by decide +kernel
theorem dX9_corrected_33 : decode cX9_corrected 33 = .ok (.invokevirtual 131, 3) := by decide +kernel
theorem dX9_corrected_36 : decode cX9_corrected 36 = .ok (.ireturn, 1) := by decide +kernel
set_option maxRecDepth 100000 in
set_option maxHeartbeats 4000000 in
theorem w9_corrected_ok {l : Launch} {idx : List (Nat × Nat)} {μ : Mem} {a1 : Int32} {a2 : Int32} {P : Int32 → Mem → Prop} {X : String → Mem → Prop} (hl : l.stackTraces = false) (hI : IdxOK idx) (hk : w9_corrected_wp μ a1 a2 P) : PMet l yX9_corrected (.code yX9_corrected cX9_corrected 4 (some .int)) 6 0 0 idx [pR 50 0, pI a1, pI a2] μ (qI P) X := by
  refine PMet_of mv_X9_corrected.2.2.2.2.2.2 hl hI mv_X9_corrected.2.2.2.1 rfl (Nat.le_of_ble_eq_true rfl) (fun G _ _ C hRt hHR hnT => ?_)
  show PW G 0 0 0 [some (pR 50 0), some (pI a1), some (pI a2), none] [] μ
  unfold w9_corrected_wp at hk
  refine px_aload_n (i := 0) C dX9_corrected_0 rfl rfl ?_
  refine px_iload_n (i := 1) C dX9_corrected_1 rfl rfl ?_
  refine px_callVi (h := 2) (rc' := 0) (rs' := 0) C (HR_le hHR (Nat.le_of_ble_eq_true rfl)) hRt hnT dX9_corrected_2 (gw8 176 rfl rfl) mv_X9_spanOr (w9_spanOr_ok (PCx_l C) (PCx_I C) hk) rfl rfl rfl rfl rfl (Nat.le_of_ble_eq_true rfl) (Nat.le_of_ble_eq_true rfl) (Nat.le_of_ble_eq_true rfl) (Nat.le_of_ble_eq_true rfl) ?_
  intro r2 μ1 hk
  refine px_istore_n (i := 3) C dX9_corrected_5 rfl (by decide) rfl ?_
  refine px_aload_n (i := 0) C dX9_corrected_6 rfl rfl ?_
  refine px_geti 3201 C dX9_corrected_7 fl_RX9_80 rfl rfl rfl rfl ?_
  refine px_if_le (tgt := 15) C dX9_corrected_10 (by decide) (fun c9 => ?_) (fun c9 => ?_)
  · replace hk := hk.1 c9
    refine px_aload_n (i := 0) C dX9_corrected_15 rfl rfl ?_
    refine px_callVv (h := 5) (rc' := 0) (rs' := 0) C (HR_le hHR (Nat.le_of_ble_eq_true rfl)) hRt hnT dX9_corrected_16 (gw8 208 rfl rfl) mv_X9_knows (w9_knows_ok (PCx_l C) (PCx_I C) hk) rfl rfl rfl rfl rfl (Nat.le_of_ble_eq_true rfl) (Nat.le_of_ble_eq_true rfl) (Nat.le_of_ble_eq_true rfl) (Nat.le_of_ble_eq_true rfl) ?_
    intro μ3 hk
    refine px_iload_n (i := 2) C dX9_corrected_19 rfl rfl ?_
    refine px_if_eq (tgt := 31) C dX9_corrected_20 (by decide) (fun c8 => ?_) (fun c8 => ?_)
    · replace hk := hk.1 c8
      refine px_aload_n (i := 0) C dX9_corrected_31 rfl rfl ?_
      refine px_iload_n (i := 3) C dX9_corrected_32 rfl rfl ?_
      refine px_callVi (h := 1) (rc' := 0) (rs' := 0) C (HR_le hHR (Nat.le_of_ble_eq_true rfl)) hRt hnT dX9_corrected_33 (gw9 22 rfl rfl) mv_X9_begin (w9_begin_ok (PCx_l C) (PCx_I C) hk) rfl rfl rfl rfl rfl (Nat.le_of_ble_eq_true rfl) (Nat.le_of_ble_eq_true rfl) (Nat.le_of_ble_eq_true rfl) (Nat.le_of_ble_eq_true rfl) ?_
      intro r5 μ4 hk
      exact px_iret C hRt dX9_corrected_36 rfl rfl hk
    · replace hk := hk.2 c8
      refine px_aload_n (i := 0) C dX9_corrected_23 rfl rfl ?_
      refine px_iload_n (i := 3) C dX9_corrected_24 rfl rfl ?_
      refine px_callVi (h := 1) (rc' := 0) (rs' := 0) C (HR_le hHR (Nat.le_of_ble_eq_true rfl)) hRt hnT dX9_corrected_25 (gw9 26 rfl rfl) mv_X9_end (w9_end_ok (PCx_l C) (PCx_I C) hk) rfl rfl rfl rfl rfl (Nat.le_of_ble_eq_true rfl) (Nat.le_of_ble_eq_true rfl) (Nat.le_of_ble_eq_true rfl) (Nat.le_of_ble_eq_true rfl) ?_
      intro r7 μ6 hk
      refine px_goto (tgt := 36) C dX9_corrected_28 (by decide) ?_
      exact px_iret C hRt dX9_corrected_36 rfl rfl hk
  · replace hk := hk.2 c9
    refine px_iconst (v := (0 : Int32)) C dX9_corrected_13 rfl ?_
    exact px_iret C hRt dX9_corrected_14 rfl rfl hk
theorem dX9_explain_0 : decode cX9_explain 0 = .ok (.aload_n 0, 1) := by decide +kernel
theorem dX9_explain_1 : decode cX9_explain 1 = .ok (.iload_n 1, 1) := by decide +kernel
theorem dX9_explain_2 : decode cX9_explain 2 = .ok (.invokevirtual 216, 3) := by decide +kernel
theorem dX9_explain_5 : decode cX9_explain 5 = .ok (.istore_n 2, 1) := by decide +kernel
theorem dX9_explain_6 : decode cX9_explain 6 = .ok (.aload_n 0, 1) := by decide +kernel
theorem dX9_explain_7 : decode cX9_explain 7 = .ok (.getfield 80, 3) := by decide +kernel
theorem dX9_explain_10 : decode cX9_explain 10 = .ok (.ifCond .le 5, 3) := by decide +kernel
theorem dX9_explain_13 : decode cX9_explain 13 = .ok (.iconst 0, 1) := by decide +kernel
theorem dX9_explain_14 : decode cX9_explain 14 = .ok (.ireturn, 1) := by decide +kernel
theorem dX9_explain_15 : decode cX9_explain 15 = .ok (.aload_n 0, 1) := by decide +kernel
theorem dX9_explain_16 : decode cX9_explain 16 = .ok (.invokevirtual 137, 3) := by decide +kernel
theorem dX9_explain_19 : decode cX9_explain 19 = .ok (.aload_n 0, 1) := by decide +kernel
theorem dX9_explain_20 : decode cX9_explain 20 = .ok (.getfield 50, 3) := by decide +kernel
theorem dX9_explain_23 : decode cX9_explain 23 = .ok (.iload_n 2, 1) := by decide +kernel
theorem dX9_explain_24 : decode cX9_explain 24 = .ok (.iaload, 1) := by decide +kernel
theorem dX9_explain_25 : decode cX9_explain 25 = .ok (.ireturn, 1) := by decide +kernel
set_option maxRecDepth 100000 in
set_option maxHeartbeats 4000000 in
theorem w9_explain_ok {l : Launch} {idx : List (Nat × Nat)} {μ : Mem} {a1 : Int32} {P : Int32 → Mem → Prop} {X : String → Mem → Prop} (hl : l.stackTraces = false) (hI : IdxOK idx) (hk : w9_explain_wp μ a1 P) : PMet l yX9_explain (.code yX9_explain cX9_explain 3 (some .int)) 6 0 0 idx [pR 50 0, pI a1] μ (qI P) X := by
  refine PMet_of mv_X9_explain.2.2.2.2.2.2 hl hI mv_X9_explain.2.2.2.1 rfl (Nat.le_of_ble_eq_true rfl) (fun G _ _ C hRt hHR hnT => ?_)
  show PW G 0 0 0 [some (pR 50 0), some (pI a1), none] [] μ
  unfold w9_explain_wp at hk
  refine px_aload_n (i := 0) C dX9_explain_0 rfl rfl ?_
  refine px_iload_n (i := 1) C dX9_explain_1 rfl rfl ?_
  refine px_callVi (h := 2) (rc' := 0) (rs' := 0) C (HR_le hHR (Nat.le_of_ble_eq_true rfl)) hRt hnT dX9_explain_2 (gw8 176 rfl rfl) mv_X9_spanOr (w9_spanOr_ok (PCx_l C) (PCx_I C) hk) rfl rfl rfl rfl rfl (Nat.le_of_ble_eq_true rfl) (Nat.le_of_ble_eq_true rfl) (Nat.le_of_ble_eq_true rfl) (Nat.le_of_ble_eq_true rfl) ?_
  intro r2 μ1 hk
  refine px_istore_n (i := 2) C dX9_explain_5 rfl (by decide) rfl ?_
  refine px_aload_n (i := 0) C dX9_explain_6 rfl rfl ?_
  refine px_geti 3201 C dX9_explain_7 fl_RX9_80 rfl rfl rfl rfl ?_
  refine px_if_le (tgt := 15) C dX9_explain_10 (by decide) (fun c5 => ?_) (fun c5 => ?_)
  · replace hk := hk.1 c5
    refine px_aload_n (i := 0) C dX9_explain_15 rfl rfl ?_
    refine px_callVv (h := 5) (rc' := 0) (rs' := 0) C (HR_le hHR (Nat.le_of_ble_eq_true rfl)) hRt hnT dX9_explain_16 (gw8 208 rfl rfl) mv_X9_knows (w9_knows_ok (PCx_l C) (PCx_I C) hk) rfl rfl rfl rfl rfl (Nat.le_of_ble_eq_true rfl) (Nat.le_of_ble_eq_true rfl) (Nat.le_of_ble_eq_true rfl) (Nat.le_of_ble_eq_true rfl) ?_
    intro μ3 hk
    refine px_aload_n (i := 0) C dX9_explain_19 rfl rfl ?_
    refine px_getr C dX9_explain_20 fl_RX9_50 rfl rfl rfl ?_
    refine px_iload_n (i := 2) C dX9_explain_23 rfl rfl ?_
    obtain ⟨o4, hk⟩ := hk
    refine px_iald 4032 C dX9_explain_24 rfl rfl rfl rfl o4 ?_
    exact px_iret C hRt dX9_explain_25 rfl rfl hk
  · replace hk := hk.2 c5
    refine px_iconst (v := (0 : Int32)) C dX9_explain_13 rfl ?_
    exact px_iret C hRt dX9_explain_14 rfl rfl hk
