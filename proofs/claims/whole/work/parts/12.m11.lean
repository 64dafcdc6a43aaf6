theorem dX8_missing_0 : decode cX8_missing 0 = .ok (.aload_n 0, 1) := by decide +kernel
theorem dX8_missing_1 : decode cX8_missing 1 = .ok (.iload_n 1, 1) := by decide +kernel
theorem dX8_missing_2 : decode cX8_missing 2 = .ok (.invokevirtual 255, 3) := by decide +kernel
theorem dX8_missing_5 : decode cX8_missing 5 = .ok (.aload_n 0, 1) := by decide +kernel
theorem dX8_missing_6 : decode cX8_missing 6 = .ok (.invokevirtual 197, 3) := by decide +kernel
theorem dX8_missing_9 : decode cX8_missing 9 = .ok (.aload_n 0, 1) := by decide +kernel
theorem dX8_missing_10 : decode cX8_missing 10 = .ok (.getfield 86, 3) := by decide +kernel
theorem dX8_missing_13 : decode cX8_missing 13 = .ok (.iload_n 1, 1) := by decide +kernel
theorem dX8_missing_14 : decode cX8_missing 14 = .ok (.iload_n 2, 1) := by decide +kernel
theorem dX8_missing_15 : decode cX8_missing 15 = .ok (.invokevirtual 267, 3) := by decide +kernel
theorem dX8_missing_18 : decode cX8_missing 18 = .ok (.ifCond .ne 14, 3) := by decide +kernel
theorem dX8_missing_21 : decode cX8_missing 21 = .ok (.new 206, 3) := by decide +kernel
theorem dX8_missing_24 : decode cX8_missing 24 = .ok (.dup, 1) := by decide +kernel
theorem dX8_missing_25 : decode cX8_missing 25 = .ok (.ldc_w 270, 3) := by decide +kernel
theorem dX8_missing_28 : decode cX8_missing 28 = .ok (.invokespecial 210, 3) := by decide +kernel
theorem dX8_missing_31 : decode cX8_missing 31 = .ok (.athrow, 1) := by decide +kernel
theorem dX8_missing_32 : decode cX8_missing 32 = .ok (.iload_n 3, 1) := by decide +kernel
theorem dX8_missing_33 : decode cX8_missing 33 = .ok (.ifCond .eq 15, 3) := by decide +kernel
theorem dX8_missing_36 : decode cX8_missing 36 = .ok (.aload_n 0, 1) := by decide +kernel
theorem dX8_missing_37 : decode cX8_missing 37 = .ok (.getfield 86, 3) := by decide +kernel
theorem dX8_missing_40 : decode cX8_missing 40 = .ok (.iload_n 1, 1) := by decide +kernel
theorem dX8_missing_41 : decode cX8_missing 41 = .ok (.iload_n 2, 1) := by decide +kernel
theorem dX8_missing_42 : decode cX8_missing 42 = .ok (.invokevirtual 272, 3) := by decide +kernel
theorem dX8_missing_45 : decode cX8_missing 45 = .ok (.goto 12, 3) := by decide +kernel
theorem dX8_missing_48 : decode cX8_missing 48 = .ok (.aload_n 0, 1) := by decide +kernel
theorem dX8_missing_49 : decode cX8_missing 49 = .ok (.getfield 86, 3) := by decide +kernel
theorem dX8_missing_52 : decode cX8_missing 52 = .ok (.iload_n 1, 1) := by decide +kernel
theorem dX8_missing_53 : decode cX8_missing 53 = .ok (.iload_n 2, 1) := by decide +kernel
theorem dX8_missing_54 : decode cX8_missing 54 = .ok (.invokevirtual 275, 3) := by decide +kernel
theorem dX8_missing_57 : decode cX8_missing 57 = .ok (.ireturn, 1) := by decide +kernel
set_option maxRecDepth 100000 in
set_option maxHeartbeats 4000000 in
theorem w8_missing_ok {l : Launch} {idx : List (Nat × Nat)} {μ : Mem} {a1 : Int32} {a2 : Int32} {a3 : Int32} {P : Int32 → Mem → Prop} {X : String → Mem → Prop} (hl : l.stackTraces = false) (hI : IdxOK idx) (hk : w8_missing_wp μ a1 a2 a3 P X) : PMet l yX8_missing (.code yX8_missing cX8_missing 4 (some .int)) 9 2 12 idx [pR 40 0, pI a1, pI a2, pI a3] μ (qI P) X := by
  refine PMet_of mv_X8_missing.2.2.2.2.2.2 hl hI mv_X8_missing.2.2.2.1 rfl (Nat.le_of_ble_eq_true rfl) (fun G _ _ C hRt hHR hnT => ?_)
  show PW G 2 12 0 [some (pR 40 0), some (pI a1), some (pI a2), some (pI a3)] [] μ
  unfold w8_missing_wp at hk
  refine px_aload_n (i := 0) C dX8_missing_0 rfl rfl ?_
  refine px_iload_n (i := 1) C dX8_missing_1 rfl rfl ?_
  refine px_callVv (h := 8) (rc' := 1) (rs' := 6) C (HR_le hHR (Nat.le_of_ble_eq_true rfl)) hRt hnT dX8_missing_2 (gw4 136 rfl rfl) mv_X8_checkTrace (w8_checkTrace_ok (PCx_l C) (PCx_I C) hk) rfl rfl rfl rfl rfl (Nat.le_of_ble_eq_true rfl) (Nat.le_of_ble_eq_true rfl) (Nat.le_of_ble_eq_true rfl) (Nat.le_of_ble_eq_true rfl) ?_
  intro μ1 hk
  refine px_aload_n (i := 0) C dX8_missing_5 rfl rfl ?_
  refine px_callVv (h := 4) (rc' := 1) (rs' := 6) C (HR_le hHR (Nat.le_of_ble_eq_true rfl)) hRt hnT dX8_missing_6 (gw2 165 rfl rfl) mv_X8_workOut (w8_workOut_ok (PCx_l C) (PCx_I C) hk) rfl rfl rfl rfl rfl (Nat.le_of_ble_eq_true rfl) (Nat.le_of_ble_eq_true rfl) (Nat.le_of_ble_eq_true rfl) (Nat.le_of_ble_eq_true rfl) ?_
  intro μ2 hk
  refine px_aload_n (i := 0) C dX8_missing_9 rfl rfl ?_
  refine px_getr C dX8_missing_10 fl_RX8_86 rfl rfl rfl ?_
  refine px_iload_n (i := 1) C dX8_missing_13 rfl rfl ?_
  refine px_iload_n (i := 2) C dX8_missing_14 rfl rfl ?_
  refine px_callVi (h := 3) (rc' := 1) (rs' := 6) C (HR_le hHR (Nat.le_of_ble_eq_true rfl)) hRt hnT dX8_missing_15 (gw4 222 rfl rfl) mv_X2_isPlaceholder (w2_isPlaceholder_ok (PCx_l C) (PCx_I C) hk) rfl rfl rfl rfl rfl (Nat.le_of_ble_eq_true rfl) (Nat.le_of_ble_eq_true rfl) (Nat.le_of_ble_eq_true rfl) (Nat.le_of_ble_eq_true rfl) ?_
  intro r4 μ3 hk
  refine px_if_ne (tgt := 32) C dX8_missing_18 (by decide) (fun c10 => ?_) (fun c10 => ?_)
  · replace hk := hk.1 c10
    refine px_iload_n (i := 3) C dX8_missing_32 rfl rfl ?_
    refine px_if_eq (tgt := 48) C dX8_missing_33 (by decide) (fun c9 => ?_) (fun c9 => ?_)
    · replace hk := hk.1 c9
      refine px_aload_n (i := 0) C dX8_missing_48 rfl rfl ?_
      refine px_getr C dX8_missing_49 fl_RX8_86 rfl rfl rfl ?_
      refine px_iload_n (i := 1) C dX8_missing_52 rfl rfl ?_
      refine px_iload_n (i := 2) C dX8_missing_53 rfl rfl ?_
      refine px_callVi (h := 2) (rc' := 0) (rs' := 0) C (HR_le hHR (Nat.le_of_ble_eq_true rfl)) hRt hnT dX8_missing_54 (gw4 230 rfl rfl) mv_X2_nodeBegin (w2_nodeBegin_ok (PCx_l C) (PCx_I C) hk) rfl rfl rfl rfl rfl (Nat.le_of_ble_eq_true rfl) (Nat.le_of_ble_eq_true rfl) (Nat.le_of_ble_eq_true rfl) (Nat.le_of_ble_eq_true rfl) ?_
      intro r6 μ5 hk
      exact px_iret C hRt dX8_missing_57 rfl rfl hk
    · replace hk := hk.2 c9
      refine px_aload_n (i := 0) C dX8_missing_36 rfl rfl ?_
      refine px_getr C dX8_missing_37 fl_RX8_86 rfl rfl rfl ?_
      refine px_iload_n (i := 1) C dX8_missing_40 rfl rfl ?_
      refine px_iload_n (i := 2) C dX8_missing_41 rfl rfl ?_
      refine px_callVi (h := 2) (rc' := 0) (rs' := 0) C (HR_le hHR (Nat.le_of_ble_eq_true rfl)) hRt hnT dX8_missing_42 (gw4 224 rfl rfl) mv_X2_nodeEnd (w2_nodeEnd_ok (PCx_l C) (PCx_I C) hk) rfl rfl rfl rfl rfl (Nat.le_of_ble_eq_true rfl) (Nat.le_of_ble_eq_true rfl) (Nat.le_of_ble_eq_true rfl) (Nat.le_of_ble_eq_true rfl) ?_
      intro r8 μ7 hk
      refine px_goto (tgt := 57) C dX8_missing_45 (by decide) ?_
      exact px_iret C hRt dX8_missing_57 rfl rfl hk
  · replace hk := hk.2 c10
    exact px_throwwN (h9 := 1) C (HR_le hHR (Nat.le_of_ble_eq_true rfl)) hRt hnT tk_NoSuchElementException ti_NoSuchElementException (List.mem_of_getElem? (i := 15) rfl) rfl dX8_missing_21 dX8_missing_24 dX8_missing_25 dX8_missing_28 dX8_missing_31 rfl (Nat.le_of_ble_eq_true rfl) (Nat.le_of_ble_eq_true rfl) hk
theorem dX8_cutCount_0 : decode cX8_cutCount 0 = .ok (.aload_n 0, 1) := by decide +kernel
theorem dX8_cutCount_1 : decode cX8_cutCount 1 = .ok (.invokevirtual 197, 3) := by decide +kernel
theorem dX8_cutCount_4 : decode cX8_cutCount 4 = .ok (.aload_n 0, 1) := by decide +kernel
theorem dX8_cutCount_5 : decode cX8_cutCount 5 = .ok (.getfield 86, 3) := by decide +kernel
theorem dX8_cutCount_8 : decode cX8_cutCount 8 = .ok (.iconst 3, 1) := by decide +kernel
theorem dX8_cutCount_9 : decode cX8_cutCount 9 = .ok (.invokevirtual 278, 3) := by decide +kernel
theorem dX8_cutCount_12 : decode cX8_cutCount 12 = .ok (.ireturn, 1) := by decide +kernel
set_option maxRecDepth 100000 in
set_option maxHeartbeats 4000000 in
theorem w8_cutCount_ok {l : Launch} {idx : List (Nat × Nat)} {μ : Mem} {P : Int32 → Mem → Prop} {X : String → Mem → Prop} (hl : l.stackTraces = false) (hI : IdxOK idx) (hk : w8_cutCount_wp μ P) : PMet l yX8_cutCount (.code yX8_cutCount cX8_cutCount 1 (some .int)) 5 0 0 idx [pR 40 0] μ (qI P) X := by
  refine PMet_of mv_X8_cutCount.2.2.2.2.2.2 hl hI mv_X8_cutCount.2.2.2.1 rfl (Nat.le_of_ble_eq_true rfl) (fun G _ _ C hRt hHR hnT => ?_)
  show PW G 0 0 0 [some (pR 40 0)] [] μ
  unfold w8_cutCount_wp at hk
  refine px_aload_n (i := 0) C dX8_cutCount_0 rfl rfl ?_
  refine px_callVv (h := 4) (rc' := 0) (rs' := 0) C (HR_le hHR (Nat.le_of_ble_eq_true rfl)) hRt hnT dX8_cutCount_1 (gw2 165 rfl rfl) mv_X8_workOut (w8_workOut_ok (PCx_l C) (PCx_I C) hk) rfl rfl rfl rfl rfl (Nat.le_of_ble_eq_true rfl) (Nat.le_of_ble_eq_true rfl) (Nat.le_of_ble_eq_true rfl) (Nat.le_of_ble_eq_true rfl) ?_
  intro μ1 hk
  refine px_aload_n (i := 0) C dX8_cutCount_4 rfl rfl ?_
  refine px_getr C dX8_cutCount_5 fl_RX8_86 rfl rfl rfl ?_
  refine px_iconst (v := (3 : Int32)) C dX8_cutCount_8 rfl ?_
  refine px_callVi (h := 1) (rc' := 0) (rs' := 0) C (HR_le hHR (Nat.le_of_ble_eq_true rfl)) hRt hnT dX8_cutCount_9 (gw3 24 rfl rfl) mv_X2_countKind (w2_countKind_ok (PCx_l C) (PCx_I C) hk) rfl rfl rfl rfl rfl (Nat.le_of_ble_eq_true rfl) (Nat.le_of_ble_eq_true rfl) (Nat.le_of_ble_eq_true rfl) (Nat.le_of_ble_eq_true rfl) ?_
  intro r3 μ2 hk
  exact px_iret C hRt dX8_cutCount_12 rfl rfl hk
theorem dX8_criticalTime_0 : decode cX8_criticalTime 0 = .ok (.aload_n 0, 1) := by decide +kernel
theorem dX8_criticalTime_1 : decode cX8_criticalTime 1 = .ok (.iload_n 1, 1) := by decide +kernel
theorem dX8_criticalTime_2 : decode cX8_criticalTime 2 = .ok (.invokevirtual 142, 3) := by decide +kernel
theorem dX8_criticalTime_5 : decode cX8_criticalTime 5 = .ok (.istore_n 2, 1) := by decide +kernel
theorem dX8_criticalTime_6 : decode cX8_criticalTime 6 = .ok (.aload_n 0, 1) := by decide +kernel
theorem dX8_criticalTime_7 : decode cX8_criticalTime 7 = .ok (.invokevirtual 197, 3) := by decide +kernel
theorem dX8_criticalTime_10 : decode cX8_criticalTime 10 = .ok (.aload_n 0, 1) := by decide +kernel
theorem dX8_criticalTime_11 : decode cX8_criticalTime 11 = .ok (.getfield 82, 3) := by decide +kernel
theorem dX8_criticalTime_14 : decode cX8_criticalTime 14 = .ok (.aload_n 0, 1) := by decide +kernel
theorem dX8_criticalTime_15 : decode cX8_criticalTime 15 = .ok (.getfield 94, 3) := by decide +kernel
theorem dX8_criticalTime_18 : decode cX8_criticalTime 18 = .ok (.getfield 186, 3) := by decide +kernel
theorem dX8_criticalTime_21 : decode cX8_criticalTime 21 = .ok (.iload_n 2, 1) := by decide +kernel
theorem dX8_criticalTime_22 : decode cX8_criticalTime 22 = .ok (.invokestatic 155, 3) := by decide +kernel
theorem dX8_criticalTime_25 : decode cX8_criticalTime 25 = .ok (.aload_n 0, 1) := by decide +kernel
theorem dX8_criticalTime_26 : decode cX8_criticalTime 26 = .ok (.getfield 86, 3) := by decide +kernel
theorem dX8_criticalTime_29 : decode cX8_criticalTime 29 = .ok (.iload_n 2, 1) := by decide +kernel
theorem dX8_criticalTime_30 : decode cX8_criticalTime 30 = .ok (.invokevirtual 229, 3) := by decide +kernel
theorem dX8_criticalTime_33 : decode cX8_criticalTime 33 = .ok (.invokevirtual 281, 3) := by decide +kernel
theorem dX8_criticalTime_36 : decode cX8_criticalTime 36 = .ok (.aload_n 0, 1) := by decide +kernel
theorem dX8_criticalTime_37 : decode cX8_criticalTime 37 = .ok (.getfield 82, 3) := by decide +kernel
theorem dX8_criticalTime_40 : decode cX8_criticalTime 40 = .ok (.iload_n 1, 1) := by decide +kernel
theorem dX8_criticalTime_41 : decode cX8_criticalTime 41 = .ok (.invokevirtual 299, 3) := by decide +kernel
theorem dX8_criticalTime_44 : decode cX8_criticalTime 44 = .ok (.ireturn, 1) := by decide +kernel
set_option maxRecDepth 100000 in
set_option maxHeartbeats 4000000 in
theorem w8_criticalTime_ok {l : Launch} {idx : List (Nat × Nat)} {μ : Mem} {a1 : Int32} {P : Int32 → Mem → Prop} {X : String → Mem → Prop} (hl : l.stackTraces = false) (hI : IdxOK idx) (hk : w8_criticalTime_wp μ a1 P X) : PMet l yX8_criticalTime (.code yX8_criticalTime cX8_criticalTime 3 (some .int)) 9 1 6 idx [pR 40 0, pI a1] μ (qI P) X := by
  refine PMet_of mv_X8_criticalTime.2.2.2.2.2.2 hl hI mv_X8_criticalTime.2.2.2.1 rfl (Nat.le_of_ble_eq_true rfl) (fun G _ _ C hRt hHR hnT => ?_)
  show PW G 1 6 0 [some (pR 40 0), some (pI a1), none] [] μ
  unfold w8_criticalTime_wp at hk
  refine px_aload_n (i := 0) C dX8_criticalTime_0 rfl rfl ?_
  refine px_iload_n (i := 1) C dX8_criticalTime_1 rfl rfl ?_
  refine px_callVi (h := 8) (rc' := 0) (rs' := 0) C (HR_le hHR (Nat.le_of_ble_eq_true rfl)) hRt hnT dX8_criticalTime_2 (gw3 209 rfl rfl) mv_X8_placeOf (w8_placeOf_ok (PCx_l C) (PCx_I C) hk) rfl rfl rfl rfl rfl (Nat.le_of_ble_eq_true rfl) (Nat.le_of_ble_eq_true rfl) (Nat.le_of_ble_eq_true rfl) (Nat.le_of_ble_eq_true rfl) ?_
  intro r2 μ1 hk
  refine px_istore_n (i := 2) C dX8_criticalTime_5 rfl (by decide) rfl ?_
  refine px_aload_n (i := 0) C dX8_criticalTime_6 rfl rfl ?_
  refine px_callVv (h := 4) (rc' := 0) (rs' := 0) C (HR_le hHR (Nat.le_of_ble_eq_true rfl)) hRt hnT dX8_criticalTime_7 (gw2 165 rfl rfl) mv_X8_workOut (w8_workOut_ok (PCx_l C) (PCx_I C) hk) rfl rfl rfl rfl rfl (Nat.le_of_ble_eq_true rfl) (Nat.le_of_ble_eq_true rfl) (Nat.le_of_ble_eq_true rfl) (Nat.le_of_ble_eq_true rfl) ?_
  intro μ3 hk
  refine px_aload_n (i := 0) C dX8_criticalTime_10 rfl rfl ?_
  refine px_getr C dX8_criticalTime_11 fl_RX8_82 rfl rfl rfl ?_
  refine px_aload_n (i := 0) C dX8_criticalTime_14 rfl rfl ?_
  refine px_getr C dX8_criticalTime_15 fl_RX8_94 rfl rfl rfl ?_
  refine px_getr C dX8_criticalTime_18 fl_RX8_186 rfl rfl rfl ?_
  refine px_iload_n (i := 2) C dX8_criticalTime_21 rfl rfl ?_
  obtain ⟨o4, hk⟩ := hk
  refine px_callSi (h := 0) (rc' := 0) (rs' := 0) C (HR_le hHR (Nat.le_of_ble_eq_true rfl)) hRt hnT dX8_criticalTime_22 (gw4 2 rfl rfl) ms_X8_at (at_ok (j := 1) (q := 0) (n := 40) (loc := 64) (PCx_l C) (PCx_I C) rfl rfl rfl o4) rfl rfl (Nat.le_of_ble_eq_true rfl) (Nat.le_of_ble_eq_true rfl) (Nat.le_of_ble_eq_true rfl) (Nat.le_of_ble_eq_true rfl) ?_
  rintro _ _ ⟨rfl, rfl⟩
  refine px_aload_n (i := 0) C dX8_criticalTime_25 rfl rfl ?_
  refine px_getr C dX8_criticalTime_26 fl_RX8_86 rfl rfl rfl ?_
  refine px_iload_n (i := 2) C dX8_criticalTime_29 rfl rfl ?_
  refine px_callVi (h := 2) (rc' := 0) (rs' := 0) C (HR_le hHR (Nat.le_of_ble_eq_true rfl)) hRt hnT dX8_criticalTime_30 (gw4 106 rfl rfl) mv_X2_rootNumber (w2_rootNumber_ok (PCx_l C) (PCx_I C) hk) rfl rfl rfl rfl rfl (Nat.le_of_ble_eq_true rfl) (Nat.le_of_ble_eq_true rfl) (Nat.le_of_ble_eq_true rfl) (Nat.le_of_ble_eq_true rfl) ?_
  intro r6 μ5 hk
  refine px_callVv (h := 4) (rc' := 0) (rs' := 0) C (HR_le hHR (Nat.le_of_ble_eq_true rfl)) hRt hnT dX8_criticalTime_33 (gw5 3 rfl rfl) mv_X5_follow (w5_follow_ok (PCx_l C) (PCx_I C) hk) rfl rfl rfl rfl rfl (Nat.le_of_ble_eq_true rfl) (Nat.le_of_ble_eq_true rfl) (Nat.le_of_ble_eq_true rfl) (Nat.le_of_ble_eq_true rfl) ?_
  intro μ7 hk
  refine px_aload_n (i := 0) C dX8_criticalTime_36 rfl rfl ?_
  refine px_getr C dX8_criticalTime_37 fl_RX8_82 rfl rfl rfl ?_
  refine px_iload_n (i := 1) C dX8_criticalTime_40 rfl rfl ?_
  refine px_callVi (h := 1) (rc' := 0) (rs' := 0) C (HR_le hHR (Nat.le_of_ble_eq_true rfl)) hRt hnT dX8_criticalTime_41 (gw5 51 rfl rfl) mv_X5_timeOf (w5_timeOf_ok (PCx_l C) (PCx_I C) hk) rfl rfl rfl rfl rfl (Nat.le_of_ble_eq_true rfl) (Nat.le_of_ble_eq_true rfl) (Nat.le_of_ble_eq_true rfl) (Nat.le_of_ble_eq_true rfl) ?_
  intro r9 μ8 hk
  exact px_iret C hRt dX8_criticalTime_44 rfl rfl hk
theorem dX8_selfTime_0 : decode cX8_selfTime 0 = .ok (.aload_n 0, 1) := by decide +kernel
theorem dX8_selfTime_1 : decode cX8_selfTime 1 = .ok (.iload_n 1, 1) := by decide +kernel
theorem dX8_selfTime_2 : decode cX8_selfTime 2 = .ok (.invokevirtual 142, 3) := by decide +kernel
theorem dX8_selfTime_5 : decode cX8_selfTime 5 = .ok (.istore_n 2, 1) := by decide +kernel
theorem dX8_selfTime_6 : decode cX8_selfTime 6 = .ok (.aload_n 0, 1) := by decide +kernel
theorem dX8_selfTime_7 : decode cX8_selfTime 7 = .ok (.invokevirtual 197, 3) := by decide +kernel
theorem dX8_selfTime_10 : decode cX8_selfTime 10 = .ok (.aload_n 0, 1) := by decide +kernel
theorem dX8_selfTime_11 : decode cX8_selfTime 11 = .ok (.getfield 78, 3) := by decide +kernel
theorem dX8_selfTime_14 : decode cX8_selfTime 14 = .ok (.iload_n 2, 1) := by decide +kernel
theorem dX8_selfTime_15 : decode cX8_selfTime 15 = .ok (.invokevirtual 307, 3) := by decide +kernel
theorem dX8_selfTime_18 : decode cX8_selfTime 18 = .ok (.ireturn, 1) := by decide +kernel
set_option maxRecDepth 100000 in
set_option maxHeartbeats 4000000 in
theorem w8_selfTime_ok {l : Launch} {idx : List (Nat × Nat)} {μ : Mem} {a1 : Int32} {P : Int32 → Mem → Prop} {X : String → Mem → Prop} (hl : l.stackTraces = false) (hI : IdxOK idx) (hk : w8_selfTime_wp μ a1 P X) : PMet l yX8_selfTime (.code yX8_selfTime cX8_selfTime 3 (some .int)) 9 1 6 idx [pR 40 0, pI a1] μ (qI P) X := by
  refine PMet_of mv_X8_selfTime.2.2.2.2.2.2 hl hI mv_X8_selfTime.2.2.2.1 rfl (Nat.le_of_ble_eq_true rfl) (fun G _ _ C hRt hHR hnT => ?_)
  show PW G 1 6 0 [some (pR 40 0), some (pI a1), none] [] μ
  unfold w8_selfTime_wp at hk
  refine px_aload_n (i := 0) C dX8_selfTime_0 rfl rfl ?_
  refine px_iload_n (i := 1) C dX8_selfTime_1 rfl rfl ?_
  refine px_callVi (h := 8) (rc' := 0) (rs' := 0) C (HR_le hHR (Nat.le_of_ble_eq_true rfl)) hRt hnT dX8_selfTime_2 (gw3 209 rfl rfl) mv_X8_placeOf (w8_placeOf_ok (PCx_l C) (PCx_I C) hk) rfl rfl rfl rfl rfl (Nat.le_of_ble_eq_true rfl) (Nat.le_of_ble_eq_true rfl) (Nat.le_of_ble_eq_true rfl) (Nat.le_of_ble_eq_true rfl) ?_
  intro r2 μ1 hk
  refine px_istore_n (i := 2) C dX8_selfTime_5 rfl (by decide) rfl ?_
  refine px_aload_n (i := 0) C dX8_selfTime_6 rfl rfl ?_
  refine px_callVv (h := 4) (rc' := 0) (rs' := 0) C (HR_le hHR (Nat.le_of_ble_eq_true rfl)) hRt hnT dX8_selfTime_7 (gw2 165 rfl rfl) mv_X8_workOut (w8_workOut_ok (PCx_l C) (PCx_I C) hk) rfl rfl rfl rfl rfl (Nat.le_of_ble_eq_true rfl) (Nat.le_of_ble_eq_true rfl) (Nat.le_of_ble_eq_true rfl) (Nat.le_of_ble_eq_true rfl) ?_
  intro μ3 hk
  refine px_aload_n (i := 0) C dX8_selfTime_10 rfl rfl ?_
  refine px_getr C dX8_selfTime_11 fl_RX8_78 rfl rfl rfl ?_
  refine px_iload_n (i := 2) C dX8_selfTime_14 rfl rfl ?_
  refine px_callVi (h := 2) (rc' := 0) (rs' := 0) C (HR_le hHR (Nat.le_of_ble_eq_true rfl)) hRt hnT dX8_selfTime_15 (gw5 74 rfl rfl) mv_X1_ownUnits (w1_ownUnits_ok (PCx_l C) (PCx_I C) hk) rfl rfl rfl rfl rfl (Nat.le_of_ble_eq_true rfl) (Nat.le_of_ble_eq_true rfl) (Nat.le_of_ble_eq_true rfl) (Nat.le_of_ble_eq_true rfl) ?_
  intro r5 μ4 hk
  exact px_iret C hRt dX8_selfTime_18 rfl rfl hk
theorem dX8_parallel_0 : decode cX8_parallel 0 = .ok (.aload_n 0, 1) := by decide +kernel
theorem dX8_parallel_1 : decode cX8_parallel 1 = .ok (.iload_n 1, 1) := by decide +kernel
theorem dX8_parallel_2 : decode cX8_parallel 2 = .ok (.invokevirtual 142, 3) := by decide +kernel
theorem dX8_parallel_5 : decode cX8_parallel 5 = .ok (.istore_n 3, 1) := by decide +kernel
theorem dX8_parallel_6 : decode cX8_parallel 6 = .ok (.aload_n 0, 1) := by decide +kernel
theorem dX8_parallel_7 : decode cX8_parallel 7 = .ok (.invokevirtual 197, 3) := by decide +kernel
theorem dX8_parallel_10 : decode cX8_parallel 10 = .ok (.aload_n 0, 1) := by decide +kernel
theorem dX8_parallel_11 : decode cX8_parallel 11 = .ok (.getfield 78, 3) := by decide +kernel
theorem dX8_parallel_14 : decode cX8_parallel 14 = .ok (.iload_n 3, 1) := by decide +kernel
theorem dX8_parallel_15 : decode cX8_parallel 15 = .ok (.iload_n 2, 1) := by decide +kernel
theorem dX8_parallel_16 : decode cX8_parallel 16 = .ok (.invokevirtual 310, 3) := by decide +kernel
theorem dX8_parallel_19 : decode cX8_parallel 19 = .ok (.ireturn, 1) := by decide +kernel
set_option maxRecDepth 100000 in
set_option maxHeartbeats 4000000 in
theorem w8_parallel_ok {l : Launch} {idx : List (Nat × Nat)} {μ : Mem} {a1 : Int32} {a2 : Int32} {P : Int32 → Mem → Prop} {X : String → Mem → Prop} (hl : l.stackTraces = false) (hI : IdxOK idx) (hk : w8_parallel_wp μ a1 a2 P X) : PMet l yX8_parallel (.code yX8_parallel cX8_parallel 4 (some .int)) 9 1 6 idx [pR 40 0, pI a1, pI a2] μ (qI P) X := by
  refine PMet_of mv_X8_parallel.2.2.2.2.2.2 hl hI mv_X8_parallel.2.2.2.1 rfl (Nat.le_of_ble_eq_true rfl) (fun G _ _ C hRt hHR hnT => ?_)
  show PW G 1 6 0 [some (pR 40 0), some (pI a1), some (pI a2), none] [] μ
  unfold w8_parallel_wp at hk
  refine px_aload_n (i := 0) C dX8_parallel_0 rfl rfl ?_
  refine px_iload_n (i := 1) C dX8_parallel_1 rfl rfl ?_
  refine px_callVi (h := 8) (rc' := 0) (rs' := 0) C (HR_le hHR (Nat.le_of_ble_eq_true rfl)) hRt hnT dX8_parallel_2 (gw3 209 rfl rfl) mv_X8_placeOf (w8_placeOf_ok (PCx_l C) (PCx_I C) hk) rfl rfl rfl rfl rfl (Nat.le_of_ble_eq_true rfl) (Nat.le_of_ble_eq_true rfl) (Nat.le_of_ble_eq_true rfl) (Nat.le_of_ble_eq_true rfl) ?_
  intro r2 μ1 hk
  refine px_istore_n (i := 3) C dX8_parallel_5 rfl (by decide) rfl ?_
  refine px_aload_n (i := 0) C dX8_parallel_6 rfl rfl ?_
  refine px_callVv (h := 4) (rc' := 0) (rs' := 0) C (HR_le hHR (Nat.le_of_ble_eq_true rfl)) hRt hnT dX8_parallel_7 (gw2 165 rfl rfl) mv_X8_workOut (w8_workOut_ok (PCx_l C) (PCx_I C) hk) rfl rfl rfl rfl rfl (Nat.le_of_ble_eq_true rfl) (Nat.le_of_ble_eq_true rfl) (Nat.le_of_ble_eq_true rfl) (Nat.le_of_ble_eq_true rfl) ?_
  intro μ3 hk
  refine px_aload_n (i := 0) C dX8_parallel_10 rfl rfl ?_
  refine px_getr C dX8_parallel_11 fl_RX8_78 rfl rfl rfl ?_
  refine px_iload_n (i := 3) C dX8_parallel_14 rfl rfl ?_
  refine px_iload_n (i := 2) C dX8_parallel_15 rfl rfl ?_
  refine px_callVi (h := 2) (rc' := 0) (rs' := 0) C (HR_le hHR (Nat.le_of_ble_eq_true rfl)) hRt hnT dX8_parallel_16 (gw5 90 rfl rfl) mv_X1_childrenAt (w1_childrenAt_ok (PCx_l C) (PCx_I C) hk) rfl rfl rfl rfl rfl (Nat.le_of_ble_eq_true rfl) (Nat.le_of_ble_eq_true rfl) (Nat.le_of_ble_eq_true rfl) (Nat.le_of_ble_eq_true rfl) ?_
  intro r5 μ4 hk
  exact px_iret C hRt dX8_parallel_19 rfl rfl hk
theorem dX8_isCause_0 : decode cX8_isCause 0 = .ok (.aload_n 0, 1) := by decide +kernel
theorem dX8_isCause_1 : decode cX8_isCause 1 = .ok (.iload_n 1, 1) := by decide +kernel
theorem dX8_isCause_2 : decode cX8_isCause 2 = .ok (.invokevirtual 142, 3) := by decide +kernel
theorem dX8_isCause_5 : decode cX8_isCause 5 = .ok (.istore_n 2, 1) := by decide +kernel
theorem dX8_isCause_6 : decode cX8_isCause 6 = .ok (.aload_n 0, 1) := by decide +kernel
theorem dX8_isCause_7 : decode cX8_isCause 7 = .ok (.invokevirtual 197, 3) := by decide +kernel
theorem dX8_isCause_10 : decode cX8_isCause 10 = .ok (.aload_n 0, 1) := by decide +kernel
theorem dX8_isCause_11 : decode cX8_isCause 11 = .ok (.getfield 78, 3) := by decide +kernel
theorem dX8_isCause_14 : decode cX8_isCause 14 = .ok (.iload_n 2, 1) := by decide +kernel
theorem dX8_isCause_15 : decode cX8_isCause 15 = .ok (.invokevirtual 313, 3) := by decide +kernel
theorem dX8_isCause_18 : decode cX8_isCause 18 = .ok (.ireturn, 1) := by decide +kernel
set_option maxRecDepth 100000 in
set_option maxHeartbeats 4000000 in
theorem w8_isCause_ok {l : Launch} {idx : List (Nat × Nat)} {μ : Mem} {a1 : Int32} {P : Int32 → Mem → Prop} {X : String → Mem → Prop} (hl : l.stackTraces = false) (hI : IdxOK idx) (hk : w8_isCause_wp μ a1 P X) : PMet l yX8_isCause (.code yX8_isCause cX8_isCause 3 (some .boolean)) 9 1 6 idx [pR 40 0, pI a1] μ (qI P) X := by
  refine PMet_of mv_X8_isCause.2.2.2.2.2.2 hl hI mv_X8_isCause.2.2.2.1 rfl (Nat.le_of_ble_eq_true rfl) (fun G _ _ C hRt hHR hnT => ?_)
  show PW G 1 6 0 [some (pR 40 0), some (pI a1), none] [] μ
  unfold w8_isCause_wp at hk
  refine px_aload_n (i := 0) C dX8_isCause_0 rfl rfl ?_
  refine px_iload_n (i := 1) C dX8_isCause_1 rfl rfl ?_
  refine px_callVi (h := 8) (rc' := 0) (rs' := 0) C (HR_le hHR (Nat.le_of_ble_eq_true rfl)) hRt hnT dX8_isCause_2 (gw3 209 rfl rfl) mv_X8_placeOf (w8_placeOf_ok (PCx_l C) (PCx_I C) hk) rfl rfl rfl rfl rfl (Nat.le_of_ble_eq_true rfl) (Nat.le_of_ble_eq_true rfl) (Nat.le_of_ble_eq_true rfl) (Nat.le_of_ble_eq_true rfl) ?_
  intro r2 μ1 hk
  refine px_istore_n (i := 2) C dX8_isCause_5 rfl (by decide) rfl ?_
  refine px_aload_n (i := 0) C dX8_isCause_6 rfl rfl ?_
  refine px_callVv (h := 4) (rc' := 0) (rs' := 0) C (HR_le hHR (Nat.le_of_ble_eq_true rfl)) hRt hnT dX8_isCause_7 (gw2 165 rfl rfl) mv_X8_workOut (w8_workOut_ok (PCx_l C) (PCx_I C) hk) rfl rfl rfl rfl rfl (Nat.le_of_ble_eq_true rfl) (Nat.le_of_ble_eq_true rfl) (Nat.le_of_ble_eq_true rfl) (Nat.le_of_ble_eq_true rfl) ?_
  intro μ3 hk
  refine px_aload_n (i := 0) C dX8_isCause_10 rfl rfl ?_
  refine px_getr C dX8_isCause_11 fl_RX8_78 rfl rfl rfl ?_
  refine px_iload_n (i := 2) C dX8_isCause_14 rfl rfl ?_
  refine px_callVi (h := 1) (rc' := 0) (rs' := 0) C (HR_le hHR (Nat.le_of_ble_eq_true rfl)) hRt hnT dX8_isCause_15 (gw5 101 rfl rfl) mv_X1_isErrorSource (w1_isErrorSource_ok (PCx_l C) (PCx_I C) hk) rfl rfl rfl rfl rfl (Nat.le_of_ble_eq_true rfl) (Nat.le_of_ble_eq_true rfl) (Nat.le_of_ble_eq_true rfl) (Nat.le_of_ble_eq_true rfl) ?_
  intro r5 μ4 hk
  obtain ⟨o6, hk⟩ := hk
  exact px_iret C hRt dX8_isCause_18 (nar_z o6) rfl hk
theorem dX8_cause_0 : decode cX8_cause 0 = .ok (.aload_n 0, 1) := by decide +kernel
theorem dX8_cause_1 : decode cX8_cause 1 = .ok (.iload_n 1, 1) := by decide +kernel
theorem dX8_cause_2 : decode cX8_cause 2 = .ok (.invokevirtual 255, 3) := by decide +kernel
theorem dX8_cause_5 : decode cX8_cause 5 = .ok (.aload_n 0, 1) := by decide +kernel
theorem dX8_cause_6 : decode cX8_cause 6 = .ok (.invokevirtual 197, 3) := by decide +kernel
theorem dX8_cause_9 : decode cX8_cause 9 = .ok (.aload_n 0, 1) := by decide +kernel
theorem dX8_cause_10 : decode cX8_cause 10 = .ok (.getfield 78, 3) := by decide +kernel
theorem dX8_cause_13 : decode cX8_cause 13 = .ok (.iload_n 1, 1) := by decide +kernel
theorem dX8_cause_14 : decode cX8_cause 14 = .ok (.iload_n 2, 1) := by decide +kernel
theorem dX8_cause_15 : decode cX8_cause 15 = .ok (.invokevirtual 316, 3) := by decide +kernel
theorem dX8_cause_18 : decode cX8_cause 18 = .ok (.istore_n 3, 1) := by decide +kernel
theorem dX8_cause_19 : decode cX8_cause 19 = .ok (.iload_n 3, 1) := by decide +kernel
theorem dX8_cause_20 : decode cX8_cause 20 = .ok (.bipush 40, 2) := by decide +kernel
theorem dX8_cause_22 : decode cX8_cause 22 = .ok (.invokestatic 106, 3) := by decide +kernel
theorem dX8_cause_25 : decode cX8_cause 25 = .ok (.ifCond .ne 14, 3) := by decide +kernel
theorem dX8_cause_28 : decode cX8_cause 28 = .ok (.new 206, 3) := by decide +kernel
theorem dX8_cause_31 : decode cX8_cause 31 = .ok (.dup, 1) := by decide +kernel
theorem dX8_cause_32 : decode cX8_cause 32 = .ok (.ldc_w 319, 3) := by decide +kernel
theorem dX8_cause_35 : decode cX8_cause 35 = .ok (.invokespecial 210, 3) := by decide +kernel
theorem dX8_cause_38 : decode cX8_cause 38 = .ok (.athrow, 1) := by decide +kernel
theorem dX8_cause_39 : decode cX8_cause 39 = .ok (.aload_n 0, 1) := by decide +kernel
theorem dX8_cause_40 : decode cX8_cause 40 = .ok (.getfield 94, 3) := by decide +kernel
theorem dX8_cause_43 : decode cX8_cause 43 = .ok (.getfield 252, 3) := by decide +kernel
theorem dX8_cause_46 : decode cX8_cause 46 = .ok (.iload_n 3, 1) := by decide +kernel
theorem dX8_cause_47 : decode cX8_cause 47 = .ok (.invokestatic 155, 3) := by decide +kernel
theorem dX8_cause_50 : decode cX8_cause 50 = .ok (.ireturn, 1) := by decide +kernel
set_option maxRecDepth 100000 in
set_option maxHeartbeats 4000000 in
theorem w8_cause_ok {l : Launch} {idx : List (Nat × Nat)} {μ : Mem} {a1 : Int32} {a2 : Int32} {P : Int32 → Mem → Prop} {X : String → Mem → Prop} (hl : l.stackTraces = false) (hI : IdxOK idx) (hk : w8_cause_wp μ a1 a2 P X) : PMet l yX8_cause (.code yX8_cause cX8_cause 4 (some .int)) 9 2 12 idx [pR 40 0, pI a1, pI a2] μ (qI P) X := by
  refine PMet_of mv_X8_cause.2.2.2.2.2.2 hl hI mv_X8_cause.2.2.2.1 rfl (Nat.le_of_ble_eq_true rfl) (fun G _ _ C hRt hHR hnT => ?_)
  show PW G 2 12 0 [some (pR 40 0), some (pI a1), some (pI a2), none] [] μ
  unfold w8_cause_wp at hk
  refine px_aload_n (i := 0) C dX8_cause_0 rfl rfl ?_
  refine px_iload_n (i := 1) C dX8_cause_1 rfl rfl ?_
  refine px_callVv (h := 8) (rc' := 1) (rs' := 6) C (HR_le hHR (Nat.le_of_ble_eq_true rfl)) hRt hnT dX8_cause_2 (gw4 136 rfl rfl) mv_X8_checkTrace (w8_checkTrace_ok (PCx_l C) (PCx_I C) hk) rfl rfl rfl rfl rfl (Nat.le_of_ble_eq_true rfl) (Nat.le_of_ble_eq_true rfl) (Nat.le_of_ble_eq_true rfl) (Nat.le_of_ble_eq_true rfl) ?_
  intro μ1 hk
  refine px_aload_n (i := 0) C dX8_cause_5 rfl rfl ?_
  refine px_callVv (h := 4) (rc' := 1) (rs' := 6) C (HR_le hHR (Nat.le_of_ble_eq_true rfl)) hRt hnT dX8_cause_6 (gw2 165 rfl rfl) mv_X8_workOut (w8_workOut_ok (PCx_l C) (PCx_I C) hk) rfl rfl rfl rfl rfl (Nat.le_of_ble_eq_true rfl) (Nat.le_of_ble_eq_true rfl) (Nat.le_of_ble_eq_true rfl) (Nat.le_of_ble_eq_true rfl) ?_
  intro μ2 hk
  refine px_aload_n (i := 0) C dX8_cause_9 rfl rfl ?_
  refine px_getr C dX8_cause_10 fl_RX8_78 rfl rfl rfl ?_
  refine px_iload_n (i := 1) C dX8_cause_13 rfl rfl ?_
  refine px_iload_n (i := 2) C dX8_cause_14 rfl rfl ?_
  refine px_callVi (h := 2) (rc' := 1) (rs' := 6) C (HR_le hHR (Nat.le_of_ble_eq_true rfl)) hRt hnT dX8_cause_15 (gw5 113 rfl rfl) mv_X1_errorSourceAt (w1_errorSourceAt_ok (PCx_l C) (PCx_I C) hk) rfl rfl rfl rfl rfl (Nat.le_of_ble_eq_true rfl) (Nat.le_of_ble_eq_true rfl) (Nat.le_of_ble_eq_true rfl) (Nat.le_of_ble_eq_true rfl) ?_
  intro r4 μ3 hk
  refine px_istore_n (i := 3) C dX8_cause_18 rfl (by decide) rfl ?_
  refine px_iload_n (i := 3) C dX8_cause_19 rfl rfl ?_
  refine px_bipush (v := (40 : Int32)) C dX8_cause_20 rfl ?_
  refine px_callSi (h := 0) (rc' := 1) (rs' := 6) C (HR_le hHR (Nat.le_of_ble_eq_true rfl)) hRt hnT dX8_cause_22 (gw3 65 rfl rfl) ms_X8_isWithin (w8_isWithin_ok (PCx_l C) (PCx_I C) hk) rfl rfl (Nat.le_of_ble_eq_true rfl) (Nat.le_of_ble_eq_true rfl) (Nat.le_of_ble_eq_true rfl) (Nat.le_of_ble_eq_true rfl) ?_
  intro r6 μ5 hk
  refine px_if_ne (tgt := 39) C dX8_cause_25 (by decide) (fun c8 => ?_) (fun c8 => ?_)
  · replace hk := hk.1 c8
    refine px_aload_n (i := 0) C dX8_cause_39 rfl rfl ?_
    refine px_getr C dX8_cause_40 fl_RX8_94 rfl rfl rfl ?_
    refine px_getr C dX8_cause_43 fl_RX8_252 rfl rfl rfl ?_
    refine px_iload_n (i := 3) C dX8_cause_46 rfl rfl ?_
    obtain ⟨o7, hk⟩ := hk
    refine px_callSi (h := 0) (rc' := 0) (rs' := 0) C (HR_le hHR (Nat.le_of_ble_eq_true rfl)) hRt hnT dX8_cause_47 (gw4 2 rfl rfl) ms_X8_at (at_ok (j := 2) (q := 0) (n := 40) (loc := 128) (PCx_l C) (PCx_I C) rfl rfl rfl o7) rfl rfl (Nat.le_of_ble_eq_true rfl) (Nat.le_of_ble_eq_true rfl) (Nat.le_of_ble_eq_true rfl) (Nat.le_of_ble_eq_true rfl) ?_
    rintro _ _ ⟨rfl, rfl⟩
    exact px_iret C hRt dX8_cause_50 rfl rfl hk
  · replace hk := hk.2 c8
    exact px_throwwN (h9 := 1) C (HR_le hHR (Nat.le_of_ble_eq_true rfl)) hRt hnT tk_NoSuchElementException ti_NoSuchElementException (List.mem_of_getElem? (i := 19) rfl) rfl dX8_cause_28 dX8_cause_31 dX8_cause_32 dX8_cause_35 dX8_cause_38 rfl (Nat.le_of_ble_eq_true rfl) (Nat.le_of_ble_eq_true rfl) hk
theorem dX8_service_0 : decode cX8_service 0 = .ok (.aload_n 0, 1) := by decide +kernel
theorem dX8_service_1 : decode cX8_service 1 = .ok (.iload_n 1, 1) := by decide +kernel
theorem dX8_service_2 : decode cX8_service 2 = .ok (.invokevirtual 194, 3) := by decide +kernel
theorem dX8_service_5 : decode cX8_service 5 = .ok (.iload_n 2, 1) := by decide +kernel
theorem dX8_service_6 : decode cX8_service 6 = .ok (.ifCond .lt 8, 3) := by decide +kernel
theorem dX8_service_9 : decode cX8_service 9 = .ok (.iload_n 2, 1) := by decide +kernel
theorem dX8_service_10 : decode cX8_service 10 = .ok (.iconst 5, 1) := by decide +kernel
theorem dX8_service_11 : decode cX8_service 11 = .ok (.if_icmp .le 13, 3) := by decide +kernel
theorem dX8_service_14 : decode cX8_service 14 = .ok (.new 110, 3) := by decide +kernel
theorem dX8_service_17 : decode cX8_service 17 = .ok (.dup, 1) := by decide +kernel
theorem dX8_service_18 : decode cX8_service 18 = .ok (.ldc 192, 2) := by decide +kernel
theorem dX8_service_20 : decode cX8_service 20 = .ok (.invokespecial 114, 3) := by decide +kernel
theorem dX8_service_23 : decode cX8_service 23 = .ok (.athrow, 1) := by decide +kernel
theorem dX8_service_24 : decode cX8_service 24 = .ok (.aload_n 0, 1) := by decide +kernel
theorem dX8_service_25 : decode cX8_service 25 = .ok (.invokevirtual 197, 3) := by decide +kernel
theorem dX8_service_28 : decode cX8_service 28 = .ok (.iload_n 2, 1) := by decide +kernel
theorem dX8_service_29 : decode cX8_service 29 = .ok (.lookupswitch 45 #[(4, 27), (5, 36)], 27) := by decide +kernel
theorem dX8_service_56 : decode cX8_service 56 = .ok (.aload_n 0, 1) := by decide +kernel
theorem dX8_service_57 : decode cX8_service 57 = .ok (.getfield 78, 3) := by decide +kernel
theorem dX8_service_60 : decode cX8_service 60 = .ok (.iload_n 1, 1) := by decide +kernel
theorem dX8_service_61 : decode cX8_service 61 = .ok (.invokevirtual 332, 3) := by decide +kernel
theorem dX8_service_64 : decode cX8_service 64 = .ok (.ireturn, 1) := by decide +kernel
theorem dX8_service_65 : decode cX8_service 65 = .ok (.aload_n 0, 1) := by decide +kernel
theorem dX8_service_66 : decode cX8_service 66 = .ok (.getfield 78, 3) := by decide +kernel
theorem dX8_service_69 : decode cX8_service 69 = .ok (.iload_n 1, 1) := by decide +kernel
theorem dX8_service_70 : decode cX8_service 70 = .ok (.invokevirtual 335, 3) := by decide +kernel
theorem dX8_service_73 : decode cX8_service 73 = .ok (.ireturn, 1) := by decide +kernel
theorem dX8_service_74 : decode cX8_service 74 = .ok (.aload_n 0, 1) := by decide +kernel
theorem dX8_service_75 : decode cX8_service 75 = .ok (.getfield 78, 3) := by decide +kernel
theorem dX8_service_78 : decode cX8_service 78 = .ok (.iload_n 1, 1) := by decide +kernel
theorem dX8_service_79 : decode cX8_service 79 = .ok (.iload_n 2, 1) := by decide +kernel
theorem dX8_service_80 : decode cX8_service 80 = .ok (.invokevirtual 338, 3) := by decide +kernel
theorem dX8_service_83 : decode cX8_service 83 = .ok (.ireturn, 1) := by decide +kernel
set_option maxRecDepth 100000 in
set_option maxHeartbeats 4000000 in
theorem w8_service_ok {l : Launch} {idx : List (Nat × Nat)} {μ : Mem} {a1 : Int32} {a2 : Int32} {P : Int32 → Mem → Prop} {X : String → Mem → Prop} (hl : l.stackTraces = false) (hI : IdxOK idx) (hk : w8_service_wp μ a1 a2 P X) : PMet l yX8_service (.code yX8_service cX8_service 3 (some .int)) 9 2 12 idx [pR 40 0, pI a1, pI a2] μ (qI P) X := by
  refine PMet_of mv_X8_service.2.2.2.2.2.2 hl hI mv_X8_service.2.2.2.1 rfl (Nat.le_of_ble_eq_true rfl) (fun G _ _ C hRt hHR hnT => ?_)
  show PW G 2 12 0 [some (pR 40 0), some (pI a1), some (pI a2)] [] μ
  unfold w8_service_wp at hk
  refine px_aload_n (i := 0) C dX8_service_0 rfl rfl ?_
  refine px_iload_n (i := 1) C dX8_service_1 rfl rfl ?_
  refine px_callVv (h := 8) (rc' := 1) (rs' := 6) C (HR_le hHR (Nat.le_of_ble_eq_true rfl)) hRt hnT dX8_service_2 (gw4 40 rfl rfl) mv_X8_checkService (w8_checkService_ok (PCx_l C) (PCx_I C) hk) rfl rfl rfl rfl rfl (Nat.le_of_ble_eq_true rfl) (Nat.le_of_ble_eq_true rfl) (Nat.le_of_ble_eq_true rfl) (Nat.le_of_ble_eq_true rfl) ?_
  intro μ1 hk
  refine px_iload_n (i := 2) C dX8_service_5 rfl rfl ?_
  refine px_if_lt (tgt := 14) C dX8_service_6 (by decide) (fun c11 => ?_) (fun c11 => ?_)
  · replace hk := hk.1 c11
    exact px_throw (h9 := 1) C (HR_le hHR (Nat.le_of_ble_eq_true rfl)) hRt hnT tk_IllegalArgumentException ti_IllegalArgumentException tw_IllegalArgumentException (by decide +kernel) (List.mem_of_getElem? (i := 6) rfl) dX8_service_14 dX8_service_17 dX8_service_18 dX8_service_20 dX8_service_23 rfl (Nat.le_of_ble_eq_true rfl) (Nat.le_of_ble_eq_true rfl) hk
  · replace hk := hk.2 c11
    refine px_iload_n (i := 2) C dX8_service_9 rfl rfl ?_
    refine px_iconst (v := (5 : Int32)) C dX8_service_10 rfl ?_
    refine px_icmp_le (tgt := 24) C dX8_service_11 (by decide) (fun c10 => ?_) (fun c10 => ?_)
    · replace hk := hk.1 c10
      refine px_aload_n (i := 0) C dX8_service_24 rfl rfl ?_
      refine px_callVv (h := 4) (rc' := 0) (rs' := 0) C (HR_le hHR (Nat.le_of_ble_eq_true rfl)) hRt hnT dX8_service_25 (gw2 165 rfl rfl) mv_X8_workOut (w8_workOut_ok (PCx_l C) (PCx_I C) hk) rfl rfl rfl rfl rfl (Nat.le_of_ble_eq_true rfl) (Nat.le_of_ble_eq_true rfl) (Nat.le_of_ble_eq_true rfl) (Nat.le_of_ble_eq_true rfl) ?_
      intro μ2 hk
      refine px_iload_n (i := 2) C dX8_service_28 rfl rfl ?_
      by_cases c9_0 : a2 = (4 : Int32)
      · replace hk := hk.1 c9_0
        refine px_lsw (tgt := 56) (off := 27) C dX8_service_29 c9_0 (by decide) (by decide) (by decide) ?_
        refine px_aload_n (i := 0) C dX8_service_56 rfl rfl ?_
        refine px_getr C dX8_service_57 fl_RX8_78 rfl rfl rfl ?_
        refine px_iload_n (i := 1) C dX8_service_60 rfl rfl ?_
        refine px_callVi (h := 5) (rc' := 0) (rs' := 0) C (HR_le hHR (Nat.le_of_ble_eq_true rfl)) hRt hnT dX8_service_61 (gw5 158 rfl rfl) mv_X1_criticalUnits (w1_criticalUnits_ok (PCx_l C) (PCx_I C) hk) rfl rfl rfl rfl rfl (Nat.le_of_ble_eq_true rfl) (Nat.le_of_ble_eq_true rfl) (Nat.le_of_ble_eq_true rfl) (Nat.le_of_ble_eq_true rfl) ?_
        intro r4 μ3 hk
        exact px_iret C hRt dX8_service_64 rfl rfl hk
      · skip
        by_cases c9_1 : a2 = (5 : Int32)
        · replace hk := hk.2.1 c9_1
          refine px_lsw (tgt := 65) (off := 36) C dX8_service_29 c9_1 (by decide) (by decide) (by decide) ?_
          refine px_aload_n (i := 0) C dX8_service_65 rfl rfl ?_
          refine px_getr C dX8_service_66 fl_RX8_78 rfl rfl rfl ?_
          refine px_iload_n (i := 1) C dX8_service_69 rfl rfl ?_
          refine px_callVi (h := 2) (rc' := 0) (rs' := 0) C (HR_le hHR (Nat.le_of_ble_eq_true rfl)) hRt hnT dX8_service_70 (gw5 169 rfl rfl) mv_X1_longestDuration (w1_longestDuration_ok (PCx_l C) (PCx_I C) hk) rfl rfl rfl rfl rfl (Nat.le_of_ble_eq_true rfl) (Nat.le_of_ble_eq_true rfl) (Nat.le_of_ble_eq_true rfl) (Nat.le_of_ble_eq_true rfl) ?_
          intro r6 μ5 hk
          exact px_iret C hRt dX8_service_73 rfl rfl hk
        · skip
          replace hk := hk.2.2 ⟨c9_0, c9_1⟩
          refine px_lsw2 (tgt := 74) (off := 45) C dX8_service_29 (by decide) (lsw_out2 c9_0 c9_1 rfl rfl) (by decide) ?_
          refine px_aload_n (i := 0) C dX8_service_74 rfl rfl ?_
          refine px_getr C dX8_service_75 fl_RX8_78 rfl rfl rfl ?_
          refine px_iload_n (i := 1) C dX8_service_78 rfl rfl ?_
          refine px_iload_n (i := 2) C dX8_service_79 rfl rfl ?_
          refine px_callVi (h := 4) (rc' := 0) (rs' := 0) C (HR_le hHR (Nat.le_of_ble_eq_true rfl)) hRt hnT dX8_service_80 (gw5 173 rfl rfl) mv_X1_sumOf (w1_sumOf_ok (PCx_l C) (PCx_I C) hk) rfl rfl rfl rfl rfl (Nat.le_of_ble_eq_true rfl) (Nat.le_of_ble_eq_true rfl) (Nat.le_of_ble_eq_true rfl) (Nat.le_of_ble_eq_true rfl) ?_
          intro r8 μ7 hk
          exact px_iret C hRt dX8_service_83 rfl rfl hk
    · replace hk := hk.2 c10
      exact px_throw (h9 := 1) C (HR_le hHR (Nat.le_of_ble_eq_true rfl)) hRt hnT tk_IllegalArgumentException ti_IllegalArgumentException tw_IllegalArgumentException (by decide +kernel) (List.mem_of_getElem? (i := 6) rfl) dX8_service_14 dX8_service_17 dX8_service_18 dX8_service_20 dX8_service_23 rfl (Nat.le_of_ble_eq_true rfl) (Nat.le_of_ble_eq_true rfl) hk
theorem dX8_extent_0 : decode cX8_extent 0 = .ok (.aload_n 0, 1) := by decide +kernel
theorem dX8_extent_1 : decode cX8_extent 1 = .ok (.iload_n 1, 1) := by decide +kernel
theorem dX8_extent_2 : decode cX8_extent 2 = .ok (.invokevirtual 255, 3) := by decide +kernel
theorem dX8_extent_5 : decode cX8_extent 5 = .ok (.aload_n 0, 1) := by decide +kernel
theorem dX8_extent_6 : decode cX8_extent 6 = .ok (.invokevirtual 197, 3) := by decide +kernel
theorem dX8_extent_9 : decode cX8_extent 9 = .ok (.aload_n 0, 1) := by decide +kernel
theorem dX8_extent_10 : decode cX8_extent 10 = .ok (.iload_n 1, 1) := by decide +kernel
theorem dX8_extent_11 : decode cX8_extent 11 = .ok (.invokevirtual 353, 3) := by decide +kernel
theorem dX8_extent_14 : decode cX8_extent 14 = .ok (.ireturn, 1) := by decide +kernel
set_option maxRecDepth 100000 in
set_option maxHeartbeats 4000000 in
theorem w8_extent_ok {l : Launch} {idx : List (Nat × Nat)} {μ : Mem} {a1 : Int32} {P : Int32 → Mem → Prop} {X : String → Mem → Prop} (hl : l.stackTraces = false) (hI : IdxOK idx) (hk : w8_extent_wp μ a1 P X) : PMet l yX8_extent (.code yX8_extent cX8_extent 2 (some .int)) 9 2 12 idx [pR 40 0, pI a1] μ (qI P) X := by
  refine PMet_of mv_X8_extent.2.2.2.2.2.2 hl hI mv_X8_extent.2.2.2.1 rfl (Nat.le_of_ble_eq_true rfl) (fun G _ _ C hRt hHR hnT => ?_)
  show PW G 2 12 0 [some (pR 40 0), some (pI a1)] [] μ
  unfold w8_extent_wp at hk
  refine px_aload_n (i := 0) C dX8_extent_0 rfl rfl ?_
  refine px_iload_n (i := 1) C dX8_extent_1 rfl rfl ?_
  refine px_callVv (h := 8) (rc' := 1) (rs' := 6) C (HR_le hHR (Nat.le_of_ble_eq_true rfl)) hRt hnT dX8_extent_2 (gw4 136 rfl rfl) mv_X8_checkTrace (w8_checkTrace_ok (PCx_l C) (PCx_I C) hk) rfl rfl rfl rfl rfl (Nat.le_of_ble_eq_true rfl) (Nat.le_of_ble_eq_true rfl) (Nat.le_of_ble_eq_true rfl) (Nat.le_of_ble_eq_true rfl) ?_
  intro μ1 hk
  refine px_aload_n (i := 0) C dX8_extent_5 rfl rfl ?_
  refine px_callVv (h := 4) (rc' := 1) (rs' := 6) C (HR_le hHR (Nat.le_of_ble_eq_true rfl)) hRt hnT dX8_extent_6 (gw2 165 rfl rfl) mv_X8_workOut (w8_workOut_ok (PCx_l C) (PCx_I C) hk) rfl rfl rfl rfl rfl (Nat.le_of_ble_eq_true rfl) (Nat.le_of_ble_eq_true rfl) (Nat.le_of_ble_eq_true rfl) (Nat.le_of_ble_eq_true rfl) ?_
  intro μ2 hk
  refine px_aload_n (i := 0) C dX8_extent_9 rfl rfl ?_
  refine px_iload_n (i := 1) C dX8_extent_10 rfl rfl ?_
  refine px_callVi (h := 8) (rc' := 0) (rs' := 0) C (HR_le hHR (Nat.le_of_ble_eq_true rfl)) hRt hnT dX8_extent_11 (gw5 207 rfl rfl) mv_X8_extentOf (w8_extentOf_ok (PCx_l C) (PCx_I C) hk) rfl rfl rfl rfl rfl (Nat.le_of_ble_eq_true rfl) (Nat.le_of_ble_eq_true rfl) (Nat.le_of_ble_eq_true rfl) (Nat.le_of_ble_eq_true rfl) ?_
  intro r4 μ3 hk
  exact px_iret C hRt dX8_extent_14 rfl rfl hk
theorem dX8_activity_0 : decode cX8_activity 0 = .ok (.aload_n 0, 1) := by decide +kernel
theorem dX8_activity_1 : decode cX8_activity 1 = .ok (.iload_n 1, 1) := by decide +kernel
theorem dX8_activity_2 : decode cX8_activity 2 = .ok (.invokevirtual 255, 3) := by decide +kernel
theorem dX8_activity_5 : decode cX8_activity 5 = .ok (.aload_n 0, 1) := by decide +kernel
theorem dX8_activity_6 : decode cX8_activity 6 = .ok (.iload_n 2, 1) := by decide +kernel
theorem dX8_activity_7 : decode cX8_activity 7 = .ok (.invokevirtual 194, 3) := by decide +kernel
theorem dX8_activity_10 : decode cX8_activity 10 = .ok (.aload_n 0, 1) := by decide +kernel
theorem dX8_activity_11 : decode cX8_activity 11 = .ok (.invokevirtual 197, 3) := by decide +kernel
theorem dX8_activity_14 : decode cX8_activity 14 = .ok (.aload_n 0, 1) := by decide +kernel
theorem dX8_activity_15 : decode cX8_activity 15 = .ok (.iload_n 1, 1) := by decide +kernel
theorem dX8_activity_16 : decode cX8_activity 16 = .ok (.invokevirtual 356, 3) := by decide +kernel
theorem dX8_activity_19 : decode cX8_activity 19 = .ok (.istore_n 3, 1) := by decide +kernel
theorem dX8_activity_20 : decode cX8_activity 20 = .ok (.aload_n 0, 1) := by decide +kernel
theorem dX8_activity_21 : decode cX8_activity 21 = .ok (.getfield 78, 3) := by decide +kernel
theorem dX8_activity_24 : decode cX8_activity 24 = .ok (.iload_n 1, 1) := by decide +kernel
theorem dX8_activity_25 : decode cX8_activity 25 = .ok (.iload_n 2, 1) := by decide +kernel
theorem dX8_activity_26 : decode cX8_activity 26 = .ok (.invokevirtual 359, 3) := by decide +kernel
theorem dX8_activity_29 : decode cX8_activity 29 = .ok (.i2f, 1) := by decide +kernel
theorem dX8_activity_30 : decode cX8_activity 30 = .ok (.iload_n 3, 1) := by decide +kernel
theorem dX8_activity_31 : decode cX8_activity 31 = .ok (.i2f, 1) := by decide +kernel
theorem dX8_activity_32 : decode cX8_activity 32 = .ok (.fdiv, 1) := by decide +kernel
theorem dX8_activity_33 : decode cX8_activity 33 = .ok (.freturn, 1) := by decide +kernel
set_option maxRecDepth 100000 in
set_option maxHeartbeats 4000000 in
theorem w8_activity_ok {l : Launch} {idx : List (Nat × Nat)} {μ : Mem} {a1 : Int32} {a2 : Int32} {P : UInt32 → Mem → Prop} {X : String → Mem → Prop} (hl : l.stackTraces = false) (hI : IdxOK idx) (hk : w8_activity_wp μ a1 a2 P X) : PMet l yX8_activity (.code yX8_activity cX8_activity 4 (some .float)) 10 4 24 idx [pR 40 0, pI a1, pI a2] μ (qF P) X := by
  refine PMet_of mv_X8_activity.2.2.2.2.2.2 hl hI mv_X8_activity.2.2.2.1 rfl (Nat.le_of_ble_eq_true rfl) (fun G _ _ C hRt hHR hnT => ?_)
  show PW G 4 24 0 [some (pR 40 0), some (pI a1), some (pI a2), none] [] μ
  unfold w8_activity_wp at hk
  refine px_aload_n (i := 0) C dX8_activity_0 rfl rfl ?_
  refine px_iload_n (i := 1) C dX8_activity_1 rfl rfl ?_
  refine px_callVv (h := 8) (rc' := 3) (rs' := 18) C (HR_le hHR (Nat.le_of_ble_eq_true rfl)) hRt hnT dX8_activity_2 (gw4 136 rfl rfl) mv_X8_checkTrace (w8_checkTrace_ok (PCx_l C) (PCx_I C) hk) rfl rfl rfl rfl rfl (Nat.le_of_ble_eq_true rfl) (Nat.le_of_ble_eq_true rfl) (Nat.le_of_ble_eq_true rfl) (Nat.le_of_ble_eq_true rfl) ?_
  intro μ1 hk
  refine px_aload_n (i := 0) C dX8_activity_5 rfl rfl ?_
  refine px_iload_n (i := 2) C dX8_activity_6 rfl rfl ?_
  refine px_callVv (h := 8) (rc' := 2) (rs' := 12) C (HR_le hHR (Nat.le_of_ble_eq_true rfl)) hRt hnT dX8_activity_7 (gw4 40 rfl rfl) mv_X8_checkService (w8_checkService_ok (PCx_l C) (PCx_I C) hk) rfl rfl rfl rfl rfl (Nat.le_of_ble_eq_true rfl) (Nat.le_of_ble_eq_true rfl) (Nat.le_of_ble_eq_true rfl) (Nat.le_of_ble_eq_true rfl) ?_
  intro μ2 hk
  refine px_aload_n (i := 0) C dX8_activity_10 rfl rfl ?_
  refine px_callVv (h := 4) (rc' := 2) (rs' := 12) C (HR_le hHR (Nat.le_of_ble_eq_true rfl)) hRt hnT dX8_activity_11 (gw2 165 rfl rfl) mv_X8_workOut (w8_workOut_ok (PCx_l C) (PCx_I C) hk) rfl rfl rfl rfl rfl (Nat.le_of_ble_eq_true rfl) (Nat.le_of_ble_eq_true rfl) (Nat.le_of_ble_eq_true rfl) (Nat.le_of_ble_eq_true rfl) ?_
  intro μ3 hk
  refine px_aload_n (i := 0) C dX8_activity_14 rfl rfl ?_
  refine px_iload_n (i := 1) C dX8_activity_15 rfl rfl ?_
  refine px_callVi (h := 9) (rc' := 0) (rs' := 0) C (HR_le hHR (Nat.le_of_ble_eq_true rfl)) hRt hnT dX8_activity_16 (gw5 228 rfl rfl) mv_X8_positiveExtentOf (w8_positiveExtentOf_ok (PCx_l C) (PCx_I C) hk) rfl rfl rfl rfl rfl (Nat.le_of_ble_eq_true rfl) (Nat.le_of_ble_eq_true rfl) (Nat.le_of_ble_eq_true rfl) (Nat.le_of_ble_eq_true rfl) ?_
  intro r5 μ4 hk
  refine px_istore_n (i := 3) C dX8_activity_19 rfl (by decide) rfl ?_
  refine px_aload_n (i := 0) C dX8_activity_20 rfl rfl ?_
  refine px_getr C dX8_activity_21 fl_RX8_78 rfl rfl rfl ?_
  refine px_iload_n (i := 1) C dX8_activity_24 rfl rfl ?_
  refine px_iload_n (i := 2) C dX8_activity_25 rfl rfl ?_
  refine px_callVi (h := 1) (rc' := 0) (rs' := 0) C (HR_le hHR (Nat.le_of_ble_eq_true rfl)) hRt hnT dX8_activity_26 (gw5 233 rfl rfl) mv_X1_busyUnits (w1_busyUnits_ok (PCx_l C) (PCx_I C) hk) rfl rfl rfl rfl rfl (Nat.le_of_ble_eq_true rfl) (Nat.le_of_ble_eq_true rfl) (Nat.le_of_ble_eq_true rfl) (Nat.le_of_ble_eq_true rfl) ?_
  intro r7 μ6 hk
  refine px_i2f C dX8_activity_29 ?_
  refine px_iload_n (i := 3) C dX8_activity_30 rfl rfl ?_
  refine px_i2f C dX8_activity_31 ?_
  obtain ⟨o8, hk⟩ := hk
  refine px_fdiv C dX8_activity_32 o8 ?_
  exact px_fret C hRt dX8_activity_33 rfl hk
theorem dX8_busiest_0 : decode cX8_busiest 0 = .ok (.aload_n 0, 1) := by decide +kernel
theorem dX8_busiest_1 : decode cX8_busiest 1 = .ok (.iload_n 1, 1) := by decide +kernel
theorem dX8_busiest_2 : decode cX8_busiest 2 = .ok (.invokevirtual 255, 3) := by decide +kernel
theorem dX8_busiest_5 : decode cX8_busiest 5 = .ok (.aload_n 0, 1) := by decide +kernel
theorem dX8_busiest_6 : decode cX8_busiest 6 = .ok (.invokevirtual 197, 3) := by decide +kernel
theorem dX8_busiest_9 : decode cX8_busiest 9 = .ok (.aload_n 0, 1) := by decide +kernel
theorem dX8_busiest_10 : decode cX8_busiest 10 = .ok (.iload_n 1, 1) := by decide +kernel
theorem dX8_busiest_11 : decode cX8_busiest 11 = .ok (.invokevirtual 356, 3) := by decide +kernel
theorem dX8_busiest_14 : decode cX8_busiest 14 = .ok (.pop, 1) := by decide +kernel
theorem dX8_busiest_15 : decode cX8_busiest 15 = .ok (.aload_n 0, 1) := by decide +kernel
theorem dX8_busiest_16 : decode cX8_busiest 16 = .ok (.getfield 78, 3) := by decide +kernel
theorem dX8_busiest_19 : decode cX8_busiest 19 = .ok (.iload_n 1, 1) := by decide +kernel
theorem dX8_busiest_20 : decode cX8_busiest 20 = .ok (.invokevirtual 362, 3) := by decide +kernel
theorem dX8_busiest_23 : decode cX8_busiest 23 = .ok (.ireturn, 1) := by decide +kernel
set_option maxRecDepth 100000 in
set_option maxHeartbeats 4000000 in
theorem w8_busiest_ok {l : Launch} {idx : List (Nat × Nat)} {μ : Mem} {a1 : Int32} {P : Int32 → Mem → Prop} {X : String → Mem → Prop} (hl : l.stackTraces = false) (hI : IdxOK idx) (hk : w8_busiest_wp μ a1 P X) : PMet l yX8_busiest (.code yX8_busiest cX8_busiest 2 (some .int)) 10 3 18 idx [pR 40 0, pI a1] μ (qI P) X := by
  refine PMet_of mv_X8_busiest.2.2.2.2.2.2 hl hI mv_X8_busiest.2.2.2.1 rfl (Nat.le_of_ble_eq_true rfl) (fun G _ _ C hRt hHR hnT => ?_)
  show PW G 3 18 0 [some (pR 40 0), some (pI a1)] [] μ
  unfold w8_busiest_wp at hk
  refine px_aload_n (i := 0) C dX8_busiest_0 rfl rfl ?_
  refine px_iload_n (i := 1) C dX8_busiest_1 rfl rfl ?_
  refine px_callVv (h := 8) (rc' := 2) (rs' := 12) C (HR_le hHR (Nat.le_of_ble_eq_true rfl)) hRt hnT dX8_busiest_2 (gw4 136 rfl rfl) mv_X8_checkTrace (w8_checkTrace_ok (PCx_l C) (PCx_I C) hk) rfl rfl rfl rfl rfl (Nat.le_of_ble_eq_true rfl) (Nat.le_of_ble_eq_true rfl) (Nat.le_of_ble_eq_true rfl) (Nat.le_of_ble_eq_true rfl) ?_
  intro μ1 hk
  refine px_aload_n (i := 0) C dX8_busiest_5 rfl rfl ?_
  refine px_callVv (h := 4) (rc' := 2) (rs' := 12) C (HR_le hHR (Nat.le_of_ble_eq_true rfl)) hRt hnT dX8_busiest_6 (gw2 165 rfl rfl) mv_X8_workOut (w8_workOut_ok (PCx_l C) (PCx_I C) hk) rfl rfl rfl rfl rfl (Nat.le_of_ble_eq_true rfl) (Nat.le_of_ble_eq_true rfl) (Nat.le_of_ble_eq_true rfl) (Nat.le_of_ble_eq_true rfl) ?_
  intro μ2 hk
  refine px_aload_n (i := 0) C dX8_busiest_9 rfl rfl ?_
  refine px_iload_n (i := 1) C dX8_busiest_10 rfl rfl ?_
  refine px_callVi (h := 9) (rc' := 0) (rs' := 0) C (HR_le hHR (Nat.le_of_ble_eq_true rfl)) hRt hnT dX8_busiest_11 (gw5 228 rfl rfl) mv_X8_positiveExtentOf (w8_positiveExtentOf_ok (PCx_l C) (PCx_I C) hk) rfl rfl rfl rfl rfl (Nat.le_of_ble_eq_true rfl) (Nat.le_of_ble_eq_true rfl) (Nat.le_of_ble_eq_true rfl) (Nat.le_of_ble_eq_true rfl) ?_
  intro r4 μ3 hk
  refine px_pop C dX8_busiest_14 rfl ?_
  refine px_aload_n (i := 0) C dX8_busiest_15 rfl rfl ?_
  refine px_getr C dX8_busiest_16 fl_RX8_78 rfl rfl rfl ?_
  refine px_iload_n (i := 1) C dX8_busiest_19 rfl rfl ?_
  refine px_callVi (h := 2) (rc' := 0) (rs' := 0) C (HR_le hHR (Nat.le_of_ble_eq_true rfl)) hRt hnT dX8_busiest_20 (gw6 4 rfl rfl) mv_X1_busiestService (w1_busiestService_ok (PCx_l C) (PCx_I C) hk) rfl rfl rfl rfl rfl (Nat.le_of_ble_eq_true rfl) (Nat.le_of_ble_eq_true rfl) (Nat.le_of_ble_eq_true rfl) (Nat.le_of_ble_eq_true rfl) ?_
  intro r6 μ5 hk
  exact px_iret C hRt dX8_busiest_23 rfl rfl hk
theorem dX8_link_0 : decode cX8_link 0 = .ok (.aload_n 0, 1) := by decide +kernel
theorem dX8_link_1 : decode cX8_link 1 = .ok (.iload_n 1, 1) := by decide +kernel
theorem dX8_link_2 : decode cX8_link 2 = .ok (.invokevirtual 142, 3) := by decide +kernel
theorem dX8_link_5 : decode cX8_link 5 = .ok (.pop, 1) := by decide +kernel
theorem dX8_link_6 : decode cX8_link 6 = .ok (.aload_n 0, 1) := by decide +kernel
theorem dX8_link_7 : decode cX8_link 7 = .ok (.iload_n 2, 1) := by decide +kernel
theorem dX8_link_8 : decode cX8_link 8 = .ok (.invokevirtual 142, 3) := by decide +kernel
theorem dX8_link_11 : decode cX8_link 11 = .ok (.pop, 1) := by decide +kernel
theorem dX8_link_12 : decode cX8_link 12 = .ok (.iload_n 1, 1) := by decide +kernel
theorem dX8_link_13 : decode cX8_link 13 = .ok (.iload_n 2, 1) := by decide +kernel
theorem dX8_link_14 : decode cX8_link 14 = .ok (.if_icmp .ne 14, 3) := by decide +kernel
theorem dX8_link_17 : decode cX8_link 17 = .ok (.new 110, 3) := by decide +kernel
theorem dX8_link_20 : decode cX8_link 20 = .ok (.dup, 1) := by decide +kernel
theorem dX8_link_21 : decode cX8_link 21 = .ok (.ldc_w 365, 3) := by decide +kernel
theorem dX8_link_24 : decode cX8_link 24 = .ok (.invokespecial 114, 3) := by decide +kernel
theorem dX8_link_27 : decode cX8_link 27 = .ok (.athrow, 1) := by decide +kernel
theorem dX8_link_28 : decode cX8_link 28 = .ok (.aload_n 0, 1) := by decide +kernel
theorem dX8_link_29 : decode cX8_link 29 = .ok (.getfield 94, 3) := by decide +kernel
theorem dX8_link_32 : decode cX8_link 32 = .ok (.getfield 367, 3) := by decide +kernel
theorem dX8_link_35 : decode cX8_link 35 = .ok (.bipush 30, 2) := by decide +kernel
theorem dX8_link_37 : decode cX8_link 37 = .ok (.if_icmp .ge 15, 3) := by decide +kernel
theorem dX8_link_40 : decode cX8_link 40 = .ok (.aload_n 0, 1) := by decide +kernel
theorem dX8_link_41 : decode cX8_link 41 = .ok (.getfield 94, 3) := by decide +kernel
theorem dX8_link_44 : decode cX8_link 44 = .ok (.iload_n 1, 1) := by decide +kernel
theorem dX8_link_45 : decode cX8_link 45 = .ok (.iload_n 2, 1) := by decide +kernel
theorem dX8_link_46 : decode cX8_link 46 = .ok (.invokevirtual 370, 3) := by decide +kernel
theorem dX8_link_49 : decode cX8_link 49 = .ok (.ifCond .eq 14, 3) := by decide +kernel
theorem dX8_link_52 : decode cX8_link 52 = .ok (.new 130, 3) := by decide +kernel
theorem dX8_link_55 : decode cX8_link 55 = .ok (.dup, 1) := by decide +kernel
theorem dX8_link_56 : decode cX8_link 56 = .ok (.ldc_w 373, 3) := by decide +kernel
theorem dX8_link_59 : decode cX8_link 59 = .ok (.invokespecial 134, 3) := by decide +kernel
theorem dX8_link_62 : decode cX8_link 62 = .ok (.athrow, 1) := by decide +kernel
theorem dX8_link_63 : decode cX8_link 63 = .ok (.aload_n 0, 1) := by decide +kernel
theorem dX8_link_64 : decode cX8_link 64 = .ok (.invokevirtual 135, 3) := by decide +kernel
theorem dX8_link_67 : decode cX8_link 67 = .ok (.aload_n 0, 1) := by decide +kernel
theorem dX8_link_68 : decode cX8_link 68 = .ok (.getfield 94, 3) := by decide +kernel
theorem dX8_link_71 : decode cX8_link 71 = .ok (.iload_n 1, 1) := by decide +kernel
theorem dX8_link_72 : decode cX8_link 72 = .ok (.iload_n 2, 1) := by decide +kernel
theorem dX8_link_73 : decode cX8_link 73 = .ok (.invokevirtual 375, 3) := by decide +kernel
theorem dX8_link_76 : decode cX8_link 76 = .ok (.aload_n 0, 1) := by decide +kernel
theorem dX8_link_77 : decode cX8_link 77 = .ok (.getfield 94, 3) := by decide +kernel
theorem dX8_link_80 : decode cX8_link 80 = .ok (.getfield 367, 3) := by decide +kernel
theorem dX8_link_83 : decode cX8_link 83 = .ok (.iconst 1, 1) := by decide +kernel
theorem dX8_link_84 : decode cX8_link 84 = .ok (.isub, 1) := by decide +kernel
theorem dX8_link_85 : decode cX8_link 85 = .ok (.ireturn, 1) := by decide +kernel
set_option maxRecDepth 100000 in
set_option maxHeartbeats 4000000 in
theorem w8_link_ok {l : Launch} {idx : List (Nat × Nat)} {μ : Mem} {a1 : Int32} {a2 : Int32} {P : Int32 → Mem → Prop} {X : String → Mem → Prop} (hl : l.stackTraces = false) (hI : IdxOK idx) (hk : w8_link_wp μ a1 a2 P X) : PMet l yX8_link (.code yX8_link cX8_link 3 (some .int)) 9 3 18 idx [pR 40 0, pI a1, pI a2] μ (qI P) X := by
  refine PMet_of mv_X8_link.2.2.2.2.2.2 hl hI mv_X8_link.2.2.2.1 rfl (Nat.le_of_ble_eq_true rfl) (fun G _ _ C hRt hHR hnT => ?_)
  show PW G 3 18 0 [some (pR 40 0), some (pI a1), some (pI a2)] [] μ
  unfold w8_link_wp at hk
  refine px_aload_n (i := 0) C dX8_link_0 rfl rfl ?_
  refine px_iload_n (i := 1) C dX8_link_1 rfl rfl ?_
  refine px_callVi (h := 8) (rc' := 2) (rs' := 12) C (HR_le hHR (Nat.le_of_ble_eq_true rfl)) hRt hnT dX8_link_2 (gw3 209 rfl rfl) mv_X8_placeOf (w8_placeOf_ok (PCx_l C) (PCx_I C) hk) rfl rfl rfl rfl rfl (Nat.le_of_ble_eq_true rfl) (Nat.le_of_ble_eq_true rfl) (Nat.le_of_ble_eq_true rfl) (Nat.le_of_ble_eq_true rfl) ?_
  intro r2 μ1 hk
  refine px_pop C dX8_link_5 rfl ?_
  refine px_aload_n (i := 0) C dX8_link_6 rfl rfl ?_
  refine px_iload_n (i := 2) C dX8_link_7 rfl rfl ?_
  refine px_callVi (h := 8) (rc' := 1) (rs' := 6) C (HR_le hHR (Nat.le_of_ble_eq_true rfl)) hRt hnT dX8_link_8 (gw3 209 rfl rfl) mv_X8_placeOf (w8_placeOf_ok (PCx_l C) (PCx_I C) hk) rfl rfl rfl rfl rfl (Nat.le_of_ble_eq_true rfl) (Nat.le_of_ble_eq_true rfl) (Nat.le_of_ble_eq_true rfl) (Nat.le_of_ble_eq_true rfl) ?_
  intro r4 μ3 hk
  refine px_pop C dX8_link_11 rfl ?_
  refine px_iload_n (i := 1) C dX8_link_12 rfl rfl ?_
  refine px_iload_n (i := 2) C dX8_link_13 rfl rfl ?_
  refine px_icmp_ne (tgt := 28) C dX8_link_14 (by decide) (fun c11 => ?_) (fun c11 => ?_)
  · replace hk := hk.1 c11
    refine px_aload_n (i := 0) C dX8_link_28 rfl rfl ?_
    refine px_getr C dX8_link_29 fl_RX8_94 rfl rfl rfl ?_
    refine px_geti 2 C dX8_link_32 fl_RX8_367 rfl rfl rfl rfl ?_
    refine px_bipush (v := (30 : Int32)) C dX8_link_35 rfl ?_
    refine px_icmp_ge (tgt := 52) C dX8_link_37 (by decide) (fun c10 => ?_) (fun c10 => ?_)
    · replace hk := hk.1 c10
      exact px_throww (h9 := 1) C (HR_le hHR (Nat.le_of_ble_eq_true rfl)) hRt hnT tk_IllegalStateException ti_IllegalStateException tw_IllegalStateException (by decide +kernel) (List.mem_of_getElem? (i := 25) rfl) dX8_link_52 dX8_link_55 dX8_link_56 dX8_link_59 dX8_link_62 rfl (Nat.le_of_ble_eq_true rfl) (Nat.le_of_ble_eq_true rfl) hk
    · replace hk := hk.2 c10
      refine px_aload_n (i := 0) C dX8_link_40 rfl rfl ?_
      refine px_getr C dX8_link_41 fl_RX8_94 rfl rfl rfl ?_
      refine px_iload_n (i := 1) C dX8_link_44 rfl rfl ?_
      refine px_iload_n (i := 2) C dX8_link_45 rfl rfl ?_
      refine px_callVi (h := 1) (rc' := 1) (rs' := 6) C (HR_le hHR (Nat.le_of_ble_eq_true rfl)) hRt hnT dX8_link_46 (gw6 17 rfl rfl) mv_X7_hasLink (w7_hasLink_ok (PCx_l C) (PCx_I C) hk) rfl rfl rfl rfl rfl (Nat.le_of_ble_eq_true rfl) (Nat.le_of_ble_eq_true rfl) (Nat.le_of_ble_eq_true rfl) (Nat.le_of_ble_eq_true rfl) ?_
      intro r6 μ5 hk
      refine px_if_eq (tgt := 63) C dX8_link_49 (by decide) (fun c9 => ?_) (fun c9 => ?_)
      · replace hk := hk.1 c9
        refine px_aload_n (i := 0) C dX8_link_63 rfl rfl ?_
        refine px_callVv (h := 5) (rc' := 0) (rs' := 0) C (HR_le hHR (Nat.le_of_ble_eq_true rfl)) hRt hnT dX8_link_64 (gw3 162 rfl rfl) mv_X8_startChange (w8_startChange_ok (PCx_l C) (PCx_I C) hk) rfl rfl rfl rfl rfl (Nat.le_of_ble_eq_true rfl) (Nat.le_of_ble_eq_true rfl) (Nat.le_of_ble_eq_true rfl) (Nat.le_of_ble_eq_true rfl) ?_
        intro μ7 hk
        refine px_aload_n (i := 0) C dX8_link_67 rfl rfl ?_
        refine px_getr C dX8_link_68 fl_RX8_94 rfl rfl rfl ?_
        refine px_iload_n (i := 1) C dX8_link_71 rfl rfl ?_
        refine px_iload_n (i := 2) C dX8_link_72 rfl rfl ?_
        refine px_callVv (h := 1) (rc' := 0) (rs' := 0) C (HR_le hHR (Nat.le_of_ble_eq_true rfl)) hRt hnT dX8_link_73 (gw6 22 rfl rfl) mv_X7_keepLink (w7_keepLink_ok (PCx_l C) (PCx_I C) hk) rfl rfl rfl rfl rfl (Nat.le_of_ble_eq_true rfl) (Nat.le_of_ble_eq_true rfl) (Nat.le_of_ble_eq_true rfl) (Nat.le_of_ble_eq_true rfl) ?_
        intro μ8 hk
        refine px_aload_n (i := 0) C dX8_link_76 rfl rfl ?_
        refine px_getr C dX8_link_77 fl_RX8_94 rfl rfl rfl ?_
        refine px_geti 2 C dX8_link_80 fl_RX8_367 rfl rfl rfl rfl ?_
        refine px_iconst (v := (1 : Int32)) C dX8_link_83 rfl ?_
        refine px_isub C dX8_link_84 ?_
        exact px_iret C hRt dX8_link_85 rfl rfl hk
      · replace hk := hk.2 c9
        exact px_throww (h9 := 1) C (HR_le hHR (Nat.le_of_ble_eq_true rfl)) hRt hnT tk_IllegalStateException ti_IllegalStateException tw_IllegalStateException (by decide +kernel) (List.mem_of_getElem? (i := 25) rfl) dX8_link_52 dX8_link_55 dX8_link_56 dX8_link_59 dX8_link_62 rfl (Nat.le_of_ble_eq_true rfl) (Nat.le_of_ble_eq_true rfl) hk
  · replace hk := hk.2 c11
    exact px_throww (h9 := 1) C (HR_le hHR (Nat.le_of_ble_eq_true rfl)) hRt hnT tk_IllegalArgumentException ti_IllegalArgumentException tw_IllegalArgumentException (by decide +kernel) (List.mem_of_getElem? (i := 24) rfl) dX8_link_17 dX8_link_20 dX8_link_21 dX8_link_24 dX8_link_27 rfl (Nat.le_of_ble_eq_true rfl) (Nat.le_of_ble_eq_true rfl) hk
theorem dX8_unlink_0 : decode cX8_unlink 0 = .ok (.aload_n 0, 1) := by decide +kernel
theorem dX8_unlink_1 : decode cX8_unlink 1 = .ok (.iload_n 1, 1) := by decide +kernel
theorem dX8_unlink_2 : decode cX8_unlink 2 = .ok (.invokevirtual 378, 3) := by decide +kernel
theorem dX8_unlink_5 : decode cX8_unlink 5 = .ok (.aload_n 0, 1) := by decide +kernel
theorem dX8_unlink_6 : decode cX8_unlink 6 = .ok (.invokevirtual 135, 3) := by decide +kernel
theorem dX8_unlink_9 : decode cX8_unlink 9 = .ok (.aload_n 0, 1) := by decide +kernel
theorem dX8_unlink_10 : decode cX8_unlink 10 = .ok (.getfield 94, 3) := by decide +kernel
theorem dX8_unlink_13 : decode cX8_unlink 13 = .ok (.iload_n 1, 1) := by decide +kernel
theorem dX8_unlink_14 : decode cX8_unlink 14 = .ok (.invokevirtual 381, 3) := by decide +kernel
theorem dX8_unlink_17 : decode cX8_unlink 17 = .ok (.aload_n 0, 1) := by decide +kernel
theorem dX8_unlink_18 : decode cX8_unlink 18 = .ok (.getfield 94, 3) := by decide +kernel
theorem dX8_unlink_21 : decode cX8_unlink 21 = .ok (.getfield 367, 3) := by decide +kernel
theorem dX8_unlink_24 : decode cX8_unlink 24 = .ok (.ireturn, 1) := by decide +kernel
set_option maxRecDepth 100000 in
set_option maxHeartbeats 4000000 in
theorem w8_unlink_ok {l : Launch} {idx : List (Nat × Nat)} {μ : Mem} {a1 : Int32} {P : Int32 → Mem → Prop} {X : String → Mem → Prop} (hl : l.stackTraces = false) (hI : IdxOK idx) (hk : w8_unlink_wp μ a1 P X) : PMet l yX8_unlink (.code yX8_unlink cX8_unlink 2 (some .int)) 9 1 6 idx [pR 40 0, pI a1] μ (qI P) X := by
  refine PMet_of mv_X8_unlink.2.2.2.2.2.2 hl hI mv_X8_unlink.2.2.2.1 rfl (Nat.le_of_ble_eq_true rfl) (fun G _ _ C hRt hHR hnT => ?_)
  show PW G 1 6 0 [some (pR 40 0), some (pI a1)] [] μ
  unfold w8_unlink_wp at hk
  refine px_aload_n (i := 0) C dX8_unlink_0 rfl rfl ?_
  refine px_iload_n (i := 1) C dX8_unlink_1 rfl rfl ?_
  refine px_callVv (h := 8) (rc' := 0) (rs' := 0) C (HR_le hHR (Nat.le_of_ble_eq_true rfl)) hRt hnT dX8_unlink_2 (gw6 30 rfl rfl) mv_X8_checkLink (w8_checkLink_ok (PCx_l C) (PCx_I C) hk) rfl rfl rfl rfl rfl (Nat.le_of_ble_eq_true rfl) (Nat.le_of_ble_eq_true rfl) (Nat.le_of_ble_eq_true rfl) (Nat.le_of_ble_eq_true rfl) ?_
  intro μ1 hk
  refine px_aload_n (i := 0) C dX8_unlink_5 rfl rfl ?_
  refine px_callVv (h := 5) (rc' := 0) (rs' := 0) C (HR_le hHR (Nat.le_of_ble_eq_true rfl)) hRt hnT dX8_unlink_6 (gw3 162 rfl rfl) mv_X8_startChange (w8_startChange_ok (PCx_l C) (PCx_I C) hk) rfl rfl rfl rfl rfl (Nat.le_of_ble_eq_true rfl) (Nat.le_of_ble_eq_true rfl) (Nat.le_of_ble_eq_true rfl) (Nat.le_of_ble_eq_true rfl) ?_
  intro μ2 hk
  refine px_aload_n (i := 0) C dX8_unlink_9 rfl rfl ?_
  refine px_getr C dX8_unlink_10 fl_RX8_94 rfl rfl rfl ?_
  refine px_iload_n (i := 1) C dX8_unlink_13 rfl rfl ?_
  refine px_callVv (h := 2) (rc' := 0) (rs' := 0) C (HR_le hHR (Nat.le_of_ble_eq_true rfl)) hRt hnT dX8_unlink_14 (gw6 35 rfl rfl) mv_X7_dropLink (w7_dropLink_ok (PCx_l C) (PCx_I C) hk) rfl rfl rfl rfl rfl (Nat.le_of_ble_eq_true rfl) (Nat.le_of_ble_eq_true rfl) (Nat.le_of_ble_eq_true rfl) (Nat.le_of_ble_eq_true rfl) ?_
  intro μ3 hk
  refine px_aload_n (i := 0) C dX8_unlink_17 rfl rfl ?_
  refine px_getr C dX8_unlink_18 fl_RX8_94 rfl rfl rfl ?_
  refine px_geti 2 C dX8_unlink_21 fl_RX8_367 rfl rfl rfl rfl ?_
  exact px_iret C hRt dX8_unlink_24 rfl rfl hk
theorem dX8_linkDelay_0 : decode cX8_linkDelay 0 = .ok (.aload_n 0, 1) := by decide +kernel
theorem dX8_linkDelay_1 : decode cX8_linkDelay 1 = .ok (.iload_n 1, 1) := by decide +kernel
theorem dX8_linkDelay_2 : decode cX8_linkDelay 2 = .ok (.invokevirtual 378, 3) := by decide +kernel
theorem dX8_linkDelay_5 : decode cX8_linkDelay 5 = .ok (.aload_n 0, 1) := by decide +kernel
theorem dX8_linkDelay_6 : decode cX8_linkDelay 6 = .ok (.aload_n 0, 1) := by decide +kernel
theorem dX8_linkDelay_7 : decode cX8_linkDelay 7 = .ok (.getfield 94, 3) := by decide +kernel
theorem dX8_linkDelay_10 : decode cX8_linkDelay 10 = .ok (.getfield 384, 3) := by decide +kernel
theorem dX8_linkDelay_13 : decode cX8_linkDelay 13 = .ok (.iload_n 1, 1) := by decide +kernel
theorem dX8_linkDelay_14 : decode cX8_linkDelay 14 = .ok (.invokestatic 155, 3) := by decide +kernel
theorem dX8_linkDelay_17 : decode cX8_linkDelay 17 = .ok (.invokevirtual 142, 3) := by decide +kernel
theorem dX8_linkDelay_20 : decode cX8_linkDelay 20 = .ok (.istore_n 2, 1) := by decide +kernel
theorem dX8_linkDelay_21 : decode cX8_linkDelay 21 = .ok (.aload_n 0, 1) := by decide +kernel
theorem dX8_linkDelay_22 : decode cX8_linkDelay 22 = .ok (.aload_n 0, 1) := by decide +kernel
theorem dX8_linkDelay_23 : decode cX8_linkDelay 23 = .ok (.getfield 94, 3) := by decide +kernel
theorem dX8_linkDelay_26 : decode cX8_linkDelay 26 = .ok (.getfield 387, 3) := by decide +kernel
theorem dX8_linkDelay_29 : decode cX8_linkDelay 29 = .ok (.iload_n 1, 1) := by decide +kernel
theorem dX8_linkDelay_30 : decode cX8_linkDelay 30 = .ok (.invokestatic 155, 3) := by decide +kernel
theorem dX8_linkDelay_33 : decode cX8_linkDelay 33 = .ok (.invokevirtual 142, 3) := by decide +kernel
theorem dX8_linkDelay_36 : decode cX8_linkDelay 36 = .ok (.istore_n 3, 1) := by decide +kernel
theorem dX8_linkDelay_37 : decode cX8_linkDelay 37 = .ok (.aload_n 0, 1) := by decide +kernel
theorem dX8_linkDelay_38 : decode cX8_linkDelay 38 = .ok (.invokevirtual 197, 3) := by decide +kernel
theorem dX8_linkDelay_41 : decode cX8_linkDelay 41 = .ok (.aload_n 0, 1) := by decide +kernel
theorem dX8_linkDelay_42 : decode cX8_linkDelay 42 = .ok (.getfield 86, 3) := by decide +kernel
theorem dX8_linkDelay_45 : decode cX8_linkDelay 45 = .ok (.getfield 224, 3) := by decide +kernel
theorem dX8_linkDelay_48 : decode cX8_linkDelay 48 = .ok (.iload_n 3, 1) := by decide +kernel
theorem dX8_linkDelay_49 : decode cX8_linkDelay 49 = .ok (.invokestatic 155, 3) := by decide +kernel
theorem dX8_linkDelay_52 : decode cX8_linkDelay 52 = .ok (.aload_n 0, 1) := by decide +kernel
theorem dX8_linkDelay_53 : decode cX8_linkDelay 53 = .ok (.getfield 86, 3) := by decide +kernel
theorem dX8_linkDelay_56 : decode cX8_linkDelay 56 = .ok (.getfield 225, 3) := by decide +kernel
theorem dX8_linkDelay_59 : decode cX8_linkDelay 59 = .ok (.iload_n 2, 1) := by decide +kernel
theorem dX8_linkDelay_60 : decode cX8_linkDelay 60 = .ok (.invokestatic 155, 3) := by decide +kernel
theorem dX8_linkDelay_63 : decode cX8_linkDelay 63 = .ok (.isub, 1) := by decide +kernel
theorem dX8_linkDelay_64 : decode cX8_linkDelay 64 = .ok (.ireturn, 1) := by decide +kernel
set_option maxRecDepth 100000 in
set_option maxHeartbeats 4000000 in
theorem w8_linkDelay_ok {l : Launch} {idx : List (Nat × Nat)} {μ : Mem} {a1 : Int32} {P : Int32 → Mem → Prop} {X : String → Mem → Prop} (hl : l.stackTraces = false) (hI : IdxOK idx) (hk : w8_linkDelay_wp μ a1 P X) : PMet l yX8_linkDelay (.code yX8_linkDelay cX8_linkDelay 4 (some .int)) 9 3 18 idx [pR 40 0, pI a1] μ (qI P) X := by
  refine PMet_of mv_X8_linkDelay.2.2.2.2.2.2 hl hI mv_X8_linkDelay.2.2.2.1 rfl (Nat.le_of_ble_eq_true rfl) (fun G _ _ C hRt hHR hnT => ?_)
  show PW G 3 18 0 [some (pR 40 0), some (pI a1), none, none] [] μ
  unfold w8_linkDelay_wp at hk
  refine px_aload_n (i := 0) C dX8_linkDelay_0 rfl rfl ?_
  refine px_iload_n (i := 1) C dX8_linkDelay_1 rfl rfl ?_
  refine px_callVv (h := 8) (rc' := 2) (rs' := 12) C (HR_le hHR (Nat.le_of_ble_eq_true rfl)) hRt hnT dX8_linkDelay_2 (gw6 30 rfl rfl) mv_X8_checkLink (w8_checkLink_ok (PCx_l C) (PCx_I C) hk) rfl rfl rfl rfl rfl (Nat.le_of_ble_eq_true rfl) (Nat.le_of_ble_eq_true rfl) (Nat.le_of_ble_eq_true rfl) (Nat.le_of_ble_eq_true rfl) ?_
  intro μ1 hk
  refine px_aload_n (i := 0) C dX8_linkDelay_5 rfl rfl ?_
  refine px_aload_n (i := 0) C dX8_linkDelay_6 rfl rfl ?_
  refine px_getr C dX8_linkDelay_7 fl_RX8_94 rfl rfl rfl ?_
  refine px_getr C dX8_linkDelay_10 fl_RX8_384 rfl rfl rfl ?_
  refine px_iload_n (i := 1) C dX8_linkDelay_13 rfl rfl ?_
  obtain ⟨o2, hk⟩ := hk
  refine px_callSi (h := 0) (rc' := 2) (rs' := 12) C (HR_le hHR (Nat.le_of_ble_eq_true rfl)) hRt hnT dX8_linkDelay_14 (gw4 2 rfl rfl) ms_X8_at (at_ok (j := 8) (q := 0) (n := 30) (loc := 512) (PCx_l C) (PCx_I C) rfl rfl rfl o2) rfl rfl (Nat.le_of_ble_eq_true rfl) (Nat.le_of_ble_eq_true rfl) (Nat.le_of_ble_eq_true rfl) (Nat.le_of_ble_eq_true rfl) ?_
  rintro _ _ ⟨rfl, rfl⟩
  refine px_callVi (h := 8) (rc' := 1) (rs' := 6) C (HR_le hHR (Nat.le_of_ble_eq_true rfl)) hRt hnT dX8_linkDelay_17 (gw3 209 rfl rfl) mv_X8_placeOf (w8_placeOf_ok (PCx_l C) (PCx_I C) hk) rfl rfl rfl rfl rfl (Nat.le_of_ble_eq_true rfl) (Nat.le_of_ble_eq_true rfl) (Nat.le_of_ble_eq_true rfl) (Nat.le_of_ble_eq_true rfl) ?_
  intro r4 μ3 hk
  refine px_istore_n (i := 2) C dX8_linkDelay_20 rfl (by decide) rfl ?_
  refine px_aload_n (i := 0) C dX8_linkDelay_21 rfl rfl ?_
  refine px_aload_n (i := 0) C dX8_linkDelay_22 rfl rfl ?_
  refine px_getr C dX8_linkDelay_23 fl_RX8_94 rfl rfl rfl ?_
  refine px_getr C dX8_linkDelay_26 fl_RX8_387 rfl rfl rfl ?_
  refine px_iload_n (i := 1) C dX8_linkDelay_29 rfl rfl ?_
  obtain ⟨o5, hk⟩ := hk
  refine px_callSi (h := 0) (rc' := 1) (rs' := 6) C (HR_le hHR (Nat.le_of_ble_eq_true rfl)) hRt hnT dX8_linkDelay_30 (gw4 2 rfl rfl) ms_X8_at (at_ok (j := 9) (q := 0) (n := 30) (loc := 576) (PCx_l C) (PCx_I C) rfl rfl rfl o5) rfl rfl (Nat.le_of_ble_eq_true rfl) (Nat.le_of_ble_eq_true rfl) (Nat.le_of_ble_eq_true rfl) (Nat.le_of_ble_eq_true rfl) ?_
  rintro _ _ ⟨rfl, rfl⟩
  refine px_callVi (h := 8) (rc' := 0) (rs' := 0) C (HR_le hHR (Nat.le_of_ble_eq_true rfl)) hRt hnT dX8_linkDelay_33 (gw3 209 rfl rfl) mv_X8_placeOf (w8_placeOf_ok (PCx_l C) (PCx_I C) hk) rfl rfl rfl rfl rfl (Nat.le_of_ble_eq_true rfl) (Nat.le_of_ble_eq_true rfl) (Nat.le_of_ble_eq_true rfl) (Nat.le_of_ble_eq_true rfl) ?_
  intro r7 μ6 hk
  refine px_istore_n (i := 3) C dX8_linkDelay_36 rfl (by decide) rfl ?_
  refine px_aload_n (i := 0) C dX8_linkDelay_37 rfl rfl ?_
  refine px_callVv (h := 4) (rc' := 0) (rs' := 0) C (HR_le hHR (Nat.le_of_ble_eq_true rfl)) hRt hnT dX8_linkDelay_38 (gw2 165 rfl rfl) mv_X8_workOut (w8_workOut_ok (PCx_l C) (PCx_I C) hk) rfl rfl rfl rfl rfl (Nat.le_of_ble_eq_true rfl) (Nat.le_of_ble_eq_true rfl) (Nat.le_of_ble_eq_true rfl) (Nat.le_of_ble_eq_true rfl) ?_
  intro μ8 hk
  refine px_aload_n (i := 0) C dX8_linkDelay_41 rfl rfl ?_
  refine px_getr C dX8_linkDelay_42 fl_RX8_86 rfl rfl rfl ?_
  refine px_getr C dX8_linkDelay_45 fl_RX8_224 rfl rfl rfl ?_
  refine px_iload_n (i := 3) C dX8_linkDelay_48 rfl rfl ?_
  obtain ⟨o9, hk⟩ := hk
  refine px_callSi (h := 0) (rc' := 0) (rs' := 0) C (HR_le hHR (Nat.le_of_ble_eq_true rfl)) hRt hnT dX8_linkDelay_49 (gw4 2 rfl rfl) ms_X8_at (at_ok (j := 19) (q := 0) (n := 40) (loc := 1216) (PCx_l C) (PCx_I C) rfl rfl rfl o9) rfl rfl (Nat.le_of_ble_eq_true rfl) (Nat.le_of_ble_eq_true rfl) (Nat.le_of_ble_eq_true rfl) (Nat.le_of_ble_eq_true rfl) ?_
  rintro _ _ ⟨rfl, rfl⟩
  refine px_aload_n (i := 0) C dX8_linkDelay_52 rfl rfl ?_
  refine px_getr C dX8_linkDelay_53 fl_RX8_86 rfl rfl rfl ?_
  refine px_getr C dX8_linkDelay_56 fl_RX8_225 rfl rfl rfl ?_
  refine px_iload_n (i := 2) C dX8_linkDelay_59 rfl rfl ?_
  obtain ⟨o10, hk⟩ := hk
  refine px_callSi (h := 0) (rc' := 0) (rs' := 0) C (HR_le hHR (Nat.le_of_ble_eq_true rfl)) hRt hnT dX8_linkDelay_60 (gw4 2 rfl rfl) ms_X8_at (at_ok (j := 20) (q := 0) (n := 40) (loc := 1280) (PCx_l C) (PCx_I C) rfl rfl rfl o10) rfl rfl (Nat.le_of_ble_eq_true rfl) (Nat.le_of_ble_eq_true rfl) (Nat.le_of_ble_eq_true rfl) (Nat.le_of_ble_eq_true rfl) ?_
  rintro _ _ ⟨rfl, rfl⟩
  refine px_isub C dX8_linkDelay_63 ?_
  exact px_iret C hRt dX8_linkDelay_64 rfl rfl hk
theorem dX8_bookmarked_0 : decode cX8_bookmarked 0 = .ok (.aload_n 0, 1) := by decide +kernel
theorem dX8_bookmarked_1 : decode cX8_bookmarked 1 = .ok (.iload_n 1, 1) := by decide +kernel
theorem dX8_bookmarked_2 : decode cX8_bookmarked 2 = .ok (.iload_n 2, 1) := by decide +kernel
theorem dX8_bookmarked_3 : decode cX8_bookmarked 3 = .ok (.invokevirtual 393, 3) := by decide +kernel
theorem dX8_bookmarked_6 : decode cX8_bookmarked 6 = .ok (.aload_n 0, 1) := by decide +kernel
theorem dX8_bookmarked_7 : decode cX8_bookmarked 7 = .ok (.getfield 29, 3) := by decide +kernel
theorem dX8_bookmarked_10 : decode cX8_bookmarked 10 = .ok (.iload_n 1, 1) := by decide +kernel
theorem dX8_bookmarked_11 : decode cX8_bookmarked 11 = .ok (.iload_n 2, 1) := by decide +kernel
theorem dX8_bookmarked_12 : decode cX8_bookmarked 12 = .ok (.invokevirtual 408, 3) := by decide +kernel
theorem dX8_bookmarked_15 : decode cX8_bookmarked 15 = .ok (.istore_n 3, 1) := by decide +kernel
theorem dX8_bookmarked_16 : decode cX8_bookmarked 16 = .ok (.aload_n 0, 1) := by decide +kernel
theorem dX8_bookmarked_17 : decode cX8_bookmarked 17 = .ok (.getfield 29, 3) := by decide +kernel
theorem dX8_bookmarked_20 : decode cX8_bookmarked 20 = .ok (.iload_n 1, 1) := by decide +kernel
theorem dX8_bookmarked_21 : decode cX8_bookmarked 21 = .ok (.iload_n 2, 1) := by decide +kernel
theorem dX8_bookmarked_22 : decode cX8_bookmarked 22 = .ok (.invokevirtual 411, 3) := by decide +kernel
theorem dX8_bookmarked_25 : decode cX8_bookmarked 25 = .ok (.istore 4, 2) := by decide +kernel
theorem dX8_bookmarked_27 : decode cX8_bookmarked 27 = .ok (.aload_n 0, 1) := by decide +kernel
theorem dX8_bookmarked_28 : decode cX8_bookmarked 28 = .ok (.invokevirtual 197, 3) := by decide +kernel
theorem dX8_bookmarked_31 : decode cX8_bookmarked 31 = .ok (.iload_n 3, 1) := by decide +kernel
theorem dX8_bookmarked_32 : decode cX8_bookmarked 32 = .ok (.iconst (-1), 1) := by decide +kernel
theorem dX8_bookmarked_33 : decode cX8_bookmarked 33 = .ok (.if_icmp .eq 16, 3) := by decide +kernel
theorem dX8_bookmarked_36 : decode cX8_bookmarked 36 = .ok (.aload_n 0, 1) := by decide +kernel
theorem dX8_bookmarked_37 : decode cX8_bookmarked 37 = .ok (.getfield 86, 3) := by decide +kernel
theorem dX8_bookmarked_40 : decode cX8_bookmarked 40 = .ok (.iload_n 3, 1) := by decide +kernel
theorem dX8_bookmarked_41 : decode cX8_bookmarked 41 = .ok (.iload 4, 2) := by decide +kernel
theorem dX8_bookmarked_43 : decode cX8_bookmarked 43 = .ok (.invokevirtual 414, 3) := by decide +kernel
theorem dX8_bookmarked_46 : decode cX8_bookmarked 46 = .ok (.ifCond .ne 14, 3) := by decide +kernel
theorem dX8_bookmarked_49 : decode cX8_bookmarked 49 = .ok (.new 206, 3) := by decide +kernel
theorem dX8_bookmarked_52 : decode cX8_bookmarked 52 = .ok (.dup, 1) := by decide +kernel
theorem dX8_bookmarked_53 : decode cX8_bookmarked 53 = .ok (.ldc_w 417, 3) := by decide +kernel
theorem dX8_bookmarked_56 : decode cX8_bookmarked 56 = .ok (.invokespecial 210, 3) := by decide +kernel
theorem dX8_bookmarked_59 : decode cX8_bookmarked 59 = .ok (.athrow, 1) := by decide +kernel
theorem dX8_bookmarked_60 : decode cX8_bookmarked 60 = .ok (.sipush 10000, 3) := by decide +kernel
theorem dX8_bookmarked_63 : decode cX8_bookmarked 63 = .ok (.iload_n 3, 1) := by decide +kernel
theorem dX8_bookmarked_64 : decode cX8_bookmarked 64 = .ok (.imul, 1) := by decide +kernel
theorem dX8_bookmarked_65 : decode cX8_bookmarked 65 = .ok (.iload 4, 2) := by decide +kernel
theorem dX8_bookmarked_67 : decode cX8_bookmarked 67 = .ok (.iadd, 1) := by decide +kernel
theorem dX8_bookmarked_68 : decode cX8_bookmarked 68 = .ok (.ireturn, 1) := by decide +kernel
set_option maxRecDepth 100000 in
set_option maxHeartbeats 4000000 in
theorem w8_bookmarked_ok {l : Launch} {idx : List (Nat × Nat)} {μ : Mem} {a1 : Int32} {a2 : Int32} {P : Int32 → Mem → Prop} {X : String → Mem → Prop} (hl : l.stackTraces = false) (hI : IdxOK idx) (hk : w8_bookmarked_wp μ a1 a2 P X) : PMet l yX8_bookmarked (.code yX8_bookmarked cX8_bookmarked 5 (some .int)) 9 2 12 idx [pR 40 0, pI a1, pI a2] μ (qI P) X := by
  refine PMet_of mv_X8_bookmarked.2.2.2.2.2.2 hl hI mv_X8_bookmarked.2.2.2.1 rfl (Nat.le_of_ble_eq_true rfl) (fun G _ _ C hRt hHR hnT => ?_)
  show PW G 2 12 0 [some (pR 40 0), some (pI a1), some (pI a2), none, none] [] μ
  unfold w8_bookmarked_wp at hk
  refine px_aload_n (i := 0) C dX8_bookmarked_0 rfl rfl ?_
  refine px_iload_n (i := 1) C dX8_bookmarked_1 rfl rfl ?_
  refine px_iload_n (i := 2) C dX8_bookmarked_2 rfl rfl ?_
  refine px_callVv (h := 8) (rc' := 1) (rs' := 6) C (HR_le hHR (Nat.le_of_ble_eq_true rfl)) hRt hnT dX8_bookmarked_3 (gw6 66 rfl rfl) mv_X8_checkShelfPlace (w8_checkShelfPlace_ok (PCx_l C) (PCx_I C) hk) rfl rfl rfl rfl rfl (Nat.le_of_ble_eq_true rfl) (Nat.le_of_ble_eq_true rfl) (Nat.le_of_ble_eq_true rfl) (Nat.le_of_ble_eq_true rfl) ?_
  intro μ1 hk
  refine px_aload_n (i := 0) C dX8_bookmarked_6 rfl rfl ?_
  refine px_getr C dX8_bookmarked_7 fl_RX8_29 rfl rfl rfl ?_
  refine px_iload_n (i := 1) C dX8_bookmarked_10 rfl rfl ?_
  refine px_iload_n (i := 2) C dX8_bookmarked_11 rfl rfl ?_
  refine px_callVi (h := 1) (rc' := 1) (rs' := 6) C (HR_le hHR (Nat.le_of_ble_eq_true rfl)) hRt hnT dX8_bookmarked_12 (gw6 107 rfl rfl) mv_X6_traceIn (w6_traceIn_ok (PCx_l C) (PCx_I C) hk) rfl rfl rfl rfl rfl (Nat.le_of_ble_eq_true rfl) (Nat.le_of_ble_eq_true rfl) (Nat.le_of_ble_eq_true rfl) (Nat.le_of_ble_eq_true rfl) ?_
  intro r3 μ2 hk
  refine px_istore_n (i := 3) C dX8_bookmarked_15 rfl (by decide) rfl ?_
  refine px_aload_n (i := 0) C dX8_bookmarked_16 rfl rfl ?_
  refine px_getr C dX8_bookmarked_17 fl_RX8_29 rfl rfl rfl ?_
  refine px_iload_n (i := 1) C dX8_bookmarked_20 rfl rfl ?_
  refine px_iload_n (i := 2) C dX8_bookmarked_21 rfl rfl ?_
  refine px_callVi (h := 1) (rc' := 1) (rs' := 6) C (HR_le hHR (Nat.le_of_ble_eq_true rfl)) hRt hnT dX8_bookmarked_22 (gw6 108 rfl rfl) mv_X6_nodeIn (w6_nodeIn_ok (PCx_l C) (PCx_I C) hk) rfl rfl rfl rfl rfl (Nat.le_of_ble_eq_true rfl) (Nat.le_of_ble_eq_true rfl) (Nat.le_of_ble_eq_true rfl) (Nat.le_of_ble_eq_true rfl) ?_
  intro r5 μ4 hk
  refine px_istore (i := 4) C dX8_bookmarked_25 (by decide) rfl ?_
  refine px_aload_n (i := 0) C dX8_bookmarked_27 rfl rfl ?_
  refine px_callVv (h := 4) (rc' := 1) (rs' := 6) C (HR_le hHR (Nat.le_of_ble_eq_true rfl)) hRt hnT dX8_bookmarked_28 (gw2 165 rfl rfl) mv_X8_workOut (w8_workOut_ok (PCx_l C) (PCx_I C) hk) rfl rfl rfl rfl rfl (Nat.le_of_ble_eq_true rfl) (Nat.le_of_ble_eq_true rfl) (Nat.le_of_ble_eq_true rfl) (Nat.le_of_ble_eq_true rfl) ?_
  intro μ6 hk
  refine px_iload_n (i := 3) C dX8_bookmarked_31 rfl rfl ?_
  refine px_iconst (v := (-1 : Int32)) C dX8_bookmarked_32 rfl ?_
  refine px_icmp_eq (tgt := 49) C dX8_bookmarked_33 (by decide) (fun c10 => ?_) (fun c10 => ?_)
  · replace hk := hk.1 c10
    exact px_throwwN (h9 := 1) C (HR_le hHR (Nat.le_of_ble_eq_true rfl)) hRt hnT tk_NoSuchElementException ti_NoSuchElementException (List.mem_of_getElem? (i := 29) rfl) rfl dX8_bookmarked_49 dX8_bookmarked_52 dX8_bookmarked_53 dX8_bookmarked_56 dX8_bookmarked_59 rfl (Nat.le_of_ble_eq_true rfl) (Nat.le_of_ble_eq_true rfl) hk
  · replace hk := hk.2 c10
    refine px_aload_n (i := 0) C dX8_bookmarked_36 rfl rfl ?_
    refine px_getr C dX8_bookmarked_37 fl_RX8_86 rfl rfl rfl ?_
    refine px_iload_n (i := 3) C dX8_bookmarked_40 rfl rfl ?_
    refine px_iload (i := 4) C dX8_bookmarked_41 rfl ?_
    refine px_callVi (h := 4) (rc' := 1) (rs' := 6) C (HR_le hHR (Nat.le_of_ble_eq_true rfl)) hRt hnT dX8_bookmarked_43 (gw4 141 rfl rfl) mv_X2_isNode (w2_isNode_ok (PCx_l C) (PCx_I C) hk) rfl rfl rfl rfl rfl (Nat.le_of_ble_eq_true rfl) (Nat.le_of_ble_eq_true rfl) (Nat.le_of_ble_eq_true rfl) (Nat.le_of_ble_eq_true rfl) ?_
    intro r8 μ7 hk
    refine px_if_ne (tgt := 60) C dX8_bookmarked_46 (by decide) (fun c9 => ?_) (fun c9 => ?_)
    · replace hk := hk.1 c9
      refine px_sipush (v := (10000 : Int32)) C dX8_bookmarked_60 rfl ?_
      refine px_iload_n (i := 3) C dX8_bookmarked_63 rfl rfl ?_
      refine px_imul C dX8_bookmarked_64 ?_
      refine px_iload (i := 4) C dX8_bookmarked_65 rfl ?_
      refine px_iadd C dX8_bookmarked_67 ?_
      exact px_iret C hRt dX8_bookmarked_68 rfl rfl hk
    · replace hk := hk.2 c9
      exact px_throwwN (h9 := 1) C (HR_le hHR (Nat.le_of_ble_eq_true rfl)) hRt hnT tk_NoSuchElementException ti_NoSuchElementException (List.mem_of_getElem? (i := 29) rfl) rfl dX8_bookmarked_49 dX8_bookmarked_52 dX8_bookmarked_53 dX8_bookmarked_56 dX8_bookmarked_59 rfl (Nat.le_of_ble_eq_true rfl) (Nat.le_of_ble_eq_true rfl) hk
theorem dX8_read_0 : decode cX8_read 0 = .ok (.aload_n 0, 1) := by decide +kernel
theorem dX8_read_1 : decode cX8_read 1 = .ok (.getfield 36, 3) := by decide +kernel
theorem dX8_read_4 : decode cX8_read 4 = .ok (.aload_n 0, 1) := by decide +kernel
theorem dX8_read_5 : decode cX8_read 5 = .ok (.getfield 16, 3) := by decide +kernel
theorem dX8_read_8 : decode cX8_read 8 = .ok (.invokevirtual 427, 3) := by decide +kernel
theorem dX8_read_11 : decode cX8_read 11 = .ok (.istore_n 1, 1) := by decide +kernel
theorem dX8_read_12 : decode cX8_read 12 = .ok (.aload_n 0, 1) := by decide +kernel
theorem dX8_read_13 : decode cX8_read 13 = .ok (.getfield 36, 3) := by decide +kernel
theorem dX8_read_16 : decode cX8_read 16 = .ok (.invokevirtual 431, 3) := by decide +kernel
theorem dX8_read_19 : decode cX8_read 19 = .ok (.iload_n 1, 1) := by decide +kernel
theorem dX8_read_20 : decode cX8_read 20 = .ok (.ifCond .ne 25, 3) := by decide +kernel
theorem dX8_read_23 : decode cX8_read 23 = .ok (.aload_n 0, 1) := by decide +kernel
theorem dX8_read_24 : decode cX8_read 24 = .ok (.aload_n 0, 1) := by decide +kernel
theorem dX8_read_25 : decode cX8_read 25 = .ok (.getfield 36, 3) := by decide +kernel
theorem dX8_read_28 : decode cX8_read 28 = .ok (.getfield 432, 3) := by decide +kernel
theorem dX8_read_31 : decode cX8_read 31 = .ok (.putfield 54, 3) := by decide +kernel
theorem dX8_read_34 : decode cX8_read 34 = .ok (.new 110, 3) := by decide +kernel
theorem dX8_read_37 : decode cX8_read 37 = .ok (.dup, 1) := by decide +kernel
theorem dX8_read_38 : decode cX8_read 38 = .ok (.ldc_w 435, 3) := by decide +kernel
theorem dX8_read_41 : decode cX8_read 41 = .ok (.invokespecial 114, 3) := by decide +kernel
theorem dX8_read_44 : decode cX8_read 44 = .ok (.athrow, 1) := by decide +kernel
theorem dX8_read_45 : decode cX8_read 45 = .ok (.aload_n 0, 1) := by decide +kernel
theorem dX8_read_46 : decode cX8_read 46 = .ok (.invokevirtual 437, 3) := by decide +kernel
theorem dX8_read_49 : decode cX8_read 49 = .ok (.ifCond .ne 14, 3) := by decide +kernel
theorem dX8_read_52 : decode cX8_read 52 = .ok (.new 130, 3) := by decide +kernel
theorem dX8_read_55 : decode cX8_read 55 = .ok (.dup, 1) := by decide +kernel
theorem dX8_read_56 : decode cX8_read 56 = .ok (.ldc_w 441, 3) := by decide +kernel
theorem dX8_read_59 : decode cX8_read 59 = .ok (.invokespecial 134, 3) := by decide +kernel
theorem dX8_read_62 : decode cX8_read 62 = .ok (.athrow, 1) := by decide +kernel
theorem dX8_read_63 : decode cX8_read 63 = .ok (.aload_n 0, 1) := by decide +kernel
theorem dX8_read_64 : decode cX8_read 64 = .ok (.invokevirtual 135, 3) := by decide +kernel
theorem dX8_read_67 : decode cX8_read 67 = .ok (.iconst 0, 1) := by decide +kernel
theorem dX8_read_68 : decode cX8_read 68 = .ok (.istore_n 2, 1) := by decide +kernel
theorem dX8_read_69 : decode cX8_read 69 = .ok (.iload_n 2, 1) := by decide +kernel
theorem dX8_read_70 : decode cX8_read 70 = .ok (.aload_n 0, 1) := by decide +kernel
theorem dX8_read_71 : decode cX8_read 71 = .ok (.getfield 16, 3) := by decide +kernel
theorem dX8_read_74 : decode cX8_read 74 = .ok (.getfield 97, 3) := by decide +kernel
theorem dX8_read_77 : decode cX8_read 77 = .ok (.if_icmp .ge 21, 3) := by decide +kernel
theorem dX8_read_80 : decode cX8_read 80 = .ok (.aload_n 0, 1) := by decide +kernel
theorem dX8_read_81 : decode cX8_read 81 = .ok (.getfield 94, 3) := by decide +kernel
theorem dX8_read_84 : decode cX8_read 84 = .ok (.aload_n 0, 1) := by decide +kernel
theorem dX8_read_85 : decode cX8_read 85 = .ok (.getfield 16, 3) := by decide +kernel
theorem dX8_read_88 : decode cX8_read 88 = .ok (.iload_n 2, 1) := by decide +kernel
theorem dX8_read_89 : decode cX8_read 89 = .ok (.invokevirtual 443, 3) := by decide +kernel
theorem dX8_read_92 : decode cX8_read 92 = .ok (.iinc 2 1, 3) := by decide +kernel
theorem dX8_read_95 : decode cX8_read 95 = .ok (.goto (-26), 3) := by decide +kernel
theorem dX8_read_98 : decode cX8_read 98 = .ok (.aload_n 0, 1) := by decide +kernel
theorem dX8_read_99 : decode cX8_read 99 = .ok (.getfield 16, 3) := by decide +kernel
theorem dX8_read_102 : decode cX8_read 102 = .ok (.getfield 97, 3) := by decide +kernel
theorem dX8_read_105 : decode cX8_read 105 = .ok (.ireturn, 1) := by decide +kernel
set_option maxRecDepth 100000 in
set_option maxHeartbeats 4000000 in
theorem w8_read_b69_ok {G : GT} {P : Int32 → Mem → Prop} {X : String → Mem → Prop} (C : PCx G cX8_read 3 RX8) (hRt : PRt G (some .int) (qI P) X) (hHR : HR G (8)) (hnT : NoT G) {μ : Mem} {l2 : Int32} (hk : w8_read_b69 P X μ l2) : PW G 0 0 69 [some (pR 40 0), none, some (pI l2)] [] μ := by
  refine hk (fun (μ : Mem) (l2 : Int32) => PW G 0 0 69 [some (pR 40 0), none, some (pI l2)] [] μ) (fun (μ : Mem) l2 hk => ?_)
  have hR69 : ∀ (μ : Mem) (l2 : Int32), PW G 0 0 69 [some (pR 40 0), none, some (pI l2)] [] μ → PW G 0 0 69 [some (pR 40 0), none, some (pI l2)] [] μ := fun _ _ h => h
  unfold w8_read_b69_body at hk
  refine px_iload_n (i := 2) C dX8_read_69 rfl rfl ?_
  refine px_aload_n (i := 0) C dX8_read_70 rfl rfl ?_
  refine px_getr C dX8_read_71 fl_RX8_16 rfl rfl rfl ?_
  refine px_geti 1 C dX8_read_74 fl_RX8_97 rfl rfl rfl rfl ?_
  refine px_icmp_ge (tgt := 98) C dX8_read_77 (by decide) (fun c8 => ?_) (fun c8 => ?_)
  · replace hk := hk.1 c8
    refine px_aload_n (i := 0) C dX8_read_98 rfl rfl ?_
    refine px_getr C dX8_read_99 fl_RX8_16 rfl rfl rfl ?_
    refine px_geti 1 C dX8_read_102 fl_RX8_97 rfl rfl rfl rfl ?_
    exact px_iret C hRt dX8_read_105 rfl rfl hk
  · replace hk := hk.2 c8
    refine px_aload_n (i := 0) C dX8_read_80 rfl rfl ?_
    refine px_getr C dX8_read_81 fl_RX8_94 rfl rfl rfl ?_
    refine px_aload_n (i := 0) C dX8_read_84 rfl rfl ?_
    refine px_getr C dX8_read_85 fl_RX8_16 rfl rfl rfl ?_
    refine px_iload_n (i := 2) C dX8_read_88 rfl rfl ?_
    refine px_callVv (h := 2) (rc' := 0) (rs' := 0) C (HR_le hHR (Nat.le_of_ble_eq_true rfl)) hRt hnT dX8_read_89 (gw6 166 rfl rfl) mv_X7_keepCopy (w7_keepCopy_ok (PCx_l C) (PCx_I C) hk) rfl rfl rfl rfl rfl (Nat.le_of_ble_eq_true rfl) (Nat.le_of_ble_eq_true rfl) (Nat.le_of_ble_eq_true rfl) (Nat.le_of_ble_eq_true rfl) ?_
    intro μ7 hk
    refine px_iinc (i := 2) (v := (1 : Int32)) C dX8_read_92 rfl rfl (by decide) rfl ?_
    refine px_goto (tgt := 69) C dX8_read_95 (by decide) ?_
    exact PW_at (hR69 _ _ hk) (And.intro rfl (And.intro rfl trivial)) (Nat.le_of_ble_eq_true rfl) (Nat.le_of_ble_eq_true rfl)
set_option maxRecDepth 100000 in
set_option maxHeartbeats 4000000 in
theorem w8_read_ok {l : Launch} {idx : List (Nat × Nat)} {μ : Mem} {P : Int32 → Mem → Prop} {X : String → Mem → Prop} (hl : l.stackTraces = false) (hI : IdxOK idx) (hk : w8_read_wp μ P X) : PMet l yX8_read (.code yX8_read cX8_read 3 (some .int)) 8 1 6 idx [pR 40 0] μ (qI P) X := by
  refine PMet_of mv_X8_read.2.2.2.2.2.2 hl hI mv_X8_read.2.2.2.1 rfl (Nat.le_of_ble_eq_true rfl) (fun G _ _ C hRt hHR hnT => ?_)
  show PW G 1 6 0 [some (pR 40 0), none, none] [] μ
  unfold w8_read_wp at hk
  refine px_aload_n (i := 0) C dX8_read_0 rfl rfl ?_
  refine px_getr C dX8_read_1 fl_RX8_36 rfl rfl rfl ?_
  refine px_aload_n (i := 0) C dX8_read_4 rfl rfl ?_
  refine px_getr C dX8_read_5 fl_RX8_16 rfl rfl rfl ?_
  refine px_callVi (h := 4) (rc' := 1) (rs' := 6) C (HR_le hHR (Nat.le_of_ble_eq_true rfl)) hRt hnT dX8_read_8 (gw6 134 rfl rfl) mv_X4_parse (w4_parse_ok (PCx_l C) (PCx_I C) hk) rfl rfl rfl rfl rfl (Nat.le_of_ble_eq_true rfl) (Nat.le_of_ble_eq_true rfl) (Nat.le_of_ble_eq_true rfl) (Nat.le_of_ble_eq_true rfl) ?_
  intro r2 μ1 hk
  refine px_istore_n (i := 1) C dX8_read_11 rfl (by decide) rfl ?_
  refine px_aload_n (i := 0) C dX8_read_12 rfl rfl ?_
  refine px_getr C dX8_read_13 fl_RX8_36 rfl rfl rfl ?_
  refine px_callVv (h := 0) (rc' := 1) (rs' := 6) C (HR_le hHR (Nat.le_of_ble_eq_true rfl)) hRt hnT dX8_read_16 (gw6 156 rfl rfl) mv_X4_empty (w4_empty_ok (PCx_l C) (PCx_I C) hk) rfl rfl rfl rfl rfl (Nat.le_of_ble_eq_true rfl) (Nat.le_of_ble_eq_true rfl) (Nat.le_of_ble_eq_true rfl) (Nat.le_of_ble_eq_true rfl) ?_
  intro μ3 hk
  refine px_iload_n (i := 1) C dX8_read_19 rfl rfl ?_
  refine px_if_ne (tgt := 45) C dX8_read_20 (by decide) (fun c11 => ?_) (fun c11 => ?_)
  · replace hk := hk.1 c11
    refine px_aload_n (i := 0) C dX8_read_45 rfl rfl ?_
    refine px_callVi (h := 1) (rc' := 1) (rs' := 6) C (HR_le hHR (Nat.le_of_ble_eq_true rfl)) hRt hnT dX8_read_46 (gw6 161 rfl rfl) mv_X8_canAddDraft (w8_canAddDraft_ok (PCx_l C) (PCx_I C) hk) rfl rfl rfl rfl rfl (Nat.le_of_ble_eq_true rfl) (Nat.le_of_ble_eq_true rfl) (Nat.le_of_ble_eq_true rfl) (Nat.le_of_ble_eq_true rfl) ?_
    intro r5 μ4 hk
    refine px_if_ne (tgt := 63) C dX8_read_49 (by decide) (fun c9 => ?_) (fun c9 => ?_)
    · replace hk := hk.1 c9
      refine px_aload_n (i := 0) C dX8_read_63 rfl rfl ?_
      refine px_callVv (h := 5) (rc' := 0) (rs' := 0) C (HR_le hHR (Nat.le_of_ble_eq_true rfl)) hRt hnT dX8_read_64 (gw3 162 rfl rfl) mv_X8_startChange (w8_startChange_ok (PCx_l C) (PCx_I C) hk) rfl rfl rfl rfl rfl (Nat.le_of_ble_eq_true rfl) (Nat.le_of_ble_eq_true rfl) (Nat.le_of_ble_eq_true rfl) (Nat.le_of_ble_eq_true rfl) ?_
      intro μ6 hk
      refine px_iconst (v := (0 : Int32)) C dX8_read_67 rfl ?_
      refine px_istore_n (i := 2) C dX8_read_68 rfl (by decide) rfl ?_
      exact PW_at (w8_read_b69_ok C hRt hHR hnT hk) (And.intro rfl (And.intro rfl trivial)) (Nat.le_of_ble_eq_true rfl) (Nat.le_of_ble_eq_true rfl)
    · replace hk := hk.2 c9
      exact px_throww (h9 := 0) C (HR_le hHR (Nat.le_of_ble_eq_true rfl)) hRt hnT tk_IllegalStateException ti_IllegalStateException tw_IllegalStateException (by decide +kernel) (List.mem_of_getElem? (i := 33) rfl) dX8_read_52 dX8_read_55 dX8_read_56 dX8_read_59 dX8_read_62 rfl (Nat.le_of_ble_eq_true rfl) (Nat.le_of_ble_eq_true rfl) hk
  · replace hk := hk.2 c11
    refine px_aload_n (i := 0) C dX8_read_23 rfl rfl ?_
    refine px_aload_n (i := 0) C dX8_read_24 rfl rfl ?_
    refine px_getr C dX8_read_25 fl_RX8_36 rfl rfl rfl ?_
    refine px_geti 2434 C dX8_read_28 fl_RX8_432 rfl rfl rfl rfl ?_
    replace hk := hk _ rfl
    refine px_puti 2574 C dX8_read_31 fp_RX8_54 rfl rfl rfl rfl rfl rfl ?_
    exact px_throww (h9 := 0) C (HR_le hHR (Nat.le_of_ble_eq_true rfl)) hRt hnT tk_IllegalArgumentException ti_IllegalArgumentException tw_IllegalArgumentException (by decide +kernel) (List.mem_of_getElem? (i := 32) rfl) dX8_read_34 dX8_read_37 dX8_read_38 dX8_read_41 dX8_read_44 rfl (Nat.le_of_ble_eq_true rfl) (Nat.le_of_ble_eq_true rfl) hk
theorem dX8_findNode_0 : decode cX8_findNode 0 = .ok (.aload_n 0, 1) := by decide +kernel
theorem dX8_findNode_1 : decode cX8_findNode 1 = .ok (.iload_n 1, 1) := by decide +kernel
theorem dX8_findNode_2 : decode cX8_findNode 2 = .ok (.invokevirtual 255, 3) := by decide +kernel
theorem dX8_findNode_5 : decode cX8_findNode 5 = .ok (.aload_n 0, 1) := by decide +kernel
theorem dX8_findNode_6 : decode cX8_findNode 6 = .ok (.invokevirtual 197, 3) := by decide +kernel
theorem dX8_findNode_9 : decode cX8_findNode 9 = .ok (.aload_n 0, 1) := by decide +kernel
theorem dX8_findNode_10 : decode cX8_findNode 10 = .ok (.getfield 86, 3) := by decide +kernel
theorem dX8_findNode_13 : decode cX8_findNode 13 = .ok (.iload_n 1, 1) := by decide +kernel
theorem dX8_findNode_14 : decode cX8_findNode 14 = .ok (.iload_n 2, 1) := by decide +kernel
theorem dX8_findNode_15 : decode cX8_findNode 15 = .ok (.invokevirtual 414, 3) := by decide +kernel
theorem dX8_findNode_18 : decode cX8_findNode 18 = .ok (.ifCond .ne 14, 3) := by decide +kernel
theorem dX8_findNode_21 : decode cX8_findNode 21 = .ok (.new 206, 3) := by decide +kernel
theorem dX8_findNode_24 : decode cX8_findNode 24 = .ok (.dup, 1) := by decide +kernel
theorem dX8_findNode_25 : decode cX8_findNode 25 = .ok (.ldc_w 487, 3) := by decide +kernel
theorem dX8_findNode_28 : decode cX8_findNode 28 = .ok (.invokespecial 210, 3) := by decide +kernel
theorem dX8_findNode_31 : decode cX8_findNode 31 = .ok (.athrow, 1) := by decide +kernel
theorem dX8_findNode_32 : decode cX8_findNode 32 = .ok (.return_, 1) := by decide +kernel
set_option maxRecDepth 100000 in
set_option maxHeartbeats 4000000 in
theorem w8_findNode_ok {l : Launch} {idx : List (Nat × Nat)} {μ : Mem} {a1 : Int32} {a2 : Int32} {P : Mem → Prop} {X : String → Mem → Prop} (hl : l.stackTraces = false) (hI : IdxOK idx) (hk : w8_findNode_wp μ a1 a2 P X) : PMet l yX8_findNode (.code yX8_findNode cX8_findNode 3 none) 9 2 12 idx [pR 40 0, pI a1, pI a2] μ (qV P) X := by
  refine PMet_of mv_X8_findNode.2.2.2.2.2.2 hl hI mv_X8_findNode.2.2.2.1 rfl (Nat.le_of_ble_eq_true rfl) (fun G _ _ C hRt hHR hnT => ?_)
  show PW G 2 12 0 [some (pR 40 0), some (pI a1), some (pI a2)] [] μ
  unfold w8_findNode_wp at hk
  refine px_aload_n (i := 0) C dX8_findNode_0 rfl rfl ?_
  refine px_iload_n (i := 1) C dX8_findNode_1 rfl rfl ?_
  refine px_callVv (h := 8) (rc' := 1) (rs' := 6) C (HR_le hHR (Nat.le_of_ble_eq_true rfl)) hRt hnT dX8_findNode_2 (gw4 136 rfl rfl) mv_X8_checkTrace (w8_checkTrace_ok (PCx_l C) (PCx_I C) hk) rfl rfl rfl rfl rfl (Nat.le_of_ble_eq_true rfl) (Nat.le_of_ble_eq_true rfl) (Nat.le_of_ble_eq_true rfl) (Nat.le_of_ble_eq_true rfl) ?_
  intro μ1 hk
  refine px_aload_n (i := 0) C dX8_findNode_5 rfl rfl ?_
  refine px_callVv (h := 4) (rc' := 1) (rs' := 6) C (HR_le hHR (Nat.le_of_ble_eq_true rfl)) hRt hnT dX8_findNode_6 (gw2 165 rfl rfl) mv_X8_workOut (w8_workOut_ok (PCx_l C) (PCx_I C) hk) rfl rfl rfl rfl rfl (Nat.le_of_ble_eq_true rfl) (Nat.le_of_ble_eq_true rfl) (Nat.le_of_ble_eq_true rfl) (Nat.le_of_ble_eq_true rfl) ?_
  intro μ2 hk
  refine px_aload_n (i := 0) C dX8_findNode_9 rfl rfl ?_
  refine px_getr C dX8_findNode_10 fl_RX8_86 rfl rfl rfl ?_
  refine px_iload_n (i := 1) C dX8_findNode_13 rfl rfl ?_
  refine px_iload_n (i := 2) C dX8_findNode_14 rfl rfl ?_
  refine px_callVi (h := 4) (rc' := 1) (rs' := 6) C (HR_le hHR (Nat.le_of_ble_eq_true rfl)) hRt hnT dX8_findNode_15 (gw4 141 rfl rfl) mv_X2_isNode (w2_isNode_ok (PCx_l C) (PCx_I C) hk) rfl rfl rfl rfl rfl (Nat.le_of_ble_eq_true rfl) (Nat.le_of_ble_eq_true rfl) (Nat.le_of_ble_eq_true rfl) (Nat.le_of_ble_eq_true rfl) ?_
  intro r4 μ3 hk
  refine px_if_ne (tgt := 32) C dX8_findNode_18 (by decide) (fun c5 => ?_) (fun c5 => ?_)
  · replace hk := hk.1 c5
    exact px_vret C hRt dX8_findNode_32 rfl hk
  · replace hk := hk.2 c5
    exact px_throwwN (h9 := 1) C (HR_le hHR (Nat.le_of_ble_eq_true rfl)) hRt hnT tk_NoSuchElementException ti_NoSuchElementException (List.mem_of_getElem? (i := 12) rfl) rfl dX8_findNode_21 dX8_findNode_24 dX8_findNode_25 dX8_findNode_28 dX8_findNode_31 rfl (Nat.le_of_ble_eq_true rfl) (Nat.le_of_ble_eq_true rfl) hk
theorem dX8_below_0 : decode cX8_below 0 = .ok (.aload_n 0, 1) := by decide +kernel
theorem dX8_below_1 : decode cX8_below 1 = .ok (.iload_n 1, 1) := by decide +kernel
theorem dX8_below_2 : decode cX8_below 2 = .ok (.iload_n 2, 1) := by decide +kernel
theorem dX8_below_3 : decode cX8_below 3 = .ok (.invokevirtual 235, 3) := by decide +kernel
theorem dX8_below_6 : decode cX8_below 6 = .ok (.aload_n 0, 1) := by decide +kernel
theorem dX8_below_7 : decode cX8_below 7 = .ok (.getfield 86, 3) := by decide +kernel
theorem dX8_below_10 : decode cX8_below 10 = .ok (.iload_n 1, 1) := by decide +kernel
theorem dX8_below_11 : decode cX8_below 11 = .ok (.iload_n 2, 1) := by decide +kernel
theorem dX8_below_12 : decode cX8_below 12 = .ok (.invokevirtual 239, 3) := by decide +kernel
theorem dX8_below_15 : decode cX8_below 15 = .ok (.ireturn, 1) := by decide +kernel
set_option maxRecDepth 100000 in
set_option maxHeartbeats 4000000 in
theorem w8_below_ok {l : Launch} {idx : List (Nat × Nat)} {μ : Mem} {a1 : Int32} {a2 : Int32} {P : Int32 → Mem → Prop} {X : String → Mem → Prop} (hl : l.stackTraces = false) (hI : IdxOK idx) (hk : w8_below_wp μ a1 a2 P X) : PMet l yX8_below (.code yX8_below cX8_below 3 (some .int)) 10 2 12 idx [pR 40 0, pI a1, pI a2] μ (qI P) X := by
  refine PMet_of mv_X8_below.2.2.2.2.2.2 hl hI mv_X8_below.2.2.2.1 rfl (Nat.le_of_ble_eq_true rfl) (fun G _ _ C hRt hHR hnT => ?_)
  show PW G 2 12 0 [some (pR 40 0), some (pI a1), some (pI a2)] [] μ
  unfold w8_below_wp at hk
  refine px_aload_n (i := 0) C dX8_below_0 rfl rfl ?_
  refine px_iload_n (i := 1) C dX8_below_1 rfl rfl ?_
  refine px_iload_n (i := 2) C dX8_below_2 rfl rfl ?_
  refine px_callVv (h := 9) (rc' := 0) (rs' := 0) C (HR_le hHR (Nat.le_of_ble_eq_true rfl)) hRt hnT dX8_below_3 (gw4 132 rfl rfl) mv_X8_findNode (w8_findNode_ok (PCx_l C) (PCx_I C) hk) rfl rfl rfl rfl rfl (Nat.le_of_ble_eq_true rfl) (Nat.le_of_ble_eq_true rfl) (Nat.le_of_ble_eq_true rfl) (Nat.le_of_ble_eq_true rfl) ?_
  intro μ1 hk
  refine px_aload_n (i := 0) C dX8_below_6 rfl rfl ?_
  refine px_getr C dX8_below_7 fl_RX8_86 rfl rfl rfl ?_
  refine px_iload_n (i := 1) C dX8_below_10 rfl rfl ?_
  refine px_iload_n (i := 2) C dX8_below_11 rfl rfl ?_
  refine px_callVi (h := 3) (rc' := 0) (rs' := 0) C (HR_le hHR (Nat.le_of_ble_eq_true rfl)) hRt hnT dX8_below_12 (gw4 159 rfl rfl) mv_X2_spansBelow (w2_spansBelow_ok (PCx_l C) (PCx_I C) hk) rfl rfl rfl rfl rfl (Nat.le_of_ble_eq_true rfl) (Nat.le_of_ble_eq_true rfl) (Nat.le_of_ble_eq_true rfl) (Nat.le_of_ble_eq_true rfl) ?_
  intro r3 μ2 hk
  exact px_iret C hRt dX8_below_15 rfl rfl hk
theorem dX8_childCount_0 : decode cX8_childCount 0 = .ok (.aload_n 0, 1) := by decide +kernel
theorem dX8_childCount_1 : decode cX8_childCount 1 = .ok (.iload_n 1, 1) := by decide +kernel
theorem dX8_childCount_2 : decode cX8_childCount 2 = .ok (.iload_n 2, 1) := by decide +kernel
theorem dX8_childCount_3 : decode cX8_childCount 3 = .ok (.invokevirtual 235, 3) := by decide +kernel
theorem dX8_childCount_6 : decode cX8_childCount 6 = .ok (.aload_n 0, 1) := by decide +kernel
theorem dX8_childCount_7 : decode cX8_childCount 7 = .ok (.getfield 86, 3) := by decide +kernel
theorem dX8_childCount_10 : decode cX8_childCount 10 = .ok (.iload_n 1, 1) := by decide +kernel
theorem dX8_childCount_11 : decode cX8_childCount 11 = .ok (.iload_n 2, 1) := by decide +kernel
theorem dX8_childCount_12 : decode cX8_childCount 12 = .ok (.invokevirtual 243, 3) := by decide +kernel
theorem dX8_childCount_15 : decode cX8_childCount 15 = .ok (.ireturn, 1) := by decide +kernel
set_option maxRecDepth 100000 in
set_option maxHeartbeats 4000000 in
theorem w8_childCount_ok {l : Launch} {idx : List (Nat × Nat)} {μ : Mem} {a1 : Int32} {a2 : Int32} {P : Int32 → Mem → Prop} {X : String → Mem → Prop} (hl : l.stackTraces = false) (hI : IdxOK idx) (hk : w8_childCount_wp μ a1 a2 P X) : PMet l yX8_childCount (.code yX8_childCount cX8_childCount 3 (some .int)) 10 2 12 idx [pR 40 0, pI a1, pI a2] μ (qI P) X := by
  refine PMet_of mv_X8_childCount.2.2.2.2.2.2 hl hI mv_X8_childCount.2.2.2.1 rfl (Nat.le_of_ble_eq_true rfl) (fun G _ _ C hRt hHR hnT => ?_)
  show PW G 2 12 0 [some (pR 40 0), some (pI a1), some (pI a2)] [] μ
  unfold w8_childCount_wp at hk
  refine px_aload_n (i := 0) C dX8_childCount_0 rfl rfl ?_
  refine px_iload_n (i := 1) C dX8_childCount_1 rfl rfl ?_
  refine px_iload_n (i := 2) C dX8_childCount_2 rfl rfl ?_
  refine px_callVv (h := 9) (rc' := 0) (rs' := 0) C (HR_le hHR (Nat.le_of_ble_eq_true rfl)) hRt hnT dX8_childCount_3 (gw4 132 rfl rfl) mv_X8_findNode (w8_findNode_ok (PCx_l C) (PCx_I C) hk) rfl rfl rfl rfl rfl (Nat.le_of_ble_eq_true rfl) (Nat.le_of_ble_eq_true rfl) (Nat.le_of_ble_eq_true rfl) (Nat.le_of_ble_eq_true rfl) ?_
  intro μ1 hk
  refine px_aload_n (i := 0) C dX8_childCount_6 rfl rfl ?_
  refine px_getr C dX8_childCount_7 fl_RX8_86 rfl rfl rfl ?_
  refine px_iload_n (i := 1) C dX8_childCount_10 rfl rfl ?_
  refine px_iload_n (i := 2) C dX8_childCount_11 rfl rfl ?_
  refine px_callVi (h := 2) (rc' := 0) (rs' := 0) C (HR_le hHR (Nat.le_of_ble_eq_true rfl)) hRt hnT dX8_childCount_12 (gw4 174 rfl rfl) mv_X2_children (w2_children_ok (PCx_l C) (PCx_I C) hk) rfl rfl rfl rfl rfl (Nat.le_of_ble_eq_true rfl) (Nat.le_of_ble_eq_true rfl) (Nat.le_of_ble_eq_true rfl) (Nat.le_of_ble_eq_true rfl) ?_
  intro r3 μ2 hk
  exact px_iret C hRt dX8_childCount_15 rfl rfl hk
theorem dX8_child_0 : decode cX8_child 0 = .ok (.aload_n 0, 1) := by decide +kernel
theorem dX8_child_1 : decode cX8_child 1 = .ok (.iload_n 1, 1) := by decide +kernel
theorem dX8_child_2 : decode cX8_child 2 = .ok (.iload_n 2, 1) := by decide +kernel
theorem dX8_child_3 : decode cX8_child 3 = .ok (.invokevirtual 235, 3) := by decide +kernel
theorem dX8_child_6 : decode cX8_child 6 = .ok (.aload_n 0, 1) := by decide +kernel
theorem dX8_child_7 : decode cX8_child 7 = .ok (.getfield 86, 3) := by decide +kernel
theorem dX8_child_10 : decode cX8_child 10 = .ok (.iload_n 1, 1) := by decide +kernel
theorem dX8_child_11 : decode cX8_child 11 = .ok (.iload_n 2, 1) := by decide +kernel
theorem dX8_child_12 : decode cX8_child 12 = .ok (.iload_n 3, 1) := by decide +kernel
theorem dX8_child_13 : decode cX8_child 13 = .ok (.invokevirtual 246, 3) := by decide +kernel
theorem dX8_child_16 : decode cX8_child 16 = .ok (.istore 4, 2) := by decide +kernel
theorem dX8_child_18 : decode cX8_child 18 = .ok (.iload 4, 2) := by decide +kernel
theorem dX8_child_20 : decode cX8_child 20 = .ok (.bipush 40, 2) := by decide +kernel
theorem dX8_child_22 : decode cX8_child 22 = .ok (.invokestatic 106, 3) := by decide +kernel
theorem dX8_child_25 : decode cX8_child 25 = .ok (.ifCond .ne 13, 3) := by decide +kernel
theorem dX8_child_28 : decode cX8_child 28 = .ok (.new 206, 3) := by decide +kernel
theorem dX8_child_31 : decode cX8_child 31 = .ok (.dup, 1) := by decide +kernel
theorem dX8_child_32 : decode cX8_child 32 = .ok (.ldc 250, 2) := by decide +kernel
theorem dX8_child_34 : decode cX8_child 34 = .ok (.invokespecial 210, 3) := by decide +kernel
theorem dX8_child_37 : decode cX8_child 37 = .ok (.athrow, 1) := by decide +kernel
theorem dX8_child_38 : decode cX8_child 38 = .ok (.aload_n 0, 1) := by decide +kernel
theorem dX8_child_39 : decode cX8_child 39 = .ok (.getfield 94, 3) := by decide +kernel
theorem dX8_child_42 : decode cX8_child 42 = .ok (.getfield 252, 3) := by decide +kernel
theorem dX8_child_45 : decode cX8_child 45 = .ok (.iload 4, 2) := by decide +kernel
theorem dX8_child_47 : decode cX8_child 47 = .ok (.invokestatic 155, 3) := by decide +kernel
theorem dX8_child_50 : decode cX8_child 50 = .ok (.ireturn, 1) := by decide +kernel
set_option maxRecDepth 100000 in
set_option maxHeartbeats 4000000 in
theorem w8_child_ok {l : Launch} {idx : List (Nat × Nat)} {μ : Mem} {a1 : Int32} {a2 : Int32} {a3 : Int32} {P : Int32 → Mem → Prop} {X : String → Mem → Prop} (hl : l.stackTraces = false) (hI : IdxOK idx) (hk : w8_child_wp μ a1 a2 a3 P X) : PMet l yX8_child (.code yX8_child cX8_child 5 (some .int)) 10 3 18 idx [pR 40 0, pI a1, pI a2, pI a3] μ (qI P) X := by
  refine PMet_of mv_X8_child.2.2.2.2.2.2 hl hI mv_X8_child.2.2.2.1 rfl (Nat.le_of_ble_eq_true rfl) (fun G _ _ C hRt hHR hnT => ?_)
  show PW G 3 18 0 [some (pR 40 0), some (pI a1), some (pI a2), some (pI a3), none] [] μ
  unfold w8_child_wp at hk
  refine px_aload_n (i := 0) C dX8_child_0 rfl rfl ?_
  refine px_iload_n (i := 1) C dX8_child_1 rfl rfl ?_
  refine px_iload_n (i := 2) C dX8_child_2 rfl rfl ?_
  refine px_callVv (h := 9) (rc' := 1) (rs' := 6) C (HR_le hHR (Nat.le_of_ble_eq_true rfl)) hRt hnT dX8_child_3 (gw4 132 rfl rfl) mv_X8_findNode (w8_findNode_ok (PCx_l C) (PCx_I C) hk) rfl rfl rfl rfl rfl (Nat.le_of_ble_eq_true rfl) (Nat.le_of_ble_eq_true rfl) (Nat.le_of_ble_eq_true rfl) (Nat.le_of_ble_eq_true rfl) ?_
  intro μ1 hk
  refine px_aload_n (i := 0) C dX8_child_6 rfl rfl ?_
  refine px_getr C dX8_child_7 fl_RX8_86 rfl rfl rfl ?_
  refine px_iload_n (i := 1) C dX8_child_10 rfl rfl ?_
  refine px_iload_n (i := 2) C dX8_child_11 rfl rfl ?_
  refine px_iload_n (i := 3) C dX8_child_12 rfl rfl ?_
  refine px_callVi (h := 2) (rc' := 1) (rs' := 6) C (HR_le hHR (Nat.le_of_ble_eq_true rfl)) hRt hnT dX8_child_13 (gw4 182 rfl rfl) mv_X2_childAt (w2_childAt_ok (PCx_l C) (PCx_I C) hk) rfl rfl rfl rfl rfl (Nat.le_of_ble_eq_true rfl) (Nat.le_of_ble_eq_true rfl) (Nat.le_of_ble_eq_true rfl) (Nat.le_of_ble_eq_true rfl) ?_
  intro r3 μ2 hk
  refine px_istore (i := 4) C dX8_child_16 (by decide) rfl ?_
  refine px_iload (i := 4) C dX8_child_18 rfl ?_
  refine px_bipush (v := (40 : Int32)) C dX8_child_20 rfl ?_
  refine px_callSi (h := 0) (rc' := 1) (rs' := 6) C (HR_le hHR (Nat.le_of_ble_eq_true rfl)) hRt hnT dX8_child_22 (gw3 65 rfl rfl) ms_X8_isWithin (w8_isWithin_ok (PCx_l C) (PCx_I C) hk) rfl rfl (Nat.le_of_ble_eq_true rfl) (Nat.le_of_ble_eq_true rfl) (Nat.le_of_ble_eq_true rfl) (Nat.le_of_ble_eq_true rfl) ?_
  intro r5 μ4 hk
  refine px_if_ne (tgt := 38) C dX8_child_25 (by decide) (fun c7 => ?_) (fun c7 => ?_)
  · replace hk := hk.1 c7
    refine px_aload_n (i := 0) C dX8_child_38 rfl rfl ?_
    refine px_getr C dX8_child_39 fl_RX8_94 rfl rfl rfl ?_
    refine px_getr C dX8_child_42 fl_RX8_252 rfl rfl rfl ?_
    refine px_iload (i := 4) C dX8_child_45 rfl ?_
    obtain ⟨o6, hk⟩ := hk
    refine px_callSi (h := 0) (rc' := 0) (rs' := 0) C (HR_le hHR (Nat.le_of_ble_eq_true rfl)) hRt hnT dX8_child_47 (gw4 2 rfl rfl) ms_X8_at (at_ok (j := 2) (q := 0) (n := 40) (loc := 128) (PCx_l C) (PCx_I C) rfl rfl rfl o6) rfl rfl (Nat.le_of_ble_eq_true rfl) (Nat.le_of_ble_eq_true rfl) (Nat.le_of_ble_eq_true rfl) (Nat.le_of_ble_eq_true rfl) ?_
    rintro _ _ ⟨rfl, rfl⟩
    exact px_iret C hRt dX8_child_50 rfl rfl hk
  · replace hk := hk.2 c7
    exact px_throwN (h9 := 2) C (HR_le hHR (Nat.le_of_ble_eq_true rfl)) hRt hnT tk_NoSuchElementException ti_NoSuchElementException (List.mem_of_getElem? (i := 13) rfl) rfl dX8_child_28 dX8_child_31 dX8_child_32 dX8_child_34 dX8_child_37 rfl (Nat.le_of_ble_eq_true rfl) (Nat.le_of_ble_eq_true rfl) hk
theorem dX8_segments_0 : decode cX8_segments 0 = .ok (.aload_n 0, 1) := by decide +kernel
theorem dX8_segments_1 : decode cX8_segments 1 = .ok (.iload_n 1, 1) := by decide +kernel
theorem dX8_segments_2 : decode cX8_segments 2 = .ok (.iload_n 2, 1) := by decide +kernel
theorem dX8_segments_3 : decode cX8_segments 3 = .ok (.invokevirtual 235, 3) := by decide +kernel
theorem dX8_segments_6 : decode cX8_segments 6 = .ok (.aload_n 0, 1) := by decide +kernel
theorem dX8_segments_7 : decode cX8_segments 7 = .ok (.getfield 82, 3) := by decide +kernel
theorem dX8_segments_10 : decode cX8_segments 10 = .ok (.iload_n 1, 1) := by decide +kernel
theorem dX8_segments_11 : decode cX8_segments 11 = .ok (.iload_n 2, 1) := by decide +kernel
theorem dX8_segments_12 : decode cX8_segments 12 = .ok (.invokevirtual 281, 3) := by decide +kernel
theorem dX8_segments_15 : decode cX8_segments 15 = .ok (.aload_n 0, 1) := by decide +kernel
theorem dX8_segments_16 : decode cX8_segments 16 = .ok (.getfield 82, 3) := by decide +kernel
theorem dX8_segments_19 : decode cX8_segments 19 = .ok (.getfield 284, 3) := by decide +kernel
theorem dX8_segments_22 : decode cX8_segments 22 = .ok (.ireturn, 1) := by decide +kernel
set_option maxRecDepth 100000 in
set_option maxHeartbeats 4000000 in
theorem w8_segments_ok {l : Launch} {idx : List (Nat × Nat)} {μ : Mem} {a1 : Int32} {a2 : Int32} {P : Int32 → Mem → Prop} {X : String → Mem → Prop} (hl : l.stackTraces = false) (hI : IdxOK idx) (hk : w8_segments_wp μ a1 a2 P X) : PMet l yX8_segments (.code yX8_segments cX8_segments 3 (some .int)) 10 2 12 idx [pR 40 0, pI a1, pI a2] μ (qI P) X := by
  refine PMet_of mv_X8_segments.2.2.2.2.2.2 hl hI mv_X8_segments.2.2.2.1 rfl (Nat.le_of_ble_eq_true rfl) (fun G _ _ C hRt hHR hnT => ?_)
  show PW G 2 12 0 [some (pR 40 0), some (pI a1), some (pI a2)] [] μ
  unfold w8_segments_wp at hk
  refine px_aload_n (i := 0) C dX8_segments_0 rfl rfl ?_
  refine px_iload_n (i := 1) C dX8_segments_1 rfl rfl ?_
  refine px_iload_n (i := 2) C dX8_segments_2 rfl rfl ?_
  refine px_callVv (h := 9) (rc' := 0) (rs' := 0) C (HR_le hHR (Nat.le_of_ble_eq_true rfl)) hRt hnT dX8_segments_3 (gw4 132 rfl rfl) mv_X8_findNode (w8_findNode_ok (PCx_l C) (PCx_I C) hk) rfl rfl rfl rfl rfl (Nat.le_of_ble_eq_true rfl) (Nat.le_of_ble_eq_true rfl) (Nat.le_of_ble_eq_true rfl) (Nat.le_of_ble_eq_true rfl) ?_
  intro μ1 hk
  refine px_aload_n (i := 0) C dX8_segments_6 rfl rfl ?_
  refine px_getr C dX8_segments_7 fl_RX8_82 rfl rfl rfl ?_
  refine px_iload_n (i := 1) C dX8_segments_10 rfl rfl ?_
  refine px_iload_n (i := 2) C dX8_segments_11 rfl rfl ?_
  refine px_callVv (h := 4) (rc' := 0) (rs' := 0) C (HR_le hHR (Nat.le_of_ble_eq_true rfl)) hRt hnT dX8_segments_12 (gw5 3 rfl rfl) mv_X5_follow (w5_follow_ok (PCx_l C) (PCx_I C) hk) rfl rfl rfl rfl rfl (Nat.le_of_ble_eq_true rfl) (Nat.le_of_ble_eq_true rfl) (Nat.le_of_ble_eq_true rfl) (Nat.le_of_ble_eq_true rfl) ?_
  intro μ2 hk
  refine px_aload_n (i := 0) C dX8_segments_15 rfl rfl ?_
  refine px_getr C dX8_segments_16 fl_RX8_82 rfl rfl rfl ?_
  refine px_geti 1729 C dX8_segments_19 fl_RX8_284 rfl rfl rfl rfl ?_
  exact px_iret C hRt dX8_segments_22 rfl rfl hk
theorem dX8_segment_0 : decode cX8_segment 0 = .ok (.aload_n 0, 1) := by decide +kernel
theorem dX8_segment_1 : decode cX8_segment 1 = .ok (.iload_n 1, 1) := by decide +kernel
theorem dX8_segment_2 : decode cX8_segment 2 = .ok (.invokevirtual 255, 3) := by decide +kernel
theorem dX8_segment_5 : decode cX8_segment 5 = .ok (.iload 4, 2) := by decide +kernel
theorem dX8_segment_7 : decode cX8_segment 7 = .ok (.iconst 3, 1) := by decide +kernel
theorem dX8_segment_8 : decode cX8_segment 8 = .ok (.invokestatic 106, 3) := by decide +kernel
theorem dX8_segment_11 : decode cX8_segment 11 = .ok (.ifCond .ne 14, 3) := by decide +kernel
theorem dX8_segment_14 : decode cX8_segment 14 = .ok (.new 110, 3) := by decide +kernel
theorem dX8_segment_17 : decode cX8_segment 17 = .ok (.dup, 1) := by decide +kernel
theorem dX8_segment_18 : decode cX8_segment 18 = .ok (.ldc_w 287, 3) := by decide +kernel
theorem dX8_segment_21 : decode cX8_segment 21 = .ok (.invokespecial 114, 3) := by decide +kernel
theorem dX8_segment_24 : decode cX8_segment 24 = .ok (.athrow, 1) := by decide +kernel
theorem dX8_segment_25 : decode cX8_segment 25 = .ok (.aload_n 0, 1) := by decide +kernel
theorem dX8_segment_26 : decode cX8_segment 26 = .ok (.iload_n 1, 1) := by decide +kernel
theorem dX8_segment_27 : decode cX8_segment 27 = .ok (.iload_n 2, 1) := by decide +kernel
theorem dX8_segment_28 : decode cX8_segment 28 = .ok (.invokevirtual 235, 3) := by decide +kernel
theorem dX8_segment_31 : decode cX8_segment 31 = .ok (.aload_n 0, 1) := by decide +kernel
theorem dX8_segment_32 : decode cX8_segment 32 = .ok (.getfield 82, 3) := by decide +kernel
theorem dX8_segment_35 : decode cX8_segment 35 = .ok (.iload_n 1, 1) := by decide +kernel
theorem dX8_segment_36 : decode cX8_segment 36 = .ok (.iload_n 2, 1) := by decide +kernel
theorem dX8_segment_37 : decode cX8_segment 37 = .ok (.invokevirtual 281, 3) := by decide +kernel
theorem dX8_segment_40 : decode cX8_segment 40 = .ok (.iload_n 3, 1) := by decide +kernel
theorem dX8_segment_41 : decode cX8_segment 41 = .ok (.aload_n 0, 1) := by decide +kernel
theorem dX8_segment_42 : decode cX8_segment 42 = .ok (.getfield 82, 3) := by decide +kernel
theorem dX8_segment_45 : decode cX8_segment 45 = .ok (.getfield 284, 3) := by decide +kernel
theorem dX8_segment_48 : decode cX8_segment 48 = .ok (.invokestatic 106, 3) := by decide +kernel
theorem dX8_segment_51 : decode cX8_segment 51 = .ok (.ifCond .ne 14, 3) := by decide +kernel
theorem dX8_segment_54 : decode cX8_segment 54 = .ok (.new 206, 3) := by decide +kernel
theorem dX8_segment_57 : decode cX8_segment 57 = .ok (.dup, 1) := by decide +kernel
theorem dX8_segment_58 : decode cX8_segment 58 = .ok (.ldc_w 289, 3) := by decide +kernel
theorem dX8_segment_61 : decode cX8_segment 61 = .ok (.invokespecial 210, 3) := by decide +kernel
theorem dX8_segment_64 : decode cX8_segment 64 = .ok (.athrow, 1) := by decide +kernel
theorem dX8_segment_65 : decode cX8_segment 65 = .ok (.aload_n 0, 1) := by decide +kernel
theorem dX8_segment_66 : decode cX8_segment 66 = .ok (.getfield 82, 3) := by decide +kernel
theorem dX8_segment_69 : decode cX8_segment 69 = .ok (.iload_n 3, 1) := by decide +kernel
theorem dX8_segment_70 : decode cX8_segment 70 = .ok (.invokevirtual 291, 3) := by decide +kernel
theorem dX8_segment_73 : decode cX8_segment 73 = .ok (.istore 5, 2) := by decide +kernel
theorem dX8_segment_75 : decode cX8_segment 75 = .ok (.iload 4, 2) := by decide +kernel
theorem dX8_segment_77 : decode cX8_segment 77 = .ok (.ifCond .ne 18, 3) := by decide +kernel
theorem dX8_segment_80 : decode cX8_segment 80 = .ok (.aload_n 0, 1) := by decide +kernel
theorem dX8_segment_81 : decode cX8_segment 81 = .ok (.getfield 82, 3) := by decide +kernel
theorem dX8_segment_84 : decode cX8_segment 84 = .ok (.getfield 294, 3) := by decide +kernel
theorem dX8_segment_87 : decode cX8_segment 87 = .ok (.iload 5, 2) := by decide +kernel
theorem dX8_segment_89 : decode cX8_segment 89 = .ok (.invokestatic 155, 3) := by decide +kernel
theorem dX8_segment_92 : decode cX8_segment 92 = .ok (.goto 36, 3) := by decide +kernel
theorem dX8_segment_95 : decode cX8_segment 95 = .ok (.iload 4, 2) := by decide +kernel
theorem dX8_segment_97 : decode cX8_segment 97 = .ok (.iconst 1, 1) := by decide +kernel
theorem dX8_segment_98 : decode cX8_segment 98 = .ok (.if_icmp .ne 18, 3) := by decide +kernel
theorem dX8_segment_101 : decode cX8_segment 101 = .ok (.aload_n 0, 1) := by decide +kernel
theorem dX8_segment_102 : decode cX8_segment 102 = .ok (.getfield 82, 3) := by decide +kernel
theorem dX8_segment_105 : decode cX8_segment 105 = .ok (.getfield 297, 3) := by decide +kernel
theorem dX8_segment_108 : decode cX8_segment 108 = .ok (.iload 5, 2) := by decide +kernel
theorem dX8_segment_110 : decode cX8_segment 110 = .ok (.invokestatic 155, 3) := by decide +kernel
theorem dX8_segment_113 : decode cX8_segment 113 = .ok (.goto 15, 3) := by decide +kernel
theorem dX8_segment_116 : decode cX8_segment 116 = .ok (.aload_n 0, 1) := by decide +kernel
theorem dX8_segment_117 : decode cX8_segment 117 = .ok (.getfield 82, 3) := by decide +kernel
theorem dX8_segment_120 : decode cX8_segment 120 = .ok (.getfield 298, 3) := by decide +kernel
theorem dX8_segment_123 : decode cX8_segment 123 = .ok (.iload 5, 2) := by decide +kernel
theorem dX8_segment_125 : decode cX8_segment 125 = .ok (.invokestatic 155, 3) := by decide +kernel
theorem dX8_segment_128 : decode cX8_segment 128 = .ok (.ireturn, 1) := by decide +kernel
set_option maxRecDepth 100000 in
set_option maxHeartbeats 4000000 in
theorem w8_segment_ok {l : Launch} {idx : List (Nat × Nat)} {μ : Mem} {a1 : Int32} {a2 : Int32} {a3 : Int32} {a4 : Int32} {P : Int32 → Mem → Prop} {X : String → Mem → Prop} (hl : l.stackTraces = false) (hI : IdxOK idx) (hk : w8_segment_wp μ a1 a2 a3 a4 P X) : PMet l yX8_segment (.code yX8_segment cX8_segment 6 (some .int)) 10 4 24 idx [pR 40 0, pI a1, pI a2, pI a3, pI a4] μ (qI P) X := by
  refine PMet_of mv_X8_segment.2.2.2.2.2.2 hl hI mv_X8_segment.2.2.2.1 rfl (Nat.le_of_ble_eq_true rfl) (fun G _ _ C hRt hHR hnT => ?_)
  show PW G 4 24 0 [some (pR 40 0), some (pI a1), some (pI a2), some (pI a3), some (pI a4), none] [] μ
  unfold w8_segment_wp at hk
  refine px_aload_n (i := 0) C dX8_segment_0 rfl rfl ?_
  refine px_iload_n (i := 1) C dX8_segment_1 rfl rfl ?_
  refine px_callVv (h := 8) (rc' := 3) (rs' := 18) C (HR_le hHR (Nat.le_of_ble_eq_true rfl)) hRt hnT dX8_segment_2 (gw4 136 rfl rfl) mv_X8_checkTrace (w8_checkTrace_ok (PCx_l C) (PCx_I C) hk) rfl rfl rfl rfl rfl (Nat.le_of_ble_eq_true rfl) (Nat.le_of_ble_eq_true rfl) (Nat.le_of_ble_eq_true rfl) (Nat.le_of_ble_eq_true rfl) ?_
  intro μ1 hk
  refine px_iload (i := 4) C dX8_segment_5 rfl ?_
  refine px_iconst (v := (3 : Int32)) C dX8_segment_7 rfl ?_
  refine px_callSi (h := 0) (rc' := 3) (rs' := 18) C (HR_le hHR (Nat.le_of_ble_eq_true rfl)) hRt hnT dX8_segment_8 (gw3 65 rfl rfl) ms_X8_isWithin (w8_isWithin_ok (PCx_l C) (PCx_I C) hk) rfl rfl (Nat.le_of_ble_eq_true rfl) (Nat.le_of_ble_eq_true rfl) (Nat.le_of_ble_eq_true rfl) (Nat.le_of_ble_eq_true rfl) ?_
  intro r3 μ2 hk
  refine px_if_ne (tgt := 25) C dX8_segment_11 (by decide) (fun c16 => ?_) (fun c16 => ?_)
  · replace hk := hk.1 c16
    refine px_aload_n (i := 0) C dX8_segment_25 rfl rfl ?_
    refine px_iload_n (i := 1) C dX8_segment_26 rfl rfl ?_
    refine px_iload_n (i := 2) C dX8_segment_27 rfl rfl ?_
    refine px_callVv (h := 9) (rc' := 1) (rs' := 6) C (HR_le hHR (Nat.le_of_ble_eq_true rfl)) hRt hnT dX8_segment_28 (gw4 132 rfl rfl) mv_X8_findNode (w8_findNode_ok (PCx_l C) (PCx_I C) hk) rfl rfl rfl rfl rfl (Nat.le_of_ble_eq_true rfl) (Nat.le_of_ble_eq_true rfl) (Nat.le_of_ble_eq_true rfl) (Nat.le_of_ble_eq_true rfl) ?_
    intro μ4 hk
    refine px_aload_n (i := 0) C dX8_segment_31 rfl rfl ?_
    refine px_getr C dX8_segment_32 fl_RX8_82 rfl rfl rfl ?_
    refine px_iload_n (i := 1) C dX8_segment_35 rfl rfl ?_
    refine px_iload_n (i := 2) C dX8_segment_36 rfl rfl ?_
    refine px_callVv (h := 4) (rc' := 1) (rs' := 6) C (HR_le hHR (Nat.le_of_ble_eq_true rfl)) hRt hnT dX8_segment_37 (gw5 3 rfl rfl) mv_X5_follow (w5_follow_ok (PCx_l C) (PCx_I C) hk) rfl rfl rfl rfl rfl (Nat.le_of_ble_eq_true rfl) (Nat.le_of_ble_eq_true rfl) (Nat.le_of_ble_eq_true rfl) (Nat.le_of_ble_eq_true rfl) ?_
    intro μ5 hk
    refine px_iload_n (i := 3) C dX8_segment_40 rfl rfl ?_
    refine px_aload_n (i := 0) C dX8_segment_41 rfl rfl ?_
    refine px_getr C dX8_segment_42 fl_RX8_82 rfl rfl rfl ?_
    refine px_geti 1729 C dX8_segment_45 fl_RX8_284 rfl rfl rfl rfl ?_
    refine px_callSi (h := 0) (rc' := 1) (rs' := 6) C (HR_le hHR (Nat.le_of_ble_eq_true rfl)) hRt hnT dX8_segment_48 (gw3 65 rfl rfl) ms_X8_isWithin (w8_isWithin_ok (PCx_l C) (PCx_I C) hk) rfl rfl (Nat.le_of_ble_eq_true rfl) (Nat.le_of_ble_eq_true rfl) (Nat.le_of_ble_eq_true rfl) (Nat.le_of_ble_eq_true rfl) ?_
    intro r7 μ6 hk
    refine px_if_ne (tgt := 65) C dX8_segment_51 (by decide) (fun c15 => ?_) (fun c15 => ?_)
    · replace hk := hk.1 c15
      refine px_aload_n (i := 0) C dX8_segment_65 rfl rfl ?_
      refine px_getr C dX8_segment_66 fl_RX8_82 rfl rfl rfl ?_
      refine px_iload_n (i := 3) C dX8_segment_69 rfl rfl ?_
      refine px_callVi (h := 0) (rc' := 0) (rs' := 0) C (HR_le hHR (Nat.le_of_ble_eq_true rfl)) hRt hnT dX8_segment_70 (gw5 40 rfl rfl) mv_X5_rowOf (w5_rowOf_ok (PCx_l C) (PCx_I C) hk) rfl rfl rfl rfl rfl (Nat.le_of_ble_eq_true rfl) (Nat.le_of_ble_eq_true rfl) (Nat.le_of_ble_eq_true rfl) (Nat.le_of_ble_eq_true rfl) ?_
      intro r9 μ8 hk
      refine px_istore (i := 5) C dX8_segment_73 (by decide) rfl ?_
      refine px_iload (i := 4) C dX8_segment_75 rfl ?_
      refine px_if_ne (tgt := 95) C dX8_segment_77 (by decide) (fun c14 => ?_) (fun c14 => ?_)
      · replace hk := hk.1 c14
        refine px_iload (i := 4) C dX8_segment_95 rfl ?_
        refine px_iconst (v := (1 : Int32)) C dX8_segment_97 rfl ?_
        refine px_icmp_ne (tgt := 116) C dX8_segment_98 (by decide) (fun c12 => ?_) (fun c12 => ?_)
        · replace hk := hk.1 c12
          refine px_aload_n (i := 0) C dX8_segment_116 rfl rfl ?_
          refine px_getr C dX8_segment_117 fl_RX8_82 rfl rfl rfl ?_
          refine px_getr C dX8_segment_120 fl_RX8_298 rfl rfl rfl ?_
          refine px_iload (i := 5) C dX8_segment_123 rfl ?_
          obtain ⟨o10, hk⟩ := hk
          refine px_callSi (h := 0) (rc' := 0) (rs' := 0) C (HR_le hHR (Nat.le_of_ble_eq_true rfl)) hRt hnT dX8_segment_125 (gw4 2 rfl rfl) ms_X8_at (at_ok (j := 30) (q := 0) (n := 82) (loc := 1920) (PCx_l C) (PCx_I C) rfl rfl rfl o10) rfl rfl (Nat.le_of_ble_eq_true rfl) (Nat.le_of_ble_eq_true rfl) (Nat.le_of_ble_eq_true rfl) (Nat.le_of_ble_eq_true rfl) ?_
          rintro _ _ ⟨rfl, rfl⟩
          exact px_iret C hRt dX8_segment_128 rfl rfl hk
        · replace hk := hk.2 c12
          refine px_aload_n (i := 0) C dX8_segment_101 rfl rfl ?_
          refine px_getr C dX8_segment_102 fl_RX8_82 rfl rfl rfl ?_
          refine px_getr C dX8_segment_105 fl_RX8_297 rfl rfl rfl ?_
          refine px_iload (i := 5) C dX8_segment_108 rfl ?_
          obtain ⟨o11, hk⟩ := hk
          refine px_callSi (h := 0) (rc' := 0) (rs' := 0) C (HR_le hHR (Nat.le_of_ble_eq_true rfl)) hRt hnT dX8_segment_110 (gw4 2 rfl rfl) ms_X8_at (at_ok (j := 29) (q := 0) (n := 82) (loc := 1856) (PCx_l C) (PCx_I C) rfl rfl rfl o11) rfl rfl (Nat.le_of_ble_eq_true rfl) (Nat.le_of_ble_eq_true rfl) (Nat.le_of_ble_eq_true rfl) (Nat.le_of_ble_eq_true rfl) ?_
          rintro _ _ ⟨rfl, rfl⟩
          refine px_goto (tgt := 128) C dX8_segment_113 (by decide) ?_
          exact px_iret C hRt dX8_segment_128 rfl rfl hk
      · replace hk := hk.2 c14
        refine px_aload_n (i := 0) C dX8_segment_80 rfl rfl ?_
        refine px_getr C dX8_segment_81 fl_RX8_82 rfl rfl rfl ?_
        refine px_getr C dX8_segment_84 fl_RX8_294 rfl rfl rfl ?_
        refine px_iload (i := 5) C dX8_segment_87 rfl ?_
        obtain ⟨o13, hk⟩ := hk
        refine px_callSi (h := 0) (rc' := 0) (rs' := 0) C (HR_le hHR (Nat.le_of_ble_eq_true rfl)) hRt hnT dX8_segment_89 (gw4 2 rfl rfl) ms_X8_at (at_ok (j := 28) (q := 0) (n := 82) (loc := 1792) (PCx_l C) (PCx_I C) rfl rfl rfl o13) rfl rfl (Nat.le_of_ble_eq_true rfl) (Nat.le_of_ble_eq_true rfl) (Nat.le_of_ble_eq_true rfl) (Nat.le_of_ble_eq_true rfl) ?_
        rintro _ _ ⟨rfl, rfl⟩
        refine px_goto (tgt := 128) C dX8_segment_92 (by decide) ?_
        exact px_iret C hRt dX8_segment_128 rfl rfl hk
    · replace hk := hk.2 c15
      exact px_throwwN (h9 := 2) C (HR_le hHR (Nat.le_of_ble_eq_true rfl)) hRt hnT tk_NoSuchElementException ti_NoSuchElementException (List.mem_of_getElem? (i := 17) rfl) rfl dX8_segment_54 dX8_segment_57 dX8_segment_58 dX8_segment_61 dX8_segment_64 rfl (Nat.le_of_ble_eq_true rfl) (Nat.le_of_ble_eq_true rfl) hk
  · replace hk := hk.2 c16
    exact px_throww (h9 := 2) C (HR_le hHR (Nat.le_of_ble_eq_true rfl)) hRt hnT tk_IllegalArgumentException ti_IllegalArgumentException tw_IllegalArgumentException (by decide +kernel) (List.mem_of_getElem? (i := 16) rfl) dX8_segment_14 dX8_segment_17 dX8_segment_18 dX8_segment_21 dX8_segment_24 rfl (Nat.le_of_ble_eq_true rfl) (Nat.le_of_ble_eq_true rfl) hk
theorem dX8_criticalAt_0 : decode cX8_criticalAt 0 = .ok (.aload_n 0, 1) := by decide +kernel
theorem dX8_criticalAt_1 : decode cX8_criticalAt 1 = .ok (.iload_n 1, 1) := by decide +kernel
theorem dX8_criticalAt_2 : decode cX8_criticalAt 2 = .ok (.iload_n 2, 1) := by decide +kernel
theorem dX8_criticalAt_3 : decode cX8_criticalAt 3 = .ok (.invokevirtual 235, 3) := by decide +kernel
theorem dX8_criticalAt_6 : decode cX8_criticalAt 6 = .ok (.aload_n 0, 1) := by decide +kernel
theorem dX8_criticalAt_7 : decode cX8_criticalAt 7 = .ok (.getfield 82, 3) := by decide +kernel
theorem dX8_criticalAt_10 : decode cX8_criticalAt 10 = .ok (.iload_n 1, 1) := by decide +kernel
theorem dX8_criticalAt_11 : decode cX8_criticalAt 11 = .ok (.iload_n 2, 1) := by decide +kernel
theorem dX8_criticalAt_12 : decode cX8_criticalAt 12 = .ok (.invokevirtual 281, 3) := by decide +kernel
theorem dX8_criticalAt_15 : decode cX8_criticalAt 15 = .ok (.aload_n 0, 1) := by decide +kernel
theorem dX8_criticalAt_16 : decode cX8_criticalAt 16 = .ok (.getfield 82, 3) := by decide +kernel
theorem dX8_criticalAt_19 : decode cX8_criticalAt 19 = .ok (.iload_n 3, 1) := by decide +kernel
theorem dX8_criticalAt_20 : decode cX8_criticalAt 20 = .ok (.invokevirtual 302, 3) := by decide +kernel
theorem dX8_criticalAt_23 : decode cX8_criticalAt 23 = .ok (.istore 4, 2) := by decide +kernel
theorem dX8_criticalAt_25 : decode cX8_criticalAt 25 = .ok (.iload 4, 2) := by decide +kernel
theorem dX8_criticalAt_27 : decode cX8_criticalAt 27 = .ok (.iconst (-1), 1) := by decide +kernel
theorem dX8_criticalAt_28 : decode cX8_criticalAt 28 = .ok (.if_icmp .ne 14, 3) := by decide +kernel
theorem dX8_criticalAt_31 : decode cX8_criticalAt 31 = .ok (.new 206, 3) := by decide +kernel
theorem dX8_criticalAt_34 : decode cX8_criticalAt 34 = .ok (.dup, 1) := by decide +kernel
theorem dX8_criticalAt_35 : decode cX8_criticalAt 35 = .ok (.ldc_w 305, 3) := by decide +kernel
theorem dX8_criticalAt_38 : decode cX8_criticalAt 38 = .ok (.invokespecial 210, 3) := by decide +kernel
theorem dX8_criticalAt_41 : decode cX8_criticalAt 41 = .ok (.athrow, 1) := by decide +kernel
theorem dX8_criticalAt_42 : decode cX8_criticalAt 42 = .ok (.iload 4, 2) := by decide +kernel
theorem dX8_criticalAt_44 : decode cX8_criticalAt 44 = .ok (.ireturn, 1) := by decide +kernel
set_option maxRecDepth 100000 in
set_option maxHeartbeats 4000000 in
theorem w8_criticalAt_ok {l : Launch} {idx : List (Nat × Nat)} {μ : Mem} {a1 : Int32} {a2 : Int32} {a3 : Int32} {P : Int32 → Mem → Prop} {X : String → Mem → Prop} (hl : l.stackTraces = false) (hI : IdxOK idx) (hk : w8_criticalAt_wp μ a1 a2 a3 P X) : PMet l yX8_criticalAt (.code yX8_criticalAt cX8_criticalAt 5 (some .int)) 10 3 18 idx [pR 40 0, pI a1, pI a2, pI a3] μ (qI P) X := by
  refine PMet_of mv_X8_criticalAt.2.2.2.2.2.2 hl hI mv_X8_criticalAt.2.2.2.1 rfl (Nat.le_of_ble_eq_true rfl) (fun G _ _ C hRt hHR hnT => ?_)
  show PW G 3 18 0 [some (pR 40 0), some (pI a1), some (pI a2), some (pI a3), none] [] μ
  unfold w8_criticalAt_wp at hk
  refine px_aload_n (i := 0) C dX8_criticalAt_0 rfl rfl ?_
  refine px_iload_n (i := 1) C dX8_criticalAt_1 rfl rfl ?_
  refine px_iload_n (i := 2) C dX8_criticalAt_2 rfl rfl ?_
  refine px_callVv (h := 9) (rc' := 1) (rs' := 6) C (HR_le hHR (Nat.le_of_ble_eq_true rfl)) hRt hnT dX8_criticalAt_3 (gw4 132 rfl rfl) mv_X8_findNode (w8_findNode_ok (PCx_l C) (PCx_I C) hk) rfl rfl rfl rfl rfl (Nat.le_of_ble_eq_true rfl) (Nat.le_of_ble_eq_true rfl) (Nat.le_of_ble_eq_true rfl) (Nat.le_of_ble_eq_true rfl) ?_
  intro μ1 hk
  refine px_aload_n (i := 0) C dX8_criticalAt_6 rfl rfl ?_
  refine px_getr C dX8_criticalAt_7 fl_RX8_82 rfl rfl rfl ?_
  refine px_iload_n (i := 1) C dX8_criticalAt_10 rfl rfl ?_
  refine px_iload_n (i := 2) C dX8_criticalAt_11 rfl rfl ?_
  refine px_callVv (h := 4) (rc' := 1) (rs' := 6) C (HR_le hHR (Nat.le_of_ble_eq_true rfl)) hRt hnT dX8_criticalAt_12 (gw5 3 rfl rfl) mv_X5_follow (w5_follow_ok (PCx_l C) (PCx_I C) hk) rfl rfl rfl rfl rfl (Nat.le_of_ble_eq_true rfl) (Nat.le_of_ble_eq_true rfl) (Nat.le_of_ble_eq_true rfl) (Nat.le_of_ble_eq_true rfl) ?_
  intro μ2 hk
  refine px_aload_n (i := 0) C dX8_criticalAt_15 rfl rfl ?_
  refine px_getr C dX8_criticalAt_16 fl_RX8_82 rfl rfl rfl ?_
  refine px_iload_n (i := 3) C dX8_criticalAt_19 rfl rfl ?_
  refine px_callVi (h := 1) (rc' := 1) (rs' := 6) C (HR_le hHR (Nat.le_of_ble_eq_true rfl)) hRt hnT dX8_criticalAt_20 (gw5 62 rfl rfl) mv_X5_nodeAt (w5_nodeAt_ok (PCx_l C) (PCx_I C) hk) rfl rfl rfl rfl rfl (Nat.le_of_ble_eq_true rfl) (Nat.le_of_ble_eq_true rfl) (Nat.le_of_ble_eq_true rfl) (Nat.le_of_ble_eq_true rfl) ?_
  intro r4 μ3 hk
  refine px_istore (i := 4) C dX8_criticalAt_23 (by decide) rfl ?_
  refine px_iload (i := 4) C dX8_criticalAt_25 rfl ?_
  refine px_iconst (v := (-1 : Int32)) C dX8_criticalAt_27 rfl ?_
  refine px_icmp_ne (tgt := 42) C dX8_criticalAt_28 (by decide) (fun c5 => ?_) (fun c5 => ?_)
  · replace hk := hk.1 c5
    refine px_iload (i := 4) C dX8_criticalAt_42 rfl ?_
    exact px_iret C hRt dX8_criticalAt_44 rfl rfl hk
  · replace hk := hk.2 c5
    exact px_throwwN (h9 := 2) C (HR_le hHR (Nat.le_of_ble_eq_true rfl)) hRt hnT tk_NoSuchElementException ti_NoSuchElementException (List.mem_of_getElem? (i := 18) rfl) rfl dX8_criticalAt_31 dX8_criticalAt_34 dX8_criticalAt_35 dX8_criticalAt_38 dX8_criticalAt_41 rfl (Nat.le_of_ble_eq_true rfl) (Nat.le_of_ble_eq_true rfl) hk
theorem dX8_bookmark_0 : decode cX8_bookmark 0 = .ok (.aload_n 0, 1) := by decide +kernel
theorem dX8_bookmark_1 : decode cX8_bookmark 1 = .ok (.iload_n 1, 1) := by decide +kernel
theorem dX8_bookmark_2 : decode cX8_bookmark 2 = .ok (.iload_n 2, 1) := by decide +kernel
theorem dX8_bookmark_3 : decode cX8_bookmark 3 = .ok (.invokevirtual 393, 3) := by decide +kernel
theorem dX8_bookmark_6 : decode cX8_bookmark 6 = .ok (.aload_n 0, 1) := by decide +kernel
theorem dX8_bookmark_7 : decode cX8_bookmark 7 = .ok (.iload_n 3, 1) := by decide +kernel
theorem dX8_bookmark_8 : decode cX8_bookmark 8 = .ok (.iload 4, 2) := by decide +kernel
theorem dX8_bookmark_10 : decode cX8_bookmark 10 = .ok (.invokevirtual 235, 3) := by decide +kernel
theorem dX8_bookmark_13 : decode cX8_bookmark 13 = .ok (.iload_n 1, 1) := by decide +kernel
theorem dX8_bookmark_14 : decode cX8_bookmark 14 = .ok (.ifCond .ne 22, 3) := by decide +kernel
theorem dX8_bookmark_17 : decode cX8_bookmark 17 = .ok (.iload 4, 2) := by decide +kernel
theorem dX8_bookmark_19 : decode cX8_bookmark 19 = .ok (.sipush 1000, 3) := by decide +kernel
theorem dX8_bookmark_22 : decode cX8_bookmark 22 = .ok (.if_icmp .lt 14, 3) := by decide +kernel
theorem dX8_bookmark_25 : decode cX8_bookmark 25 = .ok (.new 396, 3) := by decide +kernel
theorem dX8_bookmark_28 : decode cX8_bookmark 28 = .ok (.dup, 1) := by decide +kernel
theorem dX8_bookmark_29 : decode cX8_bookmark 29 = .ok (.ldc_w 398, 3) := by decide +kernel
theorem dX8_bookmark_32 : decode cX8_bookmark 32 = .ok (.invokespecial 400, 3) := by decide +kernel
theorem dX8_bookmark_35 : decode cX8_bookmark 35 = .ok (.athrow, 1) := by decide +kernel
theorem dX8_bookmark_36 : decode cX8_bookmark 36 = .ok (.aload_n 0, 1) := by decide +kernel
theorem dX8_bookmark_37 : decode cX8_bookmark 37 = .ok (.getfield 29, 3) := by decide +kernel
theorem dX8_bookmark_40 : decode cX8_bookmark 40 = .ok (.iload_n 1, 1) := by decide +kernel
theorem dX8_bookmark_41 : decode cX8_bookmark 41 = .ok (.iload_n 2, 1) := by decide +kernel
theorem dX8_bookmark_42 : decode cX8_bookmark 42 = .ok (.iload_n 3, 1) := by decide +kernel
theorem dX8_bookmark_43 : decode cX8_bookmark 43 = .ok (.iload 4, 2) := by decide +kernel
theorem dX8_bookmark_45 : decode cX8_bookmark 45 = .ok (.invokevirtual 401, 3) := by decide +kernel
theorem dX8_bookmark_48 : decode cX8_bookmark 48 = .ok (.aload_n 0, 1) := by decide +kernel
theorem dX8_bookmark_49 : decode cX8_bookmark 49 = .ok (.getfield 29, 3) := by decide +kernel
theorem dX8_bookmark_52 : decode cX8_bookmark 52 = .ok (.iload_n 1, 1) := by decide +kernel
theorem dX8_bookmark_53 : decode cX8_bookmark 53 = .ok (.invokevirtual 405, 3) := by decide +kernel
theorem dX8_bookmark_56 : decode cX8_bookmark 56 = .ok (.ireturn, 1) := by decide +kernel
set_option maxRecDepth 100000 in
set_option maxHeartbeats 4000000 in
theorem w8_bookmark_b36_ok {G : GT} {P : Int32 → Mem → Prop} {X : String → Mem → Prop} (C : PCx G cX8_bookmark 5 RX8) (hRt : PRt G (some .int) (qI P) X) (hHR : HR G (10)) (hnT : NoT G) {μ : Mem} {l1 : Int32} {l2 : Int32} {l3 : Int32} {l4 : Int32} (hk : w8_bookmark_b36 P X μ l1 l2 l3 l4) : PW G 0 0 36 [some (pR 40 0), some (pI l1), some (pI l2), some (pI l3), some (pI l4)] [] μ := by
  unfold w8_bookmark_b36 at hk
  refine px_aload_n (i := 0) C dX8_bookmark_36 rfl rfl ?_
  refine px_getr C dX8_bookmark_37 fl_RX8_29 rfl rfl rfl ?_
  refine px_iload_n (i := 1) C dX8_bookmark_40 rfl rfl ?_
  refine px_iload_n (i := 2) C dX8_bookmark_41 rfl rfl ?_
  refine px_iload_n (i := 3) C dX8_bookmark_42 rfl rfl ?_
  refine px_iload (i := 4) C dX8_bookmark_43 rfl ?_
  refine px_callVv (h := 1) (rc' := 0) (rs' := 0) C (HR_le hHR (Nat.le_of_ble_eq_true rfl)) hRt hnT dX8_bookmark_45 (gw6 87 rfl rfl) mv_X6_put (w6_put_ok (PCx_l C) (PCx_I C) hk) rfl rfl rfl rfl rfl (Nat.le_of_ble_eq_true rfl) (Nat.le_of_ble_eq_true rfl) (Nat.le_of_ble_eq_true rfl) (Nat.le_of_ble_eq_true rfl) ?_
  intro μ3 hk
  refine px_aload_n (i := 0) C dX8_bookmark_48 rfl rfl ?_
  refine px_getr C dX8_bookmark_49 fl_RX8_29 rfl rfl rfl ?_
  refine px_iload_n (i := 1) C dX8_bookmark_52 rfl rfl ?_
  refine px_callVi (h := 2) (rc' := 0) (rs' := 0) C (HR_le hHR (Nat.le_of_ble_eq_true rfl)) hRt hnT dX8_bookmark_53 (gw6 92 rfl rfl) mv_X6_filled (w6_filled_ok (PCx_l C) (PCx_I C) hk) rfl rfl rfl rfl rfl (Nat.le_of_ble_eq_true rfl) (Nat.le_of_ble_eq_true rfl) (Nat.le_of_ble_eq_true rfl) (Nat.le_of_ble_eq_true rfl) ?_
  intro r5 μ4 hk
  exact px_iret C hRt dX8_bookmark_56 rfl rfl hk
set_option maxRecDepth 100000 in
set_option maxHeartbeats 4000000 in
theorem w8_bookmark_ok {l : Launch} {idx : List (Nat × Nat)} {μ : Mem} {a1 : Int32} {a2 : Int32} {a3 : Int32} {a4 : Int32} {P : Int32 → Mem → Prop} {X : String → Mem → Prop} (hl : l.stackTraces = false) (hI : IdxOK idx) (hk : w8_bookmark_wp μ a1 a2 a3 a4 P X) : PMet l yX8_bookmark (.code yX8_bookmark cX8_bookmark 5 (some .int)) 10 4 24 idx [pR 40 0, pI a1, pI a2, pI a3, pI a4] μ (qI P) X := by
  refine PMet_of mv_X8_bookmark.2.2.2.2.2.2 hl hI mv_X8_bookmark.2.2.2.1 rfl (Nat.le_of_ble_eq_true rfl) (fun G _ _ C hRt hHR hnT => ?_)
  show PW G 4 24 0 [some (pR 40 0), some (pI a1), some (pI a2), some (pI a3), some (pI a4)] [] μ
  unfold w8_bookmark_wp at hk
  refine px_aload_n (i := 0) C dX8_bookmark_0 rfl rfl ?_
  refine px_iload_n (i := 1) C dX8_bookmark_1 rfl rfl ?_
  refine px_iload_n (i := 2) C dX8_bookmark_2 rfl rfl ?_
  refine px_callVv (h := 8) (rc' := 3) (rs' := 18) C (HR_le hHR (Nat.le_of_ble_eq_true rfl)) hRt hnT dX8_bookmark_3 (gw6 66 rfl rfl) mv_X8_checkShelfPlace (w8_checkShelfPlace_ok (PCx_l C) (PCx_I C) hk) rfl rfl rfl rfl rfl (Nat.le_of_ble_eq_true rfl) (Nat.le_of_ble_eq_true rfl) (Nat.le_of_ble_eq_true rfl) (Nat.le_of_ble_eq_true rfl) ?_
  intro μ1 hk
  refine px_aload_n (i := 0) C dX8_bookmark_6 rfl rfl ?_
  refine px_iload_n (i := 3) C dX8_bookmark_7 rfl rfl ?_
  refine px_iload (i := 4) C dX8_bookmark_8 rfl ?_
  refine px_callVv (h := 9) (rc' := 1) (rs' := 6) C (HR_le hHR (Nat.le_of_ble_eq_true rfl)) hRt hnT dX8_bookmark_10 (gw4 132 rfl rfl) mv_X8_findNode (w8_findNode_ok (PCx_l C) (PCx_I C) hk) rfl rfl rfl rfl rfl (Nat.le_of_ble_eq_true rfl) (Nat.le_of_ble_eq_true rfl) (Nat.le_of_ble_eq_true rfl) (Nat.le_of_ble_eq_true rfl) ?_
  intro μ2 hk
  refine px_iload_n (i := 1) C dX8_bookmark_13 rfl rfl ?_
  refine px_if_ne (tgt := 36) C dX8_bookmark_14 (by decide) (fun c7 => ?_) (fun c7 => ?_)
  · replace hk := hk.1 c7
    exact PW_at (w8_bookmark_b36_ok C hRt hHR hnT hk) (And.intro rfl (And.intro rfl (And.intro rfl (And.intro rfl (And.intro rfl trivial))))) (Nat.le_of_ble_eq_true rfl) (Nat.le_of_ble_eq_true rfl)
  · replace hk := hk.2 c7
    refine px_iload (i := 4) C dX8_bookmark_17 rfl ?_
    refine px_sipush (v := (1000 : Int32)) C dX8_bookmark_19 rfl ?_
    refine px_icmp_lt (tgt := 36) C dX8_bookmark_22 (by decide) (fun c6 => ?_) (fun c6 => ?_)
    · replace hk := hk.1 c6
      exact PW_at (w8_bookmark_b36_ok C hRt hHR hnT hk) (And.intro rfl (And.intro rfl (And.intro rfl (And.intro rfl (And.intro rfl trivial))))) (Nat.le_of_ble_eq_true rfl) (Nat.le_of_ble_eq_true rfl)
    · replace hk := hk.2 c6
      exact px_throww (h9 := 2) C (HR_le hHR (Nat.le_of_ble_eq_true rfl)) hRt hnT tk_UnsupportedOperationException ti_UnsupportedOperationException tw_UnsupportedOperationException (by decide +kernel) (List.mem_of_getElem? (i := 28) rfl) dX8_bookmark_25 dX8_bookmark_28 dX8_bookmark_29 dX8_bookmark_32 dX8_bookmark_35 rfl (Nat.le_of_ble_eq_true rfl) (Nat.le_of_ble_eq_true rfl) hk
