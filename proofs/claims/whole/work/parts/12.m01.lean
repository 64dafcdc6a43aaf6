theorem dX7_presentParent_0 : decode cX7_presentParent 0 = .ok (.aload_n 0, 1) := by decide +kernel
theorem dX7_presentParent_1 : decode cX7_presentParent 1 = .ok (.aload_n 0, 1) := by decide +kernel
theorem dX7_presentParent_2 : decode cX7_presentParent 2 = .ok (.getfield 25, 3) := by decide +kernel
theorem dX7_presentParent_5 : decode cX7_presentParent 5 = .ok (.iload_n 1, 1) := by decide +kernel
theorem dX7_presentParent_6 : decode cX7_presentParent 6 = .ok (.invokestatic 51, 3) := by decide +kernel
theorem dX7_presentParent_9 : decode cX7_presentParent 9 = .ok (.invokevirtual 83, 3) := by decide +kernel
theorem dX7_presentParent_12 : decode cX7_presentParent 12 = .ok (.istore_n 2, 1) := by decide +kernel
theorem dX7_presentParent_13 : decode cX7_presentParent 13 = .ok (.iload_n 2, 1) := by decide +kernel
theorem dX7_presentParent_14 : decode cX7_presentParent 14 = .ok (.iconst (-1), 1) := by decide +kernel
theorem dX7_presentParent_15 : decode cX7_presentParent 15 = .ok (.if_icmp .eq 27, 3) := by decide +kernel
theorem dX7_presentParent_18 : decode cX7_presentParent 18 = .ok (.iload_n 2, 1) := by decide +kernel
theorem dX7_presentParent_19 : decode cX7_presentParent 19 = .ok (.iload_n 1, 1) := by decide +kernel
theorem dX7_presentParent_20 : decode cX7_presentParent 20 = .ok (.if_icmp .eq 22, 3) := by decide +kernel
theorem dX7_presentParent_23 : decode cX7_presentParent 23 = .ok (.aload_n 0, 1) := by decide +kernel
theorem dX7_presentParent_24 : decode cX7_presentParent 24 = .ok (.getfield 18, 3) := by decide +kernel
theorem dX7_presentParent_27 : decode cX7_presentParent 27 = .ok (.iload_n 2, 1) := by decide +kernel
theorem dX7_presentParent_28 : decode cX7_presentParent 28 = .ok (.invokestatic 51, 3) := by decide +kernel
theorem dX7_presentParent_31 : decode cX7_presentParent 31 = .ok (.aload_n 0, 1) := by decide +kernel
theorem dX7_presentParent_32 : decode cX7_presentParent 32 = .ok (.getfield 18, 3) := by decide +kernel
theorem dX7_presentParent_35 : decode cX7_presentParent 35 = .ok (.iload_n 1, 1) := by decide +kernel
theorem dX7_presentParent_36 : decode cX7_presentParent 36 = .ok (.invokestatic 51, 3) := by decide +kernel
theorem dX7_presentParent_39 : decode cX7_presentParent 39 = .ok (.if_icmp .eq 5, 3) := by decide +kernel
theorem dX7_presentParent_42 : decode cX7_presentParent 42 = .ok (.iconst (-1), 1) := by decide +kernel
theorem dX7_presentParent_43 : decode cX7_presentParent 43 = .ok (.ireturn, 1) := by decide +kernel
theorem dX7_presentParent_44 : decode cX7_presentParent 44 = .ok (.iload_n 2, 1) := by decide +kernel
theorem dX7_presentParent_45 : decode cX7_presentParent 45 = .ok (.ireturn, 1) := by decide +kernel
set_option maxRecDepth 100000 in
set_option maxHeartbeats 4000000 in
theorem w7_presentParent_ok {l : Launch} {idx : List (Nat × Nat)} {μ : Mem} {k : Nat} {a1 : Int32} {P : Int32 → Mem → Prop} {X : String → Mem → Prop} (hl : l.stackTraces = false) (hI : IdxOK idx) (hk : w7_presentParent_wp μ k a1 P) : PMet l yX7_presentParent (.code yX7_presentParent cX7_presentParent 3 (some .int)) 1 0 0 idx [pR 0 k, pI a1] μ (qI P) X := by
  refine PMet_of mv_X7_presentParent.2.2.2.2.2.2 hl hI mv_X7_presentParent.2.2.2.1 rfl (Nat.le_of_ble_eq_true rfl) (fun G _ _ C hRt hHR hnT => ?_)
  show PW G 0 0 0 [some (pR 0 k), some (pI a1), none] [] μ
  unfold w7_presentParent_wp at hk
  refine px_aload_n (i := 0) C dX7_presentParent_0 rfl rfl ?_
  refine px_aload_n (i := 0) C dX7_presentParent_1 rfl rfl ?_
  refine px_getr C dX7_presentParent_2 fl_RX7_25 rfl rfl rfl ?_
  refine px_iload_n (i := 1) C dX7_presentParent_5 rfl rfl ?_
  obtain ⟨o1, hk⟩ := hk
  refine px_callSNi (h := 0) (rc' := 0) (rs' := 0) C (HR_le hHR (Nat.le_of_ble_eq_true rfl)) hRt hnT dX7_presentParent_6 (List.mem_append_right _ (List.mem_append_left _ (List.mem_of_getElem? (i := 3) rfl))) ms_X8_at (at_ok (j := 3) (q := k) (n := 40) (loc := 192) (PCx_l C) (PCx_I C) rfl rfl rfl o1) rfl rfl (Nat.le_of_ble_eq_true rfl) (Nat.le_of_ble_eq_true rfl) (Nat.le_of_ble_eq_true rfl) (Nat.le_of_ble_eq_true rfl) ?_
  rintro _ _ ⟨rfl, rfl⟩
  refine px_callVi (h := 0) (rc' := 0) (rs' := 0) C (HR_le hHR (Nat.le_of_ble_eq_true rfl)) hRt hnT dX7_presentParent_9 (gw2 185 rfl rfl) mv_X7_find (w7_find_ok (PCx_l C) (PCx_I C) hk) rfl rfl rfl rfl rfl (Nat.le_of_ble_eq_true rfl) (Nat.le_of_ble_eq_true rfl) (Nat.le_of_ble_eq_true rfl) (Nat.le_of_ble_eq_true rfl) ?_
  intro r3 μ2 hk
  refine px_istore_n (i := 2) C dX7_presentParent_12 rfl (by decide) rfl ?_
  refine px_iload_n (i := 2) C dX7_presentParent_13 rfl rfl ?_
  refine px_iconst (v := (-1 : Int32)) C dX7_presentParent_14 rfl ?_
  refine px_icmp_eq (tgt := 42) C dX7_presentParent_15 (by decide) (fun c8 => ?_) (fun c8 => ?_)
  · replace hk := hk.1 c8
    refine px_iconst (v := (-1 : Int32)) C dX7_presentParent_42 rfl ?_
    exact px_iret C hRt dX7_presentParent_43 rfl rfl hk
  · replace hk := hk.2 c8
    refine px_iload_n (i := 2) C dX7_presentParent_18 rfl rfl ?_
    refine px_iload_n (i := 1) C dX7_presentParent_19 rfl rfl ?_
    refine px_icmp_eq (tgt := 42) C dX7_presentParent_20 (by decide) (fun c7 => ?_) (fun c7 => ?_)
    · replace hk := hk.1 c7
      refine px_iconst (v := (-1 : Int32)) C dX7_presentParent_42 rfl ?_
      exact px_iret C hRt dX7_presentParent_43 rfl rfl hk
    · replace hk := hk.2 c7
      refine px_aload_n (i := 0) C dX7_presentParent_23 rfl rfl ?_
      refine px_getr C dX7_presentParent_24 fl_RX7_18 rfl rfl rfl ?_
      refine px_iload_n (i := 2) C dX7_presentParent_27 rfl rfl ?_
      obtain ⟨o4, hk⟩ := hk
      refine px_callSNi (h := 0) (rc' := 0) (rs' := 0) C (HR_le hHR (Nat.le_of_ble_eq_true rfl)) hRt hnT dX7_presentParent_28 (List.mem_append_right _ (List.mem_append_left _ (List.mem_of_getElem? (i := 3) rfl))) ms_X8_at (at_ok (j := 1) (q := k) (n := 40) (loc := 64) (PCx_l C) (PCx_I C) rfl rfl rfl o4) rfl rfl (Nat.le_of_ble_eq_true rfl) (Nat.le_of_ble_eq_true rfl) (Nat.le_of_ble_eq_true rfl) (Nat.le_of_ble_eq_true rfl) ?_
      rintro _ _ ⟨rfl, rfl⟩
      refine px_aload_n (i := 0) C dX7_presentParent_31 rfl rfl ?_
      refine px_getr C dX7_presentParent_32 fl_RX7_18 rfl rfl rfl ?_
      refine px_iload_n (i := 1) C dX7_presentParent_35 rfl rfl ?_
      obtain ⟨o5, hk⟩ := hk
      refine px_callSNi (h := 0) (rc' := 0) (rs' := 0) C (HR_le hHR (Nat.le_of_ble_eq_true rfl)) hRt hnT dX7_presentParent_36 (List.mem_append_right _ (List.mem_append_left _ (List.mem_of_getElem? (i := 3) rfl))) ms_X8_at (at_ok (j := 1) (q := k) (n := 40) (loc := 64) (PCx_l C) (PCx_I C) rfl rfl rfl o5) rfl rfl (Nat.le_of_ble_eq_true rfl) (Nat.le_of_ble_eq_true rfl) (Nat.le_of_ble_eq_true rfl) (Nat.le_of_ble_eq_true rfl) ?_
      rintro _ _ ⟨rfl, rfl⟩
      refine px_icmp_eq (tgt := 44) C dX7_presentParent_39 (by decide) (fun c6 => ?_) (fun c6 => ?_)
      · replace hk := hk.1 c6
        refine px_iload_n (i := 2) C dX7_presentParent_44 rfl rfl ?_
        exact px_iret C hRt dX7_presentParent_45 rfl rfl hk
      · replace hk := hk.2 c6
        refine px_iconst (v := (-1 : Int32)) C dX7_presentParent_42 rfl ?_
        exact px_iret C hRt dX7_presentParent_43 rfl rfl hk
theorem dX7_duration_0 : decode cX7_duration 0 = .ok (.aload_n 0, 1) := by decide +kernel
theorem dX7_duration_1 : decode cX7_duration 1 = .ok (.getfield 34, 3) := by decide +kernel
theorem dX7_duration_4 : decode cX7_duration 4 = .ok (.iload_n 1, 1) := by decide +kernel
theorem dX7_duration_5 : decode cX7_duration 5 = .ok (.invokestatic 51, 3) := by decide +kernel
theorem dX7_duration_8 : decode cX7_duration 8 = .ok (.aload_n 0, 1) := by decide +kernel
theorem dX7_duration_9 : decode cX7_duration 9 = .ok (.getfield 31, 3) := by decide +kernel
theorem dX7_duration_12 : decode cX7_duration 12 = .ok (.iload_n 1, 1) := by decide +kernel
theorem dX7_duration_13 : decode cX7_duration 13 = .ok (.invokestatic 51, 3) := by decide +kernel
theorem dX7_duration_16 : decode cX7_duration 16 = .ok (.isub, 1) := by decide +kernel
theorem dX7_duration_17 : decode cX7_duration 17 = .ok (.ireturn, 1) := by decide +kernel
set_option maxRecDepth 100000 in
set_option maxHeartbeats 4000000 in
theorem w7_duration_ok {l : Launch} {idx : List (Nat × Nat)} {μ : Mem} {k : Nat} {a1 : Int32} {P : Int32 → Mem → Prop} {X : String → Mem → Prop} (hl : l.stackTraces = false) (hI : IdxOK idx) (hk : w7_duration_wp μ k a1 P) : PMet l yX7_duration (.code yX7_duration cX7_duration 2 (some .int)) 1 0 0 idx [pR 0 k, pI a1] μ (qI P) X := by
  refine PMet_of mv_X7_duration.2.2.2.2.2.2 hl hI mv_X7_duration.2.2.2.1 rfl (Nat.le_of_ble_eq_true rfl) (fun G _ _ C hRt hHR hnT => ?_)
  show PW G 0 0 0 [some (pR 0 k), some (pI a1)] [] μ
  unfold w7_duration_wp at hk
  refine px_aload_n (i := 0) C dX7_duration_0 rfl rfl ?_
  refine px_getr C dX7_duration_1 fl_RX7_34 rfl rfl rfl ?_
  refine px_iload_n (i := 1) C dX7_duration_4 rfl rfl ?_
  obtain ⟨o1, hk⟩ := hk
  refine px_callSNi (h := 0) (rc' := 0) (rs' := 0) C (HR_le hHR (Nat.le_of_ble_eq_true rfl)) hRt hnT dX7_duration_5 (List.mem_append_right _ (List.mem_append_left _ (List.mem_of_getElem? (i := 3) rfl))) ms_X8_at (at_ok (j := 6) (q := k) (n := 40) (loc := 384) (PCx_l C) (PCx_I C) rfl rfl rfl o1) rfl rfl (Nat.le_of_ble_eq_true rfl) (Nat.le_of_ble_eq_true rfl) (Nat.le_of_ble_eq_true rfl) (Nat.le_of_ble_eq_true rfl) ?_
  rintro _ _ ⟨rfl, rfl⟩
  refine px_aload_n (i := 0) C dX7_duration_8 rfl rfl ?_
  refine px_getr C dX7_duration_9 fl_RX7_31 rfl rfl rfl ?_
  refine px_iload_n (i := 1) C dX7_duration_12 rfl rfl ?_
  obtain ⟨o2, hk⟩ := hk
  refine px_callSNi (h := 0) (rc' := 0) (rs' := 0) C (HR_le hHR (Nat.le_of_ble_eq_true rfl)) hRt hnT dX7_duration_13 (List.mem_append_right _ (List.mem_append_left _ (List.mem_of_getElem? (i := 3) rfl))) ms_X8_at (at_ok (j := 5) (q := k) (n := 40) (loc := 320) (PCx_l C) (PCx_I C) rfl rfl rfl o2) rfl rfl (Nat.le_of_ble_eq_true rfl) (Nat.le_of_ble_eq_true rfl) (Nat.le_of_ble_eq_true rfl) (Nat.le_of_ble_eq_true rfl) ?_
  rintro _ _ ⟨rfl, rfl⟩
  refine px_isub C dX7_duration_16 ?_
  exact px_iret C hRt dX7_duration_17 rfl rfl hk
theorem dX8_clear_0 : decode cX8_clear 0 = .ok (.aload_n 0, 1) := by decide +kernel
theorem dX8_clear_1 : decode cX8_clear 1 = .ok (.getfield 94, 3) := by decide +kernel
theorem dX8_clear_4 : decode cX8_clear 4 = .ok (.getfield 97, 3) := by decide +kernel
theorem dX8_clear_7 : decode cX8_clear 7 = .ok (.istore_n 1, 1) := by decide +kernel
theorem dX8_clear_8 : decode cX8_clear 8 = .ok (.aload_n 0, 1) := by decide +kernel
theorem dX8_clear_9 : decode cX8_clear 9 = .ok (.getfield 94, 3) := by decide +kernel
theorem dX8_clear_12 : decode cX8_clear 12 = .ok (.invokevirtual 100, 3) := by decide +kernel
theorem dX8_clear_15 : decode cX8_clear 15 = .ok (.aload_n 0, 1) := by decide +kernel
theorem dX8_clear_16 : decode cX8_clear 16 = .ok (.getfield 22, 3) := by decide +kernel
theorem dX8_clear_19 : decode cX8_clear 19 = .ok (.invokevirtual 103, 3) := by decide +kernel
theorem dX8_clear_22 : decode cX8_clear 22 = .ok (.aload_n 0, 1) := by decide +kernel
theorem dX8_clear_23 : decode cX8_clear 23 = .ok (.iconst 0, 1) := by decide +kernel
theorem dX8_clear_24 : decode cX8_clear 24 = .ok (.putfield 51, 3) := by decide +kernel
theorem dX8_clear_27 : decode cX8_clear 27 = .ok (.iload_n 1, 1) := by decide +kernel
theorem dX8_clear_28 : decode cX8_clear 28 = .ok (.ireturn, 1) := by decide +kernel
set_option maxRecDepth 100000 in
set_option maxHeartbeats 4000000 in
theorem w8_clear_ok {l : Launch} {idx : List (Nat × Nat)} {μ : Mem} {P : Int32 → Mem → Prop} {X : String → Mem → Prop} (hl : l.stackTraces = false) (hI : IdxOK idx) (hk : w8_clear_wp μ P) : PMet l yX8_clear (.code yX8_clear cX8_clear 2 (some .int)) 1 0 0 idx [pR 40 0] μ (qI P) X := by
  refine PMet_of mv_X8_clear.2.2.2.2.2.2 hl hI mv_X8_clear.2.2.2.1 rfl (Nat.le_of_ble_eq_true rfl) (fun G _ _ C hRt hHR hnT => ?_)
  show PW G 0 0 0 [some (pR 40 0), none] [] μ
  unfold w8_clear_wp at hk
  refine px_aload_n (i := 0) C dX8_clear_0 rfl rfl ?_
  refine px_getr C dX8_clear_1 fl_RX8_94 rfl rfl rfl ?_
  refine px_geti 1 C dX8_clear_4 fl_RX8_97 rfl rfl rfl rfl ?_
  refine px_istore_n (i := 1) C dX8_clear_7 rfl (by decide) rfl ?_
  refine px_aload_n (i := 0) C dX8_clear_8 rfl rfl ?_
  refine px_getr C dX8_clear_9 fl_RX8_94 rfl rfl rfl ?_
  refine px_callVv (h := 0) (rc' := 0) (rs' := 0) C (HR_le hHR (Nat.le_of_ble_eq_true rfl)) hRt hnT dX8_clear_12 (gw2 149 rfl rfl) mv_X7_empty (w7_empty_ok (PCx_l C) (PCx_I C) hk) rfl rfl rfl rfl rfl (Nat.le_of_ble_eq_true rfl) (Nat.le_of_ble_eq_true rfl) (Nat.le_of_ble_eq_true rfl) (Nat.le_of_ble_eq_true rfl) ?_
  intro μ1 hk
  refine px_aload_n (i := 0) C dX8_clear_15 rfl rfl ?_
  refine px_getr C dX8_clear_16 fl_RX8_22 rfl rfl rfl ?_
  refine px_callVv (h := 0) (rc' := 0) (rs' := 0) C (HR_le hHR (Nat.le_of_ble_eq_true rfl)) hRt hnT dX8_clear_19 (gw2 153 rfl rfl) mv_X3_forget (w3_forget_ok (PCx_l C) (PCx_I C) hk) rfl rfl rfl rfl rfl (Nat.le_of_ble_eq_true rfl) (Nat.le_of_ble_eq_true rfl) (Nat.le_of_ble_eq_true rfl) (Nat.le_of_ble_eq_true rfl) ?_
  intro μ2 hk
  refine px_aload_n (i := 0) C dX8_clear_22 rfl rfl ?_
  refine px_iconst (v := (0 : Int32)) C dX8_clear_23 rfl ?_
  replace hk := hk _ rfl
  refine px_puti 2573 C dX8_clear_24 fp_RX8_51 rfl rfl rfl rfl rfl rfl ?_
  refine px_iload_n (i := 1) C dX8_clear_27 rfl rfl ?_
  exact px_iret C hRt dX8_clear_28 rfl rfl hk
theorem dX8_spanCount_0 : decode cX8_spanCount 0 = .ok (.aload_n 0, 1) := by decide +kernel
theorem dX8_spanCount_1 : decode cX8_spanCount 1 = .ok (.getfield 94, 3) := by decide +kernel
theorem dX8_spanCount_4 : decode cX8_spanCount 4 = .ok (.getfield 97, 3) := by decide +kernel
theorem dX8_spanCount_7 : decode cX8_spanCount 7 = .ok (.ireturn, 1) := by decide +kernel
set_option maxRecDepth 100000 in
set_option maxHeartbeats 4000000 in
theorem w8_spanCount_ok {l : Launch} {idx : List (Nat × Nat)} {μ : Mem} {P : Int32 → Mem → Prop} {X : String → Mem → Prop} (hl : l.stackTraces = false) (hI : IdxOK idx) (hk : w8_spanCount_wp μ P) : PMet l yX8_spanCount (.code yX8_spanCount cX8_spanCount 1 (some .int)) 0 0 0 idx [pR 40 0] μ (qI P) X := by
  refine PMet_of mv_X8_spanCount.2.2.2.2.2.2 hl hI mv_X8_spanCount.2.2.2.1 rfl (Nat.le_of_ble_eq_true rfl) (fun G _ _ C hRt hHR hnT => ?_)
  show PW G 0 0 0 [some (pR 40 0)] [] μ
  unfold w8_spanCount_wp at hk
  refine px_aload_n (i := 0) C dX8_spanCount_0 rfl rfl ?_
  refine px_getr C dX8_spanCount_1 fl_RX8_94 rfl rfl rfl ?_
  refine px_geti 1 C dX8_spanCount_4 fl_RX8_97 rfl rfl rfl rfl ?_
  exact px_iret C hRt dX8_spanCount_7 rfl rfl hk
theorem dX8_linkCount_0 : decode cX8_linkCount 0 = .ok (.aload_n 0, 1) := by decide +kernel
theorem dX8_linkCount_1 : decode cX8_linkCount 1 = .ok (.getfield 94, 3) := by decide +kernel
theorem dX8_linkCount_4 : decode cX8_linkCount 4 = .ok (.getfield 367, 3) := by decide +kernel
theorem dX8_linkCount_7 : decode cX8_linkCount 7 = .ok (.ireturn, 1) := by decide +kernel
set_option maxRecDepth 100000 in
set_option maxHeartbeats 4000000 in
theorem w8_linkCount_ok {l : Launch} {idx : List (Nat × Nat)} {μ : Mem} {P : Int32 → Mem → Prop} {X : String → Mem → Prop} (hl : l.stackTraces = false) (hI : IdxOK idx) (hk : w8_linkCount_wp μ P) : PMet l yX8_linkCount (.code yX8_linkCount cX8_linkCount 1 (some .int)) 0 0 0 idx [pR 40 0] μ (qI P) X := by
  refine PMet_of mv_X8_linkCount.2.2.2.2.2.2 hl hI mv_X8_linkCount.2.2.2.1 rfl (Nat.le_of_ble_eq_true rfl) (fun G _ _ C hRt hHR hnT => ?_)
  show PW G 0 0 0 [some (pR 40 0)] [] μ
  unfold w8_linkCount_wp at hk
  refine px_aload_n (i := 0) C dX8_linkCount_0 rfl rfl ?_
  refine px_getr C dX8_linkCount_1 fl_RX8_94 rfl rfl rfl ?_
  refine px_geti 2 C dX8_linkCount_4 fl_RX8_367 rfl rfl rfl rfl ?_
  exact px_iret C hRt dX8_linkCount_7 rfl rfl hk
theorem dX8_errorPosition_0 : decode cX8_errorPosition 0 = .ok (.aload_n 0, 1) := by decide +kernel
theorem dX8_errorPosition_1 : decode cX8_errorPosition 1 = .ok (.getfield 54, 3) := by decide +kernel
theorem dX8_errorPosition_4 : decode cX8_errorPosition 4 = .ok (.iconst (-1), 1) := by decide +kernel
theorem dX8_errorPosition_5 : decode cX8_errorPosition 5 = .ok (.if_icmp .ne 14, 3) := by decide +kernel
theorem dX8_errorPosition_8 : decode cX8_errorPosition 8 = .ok (.new 206, 3) := by decide +kernel
theorem dX8_errorPosition_11 : decode cX8_errorPosition 11 = .ok (.dup, 1) := by decide +kernel
theorem dX8_errorPosition_12 : decode cX8_errorPosition 12 = .ok (.ldc_w 447, 3) := by decide +kernel
theorem dX8_errorPosition_15 : decode cX8_errorPosition 15 = .ok (.invokespecial 210, 3) := by decide +kernel
theorem dX8_errorPosition_18 : decode cX8_errorPosition 18 = .ok (.athrow, 1) := by decide +kernel
theorem dX8_errorPosition_19 : decode cX8_errorPosition 19 = .ok (.aload_n 0, 1) := by decide +kernel
theorem dX8_errorPosition_20 : decode cX8_errorPosition 20 = .ok (.getfield 54, 3) := by decide +kernel
theorem dX8_errorPosition_23 : decode cX8_errorPosition 23 = .ok (.ireturn, 1) := by decide +kernel
set_option maxRecDepth 100000 in
set_option maxHeartbeats 4000000 in
theorem w8_errorPosition_ok {l : Launch} {idx : List (Nat × Nat)} {μ : Mem} {P : Int32 → Mem → Prop} {X : String → Mem → Prop} (hl : l.stackTraces = false) (hI : IdxOK idx) (hk : w8_errorPosition_wp μ P X) : PMet l yX8_errorPosition (.code yX8_errorPosition cX8_errorPosition 1 (some .int)) 8 1 6 idx [pR 40 0] μ (qI P) X := by
  refine PMet_of mv_X8_errorPosition.2.2.2.2.2.2 hl hI mv_X8_errorPosition.2.2.2.1 rfl (Nat.le_of_ble_eq_true rfl) (fun G _ _ C hRt hHR hnT => ?_)
  show PW G 1 6 0 [some (pR 40 0)] [] μ
  unfold w8_errorPosition_wp at hk
  refine px_aload_n (i := 0) C dX8_errorPosition_0 rfl rfl ?_
  refine px_geti 2574 C dX8_errorPosition_1 fl_RX8_54 rfl rfl rfl rfl ?_
  refine px_iconst (v := (-1 : Int32)) C dX8_errorPosition_4 rfl ?_
  refine px_icmp_ne (tgt := 19) C dX8_errorPosition_5 (by decide) (fun c1 => ?_) (fun c1 => ?_)
  · replace hk := hk.1 c1
    refine px_aload_n (i := 0) C dX8_errorPosition_19 rfl rfl ?_
    refine px_geti 2574 C dX8_errorPosition_20 fl_RX8_54 rfl rfl rfl rfl ?_
    exact px_iret C hRt dX8_errorPosition_23 rfl rfl hk
  · replace hk := hk.2 c1
    exact px_throwwN (h9 := 0) C (HR_le hHR (Nat.le_of_ble_eq_true rfl)) hRt hnT tk_NoSuchElementException ti_NoSuchElementException (List.mem_of_getElem? (i := 34) rfl) rfl dX8_errorPosition_8 dX8_errorPosition_11 dX8_errorPosition_12 dX8_errorPosition_15 dX8_errorPosition_18 rfl (Nat.le_of_ble_eq_true rfl) (Nat.le_of_ble_eq_true rfl) hk
theorem dX8_isWithin_0 : decode cX8_isWithin 0 = .ok (.iload_n 0, 1) := by decide +kernel
theorem dX8_isWithin_1 : decode cX8_isWithin 1 = .ok (.ifCond .lt 12, 3) := by decide +kernel
theorem dX8_isWithin_4 : decode cX8_isWithin 4 = .ok (.iload_n 0, 1) := by decide +kernel
theorem dX8_isWithin_5 : decode cX8_isWithin 5 = .ok (.iload_n 1, 1) := by decide +kernel
theorem dX8_isWithin_6 : decode cX8_isWithin 6 = .ok (.if_icmp .ge 7, 3) := by decide +kernel
theorem dX8_isWithin_9 : decode cX8_isWithin 9 = .ok (.iconst 1, 1) := by decide +kernel
theorem dX8_isWithin_10 : decode cX8_isWithin 10 = .ok (.goto 4, 3) := by decide +kernel
theorem dX8_isWithin_13 : decode cX8_isWithin 13 = .ok (.iconst 0, 1) := by decide +kernel
theorem dX8_isWithin_14 : decode cX8_isWithin 14 = .ok (.ireturn, 1) := by decide +kernel
set_option maxRecDepth 100000 in
set_option maxHeartbeats 4000000 in
theorem w8_isWithin_ok {l : Launch} {idx : List (Nat × Nat)} {μ : Mem} {a1 : Int32} {a2 : Int32} {P : Int32 → Mem → Prop} {X : String → Mem → Prop} (hl : l.stackTraces = false) (hI : IdxOK idx) (hk : w8_isWithin_wp μ a1 a2 P) : PMet l yX8_isWithin (.code yX8_isWithin cX8_isWithin 2 (some .boolean)) 0 0 0 idx [pI a1, pI a2] μ (qI P) X := by
  refine PMet_of ms_X8_isWithin.2.2.2.2.2 hl hI ms_X8_isWithin.2.2.1 rfl (Nat.le_of_ble_eq_true rfl) (fun G _ _ C hRt hHR hnT => ?_)
  show PW G 0 0 0 [some (pI a1), some (pI a2)] [] μ
  unfold w8_isWithin_wp at hk
  refine px_iload_n (i := 0) C dX8_isWithin_0 rfl rfl ?_
  refine px_if_lt (tgt := 13) C dX8_isWithin_1 (by decide) (fun c2 => ?_) (fun c2 => ?_)
  · replace hk := hk.1 c2
    refine px_iconst (v := (0 : Int32)) C dX8_isWithin_13 rfl ?_
    exact px_iret C hRt dX8_isWithin_14 rfl rfl hk
  · replace hk := hk.2 c2
    refine px_iload_n (i := 0) C dX8_isWithin_4 rfl rfl ?_
    refine px_iload_n (i := 1) C dX8_isWithin_5 rfl rfl ?_
    refine px_icmp_ge (tgt := 13) C dX8_isWithin_6 (by decide) (fun c1 => ?_) (fun c1 => ?_)
    · replace hk := hk.1 c1
      refine px_iconst (v := (0 : Int32)) C dX8_isWithin_13 rfl ?_
      exact px_iret C hRt dX8_isWithin_14 rfl rfl hk
    · replace hk := hk.2 c1
      refine px_iconst (v := (1 : Int32)) C dX8_isWithin_9 rfl ?_
      refine px_goto (tgt := 14) C dX8_isWithin_10 (by decide) ?_
      exact px_iret C hRt dX8_isWithin_14 rfl rfl hk
theorem dX8_isParentId_0 : decode cX8_isParentId 0 = .ok (.iload_n 0, 1) := by decide +kernel
theorem dX8_isParentId_1 : decode cX8_isParentId 1 = .ok (.iconst (-1), 1) := by decide +kernel
theorem dX8_isParentId_2 : decode cX8_isParentId 2 = .ok (.if_icmp .eq 12, 3) := by decide +kernel
theorem dX8_isParentId_5 : decode cX8_isParentId 5 = .ok (.iload_n 0, 1) := by decide +kernel
theorem dX8_isParentId_6 : decode cX8_isParentId 6 = .ok (.bipush 100, 2) := by decide +kernel
theorem dX8_isParentId_8 : decode cX8_isParentId 8 = .ok (.invokestatic 106, 3) := by decide +kernel
theorem dX8_isParentId_11 : decode cX8_isParentId 11 = .ok (.ifCond .eq 7, 3) := by decide +kernel
theorem dX8_isParentId_14 : decode cX8_isParentId 14 = .ok (.iconst 1, 1) := by decide +kernel
theorem dX8_isParentId_15 : decode cX8_isParentId 15 = .ok (.goto 4, 3) := by decide +kernel
theorem dX8_isParentId_18 : decode cX8_isParentId 18 = .ok (.iconst 0, 1) := by decide +kernel
theorem dX8_isParentId_19 : decode cX8_isParentId 19 = .ok (.ireturn, 1) := by decide +kernel
set_option maxRecDepth 100000 in
set_option maxHeartbeats 4000000 in
theorem w8_isParentId_ok {l : Launch} {idx : List (Nat × Nat)} {μ : Mem} {a1 : Int32} {P : Int32 → Mem → Prop} {X : String → Mem → Prop} (hl : l.stackTraces = false) (hI : IdxOK idx) (hk : w8_isParentId_wp μ a1 P) : PMet l yX8_isParentId (.code yX8_isParentId cX8_isParentId 1 (some .boolean)) 1 0 0 idx [pI a1] μ (qI P) X := by
  refine PMet_of ms_X8_isParentId.2.2.2.2.2 hl hI ms_X8_isParentId.2.2.1 rfl (Nat.le_of_ble_eq_true rfl) (fun G _ _ C hRt hHR hnT => ?_)
  show PW G 0 0 0 [some (pI a1)] [] μ
  unfold w8_isParentId_wp at hk
  refine px_iload_n (i := 0) C dX8_isParentId_0 rfl rfl ?_
  refine px_iconst (v := (-1 : Int32)) C dX8_isParentId_1 rfl ?_
  refine px_icmp_eq (tgt := 14) C dX8_isParentId_2 (by decide) (fun c4 => ?_) (fun c4 => ?_)
  · replace hk := hk.1 c4
    refine px_iconst (v := (1 : Int32)) C dX8_isParentId_14 rfl ?_
    refine px_goto (tgt := 19) C dX8_isParentId_15 (by decide) ?_
    exact px_iret C hRt dX8_isParentId_19 rfl rfl hk
  · replace hk := hk.2 c4
    refine px_iload_n (i := 0) C dX8_isParentId_5 rfl rfl ?_
    refine px_bipush (v := (100 : Int32)) C dX8_isParentId_6 rfl ?_
    refine px_callSi (h := 0) (rc' := 0) (rs' := 0) C (HR_le hHR (Nat.le_of_ble_eq_true rfl)) hRt hnT dX8_isParentId_8 (gw3 65 rfl rfl) ms_X8_isWithin (w8_isWithin_ok (PCx_l C) (PCx_I C) hk) rfl rfl (Nat.le_of_ble_eq_true rfl) (Nat.le_of_ble_eq_true rfl) (Nat.le_of_ble_eq_true rfl) (Nat.le_of_ble_eq_true rfl) ?_
    intro r2 μ1 hk
    refine px_if_eq (tgt := 18) C dX8_isParentId_11 (by decide) (fun c3 => ?_) (fun c3 => ?_)
    · replace hk := hk.1 c3
      refine px_iconst (v := (0 : Int32)) C dX8_isParentId_18 rfl ?_
      exact px_iret C hRt dX8_isParentId_19 rfl rfl hk
    · replace hk := hk.2 c3
      refine px_iconst (v := (1 : Int32)) C dX8_isParentId_14 rfl ?_
      refine px_goto (tgt := 19) C dX8_isParentId_15 (by decide) ?_
      exact px_iret C hRt dX8_isParentId_19 rfl rfl hk
theorem dX8_areTimes_0 : decode cX8_areTimes 0 = .ok (.iload_n 0, 1) := by decide +kernel
theorem dX8_areTimes_1 : decode cX8_areTimes 1 = .ok (.sipush 10000, 3) := by decide +kernel
theorem dX8_areTimes_4 : decode cX8_areTimes 4 = .ok (.invokestatic 106, 3) := by decide +kernel
theorem dX8_areTimes_7 : decode cX8_areTimes 7 = .ok (.ifCond .eq 22, 3) := by decide +kernel
theorem dX8_areTimes_10 : decode cX8_areTimes 10 = .ok (.iload_n 1, 1) := by decide +kernel
theorem dX8_areTimes_11 : decode cX8_areTimes 11 = .ok (.sipush 10000, 3) := by decide +kernel
theorem dX8_areTimes_14 : decode cX8_areTimes 14 = .ok (.invokestatic 106, 3) := by decide +kernel
theorem dX8_areTimes_17 : decode cX8_areTimes 17 = .ok (.ifCond .eq 12, 3) := by decide +kernel
theorem dX8_areTimes_20 : decode cX8_areTimes 20 = .ok (.iload_n 0, 1) := by decide +kernel
theorem dX8_areTimes_21 : decode cX8_areTimes 21 = .ok (.iload_n 1, 1) := by decide +kernel
theorem dX8_areTimes_22 : decode cX8_areTimes 22 = .ok (.if_icmp .gt 7, 3) := by decide +kernel
theorem dX8_areTimes_25 : decode cX8_areTimes 25 = .ok (.iconst 1, 1) := by decide +kernel
theorem dX8_areTimes_26 : decode cX8_areTimes 26 = .ok (.goto 4, 3) := by decide +kernel
theorem dX8_areTimes_29 : decode cX8_areTimes 29 = .ok (.iconst 0, 1) := by decide +kernel
theorem dX8_areTimes_30 : decode cX8_areTimes 30 = .ok (.ireturn, 1) := by decide +kernel
set_option maxRecDepth 100000 in
set_option maxHeartbeats 4000000 in
theorem w8_areTimes_ok {l : Launch} {idx : List (Nat × Nat)} {μ : Mem} {a1 : Int32} {a2 : Int32} {P : Int32 → Mem → Prop} {X : String → Mem → Prop} (hl : l.stackTraces = false) (hI : IdxOK idx) (hk : w8_areTimes_wp μ a1 a2 P) : PMet l yX8_areTimes (.code yX8_areTimes cX8_areTimes 2 (some .boolean)) 1 0 0 idx [pI a1, pI a2] μ (qI P) X := by
  refine PMet_of ms_X8_areTimes.2.2.2.2.2 hl hI ms_X8_areTimes.2.2.1 rfl (Nat.le_of_ble_eq_true rfl) (fun G _ _ C hRt hHR hnT => ?_)
  show PW G 0 0 0 [some (pI a1), some (pI a2)] [] μ
  unfold w8_areTimes_wp at hk
  refine px_iload_n (i := 0) C dX8_areTimes_0 rfl rfl ?_
  refine px_sipush (v := (10000 : Int32)) C dX8_areTimes_1 rfl ?_
  refine px_callSi (h := 0) (rc' := 0) (rs' := 0) C (HR_le hHR (Nat.le_of_ble_eq_true rfl)) hRt hnT dX8_areTimes_4 (gw3 65 rfl rfl) ms_X8_isWithin (w8_isWithin_ok (PCx_l C) (PCx_I C) hk) rfl rfl (Nat.le_of_ble_eq_true rfl) (Nat.le_of_ble_eq_true rfl) (Nat.le_of_ble_eq_true rfl) (Nat.le_of_ble_eq_true rfl) ?_
  intro r2 μ1 hk
  refine px_if_eq (tgt := 29) C dX8_areTimes_7 (by decide) (fun c7 => ?_) (fun c7 => ?_)
  · replace hk := hk.1 c7
    refine px_iconst (v := (0 : Int32)) C dX8_areTimes_29 rfl ?_
    exact px_iret C hRt dX8_areTimes_30 rfl rfl hk
  · replace hk := hk.2 c7
    refine px_iload_n (i := 1) C dX8_areTimes_10 rfl rfl ?_
    refine px_sipush (v := (10000 : Int32)) C dX8_areTimes_11 rfl ?_
    refine px_callSi (h := 0) (rc' := 0) (rs' := 0) C (HR_le hHR (Nat.le_of_ble_eq_true rfl)) hRt hnT dX8_areTimes_14 (gw3 65 rfl rfl) ms_X8_isWithin (w8_isWithin_ok (PCx_l C) (PCx_I C) hk) rfl rfl (Nat.le_of_ble_eq_true rfl) (Nat.le_of_ble_eq_true rfl) (Nat.le_of_ble_eq_true rfl) (Nat.le_of_ble_eq_true rfl) ?_
    intro r4 μ3 hk
    refine px_if_eq (tgt := 29) C dX8_areTimes_17 (by decide) (fun c6 => ?_) (fun c6 => ?_)
    · replace hk := hk.1 c6
      refine px_iconst (v := (0 : Int32)) C dX8_areTimes_29 rfl ?_
      exact px_iret C hRt dX8_areTimes_30 rfl rfl hk
    · replace hk := hk.2 c6
      refine px_iload_n (i := 0) C dX8_areTimes_20 rfl rfl ?_
      refine px_iload_n (i := 1) C dX8_areTimes_21 rfl rfl ?_
      refine px_icmp_gt (tgt := 29) C dX8_areTimes_22 (by decide) (fun c5 => ?_) (fun c5 => ?_)
      · replace hk := hk.1 c5
        refine px_iconst (v := (0 : Int32)) C dX8_areTimes_29 rfl ?_
        exact px_iret C hRt dX8_areTimes_30 rfl rfl hk
      · replace hk := hk.2 c5
        refine px_iconst (v := (1 : Int32)) C dX8_areTimes_25 rfl ?_
        refine px_goto (tgt := 30) C dX8_areTimes_26 (by decide) ?_
        exact px_iret C hRt dX8_areTimes_30 rfl rfl hk
theorem dX8_placeOf_0 : decode cX8_placeOf 0 = .ok (.aload_n 0, 1) := by decide +kernel
theorem dX8_placeOf_1 : decode cX8_placeOf 1 = .ok (.getfield 94, 3) := by decide +kernel
theorem dX8_placeOf_4 : decode cX8_placeOf 4 = .ok (.iload_n 1, 1) := by decide +kernel
theorem dX8_placeOf_5 : decode cX8_placeOf 5 = .ok (.invokevirtual 126, 3) := by decide +kernel
theorem dX8_placeOf_8 : decode cX8_placeOf 8 = .ok (.istore_n 2, 1) := by decide +kernel
theorem dX8_placeOf_9 : decode cX8_placeOf 9 = .ok (.iload_n 2, 1) := by decide +kernel
theorem dX8_placeOf_10 : decode cX8_placeOf 10 = .ok (.bipush 40, 2) := by decide +kernel
theorem dX8_placeOf_12 : decode cX8_placeOf 12 = .ok (.invokestatic 106, 3) := by decide +kernel
theorem dX8_placeOf_15 : decode cX8_placeOf 15 = .ok (.ifCond .ne 14, 3) := by decide +kernel
theorem dX8_placeOf_18 : decode cX8_placeOf 18 = .ok (.new 474, 3) := by decide +kernel
theorem dX8_placeOf_21 : decode cX8_placeOf 21 = .ok (.dup, 1) := by decide +kernel
theorem dX8_placeOf_22 : decode cX8_placeOf 22 = .ok (.ldc_w 476, 3) := by decide +kernel
theorem dX8_placeOf_25 : decode cX8_placeOf 25 = .ok (.invokespecial 478, 3) := by decide +kernel
theorem dX8_placeOf_28 : decode cX8_placeOf 28 = .ok (.athrow, 1) := by decide +kernel
theorem dX8_placeOf_29 : decode cX8_placeOf 29 = .ok (.iload_n 2, 1) := by decide +kernel
theorem dX8_placeOf_30 : decode cX8_placeOf 30 = .ok (.ireturn, 1) := by decide +kernel
set_option maxRecDepth 100000 in
set_option maxHeartbeats 4000000 in
theorem w8_placeOf_ok {l : Launch} {idx : List (Nat × Nat)} {μ : Mem} {a1 : Int32} {P : Int32 → Mem → Prop} {X : String → Mem → Prop} (hl : l.stackTraces = false) (hI : IdxOK idx) (hk : w8_placeOf_wp μ a1 P X) : PMet l yX8_placeOf (.code yX8_placeOf cX8_placeOf 3 (some .int)) 8 1 6 idx [pR 40 0, pI a1] μ (qI P) X := by
  refine PMet_of mv_X8_placeOf.2.2.2.2.2.2 hl hI mv_X8_placeOf.2.2.2.1 rfl (Nat.le_of_ble_eq_true rfl) (fun G _ _ C hRt hHR hnT => ?_)
  show PW G 1 6 0 [some (pR 40 0), some (pI a1), none] [] μ
  unfold w8_placeOf_wp at hk
  refine px_aload_n (i := 0) C dX8_placeOf_0 rfl rfl ?_
  refine px_getr C dX8_placeOf_1 fl_RX8_94 rfl rfl rfl ?_
  refine px_iload_n (i := 1) C dX8_placeOf_4 rfl rfl ?_
  refine px_callVi (h := 0) (rc' := 1) (rs' := 6) C (HR_le hHR (Nat.le_of_ble_eq_true rfl)) hRt hnT dX8_placeOf_5 (gw3 145 rfl rfl) mv_X7_find (w7_find_ok (PCx_l C) (PCx_I C) hk) rfl rfl rfl rfl rfl (Nat.le_of_ble_eq_true rfl) (Nat.le_of_ble_eq_true rfl) (Nat.le_of_ble_eq_true rfl) (Nat.le_of_ble_eq_true rfl) ?_
  intro r2 μ1 hk
  refine px_istore_n (i := 2) C dX8_placeOf_8 rfl (by decide) rfl ?_
  refine px_iload_n (i := 2) C dX8_placeOf_9 rfl rfl ?_
  refine px_bipush (v := (40 : Int32)) C dX8_placeOf_10 rfl ?_
  refine px_callSi (h := 0) (rc' := 1) (rs' := 6) C (HR_le hHR (Nat.le_of_ble_eq_true rfl)) hRt hnT dX8_placeOf_12 (gw3 65 rfl rfl) ms_X8_isWithin (w8_isWithin_ok (PCx_l C) (PCx_I C) hk) rfl rfl (Nat.le_of_ble_eq_true rfl) (Nat.le_of_ble_eq_true rfl) (Nat.le_of_ble_eq_true rfl) (Nat.le_of_ble_eq_true rfl) ?_
  intro r4 μ3 hk
  refine px_if_ne (tgt := 29) C dX8_placeOf_15 (by decide) (fun c5 => ?_) (fun c5 => ?_)
  · replace hk := hk.1 c5
    refine px_iload_n (i := 2) C dX8_placeOf_29 rfl rfl ?_
    exact px_iret C hRt dX8_placeOf_30 rfl rfl hk
  · replace hk := hk.2 c5
    exact px_throww (h9 := 0) C (HR_le hHR (Nat.le_of_ble_eq_true rfl)) hRt hnT tk_IndexOutOfBoundsException ti_IndexOutOfBoundsException tw_IndexOutOfBoundsException (by decide +kernel) (List.mem_of_getElem? (i := 3) rfl) dX8_placeOf_18 dX8_placeOf_21 dX8_placeOf_22 dX8_placeOf_25 dX8_placeOf_28 rfl (Nat.le_of_ble_eq_true rfl) (Nat.le_of_ble_eq_true rfl) hk
theorem dX8_checkTrace_0 : decode cX8_checkTrace 0 = .ok (.iload_n 1, 1) := by decide +kernel
theorem dX8_checkTrace_1 : decode cX8_checkTrace 1 = .ok (.iconst 4, 1) := by decide +kernel
theorem dX8_checkTrace_2 : decode cX8_checkTrace 2 = .ok (.invokestatic 106, 3) := by decide +kernel
theorem dX8_checkTrace_5 : decode cX8_checkTrace 5 = .ok (.ifCond .ne 14, 3) := by decide +kernel
theorem dX8_checkTrace_8 : decode cX8_checkTrace 8 = .ok (.new 474, 3) := by decide +kernel
theorem dX8_checkTrace_11 : decode cX8_checkTrace 11 = .ok (.dup, 1) := by decide +kernel
theorem dX8_checkTrace_12 : decode cX8_checkTrace 12 = .ok (.ldc_w 479, 3) := by decide +kernel
theorem dX8_checkTrace_15 : decode cX8_checkTrace 15 = .ok (.invokespecial 478, 3) := by decide +kernel
theorem dX8_checkTrace_18 : decode cX8_checkTrace 18 = .ok (.athrow, 1) := by decide +kernel
theorem dX8_checkTrace_19 : decode cX8_checkTrace 19 = .ok (.return_, 1) := by decide +kernel
set_option maxRecDepth 100000 in
set_option maxHeartbeats 4000000 in
theorem w8_checkTrace_ok {l : Launch} {idx : List (Nat × Nat)} {μ : Mem} {a1 : Int32} {P : Mem → Prop} {X : String → Mem → Prop} (hl : l.stackTraces = false) (hI : IdxOK idx) (hk : w8_checkTrace_wp μ a1 P X) : PMet l yX8_checkTrace (.code yX8_checkTrace cX8_checkTrace 2 none) 8 1 6 idx [pR 40 0, pI a1] μ (qV P) X := by
  refine PMet_of mv_X8_checkTrace.2.2.2.2.2.2 hl hI mv_X8_checkTrace.2.2.2.1 rfl (Nat.le_of_ble_eq_true rfl) (fun G _ _ C hRt hHR hnT => ?_)
  show PW G 1 6 0 [some (pR 40 0), some (pI a1)] [] μ
  unfold w8_checkTrace_wp at hk
  refine px_iload_n (i := 1) C dX8_checkTrace_0 rfl rfl ?_
  refine px_iconst (v := (4 : Int32)) C dX8_checkTrace_1 rfl ?_
  refine px_callSi (h := 0) (rc' := 1) (rs' := 6) C (HR_le hHR (Nat.le_of_ble_eq_true rfl)) hRt hnT dX8_checkTrace_2 (gw3 65 rfl rfl) ms_X8_isWithin (w8_isWithin_ok (PCx_l C) (PCx_I C) hk) rfl rfl (Nat.le_of_ble_eq_true rfl) (Nat.le_of_ble_eq_true rfl) (Nat.le_of_ble_eq_true rfl) (Nat.le_of_ble_eq_true rfl) ?_
  intro r2 μ1 hk
  refine px_if_ne (tgt := 19) C dX8_checkTrace_5 (by decide) (fun c3 => ?_) (fun c3 => ?_)
  · replace hk := hk.1 c3
    exact px_vret C hRt dX8_checkTrace_19 rfl hk
  · replace hk := hk.2 c3
    exact px_throww (h9 := 0) C (HR_le hHR (Nat.le_of_ble_eq_true rfl)) hRt hnT tk_IndexOutOfBoundsException ti_IndexOutOfBoundsException tw_IndexOutOfBoundsException (by decide +kernel) (List.mem_of_getElem? (i := 11) rfl) dX8_checkTrace_8 dX8_checkTrace_11 dX8_checkTrace_12 dX8_checkTrace_15 dX8_checkTrace_18 rfl (Nat.le_of_ble_eq_true rfl) (Nat.le_of_ble_eq_true rfl) hk
theorem dX8_checkService_0 : decode cX8_checkService 0 = .ok (.iload_n 1, 1) := by decide +kernel
theorem dX8_checkService_1 : decode cX8_checkService 1 = .ok (.bipush 8, 2) := by decide +kernel
theorem dX8_checkService_3 : decode cX8_checkService 3 = .ok (.invokestatic 106, 3) := by decide +kernel
theorem dX8_checkService_6 : decode cX8_checkService 6 = .ok (.ifCond .ne 14, 3) := by decide +kernel
theorem dX8_checkService_9 : decode cX8_checkService 9 = .ok (.new 474, 3) := by decide +kernel
theorem dX8_checkService_12 : decode cX8_checkService 12 = .ok (.dup, 1) := by decide +kernel
theorem dX8_checkService_13 : decode cX8_checkService 13 = .ok (.ldc_w 481, 3) := by decide +kernel
theorem dX8_checkService_16 : decode cX8_checkService 16 = .ok (.invokespecial 478, 3) := by decide +kernel
theorem dX8_checkService_19 : decode cX8_checkService 19 = .ok (.athrow, 1) := by decide +kernel
theorem dX8_checkService_20 : decode cX8_checkService 20 = .ok (.return_, 1) := by decide +kernel
set_option maxRecDepth 100000 in
set_option maxHeartbeats 4000000 in
theorem w8_checkService_ok {l : Launch} {idx : List (Nat × Nat)} {μ : Mem} {a1 : Int32} {P : Mem → Prop} {X : String → Mem → Prop} (hl : l.stackTraces = false) (hI : IdxOK idx) (hk : w8_checkService_wp μ a1 P X) : PMet l yX8_checkService (.code yX8_checkService cX8_checkService 2 none) 8 1 6 idx [pR 40 0, pI a1] μ (qV P) X := by
  refine PMet_of mv_X8_checkService.2.2.2.2.2.2 hl hI mv_X8_checkService.2.2.2.1 rfl (Nat.le_of_ble_eq_true rfl) (fun G _ _ C hRt hHR hnT => ?_)
  show PW G 1 6 0 [some (pR 40 0), some (pI a1)] [] μ
  unfold w8_checkService_wp at hk
  refine px_iload_n (i := 1) C dX8_checkService_0 rfl rfl ?_
  refine px_bipush (v := (8 : Int32)) C dX8_checkService_1 rfl ?_
  refine px_callSi (h := 0) (rc' := 1) (rs' := 6) C (HR_le hHR (Nat.le_of_ble_eq_true rfl)) hRt hnT dX8_checkService_3 (gw3 65 rfl rfl) ms_X8_isWithin (w8_isWithin_ok (PCx_l C) (PCx_I C) hk) rfl rfl (Nat.le_of_ble_eq_true rfl) (Nat.le_of_ble_eq_true rfl) (Nat.le_of_ble_eq_true rfl) (Nat.le_of_ble_eq_true rfl) ?_
  intro r2 μ1 hk
  refine px_if_ne (tgt := 20) C dX8_checkService_6 (by decide) (fun c3 => ?_) (fun c3 => ?_)
  · replace hk := hk.1 c3
    exact px_vret C hRt dX8_checkService_20 rfl hk
  · replace hk := hk.2 c3
    exact px_throww (h9 := 0) C (HR_le hHR (Nat.le_of_ble_eq_true rfl)) hRt hnT tk_IndexOutOfBoundsException ti_IndexOutOfBoundsException tw_IndexOutOfBoundsException (by decide +kernel) (List.mem_of_getElem? (i := 7) rfl) dX8_checkService_9 dX8_checkService_12 dX8_checkService_13 dX8_checkService_16 dX8_checkService_19 rfl (Nat.le_of_ble_eq_true rfl) (Nat.le_of_ble_eq_true rfl) hk
theorem dX8_checkLink_0 : decode cX8_checkLink 0 = .ok (.iload_n 1, 1) := by decide +kernel
theorem dX8_checkLink_1 : decode cX8_checkLink 1 = .ok (.bipush 30, 2) := by decide +kernel
theorem dX8_checkLink_3 : decode cX8_checkLink 3 = .ok (.invokestatic 106, 3) := by decide +kernel
theorem dX8_checkLink_6 : decode cX8_checkLink 6 = .ok (.ifCond .eq 14, 3) := by decide +kernel
theorem dX8_checkLink_9 : decode cX8_checkLink 9 = .ok (.iload_n 1, 1) := by decide +kernel
theorem dX8_checkLink_10 : decode cX8_checkLink 10 = .ok (.aload_n 0, 1) := by decide +kernel
theorem dX8_checkLink_11 : decode cX8_checkLink 11 = .ok (.getfield 94, 3) := by decide +kernel
theorem dX8_checkLink_14 : decode cX8_checkLink 14 = .ok (.getfield 367, 3) := by decide +kernel
theorem dX8_checkLink_17 : decode cX8_checkLink 17 = .ok (.if_icmp .lt 14, 3) := by decide +kernel
theorem dX8_checkLink_20 : decode cX8_checkLink 20 = .ok (.new 474, 3) := by decide +kernel
theorem dX8_checkLink_23 : decode cX8_checkLink 23 = .ok (.dup, 1) := by decide +kernel
theorem dX8_checkLink_24 : decode cX8_checkLink 24 = .ok (.ldc_w 483, 3) := by decide +kernel
theorem dX8_checkLink_27 : decode cX8_checkLink 27 = .ok (.invokespecial 478, 3) := by decide +kernel
theorem dX8_checkLink_30 : decode cX8_checkLink 30 = .ok (.athrow, 1) := by decide +kernel
theorem dX8_checkLink_31 : decode cX8_checkLink 31 = .ok (.return_, 1) := by decide +kernel
set_option maxRecDepth 100000 in
set_option maxHeartbeats 4000000 in
theorem w8_checkLink_ok {l : Launch} {idx : List (Nat × Nat)} {μ : Mem} {a1 : Int32} {P : Mem → Prop} {X : String → Mem → Prop} (hl : l.stackTraces = false) (hI : IdxOK idx) (hk : w8_checkLink_wp μ a1 P X) : PMet l yX8_checkLink (.code yX8_checkLink cX8_checkLink 2 none) 8 1 6 idx [pR 40 0, pI a1] μ (qV P) X := by
  refine PMet_of mv_X8_checkLink.2.2.2.2.2.2 hl hI mv_X8_checkLink.2.2.2.1 rfl (Nat.le_of_ble_eq_true rfl) (fun G _ _ C hRt hHR hnT => ?_)
  show PW G 1 6 0 [some (pR 40 0), some (pI a1)] [] μ
  unfold w8_checkLink_wp at hk
  refine px_iload_n (i := 1) C dX8_checkLink_0 rfl rfl ?_
  refine px_bipush (v := (30 : Int32)) C dX8_checkLink_1 rfl ?_
  refine px_callSi (h := 0) (rc' := 1) (rs' := 6) C (HR_le hHR (Nat.le_of_ble_eq_true rfl)) hRt hnT dX8_checkLink_3 (gw3 65 rfl rfl) ms_X8_isWithin (w8_isWithin_ok (PCx_l C) (PCx_I C) hk) rfl rfl (Nat.le_of_ble_eq_true rfl) (Nat.le_of_ble_eq_true rfl) (Nat.le_of_ble_eq_true rfl) (Nat.le_of_ble_eq_true rfl) ?_
  intro r2 μ1 hk
  refine px_if_eq (tgt := 20) C dX8_checkLink_6 (by decide) (fun c4 => ?_) (fun c4 => ?_)
  · replace hk := hk.1 c4
    exact px_throww (h9 := 0) C (HR_le hHR (Nat.le_of_ble_eq_true rfl)) hRt hnT tk_IndexOutOfBoundsException ti_IndexOutOfBoundsException tw_IndexOutOfBoundsException (by decide +kernel) (List.mem_of_getElem? (i := 26) rfl) dX8_checkLink_20 dX8_checkLink_23 dX8_checkLink_24 dX8_checkLink_27 dX8_checkLink_30 rfl (Nat.le_of_ble_eq_true rfl) (Nat.le_of_ble_eq_true rfl) hk
  · replace hk := hk.2 c4
    refine px_iload_n (i := 1) C dX8_checkLink_9 rfl rfl ?_
    refine px_aload_n (i := 0) C dX8_checkLink_10 rfl rfl ?_
    refine px_getr C dX8_checkLink_11 fl_RX8_94 rfl rfl rfl ?_
    refine px_geti 2 C dX8_checkLink_14 fl_RX8_367 rfl rfl rfl rfl ?_
    refine px_icmp_lt (tgt := 31) C dX8_checkLink_17 (by decide) (fun c3 => ?_) (fun c3 => ?_)
    · replace hk := hk.1 c3
      exact px_vret C hRt dX8_checkLink_31 rfl hk
    · replace hk := hk.2 c3
      exact px_throww (h9 := 0) C (HR_le hHR (Nat.le_of_ble_eq_true rfl)) hRt hnT tk_IndexOutOfBoundsException ti_IndexOutOfBoundsException tw_IndexOutOfBoundsException (by decide +kernel) (List.mem_of_getElem? (i := 26) rfl) dX8_checkLink_20 dX8_checkLink_23 dX8_checkLink_24 dX8_checkLink_27 dX8_checkLink_30 rfl (Nat.le_of_ble_eq_true rfl) (Nat.le_of_ble_eq_true rfl) hk
theorem dX8_checkShelfPlace_0 : decode cX8_checkShelfPlace 0 = .ok (.iload_n 1, 1) := by decide +kernel
theorem dX8_checkShelfPlace_1 : decode cX8_checkShelfPlace 1 = .ok (.iconst 2, 1) := by decide +kernel
theorem dX8_checkShelfPlace_2 : decode cX8_checkShelfPlace 2 = .ok (.invokestatic 106, 3) := by decide +kernel
theorem dX8_checkShelfPlace_5 : decode cX8_checkShelfPlace 5 = .ok (.ifCond .eq 11, 3) := by decide +kernel
theorem dX8_checkShelfPlace_8 : decode cX8_checkShelfPlace 8 = .ok (.iload_n 2, 1) := by decide +kernel
theorem dX8_checkShelfPlace_9 : decode cX8_checkShelfPlace 9 = .ok (.iconst 4, 1) := by decide +kernel
theorem dX8_checkShelfPlace_10 : decode cX8_checkShelfPlace 10 = .ok (.invokestatic 106, 3) := by decide +kernel
theorem dX8_checkShelfPlace_13 : decode cX8_checkShelfPlace 13 = .ok (.ifCond .ne 14, 3) := by decide +kernel
theorem dX8_checkShelfPlace_16 : decode cX8_checkShelfPlace 16 = .ok (.new 474, 3) := by decide +kernel
theorem dX8_checkShelfPlace_19 : decode cX8_checkShelfPlace 19 = .ok (.dup, 1) := by decide +kernel
theorem dX8_checkShelfPlace_20 : decode cX8_checkShelfPlace 20 = .ok (.ldc_w 485, 3) := by decide +kernel
theorem dX8_checkShelfPlace_23 : decode cX8_checkShelfPlace 23 = .ok (.invokespecial 478, 3) := by decide +kernel
theorem dX8_checkShelfPlace_26 : decode cX8_checkShelfPlace 26 = .ok (.athrow, 1) := by decide +kernel
theorem dX8_checkShelfPlace_27 : decode cX8_checkShelfPlace 27 = .ok (.return_, 1) := by decide +kernel
set_option maxRecDepth 100000 in
set_option maxHeartbeats 4000000 in
theorem w8_checkShelfPlace_ok {l : Launch} {idx : List (Nat × Nat)} {μ : Mem} {a1 : Int32} {a2 : Int32} {P : Mem → Prop} {X : String → Mem → Prop} (hl : l.stackTraces = false) (hI : IdxOK idx) (hk : w8_checkShelfPlace_wp μ a1 a2 P X) : PMet l yX8_checkShelfPlace (.code yX8_checkShelfPlace cX8_checkShelfPlace 3 none) 8 1 6 idx [pR 40 0, pI a1, pI a2] μ (qV P) X := by
  refine PMet_of mv_X8_checkShelfPlace.2.2.2.2.2.2 hl hI mv_X8_checkShelfPlace.2.2.2.1 rfl (Nat.le_of_ble_eq_true rfl) (fun G _ _ C hRt hHR hnT => ?_)
  show PW G 1 6 0 [some (pR 40 0), some (pI a1), some (pI a2)] [] μ
  unfold w8_checkShelfPlace_wp at hk
  refine px_iload_n (i := 1) C dX8_checkShelfPlace_0 rfl rfl ?_
  refine px_iconst (v := (2 : Int32)) C dX8_checkShelfPlace_1 rfl ?_
  refine px_callSi (h := 0) (rc' := 1) (rs' := 6) C (HR_le hHR (Nat.le_of_ble_eq_true rfl)) hRt hnT dX8_checkShelfPlace_2 (gw3 65 rfl rfl) ms_X8_isWithin (w8_isWithin_ok (PCx_l C) (PCx_I C) hk) rfl rfl (Nat.le_of_ble_eq_true rfl) (Nat.le_of_ble_eq_true rfl) (Nat.le_of_ble_eq_true rfl) (Nat.le_of_ble_eq_true rfl) ?_
  intro r2 μ1 hk
  refine px_if_eq (tgt := 16) C dX8_checkShelfPlace_5 (by decide) (fun c6 => ?_) (fun c6 => ?_)
  · replace hk := hk.1 c6
    exact px_throww (h9 := 0) C (HR_le hHR (Nat.le_of_ble_eq_true rfl)) hRt hnT tk_IndexOutOfBoundsException ti_IndexOutOfBoundsException tw_IndexOutOfBoundsException (by decide +kernel) (List.mem_of_getElem? (i := 27) rfl) dX8_checkShelfPlace_16 dX8_checkShelfPlace_19 dX8_checkShelfPlace_20 dX8_checkShelfPlace_23 dX8_checkShelfPlace_26 rfl (Nat.le_of_ble_eq_true rfl) (Nat.le_of_ble_eq_true rfl) hk
  · replace hk := hk.2 c6
    refine px_iload_n (i := 2) C dX8_checkShelfPlace_8 rfl rfl ?_
    refine px_iconst (v := (4 : Int32)) C dX8_checkShelfPlace_9 rfl ?_
    refine px_callSi (h := 0) (rc' := 1) (rs' := 6) C (HR_le hHR (Nat.le_of_ble_eq_true rfl)) hRt hnT dX8_checkShelfPlace_10 (gw3 65 rfl rfl) ms_X8_isWithin (w8_isWithin_ok (PCx_l C) (PCx_I C) hk) rfl rfl (Nat.le_of_ble_eq_true rfl) (Nat.le_of_ble_eq_true rfl) (Nat.le_of_ble_eq_true rfl) (Nat.le_of_ble_eq_true rfl) ?_
    intro r4 μ3 hk
    refine px_if_ne (tgt := 27) C dX8_checkShelfPlace_13 (by decide) (fun c5 => ?_) (fun c5 => ?_)
    · replace hk := hk.1 c5
      exact px_vret C hRt dX8_checkShelfPlace_27 rfl hk
    · replace hk := hk.2 c5
      exact px_throww (h9 := 0) C (HR_le hHR (Nat.le_of_ble_eq_true rfl)) hRt hnT tk_IndexOutOfBoundsException ti_IndexOutOfBoundsException tw_IndexOutOfBoundsException (by decide +kernel) (List.mem_of_getElem? (i := 27) rfl) dX8_checkShelfPlace_16 dX8_checkShelfPlace_19 dX8_checkShelfPlace_20 dX8_checkShelfPlace_23 dX8_checkShelfPlace_26 rfl (Nat.le_of_ble_eq_true rfl) (Nat.le_of_ble_eq_true rfl) hk
theorem dX8_extentOf_0 : decode cX8_extentOf 0 = .ok (.aload_n 0, 1) := by decide +kernel
theorem dX8_extentOf_1 : decode cX8_extentOf 1 = .ok (.getfield 78, 3) := by decide +kernel
theorem dX8_extentOf_4 : decode cX8_extentOf 4 = .ok (.iload_n 1, 1) := by decide +kernel
theorem dX8_extentOf_5 : decode cX8_extentOf 5 = .ok (.invokevirtual 321, 3) := by decide +kernel
theorem dX8_extentOf_8 : decode cX8_extentOf 8 = .ok (.ifCond .ne 14, 3) := by decide +kernel
theorem dX8_extentOf_11 : decode cX8_extentOf 11 = .ok (.new 206, 3) := by decide +kernel
theorem dX8_extentOf_14 : decode cX8_extentOf 14 = .ok (.dup, 1) := by decide +kernel
theorem dX8_extentOf_15 : decode cX8_extentOf 15 = .ok (.ldc_w 326, 3) := by decide +kernel
theorem dX8_extentOf_18 : decode cX8_extentOf 18 = .ok (.invokespecial 210, 3) := by decide +kernel
theorem dX8_extentOf_21 : decode cX8_extentOf 21 = .ok (.athrow, 1) := by decide +kernel
theorem dX8_extentOf_22 : decode cX8_extentOf 22 = .ok (.aload_n 0, 1) := by decide +kernel
theorem dX8_extentOf_23 : decode cX8_extentOf 23 = .ok (.getfield 78, 3) := by decide +kernel
theorem dX8_extentOf_26 : decode cX8_extentOf 26 = .ok (.iload_n 1, 1) := by decide +kernel
theorem dX8_extentOf_27 : decode cX8_extentOf 27 = .ok (.invokevirtual 489, 3) := by decide +kernel
theorem dX8_extentOf_30 : decode cX8_extentOf 30 = .ok (.aload_n 0, 1) := by decide +kernel
theorem dX8_extentOf_31 : decode cX8_extentOf 31 = .ok (.getfield 78, 3) := by decide +kernel
theorem dX8_extentOf_34 : decode cX8_extentOf 34 = .ok (.iload_n 1, 1) := by decide +kernel
theorem dX8_extentOf_35 : decode cX8_extentOf 35 = .ok (.invokevirtual 492, 3) := by decide +kernel
theorem dX8_extentOf_38 : decode cX8_extentOf 38 = .ok (.isub, 1) := by decide +kernel
theorem dX8_extentOf_39 : decode cX8_extentOf 39 = .ok (.ireturn, 1) := by decide +kernel
set_option maxRecDepth 100000 in
set_option maxHeartbeats 4000000 in
theorem w8_extentOf_ok {l : Launch} {idx : List (Nat × Nat)} {μ : Mem} {a1 : Int32} {P : Int32 → Mem → Prop} {X : String → Mem → Prop} (hl : l.stackTraces = false) (hI : IdxOK idx) (hk : w8_extentOf_wp μ a1 P X) : PMet l yX8_extentOf (.code yX8_extentOf cX8_extentOf 2 (some .int)) 8 1 6 idx [pR 40 0, pI a1] μ (qI P) X := by
  refine PMet_of mv_X8_extentOf.2.2.2.2.2.2 hl hI mv_X8_extentOf.2.2.2.1 rfl (Nat.le_of_ble_eq_true rfl) (fun G _ _ C hRt hHR hnT => ?_)
  show PW G 1 6 0 [some (pR 40 0), some (pI a1)] [] μ
  unfold w8_extentOf_wp at hk
  refine px_aload_n (i := 0) C dX8_extentOf_0 rfl rfl ?_
  refine px_getr C dX8_extentOf_1 fl_RX8_78 rfl rfl rfl ?_
  refine px_iload_n (i := 1) C dX8_extentOf_4 rfl rfl ?_
  refine px_callVi (h := 1) (rc' := 1) (rs' := 6) C (HR_le hHR (Nat.le_of_ble_eq_true rfl)) hRt hnT dX8_extentOf_5 (gw5 140 rfl rfl) mv_X1_spansOf (w1_spansOf_ok (PCx_l C) (PCx_I C) hk) rfl rfl rfl rfl rfl (Nat.le_of_ble_eq_true rfl) (Nat.le_of_ble_eq_true rfl) (Nat.le_of_ble_eq_true rfl) (Nat.le_of_ble_eq_true rfl) ?_
  intro r2 μ1 hk
  refine px_if_ne (tgt := 22) C dX8_extentOf_8 (by decide) (fun c7 => ?_) (fun c7 => ?_)
  · replace hk := hk.1 c7
    refine px_aload_n (i := 0) C dX8_extentOf_22 rfl rfl ?_
    refine px_getr C dX8_extentOf_23 fl_RX8_78 rfl rfl rfl ?_
    refine px_iload_n (i := 1) C dX8_extentOf_26 rfl rfl ?_
    refine px_callVi (h := 1) (rc' := 0) (rs' := 0) C (HR_le hHR (Nat.le_of_ble_eq_true rfl)) hRt hnT dX8_extentOf_27 (gw5 211 rfl rfl) mv_X1_latestEnd (w1_latestEnd_ok (PCx_l C) (PCx_I C) hk) rfl rfl rfl rfl rfl (Nat.le_of_ble_eq_true rfl) (Nat.le_of_ble_eq_true rfl) (Nat.le_of_ble_eq_true rfl) (Nat.le_of_ble_eq_true rfl) ?_
    intro r4 μ3 hk
    refine px_aload_n (i := 0) C dX8_extentOf_30 rfl rfl ?_
    refine px_getr C dX8_extentOf_31 fl_RX8_78 rfl rfl rfl ?_
    refine px_iload_n (i := 1) C dX8_extentOf_34 rfl rfl ?_
    refine px_callVi (h := 1) (rc' := 0) (rs' := 0) C (HR_le hHR (Nat.le_of_ble_eq_true rfl)) hRt hnT dX8_extentOf_35 (gw5 216 rfl rfl) mv_X1_earliestBegin (w1_earliestBegin_ok (PCx_l C) (PCx_I C) hk) rfl rfl rfl rfl rfl (Nat.le_of_ble_eq_true rfl) (Nat.le_of_ble_eq_true rfl) (Nat.le_of_ble_eq_true rfl) (Nat.le_of_ble_eq_true rfl) ?_
    intro r6 μ5 hk
    refine px_isub C dX8_extentOf_38 ?_
    exact px_iret C hRt dX8_extentOf_39 rfl rfl hk
  · replace hk := hk.2 c7
    exact px_throwwN (h9 := 0) C (HR_le hHR (Nat.le_of_ble_eq_true rfl)) hRt hnT tk_NoSuchElementException ti_NoSuchElementException (List.mem_of_getElem? (i := 20) rfl) rfl dX8_extentOf_11 dX8_extentOf_14 dX8_extentOf_15 dX8_extentOf_18 dX8_extentOf_21 rfl (Nat.le_of_ble_eq_true rfl) (Nat.le_of_ble_eq_true rfl) hk
theorem dX8_positiveExtentOf_0 : decode cX8_positiveExtentOf 0 = .ok (.aload_n 0, 1) := by decide +kernel
theorem dX8_positiveExtentOf_1 : decode cX8_positiveExtentOf 1 = .ok (.iload_n 1, 1) := by decide +kernel
theorem dX8_positiveExtentOf_2 : decode cX8_positiveExtentOf 2 = .ok (.invokevirtual 353, 3) := by decide +kernel
theorem dX8_positiveExtentOf_5 : decode cX8_positiveExtentOf 5 = .ok (.istore_n 2, 1) := by decide +kernel
theorem dX8_positiveExtentOf_6 : decode cX8_positiveExtentOf 6 = .ok (.iload_n 2, 1) := by decide +kernel
theorem dX8_positiveExtentOf_7 : decode cX8_positiveExtentOf 7 = .ok (.ifCond .ne 14, 3) := by decide +kernel
theorem dX8_positiveExtentOf_10 : decode cX8_positiveExtentOf 10 = .ok (.new 324, 3) := by decide +kernel
theorem dX8_positiveExtentOf_13 : decode cX8_positiveExtentOf 13 = .ok (.dup, 1) := by decide +kernel
theorem dX8_positiveExtentOf_14 : decode cX8_positiveExtentOf 14 = .ok (.ldc_w 495, 3) := by decide +kernel
theorem dX8_positiveExtentOf_17 : decode cX8_positiveExtentOf 17 = .ok (.invokespecial 328, 3) := by decide +kernel
theorem dX8_positiveExtentOf_20 : decode cX8_positiveExtentOf 20 = .ok (.athrow, 1) := by decide +kernel
theorem dX8_positiveExtentOf_21 : decode cX8_positiveExtentOf 21 = .ok (.iload_n 2, 1) := by decide +kernel
theorem dX8_positiveExtentOf_22 : decode cX8_positiveExtentOf 22 = .ok (.ireturn, 1) := by decide +kernel
set_option maxRecDepth 100000 in
set_option maxHeartbeats 4000000 in
theorem w8_positiveExtentOf_ok {l : Launch} {idx : List (Nat × Nat)} {μ : Mem} {a1 : Int32} {P : Int32 → Mem → Prop} {X : String → Mem → Prop} (hl : l.stackTraces = false) (hI : IdxOK idx) (hk : w8_positiveExtentOf_wp μ a1 P X) : PMet l yX8_positiveExtentOf (.code yX8_positiveExtentOf cX8_positiveExtentOf 3 (some .int)) 9 2 12 idx [pR 40 0, pI a1] μ (qI P) X := by
  refine PMet_of mv_X8_positiveExtentOf.2.2.2.2.2.2 hl hI mv_X8_positiveExtentOf.2.2.2.1 rfl (Nat.le_of_ble_eq_true rfl) (fun G _ _ C hRt hHR hnT => ?_)
  show PW G 2 12 0 [some (pR 40 0), some (pI a1), none] [] μ
  unfold w8_positiveExtentOf_wp at hk
  refine px_aload_n (i := 0) C dX8_positiveExtentOf_0 rfl rfl ?_
  refine px_iload_n (i := 1) C dX8_positiveExtentOf_1 rfl rfl ?_
  refine px_callVi (h := 8) (rc' := 1) (rs' := 6) C (HR_le hHR (Nat.le_of_ble_eq_true rfl)) hRt hnT dX8_positiveExtentOf_2 (gw5 207 rfl rfl) mv_X8_extentOf (w8_extentOf_ok (PCx_l C) (PCx_I C) hk) rfl rfl rfl rfl rfl (Nat.le_of_ble_eq_true rfl) (Nat.le_of_ble_eq_true rfl) (Nat.le_of_ble_eq_true rfl) (Nat.le_of_ble_eq_true rfl) ?_
  intro r2 μ1 hk
  refine px_istore_n (i := 2) C dX8_positiveExtentOf_5 rfl (by decide) rfl ?_
  refine px_iload_n (i := 2) C dX8_positiveExtentOf_6 rfl rfl ?_
  refine px_if_ne (tgt := 21) C dX8_positiveExtentOf_7 (by decide) (fun c3 => ?_) (fun c3 => ?_)
  · replace hk := hk.1 c3
    refine px_iload_n (i := 2) C dX8_positiveExtentOf_21 rfl rfl ?_
    exact px_iret C hRt dX8_positiveExtentOf_22 rfl rfl hk
  · replace hk := hk.2 c3
    exact px_throww (h9 := 1) C (HR_le hHR (Nat.le_of_ble_eq_true rfl)) hRt hnT tk_ArithmeticException ti_ArithmeticException tw_ArithmeticException (by decide +kernel) (List.mem_of_getElem? (i := 23) rfl) dX8_positiveExtentOf_10 dX8_positiveExtentOf_13 dX8_positiveExtentOf_14 dX8_positiveExtentOf_17 dX8_positiveExtentOf_20 rfl (Nat.le_of_ble_eq_true rfl) (Nat.le_of_ble_eq_true rfl) hk
theorem dX8_canAddDraft_0 : decode cX8_canAddDraft 0 = .ok (.aload_n 0, 1) := by decide +kernel
theorem dX8_canAddDraft_1 : decode cX8_canAddDraft 1 = .ok (.getfield 16, 3) := by decide +kernel
theorem dX8_canAddDraft_4 : decode cX8_canAddDraft 4 = .ok (.getfield 97, 3) := by decide +kernel
theorem dX8_canAddDraft_7 : decode cX8_canAddDraft 7 = .ok (.bipush 40, 2) := by decide +kernel
theorem dX8_canAddDraft_9 : decode cX8_canAddDraft 9 = .ok (.aload_n 0, 1) := by decide +kernel
theorem dX8_canAddDraft_10 : decode cX8_canAddDraft 10 = .ok (.getfield 94, 3) := by decide +kernel
theorem dX8_canAddDraft_13 : decode cX8_canAddDraft 13 = .ok (.getfield 97, 3) := by decide +kernel
theorem dX8_canAddDraft_16 : decode cX8_canAddDraft 16 = .ok (.isub, 1) := by decide +kernel
theorem dX8_canAddDraft_17 : decode cX8_canAddDraft 17 = .ok (.if_icmp .le 5, 3) := by decide +kernel
theorem dX8_canAddDraft_20 : decode cX8_canAddDraft 20 = .ok (.iconst 0, 1) := by decide +kernel
theorem dX8_canAddDraft_21 : decode cX8_canAddDraft 21 = .ok (.ireturn, 1) := by decide +kernel
theorem dX8_canAddDraft_22 : decode cX8_canAddDraft 22 = .ok (.iconst 0, 1) := by decide +kernel
theorem dX8_canAddDraft_23 : decode cX8_canAddDraft 23 = .ok (.istore_n 1, 1) := by decide +kernel
theorem dX8_canAddDraft_24 : decode cX8_canAddDraft 24 = .ok (.iload_n 1, 1) := by decide +kernel
theorem dX8_canAddDraft_25 : decode cX8_canAddDraft 25 = .ok (.aload_n 0, 1) := by decide +kernel
theorem dX8_canAddDraft_26 : decode cX8_canAddDraft 26 = .ok (.getfield 16, 3) := by decide +kernel
theorem dX8_canAddDraft_29 : decode cX8_canAddDraft 29 = .ok (.getfield 97, 3) := by decide +kernel
theorem dX8_canAddDraft_32 : decode cX8_canAddDraft 32 = .ok (.if_icmp .ge 82, 3) := by decide +kernel
theorem dX8_canAddDraft_35 : decode cX8_canAddDraft 35 = .ok (.aload_n 0, 1) := by decide +kernel
theorem dX8_canAddDraft_36 : decode cX8_canAddDraft 36 = .ok (.getfield 16, 3) := by decide +kernel
theorem dX8_canAddDraft_39 : decode cX8_canAddDraft 39 = .ok (.getfield 252, 3) := by decide +kernel
theorem dX8_canAddDraft_42 : decode cX8_canAddDraft 42 = .ok (.iload_n 1, 1) := by decide +kernel
theorem dX8_canAddDraft_43 : decode cX8_canAddDraft 43 = .ok (.invokestatic 155, 3) := by decide +kernel
theorem dX8_canAddDraft_46 : decode cX8_canAddDraft 46 = .ok (.istore_n 2, 1) := by decide +kernel
theorem dX8_canAddDraft_47 : decode cX8_canAddDraft 47 = .ok (.aload_n 0, 1) := by decide +kernel
theorem dX8_canAddDraft_48 : decode cX8_canAddDraft 48 = .ok (.getfield 94, 3) := by decide +kernel
theorem dX8_canAddDraft_51 : decode cX8_canAddDraft 51 = .ok (.iload_n 2, 1) := by decide +kernel
theorem dX8_canAddDraft_52 : decode cX8_canAddDraft 52 = .ok (.invokevirtual 126, 3) := by decide +kernel
theorem dX8_canAddDraft_55 : decode cX8_canAddDraft 55 = .ok (.iconst (-1), 1) := by decide +kernel
theorem dX8_canAddDraft_56 : decode cX8_canAddDraft 56 = .ok (.if_icmp .ne 15, 3) := by decide +kernel
theorem dX8_canAddDraft_59 : decode cX8_canAddDraft 59 = .ok (.aload_n 0, 1) := by decide +kernel
theorem dX8_canAddDraft_60 : decode cX8_canAddDraft 60 = .ok (.getfield 16, 3) := by decide +kernel
theorem dX8_canAddDraft_63 : decode cX8_canAddDraft 63 = .ok (.iload_n 2, 1) := by decide +kernel
theorem dX8_canAddDraft_64 : decode cX8_canAddDraft 64 = .ok (.invokevirtual 126, 3) := by decide +kernel
theorem dX8_canAddDraft_67 : decode cX8_canAddDraft 67 = .ok (.iload_n 1, 1) := by decide +kernel
theorem dX8_canAddDraft_68 : decode cX8_canAddDraft 68 = .ok (.if_icmp .eq 7, 3) := by decide +kernel
theorem dX8_canAddDraft_71 : decode cX8_canAddDraft 71 = .ok (.iconst 1, 1) := by decide +kernel
theorem dX8_canAddDraft_72 : decode cX8_canAddDraft 72 = .ok (.goto 4, 3) := by decide +kernel
theorem dX8_canAddDraft_75 : decode cX8_canAddDraft 75 = .ok (.iconst 0, 1) := by decide +kernel
theorem dX8_canAddDraft_76 : decode cX8_canAddDraft 76 = .ok (.istore_n 3, 1) := by decide +kernel
theorem dX8_canAddDraft_77 : decode cX8_canAddDraft 77 = .ok (.iload_n 3, 1) := by decide +kernel
theorem dX8_canAddDraft_78 : decode cX8_canAddDraft 78 = .ok (.ifCond .ne 28, 3) := by decide +kernel
theorem dX8_canAddDraft_81 : decode cX8_canAddDraft 81 = .ok (.aload_n 0, 1) := by decide +kernel
theorem dX8_canAddDraft_82 : decode cX8_canAddDraft 82 = .ok (.getfield 16, 3) := by decide +kernel
theorem dX8_canAddDraft_85 : decode cX8_canAddDraft 85 = .ok (.getfield 168, 3) := by decide +kernel
theorem dX8_canAddDraft_88 : decode cX8_canAddDraft 88 = .ok (.iload_n 1, 1) := by decide +kernel
theorem dX8_canAddDraft_89 : decode cX8_canAddDraft 89 = .ok (.invokestatic 155, 3) := by decide +kernel
theorem dX8_canAddDraft_92 : decode cX8_canAddDraft 92 = .ok (.aload_n 0, 1) := by decide +kernel
theorem dX8_canAddDraft_93 : decode cX8_canAddDraft 93 = .ok (.getfield 16, 3) := by decide +kernel
theorem dX8_canAddDraft_96 : decode cX8_canAddDraft 96 = .ok (.getfield 171, 3) := by decide +kernel
theorem dX8_canAddDraft_99 : decode cX8_canAddDraft 99 = .ok (.iload_n 1, 1) := by decide +kernel
theorem dX8_canAddDraft_100 : decode cX8_canAddDraft 100 = .ok (.invokestatic 155, 3) := by decide +kernel
theorem dX8_canAddDraft_103 : decode cX8_canAddDraft 103 = .ok (.if_icmp .le 5, 3) := by decide +kernel
theorem dX8_canAddDraft_106 : decode cX8_canAddDraft 106 = .ok (.iconst 0, 1) := by decide +kernel
theorem dX8_canAddDraft_107 : decode cX8_canAddDraft 107 = .ok (.ireturn, 1) := by decide +kernel
theorem dX8_canAddDraft_108 : decode cX8_canAddDraft 108 = .ok (.iinc 1 1, 3) := by decide +kernel
theorem dX8_canAddDraft_111 : decode cX8_canAddDraft 111 = .ok (.goto (-87), 3) := by decide +kernel
theorem dX8_canAddDraft_114 : decode cX8_canAddDraft 114 = .ok (.iconst 1, 1) := by decide +kernel
theorem dX8_canAddDraft_115 : decode cX8_canAddDraft 115 = .ok (.ireturn, 1) := by decide +kernel
set_option maxRecDepth 100000 in
set_option maxHeartbeats 4000000 in
theorem w8_canAddDraft_b76_ok {G : GT} {P : Int32 → Mem → Prop} {X : String → Mem → Prop} (C : PCx G cX8_canAddDraft 4 RX8) (hRt : PRt G (some .boolean) (qI P) X) (hHR : HR G (1)) (hnT : NoT G) {R24 : Mem → Int32 → Prop} (hR24 : ∀ (μ : Mem) (l1 : Int32), R24 μ l1 → PW G 0 0 24 [some (pR 40 0), some (pI l1), none, none] [] μ) {μ : Mem} {l1 : Int32} {s0 : Int32} (hk : w8_canAddDraft_b76 P R24 μ l1 s0) : PW G 0 0 76 [some (pR 40 0), some (pI l1), none, none] [pI s0] μ := by
  unfold w8_canAddDraft_b76 at hk
  refine px_istore_n (i := 3) C dX8_canAddDraft_76 rfl (by decide) rfl ?_
  refine px_iload_n (i := 3) C dX8_canAddDraft_77 rfl rfl ?_
  refine px_if_ne (tgt := 106) C dX8_canAddDraft_78 (by decide) (fun c7 => ?_) (fun c7 => ?_)
  · replace hk := hk.1 c7
    refine px_iconst (v := (0 : Int32)) C dX8_canAddDraft_106 rfl ?_
    exact px_iret C hRt dX8_canAddDraft_107 rfl rfl hk
  · replace hk := hk.2 c7
    refine px_aload_n (i := 0) C dX8_canAddDraft_81 rfl rfl ?_
    refine px_getr C dX8_canAddDraft_82 fl_RX8_16 rfl rfl rfl ?_
    refine px_getr C dX8_canAddDraft_85 fl_RX8_168 rfl rfl rfl ?_
    refine px_iload_n (i := 1) C dX8_canAddDraft_88 rfl rfl ?_
    obtain ⟨o4, hk⟩ := hk
    refine px_callSi (h := 0) (rc' := 0) (rs' := 0) C (HR_le hHR (Nat.le_of_ble_eq_true rfl)) hRt hnT dX8_canAddDraft_89 (gw4 2 rfl rfl) ms_X8_at (at_ok (j := 5) (q := 2) (n := 40) (loc := 320) (PCx_l C) (PCx_I C) rfl rfl rfl o4) rfl rfl (Nat.le_of_ble_eq_true rfl) (Nat.le_of_ble_eq_true rfl) (Nat.le_of_ble_eq_true rfl) (Nat.le_of_ble_eq_true rfl) ?_
    rintro _ _ ⟨rfl, rfl⟩
    refine px_aload_n (i := 0) C dX8_canAddDraft_92 rfl rfl ?_
    refine px_getr C dX8_canAddDraft_93 fl_RX8_16 rfl rfl rfl ?_
    refine px_getr C dX8_canAddDraft_96 fl_RX8_171 rfl rfl rfl ?_
    refine px_iload_n (i := 1) C dX8_canAddDraft_99 rfl rfl ?_
    obtain ⟨o5, hk⟩ := hk
    refine px_callSi (h := 0) (rc' := 0) (rs' := 0) C (HR_le hHR (Nat.le_of_ble_eq_true rfl)) hRt hnT dX8_canAddDraft_100 (gw4 2 rfl rfl) ms_X8_at (at_ok (j := 6) (q := 2) (n := 40) (loc := 384) (PCx_l C) (PCx_I C) rfl rfl rfl o5) rfl rfl (Nat.le_of_ble_eq_true rfl) (Nat.le_of_ble_eq_true rfl) (Nat.le_of_ble_eq_true rfl) (Nat.le_of_ble_eq_true rfl) ?_
    rintro _ _ ⟨rfl, rfl⟩
    refine px_icmp_le (tgt := 108) C dX8_canAddDraft_103 (by decide) (fun c6 => ?_) (fun c6 => ?_)
    · replace hk := hk.1 c6
      refine px_iinc (i := 1) (v := (1 : Int32)) C dX8_canAddDraft_108 rfl rfl (by decide) rfl ?_
      refine px_goto (tgt := 24) C dX8_canAddDraft_111 (by decide) ?_
      exact PW_at (hR24 _ _ hk) (And.intro rfl (And.intro rfl trivial)) (Nat.le_of_ble_eq_true rfl) (Nat.le_of_ble_eq_true rfl)
    · replace hk := hk.2 c6
      refine px_iconst (v := (0 : Int32)) C dX8_canAddDraft_106 rfl ?_
      exact px_iret C hRt dX8_canAddDraft_107 rfl rfl hk
set_option maxRecDepth 100000 in
set_option maxHeartbeats 4000000 in
theorem w8_canAddDraft_b24_ok {G : GT} {P : Int32 → Mem → Prop} {X : String → Mem → Prop} (C : PCx G cX8_canAddDraft 4 RX8) (hRt : PRt G (some .boolean) (qI P) X) (hHR : HR G (1)) (hnT : NoT G) {μ : Mem} {l1 : Int32} (hk : w8_canAddDraft_b24 P μ l1) : PW G 0 0 24 [some (pR 40 0), some (pI l1), none, none] [] μ := by
  refine hk (fun (μ : Mem) (l1 : Int32) => PW G 0 0 24 [some (pR 40 0), some (pI l1), none, none] [] μ) (fun (μ : Mem) l1 hk => ?_)
  have hR24 : ∀ (μ : Mem) (l1 : Int32), PW G 0 0 24 [some (pR 40 0), some (pI l1), none, none] [] μ → PW G 0 0 24 [some (pR 40 0), some (pI l1), none, none] [] μ := fun _ _ h => h
  unfold w8_canAddDraft_b24_body at hk
  refine px_iload_n (i := 1) C dX8_canAddDraft_24 rfl rfl ?_
  refine px_aload_n (i := 0) C dX8_canAddDraft_25 rfl rfl ?_
  refine px_getr C dX8_canAddDraft_26 fl_RX8_16 rfl rfl rfl ?_
  refine px_geti 1 C dX8_canAddDraft_29 fl_RX8_97 rfl rfl rfl rfl ?_
  refine px_icmp_ge (tgt := 114) C dX8_canAddDraft_32 (by decide) (fun c12 => ?_) (fun c12 => ?_)
  · replace hk := hk.1 c12
    refine px_iconst (v := (1 : Int32)) C dX8_canAddDraft_114 rfl ?_
    exact px_iret C hRt dX8_canAddDraft_115 rfl rfl hk
  · replace hk := hk.2 c12
    refine px_aload_n (i := 0) C dX8_canAddDraft_35 rfl rfl ?_
    refine px_getr C dX8_canAddDraft_36 fl_RX8_16 rfl rfl rfl ?_
    refine px_getr C dX8_canAddDraft_39 fl_RX8_252 rfl rfl rfl ?_
    refine px_iload_n (i := 1) C dX8_canAddDraft_42 rfl rfl ?_
    obtain ⟨o1, hk⟩ := hk
    refine px_callSi (h := 0) (rc' := 0) (rs' := 0) C (HR_le hHR (Nat.le_of_ble_eq_true rfl)) hRt hnT dX8_canAddDraft_43 (gw4 2 rfl rfl) ms_X8_at (at_ok (j := 2) (q := 2) (n := 40) (loc := 128) (PCx_l C) (PCx_I C) rfl rfl rfl o1) rfl rfl (Nat.le_of_ble_eq_true rfl) (Nat.le_of_ble_eq_true rfl) (Nat.le_of_ble_eq_true rfl) (Nat.le_of_ble_eq_true rfl) ?_
    rintro _ _ ⟨rfl, rfl⟩
    refine px_istore_n (i := 2) C dX8_canAddDraft_46 rfl (by decide) rfl ?_
    refine px_aload_n (i := 0) C dX8_canAddDraft_47 rfl rfl ?_
    refine px_getr C dX8_canAddDraft_48 fl_RX8_94 rfl rfl rfl ?_
    refine px_iload_n (i := 2) C dX8_canAddDraft_51 rfl rfl ?_
    refine px_callVi (h := 0) (rc' := 0) (rs' := 0) C (HR_le hHR (Nat.le_of_ble_eq_true rfl)) hRt hnT dX8_canAddDraft_52 (gw3 145 rfl rfl) mv_X7_find (w7_find_ok (PCx_l C) (PCx_I C) hk) rfl rfl rfl rfl rfl (Nat.le_of_ble_eq_true rfl) (Nat.le_of_ble_eq_true rfl) (Nat.le_of_ble_eq_true rfl) (Nat.le_of_ble_eq_true rfl) ?_
    intro r3 μ2 hk
    refine px_iconst (v := (-1 : Int32)) C dX8_canAddDraft_55 rfl ?_
    refine px_icmp_ne (tgt := 71) C dX8_canAddDraft_56 (by decide) (fun c11 => ?_) (fun c11 => ?_)
    · replace hk := hk.1 c11
      refine px_iconst (v := (1 : Int32)) C dX8_canAddDraft_71 rfl ?_
      refine px_goto (tgt := 76) C dX8_canAddDraft_72 (by decide) ?_
      exact PW_at (w8_canAddDraft_b76_ok C hRt hHR hnT hR24 hk) (And.intro rfl (And.intro rfl trivial)) (Nat.le_of_ble_eq_true rfl) (Nat.le_of_ble_eq_true rfl)
    · replace hk := hk.2 c11
      refine px_aload_n (i := 0) C dX8_canAddDraft_59 rfl rfl ?_
      refine px_getr C dX8_canAddDraft_60 fl_RX8_16 rfl rfl rfl ?_
      refine px_iload_n (i := 2) C dX8_canAddDraft_63 rfl rfl ?_
      refine px_callVi (h := 0) (rc' := 0) (rs' := 0) C (HR_le hHR (Nat.le_of_ble_eq_true rfl)) hRt hnT dX8_canAddDraft_64 (gw3 145 rfl rfl) mv_X7_find (w7_find_ok (PCx_l C) (PCx_I C) hk) rfl rfl rfl rfl rfl (Nat.le_of_ble_eq_true rfl) (Nat.le_of_ble_eq_true rfl) (Nat.le_of_ble_eq_true rfl) (Nat.le_of_ble_eq_true rfl) ?_
      intro r9 μ8 hk
      refine px_iload_n (i := 1) C dX8_canAddDraft_67 rfl rfl ?_
      refine px_icmp_eq (tgt := 75) C dX8_canAddDraft_68 (by decide) (fun c10 => ?_) (fun c10 => ?_)
      · replace hk := hk.1 c10
        refine px_iconst (v := (0 : Int32)) C dX8_canAddDraft_75 rfl ?_
        exact PW_at (w8_canAddDraft_b76_ok C hRt hHR hnT hR24 hk) (And.intro rfl (And.intro rfl trivial)) (Nat.le_of_ble_eq_true rfl) (Nat.le_of_ble_eq_true rfl)
      · replace hk := hk.2 c10
        refine px_iconst (v := (1 : Int32)) C dX8_canAddDraft_71 rfl ?_
        refine px_goto (tgt := 76) C dX8_canAddDraft_72 (by decide) ?_
        exact PW_at (w8_canAddDraft_b76_ok C hRt hHR hnT hR24 hk) (And.intro rfl (And.intro rfl trivial)) (Nat.le_of_ble_eq_true rfl) (Nat.le_of_ble_eq_true rfl)
set_option maxRecDepth 100000 in
set_option maxHeartbeats 4000000 in
theorem w8_canAddDraft_ok {l : Launch} {idx : List (Nat × Nat)} {μ : Mem} {P : Int32 → Mem → Prop} {X : String → Mem → Prop} (hl : l.stackTraces = false) (hI : IdxOK idx) (hk : w8_canAddDraft_wp μ P) : PMet l yX8_canAddDraft (.code yX8_canAddDraft cX8_canAddDraft 4 (some .boolean)) 1 0 0 idx [pR 40 0] μ (qI P) X := by
  refine PMet_of mv_X8_canAddDraft.2.2.2.2.2.2 hl hI mv_X8_canAddDraft.2.2.2.1 rfl (Nat.le_of_ble_eq_true rfl) (fun G _ _ C hRt hHR hnT => ?_)
  show PW G 0 0 0 [some (pR 40 0), none, none, none] [] μ
  unfold w8_canAddDraft_wp at hk
  refine px_aload_n (i := 0) C dX8_canAddDraft_0 rfl rfl ?_
  refine px_getr C dX8_canAddDraft_1 fl_RX8_16 rfl rfl rfl ?_
  refine px_geti 1 C dX8_canAddDraft_4 fl_RX8_97 rfl rfl rfl rfl ?_
  refine px_bipush (v := (40 : Int32)) C dX8_canAddDraft_7 rfl ?_
  refine px_aload_n (i := 0) C dX8_canAddDraft_9 rfl rfl ?_
  refine px_getr C dX8_canAddDraft_10 fl_RX8_94 rfl rfl rfl ?_
  refine px_geti 1 C dX8_canAddDraft_13 fl_RX8_97 rfl rfl rfl rfl ?_
  refine px_isub C dX8_canAddDraft_16 ?_
  refine px_icmp_le (tgt := 22) C dX8_canAddDraft_17 (by decide) (fun c13 => ?_) (fun c13 => ?_)
  · replace hk := hk.1 c13
    refine px_iconst (v := (0 : Int32)) C dX8_canAddDraft_22 rfl ?_
    refine px_istore_n (i := 1) C dX8_canAddDraft_23 rfl (by decide) rfl ?_
    exact PW_at (w8_canAddDraft_b24_ok C hRt hHR hnT hk) (And.intro rfl (And.intro rfl trivial)) (Nat.le_of_ble_eq_true rfl) (Nat.le_of_ble_eq_true rfl)
  · replace hk := hk.2 c13
    refine px_iconst (v := (0 : Int32)) C dX8_canAddDraft_20 rfl ?_
    exact px_iret C hRt dX8_canAddDraft_21 rfl rfl hk
theorem dX9_thrown_0 : decode cX9_thrown 0 = .ok (.aload_n 0, 1) := by decide +kernel
theorem dX9_thrown_1 : decode cX9_thrown 1 = .ok (.getfield 80, 3) := by decide +kernel
theorem dX9_thrown_4 : decode cX9_thrown 4 = .ok (.ireturn, 1) := by decide +kernel
set_option maxRecDepth 100000 in
set_option maxHeartbeats 4000000 in
theorem w9_thrown_ok {l : Launch} {idx : List (Nat × Nat)} {μ : Mem} {P : Int32 → Mem → Prop} {X : String → Mem → Prop} (hl : l.stackTraces = false) (hI : IdxOK idx) (hk : w9_thrown_wp μ P) : PMet l yX9_thrown (.code yX9_thrown cX9_thrown 1 (some .int)) 0 0 0 idx [pR 50 0] μ (qI P) X := by
  refine PMet_of mv_X9_thrown.2.2.2.2.2.2 hl hI mv_X9_thrown.2.2.2.1 rfl (Nat.le_of_ble_eq_true rfl) (fun G _ _ C hRt hHR hnT => ?_)
  show PW G 0 0 0 [some (pR 50 0)] [] μ
  unfold w9_thrown_wp at hk
  refine px_aload_n (i := 0) C dX9_thrown_0 rfl rfl ?_
  refine px_geti 3201 C dX9_thrown_1 fl_RX9_80 rfl rfl rfl rfl ?_
  exact px_iret C hRt dX9_thrown_4 rfl rfl hk
theorem dX9_fails_0 : decode cX9_fails 0 = .ok (.aload_n 0, 1) := by decide +kernel
theorem dX9_fails_1 : decode cX9_fails 1 = .ok (.iload_n 1, 1) := by decide +kernel
theorem dX9_fails_2 : decode cX9_fails 2 = .ok (.putfield 80, 3) := by decide +kernel
theorem dX9_fails_5 : decode cX9_fails 5 = .ok (.iconst 0, 1) := by decide +kernel
theorem dX9_fails_6 : decode cX9_fails 6 = .ok (.ireturn, 1) := by decide +kernel
set_option maxRecDepth 100000 in
set_option maxHeartbeats 4000000 in
theorem w9_fails_ok {l : Launch} {idx : List (Nat × Nat)} {μ : Mem} {a1 : Int32} {P : Int32 → Mem → Prop} {X : String → Mem → Prop} (hl : l.stackTraces = false) (hI : IdxOK idx) (hk : w9_fails_wp μ a1 P) : PMet l yX9_fails (.code yX9_fails cX9_fails 2 (some .int)) 0 0 0 idx [pR 50 0, pI a1] μ (qI P) X := by
  refine PMet_of mv_X9_fails.2.2.2.2.2.2 hl hI mv_X9_fails.2.2.2.1 rfl (Nat.le_of_ble_eq_true rfl) (fun G _ _ C hRt hHR hnT => ?_)
  show PW G 0 0 0 [some (pR 50 0), some (pI a1)] [] μ
  unfold w9_fails_wp at hk
  refine px_aload_n (i := 0) C dX9_fails_0 rfl rfl ?_
  refine px_iload_n (i := 1) C dX9_fails_1 rfl rfl ?_
  replace hk := hk _ rfl
  refine px_puti 3201 C dX9_fails_2 fp_RX9_80 rfl rfl rfl rfl rfl rfl ?_
  refine px_iconst (v := (0 : Int32)) C dX9_fails_5 rfl ?_
  exact px_iret C hRt dX9_fails_6 rfl rfl hk
theorem dX9_in_0 : decode cX9_in 0 = .ok (.iload_n 0, 1) := by decide +kernel
theorem dX9_in_1 : decode cX9_in 1 = .ok (.iload_n 1, 1) := by decide +kernel
theorem dX9_in_2 : decode cX9_in 2 = .ok (.if_icmp .lt 12, 3) := by decide +kernel
theorem dX9_in_5 : decode cX9_in 5 = .ok (.iload_n 0, 1) := by decide +kernel
theorem dX9_in_6 : decode cX9_in 6 = .ok (.iload_n 2, 1) := by decide +kernel
theorem dX9_in_7 : decode cX9_in 7 = .ok (.if_icmp .gt 7, 3) := by decide +kernel
theorem dX9_in_10 : decode cX9_in 10 = .ok (.iconst 1, 1) := by decide +kernel
theorem dX9_in_11 : decode cX9_in 11 = .ok (.goto 4, 3) := by decide +kernel
theorem dX9_in_14 : decode cX9_in 14 = .ok (.iconst 0, 1) := by decide +kernel
theorem dX9_in_15 : decode cX9_in 15 = .ok (.ireturn, 1) := by decide +kernel
set_option maxRecDepth 100000 in
set_option maxHeartbeats 4000000 in
theorem w9_in_ok {l : Launch} {idx : List (Nat × Nat)} {μ : Mem} {a1 : Int32} {a2 : Int32} {a3 : Int32} {P : Int32 → Mem → Prop} {X : String → Mem → Prop} (hl : l.stackTraces = false) (hI : IdxOK idx) (hk : w9_in_wp μ a1 a2 a3 P) : PMet l yX9_in (.code yX9_in cX9_in 3 (some .boolean)) 0 0 0 idx [pI a1, pI a2, pI a3] μ (qI P) X := by
  refine PMet_of ms_X9_in.2.2.2.2.2 hl hI ms_X9_in.2.2.1 rfl (Nat.le_of_ble_eq_true rfl) (fun G _ _ C hRt hHR hnT => ?_)
  show PW G 0 0 0 [some (pI a1), some (pI a2), some (pI a3)] [] μ
  unfold w9_in_wp at hk
  refine px_iload_n (i := 0) C dX9_in_0 rfl rfl ?_
  refine px_iload_n (i := 1) C dX9_in_1 rfl rfl ?_
  refine px_icmp_lt (tgt := 14) C dX9_in_2 (by decide) (fun c2 => ?_) (fun c2 => ?_)
  · replace hk := hk.1 c2
    refine px_iconst (v := (0 : Int32)) C dX9_in_14 rfl ?_
    exact px_iret C hRt dX9_in_15 rfl rfl hk
  · replace hk := hk.2 c2
    refine px_iload_n (i := 0) C dX9_in_5 rfl rfl ?_
    refine px_iload_n (i := 2) C dX9_in_6 rfl rfl ?_
    refine px_icmp_gt (tgt := 14) C dX9_in_7 (by decide) (fun c1 => ?_) (fun c1 => ?_)
    · replace hk := hk.1 c1
      refine px_iconst (v := (0 : Int32)) C dX9_in_14 rfl ?_
      exact px_iret C hRt dX9_in_15 rfl rfl hk
    · replace hk := hk.2 c1
      refine px_iconst (v := (1 : Int32)) C dX9_in_10 rfl ?_
      refine px_goto (tgt := 15) C dX9_in_11 (by decide) ?_
      exact px_iret C hRt dX9_in_15 rfl rfl hk
theorem dX9_of_0 : decode cX9_of 0 = .ok (.aload_n 0, 1) := by decide +kernel
theorem dX9_of_1 : decode cX9_of 1 = .ok (.getfield 7, 3) := by decide +kernel
theorem dX9_of_4 : decode cX9_of 4 = .ok (.iconst 2, 1) := by decide +kernel
theorem dX9_of_5 : decode cX9_of 5 = .ok (.bipush 7, 2) := by decide +kernel
theorem dX9_of_7 : decode cX9_of 7 = .ok (.iload_n 1, 1) := by decide +kernel
theorem dX9_of_8 : decode cX9_of 8 = .ok (.imul, 1) := by decide +kernel
theorem dX9_of_9 : decode cX9_of 9 = .ok (.iadd, 1) := by decide +kernel
theorem dX9_of_10 : decode cX9_of 10 = .ok (.iload_n 2, 1) := by decide +kernel
theorem dX9_of_11 : decode cX9_of 11 = .ok (.iadd, 1) := by decide +kernel
theorem dX9_of_12 : decode cX9_of 12 = .ok (.iaload, 1) := by decide +kernel
theorem dX9_of_13 : decode cX9_of 13 = .ok (.ireturn, 1) := by decide +kernel
set_option maxRecDepth 100000 in
set_option maxHeartbeats 4000000 in
theorem w9_of_ok {l : Launch} {idx : List (Nat × Nat)} {μ : Mem} {a1 : Int32} {a2 : Int32} {P : Int32 → Mem → Prop} {X : String → Mem → Prop} (hl : l.stackTraces = false) (hI : IdxOK idx) (hk : w9_of_wp μ a1 a2 P) : PMet l yX9_of (.code yX9_of cX9_of 3 (some .int)) 0 0 0 idx [pR 50 0, pI a1, pI a2] μ (qI P) X := by
  refine PMet_of mv_X9_of.2.2.2.2.2.2 hl hI mv_X9_of.2.2.2.1 rfl (Nat.le_of_ble_eq_true rfl) (fun G _ _ C hRt hHR hnT => ?_)
  show PW G 0 0 0 [some (pR 50 0), some (pI a1), some (pI a2)] [] μ
  unfold w9_of_wp at hk
  refine px_aload_n (i := 0) C dX9_of_0 rfl rfl ?_
  refine px_getr C dX9_of_1 fl_RX9_7 rfl rfl rfl ?_
  refine px_iconst (v := (2 : Int32)) C dX9_of_4 rfl ?_
  refine px_bipush (v := (7 : Int32)) C dX9_of_5 rfl ?_
  refine px_iload_n (i := 1) C dX9_of_7 rfl rfl ?_
  refine px_imul C dX9_of_8 ?_
  refine px_iadd C dX9_of_9 ?_
  refine px_iload_n (i := 2) C dX9_of_10 rfl rfl ?_
  refine px_iadd C dX9_of_11 ?_
  obtain ⟨o1, hk⟩ := hk
  refine px_iald 3264 C dX9_of_12 rfl rfl rfl rfl o1 ?_
  exact px_iret C hRt dX9_of_13 rfl rfl hk
theorem dX9_put_0 : decode cX9_put 0 = .ok (.aload_n 0, 1) := by decide +kernel
theorem dX9_put_1 : decode cX9_put 1 = .ok (.getfield 7, 3) := by decide +kernel
theorem dX9_put_4 : decode cX9_put 4 = .ok (.iconst 2, 1) := by decide +kernel
theorem dX9_put_5 : decode cX9_put 5 = .ok (.bipush 7, 2) := by decide +kernel
theorem dX9_put_7 : decode cX9_put 7 = .ok (.iload_n 1, 1) := by decide +kernel
theorem dX9_put_8 : decode cX9_put 8 = .ok (.imul, 1) := by decide +kernel
theorem dX9_put_9 : decode cX9_put 9 = .ok (.iadd, 1) := by decide +kernel
theorem dX9_put_10 : decode cX9_put 10 = .ok (.iload_n 2, 1) := by decide +kernel
theorem dX9_put_11 : decode cX9_put 11 = .ok (.iadd, 1) := by decide +kernel
theorem dX9_put_12 : decode cX9_put 12 = .ok (.iload_n 3, 1) := by decide +kernel
theorem dX9_put_13 : decode cX9_put 13 = .ok (.iastore, 1) := by decide +kernel
theorem dX9_put_14 : decode cX9_put 14 = .ok (.return_, 1) := by decide +kernel
set_option maxRecDepth 100000 in
set_option maxHeartbeats 4000000 in
theorem w9_put_ok {l : Launch} {idx : List (Nat × Nat)} {μ : Mem} {a1 : Int32} {a2 : Int32} {a3 : Int32} {P : Mem → Prop} {X : String → Mem → Prop} (hl : l.stackTraces = false) (hI : IdxOK idx) (hk : w9_put_wp μ a1 a2 a3 P) : PMet l yX9_put (.code yX9_put cX9_put 4 none) 0 0 0 idx [pR 50 0, pI a1, pI a2, pI a3] μ (qV P) X := by
  refine PMet_of mv_X9_put.2.2.2.2.2.2 hl hI mv_X9_put.2.2.2.1 rfl (Nat.le_of_ble_eq_true rfl) (fun G _ _ C hRt hHR hnT => ?_)
  show PW G 0 0 0 [some (pR 50 0), some (pI a1), some (pI a2), some (pI a3)] [] μ
  unfold w9_put_wp at hk
  refine px_aload_n (i := 0) C dX9_put_0 rfl rfl ?_
  refine px_getr C dX9_put_1 fl_RX9_7 rfl rfl rfl ?_
  refine px_iconst (v := (2 : Int32)) C dX9_put_4 rfl ?_
  refine px_bipush (v := (7 : Int32)) C dX9_put_5 rfl ?_
  refine px_iload_n (i := 1) C dX9_put_7 rfl rfl ?_
  refine px_imul C dX9_put_8 ?_
  refine px_iadd C dX9_put_9 ?_
  refine px_iload_n (i := 2) C dX9_put_10 rfl rfl ?_
  refine px_iadd C dX9_put_11 ?_
  refine px_iload_n (i := 3) C dX9_put_12 rfl rfl ?_
  obtain ⟨o1, hk⟩ := hk
  replace hk := hk _ rfl
  refine px_iast 3264 C dX9_put_13 rfl rfl rfl rfl o1 ?_
  exact px_vret C hRt dX9_put_14 rfl hk
theorem dX9_find_0 : decode cX9_find 0 = .ok (.iconst 0, 1) := by decide +kernel
theorem dX9_find_1 : decode cX9_find 1 = .ok (.istore_n 2, 1) := by decide +kernel
theorem dX9_find_2 : decode cX9_find 2 = .ok (.iload_n 2, 1) := by decide +kernel
theorem dX9_find_3 : decode cX9_find 3 = .ok (.aload_n 0, 1) := by decide +kernel
theorem dX9_find_4 : decode cX9_find 4 = .ok (.getfield 7, 3) := by decide +kernel
theorem dX9_find_7 : decode cX9_find 7 = .ok (.iconst 0, 1) := by decide +kernel
theorem dX9_find_8 : decode cX9_find 8 = .ok (.iaload, 1) := by decide +kernel
theorem dX9_find_9 : decode cX9_find 9 = .ok (.if_icmp .ge 21, 3) := by decide +kernel
theorem dX9_find_12 : decode cX9_find 12 = .ok (.aload_n 0, 1) := by decide +kernel
theorem dX9_find_13 : decode cX9_find 13 = .ok (.iload_n 2, 1) := by decide +kernel
theorem dX9_find_14 : decode cX9_find 14 = .ok (.iconst 0, 1) := by decide +kernel
theorem dX9_find_15 : decode cX9_find 15 = .ok (.invokevirtual 83, 3) := by decide +kernel
theorem dX9_find_18 : decode cX9_find 18 = .ok (.iload_n 1, 1) := by decide +kernel
theorem dX9_find_19 : decode cX9_find 19 = .ok (.if_icmp .ne 5, 3) := by decide +kernel
theorem dX9_find_22 : decode cX9_find 22 = .ok (.iload_n 2, 1) := by decide +kernel
theorem dX9_find_23 : decode cX9_find 23 = .ok (.ireturn, 1) := by decide +kernel
theorem dX9_find_24 : decode cX9_find 24 = .ok (.iinc 2 1, 3) := by decide +kernel
theorem dX9_find_27 : decode cX9_find 27 = .ok (.goto (-25), 3) := by decide +kernel
theorem dX9_find_30 : decode cX9_find 30 = .ok (.iconst (-1), 1) := by decide +kernel
theorem dX9_find_31 : decode cX9_find 31 = .ok (.ireturn, 1) := by decide +kernel
set_option maxRecDepth 100000 in
set_option maxHeartbeats 4000000 in
theorem w9_find_b2_ok {G : GT} {P : Int32 → Mem → Prop} {X : String → Mem → Prop} (C : PCx G cX9_find 3 RX9) (hRt : PRt G (some .int) (qI P) X) (hHR : HR G (1)) (hnT : NoT G) {μ : Mem} {l1 : Int32} {l2 : Int32} (hk : w9_find_b2 P μ l1 l2) : PW G 0 0 2 [some (pR 50 0), some (pI l1), some (pI l2)] [] μ := by
  refine hk (fun (μ : Mem) (l1 : Int32) (l2 : Int32) => PW G 0 0 2 [some (pR 50 0), some (pI l1), some (pI l2)] [] μ) (fun (μ : Mem) l1 l2 hk => ?_)
  have hR2 : ∀ (μ : Mem) (l1 : Int32) (l2 : Int32), PW G 0 0 2 [some (pR 50 0), some (pI l1), some (pI l2)] [] μ → PW G 0 0 2 [some (pR 50 0), some (pI l1), some (pI l2)] [] μ := fun _ _ _ h => h
  unfold w9_find_b2_body at hk
  refine px_iload_n (i := 2) C dX9_find_2 rfl rfl ?_
  refine px_aload_n (i := 0) C dX9_find_3 rfl rfl ?_
  refine px_getr C dX9_find_4 fl_RX9_7 rfl rfl rfl ?_
  refine px_iconst (v := (0 : Int32)) C dX9_find_7 rfl ?_
  obtain ⟨o1, hk⟩ := hk
  refine px_iald 3264 C dX9_find_8 rfl rfl rfl rfl o1 ?_
  refine px_icmp_ge (tgt := 30) C dX9_find_9 (by decide) (fun c5 => ?_) (fun c5 => ?_)
  · replace hk := hk.1 c5
    refine px_iconst (v := (-1 : Int32)) C dX9_find_30 rfl ?_
    exact px_iret C hRt dX9_find_31 rfl rfl hk
  · replace hk := hk.2 c5
    refine px_aload_n (i := 0) C dX9_find_12 rfl rfl ?_
    refine px_iload_n (i := 2) C dX9_find_13 rfl rfl ?_
    refine px_iconst (v := (0 : Int32)) C dX9_find_14 rfl ?_
    refine px_callVi (h := 0) (rc' := 0) (rs' := 0) C (HR_le hHR (Nat.le_of_ble_eq_true rfl)) hRt hnT dX9_find_15 (gw8 152 rfl rfl) mv_X9_of (w9_of_ok (PCx_l C) (PCx_I C) hk) rfl rfl rfl rfl rfl (Nat.le_of_ble_eq_true rfl) (Nat.le_of_ble_eq_true rfl) (Nat.le_of_ble_eq_true rfl) (Nat.le_of_ble_eq_true rfl) ?_
    intro r3 μ2 hk
    refine px_iload_n (i := 1) C dX9_find_18 rfl rfl ?_
    refine px_icmp_ne (tgt := 24) C dX9_find_19 (by decide) (fun c4 => ?_) (fun c4 => ?_)
    · replace hk := hk.1 c4
      refine px_iinc (i := 2) (v := (1 : Int32)) C dX9_find_24 rfl rfl (by decide) rfl ?_
      refine px_goto (tgt := 2) C dX9_find_27 (by decide) ?_
      exact PW_at (hR2 _ _ _ hk) (And.intro rfl (And.intro rfl (And.intro rfl trivial))) (Nat.le_of_ble_eq_true rfl) (Nat.le_of_ble_eq_true rfl)
    · replace hk := hk.2 c4
      refine px_iload_n (i := 2) C dX9_find_22 rfl rfl ?_
      exact px_iret C hRt dX9_find_23 rfl rfl hk
set_option maxRecDepth 100000 in
set_option maxHeartbeats 4000000 in
theorem w9_find_ok {l : Launch} {idx : List (Nat × Nat)} {μ : Mem} {a1 : Int32} {P : Int32 → Mem → Prop} {X : String → Mem → Prop} (hl : l.stackTraces = false) (hI : IdxOK idx) (hk : w9_find_wp μ a1 P) : PMet l yX9_find (.code yX9_find cX9_find 3 (some .int)) 1 0 0 idx [pR 50 0, pI a1] μ (qI P) X := by
  refine PMet_of mv_X9_find.2.2.2.2.2.2 hl hI mv_X9_find.2.2.2.1 rfl (Nat.le_of_ble_eq_true rfl) (fun G _ _ C hRt hHR hnT => ?_)
  show PW G 0 0 0 [some (pR 50 0), some (pI a1), none] [] μ
  unfold w9_find_wp at hk
  refine px_iconst (v := (0 : Int32)) C dX9_find_0 rfl ?_
  refine px_istore_n (i := 2) C dX9_find_1 rfl (by decide) rfl ?_
  exact PW_at (w9_find_b2_ok C hRt hHR hnT hk) (And.intro rfl (And.intro rfl (And.intro rfl trivial))) (Nat.le_of_ble_eq_true rfl) (Nat.le_of_ble_eq_true rfl)
theorem dX9_spanOr_0 : decode cX9_spanOr 0 = .ok (.aload_n 0, 1) := by decide +kernel
theorem dX9_spanOr_1 : decode cX9_spanOr 1 = .ok (.aload_n 0, 1) := by decide +kernel
theorem dX9_spanOr_2 : decode cX9_spanOr 2 = .ok (.iload_n 1, 1) := by decide +kernel
theorem dX9_spanOr_3 : decode cX9_spanOr 3 = .ok (.invokevirtual 87, 3) := by decide +kernel
theorem dX9_spanOr_6 : decode cX9_spanOr 6 = .ok (.iconst (-1), 1) := by decide +kernel
theorem dX9_spanOr_7 : decode cX9_spanOr 7 = .ok (.if_icmp .ne 7, 3) := by decide +kernel
theorem dX9_spanOr_10 : decode cX9_spanOr 10 = .ok (.iconst 1, 1) := by decide +kernel
theorem dX9_spanOr_11 : decode cX9_spanOr 11 = .ok (.goto 4, 3) := by decide +kernel
theorem dX9_spanOr_14 : decode cX9_spanOr 14 = .ok (.iconst 0, 1) := by decide +kernel
theorem dX9_spanOr_15 : decode cX9_spanOr 15 = .ok (.putfield 80, 3) := by decide +kernel
theorem dX9_spanOr_18 : decode cX9_spanOr 18 = .ok (.aload_n 0, 1) := by decide +kernel
theorem dX9_spanOr_19 : decode cX9_spanOr 19 = .ok (.iload_n 1, 1) := by decide +kernel
theorem dX9_spanOr_20 : decode cX9_spanOr 20 = .ok (.invokevirtual 87, 3) := by decide +kernel
theorem dX9_spanOr_23 : decode cX9_spanOr 23 = .ok (.ireturn, 1) := by decide +kernel
set_option maxRecDepth 100000 in
set_option maxHeartbeats 4000000 in
theorem w9_spanOr_ok {l : Launch} {idx : List (Nat × Nat)} {μ : Mem} {a1 : Int32} {P : Int32 → Mem → Prop} {X : String → Mem → Prop} (hl : l.stackTraces = false) (hI : IdxOK idx) (hk : w9_spanOr_wp μ a1 P) : PMet l yX9_spanOr (.code yX9_spanOr cX9_spanOr 2 (some .int)) 2 0 0 idx [pR 50 0, pI a1] μ (qI P) X := by
  refine PMet_of mv_X9_spanOr.2.2.2.2.2.2 hl hI mv_X9_spanOr.2.2.2.1 rfl (Nat.le_of_ble_eq_true rfl) (fun G _ _ C hRt hHR hnT => ?_)
  show PW G 0 0 0 [some (pR 50 0), some (pI a1)] [] μ
  unfold w9_spanOr_wp at hk
  refine px_aload_n (i := 0) C dX9_spanOr_0 rfl rfl ?_
  refine px_aload_n (i := 0) C dX9_spanOr_1 rfl rfl ?_
  refine px_iload_n (i := 1) C dX9_spanOr_2 rfl rfl ?_
  refine px_callVi (h := 1) (rc' := 0) (rs' := 0) C (HR_le hHR (Nat.le_of_ble_eq_true rfl)) hRt hnT dX9_spanOr_3 (gw8 148 rfl rfl) mv_X9_find (w9_find_ok (PCx_l C) (PCx_I C) hk) rfl rfl rfl rfl rfl (Nat.le_of_ble_eq_true rfl) (Nat.le_of_ble_eq_true rfl) (Nat.le_of_ble_eq_true rfl) (Nat.le_of_ble_eq_true rfl) ?_
  intro r2 μ1 hk
  refine px_iconst (v := (-1 : Int32)) C dX9_spanOr_6 rfl ?_
  refine px_icmp_ne (tgt := 14) C dX9_spanOr_7 (by decide) (fun c9 => ?_) (fun c9 => ?_)
  · replace hk := hk.1 c9
    refine px_iconst (v := (0 : Int32)) C dX9_spanOr_14 rfl ?_
    replace hk := hk _ rfl
    refine px_puti 3201 C dX9_spanOr_15 fp_RX9_80 rfl rfl rfl rfl rfl rfl ?_
    refine px_aload_n (i := 0) C dX9_spanOr_18 rfl rfl ?_
    refine px_iload_n (i := 1) C dX9_spanOr_19 rfl rfl ?_
    refine px_callVi (h := 1) (rc' := 0) (rs' := 0) C (HR_le hHR (Nat.le_of_ble_eq_true rfl)) hRt hnT dX9_spanOr_20 (gw8 148 rfl rfl) mv_X9_find (w9_find_ok (PCx_l C) (PCx_I C) hk) rfl rfl rfl rfl rfl (Nat.le_of_ble_eq_true rfl) (Nat.le_of_ble_eq_true rfl) (Nat.le_of_ble_eq_true rfl) (Nat.le_of_ble_eq_true rfl) ?_
    intro r5 μ4 hk
    exact px_iret C hRt dX9_spanOr_23 rfl rfl hk
  · replace hk := hk.2 c9
    refine px_iconst (v := (1 : Int32)) C dX9_spanOr_10 rfl ?_
    refine px_goto (tgt := 15) C dX9_spanOr_11 (by decide) ?_
    replace hk := hk _ rfl
    refine px_puti 3201 C dX9_spanOr_15 fp_RX9_80 rfl rfl rfl rfl rfl rfl ?_
    refine px_aload_n (i := 0) C dX9_spanOr_18 rfl rfl ?_
    refine px_iload_n (i := 1) C dX9_spanOr_19 rfl rfl ?_
    refine px_callVi (h := 1) (rc' := 0) (rs' := 0) C (HR_le hHR (Nat.le_of_ble_eq_true rfl)) hRt hnT dX9_spanOr_20 (gw8 148 rfl rfl) mv_X9_find (w9_find_ok (PCx_l C) (PCx_I C) hk) rfl rfl rfl rfl rfl (Nat.le_of_ble_eq_true rfl) (Nat.le_of_ble_eq_true rfl) (Nat.le_of_ble_eq_true rfl) (Nat.le_of_ble_eq_true rfl) ?_
    intro r8 μ7 hk
    exact px_iret C hRt dX9_spanOr_23 rfl rfl hk
theorem dX9_remembers_0 : decode cX9_remembers 0 = .ok (.aload_n 0, 1) := by decide +kernel
theorem dX9_remembers_1 : decode cX9_remembers 1 = .ok (.getfield 91, 3) := by decide +kernel
theorem dX9_remembers_4 : decode cX9_remembers 4 = .ok (.bipush 8, 2) := by decide +kernel
theorem dX9_remembers_6 : decode cX9_remembers 6 = .ok (.if_icmp .ne 37, 3) := by decide +kernel
theorem dX9_remembers_9 : decode cX9_remembers 9 = .ok (.iconst 0, 1) := by decide +kernel
theorem dX9_remembers_10 : decode cX9_remembers 10 = .ok (.istore_n 1, 1) := by decide +kernel
theorem dX9_remembers_11 : decode cX9_remembers 11 = .ok (.iload_n 1, 1) := by decide +kernel
theorem dX9_remembers_12 : decode cX9_remembers 12 = .ok (.sipush 2394, 3) := by decide +kernel
theorem dX9_remembers_15 : decode cX9_remembers 15 = .ok (.if_icmp .ge 25, 3) := by decide +kernel
theorem dX9_remembers_18 : decode cX9_remembers 18 = .ok (.aload_n 0, 1) := by decide +kernel
theorem dX9_remembers_19 : decode cX9_remembers 19 = .ok (.getfield 19, 3) := by decide +kernel
theorem dX9_remembers_22 : decode cX9_remembers 22 = .ok (.iload_n 1, 1) := by decide +kernel
theorem dX9_remembers_23 : decode cX9_remembers 23 = .ok (.aload_n 0, 1) := by decide +kernel
theorem dX9_remembers_24 : decode cX9_remembers 24 = .ok (.getfield 19, 3) := by decide +kernel
theorem dX9_remembers_27 : decode cX9_remembers 27 = .ok (.iload_n 1, 1) := by decide +kernel
theorem dX9_remembers_28 : decode cX9_remembers 28 = .ok (.sipush 342, 3) := by decide +kernel
theorem dX9_remembers_31 : decode cX9_remembers 31 = .ok (.iadd, 1) := by decide +kernel
theorem dX9_remembers_32 : decode cX9_remembers 32 = .ok (.iaload, 1) := by decide +kernel
theorem dX9_remembers_33 : decode cX9_remembers 33 = .ok (.iastore, 1) := by decide +kernel
theorem dX9_remembers_34 : decode cX9_remembers 34 = .ok (.iinc 1 1, 3) := by decide +kernel
theorem dX9_remembers_37 : decode cX9_remembers 37 = .ok (.goto (-26), 3) := by decide +kernel
theorem dX9_remembers_40 : decode cX9_remembers 40 = .ok (.goto 13, 3) := by decide +kernel
theorem dX9_remembers_43 : decode cX9_remembers 43 = .ok (.aload_n 0, 1) := by decide +kernel
theorem dX9_remembers_44 : decode cX9_remembers 44 = .ok (.dup, 1) := by decide +kernel
theorem dX9_remembers_45 : decode cX9_remembers 45 = .ok (.getfield 91, 3) := by decide +kernel
theorem dX9_remembers_48 : decode cX9_remembers 48 = .ok (.iconst 1, 1) := by decide +kernel
theorem dX9_remembers_49 : decode cX9_remembers 49 = .ok (.iadd, 1) := by decide +kernel
theorem dX9_remembers_50 : decode cX9_remembers 50 = .ok (.putfield 91, 3) := by decide +kernel
theorem dX9_remembers_53 : decode cX9_remembers 53 = .ok (.iconst 0, 1) := by decide +kernel
theorem dX9_remembers_54 : decode cX9_remembers 54 = .ok (.istore_n 1, 1) := by decide +kernel
theorem dX9_remembers_55 : decode cX9_remembers 55 = .ok (.iload_n 1, 1) := by decide +kernel
theorem dX9_remembers_56 : decode cX9_remembers 56 = .ok (.sipush 342, 3) := by decide +kernel
theorem dX9_remembers_59 : decode cX9_remembers 59 = .ok (.if_icmp .ge 32, 3) := by decide +kernel
theorem dX9_remembers_62 : decode cX9_remembers 62 = .ok (.aload_n 0, 1) := by decide +kernel
theorem dX9_remembers_63 : decode cX9_remembers 63 = .ok (.getfield 19, 3) := by decide +kernel
theorem dX9_remembers_66 : decode cX9_remembers 66 = .ok (.sipush 342, 3) := by decide +kernel
theorem dX9_remembers_69 : decode cX9_remembers 69 = .ok (.aload_n 0, 1) := by decide +kernel
theorem dX9_remembers_70 : decode cX9_remembers 70 = .ok (.getfield 91, 3) := by decide +kernel
theorem dX9_remembers_73 : decode cX9_remembers 73 = .ok (.iconst 1, 1) := by decide +kernel
theorem dX9_remembers_74 : decode cX9_remembers 74 = .ok (.isub, 1) := by decide +kernel
theorem dX9_remembers_75 : decode cX9_remembers 75 = .ok (.imul, 1) := by decide +kernel
theorem dX9_remembers_76 : decode cX9_remembers 76 = .ok (.iload_n 1, 1) := by decide +kernel
theorem dX9_remembers_77 : decode cX9_remembers 77 = .ok (.iadd, 1) := by decide +kernel
theorem dX9_remembers_78 : decode cX9_remembers 78 = .ok (.aload_n 0, 1) := by decide +kernel
theorem dX9_remembers_79 : decode cX9_remembers 79 = .ok (.getfield 16, 3) := by decide +kernel
theorem dX9_remembers_82 : decode cX9_remembers 82 = .ok (.iload_n 1, 1) := by decide +kernel
theorem dX9_remembers_83 : decode cX9_remembers 83 = .ok (.iaload, 1) := by decide +kernel
theorem dX9_remembers_84 : decode cX9_remembers 84 = .ok (.iastore, 1) := by decide +kernel
theorem dX9_remembers_85 : decode cX9_remembers 85 = .ok (.iinc 1 1, 3) := by decide +kernel
theorem dX9_remembers_88 : decode cX9_remembers 88 = .ok (.goto (-33), 3) := by decide +kernel
theorem dX9_remembers_91 : decode cX9_remembers 91 = .ok (.aload_n 0, 1) := by decide +kernel
theorem dX9_remembers_92 : decode cX9_remembers 92 = .ok (.iconst 0, 1) := by decide +kernel
theorem dX9_remembers_93 : decode cX9_remembers 93 = .ok (.putfield 94, 3) := by decide +kernel
theorem dX9_remembers_96 : decode cX9_remembers 96 = .ok (.return_, 1) := by decide +kernel
set_option maxRecDepth 100000 in
set_option maxHeartbeats 4000000 in
theorem w9_remembers_b55_ok {G : GT} {P : Mem → Prop} {X : String → Mem → Prop} (C : PCx G cX9_remembers 2 RX9) (hRt : PRt G none (qV P) X) (hHR : HR G (0)) (hnT : NoT G) {μ : Mem} {l1 : Int32} (hk : w9_remembers_b55 P μ l1) : PW G 0 0 55 [some (pR 50 0), some (pI l1)] [] μ := by
  refine hk (fun (μ : Mem) (l1 : Int32) => PW G 0 0 55 [some (pR 50 0), some (pI l1)] [] μ) (fun (μ : Mem) l1 hk => ?_)
  have hR55 : ∀ (μ : Mem) (l1 : Int32), PW G 0 0 55 [some (pR 50 0), some (pI l1)] [] μ → PW G 0 0 55 [some (pR 50 0), some (pI l1)] [] μ := fun _ _ h => h
  unfold w9_remembers_b55_body at hk
  refine px_iload_n (i := 1) C dX9_remembers_55 rfl rfl ?_
  refine px_sipush (v := (342 : Int32)) C dX9_remembers_56 rfl ?_
  refine px_icmp_ge (tgt := 91) C dX9_remembers_59 (by decide) (fun c6 => ?_) (fun c6 => ?_)
  · replace hk := hk.1 c6
    refine px_aload_n (i := 0) C dX9_remembers_91 rfl rfl ?_
    refine px_iconst (v := (0 : Int32)) C dX9_remembers_92 rfl ?_
    replace hk := hk _ rfl
    refine px_puti 3212 C dX9_remembers_93 fp_RX9_94 rfl rfl rfl rfl rfl rfl ?_
    exact px_vret C hRt dX9_remembers_96 rfl hk
  · replace hk := hk.2 c6
    refine px_aload_n (i := 0) C dX9_remembers_62 rfl rfl ?_
    refine px_getr C dX9_remembers_63 fl_RX9_19 rfl rfl rfl ?_
    refine px_sipush (v := (342 : Int32)) C dX9_remembers_66 rfl ?_
    refine px_aload_n (i := 0) C dX9_remembers_69 rfl rfl ?_
    refine px_geti 3207 C dX9_remembers_70 fl_RX9_91 rfl rfl rfl rfl ?_
    refine px_iconst (v := (1 : Int32)) C dX9_remembers_73 rfl ?_
    refine px_isub C dX9_remembers_74 ?_
    refine px_imul C dX9_remembers_75 ?_
    refine px_iload_n (i := 1) C dX9_remembers_76 rfl rfl ?_
    refine px_iadd C dX9_remembers_77 ?_
    refine px_aload_n (i := 0) C dX9_remembers_78 rfl rfl ?_
    refine px_getr C dX9_remembers_79 fl_RX9_16 rfl rfl rfl ?_
    refine px_iload_n (i := 1) C dX9_remembers_82 rfl rfl ?_
    obtain ⟨o3, hk⟩ := hk
    refine px_iald 3392 C dX9_remembers_83 rfl rfl rfl rfl o3 ?_
    obtain ⟨o4, hk⟩ := hk
    replace hk := hk _ rfl
    refine px_iast 3456 C dX9_remembers_84 rfl rfl rfl rfl o4 ?_
    refine px_iinc (i := 1) (v := (1 : Int32)) C dX9_remembers_85 rfl rfl (by decide) rfl ?_
    refine px_goto (tgt := 55) C dX9_remembers_88 (by decide) ?_
    exact PW_at (hR55 _ _ hk) (And.intro rfl (And.intro rfl trivial)) (Nat.le_of_ble_eq_true rfl) (Nat.le_of_ble_eq_true rfl)
set_option maxRecDepth 100000 in
set_option maxHeartbeats 4000000 in
theorem w9_remembers_b11_ok {G : GT} {P : Mem → Prop} {X : String → Mem → Prop} (C : PCx G cX9_remembers 2 RX9) (hRt : PRt G none (qV P) X) (hHR : HR G (0)) (hnT : NoT G) {μ : Mem} {l1 : Int32} (hk : w9_remembers_b11 P μ l1) : PW G 0 0 11 [some (pR 50 0), some (pI l1)] [] μ := by
  refine hk (fun (μ : Mem) (l1 : Int32) => PW G 0 0 11 [some (pR 50 0), some (pI l1)] [] μ) (fun (μ : Mem) l1 hk => ?_)
  have hR11 : ∀ (μ : Mem) (l1 : Int32), PW G 0 0 11 [some (pR 50 0), some (pI l1)] [] μ → PW G 0 0 11 [some (pR 50 0), some (pI l1)] [] μ := fun _ _ h => h
  unfold w9_remembers_b11_body at hk
  refine px_iload_n (i := 1) C dX9_remembers_11 rfl rfl ?_
  refine px_sipush (v := (2394 : Int32)) C dX9_remembers_12 rfl ?_
  refine px_icmp_ge (tgt := 40) C dX9_remembers_15 (by decide) (fun c10 => ?_) (fun c10 => ?_)
  · replace hk := hk.1 c10
    refine px_goto (tgt := 53) C dX9_remembers_40 (by decide) ?_
    refine px_iconst (v := (0 : Int32)) C dX9_remembers_53 rfl ?_
    refine px_istore_n (i := 1) C dX9_remembers_54 rfl (by decide) rfl ?_
    exact PW_at (w9_remembers_b55_ok C hRt hHR hnT hk) (And.intro rfl (And.intro rfl trivial)) (Nat.le_of_ble_eq_true rfl) (Nat.le_of_ble_eq_true rfl)
  · replace hk := hk.2 c10
    refine px_aload_n (i := 0) C dX9_remembers_18 rfl rfl ?_
    refine px_getr C dX9_remembers_19 fl_RX9_19 rfl rfl rfl ?_
    refine px_iload_n (i := 1) C dX9_remembers_22 rfl rfl ?_
    refine px_aload_n (i := 0) C dX9_remembers_23 rfl rfl ?_
    refine px_getr C dX9_remembers_24 fl_RX9_19 rfl rfl rfl ?_
    refine px_iload_n (i := 1) C dX9_remembers_27 rfl rfl ?_
    refine px_sipush (v := (342 : Int32)) C dX9_remembers_28 rfl ?_
    refine px_iadd C dX9_remembers_31 ?_
    obtain ⟨o7, hk⟩ := hk
    refine px_iald 3456 C dX9_remembers_32 rfl rfl rfl rfl o7 ?_
    obtain ⟨o8, hk⟩ := hk
    replace hk := hk _ rfl
    refine px_iast 3456 C dX9_remembers_33 rfl rfl rfl rfl o8 ?_
    refine px_iinc (i := 1) (v := (1 : Int32)) C dX9_remembers_34 rfl rfl (by decide) rfl ?_
    refine px_goto (tgt := 11) C dX9_remembers_37 (by decide) ?_
    exact PW_at (hR11 _ _ hk) (And.intro rfl (And.intro rfl trivial)) (Nat.le_of_ble_eq_true rfl) (Nat.le_of_ble_eq_true rfl)
set_option maxRecDepth 100000 in
set_option maxHeartbeats 4000000 in
theorem w9_remembers_ok {l : Launch} {idx : List (Nat × Nat)} {μ : Mem} {P : Mem → Prop} {X : String → Mem → Prop} (hl : l.stackTraces = false) (hI : IdxOK idx) (hk : w9_remembers_wp μ P) : PMet l yX9_remembers (.code yX9_remembers cX9_remembers 2 none) 0 0 0 idx [pR 50 0] μ (qV P) X := by
  refine PMet_of mv_X9_remembers.2.2.2.2.2.2 hl hI mv_X9_remembers.2.2.2.1 rfl (Nat.le_of_ble_eq_true rfl) (fun G _ _ C hRt hHR hnT => ?_)
  show PW G 0 0 0 [some (pR 50 0), none] [] μ
  unfold w9_remembers_wp at hk
  refine px_aload_n (i := 0) C dX9_remembers_0 rfl rfl ?_
  refine px_geti 3207 C dX9_remembers_1 fl_RX9_91 rfl rfl rfl rfl ?_
  refine px_bipush (v := (8 : Int32)) C dX9_remembers_4 rfl ?_
  refine px_icmp_ne (tgt := 43) C dX9_remembers_6 (by decide) (fun c11 => ?_) (fun c11 => ?_)
  · replace hk := hk.1 c11
    refine px_aload_n (i := 0) C dX9_remembers_43 rfl rfl ?_
    refine px_dup C dX9_remembers_44 rfl ?_
    refine px_geti 3207 C dX9_remembers_45 fl_RX9_91 rfl rfl rfl rfl ?_
    refine px_iconst (v := (1 : Int32)) C dX9_remembers_48 rfl ?_
    refine px_iadd C dX9_remembers_49 ?_
    replace hk := hk _ rfl
    refine px_puti 3207 C dX9_remembers_50 fp_RX9_91 rfl rfl rfl rfl rfl rfl ?_
    refine px_iconst (v := (0 : Int32)) C dX9_remembers_53 rfl ?_
    refine px_istore_n (i := 1) C dX9_remembers_54 rfl (by decide) rfl ?_
    exact PW_at (w9_remembers_b55_ok C hRt hHR hnT hk) (And.intro rfl (And.intro rfl trivial)) (Nat.le_of_ble_eq_true rfl) (Nat.le_of_ble_eq_true rfl)
  · replace hk := hk.2 c11
    refine px_iconst (v := (0 : Int32)) C dX9_remembers_9 rfl ?_
    refine px_istore_n (i := 1) C dX9_remembers_10 rfl (by decide) rfl ?_
    exact PW_at (w9_remembers_b11_ok C hRt hHR hnT hk) (And.intro rfl (And.intro rfl trivial)) (Nat.le_of_ble_eq_true rfl) (Nat.le_of_ble_eq_true rfl)
theorem dX9_frames_0 : decode cX9_frames 0 = .ok (.iconst 0, 1) := by decide +kernel
theorem dX9_frames_1 : decode cX9_frames 1 = .ok (.istore_n 1, 1) := by decide +kernel
theorem dX9_frames_2 : decode cX9_frames 2 = .ok (.iload_n 1, 1) := by decide +kernel
theorem dX9_frames_3 : decode cX9_frames 3 = .ok (.sipush 342, 3) := by decide +kernel
theorem dX9_frames_6 : decode cX9_frames 6 = .ok (.if_icmp .ge 21, 3) := by decide +kernel
theorem dX9_frames_9 : decode cX9_frames 9 = .ok (.aload_n 0, 1) := by decide +kernel
theorem dX9_frames_10 : decode cX9_frames 10 = .ok (.getfield 16, 3) := by decide +kernel
theorem dX9_frames_13 : decode cX9_frames 13 = .ok (.iload_n 1, 1) := by decide +kernel
theorem dX9_frames_14 : decode cX9_frames 14 = .ok (.aload_n 0, 1) := by decide +kernel
theorem dX9_frames_15 : decode cX9_frames 15 = .ok (.getfield 7, 3) := by decide +kernel
theorem dX9_frames_18 : decode cX9_frames 18 = .ok (.iload_n 1, 1) := by decide +kernel
theorem dX9_frames_19 : decode cX9_frames 19 = .ok (.iaload, 1) := by decide +kernel
theorem dX9_frames_20 : decode cX9_frames 20 = .ok (.iastore, 1) := by decide +kernel
theorem dX9_frames_21 : decode cX9_frames 21 = .ok (.iinc 1 1, 3) := by decide +kernel
theorem dX9_frames_24 : decode cX9_frames 24 = .ok (.goto (-22), 3) := by decide +kernel
theorem dX9_frames_27 : decode cX9_frames 27 = .ok (.return_, 1) := by decide +kernel
set_option maxRecDepth 100000 in
set_option maxHeartbeats 4000000 in
theorem w9_frames_b2_ok {G : GT} {P : Mem → Prop} {X : String → Mem → Prop} (C : PCx G cX9_frames 2 RX9) (hRt : PRt G none (qV P) X) (hHR : HR G (0)) (hnT : NoT G) {μ : Mem} {l1 : Int32} (hk : w9_frames_b2 P μ l1) : PW G 0 0 2 [some (pR 50 0), some (pI l1)] [] μ := by
  refine hk (fun (μ : Mem) (l1 : Int32) => PW G 0 0 2 [some (pR 50 0), some (pI l1)] [] μ) (fun (μ : Mem) l1 hk => ?_)
  have hR2 : ∀ (μ : Mem) (l1 : Int32), PW G 0 0 2 [some (pR 50 0), some (pI l1)] [] μ → PW G 0 0 2 [some (pR 50 0), some (pI l1)] [] μ := fun _ _ h => h
  unfold w9_frames_b2_body at hk
  refine px_iload_n (i := 1) C dX9_frames_2 rfl rfl ?_
  refine px_sipush (v := (342 : Int32)) C dX9_frames_3 rfl ?_
  refine px_icmp_ge (tgt := 27) C dX9_frames_6 (by decide) (fun c4 => ?_) (fun c4 => ?_)
  · replace hk := hk.1 c4
    exact px_vret C hRt dX9_frames_27 rfl hk
  · replace hk := hk.2 c4
    refine px_aload_n (i := 0) C dX9_frames_9 rfl rfl ?_
    refine px_getr C dX9_frames_10 fl_RX9_16 rfl rfl rfl ?_
    refine px_iload_n (i := 1) C dX9_frames_13 rfl rfl ?_
    refine px_aload_n (i := 0) C dX9_frames_14 rfl rfl ?_
    refine px_getr C dX9_frames_15 fl_RX9_7 rfl rfl rfl ?_
    refine px_iload_n (i := 1) C dX9_frames_18 rfl rfl ?_
    obtain ⟨o1, hk⟩ := hk
    refine px_iald 3264 C dX9_frames_19 rfl rfl rfl rfl o1 ?_
    obtain ⟨o2, hk⟩ := hk
    replace hk := hk _ rfl
    refine px_iast 3392 C dX9_frames_20 rfl rfl rfl rfl o2 ?_
    refine px_iinc (i := 1) (v := (1 : Int32)) C dX9_frames_21 rfl rfl (by decide) rfl ?_
    refine px_goto (tgt := 2) C dX9_frames_24 (by decide) ?_
    exact PW_at (hR2 _ _ hk) (And.intro rfl (And.intro rfl trivial)) (Nat.le_of_ble_eq_true rfl) (Nat.le_of_ble_eq_true rfl)
set_option maxRecDepth 100000 in
set_option maxHeartbeats 4000000 in
theorem w9_frames_ok {l : Launch} {idx : List (Nat × Nat)} {μ : Mem} {P : Mem → Prop} {X : String → Mem → Prop} (hl : l.stackTraces = false) (hI : IdxOK idx) (hk : w9_frames_wp μ P) : PMet l yX9_frames (.code yX9_frames cX9_frames 2 none) 0 0 0 idx [pR 50 0] μ (qV P) X := by
  refine PMet_of mv_X9_frames.2.2.2.2.2.2 hl hI mv_X9_frames.2.2.2.1 rfl (Nat.le_of_ble_eq_true rfl) (fun G _ _ C hRt hHR hnT => ?_)
  show PW G 0 0 0 [some (pR 50 0), none] [] μ
  unfold w9_frames_wp at hk
  refine px_iconst (v := (0 : Int32)) C dX9_frames_0 rfl ?_
  refine px_istore_n (i := 1) C dX9_frames_1 rfl (by decide) rfl ?_
  exact PW_at (w9_frames_b2_ok C hRt hHR hnT hk) (And.intro rfl (And.intro rfl trivial)) (Nat.le_of_ble_eq_true rfl) (Nat.le_of_ble_eq_true rfl)
theorem dX9_parentOf_0 : decode cX9_parentOf 0 = .ok (.aload_n 0, 1) := by decide +kernel
theorem dX9_parentOf_1 : decode cX9_parentOf 1 = .ok (.iload_n 1, 1) := by decide +kernel
theorem dX9_parentOf_2 : decode cX9_parentOf 2 = .ok (.iconst 2, 1) := by decide +kernel
theorem dX9_parentOf_3 : decode cX9_parentOf 3 = .ok (.invokevirtual 83, 3) := by decide +kernel
theorem dX9_parentOf_6 : decode cX9_parentOf 6 = .ok (.iconst (-1), 1) := by decide +kernel
theorem dX9_parentOf_7 : decode cX9_parentOf 7 = .ok (.if_icmp .ne 7, 3) := by decide +kernel
theorem dX9_parentOf_10 : decode cX9_parentOf 10 = .ok (.iconst (-1), 1) := by decide +kernel
theorem dX9_parentOf_11 : decode cX9_parentOf 11 = .ok (.goto 13, 3) := by decide +kernel
theorem dX9_parentOf_14 : decode cX9_parentOf 14 = .ok (.aload_n 0, 1) := by decide +kernel
theorem dX9_parentOf_15 : decode cX9_parentOf 15 = .ok (.aload_n 0, 1) := by decide +kernel
theorem dX9_parentOf_16 : decode cX9_parentOf 16 = .ok (.iload_n 1, 1) := by decide +kernel
theorem dX9_parentOf_17 : decode cX9_parentOf 17 = .ok (.iconst 2, 1) := by decide +kernel
theorem dX9_parentOf_18 : decode cX9_parentOf 18 = .ok (.invokevirtual 83, 3) := by decide +kernel
theorem dX9_parentOf_21 : decode cX9_parentOf 21 = .ok (.invokevirtual 87, 3) := by decide +kernel
theorem dX9_parentOf_24 : decode cX9_parentOf 24 = .ok (.istore_n 2, 1) := by decide +kernel
theorem dX9_parentOf_25 : decode cX9_parentOf 25 = .ok (.iload_n 2, 1) := by decide +kernel
theorem dX9_parentOf_26 : decode cX9_parentOf 26 = .ok (.iconst (-1), 1) := by decide +kernel
theorem dX9_parentOf_27 : decode cX9_parentOf 27 = .ok (.if_icmp .eq 23, 3) := by decide +kernel
theorem dX9_parentOf_30 : decode cX9_parentOf 30 = .ok (.iload_n 2, 1) := by decide +kernel
theorem dX9_parentOf_31 : decode cX9_parentOf 31 = .ok (.iload_n 1, 1) := by decide +kernel
theorem dX9_parentOf_32 : decode cX9_parentOf 32 = .ok (.if_icmp .eq 18, 3) := by decide +kernel
theorem dX9_parentOf_35 : decode cX9_parentOf 35 = .ok (.aload_n 0, 1) := by decide +kernel
theorem dX9_parentOf_36 : decode cX9_parentOf 36 = .ok (.iload_n 2, 1) := by decide +kernel
theorem dX9_parentOf_37 : decode cX9_parentOf 37 = .ok (.iconst 1, 1) := by decide +kernel
theorem dX9_parentOf_38 : decode cX9_parentOf 38 = .ok (.invokevirtual 83, 3) := by decide +kernel
theorem dX9_parentOf_41 : decode cX9_parentOf 41 = .ok (.aload_n 0, 1) := by decide +kernel
theorem dX9_parentOf_42 : decode cX9_parentOf 42 = .ok (.iload_n 1, 1) := by decide +kernel
theorem dX9_parentOf_43 : decode cX9_parentOf 43 = .ok (.iconst 1, 1) := by decide +kernel
theorem dX9_parentOf_44 : decode cX9_parentOf 44 = .ok (.invokevirtual 83, 3) := by decide +kernel
theorem dX9_parentOf_47 : decode cX9_parentOf 47 = .ok (.if_icmp .eq 7, 3) := by decide +kernel
theorem dX9_parentOf_50 : decode cX9_parentOf 50 = .ok (.iconst (-1), 1) := by decide +kernel
theorem dX9_parentOf_51 : decode cX9_parentOf 51 = .ok (.goto 4, 3) := by decide +kernel
theorem dX9_parentOf_54 : decode cX9_parentOf 54 = .ok (.iload_n 2, 1) := by decide +kernel
theorem dX9_parentOf_55 : decode cX9_parentOf 55 = .ok (.ireturn, 1) := by decide +kernel
set_option maxRecDepth 100000 in
set_option maxHeartbeats 4000000 in
theorem w9_parentOf_b24_ok {G : GT} {P : Int32 → Mem → Prop} {X : String → Mem → Prop} (C : PCx G cX9_parentOf 3 RX9) (hRt : PRt G (some .int) (qI P) X) (hHR : HR G (2)) (hnT : NoT G) {μ : Mem} {l1 : Int32} {s0 : Int32} (hk : w9_parentOf_b24 P μ l1 s0) : PW G 0 0 24 [some (pR 50 0), some (pI l1), none] [pI s0] μ := by
  unfold w9_parentOf_b24 at hk
  refine px_istore_n (i := 2) C dX9_parentOf_24 rfl (by decide) rfl ?_
  refine px_iload_n (i := 2) C dX9_parentOf_25 rfl rfl ?_
  refine px_iconst (v := (-1 : Int32)) C dX9_parentOf_26 rfl ?_
  refine px_icmp_eq (tgt := 50) C dX9_parentOf_27 (by decide) (fun c13 => ?_) (fun c13 => ?_)
  · replace hk := hk.1 c13
    refine px_iconst (v := (-1 : Int32)) C dX9_parentOf_50 rfl ?_
    refine px_goto (tgt := 55) C dX9_parentOf_51 (by decide) ?_
    exact px_iret C hRt dX9_parentOf_55 rfl rfl hk
  · replace hk := hk.2 c13
    refine px_iload_n (i := 2) C dX9_parentOf_30 rfl rfl ?_
    refine px_iload_n (i := 1) C dX9_parentOf_31 rfl rfl ?_
    refine px_icmp_eq (tgt := 50) C dX9_parentOf_32 (by decide) (fun c12 => ?_) (fun c12 => ?_)
    · replace hk := hk.1 c12
      refine px_iconst (v := (-1 : Int32)) C dX9_parentOf_50 rfl ?_
      refine px_goto (tgt := 55) C dX9_parentOf_51 (by decide) ?_
      exact px_iret C hRt dX9_parentOf_55 rfl rfl hk
    · replace hk := hk.2 c12
      refine px_aload_n (i := 0) C dX9_parentOf_35 rfl rfl ?_
      refine px_iload_n (i := 2) C dX9_parentOf_36 rfl rfl ?_
      refine px_iconst (v := (1 : Int32)) C dX9_parentOf_37 rfl ?_
      refine px_callVi (h := 0) (rc' := 0) (rs' := 0) C (HR_le hHR (Nat.le_of_ble_eq_true rfl)) hRt hnT dX9_parentOf_38 (gw8 152 rfl rfl) mv_X9_of (w9_of_ok (PCx_l C) (PCx_I C) hk) rfl rfl rfl rfl rfl (Nat.le_of_ble_eq_true rfl) (Nat.le_of_ble_eq_true rfl) (Nat.le_of_ble_eq_true rfl) (Nat.le_of_ble_eq_true rfl) ?_
      intro r8 μ7 hk
      refine px_aload_n (i := 0) C dX9_parentOf_41 rfl rfl ?_
      refine px_iload_n (i := 1) C dX9_parentOf_42 rfl rfl ?_
      refine px_iconst (v := (1 : Int32)) C dX9_parentOf_43 rfl ?_
      refine px_callVi (h := 0) (rc' := 0) (rs' := 0) C (HR_le hHR (Nat.le_of_ble_eq_true rfl)) hRt hnT dX9_parentOf_44 (gw8 152 rfl rfl) mv_X9_of (w9_of_ok (PCx_l C) (PCx_I C) hk) rfl rfl rfl rfl rfl (Nat.le_of_ble_eq_true rfl) (Nat.le_of_ble_eq_true rfl) (Nat.le_of_ble_eq_true rfl) (Nat.le_of_ble_eq_true rfl) ?_
      intro r10 μ9 hk
      refine px_icmp_eq (tgt := 54) C dX9_parentOf_47 (by decide) (fun c11 => ?_) (fun c11 => ?_)
      · replace hk := hk.1 c11
        refine px_iload_n (i := 2) C dX9_parentOf_54 rfl rfl ?_
        exact px_iret C hRt dX9_parentOf_55 rfl rfl hk
      · replace hk := hk.2 c11
        refine px_iconst (v := (-1 : Int32)) C dX9_parentOf_50 rfl ?_
        refine px_goto (tgt := 55) C dX9_parentOf_51 (by decide) ?_
        exact px_iret C hRt dX9_parentOf_55 rfl rfl hk
set_option maxRecDepth 100000 in
set_option maxHeartbeats 4000000 in
theorem w9_parentOf_ok {l : Launch} {idx : List (Nat × Nat)} {μ : Mem} {a1 : Int32} {P : Int32 → Mem → Prop} {X : String → Mem → Prop} (hl : l.stackTraces = false) (hI : IdxOK idx) (hk : w9_parentOf_wp μ a1 P) : PMet l yX9_parentOf (.code yX9_parentOf cX9_parentOf 3 (some .int)) 2 0 0 idx [pR 50 0, pI a1] μ (qI P) X := by
  refine PMet_of mv_X9_parentOf.2.2.2.2.2.2 hl hI mv_X9_parentOf.2.2.2.1 rfl (Nat.le_of_ble_eq_true rfl) (fun G _ _ C hRt hHR hnT => ?_)
  show PW G 0 0 0 [some (pR 50 0), some (pI a1), none] [] μ
  unfold w9_parentOf_wp at hk
  refine px_aload_n (i := 0) C dX9_parentOf_0 rfl rfl ?_
  refine px_iload_n (i := 1) C dX9_parentOf_1 rfl rfl ?_
  refine px_iconst (v := (2 : Int32)) C dX9_parentOf_2 rfl ?_
  refine px_callVi (h := 0) (rc' := 0) (rs' := 0) C (HR_le hHR (Nat.le_of_ble_eq_true rfl)) hRt hnT dX9_parentOf_3 (gw8 152 rfl rfl) mv_X9_of (w9_of_ok (PCx_l C) (PCx_I C) hk) rfl rfl rfl rfl rfl (Nat.le_of_ble_eq_true rfl) (Nat.le_of_ble_eq_true rfl) (Nat.le_of_ble_eq_true rfl) (Nat.le_of_ble_eq_true rfl) ?_
  intro r2 μ1 hk
  refine px_iconst (v := (-1 : Int32)) C dX9_parentOf_6 rfl ?_
  refine px_icmp_ne (tgt := 14) C dX9_parentOf_7 (by decide) (fun c14 => ?_) (fun c14 => ?_)
  · replace hk := hk.1 c14
    refine px_aload_n (i := 0) C dX9_parentOf_14 rfl rfl ?_
    refine px_aload_n (i := 0) C dX9_parentOf_15 rfl rfl ?_
    refine px_iload_n (i := 1) C dX9_parentOf_16 rfl rfl ?_
    refine px_iconst (v := (2 : Int32)) C dX9_parentOf_17 rfl ?_
    refine px_callVi (h := 0) (rc' := 0) (rs' := 0) C (HR_le hHR (Nat.le_of_ble_eq_true rfl)) hRt hnT dX9_parentOf_18 (gw8 152 rfl rfl) mv_X9_of (w9_of_ok (PCx_l C) (PCx_I C) hk) rfl rfl rfl rfl rfl (Nat.le_of_ble_eq_true rfl) (Nat.le_of_ble_eq_true rfl) (Nat.le_of_ble_eq_true rfl) (Nat.le_of_ble_eq_true rfl) ?_
    intro r4 μ3 hk
    refine px_callVi (h := 1) (rc' := 0) (rs' := 0) C (HR_le hHR (Nat.le_of_ble_eq_true rfl)) hRt hnT dX9_parentOf_21 (gw8 148 rfl rfl) mv_X9_find (w9_find_ok (PCx_l C) (PCx_I C) hk) rfl rfl rfl rfl rfl (Nat.le_of_ble_eq_true rfl) (Nat.le_of_ble_eq_true rfl) (Nat.le_of_ble_eq_true rfl) (Nat.le_of_ble_eq_true rfl) ?_
    intro r6 μ5 hk
    exact PW_at (w9_parentOf_b24_ok C hRt hHR hnT hk) (And.intro rfl (And.intro rfl trivial)) (Nat.le_of_ble_eq_true rfl) (Nat.le_of_ble_eq_true rfl)
  · replace hk := hk.2 c14
    refine px_iconst (v := (-1 : Int32)) C dX9_parentOf_10 rfl ?_
    refine px_goto (tgt := 24) C dX9_parentOf_11 (by decide) ?_
    exact PW_at (w9_parentOf_b24_ok C hRt hHR hnT hk) (And.intro rfl (And.intro rfl trivial)) (Nat.le_of_ble_eq_true rfl) (Nat.le_of_ble_eq_true rfl)
theorem dX9_holds_0 : decode cX9_holds 0 = .ok (.aload_n 0, 1) := by decide +kernel
theorem dX9_holds_1 : decode cX9_holds 1 = .ok (.getfield 35, 3) := by decide +kernel
theorem dX9_holds_4 : decode cX9_holds 4 = .ok (.bipush 8, 2) := by decide +kernel
theorem dX9_holds_6 : decode cX9_holds 6 = .ok (.iload_n 2, 1) := by decide +kernel
theorem dX9_holds_7 : decode cX9_holds 7 = .ok (.imul, 1) := by decide +kernel
theorem dX9_holds_8 : decode cX9_holds 8 = .ok (.iload_n 1, 1) := by decide +kernel
theorem dX9_holds_9 : decode cX9_holds 9 = .ok (.iadd, 1) := by decide +kernel
theorem dX9_holds_10 : decode cX9_holds 10 = .ok (.iaload, 1) := by decide +kernel
theorem dX9_holds_11 : decode cX9_holds 11 = .ok (.ldc 98, 2) := by decide +kernel
theorem dX9_holds_13 : decode cX9_holds 13 = .ok (.if_icmp .ge 21, 3) := by decide +kernel
theorem dX9_holds_16 : decode cX9_holds 16 = .ok (.aload_n 0, 1) := by decide +kernel
theorem dX9_holds_17 : decode cX9_holds 17 = .ok (.getfield 35, 3) := by decide +kernel
theorem dX9_holds_20 : decode cX9_holds 20 = .ok (.bipush 8, 2) := by decide +kernel
theorem dX9_holds_22 : decode cX9_holds 22 = .ok (.iload_n 2, 1) := by decide +kernel
theorem dX9_holds_23 : decode cX9_holds 23 = .ok (.imul, 1) := by decide +kernel
theorem dX9_holds_24 : decode cX9_holds 24 = .ok (.iload_n 1, 1) := by decide +kernel
theorem dX9_holds_25 : decode cX9_holds 25 = .ok (.iadd, 1) := by decide +kernel
theorem dX9_holds_26 : decode cX9_holds 26 = .ok (.iaload, 1) := by decide +kernel
theorem dX9_holds_27 : decode cX9_holds 27 = .ok (.iload_n 3, 1) := by decide +kernel
theorem dX9_holds_28 : decode cX9_holds 28 = .ok (.iadd, 1) := by decide +kernel
theorem dX9_holds_29 : decode cX9_holds 29 = .ok (.ifCond .ge 5, 3) := by decide +kernel
theorem dX9_holds_32 : decode cX9_holds 32 = .ok (.iconst 0, 1) := by decide +kernel
theorem dX9_holds_33 : decode cX9_holds 33 = .ok (.ireturn, 1) := by decide +kernel
theorem dX9_holds_34 : decode cX9_holds 34 = .ok (.iconst 0, 1) := by decide +kernel
theorem dX9_holds_35 : decode cX9_holds 35 = .ok (.istore 4, 2) := by decide +kernel
theorem dX9_holds_37 : decode cX9_holds 37 = .ok (.iload 4, 2) := by decide +kernel
theorem dX9_holds_39 : decode cX9_holds 39 = .ok (.bipush 8, 2) := by decide +kernel
theorem dX9_holds_41 : decode cX9_holds 41 = .ok (.if_icmp .ge 110, 3) := by decide +kernel
theorem dX9_holds_44 : decode cX9_holds 44 = .ok (.iconst 0, 1) := by decide +kernel
theorem dX9_holds_45 : decode cX9_holds 45 = .ok (.istore 5, 2) := by decide +kernel
theorem dX9_holds_47 : decode cX9_holds 47 = .ok (.iload 5, 2) := by decide +kernel
theorem dX9_holds_49 : decode cX9_holds 49 = .ok (.bipush 8, 2) := by decide +kernel
theorem dX9_holds_51 : decode cX9_holds 51 = .ok (.if_icmp .ge 94, 3) := by decide +kernel
theorem dX9_holds_54 : decode cX9_holds 54 = .ok (.aload_n 0, 1) := by decide +kernel
theorem dX9_holds_55 : decode cX9_holds 55 = .ok (.getfield 35, 3) := by decide +kernel
theorem dX9_holds_58 : decode cX9_holds 58 = .ok (.bipush 8, 2) := by decide +kernel
theorem dX9_holds_60 : decode cX9_holds 60 = .ok (.iload 4, 2) := by decide +kernel
theorem dX9_holds_62 : decode cX9_holds 62 = .ok (.imul, 1) := by decide +kernel
theorem dX9_holds_63 : decode cX9_holds 63 = .ok (.iload_n 1, 1) := by decide +kernel
theorem dX9_holds_64 : decode cX9_holds 64 = .ok (.iadd, 1) := by decide +kernel
theorem dX9_holds_65 : decode cX9_holds 65 = .ok (.iaload, 1) := by decide +kernel
theorem dX9_holds_66 : decode cX9_holds 66 = .ok (.istore 6, 2) := by decide +kernel
theorem dX9_holds_68 : decode cX9_holds 68 = .ok (.aload_n 0, 1) := by decide +kernel
theorem dX9_holds_69 : decode cX9_holds 69 = .ok (.getfield 35, 3) := by decide +kernel
theorem dX9_holds_72 : decode cX9_holds 72 = .ok (.bipush 8, 2) := by decide +kernel
theorem dX9_holds_74 : decode cX9_holds 74 = .ok (.iload_n 2, 1) := by decide +kernel
theorem dX9_holds_75 : decode cX9_holds 75 = .ok (.imul, 1) := by decide +kernel
theorem dX9_holds_76 : decode cX9_holds 76 = .ok (.iload 5, 2) := by decide +kernel
theorem dX9_holds_78 : decode cX9_holds 78 = .ok (.iadd, 1) := by decide +kernel
theorem dX9_holds_79 : decode cX9_holds 79 = .ok (.iaload, 1) := by decide +kernel
theorem dX9_holds_80 : decode cX9_holds 80 = .ok (.istore 7, 2) := by decide +kernel
theorem dX9_holds_82 : decode cX9_holds 82 = .ok (.iload 6, 2) := by decide +kernel
theorem dX9_holds_84 : decode cX9_holds 84 = .ok (.ldc 98, 2) := by decide +kernel
theorem dX9_holds_86 : decode cX9_holds 86 = .ok (.if_icmp .ge 53, 3) := by decide +kernel
theorem dX9_holds_89 : decode cX9_holds 89 = .ok (.iload 7, 2) := by decide +kernel
theorem dX9_holds_91 : decode cX9_holds 91 = .ok (.ldc 98, 2) := by decide +kernel
theorem dX9_holds_93 : decode cX9_holds 93 = .ok (.if_icmp .ge 46, 3) := by decide +kernel
theorem dX9_holds_96 : decode cX9_holds 96 = .ok (.iload 6, 2) := by decide +kernel
theorem dX9_holds_98 : decode cX9_holds 98 = .ok (.iload_n 3, 1) := by decide +kernel
theorem dX9_holds_99 : decode cX9_holds 99 = .ok (.iadd, 1) := by decide +kernel
theorem dX9_holds_100 : decode cX9_holds 100 = .ok (.iload 7, 2) := by decide +kernel
theorem dX9_holds_102 : decode cX9_holds 102 = .ok (.iadd, 1) := by decide +kernel
theorem dX9_holds_103 : decode cX9_holds 103 = .ok (.aload_n 0, 1) := by decide +kernel
theorem dX9_holds_104 : decode cX9_holds 104 = .ok (.getfield 35, 3) := by decide +kernel
theorem dX9_holds_107 : decode cX9_holds 107 = .ok (.bipush 8, 2) := by decide +kernel
theorem dX9_holds_109 : decode cX9_holds 109 = .ok (.iload 4, 2) := by decide +kernel
theorem dX9_holds_111 : decode cX9_holds 111 = .ok (.imul, 1) := by decide +kernel
theorem dX9_holds_112 : decode cX9_holds 112 = .ok (.iload 5, 2) := by decide +kernel
theorem dX9_holds_114 : decode cX9_holds 114 = .ok (.iadd, 1) := by decide +kernel
theorem dX9_holds_115 : decode cX9_holds 115 = .ok (.iaload, 1) := by decide +kernel
theorem dX9_holds_116 : decode cX9_holds 116 = .ok (.if_icmp .ge 23, 3) := by decide +kernel
theorem dX9_holds_119 : decode cX9_holds 119 = .ok (.aload_n 0, 1) := by decide +kernel
theorem dX9_holds_120 : decode cX9_holds 120 = .ok (.getfield 35, 3) := by decide +kernel
theorem dX9_holds_123 : decode cX9_holds 123 = .ok (.bipush 8, 2) := by decide +kernel
theorem dX9_holds_125 : decode cX9_holds 125 = .ok (.iload 4, 2) := by decide +kernel
theorem dX9_holds_127 : decode cX9_holds 127 = .ok (.imul, 1) := by decide +kernel
theorem dX9_holds_128 : decode cX9_holds 128 = .ok (.iload 5, 2) := by decide +kernel
theorem dX9_holds_130 : decode cX9_holds 130 = .ok (.iadd, 1) := by decide +kernel
theorem dX9_holds_131 : decode cX9_holds 131 = .ok (.iload 6, 2) := by decide +kernel
theorem dX9_holds_133 : decode cX9_holds 133 = .ok (.iload_n 3, 1) := by decide +kernel
theorem dX9_holds_134 : decode cX9_holds 134 = .ok (.iadd, 1) := by decide +kernel
theorem dX9_holds_135 : decode cX9_holds 135 = .ok (.iload 7, 2) := by decide +kernel
theorem dX9_holds_137 : decode cX9_holds 137 = .ok (.iadd, 1) := by decide +kernel
theorem dX9_holds_138 : decode cX9_holds 138 = .ok (.iastore, 1) := by decide +kernel
theorem dX9_holds_139 : decode cX9_holds 139 = .ok (.iinc 5 1, 3) := by decide +kernel
theorem dX9_holds_142 : decode cX9_holds 142 = .ok (.goto (-95), 3) := by decide +kernel
theorem dX9_holds_145 : decode cX9_holds 145 = .ok (.iinc 4 1, 3) := by decide +kernel
theorem dX9_holds_148 : decode cX9_holds 148 = .ok (.goto (-111), 3) := by decide +kernel
theorem dX9_holds_151 : decode cX9_holds 151 = .ok (.iconst 1, 1) := by decide +kernel
theorem dX9_holds_152 : decode cX9_holds 152 = .ok (.ireturn, 1) := by decide +kernel
set_option maxRecDepth 100000 in
set_option maxHeartbeats 4000000 in
theorem w9_holds_b47_ok {G : GT} {P : Int32 → Mem → Prop} {X : String → Mem → Prop} (C : PCx G cX9_holds 8 RX9) (hRt : PRt G (some .boolean) (qI P) X) (hHR : HR G (0)) (hnT : NoT G) {R37 : Mem → Int32 → Int32 → Int32 → Int32 → Prop} (hR37 : ∀ (μ : Mem) (l1 : Int32) (l2 : Int32) (l3 : Int32) (l4 : Int32), R37 μ l1 l2 l3 l4 → PW G 0 0 37 [some (pR 50 0), some (pI l1), some (pI l2), some (pI l3), some (pI l4), none, none, none] [] μ) {μ : Mem} {l1 : Int32} {l2 : Int32} {l3 : Int32} {l4 : Int32} {l5 : Int32} (hk : w9_holds_b47 P R37 μ l1 l2 l3 l4 l5) : PW G 0 0 47 [some (pR 50 0), some (pI l1), some (pI l2), some (pI l3), some (pI l4), some (pI l5), none, none] [] μ := by
  refine hk (fun (μ : Mem) (l1 : Int32) (l2 : Int32) (l3 : Int32) (l4 : Int32) (l5 : Int32) => PW G 0 0 47 [some (pR 50 0), some (pI l1), some (pI l2), some (pI l3), some (pI l4), some (pI l5), none, none] [] μ) (fun (μ : Mem) l1 l2 l3 l4 l5 hk => ?_)
  have hR47 : ∀ (μ : Mem) (l1 : Int32) (l2 : Int32) (l3 : Int32) (l4 : Int32) (l5 : Int32), PW G 0 0 47 [some (pR 50 0), some (pI l1), some (pI l2), some (pI l3), some (pI l4), some (pI l5), none, none] [] μ → PW G 0 0 47 [some (pR 50 0), some (pI l1), some (pI l2), some (pI l3), some (pI l4), some (pI l5), none, none] [] μ := fun _ _ _ _ _ _ h => h
  unfold w9_holds_b47_body at hk
  refine px_iload (i := 5) C dX9_holds_47 rfl ?_
  refine px_bipush (v := (8 : Int32)) C dX9_holds_49 rfl ?_
  refine px_icmp_ge (tgt := 145) C dX9_holds_51 (by decide) (fun c10 => ?_) (fun c10 => ?_)
  · replace hk := hk.1 c10
    refine px_iinc (i := 4) (v := (1 : Int32)) C dX9_holds_145 rfl rfl (by decide) rfl ?_
    refine px_goto (tgt := 37) C dX9_holds_148 (by decide) ?_
    exact PW_at (hR37 _ _ _ _ _ hk) (And.intro rfl (And.intro rfl (And.intro rfl (And.intro rfl (And.intro rfl trivial))))) (Nat.le_of_ble_eq_true rfl) (Nat.le_of_ble_eq_true rfl)
  · replace hk := hk.2 c10
    refine px_aload_n (i := 0) C dX9_holds_54 rfl rfl ?_
    refine px_getr C dX9_holds_55 fl_RX9_35 rfl rfl rfl ?_
    refine px_bipush (v := (8 : Int32)) C dX9_holds_58 rfl ?_
    refine px_iload (i := 4) C dX9_holds_60 rfl ?_
    refine px_imul C dX9_holds_62 ?_
    refine px_iload_n (i := 1) C dX9_holds_63 rfl rfl ?_
    refine px_iadd C dX9_holds_64 ?_
    obtain ⟨o2, hk⟩ := hk
    refine px_iald 3712 C dX9_holds_65 rfl rfl rfl rfl o2 ?_
    refine px_istore (i := 6) C dX9_holds_66 (by decide) rfl ?_
    refine px_aload_n (i := 0) C dX9_holds_68 rfl rfl ?_
    refine px_getr C dX9_holds_69 fl_RX9_35 rfl rfl rfl ?_
    refine px_bipush (v := (8 : Int32)) C dX9_holds_72 rfl ?_
    refine px_iload_n (i := 2) C dX9_holds_74 rfl rfl ?_
    refine px_imul C dX9_holds_75 ?_
    refine px_iload (i := 5) C dX9_holds_76 rfl ?_
    refine px_iadd C dX9_holds_78 ?_
    obtain ⟨o3, hk⟩ := hk
    refine px_iald 3712 C dX9_holds_79 rfl rfl rfl rfl o3 ?_
    refine px_istore (i := 7) C dX9_holds_80 (by decide) rfl ?_
    refine px_iload (i := 6) C dX9_holds_82 rfl ?_
    refine px_ldc (v := (100000000 : Int32)) C dX9_holds_84 (gw8 216 rfl rfl) ?_
    refine px_icmp_ge (tgt := 139) C dX9_holds_86 (by decide) (fun c9 => ?_) (fun c9 => ?_)
    · replace hk := hk.1 c9
      refine px_iinc (i := 5) (v := (1 : Int32)) C dX9_holds_139 rfl rfl (by decide) rfl ?_
      refine px_goto (tgt := 47) C dX9_holds_142 (by decide) ?_
      exact PW_at (hR47 _ _ _ _ _ _ hk) (And.intro rfl (And.intro rfl (And.intro rfl (And.intro rfl (And.intro rfl (And.intro rfl trivial)))))) (Nat.le_of_ble_eq_true rfl) (Nat.le_of_ble_eq_true rfl)
    · replace hk := hk.2 c9
      refine px_iload (i := 7) C dX9_holds_89 rfl ?_
      refine px_ldc (v := (100000000 : Int32)) C dX9_holds_91 (gw8 216 rfl rfl) ?_
      refine px_icmp_ge (tgt := 139) C dX9_holds_93 (by decide) (fun c8 => ?_) (fun c8 => ?_)
      · replace hk := hk.1 c8
        refine px_iinc (i := 5) (v := (1 : Int32)) C dX9_holds_139 rfl rfl (by decide) rfl ?_
        refine px_goto (tgt := 47) C dX9_holds_142 (by decide) ?_
        exact PW_at (hR47 _ _ _ _ _ _ hk) (And.intro rfl (And.intro rfl (And.intro rfl (And.intro rfl (And.intro rfl (And.intro rfl trivial)))))) (Nat.le_of_ble_eq_true rfl) (Nat.le_of_ble_eq_true rfl)
      · replace hk := hk.2 c8
        refine px_iload (i := 6) C dX9_holds_96 rfl ?_
        refine px_iload_n (i := 3) C dX9_holds_98 rfl rfl ?_
        refine px_iadd C dX9_holds_99 ?_
        refine px_iload (i := 7) C dX9_holds_100 rfl ?_
        refine px_iadd C dX9_holds_102 ?_
        refine px_aload_n (i := 0) C dX9_holds_103 rfl rfl ?_
        refine px_getr C dX9_holds_104 fl_RX9_35 rfl rfl rfl ?_
        refine px_bipush (v := (8 : Int32)) C dX9_holds_107 rfl ?_
        refine px_iload (i := 4) C dX9_holds_109 rfl ?_
        refine px_imul C dX9_holds_111 ?_
        refine px_iload (i := 5) C dX9_holds_112 rfl ?_
        refine px_iadd C dX9_holds_114 ?_
        obtain ⟨o4, hk⟩ := hk
        refine px_iald 3712 C dX9_holds_115 rfl rfl rfl rfl o4 ?_
        refine px_icmp_ge (tgt := 139) C dX9_holds_116 (by decide) (fun c7 => ?_) (fun c7 => ?_)
        · replace hk := hk.1 c7
          refine px_iinc (i := 5) (v := (1 : Int32)) C dX9_holds_139 rfl rfl (by decide) rfl ?_
          refine px_goto (tgt := 47) C dX9_holds_142 (by decide) ?_
          exact PW_at (hR47 _ _ _ _ _ _ hk) (And.intro rfl (And.intro rfl (And.intro rfl (And.intro rfl (And.intro rfl (And.intro rfl trivial)))))) (Nat.le_of_ble_eq_true rfl) (Nat.le_of_ble_eq_true rfl)
        · replace hk := hk.2 c7
          refine px_aload_n (i := 0) C dX9_holds_119 rfl rfl ?_
          refine px_getr C dX9_holds_120 fl_RX9_35 rfl rfl rfl ?_
          refine px_bipush (v := (8 : Int32)) C dX9_holds_123 rfl ?_
          refine px_iload (i := 4) C dX9_holds_125 rfl ?_
          refine px_imul C dX9_holds_127 ?_
          refine px_iload (i := 5) C dX9_holds_128 rfl ?_
          refine px_iadd C dX9_holds_130 ?_
          refine px_iload (i := 6) C dX9_holds_131 rfl ?_
          refine px_iload_n (i := 3) C dX9_holds_133 rfl rfl ?_
          refine px_iadd C dX9_holds_134 ?_
          refine px_iload (i := 7) C dX9_holds_135 rfl ?_
          refine px_iadd C dX9_holds_137 ?_
          obtain ⟨o5, hk⟩ := hk
          replace hk := hk _ rfl
          refine px_iast 3712 C dX9_holds_138 rfl rfl rfl rfl o5 ?_
          refine px_iinc (i := 5) (v := (1 : Int32)) C dX9_holds_139 rfl rfl (by decide) rfl ?_
          refine px_goto (tgt := 47) C dX9_holds_142 (by decide) ?_
          exact PW_at (hR47 _ _ _ _ _ _ hk) (And.intro rfl (And.intro rfl (And.intro rfl (And.intro rfl (And.intro rfl (And.intro rfl trivial)))))) (Nat.le_of_ble_eq_true rfl) (Nat.le_of_ble_eq_true rfl)
set_option maxRecDepth 100000 in
set_option maxHeartbeats 4000000 in
theorem w9_holds_b37_ok {G : GT} {P : Int32 → Mem → Prop} {X : String → Mem → Prop} (C : PCx G cX9_holds 8 RX9) (hRt : PRt G (some .boolean) (qI P) X) (hHR : HR G (0)) (hnT : NoT G) {μ : Mem} {l1 : Int32} {l2 : Int32} {l3 : Int32} {l4 : Int32} (hk : w9_holds_b37 P μ l1 l2 l3 l4) : PW G 0 0 37 [some (pR 50 0), some (pI l1), some (pI l2), some (pI l3), some (pI l4), none, none, none] [] μ := by
  refine hk (fun (μ : Mem) (l1 : Int32) (l2 : Int32) (l3 : Int32) (l4 : Int32) => PW G 0 0 37 [some (pR 50 0), some (pI l1), some (pI l2), some (pI l3), some (pI l4), none, none, none] [] μ) (fun (μ : Mem) l1 l2 l3 l4 hk => ?_)
  have hR37 : ∀ (μ : Mem) (l1 : Int32) (l2 : Int32) (l3 : Int32) (l4 : Int32), PW G 0 0 37 [some (pR 50 0), some (pI l1), some (pI l2), some (pI l3), some (pI l4), none, none, none] [] μ → PW G 0 0 37 [some (pR 50 0), some (pI l1), some (pI l2), some (pI l3), some (pI l4), none, none, none] [] μ := fun _ _ _ _ _ h => h
  unfold w9_holds_b37_body at hk
  refine px_iload (i := 4) C dX9_holds_37 rfl ?_
  refine px_bipush (v := (8 : Int32)) C dX9_holds_39 rfl ?_
  refine px_icmp_ge (tgt := 151) C dX9_holds_41 (by decide) (fun c11 => ?_) (fun c11 => ?_)
  · replace hk := hk.1 c11
    refine px_iconst (v := (1 : Int32)) C dX9_holds_151 rfl ?_
    exact px_iret C hRt dX9_holds_152 rfl rfl hk
  · replace hk := hk.2 c11
    refine px_iconst (v := (0 : Int32)) C dX9_holds_44 rfl ?_
    refine px_istore (i := 5) C dX9_holds_45 (by decide) rfl ?_
    exact PW_at (w9_holds_b47_ok C hRt hHR hnT hR37 hk) (And.intro rfl (And.intro rfl (And.intro rfl (And.intro rfl (And.intro rfl (And.intro rfl trivial)))))) (Nat.le_of_ble_eq_true rfl) (Nat.le_of_ble_eq_true rfl)
set_option maxRecDepth 100000 in
set_option maxHeartbeats 4000000 in
theorem w9_holds_ok {l : Launch} {idx : List (Nat × Nat)} {μ : Mem} {a1 : Int32} {a2 : Int32} {a3 : Int32} {P : Int32 → Mem → Prop} {X : String → Mem → Prop} (hl : l.stackTraces = false) (hI : IdxOK idx) (hk : w9_holds_wp μ a1 a2 a3 P) : PMet l yX9_holds (.code yX9_holds cX9_holds 8 (some .boolean)) 0 0 0 idx [pR 50 0, pI a1, pI a2, pI a3] μ (qI P) X := by
  refine PMet_of mv_X9_holds.2.2.2.2.2.2 hl hI mv_X9_holds.2.2.2.1 rfl (Nat.le_of_ble_eq_true rfl) (fun G _ _ C hRt hHR hnT => ?_)
  show PW G 0 0 0 [some (pR 50 0), some (pI a1), some (pI a2), some (pI a3), none, none, none, none] [] μ
  unfold w9_holds_wp at hk
  refine px_aload_n (i := 0) C dX9_holds_0 rfl rfl ?_
  refine px_getr C dX9_holds_1 fl_RX9_35 rfl rfl rfl ?_
  refine px_bipush (v := (8 : Int32)) C dX9_holds_4 rfl ?_
  refine px_iload_n (i := 2) C dX9_holds_6 rfl rfl ?_
  refine px_imul C dX9_holds_7 ?_
  refine px_iload_n (i := 1) C dX9_holds_8 rfl rfl ?_
  refine px_iadd C dX9_holds_9 ?_
  obtain ⟨o1, hk⟩ := hk
  refine px_iald 3712 C dX9_holds_10 rfl rfl rfl rfl o1 ?_
  refine px_ldc (v := (100000000 : Int32)) C dX9_holds_11 (gw8 216 rfl rfl) ?_
  refine px_icmp_ge (tgt := 34) C dX9_holds_13 (by decide) (fun c14 => ?_) (fun c14 => ?_)
  · replace hk := hk.1 c14
    refine px_iconst (v := (0 : Int32)) C dX9_holds_34 rfl ?_
    refine px_istore (i := 4) C dX9_holds_35 (by decide) rfl ?_
    exact PW_at (w9_holds_b37_ok C hRt hHR hnT hk) (And.intro rfl (And.intro rfl (And.intro rfl (And.intro rfl (And.intro rfl trivial))))) (Nat.le_of_ble_eq_true rfl) (Nat.le_of_ble_eq_true rfl)
  · replace hk := hk.2 c14
    refine px_aload_n (i := 0) C dX9_holds_16 rfl rfl ?_
    refine px_getr C dX9_holds_17 fl_RX9_35 rfl rfl rfl ?_
    refine px_bipush (v := (8 : Int32)) C dX9_holds_20 rfl ?_
    refine px_iload_n (i := 2) C dX9_holds_22 rfl rfl ?_
    refine px_imul C dX9_holds_23 ?_
    refine px_iload_n (i := 1) C dX9_holds_24 rfl rfl ?_
    refine px_iadd C dX9_holds_25 ?_
    obtain ⟨o12, hk⟩ := hk
    refine px_iald 3712 C dX9_holds_26 rfl rfl rfl rfl o12 ?_
    refine px_iload_n (i := 3) C dX9_holds_27 rfl rfl ?_
    refine px_iadd C dX9_holds_28 ?_
    refine px_if_ge (tgt := 34) C dX9_holds_29 (by decide) (fun c13 => ?_) (fun c13 => ?_)
    · replace hk := hk.1 c13
      refine px_iconst (v := (0 : Int32)) C dX9_holds_34 rfl ?_
      refine px_istore (i := 4) C dX9_holds_35 (by decide) rfl ?_
      exact PW_at (w9_holds_b37_ok C hRt hHR hnT hk) (And.intro rfl (And.intro rfl (And.intro rfl (And.intro rfl (And.intro rfl trivial))))) (Nat.le_of_ble_eq_true rfl) (Nat.le_of_ble_eq_true rfl)
    · replace hk := hk.2 c13
      refine px_iconst (v := (0 : Int32)) C dX9_holds_32 rfl ?_
      exact px_iret C hRt dX9_holds_33 rfl rfl hk
theorem dX9_accepts_0 : decode cX9_accepts 0 = .ok (.iconst 0, 1) := by decide +kernel
theorem dX9_accepts_1 : decode cX9_accepts 1 = .ok (.istore_n 1, 1) := by decide +kernel
theorem dX9_accepts_2 : decode cX9_accepts 2 = .ok (.iload_n 1, 1) := by decide +kernel
theorem dX9_accepts_3 : decode cX9_accepts 3 = .ok (.bipush 64, 2) := by decide +kernel
theorem dX9_accepts_5 : decode cX9_accepts 5 = .ok (.if_icmp .ge 28, 3) := by decide +kernel
theorem dX9_accepts_8 : decode cX9_accepts 8 = .ok (.aload_n 0, 1) := by decide +kernel
theorem dX9_accepts_9 : decode cX9_accepts 9 = .ok (.getfield 32, 3) := by decide +kernel
theorem dX9_accepts_12 : decode cX9_accepts 12 = .ok (.iload_n 1, 1) := by decide +kernel
theorem dX9_accepts_13 : decode cX9_accepts 13 = .ok (.iload_n 1, 1) := by decide +kernel
theorem dX9_accepts_14 : decode cX9_accepts 14 = .ok (.bipush 9, 2) := by decide +kernel
theorem dX9_accepts_16 : decode cX9_accepts 16 = .ok (.irem, 1) := by decide +kernel
theorem dX9_accepts_17 : decode cX9_accepts 17 = .ok (.ifCond .ne 7, 3) := by decide +kernel
theorem dX9_accepts_20 : decode cX9_accepts 20 = .ok (.iconst 0, 1) := by decide +kernel
theorem dX9_accepts_21 : decode cX9_accepts 21 = .ok (.goto 5, 3) := by decide +kernel
theorem dX9_accepts_24 : decode cX9_accepts 24 = .ok (.ldc 98, 2) := by decide +kernel
theorem dX9_accepts_26 : decode cX9_accepts 26 = .ok (.iastore, 1) := by decide +kernel
theorem dX9_accepts_27 : decode cX9_accepts 27 = .ok (.iinc 1 1, 3) := by decide +kernel
theorem dX9_accepts_30 : decode cX9_accepts 30 = .ok (.goto (-28), 3) := by decide +kernel
theorem dX9_accepts_33 : decode cX9_accepts 33 = .ok (.iconst 0, 1) := by decide +kernel
theorem dX9_accepts_34 : decode cX9_accepts 34 = .ok (.istore_n 1, 1) := by decide +kernel
theorem dX9_accepts_35 : decode cX9_accepts 35 = .ok (.iload_n 1, 1) := by decide +kernel
theorem dX9_accepts_36 : decode cX9_accepts 36 = .ok (.aload_n 0, 1) := by decide +kernel
theorem dX9_accepts_37 : decode cX9_accepts 37 = .ok (.getfield 7, 3) := by decide +kernel
theorem dX9_accepts_40 : decode cX9_accepts 40 = .ok (.iconst 0, 1) := by decide +kernel
theorem dX9_accepts_41 : decode cX9_accepts 41 = .ok (.iaload, 1) := by decide +kernel
theorem dX9_accepts_42 : decode cX9_accepts 42 = .ok (.if_icmp .ge 187, 3) := by decide +kernel
theorem dX9_accepts_45 : decode cX9_accepts 45 = .ok (.aload_n 0, 1) := by decide +kernel
theorem dX9_accepts_46 : decode cX9_accepts 46 = .ok (.iload_n 1, 1) := by decide +kernel
theorem dX9_accepts_47 : decode cX9_accepts 47 = .ok (.invokevirtual 99, 3) := by decide +kernel
theorem dX9_accepts_50 : decode cX9_accepts 50 = .ok (.istore_n 2, 1) := by decide +kernel
theorem dX9_accepts_51 : decode cX9_accepts 51 = .ok (.aload_n 0, 1) := by decide +kernel
theorem dX9_accepts_52 : decode cX9_accepts 52 = .ok (.getfield 44, 3) := by decide +kernel
theorem dX9_accepts_55 : decode cX9_accepts 55 = .ok (.iload_n 1, 1) := by decide +kernel
theorem dX9_accepts_56 : decode cX9_accepts 56 = .ok (.iconst (-1), 1) := by decide +kernel
theorem dX9_accepts_57 : decode cX9_accepts 57 = .ok (.iastore, 1) := by decide +kernel
theorem dX9_accepts_58 : decode cX9_accepts 58 = .ok (.iload_n 2, 1) := by decide +kernel
theorem dX9_accepts_59 : decode cX9_accepts 59 = .ok (.iconst (-1), 1) := by decide +kernel
theorem dX9_accepts_60 : decode cX9_accepts 60 = .ok (.if_icmp .eq 163, 3) := by decide +kernel
theorem dX9_accepts_63 : decode cX9_accepts 63 = .ok (.aload_n 0, 1) := by decide +kernel
theorem dX9_accepts_64 : decode cX9_accepts 64 = .ok (.iload_n 2, 1) := by decide +kernel
theorem dX9_accepts_65 : decode cX9_accepts 65 = .ok (.iconst 3, 1) := by decide +kernel
theorem dX9_accepts_66 : decode cX9_accepts 66 = .ok (.invokevirtual 83, 3) := by decide +kernel
theorem dX9_accepts_69 : decode cX9_accepts 69 = .ok (.aload_n 0, 1) := by decide +kernel
theorem dX9_accepts_70 : decode cX9_accepts 70 = .ok (.iload_n 1, 1) := by decide +kernel
theorem dX9_accepts_71 : decode cX9_accepts 71 = .ok (.iconst 3, 1) := by decide +kernel
theorem dX9_accepts_72 : decode cX9_accepts 72 = .ok (.invokevirtual 83, 3) := by decide +kernel
theorem dX9_accepts_75 : decode cX9_accepts 75 = .ok (.if_icmp .eq 148, 3) := by decide +kernel
theorem dX9_accepts_78 : decode cX9_accepts 78 = .ok (.iconst 0, 1) := by decide +kernel
theorem dX9_accepts_79 : decode cX9_accepts 79 = .ok (.istore_n 3, 1) := by decide +kernel
theorem dX9_accepts_80 : decode cX9_accepts 80 = .ok (.iload_n 3, 1) := by decide +kernel
theorem dX9_accepts_81 : decode cX9_accepts 81 = .ok (.bipush 64, 2) := by decide +kernel
theorem dX9_accepts_83 : decode cX9_accepts 83 = .ok (.if_icmp .ge 21, 3) := by decide +kernel
theorem dX9_accepts_86 : decode cX9_accepts 86 = .ok (.aload_n 0, 1) := by decide +kernel
theorem dX9_accepts_87 : decode cX9_accepts 87 = .ok (.getfield 35, 3) := by decide +kernel
theorem dX9_accepts_90 : decode cX9_accepts 90 = .ok (.iload_n 3, 1) := by decide +kernel
theorem dX9_accepts_91 : decode cX9_accepts 91 = .ok (.aload_n 0, 1) := by decide +kernel
theorem dX9_accepts_92 : decode cX9_accepts 92 = .ok (.getfield 32, 3) := by decide +kernel
theorem dX9_accepts_95 : decode cX9_accepts 95 = .ok (.iload_n 3, 1) := by decide +kernel
theorem dX9_accepts_96 : decode cX9_accepts 96 = .ok (.iaload, 1) := by decide +kernel
theorem dX9_accepts_97 : decode cX9_accepts 97 = .ok (.iastore, 1) := by decide +kernel
theorem dX9_accepts_98 : decode cX9_accepts 98 = .ok (.iinc 3 1, 3) := by decide +kernel
theorem dX9_accepts_101 : decode cX9_accepts 101 = .ok (.goto (-21), 3) := by decide +kernel
theorem dX9_accepts_104 : decode cX9_accepts 104 = .ok (.aload_n 0, 1) := by decide +kernel
theorem dX9_accepts_105 : decode cX9_accepts 105 = .ok (.iload_n 1, 1) := by decide +kernel
theorem dX9_accepts_106 : decode cX9_accepts 106 = .ok (.iconst 3, 1) := by decide +kernel
theorem dX9_accepts_107 : decode cX9_accepts 107 = .ok (.invokevirtual 83, 3) := by decide +kernel
theorem dX9_accepts_110 : decode cX9_accepts 110 = .ok (.istore_n 3, 1) := by decide +kernel
theorem dX9_accepts_111 : decode cX9_accepts 111 = .ok (.aload_n 0, 1) := by decide +kernel
theorem dX9_accepts_112 : decode cX9_accepts 112 = .ok (.iload_n 2, 1) := by decide +kernel
theorem dX9_accepts_113 : decode cX9_accepts 113 = .ok (.iconst 3, 1) := by decide +kernel
theorem dX9_accepts_114 : decode cX9_accepts 114 = .ok (.invokevirtual 83, 3) := by decide +kernel
theorem dX9_accepts_117 : decode cX9_accepts 117 = .ok (.istore 4, 2) := by decide +kernel
theorem dX9_accepts_119 : decode cX9_accepts 119 = .ok (.aload_n 0, 1) := by decide +kernel
theorem dX9_accepts_120 : decode cX9_accepts 120 = .ok (.iload 4, 2) := by decide +kernel
theorem dX9_accepts_122 : decode cX9_accepts 122 = .ok (.iload_n 3, 1) := by decide +kernel
theorem dX9_accepts_123 : decode cX9_accepts 123 = .ok (.aload_n 0, 1) := by decide +kernel
theorem dX9_accepts_124 : decode cX9_accepts 124 = .ok (.iload_n 2, 1) := by decide +kernel
theorem dX9_accepts_125 : decode cX9_accepts 125 = .ok (.iconst 5, 1) := by decide +kernel
theorem dX9_accepts_126 : decode cX9_accepts 126 = .ok (.invokevirtual 83, 3) := by decide +kernel
theorem dX9_accepts_129 : decode cX9_accepts 129 = .ok (.aload_n 0, 1) := by decide +kernel
theorem dX9_accepts_130 : decode cX9_accepts 130 = .ok (.iload_n 1, 1) := by decide +kernel
theorem dX9_accepts_131 : decode cX9_accepts 131 = .ok (.iconst 5, 1) := by decide +kernel
theorem dX9_accepts_132 : decode cX9_accepts 132 = .ok (.invokevirtual 83, 3) := by decide +kernel
theorem dX9_accepts_135 : decode cX9_accepts 135 = .ok (.isub, 1) := by decide +kernel
theorem dX9_accepts_136 : decode cX9_accepts 136 = .ok (.invokevirtual 102, 3) := by decide +kernel
theorem dX9_accepts_139 : decode cX9_accepts 139 = .ok (.ifCond .eq 30, 3) := by decide +kernel
theorem dX9_accepts_142 : decode cX9_accepts 142 = .ok (.aload_n 0, 1) := by decide +kernel
theorem dX9_accepts_143 : decode cX9_accepts 143 = .ok (.iload_n 3, 1) := by decide +kernel
theorem dX9_accepts_144 : decode cX9_accepts 144 = .ok (.iload 4, 2) := by decide +kernel
theorem dX9_accepts_146 : decode cX9_accepts 146 = .ok (.aload_n 0, 1) := by decide +kernel
theorem dX9_accepts_147 : decode cX9_accepts 147 = .ok (.iload_n 1, 1) := by decide +kernel
theorem dX9_accepts_148 : decode cX9_accepts 148 = .ok (.iconst 4, 1) := by decide +kernel
theorem dX9_accepts_149 : decode cX9_accepts 149 = .ok (.invokevirtual 83, 3) := by decide +kernel
theorem dX9_accepts_152 : decode cX9_accepts 152 = .ok (.aload_n 0, 1) := by decide +kernel
theorem dX9_accepts_153 : decode cX9_accepts 153 = .ok (.iload_n 2, 1) := by decide +kernel
theorem dX9_accepts_154 : decode cX9_accepts 154 = .ok (.iconst 4, 1) := by decide +kernel
theorem dX9_accepts_155 : decode cX9_accepts 155 = .ok (.invokevirtual 83, 3) := by decide +kernel
theorem dX9_accepts_158 : decode cX9_accepts 158 = .ok (.isub, 1) := by decide +kernel
theorem dX9_accepts_159 : decode cX9_accepts 159 = .ok (.invokevirtual 102, 3) := by decide +kernel
theorem dX9_accepts_162 : decode cX9_accepts 162 = .ok (.ifCond .eq 7, 3) := by decide +kernel
theorem dX9_accepts_165 : decode cX9_accepts 165 = .ok (.iconst 1, 1) := by decide +kernel
theorem dX9_accepts_166 : decode cX9_accepts 166 = .ok (.goto 4, 3) := by decide +kernel
theorem dX9_accepts_169 : decode cX9_accepts 169 = .ok (.iconst 0, 1) := by decide +kernel
theorem dX9_accepts_170 : decode cX9_accepts 170 = .ok (.istore 5, 2) := by decide +kernel
theorem dX9_accepts_172 : decode cX9_accepts 172 = .ok (.aload_n 0, 1) := by decide +kernel
theorem dX9_accepts_173 : decode cX9_accepts 173 = .ok (.getfield 44, 3) := by decide +kernel
theorem dX9_accepts_176 : decode cX9_accepts 176 = .ok (.iload_n 1, 1) := by decide +kernel
theorem dX9_accepts_177 : decode cX9_accepts 177 = .ok (.iload 5, 2) := by decide +kernel
theorem dX9_accepts_179 : decode cX9_accepts 179 = .ok (.ifCond .eq 7, 3) := by decide +kernel
theorem dX9_accepts_182 : decode cX9_accepts 182 = .ok (.iconst 1, 1) := by decide +kernel
theorem dX9_accepts_183 : decode cX9_accepts 183 = .ok (.goto 4, 3) := by decide +kernel
theorem dX9_accepts_186 : decode cX9_accepts 186 = .ok (.iconst 0, 1) := by decide +kernel
theorem dX9_accepts_187 : decode cX9_accepts 187 = .ok (.iastore, 1) := by decide +kernel
theorem dX9_accepts_188 : decode cX9_accepts 188 = .ok (.iconst 0, 1) := by decide +kernel
theorem dX9_accepts_189 : decode cX9_accepts 189 = .ok (.istore 6, 2) := by decide +kernel
theorem dX9_accepts_191 : decode cX9_accepts 191 = .ok (.iload 6, 2) := by decide +kernel
theorem dX9_accepts_193 : decode cX9_accepts 193 = .ok (.bipush 64, 2) := by decide +kernel
theorem dX9_accepts_195 : decode cX9_accepts 195 = .ok (.if_icmp .ge 28, 3) := by decide +kernel
theorem dX9_accepts_198 : decode cX9_accepts 198 = .ok (.iload 5, 2) := by decide +kernel
theorem dX9_accepts_200 : decode cX9_accepts 200 = .ok (.ifCond .eq 23, 3) := by decide +kernel
theorem dX9_accepts_203 : decode cX9_accepts 203 = .ok (.aload_n 0, 1) := by decide +kernel
theorem dX9_accepts_204 : decode cX9_accepts 204 = .ok (.getfield 32, 3) := by decide +kernel
theorem dX9_accepts_207 : decode cX9_accepts 207 = .ok (.iload 6, 2) := by decide +kernel
theorem dX9_accepts_209 : decode cX9_accepts 209 = .ok (.aload_n 0, 1) := by decide +kernel
theorem dX9_accepts_210 : decode cX9_accepts 210 = .ok (.getfield 35, 3) := by decide +kernel
theorem dX9_accepts_213 : decode cX9_accepts 213 = .ok (.iload 6, 2) := by decide +kernel
theorem dX9_accepts_215 : decode cX9_accepts 215 = .ok (.iaload, 1) := by decide +kernel
theorem dX9_accepts_216 : decode cX9_accepts 216 = .ok (.iastore, 1) := by decide +kernel
theorem dX9_accepts_217 : decode cX9_accepts 217 = .ok (.iinc 6 1, 3) := by decide +kernel
theorem dX9_accepts_220 : decode cX9_accepts 220 = .ok (.goto (-29), 3) := by decide +kernel
theorem dX9_accepts_223 : decode cX9_accepts 223 = .ok (.iinc 1 1, 3) := by decide +kernel
theorem dX9_accepts_226 : decode cX9_accepts 226 = .ok (.goto (-191), 3) := by decide +kernel
theorem dX9_accepts_229 : decode cX9_accepts 229 = .ok (.return_, 1) := by decide +kernel
set_option maxRecDepth 100000 in
set_option maxHeartbeats 4000000 in
theorem w9_accepts_b191_ok {G : GT} {P : Mem → Prop} {X : String → Mem → Prop} (C : PCx G cX9_accepts 7 RX9) (hRt : PRt G none (qV P) X) (hHR : HR G (3)) (hnT : NoT G) {R35 : Mem → Int32 → Prop} (hR35 : ∀ (μ : Mem) (l1 : Int32), R35 μ l1 → PW G 0 0 35 [some (pR 50 0), some (pI l1), none, none, none, none, none] [] μ) {μ : Mem} {l1 : Int32} {l5 : Int32} {l6 : Int32} (hk : w9_accepts_b191 P R35 μ l1 l5 l6) : PW G 0 0 191 [some (pR 50 0), some (pI l1), none, none, none, some (pI l5), some (pI l6)] [] μ := by
  refine hk (fun (μ : Mem) (l1 : Int32) (l5 : Int32) (l6 : Int32) => PW G 0 0 191 [some (pR 50 0), some (pI l1), none, none, none, some (pI l5), some (pI l6)] [] μ) (fun (μ : Mem) l1 l5 l6 hk => ?_)
  have hR191 : ∀ (μ : Mem) (l1 : Int32) (l5 : Int32) (l6 : Int32), PW G 0 0 191 [some (pR 50 0), some (pI l1), none, none, none, some (pI l5), some (pI l6)] [] μ → PW G 0 0 191 [some (pR 50 0), some (pI l1), none, none, none, some (pI l5), some (pI l6)] [] μ := fun _ _ _ _ h => h
  unfold w9_accepts_b191_body at hk
  refine px_iload (i := 6) C dX9_accepts_191 rfl ?_
  refine px_bipush (v := (64 : Int32)) C dX9_accepts_193 rfl ?_
  refine px_icmp_ge (tgt := 223) C dX9_accepts_195 (by decide) (fun c26 => ?_) (fun c26 => ?_)
  · replace hk := hk.1 c26
    refine px_iinc (i := 1) (v := (1 : Int32)) C dX9_accepts_223 rfl rfl (by decide) rfl ?_
    refine px_goto (tgt := 35) C dX9_accepts_226 (by decide) ?_
    exact PW_at (hR35 _ _ hk) (And.intro rfl (And.intro rfl trivial)) (Nat.le_of_ble_eq_true rfl) (Nat.le_of_ble_eq_true rfl)
  · replace hk := hk.2 c26
    refine px_iload (i := 5) C dX9_accepts_198 rfl ?_
    refine px_if_eq (tgt := 223) C dX9_accepts_200 (by decide) (fun c25 => ?_) (fun c25 => ?_)
    · replace hk := hk.1 c25
      refine px_iinc (i := 1) (v := (1 : Int32)) C dX9_accepts_223 rfl rfl (by decide) rfl ?_
      refine px_goto (tgt := 35) C dX9_accepts_226 (by decide) ?_
      exact PW_at (hR35 _ _ hk) (And.intro rfl (And.intro rfl trivial)) (Nat.le_of_ble_eq_true rfl) (Nat.le_of_ble_eq_true rfl)
    · replace hk := hk.2 c25
      refine px_aload_n (i := 0) C dX9_accepts_203 rfl rfl ?_
      refine px_getr C dX9_accepts_204 fl_RX9_32 rfl rfl rfl ?_
      refine px_iload (i := 6) C dX9_accepts_207 rfl ?_
      refine px_aload_n (i := 0) C dX9_accepts_209 rfl rfl ?_
      refine px_getr C dX9_accepts_210 fl_RX9_35 rfl rfl rfl ?_
      refine px_iload (i := 6) C dX9_accepts_213 rfl ?_
      obtain ⟨o22, hk⟩ := hk
      refine px_iald 3712 C dX9_accepts_215 rfl rfl rfl rfl o22 ?_
      obtain ⟨o23, hk⟩ := hk
      replace hk := hk _ rfl
      refine px_iast 3648 C dX9_accepts_216 rfl rfl rfl rfl o23 ?_
      refine px_iinc (i := 6) (v := (1 : Int32)) C dX9_accepts_217 rfl rfl (by decide) rfl ?_
      refine px_goto (tgt := 191) C dX9_accepts_220 (by decide) ?_
      exact PW_at (hR191 _ _ _ _ hk) (And.intro rfl (And.intro rfl (And.intro rfl (And.intro rfl trivial)))) (Nat.le_of_ble_eq_true rfl) (Nat.le_of_ble_eq_true rfl)
set_option maxRecDepth 100000 in
set_option maxHeartbeats 4000000 in
theorem w9_accepts_b170_ok {G : GT} {P : Mem → Prop} {X : String → Mem → Prop} (C : PCx G cX9_accepts 7 RX9) (hRt : PRt G none (qV P) X) (hHR : HR G (3)) (hnT : NoT G) {R35 : Mem → Int32 → Prop} (hR35 : ∀ (μ : Mem) (l1 : Int32), R35 μ l1 → PW G 0 0 35 [some (pR 50 0), some (pI l1), none, none, none, none, none] [] μ) {μ : Mem} {l1 : Int32} {s0 : Int32} (hk : w9_accepts_b170 P R35 μ l1 s0) : PW G 0 0 170 [some (pR 50 0), some (pI l1), none, none, none, none, none] [pI s0] μ := by
  unfold w9_accepts_b170 at hk
  refine px_istore (i := 5) C dX9_accepts_170 (by decide) rfl ?_
  refine px_aload_n (i := 0) C dX9_accepts_172 rfl rfl ?_
  refine px_getr C dX9_accepts_173 fl_RX9_44 rfl rfl rfl ?_
  refine px_iload_n (i := 1) C dX9_accepts_176 rfl rfl ?_
  refine px_iload (i := 5) C dX9_accepts_177 rfl ?_
  refine px_if_eq (tgt := 186) C dX9_accepts_179 (by decide) (fun c29 => ?_) (fun c29 => ?_)
  · replace hk := hk.1 c29
    refine px_iconst (v := (0 : Int32)) C dX9_accepts_186 rfl ?_
    obtain ⟨o20, hk⟩ := hk
    replace hk := hk _ rfl
    refine px_iast 3904 C dX9_accepts_187 rfl rfl rfl rfl o20 ?_
    refine px_iconst (v := (0 : Int32)) C dX9_accepts_188 rfl ?_
    refine px_istore (i := 6) C dX9_accepts_189 (by decide) rfl ?_
    exact PW_at (w9_accepts_b191_ok C hRt hHR hnT hR35 hk) (And.intro rfl (And.intro rfl (And.intro rfl (And.intro rfl trivial)))) (Nat.le_of_ble_eq_true rfl) (Nat.le_of_ble_eq_true rfl)
  · replace hk := hk.2 c29
    refine px_iconst (v := (1 : Int32)) C dX9_accepts_182 rfl ?_
    refine px_goto (tgt := 187) C dX9_accepts_183 (by decide) ?_
    obtain ⟨o27, hk⟩ := hk
    replace hk := hk _ rfl
    refine px_iast 3904 C dX9_accepts_187 rfl rfl rfl rfl o27 ?_
    refine px_iconst (v := (0 : Int32)) C dX9_accepts_188 rfl ?_
    refine px_istore (i := 6) C dX9_accepts_189 (by decide) rfl ?_
    exact PW_at (w9_accepts_b191_ok C hRt hHR hnT hR35 hk) (And.intro rfl (And.intro rfl (And.intro rfl (And.intro rfl trivial)))) (Nat.le_of_ble_eq_true rfl) (Nat.le_of_ble_eq_true rfl)
set_option maxRecDepth 100000 in
set_option maxHeartbeats 4000000 in
theorem w9_accepts_b80_ok {G : GT} {P : Mem → Prop} {X : String → Mem → Prop} (C : PCx G cX9_accepts 7 RX9) (hRt : PRt G none (qV P) X) (hHR : HR G (3)) (hnT : NoT G) {R35 : Mem → Int32 → Prop} (hR35 : ∀ (μ : Mem) (l1 : Int32), R35 μ l1 → PW G 0 0 35 [some (pR 50 0), some (pI l1), none, none, none, none, none] [] μ) {μ : Mem} {l1 : Int32} {l2 : Int32} {l3 : Int32} (hk : w9_accepts_b80 P R35 μ l1 l2 l3) : PW G 0 0 80 [some (pR 50 0), some (pI l1), some (pI l2), some (pI l3), none, none, none] [] μ := by
  refine hk (fun (μ : Mem) (l1 : Int32) (l2 : Int32) (l3 : Int32) => PW G 0 0 80 [some (pR 50 0), some (pI l1), some (pI l2), some (pI l3), none, none, none] [] μ) (fun (μ : Mem) l1 l2 l3 hk => ?_)
  have hR80 : ∀ (μ : Mem) (l1 : Int32) (l2 : Int32) (l3 : Int32), PW G 0 0 80 [some (pR 50 0), some (pI l1), some (pI l2), some (pI l3), none, none, none] [] μ → PW G 0 0 80 [some (pR 50 0), some (pI l1), some (pI l2), some (pI l3), none, none, none] [] μ := fun _ _ _ _ h => h
  unfold w9_accepts_b80_body at hk
  refine px_iload_n (i := 3) C dX9_accepts_80 rfl rfl ?_
  refine px_bipush (v := (64 : Int32)) C dX9_accepts_81 rfl ?_
  refine px_icmp_ge (tgt := 104) C dX9_accepts_83 (by decide) (fun c41 => ?_) (fun c41 => ?_)
  · replace hk := hk.1 c41
    refine px_aload_n (i := 0) C dX9_accepts_104 rfl rfl ?_
    refine px_iload_n (i := 1) C dX9_accepts_105 rfl rfl ?_
    refine px_iconst (v := (3 : Int32)) C dX9_accepts_106 rfl ?_
    refine px_callVi (h := 0) (rc' := 0) (rs' := 0) C (HR_le hHR (Nat.le_of_ble_eq_true rfl)) hRt hnT dX9_accepts_107 (gw8 152 rfl rfl) mv_X9_of (w9_of_ok (PCx_l C) (PCx_I C) hk) rfl rfl rfl rfl rfl (Nat.le_of_ble_eq_true rfl) (Nat.le_of_ble_eq_true rfl) (Nat.le_of_ble_eq_true rfl) (Nat.le_of_ble_eq_true rfl) ?_
    intro r11 μ10 hk
    refine px_istore_n (i := 3) C dX9_accepts_110 rfl (by decide) rfl ?_
    refine px_aload_n (i := 0) C dX9_accepts_111 rfl rfl ?_
    refine px_iload_n (i := 2) C dX9_accepts_112 rfl rfl ?_
    refine px_iconst (v := (3 : Int32)) C dX9_accepts_113 rfl ?_
    refine px_callVi (h := 0) (rc' := 0) (rs' := 0) C (HR_le hHR (Nat.le_of_ble_eq_true rfl)) hRt hnT dX9_accepts_114 (gw8 152 rfl rfl) mv_X9_of (w9_of_ok (PCx_l C) (PCx_I C) hk) rfl rfl rfl rfl rfl (Nat.le_of_ble_eq_true rfl) (Nat.le_of_ble_eq_true rfl) (Nat.le_of_ble_eq_true rfl) (Nat.le_of_ble_eq_true rfl) ?_
    intro r13 μ12 hk
    refine px_istore (i := 4) C dX9_accepts_117 (by decide) rfl ?_
    refine px_aload_n (i := 0) C dX9_accepts_119 rfl rfl ?_
    refine px_iload (i := 4) C dX9_accepts_120 rfl ?_
    refine px_iload_n (i := 3) C dX9_accepts_122 rfl rfl ?_
    refine px_aload_n (i := 0) C dX9_accepts_123 rfl rfl ?_
    refine px_iload_n (i := 2) C dX9_accepts_124 rfl rfl ?_
    refine px_iconst (v := (5 : Int32)) C dX9_accepts_125 rfl ?_
    refine px_callVi (h := 0) (rc' := 0) (rs' := 0) C (HR_le hHR (Nat.le_of_ble_eq_true rfl)) hRt hnT dX9_accepts_126 (gw8 152 rfl rfl) mv_X9_of (w9_of_ok (PCx_l C) (PCx_I C) hk) rfl rfl rfl rfl rfl (Nat.le_of_ble_eq_true rfl) (Nat.le_of_ble_eq_true rfl) (Nat.le_of_ble_eq_true rfl) (Nat.le_of_ble_eq_true rfl) ?_
    intro r15 μ14 hk
    refine px_aload_n (i := 0) C dX9_accepts_129 rfl rfl ?_
    refine px_iload_n (i := 1) C dX9_accepts_130 rfl rfl ?_
    refine px_iconst (v := (5 : Int32)) C dX9_accepts_131 rfl ?_
    refine px_callVi (h := 0) (rc' := 0) (rs' := 0) C (HR_le hHR (Nat.le_of_ble_eq_true rfl)) hRt hnT dX9_accepts_132 (gw8 152 rfl rfl) mv_X9_of (w9_of_ok (PCx_l C) (PCx_I C) hk) rfl rfl rfl rfl rfl (Nat.le_of_ble_eq_true rfl) (Nat.le_of_ble_eq_true rfl) (Nat.le_of_ble_eq_true rfl) (Nat.le_of_ble_eq_true rfl) ?_
    intro r17 μ16 hk
    refine px_isub C dX9_accepts_135 ?_
    refine px_callVi (h := 0) (rc' := 0) (rs' := 0) C (HR_le hHR (Nat.le_of_ble_eq_true rfl)) hRt hnT dX9_accepts_136 (gw8 221 rfl rfl) mv_X9_holds (w9_holds_ok (PCx_l C) (PCx_I C) hk) rfl rfl rfl rfl rfl (Nat.le_of_ble_eq_true rfl) (Nat.le_of_ble_eq_true rfl) (Nat.le_of_ble_eq_true rfl) (Nat.le_of_ble_eq_true rfl) ?_
    intro r19 μ18 hk
    refine px_if_eq (tgt := 169) C dX9_accepts_139 (by decide) (fun c37 => ?_) (fun c37 => ?_)
    · replace hk := hk.1 c37
      refine px_iconst (v := (0 : Int32)) C dX9_accepts_169 rfl ?_
      exact PW_at (w9_accepts_b170_ok C hRt hHR hnT hR35 hk) (And.intro rfl (And.intro rfl trivial)) (Nat.le_of_ble_eq_true rfl) (Nat.le_of_ble_eq_true rfl)
    · replace hk := hk.2 c37
      refine px_aload_n (i := 0) C dX9_accepts_142 rfl rfl ?_
      refine px_iload_n (i := 3) C dX9_accepts_143 rfl rfl ?_
      refine px_iload (i := 4) C dX9_accepts_144 rfl ?_
      refine px_aload_n (i := 0) C dX9_accepts_146 rfl rfl ?_
      refine px_iload_n (i := 1) C dX9_accepts_147 rfl rfl ?_
      refine px_iconst (v := (4 : Int32)) C dX9_accepts_148 rfl ?_
      refine px_callVi (h := 0) (rc' := 0) (rs' := 0) C (HR_le hHR (Nat.le_of_ble_eq_true rfl)) hRt hnT dX9_accepts_149 (gw8 152 rfl rfl) mv_X9_of (w9_of_ok (PCx_l C) (PCx_I C) hk) rfl rfl rfl rfl rfl (Nat.le_of_ble_eq_true rfl) (Nat.le_of_ble_eq_true rfl) (Nat.le_of_ble_eq_true rfl) (Nat.le_of_ble_eq_true rfl) ?_
      intro r31 μ30 hk
      refine px_aload_n (i := 0) C dX9_accepts_152 rfl rfl ?_
      refine px_iload_n (i := 2) C dX9_accepts_153 rfl rfl ?_
      refine px_iconst (v := (4 : Int32)) C dX9_accepts_154 rfl ?_
      refine px_callVi (h := 0) (rc' := 0) (rs' := 0) C (HR_le hHR (Nat.le_of_ble_eq_true rfl)) hRt hnT dX9_accepts_155 (gw8 152 rfl rfl) mv_X9_of (w9_of_ok (PCx_l C) (PCx_I C) hk) rfl rfl rfl rfl rfl (Nat.le_of_ble_eq_true rfl) (Nat.le_of_ble_eq_true rfl) (Nat.le_of_ble_eq_true rfl) (Nat.le_of_ble_eq_true rfl) ?_
      intro r33 μ32 hk
      refine px_isub C dX9_accepts_158 ?_
      refine px_callVi (h := 0) (rc' := 0) (rs' := 0) C (HR_le hHR (Nat.le_of_ble_eq_true rfl)) hRt hnT dX9_accepts_159 (gw8 221 rfl rfl) mv_X9_holds (w9_holds_ok (PCx_l C) (PCx_I C) hk) rfl rfl rfl rfl rfl (Nat.le_of_ble_eq_true rfl) (Nat.le_of_ble_eq_true rfl) (Nat.le_of_ble_eq_true rfl) (Nat.le_of_ble_eq_true rfl) ?_
      intro r35 μ34 hk
      refine px_if_eq (tgt := 169) C dX9_accepts_162 (by decide) (fun c36 => ?_) (fun c36 => ?_)
      · replace hk := hk.1 c36
        refine px_iconst (v := (0 : Int32)) C dX9_accepts_169 rfl ?_
        exact PW_at (w9_accepts_b170_ok C hRt hHR hnT hR35 hk) (And.intro rfl (And.intro rfl trivial)) (Nat.le_of_ble_eq_true rfl) (Nat.le_of_ble_eq_true rfl)
      · replace hk := hk.2 c36
        refine px_iconst (v := (1 : Int32)) C dX9_accepts_165 rfl ?_
        refine px_goto (tgt := 170) C dX9_accepts_166 (by decide) ?_
        exact PW_at (w9_accepts_b170_ok C hRt hHR hnT hR35 hk) (And.intro rfl (And.intro rfl trivial)) (Nat.le_of_ble_eq_true rfl) (Nat.le_of_ble_eq_true rfl)
  · replace hk := hk.2 c41
    refine px_aload_n (i := 0) C dX9_accepts_86 rfl rfl ?_
    refine px_getr C dX9_accepts_87 fl_RX9_35 rfl rfl rfl ?_
    refine px_iload_n (i := 3) C dX9_accepts_90 rfl rfl ?_
    refine px_aload_n (i := 0) C dX9_accepts_91 rfl rfl ?_
    refine px_getr C dX9_accepts_92 fl_RX9_32 rfl rfl rfl ?_
    refine px_iload_n (i := 3) C dX9_accepts_95 rfl rfl ?_
    obtain ⟨o38, hk⟩ := hk
    refine px_iald 3648 C dX9_accepts_96 rfl rfl rfl rfl o38 ?_
    obtain ⟨o39, hk⟩ := hk
    replace hk := hk _ rfl
    refine px_iast 3712 C dX9_accepts_97 rfl rfl rfl rfl o39 ?_
    refine px_iinc (i := 3) (v := (1 : Int32)) C dX9_accepts_98 rfl rfl (by decide) rfl ?_
    refine px_goto (tgt := 80) C dX9_accepts_101 (by decide) ?_
    exact PW_at (hR80 _ _ _ _ hk) (And.intro rfl (And.intro rfl (And.intro rfl (And.intro rfl trivial)))) (Nat.le_of_ble_eq_true rfl) (Nat.le_of_ble_eq_true rfl)
set_option maxRecDepth 100000 in
set_option maxHeartbeats 4000000 in
theorem w9_accepts_b35_ok {G : GT} {P : Mem → Prop} {X : String → Mem → Prop} (C : PCx G cX9_accepts 7 RX9) (hRt : PRt G none (qV P) X) (hHR : HR G (3)) (hnT : NoT G) {μ : Mem} {l1 : Int32} (hk : w9_accepts_b35 P μ l1) : PW G 0 0 35 [some (pR 50 0), some (pI l1), none, none, none, none, none] [] μ := by
  refine hk (fun (μ : Mem) (l1 : Int32) => PW G 0 0 35 [some (pR 50 0), some (pI l1), none, none, none, none, none] [] μ) (fun (μ : Mem) l1 hk => ?_)
  have hR35 : ∀ (μ : Mem) (l1 : Int32), PW G 0 0 35 [some (pR 50 0), some (pI l1), none, none, none, none, none] [] μ → PW G 0 0 35 [some (pR 50 0), some (pI l1), none, none, none, none, none] [] μ := fun _ _ h => h
  unfold w9_accepts_b35_body at hk
  refine px_iload_n (i := 1) C dX9_accepts_35 rfl rfl ?_
  refine px_aload_n (i := 0) C dX9_accepts_36 rfl rfl ?_
  refine px_getr C dX9_accepts_37 fl_RX9_7 rfl rfl rfl ?_
  refine px_iconst (v := (0 : Int32)) C dX9_accepts_40 rfl ?_
  obtain ⟨o1, hk⟩ := hk
  refine px_iald 3264 C dX9_accepts_41 rfl rfl rfl rfl o1 ?_
  refine px_icmp_ge (tgt := 229) C dX9_accepts_42 (by decide) (fun c44 => ?_) (fun c44 => ?_)
  · replace hk := hk.1 c44
    exact px_vret C hRt dX9_accepts_229 rfl hk
  · replace hk := hk.2 c44
    refine px_aload_n (i := 0) C dX9_accepts_45 rfl rfl ?_
    refine px_iload_n (i := 1) C dX9_accepts_46 rfl rfl ?_
    refine px_callVi (h := 2) (rc' := 0) (rs' := 0) C (HR_le hHR (Nat.le_of_ble_eq_true rfl)) hRt hnT dX9_accepts_47 (gw8 217 rfl rfl) mv_X9_parentOf (w9_parentOf_ok (PCx_l C) (PCx_I C) hk) rfl rfl rfl rfl rfl (Nat.le_of_ble_eq_true rfl) (Nat.le_of_ble_eq_true rfl) (Nat.le_of_ble_eq_true rfl) (Nat.le_of_ble_eq_true rfl) ?_
    intro r3 μ2 hk
    refine px_istore_n (i := 2) C dX9_accepts_50 rfl (by decide) rfl ?_
    refine px_aload_n (i := 0) C dX9_accepts_51 rfl rfl ?_
    refine px_getr C dX9_accepts_52 fl_RX9_44 rfl rfl rfl ?_
    refine px_iload_n (i := 1) C dX9_accepts_55 rfl rfl ?_
    refine px_iconst (v := (-1 : Int32)) C dX9_accepts_56 rfl ?_
    obtain ⟨o4, hk⟩ := hk
    replace hk := hk _ rfl
    refine px_iast 3904 C dX9_accepts_57 rfl rfl rfl rfl o4 ?_
    refine px_iload_n (i := 2) C dX9_accepts_58 rfl rfl ?_
    refine px_iconst (v := (-1 : Int32)) C dX9_accepts_59 rfl ?_
    refine px_icmp_eq (tgt := 223) C dX9_accepts_60 (by decide) (fun c43 => ?_) (fun c43 => ?_)
    · replace hk := hk.1 c43
      refine px_iinc (i := 1) (v := (1 : Int32)) C dX9_accepts_223 rfl rfl (by decide) rfl ?_
      refine px_goto (tgt := 35) C dX9_accepts_226 (by decide) ?_
      exact PW_at (hR35 _ _ hk) (And.intro rfl (And.intro rfl trivial)) (Nat.le_of_ble_eq_true rfl) (Nat.le_of_ble_eq_true rfl)
    · replace hk := hk.2 c43
      refine px_aload_n (i := 0) C dX9_accepts_63 rfl rfl ?_
      refine px_iload_n (i := 2) C dX9_accepts_64 rfl rfl ?_
      refine px_iconst (v := (3 : Int32)) C dX9_accepts_65 rfl ?_
      refine px_callVi (h := 0) (rc' := 0) (rs' := 0) C (HR_le hHR (Nat.le_of_ble_eq_true rfl)) hRt hnT dX9_accepts_66 (gw8 152 rfl rfl) mv_X9_of (w9_of_ok (PCx_l C) (PCx_I C) hk) rfl rfl rfl rfl rfl (Nat.le_of_ble_eq_true rfl) (Nat.le_of_ble_eq_true rfl) (Nat.le_of_ble_eq_true rfl) (Nat.le_of_ble_eq_true rfl) ?_
      intro r7 μ6 hk
      refine px_aload_n (i := 0) C dX9_accepts_69 rfl rfl ?_
      refine px_iload_n (i := 1) C dX9_accepts_70 rfl rfl ?_
      refine px_iconst (v := (3 : Int32)) C dX9_accepts_71 rfl ?_
      refine px_callVi (h := 0) (rc' := 0) (rs' := 0) C (HR_le hHR (Nat.le_of_ble_eq_true rfl)) hRt hnT dX9_accepts_72 (gw8 152 rfl rfl) mv_X9_of (w9_of_ok (PCx_l C) (PCx_I C) hk) rfl rfl rfl rfl rfl (Nat.le_of_ble_eq_true rfl) (Nat.le_of_ble_eq_true rfl) (Nat.le_of_ble_eq_true rfl) (Nat.le_of_ble_eq_true rfl) ?_
      intro r9 μ8 hk
      refine px_icmp_eq (tgt := 223) C dX9_accepts_75 (by decide) (fun c42 => ?_) (fun c42 => ?_)
      · replace hk := hk.1 c42
        refine px_iinc (i := 1) (v := (1 : Int32)) C dX9_accepts_223 rfl rfl (by decide) rfl ?_
        refine px_goto (tgt := 35) C dX9_accepts_226 (by decide) ?_
        exact PW_at (hR35 _ _ hk) (And.intro rfl (And.intro rfl trivial)) (Nat.le_of_ble_eq_true rfl) (Nat.le_of_ble_eq_true rfl)
      · replace hk := hk.2 c42
        refine px_iconst (v := (0 : Int32)) C dX9_accepts_78 rfl ?_
        refine px_istore_n (i := 3) C dX9_accepts_79 rfl (by decide) rfl ?_
        exact PW_at (w9_accepts_b80_ok C hRt hHR hnT hR35 hk) (And.intro rfl (And.intro rfl (And.intro rfl (And.intro rfl trivial)))) (Nat.le_of_ble_eq_true rfl) (Nat.le_of_ble_eq_true rfl)
set_option maxRecDepth 100000 in
set_option maxHeartbeats 4000000 in
theorem w9_accepts_b2_ok {G : GT} {P : Mem → Prop} {X : String → Mem → Prop} (C : PCx G cX9_accepts 7 RX9) (hRt : PRt G none (qV P) X) (hHR : HR G (3)) (hnT : NoT G) {μ : Mem} {l1 : Int32} (hk : w9_accepts_b2 P μ l1) : PW G 0 0 2 [some (pR 50 0), some (pI l1), none, none, none, none, none] [] μ := by
  refine hk (fun (μ : Mem) (l1 : Int32) => PW G 0 0 2 [some (pR 50 0), some (pI l1), none, none, none, none, none] [] μ) (fun (μ : Mem) l1 hk => ?_)
  have hR2 : ∀ (μ : Mem) (l1 : Int32), PW G 0 0 2 [some (pR 50 0), some (pI l1), none, none, none, none, none] [] μ → PW G 0 0 2 [some (pR 50 0), some (pI l1), none, none, none, none, none] [] μ := fun _ _ h => h
  unfold w9_accepts_b2_body at hk
  refine px_iload_n (i := 1) C dX9_accepts_2 rfl rfl ?_
  refine px_bipush (v := (64 : Int32)) C dX9_accepts_3 rfl ?_
  refine px_icmp_ge (tgt := 33) C dX9_accepts_5 (by decide) (fun c51 => ?_) (fun c51 => ?_)
  · replace hk := hk.1 c51
    refine px_iconst (v := (0 : Int32)) C dX9_accepts_33 rfl ?_
    refine px_istore_n (i := 1) C dX9_accepts_34 rfl (by decide) rfl ?_
    exact PW_at (w9_accepts_b35_ok C hRt hHR hnT hk) (And.intro rfl (And.intro rfl trivial)) (Nat.le_of_ble_eq_true rfl) (Nat.le_of_ble_eq_true rfl)
  · replace hk := hk.2 c51
    refine px_aload_n (i := 0) C dX9_accepts_8 rfl rfl ?_
    refine px_getr C dX9_accepts_9 fl_RX9_32 rfl rfl rfl ?_
    refine px_iload_n (i := 1) C dX9_accepts_12 rfl rfl ?_
    refine px_iload_n (i := 1) C dX9_accepts_13 rfl rfl ?_
    refine px_bipush (v := (9 : Int32)) C dX9_accepts_14 rfl ?_
    obtain ⟨o45, hk⟩ := hk
    refine px_irem C dX9_accepts_16 o45 ?_
    refine px_if_ne (tgt := 24) C dX9_accepts_17 (by decide) (fun c50 => ?_) (fun c50 => ?_)
    · replace hk := hk.1 c50
      refine px_ldc (v := (100000000 : Int32)) C dX9_accepts_24 (gw8 216 rfl rfl) ?_
      obtain ⟨o46, hk⟩ := hk
      replace hk := hk _ rfl
      refine px_iast 3648 C dX9_accepts_26 rfl rfl rfl rfl o46 ?_
      refine px_iinc (i := 1) (v := (1 : Int32)) C dX9_accepts_27 rfl rfl (by decide) rfl ?_
      refine px_goto (tgt := 2) C dX9_accepts_30 (by decide) ?_
      exact PW_at (hR2 _ _ hk) (And.intro rfl (And.intro rfl trivial)) (Nat.le_of_ble_eq_true rfl) (Nat.le_of_ble_eq_true rfl)
    · replace hk := hk.2 c50
      refine px_iconst (v := (0 : Int32)) C dX9_accepts_20 rfl ?_
      refine px_goto (tgt := 26) C dX9_accepts_21 (by decide) ?_
      obtain ⟨o48, hk⟩ := hk
      replace hk := hk _ rfl
      refine px_iast 3648 C dX9_accepts_26 rfl rfl rfl rfl o48 ?_
      refine px_iinc (i := 1) (v := (1 : Int32)) C dX9_accepts_27 rfl rfl (by decide) rfl ?_
      refine px_goto (tgt := 2) C dX9_accepts_30 (by decide) ?_
      exact PW_at (hR2 _ _ hk) (And.intro rfl (And.intro rfl trivial)) (Nat.le_of_ble_eq_true rfl) (Nat.le_of_ble_eq_true rfl)
set_option maxRecDepth 100000 in
set_option maxHeartbeats 4000000 in
theorem w9_accepts_ok {l : Launch} {idx : List (Nat × Nat)} {μ : Mem} {P : Mem → Prop} {X : String → Mem → Prop} (hl : l.stackTraces = false) (hI : IdxOK idx) (hk : w9_accepts_wp μ P) : PMet l yX9_accepts (.code yX9_accepts cX9_accepts 7 none) 3 0 0 idx [pR 50 0] μ (qV P) X := by
  refine PMet_of mv_X9_accepts.2.2.2.2.2.2 hl hI mv_X9_accepts.2.2.2.1 rfl (Nat.le_of_ble_eq_true rfl) (fun G _ _ C hRt hHR hnT => ?_)
  show PW G 0 0 0 [some (pR 50 0), none, none, none, none, none, none] [] μ
  unfold w9_accepts_wp at hk
  refine px_iconst (v := (0 : Int32)) C dX9_accepts_0 rfl ?_
  refine px_istore_n (i := 1) C dX9_accepts_1 rfl (by decide) rfl ?_
  exact PW_at (w9_accepts_b2_ok C hRt hHR hnT hk) (And.intro rfl (And.intro rfl trivial)) (Nat.le_of_ble_eq_true rfl) (Nat.le_of_ble_eq_true rfl)
theorem dX9_begin_0 : decode cX9_begin 0 = .ok (.aload_n 0, 1) := by decide +kernel
theorem dX9_begin_1 : decode cX9_begin 1 = .ok (.iload_n 1, 1) := by decide +kernel
theorem dX9_begin_2 : decode cX9_begin 2 = .ok (.iconst 4, 1) := by decide +kernel
theorem dX9_begin_3 : decode cX9_begin 3 = .ok (.invokevirtual 83, 3) := by decide +kernel
theorem dX9_begin_6 : decode cX9_begin 6 = .ok (.aload_n 0, 1) := by decide +kernel
theorem dX9_begin_7 : decode cX9_begin 7 = .ok (.getfield 38, 3) := by decide +kernel
theorem dX9_begin_10 : decode cX9_begin 10 = .ok (.aload_n 0, 1) := by decide +kernel
theorem dX9_begin_11 : decode cX9_begin 11 = .ok (.iload_n 1, 1) := by decide +kernel
theorem dX9_begin_12 : decode cX9_begin 12 = .ok (.iconst 3, 1) := by decide +kernel
theorem dX9_begin_13 : decode cX9_begin 13 = .ok (.invokevirtual 83, 3) := by decide +kernel
theorem dX9_begin_16 : decode cX9_begin 16 = .ok (.iaload, 1) := by decide +kernel
theorem dX9_begin_17 : decode cX9_begin 17 = .ok (.iadd, 1) := by decide +kernel
theorem dX9_begin_18 : decode cX9_begin 18 = .ok (.ireturn, 1) := by decide +kernel
set_option maxRecDepth 100000 in
set_option maxHeartbeats 4000000 in
theorem w9_begin_ok {l : Launch} {idx : List (Nat × Nat)} {μ : Mem} {a1 : Int32} {P : Int32 → Mem → Prop} {X : String → Mem → Prop} (hl : l.stackTraces = false) (hI : IdxOK idx) (hk : w9_begin_wp μ a1 P) : PMet l yX9_begin (.code yX9_begin cX9_begin 2 (some .int)) 1 0 0 idx [pR 50 0, pI a1] μ (qI P) X := by
  refine PMet_of mv_X9_begin.2.2.2.2.2.2 hl hI mv_X9_begin.2.2.2.1 rfl (Nat.le_of_ble_eq_true rfl) (fun G _ _ C hRt hHR hnT => ?_)
  show PW G 0 0 0 [some (pR 50 0), some (pI a1)] [] μ
  unfold w9_begin_wp at hk
  refine px_aload_n (i := 0) C dX9_begin_0 rfl rfl ?_
  refine px_iload_n (i := 1) C dX9_begin_1 rfl rfl ?_
  refine px_iconst (v := (4 : Int32)) C dX9_begin_2 rfl ?_
  refine px_callVi (h := 0) (rc' := 0) (rs' := 0) C (HR_le hHR (Nat.le_of_ble_eq_true rfl)) hRt hnT dX9_begin_3 (gw8 152 rfl rfl) mv_X9_of (w9_of_ok (PCx_l C) (PCx_I C) hk) rfl rfl rfl rfl rfl (Nat.le_of_ble_eq_true rfl) (Nat.le_of_ble_eq_true rfl) (Nat.le_of_ble_eq_true rfl) (Nat.le_of_ble_eq_true rfl) ?_
  intro r2 μ1 hk
  refine px_aload_n (i := 0) C dX9_begin_6 rfl rfl ?_
  refine px_getr C dX9_begin_7 fl_RX9_38 rfl rfl rfl ?_
  refine px_aload_n (i := 0) C dX9_begin_10 rfl rfl ?_
  refine px_iload_n (i := 1) C dX9_begin_11 rfl rfl ?_
  refine px_iconst (v := (3 : Int32)) C dX9_begin_12 rfl ?_
  refine px_callVi (h := 0) (rc' := 0) (rs' := 0) C (HR_le hHR (Nat.le_of_ble_eq_true rfl)) hRt hnT dX9_begin_13 (gw8 152 rfl rfl) mv_X9_of (w9_of_ok (PCx_l C) (PCx_I C) hk) rfl rfl rfl rfl rfl (Nat.le_of_ble_eq_true rfl) (Nat.le_of_ble_eq_true rfl) (Nat.le_of_ble_eq_true rfl) (Nat.le_of_ble_eq_true rfl) ?_
  intro r4 μ3 hk
  obtain ⟨o5, hk⟩ := hk
  refine px_iald 3776 C dX9_begin_16 rfl rfl rfl rfl o5 ?_
  refine px_iadd C dX9_begin_17 ?_
  exact px_iret C hRt dX9_begin_18 rfl rfl hk
theorem dX9_end_0 : decode cX9_end 0 = .ok (.aload_n 0, 1) := by decide +kernel
theorem dX9_end_1 : decode cX9_end 1 = .ok (.iload_n 1, 1) := by decide +kernel
theorem dX9_end_2 : decode cX9_end 2 = .ok (.iconst 5, 1) := by decide +kernel
theorem dX9_end_3 : decode cX9_end 3 = .ok (.invokevirtual 83, 3) := by decide +kernel
theorem dX9_end_6 : decode cX9_end 6 = .ok (.aload_n 0, 1) := by decide +kernel
theorem dX9_end_7 : decode cX9_end 7 = .ok (.getfield 38, 3) := by decide +kernel
theorem dX9_end_10 : decode cX9_end 10 = .ok (.aload_n 0, 1) := by decide +kernel
theorem dX9_end_11 : decode cX9_end 11 = .ok (.iload_n 1, 1) := by decide +kernel
theorem dX9_end_12 : decode cX9_end 12 = .ok (.iconst 3, 1) := by decide +kernel
theorem dX9_end_13 : decode cX9_end 13 = .ok (.invokevirtual 83, 3) := by decide +kernel
theorem dX9_end_16 : decode cX9_end 16 = .ok (.iaload, 1) := by decide +kernel
theorem dX9_end_17 : decode cX9_end 17 = .ok (.iadd, 1) := by decide +kernel
theorem dX9_end_18 : decode cX9_end 18 = .ok (.ireturn, 1) := by decide +kernel
set_option maxRecDepth 100000 in
set_option maxHeartbeats 4000000 in
theorem w9_end_ok {l : Launch} {idx : List (Nat × Nat)} {μ : Mem} {a1 : Int32} {P : Int32 → Mem → Prop} {X : String → Mem → Prop} (hl : l.stackTraces = false) (hI : IdxOK idx) (hk : w9_end_wp μ a1 P) : PMet l yX9_end (.code yX9_end cX9_end 2 (some .int)) 1 0 0 idx [pR 50 0, pI a1] μ (qI P) X := by
  refine PMet_of mv_X9_end.2.2.2.2.2.2 hl hI mv_X9_end.2.2.2.1 rfl (Nat.le_of_ble_eq_true rfl) (fun G _ _ C hRt hHR hnT => ?_)
  show PW G 0 0 0 [some (pR 50 0), some (pI a1)] [] μ
  unfold w9_end_wp at hk
  refine px_aload_n (i := 0) C dX9_end_0 rfl rfl ?_
  refine px_iload_n (i := 1) C dX9_end_1 rfl rfl ?_
  refine px_iconst (v := (5 : Int32)) C dX9_end_2 rfl ?_
  refine px_callVi (h := 0) (rc' := 0) (rs' := 0) C (HR_le hHR (Nat.le_of_ble_eq_true rfl)) hRt hnT dX9_end_3 (gw8 152 rfl rfl) mv_X9_of (w9_of_ok (PCx_l C) (PCx_I C) hk) rfl rfl rfl rfl rfl (Nat.le_of_ble_eq_true rfl) (Nat.le_of_ble_eq_true rfl) (Nat.le_of_ble_eq_true rfl) (Nat.le_of_ble_eq_true rfl) ?_
  intro r2 μ1 hk
  refine px_aload_n (i := 0) C dX9_end_6 rfl rfl ?_
  refine px_getr C dX9_end_7 fl_RX9_38 rfl rfl rfl ?_
  refine px_aload_n (i := 0) C dX9_end_10 rfl rfl ?_
  refine px_iload_n (i := 1) C dX9_end_11 rfl rfl ?_
  refine px_iconst (v := (3 : Int32)) C dX9_end_12 rfl ?_
  refine px_callVi (h := 0) (rc' := 0) (rs' := 0) C (HR_le hHR (Nat.le_of_ble_eq_true rfl)) hRt hnT dX9_end_13 (gw8 152 rfl rfl) mv_X9_of (w9_of_ok (PCx_l C) (PCx_I C) hk) rfl rfl rfl rfl rfl (Nat.le_of_ble_eq_true rfl) (Nat.le_of_ble_eq_true rfl) (Nat.le_of_ble_eq_true rfl) (Nat.le_of_ble_eq_true rfl) ?_
  intro r4 μ3 hk
  obtain ⟨o5, hk⟩ := hk
  refine px_iald 3776 C dX9_end_16 rfl rfl rfl rfl o5 ?_
  refine px_iadd C dX9_end_17 ?_
  exact px_iret C hRt dX9_end_18 rfl rfl hk
theorem dX9_holder_0 : decode cX9_holder 0 = .ok (.iconst 0, 1) := by decide +kernel
theorem dX9_holder_1 : decode cX9_holder 1 = .ok (.istore_n 3, 1) := by decide +kernel
theorem dX9_holder_2 : decode cX9_holder 2 = .ok (.iload_n 3, 1) := by decide +kernel
theorem dX9_holder_3 : decode cX9_holder 3 = .ok (.aload_n 0, 1) := by decide +kernel
theorem dX9_holder_4 : decode cX9_holder 4 = .ok (.getfield 112, 3) := by decide +kernel
theorem dX9_holder_7 : decode cX9_holder 7 = .ok (.if_icmp .ge 31, 3) := by decide +kernel
theorem dX9_holder_10 : decode cX9_holder 10 = .ok (.aload_n 0, 1) := by decide +kernel
theorem dX9_holder_11 : decode cX9_holder 11 = .ok (.getfield 53, 3) := by decide +kernel
theorem dX9_holder_14 : decode cX9_holder 14 = .ok (.iload_n 3, 1) := by decide +kernel
theorem dX9_holder_15 : decode cX9_holder 15 = .ok (.iaload, 1) := by decide +kernel
theorem dX9_holder_16 : decode cX9_holder 16 = .ok (.iload_n 1, 1) := by decide +kernel
theorem dX9_holder_17 : decode cX9_holder 17 = .ok (.if_icmp .ne 15, 3) := by decide +kernel
theorem dX9_holder_20 : decode cX9_holder 20 = .ok (.aload_n 0, 1) := by decide +kernel
theorem dX9_holder_21 : decode cX9_holder 21 = .ok (.getfield 56, 3) := by decide +kernel
theorem dX9_holder_24 : decode cX9_holder 24 = .ok (.iload_n 3, 1) := by decide +kernel
theorem dX9_holder_25 : decode cX9_holder 25 = .ok (.iaload, 1) := by decide +kernel
theorem dX9_holder_26 : decode cX9_holder 26 = .ok (.iload_n 2, 1) := by decide +kernel
theorem dX9_holder_27 : decode cX9_holder 27 = .ok (.if_icmp .ne 5, 3) := by decide +kernel
theorem dX9_holder_30 : decode cX9_holder 30 = .ok (.iload_n 3, 1) := by decide +kernel
theorem dX9_holder_31 : decode cX9_holder 31 = .ok (.ireturn, 1) := by decide +kernel
theorem dX9_holder_32 : decode cX9_holder 32 = .ok (.iinc 3 1, 3) := by decide +kernel
theorem dX9_holder_35 : decode cX9_holder 35 = .ok (.goto (-33), 3) := by decide +kernel
theorem dX9_holder_38 : decode cX9_holder 38 = .ok (.iconst (-1), 1) := by decide +kernel
theorem dX9_holder_39 : decode cX9_holder 39 = .ok (.ireturn, 1) := by decide +kernel
set_option maxRecDepth 100000 in
set_option maxHeartbeats 4000000 in
theorem w9_holder_b2_ok {G : GT} {P : Int32 → Mem → Prop} {X : String → Mem → Prop} (C : PCx G cX9_holder 4 RX9) (hRt : PRt G (some .int) (qI P) X) (hHR : HR G (0)) (hnT : NoT G) {μ : Mem} {l1 : Int32} {l2 : Int32} {l3 : Int32} (hk : w9_holder_b2 P μ l1 l2 l3) : PW G 0 0 2 [some (pR 50 0), some (pI l1), some (pI l2), some (pI l3)] [] μ := by
  refine hk (fun (μ : Mem) (l1 : Int32) (l2 : Int32) (l3 : Int32) => PW G 0 0 2 [some (pR 50 0), some (pI l1), some (pI l2), some (pI l3)] [] μ) (fun (μ : Mem) l1 l2 l3 hk => ?_)
  have hR2 : ∀ (μ : Mem) (l1 : Int32) (l2 : Int32) (l3 : Int32), PW G 0 0 2 [some (pR 50 0), some (pI l1), some (pI l2), some (pI l3)] [] μ → PW G 0 0 2 [some (pR 50 0), some (pI l1), some (pI l2), some (pI l3)] [] μ := fun _ _ _ _ h => h
  unfold w9_holder_b2_body at hk
  refine px_iload_n (i := 3) C dX9_holder_2 rfl rfl ?_
  refine px_aload_n (i := 0) C dX9_holder_3 rfl rfl ?_
  refine px_geti 3222 C dX9_holder_4 fl_RX9_112 rfl rfl rfl rfl ?_
  refine px_icmp_ge (tgt := 38) C dX9_holder_7 (by decide) (fun c5 => ?_) (fun c5 => ?_)
  · replace hk := hk.1 c5
    refine px_iconst (v := (-1 : Int32)) C dX9_holder_38 rfl ?_
    exact px_iret C hRt dX9_holder_39 rfl rfl hk
  · replace hk := hk.2 c5
    refine px_aload_n (i := 0) C dX9_holder_10 rfl rfl ?_
    refine px_getr C dX9_holder_11 fl_RX9_53 rfl rfl rfl ?_
    refine px_iload_n (i := 3) C dX9_holder_14 rfl rfl ?_
    obtain ⟨o1, hk⟩ := hk
    refine px_iald 4096 C dX9_holder_15 rfl rfl rfl rfl o1 ?_
    refine px_iload_n (i := 1) C dX9_holder_16 rfl rfl ?_
    refine px_icmp_ne (tgt := 32) C dX9_holder_17 (by decide) (fun c4 => ?_) (fun c4 => ?_)
    · replace hk := hk.1 c4
      refine px_iinc (i := 3) (v := (1 : Int32)) C dX9_holder_32 rfl rfl (by decide) rfl ?_
      refine px_goto (tgt := 2) C dX9_holder_35 (by decide) ?_
      exact PW_at (hR2 _ _ _ _ hk) (And.intro rfl (And.intro rfl (And.intro rfl (And.intro rfl trivial)))) (Nat.le_of_ble_eq_true rfl) (Nat.le_of_ble_eq_true rfl)
    · replace hk := hk.2 c4
      refine px_aload_n (i := 0) C dX9_holder_20 rfl rfl ?_
      refine px_getr C dX9_holder_21 fl_RX9_56 rfl rfl rfl ?_
      refine px_iload_n (i := 3) C dX9_holder_24 rfl rfl ?_
      obtain ⟨o2, hk⟩ := hk
      refine px_iald 4160 C dX9_holder_25 rfl rfl rfl rfl o2 ?_
      refine px_iload_n (i := 2) C dX9_holder_26 rfl rfl ?_
      refine px_icmp_ne (tgt := 32) C dX9_holder_27 (by decide) (fun c3 => ?_) (fun c3 => ?_)
      · replace hk := hk.1 c3
        refine px_iinc (i := 3) (v := (1 : Int32)) C dX9_holder_32 rfl rfl (by decide) rfl ?_
        refine px_goto (tgt := 2) C dX9_holder_35 (by decide) ?_
        exact PW_at (hR2 _ _ _ _ hk) (And.intro rfl (And.intro rfl (And.intro rfl (And.intro rfl trivial)))) (Nat.le_of_ble_eq_true rfl) (Nat.le_of_ble_eq_true rfl)
      · replace hk := hk.2 c3
        refine px_iload_n (i := 3) C dX9_holder_30 rfl rfl ?_
        exact px_iret C hRt dX9_holder_31 rfl rfl hk
set_option maxRecDepth 100000 in
set_option maxHeartbeats 4000000 in
theorem w9_holder_ok {l : Launch} {idx : List (Nat × Nat)} {μ : Mem} {a1 : Int32} {a2 : Int32} {P : Int32 → Mem → Prop} {X : String → Mem → Prop} (hl : l.stackTraces = false) (hI : IdxOK idx) (hk : w9_holder_wp μ a1 a2 P) : PMet l yX9_holder (.code yX9_holder cX9_holder 4 (some .int)) 0 0 0 idx [pR 50 0, pI a1, pI a2] μ (qI P) X := by
  refine PMet_of mv_X9_holder.2.2.2.2.2.2 hl hI mv_X9_holder.2.2.2.1 rfl (Nat.le_of_ble_eq_true rfl) (fun G _ _ C hRt hHR hnT => ?_)
  show PW G 0 0 0 [some (pR 50 0), some (pI a1), some (pI a2), none] [] μ
  unfold w9_holder_wp at hk
  refine px_iconst (v := (0 : Int32)) C dX9_holder_0 rfl ?_
  refine px_istore_n (i := 3) C dX9_holder_1 rfl (by decide) rfl ?_
  exact PW_at (w9_holder_b2_ok C hRt hHR hnT hk) (And.intro rfl (And.intro rfl (And.intro rfl (And.intro rfl trivial)))) (Nat.le_of_ble_eq_true rfl) (Nat.le_of_ble_eq_true rfl)
