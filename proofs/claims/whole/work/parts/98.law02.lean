theorem dL_child_0 : decode cL_child 0 = .ok (.aload 4, 2) := by decide +kernel
theorem dL_child_2 : decode cL_child 2 = .ok (.iconst 0, 1) := by decide +kernel
theorem dL_child_3 : decode cL_child 3 = .ok (.aload_n 0, 1) := by decide +kernel
theorem dL_child_4 : decode cL_child 4 = .ok (.iload_n 1, 1) := by decide +kernel
theorem dL_child_5 : decode cL_child 5 = .ok (.iload_n 2, 1) := by decide +kernel
theorem dL_child_6 : decode cL_child 6 = .ok (.iload_n 3, 1) := by decide +kernel
theorem dL_child_7 : decode cL_child 7 = .ok (.invokevirtual 72, 3) := by decide +kernel
theorem dL_child_10 : decode cL_child 10 = .ok (.i2l, 1) := by decide +kernel
theorem dL_child_11 : decode cL_child 11 = .ok (.lastore, 1) := by decide +kernel
theorem dL_child_12 : decode cL_child 12 = .ok (.goto 11, 3) := by decide +kernel
theorem dL_child_15 : decode cL_child 15 = .ok (.astore 5, 2) := by decide +kernel
theorem dL_child_17 : decode cL_child 17 = .ok (.iconst 1, 1) := by decide +kernel
theorem dL_child_18 : decode cL_child 18 = .ok (.ireturn, 1) := by decide +kernel
theorem dL_child_19 : decode cL_child 19 = .ok (.astore 5, 2) := by decide +kernel
theorem dL_child_21 : decode cL_child 21 = .ok (.iconst 2, 1) := by decide +kernel
theorem dL_child_22 : decode cL_child 22 = .ok (.ireturn, 1) := by decide +kernel
theorem dL_child_23 : decode cL_child 23 = .ok (.iconst 0, 1) := by decide +kernel
theorem dL_child_24 : decode cL_child 24 = .ok (.ireturn, 1) := by decide +kernel
set_option maxRecDepth 100000 in
set_option maxHeartbeats 4000000 in
theorem L_child_ok {l : Launch} {idx : List (Nat × Nat)} {μ : Mem} {a2 : Int32} {a3 : Int32} {a4 : Int32} {P : Int32 → Mem → Prop} {X : String → Mem → Prop} (hl : l.stackTraces = false) (hI : IdxOK idx) (hk : L_child_wp μ a2 a3 a4 P) : PMet l yL_child (.codeWith yL_child cL_child 6 (some .int) [(0, 12, 15, 21), (0, 12, 19, 44)]) 11 3 18 idx [pR 40 0, pI a2, pI a3, pI a4, pR 80 0] μ (qI P) X := by
  refine PMetH_of (by decide +kernel) hl hI rfl (Nat.le_of_ble_eq_true rfl) (fun G _ _ C hRt hHR hT => ?_)
  show PW G 3 18 0 [some (pR 40 0), some (pI a2), some (pI a3), some (pI a4), some (pR 80 0), none] [] μ
  unfold L_child_wp at hk
  refine px_aload (i := 4) C dL_child_0 rfl ?_
  refine px_iconst (v := (0 : Int32)) C dL_child_2 rfl ?_
  refine px_aload_n (i := 0) C dL_child_3 rfl rfl ?_
  refine px_iload_n (i := 1) C dL_child_4 rfl rfl ?_
  refine px_iload_n (i := 2) C dL_child_5 rfl rfl ?_
  refine px_iload_n (i := 3) C dL_child_6 rfl rfl ?_
  refine px_callVHi (h := 10) (rc' := 0) (rs' := 0) C (HR_le hHR (Nat.le_of_ble_eq_true rfl)) hT dL_child_7 (gw4 178 rfl rfl) mv_X8_child (w8_child_ok (PCx_l C) (PCx_I C) hk) rfl rfl rfl rfl rfl (Nat.le_of_ble_eq_true rfl) (Nat.le_of_ble_eq_true rfl) (Nat.le_of_ble_eq_true rfl) (Nat.le_of_ble_eq_true rfl) ?_ ?_
  · intro E μ3 hk
    rcases hk with ⟨rfl, hk⟩ | ⟨rfl, hk⟩
    · refine ⟨[], ⟨0, 12, 15, 21⟩, [⟨0, 12, 19, 44⟩], rfl, (fun _ hz => absurd hz List.not_mem_nil), rfl, by decide, ⟨"java/lang/IndexOutOfBoundsException", (gw3 181 rfl rfl), List.mem_append_left _ (List.mem_of_getElem? (i := 2) rfl)⟩, fun q9 => ?_⟩
      refine px_astorew (i := 5) C dL_child_15 (by decide) rfl ?_
      refine px_iconst (v := (1 : Int32)) C dL_child_17 rfl ?_
      exact px_iret C hRt dL_child_18 rfl rfl hk
    · refine ⟨[⟨0, 12, 15, 21⟩], ⟨0, 12, 19, 44⟩, [], rfl, (List.forall_mem_cons.mpr ⟨Or.inr ⟨by decide, "java/lang/IndexOutOfBoundsException", (gw3 181 rfl rfl), List.mem_of_getElem? (i := 17) rfl⟩, (fun _ hz => absurd hz List.not_mem_nil)⟩), rfl, by decide, ⟨"java/util/NoSuchElementException", (gw4 48 rfl rfl), List.mem_append_left _ (List.mem_of_getElem? (i := 3) rfl)⟩, fun q9 => ?_⟩
      refine px_astorew (i := 5) C dL_child_19 (by decide) rfl ?_
      refine px_iconst (v := (2 : Int32)) C dL_child_21 rfl ?_
      exact px_iret C hRt dL_child_22 rfl rfl hk
  intro r2 μ1 hk
  refine px_i2l C dL_child_10 ?_
  obtain ⟨o4, hk⟩ := hk
  replace hk := hk _ rfl
  refine px_last 5120 C dL_child_11 rfl rfl rfl rfl o4 rfl ?_
  refine px_goto (tgt := 23) C dL_child_12 (by decide) ?_
  refine px_iconst (v := (0 : Int32)) C dL_child_23 rfl ?_
  exact px_iret C hRt dL_child_24 rfl rfl hk
theorem dL_roots_0 : decode cL_roots 0 = .ok (.aload_n 3, 1) := by decide +kernel
theorem dL_roots_1 : decode cL_roots 1 = .ok (.iconst 0, 1) := by decide +kernel
theorem dL_roots_2 : decode cL_roots 2 = .ok (.aload_n 0, 1) := by decide +kernel
theorem dL_roots_3 : decode cL_roots 3 = .ok (.iload_n 1, 1) := by decide +kernel
theorem dL_roots_4 : decode cL_roots 4 = .ok (.iload_n 2, 1) := by decide +kernel
theorem dL_roots_5 : decode cL_roots 5 = .ok (.invokevirtual 75, 3) := by decide +kernel
theorem dL_roots_8 : decode cL_roots 8 = .ok (.i2l, 1) := by decide +kernel
theorem dL_roots_9 : decode cL_roots 9 = .ok (.lastore, 1) := by decide +kernel
theorem dL_roots_10 : decode cL_roots 10 = .ok (.goto 7, 3) := by decide +kernel
theorem dL_roots_13 : decode cL_roots 13 = .ok (.astore 4, 2) := by decide +kernel
theorem dL_roots_15 : decode cL_roots 15 = .ok (.iconst 1, 1) := by decide +kernel
theorem dL_roots_16 : decode cL_roots 16 = .ok (.ireturn, 1) := by decide +kernel
theorem dL_roots_17 : decode cL_roots 17 = .ok (.iconst 0, 1) := by decide +kernel
theorem dL_roots_18 : decode cL_roots 18 = .ok (.ireturn, 1) := by decide +kernel
set_option maxRecDepth 100000 in
set_option maxHeartbeats 4000000 in
theorem L_roots_ok {l : Launch} {idx : List (Nat × Nat)} {μ : Mem} {a2 : Int32} {a3 : Int32} {P : Int32 → Mem → Prop} {X : String → Mem → Prop} (hl : l.stackTraces = false) (hI : IdxOK idx) (hk : L_roots_wp μ a2 a3 P) : PMet l yL_roots (.codeWith yL_roots cL_roots 5 (some .int) [(0, 10, 13, 21)]) 10 1 6 idx [pR 40 0, pI a2, pI a3, pR 80 0] μ (qI P) X := by
  refine PMetH_of (by decide +kernel) hl hI rfl (Nat.le_of_ble_eq_true rfl) (fun G _ _ C hRt hHR hT => ?_)
  show PW G 1 6 0 [some (pR 40 0), some (pI a2), some (pI a3), some (pR 80 0), none] [] μ
  unfold L_roots_wp at hk
  refine px_aload_n (i := 3) C dL_roots_0 rfl rfl ?_
  refine px_iconst (v := (0 : Int32)) C dL_roots_1 rfl ?_
  refine px_aload_n (i := 0) C dL_roots_2 rfl rfl ?_
  refine px_iload_n (i := 1) C dL_roots_3 rfl rfl ?_
  refine px_iload_n (i := 2) C dL_roots_4 rfl rfl ?_
  refine px_callVHi (h := 9) (rc' := 0) (rs' := 0) C (HR_le hHR (Nat.le_of_ble_eq_true rfl)) hT dL_roots_5 (gw4 190 rfl rfl) mv_X8_roots (w8_roots_ok (PCx_l C) (PCx_I C) hk) rfl rfl rfl rfl rfl (Nat.le_of_ble_eq_true rfl) (Nat.le_of_ble_eq_true rfl) (Nat.le_of_ble_eq_true rfl) (Nat.le_of_ble_eq_true rfl) ?_ ?_
  · intro E μ3 hk
    rcases hk with ⟨rfl, hk⟩
    · refine ⟨[], ⟨0, 10, 13, 21⟩, [], rfl, (fun _ hz => absurd hz List.not_mem_nil), rfl, by decide, ⟨"java/lang/IndexOutOfBoundsException", (gw3 181 rfl rfl), List.mem_append_left _ (List.mem_of_getElem? (i := 2) rfl)⟩, fun q9 => ?_⟩
      refine px_astorew (i := 4) C dL_roots_13 (by decide) rfl ?_
      refine px_iconst (v := (1 : Int32)) C dL_roots_15 rfl ?_
      exact px_iret C hRt dL_roots_16 rfl rfl hk
  intro r2 μ1 hk
  refine px_i2l C dL_roots_8 ?_
  obtain ⟨o4, hk⟩ := hk
  replace hk := hk _ rfl
  refine px_last 5120 C dL_roots_9 rfl rfl rfl rfl o4 rfl ?_
  refine px_goto (tgt := 17) C dL_roots_10 (by decide) ?_
  refine px_iconst (v := (0 : Int32)) C dL_roots_17 rfl ?_
  exact px_iret C hRt dL_roots_18 rfl rfl hk
theorem dL_rootAt_0 : decode cL_rootAt 0 = .ok (.aload_n 3, 1) := by decide +kernel
theorem dL_rootAt_1 : decode cL_rootAt 1 = .ok (.iconst 0, 1) := by decide +kernel
theorem dL_rootAt_2 : decode cL_rootAt 2 = .ok (.aload_n 0, 1) := by decide +kernel
theorem dL_rootAt_3 : decode cL_rootAt 3 = .ok (.iload_n 1, 1) := by decide +kernel
theorem dL_rootAt_4 : decode cL_rootAt 4 = .ok (.iload_n 2, 1) := by decide +kernel
theorem dL_rootAt_5 : decode cL_rootAt 5 = .ok (.invokevirtual 78, 3) := by decide +kernel
theorem dL_rootAt_8 : decode cL_rootAt 8 = .ok (.i2l, 1) := by decide +kernel
theorem dL_rootAt_9 : decode cL_rootAt 9 = .ok (.lastore, 1) := by decide +kernel
theorem dL_rootAt_10 : decode cL_rootAt 10 = .ok (.goto 11, 3) := by decide +kernel
theorem dL_rootAt_13 : decode cL_rootAt 13 = .ok (.astore 4, 2) := by decide +kernel
theorem dL_rootAt_15 : decode cL_rootAt 15 = .ok (.iconst 1, 1) := by decide +kernel
theorem dL_rootAt_16 : decode cL_rootAt 16 = .ok (.ireturn, 1) := by decide +kernel
theorem dL_rootAt_17 : decode cL_rootAt 17 = .ok (.astore 4, 2) := by decide +kernel
theorem dL_rootAt_19 : decode cL_rootAt 19 = .ok (.iconst 2, 1) := by decide +kernel
theorem dL_rootAt_20 : decode cL_rootAt 20 = .ok (.ireturn, 1) := by decide +kernel
theorem dL_rootAt_21 : decode cL_rootAt 21 = .ok (.iconst 0, 1) := by decide +kernel
theorem dL_rootAt_22 : decode cL_rootAt 22 = .ok (.ireturn, 1) := by decide +kernel
set_option maxRecDepth 100000 in
set_option maxHeartbeats 4000000 in
theorem L_rootAt_ok {l : Launch} {idx : List (Nat × Nat)} {μ : Mem} {a2 : Int32} {a3 : Int32} {P : Int32 → Mem → Prop} {X : String → Mem → Prop} (hl : l.stackTraces = false) (hI : IdxOK idx) (hk : L_rootAt_wp μ a2 a3 P) : PMet l yL_rootAt (.codeWith yL_rootAt cL_rootAt 5 (some .int) [(0, 10, 13, 21), (0, 10, 17, 44)]) 10 2 12 idx [pR 40 0, pI a2, pI a3, pR 80 0] μ (qI P) X := by
  refine PMetH_of (by decide +kernel) hl hI rfl (Nat.le_of_ble_eq_true rfl) (fun G _ _ C hRt hHR hT => ?_)
  show PW G 2 12 0 [some (pR 40 0), some (pI a2), some (pI a3), some (pR 80 0), none] [] μ
  unfold L_rootAt_wp at hk
  refine px_aload_n (i := 3) C dL_rootAt_0 rfl rfl ?_
  refine px_iconst (v := (0 : Int32)) C dL_rootAt_1 rfl ?_
  refine px_aload_n (i := 0) C dL_rootAt_2 rfl rfl ?_
  refine px_iload_n (i := 1) C dL_rootAt_3 rfl rfl ?_
  refine px_iload_n (i := 2) C dL_rootAt_4 rfl rfl ?_
  refine px_callVHi (h := 9) (rc' := 0) (rs' := 0) C (HR_le hHR (Nat.le_of_ble_eq_true rfl)) hT dL_rootAt_5 (gw4 206 rfl rfl) mv_X8_rootAt (w8_rootAt_ok (PCx_l C) (PCx_I C) hk) rfl rfl rfl rfl rfl (Nat.le_of_ble_eq_true rfl) (Nat.le_of_ble_eq_true rfl) (Nat.le_of_ble_eq_true rfl) (Nat.le_of_ble_eq_true rfl) ?_ ?_
  · intro E μ3 hk
    rcases hk with ⟨rfl, hk⟩ | ⟨rfl, hk⟩
    · refine ⟨[], ⟨0, 10, 13, 21⟩, [⟨0, 10, 17, 44⟩], rfl, (fun _ hz => absurd hz List.not_mem_nil), rfl, by decide, ⟨"java/lang/IndexOutOfBoundsException", (gw3 181 rfl rfl), List.mem_append_left _ (List.mem_of_getElem? (i := 2) rfl)⟩, fun q9 => ?_⟩
      refine px_astorew (i := 4) C dL_rootAt_13 (by decide) rfl ?_
      refine px_iconst (v := (1 : Int32)) C dL_rootAt_15 rfl ?_
      exact px_iret C hRt dL_rootAt_16 rfl rfl hk
    · refine ⟨[⟨0, 10, 13, 21⟩], ⟨0, 10, 17, 44⟩, [], rfl, (List.forall_mem_cons.mpr ⟨Or.inr ⟨by decide, "java/lang/IndexOutOfBoundsException", (gw3 181 rfl rfl), List.mem_of_getElem? (i := 17) rfl⟩, (fun _ hz => absurd hz List.not_mem_nil)⟩), rfl, by decide, ⟨"java/util/NoSuchElementException", (gw4 48 rfl rfl), List.mem_append_left _ (List.mem_of_getElem? (i := 3) rfl)⟩, fun q9 => ?_⟩
      refine px_astorew (i := 4) C dL_rootAt_17 (by decide) rfl ?_
      refine px_iconst (v := (2 : Int32)) C dL_rootAt_19 rfl ?_
      exact px_iret C hRt dL_rootAt_20 rfl rfl hk
  intro r2 μ1 hk
  refine px_i2l C dL_rootAt_8 ?_
  obtain ⟨o4, hk⟩ := hk
  replace hk := hk _ rfl
  refine px_last 5120 C dL_rootAt_9 rfl rfl rfl rfl o4 rfl ?_
  refine px_goto (tgt := 21) C dL_rootAt_10 (by decide) ?_
  refine px_iconst (v := (0 : Int32)) C dL_rootAt_21 rfl ?_
  exact px_iret C hRt dL_rootAt_22 rfl rfl hk
theorem dL_missing_0 : decode cL_missing 0 = .ok (.aload 4, 2) := by decide +kernel
theorem dL_missing_2 : decode cL_missing 2 = .ok (.iconst 0, 1) := by decide +kernel
theorem dL_missing_3 : decode cL_missing 3 = .ok (.aload_n 0, 1) := by decide +kernel
theorem dL_missing_4 : decode cL_missing 4 = .ok (.iload_n 1, 1) := by decide +kernel
theorem dL_missing_5 : decode cL_missing 5 = .ok (.iload_n 2, 1) := by decide +kernel
theorem dL_missing_6 : decode cL_missing 6 = .ok (.iload_n 3, 1) := by decide +kernel
theorem dL_missing_7 : decode cL_missing 7 = .ok (.invokevirtual 81, 3) := by decide +kernel
theorem dL_missing_10 : decode cL_missing 10 = .ok (.i2l, 1) := by decide +kernel
theorem dL_missing_11 : decode cL_missing 11 = .ok (.lastore, 1) := by decide +kernel
theorem dL_missing_12 : decode cL_missing 12 = .ok (.goto 11, 3) := by decide +kernel
theorem dL_missing_15 : decode cL_missing 15 = .ok (.astore 5, 2) := by decide +kernel
theorem dL_missing_17 : decode cL_missing 17 = .ok (.iconst 1, 1) := by decide +kernel
theorem dL_missing_18 : decode cL_missing 18 = .ok (.ireturn, 1) := by decide +kernel
theorem dL_missing_19 : decode cL_missing 19 = .ok (.astore 5, 2) := by decide +kernel
theorem dL_missing_21 : decode cL_missing 21 = .ok (.iconst 2, 1) := by decide +kernel
theorem dL_missing_22 : decode cL_missing 22 = .ok (.ireturn, 1) := by decide +kernel
theorem dL_missing_23 : decode cL_missing 23 = .ok (.iconst 0, 1) := by decide +kernel
theorem dL_missing_24 : decode cL_missing 24 = .ok (.ireturn, 1) := by decide +kernel
set_option maxRecDepth 100000 in
set_option maxHeartbeats 4000000 in
theorem L_missing_ok {l : Launch} {idx : List (Nat × Nat)} {μ : Mem} {a2 : Int32} {a3 : Int32} {a4 : Int32} {P : Int32 → Mem → Prop} {X : String → Mem → Prop} (hl : l.stackTraces = false) (hI : IdxOK idx) (hk : L_missing_wp μ a2 a3 a4 P) : PMet l yL_missing (.codeWith yL_missing cL_missing 6 (some .int) [(0, 12, 15, 21), (0, 12, 19, 44)]) 10 2 12 idx [pR 40 0, pI a2, pI a3, pI a4, pR 80 0] μ (qI P) X := by
  refine PMetH_of (by decide +kernel) hl hI rfl (Nat.le_of_ble_eq_true rfl) (fun G _ _ C hRt hHR hT => ?_)
  show PW G 2 12 0 [some (pR 40 0), some (pI a2), some (pI a3), some (pI a4), some (pR 80 0), none] [] μ
  unfold L_missing_wp at hk
  refine px_aload (i := 4) C dL_missing_0 rfl ?_
  refine px_iconst (v := (0 : Int32)) C dL_missing_2 rfl ?_
  refine px_aload_n (i := 0) C dL_missing_3 rfl rfl ?_
  refine px_iload_n (i := 1) C dL_missing_4 rfl rfl ?_
  refine px_iload_n (i := 2) C dL_missing_5 rfl rfl ?_
  refine px_iload_n (i := 3) C dL_missing_6 rfl rfl ?_
  refine px_callVHi (h := 9) (rc' := 0) (rs' := 0) C (HR_le hHR (Nat.le_of_ble_eq_true rfl)) hT dL_missing_7 (gw4 218 rfl rfl) mv_X8_missing (w8_missing_ok (PCx_l C) (PCx_I C) hk) rfl rfl rfl rfl rfl (Nat.le_of_ble_eq_true rfl) (Nat.le_of_ble_eq_true rfl) (Nat.le_of_ble_eq_true rfl) (Nat.le_of_ble_eq_true rfl) ?_ ?_
  · intro E μ3 hk
    rcases hk with ⟨rfl, hk⟩ | ⟨rfl, hk⟩
    · refine ⟨[], ⟨0, 12, 15, 21⟩, [⟨0, 12, 19, 44⟩], rfl, (fun _ hz => absurd hz List.not_mem_nil), rfl, by decide, ⟨"java/lang/IndexOutOfBoundsException", (gw3 181 rfl rfl), List.mem_append_left _ (List.mem_of_getElem? (i := 2) rfl)⟩, fun q9 => ?_⟩
      refine px_astorew (i := 5) C dL_missing_15 (by decide) rfl ?_
      refine px_iconst (v := (1 : Int32)) C dL_missing_17 rfl ?_
      exact px_iret C hRt dL_missing_18 rfl rfl hk
    · refine ⟨[⟨0, 12, 15, 21⟩], ⟨0, 12, 19, 44⟩, [], rfl, (List.forall_mem_cons.mpr ⟨Or.inr ⟨by decide, "java/lang/IndexOutOfBoundsException", (gw3 181 rfl rfl), List.mem_of_getElem? (i := 17) rfl⟩, (fun _ hz => absurd hz List.not_mem_nil)⟩), rfl, by decide, ⟨"java/util/NoSuchElementException", (gw4 48 rfl rfl), List.mem_append_left _ (List.mem_of_getElem? (i := 3) rfl)⟩, fun q9 => ?_⟩
      refine px_astorew (i := 5) C dL_missing_19 (by decide) rfl ?_
      refine px_iconst (v := (2 : Int32)) C dL_missing_21 rfl ?_
      exact px_iret C hRt dL_missing_22 rfl rfl hk
  intro r2 μ1 hk
  refine px_i2l C dL_missing_10 ?_
  obtain ⟨o4, hk⟩ := hk
  replace hk := hk _ rfl
  refine px_last 5120 C dL_missing_11 rfl rfl rfl rfl o4 rfl ?_
  refine px_goto (tgt := 23) C dL_missing_12 (by decide) ?_
  refine px_iconst (v := (0 : Int32)) C dL_missing_23 rfl ?_
  exact px_iret C hRt dL_missing_24 rfl rfl hk
theorem dL_segments_0 : decode cL_segments 0 = .ok (.aload_n 3, 1) := by decide +kernel
theorem dL_segments_1 : decode cL_segments 1 = .ok (.iconst 0, 1) := by decide +kernel
theorem dL_segments_2 : decode cL_segments 2 = .ok (.aload_n 0, 1) := by decide +kernel
theorem dL_segments_3 : decode cL_segments 3 = .ok (.iload_n 1, 1) := by decide +kernel
theorem dL_segments_4 : decode cL_segments 4 = .ok (.iload_n 2, 1) := by decide +kernel
theorem dL_segments_5 : decode cL_segments 5 = .ok (.invokevirtual 85, 3) := by decide +kernel
theorem dL_segments_8 : decode cL_segments 8 = .ok (.i2l, 1) := by decide +kernel
theorem dL_segments_9 : decode cL_segments 9 = .ok (.lastore, 1) := by decide +kernel
theorem dL_segments_10 : decode cL_segments 10 = .ok (.goto 11, 3) := by decide +kernel
theorem dL_segments_13 : decode cL_segments 13 = .ok (.astore 4, 2) := by decide +kernel
theorem dL_segments_15 : decode cL_segments 15 = .ok (.iconst 1, 1) := by decide +kernel
theorem dL_segments_16 : decode cL_segments 16 = .ok (.ireturn, 1) := by decide +kernel
theorem dL_segments_17 : decode cL_segments 17 = .ok (.astore 4, 2) := by decide +kernel
theorem dL_segments_19 : decode cL_segments 19 = .ok (.iconst 2, 1) := by decide +kernel
theorem dL_segments_20 : decode cL_segments 20 = .ok (.ireturn, 1) := by decide +kernel
theorem dL_segments_21 : decode cL_segments 21 = .ok (.iconst 0, 1) := by decide +kernel
theorem dL_segments_22 : decode cL_segments 22 = .ok (.ireturn, 1) := by decide +kernel
set_option maxRecDepth 100000 in
set_option maxHeartbeats 4000000 in
theorem L_segments_ok {l : Launch} {idx : List (Nat × Nat)} {μ : Mem} {a2 : Int32} {a3 : Int32} {P : Int32 → Mem → Prop} {X : String → Mem → Prop} (hl : l.stackTraces = false) (hI : IdxOK idx) (hk : L_segments_wp μ a2 a3 P) : PMet l yL_segments (.codeWith yL_segments cL_segments 5 (some .int) [(0, 10, 13, 21), (0, 10, 17, 44)]) 11 2 12 idx [pR 40 0, pI a2, pI a3, pR 80 0] μ (qI P) X := by
  refine PMetH_of (by decide +kernel) hl hI rfl (Nat.le_of_ble_eq_true rfl) (fun G _ _ C hRt hHR hT => ?_)
  show PW G 2 12 0 [some (pR 40 0), some (pI a2), some (pI a3), some (pR 80 0), none] [] μ
  unfold L_segments_wp at hk
  refine px_aload_n (i := 3) C dL_segments_0 rfl rfl ?_
  refine px_iconst (v := (0 : Int32)) C dL_segments_1 rfl ?_
  refine px_aload_n (i := 0) C dL_segments_2 rfl rfl ?_
  refine px_iload_n (i := 1) C dL_segments_3 rfl rfl ?_
  refine px_iload_n (i := 2) C dL_segments_4 rfl rfl ?_
  refine px_callVHi (h := 10) (rc' := 0) (rs' := 0) C (HR_le hHR (Nat.le_of_ble_eq_true rfl)) hT dL_segments_5 (gw4 239 rfl rfl) mv_X8_segments (w8_segments_ok (PCx_l C) (PCx_I C) hk) rfl rfl rfl rfl rfl (Nat.le_of_ble_eq_true rfl) (Nat.le_of_ble_eq_true rfl) (Nat.le_of_ble_eq_true rfl) (Nat.le_of_ble_eq_true rfl) ?_ ?_
  · intro E μ3 hk
    rcases hk with ⟨rfl, hk⟩ | ⟨rfl, hk⟩
    · refine ⟨[], ⟨0, 10, 13, 21⟩, [⟨0, 10, 17, 44⟩], rfl, (fun _ hz => absurd hz List.not_mem_nil), rfl, by decide, ⟨"java/lang/IndexOutOfBoundsException", (gw3 181 rfl rfl), List.mem_append_left _ (List.mem_of_getElem? (i := 2) rfl)⟩, fun q9 => ?_⟩
      refine px_astorew (i := 4) C dL_segments_13 (by decide) rfl ?_
      refine px_iconst (v := (1 : Int32)) C dL_segments_15 rfl ?_
      exact px_iret C hRt dL_segments_16 rfl rfl hk
    · refine ⟨[⟨0, 10, 13, 21⟩], ⟨0, 10, 17, 44⟩, [], rfl, (List.forall_mem_cons.mpr ⟨Or.inr ⟨by decide, "java/lang/IndexOutOfBoundsException", (gw3 181 rfl rfl), List.mem_of_getElem? (i := 17) rfl⟩, (fun _ hz => absurd hz List.not_mem_nil)⟩), rfl, by decide, ⟨"java/util/NoSuchElementException", (gw4 48 rfl rfl), List.mem_append_left _ (List.mem_of_getElem? (i := 3) rfl)⟩, fun q9 => ?_⟩
      refine px_astorew (i := 4) C dL_segments_17 (by decide) rfl ?_
      refine px_iconst (v := (2 : Int32)) C dL_segments_19 rfl ?_
      exact px_iret C hRt dL_segments_20 rfl rfl hk
  intro r2 μ1 hk
  refine px_i2l C dL_segments_8 ?_
  obtain ⟨o4, hk⟩ := hk
  replace hk := hk _ rfl
  refine px_last 5120 C dL_segments_9 rfl rfl rfl rfl o4 rfl ?_
  refine px_goto (tgt := 21) C dL_segments_10 (by decide) ?_
  refine px_iconst (v := (0 : Int32)) C dL_segments_21 rfl ?_
  exact px_iret C hRt dL_segments_22 rfl rfl hk
theorem dL_segment_0 : decode cL_segment 0 = .ok (.aload 5, 2) := by decide +kernel
theorem dL_segment_2 : decode cL_segment 2 = .ok (.iconst 0, 1) := by decide +kernel
theorem dL_segment_3 : decode cL_segment 3 = .ok (.aload_n 0, 1) := by decide +kernel
theorem dL_segment_4 : decode cL_segment 4 = .ok (.iload_n 1, 1) := by decide +kernel
theorem dL_segment_5 : decode cL_segment 5 = .ok (.iload_n 2, 1) := by decide +kernel
theorem dL_segment_6 : decode cL_segment 6 = .ok (.iload_n 3, 1) := by decide +kernel
theorem dL_segment_7 : decode cL_segment 7 = .ok (.iload 4, 2) := by decide +kernel
theorem dL_segment_9 : decode cL_segment 9 = .ok (.invokevirtual 88, 3) := by decide +kernel
theorem dL_segment_12 : decode cL_segment 12 = .ok (.i2l, 1) := by decide +kernel
theorem dL_segment_13 : decode cL_segment 13 = .ok (.lastore, 1) := by decide +kernel
theorem dL_segment_14 : decode cL_segment 14 = .ok (.goto 15, 3) := by decide +kernel
theorem dL_segment_17 : decode cL_segment 17 = .ok (.astore 6, 2) := by decide +kernel
theorem dL_segment_19 : decode cL_segment 19 = .ok (.iconst 1, 1) := by decide +kernel
theorem dL_segment_20 : decode cL_segment 20 = .ok (.ireturn, 1) := by decide +kernel
theorem dL_segment_21 : decode cL_segment 21 = .ok (.astore 6, 2) := by decide +kernel
theorem dL_segment_23 : decode cL_segment 23 = .ok (.iconst 2, 1) := by decide +kernel
theorem dL_segment_24 : decode cL_segment 24 = .ok (.ireturn, 1) := by decide +kernel
theorem dL_segment_25 : decode cL_segment 25 = .ok (.astore 6, 2) := by decide +kernel
theorem dL_segment_27 : decode cL_segment 27 = .ok (.iconst 3, 1) := by decide +kernel
theorem dL_segment_28 : decode cL_segment 28 = .ok (.ireturn, 1) := by decide +kernel
theorem dL_segment_29 : decode cL_segment 29 = .ok (.iconst 0, 1) := by decide +kernel
theorem dL_segment_30 : decode cL_segment 30 = .ok (.ireturn, 1) := by decide +kernel
set_option maxRecDepth 100000 in
set_option maxHeartbeats 4000000 in
theorem L_segment_ok {l : Launch} {idx : List (Nat × Nat)} {μ : Mem} {a2 : Int32} {a3 : Int32} {a4 : Int32} {a5 : Int32} {P : Int32 → Mem → Prop} {X : String → Mem → Prop} (hl : l.stackTraces = false) (hI : IdxOK idx) (hk : L_segment_wp μ a2 a3 a4 a5 P) : PMet l yL_segment (.codeWith yL_segment cL_segment 7 (some .int) [(0, 14, 17, 21), (0, 14, 21, 13), (0, 14, 25, 44)]) 11 4 24 idx [pR 40 0, pI a2, pI a3, pI a4, pI a5, pR 80 0] μ (qI P) X := by
  refine PMetH_of (by decide +kernel) hl hI rfl (Nat.le_of_ble_eq_true rfl) (fun G _ _ C hRt hHR hT => ?_)
  show PW G 4 24 0 [some (pR 40 0), some (pI a2), some (pI a3), some (pI a4), some (pI a5), some (pR 80 0), none] [] μ
  unfold L_segment_wp at hk
  refine px_aload (i := 5) C dL_segment_0 rfl ?_
  refine px_iconst (v := (0 : Int32)) C dL_segment_2 rfl ?_
  refine px_aload_n (i := 0) C dL_segment_3 rfl rfl ?_
  refine px_iload_n (i := 1) C dL_segment_4 rfl rfl ?_
  refine px_iload_n (i := 2) C dL_segment_5 rfl rfl ?_
  refine px_iload_n (i := 3) C dL_segment_6 rfl rfl ?_
  refine px_iload (i := 4) C dL_segment_7 rfl ?_
  refine px_callVHi (h := 10) (rc' := 0) (rs' := 0) C (HR_le hHR (Nat.le_of_ble_eq_true rfl)) hT dL_segment_9 (gw5 34 rfl rfl) mv_X8_segment (w8_segment_ok (PCx_l C) (PCx_I C) hk) rfl rfl rfl rfl rfl (Nat.le_of_ble_eq_true rfl) (Nat.le_of_ble_eq_true rfl) (Nat.le_of_ble_eq_true rfl) (Nat.le_of_ble_eq_true rfl) ?_ ?_
  · intro E μ3 hk
    rcases hk with ⟨rfl, hk⟩ | ⟨rfl, hk⟩ | ⟨rfl, hk⟩
    · refine ⟨[], ⟨0, 14, 17, 21⟩, [⟨0, 14, 21, 13⟩, ⟨0, 14, 25, 44⟩], rfl, (fun _ hz => absurd hz List.not_mem_nil), rfl, by decide, ⟨"java/lang/IndexOutOfBoundsException", (gw3 181 rfl rfl), List.mem_append_left _ (List.mem_of_getElem? (i := 2) rfl)⟩, fun q9 => ?_⟩
      refine px_astorew (i := 6) C dL_segment_17 (by decide) rfl ?_
      refine px_iconst (v := (1 : Int32)) C dL_segment_19 rfl ?_
      exact px_iret C hRt dL_segment_20 rfl rfl hk
    · refine ⟨[⟨0, 14, 17, 21⟩], ⟨0, 14, 21, 13⟩, [⟨0, 14, 25, 44⟩], rfl, (List.forall_mem_cons.mpr ⟨Or.inr ⟨by decide, "java/lang/IndexOutOfBoundsException", (gw3 181 rfl rfl), List.mem_of_getElem? (i := 1) rfl⟩, (fun _ hz => absurd hz List.not_mem_nil)⟩), rfl, by decide, ⟨"java/lang/IllegalArgumentException", (gw3 59 rfl rfl), List.mem_append_left _ (List.mem_of_getElem? (i := 0) rfl)⟩, fun q9 => ?_⟩
      refine px_astorew (i := 6) C dL_segment_21 (by decide) rfl ?_
      refine px_iconst (v := (2 : Int32)) C dL_segment_23 rfl ?_
      exact px_iret C hRt dL_segment_24 rfl rfl hk
    · refine ⟨[⟨0, 14, 17, 21⟩, ⟨0, 14, 21, 13⟩], ⟨0, 14, 25, 44⟩, [], rfl, (List.forall_mem_cons.mpr ⟨Or.inr ⟨by decide, "java/lang/IndexOutOfBoundsException", (gw3 181 rfl rfl), List.mem_of_getElem? (i := 17) rfl⟩, (List.forall_mem_cons.mpr ⟨Or.inr ⟨by decide, "java/lang/IllegalArgumentException", (gw3 59 rfl rfl), List.mem_of_getElem? (i := 15) rfl⟩, (fun _ hz => absurd hz List.not_mem_nil)⟩)⟩), rfl, by decide, ⟨"java/util/NoSuchElementException", (gw4 48 rfl rfl), List.mem_append_left _ (List.mem_of_getElem? (i := 3) rfl)⟩, fun q9 => ?_⟩
      refine px_astorew (i := 6) C dL_segment_25 (by decide) rfl ?_
      refine px_iconst (v := (3 : Int32)) C dL_segment_27 rfl ?_
      exact px_iret C hRt dL_segment_28 rfl rfl hk
  intro r2 μ1 hk
  refine px_i2l C dL_segment_12 ?_
  obtain ⟨o4, hk⟩ := hk
  replace hk := hk _ rfl
  refine px_last 5120 C dL_segment_13 rfl rfl rfl rfl o4 rfl ?_
  refine px_goto (tgt := 29) C dL_segment_14 (by decide) ?_
  refine px_iconst (v := (0 : Int32)) C dL_segment_29 rfl ?_
  exact px_iret C hRt dL_segment_30 rfl rfl hk
theorem dL_criticalTime_0 : decode cL_criticalTime 0 = .ok (.aload_n 2, 1) := by decide +kernel
theorem dL_criticalTime_1 : decode cL_criticalTime 1 = .ok (.iconst 0, 1) := by decide +kernel
theorem dL_criticalTime_2 : decode cL_criticalTime 2 = .ok (.aload_n 0, 1) := by decide +kernel
theorem dL_criticalTime_3 : decode cL_criticalTime 3 = .ok (.iload_n 1, 1) := by decide +kernel
theorem dL_criticalTime_4 : decode cL_criticalTime 4 = .ok (.invokevirtual 92, 3) := by decide +kernel
theorem dL_criticalTime_7 : decode cL_criticalTime 7 = .ok (.i2l, 1) := by decide +kernel
theorem dL_criticalTime_8 : decode cL_criticalTime 8 = .ok (.lastore, 1) := by decide +kernel
theorem dL_criticalTime_9 : decode cL_criticalTime 9 = .ok (.goto 6, 3) := by decide +kernel
theorem dL_criticalTime_12 : decode cL_criticalTime 12 = .ok (.astore_n 3, 1) := by decide +kernel
theorem dL_criticalTime_13 : decode cL_criticalTime 13 = .ok (.iconst 1, 1) := by decide +kernel
theorem dL_criticalTime_14 : decode cL_criticalTime 14 = .ok (.ireturn, 1) := by decide +kernel
theorem dL_criticalTime_15 : decode cL_criticalTime 15 = .ok (.iconst 0, 1) := by decide +kernel
theorem dL_criticalTime_16 : decode cL_criticalTime 16 = .ok (.ireturn, 1) := by decide +kernel
set_option maxRecDepth 100000 in
set_option maxHeartbeats 4000000 in
theorem L_criticalTime_ok {l : Launch} {idx : List (Nat × Nat)} {μ : Mem} {a2 : Int32} {P : Int32 → Mem → Prop} {X : String → Mem → Prop} (hl : l.stackTraces = false) (hI : IdxOK idx) (hk : L_criticalTime_wp μ a2 P) : PMet l yL_criticalTime (.codeWith yL_criticalTime cL_criticalTime 4 (some .int) [(0, 9, 12, 21)]) 10 1 6 idx [pR 40 0, pI a2, pR 80 0] μ (qI P) X := by
  refine PMetH_of (by decide +kernel) hl hI rfl (Nat.le_of_ble_eq_true rfl) (fun G _ _ C hRt hHR hT => ?_)
  show PW G 1 6 0 [some (pR 40 0), some (pI a2), some (pR 80 0), none] [] μ
  unfold L_criticalTime_wp at hk
  refine px_aload_n (i := 2) C dL_criticalTime_0 rfl rfl ?_
  refine px_iconst (v := (0 : Int32)) C dL_criticalTime_1 rfl ?_
  refine px_aload_n (i := 0) C dL_criticalTime_2 rfl rfl ?_
  refine px_iload_n (i := 1) C dL_criticalTime_3 rfl rfl ?_
  refine px_callVHi (h := 9) (rc' := 0) (rs' := 0) C (HR_le hHR (Nat.le_of_ble_eq_true rfl)) hT dL_criticalTime_4 (gw5 47 rfl rfl) mv_X8_criticalTime (w8_criticalTime_ok (PCx_l C) (PCx_I C) hk) rfl rfl rfl rfl rfl (Nat.le_of_ble_eq_true rfl) (Nat.le_of_ble_eq_true rfl) (Nat.le_of_ble_eq_true rfl) (Nat.le_of_ble_eq_true rfl) ?_ ?_
  · intro E μ3 hk
    rcases hk with ⟨rfl, hk⟩
    · refine ⟨[], ⟨0, 9, 12, 21⟩, [], rfl, (fun _ hz => absurd hz List.not_mem_nil), rfl, by decide, ⟨"java/lang/IndexOutOfBoundsException", (gw3 181 rfl rfl), List.mem_append_left _ (List.mem_of_getElem? (i := 2) rfl)⟩, fun q9 => ?_⟩
      refine px_astore_nw (i := 3) C dL_criticalTime_12 rfl (by decide) rfl ?_
      refine px_iconst (v := (1 : Int32)) C dL_criticalTime_13 rfl ?_
      exact px_iret C hRt dL_criticalTime_14 rfl rfl hk
  intro r2 μ1 hk
  refine px_i2l C dL_criticalTime_7 ?_
  obtain ⟨o4, hk⟩ := hk
  replace hk := hk _ rfl
  refine px_last 5120 C dL_criticalTime_8 rfl rfl rfl rfl o4 rfl ?_
  refine px_goto (tgt := 15) C dL_criticalTime_9 (by decide) ?_
  refine px_iconst (v := (0 : Int32)) C dL_criticalTime_15 rfl ?_
  exact px_iret C hRt dL_criticalTime_16 rfl rfl hk
theorem dL_criticalAt_0 : decode cL_criticalAt 0 = .ok (.aload 4, 2) := by decide +kernel
theorem dL_criticalAt_2 : decode cL_criticalAt 2 = .ok (.iconst 0, 1) := by decide +kernel
theorem dL_criticalAt_3 : decode cL_criticalAt 3 = .ok (.aload_n 0, 1) := by decide +kernel
theorem dL_criticalAt_4 : decode cL_criticalAt 4 = .ok (.iload_n 1, 1) := by decide +kernel
theorem dL_criticalAt_5 : decode cL_criticalAt 5 = .ok (.iload_n 2, 1) := by decide +kernel
theorem dL_criticalAt_6 : decode cL_criticalAt 6 = .ok (.iload_n 3, 1) := by decide +kernel
theorem dL_criticalAt_7 : decode cL_criticalAt 7 = .ok (.invokevirtual 95, 3) := by decide +kernel
theorem dL_criticalAt_10 : decode cL_criticalAt 10 = .ok (.i2l, 1) := by decide +kernel
theorem dL_criticalAt_11 : decode cL_criticalAt 11 = .ok (.lastore, 1) := by decide +kernel
theorem dL_criticalAt_12 : decode cL_criticalAt 12 = .ok (.goto 11, 3) := by decide +kernel
theorem dL_criticalAt_15 : decode cL_criticalAt 15 = .ok (.astore 5, 2) := by decide +kernel
theorem dL_criticalAt_17 : decode cL_criticalAt 17 = .ok (.iconst 1, 1) := by decide +kernel
theorem dL_criticalAt_18 : decode cL_criticalAt 18 = .ok (.ireturn, 1) := by decide +kernel
theorem dL_criticalAt_19 : decode cL_criticalAt 19 = .ok (.astore 5, 2) := by decide +kernel
theorem dL_criticalAt_21 : decode cL_criticalAt 21 = .ok (.iconst 2, 1) := by decide +kernel
theorem dL_criticalAt_22 : decode cL_criticalAt 22 = .ok (.ireturn, 1) := by decide +kernel
theorem dL_criticalAt_23 : decode cL_criticalAt 23 = .ok (.iconst 0, 1) := by decide +kernel
theorem dL_criticalAt_24 : decode cL_criticalAt 24 = .ok (.ireturn, 1) := by decide +kernel
set_option maxRecDepth 100000 in
set_option maxHeartbeats 4000000 in
theorem L_criticalAt_ok {l : Launch} {idx : List (Nat × Nat)} {μ : Mem} {a2 : Int32} {a3 : Int32} {a4 : Int32} {P : Int32 → Mem → Prop} {X : String → Mem → Prop} (hl : l.stackTraces = false) (hI : IdxOK idx) (hk : L_criticalAt_wp μ a2 a3 a4 P) : PMet l yL_criticalAt (.codeWith yL_criticalAt cL_criticalAt 6 (some .int) [(0, 12, 15, 21), (0, 12, 19, 44)]) 11 3 18 idx [pR 40 0, pI a2, pI a3, pI a4, pR 80 0] μ (qI P) X := by
  refine PMetH_of (by decide +kernel) hl hI rfl (Nat.le_of_ble_eq_true rfl) (fun G _ _ C hRt hHR hT => ?_)
  show PW G 3 18 0 [some (pR 40 0), some (pI a2), some (pI a3), some (pI a4), some (pR 80 0), none] [] μ
  unfold L_criticalAt_wp at hk
  refine px_aload (i := 4) C dL_criticalAt_0 rfl ?_
  refine px_iconst (v := (0 : Int32)) C dL_criticalAt_2 rfl ?_
  refine px_aload_n (i := 0) C dL_criticalAt_3 rfl rfl ?_
  refine px_iload_n (i := 1) C dL_criticalAt_4 rfl rfl ?_
  refine px_iload_n (i := 2) C dL_criticalAt_5 rfl rfl ?_
  refine px_iload_n (i := 3) C dL_criticalAt_6 rfl rfl ?_
  refine px_callVHi (h := 10) (rc' := 0) (rs' := 0) C (HR_le hHR (Nat.le_of_ble_eq_true rfl)) hT dL_criticalAt_7 (gw5 58 rfl rfl) mv_X8_criticalAt (w8_criticalAt_ok (PCx_l C) (PCx_I C) hk) rfl rfl rfl rfl rfl (Nat.le_of_ble_eq_true rfl) (Nat.le_of_ble_eq_true rfl) (Nat.le_of_ble_eq_true rfl) (Nat.le_of_ble_eq_true rfl) ?_ ?_
  · intro E μ3 hk
    rcases hk with ⟨rfl, hk⟩ | ⟨rfl, hk⟩
    · refine ⟨[], ⟨0, 12, 15, 21⟩, [⟨0, 12, 19, 44⟩], rfl, (fun _ hz => absurd hz List.not_mem_nil), rfl, by decide, ⟨"java/lang/IndexOutOfBoundsException", (gw3 181 rfl rfl), List.mem_append_left _ (List.mem_of_getElem? (i := 2) rfl)⟩, fun q9 => ?_⟩
      refine px_astorew (i := 5) C dL_criticalAt_15 (by decide) rfl ?_
      refine px_iconst (v := (1 : Int32)) C dL_criticalAt_17 rfl ?_
      exact px_iret C hRt dL_criticalAt_18 rfl rfl hk
    · refine ⟨[⟨0, 12, 15, 21⟩], ⟨0, 12, 19, 44⟩, [], rfl, (List.forall_mem_cons.mpr ⟨Or.inr ⟨by decide, "java/lang/IndexOutOfBoundsException", (gw3 181 rfl rfl), List.mem_of_getElem? (i := 17) rfl⟩, (fun _ hz => absurd hz List.not_mem_nil)⟩), rfl, by decide, ⟨"java/util/NoSuchElementException", (gw4 48 rfl rfl), List.mem_append_left _ (List.mem_of_getElem? (i := 3) rfl)⟩, fun q9 => ?_⟩
      refine px_astorew (i := 5) C dL_criticalAt_19 (by decide) rfl ?_
      refine px_iconst (v := (2 : Int32)) C dL_criticalAt_21 rfl ?_
      exact px_iret C hRt dL_criticalAt_22 rfl rfl hk
  intro r2 μ1 hk
  refine px_i2l C dL_criticalAt_10 ?_
  obtain ⟨o4, hk⟩ := hk
  replace hk := hk _ rfl
  refine px_last 5120 C dL_criticalAt_11 rfl rfl rfl rfl o4 rfl ?_
  refine px_goto (tgt := 23) C dL_criticalAt_12 (by decide) ?_
  refine px_iconst (v := (0 : Int32)) C dL_criticalAt_23 rfl ?_
  exact px_iret C hRt dL_criticalAt_24 rfl rfl hk
