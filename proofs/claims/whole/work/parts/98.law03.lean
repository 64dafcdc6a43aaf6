theorem dL_selfTime_0 : decode cL_selfTime 0 = .ok (.aload_n 2, 1) := by decide +kernel
theorem dL_selfTime_1 : decode cL_selfTime 1 = .ok (.iconst 0, 1) := by decide +kernel
theorem dL_selfTime_2 : decode cL_selfTime 2 = .ok (.aload_n 0, 1) := by decide +kernel
theorem dL_selfTime_3 : decode cL_selfTime 3 = .ok (.iload_n 1, 1) := by decide +kernel
theorem dL_selfTime_4 : decode cL_selfTime 4 = .ok (.invokevirtual 98, 3) := by decide +kernel
theorem dL_selfTime_7 : decode cL_selfTime 7 = .ok (.i2l, 1) := by decide +kernel
theorem dL_selfTime_8 : decode cL_selfTime 8 = .ok (.lastore, 1) := by decide +kernel
theorem dL_selfTime_9 : decode cL_selfTime 9 = .ok (.goto 6, 3) := by decide +kernel
theorem dL_selfTime_12 : decode cL_selfTime 12 = .ok (.astore_n 3, 1) := by decide +kernel
theorem dL_selfTime_13 : decode cL_selfTime 13 = .ok (.iconst 1, 1) := by decide +kernel
theorem dL_selfTime_14 : decode cL_selfTime 14 = .ok (.ireturn, 1) := by decide +kernel
theorem dL_selfTime_15 : decode cL_selfTime 15 = .ok (.iconst 0, 1) := by decide +kernel
theorem dL_selfTime_16 : decode cL_selfTime 16 = .ok (.ireturn, 1) := by decide +kernel
set_option maxRecDepth 100000 in
set_option maxHeartbeats 4000000 in
theorem L_selfTime_ok {l : Launch} {idx : List (Nat × Nat)} {μ : Mem} {a2 : Int32} {P : Int32 → Mem → Prop} {X : String → Mem → Prop} (hl : l.stackTraces = false) (hI : IdxOK idx) (hk : L_selfTime_wp μ a2 P) : PMet l yL_selfTime (.codeWith yL_selfTime cL_selfTime 4 (some .int) [(0, 9, 12, 21)]) 10 1 6 idx [pR 40 0, pI a2, pR 80 0] μ (qI P) X := by
  refine PMetH_of (by decide +kernel) hl hI rfl (Nat.le_of_ble_eq_true rfl) (fun G _ _ C hRt hHR hT => ?_)
  show PW G 1 6 0 [some (pR 40 0), some (pI a2), some (pR 80 0), none] [] μ
  unfold L_selfTime_wp at hk
  refine px_aload_n (i := 2) C dL_selfTime_0 rfl rfl ?_
  refine px_iconst (v := (0 : Int32)) C dL_selfTime_1 rfl ?_
  refine px_aload_n (i := 0) C dL_selfTime_2 rfl rfl ?_
  refine px_iload_n (i := 1) C dL_selfTime_3 rfl rfl ?_
  refine px_callVHi (h := 9) (rc' := 0) (rs' := 0) C (HR_le hHR (Nat.le_of_ble_eq_true rfl)) hT dL_selfTime_4 (gw5 70 rfl rfl) mv_X8_selfTime (w8_selfTime_ok (PCx_l C) (PCx_I C) hk) rfl rfl rfl rfl rfl (Nat.le_of_ble_eq_true rfl) (Nat.le_of_ble_eq_true rfl) (Nat.le_of_ble_eq_true rfl) (Nat.le_of_ble_eq_true rfl) ?_ ?_
  · intro E μ3 hk
    rcases hk with ⟨rfl, hk⟩
    · refine ⟨[], ⟨0, 9, 12, 21⟩, [], rfl, (fun _ hz => absurd hz List.not_mem_nil), rfl, by decide, ⟨"java/lang/IndexOutOfBoundsException", (gw3 181 rfl rfl), List.mem_append_left _ (List.mem_of_getElem? (i := 2) rfl)⟩, fun q9 => ?_⟩
      refine px_astore_nw (i := 3) C dL_selfTime_12 rfl (by decide) rfl ?_
      refine px_iconst (v := (1 : Int32)) C dL_selfTime_13 rfl ?_
      exact px_iret C hRt dL_selfTime_14 rfl rfl hk
  intro r2 μ1 hk
  refine px_i2l C dL_selfTime_7 ?_
  obtain ⟨o4, hk⟩ := hk
  replace hk := hk _ rfl
  refine px_last 5120 C dL_selfTime_8 rfl rfl rfl rfl o4 rfl ?_
  refine px_goto (tgt := 15) C dL_selfTime_9 (by decide) ?_
  refine px_iconst (v := (0 : Int32)) C dL_selfTime_15 rfl ?_
  exact px_iret C hRt dL_selfTime_16 rfl rfl hk
theorem dL_parallel_0 : decode cL_parallel 0 = .ok (.aload_n 3, 1) := by decide +kernel
theorem dL_parallel_1 : decode cL_parallel 1 = .ok (.iconst 0, 1) := by decide +kernel
theorem dL_parallel_2 : decode cL_parallel 2 = .ok (.aload_n 0, 1) := by decide +kernel
theorem dL_parallel_3 : decode cL_parallel 3 = .ok (.iload_n 1, 1) := by decide +kernel
theorem dL_parallel_4 : decode cL_parallel 4 = .ok (.iload_n 2, 1) := by decide +kernel
theorem dL_parallel_5 : decode cL_parallel 5 = .ok (.invokevirtual 101, 3) := by decide +kernel
theorem dL_parallel_8 : decode cL_parallel 8 = .ok (.i2l, 1) := by decide +kernel
theorem dL_parallel_9 : decode cL_parallel 9 = .ok (.lastore, 1) := by decide +kernel
theorem dL_parallel_10 : decode cL_parallel 10 = .ok (.goto 7, 3) := by decide +kernel
theorem dL_parallel_13 : decode cL_parallel 13 = .ok (.astore 4, 2) := by decide +kernel
theorem dL_parallel_15 : decode cL_parallel 15 = .ok (.iconst 1, 1) := by decide +kernel
theorem dL_parallel_16 : decode cL_parallel 16 = .ok (.ireturn, 1) := by decide +kernel
theorem dL_parallel_17 : decode cL_parallel 17 = .ok (.iconst 0, 1) := by decide +kernel
theorem dL_parallel_18 : decode cL_parallel 18 = .ok (.ireturn, 1) := by decide +kernel
set_option maxRecDepth 100000 in
set_option maxHeartbeats 4000000 in
theorem L_parallel_ok {l : Launch} {idx : List (Nat × Nat)} {μ : Mem} {a2 : Int32} {a3 : Int32} {P : Int32 → Mem → Prop} {X : String → Mem → Prop} (hl : l.stackTraces = false) (hI : IdxOK idx) (hk : L_parallel_wp μ a2 a3 P) : PMet l yL_parallel (.codeWith yL_parallel cL_parallel 5 (some .int) [(0, 10, 13, 21)]) 10 1 6 idx [pR 40 0, pI a2, pI a3, pR 80 0] μ (qI P) X := by
  refine PMetH_of (by decide +kernel) hl hI rfl (Nat.le_of_ble_eq_true rfl) (fun G _ _ C hRt hHR hT => ?_)
  show PW G 1 6 0 [some (pR 40 0), some (pI a2), some (pI a3), some (pR 80 0), none] [] μ
  unfold L_parallel_wp at hk
  refine px_aload_n (i := 3) C dL_parallel_0 rfl rfl ?_
  refine px_iconst (v := (0 : Int32)) C dL_parallel_1 rfl ?_
  refine px_aload_n (i := 0) C dL_parallel_2 rfl rfl ?_
  refine px_iload_n (i := 1) C dL_parallel_3 rfl rfl ?_
  refine px_iload_n (i := 2) C dL_parallel_4 rfl rfl ?_
  refine px_callVHi (h := 9) (rc' := 0) (rs' := 0) C (HR_le hHR (Nat.le_of_ble_eq_true rfl)) hT dL_parallel_5 (gw5 86 rfl rfl) mv_X8_parallel (w8_parallel_ok (PCx_l C) (PCx_I C) hk) rfl rfl rfl rfl rfl (Nat.le_of_ble_eq_true rfl) (Nat.le_of_ble_eq_true rfl) (Nat.le_of_ble_eq_true rfl) (Nat.le_of_ble_eq_true rfl) ?_ ?_
  · intro E μ3 hk
    rcases hk with ⟨rfl, hk⟩
    · refine ⟨[], ⟨0, 10, 13, 21⟩, [], rfl, (fun _ hz => absurd hz List.not_mem_nil), rfl, by decide, ⟨"java/lang/IndexOutOfBoundsException", (gw3 181 rfl rfl), List.mem_append_left _ (List.mem_of_getElem? (i := 2) rfl)⟩, fun q9 => ?_⟩
      refine px_astorew (i := 4) C dL_parallel_13 (by decide) rfl ?_
      refine px_iconst (v := (1 : Int32)) C dL_parallel_15 rfl ?_
      exact px_iret C hRt dL_parallel_16 rfl rfl hk
  intro r2 μ1 hk
  refine px_i2l C dL_parallel_8 ?_
  obtain ⟨o4, hk⟩ := hk
  replace hk := hk _ rfl
  refine px_last 5120 C dL_parallel_9 rfl rfl rfl rfl o4 rfl ?_
  refine px_goto (tgt := 17) C dL_parallel_10 (by decide) ?_
  refine px_iconst (v := (0 : Int32)) C dL_parallel_17 rfl ?_
  exact px_iret C hRt dL_parallel_18 rfl rfl hk
theorem dL_isCause_0 : decode cL_isCause 0 = .ok (.aload_n 2, 1) := by decide +kernel
theorem dL_isCause_1 : decode cL_isCause 1 = .ok (.iconst 0, 1) := by decide +kernel
theorem dL_isCause_2 : decode cL_isCause 2 = .ok (.aload_n 0, 1) := by decide +kernel
theorem dL_isCause_3 : decode cL_isCause 3 = .ok (.iload_n 1, 1) := by decide +kernel
theorem dL_isCause_4 : decode cL_isCause 4 = .ok (.invokevirtual 104, 3) := by decide +kernel
theorem dL_isCause_7 : decode cL_isCause 7 = .ok (.ifCond .eq 7, 3) := by decide +kernel
theorem dL_isCause_10 : decode cL_isCause 10 = .ok (.lconst 1, 1) := by decide +kernel
theorem dL_isCause_11 : decode cL_isCause 11 = .ok (.goto 4, 3) := by decide +kernel
theorem dL_isCause_14 : decode cL_isCause 14 = .ok (.lconst 0, 1) := by decide +kernel
theorem dL_isCause_15 : decode cL_isCause 15 = .ok (.lastore, 1) := by decide +kernel
theorem dL_isCause_16 : decode cL_isCause 16 = .ok (.goto 6, 3) := by decide +kernel
theorem dL_isCause_19 : decode cL_isCause 19 = .ok (.astore_n 3, 1) := by decide +kernel
theorem dL_isCause_20 : decode cL_isCause 20 = .ok (.iconst 1, 1) := by decide +kernel
theorem dL_isCause_21 : decode cL_isCause 21 = .ok (.ireturn, 1) := by decide +kernel
theorem dL_isCause_22 : decode cL_isCause 22 = .ok (.iconst 0, 1) := by decide +kernel
theorem dL_isCause_23 : decode cL_isCause 23 = .ok (.ireturn, 1) := by decide +kernel
set_option maxRecDepth 100000 in
set_option maxHeartbeats 4000000 in
theorem L_isCause_ok {l : Launch} {idx : List (Nat × Nat)} {μ : Mem} {a2 : Int32} {P : Int32 → Mem → Prop} {X : String → Mem → Prop} (hl : l.stackTraces = false) (hI : IdxOK idx) (hk : L_isCause_wp μ a2 P) : PMet l yL_isCause (.codeWith yL_isCause cL_isCause 4 (some .int) [(0, 16, 19, 21)]) 10 1 6 idx [pR 40 0, pI a2, pR 80 0] μ (qI P) X := by
  refine PMetH_of (by decide +kernel) hl hI rfl (Nat.le_of_ble_eq_true rfl) (fun G _ _ C hRt hHR hT => ?_)
  show PW G 1 6 0 [some (pR 40 0), some (pI a2), some (pR 80 0), none] [] μ
  unfold L_isCause_wp at hk
  refine px_aload_n (i := 2) C dL_isCause_0 rfl rfl ?_
  refine px_iconst (v := (0 : Int32)) C dL_isCause_1 rfl ?_
  refine px_aload_n (i := 0) C dL_isCause_2 rfl rfl ?_
  refine px_iload_n (i := 1) C dL_isCause_3 rfl rfl ?_
  refine px_callVHi (h := 9) (rc' := 0) (rs' := 0) C (HR_le hHR (Nat.le_of_ble_eq_true rfl)) hT dL_isCause_4 (gw5 97 rfl rfl) mv_X8_isCause (w8_isCause_ok (PCx_l C) (PCx_I C) hk) rfl rfl rfl rfl rfl (Nat.le_of_ble_eq_true rfl) (Nat.le_of_ble_eq_true rfl) (Nat.le_of_ble_eq_true rfl) (Nat.le_of_ble_eq_true rfl) ?_ ?_
  · intro E μ3 hk
    rcases hk with ⟨rfl, hk⟩
    · refine ⟨[], ⟨0, 16, 19, 21⟩, [], rfl, (fun _ hz => absurd hz List.not_mem_nil), rfl, by decide, ⟨"java/lang/IndexOutOfBoundsException", (gw3 181 rfl rfl), List.mem_append_left _ (List.mem_of_getElem? (i := 2) rfl)⟩, fun q9 => ?_⟩
      refine px_astore_nw (i := 3) C dL_isCause_19 rfl (by decide) rfl ?_
      refine px_iconst (v := (1 : Int32)) C dL_isCause_20 rfl ?_
      exact px_iret C hRt dL_isCause_21 rfl rfl hk
  intro r2 μ1 hk
  refine px_if_eq (tgt := 14) C dL_isCause_7 (by decide) (fun c8 => ?_) (fun c8 => ?_)
  · replace hk := hk.1 c8
    refine px_lconst (v := (0 : Int32)) C dL_isCause_14 rfl ?_
    obtain ⟨o4, hk⟩ := hk
    replace hk := hk _ rfl
    refine px_last 5120 C dL_isCause_15 rfl rfl rfl rfl o4 rfl ?_
    refine px_goto (tgt := 22) C dL_isCause_16 (by decide) ?_
    refine px_iconst (v := (0 : Int32)) C dL_isCause_22 rfl ?_
    exact px_iret C hRt dL_isCause_23 rfl rfl hk
  · replace hk := hk.2 c8
    refine px_lconst (v := (1 : Int32)) C dL_isCause_10 rfl ?_
    refine px_goto (tgt := 15) C dL_isCause_11 (by decide) ?_
    obtain ⟨o6, hk⟩ := hk
    replace hk := hk _ rfl
    refine px_last 5120 C dL_isCause_15 rfl rfl rfl rfl o6 rfl ?_
    refine px_goto (tgt := 22) C dL_isCause_16 (by decide) ?_
    refine px_iconst (v := (0 : Int32)) C dL_isCause_22 rfl ?_
    exact px_iret C hRt dL_isCause_23 rfl rfl hk
theorem dL_cause_0 : decode cL_cause 0 = .ok (.aload_n 3, 1) := by decide +kernel
theorem dL_cause_1 : decode cL_cause 1 = .ok (.iconst 0, 1) := by decide +kernel
theorem dL_cause_2 : decode cL_cause 2 = .ok (.aload_n 0, 1) := by decide +kernel
theorem dL_cause_3 : decode cL_cause 3 = .ok (.iload_n 1, 1) := by decide +kernel
theorem dL_cause_4 : decode cL_cause 4 = .ok (.iload_n 2, 1) := by decide +kernel
theorem dL_cause_5 : decode cL_cause 5 = .ok (.invokevirtual 107, 3) := by decide +kernel
theorem dL_cause_8 : decode cL_cause 8 = .ok (.i2l, 1) := by decide +kernel
theorem dL_cause_9 : decode cL_cause 9 = .ok (.lastore, 1) := by decide +kernel
theorem dL_cause_10 : decode cL_cause 10 = .ok (.goto 11, 3) := by decide +kernel
theorem dL_cause_13 : decode cL_cause 13 = .ok (.astore 4, 2) := by decide +kernel
theorem dL_cause_15 : decode cL_cause 15 = .ok (.iconst 1, 1) := by decide +kernel
theorem dL_cause_16 : decode cL_cause 16 = .ok (.ireturn, 1) := by decide +kernel
theorem dL_cause_17 : decode cL_cause 17 = .ok (.astore 4, 2) := by decide +kernel
theorem dL_cause_19 : decode cL_cause 19 = .ok (.iconst 2, 1) := by decide +kernel
theorem dL_cause_20 : decode cL_cause 20 = .ok (.ireturn, 1) := by decide +kernel
theorem dL_cause_21 : decode cL_cause 21 = .ok (.iconst 0, 1) := by decide +kernel
theorem dL_cause_22 : decode cL_cause 22 = .ok (.ireturn, 1) := by decide +kernel
set_option maxRecDepth 100000 in
set_option maxHeartbeats 4000000 in
theorem L_cause_ok {l : Launch} {idx : List (Nat × Nat)} {μ : Mem} {a2 : Int32} {a3 : Int32} {P : Int32 → Mem → Prop} {X : String → Mem → Prop} (hl : l.stackTraces = false) (hI : IdxOK idx) (hk : L_cause_wp μ a2 a3 P) : PMet l yL_cause (.codeWith yL_cause cL_cause 5 (some .int) [(0, 10, 13, 21), (0, 10, 17, 44)]) 10 2 12 idx [pR 40 0, pI a2, pI a3, pR 80 0] μ (qI P) X := by
  refine PMetH_of (by decide +kernel) hl hI rfl (Nat.le_of_ble_eq_true rfl) (fun G _ _ C hRt hHR hT => ?_)
  show PW G 2 12 0 [some (pR 40 0), some (pI a2), some (pI a3), some (pR 80 0), none] [] μ
  unfold L_cause_wp at hk
  refine px_aload_n (i := 3) C dL_cause_0 rfl rfl ?_
  refine px_iconst (v := (0 : Int32)) C dL_cause_1 rfl ?_
  refine px_aload_n (i := 0) C dL_cause_2 rfl rfl ?_
  refine px_iload_n (i := 1) C dL_cause_3 rfl rfl ?_
  refine px_iload_n (i := 2) C dL_cause_4 rfl rfl ?_
  refine px_callVHi (h := 9) (rc' := 0) (rs' := 0) C (HR_le hHR (Nat.le_of_ble_eq_true rfl)) hT dL_cause_5 (gw5 109 rfl rfl) mv_X8_cause (w8_cause_ok (PCx_l C) (PCx_I C) hk) rfl rfl rfl rfl rfl (Nat.le_of_ble_eq_true rfl) (Nat.le_of_ble_eq_true rfl) (Nat.le_of_ble_eq_true rfl) (Nat.le_of_ble_eq_true rfl) ?_ ?_
  · intro E μ3 hk
    rcases hk with ⟨rfl, hk⟩ | ⟨rfl, hk⟩
    · refine ⟨[], ⟨0, 10, 13, 21⟩, [⟨0, 10, 17, 44⟩], rfl, (fun _ hz => absurd hz List.not_mem_nil), rfl, by decide, ⟨"java/lang/IndexOutOfBoundsException", (gw3 181 rfl rfl), List.mem_append_left _ (List.mem_of_getElem? (i := 2) rfl)⟩, fun q9 => ?_⟩
      refine px_astorew (i := 4) C dL_cause_13 (by decide) rfl ?_
      refine px_iconst (v := (1 : Int32)) C dL_cause_15 rfl ?_
      exact px_iret C hRt dL_cause_16 rfl rfl hk
    · refine ⟨[⟨0, 10, 13, 21⟩], ⟨0, 10, 17, 44⟩, [], rfl, (List.forall_mem_cons.mpr ⟨Or.inr ⟨by decide, "java/lang/IndexOutOfBoundsException", (gw3 181 rfl rfl), List.mem_of_getElem? (i := 17) rfl⟩, (fun _ hz => absurd hz List.not_mem_nil)⟩), rfl, by decide, ⟨"java/util/NoSuchElementException", (gw4 48 rfl rfl), List.mem_append_left _ (List.mem_of_getElem? (i := 3) rfl)⟩, fun q9 => ?_⟩
      refine px_astorew (i := 4) C dL_cause_17 (by decide) rfl ?_
      refine px_iconst (v := (2 : Int32)) C dL_cause_19 rfl ?_
      exact px_iret C hRt dL_cause_20 rfl rfl hk
  intro r2 μ1 hk
  refine px_i2l C dL_cause_8 ?_
  obtain ⟨o4, hk⟩ := hk
  replace hk := hk _ rfl
  refine px_last 5120 C dL_cause_9 rfl rfl rfl rfl o4 rfl ?_
  refine px_goto (tgt := 21) C dL_cause_10 (by decide) ?_
  refine px_iconst (v := (0 : Int32)) C dL_cause_21 rfl ?_
  exact px_iret C hRt dL_cause_22 rfl rfl hk
theorem dL_errorShare_0 : decode cL_errorShare 0 = .ok (.aload_n 2, 1) := by decide +kernel
theorem dL_errorShare_1 : decode cL_errorShare 1 = .ok (.iconst 0, 1) := by decide +kernel
theorem dL_errorShare_2 : decode cL_errorShare 2 = .ok (.aload_n 0, 1) := by decide +kernel
theorem dL_errorShare_3 : decode cL_errorShare 3 = .ok (.iload_n 1, 1) := by decide +kernel
theorem dL_errorShare_4 : decode cL_errorShare 4 = .ok (.invokevirtual 110, 3) := by decide +kernel
theorem dL_errorShare_7 : decode cL_errorShare 7 = .ok (.dastore, 1) := by decide +kernel
theorem dL_errorShare_8 : decode cL_errorShare 8 = .ok (.goto 9, 3) := by decide +kernel
theorem dL_errorShare_11 : decode cL_errorShare 11 = .ok (.astore_n 3, 1) := by decide +kernel
theorem dL_errorShare_12 : decode cL_errorShare 12 = .ok (.iconst 1, 1) := by decide +kernel
theorem dL_errorShare_13 : decode cL_errorShare 13 = .ok (.ireturn, 1) := by decide +kernel
theorem dL_errorShare_14 : decode cL_errorShare 14 = .ok (.astore_n 3, 1) := by decide +kernel
theorem dL_errorShare_15 : decode cL_errorShare 15 = .ok (.iconst 2, 1) := by decide +kernel
theorem dL_errorShare_16 : decode cL_errorShare 16 = .ok (.ireturn, 1) := by decide +kernel
theorem dL_errorShare_17 : decode cL_errorShare 17 = .ok (.iconst 0, 1) := by decide +kernel
theorem dL_errorShare_18 : decode cL_errorShare 18 = .ok (.ireturn, 1) := by decide +kernel
set_option maxRecDepth 100000 in
set_option maxHeartbeats 4000000 in
theorem L_errorShare_ok {l : Launch} {idx : List (Nat × Nat)} {μ : Mem} {a2 : Int32} {P : Int32 → Mem → Prop} {X : String → Mem → Prop} (hl : l.stackTraces = false) (hI : IdxOK idx) (hk : L_errorShare_wp μ a2 P) : PMet l yL_errorShare (.codeWith yL_errorShare cL_errorShare 4 (some .int) [(0, 8, 11, 21), (0, 8, 14, 114)]) 10 2 12 idx [pR 40 0, pI a2, pR 81 0] μ (qI P) X := by
  refine PMetH_of (by decide +kernel) hl hI rfl (Nat.le_of_ble_eq_true rfl) (fun G _ _ C hRt hHR hT => ?_)
  show PW G 2 12 0 [some (pR 40 0), some (pI a2), some (pR 81 0), none] [] μ
  unfold L_errorShare_wp at hk
  refine px_aload_n (i := 2) C dL_errorShare_0 rfl rfl ?_
  refine px_iconst (v := (0 : Int32)) C dL_errorShare_1 rfl ?_
  refine px_aload_n (i := 0) C dL_errorShare_2 rfl rfl ?_
  refine px_iload_n (i := 1) C dL_errorShare_3 rfl rfl ?_
  refine px_callVHd (h := 9) (rc' := 0) (rs' := 0) C (HR_le hHR (Nat.le_of_ble_eq_true rfl)) hT dL_errorShare_4 (gw5 136 rfl rfl) mv_X8_errorShare (w8_errorShare_ok (PCx_l C) (PCx_I C) hk) rfl rfl rfl rfl rfl (Nat.le_of_ble_eq_true rfl) (Nat.le_of_ble_eq_true rfl) (Nat.le_of_ble_eq_true rfl) (Nat.le_of_ble_eq_true rfl) ?_ ?_
  · intro E μ3 hk
    rcases hk with ⟨rfl, hk⟩ | ⟨rfl, hk⟩
    · refine ⟨[], ⟨0, 8, 11, 21⟩, [⟨0, 8, 14, 114⟩], rfl, (fun _ hz => absurd hz List.not_mem_nil), rfl, by decide, ⟨"java/lang/IndexOutOfBoundsException", (gw3 181 rfl rfl), List.mem_append_left _ (List.mem_of_getElem? (i := 2) rfl)⟩, fun q9 => ?_⟩
      refine px_astore_nw (i := 3) C dL_errorShare_11 rfl (by decide) rfl ?_
      refine px_iconst (v := (1 : Int32)) C dL_errorShare_12 rfl ?_
      exact px_iret C hRt dL_errorShare_13 rfl rfl hk
    · refine ⟨[⟨0, 8, 11, 21⟩], ⟨0, 8, 14, 114⟩, [], rfl, (List.forall_mem_cons.mpr ⟨Or.inr ⟨by decide, "java/lang/IndexOutOfBoundsException", (gw3 181 rfl rfl), List.mem_of_getElem? (i := 22) rfl⟩, (fun _ hz => absurd hz List.not_mem_nil)⟩), rfl, by decide, ⟨"java/lang/ArithmeticException", (gw5 122 rfl rfl), List.mem_append_left _ (List.mem_of_getElem? (i := 4) rfl)⟩, fun q9 => ?_⟩
      refine px_astore_nw (i := 3) C dL_errorShare_14 rfl (by decide) rfl ?_
      refine px_iconst (v := (2 : Int32)) C dL_errorShare_15 rfl ?_
      exact px_iret C hRt dL_errorShare_16 rfl rfl hk
  intro r2 μ1 hk
  obtain ⟨o4, hk⟩ := hk
  replace hk := hk _ rfl
  refine px_dast 5184 C dL_errorShare_7 rfl rfl rfl rfl o4 ?_
  refine px_goto (tgt := 17) C dL_errorShare_8 (by decide) ?_
  refine px_iconst (v := (0 : Int32)) C dL_errorShare_17 rfl ?_
  exact px_iret C hRt dL_errorShare_18 rfl rfl hk
theorem dL_service_0 : decode cL_service 0 = .ok (.aload_n 3, 1) := by decide +kernel
theorem dL_service_1 : decode cL_service 1 = .ok (.iconst 0, 1) := by decide +kernel
theorem dL_service_2 : decode cL_service 2 = .ok (.aload_n 0, 1) := by decide +kernel
theorem dL_service_3 : decode cL_service 3 = .ok (.iload_n 1, 1) := by decide +kernel
theorem dL_service_4 : decode cL_service 4 = .ok (.iload_n 2, 1) := by decide +kernel
theorem dL_service_5 : decode cL_service 5 = .ok (.invokevirtual 116, 3) := by decide +kernel
theorem dL_service_8 : decode cL_service 8 = .ok (.i2l, 1) := by decide +kernel
theorem dL_service_9 : decode cL_service 9 = .ok (.lastore, 1) := by decide +kernel
theorem dL_service_10 : decode cL_service 10 = .ok (.goto 11, 3) := by decide +kernel
theorem dL_service_13 : decode cL_service 13 = .ok (.astore 4, 2) := by decide +kernel
theorem dL_service_15 : decode cL_service 15 = .ok (.iconst 1, 1) := by decide +kernel
theorem dL_service_16 : decode cL_service 16 = .ok (.ireturn, 1) := by decide +kernel
theorem dL_service_17 : decode cL_service 17 = .ok (.astore 4, 2) := by decide +kernel
theorem dL_service_19 : decode cL_service 19 = .ok (.iconst 2, 1) := by decide +kernel
theorem dL_service_20 : decode cL_service 20 = .ok (.ireturn, 1) := by decide +kernel
theorem dL_service_21 : decode cL_service 21 = .ok (.iconst 0, 1) := by decide +kernel
theorem dL_service_22 : decode cL_service 22 = .ok (.ireturn, 1) := by decide +kernel
set_option maxRecDepth 100000 in
set_option maxHeartbeats 4000000 in
theorem L_service_ok {l : Launch} {idx : List (Nat × Nat)} {μ : Mem} {a2 : Int32} {a3 : Int32} {P : Int32 → Mem → Prop} {X : String → Mem → Prop} (hl : l.stackTraces = false) (hI : IdxOK idx) (hk : L_service_wp μ a2 a3 P) : PMet l yL_service (.codeWith yL_service cL_service 5 (some .int) [(0, 10, 13, 21), (0, 10, 17, 13)]) 10 2 12 idx [pR 40 0, pI a2, pI a3, pR 80 0] μ (qI P) X := by
  refine PMetH_of (by decide +kernel) hl hI rfl (Nat.le_of_ble_eq_true rfl) (fun G _ _ C hRt hHR hT => ?_)
  show PW G 2 12 0 [some (pR 40 0), some (pI a2), some (pI a3), some (pR 80 0), none] [] μ
  unfold L_service_wp at hk
  refine px_aload_n (i := 3) C dL_service_0 rfl rfl ?_
  refine px_iconst (v := (0 : Int32)) C dL_service_1 rfl ?_
  refine px_aload_n (i := 0) C dL_service_2 rfl rfl ?_
  refine px_iload_n (i := 1) C dL_service_3 rfl rfl ?_
  refine px_iload_n (i := 2) C dL_service_4 rfl rfl ?_
  refine px_callVHi (h := 9) (rc' := 0) (rs' := 0) C (HR_le hHR (Nat.le_of_ble_eq_true rfl)) hT dL_service_5 (gw5 154 rfl rfl) mv_X8_service (w8_service_ok (PCx_l C) (PCx_I C) hk) rfl rfl rfl rfl rfl (Nat.le_of_ble_eq_true rfl) (Nat.le_of_ble_eq_true rfl) (Nat.le_of_ble_eq_true rfl) (Nat.le_of_ble_eq_true rfl) ?_ ?_
  · intro E μ3 hk
    rcases hk with ⟨rfl, hk⟩ | ⟨rfl, hk⟩
    · refine ⟨[], ⟨0, 10, 13, 21⟩, [⟨0, 10, 17, 13⟩], rfl, (fun _ hz => absurd hz List.not_mem_nil), rfl, by decide, ⟨"java/lang/IndexOutOfBoundsException", (gw3 181 rfl rfl), List.mem_append_left _ (List.mem_of_getElem? (i := 2) rfl)⟩, fun q9 => ?_⟩
      refine px_astorew (i := 4) C dL_service_13 (by decide) rfl ?_
      refine px_iconst (v := (1 : Int32)) C dL_service_15 rfl ?_
      exact px_iret C hRt dL_service_16 rfl rfl hk
    · refine ⟨[⟨0, 10, 13, 21⟩], ⟨0, 10, 17, 13⟩, [], rfl, (List.forall_mem_cons.mpr ⟨Or.inr ⟨by decide, "java/lang/IndexOutOfBoundsException", (gw3 181 rfl rfl), List.mem_of_getElem? (i := 1) rfl⟩, (fun _ hz => absurd hz List.not_mem_nil)⟩), rfl, by decide, ⟨"java/lang/IllegalArgumentException", (gw3 59 rfl rfl), List.mem_append_left _ (List.mem_of_getElem? (i := 0) rfl)⟩, fun q9 => ?_⟩
      refine px_astorew (i := 4) C dL_service_17 (by decide) rfl ?_
      refine px_iconst (v := (2 : Int32)) C dL_service_19 rfl ?_
      exact px_iret C hRt dL_service_20 rfl rfl hk
  intro r2 μ1 hk
  refine px_i2l C dL_service_8 ?_
  obtain ⟨o4, hk⟩ := hk
  replace hk := hk _ rfl
  refine px_last 5120 C dL_service_9 rfl rfl rfl rfl o4 rfl ?_
  refine px_goto (tgt := 21) C dL_service_10 (by decide) ?_
  refine px_iconst (v := (0 : Int32)) C dL_service_21 rfl ?_
  exact px_iret C hRt dL_service_22 rfl rfl hk
theorem dL_quantile_0 : decode cL_quantile 0 = .ok (.aload_n 3, 1) := by decide +kernel
theorem dL_quantile_1 : decode cL_quantile 1 = .ok (.iconst 0, 1) := by decide +kernel
theorem dL_quantile_2 : decode cL_quantile 2 = .ok (.aload_n 0, 1) := by decide +kernel
theorem dL_quantile_3 : decode cL_quantile 3 = .ok (.iload_n 1, 1) := by decide +kernel
theorem dL_quantile_4 : decode cL_quantile 4 = .ok (.iload_n 2, 1) := by decide +kernel
theorem dL_quantile_5 : decode cL_quantile 5 = .ok (.invokevirtual 119, 3) := by decide +kernel
theorem dL_quantile_8 : decode cL_quantile 8 = .ok (.i2l, 1) := by decide +kernel
theorem dL_quantile_9 : decode cL_quantile 9 = .ok (.lastore, 1) := by decide +kernel
theorem dL_quantile_10 : decode cL_quantile 10 = .ok (.goto 15, 3) := by decide +kernel
theorem dL_quantile_13 : decode cL_quantile 13 = .ok (.astore 4, 2) := by decide +kernel
theorem dL_quantile_15 : decode cL_quantile 15 = .ok (.iconst 1, 1) := by decide +kernel
theorem dL_quantile_16 : decode cL_quantile 16 = .ok (.ireturn, 1) := by decide +kernel
theorem dL_quantile_17 : decode cL_quantile 17 = .ok (.astore 4, 2) := by decide +kernel
theorem dL_quantile_19 : decode cL_quantile 19 = .ok (.iconst 2, 1) := by decide +kernel
theorem dL_quantile_20 : decode cL_quantile 20 = .ok (.ireturn, 1) := by decide +kernel
theorem dL_quantile_21 : decode cL_quantile 21 = .ok (.astore 4, 2) := by decide +kernel
theorem dL_quantile_23 : decode cL_quantile 23 = .ok (.iconst 3, 1) := by decide +kernel
theorem dL_quantile_24 : decode cL_quantile 24 = .ok (.ireturn, 1) := by decide +kernel
theorem dL_quantile_25 : decode cL_quantile 25 = .ok (.iconst 0, 1) := by decide +kernel
theorem dL_quantile_26 : decode cL_quantile 26 = .ok (.ireturn, 1) := by decide +kernel
set_option maxRecDepth 100000 in
set_option maxHeartbeats 4000000 in
theorem L_quantile_ok {l : Launch} {idx : List (Nat × Nat)} {μ : Mem} {a2 : Int32} {a3 : Int32} {P : Int32 → Mem → Prop} {X : String → Mem → Prop} (hl : l.stackTraces = false) (hI : IdxOK idx) (hk : L_quantile_wp μ a2 a3 P) : PMet l yL_quantile (.codeWith yL_quantile cL_quantile 5 (some .int) [(0, 10, 13, 21), (0, 10, 17, 13), (0, 10, 21, 44)]) 10 2 12 idx [pR 40 0, pI a2, pI a3, pR 80 0] μ (qI P) X := by
  refine PMetH_of (by decide +kernel) hl hI rfl (Nat.le_of_ble_eq_true rfl) (fun G _ _ C hRt hHR hT => ?_)
  show PW G 2 12 0 [some (pR 40 0), some (pI a2), some (pI a3), some (pR 80 0), none] [] μ
  unfold L_quantile_wp at hk
  refine px_aload_n (i := 3) C dL_quantile_0 rfl rfl ?_
  refine px_iconst (v := (0 : Int32)) C dL_quantile_1 rfl ?_
  refine px_aload_n (i := 0) C dL_quantile_2 rfl rfl ?_
  refine px_iload_n (i := 1) C dL_quantile_3 rfl rfl ?_
  refine px_iload_n (i := 2) C dL_quantile_4 rfl rfl ?_
  refine px_callVHi (h := 9) (rc' := 0) (rs' := 0) C (HR_le hHR (Nat.le_of_ble_eq_true rfl)) hT dL_quantile_5 (gw5 185 rfl rfl) mv_X8_quantile (w8_quantile_ok (PCx_l C) (PCx_I C) hk) rfl rfl rfl rfl rfl (Nat.le_of_ble_eq_true rfl) (Nat.le_of_ble_eq_true rfl) (Nat.le_of_ble_eq_true rfl) (Nat.le_of_ble_eq_true rfl) ?_ ?_
  · intro E μ3 hk
    rcases hk with ⟨rfl, hk⟩ | ⟨rfl, hk⟩ | ⟨rfl, hk⟩
    · refine ⟨[], ⟨0, 10, 13, 21⟩, [⟨0, 10, 17, 13⟩, ⟨0, 10, 21, 44⟩], rfl, (fun _ hz => absurd hz List.not_mem_nil), rfl, by decide, ⟨"java/lang/IndexOutOfBoundsException", (gw3 181 rfl rfl), List.mem_append_left _ (List.mem_of_getElem? (i := 2) rfl)⟩, fun q9 => ?_⟩
      refine px_astorew (i := 4) C dL_quantile_13 (by decide) rfl ?_
      refine px_iconst (v := (1 : Int32)) C dL_quantile_15 rfl ?_
      exact px_iret C hRt dL_quantile_16 rfl rfl hk
    · refine ⟨[⟨0, 10, 13, 21⟩], ⟨0, 10, 17, 13⟩, [⟨0, 10, 21, 44⟩], rfl, (List.forall_mem_cons.mpr ⟨Or.inr ⟨by decide, "java/lang/IndexOutOfBoundsException", (gw3 181 rfl rfl), List.mem_of_getElem? (i := 1) rfl⟩, (fun _ hz => absurd hz List.not_mem_nil)⟩), rfl, by decide, ⟨"java/lang/IllegalArgumentException", (gw3 59 rfl rfl), List.mem_append_left _ (List.mem_of_getElem? (i := 0) rfl)⟩, fun q9 => ?_⟩
      refine px_astorew (i := 4) C dL_quantile_17 (by decide) rfl ?_
      refine px_iconst (v := (2 : Int32)) C dL_quantile_19 rfl ?_
      exact px_iret C hRt dL_quantile_20 rfl rfl hk
    · refine ⟨[⟨0, 10, 13, 21⟩, ⟨0, 10, 17, 13⟩], ⟨0, 10, 21, 44⟩, [], rfl, (List.forall_mem_cons.mpr ⟨Or.inr ⟨by decide, "java/lang/IndexOutOfBoundsException", (gw3 181 rfl rfl), List.mem_of_getElem? (i := 17) rfl⟩, (List.forall_mem_cons.mpr ⟨Or.inr ⟨by decide, "java/lang/IllegalArgumentException", (gw3 59 rfl rfl), List.mem_of_getElem? (i := 15) rfl⟩, (fun _ hz => absurd hz List.not_mem_nil)⟩)⟩), rfl, by decide, ⟨"java/util/NoSuchElementException", (gw4 48 rfl rfl), List.mem_append_left _ (List.mem_of_getElem? (i := 3) rfl)⟩, fun q9 => ?_⟩
      refine px_astorew (i := 4) C dL_quantile_21 (by decide) rfl ?_
      refine px_iconst (v := (3 : Int32)) C dL_quantile_23 rfl ?_
      exact px_iret C hRt dL_quantile_24 rfl rfl hk
  intro r2 μ1 hk
  refine px_i2l C dL_quantile_8 ?_
  obtain ⟨o4, hk⟩ := hk
  replace hk := hk _ rfl
  refine px_last 5120 C dL_quantile_9 rfl rfl rfl rfl o4 rfl ?_
  refine px_goto (tgt := 25) C dL_quantile_10 (by decide) ?_
  refine px_iconst (v := (0 : Int32)) C dL_quantile_25 rfl ?_
  exact px_iret C hRt dL_quantile_26 rfl rfl hk
theorem dL_extent_0 : decode cL_extent 0 = .ok (.aload_n 2, 1) := by decide +kernel
theorem dL_extent_1 : decode cL_extent 1 = .ok (.iconst 0, 1) := by decide +kernel
theorem dL_extent_2 : decode cL_extent 2 = .ok (.aload_n 0, 1) := by decide +kernel
theorem dL_extent_3 : decode cL_extent 3 = .ok (.iload_n 1, 1) := by decide +kernel
theorem dL_extent_4 : decode cL_extent 4 = .ok (.invokevirtual 122, 3) := by decide +kernel
theorem dL_extent_7 : decode cL_extent 7 = .ok (.i2l, 1) := by decide +kernel
theorem dL_extent_8 : decode cL_extent 8 = .ok (.lastore, 1) := by decide +kernel
theorem dL_extent_9 : decode cL_extent 9 = .ok (.goto 9, 3) := by decide +kernel
theorem dL_extent_12 : decode cL_extent 12 = .ok (.astore_n 3, 1) := by decide +kernel
theorem dL_extent_13 : decode cL_extent 13 = .ok (.iconst 1, 1) := by decide +kernel
theorem dL_extent_14 : decode cL_extent 14 = .ok (.ireturn, 1) := by decide +kernel
theorem dL_extent_15 : decode cL_extent 15 = .ok (.astore_n 3, 1) := by decide +kernel
theorem dL_extent_16 : decode cL_extent 16 = .ok (.iconst 2, 1) := by decide +kernel
theorem dL_extent_17 : decode cL_extent 17 = .ok (.ireturn, 1) := by decide +kernel
theorem dL_extent_18 : decode cL_extent 18 = .ok (.iconst 0, 1) := by decide +kernel
theorem dL_extent_19 : decode cL_extent 19 = .ok (.ireturn, 1) := by decide +kernel
set_option maxRecDepth 100000 in
set_option maxHeartbeats 4000000 in
theorem L_extent_ok {l : Launch} {idx : List (Nat × Nat)} {μ : Mem} {a2 : Int32} {P : Int32 → Mem → Prop} {X : String → Mem → Prop} (hl : l.stackTraces = false) (hI : IdxOK idx) (hk : L_extent_wp μ a2 P) : PMet l yL_extent (.codeWith yL_extent cL_extent 4 (some .int) [(0, 9, 12, 21), (0, 9, 15, 44)]) 10 2 12 idx [pR 40 0, pI a2, pR 80 0] μ (qI P) X := by
  refine PMetH_of (by decide +kernel) hl hI rfl (Nat.le_of_ble_eq_true rfl) (fun G _ _ C hRt hHR hT => ?_)
  show PW G 2 12 0 [some (pR 40 0), some (pI a2), some (pR 80 0), none] [] μ
  unfold L_extent_wp at hk
  refine px_aload_n (i := 2) C dL_extent_0 rfl rfl ?_
  refine px_iconst (v := (0 : Int32)) C dL_extent_1 rfl ?_
  refine px_aload_n (i := 0) C dL_extent_2 rfl rfl ?_
  refine px_iload_n (i := 1) C dL_extent_3 rfl rfl ?_
  refine px_callVHi (h := 9) (rc' := 0) (rs' := 0) C (HR_le hHR (Nat.le_of_ble_eq_true rfl)) hT dL_extent_4 (gw5 203 rfl rfl) mv_X8_extent (w8_extent_ok (PCx_l C) (PCx_I C) hk) rfl rfl rfl rfl rfl (Nat.le_of_ble_eq_true rfl) (Nat.le_of_ble_eq_true rfl) (Nat.le_of_ble_eq_true rfl) (Nat.le_of_ble_eq_true rfl) ?_ ?_
  · intro E μ3 hk
    rcases hk with ⟨rfl, hk⟩ | ⟨rfl, hk⟩
    · refine ⟨[], ⟨0, 9, 12, 21⟩, [⟨0, 9, 15, 44⟩], rfl, (fun _ hz => absurd hz List.not_mem_nil), rfl, by decide, ⟨"java/lang/IndexOutOfBoundsException", (gw3 181 rfl rfl), List.mem_append_left _ (List.mem_of_getElem? (i := 2) rfl)⟩, fun q9 => ?_⟩
      refine px_astore_nw (i := 3) C dL_extent_12 rfl (by decide) rfl ?_
      refine px_iconst (v := (1 : Int32)) C dL_extent_13 rfl ?_
      exact px_iret C hRt dL_extent_14 rfl rfl hk
    · refine ⟨[⟨0, 9, 12, 21⟩], ⟨0, 9, 15, 44⟩, [], rfl, (List.forall_mem_cons.mpr ⟨Or.inr ⟨by decide, "java/lang/IndexOutOfBoundsException", (gw3 181 rfl rfl), List.mem_of_getElem? (i := 17) rfl⟩, (fun _ hz => absurd hz List.not_mem_nil)⟩), rfl, by decide, ⟨"java/util/NoSuchElementException", (gw4 48 rfl rfl), List.mem_append_left _ (List.mem_of_getElem? (i := 3) rfl)⟩, fun q9 => ?_⟩
      refine px_astore_nw (i := 3) C dL_extent_15 rfl (by decide) rfl ?_
      refine px_iconst (v := (2 : Int32)) C dL_extent_16 rfl ?_
      exact px_iret C hRt dL_extent_17 rfl rfl hk
  intro r2 μ1 hk
  refine px_i2l C dL_extent_7 ?_
  obtain ⟨o4, hk⟩ := hk
  replace hk := hk _ rfl
  refine px_last 5120 C dL_extent_8 rfl rfl rfl rfl o4 rfl ?_
  refine px_goto (tgt := 18) C dL_extent_9 (by decide) ?_
  refine px_iconst (v := (0 : Int32)) C dL_extent_18 rfl ?_
  exact px_iret C hRt dL_extent_19 rfl rfl hk
