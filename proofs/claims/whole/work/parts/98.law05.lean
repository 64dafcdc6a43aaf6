theorem dL_append_0 : decode cL_append 0 = .ok (.aload_n 2, 1) := by decide +kernel
theorem dL_append_1 : decode cL_append 1 = .ok (.iconst 0, 1) := by decide +kernel
theorem dL_append_2 : decode cL_append 2 = .ok (.aload_n 0, 1) := by decide +kernel
theorem dL_append_3 : decode cL_append 3 = .ok (.iload_n 1, 1) := by decide +kernel
theorem dL_append_4 : decode cL_append 4 = .ok (.invokevirtual 152, 3) := by decide +kernel
theorem dL_append_7 : decode cL_append 7 = .ok (.i2l, 1) := by decide +kernel
theorem dL_append_8 : decode cL_append 8 = .ok (.lastore, 1) := by decide +kernel
theorem dL_append_9 : decode cL_append 9 = .ok (.goto 9, 3) := by decide +kernel
theorem dL_append_12 : decode cL_append 12 = .ok (.astore_n 3, 1) := by decide +kernel
theorem dL_append_13 : decode cL_append 13 = .ok (.iconst 1, 1) := by decide +kernel
theorem dL_append_14 : decode cL_append 14 = .ok (.ireturn, 1) := by decide +kernel
theorem dL_append_15 : decode cL_append 15 = .ok (.astore_n 3, 1) := by decide +kernel
theorem dL_append_16 : decode cL_append 16 = .ok (.iconst 2, 1) := by decide +kernel
theorem dL_append_17 : decode cL_append 17 = .ok (.ireturn, 1) := by decide +kernel
theorem dL_append_18 : decode cL_append 18 = .ok (.iconst 0, 1) := by decide +kernel
theorem dL_append_19 : decode cL_append 19 = .ok (.ireturn, 1) := by decide +kernel
set_option maxRecDepth 100000 in
set_option maxHeartbeats 4000000 in
theorem L_append_ok {l : Launch} {idx : List (Nat × Nat)} {μ : Mem} {a2 : Int32} {P : Int32 → Mem → Prop} {X : String → Mem → Prop} (hl : l.stackTraces = false) (hI : IdxOK idx) (hk : L_append_wp μ a2 P) : PMet l yL_append (.codeWith yL_append cL_append 4 (some .int) [(0, 9, 12, 13), (0, 9, 15, 15)]) 9 1 6 idx [pR 40 0, pI a2, pR 80 0] μ (qI P) X := by
  refine PMetH_of (by decide +kernel) hl hI rfl (Nat.le_of_ble_eq_true rfl) (fun G _ _ C hRt hHR hT => ?_)
  show PW G 1 6 0 [some (pR 40 0), some (pI a2), some (pR 80 0), none] [] μ
  unfold L_append_wp at hk
  refine px_aload_n (i := 2) C dL_append_0 rfl rfl ?_
  refine px_iconst (v := (0 : Int32)) C dL_append_1 rfl ?_
  refine px_aload_n (i := 0) C dL_append_2 rfl rfl ?_
  refine px_iload_n (i := 1) C dL_append_3 rfl rfl ?_
  refine px_callVHi (h := 8) (rc' := 0) (rs' := 0) C (HR_le hHR (Nat.le_of_ble_eq_true rfl)) hT dL_append_4 (gw6 116 rfl rfl) mv_X8_append (w8_append_ok (PCx_l C) (PCx_I C) hk) rfl rfl rfl rfl rfl (Nat.le_of_ble_eq_true rfl) (Nat.le_of_ble_eq_true rfl) (Nat.le_of_ble_eq_true rfl) (Nat.le_of_ble_eq_true rfl) ?_ ?_
  · intro E μ3 hk
    rcases hk with ⟨rfl, hk⟩ | ⟨rfl, hk⟩
    · refine ⟨[], ⟨0, 9, 12, 13⟩, [⟨0, 9, 15, 15⟩], rfl, (fun _ hz => absurd hz List.not_mem_nil), rfl, by decide, ⟨"java/lang/IllegalArgumentException", (gw3 59 rfl rfl), List.mem_append_left _ (List.mem_of_getElem? (i := 0) rfl)⟩, fun q9 => ?_⟩
      refine px_astore_nw (i := 3) C dL_append_12 rfl (by decide) rfl ?_
      refine px_iconst (v := (1 : Int32)) C dL_append_13 rfl ?_
      exact px_iret C hRt dL_append_14 rfl rfl hk
    · refine ⟨[⟨0, 9, 12, 13⟩], ⟨0, 9, 15, 15⟩, [], rfl, (List.forall_mem_cons.mpr ⟨Or.inr ⟨by decide, "java/lang/IllegalArgumentException", (gw3 59 rfl rfl), List.mem_of_getElem? (i := 5) rfl⟩, (fun _ hz => absurd hz List.not_mem_nil)⟩), rfl, by decide, ⟨"java/lang/IllegalStateException", (gw3 60 rfl rfl), List.mem_append_left _ (List.mem_of_getElem? (i := 1) rfl)⟩, fun q9 => ?_⟩
      refine px_astore_nw (i := 3) C dL_append_15 rfl (by decide) rfl ?_
      refine px_iconst (v := (2 : Int32)) C dL_append_16 rfl ?_
      exact px_iret C hRt dL_append_17 rfl rfl hk
  intro r2 μ1 hk
  refine px_i2l C dL_append_7 ?_
  obtain ⟨o4, hk⟩ := hk
  replace hk := hk _ rfl
  refine px_last 5120 C dL_append_8 rfl rfl rfl rfl o4 rfl ?_
  refine px_goto (tgt := 18) C dL_append_9 (by decide) ?_
  refine px_iconst (v := (0 : Int32)) C dL_append_18 rfl ?_
  exact px_iret C hRt dL_append_19 rfl rfl hk
theorem dL_read_0 : decode cL_read 0 = .ok (.aload_n 1, 1) := by decide +kernel
theorem dL_read_1 : decode cL_read 1 = .ok (.iconst 0, 1) := by decide +kernel
theorem dL_read_2 : decode cL_read 2 = .ok (.aload_n 0, 1) := by decide +kernel
theorem dL_read_3 : decode cL_read 3 = .ok (.invokevirtual 156, 3) := by decide +kernel
theorem dL_read_6 : decode cL_read 6 = .ok (.i2l, 1) := by decide +kernel
theorem dL_read_7 : decode cL_read 7 = .ok (.lastore, 1) := by decide +kernel
theorem dL_read_8 : decode cL_read 8 = .ok (.goto 9, 3) := by decide +kernel
theorem dL_read_11 : decode cL_read 11 = .ok (.astore_n 2, 1) := by decide +kernel
theorem dL_read_12 : decode cL_read 12 = .ok (.iconst 1, 1) := by decide +kernel
theorem dL_read_13 : decode cL_read 13 = .ok (.ireturn, 1) := by decide +kernel
theorem dL_read_14 : decode cL_read 14 = .ok (.astore_n 2, 1) := by decide +kernel
theorem dL_read_15 : decode cL_read 15 = .ok (.iconst 2, 1) := by decide +kernel
theorem dL_read_16 : decode cL_read 16 = .ok (.ireturn, 1) := by decide +kernel
theorem dL_read_17 : decode cL_read 17 = .ok (.iconst 0, 1) := by decide +kernel
theorem dL_read_18 : decode cL_read 18 = .ok (.ireturn, 1) := by decide +kernel
set_option maxRecDepth 100000 in
set_option maxHeartbeats 4000000 in
theorem L_read_ok {l : Launch} {idx : List (Nat × Nat)} {μ : Mem} {P : Int32 → Mem → Prop} {X : String → Mem → Prop} (hl : l.stackTraces = false) (hI : IdxOK idx) (hk : L_read_wp μ P) : PMet l yL_read (.codeWith yL_read cL_read 3 (some .int) [(0, 8, 11, 13), (0, 8, 14, 15)]) 9 1 6 idx [pR 40 0, pR 80 0] μ (qI P) X := by
  refine PMetH_of (by decide +kernel) hl hI rfl (Nat.le_of_ble_eq_true rfl) (fun G _ _ C hRt hHR hT => ?_)
  show PW G 1 6 0 [some (pR 40 0), some (pR 80 0), none] [] μ
  unfold L_read_wp at hk
  refine px_aload_n (i := 1) C dL_read_0 rfl rfl ?_
  refine px_iconst (v := (0 : Int32)) C dL_read_1 rfl ?_
  refine px_aload_n (i := 0) C dL_read_2 rfl rfl ?_
  refine px_callVHi (h := 8) (rc' := 0) (rs' := 0) C (HR_le hHR (Nat.le_of_ble_eq_true rfl)) hT dL_read_3 (gw6 130 rfl rfl) mv_X8_read (w8_read_ok (PCx_l C) (PCx_I C) hk) rfl rfl rfl rfl rfl (Nat.le_of_ble_eq_true rfl) (Nat.le_of_ble_eq_true rfl) (Nat.le_of_ble_eq_true rfl) (Nat.le_of_ble_eq_true rfl) ?_ ?_
  · intro E μ3 hk
    rcases hk with ⟨rfl, hk⟩ | ⟨rfl, hk⟩
    · refine ⟨[], ⟨0, 8, 11, 13⟩, [⟨0, 8, 14, 15⟩], rfl, (fun _ hz => absurd hz List.not_mem_nil), rfl, by decide, ⟨"java/lang/IllegalArgumentException", (gw3 59 rfl rfl), List.mem_append_left _ (List.mem_of_getElem? (i := 0) rfl)⟩, fun q9 => ?_⟩
      refine px_astore_nw (i := 2) C dL_read_11 rfl (by decide) rfl ?_
      refine px_iconst (v := (1 : Int32)) C dL_read_12 rfl ?_
      exact px_iret C hRt dL_read_13 rfl rfl hk
    · refine ⟨[⟨0, 8, 11, 13⟩], ⟨0, 8, 14, 15⟩, [], rfl, (List.forall_mem_cons.mpr ⟨Or.inr ⟨by decide, "java/lang/IllegalArgumentException", (gw3 59 rfl rfl), List.mem_of_getElem? (i := 5) rfl⟩, (fun _ hz => absurd hz List.not_mem_nil)⟩), rfl, by decide, ⟨"java/lang/IllegalStateException", (gw3 60 rfl rfl), List.mem_append_left _ (List.mem_of_getElem? (i := 1) rfl)⟩, fun q9 => ?_⟩
      refine px_astore_nw (i := 2) C dL_read_14 rfl (by decide) rfl ?_
      refine px_iconst (v := (2 : Int32)) C dL_read_15 rfl ?_
      exact px_iret C hRt dL_read_16 rfl rfl hk
  intro r2 μ1 hk
  refine px_i2l C dL_read_6 ?_
  obtain ⟨o4, hk⟩ := hk
  replace hk := hk _ rfl
  refine px_last 5120 C dL_read_7 rfl rfl rfl rfl o4 rfl ?_
  refine px_goto (tgt := 17) C dL_read_8 (by decide) ?_
  refine px_iconst (v := (0 : Int32)) C dL_read_17 rfl ?_
  exact px_iret C hRt dL_read_18 rfl rfl hk
theorem dL_errorPosition_0 : decode cL_errorPosition 0 = .ok (.aload_n 1, 1) := by decide +kernel
theorem dL_errorPosition_1 : decode cL_errorPosition 1 = .ok (.iconst 0, 1) := by decide +kernel
theorem dL_errorPosition_2 : decode cL_errorPosition 2 = .ok (.aload_n 0, 1) := by decide +kernel
theorem dL_errorPosition_3 : decode cL_errorPosition 3 = .ok (.invokevirtual 160, 3) := by decide +kernel
theorem dL_errorPosition_6 : decode cL_errorPosition 6 = .ok (.i2l, 1) := by decide +kernel
theorem dL_errorPosition_7 : decode cL_errorPosition 7 = .ok (.lastore, 1) := by decide +kernel
theorem dL_errorPosition_8 : decode cL_errorPosition 8 = .ok (.goto 6, 3) := by decide +kernel
theorem dL_errorPosition_11 : decode cL_errorPosition 11 = .ok (.astore_n 2, 1) := by decide +kernel
theorem dL_errorPosition_12 : decode cL_errorPosition 12 = .ok (.iconst 1, 1) := by decide +kernel
theorem dL_errorPosition_13 : decode cL_errorPosition 13 = .ok (.ireturn, 1) := by decide +kernel
theorem dL_errorPosition_14 : decode cL_errorPosition 14 = .ok (.iconst 0, 1) := by decide +kernel
theorem dL_errorPosition_15 : decode cL_errorPosition 15 = .ok (.ireturn, 1) := by decide +kernel
set_option maxRecDepth 100000 in
set_option maxHeartbeats 4000000 in
theorem L_errorPosition_ok {l : Launch} {idx : List (Nat × Nat)} {μ : Mem} {P : Int32 → Mem → Prop} {X : String → Mem → Prop} (hl : l.stackTraces = false) (hI : IdxOK idx) (hk : L_errorPosition_wp μ P) : PMet l yL_errorPosition (.codeWith yL_errorPosition cL_errorPosition 3 (some .int) [(0, 8, 11, 44)]) 9 1 6 idx [pR 40 0, pR 80 0] μ (qI P) X := by
  refine PMetH_of (by decide +kernel) hl hI rfl (Nat.le_of_ble_eq_true rfl) (fun G _ _ C hRt hHR hT => ?_)
  show PW G 1 6 0 [some (pR 40 0), some (pR 80 0), none] [] μ
  unfold L_errorPosition_wp at hk
  refine px_aload_n (i := 1) C dL_errorPosition_0 rfl rfl ?_
  refine px_iconst (v := (0 : Int32)) C dL_errorPosition_1 rfl ?_
  refine px_aload_n (i := 0) C dL_errorPosition_2 rfl rfl ?_
  refine px_callVHi (h := 8) (rc' := 0) (rs' := 0) C (HR_le hHR (Nat.le_of_ble_eq_true rfl)) hT dL_errorPosition_3 (gw6 170 rfl rfl) mv_X8_errorPosition (w8_errorPosition_ok (PCx_l C) (PCx_I C) hk) rfl rfl rfl rfl rfl (Nat.le_of_ble_eq_true rfl) (Nat.le_of_ble_eq_true rfl) (Nat.le_of_ble_eq_true rfl) (Nat.le_of_ble_eq_true rfl) ?_ ?_
  · intro E μ3 hk
    rcases hk with ⟨rfl, hk⟩
    · refine ⟨[], ⟨0, 8, 11, 44⟩, [], rfl, (fun _ hz => absurd hz List.not_mem_nil), rfl, by decide, ⟨"java/util/NoSuchElementException", (gw4 48 rfl rfl), List.mem_append_left _ (List.mem_of_getElem? (i := 3) rfl)⟩, fun q9 => ?_⟩
      refine px_astore_nw (i := 2) C dL_errorPosition_11 rfl (by decide) rfl ?_
      refine px_iconst (v := (1 : Int32)) C dL_errorPosition_12 rfl ?_
      exact px_iret C hRt dL_errorPosition_13 rfl rfl hk
  intro r2 μ1 hk
  refine px_i2l C dL_errorPosition_6 ?_
  obtain ⟨o4, hk⟩ := hk
  replace hk := hk _ rfl
  refine px_last 5120 C dL_errorPosition_7 rfl rfl rfl rfl o4 rfl ?_
  refine px_goto (tgt := 14) C dL_errorPosition_8 (by decide) ?_
  refine px_iconst (v := (0 : Int32)) C dL_errorPosition_14 rfl ?_
  exact px_iret C hRt dL_errorPosition_15 rfl rfl hk
theorem dL_undo_0 : decode cL_undo 0 = .ok (.aload_n 1, 1) := by decide +kernel
theorem dL_undo_1 : decode cL_undo 1 = .ok (.iconst 0, 1) := by decide +kernel
theorem dL_undo_2 : decode cL_undo 2 = .ok (.aload_n 0, 1) := by decide +kernel
theorem dL_undo_3 : decode cL_undo 3 = .ok (.invokevirtual 166, 3) := by decide +kernel
theorem dL_undo_6 : decode cL_undo 6 = .ok (.i2l, 1) := by decide +kernel
theorem dL_undo_7 : decode cL_undo 7 = .ok (.lastore, 1) := by decide +kernel
theorem dL_undo_8 : decode cL_undo 8 = .ok (.goto 6, 3) := by decide +kernel
theorem dL_undo_11 : decode cL_undo 11 = .ok (.astore_n 2, 1) := by decide +kernel
theorem dL_undo_12 : decode cL_undo 12 = .ok (.iconst 1, 1) := by decide +kernel
theorem dL_undo_13 : decode cL_undo 13 = .ok (.ireturn, 1) := by decide +kernel
theorem dL_undo_14 : decode cL_undo 14 = .ok (.iconst 0, 1) := by decide +kernel
theorem dL_undo_15 : decode cL_undo 15 = .ok (.ireturn, 1) := by decide +kernel
set_option maxRecDepth 100000 in
set_option maxHeartbeats 4000000 in
theorem L_undo_ok {l : Launch} {idx : List (Nat × Nat)} {μ : Mem} {P : Int32 → Mem → Prop} {X : String → Mem → Prop} (hl : l.stackTraces = false) (hI : IdxOK idx) (hk : L_undo_wp μ P) : PMet l yL_undo (.codeWith yL_undo cL_undo 3 (some .int) [(0, 8, 11, 44)]) 9 1 6 idx [pR 40 0, pR 80 0] μ (qI P) X := by
  refine PMetH_of (by decide +kernel) hl hI rfl (Nat.le_of_ble_eq_true rfl) (fun G _ _ C hRt hHR hT => ?_)
  show PW G 1 6 0 [some (pR 40 0), some (pR 80 0), none] [] μ
  unfold L_undo_wp at hk
  refine px_aload_n (i := 1) C dL_undo_0 rfl rfl ?_
  refine px_iconst (v := (0 : Int32)) C dL_undo_1 rfl ?_
  refine px_aload_n (i := 0) C dL_undo_2 rfl rfl ?_
  refine px_callVHi (h := 8) (rc' := 0) (rs' := 0) C (HR_le hHR (Nat.le_of_ble_eq_true rfl)) hT dL_undo_3 (gw7 237 rfl rfl) mv_X8_undo (w8_undo_ok (PCx_l C) (PCx_I C) hk) rfl rfl rfl rfl rfl (Nat.le_of_ble_eq_true rfl) (Nat.le_of_ble_eq_true rfl) (Nat.le_of_ble_eq_true rfl) (Nat.le_of_ble_eq_true rfl) ?_ ?_
  · intro E μ3 hk
    rcases hk with ⟨rfl, hk⟩
    · refine ⟨[], ⟨0, 8, 11, 44⟩, [], rfl, (fun _ hz => absurd hz List.not_mem_nil), rfl, by decide, ⟨"java/util/NoSuchElementException", (gw4 48 rfl rfl), List.mem_append_left _ (List.mem_of_getElem? (i := 3) rfl)⟩, fun q9 => ?_⟩
      refine px_astore_nw (i := 2) C dL_undo_11 rfl (by decide) rfl ?_
      refine px_iconst (v := (1 : Int32)) C dL_undo_12 rfl ?_
      exact px_iret C hRt dL_undo_13 rfl rfl hk
  intro r2 μ1 hk
  refine px_i2l C dL_undo_6 ?_
  obtain ⟨o4, hk⟩ := hk
  replace hk := hk _ rfl
  refine px_last 5120 C dL_undo_7 rfl rfl rfl rfl o4 rfl ?_
  refine px_goto (tgt := 14) C dL_undo_8 (by decide) ?_
  refine px_iconst (v := (0 : Int32)) C dL_undo_14 rfl ?_
  exact px_iret C hRt dL_undo_15 rfl rfl hk
theorem dL_restore_0 : decode cL_restore 0 = .ok (.aload_n 1, 1) := by decide +kernel
theorem dL_restore_1 : decode cL_restore 1 = .ok (.iconst 0, 1) := by decide +kernel
theorem dL_restore_2 : decode cL_restore 2 = .ok (.aload_n 0, 1) := by decide +kernel
theorem dL_restore_3 : decode cL_restore 3 = .ok (.invokevirtual 169, 3) := by decide +kernel
theorem dL_restore_6 : decode cL_restore 6 = .ok (.i2l, 1) := by decide +kernel
theorem dL_restore_7 : decode cL_restore 7 = .ok (.lastore, 1) := by decide +kernel
theorem dL_restore_8 : decode cL_restore 8 = .ok (.goto 6, 3) := by decide +kernel
theorem dL_restore_11 : decode cL_restore 11 = .ok (.astore_n 2, 1) := by decide +kernel
theorem dL_restore_12 : decode cL_restore 12 = .ok (.iconst 1, 1) := by decide +kernel
theorem dL_restore_13 : decode cL_restore 13 = .ok (.ireturn, 1) := by decide +kernel
theorem dL_restore_14 : decode cL_restore 14 = .ok (.iconst 0, 1) := by decide +kernel
theorem dL_restore_15 : decode cL_restore 15 = .ok (.ireturn, 1) := by decide +kernel
set_option maxRecDepth 100000 in
set_option maxHeartbeats 4000000 in
theorem L_restore_ok {l : Launch} {idx : List (Nat × Nat)} {μ : Mem} {P : Int32 → Mem → Prop} {X : String → Mem → Prop} (hl : l.stackTraces = false) (hI : IdxOK idx) (hk : L_restore_wp μ P) : PMet l yL_restore (.codeWith yL_restore cL_restore 3 (some .int) [(0, 8, 11, 15)]) 9 1 6 idx [pR 40 0, pR 80 0] μ (qI P) X := by
  refine PMetH_of (by decide +kernel) hl hI rfl (Nat.le_of_ble_eq_true rfl) (fun G _ _ C hRt hHR hT => ?_)
  show PW G 1 6 0 [some (pR 40 0), some (pR 80 0), none] [] μ
  unfold L_restore_wp at hk
  refine px_aload_n (i := 1) C dL_restore_0 rfl rfl ?_
  refine px_iconst (v := (0 : Int32)) C dL_restore_1 rfl ?_
  refine px_aload_n (i := 0) C dL_restore_2 rfl rfl ?_
  refine px_callVHi (h := 8) (rc' := 0) (rs' := 0) C (HR_le hHR (Nat.le_of_ble_eq_true rfl)) hT dL_restore_3 (gw8 9 rfl rfl) mv_X8_restore (w8_restore_ok (PCx_l C) (PCx_I C) hk) rfl rfl rfl rfl rfl (Nat.le_of_ble_eq_true rfl) (Nat.le_of_ble_eq_true rfl) (Nat.le_of_ble_eq_true rfl) (Nat.le_of_ble_eq_true rfl) ?_ ?_
  · intro E μ3 hk
    rcases hk with ⟨rfl, hk⟩
    · refine ⟨[], ⟨0, 8, 11, 15⟩, [], rfl, (fun _ hz => absurd hz List.not_mem_nil), rfl, by decide, ⟨"java/lang/IllegalStateException", (gw3 60 rfl rfl), List.mem_append_left _ (List.mem_of_getElem? (i := 1) rfl)⟩, fun q9 => ?_⟩
      refine px_astore_nw (i := 2) C dL_restore_11 rfl (by decide) rfl ?_
      refine px_iconst (v := (1 : Int32)) C dL_restore_12 rfl ?_
      exact px_iret C hRt dL_restore_13 rfl rfl hk
  intro r2 μ1 hk
  refine px_i2l C dL_restore_6 ?_
  obtain ⟨o4, hk⟩ := hk
  replace hk := hk _ rfl
  refine px_last 5120 C dL_restore_7 rfl rfl rfl rfl o4 rfl ?_
  refine px_goto (tgt := 14) C dL_restore_8 (by decide) ?_
  refine px_iconst (v := (0 : Int32)) C dL_restore_14 rfl ?_
  exact px_iret C hRt dL_restore_15 rfl rfl hk
