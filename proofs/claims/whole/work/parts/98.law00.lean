theorem dL_add_0 : decode cL_add 0 = .ok (.aload 7, 2) := by decide +kernel
theorem dL_add_2 : decode cL_add 2 = .ok (.iconst 0, 1) := by decide +kernel
theorem dL_add_3 : decode cL_add 3 = .ok (.aload_n 0, 1) := by decide +kernel
theorem dL_add_4 : decode cL_add 4 = .ok (.iload_n 1, 1) := by decide +kernel
theorem dL_add_5 : decode cL_add 5 = .ok (.iload_n 2, 1) := by decide +kernel
theorem dL_add_6 : decode cL_add 6 = .ok (.iload_n 3, 1) := by decide +kernel
theorem dL_add_7 : decode cL_add 7 = .ok (.iload 4, 2) := by decide +kernel
theorem dL_add_9 : decode cL_add 9 = .ok (.iload 5, 2) := by decide +kernel
theorem dL_add_11 : decode cL_add 11 = .ok (.iload 6, 2) := by decide +kernel
theorem dL_add_13 : decode cL_add 13 = .ok (.invokevirtual 7, 3) := by decide +kernel
theorem dL_add_16 : decode cL_add 16 = .ok (.i2l, 1) := by decide +kernel
theorem dL_add_17 : decode cL_add 17 = .ok (.lastore, 1) := by decide +kernel
theorem dL_add_18 : decode cL_add 18 = .ok (.goto 11, 3) := by decide +kernel
theorem dL_add_21 : decode cL_add 21 = .ok (.astore 8, 2) := by decide +kernel
theorem dL_add_23 : decode cL_add 23 = .ok (.iconst 1, 1) := by decide +kernel
theorem dL_add_24 : decode cL_add 24 = .ok (.ireturn, 1) := by decide +kernel
theorem dL_add_25 : decode cL_add 25 = .ok (.astore 8, 2) := by decide +kernel
theorem dL_add_27 : decode cL_add 27 = .ok (.iconst 2, 1) := by decide +kernel
theorem dL_add_28 : decode cL_add 28 = .ok (.ireturn, 1) := by decide +kernel
theorem dL_add_29 : decode cL_add 29 = .ok (.iconst 0, 1) := by decide +kernel
theorem dL_add_30 : decode cL_add 30 = .ok (.ireturn, 1) := by decide +kernel
set_option maxRecDepth 100000 in
set_option maxHeartbeats 4000000 in
theorem L_add_ok {l : Launch} {idx : List (Nat × Nat)} {μ : Mem} {a2 : Int32} {a3 : Int32} {a4 : Int32} {a5 : Int32} {a6 : Int32} {a7 : Int32} {P : Int32 → Mem → Prop} {X : String → Mem → Prop} (hl : l.stackTraces = false) (hI : IdxOK idx) (hk : L_add_wp μ a2 a3 a4 a5 a6 a7 P) : PMet l yL_add (.codeWith yL_add cL_add 9 (some .int) [(0, 18, 21, 13), (0, 18, 25, 15)]) 9 1 6 idx [pR 40 0, pI a2, pI a3, pI a4, pI a5, pI a6, pI a7, pR 80 0] μ (qI P) X := by
  refine PMetH_of (by decide +kernel) hl hI rfl (Nat.le_of_ble_eq_true rfl) (fun G _ _ C hRt hHR hT => ?_)
  show PW G 1 6 0 [some (pR 40 0), some (pI a2), some (pI a3), some (pI a4), some (pI a5), some (pI a6), some (pI a7), some (pR 80 0), none] [] μ
  unfold L_add_wp at hk
  refine px_aload (i := 7) C dL_add_0 rfl ?_
  refine px_iconst (v := (0 : Int32)) C dL_add_2 rfl ?_
  refine px_aload_n (i := 0) C dL_add_3 rfl rfl ?_
  refine px_iload_n (i := 1) C dL_add_4 rfl rfl ?_
  refine px_iload_n (i := 2) C dL_add_5 rfl rfl ?_
  refine px_iload_n (i := 3) C dL_add_6 rfl rfl ?_
  refine px_iload (i := 4) C dL_add_7 rfl ?_
  refine px_iload (i := 5) C dL_add_9 rfl ?_
  refine px_iload (i := 6) C dL_add_11 rfl ?_
  refine px_callVHi (h := 8) (rc' := 0) (rs' := 0) C (HR_le hHR (Nat.le_of_ble_eq_true rfl)) hT dL_add_13 (gw3 61 rfl rfl) mv_X8_add (w8_add_ok (PCx_l C) (PCx_I C) hk) rfl rfl rfl rfl rfl (Nat.le_of_ble_eq_true rfl) (Nat.le_of_ble_eq_true rfl) (Nat.le_of_ble_eq_true rfl) (Nat.le_of_ble_eq_true rfl) ?_ ?_
  · intro E μ3 hk
    rcases hk with ⟨rfl, hk⟩ | ⟨rfl, hk⟩
    · refine ⟨[], ⟨0, 18, 21, 13⟩, [⟨0, 18, 25, 15⟩], rfl, (fun _ hz => absurd hz List.not_mem_nil), rfl, by decide, ⟨"java/lang/IllegalArgumentException", (gw3 59 rfl rfl), List.mem_append_left _ (List.mem_of_getElem? (i := 0) rfl)⟩, fun q9 => ?_⟩
      refine px_astorew (i := 8) C dL_add_21 (by decide) rfl ?_
      refine px_iconst (v := (1 : Int32)) C dL_add_23 rfl ?_
      exact px_iret C hRt dL_add_24 rfl rfl hk
    · refine ⟨[⟨0, 18, 21, 13⟩], ⟨0, 18, 25, 15⟩, [], rfl, (List.forall_mem_cons.mpr ⟨Or.inr ⟨by decide, "java/lang/IllegalArgumentException", (gw3 59 rfl rfl), List.mem_of_getElem? (i := 5) rfl⟩, (fun _ hz => absurd hz List.not_mem_nil)⟩), rfl, by decide, ⟨"java/lang/IllegalStateException", (gw3 60 rfl rfl), List.mem_append_left _ (List.mem_of_getElem? (i := 1) rfl)⟩, fun q9 => ?_⟩
      refine px_astorew (i := 8) C dL_add_25 (by decide) rfl ?_
      refine px_iconst (v := (2 : Int32)) C dL_add_27 rfl ?_
      exact px_iret C hRt dL_add_28 rfl rfl hk
  intro r2 μ1 hk
  refine px_i2l C dL_add_16 ?_
  obtain ⟨o4, hk⟩ := hk
  replace hk := hk _ rfl
  refine px_last 5120 C dL_add_17 rfl rfl rfl rfl o4 rfl ?_
  refine px_goto (tgt := 29) C dL_add_18 (by decide) ?_
  refine px_iconst (v := (0 : Int32)) C dL_add_29 rfl ?_
  exact px_iret C hRt dL_add_30 rfl rfl hk
theorem dL_remove_0 : decode cL_remove 0 = .ok (.aload_n 2, 1) := by decide +kernel
theorem dL_remove_1 : decode cL_remove 1 = .ok (.iconst 0, 1) := by decide +kernel
theorem dL_remove_2 : decode cL_remove 2 = .ok (.aload_n 0, 1) := by decide +kernel
theorem dL_remove_3 : decode cL_remove 3 = .ok (.iload_n 1, 1) := by decide +kernel
theorem dL_remove_4 : decode cL_remove 4 = .ok (.invokevirtual 17, 3) := by decide +kernel
theorem dL_remove_7 : decode cL_remove 7 = .ok (.i2l, 1) := by decide +kernel
theorem dL_remove_8 : decode cL_remove 8 = .ok (.lastore, 1) := by decide +kernel
theorem dL_remove_9 : decode cL_remove 9 = .ok (.goto 6, 3) := by decide +kernel
theorem dL_remove_12 : decode cL_remove 12 = .ok (.astore_n 3, 1) := by decide +kernel
theorem dL_remove_13 : decode cL_remove 13 = .ok (.iconst 1, 1) := by decide +kernel
theorem dL_remove_14 : decode cL_remove 14 = .ok (.ireturn, 1) := by decide +kernel
theorem dL_remove_15 : decode cL_remove 15 = .ok (.iconst 0, 1) := by decide +kernel
theorem dL_remove_16 : decode cL_remove 16 = .ok (.ireturn, 1) := by decide +kernel
set_option maxRecDepth 100000 in
set_option maxHeartbeats 4000000 in
theorem L_remove_ok {l : Launch} {idx : List (Nat × Nat)} {μ : Mem} {a2 : Int32} {P : Int32 → Mem → Prop} {X : String → Mem → Prop} (hl : l.stackTraces = false) (hI : IdxOK idx) (hk : L_remove_wp μ a2 P) : PMet l yL_remove (.codeWith yL_remove cL_remove 4 (some .int) [(0, 9, 12, 21)]) 10 1 6 idx [pR 40 0, pI a2, pR 80 0] μ (qI P) X := by
  refine PMetH_of (by decide +kernel) hl hI rfl (Nat.le_of_ble_eq_true rfl) (fun G _ _ C hRt hHR hT => ?_)
  show PW G 1 6 0 [some (pR 40 0), some (pI a2), some (pR 80 0), none] [] μ
  unfold L_remove_wp at hk
  refine px_aload_n (i := 2) C dL_remove_0 rfl rfl ?_
  refine px_iconst (v := (0 : Int32)) C dL_remove_1 rfl ?_
  refine px_aload_n (i := 0) C dL_remove_2 rfl rfl ?_
  refine px_iload_n (i := 1) C dL_remove_3 rfl rfl ?_
  refine px_callVHi (h := 9) (rc' := 0) (rs' := 0) C (HR_le hHR (Nat.le_of_ble_eq_true rfl)) hT dL_remove_4 (gw3 205 rfl rfl) mv_X8_remove (w8_remove_ok (PCx_l C) (PCx_I C) hk) rfl rfl rfl rfl rfl (Nat.le_of_ble_eq_true rfl) (Nat.le_of_ble_eq_true rfl) (Nat.le_of_ble_eq_true rfl) (Nat.le_of_ble_eq_true rfl) ?_ ?_
  · intro E μ3 hk
    rcases hk with ⟨rfl, hk⟩
    · refine ⟨[], ⟨0, 9, 12, 21⟩, [], rfl, (fun _ hz => absurd hz List.not_mem_nil), rfl, by decide, ⟨"java/lang/IndexOutOfBoundsException", (gw3 181 rfl rfl), List.mem_append_left _ (List.mem_of_getElem? (i := 2) rfl)⟩, fun q9 => ?_⟩
      refine px_astore_nw (i := 3) C dL_remove_12 rfl (by decide) rfl ?_
      refine px_iconst (v := (1 : Int32)) C dL_remove_13 rfl ?_
      exact px_iret C hRt dL_remove_14 rfl rfl hk
  intro r2 μ1 hk
  refine px_i2l C dL_remove_7 ?_
  obtain ⟨o4, hk⟩ := hk
  replace hk := hk _ rfl
  refine px_last 5120 C dL_remove_8 rfl rfl rfl rfl o4 rfl ?_
  refine px_goto (tgt := 15) C dL_remove_9 (by decide) ?_
  refine px_iconst (v := (0 : Int32)) C dL_remove_15 rfl ?_
  exact px_iret C hRt dL_remove_16 rfl rfl hk
theorem dL_setParent_0 : decode cL_setParent 0 = .ok (.aload_n 3, 1) := by decide +kernel
theorem dL_setParent_1 : decode cL_setParent 1 = .ok (.iconst 0, 1) := by decide +kernel
theorem dL_setParent_2 : decode cL_setParent 2 = .ok (.aload_n 0, 1) := by decide +kernel
theorem dL_setParent_3 : decode cL_setParent 3 = .ok (.iload_n 1, 1) := by decide +kernel
theorem dL_setParent_4 : decode cL_setParent 4 = .ok (.iload_n 2, 1) := by decide +kernel
theorem dL_setParent_5 : decode cL_setParent 5 = .ok (.invokevirtual 23, 3) := by decide +kernel
theorem dL_setParent_8 : decode cL_setParent 8 = .ok (.i2l, 1) := by decide +kernel
theorem dL_setParent_9 : decode cL_setParent 9 = .ok (.lastore, 1) := by decide +kernel
theorem dL_setParent_10 : decode cL_setParent 10 = .ok (.goto 11, 3) := by decide +kernel
theorem dL_setParent_13 : decode cL_setParent 13 = .ok (.astore 4, 2) := by decide +kernel
theorem dL_setParent_15 : decode cL_setParent 15 = .ok (.iconst 1, 1) := by decide +kernel
theorem dL_setParent_16 : decode cL_setParent 16 = .ok (.ireturn, 1) := by decide +kernel
theorem dL_setParent_17 : decode cL_setParent 17 = .ok (.astore 4, 2) := by decide +kernel
theorem dL_setParent_19 : decode cL_setParent 19 = .ok (.iconst 2, 1) := by decide +kernel
theorem dL_setParent_20 : decode cL_setParent 20 = .ok (.ireturn, 1) := by decide +kernel
theorem dL_setParent_21 : decode cL_setParent 21 = .ok (.iconst 0, 1) := by decide +kernel
theorem dL_setParent_22 : decode cL_setParent 22 = .ok (.ireturn, 1) := by decide +kernel
set_option maxRecDepth 100000 in
set_option maxHeartbeats 4000000 in
theorem L_setParent_ok {l : Launch} {idx : List (Nat × Nat)} {μ : Mem} {a2 : Int32} {a3 : Int32} {P : Int32 → Mem → Prop} {X : String → Mem → Prop} (hl : l.stackTraces = false) (hI : IdxOK idx) (hk : L_setParent_wp μ a2 a3 P) : PMet l yL_setParent (.codeWith yL_setParent cL_setParent 5 (some .int) [(0, 10, 13, 21), (0, 10, 17, 13)]) 10 2 12 idx [pR 40 0, pI a2, pI a3, pR 80 0] μ (qI P) X := by
  refine PMetH_of (by decide +kernel) hl hI rfl (Nat.le_of_ble_eq_true rfl) (fun G _ _ C hRt hHR hT => ?_)
  show PW G 2 12 0 [some (pR 40 0), some (pI a2), some (pI a3), some (pR 80 0), none] [] μ
  unfold L_setParent_wp at hk
  refine px_aload_n (i := 3) C dL_setParent_0 rfl rfl ?_
  refine px_iconst (v := (0 : Int32)) C dL_setParent_1 rfl ?_
  refine px_aload_n (i := 0) C dL_setParent_2 rfl rfl ?_
  refine px_iload_n (i := 1) C dL_setParent_3 rfl rfl ?_
  refine px_iload_n (i := 2) C dL_setParent_4 rfl rfl ?_
  refine px_callVHi (h := 9) (rc' := 0) (rs' := 0) C (HR_le hHR (Nat.le_of_ble_eq_true rfl)) hT dL_setParent_5 (gw3 237 rfl rfl) mv_X8_setParent (w8_setParent_ok (PCx_l C) (PCx_I C) hk) rfl rfl rfl rfl rfl (Nat.le_of_ble_eq_true rfl) (Nat.le_of_ble_eq_true rfl) (Nat.le_of_ble_eq_true rfl) (Nat.le_of_ble_eq_true rfl) ?_ ?_
  · intro E μ3 hk
    rcases hk with ⟨rfl, hk⟩ | ⟨rfl, hk⟩
    · refine ⟨[], ⟨0, 10, 13, 21⟩, [⟨0, 10, 17, 13⟩], rfl, (fun _ hz => absurd hz List.not_mem_nil), rfl, by decide, ⟨"java/lang/IndexOutOfBoundsException", (gw3 181 rfl rfl), List.mem_append_left _ (List.mem_of_getElem? (i := 2) rfl)⟩, fun q9 => ?_⟩
      refine px_astorew (i := 4) C dL_setParent_13 (by decide) rfl ?_
      refine px_iconst (v := (1 : Int32)) C dL_setParent_15 rfl ?_
      exact px_iret C hRt dL_setParent_16 rfl rfl hk
    · refine ⟨[⟨0, 10, 13, 21⟩], ⟨0, 10, 17, 13⟩, [], rfl, (List.forall_mem_cons.mpr ⟨Or.inr ⟨by decide, "java/lang/IndexOutOfBoundsException", (gw3 181 rfl rfl), List.mem_of_getElem? (i := 1) rfl⟩, (fun _ hz => absurd hz List.not_mem_nil)⟩), rfl, by decide, ⟨"java/lang/IllegalArgumentException", (gw3 59 rfl rfl), List.mem_append_left _ (List.mem_of_getElem? (i := 0) rfl)⟩, fun q9 => ?_⟩
      refine px_astorew (i := 4) C dL_setParent_17 (by decide) rfl ?_
      refine px_iconst (v := (2 : Int32)) C dL_setParent_19 rfl ?_
      exact px_iret C hRt dL_setParent_20 rfl rfl hk
  intro r2 μ1 hk
  refine px_i2l C dL_setParent_8 ?_
  obtain ⟨o4, hk⟩ := hk
  replace hk := hk _ rfl
  refine px_last 5120 C dL_setParent_9 rfl rfl rfl rfl o4 rfl ?_
  refine px_goto (tgt := 21) C dL_setParent_10 (by decide) ?_
  refine px_iconst (v := (0 : Int32)) C dL_setParent_21 rfl ?_
  exact px_iret C hRt dL_setParent_22 rfl rfl hk
theorem dL_setTimes_0 : decode cL_setTimes 0 = .ok (.aload 4, 2) := by decide +kernel
theorem dL_setTimes_2 : decode cL_setTimes 2 = .ok (.iconst 0, 1) := by decide +kernel
theorem dL_setTimes_3 : decode cL_setTimes 3 = .ok (.aload_n 0, 1) := by decide +kernel
theorem dL_setTimes_4 : decode cL_setTimes 4 = .ok (.iload_n 1, 1) := by decide +kernel
theorem dL_setTimes_5 : decode cL_setTimes 5 = .ok (.iload_n 2, 1) := by decide +kernel
theorem dL_setTimes_6 : decode cL_setTimes 6 = .ok (.iload_n 3, 1) := by decide +kernel
theorem dL_setTimes_7 : decode cL_setTimes 7 = .ok (.invokevirtual 27, 3) := by decide +kernel
theorem dL_setTimes_10 : decode cL_setTimes 10 = .ok (.i2l, 1) := by decide +kernel
theorem dL_setTimes_11 : decode cL_setTimes 11 = .ok (.lastore, 1) := by decide +kernel
theorem dL_setTimes_12 : decode cL_setTimes 12 = .ok (.goto 11, 3) := by decide +kernel
theorem dL_setTimes_15 : decode cL_setTimes 15 = .ok (.astore 5, 2) := by decide +kernel
theorem dL_setTimes_17 : decode cL_setTimes 17 = .ok (.iconst 1, 1) := by decide +kernel
theorem dL_setTimes_18 : decode cL_setTimes 18 = .ok (.ireturn, 1) := by decide +kernel
theorem dL_setTimes_19 : decode cL_setTimes 19 = .ok (.astore 5, 2) := by decide +kernel
theorem dL_setTimes_21 : decode cL_setTimes 21 = .ok (.iconst 2, 1) := by decide +kernel
theorem dL_setTimes_22 : decode cL_setTimes 22 = .ok (.ireturn, 1) := by decide +kernel
theorem dL_setTimes_23 : decode cL_setTimes 23 = .ok (.iconst 0, 1) := by decide +kernel
theorem dL_setTimes_24 : decode cL_setTimes 24 = .ok (.ireturn, 1) := by decide +kernel
set_option maxRecDepth 100000 in
set_option maxHeartbeats 4000000 in
theorem L_setTimes_ok {l : Launch} {idx : List (Nat × Nat)} {μ : Mem} {a2 : Int32} {a3 : Int32} {a4 : Int32} {P : Int32 → Mem → Prop} {X : String → Mem → Prop} (hl : l.stackTraces = false) (hI : IdxOK idx) (hk : L_setTimes_wp μ a2 a3 a4 P) : PMet l yL_setTimes (.codeWith yL_setTimes cL_setTimes 6 (some .int) [(0, 12, 15, 21), (0, 12, 19, 13)]) 10 2 12 idx [pR 40 0, pI a2, pI a3, pI a4, pR 80 0] μ (qI P) X := by
  refine PMetH_of (by decide +kernel) hl hI rfl (Nat.le_of_ble_eq_true rfl) (fun G _ _ C hRt hHR hT => ?_)
  show PW G 2 12 0 [some (pR 40 0), some (pI a2), some (pI a3), some (pI a4), some (pR 80 0), none] [] μ
  unfold L_setTimes_wp at hk
  refine px_aload (i := 4) C dL_setTimes_0 rfl ?_
  refine px_iconst (v := (0 : Int32)) C dL_setTimes_2 rfl ?_
  refine px_aload_n (i := 0) C dL_setTimes_3 rfl rfl ?_
  refine px_iload_n (i := 1) C dL_setTimes_4 rfl rfl ?_
  refine px_iload_n (i := 2) C dL_setTimes_5 rfl rfl ?_
  refine px_iload_n (i := 3) C dL_setTimes_6 rfl rfl ?_
  refine px_callVHi (h := 9) (rc' := 0) (rs' := 0) C (HR_le hHR (Nat.le_of_ble_eq_true rfl)) hT dL_setTimes_7 (gw4 7 rfl rfl) mv_X8_setTimes (w8_setTimes_ok (PCx_l C) (PCx_I C) hk) rfl rfl rfl rfl rfl (Nat.le_of_ble_eq_true rfl) (Nat.le_of_ble_eq_true rfl) (Nat.le_of_ble_eq_true rfl) (Nat.le_of_ble_eq_true rfl) ?_ ?_
  · intro E μ3 hk
    rcases hk with ⟨rfl, hk⟩ | ⟨rfl, hk⟩
    · refine ⟨[], ⟨0, 12, 15, 21⟩, [⟨0, 12, 19, 13⟩], rfl, (fun _ hz => absurd hz List.not_mem_nil), rfl, by decide, ⟨"java/lang/IndexOutOfBoundsException", (gw3 181 rfl rfl), List.mem_append_left _ (List.mem_of_getElem? (i := 2) rfl)⟩, fun q9 => ?_⟩
      refine px_astorew (i := 5) C dL_setTimes_15 (by decide) rfl ?_
      refine px_iconst (v := (1 : Int32)) C dL_setTimes_17 rfl ?_
      exact px_iret C hRt dL_setTimes_18 rfl rfl hk
    · refine ⟨[⟨0, 12, 15, 21⟩], ⟨0, 12, 19, 13⟩, [], rfl, (List.forall_mem_cons.mpr ⟨Or.inr ⟨by decide, "java/lang/IndexOutOfBoundsException", (gw3 181 rfl rfl), List.mem_of_getElem? (i := 1) rfl⟩, (fun _ hz => absurd hz List.not_mem_nil)⟩), rfl, by decide, ⟨"java/lang/IllegalArgumentException", (gw3 59 rfl rfl), List.mem_append_left _ (List.mem_of_getElem? (i := 0) rfl)⟩, fun q9 => ?_⟩
      refine px_astorew (i := 5) C dL_setTimes_19 (by decide) rfl ?_
      refine px_iconst (v := (2 : Int32)) C dL_setTimes_21 rfl ?_
      exact px_iret C hRt dL_setTimes_22 rfl rfl hk
  intro r2 μ1 hk
  refine px_i2l C dL_setTimes_10 ?_
  obtain ⟨o4, hk⟩ := hk
  replace hk := hk _ rfl
  refine px_last 5120 C dL_setTimes_11 rfl rfl rfl rfl o4 rfl ?_
  refine px_goto (tgt := 23) C dL_setTimes_12 (by decide) ?_
  refine px_iconst (v := (0 : Int32)) C dL_setTimes_23 rfl ?_
  exact px_iret C hRt dL_setTimes_24 rfl rfl hk
theorem dL_mark_0 : decode cL_mark 0 = .ok (.aload_n 3, 1) := by decide +kernel
theorem dL_mark_1 : decode cL_mark 1 = .ok (.iconst 0, 1) := by decide +kernel
theorem dL_mark_2 : decode cL_mark 2 = .ok (.aload_n 0, 1) := by decide +kernel
theorem dL_mark_3 : decode cL_mark 3 = .ok (.iload_n 1, 1) := by decide +kernel
theorem dL_mark_4 : decode cL_mark 4 = .ok (.iload_n 2, 1) := by decide +kernel
theorem dL_mark_5 : decode cL_mark 5 = .ok (.invokevirtual 31, 3) := by decide +kernel
theorem dL_mark_8 : decode cL_mark 8 = .ok (.ifCond .eq 7, 3) := by decide +kernel
theorem dL_mark_11 : decode cL_mark 11 = .ok (.lconst 1, 1) := by decide +kernel
theorem dL_mark_12 : decode cL_mark 12 = .ok (.goto 4, 3) := by decide +kernel
theorem dL_mark_15 : decode cL_mark 15 = .ok (.lconst 0, 1) := by decide +kernel
theorem dL_mark_16 : decode cL_mark 16 = .ok (.lastore, 1) := by decide +kernel
theorem dL_mark_17 : decode cL_mark 17 = .ok (.goto 7, 3) := by decide +kernel
theorem dL_mark_20 : decode cL_mark 20 = .ok (.astore 4, 2) := by decide +kernel
theorem dL_mark_22 : decode cL_mark 22 = .ok (.iconst 1, 1) := by decide +kernel
theorem dL_mark_23 : decode cL_mark 23 = .ok (.ireturn, 1) := by decide +kernel
theorem dL_mark_24 : decode cL_mark 24 = .ok (.iconst 0, 1) := by decide +kernel
theorem dL_mark_25 : decode cL_mark 25 = .ok (.ireturn, 1) := by decide +kernel
set_option maxRecDepth 100000 in
set_option maxHeartbeats 4000000 in
theorem L_mark_ok {l : Launch} {idx : List (Nat × Nat)} {μ : Mem} {a2 : Int32} {a3 : Int32} {P : Int32 → Mem → Prop} {X : String → Mem → Prop} (hl : l.stackTraces = false) (hI : IdxOK idx) (hk : L_mark_wp μ a2 a3 P) : PMet l yL_mark (.codeWith yL_mark cL_mark 5 (some .int) [(0, 17, 20, 21)]) 10 1 6 idx [pR 40 0, pI a2, pI a3, pR 80 0] μ (qI P) X := by
  refine PMetH_of (by decide +kernel) hl hI rfl (Nat.le_of_ble_eq_true rfl) (fun G _ _ C hRt hHR hT => ?_)
  show PW G 1 6 0 [some (pR 40 0), some (pI a2), some (pI a3), some (pR 80 0), none] [] μ
  unfold L_mark_wp at hk
  refine px_aload_n (i := 3) C dL_mark_0 rfl rfl ?_
  refine px_iconst (v := (0 : Int32)) C dL_mark_1 rfl ?_
  refine px_aload_n (i := 0) C dL_mark_2 rfl rfl ?_
  refine px_iload_n (i := 1) C dL_mark_3 rfl rfl ?_
  refine px_iload_n (i := 2) C dL_mark_4 rfl rfl ?_
  refine px_callVHi (h := 9) (rc' := 0) (rs' := 0) C (HR_le hHR (Nat.le_of_ble_eq_true rfl)) hT dL_mark_5 (gw4 19 rfl rfl) mv_X8_mark (w8_mark_ok (PCx_l C) (PCx_I C) hk) rfl rfl rfl rfl rfl (Nat.le_of_ble_eq_true rfl) (Nat.le_of_ble_eq_true rfl) (Nat.le_of_ble_eq_true rfl) (Nat.le_of_ble_eq_true rfl) ?_ ?_
  · intro E μ3 hk
    rcases hk with ⟨rfl, hk⟩
    · refine ⟨[], ⟨0, 17, 20, 21⟩, [], rfl, (fun _ hz => absurd hz List.not_mem_nil), rfl, by decide, ⟨"java/lang/IndexOutOfBoundsException", (gw3 181 rfl rfl), List.mem_append_left _ (List.mem_of_getElem? (i := 2) rfl)⟩, fun q9 => ?_⟩
      refine px_astorew (i := 4) C dL_mark_20 (by decide) rfl ?_
      refine px_iconst (v := (1 : Int32)) C dL_mark_22 rfl ?_
      exact px_iret C hRt dL_mark_23 rfl rfl hk
  intro r2 μ1 hk
  refine px_if_eq (tgt := 15) C dL_mark_8 (by decide) (fun c8 => ?_) (fun c8 => ?_)
  · replace hk := hk.1 c8
    refine px_lconst (v := (0 : Int32)) C dL_mark_15 rfl ?_
    obtain ⟨o4, hk⟩ := hk
    replace hk := hk _ rfl
    refine px_last 5120 C dL_mark_16 rfl rfl rfl rfl o4 rfl ?_
    refine px_goto (tgt := 24) C dL_mark_17 (by decide) ?_
    refine px_iconst (v := (0 : Int32)) C dL_mark_24 rfl ?_
    exact px_iret C hRt dL_mark_25 rfl rfl hk
  · replace hk := hk.2 c8
    refine px_lconst (v := (1 : Int32)) C dL_mark_11 rfl ?_
    refine px_goto (tgt := 16) C dL_mark_12 (by decide) ?_
    obtain ⟨o6, hk⟩ := hk
    replace hk := hk _ rfl
    refine px_last 5120 C dL_mark_16 rfl rfl rfl rfl o6 rfl ?_
    refine px_goto (tgt := 24) C dL_mark_17 (by decide) ?_
    refine px_iconst (v := (0 : Int32)) C dL_mark_24 rfl ?_
    exact px_iret C hRt dL_mark_25 rfl rfl hk
theorem dL_span_0 : decode cL_span 0 = .ok (.aload_n 3, 1) := by decide +kernel
theorem dL_span_1 : decode cL_span 1 = .ok (.iconst 0, 1) := by decide +kernel
theorem dL_span_2 : decode cL_span 2 = .ok (.aload_n 0, 1) := by decide +kernel
theorem dL_span_3 : decode cL_span 3 = .ok (.iload_n 1, 1) := by decide +kernel
theorem dL_span_4 : decode cL_span 4 = .ok (.iload_n 2, 1) := by decide +kernel
theorem dL_span_5 : decode cL_span 5 = .ok (.invokevirtual 35, 3) := by decide +kernel
theorem dL_span_8 : decode cL_span 8 = .ok (.i2l, 1) := by decide +kernel
theorem dL_span_9 : decode cL_span 9 = .ok (.lastore, 1) := by decide +kernel
theorem dL_span_10 : decode cL_span 10 = .ok (.goto 11, 3) := by decide +kernel
theorem dL_span_13 : decode cL_span 13 = .ok (.astore 4, 2) := by decide +kernel
theorem dL_span_15 : decode cL_span 15 = .ok (.iconst 1, 1) := by decide +kernel
theorem dL_span_16 : decode cL_span 16 = .ok (.ireturn, 1) := by decide +kernel
theorem dL_span_17 : decode cL_span 17 = .ok (.astore 4, 2) := by decide +kernel
theorem dL_span_19 : decode cL_span 19 = .ok (.iconst 2, 1) := by decide +kernel
theorem dL_span_20 : decode cL_span 20 = .ok (.ireturn, 1) := by decide +kernel
theorem dL_span_21 : decode cL_span 21 = .ok (.iconst 0, 1) := by decide +kernel
theorem dL_span_22 : decode cL_span 22 = .ok (.ireturn, 1) := by decide +kernel
set_option maxRecDepth 100000 in
set_option maxHeartbeats 4000000 in
theorem L_span_ok {l : Launch} {idx : List (Nat × Nat)} {μ : Mem} {a2 : Int32} {a3 : Int32} {P : Int32 → Mem → Prop} {X : String → Mem → Prop} (hl : l.stackTraces = false) (hI : IdxOK idx) (hk : L_span_wp μ a2 a3 P) : PMet l yL_span (.codeWith yL_span cL_span 5 (some .int) [(0, 10, 13, 21), (0, 10, 17, 13)]) 10 2 12 idx [pR 40 0, pI a2, pI a3, pR 80 0] μ (qI P) X := by
  refine PMetH_of (by decide +kernel) hl hI rfl (Nat.le_of_ble_eq_true rfl) (fun G _ _ C hRt hHR hT => ?_)
  show PW G 2 12 0 [some (pR 40 0), some (pI a2), some (pI a3), some (pR 80 0), none] [] μ
  unfold L_span_wp at hk
  refine px_aload_n (i := 3) C dL_span_0 rfl rfl ?_
  refine px_iconst (v := (0 : Int32)) C dL_span_1 rfl ?_
  refine px_aload_n (i := 0) C dL_span_2 rfl rfl ?_
  refine px_iload_n (i := 1) C dL_span_3 rfl rfl ?_
  refine px_iload_n (i := 2) C dL_span_4 rfl rfl ?_
  refine px_callVHi (h := 9) (rc' := 0) (rs' := 0) C (HR_le hHR (Nat.le_of_ble_eq_true rfl)) hT dL_span_5 (gw4 28 rfl rfl) mv_X8_span (w8_span_ok (PCx_l C) (PCx_I C) hk) rfl rfl rfl rfl rfl (Nat.le_of_ble_eq_true rfl) (Nat.le_of_ble_eq_true rfl) (Nat.le_of_ble_eq_true rfl) (Nat.le_of_ble_eq_true rfl) ?_ ?_
  · intro E μ3 hk
    rcases hk with ⟨rfl, hk⟩ | ⟨rfl, hk⟩
    · refine ⟨[], ⟨0, 10, 13, 21⟩, [⟨0, 10, 17, 13⟩], rfl, (fun _ hz => absurd hz List.not_mem_nil), rfl, by decide, ⟨"java/lang/IndexOutOfBoundsException", (gw3 181 rfl rfl), List.mem_append_left _ (List.mem_of_getElem? (i := 2) rfl)⟩, fun q9 => ?_⟩
      refine px_astorew (i := 4) C dL_span_13 (by decide) rfl ?_
      refine px_iconst (v := (1 : Int32)) C dL_span_15 rfl ?_
      exact px_iret C hRt dL_span_16 rfl rfl hk
    · refine ⟨[⟨0, 10, 13, 21⟩], ⟨0, 10, 17, 13⟩, [], rfl, (List.forall_mem_cons.mpr ⟨Or.inr ⟨by decide, "java/lang/IndexOutOfBoundsException", (gw3 181 rfl rfl), List.mem_of_getElem? (i := 1) rfl⟩, (fun _ hz => absurd hz List.not_mem_nil)⟩), rfl, by decide, ⟨"java/lang/IllegalArgumentException", (gw3 59 rfl rfl), List.mem_append_left _ (List.mem_of_getElem? (i := 0) rfl)⟩, fun q9 => ?_⟩
      refine px_astorew (i := 4) C dL_span_17 (by decide) rfl ?_
      refine px_iconst (v := (2 : Int32)) C dL_span_19 rfl ?_
      exact px_iret C hRt dL_span_20 rfl rfl hk
  intro r2 μ1 hk
  refine px_i2l C dL_span_8 ?_
  obtain ⟨o4, hk⟩ := hk
  replace hk := hk _ rfl
  refine px_last 5120 C dL_span_9 rfl rfl rfl rfl o4 rfl ?_
  refine px_goto (tgt := 21) C dL_span_10 (by decide) ?_
  refine px_iconst (v := (0 : Int32)) C dL_span_21 rfl ?_
  exact px_iret C hRt dL_span_22 rfl rfl hk
theorem dL_offset_0 : decode cL_offset 0 = .ok (.aload_n 2, 1) := by decide +kernel
theorem dL_offset_1 : decode cL_offset 1 = .ok (.iconst 0, 1) := by decide +kernel
theorem dL_offset_2 : decode cL_offset 2 = .ok (.aload_n 0, 1) := by decide +kernel
theorem dL_offset_3 : decode cL_offset 3 = .ok (.iload_n 1, 1) := by decide +kernel
theorem dL_offset_4 : decode cL_offset 4 = .ok (.invokevirtual 38, 3) := by decide +kernel
theorem dL_offset_7 : decode cL_offset 7 = .ok (.i2l, 1) := by decide +kernel
theorem dL_offset_8 : decode cL_offset 8 = .ok (.lastore, 1) := by decide +kernel
theorem dL_offset_9 : decode cL_offset 9 = .ok (.goto 6, 3) := by decide +kernel
theorem dL_offset_12 : decode cL_offset 12 = .ok (.astore_n 3, 1) := by decide +kernel
theorem dL_offset_13 : decode cL_offset 13 = .ok (.iconst 1, 1) := by decide +kernel
theorem dL_offset_14 : decode cL_offset 14 = .ok (.ireturn, 1) := by decide +kernel
theorem dL_offset_15 : decode cL_offset 15 = .ok (.iconst 0, 1) := by decide +kernel
theorem dL_offset_16 : decode cL_offset 16 = .ok (.ireturn, 1) := by decide +kernel
set_option maxRecDepth 100000 in
set_option maxHeartbeats 4000000 in
theorem L_offset_ok {l : Launch} {idx : List (Nat × Nat)} {μ : Mem} {a2 : Int32} {P : Int32 → Mem → Prop} {X : String → Mem → Prop} (hl : l.stackTraces = false) (hI : IdxOK idx) (hk : L_offset_wp μ a2 P) : PMet l yL_offset (.codeWith yL_offset cL_offset 4 (some .int) [(0, 9, 12, 21)]) 10 1 6 idx [pR 40 0, pI a2, pR 80 0] μ (qI P) X := by
  refine PMetH_of (by decide +kernel) hl hI rfl (Nat.le_of_ble_eq_true rfl) (fun G _ _ C hRt hHR hT => ?_)
  show PW G 1 6 0 [some (pR 40 0), some (pI a2), some (pR 80 0), none] [] μ
  unfold L_offset_wp at hk
  refine px_aload_n (i := 2) C dL_offset_0 rfl rfl ?_
  refine px_iconst (v := (0 : Int32)) C dL_offset_1 rfl ?_
  refine px_aload_n (i := 0) C dL_offset_2 rfl rfl ?_
  refine px_iload_n (i := 1) C dL_offset_3 rfl rfl ?_
  refine px_callVHi (h := 9) (rc' := 0) (rs' := 0) C (HR_le hHR (Nat.le_of_ble_eq_true rfl)) hT dL_offset_4 (gw4 36 rfl rfl) mv_X8_offset (w8_offset_ok (PCx_l C) (PCx_I C) hk) rfl rfl rfl rfl rfl (Nat.le_of_ble_eq_true rfl) (Nat.le_of_ble_eq_true rfl) (Nat.le_of_ble_eq_true rfl) (Nat.le_of_ble_eq_true rfl) ?_ ?_
  · intro E μ3 hk
    rcases hk with ⟨rfl, hk⟩
    · refine ⟨[], ⟨0, 9, 12, 21⟩, [], rfl, (fun _ hz => absurd hz List.not_mem_nil), rfl, by decide, ⟨"java/lang/IndexOutOfBoundsException", (gw3 181 rfl rfl), List.mem_append_left _ (List.mem_of_getElem? (i := 2) rfl)⟩, fun q9 => ?_⟩
      refine px_astore_nw (i := 3) C dL_offset_12 rfl (by decide) rfl ?_
      refine px_iconst (v := (1 : Int32)) C dL_offset_13 rfl ?_
      exact px_iret C hRt dL_offset_14 rfl rfl hk
  intro r2 μ1 hk
  refine px_i2l C dL_offset_7 ?_
  obtain ⟨o4, hk⟩ := hk
  replace hk := hk _ rfl
  refine px_last 5120 C dL_offset_8 rfl rfl rfl rfl o4 rfl ?_
  refine px_goto (tgt := 15) C dL_offset_9 (by decide) ?_
  refine px_iconst (v := (0 : Int32)) C dL_offset_15 rfl ?_
  exact px_iret C hRt dL_offset_16 rfl rfl hk
theorem dL_freedom_0 : decode cL_freedom 0 = .ok (.aload_n 2, 1) := by decide +kernel
theorem dL_freedom_1 : decode cL_freedom 1 = .ok (.iconst 0, 1) := by decide +kernel
theorem dL_freedom_2 : decode cL_freedom 2 = .ok (.aload_n 0, 1) := by decide +kernel
theorem dL_freedom_3 : decode cL_freedom 3 = .ok (.iload_n 1, 1) := by decide +kernel
theorem dL_freedom_4 : decode cL_freedom 4 = .ok (.invokevirtual 41, 3) := by decide +kernel
theorem dL_freedom_7 : decode cL_freedom 7 = .ok (.i2l, 1) := by decide +kernel
theorem dL_freedom_8 : decode cL_freedom 8 = .ok (.lastore, 1) := by decide +kernel
theorem dL_freedom_9 : decode cL_freedom 9 = .ok (.goto 9, 3) := by decide +kernel
theorem dL_freedom_12 : decode cL_freedom 12 = .ok (.astore_n 3, 1) := by decide +kernel
theorem dL_freedom_13 : decode cL_freedom 13 = .ok (.iconst 1, 1) := by decide +kernel
theorem dL_freedom_14 : decode cL_freedom 14 = .ok (.ireturn, 1) := by decide +kernel
theorem dL_freedom_15 : decode cL_freedom 15 = .ok (.astore_n 3, 1) := by decide +kernel
theorem dL_freedom_16 : decode cL_freedom 16 = .ok (.iconst 2, 1) := by decide +kernel
theorem dL_freedom_17 : decode cL_freedom 17 = .ok (.ireturn, 1) := by decide +kernel
theorem dL_freedom_18 : decode cL_freedom 18 = .ok (.iconst 0, 1) := by decide +kernel
theorem dL_freedom_19 : decode cL_freedom 19 = .ok (.ireturn, 1) := by decide +kernel
set_option maxRecDepth 100000 in
set_option maxHeartbeats 4000000 in
theorem L_freedom_ok {l : Launch} {idx : List (Nat × Nat)} {μ : Mem} {a2 : Int32} {P : Int32 → Mem → Prop} {X : String → Mem → Prop} (hl : l.stackTraces = false) (hI : IdxOK idx) (hk : L_freedom_wp μ a2 P) : PMet l yL_freedom (.codeWith yL_freedom cL_freedom 4 (some .int) [(0, 9, 12, 21), (0, 9, 15, 44)]) 10 2 12 idx [pR 40 0, pI a2, pR 80 0] μ (qI P) X := by
  refine PMetH_of (by decide +kernel) hl hI rfl (Nat.le_of_ble_eq_true rfl) (fun G _ _ C hRt hHR hT => ?_)
  show PW G 2 12 0 [some (pR 40 0), some (pI a2), some (pR 80 0), none] [] μ
  unfold L_freedom_wp at hk
  refine px_aload_n (i := 2) C dL_freedom_0 rfl rfl ?_
  refine px_iconst (v := (0 : Int32)) C dL_freedom_1 rfl ?_
  refine px_aload_n (i := 0) C dL_freedom_2 rfl rfl ?_
  refine px_iload_n (i := 1) C dL_freedom_3 rfl rfl ?_
  refine px_callVHi (h := 9) (rc' := 0) (rs' := 0) C (HR_le hHR (Nat.le_of_ble_eq_true rfl)) hT dL_freedom_4 (gw4 49 rfl rfl) mv_X8_freedom (w8_freedom_ok (PCx_l C) (PCx_I C) hk) rfl rfl rfl rfl rfl (Nat.le_of_ble_eq_true rfl) (Nat.le_of_ble_eq_true rfl) (Nat.le_of_ble_eq_true rfl) (Nat.le_of_ble_eq_true rfl) ?_ ?_
  · intro E μ3 hk
    rcases hk with ⟨rfl, hk⟩ | ⟨rfl, hk⟩
    · refine ⟨[], ⟨0, 9, 12, 21⟩, [⟨0, 9, 15, 44⟩], rfl, (fun _ hz => absurd hz List.not_mem_nil), rfl, by decide, ⟨"java/lang/IndexOutOfBoundsException", (gw3 181 rfl rfl), List.mem_append_left _ (List.mem_of_getElem? (i := 2) rfl)⟩, fun q9 => ?_⟩
      refine px_astore_nw (i := 3) C dL_freedom_12 rfl (by decide) rfl ?_
      refine px_iconst (v := (1 : Int32)) C dL_freedom_13 rfl ?_
      exact px_iret C hRt dL_freedom_14 rfl rfl hk
    · refine ⟨[⟨0, 9, 12, 21⟩], ⟨0, 9, 15, 44⟩, [], rfl, (List.forall_mem_cons.mpr ⟨Or.inr ⟨by decide, "java/lang/IndexOutOfBoundsException", (gw3 181 rfl rfl), List.mem_of_getElem? (i := 17) rfl⟩, (fun _ hz => absurd hz List.not_mem_nil)⟩), rfl, by decide, ⟨"java/util/NoSuchElementException", (gw4 48 rfl rfl), List.mem_append_left _ (List.mem_of_getElem? (i := 3) rfl)⟩, fun q9 => ?_⟩
      refine px_astore_nw (i := 3) C dL_freedom_15 rfl (by decide) rfl ?_
      refine px_iconst (v := (2 : Int32)) C dL_freedom_16 rfl ?_
      exact px_iret C hRt dL_freedom_17 rfl rfl hk
  intro r2 μ1 hk
  refine px_i2l C dL_freedom_7 ?_
  obtain ⟨o4, hk⟩ := hk
  replace hk := hk _ rfl
  refine px_last 5120 C dL_freedom_8 rfl rfl rfl rfl o4 rfl ?_
  refine px_goto (tgt := 18) C dL_freedom_9 (by decide) ?_
  refine px_iconst (v := (0 : Int32)) C dL_freedom_18 rfl ?_
  exact px_iret C hRt dL_freedom_19 rfl rfl hk
