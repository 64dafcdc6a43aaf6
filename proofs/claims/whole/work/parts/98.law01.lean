theorem dL_isAccepted_0 : decode cL_isAccepted 0 = .ok (.aload_n 2, 1) := by decide +kernel
theorem dL_isAccepted_1 : decode cL_isAccepted 1 = .ok (.iconst 0, 1) := by decide +kernel
theorem dL_isAccepted_2 : decode cL_isAccepted 2 = .ok (.aload_n 0, 1) := by decide +kernel
theorem dL_isAccepted_3 : decode cL_isAccepted 3 = .ok (.iload_n 1, 1) := by decide +kernel
theorem dL_isAccepted_4 : decode cL_isAccepted 4 = .ok (.invokevirtual 46, 3) := by decide +kernel
theorem dL_isAccepted_7 : decode cL_isAccepted 7 = .ok (.ifCond .eq 7, 3) := by decide +kernel
theorem dL_isAccepted_10 : decode cL_isAccepted 10 = .ok (.lconst 1, 1) := by decide +kernel
theorem dL_isAccepted_11 : decode cL_isAccepted 11 = .ok (.goto 4, 3) := by decide +kernel
theorem dL_isAccepted_14 : decode cL_isAccepted 14 = .ok (.lconst 0, 1) := by decide +kernel
theorem dL_isAccepted_15 : decode cL_isAccepted 15 = .ok (.lastore, 1) := by decide +kernel
theorem dL_isAccepted_16 : decode cL_isAccepted 16 = .ok (.goto 9, 3) := by decide +kernel
theorem dL_isAccepted_19 : decode cL_isAccepted 19 = .ok (.astore_n 3, 1) := by decide +kernel
theorem dL_isAccepted_20 : decode cL_isAccepted 20 = .ok (.iconst 1, 1) := by decide +kernel
theorem dL_isAccepted_21 : decode cL_isAccepted 21 = .ok (.ireturn, 1) := by decide +kernel
theorem dL_isAccepted_22 : decode cL_isAccepted 22 = .ok (.astore_n 3, 1) := by decide +kernel
theorem dL_isAccepted_23 : decode cL_isAccepted 23 = .ok (.iconst 2, 1) := by decide +kernel
theorem dL_isAccepted_24 : decode cL_isAccepted 24 = .ok (.ireturn, 1) := by decide +kernel
theorem dL_isAccepted_25 : decode cL_isAccepted 25 = .ok (.iconst 0, 1) := by decide +kernel
theorem dL_isAccepted_26 : decode cL_isAccepted 26 = .ok (.ireturn, 1) := by decide +kernel
set_option maxRecDepth 100000 in
set_option maxHeartbeats 4000000 in
theorem L_isAccepted_ok {l : Launch} {idx : List (Nat × Nat)} {μ : Mem} {a2 : Int32} {P : Int32 → Mem → Prop} {X : String → Mem → Prop} (hl : l.stackTraces = false) (hI : IdxOK idx) (hk : L_isAccepted_wp μ a2 P) : PMet l yL_isAccepted (.codeWith yL_isAccepted cL_isAccepted 4 (some .int) [(0, 16, 19, 21), (0, 16, 22, 44)]) 10 2 12 idx [pR 40 0, pI a2, pR 80 0] μ (qI P) X := by
  refine PMetH_of (by decide +kernel) hl hI rfl (Nat.le_of_ble_eq_true rfl) (fun G _ _ C hRt hHR hT => ?_)
  show PW G 2 12 0 [some (pR 40 0), some (pI a2), some (pR 80 0), none] [] μ
  unfold L_isAccepted_wp at hk
  refine px_aload_n (i := 2) C dL_isAccepted_0 rfl rfl ?_
  refine px_iconst (v := (0 : Int32)) C dL_isAccepted_1 rfl ?_
  refine px_aload_n (i := 0) C dL_isAccepted_2 rfl rfl ?_
  refine px_iload_n (i := 1) C dL_isAccepted_3 rfl rfl ?_
  refine px_callVHi (h := 9) (rc' := 0) (rs' := 0) C (HR_le hHR (Nat.le_of_ble_eq_true rfl)) hT dL_isAccepted_4 (gw4 72 rfl rfl) mv_X8_isAccepted (w8_isAccepted_ok (PCx_l C) (PCx_I C) hk) rfl rfl rfl rfl rfl (Nat.le_of_ble_eq_true rfl) (Nat.le_of_ble_eq_true rfl) (Nat.le_of_ble_eq_true rfl) (Nat.le_of_ble_eq_true rfl) ?_ ?_
  · intro E μ3 hk
    rcases hk with ⟨rfl, hk⟩ | ⟨rfl, hk⟩
    · refine ⟨[], ⟨0, 16, 19, 21⟩, [⟨0, 16, 22, 44⟩], rfl, (fun _ hz => absurd hz List.not_mem_nil), rfl, by decide, ⟨"java/lang/IndexOutOfBoundsException", (gw3 181 rfl rfl), List.mem_append_left _ (List.mem_of_getElem? (i := 2) rfl)⟩, fun q9 => ?_⟩
      refine px_astore_nw (i := 3) C dL_isAccepted_19 rfl (by decide) rfl ?_
      refine px_iconst (v := (1 : Int32)) C dL_isAccepted_20 rfl ?_
      exact px_iret C hRt dL_isAccepted_21 rfl rfl hk
    · refine ⟨[⟨0, 16, 19, 21⟩], ⟨0, 16, 22, 44⟩, [], rfl, (List.forall_mem_cons.mpr ⟨Or.inr ⟨by decide, "java/lang/IndexOutOfBoundsException", (gw3 181 rfl rfl), List.mem_of_getElem? (i := 17) rfl⟩, (fun _ hz => absurd hz List.not_mem_nil)⟩), rfl, by decide, ⟨"java/util/NoSuchElementException", (gw4 48 rfl rfl), List.mem_append_left _ (List.mem_of_getElem? (i := 3) rfl)⟩, fun q9 => ?_⟩
      refine px_astore_nw (i := 3) C dL_isAccepted_22 rfl (by decide) rfl ?_
      refine px_iconst (v := (2 : Int32)) C dL_isAccepted_23 rfl ?_
      exact px_iret C hRt dL_isAccepted_24 rfl rfl hk
  intro r2 μ1 hk
  refine px_if_eq (tgt := 14) C dL_isAccepted_7 (by decide) (fun c8 => ?_) (fun c8 => ?_)
  · replace hk := hk.1 c8
    refine px_lconst (v := (0 : Int32)) C dL_isAccepted_14 rfl ?_
    obtain ⟨o4, hk⟩ := hk
    replace hk := hk _ rfl
    refine px_last 5120 C dL_isAccepted_15 rfl rfl rfl rfl o4 rfl ?_
    refine px_goto (tgt := 25) C dL_isAccepted_16 (by decide) ?_
    refine px_iconst (v := (0 : Int32)) C dL_isAccepted_25 rfl ?_
    exact px_iret C hRt dL_isAccepted_26 rfl rfl hk
  · replace hk := hk.2 c8
    refine px_lconst (v := (1 : Int32)) C dL_isAccepted_10 rfl ?_
    refine px_goto (tgt := 15) C dL_isAccepted_11 (by decide) ?_
    obtain ⟨o6, hk⟩ := hk
    replace hk := hk _ rfl
    refine px_last 5120 C dL_isAccepted_15 rfl rfl rfl rfl o6 rfl ?_
    refine px_goto (tgt := 25) C dL_isAccepted_16 (by decide) ?_
    refine px_iconst (v := (0 : Int32)) C dL_isAccepted_25 rfl ?_
    exact px_iret C hRt dL_isAccepted_26 rfl rfl hk
theorem dL_isInside_0 : decode cL_isInside 0 = .ok (.aload_n 2, 1) := by decide +kernel
theorem dL_isInside_1 : decode cL_isInside 1 = .ok (.iconst 0, 1) := by decide +kernel
theorem dL_isInside_2 : decode cL_isInside 2 = .ok (.aload_n 0, 1) := by decide +kernel
theorem dL_isInside_3 : decode cL_isInside 3 = .ok (.iload_n 1, 1) := by decide +kernel
theorem dL_isInside_4 : decode cL_isInside 4 = .ok (.invokevirtual 50, 3) := by decide +kernel
theorem dL_isInside_7 : decode cL_isInside 7 = .ok (.ifCond .eq 7, 3) := by decide +kernel
theorem dL_isInside_10 : decode cL_isInside 10 = .ok (.lconst 1, 1) := by decide +kernel
theorem dL_isInside_11 : decode cL_isInside 11 = .ok (.goto 4, 3) := by decide +kernel
theorem dL_isInside_14 : decode cL_isInside 14 = .ok (.lconst 0, 1) := by decide +kernel
theorem dL_isInside_15 : decode cL_isInside 15 = .ok (.lastore, 1) := by decide +kernel
theorem dL_isInside_16 : decode cL_isInside 16 = .ok (.goto 9, 3) := by decide +kernel
theorem dL_isInside_19 : decode cL_isInside 19 = .ok (.astore_n 3, 1) := by decide +kernel
theorem dL_isInside_20 : decode cL_isInside 20 = .ok (.iconst 1, 1) := by decide +kernel
theorem dL_isInside_21 : decode cL_isInside 21 = .ok (.ireturn, 1) := by decide +kernel
theorem dL_isInside_22 : decode cL_isInside 22 = .ok (.astore_n 3, 1) := by decide +kernel
theorem dL_isInside_23 : decode cL_isInside 23 = .ok (.iconst 2, 1) := by decide +kernel
theorem dL_isInside_24 : decode cL_isInside 24 = .ok (.ireturn, 1) := by decide +kernel
theorem dL_isInside_25 : decode cL_isInside 25 = .ok (.iconst 0, 1) := by decide +kernel
theorem dL_isInside_26 : decode cL_isInside 26 = .ok (.ireturn, 1) := by decide +kernel
set_option maxRecDepth 100000 in
set_option maxHeartbeats 4000000 in
theorem L_isInside_ok {l : Launch} {idx : List (Nat × Nat)} {μ : Mem} {a2 : Int32} {P : Int32 → Mem → Prop} {X : String → Mem → Prop} (hl : l.stackTraces = false) (hI : IdxOK idx) (hk : L_isInside_wp μ a2 P) : PMet l yL_isInside (.codeWith yL_isInside cL_isInside 4 (some .int) [(0, 16, 19, 21), (0, 16, 22, 44)]) 10 2 12 idx [pR 40 0, pI a2, pR 80 0] μ (qI P) X := by
  refine PMetH_of (by decide +kernel) hl hI rfl (Nat.le_of_ble_eq_true rfl) (fun G _ _ C hRt hHR hT => ?_)
  show PW G 2 12 0 [some (pR 40 0), some (pI a2), some (pR 80 0), none] [] μ
  unfold L_isInside_wp at hk
  refine px_aload_n (i := 2) C dL_isInside_0 rfl rfl ?_
  refine px_iconst (v := (0 : Int32)) C dL_isInside_1 rfl ?_
  refine px_aload_n (i := 0) C dL_isInside_2 rfl rfl ?_
  refine px_iload_n (i := 1) C dL_isInside_3 rfl rfl ?_
  refine px_callVHi (h := 9) (rc' := 0) (rs' := 0) C (HR_le hHR (Nat.le_of_ble_eq_true rfl)) hT dL_isInside_4 (gw4 80 rfl rfl) mv_X8_isInside (w8_isInside_ok (PCx_l C) (PCx_I C) hk) rfl rfl rfl rfl rfl (Nat.le_of_ble_eq_true rfl) (Nat.le_of_ble_eq_true rfl) (Nat.le_of_ble_eq_true rfl) (Nat.le_of_ble_eq_true rfl) ?_ ?_
  · intro E μ3 hk
    rcases hk with ⟨rfl, hk⟩ | ⟨rfl, hk⟩
    · refine ⟨[], ⟨0, 16, 19, 21⟩, [⟨0, 16, 22, 44⟩], rfl, (fun _ hz => absurd hz List.not_mem_nil), rfl, by decide, ⟨"java/lang/IndexOutOfBoundsException", (gw3 181 rfl rfl), List.mem_append_left _ (List.mem_of_getElem? (i := 2) rfl)⟩, fun q9 => ?_⟩
      refine px_astore_nw (i := 3) C dL_isInside_19 rfl (by decide) rfl ?_
      refine px_iconst (v := (1 : Int32)) C dL_isInside_20 rfl ?_
      exact px_iret C hRt dL_isInside_21 rfl rfl hk
    · refine ⟨[⟨0, 16, 19, 21⟩], ⟨0, 16, 22, 44⟩, [], rfl, (List.forall_mem_cons.mpr ⟨Or.inr ⟨by decide, "java/lang/IndexOutOfBoundsException", (gw3 181 rfl rfl), List.mem_of_getElem? (i := 17) rfl⟩, (fun _ hz => absurd hz List.not_mem_nil)⟩), rfl, by decide, ⟨"java/util/NoSuchElementException", (gw4 48 rfl rfl), List.mem_append_left _ (List.mem_of_getElem? (i := 3) rfl)⟩, fun q9 => ?_⟩
      refine px_astore_nw (i := 3) C dL_isInside_22 rfl (by decide) rfl ?_
      refine px_iconst (v := (2 : Int32)) C dL_isInside_23 rfl ?_
      exact px_iret C hRt dL_isInside_24 rfl rfl hk
  intro r2 μ1 hk
  refine px_if_eq (tgt := 14) C dL_isInside_7 (by decide) (fun c8 => ?_) (fun c8 => ?_)
  · replace hk := hk.1 c8
    refine px_lconst (v := (0 : Int32)) C dL_isInside_14 rfl ?_
    obtain ⟨o4, hk⟩ := hk
    replace hk := hk _ rfl
    refine px_last 5120 C dL_isInside_15 rfl rfl rfl rfl o4 rfl ?_
    refine px_goto (tgt := 25) C dL_isInside_16 (by decide) ?_
    refine px_iconst (v := (0 : Int32)) C dL_isInside_25 rfl ?_
    exact px_iret C hRt dL_isInside_26 rfl rfl hk
  · replace hk := hk.2 c8
    refine px_lconst (v := (1 : Int32)) C dL_isInside_10 rfl ?_
    refine px_goto (tgt := 15) C dL_isInside_11 (by decide) ?_
    obtain ⟨o6, hk⟩ := hk
    replace hk := hk _ rfl
    refine px_last 5120 C dL_isInside_15 rfl rfl rfl rfl o6 rfl ?_
    refine px_goto (tgt := 25) C dL_isInside_16 (by decide) ?_
    refine px_iconst (v := (0 : Int32)) C dL_isInside_25 rfl ?_
    exact px_iret C hRt dL_isInside_26 rfl rfl hk
theorem dL_corrected_0 : decode cL_corrected 0 = .ok (.aload_n 3, 1) := by decide +kernel
theorem dL_corrected_1 : decode cL_corrected 1 = .ok (.iconst 0, 1) := by decide +kernel
theorem dL_corrected_2 : decode cL_corrected 2 = .ok (.aload_n 0, 1) := by decide +kernel
theorem dL_corrected_3 : decode cL_corrected 3 = .ok (.iload_n 1, 1) := by decide +kernel
theorem dL_corrected_4 : decode cL_corrected 4 = .ok (.iload_n 2, 1) := by decide +kernel
theorem dL_corrected_5 : decode cL_corrected 5 = .ok (.invokevirtual 53, 3) := by decide +kernel
theorem dL_corrected_8 : decode cL_corrected 8 = .ok (.i2l, 1) := by decide +kernel
theorem dL_corrected_9 : decode cL_corrected 9 = .ok (.lastore, 1) := by decide +kernel
theorem dL_corrected_10 : decode cL_corrected 10 = .ok (.goto 7, 3) := by decide +kernel
theorem dL_corrected_13 : decode cL_corrected 13 = .ok (.astore 4, 2) := by decide +kernel
theorem dL_corrected_15 : decode cL_corrected 15 = .ok (.iconst 1, 1) := by decide +kernel
theorem dL_corrected_16 : decode cL_corrected 16 = .ok (.ireturn, 1) := by decide +kernel
theorem dL_corrected_17 : decode cL_corrected 17 = .ok (.iconst 0, 1) := by decide +kernel
theorem dL_corrected_18 : decode cL_corrected 18 = .ok (.ireturn, 1) := by decide +kernel
set_option maxRecDepth 100000 in
set_option maxHeartbeats 4000000 in
theorem L_corrected_ok {l : Launch} {idx : List (Nat × Nat)} {μ : Mem} {a2 : Int32} {a3 : Int32} {P : Int32 → Mem → Prop} {X : String → Mem → Prop} (hl : l.stackTraces = false) (hI : IdxOK idx) (hk : L_corrected_wp μ a2 a3 P) : PMet l yL_corrected (.codeWith yL_corrected cL_corrected 5 (some .int) [(0, 10, 13, 21)]) 10 1 6 idx [pR 40 0, pI a2, pI a3, pR 80 0] μ (qI P) X := by
  refine PMetH_of (by decide +kernel) hl hI rfl (Nat.le_of_ble_eq_true rfl) (fun G _ _ C hRt hHR hT => ?_)
  show PW G 1 6 0 [some (pR 40 0), some (pI a2), some (pI a3), some (pR 80 0), none] [] μ
  unfold L_corrected_wp at hk
  refine px_aload_n (i := 3) C dL_corrected_0 rfl rfl ?_
  refine px_iconst (v := (0 : Int32)) C dL_corrected_1 rfl ?_
  refine px_aload_n (i := 0) C dL_corrected_2 rfl rfl ?_
  refine px_iload_n (i := 1) C dL_corrected_3 rfl rfl ?_
  refine px_iload_n (i := 2) C dL_corrected_4 rfl rfl ?_
  refine px_callVHi (h := 9) (rc' := 0) (rs' := 0) C (HR_le hHR (Nat.le_of_ble_eq_true rfl)) hT dL_corrected_5 (gw4 88 rfl rfl) mv_X8_corrected (w8_corrected_ok (PCx_l C) (PCx_I C) hk) rfl rfl rfl rfl rfl (Nat.le_of_ble_eq_true rfl) (Nat.le_of_ble_eq_true rfl) (Nat.le_of_ble_eq_true rfl) (Nat.le_of_ble_eq_true rfl) ?_ ?_
  · intro E μ3 hk
    rcases hk with ⟨rfl, hk⟩
    · refine ⟨[], ⟨0, 10, 13, 21⟩, [], rfl, (fun _ hz => absurd hz List.not_mem_nil), rfl, by decide, ⟨"java/lang/IndexOutOfBoundsException", (gw3 181 rfl rfl), List.mem_append_left _ (List.mem_of_getElem? (i := 2) rfl)⟩, fun q9 => ?_⟩
      refine px_astorew (i := 4) C dL_corrected_13 (by decide) rfl ?_
      refine px_iconst (v := (1 : Int32)) C dL_corrected_15 rfl ?_
      exact px_iret C hRt dL_corrected_16 rfl rfl hk
  intro r2 μ1 hk
  refine px_i2l C dL_corrected_8 ?_
  obtain ⟨o4, hk⟩ := hk
  replace hk := hk _ rfl
  refine px_last 5120 C dL_corrected_9 rfl rfl rfl rfl o4 rfl ?_
  refine px_goto (tgt := 17) C dL_corrected_10 (by decide) ?_
  refine px_iconst (v := (0 : Int32)) C dL_corrected_17 rfl ?_
  exact px_iret C hRt dL_corrected_18 rfl rfl hk
theorem dL_explain_0 : decode cL_explain 0 = .ok (.aload_n 2, 1) := by decide +kernel
theorem dL_explain_1 : decode cL_explain 1 = .ok (.iconst 0, 1) := by decide +kernel
theorem dL_explain_2 : decode cL_explain 2 = .ok (.aload_n 0, 1) := by decide +kernel
theorem dL_explain_3 : decode cL_explain 3 = .ok (.iload_n 1, 1) := by decide +kernel
theorem dL_explain_4 : decode cL_explain 4 = .ok (.invokevirtual 57, 3) := by decide +kernel
theorem dL_explain_7 : decode cL_explain 7 = .ok (.i2l, 1) := by decide +kernel
theorem dL_explain_8 : decode cL_explain 8 = .ok (.lastore, 1) := by decide +kernel
theorem dL_explain_9 : decode cL_explain 9 = .ok (.goto 6, 3) := by decide +kernel
theorem dL_explain_12 : decode cL_explain 12 = .ok (.astore_n 3, 1) := by decide +kernel
theorem dL_explain_13 : decode cL_explain 13 = .ok (.iconst 1, 1) := by decide +kernel
theorem dL_explain_14 : decode cL_explain 14 = .ok (.ireturn, 1) := by decide +kernel
theorem dL_explain_15 : decode cL_explain 15 = .ok (.iconst 0, 1) := by decide +kernel
theorem dL_explain_16 : decode cL_explain 16 = .ok (.ireturn, 1) := by decide +kernel
set_option maxRecDepth 100000 in
set_option maxHeartbeats 4000000 in
theorem L_explain_ok {l : Launch} {idx : List (Nat × Nat)} {μ : Mem} {a2 : Int32} {P : Int32 → Mem → Prop} {X : String → Mem → Prop} (hl : l.stackTraces = false) (hI : IdxOK idx) (hk : L_explain_wp μ a2 P) : PMet l yL_explain (.codeWith yL_explain cL_explain 4 (some .int) [(0, 9, 12, 21)]) 10 1 6 idx [pR 40 0, pI a2, pR 80 0] μ (qI P) X := by
  refine PMetH_of (by decide +kernel) hl hI rfl (Nat.le_of_ble_eq_true rfl) (fun G _ _ C hRt hHR hT => ?_)
  show PW G 1 6 0 [some (pR 40 0), some (pI a2), some (pR 80 0), none] [] μ
  unfold L_explain_wp at hk
  refine px_aload_n (i := 2) C dL_explain_0 rfl rfl ?_
  refine px_iconst (v := (0 : Int32)) C dL_explain_1 rfl ?_
  refine px_aload_n (i := 0) C dL_explain_2 rfl rfl ?_
  refine px_iload_n (i := 1) C dL_explain_3 rfl rfl ?_
  refine px_callVHi (h := 9) (rc' := 0) (rs' := 0) C (HR_le hHR (Nat.le_of_ble_eq_true rfl)) hT dL_explain_4 (gw4 95 rfl rfl) mv_X8_explain (w8_explain_ok (PCx_l C) (PCx_I C) hk) rfl rfl rfl rfl rfl (Nat.le_of_ble_eq_true rfl) (Nat.le_of_ble_eq_true rfl) (Nat.le_of_ble_eq_true rfl) (Nat.le_of_ble_eq_true rfl) ?_ ?_
  · intro E μ3 hk
    rcases hk with ⟨rfl, hk⟩
    · refine ⟨[], ⟨0, 9, 12, 21⟩, [], rfl, (fun _ hz => absurd hz List.not_mem_nil), rfl, by decide, ⟨"java/lang/IndexOutOfBoundsException", (gw3 181 rfl rfl), List.mem_append_left _ (List.mem_of_getElem? (i := 2) rfl)⟩, fun q9 => ?_⟩
      refine px_astore_nw (i := 3) C dL_explain_12 rfl (by decide) rfl ?_
      refine px_iconst (v := (1 : Int32)) C dL_explain_13 rfl ?_
      exact px_iret C hRt dL_explain_14 rfl rfl hk
  intro r2 μ1 hk
  refine px_i2l C dL_explain_7 ?_
  obtain ⟨o4, hk⟩ := hk
  replace hk := hk _ rfl
  refine px_last 5120 C dL_explain_8 rfl rfl rfl rfl o4 rfl ?_
  refine px_goto (tgt := 15) C dL_explain_9 (by decide) ?_
  refine px_iconst (v := (0 : Int32)) C dL_explain_15 rfl ?_
  exact px_iret C hRt dL_explain_16 rfl rfl hk
theorem dL_root_0 : decode cL_root 0 = .ok (.aload_n 2, 1) := by decide +kernel
theorem dL_root_1 : decode cL_root 1 = .ok (.iconst 0, 1) := by decide +kernel
theorem dL_root_2 : decode cL_root 2 = .ok (.aload_n 0, 1) := by decide +kernel
theorem dL_root_3 : decode cL_root 3 = .ok (.iload_n 1, 1) := by decide +kernel
theorem dL_root_4 : decode cL_root 4 = .ok (.invokevirtual 60, 3) := by decide +kernel
theorem dL_root_7 : decode cL_root 7 = .ok (.i2l, 1) := by decide +kernel
theorem dL_root_8 : decode cL_root 8 = .ok (.lastore, 1) := by decide +kernel
theorem dL_root_9 : decode cL_root 9 = .ok (.goto 6, 3) := by decide +kernel
theorem dL_root_12 : decode cL_root 12 = .ok (.astore_n 3, 1) := by decide +kernel
theorem dL_root_13 : decode cL_root 13 = .ok (.iconst 1, 1) := by decide +kernel
theorem dL_root_14 : decode cL_root 14 = .ok (.ireturn, 1) := by decide +kernel
theorem dL_root_15 : decode cL_root 15 = .ok (.iconst 0, 1) := by decide +kernel
theorem dL_root_16 : decode cL_root 16 = .ok (.ireturn, 1) := by decide +kernel
set_option maxRecDepth 100000 in
set_option maxHeartbeats 4000000 in
theorem L_root_ok {l : Launch} {idx : List (Nat × Nat)} {μ : Mem} {a2 : Int32} {P : Int32 → Mem → Prop} {X : String → Mem → Prop} (hl : l.stackTraces = false) (hI : IdxOK idx) (hk : L_root_wp μ a2 P) : PMet l yL_root (.codeWith yL_root cL_root 4 (some .int) [(0, 9, 12, 21)]) 10 1 6 idx [pR 40 0, pI a2, pR 80 0] μ (qI P) X := by
  refine PMetH_of (by decide +kernel) hl hI rfl (Nat.le_of_ble_eq_true rfl) (fun G _ _ C hRt hHR hT => ?_)
  show PW G 1 6 0 [some (pR 40 0), some (pI a2), some (pR 80 0), none] [] μ
  unfold L_root_wp at hk
  refine px_aload_n (i := 2) C dL_root_0 rfl rfl ?_
  refine px_iconst (v := (0 : Int32)) C dL_root_1 rfl ?_
  refine px_aload_n (i := 0) C dL_root_2 rfl rfl ?_
  refine px_iload_n (i := 1) C dL_root_3 rfl rfl ?_
  refine px_callVHi (h := 9) (rc' := 0) (rs' := 0) C (HR_le hHR (Nat.le_of_ble_eq_true rfl)) hT dL_root_4 (gw4 102 rfl rfl) mv_X8_root (w8_root_ok (PCx_l C) (PCx_I C) hk) rfl rfl rfl rfl rfl (Nat.le_of_ble_eq_true rfl) (Nat.le_of_ble_eq_true rfl) (Nat.le_of_ble_eq_true rfl) (Nat.le_of_ble_eq_true rfl) ?_ ?_
  · intro E μ3 hk
    rcases hk with ⟨rfl, hk⟩
    · refine ⟨[], ⟨0, 9, 12, 21⟩, [], rfl, (fun _ hz => absurd hz List.not_mem_nil), rfl, by decide, ⟨"java/lang/IndexOutOfBoundsException", (gw3 181 rfl rfl), List.mem_append_left _ (List.mem_of_getElem? (i := 2) rfl)⟩, fun q9 => ?_⟩
      refine px_astore_nw (i := 3) C dL_root_12 rfl (by decide) rfl ?_
      refine px_iconst (v := (1 : Int32)) C dL_root_13 rfl ?_
      exact px_iret C hRt dL_root_14 rfl rfl hk
  intro r2 μ1 hk
  refine px_i2l C dL_root_7 ?_
  obtain ⟨o4, hk⟩ := hk
  replace hk := hk _ rfl
  refine px_last 5120 C dL_root_8 rfl rfl rfl rfl o4 rfl ?_
  refine px_goto (tgt := 15) C dL_root_9 (by decide) ?_
  refine px_iconst (v := (0 : Int32)) C dL_root_15 rfl ?_
  exact px_iret C hRt dL_root_16 rfl rfl hk
theorem dL_depth_0 : decode cL_depth 0 = .ok (.aload_n 2, 1) := by decide +kernel
theorem dL_depth_1 : decode cL_depth 1 = .ok (.iconst 0, 1) := by decide +kernel
theorem dL_depth_2 : decode cL_depth 2 = .ok (.aload_n 0, 1) := by decide +kernel
theorem dL_depth_3 : decode cL_depth 3 = .ok (.iload_n 1, 1) := by decide +kernel
theorem dL_depth_4 : decode cL_depth 4 = .ok (.invokevirtual 63, 3) := by decide +kernel
theorem dL_depth_7 : decode cL_depth 7 = .ok (.i2l, 1) := by decide +kernel
theorem dL_depth_8 : decode cL_depth 8 = .ok (.lastore, 1) := by decide +kernel
theorem dL_depth_9 : decode cL_depth 9 = .ok (.goto 6, 3) := by decide +kernel
theorem dL_depth_12 : decode cL_depth 12 = .ok (.astore_n 3, 1) := by decide +kernel
theorem dL_depth_13 : decode cL_depth 13 = .ok (.iconst 1, 1) := by decide +kernel
theorem dL_depth_14 : decode cL_depth 14 = .ok (.ireturn, 1) := by decide +kernel
theorem dL_depth_15 : decode cL_depth 15 = .ok (.iconst 0, 1) := by decide +kernel
theorem dL_depth_16 : decode cL_depth 16 = .ok (.ireturn, 1) := by decide +kernel
set_option maxRecDepth 100000 in
set_option maxHeartbeats 4000000 in
theorem L_depth_ok {l : Launch} {idx : List (Nat × Nat)} {μ : Mem} {a2 : Int32} {P : Int32 → Mem → Prop} {X : String → Mem → Prop} (hl : l.stackTraces = false) (hI : IdxOK idx) (hk : L_depth_wp μ a2 P) : PMet l yL_depth (.codeWith yL_depth cL_depth 4 (some .int) [(0, 9, 12, 21)]) 10 1 6 idx [pR 40 0, pI a2, pR 80 0] μ (qI P) X := by
  refine PMetH_of (by decide +kernel) hl hI rfl (Nat.le_of_ble_eq_true rfl) (fun G _ _ C hRt hHR hT => ?_)
  show PW G 1 6 0 [some (pR 40 0), some (pI a2), some (pR 80 0), none] [] μ
  unfold L_depth_wp at hk
  refine px_aload_n (i := 2) C dL_depth_0 rfl rfl ?_
  refine px_iconst (v := (0 : Int32)) C dL_depth_1 rfl ?_
  refine px_aload_n (i := 0) C dL_depth_2 rfl rfl ?_
  refine px_iload_n (i := 1) C dL_depth_3 rfl rfl ?_
  refine px_callVHi (h := 9) (rc' := 0) (rs' := 0) C (HR_le hHR (Nat.le_of_ble_eq_true rfl)) hT dL_depth_4 (gw4 117 rfl rfl) mv_X8_depth (w8_depth_ok (PCx_l C) (PCx_I C) hk) rfl rfl rfl rfl rfl (Nat.le_of_ble_eq_true rfl) (Nat.le_of_ble_eq_true rfl) (Nat.le_of_ble_eq_true rfl) (Nat.le_of_ble_eq_true rfl) ?_ ?_
  · intro E μ3 hk
    rcases hk with ⟨rfl, hk⟩
    · refine ⟨[], ⟨0, 9, 12, 21⟩, [], rfl, (fun _ hz => absurd hz List.not_mem_nil), rfl, by decide, ⟨"java/lang/IndexOutOfBoundsException", (gw3 181 rfl rfl), List.mem_append_left _ (List.mem_of_getElem? (i := 2) rfl)⟩, fun q9 => ?_⟩
      refine px_astore_nw (i := 3) C dL_depth_12 rfl (by decide) rfl ?_
      refine px_iconst (v := (1 : Int32)) C dL_depth_13 rfl ?_
      exact px_iret C hRt dL_depth_14 rfl rfl hk
  intro r2 μ1 hk
  refine px_i2l C dL_depth_7 ?_
  obtain ⟨o4, hk⟩ := hk
  replace hk := hk _ rfl
  refine px_last 5120 C dL_depth_8 rfl rfl rfl rfl o4 rfl ?_
  refine px_goto (tgt := 15) C dL_depth_9 (by decide) ?_
  refine px_iconst (v := (0 : Int32)) C dL_depth_15 rfl ?_
  exact px_iret C hRt dL_depth_16 rfl rfl hk
theorem dL_below_0 : decode cL_below 0 = .ok (.aload_n 3, 1) := by decide +kernel
theorem dL_below_1 : decode cL_below 1 = .ok (.iconst 0, 1) := by decide +kernel
theorem dL_below_2 : decode cL_below 2 = .ok (.aload_n 0, 1) := by decide +kernel
theorem dL_below_3 : decode cL_below 3 = .ok (.iload_n 1, 1) := by decide +kernel
theorem dL_below_4 : decode cL_below 4 = .ok (.iload_n 2, 1) := by decide +kernel
theorem dL_below_5 : decode cL_below 5 = .ok (.invokevirtual 66, 3) := by decide +kernel
theorem dL_below_8 : decode cL_below 8 = .ok (.i2l, 1) := by decide +kernel
theorem dL_below_9 : decode cL_below 9 = .ok (.lastore, 1) := by decide +kernel
theorem dL_below_10 : decode cL_below 10 = .ok (.goto 11, 3) := by decide +kernel
theorem dL_below_13 : decode cL_below 13 = .ok (.astore 4, 2) := by decide +kernel
theorem dL_below_15 : decode cL_below 15 = .ok (.iconst 1, 1) := by decide +kernel
theorem dL_below_16 : decode cL_below 16 = .ok (.ireturn, 1) := by decide +kernel
theorem dL_below_17 : decode cL_below 17 = .ok (.astore 4, 2) := by decide +kernel
theorem dL_below_19 : decode cL_below 19 = .ok (.iconst 2, 1) := by decide +kernel
theorem dL_below_20 : decode cL_below 20 = .ok (.ireturn, 1) := by decide +kernel
theorem dL_below_21 : decode cL_below 21 = .ok (.iconst 0, 1) := by decide +kernel
theorem dL_below_22 : decode cL_below 22 = .ok (.ireturn, 1) := by decide +kernel
set_option maxRecDepth 100000 in
set_option maxHeartbeats 4000000 in
theorem L_below_ok {l : Launch} {idx : List (Nat × Nat)} {μ : Mem} {a2 : Int32} {a3 : Int32} {P : Int32 → Mem → Prop} {X : String → Mem → Prop} (hl : l.stackTraces = false) (hI : IdxOK idx) (hk : L_below_wp μ a2 a3 P) : PMet l yL_below (.codeWith yL_below cL_below 5 (some .int) [(0, 10, 13, 21), (0, 10, 17, 44)]) 11 2 12 idx [pR 40 0, pI a2, pI a3, pR 80 0] μ (qI P) X := by
  refine PMetH_of (by decide +kernel) hl hI rfl (Nat.le_of_ble_eq_true rfl) (fun G _ _ C hRt hHR hT => ?_)
  show PW G 2 12 0 [some (pR 40 0), some (pI a2), some (pI a3), some (pR 80 0), none] [] μ
  unfold L_below_wp at hk
  refine px_aload_n (i := 3) C dL_below_0 rfl rfl ?_
  refine px_iconst (v := (0 : Int32)) C dL_below_1 rfl ?_
  refine px_aload_n (i := 0) C dL_below_2 rfl rfl ?_
  refine px_iload_n (i := 1) C dL_below_3 rfl rfl ?_
  refine px_iload_n (i := 2) C dL_below_4 rfl rfl ?_
  refine px_callVHi (h := 10) (rc' := 0) (rs' := 0) C (HR_le hHR (Nat.le_of_ble_eq_true rfl)) hT dL_below_5 (gw4 128 rfl rfl) mv_X8_below (w8_below_ok (PCx_l C) (PCx_I C) hk) rfl rfl rfl rfl rfl (Nat.le_of_ble_eq_true rfl) (Nat.le_of_ble_eq_true rfl) (Nat.le_of_ble_eq_true rfl) (Nat.le_of_ble_eq_true rfl) ?_ ?_
  · intro E μ3 hk
    rcases hk with ⟨rfl, hk⟩ | ⟨rfl, hk⟩
    · refine ⟨[], ⟨0, 10, 13, 21⟩, [⟨0, 10, 17, 44⟩], rfl, (fun _ hz => absurd hz List.not_mem_nil), rfl, by decide, ⟨"java/lang/IndexOutOfBoundsException", (gw3 181 rfl rfl), List.mem_append_left _ (List.mem_of_getElem? (i := 2) rfl)⟩, fun q9 => ?_⟩
      refine px_astorew (i := 4) C dL_below_13 (by decide) rfl ?_
      refine px_iconst (v := (1 : Int32)) C dL_below_15 rfl ?_
      exact px_iret C hRt dL_below_16 rfl rfl hk
    · refine ⟨[⟨0, 10, 13, 21⟩], ⟨0, 10, 17, 44⟩, [], rfl, (List.forall_mem_cons.mpr ⟨Or.inr ⟨by decide, "java/lang/IndexOutOfBoundsException", (gw3 181 rfl rfl), List.mem_of_getElem? (i := 17) rfl⟩, (fun _ hz => absurd hz List.not_mem_nil)⟩), rfl, by decide, ⟨"java/util/NoSuchElementException", (gw4 48 rfl rfl), List.mem_append_left _ (List.mem_of_getElem? (i := 3) rfl)⟩, fun q9 => ?_⟩
      refine px_astorew (i := 4) C dL_below_17 (by decide) rfl ?_
      refine px_iconst (v := (2 : Int32)) C dL_below_19 rfl ?_
      exact px_iret C hRt dL_below_20 rfl rfl hk
  intro r2 μ1 hk
  refine px_i2l C dL_below_8 ?_
  obtain ⟨o4, hk⟩ := hk
  replace hk := hk _ rfl
  refine px_last 5120 C dL_below_9 rfl rfl rfl rfl o4 rfl ?_
  refine px_goto (tgt := 21) C dL_below_10 (by decide) ?_
  refine px_iconst (v := (0 : Int32)) C dL_below_21 rfl ?_
  exact px_iret C hRt dL_below_22 rfl rfl hk
theorem dL_childCount_0 : decode cL_childCount 0 = .ok (.aload_n 3, 1) := by decide +kernel
theorem dL_childCount_1 : decode cL_childCount 1 = .ok (.iconst 0, 1) := by decide +kernel
theorem dL_childCount_2 : decode cL_childCount 2 = .ok (.aload_n 0, 1) := by decide +kernel
theorem dL_childCount_3 : decode cL_childCount 3 = .ok (.iload_n 1, 1) := by decide +kernel
theorem dL_childCount_4 : decode cL_childCount 4 = .ok (.iload_n 2, 1) := by decide +kernel
theorem dL_childCount_5 : decode cL_childCount 5 = .ok (.invokevirtual 69, 3) := by decide +kernel
theorem dL_childCount_8 : decode cL_childCount 8 = .ok (.i2l, 1) := by decide +kernel
theorem dL_childCount_9 : decode cL_childCount 9 = .ok (.lastore, 1) := by decide +kernel
theorem dL_childCount_10 : decode cL_childCount 10 = .ok (.goto 11, 3) := by decide +kernel
theorem dL_childCount_13 : decode cL_childCount 13 = .ok (.astore 4, 2) := by decide +kernel
theorem dL_childCount_15 : decode cL_childCount 15 = .ok (.iconst 1, 1) := by decide +kernel
theorem dL_childCount_16 : decode cL_childCount 16 = .ok (.ireturn, 1) := by decide +kernel
theorem dL_childCount_17 : decode cL_childCount 17 = .ok (.astore 4, 2) := by decide +kernel
theorem dL_childCount_19 : decode cL_childCount 19 = .ok (.iconst 2, 1) := by decide +kernel
theorem dL_childCount_20 : decode cL_childCount 20 = .ok (.ireturn, 1) := by decide +kernel
theorem dL_childCount_21 : decode cL_childCount 21 = .ok (.iconst 0, 1) := by decide +kernel
theorem dL_childCount_22 : decode cL_childCount 22 = .ok (.ireturn, 1) := by decide +kernel
set_option maxRecDepth 100000 in
set_option maxHeartbeats 4000000 in
theorem L_childCount_ok {l : Launch} {idx : List (Nat × Nat)} {μ : Mem} {a2 : Int32} {a3 : Int32} {P : Int32 → Mem → Prop} {X : String → Mem → Prop} (hl : l.stackTraces = false) (hI : IdxOK idx) (hk : L_childCount_wp μ a2 a3 P) : PMet l yL_childCount (.codeWith yL_childCount cL_childCount 5 (some .int) [(0, 10, 13, 21), (0, 10, 17, 44)]) 11 2 12 idx [pR 40 0, pI a2, pI a3, pR 80 0] μ (qI P) X := by
  refine PMetH_of (by decide +kernel) hl hI rfl (Nat.le_of_ble_eq_true rfl) (fun G _ _ C hRt hHR hT => ?_)
  show PW G 2 12 0 [some (pR 40 0), some (pI a2), some (pI a3), some (pR 80 0), none] [] μ
  unfold L_childCount_wp at hk
  refine px_aload_n (i := 3) C dL_childCount_0 rfl rfl ?_
  refine px_iconst (v := (0 : Int32)) C dL_childCount_1 rfl ?_
  refine px_aload_n (i := 0) C dL_childCount_2 rfl rfl ?_
  refine px_iload_n (i := 1) C dL_childCount_3 rfl rfl ?_
  refine px_iload_n (i := 2) C dL_childCount_4 rfl rfl ?_
  refine px_callVHi (h := 10) (rc' := 0) (rs' := 0) C (HR_le hHR (Nat.le_of_ble_eq_true rfl)) hT dL_childCount_5 (gw4 170 rfl rfl) mv_X8_childCount (w8_childCount_ok (PCx_l C) (PCx_I C) hk) rfl rfl rfl rfl rfl (Nat.le_of_ble_eq_true rfl) (Nat.le_of_ble_eq_true rfl) (Nat.le_of_ble_eq_true rfl) (Nat.le_of_ble_eq_true rfl) ?_ ?_
  · intro E μ3 hk
    rcases hk with ⟨rfl, hk⟩ | ⟨rfl, hk⟩
    · refine ⟨[], ⟨0, 10, 13, 21⟩, [⟨0, 10, 17, 44⟩], rfl, (fun _ hz => absurd hz List.not_mem_nil), rfl, by decide, ⟨"java/lang/IndexOutOfBoundsException", (gw3 181 rfl rfl), List.mem_append_left _ (List.mem_of_getElem? (i := 2) rfl)⟩, fun q9 => ?_⟩
      refine px_astorew (i := 4) C dL_childCount_13 (by decide) rfl ?_
      refine px_iconst (v := (1 : Int32)) C dL_childCount_15 rfl ?_
      exact px_iret C hRt dL_childCount_16 rfl rfl hk
    · refine ⟨[⟨0, 10, 13, 21⟩], ⟨0, 10, 17, 44⟩, [], rfl, (List.forall_mem_cons.mpr ⟨Or.inr ⟨by decide, "java/lang/IndexOutOfBoundsException", (gw3 181 rfl rfl), List.mem_of_getElem? (i := 17) rfl⟩, (fun _ hz => absurd hz List.not_mem_nil)⟩), rfl, by decide, ⟨"java/util/NoSuchElementException", (gw4 48 rfl rfl), List.mem_append_left _ (List.mem_of_getElem? (i := 3) rfl)⟩, fun q9 => ?_⟩
      refine px_astorew (i := 4) C dL_childCount_17 (by decide) rfl ?_
      refine px_iconst (v := (2 : Int32)) C dL_childCount_19 rfl ?_
      exact px_iret C hRt dL_childCount_20 rfl rfl hk
  intro r2 μ1 hk
  refine px_i2l C dL_childCount_8 ?_
  obtain ⟨o4, hk⟩ := hk
  replace hk := hk _ rfl
  refine px_last 5120 C dL_childCount_9 rfl rfl rfl rfl o4 rfl ?_
  refine px_goto (tgt := 21) C dL_childCount_10 (by decide) ?_
  refine px_iconst (v := (0 : Int32)) C dL_childCount_21 rfl ?_
  exact px_iret C hRt dL_childCount_22 rfl rfl hk
