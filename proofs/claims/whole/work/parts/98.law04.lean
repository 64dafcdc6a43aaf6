theorem dL_activity_0 : decode cL_activity 0 = .ok (.aload_n 3, 1) := by decide +kernel
theorem dL_activity_1 : decode cL_activity 1 = .ok (.iconst 0, 1) := by decide +kernel
theorem dL_activity_2 : decode cL_activity 2 = .ok (.aload_n 0, 1) := by decide +kernel
theorem dL_activity_3 : decode cL_activity 3 = .ok (.iload_n 1, 1) := by decide +kernel
theorem dL_activity_4 : decode cL_activity 4 = .ok (.iload_n 2, 1) := by decide +kernel
theorem dL_activity_5 : decode cL_activity 5 = .ok (.invokevirtual 125, 3) := by decide +kernel
theorem dL_activity_8 : decode cL_activity 8 = .ok (.f2d, 1) := by decide +kernel
theorem dL_activity_9 : decode cL_activity 9 = .ok (.dastore, 1) := by decide +kernel
theorem dL_activity_10 : decode cL_activity 10 = .ok (.goto 15, 3) := by decide +kernel
theorem dL_activity_13 : decode cL_activity 13 = .ok (.astore 4, 2) := by decide +kernel
theorem dL_activity_15 : decode cL_activity 15 = .ok (.iconst 1, 1) := by decide +kernel
theorem dL_activity_16 : decode cL_activity 16 = .ok (.ireturn, 1) := by decide +kernel
theorem dL_activity_17 : decode cL_activity 17 = .ok (.astore 4, 2) := by decide +kernel
theorem dL_activity_19 : decode cL_activity 19 = .ok (.iconst 2, 1) := by decide +kernel
theorem dL_activity_20 : decode cL_activity 20 = .ok (.ireturn, 1) := by decide +kernel
theorem dL_activity_21 : decode cL_activity 21 = .ok (.astore 4, 2) := by decide +kernel
theorem dL_activity_23 : decode cL_activity 23 = .ok (.iconst 3, 1) := by decide +kernel
theorem dL_activity_24 : decode cL_activity 24 = .ok (.ireturn, 1) := by decide +kernel
theorem dL_activity_25 : decode cL_activity 25 = .ok (.iconst 0, 1) := by decide +kernel
theorem dL_activity_26 : decode cL_activity 26 = .ok (.ireturn, 1) := by decide +kernel
set_option maxRecDepth 100000 in
set_option maxHeartbeats 4000000 in
theorem L_activity_ok {l : Launch} {idx : List (Nat × Nat)} {μ : Mem} {a2 : Int32} {a3 : Int32} {P : Int32 → Mem → Prop} {X : String → Mem → Prop} (hl : l.stackTraces = false) (hI : IdxOK idx) (hk : L_activity_wp μ a2 a3 P) : PMet l yL_activity (.codeWith yL_activity cL_activity 5 (some .int) [(0, 10, 13, 21), (0, 10, 17, 44), (0, 10, 21, 114)]) 11 4 24 idx [pR 40 0, pI a2, pI a3, pR 81 0] μ (qI P) X := by
  refine PMetH_of (by decide +kernel) hl hI rfl (Nat.le_of_ble_eq_true rfl) (fun G _ _ C hRt hHR hT => ?_)
  show PW G 4 24 0 [some (pR 40 0), some (pI a2), some (pI a3), some (pR 81 0), none] [] μ
  unfold L_activity_wp at hk
  refine px_aload_n (i := 3) C dL_activity_0 rfl rfl ?_
  refine px_iconst (v := (0 : Int32)) C dL_activity_1 rfl ?_
  refine px_aload_n (i := 0) C dL_activity_2 rfl rfl ?_
  refine px_iload_n (i := 1) C dL_activity_3 rfl rfl ?_
  refine px_iload_n (i := 2) C dL_activity_4 rfl rfl ?_
  refine px_callVHf (h := 10) (rc' := 0) (rs' := 0) C (HR_le hHR (Nat.le_of_ble_eq_true rfl)) hT dL_activity_5 (gw5 224 rfl rfl) mv_X8_activity (w8_activity_ok (PCx_l C) (PCx_I C) hk) rfl rfl rfl rfl rfl (Nat.le_of_ble_eq_true rfl) (Nat.le_of_ble_eq_true rfl) (Nat.le_of_ble_eq_true rfl) (Nat.le_of_ble_eq_true rfl) ?_ ?_
  · intro E μ3 hk
    rcases hk with ⟨rfl, hk⟩ | ⟨rfl, hk⟩ | ⟨rfl, hk⟩
    · refine ⟨[], ⟨0, 10, 13, 21⟩, [⟨0, 10, 17, 44⟩, ⟨0, 10, 21, 114⟩], rfl, (fun _ hz => absurd hz List.not_mem_nil), rfl, by decide, ⟨"java/lang/IndexOutOfBoundsException", (gw3 181 rfl rfl), List.mem_append_left _ (List.mem_of_getElem? (i := 2) rfl)⟩, fun q9 => ?_⟩
      refine px_astorew (i := 4) C dL_activity_13 (by decide) rfl ?_
      refine px_iconst (v := (1 : Int32)) C dL_activity_15 rfl ?_
      exact px_iret C hRt dL_activity_16 rfl rfl hk
    · refine ⟨[⟨0, 10, 13, 21⟩], ⟨0, 10, 17, 44⟩, [⟨0, 10, 21, 114⟩], rfl, (List.forall_mem_cons.mpr ⟨Or.inr ⟨by decide, "java/lang/IndexOutOfBoundsException", (gw3 181 rfl rfl), List.mem_of_getElem? (i := 17) rfl⟩, (fun _ hz => absurd hz List.not_mem_nil)⟩), rfl, by decide, ⟨"java/util/NoSuchElementException", (gw4 48 rfl rfl), List.mem_append_left _ (List.mem_of_getElem? (i := 3) rfl)⟩, fun q9 => ?_⟩
      refine px_astorew (i := 4) C dL_activity_17 (by decide) rfl ?_
      refine px_iconst (v := (2 : Int32)) C dL_activity_19 rfl ?_
      exact px_iret C hRt dL_activity_20 rfl rfl hk
    · refine ⟨[⟨0, 10, 13, 21⟩, ⟨0, 10, 17, 44⟩], ⟨0, 10, 21, 114⟩, [], rfl, (List.forall_mem_cons.mpr ⟨Or.inr ⟨by decide, "java/lang/IndexOutOfBoundsException", (gw3 181 rfl rfl), List.mem_of_getElem? (i := 22) rfl⟩, (List.forall_mem_cons.mpr ⟨Or.inr ⟨by decide, "java/util/NoSuchElementException", (gw4 48 rfl rfl), List.mem_of_getElem? (i := 23) rfl⟩, (fun _ hz => absurd hz List.not_mem_nil)⟩)⟩), rfl, by decide, ⟨"java/lang/ArithmeticException", (gw5 122 rfl rfl), List.mem_append_left _ (List.mem_of_getElem? (i := 4) rfl)⟩, fun q9 => ?_⟩
      refine px_astorew (i := 4) C dL_activity_21 (by decide) rfl ?_
      refine px_iconst (v := (3 : Int32)) C dL_activity_23 rfl ?_
      exact px_iret C hRt dL_activity_24 rfl rfl hk
  intro r2 μ1 hk
  obtain ⟨o4, hk⟩ := hk
  refine px_f2d C dL_activity_8 o4 ?_
  obtain ⟨o5, hk⟩ := hk
  replace hk := hk _ rfl
  refine px_dast 5184 C dL_activity_9 rfl rfl rfl rfl o5 ?_
  refine px_goto (tgt := 25) C dL_activity_10 (by decide) ?_
  refine px_iconst (v := (0 : Int32)) C dL_activity_25 rfl ?_
  exact px_iret C hRt dL_activity_26 rfl rfl hk
theorem dL_busiest_0 : decode cL_busiest 0 = .ok (.aload_n 2, 1) := by decide +kernel
theorem dL_busiest_1 : decode cL_busiest 1 = .ok (.iconst 0, 1) := by decide +kernel
theorem dL_busiest_2 : decode cL_busiest 2 = .ok (.aload_n 0, 1) := by decide +kernel
theorem dL_busiest_3 : decode cL_busiest 3 = .ok (.iload_n 1, 1) := by decide +kernel
theorem dL_busiest_4 : decode cL_busiest 4 = .ok (.invokevirtual 129, 3) := by decide +kernel
theorem dL_busiest_7 : decode cL_busiest 7 = .ok (.i2l, 1) := by decide +kernel
theorem dL_busiest_8 : decode cL_busiest 8 = .ok (.lastore, 1) := by decide +kernel
theorem dL_busiest_9 : decode cL_busiest 9 = .ok (.goto 12, 3) := by decide +kernel
theorem dL_busiest_12 : decode cL_busiest 12 = .ok (.astore_n 3, 1) := by decide +kernel
theorem dL_busiest_13 : decode cL_busiest 13 = .ok (.iconst 1, 1) := by decide +kernel
theorem dL_busiest_14 : decode cL_busiest 14 = .ok (.ireturn, 1) := by decide +kernel
theorem dL_busiest_15 : decode cL_busiest 15 = .ok (.astore_n 3, 1) := by decide +kernel
theorem dL_busiest_16 : decode cL_busiest 16 = .ok (.iconst 2, 1) := by decide +kernel
theorem dL_busiest_17 : decode cL_busiest 17 = .ok (.ireturn, 1) := by decide +kernel
theorem dL_busiest_18 : decode cL_busiest 18 = .ok (.astore_n 3, 1) := by decide +kernel
theorem dL_busiest_19 : decode cL_busiest 19 = .ok (.iconst 3, 1) := by decide +kernel
theorem dL_busiest_20 : decode cL_busiest 20 = .ok (.ireturn, 1) := by decide +kernel
theorem dL_busiest_21 : decode cL_busiest 21 = .ok (.iconst 0, 1) := by decide +kernel
theorem dL_busiest_22 : decode cL_busiest 22 = .ok (.ireturn, 1) := by decide +kernel
set_option maxRecDepth 100000 in
set_option maxHeartbeats 4000000 in
theorem L_busiest_ok {l : Launch} {idx : List (Nat × Nat)} {μ : Mem} {a2 : Int32} {P : Int32 → Mem → Prop} {X : String → Mem → Prop} (hl : l.stackTraces = false) (hI : IdxOK idx) (hk : L_busiest_wp μ a2 P) : PMet l yL_busiest (.codeWith yL_busiest cL_busiest 4 (some .int) [(0, 9, 12, 21), (0, 9, 15, 44), (0, 9, 18, 114)]) 11 3 18 idx [pR 40 0, pI a2, pR 80 0] μ (qI P) X := by
  refine PMetH_of (by decide +kernel) hl hI rfl (Nat.le_of_ble_eq_true rfl) (fun G _ _ C hRt hHR hT => ?_)
  show PW G 3 18 0 [some (pR 40 0), some (pI a2), some (pR 80 0), none] [] μ
  unfold L_busiest_wp at hk
  refine px_aload_n (i := 2) C dL_busiest_0 rfl rfl ?_
  refine px_iconst (v := (0 : Int32)) C dL_busiest_1 rfl ?_
  refine px_aload_n (i := 0) C dL_busiest_2 rfl rfl ?_
  refine px_iload_n (i := 1) C dL_busiest_3 rfl rfl ?_
  refine px_callVHi (h := 10) (rc' := 0) (rs' := 0) C (HR_le hHR (Nat.le_of_ble_eq_true rfl)) hT dL_busiest_4 (gw6 0 rfl rfl) mv_X8_busiest (w8_busiest_ok (PCx_l C) (PCx_I C) hk) rfl rfl rfl rfl rfl (Nat.le_of_ble_eq_true rfl) (Nat.le_of_ble_eq_true rfl) (Nat.le_of_ble_eq_true rfl) (Nat.le_of_ble_eq_true rfl) ?_ ?_
  · intro E μ3 hk
    rcases hk with ⟨rfl, hk⟩ | ⟨rfl, hk⟩ | ⟨rfl, hk⟩
    · refine ⟨[], ⟨0, 9, 12, 21⟩, [⟨0, 9, 15, 44⟩, ⟨0, 9, 18, 114⟩], rfl, (fun _ hz => absurd hz List.not_mem_nil), rfl, by decide, ⟨"java/lang/IndexOutOfBoundsException", (gw3 181 rfl rfl), List.mem_append_left _ (List.mem_of_getElem? (i := 2) rfl)⟩, fun q9 => ?_⟩
      refine px_astore_nw (i := 3) C dL_busiest_12 rfl (by decide) rfl ?_
      refine px_iconst (v := (1 : Int32)) C dL_busiest_13 rfl ?_
      exact px_iret C hRt dL_busiest_14 rfl rfl hk
    · refine ⟨[⟨0, 9, 12, 21⟩], ⟨0, 9, 15, 44⟩, [⟨0, 9, 18, 114⟩], rfl, (List.forall_mem_cons.mpr ⟨Or.inr ⟨by decide, "java/lang/IndexOutOfBoundsException", (gw3 181 rfl rfl), List.mem_of_getElem? (i := 17) rfl⟩, (fun _ hz => absurd hz List.not_mem_nil)⟩), rfl, by decide, ⟨"java/util/NoSuchElementException", (gw4 48 rfl rfl), List.mem_append_left _ (List.mem_of_getElem? (i := 3) rfl)⟩, fun q9 => ?_⟩
      refine px_astore_nw (i := 3) C dL_busiest_15 rfl (by decide) rfl ?_
      refine px_iconst (v := (2 : Int32)) C dL_busiest_16 rfl ?_
      exact px_iret C hRt dL_busiest_17 rfl rfl hk
    · refine ⟨[⟨0, 9, 12, 21⟩, ⟨0, 9, 15, 44⟩], ⟨0, 9, 18, 114⟩, [], rfl, (List.forall_mem_cons.mpr ⟨Or.inr ⟨by decide, "java/lang/IndexOutOfBoundsException", (gw3 181 rfl rfl), List.mem_of_getElem? (i := 22) rfl⟩, (List.forall_mem_cons.mpr ⟨Or.inr ⟨by decide, "java/util/NoSuchElementException", (gw4 48 rfl rfl), List.mem_of_getElem? (i := 23) rfl⟩, (fun _ hz => absurd hz List.not_mem_nil)⟩)⟩), rfl, by decide, ⟨"java/lang/ArithmeticException", (gw5 122 rfl rfl), List.mem_append_left _ (List.mem_of_getElem? (i := 4) rfl)⟩, fun q9 => ?_⟩
      refine px_astore_nw (i := 3) C dL_busiest_18 rfl (by decide) rfl ?_
      refine px_iconst (v := (3 : Int32)) C dL_busiest_19 rfl ?_
      exact px_iret C hRt dL_busiest_20 rfl rfl hk
  intro r2 μ1 hk
  refine px_i2l C dL_busiest_7 ?_
  obtain ⟨o4, hk⟩ := hk
  replace hk := hk _ rfl
  refine px_last 5120 C dL_busiest_8 rfl rfl rfl rfl o4 rfl ?_
  refine px_goto (tgt := 21) C dL_busiest_9 (by decide) ?_
  refine px_iconst (v := (0 : Int32)) C dL_busiest_21 rfl ?_
  exact px_iret C hRt dL_busiest_22 rfl rfl hk
theorem dL_link_0 : decode cL_link 0 = .ok (.aload_n 3, 1) := by decide +kernel
theorem dL_link_1 : decode cL_link 1 = .ok (.iconst 0, 1) := by decide +kernel
theorem dL_link_2 : decode cL_link 2 = .ok (.aload_n 0, 1) := by decide +kernel
theorem dL_link_3 : decode cL_link 3 = .ok (.iload_n 1, 1) := by decide +kernel
theorem dL_link_4 : decode cL_link 4 = .ok (.iload_n 2, 1) := by decide +kernel
theorem dL_link_5 : decode cL_link 5 = .ok (.invokevirtual 132, 3) := by decide +kernel
theorem dL_link_8 : decode cL_link 8 = .ok (.i2l, 1) := by decide +kernel
theorem dL_link_9 : decode cL_link 9 = .ok (.lastore, 1) := by decide +kernel
theorem dL_link_10 : decode cL_link 10 = .ok (.goto 15, 3) := by decide +kernel
theorem dL_link_13 : decode cL_link 13 = .ok (.astore 4, 2) := by decide +kernel
theorem dL_link_15 : decode cL_link 15 = .ok (.iconst 1, 1) := by decide +kernel
theorem dL_link_16 : decode cL_link 16 = .ok (.ireturn, 1) := by decide +kernel
theorem dL_link_17 : decode cL_link 17 = .ok (.astore 4, 2) := by decide +kernel
theorem dL_link_19 : decode cL_link 19 = .ok (.iconst 2, 1) := by decide +kernel
theorem dL_link_20 : decode cL_link 20 = .ok (.ireturn, 1) := by decide +kernel
theorem dL_link_21 : decode cL_link 21 = .ok (.astore 4, 2) := by decide +kernel
theorem dL_link_23 : decode cL_link 23 = .ok (.iconst 3, 1) := by decide +kernel
theorem dL_link_24 : decode cL_link 24 = .ok (.ireturn, 1) := by decide +kernel
theorem dL_link_25 : decode cL_link 25 = .ok (.iconst 0, 1) := by decide +kernel
theorem dL_link_26 : decode cL_link 26 = .ok (.ireturn, 1) := by decide +kernel
set_option maxRecDepth 100000 in
set_option maxHeartbeats 4000000 in
theorem L_link_ok {l : Launch} {idx : List (Nat × Nat)} {μ : Mem} {a2 : Int32} {a3 : Int32} {P : Int32 → Mem → Prop} {X : String → Mem → Prop} (hl : l.stackTraces = false) (hI : IdxOK idx) (hk : L_link_wp μ a2 a3 P) : PMet l yL_link (.codeWith yL_link cL_link 5 (some .int) [(0, 10, 13, 21), (0, 10, 17, 13), (0, 10, 21, 15)]) 10 3 18 idx [pR 40 0, pI a2, pI a3, pR 80 0] μ (qI P) X := by
  refine PMetH_of (by decide +kernel) hl hI rfl (Nat.le_of_ble_eq_true rfl) (fun G _ _ C hRt hHR hT => ?_)
  show PW G 3 18 0 [some (pR 40 0), some (pI a2), some (pI a3), some (pR 80 0), none] [] μ
  unfold L_link_wp at hk
  refine px_aload_n (i := 3) C dL_link_0 rfl rfl ?_
  refine px_iconst (v := (0 : Int32)) C dL_link_1 rfl ?_
  refine px_aload_n (i := 0) C dL_link_2 rfl rfl ?_
  refine px_iload_n (i := 1) C dL_link_3 rfl rfl ?_
  refine px_iload_n (i := 2) C dL_link_4 rfl rfl ?_
  refine px_callVHi (h := 9) (rc' := 0) (rs' := 0) C (HR_le hHR (Nat.le_of_ble_eq_true rfl)) hT dL_link_5 (gw6 12 rfl rfl) mv_X8_link (w8_link_ok (PCx_l C) (PCx_I C) hk) rfl rfl rfl rfl rfl (Nat.le_of_ble_eq_true rfl) (Nat.le_of_ble_eq_true rfl) (Nat.le_of_ble_eq_true rfl) (Nat.le_of_ble_eq_true rfl) ?_ ?_
  · intro E μ3 hk
    rcases hk with ⟨rfl, hk⟩ | ⟨rfl, hk⟩ | ⟨rfl, hk⟩
    · refine ⟨[], ⟨0, 10, 13, 21⟩, [⟨0, 10, 17, 13⟩, ⟨0, 10, 21, 15⟩], rfl, (fun _ hz => absurd hz List.not_mem_nil), rfl, by decide, ⟨"java/lang/IndexOutOfBoundsException", (gw3 181 rfl rfl), List.mem_append_left _ (List.mem_of_getElem? (i := 2) rfl)⟩, fun q9 => ?_⟩
      refine px_astorew (i := 4) C dL_link_13 (by decide) rfl ?_
      refine px_iconst (v := (1 : Int32)) C dL_link_15 rfl ?_
      exact px_iret C hRt dL_link_16 rfl rfl hk
    · refine ⟨[⟨0, 10, 13, 21⟩], ⟨0, 10, 17, 13⟩, [⟨0, 10, 21, 15⟩], rfl, (List.forall_mem_cons.mpr ⟨Or.inr ⟨by decide, "java/lang/IndexOutOfBoundsException", (gw3 181 rfl rfl), List.mem_of_getElem? (i := 1) rfl⟩, (fun _ hz => absurd hz List.not_mem_nil)⟩), rfl, by decide, ⟨"java/lang/IllegalArgumentException", (gw3 59 rfl rfl), List.mem_append_left _ (List.mem_of_getElem? (i := 0) rfl)⟩, fun q9 => ?_⟩
      refine px_astorew (i := 4) C dL_link_17 (by decide) rfl ?_
      refine px_iconst (v := (2 : Int32)) C dL_link_19 rfl ?_
      exact px_iret C hRt dL_link_20 rfl rfl hk
    · refine ⟨[⟨0, 10, 13, 21⟩, ⟨0, 10, 17, 13⟩], ⟨0, 10, 21, 15⟩, [], rfl, (List.forall_mem_cons.mpr ⟨Or.inr ⟨by decide, "java/lang/IndexOutOfBoundsException", (gw3 181 rfl rfl), List.mem_of_getElem? (i := 6) rfl⟩, (List.forall_mem_cons.mpr ⟨Or.inr ⟨by decide, "java/lang/IllegalArgumentException", (gw3 59 rfl rfl), List.mem_of_getElem? (i := 5) rfl⟩, (fun _ hz => absurd hz List.not_mem_nil)⟩)⟩), rfl, by decide, ⟨"java/lang/IllegalStateException", (gw3 60 rfl rfl), List.mem_append_left _ (List.mem_of_getElem? (i := 1) rfl)⟩, fun q9 => ?_⟩
      refine px_astorew (i := 4) C dL_link_21 (by decide) rfl ?_
      refine px_iconst (v := (3 : Int32)) C dL_link_23 rfl ?_
      exact px_iret C hRt dL_link_24 rfl rfl hk
  intro r2 μ1 hk
  refine px_i2l C dL_link_8 ?_
  obtain ⟨o4, hk⟩ := hk
  replace hk := hk _ rfl
  refine px_last 5120 C dL_link_9 rfl rfl rfl rfl o4 rfl ?_
  refine px_goto (tgt := 25) C dL_link_10 (by decide) ?_
  refine px_iconst (v := (0 : Int32)) C dL_link_25 rfl ?_
  exact px_iret C hRt dL_link_26 rfl rfl hk
theorem dL_unlink_0 : decode cL_unlink 0 = .ok (.aload_n 2, 1) := by decide +kernel
theorem dL_unlink_1 : decode cL_unlink 1 = .ok (.iconst 0, 1) := by decide +kernel
theorem dL_unlink_2 : decode cL_unlink 2 = .ok (.aload_n 0, 1) := by decide +kernel
theorem dL_unlink_3 : decode cL_unlink 3 = .ok (.iload_n 1, 1) := by decide +kernel
theorem dL_unlink_4 : decode cL_unlink 4 = .ok (.invokevirtual 135, 3) := by decide +kernel
theorem dL_unlink_7 : decode cL_unlink 7 = .ok (.i2l, 1) := by decide +kernel
theorem dL_unlink_8 : decode cL_unlink 8 = .ok (.lastore, 1) := by decide +kernel
theorem dL_unlink_9 : decode cL_unlink 9 = .ok (.goto 6, 3) := by decide +kernel
theorem dL_unlink_12 : decode cL_unlink 12 = .ok (.astore_n 3, 1) := by decide +kernel
theorem dL_unlink_13 : decode cL_unlink 13 = .ok (.iconst 1, 1) := by decide +kernel
theorem dL_unlink_14 : decode cL_unlink 14 = .ok (.ireturn, 1) := by decide +kernel
theorem dL_unlink_15 : decode cL_unlink 15 = .ok (.iconst 0, 1) := by decide +kernel
theorem dL_unlink_16 : decode cL_unlink 16 = .ok (.ireturn, 1) := by decide +kernel
set_option maxRecDepth 100000 in
set_option maxHeartbeats 4000000 in
theorem L_unlink_ok {l : Launch} {idx : List (Nat × Nat)} {μ : Mem} {a2 : Int32} {P : Int32 → Mem → Prop} {X : String → Mem → Prop} (hl : l.stackTraces = false) (hI : IdxOK idx) (hk : L_unlink_wp μ a2 P) : PMet l yL_unlink (.codeWith yL_unlink cL_unlink 4 (some .int) [(0, 9, 12, 21)]) 10 1 6 idx [pR 40 0, pI a2, pR 80 0] μ (qI P) X := by
  refine PMetH_of (by decide +kernel) hl hI rfl (Nat.le_of_ble_eq_true rfl) (fun G _ _ C hRt hHR hT => ?_)
  show PW G 1 6 0 [some (pR 40 0), some (pI a2), some (pR 80 0), none] [] μ
  unfold L_unlink_wp at hk
  refine px_aload_n (i := 2) C dL_unlink_0 rfl rfl ?_
  refine px_iconst (v := (0 : Int32)) C dL_unlink_1 rfl ?_
  refine px_aload_n (i := 0) C dL_unlink_2 rfl rfl ?_
  refine px_iload_n (i := 1) C dL_unlink_3 rfl rfl ?_
  refine px_callVHi (h := 9) (rc' := 0) (rs' := 0) C (HR_le hHR (Nat.le_of_ble_eq_true rfl)) hT dL_unlink_4 (gw6 26 rfl rfl) mv_X8_unlink (w8_unlink_ok (PCx_l C) (PCx_I C) hk) rfl rfl rfl rfl rfl (Nat.le_of_ble_eq_true rfl) (Nat.le_of_ble_eq_true rfl) (Nat.le_of_ble_eq_true rfl) (Nat.le_of_ble_eq_true rfl) ?_ ?_
  · intro E μ3 hk
    rcases hk with ⟨rfl, hk⟩
    · refine ⟨[], ⟨0, 9, 12, 21⟩, [], rfl, (fun _ hz => absurd hz List.not_mem_nil), rfl, by decide, ⟨"java/lang/IndexOutOfBoundsException", (gw3 181 rfl rfl), List.mem_append_left _ (List.mem_of_getElem? (i := 2) rfl)⟩, fun q9 => ?_⟩
      refine px_astore_nw (i := 3) C dL_unlink_12 rfl (by decide) rfl ?_
      refine px_iconst (v := (1 : Int32)) C dL_unlink_13 rfl ?_
      exact px_iret C hRt dL_unlink_14 rfl rfl hk
  intro r2 μ1 hk
  refine px_i2l C dL_unlink_7 ?_
  obtain ⟨o4, hk⟩ := hk
  replace hk := hk _ rfl
  refine px_last 5120 C dL_unlink_8 rfl rfl rfl rfl o4 rfl ?_
  refine px_goto (tgt := 15) C dL_unlink_9 (by decide) ?_
  refine px_iconst (v := (0 : Int32)) C dL_unlink_15 rfl ?_
  exact px_iret C hRt dL_unlink_16 rfl rfl hk
theorem dL_linkDelay_0 : decode cL_linkDelay 0 = .ok (.aload_n 2, 1) := by decide +kernel
theorem dL_linkDelay_1 : decode cL_linkDelay 1 = .ok (.iconst 0, 1) := by decide +kernel
theorem dL_linkDelay_2 : decode cL_linkDelay 2 = .ok (.aload_n 0, 1) := by decide +kernel
theorem dL_linkDelay_3 : decode cL_linkDelay 3 = .ok (.iload_n 1, 1) := by decide +kernel
theorem dL_linkDelay_4 : decode cL_linkDelay 4 = .ok (.invokevirtual 138, 3) := by decide +kernel
theorem dL_linkDelay_7 : decode cL_linkDelay 7 = .ok (.i2l, 1) := by decide +kernel
theorem dL_linkDelay_8 : decode cL_linkDelay 8 = .ok (.lastore, 1) := by decide +kernel
theorem dL_linkDelay_9 : decode cL_linkDelay 9 = .ok (.goto 6, 3) := by decide +kernel
theorem dL_linkDelay_12 : decode cL_linkDelay 12 = .ok (.astore_n 3, 1) := by decide +kernel
theorem dL_linkDelay_13 : decode cL_linkDelay 13 = .ok (.iconst 1, 1) := by decide +kernel
theorem dL_linkDelay_14 : decode cL_linkDelay 14 = .ok (.ireturn, 1) := by decide +kernel
theorem dL_linkDelay_15 : decode cL_linkDelay 15 = .ok (.iconst 0, 1) := by decide +kernel
theorem dL_linkDelay_16 : decode cL_linkDelay 16 = .ok (.ireturn, 1) := by decide +kernel
set_option maxRecDepth 100000 in
set_option maxHeartbeats 4000000 in
theorem L_linkDelay_ok {l : Launch} {idx : List (Nat × Nat)} {μ : Mem} {a2 : Int32} {P : Int32 → Mem → Prop} {X : String → Mem → Prop} (hl : l.stackTraces = false) (hI : IdxOK idx) (hk : L_linkDelay_wp μ a2 P) : PMet l yL_linkDelay (.codeWith yL_linkDelay cL_linkDelay 4 (some .int) [(0, 9, 12, 21)]) 10 3 18 idx [pR 40 0, pI a2, pR 80 0] μ (qI P) X := by
  refine PMetH_of (by decide +kernel) hl hI rfl (Nat.le_of_ble_eq_true rfl) (fun G _ _ C hRt hHR hT => ?_)
  show PW G 3 18 0 [some (pR 40 0), some (pI a2), some (pR 80 0), none] [] μ
  unfold L_linkDelay_wp at hk
  refine px_aload_n (i := 2) C dL_linkDelay_0 rfl rfl ?_
  refine px_iconst (v := (0 : Int32)) C dL_linkDelay_1 rfl ?_
  refine px_aload_n (i := 0) C dL_linkDelay_2 rfl rfl ?_
  refine px_iload_n (i := 1) C dL_linkDelay_3 rfl rfl ?_
  refine px_callVHi (h := 9) (rc' := 0) (rs' := 0) C (HR_le hHR (Nat.le_of_ble_eq_true rfl)) hT dL_linkDelay_4 (gw6 42 rfl rfl) mv_X8_linkDelay (w8_linkDelay_ok (PCx_l C) (PCx_I C) hk) rfl rfl rfl rfl rfl (Nat.le_of_ble_eq_true rfl) (Nat.le_of_ble_eq_true rfl) (Nat.le_of_ble_eq_true rfl) (Nat.le_of_ble_eq_true rfl) ?_ ?_
  · intro E μ3 hk
    rcases hk with ⟨rfl, hk⟩
    · refine ⟨[], ⟨0, 9, 12, 21⟩, [], rfl, (fun _ hz => absurd hz List.not_mem_nil), rfl, by decide, ⟨"java/lang/IndexOutOfBoundsException", (gw3 181 rfl rfl), List.mem_append_left _ (List.mem_of_getElem? (i := 2) rfl)⟩, fun q9 => ?_⟩
      refine px_astore_nw (i := 3) C dL_linkDelay_12 rfl (by decide) rfl ?_
      refine px_iconst (v := (1 : Int32)) C dL_linkDelay_13 rfl ?_
      exact px_iret C hRt dL_linkDelay_14 rfl rfl hk
  intro r2 μ1 hk
  refine px_i2l C dL_linkDelay_7 ?_
  obtain ⟨o4, hk⟩ := hk
  replace hk := hk _ rfl
  refine px_last 5120 C dL_linkDelay_8 rfl rfl rfl rfl o4 rfl ?_
  refine px_goto (tgt := 15) C dL_linkDelay_9 (by decide) ?_
  refine px_iconst (v := (0 : Int32)) C dL_linkDelay_15 rfl ?_
  exact px_iret C hRt dL_linkDelay_16 rfl rfl hk
theorem dL_linkedTraces_0 : decode cL_linkedTraces 0 = .ok (.aload_n 2, 1) := by decide +kernel
theorem dL_linkedTraces_1 : decode cL_linkedTraces 1 = .ok (.iconst 0, 1) := by decide +kernel
theorem dL_linkedTraces_2 : decode cL_linkedTraces 2 = .ok (.aload_n 0, 1) := by decide +kernel
theorem dL_linkedTraces_3 : decode cL_linkedTraces 3 = .ok (.iload_n 1, 1) := by decide +kernel
theorem dL_linkedTraces_4 : decode cL_linkedTraces 4 = .ok (.invokevirtual 141, 3) := by decide +kernel
theorem dL_linkedTraces_7 : decode cL_linkedTraces 7 = .ok (.i2l, 1) := by decide +kernel
theorem dL_linkedTraces_8 : decode cL_linkedTraces 8 = .ok (.lastore, 1) := by decide +kernel
theorem dL_linkedTraces_9 : decode cL_linkedTraces 9 = .ok (.goto 6, 3) := by decide +kernel
theorem dL_linkedTraces_12 : decode cL_linkedTraces 12 = .ok (.astore_n 3, 1) := by decide +kernel
theorem dL_linkedTraces_13 : decode cL_linkedTraces 13 = .ok (.iconst 1, 1) := by decide +kernel
theorem dL_linkedTraces_14 : decode cL_linkedTraces 14 = .ok (.ireturn, 1) := by decide +kernel
theorem dL_linkedTraces_15 : decode cL_linkedTraces 15 = .ok (.iconst 0, 1) := by decide +kernel
theorem dL_linkedTraces_16 : decode cL_linkedTraces 16 = .ok (.ireturn, 1) := by decide +kernel
set_option maxRecDepth 100000 in
set_option maxHeartbeats 4000000 in
theorem L_linkedTraces_ok {l : Launch} {idx : List (Nat × Nat)} {μ : Mem} {a2 : Int32} {P : Int32 → Mem → Prop} {X : String → Mem → Prop} (hl : l.stackTraces = false) (hI : IdxOK idx) (hk : L_linkedTraces_wp μ a2 P) : PMet l yL_linkedTraces (.codeWith yL_linkedTraces cL_linkedTraces 4 (some .int) [(0, 9, 12, 21)]) 10 1 6 idx [pR 40 0, pI a2, pR 80 0] μ (qI P) X := by
  refine PMetH_of (by decide +kernel) hl hI rfl (Nat.le_of_ble_eq_true rfl) (fun G _ _ C hRt hHR hT => ?_)
  show PW G 1 6 0 [some (pR 40 0), some (pI a2), some (pR 80 0), none] [] μ
  unfold L_linkedTraces_wp at hk
  refine px_aload_n (i := 2) C dL_linkedTraces_0 rfl rfl ?_
  refine px_iconst (v := (0 : Int32)) C dL_linkedTraces_1 rfl ?_
  refine px_aload_n (i := 0) C dL_linkedTraces_2 rfl rfl ?_
  refine px_iload_n (i := 1) C dL_linkedTraces_3 rfl rfl ?_
  refine px_callVHi (h := 9) (rc' := 0) (rs' := 0) C (HR_le hHR (Nat.le_of_ble_eq_true rfl)) hT dL_linkedTraces_4 (gw6 49 rfl rfl) mv_X8_linkedTraces (w8_linkedTraces_ok (PCx_l C) (PCx_I C) hk) rfl rfl rfl rfl rfl (Nat.le_of_ble_eq_true rfl) (Nat.le_of_ble_eq_true rfl) (Nat.le_of_ble_eq_true rfl) (Nat.le_of_ble_eq_true rfl) ?_ ?_
  · intro E μ3 hk
    rcases hk with ⟨rfl, hk⟩
    · refine ⟨[], ⟨0, 9, 12, 21⟩, [], rfl, (fun _ hz => absurd hz List.not_mem_nil), rfl, by decide, ⟨"java/lang/IndexOutOfBoundsException", (gw3 181 rfl rfl), List.mem_append_left _ (List.mem_of_getElem? (i := 2) rfl)⟩, fun q9 => ?_⟩
      refine px_astore_nw (i := 3) C dL_linkedTraces_12 rfl (by decide) rfl ?_
      refine px_iconst (v := (1 : Int32)) C dL_linkedTraces_13 rfl ?_
      exact px_iret C hRt dL_linkedTraces_14 rfl rfl hk
  intro r2 μ1 hk
  refine px_i2l C dL_linkedTraces_7 ?_
  obtain ⟨o4, hk⟩ := hk
  replace hk := hk _ rfl
  refine px_last 5120 C dL_linkedTraces_8 rfl rfl rfl rfl o4 rfl ?_
  refine px_goto (tgt := 15) C dL_linkedTraces_9 (by decide) ?_
  refine px_iconst (v := (0 : Int32)) C dL_linkedTraces_15 rfl ?_
  exact px_iret C hRt dL_linkedTraces_16 rfl rfl hk
theorem dL_bookmark_0 : decode cL_bookmark 0 = .ok (.aload 5, 2) := by decide +kernel
theorem dL_bookmark_2 : decode cL_bookmark 2 = .ok (.iconst 0, 1) := by decide +kernel
theorem dL_bookmark_3 : decode cL_bookmark 3 = .ok (.aload_n 0, 1) := by decide +kernel
theorem dL_bookmark_4 : decode cL_bookmark 4 = .ok (.iload_n 1, 1) := by decide +kernel
theorem dL_bookmark_5 : decode cL_bookmark 5 = .ok (.iload_n 2, 1) := by decide +kernel
theorem dL_bookmark_6 : decode cL_bookmark 6 = .ok (.iload_n 3, 1) := by decide +kernel
theorem dL_bookmark_7 : decode cL_bookmark 7 = .ok (.iload 4, 2) := by decide +kernel
theorem dL_bookmark_9 : decode cL_bookmark 9 = .ok (.invokevirtual 144, 3) := by decide +kernel
theorem dL_bookmark_12 : decode cL_bookmark 12 = .ok (.i2l, 1) := by decide +kernel
theorem dL_bookmark_13 : decode cL_bookmark 13 = .ok (.lastore, 1) := by decide +kernel
theorem dL_bookmark_14 : decode cL_bookmark 14 = .ok (.goto 15, 3) := by decide +kernel
theorem dL_bookmark_17 : decode cL_bookmark 17 = .ok (.astore 6, 2) := by decide +kernel
theorem dL_bookmark_19 : decode cL_bookmark 19 = .ok (.iconst 1, 1) := by decide +kernel
theorem dL_bookmark_20 : decode cL_bookmark 20 = .ok (.ireturn, 1) := by decide +kernel
theorem dL_bookmark_21 : decode cL_bookmark 21 = .ok (.astore 6, 2) := by decide +kernel
theorem dL_bookmark_23 : decode cL_bookmark 23 = .ok (.iconst 2, 1) := by decide +kernel
theorem dL_bookmark_24 : decode cL_bookmark 24 = .ok (.ireturn, 1) := by decide +kernel
theorem dL_bookmark_25 : decode cL_bookmark 25 = .ok (.astore 6, 2) := by decide +kernel
theorem dL_bookmark_27 : decode cL_bookmark 27 = .ok (.iconst 3, 1) := by decide +kernel
theorem dL_bookmark_28 : decode cL_bookmark 28 = .ok (.ireturn, 1) := by decide +kernel
theorem dL_bookmark_29 : decode cL_bookmark 29 = .ok (.iconst 0, 1) := by decide +kernel
theorem dL_bookmark_30 : decode cL_bookmark 30 = .ok (.ireturn, 1) := by decide +kernel
set_option maxRecDepth 100000 in
set_option maxHeartbeats 4000000 in
theorem L_bookmark_ok {l : Launch} {idx : List (Nat × Nat)} {μ : Mem} {a2 : Int32} {a3 : Int32} {a4 : Int32} {a5 : Int32} {P : Int32 → Mem → Prop} {X : String → Mem → Prop} (hl : l.stackTraces = false) (hI : IdxOK idx) (hk : L_bookmark_wp μ a2 a3 a4 a5 P) : PMet l yL_bookmark (.codeWith yL_bookmark cL_bookmark 7 (some .int) [(0, 14, 17, 21), (0, 14, 21, 44), (0, 14, 25, 147)]) 11 4 24 idx [pR 40 0, pI a2, pI a3, pI a4, pI a5, pR 80 0] μ (qI P) X := by
  refine PMetH_of (by decide +kernel) hl hI rfl (Nat.le_of_ble_eq_true rfl) (fun G _ _ C hRt hHR hT => ?_)
  show PW G 4 24 0 [some (pR 40 0), some (pI a2), some (pI a3), some (pI a4), some (pI a5), some (pR 80 0), none] [] μ
  unfold L_bookmark_wp at hk
  refine px_aload (i := 5) C dL_bookmark_0 rfl ?_
  refine px_iconst (v := (0 : Int32)) C dL_bookmark_2 rfl ?_
  refine px_aload_n (i := 0) C dL_bookmark_3 rfl rfl ?_
  refine px_iload_n (i := 1) C dL_bookmark_4 rfl rfl ?_
  refine px_iload_n (i := 2) C dL_bookmark_5 rfl rfl ?_
  refine px_iload_n (i := 3) C dL_bookmark_6 rfl rfl ?_
  refine px_iload (i := 4) C dL_bookmark_7 rfl ?_
  refine px_callVHi (h := 10) (rc' := 0) (rs' := 0) C (HR_le hHR (Nat.le_of_ble_eq_true rfl)) hT dL_bookmark_9 (gw6 62 rfl rfl) mv_X8_bookmark (w8_bookmark_ok (PCx_l C) (PCx_I C) hk) rfl rfl rfl rfl rfl (Nat.le_of_ble_eq_true rfl) (Nat.le_of_ble_eq_true rfl) (Nat.le_of_ble_eq_true rfl) (Nat.le_of_ble_eq_true rfl) ?_ ?_
  · intro E μ3 hk
    rcases hk with ⟨rfl, hk⟩ | ⟨rfl, hk⟩ | ⟨rfl, hk⟩
    · refine ⟨[], ⟨0, 14, 17, 21⟩, [⟨0, 14, 21, 44⟩, ⟨0, 14, 25, 147⟩], rfl, (fun _ hz => absurd hz List.not_mem_nil), rfl, by decide, ⟨"java/lang/IndexOutOfBoundsException", (gw3 181 rfl rfl), List.mem_append_left _ (List.mem_of_getElem? (i := 2) rfl)⟩, fun q9 => ?_⟩
      refine px_astorew (i := 6) C dL_bookmark_17 (by decide) rfl ?_
      refine px_iconst (v := (1 : Int32)) C dL_bookmark_19 rfl ?_
      exact px_iret C hRt dL_bookmark_20 rfl rfl hk
    · refine ⟨[⟨0, 14, 17, 21⟩], ⟨0, 14, 21, 44⟩, [⟨0, 14, 25, 147⟩], rfl, (List.forall_mem_cons.mpr ⟨Or.inr ⟨by decide, "java/lang/IndexOutOfBoundsException", (gw3 181 rfl rfl), List.mem_of_getElem? (i := 17) rfl⟩, (fun _ hz => absurd hz List.not_mem_nil)⟩), rfl, by decide, ⟨"java/util/NoSuchElementException", (gw4 48 rfl rfl), List.mem_append_left _ (List.mem_of_getElem? (i := 3) rfl)⟩, fun q9 => ?_⟩
      refine px_astorew (i := 6) C dL_bookmark_21 (by decide) rfl ?_
      refine px_iconst (v := (2 : Int32)) C dL_bookmark_23 rfl ?_
      exact px_iret C hRt dL_bookmark_24 rfl rfl hk
    · refine ⟨[⟨0, 14, 17, 21⟩, ⟨0, 14, 21, 44⟩], ⟨0, 14, 25, 147⟩, [], rfl, (List.forall_mem_cons.mpr ⟨Or.inr ⟨by decide, "java/lang/IndexOutOfBoundsException", (gw3 181 rfl rfl), List.mem_of_getElem? (i := 27) rfl⟩, (List.forall_mem_cons.mpr ⟨Or.inr ⟨by decide, "java/util/NoSuchElementException", (gw4 48 rfl rfl), List.mem_of_getElem? (i := 28) rfl⟩, (fun _ hz => absurd hz List.not_mem_nil)⟩)⟩), rfl, by decide, ⟨"java/lang/UnsupportedOperationException", (gw6 61 rfl rfl), List.mem_append_left _ (List.mem_of_getElem? (i := 5) rfl)⟩, fun q9 => ?_⟩
      refine px_astorew (i := 6) C dL_bookmark_25 (by decide) rfl ?_
      refine px_iconst (v := (3 : Int32)) C dL_bookmark_27 rfl ?_
      exact px_iret C hRt dL_bookmark_28 rfl rfl hk
  intro r2 μ1 hk
  refine px_i2l C dL_bookmark_12 ?_
  obtain ⟨o4, hk⟩ := hk
  replace hk := hk _ rfl
  refine px_last 5120 C dL_bookmark_13 rfl rfl rfl rfl o4 rfl ?_
  refine px_goto (tgt := 29) C dL_bookmark_14 (by decide) ?_
  refine px_iconst (v := (0 : Int32)) C dL_bookmark_29 rfl ?_
  exact px_iret C hRt dL_bookmark_30 rfl rfl hk
theorem dL_bookmarked_0 : decode cL_bookmarked 0 = .ok (.aload_n 3, 1) := by decide +kernel
theorem dL_bookmarked_1 : decode cL_bookmarked 1 = .ok (.iconst 0, 1) := by decide +kernel
theorem dL_bookmarked_2 : decode cL_bookmarked 2 = .ok (.aload_n 0, 1) := by decide +kernel
theorem dL_bookmarked_3 : decode cL_bookmarked 3 = .ok (.iload_n 1, 1) := by decide +kernel
theorem dL_bookmarked_4 : decode cL_bookmarked 4 = .ok (.iload_n 2, 1) := by decide +kernel
theorem dL_bookmarked_5 : decode cL_bookmarked 5 = .ok (.invokevirtual 149, 3) := by decide +kernel
theorem dL_bookmarked_8 : decode cL_bookmarked 8 = .ok (.i2l, 1) := by decide +kernel
theorem dL_bookmarked_9 : decode cL_bookmarked 9 = .ok (.lastore, 1) := by decide +kernel
theorem dL_bookmarked_10 : decode cL_bookmarked 10 = .ok (.goto 11, 3) := by decide +kernel
theorem dL_bookmarked_13 : decode cL_bookmarked 13 = .ok (.astore 4, 2) := by decide +kernel
theorem dL_bookmarked_15 : decode cL_bookmarked 15 = .ok (.iconst 1, 1) := by decide +kernel
theorem dL_bookmarked_16 : decode cL_bookmarked 16 = .ok (.ireturn, 1) := by decide +kernel
theorem dL_bookmarked_17 : decode cL_bookmarked 17 = .ok (.astore 4, 2) := by decide +kernel
theorem dL_bookmarked_19 : decode cL_bookmarked 19 = .ok (.iconst 2, 1) := by decide +kernel
theorem dL_bookmarked_20 : decode cL_bookmarked 20 = .ok (.ireturn, 1) := by decide +kernel
theorem dL_bookmarked_21 : decode cL_bookmarked 21 = .ok (.iconst 0, 1) := by decide +kernel
theorem dL_bookmarked_22 : decode cL_bookmarked 22 = .ok (.ireturn, 1) := by decide +kernel
set_option maxRecDepth 100000 in
set_option maxHeartbeats 4000000 in
theorem L_bookmarked_ok {l : Launch} {idx : List (Nat × Nat)} {μ : Mem} {a2 : Int32} {a3 : Int32} {P : Int32 → Mem → Prop} {X : String → Mem → Prop} (hl : l.stackTraces = false) (hI : IdxOK idx) (hk : L_bookmarked_wp μ a2 a3 P) : PMet l yL_bookmarked (.codeWith yL_bookmarked cL_bookmarked 5 (some .int) [(0, 10, 13, 21), (0, 10, 17, 44)]) 10 2 12 idx [pR 40 0, pI a2, pI a3, pR 80 0] μ (qI P) X := by
  refine PMetH_of (by decide +kernel) hl hI rfl (Nat.le_of_ble_eq_true rfl) (fun G _ _ C hRt hHR hT => ?_)
  show PW G 2 12 0 [some (pR 40 0), some (pI a2), some (pI a3), some (pR 80 0), none] [] μ
  unfold L_bookmarked_wp at hk
  refine px_aload_n (i := 3) C dL_bookmarked_0 rfl rfl ?_
  refine px_iconst (v := (0 : Int32)) C dL_bookmarked_1 rfl ?_
  refine px_aload_n (i := 0) C dL_bookmarked_2 rfl rfl ?_
  refine px_iload_n (i := 1) C dL_bookmarked_3 rfl rfl ?_
  refine px_iload_n (i := 2) C dL_bookmarked_4 rfl rfl ?_
  refine px_callVHi (h := 9) (rc' := 0) (rs' := 0) C (HR_le hHR (Nat.le_of_ble_eq_true rfl)) hT dL_bookmarked_5 (gw6 103 rfl rfl) mv_X8_bookmarked (w8_bookmarked_ok (PCx_l C) (PCx_I C) hk) rfl rfl rfl rfl rfl (Nat.le_of_ble_eq_true rfl) (Nat.le_of_ble_eq_true rfl) (Nat.le_of_ble_eq_true rfl) (Nat.le_of_ble_eq_true rfl) ?_ ?_
  · intro E μ3 hk
    rcases hk with ⟨rfl, hk⟩ | ⟨rfl, hk⟩
    · refine ⟨[], ⟨0, 10, 13, 21⟩, [⟨0, 10, 17, 44⟩], rfl, (fun _ hz => absurd hz List.not_mem_nil), rfl, by decide, ⟨"java/lang/IndexOutOfBoundsException", (gw3 181 rfl rfl), List.mem_append_left _ (List.mem_of_getElem? (i := 2) rfl)⟩, fun q9 => ?_⟩
      refine px_astorew (i := 4) C dL_bookmarked_13 (by decide) rfl ?_
      refine px_iconst (v := (1 : Int32)) C dL_bookmarked_15 rfl ?_
      exact px_iret C hRt dL_bookmarked_16 rfl rfl hk
    · refine ⟨[⟨0, 10, 13, 21⟩], ⟨0, 10, 17, 44⟩, [], rfl, (List.forall_mem_cons.mpr ⟨Or.inr ⟨by decide, "java/lang/IndexOutOfBoundsException", (gw3 181 rfl rfl), List.mem_of_getElem? (i := 17) rfl⟩, (fun _ hz => absurd hz List.not_mem_nil)⟩), rfl, by decide, ⟨"java/util/NoSuchElementException", (gw4 48 rfl rfl), List.mem_append_left _ (List.mem_of_getElem? (i := 3) rfl)⟩, fun q9 => ?_⟩
      refine px_astorew (i := 4) C dL_bookmarked_17 (by decide) rfl ?_
      refine px_iconst (v := (2 : Int32)) C dL_bookmarked_19 rfl ?_
      exact px_iret C hRt dL_bookmarked_20 rfl rfl hk
  intro r2 μ1 hk
  refine px_i2l C dL_bookmarked_8 ?_
  obtain ⟨o4, hk⟩ := hk
  replace hk := hk _ rfl
  refine px_last 5120 C dL_bookmarked_9 rfl rfl rfl rfl o4 rfl ?_
  refine px_goto (tgt := 21) C dL_bookmarked_10 (by decide) ?_
  refine px_iconst (v := (0 : Int32)) C dL_bookmarked_21 rfl ?_
  exact px_iret C hRt dL_bookmarked_22 rfl rfl hk
