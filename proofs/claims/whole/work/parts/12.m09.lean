theorem dX9_activity_0 : decode cX9_activity 0 = .ok (.aload_n 0, 1) := by decide +kernel
theorem dX9_activity_1 : decode cX9_activity 1 = .ok (.iload_n 1, 1) := by decide +kernel
theorem dX9_activity_2 : decode cX9_activity 2 = .ok (.iload_n 2, 1) := by decide +kernel
theorem dX9_activity_3 : decode cX9_activity 3 = .ok (.invokestatic 222, 3) := by decide +kernel
theorem dX9_activity_6 : decode cX9_activity 6 = .ok (.invokevirtual 273, 3) := by decide +kernel
theorem dX9_activity_9 : decode cX9_activity 9 = .ok (.ifCond .le 7, 3) := by decide +kernel
theorem dX9_activity_12 : decode cX9_activity 12 = .ok (.fconst 0, 1) := by decide +kernel
theorem dX9_activity_13 : decode cX9_activity 13 = .ok (.goto 17, 3) := by decide +kernel
theorem dX9_activity_16 : decode cX9_activity 16 = .ok (.aload_n 0, 1) := by decide +kernel
theorem dX9_activity_17 : decode cX9_activity 17 = .ok (.iload_n 1, 1) := by decide +kernel
theorem dX9_activity_18 : decode cX9_activity 18 = .ok (.iload_n 2, 1) := by decide +kernel
theorem dX9_activity_19 : decode cX9_activity 19 = .ok (.invokevirtual 277, 3) := by decide +kernel
theorem dX9_activity_22 : decode cX9_activity 22 = .ok (.i2f, 1) := by decide +kernel
theorem dX9_activity_23 : decode cX9_activity 23 = .ok (.aload_n 0, 1) := by decide +kernel
theorem dX9_activity_24 : decode cX9_activity 24 = .ok (.iload_n 1, 1) := by decide +kernel
theorem dX9_activity_25 : decode cX9_activity 25 = .ok (.invokevirtual 270, 3) := by decide +kernel
theorem dX9_activity_28 : decode cX9_activity 28 = .ok (.i2f, 1) := by decide +kernel
theorem dX9_activity_29 : decode cX9_activity 29 = .ok (.fdiv, 1) := by decide +kernel
theorem dX9_activity_30 : decode cX9_activity 30 = .ok (.freturn, 1) := by decide +kernel
set_option maxRecDepth 100000 in
set_option maxHeartbeats 4000000 in
theorem w9_activity_ok {l : Launch} {idx : List (Nat × Nat)} {μ : Mem} {a1 : Int32} {a2 : Int32} {P : UInt32 → Mem → Prop} {X : String → Mem → Prop} (hl : l.stackTraces = false) (hI : IdxOK idx) (hk : w9_activity_wp μ a1 a2 P) : PMet l yX9_activity (.code yX9_activity cX9_activity 3 (some .float)) 7 0 0 idx [pR 50 0, pI a1, pI a2] μ (qF P) X := by
  refine PMet_of mv_X9_activity.2.2.2.2.2.2 hl hI mv_X9_activity.2.2.2.1 rfl (Nat.le_of_ble_eq_true rfl) (fun G _ _ C hRt hHR hnT => ?_)
  show PW G 0 0 0 [some (pR 50 0), some (pI a1), some (pI a2)] [] μ
  unfold w9_activity_wp at hk
  refine px_aload_n (i := 0) C dX9_activity_0 rfl rfl ?_
  refine px_iload_n (i := 1) C dX9_activity_1 rfl rfl ?_
  refine px_iload_n (i := 2) C dX9_activity_2 rfl rfl ?_
  refine px_callSi (h := 1) (rc' := 0) (rs' := 0) C (HR_le hHR (Nat.le_of_ble_eq_true rfl)) hRt hnT dX9_activity_3 (gw9 3 rfl rfl) ms_X9_isService (w9_isService_ok (PCx_l C) (PCx_I C) hk) rfl rfl (Nat.le_of_ble_eq_true rfl) (Nat.le_of_ble_eq_true rfl) (Nat.le_of_ble_eq_true rfl) (Nat.le_of_ble_eq_true rfl) ?_
  intro r2 μ1 hk
  refine px_callVi (h := 6) (rc' := 0) (rs' := 0) C (HR_le hHR (Nat.le_of_ble_eq_true rfl)) hRt hnT dX9_activity_6 (gw9 236 rfl rfl) mv_X9_activityRefusal (w9_activityRefusal_ok (PCx_l C) (PCx_I C) hk) rfl rfl rfl rfl rfl (Nat.le_of_ble_eq_true rfl) (Nat.le_of_ble_eq_true rfl) (Nat.le_of_ble_eq_true rfl) (Nat.le_of_ble_eq_true rfl) ?_
  intro r4 μ3 hk
  refine px_if_le (tgt := 16) C dX9_activity_9 (by decide) (fun c10 => ?_) (fun c10 => ?_)
  · replace hk := hk.1 c10
    refine px_aload_n (i := 0) C dX9_activity_16 rfl rfl ?_
    refine px_iload_n (i := 1) C dX9_activity_17 rfl rfl ?_
    refine px_iload_n (i := 2) C dX9_activity_18 rfl rfl ?_
    refine px_callVi (h := 2) (rc' := 0) (rs' := 0) C (HR_le hHR (Nat.le_of_ble_eq_true rfl)) hRt hnT dX9_activity_19 (gw10 0 rfl rfl) mv_X9_active (w9_active_ok (PCx_l C) (PCx_I C) hk) rfl rfl rfl rfl rfl (Nat.le_of_ble_eq_true rfl) (Nat.le_of_ble_eq_true rfl) (Nat.le_of_ble_eq_true rfl) (Nat.le_of_ble_eq_true rfl) ?_
    intro r6 μ5 hk
    refine px_i2f C dX9_activity_22 ?_
    refine px_aload_n (i := 0) C dX9_activity_23 rfl rfl ?_
    refine px_iload_n (i := 1) C dX9_activity_24 rfl rfl ?_
    refine px_callVi (h := 2) (rc' := 0) (rs' := 0) C (HR_le hHR (Nat.le_of_ble_eq_true rfl)) hRt hnT dX9_activity_25 (gw9 228 rfl rfl) mv_X9_extentOf (w9_extentOf_ok (PCx_l C) (PCx_I C) hk) rfl rfl rfl rfl rfl (Nat.le_of_ble_eq_true rfl) (Nat.le_of_ble_eq_true rfl) (Nat.le_of_ble_eq_true rfl) (Nat.le_of_ble_eq_true rfl) ?_
    intro r8 μ7 hk
    refine px_i2f C dX9_activity_28 ?_
    obtain ⟨o9, hk⟩ := hk
    refine px_fdiv C dX9_activity_29 o9 ?_
    exact px_fret C hRt dX9_activity_30 rfl hk
  · replace hk := hk.2 c10
    refine px_fconst0 C dX9_activity_12 ?_
    refine px_goto (tgt := 30) C dX9_activity_13 (by decide) ?_
    exact px_fret C hRt dX9_activity_30 rfl hk
theorem dX9_busiest_0 : decode cX9_busiest 0 = .ok (.aload_n 0, 1) := by decide +kernel
theorem dX9_busiest_1 : decode cX9_busiest 1 = .ok (.iload_n 1, 1) := by decide +kernel
theorem dX9_busiest_2 : decode cX9_busiest 2 = .ok (.iconst 1, 1) := by decide +kernel
theorem dX9_busiest_3 : decode cX9_busiest 3 = .ok (.invokevirtual 273, 3) := by decide +kernel
theorem dX9_busiest_6 : decode cX9_busiest 6 = .ok (.ifCond .le 5, 3) := by decide +kernel
theorem dX9_busiest_9 : decode cX9_busiest 9 = .ok (.iconst 0, 1) := by decide +kernel
theorem dX9_busiest_10 : decode cX9_busiest 10 = .ok (.ireturn, 1) := by decide +kernel
theorem dX9_busiest_11 : decode cX9_busiest 11 = .ok (.iconst 0, 1) := by decide +kernel
theorem dX9_busiest_12 : decode cX9_busiest 12 = .ok (.istore_n 2, 1) := by decide +kernel
theorem dX9_busiest_13 : decode cX9_busiest 13 = .ok (.iconst 1, 1) := by decide +kernel
theorem dX9_busiest_14 : decode cX9_busiest 14 = .ok (.istore_n 3, 1) := by decide +kernel
theorem dX9_busiest_15 : decode cX9_busiest 15 = .ok (.iload_n 3, 1) := by decide +kernel
theorem dX9_busiest_16 : decode cX9_busiest 16 = .ok (.bipush 8, 2) := by decide +kernel
theorem dX9_busiest_18 : decode cX9_busiest 18 = .ok (.if_icmp .ge 30, 3) := by decide +kernel
theorem dX9_busiest_21 : decode cX9_busiest 21 = .ok (.aload_n 0, 1) := by decide +kernel
theorem dX9_busiest_22 : decode cX9_busiest 22 = .ok (.iload_n 1, 1) := by decide +kernel
theorem dX9_busiest_23 : decode cX9_busiest 23 = .ok (.iload_n 3, 1) := by decide +kernel
theorem dX9_busiest_24 : decode cX9_busiest 24 = .ok (.invokevirtual 277, 3) := by decide +kernel
theorem dX9_busiest_27 : decode cX9_busiest 27 = .ok (.aload_n 0, 1) := by decide +kernel
theorem dX9_busiest_28 : decode cX9_busiest 28 = .ok (.iload_n 1, 1) := by decide +kernel
theorem dX9_busiest_29 : decode cX9_busiest 29 = .ok (.iload_n 2, 1) := by decide +kernel
theorem dX9_busiest_30 : decode cX9_busiest 30 = .ok (.invokevirtual 277, 3) := by decide +kernel
theorem dX9_busiest_33 : decode cX9_busiest 33 = .ok (.if_icmp .le 7, 3) := by decide +kernel
theorem dX9_busiest_36 : decode cX9_busiest 36 = .ok (.iload_n 3, 1) := by decide +kernel
theorem dX9_busiest_37 : decode cX9_busiest 37 = .ok (.goto 4, 3) := by decide +kernel
theorem dX9_busiest_40 : decode cX9_busiest 40 = .ok (.iload_n 2, 1) := by decide +kernel
theorem dX9_busiest_41 : decode cX9_busiest 41 = .ok (.istore_n 2, 1) := by decide +kernel
theorem dX9_busiest_42 : decode cX9_busiest 42 = .ok (.iinc 3 1, 3) := by decide +kernel
theorem dX9_busiest_45 : decode cX9_busiest 45 = .ok (.goto (-30), 3) := by decide +kernel
theorem dX9_busiest_48 : decode cX9_busiest 48 = .ok (.iload_n 2, 1) := by decide +kernel
theorem dX9_busiest_49 : decode cX9_busiest 49 = .ok (.ireturn, 1) := by decide +kernel
set_option maxRecDepth 100000 in
set_option maxHeartbeats 4000000 in
theorem w9_busiest_b15_ok {G : GT} {P : Int32 → Mem → Prop} {X : String → Mem → Prop} (C : PCx G cX9_busiest 4 RX9) (hRt : PRt G (some .int) (qI P) X) (hHR : HR G (7)) (hnT : NoT G) {μ : Mem} {l1 : Int32} {l2 : Int32} {l3 : Int32} (hk : w9_busiest_b15 P μ l1 l2 l3) : PW G 0 0 15 [some (pR 50 0), some (pI l1), some (pI l2), some (pI l3)] [] μ := by
  refine hk (fun (μ : Mem) (l1 : Int32) (l2 : Int32) (l3 : Int32) => PW G 0 0 15 [some (pR 50 0), some (pI l1), some (pI l2), some (pI l3)] [] μ) (fun (μ : Mem) l1 l2 l3 hk => ?_)
  have hR15 : ∀ (μ : Mem) (l1 : Int32) (l2 : Int32) (l3 : Int32), PW G 0 0 15 [some (pR 50 0), some (pI l1), some (pI l2), some (pI l3)] [] μ → PW G 0 0 15 [some (pR 50 0), some (pI l1), some (pI l2), some (pI l3)] [] μ := fun _ _ _ _ h => h
  unfold w9_busiest_b15_body at hk
  refine px_iload_n (i := 3) C dX9_busiest_15 rfl rfl ?_
  refine px_bipush (v := (8 : Int32)) C dX9_busiest_16 rfl ?_
  refine px_icmp_ge (tgt := 48) C dX9_busiest_18 (by decide) (fun c8 => ?_) (fun c8 => ?_)
  · replace hk := hk.1 c8
    refine px_iload_n (i := 2) C dX9_busiest_48 rfl rfl ?_
    exact px_iret C hRt dX9_busiest_49 rfl rfl hk
  · replace hk := hk.2 c8
    refine px_aload_n (i := 0) C dX9_busiest_21 rfl rfl ?_
    refine px_iload_n (i := 1) C dX9_busiest_22 rfl rfl ?_
    refine px_iload_n (i := 3) C dX9_busiest_23 rfl rfl ?_
    refine px_callVi (h := 2) (rc' := 0) (rs' := 0) C (HR_le hHR (Nat.le_of_ble_eq_true rfl)) hRt hnT dX9_busiest_24 (gw10 0 rfl rfl) mv_X9_active (w9_active_ok (PCx_l C) (PCx_I C) hk) rfl rfl rfl rfl rfl (Nat.le_of_ble_eq_true rfl) (Nat.le_of_ble_eq_true rfl) (Nat.le_of_ble_eq_true rfl) (Nat.le_of_ble_eq_true rfl) ?_
    intro r4 μ3 hk
    refine px_aload_n (i := 0) C dX9_busiest_27 rfl rfl ?_
    refine px_iload_n (i := 1) C dX9_busiest_28 rfl rfl ?_
    refine px_iload_n (i := 2) C dX9_busiest_29 rfl rfl ?_
    refine px_callVi (h := 2) (rc' := 0) (rs' := 0) C (HR_le hHR (Nat.le_of_ble_eq_true rfl)) hRt hnT dX9_busiest_30 (gw10 0 rfl rfl) mv_X9_active (w9_active_ok (PCx_l C) (PCx_I C) hk) rfl rfl rfl rfl rfl (Nat.le_of_ble_eq_true rfl) (Nat.le_of_ble_eq_true rfl) (Nat.le_of_ble_eq_true rfl) (Nat.le_of_ble_eq_true rfl) ?_
    intro r6 μ5 hk
    refine px_icmp_le (tgt := 40) C dX9_busiest_33 (by decide) (fun c7 => ?_) (fun c7 => ?_)
    · replace hk := hk.1 c7
      refine px_iload_n (i := 2) C dX9_busiest_40 rfl rfl ?_
      refine px_istore_n (i := 2) C dX9_busiest_41 rfl (by decide) rfl ?_
      refine px_iinc (i := 3) (v := (1 : Int32)) C dX9_busiest_42 rfl rfl (by decide) rfl ?_
      refine px_goto (tgt := 15) C dX9_busiest_45 (by decide) ?_
      exact PW_at (hR15 _ _ _ _ hk) (And.intro rfl (And.intro rfl (And.intro rfl (And.intro rfl trivial)))) (Nat.le_of_ble_eq_true rfl) (Nat.le_of_ble_eq_true rfl)
    · replace hk := hk.2 c7
      refine px_iload_n (i := 3) C dX9_busiest_36 rfl rfl ?_
      refine px_goto (tgt := 41) C dX9_busiest_37 (by decide) ?_
      refine px_istore_n (i := 2) C dX9_busiest_41 rfl (by decide) rfl ?_
      refine px_iinc (i := 3) (v := (1 : Int32)) C dX9_busiest_42 rfl rfl (by decide) rfl ?_
      refine px_goto (tgt := 15) C dX9_busiest_45 (by decide) ?_
      exact PW_at (hR15 _ _ _ _ hk) (And.intro rfl (And.intro rfl (And.intro rfl (And.intro rfl trivial)))) (Nat.le_of_ble_eq_true rfl) (Nat.le_of_ble_eq_true rfl)
set_option maxRecDepth 100000 in
set_option maxHeartbeats 4000000 in
theorem w9_busiest_ok {l : Launch} {idx : List (Nat × Nat)} {μ : Mem} {a1 : Int32} {P : Int32 → Mem → Prop} {X : String → Mem → Prop} (hl : l.stackTraces = false) (hI : IdxOK idx) (hk : w9_busiest_wp μ a1 P) : PMet l yX9_busiest (.code yX9_busiest cX9_busiest 4 (some .int)) 7 0 0 idx [pR 50 0, pI a1] μ (qI P) X := by
  refine PMet_of mv_X9_busiest.2.2.2.2.2.2 hl hI mv_X9_busiest.2.2.2.1 rfl (Nat.le_of_ble_eq_true rfl) (fun G _ _ C hRt hHR hnT => ?_)
  show PW G 0 0 0 [some (pR 50 0), some (pI a1), none, none] [] μ
  unfold w9_busiest_wp at hk
  refine px_aload_n (i := 0) C dX9_busiest_0 rfl rfl ?_
  refine px_iload_n (i := 1) C dX9_busiest_1 rfl rfl ?_
  refine px_iconst (v := (1 : Int32)) C dX9_busiest_2 rfl ?_
  refine px_callVi (h := 6) (rc' := 0) (rs' := 0) C (HR_le hHR (Nat.le_of_ble_eq_true rfl)) hRt hnT dX9_busiest_3 (gw9 236 rfl rfl) mv_X9_activityRefusal (w9_activityRefusal_ok (PCx_l C) (PCx_I C) hk) rfl rfl rfl rfl rfl (Nat.le_of_ble_eq_true rfl) (Nat.le_of_ble_eq_true rfl) (Nat.le_of_ble_eq_true rfl) (Nat.le_of_ble_eq_true rfl) ?_
  intro r2 μ1 hk
  refine px_if_le (tgt := 11) C dX9_busiest_6 (by decide) (fun c9 => ?_) (fun c9 => ?_)
  · replace hk := hk.1 c9
    refine px_iconst (v := (0 : Int32)) C dX9_busiest_11 rfl ?_
    refine px_istore_n (i := 2) C dX9_busiest_12 rfl (by decide) rfl ?_
    refine px_iconst (v := (1 : Int32)) C dX9_busiest_13 rfl ?_
    refine px_istore_n (i := 3) C dX9_busiest_14 rfl (by decide) rfl ?_
    exact PW_at (w9_busiest_b15_ok C hRt hHR hnT hk) (And.intro rfl (And.intro rfl (And.intro rfl (And.intro rfl trivial)))) (Nat.le_of_ble_eq_true rfl) (Nat.le_of_ble_eq_true rfl)
  · replace hk := hk.2 c9
    refine px_iconst (v := (0 : Int32)) C dX9_busiest_9 rfl ?_
    exact px_iret C hRt dX9_busiest_10 rfl rfl hk
theorem dX9_linkDelay_0 : decode cX9_linkDelay 0 = .ok (.aload_n 0, 1) := by decide +kernel
theorem dX9_linkDelay_1 : decode cX9_linkDelay 1 = .ok (.iconst 0, 1) := by decide +kernel
theorem dX9_linkDelay_2 : decode cX9_linkDelay 2 = .ok (.putfield 80, 3) := by decide +kernel
theorem dX9_linkDelay_5 : decode cX9_linkDelay 5 = .ok (.aload_n 0, 1) := by decide +kernel
theorem dX9_linkDelay_6 : decode cX9_linkDelay 6 = .ok (.invokevirtual 137, 3) := by decide +kernel
theorem dX9_linkDelay_9 : decode cX9_linkDelay 9 = .ok (.iload_n 1, 1) := by decide +kernel
theorem dX9_linkDelay_10 : decode cX9_linkDelay 10 = .ok (.iconst 0, 1) := by decide +kernel
theorem dX9_linkDelay_11 : decode cX9_linkDelay 11 = .ok (.aload_n 0, 1) := by decide +kernel
theorem dX9_linkDelay_12 : decode cX9_linkDelay 12 = .ok (.getfield 7, 3) := by decide +kernel
theorem dX9_linkDelay_15 : decode cX9_linkDelay 15 = .ok (.iconst 1, 1) := by decide +kernel
theorem dX9_linkDelay_16 : decode cX9_linkDelay 16 = .ok (.iaload, 1) := by decide +kernel
theorem dX9_linkDelay_17 : decode cX9_linkDelay 17 = .ok (.iconst 1, 1) := by decide +kernel
theorem dX9_linkDelay_18 : decode cX9_linkDelay 18 = .ok (.isub, 1) := by decide +kernel
theorem dX9_linkDelay_19 : decode cX9_linkDelay 19 = .ok (.invokestatic 140, 3) := by decide +kernel
theorem dX9_linkDelay_22 : decode cX9_linkDelay 22 = .ok (.ifCond .ne 9, 3) := by decide +kernel
theorem dX9_linkDelay_25 : decode cX9_linkDelay 25 = .ok (.aload_n 0, 1) := by decide +kernel
theorem dX9_linkDelay_26 : decode cX9_linkDelay 26 = .ok (.iconst 1, 1) := by decide +kernel
theorem dX9_linkDelay_27 : decode cX9_linkDelay 27 = .ok (.invokevirtual 203, 3) := by decide +kernel
theorem dX9_linkDelay_30 : decode cX9_linkDelay 30 = .ok (.ireturn, 1) := by decide +kernel
theorem dX9_linkDelay_31 : decode cX9_linkDelay 31 = .ok (.aload_n 0, 1) := by decide +kernel
theorem dX9_linkDelay_32 : decode cX9_linkDelay 32 = .ok (.aload_n 0, 1) := by decide +kernel
theorem dX9_linkDelay_33 : decode cX9_linkDelay 33 = .ok (.aload_n 0, 1) := by decide +kernel
theorem dX9_linkDelay_34 : decode cX9_linkDelay 34 = .ok (.getfield 7, 3) := by decide +kernel
theorem dX9_linkDelay_37 : decode cX9_linkDelay 37 = .ok (.sipush 282, 3) := by decide +kernel
theorem dX9_linkDelay_40 : decode cX9_linkDelay 40 = .ok (.iconst 2, 1) := by decide +kernel
theorem dX9_linkDelay_41 : decode cX9_linkDelay 41 = .ok (.iload_n 1, 1) := by decide +kernel
theorem dX9_linkDelay_42 : decode cX9_linkDelay 42 = .ok (.imul, 1) := by decide +kernel
theorem dX9_linkDelay_43 : decode cX9_linkDelay 43 = .ok (.iadd, 1) := by decide +kernel
theorem dX9_linkDelay_44 : decode cX9_linkDelay 44 = .ok (.iconst 1, 1) := by decide +kernel
theorem dX9_linkDelay_45 : decode cX9_linkDelay 45 = .ok (.iadd, 1) := by decide +kernel
theorem dX9_linkDelay_46 : decode cX9_linkDelay 46 = .ok (.iaload, 1) := by decide +kernel
theorem dX9_linkDelay_47 : decode cX9_linkDelay 47 = .ok (.invokevirtual 87, 3) := by decide +kernel
theorem dX9_linkDelay_50 : decode cX9_linkDelay 50 = .ok (.invokevirtual 131, 3) := by decide +kernel
theorem dX9_linkDelay_53 : decode cX9_linkDelay 53 = .ok (.aload_n 0, 1) := by decide +kernel
theorem dX9_linkDelay_54 : decode cX9_linkDelay 54 = .ok (.aload_n 0, 1) := by decide +kernel
theorem dX9_linkDelay_55 : decode cX9_linkDelay 55 = .ok (.aload_n 0, 1) := by decide +kernel
theorem dX9_linkDelay_56 : decode cX9_linkDelay 56 = .ok (.getfield 7, 3) := by decide +kernel
theorem dX9_linkDelay_59 : decode cX9_linkDelay 59 = .ok (.sipush 282, 3) := by decide +kernel
theorem dX9_linkDelay_62 : decode cX9_linkDelay 62 = .ok (.iconst 2, 1) := by decide +kernel
theorem dX9_linkDelay_63 : decode cX9_linkDelay 63 = .ok (.iload_n 1, 1) := by decide +kernel
theorem dX9_linkDelay_64 : decode cX9_linkDelay 64 = .ok (.imul, 1) := by decide +kernel
theorem dX9_linkDelay_65 : decode cX9_linkDelay 65 = .ok (.iadd, 1) := by decide +kernel
theorem dX9_linkDelay_66 : decode cX9_linkDelay 66 = .ok (.iaload, 1) := by decide +kernel
theorem dX9_linkDelay_67 : decode cX9_linkDelay 67 = .ok (.invokevirtual 87, 3) := by decide +kernel
theorem dX9_linkDelay_70 : decode cX9_linkDelay 70 = .ok (.invokevirtual 134, 3) := by decide +kernel
theorem dX9_linkDelay_73 : decode cX9_linkDelay 73 = .ok (.isub, 1) := by decide +kernel
theorem dX9_linkDelay_74 : decode cX9_linkDelay 74 = .ok (.ireturn, 1) := by decide +kernel
set_option maxRecDepth 100000 in
set_option maxHeartbeats 4000000 in
theorem w9_linkDelay_ok {l : Launch} {idx : List (Nat × Nat)} {μ : Mem} {a1 : Int32} {P : Int32 → Mem → Prop} {X : String → Mem → Prop} (hl : l.stackTraces = false) (hI : IdxOK idx) (hk : w9_linkDelay_wp μ a1 P) : PMet l yX9_linkDelay (.code yX9_linkDelay cX9_linkDelay 2 (some .int)) 6 0 0 idx [pR 50 0, pI a1] μ (qI P) X := by
  refine PMet_of mv_X9_linkDelay.2.2.2.2.2.2 hl hI mv_X9_linkDelay.2.2.2.1 rfl (Nat.le_of_ble_eq_true rfl) (fun G _ _ C hRt hHR hnT => ?_)
  show PW G 0 0 0 [some (pR 50 0), some (pI a1)] [] μ
  unfold w9_linkDelay_wp at hk
  refine px_aload_n (i := 0) C dX9_linkDelay_0 rfl rfl ?_
  refine px_iconst (v := (0 : Int32)) C dX9_linkDelay_1 rfl ?_
  replace hk := hk _ rfl
  refine px_puti 3201 C dX9_linkDelay_2 fp_RX9_80 rfl rfl rfl rfl rfl rfl ?_
  refine px_aload_n (i := 0) C dX9_linkDelay_5 rfl rfl ?_
  refine px_callVv (h := 5) (rc' := 0) (rs' := 0) C (HR_le hHR (Nat.le_of_ble_eq_true rfl)) hRt hnT dX9_linkDelay_6 (gw8 208 rfl rfl) mv_X9_knows (w9_knows_ok (PCx_l C) (PCx_I C) hk) rfl rfl rfl rfl rfl (Nat.le_of_ble_eq_true rfl) (Nat.le_of_ble_eq_true rfl) (Nat.le_of_ble_eq_true rfl) (Nat.le_of_ble_eq_true rfl) ?_
  intro μ2 hk
  refine px_iload_n (i := 1) C dX9_linkDelay_9 rfl rfl ?_
  refine px_iconst (v := (0 : Int32)) C dX9_linkDelay_10 rfl ?_
  refine px_aload_n (i := 0) C dX9_linkDelay_11 rfl rfl ?_
  refine px_getr C dX9_linkDelay_12 fl_RX9_7 rfl rfl rfl ?_
  refine px_iconst (v := (1 : Int32)) C dX9_linkDelay_15 rfl ?_
  obtain ⟨o3, hk⟩ := hk
  refine px_iald 3264 C dX9_linkDelay_16 rfl rfl rfl rfl o3 ?_
  refine px_iconst (v := (1 : Int32)) C dX9_linkDelay_17 rfl ?_
  refine px_isub C dX9_linkDelay_18 ?_
  refine px_callSi (h := 0) (rc' := 0) (rs' := 0) C (HR_le hHR (Nat.le_of_ble_eq_true rfl)) hRt hnT dX9_linkDelay_19 (gw8 138 rfl rfl) ms_X9_in (w9_in_ok (PCx_l C) (PCx_I C) hk) rfl rfl (Nat.le_of_ble_eq_true rfl) (Nat.le_of_ble_eq_true rfl) (Nat.le_of_ble_eq_true rfl) (Nat.le_of_ble_eq_true rfl) ?_
  intro r5 μ4 hk
  refine px_if_ne (tgt := 31) C dX9_linkDelay_22 (by decide) (fun c18 => ?_) (fun c18 => ?_)
  · replace hk := hk.1 c18
    refine px_aload_n (i := 0) C dX9_linkDelay_31 rfl rfl ?_
    refine px_aload_n (i := 0) C dX9_linkDelay_32 rfl rfl ?_
    refine px_aload_n (i := 0) C dX9_linkDelay_33 rfl rfl ?_
    refine px_getr C dX9_linkDelay_34 fl_RX9_7 rfl rfl rfl ?_
    refine px_sipush (v := (282 : Int32)) C dX9_linkDelay_37 rfl ?_
    refine px_iconst (v := (2 : Int32)) C dX9_linkDelay_40 rfl ?_
    refine px_iload_n (i := 1) C dX9_linkDelay_41 rfl rfl ?_
    refine px_imul C dX9_linkDelay_42 ?_
    refine px_iadd C dX9_linkDelay_43 ?_
    refine px_iconst (v := (1 : Int32)) C dX9_linkDelay_44 rfl ?_
    refine px_iadd C dX9_linkDelay_45 ?_
    obtain ⟨o6, hk⟩ := hk
    refine px_iald 3264 C dX9_linkDelay_46 rfl rfl rfl rfl o6 ?_
    refine px_callVi (h := 1) (rc' := 0) (rs' := 0) C (HR_le hHR (Nat.le_of_ble_eq_true rfl)) hRt hnT dX9_linkDelay_47 (gw8 148 rfl rfl) mv_X9_find (w9_find_ok (PCx_l C) (PCx_I C) hk) rfl rfl rfl rfl rfl (Nat.le_of_ble_eq_true rfl) (Nat.le_of_ble_eq_true rfl) (Nat.le_of_ble_eq_true rfl) (Nat.le_of_ble_eq_true rfl) ?_
    intro r8 μ7 hk
    refine px_callVi (h := 1) (rc' := 0) (rs' := 0) C (HR_le hHR (Nat.le_of_ble_eq_true rfl)) hRt hnT dX9_linkDelay_50 (gw9 22 rfl rfl) mv_X9_begin (w9_begin_ok (PCx_l C) (PCx_I C) hk) rfl rfl rfl rfl rfl (Nat.le_of_ble_eq_true rfl) (Nat.le_of_ble_eq_true rfl) (Nat.le_of_ble_eq_true rfl) (Nat.le_of_ble_eq_true rfl) ?_
    intro r10 μ9 hk
    refine px_aload_n (i := 0) C dX9_linkDelay_53 rfl rfl ?_
    refine px_aload_n (i := 0) C dX9_linkDelay_54 rfl rfl ?_
    refine px_aload_n (i := 0) C dX9_linkDelay_55 rfl rfl ?_
    refine px_getr C dX9_linkDelay_56 fl_RX9_7 rfl rfl rfl ?_
    refine px_sipush (v := (282 : Int32)) C dX9_linkDelay_59 rfl ?_
    refine px_iconst (v := (2 : Int32)) C dX9_linkDelay_62 rfl ?_
    refine px_iload_n (i := 1) C dX9_linkDelay_63 rfl rfl ?_
    refine px_imul C dX9_linkDelay_64 ?_
    refine px_iadd C dX9_linkDelay_65 ?_
    obtain ⟨o11, hk⟩ := hk
    refine px_iald 3264 C dX9_linkDelay_66 rfl rfl rfl rfl o11 ?_
    refine px_callVi (h := 1) (rc' := 0) (rs' := 0) C (HR_le hHR (Nat.le_of_ble_eq_true rfl)) hRt hnT dX9_linkDelay_67 (gw8 148 rfl rfl) mv_X9_find (w9_find_ok (PCx_l C) (PCx_I C) hk) rfl rfl rfl rfl rfl (Nat.le_of_ble_eq_true rfl) (Nat.le_of_ble_eq_true rfl) (Nat.le_of_ble_eq_true rfl) (Nat.le_of_ble_eq_true rfl) ?_
    intro r13 μ12 hk
    refine px_callVi (h := 1) (rc' := 0) (rs' := 0) C (HR_le hHR (Nat.le_of_ble_eq_true rfl)) hRt hnT dX9_linkDelay_70 (gw9 26 rfl rfl) mv_X9_end (w9_end_ok (PCx_l C) (PCx_I C) hk) rfl rfl rfl rfl rfl (Nat.le_of_ble_eq_true rfl) (Nat.le_of_ble_eq_true rfl) (Nat.le_of_ble_eq_true rfl) (Nat.le_of_ble_eq_true rfl) ?_
    intro r15 μ14 hk
    refine px_isub C dX9_linkDelay_73 ?_
    exact px_iret C hRt dX9_linkDelay_74 rfl rfl hk
  · replace hk := hk.2 c18
    refine px_aload_n (i := 0) C dX9_linkDelay_25 rfl rfl ?_
    refine px_iconst (v := (1 : Int32)) C dX9_linkDelay_26 rfl ?_
    refine px_callVi (h := 0) (rc' := 0) (rs' := 0) C (HR_le hHR (Nat.le_of_ble_eq_true rfl)) hRt hnT dX9_linkDelay_27 (gw8 144 rfl rfl) mv_X9_fails (w9_fails_ok (PCx_l C) (PCx_I C) hk) rfl rfl rfl rfl rfl (Nat.le_of_ble_eq_true rfl) (Nat.le_of_ble_eq_true rfl) (Nat.le_of_ble_eq_true rfl) (Nat.le_of_ble_eq_true rfl) ?_
    intro r17 μ16 hk
    exact px_iret C hRt dX9_linkDelay_30 rfl rfl hk
theorem dX9_bookmark_0 : decode cX9_bookmark 0 = .ok (.aload_n 0, 1) := by decide +kernel
theorem dX9_bookmark_1 : decode cX9_bookmark 1 = .ok (.iconst 0, 1) := by decide +kernel
theorem dX9_bookmark_2 : decode cX9_bookmark 2 = .ok (.putfield 80, 3) := by decide +kernel
theorem dX9_bookmark_5 : decode cX9_bookmark 5 = .ok (.iload_n 1, 1) := by decide +kernel
theorem dX9_bookmark_6 : decode cX9_bookmark 6 = .ok (.iload_n 2, 1) := by decide +kernel
theorem dX9_bookmark_7 : decode cX9_bookmark 7 = .ok (.invokestatic 283, 3) := by decide +kernel
theorem dX9_bookmark_10 : decode cX9_bookmark 10 = .ok (.ifCond .eq 10, 3) := by decide +kernel
theorem dX9_bookmark_13 : decode cX9_bookmark 13 = .ok (.iload_n 3, 1) := by decide +kernel
theorem dX9_bookmark_14 : decode cX9_bookmark 14 = .ok (.invokestatic 143, 3) := by decide +kernel
theorem dX9_bookmark_17 : decode cX9_bookmark 17 = .ok (.ifCond .ne 9, 3) := by decide +kernel
theorem dX9_bookmark_20 : decode cX9_bookmark 20 = .ok (.aload_n 0, 1) := by decide +kernel
theorem dX9_bookmark_21 : decode cX9_bookmark 21 = .ok (.iconst 1, 1) := by decide +kernel
theorem dX9_bookmark_22 : decode cX9_bookmark 22 = .ok (.invokevirtual 203, 3) := by decide +kernel
theorem dX9_bookmark_25 : decode cX9_bookmark 25 = .ok (.ireturn, 1) := by decide +kernel
theorem dX9_bookmark_26 : decode cX9_bookmark 26 = .ok (.aload_n 0, 1) := by decide +kernel
theorem dX9_bookmark_27 : decode cX9_bookmark 27 = .ok (.iload_n 3, 1) := by decide +kernel
theorem dX9_bookmark_28 : decode cX9_bookmark 28 = .ok (.iload 4, 2) := by decide +kernel
theorem dX9_bookmark_30 : decode cX9_bookmark 30 = .ok (.invokevirtual 146, 3) := by decide +kernel
theorem dX9_bookmark_33 : decode cX9_bookmark 33 = .ok (.istore 5, 2) := by decide +kernel
theorem dX9_bookmark_35 : decode cX9_bookmark 35 = .ok (.iload 5, 2) := by decide +kernel
theorem dX9_bookmark_37 : decode cX9_bookmark 37 = .ok (.iconst (-1), 1) := by decide +kernel
theorem dX9_bookmark_38 : decode cX9_bookmark 38 = .ok (.if_icmp .ne 9, 3) := by decide +kernel
theorem dX9_bookmark_41 : decode cX9_bookmark 41 = .ok (.aload_n 0, 1) := by decide +kernel
theorem dX9_bookmark_42 : decode cX9_bookmark 42 = .ok (.iconst 2, 1) := by decide +kernel
theorem dX9_bookmark_43 : decode cX9_bookmark 43 = .ok (.invokevirtual 203, 3) := by decide +kernel
theorem dX9_bookmark_46 : decode cX9_bookmark 46 = .ok (.ireturn, 1) := by decide +kernel
theorem dX9_bookmark_47 : decode cX9_bookmark 47 = .ok (.iload_n 1, 1) := by decide +kernel
theorem dX9_bookmark_48 : decode cX9_bookmark 48 = .ok (.ifCond .ne 16, 3) := by decide +kernel
theorem dX9_bookmark_51 : decode cX9_bookmark 51 = .ok (.iload 5, 2) := by decide +kernel
theorem dX9_bookmark_53 : decode cX9_bookmark 53 = .ok (.bipush 40, 2) := by decide +kernel
theorem dX9_bookmark_55 : decode cX9_bookmark 55 = .ok (.if_icmp .lt 9, 3) := by decide +kernel
theorem dX9_bookmark_58 : decode cX9_bookmark 58 = .ok (.aload_n 0, 1) := by decide +kernel
theorem dX9_bookmark_59 : decode cX9_bookmark 59 = .ok (.iconst 3, 1) := by decide +kernel
theorem dX9_bookmark_60 : decode cX9_bookmark 60 = .ok (.invokevirtual 203, 3) := by decide +kernel
theorem dX9_bookmark_63 : decode cX9_bookmark 63 = .ok (.ireturn, 1) := by decide +kernel
theorem dX9_bookmark_64 : decode cX9_bookmark 64 = .ok (.aload_n 0, 1) := by decide +kernel
theorem dX9_bookmark_65 : decode cX9_bookmark 65 = .ok (.getfield 22, 3) := by decide +kernel
theorem dX9_bookmark_68 : decode cX9_bookmark 68 = .ok (.bipush 8, 2) := by decide +kernel
theorem dX9_bookmark_70 : decode cX9_bookmark 70 = .ok (.iload_n 1, 1) := by decide +kernel
theorem dX9_bookmark_71 : decode cX9_bookmark 71 = .ok (.imul, 1) := by decide +kernel
theorem dX9_bookmark_72 : decode cX9_bookmark 72 = .ok (.iconst 2, 1) := by decide +kernel
theorem dX9_bookmark_73 : decode cX9_bookmark 73 = .ok (.iload_n 2, 1) := by decide +kernel
theorem dX9_bookmark_74 : decode cX9_bookmark 74 = .ok (.imul, 1) := by decide +kernel
theorem dX9_bookmark_75 : decode cX9_bookmark 75 = .ok (.iadd, 1) := by decide +kernel
theorem dX9_bookmark_76 : decode cX9_bookmark 76 = .ok (.iload_n 3, 1) := by decide +kernel
theorem dX9_bookmark_77 : decode cX9_bookmark 77 = .ok (.iastore, 1) := by decide +kernel
theorem dX9_bookmark_78 : decode cX9_bookmark 78 = .ok (.aload_n 0, 1) := by decide +kernel
theorem dX9_bookmark_79 : decode cX9_bookmark 79 = .ok (.getfield 22, 3) := by decide +kernel
theorem dX9_bookmark_82 : decode cX9_bookmark 82 = .ok (.bipush 8, 2) := by decide +kernel
theorem dX9_bookmark_84 : decode cX9_bookmark 84 = .ok (.iload_n 1, 1) := by decide +kernel
theorem dX9_bookmark_85 : decode cX9_bookmark 85 = .ok (.imul, 1) := by decide +kernel
theorem dX9_bookmark_86 : decode cX9_bookmark 86 = .ok (.iconst 2, 1) := by decide +kernel
theorem dX9_bookmark_87 : decode cX9_bookmark 87 = .ok (.iload_n 2, 1) := by decide +kernel
theorem dX9_bookmark_88 : decode cX9_bookmark 88 = .ok (.imul, 1) := by decide +kernel
theorem dX9_bookmark_89 : decode cX9_bookmark 89 = .ok (.iadd, 1) := by decide +kernel
theorem dX9_bookmark_90 : decode cX9_bookmark 90 = .ok (.iconst 1, 1) := by decide +kernel
theorem dX9_bookmark_91 : decode cX9_bookmark 91 = .ok (.iadd, 1) := by decide +kernel
theorem dX9_bookmark_92 : decode cX9_bookmark 92 = .ok (.iload 4, 2) := by decide +kernel
theorem dX9_bookmark_94 : decode cX9_bookmark 94 = .ok (.iastore, 1) := by decide +kernel
theorem dX9_bookmark_95 : decode cX9_bookmark 95 = .ok (.iconst 0, 1) := by decide +kernel
theorem dX9_bookmark_96 : decode cX9_bookmark 96 = .ok (.istore 6, 2) := by decide +kernel
theorem dX9_bookmark_98 : decode cX9_bookmark 98 = .ok (.iconst 0, 1) := by decide +kernel
theorem dX9_bookmark_99 : decode cX9_bookmark 99 = .ok (.istore 7, 2) := by decide +kernel
theorem dX9_bookmark_101 : decode cX9_bookmark 101 = .ok (.iload 7, 2) := by decide +kernel
theorem dX9_bookmark_103 : decode cX9_bookmark 103 = .ok (.iconst 4, 1) := by decide +kernel
theorem dX9_bookmark_104 : decode cX9_bookmark 104 = .ok (.if_icmp .ge 37, 3) := by decide +kernel
theorem dX9_bookmark_107 : decode cX9_bookmark 107 = .ok (.iload 6, 2) := by decide +kernel
theorem dX9_bookmark_109 : decode cX9_bookmark 109 = .ok (.aload_n 0, 1) := by decide +kernel
theorem dX9_bookmark_110 : decode cX9_bookmark 110 = .ok (.getfield 22, 3) := by decide +kernel
theorem dX9_bookmark_113 : decode cX9_bookmark 113 = .ok (.bipush 8, 2) := by decide +kernel
theorem dX9_bookmark_115 : decode cX9_bookmark 115 = .ok (.iload_n 1, 1) := by decide +kernel
theorem dX9_bookmark_116 : decode cX9_bookmark 116 = .ok (.imul, 1) := by decide +kernel
theorem dX9_bookmark_117 : decode cX9_bookmark 117 = .ok (.iconst 2, 1) := by decide +kernel
theorem dX9_bookmark_118 : decode cX9_bookmark 118 = .ok (.iload 7, 2) := by decide +kernel
theorem dX9_bookmark_120 : decode cX9_bookmark 120 = .ok (.imul, 1) := by decide +kernel
theorem dX9_bookmark_121 : decode cX9_bookmark 121 = .ok (.iadd, 1) := by decide +kernel
theorem dX9_bookmark_122 : decode cX9_bookmark 122 = .ok (.iaload, 1) := by decide +kernel
theorem dX9_bookmark_123 : decode cX9_bookmark 123 = .ok (.iconst (-1), 1) := by decide +kernel
theorem dX9_bookmark_124 : decode cX9_bookmark 124 = .ok (.if_icmp .eq 7, 3) := by decide +kernel
theorem dX9_bookmark_127 : decode cX9_bookmark 127 = .ok (.iconst 1, 1) := by decide +kernel
theorem dX9_bookmark_128 : decode cX9_bookmark 128 = .ok (.goto 4, 3) := by decide +kernel
theorem dX9_bookmark_131 : decode cX9_bookmark 131 = .ok (.iconst 0, 1) := by decide +kernel
theorem dX9_bookmark_132 : decode cX9_bookmark 132 = .ok (.iadd, 1) := by decide +kernel
theorem dX9_bookmark_133 : decode cX9_bookmark 133 = .ok (.istore 6, 2) := by decide +kernel
theorem dX9_bookmark_135 : decode cX9_bookmark 135 = .ok (.iinc 7 1, 3) := by decide +kernel
theorem dX9_bookmark_138 : decode cX9_bookmark 138 = .ok (.goto (-37), 3) := by decide +kernel
theorem dX9_bookmark_141 : decode cX9_bookmark 141 = .ok (.iload 6, 2) := by decide +kernel
theorem dX9_bookmark_143 : decode cX9_bookmark 143 = .ok (.ireturn, 1) := by decide +kernel
set_option maxRecDepth 100000 in
set_option maxHeartbeats 4000000 in
theorem w9_bookmark_b101_ok {G : GT} {P : Int32 → Mem → Prop} {X : String → Mem → Prop} (C : PCx G cX9_bookmark 8 RX9) (hRt : PRt G (some .int) (qI P) X) (hHR : HR G (7)) (hnT : NoT G) {μ : Mem} {l1 : Int32} {l6 : Int32} {l7 : Int32} (hk : w9_bookmark_b101 P μ l1 l6 l7) : PW G 0 0 101 [some (pR 50 0), some (pI l1), none, none, none, none, some (pI l6), some (pI l7)] [] μ := by
  refine hk (fun (μ : Mem) (l1 : Int32) (l6 : Int32) (l7 : Int32) => PW G 0 0 101 [some (pR 50 0), some (pI l1), none, none, none, none, some (pI l6), some (pI l7)] [] μ) (fun (μ : Mem) l1 l6 l7 hk => ?_)
  have hR101 : ∀ (μ : Mem) (l1 : Int32) (l6 : Int32) (l7 : Int32), PW G 0 0 101 [some (pR 50 0), some (pI l1), none, none, none, none, some (pI l6), some (pI l7)] [] μ → PW G 0 0 101 [some (pR 50 0), some (pI l1), none, none, none, none, some (pI l6), some (pI l7)] [] μ := fun _ _ _ _ h => h
  unfold w9_bookmark_b101_body at hk
  refine px_iload (i := 7) C dX9_bookmark_101 rfl ?_
  refine px_iconst (v := (4 : Int32)) C dX9_bookmark_103 rfl ?_
  refine px_icmp_ge (tgt := 141) C dX9_bookmark_104 (by decide) (fun c16 => ?_) (fun c16 => ?_)
  · replace hk := hk.1 c16
    refine px_iload (i := 6) C dX9_bookmark_141 rfl ?_
    exact px_iret C hRt dX9_bookmark_143 rfl rfl hk
  · replace hk := hk.2 c16
    refine px_iload (i := 6) C dX9_bookmark_107 rfl ?_
    refine px_aload_n (i := 0) C dX9_bookmark_109 rfl rfl ?_
    refine px_getr C dX9_bookmark_110 fl_RX9_22 rfl rfl rfl ?_
    refine px_bipush (v := (8 : Int32)) C dX9_bookmark_113 rfl ?_
    refine px_iload_n (i := 1) C dX9_bookmark_115 rfl rfl ?_
    refine px_imul C dX9_bookmark_116 ?_
    refine px_iconst (v := (2 : Int32)) C dX9_bookmark_117 rfl ?_
    refine px_iload (i := 7) C dX9_bookmark_118 rfl ?_
    refine px_imul C dX9_bookmark_120 ?_
    refine px_iadd C dX9_bookmark_121 ?_
    obtain ⟨o14, hk⟩ := hk
    refine px_iald 3520 C dX9_bookmark_122 rfl rfl rfl rfl o14 ?_
    refine px_iconst (v := (-1 : Int32)) C dX9_bookmark_123 rfl ?_
    refine px_icmp_eq (tgt := 131) C dX9_bookmark_124 (by decide) (fun c15 => ?_) (fun c15 => ?_)
    · replace hk := hk.1 c15
      refine px_iconst (v := (0 : Int32)) C dX9_bookmark_131 rfl ?_
      refine px_iadd C dX9_bookmark_132 ?_
      refine px_istore (i := 6) C dX9_bookmark_133 (by decide) rfl ?_
      refine px_iinc (i := 7) (v := (1 : Int32)) C dX9_bookmark_135 rfl rfl (by decide) rfl ?_
      refine px_goto (tgt := 101) C dX9_bookmark_138 (by decide) ?_
      exact PW_at (hR101 _ _ _ _ hk) (And.intro rfl (And.intro rfl (And.intro rfl (And.intro rfl trivial)))) (Nat.le_of_ble_eq_true rfl) (Nat.le_of_ble_eq_true rfl)
    · replace hk := hk.2 c15
      refine px_iconst (v := (1 : Int32)) C dX9_bookmark_127 rfl ?_
      refine px_goto (tgt := 132) C dX9_bookmark_128 (by decide) ?_
      refine px_iadd C dX9_bookmark_132 ?_
      refine px_istore (i := 6) C dX9_bookmark_133 (by decide) rfl ?_
      refine px_iinc (i := 7) (v := (1 : Int32)) C dX9_bookmark_135 rfl rfl (by decide) rfl ?_
      refine px_goto (tgt := 101) C dX9_bookmark_138 (by decide) ?_
      exact PW_at (hR101 _ _ _ _ hk) (And.intro rfl (And.intro rfl (And.intro rfl (And.intro rfl trivial)))) (Nat.le_of_ble_eq_true rfl) (Nat.le_of_ble_eq_true rfl)
set_option maxRecDepth 100000 in
set_option maxHeartbeats 4000000 in
theorem w9_bookmark_b64_ok {G : GT} {P : Int32 → Mem → Prop} {X : String → Mem → Prop} (C : PCx G cX9_bookmark 8 RX9) (hRt : PRt G (some .int) (qI P) X) (hHR : HR G (7)) (hnT : NoT G) {μ : Mem} {l1 : Int32} {l2 : Int32} {l3 : Int32} {l4 : Int32} (hk : w9_bookmark_b64 P μ l1 l2 l3 l4) : PW G 0 0 64 [some (pR 50 0), some (pI l1), some (pI l2), some (pI l3), some (pI l4), none, none, none] [] μ := by
  unfold w9_bookmark_b64 at hk
  refine px_aload_n (i := 0) C dX9_bookmark_64 rfl rfl ?_
  refine px_getr C dX9_bookmark_65 fl_RX9_22 rfl rfl rfl ?_
  refine px_bipush (v := (8 : Int32)) C dX9_bookmark_68 rfl ?_
  refine px_iload_n (i := 1) C dX9_bookmark_70 rfl rfl ?_
  refine px_imul C dX9_bookmark_71 ?_
  refine px_iconst (v := (2 : Int32)) C dX9_bookmark_72 rfl ?_
  refine px_iload_n (i := 2) C dX9_bookmark_73 rfl rfl ?_
  refine px_imul C dX9_bookmark_74 ?_
  refine px_iadd C dX9_bookmark_75 ?_
  refine px_iload_n (i := 3) C dX9_bookmark_76 rfl rfl ?_
  obtain ⟨o10, hk⟩ := hk
  replace hk := hk _ rfl
  refine px_iast 3520 C dX9_bookmark_77 rfl rfl rfl rfl o10 ?_
  refine px_aload_n (i := 0) C dX9_bookmark_78 rfl rfl ?_
  refine px_getr C dX9_bookmark_79 fl_RX9_22 rfl rfl rfl ?_
  refine px_bipush (v := (8 : Int32)) C dX9_bookmark_82 rfl ?_
  refine px_iload_n (i := 1) C dX9_bookmark_84 rfl rfl ?_
  refine px_imul C dX9_bookmark_85 ?_
  refine px_iconst (v := (2 : Int32)) C dX9_bookmark_86 rfl ?_
  refine px_iload_n (i := 2) C dX9_bookmark_87 rfl rfl ?_
  refine px_imul C dX9_bookmark_88 ?_
  refine px_iadd C dX9_bookmark_89 ?_
  refine px_iconst (v := (1 : Int32)) C dX9_bookmark_90 rfl ?_
  refine px_iadd C dX9_bookmark_91 ?_
  refine px_iload (i := 4) C dX9_bookmark_92 rfl ?_
  obtain ⟨o12, hk⟩ := hk
  replace hk := hk _ rfl
  refine px_iast 3520 C dX9_bookmark_94 rfl rfl rfl rfl o12 ?_
  refine px_iconst (v := (0 : Int32)) C dX9_bookmark_95 rfl ?_
  refine px_istore (i := 6) C dX9_bookmark_96 (by decide) rfl ?_
  refine px_iconst (v := (0 : Int32)) C dX9_bookmark_98 rfl ?_
  refine px_istore (i := 7) C dX9_bookmark_99 (by decide) rfl ?_
  exact PW_at (w9_bookmark_b101_ok C hRt hHR hnT hk) (And.intro rfl (And.intro rfl (And.intro rfl (And.intro rfl trivial)))) (Nat.le_of_ble_eq_true rfl) (Nat.le_of_ble_eq_true rfl)
set_option maxRecDepth 100000 in
set_option maxHeartbeats 4000000 in
theorem w9_bookmark_ok {l : Launch} {idx : List (Nat × Nat)} {μ : Mem} {a1 : Int32} {a2 : Int32} {a3 : Int32} {a4 : Int32} {P : Int32 → Mem → Prop} {X : String → Mem → Prop} (hl : l.stackTraces = false) (hI : IdxOK idx) (hk : w9_bookmark_wp μ a1 a2 a3 a4 P) : PMet l yX9_bookmark (.code yX9_bookmark cX9_bookmark 8 (some .int)) 7 0 0 idx [pR 50 0, pI a1, pI a2, pI a3, pI a4] μ (qI P) X := by
  refine PMet_of mv_X9_bookmark.2.2.2.2.2.2 hl hI mv_X9_bookmark.2.2.2.1 rfl (Nat.le_of_ble_eq_true rfl) (fun G _ _ C hRt hHR hnT => ?_)
  show PW G 0 0 0 [some (pR 50 0), some (pI a1), some (pI a2), some (pI a3), some (pI a4), none, none, none] [] μ
  unfold w9_bookmark_wp at hk
  refine px_aload_n (i := 0) C dX9_bookmark_0 rfl rfl ?_
  refine px_iconst (v := (0 : Int32)) C dX9_bookmark_1 rfl ?_
  replace hk := hk _ rfl
  refine px_puti 3201 C dX9_bookmark_2 fp_RX9_80 rfl rfl rfl rfl rfl rfl ?_
  refine px_iload_n (i := 1) C dX9_bookmark_5 rfl rfl ?_
  refine px_iload_n (i := 2) C dX9_bookmark_6 rfl rfl ?_
  refine px_callSi (h := 1) (rc' := 0) (rs' := 0) C (HR_le hHR (Nat.le_of_ble_eq_true rfl)) hRt hnT dX9_bookmark_7 (gw10 36 rfl rfl) ms_X9_isPlace (w9_isPlace_ok (PCx_l C) (PCx_I C) hk) rfl rfl (Nat.le_of_ble_eq_true rfl) (Nat.le_of_ble_eq_true rfl) (Nat.le_of_ble_eq_true rfl) (Nat.le_of_ble_eq_true rfl) ?_
  intro r3 μ2 hk
  refine px_if_eq (tgt := 20) C dX9_bookmark_10 (by decide) (fun c27 => ?_) (fun c27 => ?_)
  · replace hk := hk.1 c27
    refine px_aload_n (i := 0) C dX9_bookmark_20 rfl rfl ?_
    refine px_iconst (v := (1 : Int32)) C dX9_bookmark_21 rfl ?_
    refine px_callVi (h := 0) (rc' := 0) (rs' := 0) C (HR_le hHR (Nat.le_of_ble_eq_true rfl)) hRt hnT dX9_bookmark_22 (gw8 144 rfl rfl) mv_X9_fails (w9_fails_ok (PCx_l C) (PCx_I C) hk) rfl rfl rfl rfl rfl (Nat.le_of_ble_eq_true rfl) (Nat.le_of_ble_eq_true rfl) (Nat.le_of_ble_eq_true rfl) (Nat.le_of_ble_eq_true rfl) ?_
    intro r5 μ4 hk
    exact px_iret C hRt dX9_bookmark_25 rfl rfl hk
  · replace hk := hk.2 c27
    refine px_iload_n (i := 3) C dX9_bookmark_13 rfl rfl ?_
    refine px_callSi (h := 1) (rc' := 0) (rs' := 0) C (HR_le hHR (Nat.le_of_ble_eq_true rfl)) hRt hnT dX9_bookmark_14 (gw8 135 rfl rfl) ms_X9_isTrace (w9_isTrace_ok (PCx_l C) (PCx_I C) hk) rfl rfl (Nat.le_of_ble_eq_true rfl) (Nat.le_of_ble_eq_true rfl) (Nat.le_of_ble_eq_true rfl) (Nat.le_of_ble_eq_true rfl) ?_
    intro r7 μ6 hk
    refine px_if_ne (tgt := 26) C dX9_bookmark_17 (by decide) (fun c26 => ?_) (fun c26 => ?_)
    · replace hk := hk.1 c26
      refine px_aload_n (i := 0) C dX9_bookmark_26 rfl rfl ?_
      refine px_iload_n (i := 3) C dX9_bookmark_27 rfl rfl ?_
      refine px_iload (i := 4) C dX9_bookmark_28 rfl ?_
      refine px_callVi (h := 6) (rc' := 0) (rs' := 0) C (HR_le hHR (Nat.le_of_ble_eq_true rfl)) hRt hnT dX9_bookmark_30 (gw9 66 rfl rfl) mv_X9_node (w9_node_ok (PCx_l C) (PCx_I C) hk) rfl rfl rfl rfl rfl (Nat.le_of_ble_eq_true rfl) (Nat.le_of_ble_eq_true rfl) (Nat.le_of_ble_eq_true rfl) (Nat.le_of_ble_eq_true rfl) ?_
      intro r9 μ8 hk
      refine px_istore (i := 5) C dX9_bookmark_33 (by decide) rfl ?_
      refine px_iload (i := 5) C dX9_bookmark_35 rfl ?_
      refine px_iconst (v := (-1 : Int32)) C dX9_bookmark_37 rfl ?_
      refine px_icmp_ne (tgt := 47) C dX9_bookmark_38 (by decide) (fun c23 => ?_) (fun c23 => ?_)
      · replace hk := hk.1 c23
        refine px_iload_n (i := 1) C dX9_bookmark_47 rfl rfl ?_
        refine px_if_ne (tgt := 64) C dX9_bookmark_48 (by decide) (fun c20 => ?_) (fun c20 => ?_)
        · replace hk := hk.1 c20
          exact PW_at (w9_bookmark_b64_ok C hRt hHR hnT hk) (And.intro rfl (And.intro rfl (And.intro rfl (And.intro rfl (And.intro rfl trivial))))) (Nat.le_of_ble_eq_true rfl) (Nat.le_of_ble_eq_true rfl)
        · replace hk := hk.2 c20
          refine px_iload (i := 5) C dX9_bookmark_51 rfl ?_
          refine px_bipush (v := (40 : Int32)) C dX9_bookmark_53 rfl ?_
          refine px_icmp_lt (tgt := 64) C dX9_bookmark_55 (by decide) (fun c19 => ?_) (fun c19 => ?_)
          · replace hk := hk.1 c19
            exact PW_at (w9_bookmark_b64_ok C hRt hHR hnT hk) (And.intro rfl (And.intro rfl (And.intro rfl (And.intro rfl (And.intro rfl trivial))))) (Nat.le_of_ble_eq_true rfl) (Nat.le_of_ble_eq_true rfl)
          · replace hk := hk.2 c19
            refine px_aload_n (i := 0) C dX9_bookmark_58 rfl rfl ?_
            refine px_iconst (v := (3 : Int32)) C dX9_bookmark_59 rfl ?_
            refine px_callVi (h := 0) (rc' := 0) (rs' := 0) C (HR_le hHR (Nat.le_of_ble_eq_true rfl)) hRt hnT dX9_bookmark_60 (gw8 144 rfl rfl) mv_X9_fails (w9_fails_ok (PCx_l C) (PCx_I C) hk) rfl rfl rfl rfl rfl (Nat.le_of_ble_eq_true rfl) (Nat.le_of_ble_eq_true rfl) (Nat.le_of_ble_eq_true rfl) (Nat.le_of_ble_eq_true rfl) ?_
            intro r18 μ17 hk
            exact px_iret C hRt dX9_bookmark_63 rfl rfl hk
      · replace hk := hk.2 c23
        refine px_aload_n (i := 0) C dX9_bookmark_41 rfl rfl ?_
        refine px_iconst (v := (2 : Int32)) C dX9_bookmark_42 rfl ?_
        refine px_callVi (h := 0) (rc' := 0) (rs' := 0) C (HR_le hHR (Nat.le_of_ble_eq_true rfl)) hRt hnT dX9_bookmark_43 (gw8 144 rfl rfl) mv_X9_fails (w9_fails_ok (PCx_l C) (PCx_I C) hk) rfl rfl rfl rfl rfl (Nat.le_of_ble_eq_true rfl) (Nat.le_of_ble_eq_true rfl) (Nat.le_of_ble_eq_true rfl) (Nat.le_of_ble_eq_true rfl) ?_
        intro r22 μ21 hk
        exact px_iret C hRt dX9_bookmark_46 rfl rfl hk
    · replace hk := hk.2 c26
      refine px_aload_n (i := 0) C dX9_bookmark_20 rfl rfl ?_
      refine px_iconst (v := (1 : Int32)) C dX9_bookmark_21 rfl ?_
      refine px_callVi (h := 0) (rc' := 0) (rs' := 0) C (HR_le hHR (Nat.le_of_ble_eq_true rfl)) hRt hnT dX9_bookmark_22 (gw8 144 rfl rfl) mv_X9_fails (w9_fails_ok (PCx_l C) (PCx_I C) hk) rfl rfl rfl rfl rfl (Nat.le_of_ble_eq_true rfl) (Nat.le_of_ble_eq_true rfl) (Nat.le_of_ble_eq_true rfl) (Nat.le_of_ble_eq_true rfl) ?_
      intro r25 μ24 hk
      exact px_iret C hRt dX9_bookmark_25 rfl rfl hk
theorem dX9_bookmarked_0 : decode cX9_bookmarked 0 = .ok (.aload_n 0, 1) := by decide +kernel
theorem dX9_bookmarked_1 : decode cX9_bookmarked 1 = .ok (.iconst 0, 1) := by decide +kernel
theorem dX9_bookmarked_2 : decode cX9_bookmarked 2 = .ok (.putfield 80, 3) := by decide +kernel
theorem dX9_bookmarked_5 : decode cX9_bookmarked 5 = .ok (.iload_n 1, 1) := by decide +kernel
theorem dX9_bookmarked_6 : decode cX9_bookmarked 6 = .ok (.iload_n 2, 1) := by decide +kernel
theorem dX9_bookmarked_7 : decode cX9_bookmarked 7 = .ok (.invokestatic 283, 3) := by decide +kernel
theorem dX9_bookmarked_10 : decode cX9_bookmarked 10 = .ok (.ifCond .ne 9, 3) := by decide +kernel
theorem dX9_bookmarked_13 : decode cX9_bookmarked 13 = .ok (.aload_n 0, 1) := by decide +kernel
theorem dX9_bookmarked_14 : decode cX9_bookmarked 14 = .ok (.iconst 1, 1) := by decide +kernel
theorem dX9_bookmarked_15 : decode cX9_bookmarked 15 = .ok (.invokevirtual 203, 3) := by decide +kernel
theorem dX9_bookmarked_18 : decode cX9_bookmarked 18 = .ok (.ireturn, 1) := by decide +kernel
theorem dX9_bookmarked_19 : decode cX9_bookmarked 19 = .ok (.aload_n 0, 1) := by decide +kernel
theorem dX9_bookmarked_20 : decode cX9_bookmarked 20 = .ok (.getfield 22, 3) := by decide +kernel
theorem dX9_bookmarked_23 : decode cX9_bookmarked 23 = .ok (.bipush 8, 2) := by decide +kernel
theorem dX9_bookmarked_25 : decode cX9_bookmarked 25 = .ok (.iload_n 1, 1) := by decide +kernel
theorem dX9_bookmarked_26 : decode cX9_bookmarked 26 = .ok (.imul, 1) := by decide +kernel
theorem dX9_bookmarked_27 : decode cX9_bookmarked 27 = .ok (.iconst 2, 1) := by decide +kernel
theorem dX9_bookmarked_28 : decode cX9_bookmarked 28 = .ok (.iload_n 2, 1) := by decide +kernel
theorem dX9_bookmarked_29 : decode cX9_bookmarked 29 = .ok (.imul, 1) := by decide +kernel
theorem dX9_bookmarked_30 : decode cX9_bookmarked 30 = .ok (.iadd, 1) := by decide +kernel
theorem dX9_bookmarked_31 : decode cX9_bookmarked 31 = .ok (.iaload, 1) := by decide +kernel
theorem dX9_bookmarked_32 : decode cX9_bookmarked 32 = .ok (.istore_n 3, 1) := by decide +kernel
theorem dX9_bookmarked_33 : decode cX9_bookmarked 33 = .ok (.aload_n 0, 1) := by decide +kernel
theorem dX9_bookmarked_34 : decode cX9_bookmarked 34 = .ok (.getfield 22, 3) := by decide +kernel
theorem dX9_bookmarked_37 : decode cX9_bookmarked 37 = .ok (.bipush 8, 2) := by decide +kernel
theorem dX9_bookmarked_39 : decode cX9_bookmarked 39 = .ok (.iload_n 1, 1) := by decide +kernel
theorem dX9_bookmarked_40 : decode cX9_bookmarked 40 = .ok (.imul, 1) := by decide +kernel
theorem dX9_bookmarked_41 : decode cX9_bookmarked 41 = .ok (.iconst 2, 1) := by decide +kernel
theorem dX9_bookmarked_42 : decode cX9_bookmarked 42 = .ok (.iload_n 2, 1) := by decide +kernel
theorem dX9_bookmarked_43 : decode cX9_bookmarked 43 = .ok (.imul, 1) := by decide +kernel
theorem dX9_bookmarked_44 : decode cX9_bookmarked 44 = .ok (.iadd, 1) := by decide +kernel
theorem dX9_bookmarked_45 : decode cX9_bookmarked 45 = .ok (.iconst 1, 1) := by decide +kernel
theorem dX9_bookmarked_46 : decode cX9_bookmarked 46 = .ok (.iadd, 1) := by decide +kernel
theorem dX9_bookmarked_47 : decode cX9_bookmarked 47 = .ok (.iaload, 1) := by decide +kernel
theorem dX9_bookmarked_48 : decode cX9_bookmarked 48 = .ok (.istore 4, 2) := by decide +kernel
theorem dX9_bookmarked_50 : decode cX9_bookmarked 50 = .ok (.iload_n 3, 1) := by decide +kernel
theorem dX9_bookmarked_51 : decode cX9_bookmarked 51 = .ok (.iconst (-1), 1) := by decide +kernel
theorem dX9_bookmarked_52 : decode cX9_bookmarked 52 = .ok (.if_icmp .eq 14, 3) := by decide +kernel
theorem dX9_bookmarked_55 : decode cX9_bookmarked 55 = .ok (.aload_n 0, 1) := by decide +kernel
theorem dX9_bookmarked_56 : decode cX9_bookmarked 56 = .ok (.iload_n 3, 1) := by decide +kernel
theorem dX9_bookmarked_57 : decode cX9_bookmarked 57 = .ok (.iload 4, 2) := by decide +kernel
theorem dX9_bookmarked_59 : decode cX9_bookmarked 59 = .ok (.invokevirtual 146, 3) := by decide +kernel
theorem dX9_bookmarked_62 : decode cX9_bookmarked 62 = .ok (.iconst (-1), 1) := by decide +kernel
theorem dX9_bookmarked_63 : decode cX9_bookmarked 63 = .ok (.if_icmp .ne 11, 3) := by decide +kernel
theorem dX9_bookmarked_66 : decode cX9_bookmarked 66 = .ok (.aload_n 0, 1) := by decide +kernel
theorem dX9_bookmarked_67 : decode cX9_bookmarked 67 = .ok (.iconst 2, 1) := by decide +kernel
theorem dX9_bookmarked_68 : decode cX9_bookmarked 68 = .ok (.invokevirtual 203, 3) := by decide +kernel
theorem dX9_bookmarked_71 : decode cX9_bookmarked 71 = .ok (.goto 11, 3) := by decide +kernel
theorem dX9_bookmarked_74 : decode cX9_bookmarked 74 = .ok (.sipush 10000, 3) := by decide +kernel
theorem dX9_bookmarked_77 : decode cX9_bookmarked 77 = .ok (.iload_n 3, 1) := by decide +kernel
theorem dX9_bookmarked_78 : decode cX9_bookmarked 78 = .ok (.imul, 1) := by decide +kernel
theorem dX9_bookmarked_79 : decode cX9_bookmarked 79 = .ok (.iload 4, 2) := by decide +kernel
theorem dX9_bookmarked_81 : decode cX9_bookmarked 81 = .ok (.iadd, 1) := by decide +kernel
theorem dX9_bookmarked_82 : decode cX9_bookmarked 82 = .ok (.ireturn, 1) := by decide +kernel
set_option maxRecDepth 100000 in
set_option maxHeartbeats 4000000 in
theorem w9_bookmarked_ok {l : Launch} {idx : List (Nat × Nat)} {μ : Mem} {a1 : Int32} {a2 : Int32} {P : Int32 → Mem → Prop} {X : String → Mem → Prop} (hl : l.stackTraces = false) (hI : IdxOK idx) (hk : w9_bookmarked_wp μ a1 a2 P) : PMet l yX9_bookmarked (.code yX9_bookmarked cX9_bookmarked 5 (some .int)) 7 0 0 idx [pR 50 0, pI a1, pI a2] μ (qI P) X := by
  refine PMet_of mv_X9_bookmarked.2.2.2.2.2.2 hl hI mv_X9_bookmarked.2.2.2.1 rfl (Nat.le_of_ble_eq_true rfl) (fun G _ _ C hRt hHR hnT => ?_)
  show PW G 0 0 0 [some (pR 50 0), some (pI a1), some (pI a2), none, none] [] μ
  unfold w9_bookmarked_wp at hk
  refine px_aload_n (i := 0) C dX9_bookmarked_0 rfl rfl ?_
  refine px_iconst (v := (0 : Int32)) C dX9_bookmarked_1 rfl ?_
  replace hk := hk _ rfl
  refine px_puti 3201 C dX9_bookmarked_2 fp_RX9_80 rfl rfl rfl rfl rfl rfl ?_
  refine px_iload_n (i := 1) C dX9_bookmarked_5 rfl rfl ?_
  refine px_iload_n (i := 2) C dX9_bookmarked_6 rfl rfl ?_
  refine px_callSi (h := 1) (rc' := 0) (rs' := 0) C (HR_le hHR (Nat.le_of_ble_eq_true rfl)) hRt hnT dX9_bookmarked_7 (gw10 36 rfl rfl) ms_X9_isPlace (w9_isPlace_ok (PCx_l C) (PCx_I C) hk) rfl rfl (Nat.le_of_ble_eq_true rfl) (Nat.le_of_ble_eq_true rfl) (Nat.le_of_ble_eq_true rfl) (Nat.le_of_ble_eq_true rfl) ?_
  intro r3 μ2 hk
  refine px_if_ne (tgt := 19) C dX9_bookmarked_10 (by decide) (fun c16 => ?_) (fun c16 => ?_)
  · replace hk := hk.1 c16
    refine px_aload_n (i := 0) C dX9_bookmarked_19 rfl rfl ?_
    refine px_getr C dX9_bookmarked_20 fl_RX9_22 rfl rfl rfl ?_
    refine px_bipush (v := (8 : Int32)) C dX9_bookmarked_23 rfl ?_
    refine px_iload_n (i := 1) C dX9_bookmarked_25 rfl rfl ?_
    refine px_imul C dX9_bookmarked_26 ?_
    refine px_iconst (v := (2 : Int32)) C dX9_bookmarked_27 rfl ?_
    refine px_iload_n (i := 2) C dX9_bookmarked_28 rfl rfl ?_
    refine px_imul C dX9_bookmarked_29 ?_
    refine px_iadd C dX9_bookmarked_30 ?_
    obtain ⟨o4, hk⟩ := hk
    refine px_iald 3520 C dX9_bookmarked_31 rfl rfl rfl rfl o4 ?_
    refine px_istore_n (i := 3) C dX9_bookmarked_32 rfl (by decide) rfl ?_
    refine px_aload_n (i := 0) C dX9_bookmarked_33 rfl rfl ?_
    refine px_getr C dX9_bookmarked_34 fl_RX9_22 rfl rfl rfl ?_
    refine px_bipush (v := (8 : Int32)) C dX9_bookmarked_37 rfl ?_
    refine px_iload_n (i := 1) C dX9_bookmarked_39 rfl rfl ?_
    refine px_imul C dX9_bookmarked_40 ?_
    refine px_iconst (v := (2 : Int32)) C dX9_bookmarked_41 rfl ?_
    refine px_iload_n (i := 2) C dX9_bookmarked_42 rfl rfl ?_
    refine px_imul C dX9_bookmarked_43 ?_
    refine px_iadd C dX9_bookmarked_44 ?_
    refine px_iconst (v := (1 : Int32)) C dX9_bookmarked_45 rfl ?_
    refine px_iadd C dX9_bookmarked_46 ?_
    obtain ⟨o5, hk⟩ := hk
    refine px_iald 3520 C dX9_bookmarked_47 rfl rfl rfl rfl o5 ?_
    refine px_istore (i := 4) C dX9_bookmarked_48 (by decide) rfl ?_
    refine px_iload_n (i := 3) C dX9_bookmarked_50 rfl rfl ?_
    refine px_iconst (v := (-1 : Int32)) C dX9_bookmarked_51 rfl ?_
    refine px_icmp_eq (tgt := 66) C dX9_bookmarked_52 (by decide) (fun c13 => ?_) (fun c13 => ?_)
    · replace hk := hk.1 c13
      refine px_aload_n (i := 0) C dX9_bookmarked_66 rfl rfl ?_
      refine px_iconst (v := (2 : Int32)) C dX9_bookmarked_67 rfl ?_
      refine px_callVi (h := 0) (rc' := 0) (rs' := 0) C (HR_le hHR (Nat.le_of_ble_eq_true rfl)) hRt hnT dX9_bookmarked_68 (gw8 144 rfl rfl) mv_X9_fails (w9_fails_ok (PCx_l C) (PCx_I C) hk) rfl rfl rfl rfl rfl (Nat.le_of_ble_eq_true rfl) (Nat.le_of_ble_eq_true rfl) (Nat.le_of_ble_eq_true rfl) (Nat.le_of_ble_eq_true rfl) ?_
      intro r7 μ6 hk
      refine px_goto (tgt := 82) C dX9_bookmarked_71 (by decide) ?_
      exact px_iret C hRt dX9_bookmarked_82 rfl rfl hk
    · replace hk := hk.2 c13
      refine px_aload_n (i := 0) C dX9_bookmarked_55 rfl rfl ?_
      refine px_iload_n (i := 3) C dX9_bookmarked_56 rfl rfl ?_
      refine px_iload (i := 4) C dX9_bookmarked_57 rfl ?_
      refine px_callVi (h := 6) (rc' := 0) (rs' := 0) C (HR_le hHR (Nat.le_of_ble_eq_true rfl)) hRt hnT dX9_bookmarked_59 (gw9 66 rfl rfl) mv_X9_node (w9_node_ok (PCx_l C) (PCx_I C) hk) rfl rfl rfl rfl rfl (Nat.le_of_ble_eq_true rfl) (Nat.le_of_ble_eq_true rfl) (Nat.le_of_ble_eq_true rfl) (Nat.le_of_ble_eq_true rfl) ?_
      intro r9 μ8 hk
      refine px_iconst (v := (-1 : Int32)) C dX9_bookmarked_62 rfl ?_
      refine px_icmp_ne (tgt := 74) C dX9_bookmarked_63 (by decide) (fun c12 => ?_) (fun c12 => ?_)
      · replace hk := hk.1 c12
        refine px_sipush (v := (10000 : Int32)) C dX9_bookmarked_74 rfl ?_
        refine px_iload_n (i := 3) C dX9_bookmarked_77 rfl rfl ?_
        refine px_imul C dX9_bookmarked_78 ?_
        refine px_iload (i := 4) C dX9_bookmarked_79 rfl ?_
        refine px_iadd C dX9_bookmarked_81 ?_
        exact px_iret C hRt dX9_bookmarked_82 rfl rfl hk
      · replace hk := hk.2 c12
        refine px_aload_n (i := 0) C dX9_bookmarked_66 rfl rfl ?_
        refine px_iconst (v := (2 : Int32)) C dX9_bookmarked_67 rfl ?_
        refine px_callVi (h := 0) (rc' := 0) (rs' := 0) C (HR_le hHR (Nat.le_of_ble_eq_true rfl)) hRt hnT dX9_bookmarked_68 (gw8 144 rfl rfl) mv_X9_fails (w9_fails_ok (PCx_l C) (PCx_I C) hk) rfl rfl rfl rfl rfl (Nat.le_of_ble_eq_true rfl) (Nat.le_of_ble_eq_true rfl) (Nat.le_of_ble_eq_true rfl) (Nat.le_of_ble_eq_true rfl) ?_
        intro r11 μ10 hk
        refine px_goto (tgt := 82) C dX9_bookmarked_71 (by decide) ?_
        exact px_iret C hRt dX9_bookmarked_82 rfl rfl hk
  · replace hk := hk.2 c16
    refine px_aload_n (i := 0) C dX9_bookmarked_13 rfl rfl ?_
    refine px_iconst (v := (1 : Int32)) C dX9_bookmarked_14 rfl ?_
    refine px_callVi (h := 0) (rc' := 0) (rs' := 0) C (HR_le hHR (Nat.le_of_ble_eq_true rfl)) hRt hnT dX9_bookmarked_15 (gw8 144 rfl rfl) mv_X9_fails (w9_fails_ok (PCx_l C) (PCx_I C) hk) rfl rfl rfl rfl rfl (Nat.le_of_ble_eq_true rfl) (Nat.le_of_ble_eq_true rfl) (Nat.le_of_ble_eq_true rfl) (Nat.le_of_ble_eq_true rfl) ?_
    intro r15 μ14 hk
    exact px_iret C hRt dX9_bookmarked_18 rfl rfl hk
theorem dX0_solve_0 : decode cX0_solve 0 = .ok (.iconst 0, 1) := by decide +kernel
theorem dX0_solve_1 : decode cX0_solve 1 = .ok (.istore_n 1, 1) := by decide +kernel
theorem dX0_solve_2 : decode cX0_solve 2 = .ok (.iload_n 1, 1) := by decide +kernel
theorem dX0_solve_3 : decode cX0_solve 3 = .ok (.bipush 8, 2) := by decide +kernel
theorem dX0_solve_5 : decode cX0_solve 5 = .ok (.if_icmp .ge 42, 3) := by decide +kernel
theorem dX0_solve_8 : decode cX0_solve 8 = .ok (.iconst 0, 1) := by decide +kernel
theorem dX0_solve_9 : decode cX0_solve 9 = .ok (.istore_n 2, 1) := by decide +kernel
theorem dX0_solve_10 : decode cX0_solve 10 = .ok (.iload_n 2, 1) := by decide +kernel
theorem dX0_solve_11 : decode cX0_solve 11 = .ok (.bipush 8, 2) := by decide +kernel
theorem dX0_solve_13 : decode cX0_solve 13 = .ok (.if_icmp .ge 28, 3) := by decide +kernel
theorem dX0_solve_16 : decode cX0_solve 16 = .ok (.aload_n 0, 1) := by decide +kernel
theorem dX0_solve_17 : decode cX0_solve 17 = .ok (.getfield 23, 3) := by decide +kernel
theorem dX0_solve_20 : decode cX0_solve 20 = .ok (.iload_n 1, 1) := by decide +kernel
theorem dX0_solve_21 : decode cX0_solve 21 = .ok (.aaload, 1) := by decide +kernel
theorem dX0_solve_22 : decode cX0_solve 22 = .ok (.iload_n 2, 1) := by decide +kernel
theorem dX0_solve_23 : decode cX0_solve 23 = .ok (.iload_n 1, 1) := by decide +kernel
theorem dX0_solve_24 : decode cX0_solve 24 = .ok (.iload_n 2, 1) := by decide +kernel
theorem dX0_solve_25 : decode cX0_solve 25 = .ok (.if_icmp .ne 7, 3) := by decide +kernel
theorem dX0_solve_28 : decode cX0_solve 28 = .ok (.iconst 0, 1) := by decide +kernel
theorem dX0_solve_29 : decode cX0_solve 29 = .ok (.goto 5, 3) := by decide +kernel
theorem dX0_solve_32 : decode cX0_solve 32 = .ok (.ldc 30, 2) := by decide +kernel
theorem dX0_solve_34 : decode cX0_solve 34 = .ok (.iastore, 1) := by decide +kernel
theorem dX0_solve_35 : decode cX0_solve 35 = .ok (.iinc 2 1, 3) := by decide +kernel
theorem dX0_solve_38 : decode cX0_solve 38 = .ok (.goto (-28), 3) := by decide +kernel
theorem dX0_solve_41 : decode cX0_solve 41 = .ok (.iinc 1 1, 3) := by decide +kernel
theorem dX0_solve_44 : decode cX0_solve 44 = .ok (.goto (-42), 3) := by decide +kernel
theorem dX0_solve_47 : decode cX0_solve 47 = .ok (.iconst 0, 1) := by decide +kernel
theorem dX0_solve_48 : decode cX0_solve 48 = .ok (.istore_n 1, 1) := by decide +kernel
theorem dX0_solve_49 : decode cX0_solve 49 = .ok (.iload_n 1, 1) := by decide +kernel
theorem dX0_solve_50 : decode cX0_solve 50 = .ok (.aload_n 0, 1) := by decide +kernel
theorem dX0_solve_51 : decode cX0_solve 51 = .ok (.getfield 26, 3) := by decide +kernel
theorem dX0_solve_54 : decode cX0_solve 54 = .ok (.getfield 31, 3) := by decide +kernel
theorem dX0_solve_57 : decode cX0_solve 57 = .ok (.if_icmp .ge 22, 3) := by decide +kernel
theorem dX0_solve_60 : decode cX0_solve 60 = .ok (.aload_n 0, 1) := by decide +kernel
theorem dX0_solve_61 : decode cX0_solve 61 = .ok (.getfield 9, 3) := by decide +kernel
theorem dX0_solve_64 : decode cX0_solve 64 = .ok (.iload_n 1, 1) := by decide +kernel
theorem dX0_solve_65 : decode cX0_solve 65 = .ok (.aload_n 0, 1) := by decide +kernel
theorem dX0_solve_66 : decode cX0_solve 66 = .ok (.iload_n 1, 1) := by decide +kernel
theorem dX0_solve_67 : decode cX0_solve 67 = .ok (.invokevirtual 37, 3) := by decide +kernel
theorem dX0_solve_70 : decode cX0_solve 70 = .ok (.invokestatic 41, 3) := by decide +kernel
theorem dX0_solve_73 : decode cX0_solve 73 = .ok (.iinc 1 1, 3) := by decide +kernel
theorem dX0_solve_76 : decode cX0_solve 76 = .ok (.goto (-27), 3) := by decide +kernel
theorem dX0_solve_79 : decode cX0_solve 79 = .ok (.iconst 0, 1) := by decide +kernel
theorem dX0_solve_80 : decode cX0_solve 80 = .ok (.istore_n 1, 1) := by decide +kernel
theorem dX0_solve_81 : decode cX0_solve 81 = .ok (.iload_n 1, 1) := by decide +kernel
theorem dX0_solve_82 : decode cX0_solve 82 = .ok (.bipush 8, 2) := by decide +kernel
theorem dX0_solve_84 : decode cX0_solve 84 = .ok (.if_icmp .ge 14, 3) := by decide +kernel
theorem dX0_solve_87 : decode cX0_solve 87 = .ok (.aload_n 0, 1) := by decide +kernel
theorem dX0_solve_88 : decode cX0_solve 88 = .ok (.iload_n 1, 1) := by decide +kernel
theorem dX0_solve_89 : decode cX0_solve 89 = .ok (.invokevirtual 45, 3) := by decide +kernel
theorem dX0_solve_92 : decode cX0_solve 92 = .ok (.iinc 1 1, 3) := by decide +kernel
theorem dX0_solve_95 : decode cX0_solve 95 = .ok (.goto (-14), 3) := by decide +kernel
theorem dX0_solve_98 : decode cX0_solve 98 = .ok (.return_, 1) := by decide +kernel
set_option maxRecDepth 100000 in
set_option maxHeartbeats 4000000 in
theorem w0_solve_b81_ok {G : GT} {P : Mem → Prop} {X : String → Mem → Prop} (C : PCx G cX0_solve 3 RX0) (hRt : PRt G none (qV P) X) (hHR : HR G (3)) (hnT : NoT G) {μ : Mem} {l1 : Int32} (hk : w0_solve_b81 P μ l1) : PW G 0 0 81 [some (pR 12 0), some (pI l1), none] [] μ := by
  refine hk (fun (μ : Mem) (l1 : Int32) => PW G 0 0 81 [some (pR 12 0), some (pI l1), none] [] μ) (fun (μ : Mem) l1 hk => ?_)
  have hR81 : ∀ (μ : Mem) (l1 : Int32), PW G 0 0 81 [some (pR 12 0), some (pI l1), none] [] μ → PW G 0 0 81 [some (pR 12 0), some (pI l1), none] [] μ := fun _ _ h => h
  unfold w0_solve_b81_body at hk
  refine px_iload_n (i := 1) C dX0_solve_81 rfl rfl ?_
  refine px_bipush (v := (8 : Int32)) C dX0_solve_82 rfl ?_
  refine px_icmp_ge (tgt := 98) C dX0_solve_84 (by decide) (fun c2 => ?_) (fun c2 => ?_)
  · replace hk := hk.1 c2
    exact px_vret C hRt dX0_solve_98 rfl hk
  · replace hk := hk.2 c2
    refine px_aload_n (i := 0) C dX0_solve_87 rfl rfl ?_
    refine px_iload_n (i := 1) C dX0_solve_88 rfl rfl ?_
    refine px_callVv (h := 1) (rc' := 0) (rs' := 0) C (HR_le hHR (Nat.le_of_ble_eq_true rfl)) hRt hnT dX0_solve_89 (gw2 207 rfl rfl) mv_X0_choose (w0_choose_ok (PCx_l C) (PCx_I C) hk) rfl rfl rfl rfl rfl (Nat.le_of_ble_eq_true rfl) (Nat.le_of_ble_eq_true rfl) (Nat.le_of_ble_eq_true rfl) (Nat.le_of_ble_eq_true rfl) ?_
    intro μ1 hk
    refine px_iinc (i := 1) (v := (1 : Int32)) C dX0_solve_92 rfl rfl (by decide) rfl ?_
    refine px_goto (tgt := 81) C dX0_solve_95 (by decide) ?_
    exact PW_at (hR81 _ _ hk) (And.intro rfl (And.intro rfl trivial)) (Nat.le_of_ble_eq_true rfl) (Nat.le_of_ble_eq_true rfl)
set_option maxRecDepth 100000 in
set_option maxHeartbeats 4000000 in
theorem w0_solve_b49_ok {G : GT} {P : Mem → Prop} {X : String → Mem → Prop} (C : PCx G cX0_solve 3 RX0) (hRt : PRt G none (qV P) X) (hHR : HR G (3)) (hnT : NoT G) {μ : Mem} {l1 : Int32} (hk : w0_solve_b49 P μ l1) : PW G 0 0 49 [some (pR 12 0), some (pI l1), none] [] μ := by
  refine hk (fun (μ : Mem) (l1 : Int32) => PW G 0 0 49 [some (pR 12 0), some (pI l1), none] [] μ) (fun (μ : Mem) l1 hk => ?_)
  have hR49 : ∀ (μ : Mem) (l1 : Int32), PW G 0 0 49 [some (pR 12 0), some (pI l1), none] [] μ → PW G 0 0 49 [some (pR 12 0), some (pI l1), none] [] μ := fun _ _ h => h
  unfold w0_solve_b49_body at hk
  refine px_iload_n (i := 1) C dX0_solve_49 rfl rfl ?_
  refine px_aload_n (i := 0) C dX0_solve_50 rfl rfl ?_
  refine px_getr C dX0_solve_51 fl_RX0_26 rfl rfl rfl ?_
  refine px_geti 1 C dX0_solve_54 fl_RX0_31 rfl rfl rfl rfl ?_
  refine px_icmp_ge (tgt := 79) C dX0_solve_57 (by decide) (fun c7 => ?_) (fun c7 => ?_)
  · replace hk := hk.1 c7
    refine px_iconst (v := (0 : Int32)) C dX0_solve_79 rfl ?_
    refine px_istore_n (i := 1) C dX0_solve_80 rfl (by decide) rfl ?_
    exact PW_at (w0_solve_b81_ok C hRt hHR hnT hk) (And.intro rfl (And.intro rfl trivial)) (Nat.le_of_ble_eq_true rfl) (Nat.le_of_ble_eq_true rfl)
  · replace hk := hk.2 c7
    refine px_aload_n (i := 0) C dX0_solve_60 rfl rfl ?_
    refine px_getr C dX0_solve_61 fl_RX0_9 rfl rfl rfl ?_
    refine px_iload_n (i := 1) C dX0_solve_64 rfl rfl ?_
    refine px_aload_n (i := 0) C dX0_solve_65 rfl rfl ?_
    refine px_iload_n (i := 1) C dX0_solve_66 rfl rfl ?_
    refine px_callVi (h := 2) (rc' := 0) (rs' := 0) C (HR_le hHR (Nat.le_of_ble_eq_true rfl)) hRt hnT dX0_solve_67 (gw2 174 rfl rfl) mv_X0_judge (w0_judge_ok (PCx_l C) (PCx_I C) hk) rfl rfl rfl rfl rfl (Nat.le_of_ble_eq_true rfl) (Nat.le_of_ble_eq_true rfl) (Nat.le_of_ble_eq_true rfl) (Nat.le_of_ble_eq_true rfl) ?_
    intro r4 μ3 hk
    obtain ⟨o5, hk⟩ := hk
    replace hk := hk _ rfl
    refine px_callSNv (h := 0) (rc' := 0) (rs' := 0) C (HR_le hHR (Nat.le_of_ble_eq_true rfl)) hRt hnT dX0_solve_70 (List.mem_append_right _ (List.mem_append_left _ (List.mem_of_getElem? (i := 6) rfl))) ms_X8_set (set_ok (j := 13) (q := 0) (n := 40) (loc := 832) (PCx_l C) (PCx_I C) rfl rfl rfl o5) rfl rfl (Nat.le_of_ble_eq_true rfl) (Nat.le_of_ble_eq_true rfl) (Nat.le_of_ble_eq_true rfl) (Nat.le_of_ble_eq_true rfl) ?_
    rintro _ rfl
    refine px_iinc (i := 1) (v := (1 : Int32)) C dX0_solve_73 rfl rfl (by decide) rfl ?_
    refine px_goto (tgt := 49) C dX0_solve_76 (by decide) ?_
    exact PW_at (hR49 _ _ hk) (And.intro rfl (And.intro rfl trivial)) (Nat.le_of_ble_eq_true rfl) (Nat.le_of_ble_eq_true rfl)
set_option maxRecDepth 100000 in
set_option maxHeartbeats 4000000 in
theorem w0_solve_b10_ok {G : GT} {P : Mem → Prop} {X : String → Mem → Prop} (C : PCx G cX0_solve 3 RX0) (hRt : PRt G none (qV P) X) (hHR : HR G (3)) (hnT : NoT G) {R2 : Mem → Int32 → Prop} (hR2 : ∀ (μ : Mem) (l1 : Int32), R2 μ l1 → PW G 0 0 2 [some (pR 12 0), some (pI l1), none] [] μ) {μ : Mem} {l1 : Int32} {l2 : Int32} (hk : w0_solve_b10 P R2 μ l1 l2) : PW G 0 0 10 [some (pR 12 0), some (pI l1), some (pI l2)] [] μ := by
  refine hk (fun (μ : Mem) (l1 : Int32) (l2 : Int32) => PW G 0 0 10 [some (pR 12 0), some (pI l1), some (pI l2)] [] μ) (fun (μ : Mem) l1 l2 hk => ?_)
  have hR10 : ∀ (μ : Mem) (l1 : Int32) (l2 : Int32), PW G 0 0 10 [some (pR 12 0), some (pI l1), some (pI l2)] [] μ → PW G 0 0 10 [some (pR 12 0), some (pI l1), some (pI l2)] [] μ := fun _ _ _ h => h
  unfold w0_solve_b10_body at hk
  refine px_iload_n (i := 2) C dX0_solve_10 rfl rfl ?_
  refine px_bipush (v := (8 : Int32)) C dX0_solve_11 rfl ?_
  refine px_icmp_ge (tgt := 41) C dX0_solve_13 (by decide) (fun c14 => ?_) (fun c14 => ?_)
  · replace hk := hk.1 c14
    refine px_iinc (i := 1) (v := (1 : Int32)) C dX0_solve_41 rfl rfl (by decide) rfl ?_
    refine px_goto (tgt := 2) C dX0_solve_44 (by decide) ?_
    exact PW_at (hR2 _ _ hk) (And.intro rfl (And.intro rfl trivial)) (Nat.le_of_ble_eq_true rfl) (Nat.le_of_ble_eq_true rfl)
  · replace hk := hk.2 c14
    refine px_aload_n (i := 0) C dX0_solve_16 rfl rfl ?_
    refine px_getr C dX0_solve_17 fl_RX0_23 rfl rfl rfl ?_
    refine px_iload_n (i := 1) C dX0_solve_20 rfl rfl ?_
    obtain ⟨o8, hk⟩ := hk
    refine px_aald C dX0_solve_21 rfl rfl rfl o8 rfl ?_
    refine px_iload_n (i := 2) C dX0_solve_22 rfl rfl ?_
    refine px_iload_n (i := 1) C dX0_solve_23 rfl rfl ?_
    refine px_iload_n (i := 2) C dX0_solve_24 rfl rfl ?_
    refine px_icmp_ne (tgt := 32) C dX0_solve_25 (by decide) (fun c13 => ?_) (fun c13 => ?_)
    · replace hk := hk.1 c13
      refine px_ldc (v := (1000000 : Int32)) C dX0_solve_32 (gw2 173 rfl rfl) ?_
      obtain ⟨o9, hk⟩ := hk
      replace hk := hk _ rfl
      refine px_iast 1088 C dX0_solve_34 rfl rfl rfl rfl o9 ?_
      refine px_iinc (i := 2) (v := (1 : Int32)) C dX0_solve_35 rfl rfl (by decide) rfl ?_
      refine px_goto (tgt := 10) C dX0_solve_38 (by decide) ?_
      exact PW_at (hR10 _ _ _ hk) (And.intro rfl (And.intro rfl (And.intro rfl trivial))) (Nat.le_of_ble_eq_true rfl) (Nat.le_of_ble_eq_true rfl)
    · replace hk := hk.2 c13
      refine px_iconst (v := (0 : Int32)) C dX0_solve_28 rfl ?_
      refine px_goto (tgt := 34) C dX0_solve_29 (by decide) ?_
      obtain ⟨o11, hk⟩ := hk
      replace hk := hk _ rfl
      refine px_iast 1088 C dX0_solve_34 rfl rfl rfl rfl o11 ?_
      refine px_iinc (i := 2) (v := (1 : Int32)) C dX0_solve_35 rfl rfl (by decide) rfl ?_
      refine px_goto (tgt := 10) C dX0_solve_38 (by decide) ?_
      exact PW_at (hR10 _ _ _ hk) (And.intro rfl (And.intro rfl (And.intro rfl trivial))) (Nat.le_of_ble_eq_true rfl) (Nat.le_of_ble_eq_true rfl)
set_option maxRecDepth 100000 in
set_option maxHeartbeats 4000000 in
theorem w0_solve_b2_ok {G : GT} {P : Mem → Prop} {X : String → Mem → Prop} (C : PCx G cX0_solve 3 RX0) (hRt : PRt G none (qV P) X) (hHR : HR G (3)) (hnT : NoT G) {μ : Mem} {l1 : Int32} (hk : w0_solve_b2 P μ l1) : PW G 0 0 2 [some (pR 12 0), some (pI l1), none] [] μ := by
  refine hk (fun (μ : Mem) (l1 : Int32) => PW G 0 0 2 [some (pR 12 0), some (pI l1), none] [] μ) (fun (μ : Mem) l1 hk => ?_)
  have hR2 : ∀ (μ : Mem) (l1 : Int32), PW G 0 0 2 [some (pR 12 0), some (pI l1), none] [] μ → PW G 0 0 2 [some (pR 12 0), some (pI l1), none] [] μ := fun _ _ h => h
  unfold w0_solve_b2_body at hk
  refine px_iload_n (i := 1) C dX0_solve_2 rfl rfl ?_
  refine px_bipush (v := (8 : Int32)) C dX0_solve_3 rfl ?_
  refine px_icmp_ge (tgt := 47) C dX0_solve_5 (by decide) (fun c15 => ?_) (fun c15 => ?_)
  · replace hk := hk.1 c15
    refine px_iconst (v := (0 : Int32)) C dX0_solve_47 rfl ?_
    refine px_istore_n (i := 1) C dX0_solve_48 rfl (by decide) rfl ?_
    exact PW_at (w0_solve_b49_ok C hRt hHR hnT hk) (And.intro rfl (And.intro rfl trivial)) (Nat.le_of_ble_eq_true rfl) (Nat.le_of_ble_eq_true rfl)
  · replace hk := hk.2 c15
    refine px_iconst (v := (0 : Int32)) C dX0_solve_8 rfl ?_
    refine px_istore_n (i := 2) C dX0_solve_9 rfl (by decide) rfl ?_
    exact PW_at (w0_solve_b10_ok C hRt hHR hnT hR2 hk) (And.intro rfl (And.intro rfl (And.intro rfl trivial))) (Nat.le_of_ble_eq_true rfl) (Nat.le_of_ble_eq_true rfl)
set_option maxRecDepth 100000 in
set_option maxHeartbeats 4000000 in
theorem w0_solve_ok {l : Launch} {idx : List (Nat × Nat)} {μ : Mem} {P : Mem → Prop} {X : String → Mem → Prop} (hl : l.stackTraces = false) (hI : IdxOK idx) (hk : w0_solve_wp μ P) : PMet l yX0_solve (.code yX0_solve cX0_solve 3 none) 3 0 0 idx [pR 12 0] μ (qV P) X := by
  refine PMet_of mv_X0_solve.2.2.2.2.2.2 hl hI mv_X0_solve.2.2.2.1 rfl (Nat.le_of_ble_eq_true rfl) (fun G _ _ C hRt hHR hnT => ?_)
  show PW G 0 0 0 [some (pR 12 0), none, none] [] μ
  unfold w0_solve_wp at hk
  refine px_iconst (v := (0 : Int32)) C dX0_solve_0 rfl ?_
  refine px_istore_n (i := 1) C dX0_solve_1 rfl (by decide) rfl ?_
  exact PW_at (w0_solve_b2_ok C hRt hHR hnT hk) (And.intro rfl (And.intro rfl trivial)) (Nat.le_of_ble_eq_true rfl) (Nat.le_of_ble_eq_true rfl)
theorem dX1_sumOf_0 : decode cX1_sumOf 0 = .ok (.iconst 0, 1) := by decide +kernel
theorem dX1_sumOf_1 : decode cX1_sumOf 1 = .ok (.istore_n 3, 1) := by decide +kernel
theorem dX1_sumOf_2 : decode cX1_sumOf 2 = .ok (.iconst 0, 1) := by decide +kernel
theorem dX1_sumOf_3 : decode cX1_sumOf 3 = .ok (.istore 4, 2) := by decide +kernel
theorem dX1_sumOf_5 : decode cX1_sumOf 5 = .ok (.iload 4, 2) := by decide +kernel
theorem dX1_sumOf_7 : decode cX1_sumOf 7 = .ok (.aload_n 0, 1) := by decide +kernel
theorem dX1_sumOf_8 : decode cX1_sumOf 8 = .ok (.getfield 9, 3) := by decide +kernel
theorem dX1_sumOf_11 : decode cX1_sumOf 11 = .ok (.getfield 39, 3) := by decide +kernel
theorem dX1_sumOf_14 : decode cX1_sumOf 14 = .ok (.if_icmp .ge 35, 3) := by decide +kernel
theorem dX1_sumOf_17 : decode cX1_sumOf 17 = .ok (.aload_n 0, 1) := by decide +kernel
theorem dX1_sumOf_18 : decode cX1_sumOf 18 = .ok (.getfield 9, 3) := by decide +kernel
theorem dX1_sumOf_21 : decode cX1_sumOf 21 = .ok (.getfield 83, 3) := by decide +kernel
theorem dX1_sumOf_24 : decode cX1_sumOf 24 = .ok (.iload 4, 2) := by decide +kernel
theorem dX1_sumOf_26 : decode cX1_sumOf 26 = .ok (.invokestatic 35, 3) := by decide +kernel
theorem dX1_sumOf_29 : decode cX1_sumOf 29 = .ok (.iload_n 1, 1) := by decide +kernel
theorem dX1_sumOf_30 : decode cX1_sumOf 30 = .ok (.if_icmp .ne 13, 3) := by decide +kernel
theorem dX1_sumOf_33 : decode cX1_sumOf 33 = .ok (.iload_n 3, 1) := by decide +kernel
theorem dX1_sumOf_34 : decode cX1_sumOf 34 = .ok (.aload_n 0, 1) := by decide +kernel
theorem dX1_sumOf_35 : decode cX1_sumOf 35 = .ok (.iload 4, 2) := by decide +kernel
theorem dX1_sumOf_37 : decode cX1_sumOf 37 = .ok (.iload_n 2, 1) := by decide +kernel
theorem dX1_sumOf_38 : decode cX1_sumOf 38 = .ok (.invokevirtual 86, 3) := by decide +kernel
theorem dX1_sumOf_41 : decode cX1_sumOf 41 = .ok (.iadd, 1) := by decide +kernel
theorem dX1_sumOf_42 : decode cX1_sumOf 42 = .ok (.istore_n 3, 1) := by decide +kernel
theorem dX1_sumOf_43 : decode cX1_sumOf 43 = .ok (.iinc 4 1, 3) := by decide +kernel
theorem dX1_sumOf_46 : decode cX1_sumOf 46 = .ok (.goto (-41), 3) := by decide +kernel
theorem dX1_sumOf_49 : decode cX1_sumOf 49 = .ok (.iload_n 3, 1) := by decide +kernel
theorem dX1_sumOf_50 : decode cX1_sumOf 50 = .ok (.ireturn, 1) := by decide +kernel
set_option maxRecDepth 100000 in
set_option maxHeartbeats 4000000 in
theorem w1_sumOf_b5_ok {G : GT} {P : Int32 → Mem → Prop} {X : String → Mem → Prop} (C : PCx G cX1_sumOf 5 RX1) (hRt : PRt G (some .int) (qI P) X) (hHR : HR G (4)) (hnT : NoT G) {μ : Mem} {l1 : Int32} {l2 : Int32} {l3 : Int32} {l4 : Int32} (hk : w1_sumOf_b5 P μ l1 l2 l3 l4) : PW G 0 0 5 [some (pR 34 0), some (pI l1), some (pI l2), some (pI l3), some (pI l4)] [] μ := by
  refine hk (fun (μ : Mem) (l1 : Int32) (l2 : Int32) (l3 : Int32) (l4 : Int32) => PW G 0 0 5 [some (pR 34 0), some (pI l1), some (pI l2), some (pI l3), some (pI l4)] [] μ) (fun (μ : Mem) l1 l2 l3 l4 hk => ?_)
  have hR5 : ∀ (μ : Mem) (l1 : Int32) (l2 : Int32) (l3 : Int32) (l4 : Int32), PW G 0 0 5 [some (pR 34 0), some (pI l1), some (pI l2), some (pI l3), some (pI l4)] [] μ → PW G 0 0 5 [some (pR 34 0), some (pI l1), some (pI l2), some (pI l3), some (pI l4)] [] μ := fun _ _ _ _ _ h => h
  unfold w1_sumOf_b5_body at hk
  refine px_iload (i := 4) C dX1_sumOf_5 rfl ?_
  refine px_aload_n (i := 0) C dX1_sumOf_7 rfl rfl ?_
  refine px_getr C dX1_sumOf_8 fl_RX1_9 rfl rfl rfl ?_
  refine px_geti 1 C dX1_sumOf_11 fl_RX1_39 rfl rfl rfl rfl ?_
  refine px_icmp_ge (tgt := 49) C dX1_sumOf_14 (by decide) (fun c5 => ?_) (fun c5 => ?_)
  · replace hk := hk.1 c5
    refine px_iload_n (i := 3) C dX1_sumOf_49 rfl rfl ?_
    exact px_iret C hRt dX1_sumOf_50 rfl rfl hk
  · replace hk := hk.2 c5
    refine px_aload_n (i := 0) C dX1_sumOf_17 rfl rfl ?_
    refine px_getr C dX1_sumOf_18 fl_RX1_9 rfl rfl rfl ?_
    refine px_getr C dX1_sumOf_21 fl_RX1_83 rfl rfl rfl ?_
    refine px_iload (i := 4) C dX1_sumOf_24 rfl ?_
    obtain ⟨o1, hk⟩ := hk
    refine px_callSNi (h := 0) (rc' := 0) (rs' := 0) C (HR_le hHR (Nat.le_of_ble_eq_true rfl)) hRt hnT dX1_sumOf_26 (List.mem_append_right _ (List.mem_append_left _ (List.mem_of_getElem? (i := 20) rfl))) ms_X8_at (at_ok (j := 4) (q := 0) (n := 40) (loc := 256) (PCx_l C) (PCx_I C) rfl rfl rfl o1) rfl rfl (Nat.le_of_ble_eq_true rfl) (Nat.le_of_ble_eq_true rfl) (Nat.le_of_ble_eq_true rfl) (Nat.le_of_ble_eq_true rfl) ?_
    rintro _ _ ⟨rfl, rfl⟩
    refine px_iload_n (i := 1) C dX1_sumOf_29 rfl rfl ?_
    refine px_icmp_ne (tgt := 43) C dX1_sumOf_30 (by decide) (fun c4 => ?_) (fun c4 => ?_)
    · replace hk := hk.1 c4
      refine px_iinc (i := 4) (v := (1 : Int32)) C dX1_sumOf_43 rfl rfl (by decide) rfl ?_
      refine px_goto (tgt := 5) C dX1_sumOf_46 (by decide) ?_
      exact PW_at (hR5 _ _ _ _ _ hk) (And.intro rfl (And.intro rfl (And.intro rfl (And.intro rfl (And.intro rfl trivial))))) (Nat.le_of_ble_eq_true rfl) (Nat.le_of_ble_eq_true rfl)
    · replace hk := hk.2 c4
      refine px_iload_n (i := 3) C dX1_sumOf_33 rfl rfl ?_
      refine px_aload_n (i := 0) C dX1_sumOf_34 rfl rfl ?_
      refine px_iload (i := 4) C dX1_sumOf_35 rfl ?_
      refine px_iload_n (i := 2) C dX1_sumOf_37 rfl rfl ?_
      refine px_callVi (h := 3) (rc' := 0) (rs' := 0) C (HR_le hHR (Nat.le_of_ble_eq_true rfl)) hRt hnT dX1_sumOf_38 (gw5 177 rfl rfl) mv_X1_numberOf (w1_numberOf_ok (PCx_l C) (PCx_I C) hk) rfl rfl rfl rfl rfl (Nat.le_of_ble_eq_true rfl) (Nat.le_of_ble_eq_true rfl) (Nat.le_of_ble_eq_true rfl) (Nat.le_of_ble_eq_true rfl) ?_
      intro r3 μ2 hk
      refine px_iadd C dX1_sumOf_41 ?_
      refine px_istore_n (i := 3) C dX1_sumOf_42 rfl (by decide) rfl ?_
      refine px_iinc (i := 4) (v := (1 : Int32)) C dX1_sumOf_43 rfl rfl (by decide) rfl ?_
      refine px_goto (tgt := 5) C dX1_sumOf_46 (by decide) ?_
      exact PW_at (hR5 _ _ _ _ _ hk) (And.intro rfl (And.intro rfl (And.intro rfl (And.intro rfl (And.intro rfl trivial))))) (Nat.le_of_ble_eq_true rfl) (Nat.le_of_ble_eq_true rfl)
set_option maxRecDepth 100000 in
set_option maxHeartbeats 4000000 in
theorem w1_sumOf_ok {l : Launch} {idx : List (Nat × Nat)} {μ : Mem} {a1 : Int32} {a2 : Int32} {P : Int32 → Mem → Prop} {X : String → Mem → Prop} (hl : l.stackTraces = false) (hI : IdxOK idx) (hk : w1_sumOf_wp μ a1 a2 P) : PMet l yX1_sumOf (.code yX1_sumOf cX1_sumOf 5 (some .int)) 4 0 0 idx [pR 34 0, pI a1, pI a2] μ (qI P) X := by
  refine PMet_of mv_X1_sumOf.2.2.2.2.2.2 hl hI mv_X1_sumOf.2.2.2.1 rfl (Nat.le_of_ble_eq_true rfl) (fun G _ _ C hRt hHR hnT => ?_)
  show PW G 0 0 0 [some (pR 34 0), some (pI a1), some (pI a2), none, none] [] μ
  unfold w1_sumOf_wp at hk
  refine px_iconst (v := (0 : Int32)) C dX1_sumOf_0 rfl ?_
  refine px_istore_n (i := 3) C dX1_sumOf_1 rfl (by decide) rfl ?_
  refine px_iconst (v := (0 : Int32)) C dX1_sumOf_2 rfl ?_
  refine px_istore (i := 4) C dX1_sumOf_3 (by decide) rfl ?_
  exact PW_at (w1_sumOf_b5_ok C hRt hHR hnT hk) (And.intro rfl (And.intro rfl (And.intro rfl (And.intro rfl (And.intro rfl trivial))))) (Nat.le_of_ble_eq_true rfl) (Nat.le_of_ble_eq_true rfl)
theorem dX1_durationAt_0 : decode cX1_durationAt 0 = .ok (.iconst 0, 1) := by decide +kernel
theorem dX1_durationAt_1 : decode cX1_durationAt 1 = .ok (.istore_n 3, 1) := by decide +kernel
theorem dX1_durationAt_2 : decode cX1_durationAt 2 = .ok (.iload_n 3, 1) := by decide +kernel
theorem dX1_durationAt_3 : decode cX1_durationAt 3 = .ok (.aload_n 0, 1) := by decide +kernel
theorem dX1_durationAt_4 : decode cX1_durationAt 4 = .ok (.getfield 9, 3) := by decide +kernel
theorem dX1_durationAt_7 : decode cX1_durationAt 7 = .ok (.getfield 39, 3) := by decide +kernel
theorem dX1_durationAt_10 : decode cX1_durationAt 10 = .ok (.if_icmp .ge 61, 3) := by decide +kernel
theorem dX1_durationAt_13 : decode cX1_durationAt 13 = .ok (.aload_n 0, 1) := by decide +kernel
theorem dX1_durationAt_14 : decode cX1_durationAt 14 = .ok (.getfield 9, 3) := by decide +kernel
theorem dX1_durationAt_17 : decode cX1_durationAt 17 = .ok (.getfield 83, 3) := by decide +kernel
theorem dX1_durationAt_20 : decode cX1_durationAt 20 = .ok (.iload_n 3, 1) := by decide +kernel
theorem dX1_durationAt_21 : decode cX1_durationAt 21 = .ok (.invokestatic 35, 3) := by decide +kernel
theorem dX1_durationAt_24 : decode cX1_durationAt 24 = .ok (.iload_n 1, 1) := by decide +kernel
theorem dX1_durationAt_25 : decode cX1_durationAt 25 = .ok (.if_icmp .ne 40, 3) := by decide +kernel
theorem dX1_durationAt_28 : decode cX1_durationAt 28 = .ok (.aload_n 0, 1) := by decide +kernel
theorem dX1_durationAt_29 : decode cX1_durationAt 29 = .ok (.getfield 9, 3) := by decide +kernel
theorem dX1_durationAt_32 : decode cX1_durationAt 32 = .ok (.iload_n 3, 1) := by decide +kernel
theorem dX1_durationAt_33 : decode cX1_durationAt 33 = .ok (.invokevirtual 23, 3) := by decide +kernel
theorem dX1_durationAt_36 : decode cX1_durationAt 36 = .ok (.istore 4, 2) := by decide +kernel
theorem dX1_durationAt_38 : decode cX1_durationAt 38 = .ok (.aload_n 0, 1) := by decide +kernel
theorem dX1_durationAt_39 : decode cX1_durationAt 39 = .ok (.iload_n 1, 1) := by decide +kernel
theorem dX1_durationAt_40 : decode cX1_durationAt 40 = .ok (.iload 4, 2) := by decide +kernel
theorem dX1_durationAt_42 : decode cX1_durationAt 42 = .ok (.iconst 1, 1) := by decide +kernel
theorem dX1_durationAt_43 : decode cX1_durationAt 43 = .ok (.isub, 1) := by decide +kernel
theorem dX1_durationAt_44 : decode cX1_durationAt 44 = .ok (.invokevirtual 104, 3) := by decide +kernel
theorem dX1_durationAt_47 : decode cX1_durationAt 47 = .ok (.iload_n 2, 1) := by decide +kernel
theorem dX1_durationAt_48 : decode cX1_durationAt 48 = .ok (.if_icmp .ge 17, 3) := by decide +kernel
theorem dX1_durationAt_51 : decode cX1_durationAt 51 = .ok (.iload_n 2, 1) := by decide +kernel
theorem dX1_durationAt_52 : decode cX1_durationAt 52 = .ok (.aload_n 0, 1) := by decide +kernel
theorem dX1_durationAt_53 : decode cX1_durationAt 53 = .ok (.iload_n 1, 1) := by decide +kernel
theorem dX1_durationAt_54 : decode cX1_durationAt 54 = .ok (.iload 4, 2) := by decide +kernel
theorem dX1_durationAt_56 : decode cX1_durationAt 56 = .ok (.invokevirtual 104, 3) := by decide +kernel
theorem dX1_durationAt_59 : decode cX1_durationAt 59 = .ok (.if_icmp .gt 6, 3) := by decide +kernel
theorem dX1_durationAt_62 : decode cX1_durationAt 62 = .ok (.iload 4, 2) := by decide +kernel
theorem dX1_durationAt_64 : decode cX1_durationAt 64 = .ok (.ireturn, 1) := by decide +kernel
theorem dX1_durationAt_65 : decode cX1_durationAt 65 = .ok (.iinc 3 1, 3) := by decide +kernel
theorem dX1_durationAt_68 : decode cX1_durationAt 68 = .ok (.goto (-66), 3) := by decide +kernel
theorem dX1_durationAt_71 : decode cX1_durationAt 71 = .ok (.iconst 0, 1) := by decide +kernel
theorem dX1_durationAt_72 : decode cX1_durationAt 72 = .ok (.ireturn, 1) := by decide +kernel
set_option maxRecDepth 100000 in
set_option maxHeartbeats 4000000 in
theorem w1_durationAt_b2_ok {G : GT} {P : Int32 → Mem → Prop} {X : String → Mem → Prop} (C : PCx G cX1_durationAt 5 RX1) (hRt : PRt G (some .int) (qI P) X) (hHR : HR G (3)) (hnT : NoT G) {μ : Mem} {l1 : Int32} {l2 : Int32} {l3 : Int32} (hk : w1_durationAt_b2 P μ l1 l2 l3) : PW G 0 0 2 [some (pR 34 0), some (pI l1), some (pI l2), some (pI l3), none] [] μ := by
  refine hk (fun (μ : Mem) (l1 : Int32) (l2 : Int32) (l3 : Int32) => PW G 0 0 2 [some (pR 34 0), some (pI l1), some (pI l2), some (pI l3), none] [] μ) (fun (μ : Mem) l1 l2 l3 hk => ?_)
  have hR2 : ∀ (μ : Mem) (l1 : Int32) (l2 : Int32) (l3 : Int32), PW G 0 0 2 [some (pR 34 0), some (pI l1), some (pI l2), some (pI l3), none] [] μ → PW G 0 0 2 [some (pR 34 0), some (pI l1), some (pI l2), some (pI l3), none] [] μ := fun _ _ _ _ h => h
  unfold w1_durationAt_b2_body at hk
  refine px_iload_n (i := 3) C dX1_durationAt_2 rfl rfl ?_
  refine px_aload_n (i := 0) C dX1_durationAt_3 rfl rfl ?_
  refine px_getr C dX1_durationAt_4 fl_RX1_9 rfl rfl rfl ?_
  refine px_geti 1 C dX1_durationAt_7 fl_RX1_39 rfl rfl rfl rfl ?_
  refine px_icmp_ge (tgt := 71) C dX1_durationAt_10 (by decide) (fun c11 => ?_) (fun c11 => ?_)
  · replace hk := hk.1 c11
    refine px_iconst (v := (0 : Int32)) C dX1_durationAt_71 rfl ?_
    exact px_iret C hRt dX1_durationAt_72 rfl rfl hk
  · replace hk := hk.2 c11
    refine px_aload_n (i := 0) C dX1_durationAt_13 rfl rfl ?_
    refine px_getr C dX1_durationAt_14 fl_RX1_9 rfl rfl rfl ?_
    refine px_getr C dX1_durationAt_17 fl_RX1_83 rfl rfl rfl ?_
    refine px_iload_n (i := 3) C dX1_durationAt_20 rfl rfl ?_
    obtain ⟨o1, hk⟩ := hk
    refine px_callSNi (h := 0) (rc' := 0) (rs' := 0) C (HR_le hHR (Nat.le_of_ble_eq_true rfl)) hRt hnT dX1_durationAt_21 (List.mem_append_right _ (List.mem_append_left _ (List.mem_of_getElem? (i := 20) rfl))) ms_X8_at (at_ok (j := 4) (q := 0) (n := 40) (loc := 256) (PCx_l C) (PCx_I C) rfl rfl rfl o1) rfl rfl (Nat.le_of_ble_eq_true rfl) (Nat.le_of_ble_eq_true rfl) (Nat.le_of_ble_eq_true rfl) (Nat.le_of_ble_eq_true rfl) ?_
    rintro _ _ ⟨rfl, rfl⟩
    refine px_iload_n (i := 1) C dX1_durationAt_24 rfl rfl ?_
    refine px_icmp_ne (tgt := 65) C dX1_durationAt_25 (by decide) (fun c10 => ?_) (fun c10 => ?_)
    · replace hk := hk.1 c10
      refine px_iinc (i := 3) (v := (1 : Int32)) C dX1_durationAt_65 rfl rfl (by decide) rfl ?_
      refine px_goto (tgt := 2) C dX1_durationAt_68 (by decide) ?_
      exact PW_at (hR2 _ _ _ _ hk) (And.intro rfl (And.intro rfl (And.intro rfl (And.intro rfl trivial)))) (Nat.le_of_ble_eq_true rfl) (Nat.le_of_ble_eq_true rfl)
    · replace hk := hk.2 c10
      refine px_aload_n (i := 0) C dX1_durationAt_28 rfl rfl ?_
      refine px_getr C dX1_durationAt_29 fl_RX1_9 rfl rfl rfl ?_
      refine px_iload_n (i := 3) C dX1_durationAt_32 rfl rfl ?_
      refine px_callVi (h := 1) (rc' := 0) (rs' := 0) C (HR_le hHR (Nat.le_of_ble_eq_true rfl)) hRt hnT dX1_durationAt_33 (gw5 78 rfl rfl) mv_X7_duration (w7_duration_ok (PCx_l C) (PCx_I C) hk) rfl rfl rfl rfl rfl (Nat.le_of_ble_eq_true rfl) (Nat.le_of_ble_eq_true rfl) (Nat.le_of_ble_eq_true rfl) (Nat.le_of_ble_eq_true rfl) ?_
      intro r3 μ2 hk
      refine px_istore (i := 4) C dX1_durationAt_36 (by decide) rfl ?_
      refine px_aload_n (i := 0) C dX1_durationAt_38 rfl rfl ?_
      refine px_iload_n (i := 1) C dX1_durationAt_39 rfl rfl ?_
      refine px_iload (i := 4) C dX1_durationAt_40 rfl ?_
      refine px_iconst (v := (1 : Int32)) C dX1_durationAt_42 rfl ?_
      refine px_isub C dX1_durationAt_43 ?_
      refine px_callVi (h := 2) (rc' := 0) (rs' := 0) C (HR_le hHR (Nat.le_of_ble_eq_true rfl)) hRt hnT dX1_durationAt_44 (gw5 196 rfl rfl) mv_X1_countUpTo (w1_countUpTo_ok (PCx_l C) (PCx_I C) hk) rfl rfl rfl rfl rfl (Nat.le_of_ble_eq_true rfl) (Nat.le_of_ble_eq_true rfl) (Nat.le_of_ble_eq_true rfl) (Nat.le_of_ble_eq_true rfl) ?_
      intro r5 μ4 hk
      refine px_iload_n (i := 2) C dX1_durationAt_47 rfl rfl ?_
      refine px_icmp_ge (tgt := 65) C dX1_durationAt_48 (by decide) (fun c9 => ?_) (fun c9 => ?_)
      · replace hk := hk.1 c9
        refine px_iinc (i := 3) (v := (1 : Int32)) C dX1_durationAt_65 rfl rfl (by decide) rfl ?_
        refine px_goto (tgt := 2) C dX1_durationAt_68 (by decide) ?_
        exact PW_at (hR2 _ _ _ _ hk) (And.intro rfl (And.intro rfl (And.intro rfl (And.intro rfl trivial)))) (Nat.le_of_ble_eq_true rfl) (Nat.le_of_ble_eq_true rfl)
      · replace hk := hk.2 c9
        refine px_iload_n (i := 2) C dX1_durationAt_51 rfl rfl ?_
        refine px_aload_n (i := 0) C dX1_durationAt_52 rfl rfl ?_
        refine px_iload_n (i := 1) C dX1_durationAt_53 rfl rfl ?_
        refine px_iload (i := 4) C dX1_durationAt_54 rfl ?_
        refine px_callVi (h := 2) (rc' := 0) (rs' := 0) C (HR_le hHR (Nat.le_of_ble_eq_true rfl)) hRt hnT dX1_durationAt_56 (gw5 196 rfl rfl) mv_X1_countUpTo (w1_countUpTo_ok (PCx_l C) (PCx_I C) hk) rfl rfl rfl rfl rfl (Nat.le_of_ble_eq_true rfl) (Nat.le_of_ble_eq_true rfl) (Nat.le_of_ble_eq_true rfl) (Nat.le_of_ble_eq_true rfl) ?_
        intro r7 μ6 hk
        refine px_icmp_gt (tgt := 65) C dX1_durationAt_59 (by decide) (fun c8 => ?_) (fun c8 => ?_)
        · replace hk := hk.1 c8
          refine px_iinc (i := 3) (v := (1 : Int32)) C dX1_durationAt_65 rfl rfl (by decide) rfl ?_
          refine px_goto (tgt := 2) C dX1_durationAt_68 (by decide) ?_
          exact PW_at (hR2 _ _ _ _ hk) (And.intro rfl (And.intro rfl (And.intro rfl (And.intro rfl trivial)))) (Nat.le_of_ble_eq_true rfl) (Nat.le_of_ble_eq_true rfl)
        · replace hk := hk.2 c8
          refine px_iload (i := 4) C dX1_durationAt_62 rfl ?_
          exact px_iret C hRt dX1_durationAt_64 rfl rfl hk
set_option maxRecDepth 100000 in
set_option maxHeartbeats 4000000 in
theorem w1_durationAt_ok {l : Launch} {idx : List (Nat × Nat)} {μ : Mem} {a1 : Int32} {a2 : Int32} {P : Int32 → Mem → Prop} {X : String → Mem → Prop} (hl : l.stackTraces = false) (hI : IdxOK idx) (hk : w1_durationAt_wp μ a1 a2 P) : PMet l yX1_durationAt (.code yX1_durationAt cX1_durationAt 5 (some .int)) 3 0 0 idx [pR 34 0, pI a1, pI a2] μ (qI P) X := by
  refine PMet_of mv_X1_durationAt.2.2.2.2.2.2 hl hI mv_X1_durationAt.2.2.2.1 rfl (Nat.le_of_ble_eq_true rfl) (fun G _ _ C hRt hHR hnT => ?_)
  show PW G 0 0 0 [some (pR 34 0), some (pI a1), some (pI a2), none, none] [] μ
  unfold w1_durationAt_wp at hk
  refine px_iconst (v := (0 : Int32)) C dX1_durationAt_0 rfl ?_
  refine px_istore_n (i := 3) C dX1_durationAt_1 rfl (by decide) rfl ?_
  exact PW_at (w1_durationAt_b2_ok C hRt hHR hnT hk) (And.intro rfl (And.intro rfl (And.intro rfl (And.intro rfl trivial)))) (Nat.le_of_ble_eq_true rfl) (Nat.le_of_ble_eq_true rfl)
theorem dX2_kindOf_0 : decode cX2_kindOf 0 = .ok (.aload_n 0, 1) := by decide +kernel
theorem dX2_kindOf_1 : decode cX2_kindOf 1 = .ok (.getfield 37, 3) := by decide +kernel
theorem dX2_kindOf_4 : decode cX2_kindOf 4 = .ok (.getfield 101, 3) := by decide +kernel
theorem dX2_kindOf_7 : decode cX2_kindOf 7 = .ok (.iload_n 1, 1) := by decide +kernel
theorem dX2_kindOf_8 : decode cX2_kindOf 8 = .ok (.invokestatic 54, 3) := by decide +kernel
theorem dX2_kindOf_11 : decode cX2_kindOf 11 = .ok (.iconst (-1), 1) := by decide +kernel
theorem dX2_kindOf_12 : decode cX2_kindOf 12 = .ok (.if_icmp .ne 5, 3) := by decide +kernel
theorem dX2_kindOf_15 : decode cX2_kindOf 15 = .ok (.iconst 0, 1) := by decide +kernel
theorem dX2_kindOf_16 : decode cX2_kindOf 16 = .ok (.ireturn, 1) := by decide +kernel
theorem dX2_kindOf_17 : decode cX2_kindOf 17 = .ok (.aload_n 0, 1) := by decide +kernel
theorem dX2_kindOf_18 : decode cX2_kindOf 18 = .ok (.getfield 18, 3) := by decide +kernel
theorem dX2_kindOf_21 : decode cX2_kindOf 21 = .ok (.iload_n 1, 1) := by decide +kernel
theorem dX2_kindOf_22 : decode cX2_kindOf 22 = .ok (.invokestatic 54, 3) := by decide +kernel
theorem dX2_kindOf_25 : decode cX2_kindOf 25 = .ok (.iconst (-1), 1) := by decide +kernel
theorem dX2_kindOf_26 : decode cX2_kindOf 26 = .ok (.if_icmp .ne 5, 3) := by decide +kernel
theorem dX2_kindOf_29 : decode cX2_kindOf 29 = .ok (.iconst 2, 1) := by decide +kernel
theorem dX2_kindOf_30 : decode cX2_kindOf 30 = .ok (.ireturn, 1) := by decide +kernel
theorem dX2_kindOf_31 : decode cX2_kindOf 31 = .ok (.aload_n 0, 1) := by decide +kernel
theorem dX2_kindOf_32 : decode cX2_kindOf 32 = .ok (.iload_n 1, 1) := by decide +kernel
theorem dX2_kindOf_33 : decode cX2_kindOf 33 = .ok (.invokevirtual 104, 3) := by decide +kernel
theorem dX2_kindOf_36 : decode cX2_kindOf 36 = .ok (.ifCond .eq 7, 3) := by decide +kernel
theorem dX2_kindOf_39 : decode cX2_kindOf 39 = .ok (.iconst 3, 1) := by decide +kernel
theorem dX2_kindOf_40 : decode cX2_kindOf 40 = .ok (.goto 4, 3) := by decide +kernel
theorem dX2_kindOf_43 : decode cX2_kindOf 43 = .ok (.iconst 1, 1) := by decide +kernel
theorem dX2_kindOf_44 : decode cX2_kindOf 44 = .ok (.ireturn, 1) := by decide +kernel
set_option maxRecDepth 100000 in
set_option maxHeartbeats 4000000 in
theorem w2_kindOf_ok {l : Launch} {idx : List (Nat × Nat)} {μ : Mem} {a1 : Int32} {P : Int32 → Mem → Prop} {X : String → Mem → Prop} (hl : l.stackTraces = false) (hI : IdxOK idx) (hk : w2_kindOf_wp μ a1 P) : PMet l yX2_kindOf (.code yX2_kindOf cX2_kindOf 2 (some .int)) 2 0 0 idx [pR 18 0, pI a1] μ (qI P) X := by
  refine PMet_of mv_X2_kindOf.2.2.2.2.2.2 hl hI mv_X2_kindOf.2.2.2.1 rfl (Nat.le_of_ble_eq_true rfl) (fun G _ _ C hRt hHR hnT => ?_)
  show PW G 0 0 0 [some (pR 18 0), some (pI a1)] [] μ
  unfold w2_kindOf_wp at hk
  refine px_aload_n (i := 0) C dX2_kindOf_0 rfl rfl ?_
  refine px_getr C dX2_kindOf_1 fl_RX2_37 rfl rfl rfl ?_
  refine px_getr C dX2_kindOf_4 fl_RX2_101 rfl rfl rfl ?_
  refine px_iload_n (i := 1) C dX2_kindOf_7 rfl rfl ?_
  obtain ⟨o1, hk⟩ := hk
  refine px_callSNi (h := 0) (rc' := 0) (rs' := 0) C (HR_le hHR (Nat.le_of_ble_eq_true rfl)) hRt hnT dX2_kindOf_8 (List.mem_append_right _ (List.mem_append_left _ (List.mem_of_getElem? (i := 7) rfl))) ms_X8_at (at_ok (j := 3) (q := 0) (n := 40) (loc := 192) (PCx_l C) (PCx_I C) rfl rfl rfl o1) rfl rfl (Nat.le_of_ble_eq_true rfl) (Nat.le_of_ble_eq_true rfl) (Nat.le_of_ble_eq_true rfl) (Nat.le_of_ble_eq_true rfl) ?_
  rintro _ _ ⟨rfl, rfl⟩
  refine px_iconst (v := (-1 : Int32)) C dX2_kindOf_11 rfl ?_
  refine px_icmp_ne (tgt := 17) C dX2_kindOf_12 (by decide) (fun c7 => ?_) (fun c7 => ?_)
  · replace hk := hk.1 c7
    refine px_aload_n (i := 0) C dX2_kindOf_17 rfl rfl ?_
    refine px_getr C dX2_kindOf_18 fl_RX2_18 rfl rfl rfl ?_
    refine px_iload_n (i := 1) C dX2_kindOf_21 rfl rfl ?_
    obtain ⟨o2, hk⟩ := hk
    refine px_callSNi (h := 0) (rc' := 0) (rs' := 0) C (HR_le hHR (Nat.le_of_ble_eq_true rfl)) hRt hnT dX2_kindOf_22 (List.mem_append_right _ (List.mem_append_left _ (List.mem_of_getElem? (i := 7) rfl))) ms_X8_at (at_ok (j := 21) (q := 0) (n := 40) (loc := 1344) (PCx_l C) (PCx_I C) rfl rfl rfl o2) rfl rfl (Nat.le_of_ble_eq_true rfl) (Nat.le_of_ble_eq_true rfl) (Nat.le_of_ble_eq_true rfl) (Nat.le_of_ble_eq_true rfl) ?_
    rintro _ _ ⟨rfl, rfl⟩
    refine px_iconst (v := (-1 : Int32)) C dX2_kindOf_25 rfl ?_
    refine px_icmp_ne (tgt := 31) C dX2_kindOf_26 (by decide) (fun c6 => ?_) (fun c6 => ?_)
    · replace hk := hk.1 c6
      refine px_aload_n (i := 0) C dX2_kindOf_31 rfl rfl ?_
      refine px_iload_n (i := 1) C dX2_kindOf_32 rfl rfl ?_
      refine px_callVi (h := 1) (rc' := 0) (rs' := 0) C (HR_le hHR (Nat.le_of_ble_eq_true rfl)) hRt hnT dX2_kindOf_33 (gw2 230 rfl rfl) mv_X2_isLowestOfCycle (w2_isLowestOfCycle_ok (PCx_l C) (PCx_I C) hk) rfl rfl rfl rfl rfl (Nat.le_of_ble_eq_true rfl) (Nat.le_of_ble_eq_true rfl) (Nat.le_of_ble_eq_true rfl) (Nat.le_of_ble_eq_true rfl) ?_
      intro r4 μ3 hk
      refine px_if_eq (tgt := 43) C dX2_kindOf_36 (by decide) (fun c5 => ?_) (fun c5 => ?_)
      · replace hk := hk.1 c5
        refine px_iconst (v := (1 : Int32)) C dX2_kindOf_43 rfl ?_
        exact px_iret C hRt dX2_kindOf_44 rfl rfl hk
      · replace hk := hk.2 c5
        refine px_iconst (v := (3 : Int32)) C dX2_kindOf_39 rfl ?_
        refine px_goto (tgt := 44) C dX2_kindOf_40 (by decide) ?_
        exact px_iret C hRt dX2_kindOf_44 rfl rfl hk
    · replace hk := hk.2 c6
      refine px_iconst (v := (2 : Int32)) C dX2_kindOf_29 rfl ?_
      exact px_iret C hRt dX2_kindOf_30 rfl rfl hk
  · replace hk := hk.2 c7
    refine px_iconst (v := (0 : Int32)) C dX2_kindOf_15 rfl ?_
    exact px_iret C hRt dX2_kindOf_16 rfl rfl hk
theorem dX4_parseEntry_0 : decode cX4_parseEntry 0 = .ok (.aload_n 0, 1) := by decide +kernel
theorem dX4_parseEntry_1 : decode cX4_parseEntry 1 = .ok (.iconst 3, 1) := by decide +kernel
theorem dX4_parseEntry_2 : decode cX4_parseEntry 2 = .ok (.invokevirtual 35, 3) := by decide +kernel
theorem dX4_parseEntry_5 : decode cX4_parseEntry 5 = .ok (.istore_n 2, 1) := by decide +kernel
theorem dX4_parseEntry_6 : decode cX4_parseEntry 6 = .ok (.iload_n 2, 1) := by decide +kernel
theorem dX4_parseEntry_7 : decode cX4_parseEntry 7 = .ok (.iconst (-1), 1) := by decide +kernel
theorem dX4_parseEntry_8 : decode cX4_parseEntry 8 = .ok (.if_icmp .eq 12, 3) := by decide +kernel
theorem dX4_parseEntry_11 : decode cX4_parseEntry 11 = .ok (.aload_n 0, 1) := by decide +kernel
theorem dX4_parseEntry_12 : decode cX4_parseEntry 12 = .ok (.bipush 47, 2) := by decide +kernel
theorem dX4_parseEntry_14 : decode cX4_parseEntry 14 = .ok (.invokevirtual 39, 3) := by decide +kernel
theorem dX4_parseEntry_17 : decode cX4_parseEntry 17 = .ok (.ifCond .ne 5, 3) := by decide +kernel
theorem dX4_parseEntry_20 : decode cX4_parseEntry 20 = .ok (.iconst 0, 1) := by decide +kernel
theorem dX4_parseEntry_21 : decode cX4_parseEntry 21 = .ok (.ireturn, 1) := by decide +kernel
theorem dX4_parseEntry_22 : decode cX4_parseEntry 22 = .ok (.aload_n 0, 1) := by decide +kernel
theorem dX4_parseEntry_23 : decode cX4_parseEntry 23 = .ok (.iconst 2, 1) := by decide +kernel
theorem dX4_parseEntry_24 : decode cX4_parseEntry 24 = .ok (.invokevirtual 43, 3) := by decide +kernel
theorem dX4_parseEntry_27 : decode cX4_parseEntry 27 = .ok (.istore_n 3, 1) := by decide +kernel
theorem dX4_parseEntry_28 : decode cX4_parseEntry 28 = .ok (.iload_n 3, 1) := by decide +kernel
theorem dX4_parseEntry_29 : decode cX4_parseEntry 29 = .ok (.iconst (-1), 1) := by decide +kernel
theorem dX4_parseEntry_30 : decode cX4_parseEntry 30 = .ok (.if_icmp .eq 12, 3) := by decide +kernel
theorem dX4_parseEntry_33 : decode cX4_parseEntry 33 = .ok (.aload_n 0, 1) := by decide +kernel
theorem dX4_parseEntry_34 : decode cX4_parseEntry 34 = .ok (.bipush 60, 2) := by decide +kernel
theorem dX4_parseEntry_36 : decode cX4_parseEntry 36 = .ok (.invokevirtual 39, 3) := by decide +kernel
theorem dX4_parseEntry_39 : decode cX4_parseEntry 39 = .ok (.ifCond .ne 5, 3) := by decide +kernel
theorem dX4_parseEntry_42 : decode cX4_parseEntry 42 = .ok (.iconst 0, 1) := by decide +kernel
theorem dX4_parseEntry_43 : decode cX4_parseEntry 43 = .ok (.ireturn, 1) := by decide +kernel
theorem dX4_parseEntry_44 : decode cX4_parseEntry 44 = .ok (.aload_n 0, 1) := by decide +kernel
theorem dX4_parseEntry_45 : decode cX4_parseEntry 45 = .ok (.bipush 45, 2) := by decide +kernel
theorem dX4_parseEntry_47 : decode cX4_parseEntry 47 = .ok (.invokevirtual 39, 3) := by decide +kernel
theorem dX4_parseEntry_50 : decode cX4_parseEntry 50 = .ok (.ifCond .ne 7, 3) := by decide +kernel
theorem dX4_parseEntry_53 : decode cX4_parseEntry 53 = .ok (.iconst 1, 1) := by decide +kernel
theorem dX4_parseEntry_54 : decode cX4_parseEntry 54 = .ok (.goto 4, 3) := by decide +kernel
theorem dX4_parseEntry_57 : decode cX4_parseEntry 57 = .ok (.iconst 0, 1) := by decide +kernel
theorem dX4_parseEntry_58 : decode cX4_parseEntry 58 = .ok (.istore 4, 2) := by decide +kernel
theorem dX4_parseEntry_60 : decode cX4_parseEntry 60 = .ok (.iload 4, 2) := by decide +kernel
theorem dX4_parseEntry_62 : decode cX4_parseEntry 62 = .ok (.ifCond .eq 11, 3) := by decide +kernel
theorem dX4_parseEntry_65 : decode cX4_parseEntry 65 = .ok (.aload_n 0, 1) := by decide +kernel
theorem dX4_parseEntry_66 : decode cX4_parseEntry 66 = .ok (.iconst 2, 1) := by decide +kernel
theorem dX4_parseEntry_67 : decode cX4_parseEntry 67 = .ok (.invokevirtual 43, 3) := by decide +kernel
theorem dX4_parseEntry_70 : decode cX4_parseEntry 70 = .ok (.goto 4, 3) := by decide +kernel
theorem dX4_parseEntry_73 : decode cX4_parseEntry 73 = .ok (.iconst (-1), 1) := by decide +kernel
theorem dX4_parseEntry_74 : decode cX4_parseEntry 74 = .ok (.istore 5, 2) := by decide +kernel
theorem dX4_parseEntry_76 : decode cX4_parseEntry 76 = .ok (.iload 4, 2) := by decide +kernel
theorem dX4_parseEntry_78 : decode cX4_parseEntry 78 = .ok (.ifCond .eq 9, 3) := by decide +kernel
theorem dX4_parseEntry_81 : decode cX4_parseEntry 81 = .ok (.iload 5, 2) := by decide +kernel
theorem dX4_parseEntry_83 : decode cX4_parseEntry 83 = .ok (.iconst (-1), 1) := by decide +kernel
theorem dX4_parseEntry_84 : decode cX4_parseEntry 84 = .ok (.if_icmp .eq 12, 3) := by decide +kernel
theorem dX4_parseEntry_87 : decode cX4_parseEntry 87 = .ok (.aload_n 0, 1) := by decide +kernel
theorem dX4_parseEntry_88 : decode cX4_parseEntry 88 = .ok (.bipush 64, 2) := by decide +kernel
theorem dX4_parseEntry_90 : decode cX4_parseEntry 90 = .ok (.invokevirtual 39, 3) := by decide +kernel
theorem dX4_parseEntry_93 : decode cX4_parseEntry 93 = .ok (.ifCond .ne 5, 3) := by decide +kernel
theorem dX4_parseEntry_96 : decode cX4_parseEntry 96 = .ok (.iconst 0, 1) := by decide +kernel
theorem dX4_parseEntry_97 : decode cX4_parseEntry 97 = .ok (.ireturn, 1) := by decide +kernel
theorem dX4_parseEntry_98 : decode cX4_parseEntry 98 = .ok (.aload_n 0, 1) := by decide +kernel
theorem dX4_parseEntry_99 : decode cX4_parseEntry 99 = .ok (.bipush 7, 2) := by decide +kernel
theorem dX4_parseEntry_101 : decode cX4_parseEntry 101 = .ok (.invokevirtual 35, 3) := by decide +kernel
theorem dX4_parseEntry_104 : decode cX4_parseEntry 104 = .ok (.istore 6, 2) := by decide +kernel
theorem dX4_parseEntry_106 : decode cX4_parseEntry 106 = .ok (.iload 6, 2) := by decide +kernel
theorem dX4_parseEntry_108 : decode cX4_parseEntry 108 = .ok (.iconst (-1), 1) := by decide +kernel
theorem dX4_parseEntry_109 : decode cX4_parseEntry 109 = .ok (.if_icmp .eq 12, 3) := by decide +kernel
theorem dX4_parseEntry_112 : decode cX4_parseEntry 112 = .ok (.aload_n 0, 1) := by decide +kernel
theorem dX4_parseEntry_113 : decode cX4_parseEntry 113 = .ok (.bipush 58, 2) := by decide +kernel
theorem dX4_parseEntry_115 : decode cX4_parseEntry 115 = .ok (.invokevirtual 39, 3) := by decide +kernel
theorem dX4_parseEntry_118 : decode cX4_parseEntry 118 = .ok (.ifCond .ne 5, 3) := by decide +kernel
theorem dX4_parseEntry_121 : decode cX4_parseEntry 121 = .ok (.iconst 0, 1) := by decide +kernel
theorem dX4_parseEntry_122 : decode cX4_parseEntry 122 = .ok (.ireturn, 1) := by decide +kernel
theorem dX4_parseEntry_123 : decode cX4_parseEntry 123 = .ok (.aload_n 0, 1) := by decide +kernel
theorem dX4_parseEntry_124 : decode cX4_parseEntry 124 = .ok (.iconst 4, 1) := by decide +kernel
theorem dX4_parseEntry_125 : decode cX4_parseEntry 125 = .ok (.invokevirtual 43, 3) := by decide +kernel
theorem dX4_parseEntry_128 : decode cX4_parseEntry 128 = .ok (.istore 7, 2) := by decide +kernel
theorem dX4_parseEntry_130 : decode cX4_parseEntry 130 = .ok (.iload 7, 2) := by decide +kernel
theorem dX4_parseEntry_132 : decode cX4_parseEntry 132 = .ok (.iconst (-1), 1) := by decide +kernel
theorem dX4_parseEntry_133 : decode cX4_parseEntry 133 = .ok (.if_icmp .eq 12, 3) := by decide +kernel
theorem dX4_parseEntry_136 : decode cX4_parseEntry 136 = .ok (.aload_n 0, 1) := by decide +kernel
theorem dX4_parseEntry_137 : decode cX4_parseEntry 137 = .ok (.bipush 45, 2) := by decide +kernel
theorem dX4_parseEntry_139 : decode cX4_parseEntry 139 = .ok (.invokevirtual 39, 3) := by decide +kernel
theorem dX4_parseEntry_142 : decode cX4_parseEntry 142 = .ok (.ifCond .ne 5, 3) := by decide +kernel
theorem dX4_parseEntry_145 : decode cX4_parseEntry 145 = .ok (.iconst 0, 1) := by decide +kernel
theorem dX4_parseEntry_146 : decode cX4_parseEntry 146 = .ok (.ireturn, 1) := by decide +kernel
theorem dX4_parseEntry_147 : decode cX4_parseEntry 147 = .ok (.aload_n 0, 1) := by decide +kernel
theorem dX4_parseEntry_148 : decode cX4_parseEntry 148 = .ok (.iconst 4, 1) := by decide +kernel
theorem dX4_parseEntry_149 : decode cX4_parseEntry 149 = .ok (.invokevirtual 43, 3) := by decide +kernel
theorem dX4_parseEntry_152 : decode cX4_parseEntry 152 = .ok (.istore 8, 2) := by decide +kernel
theorem dX4_parseEntry_154 : decode cX4_parseEntry 154 = .ok (.iload 8, 2) := by decide +kernel
theorem dX4_parseEntry_156 : decode cX4_parseEntry 156 = .ok (.iconst (-1), 1) := by decide +kernel
theorem dX4_parseEntry_157 : decode cX4_parseEntry 157 = .ok (.if_icmp .ne 5, 3) := by decide +kernel
theorem dX4_parseEntry_160 : decode cX4_parseEntry 160 = .ok (.iconst 0, 1) := by decide +kernel
theorem dX4_parseEntry_161 : decode cX4_parseEntry 161 = .ok (.ireturn, 1) := by decide +kernel
theorem dX4_parseEntry_162 : decode cX4_parseEntry 162 = .ok (.aload_n 0, 1) := by decide +kernel
theorem dX4_parseEntry_163 : decode cX4_parseEntry 163 = .ok (.bipush 33, 2) := by decide +kernel
theorem dX4_parseEntry_165 : decode cX4_parseEntry 165 = .ok (.invokevirtual 39, 3) := by decide +kernel
theorem dX4_parseEntry_168 : decode cX4_parseEntry 168 = .ok (.istore 9, 2) := by decide +kernel
theorem dX4_parseEntry_170 : decode cX4_parseEntry 170 = .ok (.aload_n 0, 1) := by decide +kernel
theorem dX4_parseEntry_171 : decode cX4_parseEntry 171 = .ok (.bipush 59, 2) := by decide +kernel
theorem dX4_parseEntry_173 : decode cX4_parseEntry 173 = .ok (.invokevirtual 39, 3) := by decide +kernel
theorem dX4_parseEntry_176 : decode cX4_parseEntry 176 = .ok (.ifCond .ne 5, 3) := by decide +kernel
theorem dX4_parseEntry_179 : decode cX4_parseEntry 179 = .ok (.iconst 0, 1) := by decide +kernel
theorem dX4_parseEntry_180 : decode cX4_parseEntry 180 = .ok (.ireturn, 1) := by decide +kernel
theorem dX4_parseEntry_181 : decode cX4_parseEntry 181 = .ok (.aload_n 1, 1) := by decide +kernel
theorem dX4_parseEntry_182 : decode cX4_parseEntry 182 = .ok (.iload_n 2, 1) := by decide +kernel
theorem dX4_parseEntry_183 : decode cX4_parseEntry 183 = .ok (.iload_n 3, 1) := by decide +kernel
theorem dX4_parseEntry_184 : decode cX4_parseEntry 184 = .ok (.iload 5, 2) := by decide +kernel
theorem dX4_parseEntry_186 : decode cX4_parseEntry 186 = .ok (.iload 6, 2) := by decide +kernel
theorem dX4_parseEntry_188 : decode cX4_parseEntry 188 = .ok (.iload 7, 2) := by decide +kernel
theorem dX4_parseEntry_190 : decode cX4_parseEntry 190 = .ok (.iload 8, 2) := by decide +kernel
theorem dX4_parseEntry_192 : decode cX4_parseEntry 192 = .ok (.iload 9, 2) := by decide +kernel
theorem dX4_parseEntry_194 : decode cX4_parseEntry 194 = .ok (.invokevirtual 46, 3) := by decide +kernel
theorem dX4_parseEntry_197 : decode cX4_parseEntry 197 = .ok (.iconst 1, 1) := by decide +kernel
theorem dX4_parseEntry_198 : decode cX4_parseEntry 198 = .ok (.ireturn, 1) := by decide +kernel
set_option maxRecDepth 100000 in
set_option maxHeartbeats 4000000 in
theorem w4_parseEntry_b87_ok {G : GT} {k1 : Nat} {P : Int32 → Mem → Prop} {X : String → Mem → Prop} (C : PCx G cX4_parseEntry 10 RX4) (hRt : PRt G (some .boolean) (qI P) X) (hHR : HR G (3)) (hnT : NoT G) {μ : Mem} {l2 : Int32} {l3 : Int32} {l5 : Int32} (hk : w4_parseEntry_b87 k1 P μ l2 l3 l5) : PW G 0 0 87 [some (pR 38 0), some (pR 0 k1), some (pI l2), some (pI l3), none, some (pI l5), none, none, none, none] [] μ := by
  unfold w4_parseEntry_b87 at hk
  refine px_aload_n (i := 0) C dX4_parseEntry_87 rfl rfl ?_
  refine px_bipush (v := (64 : Int32)) C dX4_parseEntry_88 rfl ?_
  refine px_callVi (h := 1) (rc' := 0) (rs' := 0) C (HR_le hHR (Nat.le_of_ble_eq_true rfl)) hRt hnT dX4_parseEntry_90 (gw6 147 rfl rfl) mv_X4_take (w4_take_ok (PCx_l C) (PCx_I C) hk) rfl rfl rfl rfl rfl (Nat.le_of_ble_eq_true rfl) (Nat.le_of_ble_eq_true rfl) (Nat.le_of_ble_eq_true rfl) (Nat.le_of_ble_eq_true rfl) ?_
  intro r12 μ11 hk
  refine px_if_ne (tgt := 98) C dX4_parseEntry_93 (by decide) (fun c34 => ?_) (fun c34 => ?_)
  · replace hk := hk.1 c34
    refine px_aload_n (i := 0) C dX4_parseEntry_98 rfl rfl ?_
    refine px_bipush (v := (7 : Int32)) C dX4_parseEntry_99 rfl ?_
    refine px_callVi (h := 1) (rc' := 0) (rs' := 0) C (HR_le hHR (Nat.le_of_ble_eq_true rfl)) hRt hnT dX4_parseEntry_101 (gw6 143 rfl rfl) mv_X4_takeDigit (w4_takeDigit_ok (PCx_l C) (PCx_I C) hk) rfl rfl rfl rfl rfl (Nat.le_of_ble_eq_true rfl) (Nat.le_of_ble_eq_true rfl) (Nat.le_of_ble_eq_true rfl) (Nat.le_of_ble_eq_true rfl) ?_
    intro r14 μ13 hk
    refine px_istore (i := 6) C dX4_parseEntry_104 (by decide) rfl ?_
    refine px_iload (i := 6) C dX4_parseEntry_106 rfl ?_
    refine px_iconst (v := (-1 : Int32)) C dX4_parseEntry_108 rfl ?_
    refine px_icmp_eq (tgt := 121) C dX4_parseEntry_109 (by decide) (fun c33 => ?_) (fun c33 => ?_)
    · replace hk := hk.1 c33
      refine px_iconst (v := (0 : Int32)) C dX4_parseEntry_121 rfl ?_
      exact px_iret C hRt dX4_parseEntry_122 rfl rfl hk
    · replace hk := hk.2 c33
      refine px_aload_n (i := 0) C dX4_parseEntry_112 rfl rfl ?_
      refine px_bipush (v := (58 : Int32)) C dX4_parseEntry_113 rfl ?_
      refine px_callVi (h := 1) (rc' := 0) (rs' := 0) C (HR_le hHR (Nat.le_of_ble_eq_true rfl)) hRt hnT dX4_parseEntry_115 (gw6 147 rfl rfl) mv_X4_take (w4_take_ok (PCx_l C) (PCx_I C) hk) rfl rfl rfl rfl rfl (Nat.le_of_ble_eq_true rfl) (Nat.le_of_ble_eq_true rfl) (Nat.le_of_ble_eq_true rfl) (Nat.le_of_ble_eq_true rfl) ?_
      intro r16 μ15 hk
      refine px_if_ne (tgt := 123) C dX4_parseEntry_118 (by decide) (fun c32 => ?_) (fun c32 => ?_)
      · replace hk := hk.1 c32
        refine px_aload_n (i := 0) C dX4_parseEntry_123 rfl rfl ?_
        refine px_iconst (v := (4 : Int32)) C dX4_parseEntry_124 rfl ?_
        refine px_callVi (h := 2) (rc' := 0) (rs' := 0) C (HR_le hHR (Nat.le_of_ble_eq_true rfl)) hRt hnT dX4_parseEntry_125 (gw6 151 rfl rfl) mv_X4_takeNumber (w4_takeNumber_ok (PCx_l C) (PCx_I C) hk) rfl rfl rfl rfl rfl (Nat.le_of_ble_eq_true rfl) (Nat.le_of_ble_eq_true rfl) (Nat.le_of_ble_eq_true rfl) (Nat.le_of_ble_eq_true rfl) ?_
        intro r18 μ17 hk
        refine px_istore (i := 7) C dX4_parseEntry_128 (by decide) rfl ?_
        refine px_iload (i := 7) C dX4_parseEntry_130 rfl ?_
        refine px_iconst (v := (-1 : Int32)) C dX4_parseEntry_132 rfl ?_
        refine px_icmp_eq (tgt := 145) C dX4_parseEntry_133 (by decide) (fun c31 => ?_) (fun c31 => ?_)
        · replace hk := hk.1 c31
          refine px_iconst (v := (0 : Int32)) C dX4_parseEntry_145 rfl ?_
          exact px_iret C hRt dX4_parseEntry_146 rfl rfl hk
        · replace hk := hk.2 c31
          refine px_aload_n (i := 0) C dX4_parseEntry_136 rfl rfl ?_
          refine px_bipush (v := (45 : Int32)) C dX4_parseEntry_137 rfl ?_
          refine px_callVi (h := 1) (rc' := 0) (rs' := 0) C (HR_le hHR (Nat.le_of_ble_eq_true rfl)) hRt hnT dX4_parseEntry_139 (gw6 147 rfl rfl) mv_X4_take (w4_take_ok (PCx_l C) (PCx_I C) hk) rfl rfl rfl rfl rfl (Nat.le_of_ble_eq_true rfl) (Nat.le_of_ble_eq_true rfl) (Nat.le_of_ble_eq_true rfl) (Nat.le_of_ble_eq_true rfl) ?_
          intro r20 μ19 hk
          refine px_if_ne (tgt := 147) C dX4_parseEntry_142 (by decide) (fun c30 => ?_) (fun c30 => ?_)
          · replace hk := hk.1 c30
            refine px_aload_n (i := 0) C dX4_parseEntry_147 rfl rfl ?_
            refine px_iconst (v := (4 : Int32)) C dX4_parseEntry_148 rfl ?_
            refine px_callVi (h := 2) (rc' := 0) (rs' := 0) C (HR_le hHR (Nat.le_of_ble_eq_true rfl)) hRt hnT dX4_parseEntry_149 (gw6 151 rfl rfl) mv_X4_takeNumber (w4_takeNumber_ok (PCx_l C) (PCx_I C) hk) rfl rfl rfl rfl rfl (Nat.le_of_ble_eq_true rfl) (Nat.le_of_ble_eq_true rfl) (Nat.le_of_ble_eq_true rfl) (Nat.le_of_ble_eq_true rfl) ?_
            intro r22 μ21 hk
            refine px_istore (i := 8) C dX4_parseEntry_152 (by decide) rfl ?_
            refine px_iload (i := 8) C dX4_parseEntry_154 rfl ?_
            refine px_iconst (v := (-1 : Int32)) C dX4_parseEntry_156 rfl ?_
            refine px_icmp_ne (tgt := 162) C dX4_parseEntry_157 (by decide) (fun c29 => ?_) (fun c29 => ?_)
            · replace hk := hk.1 c29
              refine px_aload_n (i := 0) C dX4_parseEntry_162 rfl rfl ?_
              refine px_bipush (v := (33 : Int32)) C dX4_parseEntry_163 rfl ?_
              refine px_callVi (h := 1) (rc' := 0) (rs' := 0) C (HR_le hHR (Nat.le_of_ble_eq_true rfl)) hRt hnT dX4_parseEntry_165 (gw6 147 rfl rfl) mv_X4_take (w4_take_ok (PCx_l C) (PCx_I C) hk) rfl rfl rfl rfl rfl (Nat.le_of_ble_eq_true rfl) (Nat.le_of_ble_eq_true rfl) (Nat.le_of_ble_eq_true rfl) (Nat.le_of_ble_eq_true rfl) ?_
              intro r24 μ23 hk
              refine px_istore (i := 9) C dX4_parseEntry_168 (by decide) rfl ?_
              refine px_aload_n (i := 0) C dX4_parseEntry_170 rfl rfl ?_
              refine px_bipush (v := (59 : Int32)) C dX4_parseEntry_171 rfl ?_
              refine px_callVi (h := 1) (rc' := 0) (rs' := 0) C (HR_le hHR (Nat.le_of_ble_eq_true rfl)) hRt hnT dX4_parseEntry_173 (gw6 147 rfl rfl) mv_X4_take (w4_take_ok (PCx_l C) (PCx_I C) hk) rfl rfl rfl rfl rfl (Nat.le_of_ble_eq_true rfl) (Nat.le_of_ble_eq_true rfl) (Nat.le_of_ble_eq_true rfl) (Nat.le_of_ble_eq_true rfl) ?_
              intro r26 μ25 hk
              refine px_if_ne (tgt := 181) C dX4_parseEntry_176 (by decide) (fun c28 => ?_) (fun c28 => ?_)
              · replace hk := hk.1 c28
                refine px_aload_n (i := 1) C dX4_parseEntry_181 rfl rfl ?_
                refine px_iload_n (i := 2) C dX4_parseEntry_182 rfl rfl ?_
                refine px_iload_n (i := 3) C dX4_parseEntry_183 rfl rfl ?_
                refine px_iload (i := 5) C dX4_parseEntry_184 rfl ?_
                refine px_iload (i := 6) C dX4_parseEntry_186 rfl ?_
                refine px_iload (i := 7) C dX4_parseEntry_188 rfl ?_
                refine px_iload (i := 8) C dX4_parseEntry_190 rfl ?_
                refine px_iload (i := 9) C dX4_parseEntry_192 rfl ?_
                refine px_callVv (h := 1) (rc' := 0) (rs' := 0) C (HR_le hHR (Nat.le_of_ble_eq_true rfl)) hRt hnT dX4_parseEntry_194 (gw6 155 rfl rfl) mv_X7_keep (w7_keep_ok (PCx_l C) (PCx_I C) hk) rfl rfl rfl rfl rfl (Nat.le_of_ble_eq_true rfl) (Nat.le_of_ble_eq_true rfl) (Nat.le_of_ble_eq_true rfl) (Nat.le_of_ble_eq_true rfl) ?_
                intro μ27 hk
                refine px_iconst (v := (1 : Int32)) C dX4_parseEntry_197 rfl ?_
                exact px_iret C hRt dX4_parseEntry_198 rfl rfl hk
              · replace hk := hk.2 c28
                refine px_iconst (v := (0 : Int32)) C dX4_parseEntry_179 rfl ?_
                exact px_iret C hRt dX4_parseEntry_180 rfl rfl hk
            · replace hk := hk.2 c29
              refine px_iconst (v := (0 : Int32)) C dX4_parseEntry_160 rfl ?_
              exact px_iret C hRt dX4_parseEntry_161 rfl rfl hk
          · replace hk := hk.2 c30
            refine px_iconst (v := (0 : Int32)) C dX4_parseEntry_145 rfl ?_
            exact px_iret C hRt dX4_parseEntry_146 rfl rfl hk
      · replace hk := hk.2 c32
        refine px_iconst (v := (0 : Int32)) C dX4_parseEntry_121 rfl ?_
        exact px_iret C hRt dX4_parseEntry_122 rfl rfl hk
  · replace hk := hk.2 c34
    refine px_iconst (v := (0 : Int32)) C dX4_parseEntry_96 rfl ?_
    exact px_iret C hRt dX4_parseEntry_97 rfl rfl hk
set_option maxRecDepth 100000 in
set_option maxHeartbeats 4000000 in
theorem w4_parseEntry_b74_ok {G : GT} {k1 : Nat} {P : Int32 → Mem → Prop} {X : String → Mem → Prop} (C : PCx G cX4_parseEntry 10 RX4) (hRt : PRt G (some .boolean) (qI P) X) (hHR : HR G (3)) (hnT : NoT G) {μ : Mem} {l2 : Int32} {l3 : Int32} {l4 : Int32} {s0 : Int32} (hk : w4_parseEntry_b74 k1 P μ l2 l3 l4 s0) : PW G 0 0 74 [some (pR 38 0), some (pR 0 k1), some (pI l2), some (pI l3), some (pI l4), none, none, none, none, none] [pI s0] μ := by
  unfold w4_parseEntry_b74 at hk
  refine px_istore (i := 5) C dX4_parseEntry_74 (by decide) rfl ?_
  refine px_iload (i := 4) C dX4_parseEntry_76 rfl ?_
  refine px_if_eq (tgt := 87) C dX4_parseEntry_78 (by decide) (fun c36 => ?_) (fun c36 => ?_)
  · replace hk := hk.1 c36
    exact PW_at (w4_parseEntry_b87_ok C hRt hHR hnT hk) (And.intro rfl (And.intro rfl (And.intro rfl (And.intro rfl (And.intro rfl trivial))))) (Nat.le_of_ble_eq_true rfl) (Nat.le_of_ble_eq_true rfl)
  · replace hk := hk.2 c36
    refine px_iload (i := 5) C dX4_parseEntry_81 rfl ?_
    refine px_iconst (v := (-1 : Int32)) C dX4_parseEntry_83 rfl ?_
    refine px_icmp_eq (tgt := 96) C dX4_parseEntry_84 (by decide) (fun c35 => ?_) (fun c35 => ?_)
    · replace hk := hk.1 c35
      refine px_iconst (v := (0 : Int32)) C dX4_parseEntry_96 rfl ?_
      exact px_iret C hRt dX4_parseEntry_97 rfl rfl hk
    · replace hk := hk.2 c35
      exact PW_at (w4_parseEntry_b87_ok C hRt hHR hnT hk) (And.intro rfl (And.intro rfl (And.intro rfl (And.intro rfl (And.intro rfl trivial))))) (Nat.le_of_ble_eq_true rfl) (Nat.le_of_ble_eq_true rfl)
set_option maxRecDepth 100000 in
set_option maxHeartbeats 4000000 in
theorem w4_parseEntry_b58_ok {G : GT} {k1 : Nat} {P : Int32 → Mem → Prop} {X : String → Mem → Prop} (C : PCx G cX4_parseEntry 10 RX4) (hRt : PRt G (some .boolean) (qI P) X) (hHR : HR G (3)) (hnT : NoT G) {μ : Mem} {l2 : Int32} {l3 : Int32} {s0 : Int32} (hk : w4_parseEntry_b58 k1 P μ l2 l3 s0) : PW G 0 0 58 [some (pR 38 0), some (pR 0 k1), some (pI l2), some (pI l3), none, none, none, none, none, none] [pI s0] μ := by
  unfold w4_parseEntry_b58 at hk
  refine px_istore (i := 4) C dX4_parseEntry_58 (by decide) rfl ?_
  refine px_iload (i := 4) C dX4_parseEntry_60 rfl ?_
  refine px_if_eq (tgt := 73) C dX4_parseEntry_62 (by decide) (fun c39 => ?_) (fun c39 => ?_)
  · replace hk := hk.1 c39
    refine px_iconst (v := (-1 : Int32)) C dX4_parseEntry_73 rfl ?_
    exact PW_at (w4_parseEntry_b74_ok C hRt hHR hnT hk) (And.intro rfl (And.intro rfl (And.intro rfl (And.intro rfl (And.intro rfl trivial))))) (Nat.le_of_ble_eq_true rfl) (Nat.le_of_ble_eq_true rfl)
  · replace hk := hk.2 c39
    refine px_aload_n (i := 0) C dX4_parseEntry_65 rfl rfl ?_
    refine px_iconst (v := (2 : Int32)) C dX4_parseEntry_66 rfl ?_
    refine px_callVi (h := 2) (rc' := 0) (rs' := 0) C (HR_le hHR (Nat.le_of_ble_eq_true rfl)) hRt hnT dX4_parseEntry_67 (gw6 151 rfl rfl) mv_X4_takeNumber (w4_takeNumber_ok (PCx_l C) (PCx_I C) hk) rfl rfl rfl rfl rfl (Nat.le_of_ble_eq_true rfl) (Nat.le_of_ble_eq_true rfl) (Nat.le_of_ble_eq_true rfl) (Nat.le_of_ble_eq_true rfl) ?_
    intro r38 μ37 hk
    refine px_goto (tgt := 74) C dX4_parseEntry_70 (by decide) ?_
    exact PW_at (w4_parseEntry_b74_ok C hRt hHR hnT hk) (And.intro rfl (And.intro rfl (And.intro rfl (And.intro rfl (And.intro rfl trivial))))) (Nat.le_of_ble_eq_true rfl) (Nat.le_of_ble_eq_true rfl)
set_option maxRecDepth 100000 in
set_option maxHeartbeats 4000000 in
theorem w4_parseEntry_ok {l : Launch} {idx : List (Nat × Nat)} {μ : Mem} {k1 : Nat} {P : Int32 → Mem → Prop} {X : String → Mem → Prop} (hl : l.stackTraces = false) (hI : IdxOK idx) (hk : w4_parseEntry_wp μ k1 P) : PMet l yX4_parseEntry (.code yX4_parseEntry cX4_parseEntry 10 (some .boolean)) 3 0 0 idx [pR 38 0, pR 0 k1] μ (qI P) X := by
  refine PMet_of mv_X4_parseEntry.2.2.2.2.2.2 hl hI mv_X4_parseEntry.2.2.2.1 rfl (Nat.le_of_ble_eq_true rfl) (fun G _ _ C hRt hHR hnT => ?_)
  show PW G 0 0 0 [some (pR 38 0), some (pR 0 k1), none, none, none, none, none, none, none, none] [] μ
  unfold w4_parseEntry_wp at hk
  refine px_aload_n (i := 0) C dX4_parseEntry_0 rfl rfl ?_
  refine px_iconst (v := (3 : Int32)) C dX4_parseEntry_1 rfl ?_
  refine px_callVi (h := 1) (rc' := 0) (rs' := 0) C (HR_le hHR (Nat.le_of_ble_eq_true rfl)) hRt hnT dX4_parseEntry_2 (gw6 143 rfl rfl) mv_X4_takeDigit (w4_takeDigit_ok (PCx_l C) (PCx_I C) hk) rfl rfl rfl rfl rfl (Nat.le_of_ble_eq_true rfl) (Nat.le_of_ble_eq_true rfl) (Nat.le_of_ble_eq_true rfl) (Nat.le_of_ble_eq_true rfl) ?_
  intro r2 μ1 hk
  refine px_istore_n (i := 2) C dX4_parseEntry_5 rfl (by decide) rfl ?_
  refine px_iload_n (i := 2) C dX4_parseEntry_6 rfl rfl ?_
  refine px_iconst (v := (-1 : Int32)) C dX4_parseEntry_7 rfl ?_
  refine px_icmp_eq (tgt := 20) C dX4_parseEntry_8 (by decide) (fun c44 => ?_) (fun c44 => ?_)
  · replace hk := hk.1 c44
    refine px_iconst (v := (0 : Int32)) C dX4_parseEntry_20 rfl ?_
    exact px_iret C hRt dX4_parseEntry_21 rfl rfl hk
  · replace hk := hk.2 c44
    refine px_aload_n (i := 0) C dX4_parseEntry_11 rfl rfl ?_
    refine px_bipush (v := (47 : Int32)) C dX4_parseEntry_12 rfl ?_
    refine px_callVi (h := 1) (rc' := 0) (rs' := 0) C (HR_le hHR (Nat.le_of_ble_eq_true rfl)) hRt hnT dX4_parseEntry_14 (gw6 147 rfl rfl) mv_X4_take (w4_take_ok (PCx_l C) (PCx_I C) hk) rfl rfl rfl rfl rfl (Nat.le_of_ble_eq_true rfl) (Nat.le_of_ble_eq_true rfl) (Nat.le_of_ble_eq_true rfl) (Nat.le_of_ble_eq_true rfl) ?_
    intro r4 μ3 hk
    refine px_if_ne (tgt := 22) C dX4_parseEntry_17 (by decide) (fun c43 => ?_) (fun c43 => ?_)
    · replace hk := hk.1 c43
      refine px_aload_n (i := 0) C dX4_parseEntry_22 rfl rfl ?_
      refine px_iconst (v := (2 : Int32)) C dX4_parseEntry_23 rfl ?_
      refine px_callVi (h := 2) (rc' := 0) (rs' := 0) C (HR_le hHR (Nat.le_of_ble_eq_true rfl)) hRt hnT dX4_parseEntry_24 (gw6 151 rfl rfl) mv_X4_takeNumber (w4_takeNumber_ok (PCx_l C) (PCx_I C) hk) rfl rfl rfl rfl rfl (Nat.le_of_ble_eq_true rfl) (Nat.le_of_ble_eq_true rfl) (Nat.le_of_ble_eq_true rfl) (Nat.le_of_ble_eq_true rfl) ?_
      intro r6 μ5 hk
      refine px_istore_n (i := 3) C dX4_parseEntry_27 rfl (by decide) rfl ?_
      refine px_iload_n (i := 3) C dX4_parseEntry_28 rfl rfl ?_
      refine px_iconst (v := (-1 : Int32)) C dX4_parseEntry_29 rfl ?_
      refine px_icmp_eq (tgt := 42) C dX4_parseEntry_30 (by decide) (fun c42 => ?_) (fun c42 => ?_)
      · replace hk := hk.1 c42
        refine px_iconst (v := (0 : Int32)) C dX4_parseEntry_42 rfl ?_
        exact px_iret C hRt dX4_parseEntry_43 rfl rfl hk
      · replace hk := hk.2 c42
        refine px_aload_n (i := 0) C dX4_parseEntry_33 rfl rfl ?_
        refine px_bipush (v := (60 : Int32)) C dX4_parseEntry_34 rfl ?_
        refine px_callVi (h := 1) (rc' := 0) (rs' := 0) C (HR_le hHR (Nat.le_of_ble_eq_true rfl)) hRt hnT dX4_parseEntry_36 (gw6 147 rfl rfl) mv_X4_take (w4_take_ok (PCx_l C) (PCx_I C) hk) rfl rfl rfl rfl rfl (Nat.le_of_ble_eq_true rfl) (Nat.le_of_ble_eq_true rfl) (Nat.le_of_ble_eq_true rfl) (Nat.le_of_ble_eq_true rfl) ?_
        intro r8 μ7 hk
        refine px_if_ne (tgt := 44) C dX4_parseEntry_39 (by decide) (fun c41 => ?_) (fun c41 => ?_)
        · replace hk := hk.1 c41
          refine px_aload_n (i := 0) C dX4_parseEntry_44 rfl rfl ?_
          refine px_bipush (v := (45 : Int32)) C dX4_parseEntry_45 rfl ?_
          refine px_callVi (h := 1) (rc' := 0) (rs' := 0) C (HR_le hHR (Nat.le_of_ble_eq_true rfl)) hRt hnT dX4_parseEntry_47 (gw6 147 rfl rfl) mv_X4_take (w4_take_ok (PCx_l C) (PCx_I C) hk) rfl rfl rfl rfl rfl (Nat.le_of_ble_eq_true rfl) (Nat.le_of_ble_eq_true rfl) (Nat.le_of_ble_eq_true rfl) (Nat.le_of_ble_eq_true rfl) ?_
          intro r10 μ9 hk
          refine px_if_ne (tgt := 57) C dX4_parseEntry_50 (by decide) (fun c40 => ?_) (fun c40 => ?_)
          · replace hk := hk.1 c40
            refine px_iconst (v := (0 : Int32)) C dX4_parseEntry_57 rfl ?_
            exact PW_at (w4_parseEntry_b58_ok C hRt hHR hnT hk) (And.intro rfl (And.intro rfl (And.intro rfl (And.intro rfl trivial)))) (Nat.le_of_ble_eq_true rfl) (Nat.le_of_ble_eq_true rfl)
          · replace hk := hk.2 c40
            refine px_iconst (v := (1 : Int32)) C dX4_parseEntry_53 rfl ?_
            refine px_goto (tgt := 58) C dX4_parseEntry_54 (by decide) ?_
            exact PW_at (w4_parseEntry_b58_ok C hRt hHR hnT hk) (And.intro rfl (And.intro rfl (And.intro rfl (And.intro rfl trivial)))) (Nat.le_of_ble_eq_true rfl) (Nat.le_of_ble_eq_true rfl)
        · replace hk := hk.2 c41
          refine px_iconst (v := (0 : Int32)) C dX4_parseEntry_42 rfl ?_
          exact px_iret C hRt dX4_parseEntry_43 rfl rfl hk
    · replace hk := hk.2 c43
      refine px_iconst (v := (0 : Int32)) C dX4_parseEntry_20 rfl ?_
      exact px_iret C hRt dX4_parseEntry_21 rfl rfl hk
theorem dX5_goBack_0 : decode cX5_goBack 0 = .ok (.aload_n 0, 1) := by decide +kernel
theorem dX5_goBack_1 : decode cX5_goBack 1 = .ok (.getfield 31, 3) := by decide +kernel
theorem dX5_goBack_4 : decode cX5_goBack 4 = .ok (.iload_n 1, 1) := by decide +kernel
theorem dX5_goBack_5 : decode cX5_goBack 5 = .ok (.invokestatic 65, 3) := by decide +kernel
theorem dX5_goBack_8 : decode cX5_goBack 8 = .ok (.istore_n 2, 1) := by decide +kernel
theorem dX5_goBack_9 : decode cX5_goBack 9 = .ok (.aload_n 0, 1) := by decide +kernel
theorem dX5_goBack_10 : decode cX5_goBack 10 = .ok (.getfield 34, 3) := by decide +kernel
theorem dX5_goBack_13 : decode cX5_goBack 13 = .ok (.iload_n 1, 1) := by decide +kernel
theorem dX5_goBack_14 : decode cX5_goBack 14 = .ok (.invokestatic 65, 3) := by decide +kernel
theorem dX5_goBack_17 : decode cX5_goBack 17 = .ok (.istore_n 3, 1) := by decide +kernel
theorem dX5_goBack_18 : decode cX5_goBack 18 = .ok (.aload_n 0, 1) := by decide +kernel
theorem dX5_goBack_19 : decode cX5_goBack 19 = .ok (.getfield 37, 3) := by decide +kernel
theorem dX5_goBack_22 : decode cX5_goBack 22 = .ok (.iload_n 1, 1) := by decide +kernel
theorem dX5_goBack_23 : decode cX5_goBack 23 = .ok (.invokestatic 65, 3) := by decide +kernel
theorem dX5_goBack_26 : decode cX5_goBack 26 = .ok (.istore 4, 2) := by decide +kernel
theorem dX5_goBack_28 : decode cX5_goBack 28 = .ok (.aload_n 0, 1) := by decide +kernel
theorem dX5_goBack_29 : decode cX5_goBack 29 = .ok (.iload_n 2, 1) := by decide +kernel
theorem dX5_goBack_30 : decode cX5_goBack 30 = .ok (.iload_n 3, 1) := by decide +kernel
theorem dX5_goBack_31 : decode cX5_goBack 31 = .ok (.iload 4, 2) := by decide +kernel
theorem dX5_goBack_33 : decode cX5_goBack 33 = .ok (.invokevirtual 77, 3) := by decide +kernel
theorem dX5_goBack_36 : decode cX5_goBack 36 = .ok (.istore 5, 2) := by decide +kernel
theorem dX5_goBack_38 : decode cX5_goBack 38 = .ok (.iload 5, 2) := by decide +kernel
theorem dX5_goBack_40 : decode cX5_goBack 40 = .ok (.iconst (-1), 1) := by decide +kernel
theorem dX5_goBack_41 : decode cX5_goBack 41 = .ok (.if_icmp .ne 21, 3) := by decide +kernel
theorem dX5_goBack_44 : decode cX5_goBack 44 = .ok (.aload_n 0, 1) := by decide +kernel
theorem dX5_goBack_45 : decode cX5_goBack 45 = .ok (.iload_n 2, 1) := by decide +kernel
theorem dX5_goBack_46 : decode cX5_goBack 46 = .ok (.iload_n 3, 1) := by decide +kernel
theorem dX5_goBack_47 : decode cX5_goBack 47 = .ok (.iload 4, 2) := by decide +kernel
theorem dX5_goBack_49 : decode cX5_goBack 49 = .ok (.invokevirtual 81, 3) := by decide +kernel
theorem dX5_goBack_52 : decode cX5_goBack 52 = .ok (.aload_n 0, 1) := by decide +kernel
theorem dX5_goBack_53 : decode cX5_goBack 53 = .ok (.getfield 37, 3) := by decide +kernel
theorem dX5_goBack_56 : decode cX5_goBack 56 = .ok (.iload_n 1, 1) := by decide +kernel
theorem dX5_goBack_57 : decode cX5_goBack 57 = .ok (.iload_n 3, 1) := by decide +kernel
theorem dX5_goBack_58 : decode cX5_goBack 58 = .ok (.invokestatic 73, 3) := by decide +kernel
theorem dX5_goBack_61 : decode cX5_goBack 61 = .ok (.return_, 1) := by decide +kernel
theorem dX5_goBack_62 : decode cX5_goBack 62 = .ok (.aload_n 0, 1) := by decide +kernel
theorem dX5_goBack_63 : decode cX5_goBack 63 = .ok (.getfield 44, 3) := by decide +kernel
theorem dX5_goBack_66 : decode cX5_goBack 66 = .ok (.getfield 84, 3) := by decide +kernel
theorem dX5_goBack_69 : decode cX5_goBack 69 = .ok (.iload 5, 2) := by decide +kernel
theorem dX5_goBack_71 : decode cX5_goBack 71 = .ok (.invokestatic 65, 3) := by decide +kernel
theorem dX5_goBack_74 : decode cX5_goBack 74 = .ok (.iload_n 3, 1) := by decide +kernel
theorem dX5_goBack_75 : decode cX5_goBack 75 = .ok (.invokestatic 85, 3) := by decide +kernel
theorem dX5_goBack_78 : decode cX5_goBack 78 = .ok (.istore 6, 2) := by decide +kernel
theorem dX5_goBack_80 : decode cX5_goBack 80 = .ok (.aload_n 0, 1) := by decide +kernel
theorem dX5_goBack_81 : decode cX5_goBack 81 = .ok (.getfield 44, 3) := by decide +kernel
theorem dX5_goBack_84 : decode cX5_goBack 84 = .ok (.getfield 90, 3) := by decide +kernel
theorem dX5_goBack_87 : decode cX5_goBack 87 = .ok (.iload 5, 2) := by decide +kernel
theorem dX5_goBack_89 : decode cX5_goBack 89 = .ok (.invokestatic 65, 3) := by decide +kernel
theorem dX5_goBack_92 : decode cX5_goBack 92 = .ok (.iload 4, 2) := by decide +kernel
theorem dX5_goBack_94 : decode cX5_goBack 94 = .ok (.invokestatic 91, 3) := by decide +kernel
theorem dX5_goBack_97 : decode cX5_goBack 97 = .ok (.istore 7, 2) := by decide +kernel
theorem dX5_goBack_99 : decode cX5_goBack 99 = .ok (.iload 7, 2) := by decide +kernel
theorem dX5_goBack_101 : decode cX5_goBack 101 = .ok (.iload 4, 2) := by decide +kernel
theorem dX5_goBack_103 : decode cX5_goBack 103 = .ok (.if_icmp .ge 12, 3) := by decide +kernel
theorem dX5_goBack_106 : decode cX5_goBack 106 = .ok (.aload_n 0, 1) := by decide +kernel
theorem dX5_goBack_107 : decode cX5_goBack 107 = .ok (.iload_n 2, 1) := by decide +kernel
theorem dX5_goBack_108 : decode cX5_goBack 108 = .ok (.iload 7, 2) := by decide +kernel
theorem dX5_goBack_110 : decode cX5_goBack 110 = .ok (.iload 4, 2) := by decide +kernel
theorem dX5_goBack_112 : decode cX5_goBack 112 = .ok (.invokevirtual 81, 3) := by decide +kernel
theorem dX5_goBack_115 : decode cX5_goBack 115 = .ok (.aload_n 0, 1) := by decide +kernel
theorem dX5_goBack_116 : decode cX5_goBack 116 = .ok (.getfield 37, 3) := by decide +kernel
theorem dX5_goBack_119 : decode cX5_goBack 119 = .ok (.iload_n 1, 1) := by decide +kernel
theorem dX5_goBack_120 : decode cX5_goBack 120 = .ok (.iload 6, 2) := by decide +kernel
theorem dX5_goBack_122 : decode cX5_goBack 122 = .ok (.invokestatic 73, 3) := by decide +kernel
theorem dX5_goBack_125 : decode cX5_goBack 125 = .ok (.aload_n 0, 1) := by decide +kernel
theorem dX5_goBack_126 : decode cX5_goBack 126 = .ok (.aload_n 0, 1) := by decide +kernel
theorem dX5_goBack_127 : decode cX5_goBack 127 = .ok (.getfield 40, 3) := by decide +kernel
theorem dX5_goBack_130 : decode cX5_goBack 130 = .ok (.getfield 94, 3) := by decide +kernel
theorem dX5_goBack_133 : decode cX5_goBack 133 = .ok (.iload 5, 2) := by decide +kernel
theorem dX5_goBack_135 : decode cX5_goBack 135 = .ok (.invokestatic 65, 3) := by decide +kernel
theorem dX5_goBack_138 : decode cX5_goBack 138 = .ok (.iload 6, 2) := by decide +kernel
theorem dX5_goBack_140 : decode cX5_goBack 140 = .ok (.iload 7, 2) := by decide +kernel
theorem dX5_goBack_142 : decode cX5_goBack 142 = .ok (.invokevirtual 57, 3) := by decide +kernel
theorem dX5_goBack_145 : decode cX5_goBack 145 = .ok (.return_, 1) := by decide +kernel
set_option maxRecDepth 100000 in
set_option maxHeartbeats 4000000 in
theorem w5_goBack_b115_ok {G : GT} {P : Mem → Prop} {X : String → Mem → Prop} (C : PCx G cX5_goBack 8 RX5) (hRt : PRt G none (qV P) X) (hHR : HR G (3)) (hnT : NoT G) {μ : Mem} {l1 : Int32} {l5 : Int32} {l6 : Int32} {l7 : Int32} (hk : w5_goBack_b115 P μ l1 l5 l6 l7) : PW G 0 0 115 [some (pR 27 0), some (pI l1), none, none, none, some (pI l5), some (pI l6), some (pI l7)] [] μ := by
  unfold w5_goBack_b115 at hk
  refine px_aload_n (i := 0) C dX5_goBack_115 rfl rfl ?_
  refine px_getr C dX5_goBack_116 fl_RX5_37 rfl rfl rfl ?_
  refine px_iload_n (i := 1) C dX5_goBack_119 rfl rfl ?_
  refine px_iload (i := 6) C dX5_goBack_120 rfl ?_
  obtain ⟨o8, hk⟩ := hk
  replace hk := hk _ rfl
  refine px_callSNv (h := 0) (rc' := 0) (rs' := 0) C (HR_le hHR (Nat.le_of_ble_eq_true rfl)) hRt hnT dX5_goBack_122 (List.mem_append_right _ (List.mem_append_left _ (List.mem_of_getElem? (i := 18) rfl))) ms_X8_set (set_ok (j := 33) (q := 0) (n := 41) (loc := 2112) (PCx_l C) (PCx_I C) rfl rfl rfl o8) rfl rfl (Nat.le_of_ble_eq_true rfl) (Nat.le_of_ble_eq_true rfl) (Nat.le_of_ble_eq_true rfl) (Nat.le_of_ble_eq_true rfl) ?_
  rintro _ rfl
  refine px_aload_n (i := 0) C dX5_goBack_125 rfl rfl ?_
  refine px_aload_n (i := 0) C dX5_goBack_126 rfl rfl ?_
  refine px_getr C dX5_goBack_127 fl_RX5_40 rfl rfl rfl ?_
  refine px_getr C dX5_goBack_130 fl_RX5_94 rfl rfl rfl ?_
  refine px_iload (i := 5) C dX5_goBack_133 rfl ?_
  obtain ⟨o10, hk⟩ := hk
  refine px_callSNi (h := 0) (rc' := 0) (rs' := 0) C (HR_le hHR (Nat.le_of_ble_eq_true rfl)) hRt hnT dX5_goBack_135 (List.mem_append_right _ (List.mem_append_left _ (List.mem_of_getElem? (i := 19) rfl))) ms_X8_at (at_ok (j := 2) (q := 0) (n := 40) (loc := 128) (PCx_l C) (PCx_I C) rfl rfl rfl o10) rfl rfl (Nat.le_of_ble_eq_true rfl) (Nat.le_of_ble_eq_true rfl) (Nat.le_of_ble_eq_true rfl) (Nat.le_of_ble_eq_true rfl) ?_
  rintro _ _ ⟨rfl, rfl⟩
  refine px_iload (i := 6) C dX5_goBack_138 rfl ?_
  refine px_iload (i := 7) C dX5_goBack_140 rfl ?_
  refine px_callVv (h := 1) (rc' := 0) (rs' := 0) C (HR_le hHR (Nat.le_of_ble_eq_true rfl)) hRt hnT dX5_goBack_142 (gw5 9 rfl rfl) mv_X5_enter (w5_enter_ok (PCx_l C) (PCx_I C) hk) rfl rfl rfl rfl rfl (Nat.le_of_ble_eq_true rfl) (Nat.le_of_ble_eq_true rfl) (Nat.le_of_ble_eq_true rfl) (Nat.le_of_ble_eq_true rfl) ?_
  intro μ11 hk
  exact px_vret C hRt dX5_goBack_145 rfl hk
set_option maxRecDepth 100000 in
set_option maxHeartbeats 4000000 in
theorem w5_goBack_ok {l : Launch} {idx : List (Nat × Nat)} {μ : Mem} {a1 : Int32} {P : Mem → Prop} {X : String → Mem → Prop} (hl : l.stackTraces = false) (hI : IdxOK idx) (hk : w5_goBack_wp μ a1 P) : PMet l yX5_goBack (.code yX5_goBack cX5_goBack 8 none) 3 0 0 idx [pR 27 0, pI a1] μ (qV P) X := by
  refine PMet_of mv_X5_goBack.2.2.2.2.2.2 hl hI mv_X5_goBack.2.2.2.1 rfl (Nat.le_of_ble_eq_true rfl) (fun G _ _ C hRt hHR hnT => ?_)
  show PW G 0 0 0 [some (pR 27 0), some (pI a1), none, none, none, none, none, none] [] μ
  unfold w5_goBack_wp at hk
  refine px_aload_n (i := 0) C dX5_goBack_0 rfl rfl ?_
  refine px_getr C dX5_goBack_1 fl_RX5_31 rfl rfl rfl ?_
  refine px_iload_n (i := 1) C dX5_goBack_4 rfl rfl ?_
  obtain ⟨o1, hk⟩ := hk
  refine px_callSNi (h := 0) (rc' := 0) (rs' := 0) C (HR_le hHR (Nat.le_of_ble_eq_true rfl)) hRt hnT dX5_goBack_5 (List.mem_append_right _ (List.mem_append_left _ (List.mem_of_getElem? (i := 19) rfl))) ms_X8_at (at_ok (j := 31) (q := 0) (n := 41) (loc := 1984) (PCx_l C) (PCx_I C) rfl rfl rfl o1) rfl rfl (Nat.le_of_ble_eq_true rfl) (Nat.le_of_ble_eq_true rfl) (Nat.le_of_ble_eq_true rfl) (Nat.le_of_ble_eq_true rfl) ?_
  rintro _ _ ⟨rfl, rfl⟩
  refine px_istore_n (i := 2) C dX5_goBack_8 rfl (by decide) rfl ?_
  refine px_aload_n (i := 0) C dX5_goBack_9 rfl rfl ?_
  refine px_getr C dX5_goBack_10 fl_RX5_34 rfl rfl rfl ?_
  refine px_iload_n (i := 1) C dX5_goBack_13 rfl rfl ?_
  obtain ⟨o2, hk⟩ := hk
  refine px_callSNi (h := 0) (rc' := 0) (rs' := 0) C (HR_le hHR (Nat.le_of_ble_eq_true rfl)) hRt hnT dX5_goBack_14 (List.mem_append_right _ (List.mem_append_left _ (List.mem_of_getElem? (i := 19) rfl))) ms_X8_at (at_ok (j := 32) (q := 0) (n := 41) (loc := 2048) (PCx_l C) (PCx_I C) rfl rfl rfl o2) rfl rfl (Nat.le_of_ble_eq_true rfl) (Nat.le_of_ble_eq_true rfl) (Nat.le_of_ble_eq_true rfl) (Nat.le_of_ble_eq_true rfl) ?_
  rintro _ _ ⟨rfl, rfl⟩
  refine px_istore_n (i := 3) C dX5_goBack_17 rfl (by decide) rfl ?_
  refine px_aload_n (i := 0) C dX5_goBack_18 rfl rfl ?_
  refine px_getr C dX5_goBack_19 fl_RX5_37 rfl rfl rfl ?_
  refine px_iload_n (i := 1) C dX5_goBack_22 rfl rfl ?_
  obtain ⟨o3, hk⟩ := hk
  refine px_callSNi (h := 0) (rc' := 0) (rs' := 0) C (HR_le hHR (Nat.le_of_ble_eq_true rfl)) hRt hnT dX5_goBack_23 (List.mem_append_right _ (List.mem_append_left _ (List.mem_of_getElem? (i := 19) rfl))) ms_X8_at (at_ok (j := 33) (q := 0) (n := 41) (loc := 2112) (PCx_l C) (PCx_I C) rfl rfl rfl o3) rfl rfl (Nat.le_of_ble_eq_true rfl) (Nat.le_of_ble_eq_true rfl) (Nat.le_of_ble_eq_true rfl) (Nat.le_of_ble_eq_true rfl) ?_
  rintro _ _ ⟨rfl, rfl⟩
  refine px_istore (i := 4) C dX5_goBack_26 (by decide) rfl ?_
  refine px_aload_n (i := 0) C dX5_goBack_28 rfl rfl ?_
  refine px_iload_n (i := 2) C dX5_goBack_29 rfl rfl ?_
  refine px_iload_n (i := 3) C dX5_goBack_30 rfl rfl ?_
  refine px_iload (i := 4) C dX5_goBack_31 rfl ?_
  refine px_callVi (h := 2) (rc' := 0) (rs' := 0) C (HR_le hHR (Nat.le_of_ble_eq_true rfl)) hRt hnT dX5_goBack_33 (gw5 20 rfl rfl) mv_X5_latestChild (w5_latestChild_ok (PCx_l C) (PCx_I C) hk) rfl rfl rfl rfl rfl (Nat.le_of_ble_eq_true rfl) (Nat.le_of_ble_eq_true rfl) (Nat.le_of_ble_eq_true rfl) (Nat.le_of_ble_eq_true rfl) ?_
  intro r5 μ4 hk
  refine px_istore (i := 5) C dX5_goBack_36 (by decide) rfl ?_
  refine px_iload (i := 5) C dX5_goBack_38 rfl ?_
  refine px_iconst (v := (-1 : Int32)) C dX5_goBack_40 rfl ?_
  refine px_icmp_ne (tgt := 62) C dX5_goBack_41 (by decide) (fun c17 => ?_) (fun c17 => ?_)
  · replace hk := hk.1 c17
    refine px_aload_n (i := 0) C dX5_goBack_62 rfl rfl ?_
    refine px_getr C dX5_goBack_63 fl_RX5_44 rfl rfl rfl ?_
    refine px_getr C dX5_goBack_66 fl_RX5_84 rfl rfl rfl ?_
    refine px_iload (i := 5) C dX5_goBack_69 rfl ?_
    obtain ⟨o6, hk⟩ := hk
    refine px_callSNi (h := 0) (rc' := 0) (rs' := 0) C (HR_le hHR (Nat.le_of_ble_eq_true rfl)) hRt hnT dX5_goBack_71 (List.mem_append_right _ (List.mem_append_left _ (List.mem_of_getElem? (i := 19) rfl))) ms_X8_at (at_ok (j := 19) (q := 0) (n := 40) (loc := 1216) (PCx_l C) (PCx_I C) rfl rfl rfl o6) rfl rfl (Nat.le_of_ble_eq_true rfl) (Nat.le_of_ble_eq_true rfl) (Nat.le_of_ble_eq_true rfl) (Nat.le_of_ble_eq_true rfl) ?_
    rintro _ _ ⟨rfl, rfl⟩
    refine px_iload_n (i := 3) C dX5_goBack_74 rfl rfl ?_
    refine px_mmax C (HR_le hHR (Nat.le_of_ble_eq_true rfl)) dX5_goBack_75 (gw5 24 rfl rfl) math_max (Nat.le_of_ble_eq_true rfl) ?_
    refine px_istore (i := 6) C dX5_goBack_78 (by decide) rfl ?_
    refine px_aload_n (i := 0) C dX5_goBack_80 rfl rfl ?_
    refine px_getr C dX5_goBack_81 fl_RX5_44 rfl rfl rfl ?_
    refine px_getr C dX5_goBack_84 fl_RX5_90 rfl rfl rfl ?_
    refine px_iload (i := 5) C dX5_goBack_87 rfl ?_
    obtain ⟨o7, hk⟩ := hk
    refine px_callSNi (h := 0) (rc' := 0) (rs' := 0) C (HR_le hHR (Nat.le_of_ble_eq_true rfl)) hRt hnT dX5_goBack_89 (List.mem_append_right _ (List.mem_append_left _ (List.mem_of_getElem? (i := 19) rfl))) ms_X8_at (at_ok (j := 20) (q := 0) (n := 40) (loc := 1280) (PCx_l C) (PCx_I C) rfl rfl rfl o7) rfl rfl (Nat.le_of_ble_eq_true rfl) (Nat.le_of_ble_eq_true rfl) (Nat.le_of_ble_eq_true rfl) (Nat.le_of_ble_eq_true rfl) ?_
    rintro _ _ ⟨rfl, rfl⟩
    refine px_iload (i := 4) C dX5_goBack_92 rfl ?_
    refine px_mmin C (HR_le hHR (Nat.le_of_ble_eq_true rfl)) dX5_goBack_94 (gw5 25 rfl rfl) math_min (Nat.le_of_ble_eq_true rfl) ?_
    refine px_istore (i := 7) C dX5_goBack_97 (by decide) rfl ?_
    refine px_iload (i := 7) C dX5_goBack_99 rfl ?_
    refine px_iload (i := 4) C dX5_goBack_101 rfl ?_
    refine px_icmp_ge (tgt := 115) C dX5_goBack_103 (by decide) (fun c13 => ?_) (fun c13 => ?_)
    · replace hk := hk.1 c13
      exact PW_at (w5_goBack_b115_ok C hRt hHR hnT hk) (And.intro rfl (And.intro rfl (And.intro rfl (And.intro rfl (And.intro rfl trivial))))) (Nat.le_of_ble_eq_true rfl) (Nat.le_of_ble_eq_true rfl)
    · replace hk := hk.2 c13
      refine px_aload_n (i := 0) C dX5_goBack_106 rfl rfl ?_
      refine px_iload_n (i := 2) C dX5_goBack_107 rfl rfl ?_
      refine px_iload (i := 7) C dX5_goBack_108 rfl ?_
      refine px_iload (i := 4) C dX5_goBack_110 rfl ?_
      refine px_callVv (h := 1) (rc' := 0) (rs' := 0) C (HR_le hHR (Nat.le_of_ble_eq_true rfl)) hRt hnT dX5_goBack_112 (gw5 27 rfl rfl) mv_X5_record (w5_record_ok (PCx_l C) (PCx_I C) hk) rfl rfl rfl rfl rfl (Nat.le_of_ble_eq_true rfl) (Nat.le_of_ble_eq_true rfl) (Nat.le_of_ble_eq_true rfl) (Nat.le_of_ble_eq_true rfl) ?_
      intro μ12 hk
      exact PW_at (w5_goBack_b115_ok C hRt hHR hnT hk) (And.intro rfl (And.intro rfl (And.intro rfl (And.intro rfl (And.intro rfl trivial))))) (Nat.le_of_ble_eq_true rfl) (Nat.le_of_ble_eq_true rfl)
  · replace hk := hk.2 c17
    refine px_aload_n (i := 0) C dX5_goBack_44 rfl rfl ?_
    refine px_iload_n (i := 2) C dX5_goBack_45 rfl rfl ?_
    refine px_iload_n (i := 3) C dX5_goBack_46 rfl rfl ?_
    refine px_iload (i := 4) C dX5_goBack_47 rfl ?_
    refine px_callVv (h := 1) (rc' := 0) (rs' := 0) C (HR_le hHR (Nat.le_of_ble_eq_true rfl)) hRt hnT dX5_goBack_49 (gw5 27 rfl rfl) mv_X5_record (w5_record_ok (PCx_l C) (PCx_I C) hk) rfl rfl rfl rfl rfl (Nat.le_of_ble_eq_true rfl) (Nat.le_of_ble_eq_true rfl) (Nat.le_of_ble_eq_true rfl) (Nat.le_of_ble_eq_true rfl) ?_
    intro μ14 hk
    refine px_aload_n (i := 0) C dX5_goBack_52 rfl rfl ?_
    refine px_getr C dX5_goBack_53 fl_RX5_37 rfl rfl rfl ?_
    refine px_iload_n (i := 1) C dX5_goBack_56 rfl rfl ?_
    refine px_iload_n (i := 3) C dX5_goBack_57 rfl rfl ?_
    obtain ⟨o15, hk⟩ := hk
    replace hk := hk _ rfl
    refine px_callSNv (h := 0) (rc' := 0) (rs' := 0) C (HR_le hHR (Nat.le_of_ble_eq_true rfl)) hRt hnT dX5_goBack_58 (List.mem_append_right _ (List.mem_append_left _ (List.mem_of_getElem? (i := 18) rfl))) ms_X8_set (set_ok (j := 33) (q := 0) (n := 41) (loc := 2112) (PCx_l C) (PCx_I C) rfl rfl rfl o15) rfl rfl (Nat.le_of_ble_eq_true rfl) (Nat.le_of_ble_eq_true rfl) (Nat.le_of_ble_eq_true rfl) (Nat.le_of_ble_eq_true rfl) ?_
    rintro _ rfl
    exact px_vret C hRt dX5_goBack_61 rfl hk
theorem dX7_copyFrom_0 : decode cX7_copyFrom 0 = .ok (.aload_n 0, 1) := by decide +kernel
theorem dX7_copyFrom_1 : decode cX7_copyFrom 1 = .ok (.iconst 0, 1) := by decide +kernel
theorem dX7_copyFrom_2 : decode cX7_copyFrom 2 = .ok (.putfield 9, 3) := by decide +kernel
theorem dX7_copyFrom_5 : decode cX7_copyFrom 5 = .ok (.iconst 0, 1) := by decide +kernel
theorem dX7_copyFrom_6 : decode cX7_copyFrom 6 = .ok (.istore_n 2, 1) := by decide +kernel
theorem dX7_copyFrom_7 : decode cX7_copyFrom 7 = .ok (.iload_n 2, 1) := by decide +kernel
theorem dX7_copyFrom_8 : decode cX7_copyFrom 8 = .ok (.aload_n 1, 1) := by decide +kernel
theorem dX7_copyFrom_9 : decode cX7_copyFrom 9 = .ok (.getfield 9, 3) := by decide +kernel
theorem dX7_copyFrom_12 : decode cX7_copyFrom 12 = .ok (.if_icmp .ge 15, 3) := by decide +kernel
theorem dX7_copyFrom_15 : decode cX7_copyFrom 15 = .ok (.aload_n 0, 1) := by decide +kernel
theorem dX7_copyFrom_16 : decode cX7_copyFrom 16 = .ok (.aload_n 1, 1) := by decide +kernel
theorem dX7_copyFrom_17 : decode cX7_copyFrom 17 = .ok (.iload_n 2, 1) := by decide +kernel
theorem dX7_copyFrom_18 : decode cX7_copyFrom 18 = .ok (.invokevirtual 47, 3) := by decide +kernel
theorem dX7_copyFrom_21 : decode cX7_copyFrom 21 = .ok (.iinc 2 1, 3) := by decide +kernel
theorem dX7_copyFrom_24 : decode cX7_copyFrom 24 = .ok (.goto (-17), 3) := by decide +kernel
theorem dX7_copyFrom_27 : decode cX7_copyFrom 27 = .ok (.aload_n 0, 1) := by decide +kernel
theorem dX7_copyFrom_28 : decode cX7_copyFrom 28 = .ok (.iconst 0, 1) := by decide +kernel
theorem dX7_copyFrom_29 : decode cX7_copyFrom 29 = .ok (.putfield 15, 3) := by decide +kernel
theorem dX7_copyFrom_32 : decode cX7_copyFrom 32 = .ok (.iconst 0, 1) := by decide +kernel
theorem dX7_copyFrom_33 : decode cX7_copyFrom 33 = .ok (.istore_n 2, 1) := by decide +kernel
theorem dX7_copyFrom_34 : decode cX7_copyFrom 34 = .ok (.iload_n 2, 1) := by decide +kernel
theorem dX7_copyFrom_35 : decode cX7_copyFrom 35 = .ok (.aload_n 1, 1) := by decide +kernel
theorem dX7_copyFrom_36 : decode cX7_copyFrom 36 = .ok (.getfield 15, 3) := by decide +kernel
theorem dX7_copyFrom_39 : decode cX7_copyFrom 39 = .ok (.if_icmp .ge 29, 3) := by decide +kernel
theorem dX7_copyFrom_42 : decode cX7_copyFrom 42 = .ok (.aload_n 0, 1) := by decide +kernel
theorem dX7_copyFrom_43 : decode cX7_copyFrom 43 = .ok (.aload_n 1, 1) := by decide +kernel
theorem dX7_copyFrom_44 : decode cX7_copyFrom 44 = .ok (.getfield 41, 3) := by decide +kernel
theorem dX7_copyFrom_47 : decode cX7_copyFrom 47 = .ok (.iload_n 2, 1) := by decide +kernel
theorem dX7_copyFrom_48 : decode cX7_copyFrom 48 = .ok (.invokestatic 51, 3) := by decide +kernel
theorem dX7_copyFrom_51 : decode cX7_copyFrom 51 = .ok (.aload_n 1, 1) := by decide +kernel
theorem dX7_copyFrom_52 : decode cX7_copyFrom 52 = .ok (.getfield 44, 3) := by decide +kernel
theorem dX7_copyFrom_55 : decode cX7_copyFrom 55 = .ok (.iload_n 2, 1) := by decide +kernel
theorem dX7_copyFrom_56 : decode cX7_copyFrom 56 = .ok (.invokestatic 51, 3) := by decide +kernel
theorem dX7_copyFrom_59 : decode cX7_copyFrom 59 = .ok (.invokevirtual 55, 3) := by decide +kernel
theorem dX7_copyFrom_62 : decode cX7_copyFrom 62 = .ok (.iinc 2 1, 3) := by decide +kernel
theorem dX7_copyFrom_65 : decode cX7_copyFrom 65 = .ok (.goto (-31), 3) := by decide +kernel
theorem dX7_copyFrom_68 : decode cX7_copyFrom 68 = .ok (.return_, 1) := by decide +kernel
set_option maxRecDepth 100000 in
set_option maxHeartbeats 4000000 in
theorem w7_copyFrom_b34_ok {G : GT} {k : Nat} {k1 : Nat} {P : Mem → Prop} {X : String → Mem → Prop} (C : PCx G cX7_copyFrom 3 RX7) (hRt : PRt G none (qV P) X) (hHR : HR G (3)) (hnT : NoT G) {μ : Mem} {l2 : Int32} (hk : w7_copyFrom_b34 k k1 P μ l2) : PW G 0 0 34 [some (pR 0 k), some (pR 0 k1), some (pI l2)] [] μ := by
  refine hk (fun (μ : Mem) (l2 : Int32) => PW G 0 0 34 [some (pR 0 k), some (pR 0 k1), some (pI l2)] [] μ) (fun (μ : Mem) l2 hk => ?_)
  have hR34 : ∀ (μ : Mem) (l2 : Int32), PW G 0 0 34 [some (pR 0 k), some (pR 0 k1), some (pI l2)] [] μ → PW G 0 0 34 [some (pR 0 k), some (pR 0 k1), some (pI l2)] [] μ := fun _ _ h => h
  unfold w7_copyFrom_b34_body at hk
  refine px_iload_n (i := 2) C dX7_copyFrom_34 rfl rfl ?_
  refine px_aload_n (i := 1) C dX7_copyFrom_35 rfl rfl ?_
  refine px_geti 2 C dX7_copyFrom_36 fl_RX7_15 rfl rfl rfl rfl ?_
  refine px_icmp_ge (tgt := 68) C dX7_copyFrom_39 (by decide) (fun c6 => ?_) (fun c6 => ?_)
  · replace hk := hk.1 c6
    exact px_vret C hRt dX7_copyFrom_68 rfl hk
  · replace hk := hk.2 c6
    refine px_aload_n (i := 0) C dX7_copyFrom_42 rfl rfl ?_
    refine px_aload_n (i := 1) C dX7_copyFrom_43 rfl rfl ?_
    refine px_getr C dX7_copyFrom_44 fl_RX7_41 rfl rfl rfl ?_
    refine px_iload_n (i := 2) C dX7_copyFrom_47 rfl rfl ?_
    obtain ⟨o3, hk⟩ := hk
    refine px_callSNi (h := 0) (rc' := 0) (rs' := 0) C (HR_le hHR (Nat.le_of_ble_eq_true rfl)) hRt hnT dX7_copyFrom_48 (List.mem_append_right _ (List.mem_append_left _ (List.mem_of_getElem? (i := 3) rfl))) ms_X8_at (at_ok (j := 8) (q := k1) (n := 30) (loc := 512) (PCx_l C) (PCx_I C) rfl rfl rfl o3) rfl rfl (Nat.le_of_ble_eq_true rfl) (Nat.le_of_ble_eq_true rfl) (Nat.le_of_ble_eq_true rfl) (Nat.le_of_ble_eq_true rfl) ?_
    rintro _ _ ⟨rfl, rfl⟩
    refine px_aload_n (i := 1) C dX7_copyFrom_51 rfl rfl ?_
    refine px_getr C dX7_copyFrom_52 fl_RX7_44 rfl rfl rfl ?_
    refine px_iload_n (i := 2) C dX7_copyFrom_55 rfl rfl ?_
    obtain ⟨o4, hk⟩ := hk
    refine px_callSNi (h := 0) (rc' := 0) (rs' := 0) C (HR_le hHR (Nat.le_of_ble_eq_true rfl)) hRt hnT dX7_copyFrom_56 (List.mem_append_right _ (List.mem_append_left _ (List.mem_of_getElem? (i := 3) rfl))) ms_X8_at (at_ok (j := 9) (q := k1) (n := 30) (loc := 576) (PCx_l C) (PCx_I C) rfl rfl rfl o4) rfl rfl (Nat.le_of_ble_eq_true rfl) (Nat.le_of_ble_eq_true rfl) (Nat.le_of_ble_eq_true rfl) (Nat.le_of_ble_eq_true rfl) ?_
    rintro _ _ ⟨rfl, rfl⟩
    refine px_callVv (h := 1) (rc' := 0) (rs' := 0) C (HR_le hHR (Nat.le_of_ble_eq_true rfl)) hRt hnT dX7_copyFrom_59 (gw3 52 rfl rfl) mv_X7_keepLink (w7_keepLink_ok (PCx_l C) (PCx_I C) hk) rfl rfl rfl rfl rfl (Nat.le_of_ble_eq_true rfl) (Nat.le_of_ble_eq_true rfl) (Nat.le_of_ble_eq_true rfl) (Nat.le_of_ble_eq_true rfl) ?_
    intro μ5 hk
    refine px_iinc (i := 2) (v := (1 : Int32)) C dX7_copyFrom_62 rfl rfl (by decide) rfl ?_
    refine px_goto (tgt := 34) C dX7_copyFrom_65 (by decide) ?_
    exact PW_at (hR34 _ _ hk) (And.intro rfl (And.intro rfl (And.intro rfl trivial))) (Nat.le_of_ble_eq_true rfl) (Nat.le_of_ble_eq_true rfl)
set_option maxRecDepth 100000 in
set_option maxHeartbeats 4000000 in
theorem w7_copyFrom_b7_ok {G : GT} {k : Nat} {k1 : Nat} {P : Mem → Prop} {X : String → Mem → Prop} (C : PCx G cX7_copyFrom 3 RX7) (hRt : PRt G none (qV P) X) (hHR : HR G (3)) (hnT : NoT G) {μ : Mem} {l2 : Int32} (hk : w7_copyFrom_b7 k k1 P μ l2) : PW G 0 0 7 [some (pR 0 k), some (pR 0 k1), some (pI l2)] [] μ := by
  refine hk (fun (μ : Mem) (l2 : Int32) => PW G 0 0 7 [some (pR 0 k), some (pR 0 k1), some (pI l2)] [] μ) (fun (μ : Mem) l2 hk => ?_)
  have hR7 : ∀ (μ : Mem) (l2 : Int32), PW G 0 0 7 [some (pR 0 k), some (pR 0 k1), some (pI l2)] [] μ → PW G 0 0 7 [some (pR 0 k), some (pR 0 k1), some (pI l2)] [] μ := fun _ _ h => h
  unfold w7_copyFrom_b7_body at hk
  refine px_iload_n (i := 2) C dX7_copyFrom_7 rfl rfl ?_
  refine px_aload_n (i := 1) C dX7_copyFrom_8 rfl rfl ?_
  refine px_geti 1 C dX7_copyFrom_9 fl_RX7_9 rfl rfl rfl rfl ?_
  refine px_icmp_ge (tgt := 27) C dX7_copyFrom_12 (by decide) (fun c8 => ?_) (fun c8 => ?_)
  · replace hk := hk.1 c8
    refine px_aload_n (i := 0) C dX7_copyFrom_27 rfl rfl ?_
    refine px_iconst (v := (0 : Int32)) C dX7_copyFrom_28 rfl ?_
    replace hk := hk _ rfl
    refine px_puti 2 C dX7_copyFrom_29 fp_RX7_15 rfl rfl rfl rfl rfl rfl ?_
    refine px_iconst (v := (0 : Int32)) C dX7_copyFrom_32 rfl ?_
    refine px_istore_n (i := 2) C dX7_copyFrom_33 rfl (by decide) rfl ?_
    exact PW_at (w7_copyFrom_b34_ok C hRt hHR hnT hk) (And.intro rfl (And.intro rfl (And.intro rfl trivial))) (Nat.le_of_ble_eq_true rfl) (Nat.le_of_ble_eq_true rfl)
  · replace hk := hk.2 c8
    refine px_aload_n (i := 0) C dX7_copyFrom_15 rfl rfl ?_
    refine px_aload_n (i := 1) C dX7_copyFrom_16 rfl rfl ?_
    refine px_iload_n (i := 2) C dX7_copyFrom_17 rfl rfl ?_
    refine px_callVv (h := 2) (rc' := 0) (rs' := 0) C (HR_le hHR (Nat.le_of_ble_eq_true rfl)) hRt hnT dX7_copyFrom_18 (gw3 40 rfl rfl) mv_X7_keepCopy (w7_keepCopy_ok (PCx_l C) (PCx_I C) hk) rfl rfl rfl rfl rfl (Nat.le_of_ble_eq_true rfl) (Nat.le_of_ble_eq_true rfl) (Nat.le_of_ble_eq_true rfl) (Nat.le_of_ble_eq_true rfl) ?_
    intro μ7 hk
    refine px_iinc (i := 2) (v := (1 : Int32)) C dX7_copyFrom_21 rfl rfl (by decide) rfl ?_
    refine px_goto (tgt := 7) C dX7_copyFrom_24 (by decide) ?_
    exact PW_at (hR7 _ _ hk) (And.intro rfl (And.intro rfl (And.intro rfl trivial))) (Nat.le_of_ble_eq_true rfl) (Nat.le_of_ble_eq_true rfl)
set_option maxRecDepth 100000 in
set_option maxHeartbeats 4000000 in
theorem w7_copyFrom_ok {l : Launch} {idx : List (Nat × Nat)} {μ : Mem} {k : Nat} {k1 : Nat} {P : Mem → Prop} {X : String → Mem → Prop} (hl : l.stackTraces = false) (hI : IdxOK idx) (hk : w7_copyFrom_wp μ k k1 P) : PMet l yX7_copyFrom (.code yX7_copyFrom cX7_copyFrom 3 none) 3 0 0 idx [pR 0 k, pR 0 k1] μ (qV P) X := by
  refine PMet_of mv_X7_copyFrom.2.2.2.2.2.2 hl hI mv_X7_copyFrom.2.2.2.1 rfl (Nat.le_of_ble_eq_true rfl) (fun G _ _ C hRt hHR hnT => ?_)
  show PW G 0 0 0 [some (pR 0 k), some (pR 0 k1), none] [] μ
  unfold w7_copyFrom_wp at hk
  refine px_aload_n (i := 0) C dX7_copyFrom_0 rfl rfl ?_
  refine px_iconst (v := (0 : Int32)) C dX7_copyFrom_1 rfl ?_
  replace hk := hk _ rfl
  refine px_puti 1 C dX7_copyFrom_2 fp_RX7_9 rfl rfl rfl rfl rfl rfl ?_
  refine px_iconst (v := (0 : Int32)) C dX7_copyFrom_5 rfl ?_
  refine px_istore_n (i := 2) C dX7_copyFrom_6 rfl (by decide) rfl ?_
  exact PW_at (w7_copyFrom_b7_ok C hRt hHR hnT hk) (And.intro rfl (And.intro rfl (And.intro rfl trivial))) (Nat.le_of_ble_eq_true rfl) (Nat.le_of_ble_eq_true rfl)
theorem dX7_drop_0 : decode cX7_drop 0 = .ok (.iload_n 1, 1) := by decide +kernel
theorem dX7_drop_1 : decode cX7_drop 1 = .ok (.aload_n 0, 1) := by decide +kernel
theorem dX7_drop_2 : decode cX7_drop 2 = .ok (.getfield 9, 3) := by decide +kernel
theorem dX7_drop_5 : decode cX7_drop 5 = .ok (.invokestatic 59, 3) := by decide +kernel
theorem dX7_drop_8 : decode cX7_drop 8 = .ok (.ifCond .ne 4, 3) := by decide +kernel
theorem dX7_drop_11 : decode cX7_drop 11 = .ok (.return_, 1) := by decide +kernel
theorem dX7_drop_12 : decode cX7_drop 12 = .ok (.aload_n 0, 1) := by decide +kernel
theorem dX7_drop_13 : decode cX7_drop 13 = .ok (.aload_n 0, 1) := by decide +kernel
theorem dX7_drop_14 : decode cX7_drop 14 = .ok (.getfield 22, 3) := by decide +kernel
theorem dX7_drop_17 : decode cX7_drop 17 = .ok (.iload_n 1, 1) := by decide +kernel
theorem dX7_drop_18 : decode cX7_drop 18 = .ok (.invokestatic 51, 3) := by decide +kernel
theorem dX7_drop_21 : decode cX7_drop 21 = .ok (.invokevirtual 79, 3) := by decide +kernel
theorem dX7_drop_24 : decode cX7_drop 24 = .ok (.aload_n 0, 1) := by decide +kernel
theorem dX7_drop_25 : decode cX7_drop 25 = .ok (.getfield 9, 3) := by decide +kernel
theorem dX7_drop_28 : decode cX7_drop 28 = .ok (.istore_n 2, 1) := by decide +kernel
theorem dX7_drop_29 : decode cX7_drop 29 = .ok (.aload_n 0, 1) := by decide +kernel
theorem dX7_drop_30 : decode cX7_drop 30 = .ok (.iload_n 1, 1) := by decide +kernel
theorem dX7_drop_31 : decode cX7_drop 31 = .ok (.putfield 9, 3) := by decide +kernel
theorem dX7_drop_34 : decode cX7_drop 34 = .ok (.iload_n 1, 1) := by decide +kernel
theorem dX7_drop_35 : decode cX7_drop 35 = .ok (.iconst 1, 1) := by decide +kernel
theorem dX7_drop_36 : decode cX7_drop 36 = .ok (.iadd, 1) := by decide +kernel
theorem dX7_drop_37 : decode cX7_drop 37 = .ok (.istore_n 3, 1) := by decide +kernel
theorem dX7_drop_38 : decode cX7_drop 38 = .ok (.iload_n 3, 1) := by decide +kernel
theorem dX7_drop_39 : decode cX7_drop 39 = .ok (.iload_n 2, 1) := by decide +kernel
theorem dX7_drop_40 : decode cX7_drop 40 = .ok (.if_icmp .ge 15, 3) := by decide +kernel
theorem dX7_drop_43 : decode cX7_drop 43 = .ok (.aload_n 0, 1) := by decide +kernel
theorem dX7_drop_44 : decode cX7_drop 44 = .ok (.aload_n 0, 1) := by decide +kernel
theorem dX7_drop_45 : decode cX7_drop 45 = .ok (.iload_n 3, 1) := by decide +kernel
theorem dX7_drop_46 : decode cX7_drop 46 = .ok (.invokevirtual 47, 3) := by decide +kernel
theorem dX7_drop_49 : decode cX7_drop 49 = .ok (.iinc 3 1, 3) := by decide +kernel
theorem dX7_drop_52 : decode cX7_drop 52 = .ok (.goto (-14), 3) := by decide +kernel
theorem dX7_drop_55 : decode cX7_drop 55 = .ok (.return_, 1) := by decide +kernel
set_option maxRecDepth 100000 in
set_option maxHeartbeats 4000000 in
theorem w7_drop_b38_ok {G : GT} {k : Nat} {P : Mem → Prop} {X : String → Mem → Prop} (C : PCx G cX7_drop 4 RX7) (hRt : PRt G none (qV P) X) (hHR : HR G (3)) (hnT : NoT G) {μ : Mem} {l2 : Int32} {l3 : Int32} (hk : w7_drop_b38 k P μ l2 l3) : PW G 0 0 38 [some (pR 0 k), none, some (pI l2), some (pI l3)] [] μ := by
  refine hk (fun (μ : Mem) (l2 : Int32) (l3 : Int32) => PW G 0 0 38 [some (pR 0 k), none, some (pI l2), some (pI l3)] [] μ) (fun (μ : Mem) l2 l3 hk => ?_)
  have hR38 : ∀ (μ : Mem) (l2 : Int32) (l3 : Int32), PW G 0 0 38 [some (pR 0 k), none, some (pI l2), some (pI l3)] [] μ → PW G 0 0 38 [some (pR 0 k), none, some (pI l2), some (pI l3)] [] μ := fun _ _ _ h => h
  unfold w7_drop_b38_body at hk
  refine px_iload_n (i := 3) C dX7_drop_38 rfl rfl ?_
  refine px_iload_n (i := 2) C dX7_drop_39 rfl rfl ?_
  refine px_icmp_ge (tgt := 55) C dX7_drop_40 (by decide) (fun c7 => ?_) (fun c7 => ?_)
  · replace hk := hk.1 c7
    exact px_vret C hRt dX7_drop_55 rfl hk
  · replace hk := hk.2 c7
    refine px_aload_n (i := 0) C dX7_drop_43 rfl rfl ?_
    refine px_aload_n (i := 0) C dX7_drop_44 rfl rfl ?_
    refine px_iload_n (i := 3) C dX7_drop_45 rfl rfl ?_
    refine px_callVv (h := 2) (rc' := 0) (rs' := 0) C (HR_le hHR (Nat.le_of_ble_eq_true rfl)) hRt hnT dX7_drop_46 (gw3 40 rfl rfl) mv_X7_keepCopy (w7_keepCopy_ok (PCx_l C) (PCx_I C) hk) rfl rfl rfl rfl rfl (Nat.le_of_ble_eq_true rfl) (Nat.le_of_ble_eq_true rfl) (Nat.le_of_ble_eq_true rfl) (Nat.le_of_ble_eq_true rfl) ?_
    intro μ6 hk
    refine px_iinc (i := 3) (v := (1 : Int32)) C dX7_drop_49 rfl rfl (by decide) rfl ?_
    refine px_goto (tgt := 38) C dX7_drop_52 (by decide) ?_
    exact PW_at (hR38 _ _ _ hk) (And.intro rfl (And.intro rfl (And.intro rfl trivial))) (Nat.le_of_ble_eq_true rfl) (Nat.le_of_ble_eq_true rfl)
set_option maxRecDepth 100000 in
set_option maxHeartbeats 4000000 in
theorem w7_drop_ok {l : Launch} {idx : List (Nat × Nat)} {μ : Mem} {k : Nat} {a1 : Int32} {P : Mem → Prop} {X : String → Mem → Prop} (hl : l.stackTraces = false) (hI : IdxOK idx) (hk : w7_drop_wp μ k a1 P) : PMet l yX7_drop (.code yX7_drop cX7_drop 4 none) 3 0 0 idx [pR 0 k, pI a1] μ (qV P) X := by
  refine PMet_of mv_X7_drop.2.2.2.2.2.2 hl hI mv_X7_drop.2.2.2.1 rfl (Nat.le_of_ble_eq_true rfl) (fun G _ _ C hRt hHR hnT => ?_)
  show PW G 0 0 0 [some (pR 0 k), some (pI a1), none, none] [] μ
  unfold w7_drop_wp at hk
  refine px_iload_n (i := 1) C dX7_drop_0 rfl rfl ?_
  refine px_aload_n (i := 0) C dX7_drop_1 rfl rfl ?_
  refine px_geti 1 C dX7_drop_2 fl_RX7_9 rfl rfl rfl rfl ?_
  refine px_callSNi (h := 0) (rc' := 0) (rs' := 0) C (HR_le hHR (Nat.le_of_ble_eq_true rfl)) hRt hnT dX7_drop_5 (List.mem_append_right _ (List.mem_append_left _ (List.mem_of_getElem? (i := 12) rfl))) ms_X8_isWithin (w8_isWithin_ok (PCx_l C) (PCx_I C) hk) rfl rfl (Nat.le_of_ble_eq_true rfl) (Nat.le_of_ble_eq_true rfl) (Nat.le_of_ble_eq_true rfl) (Nat.le_of_ble_eq_true rfl) ?_
  intro r2 μ1 hk
  refine px_if_ne (tgt := 12) C dX7_drop_8 (by decide) (fun c8 => ?_) (fun c8 => ?_)
  · replace hk := hk.1 c8
    refine px_aload_n (i := 0) C dX7_drop_12 rfl rfl ?_
    refine px_aload_n (i := 0) C dX7_drop_13 rfl rfl ?_
    refine px_getr C dX7_drop_14 fl_RX7_22 rfl rfl rfl ?_
    refine px_iload_n (i := 1) C dX7_drop_17 rfl rfl ?_
    obtain ⟨o3, hk⟩ := hk
    refine px_callSNi (h := 0) (rc' := 0) (rs' := 0) C (HR_le hHR (Nat.le_of_ble_eq_true rfl)) hRt hnT dX7_drop_18 (List.mem_append_right _ (List.mem_append_left _ (List.mem_of_getElem? (i := 3) rfl))) ms_X8_at (at_ok (j := 2) (q := k) (n := 40) (loc := 128) (PCx_l C) (PCx_I C) rfl rfl rfl o3) rfl rfl (Nat.le_of_ble_eq_true rfl) (Nat.le_of_ble_eq_true rfl) (Nat.le_of_ble_eq_true rfl) (Nat.le_of_ble_eq_true rfl) ?_
    rintro _ _ ⟨rfl, rfl⟩
    refine px_callVv (h := 2) (rc' := 0) (rs' := 0) C (HR_le hHR (Nat.le_of_ble_eq_true rfl)) hRt hnT dX7_drop_21 (gw3 230 rfl rfl) mv_X7_dropLinksOf (w7_dropLinksOf_ok (PCx_l C) (PCx_I C) hk) rfl rfl rfl rfl rfl (Nat.le_of_ble_eq_true rfl) (Nat.le_of_ble_eq_true rfl) (Nat.le_of_ble_eq_true rfl) (Nat.le_of_ble_eq_true rfl) ?_
    intro μ4 hk
    refine px_aload_n (i := 0) C dX7_drop_24 rfl rfl ?_
    refine px_geti 1 C dX7_drop_25 fl_RX7_9 rfl rfl rfl rfl ?_
    refine px_istore_n (i := 2) C dX7_drop_28 rfl (by decide) rfl ?_
    refine px_aload_n (i := 0) C dX7_drop_29 rfl rfl ?_
    refine px_iload_n (i := 1) C dX7_drop_30 rfl rfl ?_
    replace hk := hk _ rfl
    refine px_puti 1 C dX7_drop_31 fp_RX7_9 rfl rfl rfl rfl rfl rfl ?_
    refine px_iload_n (i := 1) C dX7_drop_34 rfl rfl ?_
    refine px_iconst (v := (1 : Int32)) C dX7_drop_35 rfl ?_
    refine px_iadd C dX7_drop_36 ?_
    refine px_istore_n (i := 3) C dX7_drop_37 rfl (by decide) rfl ?_
    exact PW_at (w7_drop_b38_ok C hRt hHR hnT hk) (And.intro rfl (And.intro rfl (And.intro rfl trivial))) (Nat.le_of_ble_eq_true rfl) (Nat.le_of_ble_eq_true rfl)
  · replace hk := hk.2 c8
    exact px_vret C hRt dX7_drop_11 rfl hk
theorem dX8_quantile_0 : decode cX8_quantile 0 = .ok (.aload_n 0, 1) := by decide +kernel
theorem dX8_quantile_1 : decode cX8_quantile 1 = .ok (.iload_n 1, 1) := by decide +kernel
theorem dX8_quantile_2 : decode cX8_quantile 2 = .ok (.invokevirtual 194, 3) := by decide +kernel
theorem dX8_quantile_5 : decode cX8_quantile 5 = .ok (.iload_n 2, 1) := by decide +kernel
theorem dX8_quantile_6 : decode cX8_quantile 6 = .ok (.bipush 101, 2) := by decide +kernel
theorem dX8_quantile_8 : decode cX8_quantile 8 = .ok (.invokestatic 106, 3) := by decide +kernel
theorem dX8_quantile_11 : decode cX8_quantile 11 = .ok (.ifCond .ne 14, 3) := by decide +kernel
theorem dX8_quantile_14 : decode cX8_quantile 14 = .ok (.new 110, 3) := by decide +kernel
theorem dX8_quantile_17 : decode cX8_quantile 17 = .ok (.dup, 1) := by decide +kernel
theorem dX8_quantile_18 : decode cX8_quantile 18 = .ok (.ldc_w 341, 3) := by decide +kernel
theorem dX8_quantile_21 : decode cX8_quantile 21 = .ok (.invokespecial 114, 3) := by decide +kernel
theorem dX8_quantile_24 : decode cX8_quantile 24 = .ok (.athrow, 1) := by decide +kernel
theorem dX8_quantile_25 : decode cX8_quantile 25 = .ok (.aload_n 0, 1) := by decide +kernel
theorem dX8_quantile_26 : decode cX8_quantile 26 = .ok (.getfield 78, 3) := by decide +kernel
theorem dX8_quantile_29 : decode cX8_quantile 29 = .ok (.iload_n 1, 1) := by decide +kernel
theorem dX8_quantile_30 : decode cX8_quantile 30 = .ok (.iconst 0, 1) := by decide +kernel
theorem dX8_quantile_31 : decode cX8_quantile 31 = .ok (.invokevirtual 338, 3) := by decide +kernel
theorem dX8_quantile_34 : decode cX8_quantile 34 = .ok (.istore_n 3, 1) := by decide +kernel
theorem dX8_quantile_35 : decode cX8_quantile 35 = .ok (.iload_n 3, 1) := by decide +kernel
theorem dX8_quantile_36 : decode cX8_quantile 36 = .ok (.ifCond .ne 14, 3) := by decide +kernel
theorem dX8_quantile_39 : decode cX8_quantile 39 = .ok (.new 206, 3) := by decide +kernel
theorem dX8_quantile_42 : decode cX8_quantile 42 = .ok (.dup, 1) := by decide +kernel
theorem dX8_quantile_43 : decode cX8_quantile 43 = .ok (.ldc_w 343, 3) := by decide +kernel
theorem dX8_quantile_46 : decode cX8_quantile 46 = .ok (.invokespecial 210, 3) := by decide +kernel
theorem dX8_quantile_49 : decode cX8_quantile 49 = .ok (.athrow, 1) := by decide +kernel
theorem dX8_quantile_50 : decode cX8_quantile 50 = .ok (.aload_n 0, 1) := by decide +kernel
theorem dX8_quantile_51 : decode cX8_quantile 51 = .ok (.getfield 78, 3) := by decide +kernel
theorem dX8_quantile_54 : decode cX8_quantile 54 = .ok (.iload_n 1, 1) := by decide +kernel
theorem dX8_quantile_55 : decode cX8_quantile 55 = .ok (.iconst 1, 1) := by decide +kernel
theorem dX8_quantile_56 : decode cX8_quantile 56 = .ok (.iload_n 2, 1) := by decide +kernel
theorem dX8_quantile_57 : decode cX8_quantile 57 = .ok (.iload_n 3, 1) := by decide +kernel
theorem dX8_quantile_58 : decode cX8_quantile 58 = .ok (.imul, 1) := by decide +kernel
theorem dX8_quantile_59 : decode cX8_quantile 59 = .ok (.bipush 99, 2) := by decide +kernel
theorem dX8_quantile_61 : decode cX8_quantile 61 = .ok (.iadd, 1) := by decide +kernel
theorem dX8_quantile_62 : decode cX8_quantile 62 = .ok (.bipush 100, 2) := by decide +kernel
theorem dX8_quantile_64 : decode cX8_quantile 64 = .ok (.idiv, 1) := by decide +kernel
theorem dX8_quantile_65 : decode cX8_quantile 65 = .ok (.invokestatic 345, 3) := by decide +kernel
theorem dX8_quantile_68 : decode cX8_quantile 68 = .ok (.invokevirtual 350, 3) := by decide +kernel
theorem dX8_quantile_71 : decode cX8_quantile 71 = .ok (.ireturn, 1) := by decide +kernel
set_option maxRecDepth 100000 in
set_option maxHeartbeats 4000000 in
theorem w8_quantile_ok {l : Launch} {idx : List (Nat × Nat)} {μ : Mem} {a1 : Int32} {a2 : Int32} {P : Int32 → Mem → Prop} {X : String → Mem → Prop} (hl : l.stackTraces = false) (hI : IdxOK idx) (hk : w8_quantile_wp μ a1 a2 P X) : PMet l yX8_quantile (.code yX8_quantile cX8_quantile 4 (some .int)) 9 2 12 idx [pR 40 0, pI a1, pI a2] μ (qI P) X := by
  refine PMet_of mv_X8_quantile.2.2.2.2.2.2 hl hI mv_X8_quantile.2.2.2.1 rfl (Nat.le_of_ble_eq_true rfl) (fun G _ _ C hRt hHR hnT => ?_)
  show PW G 2 12 0 [some (pR 40 0), some (pI a1), some (pI a2), none] [] μ
  unfold w8_quantile_wp at hk
  refine px_aload_n (i := 0) C dX8_quantile_0 rfl rfl ?_
  refine px_iload_n (i := 1) C dX8_quantile_1 rfl rfl ?_
  refine px_callVv (h := 8) (rc' := 1) (rs' := 6) C (HR_le hHR (Nat.le_of_ble_eq_true rfl)) hRt hnT dX8_quantile_2 (gw4 40 rfl rfl) mv_X8_checkService (w8_checkService_ok (PCx_l C) (PCx_I C) hk) rfl rfl rfl rfl rfl (Nat.le_of_ble_eq_true rfl) (Nat.le_of_ble_eq_true rfl) (Nat.le_of_ble_eq_true rfl) (Nat.le_of_ble_eq_true rfl) ?_
  intro μ1 hk
  refine px_iload_n (i := 2) C dX8_quantile_5 rfl rfl ?_
  refine px_bipush (v := (101 : Int32)) C dX8_quantile_6 rfl ?_
  refine px_callSi (h := 0) (rc' := 1) (rs' := 6) C (HR_le hHR (Nat.le_of_ble_eq_true rfl)) hRt hnT dX8_quantile_8 (gw3 65 rfl rfl) ms_X8_isWithin (w8_isWithin_ok (PCx_l C) (PCx_I C) hk) rfl rfl (Nat.le_of_ble_eq_true rfl) (Nat.le_of_ble_eq_true rfl) (Nat.le_of_ble_eq_true rfl) (Nat.le_of_ble_eq_true rfl) ?_
  intro r3 μ2 hk
  refine px_if_ne (tgt := 25) C dX8_quantile_11 (by decide) (fun c10 => ?_) (fun c10 => ?_)
  · replace hk := hk.1 c10
    refine px_aload_n (i := 0) C dX8_quantile_25 rfl rfl ?_
    refine px_getr C dX8_quantile_26 fl_RX8_78 rfl rfl rfl ?_
    refine px_iload_n (i := 1) C dX8_quantile_29 rfl rfl ?_
    refine px_iconst (v := (0 : Int32)) C dX8_quantile_30 rfl ?_
    refine px_callVi (h := 4) (rc' := 1) (rs' := 6) C (HR_le hHR (Nat.le_of_ble_eq_true rfl)) hRt hnT dX8_quantile_31 (gw5 173 rfl rfl) mv_X1_sumOf (w1_sumOf_ok (PCx_l C) (PCx_I C) hk) rfl rfl rfl rfl rfl (Nat.le_of_ble_eq_true rfl) (Nat.le_of_ble_eq_true rfl) (Nat.le_of_ble_eq_true rfl) (Nat.le_of_ble_eq_true rfl) ?_
    intro r5 μ4 hk
    refine px_istore_n (i := 3) C dX8_quantile_34 rfl (by decide) rfl ?_
    refine px_iload_n (i := 3) C dX8_quantile_35 rfl rfl ?_
    refine px_if_ne (tgt := 50) C dX8_quantile_36 (by decide) (fun c9 => ?_) (fun c9 => ?_)
    · replace hk := hk.1 c9
      refine px_aload_n (i := 0) C dX8_quantile_50 rfl rfl ?_
      refine px_getr C dX8_quantile_51 fl_RX8_78 rfl rfl rfl ?_
      refine px_iload_n (i := 1) C dX8_quantile_54 rfl rfl ?_
      refine px_iconst (v := (1 : Int32)) C dX8_quantile_55 rfl ?_
      refine px_iload_n (i := 2) C dX8_quantile_56 rfl rfl ?_
      refine px_iload_n (i := 3) C dX8_quantile_57 rfl rfl ?_
      refine px_imul C dX8_quantile_58 ?_
      refine px_bipush (v := (99 : Int32)) C dX8_quantile_59 rfl ?_
      refine px_iadd C dX8_quantile_61 ?_
      refine px_bipush (v := (100 : Int32)) C dX8_quantile_62 rfl ?_
      obtain ⟨o6, hk⟩ := hk
      refine px_idiv C dX8_quantile_64 o6 ?_
      refine px_mmax C (HR_le hHR (Nat.le_of_ble_eq_true rfl)) dX8_quantile_65 (gw5 191 rfl rfl) math_max (Nat.le_of_ble_eq_true rfl) ?_
      refine px_callVi (h := 3) (rc' := 0) (rs' := 0) C (HR_le hHR (Nat.le_of_ble_eq_true rfl)) hRt hnT dX8_quantile_68 (gw5 192 rfl rfl) mv_X1_durationAt (w1_durationAt_ok (PCx_l C) (PCx_I C) hk) rfl rfl rfl rfl rfl (Nat.le_of_ble_eq_true rfl) (Nat.le_of_ble_eq_true rfl) (Nat.le_of_ble_eq_true rfl) (Nat.le_of_ble_eq_true rfl) ?_
      intro r8 μ7 hk
      exact px_iret C hRt dX8_quantile_71 rfl rfl hk
    · replace hk := hk.2 c9
      exact px_throwwN (h9 := 1) C (HR_le hHR (Nat.le_of_ble_eq_true rfl)) hRt hnT tk_NoSuchElementException ti_NoSuchElementException (List.mem_of_getElem? (i := 22) rfl) rfl dX8_quantile_39 dX8_quantile_42 dX8_quantile_43 dX8_quantile_46 dX8_quantile_49 rfl (Nat.le_of_ble_eq_true rfl) (Nat.le_of_ble_eq_true rfl) hk
  · replace hk := hk.2 c10
    exact px_throww (h9 := 1) C (HR_le hHR (Nat.le_of_ble_eq_true rfl)) hRt hnT tk_IllegalArgumentException ti_IllegalArgumentException tw_IllegalArgumentException (by decide +kernel) (List.mem_of_getElem? (i := 21) rfl) dX8_quantile_14 dX8_quantile_17 dX8_quantile_18 dX8_quantile_21 dX8_quantile_24 rfl (Nat.le_of_ble_eq_true rfl) (Nat.le_of_ble_eq_true rfl) hk
theorem dX8_save_0 : decode cX8_save 0 = .ok (.aload_n 0, 1) := by decide +kernel
theorem dX8_save_1 : decode cX8_save 1 = .ok (.getfield 10, 3) := by decide +kernel
theorem dX8_save_4 : decode cX8_save 4 = .ok (.aload_n 0, 1) := by decide +kernel
theorem dX8_save_5 : decode cX8_save 5 = .ok (.getfield 94, 3) := by decide +kernel
theorem dX8_save_8 : decode cX8_save 8 = .ok (.invokevirtual 469, 3) := by decide +kernel
theorem dX8_save_11 : decode cX8_save 11 = .ok (.aload_n 0, 1) := by decide +kernel
theorem dX8_save_12 : decode cX8_save 12 = .ok (.iconst 1, 1) := by decide +kernel
theorem dX8_save_13 : decode cX8_save 13 = .ok (.putfield 47, 3) := by decide +kernel
theorem dX8_save_16 : decode cX8_save 16 = .ok (.aload_n 0, 1) := by decide +kernel
theorem dX8_save_17 : decode cX8_save 17 = .ok (.getfield 94, 3) := by decide +kernel
theorem dX8_save_20 : decode cX8_save 20 = .ok (.getfield 97, 3) := by decide +kernel
theorem dX8_save_23 : decode cX8_save 23 = .ok (.ireturn, 1) := by decide +kernel
set_option maxRecDepth 100000 in
set_option maxHeartbeats 4000000 in
theorem w8_save_ok {l : Launch} {idx : List (Nat × Nat)} {μ : Mem} {P : Int32 → Mem → Prop} {X : String → Mem → Prop} (hl : l.stackTraces = false) (hI : IdxOK idx) (hk : w8_save_wp μ P) : PMet l yX8_save (.code yX8_save cX8_save 1 (some .int)) 4 0 0 idx [pR 40 0] μ (qI P) X := by
  refine PMet_of mv_X8_save.2.2.2.2.2.2 hl hI mv_X8_save.2.2.2.1 rfl (Nat.le_of_ble_eq_true rfl) (fun G _ _ C hRt hHR hnT => ?_)
  show PW G 0 0 0 [some (pR 40 0)] [] μ
  unfold w8_save_wp at hk
  refine px_aload_n (i := 0) C dX8_save_0 rfl rfl ?_
  refine px_getr C dX8_save_1 fl_RX8_10 rfl rfl rfl ?_
  refine px_aload_n (i := 0) C dX8_save_4 rfl rfl ?_
  refine px_getr C dX8_save_5 fl_RX8_94 rfl rfl rfl ?_
  refine px_callVv (h := 3) (rc' := 0) (rs' := 0) C (HR_le hHR (Nat.le_of_ble_eq_true rfl)) hRt hnT dX8_save_8 (gw3 36 rfl rfl) mv_X7_copyFrom (w7_copyFrom_ok (PCx_l C) (PCx_I C) hk) rfl rfl rfl rfl rfl (Nat.le_of_ble_eq_true rfl) (Nat.le_of_ble_eq_true rfl) (Nat.le_of_ble_eq_true rfl) (Nat.le_of_ble_eq_true rfl) ?_
  intro μ1 hk
  refine px_aload_n (i := 0) C dX8_save_11 rfl rfl ?_
  refine px_iconst (v := (1 : Int32)) C dX8_save_12 rfl ?_
  replace hk := hk _ rfl
  refine px_puti 2572 C dX8_save_13 fp_RX8_47 rfl rfl rfl rfl rfl rfl ?_
  refine px_aload_n (i := 0) C dX8_save_16 rfl rfl ?_
  refine px_getr C dX8_save_17 fl_RX8_94 rfl rfl rfl ?_
  refine px_geti 1 C dX8_save_20 fl_RX8_97 rfl rfl rfl rfl ?_
  exact px_iret C hRt dX8_save_23 rfl rfl hk
theorem dX8_restore_0 : decode cX8_restore 0 = .ok (.aload_n 0, 1) := by decide +kernel
theorem dX8_restore_1 : decode cX8_restore 1 = .ok (.getfield 47, 3) := by decide +kernel
theorem dX8_restore_4 : decode cX8_restore 4 = .ok (.ifCond .ne 14, 3) := by decide +kernel
theorem dX8_restore_7 : decode cX8_restore 7 = .ok (.new 130, 3) := by decide +kernel
theorem dX8_restore_10 : decode cX8_restore 10 = .ok (.dup, 1) := by decide +kernel
theorem dX8_restore_11 : decode cX8_restore 11 = .ok (.ldc_w 472, 3) := by decide +kernel
theorem dX8_restore_14 : decode cX8_restore 14 = .ok (.invokespecial 134, 3) := by decide +kernel
theorem dX8_restore_17 : decode cX8_restore 17 = .ok (.athrow, 1) := by decide +kernel
theorem dX8_restore_18 : decode cX8_restore 18 = .ok (.aload_n 0, 1) := by decide +kernel
theorem dX8_restore_19 : decode cX8_restore 19 = .ok (.getfield 94, 3) := by decide +kernel
theorem dX8_restore_22 : decode cX8_restore 22 = .ok (.aload_n 0, 1) := by decide +kernel
theorem dX8_restore_23 : decode cX8_restore 23 = .ok (.getfield 10, 3) := by decide +kernel
theorem dX8_restore_26 : decode cX8_restore 26 = .ok (.invokevirtual 469, 3) := by decide +kernel
theorem dX8_restore_29 : decode cX8_restore 29 = .ok (.aload_n 0, 1) := by decide +kernel
theorem dX8_restore_30 : decode cX8_restore 30 = .ok (.getfield 22, 3) := by decide +kernel
theorem dX8_restore_33 : decode cX8_restore 33 = .ok (.invokevirtual 103, 3) := by decide +kernel
theorem dX8_restore_36 : decode cX8_restore 36 = .ok (.aload_n 0, 1) := by decide +kernel
theorem dX8_restore_37 : decode cX8_restore 37 = .ok (.iconst 0, 1) := by decide +kernel
theorem dX8_restore_38 : decode cX8_restore 38 = .ok (.putfield 51, 3) := by decide +kernel
theorem dX8_restore_41 : decode cX8_restore 41 = .ok (.aload_n 0, 1) := by decide +kernel
theorem dX8_restore_42 : decode cX8_restore 42 = .ok (.getfield 94, 3) := by decide +kernel
theorem dX8_restore_45 : decode cX8_restore 45 = .ok (.getfield 97, 3) := by decide +kernel
theorem dX8_restore_48 : decode cX8_restore 48 = .ok (.ireturn, 1) := by decide +kernel
set_option maxRecDepth 100000 in
set_option maxHeartbeats 4000000 in
theorem w8_restore_ok {l : Launch} {idx : List (Nat × Nat)} {μ : Mem} {P : Int32 → Mem → Prop} {X : String → Mem → Prop} (hl : l.stackTraces = false) (hI : IdxOK idx) (hk : w8_restore_wp μ P X) : PMet l yX8_restore (.code yX8_restore cX8_restore 1 (some .int)) 8 1 6 idx [pR 40 0] μ (qI P) X := by
  refine PMet_of mv_X8_restore.2.2.2.2.2.2 hl hI mv_X8_restore.2.2.2.1 rfl (Nat.le_of_ble_eq_true rfl) (fun G _ _ C hRt hHR hnT => ?_)
  show PW G 1 6 0 [some (pR 40 0)] [] μ
  unfold w8_restore_wp at hk
  refine px_aload_n (i := 0) C dX8_restore_0 rfl rfl ?_
  refine px_geti 2572 C dX8_restore_1 fl_RX8_47 rfl rfl rfl rfl ?_
  refine px_if_ne (tgt := 18) C dX8_restore_4 (by decide) (fun c4 => ?_) (fun c4 => ?_)
  · replace hk := hk.1 c4
    refine px_aload_n (i := 0) C dX8_restore_18 rfl rfl ?_
    refine px_getr C dX8_restore_19 fl_RX8_94 rfl rfl rfl ?_
    refine px_aload_n (i := 0) C dX8_restore_22 rfl rfl ?_
    refine px_getr C dX8_restore_23 fl_RX8_10 rfl rfl rfl ?_
    refine px_callVv (h := 3) (rc' := 0) (rs' := 0) C (HR_le hHR (Nat.le_of_ble_eq_true rfl)) hRt hnT dX8_restore_26 (gw3 36 rfl rfl) mv_X7_copyFrom (w7_copyFrom_ok (PCx_l C) (PCx_I C) hk) rfl rfl rfl rfl rfl (Nat.le_of_ble_eq_true rfl) (Nat.le_of_ble_eq_true rfl) (Nat.le_of_ble_eq_true rfl) (Nat.le_of_ble_eq_true rfl) ?_
    intro μ1 hk
    refine px_aload_n (i := 0) C dX8_restore_29 rfl rfl ?_
    refine px_getr C dX8_restore_30 fl_RX8_22 rfl rfl rfl ?_
    refine px_callVv (h := 0) (rc' := 0) (rs' := 0) C (HR_le hHR (Nat.le_of_ble_eq_true rfl)) hRt hnT dX8_restore_33 (gw2 153 rfl rfl) mv_X3_forget (w3_forget_ok (PCx_l C) (PCx_I C) hk) rfl rfl rfl rfl rfl (Nat.le_of_ble_eq_true rfl) (Nat.le_of_ble_eq_true rfl) (Nat.le_of_ble_eq_true rfl) (Nat.le_of_ble_eq_true rfl) ?_
    intro μ2 hk
    refine px_aload_n (i := 0) C dX8_restore_36 rfl rfl ?_
    refine px_iconst (v := (0 : Int32)) C dX8_restore_37 rfl ?_
    replace hk := hk _ rfl
    refine px_puti 2573 C dX8_restore_38 fp_RX8_51 rfl rfl rfl rfl rfl rfl ?_
    refine px_aload_n (i := 0) C dX8_restore_41 rfl rfl ?_
    refine px_getr C dX8_restore_42 fl_RX8_94 rfl rfl rfl ?_
    refine px_geti 1 C dX8_restore_45 fl_RX8_97 rfl rfl rfl rfl ?_
    exact px_iret C hRt dX8_restore_48 rfl rfl hk
  · replace hk := hk.2 c4
    exact px_throww (h9 := 0) C (HR_le hHR (Nat.le_of_ble_eq_true rfl)) hRt hnT tk_IllegalStateException ti_IllegalStateException tw_IllegalStateException (by decide +kernel) (List.mem_of_getElem? (i := 37) rfl) dX8_restore_7 dX8_restore_10 dX8_restore_11 dX8_restore_14 dX8_restore_17 rfl (Nat.le_of_ble_eq_true rfl) (Nat.le_of_ble_eq_true rfl) hk
