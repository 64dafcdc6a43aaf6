theorem dX2_isLowestOfCycle_0 : decode cX2_isLowestOfCycle 0 = .ok (.aload_n 0, 1) := by decide +kernel
theorem dX2_isLowestOfCycle_1 : decode cX2_isLowestOfCycle 1 = .ok (.getfield 18, 3) := by decide +kernel
theorem dX2_isLowestOfCycle_4 : decode cX2_isLowestOfCycle 4 = .ok (.iload_n 1, 1) := by decide +kernel
theorem dX2_isLowestOfCycle_5 : decode cX2_isLowestOfCycle 5 = .ok (.invokestatic 54, 3) := by decide +kernel
theorem dX2_isLowestOfCycle_8 : decode cX2_isLowestOfCycle 8 = .ok (.istore_n 2, 1) := by decide +kernel
theorem dX2_isLowestOfCycle_9 : decode cX2_isLowestOfCycle 9 = .ok (.iconst 0, 1) := by decide +kernel
theorem dX2_isLowestOfCycle_10 : decode cX2_isLowestOfCycle 10 = .ok (.istore_n 3, 1) := by decide +kernel
theorem dX2_isLowestOfCycle_11 : decode cX2_isLowestOfCycle 11 = .ok (.iload_n 3, 1) := by decide +kernel
theorem dX2_isLowestOfCycle_12 : decode cX2_isLowestOfCycle 12 = .ok (.bipush 40, 2) := by decide +kernel
theorem dX2_isLowestOfCycle_14 : decode cX2_isLowestOfCycle 14 = .ok (.if_icmp .ge 61, 3) := by decide +kernel
theorem dX2_isLowestOfCycle_17 : decode cX2_isLowestOfCycle 17 = .ok (.iload_n 2, 1) := by decide +kernel
theorem dX2_isLowestOfCycle_18 : decode cX2_isLowestOfCycle 18 = .ok (.bipush 40, 2) := by decide +kernel
theorem dX2_isLowestOfCycle_20 : decode cX2_isLowestOfCycle 20 = .ok (.invokestatic 58, 3) := by decide +kernel
theorem dX2_isLowestOfCycle_23 : decode cX2_isLowestOfCycle 23 = .ok (.ifCond .eq 52, 3) := by decide +kernel
theorem dX2_isLowestOfCycle_26 : decode cX2_isLowestOfCycle 26 = .ok (.iload_n 2, 1) := by decide +kernel
theorem dX2_isLowestOfCycle_27 : decode cX2_isLowestOfCycle 27 = .ok (.iload_n 1, 1) := by decide +kernel
theorem dX2_isLowestOfCycle_28 : decode cX2_isLowestOfCycle 28 = .ok (.if_icmp .ne 5, 3) := by decide +kernel
theorem dX2_isLowestOfCycle_31 : decode cX2_isLowestOfCycle 31 = .ok (.iconst 1, 1) := by decide +kernel
theorem dX2_isLowestOfCycle_32 : decode cX2_isLowestOfCycle 32 = .ok (.ireturn, 1) := by decide +kernel
theorem dX2_isLowestOfCycle_33 : decode cX2_isLowestOfCycle 33 = .ok (.aload_n 0, 1) := by decide +kernel
theorem dX2_isLowestOfCycle_34 : decode cX2_isLowestOfCycle 34 = .ok (.getfield 37, 3) := by decide +kernel
theorem dX2_isLowestOfCycle_37 : decode cX2_isLowestOfCycle 37 = .ok (.getfield 108, 3) := by decide +kernel
theorem dX2_isLowestOfCycle_40 : decode cX2_isLowestOfCycle 40 = .ok (.iload_n 2, 1) := by decide +kernel
theorem dX2_isLowestOfCycle_41 : decode cX2_isLowestOfCycle 41 = .ok (.invokestatic 54, 3) := by decide +kernel
theorem dX2_isLowestOfCycle_44 : decode cX2_isLowestOfCycle 44 = .ok (.aload_n 0, 1) := by decide +kernel
theorem dX2_isLowestOfCycle_45 : decode cX2_isLowestOfCycle 45 = .ok (.getfield 37, 3) := by decide +kernel
theorem dX2_isLowestOfCycle_48 : decode cX2_isLowestOfCycle 48 = .ok (.getfield 108, 3) := by decide +kernel
theorem dX2_isLowestOfCycle_51 : decode cX2_isLowestOfCycle 51 = .ok (.iload_n 1, 1) := by decide +kernel
theorem dX2_isLowestOfCycle_52 : decode cX2_isLowestOfCycle 52 = .ok (.invokestatic 54, 3) := by decide +kernel
theorem dX2_isLowestOfCycle_55 : decode cX2_isLowestOfCycle 55 = .ok (.if_icmp .ge 5, 3) := by decide +kernel
theorem dX2_isLowestOfCycle_58 : decode cX2_isLowestOfCycle 58 = .ok (.iconst 0, 1) := by decide +kernel
theorem dX2_isLowestOfCycle_59 : decode cX2_isLowestOfCycle 59 = .ok (.ireturn, 1) := by decide +kernel
theorem dX2_isLowestOfCycle_60 : decode cX2_isLowestOfCycle 60 = .ok (.aload_n 0, 1) := by decide +kernel
theorem dX2_isLowestOfCycle_61 : decode cX2_isLowestOfCycle 61 = .ok (.getfield 18, 3) := by decide +kernel
theorem dX2_isLowestOfCycle_64 : decode cX2_isLowestOfCycle 64 = .ok (.iload_n 2, 1) := by decide +kernel
theorem dX2_isLowestOfCycle_65 : decode cX2_isLowestOfCycle 65 = .ok (.invokestatic 54, 3) := by decide +kernel
theorem dX2_isLowestOfCycle_68 : decode cX2_isLowestOfCycle 68 = .ok (.istore_n 2, 1) := by decide +kernel
theorem dX2_isLowestOfCycle_69 : decode cX2_isLowestOfCycle 69 = .ok (.iinc 3 1, 3) := by decide +kernel
theorem dX2_isLowestOfCycle_72 : decode cX2_isLowestOfCycle 72 = .ok (.goto (-61), 3) := by decide +kernel
theorem dX2_isLowestOfCycle_75 : decode cX2_isLowestOfCycle 75 = .ok (.iconst 0, 1) := by decide +kernel
theorem dX2_isLowestOfCycle_76 : decode cX2_isLowestOfCycle 76 = .ok (.ireturn, 1) := by decide +kernel
set_option maxRecDepth 100000 in
set_option maxHeartbeats 4000000 in
theorem w2_isLowestOfCycle_b11_ok {G : GT} {P : Int32 → Mem → Prop} {X : String → Mem → Prop} (C : PCx G cX2_isLowestOfCycle 4 RX2) (hRt : PRt G (some .boolean) (qI P) X) (hHR : HR G (1)) (hnT : NoT G) {μ : Mem} {l1 : Int32} {l2 : Int32} {l3 : Int32} (hk : w2_isLowestOfCycle_b11 P μ l1 l2 l3) : PW G 0 0 11 [some (pR 18 0), some (pI l1), some (pI l2), some (pI l3)] [] μ := by
  refine hk (fun (μ : Mem) (l1 : Int32) (l2 : Int32) (l3 : Int32) => PW G 0 0 11 [some (pR 18 0), some (pI l1), some (pI l2), some (pI l3)] [] μ) (fun (μ : Mem) l1 l2 l3 hk => ?_)
  have hR11 : ∀ (μ : Mem) (l1 : Int32) (l2 : Int32) (l3 : Int32), PW G 0 0 11 [some (pR 18 0), some (pI l1), some (pI l2), some (pI l3)] [] μ → PW G 0 0 11 [some (pR 18 0), some (pI l1), some (pI l2), some (pI l3)] [] μ := fun _ _ _ _ h => h
  unfold w2_isLowestOfCycle_b11_body at hk
  refine px_iload_n (i := 3) C dX2_isLowestOfCycle_11 rfl rfl ?_
  refine px_bipush (v := (40 : Int32)) C dX2_isLowestOfCycle_12 rfl ?_
  refine px_icmp_ge (tgt := 75) C dX2_isLowestOfCycle_14 (by decide) (fun c10 => ?_) (fun c10 => ?_)
  · replace hk := hk.1 c10
    refine px_iconst (v := (0 : Int32)) C dX2_isLowestOfCycle_75 rfl ?_
    exact px_iret C hRt dX2_isLowestOfCycle_76 rfl rfl hk
  · replace hk := hk.2 c10
    refine px_iload_n (i := 2) C dX2_isLowestOfCycle_17 rfl rfl ?_
    refine px_bipush (v := (40 : Int32)) C dX2_isLowestOfCycle_18 rfl ?_
    refine px_callSNi (h := 0) (rc' := 0) (rs' := 0) C (HR_le hHR (Nat.le_of_ble_eq_true rfl)) hRt hnT dX2_isLowestOfCycle_20 (List.mem_append_right _ (List.mem_append_left _ (List.mem_of_getElem? (i := 8) rfl))) ms_X8_isWithin (w8_isWithin_ok (PCx_l C) (PCx_I C) hk) rfl rfl (Nat.le_of_ble_eq_true rfl) (Nat.le_of_ble_eq_true rfl) (Nat.le_of_ble_eq_true rfl) (Nat.le_of_ble_eq_true rfl) ?_
    intro r3 μ2 hk
    refine px_if_eq (tgt := 75) C dX2_isLowestOfCycle_23 (by decide) (fun c9 => ?_) (fun c9 => ?_)
    · replace hk := hk.1 c9
      refine px_iconst (v := (0 : Int32)) C dX2_isLowestOfCycle_75 rfl ?_
      exact px_iret C hRt dX2_isLowestOfCycle_76 rfl rfl hk
    · replace hk := hk.2 c9
      refine px_iload_n (i := 2) C dX2_isLowestOfCycle_26 rfl rfl ?_
      refine px_iload_n (i := 1) C dX2_isLowestOfCycle_27 rfl rfl ?_
      refine px_icmp_ne (tgt := 33) C dX2_isLowestOfCycle_28 (by decide) (fun c8 => ?_) (fun c8 => ?_)
      · replace hk := hk.1 c8
        refine px_aload_n (i := 0) C dX2_isLowestOfCycle_33 rfl rfl ?_
        refine px_getr C dX2_isLowestOfCycle_34 fl_RX2_37 rfl rfl rfl ?_
        refine px_getr C dX2_isLowestOfCycle_37 fl_RX2_108 rfl rfl rfl ?_
        refine px_iload_n (i := 2) C dX2_isLowestOfCycle_40 rfl rfl ?_
        obtain ⟨o4, hk⟩ := hk
        refine px_callSNi (h := 0) (rc' := 0) (rs' := 0) C (HR_le hHR (Nat.le_of_ble_eq_true rfl)) hRt hnT dX2_isLowestOfCycle_41 (List.mem_append_right _ (List.mem_append_left _ (List.mem_of_getElem? (i := 7) rfl))) ms_X8_at (at_ok (j := 2) (q := 0) (n := 40) (loc := 128) (PCx_l C) (PCx_I C) rfl rfl rfl o4) rfl rfl (Nat.le_of_ble_eq_true rfl) (Nat.le_of_ble_eq_true rfl) (Nat.le_of_ble_eq_true rfl) (Nat.le_of_ble_eq_true rfl) ?_
        rintro _ _ ⟨rfl, rfl⟩
        refine px_aload_n (i := 0) C dX2_isLowestOfCycle_44 rfl rfl ?_
        refine px_getr C dX2_isLowestOfCycle_45 fl_RX2_37 rfl rfl rfl ?_
        refine px_getr C dX2_isLowestOfCycle_48 fl_RX2_108 rfl rfl rfl ?_
        refine px_iload_n (i := 1) C dX2_isLowestOfCycle_51 rfl rfl ?_
        obtain ⟨o5, hk⟩ := hk
        refine px_callSNi (h := 0) (rc' := 0) (rs' := 0) C (HR_le hHR (Nat.le_of_ble_eq_true rfl)) hRt hnT dX2_isLowestOfCycle_52 (List.mem_append_right _ (List.mem_append_left _ (List.mem_of_getElem? (i := 7) rfl))) ms_X8_at (at_ok (j := 2) (q := 0) (n := 40) (loc := 128) (PCx_l C) (PCx_I C) rfl rfl rfl o5) rfl rfl (Nat.le_of_ble_eq_true rfl) (Nat.le_of_ble_eq_true rfl) (Nat.le_of_ble_eq_true rfl) (Nat.le_of_ble_eq_true rfl) ?_
        rintro _ _ ⟨rfl, rfl⟩
        refine px_icmp_ge (tgt := 60) C dX2_isLowestOfCycle_55 (by decide) (fun c7 => ?_) (fun c7 => ?_)
        · replace hk := hk.1 c7
          refine px_aload_n (i := 0) C dX2_isLowestOfCycle_60 rfl rfl ?_
          refine px_getr C dX2_isLowestOfCycle_61 fl_RX2_18 rfl rfl rfl ?_
          refine px_iload_n (i := 2) C dX2_isLowestOfCycle_64 rfl rfl ?_
          obtain ⟨o6, hk⟩ := hk
          refine px_callSNi (h := 0) (rc' := 0) (rs' := 0) C (HR_le hHR (Nat.le_of_ble_eq_true rfl)) hRt hnT dX2_isLowestOfCycle_65 (List.mem_append_right _ (List.mem_append_left _ (List.mem_of_getElem? (i := 7) rfl))) ms_X8_at (at_ok (j := 21) (q := 0) (n := 40) (loc := 1344) (PCx_l C) (PCx_I C) rfl rfl rfl o6) rfl rfl (Nat.le_of_ble_eq_true rfl) (Nat.le_of_ble_eq_true rfl) (Nat.le_of_ble_eq_true rfl) (Nat.le_of_ble_eq_true rfl) ?_
          rintro _ _ ⟨rfl, rfl⟩
          refine px_istore_n (i := 2) C dX2_isLowestOfCycle_68 rfl (by decide) rfl ?_
          refine px_iinc (i := 3) (v := (1 : Int32)) C dX2_isLowestOfCycle_69 rfl rfl (by decide) rfl ?_
          refine px_goto (tgt := 11) C dX2_isLowestOfCycle_72 (by decide) ?_
          exact PW_at (hR11 _ _ _ _ hk) (And.intro rfl (And.intro rfl (And.intro rfl (And.intro rfl trivial)))) (Nat.le_of_ble_eq_true rfl) (Nat.le_of_ble_eq_true rfl)
        · replace hk := hk.2 c7
          refine px_iconst (v := (0 : Int32)) C dX2_isLowestOfCycle_58 rfl ?_
          exact px_iret C hRt dX2_isLowestOfCycle_59 rfl rfl hk
      · replace hk := hk.2 c8
        refine px_iconst (v := (1 : Int32)) C dX2_isLowestOfCycle_31 rfl ?_
        exact px_iret C hRt dX2_isLowestOfCycle_32 rfl rfl hk
set_option maxRecDepth 100000 in
set_option maxHeartbeats 4000000 in
theorem w2_isLowestOfCycle_ok {l : Launch} {idx : List (Nat × Nat)} {μ : Mem} {a1 : Int32} {P : Int32 → Mem → Prop} {X : String → Mem → Prop} (hl : l.stackTraces = false) (hI : IdxOK idx) (hk : w2_isLowestOfCycle_wp μ a1 P) : PMet l yX2_isLowestOfCycle (.code yX2_isLowestOfCycle cX2_isLowestOfCycle 4 (some .boolean)) 1 0 0 idx [pR 18 0, pI a1] μ (qI P) X := by
  refine PMet_of mv_X2_isLowestOfCycle.2.2.2.2.2.2 hl hI mv_X2_isLowestOfCycle.2.2.2.1 rfl (Nat.le_of_ble_eq_true rfl) (fun G _ _ C hRt hHR hnT => ?_)
  show PW G 0 0 0 [some (pR 18 0), some (pI a1), none, none] [] μ
  unfold w2_isLowestOfCycle_wp at hk
  refine px_aload_n (i := 0) C dX2_isLowestOfCycle_0 rfl rfl ?_
  refine px_getr C dX2_isLowestOfCycle_1 fl_RX2_18 rfl rfl rfl ?_
  refine px_iload_n (i := 1) C dX2_isLowestOfCycle_4 rfl rfl ?_
  obtain ⟨o1, hk⟩ := hk
  refine px_callSNi (h := 0) (rc' := 0) (rs' := 0) C (HR_le hHR (Nat.le_of_ble_eq_true rfl)) hRt hnT dX2_isLowestOfCycle_5 (List.mem_append_right _ (List.mem_append_left _ (List.mem_of_getElem? (i := 7) rfl))) ms_X8_at (at_ok (j := 21) (q := 0) (n := 40) (loc := 1344) (PCx_l C) (PCx_I C) rfl rfl rfl o1) rfl rfl (Nat.le_of_ble_eq_true rfl) (Nat.le_of_ble_eq_true rfl) (Nat.le_of_ble_eq_true rfl) (Nat.le_of_ble_eq_true rfl) ?_
  rintro _ _ ⟨rfl, rfl⟩
  refine px_istore_n (i := 2) C dX2_isLowestOfCycle_8 rfl (by decide) rfl ?_
  refine px_iconst (v := (0 : Int32)) C dX2_isLowestOfCycle_9 rfl ?_
  refine px_istore_n (i := 3) C dX2_isLowestOfCycle_10 rfl (by decide) rfl ?_
  exact PW_at (w2_isLowestOfCycle_b11_ok C hRt hHR hnT hk) (And.intro rfl (And.intro rfl (And.intro rfl (And.intro rfl trivial)))) (Nat.le_of_ble_eq_true rfl) (Nat.le_of_ble_eq_true rfl)
theorem dX2_insert_0 : decode cX2_insert 0 = .ok (.iload_n 1, 1) := by decide +kernel
theorem dX2_insert_1 : decode cX2_insert 1 = .ok (.istore_n 2, 1) := by decide +kernel
theorem dX2_insert_2 : decode cX2_insert 2 = .ok (.iload_n 2, 1) := by decide +kernel
theorem dX2_insert_3 : decode cX2_insert 3 = .ok (.ifCond .le 45, 3) := by decide +kernel
theorem dX2_insert_6 : decode cX2_insert 6 = .ok (.aload_n 0, 1) := by decide +kernel
theorem dX2_insert_7 : decode cX2_insert 7 = .ok (.iload_n 1, 1) := by decide +kernel
theorem dX2_insert_8 : decode cX2_insert 8 = .ok (.aload_n 0, 1) := by decide +kernel
theorem dX2_insert_9 : decode cX2_insert 9 = .ok (.getfield 34, 3) := by decide +kernel
theorem dX2_insert_12 : decode cX2_insert 12 = .ok (.iload_n 2, 1) := by decide +kernel
theorem dX2_insert_13 : decode cX2_insert 13 = .ok (.iconst 1, 1) := by decide +kernel
theorem dX2_insert_14 : decode cX2_insert 14 = .ok (.isub, 1) := by decide +kernel
theorem dX2_insert_15 : decode cX2_insert 15 = .ok (.invokestatic 54, 3) := by decide +kernel
theorem dX2_insert_18 : decode cX2_insert 18 = .ok (.invokevirtual 111, 3) := by decide +kernel
theorem dX2_insert_21 : decode cX2_insert 21 = .ok (.ifCond .eq 27, 3) := by decide +kernel
theorem dX2_insert_24 : decode cX2_insert 24 = .ok (.aload_n 0, 1) := by decide +kernel
theorem dX2_insert_25 : decode cX2_insert 25 = .ok (.getfield 34, 3) := by decide +kernel
theorem dX2_insert_28 : decode cX2_insert 28 = .ok (.iload_n 2, 1) := by decide +kernel
theorem dX2_insert_29 : decode cX2_insert 29 = .ok (.aload_n 0, 1) := by decide +kernel
theorem dX2_insert_30 : decode cX2_insert 30 = .ok (.getfield 34, 3) := by decide +kernel
theorem dX2_insert_33 : decode cX2_insert 33 = .ok (.iload_n 2, 1) := by decide +kernel
theorem dX2_insert_34 : decode cX2_insert 34 = .ok (.iconst 1, 1) := by decide +kernel
theorem dX2_insert_35 : decode cX2_insert 35 = .ok (.isub, 1) := by decide +kernel
theorem dX2_insert_36 : decode cX2_insert 36 = .ok (.invokestatic 54, 3) := by decide +kernel
theorem dX2_insert_39 : decode cX2_insert 39 = .ok (.invokestatic 68, 3) := by decide +kernel
theorem dX2_insert_42 : decode cX2_insert 42 = .ok (.iinc 2 (-1), 3) := by decide +kernel
theorem dX2_insert_45 : decode cX2_insert 45 = .ok (.goto (-43), 3) := by decide +kernel
theorem dX2_insert_48 : decode cX2_insert 48 = .ok (.aload_n 0, 1) := by decide +kernel
theorem dX2_insert_49 : decode cX2_insert 49 = .ok (.getfield 34, 3) := by decide +kernel
theorem dX2_insert_52 : decode cX2_insert 52 = .ok (.iload_n 2, 1) := by decide +kernel
theorem dX2_insert_53 : decode cX2_insert 53 = .ok (.iload_n 1, 1) := by decide +kernel
theorem dX2_insert_54 : decode cX2_insert 54 = .ok (.invokestatic 68, 3) := by decide +kernel
theorem dX2_insert_57 : decode cX2_insert 57 = .ok (.return_, 1) := by decide +kernel
set_option maxRecDepth 100000 in
set_option maxHeartbeats 4000000 in
theorem w2_insert_b2_ok {G : GT} {P : Mem → Prop} {X : String → Mem → Prop} (C : PCx G cX2_insert 3 RX2) (hRt : PRt G none (qV P) X) (hHR : HR G (2)) (hnT : NoT G) {μ : Mem} {l1 : Int32} {l2 : Int32} (hk : w2_insert_b2 P μ l1 l2) : PW G 0 0 2 [some (pR 18 0), some (pI l1), some (pI l2)] [] μ := by
  refine hk (fun (μ : Mem) (l1 : Int32) (l2 : Int32) => PW G 0 0 2 [some (pR 18 0), some (pI l1), some (pI l2)] [] μ) (fun (μ : Mem) l1 l2 hk => ?_)
  have hR2 : ∀ (μ : Mem) (l1 : Int32) (l2 : Int32), PW G 0 0 2 [some (pR 18 0), some (pI l1), some (pI l2)] [] μ → PW G 0 0 2 [some (pR 18 0), some (pI l1), some (pI l2)] [] μ := fun _ _ _ h => h
  unfold w2_insert_b2_body at hk
  refine px_iload_n (i := 2) C dX2_insert_2 rfl rfl ?_
  refine px_if_le (tgt := 48) C dX2_insert_3 (by decide) (fun c12 => ?_) (fun c12 => ?_)
  · replace hk := hk.1 c12
    refine px_aload_n (i := 0) C dX2_insert_48 rfl rfl ?_
    refine px_getr C dX2_insert_49 fl_RX2_34 rfl rfl rfl ?_
    refine px_iload_n (i := 2) C dX2_insert_52 rfl rfl ?_
    refine px_iload_n (i := 1) C dX2_insert_53 rfl rfl ?_
    obtain ⟨o1, hk⟩ := hk
    replace hk := hk _ rfl
    refine px_callSNv (h := 0) (rc' := 0) (rs' := 0) C (HR_le hHR (Nat.le_of_ble_eq_true rfl)) hRt hnT dX2_insert_54 (List.mem_append_right _ (List.mem_append_left _ (List.mem_of_getElem? (i := 9) rfl))) ms_X8_set (set_ok (j := 26) (q := 0) (n := 40) (loc := 1664) (PCx_l C) (PCx_I C) rfl rfl rfl o1) rfl rfl (Nat.le_of_ble_eq_true rfl) (Nat.le_of_ble_eq_true rfl) (Nat.le_of_ble_eq_true rfl) (Nat.le_of_ble_eq_true rfl) ?_
    rintro _ rfl
    exact px_vret C hRt dX2_insert_57 rfl hk
  · replace hk := hk.2 c12
    refine px_aload_n (i := 0) C dX2_insert_6 rfl rfl ?_
    refine px_iload_n (i := 1) C dX2_insert_7 rfl rfl ?_
    refine px_aload_n (i := 0) C dX2_insert_8 rfl rfl ?_
    refine px_getr C dX2_insert_9 fl_RX2_34 rfl rfl rfl ?_
    refine px_iload_n (i := 2) C dX2_insert_12 rfl rfl ?_
    refine px_iconst (v := (1 : Int32)) C dX2_insert_13 rfl ?_
    refine px_isub C dX2_insert_14 ?_
    obtain ⟨o3, hk⟩ := hk
    refine px_callSNi (h := 0) (rc' := 0) (rs' := 0) C (HR_le hHR (Nat.le_of_ble_eq_true rfl)) hRt hnT dX2_insert_15 (List.mem_append_right _ (List.mem_append_left _ (List.mem_of_getElem? (i := 7) rfl))) ms_X8_at (at_ok (j := 26) (q := 0) (n := 40) (loc := 1664) (PCx_l C) (PCx_I C) rfl rfl rfl o3) rfl rfl (Nat.le_of_ble_eq_true rfl) (Nat.le_of_ble_eq_true rfl) (Nat.le_of_ble_eq_true rfl) (Nat.le_of_ble_eq_true rfl) ?_
    rintro _ _ ⟨rfl, rfl⟩
    refine px_callVi (h := 1) (rc' := 0) (rs' := 0) C (HR_le hHR (Nat.le_of_ble_eq_true rfl)) hRt hnT dX2_insert_18 (gw3 5 rfl rfl) mv_X2_isEarlier (w2_isEarlier_ok (PCx_l C) (PCx_I C) hk) rfl rfl rfl rfl rfl (Nat.le_of_ble_eq_true rfl) (Nat.le_of_ble_eq_true rfl) (Nat.le_of_ble_eq_true rfl) (Nat.le_of_ble_eq_true rfl) ?_
    intro r5 μ4 hk
    refine px_if_eq (tgt := 48) C dX2_insert_21 (by decide) (fun c11 => ?_) (fun c11 => ?_)
    · replace hk := hk.1 c11
      refine px_aload_n (i := 0) C dX2_insert_48 rfl rfl ?_
      refine px_getr C dX2_insert_49 fl_RX2_34 rfl rfl rfl ?_
      refine px_iload_n (i := 2) C dX2_insert_52 rfl rfl ?_
      refine px_iload_n (i := 1) C dX2_insert_53 rfl rfl ?_
      obtain ⟨o6, hk⟩ := hk
      replace hk := hk _ rfl
      refine px_callSNv (h := 0) (rc' := 0) (rs' := 0) C (HR_le hHR (Nat.le_of_ble_eq_true rfl)) hRt hnT dX2_insert_54 (List.mem_append_right _ (List.mem_append_left _ (List.mem_of_getElem? (i := 9) rfl))) ms_X8_set (set_ok (j := 26) (q := 0) (n := 40) (loc := 1664) (PCx_l C) (PCx_I C) rfl rfl rfl o6) rfl rfl (Nat.le_of_ble_eq_true rfl) (Nat.le_of_ble_eq_true rfl) (Nat.le_of_ble_eq_true rfl) (Nat.le_of_ble_eq_true rfl) ?_
      rintro _ rfl
      exact px_vret C hRt dX2_insert_57 rfl hk
    · replace hk := hk.2 c11
      refine px_aload_n (i := 0) C dX2_insert_24 rfl rfl ?_
      refine px_getr C dX2_insert_25 fl_RX2_34 rfl rfl rfl ?_
      refine px_iload_n (i := 2) C dX2_insert_28 rfl rfl ?_
      refine px_aload_n (i := 0) C dX2_insert_29 rfl rfl ?_
      refine px_getr C dX2_insert_30 fl_RX2_34 rfl rfl rfl ?_
      refine px_iload_n (i := 2) C dX2_insert_33 rfl rfl ?_
      refine px_iconst (v := (1 : Int32)) C dX2_insert_34 rfl ?_
      refine px_isub C dX2_insert_35 ?_
      obtain ⟨o8, hk⟩ := hk
      refine px_callSNi (h := 0) (rc' := 0) (rs' := 0) C (HR_le hHR (Nat.le_of_ble_eq_true rfl)) hRt hnT dX2_insert_36 (List.mem_append_right _ (List.mem_append_left _ (List.mem_of_getElem? (i := 7) rfl))) ms_X8_at (at_ok (j := 26) (q := 0) (n := 40) (loc := 1664) (PCx_l C) (PCx_I C) rfl rfl rfl o8) rfl rfl (Nat.le_of_ble_eq_true rfl) (Nat.le_of_ble_eq_true rfl) (Nat.le_of_ble_eq_true rfl) (Nat.le_of_ble_eq_true rfl) ?_
      rintro _ _ ⟨rfl, rfl⟩
      obtain ⟨o9, hk⟩ := hk
      replace hk := hk _ rfl
      refine px_callSNv (h := 0) (rc' := 0) (rs' := 0) C (HR_le hHR (Nat.le_of_ble_eq_true rfl)) hRt hnT dX2_insert_39 (List.mem_append_right _ (List.mem_append_left _ (List.mem_of_getElem? (i := 9) rfl))) ms_X8_set (set_ok (j := 26) (q := 0) (n := 40) (loc := 1664) (PCx_l C) (PCx_I C) rfl rfl rfl o9) rfl rfl (Nat.le_of_ble_eq_true rfl) (Nat.le_of_ble_eq_true rfl) (Nat.le_of_ble_eq_true rfl) (Nat.le_of_ble_eq_true rfl) ?_
      rintro _ rfl
      refine px_iinc (i := 2) (v := (-1 : Int32)) C dX2_insert_42 rfl rfl (by decide) rfl ?_
      refine px_goto (tgt := 2) C dX2_insert_45 (by decide) ?_
      exact PW_at (hR2 _ _ _ hk) (And.intro rfl (And.intro rfl (And.intro rfl trivial))) (Nat.le_of_ble_eq_true rfl) (Nat.le_of_ble_eq_true rfl)
set_option maxRecDepth 100000 in
set_option maxHeartbeats 4000000 in
theorem w2_insert_ok {l : Launch} {idx : List (Nat × Nat)} {μ : Mem} {a1 : Int32} {P : Mem → Prop} {X : String → Mem → Prop} (hl : l.stackTraces = false) (hI : IdxOK idx) (hk : w2_insert_wp μ a1 P) : PMet l yX2_insert (.code yX2_insert cX2_insert 3 none) 2 0 0 idx [pR 18 0, pI a1] μ (qV P) X := by
  refine PMet_of mv_X2_insert.2.2.2.2.2.2 hl hI mv_X2_insert.2.2.2.1 rfl (Nat.le_of_ble_eq_true rfl) (fun G _ _ C hRt hHR hnT => ?_)
  show PW G 0 0 0 [some (pR 18 0), some (pI a1), none] [] μ
  unfold w2_insert_wp at hk
  refine px_iload_n (i := 1) C dX2_insert_0 rfl rfl ?_
  refine px_istore_n (i := 2) C dX2_insert_1 rfl (by decide) rfl ?_
  exact PW_at (w2_insert_b2_ok C hRt hHR hnT hk) (And.intro rfl (And.intro rfl (And.intro rfl trivial))) (Nat.le_of_ble_eq_true rfl) (Nat.le_of_ble_eq_true rfl)
theorem dX2_spreadError_0 : decode cX2_spreadError 0 = .ok (.aload_n 0, 1) := by decide +kernel
theorem dX2_spreadError_1 : decode cX2_spreadError 1 = .ok (.getfield 24, 3) := by decide +kernel
theorem dX2_spreadError_4 : decode cX2_spreadError 4 = .ok (.iload_n 1, 1) := by decide +kernel
theorem dX2_spreadError_5 : decode cX2_spreadError 5 = .ok (.invokestatic 54, 3) := by decide +kernel
theorem dX2_spreadError_8 : decode cX2_spreadError 8 = .ok (.istore_n 2, 1) := by decide +kernel
theorem dX2_spreadError_9 : decode cX2_spreadError 9 = .ok (.iconst 0, 1) := by decide +kernel
theorem dX2_spreadError_10 : decode cX2_spreadError 10 = .ok (.istore_n 3, 1) := by decide +kernel
theorem dX2_spreadError_11 : decode cX2_spreadError 11 = .ok (.iload_n 3, 1) := by decide +kernel
theorem dX2_spreadError_12 : decode cX2_spreadError 12 = .ok (.bipush 40, 2) := by decide +kernel
theorem dX2_spreadError_14 : decode cX2_spreadError 14 = .ok (.if_icmp .ge 36, 3) := by decide +kernel
theorem dX2_spreadError_17 : decode cX2_spreadError 17 = .ok (.iload_n 2, 1) := by decide +kernel
theorem dX2_spreadError_18 : decode cX2_spreadError 18 = .ok (.bipush 40, 2) := by decide +kernel
theorem dX2_spreadError_20 : decode cX2_spreadError 20 = .ok (.invokestatic 58, 3) := by decide +kernel
theorem dX2_spreadError_23 : decode cX2_spreadError 23 = .ok (.ifCond .eq 27, 3) := by decide +kernel
theorem dX2_spreadError_26 : decode cX2_spreadError 26 = .ok (.aload_n 0, 1) := by decide +kernel
theorem dX2_spreadError_27 : decode cX2_spreadError 27 = .ok (.getfield 30, 3) := by decide +kernel
theorem dX2_spreadError_30 : decode cX2_spreadError 30 = .ok (.iload_n 2, 1) := by decide +kernel
theorem dX2_spreadError_31 : decode cX2_spreadError 31 = .ok (.iconst 1, 1) := by decide +kernel
theorem dX2_spreadError_32 : decode cX2_spreadError 32 = .ok (.invokestatic 83, 3) := by decide +kernel
theorem dX2_spreadError_35 : decode cX2_spreadError 35 = .ok (.aload_n 0, 1) := by decide +kernel
theorem dX2_spreadError_36 : decode cX2_spreadError 36 = .ok (.getfield 24, 3) := by decide +kernel
theorem dX2_spreadError_39 : decode cX2_spreadError 39 = .ok (.iload_n 2, 1) := by decide +kernel
theorem dX2_spreadError_40 : decode cX2_spreadError 40 = .ok (.invokestatic 54, 3) := by decide +kernel
theorem dX2_spreadError_43 : decode cX2_spreadError 43 = .ok (.istore_n 2, 1) := by decide +kernel
theorem dX2_spreadError_44 : decode cX2_spreadError 44 = .ok (.iinc 3 1, 3) := by decide +kernel
theorem dX2_spreadError_47 : decode cX2_spreadError 47 = .ok (.goto (-36), 3) := by decide +kernel
theorem dX2_spreadError_50 : decode cX2_spreadError 50 = .ok (.return_, 1) := by decide +kernel
set_option maxRecDepth 100000 in
set_option maxHeartbeats 4000000 in
theorem w2_spreadError_b11_ok {G : GT} {P : Mem → Prop} {X : String → Mem → Prop} (C : PCx G cX2_spreadError 4 RX2) (hRt : PRt G none (qV P) X) (hHR : HR G (1)) (hnT : NoT G) {μ : Mem} {l2 : Int32} {l3 : Int32} (hk : w2_spreadError_b11 P μ l2 l3) : PW G 0 0 11 [some (pR 18 0), none, some (pI l2), some (pI l3)] [] μ := by
  refine hk (fun (μ : Mem) (l2 : Int32) (l3 : Int32) => PW G 0 0 11 [some (pR 18 0), none, some (pI l2), some (pI l3)] [] μ) (fun (μ : Mem) l2 l3 hk => ?_)
  have hR11 : ∀ (μ : Mem) (l2 : Int32) (l3 : Int32), PW G 0 0 11 [some (pR 18 0), none, some (pI l2), some (pI l3)] [] μ → PW G 0 0 11 [some (pR 18 0), none, some (pI l2), some (pI l3)] [] μ := fun _ _ _ h => h
  unfold w2_spreadError_b11_body at hk
  refine px_iload_n (i := 3) C dX2_spreadError_11 rfl rfl ?_
  refine px_bipush (v := (40 : Int32)) C dX2_spreadError_12 rfl ?_
  refine px_icmp_ge (tgt := 50) C dX2_spreadError_14 (by decide) (fun c8 => ?_) (fun c8 => ?_)
  · replace hk := hk.1 c8
    exact px_vret C hRt dX2_spreadError_50 rfl hk
  · replace hk := hk.2 c8
    refine px_iload_n (i := 2) C dX2_spreadError_17 rfl rfl ?_
    refine px_bipush (v := (40 : Int32)) C dX2_spreadError_18 rfl ?_
    refine px_callSNi (h := 0) (rc' := 0) (rs' := 0) C (HR_le hHR (Nat.le_of_ble_eq_true rfl)) hRt hnT dX2_spreadError_20 (List.mem_append_right _ (List.mem_append_left _ (List.mem_of_getElem? (i := 8) rfl))) ms_X8_isWithin (w8_isWithin_ok (PCx_l C) (PCx_I C) hk) rfl rfl (Nat.le_of_ble_eq_true rfl) (Nat.le_of_ble_eq_true rfl) (Nat.le_of_ble_eq_true rfl) (Nat.le_of_ble_eq_true rfl) ?_
    intro r3 μ2 hk
    refine px_if_eq (tgt := 50) C dX2_spreadError_23 (by decide) (fun c7 => ?_) (fun c7 => ?_)
    · replace hk := hk.1 c7
      exact px_vret C hRt dX2_spreadError_50 rfl hk
    · replace hk := hk.2 c7
      refine px_aload_n (i := 0) C dX2_spreadError_26 rfl rfl ?_
      refine px_getr C dX2_spreadError_27 fl_RX2_30 rfl rfl rfl ?_
      refine px_iload_n (i := 2) C dX2_spreadError_30 rfl rfl ?_
      refine px_iconst (v := (1 : Int32)) C dX2_spreadError_31 rfl ?_
      obtain ⟨o4, hk⟩ := hk
      replace hk := hk _ rfl
      refine px_callSNv (h := 0) (rc' := 0) (rs' := 0) C (HR_le hHR (Nat.le_of_ble_eq_true rfl)) hRt hnT dX2_spreadError_32 (List.mem_append_right _ (List.mem_append_left _ (List.mem_of_getElem? (i := 10) rfl))) ms_X8_setFlag (setFlag_ok (j := 25) (q := 0) (n := 40) (loc := 1600) (PCx_l C) (PCx_I C) rfl rfl rfl o4) rfl rfl (Nat.le_of_ble_eq_true rfl) (Nat.le_of_ble_eq_true rfl) (Nat.le_of_ble_eq_true rfl) (Nat.le_of_ble_eq_true rfl) ?_
      rintro _ rfl
      refine px_aload_n (i := 0) C dX2_spreadError_35 rfl rfl ?_
      refine px_getr C dX2_spreadError_36 fl_RX2_24 rfl rfl rfl ?_
      refine px_iload_n (i := 2) C dX2_spreadError_39 rfl rfl ?_
      obtain ⟨o6, hk⟩ := hk
      refine px_callSNi (h := 0) (rc' := 0) (rs' := 0) C (HR_le hHR (Nat.le_of_ble_eq_true rfl)) hRt hnT dX2_spreadError_40 (List.mem_append_right _ (List.mem_append_left _ (List.mem_of_getElem? (i := 7) rfl))) ms_X8_at (at_ok (j := 23) (q := 0) (n := 40) (loc := 1472) (PCx_l C) (PCx_I C) rfl rfl rfl o6) rfl rfl (Nat.le_of_ble_eq_true rfl) (Nat.le_of_ble_eq_true rfl) (Nat.le_of_ble_eq_true rfl) (Nat.le_of_ble_eq_true rfl) ?_
      rintro _ _ ⟨rfl, rfl⟩
      refine px_istore_n (i := 2) C dX2_spreadError_43 rfl (by decide) rfl ?_
      refine px_iinc (i := 3) (v := (1 : Int32)) C dX2_spreadError_44 rfl rfl (by decide) rfl ?_
      refine px_goto (tgt := 11) C dX2_spreadError_47 (by decide) ?_
      exact PW_at (hR11 _ _ _ hk) (And.intro rfl (And.intro rfl (And.intro rfl trivial))) (Nat.le_of_ble_eq_true rfl) (Nat.le_of_ble_eq_true rfl)
set_option maxRecDepth 100000 in
set_option maxHeartbeats 4000000 in
theorem w2_spreadError_ok {l : Launch} {idx : List (Nat × Nat)} {μ : Mem} {a1 : Int32} {P : Mem → Prop} {X : String → Mem → Prop} (hl : l.stackTraces = false) (hI : IdxOK idx) (hk : w2_spreadError_wp μ a1 P) : PMet l yX2_spreadError (.code yX2_spreadError cX2_spreadError 4 none) 1 0 0 idx [pR 18 0, pI a1] μ (qV P) X := by
  refine PMet_of mv_X2_spreadError.2.2.2.2.2.2 hl hI mv_X2_spreadError.2.2.2.1 rfl (Nat.le_of_ble_eq_true rfl) (fun G _ _ C hRt hHR hnT => ?_)
  show PW G 0 0 0 [some (pR 18 0), some (pI a1), none, none] [] μ
  unfold w2_spreadError_wp at hk
  refine px_aload_n (i := 0) C dX2_spreadError_0 rfl rfl ?_
  refine px_getr C dX2_spreadError_1 fl_RX2_24 rfl rfl rfl ?_
  refine px_iload_n (i := 1) C dX2_spreadError_4 rfl rfl ?_
  obtain ⟨o1, hk⟩ := hk
  refine px_callSNi (h := 0) (rc' := 0) (rs' := 0) C (HR_le hHR (Nat.le_of_ble_eq_true rfl)) hRt hnT dX2_spreadError_5 (List.mem_append_right _ (List.mem_append_left _ (List.mem_of_getElem? (i := 7) rfl))) ms_X8_at (at_ok (j := 23) (q := 0) (n := 40) (loc := 1472) (PCx_l C) (PCx_I C) rfl rfl rfl o1) rfl rfl (Nat.le_of_ble_eq_true rfl) (Nat.le_of_ble_eq_true rfl) (Nat.le_of_ble_eq_true rfl) (Nat.le_of_ble_eq_true rfl) ?_
  rintro _ _ ⟨rfl, rfl⟩
  refine px_istore_n (i := 2) C dX2_spreadError_8 rfl (by decide) rfl ?_
  refine px_iconst (v := (0 : Int32)) C dX2_spreadError_9 rfl ?_
  refine px_istore_n (i := 3) C dX2_spreadError_10 rfl (by decide) rfl ?_
  exact PW_at (w2_spreadError_b11_ok C hRt hHR hnT hk) (And.intro rfl (And.intro rfl (And.intro rfl trivial))) (Nat.le_of_ble_eq_true rfl) (Nat.le_of_ble_eq_true rfl)
theorem dX2_topOf_0 : decode cX2_topOf 0 = .ok (.iload_n 1, 1) := by decide +kernel
theorem dX2_topOf_1 : decode cX2_topOf 1 = .ok (.istore_n 2, 1) := by decide +kernel
theorem dX2_topOf_2 : decode cX2_topOf 2 = .ok (.iconst 0, 1) := by decide +kernel
theorem dX2_topOf_3 : decode cX2_topOf 3 = .ok (.istore_n 3, 1) := by decide +kernel
theorem dX2_topOf_4 : decode cX2_topOf 4 = .ok (.iload_n 3, 1) := by decide +kernel
theorem dX2_topOf_5 : decode cX2_topOf 5 = .ok (.bipush 40, 2) := by decide +kernel
theorem dX2_topOf_7 : decode cX2_topOf 7 = .ok (.if_icmp .ge 34, 3) := by decide +kernel
theorem dX2_topOf_10 : decode cX2_topOf 10 = .ok (.aload_n 0, 1) := by decide +kernel
theorem dX2_topOf_11 : decode cX2_topOf 11 = .ok (.getfield 24, 3) := by decide +kernel
theorem dX2_topOf_14 : decode cX2_topOf 14 = .ok (.iload_n 2, 1) := by decide +kernel
theorem dX2_topOf_15 : decode cX2_topOf 15 = .ok (.invokestatic 54, 3) := by decide +kernel
theorem dX2_topOf_18 : decode cX2_topOf 18 = .ok (.bipush 40, 2) := by decide +kernel
theorem dX2_topOf_20 : decode cX2_topOf 20 = .ok (.invokestatic 58, 3) := by decide +kernel
theorem dX2_topOf_23 : decode cX2_topOf 23 = .ok (.ifCond .eq 18, 3) := by decide +kernel
theorem dX2_topOf_26 : decode cX2_topOf 26 = .ok (.aload_n 0, 1) := by decide +kernel
theorem dX2_topOf_27 : decode cX2_topOf 27 = .ok (.getfield 24, 3) := by decide +kernel
theorem dX2_topOf_30 : decode cX2_topOf 30 = .ok (.iload_n 2, 1) := by decide +kernel
theorem dX2_topOf_31 : decode cX2_topOf 31 = .ok (.invokestatic 54, 3) := by decide +kernel
theorem dX2_topOf_34 : decode cX2_topOf 34 = .ok (.istore_n 2, 1) := by decide +kernel
theorem dX2_topOf_35 : decode cX2_topOf 35 = .ok (.iinc 3 1, 3) := by decide +kernel
theorem dX2_topOf_38 : decode cX2_topOf 38 = .ok (.goto (-34), 3) := by decide +kernel
theorem dX2_topOf_41 : decode cX2_topOf 41 = .ok (.iload_n 2, 1) := by decide +kernel
theorem dX2_topOf_42 : decode cX2_topOf 42 = .ok (.ireturn, 1) := by decide +kernel
set_option maxRecDepth 100000 in
set_option maxHeartbeats 4000000 in
theorem w2_topOf_b4_ok {G : GT} {P : Int32 → Mem → Prop} {X : String → Mem → Prop} (C : PCx G cX2_topOf 4 RX2) (hRt : PRt G (some .int) (qI P) X) (hHR : HR G (1)) (hnT : NoT G) {μ : Mem} {l2 : Int32} {l3 : Int32} (hk : w2_topOf_b4 P μ l2 l3) : PW G 0 0 4 [some (pR 18 0), none, some (pI l2), some (pI l3)] [] μ := by
  refine hk (fun (μ : Mem) (l2 : Int32) (l3 : Int32) => PW G 0 0 4 [some (pR 18 0), none, some (pI l2), some (pI l3)] [] μ) (fun (μ : Mem) l2 l3 hk => ?_)
  have hR4 : ∀ (μ : Mem) (l2 : Int32) (l3 : Int32), PW G 0 0 4 [some (pR 18 0), none, some (pI l2), some (pI l3)] [] μ → PW G 0 0 4 [some (pR 18 0), none, some (pI l2), some (pI l3)] [] μ := fun _ _ _ h => h
  unfold w2_topOf_b4_body at hk
  refine px_iload_n (i := 3) C dX2_topOf_4 rfl rfl ?_
  refine px_bipush (v := (40 : Int32)) C dX2_topOf_5 rfl ?_
  refine px_icmp_ge (tgt := 41) C dX2_topOf_7 (by decide) (fun c6 => ?_) (fun c6 => ?_)
  · replace hk := hk.1 c6
    refine px_iload_n (i := 2) C dX2_topOf_41 rfl rfl ?_
    exact px_iret C hRt dX2_topOf_42 rfl rfl hk
  · replace hk := hk.2 c6
    refine px_aload_n (i := 0) C dX2_topOf_10 rfl rfl ?_
    refine px_getr C dX2_topOf_11 fl_RX2_24 rfl rfl rfl ?_
    refine px_iload_n (i := 2) C dX2_topOf_14 rfl rfl ?_
    obtain ⟨o1, hk⟩ := hk
    refine px_callSNi (h := 0) (rc' := 0) (rs' := 0) C (HR_le hHR (Nat.le_of_ble_eq_true rfl)) hRt hnT dX2_topOf_15 (List.mem_append_right _ (List.mem_append_left _ (List.mem_of_getElem? (i := 7) rfl))) ms_X8_at (at_ok (j := 23) (q := 0) (n := 40) (loc := 1472) (PCx_l C) (PCx_I C) rfl rfl rfl o1) rfl rfl (Nat.le_of_ble_eq_true rfl) (Nat.le_of_ble_eq_true rfl) (Nat.le_of_ble_eq_true rfl) (Nat.le_of_ble_eq_true rfl) ?_
    rintro _ _ ⟨rfl, rfl⟩
    refine px_bipush (v := (40 : Int32)) C dX2_topOf_18 rfl ?_
    refine px_callSNi (h := 0) (rc' := 0) (rs' := 0) C (HR_le hHR (Nat.le_of_ble_eq_true rfl)) hRt hnT dX2_topOf_20 (List.mem_append_right _ (List.mem_append_left _ (List.mem_of_getElem? (i := 8) rfl))) ms_X8_isWithin (w8_isWithin_ok (PCx_l C) (PCx_I C) hk) rfl rfl (Nat.le_of_ble_eq_true rfl) (Nat.le_of_ble_eq_true rfl) (Nat.le_of_ble_eq_true rfl) (Nat.le_of_ble_eq_true rfl) ?_
    intro r3 μ2 hk
    refine px_if_eq (tgt := 41) C dX2_topOf_23 (by decide) (fun c5 => ?_) (fun c5 => ?_)
    · replace hk := hk.1 c5
      refine px_iload_n (i := 2) C dX2_topOf_41 rfl rfl ?_
      exact px_iret C hRt dX2_topOf_42 rfl rfl hk
    · replace hk := hk.2 c5
      refine px_aload_n (i := 0) C dX2_topOf_26 rfl rfl ?_
      refine px_getr C dX2_topOf_27 fl_RX2_24 rfl rfl rfl ?_
      refine px_iload_n (i := 2) C dX2_topOf_30 rfl rfl ?_
      obtain ⟨o4, hk⟩ := hk
      refine px_callSNi (h := 0) (rc' := 0) (rs' := 0) C (HR_le hHR (Nat.le_of_ble_eq_true rfl)) hRt hnT dX2_topOf_31 (List.mem_append_right _ (List.mem_append_left _ (List.mem_of_getElem? (i := 7) rfl))) ms_X8_at (at_ok (j := 23) (q := 0) (n := 40) (loc := 1472) (PCx_l C) (PCx_I C) rfl rfl rfl o4) rfl rfl (Nat.le_of_ble_eq_true rfl) (Nat.le_of_ble_eq_true rfl) (Nat.le_of_ble_eq_true rfl) (Nat.le_of_ble_eq_true rfl) ?_
      rintro _ _ ⟨rfl, rfl⟩
      refine px_istore_n (i := 2) C dX2_topOf_34 rfl (by decide) rfl ?_
      refine px_iinc (i := 3) (v := (1 : Int32)) C dX2_topOf_35 rfl rfl (by decide) rfl ?_
      refine px_goto (tgt := 4) C dX2_topOf_38 (by decide) ?_
      exact PW_at (hR4 _ _ _ hk) (And.intro rfl (And.intro rfl (And.intro rfl trivial))) (Nat.le_of_ble_eq_true rfl) (Nat.le_of_ble_eq_true rfl)
set_option maxRecDepth 100000 in
set_option maxHeartbeats 4000000 in
theorem w2_topOf_ok {l : Launch} {idx : List (Nat × Nat)} {μ : Mem} {a1 : Int32} {P : Int32 → Mem → Prop} {X : String → Mem → Prop} (hl : l.stackTraces = false) (hI : IdxOK idx) (hk : w2_topOf_wp μ a1 P) : PMet l yX2_topOf (.code yX2_topOf cX2_topOf 4 (some .int)) 1 0 0 idx [pR 18 0, pI a1] μ (qI P) X := by
  refine PMet_of mv_X2_topOf.2.2.2.2.2.2 hl hI mv_X2_topOf.2.2.2.1 rfl (Nat.le_of_ble_eq_true rfl) (fun G _ _ C hRt hHR hnT => ?_)
  show PW G 0 0 0 [some (pR 18 0), some (pI a1), none, none] [] μ
  unfold w2_topOf_wp at hk
  refine px_iload_n (i := 1) C dX2_topOf_0 rfl rfl ?_
  refine px_istore_n (i := 2) C dX2_topOf_1 rfl (by decide) rfl ?_
  refine px_iconst (v := (0 : Int32)) C dX2_topOf_2 rfl ?_
  refine px_istore_n (i := 3) C dX2_topOf_3 rfl (by decide) rfl ?_
  exact PW_at (w2_topOf_b4_ok C hRt hHR hnT hk) (And.intro rfl (And.intro rfl (And.intro rfl trivial))) (Nat.le_of_ble_eq_true rfl) (Nat.le_of_ble_eq_true rfl)
theorem dX2_rootNumber_0 : decode cX2_rootNumber 0 = .ok (.aload_n 0, 1) := by decide +kernel
theorem dX2_rootNumber_1 : decode cX2_rootNumber 1 = .ok (.iload_n 1, 1) := by decide +kernel
theorem dX2_rootNumber_2 : decode cX2_rootNumber 2 = .ok (.invokevirtual 114, 3) := by decide +kernel
theorem dX2_rootNumber_5 : decode cX2_rootNumber 5 = .ok (.istore_n 2, 1) := by decide +kernel
theorem dX2_rootNumber_6 : decode cX2_rootNumber 6 = .ok (.aload_n 0, 1) := by decide +kernel
theorem dX2_rootNumber_7 : decode cX2_rootNumber 7 = .ok (.getfield 21, 3) := by decide +kernel
theorem dX2_rootNumber_10 : decode cX2_rootNumber 10 = .ok (.iload_n 2, 1) := by decide +kernel
theorem dX2_rootNumber_11 : decode cX2_rootNumber 11 = .ok (.invokestatic 54, 3) := by decide +kernel
theorem dX2_rootNumber_14 : decode cX2_rootNumber 14 = .ok (.iconst 2, 1) := by decide +kernel
theorem dX2_rootNumber_15 : decode cX2_rootNumber 15 = .ok (.if_icmp .ne 14, 3) := by decide +kernel
theorem dX2_rootNumber_18 : decode cX2_rootNumber 18 = .ok (.aload_n 0, 1) := by decide +kernel
theorem dX2_rootNumber_19 : decode cX2_rootNumber 19 = .ok (.getfield 27, 3) := by decide +kernel
theorem dX2_rootNumber_22 : decode cX2_rootNumber 22 = .ok (.iload_n 2, 1) := by decide +kernel
theorem dX2_rootNumber_23 : decode cX2_rootNumber 23 = .ok (.invokestatic 54, 3) := by decide +kernel
theorem dX2_rootNumber_26 : decode cX2_rootNumber 26 = .ok (.goto 14, 3) := by decide +kernel
theorem dX2_rootNumber_29 : decode cX2_rootNumber 29 = .ok (.aload_n 0, 1) := by decide +kernel
theorem dX2_rootNumber_30 : decode cX2_rootNumber 30 = .ok (.getfield 37, 3) := by decide +kernel
theorem dX2_rootNumber_33 : decode cX2_rootNumber 33 = .ok (.getfield 108, 3) := by decide +kernel
theorem dX2_rootNumber_36 : decode cX2_rootNumber 36 = .ok (.iload_n 2, 1) := by decide +kernel
theorem dX2_rootNumber_37 : decode cX2_rootNumber 37 = .ok (.invokestatic 54, 3) := by decide +kernel
theorem dX2_rootNumber_40 : decode cX2_rootNumber 40 = .ok (.ireturn, 1) := by decide +kernel
set_option maxRecDepth 100000 in
set_option maxHeartbeats 4000000 in
theorem w2_rootNumber_ok {l : Launch} {idx : List (Nat × Nat)} {μ : Mem} {a1 : Int32} {P : Int32 → Mem → Prop} {X : String → Mem → Prop} (hl : l.stackTraces = false) (hI : IdxOK idx) (hk : w2_rootNumber_wp μ a1 P) : PMet l yX2_rootNumber (.code yX2_rootNumber cX2_rootNumber 3 (some .int)) 2 0 0 idx [pR 18 0, pI a1] μ (qI P) X := by
  refine PMet_of mv_X2_rootNumber.2.2.2.2.2.2 hl hI mv_X2_rootNumber.2.2.2.1 rfl (Nat.le_of_ble_eq_true rfl) (fun G _ _ C hRt hHR hnT => ?_)
  show PW G 0 0 0 [some (pR 18 0), some (pI a1), none] [] μ
  unfold w2_rootNumber_wp at hk
  refine px_aload_n (i := 0) C dX2_rootNumber_0 rfl rfl ?_
  refine px_iload_n (i := 1) C dX2_rootNumber_1 rfl rfl ?_
  refine px_callVi (h := 1) (rc' := 0) (rs' := 0) C (HR_le hHR (Nat.le_of_ble_eq_true rfl)) hRt hnT dX2_rootNumber_2 (gw4 110 rfl rfl) mv_X2_topOf (w2_topOf_ok (PCx_l C) (PCx_I C) hk) rfl rfl rfl rfl rfl (Nat.le_of_ble_eq_true rfl) (Nat.le_of_ble_eq_true rfl) (Nat.le_of_ble_eq_true rfl) (Nat.le_of_ble_eq_true rfl) ?_
  intro r2 μ1 hk
  refine px_istore_n (i := 2) C dX2_rootNumber_5 rfl (by decide) rfl ?_
  refine px_aload_n (i := 0) C dX2_rootNumber_6 rfl rfl ?_
  refine px_getr C dX2_rootNumber_7 fl_RX2_21 rfl rfl rfl ?_
  refine px_iload_n (i := 2) C dX2_rootNumber_10 rfl rfl ?_
  obtain ⟨o3, hk⟩ := hk
  refine px_callSNi (h := 0) (rc' := 0) (rs' := 0) C (HR_le hHR (Nat.le_of_ble_eq_true rfl)) hRt hnT dX2_rootNumber_11 (List.mem_append_right _ (List.mem_append_left _ (List.mem_of_getElem? (i := 7) rfl))) ms_X8_at (at_ok (j := 22) (q := 0) (n := 40) (loc := 1408) (PCx_l C) (PCx_I C) rfl rfl rfl o3) rfl rfl (Nat.le_of_ble_eq_true rfl) (Nat.le_of_ble_eq_true rfl) (Nat.le_of_ble_eq_true rfl) (Nat.le_of_ble_eq_true rfl) ?_
  rintro _ _ ⟨rfl, rfl⟩
  refine px_iconst (v := (2 : Int32)) C dX2_rootNumber_14 rfl ?_
  refine px_icmp_ne (tgt := 29) C dX2_rootNumber_15 (by decide) (fun c6 => ?_) (fun c6 => ?_)
  · replace hk := hk.1 c6
    refine px_aload_n (i := 0) C dX2_rootNumber_29 rfl rfl ?_
    refine px_getr C dX2_rootNumber_30 fl_RX2_37 rfl rfl rfl ?_
    refine px_getr C dX2_rootNumber_33 fl_RX2_108 rfl rfl rfl ?_
    refine px_iload_n (i := 2) C dX2_rootNumber_36 rfl rfl ?_
    obtain ⟨o4, hk⟩ := hk
    refine px_callSNi (h := 0) (rc' := 0) (rs' := 0) C (HR_le hHR (Nat.le_of_ble_eq_true rfl)) hRt hnT dX2_rootNumber_37 (List.mem_append_right _ (List.mem_append_left _ (List.mem_of_getElem? (i := 7) rfl))) ms_X8_at (at_ok (j := 2) (q := 0) (n := 40) (loc := 128) (PCx_l C) (PCx_I C) rfl rfl rfl o4) rfl rfl (Nat.le_of_ble_eq_true rfl) (Nat.le_of_ble_eq_true rfl) (Nat.le_of_ble_eq_true rfl) (Nat.le_of_ble_eq_true rfl) ?_
    rintro _ _ ⟨rfl, rfl⟩
    exact px_iret C hRt dX2_rootNumber_40 rfl rfl hk
  · replace hk := hk.2 c6
    refine px_aload_n (i := 0) C dX2_rootNumber_18 rfl rfl ?_
    refine px_getr C dX2_rootNumber_19 fl_RX2_27 rfl rfl rfl ?_
    refine px_iload_n (i := 2) C dX2_rootNumber_22 rfl rfl ?_
    obtain ⟨o5, hk⟩ := hk
    refine px_callSNi (h := 0) (rc' := 0) (rs' := 0) C (HR_le hHR (Nat.le_of_ble_eq_true rfl)) hRt hnT dX2_rootNumber_23 (List.mem_append_right _ (List.mem_append_left _ (List.mem_of_getElem? (i := 7) rfl))) ms_X8_at (at_ok (j := 24) (q := 0) (n := 40) (loc := 1536) (PCx_l C) (PCx_I C) rfl rfl rfl o5) rfl rfl (Nat.le_of_ble_eq_true rfl) (Nat.le_of_ble_eq_true rfl) (Nat.le_of_ble_eq_true rfl) (Nat.le_of_ble_eq_true rfl) ?_
    rintro _ _ ⟨rfl, rfl⟩
    refine px_goto (tgt := 40) C dX2_rootNumber_26 (by decide) ?_
    exact px_iret C hRt dX2_rootNumber_40 rfl rfl hk
theorem dX2_nodesAbove_0 : decode cX2_nodesAbove 0 = .ok (.iload_n 1, 1) := by decide +kernel
theorem dX2_nodesAbove_1 : decode cX2_nodesAbove 1 = .ok (.istore_n 2, 1) := by decide +kernel
theorem dX2_nodesAbove_2 : decode cX2_nodesAbove 2 = .ok (.iconst 0, 1) := by decide +kernel
theorem dX2_nodesAbove_3 : decode cX2_nodesAbove 3 = .ok (.istore_n 3, 1) := by decide +kernel
theorem dX2_nodesAbove_4 : decode cX2_nodesAbove 4 = .ok (.iconst 0, 1) := by decide +kernel
theorem dX2_nodesAbove_5 : decode cX2_nodesAbove 5 = .ok (.istore 4, 2) := by decide +kernel
theorem dX2_nodesAbove_7 : decode cX2_nodesAbove 7 = .ok (.iload 4, 2) := by decide +kernel
theorem dX2_nodesAbove_9 : decode cX2_nodesAbove 9 = .ok (.bipush 40, 2) := by decide +kernel
theorem dX2_nodesAbove_11 : decode cX2_nodesAbove 11 = .ok (.if_icmp .ge 37, 3) := by decide +kernel
theorem dX2_nodesAbove_14 : decode cX2_nodesAbove 14 = .ok (.aload_n 0, 1) := by decide +kernel
theorem dX2_nodesAbove_15 : decode cX2_nodesAbove 15 = .ok (.getfield 24, 3) := by decide +kernel
theorem dX2_nodesAbove_18 : decode cX2_nodesAbove 18 = .ok (.iload_n 2, 1) := by decide +kernel
theorem dX2_nodesAbove_19 : decode cX2_nodesAbove 19 = .ok (.invokestatic 54, 3) := by decide +kernel
theorem dX2_nodesAbove_22 : decode cX2_nodesAbove 22 = .ok (.bipush 40, 2) := by decide +kernel
theorem dX2_nodesAbove_24 : decode cX2_nodesAbove 24 = .ok (.invokestatic 58, 3) := by decide +kernel
theorem dX2_nodesAbove_27 : decode cX2_nodesAbove 27 = .ok (.ifCond .eq 21, 3) := by decide +kernel
theorem dX2_nodesAbove_30 : decode cX2_nodesAbove 30 = .ok (.aload_n 0, 1) := by decide +kernel
theorem dX2_nodesAbove_31 : decode cX2_nodesAbove 31 = .ok (.getfield 24, 3) := by decide +kernel
theorem dX2_nodesAbove_34 : decode cX2_nodesAbove 34 = .ok (.iload_n 2, 1) := by decide +kernel
theorem dX2_nodesAbove_35 : decode cX2_nodesAbove 35 = .ok (.invokestatic 54, 3) := by decide +kernel
theorem dX2_nodesAbove_38 : decode cX2_nodesAbove 38 = .ok (.istore_n 2, 1) := by decide +kernel
theorem dX2_nodesAbove_39 : decode cX2_nodesAbove 39 = .ok (.iinc 3 1, 3) := by decide +kernel
theorem dX2_nodesAbove_42 : decode cX2_nodesAbove 42 = .ok (.iinc 4 1, 3) := by decide +kernel
theorem dX2_nodesAbove_45 : decode cX2_nodesAbove 45 = .ok (.goto (-38), 3) := by decide +kernel
theorem dX2_nodesAbove_48 : decode cX2_nodesAbove 48 = .ok (.aload_n 0, 1) := by decide +kernel
theorem dX2_nodesAbove_49 : decode cX2_nodesAbove 49 = .ok (.getfield 21, 3) := by decide +kernel
theorem dX2_nodesAbove_52 : decode cX2_nodesAbove 52 = .ok (.iload_n 2, 1) := by decide +kernel
theorem dX2_nodesAbove_53 : decode cX2_nodesAbove 53 = .ok (.invokestatic 54, 3) := by decide +kernel
theorem dX2_nodesAbove_56 : decode cX2_nodesAbove 56 = .ok (.iconst 2, 1) := by decide +kernel
theorem dX2_nodesAbove_57 : decode cX2_nodesAbove 57 = .ok (.if_icmp .ne 9, 3) := by decide +kernel
theorem dX2_nodesAbove_60 : decode cX2_nodesAbove 60 = .ok (.iload_n 3, 1) := by decide +kernel
theorem dX2_nodesAbove_61 : decode cX2_nodesAbove 61 = .ok (.iconst 1, 1) := by decide +kernel
theorem dX2_nodesAbove_62 : decode cX2_nodesAbove 62 = .ok (.iadd, 1) := by decide +kernel
theorem dX2_nodesAbove_63 : decode cX2_nodesAbove 63 = .ok (.goto 4, 3) := by decide +kernel
theorem dX2_nodesAbove_66 : decode cX2_nodesAbove 66 = .ok (.iload_n 3, 1) := by decide +kernel
theorem dX2_nodesAbove_67 : decode cX2_nodesAbove 67 = .ok (.ireturn, 1) := by decide +kernel
set_option maxRecDepth 100000 in
set_option maxHeartbeats 4000000 in
theorem w2_nodesAbove_b48_ok {G : GT} {P : Int32 → Mem → Prop} {X : String → Mem → Prop} (C : PCx G cX2_nodesAbove 5 RX2) (hRt : PRt G (some .int) (qI P) X) (hHR : HR G (1)) (hnT : NoT G) {μ : Mem} {l2 : Int32} {l3 : Int32} (hk : w2_nodesAbove_b48 P μ l2 l3) : PW G 0 0 48 [some (pR 18 0), none, some (pI l2), some (pI l3), none] [] μ := by
  unfold w2_nodesAbove_b48 at hk
  refine px_aload_n (i := 0) C dX2_nodesAbove_48 rfl rfl ?_
  refine px_getr C dX2_nodesAbove_49 fl_RX2_21 rfl rfl rfl ?_
  refine px_iload_n (i := 2) C dX2_nodesAbove_52 rfl rfl ?_
  obtain ⟨o1, hk⟩ := hk
  refine px_callSNi (h := 0) (rc' := 0) (rs' := 0) C (HR_le hHR (Nat.le_of_ble_eq_true rfl)) hRt hnT dX2_nodesAbove_53 (List.mem_append_right _ (List.mem_append_left _ (List.mem_of_getElem? (i := 7) rfl))) ms_X8_at (at_ok (j := 22) (q := 0) (n := 40) (loc := 1408) (PCx_l C) (PCx_I C) rfl rfl rfl o1) rfl rfl (Nat.le_of_ble_eq_true rfl) (Nat.le_of_ble_eq_true rfl) (Nat.le_of_ble_eq_true rfl) (Nat.le_of_ble_eq_true rfl) ?_
  rintro _ _ ⟨rfl, rfl⟩
  refine px_iconst (v := (2 : Int32)) C dX2_nodesAbove_56 rfl ?_
  refine px_icmp_ne (tgt := 66) C dX2_nodesAbove_57 (by decide) (fun c2 => ?_) (fun c2 => ?_)
  · replace hk := hk.1 c2
    refine px_iload_n (i := 3) C dX2_nodesAbove_66 rfl rfl ?_
    exact px_iret C hRt dX2_nodesAbove_67 rfl rfl hk
  · replace hk := hk.2 c2
    refine px_iload_n (i := 3) C dX2_nodesAbove_60 rfl rfl ?_
    refine px_iconst (v := (1 : Int32)) C dX2_nodesAbove_61 rfl ?_
    refine px_iadd C dX2_nodesAbove_62 ?_
    refine px_goto (tgt := 67) C dX2_nodesAbove_63 (by decide) ?_
    exact px_iret C hRt dX2_nodesAbove_67 rfl rfl hk
set_option maxRecDepth 100000 in
set_option maxHeartbeats 4000000 in
theorem w2_nodesAbove_b7_ok {G : GT} {P : Int32 → Mem → Prop} {X : String → Mem → Prop} (C : PCx G cX2_nodesAbove 5 RX2) (hRt : PRt G (some .int) (qI P) X) (hHR : HR G (1)) (hnT : NoT G) {μ : Mem} {l2 : Int32} {l3 : Int32} {l4 : Int32} (hk : w2_nodesAbove_b7 P μ l2 l3 l4) : PW G 0 0 7 [some (pR 18 0), none, some (pI l2), some (pI l3), some (pI l4)] [] μ := by
  refine hk (fun (μ : Mem) (l2 : Int32) (l3 : Int32) (l4 : Int32) => PW G 0 0 7 [some (pR 18 0), none, some (pI l2), some (pI l3), some (pI l4)] [] μ) (fun (μ : Mem) l2 l3 l4 hk => ?_)
  have hR7 : ∀ (μ : Mem) (l2 : Int32) (l3 : Int32) (l4 : Int32), PW G 0 0 7 [some (pR 18 0), none, some (pI l2), some (pI l3), some (pI l4)] [] μ → PW G 0 0 7 [some (pR 18 0), none, some (pI l2), some (pI l3), some (pI l4)] [] μ := fun _ _ _ _ h => h
  unfold w2_nodesAbove_b7_body at hk
  refine px_iload (i := 4) C dX2_nodesAbove_7 rfl ?_
  refine px_bipush (v := (40 : Int32)) C dX2_nodesAbove_9 rfl ?_
  refine px_icmp_ge (tgt := 48) C dX2_nodesAbove_11 (by decide) (fun c8 => ?_) (fun c8 => ?_)
  · replace hk := hk.1 c8
    exact PW_at (w2_nodesAbove_b48_ok C hRt hHR hnT hk) (And.intro rfl (And.intro rfl (And.intro rfl trivial))) (Nat.le_of_ble_eq_true rfl) (Nat.le_of_ble_eq_true rfl)
  · replace hk := hk.2 c8
    refine px_aload_n (i := 0) C dX2_nodesAbove_14 rfl rfl ?_
    refine px_getr C dX2_nodesAbove_15 fl_RX2_24 rfl rfl rfl ?_
    refine px_iload_n (i := 2) C dX2_nodesAbove_18 rfl rfl ?_
    obtain ⟨o3, hk⟩ := hk
    refine px_callSNi (h := 0) (rc' := 0) (rs' := 0) C (HR_le hHR (Nat.le_of_ble_eq_true rfl)) hRt hnT dX2_nodesAbove_19 (List.mem_append_right _ (List.mem_append_left _ (List.mem_of_getElem? (i := 7) rfl))) ms_X8_at (at_ok (j := 23) (q := 0) (n := 40) (loc := 1472) (PCx_l C) (PCx_I C) rfl rfl rfl o3) rfl rfl (Nat.le_of_ble_eq_true rfl) (Nat.le_of_ble_eq_true rfl) (Nat.le_of_ble_eq_true rfl) (Nat.le_of_ble_eq_true rfl) ?_
    rintro _ _ ⟨rfl, rfl⟩
    refine px_bipush (v := (40 : Int32)) C dX2_nodesAbove_22 rfl ?_
    refine px_callSNi (h := 0) (rc' := 0) (rs' := 0) C (HR_le hHR (Nat.le_of_ble_eq_true rfl)) hRt hnT dX2_nodesAbove_24 (List.mem_append_right _ (List.mem_append_left _ (List.mem_of_getElem? (i := 8) rfl))) ms_X8_isWithin (w8_isWithin_ok (PCx_l C) (PCx_I C) hk) rfl rfl (Nat.le_of_ble_eq_true rfl) (Nat.le_of_ble_eq_true rfl) (Nat.le_of_ble_eq_true rfl) (Nat.le_of_ble_eq_true rfl) ?_
    intro r5 μ4 hk
    refine px_if_eq (tgt := 48) C dX2_nodesAbove_27 (by decide) (fun c7 => ?_) (fun c7 => ?_)
    · replace hk := hk.1 c7
      exact PW_at (w2_nodesAbove_b48_ok C hRt hHR hnT hk) (And.intro rfl (And.intro rfl (And.intro rfl trivial))) (Nat.le_of_ble_eq_true rfl) (Nat.le_of_ble_eq_true rfl)
    · replace hk := hk.2 c7
      refine px_aload_n (i := 0) C dX2_nodesAbove_30 rfl rfl ?_
      refine px_getr C dX2_nodesAbove_31 fl_RX2_24 rfl rfl rfl ?_
      refine px_iload_n (i := 2) C dX2_nodesAbove_34 rfl rfl ?_
      obtain ⟨o6, hk⟩ := hk
      refine px_callSNi (h := 0) (rc' := 0) (rs' := 0) C (HR_le hHR (Nat.le_of_ble_eq_true rfl)) hRt hnT dX2_nodesAbove_35 (List.mem_append_right _ (List.mem_append_left _ (List.mem_of_getElem? (i := 7) rfl))) ms_X8_at (at_ok (j := 23) (q := 0) (n := 40) (loc := 1472) (PCx_l C) (PCx_I C) rfl rfl rfl o6) rfl rfl (Nat.le_of_ble_eq_true rfl) (Nat.le_of_ble_eq_true rfl) (Nat.le_of_ble_eq_true rfl) (Nat.le_of_ble_eq_true rfl) ?_
      rintro _ _ ⟨rfl, rfl⟩
      refine px_istore_n (i := 2) C dX2_nodesAbove_38 rfl (by decide) rfl ?_
      refine px_iinc (i := 3) (v := (1 : Int32)) C dX2_nodesAbove_39 rfl rfl (by decide) rfl ?_
      refine px_iinc (i := 4) (v := (1 : Int32)) C dX2_nodesAbove_42 rfl rfl (by decide) rfl ?_
      refine px_goto (tgt := 7) C dX2_nodesAbove_45 (by decide) ?_
      exact PW_at (hR7 _ _ _ _ hk) (And.intro rfl (And.intro rfl (And.intro rfl (And.intro rfl trivial)))) (Nat.le_of_ble_eq_true rfl) (Nat.le_of_ble_eq_true rfl)
set_option maxRecDepth 100000 in
set_option maxHeartbeats 4000000 in
theorem w2_nodesAbove_ok {l : Launch} {idx : List (Nat × Nat)} {μ : Mem} {a1 : Int32} {P : Int32 → Mem → Prop} {X : String → Mem → Prop} (hl : l.stackTraces = false) (hI : IdxOK idx) (hk : w2_nodesAbove_wp μ a1 P) : PMet l yX2_nodesAbove (.code yX2_nodesAbove cX2_nodesAbove 5 (some .int)) 1 0 0 idx [pR 18 0, pI a1] μ (qI P) X := by
  refine PMet_of mv_X2_nodesAbove.2.2.2.2.2.2 hl hI mv_X2_nodesAbove.2.2.2.1 rfl (Nat.le_of_ble_eq_true rfl) (fun G _ _ C hRt hHR hnT => ?_)
  show PW G 0 0 0 [some (pR 18 0), some (pI a1), none, none, none] [] μ
  unfold w2_nodesAbove_wp at hk
  refine px_iload_n (i := 1) C dX2_nodesAbove_0 rfl rfl ?_
  refine px_istore_n (i := 2) C dX2_nodesAbove_1 rfl (by decide) rfl ?_
  refine px_iconst (v := (0 : Int32)) C dX2_nodesAbove_2 rfl ?_
  refine px_istore_n (i := 3) C dX2_nodesAbove_3 rfl (by decide) rfl ?_
  refine px_iconst (v := (0 : Int32)) C dX2_nodesAbove_4 rfl ?_
  refine px_istore (i := 4) C dX2_nodesAbove_5 (by decide) rfl ?_
  exact PW_at (w2_nodesAbove_b7_ok C hRt hHR hnT hk) (And.intro rfl (And.intro rfl (And.intro rfl (And.intro rfl trivial)))) (Nat.le_of_ble_eq_true rfl) (Nat.le_of_ble_eq_true rfl)
theorem dX2_isDescendant_0 : decode cX2_isDescendant 0 = .ok (.iload_n 1, 1) := by decide +kernel
theorem dX2_isDescendant_1 : decode cX2_isDescendant 1 = .ok (.istore 4, 2) := by decide +kernel
theorem dX2_isDescendant_3 : decode cX2_isDescendant 3 = .ok (.iconst 0, 1) := by decide +kernel
theorem dX2_isDescendant_4 : decode cX2_isDescendant 4 = .ok (.istore 5, 2) := by decide +kernel
theorem dX2_isDescendant_6 : decode cX2_isDescendant 6 = .ok (.iload 5, 2) := by decide +kernel
theorem dX2_isDescendant_8 : decode cX2_isDescendant 8 = .ok (.bipush 40, 2) := by decide +kernel
theorem dX2_isDescendant_10 : decode cX2_isDescendant 10 = .ok (.if_icmp .ge 43, 3) := by decide +kernel
theorem dX2_isDescendant_13 : decode cX2_isDescendant 13 = .ok (.iload 4, 2) := by decide +kernel
theorem dX2_isDescendant_15 : decode cX2_isDescendant 15 = .ok (.bipush 40, 2) := by decide +kernel
theorem dX2_isDescendant_17 : decode cX2_isDescendant 17 = .ok (.invokestatic 58, 3) := by decide +kernel
theorem dX2_isDescendant_20 : decode cX2_isDescendant 20 = .ok (.ifCond .eq 33, 3) := by decide +kernel
theorem dX2_isDescendant_23 : decode cX2_isDescendant 23 = .ok (.aload_n 0, 1) := by decide +kernel
theorem dX2_isDescendant_24 : decode cX2_isDescendant 24 = .ok (.iload 4, 2) := by decide +kernel
theorem dX2_isDescendant_26 : decode cX2_isDescendant 26 = .ok (.iload_n 2, 1) := by decide +kernel
theorem dX2_isDescendant_27 : decode cX2_isDescendant 27 = .ok (.iload_n 3, 1) := by decide +kernel
theorem dX2_isDescendant_28 : decode cX2_isDescendant 28 = .ok (.invokevirtual 120, 3) := by decide +kernel
theorem dX2_isDescendant_31 : decode cX2_isDescendant 31 = .ok (.ifCond .eq 5, 3) := by decide +kernel
theorem dX2_isDescendant_34 : decode cX2_isDescendant 34 = .ok (.iconst 1, 1) := by decide +kernel
theorem dX2_isDescendant_35 : decode cX2_isDescendant 35 = .ok (.ireturn, 1) := by decide +kernel
theorem dX2_isDescendant_36 : decode cX2_isDescendant 36 = .ok (.aload_n 0, 1) := by decide +kernel
theorem dX2_isDescendant_37 : decode cX2_isDescendant 37 = .ok (.getfield 24, 3) := by decide +kernel
theorem dX2_isDescendant_40 : decode cX2_isDescendant 40 = .ok (.iload 4, 2) := by decide +kernel
theorem dX2_isDescendant_42 : decode cX2_isDescendant 42 = .ok (.invokestatic 54, 3) := by decide +kernel
theorem dX2_isDescendant_45 : decode cX2_isDescendant 45 = .ok (.istore 4, 2) := by decide +kernel
theorem dX2_isDescendant_47 : decode cX2_isDescendant 47 = .ok (.iinc 5 1, 3) := by decide +kernel
theorem dX2_isDescendant_50 : decode cX2_isDescendant 50 = .ok (.goto (-44), 3) := by decide +kernel
theorem dX2_isDescendant_53 : decode cX2_isDescendant 53 = .ok (.iconst 0, 1) := by decide +kernel
theorem dX2_isDescendant_54 : decode cX2_isDescendant 54 = .ok (.ireturn, 1) := by decide +kernel
set_option maxRecDepth 100000 in
set_option maxHeartbeats 4000000 in
theorem w2_isDescendant_b6_ok {G : GT} {P : Int32 → Mem → Prop} {X : String → Mem → Prop} (C : PCx G cX2_isDescendant 6 RX2) (hRt : PRt G (some .boolean) (qI P) X) (hHR : HR G (2)) (hnT : NoT G) {μ : Mem} {l2 : Int32} {l3 : Int32} {l4 : Int32} {l5 : Int32} (hk : w2_isDescendant_b6 P μ l2 l3 l4 l5) : PW G 0 0 6 [some (pR 18 0), none, some (pI l2), some (pI l3), some (pI l4), some (pI l5)] [] μ := by
  refine hk (fun (μ : Mem) (l2 : Int32) (l3 : Int32) (l4 : Int32) (l5 : Int32) => PW G 0 0 6 [some (pR 18 0), none, some (pI l2), some (pI l3), some (pI l4), some (pI l5)] [] μ) (fun (μ : Mem) l2 l3 l4 l5 hk => ?_)
  have hR6 : ∀ (μ : Mem) (l2 : Int32) (l3 : Int32) (l4 : Int32) (l5 : Int32), PW G 0 0 6 [some (pR 18 0), none, some (pI l2), some (pI l3), some (pI l4), some (pI l5)] [] μ → PW G 0 0 6 [some (pR 18 0), none, some (pI l2), some (pI l3), some (pI l4), some (pI l5)] [] μ := fun _ _ _ _ _ h => h
  unfold w2_isDescendant_b6_body at hk
  refine px_iload (i := 5) C dX2_isDescendant_6 rfl ?_
  refine px_bipush (v := (40 : Int32)) C dX2_isDescendant_8 rfl ?_
  refine px_icmp_ge (tgt := 53) C dX2_isDescendant_10 (by decide) (fun c8 => ?_) (fun c8 => ?_)
  · replace hk := hk.1 c8
    refine px_iconst (v := (0 : Int32)) C dX2_isDescendant_53 rfl ?_
    exact px_iret C hRt dX2_isDescendant_54 rfl rfl hk
  · replace hk := hk.2 c8
    refine px_iload (i := 4) C dX2_isDescendant_13 rfl ?_
    refine px_bipush (v := (40 : Int32)) C dX2_isDescendant_15 rfl ?_
    refine px_callSNi (h := 0) (rc' := 0) (rs' := 0) C (HR_le hHR (Nat.le_of_ble_eq_true rfl)) hRt hnT dX2_isDescendant_17 (List.mem_append_right _ (List.mem_append_left _ (List.mem_of_getElem? (i := 8) rfl))) ms_X8_isWithin (w8_isWithin_ok (PCx_l C) (PCx_I C) hk) rfl rfl (Nat.le_of_ble_eq_true rfl) (Nat.le_of_ble_eq_true rfl) (Nat.le_of_ble_eq_true rfl) (Nat.le_of_ble_eq_true rfl) ?_
    intro r2 μ1 hk
    refine px_if_eq (tgt := 53) C dX2_isDescendant_20 (by decide) (fun c7 => ?_) (fun c7 => ?_)
    · replace hk := hk.1 c7
      refine px_iconst (v := (0 : Int32)) C dX2_isDescendant_53 rfl ?_
      exact px_iret C hRt dX2_isDescendant_54 rfl rfl hk
    · replace hk := hk.2 c7
      refine px_aload_n (i := 0) C dX2_isDescendant_23 rfl rfl ?_
      refine px_iload (i := 4) C dX2_isDescendant_24 rfl ?_
      refine px_iload_n (i := 2) C dX2_isDescendant_26 rfl rfl ?_
      refine px_iload_n (i := 3) C dX2_isDescendant_27 rfl rfl ?_
      refine px_callVi (h := 1) (rc' := 0) (rs' := 0) C (HR_le hHR (Nat.le_of_ble_eq_true rfl)) hRt hnT dX2_isDescendant_28 (gw4 154 rfl rfl) mv_X2_isChild (w2_isChild_ok (PCx_l C) (PCx_I C) hk) rfl rfl rfl rfl rfl (Nat.le_of_ble_eq_true rfl) (Nat.le_of_ble_eq_true rfl) (Nat.le_of_ble_eq_true rfl) (Nat.le_of_ble_eq_true rfl) ?_
      intro r4 μ3 hk
      refine px_if_eq (tgt := 36) C dX2_isDescendant_31 (by decide) (fun c6 => ?_) (fun c6 => ?_)
      · replace hk := hk.1 c6
        refine px_aload_n (i := 0) C dX2_isDescendant_36 rfl rfl ?_
        refine px_getr C dX2_isDescendant_37 fl_RX2_24 rfl rfl rfl ?_
        refine px_iload (i := 4) C dX2_isDescendant_40 rfl ?_
        obtain ⟨o5, hk⟩ := hk
        refine px_callSNi (h := 0) (rc' := 0) (rs' := 0) C (HR_le hHR (Nat.le_of_ble_eq_true rfl)) hRt hnT dX2_isDescendant_42 (List.mem_append_right _ (List.mem_append_left _ (List.mem_of_getElem? (i := 7) rfl))) ms_X8_at (at_ok (j := 23) (q := 0) (n := 40) (loc := 1472) (PCx_l C) (PCx_I C) rfl rfl rfl o5) rfl rfl (Nat.le_of_ble_eq_true rfl) (Nat.le_of_ble_eq_true rfl) (Nat.le_of_ble_eq_true rfl) (Nat.le_of_ble_eq_true rfl) ?_
        rintro _ _ ⟨rfl, rfl⟩
        refine px_istore (i := 4) C dX2_isDescendant_45 (by decide) rfl ?_
        refine px_iinc (i := 5) (v := (1 : Int32)) C dX2_isDescendant_47 rfl rfl (by decide) rfl ?_
        refine px_goto (tgt := 6) C dX2_isDescendant_50 (by decide) ?_
        exact PW_at (hR6 _ _ _ _ _ hk) (And.intro rfl (And.intro rfl (And.intro rfl (And.intro rfl (And.intro rfl trivial))))) (Nat.le_of_ble_eq_true rfl) (Nat.le_of_ble_eq_true rfl)
      · replace hk := hk.2 c6
        refine px_iconst (v := (1 : Int32)) C dX2_isDescendant_34 rfl ?_
        exact px_iret C hRt dX2_isDescendant_35 rfl rfl hk
set_option maxRecDepth 100000 in
set_option maxHeartbeats 4000000 in
theorem w2_isDescendant_ok {l : Launch} {idx : List (Nat × Nat)} {μ : Mem} {a1 : Int32} {a2 : Int32} {a3 : Int32} {P : Int32 → Mem → Prop} {X : String → Mem → Prop} (hl : l.stackTraces = false) (hI : IdxOK idx) (hk : w2_isDescendant_wp μ a1 a2 a3 P) : PMet l yX2_isDescendant (.code yX2_isDescendant cX2_isDescendant 6 (some .boolean)) 2 0 0 idx [pR 18 0, pI a1, pI a2, pI a3] μ (qI P) X := by
  refine PMet_of mv_X2_isDescendant.2.2.2.2.2.2 hl hI mv_X2_isDescendant.2.2.2.1 rfl (Nat.le_of_ble_eq_true rfl) (fun G _ _ C hRt hHR hnT => ?_)
  show PW G 0 0 0 [some (pR 18 0), some (pI a1), some (pI a2), some (pI a3), none, none] [] μ
  unfold w2_isDescendant_wp at hk
  refine px_iload_n (i := 1) C dX2_isDescendant_0 rfl rfl ?_
  refine px_istore (i := 4) C dX2_isDescendant_1 (by decide) rfl ?_
  refine px_iconst (v := (0 : Int32)) C dX2_isDescendant_3 rfl ?_
  refine px_istore (i := 5) C dX2_isDescendant_4 (by decide) rfl ?_
  exact PW_at (w2_isDescendant_b6_ok C hRt hHR hnT hk) (And.intro rfl (And.intro rfl (And.intro rfl (And.intro rfl (And.intro rfl trivial))))) (Nat.le_of_ble_eq_true rfl) (Nat.le_of_ble_eq_true rfl)
theorem dX2_spansBelow_0 : decode cX2_spansBelow 0 = .ok (.iconst 0, 1) := by decide +kernel
theorem dX2_spansBelow_1 : decode cX2_spansBelow 1 = .ok (.istore_n 3, 1) := by decide +kernel
theorem dX2_spansBelow_2 : decode cX2_spansBelow 2 = .ok (.iconst 0, 1) := by decide +kernel
theorem dX2_spansBelow_3 : decode cX2_spansBelow 3 = .ok (.istore 4, 2) := by decide +kernel
theorem dX2_spansBelow_5 : decode cX2_spansBelow 5 = .ok (.iload 4, 2) := by decide +kernel
theorem dX2_spansBelow_7 : decode cX2_spansBelow 7 = .ok (.aload_n 0, 1) := by decide +kernel
theorem dX2_spansBelow_8 : decode cX2_spansBelow 8 = .ok (.getfield 37, 3) := by decide +kernel
theorem dX2_spansBelow_11 : decode cX2_spansBelow 11 = .ok (.getfield 45, 3) := by decide +kernel
theorem dX2_spansBelow_14 : decode cX2_spansBelow 14 = .ok (.if_icmp .ge 23, 3) := by decide +kernel
theorem dX2_spansBelow_17 : decode cX2_spansBelow 17 = .ok (.aload_n 0, 1) := by decide +kernel
theorem dX2_spansBelow_18 : decode cX2_spansBelow 18 = .ok (.iload 4, 2) := by decide +kernel
theorem dX2_spansBelow_20 : decode cX2_spansBelow 20 = .ok (.iload_n 1, 1) := by decide +kernel
theorem dX2_spansBelow_21 : decode cX2_spansBelow 21 = .ok (.iload_n 2, 1) := by decide +kernel
theorem dX2_spansBelow_22 : decode cX2_spansBelow 22 = .ok (.invokevirtual 124, 3) := by decide +kernel
theorem dX2_spansBelow_25 : decode cX2_spansBelow 25 = .ok (.ifCond .eq 6, 3) := by decide +kernel
theorem dX2_spansBelow_28 : decode cX2_spansBelow 28 = .ok (.iinc 3 1, 3) := by decide +kernel
theorem dX2_spansBelow_31 : decode cX2_spansBelow 31 = .ok (.iinc 4 1, 3) := by decide +kernel
theorem dX2_spansBelow_34 : decode cX2_spansBelow 34 = .ok (.goto (-29), 3) := by decide +kernel
theorem dX2_spansBelow_37 : decode cX2_spansBelow 37 = .ok (.iload_n 3, 1) := by decide +kernel
theorem dX2_spansBelow_38 : decode cX2_spansBelow 38 = .ok (.ireturn, 1) := by decide +kernel
set_option maxRecDepth 100000 in
set_option maxHeartbeats 4000000 in
theorem w2_spansBelow_b5_ok {G : GT} {P : Int32 → Mem → Prop} {X : String → Mem → Prop} (C : PCx G cX2_spansBelow 5 RX2) (hRt : PRt G (some .int) (qI P) X) (hHR : HR G (3)) (hnT : NoT G) {μ : Mem} {l1 : Int32} {l2 : Int32} {l3 : Int32} {l4 : Int32} (hk : w2_spansBelow_b5 P μ l1 l2 l3 l4) : PW G 0 0 5 [some (pR 18 0), some (pI l1), some (pI l2), some (pI l3), some (pI l4)] [] μ := by
  refine hk (fun (μ : Mem) (l1 : Int32) (l2 : Int32) (l3 : Int32) (l4 : Int32) => PW G 0 0 5 [some (pR 18 0), some (pI l1), some (pI l2), some (pI l3), some (pI l4)] [] μ) (fun (μ : Mem) l1 l2 l3 l4 hk => ?_)
  have hR5 : ∀ (μ : Mem) (l1 : Int32) (l2 : Int32) (l3 : Int32) (l4 : Int32), PW G 0 0 5 [some (pR 18 0), some (pI l1), some (pI l2), some (pI l3), some (pI l4)] [] μ → PW G 0 0 5 [some (pR 18 0), some (pI l1), some (pI l2), some (pI l3), some (pI l4)] [] μ := fun _ _ _ _ _ h => h
  unfold w2_spansBelow_b5_body at hk
  refine px_iload (i := 4) C dX2_spansBelow_5 rfl ?_
  refine px_aload_n (i := 0) C dX2_spansBelow_7 rfl rfl ?_
  refine px_getr C dX2_spansBelow_8 fl_RX2_37 rfl rfl rfl ?_
  refine px_geti 1 C dX2_spansBelow_11 fl_RX2_45 rfl rfl rfl rfl ?_
  refine px_icmp_ge (tgt := 37) C dX2_spansBelow_14 (by decide) (fun c4 => ?_) (fun c4 => ?_)
  · replace hk := hk.1 c4
    refine px_iload_n (i := 3) C dX2_spansBelow_37 rfl rfl ?_
    exact px_iret C hRt dX2_spansBelow_38 rfl rfl hk
  · replace hk := hk.2 c4
    refine px_aload_n (i := 0) C dX2_spansBelow_17 rfl rfl ?_
    refine px_iload (i := 4) C dX2_spansBelow_18 rfl ?_
    refine px_iload_n (i := 1) C dX2_spansBelow_20 rfl rfl ?_
    refine px_iload_n (i := 2) C dX2_spansBelow_21 rfl rfl ?_
    refine px_callVi (h := 2) (rc' := 0) (rs' := 0) C (HR_le hHR (Nat.le_of_ble_eq_true rfl)) hRt hnT dX2_spansBelow_22 (gw4 163 rfl rfl) mv_X2_isDescendant (w2_isDescendant_ok (PCx_l C) (PCx_I C) hk) rfl rfl rfl rfl rfl (Nat.le_of_ble_eq_true rfl) (Nat.le_of_ble_eq_true rfl) (Nat.le_of_ble_eq_true rfl) (Nat.le_of_ble_eq_true rfl) ?_
    intro r2 μ1 hk
    refine px_if_eq (tgt := 31) C dX2_spansBelow_25 (by decide) (fun c3 => ?_) (fun c3 => ?_)
    · replace hk := hk.1 c3
      refine px_iinc (i := 4) (v := (1 : Int32)) C dX2_spansBelow_31 rfl rfl (by decide) rfl ?_
      refine px_goto (tgt := 5) C dX2_spansBelow_34 (by decide) ?_
      exact PW_at (hR5 _ _ _ _ _ hk) (And.intro rfl (And.intro rfl (And.intro rfl (And.intro rfl (And.intro rfl trivial))))) (Nat.le_of_ble_eq_true rfl) (Nat.le_of_ble_eq_true rfl)
    · replace hk := hk.2 c3
      refine px_iinc (i := 3) (v := (1 : Int32)) C dX2_spansBelow_28 rfl rfl (by decide) rfl ?_
      refine px_iinc (i := 4) (v := (1 : Int32)) C dX2_spansBelow_31 rfl rfl (by decide) rfl ?_
      refine px_goto (tgt := 5) C dX2_spansBelow_34 (by decide) ?_
      exact PW_at (hR5 _ _ _ _ _ hk) (And.intro rfl (And.intro rfl (And.intro rfl (And.intro rfl (And.intro rfl trivial))))) (Nat.le_of_ble_eq_true rfl) (Nat.le_of_ble_eq_true rfl)
set_option maxRecDepth 100000 in
set_option maxHeartbeats 4000000 in
theorem w2_spansBelow_ok {l : Launch} {idx : List (Nat × Nat)} {μ : Mem} {a1 : Int32} {a2 : Int32} {P : Int32 → Mem → Prop} {X : String → Mem → Prop} (hl : l.stackTraces = false) (hI : IdxOK idx) (hk : w2_spansBelow_wp μ a1 a2 P) : PMet l yX2_spansBelow (.code yX2_spansBelow cX2_spansBelow 5 (some .int)) 3 0 0 idx [pR 18 0, pI a1, pI a2] μ (qI P) X := by
  refine PMet_of mv_X2_spansBelow.2.2.2.2.2.2 hl hI mv_X2_spansBelow.2.2.2.1 rfl (Nat.le_of_ble_eq_true rfl) (fun G _ _ C hRt hHR hnT => ?_)
  show PW G 0 0 0 [some (pR 18 0), some (pI a1), some (pI a2), none, none] [] μ
  unfold w2_spansBelow_wp at hk
  refine px_iconst (v := (0 : Int32)) C dX2_spansBelow_0 rfl ?_
  refine px_istore_n (i := 3) C dX2_spansBelow_1 rfl (by decide) rfl ?_
  refine px_iconst (v := (0 : Int32)) C dX2_spansBelow_2 rfl ?_
  refine px_istore (i := 4) C dX2_spansBelow_3 (by decide) rfl ?_
  exact PW_at (w2_spansBelow_b5_ok C hRt hHR hnT hk) (And.intro rfl (And.intro rfl (And.intro rfl (And.intro rfl (And.intro rfl trivial))))) (Nat.le_of_ble_eq_true rfl) (Nat.le_of_ble_eq_true rfl)
theorem dX2_isNode_0 : decode cX2_isNode 0 = .ok (.aload_n 0, 1) := by decide +kernel
theorem dX2_isNode_1 : decode cX2_isNode 1 = .ok (.getfield 37, 3) := by decide +kernel
theorem dX2_isNode_4 : decode cX2_isNode 4 = .ok (.iload_n 2, 1) := by decide +kernel
theorem dX2_isNode_5 : decode cX2_isNode 5 = .ok (.invokevirtual 131, 3) := by decide +kernel
theorem dX2_isNode_8 : decode cX2_isNode 8 = .ok (.istore_n 3, 1) := by decide +kernel
theorem dX2_isNode_9 : decode cX2_isNode 9 = .ok (.iload_n 3, 1) := by decide +kernel
theorem dX2_isNode_10 : decode cX2_isNode 10 = .ok (.iconst (-1), 1) := by decide +kernel
theorem dX2_isNode_11 : decode cX2_isNode 11 = .ok (.if_icmp .ne 12, 3) := by decide +kernel
theorem dX2_isNode_14 : decode cX2_isNode 14 = .ok (.aload_n 0, 1) := by decide +kernel
theorem dX2_isNode_15 : decode cX2_isNode 15 = .ok (.iload_n 1, 1) := by decide +kernel
theorem dX2_isNode_16 : decode cX2_isNode 16 = .ok (.iload_n 2, 1) := by decide +kernel
theorem dX2_isNode_17 : decode cX2_isNode 17 = .ok (.invokevirtual 134, 3) := by decide +kernel
theorem dX2_isNode_20 : decode cX2_isNode 20 = .ok (.goto 23, 3) := by decide +kernel
theorem dX2_isNode_23 : decode cX2_isNode 23 = .ok (.aload_n 0, 1) := by decide +kernel
theorem dX2_isNode_24 : decode cX2_isNode 24 = .ok (.getfield 37, 3) := by decide +kernel
theorem dX2_isNode_27 : decode cX2_isNode 27 = .ok (.getfield 117, 3) := by decide +kernel
theorem dX2_isNode_30 : decode cX2_isNode 30 = .ok (.iload_n 3, 1) := by decide +kernel
theorem dX2_isNode_31 : decode cX2_isNode 31 = .ok (.invokestatic 54, 3) := by decide +kernel
theorem dX2_isNode_34 : decode cX2_isNode 34 = .ok (.iload_n 1, 1) := by decide +kernel
theorem dX2_isNode_35 : decode cX2_isNode 35 = .ok (.if_icmp .ne 7, 3) := by decide +kernel
theorem dX2_isNode_38 : decode cX2_isNode 38 = .ok (.iconst 1, 1) := by decide +kernel
theorem dX2_isNode_39 : decode cX2_isNode 39 = .ok (.goto 4, 3) := by decide +kernel
theorem dX2_isNode_42 : decode cX2_isNode 42 = .ok (.iconst 0, 1) := by decide +kernel
theorem dX2_isNode_43 : decode cX2_isNode 43 = .ok (.ireturn, 1) := by decide +kernel
set_option maxRecDepth 100000 in
set_option maxHeartbeats 4000000 in
theorem w2_isNode_ok {l : Launch} {idx : List (Nat × Nat)} {μ : Mem} {a1 : Int32} {a2 : Int32} {P : Int32 → Mem → Prop} {X : String → Mem → Prop} (hl : l.stackTraces = false) (hI : IdxOK idx) (hk : w2_isNode_wp μ a1 a2 P) : PMet l yX2_isNode (.code yX2_isNode cX2_isNode 4 (some .boolean)) 4 0 0 idx [pR 18 0, pI a1, pI a2] μ (qI P) X := by
  refine PMet_of mv_X2_isNode.2.2.2.2.2.2 hl hI mv_X2_isNode.2.2.2.1 rfl (Nat.le_of_ble_eq_true rfl) (fun G _ _ C hRt hHR hnT => ?_)
  show PW G 0 0 0 [some (pR 18 0), some (pI a1), some (pI a2), none] [] μ
  unfold w2_isNode_wp at hk
  refine px_aload_n (i := 0) C dX2_isNode_0 rfl rfl ?_
  refine px_getr C dX2_isNode_1 fl_RX2_37 rfl rfl rfl ?_
  refine px_iload_n (i := 2) C dX2_isNode_4 rfl rfl ?_
  refine px_callVi (h := 0) (rc' := 0) (rs' := 0) C (HR_le hHR (Nat.le_of_ble_eq_true rfl)) hRt hnT dX2_isNode_5 (gw4 145 rfl rfl) mv_X7_find (w7_find_ok (PCx_l C) (PCx_I C) hk) rfl rfl rfl rfl rfl (Nat.le_of_ble_eq_true rfl) (Nat.le_of_ble_eq_true rfl) (Nat.le_of_ble_eq_true rfl) (Nat.le_of_ble_eq_true rfl) ?_
  intro r2 μ1 hk
  refine px_istore_n (i := 3) C dX2_isNode_8 rfl (by decide) rfl ?_
  refine px_iload_n (i := 3) C dX2_isNode_9 rfl rfl ?_
  refine px_iconst (v := (-1 : Int32)) C dX2_isNode_10 rfl ?_
  refine px_icmp_ne (tgt := 23) C dX2_isNode_11 (by decide) (fun c8 => ?_) (fun c8 => ?_)
  · replace hk := hk.1 c8
    refine px_aload_n (i := 0) C dX2_isNode_23 rfl rfl ?_
    refine px_getr C dX2_isNode_24 fl_RX2_37 rfl rfl rfl ?_
    refine px_getr C dX2_isNode_27 fl_RX2_117 rfl rfl rfl ?_
    refine px_iload_n (i := 3) C dX2_isNode_30 rfl rfl ?_
    obtain ⟨o3, hk⟩ := hk
    refine px_callSNi (h := 0) (rc' := 0) (rs' := 0) C (HR_le hHR (Nat.le_of_ble_eq_true rfl)) hRt hnT dX2_isNode_31 (List.mem_append_right _ (List.mem_append_left _ (List.mem_of_getElem? (i := 7) rfl))) ms_X8_at (at_ok (j := 1) (q := 0) (n := 40) (loc := 64) (PCx_l C) (PCx_I C) rfl rfl rfl o3) rfl rfl (Nat.le_of_ble_eq_true rfl) (Nat.le_of_ble_eq_true rfl) (Nat.le_of_ble_eq_true rfl) (Nat.le_of_ble_eq_true rfl) ?_
    rintro _ _ ⟨rfl, rfl⟩
    refine px_iload_n (i := 1) C dX2_isNode_34 rfl rfl ?_
    refine px_icmp_ne (tgt := 42) C dX2_isNode_35 (by decide) (fun c4 => ?_) (fun c4 => ?_)
    · replace hk := hk.1 c4
      refine px_iconst (v := (0 : Int32)) C dX2_isNode_42 rfl ?_
      exact px_iret C hRt dX2_isNode_43 rfl rfl hk
    · replace hk := hk.2 c4
      refine px_iconst (v := (1 : Int32)) C dX2_isNode_38 rfl ?_
      refine px_goto (tgt := 43) C dX2_isNode_39 (by decide) ?_
      exact px_iret C hRt dX2_isNode_43 rfl rfl hk
  · replace hk := hk.2 c8
    refine px_aload_n (i := 0) C dX2_isNode_14 rfl rfl ?_
    refine px_iload_n (i := 1) C dX2_isNode_15 rfl rfl ?_
    refine px_iload_n (i := 2) C dX2_isNode_16 rfl rfl ?_
    refine px_callVi (h := 3) (rc' := 0) (rs' := 0) C (HR_le hHR (Nat.le_of_ble_eq_true rfl)) hRt hnT dX2_isNode_17 (gw4 146 rfl rfl) mv_X2_isPlaceholder (w2_isPlaceholder_ok (PCx_l C) (PCx_I C) hk) rfl rfl rfl rfl rfl (Nat.le_of_ble_eq_true rfl) (Nat.le_of_ble_eq_true rfl) (Nat.le_of_ble_eq_true rfl) (Nat.le_of_ble_eq_true rfl) ?_
    intro r6 μ5 hk
    refine px_goto (tgt := 43) C dX2_isNode_20 (by decide) ?_
    obtain ⟨o7, hk⟩ := hk
    exact px_iret C hRt dX2_isNode_43 (nar_z o7) rfl hk
theorem dX2_nodeBegin_0 : decode cX2_nodeBegin 0 = .ok (.aload_n 0, 1) := by decide +kernel
theorem dX2_nodeBegin_1 : decode cX2_nodeBegin 1 = .ok (.getfield 37, 3) := by decide +kernel
theorem dX2_nodeBegin_4 : decode cX2_nodeBegin 4 = .ok (.iload_n 2, 1) := by decide +kernel
theorem dX2_nodeBegin_5 : decode cX2_nodeBegin 5 = .ok (.invokevirtual 131, 3) := by decide +kernel
theorem dX2_nodeBegin_8 : decode cX2_nodeBegin 8 = .ok (.istore_n 3, 1) := by decide +kernel
theorem dX2_nodeBegin_9 : decode cX2_nodeBegin 9 = .ok (.iload_n 3, 1) := by decide +kernel
theorem dX2_nodeBegin_10 : decode cX2_nodeBegin 10 = .ok (.iconst (-1), 1) := by decide +kernel
theorem dX2_nodeBegin_11 : decode cX2_nodeBegin 11 = .ok (.if_icmp .eq 12, 3) := by decide +kernel
theorem dX2_nodeBegin_14 : decode cX2_nodeBegin 14 = .ok (.aload_n 0, 1) := by decide +kernel
theorem dX2_nodeBegin_15 : decode cX2_nodeBegin 15 = .ok (.getfield 9, 3) := by decide +kernel
theorem dX2_nodeBegin_18 : decode cX2_nodeBegin 18 = .ok (.iload_n 3, 1) := by decide +kernel
theorem dX2_nodeBegin_19 : decode cX2_nodeBegin 19 = .ok (.invokestatic 54, 3) := by decide +kernel
theorem dX2_nodeBegin_22 : decode cX2_nodeBegin 22 = .ok (.ireturn, 1) := by decide +kernel
theorem dX2_nodeBegin_23 : decode cX2_nodeBegin 23 = .ok (.ldc 137, 2) := by decide +kernel
theorem dX2_nodeBegin_25 : decode cX2_nodeBegin 25 = .ok (.istore 4, 2) := by decide +kernel
theorem dX2_nodeBegin_27 : decode cX2_nodeBegin 27 = .ok (.iconst 0, 1) := by decide +kernel
theorem dX2_nodeBegin_28 : decode cX2_nodeBegin 28 = .ok (.istore 5, 2) := by decide +kernel
theorem dX2_nodeBegin_30 : decode cX2_nodeBegin 30 = .ok (.iload 5, 2) := by decide +kernel
theorem dX2_nodeBegin_32 : decode cX2_nodeBegin 32 = .ok (.aload_n 0, 1) := by decide +kernel
theorem dX2_nodeBegin_33 : decode cX2_nodeBegin 33 = .ok (.getfield 37, 3) := by decide +kernel
theorem dX2_nodeBegin_36 : decode cX2_nodeBegin 36 = .ok (.getfield 45, 3) := by decide +kernel
theorem dX2_nodeBegin_39 : decode cX2_nodeBegin 39 = .ok (.if_icmp .ge 36, 3) := by decide +kernel
theorem dX2_nodeBegin_42 : decode cX2_nodeBegin 42 = .ok (.aload_n 0, 1) := by decide +kernel
theorem dX2_nodeBegin_43 : decode cX2_nodeBegin 43 = .ok (.iload 5, 2) := by decide +kernel
theorem dX2_nodeBegin_45 : decode cX2_nodeBegin 45 = .ok (.iload_n 1, 1) := by decide +kernel
theorem dX2_nodeBegin_46 : decode cX2_nodeBegin 46 = .ok (.iload_n 2, 1) := by decide +kernel
theorem dX2_nodeBegin_47 : decode cX2_nodeBegin 47 = .ok (.invokevirtual 120, 3) := by decide +kernel
theorem dX2_nodeBegin_50 : decode cX2_nodeBegin 50 = .ok (.ifCond .eq 19, 3) := by decide +kernel
theorem dX2_nodeBegin_53 : decode cX2_nodeBegin 53 = .ok (.iload 4, 2) := by decide +kernel
theorem dX2_nodeBegin_55 : decode cX2_nodeBegin 55 = .ok (.aload_n 0, 1) := by decide +kernel
theorem dX2_nodeBegin_56 : decode cX2_nodeBegin 56 = .ok (.getfield 9, 3) := by decide +kernel
theorem dX2_nodeBegin_59 : decode cX2_nodeBegin 59 = .ok (.iload 5, 2) := by decide +kernel
theorem dX2_nodeBegin_61 : decode cX2_nodeBegin 61 = .ok (.invokestatic 54, 3) := by decide +kernel
theorem dX2_nodeBegin_64 : decode cX2_nodeBegin 64 = .ok (.invokestatic 138, 3) := by decide +kernel
theorem dX2_nodeBegin_67 : decode cX2_nodeBegin 67 = .ok (.istore 4, 2) := by decide +kernel
theorem dX2_nodeBegin_69 : decode cX2_nodeBegin 69 = .ok (.iinc 5 1, 3) := by decide +kernel
theorem dX2_nodeBegin_72 : decode cX2_nodeBegin 72 = .ok (.goto (-42), 3) := by decide +kernel
theorem dX2_nodeBegin_75 : decode cX2_nodeBegin 75 = .ok (.iload 4, 2) := by decide +kernel
theorem dX2_nodeBegin_77 : decode cX2_nodeBegin 77 = .ok (.ireturn, 1) := by decide +kernel
set_option maxRecDepth 100000 in
set_option maxHeartbeats 4000000 in
theorem w2_nodeBegin_b30_ok {G : GT} {P : Int32 → Mem → Prop} {X : String → Mem → Prop} (C : PCx G cX2_nodeBegin 6 RX2) (hRt : PRt G (some .int) (qI P) X) (hHR : HR G (2)) (hnT : NoT G) {μ : Mem} {l1 : Int32} {l2 : Int32} {l4 : Int32} {l5 : Int32} (hk : w2_nodeBegin_b30 P μ l1 l2 l4 l5) : PW G 0 0 30 [some (pR 18 0), some (pI l1), some (pI l2), none, some (pI l4), some (pI l5)] [] μ := by
  refine hk (fun (μ : Mem) (l1 : Int32) (l2 : Int32) (l4 : Int32) (l5 : Int32) => PW G 0 0 30 [some (pR 18 0), some (pI l1), some (pI l2), none, some (pI l4), some (pI l5)] [] μ) (fun (μ : Mem) l1 l2 l4 l5 hk => ?_)
  have hR30 : ∀ (μ : Mem) (l1 : Int32) (l2 : Int32) (l4 : Int32) (l5 : Int32), PW G 0 0 30 [some (pR 18 0), some (pI l1), some (pI l2), none, some (pI l4), some (pI l5)] [] μ → PW G 0 0 30 [some (pR 18 0), some (pI l1), some (pI l2), none, some (pI l4), some (pI l5)] [] μ := fun _ _ _ _ _ h => h
  unfold w2_nodeBegin_b30_body at hk
  refine px_iload (i := 5) C dX2_nodeBegin_30 rfl ?_
  refine px_aload_n (i := 0) C dX2_nodeBegin_32 rfl rfl ?_
  refine px_getr C dX2_nodeBegin_33 fl_RX2_37 rfl rfl rfl ?_
  refine px_geti 1 C dX2_nodeBegin_36 fl_RX2_45 rfl rfl rfl rfl ?_
  refine px_icmp_ge (tgt := 75) C dX2_nodeBegin_39 (by decide) (fun c7 => ?_) (fun c7 => ?_)
  · replace hk := hk.1 c7
    refine px_iload (i := 4) C dX2_nodeBegin_75 rfl ?_
    exact px_iret C hRt dX2_nodeBegin_77 rfl rfl hk
  · replace hk := hk.2 c7
    refine px_aload_n (i := 0) C dX2_nodeBegin_42 rfl rfl ?_
    refine px_iload (i := 5) C dX2_nodeBegin_43 rfl ?_
    refine px_iload_n (i := 1) C dX2_nodeBegin_45 rfl rfl ?_
    refine px_iload_n (i := 2) C dX2_nodeBegin_46 rfl rfl ?_
    refine px_callVi (h := 1) (rc' := 0) (rs' := 0) C (HR_le hHR (Nat.le_of_ble_eq_true rfl)) hRt hnT dX2_nodeBegin_47 (gw4 154 rfl rfl) mv_X2_isChild (w2_isChild_ok (PCx_l C) (PCx_I C) hk) rfl rfl rfl rfl rfl (Nat.le_of_ble_eq_true rfl) (Nat.le_of_ble_eq_true rfl) (Nat.le_of_ble_eq_true rfl) (Nat.le_of_ble_eq_true rfl) ?_
    intro r4 μ3 hk
    refine px_if_eq (tgt := 69) C dX2_nodeBegin_50 (by decide) (fun c6 => ?_) (fun c6 => ?_)
    · replace hk := hk.1 c6
      refine px_iinc (i := 5) (v := (1 : Int32)) C dX2_nodeBegin_69 rfl rfl (by decide) rfl ?_
      refine px_goto (tgt := 30) C dX2_nodeBegin_72 (by decide) ?_
      exact PW_at (hR30 _ _ _ _ _ hk) (And.intro rfl (And.intro rfl (And.intro rfl (And.intro rfl (And.intro rfl trivial))))) (Nat.le_of_ble_eq_true rfl) (Nat.le_of_ble_eq_true rfl)
    · replace hk := hk.2 c6
      refine px_iload (i := 4) C dX2_nodeBegin_53 rfl ?_
      refine px_aload_n (i := 0) C dX2_nodeBegin_55 rfl rfl ?_
      refine px_getr C dX2_nodeBegin_56 fl_RX2_9 rfl rfl rfl ?_
      refine px_iload (i := 5) C dX2_nodeBegin_59 rfl ?_
      obtain ⟨o5, hk⟩ := hk
      refine px_callSNi (h := 0) (rc' := 0) (rs' := 0) C (HR_le hHR (Nat.le_of_ble_eq_true rfl)) hRt hnT dX2_nodeBegin_61 (List.mem_append_right _ (List.mem_append_left _ (List.mem_of_getElem? (i := 7) rfl))) ms_X8_at (at_ok (j := 19) (q := 0) (n := 40) (loc := 1216) (PCx_l C) (PCx_I C) rfl rfl rfl o5) rfl rfl (Nat.le_of_ble_eq_true rfl) (Nat.le_of_ble_eq_true rfl) (Nat.le_of_ble_eq_true rfl) (Nat.le_of_ble_eq_true rfl) ?_
      rintro _ _ ⟨rfl, rfl⟩
      refine px_mmin C (HR_le hHR (Nat.le_of_ble_eq_true rfl)) dX2_nodeBegin_64 (gw4 235 rfl rfl) math_min (Nat.le_of_ble_eq_true rfl) ?_
      refine px_istore (i := 4) C dX2_nodeBegin_67 (by decide) rfl ?_
      refine px_iinc (i := 5) (v := (1 : Int32)) C dX2_nodeBegin_69 rfl rfl (by decide) rfl ?_
      refine px_goto (tgt := 30) C dX2_nodeBegin_72 (by decide) ?_
      exact PW_at (hR30 _ _ _ _ _ hk) (And.intro rfl (And.intro rfl (And.intro rfl (And.intro rfl (And.intro rfl trivial))))) (Nat.le_of_ble_eq_true rfl) (Nat.le_of_ble_eq_true rfl)
set_option maxRecDepth 100000 in
set_option maxHeartbeats 4000000 in
theorem w2_nodeBegin_ok {l : Launch} {idx : List (Nat × Nat)} {μ : Mem} {a1 : Int32} {a2 : Int32} {P : Int32 → Mem → Prop} {X : String → Mem → Prop} (hl : l.stackTraces = false) (hI : IdxOK idx) (hk : w2_nodeBegin_wp μ a1 a2 P) : PMet l yX2_nodeBegin (.code yX2_nodeBegin cX2_nodeBegin 6 (some .int)) 2 0 0 idx [pR 18 0, pI a1, pI a2] μ (qI P) X := by
  refine PMet_of mv_X2_nodeBegin.2.2.2.2.2.2 hl hI mv_X2_nodeBegin.2.2.2.1 rfl (Nat.le_of_ble_eq_true rfl) (fun G _ _ C hRt hHR hnT => ?_)
  show PW G 0 0 0 [some (pR 18 0), some (pI a1), some (pI a2), none, none, none] [] μ
  unfold w2_nodeBegin_wp at hk
  refine px_aload_n (i := 0) C dX2_nodeBegin_0 rfl rfl ?_
  refine px_getr C dX2_nodeBegin_1 fl_RX2_37 rfl rfl rfl ?_
  refine px_iload_n (i := 2) C dX2_nodeBegin_4 rfl rfl ?_
  refine px_callVi (h := 0) (rc' := 0) (rs' := 0) C (HR_le hHR (Nat.le_of_ble_eq_true rfl)) hRt hnT dX2_nodeBegin_5 (gw4 145 rfl rfl) mv_X7_find (w7_find_ok (PCx_l C) (PCx_I C) hk) rfl rfl rfl rfl rfl (Nat.le_of_ble_eq_true rfl) (Nat.le_of_ble_eq_true rfl) (Nat.le_of_ble_eq_true rfl) (Nat.le_of_ble_eq_true rfl) ?_
  intro r2 μ1 hk
  refine px_istore_n (i := 3) C dX2_nodeBegin_8 rfl (by decide) rfl ?_
  refine px_iload_n (i := 3) C dX2_nodeBegin_9 rfl rfl ?_
  refine px_iconst (v := (-1 : Int32)) C dX2_nodeBegin_10 rfl ?_
  refine px_icmp_eq (tgt := 23) C dX2_nodeBegin_11 (by decide) (fun c9 => ?_) (fun c9 => ?_)
  · replace hk := hk.1 c9
    refine px_ldc (v := (1000000 : Int32)) C dX2_nodeBegin_23 (gw4 234 rfl rfl) ?_
    refine px_istore (i := 4) C dX2_nodeBegin_25 (by decide) rfl ?_
    refine px_iconst (v := (0 : Int32)) C dX2_nodeBegin_27 rfl ?_
    refine px_istore (i := 5) C dX2_nodeBegin_28 (by decide) rfl ?_
    exact PW_at (w2_nodeBegin_b30_ok C hRt hHR hnT hk) (And.intro rfl (And.intro rfl (And.intro rfl (And.intro rfl (And.intro rfl trivial))))) (Nat.le_of_ble_eq_true rfl) (Nat.le_of_ble_eq_true rfl)
  · replace hk := hk.2 c9
    refine px_aload_n (i := 0) C dX2_nodeBegin_14 rfl rfl ?_
    refine px_getr C dX2_nodeBegin_15 fl_RX2_9 rfl rfl rfl ?_
    refine px_iload_n (i := 3) C dX2_nodeBegin_18 rfl rfl ?_
    obtain ⟨o8, hk⟩ := hk
    refine px_callSNi (h := 0) (rc' := 0) (rs' := 0) C (HR_le hHR (Nat.le_of_ble_eq_true rfl)) hRt hnT dX2_nodeBegin_19 (List.mem_append_right _ (List.mem_append_left _ (List.mem_of_getElem? (i := 7) rfl))) ms_X8_at (at_ok (j := 19) (q := 0) (n := 40) (loc := 1216) (PCx_l C) (PCx_I C) rfl rfl rfl o8) rfl rfl (Nat.le_of_ble_eq_true rfl) (Nat.le_of_ble_eq_true rfl) (Nat.le_of_ble_eq_true rfl) (Nat.le_of_ble_eq_true rfl) ?_
    rintro _ _ ⟨rfl, rfl⟩
    exact px_iret C hRt dX2_nodeBegin_22 rfl rfl hk
theorem dX2_nodeEnd_0 : decode cX2_nodeEnd 0 = .ok (.aload_n 0, 1) := by decide +kernel
theorem dX2_nodeEnd_1 : decode cX2_nodeEnd 1 = .ok (.getfield 37, 3) := by decide +kernel
theorem dX2_nodeEnd_4 : decode cX2_nodeEnd 4 = .ok (.iload_n 2, 1) := by decide +kernel
theorem dX2_nodeEnd_5 : decode cX2_nodeEnd 5 = .ok (.invokevirtual 131, 3) := by decide +kernel
theorem dX2_nodeEnd_8 : decode cX2_nodeEnd 8 = .ok (.istore_n 3, 1) := by decide +kernel
theorem dX2_nodeEnd_9 : decode cX2_nodeEnd 9 = .ok (.iload_n 3, 1) := by decide +kernel
theorem dX2_nodeEnd_10 : decode cX2_nodeEnd 10 = .ok (.iconst (-1), 1) := by decide +kernel
theorem dX2_nodeEnd_11 : decode cX2_nodeEnd 11 = .ok (.if_icmp .eq 12, 3) := by decide +kernel
theorem dX2_nodeEnd_14 : decode cX2_nodeEnd 14 = .ok (.aload_n 0, 1) := by decide +kernel
theorem dX2_nodeEnd_15 : decode cX2_nodeEnd 15 = .ok (.getfield 15, 3) := by decide +kernel
theorem dX2_nodeEnd_18 : decode cX2_nodeEnd 18 = .ok (.iload_n 3, 1) := by decide +kernel
theorem dX2_nodeEnd_19 : decode cX2_nodeEnd 19 = .ok (.invokestatic 54, 3) := by decide +kernel
theorem dX2_nodeEnd_22 : decode cX2_nodeEnd 22 = .ok (.ireturn, 1) := by decide +kernel
theorem dX2_nodeEnd_23 : decode cX2_nodeEnd 23 = .ok (.ldc 143, 2) := by decide +kernel
theorem dX2_nodeEnd_25 : decode cX2_nodeEnd 25 = .ok (.istore 4, 2) := by decide +kernel
theorem dX2_nodeEnd_27 : decode cX2_nodeEnd 27 = .ok (.iconst 0, 1) := by decide +kernel
theorem dX2_nodeEnd_28 : decode cX2_nodeEnd 28 = .ok (.istore 5, 2) := by decide +kernel
theorem dX2_nodeEnd_30 : decode cX2_nodeEnd 30 = .ok (.iload 5, 2) := by decide +kernel
theorem dX2_nodeEnd_32 : decode cX2_nodeEnd 32 = .ok (.aload_n 0, 1) := by decide +kernel
theorem dX2_nodeEnd_33 : decode cX2_nodeEnd 33 = .ok (.getfield 37, 3) := by decide +kernel
theorem dX2_nodeEnd_36 : decode cX2_nodeEnd 36 = .ok (.getfield 45, 3) := by decide +kernel
theorem dX2_nodeEnd_39 : decode cX2_nodeEnd 39 = .ok (.if_icmp .ge 36, 3) := by decide +kernel
theorem dX2_nodeEnd_42 : decode cX2_nodeEnd 42 = .ok (.aload_n 0, 1) := by decide +kernel
theorem dX2_nodeEnd_43 : decode cX2_nodeEnd 43 = .ok (.iload 5, 2) := by decide +kernel
theorem dX2_nodeEnd_45 : decode cX2_nodeEnd 45 = .ok (.iload_n 1, 1) := by decide +kernel
theorem dX2_nodeEnd_46 : decode cX2_nodeEnd 46 = .ok (.iload_n 2, 1) := by decide +kernel
theorem dX2_nodeEnd_47 : decode cX2_nodeEnd 47 = .ok (.invokevirtual 120, 3) := by decide +kernel
theorem dX2_nodeEnd_50 : decode cX2_nodeEnd 50 = .ok (.ifCond .eq 19, 3) := by decide +kernel
theorem dX2_nodeEnd_53 : decode cX2_nodeEnd 53 = .ok (.iload 4, 2) := by decide +kernel
theorem dX2_nodeEnd_55 : decode cX2_nodeEnd 55 = .ok (.aload_n 0, 1) := by decide +kernel
theorem dX2_nodeEnd_56 : decode cX2_nodeEnd 56 = .ok (.getfield 15, 3) := by decide +kernel
theorem dX2_nodeEnd_59 : decode cX2_nodeEnd 59 = .ok (.iload 5, 2) := by decide +kernel
theorem dX2_nodeEnd_61 : decode cX2_nodeEnd 61 = .ok (.invokestatic 54, 3) := by decide +kernel
theorem dX2_nodeEnd_64 : decode cX2_nodeEnd 64 = .ok (.invokestatic 144, 3) := by decide +kernel
theorem dX2_nodeEnd_67 : decode cX2_nodeEnd 67 = .ok (.istore 4, 2) := by decide +kernel
theorem dX2_nodeEnd_69 : decode cX2_nodeEnd 69 = .ok (.iinc 5 1, 3) := by decide +kernel
theorem dX2_nodeEnd_72 : decode cX2_nodeEnd 72 = .ok (.goto (-42), 3) := by decide +kernel
theorem dX2_nodeEnd_75 : decode cX2_nodeEnd 75 = .ok (.iload 4, 2) := by decide +kernel
theorem dX2_nodeEnd_77 : decode cX2_nodeEnd 77 = .ok (.ireturn, 1) := by decide +kernel
set_option maxRecDepth 100000 in
set_option maxHeartbeats 4000000 in
theorem w2_nodeEnd_b30_ok {G : GT} {P : Int32 → Mem → Prop} {X : String → Mem → Prop} (C : PCx G cX2_nodeEnd 6 RX2) (hRt : PRt G (some .int) (qI P) X) (hHR : HR G (2)) (hnT : NoT G) {μ : Mem} {l1 : Int32} {l2 : Int32} {l4 : Int32} {l5 : Int32} (hk : w2_nodeEnd_b30 P μ l1 l2 l4 l5) : PW G 0 0 30 [some (pR 18 0), some (pI l1), some (pI l2), none, some (pI l4), some (pI l5)] [] μ := by
  refine hk (fun (μ : Mem) (l1 : Int32) (l2 : Int32) (l4 : Int32) (l5 : Int32) => PW G 0 0 30 [some (pR 18 0), some (pI l1), some (pI l2), none, some (pI l4), some (pI l5)] [] μ) (fun (μ : Mem) l1 l2 l4 l5 hk => ?_)
  have hR30 : ∀ (μ : Mem) (l1 : Int32) (l2 : Int32) (l4 : Int32) (l5 : Int32), PW G 0 0 30 [some (pR 18 0), some (pI l1), some (pI l2), none, some (pI l4), some (pI l5)] [] μ → PW G 0 0 30 [some (pR 18 0), some (pI l1), some (pI l2), none, some (pI l4), some (pI l5)] [] μ := fun _ _ _ _ _ h => h
  unfold w2_nodeEnd_b30_body at hk
  refine px_iload (i := 5) C dX2_nodeEnd_30 rfl ?_
  refine px_aload_n (i := 0) C dX2_nodeEnd_32 rfl rfl ?_
  refine px_getr C dX2_nodeEnd_33 fl_RX2_37 rfl rfl rfl ?_
  refine px_geti 1 C dX2_nodeEnd_36 fl_RX2_45 rfl rfl rfl rfl ?_
  refine px_icmp_ge (tgt := 75) C dX2_nodeEnd_39 (by decide) (fun c7 => ?_) (fun c7 => ?_)
  · replace hk := hk.1 c7
    refine px_iload (i := 4) C dX2_nodeEnd_75 rfl ?_
    exact px_iret C hRt dX2_nodeEnd_77 rfl rfl hk
  · replace hk := hk.2 c7
    refine px_aload_n (i := 0) C dX2_nodeEnd_42 rfl rfl ?_
    refine px_iload (i := 5) C dX2_nodeEnd_43 rfl ?_
    refine px_iload_n (i := 1) C dX2_nodeEnd_45 rfl rfl ?_
    refine px_iload_n (i := 2) C dX2_nodeEnd_46 rfl rfl ?_
    refine px_callVi (h := 1) (rc' := 0) (rs' := 0) C (HR_le hHR (Nat.le_of_ble_eq_true rfl)) hRt hnT dX2_nodeEnd_47 (gw4 154 rfl rfl) mv_X2_isChild (w2_isChild_ok (PCx_l C) (PCx_I C) hk) rfl rfl rfl rfl rfl (Nat.le_of_ble_eq_true rfl) (Nat.le_of_ble_eq_true rfl) (Nat.le_of_ble_eq_true rfl) (Nat.le_of_ble_eq_true rfl) ?_
    intro r4 μ3 hk
    refine px_if_eq (tgt := 69) C dX2_nodeEnd_50 (by decide) (fun c6 => ?_) (fun c6 => ?_)
    · replace hk := hk.1 c6
      refine px_iinc (i := 5) (v := (1 : Int32)) C dX2_nodeEnd_69 rfl rfl (by decide) rfl ?_
      refine px_goto (tgt := 30) C dX2_nodeEnd_72 (by decide) ?_
      exact PW_at (hR30 _ _ _ _ _ hk) (And.intro rfl (And.intro rfl (And.intro rfl (And.intro rfl (And.intro rfl trivial))))) (Nat.le_of_ble_eq_true rfl) (Nat.le_of_ble_eq_true rfl)
    · replace hk := hk.2 c6
      refine px_iload (i := 4) C dX2_nodeEnd_53 rfl ?_
      refine px_aload_n (i := 0) C dX2_nodeEnd_55 rfl rfl ?_
      refine px_getr C dX2_nodeEnd_56 fl_RX2_15 rfl rfl rfl ?_
      refine px_iload (i := 5) C dX2_nodeEnd_59 rfl ?_
      obtain ⟨o5, hk⟩ := hk
      refine px_callSNi (h := 0) (rc' := 0) (rs' := 0) C (HR_le hHR (Nat.le_of_ble_eq_true rfl)) hRt hnT dX2_nodeEnd_61 (List.mem_append_right _ (List.mem_append_left _ (List.mem_of_getElem? (i := 7) rfl))) ms_X8_at (at_ok (j := 20) (q := 0) (n := 40) (loc := 1280) (PCx_l C) (PCx_I C) rfl rfl rfl o5) rfl rfl (Nat.le_of_ble_eq_true rfl) (Nat.le_of_ble_eq_true rfl) (Nat.le_of_ble_eq_true rfl) (Nat.le_of_ble_eq_true rfl) ?_
      rintro _ _ ⟨rfl, rfl⟩
      refine px_mmax C (HR_le hHR (Nat.le_of_ble_eq_true rfl)) dX2_nodeEnd_64 (gw4 229 rfl rfl) math_max (Nat.le_of_ble_eq_true rfl) ?_
      refine px_istore (i := 4) C dX2_nodeEnd_67 (by decide) rfl ?_
      refine px_iinc (i := 5) (v := (1 : Int32)) C dX2_nodeEnd_69 rfl rfl (by decide) rfl ?_
      refine px_goto (tgt := 30) C dX2_nodeEnd_72 (by decide) ?_
      exact PW_at (hR30 _ _ _ _ _ hk) (And.intro rfl (And.intro rfl (And.intro rfl (And.intro rfl (And.intro rfl trivial))))) (Nat.le_of_ble_eq_true rfl) (Nat.le_of_ble_eq_true rfl)
set_option maxRecDepth 100000 in
set_option maxHeartbeats 4000000 in
theorem w2_nodeEnd_ok {l : Launch} {idx : List (Nat × Nat)} {μ : Mem} {a1 : Int32} {a2 : Int32} {P : Int32 → Mem → Prop} {X : String → Mem → Prop} (hl : l.stackTraces = false) (hI : IdxOK idx) (hk : w2_nodeEnd_wp μ a1 a2 P) : PMet l yX2_nodeEnd (.code yX2_nodeEnd cX2_nodeEnd 6 (some .int)) 2 0 0 idx [pR 18 0, pI a1, pI a2] μ (qI P) X := by
  refine PMet_of mv_X2_nodeEnd.2.2.2.2.2.2 hl hI mv_X2_nodeEnd.2.2.2.1 rfl (Nat.le_of_ble_eq_true rfl) (fun G _ _ C hRt hHR hnT => ?_)
  show PW G 0 0 0 [some (pR 18 0), some (pI a1), some (pI a2), none, none, none] [] μ
  unfold w2_nodeEnd_wp at hk
  refine px_aload_n (i := 0) C dX2_nodeEnd_0 rfl rfl ?_
  refine px_getr C dX2_nodeEnd_1 fl_RX2_37 rfl rfl rfl ?_
  refine px_iload_n (i := 2) C dX2_nodeEnd_4 rfl rfl ?_
  refine px_callVi (h := 0) (rc' := 0) (rs' := 0) C (HR_le hHR (Nat.le_of_ble_eq_true rfl)) hRt hnT dX2_nodeEnd_5 (gw4 145 rfl rfl) mv_X7_find (w7_find_ok (PCx_l C) (PCx_I C) hk) rfl rfl rfl rfl rfl (Nat.le_of_ble_eq_true rfl) (Nat.le_of_ble_eq_true rfl) (Nat.le_of_ble_eq_true rfl) (Nat.le_of_ble_eq_true rfl) ?_
  intro r2 μ1 hk
  refine px_istore_n (i := 3) C dX2_nodeEnd_8 rfl (by decide) rfl ?_
  refine px_iload_n (i := 3) C dX2_nodeEnd_9 rfl rfl ?_
  refine px_iconst (v := (-1 : Int32)) C dX2_nodeEnd_10 rfl ?_
  refine px_icmp_eq (tgt := 23) C dX2_nodeEnd_11 (by decide) (fun c9 => ?_) (fun c9 => ?_)
  · replace hk := hk.1 c9
    refine px_ldc (v := (-1000000 : Int32)) C dX2_nodeEnd_23 (gw4 228 rfl rfl) ?_
    refine px_istore (i := 4) C dX2_nodeEnd_25 (by decide) rfl ?_
    refine px_iconst (v := (0 : Int32)) C dX2_nodeEnd_27 rfl ?_
    refine px_istore (i := 5) C dX2_nodeEnd_28 (by decide) rfl ?_
    exact PW_at (w2_nodeEnd_b30_ok C hRt hHR hnT hk) (And.intro rfl (And.intro rfl (And.intro rfl (And.intro rfl (And.intro rfl trivial))))) (Nat.le_of_ble_eq_true rfl) (Nat.le_of_ble_eq_true rfl)
  · replace hk := hk.2 c9
    refine px_aload_n (i := 0) C dX2_nodeEnd_14 rfl rfl ?_
    refine px_getr C dX2_nodeEnd_15 fl_RX2_15 rfl rfl rfl ?_
    refine px_iload_n (i := 3) C dX2_nodeEnd_18 rfl rfl ?_
    obtain ⟨o8, hk⟩ := hk
    refine px_callSNi (h := 0) (rc' := 0) (rs' := 0) C (HR_le hHR (Nat.le_of_ble_eq_true rfl)) hRt hnT dX2_nodeEnd_19 (List.mem_append_right _ (List.mem_append_left _ (List.mem_of_getElem? (i := 7) rfl))) ms_X8_at (at_ok (j := 20) (q := 0) (n := 40) (loc := 1280) (PCx_l C) (PCx_I C) rfl rfl rfl o8) rfl rfl (Nat.le_of_ble_eq_true rfl) (Nat.le_of_ble_eq_true rfl) (Nat.le_of_ble_eq_true rfl) (Nat.le_of_ble_eq_true rfl) ?_
    rintro _ _ ⟨rfl, rfl⟩
    exact px_iret C hRt dX2_nodeEnd_22 rfl rfl hk
theorem dX2_nextRoot_0 : decode cX2_nextRoot 0 = .ok (.iconst (-1), 1) := by decide +kernel
theorem dX2_nextRoot_1 : decode cX2_nextRoot 1 = .ok (.istore_n 3, 1) := by decide +kernel
theorem dX2_nextRoot_2 : decode cX2_nextRoot 2 = .ok (.iconst 0, 1) := by decide +kernel
theorem dX2_nextRoot_3 : decode cX2_nextRoot 3 = .ok (.istore 4, 2) := by decide +kernel
theorem dX2_nextRoot_5 : decode cX2_nextRoot 5 = .ok (.iload 4, 2) := by decide +kernel
theorem dX2_nextRoot_7 : decode cX2_nextRoot 7 = .ok (.aload_n 0, 1) := by decide +kernel
theorem dX2_nextRoot_8 : decode cX2_nextRoot 8 = .ok (.getfield 37, 3) := by decide +kernel
theorem dX2_nextRoot_11 : decode cX2_nextRoot 11 = .ok (.getfield 45, 3) := by decide +kernel
theorem dX2_nextRoot_14 : decode cX2_nextRoot 14 = .ok (.if_icmp .ge 66, 3) := by decide +kernel
theorem dX2_nextRoot_17 : decode cX2_nextRoot 17 = .ok (.aload_n 0, 1) := by decide +kernel
theorem dX2_nextRoot_18 : decode cX2_nextRoot 18 = .ok (.getfield 37, 3) := by decide +kernel
theorem dX2_nextRoot_21 : decode cX2_nextRoot 21 = .ok (.getfield 117, 3) := by decide +kernel
theorem dX2_nextRoot_24 : decode cX2_nextRoot 24 = .ok (.iload 4, 2) := by decide +kernel
theorem dX2_nextRoot_26 : decode cX2_nextRoot 26 = .ok (.invokestatic 54, 3) := by decide +kernel
theorem dX2_nextRoot_29 : decode cX2_nextRoot 29 = .ok (.iload_n 1, 1) := by decide +kernel
theorem dX2_nextRoot_30 : decode cX2_nextRoot 30 = .ok (.if_icmp .ne 44, 3) := by decide +kernel
theorem dX2_nextRoot_33 : decode cX2_nextRoot 33 = .ok (.aload_n 0, 1) := by decide +kernel
theorem dX2_nextRoot_34 : decode cX2_nextRoot 34 = .ok (.getfield 21, 3) := by decide +kernel
theorem dX2_nextRoot_37 : decode cX2_nextRoot 37 = .ok (.iload 4, 2) := by decide +kernel
theorem dX2_nextRoot_39 : decode cX2_nextRoot 39 = .ok (.invokestatic 54, 3) := by decide +kernel
theorem dX2_nextRoot_42 : decode cX2_nextRoot 42 = .ok (.iconst 1, 1) := by decide +kernel
theorem dX2_nextRoot_43 : decode cX2_nextRoot 43 = .ok (.if_icmp .eq 31, 3) := by decide +kernel
theorem dX2_nextRoot_46 : decode cX2_nextRoot 46 = .ok (.aload_n 0, 1) := by decide +kernel
theorem dX2_nextRoot_47 : decode cX2_nextRoot 47 = .ok (.iload 4, 2) := by decide +kernel
theorem dX2_nextRoot_49 : decode cX2_nextRoot 49 = .ok (.invokevirtual 147, 3) := by decide +kernel
theorem dX2_nextRoot_52 : decode cX2_nextRoot 52 = .ok (.istore 5, 2) := by decide +kernel
theorem dX2_nextRoot_54 : decode cX2_nextRoot 54 = .ok (.iload 5, 2) := by decide +kernel
theorem dX2_nextRoot_56 : decode cX2_nextRoot 56 = .ok (.iload_n 2, 1) := by decide +kernel
theorem dX2_nextRoot_57 : decode cX2_nextRoot 57 = .ok (.if_icmp .le 17, 3) := by decide +kernel
theorem dX2_nextRoot_60 : decode cX2_nextRoot 60 = .ok (.iload_n 3, 1) := by decide +kernel
theorem dX2_nextRoot_61 : decode cX2_nextRoot 61 = .ok (.iconst (-1), 1) := by decide +kernel
theorem dX2_nextRoot_62 : decode cX2_nextRoot 62 = .ok (.if_icmp .eq 9, 3) := by decide +kernel
theorem dX2_nextRoot_65 : decode cX2_nextRoot 65 = .ok (.iload 5, 2) := by decide +kernel
theorem dX2_nextRoot_67 : decode cX2_nextRoot 67 = .ok (.iload_n 3, 1) := by decide +kernel
theorem dX2_nextRoot_68 : decode cX2_nextRoot 68 = .ok (.if_icmp .ge 6, 3) := by decide +kernel
theorem dX2_nextRoot_71 : decode cX2_nextRoot 71 = .ok (.iload 5, 2) := by decide +kernel
theorem dX2_nextRoot_73 : decode cX2_nextRoot 73 = .ok (.istore_n 3, 1) := by decide +kernel
theorem dX2_nextRoot_74 : decode cX2_nextRoot 74 = .ok (.iinc 4 1, 3) := by decide +kernel
theorem dX2_nextRoot_77 : decode cX2_nextRoot 77 = .ok (.goto (-72), 3) := by decide +kernel
theorem dX2_nextRoot_80 : decode cX2_nextRoot 80 = .ok (.iload_n 3, 1) := by decide +kernel
theorem dX2_nextRoot_81 : decode cX2_nextRoot 81 = .ok (.ireturn, 1) := by decide +kernel
set_option maxRecDepth 100000 in
set_option maxHeartbeats 4000000 in
theorem w2_nextRoot_b5_ok {G : GT} {P : Int32 → Mem → Prop} {X : String → Mem → Prop} (C : PCx G cX2_nextRoot 6 RX2) (hRt : PRt G (some .int) (qI P) X) (hHR : HR G (3)) (hnT : NoT G) {μ : Mem} {l1 : Int32} {l2 : Int32} {l3 : Int32} {l4 : Int32} (hk : w2_nextRoot_b5 P μ l1 l2 l3 l4) : PW G 0 0 5 [some (pR 18 0), some (pI l1), some (pI l2), some (pI l3), some (pI l4), none] [] μ := by
  refine hk (fun (μ : Mem) (l1 : Int32) (l2 : Int32) (l3 : Int32) (l4 : Int32) => PW G 0 0 5 [some (pR 18 0), some (pI l1), some (pI l2), some (pI l3), some (pI l4), none] [] μ) (fun (μ : Mem) l1 l2 l3 l4 hk => ?_)
  have hR5 : ∀ (μ : Mem) (l1 : Int32) (l2 : Int32) (l3 : Int32) (l4 : Int32), PW G 0 0 5 [some (pR 18 0), some (pI l1), some (pI l2), some (pI l3), some (pI l4), none] [] μ → PW G 0 0 5 [some (pR 18 0), some (pI l1), some (pI l2), some (pI l3), some (pI l4), none] [] μ := fun _ _ _ _ _ h => h
  unfold w2_nextRoot_b5_body at hk
  refine px_iload (i := 4) C dX2_nextRoot_5 rfl ?_
  refine px_aload_n (i := 0) C dX2_nextRoot_7 rfl rfl ?_
  refine px_getr C dX2_nextRoot_8 fl_RX2_37 rfl rfl rfl ?_
  refine px_geti 1 C dX2_nextRoot_11 fl_RX2_45 rfl rfl rfl rfl ?_
  refine px_icmp_ge (tgt := 80) C dX2_nextRoot_14 (by decide) (fun c10 => ?_) (fun c10 => ?_)
  · replace hk := hk.1 c10
    refine px_iload_n (i := 3) C dX2_nextRoot_80 rfl rfl ?_
    exact px_iret C hRt dX2_nextRoot_81 rfl rfl hk
  · replace hk := hk.2 c10
    refine px_aload_n (i := 0) C dX2_nextRoot_17 rfl rfl ?_
    refine px_getr C dX2_nextRoot_18 fl_RX2_37 rfl rfl rfl ?_
    refine px_getr C dX2_nextRoot_21 fl_RX2_117 rfl rfl rfl ?_
    refine px_iload (i := 4) C dX2_nextRoot_24 rfl ?_
    obtain ⟨o1, hk⟩ := hk
    refine px_callSNi (h := 0) (rc' := 0) (rs' := 0) C (HR_le hHR (Nat.le_of_ble_eq_true rfl)) hRt hnT dX2_nextRoot_26 (List.mem_append_right _ (List.mem_append_left _ (List.mem_of_getElem? (i := 7) rfl))) ms_X8_at (at_ok (j := 1) (q := 0) (n := 40) (loc := 64) (PCx_l C) (PCx_I C) rfl rfl rfl o1) rfl rfl (Nat.le_of_ble_eq_true rfl) (Nat.le_of_ble_eq_true rfl) (Nat.le_of_ble_eq_true rfl) (Nat.le_of_ble_eq_true rfl) ?_
    rintro _ _ ⟨rfl, rfl⟩
    refine px_iload_n (i := 1) C dX2_nextRoot_29 rfl rfl ?_
    refine px_icmp_ne (tgt := 74) C dX2_nextRoot_30 (by decide) (fun c9 => ?_) (fun c9 => ?_)
    · replace hk := hk.1 c9
      refine px_iinc (i := 4) (v := (1 : Int32)) C dX2_nextRoot_74 rfl rfl (by decide) rfl ?_
      refine px_goto (tgt := 5) C dX2_nextRoot_77 (by decide) ?_
      exact PW_at (hR5 _ _ _ _ _ hk) (And.intro rfl (And.intro rfl (And.intro rfl (And.intro rfl (And.intro rfl trivial))))) (Nat.le_of_ble_eq_true rfl) (Nat.le_of_ble_eq_true rfl)
    · replace hk := hk.2 c9
      refine px_aload_n (i := 0) C dX2_nextRoot_33 rfl rfl ?_
      refine px_getr C dX2_nextRoot_34 fl_RX2_21 rfl rfl rfl ?_
      refine px_iload (i := 4) C dX2_nextRoot_37 rfl ?_
      obtain ⟨o2, hk⟩ := hk
      refine px_callSNi (h := 0) (rc' := 0) (rs' := 0) C (HR_le hHR (Nat.le_of_ble_eq_true rfl)) hRt hnT dX2_nextRoot_39 (List.mem_append_right _ (List.mem_append_left _ (List.mem_of_getElem? (i := 7) rfl))) ms_X8_at (at_ok (j := 22) (q := 0) (n := 40) (loc := 1408) (PCx_l C) (PCx_I C) rfl rfl rfl o2) rfl rfl (Nat.le_of_ble_eq_true rfl) (Nat.le_of_ble_eq_true rfl) (Nat.le_of_ble_eq_true rfl) (Nat.le_of_ble_eq_true rfl) ?_
      rintro _ _ ⟨rfl, rfl⟩
      refine px_iconst (v := (1 : Int32)) C dX2_nextRoot_42 rfl ?_
      refine px_icmp_eq (tgt := 74) C dX2_nextRoot_43 (by decide) (fun c8 => ?_) (fun c8 => ?_)
      · replace hk := hk.1 c8
        refine px_iinc (i := 4) (v := (1 : Int32)) C dX2_nextRoot_74 rfl rfl (by decide) rfl ?_
        refine px_goto (tgt := 5) C dX2_nextRoot_77 (by decide) ?_
        exact PW_at (hR5 _ _ _ _ _ hk) (And.intro rfl (And.intro rfl (And.intro rfl (And.intro rfl (And.intro rfl trivial))))) (Nat.le_of_ble_eq_true rfl) (Nat.le_of_ble_eq_true rfl)
      · replace hk := hk.2 c8
        refine px_aload_n (i := 0) C dX2_nextRoot_46 rfl rfl ?_
        refine px_iload (i := 4) C dX2_nextRoot_47 rfl ?_
        refine px_callVi (h := 2) (rc' := 0) (rs' := 0) C (HR_le hHR (Nat.le_of_ble_eq_true rfl)) hRt hnT dX2_nextRoot_49 (gw4 202 rfl rfl) mv_X2_rootNumber (w2_rootNumber_ok (PCx_l C) (PCx_I C) hk) rfl rfl rfl rfl rfl (Nat.le_of_ble_eq_true rfl) (Nat.le_of_ble_eq_true rfl) (Nat.le_of_ble_eq_true rfl) (Nat.le_of_ble_eq_true rfl) ?_
        intro r4 μ3 hk
        refine px_istore (i := 5) C dX2_nextRoot_52 (by decide) rfl ?_
        refine px_iload (i := 5) C dX2_nextRoot_54 rfl ?_
        refine px_iload_n (i := 2) C dX2_nextRoot_56 rfl rfl ?_
        refine px_icmp_le (tgt := 74) C dX2_nextRoot_57 (by decide) (fun c7 => ?_) (fun c7 => ?_)
        · replace hk := hk.1 c7
          refine px_iinc (i := 4) (v := (1 : Int32)) C dX2_nextRoot_74 rfl rfl (by decide) rfl ?_
          refine px_goto (tgt := 5) C dX2_nextRoot_77 (by decide) ?_
          exact PW_at (hR5 _ _ _ _ _ hk) (And.intro rfl (And.intro rfl (And.intro rfl (And.intro rfl (And.intro rfl trivial))))) (Nat.le_of_ble_eq_true rfl) (Nat.le_of_ble_eq_true rfl)
        · replace hk := hk.2 c7
          refine px_iload_n (i := 3) C dX2_nextRoot_60 rfl rfl ?_
          refine px_iconst (v := (-1 : Int32)) C dX2_nextRoot_61 rfl ?_
          refine px_icmp_eq (tgt := 71) C dX2_nextRoot_62 (by decide) (fun c6 => ?_) (fun c6 => ?_)
          · replace hk := hk.1 c6
            refine px_iload (i := 5) C dX2_nextRoot_71 rfl ?_
            refine px_istore_n (i := 3) C dX2_nextRoot_73 rfl (by decide) rfl ?_
            refine px_iinc (i := 4) (v := (1 : Int32)) C dX2_nextRoot_74 rfl rfl (by decide) rfl ?_
            refine px_goto (tgt := 5) C dX2_nextRoot_77 (by decide) ?_
            exact PW_at (hR5 _ _ _ _ _ hk) (And.intro rfl (And.intro rfl (And.intro rfl (And.intro rfl (And.intro rfl trivial))))) (Nat.le_of_ble_eq_true rfl) (Nat.le_of_ble_eq_true rfl)
          · replace hk := hk.2 c6
            refine px_iload (i := 5) C dX2_nextRoot_65 rfl ?_
            refine px_iload_n (i := 3) C dX2_nextRoot_67 rfl rfl ?_
            refine px_icmp_ge (tgt := 74) C dX2_nextRoot_68 (by decide) (fun c5 => ?_) (fun c5 => ?_)
            · replace hk := hk.1 c5
              refine px_iinc (i := 4) (v := (1 : Int32)) C dX2_nextRoot_74 rfl rfl (by decide) rfl ?_
              refine px_goto (tgt := 5) C dX2_nextRoot_77 (by decide) ?_
              exact PW_at (hR5 _ _ _ _ _ hk) (And.intro rfl (And.intro rfl (And.intro rfl (And.intro rfl (And.intro rfl trivial))))) (Nat.le_of_ble_eq_true rfl) (Nat.le_of_ble_eq_true rfl)
            · replace hk := hk.2 c5
              refine px_iload (i := 5) C dX2_nextRoot_71 rfl ?_
              refine px_istore_n (i := 3) C dX2_nextRoot_73 rfl (by decide) rfl ?_
              refine px_iinc (i := 4) (v := (1 : Int32)) C dX2_nextRoot_74 rfl rfl (by decide) rfl ?_
              refine px_goto (tgt := 5) C dX2_nextRoot_77 (by decide) ?_
              exact PW_at (hR5 _ _ _ _ _ hk) (And.intro rfl (And.intro rfl (And.intro rfl (And.intro rfl (And.intro rfl trivial))))) (Nat.le_of_ble_eq_true rfl) (Nat.le_of_ble_eq_true rfl)
set_option maxRecDepth 100000 in
set_option maxHeartbeats 4000000 in
theorem w2_nextRoot_ok {l : Launch} {idx : List (Nat × Nat)} {μ : Mem} {a1 : Int32} {a2 : Int32} {P : Int32 → Mem → Prop} {X : String → Mem → Prop} (hl : l.stackTraces = false) (hI : IdxOK idx) (hk : w2_nextRoot_wp μ a1 a2 P) : PMet l yX2_nextRoot (.code yX2_nextRoot cX2_nextRoot 6 (some .int)) 3 0 0 idx [pR 18 0, pI a1, pI a2] μ (qI P) X := by
  refine PMet_of mv_X2_nextRoot.2.2.2.2.2.2 hl hI mv_X2_nextRoot.2.2.2.1 rfl (Nat.le_of_ble_eq_true rfl) (fun G _ _ C hRt hHR hnT => ?_)
  show PW G 0 0 0 [some (pR 18 0), some (pI a1), some (pI a2), none, none, none] [] μ
  unfold w2_nextRoot_wp at hk
  refine px_iconst (v := (-1 : Int32)) C dX2_nextRoot_0 rfl ?_
  refine px_istore_n (i := 3) C dX2_nextRoot_1 rfl (by decide) rfl ?_
  refine px_iconst (v := (0 : Int32)) C dX2_nextRoot_2 rfl ?_
  refine px_istore (i := 4) C dX2_nextRoot_3 (by decide) rfl ?_
  exact PW_at (w2_nextRoot_b5_ok C hRt hHR hnT hk) (And.intro rfl (And.intro rfl (And.intro rfl (And.intro rfl (And.intro rfl trivial))))) (Nat.le_of_ble_eq_true rfl) (Nat.le_of_ble_eq_true rfl)
theorem dX2_countRoots_0 : decode cX2_countRoots 0 = .ok (.iconst 0, 1) := by decide +kernel
theorem dX2_countRoots_1 : decode cX2_countRoots 1 = .ok (.istore_n 3, 1) := by decide +kernel
theorem dX2_countRoots_2 : decode cX2_countRoots 2 = .ok (.aload_n 0, 1) := by decide +kernel
theorem dX2_countRoots_3 : decode cX2_countRoots 3 = .ok (.iload_n 1, 1) := by decide +kernel
theorem dX2_countRoots_4 : decode cX2_countRoots 4 = .ok (.iconst (-1), 1) := by decide +kernel
theorem dX2_countRoots_5 : decode cX2_countRoots 5 = .ok (.invokevirtual 150, 3) := by decide +kernel
theorem dX2_countRoots_8 : decode cX2_countRoots 8 = .ok (.istore 4, 2) := by decide +kernel
theorem dX2_countRoots_10 : decode cX2_countRoots 10 = .ok (.iconst 0, 1) := by decide +kernel
theorem dX2_countRoots_11 : decode cX2_countRoots 11 = .ok (.istore 5, 2) := by decide +kernel
theorem dX2_countRoots_13 : decode cX2_countRoots 13 = .ok (.iload 5, 2) := by decide +kernel
theorem dX2_countRoots_15 : decode cX2_countRoots 15 = .ok (.bipush 40, 2) := by decide +kernel
theorem dX2_countRoots_17 : decode cX2_countRoots 17 = .ok (.if_icmp .ge 44, 3) := by decide +kernel
theorem dX2_countRoots_20 : decode cX2_countRoots 20 = .ok (.iload 4, 2) := by decide +kernel
theorem dX2_countRoots_22 : decode cX2_countRoots 22 = .ok (.iconst (-1), 1) := by decide +kernel
theorem dX2_countRoots_23 : decode cX2_countRoots 23 = .ok (.if_icmp .eq 38, 3) := by decide +kernel
theorem dX2_countRoots_26 : decode cX2_countRoots 26 = .ok (.iload 4, 2) := by decide +kernel
theorem dX2_countRoots_28 : decode cX2_countRoots 28 = .ok (.sipush 1000, 3) := by decide +kernel
theorem dX2_countRoots_31 : decode cX2_countRoots 31 = .ok (.if_icmp .lt 7, 3) := by decide +kernel
theorem dX2_countRoots_34 : decode cX2_countRoots 34 = .ok (.iconst 1, 1) := by decide +kernel
theorem dX2_countRoots_35 : decode cX2_countRoots 35 = .ok (.goto 4, 3) := by decide +kernel
theorem dX2_countRoots_38 : decode cX2_countRoots 38 = .ok (.iconst 0, 1) := by decide +kernel
theorem dX2_countRoots_39 : decode cX2_countRoots 39 = .ok (.iload_n 2, 1) := by decide +kernel
theorem dX2_countRoots_40 : decode cX2_countRoots 40 = .ok (.if_icmp .ne 6, 3) := by decide +kernel
theorem dX2_countRoots_43 : decode cX2_countRoots 43 = .ok (.iinc 3 1, 3) := by decide +kernel
theorem dX2_countRoots_46 : decode cX2_countRoots 46 = .ok (.aload_n 0, 1) := by decide +kernel
theorem dX2_countRoots_47 : decode cX2_countRoots 47 = .ok (.iload_n 1, 1) := by decide +kernel
theorem dX2_countRoots_48 : decode cX2_countRoots 48 = .ok (.iload 4, 2) := by decide +kernel
theorem dX2_countRoots_50 : decode cX2_countRoots 50 = .ok (.invokevirtual 150, 3) := by decide +kernel
theorem dX2_countRoots_53 : decode cX2_countRoots 53 = .ok (.istore 4, 2) := by decide +kernel
theorem dX2_countRoots_55 : decode cX2_countRoots 55 = .ok (.iinc 5 1, 3) := by decide +kernel
theorem dX2_countRoots_58 : decode cX2_countRoots 58 = .ok (.goto (-45), 3) := by decide +kernel
theorem dX2_countRoots_61 : decode cX2_countRoots 61 = .ok (.iload_n 3, 1) := by decide +kernel
theorem dX2_countRoots_62 : decode cX2_countRoots 62 = .ok (.ireturn, 1) := by decide +kernel
set_option maxRecDepth 100000 in
set_option maxHeartbeats 4000000 in
theorem w2_countRoots_b39_ok {G : GT} {P : Int32 → Mem → Prop} {X : String → Mem → Prop} (C : PCx G cX2_countRoots 6 RX2) (hRt : PRt G (some .int) (qI P) X) (hHR : HR G (4)) (hnT : NoT G) {R13 : Mem → Int32 → Int32 → Int32 → Int32 → Int32 → Prop} (hR13 : ∀ (μ : Mem) (l1 : Int32) (l2 : Int32) (l3 : Int32) (l4 : Int32) (l5 : Int32), R13 μ l1 l2 l3 l4 l5 → PW G 0 0 13 [some (pR 18 0), some (pI l1), some (pI l2), some (pI l3), some (pI l4), some (pI l5)] [] μ) {μ : Mem} {l1 : Int32} {l2 : Int32} {l3 : Int32} {l4 : Int32} {l5 : Int32} {s0 : Int32} (hk : w2_countRoots_b39 P R13 μ l1 l2 l3 l4 l5 s0) : PW G 0 0 39 [some (pR 18 0), some (pI l1), some (pI l2), some (pI l3), some (pI l4), some (pI l5)] [pI s0] μ := by
  unfold w2_countRoots_b39 at hk
  refine px_iload_n (i := 2) C dX2_countRoots_39 rfl rfl ?_
  refine px_icmp_ne (tgt := 46) C dX2_countRoots_40 (by decide) (fun c7 => ?_) (fun c7 => ?_)
  · replace hk := hk.1 c7
    refine px_aload_n (i := 0) C dX2_countRoots_46 rfl rfl ?_
    refine px_iload_n (i := 1) C dX2_countRoots_47 rfl rfl ?_
    refine px_iload (i := 4) C dX2_countRoots_48 rfl ?_
    refine px_callVi (h := 3) (rc' := 0) (rs' := 0) C (HR_le hHR (Nat.le_of_ble_eq_true rfl)) hRt hnT dX2_countRoots_50 (gw4 198 rfl rfl) mv_X2_nextRoot (w2_nextRoot_ok (PCx_l C) (PCx_I C) hk) rfl rfl rfl rfl rfl (Nat.le_of_ble_eq_true rfl) (Nat.le_of_ble_eq_true rfl) (Nat.le_of_ble_eq_true rfl) (Nat.le_of_ble_eq_true rfl) ?_
    intro r4 μ3 hk
    refine px_istore (i := 4) C dX2_countRoots_53 (by decide) rfl ?_
    refine px_iinc (i := 5) (v := (1 : Int32)) C dX2_countRoots_55 rfl rfl (by decide) rfl ?_
    refine px_goto (tgt := 13) C dX2_countRoots_58 (by decide) ?_
    exact PW_at (hR13 _ _ _ _ _ _ hk) (And.intro rfl (And.intro rfl (And.intro rfl (And.intro rfl (And.intro rfl (And.intro rfl trivial)))))) (Nat.le_of_ble_eq_true rfl) (Nat.le_of_ble_eq_true rfl)
  · replace hk := hk.2 c7
    refine px_iinc (i := 3) (v := (1 : Int32)) C dX2_countRoots_43 rfl rfl (by decide) rfl ?_
    refine px_aload_n (i := 0) C dX2_countRoots_46 rfl rfl ?_
    refine px_iload_n (i := 1) C dX2_countRoots_47 rfl rfl ?_
    refine px_iload (i := 4) C dX2_countRoots_48 rfl ?_
    refine px_callVi (h := 3) (rc' := 0) (rs' := 0) C (HR_le hHR (Nat.le_of_ble_eq_true rfl)) hRt hnT dX2_countRoots_50 (gw4 198 rfl rfl) mv_X2_nextRoot (w2_nextRoot_ok (PCx_l C) (PCx_I C) hk) rfl rfl rfl rfl rfl (Nat.le_of_ble_eq_true rfl) (Nat.le_of_ble_eq_true rfl) (Nat.le_of_ble_eq_true rfl) (Nat.le_of_ble_eq_true rfl) ?_
    intro r6 μ5 hk
    refine px_istore (i := 4) C dX2_countRoots_53 (by decide) rfl ?_
    refine px_iinc (i := 5) (v := (1 : Int32)) C dX2_countRoots_55 rfl rfl (by decide) rfl ?_
    refine px_goto (tgt := 13) C dX2_countRoots_58 (by decide) ?_
    exact PW_at (hR13 _ _ _ _ _ _ hk) (And.intro rfl (And.intro rfl (And.intro rfl (And.intro rfl (And.intro rfl (And.intro rfl trivial)))))) (Nat.le_of_ble_eq_true rfl) (Nat.le_of_ble_eq_true rfl)
set_option maxRecDepth 100000 in
set_option maxHeartbeats 4000000 in
theorem w2_countRoots_b13_ok {G : GT} {P : Int32 → Mem → Prop} {X : String → Mem → Prop} (C : PCx G cX2_countRoots 6 RX2) (hRt : PRt G (some .int) (qI P) X) (hHR : HR G (4)) (hnT : NoT G) {μ : Mem} {l1 : Int32} {l2 : Int32} {l3 : Int32} {l4 : Int32} {l5 : Int32} (hk : w2_countRoots_b13 P μ l1 l2 l3 l4 l5) : PW G 0 0 13 [some (pR 18 0), some (pI l1), some (pI l2), some (pI l3), some (pI l4), some (pI l5)] [] μ := by
  refine hk (fun (μ : Mem) (l1 : Int32) (l2 : Int32) (l3 : Int32) (l4 : Int32) (l5 : Int32) => PW G 0 0 13 [some (pR 18 0), some (pI l1), some (pI l2), some (pI l3), some (pI l4), some (pI l5)] [] μ) (fun (μ : Mem) l1 l2 l3 l4 l5 hk => ?_)
  have hR13 : ∀ (μ : Mem) (l1 : Int32) (l2 : Int32) (l3 : Int32) (l4 : Int32) (l5 : Int32), PW G 0 0 13 [some (pR 18 0), some (pI l1), some (pI l2), some (pI l3), some (pI l4), some (pI l5)] [] μ → PW G 0 0 13 [some (pR 18 0), some (pI l1), some (pI l2), some (pI l3), some (pI l4), some (pI l5)] [] μ := fun _ _ _ _ _ _ h => h
  unfold w2_countRoots_b13_body at hk
  refine px_iload (i := 5) C dX2_countRoots_13 rfl ?_
  refine px_bipush (v := (40 : Int32)) C dX2_countRoots_15 rfl ?_
  refine px_icmp_ge (tgt := 61) C dX2_countRoots_17 (by decide) (fun c10 => ?_) (fun c10 => ?_)
  · replace hk := hk.1 c10
    refine px_iload_n (i := 3) C dX2_countRoots_61 rfl rfl ?_
    exact px_iret C hRt dX2_countRoots_62 rfl rfl hk
  · replace hk := hk.2 c10
    refine px_iload (i := 4) C dX2_countRoots_20 rfl ?_
    refine px_iconst (v := (-1 : Int32)) C dX2_countRoots_22 rfl ?_
    refine px_icmp_eq (tgt := 61) C dX2_countRoots_23 (by decide) (fun c9 => ?_) (fun c9 => ?_)
    · replace hk := hk.1 c9
      refine px_iload_n (i := 3) C dX2_countRoots_61 rfl rfl ?_
      exact px_iret C hRt dX2_countRoots_62 rfl rfl hk
    · replace hk := hk.2 c9
      refine px_iload (i := 4) C dX2_countRoots_26 rfl ?_
      refine px_sipush (v := (1000 : Int32)) C dX2_countRoots_28 rfl ?_
      refine px_icmp_lt (tgt := 38) C dX2_countRoots_31 (by decide) (fun c8 => ?_) (fun c8 => ?_)
      · replace hk := hk.1 c8
        refine px_iconst (v := (0 : Int32)) C dX2_countRoots_38 rfl ?_
        exact PW_at (w2_countRoots_b39_ok C hRt hHR hnT hR13 hk) (And.intro rfl (And.intro rfl (And.intro rfl (And.intro rfl (And.intro rfl (And.intro rfl trivial)))))) (Nat.le_of_ble_eq_true rfl) (Nat.le_of_ble_eq_true rfl)
      · replace hk := hk.2 c8
        refine px_iconst (v := (1 : Int32)) C dX2_countRoots_34 rfl ?_
        refine px_goto (tgt := 39) C dX2_countRoots_35 (by decide) ?_
        exact PW_at (w2_countRoots_b39_ok C hRt hHR hnT hR13 hk) (And.intro rfl (And.intro rfl (And.intro rfl (And.intro rfl (And.intro rfl (And.intro rfl trivial)))))) (Nat.le_of_ble_eq_true rfl) (Nat.le_of_ble_eq_true rfl)
set_option maxRecDepth 100000 in
set_option maxHeartbeats 4000000 in
theorem w2_countRoots_ok {l : Launch} {idx : List (Nat × Nat)} {μ : Mem} {a1 : Int32} {a2 : Int32} {P : Int32 → Mem → Prop} {X : String → Mem → Prop} (hl : l.stackTraces = false) (hI : IdxOK idx) (hk : w2_countRoots_wp μ a1 a2 P) : PMet l yX2_countRoots (.code yX2_countRoots cX2_countRoots 6 (some .int)) 4 0 0 idx [pR 18 0, pI a1, pI a2] μ (qI P) X := by
  refine PMet_of mv_X2_countRoots.2.2.2.2.2.2 hl hI mv_X2_countRoots.2.2.2.1 rfl (Nat.le_of_ble_eq_true rfl) (fun G _ _ C hRt hHR hnT => ?_)
  show PW G 0 0 0 [some (pR 18 0), some (pI a1), some (pI a2), none, none, none] [] μ
  unfold w2_countRoots_wp at hk
  refine px_iconst (v := (0 : Int32)) C dX2_countRoots_0 rfl ?_
  refine px_istore_n (i := 3) C dX2_countRoots_1 rfl (by decide) rfl ?_
  refine px_aload_n (i := 0) C dX2_countRoots_2 rfl rfl ?_
  refine px_iload_n (i := 1) C dX2_countRoots_3 rfl rfl ?_
  refine px_iconst (v := (-1 : Int32)) C dX2_countRoots_4 rfl ?_
  refine px_callVi (h := 3) (rc' := 0) (rs' := 0) C (HR_le hHR (Nat.le_of_ble_eq_true rfl)) hRt hnT dX2_countRoots_5 (gw4 198 rfl rfl) mv_X2_nextRoot (w2_nextRoot_ok (PCx_l C) (PCx_I C) hk) rfl rfl rfl rfl rfl (Nat.le_of_ble_eq_true rfl) (Nat.le_of_ble_eq_true rfl) (Nat.le_of_ble_eq_true rfl) (Nat.le_of_ble_eq_true rfl) ?_
  intro r2 μ1 hk
  refine px_istore (i := 4) C dX2_countRoots_8 (by decide) rfl ?_
  refine px_iconst (v := (0 : Int32)) C dX2_countRoots_10 rfl ?_
  refine px_istore (i := 5) C dX2_countRoots_11 (by decide) rfl ?_
  exact PW_at (w2_countRoots_b13_ok C hRt hHR hnT hk) (And.intro rfl (And.intro rfl (And.intro rfl (And.intro rfl (And.intro rfl (And.intro rfl trivial)))))) (Nat.le_of_ble_eq_true rfl) (Nat.le_of_ble_eq_true rfl)
theorem dX2_nthRoot_0 : decode cX2_nthRoot 0 = .ok (.iload_n 2, 1) := by decide +kernel
theorem dX2_nthRoot_1 : decode cX2_nthRoot 1 = .ok (.bipush 40, 2) := by decide +kernel
theorem dX2_nthRoot_3 : decode cX2_nthRoot 3 = .ok (.invokestatic 58, 3) := by decide +kernel
theorem dX2_nthRoot_6 : decode cX2_nthRoot 6 = .ok (.ifCond .ne 5, 3) := by decide +kernel
theorem dX2_nthRoot_9 : decode cX2_nthRoot 9 = .ok (.iconst (-1), 1) := by decide +kernel
theorem dX2_nthRoot_10 : decode cX2_nthRoot 10 = .ok (.ireturn, 1) := by decide +kernel
theorem dX2_nthRoot_11 : decode cX2_nthRoot 11 = .ok (.aload_n 0, 1) := by decide +kernel
theorem dX2_nthRoot_12 : decode cX2_nthRoot 12 = .ok (.iload_n 1, 1) := by decide +kernel
theorem dX2_nthRoot_13 : decode cX2_nthRoot 13 = .ok (.iconst (-1), 1) := by decide +kernel
theorem dX2_nthRoot_14 : decode cX2_nthRoot 14 = .ok (.invokevirtual 150, 3) := by decide +kernel
theorem dX2_nthRoot_17 : decode cX2_nthRoot 17 = .ok (.istore_n 3, 1) := by decide +kernel
theorem dX2_nthRoot_18 : decode cX2_nthRoot 18 = .ok (.iconst 0, 1) := by decide +kernel
theorem dX2_nthRoot_19 : decode cX2_nthRoot 19 = .ok (.istore 4, 2) := by decide +kernel
theorem dX2_nthRoot_21 : decode cX2_nthRoot 21 = .ok (.iload 4, 2) := by decide +kernel
theorem dX2_nthRoot_23 : decode cX2_nthRoot 23 = .ok (.iload_n 2, 1) := by decide +kernel
theorem dX2_nthRoot_24 : decode cX2_nthRoot 24 = .ok (.if_icmp .ge 21, 3) := by decide +kernel
theorem dX2_nthRoot_27 : decode cX2_nthRoot 27 = .ok (.iload_n 3, 1) := by decide +kernel
theorem dX2_nthRoot_28 : decode cX2_nthRoot 28 = .ok (.iconst (-1), 1) := by decide +kernel
theorem dX2_nthRoot_29 : decode cX2_nthRoot 29 = .ok (.if_icmp .eq 16, 3) := by decide +kernel
theorem dX2_nthRoot_32 : decode cX2_nthRoot 32 = .ok (.aload_n 0, 1) := by decide +kernel
theorem dX2_nthRoot_33 : decode cX2_nthRoot 33 = .ok (.iload_n 1, 1) := by decide +kernel
theorem dX2_nthRoot_34 : decode cX2_nthRoot 34 = .ok (.iload_n 3, 1) := by decide +kernel
theorem dX2_nthRoot_35 : decode cX2_nthRoot 35 = .ok (.invokevirtual 150, 3) := by decide +kernel
theorem dX2_nthRoot_38 : decode cX2_nthRoot 38 = .ok (.istore_n 3, 1) := by decide +kernel
theorem dX2_nthRoot_39 : decode cX2_nthRoot 39 = .ok (.iinc 4 1, 3) := by decide +kernel
theorem dX2_nthRoot_42 : decode cX2_nthRoot 42 = .ok (.goto (-21), 3) := by decide +kernel
theorem dX2_nthRoot_45 : decode cX2_nthRoot 45 = .ok (.iload_n 3, 1) := by decide +kernel
theorem dX2_nthRoot_46 : decode cX2_nthRoot 46 = .ok (.ireturn, 1) := by decide +kernel
set_option maxRecDepth 100000 in
set_option maxHeartbeats 4000000 in
theorem w2_nthRoot_b21_ok {G : GT} {P : Int32 → Mem → Prop} {X : String → Mem → Prop} (C : PCx G cX2_nthRoot 5 RX2) (hRt : PRt G (some .int) (qI P) X) (hHR : HR G (4)) (hnT : NoT G) {μ : Mem} {l1 : Int32} {l2 : Int32} {l3 : Int32} {l4 : Int32} (hk : w2_nthRoot_b21 P μ l1 l2 l3 l4) : PW G 0 0 21 [some (pR 18 0), some (pI l1), some (pI l2), some (pI l3), some (pI l4)] [] μ := by
  refine hk (fun (μ : Mem) (l1 : Int32) (l2 : Int32) (l3 : Int32) (l4 : Int32) => PW G 0 0 21 [some (pR 18 0), some (pI l1), some (pI l2), some (pI l3), some (pI l4)] [] μ) (fun (μ : Mem) l1 l2 l3 l4 hk => ?_)
  have hR21 : ∀ (μ : Mem) (l1 : Int32) (l2 : Int32) (l3 : Int32) (l4 : Int32), PW G 0 0 21 [some (pR 18 0), some (pI l1), some (pI l2), some (pI l3), some (pI l4)] [] μ → PW G 0 0 21 [some (pR 18 0), some (pI l1), some (pI l2), some (pI l3), some (pI l4)] [] μ := fun _ _ _ _ _ h => h
  unfold w2_nthRoot_b21_body at hk
  refine px_iload (i := 4) C dX2_nthRoot_21 rfl ?_
  refine px_iload_n (i := 2) C dX2_nthRoot_23 rfl rfl ?_
  refine px_icmp_ge (tgt := 45) C dX2_nthRoot_24 (by decide) (fun c8 => ?_) (fun c8 => ?_)
  · replace hk := hk.1 c8
    refine px_iload_n (i := 3) C dX2_nthRoot_45 rfl rfl ?_
    exact px_iret C hRt dX2_nthRoot_46 rfl rfl hk
  · replace hk := hk.2 c8
    refine px_iload_n (i := 3) C dX2_nthRoot_27 rfl rfl ?_
    refine px_iconst (v := (-1 : Int32)) C dX2_nthRoot_28 rfl ?_
    refine px_icmp_eq (tgt := 45) C dX2_nthRoot_29 (by decide) (fun c7 => ?_) (fun c7 => ?_)
    · replace hk := hk.1 c7
      refine px_iload_n (i := 3) C dX2_nthRoot_45 rfl rfl ?_
      exact px_iret C hRt dX2_nthRoot_46 rfl rfl hk
    · replace hk := hk.2 c7
      refine px_aload_n (i := 0) C dX2_nthRoot_32 rfl rfl ?_
      refine px_iload_n (i := 1) C dX2_nthRoot_33 rfl rfl ?_
      refine px_iload_n (i := 3) C dX2_nthRoot_34 rfl rfl ?_
      refine px_callVi (h := 3) (rc' := 0) (rs' := 0) C (HR_le hHR (Nat.le_of_ble_eq_true rfl)) hRt hnT dX2_nthRoot_35 (gw4 198 rfl rfl) mv_X2_nextRoot (w2_nextRoot_ok (PCx_l C) (PCx_I C) hk) rfl rfl rfl rfl rfl (Nat.le_of_ble_eq_true rfl) (Nat.le_of_ble_eq_true rfl) (Nat.le_of_ble_eq_true rfl) (Nat.le_of_ble_eq_true rfl) ?_
      intro r6 μ5 hk
      refine px_istore_n (i := 3) C dX2_nthRoot_38 rfl (by decide) rfl ?_
      refine px_iinc (i := 4) (v := (1 : Int32)) C dX2_nthRoot_39 rfl rfl (by decide) rfl ?_
      refine px_goto (tgt := 21) C dX2_nthRoot_42 (by decide) ?_
      exact PW_at (hR21 _ _ _ _ _ hk) (And.intro rfl (And.intro rfl (And.intro rfl (And.intro rfl (And.intro rfl trivial))))) (Nat.le_of_ble_eq_true rfl) (Nat.le_of_ble_eq_true rfl)
set_option maxRecDepth 100000 in
set_option maxHeartbeats 4000000 in
theorem w2_nthRoot_ok {l : Launch} {idx : List (Nat × Nat)} {μ : Mem} {a1 : Int32} {a2 : Int32} {P : Int32 → Mem → Prop} {X : String → Mem → Prop} (hl : l.stackTraces = false) (hI : IdxOK idx) (hk : w2_nthRoot_wp μ a1 a2 P) : PMet l yX2_nthRoot (.code yX2_nthRoot cX2_nthRoot 5 (some .int)) 4 0 0 idx [pR 18 0, pI a1, pI a2] μ (qI P) X := by
  refine PMet_of mv_X2_nthRoot.2.2.2.2.2.2 hl hI mv_X2_nthRoot.2.2.2.1 rfl (Nat.le_of_ble_eq_true rfl) (fun G _ _ C hRt hHR hnT => ?_)
  show PW G 0 0 0 [some (pR 18 0), some (pI a1), some (pI a2), none, none] [] μ
  unfold w2_nthRoot_wp at hk
  refine px_iload_n (i := 2) C dX2_nthRoot_0 rfl rfl ?_
  refine px_bipush (v := (40 : Int32)) C dX2_nthRoot_1 rfl ?_
  refine px_callSNi (h := 0) (rc' := 0) (rs' := 0) C (HR_le hHR (Nat.le_of_ble_eq_true rfl)) hRt hnT dX2_nthRoot_3 (List.mem_append_right _ (List.mem_append_left _ (List.mem_of_getElem? (i := 8) rfl))) ms_X8_isWithin (w8_isWithin_ok (PCx_l C) (PCx_I C) hk) rfl rfl (Nat.le_of_ble_eq_true rfl) (Nat.le_of_ble_eq_true rfl) (Nat.le_of_ble_eq_true rfl) (Nat.le_of_ble_eq_true rfl) ?_
  intro r2 μ1 hk
  refine px_if_ne (tgt := 11) C dX2_nthRoot_6 (by decide) (fun c9 => ?_) (fun c9 => ?_)
  · replace hk := hk.1 c9
    refine px_aload_n (i := 0) C dX2_nthRoot_11 rfl rfl ?_
    refine px_iload_n (i := 1) C dX2_nthRoot_12 rfl rfl ?_
    refine px_iconst (v := (-1 : Int32)) C dX2_nthRoot_13 rfl ?_
    refine px_callVi (h := 3) (rc' := 0) (rs' := 0) C (HR_le hHR (Nat.le_of_ble_eq_true rfl)) hRt hnT dX2_nthRoot_14 (gw4 198 rfl rfl) mv_X2_nextRoot (w2_nextRoot_ok (PCx_l C) (PCx_I C) hk) rfl rfl rfl rfl rfl (Nat.le_of_ble_eq_true rfl) (Nat.le_of_ble_eq_true rfl) (Nat.le_of_ble_eq_true rfl) (Nat.le_of_ble_eq_true rfl) ?_
    intro r4 μ3 hk
    refine px_istore_n (i := 3) C dX2_nthRoot_17 rfl (by decide) rfl ?_
    refine px_iconst (v := (0 : Int32)) C dX2_nthRoot_18 rfl ?_
    refine px_istore (i := 4) C dX2_nthRoot_19 (by decide) rfl ?_
    exact PW_at (w2_nthRoot_b21_ok C hRt hHR hnT hk) (And.intro rfl (And.intro rfl (And.intro rfl (And.intro rfl (And.intro rfl trivial))))) (Nat.le_of_ble_eq_true rfl) (Nat.le_of_ble_eq_true rfl)
  · replace hk := hk.2 c9
    refine px_iconst (v := (-1 : Int32)) C dX2_nthRoot_9 rfl ?_
    exact px_iret C hRt dX2_nthRoot_10 rfl rfl hk
theorem dX3_slotAt_0 : decode cX3_slotAt 0 = .ok (.iload_n 1, 1) := by decide +kernel
theorem dX3_slotAt_1 : decode cX3_slotAt 1 = .ok (.bipush 8, 2) := by decide +kernel
theorem dX3_slotAt_3 : decode cX3_slotAt 3 = .ok (.invokestatic 39, 3) := by decide +kernel
theorem dX3_slotAt_6 : decode cX3_slotAt 6 = .ok (.ifCond .eq 12, 3) := by decide +kernel
theorem dX3_slotAt_9 : decode cX3_slotAt 9 = .ok (.aload_n 0, 1) := by decide +kernel
theorem dX3_slotAt_10 : decode cX3_slotAt 10 = .ok (.getfield 20, 3) := by decide +kernel
theorem dX3_slotAt_13 : decode cX3_slotAt 13 = .ok (.iload_n 1, 1) := by decide +kernel
theorem dX3_slotAt_14 : decode cX3_slotAt 14 = .ok (.aaload, 1) := by decide +kernel
theorem dX3_slotAt_15 : decode cX3_slotAt 15 = .ok (.goto 4, 3) := by decide +kernel
theorem dX3_slotAt_18 : decode cX3_slotAt 18 = .ok (.aconst_null, 1) := by decide +kernel
theorem dX3_slotAt_19 : decode cX3_slotAt 19 = .ok (.areturn, 1) := by decide +kernel
set_option maxRecDepth 100000 in
set_option maxHeartbeats 4000000 in
theorem w3_slotAt_ok {l : Launch} {idx : List (Nat × Nat)} {μ : Mem} {a1 : Int32} {P : Nat → Mem → Prop} {X : String → Mem → Prop} (hl : l.stackTraces = false) (hI : IdxOK idx) (hk : w3_slotAt_wp μ a1 P) : PMet l yX3_slotAt (.code yX3_slotAt cX3_slotAt 2 (some (.object "TraceAssembler$Store"))) 1 0 0 idx [pR 10 0, pI a1] μ (qS P) X := by
  refine PMet_of mv_X3_slotAt.2.2.2.2.2.2 hl hI mv_X3_slotAt.2.2.2.1 rfl (Nat.le_of_ble_eq_true rfl) (fun G _ _ C hRt hHR hnT => ?_)
  show PW G 0 0 0 [some (pR 10 0), some (pI a1)] [] μ
  unfold w3_slotAt_wp at hk
  refine px_iload_n (i := 1) C dX3_slotAt_0 rfl rfl ?_
  refine px_bipush (v := (8 : Int32)) C dX3_slotAt_1 rfl ?_
  refine px_callSNi (h := 0) (rc' := 0) (rs' := 0) C (HR_le hHR (Nat.le_of_ble_eq_true rfl)) hRt hnT dX3_slotAt_3 (List.mem_append_right _ (List.mem_append_left _ (List.mem_of_getElem? (i := 16) rfl))) ms_X8_isWithin (w8_isWithin_ok (PCx_l C) (PCx_I C) hk) rfl rfl (Nat.le_of_ble_eq_true rfl) (Nat.le_of_ble_eq_true rfl) (Nat.le_of_ble_eq_true rfl) (Nat.le_of_ble_eq_true rfl) ?_
  intro r2 μ1 hk
  refine px_if_eq (tgt := 18) C dX3_slotAt_6 (by decide) (fun c4 => ?_) (fun c4 => ?_)
  · replace hk := hk.1 c4
    exact hk.elim
  · replace hk := hk.2 c4
    refine px_aload_n (i := 0) C dX3_slotAt_9 rfl rfl ?_
    refine px_getr C dX3_slotAt_10 fl_RX3_20 rfl rfl rfl ?_
    refine px_iload_n (i := 1) C dX3_slotAt_13 rfl rfl ?_
    obtain ⟨o3, hk⟩ := hk
    refine px_aald C dX3_slotAt_14 rfl rfl rfl o3 rfl ?_
    refine px_goto (tgt := 19) C dX3_slotAt_15 (by decide) ?_
    exact px_aret C hRt dX3_slotAt_19 (Or.inl ⟨_, rfl⟩) rfl hk
theorem dX4_put_0 : decode cX4_put 0 = .ok (.aload_n 0, 1) := by decide +kernel
theorem dX4_put_1 : decode cX4_put 1 = .ok (.getfield 9, 3) := by decide +kernel
theorem dX4_put_4 : decode cX4_put 4 = .ok (.bipush 80, 2) := by decide +kernel
theorem dX4_put_6 : decode cX4_put 6 = .ok (.invokestatic 22, 3) := by decide +kernel
theorem dX4_put_9 : decode cX4_put 9 = .ok (.ifCond .eq 23, 3) := by decide +kernel
theorem dX4_put_12 : decode cX4_put 12 = .ok (.aload_n 0, 1) := by decide +kernel
theorem dX4_put_13 : decode cX4_put 13 = .ok (.getfield 18, 3) := by decide +kernel
theorem dX4_put_16 : decode cX4_put 16 = .ok (.aload_n 0, 1) := by decide +kernel
theorem dX4_put_17 : decode cX4_put 17 = .ok (.getfield 9, 3) := by decide +kernel
theorem dX4_put_20 : decode cX4_put 20 = .ok (.iload_n 1, 1) := by decide +kernel
theorem dX4_put_21 : decode cX4_put 21 = .ok (.castore, 1) := by decide +kernel
theorem dX4_put_22 : decode cX4_put 22 = .ok (.aload_n 0, 1) := by decide +kernel
theorem dX4_put_23 : decode cX4_put 23 = .ok (.dup, 1) := by decide +kernel
theorem dX4_put_24 : decode cX4_put 24 = .ok (.getfield 9, 3) := by decide +kernel
theorem dX4_put_27 : decode cX4_put 27 = .ok (.iconst 1, 1) := by decide +kernel
theorem dX4_put_28 : decode cX4_put 28 = .ok (.iadd, 1) := by decide +kernel
theorem dX4_put_29 : decode cX4_put 29 = .ok (.putfield 9, 3) := by decide +kernel
theorem dX4_put_32 : decode cX4_put 32 = .ok (.return_, 1) := by decide +kernel
set_option maxRecDepth 100000 in
set_option maxHeartbeats 4000000 in
theorem w4_put_ok {l : Launch} {idx : List (Nat × Nat)} {μ : Mem} {a1 : Int32} {P : Mem → Prop} {X : String → Mem → Prop} (hl : l.stackTraces = false) (hI : IdxOK idx) (hk : w4_put_wp μ a1 P) : PMet l yX4_put (.code yX4_put cX4_put 2 none) 1 0 0 idx [pR 38 0, pI a1] μ (qV P) X := by
  refine PMet_of mv_X4_put.2.2.2.2.2.2 hl hI mv_X4_put.2.2.2.1 rfl (Nat.le_of_ble_eq_true rfl) (fun G _ _ C hRt hHR hnT => ?_)
  show PW G 0 0 0 [some (pR 38 0), some (pI a1)] [] μ
  unfold w4_put_wp at hk
  refine px_aload_n (i := 0) C dX4_put_0 rfl rfl ?_
  refine px_geti 2433 C dX4_put_1 fl_RX4_9 rfl rfl rfl rfl ?_
  refine px_bipush (v := (80 : Int32)) C dX4_put_4 rfl ?_
  refine px_callSNi (h := 0) (rc' := 0) (rs' := 0) C (HR_le hHR (Nat.le_of_ble_eq_true rfl)) hRt hnT dX4_put_6 (List.mem_append_right _ (List.mem_append_left _ (List.mem_of_getElem? (i := 23) rfl))) ms_X8_isWithin (w8_isWithin_ok (PCx_l C) (PCx_I C) hk) rfl rfl (Nat.le_of_ble_eq_true rfl) (Nat.le_of_ble_eq_true rfl) (Nat.le_of_ble_eq_true rfl) (Nat.le_of_ble_eq_true rfl) ?_
  intro r2 μ1 hk
  refine px_if_eq (tgt := 32) C dX4_put_9 (by decide) (fun c6 => ?_) (fun c6 => ?_)
  · replace hk := hk.1 c6
    exact px_vret C hRt dX4_put_32 rfl hk
  · replace hk := hk.2 c6
    refine px_aload_n (i := 0) C dX4_put_12 rfl rfl ?_
    refine px_getr C dX4_put_13 fl_RX4_18 rfl rfl rfl ?_
    refine px_aload_n (i := 0) C dX4_put_16 rfl rfl ?_
    refine px_geti 2433 C dX4_put_17 fl_RX4_9 rfl rfl rfl rfl ?_
    refine px_iload_n (i := 1) C dX4_put_20 rfl rfl ?_
    obtain ⟨o3, hk⟩ := hk
    replace hk := hk _ rfl
    refine px_cast 2496 C dX4_put_21 rfl rfl rfl rfl o3 ?_
    refine px_aload_n (i := 0) C dX4_put_22 rfl rfl ?_
    refine px_dup C dX4_put_23 rfl ?_
    refine px_geti 2433 C dX4_put_24 fl_RX4_9 rfl rfl rfl rfl ?_
    refine px_iconst (v := (1 : Int32)) C dX4_put_27 rfl ?_
    refine px_iadd C dX4_put_28 ?_
    replace hk := hk _ rfl
    refine px_puti 2433 C dX4_put_29 fp_RX4_9 rfl rfl rfl rfl rfl rfl ?_
    exact px_vret C hRt dX4_put_32 rfl hk
theorem dX4_take_0 : decode cX4_take 0 = .ok (.aload_n 0, 1) := by decide +kernel
theorem dX4_take_1 : decode cX4_take 1 = .ok (.getfield 15, 3) := by decide +kernel
theorem dX4_take_4 : decode cX4_take 4 = .ok (.bipush 80, 2) := by decide +kernel
theorem dX4_take_6 : decode cX4_take 6 = .ok (.invokestatic 22, 3) := by decide +kernel
theorem dX4_take_9 : decode cX4_take 9 = .ok (.ifCond .eq 39, 3) := by decide +kernel
theorem dX4_take_12 : decode cX4_take 12 = .ok (.aload_n 0, 1) := by decide +kernel
theorem dX4_take_13 : decode cX4_take 13 = .ok (.getfield 15, 3) := by decide +kernel
theorem dX4_take_16 : decode cX4_take 16 = .ok (.aload_n 0, 1) := by decide +kernel
theorem dX4_take_17 : decode cX4_take 17 = .ok (.getfield 9, 3) := by decide +kernel
theorem dX4_take_20 : decode cX4_take 20 = .ok (.if_icmp .ge 28, 3) := by decide +kernel
theorem dX4_take_23 : decode cX4_take 23 = .ok (.aload_n 0, 1) := by decide +kernel
theorem dX4_take_24 : decode cX4_take 24 = .ok (.getfield 18, 3) := by decide +kernel
theorem dX4_take_27 : decode cX4_take 27 = .ok (.aload_n 0, 1) := by decide +kernel
theorem dX4_take_28 : decode cX4_take 28 = .ok (.getfield 15, 3) := by decide +kernel
theorem dX4_take_31 : decode cX4_take 31 = .ok (.caload, 1) := by decide +kernel
theorem dX4_take_32 : decode cX4_take 32 = .ok (.iload_n 1, 1) := by decide +kernel
theorem dX4_take_33 : decode cX4_take 33 = .ok (.if_icmp .ne 15, 3) := by decide +kernel
theorem dX4_take_36 : decode cX4_take 36 = .ok (.aload_n 0, 1) := by decide +kernel
theorem dX4_take_37 : decode cX4_take 37 = .ok (.dup, 1) := by decide +kernel
theorem dX4_take_38 : decode cX4_take 38 = .ok (.getfield 15, 3) := by decide +kernel
theorem dX4_take_41 : decode cX4_take 41 = .ok (.iconst 1, 1) := by decide +kernel
theorem dX4_take_42 : decode cX4_take 42 = .ok (.iadd, 1) := by decide +kernel
theorem dX4_take_43 : decode cX4_take 43 = .ok (.putfield 15, 3) := by decide +kernel
theorem dX4_take_46 : decode cX4_take 46 = .ok (.iconst 1, 1) := by decide +kernel
theorem dX4_take_47 : decode cX4_take 47 = .ok (.ireturn, 1) := by decide +kernel
theorem dX4_take_48 : decode cX4_take 48 = .ok (.iconst 0, 1) := by decide +kernel
theorem dX4_take_49 : decode cX4_take 49 = .ok (.ireturn, 1) := by decide +kernel
set_option maxRecDepth 100000 in
set_option maxHeartbeats 4000000 in
theorem w4_take_ok {l : Launch} {idx : List (Nat × Nat)} {μ : Mem} {a1 : Int32} {P : Int32 → Mem → Prop} {X : String → Mem → Prop} (hl : l.stackTraces = false) (hI : IdxOK idx) (hk : w4_take_wp μ a1 P) : PMet l yX4_take (.code yX4_take cX4_take 2 (some .boolean)) 1 0 0 idx [pR 38 0, pI a1] μ (qI P) X := by
  refine PMet_of mv_X4_take.2.2.2.2.2.2 hl hI mv_X4_take.2.2.2.1 rfl (Nat.le_of_ble_eq_true rfl) (fun G _ _ C hRt hHR hnT => ?_)
  show PW G 0 0 0 [some (pR 38 0), some (pI a1)] [] μ
  unfold w4_take_wp at hk
  refine px_aload_n (i := 0) C dX4_take_0 rfl rfl ?_
  refine px_geti 2434 C dX4_take_1 fl_RX4_15 rfl rfl rfl rfl ?_
  refine px_bipush (v := (80 : Int32)) C dX4_take_4 rfl ?_
  refine px_callSNi (h := 0) (rc' := 0) (rs' := 0) C (HR_le hHR (Nat.le_of_ble_eq_true rfl)) hRt hnT dX4_take_6 (List.mem_append_right _ (List.mem_append_left _ (List.mem_of_getElem? (i := 23) rfl))) ms_X8_isWithin (w8_isWithin_ok (PCx_l C) (PCx_I C) hk) rfl rfl (Nat.le_of_ble_eq_true rfl) (Nat.le_of_ble_eq_true rfl) (Nat.le_of_ble_eq_true rfl) (Nat.le_of_ble_eq_true rfl) ?_
  intro r2 μ1 hk
  refine px_if_eq (tgt := 48) C dX4_take_9 (by decide) (fun c7 => ?_) (fun c7 => ?_)
  · replace hk := hk.1 c7
    refine px_iconst (v := (0 : Int32)) C dX4_take_48 rfl ?_
    exact px_iret C hRt dX4_take_49 rfl rfl hk
  · replace hk := hk.2 c7
    refine px_aload_n (i := 0) C dX4_take_12 rfl rfl ?_
    refine px_geti 2434 C dX4_take_13 fl_RX4_15 rfl rfl rfl rfl ?_
    refine px_aload_n (i := 0) C dX4_take_16 rfl rfl ?_
    refine px_geti 2433 C dX4_take_17 fl_RX4_9 rfl rfl rfl rfl ?_
    refine px_icmp_ge (tgt := 48) C dX4_take_20 (by decide) (fun c6 => ?_) (fun c6 => ?_)
    · replace hk := hk.1 c6
      refine px_iconst (v := (0 : Int32)) C dX4_take_48 rfl ?_
      exact px_iret C hRt dX4_take_49 rfl rfl hk
    · replace hk := hk.2 c6
      refine px_aload_n (i := 0) C dX4_take_23 rfl rfl ?_
      refine px_getr C dX4_take_24 fl_RX4_18 rfl rfl rfl ?_
      refine px_aload_n (i := 0) C dX4_take_27 rfl rfl ?_
      refine px_geti 2434 C dX4_take_28 fl_RX4_15 rfl rfl rfl rfl ?_
      obtain ⟨o3, hk⟩ := hk
      refine px_cald 2496 C dX4_take_31 rfl rfl rfl rfl o3 ?_
      refine px_iload_n (i := 1) C dX4_take_32 rfl rfl ?_
      refine px_icmp_ne (tgt := 48) C dX4_take_33 (by decide) (fun c5 => ?_) (fun c5 => ?_)
      · replace hk := hk.1 c5
        refine px_iconst (v := (0 : Int32)) C dX4_take_48 rfl ?_
        exact px_iret C hRt dX4_take_49 rfl rfl hk
      · replace hk := hk.2 c5
        refine px_aload_n (i := 0) C dX4_take_36 rfl rfl ?_
        refine px_dup C dX4_take_37 rfl ?_
        refine px_geti 2434 C dX4_take_38 fl_RX4_15 rfl rfl rfl rfl ?_
        refine px_iconst (v := (1 : Int32)) C dX4_take_41 rfl ?_
        refine px_iadd C dX4_take_42 ?_
        replace hk := hk _ rfl
        refine px_puti 2434 C dX4_take_43 fp_RX4_15 rfl rfl rfl rfl rfl rfl ?_
        refine px_iconst (v := (1 : Int32)) C dX4_take_46 rfl ?_
        exact px_iret C hRt dX4_take_47 rfl rfl hk
theorem dX4_takeDigit_0 : decode cX4_takeDigit 0 = .ok (.aload_n 0, 1) := by decide +kernel
theorem dX4_takeDigit_1 : decode cX4_takeDigit 1 = .ok (.getfield 15, 3) := by decide +kernel
theorem dX4_takeDigit_4 : decode cX4_takeDigit 4 = .ok (.bipush 80, 2) := by decide +kernel
theorem dX4_takeDigit_6 : decode cX4_takeDigit 6 = .ok (.invokestatic 22, 3) := by decide +kernel
theorem dX4_takeDigit_9 : decode cX4_takeDigit 9 = .ok (.ifCond .eq 14, 3) := by decide +kernel
theorem dX4_takeDigit_12 : decode cX4_takeDigit 12 = .ok (.aload_n 0, 1) := by decide +kernel
theorem dX4_takeDigit_13 : decode cX4_takeDigit 13 = .ok (.getfield 15, 3) := by decide +kernel
theorem dX4_takeDigit_16 : decode cX4_takeDigit 16 = .ok (.aload_n 0, 1) := by decide +kernel
theorem dX4_takeDigit_17 : decode cX4_takeDigit 17 = .ok (.getfield 9, 3) := by decide +kernel
theorem dX4_takeDigit_20 : decode cX4_takeDigit 20 = .ok (.if_icmp .lt 5, 3) := by decide +kernel
theorem dX4_takeDigit_23 : decode cX4_takeDigit 23 = .ok (.iconst (-1), 1) := by decide +kernel
theorem dX4_takeDigit_24 : decode cX4_takeDigit 24 = .ok (.ireturn, 1) := by decide +kernel
theorem dX4_takeDigit_25 : decode cX4_takeDigit 25 = .ok (.aload_n 0, 1) := by decide +kernel
theorem dX4_takeDigit_26 : decode cX4_takeDigit 26 = .ok (.getfield 18, 3) := by decide +kernel
theorem dX4_takeDigit_29 : decode cX4_takeDigit 29 = .ok (.aload_n 0, 1) := by decide +kernel
theorem dX4_takeDigit_30 : decode cX4_takeDigit 30 = .ok (.getfield 15, 3) := by decide +kernel
theorem dX4_takeDigit_33 : decode cX4_takeDigit 33 = .ok (.caload, 1) := by decide +kernel
theorem dX4_takeDigit_34 : decode cX4_takeDigit 34 = .ok (.bipush 48, 2) := by decide +kernel
theorem dX4_takeDigit_36 : decode cX4_takeDigit 36 = .ok (.isub, 1) := by decide +kernel
theorem dX4_takeDigit_37 : decode cX4_takeDigit 37 = .ok (.istore_n 2, 1) := by decide +kernel
theorem dX4_takeDigit_38 : decode cX4_takeDigit 38 = .ok (.iload_n 2, 1) := by decide +kernel
theorem dX4_takeDigit_39 : decode cX4_takeDigit 39 = .ok (.ifCond .lt 8, 3) := by decide +kernel
theorem dX4_takeDigit_42 : decode cX4_takeDigit 42 = .ok (.iload_n 2, 1) := by decide +kernel
theorem dX4_takeDigit_43 : decode cX4_takeDigit 43 = .ok (.iload_n 1, 1) := by decide +kernel
theorem dX4_takeDigit_44 : decode cX4_takeDigit 44 = .ok (.if_icmp .le 5, 3) := by decide +kernel
theorem dX4_takeDigit_47 : decode cX4_takeDigit 47 = .ok (.iconst (-1), 1) := by decide +kernel
theorem dX4_takeDigit_48 : decode cX4_takeDigit 48 = .ok (.ireturn, 1) := by decide +kernel
theorem dX4_takeDigit_49 : decode cX4_takeDigit 49 = .ok (.aload_n 0, 1) := by decide +kernel
theorem dX4_takeDigit_50 : decode cX4_takeDigit 50 = .ok (.dup, 1) := by decide +kernel
theorem dX4_takeDigit_51 : decode cX4_takeDigit 51 = .ok (.getfield 15, 3) := by decide +kernel
theorem dX4_takeDigit_54 : decode cX4_takeDigit 54 = .ok (.iconst 1, 1) := by decide +kernel
theorem dX4_takeDigit_55 : decode cX4_takeDigit 55 = .ok (.iadd, 1) := by decide +kernel
theorem dX4_takeDigit_56 : decode cX4_takeDigit 56 = .ok (.putfield 15, 3) := by decide +kernel
theorem dX4_takeDigit_59 : decode cX4_takeDigit 59 = .ok (.iload_n 2, 1) := by decide +kernel
theorem dX4_takeDigit_60 : decode cX4_takeDigit 60 = .ok (.ireturn, 1) := by decide +kernel
set_option maxRecDepth 100000 in
set_option maxHeartbeats 4000000 in
theorem w4_takeDigit_ok {l : Launch} {idx : List (Nat × Nat)} {μ : Mem} {a1 : Int32} {P : Int32 → Mem → Prop} {X : String → Mem → Prop} (hl : l.stackTraces = false) (hI : IdxOK idx) (hk : w4_takeDigit_wp μ a1 P) : PMet l yX4_takeDigit (.code yX4_takeDigit cX4_takeDigit 3 (some .int)) 1 0 0 idx [pR 38 0, pI a1] μ (qI P) X := by
  refine PMet_of mv_X4_takeDigit.2.2.2.2.2.2 hl hI mv_X4_takeDigit.2.2.2.1 rfl (Nat.le_of_ble_eq_true rfl) (fun G _ _ C hRt hHR hnT => ?_)
  show PW G 0 0 0 [some (pR 38 0), some (pI a1), none] [] μ
  unfold w4_takeDigit_wp at hk
  refine px_aload_n (i := 0) C dX4_takeDigit_0 rfl rfl ?_
  refine px_geti 2434 C dX4_takeDigit_1 fl_RX4_15 rfl rfl rfl rfl ?_
  refine px_bipush (v := (80 : Int32)) C dX4_takeDigit_4 rfl ?_
  refine px_callSNi (h := 0) (rc' := 0) (rs' := 0) C (HR_le hHR (Nat.le_of_ble_eq_true rfl)) hRt hnT dX4_takeDigit_6 (List.mem_append_right _ (List.mem_append_left _ (List.mem_of_getElem? (i := 23) rfl))) ms_X8_isWithin (w8_isWithin_ok (PCx_l C) (PCx_I C) hk) rfl rfl (Nat.le_of_ble_eq_true rfl) (Nat.le_of_ble_eq_true rfl) (Nat.le_of_ble_eq_true rfl) (Nat.le_of_ble_eq_true rfl) ?_
  intro r2 μ1 hk
  refine px_if_eq (tgt := 23) C dX4_takeDigit_9 (by decide) (fun c8 => ?_) (fun c8 => ?_)
  · replace hk := hk.1 c8
    refine px_iconst (v := (-1 : Int32)) C dX4_takeDigit_23 rfl ?_
    exact px_iret C hRt dX4_takeDigit_24 rfl rfl hk
  · replace hk := hk.2 c8
    refine px_aload_n (i := 0) C dX4_takeDigit_12 rfl rfl ?_
    refine px_geti 2434 C dX4_takeDigit_13 fl_RX4_15 rfl rfl rfl rfl ?_
    refine px_aload_n (i := 0) C dX4_takeDigit_16 rfl rfl ?_
    refine px_geti 2433 C dX4_takeDigit_17 fl_RX4_9 rfl rfl rfl rfl ?_
    refine px_icmp_lt (tgt := 25) C dX4_takeDigit_20 (by decide) (fun c7 => ?_) (fun c7 => ?_)
    · replace hk := hk.1 c7
      refine px_aload_n (i := 0) C dX4_takeDigit_25 rfl rfl ?_
      refine px_getr C dX4_takeDigit_26 fl_RX4_18 rfl rfl rfl ?_
      refine px_aload_n (i := 0) C dX4_takeDigit_29 rfl rfl ?_
      refine px_geti 2434 C dX4_takeDigit_30 fl_RX4_15 rfl rfl rfl rfl ?_
      obtain ⟨o3, hk⟩ := hk
      refine px_cald 2496 C dX4_takeDigit_33 rfl rfl rfl rfl o3 ?_
      refine px_bipush (v := (48 : Int32)) C dX4_takeDigit_34 rfl ?_
      refine px_isub C dX4_takeDigit_36 ?_
      refine px_istore_n (i := 2) C dX4_takeDigit_37 rfl (by decide) rfl ?_
      refine px_iload_n (i := 2) C dX4_takeDigit_38 rfl rfl ?_
      refine px_if_lt (tgt := 47) C dX4_takeDigit_39 (by decide) (fun c6 => ?_) (fun c6 => ?_)
      · replace hk := hk.1 c6
        refine px_iconst (v := (-1 : Int32)) C dX4_takeDigit_47 rfl ?_
        exact px_iret C hRt dX4_takeDigit_48 rfl rfl hk
      · replace hk := hk.2 c6
        refine px_iload_n (i := 2) C dX4_takeDigit_42 rfl rfl ?_
        refine px_iload_n (i := 1) C dX4_takeDigit_43 rfl rfl ?_
        refine px_icmp_le (tgt := 49) C dX4_takeDigit_44 (by decide) (fun c5 => ?_) (fun c5 => ?_)
        · replace hk := hk.1 c5
          refine px_aload_n (i := 0) C dX4_takeDigit_49 rfl rfl ?_
          refine px_dup C dX4_takeDigit_50 rfl ?_
          refine px_geti 2434 C dX4_takeDigit_51 fl_RX4_15 rfl rfl rfl rfl ?_
          refine px_iconst (v := (1 : Int32)) C dX4_takeDigit_54 rfl ?_
          refine px_iadd C dX4_takeDigit_55 ?_
          replace hk := hk _ rfl
          refine px_puti 2434 C dX4_takeDigit_56 fp_RX4_15 rfl rfl rfl rfl rfl rfl ?_
          refine px_iload_n (i := 2) C dX4_takeDigit_59 rfl rfl ?_
          exact px_iret C hRt dX4_takeDigit_60 rfl rfl hk
        · replace hk := hk.2 c5
          refine px_iconst (v := (-1 : Int32)) C dX4_takeDigit_47 rfl ?_
          exact px_iret C hRt dX4_takeDigit_48 rfl rfl hk
    · replace hk := hk.2 c7
      refine px_iconst (v := (-1 : Int32)) C dX4_takeDigit_23 rfl ?_
      exact px_iret C hRt dX4_takeDigit_24 rfl rfl hk
theorem dX4_takeNumber_0 : decode cX4_takeNumber 0 = .ok (.aload_n 0, 1) := by decide +kernel
theorem dX4_takeNumber_1 : decode cX4_takeNumber 1 = .ok (.bipush 9, 2) := by decide +kernel
theorem dX4_takeNumber_3 : decode cX4_takeNumber 3 = .ok (.invokevirtual 35, 3) := by decide +kernel
theorem dX4_takeNumber_6 : decode cX4_takeNumber 6 = .ok (.istore_n 2, 1) := by decide +kernel
theorem dX4_takeNumber_7 : decode cX4_takeNumber 7 = .ok (.iload_n 2, 1) := by decide +kernel
theorem dX4_takeNumber_8 : decode cX4_takeNumber 8 = .ok (.iconst (-1), 1) := by decide +kernel
theorem dX4_takeNumber_9 : decode cX4_takeNumber 9 = .ok (.if_icmp .ne 5, 3) := by decide +kernel
theorem dX4_takeNumber_12 : decode cX4_takeNumber 12 = .ok (.iconst (-1), 1) := by decide +kernel
theorem dX4_takeNumber_13 : decode cX4_takeNumber 13 = .ok (.ireturn, 1) := by decide +kernel
theorem dX4_takeNumber_14 : decode cX4_takeNumber 14 = .ok (.iconst 1, 1) := by decide +kernel
theorem dX4_takeNumber_15 : decode cX4_takeNumber 15 = .ok (.istore_n 3, 1) := by decide +kernel
theorem dX4_takeNumber_16 : decode cX4_takeNumber 16 = .ok (.iload_n 3, 1) := by decide +kernel
theorem dX4_takeNumber_17 : decode cX4_takeNumber 17 = .ok (.iload_n 1, 1) := by decide +kernel
theorem dX4_takeNumber_18 : decode cX4_takeNumber 18 = .ok (.if_icmp .ge 33, 3) := by decide +kernel
theorem dX4_takeNumber_21 : decode cX4_takeNumber 21 = .ok (.aload_n 0, 1) := by decide +kernel
theorem dX4_takeNumber_22 : decode cX4_takeNumber 22 = .ok (.bipush 9, 2) := by decide +kernel
theorem dX4_takeNumber_24 : decode cX4_takeNumber 24 = .ok (.invokevirtual 35, 3) := by decide +kernel
theorem dX4_takeNumber_27 : decode cX4_takeNumber 27 = .ok (.istore 4, 2) := by decide +kernel
theorem dX4_takeNumber_29 : decode cX4_takeNumber 29 = .ok (.iload 4, 2) := by decide +kernel
theorem dX4_takeNumber_31 : decode cX4_takeNumber 31 = .ok (.iconst (-1), 1) := by decide +kernel
theorem dX4_takeNumber_32 : decode cX4_takeNumber 32 = .ok (.if_icmp .ne 5, 3) := by decide +kernel
theorem dX4_takeNumber_35 : decode cX4_takeNumber 35 = .ok (.iload_n 2, 1) := by decide +kernel
theorem dX4_takeNumber_36 : decode cX4_takeNumber 36 = .ok (.ireturn, 1) := by decide +kernel
theorem dX4_takeNumber_37 : decode cX4_takeNumber 37 = .ok (.bipush 10, 2) := by decide +kernel
theorem dX4_takeNumber_39 : decode cX4_takeNumber 39 = .ok (.iload_n 2, 1) := by decide +kernel
theorem dX4_takeNumber_40 : decode cX4_takeNumber 40 = .ok (.imul, 1) := by decide +kernel
theorem dX4_takeNumber_41 : decode cX4_takeNumber 41 = .ok (.iload 4, 2) := by decide +kernel
theorem dX4_takeNumber_43 : decode cX4_takeNumber 43 = .ok (.iadd, 1) := by decide +kernel
theorem dX4_takeNumber_44 : decode cX4_takeNumber 44 = .ok (.istore_n 2, 1) := by decide +kernel
theorem dX4_takeNumber_45 : decode cX4_takeNumber 45 = .ok (.iinc 3 1, 3) := by decide +kernel
theorem dX4_takeNumber_48 : decode cX4_takeNumber 48 = .ok (.goto (-32), 3) := by decide +kernel
theorem dX4_takeNumber_51 : decode cX4_takeNumber 51 = .ok (.iload_n 2, 1) := by decide +kernel
theorem dX4_takeNumber_52 : decode cX4_takeNumber 52 = .ok (.ireturn, 1) := by decide +kernel
set_option maxRecDepth 100000 in
set_option maxHeartbeats 4000000 in
theorem w4_takeNumber_b16_ok {G : GT} {P : Int32 → Mem → Prop} {X : String → Mem → Prop} (C : PCx G cX4_takeNumber 5 RX4) (hRt : PRt G (some .int) (qI P) X) (hHR : HR G (2)) (hnT : NoT G) {μ : Mem} {l1 : Int32} {l2 : Int32} {l3 : Int32} (hk : w4_takeNumber_b16 P μ l1 l2 l3) : PW G 0 0 16 [some (pR 38 0), some (pI l1), some (pI l2), some (pI l3), none] [] μ := by
  refine hk (fun (μ : Mem) (l1 : Int32) (l2 : Int32) (l3 : Int32) => PW G 0 0 16 [some (pR 38 0), some (pI l1), some (pI l2), some (pI l3), none] [] μ) (fun (μ : Mem) l1 l2 l3 hk => ?_)
  have hR16 : ∀ (μ : Mem) (l1 : Int32) (l2 : Int32) (l3 : Int32), PW G 0 0 16 [some (pR 38 0), some (pI l1), some (pI l2), some (pI l3), none] [] μ → PW G 0 0 16 [some (pR 38 0), some (pI l1), some (pI l2), some (pI l3), none] [] μ := fun _ _ _ _ h => h
  unfold w4_takeNumber_b16_body at hk
  refine px_iload_n (i := 3) C dX4_takeNumber_16 rfl rfl ?_
  refine px_iload_n (i := 1) C dX4_takeNumber_17 rfl rfl ?_
  refine px_icmp_ge (tgt := 51) C dX4_takeNumber_18 (by decide) (fun c6 => ?_) (fun c6 => ?_)
  · replace hk := hk.1 c6
    refine px_iload_n (i := 2) C dX4_takeNumber_51 rfl rfl ?_
    exact px_iret C hRt dX4_takeNumber_52 rfl rfl hk
  · replace hk := hk.2 c6
    refine px_aload_n (i := 0) C dX4_takeNumber_21 rfl rfl ?_
    refine px_bipush (v := (9 : Int32)) C dX4_takeNumber_22 rfl ?_
    refine px_callVi (h := 1) (rc' := 0) (rs' := 0) C (HR_le hHR (Nat.le_of_ble_eq_true rfl)) hRt hnT dX4_takeNumber_24 (gw6 143 rfl rfl) mv_X4_takeDigit (w4_takeDigit_ok (PCx_l C) (PCx_I C) hk) rfl rfl rfl rfl rfl (Nat.le_of_ble_eq_true rfl) (Nat.le_of_ble_eq_true rfl) (Nat.le_of_ble_eq_true rfl) (Nat.le_of_ble_eq_true rfl) ?_
    intro r4 μ3 hk
    refine px_istore (i := 4) C dX4_takeNumber_27 (by decide) rfl ?_
    refine px_iload (i := 4) C dX4_takeNumber_29 rfl ?_
    refine px_iconst (v := (-1 : Int32)) C dX4_takeNumber_31 rfl ?_
    refine px_icmp_ne (tgt := 37) C dX4_takeNumber_32 (by decide) (fun c5 => ?_) (fun c5 => ?_)
    · replace hk := hk.1 c5
      refine px_bipush (v := (10 : Int32)) C dX4_takeNumber_37 rfl ?_
      refine px_iload_n (i := 2) C dX4_takeNumber_39 rfl rfl ?_
      refine px_imul C dX4_takeNumber_40 ?_
      refine px_iload (i := 4) C dX4_takeNumber_41 rfl ?_
      refine px_iadd C dX4_takeNumber_43 ?_
      refine px_istore_n (i := 2) C dX4_takeNumber_44 rfl (by decide) rfl ?_
      refine px_iinc (i := 3) (v := (1 : Int32)) C dX4_takeNumber_45 rfl rfl (by decide) rfl ?_
      refine px_goto (tgt := 16) C dX4_takeNumber_48 (by decide) ?_
      exact PW_at (hR16 _ _ _ _ hk) (And.intro rfl (And.intro rfl (And.intro rfl (And.intro rfl trivial)))) (Nat.le_of_ble_eq_true rfl) (Nat.le_of_ble_eq_true rfl)
    · replace hk := hk.2 c5
      refine px_iload_n (i := 2) C dX4_takeNumber_35 rfl rfl ?_
      exact px_iret C hRt dX4_takeNumber_36 rfl rfl hk
set_option maxRecDepth 100000 in
set_option maxHeartbeats 4000000 in
theorem w4_takeNumber_ok {l : Launch} {idx : List (Nat × Nat)} {μ : Mem} {a1 : Int32} {P : Int32 → Mem → Prop} {X : String → Mem → Prop} (hl : l.stackTraces = false) (hI : IdxOK idx) (hk : w4_takeNumber_wp μ a1 P) : PMet l yX4_takeNumber (.code yX4_takeNumber cX4_takeNumber 5 (some .int)) 2 0 0 idx [pR 38 0, pI a1] μ (qI P) X := by
  refine PMet_of mv_X4_takeNumber.2.2.2.2.2.2 hl hI mv_X4_takeNumber.2.2.2.1 rfl (Nat.le_of_ble_eq_true rfl) (fun G _ _ C hRt hHR hnT => ?_)
  show PW G 0 0 0 [some (pR 38 0), some (pI a1), none, none, none] [] μ
  unfold w4_takeNumber_wp at hk
  refine px_aload_n (i := 0) C dX4_takeNumber_0 rfl rfl ?_
  refine px_bipush (v := (9 : Int32)) C dX4_takeNumber_1 rfl ?_
  refine px_callVi (h := 1) (rc' := 0) (rs' := 0) C (HR_le hHR (Nat.le_of_ble_eq_true rfl)) hRt hnT dX4_takeNumber_3 (gw6 143 rfl rfl) mv_X4_takeDigit (w4_takeDigit_ok (PCx_l C) (PCx_I C) hk) rfl rfl rfl rfl rfl (Nat.le_of_ble_eq_true rfl) (Nat.le_of_ble_eq_true rfl) (Nat.le_of_ble_eq_true rfl) (Nat.le_of_ble_eq_true rfl) ?_
  intro r2 μ1 hk
  refine px_istore_n (i := 2) C dX4_takeNumber_6 rfl (by decide) rfl ?_
  refine px_iload_n (i := 2) C dX4_takeNumber_7 rfl rfl ?_
  refine px_iconst (v := (-1 : Int32)) C dX4_takeNumber_8 rfl ?_
  refine px_icmp_ne (tgt := 14) C dX4_takeNumber_9 (by decide) (fun c7 => ?_) (fun c7 => ?_)
  · replace hk := hk.1 c7
    refine px_iconst (v := (1 : Int32)) C dX4_takeNumber_14 rfl ?_
    refine px_istore_n (i := 3) C dX4_takeNumber_15 rfl (by decide) rfl ?_
    exact PW_at (w4_takeNumber_b16_ok C hRt hHR hnT hk) (And.intro rfl (And.intro rfl (And.intro rfl (And.intro rfl trivial)))) (Nat.le_of_ble_eq_true rfl) (Nat.le_of_ble_eq_true rfl)
  · replace hk := hk.2 c7
    refine px_iconst (v := (-1 : Int32)) C dX4_takeNumber_12 rfl ?_
    exact px_iret C hRt dX4_takeNumber_13 rfl rfl hk
theorem dX5_enter_0 : decode cX5_enter 0 = .ok (.aload_n 0, 1) := by decide +kernel
theorem dX5_enter_1 : decode cX5_enter 1 = .ok (.getfield 28, 3) := by decide +kernel
theorem dX5_enter_4 : decode cX5_enter 4 = .ok (.bipush 41, 2) := by decide +kernel
theorem dX5_enter_6 : decode cX5_enter 6 = .ok (.invokestatic 61, 3) := by decide +kernel
theorem dX5_enter_9 : decode cX5_enter 9 = .ok (.ifCond .eq 49, 3) := by decide +kernel
theorem dX5_enter_12 : decode cX5_enter 12 = .ok (.aload_n 0, 1) := by decide +kernel
theorem dX5_enter_13 : decode cX5_enter 13 = .ok (.getfield 31, 3) := by decide +kernel
theorem dX5_enter_16 : decode cX5_enter 16 = .ok (.aload_n 0, 1) := by decide +kernel
theorem dX5_enter_17 : decode cX5_enter 17 = .ok (.getfield 28, 3) := by decide +kernel
theorem dX5_enter_20 : decode cX5_enter 20 = .ok (.iload_n 1, 1) := by decide +kernel
theorem dX5_enter_21 : decode cX5_enter 21 = .ok (.invokestatic 73, 3) := by decide +kernel
theorem dX5_enter_24 : decode cX5_enter 24 = .ok (.aload_n 0, 1) := by decide +kernel
theorem dX5_enter_25 : decode cX5_enter 25 = .ok (.getfield 34, 3) := by decide +kernel
theorem dX5_enter_28 : decode cX5_enter 28 = .ok (.aload_n 0, 1) := by decide +kernel
theorem dX5_enter_29 : decode cX5_enter 29 = .ok (.getfield 28, 3) := by decide +kernel
theorem dX5_enter_32 : decode cX5_enter 32 = .ok (.iload_n 2, 1) := by decide +kernel
theorem dX5_enter_33 : decode cX5_enter 33 = .ok (.invokestatic 73, 3) := by decide +kernel
theorem dX5_enter_36 : decode cX5_enter 36 = .ok (.aload_n 0, 1) := by decide +kernel
theorem dX5_enter_37 : decode cX5_enter 37 = .ok (.getfield 37, 3) := by decide +kernel
theorem dX5_enter_40 : decode cX5_enter 40 = .ok (.aload_n 0, 1) := by decide +kernel
theorem dX5_enter_41 : decode cX5_enter 41 = .ok (.getfield 28, 3) := by decide +kernel
theorem dX5_enter_44 : decode cX5_enter 44 = .ok (.iload_n 3, 1) := by decide +kernel
theorem dX5_enter_45 : decode cX5_enter 45 = .ok (.invokestatic 73, 3) := by decide +kernel
theorem dX5_enter_48 : decode cX5_enter 48 = .ok (.aload_n 0, 1) := by decide +kernel
theorem dX5_enter_49 : decode cX5_enter 49 = .ok (.dup, 1) := by decide +kernel
theorem dX5_enter_50 : decode cX5_enter 50 = .ok (.getfield 28, 3) := by decide +kernel
theorem dX5_enter_53 : decode cX5_enter 53 = .ok (.iconst 1, 1) := by decide +kernel
theorem dX5_enter_54 : decode cX5_enter 54 = .ok (.iadd, 1) := by decide +kernel
theorem dX5_enter_55 : decode cX5_enter 55 = .ok (.putfield 28, 3) := by decide +kernel
theorem dX5_enter_58 : decode cX5_enter 58 = .ok (.return_, 1) := by decide +kernel
set_option maxRecDepth 100000 in
set_option maxHeartbeats 4000000 in
theorem w5_enter_ok {l : Launch} {idx : List (Nat × Nat)} {μ : Mem} {a1 : Int32} {a2 : Int32} {a3 : Int32} {P : Mem → Prop} {X : String → Mem → Prop} (hl : l.stackTraces = false) (hI : IdxOK idx) (hk : w5_enter_wp μ a1 a2 a3 P) : PMet l yX5_enter (.code yX5_enter cX5_enter 4 none) 1 0 0 idx [pR 27 0, pI a1, pI a2, pI a3] μ (qV P) X := by
  refine PMet_of mv_X5_enter.2.2.2.2.2.2 hl hI mv_X5_enter.2.2.2.1 rfl (Nat.le_of_ble_eq_true rfl) (fun G _ _ C hRt hHR hnT => ?_)
  show PW G 0 0 0 [some (pR 27 0), some (pI a1), some (pI a2), some (pI a3)] [] μ
  unfold w5_enter_wp at hk
  refine px_aload_n (i := 0) C dX5_enter_0 rfl rfl ?_
  refine px_geti 1736 C dX5_enter_1 fl_RX5_28 rfl rfl rfl rfl ?_
  refine px_bipush (v := (41 : Int32)) C dX5_enter_4 rfl ?_
  refine px_callSNi (h := 0) (rc' := 0) (rs' := 0) C (HR_le hHR (Nat.le_of_ble_eq_true rfl)) hRt hnT dX5_enter_6 (List.mem_append_right _ (List.mem_append_left _ (List.mem_of_getElem? (i := 17) rfl))) ms_X8_isWithin (w8_isWithin_ok (PCx_l C) (PCx_I C) hk) rfl rfl (Nat.le_of_ble_eq_true rfl) (Nat.le_of_ble_eq_true rfl) (Nat.le_of_ble_eq_true rfl) (Nat.le_of_ble_eq_true rfl) ?_
  intro r2 μ1 hk
  refine px_if_eq (tgt := 58) C dX5_enter_9 (by decide) (fun c10 => ?_) (fun c10 => ?_)
  · replace hk := hk.1 c10
    exact px_vret C hRt dX5_enter_58 rfl hk
  · replace hk := hk.2 c10
    refine px_aload_n (i := 0) C dX5_enter_12 rfl rfl ?_
    refine px_getr C dX5_enter_13 fl_RX5_31 rfl rfl rfl ?_
    refine px_aload_n (i := 0) C dX5_enter_16 rfl rfl ?_
    refine px_geti 1736 C dX5_enter_17 fl_RX5_28 rfl rfl rfl rfl ?_
    refine px_iload_n (i := 1) C dX5_enter_20 rfl rfl ?_
    obtain ⟨o3, hk⟩ := hk
    replace hk := hk _ rfl
    refine px_callSNv (h := 0) (rc' := 0) (rs' := 0) C (HR_le hHR (Nat.le_of_ble_eq_true rfl)) hRt hnT dX5_enter_21 (List.mem_append_right _ (List.mem_append_left _ (List.mem_of_getElem? (i := 18) rfl))) ms_X8_set (set_ok (j := 31) (q := 0) (n := 41) (loc := 1984) (PCx_l C) (PCx_I C) rfl rfl rfl o3) rfl rfl (Nat.le_of_ble_eq_true rfl) (Nat.le_of_ble_eq_true rfl) (Nat.le_of_ble_eq_true rfl) (Nat.le_of_ble_eq_true rfl) ?_
    rintro _ rfl
    refine px_aload_n (i := 0) C dX5_enter_24 rfl rfl ?_
    refine px_getr C dX5_enter_25 fl_RX5_34 rfl rfl rfl ?_
    refine px_aload_n (i := 0) C dX5_enter_28 rfl rfl ?_
    refine px_geti 1736 C dX5_enter_29 fl_RX5_28 rfl rfl rfl rfl ?_
    refine px_iload_n (i := 2) C dX5_enter_32 rfl rfl ?_
    obtain ⟨o5, hk⟩ := hk
    replace hk := hk _ rfl
    refine px_callSNv (h := 0) (rc' := 0) (rs' := 0) C (HR_le hHR (Nat.le_of_ble_eq_true rfl)) hRt hnT dX5_enter_33 (List.mem_append_right _ (List.mem_append_left _ (List.mem_of_getElem? (i := 18) rfl))) ms_X8_set (set_ok (j := 32) (q := 0) (n := 41) (loc := 2048) (PCx_l C) (PCx_I C) rfl rfl rfl o5) rfl rfl (Nat.le_of_ble_eq_true rfl) (Nat.le_of_ble_eq_true rfl) (Nat.le_of_ble_eq_true rfl) (Nat.le_of_ble_eq_true rfl) ?_
    rintro _ rfl
    refine px_aload_n (i := 0) C dX5_enter_36 rfl rfl ?_
    refine px_getr C dX5_enter_37 fl_RX5_37 rfl rfl rfl ?_
    refine px_aload_n (i := 0) C dX5_enter_40 rfl rfl ?_
    refine px_geti 1736 C dX5_enter_41 fl_RX5_28 rfl rfl rfl rfl ?_
    refine px_iload_n (i := 3) C dX5_enter_44 rfl rfl ?_
    obtain ⟨o7, hk⟩ := hk
    replace hk := hk _ rfl
    refine px_callSNv (h := 0) (rc' := 0) (rs' := 0) C (HR_le hHR (Nat.le_of_ble_eq_true rfl)) hRt hnT dX5_enter_45 (List.mem_append_right _ (List.mem_append_left _ (List.mem_of_getElem? (i := 18) rfl))) ms_X8_set (set_ok (j := 33) (q := 0) (n := 41) (loc := 2112) (PCx_l C) (PCx_I C) rfl rfl rfl o7) rfl rfl (Nat.le_of_ble_eq_true rfl) (Nat.le_of_ble_eq_true rfl) (Nat.le_of_ble_eq_true rfl) (Nat.le_of_ble_eq_true rfl) ?_
    rintro _ rfl
    refine px_aload_n (i := 0) C dX5_enter_48 rfl rfl ?_
    refine px_dup C dX5_enter_49 rfl ?_
    refine px_geti 1736 C dX5_enter_50 fl_RX5_28 rfl rfl rfl rfl ?_
    refine px_iconst (v := (1 : Int32)) C dX5_enter_53 rfl ?_
    refine px_iadd C dX5_enter_54 ?_
    replace hk := hk _ rfl
    refine px_puti 1736 C dX5_enter_55 fp_RX5_28 rfl rfl rfl rfl rfl rfl ?_
    exact px_vret C hRt dX5_enter_58 rfl hk
theorem dX5_record_0 : decode cX5_record 0 = .ok (.aload_n 0, 1) := by decide +kernel
theorem dX5_record_1 : decode cX5_record 1 = .ok (.getfield 11, 3) := by decide +kernel
theorem dX5_record_4 : decode cX5_record 4 = .ok (.bipush 82, 2) := by decide +kernel
theorem dX5_record_6 : decode cX5_record 6 = .ok (.invokestatic 61, 3) := by decide +kernel
theorem dX5_record_9 : decode cX5_record 9 = .ok (.ifCond .eq 49, 3) := by decide +kernel
theorem dX5_record_12 : decode cX5_record 12 = .ok (.aload_n 0, 1) := by decide +kernel
theorem dX5_record_13 : decode cX5_record 13 = .ok (.getfield 15, 3) := by decide +kernel
theorem dX5_record_16 : decode cX5_record 16 = .ok (.aload_n 0, 1) := by decide +kernel
theorem dX5_record_17 : decode cX5_record 17 = .ok (.getfield 11, 3) := by decide +kernel
theorem dX5_record_20 : decode cX5_record 20 = .ok (.iload_n 1, 1) := by decide +kernel
theorem dX5_record_21 : decode cX5_record 21 = .ok (.invokestatic 73, 3) := by decide +kernel
theorem dX5_record_24 : decode cX5_record 24 = .ok (.aload_n 0, 1) := by decide +kernel
theorem dX5_record_25 : decode cX5_record 25 = .ok (.getfield 19, 3) := by decide +kernel
theorem dX5_record_28 : decode cX5_record 28 = .ok (.aload_n 0, 1) := by decide +kernel
theorem dX5_record_29 : decode cX5_record 29 = .ok (.getfield 11, 3) := by decide +kernel
theorem dX5_record_32 : decode cX5_record 32 = .ok (.iload_n 2, 1) := by decide +kernel
theorem dX5_record_33 : decode cX5_record 33 = .ok (.invokestatic 73, 3) := by decide +kernel
theorem dX5_record_36 : decode cX5_record 36 = .ok (.aload_n 0, 1) := by decide +kernel
theorem dX5_record_37 : decode cX5_record 37 = .ok (.getfield 22, 3) := by decide +kernel
theorem dX5_record_40 : decode cX5_record 40 = .ok (.aload_n 0, 1) := by decide +kernel
theorem dX5_record_41 : decode cX5_record 41 = .ok (.getfield 11, 3) := by decide +kernel
theorem dX5_record_44 : decode cX5_record 44 = .ok (.iload_n 3, 1) := by decide +kernel
theorem dX5_record_45 : decode cX5_record 45 = .ok (.invokestatic 73, 3) := by decide +kernel
theorem dX5_record_48 : decode cX5_record 48 = .ok (.aload_n 0, 1) := by decide +kernel
theorem dX5_record_49 : decode cX5_record 49 = .ok (.dup, 1) := by decide +kernel
theorem dX5_record_50 : decode cX5_record 50 = .ok (.getfield 11, 3) := by decide +kernel
theorem dX5_record_53 : decode cX5_record 53 = .ok (.iconst 1, 1) := by decide +kernel
theorem dX5_record_54 : decode cX5_record 54 = .ok (.iadd, 1) := by decide +kernel
theorem dX5_record_55 : decode cX5_record 55 = .ok (.putfield 11, 3) := by decide +kernel
theorem dX5_record_58 : decode cX5_record 58 = .ok (.return_, 1) := by decide +kernel
set_option maxRecDepth 100000 in
set_option maxHeartbeats 4000000 in
theorem w5_record_ok {l : Launch} {idx : List (Nat × Nat)} {μ : Mem} {a1 : Int32} {a2 : Int32} {a3 : Int32} {P : Mem → Prop} {X : String → Mem → Prop} (hl : l.stackTraces = false) (hI : IdxOK idx) (hk : w5_record_wp μ a1 a2 a3 P) : PMet l yX5_record (.code yX5_record cX5_record 4 none) 1 0 0 idx [pR 27 0, pI a1, pI a2, pI a3] μ (qV P) X := by
  refine PMet_of mv_X5_record.2.2.2.2.2.2 hl hI mv_X5_record.2.2.2.1 rfl (Nat.le_of_ble_eq_true rfl) (fun G _ _ C hRt hHR hnT => ?_)
  show PW G 0 0 0 [some (pR 27 0), some (pI a1), some (pI a2), some (pI a3)] [] μ
  unfold w5_record_wp at hk
  refine px_aload_n (i := 0) C dX5_record_0 rfl rfl ?_
  refine px_geti 1729 C dX5_record_1 fl_RX5_11 rfl rfl rfl rfl ?_
  refine px_bipush (v := (82 : Int32)) C dX5_record_4 rfl ?_
  refine px_callSNi (h := 0) (rc' := 0) (rs' := 0) C (HR_le hHR (Nat.le_of_ble_eq_true rfl)) hRt hnT dX5_record_6 (List.mem_append_right _ (List.mem_append_left _ (List.mem_of_getElem? (i := 17) rfl))) ms_X8_isWithin (w8_isWithin_ok (PCx_l C) (PCx_I C) hk) rfl rfl (Nat.le_of_ble_eq_true rfl) (Nat.le_of_ble_eq_true rfl) (Nat.le_of_ble_eq_true rfl) (Nat.le_of_ble_eq_true rfl) ?_
  intro r2 μ1 hk
  refine px_if_eq (tgt := 58) C dX5_record_9 (by decide) (fun c10 => ?_) (fun c10 => ?_)
  · replace hk := hk.1 c10
    exact px_vret C hRt dX5_record_58 rfl hk
  · replace hk := hk.2 c10
    refine px_aload_n (i := 0) C dX5_record_12 rfl rfl ?_
    refine px_getr C dX5_record_13 fl_RX5_15 rfl rfl rfl ?_
    refine px_aload_n (i := 0) C dX5_record_16 rfl rfl ?_
    refine px_geti 1729 C dX5_record_17 fl_RX5_11 rfl rfl rfl rfl ?_
    refine px_iload_n (i := 1) C dX5_record_20 rfl rfl ?_
    obtain ⟨o3, hk⟩ := hk
    replace hk := hk _ rfl
    refine px_callSNv (h := 0) (rc' := 0) (rs' := 0) C (HR_le hHR (Nat.le_of_ble_eq_true rfl)) hRt hnT dX5_record_21 (List.mem_append_right _ (List.mem_append_left _ (List.mem_of_getElem? (i := 18) rfl))) ms_X8_set (set_ok (j := 28) (q := 0) (n := 82) (loc := 1792) (PCx_l C) (PCx_I C) rfl rfl rfl o3) rfl rfl (Nat.le_of_ble_eq_true rfl) (Nat.le_of_ble_eq_true rfl) (Nat.le_of_ble_eq_true rfl) (Nat.le_of_ble_eq_true rfl) ?_
    rintro _ rfl
    refine px_aload_n (i := 0) C dX5_record_24 rfl rfl ?_
    refine px_getr C dX5_record_25 fl_RX5_19 rfl rfl rfl ?_
    refine px_aload_n (i := 0) C dX5_record_28 rfl rfl ?_
    refine px_geti 1729 C dX5_record_29 fl_RX5_11 rfl rfl rfl rfl ?_
    refine px_iload_n (i := 2) C dX5_record_32 rfl rfl ?_
    obtain ⟨o5, hk⟩ := hk
    replace hk := hk _ rfl
    refine px_callSNv (h := 0) (rc' := 0) (rs' := 0) C (HR_le hHR (Nat.le_of_ble_eq_true rfl)) hRt hnT dX5_record_33 (List.mem_append_right _ (List.mem_append_left _ (List.mem_of_getElem? (i := 18) rfl))) ms_X8_set (set_ok (j := 29) (q := 0) (n := 82) (loc := 1856) (PCx_l C) (PCx_I C) rfl rfl rfl o5) rfl rfl (Nat.le_of_ble_eq_true rfl) (Nat.le_of_ble_eq_true rfl) (Nat.le_of_ble_eq_true rfl) (Nat.le_of_ble_eq_true rfl) ?_
    rintro _ rfl
    refine px_aload_n (i := 0) C dX5_record_36 rfl rfl ?_
    refine px_getr C dX5_record_37 fl_RX5_22 rfl rfl rfl ?_
    refine px_aload_n (i := 0) C dX5_record_40 rfl rfl ?_
    refine px_geti 1729 C dX5_record_41 fl_RX5_11 rfl rfl rfl rfl ?_
    refine px_iload_n (i := 3) C dX5_record_44 rfl rfl ?_
    obtain ⟨o7, hk⟩ := hk
    replace hk := hk _ rfl
    refine px_callSNv (h := 0) (rc' := 0) (rs' := 0) C (HR_le hHR (Nat.le_of_ble_eq_true rfl)) hRt hnT dX5_record_45 (List.mem_append_right _ (List.mem_append_left _ (List.mem_of_getElem? (i := 18) rfl))) ms_X8_set (set_ok (j := 30) (q := 0) (n := 82) (loc := 1920) (PCx_l C) (PCx_I C) rfl rfl rfl o7) rfl rfl (Nat.le_of_ble_eq_true rfl) (Nat.le_of_ble_eq_true rfl) (Nat.le_of_ble_eq_true rfl) (Nat.le_of_ble_eq_true rfl) ?_
    rintro _ rfl
    refine px_aload_n (i := 0) C dX5_record_48 rfl rfl ?_
    refine px_dup C dX5_record_49 rfl ?_
    refine px_geti 1729 C dX5_record_50 fl_RX5_11 rfl rfl rfl rfl ?_
    refine px_iconst (v := (1 : Int32)) C dX5_record_53 rfl ?_
    refine px_iadd C dX5_record_54 ?_
    replace hk := hk _ rfl
    refine px_puti 1729 C dX5_record_55 fp_RX5_11 rfl rfl rfl rfl rfl rfl ?_
    exact px_vret C hRt dX5_record_58 rfl hk
theorem dX5_timeOfService_0 : decode cX5_timeOfService 0 = .ok (.iconst 0, 1) := by decide +kernel
theorem dX5_timeOfService_1 : decode cX5_timeOfService 1 = .ok (.istore_n 2, 1) := by decide +kernel
theorem dX5_timeOfService_2 : decode cX5_timeOfService 2 = .ok (.iconst 0, 1) := by decide +kernel
theorem dX5_timeOfService_3 : decode cX5_timeOfService 3 = .ok (.istore_n 3, 1) := by decide +kernel
theorem dX5_timeOfService_4 : decode cX5_timeOfService 4 = .ok (.iload_n 3, 1) := by decide +kernel
theorem dX5_timeOfService_5 : decode cX5_timeOfService 5 = .ok (.aload_n 0, 1) := by decide +kernel
theorem dX5_timeOfService_6 : decode cX5_timeOfService 6 = .ok (.getfield 11, 3) := by decide +kernel
theorem dX5_timeOfService_9 : decode cX5_timeOfService 9 = .ok (.if_icmp .ge 68, 3) := by decide +kernel
theorem dX5_timeOfService_12 : decode cX5_timeOfService 12 = .ok (.aload_n 0, 1) := by decide +kernel
theorem dX5_timeOfService_13 : decode cX5_timeOfService 13 = .ok (.getfield 40, 3) := by decide +kernel
theorem dX5_timeOfService_16 : decode cX5_timeOfService 16 = .ok (.aload_n 0, 1) := by decide +kernel
theorem dX5_timeOfService_17 : decode cX5_timeOfService 17 = .ok (.getfield 15, 3) := by decide +kernel
theorem dX5_timeOfService_20 : decode cX5_timeOfService 20 = .ok (.iload_n 3, 1) := by decide +kernel
theorem dX5_timeOfService_21 : decode cX5_timeOfService 21 = .ok (.invokestatic 65, 3) := by decide +kernel
theorem dX5_timeOfService_24 : decode cX5_timeOfService 24 = .ok (.invokevirtual 106, 3) := by decide +kernel
theorem dX5_timeOfService_27 : decode cX5_timeOfService 27 = .ok (.istore 4, 2) := by decide +kernel
theorem dX5_timeOfService_29 : decode cX5_timeOfService 29 = .ok (.iload 4, 2) := by decide +kernel
theorem dX5_timeOfService_31 : decode cX5_timeOfService 31 = .ok (.iconst (-1), 1) := by decide +kernel
theorem dX5_timeOfService_32 : decode cX5_timeOfService 32 = .ok (.if_icmp .eq 39, 3) := by decide +kernel
theorem dX5_timeOfService_35 : decode cX5_timeOfService 35 = .ok (.aload_n 0, 1) := by decide +kernel
theorem dX5_timeOfService_36 : decode cX5_timeOfService 36 = .ok (.getfield 40, 3) := by decide +kernel
theorem dX5_timeOfService_39 : decode cX5_timeOfService 39 = .ok (.getfield 110, 3) := by decide +kernel
theorem dX5_timeOfService_42 : decode cX5_timeOfService 42 = .ok (.iload 4, 2) := by decide +kernel
theorem dX5_timeOfService_44 : decode cX5_timeOfService 44 = .ok (.invokestatic 65, 3) := by decide +kernel
theorem dX5_timeOfService_47 : decode cX5_timeOfService 47 = .ok (.iload_n 1, 1) := by decide +kernel
theorem dX5_timeOfService_48 : decode cX5_timeOfService 48 = .ok (.if_icmp .ne 23, 3) := by decide +kernel
theorem dX5_timeOfService_51 : decode cX5_timeOfService 51 = .ok (.iload_n 2, 1) := by decide +kernel
theorem dX5_timeOfService_52 : decode cX5_timeOfService 52 = .ok (.aload_n 0, 1) := by decide +kernel
theorem dX5_timeOfService_53 : decode cX5_timeOfService 53 = .ok (.getfield 22, 3) := by decide +kernel
theorem dX5_timeOfService_56 : decode cX5_timeOfService 56 = .ok (.iload_n 3, 1) := by decide +kernel
theorem dX5_timeOfService_57 : decode cX5_timeOfService 57 = .ok (.invokestatic 65, 3) := by decide +kernel
theorem dX5_timeOfService_60 : decode cX5_timeOfService 60 = .ok (.aload_n 0, 1) := by decide +kernel
theorem dX5_timeOfService_61 : decode cX5_timeOfService 61 = .ok (.getfield 19, 3) := by decide +kernel
theorem dX5_timeOfService_64 : decode cX5_timeOfService 64 = .ok (.iload_n 3, 1) := by decide +kernel
theorem dX5_timeOfService_65 : decode cX5_timeOfService 65 = .ok (.invokestatic 65, 3) := by decide +kernel
theorem dX5_timeOfService_68 : decode cX5_timeOfService 68 = .ok (.isub, 1) := by decide +kernel
theorem dX5_timeOfService_69 : decode cX5_timeOfService 69 = .ok (.iadd, 1) := by decide +kernel
theorem dX5_timeOfService_70 : decode cX5_timeOfService 70 = .ok (.istore_n 2, 1) := by decide +kernel
theorem dX5_timeOfService_71 : decode cX5_timeOfService 71 = .ok (.iinc 3 1, 3) := by decide +kernel
theorem dX5_timeOfService_74 : decode cX5_timeOfService 74 = .ok (.goto (-70), 3) := by decide +kernel
theorem dX5_timeOfService_77 : decode cX5_timeOfService 77 = .ok (.iload_n 2, 1) := by decide +kernel
theorem dX5_timeOfService_78 : decode cX5_timeOfService 78 = .ok (.ireturn, 1) := by decide +kernel
set_option maxRecDepth 100000 in
set_option maxHeartbeats 4000000 in
theorem w5_timeOfService_b4_ok {G : GT} {P : Int32 → Mem → Prop} {X : String → Mem → Prop} (C : PCx G cX5_timeOfService 5 RX5) (hRt : PRt G (some .int) (qI P) X) (hHR : HR G (1)) (hnT : NoT G) {μ : Mem} {l1 : Int32} {l2 : Int32} {l3 : Int32} (hk : w5_timeOfService_b4 P μ l1 l2 l3) : PW G 0 0 4 [some (pR 27 0), some (pI l1), some (pI l2), some (pI l3), none] [] μ := by
  refine hk (fun (μ : Mem) (l1 : Int32) (l2 : Int32) (l3 : Int32) => PW G 0 0 4 [some (pR 27 0), some (pI l1), some (pI l2), some (pI l3), none] [] μ) (fun (μ : Mem) l1 l2 l3 hk => ?_)
  have hR4 : ∀ (μ : Mem) (l1 : Int32) (l2 : Int32) (l3 : Int32), PW G 0 0 4 [some (pR 27 0), some (pI l1), some (pI l2), some (pI l3), none] [] μ → PW G 0 0 4 [some (pR 27 0), some (pI l1), some (pI l2), some (pI l3), none] [] μ := fun _ _ _ _ h => h
  unfold w5_timeOfService_b4_body at hk
  refine px_iload_n (i := 3) C dX5_timeOfService_4 rfl rfl ?_
  refine px_aload_n (i := 0) C dX5_timeOfService_5 rfl rfl ?_
  refine px_geti 1729 C dX5_timeOfService_6 fl_RX5_11 rfl rfl rfl rfl ?_
  refine px_icmp_ge (tgt := 77) C dX5_timeOfService_9 (by decide) (fun c9 => ?_) (fun c9 => ?_)
  · replace hk := hk.1 c9
    refine px_iload_n (i := 2) C dX5_timeOfService_77 rfl rfl ?_
    exact px_iret C hRt dX5_timeOfService_78 rfl rfl hk
  · replace hk := hk.2 c9
    refine px_aload_n (i := 0) C dX5_timeOfService_12 rfl rfl ?_
    refine px_getr C dX5_timeOfService_13 fl_RX5_40 rfl rfl rfl ?_
    refine px_aload_n (i := 0) C dX5_timeOfService_16 rfl rfl ?_
    refine px_getr C dX5_timeOfService_17 fl_RX5_15 rfl rfl rfl ?_
    refine px_iload_n (i := 3) C dX5_timeOfService_20 rfl rfl ?_
    obtain ⟨o1, hk⟩ := hk
    refine px_callSNi (h := 0) (rc' := 0) (rs' := 0) C (HR_le hHR (Nat.le_of_ble_eq_true rfl)) hRt hnT dX5_timeOfService_21 (List.mem_append_right _ (List.mem_append_left _ (List.mem_of_getElem? (i := 19) rfl))) ms_X8_at (at_ok (j := 28) (q := 0) (n := 82) (loc := 1792) (PCx_l C) (PCx_I C) rfl rfl rfl o1) rfl rfl (Nat.le_of_ble_eq_true rfl) (Nat.le_of_ble_eq_true rfl) (Nat.le_of_ble_eq_true rfl) (Nat.le_of_ble_eq_true rfl) ?_
    rintro _ _ ⟨rfl, rfl⟩
    refine px_callVi (h := 0) (rc' := 0) (rs' := 0) C (HR_le hHR (Nat.le_of_ble_eq_true rfl)) hRt hnT dX5_timeOfService_24 (gw5 168 rfl rfl) mv_X7_find (w7_find_ok (PCx_l C) (PCx_I C) hk) rfl rfl rfl rfl rfl (Nat.le_of_ble_eq_true rfl) (Nat.le_of_ble_eq_true rfl) (Nat.le_of_ble_eq_true rfl) (Nat.le_of_ble_eq_true rfl) ?_
    intro r3 μ2 hk
    refine px_istore (i := 4) C dX5_timeOfService_27 (by decide) rfl ?_
    refine px_iload (i := 4) C dX5_timeOfService_29 rfl ?_
    refine px_iconst (v := (-1 : Int32)) C dX5_timeOfService_31 rfl ?_
    refine px_icmp_eq (tgt := 71) C dX5_timeOfService_32 (by decide) (fun c8 => ?_) (fun c8 => ?_)
    · replace hk := hk.1 c8
      refine px_iinc (i := 3) (v := (1 : Int32)) C dX5_timeOfService_71 rfl rfl (by decide) rfl ?_
      refine px_goto (tgt := 4) C dX5_timeOfService_74 (by decide) ?_
      exact PW_at (hR4 _ _ _ _ hk) (And.intro rfl (And.intro rfl (And.intro rfl (And.intro rfl trivial)))) (Nat.le_of_ble_eq_true rfl) (Nat.le_of_ble_eq_true rfl)
    · replace hk := hk.2 c8
      refine px_aload_n (i := 0) C dX5_timeOfService_35 rfl rfl ?_
      refine px_getr C dX5_timeOfService_36 fl_RX5_40 rfl rfl rfl ?_
      refine px_getr C dX5_timeOfService_39 fl_RX5_110 rfl rfl rfl ?_
      refine px_iload (i := 4) C dX5_timeOfService_42 rfl ?_
      obtain ⟨o4, hk⟩ := hk
      refine px_callSNi (h := 0) (rc' := 0) (rs' := 0) C (HR_le hHR (Nat.le_of_ble_eq_true rfl)) hRt hnT dX5_timeOfService_44 (List.mem_append_right _ (List.mem_append_left _ (List.mem_of_getElem? (i := 19) rfl))) ms_X8_at (at_ok (j := 4) (q := 0) (n := 40) (loc := 256) (PCx_l C) (PCx_I C) rfl rfl rfl o4) rfl rfl (Nat.le_of_ble_eq_true rfl) (Nat.le_of_ble_eq_true rfl) (Nat.le_of_ble_eq_true rfl) (Nat.le_of_ble_eq_true rfl) ?_
      rintro _ _ ⟨rfl, rfl⟩
      refine px_iload_n (i := 1) C dX5_timeOfService_47 rfl rfl ?_
      refine px_icmp_ne (tgt := 71) C dX5_timeOfService_48 (by decide) (fun c7 => ?_) (fun c7 => ?_)
      · replace hk := hk.1 c7
        refine px_iinc (i := 3) (v := (1 : Int32)) C dX5_timeOfService_71 rfl rfl (by decide) rfl ?_
        refine px_goto (tgt := 4) C dX5_timeOfService_74 (by decide) ?_
        exact PW_at (hR4 _ _ _ _ hk) (And.intro rfl (And.intro rfl (And.intro rfl (And.intro rfl trivial)))) (Nat.le_of_ble_eq_true rfl) (Nat.le_of_ble_eq_true rfl)
      · replace hk := hk.2 c7
        refine px_iload_n (i := 2) C dX5_timeOfService_51 rfl rfl ?_
        refine px_aload_n (i := 0) C dX5_timeOfService_52 rfl rfl ?_
        refine px_getr C dX5_timeOfService_53 fl_RX5_22 rfl rfl rfl ?_
        refine px_iload_n (i := 3) C dX5_timeOfService_56 rfl rfl ?_
        obtain ⟨o5, hk⟩ := hk
        refine px_callSNi (h := 0) (rc' := 0) (rs' := 0) C (HR_le hHR (Nat.le_of_ble_eq_true rfl)) hRt hnT dX5_timeOfService_57 (List.mem_append_right _ (List.mem_append_left _ (List.mem_of_getElem? (i := 19) rfl))) ms_X8_at (at_ok (j := 30) (q := 0) (n := 82) (loc := 1920) (PCx_l C) (PCx_I C) rfl rfl rfl o5) rfl rfl (Nat.le_of_ble_eq_true rfl) (Nat.le_of_ble_eq_true rfl) (Nat.le_of_ble_eq_true rfl) (Nat.le_of_ble_eq_true rfl) ?_
        rintro _ _ ⟨rfl, rfl⟩
        refine px_aload_n (i := 0) C dX5_timeOfService_60 rfl rfl ?_
        refine px_getr C dX5_timeOfService_61 fl_RX5_19 rfl rfl rfl ?_
        refine px_iload_n (i := 3) C dX5_timeOfService_64 rfl rfl ?_
        obtain ⟨o6, hk⟩ := hk
        refine px_callSNi (h := 0) (rc' := 0) (rs' := 0) C (HR_le hHR (Nat.le_of_ble_eq_true rfl)) hRt hnT dX5_timeOfService_65 (List.mem_append_right _ (List.mem_append_left _ (List.mem_of_getElem? (i := 19) rfl))) ms_X8_at (at_ok (j := 29) (q := 0) (n := 82) (loc := 1856) (PCx_l C) (PCx_I C) rfl rfl rfl o6) rfl rfl (Nat.le_of_ble_eq_true rfl) (Nat.le_of_ble_eq_true rfl) (Nat.le_of_ble_eq_true rfl) (Nat.le_of_ble_eq_true rfl) ?_
        rintro _ _ ⟨rfl, rfl⟩
        refine px_isub C dX5_timeOfService_68 ?_
        refine px_iadd C dX5_timeOfService_69 ?_
        refine px_istore_n (i := 2) C dX5_timeOfService_70 rfl (by decide) rfl ?_
        refine px_iinc (i := 3) (v := (1 : Int32)) C dX5_timeOfService_71 rfl rfl (by decide) rfl ?_
        refine px_goto (tgt := 4) C dX5_timeOfService_74 (by decide) ?_
        exact PW_at (hR4 _ _ _ _ hk) (And.intro rfl (And.intro rfl (And.intro rfl (And.intro rfl trivial)))) (Nat.le_of_ble_eq_true rfl) (Nat.le_of_ble_eq_true rfl)
set_option maxRecDepth 100000 in
set_option maxHeartbeats 4000000 in
theorem w5_timeOfService_ok {l : Launch} {idx : List (Nat × Nat)} {μ : Mem} {a1 : Int32} {P : Int32 → Mem → Prop} {X : String → Mem → Prop} (hl : l.stackTraces = false) (hI : IdxOK idx) (hk : w5_timeOfService_wp μ a1 P) : PMet l yX5_timeOfService (.code yX5_timeOfService cX5_timeOfService 5 (some .int)) 1 0 0 idx [pR 27 0, pI a1] μ (qI P) X := by
  refine PMet_of mv_X5_timeOfService.2.2.2.2.2.2 hl hI mv_X5_timeOfService.2.2.2.1 rfl (Nat.le_of_ble_eq_true rfl) (fun G _ _ C hRt hHR hnT => ?_)
  show PW G 0 0 0 [some (pR 27 0), some (pI a1), none, none, none] [] μ
  unfold w5_timeOfService_wp at hk
  refine px_iconst (v := (0 : Int32)) C dX5_timeOfService_0 rfl ?_
  refine px_istore_n (i := 2) C dX5_timeOfService_1 rfl (by decide) rfl ?_
  refine px_iconst (v := (0 : Int32)) C dX5_timeOfService_2 rfl ?_
  refine px_istore_n (i := 3) C dX5_timeOfService_3 rfl (by decide) rfl ?_
  exact PW_at (w5_timeOfService_b4_ok C hRt hHR hnT hk) (And.intro rfl (And.intro rfl (And.intro rfl (And.intro rfl trivial)))) (Nat.le_of_ble_eq_true rfl) (Nat.le_of_ble_eq_true rfl)
theorem dX6_put_0 : decode cX6_put 0 = .ok (.iload_n 1, 1) := by decide +kernel
theorem dX6_put_1 : decode cX6_put 1 = .ok (.iconst 2, 1) := by decide +kernel
theorem dX6_put_2 : decode cX6_put 2 = .ok (.invokestatic 25, 3) := by decide +kernel
theorem dX6_put_5 : decode cX6_put 5 = .ok (.ifCond .eq 30, 3) := by decide +kernel
theorem dX6_put_8 : decode cX6_put 8 = .ok (.iload_n 2, 1) := by decide +kernel
theorem dX6_put_9 : decode cX6_put 9 = .ok (.iconst 4, 1) := by decide +kernel
theorem dX6_put_10 : decode cX6_put 10 = .ok (.invokestatic 25, 3) := by decide +kernel
theorem dX6_put_13 : decode cX6_put 13 = .ok (.ifCond .eq 22, 3) := by decide +kernel
theorem dX6_put_16 : decode cX6_put 16 = .ok (.aload_n 0, 1) := by decide +kernel
theorem dX6_put_17 : decode cX6_put 17 = .ok (.getfield 11, 3) := by decide +kernel
theorem dX6_put_20 : decode cX6_put 20 = .ok (.iload_n 1, 1) := by decide +kernel
theorem dX6_put_21 : decode cX6_put 21 = .ok (.aaload, 1) := by decide +kernel
theorem dX6_put_22 : decode cX6_put 22 = .ok (.iload_n 2, 1) := by decide +kernel
theorem dX6_put_23 : decode cX6_put 23 = .ok (.iload_n 3, 1) := by decide +kernel
theorem dX6_put_24 : decode cX6_put 24 = .ok (.iastore, 1) := by decide +kernel
theorem dX6_put_25 : decode cX6_put 25 = .ok (.aload_n 0, 1) := by decide +kernel
theorem dX6_put_26 : decode cX6_put 26 = .ok (.getfield 16, 3) := by decide +kernel
theorem dX6_put_29 : decode cX6_put 29 = .ok (.iload_n 1, 1) := by decide +kernel
theorem dX6_put_30 : decode cX6_put 30 = .ok (.aaload, 1) := by decide +kernel
theorem dX6_put_31 : decode cX6_put 31 = .ok (.iload_n 2, 1) := by decide +kernel
theorem dX6_put_32 : decode cX6_put 32 = .ok (.iload 4, 2) := by decide +kernel
theorem dX6_put_34 : decode cX6_put 34 = .ok (.iastore, 1) := by decide +kernel
theorem dX6_put_35 : decode cX6_put 35 = .ok (.return_, 1) := by decide +kernel
set_option maxRecDepth 100000 in
set_option maxHeartbeats 4000000 in
theorem w6_put_ok {l : Launch} {idx : List (Nat × Nat)} {μ : Mem} {a1 : Int32} {a2 : Int32} {a3 : Int32} {a4 : Int32} {P : Mem → Prop} {X : String → Mem → Prop} (hl : l.stackTraces = false) (hI : IdxOK idx) (hk : w6_put_wp μ a1 a2 a3 a4 P) : PMet l yX6_put (.code yX6_put cX6_put 5 none) 1 0 0 idx [pR 35 0, pI a1, pI a2, pI a3, pI a4] μ (qV P) X := by
  refine PMet_of mv_X6_put.2.2.2.2.2.2 hl hI mv_X6_put.2.2.2.1 rfl (Nat.le_of_ble_eq_true rfl) (fun G _ _ C hRt hHR hnT => ?_)
  show PW G 0 0 0 [some (pR 35 0), some (pI a1), some (pI a2), some (pI a3), some (pI a4)] [] μ
  unfold w6_put_wp at hk
  refine px_iload_n (i := 1) C dX6_put_0 rfl rfl ?_
  refine px_iconst (v := (2 : Int32)) C dX6_put_1 rfl ?_
  refine px_callSNi (h := 0) (rc' := 0) (rs' := 0) C (HR_le hHR (Nat.le_of_ble_eq_true rfl)) hRt hnT dX6_put_2 (List.mem_append_right _ (List.mem_append_left _ (List.mem_of_getElem? (i := 22) rfl))) ms_X8_isWithin (w8_isWithin_ok (PCx_l C) (PCx_I C) hk) rfl rfl (Nat.le_of_ble_eq_true rfl) (Nat.le_of_ble_eq_true rfl) (Nat.le_of_ble_eq_true rfl) (Nat.le_of_ble_eq_true rfl) ?_
  intro r2 μ1 hk
  refine px_if_eq (tgt := 35) C dX6_put_5 (by decide) (fun c12 => ?_) (fun c12 => ?_)
  · replace hk := hk.1 c12
    exact px_vret C hRt dX6_put_35 rfl hk
  · replace hk := hk.2 c12
    refine px_iload_n (i := 2) C dX6_put_8 rfl rfl ?_
    refine px_iconst (v := (4 : Int32)) C dX6_put_9 rfl ?_
    refine px_callSNi (h := 0) (rc' := 0) (rs' := 0) C (HR_le hHR (Nat.le_of_ble_eq_true rfl)) hRt hnT dX6_put_10 (List.mem_append_right _ (List.mem_append_left _ (List.mem_of_getElem? (i := 22) rfl))) ms_X8_isWithin (w8_isWithin_ok (PCx_l C) (PCx_I C) hk) rfl rfl (Nat.le_of_ble_eq_true rfl) (Nat.le_of_ble_eq_true rfl) (Nat.le_of_ble_eq_true rfl) (Nat.le_of_ble_eq_true rfl) ?_
    intro r4 μ3 hk
    refine px_if_eq (tgt := 35) C dX6_put_13 (by decide) (fun c11 => ?_) (fun c11 => ?_)
    · replace hk := hk.1 c11
      exact px_vret C hRt dX6_put_35 rfl hk
    · replace hk := hk.2 c11
      refine px_aload_n (i := 0) C dX6_put_16 rfl rfl ?_
      refine px_getr C dX6_put_17 fl_RX6_11 rfl rfl rfl ?_
      refine px_iload_n (i := 1) C dX6_put_20 rfl rfl ?_
      obtain ⟨o5, hk⟩ := hk
      refine px_aald C dX6_put_21 rfl rfl rfl o5 rfl ?_
      refine px_iload_n (i := 2) C dX6_put_22 rfl rfl ?_
      refine px_iload_n (i := 3) C dX6_put_23 rfl rfl ?_
      obtain ⟨o6, hk⟩ := hk
      replace hk := hk _ rfl
      refine px_iast 2368 C dX6_put_24 rfl rfl rfl rfl o6 ?_
      refine px_aload_n (i := 0) C dX6_put_25 rfl rfl ?_
      refine px_getr C dX6_put_26 fl_RX6_16 rfl rfl rfl ?_
      refine px_iload_n (i := 1) C dX6_put_29 rfl rfl ?_
      obtain ⟨o8, hk⟩ := hk
      refine px_aald C dX6_put_30 rfl rfl rfl o8 rfl ?_
      refine px_iload_n (i := 2) C dX6_put_31 rfl rfl ?_
      refine px_iload (i := 4) C dX6_put_32 rfl ?_
      obtain ⟨o9, hk⟩ := hk
      replace hk := hk _ rfl
      refine px_iast 2368 C dX6_put_34 rfl rfl rfl rfl o9 ?_
      exact px_vret C hRt dX6_put_35 rfl hk
theorem dX6_traceIn_0 : decode cX6_traceIn 0 = .ok (.iload_n 1, 1) := by decide +kernel
theorem dX6_traceIn_1 : decode cX6_traceIn 1 = .ok (.iconst 2, 1) := by decide +kernel
theorem dX6_traceIn_2 : decode cX6_traceIn 2 = .ok (.invokestatic 25, 3) := by decide +kernel
theorem dX6_traceIn_5 : decode cX6_traceIn 5 = .ok (.ifCond .eq 22, 3) := by decide +kernel
theorem dX6_traceIn_8 : decode cX6_traceIn 8 = .ok (.iload_n 2, 1) := by decide +kernel
theorem dX6_traceIn_9 : decode cX6_traceIn 9 = .ok (.iconst 4, 1) := by decide +kernel
theorem dX6_traceIn_10 : decode cX6_traceIn 10 = .ok (.invokestatic 25, 3) := by decide +kernel
theorem dX6_traceIn_13 : decode cX6_traceIn 13 = .ok (.ifCond .eq 14, 3) := by decide +kernel
theorem dX6_traceIn_16 : decode cX6_traceIn 16 = .ok (.aload_n 0, 1) := by decide +kernel
theorem dX6_traceIn_17 : decode cX6_traceIn 17 = .ok (.getfield 11, 3) := by decide +kernel
theorem dX6_traceIn_20 : decode cX6_traceIn 20 = .ok (.iload_n 1, 1) := by decide +kernel
theorem dX6_traceIn_21 : decode cX6_traceIn 21 = .ok (.aaload, 1) := by decide +kernel
theorem dX6_traceIn_22 : decode cX6_traceIn 22 = .ok (.iload_n 2, 1) := by decide +kernel
theorem dX6_traceIn_23 : decode cX6_traceIn 23 = .ok (.iaload, 1) := by decide +kernel
theorem dX6_traceIn_24 : decode cX6_traceIn 24 = .ok (.goto 4, 3) := by decide +kernel
theorem dX6_traceIn_27 : decode cX6_traceIn 27 = .ok (.iconst (-1), 1) := by decide +kernel
theorem dX6_traceIn_28 : decode cX6_traceIn 28 = .ok (.ireturn, 1) := by decide +kernel
set_option maxRecDepth 100000 in
set_option maxHeartbeats 4000000 in
theorem w6_traceIn_ok {l : Launch} {idx : List (Nat × Nat)} {μ : Mem} {a1 : Int32} {a2 : Int32} {P : Int32 → Mem → Prop} {X : String → Mem → Prop} (hl : l.stackTraces = false) (hI : IdxOK idx) (hk : w6_traceIn_wp μ a1 a2 P) : PMet l yX6_traceIn (.code yX6_traceIn cX6_traceIn 3 (some .int)) 1 0 0 idx [pR 35 0, pI a1, pI a2] μ (qI P) X := by
  refine PMet_of mv_X6_traceIn.2.2.2.2.2.2 hl hI mv_X6_traceIn.2.2.2.1 rfl (Nat.le_of_ble_eq_true rfl) (fun G _ _ C hRt hHR hnT => ?_)
  show PW G 0 0 0 [some (pR 35 0), some (pI a1), some (pI a2)] [] μ
  unfold w6_traceIn_wp at hk
  refine px_iload_n (i := 1) C dX6_traceIn_0 rfl rfl ?_
  refine px_iconst (v := (2 : Int32)) C dX6_traceIn_1 rfl ?_
  refine px_callSNi (h := 0) (rc' := 0) (rs' := 0) C (HR_le hHR (Nat.le_of_ble_eq_true rfl)) hRt hnT dX6_traceIn_2 (List.mem_append_right _ (List.mem_append_left _ (List.mem_of_getElem? (i := 22) rfl))) ms_X8_isWithin (w8_isWithin_ok (PCx_l C) (PCx_I C) hk) rfl rfl (Nat.le_of_ble_eq_true rfl) (Nat.le_of_ble_eq_true rfl) (Nat.le_of_ble_eq_true rfl) (Nat.le_of_ble_eq_true rfl) ?_
  intro r2 μ1 hk
  refine px_if_eq (tgt := 27) C dX6_traceIn_5 (by decide) (fun c8 => ?_) (fun c8 => ?_)
  · replace hk := hk.1 c8
    refine px_iconst (v := (-1 : Int32)) C dX6_traceIn_27 rfl ?_
    exact px_iret C hRt dX6_traceIn_28 rfl rfl hk
  · replace hk := hk.2 c8
    refine px_iload_n (i := 2) C dX6_traceIn_8 rfl rfl ?_
    refine px_iconst (v := (4 : Int32)) C dX6_traceIn_9 rfl ?_
    refine px_callSNi (h := 0) (rc' := 0) (rs' := 0) C (HR_le hHR (Nat.le_of_ble_eq_true rfl)) hRt hnT dX6_traceIn_10 (List.mem_append_right _ (List.mem_append_left _ (List.mem_of_getElem? (i := 22) rfl))) ms_X8_isWithin (w8_isWithin_ok (PCx_l C) (PCx_I C) hk) rfl rfl (Nat.le_of_ble_eq_true rfl) (Nat.le_of_ble_eq_true rfl) (Nat.le_of_ble_eq_true rfl) (Nat.le_of_ble_eq_true rfl) ?_
    intro r4 μ3 hk
    refine px_if_eq (tgt := 27) C dX6_traceIn_13 (by decide) (fun c7 => ?_) (fun c7 => ?_)
    · replace hk := hk.1 c7
      refine px_iconst (v := (-1 : Int32)) C dX6_traceIn_27 rfl ?_
      exact px_iret C hRt dX6_traceIn_28 rfl rfl hk
    · replace hk := hk.2 c7
      refine px_aload_n (i := 0) C dX6_traceIn_16 rfl rfl ?_
      refine px_getr C dX6_traceIn_17 fl_RX6_11 rfl rfl rfl ?_
      refine px_iload_n (i := 1) C dX6_traceIn_20 rfl rfl ?_
      obtain ⟨o5, hk⟩ := hk
      refine px_aald C dX6_traceIn_21 rfl rfl rfl o5 rfl ?_
      refine px_iload_n (i := 2) C dX6_traceIn_22 rfl rfl ?_
      obtain ⟨o6, hk⟩ := hk
      refine px_iald 2368 C dX6_traceIn_23 rfl rfl rfl rfl o6 ?_
      refine px_goto (tgt := 28) C dX6_traceIn_24 (by decide) ?_
      exact px_iret C hRt dX6_traceIn_28 rfl rfl hk
theorem dX6_nodeIn_0 : decode cX6_nodeIn 0 = .ok (.iload_n 1, 1) := by decide +kernel
theorem dX6_nodeIn_1 : decode cX6_nodeIn 1 = .ok (.iconst 2, 1) := by decide +kernel
theorem dX6_nodeIn_2 : decode cX6_nodeIn 2 = .ok (.invokestatic 25, 3) := by decide +kernel
theorem dX6_nodeIn_5 : decode cX6_nodeIn 5 = .ok (.ifCond .eq 22, 3) := by decide +kernel
theorem dX6_nodeIn_8 : decode cX6_nodeIn 8 = .ok (.iload_n 2, 1) := by decide +kernel
theorem dX6_nodeIn_9 : decode cX6_nodeIn 9 = .ok (.iconst 4, 1) := by decide +kernel
theorem dX6_nodeIn_10 : decode cX6_nodeIn 10 = .ok (.invokestatic 25, 3) := by decide +kernel
theorem dX6_nodeIn_13 : decode cX6_nodeIn 13 = .ok (.ifCond .eq 14, 3) := by decide +kernel
theorem dX6_nodeIn_16 : decode cX6_nodeIn 16 = .ok (.aload_n 0, 1) := by decide +kernel
theorem dX6_nodeIn_17 : decode cX6_nodeIn 17 = .ok (.getfield 16, 3) := by decide +kernel
theorem dX6_nodeIn_20 : decode cX6_nodeIn 20 = .ok (.iload_n 1, 1) := by decide +kernel
theorem dX6_nodeIn_21 : decode cX6_nodeIn 21 = .ok (.aaload, 1) := by decide +kernel
theorem dX6_nodeIn_22 : decode cX6_nodeIn 22 = .ok (.iload_n 2, 1) := by decide +kernel
theorem dX6_nodeIn_23 : decode cX6_nodeIn 23 = .ok (.iaload, 1) := by decide +kernel
theorem dX6_nodeIn_24 : decode cX6_nodeIn 24 = .ok (.goto 4, 3) := by decide +kernel
theorem dX6_nodeIn_27 : decode cX6_nodeIn 27 = .ok (.iconst (-1), 1) := by decide +kernel
theorem dX6_nodeIn_28 : decode cX6_nodeIn 28 = .ok (.ireturn, 1) := by decide +kernel
set_option maxRecDepth 100000 in
set_option maxHeartbeats 4000000 in
theorem w6_nodeIn_ok {l : Launch} {idx : List (Nat × Nat)} {μ : Mem} {a1 : Int32} {a2 : Int32} {P : Int32 → Mem → Prop} {X : String → Mem → Prop} (hl : l.stackTraces = false) (hI : IdxOK idx) (hk : w6_nodeIn_wp μ a1 a2 P) : PMet l yX6_nodeIn (.code yX6_nodeIn cX6_nodeIn 3 (some .int)) 1 0 0 idx [pR 35 0, pI a1, pI a2] μ (qI P) X := by
  refine PMet_of mv_X6_nodeIn.2.2.2.2.2.2 hl hI mv_X6_nodeIn.2.2.2.1 rfl (Nat.le_of_ble_eq_true rfl) (fun G _ _ C hRt hHR hnT => ?_)
  show PW G 0 0 0 [some (pR 35 0), some (pI a1), some (pI a2)] [] μ
  unfold w6_nodeIn_wp at hk
  refine px_iload_n (i := 1) C dX6_nodeIn_0 rfl rfl ?_
  refine px_iconst (v := (2 : Int32)) C dX6_nodeIn_1 rfl ?_
  refine px_callSNi (h := 0) (rc' := 0) (rs' := 0) C (HR_le hHR (Nat.le_of_ble_eq_true rfl)) hRt hnT dX6_nodeIn_2 (List.mem_append_right _ (List.mem_append_left _ (List.mem_of_getElem? (i := 22) rfl))) ms_X8_isWithin (w8_isWithin_ok (PCx_l C) (PCx_I C) hk) rfl rfl (Nat.le_of_ble_eq_true rfl) (Nat.le_of_ble_eq_true rfl) (Nat.le_of_ble_eq_true rfl) (Nat.le_of_ble_eq_true rfl) ?_
  intro r2 μ1 hk
  refine px_if_eq (tgt := 27) C dX6_nodeIn_5 (by decide) (fun c8 => ?_) (fun c8 => ?_)
  · replace hk := hk.1 c8
    refine px_iconst (v := (-1 : Int32)) C dX6_nodeIn_27 rfl ?_
    exact px_iret C hRt dX6_nodeIn_28 rfl rfl hk
  · replace hk := hk.2 c8
    refine px_iload_n (i := 2) C dX6_nodeIn_8 rfl rfl ?_
    refine px_iconst (v := (4 : Int32)) C dX6_nodeIn_9 rfl ?_
    refine px_callSNi (h := 0) (rc' := 0) (rs' := 0) C (HR_le hHR (Nat.le_of_ble_eq_true rfl)) hRt hnT dX6_nodeIn_10 (List.mem_append_right _ (List.mem_append_left _ (List.mem_of_getElem? (i := 22) rfl))) ms_X8_isWithin (w8_isWithin_ok (PCx_l C) (PCx_I C) hk) rfl rfl (Nat.le_of_ble_eq_true rfl) (Nat.le_of_ble_eq_true rfl) (Nat.le_of_ble_eq_true rfl) (Nat.le_of_ble_eq_true rfl) ?_
    intro r4 μ3 hk
    refine px_if_eq (tgt := 27) C dX6_nodeIn_13 (by decide) (fun c7 => ?_) (fun c7 => ?_)
    · replace hk := hk.1 c7
      refine px_iconst (v := (-1 : Int32)) C dX6_nodeIn_27 rfl ?_
      exact px_iret C hRt dX6_nodeIn_28 rfl rfl hk
    · replace hk := hk.2 c7
      refine px_aload_n (i := 0) C dX6_nodeIn_16 rfl rfl ?_
      refine px_getr C dX6_nodeIn_17 fl_RX6_16 rfl rfl rfl ?_
      refine px_iload_n (i := 1) C dX6_nodeIn_20 rfl rfl ?_
      obtain ⟨o5, hk⟩ := hk
      refine px_aald C dX6_nodeIn_21 rfl rfl rfl o5 rfl ?_
      refine px_iload_n (i := 2) C dX6_nodeIn_22 rfl rfl ?_
      obtain ⟨o6, hk⟩ := hk
      refine px_iald 2368 C dX6_nodeIn_23 rfl rfl rfl rfl o6 ?_
      refine px_goto (tgt := 28) C dX6_nodeIn_24 (by decide) ?_
      exact px_iret C hRt dX6_nodeIn_28 rfl rfl hk
