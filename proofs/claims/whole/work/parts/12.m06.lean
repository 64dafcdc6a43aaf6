theorem dX2_isLowestOfCycle_0 : decode cX2_isLowestOfCycle 0 = .ok (.aload_n 0, 1) := by decide +kernel
theorem dX2_isLowestOfCycle_1 : decode cX2_isLowestOfCycle 1 = .ok (.getfield 18, 3) := by decide +kernel
theorem dX2_isLowestOfCycle_4 : decode cX2_isLowestOfCycle 4 = .ok (.iload_n 1, 1) := by decide +kernel
theorem dX2_isLowestOfCycle_5 : decode cX2_isLowestOfCycle 5 = .ok (.iaload, 1) := by decide +kernel
theorem dX2_isLowestOfCycle_6 : decode cX2_isLowestOfCycle 6 = .ok (.istore_n 2, 1) := by decide +kernel
theorem dX2_isLowestOfCycle_7 : decode cX2_isLowestOfCycle 7 = .ok (.iconst 0, 1) := by decide +kernel
theorem dX2_isLowestOfCycle_8 : decode cX2_isLowestOfCycle 8 = .ok (.istore_n 3, 1) := by decide +kernel
theorem dX2_isLowestOfCycle_9 : decode cX2_isLowestOfCycle 9 = .ok (.iload_n 3, 1) := by decide +kernel
theorem dX2_isLowestOfCycle_10 : decode cX2_isLowestOfCycle 10 = .ok (.bipush 40, 2) := by decide +kernel
theorem dX2_isLowestOfCycle_12 : decode cX2_isLowestOfCycle 12 = .ok (.if_icmp .ge 55, 3) := by decide +kernel
theorem dX2_isLowestOfCycle_15 : decode cX2_isLowestOfCycle 15 = .ok (.iload_n 2, 1) := by decide +kernel
theorem dX2_isLowestOfCycle_16 : decode cX2_isLowestOfCycle 16 = .ok (.bipush 40, 2) := by decide +kernel
theorem dX2_isLowestOfCycle_18 : decode cX2_isLowestOfCycle 18 = .ok (.invokestatic 54, 3) := by decide +kernel
theorem dX2_isLowestOfCycle_21 : decode cX2_isLowestOfCycle 21 = .ok (.ifCond .eq 46, 3) := by decide +kernel
theorem dX2_isLowestOfCycle_24 : decode cX2_isLowestOfCycle 24 = .ok (.iload_n 2, 1) := by decide +kernel
theorem dX2_isLowestOfCycle_25 : decode cX2_isLowestOfCycle 25 = .ok (.iload_n 1, 1) := by decide +kernel
theorem dX2_isLowestOfCycle_26 : decode cX2_isLowestOfCycle 26 = .ok (.if_icmp .ne 5, 3) := by decide +kernel
theorem dX2_isLowestOfCycle_29 : decode cX2_isLowestOfCycle 29 = .ok (.iconst 1, 1) := by decide +kernel
theorem dX2_isLowestOfCycle_30 : decode cX2_isLowestOfCycle 30 = .ok (.ireturn, 1) := by decide +kernel
theorem dX2_isLowestOfCycle_31 : decode cX2_isLowestOfCycle 31 = .ok (.aload_n 0, 1) := by decide +kernel
theorem dX2_isLowestOfCycle_32 : decode cX2_isLowestOfCycle 32 = .ok (.getfield 37, 3) := by decide +kernel
theorem dX2_isLowestOfCycle_35 : decode cX2_isLowestOfCycle 35 = .ok (.getfield 92, 3) := by decide +kernel
theorem dX2_isLowestOfCycle_38 : decode cX2_isLowestOfCycle 38 = .ok (.iload_n 2, 1) := by decide +kernel
theorem dX2_isLowestOfCycle_39 : decode cX2_isLowestOfCycle 39 = .ok (.iaload, 1) := by decide +kernel
theorem dX2_isLowestOfCycle_40 : decode cX2_isLowestOfCycle 40 = .ok (.aload_n 0, 1) := by decide +kernel
theorem dX2_isLowestOfCycle_41 : decode cX2_isLowestOfCycle 41 = .ok (.getfield 37, 3) := by decide +kernel
theorem dX2_isLowestOfCycle_44 : decode cX2_isLowestOfCycle 44 = .ok (.getfield 92, 3) := by decide +kernel
theorem dX2_isLowestOfCycle_47 : decode cX2_isLowestOfCycle 47 = .ok (.iload_n 1, 1) := by decide +kernel
theorem dX2_isLowestOfCycle_48 : decode cX2_isLowestOfCycle 48 = .ok (.iaload, 1) := by decide +kernel
theorem dX2_isLowestOfCycle_49 : decode cX2_isLowestOfCycle 49 = .ok (.if_icmp .ge 5, 3) := by decide +kernel
theorem dX2_isLowestOfCycle_52 : decode cX2_isLowestOfCycle 52 = .ok (.iconst 0, 1) := by decide +kernel
theorem dX2_isLowestOfCycle_53 : decode cX2_isLowestOfCycle 53 = .ok (.ireturn, 1) := by decide +kernel
theorem dX2_isLowestOfCycle_54 : decode cX2_isLowestOfCycle 54 = .ok (.aload_n 0, 1) := by decide +kernel
theorem dX2_isLowestOfCycle_55 : decode cX2_isLowestOfCycle 55 = .ok (.getfield 18, 3) := by decide +kernel
theorem dX2_isLowestOfCycle_58 : decode cX2_isLowestOfCycle 58 = .ok (.iload_n 2, 1) := by decide +kernel
theorem dX2_isLowestOfCycle_59 : decode cX2_isLowestOfCycle 59 = .ok (.iaload, 1) := by decide +kernel
theorem dX2_isLowestOfCycle_60 : decode cX2_isLowestOfCycle 60 = .ok (.istore_n 2, 1) := by decide +kernel
theorem dX2_isLowestOfCycle_61 : decode cX2_isLowestOfCycle 61 = .ok (.iinc 3 1, 3) := by decide +kernel
theorem dX2_isLowestOfCycle_64 : decode cX2_isLowestOfCycle 64 = .ok (.goto (-55), 3) := by decide +kernel
theorem dX2_isLowestOfCycle_67 : decode cX2_isLowestOfCycle 67 = .ok (.iconst 0, 1) := by decide +kernel
theorem dX2_isLowestOfCycle_68 : decode cX2_isLowestOfCycle 68 = .ok (.ireturn, 1) := by decide +kernel
set_option maxRecDepth 100000 in
set_option maxHeartbeats 4000000 in
theorem w2_isLowestOfCycle_b9_ok {G : GT} {P : Int32 → Mem → Prop} {X : String → Mem → Prop} (C : PCx G cX2_isLowestOfCycle 4 RX2) (hRt : PRt G (some .boolean) (qI P) X) (hHR : HR G (1)) (hnT : NoT G) {μ : Mem} {l1 : Int32} {l2 : Int32} {l3 : Int32} (hk : w2_isLowestOfCycle_b9 P μ l1 l2 l3) : PW G 0 0 9 [some (pR 18 0), some (pI l1), some (pI l2), some (pI l3)] [] μ := by
  refine hk (fun (μ : Mem) (l1 : Int32) (l2 : Int32) (l3 : Int32) => PW G 0 0 9 [some (pR 18 0), some (pI l1), some (pI l2), some (pI l3)] [] μ) (fun (μ : Mem) l1 l2 l3 hk => ?_)
  have hR9 : ∀ (μ : Mem) (l1 : Int32) (l2 : Int32) (l3 : Int32), PW G 0 0 9 [some (pR 18 0), some (pI l1), some (pI l2), some (pI l3)] [] μ → PW G 0 0 9 [some (pR 18 0), some (pI l1), some (pI l2), some (pI l3)] [] μ := fun _ _ _ _ h => h
  unfold w2_isLowestOfCycle_b9_body at hk
  refine px_iload_n (i := 3) C dX2_isLowestOfCycle_9 rfl rfl ?_
  refine px_bipush (v := (40 : Int32)) C dX2_isLowestOfCycle_10 rfl ?_
  refine px_icmp_ge (tgt := 67) C dX2_isLowestOfCycle_12 (by decide) (fun c10 => ?_) (fun c10 => ?_)
  · replace hk := hk.1 c10
    refine px_iconst (v := (0 : Int32)) C dX2_isLowestOfCycle_67 rfl ?_
    exact px_iret C hRt dX2_isLowestOfCycle_68 rfl rfl hk
  · replace hk := hk.2 c10
    refine px_iload_n (i := 2) C dX2_isLowestOfCycle_15 rfl rfl ?_
    refine px_bipush (v := (40 : Int32)) C dX2_isLowestOfCycle_16 rfl ?_
    refine px_callSNi (h := 0) (rc' := 0) (rs' := 0) C (HR_le hHR (Nat.le_of_ble_eq_true rfl)) hRt hnT dX2_isLowestOfCycle_18 (List.mem_append_right _ (List.mem_append_left _ (List.mem_of_getElem? (i := 4) rfl))) ms_X8_isWithin (w8_isWithin_ok (PCx_l C) (PCx_I C) hk) rfl rfl (Nat.le_of_ble_eq_true rfl) (Nat.le_of_ble_eq_true rfl) (Nat.le_of_ble_eq_true rfl) (Nat.le_of_ble_eq_true rfl) ?_
    intro r3 μ2 hk
    refine px_if_eq (tgt := 67) C dX2_isLowestOfCycle_21 (by decide) (fun c9 => ?_) (fun c9 => ?_)
    · replace hk := hk.1 c9
      refine px_iconst (v := (0 : Int32)) C dX2_isLowestOfCycle_67 rfl ?_
      exact px_iret C hRt dX2_isLowestOfCycle_68 rfl rfl hk
    · replace hk := hk.2 c9
      refine px_iload_n (i := 2) C dX2_isLowestOfCycle_24 rfl rfl ?_
      refine px_iload_n (i := 1) C dX2_isLowestOfCycle_25 rfl rfl ?_
      refine px_icmp_ne (tgt := 31) C dX2_isLowestOfCycle_26 (by decide) (fun c8 => ?_) (fun c8 => ?_)
      · replace hk := hk.1 c8
        refine px_aload_n (i := 0) C dX2_isLowestOfCycle_31 rfl rfl ?_
        refine px_getr C dX2_isLowestOfCycle_32 fl_RX2_37 rfl rfl rfl ?_
        refine px_getr C dX2_isLowestOfCycle_35 fl_RX2_92 rfl rfl rfl ?_
        refine px_iload_n (i := 2) C dX2_isLowestOfCycle_38 rfl rfl ?_
        obtain ⟨o4, hk⟩ := hk
        refine px_iald 128 C dX2_isLowestOfCycle_39 rfl rfl rfl rfl o4 ?_
        refine px_aload_n (i := 0) C dX2_isLowestOfCycle_40 rfl rfl ?_
        refine px_getr C dX2_isLowestOfCycle_41 fl_RX2_37 rfl rfl rfl ?_
        refine px_getr C dX2_isLowestOfCycle_44 fl_RX2_92 rfl rfl rfl ?_
        refine px_iload_n (i := 1) C dX2_isLowestOfCycle_47 rfl rfl ?_
        obtain ⟨o5, hk⟩ := hk
        refine px_iald 128 C dX2_isLowestOfCycle_48 rfl rfl rfl rfl o5 ?_
        refine px_icmp_ge (tgt := 54) C dX2_isLowestOfCycle_49 (by decide) (fun c7 => ?_) (fun c7 => ?_)
        · replace hk := hk.1 c7
          refine px_aload_n (i := 0) C dX2_isLowestOfCycle_54 rfl rfl ?_
          refine px_getr C dX2_isLowestOfCycle_55 fl_RX2_18 rfl rfl rfl ?_
          refine px_iload_n (i := 2) C dX2_isLowestOfCycle_58 rfl rfl ?_
          obtain ⟨o6, hk⟩ := hk
          refine px_iald 1344 C dX2_isLowestOfCycle_59 rfl rfl rfl rfl o6 ?_
          refine px_istore_n (i := 2) C dX2_isLowestOfCycle_60 rfl (by decide) rfl ?_
          refine px_iinc (i := 3) (v := (1 : Int32)) C dX2_isLowestOfCycle_61 rfl rfl (by decide) rfl ?_
          refine px_goto (tgt := 9) C dX2_isLowestOfCycle_64 (by decide) ?_
          exact PW_at (hR9 _ _ _ _ hk) (And.intro rfl (And.intro rfl (And.intro rfl (And.intro rfl trivial)))) (Nat.le_of_ble_eq_true rfl) (Nat.le_of_ble_eq_true rfl)
        · replace hk := hk.2 c7
          refine px_iconst (v := (0 : Int32)) C dX2_isLowestOfCycle_52 rfl ?_
          exact px_iret C hRt dX2_isLowestOfCycle_53 rfl rfl hk
      · replace hk := hk.2 c8
        refine px_iconst (v := (1 : Int32)) C dX2_isLowestOfCycle_29 rfl ?_
        exact px_iret C hRt dX2_isLowestOfCycle_30 rfl rfl hk
set_option maxRecDepth 100000 in
set_option maxHeartbeats 4000000 in
theorem w2_isLowestOfCycle_ok {l : Launch} {idx : List (Nat × Nat)} {μ : Mem} {a1 : Int32} {P : Int32 → Mem → Prop} {X : String → Mem → Prop} (hl : l.stackTraces = false) (hI : IdxOK idx) (hk : w2_isLowestOfCycle_wp μ a1 P) : PMet l yX2_isLowestOfCycle (.code yX2_isLowestOfCycle cX2_isLowestOfCycle 4 (some .boolean)) 1 0 0 idx [pR 18 0, pI a1] μ (qI P) X := by
  refine PMet_of mv_X2_isLowestOfCycle.2.2.2.2.2.2 hl hI mv_X2_isLowestOfCycle.2.2.2.1 rfl (Nat.le_of_ble_eq_true rfl) (fun G _ _ C hRt hHR hnT => ?_)
  show PW G 0 0 0 [some (pR 18 0), some (pI a1), none, none] [] μ
  unfold w2_isLowestOfCycle_wp at hk
  refine px_aload_n (i := 0) C dX2_isLowestOfCycle_0 rfl rfl ?_
  refine px_getr C dX2_isLowestOfCycle_1 fl_RX2_18 rfl rfl rfl ?_
  refine px_iload_n (i := 1) C dX2_isLowestOfCycle_4 rfl rfl ?_
  obtain ⟨o1, hk⟩ := hk
  refine px_iald 1344 C dX2_isLowestOfCycle_5 rfl rfl rfl rfl o1 ?_
  refine px_istore_n (i := 2) C dX2_isLowestOfCycle_6 rfl (by decide) rfl ?_
  refine px_iconst (v := (0 : Int32)) C dX2_isLowestOfCycle_7 rfl ?_
  refine px_istore_n (i := 3) C dX2_isLowestOfCycle_8 rfl (by decide) rfl ?_
  exact PW_at (w2_isLowestOfCycle_b9_ok C hRt hHR hnT hk) (And.intro rfl (And.intro rfl (And.intro rfl (And.intro rfl trivial)))) (Nat.le_of_ble_eq_true rfl) (Nat.le_of_ble_eq_true rfl)
theorem dX2_insert_0 : decode cX2_insert 0 = .ok (.iload_n 1, 1) := by decide +kernel
theorem dX2_insert_1 : decode cX2_insert 1 = .ok (.istore_n 2, 1) := by decide +kernel
theorem dX2_insert_2 : decode cX2_insert 2 = .ok (.iload_n 2, 1) := by decide +kernel
theorem dX2_insert_3 : decode cX2_insert 3 = .ok (.ifCond .le 39, 3) := by decide +kernel
theorem dX2_insert_6 : decode cX2_insert 6 = .ok (.aload_n 0, 1) := by decide +kernel
theorem dX2_insert_7 : decode cX2_insert 7 = .ok (.iload_n 1, 1) := by decide +kernel
theorem dX2_insert_8 : decode cX2_insert 8 = .ok (.aload_n 0, 1) := by decide +kernel
theorem dX2_insert_9 : decode cX2_insert 9 = .ok (.getfield 34, 3) := by decide +kernel
theorem dX2_insert_12 : decode cX2_insert 12 = .ok (.iload_n 2, 1) := by decide +kernel
theorem dX2_insert_13 : decode cX2_insert 13 = .ok (.iconst 1, 1) := by decide +kernel
theorem dX2_insert_14 : decode cX2_insert 14 = .ok (.isub, 1) := by decide +kernel
theorem dX2_insert_15 : decode cX2_insert 15 = .ok (.iaload, 1) := by decide +kernel
theorem dX2_insert_16 : decode cX2_insert 16 = .ok (.invokevirtual 95, 3) := by decide +kernel
theorem dX2_insert_19 : decode cX2_insert 19 = .ok (.ifCond .eq 23, 3) := by decide +kernel
theorem dX2_insert_22 : decode cX2_insert 22 = .ok (.aload_n 0, 1) := by decide +kernel
theorem dX2_insert_23 : decode cX2_insert 23 = .ok (.getfield 34, 3) := by decide +kernel
theorem dX2_insert_26 : decode cX2_insert 26 = .ok (.iload_n 2, 1) := by decide +kernel
theorem dX2_insert_27 : decode cX2_insert 27 = .ok (.aload_n 0, 1) := by decide +kernel
theorem dX2_insert_28 : decode cX2_insert 28 = .ok (.getfield 34, 3) := by decide +kernel
theorem dX2_insert_31 : decode cX2_insert 31 = .ok (.iload_n 2, 1) := by decide +kernel
theorem dX2_insert_32 : decode cX2_insert 32 = .ok (.iconst 1, 1) := by decide +kernel
theorem dX2_insert_33 : decode cX2_insert 33 = .ok (.isub, 1) := by decide +kernel
theorem dX2_insert_34 : decode cX2_insert 34 = .ok (.iaload, 1) := by decide +kernel
theorem dX2_insert_35 : decode cX2_insert 35 = .ok (.iastore, 1) := by decide +kernel
theorem dX2_insert_36 : decode cX2_insert 36 = .ok (.iinc 2 (-1), 3) := by decide +kernel
theorem dX2_insert_39 : decode cX2_insert 39 = .ok (.goto (-37), 3) := by decide +kernel
theorem dX2_insert_42 : decode cX2_insert 42 = .ok (.aload_n 0, 1) := by decide +kernel
theorem dX2_insert_43 : decode cX2_insert 43 = .ok (.getfield 34, 3) := by decide +kernel
theorem dX2_insert_46 : decode cX2_insert 46 = .ok (.iload_n 2, 1) := by decide +kernel
theorem dX2_insert_47 : decode cX2_insert 47 = .ok (.iload_n 1, 1) := by decide +kernel
theorem dX2_insert_48 : decode cX2_insert 48 = .ok (.iastore, 1) := by decide +kernel
theorem dX2_insert_49 : decode cX2_insert 49 = .ok (.return_, 1) := by decide +kernel
set_option maxRecDepth 100000 in
set_option maxHeartbeats 4000000 in
theorem w2_insert_b2_ok {G : GT} {P : Mem → Prop} {X : String → Mem → Prop} (C : PCx G cX2_insert 3 RX2) (hRt : PRt G none (qV P) X) (hHR : HR G (1)) (hnT : NoT G) {μ : Mem} {l1 : Int32} {l2 : Int32} (hk : w2_insert_b2 P μ l1 l2) : PW G 0 0 2 [some (pR 18 0), some (pI l1), some (pI l2)] [] μ := by
  refine hk (fun (μ : Mem) (l1 : Int32) (l2 : Int32) => PW G 0 0 2 [some (pR 18 0), some (pI l1), some (pI l2)] [] μ) (fun (μ : Mem) l1 l2 hk => ?_)
  have hR2 : ∀ (μ : Mem) (l1 : Int32) (l2 : Int32), PW G 0 0 2 [some (pR 18 0), some (pI l1), some (pI l2)] [] μ → PW G 0 0 2 [some (pR 18 0), some (pI l1), some (pI l2)] [] μ := fun _ _ _ h => h
  unfold w2_insert_b2_body at hk
  refine px_iload_n (i := 2) C dX2_insert_2 rfl rfl ?_
  refine px_if_le (tgt := 42) C dX2_insert_3 (by decide) (fun c12 => ?_) (fun c12 => ?_)
  · replace hk := hk.1 c12
    refine px_aload_n (i := 0) C dX2_insert_42 rfl rfl ?_
    refine px_getr C dX2_insert_43 fl_RX2_34 rfl rfl rfl ?_
    refine px_iload_n (i := 2) C dX2_insert_46 rfl rfl ?_
    refine px_iload_n (i := 1) C dX2_insert_47 rfl rfl ?_
    obtain ⟨o1, hk⟩ := hk
    replace hk := hk _ rfl
    refine px_iast 1664 C dX2_insert_48 rfl rfl rfl rfl o1 ?_
    exact px_vret C hRt dX2_insert_49 rfl hk
  · replace hk := hk.2 c12
    refine px_aload_n (i := 0) C dX2_insert_6 rfl rfl ?_
    refine px_iload_n (i := 1) C dX2_insert_7 rfl rfl ?_
    refine px_aload_n (i := 0) C dX2_insert_8 rfl rfl ?_
    refine px_getr C dX2_insert_9 fl_RX2_34 rfl rfl rfl ?_
    refine px_iload_n (i := 2) C dX2_insert_12 rfl rfl ?_
    refine px_iconst (v := (1 : Int32)) C dX2_insert_13 rfl ?_
    refine px_isub C dX2_insert_14 ?_
    obtain ⟨o3, hk⟩ := hk
    refine px_iald 1664 C dX2_insert_15 rfl rfl rfl rfl o3 ?_
    refine px_callVi (h := 0) (rc' := 0) (rs' := 0) C (HR_le hHR (Nat.le_of_ble_eq_true rfl)) hRt hnT dX2_insert_16 (gw2 229 rfl rfl) mv_X2_isEarlier (w2_isEarlier_ok (PCx_l C) (PCx_I C) hk) rfl rfl rfl rfl rfl (Nat.le_of_ble_eq_true rfl) (Nat.le_of_ble_eq_true rfl) (Nat.le_of_ble_eq_true rfl) (Nat.le_of_ble_eq_true rfl) ?_
    intro r5 μ4 hk
    refine px_if_eq (tgt := 42) C dX2_insert_19 (by decide) (fun c11 => ?_) (fun c11 => ?_)
    · replace hk := hk.1 c11
      refine px_aload_n (i := 0) C dX2_insert_42 rfl rfl ?_
      refine px_getr C dX2_insert_43 fl_RX2_34 rfl rfl rfl ?_
      refine px_iload_n (i := 2) C dX2_insert_46 rfl rfl ?_
      refine px_iload_n (i := 1) C dX2_insert_47 rfl rfl ?_
      obtain ⟨o6, hk⟩ := hk
      replace hk := hk _ rfl
      refine px_iast 1664 C dX2_insert_48 rfl rfl rfl rfl o6 ?_
      exact px_vret C hRt dX2_insert_49 rfl hk
    · replace hk := hk.2 c11
      refine px_aload_n (i := 0) C dX2_insert_22 rfl rfl ?_
      refine px_getr C dX2_insert_23 fl_RX2_34 rfl rfl rfl ?_
      refine px_iload_n (i := 2) C dX2_insert_26 rfl rfl ?_
      refine px_aload_n (i := 0) C dX2_insert_27 rfl rfl ?_
      refine px_getr C dX2_insert_28 fl_RX2_34 rfl rfl rfl ?_
      refine px_iload_n (i := 2) C dX2_insert_31 rfl rfl ?_
      refine px_iconst (v := (1 : Int32)) C dX2_insert_32 rfl ?_
      refine px_isub C dX2_insert_33 ?_
      obtain ⟨o8, hk⟩ := hk
      refine px_iald 1664 C dX2_insert_34 rfl rfl rfl rfl o8 ?_
      obtain ⟨o9, hk⟩ := hk
      replace hk := hk _ rfl
      refine px_iast 1664 C dX2_insert_35 rfl rfl rfl rfl o9 ?_
      refine px_iinc (i := 2) (v := (-1 : Int32)) C dX2_insert_36 rfl rfl (by decide) rfl ?_
      refine px_goto (tgt := 2) C dX2_insert_39 (by decide) ?_
      exact PW_at (hR2 _ _ _ hk) (And.intro rfl (And.intro rfl (And.intro rfl trivial))) (Nat.le_of_ble_eq_true rfl) (Nat.le_of_ble_eq_true rfl)
set_option maxRecDepth 100000 in
set_option maxHeartbeats 4000000 in
theorem w2_insert_ok {l : Launch} {idx : List (Nat × Nat)} {μ : Mem} {a1 : Int32} {P : Mem → Prop} {X : String → Mem → Prop} (hl : l.stackTraces = false) (hI : IdxOK idx) (hk : w2_insert_wp μ a1 P) : PMet l yX2_insert (.code yX2_insert cX2_insert 3 none) 1 0 0 idx [pR 18 0, pI a1] μ (qV P) X := by
  refine PMet_of mv_X2_insert.2.2.2.2.2.2 hl hI mv_X2_insert.2.2.2.1 rfl (Nat.le_of_ble_eq_true rfl) (fun G _ _ C hRt hHR hnT => ?_)
  show PW G 0 0 0 [some (pR 18 0), some (pI a1), none] [] μ
  unfold w2_insert_wp at hk
  refine px_iload_n (i := 1) C dX2_insert_0 rfl rfl ?_
  refine px_istore_n (i := 2) C dX2_insert_1 rfl (by decide) rfl ?_
  exact PW_at (w2_insert_b2_ok C hRt hHR hnT hk) (And.intro rfl (And.intro rfl (And.intro rfl trivial))) (Nat.le_of_ble_eq_true rfl) (Nat.le_of_ble_eq_true rfl)
theorem dX2_spreadError_0 : decode cX2_spreadError 0 = .ok (.aload_n 0, 1) := by decide +kernel
theorem dX2_spreadError_1 : decode cX2_spreadError 1 = .ok (.getfield 24, 3) := by decide +kernel
theorem dX2_spreadError_4 : decode cX2_spreadError 4 = .ok (.iload_n 1, 1) := by decide +kernel
theorem dX2_spreadError_5 : decode cX2_spreadError 5 = .ok (.iaload, 1) := by decide +kernel
theorem dX2_spreadError_6 : decode cX2_spreadError 6 = .ok (.istore_n 2, 1) := by decide +kernel
theorem dX2_spreadError_7 : decode cX2_spreadError 7 = .ok (.iconst 0, 1) := by decide +kernel
theorem dX2_spreadError_8 : decode cX2_spreadError 8 = .ok (.istore_n 3, 1) := by decide +kernel
theorem dX2_spreadError_9 : decode cX2_spreadError 9 = .ok (.iload_n 3, 1) := by decide +kernel
theorem dX2_spreadError_10 : decode cX2_spreadError 10 = .ok (.bipush 40, 2) := by decide +kernel
theorem dX2_spreadError_12 : decode cX2_spreadError 12 = .ok (.if_icmp .ge 32, 3) := by decide +kernel
theorem dX2_spreadError_15 : decode cX2_spreadError 15 = .ok (.iload_n 2, 1) := by decide +kernel
theorem dX2_spreadError_16 : decode cX2_spreadError 16 = .ok (.bipush 40, 2) := by decide +kernel
theorem dX2_spreadError_18 : decode cX2_spreadError 18 = .ok (.invokestatic 54, 3) := by decide +kernel
theorem dX2_spreadError_21 : decode cX2_spreadError 21 = .ok (.ifCond .eq 23, 3) := by decide +kernel
theorem dX2_spreadError_24 : decode cX2_spreadError 24 = .ok (.aload_n 0, 1) := by decide +kernel
theorem dX2_spreadError_25 : decode cX2_spreadError 25 = .ok (.getfield 30, 3) := by decide +kernel
theorem dX2_spreadError_28 : decode cX2_spreadError 28 = .ok (.iload_n 2, 1) := by decide +kernel
theorem dX2_spreadError_29 : decode cX2_spreadError 29 = .ok (.iconst 1, 1) := by decide +kernel
theorem dX2_spreadError_30 : decode cX2_spreadError 30 = .ok (.bastore, 1) := by decide +kernel
theorem dX2_spreadError_31 : decode cX2_spreadError 31 = .ok (.aload_n 0, 1) := by decide +kernel
theorem dX2_spreadError_32 : decode cX2_spreadError 32 = .ok (.getfield 24, 3) := by decide +kernel
theorem dX2_spreadError_35 : decode cX2_spreadError 35 = .ok (.iload_n 2, 1) := by decide +kernel
theorem dX2_spreadError_36 : decode cX2_spreadError 36 = .ok (.iaload, 1) := by decide +kernel
theorem dX2_spreadError_37 : decode cX2_spreadError 37 = .ok (.istore_n 2, 1) := by decide +kernel
theorem dX2_spreadError_38 : decode cX2_spreadError 38 = .ok (.iinc 3 1, 3) := by decide +kernel
theorem dX2_spreadError_41 : decode cX2_spreadError 41 = .ok (.goto (-32), 3) := by decide +kernel
theorem dX2_spreadError_44 : decode cX2_spreadError 44 = .ok (.return_, 1) := by decide +kernel
set_option maxRecDepth 100000 in
set_option maxHeartbeats 4000000 in
theorem w2_spreadError_b9_ok {G : GT} {P : Mem → Prop} {X : String → Mem → Prop} (C : PCx G cX2_spreadError 4 RX2) (hRt : PRt G none (qV P) X) (hHR : HR G (1)) (hnT : NoT G) {μ : Mem} {l2 : Int32} {l3 : Int32} (hk : w2_spreadError_b9 P μ l2 l3) : PW G 0 0 9 [some (pR 18 0), none, some (pI l2), some (pI l3)] [] μ := by
  refine hk (fun (μ : Mem) (l2 : Int32) (l3 : Int32) => PW G 0 0 9 [some (pR 18 0), none, some (pI l2), some (pI l3)] [] μ) (fun (μ : Mem) l2 l3 hk => ?_)
  have hR9 : ∀ (μ : Mem) (l2 : Int32) (l3 : Int32), PW G 0 0 9 [some (pR 18 0), none, some (pI l2), some (pI l3)] [] μ → PW G 0 0 9 [some (pR 18 0), none, some (pI l2), some (pI l3)] [] μ := fun _ _ _ h => h
  unfold w2_spreadError_b9_body at hk
  refine px_iload_n (i := 3) C dX2_spreadError_9 rfl rfl ?_
  refine px_bipush (v := (40 : Int32)) C dX2_spreadError_10 rfl ?_
  refine px_icmp_ge (tgt := 44) C dX2_spreadError_12 (by decide) (fun c8 => ?_) (fun c8 => ?_)
  · replace hk := hk.1 c8
    exact px_vret C hRt dX2_spreadError_44 rfl hk
  · replace hk := hk.2 c8
    refine px_iload_n (i := 2) C dX2_spreadError_15 rfl rfl ?_
    refine px_bipush (v := (40 : Int32)) C dX2_spreadError_16 rfl ?_
    refine px_callSNi (h := 0) (rc' := 0) (rs' := 0) C (HR_le hHR (Nat.le_of_ble_eq_true rfl)) hRt hnT dX2_spreadError_18 (List.mem_append_right _ (List.mem_append_left _ (List.mem_of_getElem? (i := 4) rfl))) ms_X8_isWithin (w8_isWithin_ok (PCx_l C) (PCx_I C) hk) rfl rfl (Nat.le_of_ble_eq_true rfl) (Nat.le_of_ble_eq_true rfl) (Nat.le_of_ble_eq_true rfl) (Nat.le_of_ble_eq_true rfl) ?_
    intro r3 μ2 hk
    refine px_if_eq (tgt := 44) C dX2_spreadError_21 (by decide) (fun c7 => ?_) (fun c7 => ?_)
    · replace hk := hk.1 c7
      exact px_vret C hRt dX2_spreadError_44 rfl hk
    · replace hk := hk.2 c7
      refine px_aload_n (i := 0) C dX2_spreadError_24 rfl rfl ?_
      refine px_getr C dX2_spreadError_25 fl_RX2_30 rfl rfl rfl ?_
      refine px_iload_n (i := 2) C dX2_spreadError_28 rfl rfl ?_
      refine px_iconst (v := (1 : Int32)) C dX2_spreadError_29 rfl ?_
      obtain ⟨o4, hk⟩ := hk
      replace hk := hk _ rfl
      refine px_zast 1600 C dX2_spreadError_30 rfl rfl rfl rfl o4 ?_
      refine px_aload_n (i := 0) C dX2_spreadError_31 rfl rfl ?_
      refine px_getr C dX2_spreadError_32 fl_RX2_24 rfl rfl rfl ?_
      refine px_iload_n (i := 2) C dX2_spreadError_35 rfl rfl ?_
      obtain ⟨o6, hk⟩ := hk
      refine px_iald 1472 C dX2_spreadError_36 rfl rfl rfl rfl o6 ?_
      refine px_istore_n (i := 2) C dX2_spreadError_37 rfl (by decide) rfl ?_
      refine px_iinc (i := 3) (v := (1 : Int32)) C dX2_spreadError_38 rfl rfl (by decide) rfl ?_
      refine px_goto (tgt := 9) C dX2_spreadError_41 (by decide) ?_
      exact PW_at (hR9 _ _ _ hk) (And.intro rfl (And.intro rfl (And.intro rfl trivial))) (Nat.le_of_ble_eq_true rfl) (Nat.le_of_ble_eq_true rfl)
set_option maxRecDepth 100000 in
set_option maxHeartbeats 4000000 in
theorem w2_spreadError_ok {l : Launch} {idx : List (Nat × Nat)} {μ : Mem} {a1 : Int32} {P : Mem → Prop} {X : String → Mem → Prop} (hl : l.stackTraces = false) (hI : IdxOK idx) (hk : w2_spreadError_wp μ a1 P) : PMet l yX2_spreadError (.code yX2_spreadError cX2_spreadError 4 none) 1 0 0 idx [pR 18 0, pI a1] μ (qV P) X := by
  refine PMet_of mv_X2_spreadError.2.2.2.2.2.2 hl hI mv_X2_spreadError.2.2.2.1 rfl (Nat.le_of_ble_eq_true rfl) (fun G _ _ C hRt hHR hnT => ?_)
  show PW G 0 0 0 [some (pR 18 0), some (pI a1), none, none] [] μ
  unfold w2_spreadError_wp at hk
  refine px_aload_n (i := 0) C dX2_spreadError_0 rfl rfl ?_
  refine px_getr C dX2_spreadError_1 fl_RX2_24 rfl rfl rfl ?_
  refine px_iload_n (i := 1) C dX2_spreadError_4 rfl rfl ?_
  obtain ⟨o1, hk⟩ := hk
  refine px_iald 1472 C dX2_spreadError_5 rfl rfl rfl rfl o1 ?_
  refine px_istore_n (i := 2) C dX2_spreadError_6 rfl (by decide) rfl ?_
  refine px_iconst (v := (0 : Int32)) C dX2_spreadError_7 rfl ?_
  refine px_istore_n (i := 3) C dX2_spreadError_8 rfl (by decide) rfl ?_
  exact PW_at (w2_spreadError_b9_ok C hRt hHR hnT hk) (And.intro rfl (And.intro rfl (And.intro rfl trivial))) (Nat.le_of_ble_eq_true rfl) (Nat.le_of_ble_eq_true rfl)
theorem dX2_topOf_0 : decode cX2_topOf 0 = .ok (.iload_n 1, 1) := by decide +kernel
theorem dX2_topOf_1 : decode cX2_topOf 1 = .ok (.istore_n 2, 1) := by decide +kernel
theorem dX2_topOf_2 : decode cX2_topOf 2 = .ok (.iconst 0, 1) := by decide +kernel
theorem dX2_topOf_3 : decode cX2_topOf 3 = .ok (.istore_n 3, 1) := by decide +kernel
theorem dX2_topOf_4 : decode cX2_topOf 4 = .ok (.iload_n 3, 1) := by decide +kernel
theorem dX2_topOf_5 : decode cX2_topOf 5 = .ok (.bipush 40, 2) := by decide +kernel
theorem dX2_topOf_7 : decode cX2_topOf 7 = .ok (.if_icmp .ge 30, 3) := by decide +kernel
theorem dX2_topOf_10 : decode cX2_topOf 10 = .ok (.aload_n 0, 1) := by decide +kernel
theorem dX2_topOf_11 : decode cX2_topOf 11 = .ok (.getfield 24, 3) := by decide +kernel
theorem dX2_topOf_14 : decode cX2_topOf 14 = .ok (.iload_n 2, 1) := by decide +kernel
theorem dX2_topOf_15 : decode cX2_topOf 15 = .ok (.iaload, 1) := by decide +kernel
theorem dX2_topOf_16 : decode cX2_topOf 16 = .ok (.bipush 40, 2) := by decide +kernel
theorem dX2_topOf_18 : decode cX2_topOf 18 = .ok (.invokestatic 54, 3) := by decide +kernel
theorem dX2_topOf_21 : decode cX2_topOf 21 = .ok (.ifCond .eq 16, 3) := by decide +kernel
theorem dX2_topOf_24 : decode cX2_topOf 24 = .ok (.aload_n 0, 1) := by decide +kernel
theorem dX2_topOf_25 : decode cX2_topOf 25 = .ok (.getfield 24, 3) := by decide +kernel
theorem dX2_topOf_28 : decode cX2_topOf 28 = .ok (.iload_n 2, 1) := by decide +kernel
theorem dX2_topOf_29 : decode cX2_topOf 29 = .ok (.iaload, 1) := by decide +kernel
theorem dX2_topOf_30 : decode cX2_topOf 30 = .ok (.istore_n 2, 1) := by decide +kernel
theorem dX2_topOf_31 : decode cX2_topOf 31 = .ok (.iinc 3 1, 3) := by decide +kernel
theorem dX2_topOf_34 : decode cX2_topOf 34 = .ok (.goto (-30), 3) := by decide +kernel
theorem dX2_topOf_37 : decode cX2_topOf 37 = .ok (.iload_n 2, 1) := by decide +kernel
theorem dX2_topOf_38 : decode cX2_topOf 38 = .ok (.ireturn, 1) := by decide +kernel
set_option maxRecDepth 100000 in
set_option maxHeartbeats 4000000 in
theorem w2_topOf_b4_ok {G : GT} {P : Int32 → Mem → Prop} {X : String → Mem → Prop} (C : PCx G cX2_topOf 4 RX2) (hRt : PRt G (some .int) (qI P) X) (hHR : HR G (1)) (hnT : NoT G) {μ : Mem} {l2 : Int32} {l3 : Int32} (hk : w2_topOf_b4 P μ l2 l3) : PW G 0 0 4 [some (pR 18 0), none, some (pI l2), some (pI l3)] [] μ := by
  refine hk (fun (μ : Mem) (l2 : Int32) (l3 : Int32) => PW G 0 0 4 [some (pR 18 0), none, some (pI l2), some (pI l3)] [] μ) (fun (μ : Mem) l2 l3 hk => ?_)
  have hR4 : ∀ (μ : Mem) (l2 : Int32) (l3 : Int32), PW G 0 0 4 [some (pR 18 0), none, some (pI l2), some (pI l3)] [] μ → PW G 0 0 4 [some (pR 18 0), none, some (pI l2), some (pI l3)] [] μ := fun _ _ _ h => h
  unfold w2_topOf_b4_body at hk
  refine px_iload_n (i := 3) C dX2_topOf_4 rfl rfl ?_
  refine px_bipush (v := (40 : Int32)) C dX2_topOf_5 rfl ?_
  refine px_icmp_ge (tgt := 37) C dX2_topOf_7 (by decide) (fun c6 => ?_) (fun c6 => ?_)
  · replace hk := hk.1 c6
    refine px_iload_n (i := 2) C dX2_topOf_37 rfl rfl ?_
    exact px_iret C hRt dX2_topOf_38 rfl rfl hk
  · replace hk := hk.2 c6
    refine px_aload_n (i := 0) C dX2_topOf_10 rfl rfl ?_
    refine px_getr C dX2_topOf_11 fl_RX2_24 rfl rfl rfl ?_
    refine px_iload_n (i := 2) C dX2_topOf_14 rfl rfl ?_
    obtain ⟨o1, hk⟩ := hk
    refine px_iald 1472 C dX2_topOf_15 rfl rfl rfl rfl o1 ?_
    refine px_bipush (v := (40 : Int32)) C dX2_topOf_16 rfl ?_
    refine px_callSNi (h := 0) (rc' := 0) (rs' := 0) C (HR_le hHR (Nat.le_of_ble_eq_true rfl)) hRt hnT dX2_topOf_18 (List.mem_append_right _ (List.mem_append_left _ (List.mem_of_getElem? (i := 4) rfl))) ms_X8_isWithin (w8_isWithin_ok (PCx_l C) (PCx_I C) hk) rfl rfl (Nat.le_of_ble_eq_true rfl) (Nat.le_of_ble_eq_true rfl) (Nat.le_of_ble_eq_true rfl) (Nat.le_of_ble_eq_true rfl) ?_
    intro r3 μ2 hk
    refine px_if_eq (tgt := 37) C dX2_topOf_21 (by decide) (fun c5 => ?_) (fun c5 => ?_)
    · replace hk := hk.1 c5
      refine px_iload_n (i := 2) C dX2_topOf_37 rfl rfl ?_
      exact px_iret C hRt dX2_topOf_38 rfl rfl hk
    · replace hk := hk.2 c5
      refine px_aload_n (i := 0) C dX2_topOf_24 rfl rfl ?_
      refine px_getr C dX2_topOf_25 fl_RX2_24 rfl rfl rfl ?_
      refine px_iload_n (i := 2) C dX2_topOf_28 rfl rfl ?_
      obtain ⟨o4, hk⟩ := hk
      refine px_iald 1472 C dX2_topOf_29 rfl rfl rfl rfl o4 ?_
      refine px_istore_n (i := 2) C dX2_topOf_30 rfl (by decide) rfl ?_
      refine px_iinc (i := 3) (v := (1 : Int32)) C dX2_topOf_31 rfl rfl (by decide) rfl ?_
      refine px_goto (tgt := 4) C dX2_topOf_34 (by decide) ?_
      exact PW_at (hR4 _ _ _ hk) (And.intro rfl (And.intro rfl (And.intro rfl trivial))) (Nat.le_of_ble_eq_true rfl) (Nat.le_of_ble_eq_true rfl)
set_option maxRecDepth 100000 in
set_option maxHeartbeats 4000000 in
theorem w2_topOf_ok {l : Launch} {idx : List (Nat × Nat)} {μ : Mem} {a1 : Int32} {P : Int32 → Mem → Prop} {X : String → Mem → Prop} (hl : l.stackTraces = false) (hI : IdxOK idx) (hk : w2_topOf_wp μ a1 P) : PMet l yX2_topOf (.code yX2_topOf cX2_topOf 4 (some .int)) 1 0 0 idx [pR 18 0, pI a1] μ (qI P) X := by
  refine PMet_of mv_X2_topOf.2.2.2.2.2.2 hl hI mv_X2_topOf.2.2.2.1 rfl (Nat.le_of_ble_eq_true rfl) (fun G _ _ C hRt hHR hnT => ?_)
  show PW G 0 0 0 [some (pR 18 0), some (pI a1), none, none] [] μ
  unfold w2_topOf_wp at hk
  refine px_iload_n (i := 1) C dX2_topOf_0 rfl rfl ?_
  refine px_istore_n (i := 2) C dX2_topOf_1 rfl (by decide) rfl ?_
  refine px_iconst (v := (0 : Int32)) C dX2_topOf_2 rfl ?_
  refine px_istore_n (i := 3) C dX2_topOf_3 rfl (by decide) rfl ?_
  exact PW_at (w2_topOf_b4_ok C hRt hHR hnT hk) (And.intro rfl (And.intro rfl (And.intro rfl trivial))) (Nat.le_of_ble_eq_true rfl) (Nat.le_of_ble_eq_true rfl)
theorem dX2_rootNumber_0 : decode cX2_rootNumber 0 = .ok (.aload_n 0, 1) := by decide +kernel
theorem dX2_rootNumber_1 : decode cX2_rootNumber 1 = .ok (.iload_n 1, 1) := by decide +kernel
theorem dX2_rootNumber_2 : decode cX2_rootNumber 2 = .ok (.invokevirtual 98, 3) := by decide +kernel
theorem dX2_rootNumber_5 : decode cX2_rootNumber 5 = .ok (.istore_n 2, 1) := by decide +kernel
theorem dX2_rootNumber_6 : decode cX2_rootNumber 6 = .ok (.aload_n 0, 1) := by decide +kernel
theorem dX2_rootNumber_7 : decode cX2_rootNumber 7 = .ok (.getfield 21, 3) := by decide +kernel
theorem dX2_rootNumber_10 : decode cX2_rootNumber 10 = .ok (.iload_n 2, 1) := by decide +kernel
theorem dX2_rootNumber_11 : decode cX2_rootNumber 11 = .ok (.iaload, 1) := by decide +kernel
theorem dX2_rootNumber_12 : decode cX2_rootNumber 12 = .ok (.iconst 2, 1) := by decide +kernel
theorem dX2_rootNumber_13 : decode cX2_rootNumber 13 = .ok (.if_icmp .ne 12, 3) := by decide +kernel
theorem dX2_rootNumber_16 : decode cX2_rootNumber 16 = .ok (.aload_n 0, 1) := by decide +kernel
theorem dX2_rootNumber_17 : decode cX2_rootNumber 17 = .ok (.getfield 27, 3) := by decide +kernel
theorem dX2_rootNumber_20 : decode cX2_rootNumber 20 = .ok (.iload_n 2, 1) := by decide +kernel
theorem dX2_rootNumber_21 : decode cX2_rootNumber 21 = .ok (.iaload, 1) := by decide +kernel
theorem dX2_rootNumber_22 : decode cX2_rootNumber 22 = .ok (.goto 12, 3) := by decide +kernel
theorem dX2_rootNumber_25 : decode cX2_rootNumber 25 = .ok (.aload_n 0, 1) := by decide +kernel
theorem dX2_rootNumber_26 : decode cX2_rootNumber 26 = .ok (.getfield 37, 3) := by decide +kernel
theorem dX2_rootNumber_29 : decode cX2_rootNumber 29 = .ok (.getfield 92, 3) := by decide +kernel
theorem dX2_rootNumber_32 : decode cX2_rootNumber 32 = .ok (.iload_n 2, 1) := by decide +kernel
theorem dX2_rootNumber_33 : decode cX2_rootNumber 33 = .ok (.iaload, 1) := by decide +kernel
theorem dX2_rootNumber_34 : decode cX2_rootNumber 34 = .ok (.ireturn, 1) := by decide +kernel
set_option maxRecDepth 100000 in
set_option maxHeartbeats 4000000 in
theorem w2_rootNumber_ok {l : Launch} {idx : List (Nat × Nat)} {μ : Mem} {a1 : Int32} {P : Int32 → Mem → Prop} {X : String → Mem → Prop} (hl : l.stackTraces = false) (hI : IdxOK idx) (hk : w2_rootNumber_wp μ a1 P) : PMet l yX2_rootNumber (.code yX2_rootNumber cX2_rootNumber 3 (some .int)) 2 0 0 idx [pR 18 0, pI a1] μ (qI P) X := by
  refine PMet_of mv_X2_rootNumber.2.2.2.2.2.2 hl hI mv_X2_rootNumber.2.2.2.1 rfl (Nat.le_of_ble_eq_true rfl) (fun G _ _ C hRt hHR hnT => ?_)
  show PW G 0 0 0 [some (pR 18 0), some (pI a1), none] [] μ
  unfold w2_rootNumber_wp at hk
  refine px_aload_n (i := 0) C dX2_rootNumber_0 rfl rfl ?_
  refine px_iload_n (i := 1) C dX2_rootNumber_1 rfl rfl ?_
  refine px_callVi (h := 1) (rc' := 0) (rs' := 0) C (HR_le hHR (Nat.le_of_ble_eq_true rfl)) hRt hnT dX2_rootNumber_2 (gw4 79 rfl rfl) mv_X2_topOf (w2_topOf_ok (PCx_l C) (PCx_I C) hk) rfl rfl rfl rfl rfl (Nat.le_of_ble_eq_true rfl) (Nat.le_of_ble_eq_true rfl) (Nat.le_of_ble_eq_true rfl) (Nat.le_of_ble_eq_true rfl) ?_
  intro r2 μ1 hk
  refine px_istore_n (i := 2) C dX2_rootNumber_5 rfl (by decide) rfl ?_
  refine px_aload_n (i := 0) C dX2_rootNumber_6 rfl rfl ?_
  refine px_getr C dX2_rootNumber_7 fl_RX2_21 rfl rfl rfl ?_
  refine px_iload_n (i := 2) C dX2_rootNumber_10 rfl rfl ?_
  obtain ⟨o3, hk⟩ := hk
  refine px_iald 1408 C dX2_rootNumber_11 rfl rfl rfl rfl o3 ?_
  refine px_iconst (v := (2 : Int32)) C dX2_rootNumber_12 rfl ?_
  refine px_icmp_ne (tgt := 25) C dX2_rootNumber_13 (by decide) (fun c6 => ?_) (fun c6 => ?_)
  · replace hk := hk.1 c6
    refine px_aload_n (i := 0) C dX2_rootNumber_25 rfl rfl ?_
    refine px_getr C dX2_rootNumber_26 fl_RX2_37 rfl rfl rfl ?_
    refine px_getr C dX2_rootNumber_29 fl_RX2_92 rfl rfl rfl ?_
    refine px_iload_n (i := 2) C dX2_rootNumber_32 rfl rfl ?_
    obtain ⟨o4, hk⟩ := hk
    refine px_iald 128 C dX2_rootNumber_33 rfl rfl rfl rfl o4 ?_
    exact px_iret C hRt dX2_rootNumber_34 rfl rfl hk
  · replace hk := hk.2 c6
    refine px_aload_n (i := 0) C dX2_rootNumber_16 rfl rfl ?_
    refine px_getr C dX2_rootNumber_17 fl_RX2_27 rfl rfl rfl ?_
    refine px_iload_n (i := 2) C dX2_rootNumber_20 rfl rfl ?_
    obtain ⟨o5, hk⟩ := hk
    refine px_iald 1536 C dX2_rootNumber_21 rfl rfl rfl rfl o5 ?_
    refine px_goto (tgt := 34) C dX2_rootNumber_22 (by decide) ?_
    exact px_iret C hRt dX2_rootNumber_34 rfl rfl hk
theorem dX2_nodesAbove_0 : decode cX2_nodesAbove 0 = .ok (.iload_n 1, 1) := by decide +kernel
theorem dX2_nodesAbove_1 : decode cX2_nodesAbove 1 = .ok (.istore_n 2, 1) := by decide +kernel
theorem dX2_nodesAbove_2 : decode cX2_nodesAbove 2 = .ok (.iconst 0, 1) := by decide +kernel
theorem dX2_nodesAbove_3 : decode cX2_nodesAbove 3 = .ok (.istore_n 3, 1) := by decide +kernel
theorem dX2_nodesAbove_4 : decode cX2_nodesAbove 4 = .ok (.iconst 0, 1) := by decide +kernel
theorem dX2_nodesAbove_5 : decode cX2_nodesAbove 5 = .ok (.istore 4, 2) := by decide +kernel
theorem dX2_nodesAbove_7 : decode cX2_nodesAbove 7 = .ok (.iload 4, 2) := by decide +kernel
theorem dX2_nodesAbove_9 : decode cX2_nodesAbove 9 = .ok (.bipush 40, 2) := by decide +kernel
theorem dX2_nodesAbove_11 : decode cX2_nodesAbove 11 = .ok (.if_icmp .ge 33, 3) := by decide +kernel
theorem dX2_nodesAbove_14 : decode cX2_nodesAbove 14 = .ok (.aload_n 0, 1) := by decide +kernel
theorem dX2_nodesAbove_15 : decode cX2_nodesAbove 15 = .ok (.getfield 24, 3) := by decide +kernel
theorem dX2_nodesAbove_18 : decode cX2_nodesAbove 18 = .ok (.iload_n 2, 1) := by decide +kernel
theorem dX2_nodesAbove_19 : decode cX2_nodesAbove 19 = .ok (.iaload, 1) := by decide +kernel
theorem dX2_nodesAbove_20 : decode cX2_nodesAbove 20 = .ok (.bipush 40, 2) := by decide +kernel
theorem dX2_nodesAbove_22 : decode cX2_nodesAbove 22 = .ok (.invokestatic 54, 3) := by decide +kernel
theorem dX2_nodesAbove_25 : decode cX2_nodesAbove 25 = .ok (.ifCond .eq 19, 3) := by decide +kernel
theorem dX2_nodesAbove_28 : decode cX2_nodesAbove 28 = .ok (.aload_n 0, 1) := by decide +kernel
theorem dX2_nodesAbove_29 : decode cX2_nodesAbove 29 = .ok (.getfield 24, 3) := by decide +kernel
theorem dX2_nodesAbove_32 : decode cX2_nodesAbove 32 = .ok (.iload_n 2, 1) := by decide +kernel
theorem dX2_nodesAbove_33 : decode cX2_nodesAbove 33 = .ok (.iaload, 1) := by decide +kernel
theorem dX2_nodesAbove_34 : decode cX2_nodesAbove 34 = .ok (.istore_n 2, 1) := by decide +kernel
theorem dX2_nodesAbove_35 : decode cX2_nodesAbove 35 = .ok (.iinc 3 1, 3) := by decide +kernel
theorem dX2_nodesAbove_38 : decode cX2_nodesAbove 38 = .ok (.iinc 4 1, 3) := by decide +kernel
theorem dX2_nodesAbove_41 : decode cX2_nodesAbove 41 = .ok (.goto (-34), 3) := by decide +kernel
theorem dX2_nodesAbove_44 : decode cX2_nodesAbove 44 = .ok (.aload_n 0, 1) := by decide +kernel
theorem dX2_nodesAbove_45 : decode cX2_nodesAbove 45 = .ok (.getfield 21, 3) := by decide +kernel
theorem dX2_nodesAbove_48 : decode cX2_nodesAbove 48 = .ok (.iload_n 2, 1) := by decide +kernel
theorem dX2_nodesAbove_49 : decode cX2_nodesAbove 49 = .ok (.iaload, 1) := by decide +kernel
theorem dX2_nodesAbove_50 : decode cX2_nodesAbove 50 = .ok (.iconst 2, 1) := by decide +kernel
theorem dX2_nodesAbove_51 : decode cX2_nodesAbove 51 = .ok (.if_icmp .ne 9, 3) := by decide +kernel
theorem dX2_nodesAbove_54 : decode cX2_nodesAbove 54 = .ok (.iload_n 3, 1) := by decide +kernel
theorem dX2_nodesAbove_55 : decode cX2_nodesAbove 55 = .ok (.iconst 1, 1) := by decide +kernel
theorem dX2_nodesAbove_56 : decode cX2_nodesAbove 56 = .ok (.iadd, 1) := by decide +kernel
theorem dX2_nodesAbove_57 : decode cX2_nodesAbove 57 = .ok (.goto 4, 3) := by decide +kernel
theorem dX2_nodesAbove_60 : decode cX2_nodesAbove 60 = .ok (.iload_n 3, 1) := by decide +kernel
theorem dX2_nodesAbove_61 : decode cX2_nodesAbove 61 = .ok (.ireturn, 1) := by decide +kernel
set_option maxRecDepth 100000 in
set_option maxHeartbeats 4000000 in
theorem w2_nodesAbove_b44_ok {G : GT} {P : Int32 → Mem → Prop} {X : String → Mem → Prop} (C : PCx G cX2_nodesAbove 5 RX2) (hRt : PRt G (some .int) (qI P) X) (hHR : HR G (1)) (hnT : NoT G) {μ : Mem} {l2 : Int32} {l3 : Int32} (hk : w2_nodesAbove_b44 P μ l2 l3) : PW G 0 0 44 [some (pR 18 0), none, some (pI l2), some (pI l3), none] [] μ := by
  unfold w2_nodesAbove_b44 at hk
  refine px_aload_n (i := 0) C dX2_nodesAbove_44 rfl rfl ?_
  refine px_getr C dX2_nodesAbove_45 fl_RX2_21 rfl rfl rfl ?_
  refine px_iload_n (i := 2) C dX2_nodesAbove_48 rfl rfl ?_
  obtain ⟨o1, hk⟩ := hk
  refine px_iald 1408 C dX2_nodesAbove_49 rfl rfl rfl rfl o1 ?_
  refine px_iconst (v := (2 : Int32)) C dX2_nodesAbove_50 rfl ?_
  refine px_icmp_ne (tgt := 60) C dX2_nodesAbove_51 (by decide) (fun c2 => ?_) (fun c2 => ?_)
  · replace hk := hk.1 c2
    refine px_iload_n (i := 3) C dX2_nodesAbove_60 rfl rfl ?_
    exact px_iret C hRt dX2_nodesAbove_61 rfl rfl hk
  · replace hk := hk.2 c2
    refine px_iload_n (i := 3) C dX2_nodesAbove_54 rfl rfl ?_
    refine px_iconst (v := (1 : Int32)) C dX2_nodesAbove_55 rfl ?_
    refine px_iadd C dX2_nodesAbove_56 ?_
    refine px_goto (tgt := 61) C dX2_nodesAbove_57 (by decide) ?_
    exact px_iret C hRt dX2_nodesAbove_61 rfl rfl hk
set_option maxRecDepth 100000 in
set_option maxHeartbeats 4000000 in
theorem w2_nodesAbove_b7_ok {G : GT} {P : Int32 → Mem → Prop} {X : String → Mem → Prop} (C : PCx G cX2_nodesAbove 5 RX2) (hRt : PRt G (some .int) (qI P) X) (hHR : HR G (1)) (hnT : NoT G) {μ : Mem} {l2 : Int32} {l3 : Int32} {l4 : Int32} (hk : w2_nodesAbove_b7 P μ l2 l3 l4) : PW G 0 0 7 [some (pR 18 0), none, some (pI l2), some (pI l3), some (pI l4)] [] μ := by
  refine hk (fun (μ : Mem) (l2 : Int32) (l3 : Int32) (l4 : Int32) => PW G 0 0 7 [some (pR 18 0), none, some (pI l2), some (pI l3), some (pI l4)] [] μ) (fun (μ : Mem) l2 l3 l4 hk => ?_)
  have hR7 : ∀ (μ : Mem) (l2 : Int32) (l3 : Int32) (l4 : Int32), PW G 0 0 7 [some (pR 18 0), none, some (pI l2), some (pI l3), some (pI l4)] [] μ → PW G 0 0 7 [some (pR 18 0), none, some (pI l2), some (pI l3), some (pI l4)] [] μ := fun _ _ _ _ h => h
  unfold w2_nodesAbove_b7_body at hk
  refine px_iload (i := 4) C dX2_nodesAbove_7 rfl ?_
  refine px_bipush (v := (40 : Int32)) C dX2_nodesAbove_9 rfl ?_
  refine px_icmp_ge (tgt := 44) C dX2_nodesAbove_11 (by decide) (fun c8 => ?_) (fun c8 => ?_)
  · replace hk := hk.1 c8
    exact PW_at (w2_nodesAbove_b44_ok C hRt hHR hnT hk) (And.intro rfl (And.intro rfl (And.intro rfl trivial))) (Nat.le_of_ble_eq_true rfl) (Nat.le_of_ble_eq_true rfl)
  · replace hk := hk.2 c8
    refine px_aload_n (i := 0) C dX2_nodesAbove_14 rfl rfl ?_
    refine px_getr C dX2_nodesAbove_15 fl_RX2_24 rfl rfl rfl ?_
    refine px_iload_n (i := 2) C dX2_nodesAbove_18 rfl rfl ?_
    obtain ⟨o3, hk⟩ := hk
    refine px_iald 1472 C dX2_nodesAbove_19 rfl rfl rfl rfl o3 ?_
    refine px_bipush (v := (40 : Int32)) C dX2_nodesAbove_20 rfl ?_
    refine px_callSNi (h := 0) (rc' := 0) (rs' := 0) C (HR_le hHR (Nat.le_of_ble_eq_true rfl)) hRt hnT dX2_nodesAbove_22 (List.mem_append_right _ (List.mem_append_left _ (List.mem_of_getElem? (i := 4) rfl))) ms_X8_isWithin (w8_isWithin_ok (PCx_l C) (PCx_I C) hk) rfl rfl (Nat.le_of_ble_eq_true rfl) (Nat.le_of_ble_eq_true rfl) (Nat.le_of_ble_eq_true rfl) (Nat.le_of_ble_eq_true rfl) ?_
    intro r5 μ4 hk
    refine px_if_eq (tgt := 44) C dX2_nodesAbove_25 (by decide) (fun c7 => ?_) (fun c7 => ?_)
    · replace hk := hk.1 c7
      exact PW_at (w2_nodesAbove_b44_ok C hRt hHR hnT hk) (And.intro rfl (And.intro rfl (And.intro rfl trivial))) (Nat.le_of_ble_eq_true rfl) (Nat.le_of_ble_eq_true rfl)
    · replace hk := hk.2 c7
      refine px_aload_n (i := 0) C dX2_nodesAbove_28 rfl rfl ?_
      refine px_getr C dX2_nodesAbove_29 fl_RX2_24 rfl rfl rfl ?_
      refine px_iload_n (i := 2) C dX2_nodesAbove_32 rfl rfl ?_
      obtain ⟨o6, hk⟩ := hk
      refine px_iald 1472 C dX2_nodesAbove_33 rfl rfl rfl rfl o6 ?_
      refine px_istore_n (i := 2) C dX2_nodesAbove_34 rfl (by decide) rfl ?_
      refine px_iinc (i := 3) (v := (1 : Int32)) C dX2_nodesAbove_35 rfl rfl (by decide) rfl ?_
      refine px_iinc (i := 4) (v := (1 : Int32)) C dX2_nodesAbove_38 rfl rfl (by decide) rfl ?_
      refine px_goto (tgt := 7) C dX2_nodesAbove_41 (by decide) ?_
      exact PW_at (hR7 _ _ _ _ hk) (And.intro rfl (And.intro rfl (And.intro rfl (And.intro rfl trivial)))) (Nat.le_of_ble_eq_true rfl) (Nat.le_of_ble_eq_true rfl)
set_option maxRecDepth 100000 in
set_option maxHeartbeats 4000000 in
theorem w2_nodesAbove_ok {l : Launch} {idx : List (Nat × Nat)} {μ : Mem} {a1 : Int32} {P : Int32 → Mem → Prop} {X : String → Mem → Prop} (hl : l.stackTraces = false) (hI : IdxOK idx) (hk : w2_nodesAbove_wp μ a1 P) : PMet l yX2_nodesAbove (.code yX2_nodesAbove cX2_nodesAbove 5 (some .int)) 1 0 0 idx [pR 18 0, pI a1] μ (qI P) X := by
  refine PMet_of mv_X2_nodesAbove.2.2.2.2.2.2 hl hI mv_X2_nodesAbove.2.2.2.1 rfl (Nat.le_of_ble_eq_true rfl) (fun G _ _ C hRt hHR hnT => ?_)
  show PW G 0 0 0 [some (pR 18 0), some (pI a1), none, none, none] [] μ
  unfold w2_nodesAbove_wp at hk
  refine px_iload_n (i := 1) C dX2_nodesAbove_0 rfl rfl ?_
  refine px_istore_n (i := 2) C dX2_nodesAbove_1 rfl (by decide) rfl ?_
  refine px_iconst (v := (0 : Int32)) C dX2_nodesAbove_2 rfl ?_
  refine px_istore_n (i := 3) C dX2_nodesAbove_3 rfl (by decide) rfl ?_
  refine px_iconst (v := (0 : Int32)) C dX2_nodesAbove_4 rfl ?_
  refine px_istore (i := 4) C dX2_nodesAbove_5 (by decide) rfl ?_
  exact PW_at (w2_nodesAbove_b7_ok C hRt hHR hnT hk) (And.intro rfl (And.intro rfl (And.intro rfl (And.intro rfl trivial)))) (Nat.le_of_ble_eq_true rfl) (Nat.le_of_ble_eq_true rfl)
theorem dX2_isDescendant_0 : decode cX2_isDescendant 0 = .ok (.iload_n 1, 1) := by decide +kernel
theorem dX2_isDescendant_1 : decode cX2_isDescendant 1 = .ok (.istore 4, 2) := by decide +kernel
theorem dX2_isDescendant_3 : decode cX2_isDescendant 3 = .ok (.iconst 0, 1) := by decide +kernel
theorem dX2_isDescendant_4 : decode cX2_isDescendant 4 = .ok (.istore 5, 2) := by decide +kernel
theorem dX2_isDescendant_6 : decode cX2_isDescendant 6 = .ok (.iload 5, 2) := by decide +kernel
theorem dX2_isDescendant_8 : decode cX2_isDescendant 8 = .ok (.bipush 40, 2) := by decide +kernel
theorem dX2_isDescendant_10 : decode cX2_isDescendant 10 = .ok (.if_icmp .ge 41, 3) := by decide +kernel
theorem dX2_isDescendant_13 : decode cX2_isDescendant 13 = .ok (.iload 4, 2) := by decide +kernel
theorem dX2_isDescendant_15 : decode cX2_isDescendant 15 = .ok (.bipush 40, 2) := by decide +kernel
theorem dX2_isDescendant_17 : decode cX2_isDescendant 17 = .ok (.invokestatic 54, 3) := by decide +kernel
theorem dX2_isDescendant_20 : decode cX2_isDescendant 20 = .ok (.ifCond .eq 31, 3) := by decide +kernel
theorem dX2_isDescendant_23 : decode cX2_isDescendant 23 = .ok (.aload_n 0, 1) := by decide +kernel
theorem dX2_isDescendant_24 : decode cX2_isDescendant 24 = .ok (.iload 4, 2) := by decide +kernel
theorem dX2_isDescendant_26 : decode cX2_isDescendant 26 = .ok (.iload_n 2, 1) := by decide +kernel
theorem dX2_isDescendant_27 : decode cX2_isDescendant 27 = .ok (.iload_n 3, 1) := by decide +kernel
theorem dX2_isDescendant_28 : decode cX2_isDescendant 28 = .ok (.invokevirtual 104, 3) := by decide +kernel
theorem dX2_isDescendant_31 : decode cX2_isDescendant 31 = .ok (.ifCond .eq 5, 3) := by decide +kernel
theorem dX2_isDescendant_34 : decode cX2_isDescendant 34 = .ok (.iconst 1, 1) := by decide +kernel
theorem dX2_isDescendant_35 : decode cX2_isDescendant 35 = .ok (.ireturn, 1) := by decide +kernel
theorem dX2_isDescendant_36 : decode cX2_isDescendant 36 = .ok (.aload_n 0, 1) := by decide +kernel
theorem dX2_isDescendant_37 : decode cX2_isDescendant 37 = .ok (.getfield 24, 3) := by decide +kernel
theorem dX2_isDescendant_40 : decode cX2_isDescendant 40 = .ok (.iload 4, 2) := by decide +kernel
theorem dX2_isDescendant_42 : decode cX2_isDescendant 42 = .ok (.iaload, 1) := by decide +kernel
theorem dX2_isDescendant_43 : decode cX2_isDescendant 43 = .ok (.istore 4, 2) := by decide +kernel
theorem dX2_isDescendant_45 : decode cX2_isDescendant 45 = .ok (.iinc 5 1, 3) := by decide +kernel
theorem dX2_isDescendant_48 : decode cX2_isDescendant 48 = .ok (.goto (-42), 3) := by decide +kernel
theorem dX2_isDescendant_51 : decode cX2_isDescendant 51 = .ok (.iconst 0, 1) := by decide +kernel
theorem dX2_isDescendant_52 : decode cX2_isDescendant 52 = .ok (.ireturn, 1) := by decide +kernel
set_option maxRecDepth 100000 in
set_option maxHeartbeats 4000000 in
theorem w2_isDescendant_b6_ok {G : GT} {P : Int32 → Mem → Prop} {X : String → Mem → Prop} (C : PCx G cX2_isDescendant 6 RX2) (hRt : PRt G (some .boolean) (qI P) X) (hHR : HR G (1)) (hnT : NoT G) {μ : Mem} {l2 : Int32} {l3 : Int32} {l4 : Int32} {l5 : Int32} (hk : w2_isDescendant_b6 P μ l2 l3 l4 l5) : PW G 0 0 6 [some (pR 18 0), none, some (pI l2), some (pI l3), some (pI l4), some (pI l5)] [] μ := by
  refine hk (fun (μ : Mem) (l2 : Int32) (l3 : Int32) (l4 : Int32) (l5 : Int32) => PW G 0 0 6 [some (pR 18 0), none, some (pI l2), some (pI l3), some (pI l4), some (pI l5)] [] μ) (fun (μ : Mem) l2 l3 l4 l5 hk => ?_)
  have hR6 : ∀ (μ : Mem) (l2 : Int32) (l3 : Int32) (l4 : Int32) (l5 : Int32), PW G 0 0 6 [some (pR 18 0), none, some (pI l2), some (pI l3), some (pI l4), some (pI l5)] [] μ → PW G 0 0 6 [some (pR 18 0), none, some (pI l2), some (pI l3), some (pI l4), some (pI l5)] [] μ := fun _ _ _ _ _ h => h
  unfold w2_isDescendant_b6_body at hk
  refine px_iload (i := 5) C dX2_isDescendant_6 rfl ?_
  refine px_bipush (v := (40 : Int32)) C dX2_isDescendant_8 rfl ?_
  refine px_icmp_ge (tgt := 51) C dX2_isDescendant_10 (by decide) (fun c8 => ?_) (fun c8 => ?_)
  · replace hk := hk.1 c8
    refine px_iconst (v := (0 : Int32)) C dX2_isDescendant_51 rfl ?_
    exact px_iret C hRt dX2_isDescendant_52 rfl rfl hk
  · replace hk := hk.2 c8
    refine px_iload (i := 4) C dX2_isDescendant_13 rfl ?_
    refine px_bipush (v := (40 : Int32)) C dX2_isDescendant_15 rfl ?_
    refine px_callSNi (h := 0) (rc' := 0) (rs' := 0) C (HR_le hHR (Nat.le_of_ble_eq_true rfl)) hRt hnT dX2_isDescendant_17 (List.mem_append_right _ (List.mem_append_left _ (List.mem_of_getElem? (i := 4) rfl))) ms_X8_isWithin (w8_isWithin_ok (PCx_l C) (PCx_I C) hk) rfl rfl (Nat.le_of_ble_eq_true rfl) (Nat.le_of_ble_eq_true rfl) (Nat.le_of_ble_eq_true rfl) (Nat.le_of_ble_eq_true rfl) ?_
    intro r2 μ1 hk
    refine px_if_eq (tgt := 51) C dX2_isDescendant_20 (by decide) (fun c7 => ?_) (fun c7 => ?_)
    · replace hk := hk.1 c7
      refine px_iconst (v := (0 : Int32)) C dX2_isDescendant_51 rfl ?_
      exact px_iret C hRt dX2_isDescendant_52 rfl rfl hk
    · replace hk := hk.2 c7
      refine px_aload_n (i := 0) C dX2_isDescendant_23 rfl rfl ?_
      refine px_iload (i := 4) C dX2_isDescendant_24 rfl ?_
      refine px_iload_n (i := 2) C dX2_isDescendant_26 rfl rfl ?_
      refine px_iload_n (i := 3) C dX2_isDescendant_27 rfl rfl ?_
      refine px_callVi (h := 0) (rc' := 0) (rs' := 0) C (HR_le hHR (Nat.le_of_ble_eq_true rfl)) hRt hnT dX2_isDescendant_28 (gw4 123 rfl rfl) mv_X2_isChild (w2_isChild_ok (PCx_l C) (PCx_I C) hk) rfl rfl rfl rfl rfl (Nat.le_of_ble_eq_true rfl) (Nat.le_of_ble_eq_true rfl) (Nat.le_of_ble_eq_true rfl) (Nat.le_of_ble_eq_true rfl) ?_
      intro r4 μ3 hk
      refine px_if_eq (tgt := 36) C dX2_isDescendant_31 (by decide) (fun c6 => ?_) (fun c6 => ?_)
      · replace hk := hk.1 c6
        refine px_aload_n (i := 0) C dX2_isDescendant_36 rfl rfl ?_
        refine px_getr C dX2_isDescendant_37 fl_RX2_24 rfl rfl rfl ?_
        refine px_iload (i := 4) C dX2_isDescendant_40 rfl ?_
        obtain ⟨o5, hk⟩ := hk
        refine px_iald 1472 C dX2_isDescendant_42 rfl rfl rfl rfl o5 ?_
        refine px_istore (i := 4) C dX2_isDescendant_43 (by decide) rfl ?_
        refine px_iinc (i := 5) (v := (1 : Int32)) C dX2_isDescendant_45 rfl rfl (by decide) rfl ?_
        refine px_goto (tgt := 6) C dX2_isDescendant_48 (by decide) ?_
        exact PW_at (hR6 _ _ _ _ _ hk) (And.intro rfl (And.intro rfl (And.intro rfl (And.intro rfl (And.intro rfl trivial))))) (Nat.le_of_ble_eq_true rfl) (Nat.le_of_ble_eq_true rfl)
      · replace hk := hk.2 c6
        refine px_iconst (v := (1 : Int32)) C dX2_isDescendant_34 rfl ?_
        exact px_iret C hRt dX2_isDescendant_35 rfl rfl hk
set_option maxRecDepth 100000 in
set_option maxHeartbeats 4000000 in
theorem w2_isDescendant_ok {l : Launch} {idx : List (Nat × Nat)} {μ : Mem} {a1 : Int32} {a2 : Int32} {a3 : Int32} {P : Int32 → Mem → Prop} {X : String → Mem → Prop} (hl : l.stackTraces = false) (hI : IdxOK idx) (hk : w2_isDescendant_wp μ a1 a2 a3 P) : PMet l yX2_isDescendant (.code yX2_isDescendant cX2_isDescendant 6 (some .boolean)) 1 0 0 idx [pR 18 0, pI a1, pI a2, pI a3] μ (qI P) X := by
  refine PMet_of mv_X2_isDescendant.2.2.2.2.2.2 hl hI mv_X2_isDescendant.2.2.2.1 rfl (Nat.le_of_ble_eq_true rfl) (fun G _ _ C hRt hHR hnT => ?_)
  show PW G 0 0 0 [some (pR 18 0), some (pI a1), some (pI a2), some (pI a3), none, none] [] μ
  unfold w2_isDescendant_wp at hk
  refine px_iload_n (i := 1) C dX2_isDescendant_0 rfl rfl ?_
  refine px_istore (i := 4) C dX2_isDescendant_1 (by decide) rfl ?_
  refine px_iconst (v := (0 : Int32)) C dX2_isDescendant_3 rfl ?_
  refine px_istore (i := 5) C dX2_isDescendant_4 (by decide) rfl ?_
  exact PW_at (w2_isDescendant_b6_ok C hRt hHR hnT hk) (And.intro rfl (And.intro rfl (And.intro rfl (And.intro rfl (And.intro rfl trivial))))) (Nat.le_of_ble_eq_true rfl) (Nat.le_of_ble_eq_true rfl)
theorem dX2_spansBelow_0 : decode cX2_spansBelow 0 = .ok (.iconst 0, 1) := by decide +kernel
theorem dX2_spansBelow_1 : decode cX2_spansBelow 1 = .ok (.istore_n 3, 1) := by decide +kernel
theorem dX2_spansBelow_2 : decode cX2_spansBelow 2 = .ok (.iconst 0, 1) := by decide +kernel
theorem dX2_spansBelow_3 : decode cX2_spansBelow 3 = .ok (.istore 4, 2) := by decide +kernel
theorem dX2_spansBelow_5 : decode cX2_spansBelow 5 = .ok (.iload 4, 2) := by decide +kernel
theorem dX2_spansBelow_7 : decode cX2_spansBelow 7 = .ok (.aload_n 0, 1) := by decide +kernel
theorem dX2_spansBelow_8 : decode cX2_spansBelow 8 = .ok (.getfield 37, 3) := by decide +kernel
theorem dX2_spansBelow_11 : decode cX2_spansBelow 11 = .ok (.getfield 45, 3) := by decide +kernel
theorem dX2_spansBelow_14 : decode cX2_spansBelow 14 = .ok (.if_icmp .ge 23, 3) := by decide +kernel
theorem dX2_spansBelow_17 : decode cX2_spansBelow 17 = .ok (.aload_n 0, 1) := by decide +kernel
theorem dX2_spansBelow_18 : decode cX2_spansBelow 18 = .ok (.iload 4, 2) := by decide +kernel
theorem dX2_spansBelow_20 : decode cX2_spansBelow 20 = .ok (.iload_n 1, 1) := by decide +kernel
theorem dX2_spansBelow_21 : decode cX2_spansBelow 21 = .ok (.iload_n 2, 1) := by decide +kernel
theorem dX2_spansBelow_22 : decode cX2_spansBelow 22 = .ok (.invokevirtual 108, 3) := by decide +kernel
theorem dX2_spansBelow_25 : decode cX2_spansBelow 25 = .ok (.ifCond .eq 6, 3) := by decide +kernel
theorem dX2_spansBelow_28 : decode cX2_spansBelow 28 = .ok (.iinc 3 1, 3) := by decide +kernel
theorem dX2_spansBelow_31 : decode cX2_spansBelow 31 = .ok (.iinc 4 1, 3) := by decide +kernel
theorem dX2_spansBelow_34 : decode cX2_spansBelow 34 = .ok (.goto (-29), 3) := by decide +kernel
theorem dX2_spansBelow_37 : decode cX2_spansBelow 37 = .ok (.iload_n 3, 1) := by decide +kernel
theorem dX2_spansBelow_38 : decode cX2_spansBelow 38 = .ok (.ireturn, 1) := by decide +kernel
set_option maxRecDepth 100000 in
set_option maxHeartbeats 4000000 in
theorem w2_spansBelow_b5_ok {G : GT} {P : Int32 → Mem → Prop} {X : String → Mem → Prop} (C : PCx G cX2_spansBelow 5 RX2) (hRt : PRt G (some .int) (qI P) X) (hHR : HR G (2)) (hnT : NoT G) {μ : Mem} {l1 : Int32} {l2 : Int32} {l3 : Int32} {l4 : Int32} (hk : w2_spansBelow_b5 P μ l1 l2 l3 l4) : PW G 0 0 5 [some (pR 18 0), some (pI l1), some (pI l2), some (pI l3), some (pI l4)] [] μ := by
  refine hk (fun (μ : Mem) (l1 : Int32) (l2 : Int32) (l3 : Int32) (l4 : Int32) => PW G 0 0 5 [some (pR 18 0), some (pI l1), some (pI l2), some (pI l3), some (pI l4)] [] μ) (fun (μ : Mem) l1 l2 l3 l4 hk => ?_)
  have hR5 : ∀ (μ : Mem) (l1 : Int32) (l2 : Int32) (l3 : Int32) (l4 : Int32), PW G 0 0 5 [some (pR 18 0), some (pI l1), some (pI l2), some (pI l3), some (pI l4)] [] μ → PW G 0 0 5 [some (pR 18 0), some (pI l1), some (pI l2), some (pI l3), some (pI l4)] [] μ := fun _ _ _ _ _ h => h
  unfold w2_spansBelow_b5_body at hk
  refine px_iload (i := 4) C dX2_spansBelow_5 rfl ?_
  refine px_aload_n (i := 0) C dX2_spansBelow_7 rfl rfl ?_
  refine px_getr C dX2_spansBelow_8 fl_RX2_37 rfl rfl rfl ?_
  refine px_geti 1 C dX2_spansBelow_11 fl_RX2_45 rfl rfl rfl rfl ?_
  refine px_icmp_ge (tgt := 37) C dX2_spansBelow_14 (by decide) (fun c4 => ?_) (fun c4 => ?_)
  · replace hk := hk.1 c4
    refine px_iload_n (i := 3) C dX2_spansBelow_37 rfl rfl ?_
    exact px_iret C hRt dX2_spansBelow_38 rfl rfl hk
  · replace hk := hk.2 c4
    refine px_aload_n (i := 0) C dX2_spansBelow_17 rfl rfl ?_
    refine px_iload (i := 4) C dX2_spansBelow_18 rfl ?_
    refine px_iload_n (i := 1) C dX2_spansBelow_20 rfl rfl ?_
    refine px_iload_n (i := 2) C dX2_spansBelow_21 rfl rfl ?_
    refine px_callVi (h := 1) (rc' := 0) (rs' := 0) C (HR_le hHR (Nat.le_of_ble_eq_true rfl)) hRt hnT dX2_spansBelow_22 (gw4 132 rfl rfl) mv_X2_isDescendant (w2_isDescendant_ok (PCx_l C) (PCx_I C) hk) rfl rfl rfl rfl rfl (Nat.le_of_ble_eq_true rfl) (Nat.le_of_ble_eq_true rfl) (Nat.le_of_ble_eq_true rfl) (Nat.le_of_ble_eq_true rfl) ?_
    intro r2 μ1 hk
    refine px_if_eq (tgt := 31) C dX2_spansBelow_25 (by decide) (fun c3 => ?_) (fun c3 => ?_)
    · replace hk := hk.1 c3
      refine px_iinc (i := 4) (v := (1 : Int32)) C dX2_spansBelow_31 rfl rfl (by decide) rfl ?_
      refine px_goto (tgt := 5) C dX2_spansBelow_34 (by decide) ?_
      exact PW_at (hR5 _ _ _ _ _ hk) (And.intro rfl (And.intro rfl (And.intro rfl (And.intro rfl (And.intro rfl trivial))))) (Nat.le_of_ble_eq_true rfl) (Nat.le_of_ble_eq_true rfl)
    · replace hk := hk.2 c3
      refine px_iinc (i := 3) (v := (1 : Int32)) C dX2_spansBelow_28 rfl rfl (by decide) rfl ?_
      refine px_iinc (i := 4) (v := (1 : Int32)) C dX2_spansBelow_31 rfl rfl (by decide) rfl ?_
      refine px_goto (tgt := 5) C dX2_spansBelow_34 (by decide) ?_
      exact PW_at (hR5 _ _ _ _ _ hk) (And.intro rfl (And.intro rfl (And.intro rfl (And.intro rfl (And.intro rfl trivial))))) (Nat.le_of_ble_eq_true rfl) (Nat.le_of_ble_eq_true rfl)
set_option maxRecDepth 100000 in
set_option maxHeartbeats 4000000 in
theorem w2_spansBelow_ok {l : Launch} {idx : List (Nat × Nat)} {μ : Mem} {a1 : Int32} {a2 : Int32} {P : Int32 → Mem → Prop} {X : String → Mem → Prop} (hl : l.stackTraces = false) (hI : IdxOK idx) (hk : w2_spansBelow_wp μ a1 a2 P) : PMet l yX2_spansBelow (.code yX2_spansBelow cX2_spansBelow 5 (some .int)) 2 0 0 idx [pR 18 0, pI a1, pI a2] μ (qI P) X := by
  refine PMet_of mv_X2_spansBelow.2.2.2.2.2.2 hl hI mv_X2_spansBelow.2.2.2.1 rfl (Nat.le_of_ble_eq_true rfl) (fun G _ _ C hRt hHR hnT => ?_)
  show PW G 0 0 0 [some (pR 18 0), some (pI a1), some (pI a2), none, none] [] μ
  unfold w2_spansBelow_wp at hk
  refine px_iconst (v := (0 : Int32)) C dX2_spansBelow_0 rfl ?_
  refine px_istore_n (i := 3) C dX2_spansBelow_1 rfl (by decide) rfl ?_
  refine px_iconst (v := (0 : Int32)) C dX2_spansBelow_2 rfl ?_
  refine px_istore (i := 4) C dX2_spansBelow_3 (by decide) rfl ?_
  exact PW_at (w2_spansBelow_b5_ok C hRt hHR hnT hk) (And.intro rfl (And.intro rfl (And.intro rfl (And.intro rfl (And.intro rfl trivial))))) (Nat.le_of_ble_eq_true rfl) (Nat.le_of_ble_eq_true rfl)
theorem dX2_isNode_0 : decode cX2_isNode 0 = .ok (.aload_n 0, 1) := by decide +kernel
theorem dX2_isNode_1 : decode cX2_isNode 1 = .ok (.getfield 37, 3) := by decide +kernel
theorem dX2_isNode_4 : decode cX2_isNode 4 = .ok (.iload_n 2, 1) := by decide +kernel
theorem dX2_isNode_5 : decode cX2_isNode 5 = .ok (.invokevirtual 115, 3) := by decide +kernel
theorem dX2_isNode_8 : decode cX2_isNode 8 = .ok (.istore_n 3, 1) := by decide +kernel
theorem dX2_isNode_9 : decode cX2_isNode 9 = .ok (.iload_n 3, 1) := by decide +kernel
theorem dX2_isNode_10 : decode cX2_isNode 10 = .ok (.iconst (-1), 1) := by decide +kernel
theorem dX2_isNode_11 : decode cX2_isNode 11 = .ok (.if_icmp .ne 12, 3) := by decide +kernel
theorem dX2_isNode_14 : decode cX2_isNode 14 = .ok (.aload_n 0, 1) := by decide +kernel
theorem dX2_isNode_15 : decode cX2_isNode 15 = .ok (.iload_n 1, 1) := by decide +kernel
theorem dX2_isNode_16 : decode cX2_isNode 16 = .ok (.iload_n 2, 1) := by decide +kernel
theorem dX2_isNode_17 : decode cX2_isNode 17 = .ok (.invokevirtual 118, 3) := by decide +kernel
theorem dX2_isNode_20 : decode cX2_isNode 20 = .ok (.goto 21, 3) := by decide +kernel
theorem dX2_isNode_23 : decode cX2_isNode 23 = .ok (.aload_n 0, 1) := by decide +kernel
theorem dX2_isNode_24 : decode cX2_isNode 24 = .ok (.getfield 37, 3) := by decide +kernel
theorem dX2_isNode_27 : decode cX2_isNode 27 = .ok (.getfield 101, 3) := by decide +kernel
theorem dX2_isNode_30 : decode cX2_isNode 30 = .ok (.iload_n 3, 1) := by decide +kernel
theorem dX2_isNode_31 : decode cX2_isNode 31 = .ok (.iaload, 1) := by decide +kernel
theorem dX2_isNode_32 : decode cX2_isNode 32 = .ok (.iload_n 1, 1) := by decide +kernel
theorem dX2_isNode_33 : decode cX2_isNode 33 = .ok (.if_icmp .ne 7, 3) := by decide +kernel
theorem dX2_isNode_36 : decode cX2_isNode 36 = .ok (.iconst 1, 1) := by decide +kernel
theorem dX2_isNode_37 : decode cX2_isNode 37 = .ok (.goto 4, 3) := by decide +kernel
theorem dX2_isNode_40 : decode cX2_isNode 40 = .ok (.iconst 0, 1) := by decide +kernel
theorem dX2_isNode_41 : decode cX2_isNode 41 = .ok (.ireturn, 1) := by decide +kernel
set_option maxRecDepth 100000 in
set_option maxHeartbeats 4000000 in
theorem w2_isNode_ok {l : Launch} {idx : List (Nat × Nat)} {μ : Mem} {a1 : Int32} {a2 : Int32} {P : Int32 → Mem → Prop} {X : String → Mem → Prop} (hl : l.stackTraces = false) (hI : IdxOK idx) (hk : w2_isNode_wp μ a1 a2 P) : PMet l yX2_isNode (.code yX2_isNode cX2_isNode 4 (some .boolean)) 3 0 0 idx [pR 18 0, pI a1, pI a2] μ (qI P) X := by
  refine PMet_of mv_X2_isNode.2.2.2.2.2.2 hl hI mv_X2_isNode.2.2.2.1 rfl (Nat.le_of_ble_eq_true rfl) (fun G _ _ C hRt hHR hnT => ?_)
  show PW G 0 0 0 [some (pR 18 0), some (pI a1), some (pI a2), none] [] μ
  unfold w2_isNode_wp at hk
  refine px_aload_n (i := 0) C dX2_isNode_0 rfl rfl ?_
  refine px_getr C dX2_isNode_1 fl_RX2_37 rfl rfl rfl ?_
  refine px_iload_n (i := 2) C dX2_isNode_4 rfl rfl ?_
  refine px_callVi (h := 0) (rc' := 0) (rs' := 0) C (HR_le hHR (Nat.le_of_ble_eq_true rfl)) hRt hnT dX2_isNode_5 (gw4 114 rfl rfl) mv_X7_find (w7_find_ok (PCx_l C) (PCx_I C) hk) rfl rfl rfl rfl rfl (Nat.le_of_ble_eq_true rfl) (Nat.le_of_ble_eq_true rfl) (Nat.le_of_ble_eq_true rfl) (Nat.le_of_ble_eq_true rfl) ?_
  intro r2 μ1 hk
  refine px_istore_n (i := 3) C dX2_isNode_8 rfl (by decide) rfl ?_
  refine px_iload_n (i := 3) C dX2_isNode_9 rfl rfl ?_
  refine px_iconst (v := (-1 : Int32)) C dX2_isNode_10 rfl ?_
  refine px_icmp_ne (tgt := 23) C dX2_isNode_11 (by decide) (fun c8 => ?_) (fun c8 => ?_)
  · replace hk := hk.1 c8
    refine px_aload_n (i := 0) C dX2_isNode_23 rfl rfl ?_
    refine px_getr C dX2_isNode_24 fl_RX2_37 rfl rfl rfl ?_
    refine px_getr C dX2_isNode_27 fl_RX2_101 rfl rfl rfl ?_
    refine px_iload_n (i := 3) C dX2_isNode_30 rfl rfl ?_
    obtain ⟨o3, hk⟩ := hk
    refine px_iald 64 C dX2_isNode_31 rfl rfl rfl rfl o3 ?_
    refine px_iload_n (i := 1) C dX2_isNode_32 rfl rfl ?_
    refine px_icmp_ne (tgt := 40) C dX2_isNode_33 (by decide) (fun c4 => ?_) (fun c4 => ?_)
    · replace hk := hk.1 c4
      refine px_iconst (v := (0 : Int32)) C dX2_isNode_40 rfl ?_
      exact px_iret C hRt dX2_isNode_41 rfl rfl hk
    · replace hk := hk.2 c4
      refine px_iconst (v := (1 : Int32)) C dX2_isNode_36 rfl ?_
      refine px_goto (tgt := 41) C dX2_isNode_37 (by decide) ?_
      exact px_iret C hRt dX2_isNode_41 rfl rfl hk
  · replace hk := hk.2 c8
    refine px_aload_n (i := 0) C dX2_isNode_14 rfl rfl ?_
    refine px_iload_n (i := 1) C dX2_isNode_15 rfl rfl ?_
    refine px_iload_n (i := 2) C dX2_isNode_16 rfl rfl ?_
    refine px_callVi (h := 2) (rc' := 0) (rs' := 0) C (HR_le hHR (Nat.le_of_ble_eq_true rfl)) hRt hnT dX2_isNode_17 (gw4 115 rfl rfl) mv_X2_isPlaceholder (w2_isPlaceholder_ok (PCx_l C) (PCx_I C) hk) rfl rfl rfl rfl rfl (Nat.le_of_ble_eq_true rfl) (Nat.le_of_ble_eq_true rfl) (Nat.le_of_ble_eq_true rfl) (Nat.le_of_ble_eq_true rfl) ?_
    intro r6 μ5 hk
    refine px_goto (tgt := 41) C dX2_isNode_20 (by decide) ?_
    obtain ⟨o7, hk⟩ := hk
    exact px_iret C hRt dX2_isNode_41 (nar_z o7) rfl hk
theorem dX2_nodeBegin_0 : decode cX2_nodeBegin 0 = .ok (.aload_n 0, 1) := by decide +kernel
theorem dX2_nodeBegin_1 : decode cX2_nodeBegin 1 = .ok (.getfield 37, 3) := by decide +kernel
theorem dX2_nodeBegin_4 : decode cX2_nodeBegin 4 = .ok (.iload_n 2, 1) := by decide +kernel
theorem dX2_nodeBegin_5 : decode cX2_nodeBegin 5 = .ok (.invokevirtual 115, 3) := by decide +kernel
theorem dX2_nodeBegin_8 : decode cX2_nodeBegin 8 = .ok (.istore_n 3, 1) := by decide +kernel
theorem dX2_nodeBegin_9 : decode cX2_nodeBegin 9 = .ok (.iload_n 3, 1) := by decide +kernel
theorem dX2_nodeBegin_10 : decode cX2_nodeBegin 10 = .ok (.iconst (-1), 1) := by decide +kernel
theorem dX2_nodeBegin_11 : decode cX2_nodeBegin 11 = .ok (.if_icmp .eq 10, 3) := by decide +kernel
theorem dX2_nodeBegin_14 : decode cX2_nodeBegin 14 = .ok (.aload_n 0, 1) := by decide +kernel
theorem dX2_nodeBegin_15 : decode cX2_nodeBegin 15 = .ok (.getfield 9, 3) := by decide +kernel
theorem dX2_nodeBegin_18 : decode cX2_nodeBegin 18 = .ok (.iload_n 3, 1) := by decide +kernel
theorem dX2_nodeBegin_19 : decode cX2_nodeBegin 19 = .ok (.iaload, 1) := by decide +kernel
theorem dX2_nodeBegin_20 : decode cX2_nodeBegin 20 = .ok (.ireturn, 1) := by decide +kernel
theorem dX2_nodeBegin_21 : decode cX2_nodeBegin 21 = .ok (.ldc 121, 2) := by decide +kernel
theorem dX2_nodeBegin_23 : decode cX2_nodeBegin 23 = .ok (.istore 4, 2) := by decide +kernel
theorem dX2_nodeBegin_25 : decode cX2_nodeBegin 25 = .ok (.iconst 0, 1) := by decide +kernel
theorem dX2_nodeBegin_26 : decode cX2_nodeBegin 26 = .ok (.istore 5, 2) := by decide +kernel
theorem dX2_nodeBegin_28 : decode cX2_nodeBegin 28 = .ok (.iload 5, 2) := by decide +kernel
theorem dX2_nodeBegin_30 : decode cX2_nodeBegin 30 = .ok (.aload_n 0, 1) := by decide +kernel
theorem dX2_nodeBegin_31 : decode cX2_nodeBegin 31 = .ok (.getfield 37, 3) := by decide +kernel
theorem dX2_nodeBegin_34 : decode cX2_nodeBegin 34 = .ok (.getfield 45, 3) := by decide +kernel
theorem dX2_nodeBegin_37 : decode cX2_nodeBegin 37 = .ok (.if_icmp .ge 34, 3) := by decide +kernel
theorem dX2_nodeBegin_40 : decode cX2_nodeBegin 40 = .ok (.aload_n 0, 1) := by decide +kernel
theorem dX2_nodeBegin_41 : decode cX2_nodeBegin 41 = .ok (.iload 5, 2) := by decide +kernel
theorem dX2_nodeBegin_43 : decode cX2_nodeBegin 43 = .ok (.iload_n 1, 1) := by decide +kernel
theorem dX2_nodeBegin_44 : decode cX2_nodeBegin 44 = .ok (.iload_n 2, 1) := by decide +kernel
theorem dX2_nodeBegin_45 : decode cX2_nodeBegin 45 = .ok (.invokevirtual 104, 3) := by decide +kernel
theorem dX2_nodeBegin_48 : decode cX2_nodeBegin 48 = .ok (.ifCond .eq 17, 3) := by decide +kernel
theorem dX2_nodeBegin_51 : decode cX2_nodeBegin 51 = .ok (.iload 4, 2) := by decide +kernel
theorem dX2_nodeBegin_53 : decode cX2_nodeBegin 53 = .ok (.aload_n 0, 1) := by decide +kernel
theorem dX2_nodeBegin_54 : decode cX2_nodeBegin 54 = .ok (.getfield 9, 3) := by decide +kernel
theorem dX2_nodeBegin_57 : decode cX2_nodeBegin 57 = .ok (.iload 5, 2) := by decide +kernel
theorem dX2_nodeBegin_59 : decode cX2_nodeBegin 59 = .ok (.iaload, 1) := by decide +kernel
theorem dX2_nodeBegin_60 : decode cX2_nodeBegin 60 = .ok (.invokestatic 122, 3) := by decide +kernel
theorem dX2_nodeBegin_63 : decode cX2_nodeBegin 63 = .ok (.istore 4, 2) := by decide +kernel
theorem dX2_nodeBegin_65 : decode cX2_nodeBegin 65 = .ok (.iinc 5 1, 3) := by decide +kernel
theorem dX2_nodeBegin_68 : decode cX2_nodeBegin 68 = .ok (.goto (-40), 3) := by decide +kernel
theorem dX2_nodeBegin_71 : decode cX2_nodeBegin 71 = .ok (.iload 4, 2) := by decide +kernel
theorem dX2_nodeBegin_73 : decode cX2_nodeBegin 73 = .ok (.ireturn, 1) := by decide +kernel
set_option maxRecDepth 100000 in
set_option maxHeartbeats 4000000 in
theorem w2_nodeBegin_b28_ok {G : GT} {P : Int32 → Mem → Prop} {X : String → Mem → Prop} (C : PCx G cX2_nodeBegin 6 RX2) (hRt : PRt G (some .int) (qI P) X) (hHR : HR G (1)) (hnT : NoT G) {μ : Mem} {l1 : Int32} {l2 : Int32} {l4 : Int32} {l5 : Int32} (hk : w2_nodeBegin_b28 P μ l1 l2 l4 l5) : PW G 0 0 28 [some (pR 18 0), some (pI l1), some (pI l2), none, some (pI l4), some (pI l5)] [] μ := by
  refine hk (fun (μ : Mem) (l1 : Int32) (l2 : Int32) (l4 : Int32) (l5 : Int32) => PW G 0 0 28 [some (pR 18 0), some (pI l1), some (pI l2), none, some (pI l4), some (pI l5)] [] μ) (fun (μ : Mem) l1 l2 l4 l5 hk => ?_)
  have hR28 : ∀ (μ : Mem) (l1 : Int32) (l2 : Int32) (l4 : Int32) (l5 : Int32), PW G 0 0 28 [some (pR 18 0), some (pI l1), some (pI l2), none, some (pI l4), some (pI l5)] [] μ → PW G 0 0 28 [some (pR 18 0), some (pI l1), some (pI l2), none, some (pI l4), some (pI l5)] [] μ := fun _ _ _ _ _ h => h
  unfold w2_nodeBegin_b28_body at hk
  refine px_iload (i := 5) C dX2_nodeBegin_28 rfl ?_
  refine px_aload_n (i := 0) C dX2_nodeBegin_30 rfl rfl ?_
  refine px_getr C dX2_nodeBegin_31 fl_RX2_37 rfl rfl rfl ?_
  refine px_geti 1 C dX2_nodeBegin_34 fl_RX2_45 rfl rfl rfl rfl ?_
  refine px_icmp_ge (tgt := 71) C dX2_nodeBegin_37 (by decide) (fun c7 => ?_) (fun c7 => ?_)
  · replace hk := hk.1 c7
    refine px_iload (i := 4) C dX2_nodeBegin_71 rfl ?_
    exact px_iret C hRt dX2_nodeBegin_73 rfl rfl hk
  · replace hk := hk.2 c7
    refine px_aload_n (i := 0) C dX2_nodeBegin_40 rfl rfl ?_
    refine px_iload (i := 5) C dX2_nodeBegin_41 rfl ?_
    refine px_iload_n (i := 1) C dX2_nodeBegin_43 rfl rfl ?_
    refine px_iload_n (i := 2) C dX2_nodeBegin_44 rfl rfl ?_
    refine px_callVi (h := 0) (rc' := 0) (rs' := 0) C (HR_le hHR (Nat.le_of_ble_eq_true rfl)) hRt hnT dX2_nodeBegin_45 (gw4 123 rfl rfl) mv_X2_isChild (w2_isChild_ok (PCx_l C) (PCx_I C) hk) rfl rfl rfl rfl rfl (Nat.le_of_ble_eq_true rfl) (Nat.le_of_ble_eq_true rfl) (Nat.le_of_ble_eq_true rfl) (Nat.le_of_ble_eq_true rfl) ?_
    intro r4 μ3 hk
    refine px_if_eq (tgt := 65) C dX2_nodeBegin_48 (by decide) (fun c6 => ?_) (fun c6 => ?_)
    · replace hk := hk.1 c6
      refine px_iinc (i := 5) (v := (1 : Int32)) C dX2_nodeBegin_65 rfl rfl (by decide) rfl ?_
      refine px_goto (tgt := 28) C dX2_nodeBegin_68 (by decide) ?_
      exact PW_at (hR28 _ _ _ _ _ hk) (And.intro rfl (And.intro rfl (And.intro rfl (And.intro rfl (And.intro rfl trivial))))) (Nat.le_of_ble_eq_true rfl) (Nat.le_of_ble_eq_true rfl)
    · replace hk := hk.2 c6
      refine px_iload (i := 4) C dX2_nodeBegin_51 rfl ?_
      refine px_aload_n (i := 0) C dX2_nodeBegin_53 rfl rfl ?_
      refine px_getr C dX2_nodeBegin_54 fl_RX2_9 rfl rfl rfl ?_
      refine px_iload (i := 5) C dX2_nodeBegin_57 rfl ?_
      obtain ⟨o5, hk⟩ := hk
      refine px_iald 1216 C dX2_nodeBegin_59 rfl rfl rfl rfl o5 ?_
      refine px_mmin C (HR_le hHR (Nat.le_of_ble_eq_true rfl)) dX2_nodeBegin_60 (gw4 204 rfl rfl) math_min (Nat.le_of_ble_eq_true rfl) ?_
      refine px_istore (i := 4) C dX2_nodeBegin_63 (by decide) rfl ?_
      refine px_iinc (i := 5) (v := (1 : Int32)) C dX2_nodeBegin_65 rfl rfl (by decide) rfl ?_
      refine px_goto (tgt := 28) C dX2_nodeBegin_68 (by decide) ?_
      exact PW_at (hR28 _ _ _ _ _ hk) (And.intro rfl (And.intro rfl (And.intro rfl (And.intro rfl (And.intro rfl trivial))))) (Nat.le_of_ble_eq_true rfl) (Nat.le_of_ble_eq_true rfl)
set_option maxRecDepth 100000 in
set_option maxHeartbeats 4000000 in
theorem w2_nodeBegin_ok {l : Launch} {idx : List (Nat × Nat)} {μ : Mem} {a1 : Int32} {a2 : Int32} {P : Int32 → Mem → Prop} {X : String → Mem → Prop} (hl : l.stackTraces = false) (hI : IdxOK idx) (hk : w2_nodeBegin_wp μ a1 a2 P) : PMet l yX2_nodeBegin (.code yX2_nodeBegin cX2_nodeBegin 6 (some .int)) 1 0 0 idx [pR 18 0, pI a1, pI a2] μ (qI P) X := by
  refine PMet_of mv_X2_nodeBegin.2.2.2.2.2.2 hl hI mv_X2_nodeBegin.2.2.2.1 rfl (Nat.le_of_ble_eq_true rfl) (fun G _ _ C hRt hHR hnT => ?_)
  show PW G 0 0 0 [some (pR 18 0), some (pI a1), some (pI a2), none, none, none] [] μ
  unfold w2_nodeBegin_wp at hk
  refine px_aload_n (i := 0) C dX2_nodeBegin_0 rfl rfl ?_
  refine px_getr C dX2_nodeBegin_1 fl_RX2_37 rfl rfl rfl ?_
  refine px_iload_n (i := 2) C dX2_nodeBegin_4 rfl rfl ?_
  refine px_callVi (h := 0) (rc' := 0) (rs' := 0) C (HR_le hHR (Nat.le_of_ble_eq_true rfl)) hRt hnT dX2_nodeBegin_5 (gw4 114 rfl rfl) mv_X7_find (w7_find_ok (PCx_l C) (PCx_I C) hk) rfl rfl rfl rfl rfl (Nat.le_of_ble_eq_true rfl) (Nat.le_of_ble_eq_true rfl) (Nat.le_of_ble_eq_true rfl) (Nat.le_of_ble_eq_true rfl) ?_
  intro r2 μ1 hk
  refine px_istore_n (i := 3) C dX2_nodeBegin_8 rfl (by decide) rfl ?_
  refine px_iload_n (i := 3) C dX2_nodeBegin_9 rfl rfl ?_
  refine px_iconst (v := (-1 : Int32)) C dX2_nodeBegin_10 rfl ?_
  refine px_icmp_eq (tgt := 21) C dX2_nodeBegin_11 (by decide) (fun c9 => ?_) (fun c9 => ?_)
  · replace hk := hk.1 c9
    refine px_ldc (v := (1000000 : Int32)) C dX2_nodeBegin_21 (gw4 203 rfl rfl) ?_
    refine px_istore (i := 4) C dX2_nodeBegin_23 (by decide) rfl ?_
    refine px_iconst (v := (0 : Int32)) C dX2_nodeBegin_25 rfl ?_
    refine px_istore (i := 5) C dX2_nodeBegin_26 (by decide) rfl ?_
    exact PW_at (w2_nodeBegin_b28_ok C hRt hHR hnT hk) (And.intro rfl (And.intro rfl (And.intro rfl (And.intro rfl (And.intro rfl trivial))))) (Nat.le_of_ble_eq_true rfl) (Nat.le_of_ble_eq_true rfl)
  · replace hk := hk.2 c9
    refine px_aload_n (i := 0) C dX2_nodeBegin_14 rfl rfl ?_
    refine px_getr C dX2_nodeBegin_15 fl_RX2_9 rfl rfl rfl ?_
    refine px_iload_n (i := 3) C dX2_nodeBegin_18 rfl rfl ?_
    obtain ⟨o8, hk⟩ := hk
    refine px_iald 1216 C dX2_nodeBegin_19 rfl rfl rfl rfl o8 ?_
    exact px_iret C hRt dX2_nodeBegin_20 rfl rfl hk
theorem dX2_nodeEnd_0 : decode cX2_nodeEnd 0 = .ok (.aload_n 0, 1) := by decide +kernel
theorem dX2_nodeEnd_1 : decode cX2_nodeEnd 1 = .ok (.getfield 37, 3) := by decide +kernel
theorem dX2_nodeEnd_4 : decode cX2_nodeEnd 4 = .ok (.iload_n 2, 1) := by decide +kernel
theorem dX2_nodeEnd_5 : decode cX2_nodeEnd 5 = .ok (.invokevirtual 115, 3) := by decide +kernel
theorem dX2_nodeEnd_8 : decode cX2_nodeEnd 8 = .ok (.istore_n 3, 1) := by decide +kernel
theorem dX2_nodeEnd_9 : decode cX2_nodeEnd 9 = .ok (.iload_n 3, 1) := by decide +kernel
theorem dX2_nodeEnd_10 : decode cX2_nodeEnd 10 = .ok (.iconst (-1), 1) := by decide +kernel
theorem dX2_nodeEnd_11 : decode cX2_nodeEnd 11 = .ok (.if_icmp .eq 10, 3) := by decide +kernel
theorem dX2_nodeEnd_14 : decode cX2_nodeEnd 14 = .ok (.aload_n 0, 1) := by decide +kernel
theorem dX2_nodeEnd_15 : decode cX2_nodeEnd 15 = .ok (.getfield 15, 3) := by decide +kernel
theorem dX2_nodeEnd_18 : decode cX2_nodeEnd 18 = .ok (.iload_n 3, 1) := by decide +kernel
theorem dX2_nodeEnd_19 : decode cX2_nodeEnd 19 = .ok (.iaload, 1) := by decide +kernel
theorem dX2_nodeEnd_20 : decode cX2_nodeEnd 20 = .ok (.ireturn, 1) := by decide +kernel
theorem dX2_nodeEnd_21 : decode cX2_nodeEnd 21 = .ok (.ldc 127, 2) := by decide +kernel
theorem dX2_nodeEnd_23 : decode cX2_nodeEnd 23 = .ok (.istore 4, 2) := by decide +kernel
theorem dX2_nodeEnd_25 : decode cX2_nodeEnd 25 = .ok (.iconst 0, 1) := by decide +kernel
theorem dX2_nodeEnd_26 : decode cX2_nodeEnd 26 = .ok (.istore 5, 2) := by decide +kernel
theorem dX2_nodeEnd_28 : decode cX2_nodeEnd 28 = .ok (.iload 5, 2) := by decide +kernel
theorem dX2_nodeEnd_30 : decode cX2_nodeEnd 30 = .ok (.aload_n 0, 1) := by decide +kernel
theorem dX2_nodeEnd_31 : decode cX2_nodeEnd 31 = .ok (.getfield 37, 3) := by decide +kernel
theorem dX2_nodeEnd_34 : decode cX2_nodeEnd 34 = .ok (.getfield 45, 3) := by decide +kernel
theorem dX2_nodeEnd_37 : decode cX2_nodeEnd 37 = .ok (.if_icmp .ge 34, 3) := by decide +kernel
theorem dX2_nodeEnd_40 : decode cX2_nodeEnd 40 = .ok (.aload_n 0, 1) := by decide +kernel
theorem dX2_nodeEnd_41 : decode cX2_nodeEnd 41 = .ok (.iload 5, 2) := by decide +kernel
theorem dX2_nodeEnd_43 : decode cX2_nodeEnd 43 = .ok (.iload_n 1, 1) := by decide +kernel
theorem dX2_nodeEnd_44 : decode cX2_nodeEnd 44 = .ok (.iload_n 2, 1) := by decide +kernel
theorem dX2_nodeEnd_45 : decode cX2_nodeEnd 45 = .ok (.invokevirtual 104, 3) := by decide +kernel
theorem dX2_nodeEnd_48 : decode cX2_nodeEnd 48 = .ok (.ifCond .eq 17, 3) := by decide +kernel
theorem dX2_nodeEnd_51 : decode cX2_nodeEnd 51 = .ok (.iload 4, 2) := by decide +kernel
theorem dX2_nodeEnd_53 : decode cX2_nodeEnd 53 = .ok (.aload_n 0, 1) := by decide +kernel
theorem dX2_nodeEnd_54 : decode cX2_nodeEnd 54 = .ok (.getfield 15, 3) := by decide +kernel
theorem dX2_nodeEnd_57 : decode cX2_nodeEnd 57 = .ok (.iload 5, 2) := by decide +kernel
theorem dX2_nodeEnd_59 : decode cX2_nodeEnd 59 = .ok (.iaload, 1) := by decide +kernel
theorem dX2_nodeEnd_60 : decode cX2_nodeEnd 60 = .ok (.invokestatic 128, 3) := by decide +kernel
theorem dX2_nodeEnd_63 : decode cX2_nodeEnd 63 = .ok (.istore 4, 2) := by decide +kernel
theorem dX2_nodeEnd_65 : decode cX2_nodeEnd 65 = .ok (.iinc 5 1, 3) := by decide +kernel
theorem dX2_nodeEnd_68 : decode cX2_nodeEnd 68 = .ok (.goto (-40), 3) := by decide +kernel
theorem dX2_nodeEnd_71 : decode cX2_nodeEnd 71 = .ok (.iload 4, 2) := by decide +kernel
theorem dX2_nodeEnd_73 : decode cX2_nodeEnd 73 = .ok (.ireturn, 1) := by decide +kernel
set_option maxRecDepth 100000 in
set_option maxHeartbeats 4000000 in
theorem w2_nodeEnd_b28_ok {G : GT} {P : Int32 → Mem → Prop} {X : String → Mem → Prop} (C : PCx G cX2_nodeEnd 6 RX2) (hRt : PRt G (some .int) (qI P) X) (hHR : HR G (1)) (hnT : NoT G) {μ : Mem} {l1 : Int32} {l2 : Int32} {l4 : Int32} {l5 : Int32} (hk : w2_nodeEnd_b28 P μ l1 l2 l4 l5) : PW G 0 0 28 [some (pR 18 0), some (pI l1), some (pI l2), none, some (pI l4), some (pI l5)] [] μ := by
  refine hk (fun (μ : Mem) (l1 : Int32) (l2 : Int32) (l4 : Int32) (l5 : Int32) => PW G 0 0 28 [some (pR 18 0), some (pI l1), some (pI l2), none, some (pI l4), some (pI l5)] [] μ) (fun (μ : Mem) l1 l2 l4 l5 hk => ?_)
  have hR28 : ∀ (μ : Mem) (l1 : Int32) (l2 : Int32) (l4 : Int32) (l5 : Int32), PW G 0 0 28 [some (pR 18 0), some (pI l1), some (pI l2), none, some (pI l4), some (pI l5)] [] μ → PW G 0 0 28 [some (pR 18 0), some (pI l1), some (pI l2), none, some (pI l4), some (pI l5)] [] μ := fun _ _ _ _ _ h => h
  unfold w2_nodeEnd_b28_body at hk
  refine px_iload (i := 5) C dX2_nodeEnd_28 rfl ?_
  refine px_aload_n (i := 0) C dX2_nodeEnd_30 rfl rfl ?_
  refine px_getr C dX2_nodeEnd_31 fl_RX2_37 rfl rfl rfl ?_
  refine px_geti 1 C dX2_nodeEnd_34 fl_RX2_45 rfl rfl rfl rfl ?_
  refine px_icmp_ge (tgt := 71) C dX2_nodeEnd_37 (by decide) (fun c7 => ?_) (fun c7 => ?_)
  · replace hk := hk.1 c7
    refine px_iload (i := 4) C dX2_nodeEnd_71 rfl ?_
    exact px_iret C hRt dX2_nodeEnd_73 rfl rfl hk
  · replace hk := hk.2 c7
    refine px_aload_n (i := 0) C dX2_nodeEnd_40 rfl rfl ?_
    refine px_iload (i := 5) C dX2_nodeEnd_41 rfl ?_
    refine px_iload_n (i := 1) C dX2_nodeEnd_43 rfl rfl ?_
    refine px_iload_n (i := 2) C dX2_nodeEnd_44 rfl rfl ?_
    refine px_callVi (h := 0) (rc' := 0) (rs' := 0) C (HR_le hHR (Nat.le_of_ble_eq_true rfl)) hRt hnT dX2_nodeEnd_45 (gw4 123 rfl rfl) mv_X2_isChild (w2_isChild_ok (PCx_l C) (PCx_I C) hk) rfl rfl rfl rfl rfl (Nat.le_of_ble_eq_true rfl) (Nat.le_of_ble_eq_true rfl) (Nat.le_of_ble_eq_true rfl) (Nat.le_of_ble_eq_true rfl) ?_
    intro r4 μ3 hk
    refine px_if_eq (tgt := 65) C dX2_nodeEnd_48 (by decide) (fun c6 => ?_) (fun c6 => ?_)
    · replace hk := hk.1 c6
      refine px_iinc (i := 5) (v := (1 : Int32)) C dX2_nodeEnd_65 rfl rfl (by decide) rfl ?_
      refine px_goto (tgt := 28) C dX2_nodeEnd_68 (by decide) ?_
      exact PW_at (hR28 _ _ _ _ _ hk) (And.intro rfl (And.intro rfl (And.intro rfl (And.intro rfl (And.intro rfl trivial))))) (Nat.le_of_ble_eq_true rfl) (Nat.le_of_ble_eq_true rfl)
    · replace hk := hk.2 c6
      refine px_iload (i := 4) C dX2_nodeEnd_51 rfl ?_
      refine px_aload_n (i := 0) C dX2_nodeEnd_53 rfl rfl ?_
      refine px_getr C dX2_nodeEnd_54 fl_RX2_15 rfl rfl rfl ?_
      refine px_iload (i := 5) C dX2_nodeEnd_57 rfl ?_
      obtain ⟨o5, hk⟩ := hk
      refine px_iald 1280 C dX2_nodeEnd_59 rfl rfl rfl rfl o5 ?_
      refine px_mmax C (HR_le hHR (Nat.le_of_ble_eq_true rfl)) dX2_nodeEnd_60 (gw4 198 rfl rfl) math_max (Nat.le_of_ble_eq_true rfl) ?_
      refine px_istore (i := 4) C dX2_nodeEnd_63 (by decide) rfl ?_
      refine px_iinc (i := 5) (v := (1 : Int32)) C dX2_nodeEnd_65 rfl rfl (by decide) rfl ?_
      refine px_goto (tgt := 28) C dX2_nodeEnd_68 (by decide) ?_
      exact PW_at (hR28 _ _ _ _ _ hk) (And.intro rfl (And.intro rfl (And.intro rfl (And.intro rfl (And.intro rfl trivial))))) (Nat.le_of_ble_eq_true rfl) (Nat.le_of_ble_eq_true rfl)
set_option maxRecDepth 100000 in
set_option maxHeartbeats 4000000 in
theorem w2_nodeEnd_ok {l : Launch} {idx : List (Nat × Nat)} {μ : Mem} {a1 : Int32} {a2 : Int32} {P : Int32 → Mem → Prop} {X : String → Mem → Prop} (hl : l.stackTraces = false) (hI : IdxOK idx) (hk : w2_nodeEnd_wp μ a1 a2 P) : PMet l yX2_nodeEnd (.code yX2_nodeEnd cX2_nodeEnd 6 (some .int)) 1 0 0 idx [pR 18 0, pI a1, pI a2] μ (qI P) X := by
  refine PMet_of mv_X2_nodeEnd.2.2.2.2.2.2 hl hI mv_X2_nodeEnd.2.2.2.1 rfl (Nat.le_of_ble_eq_true rfl) (fun G _ _ C hRt hHR hnT => ?_)
  show PW G 0 0 0 [some (pR 18 0), some (pI a1), some (pI a2), none, none, none] [] μ
  unfold w2_nodeEnd_wp at hk
  refine px_aload_n (i := 0) C dX2_nodeEnd_0 rfl rfl ?_
  refine px_getr C dX2_nodeEnd_1 fl_RX2_37 rfl rfl rfl ?_
  refine px_iload_n (i := 2) C dX2_nodeEnd_4 rfl rfl ?_
  refine px_callVi (h := 0) (rc' := 0) (rs' := 0) C (HR_le hHR (Nat.le_of_ble_eq_true rfl)) hRt hnT dX2_nodeEnd_5 (gw4 114 rfl rfl) mv_X7_find (w7_find_ok (PCx_l C) (PCx_I C) hk) rfl rfl rfl rfl rfl (Nat.le_of_ble_eq_true rfl) (Nat.le_of_ble_eq_true rfl) (Nat.le_of_ble_eq_true rfl) (Nat.le_of_ble_eq_true rfl) ?_
  intro r2 μ1 hk
  refine px_istore_n (i := 3) C dX2_nodeEnd_8 rfl (by decide) rfl ?_
  refine px_iload_n (i := 3) C dX2_nodeEnd_9 rfl rfl ?_
  refine px_iconst (v := (-1 : Int32)) C dX2_nodeEnd_10 rfl ?_
  refine px_icmp_eq (tgt := 21) C dX2_nodeEnd_11 (by decide) (fun c9 => ?_) (fun c9 => ?_)
  · replace hk := hk.1 c9
    refine px_ldc (v := (-1000000 : Int32)) C dX2_nodeEnd_21 (gw4 197 rfl rfl) ?_
    refine px_istore (i := 4) C dX2_nodeEnd_23 (by decide) rfl ?_
    refine px_iconst (v := (0 : Int32)) C dX2_nodeEnd_25 rfl ?_
    refine px_istore (i := 5) C dX2_nodeEnd_26 (by decide) rfl ?_
    exact PW_at (w2_nodeEnd_b28_ok C hRt hHR hnT hk) (And.intro rfl (And.intro rfl (And.intro rfl (And.intro rfl (And.intro rfl trivial))))) (Nat.le_of_ble_eq_true rfl) (Nat.le_of_ble_eq_true rfl)
  · replace hk := hk.2 c9
    refine px_aload_n (i := 0) C dX2_nodeEnd_14 rfl rfl ?_
    refine px_getr C dX2_nodeEnd_15 fl_RX2_15 rfl rfl rfl ?_
    refine px_iload_n (i := 3) C dX2_nodeEnd_18 rfl rfl ?_
    obtain ⟨o8, hk⟩ := hk
    refine px_iald 1280 C dX2_nodeEnd_19 rfl rfl rfl rfl o8 ?_
    exact px_iret C hRt dX2_nodeEnd_20 rfl rfl hk
theorem dX2_nextRoot_0 : decode cX2_nextRoot 0 = .ok (.iconst (-1), 1) := by decide +kernel
theorem dX2_nextRoot_1 : decode cX2_nextRoot 1 = .ok (.istore_n 3, 1) := by decide +kernel
theorem dX2_nextRoot_2 : decode cX2_nextRoot 2 = .ok (.iconst 0, 1) := by decide +kernel
theorem dX2_nextRoot_3 : decode cX2_nextRoot 3 = .ok (.istore 4, 2) := by decide +kernel
theorem dX2_nextRoot_5 : decode cX2_nextRoot 5 = .ok (.iload 4, 2) := by decide +kernel
theorem dX2_nextRoot_7 : decode cX2_nextRoot 7 = .ok (.aload_n 0, 1) := by decide +kernel
theorem dX2_nextRoot_8 : decode cX2_nextRoot 8 = .ok (.getfield 37, 3) := by decide +kernel
theorem dX2_nextRoot_11 : decode cX2_nextRoot 11 = .ok (.getfield 45, 3) := by decide +kernel
theorem dX2_nextRoot_14 : decode cX2_nextRoot 14 = .ok (.if_icmp .ge 62, 3) := by decide +kernel
theorem dX2_nextRoot_17 : decode cX2_nextRoot 17 = .ok (.aload_n 0, 1) := by decide +kernel
theorem dX2_nextRoot_18 : decode cX2_nextRoot 18 = .ok (.getfield 37, 3) := by decide +kernel
theorem dX2_nextRoot_21 : decode cX2_nextRoot 21 = .ok (.getfield 101, 3) := by decide +kernel
theorem dX2_nextRoot_24 : decode cX2_nextRoot 24 = .ok (.iload 4, 2) := by decide +kernel
theorem dX2_nextRoot_26 : decode cX2_nextRoot 26 = .ok (.iaload, 1) := by decide +kernel
theorem dX2_nextRoot_27 : decode cX2_nextRoot 27 = .ok (.iload_n 1, 1) := by decide +kernel
theorem dX2_nextRoot_28 : decode cX2_nextRoot 28 = .ok (.if_icmp .ne 42, 3) := by decide +kernel
theorem dX2_nextRoot_31 : decode cX2_nextRoot 31 = .ok (.aload_n 0, 1) := by decide +kernel
theorem dX2_nextRoot_32 : decode cX2_nextRoot 32 = .ok (.getfield 21, 3) := by decide +kernel
theorem dX2_nextRoot_35 : decode cX2_nextRoot 35 = .ok (.iload 4, 2) := by decide +kernel
theorem dX2_nextRoot_37 : decode cX2_nextRoot 37 = .ok (.iaload, 1) := by decide +kernel
theorem dX2_nextRoot_38 : decode cX2_nextRoot 38 = .ok (.iconst 1, 1) := by decide +kernel
theorem dX2_nextRoot_39 : decode cX2_nextRoot 39 = .ok (.if_icmp .eq 31, 3) := by decide +kernel
theorem dX2_nextRoot_42 : decode cX2_nextRoot 42 = .ok (.aload_n 0, 1) := by decide +kernel
theorem dX2_nextRoot_43 : decode cX2_nextRoot 43 = .ok (.iload 4, 2) := by decide +kernel
theorem dX2_nextRoot_45 : decode cX2_nextRoot 45 = .ok (.invokevirtual 131, 3) := by decide +kernel
theorem dX2_nextRoot_48 : decode cX2_nextRoot 48 = .ok (.istore 5, 2) := by decide +kernel
theorem dX2_nextRoot_50 : decode cX2_nextRoot 50 = .ok (.iload 5, 2) := by decide +kernel
theorem dX2_nextRoot_52 : decode cX2_nextRoot 52 = .ok (.iload_n 2, 1) := by decide +kernel
theorem dX2_nextRoot_53 : decode cX2_nextRoot 53 = .ok (.if_icmp .le 17, 3) := by decide +kernel
theorem dX2_nextRoot_56 : decode cX2_nextRoot 56 = .ok (.iload_n 3, 1) := by decide +kernel
theorem dX2_nextRoot_57 : decode cX2_nextRoot 57 = .ok (.iconst (-1), 1) := by decide +kernel
theorem dX2_nextRoot_58 : decode cX2_nextRoot 58 = .ok (.if_icmp .eq 9, 3) := by decide +kernel
theorem dX2_nextRoot_61 : decode cX2_nextRoot 61 = .ok (.iload 5, 2) := by decide +kernel
theorem dX2_nextRoot_63 : decode cX2_nextRoot 63 = .ok (.iload_n 3, 1) := by decide +kernel
theorem dX2_nextRoot_64 : decode cX2_nextRoot 64 = .ok (.if_icmp .ge 6, 3) := by decide +kernel
theorem dX2_nextRoot_67 : decode cX2_nextRoot 67 = .ok (.iload 5, 2) := by decide +kernel
theorem dX2_nextRoot_69 : decode cX2_nextRoot 69 = .ok (.istore_n 3, 1) := by decide +kernel
theorem dX2_nextRoot_70 : decode cX2_nextRoot 70 = .ok (.iinc 4 1, 3) := by decide +kernel
theorem dX2_nextRoot_73 : decode cX2_nextRoot 73 = .ok (.goto (-68), 3) := by decide +kernel
theorem dX2_nextRoot_76 : decode cX2_nextRoot 76 = .ok (.iload_n 3, 1) := by decide +kernel
theorem dX2_nextRoot_77 : decode cX2_nextRoot 77 = .ok (.ireturn, 1) := by decide +kernel
set_option maxRecDepth 100000 in
set_option maxHeartbeats 4000000 in
theorem w2_nextRoot_b5_ok {G : GT} {P : Int32 → Mem → Prop} {X : String → Mem → Prop} (C : PCx G cX2_nextRoot 6 RX2) (hRt : PRt G (some .int) (qI P) X) (hHR : HR G (3)) (hnT : NoT G) {μ : Mem} {l1 : Int32} {l2 : Int32} {l3 : Int32} {l4 : Int32} (hk : w2_nextRoot_b5 P μ l1 l2 l3 l4) : PW G 0 0 5 [some (pR 18 0), some (pI l1), some (pI l2), some (pI l3), some (pI l4), none] [] μ := by
  refine hk (fun (μ : Mem) (l1 : Int32) (l2 : Int32) (l3 : Int32) (l4 : Int32) => PW G 0 0 5 [some (pR 18 0), some (pI l1), some (pI l2), some (pI l3), some (pI l4), none] [] μ) (fun (μ : Mem) l1 l2 l3 l4 hk => ?_)
  have hR5 : ∀ (μ : Mem) (l1 : Int32) (l2 : Int32) (l3 : Int32) (l4 : Int32), PW G 0 0 5 [some (pR 18 0), some (pI l1), some (pI l2), some (pI l3), some (pI l4), none] [] μ → PW G 0 0 5 [some (pR 18 0), some (pI l1), some (pI l2), some (pI l3), some (pI l4), none] [] μ := fun _ _ _ _ _ h => h
  unfold w2_nextRoot_b5_body at hk
  refine px_iload (i := 4) C dX2_nextRoot_5 rfl ?_
  refine px_aload_n (i := 0) C dX2_nextRoot_7 rfl rfl ?_
  refine px_getr C dX2_nextRoot_8 fl_RX2_37 rfl rfl rfl ?_
  refine px_geti 1 C dX2_nextRoot_11 fl_RX2_45 rfl rfl rfl rfl ?_
  refine px_icmp_ge (tgt := 76) C dX2_nextRoot_14 (by decide) (fun c10 => ?_) (fun c10 => ?_)
  · replace hk := hk.1 c10
    refine px_iload_n (i := 3) C dX2_nextRoot_76 rfl rfl ?_
    exact px_iret C hRt dX2_nextRoot_77 rfl rfl hk
  · replace hk := hk.2 c10
    refine px_aload_n (i := 0) C dX2_nextRoot_17 rfl rfl ?_
    refine px_getr C dX2_nextRoot_18 fl_RX2_37 rfl rfl rfl ?_
    refine px_getr C dX2_nextRoot_21 fl_RX2_101 rfl rfl rfl ?_
    refine px_iload (i := 4) C dX2_nextRoot_24 rfl ?_
    obtain ⟨o1, hk⟩ := hk
    refine px_iald 64 C dX2_nextRoot_26 rfl rfl rfl rfl o1 ?_
    refine px_iload_n (i := 1) C dX2_nextRoot_27 rfl rfl ?_
    refine px_icmp_ne (tgt := 70) C dX2_nextRoot_28 (by decide) (fun c9 => ?_) (fun c9 => ?_)
    · replace hk := hk.1 c9
      refine px_iinc (i := 4) (v := (1 : Int32)) C dX2_nextRoot_70 rfl rfl (by decide) rfl ?_
      refine px_goto (tgt := 5) C dX2_nextRoot_73 (by decide) ?_
      exact PW_at (hR5 _ _ _ _ _ hk) (And.intro rfl (And.intro rfl (And.intro rfl (And.intro rfl (And.intro rfl trivial))))) (Nat.le_of_ble_eq_true rfl) (Nat.le_of_ble_eq_true rfl)
    · replace hk := hk.2 c9
      refine px_aload_n (i := 0) C dX2_nextRoot_31 rfl rfl ?_
      refine px_getr C dX2_nextRoot_32 fl_RX2_21 rfl rfl rfl ?_
      refine px_iload (i := 4) C dX2_nextRoot_35 rfl ?_
      obtain ⟨o2, hk⟩ := hk
      refine px_iald 1408 C dX2_nextRoot_37 rfl rfl rfl rfl o2 ?_
      refine px_iconst (v := (1 : Int32)) C dX2_nextRoot_38 rfl ?_
      refine px_icmp_eq (tgt := 70) C dX2_nextRoot_39 (by decide) (fun c8 => ?_) (fun c8 => ?_)
      · replace hk := hk.1 c8
        refine px_iinc (i := 4) (v := (1 : Int32)) C dX2_nextRoot_70 rfl rfl (by decide) rfl ?_
        refine px_goto (tgt := 5) C dX2_nextRoot_73 (by decide) ?_
        exact PW_at (hR5 _ _ _ _ _ hk) (And.intro rfl (And.intro rfl (And.intro rfl (And.intro rfl (And.intro rfl trivial))))) (Nat.le_of_ble_eq_true rfl) (Nat.le_of_ble_eq_true rfl)
      · replace hk := hk.2 c8
        refine px_aload_n (i := 0) C dX2_nextRoot_42 rfl rfl ?_
        refine px_iload (i := 4) C dX2_nextRoot_43 rfl ?_
        refine px_callVi (h := 2) (rc' := 0) (rs' := 0) C (HR_le hHR (Nat.le_of_ble_eq_true rfl)) hRt hnT dX2_nextRoot_45 (gw4 171 rfl rfl) mv_X2_rootNumber (w2_rootNumber_ok (PCx_l C) (PCx_I C) hk) rfl rfl rfl rfl rfl (Nat.le_of_ble_eq_true rfl) (Nat.le_of_ble_eq_true rfl) (Nat.le_of_ble_eq_true rfl) (Nat.le_of_ble_eq_true rfl) ?_
        intro r4 μ3 hk
        refine px_istore (i := 5) C dX2_nextRoot_48 (by decide) rfl ?_
        refine px_iload (i := 5) C dX2_nextRoot_50 rfl ?_
        refine px_iload_n (i := 2) C dX2_nextRoot_52 rfl rfl ?_
        refine px_icmp_le (tgt := 70) C dX2_nextRoot_53 (by decide) (fun c7 => ?_) (fun c7 => ?_)
        · replace hk := hk.1 c7
          refine px_iinc (i := 4) (v := (1 : Int32)) C dX2_nextRoot_70 rfl rfl (by decide) rfl ?_
          refine px_goto (tgt := 5) C dX2_nextRoot_73 (by decide) ?_
          exact PW_at (hR5 _ _ _ _ _ hk) (And.intro rfl (And.intro rfl (And.intro rfl (And.intro rfl (And.intro rfl trivial))))) (Nat.le_of_ble_eq_true rfl) (Nat.le_of_ble_eq_true rfl)
        · replace hk := hk.2 c7
          refine px_iload_n (i := 3) C dX2_nextRoot_56 rfl rfl ?_
          refine px_iconst (v := (-1 : Int32)) C dX2_nextRoot_57 rfl ?_
          refine px_icmp_eq (tgt := 67) C dX2_nextRoot_58 (by decide) (fun c6 => ?_) (fun c6 => ?_)
          · replace hk := hk.1 c6
            refine px_iload (i := 5) C dX2_nextRoot_67 rfl ?_
            refine px_istore_n (i := 3) C dX2_nextRoot_69 rfl (by decide) rfl ?_
            refine px_iinc (i := 4) (v := (1 : Int32)) C dX2_nextRoot_70 rfl rfl (by decide) rfl ?_
            refine px_goto (tgt := 5) C dX2_nextRoot_73 (by decide) ?_
            exact PW_at (hR5 _ _ _ _ _ hk) (And.intro rfl (And.intro rfl (And.intro rfl (And.intro rfl (And.intro rfl trivial))))) (Nat.le_of_ble_eq_true rfl) (Nat.le_of_ble_eq_true rfl)
          · replace hk := hk.2 c6
            refine px_iload (i := 5) C dX2_nextRoot_61 rfl ?_
            refine px_iload_n (i := 3) C dX2_nextRoot_63 rfl rfl ?_
            refine px_icmp_ge (tgt := 70) C dX2_nextRoot_64 (by decide) (fun c5 => ?_) (fun c5 => ?_)
            · replace hk := hk.1 c5
              refine px_iinc (i := 4) (v := (1 : Int32)) C dX2_nextRoot_70 rfl rfl (by decide) rfl ?_
              refine px_goto (tgt := 5) C dX2_nextRoot_73 (by decide) ?_
              exact PW_at (hR5 _ _ _ _ _ hk) (And.intro rfl (And.intro rfl (And.intro rfl (And.intro rfl (And.intro rfl trivial))))) (Nat.le_of_ble_eq_true rfl) (Nat.le_of_ble_eq_true rfl)
            · replace hk := hk.2 c5
              refine px_iload (i := 5) C dX2_nextRoot_67 rfl ?_
              refine px_istore_n (i := 3) C dX2_nextRoot_69 rfl (by decide) rfl ?_
              refine px_iinc (i := 4) (v := (1 : Int32)) C dX2_nextRoot_70 rfl rfl (by decide) rfl ?_
              refine px_goto (tgt := 5) C dX2_nextRoot_73 (by decide) ?_
              exact PW_at (hR5 _ _ _ _ _ hk) (And.intro rfl (And.intro rfl (And.intro rfl (And.intro rfl (And.intro rfl trivial))))) (Nat.le_of_ble_eq_true rfl) (Nat.le_of_ble_eq_true rfl)
set_option maxRecDepth 100000 in
set_option maxHeartbeats 4000000 in
theorem w2_nextRoot_ok {l : Launch} {idx : List (Nat × Nat)} {μ : Mem} {a1 : Int32} {a2 : Int32} {P : Int32 → Mem → Prop} {X : String → Mem → Prop} (hl : l.stackTraces = false) (hI : IdxOK idx) (hk : w2_nextRoot_wp μ a1 a2 P) : PMet l yX2_nextRoot (.code yX2_nextRoot cX2_nextRoot 6 (some .int)) 3 0 0 idx [pR 18 0, pI a1, pI a2] μ (qI P) X := by
  refine PMet_of mv_X2_nextRoot.2.2.2.2.2.2 hl hI mv_X2_nextRoot.2.2.2.1 rfl (Nat.le_of_ble_eq_true rfl) (fun G _ _ C hRt hHR hnT => ?_)
  show PW G 0 0 0 [some (pR 18 0), some (pI a1), some (pI a2), none, none, none] [] μ
  unfold w2_nextRoot_wp at hk
  refine px_iconst (v := (-1 : Int32)) C dX2_nextRoot_0 rfl ?_
  refine px_istore_n (i := 3) C dX2_nextRoot_1 rfl (by decide) rfl ?_
  refine px_iconst (v := (0 : Int32)) C dX2_nextRoot_2 rfl ?_
  refine px_istore (i := 4) C dX2_nextRoot_3 (by decide) rfl ?_
  exact PW_at (w2_nextRoot_b5_ok C hRt hHR hnT hk) (And.intro rfl (And.intro rfl (And.intro rfl (And.intro rfl (And.intro rfl trivial))))) (Nat.le_of_ble_eq_true rfl) (Nat.le_of_ble_eq_true rfl)
theorem dX2_countRoots_0 : decode cX2_countRoots 0 = .ok (.iconst 0, 1) := by decide +kernel
theorem dX2_countRoots_1 : decode cX2_countRoots 1 = .ok (.istore_n 3, 1) := by decide +kernel
theorem dX2_countRoots_2 : decode cX2_countRoots 2 = .ok (.aload_n 0, 1) := by decide +kernel
theorem dX2_countRoots_3 : decode cX2_countRoots 3 = .ok (.iload_n 1, 1) := by decide +kernel
theorem dX2_countRoots_4 : decode cX2_countRoots 4 = .ok (.iconst (-1), 1) := by decide +kernel
theorem dX2_countRoots_5 : decode cX2_countRoots 5 = .ok (.invokevirtual 134, 3) := by decide +kernel
theorem dX2_countRoots_8 : decode cX2_countRoots 8 = .ok (.istore 4, 2) := by decide +kernel
theorem dX2_countRoots_10 : decode cX2_countRoots 10 = .ok (.iconst 0, 1) := by decide +kernel
theorem dX2_countRoots_11 : decode cX2_countRoots 11 = .ok (.istore 5, 2) := by decide +kernel
theorem dX2_countRoots_13 : decode cX2_countRoots 13 = .ok (.iload 5, 2) := by decide +kernel
theorem dX2_countRoots_15 : decode cX2_countRoots 15 = .ok (.bipush 40, 2) := by decide +kernel
theorem dX2_countRoots_17 : decode cX2_countRoots 17 = .ok (.if_icmp .ge 44, 3) := by decide +kernel
theorem dX2_countRoots_20 : decode cX2_countRoots 20 = .ok (.iload 4, 2) := by decide +kernel
theorem dX2_countRoots_22 : decode cX2_countRoots 22 = .ok (.iconst (-1), 1) := by decide +kernel
theorem dX2_countRoots_23 : decode cX2_countRoots 23 = .ok (.if_icmp .eq 38, 3) := by decide +kernel
theorem dX2_countRoots_26 : decode cX2_countRoots 26 = .ok (.iload 4, 2) := by decide +kernel
theorem dX2_countRoots_28 : decode cX2_countRoots 28 = .ok (.sipush 1000, 3) := by decide +kernel
theorem dX2_countRoots_31 : decode cX2_countRoots 31 = .ok (.if_icmp .lt 7, 3) := by decide +kernel
theorem dX2_countRoots_34 : decode cX2_countRoots 34 = .ok (.iconst 1, 1) := by decide +kernel
theorem dX2_countRoots_35 : decode cX2_countRoots 35 = .ok (.goto 4, 3) := by decide +kernel
theorem dX2_countRoots_38 : decode cX2_countRoots 38 = .ok (.iconst 0, 1) := by decide +kernel
theorem dX2_countRoots_39 : decode cX2_countRoots 39 = .ok (.iload_n 2, 1) := by decide +kernel
theorem dX2_countRoots_40 : decode cX2_countRoots 40 = .ok (.if_icmp .ne 6, 3) := by decide +kernel
theorem dX2_countRoots_43 : decode cX2_countRoots 43 = .ok (.iinc 3 1, 3) := by decide +kernel
theorem dX2_countRoots_46 : decode cX2_countRoots 46 = .ok (.aload_n 0, 1) := by decide +kernel
theorem dX2_countRoots_47 : decode cX2_countRoots 47 = .ok (.iload_n 1, 1) := by decide +kernel
theorem dX2_countRoots_48 : decode cX2_countRoots 48 = .ok (.iload 4, 2) := by decide +kernel
theorem dX2_countRoots_50 : decode cX2_countRoots 50 = .ok (.invokevirtual 134, 3) := by decide +kernel
theorem dX2_countRoots_53 : decode cX2_countRoots 53 = .ok (.istore 4, 2) := by decide +kernel
theorem dX2_countRoots_55 : decode cX2_countRoots 55 = .ok (.iinc 5 1, 3) := by decide +kernel
theorem dX2_countRoots_58 : decode cX2_countRoots 58 = .ok (.goto (-45), 3) := by decide +kernel
theorem dX2_countRoots_61 : decode cX2_countRoots 61 = .ok (.iload_n 3, 1) := by decide +kernel
theorem dX2_countRoots_62 : decode cX2_countRoots 62 = .ok (.ireturn, 1) := by decide +kernel
set_option maxRecDepth 100000 in
set_option maxHeartbeats 4000000 in
theorem w2_countRoots_b39_ok {G : GT} {P : Int32 → Mem → Prop} {X : String → Mem → Prop} (C : PCx G cX2_countRoots 6 RX2) (hRt : PRt G (some .int) (qI P) X) (hHR : HR G (4)) (hnT : NoT G) {R13 : Mem → Int32 → Int32 → Int32 → Int32 → Int32 → Prop} (hR13 : ∀ (μ : Mem) (l1 : Int32) (l2 : Int32) (l3 : Int32) (l4 : Int32) (l5 : Int32), R13 μ l1 l2 l3 l4 l5 → PW G 0 0 13 [some (pR 18 0), some (pI l1), some (pI l2), some (pI l3), some (pI l4), some (pI l5)] [] μ) {μ : Mem} {l1 : Int32} {l2 : Int32} {l3 : Int32} {l4 : Int32} {l5 : Int32} {s0 : Int32} (hk : w2_countRoots_b39 P R13 μ l1 l2 l3 l4 l5 s0) : PW G 0 0 39 [some (pR 18 0), some (pI l1), some (pI l2), some (pI l3), some (pI l4), some (pI l5)] [pI s0] μ := by
  unfold w2_countRoots_b39 at hk
  refine px_iload_n (i := 2) C dX2_countRoots_39 rfl rfl ?_
  refine px_icmp_ne (tgt := 46) C dX2_countRoots_40 (by decide) (fun c7 => ?_) (fun c7 => ?_)
  · replace hk := hk.1 c7
    refine px_aload_n (i := 0) C dX2_countRoots_46 rfl rfl ?_
    refine px_iload_n (i := 1) C dX2_countRoots_47 rfl rfl ?_
    refine px_iload (i := 4) C dX2_countRoots_48 rfl ?_
    refine px_callVi (h := 3) (rc' := 0) (rs' := 0) C (HR_le hHR (Nat.le_of_ble_eq_true rfl)) hRt hnT dX2_countRoots_50 (gw4 167 rfl rfl) mv_X2_nextRoot (w2_nextRoot_ok (PCx_l C) (PCx_I C) hk) rfl rfl rfl rfl rfl (Nat.le_of_ble_eq_true rfl) (Nat.le_of_ble_eq_true rfl) (Nat.le_of_ble_eq_true rfl) (Nat.le_of_ble_eq_true rfl) ?_
    intro r4 μ3 hk
    refine px_istore (i := 4) C dX2_countRoots_53 (by decide) rfl ?_
    refine px_iinc (i := 5) (v := (1 : Int32)) C dX2_countRoots_55 rfl rfl (by decide) rfl ?_
    refine px_goto (tgt := 13) C dX2_countRoots_58 (by decide) ?_
    exact PW_at (hR13 _ _ _ _ _ _ hk) (And.intro rfl (And.intro rfl (And.intro rfl (And.intro rfl (And.intro rfl (And.intro rfl trivial)))))) (Nat.le_of_ble_eq_true rfl) (Nat.le_of_ble_eq_true rfl)
  · replace hk := hk.2 c7
    refine px_iinc (i := 3) (v := (1 : Int32)) C dX2_countRoots_43 rfl rfl (by decide) rfl ?_
    refine px_aload_n (i := 0) C dX2_countRoots_46 rfl rfl ?_
    refine px_iload_n (i := 1) C dX2_countRoots_47 rfl rfl ?_
    refine px_iload (i := 4) C dX2_countRoots_48 rfl ?_
    refine px_callVi (h := 3) (rc' := 0) (rs' := 0) C (HR_le hHR (Nat.le_of_ble_eq_true rfl)) hRt hnT dX2_countRoots_50 (gw4 167 rfl rfl) mv_X2_nextRoot (w2_nextRoot_ok (PCx_l C) (PCx_I C) hk) rfl rfl rfl rfl rfl (Nat.le_of_ble_eq_true rfl) (Nat.le_of_ble_eq_true rfl) (Nat.le_of_ble_eq_true rfl) (Nat.le_of_ble_eq_true rfl) ?_
    intro r6 μ5 hk
    refine px_istore (i := 4) C dX2_countRoots_53 (by decide) rfl ?_
    refine px_iinc (i := 5) (v := (1 : Int32)) C dX2_countRoots_55 rfl rfl (by decide) rfl ?_
    refine px_goto (tgt := 13) C dX2_countRoots_58 (by decide) ?_
    exact PW_at (hR13 _ _ _ _ _ _ hk) (And.intro rfl (And.intro rfl (And.intro rfl (And.intro rfl (And.intro rfl (And.intro rfl trivial)))))) (Nat.le_of_ble_eq_true rfl) (Nat.le_of_ble_eq_true rfl)
set_option maxRecDepth 100000 in
set_option maxHeartbeats 4000000 in
theorem w2_countRoots_b13_ok {G : GT} {P : Int32 → Mem → Prop} {X : String → Mem → Prop} (C : PCx G cX2_countRoots 6 RX2) (hRt : PRt G (some .int) (qI P) X) (hHR : HR G (4)) (hnT : NoT G) {μ : Mem} {l1 : Int32} {l2 : Int32} {l3 : Int32} {l4 : Int32} {l5 : Int32} (hk : w2_countRoots_b13 P μ l1 l2 l3 l4 l5) : PW G 0 0 13 [some (pR 18 0), some (pI l1), some (pI l2), some (pI l3), some (pI l4), some (pI l5)] [] μ := by
  refine hk (fun (μ : Mem) (l1 : Int32) (l2 : Int32) (l3 : Int32) (l4 : Int32) (l5 : Int32) => PW G 0 0 13 [some (pR 18 0), some (pI l1), some (pI l2), some (pI l3), some (pI l4), some (pI l5)] [] μ) (fun (μ : Mem) l1 l2 l3 l4 l5 hk => ?_)
  have hR13 : ∀ (μ : Mem) (l1 : Int32) (l2 : Int32) (l3 : Int32) (l4 : Int32) (l5 : Int32), PW G 0 0 13 [some (pR 18 0), some (pI l1), some (pI l2), some (pI l3), some (pI l4), some (pI l5)] [] μ → PW G 0 0 13 [some (pR 18 0), some (pI l1), some (pI l2), some (pI l3), some (pI l4), some (pI l5)] [] μ := fun _ _ _ _ _ _ h => h
  unfold w2_countRoots_b13_body at hk
  refine px_iload (i := 5) C dX2_countRoots_13 rfl ?_
  refine px_bipush (v := (40 : Int32)) C dX2_countRoots_15 rfl ?_
  refine px_icmp_ge (tgt := 61) C dX2_countRoots_17 (by decide) (fun c10 => ?_) (fun c10 => ?_)
  · replace hk := hk.1 c10
    refine px_iload_n (i := 3) C dX2_countRoots_61 rfl rfl ?_
    exact px_iret C hRt dX2_countRoots_62 rfl rfl hk
  · replace hk := hk.2 c10
    refine px_iload (i := 4) C dX2_countRoots_20 rfl ?_
    refine px_iconst (v := (-1 : Int32)) C dX2_countRoots_22 rfl ?_
    refine px_icmp_eq (tgt := 61) C dX2_countRoots_23 (by decide) (fun c9 => ?_) (fun c9 => ?_)
    · replace hk := hk.1 c9
      refine px_iload_n (i := 3) C dX2_countRoots_61 rfl rfl ?_
      exact px_iret C hRt dX2_countRoots_62 rfl rfl hk
    · replace hk := hk.2 c9
      refine px_iload (i := 4) C dX2_countRoots_26 rfl ?_
      refine px_sipush (v := (1000 : Int32)) C dX2_countRoots_28 rfl ?_
      refine px_icmp_lt (tgt := 38) C dX2_countRoots_31 (by decide) (fun c8 => ?_) (fun c8 => ?_)
      · replace hk := hk.1 c8
        refine px_iconst (v := (0 : Int32)) C dX2_countRoots_38 rfl ?_
        exact PW_at (w2_countRoots_b39_ok C hRt hHR hnT hR13 hk) (And.intro rfl (And.intro rfl (And.intro rfl (And.intro rfl (And.intro rfl (And.intro rfl trivial)))))) (Nat.le_of_ble_eq_true rfl) (Nat.le_of_ble_eq_true rfl)
      · replace hk := hk.2 c8
        refine px_iconst (v := (1 : Int32)) C dX2_countRoots_34 rfl ?_
        refine px_goto (tgt := 39) C dX2_countRoots_35 (by decide) ?_
        exact PW_at (w2_countRoots_b39_ok C hRt hHR hnT hR13 hk) (And.intro rfl (And.intro rfl (And.intro rfl (And.intro rfl (And.intro rfl (And.intro rfl trivial)))))) (Nat.le_of_ble_eq_true rfl) (Nat.le_of_ble_eq_true rfl)
set_option maxRecDepth 100000 in
set_option maxHeartbeats 4000000 in
theorem w2_countRoots_ok {l : Launch} {idx : List (Nat × Nat)} {μ : Mem} {a1 : Int32} {a2 : Int32} {P : Int32 → Mem → Prop} {X : String → Mem → Prop} (hl : l.stackTraces = false) (hI : IdxOK idx) (hk : w2_countRoots_wp μ a1 a2 P) : PMet l yX2_countRoots (.code yX2_countRoots cX2_countRoots 6 (some .int)) 4 0 0 idx [pR 18 0, pI a1, pI a2] μ (qI P) X := by
  refine PMet_of mv_X2_countRoots.2.2.2.2.2.2 hl hI mv_X2_countRoots.2.2.2.1 rfl (Nat.le_of_ble_eq_true rfl) (fun G _ _ C hRt hHR hnT => ?_)
  show PW G 0 0 0 [some (pR 18 0), some (pI a1), some (pI a2), none, none, none] [] μ
  unfold w2_countRoots_wp at hk
  refine px_iconst (v := (0 : Int32)) C dX2_countRoots_0 rfl ?_
  refine px_istore_n (i := 3) C dX2_countRoots_1 rfl (by decide) rfl ?_
  refine px_aload_n (i := 0) C dX2_countRoots_2 rfl rfl ?_
  refine px_iload_n (i := 1) C dX2_countRoots_3 rfl rfl ?_
  refine px_iconst (v := (-1 : Int32)) C dX2_countRoots_4 rfl ?_
  refine px_callVi (h := 3) (rc' := 0) (rs' := 0) C (HR_le hHR (Nat.le_of_ble_eq_true rfl)) hRt hnT dX2_countRoots_5 (gw4 167 rfl rfl) mv_X2_nextRoot (w2_nextRoot_ok (PCx_l C) (PCx_I C) hk) rfl rfl rfl rfl rfl (Nat.le_of_ble_eq_true rfl) (Nat.le_of_ble_eq_true rfl) (Nat.le_of_ble_eq_true rfl) (Nat.le_of_ble_eq_true rfl) ?_
  intro r2 μ1 hk
  refine px_istore (i := 4) C dX2_countRoots_8 (by decide) rfl ?_
  refine px_iconst (v := (0 : Int32)) C dX2_countRoots_10 rfl ?_
  refine px_istore (i := 5) C dX2_countRoots_11 (by decide) rfl ?_
  exact PW_at (w2_countRoots_b13_ok C hRt hHR hnT hk) (And.intro rfl (And.intro rfl (And.intro rfl (And.intro rfl (And.intro rfl (And.intro rfl trivial)))))) (Nat.le_of_ble_eq_true rfl) (Nat.le_of_ble_eq_true rfl)
theorem dX2_nthRoot_0 : decode cX2_nthRoot 0 = .ok (.iload_n 2, 1) := by decide +kernel
theorem dX2_nthRoot_1 : decode cX2_nthRoot 1 = .ok (.bipush 40, 2) := by decide +kernel
theorem dX2_nthRoot_3 : decode cX2_nthRoot 3 = .ok (.invokestatic 54, 3) := by decide +kernel
theorem dX2_nthRoot_6 : decode cX2_nthRoot 6 = .ok (.ifCond .ne 5, 3) := by decide +kernel
theorem dX2_nthRoot_9 : decode cX2_nthRoot 9 = .ok (.iconst (-1), 1) := by decide +kernel
theorem dX2_nthRoot_10 : decode cX2_nthRoot 10 = .ok (.ireturn, 1) := by decide +kernel
theorem dX2_nthRoot_11 : decode cX2_nthRoot 11 = .ok (.aload_n 0, 1) := by decide +kernel
theorem dX2_nthRoot_12 : decode cX2_nthRoot 12 = .ok (.iload_n 1, 1) := by decide +kernel
theorem dX2_nthRoot_13 : decode cX2_nthRoot 13 = .ok (.iconst (-1), 1) := by decide +kernel
theorem dX2_nthRoot_14 : decode cX2_nthRoot 14 = .ok (.invokevirtual 134, 3) := by decide +kernel
theorem dX2_nthRoot_17 : decode cX2_nthRoot 17 = .ok (.istore_n 3, 1) := by decide +kernel
theorem dX2_nthRoot_18 : decode cX2_nthRoot 18 = .ok (.iconst 0, 1) := by decide +kernel
theorem dX2_nthRoot_19 : decode cX2_nthRoot 19 = .ok (.istore 4, 2) := by decide +kernel
theorem dX2_nthRoot_21 : decode cX2_nthRoot 21 = .ok (.iload 4, 2) := by decide +kernel
theorem dX2_nthRoot_23 : decode cX2_nthRoot 23 = .ok (.iload_n 2, 1) := by decide +kernel
theorem dX2_nthRoot_24 : decode cX2_nthRoot 24 = .ok (.if_icmp .ge 21, 3) := by decide +kernel
theorem dX2_nthRoot_27 : decode cX2_nthRoot 27 = .ok (.iload_n 3, 1) := by decide +kernel
theorem dX2_nthRoot_28 : decode cX2_nthRoot 28 = .ok (.iconst (-1), 1) := by decide +kernel
theorem dX2_nthRoot_29 : decode cX2_nthRoot 29 = .ok (.if_icmp .eq 16, 3) := by decide +kernel
theorem dX2_nthRoot_32 : decode cX2_nthRoot 32 = .ok (.aload_n 0, 1) := by decide +kernel
theorem dX2_nthRoot_33 : decode cX2_nthRoot 33 = .ok (.iload_n 1, 1) := by decide +kernel
theorem dX2_nthRoot_34 : decode cX2_nthRoot 34 = .ok (.iload_n 3, 1) := by decide +kernel
theorem dX2_nthRoot_35 : decode cX2_nthRoot 35 = .ok (.invokevirtual 134, 3) := by decide +kernel
theorem dX2_nthRoot_38 : decode cX2_nthRoot 38 = .ok (.istore_n 3, 1) := by decide +kernel
theorem dX2_nthRoot_39 : decode cX2_nthRoot 39 = .ok (.iinc 4 1, 3) := by decide +kernel
theorem dX2_nthRoot_42 : decode cX2_nthRoot 42 = .ok (.goto (-21), 3) := by decide +kernel
theorem dX2_nthRoot_45 : decode cX2_nthRoot 45 = .ok (.iload_n 3, 1) := by decide +kernel
theorem dX2_nthRoot_46 : decode cX2_nthRoot 46 = .ok (.ireturn, 1) := by decide +kernel
set_option maxRecDepth 100000 in
set_option maxHeartbeats 4000000 in
theorem w2_nthRoot_b21_ok {G : GT} {P : Int32 → Mem → Prop} {X : String → Mem → Prop} (C : PCx G cX2_nthRoot 5 RX2) (hRt : PRt G (some .int) (qI P) X) (hHR : HR G (4)) (hnT : NoT G) {μ : Mem} {l1 : Int32} {l2 : Int32} {l3 : Int32} {l4 : Int32} (hk : w2_nthRoot_b21 P μ l1 l2 l3 l4) : PW G 0 0 21 [some (pR 18 0), some (pI l1), some (pI l2), some (pI l3), some (pI l4)] [] μ := by
  refine hk (fun (μ : Mem) (l1 : Int32) (l2 : Int32) (l3 : Int32) (l4 : Int32) => PW G 0 0 21 [some (pR 18 0), some (pI l1), some (pI l2), some (pI l3), some (pI l4)] [] μ) (fun (μ : Mem) l1 l2 l3 l4 hk => ?_)
  have hR21 : ∀ (μ : Mem) (l1 : Int32) (l2 : Int32) (l3 : Int32) (l4 : Int32), PW G 0 0 21 [some (pR 18 0), some (pI l1), some (pI l2), some (pI l3), some (pI l4)] [] μ → PW G 0 0 21 [some (pR 18 0), some (pI l1), some (pI l2), some (pI l3), some (pI l4)] [] μ := fun _ _ _ _ _ h => h
  unfold w2_nthRoot_b21_body at hk
  refine px_iload (i := 4) C dX2_nthRoot_21 rfl ?_
  refine px_iload_n (i := 2) C dX2_nthRoot_23 rfl rfl ?_
  refine px_icmp_ge (tgt := 45) C dX2_nthRoot_24 (by decide) (fun c8 => ?_) (fun c8 => ?_)
  · replace hk := hk.1 c8
    refine px_iload_n (i := 3) C dX2_nthRoot_45 rfl rfl ?_
    exact px_iret C hRt dX2_nthRoot_46 rfl rfl hk
  · replace hk := hk.2 c8
    refine px_iload_n (i := 3) C dX2_nthRoot_27 rfl rfl ?_
    refine px_iconst (v := (-1 : Int32)) C dX2_nthRoot_28 rfl ?_
    refine px_icmp_eq (tgt := 45) C dX2_nthRoot_29 (by decide) (fun c7 => ?_) (fun c7 => ?_)
    · replace hk := hk.1 c7
      refine px_iload_n (i := 3) C dX2_nthRoot_45 rfl rfl ?_
      exact px_iret C hRt dX2_nthRoot_46 rfl rfl hk
    · replace hk := hk.2 c7
      refine px_aload_n (i := 0) C dX2_nthRoot_32 rfl rfl ?_
      refine px_iload_n (i := 1) C dX2_nthRoot_33 rfl rfl ?_
      refine px_iload_n (i := 3) C dX2_nthRoot_34 rfl rfl ?_
      refine px_callVi (h := 3) (rc' := 0) (rs' := 0) C (HR_le hHR (Nat.le_of_ble_eq_true rfl)) hRt hnT dX2_nthRoot_35 (gw4 167 rfl rfl) mv_X2_nextRoot (w2_nextRoot_ok (PCx_l C) (PCx_I C) hk) rfl rfl rfl rfl rfl (Nat.le_of_ble_eq_true rfl) (Nat.le_of_ble_eq_true rfl) (Nat.le_of_ble_eq_true rfl) (Nat.le_of_ble_eq_true rfl) ?_
      intro r6 μ5 hk
      refine px_istore_n (i := 3) C dX2_nthRoot_38 rfl (by decide) rfl ?_
      refine px_iinc (i := 4) (v := (1 : Int32)) C dX2_nthRoot_39 rfl rfl (by decide) rfl ?_
      refine px_goto (tgt := 21) C dX2_nthRoot_42 (by decide) ?_
      exact PW_at (hR21 _ _ _ _ _ hk) (And.intro rfl (And.intro rfl (And.intro rfl (And.intro rfl (And.intro rfl trivial))))) (Nat.le_of_ble_eq_true rfl) (Nat.le_of_ble_eq_true rfl)
set_option maxRecDepth 100000 in
set_option maxHeartbeats 4000000 in
theorem w2_nthRoot_ok {l : Launch} {idx : List (Nat × Nat)} {μ : Mem} {a1 : Int32} {a2 : Int32} {P : Int32 → Mem → Prop} {X : String → Mem → Prop} (hl : l.stackTraces = false) (hI : IdxOK idx) (hk : w2_nthRoot_wp μ a1 a2 P) : PMet l yX2_nthRoot (.code yX2_nthRoot cX2_nthRoot 5 (some .int)) 4 0 0 idx [pR 18 0, pI a1, pI a2] μ (qI P) X := by
  refine PMet_of mv_X2_nthRoot.2.2.2.2.2.2 hl hI mv_X2_nthRoot.2.2.2.1 rfl (Nat.le_of_ble_eq_true rfl) (fun G _ _ C hRt hHR hnT => ?_)
  show PW G 0 0 0 [some (pR 18 0), some (pI a1), some (pI a2), none, none] [] μ
  unfold w2_nthRoot_wp at hk
  refine px_iload_n (i := 2) C dX2_nthRoot_0 rfl rfl ?_
  refine px_bipush (v := (40 : Int32)) C dX2_nthRoot_1 rfl ?_
  refine px_callSNi (h := 0) (rc' := 0) (rs' := 0) C (HR_le hHR (Nat.le_of_ble_eq_true rfl)) hRt hnT dX2_nthRoot_3 (List.mem_append_right _ (List.mem_append_left _ (List.mem_of_getElem? (i := 4) rfl))) ms_X8_isWithin (w8_isWithin_ok (PCx_l C) (PCx_I C) hk) rfl rfl (Nat.le_of_ble_eq_true rfl) (Nat.le_of_ble_eq_true rfl) (Nat.le_of_ble_eq_true rfl) (Nat.le_of_ble_eq_true rfl) ?_
  intro r2 μ1 hk
  refine px_if_ne (tgt := 11) C dX2_nthRoot_6 (by decide) (fun c9 => ?_) (fun c9 => ?_)
  · replace hk := hk.1 c9
    refine px_aload_n (i := 0) C dX2_nthRoot_11 rfl rfl ?_
    refine px_iload_n (i := 1) C dX2_nthRoot_12 rfl rfl ?_
    refine px_iconst (v := (-1 : Int32)) C dX2_nthRoot_13 rfl ?_
    refine px_callVi (h := 3) (rc' := 0) (rs' := 0) C (HR_le hHR (Nat.le_of_ble_eq_true rfl)) hRt hnT dX2_nthRoot_14 (gw4 167 rfl rfl) mv_X2_nextRoot (w2_nextRoot_ok (PCx_l C) (PCx_I C) hk) rfl rfl rfl rfl rfl (Nat.le_of_ble_eq_true rfl) (Nat.le_of_ble_eq_true rfl) (Nat.le_of_ble_eq_true rfl) (Nat.le_of_ble_eq_true rfl) ?_
    intro r4 μ3 hk
    refine px_istore_n (i := 3) C dX2_nthRoot_17 rfl (by decide) rfl ?_
    refine px_iconst (v := (0 : Int32)) C dX2_nthRoot_18 rfl ?_
    refine px_istore (i := 4) C dX2_nthRoot_19 (by decide) rfl ?_
    exact PW_at (w2_nthRoot_b21_ok C hRt hHR hnT hk) (And.intro rfl (And.intro rfl (And.intro rfl (And.intro rfl (And.intro rfl trivial))))) (Nat.le_of_ble_eq_true rfl) (Nat.le_of_ble_eq_true rfl)
  · replace hk := hk.2 c9
    refine px_iconst (v := (-1 : Int32)) C dX2_nthRoot_9 rfl ?_
    exact px_iret C hRt dX2_nthRoot_10 rfl rfl hk
theorem dX4_put_0 : decode cX4_put 0 = .ok (.aload_n 0, 1) := by decide +kernel
theorem dX4_put_1 : decode cX4_put 1 = .ok (.getfield 9, 3) := by decide +kernel
theorem dX4_put_4 : decode cX4_put 4 = .ok (.bipush 80, 2) := by decide +kernel
theorem dX4_put_6 : decode cX4_put 6 = .ok (.invokestatic 22, 3) := by decide +kernel
theorem dX4_put_9 : decode cX4_put 9 = .ok (.ifCond .eq 23, 3) := by decide +kernel
theorem dX4_put_12 : decode cX4_put 12 = .ok (.aload_n 0, 1) := by decide +kernel
theorem dX4_put_13 : decode cX4_put 13 = .ok (.getfield 18, 3) := by decide +kernel
theorem dX4_put_16 : decode cX4_put 16 = .ok (.aload_n 0, 1) := by decide +kernel
theorem dX4_put_17 : decode cX4_put 17 = .ok (.getfield 9, 3) := by decide +kernel
theorem dX4_put_20 : decode cX4_put 20 = .ok (.iload_n 1, 1) := by decide +kernel
theorem dX4_put_21 : decode cX4_put 21 = .ok (.castore, 1) := by decide +kernel
theorem dX4_put_22 : decode cX4_put 22 = .ok (.aload_n 0, 1) := by decide +kernel
theorem dX4_put_23 : decode cX4_put 23 = .ok (.dup, 1) := by decide +kernel
theorem dX4_put_24 : decode cX4_put 24 = .ok (.getfield 9, 3) := by decide +kernel
theorem dX4_put_27 : decode cX4_put 27 = .ok (.iconst 1, 1) := by decide +kernel
theorem dX4_put_28 : decode cX4_put 28 = .ok (.iadd, 1) := by decide +kernel
theorem dX4_put_29 : decode cX4_put 29 = .ok (.putfield 9, 3) := by decide +kernel
theorem dX4_put_32 : decode cX4_put 32 = .ok (.return_, 1) := by decide +kernel
set_option maxRecDepth 100000 in
set_option maxHeartbeats 4000000 in
theorem w4_put_ok {l : Launch} {idx : List (Nat × Nat)} {μ : Mem} {a1 : Int32} {P : Mem → Prop} {X : String → Mem → Prop} (hl : l.stackTraces = false) (hI : IdxOK idx) (hk : w4_put_wp μ a1 P) : PMet l yX4_put (.code yX4_put cX4_put 2 none) 1 0 0 idx [pR 38 0, pI a1] μ (qV P) X := by
  refine PMet_of mv_X4_put.2.2.2.2.2.2 hl hI mv_X4_put.2.2.2.1 rfl (Nat.le_of_ble_eq_true rfl) (fun G _ _ C hRt hHR hnT => ?_)
  show PW G 0 0 0 [some (pR 38 0), some (pI a1)] [] μ
  unfold w4_put_wp at hk
  refine px_aload_n (i := 0) C dX4_put_0 rfl rfl ?_
  refine px_geti 2433 C dX4_put_1 fl_RX4_9 rfl rfl rfl rfl ?_
  refine px_bipush (v := (80 : Int32)) C dX4_put_4 rfl ?_
  refine px_callSNi (h := 0) (rc' := 0) (rs' := 0) C (HR_le hHR (Nat.le_of_ble_eq_true rfl)) hRt hnT dX4_put_6 (List.mem_append_right _ (List.mem_append_left _ (List.mem_of_getElem? (i := 8) rfl))) ms_X8_isWithin (w8_isWithin_ok (PCx_l C) (PCx_I C) hk) rfl rfl (Nat.le_of_ble_eq_true rfl) (Nat.le_of_ble_eq_true rfl) (Nat.le_of_ble_eq_true rfl) (Nat.le_of_ble_eq_true rfl) ?_
  intro r2 μ1 hk
  refine px_if_eq (tgt := 32) C dX4_put_9 (by decide) (fun c6 => ?_) (fun c6 => ?_)
  · replace hk := hk.1 c6
    exact px_vret C hRt dX4_put_32 rfl hk
  · replace hk := hk.2 c6
    refine px_aload_n (i := 0) C dX4_put_12 rfl rfl ?_
    refine px_getr C dX4_put_13 fl_RX4_18 rfl rfl rfl ?_
    refine px_aload_n (i := 0) C dX4_put_16 rfl rfl ?_
    refine px_geti 2433 C dX4_put_17 fl_RX4_9 rfl rfl rfl rfl ?_
    refine px_iload_n (i := 1) C dX4_put_20 rfl rfl ?_
    obtain ⟨o3, hk⟩ := hk
    replace hk := hk _ rfl
    refine px_cast 2496 C dX4_put_21 rfl rfl rfl rfl o3 ?_
    refine px_aload_n (i := 0) C dX4_put_22 rfl rfl ?_
    refine px_dup C dX4_put_23 rfl ?_
    refine px_geti 2433 C dX4_put_24 fl_RX4_9 rfl rfl rfl rfl ?_
    refine px_iconst (v := (1 : Int32)) C dX4_put_27 rfl ?_
    refine px_iadd C dX4_put_28 ?_
    replace hk := hk _ rfl
    refine px_puti 2433 C dX4_put_29 fp_RX4_9 rfl rfl rfl rfl rfl rfl ?_
    exact px_vret C hRt dX4_put_32 rfl hk
theorem dX4_take_0 : decode cX4_take 0 = .ok (.aload_n 0, 1) := by decide +kernel
theorem dX4_take_1 : decode cX4_take 1 = .ok (.getfield 15, 3) := by decide +kernel
theorem dX4_take_4 : decode cX4_take 4 = .ok (.bipush 80, 2) := by decide +kernel
theorem dX4_take_6 : decode cX4_take 6 = .ok (.invokestatic 22, 3) := by decide +kernel
theorem dX4_take_9 : decode cX4_take 9 = .ok (.ifCond .eq 39, 3) := by decide +kernel
theorem dX4_take_12 : decode cX4_take 12 = .ok (.aload_n 0, 1) := by decide +kernel
theorem dX4_take_13 : decode cX4_take 13 = .ok (.getfield 15, 3) := by decide +kernel
theorem dX4_take_16 : decode cX4_take 16 = .ok (.aload_n 0, 1) := by decide +kernel
theorem dX4_take_17 : decode cX4_take 17 = .ok (.getfield 9, 3) := by decide +kernel
theorem dX4_take_20 : decode cX4_take 20 = .ok (.if_icmp .ge 28, 3) := by decide +kernel
theorem dX4_take_23 : decode cX4_take 23 = .ok (.aload_n 0, 1) := by decide +kernel
theorem dX4_take_24 : decode cX4_take 24 = .ok (.getfield 18, 3) := by decide +kernel
theorem dX4_take_27 : decode cX4_take 27 = .ok (.aload_n 0, 1) := by decide +kernel
theorem dX4_take_28 : decode cX4_take 28 = .ok (.getfield 15, 3) := by decide +kernel
theorem dX4_take_31 : decode cX4_take 31 = .ok (.caload, 1) := by decide +kernel
theorem dX4_take_32 : decode cX4_take 32 = .ok (.iload_n 1, 1) := by decide +kernel
theorem dX4_take_33 : decode cX4_take 33 = .ok (.if_icmp .ne 15, 3) := by decide +kernel
theorem dX4_take_36 : decode cX4_take 36 = .ok (.aload_n 0, 1) := by decide +kernel
theorem dX4_take_37 : decode cX4_take 37 = .ok (.dup, 1) := by decide +kernel
theorem dX4_take_38 : decode cX4_take 38 = .ok (.getfield 15, 3) := by decide +kernel
theorem dX4_take_41 : decode cX4_take 41 = .ok (.iconst 1, 1) := by decide +kernel
theorem dX4_take_42 : decode cX4_take 42 = .ok (.iadd, 1) := by decide +kernel
theorem dX4_take_43 : decode cX4_take 43 = .ok (.putfield 15, 3) := by decide +kernel
theorem dX4_take_46 : decode cX4_take 46 = .ok (.iconst 1, 1) := by decide +kernel
theorem dX4_take_47 : decode cX4_take 47 = .ok (.ireturn, 1) := by decide +kernel
theorem dX4_take_48 : decode cX4_take 48 = .ok (.iconst 0, 1) := by decide +kernel
theorem dX4_take_49 : decode cX4_take 49 = .ok (.ireturn, 1) := by decide +kernel
set_option maxRecDepth 100000 in
set_option maxHeartbeats 4000000 in
theorem w4_take_ok {l : Launch} {idx : List (Nat × Nat)} {μ : Mem} {a1 : Int32} {P : Int32 → Mem → Prop} {X : String → Mem → Prop} (hl : l.stackTraces = false) (hI : IdxOK idx) (hk : w4_take_wp μ a1 P) : PMet l yX4_take (.code yX4_take cX4_take 2 (some .boolean)) 1 0 0 idx [pR 38 0, pI a1] μ (qI P) X := by
  refine PMet_of mv_X4_take.2.2.2.2.2.2 hl hI mv_X4_take.2.2.2.1 rfl (Nat.le_of_ble_eq_true rfl) (fun G _ _ C hRt hHR hnT => ?_)
  show PW G 0 0 0 [some (pR 38 0), some (pI a1)] [] μ
  unfold w4_take_wp at hk
  refine px_aload_n (i := 0) C dX4_take_0 rfl rfl ?_
  refine px_geti 2434 C dX4_take_1 fl_RX4_15 rfl rfl rfl rfl ?_
  refine px_bipush (v := (80 : Int32)) C dX4_take_4 rfl ?_
  refine px_callSNi (h := 0) (rc' := 0) (rs' := 0) C (HR_le hHR (Nat.le_of_ble_eq_true rfl)) hRt hnT dX4_take_6 (List.mem_append_right _ (List.mem_append_left _ (List.mem_of_getElem? (i := 8) rfl))) ms_X8_isWithin (w8_isWithin_ok (PCx_l C) (PCx_I C) hk) rfl rfl (Nat.le_of_ble_eq_true rfl) (Nat.le_of_ble_eq_true rfl) (Nat.le_of_ble_eq_true rfl) (Nat.le_of_ble_eq_true rfl) ?_
  intro r2 μ1 hk
  refine px_if_eq (tgt := 48) C dX4_take_9 (by decide) (fun c7 => ?_) (fun c7 => ?_)
  · replace hk := hk.1 c7
    refine px_iconst (v := (0 : Int32)) C dX4_take_48 rfl ?_
    exact px_iret C hRt dX4_take_49 rfl rfl hk
  · replace hk := hk.2 c7
    refine px_aload_n (i := 0) C dX4_take_12 rfl rfl ?_
    refine px_geti 2434 C dX4_take_13 fl_RX4_15 rfl rfl rfl rfl ?_
    refine px_aload_n (i := 0) C dX4_take_16 rfl rfl ?_
    refine px_geti 2433 C dX4_take_17 fl_RX4_9 rfl rfl rfl rfl ?_
    refine px_icmp_ge (tgt := 48) C dX4_take_20 (by decide) (fun c6 => ?_) (fun c6 => ?_)
    · replace hk := hk.1 c6
      refine px_iconst (v := (0 : Int32)) C dX4_take_48 rfl ?_
      exact px_iret C hRt dX4_take_49 rfl rfl hk
    · replace hk := hk.2 c6
      refine px_aload_n (i := 0) C dX4_take_23 rfl rfl ?_
      refine px_getr C dX4_take_24 fl_RX4_18 rfl rfl rfl ?_
      refine px_aload_n (i := 0) C dX4_take_27 rfl rfl ?_
      refine px_geti 2434 C dX4_take_28 fl_RX4_15 rfl rfl rfl rfl ?_
      obtain ⟨o3, hk⟩ := hk
      refine px_cald 2496 C dX4_take_31 rfl rfl rfl rfl o3 ?_
      refine px_iload_n (i := 1) C dX4_take_32 rfl rfl ?_
      refine px_icmp_ne (tgt := 48) C dX4_take_33 (by decide) (fun c5 => ?_) (fun c5 => ?_)
      · replace hk := hk.1 c5
        refine px_iconst (v := (0 : Int32)) C dX4_take_48 rfl ?_
        exact px_iret C hRt dX4_take_49 rfl rfl hk
      · replace hk := hk.2 c5
        refine px_aload_n (i := 0) C dX4_take_36 rfl rfl ?_
        refine px_dup C dX4_take_37 rfl ?_
        refine px_geti 2434 C dX4_take_38 fl_RX4_15 rfl rfl rfl rfl ?_
        refine px_iconst (v := (1 : Int32)) C dX4_take_41 rfl ?_
        refine px_iadd C dX4_take_42 ?_
        replace hk := hk _ rfl
        refine px_puti 2434 C dX4_take_43 fp_RX4_15 rfl rfl rfl rfl rfl rfl ?_
        refine px_iconst (v := (1 : Int32)) C dX4_take_46 rfl ?_
        exact px_iret C hRt dX4_take_47 rfl rfl hk
theorem dX4_takeDigit_0 : decode cX4_takeDigit 0 = .ok (.aload_n 0, 1) := by decide +kernel
theorem dX4_takeDigit_1 : decode cX4_takeDigit 1 = .ok (.getfield 15, 3) := by decide +kernel
theorem dX4_takeDigit_4 : decode cX4_takeDigit 4 = .ok (.bipush 80, 2) := by decide +kernel
theorem dX4_takeDigit_6 : decode cX4_takeDigit 6 = .ok (.invokestatic 22, 3) := by decide +kernel
theorem dX4_takeDigit_9 : decode cX4_takeDigit 9 = .ok (.ifCond .eq 14, 3) := by decide +kernel
theorem dX4_takeDigit_12 : decode cX4_takeDigit 12 = .ok (.aload_n 0, 1) := by decide +kernel
theorem dX4_takeDigit_13 : decode cX4_takeDigit 13 = .ok (.getfield 15, 3) := by decide +kernel
theorem dX4_takeDigit_16 : decode cX4_takeDigit 16 = .ok (.aload_n 0, 1) := by decide +kernel
theorem dX4_takeDigit_17 : decode cX4_takeDigit 17 = .ok (.getfield 9, 3) := by decide +kernel
theorem dX4_takeDigit_20 : decode cX4_takeDigit 20 = .ok (.if_icmp .lt 5, 3) := by decide +kernel
theorem dX4_takeDigit_23 : decode cX4_takeDigit 23 = .ok (.iconst (-1), 1) := by decide +kernel
theorem dX4_takeDigit_24 : decode cX4_takeDigit 24 = .ok (.ireturn, 1) := by decide +kernel
theorem dX4_takeDigit_25 : decode cX4_takeDigit 25 = .ok (.aload_n 0, 1) := by decide +kernel
theorem dX4_takeDigit_26 : decode cX4_takeDigit 26 = .ok (.getfield 18, 3) := by decide +kernel
theorem dX4_takeDigit_29 : decode cX4_takeDigit 29 = .ok (.aload_n 0, 1) := by decide +kernel
theorem dX4_takeDigit_30 : decode cX4_takeDigit 30 = .ok (.getfield 15, 3) := by decide +kernel
theorem dX4_takeDigit_33 : decode cX4_takeDigit 33 = .ok (.caload, 1) := by decide +kernel
theorem dX4_takeDigit_34 : decode cX4_takeDigit 34 = .ok (.bipush 48, 2) := by decide +kernel
theorem dX4_takeDigit_36 : decode cX4_takeDigit 36 = .ok (.isub, 1) := by decide +kernel
theorem dX4_takeDigit_37 : decode cX4_takeDigit 37 = .ok (.istore_n 2, 1) := by decide +kernel
theorem dX4_takeDigit_38 : decode cX4_takeDigit 38 = .ok (.iload_n 2, 1) := by decide +kernel
theorem dX4_takeDigit_39 : decode cX4_takeDigit 39 = .ok (.ifCond .lt 8, 3) := by decide +kernel
theorem dX4_takeDigit_42 : decode cX4_takeDigit 42 = .ok (.iload_n 2, 1) := by decide +kernel
theorem dX4_takeDigit_43 : decode cX4_takeDigit 43 = .ok (.iload_n 1, 1) := by decide +kernel
theorem dX4_takeDigit_44 : decode cX4_takeDigit 44 = .ok (.if_icmp .le 5, 3) := by decide +kernel
theorem dX4_takeDigit_47 : decode cX4_takeDigit 47 = .ok (.iconst (-1), 1) := by decide +kernel
theorem dX4_takeDigit_48 : decode cX4_takeDigit 48 = .ok (.ireturn, 1) := by decide +kernel
theorem dX4_takeDigit_49 : decode cX4_takeDigit 49 = .ok (.aload_n 0, 1) := by decide +kernel
theorem dX4_takeDigit_50 : decode cX4_takeDigit 50 = .ok (.dup, 1) := by decide +kernel
theorem dX4_takeDigit_51 : decode cX4_takeDigit 51 = .ok (.getfield 15, 3) := by decide +kernel
theorem dX4_takeDigit_54 : decode cX4_takeDigit 54 = .ok (.iconst 1, 1) := by decide +kernel
theorem dX4_takeDigit_55 : decode cX4_takeDigit 55 = .ok (.iadd, 1) := by decide +kernel
theorem dX4_takeDigit_56 : decode cX4_takeDigit 56 = .ok (.putfield 15, 3) := by decide +kernel
theorem dX4_takeDigit_59 : decode cX4_takeDigit 59 = .ok (.iload_n 2, 1) := by decide +kernel
theorem dX4_takeDigit_60 : decode cX4_takeDigit 60 = .ok (.ireturn, 1) := by decide +kernel
set_option maxRecDepth 100000 in
set_option maxHeartbeats 4000000 in
theorem w4_takeDigit_ok {l : Launch} {idx : List (Nat × Nat)} {μ : Mem} {a1 : Int32} {P : Int32 → Mem → Prop} {X : String → Mem → Prop} (hl : l.stackTraces = false) (hI : IdxOK idx) (hk : w4_takeDigit_wp μ a1 P) : PMet l yX4_takeDigit (.code yX4_takeDigit cX4_takeDigit 3 (some .int)) 1 0 0 idx [pR 38 0, pI a1] μ (qI P) X := by
  refine PMet_of mv_X4_takeDigit.2.2.2.2.2.2 hl hI mv_X4_takeDigit.2.2.2.1 rfl (Nat.le_of_ble_eq_true rfl) (fun G _ _ C hRt hHR hnT => ?_)
  show PW G 0 0 0 [some (pR 38 0), some (pI a1), none] [] μ
  unfold w4_takeDigit_wp at hk
  refine px_aload_n (i := 0) C dX4_takeDigit_0 rfl rfl ?_
  refine px_geti 2434 C dX4_takeDigit_1 fl_RX4_15 rfl rfl rfl rfl ?_
  refine px_bipush (v := (80 : Int32)) C dX4_takeDigit_4 rfl ?_
  refine px_callSNi (h := 0) (rc' := 0) (rs' := 0) C (HR_le hHR (Nat.le_of_ble_eq_true rfl)) hRt hnT dX4_takeDigit_6 (List.mem_append_right _ (List.mem_append_left _ (List.mem_of_getElem? (i := 8) rfl))) ms_X8_isWithin (w8_isWithin_ok (PCx_l C) (PCx_I C) hk) rfl rfl (Nat.le_of_ble_eq_true rfl) (Nat.le_of_ble_eq_true rfl) (Nat.le_of_ble_eq_true rfl) (Nat.le_of_ble_eq_true rfl) ?_
  intro r2 μ1 hk
  refine px_if_eq (tgt := 23) C dX4_takeDigit_9 (by decide) (fun c8 => ?_) (fun c8 => ?_)
  · replace hk := hk.1 c8
    refine px_iconst (v := (-1 : Int32)) C dX4_takeDigit_23 rfl ?_
    exact px_iret C hRt dX4_takeDigit_24 rfl rfl hk
  · replace hk := hk.2 c8
    refine px_aload_n (i := 0) C dX4_takeDigit_12 rfl rfl ?_
    refine px_geti 2434 C dX4_takeDigit_13 fl_RX4_15 rfl rfl rfl rfl ?_
    refine px_aload_n (i := 0) C dX4_takeDigit_16 rfl rfl ?_
    refine px_geti 2433 C dX4_takeDigit_17 fl_RX4_9 rfl rfl rfl rfl ?_
    refine px_icmp_lt (tgt := 25) C dX4_takeDigit_20 (by decide) (fun c7 => ?_) (fun c7 => ?_)
    · replace hk := hk.1 c7
      refine px_aload_n (i := 0) C dX4_takeDigit_25 rfl rfl ?_
      refine px_getr C dX4_takeDigit_26 fl_RX4_18 rfl rfl rfl ?_
      refine px_aload_n (i := 0) C dX4_takeDigit_29 rfl rfl ?_
      refine px_geti 2434 C dX4_takeDigit_30 fl_RX4_15 rfl rfl rfl rfl ?_
      obtain ⟨o3, hk⟩ := hk
      refine px_cald 2496 C dX4_takeDigit_33 rfl rfl rfl rfl o3 ?_
      refine px_bipush (v := (48 : Int32)) C dX4_takeDigit_34 rfl ?_
      refine px_isub C dX4_takeDigit_36 ?_
      refine px_istore_n (i := 2) C dX4_takeDigit_37 rfl (by decide) rfl ?_
      refine px_iload_n (i := 2) C dX4_takeDigit_38 rfl rfl ?_
      refine px_if_lt (tgt := 47) C dX4_takeDigit_39 (by decide) (fun c6 => ?_) (fun c6 => ?_)
      · replace hk := hk.1 c6
        refine px_iconst (v := (-1 : Int32)) C dX4_takeDigit_47 rfl ?_
        exact px_iret C hRt dX4_takeDigit_48 rfl rfl hk
      · replace hk := hk.2 c6
        refine px_iload_n (i := 2) C dX4_takeDigit_42 rfl rfl ?_
        refine px_iload_n (i := 1) C dX4_takeDigit_43 rfl rfl ?_
        refine px_icmp_le (tgt := 49) C dX4_takeDigit_44 (by decide) (fun c5 => ?_) (fun c5 => ?_)
        · replace hk := hk.1 c5
          refine px_aload_n (i := 0) C dX4_takeDigit_49 rfl rfl ?_
          refine px_dup C dX4_takeDigit_50 rfl ?_
          refine px_geti 2434 C dX4_takeDigit_51 fl_RX4_15 rfl rfl rfl rfl ?_
          refine px_iconst (v := (1 : Int32)) C dX4_takeDigit_54 rfl ?_
          refine px_iadd C dX4_takeDigit_55 ?_
          replace hk := hk _ rfl
          refine px_puti 2434 C dX4_takeDigit_56 fp_RX4_15 rfl rfl rfl rfl rfl rfl ?_
          refine px_iload_n (i := 2) C dX4_takeDigit_59 rfl rfl ?_
          exact px_iret C hRt dX4_takeDigit_60 rfl rfl hk
        · replace hk := hk.2 c5
          refine px_iconst (v := (-1 : Int32)) C dX4_takeDigit_47 rfl ?_
          exact px_iret C hRt dX4_takeDigit_48 rfl rfl hk
    · replace hk := hk.2 c7
      refine px_iconst (v := (-1 : Int32)) C dX4_takeDigit_23 rfl ?_
      exact px_iret C hRt dX4_takeDigit_24 rfl rfl hk
theorem dX4_takeNumber_0 : decode cX4_takeNumber 0 = .ok (.aload_n 0, 1) := by decide +kernel
theorem dX4_takeNumber_1 : decode cX4_takeNumber 1 = .ok (.bipush 9, 2) := by decide +kernel
theorem dX4_takeNumber_3 : decode cX4_takeNumber 3 = .ok (.invokevirtual 35, 3) := by decide +kernel
theorem dX4_takeNumber_6 : decode cX4_takeNumber 6 = .ok (.istore_n 2, 1) := by decide +kernel
theorem dX4_takeNumber_7 : decode cX4_takeNumber 7 = .ok (.iload_n 2, 1) := by decide +kernel
theorem dX4_takeNumber_8 : decode cX4_takeNumber 8 = .ok (.iconst (-1), 1) := by decide +kernel
theorem dX4_takeNumber_9 : decode cX4_takeNumber 9 = .ok (.if_icmp .ne 5, 3) := by decide +kernel
theorem dX4_takeNumber_12 : decode cX4_takeNumber 12 = .ok (.iconst (-1), 1) := by decide +kernel
theorem dX4_takeNumber_13 : decode cX4_takeNumber 13 = .ok (.ireturn, 1) := by decide +kernel
theorem dX4_takeNumber_14 : decode cX4_takeNumber 14 = .ok (.iconst 1, 1) := by decide +kernel
theorem dX4_takeNumber_15 : decode cX4_takeNumber 15 = .ok (.istore_n 3, 1) := by decide +kernel
theorem dX4_takeNumber_16 : decode cX4_takeNumber 16 = .ok (.iload_n 3, 1) := by decide +kernel
theorem dX4_takeNumber_17 : decode cX4_takeNumber 17 = .ok (.iload_n 1, 1) := by decide +kernel
theorem dX4_takeNumber_18 : decode cX4_takeNumber 18 = .ok (.if_icmp .ge 33, 3) := by decide +kernel
theorem dX4_takeNumber_21 : decode cX4_takeNumber 21 = .ok (.aload_n 0, 1) := by decide +kernel
theorem dX4_takeNumber_22 : decode cX4_takeNumber 22 = .ok (.bipush 9, 2) := by decide +kernel
theorem dX4_takeNumber_24 : decode cX4_takeNumber 24 = .ok (.invokevirtual 35, 3) := by decide +kernel
theorem dX4_takeNumber_27 : decode cX4_takeNumber 27 = .ok (.istore 4, 2) := by decide +kernel
theorem dX4_takeNumber_29 : decode cX4_takeNumber 29 = .ok (.iload 4, 2) := by decide +kernel
theorem dX4_takeNumber_31 : decode cX4_takeNumber 31 = .ok (.iconst (-1), 1) := by decide +kernel
theorem dX4_takeNumber_32 : decode cX4_takeNumber 32 = .ok (.if_icmp .ne 5, 3) := by decide +kernel
theorem dX4_takeNumber_35 : decode cX4_takeNumber 35 = .ok (.iload_n 2, 1) := by decide +kernel
theorem dX4_takeNumber_36 : decode cX4_takeNumber 36 = .ok (.ireturn, 1) := by decide +kernel
theorem dX4_takeNumber_37 : decode cX4_takeNumber 37 = .ok (.bipush 10, 2) := by decide +kernel
theorem dX4_takeNumber_39 : decode cX4_takeNumber 39 = .ok (.iload_n 2, 1) := by decide +kernel
theorem dX4_takeNumber_40 : decode cX4_takeNumber 40 = .ok (.imul, 1) := by decide +kernel
theorem dX4_takeNumber_41 : decode cX4_takeNumber 41 = .ok (.iload 4, 2) := by decide +kernel
theorem dX4_takeNumber_43 : decode cX4_takeNumber 43 = .ok (.iadd, 1) := by decide +kernel
theorem dX4_takeNumber_44 : decode cX4_takeNumber 44 = .ok (.istore_n 2, 1) := by decide +kernel
theorem dX4_takeNumber_45 : decode cX4_takeNumber 45 = .ok (.iinc 3 1, 3) := by decide +kernel
theorem dX4_takeNumber_48 : decode cX4_takeNumber 48 = .ok (.goto (-32), 3) := by decide +kernel
theorem dX4_takeNumber_51 : decode cX4_takeNumber 51 = .ok (.iload_n 2, 1) := by decide +kernel
theorem dX4_takeNumber_52 : decode cX4_takeNumber 52 = .ok (.ireturn, 1) := by decide +kernel
set_option maxRecDepth 100000 in
set_option maxHeartbeats 4000000 in
theorem w4_takeNumber_b16_ok {G : GT} {P : Int32 → Mem → Prop} {X : String → Mem → Prop} (C : PCx G cX4_takeNumber 5 RX4) (hRt : PRt G (some .int) (qI P) X) (hHR : HR G (2)) (hnT : NoT G) {μ : Mem} {l1 : Int32} {l2 : Int32} {l3 : Int32} (hk : w4_takeNumber_b16 P μ l1 l2 l3) : PW G 0 0 16 [some (pR 38 0), some (pI l1), some (pI l2), some (pI l3), none] [] μ := by
  refine hk (fun (μ : Mem) (l1 : Int32) (l2 : Int32) (l3 : Int32) => PW G 0 0 16 [some (pR 38 0), some (pI l1), some (pI l2), some (pI l3), none] [] μ) (fun (μ : Mem) l1 l2 l3 hk => ?_)
  have hR16 : ∀ (μ : Mem) (l1 : Int32) (l2 : Int32) (l3 : Int32), PW G 0 0 16 [some (pR 38 0), some (pI l1), some (pI l2), some (pI l3), none] [] μ → PW G 0 0 16 [some (pR 38 0), some (pI l1), some (pI l2), some (pI l3), none] [] μ := fun _ _ _ _ h => h
  unfold w4_takeNumber_b16_body at hk
  refine px_iload_n (i := 3) C dX4_takeNumber_16 rfl rfl ?_
  refine px_iload_n (i := 1) C dX4_takeNumber_17 rfl rfl ?_
  refine px_icmp_ge (tgt := 51) C dX4_takeNumber_18 (by decide) (fun c6 => ?_) (fun c6 => ?_)
  · replace hk := hk.1 c6
    refine px_iload_n (i := 2) C dX4_takeNumber_51 rfl rfl ?_
    exact px_iret C hRt dX4_takeNumber_52 rfl rfl hk
  · replace hk := hk.2 c6
    refine px_aload_n (i := 0) C dX4_takeNumber_21 rfl rfl ?_
    refine px_bipush (v := (9 : Int32)) C dX4_takeNumber_22 rfl ?_
    refine px_callVi (h := 1) (rc' := 0) (rs' := 0) C (HR_le hHR (Nat.le_of_ble_eq_true rfl)) hRt hnT dX4_takeNumber_24 (gw6 108 rfl rfl) mv_X4_takeDigit (w4_takeDigit_ok (PCx_l C) (PCx_I C) hk) rfl rfl rfl rfl rfl (Nat.le_of_ble_eq_true rfl) (Nat.le_of_ble_eq_true rfl) (Nat.le_of_ble_eq_true rfl) (Nat.le_of_ble_eq_true rfl) ?_
    intro r4 μ3 hk
    refine px_istore (i := 4) C dX4_takeNumber_27 (by decide) rfl ?_
    refine px_iload (i := 4) C dX4_takeNumber_29 rfl ?_
    refine px_iconst (v := (-1 : Int32)) C dX4_takeNumber_31 rfl ?_
    refine px_icmp_ne (tgt := 37) C dX4_takeNumber_32 (by decide) (fun c5 => ?_) (fun c5 => ?_)
    · replace hk := hk.1 c5
      refine px_bipush (v := (10 : Int32)) C dX4_takeNumber_37 rfl ?_
      refine px_iload_n (i := 2) C dX4_takeNumber_39 rfl rfl ?_
      refine px_imul C dX4_takeNumber_40 ?_
      refine px_iload (i := 4) C dX4_takeNumber_41 rfl ?_
      refine px_iadd C dX4_takeNumber_43 ?_
      refine px_istore_n (i := 2) C dX4_takeNumber_44 rfl (by decide) rfl ?_
      refine px_iinc (i := 3) (v := (1 : Int32)) C dX4_takeNumber_45 rfl rfl (by decide) rfl ?_
      refine px_goto (tgt := 16) C dX4_takeNumber_48 (by decide) ?_
      exact PW_at (hR16 _ _ _ _ hk) (And.intro rfl (And.intro rfl (And.intro rfl (And.intro rfl trivial)))) (Nat.le_of_ble_eq_true rfl) (Nat.le_of_ble_eq_true rfl)
    · replace hk := hk.2 c5
      refine px_iload_n (i := 2) C dX4_takeNumber_35 rfl rfl ?_
      exact px_iret C hRt dX4_takeNumber_36 rfl rfl hk
set_option maxRecDepth 100000 in
set_option maxHeartbeats 4000000 in
theorem w4_takeNumber_ok {l : Launch} {idx : List (Nat × Nat)} {μ : Mem} {a1 : Int32} {P : Int32 → Mem → Prop} {X : String → Mem → Prop} (hl : l.stackTraces = false) (hI : IdxOK idx) (hk : w4_takeNumber_wp μ a1 P) : PMet l yX4_takeNumber (.code yX4_takeNumber cX4_takeNumber 5 (some .int)) 2 0 0 idx [pR 38 0, pI a1] μ (qI P) X := by
  refine PMet_of mv_X4_takeNumber.2.2.2.2.2.2 hl hI mv_X4_takeNumber.2.2.2.1 rfl (Nat.le_of_ble_eq_true rfl) (fun G _ _ C hRt hHR hnT => ?_)
  show PW G 0 0 0 [some (pR 38 0), some (pI a1), none, none, none] [] μ
  unfold w4_takeNumber_wp at hk
  refine px_aload_n (i := 0) C dX4_takeNumber_0 rfl rfl ?_
  refine px_bipush (v := (9 : Int32)) C dX4_takeNumber_1 rfl ?_
  refine px_callVi (h := 1) (rc' := 0) (rs' := 0) C (HR_le hHR (Nat.le_of_ble_eq_true rfl)) hRt hnT dX4_takeNumber_3 (gw6 108 rfl rfl) mv_X4_takeDigit (w4_takeDigit_ok (PCx_l C) (PCx_I C) hk) rfl rfl rfl rfl rfl (Nat.le_of_ble_eq_true rfl) (Nat.le_of_ble_eq_true rfl) (Nat.le_of_ble_eq_true rfl) (Nat.le_of_ble_eq_true rfl) ?_
  intro r2 μ1 hk
  refine px_istore_n (i := 2) C dX4_takeNumber_6 rfl (by decide) rfl ?_
  refine px_iload_n (i := 2) C dX4_takeNumber_7 rfl rfl ?_
  refine px_iconst (v := (-1 : Int32)) C dX4_takeNumber_8 rfl ?_
  refine px_icmp_ne (tgt := 14) C dX4_takeNumber_9 (by decide) (fun c7 => ?_) (fun c7 => ?_)
  · replace hk := hk.1 c7
    refine px_iconst (v := (1 : Int32)) C dX4_takeNumber_14 rfl ?_
    refine px_istore_n (i := 3) C dX4_takeNumber_15 rfl (by decide) rfl ?_
    exact PW_at (w4_takeNumber_b16_ok C hRt hHR hnT hk) (And.intro rfl (And.intro rfl (And.intro rfl (And.intro rfl trivial)))) (Nat.le_of_ble_eq_true rfl) (Nat.le_of_ble_eq_true rfl)
  · replace hk := hk.2 c7
    refine px_iconst (v := (-1 : Int32)) C dX4_takeNumber_12 rfl ?_
    exact px_iret C hRt dX4_takeNumber_13 rfl rfl hk
theorem dX5_enter_0 : decode cX5_enter 0 = .ok (.aload_n 0, 1) := by decide +kernel
theorem dX5_enter_1 : decode cX5_enter 1 = .ok (.getfield 28, 3) := by decide +kernel
theorem dX5_enter_4 : decode cX5_enter 4 = .ok (.bipush 41, 2) := by decide +kernel
theorem dX5_enter_6 : decode cX5_enter 6 = .ok (.invokestatic 61, 3) := by decide +kernel
theorem dX5_enter_9 : decode cX5_enter 9 = .ok (.ifCond .eq 43, 3) := by decide +kernel
theorem dX5_enter_12 : decode cX5_enter 12 = .ok (.aload_n 0, 1) := by decide +kernel
theorem dX5_enter_13 : decode cX5_enter 13 = .ok (.getfield 31, 3) := by decide +kernel
theorem dX5_enter_16 : decode cX5_enter 16 = .ok (.aload_n 0, 1) := by decide +kernel
theorem dX5_enter_17 : decode cX5_enter 17 = .ok (.getfield 28, 3) := by decide +kernel
theorem dX5_enter_20 : decode cX5_enter 20 = .ok (.iload_n 1, 1) := by decide +kernel
theorem dX5_enter_21 : decode cX5_enter 21 = .ok (.iastore, 1) := by decide +kernel
theorem dX5_enter_22 : decode cX5_enter 22 = .ok (.aload_n 0, 1) := by decide +kernel
theorem dX5_enter_23 : decode cX5_enter 23 = .ok (.getfield 34, 3) := by decide +kernel
theorem dX5_enter_26 : decode cX5_enter 26 = .ok (.aload_n 0, 1) := by decide +kernel
theorem dX5_enter_27 : decode cX5_enter 27 = .ok (.getfield 28, 3) := by decide +kernel
theorem dX5_enter_30 : decode cX5_enter 30 = .ok (.iload_n 2, 1) := by decide +kernel
theorem dX5_enter_31 : decode cX5_enter 31 = .ok (.iastore, 1) := by decide +kernel
theorem dX5_enter_32 : decode cX5_enter 32 = .ok (.aload_n 0, 1) := by decide +kernel
theorem dX5_enter_33 : decode cX5_enter 33 = .ok (.getfield 37, 3) := by decide +kernel
theorem dX5_enter_36 : decode cX5_enter 36 = .ok (.aload_n 0, 1) := by decide +kernel
theorem dX5_enter_37 : decode cX5_enter 37 = .ok (.getfield 28, 3) := by decide +kernel
theorem dX5_enter_40 : decode cX5_enter 40 = .ok (.iload_n 3, 1) := by decide +kernel
theorem dX5_enter_41 : decode cX5_enter 41 = .ok (.iastore, 1) := by decide +kernel
theorem dX5_enter_42 : decode cX5_enter 42 = .ok (.aload_n 0, 1) := by decide +kernel
theorem dX5_enter_43 : decode cX5_enter 43 = .ok (.dup, 1) := by decide +kernel
theorem dX5_enter_44 : decode cX5_enter 44 = .ok (.getfield 28, 3) := by decide +kernel
theorem dX5_enter_47 : decode cX5_enter 47 = .ok (.iconst 1, 1) := by decide +kernel
theorem dX5_enter_48 : decode cX5_enter 48 = .ok (.iadd, 1) := by decide +kernel
theorem dX5_enter_49 : decode cX5_enter 49 = .ok (.putfield 28, 3) := by decide +kernel
theorem dX5_enter_52 : decode cX5_enter 52 = .ok (.return_, 1) := by decide +kernel
set_option maxRecDepth 100000 in
set_option maxHeartbeats 4000000 in
theorem w5_enter_ok {l : Launch} {idx : List (Nat × Nat)} {μ : Mem} {a1 : Int32} {a2 : Int32} {a3 : Int32} {P : Mem → Prop} {X : String → Mem → Prop} (hl : l.stackTraces = false) (hI : IdxOK idx) (hk : w5_enter_wp μ a1 a2 a3 P) : PMet l yX5_enter (.code yX5_enter cX5_enter 4 none) 1 0 0 idx [pR 27 0, pI a1, pI a2, pI a3] μ (qV P) X := by
  refine PMet_of mv_X5_enter.2.2.2.2.2.2 hl hI mv_X5_enter.2.2.2.1 rfl (Nat.le_of_ble_eq_true rfl) (fun G _ _ C hRt hHR hnT => ?_)
  show PW G 0 0 0 [some (pR 27 0), some (pI a1), some (pI a2), some (pI a3)] [] μ
  unfold w5_enter_wp at hk
  refine px_aload_n (i := 0) C dX5_enter_0 rfl rfl ?_
  refine px_geti 1736 C dX5_enter_1 fl_RX5_28 rfl rfl rfl rfl ?_
  refine px_bipush (v := (41 : Int32)) C dX5_enter_4 rfl ?_
  refine px_callSNi (h := 0) (rc' := 0) (rs' := 0) C (HR_le hHR (Nat.le_of_ble_eq_true rfl)) hRt hnT dX5_enter_6 (List.mem_append_right _ (List.mem_append_left _ (List.mem_of_getElem? (i := 6) rfl))) ms_X8_isWithin (w8_isWithin_ok (PCx_l C) (PCx_I C) hk) rfl rfl (Nat.le_of_ble_eq_true rfl) (Nat.le_of_ble_eq_true rfl) (Nat.le_of_ble_eq_true rfl) (Nat.le_of_ble_eq_true rfl) ?_
  intro r2 μ1 hk
  refine px_if_eq (tgt := 52) C dX5_enter_9 (by decide) (fun c10 => ?_) (fun c10 => ?_)
  · replace hk := hk.1 c10
    exact px_vret C hRt dX5_enter_52 rfl hk
  · replace hk := hk.2 c10
    refine px_aload_n (i := 0) C dX5_enter_12 rfl rfl ?_
    refine px_getr C dX5_enter_13 fl_RX5_31 rfl rfl rfl ?_
    refine px_aload_n (i := 0) C dX5_enter_16 rfl rfl ?_
    refine px_geti 1736 C dX5_enter_17 fl_RX5_28 rfl rfl rfl rfl ?_
    refine px_iload_n (i := 1) C dX5_enter_20 rfl rfl ?_
    obtain ⟨o3, hk⟩ := hk
    replace hk := hk _ rfl
    refine px_iast 1984 C dX5_enter_21 rfl rfl rfl rfl o3 ?_
    refine px_aload_n (i := 0) C dX5_enter_22 rfl rfl ?_
    refine px_getr C dX5_enter_23 fl_RX5_34 rfl rfl rfl ?_
    refine px_aload_n (i := 0) C dX5_enter_26 rfl rfl ?_
    refine px_geti 1736 C dX5_enter_27 fl_RX5_28 rfl rfl rfl rfl ?_
    refine px_iload_n (i := 2) C dX5_enter_30 rfl rfl ?_
    obtain ⟨o5, hk⟩ := hk
    replace hk := hk _ rfl
    refine px_iast 2048 C dX5_enter_31 rfl rfl rfl rfl o5 ?_
    refine px_aload_n (i := 0) C dX5_enter_32 rfl rfl ?_
    refine px_getr C dX5_enter_33 fl_RX5_37 rfl rfl rfl ?_
    refine px_aload_n (i := 0) C dX5_enter_36 rfl rfl ?_
    refine px_geti 1736 C dX5_enter_37 fl_RX5_28 rfl rfl rfl rfl ?_
    refine px_iload_n (i := 3) C dX5_enter_40 rfl rfl ?_
    obtain ⟨o7, hk⟩ := hk
    replace hk := hk _ rfl
    refine px_iast 2112 C dX5_enter_41 rfl rfl rfl rfl o7 ?_
    refine px_aload_n (i := 0) C dX5_enter_42 rfl rfl ?_
    refine px_dup C dX5_enter_43 rfl ?_
    refine px_geti 1736 C dX5_enter_44 fl_RX5_28 rfl rfl rfl rfl ?_
    refine px_iconst (v := (1 : Int32)) C dX5_enter_47 rfl ?_
    refine px_iadd C dX5_enter_48 ?_
    replace hk := hk _ rfl
    refine px_puti 1736 C dX5_enter_49 fp_RX5_28 rfl rfl rfl rfl rfl rfl ?_
    exact px_vret C hRt dX5_enter_52 rfl hk
theorem dX5_record_0 : decode cX5_record 0 = .ok (.aload_n 0, 1) := by decide +kernel
theorem dX5_record_1 : decode cX5_record 1 = .ok (.getfield 11, 3) := by decide +kernel
theorem dX5_record_4 : decode cX5_record 4 = .ok (.bipush 82, 2) := by decide +kernel
theorem dX5_record_6 : decode cX5_record 6 = .ok (.invokestatic 61, 3) := by decide +kernel
theorem dX5_record_9 : decode cX5_record 9 = .ok (.ifCond .eq 43, 3) := by decide +kernel
theorem dX5_record_12 : decode cX5_record 12 = .ok (.aload_n 0, 1) := by decide +kernel
theorem dX5_record_13 : decode cX5_record 13 = .ok (.getfield 15, 3) := by decide +kernel
theorem dX5_record_16 : decode cX5_record 16 = .ok (.aload_n 0, 1) := by decide +kernel
theorem dX5_record_17 : decode cX5_record 17 = .ok (.getfield 11, 3) := by decide +kernel
theorem dX5_record_20 : decode cX5_record 20 = .ok (.iload_n 1, 1) := by decide +kernel
theorem dX5_record_21 : decode cX5_record 21 = .ok (.iastore, 1) := by decide +kernel
theorem dX5_record_22 : decode cX5_record 22 = .ok (.aload_n 0, 1) := by decide +kernel
theorem dX5_record_23 : decode cX5_record 23 = .ok (.getfield 19, 3) := by decide +kernel
theorem dX5_record_26 : decode cX5_record 26 = .ok (.aload_n 0, 1) := by decide +kernel
theorem dX5_record_27 : decode cX5_record 27 = .ok (.getfield 11, 3) := by decide +kernel
theorem dX5_record_30 : decode cX5_record 30 = .ok (.iload_n 2, 1) := by decide +kernel
theorem dX5_record_31 : decode cX5_record 31 = .ok (.iastore, 1) := by decide +kernel
theorem dX5_record_32 : decode cX5_record 32 = .ok (.aload_n 0, 1) := by decide +kernel
theorem dX5_record_33 : decode cX5_record 33 = .ok (.getfield 22, 3) := by decide +kernel
theorem dX5_record_36 : decode cX5_record 36 = .ok (.aload_n 0, 1) := by decide +kernel
theorem dX5_record_37 : decode cX5_record 37 = .ok (.getfield 11, 3) := by decide +kernel
theorem dX5_record_40 : decode cX5_record 40 = .ok (.iload_n 3, 1) := by decide +kernel
theorem dX5_record_41 : decode cX5_record 41 = .ok (.iastore, 1) := by decide +kernel
theorem dX5_record_42 : decode cX5_record 42 = .ok (.aload_n 0, 1) := by decide +kernel
theorem dX5_record_43 : decode cX5_record 43 = .ok (.dup, 1) := by decide +kernel
theorem dX5_record_44 : decode cX5_record 44 = .ok (.getfield 11, 3) := by decide +kernel
theorem dX5_record_47 : decode cX5_record 47 = .ok (.iconst 1, 1) := by decide +kernel
theorem dX5_record_48 : decode cX5_record 48 = .ok (.iadd, 1) := by decide +kernel
theorem dX5_record_49 : decode cX5_record 49 = .ok (.putfield 11, 3) := by decide +kernel
theorem dX5_record_52 : decode cX5_record 52 = .ok (.return_, 1) := by decide +kernel
set_option maxRecDepth 100000 in
set_option maxHeartbeats 4000000 in
theorem w5_record_ok {l : Launch} {idx : List (Nat × Nat)} {μ : Mem} {a1 : Int32} {a2 : Int32} {a3 : Int32} {P : Mem → Prop} {X : String → Mem → Prop} (hl : l.stackTraces = false) (hI : IdxOK idx) (hk : w5_record_wp μ a1 a2 a3 P) : PMet l yX5_record (.code yX5_record cX5_record 4 none) 1 0 0 idx [pR 27 0, pI a1, pI a2, pI a3] μ (qV P) X := by
  refine PMet_of mv_X5_record.2.2.2.2.2.2 hl hI mv_X5_record.2.2.2.1 rfl (Nat.le_of_ble_eq_true rfl) (fun G _ _ C hRt hHR hnT => ?_)
  show PW G 0 0 0 [some (pR 27 0), some (pI a1), some (pI a2), some (pI a3)] [] μ
  unfold w5_record_wp at hk
  refine px_aload_n (i := 0) C dX5_record_0 rfl rfl ?_
  refine px_geti 1729 C dX5_record_1 fl_RX5_11 rfl rfl rfl rfl ?_
  refine px_bipush (v := (82 : Int32)) C dX5_record_4 rfl ?_
  refine px_callSNi (h := 0) (rc' := 0) (rs' := 0) C (HR_le hHR (Nat.le_of_ble_eq_true rfl)) hRt hnT dX5_record_6 (List.mem_append_right _ (List.mem_append_left _ (List.mem_of_getElem? (i := 6) rfl))) ms_X8_isWithin (w8_isWithin_ok (PCx_l C) (PCx_I C) hk) rfl rfl (Nat.le_of_ble_eq_true rfl) (Nat.le_of_ble_eq_true rfl) (Nat.le_of_ble_eq_true rfl) (Nat.le_of_ble_eq_true rfl) ?_
  intro r2 μ1 hk
  refine px_if_eq (tgt := 52) C dX5_record_9 (by decide) (fun c10 => ?_) (fun c10 => ?_)
  · replace hk := hk.1 c10
    exact px_vret C hRt dX5_record_52 rfl hk
  · replace hk := hk.2 c10
    refine px_aload_n (i := 0) C dX5_record_12 rfl rfl ?_
    refine px_getr C dX5_record_13 fl_RX5_15 rfl rfl rfl ?_
    refine px_aload_n (i := 0) C dX5_record_16 rfl rfl ?_
    refine px_geti 1729 C dX5_record_17 fl_RX5_11 rfl rfl rfl rfl ?_
    refine px_iload_n (i := 1) C dX5_record_20 rfl rfl ?_
    obtain ⟨o3, hk⟩ := hk
    replace hk := hk _ rfl
    refine px_iast 1792 C dX5_record_21 rfl rfl rfl rfl o3 ?_
    refine px_aload_n (i := 0) C dX5_record_22 rfl rfl ?_
    refine px_getr C dX5_record_23 fl_RX5_19 rfl rfl rfl ?_
    refine px_aload_n (i := 0) C dX5_record_26 rfl rfl ?_
    refine px_geti 1729 C dX5_record_27 fl_RX5_11 rfl rfl rfl rfl ?_
    refine px_iload_n (i := 2) C dX5_record_30 rfl rfl ?_
    obtain ⟨o5, hk⟩ := hk
    replace hk := hk _ rfl
    refine px_iast 1856 C dX5_record_31 rfl rfl rfl rfl o5 ?_
    refine px_aload_n (i := 0) C dX5_record_32 rfl rfl ?_
    refine px_getr C dX5_record_33 fl_RX5_22 rfl rfl rfl ?_
    refine px_aload_n (i := 0) C dX5_record_36 rfl rfl ?_
    refine px_geti 1729 C dX5_record_37 fl_RX5_11 rfl rfl rfl rfl ?_
    refine px_iload_n (i := 3) C dX5_record_40 rfl rfl ?_
    obtain ⟨o7, hk⟩ := hk
    replace hk := hk _ rfl
    refine px_iast 1920 C dX5_record_41 rfl rfl rfl rfl o7 ?_
    refine px_aload_n (i := 0) C dX5_record_42 rfl rfl ?_
    refine px_dup C dX5_record_43 rfl ?_
    refine px_geti 1729 C dX5_record_44 fl_RX5_11 rfl rfl rfl rfl ?_
    refine px_iconst (v := (1 : Int32)) C dX5_record_47 rfl ?_
    refine px_iadd C dX5_record_48 ?_
    replace hk := hk _ rfl
    refine px_puti 1729 C dX5_record_49 fp_RX5_11 rfl rfl rfl rfl rfl rfl ?_
    exact px_vret C hRt dX5_record_52 rfl hk
theorem dX5_timeOfService_0 : decode cX5_timeOfService 0 = .ok (.iconst 0, 1) := by decide +kernel
theorem dX5_timeOfService_1 : decode cX5_timeOfService 1 = .ok (.istore_n 2, 1) := by decide +kernel
theorem dX5_timeOfService_2 : decode cX5_timeOfService 2 = .ok (.iconst 0, 1) := by decide +kernel
theorem dX5_timeOfService_3 : decode cX5_timeOfService 3 = .ok (.istore_n 3, 1) := by decide +kernel
theorem dX5_timeOfService_4 : decode cX5_timeOfService 4 = .ok (.iload_n 3, 1) := by decide +kernel
theorem dX5_timeOfService_5 : decode cX5_timeOfService 5 = .ok (.aload_n 0, 1) := by decide +kernel
theorem dX5_timeOfService_6 : decode cX5_timeOfService 6 = .ok (.getfield 11, 3) := by decide +kernel
theorem dX5_timeOfService_9 : decode cX5_timeOfService 9 = .ok (.if_icmp .ge 60, 3) := by decide +kernel
theorem dX5_timeOfService_12 : decode cX5_timeOfService 12 = .ok (.aload_n 0, 1) := by decide +kernel
theorem dX5_timeOfService_13 : decode cX5_timeOfService 13 = .ok (.getfield 40, 3) := by decide +kernel
theorem dX5_timeOfService_16 : decode cX5_timeOfService 16 = .ok (.aload_n 0, 1) := by decide +kernel
theorem dX5_timeOfService_17 : decode cX5_timeOfService 17 = .ok (.getfield 15, 3) := by decide +kernel
theorem dX5_timeOfService_20 : decode cX5_timeOfService 20 = .ok (.iload_n 3, 1) := by decide +kernel
theorem dX5_timeOfService_21 : decode cX5_timeOfService 21 = .ok (.iaload, 1) := by decide +kernel
theorem dX5_timeOfService_22 : decode cX5_timeOfService 22 = .ok (.invokevirtual 98, 3) := by decide +kernel
theorem dX5_timeOfService_25 : decode cX5_timeOfService 25 = .ok (.istore 4, 2) := by decide +kernel
theorem dX5_timeOfService_27 : decode cX5_timeOfService 27 = .ok (.iload 4, 2) := by decide +kernel
theorem dX5_timeOfService_29 : decode cX5_timeOfService 29 = .ok (.iconst (-1), 1) := by decide +kernel
theorem dX5_timeOfService_30 : decode cX5_timeOfService 30 = .ok (.if_icmp .eq 33, 3) := by decide +kernel
theorem dX5_timeOfService_33 : decode cX5_timeOfService 33 = .ok (.aload_n 0, 1) := by decide +kernel
theorem dX5_timeOfService_34 : decode cX5_timeOfService 34 = .ok (.getfield 40, 3) := by decide +kernel
theorem dX5_timeOfService_37 : decode cX5_timeOfService 37 = .ok (.getfield 102, 3) := by decide +kernel
theorem dX5_timeOfService_40 : decode cX5_timeOfService 40 = .ok (.iload 4, 2) := by decide +kernel
theorem dX5_timeOfService_42 : decode cX5_timeOfService 42 = .ok (.iaload, 1) := by decide +kernel
theorem dX5_timeOfService_43 : decode cX5_timeOfService 43 = .ok (.iload_n 1, 1) := by decide +kernel
theorem dX5_timeOfService_44 : decode cX5_timeOfService 44 = .ok (.if_icmp .ne 19, 3) := by decide +kernel
theorem dX5_timeOfService_47 : decode cX5_timeOfService 47 = .ok (.iload_n 2, 1) := by decide +kernel
theorem dX5_timeOfService_48 : decode cX5_timeOfService 48 = .ok (.aload_n 0, 1) := by decide +kernel
theorem dX5_timeOfService_49 : decode cX5_timeOfService 49 = .ok (.getfield 22, 3) := by decide +kernel
theorem dX5_timeOfService_52 : decode cX5_timeOfService 52 = .ok (.iload_n 3, 1) := by decide +kernel
theorem dX5_timeOfService_53 : decode cX5_timeOfService 53 = .ok (.iaload, 1) := by decide +kernel
theorem dX5_timeOfService_54 : decode cX5_timeOfService 54 = .ok (.aload_n 0, 1) := by decide +kernel
theorem dX5_timeOfService_55 : decode cX5_timeOfService 55 = .ok (.getfield 19, 3) := by decide +kernel
theorem dX5_timeOfService_58 : decode cX5_timeOfService 58 = .ok (.iload_n 3, 1) := by decide +kernel
theorem dX5_timeOfService_59 : decode cX5_timeOfService 59 = .ok (.iaload, 1) := by decide +kernel
theorem dX5_timeOfService_60 : decode cX5_timeOfService 60 = .ok (.isub, 1) := by decide +kernel
theorem dX5_timeOfService_61 : decode cX5_timeOfService 61 = .ok (.iadd, 1) := by decide +kernel
theorem dX5_timeOfService_62 : decode cX5_timeOfService 62 = .ok (.istore_n 2, 1) := by decide +kernel
theorem dX5_timeOfService_63 : decode cX5_timeOfService 63 = .ok (.iinc 3 1, 3) := by decide +kernel
theorem dX5_timeOfService_66 : decode cX5_timeOfService 66 = .ok (.goto (-62), 3) := by decide +kernel
theorem dX5_timeOfService_69 : decode cX5_timeOfService 69 = .ok (.iload_n 2, 1) := by decide +kernel
theorem dX5_timeOfService_70 : decode cX5_timeOfService 70 = .ok (.ireturn, 1) := by decide +kernel
set_option maxRecDepth 100000 in
set_option maxHeartbeats 4000000 in
theorem w5_timeOfService_b4_ok {G : GT} {P : Int32 → Mem → Prop} {X : String → Mem → Prop} (C : PCx G cX5_timeOfService 5 RX5) (hRt : PRt G (some .int) (qI P) X) (hHR : HR G (1)) (hnT : NoT G) {μ : Mem} {l1 : Int32} {l2 : Int32} {l3 : Int32} (hk : w5_timeOfService_b4 P μ l1 l2 l3) : PW G 0 0 4 [some (pR 27 0), some (pI l1), some (pI l2), some (pI l3), none] [] μ := by
  refine hk (fun (μ : Mem) (l1 : Int32) (l2 : Int32) (l3 : Int32) => PW G 0 0 4 [some (pR 27 0), some (pI l1), some (pI l2), some (pI l3), none] [] μ) (fun (μ : Mem) l1 l2 l3 hk => ?_)
  have hR4 : ∀ (μ : Mem) (l1 : Int32) (l2 : Int32) (l3 : Int32), PW G 0 0 4 [some (pR 27 0), some (pI l1), some (pI l2), some (pI l3), none] [] μ → PW G 0 0 4 [some (pR 27 0), some (pI l1), some (pI l2), some (pI l3), none] [] μ := fun _ _ _ _ h => h
  unfold w5_timeOfService_b4_body at hk
  refine px_iload_n (i := 3) C dX5_timeOfService_4 rfl rfl ?_
  refine px_aload_n (i := 0) C dX5_timeOfService_5 rfl rfl ?_
  refine px_geti 1729 C dX5_timeOfService_6 fl_RX5_11 rfl rfl rfl rfl ?_
  refine px_icmp_ge (tgt := 69) C dX5_timeOfService_9 (by decide) (fun c9 => ?_) (fun c9 => ?_)
  · replace hk := hk.1 c9
    refine px_iload_n (i := 2) C dX5_timeOfService_69 rfl rfl ?_
    exact px_iret C hRt dX5_timeOfService_70 rfl rfl hk
  · replace hk := hk.2 c9
    refine px_aload_n (i := 0) C dX5_timeOfService_12 rfl rfl ?_
    refine px_getr C dX5_timeOfService_13 fl_RX5_40 rfl rfl rfl ?_
    refine px_aload_n (i := 0) C dX5_timeOfService_16 rfl rfl ?_
    refine px_getr C dX5_timeOfService_17 fl_RX5_15 rfl rfl rfl ?_
    refine px_iload_n (i := 3) C dX5_timeOfService_20 rfl rfl ?_
    obtain ⟨o1, hk⟩ := hk
    refine px_iald 1792 C dX5_timeOfService_21 rfl rfl rfl rfl o1 ?_
    refine px_callVi (h := 0) (rc' := 0) (rs' := 0) C (HR_le hHR (Nat.le_of_ble_eq_true rfl)) hRt hnT dX5_timeOfService_22 (gw5 133 rfl rfl) mv_X7_find (w7_find_ok (PCx_l C) (PCx_I C) hk) rfl rfl rfl rfl rfl (Nat.le_of_ble_eq_true rfl) (Nat.le_of_ble_eq_true rfl) (Nat.le_of_ble_eq_true rfl) (Nat.le_of_ble_eq_true rfl) ?_
    intro r3 μ2 hk
    refine px_istore (i := 4) C dX5_timeOfService_25 (by decide) rfl ?_
    refine px_iload (i := 4) C dX5_timeOfService_27 rfl ?_
    refine px_iconst (v := (-1 : Int32)) C dX5_timeOfService_29 rfl ?_
    refine px_icmp_eq (tgt := 63) C dX5_timeOfService_30 (by decide) (fun c8 => ?_) (fun c8 => ?_)
    · replace hk := hk.1 c8
      refine px_iinc (i := 3) (v := (1 : Int32)) C dX5_timeOfService_63 rfl rfl (by decide) rfl ?_
      refine px_goto (tgt := 4) C dX5_timeOfService_66 (by decide) ?_
      exact PW_at (hR4 _ _ _ _ hk) (And.intro rfl (And.intro rfl (And.intro rfl (And.intro rfl trivial)))) (Nat.le_of_ble_eq_true rfl) (Nat.le_of_ble_eq_true rfl)
    · replace hk := hk.2 c8
      refine px_aload_n (i := 0) C dX5_timeOfService_33 rfl rfl ?_
      refine px_getr C dX5_timeOfService_34 fl_RX5_40 rfl rfl rfl ?_
      refine px_getr C dX5_timeOfService_37 fl_RX5_102 rfl rfl rfl ?_
      refine px_iload (i := 4) C dX5_timeOfService_40 rfl ?_
      obtain ⟨o4, hk⟩ := hk
      refine px_iald 256 C dX5_timeOfService_42 rfl rfl rfl rfl o4 ?_
      refine px_iload_n (i := 1) C dX5_timeOfService_43 rfl rfl ?_
      refine px_icmp_ne (tgt := 63) C dX5_timeOfService_44 (by decide) (fun c7 => ?_) (fun c7 => ?_)
      · replace hk := hk.1 c7
        refine px_iinc (i := 3) (v := (1 : Int32)) C dX5_timeOfService_63 rfl rfl (by decide) rfl ?_
        refine px_goto (tgt := 4) C dX5_timeOfService_66 (by decide) ?_
        exact PW_at (hR4 _ _ _ _ hk) (And.intro rfl (And.intro rfl (And.intro rfl (And.intro rfl trivial)))) (Nat.le_of_ble_eq_true rfl) (Nat.le_of_ble_eq_true rfl)
      · replace hk := hk.2 c7
        refine px_iload_n (i := 2) C dX5_timeOfService_47 rfl rfl ?_
        refine px_aload_n (i := 0) C dX5_timeOfService_48 rfl rfl ?_
        refine px_getr C dX5_timeOfService_49 fl_RX5_22 rfl rfl rfl ?_
        refine px_iload_n (i := 3) C dX5_timeOfService_52 rfl rfl ?_
        obtain ⟨o5, hk⟩ := hk
        refine px_iald 1920 C dX5_timeOfService_53 rfl rfl rfl rfl o5 ?_
        refine px_aload_n (i := 0) C dX5_timeOfService_54 rfl rfl ?_
        refine px_getr C dX5_timeOfService_55 fl_RX5_19 rfl rfl rfl ?_
        refine px_iload_n (i := 3) C dX5_timeOfService_58 rfl rfl ?_
        obtain ⟨o6, hk⟩ := hk
        refine px_iald 1856 C dX5_timeOfService_59 rfl rfl rfl rfl o6 ?_
        refine px_isub C dX5_timeOfService_60 ?_
        refine px_iadd C dX5_timeOfService_61 ?_
        refine px_istore_n (i := 2) C dX5_timeOfService_62 rfl (by decide) rfl ?_
        refine px_iinc (i := 3) (v := (1 : Int32)) C dX5_timeOfService_63 rfl rfl (by decide) rfl ?_
        refine px_goto (tgt := 4) C dX5_timeOfService_66 (by decide) ?_
        exact PW_at (hR4 _ _ _ _ hk) (And.intro rfl (And.intro rfl (And.intro rfl (And.intro rfl trivial)))) (Nat.le_of_ble_eq_true rfl) (Nat.le_of_ble_eq_true rfl)
set_option maxRecDepth 100000 in
set_option maxHeartbeats 4000000 in
theorem w5_timeOfService_ok {l : Launch} {idx : List (Nat × Nat)} {μ : Mem} {a1 : Int32} {P : Int32 → Mem → Prop} {X : String → Mem → Prop} (hl : l.stackTraces = false) (hI : IdxOK idx) (hk : w5_timeOfService_wp μ a1 P) : PMet l yX5_timeOfService (.code yX5_timeOfService cX5_timeOfService 5 (some .int)) 1 0 0 idx [pR 27 0, pI a1] μ (qI P) X := by
  refine PMet_of mv_X5_timeOfService.2.2.2.2.2.2 hl hI mv_X5_timeOfService.2.2.2.1 rfl (Nat.le_of_ble_eq_true rfl) (fun G _ _ C hRt hHR hnT => ?_)
  show PW G 0 0 0 [some (pR 27 0), some (pI a1), none, none, none] [] μ
  unfold w5_timeOfService_wp at hk
  refine px_iconst (v := (0 : Int32)) C dX5_timeOfService_0 rfl ?_
  refine px_istore_n (i := 2) C dX5_timeOfService_1 rfl (by decide) rfl ?_
  refine px_iconst (v := (0 : Int32)) C dX5_timeOfService_2 rfl ?_
  refine px_istore_n (i := 3) C dX5_timeOfService_3 rfl (by decide) rfl ?_
  exact PW_at (w5_timeOfService_b4_ok C hRt hHR hnT hk) (And.intro rfl (And.intro rfl (And.intro rfl (And.intro rfl trivial)))) (Nat.le_of_ble_eq_true rfl) (Nat.le_of_ble_eq_true rfl)
theorem dX6_put_0 : decode cX6_put 0 = .ok (.iload_n 1, 1) := by decide +kernel
theorem dX6_put_1 : decode cX6_put 1 = .ok (.iconst 2, 1) := by decide +kernel
theorem dX6_put_2 : decode cX6_put 2 = .ok (.invokestatic 25, 3) := by decide +kernel
theorem dX6_put_5 : decode cX6_put 5 = .ok (.ifCond .eq 30, 3) := by decide +kernel
theorem dX6_put_8 : decode cX6_put 8 = .ok (.iload_n 2, 1) := by decide +kernel
theorem dX6_put_9 : decode cX6_put 9 = .ok (.iconst 4, 1) := by decide +kernel
theorem dX6_put_10 : decode cX6_put 10 = .ok (.invokestatic 25, 3) := by decide +kernel
theorem dX6_put_13 : decode cX6_put 13 = .ok (.ifCond .eq 22, 3) := by decide +kernel
theorem dX6_put_16 : decode cX6_put 16 = .ok (.aload_n 0, 1) := by decide +kernel
theorem dX6_put_17 : decode cX6_put 17 = .ok (.getfield 11, 3) := by decide +kernel
theorem dX6_put_20 : decode cX6_put 20 = .ok (.iload_n 1, 1) := by decide +kernel
theorem dX6_put_21 : decode cX6_put 21 = .ok (.aaload, 1) := by decide +kernel
theorem dX6_put_22 : decode cX6_put 22 = .ok (.iload_n 2, 1) := by decide +kernel
theorem dX6_put_23 : decode cX6_put 23 = .ok (.iload_n 3, 1) := by decide +kernel
theorem dX6_put_24 : decode cX6_put 24 = .ok (.iastore, 1) := by decide +kernel
theorem dX6_put_25 : decode cX6_put 25 = .ok (.aload_n 0, 1) := by decide +kernel
theorem dX6_put_26 : decode cX6_put 26 = .ok (.getfield 16, 3) := by decide +kernel
theorem dX6_put_29 : decode cX6_put 29 = .ok (.iload_n 1, 1) := by decide +kernel
theorem dX6_put_30 : decode cX6_put 30 = .ok (.aaload, 1) := by decide +kernel
theorem dX6_put_31 : decode cX6_put 31 = .ok (.iload_n 2, 1) := by decide +kernel
theorem dX6_put_32 : decode cX6_put 32 = .ok (.iload 4, 2) := by decide +kernel
theorem dX6_put_34 : decode cX6_put 34 = .ok (.iastore, 1) := by decide +kernel
theorem dX6_put_35 : decode cX6_put 35 = .ok (.return_, 1) := by decide +kernel
set_option maxRecDepth 100000 in
set_option maxHeartbeats 4000000 in
theorem w6_put_ok {l : Launch} {idx : List (Nat × Nat)} {μ : Mem} {a1 : Int32} {a2 : Int32} {a3 : Int32} {a4 : Int32} {P : Mem → Prop} {X : String → Mem → Prop} (hl : l.stackTraces = false) (hI : IdxOK idx) (hk : w6_put_wp μ a1 a2 a3 a4 P) : PMet l yX6_put (.code yX6_put cX6_put 5 none) 1 0 0 idx [pR 35 0, pI a1, pI a2, pI a3, pI a4] μ (qV P) X := by
  refine PMet_of mv_X6_put.2.2.2.2.2.2 hl hI mv_X6_put.2.2.2.1 rfl (Nat.le_of_ble_eq_true rfl) (fun G _ _ C hRt hHR hnT => ?_)
  show PW G 0 0 0 [some (pR 35 0), some (pI a1), some (pI a2), some (pI a3), some (pI a4)] [] μ
  unfold w6_put_wp at hk
  refine px_iload_n (i := 1) C dX6_put_0 rfl rfl ?_
  refine px_iconst (v := (2 : Int32)) C dX6_put_1 rfl ?_
  refine px_callSNi (h := 0) (rc' := 0) (rs' := 0) C (HR_le hHR (Nat.le_of_ble_eq_true rfl)) hRt hnT dX6_put_2 (List.mem_append_right _ (List.mem_append_left _ (List.mem_of_getElem? (i := 7) rfl))) ms_X8_isWithin (w8_isWithin_ok (PCx_l C) (PCx_I C) hk) rfl rfl (Nat.le_of_ble_eq_true rfl) (Nat.le_of_ble_eq_true rfl) (Nat.le_of_ble_eq_true rfl) (Nat.le_of_ble_eq_true rfl) ?_
  intro r2 μ1 hk
  refine px_if_eq (tgt := 35) C dX6_put_5 (by decide) (fun c12 => ?_) (fun c12 => ?_)
  · replace hk := hk.1 c12
    exact px_vret C hRt dX6_put_35 rfl hk
  · replace hk := hk.2 c12
    refine px_iload_n (i := 2) C dX6_put_8 rfl rfl ?_
    refine px_iconst (v := (4 : Int32)) C dX6_put_9 rfl ?_
    refine px_callSNi (h := 0) (rc' := 0) (rs' := 0) C (HR_le hHR (Nat.le_of_ble_eq_true rfl)) hRt hnT dX6_put_10 (List.mem_append_right _ (List.mem_append_left _ (List.mem_of_getElem? (i := 7) rfl))) ms_X8_isWithin (w8_isWithin_ok (PCx_l C) (PCx_I C) hk) rfl rfl (Nat.le_of_ble_eq_true rfl) (Nat.le_of_ble_eq_true rfl) (Nat.le_of_ble_eq_true rfl) (Nat.le_of_ble_eq_true rfl) ?_
    intro r4 μ3 hk
    refine px_if_eq (tgt := 35) C dX6_put_13 (by decide) (fun c11 => ?_) (fun c11 => ?_)
    · replace hk := hk.1 c11
      exact px_vret C hRt dX6_put_35 rfl hk
    · replace hk := hk.2 c11
      refine px_aload_n (i := 0) C dX6_put_16 rfl rfl ?_
      refine px_getr C dX6_put_17 fl_RX6_11 rfl rfl rfl ?_
      refine px_iload_n (i := 1) C dX6_put_20 rfl rfl ?_
      obtain ⟨o5, hk⟩ := hk
      refine px_aald C dX6_put_21 rfl rfl rfl o5 rfl ?_
      refine px_iload_n (i := 2) C dX6_put_22 rfl rfl ?_
      refine px_iload_n (i := 3) C dX6_put_23 rfl rfl ?_
      obtain ⟨o6, hk⟩ := hk
      replace hk := hk _ rfl
      refine px_iast 2368 C dX6_put_24 rfl rfl rfl rfl o6 ?_
      refine px_aload_n (i := 0) C dX6_put_25 rfl rfl ?_
      refine px_getr C dX6_put_26 fl_RX6_16 rfl rfl rfl ?_
      refine px_iload_n (i := 1) C dX6_put_29 rfl rfl ?_
      obtain ⟨o8, hk⟩ := hk
      refine px_aald C dX6_put_30 rfl rfl rfl o8 rfl ?_
      refine px_iload_n (i := 2) C dX6_put_31 rfl rfl ?_
      refine px_iload (i := 4) C dX6_put_32 rfl ?_
      obtain ⟨o9, hk⟩ := hk
      replace hk := hk _ rfl
      refine px_iast 2368 C dX6_put_34 rfl rfl rfl rfl o9 ?_
      exact px_vret C hRt dX6_put_35 rfl hk
theorem dX6_traceIn_0 : decode cX6_traceIn 0 = .ok (.iload_n 1, 1) := by decide +kernel
theorem dX6_traceIn_1 : decode cX6_traceIn 1 = .ok (.iconst 2, 1) := by decide +kernel
theorem dX6_traceIn_2 : decode cX6_traceIn 2 = .ok (.invokestatic 25, 3) := by decide +kernel
theorem dX6_traceIn_5 : decode cX6_traceIn 5 = .ok (.ifCond .eq 22, 3) := by decide +kernel
theorem dX6_traceIn_8 : decode cX6_traceIn 8 = .ok (.iload_n 2, 1) := by decide +kernel
theorem dX6_traceIn_9 : decode cX6_traceIn 9 = .ok (.iconst 4, 1) := by decide +kernel
theorem dX6_traceIn_10 : decode cX6_traceIn 10 = .ok (.invokestatic 25, 3) := by decide +kernel
theorem dX6_traceIn_13 : decode cX6_traceIn 13 = .ok (.ifCond .eq 14, 3) := by decide +kernel
theorem dX6_traceIn_16 : decode cX6_traceIn 16 = .ok (.aload_n 0, 1) := by decide +kernel
theorem dX6_traceIn_17 : decode cX6_traceIn 17 = .ok (.getfield 11, 3) := by decide +kernel
theorem dX6_traceIn_20 : decode cX6_traceIn 20 = .ok (.iload_n 1, 1) := by decide +kernel
theorem dX6_traceIn_21 : decode cX6_traceIn 21 = .ok (.aaload, 1) := by decide +kernel
theorem dX6_traceIn_22 : decode cX6_traceIn 22 = .ok (.iload_n 2, 1) := by decide +kernel
theorem dX6_traceIn_23 : decode cX6_traceIn 23 = .ok (.iaload, 1) := by decide +kernel
theorem dX6_traceIn_24 : decode cX6_traceIn 24 = .ok (.goto 4, 3) := by decide +kernel
theorem dX6_traceIn_27 : decode cX6_traceIn 27 = .ok (.iconst (-1), 1) := by decide +kernel
theorem dX6_traceIn_28 : decode cX6_traceIn 28 = .ok (.ireturn, 1) := by decide +kernel
set_option maxRecDepth 100000 in
set_option maxHeartbeats 4000000 in
theorem w6_traceIn_ok {l : Launch} {idx : List (Nat × Nat)} {μ : Mem} {a1 : Int32} {a2 : Int32} {P : Int32 → Mem → Prop} {X : String → Mem → Prop} (hl : l.stackTraces = false) (hI : IdxOK idx) (hk : w6_traceIn_wp μ a1 a2 P) : PMet l yX6_traceIn (.code yX6_traceIn cX6_traceIn 3 (some .int)) 1 0 0 idx [pR 35 0, pI a1, pI a2] μ (qI P) X := by
  refine PMet_of mv_X6_traceIn.2.2.2.2.2.2 hl hI mv_X6_traceIn.2.2.2.1 rfl (Nat.le_of_ble_eq_true rfl) (fun G _ _ C hRt hHR hnT => ?_)
  show PW G 0 0 0 [some (pR 35 0), some (pI a1), some (pI a2)] [] μ
  unfold w6_traceIn_wp at hk
  refine px_iload_n (i := 1) C dX6_traceIn_0 rfl rfl ?_
  refine px_iconst (v := (2 : Int32)) C dX6_traceIn_1 rfl ?_
  refine px_callSNi (h := 0) (rc' := 0) (rs' := 0) C (HR_le hHR (Nat.le_of_ble_eq_true rfl)) hRt hnT dX6_traceIn_2 (List.mem_append_right _ (List.mem_append_left _ (List.mem_of_getElem? (i := 7) rfl))) ms_X8_isWithin (w8_isWithin_ok (PCx_l C) (PCx_I C) hk) rfl rfl (Nat.le_of_ble_eq_true rfl) (Nat.le_of_ble_eq_true rfl) (Nat.le_of_ble_eq_true rfl) (Nat.le_of_ble_eq_true rfl) ?_
  intro r2 μ1 hk
  refine px_if_eq (tgt := 27) C dX6_traceIn_5 (by decide) (fun c8 => ?_) (fun c8 => ?_)
  · replace hk := hk.1 c8
    refine px_iconst (v := (-1 : Int32)) C dX6_traceIn_27 rfl ?_
    exact px_iret C hRt dX6_traceIn_28 rfl rfl hk
  · replace hk := hk.2 c8
    refine px_iload_n (i := 2) C dX6_traceIn_8 rfl rfl ?_
    refine px_iconst (v := (4 : Int32)) C dX6_traceIn_9 rfl ?_
    refine px_callSNi (h := 0) (rc' := 0) (rs' := 0) C (HR_le hHR (Nat.le_of_ble_eq_true rfl)) hRt hnT dX6_traceIn_10 (List.mem_append_right _ (List.mem_append_left _ (List.mem_of_getElem? (i := 7) rfl))) ms_X8_isWithin (w8_isWithin_ok (PCx_l C) (PCx_I C) hk) rfl rfl (Nat.le_of_ble_eq_true rfl) (Nat.le_of_ble_eq_true rfl) (Nat.le_of_ble_eq_true rfl) (Nat.le_of_ble_eq_true rfl) ?_
    intro r4 μ3 hk
    refine px_if_eq (tgt := 27) C dX6_traceIn_13 (by decide) (fun c7 => ?_) (fun c7 => ?_)
    · replace hk := hk.1 c7
      refine px_iconst (v := (-1 : Int32)) C dX6_traceIn_27 rfl ?_
      exact px_iret C hRt dX6_traceIn_28 rfl rfl hk
    · replace hk := hk.2 c7
      refine px_aload_n (i := 0) C dX6_traceIn_16 rfl rfl ?_
      refine px_getr C dX6_traceIn_17 fl_RX6_11 rfl rfl rfl ?_
      refine px_iload_n (i := 1) C dX6_traceIn_20 rfl rfl ?_
      obtain ⟨o5, hk⟩ := hk
      refine px_aald C dX6_traceIn_21 rfl rfl rfl o5 rfl ?_
      refine px_iload_n (i := 2) C dX6_traceIn_22 rfl rfl ?_
      obtain ⟨o6, hk⟩ := hk
      refine px_iald 2368 C dX6_traceIn_23 rfl rfl rfl rfl o6 ?_
      refine px_goto (tgt := 28) C dX6_traceIn_24 (by decide) ?_
      exact px_iret C hRt dX6_traceIn_28 rfl rfl hk
theorem dX6_nodeIn_0 : decode cX6_nodeIn 0 = .ok (.iload_n 1, 1) := by decide +kernel
theorem dX6_nodeIn_1 : decode cX6_nodeIn 1 = .ok (.iconst 2, 1) := by decide +kernel
theorem dX6_nodeIn_2 : decode cX6_nodeIn 2 = .ok (.invokestatic 25, 3) := by decide +kernel
theorem dX6_nodeIn_5 : decode cX6_nodeIn 5 = .ok (.ifCond .eq 22, 3) := by decide +kernel
theorem dX6_nodeIn_8 : decode cX6_nodeIn 8 = .ok (.iload_n 2, 1) := by decide +kernel
theorem dX6_nodeIn_9 : decode cX6_nodeIn 9 = .ok (.iconst 4, 1) := by decide +kernel
theorem dX6_nodeIn_10 : decode cX6_nodeIn 10 = .ok (.invokestatic 25, 3) := by decide +kernel
theorem dX6_nodeIn_13 : decode cX6_nodeIn 13 = .ok (.ifCond .eq 14, 3) := by decide +kernel
theorem dX6_nodeIn_16 : decode cX6_nodeIn 16 = .ok (.aload_n 0, 1) := by decide +kernel
theorem dX6_nodeIn_17 : decode cX6_nodeIn 17 = .ok (.getfield 16, 3) := by decide +kernel
theorem dX6_nodeIn_20 : decode cX6_nodeIn 20 = .ok (.iload_n 1, 1) := by decide +kernel
theorem dX6_nodeIn_21 : decode cX6_nodeIn 21 = .ok (.aaload, 1) := by decide +kernel
theorem dX6_nodeIn_22 : decode cX6_nodeIn 22 = .ok (.iload_n 2, 1) := by decide +kernel
theorem dX6_nodeIn_23 : decode cX6_nodeIn 23 = .ok (.iaload, 1) := by decide +kernel
theorem dX6_nodeIn_24 : decode cX6_nodeIn 24 = .ok (.goto 4, 3) := by decide +kernel
theorem dX6_nodeIn_27 : decode cX6_nodeIn 27 = .ok (.iconst (-1), 1) := by decide +kernel
theorem dX6_nodeIn_28 : decode cX6_nodeIn 28 = .ok (.ireturn, 1) := by decide +kernel
set_option maxRecDepth 100000 in
set_option maxHeartbeats 4000000 in
theorem w6_nodeIn_ok {l : Launch} {idx : List (Nat × Nat)} {μ : Mem} {a1 : Int32} {a2 : Int32} {P : Int32 → Mem → Prop} {X : String → Mem → Prop} (hl : l.stackTraces = false) (hI : IdxOK idx) (hk : w6_nodeIn_wp μ a1 a2 P) : PMet l yX6_nodeIn (.code yX6_nodeIn cX6_nodeIn 3 (some .int)) 1 0 0 idx [pR 35 0, pI a1, pI a2] μ (qI P) X := by
  refine PMet_of mv_X6_nodeIn.2.2.2.2.2.2 hl hI mv_X6_nodeIn.2.2.2.1 rfl (Nat.le_of_ble_eq_true rfl) (fun G _ _ C hRt hHR hnT => ?_)
  show PW G 0 0 0 [some (pR 35 0), some (pI a1), some (pI a2)] [] μ
  unfold w6_nodeIn_wp at hk
  refine px_iload_n (i := 1) C dX6_nodeIn_0 rfl rfl ?_
  refine px_iconst (v := (2 : Int32)) C dX6_nodeIn_1 rfl ?_
  refine px_callSNi (h := 0) (rc' := 0) (rs' := 0) C (HR_le hHR (Nat.le_of_ble_eq_true rfl)) hRt hnT dX6_nodeIn_2 (List.mem_append_right _ (List.mem_append_left _ (List.mem_of_getElem? (i := 7) rfl))) ms_X8_isWithin (w8_isWithin_ok (PCx_l C) (PCx_I C) hk) rfl rfl (Nat.le_of_ble_eq_true rfl) (Nat.le_of_ble_eq_true rfl) (Nat.le_of_ble_eq_true rfl) (Nat.le_of_ble_eq_true rfl) ?_
  intro r2 μ1 hk
  refine px_if_eq (tgt := 27) C dX6_nodeIn_5 (by decide) (fun c8 => ?_) (fun c8 => ?_)
  · replace hk := hk.1 c8
    refine px_iconst (v := (-1 : Int32)) C dX6_nodeIn_27 rfl ?_
    exact px_iret C hRt dX6_nodeIn_28 rfl rfl hk
  · replace hk := hk.2 c8
    refine px_iload_n (i := 2) C dX6_nodeIn_8 rfl rfl ?_
    refine px_iconst (v := (4 : Int32)) C dX6_nodeIn_9 rfl ?_
    refine px_callSNi (h := 0) (rc' := 0) (rs' := 0) C (HR_le hHR (Nat.le_of_ble_eq_true rfl)) hRt hnT dX6_nodeIn_10 (List.mem_append_right _ (List.mem_append_left _ (List.mem_of_getElem? (i := 7) rfl))) ms_X8_isWithin (w8_isWithin_ok (PCx_l C) (PCx_I C) hk) rfl rfl (Nat.le_of_ble_eq_true rfl) (Nat.le_of_ble_eq_true rfl) (Nat.le_of_ble_eq_true rfl) (Nat.le_of_ble_eq_true rfl) ?_
    intro r4 μ3 hk
    refine px_if_eq (tgt := 27) C dX6_nodeIn_13 (by decide) (fun c7 => ?_) (fun c7 => ?_)
    · replace hk := hk.1 c7
      refine px_iconst (v := (-1 : Int32)) C dX6_nodeIn_27 rfl ?_
      exact px_iret C hRt dX6_nodeIn_28 rfl rfl hk
    · replace hk := hk.2 c7
      refine px_aload_n (i := 0) C dX6_nodeIn_16 rfl rfl ?_
      refine px_getr C dX6_nodeIn_17 fl_RX6_16 rfl rfl rfl ?_
      refine px_iload_n (i := 1) C dX6_nodeIn_20 rfl rfl ?_
      obtain ⟨o5, hk⟩ := hk
      refine px_aald C dX6_nodeIn_21 rfl rfl rfl o5 rfl ?_
      refine px_iload_n (i := 2) C dX6_nodeIn_22 rfl rfl ?_
      obtain ⟨o6, hk⟩ := hk
      refine px_iald 2368 C dX6_nodeIn_23 rfl rfl rfl rfl o6 ?_
      refine px_goto (tgt := 28) C dX6_nodeIn_24 (by decide) ?_
      exact px_iret C hRt dX6_nodeIn_28 rfl rfl hk
