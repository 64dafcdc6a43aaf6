theorem dX9_isCut_0 : decode cX9_isCut 0 = .ok (.iconst 0, 1) := by decide +kernel
theorem dX9_isCut_1 : decode cX9_isCut 1 = .ok (.istore_n 2, 1) := by decide +kernel
theorem dX9_isCut_2 : decode cX9_isCut 2 = .ok (.aload_n 0, 1) := by decide +kernel
theorem dX9_isCut_3 : decode cX9_isCut 3 = .ok (.iload_n 1, 1) := by decide +kernel
theorem dX9_isCut_4 : decode cX9_isCut 4 = .ok (.invokevirtual 99, 3) := by decide +kernel
theorem dX9_isCut_7 : decode cX9_isCut 7 = .ok (.istore_n 3, 1) := by decide +kernel
theorem dX9_isCut_8 : decode cX9_isCut 8 = .ok (.iload_n 3, 1) := by decide +kernel
theorem dX9_isCut_9 : decode cX9_isCut 9 = .ok (.iconst (-1), 1) := by decide +kernel
theorem dX9_isCut_10 : decode cX9_isCut 10 = .ok (.if_icmp .eq 43, 3) := by decide +kernel
theorem dX9_isCut_13 : decode cX9_isCut 13 = .ok (.iload_n 3, 1) := by decide +kernel
theorem dX9_isCut_14 : decode cX9_isCut 14 = .ok (.iload_n 1, 1) := by decide +kernel
theorem dX9_isCut_15 : decode cX9_isCut 15 = .ok (.if_icmp .eq 38, 3) := by decide +kernel
theorem dX9_isCut_18 : decode cX9_isCut 18 = .ok (.iload_n 2, 1) := by decide +kernel
theorem dX9_isCut_19 : decode cX9_isCut 19 = .ok (.bipush 40, 2) := by decide +kernel
theorem dX9_isCut_21 : decode cX9_isCut 21 = .ok (.if_icmp .gt 32, 3) := by decide +kernel
theorem dX9_isCut_24 : decode cX9_isCut 24 = .ok (.aload_n 0, 1) := by decide +kernel
theorem dX9_isCut_25 : decode cX9_isCut 25 = .ok (.iload_n 3, 1) := by decide +kernel
theorem dX9_isCut_26 : decode cX9_isCut 26 = .ok (.iconst 0, 1) := by decide +kernel
theorem dX9_isCut_27 : decode cX9_isCut 27 = .ok (.invokevirtual 83, 3) := by decide +kernel
theorem dX9_isCut_30 : decode cX9_isCut 30 = .ok (.aload_n 0, 1) := by decide +kernel
theorem dX9_isCut_31 : decode cX9_isCut 31 = .ok (.iload_n 1, 1) := by decide +kernel
theorem dX9_isCut_32 : decode cX9_isCut 32 = .ok (.iconst 0, 1) := by decide +kernel
theorem dX9_isCut_33 : decode cX9_isCut 33 = .ok (.invokevirtual 83, 3) := by decide +kernel
theorem dX9_isCut_36 : decode cX9_isCut 36 = .ok (.if_icmp .ge 5, 3) := by decide +kernel
theorem dX9_isCut_39 : decode cX9_isCut 39 = .ok (.iconst 0, 1) := by decide +kernel
theorem dX9_isCut_40 : decode cX9_isCut 40 = .ok (.ireturn, 1) := by decide +kernel
theorem dX9_isCut_41 : decode cX9_isCut 41 = .ok (.aload_n 0, 1) := by decide +kernel
theorem dX9_isCut_42 : decode cX9_isCut 42 = .ok (.iload_n 3, 1) := by decide +kernel
theorem dX9_isCut_43 : decode cX9_isCut 43 = .ok (.invokevirtual 99, 3) := by decide +kernel
theorem dX9_isCut_46 : decode cX9_isCut 46 = .ok (.istore_n 3, 1) := by decide +kernel
theorem dX9_isCut_47 : decode cX9_isCut 47 = .ok (.iinc 2 1, 3) := by decide +kernel
theorem dX9_isCut_50 : decode cX9_isCut 50 = .ok (.goto (-42), 3) := by decide +kernel
theorem dX9_isCut_53 : decode cX9_isCut 53 = .ok (.iload_n 3, 1) := by decide +kernel
theorem dX9_isCut_54 : decode cX9_isCut 54 = .ok (.iload_n 1, 1) := by decide +kernel
theorem dX9_isCut_55 : decode cX9_isCut 55 = .ok (.if_icmp .ne 7, 3) := by decide +kernel
theorem dX9_isCut_58 : decode cX9_isCut 58 = .ok (.iconst 1, 1) := by decide +kernel
theorem dX9_isCut_59 : decode cX9_isCut 59 = .ok (.goto 4, 3) := by decide +kernel
theorem dX9_isCut_62 : decode cX9_isCut 62 = .ok (.iconst 0, 1) := by decide +kernel
theorem dX9_isCut_63 : decode cX9_isCut 63 = .ok (.ireturn, 1) := by decide +kernel
set_option maxRecDepth 100000 in
set_option maxHeartbeats 4000000 in
theorem w9_isCut_b8_ok {G : GT} {P : Int32 → Mem → Prop} {X : String → Mem → Prop} (C : PCx G cX9_isCut 4 RX9) (hRt : PRt G (some .boolean) (qI P) X) (hHR : HR G (3)) (hnT : NoT G) {μ : Mem} {l1 : Int32} {l2 : Int32} {l3 : Int32} (hk : w9_isCut_b8 P μ l1 l2 l3) : PW G 0 0 8 [some (pR 50 0), some (pI l1), some (pI l2), some (pI l3)] [] μ := by
  refine hk (fun (μ : Mem) (l1 : Int32) (l2 : Int32) (l3 : Int32) => PW G 0 0 8 [some (pR 50 0), some (pI l1), some (pI l2), some (pI l3)] [] μ) (fun (μ : Mem) l1 l2 l3 hk => ?_)
  have hR8 : ∀ (μ : Mem) (l1 : Int32) (l2 : Int32) (l3 : Int32), PW G 0 0 8 [some (pR 50 0), some (pI l1), some (pI l2), some (pI l3)] [] μ → PW G 0 0 8 [some (pR 50 0), some (pI l1), some (pI l2), some (pI l3)] [] μ := fun _ _ _ _ h => h
  unfold w9_isCut_b8_body at hk
  refine px_iload_n (i := 3) C dX9_isCut_8 rfl rfl ?_
  refine px_iconst (v := (-1 : Int32)) C dX9_isCut_9 rfl ?_
  refine px_icmp_eq (tgt := 53) C dX9_isCut_10 (by decide) (fun c15 => ?_) (fun c15 => ?_)
  · replace hk := hk.1 c15
    refine px_iload_n (i := 3) C dX9_isCut_53 rfl rfl ?_
    refine px_iload_n (i := 1) C dX9_isCut_54 rfl rfl ?_
    refine px_icmp_ne (tgt := 62) C dX9_isCut_55 (by decide) (fun c3 => ?_) (fun c3 => ?_)
    · replace hk := hk.1 c3
      refine px_iconst (v := (0 : Int32)) C dX9_isCut_62 rfl ?_
      exact px_iret C hRt dX9_isCut_63 rfl rfl hk
    · replace hk := hk.2 c3
      refine px_iconst (v := (1 : Int32)) C dX9_isCut_58 rfl ?_
      refine px_goto (tgt := 63) C dX9_isCut_59 (by decide) ?_
      exact px_iret C hRt dX9_isCut_63 rfl rfl hk
  · replace hk := hk.2 c15
    refine px_iload_n (i := 3) C dX9_isCut_13 rfl rfl ?_
    refine px_iload_n (i := 1) C dX9_isCut_14 rfl rfl ?_
    refine px_icmp_eq (tgt := 53) C dX9_isCut_15 (by decide) (fun c14 => ?_) (fun c14 => ?_)
    · replace hk := hk.1 c14
      refine px_iload_n (i := 3) C dX9_isCut_53 rfl rfl ?_
      refine px_iload_n (i := 1) C dX9_isCut_54 rfl rfl ?_
      refine px_icmp_ne (tgt := 62) C dX9_isCut_55 (by decide) (fun c4 => ?_) (fun c4 => ?_)
      · replace hk := hk.1 c4
        refine px_iconst (v := (0 : Int32)) C dX9_isCut_62 rfl ?_
        exact px_iret C hRt dX9_isCut_63 rfl rfl hk
      · replace hk := hk.2 c4
        refine px_iconst (v := (1 : Int32)) C dX9_isCut_58 rfl ?_
        refine px_goto (tgt := 63) C dX9_isCut_59 (by decide) ?_
        exact px_iret C hRt dX9_isCut_63 rfl rfl hk
    · replace hk := hk.2 c14
      refine px_iload_n (i := 2) C dX9_isCut_18 rfl rfl ?_
      refine px_bipush (v := (40 : Int32)) C dX9_isCut_19 rfl ?_
      refine px_icmp_gt (tgt := 53) C dX9_isCut_21 (by decide) (fun c13 => ?_) (fun c13 => ?_)
      · replace hk := hk.1 c13
        refine px_iload_n (i := 3) C dX9_isCut_53 rfl rfl ?_
        refine px_iload_n (i := 1) C dX9_isCut_54 rfl rfl ?_
        refine px_icmp_ne (tgt := 62) C dX9_isCut_55 (by decide) (fun c5 => ?_) (fun c5 => ?_)
        · replace hk := hk.1 c5
          refine px_iconst (v := (0 : Int32)) C dX9_isCut_62 rfl ?_
          exact px_iret C hRt dX9_isCut_63 rfl rfl hk
        · replace hk := hk.2 c5
          refine px_iconst (v := (1 : Int32)) C dX9_isCut_58 rfl ?_
          refine px_goto (tgt := 63) C dX9_isCut_59 (by decide) ?_
          exact px_iret C hRt dX9_isCut_63 rfl rfl hk
      · replace hk := hk.2 c13
        refine px_aload_n (i := 0) C dX9_isCut_24 rfl rfl ?_
        refine px_iload_n (i := 3) C dX9_isCut_25 rfl rfl ?_
        refine px_iconst (v := (0 : Int32)) C dX9_isCut_26 rfl ?_
        refine px_callVi (h := 0) (rc' := 0) (rs' := 0) C (HR_le hHR (Nat.le_of_ble_eq_true rfl)) hRt hnT dX9_isCut_27 (gw8 152 rfl rfl) mv_X9_of (w9_of_ok (PCx_l C) (PCx_I C) hk) rfl rfl rfl rfl rfl (Nat.le_of_ble_eq_true rfl) (Nat.le_of_ble_eq_true rfl) (Nat.le_of_ble_eq_true rfl) (Nat.le_of_ble_eq_true rfl) ?_
        intro r7 μ6 hk
        refine px_aload_n (i := 0) C dX9_isCut_30 rfl rfl ?_
        refine px_iload_n (i := 1) C dX9_isCut_31 rfl rfl ?_
        refine px_iconst (v := (0 : Int32)) C dX9_isCut_32 rfl ?_
        refine px_callVi (h := 0) (rc' := 0) (rs' := 0) C (HR_le hHR (Nat.le_of_ble_eq_true rfl)) hRt hnT dX9_isCut_33 (gw8 152 rfl rfl) mv_X9_of (w9_of_ok (PCx_l C) (PCx_I C) hk) rfl rfl rfl rfl rfl (Nat.le_of_ble_eq_true rfl) (Nat.le_of_ble_eq_true rfl) (Nat.le_of_ble_eq_true rfl) (Nat.le_of_ble_eq_true rfl) ?_
        intro r9 μ8 hk
        refine px_icmp_ge (tgt := 41) C dX9_isCut_36 (by decide) (fun c12 => ?_) (fun c12 => ?_)
        · replace hk := hk.1 c12
          refine px_aload_n (i := 0) C dX9_isCut_41 rfl rfl ?_
          refine px_iload_n (i := 3) C dX9_isCut_42 rfl rfl ?_
          refine px_callVi (h := 2) (rc' := 0) (rs' := 0) C (HR_le hHR (Nat.le_of_ble_eq_true rfl)) hRt hnT dX9_isCut_43 (gw8 217 rfl rfl) mv_X9_parentOf (w9_parentOf_ok (PCx_l C) (PCx_I C) hk) rfl rfl rfl rfl rfl (Nat.le_of_ble_eq_true rfl) (Nat.le_of_ble_eq_true rfl) (Nat.le_of_ble_eq_true rfl) (Nat.le_of_ble_eq_true rfl) ?_
          intro r11 μ10 hk
          refine px_istore_n (i := 3) C dX9_isCut_46 rfl (by decide) rfl ?_
          refine px_iinc (i := 2) (v := (1 : Int32)) C dX9_isCut_47 rfl rfl (by decide) rfl ?_
          refine px_goto (tgt := 8) C dX9_isCut_50 (by decide) ?_
          exact PW_at (hR8 _ _ _ _ hk) (And.intro rfl (And.intro rfl (And.intro rfl (And.intro rfl trivial)))) (Nat.le_of_ble_eq_true rfl) (Nat.le_of_ble_eq_true rfl)
        · replace hk := hk.2 c12
          refine px_iconst (v := (0 : Int32)) C dX9_isCut_39 rfl ?_
          exact px_iret C hRt dX9_isCut_40 rfl rfl hk
set_option maxRecDepth 100000 in
set_option maxHeartbeats 4000000 in
theorem w9_isCut_ok {l : Launch} {idx : List (Nat × Nat)} {μ : Mem} {a1 : Int32} {P : Int32 → Mem → Prop} {X : String → Mem → Prop} (hl : l.stackTraces = false) (hI : IdxOK idx) (hk : w9_isCut_wp μ a1 P) : PMet l yX9_isCut (.code yX9_isCut cX9_isCut 4 (some .boolean)) 3 0 0 idx [pR 50 0, pI a1] μ (qI P) X := by
  refine PMet_of mv_X9_isCut.2.2.2.2.2.2 hl hI mv_X9_isCut.2.2.2.1 rfl (Nat.le_of_ble_eq_true rfl) (fun G _ _ C hRt hHR hnT => ?_)
  show PW G 0 0 0 [some (pR 50 0), some (pI a1), none, none] [] μ
  unfold w9_isCut_wp at hk
  refine px_iconst (v := (0 : Int32)) C dX9_isCut_0 rfl ?_
  refine px_istore_n (i := 2) C dX9_isCut_1 rfl (by decide) rfl ?_
  refine px_aload_n (i := 0) C dX9_isCut_2 rfl rfl ?_
  refine px_iload_n (i := 1) C dX9_isCut_3 rfl rfl ?_
  refine px_callVi (h := 2) (rc' := 0) (rs' := 0) C (HR_le hHR (Nat.le_of_ble_eq_true rfl)) hRt hnT dX9_isCut_4 (gw8 217 rfl rfl) mv_X9_parentOf (w9_parentOf_ok (PCx_l C) (PCx_I C) hk) rfl rfl rfl rfl rfl (Nat.le_of_ble_eq_true rfl) (Nat.le_of_ble_eq_true rfl) (Nat.le_of_ble_eq_true rfl) (Nat.le_of_ble_eq_true rfl) ?_
  intro r2 μ1 hk
  refine px_istore_n (i := 3) C dX9_isCut_7 rfl (by decide) rfl ?_
  exact PW_at (w9_isCut_b8_ok C hRt hHR hnT hk) (And.intro rfl (And.intro rfl (And.intro rfl (And.intro rfl trivial)))) (Nat.le_of_ble_eq_true rfl) (Nat.le_of_ble_eq_true rfl)
theorem dX9_plants_0 : decode cX9_plants 0 = .ok (.aload_n 0, 1) := by decide +kernel
theorem dX9_plants_1 : decode cX9_plants 1 = .ok (.iconst 0, 1) := by decide +kernel
theorem dX9_plants_2 : decode cX9_plants 2 = .ok (.putfield 112, 3) := by decide +kernel
theorem dX9_plants_5 : decode cX9_plants 5 = .ok (.iconst 0, 1) := by decide +kernel
theorem dX9_plants_6 : decode cX9_plants 6 = .ok (.istore_n 1, 1) := by decide +kernel
theorem dX9_plants_7 : decode cX9_plants 7 = .ok (.iload_n 1, 1) := by decide +kernel
theorem dX9_plants_8 : decode cX9_plants 8 = .ok (.aload_n 0, 1) := by decide +kernel
theorem dX9_plants_9 : decode cX9_plants 9 = .ok (.getfield 7, 3) := by decide +kernel
theorem dX9_plants_12 : decode cX9_plants 12 = .ok (.iconst 0, 1) := by decide +kernel
theorem dX9_plants_13 : decode cX9_plants 13 = .ok (.iaload, 1) := by decide +kernel
theorem dX9_plants_14 : decode cX9_plants 14 = .ok (.if_icmp .ge 158, 3) := by decide +kernel
theorem dX9_plants_17 : decode cX9_plants 17 = .ok (.aload_n 0, 1) := by decide +kernel
theorem dX9_plants_18 : decode cX9_plants 18 = .ok (.iload_n 1, 1) := by decide +kernel
theorem dX9_plants_19 : decode cX9_plants 19 = .ok (.invokevirtual 99, 3) := by decide +kernel
theorem dX9_plants_22 : decode cX9_plants 22 = .ok (.istore_n 2, 1) := by decide +kernel
theorem dX9_plants_23 : decode cX9_plants 23 = .ok (.aload_n 0, 1) := by decide +kernel
theorem dX9_plants_24 : decode cX9_plants 24 = .ok (.getfield 47, 3) := by decide +kernel
theorem dX9_plants_27 : decode cX9_plants 27 = .ok (.iload_n 1, 1) := by decide +kernel
theorem dX9_plants_28 : decode cX9_plants 28 = .ok (.iload_n 2, 1) := by decide +kernel
theorem dX9_plants_29 : decode cX9_plants 29 = .ok (.iastore, 1) := by decide +kernel
theorem dX9_plants_30 : decode cX9_plants 30 = .ok (.aload_n 0, 1) := by decide +kernel
theorem dX9_plants_31 : decode cX9_plants 31 = .ok (.getfield 50, 3) := by decide +kernel
theorem dX9_plants_34 : decode cX9_plants 34 = .ok (.iload_n 1, 1) := by decide +kernel
theorem dX9_plants_35 : decode cX9_plants 35 = .ok (.iload_n 2, 1) := by decide +kernel
theorem dX9_plants_36 : decode cX9_plants 36 = .ok (.iconst (-1), 1) := by decide +kernel
theorem dX9_plants_37 : decode cX9_plants 37 = .ok (.if_icmp .ne 7, 3) := by decide +kernel
theorem dX9_plants_40 : decode cX9_plants 40 = .ok (.iconst 0, 1) := by decide +kernel
theorem dX9_plants_41 : decode cX9_plants 41 = .ok (.goto 4, 3) := by decide +kernel
theorem dX9_plants_44 : decode cX9_plants 44 = .ok (.iconst 1, 1) := by decide +kernel
theorem dX9_plants_45 : decode cX9_plants 45 = .ok (.iastore, 1) := by decide +kernel
theorem dX9_plants_46 : decode cX9_plants 46 = .ok (.iload_n 2, 1) := by decide +kernel
theorem dX9_plants_47 : decode cX9_plants 47 = .ok (.iconst (-1), 1) := by decide +kernel
theorem dX9_plants_48 : decode cX9_plants 48 = .ok (.if_icmp .eq 25, 3) := by decide +kernel
theorem dX9_plants_51 : decode cX9_plants 51 = .ok (.aload_n 0, 1) := by decide +kernel
theorem dX9_plants_52 : decode cX9_plants 52 = .ok (.iload_n 1, 1) := by decide +kernel
theorem dX9_plants_53 : decode cX9_plants 53 = .ok (.invokevirtual 115, 3) := by decide +kernel
theorem dX9_plants_56 : decode cX9_plants 56 = .ok (.ifCond .eq 17, 3) := by decide +kernel
theorem dX9_plants_59 : decode cX9_plants 59 = .ok (.aload_n 0, 1) := by decide +kernel
theorem dX9_plants_60 : decode cX9_plants 60 = .ok (.getfield 47, 3) := by decide +kernel
theorem dX9_plants_63 : decode cX9_plants 63 = .ok (.iload_n 1, 1) := by decide +kernel
theorem dX9_plants_64 : decode cX9_plants 64 = .ok (.iconst (-1), 1) := by decide +kernel
theorem dX9_plants_65 : decode cX9_plants 65 = .ok (.iastore, 1) := by decide +kernel
theorem dX9_plants_66 : decode cX9_plants 66 = .ok (.aload_n 0, 1) := by decide +kernel
theorem dX9_plants_67 : decode cX9_plants 67 = .ok (.getfield 50, 3) := by decide +kernel
theorem dX9_plants_70 : decode cX9_plants 70 = .ok (.iload_n 1, 1) := by decide +kernel
theorem dX9_plants_71 : decode cX9_plants 71 = .ok (.iconst 3, 1) := by decide +kernel
theorem dX9_plants_72 : decode cX9_plants 72 = .ok (.iastore, 1) := by decide +kernel
theorem dX9_plants_73 : decode cX9_plants 73 = .ok (.iload_n 2, 1) := by decide +kernel
theorem dX9_plants_74 : decode cX9_plants 74 = .ok (.iconst (-1), 1) := by decide +kernel
theorem dX9_plants_75 : decode cX9_plants 75 = .ok (.if_icmp .ne 91, 3) := by decide +kernel
theorem dX9_plants_78 : decode cX9_plants 78 = .ok (.aload_n 0, 1) := by decide +kernel
theorem dX9_plants_79 : decode cX9_plants 79 = .ok (.iload_n 1, 1) := by decide +kernel
theorem dX9_plants_80 : decode cX9_plants 80 = .ok (.iconst 2, 1) := by decide +kernel
theorem dX9_plants_81 : decode cX9_plants 81 = .ok (.invokevirtual 83, 3) := by decide +kernel
theorem dX9_plants_84 : decode cX9_plants 84 = .ok (.iconst (-1), 1) := by decide +kernel
theorem dX9_plants_85 : decode cX9_plants 85 = .ok (.if_icmp .eq 81, 3) := by decide +kernel
theorem dX9_plants_88 : decode cX9_plants 88 = .ok (.aload_n 0, 1) := by decide +kernel
theorem dX9_plants_89 : decode cX9_plants 89 = .ok (.aload_n 0, 1) := by decide +kernel
theorem dX9_plants_90 : decode cX9_plants 90 = .ok (.iload_n 1, 1) := by decide +kernel
theorem dX9_plants_91 : decode cX9_plants 91 = .ok (.iconst 1, 1) := by decide +kernel
theorem dX9_plants_92 : decode cX9_plants 92 = .ok (.invokevirtual 83, 3) := by decide +kernel
theorem dX9_plants_95 : decode cX9_plants 95 = .ok (.aload_n 0, 1) := by decide +kernel
theorem dX9_plants_96 : decode cX9_plants 96 = .ok (.iload_n 1, 1) := by decide +kernel
theorem dX9_plants_97 : decode cX9_plants 97 = .ok (.iconst 2, 1) := by decide +kernel
theorem dX9_plants_98 : decode cX9_plants 98 = .ok (.invokevirtual 83, 3) := by decide +kernel
theorem dX9_plants_101 : decode cX9_plants 101 = .ok (.invokevirtual 119, 3) := by decide +kernel
theorem dX9_plants_104 : decode cX9_plants 104 = .ok (.istore_n 3, 1) := by decide +kernel
theorem dX9_plants_105 : decode cX9_plants 105 = .ok (.iload_n 3, 1) := by decide +kernel
theorem dX9_plants_106 : decode cX9_plants 106 = .ok (.iconst (-1), 1) := by decide +kernel
theorem dX9_plants_107 : decode cX9_plants 107 = .ok (.if_icmp .ne 42, 3) := by decide +kernel
theorem dX9_plants_110 : decode cX9_plants 110 = .ok (.aload_n 0, 1) := by decide +kernel
theorem dX9_plants_111 : decode cX9_plants 111 = .ok (.getfield 112, 3) := by decide +kernel
theorem dX9_plants_114 : decode cX9_plants 114 = .ok (.istore_n 3, 1) := by decide +kernel
theorem dX9_plants_115 : decode cX9_plants 115 = .ok (.aload_n 0, 1) := by decide +kernel
theorem dX9_plants_116 : decode cX9_plants 116 = .ok (.getfield 53, 3) := by decide +kernel
theorem dX9_plants_119 : decode cX9_plants 119 = .ok (.iload_n 3, 1) := by decide +kernel
theorem dX9_plants_120 : decode cX9_plants 120 = .ok (.aload_n 0, 1) := by decide +kernel
theorem dX9_plants_121 : decode cX9_plants 121 = .ok (.iload_n 1, 1) := by decide +kernel
theorem dX9_plants_122 : decode cX9_plants 122 = .ok (.iconst 1, 1) := by decide +kernel
theorem dX9_plants_123 : decode cX9_plants 123 = .ok (.invokevirtual 83, 3) := by decide +kernel
theorem dX9_plants_126 : decode cX9_plants 126 = .ok (.iastore, 1) := by decide +kernel
theorem dX9_plants_127 : decode cX9_plants 127 = .ok (.aload_n 0, 1) := by decide +kernel
theorem dX9_plants_128 : decode cX9_plants 128 = .ok (.getfield 56, 3) := by decide +kernel
theorem dX9_plants_131 : decode cX9_plants 131 = .ok (.iload_n 3, 1) := by decide +kernel
theorem dX9_plants_132 : decode cX9_plants 132 = .ok (.aload_n 0, 1) := by decide +kernel
theorem dX9_plants_133 : decode cX9_plants 133 = .ok (.iload_n 1, 1) := by decide +kernel
theorem dX9_plants_134 : decode cX9_plants 134 = .ok (.iconst 2, 1) := by decide +kernel
theorem dX9_plants_135 : decode cX9_plants 135 = .ok (.invokevirtual 83, 3) := by decide +kernel
theorem dX9_plants_138 : decode cX9_plants 138 = .ok (.iastore, 1) := by decide +kernel
theorem dX9_plants_139 : decode cX9_plants 139 = .ok (.aload_n 0, 1) := by decide +kernel
theorem dX9_plants_140 : decode cX9_plants 140 = .ok (.dup, 1) := by decide +kernel
theorem dX9_plants_141 : decode cX9_plants 141 = .ok (.getfield 112, 3) := by decide +kernel
theorem dX9_plants_144 : decode cX9_plants 144 = .ok (.iconst 1, 1) := by decide +kernel
theorem dX9_plants_145 : decode cX9_plants 145 = .ok (.iadd, 1) := by decide +kernel
theorem dX9_plants_146 : decode cX9_plants 146 = .ok (.putfield 112, 3) := by decide +kernel
theorem dX9_plants_149 : decode cX9_plants 149 = .ok (.aload_n 0, 1) := by decide +kernel
theorem dX9_plants_150 : decode cX9_plants 150 = .ok (.getfield 47, 3) := by decide +kernel
theorem dX9_plants_153 : decode cX9_plants 153 = .ok (.iload_n 1, 1) := by decide +kernel
theorem dX9_plants_154 : decode cX9_plants 154 = .ok (.bipush 40, 2) := by decide +kernel
theorem dX9_plants_156 : decode cX9_plants 156 = .ok (.iload_n 3, 1) := by decide +kernel
theorem dX9_plants_157 : decode cX9_plants 157 = .ok (.iadd, 1) := by decide +kernel
theorem dX9_plants_158 : decode cX9_plants 158 = .ok (.iastore, 1) := by decide +kernel
theorem dX9_plants_159 : decode cX9_plants 159 = .ok (.aload_n 0, 1) := by decide +kernel
theorem dX9_plants_160 : decode cX9_plants 160 = .ok (.getfield 50, 3) := by decide +kernel
theorem dX9_plants_163 : decode cX9_plants 163 = .ok (.iload_n 1, 1) := by decide +kernel
theorem dX9_plants_164 : decode cX9_plants 164 = .ok (.iconst 2, 1) := by decide +kernel
theorem dX9_plants_165 : decode cX9_plants 165 = .ok (.iastore, 1) := by decide +kernel
theorem dX9_plants_166 : decode cX9_plants 166 = .ok (.iinc 1 1, 3) := by decide +kernel
theorem dX9_plants_169 : decode cX9_plants 169 = .ok (.goto (-162), 3) := by decide +kernel
theorem dX9_plants_172 : decode cX9_plants 172 = .ok (.return_, 1) := by decide +kernel
set_option maxRecDepth 100000 in
set_option maxHeartbeats 4000000 in
theorem w9_plants_b149_ok {G : GT} {P : Mem → Prop} {X : String → Mem → Prop} (C : PCx G cX9_plants 4 RX9) (hRt : PRt G none (qV P) X) (hHR : HR G (4)) (hnT : NoT G) {R7 : Mem → Int32 → Prop} (hR7 : ∀ (μ : Mem) (l1 : Int32), R7 μ l1 → PW G 0 0 7 [some (pR 50 0), some (pI l1), none, none] [] μ) {μ : Mem} {l1 : Int32} {l3 : Int32} (hk : w9_plants_b149 P R7 μ l1 l3) : PW G 0 0 149 [some (pR 50 0), some (pI l1), none, some (pI l3)] [] μ := by
  unfold w9_plants_b149 at hk
  refine px_aload_n (i := 0) C dX9_plants_149 rfl rfl ?_
  refine px_getr C dX9_plants_150 fl_RX9_47 rfl rfl rfl ?_
  refine px_iload_n (i := 1) C dX9_plants_153 rfl rfl ?_
  refine px_bipush (v := (40 : Int32)) C dX9_plants_154 rfl ?_
  refine px_iload_n (i := 3) C dX9_plants_156 rfl rfl ?_
  refine px_iadd C dX9_plants_157 ?_
  obtain ⟨o17, hk⟩ := hk
  replace hk := hk _ rfl
  refine px_iast 3968 C dX9_plants_158 rfl rfl rfl rfl o17 ?_
  refine px_aload_n (i := 0) C dX9_plants_159 rfl rfl ?_
  refine px_getr C dX9_plants_160 fl_RX9_50 rfl rfl rfl ?_
  refine px_iload_n (i := 1) C dX9_plants_163 rfl rfl ?_
  refine px_iconst (v := (2 : Int32)) C dX9_plants_164 rfl ?_
  obtain ⟨o19, hk⟩ := hk
  replace hk := hk _ rfl
  refine px_iast 4032 C dX9_plants_165 rfl rfl rfl rfl o19 ?_
  refine px_iinc (i := 1) (v := (1 : Int32)) C dX9_plants_166 rfl rfl (by decide) rfl ?_
  refine px_goto (tgt := 7) C dX9_plants_169 (by decide) ?_
  exact PW_at (hR7 _ _ hk) (And.intro rfl (And.intro rfl trivial)) (Nat.le_of_ble_eq_true rfl) (Nat.le_of_ble_eq_true rfl)
set_option maxRecDepth 100000 in
set_option maxHeartbeats 4000000 in
theorem w9_plants_b73_ok {G : GT} {P : Mem → Prop} {X : String → Mem → Prop} (C : PCx G cX9_plants 4 RX9) (hRt : PRt G none (qV P) X) (hHR : HR G (4)) (hnT : NoT G) {R7 : Mem → Int32 → Prop} (hR7 : ∀ (μ : Mem) (l1 : Int32), R7 μ l1 → PW G 0 0 7 [some (pR 50 0), some (pI l1), none, none] [] μ) {μ : Mem} {l1 : Int32} {l2 : Int32} (hk : w9_plants_b73 P R7 μ l1 l2) : PW G 0 0 73 [some (pR 50 0), some (pI l1), some (pI l2), none] [] μ := by
  unfold w9_plants_b73 at hk
  refine px_iload_n (i := 2) C dX9_plants_73 rfl rfl ?_
  refine px_iconst (v := (-1 : Int32)) C dX9_plants_74 rfl ?_
  refine px_icmp_ne (tgt := 166) C dX9_plants_75 (by decide) (fun c32 => ?_) (fun c32 => ?_)
  · replace hk := hk.1 c32
    refine px_iinc (i := 1) (v := (1 : Int32)) C dX9_plants_166 rfl rfl (by decide) rfl ?_
    refine px_goto (tgt := 7) C dX9_plants_169 (by decide) ?_
    exact PW_at (hR7 _ _ hk) (And.intro rfl (And.intro rfl trivial)) (Nat.le_of_ble_eq_true rfl) (Nat.le_of_ble_eq_true rfl)
  · replace hk := hk.2 c32
    refine px_aload_n (i := 0) C dX9_plants_78 rfl rfl ?_
    refine px_iload_n (i := 1) C dX9_plants_79 rfl rfl ?_
    refine px_iconst (v := (2 : Int32)) C dX9_plants_80 rfl ?_
    refine px_callVi (h := 0) (rc' := 0) (rs' := 0) C (HR_le hHR (Nat.le_of_ble_eq_true rfl)) hRt hnT dX9_plants_81 (gw8 152 rfl rfl) mv_X9_of (w9_of_ok (PCx_l C) (PCx_I C) hk) rfl rfl rfl rfl rfl (Nat.le_of_ble_eq_true rfl) (Nat.le_of_ble_eq_true rfl) (Nat.le_of_ble_eq_true rfl) (Nat.le_of_ble_eq_true rfl) ?_
    intro r10 μ9 hk
    refine px_iconst (v := (-1 : Int32)) C dX9_plants_84 rfl ?_
    refine px_icmp_eq (tgt := 166) C dX9_plants_85 (by decide) (fun c31 => ?_) (fun c31 => ?_)
    · replace hk := hk.1 c31
      refine px_iinc (i := 1) (v := (1 : Int32)) C dX9_plants_166 rfl rfl (by decide) rfl ?_
      refine px_goto (tgt := 7) C dX9_plants_169 (by decide) ?_
      exact PW_at (hR7 _ _ hk) (And.intro rfl (And.intro rfl trivial)) (Nat.le_of_ble_eq_true rfl) (Nat.le_of_ble_eq_true rfl)
    · replace hk := hk.2 c31
      refine px_aload_n (i := 0) C dX9_plants_88 rfl rfl ?_
      refine px_aload_n (i := 0) C dX9_plants_89 rfl rfl ?_
      refine px_iload_n (i := 1) C dX9_plants_90 rfl rfl ?_
      refine px_iconst (v := (1 : Int32)) C dX9_plants_91 rfl ?_
      refine px_callVi (h := 0) (rc' := 0) (rs' := 0) C (HR_le hHR (Nat.le_of_ble_eq_true rfl)) hRt hnT dX9_plants_92 (gw8 152 rfl rfl) mv_X9_of (w9_of_ok (PCx_l C) (PCx_I C) hk) rfl rfl rfl rfl rfl (Nat.le_of_ble_eq_true rfl) (Nat.le_of_ble_eq_true rfl) (Nat.le_of_ble_eq_true rfl) (Nat.le_of_ble_eq_true rfl) ?_
      intro r12 μ11 hk
      refine px_aload_n (i := 0) C dX9_plants_95 rfl rfl ?_
      refine px_iload_n (i := 1) C dX9_plants_96 rfl rfl ?_
      refine px_iconst (v := (2 : Int32)) C dX9_plants_97 rfl ?_
      refine px_callVi (h := 0) (rc' := 0) (rs' := 0) C (HR_le hHR (Nat.le_of_ble_eq_true rfl)) hRt hnT dX9_plants_98 (gw8 152 rfl rfl) mv_X9_of (w9_of_ok (PCx_l C) (PCx_I C) hk) rfl rfl rfl rfl rfl (Nat.le_of_ble_eq_true rfl) (Nat.le_of_ble_eq_true rfl) (Nat.le_of_ble_eq_true rfl) (Nat.le_of_ble_eq_true rfl) ?_
      intro r14 μ13 hk
      refine px_callVi (h := 0) (rc' := 0) (rs' := 0) C (HR_le hHR (Nat.le_of_ble_eq_true rfl)) hRt hnT dX9_plants_101 (gw8 239 rfl rfl) mv_X9_holder (w9_holder_ok (PCx_l C) (PCx_I C) hk) rfl rfl rfl rfl rfl (Nat.le_of_ble_eq_true rfl) (Nat.le_of_ble_eq_true rfl) (Nat.le_of_ble_eq_true rfl) (Nat.le_of_ble_eq_true rfl) ?_
      intro r16 μ15 hk
      refine px_istore_n (i := 3) C dX9_plants_104 rfl (by decide) rfl ?_
      refine px_iload_n (i := 3) C dX9_plants_105 rfl rfl ?_
      refine px_iconst (v := (-1 : Int32)) C dX9_plants_106 rfl ?_
      refine px_icmp_ne (tgt := 149) C dX9_plants_107 (by decide) (fun c30 => ?_) (fun c30 => ?_)
      · replace hk := hk.1 c30
        exact PW_at (w9_plants_b149_ok C hRt hHR hnT hR7 hk) (And.intro rfl (And.intro rfl (And.intro rfl trivial))) (Nat.le_of_ble_eq_true rfl) (Nat.le_of_ble_eq_true rfl)
      · replace hk := hk.2 c30
        refine px_aload_n (i := 0) C dX9_plants_110 rfl rfl ?_
        refine px_geti 3222 C dX9_plants_111 fl_RX9_112 rfl rfl rfl rfl ?_
        refine px_istore_n (i := 3) C dX9_plants_114 rfl (by decide) rfl ?_
        refine px_aload_n (i := 0) C dX9_plants_115 rfl rfl ?_
        refine px_getr C dX9_plants_116 fl_RX9_53 rfl rfl rfl ?_
        refine px_iload_n (i := 3) C dX9_plants_119 rfl rfl ?_
        refine px_aload_n (i := 0) C dX9_plants_120 rfl rfl ?_
        refine px_iload_n (i := 1) C dX9_plants_121 rfl rfl ?_
        refine px_iconst (v := (1 : Int32)) C dX9_plants_122 rfl ?_
        refine px_callVi (h := 0) (rc' := 0) (rs' := 0) C (HR_le hHR (Nat.le_of_ble_eq_true rfl)) hRt hnT dX9_plants_123 (gw8 152 rfl rfl) mv_X9_of (w9_of_ok (PCx_l C) (PCx_I C) hk) rfl rfl rfl rfl rfl (Nat.le_of_ble_eq_true rfl) (Nat.le_of_ble_eq_true rfl) (Nat.le_of_ble_eq_true rfl) (Nat.le_of_ble_eq_true rfl) ?_
        intro r22 μ21 hk
        obtain ⟨o23, hk⟩ := hk
        replace hk := hk _ rfl
        refine px_iast 4096 C dX9_plants_126 rfl rfl rfl rfl o23 ?_
        refine px_aload_n (i := 0) C dX9_plants_127 rfl rfl ?_
        refine px_getr C dX9_plants_128 fl_RX9_56 rfl rfl rfl ?_
        refine px_iload_n (i := 3) C dX9_plants_131 rfl rfl ?_
        refine px_aload_n (i := 0) C dX9_plants_132 rfl rfl ?_
        refine px_iload_n (i := 1) C dX9_plants_133 rfl rfl ?_
        refine px_iconst (v := (2 : Int32)) C dX9_plants_134 rfl ?_
        refine px_callVi (h := 0) (rc' := 0) (rs' := 0) C (HR_le hHR (Nat.le_of_ble_eq_true rfl)) hRt hnT dX9_plants_135 (gw8 152 rfl rfl) mv_X9_of (w9_of_ok (PCx_l C) (PCx_I C) hk) rfl rfl rfl rfl rfl (Nat.le_of_ble_eq_true rfl) (Nat.le_of_ble_eq_true rfl) (Nat.le_of_ble_eq_true rfl) (Nat.le_of_ble_eq_true rfl) ?_
        intro r26 μ25 hk
        obtain ⟨o27, hk⟩ := hk
        replace hk := hk _ rfl
        refine px_iast 4160 C dX9_plants_138 rfl rfl rfl rfl o27 ?_
        refine px_aload_n (i := 0) C dX9_plants_139 rfl rfl ?_
        refine px_dup C dX9_plants_140 rfl ?_
        refine px_geti 3222 C dX9_plants_141 fl_RX9_112 rfl rfl rfl rfl ?_
        refine px_iconst (v := (1 : Int32)) C dX9_plants_144 rfl ?_
        refine px_iadd C dX9_plants_145 ?_
        replace hk := hk _ rfl
        refine px_puti 3222 C dX9_plants_146 fp_RX9_112 rfl rfl rfl rfl rfl rfl ?_
        exact PW_at (w9_plants_b149_ok C hRt hHR hnT hR7 hk) (And.intro rfl (And.intro rfl (And.intro rfl trivial))) (Nat.le_of_ble_eq_true rfl) (Nat.le_of_ble_eq_true rfl)
set_option maxRecDepth 100000 in
set_option maxHeartbeats 4000000 in
theorem w9_plants_b45_ok {G : GT} {P : Mem → Prop} {X : String → Mem → Prop} (C : PCx G cX9_plants 4 RX9) (hRt : PRt G none (qV P) X) (hHR : HR G (4)) (hnT : NoT G) {R7 : Mem → Int32 → Prop} (hR7 : ∀ (μ : Mem) (l1 : Int32), R7 μ l1 → PW G 0 0 7 [some (pR 50 0), some (pI l1), none, none] [] μ) {μ : Mem} {l1 : Int32} {l2 : Int32} {s0 : Int32} {s1 : Int32} (hk : w9_plants_b45 P R7 μ l1 l2 s0 s1) : PW G 0 0 45 [some (pR 50 0), some (pI l1), some (pI l2), none] [pI s0, pI s1, pR 63 0] μ := by
  unfold w9_plants_b45 at hk
  obtain ⟨o7, hk⟩ := hk
  replace hk := hk _ rfl
  refine px_iast 4032 C dX9_plants_45 rfl rfl rfl rfl o7 ?_
  refine px_iload_n (i := 2) C dX9_plants_46 rfl rfl ?_
  refine px_iconst (v := (-1 : Int32)) C dX9_plants_47 rfl ?_
  refine px_icmp_eq (tgt := 73) C dX9_plants_48 (by decide) (fun c40 => ?_) (fun c40 => ?_)
  · replace hk := hk.1 c40
    exact PW_at (w9_plants_b73_ok C hRt hHR hnT hR7 hk) (And.intro rfl (And.intro rfl (And.intro rfl trivial))) (Nat.le_of_ble_eq_true rfl) (Nat.le_of_ble_eq_true rfl)
  · replace hk := hk.2 c40
    refine px_aload_n (i := 0) C dX9_plants_51 rfl rfl ?_
    refine px_iload_n (i := 1) C dX9_plants_52 rfl rfl ?_
    refine px_callVi (h := 3) (rc' := 0) (rs' := 0) C (HR_le hHR (Nat.le_of_ble_eq_true rfl)) hRt hnT dX9_plants_53 (gw8 235 rfl rfl) mv_X9_isCut (w9_isCut_ok (PCx_l C) (PCx_I C) hk) rfl rfl rfl rfl rfl (Nat.le_of_ble_eq_true rfl) (Nat.le_of_ble_eq_true rfl) (Nat.le_of_ble_eq_true rfl) (Nat.le_of_ble_eq_true rfl) ?_
    intro r34 μ33 hk
    refine px_if_eq (tgt := 73) C dX9_plants_56 (by decide) (fun c39 => ?_) (fun c39 => ?_)
    · replace hk := hk.1 c39
      exact PW_at (w9_plants_b73_ok C hRt hHR hnT hR7 hk) (And.intro rfl (And.intro rfl (And.intro rfl trivial))) (Nat.le_of_ble_eq_true rfl) (Nat.le_of_ble_eq_true rfl)
    · replace hk := hk.2 c39
      refine px_aload_n (i := 0) C dX9_plants_59 rfl rfl ?_
      refine px_getr C dX9_plants_60 fl_RX9_47 rfl rfl rfl ?_
      refine px_iload_n (i := 1) C dX9_plants_63 rfl rfl ?_
      refine px_iconst (v := (-1 : Int32)) C dX9_plants_64 rfl ?_
      obtain ⟨o35, hk⟩ := hk
      replace hk := hk _ rfl
      refine px_iast 3968 C dX9_plants_65 rfl rfl rfl rfl o35 ?_
      refine px_aload_n (i := 0) C dX9_plants_66 rfl rfl ?_
      refine px_getr C dX9_plants_67 fl_RX9_50 rfl rfl rfl ?_
      refine px_iload_n (i := 1) C dX9_plants_70 rfl rfl ?_
      refine px_iconst (v := (3 : Int32)) C dX9_plants_71 rfl ?_
      obtain ⟨o37, hk⟩ := hk
      replace hk := hk _ rfl
      refine px_iast 4032 C dX9_plants_72 rfl rfl rfl rfl o37 ?_
      exact PW_at (w9_plants_b73_ok C hRt hHR hnT hR7 hk) (And.intro rfl (And.intro rfl (And.intro rfl trivial))) (Nat.le_of_ble_eq_true rfl) (Nat.le_of_ble_eq_true rfl)
set_option maxRecDepth 100000 in
set_option maxHeartbeats 4000000 in
theorem w9_plants_b7_ok {G : GT} {P : Mem → Prop} {X : String → Mem → Prop} (C : PCx G cX9_plants 4 RX9) (hRt : PRt G none (qV P) X) (hHR : HR G (4)) (hnT : NoT G) {μ : Mem} {l1 : Int32} (hk : w9_plants_b7 P μ l1) : PW G 0 0 7 [some (pR 50 0), some (pI l1), none, none] [] μ := by
  refine hk (fun (μ : Mem) (l1 : Int32) => PW G 0 0 7 [some (pR 50 0), some (pI l1), none, none] [] μ) (fun (μ : Mem) l1 hk => ?_)
  have hR7 : ∀ (μ : Mem) (l1 : Int32), PW G 0 0 7 [some (pR 50 0), some (pI l1), none, none] [] μ → PW G 0 0 7 [some (pR 50 0), some (pI l1), none, none] [] μ := fun _ _ h => h
  unfold w9_plants_b7_body at hk
  refine px_iload_n (i := 1) C dX9_plants_7 rfl rfl ?_
  refine px_aload_n (i := 0) C dX9_plants_8 rfl rfl ?_
  refine px_getr C dX9_plants_9 fl_RX9_7 rfl rfl rfl ?_
  refine px_iconst (v := (0 : Int32)) C dX9_plants_12 rfl ?_
  obtain ⟨o2, hk⟩ := hk
  refine px_iald 3264 C dX9_plants_13 rfl rfl rfl rfl o2 ?_
  refine px_icmp_ge (tgt := 172) C dX9_plants_14 (by decide) (fun c42 => ?_) (fun c42 => ?_)
  · replace hk := hk.1 c42
    exact px_vret C hRt dX9_plants_172 rfl hk
  · replace hk := hk.2 c42
    refine px_aload_n (i := 0) C dX9_plants_17 rfl rfl ?_
    refine px_iload_n (i := 1) C dX9_plants_18 rfl rfl ?_
    refine px_callVi (h := 2) (rc' := 0) (rs' := 0) C (HR_le hHR (Nat.le_of_ble_eq_true rfl)) hRt hnT dX9_plants_19 (gw8 217 rfl rfl) mv_X9_parentOf (w9_parentOf_ok (PCx_l C) (PCx_I C) hk) rfl rfl rfl rfl rfl (Nat.le_of_ble_eq_true rfl) (Nat.le_of_ble_eq_true rfl) (Nat.le_of_ble_eq_true rfl) (Nat.le_of_ble_eq_true rfl) ?_
    intro r4 μ3 hk
    refine px_istore_n (i := 2) C dX9_plants_22 rfl (by decide) rfl ?_
    refine px_aload_n (i := 0) C dX9_plants_23 rfl rfl ?_
    refine px_getr C dX9_plants_24 fl_RX9_47 rfl rfl rfl ?_
    refine px_iload_n (i := 1) C dX9_plants_27 rfl rfl ?_
    refine px_iload_n (i := 2) C dX9_plants_28 rfl rfl ?_
    obtain ⟨o5, hk⟩ := hk
    replace hk := hk _ rfl
    refine px_iast 3968 C dX9_plants_29 rfl rfl rfl rfl o5 ?_
    refine px_aload_n (i := 0) C dX9_plants_30 rfl rfl ?_
    refine px_getr C dX9_plants_31 fl_RX9_50 rfl rfl rfl ?_
    refine px_iload_n (i := 1) C dX9_plants_34 rfl rfl ?_
    refine px_iload_n (i := 2) C dX9_plants_35 rfl rfl ?_
    refine px_iconst (v := (-1 : Int32)) C dX9_plants_36 rfl ?_
    refine px_icmp_ne (tgt := 44) C dX9_plants_37 (by decide) (fun c41 => ?_) (fun c41 => ?_)
    · replace hk := hk.1 c41
      refine px_iconst (v := (1 : Int32)) C dX9_plants_44 rfl ?_
      exact PW_at (w9_plants_b45_ok C hRt hHR hnT hR7 hk) (And.intro rfl (And.intro rfl (And.intro rfl trivial))) (Nat.le_of_ble_eq_true rfl) (Nat.le_of_ble_eq_true rfl)
    · replace hk := hk.2 c41
      refine px_iconst (v := (0 : Int32)) C dX9_plants_40 rfl ?_
      refine px_goto (tgt := 45) C dX9_plants_41 (by decide) ?_
      exact PW_at (w9_plants_b45_ok C hRt hHR hnT hR7 hk) (And.intro rfl (And.intro rfl (And.intro rfl trivial))) (Nat.le_of_ble_eq_true rfl) (Nat.le_of_ble_eq_true rfl)
set_option maxRecDepth 100000 in
set_option maxHeartbeats 4000000 in
theorem w9_plants_ok {l : Launch} {idx : List (Nat × Nat)} {μ : Mem} {P : Mem → Prop} {X : String → Mem → Prop} (hl : l.stackTraces = false) (hI : IdxOK idx) (hk : w9_plants_wp μ P) : PMet l yX9_plants (.code yX9_plants cX9_plants 4 none) 4 0 0 idx [pR 50 0] μ (qV P) X := by
  refine PMet_of mv_X9_plants.2.2.2.2.2.2 hl hI mv_X9_plants.2.2.2.1 rfl (Nat.le_of_ble_eq_true rfl) (fun G _ _ C hRt hHR hnT => ?_)
  show PW G 0 0 0 [some (pR 50 0), none, none, none] [] μ
  unfold w9_plants_wp at hk
  refine px_aload_n (i := 0) C dX9_plants_0 rfl rfl ?_
  refine px_iconst (v := (0 : Int32)) C dX9_plants_1 rfl ?_
  replace hk := hk _ rfl
  refine px_puti 3222 C dX9_plants_2 fp_RX9_112 rfl rfl rfl rfl rfl rfl ?_
  refine px_iconst (v := (0 : Int32)) C dX9_plants_5 rfl ?_
  refine px_istore_n (i := 1) C dX9_plants_6 rfl (by decide) rfl ?_
  exact PW_at (w9_plants_b7_ok C hRt hHR hnT hk) (And.intro rfl (And.intro rfl trivial)) (Nat.le_of_ble_eq_true rfl) (Nat.le_of_ble_eq_true rfl)
theorem dX9_nodeBegin_0 : decode cX9_nodeBegin 0 = .ok (.iload_n 1, 1) := by decide +kernel
theorem dX9_nodeBegin_1 : decode cX9_nodeBegin 1 = .ok (.bipush 40, 2) := by decide +kernel
theorem dX9_nodeBegin_3 : decode cX9_nodeBegin 3 = .ok (.if_icmp .ge 9, 3) := by decide +kernel
theorem dX9_nodeBegin_6 : decode cX9_nodeBegin 6 = .ok (.aload_n 0, 1) := by decide +kernel
theorem dX9_nodeBegin_7 : decode cX9_nodeBegin 7 = .ok (.iload_n 1, 1) := by decide +kernel
theorem dX9_nodeBegin_8 : decode cX9_nodeBegin 8 = .ok (.invokevirtual 131, 3) := by decide +kernel
theorem dX9_nodeBegin_11 : decode cX9_nodeBegin 11 = .ok (.ireturn, 1) := by decide +kernel
theorem dX9_nodeBegin_12 : decode cX9_nodeBegin 12 = .ok (.ldc 98, 2) := by decide +kernel
theorem dX9_nodeBegin_14 : decode cX9_nodeBegin 14 = .ok (.istore_n 2, 1) := by decide +kernel
theorem dX9_nodeBegin_15 : decode cX9_nodeBegin 15 = .ok (.iconst 0, 1) := by decide +kernel
theorem dX9_nodeBegin_16 : decode cX9_nodeBegin 16 = .ok (.istore_n 3, 1) := by decide +kernel
theorem dX9_nodeBegin_17 : decode cX9_nodeBegin 17 = .ok (.iload_n 3, 1) := by decide +kernel
theorem dX9_nodeBegin_18 : decode cX9_nodeBegin 18 = .ok (.aload_n 0, 1) := by decide +kernel
theorem dX9_nodeBegin_19 : decode cX9_nodeBegin 19 = .ok (.getfield 7, 3) := by decide +kernel
theorem dX9_nodeBegin_22 : decode cX9_nodeBegin 22 = .ok (.iconst 0, 1) := by decide +kernel
theorem dX9_nodeBegin_23 : decode cX9_nodeBegin 23 = .ok (.iaload, 1) := by decide +kernel
theorem dX9_nodeBegin_24 : decode cX9_nodeBegin 24 = .ok (.if_icmp .ge 38, 3) := by decide +kernel
theorem dX9_nodeBegin_27 : decode cX9_nodeBegin 27 = .ok (.aload_n 0, 1) := by decide +kernel
theorem dX9_nodeBegin_28 : decode cX9_nodeBegin 28 = .ok (.getfield 47, 3) := by decide +kernel
theorem dX9_nodeBegin_31 : decode cX9_nodeBegin 31 = .ok (.iload_n 3, 1) := by decide +kernel
theorem dX9_nodeBegin_32 : decode cX9_nodeBegin 32 = .ok (.iaload, 1) := by decide +kernel
theorem dX9_nodeBegin_33 : decode cX9_nodeBegin 33 = .ok (.iload_n 1, 1) := by decide +kernel
theorem dX9_nodeBegin_34 : decode cX9_nodeBegin 34 = .ok (.if_icmp .ne 20, 3) := by decide +kernel
theorem dX9_nodeBegin_37 : decode cX9_nodeBegin 37 = .ok (.aload_n 0, 1) := by decide +kernel
theorem dX9_nodeBegin_38 : decode cX9_nodeBegin 38 = .ok (.iload_n 3, 1) := by decide +kernel
theorem dX9_nodeBegin_39 : decode cX9_nodeBegin 39 = .ok (.invokevirtual 131, 3) := by decide +kernel
theorem dX9_nodeBegin_42 : decode cX9_nodeBegin 42 = .ok (.iload_n 2, 1) := by decide +kernel
theorem dX9_nodeBegin_43 : decode cX9_nodeBegin 43 = .ok (.if_icmp .ge 11, 3) := by decide +kernel
theorem dX9_nodeBegin_46 : decode cX9_nodeBegin 46 = .ok (.aload_n 0, 1) := by decide +kernel
theorem dX9_nodeBegin_47 : decode cX9_nodeBegin 47 = .ok (.iload_n 3, 1) := by decide +kernel
theorem dX9_nodeBegin_48 : decode cX9_nodeBegin 48 = .ok (.invokevirtual 131, 3) := by decide +kernel
theorem dX9_nodeBegin_51 : decode cX9_nodeBegin 51 = .ok (.goto 4, 3) := by decide +kernel
theorem dX9_nodeBegin_54 : decode cX9_nodeBegin 54 = .ok (.iload_n 2, 1) := by decide +kernel
theorem dX9_nodeBegin_55 : decode cX9_nodeBegin 55 = .ok (.istore_n 2, 1) := by decide +kernel
theorem dX9_nodeBegin_56 : decode cX9_nodeBegin 56 = .ok (.iinc 3 1, 3) := by decide +kernel
theorem dX9_nodeBegin_59 : decode cX9_nodeBegin 59 = .ok (.goto (-42), 3) := by decide +kernel
theorem dX9_nodeBegin_62 : decode cX9_nodeBegin 62 = .ok (.iload_n 2, 1) := by decide +kernel
theorem dX9_nodeBegin_63 : decode cX9_nodeBegin 63 = .ok (.ireturn, 1) := by decide +kernel
set_option maxRecDepth 100000 in
set_option maxHeartbeats 4000000 in
theorem w9_nodeBegin_b17_ok {G : GT} {P : Int32 → Mem → Prop} {X : String → Mem → Prop} (C : PCx G cX9_nodeBegin 4 RX9) (hRt : PRt G (some .int) (qI P) X) (hHR : HR G (2)) (hnT : NoT G) {μ : Mem} {l1 : Int32} {l2 : Int32} {l3 : Int32} (hk : w9_nodeBegin_b17 P μ l1 l2 l3) : PW G 0 0 17 [some (pR 50 0), some (pI l1), some (pI l2), some (pI l3)] [] μ := by
  refine hk (fun (μ : Mem) (l1 : Int32) (l2 : Int32) (l3 : Int32) => PW G 0 0 17 [some (pR 50 0), some (pI l1), some (pI l2), some (pI l3)] [] μ) (fun (μ : Mem) l1 l2 l3 hk => ?_)
  have hR17 : ∀ (μ : Mem) (l1 : Int32) (l2 : Int32) (l3 : Int32), PW G 0 0 17 [some (pR 50 0), some (pI l1), some (pI l2), some (pI l3)] [] μ → PW G 0 0 17 [some (pR 50 0), some (pI l1), some (pI l2), some (pI l3)] [] μ := fun _ _ _ _ h => h
  unfold w9_nodeBegin_b17_body at hk
  refine px_iload_n (i := 3) C dX9_nodeBegin_17 rfl rfl ?_
  refine px_aload_n (i := 0) C dX9_nodeBegin_18 rfl rfl ?_
  refine px_getr C dX9_nodeBegin_19 fl_RX9_7 rfl rfl rfl ?_
  refine px_iconst (v := (0 : Int32)) C dX9_nodeBegin_22 rfl ?_
  obtain ⟨o1, hk⟩ := hk
  refine px_iald 3264 C dX9_nodeBegin_23 rfl rfl rfl rfl o1 ?_
  refine px_icmp_ge (tgt := 62) C dX9_nodeBegin_24 (by decide) (fun c9 => ?_) (fun c9 => ?_)
  · replace hk := hk.1 c9
    refine px_iload_n (i := 2) C dX9_nodeBegin_62 rfl rfl ?_
    exact px_iret C hRt dX9_nodeBegin_63 rfl rfl hk
  · replace hk := hk.2 c9
    refine px_aload_n (i := 0) C dX9_nodeBegin_27 rfl rfl ?_
    refine px_getr C dX9_nodeBegin_28 fl_RX9_47 rfl rfl rfl ?_
    refine px_iload_n (i := 3) C dX9_nodeBegin_31 rfl rfl ?_
    obtain ⟨o2, hk⟩ := hk
    refine px_iald 3968 C dX9_nodeBegin_32 rfl rfl rfl rfl o2 ?_
    refine px_iload_n (i := 1) C dX9_nodeBegin_33 rfl rfl ?_
    refine px_icmp_ne (tgt := 54) C dX9_nodeBegin_34 (by decide) (fun c8 => ?_) (fun c8 => ?_)
    · replace hk := hk.1 c8
      refine px_iload_n (i := 2) C dX9_nodeBegin_54 rfl rfl ?_
      refine px_istore_n (i := 2) C dX9_nodeBegin_55 rfl (by decide) rfl ?_
      refine px_iinc (i := 3) (v := (1 : Int32)) C dX9_nodeBegin_56 rfl rfl (by decide) rfl ?_
      refine px_goto (tgt := 17) C dX9_nodeBegin_59 (by decide) ?_
      exact PW_at (hR17 _ _ _ _ hk) (And.intro rfl (And.intro rfl (And.intro rfl (And.intro rfl trivial)))) (Nat.le_of_ble_eq_true rfl) (Nat.le_of_ble_eq_true rfl)
    · replace hk := hk.2 c8
      refine px_aload_n (i := 0) C dX9_nodeBegin_37 rfl rfl ?_
      refine px_iload_n (i := 3) C dX9_nodeBegin_38 rfl rfl ?_
      refine px_callVi (h := 1) (rc' := 0) (rs' := 0) C (HR_le hHR (Nat.le_of_ble_eq_true rfl)) hRt hnT dX9_nodeBegin_39 (gw9 22 rfl rfl) mv_X9_begin (w9_begin_ok (PCx_l C) (PCx_I C) hk) rfl rfl rfl rfl rfl (Nat.le_of_ble_eq_true rfl) (Nat.le_of_ble_eq_true rfl) (Nat.le_of_ble_eq_true rfl) (Nat.le_of_ble_eq_true rfl) ?_
      intro r4 μ3 hk
      refine px_iload_n (i := 2) C dX9_nodeBegin_42 rfl rfl ?_
      refine px_icmp_ge (tgt := 54) C dX9_nodeBegin_43 (by decide) (fun c7 => ?_) (fun c7 => ?_)
      · replace hk := hk.1 c7
        refine px_iload_n (i := 2) C dX9_nodeBegin_54 rfl rfl ?_
        refine px_istore_n (i := 2) C dX9_nodeBegin_55 rfl (by decide) rfl ?_
        refine px_iinc (i := 3) (v := (1 : Int32)) C dX9_nodeBegin_56 rfl rfl (by decide) rfl ?_
        refine px_goto (tgt := 17) C dX9_nodeBegin_59 (by decide) ?_
        exact PW_at (hR17 _ _ _ _ hk) (And.intro rfl (And.intro rfl (And.intro rfl (And.intro rfl trivial)))) (Nat.le_of_ble_eq_true rfl) (Nat.le_of_ble_eq_true rfl)
      · replace hk := hk.2 c7
        refine px_aload_n (i := 0) C dX9_nodeBegin_46 rfl rfl ?_
        refine px_iload_n (i := 3) C dX9_nodeBegin_47 rfl rfl ?_
        refine px_callVi (h := 1) (rc' := 0) (rs' := 0) C (HR_le hHR (Nat.le_of_ble_eq_true rfl)) hRt hnT dX9_nodeBegin_48 (gw9 22 rfl rfl) mv_X9_begin (w9_begin_ok (PCx_l C) (PCx_I C) hk) rfl rfl rfl rfl rfl (Nat.le_of_ble_eq_true rfl) (Nat.le_of_ble_eq_true rfl) (Nat.le_of_ble_eq_true rfl) (Nat.le_of_ble_eq_true rfl) ?_
        intro r6 μ5 hk
        refine px_goto (tgt := 55) C dX9_nodeBegin_51 (by decide) ?_
        refine px_istore_n (i := 2) C dX9_nodeBegin_55 rfl (by decide) rfl ?_
        refine px_iinc (i := 3) (v := (1 : Int32)) C dX9_nodeBegin_56 rfl rfl (by decide) rfl ?_
        refine px_goto (tgt := 17) C dX9_nodeBegin_59 (by decide) ?_
        exact PW_at (hR17 _ _ _ _ hk) (And.intro rfl (And.intro rfl (And.intro rfl (And.intro rfl trivial)))) (Nat.le_of_ble_eq_true rfl) (Nat.le_of_ble_eq_true rfl)
set_option maxRecDepth 100000 in
set_option maxHeartbeats 4000000 in
theorem w9_nodeBegin_ok {l : Launch} {idx : List (Nat × Nat)} {μ : Mem} {a1 : Int32} {P : Int32 → Mem → Prop} {X : String → Mem → Prop} (hl : l.stackTraces = false) (hI : IdxOK idx) (hk : w9_nodeBegin_wp μ a1 P) : PMet l yX9_nodeBegin (.code yX9_nodeBegin cX9_nodeBegin 4 (some .int)) 2 0 0 idx [pR 50 0, pI a1] μ (qI P) X := by
  refine PMet_of mv_X9_nodeBegin.2.2.2.2.2.2 hl hI mv_X9_nodeBegin.2.2.2.1 rfl (Nat.le_of_ble_eq_true rfl) (fun G _ _ C hRt hHR hnT => ?_)
  show PW G 0 0 0 [some (pR 50 0), some (pI a1), none, none] [] μ
  unfold w9_nodeBegin_wp at hk
  refine px_iload_n (i := 1) C dX9_nodeBegin_0 rfl rfl ?_
  refine px_bipush (v := (40 : Int32)) C dX9_nodeBegin_1 rfl ?_
  refine px_icmp_ge (tgt := 12) C dX9_nodeBegin_3 (by decide) (fun c12 => ?_) (fun c12 => ?_)
  · replace hk := hk.1 c12
    refine px_ldc (v := (100000000 : Int32)) C dX9_nodeBegin_12 (gw8 216 rfl rfl) ?_
    refine px_istore_n (i := 2) C dX9_nodeBegin_14 rfl (by decide) rfl ?_
    refine px_iconst (v := (0 : Int32)) C dX9_nodeBegin_15 rfl ?_
    refine px_istore_n (i := 3) C dX9_nodeBegin_16 rfl (by decide) rfl ?_
    exact PW_at (w9_nodeBegin_b17_ok C hRt hHR hnT hk) (And.intro rfl (And.intro rfl (And.intro rfl (And.intro rfl trivial)))) (Nat.le_of_ble_eq_true rfl) (Nat.le_of_ble_eq_true rfl)
  · replace hk := hk.2 c12
    refine px_aload_n (i := 0) C dX9_nodeBegin_6 rfl rfl ?_
    refine px_iload_n (i := 1) C dX9_nodeBegin_7 rfl rfl ?_
    refine px_callVi (h := 1) (rc' := 0) (rs' := 0) C (HR_le hHR (Nat.le_of_ble_eq_true rfl)) hRt hnT dX9_nodeBegin_8 (gw9 22 rfl rfl) mv_X9_begin (w9_begin_ok (PCx_l C) (PCx_I C) hk) rfl rfl rfl rfl rfl (Nat.le_of_ble_eq_true rfl) (Nat.le_of_ble_eq_true rfl) (Nat.le_of_ble_eq_true rfl) (Nat.le_of_ble_eq_true rfl) ?_
    intro r11 μ10 hk
    exact px_iret C hRt dX9_nodeBegin_11 rfl rfl hk
theorem dX9_nodeEnd_0 : decode cX9_nodeEnd 0 = .ok (.iload_n 1, 1) := by decide +kernel
theorem dX9_nodeEnd_1 : decode cX9_nodeEnd 1 = .ok (.bipush 40, 2) := by decide +kernel
theorem dX9_nodeEnd_3 : decode cX9_nodeEnd 3 = .ok (.if_icmp .ge 9, 3) := by decide +kernel
theorem dX9_nodeEnd_6 : decode cX9_nodeEnd 6 = .ok (.aload_n 0, 1) := by decide +kernel
theorem dX9_nodeEnd_7 : decode cX9_nodeEnd 7 = .ok (.iload_n 1, 1) := by decide +kernel
theorem dX9_nodeEnd_8 : decode cX9_nodeEnd 8 = .ok (.invokevirtual 134, 3) := by decide +kernel
theorem dX9_nodeEnd_11 : decode cX9_nodeEnd 11 = .ok (.ireturn, 1) := by decide +kernel
theorem dX9_nodeEnd_12 : decode cX9_nodeEnd 12 = .ok (.ldc 106, 2) := by decide +kernel
theorem dX9_nodeEnd_14 : decode cX9_nodeEnd 14 = .ok (.istore_n 2, 1) := by decide +kernel
theorem dX9_nodeEnd_15 : decode cX9_nodeEnd 15 = .ok (.iconst 0, 1) := by decide +kernel
theorem dX9_nodeEnd_16 : decode cX9_nodeEnd 16 = .ok (.istore_n 3, 1) := by decide +kernel
theorem dX9_nodeEnd_17 : decode cX9_nodeEnd 17 = .ok (.iload_n 3, 1) := by decide +kernel
theorem dX9_nodeEnd_18 : decode cX9_nodeEnd 18 = .ok (.aload_n 0, 1) := by decide +kernel
theorem dX9_nodeEnd_19 : decode cX9_nodeEnd 19 = .ok (.getfield 7, 3) := by decide +kernel
theorem dX9_nodeEnd_22 : decode cX9_nodeEnd 22 = .ok (.iconst 0, 1) := by decide +kernel
theorem dX9_nodeEnd_23 : decode cX9_nodeEnd 23 = .ok (.iaload, 1) := by decide +kernel
theorem dX9_nodeEnd_24 : decode cX9_nodeEnd 24 = .ok (.if_icmp .ge 38, 3) := by decide +kernel
theorem dX9_nodeEnd_27 : decode cX9_nodeEnd 27 = .ok (.aload_n 0, 1) := by decide +kernel
theorem dX9_nodeEnd_28 : decode cX9_nodeEnd 28 = .ok (.getfield 47, 3) := by decide +kernel
theorem dX9_nodeEnd_31 : decode cX9_nodeEnd 31 = .ok (.iload_n 3, 1) := by decide +kernel
theorem dX9_nodeEnd_32 : decode cX9_nodeEnd 32 = .ok (.iaload, 1) := by decide +kernel
theorem dX9_nodeEnd_33 : decode cX9_nodeEnd 33 = .ok (.iload_n 1, 1) := by decide +kernel
theorem dX9_nodeEnd_34 : decode cX9_nodeEnd 34 = .ok (.if_icmp .ne 20, 3) := by decide +kernel
theorem dX9_nodeEnd_37 : decode cX9_nodeEnd 37 = .ok (.aload_n 0, 1) := by decide +kernel
theorem dX9_nodeEnd_38 : decode cX9_nodeEnd 38 = .ok (.iload_n 3, 1) := by decide +kernel
theorem dX9_nodeEnd_39 : decode cX9_nodeEnd 39 = .ok (.invokevirtual 134, 3) := by decide +kernel
theorem dX9_nodeEnd_42 : decode cX9_nodeEnd 42 = .ok (.iload_n 2, 1) := by decide +kernel
theorem dX9_nodeEnd_43 : decode cX9_nodeEnd 43 = .ok (.if_icmp .le 11, 3) := by decide +kernel
theorem dX9_nodeEnd_46 : decode cX9_nodeEnd 46 = .ok (.aload_n 0, 1) := by decide +kernel
theorem dX9_nodeEnd_47 : decode cX9_nodeEnd 47 = .ok (.iload_n 3, 1) := by decide +kernel
theorem dX9_nodeEnd_48 : decode cX9_nodeEnd 48 = .ok (.invokevirtual 134, 3) := by decide +kernel
theorem dX9_nodeEnd_51 : decode cX9_nodeEnd 51 = .ok (.goto 4, 3) := by decide +kernel
theorem dX9_nodeEnd_54 : decode cX9_nodeEnd 54 = .ok (.iload_n 2, 1) := by decide +kernel
theorem dX9_nodeEnd_55 : decode cX9_nodeEnd 55 = .ok (.istore_n 2, 1) := by decide +kernel
theorem dX9_nodeEnd_56 : decode cX9_nodeEnd 56 = .ok (.iinc 3 1, 3) := by decide +kernel
theorem dX9_nodeEnd_59 : decode cX9_nodeEnd 59 = .ok (.goto (-42), 3) := by decide +kernel
theorem dX9_nodeEnd_62 : decode cX9_nodeEnd 62 = .ok (.iload_n 2, 1) := by decide +kernel
theorem dX9_nodeEnd_63 : decode cX9_nodeEnd 63 = .ok (.ireturn, 1) := by decide +kernel
set_option maxRecDepth 100000 in
set_option maxHeartbeats 4000000 in
theorem w9_nodeEnd_b17_ok {G : GT} {P : Int32 → Mem → Prop} {X : String → Mem → Prop} (C : PCx G cX9_nodeEnd 4 RX9) (hRt : PRt G (some .int) (qI P) X) (hHR : HR G (2)) (hnT : NoT G) {μ : Mem} {l1 : Int32} {l2 : Int32} {l3 : Int32} (hk : w9_nodeEnd_b17 P μ l1 l2 l3) : PW G 0 0 17 [some (pR 50 0), some (pI l1), some (pI l2), some (pI l3)] [] μ := by
  refine hk (fun (μ : Mem) (l1 : Int32) (l2 : Int32) (l3 : Int32) => PW G 0 0 17 [some (pR 50 0), some (pI l1), some (pI l2), some (pI l3)] [] μ) (fun (μ : Mem) l1 l2 l3 hk => ?_)
  have hR17 : ∀ (μ : Mem) (l1 : Int32) (l2 : Int32) (l3 : Int32), PW G 0 0 17 [some (pR 50 0), some (pI l1), some (pI l2), some (pI l3)] [] μ → PW G 0 0 17 [some (pR 50 0), some (pI l1), some (pI l2), some (pI l3)] [] μ := fun _ _ _ _ h => h
  unfold w9_nodeEnd_b17_body at hk
  refine px_iload_n (i := 3) C dX9_nodeEnd_17 rfl rfl ?_
  refine px_aload_n (i := 0) C dX9_nodeEnd_18 rfl rfl ?_
  refine px_getr C dX9_nodeEnd_19 fl_RX9_7 rfl rfl rfl ?_
  refine px_iconst (v := (0 : Int32)) C dX9_nodeEnd_22 rfl ?_
  obtain ⟨o1, hk⟩ := hk
  refine px_iald 3264 C dX9_nodeEnd_23 rfl rfl rfl rfl o1 ?_
  refine px_icmp_ge (tgt := 62) C dX9_nodeEnd_24 (by decide) (fun c9 => ?_) (fun c9 => ?_)
  · replace hk := hk.1 c9
    refine px_iload_n (i := 2) C dX9_nodeEnd_62 rfl rfl ?_
    exact px_iret C hRt dX9_nodeEnd_63 rfl rfl hk
  · replace hk := hk.2 c9
    refine px_aload_n (i := 0) C dX9_nodeEnd_27 rfl rfl ?_
    refine px_getr C dX9_nodeEnd_28 fl_RX9_47 rfl rfl rfl ?_
    refine px_iload_n (i := 3) C dX9_nodeEnd_31 rfl rfl ?_
    obtain ⟨o2, hk⟩ := hk
    refine px_iald 3968 C dX9_nodeEnd_32 rfl rfl rfl rfl o2 ?_
    refine px_iload_n (i := 1) C dX9_nodeEnd_33 rfl rfl ?_
    refine px_icmp_ne (tgt := 54) C dX9_nodeEnd_34 (by decide) (fun c8 => ?_) (fun c8 => ?_)
    · replace hk := hk.1 c8
      refine px_iload_n (i := 2) C dX9_nodeEnd_54 rfl rfl ?_
      refine px_istore_n (i := 2) C dX9_nodeEnd_55 rfl (by decide) rfl ?_
      refine px_iinc (i := 3) (v := (1 : Int32)) C dX9_nodeEnd_56 rfl rfl (by decide) rfl ?_
      refine px_goto (tgt := 17) C dX9_nodeEnd_59 (by decide) ?_
      exact PW_at (hR17 _ _ _ _ hk) (And.intro rfl (And.intro rfl (And.intro rfl (And.intro rfl trivial)))) (Nat.le_of_ble_eq_true rfl) (Nat.le_of_ble_eq_true rfl)
    · replace hk := hk.2 c8
      refine px_aload_n (i := 0) C dX9_nodeEnd_37 rfl rfl ?_
      refine px_iload_n (i := 3) C dX9_nodeEnd_38 rfl rfl ?_
      refine px_callVi (h := 1) (rc' := 0) (rs' := 0) C (HR_le hHR (Nat.le_of_ble_eq_true rfl)) hRt hnT dX9_nodeEnd_39 (gw9 26 rfl rfl) mv_X9_end (w9_end_ok (PCx_l C) (PCx_I C) hk) rfl rfl rfl rfl rfl (Nat.le_of_ble_eq_true rfl) (Nat.le_of_ble_eq_true rfl) (Nat.le_of_ble_eq_true rfl) (Nat.le_of_ble_eq_true rfl) ?_
      intro r4 μ3 hk
      refine px_iload_n (i := 2) C dX9_nodeEnd_42 rfl rfl ?_
      refine px_icmp_le (tgt := 54) C dX9_nodeEnd_43 (by decide) (fun c7 => ?_) (fun c7 => ?_)
      · replace hk := hk.1 c7
        refine px_iload_n (i := 2) C dX9_nodeEnd_54 rfl rfl ?_
        refine px_istore_n (i := 2) C dX9_nodeEnd_55 rfl (by decide) rfl ?_
        refine px_iinc (i := 3) (v := (1 : Int32)) C dX9_nodeEnd_56 rfl rfl (by decide) rfl ?_
        refine px_goto (tgt := 17) C dX9_nodeEnd_59 (by decide) ?_
        exact PW_at (hR17 _ _ _ _ hk) (And.intro rfl (And.intro rfl (And.intro rfl (And.intro rfl trivial)))) (Nat.le_of_ble_eq_true rfl) (Nat.le_of_ble_eq_true rfl)
      · replace hk := hk.2 c7
        refine px_aload_n (i := 0) C dX9_nodeEnd_46 rfl rfl ?_
        refine px_iload_n (i := 3) C dX9_nodeEnd_47 rfl rfl ?_
        refine px_callVi (h := 1) (rc' := 0) (rs' := 0) C (HR_le hHR (Nat.le_of_ble_eq_true rfl)) hRt hnT dX9_nodeEnd_48 (gw9 26 rfl rfl) mv_X9_end (w9_end_ok (PCx_l C) (PCx_I C) hk) rfl rfl rfl rfl rfl (Nat.le_of_ble_eq_true rfl) (Nat.le_of_ble_eq_true rfl) (Nat.le_of_ble_eq_true rfl) (Nat.le_of_ble_eq_true rfl) ?_
        intro r6 μ5 hk
        refine px_goto (tgt := 55) C dX9_nodeEnd_51 (by decide) ?_
        refine px_istore_n (i := 2) C dX9_nodeEnd_55 rfl (by decide) rfl ?_
        refine px_iinc (i := 3) (v := (1 : Int32)) C dX9_nodeEnd_56 rfl rfl (by decide) rfl ?_
        refine px_goto (tgt := 17) C dX9_nodeEnd_59 (by decide) ?_
        exact PW_at (hR17 _ _ _ _ hk) (And.intro rfl (And.intro rfl (And.intro rfl (And.intro rfl trivial)))) (Nat.le_of_ble_eq_true rfl) (Nat.le_of_ble_eq_true rfl)
set_option maxRecDepth 100000 in
set_option maxHeartbeats 4000000 in
theorem w9_nodeEnd_ok {l : Launch} {idx : List (Nat × Nat)} {μ : Mem} {a1 : Int32} {P : Int32 → Mem → Prop} {X : String → Mem → Prop} (hl : l.stackTraces = false) (hI : IdxOK idx) (hk : w9_nodeEnd_wp μ a1 P) : PMet l yX9_nodeEnd (.code yX9_nodeEnd cX9_nodeEnd 4 (some .int)) 2 0 0 idx [pR 50 0, pI a1] μ (qI P) X := by
  refine PMet_of mv_X9_nodeEnd.2.2.2.2.2.2 hl hI mv_X9_nodeEnd.2.2.2.1 rfl (Nat.le_of_ble_eq_true rfl) (fun G _ _ C hRt hHR hnT => ?_)
  show PW G 0 0 0 [some (pR 50 0), some (pI a1), none, none] [] μ
  unfold w9_nodeEnd_wp at hk
  refine px_iload_n (i := 1) C dX9_nodeEnd_0 rfl rfl ?_
  refine px_bipush (v := (40 : Int32)) C dX9_nodeEnd_1 rfl ?_
  refine px_icmp_ge (tgt := 12) C dX9_nodeEnd_3 (by decide) (fun c12 => ?_) (fun c12 => ?_)
  · replace hk := hk.1 c12
    refine px_ldc (v := (-100000000 : Int32)) C dX9_nodeEnd_12 (gw8 229 rfl rfl) ?_
    refine px_istore_n (i := 2) C dX9_nodeEnd_14 rfl (by decide) rfl ?_
    refine px_iconst (v := (0 : Int32)) C dX9_nodeEnd_15 rfl ?_
    refine px_istore_n (i := 3) C dX9_nodeEnd_16 rfl (by decide) rfl ?_
    exact PW_at (w9_nodeEnd_b17_ok C hRt hHR hnT hk) (And.intro rfl (And.intro rfl (And.intro rfl (And.intro rfl trivial)))) (Nat.le_of_ble_eq_true rfl) (Nat.le_of_ble_eq_true rfl)
  · replace hk := hk.2 c12
    refine px_aload_n (i := 0) C dX9_nodeEnd_6 rfl rfl ?_
    refine px_iload_n (i := 1) C dX9_nodeEnd_7 rfl rfl ?_
    refine px_callVi (h := 1) (rc' := 0) (rs' := 0) C (HR_le hHR (Nat.le_of_ble_eq_true rfl)) hRt hnT dX9_nodeEnd_8 (gw9 26 rfl rfl) mv_X9_end (w9_end_ok (PCx_l C) (PCx_I C) hk) rfl rfl rfl rfl rfl (Nat.le_of_ble_eq_true rfl) (Nat.le_of_ble_eq_true rfl) (Nat.le_of_ble_eq_true rfl) (Nat.le_of_ble_eq_true rfl) ?_
    intro r11 μ10 hk
    exact px_iret C hRt dX9_nodeEnd_11 rfl rfl hk
theorem dX9_number_0 : decode cX9_number 0 = .ok (.iload_n 1, 1) := by decide +kernel
theorem dX9_number_1 : decode cX9_number 1 = .ok (.bipush 40, 2) := by decide +kernel
theorem dX9_number_3 : decode cX9_number 3 = .ok (.if_icmp .ge 12, 3) := by decide +kernel
theorem dX9_number_6 : decode cX9_number 6 = .ok (.aload_n 0, 1) := by decide +kernel
theorem dX9_number_7 : decode cX9_number 7 = .ok (.iload_n 1, 1) := by decide +kernel
theorem dX9_number_8 : decode cX9_number 8 = .ok (.iconst 0, 1) := by decide +kernel
theorem dX9_number_9 : decode cX9_number 9 = .ok (.invokevirtual 83, 3) := by decide +kernel
theorem dX9_number_12 : decode cX9_number 12 = .ok (.goto 16, 3) := by decide +kernel
theorem dX9_number_15 : decode cX9_number 15 = .ok (.sipush 1000, 3) := by decide +kernel
theorem dX9_number_18 : decode cX9_number 18 = .ok (.aload_n 0, 1) := by decide +kernel
theorem dX9_number_19 : decode cX9_number 19 = .ok (.getfield 56, 3) := by decide +kernel
theorem dX9_number_22 : decode cX9_number 22 = .ok (.iload_n 1, 1) := by decide +kernel
theorem dX9_number_23 : decode cX9_number 23 = .ok (.bipush 40, 2) := by decide +kernel
theorem dX9_number_25 : decode cX9_number 25 = .ok (.isub, 1) := by decide +kernel
theorem dX9_number_26 : decode cX9_number 26 = .ok (.iaload, 1) := by decide +kernel
theorem dX9_number_27 : decode cX9_number 27 = .ok (.iadd, 1) := by decide +kernel
theorem dX9_number_28 : decode cX9_number 28 = .ok (.ireturn, 1) := by decide +kernel
set_option maxRecDepth 100000 in
set_option maxHeartbeats 4000000 in
theorem w9_number_ok {l : Launch} {idx : List (Nat × Nat)} {μ : Mem} {a1 : Int32} {P : Int32 → Mem → Prop} {X : String → Mem → Prop} (hl : l.stackTraces = false) (hI : IdxOK idx) (hk : w9_number_wp μ a1 P) : PMet l yX9_number (.code yX9_number cX9_number 2 (some .int)) 1 0 0 idx [pR 50 0, pI a1] μ (qI P) X := by
  refine PMet_of mv_X9_number.2.2.2.2.2.2 hl hI mv_X9_number.2.2.2.1 rfl (Nat.le_of_ble_eq_true rfl) (fun G _ _ C hRt hHR hnT => ?_)
  show PW G 0 0 0 [some (pR 50 0), some (pI a1)] [] μ
  unfold w9_number_wp at hk
  refine px_iload_n (i := 1) C dX9_number_0 rfl rfl ?_
  refine px_bipush (v := (40 : Int32)) C dX9_number_1 rfl ?_
  refine px_icmp_ge (tgt := 15) C dX9_number_3 (by decide) (fun c4 => ?_) (fun c4 => ?_)
  · replace hk := hk.1 c4
    refine px_sipush (v := (1000 : Int32)) C dX9_number_15 rfl ?_
    refine px_aload_n (i := 0) C dX9_number_18 rfl rfl ?_
    refine px_getr C dX9_number_19 fl_RX9_56 rfl rfl rfl ?_
    refine px_iload_n (i := 1) C dX9_number_22 rfl rfl ?_
    refine px_bipush (v := (40 : Int32)) C dX9_number_23 rfl ?_
    refine px_isub C dX9_number_25 ?_
    obtain ⟨o1, hk⟩ := hk
    refine px_iald 4160 C dX9_number_26 rfl rfl rfl rfl o1 ?_
    refine px_iadd C dX9_number_27 ?_
    exact px_iret C hRt dX9_number_28 rfl rfl hk
  · replace hk := hk.2 c4
    refine px_aload_n (i := 0) C dX9_number_6 rfl rfl ?_
    refine px_iload_n (i := 1) C dX9_number_7 rfl rfl ?_
    refine px_iconst (v := (0 : Int32)) C dX9_number_8 rfl ?_
    refine px_callVi (h := 0) (rc' := 0) (rs' := 0) C (HR_le hHR (Nat.le_of_ble_eq_true rfl)) hRt hnT dX9_number_9 (gw8 152 rfl rfl) mv_X9_of (w9_of_ok (PCx_l C) (PCx_I C) hk) rfl rfl rfl rfl rfl (Nat.le_of_ble_eq_true rfl) (Nat.le_of_ble_eq_true rfl) (Nat.le_of_ble_eq_true rfl) (Nat.le_of_ble_eq_true rfl) ?_
    intro r3 μ2 hk
    refine px_goto (tgt := 28) C dX9_number_12 (by decide) ?_
    exact px_iret C hRt dX9_number_28 rfl rfl hk
theorem dX9_isTrace_0 : decode cX9_isTrace 0 = .ok (.iload_n 0, 1) := by decide +kernel
theorem dX9_isTrace_1 : decode cX9_isTrace 1 = .ok (.iconst 0, 1) := by decide +kernel
theorem dX9_isTrace_2 : decode cX9_isTrace 2 = .ok (.iconst 3, 1) := by decide +kernel
theorem dX9_isTrace_3 : decode cX9_isTrace 3 = .ok (.invokestatic 140, 3) := by decide +kernel
theorem dX9_isTrace_6 : decode cX9_isTrace 6 = .ok (.ireturn, 1) := by decide +kernel
set_option maxRecDepth 100000 in
set_option maxHeartbeats 4000000 in
theorem w9_isTrace_ok {l : Launch} {idx : List (Nat × Nat)} {μ : Mem} {a1 : Int32} {P : Int32 → Mem → Prop} {X : String → Mem → Prop} (hl : l.stackTraces = false) (hI : IdxOK idx) (hk : w9_isTrace_wp μ a1 P) : PMet l yX9_isTrace (.code yX9_isTrace cX9_isTrace 1 (some .boolean)) 1 0 0 idx [pI a1] μ (qI P) X := by
  refine PMet_of ms_X9_isTrace.2.2.2.2.2 hl hI ms_X9_isTrace.2.2.1 rfl (Nat.le_of_ble_eq_true rfl) (fun G _ _ C hRt hHR hnT => ?_)
  show PW G 0 0 0 [some (pI a1)] [] μ
  unfold w9_isTrace_wp at hk
  refine px_iload_n (i := 0) C dX9_isTrace_0 rfl rfl ?_
  refine px_iconst (v := (0 : Int32)) C dX9_isTrace_1 rfl ?_
  refine px_iconst (v := (3 : Int32)) C dX9_isTrace_2 rfl ?_
  refine px_callSi (h := 0) (rc' := 0) (rs' := 0) C (HR_le hHR (Nat.le_of_ble_eq_true rfl)) hRt hnT dX9_isTrace_3 (gw8 138 rfl rfl) ms_X9_in (w9_in_ok (PCx_l C) (PCx_I C) hk) rfl rfl (Nat.le_of_ble_eq_true rfl) (Nat.le_of_ble_eq_true rfl) (Nat.le_of_ble_eq_true rfl) (Nat.le_of_ble_eq_true rfl) ?_
  intro r2 μ1 hk
  obtain ⟨o3, hk⟩ := hk
  exact px_iret C hRt dX9_isTrace_6 (nar_z o3) rfl hk
theorem dX9_rootOf_0 : decode cX9_rootOf 0 = .ok (.iload_n 1, 1) := by decide +kernel
theorem dX9_rootOf_1 : decode cX9_rootOf 1 = .ok (.istore_n 2, 1) := by decide +kernel
theorem dX9_rootOf_2 : decode cX9_rootOf 2 = .ok (.iload_n 2, 1) := by decide +kernel
theorem dX9_rootOf_3 : decode cX9_rootOf 3 = .ok (.bipush 40, 2) := by decide +kernel
theorem dX9_rootOf_5 : decode cX9_rootOf 5 = .ok (.if_icmp .ge 23, 3) := by decide +kernel
theorem dX9_rootOf_8 : decode cX9_rootOf 8 = .ok (.aload_n 0, 1) := by decide +kernel
theorem dX9_rootOf_9 : decode cX9_rootOf 9 = .ok (.getfield 47, 3) := by decide +kernel
theorem dX9_rootOf_12 : decode cX9_rootOf 12 = .ok (.iload_n 2, 1) := by decide +kernel
theorem dX9_rootOf_13 : decode cX9_rootOf 13 = .ok (.iaload, 1) := by decide +kernel
theorem dX9_rootOf_14 : decode cX9_rootOf 14 = .ok (.iconst (-1), 1) := by decide +kernel
theorem dX9_rootOf_15 : decode cX9_rootOf 15 = .ok (.if_icmp .eq 13, 3) := by decide +kernel
theorem dX9_rootOf_18 : decode cX9_rootOf 18 = .ok (.aload_n 0, 1) := by decide +kernel
theorem dX9_rootOf_19 : decode cX9_rootOf 19 = .ok (.getfield 47, 3) := by decide +kernel
theorem dX9_rootOf_22 : decode cX9_rootOf 22 = .ok (.iload_n 2, 1) := by decide +kernel
theorem dX9_rootOf_23 : decode cX9_rootOf 23 = .ok (.iaload, 1) := by decide +kernel
theorem dX9_rootOf_24 : decode cX9_rootOf 24 = .ok (.istore_n 2, 1) := by decide +kernel
theorem dX9_rootOf_25 : decode cX9_rootOf 25 = .ok (.goto (-23), 3) := by decide +kernel
theorem dX9_rootOf_28 : decode cX9_rootOf 28 = .ok (.iload_n 2, 1) := by decide +kernel
theorem dX9_rootOf_29 : decode cX9_rootOf 29 = .ok (.ireturn, 1) := by decide +kernel
set_option maxRecDepth 100000 in
set_option maxHeartbeats 4000000 in
theorem w9_rootOf_b2_ok {G : GT} {P : Int32 → Mem → Prop} {X : String → Mem → Prop} (C : PCx G cX9_rootOf 3 RX9) (hRt : PRt G (some .int) (qI P) X) (hHR : HR G (0)) (hnT : NoT G) {μ : Mem} {l2 : Int32} (hk : w9_rootOf_b2 P μ l2) : PW G 0 0 2 [some (pR 50 0), none, some (pI l2)] [] μ := by
  refine hk (fun (μ : Mem) (l2 : Int32) => PW G 0 0 2 [some (pR 50 0), none, some (pI l2)] [] μ) (fun (μ : Mem) l2 hk => ?_)
  have hR2 : ∀ (μ : Mem) (l2 : Int32), PW G 0 0 2 [some (pR 50 0), none, some (pI l2)] [] μ → PW G 0 0 2 [some (pR 50 0), none, some (pI l2)] [] μ := fun _ _ h => h
  unfold w9_rootOf_b2_body at hk
  refine px_iload_n (i := 2) C dX9_rootOf_2 rfl rfl ?_
  refine px_bipush (v := (40 : Int32)) C dX9_rootOf_3 rfl ?_
  refine px_icmp_ge (tgt := 28) C dX9_rootOf_5 (by decide) (fun c4 => ?_) (fun c4 => ?_)
  · replace hk := hk.1 c4
    refine px_iload_n (i := 2) C dX9_rootOf_28 rfl rfl ?_
    exact px_iret C hRt dX9_rootOf_29 rfl rfl hk
  · replace hk := hk.2 c4
    refine px_aload_n (i := 0) C dX9_rootOf_8 rfl rfl ?_
    refine px_getr C dX9_rootOf_9 fl_RX9_47 rfl rfl rfl ?_
    refine px_iload_n (i := 2) C dX9_rootOf_12 rfl rfl ?_
    obtain ⟨o1, hk⟩ := hk
    refine px_iald 3968 C dX9_rootOf_13 rfl rfl rfl rfl o1 ?_
    refine px_iconst (v := (-1 : Int32)) C dX9_rootOf_14 rfl ?_
    refine px_icmp_eq (tgt := 28) C dX9_rootOf_15 (by decide) (fun c3 => ?_) (fun c3 => ?_)
    · replace hk := hk.1 c3
      refine px_iload_n (i := 2) C dX9_rootOf_28 rfl rfl ?_
      exact px_iret C hRt dX9_rootOf_29 rfl rfl hk
    · replace hk := hk.2 c3
      refine px_aload_n (i := 0) C dX9_rootOf_18 rfl rfl ?_
      refine px_getr C dX9_rootOf_19 fl_RX9_47 rfl rfl rfl ?_
      refine px_iload_n (i := 2) C dX9_rootOf_22 rfl rfl ?_
      obtain ⟨o2, hk⟩ := hk
      refine px_iald 3968 C dX9_rootOf_23 rfl rfl rfl rfl o2 ?_
      refine px_istore_n (i := 2) C dX9_rootOf_24 rfl (by decide) rfl ?_
      refine px_goto (tgt := 2) C dX9_rootOf_25 (by decide) ?_
      exact PW_at (hR2 _ _ hk) (And.intro rfl (And.intro rfl trivial)) (Nat.le_of_ble_eq_true rfl) (Nat.le_of_ble_eq_true rfl)
set_option maxRecDepth 100000 in
set_option maxHeartbeats 4000000 in
theorem w9_rootOf_ok {l : Launch} {idx : List (Nat × Nat)} {μ : Mem} {a1 : Int32} {P : Int32 → Mem → Prop} {X : String → Mem → Prop} (hl : l.stackTraces = false) (hI : IdxOK idx) (hk : w9_rootOf_wp μ a1 P) : PMet l yX9_rootOf (.code yX9_rootOf cX9_rootOf 3 (some .int)) 0 0 0 idx [pR 50 0, pI a1] μ (qI P) X := by
  refine PMet_of mv_X9_rootOf.2.2.2.2.2.2 hl hI mv_X9_rootOf.2.2.2.1 rfl (Nat.le_of_ble_eq_true rfl) (fun G _ _ C hRt hHR hnT => ?_)
  show PW G 0 0 0 [some (pR 50 0), some (pI a1), none] [] μ
  unfold w9_rootOf_wp at hk
  refine px_iload_n (i := 1) C dX9_rootOf_0 rfl rfl ?_
  refine px_istore_n (i := 2) C dX9_rootOf_1 rfl (by decide) rfl ?_
  exact PW_at (w9_rootOf_b2_ok C hRt hHR hnT hk) (And.intro rfl (And.intro rfl trivial)) (Nat.le_of_ble_eq_true rfl) (Nat.le_of_ble_eq_true rfl)
theorem dX9_depthOf_0 : decode cX9_depthOf 0 = .ok (.iconst 0, 1) := by decide +kernel
theorem dX9_depthOf_1 : decode cX9_depthOf 1 = .ok (.istore_n 2, 1) := by decide +kernel
theorem dX9_depthOf_2 : decode cX9_depthOf 2 = .ok (.iload_n 1, 1) := by decide +kernel
theorem dX9_depthOf_3 : decode cX9_depthOf 3 = .ok (.istore_n 3, 1) := by decide +kernel
theorem dX9_depthOf_4 : decode cX9_depthOf 4 = .ok (.iload_n 3, 1) := by decide +kernel
theorem dX9_depthOf_5 : decode cX9_depthOf 5 = .ok (.bipush 40, 2) := by decide +kernel
theorem dX9_depthOf_7 : decode cX9_depthOf 7 = .ok (.if_icmp .ge 26, 3) := by decide +kernel
theorem dX9_depthOf_10 : decode cX9_depthOf 10 = .ok (.aload_n 0, 1) := by decide +kernel
theorem dX9_depthOf_11 : decode cX9_depthOf 11 = .ok (.getfield 47, 3) := by decide +kernel
theorem dX9_depthOf_14 : decode cX9_depthOf 14 = .ok (.iload_n 3, 1) := by decide +kernel
theorem dX9_depthOf_15 : decode cX9_depthOf 15 = .ok (.iaload, 1) := by decide +kernel
theorem dX9_depthOf_16 : decode cX9_depthOf 16 = .ok (.iconst (-1), 1) := by decide +kernel
theorem dX9_depthOf_17 : decode cX9_depthOf 17 = .ok (.if_icmp .eq 16, 3) := by decide +kernel
theorem dX9_depthOf_20 : decode cX9_depthOf 20 = .ok (.aload_n 0, 1) := by decide +kernel
theorem dX9_depthOf_21 : decode cX9_depthOf 21 = .ok (.getfield 47, 3) := by decide +kernel
theorem dX9_depthOf_24 : decode cX9_depthOf 24 = .ok (.iload_n 3, 1) := by decide +kernel
theorem dX9_depthOf_25 : decode cX9_depthOf 25 = .ok (.iaload, 1) := by decide +kernel
theorem dX9_depthOf_26 : decode cX9_depthOf 26 = .ok (.istore_n 3, 1) := by decide +kernel
theorem dX9_depthOf_27 : decode cX9_depthOf 27 = .ok (.iinc 2 1, 3) := by decide +kernel
theorem dX9_depthOf_30 : decode cX9_depthOf 30 = .ok (.goto (-26), 3) := by decide +kernel
theorem dX9_depthOf_33 : decode cX9_depthOf 33 = .ok (.iload_n 2, 1) := by decide +kernel
theorem dX9_depthOf_34 : decode cX9_depthOf 34 = .ok (.ireturn, 1) := by decide +kernel
set_option maxRecDepth 100000 in
set_option maxHeartbeats 4000000 in
theorem w9_depthOf_b4_ok {G : GT} {P : Int32 → Mem → Prop} {X : String → Mem → Prop} (C : PCx G cX9_depthOf 4 RX9) (hRt : PRt G (some .int) (qI P) X) (hHR : HR G (0)) (hnT : NoT G) {μ : Mem} {l2 : Int32} {l3 : Int32} (hk : w9_depthOf_b4 P μ l2 l3) : PW G 0 0 4 [some (pR 50 0), none, some (pI l2), some (pI l3)] [] μ := by
  refine hk (fun (μ : Mem) (l2 : Int32) (l3 : Int32) => PW G 0 0 4 [some (pR 50 0), none, some (pI l2), some (pI l3)] [] μ) (fun (μ : Mem) l2 l3 hk => ?_)
  have hR4 : ∀ (μ : Mem) (l2 : Int32) (l3 : Int32), PW G 0 0 4 [some (pR 50 0), none, some (pI l2), some (pI l3)] [] μ → PW G 0 0 4 [some (pR 50 0), none, some (pI l2), some (pI l3)] [] μ := fun _ _ _ h => h
  unfold w9_depthOf_b4_body at hk
  refine px_iload_n (i := 3) C dX9_depthOf_4 rfl rfl ?_
  refine px_bipush (v := (40 : Int32)) C dX9_depthOf_5 rfl ?_
  refine px_icmp_ge (tgt := 33) C dX9_depthOf_7 (by decide) (fun c4 => ?_) (fun c4 => ?_)
  · replace hk := hk.1 c4
    refine px_iload_n (i := 2) C dX9_depthOf_33 rfl rfl ?_
    exact px_iret C hRt dX9_depthOf_34 rfl rfl hk
  · replace hk := hk.2 c4
    refine px_aload_n (i := 0) C dX9_depthOf_10 rfl rfl ?_
    refine px_getr C dX9_depthOf_11 fl_RX9_47 rfl rfl rfl ?_
    refine px_iload_n (i := 3) C dX9_depthOf_14 rfl rfl ?_
    obtain ⟨o1, hk⟩ := hk
    refine px_iald 3968 C dX9_depthOf_15 rfl rfl rfl rfl o1 ?_
    refine px_iconst (v := (-1 : Int32)) C dX9_depthOf_16 rfl ?_
    refine px_icmp_eq (tgt := 33) C dX9_depthOf_17 (by decide) (fun c3 => ?_) (fun c3 => ?_)
    · replace hk := hk.1 c3
      refine px_iload_n (i := 2) C dX9_depthOf_33 rfl rfl ?_
      exact px_iret C hRt dX9_depthOf_34 rfl rfl hk
    · replace hk := hk.2 c3
      refine px_aload_n (i := 0) C dX9_depthOf_20 rfl rfl ?_
      refine px_getr C dX9_depthOf_21 fl_RX9_47 rfl rfl rfl ?_
      refine px_iload_n (i := 3) C dX9_depthOf_24 rfl rfl ?_
      obtain ⟨o2, hk⟩ := hk
      refine px_iald 3968 C dX9_depthOf_25 rfl rfl rfl rfl o2 ?_
      refine px_istore_n (i := 3) C dX9_depthOf_26 rfl (by decide) rfl ?_
      refine px_iinc (i := 2) (v := (1 : Int32)) C dX9_depthOf_27 rfl rfl (by decide) rfl ?_
      refine px_goto (tgt := 4) C dX9_depthOf_30 (by decide) ?_
      exact PW_at (hR4 _ _ _ hk) (And.intro rfl (And.intro rfl (And.intro rfl trivial))) (Nat.le_of_ble_eq_true rfl) (Nat.le_of_ble_eq_true rfl)
set_option maxRecDepth 100000 in
set_option maxHeartbeats 4000000 in
theorem w9_depthOf_ok {l : Launch} {idx : List (Nat × Nat)} {μ : Mem} {a1 : Int32} {P : Int32 → Mem → Prop} {X : String → Mem → Prop} (hl : l.stackTraces = false) (hI : IdxOK idx) (hk : w9_depthOf_wp μ a1 P) : PMet l yX9_depthOf (.code yX9_depthOf cX9_depthOf 4 (some .int)) 0 0 0 idx [pR 50 0, pI a1] μ (qI P) X := by
  refine PMet_of mv_X9_depthOf.2.2.2.2.2.2 hl hI mv_X9_depthOf.2.2.2.1 rfl (Nat.le_of_ble_eq_true rfl) (fun G _ _ C hRt hHR hnT => ?_)
  show PW G 0 0 0 [some (pR 50 0), some (pI a1), none, none] [] μ
  unfold w9_depthOf_wp at hk
  refine px_iconst (v := (0 : Int32)) C dX9_depthOf_0 rfl ?_
  refine px_istore_n (i := 2) C dX9_depthOf_1 rfl (by decide) rfl ?_
  refine px_iload_n (i := 1) C dX9_depthOf_2 rfl rfl ?_
  refine px_istore_n (i := 3) C dX9_depthOf_3 rfl (by decide) rfl ?_
  exact PW_at (w9_depthOf_b4_ok C hRt hHR hnT hk) (And.intro rfl (And.intro rfl (And.intro rfl trivial))) (Nat.le_of_ble_eq_true rfl) (Nat.le_of_ble_eq_true rfl)
theorem dX9_isBelow_0 : decode cX9_isBelow 0 = .ok (.aload_n 0, 1) := by decide +kernel
theorem dX9_isBelow_1 : decode cX9_isBelow 1 = .ok (.getfield 47, 3) := by decide +kernel
theorem dX9_isBelow_4 : decode cX9_isBelow 4 = .ok (.iload_n 1, 1) := by decide +kernel
theorem dX9_isBelow_5 : decode cX9_isBelow 5 = .ok (.iaload, 1) := by decide +kernel
theorem dX9_isBelow_6 : decode cX9_isBelow 6 = .ok (.istore_n 3, 1) := by decide +kernel
theorem dX9_isBelow_7 : decode cX9_isBelow 7 = .ok (.iload_n 3, 1) := by decide +kernel
theorem dX9_isBelow_8 : decode cX9_isBelow 8 = .ok (.iconst (-1), 1) := by decide +kernel
theorem dX9_isBelow_9 : decode cX9_isBelow 9 = .ok (.if_icmp .eq 28, 3) := by decide +kernel
theorem dX9_isBelow_12 : decode cX9_isBelow 12 = .ok (.iload_n 3, 1) := by decide +kernel
theorem dX9_isBelow_13 : decode cX9_isBelow 13 = .ok (.iload_n 2, 1) := by decide +kernel
theorem dX9_isBelow_14 : decode cX9_isBelow 14 = .ok (.if_icmp .eq 23, 3) := by decide +kernel
theorem dX9_isBelow_17 : decode cX9_isBelow 17 = .ok (.iload_n 3, 1) := by decide +kernel
theorem dX9_isBelow_18 : decode cX9_isBelow 18 = .ok (.bipush 40, 2) := by decide +kernel
theorem dX9_isBelow_20 : decode cX9_isBelow 20 = .ok (.if_icmp .ge 12, 3) := by decide +kernel
theorem dX9_isBelow_23 : decode cX9_isBelow 23 = .ok (.aload_n 0, 1) := by decide +kernel
theorem dX9_isBelow_24 : decode cX9_isBelow 24 = .ok (.getfield 47, 3) := by decide +kernel
theorem dX9_isBelow_27 : decode cX9_isBelow 27 = .ok (.iload_n 3, 1) := by decide +kernel
theorem dX9_isBelow_28 : decode cX9_isBelow 28 = .ok (.iaload, 1) := by decide +kernel
theorem dX9_isBelow_29 : decode cX9_isBelow 29 = .ok (.goto 4, 3) := by decide +kernel
theorem dX9_isBelow_32 : decode cX9_isBelow 32 = .ok (.iconst (-1), 1) := by decide +kernel
theorem dX9_isBelow_33 : decode cX9_isBelow 33 = .ok (.istore_n 3, 1) := by decide +kernel
theorem dX9_isBelow_34 : decode cX9_isBelow 34 = .ok (.goto (-27), 3) := by decide +kernel
theorem dX9_isBelow_37 : decode cX9_isBelow 37 = .ok (.iload_n 3, 1) := by decide +kernel
theorem dX9_isBelow_38 : decode cX9_isBelow 38 = .ok (.iload_n 2, 1) := by decide +kernel
theorem dX9_isBelow_39 : decode cX9_isBelow 39 = .ok (.if_icmp .ne 7, 3) := by decide +kernel
theorem dX9_isBelow_42 : decode cX9_isBelow 42 = .ok (.iconst 1, 1) := by decide +kernel
theorem dX9_isBelow_43 : decode cX9_isBelow 43 = .ok (.goto 4, 3) := by decide +kernel
theorem dX9_isBelow_46 : decode cX9_isBelow 46 = .ok (.iconst 0, 1) := by decide +kernel
theorem dX9_isBelow_47 : decode cX9_isBelow 47 = .ok (.ireturn, 1) := by decide +kernel
set_option maxRecDepth 100000 in
set_option maxHeartbeats 4000000 in
theorem w9_isBelow_b7_ok {G : GT} {P : Int32 → Mem → Prop} {X : String → Mem → Prop} (C : PCx G cX9_isBelow 4 RX9) (hRt : PRt G (some .boolean) (qI P) X) (hHR : HR G (0)) (hnT : NoT G) {μ : Mem} {l2 : Int32} {l3 : Int32} (hk : w9_isBelow_b7 P μ l2 l3) : PW G 0 0 7 [some (pR 50 0), none, some (pI l2), some (pI l3)] [] μ := by
  refine hk (fun (μ : Mem) (l2 : Int32) (l3 : Int32) => PW G 0 0 7 [some (pR 50 0), none, some (pI l2), some (pI l3)] [] μ) (fun (μ : Mem) l2 l3 hk => ?_)
  have hR7 : ∀ (μ : Mem) (l2 : Int32) (l3 : Int32), PW G 0 0 7 [some (pR 50 0), none, some (pI l2), some (pI l3)] [] μ → PW G 0 0 7 [some (pR 50 0), none, some (pI l2), some (pI l3)] [] μ := fun _ _ _ h => h
  unfold w9_isBelow_b7_body at hk
  refine px_iload_n (i := 3) C dX9_isBelow_7 rfl rfl ?_
  refine px_iconst (v := (-1 : Int32)) C dX9_isBelow_8 rfl ?_
  refine px_icmp_eq (tgt := 37) C dX9_isBelow_9 (by decide) (fun c7 => ?_) (fun c7 => ?_)
  · replace hk := hk.1 c7
    refine px_iload_n (i := 3) C dX9_isBelow_37 rfl rfl ?_
    refine px_iload_n (i := 2) C dX9_isBelow_38 rfl rfl ?_
    refine px_icmp_ne (tgt := 46) C dX9_isBelow_39 (by decide) (fun c2 => ?_) (fun c2 => ?_)
    · replace hk := hk.1 c2
      refine px_iconst (v := (0 : Int32)) C dX9_isBelow_46 rfl ?_
      exact px_iret C hRt dX9_isBelow_47 rfl rfl hk
    · replace hk := hk.2 c2
      refine px_iconst (v := (1 : Int32)) C dX9_isBelow_42 rfl ?_
      refine px_goto (tgt := 47) C dX9_isBelow_43 (by decide) ?_
      exact px_iret C hRt dX9_isBelow_47 rfl rfl hk
  · replace hk := hk.2 c7
    refine px_iload_n (i := 3) C dX9_isBelow_12 rfl rfl ?_
    refine px_iload_n (i := 2) C dX9_isBelow_13 rfl rfl ?_
    refine px_icmp_eq (tgt := 37) C dX9_isBelow_14 (by decide) (fun c6 => ?_) (fun c6 => ?_)
    · replace hk := hk.1 c6
      refine px_iload_n (i := 3) C dX9_isBelow_37 rfl rfl ?_
      refine px_iload_n (i := 2) C dX9_isBelow_38 rfl rfl ?_
      refine px_icmp_ne (tgt := 46) C dX9_isBelow_39 (by decide) (fun c3 => ?_) (fun c3 => ?_)
      · replace hk := hk.1 c3
        refine px_iconst (v := (0 : Int32)) C dX9_isBelow_46 rfl ?_
        exact px_iret C hRt dX9_isBelow_47 rfl rfl hk
      · replace hk := hk.2 c3
        refine px_iconst (v := (1 : Int32)) C dX9_isBelow_42 rfl ?_
        refine px_goto (tgt := 47) C dX9_isBelow_43 (by decide) ?_
        exact px_iret C hRt dX9_isBelow_47 rfl rfl hk
    · replace hk := hk.2 c6
      refine px_iload_n (i := 3) C dX9_isBelow_17 rfl rfl ?_
      refine px_bipush (v := (40 : Int32)) C dX9_isBelow_18 rfl ?_
      refine px_icmp_ge (tgt := 32) C dX9_isBelow_20 (by decide) (fun c5 => ?_) (fun c5 => ?_)
      · replace hk := hk.1 c5
        refine px_iconst (v := (-1 : Int32)) C dX9_isBelow_32 rfl ?_
        refine px_istore_n (i := 3) C dX9_isBelow_33 rfl (by decide) rfl ?_
        refine px_goto (tgt := 7) C dX9_isBelow_34 (by decide) ?_
        exact PW_at (hR7 _ _ _ hk) (And.intro rfl (And.intro rfl (And.intro rfl trivial))) (Nat.le_of_ble_eq_true rfl) (Nat.le_of_ble_eq_true rfl)
      · replace hk := hk.2 c5
        refine px_aload_n (i := 0) C dX9_isBelow_23 rfl rfl ?_
        refine px_getr C dX9_isBelow_24 fl_RX9_47 rfl rfl rfl ?_
        refine px_iload_n (i := 3) C dX9_isBelow_27 rfl rfl ?_
        obtain ⟨o4, hk⟩ := hk
        refine px_iald 3968 C dX9_isBelow_28 rfl rfl rfl rfl o4 ?_
        refine px_goto (tgt := 33) C dX9_isBelow_29 (by decide) ?_
        refine px_istore_n (i := 3) C dX9_isBelow_33 rfl (by decide) rfl ?_
        refine px_goto (tgt := 7) C dX9_isBelow_34 (by decide) ?_
        exact PW_at (hR7 _ _ _ hk) (And.intro rfl (And.intro rfl (And.intro rfl trivial))) (Nat.le_of_ble_eq_true rfl) (Nat.le_of_ble_eq_true rfl)
set_option maxRecDepth 100000 in
set_option maxHeartbeats 4000000 in
theorem w9_isBelow_ok {l : Launch} {idx : List (Nat × Nat)} {μ : Mem} {a1 : Int32} {a2 : Int32} {P : Int32 → Mem → Prop} {X : String → Mem → Prop} (hl : l.stackTraces = false) (hI : IdxOK idx) (hk : w9_isBelow_wp μ a1 a2 P) : PMet l yX9_isBelow (.code yX9_isBelow cX9_isBelow 4 (some .boolean)) 0 0 0 idx [pR 50 0, pI a1, pI a2] μ (qI P) X := by
  refine PMet_of mv_X9_isBelow.2.2.2.2.2.2 hl hI mv_X9_isBelow.2.2.2.1 rfl (Nat.le_of_ble_eq_true rfl) (fun G _ _ C hRt hHR hnT => ?_)
  show PW G 0 0 0 [some (pR 50 0), some (pI a1), some (pI a2), none] [] μ
  unfold w9_isBelow_wp at hk
  refine px_aload_n (i := 0) C dX9_isBelow_0 rfl rfl ?_
  refine px_getr C dX9_isBelow_1 fl_RX9_47 rfl rfl rfl ?_
  refine px_iload_n (i := 1) C dX9_isBelow_4 rfl rfl ?_
  obtain ⟨o1, hk⟩ := hk
  refine px_iald 3968 C dX9_isBelow_5 rfl rfl rfl rfl o1 ?_
  refine px_istore_n (i := 3) C dX9_isBelow_6 rfl (by decide) rfl ?_
  exact PW_at (w9_isBelow_b7_ok C hRt hHR hnT hk) (And.intro rfl (And.intro rfl (And.intro rfl trivial))) (Nat.le_of_ble_eq_true rfl) (Nat.le_of_ble_eq_true rfl)
theorem dX9_isEarlier_0 : decode cX9_isEarlier 0 = .ok (.aload_n 0, 1) := by decide +kernel
theorem dX9_isEarlier_1 : decode cX9_isEarlier 1 = .ok (.iload_n 1, 1) := by decide +kernel
theorem dX9_isEarlier_2 : decode cX9_isEarlier 2 = .ok (.invokevirtual 131, 3) := by decide +kernel
theorem dX9_isEarlier_5 : decode cX9_isEarlier 5 = .ok (.aload_n 0, 1) := by decide +kernel
theorem dX9_isEarlier_6 : decode cX9_isEarlier 6 = .ok (.iload_n 2, 1) := by decide +kernel
theorem dX9_isEarlier_7 : decode cX9_isEarlier 7 = .ok (.invokevirtual 131, 3) := by decide +kernel
theorem dX9_isEarlier_10 : decode cX9_isEarlier 10 = .ok (.if_icmp .eq 24, 3) := by decide +kernel
theorem dX9_isEarlier_13 : decode cX9_isEarlier 13 = .ok (.aload_n 0, 1) := by decide +kernel
theorem dX9_isEarlier_14 : decode cX9_isEarlier 14 = .ok (.iload_n 1, 1) := by decide +kernel
theorem dX9_isEarlier_15 : decode cX9_isEarlier 15 = .ok (.invokevirtual 131, 3) := by decide +kernel
theorem dX9_isEarlier_18 : decode cX9_isEarlier 18 = .ok (.aload_n 0, 1) := by decide +kernel
theorem dX9_isEarlier_19 : decode cX9_isEarlier 19 = .ok (.iload_n 2, 1) := by decide +kernel
theorem dX9_isEarlier_20 : decode cX9_isEarlier 20 = .ok (.invokevirtual 131, 3) := by decide +kernel
theorem dX9_isEarlier_23 : decode cX9_isEarlier 23 = .ok (.if_icmp .ge 7, 3) := by decide +kernel
theorem dX9_isEarlier_26 : decode cX9_isEarlier 26 = .ok (.iconst 1, 1) := by decide +kernel
theorem dX9_isEarlier_27 : decode cX9_isEarlier 27 = .ok (.goto 27, 3) := by decide +kernel
theorem dX9_isEarlier_30 : decode cX9_isEarlier 30 = .ok (.iconst 0, 1) := by decide +kernel
theorem dX9_isEarlier_31 : decode cX9_isEarlier 31 = .ok (.goto 23, 3) := by decide +kernel
theorem dX9_isEarlier_34 : decode cX9_isEarlier 34 = .ok (.aload_n 0, 1) := by decide +kernel
theorem dX9_isEarlier_35 : decode cX9_isEarlier 35 = .ok (.iload_n 1, 1) := by decide +kernel
theorem dX9_isEarlier_36 : decode cX9_isEarlier 36 = .ok (.iconst 0, 1) := by decide +kernel
theorem dX9_isEarlier_37 : decode cX9_isEarlier 37 = .ok (.invokevirtual 83, 3) := by decide +kernel
theorem dX9_isEarlier_40 : decode cX9_isEarlier 40 = .ok (.aload_n 0, 1) := by decide +kernel
theorem dX9_isEarlier_41 : decode cX9_isEarlier 41 = .ok (.iload_n 2, 1) := by decide +kernel
theorem dX9_isEarlier_42 : decode cX9_isEarlier 42 = .ok (.iconst 0, 1) := by decide +kernel
theorem dX9_isEarlier_43 : decode cX9_isEarlier 43 = .ok (.invokevirtual 83, 3) := by decide +kernel
theorem dX9_isEarlier_46 : decode cX9_isEarlier 46 = .ok (.if_icmp .ge 7, 3) := by decide +kernel
theorem dX9_isEarlier_49 : decode cX9_isEarlier 49 = .ok (.iconst 1, 1) := by decide +kernel
theorem dX9_isEarlier_50 : decode cX9_isEarlier 50 = .ok (.goto 4, 3) := by decide +kernel
theorem dX9_isEarlier_53 : decode cX9_isEarlier 53 = .ok (.iconst 0, 1) := by decide +kernel
theorem dX9_isEarlier_54 : decode cX9_isEarlier 54 = .ok (.ireturn, 1) := by decide +kernel
set_option maxRecDepth 100000 in
set_option maxHeartbeats 4000000 in
theorem w9_isEarlier_ok {l : Launch} {idx : List (Nat × Nat)} {μ : Mem} {a1 : Int32} {a2 : Int32} {P : Int32 → Mem → Prop} {X : String → Mem → Prop} (hl : l.stackTraces = false) (hI : IdxOK idx) (hk : w9_isEarlier_wp μ a1 a2 P) : PMet l yX9_isEarlier (.code yX9_isEarlier cX9_isEarlier 3 (some .boolean)) 2 0 0 idx [pR 50 0, pI a1, pI a2] μ (qI P) X := by
  refine PMet_of mv_X9_isEarlier.2.2.2.2.2.2 hl hI mv_X9_isEarlier.2.2.2.1 rfl (Nat.le_of_ble_eq_true rfl) (fun G _ _ C hRt hHR hnT => ?_)
  show PW G 0 0 0 [some (pR 50 0), some (pI a1), some (pI a2)] [] μ
  unfold w9_isEarlier_wp at hk
  refine px_aload_n (i := 0) C dX9_isEarlier_0 rfl rfl ?_
  refine px_iload_n (i := 1) C dX9_isEarlier_1 rfl rfl ?_
  refine px_callVi (h := 1) (rc' := 0) (rs' := 0) C (HR_le hHR (Nat.le_of_ble_eq_true rfl)) hRt hnT dX9_isEarlier_2 (gw9 22 rfl rfl) mv_X9_begin (w9_begin_ok (PCx_l C) (PCx_I C) hk) rfl rfl rfl rfl rfl (Nat.le_of_ble_eq_true rfl) (Nat.le_of_ble_eq_true rfl) (Nat.le_of_ble_eq_true rfl) (Nat.le_of_ble_eq_true rfl) ?_
  intro r2 μ1 hk
  refine px_aload_n (i := 0) C dX9_isEarlier_5 rfl rfl ?_
  refine px_iload_n (i := 2) C dX9_isEarlier_6 rfl rfl ?_
  refine px_callVi (h := 1) (rc' := 0) (rs' := 0) C (HR_le hHR (Nat.le_of_ble_eq_true rfl)) hRt hnT dX9_isEarlier_7 (gw9 22 rfl rfl) mv_X9_begin (w9_begin_ok (PCx_l C) (PCx_I C) hk) rfl rfl rfl rfl rfl (Nat.le_of_ble_eq_true rfl) (Nat.le_of_ble_eq_true rfl) (Nat.le_of_ble_eq_true rfl) (Nat.le_of_ble_eq_true rfl) ?_
  intro r4 μ3 hk
  refine px_icmp_eq (tgt := 34) C dX9_isEarlier_10 (by decide) (fun c15 => ?_) (fun c15 => ?_)
  · replace hk := hk.1 c15
    refine px_aload_n (i := 0) C dX9_isEarlier_34 rfl rfl ?_
    refine px_iload_n (i := 1) C dX9_isEarlier_35 rfl rfl ?_
    refine px_iconst (v := (0 : Int32)) C dX9_isEarlier_36 rfl ?_
    refine px_callVi (h := 0) (rc' := 0) (rs' := 0) C (HR_le hHR (Nat.le_of_ble_eq_true rfl)) hRt hnT dX9_isEarlier_37 (gw8 152 rfl rfl) mv_X9_of (w9_of_ok (PCx_l C) (PCx_I C) hk) rfl rfl rfl rfl rfl (Nat.le_of_ble_eq_true rfl) (Nat.le_of_ble_eq_true rfl) (Nat.le_of_ble_eq_true rfl) (Nat.le_of_ble_eq_true rfl) ?_
    intro r6 μ5 hk
    refine px_aload_n (i := 0) C dX9_isEarlier_40 rfl rfl ?_
    refine px_iload_n (i := 2) C dX9_isEarlier_41 rfl rfl ?_
    refine px_iconst (v := (0 : Int32)) C dX9_isEarlier_42 rfl ?_
    refine px_callVi (h := 0) (rc' := 0) (rs' := 0) C (HR_le hHR (Nat.le_of_ble_eq_true rfl)) hRt hnT dX9_isEarlier_43 (gw8 152 rfl rfl) mv_X9_of (w9_of_ok (PCx_l C) (PCx_I C) hk) rfl rfl rfl rfl rfl (Nat.le_of_ble_eq_true rfl) (Nat.le_of_ble_eq_true rfl) (Nat.le_of_ble_eq_true rfl) (Nat.le_of_ble_eq_true rfl) ?_
    intro r8 μ7 hk
    refine px_icmp_ge (tgt := 53) C dX9_isEarlier_46 (by decide) (fun c9 => ?_) (fun c9 => ?_)
    · replace hk := hk.1 c9
      refine px_iconst (v := (0 : Int32)) C dX9_isEarlier_53 rfl ?_
      exact px_iret C hRt dX9_isEarlier_54 rfl rfl hk
    · replace hk := hk.2 c9
      refine px_iconst (v := (1 : Int32)) C dX9_isEarlier_49 rfl ?_
      refine px_goto (tgt := 54) C dX9_isEarlier_50 (by decide) ?_
      exact px_iret C hRt dX9_isEarlier_54 rfl rfl hk
  · replace hk := hk.2 c15
    refine px_aload_n (i := 0) C dX9_isEarlier_13 rfl rfl ?_
    refine px_iload_n (i := 1) C dX9_isEarlier_14 rfl rfl ?_
    refine px_callVi (h := 1) (rc' := 0) (rs' := 0) C (HR_le hHR (Nat.le_of_ble_eq_true rfl)) hRt hnT dX9_isEarlier_15 (gw9 22 rfl rfl) mv_X9_begin (w9_begin_ok (PCx_l C) (PCx_I C) hk) rfl rfl rfl rfl rfl (Nat.le_of_ble_eq_true rfl) (Nat.le_of_ble_eq_true rfl) (Nat.le_of_ble_eq_true rfl) (Nat.le_of_ble_eq_true rfl) ?_
    intro r11 μ10 hk
    refine px_aload_n (i := 0) C dX9_isEarlier_18 rfl rfl ?_
    refine px_iload_n (i := 2) C dX9_isEarlier_19 rfl rfl ?_
    refine px_callVi (h := 1) (rc' := 0) (rs' := 0) C (HR_le hHR (Nat.le_of_ble_eq_true rfl)) hRt hnT dX9_isEarlier_20 (gw9 22 rfl rfl) mv_X9_begin (w9_begin_ok (PCx_l C) (PCx_I C) hk) rfl rfl rfl rfl rfl (Nat.le_of_ble_eq_true rfl) (Nat.le_of_ble_eq_true rfl) (Nat.le_of_ble_eq_true rfl) (Nat.le_of_ble_eq_true rfl) ?_
    intro r13 μ12 hk
    refine px_icmp_ge (tgt := 30) C dX9_isEarlier_23 (by decide) (fun c14 => ?_) (fun c14 => ?_)
    · replace hk := hk.1 c14
      refine px_iconst (v := (0 : Int32)) C dX9_isEarlier_30 rfl ?_
      refine px_goto (tgt := 54) C dX9_isEarlier_31 (by decide) ?_
      exact px_iret C hRt dX9_isEarlier_54 rfl rfl hk
    · replace hk := hk.2 c14
      refine px_iconst (v := (1 : Int32)) C dX9_isEarlier_26 rfl ?_
      refine px_goto (tgt := 54) C dX9_isEarlier_27 (by decide) ?_
      exact px_iret C hRt dX9_isEarlier_54 rfl rfl hk
theorem dX9_childrenOf_0 : decode cX9_childrenOf 0 = .ok (.iconst 0, 1) := by decide +kernel
theorem dX9_childrenOf_1 : decode cX9_childrenOf 1 = .ok (.istore_n 2, 1) := by decide +kernel
theorem dX9_childrenOf_2 : decode cX9_childrenOf 2 = .ok (.iconst 0, 1) := by decide +kernel
theorem dX9_childrenOf_3 : decode cX9_childrenOf 3 = .ok (.istore_n 3, 1) := by decide +kernel
theorem dX9_childrenOf_4 : decode cX9_childrenOf 4 = .ok (.iload_n 3, 1) := by decide +kernel
theorem dX9_childrenOf_5 : decode cX9_childrenOf 5 = .ok (.aload_n 0, 1) := by decide +kernel
theorem dX9_childrenOf_6 : decode cX9_childrenOf 6 = .ok (.getfield 7, 3) := by decide +kernel
theorem dX9_childrenOf_9 : decode cX9_childrenOf 9 = .ok (.iconst 0, 1) := by decide +kernel
theorem dX9_childrenOf_10 : decode cX9_childrenOf 10 = .ok (.iaload, 1) := by decide +kernel
theorem dX9_childrenOf_11 : decode cX9_childrenOf 11 = .ok (.if_icmp .ge 27, 3) := by decide +kernel
theorem dX9_childrenOf_14 : decode cX9_childrenOf 14 = .ok (.iload_n 2, 1) := by decide +kernel
theorem dX9_childrenOf_15 : decode cX9_childrenOf 15 = .ok (.aload_n 0, 1) := by decide +kernel
theorem dX9_childrenOf_16 : decode cX9_childrenOf 16 = .ok (.getfield 47, 3) := by decide +kernel
theorem dX9_childrenOf_19 : decode cX9_childrenOf 19 = .ok (.iload_n 3, 1) := by decide +kernel
theorem dX9_childrenOf_20 : decode cX9_childrenOf 20 = .ok (.iaload, 1) := by decide +kernel
theorem dX9_childrenOf_21 : decode cX9_childrenOf 21 = .ok (.iload_n 1, 1) := by decide +kernel
theorem dX9_childrenOf_22 : decode cX9_childrenOf 22 = .ok (.if_icmp .ne 7, 3) := by decide +kernel
theorem dX9_childrenOf_25 : decode cX9_childrenOf 25 = .ok (.iconst 1, 1) := by decide +kernel
theorem dX9_childrenOf_26 : decode cX9_childrenOf 26 = .ok (.goto 4, 3) := by decide +kernel
theorem dX9_childrenOf_29 : decode cX9_childrenOf 29 = .ok (.iconst 0, 1) := by decide +kernel
theorem dX9_childrenOf_30 : decode cX9_childrenOf 30 = .ok (.iadd, 1) := by decide +kernel
theorem dX9_childrenOf_31 : decode cX9_childrenOf 31 = .ok (.istore_n 2, 1) := by decide +kernel
theorem dX9_childrenOf_32 : decode cX9_childrenOf 32 = .ok (.iinc 3 1, 3) := by decide +kernel
theorem dX9_childrenOf_35 : decode cX9_childrenOf 35 = .ok (.goto (-31), 3) := by decide +kernel
theorem dX9_childrenOf_38 : decode cX9_childrenOf 38 = .ok (.iload_n 2, 1) := by decide +kernel
theorem dX9_childrenOf_39 : decode cX9_childrenOf 39 = .ok (.ireturn, 1) := by decide +kernel
set_option maxRecDepth 100000 in
set_option maxHeartbeats 4000000 in
theorem w9_childrenOf_b4_ok {G : GT} {P : Int32 → Mem → Prop} {X : String → Mem → Prop} (C : PCx G cX9_childrenOf 4 RX9) (hRt : PRt G (some .int) (qI P) X) (hHR : HR G (0)) (hnT : NoT G) {μ : Mem} {l1 : Int32} {l2 : Int32} {l3 : Int32} (hk : w9_childrenOf_b4 P μ l1 l2 l3) : PW G 0 0 4 [some (pR 50 0), some (pI l1), some (pI l2), some (pI l3)] [] μ := by
  refine hk (fun (μ : Mem) (l1 : Int32) (l2 : Int32) (l3 : Int32) => PW G 0 0 4 [some (pR 50 0), some (pI l1), some (pI l2), some (pI l3)] [] μ) (fun (μ : Mem) l1 l2 l3 hk => ?_)
  have hR4 : ∀ (μ : Mem) (l1 : Int32) (l2 : Int32) (l3 : Int32), PW G 0 0 4 [some (pR 50 0), some (pI l1), some (pI l2), some (pI l3)] [] μ → PW G 0 0 4 [some (pR 50 0), some (pI l1), some (pI l2), some (pI l3)] [] μ := fun _ _ _ _ h => h
  unfold w9_childrenOf_b4_body at hk
  refine px_iload_n (i := 3) C dX9_childrenOf_4 rfl rfl ?_
  refine px_aload_n (i := 0) C dX9_childrenOf_5 rfl rfl ?_
  refine px_getr C dX9_childrenOf_6 fl_RX9_7 rfl rfl rfl ?_
  refine px_iconst (v := (0 : Int32)) C dX9_childrenOf_9 rfl ?_
  obtain ⟨o1, hk⟩ := hk
  refine px_iald 3264 C dX9_childrenOf_10 rfl rfl rfl rfl o1 ?_
  refine px_icmp_ge (tgt := 38) C dX9_childrenOf_11 (by decide) (fun c4 => ?_) (fun c4 => ?_)
  · replace hk := hk.1 c4
    refine px_iload_n (i := 2) C dX9_childrenOf_38 rfl rfl ?_
    exact px_iret C hRt dX9_childrenOf_39 rfl rfl hk
  · replace hk := hk.2 c4
    refine px_iload_n (i := 2) C dX9_childrenOf_14 rfl rfl ?_
    refine px_aload_n (i := 0) C dX9_childrenOf_15 rfl rfl ?_
    refine px_getr C dX9_childrenOf_16 fl_RX9_47 rfl rfl rfl ?_
    refine px_iload_n (i := 3) C dX9_childrenOf_19 rfl rfl ?_
    obtain ⟨o2, hk⟩ := hk
    refine px_iald 3968 C dX9_childrenOf_20 rfl rfl rfl rfl o2 ?_
    refine px_iload_n (i := 1) C dX9_childrenOf_21 rfl rfl ?_
    refine px_icmp_ne (tgt := 29) C dX9_childrenOf_22 (by decide) (fun c3 => ?_) (fun c3 => ?_)
    · replace hk := hk.1 c3
      refine px_iconst (v := (0 : Int32)) C dX9_childrenOf_29 rfl ?_
      refine px_iadd C dX9_childrenOf_30 ?_
      refine px_istore_n (i := 2) C dX9_childrenOf_31 rfl (by decide) rfl ?_
      refine px_iinc (i := 3) (v := (1 : Int32)) C dX9_childrenOf_32 rfl rfl (by decide) rfl ?_
      refine px_goto (tgt := 4) C dX9_childrenOf_35 (by decide) ?_
      exact PW_at (hR4 _ _ _ _ hk) (And.intro rfl (And.intro rfl (And.intro rfl (And.intro rfl trivial)))) (Nat.le_of_ble_eq_true rfl) (Nat.le_of_ble_eq_true rfl)
    · replace hk := hk.2 c3
      refine px_iconst (v := (1 : Int32)) C dX9_childrenOf_25 rfl ?_
      refine px_goto (tgt := 30) C dX9_childrenOf_26 (by decide) ?_
      refine px_iadd C dX9_childrenOf_30 ?_
      refine px_istore_n (i := 2) C dX9_childrenOf_31 rfl (by decide) rfl ?_
      refine px_iinc (i := 3) (v := (1 : Int32)) C dX9_childrenOf_32 rfl rfl (by decide) rfl ?_
      refine px_goto (tgt := 4) C dX9_childrenOf_35 (by decide) ?_
      exact PW_at (hR4 _ _ _ _ hk) (And.intro rfl (And.intro rfl (And.intro rfl (And.intro rfl trivial)))) (Nat.le_of_ble_eq_true rfl) (Nat.le_of_ble_eq_true rfl)
set_option maxRecDepth 100000 in
set_option maxHeartbeats 4000000 in
theorem w9_childrenOf_ok {l : Launch} {idx : List (Nat × Nat)} {μ : Mem} {a1 : Int32} {P : Int32 → Mem → Prop} {X : String → Mem → Prop} (hl : l.stackTraces = false) (hI : IdxOK idx) (hk : w9_childrenOf_wp μ a1 P) : PMet l yX9_childrenOf (.code yX9_childrenOf cX9_childrenOf 4 (some .int)) 0 0 0 idx [pR 50 0, pI a1] μ (qI P) X := by
  refine PMet_of mv_X9_childrenOf.2.2.2.2.2.2 hl hI mv_X9_childrenOf.2.2.2.1 rfl (Nat.le_of_ble_eq_true rfl) (fun G _ _ C hRt hHR hnT => ?_)
  show PW G 0 0 0 [some (pR 50 0), some (pI a1), none, none] [] μ
  unfold w9_childrenOf_wp at hk
  refine px_iconst (v := (0 : Int32)) C dX9_childrenOf_0 rfl ?_
  refine px_istore_n (i := 2) C dX9_childrenOf_1 rfl (by decide) rfl ?_
  refine px_iconst (v := (0 : Int32)) C dX9_childrenOf_2 rfl ?_
  refine px_istore_n (i := 3) C dX9_childrenOf_3 rfl (by decide) rfl ?_
  exact PW_at (w9_childrenOf_b4_ok C hRt hHR hnT hk) (And.intro rfl (And.intro rfl (And.intro rfl (And.intro rfl trivial)))) (Nat.le_of_ble_eq_true rfl) (Nat.le_of_ble_eq_true rfl)
theorem dX9_childOf_0 : decode cX9_childOf 0 = .ok (.iconst 0, 1) := by decide +kernel
theorem dX9_childOf_1 : decode cX9_childOf 1 = .ok (.istore_n 3, 1) := by decide +kernel
theorem dX9_childOf_2 : decode cX9_childOf 2 = .ok (.iload_n 3, 1) := by decide +kernel
theorem dX9_childOf_3 : decode cX9_childOf 3 = .ok (.aload_n 0, 1) := by decide +kernel
theorem dX9_childOf_4 : decode cX9_childOf 4 = .ok (.getfield 7, 3) := by decide +kernel
theorem dX9_childOf_7 : decode cX9_childOf 7 = .ok (.iconst 0, 1) := by decide +kernel
theorem dX9_childOf_8 : decode cX9_childOf 8 = .ok (.iaload, 1) := by decide +kernel
theorem dX9_childOf_9 : decode cX9_childOf 9 = .ok (.if_icmp .ge 81, 3) := by decide +kernel
theorem dX9_childOf_12 : decode cX9_childOf 12 = .ok (.iconst 0, 1) := by decide +kernel
theorem dX9_childOf_13 : decode cX9_childOf 13 = .ok (.istore 4, 2) := by decide +kernel
theorem dX9_childOf_15 : decode cX9_childOf 15 = .ok (.iconst 0, 1) := by decide +kernel
theorem dX9_childOf_16 : decode cX9_childOf 16 = .ok (.istore 5, 2) := by decide +kernel
theorem dX9_childOf_18 : decode cX9_childOf 18 = .ok (.iload 5, 2) := by decide +kernel
theorem dX9_childOf_20 : decode cX9_childOf 20 = .ok (.aload_n 0, 1) := by decide +kernel
theorem dX9_childOf_21 : decode cX9_childOf 21 = .ok (.getfield 7, 3) := by decide +kernel
theorem dX9_childOf_24 : decode cX9_childOf 24 = .ok (.iconst 0, 1) := by decide +kernel
theorem dX9_childOf_25 : decode cX9_childOf 25 = .ok (.iaload, 1) := by decide +kernel
theorem dX9_childOf_26 : decode cX9_childOf 26 = .ok (.if_icmp .ge 40, 3) := by decide +kernel
theorem dX9_childOf_29 : decode cX9_childOf 29 = .ok (.iload 4, 2) := by decide +kernel
theorem dX9_childOf_31 : decode cX9_childOf 31 = .ok (.aload_n 0, 1) := by decide +kernel
theorem dX9_childOf_32 : decode cX9_childOf 32 = .ok (.getfield 47, 3) := by decide +kernel
theorem dX9_childOf_35 : decode cX9_childOf 35 = .ok (.iload 5, 2) := by decide +kernel
theorem dX9_childOf_37 : decode cX9_childOf 37 = .ok (.iaload, 1) := by decide +kernel
theorem dX9_childOf_38 : decode cX9_childOf 38 = .ok (.iload_n 1, 1) := by decide +kernel
theorem dX9_childOf_39 : decode cX9_childOf 39 = .ok (.if_icmp .ne 17, 3) := by decide +kernel
theorem dX9_childOf_42 : decode cX9_childOf 42 = .ok (.aload_n 0, 1) := by decide +kernel
theorem dX9_childOf_43 : decode cX9_childOf 43 = .ok (.iload 5, 2) := by decide +kernel
theorem dX9_childOf_45 : decode cX9_childOf 45 = .ok (.iload_n 3, 1) := by decide +kernel
theorem dX9_childOf_46 : decode cX9_childOf 46 = .ok (.invokevirtual 149, 3) := by decide +kernel
theorem dX9_childOf_49 : decode cX9_childOf 49 = .ok (.ifCond .eq 7, 3) := by decide +kernel
theorem dX9_childOf_52 : decode cX9_childOf 52 = .ok (.iconst 1, 1) := by decide +kernel
theorem dX9_childOf_53 : decode cX9_childOf 53 = .ok (.goto 4, 3) := by decide +kernel
theorem dX9_childOf_56 : decode cX9_childOf 56 = .ok (.iconst 0, 1) := by decide +kernel
theorem dX9_childOf_57 : decode cX9_childOf 57 = .ok (.iadd, 1) := by decide +kernel
theorem dX9_childOf_58 : decode cX9_childOf 58 = .ok (.istore 4, 2) := by decide +kernel
theorem dX9_childOf_60 : decode cX9_childOf 60 = .ok (.iinc 5 1, 3) := by decide +kernel
theorem dX9_childOf_63 : decode cX9_childOf 63 = .ok (.goto (-45), 3) := by decide +kernel
theorem dX9_childOf_66 : decode cX9_childOf 66 = .ok (.aload_n 0, 1) := by decide +kernel
theorem dX9_childOf_67 : decode cX9_childOf 67 = .ok (.getfield 47, 3) := by decide +kernel
theorem dX9_childOf_70 : decode cX9_childOf 70 = .ok (.iload_n 3, 1) := by decide +kernel
theorem dX9_childOf_71 : decode cX9_childOf 71 = .ok (.iaload, 1) := by decide +kernel
theorem dX9_childOf_72 : decode cX9_childOf 72 = .ok (.iload_n 1, 1) := by decide +kernel
theorem dX9_childOf_73 : decode cX9_childOf 73 = .ok (.if_icmp .ne 11, 3) := by decide +kernel
theorem dX9_childOf_76 : decode cX9_childOf 76 = .ok (.iload 4, 2) := by decide +kernel
theorem dX9_childOf_78 : decode cX9_childOf 78 = .ok (.iload_n 2, 1) := by decide +kernel
theorem dX9_childOf_79 : decode cX9_childOf 79 = .ok (.if_icmp .ne 5, 3) := by decide +kernel
theorem dX9_childOf_82 : decode cX9_childOf 82 = .ok (.iload_n 3, 1) := by decide +kernel
theorem dX9_childOf_83 : decode cX9_childOf 83 = .ok (.ireturn, 1) := by decide +kernel
theorem dX9_childOf_84 : decode cX9_childOf 84 = .ok (.iinc 3 1, 3) := by decide +kernel
theorem dX9_childOf_87 : decode cX9_childOf 87 = .ok (.goto (-85), 3) := by decide +kernel
theorem dX9_childOf_90 : decode cX9_childOf 90 = .ok (.iconst (-1), 1) := by decide +kernel
theorem dX9_childOf_91 : decode cX9_childOf 91 = .ok (.ireturn, 1) := by decide +kernel
set_option maxRecDepth 100000 in
set_option maxHeartbeats 4000000 in
theorem w9_childOf_b18_ok {G : GT} {P : Int32 → Mem → Prop} {X : String → Mem → Prop} (C : PCx G cX9_childOf 6 RX9) (hRt : PRt G (some .int) (qI P) X) (hHR : HR G (3)) (hnT : NoT G) {R2 : Mem → Int32 → Int32 → Int32 → Prop} (hR2 : ∀ (μ : Mem) (l1 : Int32) (l2 : Int32) (l3 : Int32), R2 μ l1 l2 l3 → PW G 0 0 2 [some (pR 50 0), some (pI l1), some (pI l2), some (pI l3), none, none] [] μ) {μ : Mem} {l1 : Int32} {l2 : Int32} {l3 : Int32} {l4 : Int32} {l5 : Int32} (hk : w9_childOf_b18 P R2 μ l1 l2 l3 l4 l5) : PW G 0 0 18 [some (pR 50 0), some (pI l1), some (pI l2), some (pI l3), some (pI l4), some (pI l5)] [] μ := by
  refine hk (fun (μ : Mem) (l1 : Int32) (l2 : Int32) (l3 : Int32) (l4 : Int32) (l5 : Int32) => PW G 0 0 18 [some (pR 50 0), some (pI l1), some (pI l2), some (pI l3), some (pI l4), some (pI l5)] [] μ) (fun (μ : Mem) l1 l2 l3 l4 l5 hk => ?_)
  have hR18 : ∀ (μ : Mem) (l1 : Int32) (l2 : Int32) (l3 : Int32) (l4 : Int32) (l5 : Int32), PW G 0 0 18 [some (pR 50 0), some (pI l1), some (pI l2), some (pI l3), some (pI l4), some (pI l5)] [] μ → PW G 0 0 18 [some (pR 50 0), some (pI l1), some (pI l2), some (pI l3), some (pI l4), some (pI l5)] [] μ := fun _ _ _ _ _ _ h => h
  unfold w9_childOf_b18_body at hk
  refine px_iload (i := 5) C dX9_childOf_18 rfl ?_
  refine px_aload_n (i := 0) C dX9_childOf_20 rfl rfl ?_
  refine px_getr C dX9_childOf_21 fl_RX9_7 rfl rfl rfl ?_
  refine px_iconst (v := (0 : Int32)) C dX9_childOf_24 rfl ?_
  obtain ⟨o2, hk⟩ := hk
  refine px_iald 3264 C dX9_childOf_25 rfl rfl rfl rfl o2 ?_
  refine px_icmp_ge (tgt := 66) C dX9_childOf_26 (by decide) (fun c11 => ?_) (fun c11 => ?_)
  · replace hk := hk.1 c11
    refine px_aload_n (i := 0) C dX9_childOf_66 rfl rfl ?_
    refine px_getr C dX9_childOf_67 fl_RX9_47 rfl rfl rfl ?_
    refine px_iload_n (i := 3) C dX9_childOf_70 rfl rfl ?_
    obtain ⟨o3, hk⟩ := hk
    refine px_iald 3968 C dX9_childOf_71 rfl rfl rfl rfl o3 ?_
    refine px_iload_n (i := 1) C dX9_childOf_72 rfl rfl ?_
    refine px_icmp_ne (tgt := 84) C dX9_childOf_73 (by decide) (fun c5 => ?_) (fun c5 => ?_)
    · replace hk := hk.1 c5
      refine px_iinc (i := 3) (v := (1 : Int32)) C dX9_childOf_84 rfl rfl (by decide) rfl ?_
      refine px_goto (tgt := 2) C dX9_childOf_87 (by decide) ?_
      exact PW_at (hR2 _ _ _ _ hk) (And.intro rfl (And.intro rfl (And.intro rfl (And.intro rfl trivial)))) (Nat.le_of_ble_eq_true rfl) (Nat.le_of_ble_eq_true rfl)
    · replace hk := hk.2 c5
      refine px_iload (i := 4) C dX9_childOf_76 rfl ?_
      refine px_iload_n (i := 2) C dX9_childOf_78 rfl rfl ?_
      refine px_icmp_ne (tgt := 84) C dX9_childOf_79 (by decide) (fun c4 => ?_) (fun c4 => ?_)
      · replace hk := hk.1 c4
        refine px_iinc (i := 3) (v := (1 : Int32)) C dX9_childOf_84 rfl rfl (by decide) rfl ?_
        refine px_goto (tgt := 2) C dX9_childOf_87 (by decide) ?_
        exact PW_at (hR2 _ _ _ _ hk) (And.intro rfl (And.intro rfl (And.intro rfl (And.intro rfl trivial)))) (Nat.le_of_ble_eq_true rfl) (Nat.le_of_ble_eq_true rfl)
      · replace hk := hk.2 c4
        refine px_iload_n (i := 3) C dX9_childOf_82 rfl rfl ?_
        exact px_iret C hRt dX9_childOf_83 rfl rfl hk
  · replace hk := hk.2 c11
    refine px_iload (i := 4) C dX9_childOf_29 rfl ?_
    refine px_aload_n (i := 0) C dX9_childOf_31 rfl rfl ?_
    refine px_getr C dX9_childOf_32 fl_RX9_47 rfl rfl rfl ?_
    refine px_iload (i := 5) C dX9_childOf_35 rfl ?_
    obtain ⟨o6, hk⟩ := hk
    refine px_iald 3968 C dX9_childOf_37 rfl rfl rfl rfl o6 ?_
    refine px_iload_n (i := 1) C dX9_childOf_38 rfl rfl ?_
    refine px_icmp_ne (tgt := 56) C dX9_childOf_39 (by decide) (fun c10 => ?_) (fun c10 => ?_)
    · replace hk := hk.1 c10
      refine px_iconst (v := (0 : Int32)) C dX9_childOf_56 rfl ?_
      refine px_iadd C dX9_childOf_57 ?_
      refine px_istore (i := 4) C dX9_childOf_58 (by decide) rfl ?_
      refine px_iinc (i := 5) (v := (1 : Int32)) C dX9_childOf_60 rfl rfl (by decide) rfl ?_
      refine px_goto (tgt := 18) C dX9_childOf_63 (by decide) ?_
      exact PW_at (hR18 _ _ _ _ _ _ hk) (And.intro rfl (And.intro rfl (And.intro rfl (And.intro rfl (And.intro rfl (And.intro rfl trivial)))))) (Nat.le_of_ble_eq_true rfl) (Nat.le_of_ble_eq_true rfl)
    · replace hk := hk.2 c10
      refine px_aload_n (i := 0) C dX9_childOf_42 rfl rfl ?_
      refine px_iload (i := 5) C dX9_childOf_43 rfl ?_
      refine px_iload_n (i := 3) C dX9_childOf_45 rfl rfl ?_
      refine px_callVi (h := 2) (rc' := 0) (rs' := 0) C (HR_le hHR (Nat.le_of_ble_eq_true rfl)) hRt hnT dX9_childOf_46 (gw9 90 rfl rfl) mv_X9_isEarlier (w9_isEarlier_ok (PCx_l C) (PCx_I C) hk) rfl rfl rfl rfl rfl (Nat.le_of_ble_eq_true rfl) (Nat.le_of_ble_eq_true rfl) (Nat.le_of_ble_eq_true rfl) (Nat.le_of_ble_eq_true rfl) ?_
      intro r8 μ7 hk
      refine px_if_eq (tgt := 56) C dX9_childOf_49 (by decide) (fun c9 => ?_) (fun c9 => ?_)
      · replace hk := hk.1 c9
        refine px_iconst (v := (0 : Int32)) C dX9_childOf_56 rfl ?_
        refine px_iadd C dX9_childOf_57 ?_
        refine px_istore (i := 4) C dX9_childOf_58 (by decide) rfl ?_
        refine px_iinc (i := 5) (v := (1 : Int32)) C dX9_childOf_60 rfl rfl (by decide) rfl ?_
        refine px_goto (tgt := 18) C dX9_childOf_63 (by decide) ?_
        exact PW_at (hR18 _ _ _ _ _ _ hk) (And.intro rfl (And.intro rfl (And.intro rfl (And.intro rfl (And.intro rfl (And.intro rfl trivial)))))) (Nat.le_of_ble_eq_true rfl) (Nat.le_of_ble_eq_true rfl)
      · replace hk := hk.2 c9
        refine px_iconst (v := (1 : Int32)) C dX9_childOf_52 rfl ?_
        refine px_goto (tgt := 57) C dX9_childOf_53 (by decide) ?_
        refine px_iadd C dX9_childOf_57 ?_
        refine px_istore (i := 4) C dX9_childOf_58 (by decide) rfl ?_
        refine px_iinc (i := 5) (v := (1 : Int32)) C dX9_childOf_60 rfl rfl (by decide) rfl ?_
        refine px_goto (tgt := 18) C dX9_childOf_63 (by decide) ?_
        exact PW_at (hR18 _ _ _ _ _ _ hk) (And.intro rfl (And.intro rfl (And.intro rfl (And.intro rfl (And.intro rfl (And.intro rfl trivial)))))) (Nat.le_of_ble_eq_true rfl) (Nat.le_of_ble_eq_true rfl)
set_option maxRecDepth 100000 in
set_option maxHeartbeats 4000000 in
theorem w9_childOf_b2_ok {G : GT} {P : Int32 → Mem → Prop} {X : String → Mem → Prop} (C : PCx G cX9_childOf 6 RX9) (hRt : PRt G (some .int) (qI P) X) (hHR : HR G (3)) (hnT : NoT G) {μ : Mem} {l1 : Int32} {l2 : Int32} {l3 : Int32} (hk : w9_childOf_b2 P μ l1 l2 l3) : PW G 0 0 2 [some (pR 50 0), some (pI l1), some (pI l2), some (pI l3), none, none] [] μ := by
  refine hk (fun (μ : Mem) (l1 : Int32) (l2 : Int32) (l3 : Int32) => PW G 0 0 2 [some (pR 50 0), some (pI l1), some (pI l2), some (pI l3), none, none] [] μ) (fun (μ : Mem) l1 l2 l3 hk => ?_)
  have hR2 : ∀ (μ : Mem) (l1 : Int32) (l2 : Int32) (l3 : Int32), PW G 0 0 2 [some (pR 50 0), some (pI l1), some (pI l2), some (pI l3), none, none] [] μ → PW G 0 0 2 [some (pR 50 0), some (pI l1), some (pI l2), some (pI l3), none, none] [] μ := fun _ _ _ _ h => h
  unfold w9_childOf_b2_body at hk
  refine px_iload_n (i := 3) C dX9_childOf_2 rfl rfl ?_
  refine px_aload_n (i := 0) C dX9_childOf_3 rfl rfl ?_
  refine px_getr C dX9_childOf_4 fl_RX9_7 rfl rfl rfl ?_
  refine px_iconst (v := (0 : Int32)) C dX9_childOf_7 rfl ?_
  obtain ⟨o1, hk⟩ := hk
  refine px_iald 3264 C dX9_childOf_8 rfl rfl rfl rfl o1 ?_
  refine px_icmp_ge (tgt := 90) C dX9_childOf_9 (by decide) (fun c12 => ?_) (fun c12 => ?_)
  · replace hk := hk.1 c12
    refine px_iconst (v := (-1 : Int32)) C dX9_childOf_90 rfl ?_
    exact px_iret C hRt dX9_childOf_91 rfl rfl hk
  · replace hk := hk.2 c12
    refine px_iconst (v := (0 : Int32)) C dX9_childOf_12 rfl ?_
    refine px_istore (i := 4) C dX9_childOf_13 (by decide) rfl ?_
    refine px_iconst (v := (0 : Int32)) C dX9_childOf_15 rfl ?_
    refine px_istore (i := 5) C dX9_childOf_16 (by decide) rfl ?_
    exact PW_at (w9_childOf_b18_ok C hRt hHR hnT hR2 hk) (And.intro rfl (And.intro rfl (And.intro rfl (And.intro rfl (And.intro rfl (And.intro rfl trivial)))))) (Nat.le_of_ble_eq_true rfl) (Nat.le_of_ble_eq_true rfl)
set_option maxRecDepth 100000 in
set_option maxHeartbeats 4000000 in
theorem w9_childOf_ok {l : Launch} {idx : List (Nat × Nat)} {μ : Mem} {a1 : Int32} {a2 : Int32} {P : Int32 → Mem → Prop} {X : String → Mem → Prop} (hl : l.stackTraces = false) (hI : IdxOK idx) (hk : w9_childOf_wp μ a1 a2 P) : PMet l yX9_childOf (.code yX9_childOf cX9_childOf 6 (some .int)) 3 0 0 idx [pR 50 0, pI a1, pI a2] μ (qI P) X := by
  refine PMet_of mv_X9_childOf.2.2.2.2.2.2 hl hI mv_X9_childOf.2.2.2.1 rfl (Nat.le_of_ble_eq_true rfl) (fun G _ _ C hRt hHR hnT => ?_)
  show PW G 0 0 0 [some (pR 50 0), some (pI a1), some (pI a2), none, none, none] [] μ
  unfold w9_childOf_wp at hk
  refine px_iconst (v := (0 : Int32)) C dX9_childOf_0 rfl ?_
  refine px_istore_n (i := 3) C dX9_childOf_1 rfl (by decide) rfl ?_
  exact PW_at (w9_childOf_b2_ok C hRt hHR hnT hk) (And.intro rfl (And.intro rfl (And.intro rfl (And.intro rfl trivial)))) (Nat.le_of_ble_eq_true rfl) (Nat.le_of_ble_eq_true rfl)
theorem dX9_adds_0 : decode cX9_adds 0 = .ok (.aload_n 0, 1) := by decide +kernel
theorem dX9_adds_1 : decode cX9_adds 1 = .ok (.getfield 59, 3) := by decide +kernel
theorem dX9_adds_4 : decode cX9_adds 4 = .ok (.aload_n 0, 1) := by decide +kernel
theorem dX9_adds_5 : decode cX9_adds 5 = .ok (.getfield 153, 3) := by decide +kernel
theorem dX9_adds_8 : decode cX9_adds 8 = .ok (.iload_n 1, 1) := by decide +kernel
theorem dX9_adds_9 : decode cX9_adds 9 = .ok (.iastore, 1) := by decide +kernel
theorem dX9_adds_10 : decode cX9_adds 10 = .ok (.aload_n 0, 1) := by decide +kernel
theorem dX9_adds_11 : decode cX9_adds 11 = .ok (.getfield 62, 3) := by decide +kernel
theorem dX9_adds_14 : decode cX9_adds 14 = .ok (.aload_n 0, 1) := by decide +kernel
theorem dX9_adds_15 : decode cX9_adds 15 = .ok (.getfield 153, 3) := by decide +kernel
theorem dX9_adds_18 : decode cX9_adds 18 = .ok (.iload_n 2, 1) := by decide +kernel
theorem dX9_adds_19 : decode cX9_adds 19 = .ok (.iastore, 1) := by decide +kernel
theorem dX9_adds_20 : decode cX9_adds 20 = .ok (.aload_n 0, 1) := by decide +kernel
theorem dX9_adds_21 : decode cX9_adds 21 = .ok (.getfield 65, 3) := by decide +kernel
theorem dX9_adds_24 : decode cX9_adds 24 = .ok (.aload_n 0, 1) := by decide +kernel
theorem dX9_adds_25 : decode cX9_adds 25 = .ok (.getfield 153, 3) := by decide +kernel
theorem dX9_adds_28 : decode cX9_adds 28 = .ok (.iload_n 3, 1) := by decide +kernel
theorem dX9_adds_29 : decode cX9_adds 29 = .ok (.iastore, 1) := by decide +kernel
theorem dX9_adds_30 : decode cX9_adds 30 = .ok (.aload_n 0, 1) := by decide +kernel
theorem dX9_adds_31 : decode cX9_adds 31 = .ok (.dup, 1) := by decide +kernel
theorem dX9_adds_32 : decode cX9_adds 32 = .ok (.getfield 153, 3) := by decide +kernel
theorem dX9_adds_35 : decode cX9_adds 35 = .ok (.iconst 1, 1) := by decide +kernel
theorem dX9_adds_36 : decode cX9_adds 36 = .ok (.iadd, 1) := by decide +kernel
theorem dX9_adds_37 : decode cX9_adds 37 = .ok (.putfield 153, 3) := by decide +kernel
theorem dX9_adds_40 : decode cX9_adds 40 = .ok (.return_, 1) := by decide +kernel
set_option maxRecDepth 100000 in
set_option maxHeartbeats 4000000 in
theorem w9_adds_ok {l : Launch} {idx : List (Nat × Nat)} {μ : Mem} {a1 : Int32} {a2 : Int32} {a3 : Int32} {P : Mem → Prop} {X : String → Mem → Prop} (hl : l.stackTraces = false) (hI : IdxOK idx) (hk : w9_adds_wp μ a1 a2 a3 P) : PMet l yX9_adds (.code yX9_adds cX9_adds 4 none) 0 0 0 idx [pR 50 0, pI a1, pI a2, pI a3] μ (qV P) X := by
  refine PMet_of mv_X9_adds.2.2.2.2.2.2 hl hI mv_X9_adds.2.2.2.1 rfl (Nat.le_of_ble_eq_true rfl) (fun G _ _ C hRt hHR hnT => ?_)
  show PW G 0 0 0 [some (pR 50 0), some (pI a1), some (pI a2), some (pI a3)] [] μ
  unfold w9_adds_wp at hk
  refine px_aload_n (i := 0) C dX9_adds_0 rfl rfl ?_
  refine px_getr C dX9_adds_1 fl_RX9_59 rfl rfl rfl ?_
  refine px_aload_n (i := 0) C dX9_adds_4 rfl rfl ?_
  refine px_geti 3226 C dX9_adds_5 fl_RX9_153 rfl rfl rfl rfl ?_
  refine px_iload_n (i := 1) C dX9_adds_8 rfl rfl ?_
  obtain ⟨o1, hk⟩ := hk
  replace hk := hk _ rfl
  refine px_iast 4224 C dX9_adds_9 rfl rfl rfl rfl o1 ?_
  refine px_aload_n (i := 0) C dX9_adds_10 rfl rfl ?_
  refine px_getr C dX9_adds_11 fl_RX9_62 rfl rfl rfl ?_
  refine px_aload_n (i := 0) C dX9_adds_14 rfl rfl ?_
  refine px_geti 3226 C dX9_adds_15 fl_RX9_153 rfl rfl rfl rfl ?_
  refine px_iload_n (i := 2) C dX9_adds_18 rfl rfl ?_
  obtain ⟨o3, hk⟩ := hk
  replace hk := hk _ rfl
  refine px_iast 4288 C dX9_adds_19 rfl rfl rfl rfl o3 ?_
  refine px_aload_n (i := 0) C dX9_adds_20 rfl rfl ?_
  refine px_getr C dX9_adds_21 fl_RX9_65 rfl rfl rfl ?_
  refine px_aload_n (i := 0) C dX9_adds_24 rfl rfl ?_
  refine px_geti 3226 C dX9_adds_25 fl_RX9_153 rfl rfl rfl rfl ?_
  refine px_iload_n (i := 3) C dX9_adds_28 rfl rfl ?_
  obtain ⟨o5, hk⟩ := hk
  replace hk := hk _ rfl
  refine px_iast 4352 C dX9_adds_29 rfl rfl rfl rfl o5 ?_
  refine px_aload_n (i := 0) C dX9_adds_30 rfl rfl ?_
  refine px_dup C dX9_adds_31 rfl ?_
  refine px_geti 3226 C dX9_adds_32 fl_RX9_153 rfl rfl rfl rfl ?_
  refine px_iconst (v := (1 : Int32)) C dX9_adds_35 rfl ?_
  refine px_iadd C dX9_adds_36 ?_
  replace hk := hk _ rfl
  refine px_puti 3226 C dX9_adds_37 fp_RX9_153 rfl rfl rfl rfl rfl rfl ?_
  exact px_vret C hRt dX9_adds_40 rfl hk
theorem dX9_latest_0 : decode cX9_latest 0 = .ok (.iconst (-1), 1) := by decide +kernel
theorem dX9_latest_1 : decode cX9_latest 1 = .ok (.istore 4, 2) := by decide +kernel
theorem dX9_latest_3 : decode cX9_latest 3 = .ok (.iconst 0, 1) := by decide +kernel
theorem dX9_latest_4 : decode cX9_latest 4 = .ok (.istore 5, 2) := by decide +kernel
theorem dX9_latest_6 : decode cX9_latest 6 = .ok (.iconst 0, 1) := by decide +kernel
theorem dX9_latest_7 : decode cX9_latest 7 = .ok (.istore 6, 2) := by decide +kernel
theorem dX9_latest_9 : decode cX9_latest 9 = .ok (.iconst 0, 1) := by decide +kernel
theorem dX9_latest_10 : decode cX9_latest 10 = .ok (.istore 7, 2) := by decide +kernel
theorem dX9_latest_12 : decode cX9_latest 12 = .ok (.iload 7, 2) := by decide +kernel
theorem dX9_latest_14 : decode cX9_latest 14 = .ok (.aload_n 0, 1) := by decide +kernel
theorem dX9_latest_15 : decode cX9_latest 15 = .ok (.getfield 7, 3) := by decide +kernel
theorem dX9_latest_18 : decode cX9_latest 18 = .ok (.iconst 0, 1) := by decide +kernel
theorem dX9_latest_19 : decode cX9_latest 19 = .ok (.iaload, 1) := by decide +kernel
theorem dX9_latest_20 : decode cX9_latest 20 = .ok (.if_icmp .ge 151, 3) := by decide +kernel
theorem dX9_latest_23 : decode cX9_latest 23 = .ok (.aload_n 0, 1) := by decide +kernel
theorem dX9_latest_24 : decode cX9_latest 24 = .ok (.iload 7, 2) := by decide +kernel
theorem dX9_latest_26 : decode cX9_latest 26 = .ok (.invokevirtual 131, 3) := by decide +kernel
theorem dX9_latest_29 : decode cX9_latest 29 = .ok (.iload_n 2, 1) := by decide +kernel
theorem dX9_latest_30 : decode cX9_latest 30 = .ok (.invokestatic 156, 3) := by decide +kernel
theorem dX9_latest_33 : decode cX9_latest 33 = .ok (.istore 8, 2) := by decide +kernel
theorem dX9_latest_35 : decode cX9_latest 35 = .ok (.aload_n 0, 1) := by decide +kernel
theorem dX9_latest_36 : decode cX9_latest 36 = .ok (.iload 7, 2) := by decide +kernel
theorem dX9_latest_38 : decode cX9_latest 38 = .ok (.invokevirtual 134, 3) := by decide +kernel
theorem dX9_latest_41 : decode cX9_latest 41 = .ok (.iload_n 3, 1) := by decide +kernel
theorem dX9_latest_42 : decode cX9_latest 42 = .ok (.invokestatic 159, 3) := by decide +kernel
theorem dX9_latest_45 : decode cX9_latest 45 = .ok (.istore 9, 2) := by decide +kernel
theorem dX9_latest_47 : decode cX9_latest 47 = .ok (.aload_n 0, 1) := by decide +kernel
theorem dX9_latest_48 : decode cX9_latest 48 = .ok (.getfield 47, 3) := by decide +kernel
theorem dX9_latest_51 : decode cX9_latest 51 = .ok (.iload 7, 2) := by decide +kernel
theorem dX9_latest_53 : decode cX9_latest 53 = .ok (.iaload, 1) := by decide +kernel
theorem dX9_latest_54 : decode cX9_latest 54 = .ok (.iload_n 1, 1) := by decide +kernel
theorem dX9_latest_55 : decode cX9_latest 55 = .ok (.if_icmp .ne 110, 3) := by decide +kernel
theorem dX9_latest_58 : decode cX9_latest 58 = .ok (.iload 9, 2) := by decide +kernel
theorem dX9_latest_60 : decode cX9_latest 60 = .ok (.iload 8, 2) := by decide +kernel
theorem dX9_latest_62 : decode cX9_latest 62 = .ok (.if_icmp .le 103, 3) := by decide +kernel
theorem dX9_latest_65 : decode cX9_latest 65 = .ok (.iload 4, 2) := by decide +kernel
theorem dX9_latest_67 : decode cX9_latest 67 = .ok (.iconst (-1), 1) := by decide +kernel
theorem dX9_latest_68 : decode cX9_latest 68 = .ok (.if_icmp .eq 48, 3) := by decide +kernel
theorem dX9_latest_71 : decode cX9_latest 71 = .ok (.iload 9, 2) := by decide +kernel
theorem dX9_latest_73 : decode cX9_latest 73 = .ok (.iload 6, 2) := by decide +kernel
theorem dX9_latest_75 : decode cX9_latest 75 = .ok (.if_icmp .gt 41, 3) := by decide +kernel
theorem dX9_latest_78 : decode cX9_latest 78 = .ok (.iload 9, 2) := by decide +kernel
theorem dX9_latest_80 : decode cX9_latest 80 = .ok (.iload 6, 2) := by decide +kernel
theorem dX9_latest_82 : decode cX9_latest 82 = .ok (.if_icmp .ne 38, 3) := by decide +kernel
theorem dX9_latest_85 : decode cX9_latest 85 = .ok (.iload 8, 2) := by decide +kernel
theorem dX9_latest_87 : decode cX9_latest 87 = .ok (.iload 5, 2) := by decide +kernel
theorem dX9_latest_89 : decode cX9_latest 89 = .ok (.if_icmp .lt 27, 3) := by decide +kernel
theorem dX9_latest_92 : decode cX9_latest 92 = .ok (.iload 8, 2) := by decide +kernel
theorem dX9_latest_94 : decode cX9_latest 94 = .ok (.iload 5, 2) := by decide +kernel
theorem dX9_latest_96 : decode cX9_latest 96 = .ok (.if_icmp .ne 24, 3) := by decide +kernel
theorem dX9_latest_99 : decode cX9_latest 99 = .ok (.aload_n 0, 1) := by decide +kernel
theorem dX9_latest_100 : decode cX9_latest 100 = .ok (.iload 7, 2) := by decide +kernel
theorem dX9_latest_102 : decode cX9_latest 102 = .ok (.iconst 0, 1) := by decide +kernel
theorem dX9_latest_103 : decode cX9_latest 103 = .ok (.invokevirtual 83, 3) := by decide +kernel
theorem dX9_latest_106 : decode cX9_latest 106 = .ok (.aload_n 0, 1) := by decide +kernel
theorem dX9_latest_107 : decode cX9_latest 107 = .ok (.iload 4, 2) := by decide +kernel
theorem dX9_latest_109 : decode cX9_latest 109 = .ok (.iconst 0, 1) := by decide +kernel
theorem dX9_latest_110 : decode cX9_latest 110 = .ok (.invokevirtual 83, 3) := by decide +kernel
theorem dX9_latest_113 : decode cX9_latest 113 = .ok (.if_icmp .ge 7, 3) := by decide +kernel
theorem dX9_latest_116 : decode cX9_latest 116 = .ok (.iconst 1, 1) := by decide +kernel
theorem dX9_latest_117 : decode cX9_latest 117 = .ok (.goto 4, 3) := by decide +kernel
theorem dX9_latest_120 : decode cX9_latest 120 = .ok (.iconst 0, 1) := by decide +kernel
theorem dX9_latest_121 : decode cX9_latest 121 = .ok (.istore 10, 2) := by decide +kernel
theorem dX9_latest_123 : decode cX9_latest 123 = .ok (.iload 10, 2) := by decide +kernel
theorem dX9_latest_125 : decode cX9_latest 125 = .ok (.ifCond .eq 8, 3) := by decide +kernel
theorem dX9_latest_128 : decode cX9_latest 128 = .ok (.iload 8, 2) := by decide +kernel
theorem dX9_latest_130 : decode cX9_latest 130 = .ok (.goto 5, 3) := by decide +kernel
theorem dX9_latest_133 : decode cX9_latest 133 = .ok (.iload 5, 2) := by decide +kernel
theorem dX9_latest_135 : decode cX9_latest 135 = .ok (.istore 5, 2) := by decide +kernel
theorem dX9_latest_137 : decode cX9_latest 137 = .ok (.iload 10, 2) := by decide +kernel
theorem dX9_latest_139 : decode cX9_latest 139 = .ok (.ifCond .eq 8, 3) := by decide +kernel
theorem dX9_latest_142 : decode cX9_latest 142 = .ok (.iload 9, 2) := by decide +kernel
theorem dX9_latest_144 : decode cX9_latest 144 = .ok (.goto 5, 3) := by decide +kernel
theorem dX9_latest_147 : decode cX9_latest 147 = .ok (.iload 6, 2) := by decide +kernel
theorem dX9_latest_149 : decode cX9_latest 149 = .ok (.istore 6, 2) := by decide +kernel
theorem dX9_latest_151 : decode cX9_latest 151 = .ok (.iload 10, 2) := by decide +kernel
theorem dX9_latest_153 : decode cX9_latest 153 = .ok (.ifCond .eq 8, 3) := by decide +kernel
theorem dX9_latest_156 : decode cX9_latest 156 = .ok (.iload 7, 2) := by decide +kernel
theorem dX9_latest_158 : decode cX9_latest 158 = .ok (.goto 5, 3) := by decide +kernel
theorem dX9_latest_161 : decode cX9_latest 161 = .ok (.iload 4, 2) := by decide +kernel
theorem dX9_latest_163 : decode cX9_latest 163 = .ok (.istore 4, 2) := by decide +kernel
theorem dX9_latest_165 : decode cX9_latest 165 = .ok (.iinc 7 1, 3) := by decide +kernel
theorem dX9_latest_168 : decode cX9_latest 168 = .ok (.goto (-156), 3) := by decide +kernel
theorem dX9_latest_171 : decode cX9_latest 171 = .ok (.iload 4, 2) := by decide +kernel
theorem dX9_latest_173 : decode cX9_latest 173 = .ok (.ireturn, 1) := by decide +kernel
set_option maxRecDepth 100000 in
set_option maxHeartbeats 4000000 in
theorem w9_latest_b149_ok {G : GT} {P : Int32 → Mem → Prop} {X : String → Mem → Prop} (C : PCx G cX9_latest 11 RX9) (hRt : PRt G (some .int) (qI P) X) (hHR : HR G (2)) (hnT : NoT G) {R12 : Mem → Int32 → Int32 → Int32 → Int32 → Int32 → Int32 → Int32 → Prop} (hR12 : ∀ (μ : Mem) (l1 : Int32) (l2 : Int32) (l3 : Int32) (l4 : Int32) (l5 : Int32) (l6 : Int32) (l7 : Int32), R12 μ l1 l2 l3 l4 l5 l6 l7 → PW G 0 0 12 [some (pR 50 0), some (pI l1), some (pI l2), some (pI l3), some (pI l4), some (pI l5), some (pI l6), some (pI l7), none, none, none] [] μ) {μ : Mem} {l1 : Int32} {l2 : Int32} {l3 : Int32} {l4 : Int32} {l5 : Int32} {l7 : Int32} {l10 : Int32} {s0 : Int32} (hk : w9_latest_b149 P R12 μ l1 l2 l3 l4 l5 l7 l10 s0) : PW G 0 0 149 [some (pR 50 0), some (pI l1), some (pI l2), some (pI l3), some (pI l4), some (pI l5), none, some (pI l7), none, none, some (pI l10)] [pI s0] μ := by
  unfold w9_latest_b149 at hk
  refine px_istore (i := 6) C dX9_latest_149 (by decide) rfl ?_
  refine px_iload (i := 10) C dX9_latest_151 rfl ?_
  refine px_if_eq (tgt := 161) C dX9_latest_153 (by decide) (fun c7 => ?_) (fun c7 => ?_)
  · replace hk := hk.1 c7
    refine px_iload (i := 4) C dX9_latest_161 rfl ?_
    refine px_istore (i := 4) C dX9_latest_163 (by decide) rfl ?_
    refine px_iinc (i := 7) (v := (1 : Int32)) C dX9_latest_165 rfl rfl (by decide) rfl ?_
    refine px_goto (tgt := 12) C dX9_latest_168 (by decide) ?_
    exact PW_at (hR12 _ _ _ _ _ _ _ _ hk) (And.intro rfl (And.intro rfl (And.intro rfl (And.intro rfl (And.intro rfl (And.intro rfl (And.intro rfl (And.intro rfl trivial)))))))) (Nat.le_of_ble_eq_true rfl) (Nat.le_of_ble_eq_true rfl)
  · replace hk := hk.2 c7
    refine px_iload (i := 7) C dX9_latest_156 rfl ?_
    refine px_goto (tgt := 163) C dX9_latest_158 (by decide) ?_
    refine px_istore (i := 4) C dX9_latest_163 (by decide) rfl ?_
    refine px_iinc (i := 7) (v := (1 : Int32)) C dX9_latest_165 rfl rfl (by decide) rfl ?_
    refine px_goto (tgt := 12) C dX9_latest_168 (by decide) ?_
    exact PW_at (hR12 _ _ _ _ _ _ _ _ hk) (And.intro rfl (And.intro rfl (And.intro rfl (And.intro rfl (And.intro rfl (And.intro rfl (And.intro rfl (And.intro rfl trivial)))))))) (Nat.le_of_ble_eq_true rfl) (Nat.le_of_ble_eq_true rfl)
set_option maxRecDepth 100000 in
set_option maxHeartbeats 4000000 in
theorem w9_latest_b121_ok {G : GT} {P : Int32 → Mem → Prop} {X : String → Mem → Prop} (C : PCx G cX9_latest 11 RX9) (hRt : PRt G (some .int) (qI P) X) (hHR : HR G (2)) (hnT : NoT G) {R12 : Mem → Int32 → Int32 → Int32 → Int32 → Int32 → Int32 → Int32 → Prop} (hR12 : ∀ (μ : Mem) (l1 : Int32) (l2 : Int32) (l3 : Int32) (l4 : Int32) (l5 : Int32) (l6 : Int32) (l7 : Int32), R12 μ l1 l2 l3 l4 l5 l6 l7 → PW G 0 0 12 [some (pR 50 0), some (pI l1), some (pI l2), some (pI l3), some (pI l4), some (pI l5), some (pI l6), some (pI l7), none, none, none] [] μ) {μ : Mem} {l1 : Int32} {l2 : Int32} {l3 : Int32} {l4 : Int32} {l5 : Int32} {l6 : Int32} {l7 : Int32} {l8 : Int32} {l9 : Int32} {s0 : Int32} (hk : w9_latest_b121 P R12 μ l1 l2 l3 l4 l5 l6 l7 l8 l9 s0) : PW G 0 0 121 [some (pR 50 0), some (pI l1), some (pI l2), some (pI l3), some (pI l4), some (pI l5), some (pI l6), some (pI l7), some (pI l8), some (pI l9), none] [pI s0] μ := by
  unfold w9_latest_b121 at hk
  refine px_istore (i := 10) C dX9_latest_121 (by decide) rfl ?_
  refine px_iload (i := 10) C dX9_latest_123 rfl ?_
  refine px_if_eq (tgt := 133) C dX9_latest_125 (by decide) (fun c10 => ?_) (fun c10 => ?_)
  · replace hk := hk.1 c10
    refine px_iload (i := 5) C dX9_latest_133 rfl ?_
    refine px_istore (i := 5) C dX9_latest_135 (by decide) rfl ?_
    refine px_iload (i := 10) C dX9_latest_137 rfl ?_
    refine px_if_eq (tgt := 147) C dX9_latest_139 (by decide) (fun c8 => ?_) (fun c8 => ?_)
    · replace hk := hk.1 c8
      refine px_iload (i := 6) C dX9_latest_147 rfl ?_
      exact PW_at (w9_latest_b149_ok C hRt hHR hnT hR12 hk) (And.intro rfl (And.intro rfl (And.intro rfl (And.intro rfl (And.intro rfl (And.intro rfl (And.intro rfl (And.intro rfl trivial)))))))) (Nat.le_of_ble_eq_true rfl) (Nat.le_of_ble_eq_true rfl)
    · replace hk := hk.2 c8
      refine px_iload (i := 9) C dX9_latest_142 rfl ?_
      refine px_goto (tgt := 149) C dX9_latest_144 (by decide) ?_
      exact PW_at (w9_latest_b149_ok C hRt hHR hnT hR12 hk) (And.intro rfl (And.intro rfl (And.intro rfl (And.intro rfl (And.intro rfl (And.intro rfl (And.intro rfl (And.intro rfl trivial)))))))) (Nat.le_of_ble_eq_true rfl) (Nat.le_of_ble_eq_true rfl)
  · replace hk := hk.2 c10
    refine px_iload (i := 8) C dX9_latest_128 rfl ?_
    refine px_goto (tgt := 135) C dX9_latest_130 (by decide) ?_
    refine px_istore (i := 5) C dX9_latest_135 (by decide) rfl ?_
    refine px_iload (i := 10) C dX9_latest_137 rfl ?_
    refine px_if_eq (tgt := 147) C dX9_latest_139 (by decide) (fun c9 => ?_) (fun c9 => ?_)
    · replace hk := hk.1 c9
      refine px_iload (i := 6) C dX9_latest_147 rfl ?_
      exact PW_at (w9_latest_b149_ok C hRt hHR hnT hR12 hk) (And.intro rfl (And.intro rfl (And.intro rfl (And.intro rfl (And.intro rfl (And.intro rfl (And.intro rfl (And.intro rfl trivial)))))))) (Nat.le_of_ble_eq_true rfl) (Nat.le_of_ble_eq_true rfl)
    · replace hk := hk.2 c9
      refine px_iload (i := 9) C dX9_latest_142 rfl ?_
      refine px_goto (tgt := 149) C dX9_latest_144 (by decide) ?_
      exact PW_at (w9_latest_b149_ok C hRt hHR hnT hR12 hk) (And.intro rfl (And.intro rfl (And.intro rfl (And.intro rfl (And.intro rfl (And.intro rfl (And.intro rfl (And.intro rfl trivial)))))))) (Nat.le_of_ble_eq_true rfl) (Nat.le_of_ble_eq_true rfl)
set_option maxRecDepth 100000 in
set_option maxHeartbeats 4000000 in
theorem w9_latest_b12_ok {G : GT} {P : Int32 → Mem → Prop} {X : String → Mem → Prop} (C : PCx G cX9_latest 11 RX9) (hRt : PRt G (some .int) (qI P) X) (hHR : HR G (2)) (hnT : NoT G) {μ : Mem} {l1 : Int32} {l2 : Int32} {l3 : Int32} {l4 : Int32} {l5 : Int32} {l6 : Int32} {l7 : Int32} (hk : w9_latest_b12 P μ l1 l2 l3 l4 l5 l6 l7) : PW G 0 0 12 [some (pR 50 0), some (pI l1), some (pI l2), some (pI l3), some (pI l4), some (pI l5), some (pI l6), some (pI l7), none, none, none] [] μ := by
  refine hk (fun (μ : Mem) (l1 : Int32) (l2 : Int32) (l3 : Int32) (l4 : Int32) (l5 : Int32) (l6 : Int32) (l7 : Int32) => PW G 0 0 12 [some (pR 50 0), some (pI l1), some (pI l2), some (pI l3), some (pI l4), some (pI l5), some (pI l6), some (pI l7), none, none, none] [] μ) (fun (μ : Mem) l1 l2 l3 l4 l5 l6 l7 hk => ?_)
  have hR12 : ∀ (μ : Mem) (l1 : Int32) (l2 : Int32) (l3 : Int32) (l4 : Int32) (l5 : Int32) (l6 : Int32) (l7 : Int32), PW G 0 0 12 [some (pR 50 0), some (pI l1), some (pI l2), some (pI l3), some (pI l4), some (pI l5), some (pI l6), some (pI l7), none, none, none] [] μ → PW G 0 0 12 [some (pR 50 0), some (pI l1), some (pI l2), some (pI l3), some (pI l4), some (pI l5), some (pI l6), some (pI l7), none, none, none] [] μ := fun _ _ _ _ _ _ _ _ h => h
  unfold w9_latest_b12_body at hk
  refine px_iload (i := 7) C dX9_latest_12 rfl ?_
  refine px_aload_n (i := 0) C dX9_latest_14 rfl rfl ?_
  refine px_getr C dX9_latest_15 fl_RX9_7 rfl rfl rfl ?_
  refine px_iconst (v := (0 : Int32)) C dX9_latest_18 rfl ?_
  obtain ⟨o1, hk⟩ := hk
  refine px_iald 3264 C dX9_latest_19 rfl rfl rfl rfl o1 ?_
  refine px_icmp_ge (tgt := 171) C dX9_latest_20 (by decide) (fun c23 => ?_) (fun c23 => ?_)
  · replace hk := hk.1 c23
    refine px_iload (i := 4) C dX9_latest_171 rfl ?_
    exact px_iret C hRt dX9_latest_173 rfl rfl hk
  · replace hk := hk.2 c23
    refine px_aload_n (i := 0) C dX9_latest_23 rfl rfl ?_
    refine px_iload (i := 7) C dX9_latest_24 rfl ?_
    refine px_callVi (h := 1) (rc' := 0) (rs' := 0) C (HR_le hHR (Nat.le_of_ble_eq_true rfl)) hRt hnT dX9_latest_26 (gw9 22 rfl rfl) mv_X9_begin (w9_begin_ok (PCx_l C) (PCx_I C) hk) rfl rfl rfl rfl rfl (Nat.le_of_ble_eq_true rfl) (Nat.le_of_ble_eq_true rfl) (Nat.le_of_ble_eq_true rfl) (Nat.le_of_ble_eq_true rfl) ?_
    intro r3 μ2 hk
    refine px_iload_n (i := 2) C dX9_latest_29 rfl rfl ?_
    refine px_mmax C (HR_le hHR (Nat.le_of_ble_eq_true rfl)) dX9_latest_30 (gw9 142 rfl rfl) math_max (Nat.le_of_ble_eq_true rfl) ?_
    refine px_istore (i := 8) C dX9_latest_33 (by decide) rfl ?_
    refine px_aload_n (i := 0) C dX9_latest_35 rfl rfl ?_
    refine px_iload (i := 7) C dX9_latest_36 rfl ?_
    refine px_callVi (h := 1) (rc' := 0) (rs' := 0) C (HR_le hHR (Nat.le_of_ble_eq_true rfl)) hRt hnT dX9_latest_38 (gw9 26 rfl rfl) mv_X9_end (w9_end_ok (PCx_l C) (PCx_I C) hk) rfl rfl rfl rfl rfl (Nat.le_of_ble_eq_true rfl) (Nat.le_of_ble_eq_true rfl) (Nat.le_of_ble_eq_true rfl) (Nat.le_of_ble_eq_true rfl) ?_
    intro r5 μ4 hk
    refine px_iload_n (i := 3) C dX9_latest_41 rfl rfl ?_
    refine px_mmin C (HR_le hHR (Nat.le_of_ble_eq_true rfl)) dX9_latest_42 (gw9 143 rfl rfl) math_min (Nat.le_of_ble_eq_true rfl) ?_
    refine px_istore (i := 9) C dX9_latest_45 (by decide) rfl ?_
    refine px_aload_n (i := 0) C dX9_latest_47 rfl rfl ?_
    refine px_getr C dX9_latest_48 fl_RX9_47 rfl rfl rfl ?_
    refine px_iload (i := 7) C dX9_latest_51 rfl ?_
    obtain ⟨o6, hk⟩ := hk
    refine px_iald 3968 C dX9_latest_53 rfl rfl rfl rfl o6 ?_
    refine px_iload_n (i := 1) C dX9_latest_54 rfl rfl ?_
    refine px_icmp_ne (tgt := 165) C dX9_latest_55 (by decide) (fun c22 => ?_) (fun c22 => ?_)
    · replace hk := hk.1 c22
      refine px_iinc (i := 7) (v := (1 : Int32)) C dX9_latest_165 rfl rfl (by decide) rfl ?_
      refine px_goto (tgt := 12) C dX9_latest_168 (by decide) ?_
      exact PW_at (hR12 _ _ _ _ _ _ _ _ hk) (And.intro rfl (And.intro rfl (And.intro rfl (And.intro rfl (And.intro rfl (And.intro rfl (And.intro rfl (And.intro rfl trivial)))))))) (Nat.le_of_ble_eq_true rfl) (Nat.le_of_ble_eq_true rfl)
    · replace hk := hk.2 c22
      refine px_iload (i := 9) C dX9_latest_58 rfl ?_
      refine px_iload (i := 8) C dX9_latest_60 rfl ?_
      refine px_icmp_le (tgt := 165) C dX9_latest_62 (by decide) (fun c21 => ?_) (fun c21 => ?_)
      · replace hk := hk.1 c21
        refine px_iinc (i := 7) (v := (1 : Int32)) C dX9_latest_165 rfl rfl (by decide) rfl ?_
        refine px_goto (tgt := 12) C dX9_latest_168 (by decide) ?_
        exact PW_at (hR12 _ _ _ _ _ _ _ _ hk) (And.intro rfl (And.intro rfl (And.intro rfl (And.intro rfl (And.intro rfl (And.intro rfl (And.intro rfl (And.intro rfl trivial)))))))) (Nat.le_of_ble_eq_true rfl) (Nat.le_of_ble_eq_true rfl)
      · replace hk := hk.2 c21
        refine px_iload (i := 4) C dX9_latest_65 rfl ?_
        refine px_iconst (v := (-1 : Int32)) C dX9_latest_67 rfl ?_
        refine px_icmp_eq (tgt := 116) C dX9_latest_68 (by decide) (fun c20 => ?_) (fun c20 => ?_)
        · replace hk := hk.1 c20
          refine px_iconst (v := (1 : Int32)) C dX9_latest_116 rfl ?_
          refine px_goto (tgt := 121) C dX9_latest_117 (by decide) ?_
          exact PW_at (w9_latest_b121_ok C hRt hHR hnT hR12 hk) (And.intro rfl (And.intro rfl (And.intro rfl (And.intro rfl (And.intro rfl (And.intro rfl (And.intro rfl (And.intro rfl (And.intro rfl (And.intro rfl trivial)))))))))) (Nat.le_of_ble_eq_true rfl) (Nat.le_of_ble_eq_true rfl)
        · replace hk := hk.2 c20
          refine px_iload (i := 9) C dX9_latest_71 rfl ?_
          refine px_iload (i := 6) C dX9_latest_73 rfl ?_
          refine px_icmp_gt (tgt := 116) C dX9_latest_75 (by decide) (fun c19 => ?_) (fun c19 => ?_)
          · replace hk := hk.1 c19
            refine px_iconst (v := (1 : Int32)) C dX9_latest_116 rfl ?_
            refine px_goto (tgt := 121) C dX9_latest_117 (by decide) ?_
            exact PW_at (w9_latest_b121_ok C hRt hHR hnT hR12 hk) (And.intro rfl (And.intro rfl (And.intro rfl (And.intro rfl (And.intro rfl (And.intro rfl (And.intro rfl (And.intro rfl (And.intro rfl (And.intro rfl trivial)))))))))) (Nat.le_of_ble_eq_true rfl) (Nat.le_of_ble_eq_true rfl)
          · replace hk := hk.2 c19
            refine px_iload (i := 9) C dX9_latest_78 rfl ?_
            refine px_iload (i := 6) C dX9_latest_80 rfl ?_
            refine px_icmp_ne (tgt := 120) C dX9_latest_82 (by decide) (fun c18 => ?_) (fun c18 => ?_)
            · replace hk := hk.1 c18
              refine px_iconst (v := (0 : Int32)) C dX9_latest_120 rfl ?_
              exact PW_at (w9_latest_b121_ok C hRt hHR hnT hR12 hk) (And.intro rfl (And.intro rfl (And.intro rfl (And.intro rfl (And.intro rfl (And.intro rfl (And.intro rfl (And.intro rfl (And.intro rfl (And.intro rfl trivial)))))))))) (Nat.le_of_ble_eq_true rfl) (Nat.le_of_ble_eq_true rfl)
            · replace hk := hk.2 c18
              refine px_iload (i := 8) C dX9_latest_85 rfl ?_
              refine px_iload (i := 5) C dX9_latest_87 rfl ?_
              refine px_icmp_lt (tgt := 116) C dX9_latest_89 (by decide) (fun c17 => ?_) (fun c17 => ?_)
              · replace hk := hk.1 c17
                refine px_iconst (v := (1 : Int32)) C dX9_latest_116 rfl ?_
                refine px_goto (tgt := 121) C dX9_latest_117 (by decide) ?_
                exact PW_at (w9_latest_b121_ok C hRt hHR hnT hR12 hk) (And.intro rfl (And.intro rfl (And.intro rfl (And.intro rfl (And.intro rfl (And.intro rfl (And.intro rfl (And.intro rfl (And.intro rfl (And.intro rfl trivial)))))))))) (Nat.le_of_ble_eq_true rfl) (Nat.le_of_ble_eq_true rfl)
              · replace hk := hk.2 c17
                refine px_iload (i := 8) C dX9_latest_92 rfl ?_
                refine px_iload (i := 5) C dX9_latest_94 rfl ?_
                refine px_icmp_ne (tgt := 120) C dX9_latest_96 (by decide) (fun c16 => ?_) (fun c16 => ?_)
                · replace hk := hk.1 c16
                  refine px_iconst (v := (0 : Int32)) C dX9_latest_120 rfl ?_
                  exact PW_at (w9_latest_b121_ok C hRt hHR hnT hR12 hk) (And.intro rfl (And.intro rfl (And.intro rfl (And.intro rfl (And.intro rfl (And.intro rfl (And.intro rfl (And.intro rfl (And.intro rfl (And.intro rfl trivial)))))))))) (Nat.le_of_ble_eq_true rfl) (Nat.le_of_ble_eq_true rfl)
                · replace hk := hk.2 c16
                  refine px_aload_n (i := 0) C dX9_latest_99 rfl rfl ?_
                  refine px_iload (i := 7) C dX9_latest_100 rfl ?_
                  refine px_iconst (v := (0 : Int32)) C dX9_latest_102 rfl ?_
                  refine px_callVi (h := 0) (rc' := 0) (rs' := 0) C (HR_le hHR (Nat.le_of_ble_eq_true rfl)) hRt hnT dX9_latest_103 (gw8 152 rfl rfl) mv_X9_of (w9_of_ok (PCx_l C) (PCx_I C) hk) rfl rfl rfl rfl rfl (Nat.le_of_ble_eq_true rfl) (Nat.le_of_ble_eq_true rfl) (Nat.le_of_ble_eq_true rfl) (Nat.le_of_ble_eq_true rfl) ?_
                  intro r12 μ11 hk
                  refine px_aload_n (i := 0) C dX9_latest_106 rfl rfl ?_
                  refine px_iload (i := 4) C dX9_latest_107 rfl ?_
                  refine px_iconst (v := (0 : Int32)) C dX9_latest_109 rfl ?_
                  refine px_callVi (h := 0) (rc' := 0) (rs' := 0) C (HR_le hHR (Nat.le_of_ble_eq_true rfl)) hRt hnT dX9_latest_110 (gw8 152 rfl rfl) mv_X9_of (w9_of_ok (PCx_l C) (PCx_I C) hk) rfl rfl rfl rfl rfl (Nat.le_of_ble_eq_true rfl) (Nat.le_of_ble_eq_true rfl) (Nat.le_of_ble_eq_true rfl) (Nat.le_of_ble_eq_true rfl) ?_
                  intro r14 μ13 hk
                  refine px_icmp_ge (tgt := 120) C dX9_latest_113 (by decide) (fun c15 => ?_) (fun c15 => ?_)
                  · replace hk := hk.1 c15
                    refine px_iconst (v := (0 : Int32)) C dX9_latest_120 rfl ?_
                    exact PW_at (w9_latest_b121_ok C hRt hHR hnT hR12 hk) (And.intro rfl (And.intro rfl (And.intro rfl (And.intro rfl (And.intro rfl (And.intro rfl (And.intro rfl (And.intro rfl (And.intro rfl (And.intro rfl trivial)))))))))) (Nat.le_of_ble_eq_true rfl) (Nat.le_of_ble_eq_true rfl)
                  · replace hk := hk.2 c15
                    refine px_iconst (v := (1 : Int32)) C dX9_latest_116 rfl ?_
                    refine px_goto (tgt := 121) C dX9_latest_117 (by decide) ?_
                    exact PW_at (w9_latest_b121_ok C hRt hHR hnT hR12 hk) (And.intro rfl (And.intro rfl (And.intro rfl (And.intro rfl (And.intro rfl (And.intro rfl (And.intro rfl (And.intro rfl (And.intro rfl (And.intro rfl trivial)))))))))) (Nat.le_of_ble_eq_true rfl) (Nat.le_of_ble_eq_true rfl)
set_option maxRecDepth 100000 in
set_option maxHeartbeats 4000000 in
theorem w9_latest_ok {l : Launch} {idx : List (Nat × Nat)} {μ : Mem} {a1 : Int32} {a2 : Int32} {a3 : Int32} {P : Int32 → Mem → Prop} {X : String → Mem → Prop} (hl : l.stackTraces = false) (hI : IdxOK idx) (hk : w9_latest_wp μ a1 a2 a3 P) : PMet l yX9_latest (.code yX9_latest cX9_latest 11 (some .int)) 2 0 0 idx [pR 50 0, pI a1, pI a2, pI a3] μ (qI P) X := by
  refine PMet_of mv_X9_latest.2.2.2.2.2.2 hl hI mv_X9_latest.2.2.2.1 rfl (Nat.le_of_ble_eq_true rfl) (fun G _ _ C hRt hHR hnT => ?_)
  show PW G 0 0 0 [some (pR 50 0), some (pI a1), some (pI a2), some (pI a3), none, none, none, none, none, none, none] [] μ
  unfold w9_latest_wp at hk
  refine px_iconst (v := (-1 : Int32)) C dX9_latest_0 rfl ?_
  refine px_istore (i := 4) C dX9_latest_1 (by decide) rfl ?_
  refine px_iconst (v := (0 : Int32)) C dX9_latest_3 rfl ?_
  refine px_istore (i := 5) C dX9_latest_4 (by decide) rfl ?_
  refine px_iconst (v := (0 : Int32)) C dX9_latest_6 rfl ?_
  refine px_istore (i := 6) C dX9_latest_7 (by decide) rfl ?_
  refine px_iconst (v := (0 : Int32)) C dX9_latest_9 rfl ?_
  refine px_istore (i := 7) C dX9_latest_10 (by decide) rfl ?_
  exact PW_at (w9_latest_b12_ok C hRt hHR hnT hk) (And.intro rfl (And.intro rfl (And.intro rfl (And.intro rfl (And.intro rfl (And.intro rfl (And.intro rfl (And.intro rfl trivial)))))))) (Nat.le_of_ble_eq_true rfl) (Nat.le_of_ble_eq_true rfl)
theorem dX9_walks_0 : decode cX9_walks 0 = .ok (.iload_n 3, 1) := by decide +kernel
theorem dX9_walks_1 : decode cX9_walks 1 = .ok (.istore 4, 2) := by decide +kernel
theorem dX9_walks_3 : decode cX9_walks 3 = .ok (.iload 4, 2) := by decide +kernel
theorem dX9_walks_5 : decode cX9_walks 5 = .ok (.iload_n 2, 1) := by decide +kernel
theorem dX9_walks_6 : decode cX9_walks 6 = .ok (.if_icmp .le 91, 3) := by decide +kernel
theorem dX9_walks_9 : decode cX9_walks 9 = .ok (.aload_n 0, 1) := by decide +kernel
theorem dX9_walks_10 : decode cX9_walks 10 = .ok (.iload_n 1, 1) := by decide +kernel
theorem dX9_walks_11 : decode cX9_walks 11 = .ok (.iload_n 2, 1) := by decide +kernel
theorem dX9_walks_12 : decode cX9_walks 12 = .ok (.iload 4, 2) := by decide +kernel
theorem dX9_walks_14 : decode cX9_walks 14 = .ok (.invokevirtual 162, 3) := by decide +kernel
theorem dX9_walks_17 : decode cX9_walks 17 = .ok (.istore 5, 2) := by decide +kernel
theorem dX9_walks_19 : decode cX9_walks 19 = .ok (.iload 5, 2) := by decide +kernel
theorem dX9_walks_21 : decode cX9_walks 21 = .ok (.iconst (-1), 1) := by decide +kernel
theorem dX9_walks_22 : decode cX9_walks 22 = .ok (.if_icmp .ne 17, 3) := by decide +kernel
theorem dX9_walks_25 : decode cX9_walks 25 = .ok (.aload_n 0, 1) := by decide +kernel
theorem dX9_walks_26 : decode cX9_walks 26 = .ok (.iload_n 1, 1) := by decide +kernel
theorem dX9_walks_27 : decode cX9_walks 27 = .ok (.iload_n 2, 1) := by decide +kernel
theorem dX9_walks_28 : decode cX9_walks 28 = .ok (.iload 4, 2) := by decide +kernel
theorem dX9_walks_30 : decode cX9_walks 30 = .ok (.invokevirtual 166, 3) := by decide +kernel
theorem dX9_walks_33 : decode cX9_walks 33 = .ok (.iload_n 2, 1) := by decide +kernel
theorem dX9_walks_34 : decode cX9_walks 34 = .ok (.istore 4, 2) := by decide +kernel
theorem dX9_walks_36 : decode cX9_walks 36 = .ok (.goto 58, 3) := by decide +kernel
theorem dX9_walks_39 : decode cX9_walks 39 = .ok (.aload_n 0, 1) := by decide +kernel
theorem dX9_walks_40 : decode cX9_walks 40 = .ok (.iload 5, 2) := by decide +kernel
theorem dX9_walks_42 : decode cX9_walks 42 = .ok (.invokevirtual 131, 3) := by decide +kernel
theorem dX9_walks_45 : decode cX9_walks 45 = .ok (.iload_n 2, 1) := by decide +kernel
theorem dX9_walks_46 : decode cX9_walks 46 = .ok (.invokestatic 156, 3) := by decide +kernel
theorem dX9_walks_49 : decode cX9_walks 49 = .ok (.istore 6, 2) := by decide +kernel
theorem dX9_walks_51 : decode cX9_walks 51 = .ok (.aload_n 0, 1) := by decide +kernel
theorem dX9_walks_52 : decode cX9_walks 52 = .ok (.iload 5, 2) := by decide +kernel
theorem dX9_walks_54 : decode cX9_walks 54 = .ok (.invokevirtual 134, 3) := by decide +kernel
theorem dX9_walks_57 : decode cX9_walks 57 = .ok (.iload 4, 2) := by decide +kernel
theorem dX9_walks_59 : decode cX9_walks 59 = .ok (.invokestatic 159, 3) := by decide +kernel
theorem dX9_walks_62 : decode cX9_walks 62 = .ok (.istore 7, 2) := by decide +kernel
theorem dX9_walks_64 : decode cX9_walks 64 = .ok (.iload 7, 2) := by decide +kernel
theorem dX9_walks_66 : decode cX9_walks 66 = .ok (.iload 4, 2) := by decide +kernel
theorem dX9_walks_68 : decode cX9_walks 68 = .ok (.if_icmp .ge 12, 3) := by decide +kernel
theorem dX9_walks_71 : decode cX9_walks 71 = .ok (.aload_n 0, 1) := by decide +kernel
theorem dX9_walks_72 : decode cX9_walks 72 = .ok (.iload_n 1, 1) := by decide +kernel
theorem dX9_walks_73 : decode cX9_walks 73 = .ok (.iload 7, 2) := by decide +kernel
theorem dX9_walks_75 : decode cX9_walks 75 = .ok (.iload 4, 2) := by decide +kernel
theorem dX9_walks_77 : decode cX9_walks 77 = .ok (.invokevirtual 166, 3) := by decide +kernel
theorem dX9_walks_80 : decode cX9_walks 80 = .ok (.aload_n 0, 1) := by decide +kernel
theorem dX9_walks_81 : decode cX9_walks 81 = .ok (.iload 5, 2) := by decide +kernel
theorem dX9_walks_83 : decode cX9_walks 83 = .ok (.iload 6, 2) := by decide +kernel
theorem dX9_walks_85 : decode cX9_walks 85 = .ok (.iload 7, 2) := by decide +kernel
theorem dX9_walks_87 : decode cX9_walks 87 = .ok (.invokevirtual 170, 3) := by decide +kernel
theorem dX9_walks_90 : decode cX9_walks 90 = .ok (.iload 6, 2) := by decide +kernel
theorem dX9_walks_92 : decode cX9_walks 92 = .ok (.istore 4, 2) := by decide +kernel
theorem dX9_walks_94 : decode cX9_walks 94 = .ok (.goto (-91), 3) := by decide +kernel
theorem dX9_walks_97 : decode cX9_walks 97 = .ok (.return_, 1) := by decide +kernel
set_option maxRecDepth 100000 in
set_option maxHeartbeats 4000000 in
theorem w9_walks_b3_ok {G : GT} {H : Nat} (hH : 3 ≤ H) {SELF : Mem → Int32 → Int32 → Int32 → (Mem → Prop) → Prop} (hSELF : ∀ {l : Launch} {idx : List (Nat × Nat)} {μ : Mem} {a1 : Int32} {a2 : Int32} {a3 : Int32} {P : Mem → Prop} {X : String → Mem → Prop}, l.stackTraces = false → IdxOK idx → SELF μ a1 a2 a3 P → PMet l yX9_walks (.code yX9_walks cX9_walks 8 none) H 0 0 idx [pR 50 0, pI a1, pI a2, pI a3] μ (qV P) X) {P : Mem → Prop} {X : String → Mem → Prop} (C : PCx G cX9_walks 8 RX9) (hRt : PRt G none (qV P) X) (hHR : HR G (H + 1)) (hnT : NoT G) {μ : Mem} {l1 : Int32} {l2 : Int32} {l4 : Int32} (hk : w9_walks_b3 SELF P μ l1 l2 l4) : PW G 0 0 3 [some (pR 50 0), some (pI l1), some (pI l2), none, some (pI l4), none, none, none] [] μ := by
  refine hk (fun (μ : Mem) (l1 : Int32) (l2 : Int32) (l4 : Int32) => PW G 0 0 3 [some (pR 50 0), some (pI l1), some (pI l2), none, some (pI l4), none, none, none] [] μ) (fun (μ : Mem) l1 l2 l4 hk => ?_)
  have hR3 : ∀ (μ : Mem) (l1 : Int32) (l2 : Int32) (l4 : Int32), PW G 0 0 3 [some (pR 50 0), some (pI l1), some (pI l2), none, some (pI l4), none, none, none] [] μ → PW G 0 0 3 [some (pR 50 0), some (pI l1), some (pI l2), none, some (pI l4), none, none, none] [] μ := fun _ _ _ _ h => h
  unfold w9_walks_b3_body at hk
  refine px_iload (i := 4) C dX9_walks_3 rfl ?_
  refine px_iload_n (i := 2) C dX9_walks_5 rfl rfl ?_
  refine px_icmp_le (tgt := 97) C dX9_walks_6 (by decide) (fun c13 => ?_) (fun c13 => ?_)
  · replace hk := hk.1 c13
    exact px_vret C hRt dX9_walks_97 rfl hk
  · replace hk := hk.2 c13
    refine px_aload_n (i := 0) C dX9_walks_9 rfl rfl ?_
    refine px_iload_n (i := 1) C dX9_walks_10 rfl rfl ?_
    refine px_iload_n (i := 2) C dX9_walks_11 rfl rfl ?_
    refine px_iload (i := 4) C dX9_walks_12 rfl ?_
    refine px_callVi (h := 2) (rc' := 0) (rs' := 0) C (HR_le hHR (by omega)) hRt hnT dX9_walks_14 (gw9 138 rfl rfl) mv_X9_latest (w9_latest_ok (PCx_l C) (PCx_I C) hk) rfl rfl rfl rfl rfl (Nat.le_of_ble_eq_true rfl) (Nat.le_of_ble_eq_true rfl) (Nat.le_of_ble_eq_true rfl) (Nat.le_of_ble_eq_true rfl) ?_
    intro r2 μ1 hk
    refine px_istore (i := 5) C dX9_walks_17 (by decide) rfl ?_
    refine px_iload (i := 5) C dX9_walks_19 rfl ?_
    refine px_iconst (v := (-1 : Int32)) C dX9_walks_21 rfl ?_
    refine px_icmp_ne (tgt := 39) C dX9_walks_22 (by decide) (fun c12 => ?_) (fun c12 => ?_)
    · replace hk := hk.1 c12
      refine px_aload_n (i := 0) C dX9_walks_39 rfl rfl ?_
      refine px_iload (i := 5) C dX9_walks_40 rfl ?_
      refine px_callVi (h := 1) (rc' := 0) (rs' := 0) C (HR_le hHR (by omega)) hRt hnT dX9_walks_42 (gw9 22 rfl rfl) mv_X9_begin (w9_begin_ok (PCx_l C) (PCx_I C) hk) rfl rfl rfl rfl rfl (Nat.le_of_ble_eq_true rfl) (Nat.le_of_ble_eq_true rfl) (Nat.le_of_ble_eq_true rfl) (Nat.le_of_ble_eq_true rfl) ?_
      intro r4 μ3 hk
      refine px_iload_n (i := 2) C dX9_walks_45 rfl rfl ?_
      refine px_mmax C (HR_le hHR (by omega)) dX9_walks_46 (gw9 142 rfl rfl) math_max (Nat.le_of_ble_eq_true rfl) ?_
      refine px_istore (i := 6) C dX9_walks_49 (by decide) rfl ?_
      refine px_aload_n (i := 0) C dX9_walks_51 rfl rfl ?_
      refine px_iload (i := 5) C dX9_walks_52 rfl ?_
      refine px_callVi (h := 1) (rc' := 0) (rs' := 0) C (HR_le hHR (by omega)) hRt hnT dX9_walks_54 (gw9 26 rfl rfl) mv_X9_end (w9_end_ok (PCx_l C) (PCx_I C) hk) rfl rfl rfl rfl rfl (Nat.le_of_ble_eq_true rfl) (Nat.le_of_ble_eq_true rfl) (Nat.le_of_ble_eq_true rfl) (Nat.le_of_ble_eq_true rfl) ?_
      intro r6 μ5 hk
      refine px_iload (i := 4) C dX9_walks_57 rfl ?_
      refine px_mmin C (HR_le hHR (by omega)) dX9_walks_59 (gw9 143 rfl rfl) math_min (Nat.le_of_ble_eq_true rfl) ?_
      refine px_istore (i := 7) C dX9_walks_62 (by decide) rfl ?_
      refine px_iload (i := 7) C dX9_walks_64 rfl ?_
      refine px_iload (i := 4) C dX9_walks_66 rfl ?_
      refine px_icmp_ge (tgt := 80) C dX9_walks_68 (by decide) (fun c10 => ?_) (fun c10 => ?_)
      · replace hk := hk.1 c10
        refine px_aload_n (i := 0) C dX9_walks_80 rfl rfl ?_
        refine px_iload (i := 5) C dX9_walks_81 rfl ?_
        refine px_iload (i := 6) C dX9_walks_83 rfl ?_
        refine px_iload (i := 7) C dX9_walks_85 rfl ?_
        refine px_callVv (h := H) (rc' := 0) (rs' := 0) C (HR_le hHR (by omega)) hRt hnT dX9_walks_87 (gw9 134 rfl rfl) mv_X9_walks (hSELF (PCx_l C) (PCx_I C) hk) rfl rfl rfl rfl rfl (Nat.le_of_ble_eq_true rfl) (Nat.le_of_ble_eq_true rfl) (Nat.le_of_ble_eq_true rfl) (Nat.le_of_ble_eq_true rfl) ?_
        intro μ7 hk
        refine px_iload (i := 6) C dX9_walks_90 rfl ?_
        refine px_istore (i := 4) C dX9_walks_92 (by decide) rfl ?_
        refine px_goto (tgt := 3) C dX9_walks_94 (by decide) ?_
        exact PW_at (hR3 _ _ _ _ hk) (And.intro rfl (And.intro rfl (And.intro rfl (And.intro rfl trivial)))) (Nat.le_of_ble_eq_true rfl) (Nat.le_of_ble_eq_true rfl)
      · replace hk := hk.2 c10
        refine px_aload_n (i := 0) C dX9_walks_71 rfl rfl ?_
        refine px_iload_n (i := 1) C dX9_walks_72 rfl rfl ?_
        refine px_iload (i := 7) C dX9_walks_73 rfl ?_
        refine px_iload (i := 4) C dX9_walks_75 rfl ?_
        refine px_callVv (h := 0) (rc' := 0) (rs' := 0) C (HR_le hHR (by omega)) hRt hnT dX9_walks_77 (gw9 144 rfl rfl) mv_X9_adds (w9_adds_ok (PCx_l C) (PCx_I C) hk) rfl rfl rfl rfl rfl (Nat.le_of_ble_eq_true rfl) (Nat.le_of_ble_eq_true rfl) (Nat.le_of_ble_eq_true rfl) (Nat.le_of_ble_eq_true rfl) ?_
        intro μ8 hk
        refine px_aload_n (i := 0) C dX9_walks_80 rfl rfl ?_
        refine px_iload (i := 5) C dX9_walks_81 rfl ?_
        refine px_iload (i := 6) C dX9_walks_83 rfl ?_
        refine px_iload (i := 7) C dX9_walks_85 rfl ?_
        refine px_callVv (h := H) (rc' := 0) (rs' := 0) C (HR_le hHR (by omega)) hRt hnT dX9_walks_87 (gw9 134 rfl rfl) mv_X9_walks (hSELF (PCx_l C) (PCx_I C) hk) rfl rfl rfl rfl rfl (Nat.le_of_ble_eq_true rfl) (Nat.le_of_ble_eq_true rfl) (Nat.le_of_ble_eq_true rfl) (Nat.le_of_ble_eq_true rfl) ?_
        intro μ9 hk
        refine px_iload (i := 6) C dX9_walks_90 rfl ?_
        refine px_istore (i := 4) C dX9_walks_92 (by decide) rfl ?_
        refine px_goto (tgt := 3) C dX9_walks_94 (by decide) ?_
        exact PW_at (hR3 _ _ _ _ hk) (And.intro rfl (And.intro rfl (And.intro rfl (And.intro rfl trivial)))) (Nat.le_of_ble_eq_true rfl) (Nat.le_of_ble_eq_true rfl)
    · replace hk := hk.2 c12
      refine px_aload_n (i := 0) C dX9_walks_25 rfl rfl ?_
      refine px_iload_n (i := 1) C dX9_walks_26 rfl rfl ?_
      refine px_iload_n (i := 2) C dX9_walks_27 rfl rfl ?_
      refine px_iload (i := 4) C dX9_walks_28 rfl ?_
      refine px_callVv (h := 0) (rc' := 0) (rs' := 0) C (HR_le hHR (by omega)) hRt hnT dX9_walks_30 (gw9 144 rfl rfl) mv_X9_adds (w9_adds_ok (PCx_l C) (PCx_I C) hk) rfl rfl rfl rfl rfl (Nat.le_of_ble_eq_true rfl) (Nat.le_of_ble_eq_true rfl) (Nat.le_of_ble_eq_true rfl) (Nat.le_of_ble_eq_true rfl) ?_
      intro μ11 hk
      refine px_iload_n (i := 2) C dX9_walks_33 rfl rfl ?_
      refine px_istore (i := 4) C dX9_walks_34 (by decide) rfl ?_
      refine px_goto (tgt := 94) C dX9_walks_36 (by decide) ?_
      refine px_goto (tgt := 3) C dX9_walks_94 (by decide) ?_
      exact PW_at (hR3 _ _ _ _ hk) (And.intro rfl (And.intro rfl (And.intro rfl (And.intro rfl trivial)))) (Nat.le_of_ble_eq_true rfl) (Nat.le_of_ble_eq_true rfl)
set_option maxRecDepth 100000 in
set_option maxHeartbeats 4000000 in
theorem w9_walks_ok1 {H : Nat} (hH : 3 ≤ H) {SELF : Mem → Int32 → Int32 → Int32 → (Mem → Prop) → Prop} (hSELF : ∀ {l : Launch} {idx : List (Nat × Nat)} {μ : Mem} {a1 : Int32} {a2 : Int32} {a3 : Int32} {P : Mem → Prop} {X : String → Mem → Prop}, l.stackTraces = false → IdxOK idx → SELF μ a1 a2 a3 P → PMet l yX9_walks (.code yX9_walks cX9_walks 8 none) H 0 0 idx [pR 50 0, pI a1, pI a2, pI a3] μ (qV P) X) {l : Launch} {idx : List (Nat × Nat)} {μ : Mem} {a1 : Int32} {a2 : Int32} {a3 : Int32} {P : Mem → Prop} {X : String → Mem → Prop} (hl : l.stackTraces = false) (hI : IdxOK idx) (hk : w9_walks_bd SELF μ a1 a2 a3 P) : PMet l yX9_walks (.code yX9_walks cX9_walks 8 none) (H + 1) 0 0 idx [pR 50 0, pI a1, pI a2, pI a3] μ (qV P) X := by
  refine PMet_of mv_X9_walks.2.2.2.2.2.2 hl hI mv_X9_walks.2.2.2.1 rfl (Nat.le_of_ble_eq_true rfl) (fun G _ _ C hRt hHR hnT => ?_)
  show PW G 0 0 0 [some (pR 50 0), some (pI a1), some (pI a2), some (pI a3), none, none, none, none] [] μ
  unfold w9_walks_bd at hk
  refine px_iload_n (i := 3) C dX9_walks_0 rfl rfl ?_
  refine px_istore (i := 4) C dX9_walks_1 (by decide) rfl ?_
  exact PW_at (w9_walks_b3_ok hH hSELF C hRt hHR hnT hk) (And.intro rfl (And.intro rfl (And.intro rfl (And.intro rfl trivial)))) (Nat.le_of_ble_eq_true rfl) (Nat.le_of_ble_eq_true rfl)
theorem w9_walks_okd : ∀ (d : Nat) {l : Launch} {idx : List (Nat × Nat)} {μ : Mem} {a1 : Int32} {a2 : Int32} {a3 : Int32} {P : Mem → Prop} {X : String → Mem → Prop}, l.stackTraces = false → IdxOK idx → w9_walks_wp d μ a1 a2 a3 P → PMet l yX9_walks (.code yX9_walks cX9_walks 8 none) (3 + d) 0 0 idx [pR 50 0, pI a1, pI a2, pI a3] μ (qV P) X
  | 0, _, _, _, _, _, _, _, _, _, _, hk => hk.elim
  | d + 1, l, idx, μ, a1, a2, a3, P, X, hl, hI, hk => w9_walks_ok1 (H := 3 + d) (by omega) (SELF := w9_walks_wp d) (fun h1 h2 h3 => w9_walks_okd d h1 h2 h3) hl hI hk
theorem w9_walks_ok {l : Launch} {idx : List (Nat × Nat)} {μ : Mem} {a1 : Int32} {a2 : Int32} {a3 : Int32} {P : Mem → Prop} {X : String → Mem → Prop} (hl : l.stackTraces = false) (hI : IdxOK idx) (hk : w9_walks_wp 60 μ a1 a2 a3 P) : PMet l yX9_walks (.code yX9_walks cX9_walks 8 none) 63 0 0 idx [pR 50 0, pI a1, pI a2, pI a3] μ (qV P) X := w9_walks_okd 60 hl hI hk
theorem dX9_path_0 : decode cX9_path 0 = .ok (.aload_n 0, 1) := by decide +kernel
theorem dX9_path_1 : decode cX9_path 1 = .ok (.iconst 0, 1) := by decide +kernel
theorem dX9_path_2 : decode cX9_path 2 = .ok (.putfield 153, 3) := by decide +kernel
theorem dX9_path_5 : decode cX9_path 5 = .ok (.aload_n 0, 1) := by decide +kernel
theorem dX9_path_6 : decode cX9_path 6 = .ok (.iload_n 1, 1) := by decide +kernel
theorem dX9_path_7 : decode cX9_path 7 = .ok (.aload_n 0, 1) := by decide +kernel
theorem dX9_path_8 : decode cX9_path 8 = .ok (.iload_n 1, 1) := by decide +kernel
theorem dX9_path_9 : decode cX9_path 9 = .ok (.invokevirtual 173, 3) := by decide +kernel
theorem dX9_path_12 : decode cX9_path 12 = .ok (.aload_n 0, 1) := by decide +kernel
theorem dX9_path_13 : decode cX9_path 13 = .ok (.iload_n 1, 1) := by decide +kernel
theorem dX9_path_14 : decode cX9_path 14 = .ok (.invokevirtual 176, 3) := by decide +kernel
theorem dX9_path_17 : decode cX9_path 17 = .ok (.invokevirtual 170, 3) := by decide +kernel
theorem dX9_path_20 : decode cX9_path 20 = .ok (.return_, 1) := by decide +kernel
set_option maxRecDepth 100000 in
set_option maxHeartbeats 4000000 in
theorem w9_path_ok {l : Launch} {idx : List (Nat × Nat)} {μ : Mem} {a1 : Int32} {P : Mem → Prop} {X : String → Mem → Prop} (hl : l.stackTraces = false) (hI : IdxOK idx) (hk : w9_path_wp μ a1 P) : PMet l yX9_path (.code yX9_path cX9_path 2 none) 64 0 0 idx [pR 50 0, pI a1] μ (qV P) X := by
  refine PMet_of mv_X9_path.2.2.2.2.2.2 hl hI mv_X9_path.2.2.2.1 rfl (Nat.le_of_ble_eq_true rfl) (fun G _ _ C hRt hHR hnT => ?_)
  show PW G 0 0 0 [some (pR 50 0), some (pI a1)] [] μ
  unfold w9_path_wp at hk
  refine px_aload_n (i := 0) C dX9_path_0 rfl rfl ?_
  refine px_iconst (v := (0 : Int32)) C dX9_path_1 rfl ?_
  replace hk := hk _ rfl
  refine px_puti 3226 C dX9_path_2 fp_RX9_153 rfl rfl rfl rfl rfl rfl ?_
  refine px_aload_n (i := 0) C dX9_path_5 rfl rfl ?_
  refine px_iload_n (i := 1) C dX9_path_6 rfl rfl ?_
  refine px_aload_n (i := 0) C dX9_path_7 rfl rfl ?_
  refine px_iload_n (i := 1) C dX9_path_8 rfl rfl ?_
  refine px_callVi (h := 2) (rc' := 0) (rs' := 0) C (HR_le hHR (Nat.le_of_ble_eq_true rfl)) hRt hnT dX9_path_9 (gw9 118 rfl rfl) mv_X9_nodeBegin (w9_nodeBegin_ok (PCx_l C) (PCx_I C) hk) rfl rfl rfl rfl rfl (Nat.le_of_ble_eq_true rfl) (Nat.le_of_ble_eq_true rfl) (Nat.le_of_ble_eq_true rfl) (Nat.le_of_ble_eq_true rfl) ?_
  intro r3 μ2 hk
  refine px_aload_n (i := 0) C dX9_path_12 rfl rfl ?_
  refine px_iload_n (i := 1) C dX9_path_13 rfl rfl ?_
  refine px_callVi (h := 2) (rc' := 0) (rs' := 0) C (HR_le hHR (Nat.le_of_ble_eq_true rfl)) hRt hnT dX9_path_14 (gw9 114 rfl rfl) mv_X9_nodeEnd (w9_nodeEnd_ok (PCx_l C) (PCx_I C) hk) rfl rfl rfl rfl rfl (Nat.le_of_ble_eq_true rfl) (Nat.le_of_ble_eq_true rfl) (Nat.le_of_ble_eq_true rfl) (Nat.le_of_ble_eq_true rfl) ?_
  intro r5 μ4 hk
  refine px_callVv (h := 63) (rc' := 0) (rs' := 0) C (HR_le hHR (Nat.le_of_ble_eq_true rfl)) hRt hnT dX9_path_17 (gw9 134 rfl rfl) mv_X9_walks (w9_walks_ok (PCx_l C) (PCx_I C) hk) rfl rfl rfl rfl rfl (Nat.le_of_ble_eq_true rfl) (Nat.le_of_ble_eq_true rfl) (Nat.le_of_ble_eq_true rfl) (Nat.le_of_ble_eq_true rfl) ?_
  intro μ6 hk
  exact px_vret C hRt dX9_path_20 rfl hk
theorem dX9_critical_0 : decode cX9_critical 0 = .ok (.aload_n 0, 1) := by decide +kernel
theorem dX9_critical_1 : decode cX9_critical 1 = .ok (.aload_n 0, 1) := by decide +kernel
theorem dX9_critical_2 : decode cX9_critical 2 = .ok (.iload_n 1, 1) := by decide +kernel
theorem dX9_critical_3 : decode cX9_critical 3 = .ok (.invokevirtual 179, 3) := by decide +kernel
theorem dX9_critical_6 : decode cX9_critical 6 = .ok (.invokevirtual 182, 3) := by decide +kernel
theorem dX9_critical_9 : decode cX9_critical 9 = .ok (.iconst 0, 1) := by decide +kernel
theorem dX9_critical_10 : decode cX9_critical 10 = .ok (.istore_n 2, 1) := by decide +kernel
theorem dX9_critical_11 : decode cX9_critical 11 = .ok (.iconst 0, 1) := by decide +kernel
theorem dX9_critical_12 : decode cX9_critical 12 = .ok (.istore_n 3, 1) := by decide +kernel
theorem dX9_critical_13 : decode cX9_critical 13 = .ok (.iload_n 3, 1) := by decide +kernel
theorem dX9_critical_14 : decode cX9_critical 14 = .ok (.aload_n 0, 1) := by decide +kernel
theorem dX9_critical_15 : decode cX9_critical 15 = .ok (.getfield 153, 3) := by decide +kernel
theorem dX9_critical_18 : decode cX9_critical 18 = .ok (.if_icmp .ge 39, 3) := by decide +kernel
theorem dX9_critical_21 : decode cX9_critical 21 = .ok (.iload_n 2, 1) := by decide +kernel
theorem dX9_critical_22 : decode cX9_critical 22 = .ok (.aload_n 0, 1) := by decide +kernel
theorem dX9_critical_23 : decode cX9_critical 23 = .ok (.getfield 59, 3) := by decide +kernel
theorem dX9_critical_26 : decode cX9_critical 26 = .ok (.iload_n 3, 1) := by decide +kernel
theorem dX9_critical_27 : decode cX9_critical 27 = .ok (.iaload, 1) := by decide +kernel
theorem dX9_critical_28 : decode cX9_critical 28 = .ok (.iload_n 1, 1) := by decide +kernel
theorem dX9_critical_29 : decode cX9_critical 29 = .ok (.if_icmp .ne 19, 3) := by decide +kernel
theorem dX9_critical_32 : decode cX9_critical 32 = .ok (.aload_n 0, 1) := by decide +kernel
theorem dX9_critical_33 : decode cX9_critical 33 = .ok (.getfield 65, 3) := by decide +kernel
theorem dX9_critical_36 : decode cX9_critical 36 = .ok (.iload_n 3, 1) := by decide +kernel
theorem dX9_critical_37 : decode cX9_critical 37 = .ok (.iaload, 1) := by decide +kernel
theorem dX9_critical_38 : decode cX9_critical 38 = .ok (.aload_n 0, 1) := by decide +kernel
theorem dX9_critical_39 : decode cX9_critical 39 = .ok (.getfield 62, 3) := by decide +kernel
theorem dX9_critical_42 : decode cX9_critical 42 = .ok (.iload_n 3, 1) := by decide +kernel
theorem dX9_critical_43 : decode cX9_critical 43 = .ok (.iaload, 1) := by decide +kernel
theorem dX9_critical_44 : decode cX9_critical 44 = .ok (.isub, 1) := by decide +kernel
theorem dX9_critical_45 : decode cX9_critical 45 = .ok (.goto 4, 3) := by decide +kernel
theorem dX9_critical_48 : decode cX9_critical 48 = .ok (.iconst 0, 1) := by decide +kernel
theorem dX9_critical_49 : decode cX9_critical 49 = .ok (.iadd, 1) := by decide +kernel
theorem dX9_critical_50 : decode cX9_critical 50 = .ok (.istore_n 2, 1) := by decide +kernel
theorem dX9_critical_51 : decode cX9_critical 51 = .ok (.iinc 3 1, 3) := by decide +kernel
theorem dX9_critical_54 : decode cX9_critical 54 = .ok (.goto (-41), 3) := by decide +kernel
theorem dX9_critical_57 : decode cX9_critical 57 = .ok (.iload_n 2, 1) := by decide +kernel
theorem dX9_critical_58 : decode cX9_critical 58 = .ok (.ireturn, 1) := by decide +kernel
set_option maxRecDepth 100000 in
set_option maxHeartbeats 4000000 in
theorem w9_critical_b13_ok {G : GT} {P : Int32 → Mem → Prop} {X : String → Mem → Prop} (C : PCx G cX9_critical 4 RX9) (hRt : PRt G (some .int) (qI P) X) (hHR : HR G (65)) (hnT : NoT G) {μ : Mem} {l1 : Int32} {l2 : Int32} {l3 : Int32} (hk : w9_critical_b13 P μ l1 l2 l3) : PW G 0 0 13 [some (pR 50 0), some (pI l1), some (pI l2), some (pI l3)] [] μ := by
  refine hk (fun (μ : Mem) (l1 : Int32) (l2 : Int32) (l3 : Int32) => PW G 0 0 13 [some (pR 50 0), some (pI l1), some (pI l2), some (pI l3)] [] μ) (fun (μ : Mem) l1 l2 l3 hk => ?_)
  have hR13 : ∀ (μ : Mem) (l1 : Int32) (l2 : Int32) (l3 : Int32), PW G 0 0 13 [some (pR 50 0), some (pI l1), some (pI l2), some (pI l3)] [] μ → PW G 0 0 13 [some (pR 50 0), some (pI l1), some (pI l2), some (pI l3)] [] μ := fun _ _ _ _ h => h
  unfold w9_critical_b13_body at hk
  refine px_iload_n (i := 3) C dX9_critical_13 rfl rfl ?_
  refine px_aload_n (i := 0) C dX9_critical_14 rfl rfl ?_
  refine px_geti 3226 C dX9_critical_15 fl_RX9_153 rfl rfl rfl rfl ?_
  refine px_icmp_ge (tgt := 57) C dX9_critical_18 (by decide) (fun c8 => ?_) (fun c8 => ?_)
  · replace hk := hk.1 c8
    refine px_iload_n (i := 2) C dX9_critical_57 rfl rfl ?_
    exact px_iret C hRt dX9_critical_58 rfl rfl hk
  · replace hk := hk.2 c8
    refine px_iload_n (i := 2) C dX9_critical_21 rfl rfl ?_
    refine px_aload_n (i := 0) C dX9_critical_22 rfl rfl ?_
    refine px_getr C dX9_critical_23 fl_RX9_59 rfl rfl rfl ?_
    refine px_iload_n (i := 3) C dX9_critical_26 rfl rfl ?_
    obtain ⟨o4, hk⟩ := hk
    refine px_iald 4224 C dX9_critical_27 rfl rfl rfl rfl o4 ?_
    refine px_iload_n (i := 1) C dX9_critical_28 rfl rfl ?_
    refine px_icmp_ne (tgt := 48) C dX9_critical_29 (by decide) (fun c7 => ?_) (fun c7 => ?_)
    · replace hk := hk.1 c7
      refine px_iconst (v := (0 : Int32)) C dX9_critical_48 rfl ?_
      refine px_iadd C dX9_critical_49 ?_
      refine px_istore_n (i := 2) C dX9_critical_50 rfl (by decide) rfl ?_
      refine px_iinc (i := 3) (v := (1 : Int32)) C dX9_critical_51 rfl rfl (by decide) rfl ?_
      refine px_goto (tgt := 13) C dX9_critical_54 (by decide) ?_
      exact PW_at (hR13 _ _ _ _ hk) (And.intro rfl (And.intro rfl (And.intro rfl (And.intro rfl trivial)))) (Nat.le_of_ble_eq_true rfl) (Nat.le_of_ble_eq_true rfl)
    · replace hk := hk.2 c7
      refine px_aload_n (i := 0) C dX9_critical_32 rfl rfl ?_
      refine px_getr C dX9_critical_33 fl_RX9_65 rfl rfl rfl ?_
      refine px_iload_n (i := 3) C dX9_critical_36 rfl rfl ?_
      obtain ⟨o5, hk⟩ := hk
      refine px_iald 4352 C dX9_critical_37 rfl rfl rfl rfl o5 ?_
      refine px_aload_n (i := 0) C dX9_critical_38 rfl rfl ?_
      refine px_getr C dX9_critical_39 fl_RX9_62 rfl rfl rfl ?_
      refine px_iload_n (i := 3) C dX9_critical_42 rfl rfl ?_
      obtain ⟨o6, hk⟩ := hk
      refine px_iald 4288 C dX9_critical_43 rfl rfl rfl rfl o6 ?_
      refine px_isub C dX9_critical_44 ?_
      refine px_goto (tgt := 49) C dX9_critical_45 (by decide) ?_
      refine px_iadd C dX9_critical_49 ?_
      refine px_istore_n (i := 2) C dX9_critical_50 rfl (by decide) rfl ?_
      refine px_iinc (i := 3) (v := (1 : Int32)) C dX9_critical_51 rfl rfl (by decide) rfl ?_
      refine px_goto (tgt := 13) C dX9_critical_54 (by decide) ?_
      exact PW_at (hR13 _ _ _ _ hk) (And.intro rfl (And.intro rfl (And.intro rfl (And.intro rfl trivial)))) (Nat.le_of_ble_eq_true rfl) (Nat.le_of_ble_eq_true rfl)
set_option maxRecDepth 100000 in
set_option maxHeartbeats 4000000 in
theorem w9_critical_ok {l : Launch} {idx : List (Nat × Nat)} {μ : Mem} {a1 : Int32} {P : Int32 → Mem → Prop} {X : String → Mem → Prop} (hl : l.stackTraces = false) (hI : IdxOK idx) (hk : w9_critical_wp μ a1 P) : PMet l yX9_critical (.code yX9_critical cX9_critical 4 (some .int)) 65 0 0 idx [pR 50 0, pI a1] μ (qI P) X := by
  refine PMet_of mv_X9_critical.2.2.2.2.2.2 hl hI mv_X9_critical.2.2.2.1 rfl (Nat.le_of_ble_eq_true rfl) (fun G _ _ C hRt hHR hnT => ?_)
  show PW G 0 0 0 [some (pR 50 0), some (pI a1), none, none] [] μ
  unfold w9_critical_wp at hk
  refine px_aload_n (i := 0) C dX9_critical_0 rfl rfl ?_
  refine px_aload_n (i := 0) C dX9_critical_1 rfl rfl ?_
  refine px_iload_n (i := 1) C dX9_critical_2 rfl rfl ?_
  refine px_callVi (h := 0) (rc' := 0) (rs' := 0) C (HR_le hHR (Nat.le_of_ble_eq_true rfl)) hRt hnT dX9_critical_3 (gw9 42 rfl rfl) mv_X9_rootOf (w9_rootOf_ok (PCx_l C) (PCx_I C) hk) rfl rfl rfl rfl rfl (Nat.le_of_ble_eq_true rfl) (Nat.le_of_ble_eq_true rfl) (Nat.le_of_ble_eq_true rfl) (Nat.le_of_ble_eq_true rfl) ?_
  intro r2 μ1 hk
  refine px_callVv (h := 64) (rc' := 0) (rs' := 0) C (HR_le hHR (Nat.le_of_ble_eq_true rfl)) hRt hnT dX9_critical_6 (gw9 130 rfl rfl) mv_X9_path (w9_path_ok (PCx_l C) (PCx_I C) hk) rfl rfl rfl rfl rfl (Nat.le_of_ble_eq_true rfl) (Nat.le_of_ble_eq_true rfl) (Nat.le_of_ble_eq_true rfl) (Nat.le_of_ble_eq_true rfl) ?_
  intro μ3 hk
  refine px_iconst (v := (0 : Int32)) C dX9_critical_9 rfl ?_
  refine px_istore_n (i := 2) C dX9_critical_10 rfl (by decide) rfl ?_
  refine px_iconst (v := (0 : Int32)) C dX9_critical_11 rfl ?_
  refine px_istore_n (i := 3) C dX9_critical_12 rfl (by decide) rfl ?_
  exact PW_at (w9_critical_b13_ok C hRt hHR hnT hk) (And.intro rfl (And.intro rfl (And.intro rfl (And.intro rfl trivial)))) (Nat.le_of_ble_eq_true rfl) (Nat.le_of_ble_eq_true rfl)
theorem dX9_range_0 : decode cX9_range 0 = .ok (.iload_n 1, 1) := by decide +kernel
theorem dX9_range_1 : decode cX9_range 1 = .ok (.iload_n 2, 1) := by decide +kernel
theorem dX9_range_2 : decode cX9_range 2 = .ok (.if_icmp .lt 4, 3) := by decide +kernel
theorem dX9_range_5 : decode cX9_range 5 = .ok (.return_, 1) := by decide +kernel
theorem dX9_range_6 : decode cX9_range 6 = .ok (.aload_n 0, 1) := by decide +kernel
theorem dX9_range_7 : decode cX9_range 7 = .ok (.getfield 186, 3) := by decide +kernel
theorem dX9_range_10 : decode cX9_range 10 = .ok (.istore_n 3, 1) := by decide +kernel
theorem dX9_range_11 : decode cX9_range 11 = .ok (.iload_n 3, 1) := by decide +kernel
theorem dX9_range_12 : decode cX9_range 12 = .ok (.ifCond .le 49, 3) := by decide +kernel
theorem dX9_range_15 : decode cX9_range 15 = .ok (.aload_n 0, 1) := by decide +kernel
theorem dX9_range_16 : decode cX9_range 16 = .ok (.getfield 68, 3) := by decide +kernel
theorem dX9_range_19 : decode cX9_range 19 = .ok (.iload_n 3, 1) := by decide +kernel
theorem dX9_range_20 : decode cX9_range 20 = .ok (.iconst 1, 1) := by decide +kernel
theorem dX9_range_21 : decode cX9_range 21 = .ok (.isub, 1) := by decide +kernel
theorem dX9_range_22 : decode cX9_range 22 = .ok (.iaload, 1) := by decide +kernel
theorem dX9_range_23 : decode cX9_range 23 = .ok (.iload_n 1, 1) := by decide +kernel
theorem dX9_range_24 : decode cX9_range 24 = .ok (.if_icmp .le 37, 3) := by decide +kernel
theorem dX9_range_27 : decode cX9_range 27 = .ok (.aload_n 0, 1) := by decide +kernel
theorem dX9_range_28 : decode cX9_range 28 = .ok (.getfield 68, 3) := by decide +kernel
theorem dX9_range_31 : decode cX9_range 31 = .ok (.iload_n 3, 1) := by decide +kernel
theorem dX9_range_32 : decode cX9_range 32 = .ok (.aload_n 0, 1) := by decide +kernel
theorem dX9_range_33 : decode cX9_range 33 = .ok (.getfield 68, 3) := by decide +kernel
theorem dX9_range_36 : decode cX9_range 36 = .ok (.iload_n 3, 1) := by decide +kernel
theorem dX9_range_37 : decode cX9_range 37 = .ok (.iconst 1, 1) := by decide +kernel
theorem dX9_range_38 : decode cX9_range 38 = .ok (.isub, 1) := by decide +kernel
theorem dX9_range_39 : decode cX9_range 39 = .ok (.iaload, 1) := by decide +kernel
theorem dX9_range_40 : decode cX9_range 40 = .ok (.iastore, 1) := by decide +kernel
theorem dX9_range_41 : decode cX9_range 41 = .ok (.aload_n 0, 1) := by decide +kernel
theorem dX9_range_42 : decode cX9_range 42 = .ok (.getfield 71, 3) := by decide +kernel
theorem dX9_range_45 : decode cX9_range 45 = .ok (.iload_n 3, 1) := by decide +kernel
theorem dX9_range_46 : decode cX9_range 46 = .ok (.aload_n 0, 1) := by decide +kernel
theorem dX9_range_47 : decode cX9_range 47 = .ok (.getfield 71, 3) := by decide +kernel
theorem dX9_range_50 : decode cX9_range 50 = .ok (.iload_n 3, 1) := by decide +kernel
theorem dX9_range_51 : decode cX9_range 51 = .ok (.iconst 1, 1) := by decide +kernel
theorem dX9_range_52 : decode cX9_range 52 = .ok (.isub, 1) := by decide +kernel
theorem dX9_range_53 : decode cX9_range 53 = .ok (.iaload, 1) := by decide +kernel
theorem dX9_range_54 : decode cX9_range 54 = .ok (.iastore, 1) := by decide +kernel
theorem dX9_range_55 : decode cX9_range 55 = .ok (.iinc 3 (-1), 3) := by decide +kernel
theorem dX9_range_58 : decode cX9_range 58 = .ok (.goto (-47), 3) := by decide +kernel
theorem dX9_range_61 : decode cX9_range 61 = .ok (.aload_n 0, 1) := by decide +kernel
theorem dX9_range_62 : decode cX9_range 62 = .ok (.getfield 68, 3) := by decide +kernel
theorem dX9_range_65 : decode cX9_range 65 = .ok (.iload_n 3, 1) := by decide +kernel
theorem dX9_range_66 : decode cX9_range 66 = .ok (.iload_n 1, 1) := by decide +kernel
theorem dX9_range_67 : decode cX9_range 67 = .ok (.iastore, 1) := by decide +kernel
theorem dX9_range_68 : decode cX9_range 68 = .ok (.aload_n 0, 1) := by decide +kernel
theorem dX9_range_69 : decode cX9_range 69 = .ok (.getfield 71, 3) := by decide +kernel
theorem dX9_range_72 : decode cX9_range 72 = .ok (.iload_n 3, 1) := by decide +kernel
theorem dX9_range_73 : decode cX9_range 73 = .ok (.iload_n 2, 1) := by decide +kernel
theorem dX9_range_74 : decode cX9_range 74 = .ok (.iastore, 1) := by decide +kernel
theorem dX9_range_75 : decode cX9_range 75 = .ok (.aload_n 0, 1) := by decide +kernel
theorem dX9_range_76 : decode cX9_range 76 = .ok (.dup, 1) := by decide +kernel
theorem dX9_range_77 : decode cX9_range 77 = .ok (.getfield 186, 3) := by decide +kernel
theorem dX9_range_80 : decode cX9_range 80 = .ok (.iconst 1, 1) := by decide +kernel
theorem dX9_range_81 : decode cX9_range 81 = .ok (.iadd, 1) := by decide +kernel
theorem dX9_range_82 : decode cX9_range 82 = .ok (.putfield 186, 3) := by decide +kernel
theorem dX9_range_85 : decode cX9_range 85 = .ok (.return_, 1) := by decide +kernel
set_option maxRecDepth 100000 in
set_option maxHeartbeats 4000000 in
theorem w9_range_b61_ok {G : GT} {P : Mem → Prop} {X : String → Mem → Prop} (C : PCx G cX9_range 4 RX9) (hRt : PRt G none (qV P) X) (hHR : HR G (0)) (hnT : NoT G) {μ : Mem} {l1 : Int32} {l2 : Int32} {l3 : Int32} (hk : w9_range_b61 P μ l1 l2 l3) : PW G 0 0 61 [some (pR 50 0), some (pI l1), some (pI l2), some (pI l3)] [] μ := by
  unfold w9_range_b61 at hk
  refine px_aload_n (i := 0) C dX9_range_61 rfl rfl ?_
  refine px_getr C dX9_range_62 fl_RX9_68 rfl rfl rfl ?_
  refine px_iload_n (i := 3) C dX9_range_65 rfl rfl ?_
  refine px_iload_n (i := 1) C dX9_range_66 rfl rfl ?_
  obtain ⟨o1, hk⟩ := hk
  replace hk := hk _ rfl
  refine px_iast 4416 C dX9_range_67 rfl rfl rfl rfl o1 ?_
  refine px_aload_n (i := 0) C dX9_range_68 rfl rfl ?_
  refine px_getr C dX9_range_69 fl_RX9_71 rfl rfl rfl ?_
  refine px_iload_n (i := 3) C dX9_range_72 rfl rfl ?_
  refine px_iload_n (i := 2) C dX9_range_73 rfl rfl ?_
  obtain ⟨o3, hk⟩ := hk
  replace hk := hk _ rfl
  refine px_iast 4480 C dX9_range_74 rfl rfl rfl rfl o3 ?_
  refine px_aload_n (i := 0) C dX9_range_75 rfl rfl ?_
  refine px_dup C dX9_range_76 rfl ?_
  refine px_geti 3229 C dX9_range_77 fl_RX9_186 rfl rfl rfl rfl ?_
  refine px_iconst (v := (1 : Int32)) C dX9_range_80 rfl ?_
  refine px_iadd C dX9_range_81 ?_
  replace hk := hk _ rfl
  refine px_puti 3229 C dX9_range_82 fp_RX9_186 rfl rfl rfl rfl rfl rfl ?_
  exact px_vret C hRt dX9_range_85 rfl hk
set_option maxRecDepth 100000 in
set_option maxHeartbeats 4000000 in
theorem w9_range_b11_ok {G : GT} {P : Mem → Prop} {X : String → Mem → Prop} (C : PCx G cX9_range 4 RX9) (hRt : PRt G none (qV P) X) (hHR : HR G (0)) (hnT : NoT G) {μ : Mem} {l1 : Int32} {l2 : Int32} {l3 : Int32} (hk : w9_range_b11 P μ l1 l2 l3) : PW G 0 0 11 [some (pR 50 0), some (pI l1), some (pI l2), some (pI l3)] [] μ := by
  refine hk (fun (μ : Mem) (l1 : Int32) (l2 : Int32) (l3 : Int32) => PW G 0 0 11 [some (pR 50 0), some (pI l1), some (pI l2), some (pI l3)] [] μ) (fun (μ : Mem) l1 l2 l3 hk => ?_)
  have hR11 : ∀ (μ : Mem) (l1 : Int32) (l2 : Int32) (l3 : Int32), PW G 0 0 11 [some (pR 50 0), some (pI l1), some (pI l2), some (pI l3)] [] μ → PW G 0 0 11 [some (pR 50 0), some (pI l1), some (pI l2), some (pI l3)] [] μ := fun _ _ _ _ h => h
  unfold w9_range_b11_body at hk
  refine px_iload_n (i := 3) C dX9_range_11 rfl rfl ?_
  refine px_if_le (tgt := 61) C dX9_range_12 (by decide) (fun c14 => ?_) (fun c14 => ?_)
  · replace hk := hk.1 c14
    exact PW_at (w9_range_b61_ok C hRt hHR hnT hk) (And.intro rfl (And.intro rfl (And.intro rfl (And.intro rfl trivial)))) (Nat.le_of_ble_eq_true rfl) (Nat.le_of_ble_eq_true rfl)
  · replace hk := hk.2 c14
    refine px_aload_n (i := 0) C dX9_range_15 rfl rfl ?_
    refine px_getr C dX9_range_16 fl_RX9_68 rfl rfl rfl ?_
    refine px_iload_n (i := 3) C dX9_range_19 rfl rfl ?_
    refine px_iconst (v := (1 : Int32)) C dX9_range_20 rfl ?_
    refine px_isub C dX9_range_21 ?_
    obtain ⟨o6, hk⟩ := hk
    refine px_iald 4416 C dX9_range_22 rfl rfl rfl rfl o6 ?_
    refine px_iload_n (i := 1) C dX9_range_23 rfl rfl ?_
    refine px_icmp_le (tgt := 61) C dX9_range_24 (by decide) (fun c13 => ?_) (fun c13 => ?_)
    · replace hk := hk.1 c13
      exact PW_at (w9_range_b61_ok C hRt hHR hnT hk) (And.intro rfl (And.intro rfl (And.intro rfl (And.intro rfl trivial)))) (Nat.le_of_ble_eq_true rfl) (Nat.le_of_ble_eq_true rfl)
    · replace hk := hk.2 c13
      refine px_aload_n (i := 0) C dX9_range_27 rfl rfl ?_
      refine px_getr C dX9_range_28 fl_RX9_68 rfl rfl rfl ?_
      refine px_iload_n (i := 3) C dX9_range_31 rfl rfl ?_
      refine px_aload_n (i := 0) C dX9_range_32 rfl rfl ?_
      refine px_getr C dX9_range_33 fl_RX9_68 rfl rfl rfl ?_
      refine px_iload_n (i := 3) C dX9_range_36 rfl rfl ?_
      refine px_iconst (v := (1 : Int32)) C dX9_range_37 rfl ?_
      refine px_isub C dX9_range_38 ?_
      obtain ⟨o7, hk⟩ := hk
      refine px_iald 4416 C dX9_range_39 rfl rfl rfl rfl o7 ?_
      obtain ⟨o8, hk⟩ := hk
      replace hk := hk _ rfl
      refine px_iast 4416 C dX9_range_40 rfl rfl rfl rfl o8 ?_
      refine px_aload_n (i := 0) C dX9_range_41 rfl rfl ?_
      refine px_getr C dX9_range_42 fl_RX9_71 rfl rfl rfl ?_
      refine px_iload_n (i := 3) C dX9_range_45 rfl rfl ?_
      refine px_aload_n (i := 0) C dX9_range_46 rfl rfl ?_
      refine px_getr C dX9_range_47 fl_RX9_71 rfl rfl rfl ?_
      refine px_iload_n (i := 3) C dX9_range_50 rfl rfl ?_
      refine px_iconst (v := (1 : Int32)) C dX9_range_51 rfl ?_
      refine px_isub C dX9_range_52 ?_
      obtain ⟨o10, hk⟩ := hk
      refine px_iald 4480 C dX9_range_53 rfl rfl rfl rfl o10 ?_
      obtain ⟨o11, hk⟩ := hk
      replace hk := hk _ rfl
      refine px_iast 4480 C dX9_range_54 rfl rfl rfl rfl o11 ?_
      refine px_iinc (i := 3) (v := (-1 : Int32)) C dX9_range_55 rfl rfl (by decide) rfl ?_
      refine px_goto (tgt := 11) C dX9_range_58 (by decide) ?_
      exact PW_at (hR11 _ _ _ _ hk) (And.intro rfl (And.intro rfl (And.intro rfl (And.intro rfl trivial)))) (Nat.le_of_ble_eq_true rfl) (Nat.le_of_ble_eq_true rfl)
set_option maxRecDepth 100000 in
set_option maxHeartbeats 4000000 in
theorem w9_range_ok {l : Launch} {idx : List (Nat × Nat)} {μ : Mem} {a1 : Int32} {a2 : Int32} {P : Mem → Prop} {X : String → Mem → Prop} (hl : l.stackTraces = false) (hI : IdxOK idx) (hk : w9_range_wp μ a1 a2 P) : PMet l yX9_range (.code yX9_range cX9_range 4 none) 0 0 0 idx [pR 50 0, pI a1, pI a2] μ (qV P) X := by
  refine PMet_of mv_X9_range.2.2.2.2.2.2 hl hI mv_X9_range.2.2.2.1 rfl (Nat.le_of_ble_eq_true rfl) (fun G _ _ C hRt hHR hnT => ?_)
  show PW G 0 0 0 [some (pR 50 0), some (pI a1), some (pI a2), none] [] μ
  unfold w9_range_wp at hk
  refine px_iload_n (i := 1) C dX9_range_0 rfl rfl ?_
  refine px_iload_n (i := 2) C dX9_range_1 rfl rfl ?_
  refine px_icmp_lt (tgt := 6) C dX9_range_2 (by decide) (fun c15 => ?_) (fun c15 => ?_)
  · replace hk := hk.1 c15
    refine px_aload_n (i := 0) C dX9_range_6 rfl rfl ?_
    refine px_geti 3229 C dX9_range_7 fl_RX9_186 rfl rfl rfl rfl ?_
    refine px_istore_n (i := 3) C dX9_range_10 rfl (by decide) rfl ?_
    exact PW_at (w9_range_b11_ok C hRt hHR hnT hk) (And.intro rfl (And.intro rfl (And.intro rfl (And.intro rfl trivial)))) (Nat.le_of_ble_eq_true rfl) (Nat.le_of_ble_eq_true rfl)
  · replace hk := hk.2 c15
    exact px_vret C hRt dX9_range_5 rfl hk
theorem dX9_covered_0 : decode cX9_covered 0 = .ok (.iconst 0, 1) := by decide +kernel
theorem dX9_covered_1 : decode cX9_covered 1 = .ok (.istore_n 1, 1) := by decide +kernel
theorem dX9_covered_2 : decode cX9_covered 2 = .ok (.ldc 106, 2) := by decide +kernel
theorem dX9_covered_4 : decode cX9_covered 4 = .ok (.istore_n 2, 1) := by decide +kernel
theorem dX9_covered_5 : decode cX9_covered 5 = .ok (.iconst 0, 1) := by decide +kernel
theorem dX9_covered_6 : decode cX9_covered 6 = .ok (.istore_n 3, 1) := by decide +kernel
theorem dX9_covered_7 : decode cX9_covered 7 = .ok (.iload_n 3, 1) := by decide +kernel
theorem dX9_covered_8 : decode cX9_covered 8 = .ok (.aload_n 0, 1) := by decide +kernel
theorem dX9_covered_9 : decode cX9_covered 9 = .ok (.getfield 186, 3) := by decide +kernel
theorem dX9_covered_12 : decode cX9_covered 12 = .ok (.if_icmp .ge 59, 3) := by decide +kernel
theorem dX9_covered_15 : decode cX9_covered 15 = .ok (.iload_n 2, 1) := by decide +kernel
theorem dX9_covered_16 : decode cX9_covered 16 = .ok (.aload_n 0, 1) := by decide +kernel
theorem dX9_covered_17 : decode cX9_covered 17 = .ok (.getfield 68, 3) := by decide +kernel
theorem dX9_covered_20 : decode cX9_covered 20 = .ok (.iload_n 3, 1) := by decide +kernel
theorem dX9_covered_21 : decode cX9_covered 21 = .ok (.iaload, 1) := by decide +kernel
theorem dX9_covered_22 : decode cX9_covered 22 = .ok (.invokestatic 156, 3) := by decide +kernel
theorem dX9_covered_25 : decode cX9_covered 25 = .ok (.istore 4, 2) := by decide +kernel
theorem dX9_covered_27 : decode cX9_covered 27 = .ok (.iload_n 1, 1) := by decide +kernel
theorem dX9_covered_28 : decode cX9_covered 28 = .ok (.aload_n 0, 1) := by decide +kernel
theorem dX9_covered_29 : decode cX9_covered 29 = .ok (.getfield 71, 3) := by decide +kernel
theorem dX9_covered_32 : decode cX9_covered 32 = .ok (.iload_n 3, 1) := by decide +kernel
theorem dX9_covered_33 : decode cX9_covered 33 = .ok (.iaload, 1) := by decide +kernel
theorem dX9_covered_34 : decode cX9_covered 34 = .ok (.iload 4, 2) := by decide +kernel
theorem dX9_covered_36 : decode cX9_covered 36 = .ok (.if_icmp .le 15, 3) := by decide +kernel
theorem dX9_covered_39 : decode cX9_covered 39 = .ok (.aload_n 0, 1) := by decide +kernel
theorem dX9_covered_40 : decode cX9_covered 40 = .ok (.getfield 71, 3) := by decide +kernel
theorem dX9_covered_43 : decode cX9_covered 43 = .ok (.iload_n 3, 1) := by decide +kernel
theorem dX9_covered_44 : decode cX9_covered 44 = .ok (.iaload, 1) := by decide +kernel
theorem dX9_covered_45 : decode cX9_covered 45 = .ok (.iload 4, 2) := by decide +kernel
theorem dX9_covered_47 : decode cX9_covered 47 = .ok (.isub, 1) := by decide +kernel
theorem dX9_covered_48 : decode cX9_covered 48 = .ok (.goto 4, 3) := by decide +kernel
theorem dX9_covered_51 : decode cX9_covered 51 = .ok (.iconst 0, 1) := by decide +kernel
theorem dX9_covered_52 : decode cX9_covered 52 = .ok (.iadd, 1) := by decide +kernel
theorem dX9_covered_53 : decode cX9_covered 53 = .ok (.istore_n 1, 1) := by decide +kernel
theorem dX9_covered_54 : decode cX9_covered 54 = .ok (.iload_n 2, 1) := by decide +kernel
theorem dX9_covered_55 : decode cX9_covered 55 = .ok (.aload_n 0, 1) := by decide +kernel
theorem dX9_covered_56 : decode cX9_covered 56 = .ok (.getfield 71, 3) := by decide +kernel
theorem dX9_covered_59 : decode cX9_covered 59 = .ok (.iload_n 3, 1) := by decide +kernel
theorem dX9_covered_60 : decode cX9_covered 60 = .ok (.iaload, 1) := by decide +kernel
theorem dX9_covered_61 : decode cX9_covered 61 = .ok (.invokestatic 156, 3) := by decide +kernel
theorem dX9_covered_64 : decode cX9_covered 64 = .ok (.istore_n 2, 1) := by decide +kernel
theorem dX9_covered_65 : decode cX9_covered 65 = .ok (.iinc 3 1, 3) := by decide +kernel
theorem dX9_covered_68 : decode cX9_covered 68 = .ok (.goto (-61), 3) := by decide +kernel
theorem dX9_covered_71 : decode cX9_covered 71 = .ok (.iload_n 1, 1) := by decide +kernel
theorem dX9_covered_72 : decode cX9_covered 72 = .ok (.ireturn, 1) := by decide +kernel
set_option maxRecDepth 100000 in
set_option maxHeartbeats 4000000 in
theorem w9_covered_b52_ok {G : GT} {P : Int32 → Mem → Prop} {X : String → Mem → Prop} (C : PCx G cX9_covered 5 RX9) (hRt : PRt G (some .int) (qI P) X) (hHR : HR G (1)) (hnT : NoT G) {R7 : Mem → Int32 → Int32 → Int32 → Prop} (hR7 : ∀ (μ : Mem) (l1 : Int32) (l2 : Int32) (l3 : Int32), R7 μ l1 l2 l3 → PW G 0 0 7 [some (pR 50 0), some (pI l1), some (pI l2), some (pI l3), none] [] μ) {μ : Mem} {l2 : Int32} {l3 : Int32} {s0 : Int32} {s1 : Int32} (hk : w9_covered_b52 P R7 μ l2 l3 s0 s1) : PW G 0 0 52 [some (pR 50 0), none, some (pI l2), some (pI l3), none] [pI s0, pI s1] μ := by
  unfold w9_covered_b52 at hk
  refine px_iadd C dX9_covered_52 ?_
  refine px_istore_n (i := 1) C dX9_covered_53 rfl (by decide) rfl ?_
  refine px_iload_n (i := 2) C dX9_covered_54 rfl rfl ?_
  refine px_aload_n (i := 0) C dX9_covered_55 rfl rfl ?_
  refine px_getr C dX9_covered_56 fl_RX9_71 rfl rfl rfl ?_
  refine px_iload_n (i := 3) C dX9_covered_59 rfl rfl ?_
  obtain ⟨o3, hk⟩ := hk
  refine px_iald 4480 C dX9_covered_60 rfl rfl rfl rfl o3 ?_
  refine px_mmax C (HR_le hHR (Nat.le_of_ble_eq_true rfl)) dX9_covered_61 (gw9 142 rfl rfl) math_max (Nat.le_of_ble_eq_true rfl) ?_
  refine px_istore_n (i := 2) C dX9_covered_64 rfl (by decide) rfl ?_
  refine px_iinc (i := 3) (v := (1 : Int32)) C dX9_covered_65 rfl rfl (by decide) rfl ?_
  refine px_goto (tgt := 7) C dX9_covered_68 (by decide) ?_
  exact PW_at (hR7 _ _ _ _ hk) (And.intro rfl (And.intro rfl (And.intro rfl (And.intro rfl trivial)))) (Nat.le_of_ble_eq_true rfl) (Nat.le_of_ble_eq_true rfl)
set_option maxRecDepth 100000 in
set_option maxHeartbeats 4000000 in
theorem w9_covered_b7_ok {G : GT} {P : Int32 → Mem → Prop} {X : String → Mem → Prop} (C : PCx G cX9_covered 5 RX9) (hRt : PRt G (some .int) (qI P) X) (hHR : HR G (1)) (hnT : NoT G) {μ : Mem} {l1 : Int32} {l2 : Int32} {l3 : Int32} (hk : w9_covered_b7 P μ l1 l2 l3) : PW G 0 0 7 [some (pR 50 0), some (pI l1), some (pI l2), some (pI l3), none] [] μ := by
  refine hk (fun (μ : Mem) (l1 : Int32) (l2 : Int32) (l3 : Int32) => PW G 0 0 7 [some (pR 50 0), some (pI l1), some (pI l2), some (pI l3), none] [] μ) (fun (μ : Mem) l1 l2 l3 hk => ?_)
  have hR7 : ∀ (μ : Mem) (l1 : Int32) (l2 : Int32) (l3 : Int32), PW G 0 0 7 [some (pR 50 0), some (pI l1), some (pI l2), some (pI l3), none] [] μ → PW G 0 0 7 [some (pR 50 0), some (pI l1), some (pI l2), some (pI l3), none] [] μ := fun _ _ _ _ h => h
  unfold w9_covered_b7_body at hk
  refine px_iload_n (i := 3) C dX9_covered_7 rfl rfl ?_
  refine px_aload_n (i := 0) C dX9_covered_8 rfl rfl ?_
  refine px_geti 3229 C dX9_covered_9 fl_RX9_186 rfl rfl rfl rfl ?_
  refine px_icmp_ge (tgt := 71) C dX9_covered_12 (by decide) (fun c6 => ?_) (fun c6 => ?_)
  · replace hk := hk.1 c6
    refine px_iload_n (i := 1) C dX9_covered_71 rfl rfl ?_
    exact px_iret C hRt dX9_covered_72 rfl rfl hk
  · replace hk := hk.2 c6
    refine px_iload_n (i := 2) C dX9_covered_15 rfl rfl ?_
    refine px_aload_n (i := 0) C dX9_covered_16 rfl rfl ?_
    refine px_getr C dX9_covered_17 fl_RX9_68 rfl rfl rfl ?_
    refine px_iload_n (i := 3) C dX9_covered_20 rfl rfl ?_
    obtain ⟨o1, hk⟩ := hk
    refine px_iald 4416 C dX9_covered_21 rfl rfl rfl rfl o1 ?_
    refine px_mmax C (HR_le hHR (Nat.le_of_ble_eq_true rfl)) dX9_covered_22 (gw9 142 rfl rfl) math_max (Nat.le_of_ble_eq_true rfl) ?_
    refine px_istore (i := 4) C dX9_covered_25 (by decide) rfl ?_
    refine px_iload_n (i := 1) C dX9_covered_27 rfl rfl ?_
    refine px_aload_n (i := 0) C dX9_covered_28 rfl rfl ?_
    refine px_getr C dX9_covered_29 fl_RX9_71 rfl rfl rfl ?_
    refine px_iload_n (i := 3) C dX9_covered_32 rfl rfl ?_
    obtain ⟨o2, hk⟩ := hk
    refine px_iald 4480 C dX9_covered_33 rfl rfl rfl rfl o2 ?_
    refine px_iload (i := 4) C dX9_covered_34 rfl ?_
    refine px_icmp_le (tgt := 51) C dX9_covered_36 (by decide) (fun c5 => ?_) (fun c5 => ?_)
    · replace hk := hk.1 c5
      refine px_iconst (v := (0 : Int32)) C dX9_covered_51 rfl ?_
      exact PW_at (w9_covered_b52_ok C hRt hHR hnT hR7 hk) (And.intro rfl (And.intro rfl (And.intro rfl trivial))) (Nat.le_of_ble_eq_true rfl) (Nat.le_of_ble_eq_true rfl)
    · replace hk := hk.2 c5
      refine px_aload_n (i := 0) C dX9_covered_39 rfl rfl ?_
      refine px_getr C dX9_covered_40 fl_RX9_71 rfl rfl rfl ?_
      refine px_iload_n (i := 3) C dX9_covered_43 rfl rfl ?_
      obtain ⟨o4, hk⟩ := hk
      refine px_iald 4480 C dX9_covered_44 rfl rfl rfl rfl o4 ?_
      refine px_iload (i := 4) C dX9_covered_45 rfl ?_
      refine px_isub C dX9_covered_47 ?_
      refine px_goto (tgt := 52) C dX9_covered_48 (by decide) ?_
      exact PW_at (w9_covered_b52_ok C hRt hHR hnT hR7 hk) (And.intro rfl (And.intro rfl (And.intro rfl trivial))) (Nat.le_of_ble_eq_true rfl) (Nat.le_of_ble_eq_true rfl)
set_option maxRecDepth 100000 in
set_option maxHeartbeats 4000000 in
theorem w9_covered_ok {l : Launch} {idx : List (Nat × Nat)} {μ : Mem} {P : Int32 → Mem → Prop} {X : String → Mem → Prop} (hl : l.stackTraces = false) (hI : IdxOK idx) (hk : w9_covered_wp μ P) : PMet l yX9_covered (.code yX9_covered cX9_covered 5 (some .int)) 1 0 0 idx [pR 50 0] μ (qI P) X := by
  refine PMet_of mv_X9_covered.2.2.2.2.2.2 hl hI mv_X9_covered.2.2.2.1 rfl (Nat.le_of_ble_eq_true rfl) (fun G _ _ C hRt hHR hnT => ?_)
  show PW G 0 0 0 [some (pR 50 0), none, none, none, none] [] μ
  unfold w9_covered_wp at hk
  refine px_iconst (v := (0 : Int32)) C dX9_covered_0 rfl ?_
  refine px_istore_n (i := 1) C dX9_covered_1 rfl (by decide) rfl ?_
  refine px_ldc (v := (-100000000 : Int32)) C dX9_covered_2 (gw8 229 rfl rfl) ?_
  refine px_istore_n (i := 2) C dX9_covered_4 rfl (by decide) rfl ?_
  refine px_iconst (v := (0 : Int32)) C dX9_covered_5 rfl ?_
  refine px_istore_n (i := 3) C dX9_covered_6 rfl (by decide) rfl ?_
  exact PW_at (w9_covered_b7_ok C hRt hHR hnT hk) (And.intro rfl (And.intro rfl (And.intro rfl (And.intro rfl trivial)))) (Nat.le_of_ble_eq_true rfl) (Nat.le_of_ble_eq_true rfl)
