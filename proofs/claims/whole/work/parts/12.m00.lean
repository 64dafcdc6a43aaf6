theorem dX0_countVerdicts_0 : decode cX0_countVerdicts 0 = .ok (.iconst 0, 1) := by decide +kernel
theorem dX0_countVerdicts_1 : decode cX0_countVerdicts 1 = .ok (.istore_n 2, 1) := by decide +kernel
theorem dX0_countVerdicts_2 : decode cX0_countVerdicts 2 = .ok (.iconst 0, 1) := by decide +kernel
theorem dX0_countVerdicts_3 : decode cX0_countVerdicts 3 = .ok (.istore_n 3, 1) := by decide +kernel
theorem dX0_countVerdicts_4 : decode cX0_countVerdicts 4 = .ok (.iload_n 3, 1) := by decide +kernel
theorem dX0_countVerdicts_5 : decode cX0_countVerdicts 5 = .ok (.aload_n 0, 1) := by decide +kernel
theorem dX0_countVerdicts_6 : decode cX0_countVerdicts 6 = .ok (.getfield 26, 3) := by decide +kernel
theorem dX0_countVerdicts_9 : decode cX0_countVerdicts 9 = .ok (.getfield 31, 3) := by decide +kernel
theorem dX0_countVerdicts_12 : decode cX0_countVerdicts 12 = .ok (.if_icmp .ge 24, 3) := by decide +kernel
theorem dX0_countVerdicts_15 : decode cX0_countVerdicts 15 = .ok (.aload_n 0, 1) := by decide +kernel
theorem dX0_countVerdicts_16 : decode cX0_countVerdicts 16 = .ok (.getfield 9, 3) := by decide +kernel
theorem dX0_countVerdicts_19 : decode cX0_countVerdicts 19 = .ok (.iload_n 3, 1) := by decide +kernel
theorem dX0_countVerdicts_20 : decode cX0_countVerdicts 20 = .ok (.invokestatic 49, 3) := by decide +kernel
theorem dX0_countVerdicts_23 : decode cX0_countVerdicts 23 = .ok (.iload_n 1, 1) := by decide +kernel
theorem dX0_countVerdicts_24 : decode cX0_countVerdicts 24 = .ok (.if_icmp .ne 6, 3) := by decide +kernel
theorem dX0_countVerdicts_27 : decode cX0_countVerdicts 27 = .ok (.iinc 2 1, 3) := by decide +kernel
theorem dX0_countVerdicts_30 : decode cX0_countVerdicts 30 = .ok (.iinc 3 1, 3) := by decide +kernel
theorem dX0_countVerdicts_33 : decode cX0_countVerdicts 33 = .ok (.goto (-29), 3) := by decide +kernel
theorem dX0_countVerdicts_36 : decode cX0_countVerdicts 36 = .ok (.iload_n 2, 1) := by decide +kernel
theorem dX0_countVerdicts_37 : decode cX0_countVerdicts 37 = .ok (.ireturn, 1) := by decide +kernel
set_option maxRecDepth 100000 in
set_option maxHeartbeats 4000000 in
theorem w0_countVerdicts_b4_ok {G : GT} {P : Int32 → Mem → Prop} {X : String → Mem → Prop} (C : PCx G cX0_countVerdicts 4 RX0) (hRt : PRt G (some .int) (qI P) X) (hHR : HR G (1)) (hnT : NoT G) {μ : Mem} {l1 : Int32} {l2 : Int32} {l3 : Int32} (hk : w0_countVerdicts_b4 P μ l1 l2 l3) : PW G 0 0 4 [some (pR 12 0), some (pI l1), some (pI l2), some (pI l3)] [] μ := by
  refine hk (fun (μ : Mem) (l1 : Int32) (l2 : Int32) (l3 : Int32) => PW G 0 0 4 [some (pR 12 0), some (pI l1), some (pI l2), some (pI l3)] [] μ) (fun (μ : Mem) l1 l2 l3 hk => ?_)
  have hR4 : ∀ (μ : Mem) (l1 : Int32) (l2 : Int32) (l3 : Int32), PW G 0 0 4 [some (pR 12 0), some (pI l1), some (pI l2), some (pI l3)] [] μ → PW G 0 0 4 [some (pR 12 0), some (pI l1), some (pI l2), some (pI l3)] [] μ := fun _ _ _ _ h => h
  unfold w0_countVerdicts_b4_body at hk
  refine px_iload_n (i := 3) C dX0_countVerdicts_4 rfl rfl ?_
  refine px_aload_n (i := 0) C dX0_countVerdicts_5 rfl rfl ?_
  refine px_getr C dX0_countVerdicts_6 fl_RX0_26 rfl rfl rfl ?_
  refine px_geti 1 C dX0_countVerdicts_9 fl_RX0_31 rfl rfl rfl rfl ?_
  refine px_icmp_ge (tgt := 36) C dX0_countVerdicts_12 (by decide) (fun c3 => ?_) (fun c3 => ?_)
  · replace hk := hk.1 c3
    refine px_iload_n (i := 2) C dX0_countVerdicts_36 rfl rfl ?_
    exact px_iret C hRt dX0_countVerdicts_37 rfl rfl hk
  · replace hk := hk.2 c3
    refine px_aload_n (i := 0) C dX0_countVerdicts_15 rfl rfl ?_
    refine px_getr C dX0_countVerdicts_16 fl_RX0_9 rfl rfl rfl ?_
    refine px_iload_n (i := 3) C dX0_countVerdicts_19 rfl rfl ?_
    obtain ⟨o1, hk⟩ := hk
    refine px_callSNi (h := 0) (rc' := 0) (rs' := 0) C (HR_le hHR (Nat.le_of_ble_eq_true rfl)) hRt hnT dX0_countVerdicts_20 (List.mem_append_right _ (List.mem_append_left _ (List.mem_of_getElem? (i := 5) rfl))) ms_X8_at (at_ok (j := 13) (q := 0) (n := 40) (loc := 832) (PCx_l C) (PCx_I C) rfl rfl rfl o1) rfl rfl (Nat.le_of_ble_eq_true rfl) (Nat.le_of_ble_eq_true rfl) (Nat.le_of_ble_eq_true rfl) (Nat.le_of_ble_eq_true rfl) ?_
    rintro _ _ ⟨rfl, rfl⟩
    refine px_iload_n (i := 1) C dX0_countVerdicts_23 rfl rfl ?_
    refine px_icmp_ne (tgt := 30) C dX0_countVerdicts_24 (by decide) (fun c2 => ?_) (fun c2 => ?_)
    · replace hk := hk.1 c2
      refine px_iinc (i := 3) (v := (1 : Int32)) C dX0_countVerdicts_30 rfl rfl (by decide) rfl ?_
      refine px_goto (tgt := 4) C dX0_countVerdicts_33 (by decide) ?_
      exact PW_at (hR4 _ _ _ _ hk) (And.intro rfl (And.intro rfl (And.intro rfl (And.intro rfl trivial)))) (Nat.le_of_ble_eq_true rfl) (Nat.le_of_ble_eq_true rfl)
    · replace hk := hk.2 c2
      refine px_iinc (i := 2) (v := (1 : Int32)) C dX0_countVerdicts_27 rfl rfl (by decide) rfl ?_
      refine px_iinc (i := 3) (v := (1 : Int32)) C dX0_countVerdicts_30 rfl rfl (by decide) rfl ?_
      refine px_goto (tgt := 4) C dX0_countVerdicts_33 (by decide) ?_
      exact PW_at (hR4 _ _ _ _ hk) (And.intro rfl (And.intro rfl (And.intro rfl (And.intro rfl trivial)))) (Nat.le_of_ble_eq_true rfl) (Nat.le_of_ble_eq_true rfl)
set_option maxRecDepth 100000 in
set_option maxHeartbeats 4000000 in
theorem w0_countVerdicts_ok {l : Launch} {idx : List (Nat × Nat)} {μ : Mem} {a1 : Int32} {P : Int32 → Mem → Prop} {X : String → Mem → Prop} (hl : l.stackTraces = false) (hI : IdxOK idx) (hk : w0_countVerdicts_wp μ a1 P) : PMet l yX0_countVerdicts (.code yX0_countVerdicts cX0_countVerdicts 4 (some .int)) 1 0 0 idx [pR 12 0, pI a1] μ (qI P) X := by
  refine PMet_of mv_X0_countVerdicts.2.2.2.2.2.2 hl hI mv_X0_countVerdicts.2.2.2.1 rfl (Nat.le_of_ble_eq_true rfl) (fun G _ _ C hRt hHR hnT => ?_)
  show PW G 0 0 0 [some (pR 12 0), some (pI a1), none, none] [] μ
  unfold w0_countVerdicts_wp at hk
  refine px_iconst (v := (0 : Int32)) C dX0_countVerdicts_0 rfl ?_
  refine px_istore_n (i := 2) C dX0_countVerdicts_1 rfl (by decide) rfl ?_
  refine px_iconst (v := (0 : Int32)) C dX0_countVerdicts_2 rfl ?_
  refine px_istore_n (i := 3) C dX0_countVerdicts_3 rfl (by decide) rfl ?_
  exact PW_at (w0_countVerdicts_b4_ok C hRt hHR hnT hk) (And.intro rfl (And.intro rfl (And.intro rfl (And.intro rfl trivial)))) (Nat.le_of_ble_eq_true rfl) (Nat.le_of_ble_eq_true rfl)
theorem dX0_mostOf_0 : decode cX0_mostOf 0 = .ok (.iload_n 1, 1) := by decide +kernel
theorem dX0_mostOf_1 : decode cX0_mostOf 1 = .ok (.ifCond .lt 30, 3) := by decide +kernel
theorem dX0_mostOf_4 : decode cX0_mostOf 4 = .ok (.iload_n 1, 1) := by decide +kernel
theorem dX0_mostOf_5 : decode cX0_mostOf 5 = .ok (.bipush 8, 2) := by decide +kernel
theorem dX0_mostOf_7 : decode cX0_mostOf 7 = .ok (.if_icmp .ge 24, 3) := by decide +kernel
theorem dX0_mostOf_10 : decode cX0_mostOf 10 = .ok (.iload_n 2, 1) := by decide +kernel
theorem dX0_mostOf_11 : decode cX0_mostOf 11 = .ok (.ifCond .lt 20, 3) := by decide +kernel
theorem dX0_mostOf_14 : decode cX0_mostOf 14 = .ok (.iload_n 2, 1) := by decide +kernel
theorem dX0_mostOf_15 : decode cX0_mostOf 15 = .ok (.bipush 8, 2) := by decide +kernel
theorem dX0_mostOf_17 : decode cX0_mostOf 17 = .ok (.if_icmp .ge 14, 3) := by decide +kernel
theorem dX0_mostOf_20 : decode cX0_mostOf 20 = .ok (.aload_n 0, 1) := by decide +kernel
theorem dX0_mostOf_21 : decode cX0_mostOf 21 = .ok (.getfield 23, 3) := by decide +kernel
theorem dX0_mostOf_24 : decode cX0_mostOf 24 = .ok (.iload_n 1, 1) := by decide +kernel
theorem dX0_mostOf_25 : decode cX0_mostOf 25 = .ok (.aaload, 1) := by decide +kernel
theorem dX0_mostOf_26 : decode cX0_mostOf 26 = .ok (.iload_n 2, 1) := by decide +kernel
theorem dX0_mostOf_27 : decode cX0_mostOf 27 = .ok (.iaload, 1) := by decide +kernel
theorem dX0_mostOf_28 : decode cX0_mostOf 28 = .ok (.goto 5, 3) := by decide +kernel
theorem dX0_mostOf_31 : decode cX0_mostOf 31 = .ok (.ldc 30, 2) := by decide +kernel
theorem dX0_mostOf_33 : decode cX0_mostOf 33 = .ok (.ireturn, 1) := by decide +kernel
set_option maxRecDepth 100000 in
set_option maxHeartbeats 4000000 in
theorem w0_mostOf_ok {l : Launch} {idx : List (Nat × Nat)} {μ : Mem} {a1 : Int32} {a2 : Int32} {P : Int32 → Mem → Prop} {X : String → Mem → Prop} (hl : l.stackTraces = false) (hI : IdxOK idx) (hk : w0_mostOf_wp μ a1 a2 P) : PMet l yX0_mostOf (.code yX0_mostOf cX0_mostOf 3 (some .int)) 0 0 0 idx [pR 12 0, pI a1, pI a2] μ (qI P) X := by
  refine PMet_of mv_X0_mostOf.2.2.2.2.2.2 hl hI mv_X0_mostOf.2.2.2.1 rfl (Nat.le_of_ble_eq_true rfl) (fun G _ _ C hRt hHR hnT => ?_)
  show PW G 0 0 0 [some (pR 12 0), some (pI a1), some (pI a2)] [] μ
  unfold w0_mostOf_wp at hk
  refine px_iload_n (i := 1) C dX0_mostOf_0 rfl rfl ?_
  refine px_if_lt (tgt := 31) C dX0_mostOf_1 (by decide) (fun c6 => ?_) (fun c6 => ?_)
  · replace hk := hk.1 c6
    refine px_ldc (v := (1000000 : Int32)) C dX0_mostOf_31 (gw2 173 rfl rfl) ?_
    exact px_iret C hRt dX0_mostOf_33 rfl rfl hk
  · replace hk := hk.2 c6
    refine px_iload_n (i := 1) C dX0_mostOf_4 rfl rfl ?_
    refine px_bipush (v := (8 : Int32)) C dX0_mostOf_5 rfl ?_
    refine px_icmp_ge (tgt := 31) C dX0_mostOf_7 (by decide) (fun c5 => ?_) (fun c5 => ?_)
    · replace hk := hk.1 c5
      refine px_ldc (v := (1000000 : Int32)) C dX0_mostOf_31 (gw2 173 rfl rfl) ?_
      exact px_iret C hRt dX0_mostOf_33 rfl rfl hk
    · replace hk := hk.2 c5
      refine px_iload_n (i := 2) C dX0_mostOf_10 rfl rfl ?_
      refine px_if_lt (tgt := 31) C dX0_mostOf_11 (by decide) (fun c4 => ?_) (fun c4 => ?_)
      · replace hk := hk.1 c4
        refine px_ldc (v := (1000000 : Int32)) C dX0_mostOf_31 (gw2 173 rfl rfl) ?_
        exact px_iret C hRt dX0_mostOf_33 rfl rfl hk
      · replace hk := hk.2 c4
        refine px_iload_n (i := 2) C dX0_mostOf_14 rfl rfl ?_
        refine px_bipush (v := (8 : Int32)) C dX0_mostOf_15 rfl ?_
        refine px_icmp_ge (tgt := 31) C dX0_mostOf_17 (by decide) (fun c3 => ?_) (fun c3 => ?_)
        · replace hk := hk.1 c3
          refine px_ldc (v := (1000000 : Int32)) C dX0_mostOf_31 (gw2 173 rfl rfl) ?_
          exact px_iret C hRt dX0_mostOf_33 rfl rfl hk
        · replace hk := hk.2 c3
          refine px_aload_n (i := 0) C dX0_mostOf_20 rfl rfl ?_
          refine px_getr C dX0_mostOf_21 fl_RX0_23 rfl rfl rfl ?_
          refine px_iload_n (i := 1) C dX0_mostOf_24 rfl rfl ?_
          obtain ⟨o1, hk⟩ := hk
          refine px_aald C dX0_mostOf_25 rfl rfl rfl o1 rfl ?_
          refine px_iload_n (i := 2) C dX0_mostOf_26 rfl rfl ?_
          obtain ⟨o2, hk⟩ := hk
          refine px_iald 1088 C dX0_mostOf_27 rfl rfl rfl rfl o2 ?_
          refine px_goto (tgt := 33) C dX0_mostOf_28 (by decide) ?_
          exact px_iret C hRt dX0_mostOf_33 rfl rfl hk
theorem dX0_tighten_0 : decode cX0_tighten 0 = .ok (.aload_n 0, 1) := by decide +kernel
theorem dX0_tighten_1 : decode cX0_tighten 1 = .ok (.iload_n 1, 1) := by decide +kernel
theorem dX0_tighten_2 : decode cX0_tighten 2 = .ok (.iload_n 2, 1) := by decide +kernel
theorem dX0_tighten_3 : decode cX0_tighten 3 = .ok (.invokevirtual 69, 3) := by decide +kernel
theorem dX0_tighten_6 : decode cX0_tighten 6 = .ok (.iload_n 3, 1) := by decide +kernel
theorem dX0_tighten_7 : decode cX0_tighten 7 = .ok (.if_icmp .gt 4, 3) := by decide +kernel
theorem dX0_tighten_10 : decode cX0_tighten 10 = .ok (.return_, 1) := by decide +kernel
theorem dX0_tighten_11 : decode cX0_tighten 11 = .ok (.iconst 0, 1) := by decide +kernel
theorem dX0_tighten_12 : decode cX0_tighten 12 = .ok (.istore 4, 2) := by decide +kernel
theorem dX0_tighten_14 : decode cX0_tighten 14 = .ok (.iload 4, 2) := by decide +kernel
theorem dX0_tighten_16 : decode cX0_tighten 16 = .ok (.bipush 8, 2) := by decide +kernel
theorem dX0_tighten_18 : decode cX0_tighten 18 = .ok (.if_icmp .ge 87, 3) := by decide +kernel
theorem dX0_tighten_21 : decode cX0_tighten 21 = .ok (.iconst 0, 1) := by decide +kernel
theorem dX0_tighten_22 : decode cX0_tighten 22 = .ok (.istore 5, 2) := by decide +kernel
theorem dX0_tighten_24 : decode cX0_tighten 24 = .ok (.iload 5, 2) := by decide +kernel
theorem dX0_tighten_26 : decode cX0_tighten 26 = .ok (.bipush 8, 2) := by decide +kernel
theorem dX0_tighten_28 : decode cX0_tighten 28 = .ok (.if_icmp .ge 71, 3) := by decide +kernel
theorem dX0_tighten_31 : decode cX0_tighten 31 = .ok (.aload_n 0, 1) := by decide +kernel
theorem dX0_tighten_32 : decode cX0_tighten 32 = .ok (.iload 4, 2) := by decide +kernel
theorem dX0_tighten_34 : decode cX0_tighten 34 = .ok (.iload_n 1, 1) := by decide +kernel
theorem dX0_tighten_35 : decode cX0_tighten 35 = .ok (.invokevirtual 69, 3) := by decide +kernel
theorem dX0_tighten_38 : decode cX0_tighten 38 = .ok (.istore 6, 2) := by decide +kernel
theorem dX0_tighten_40 : decode cX0_tighten 40 = .ok (.aload_n 0, 1) := by decide +kernel
theorem dX0_tighten_41 : decode cX0_tighten 41 = .ok (.iload_n 2, 1) := by decide +kernel
theorem dX0_tighten_42 : decode cX0_tighten 42 = .ok (.iload 5, 2) := by decide +kernel
theorem dX0_tighten_44 : decode cX0_tighten 44 = .ok (.invokevirtual 69, 3) := by decide +kernel
theorem dX0_tighten_47 : decode cX0_tighten 47 = .ok (.istore 7, 2) := by decide +kernel
theorem dX0_tighten_49 : decode cX0_tighten 49 = .ok (.iload 6, 2) := by decide +kernel
theorem dX0_tighten_51 : decode cX0_tighten 51 = .ok (.ldc 30, 2) := by decide +kernel
theorem dX0_tighten_53 : decode cX0_tighten 53 = .ok (.if_icmp .eq 40, 3) := by decide +kernel
theorem dX0_tighten_56 : decode cX0_tighten 56 = .ok (.iload 7, 2) := by decide +kernel
theorem dX0_tighten_58 : decode cX0_tighten 58 = .ok (.ldc 30, 2) := by decide +kernel
theorem dX0_tighten_60 : decode cX0_tighten 60 = .ok (.if_icmp .eq 33, 3) := by decide +kernel
theorem dX0_tighten_63 : decode cX0_tighten 63 = .ok (.aload_n 0, 1) := by decide +kernel
theorem dX0_tighten_64 : decode cX0_tighten 64 = .ok (.getfield 23, 3) := by decide +kernel
theorem dX0_tighten_67 : decode cX0_tighten 67 = .ok (.iload 4, 2) := by decide +kernel
theorem dX0_tighten_69 : decode cX0_tighten 69 = .ok (.aaload, 1) := by decide +kernel
theorem dX0_tighten_70 : decode cX0_tighten 70 = .ok (.iload 5, 2) := by decide +kernel
theorem dX0_tighten_72 : decode cX0_tighten 72 = .ok (.aload_n 0, 1) := by decide +kernel
theorem dX0_tighten_73 : decode cX0_tighten 73 = .ok (.getfield 23, 3) := by decide +kernel
theorem dX0_tighten_76 : decode cX0_tighten 76 = .ok (.iload 4, 2) := by decide +kernel
theorem dX0_tighten_78 : decode cX0_tighten 78 = .ok (.aaload, 1) := by decide +kernel
theorem dX0_tighten_79 : decode cX0_tighten 79 = .ok (.iload 5, 2) := by decide +kernel
theorem dX0_tighten_81 : decode cX0_tighten 81 = .ok (.iaload, 1) := by decide +kernel
theorem dX0_tighten_82 : decode cX0_tighten 82 = .ok (.iload 6, 2) := by decide +kernel
theorem dX0_tighten_84 : decode cX0_tighten 84 = .ok (.iload_n 3, 1) := by decide +kernel
theorem dX0_tighten_85 : decode cX0_tighten 85 = .ok (.iadd, 1) := by decide +kernel
theorem dX0_tighten_86 : decode cX0_tighten 86 = .ok (.iload 7, 2) := by decide +kernel
theorem dX0_tighten_88 : decode cX0_tighten 88 = .ok (.iadd, 1) := by decide +kernel
theorem dX0_tighten_89 : decode cX0_tighten 89 = .ok (.invokestatic 77, 3) := by decide +kernel
theorem dX0_tighten_92 : decode cX0_tighten 92 = .ok (.iastore, 1) := by decide +kernel
theorem dX0_tighten_93 : decode cX0_tighten 93 = .ok (.iinc 5 1, 3) := by decide +kernel
theorem dX0_tighten_96 : decode cX0_tighten 96 = .ok (.goto (-72), 3) := by decide +kernel
theorem dX0_tighten_99 : decode cX0_tighten 99 = .ok (.iinc 4 1, 3) := by decide +kernel
theorem dX0_tighten_102 : decode cX0_tighten 102 = .ok (.goto (-88), 3) := by decide +kernel
theorem dX0_tighten_105 : decode cX0_tighten 105 = .ok (.return_, 1) := by decide +kernel
set_option maxRecDepth 100000 in
set_option maxHeartbeats 4000000 in
theorem w0_tighten_b24_ok {G : GT} {P : Mem → Prop} {X : String → Mem → Prop} (C : PCx G cX0_tighten 8 RX0) (hRt : PRt G none (qV P) X) (hHR : HR G (1)) (hnT : NoT G) {R14 : Mem → Int32 → Int32 → Int32 → Int32 → Prop} (hR14 : ∀ (μ : Mem) (l1 : Int32) (l2 : Int32) (l3 : Int32) (l4 : Int32), R14 μ l1 l2 l3 l4 → PW G 0 0 14 [some (pR 12 0), some (pI l1), some (pI l2), some (pI l3), some (pI l4), none, none, none] [] μ) {μ : Mem} {l1 : Int32} {l2 : Int32} {l3 : Int32} {l4 : Int32} {l5 : Int32} (hk : w0_tighten_b24 P R14 μ l1 l2 l3 l4 l5) : PW G 0 0 24 [some (pR 12 0), some (pI l1), some (pI l2), some (pI l3), some (pI l4), some (pI l5), none, none] [] μ := by
  refine hk (fun (μ : Mem) (l1 : Int32) (l2 : Int32) (l3 : Int32) (l4 : Int32) (l5 : Int32) => PW G 0 0 24 [some (pR 12 0), some (pI l1), some (pI l2), some (pI l3), some (pI l4), some (pI l5), none, none] [] μ) (fun (μ : Mem) l1 l2 l3 l4 l5 hk => ?_)
  have hR24 : ∀ (μ : Mem) (l1 : Int32) (l2 : Int32) (l3 : Int32) (l4 : Int32) (l5 : Int32), PW G 0 0 24 [some (pR 12 0), some (pI l1), some (pI l2), some (pI l3), some (pI l4), some (pI l5), none, none] [] μ → PW G 0 0 24 [some (pR 12 0), some (pI l1), some (pI l2), some (pI l3), some (pI l4), some (pI l5), none, none] [] μ := fun _ _ _ _ _ _ h => h
  unfold w0_tighten_b24_body at hk
  refine px_iload (i := 5) C dX0_tighten_24 rfl ?_
  refine px_bipush (v := (8 : Int32)) C dX0_tighten_26 rfl ?_
  refine px_icmp_ge (tgt := 99) C dX0_tighten_28 (by decide) (fun c14 => ?_) (fun c14 => ?_)
  · replace hk := hk.1 c14
    refine px_iinc (i := 4) (v := (1 : Int32)) C dX0_tighten_99 rfl rfl (by decide) rfl ?_
    refine px_goto (tgt := 14) C dX0_tighten_102 (by decide) ?_
    exact PW_at (hR14 _ _ _ _ _ hk) (And.intro rfl (And.intro rfl (And.intro rfl (And.intro rfl (And.intro rfl trivial))))) (Nat.le_of_ble_eq_true rfl) (Nat.le_of_ble_eq_true rfl)
  · replace hk := hk.2 c14
    refine px_aload_n (i := 0) C dX0_tighten_31 rfl rfl ?_
    refine px_iload (i := 4) C dX0_tighten_32 rfl ?_
    refine px_iload_n (i := 1) C dX0_tighten_34 rfl rfl ?_
    obtain ⟨o3, o4, hk⟩ := hk
    refine px_callVi (h := 0) (rc' := 0) (rs' := 0) C (HR_le hHR (Nat.le_of_ble_eq_true rfl)) hRt hnT dX0_tighten_35 (gw2 193 rfl rfl) mv_X0_mostOf (w0_mostOf_ok (PCx_l C) (PCx_I C) (mostOf_in o3 o4)) rfl rfl rfl rfl rfl (Nat.le_of_ble_eq_true rfl) (Nat.le_of_ble_eq_true rfl) (Nat.le_of_ble_eq_true rfl) (Nat.le_of_ble_eq_true rfl) ?_
    rintro _ _ ⟨rfl, rfl⟩
    refine px_istore (i := 6) C dX0_tighten_38 (by decide) rfl ?_
    refine px_aload_n (i := 0) C dX0_tighten_40 rfl rfl ?_
    refine px_iload_n (i := 2) C dX0_tighten_41 rfl rfl ?_
    refine px_iload (i := 5) C dX0_tighten_42 rfl ?_
    obtain ⟨o5, o6, hk⟩ := hk
    refine px_callVi (h := 0) (rc' := 0) (rs' := 0) C (HR_le hHR (Nat.le_of_ble_eq_true rfl)) hRt hnT dX0_tighten_44 (gw2 193 rfl rfl) mv_X0_mostOf (w0_mostOf_ok (PCx_l C) (PCx_I C) (mostOf_in o5 o6)) rfl rfl rfl rfl rfl (Nat.le_of_ble_eq_true rfl) (Nat.le_of_ble_eq_true rfl) (Nat.le_of_ble_eq_true rfl) (Nat.le_of_ble_eq_true rfl) ?_
    rintro _ _ ⟨rfl, rfl⟩
    refine px_istore (i := 7) C dX0_tighten_47 (by decide) rfl ?_
    refine px_iload (i := 6) C dX0_tighten_49 rfl ?_
    refine px_ldc (v := (1000000 : Int32)) C dX0_tighten_51 (gw2 173 rfl rfl) ?_
    refine px_icmp_eq (tgt := 93) C dX0_tighten_53 (by decide) (fun c13 => ?_) (fun c13 => ?_)
    · replace hk := hk.1 c13
      refine px_iinc (i := 5) (v := (1 : Int32)) C dX0_tighten_93 rfl rfl (by decide) rfl ?_
      refine px_goto (tgt := 24) C dX0_tighten_96 (by decide) ?_
      exact PW_at (hR24 _ _ _ _ _ _ hk) (And.intro rfl (And.intro rfl (And.intro rfl (And.intro rfl (And.intro rfl (And.intro rfl trivial)))))) (Nat.le_of_ble_eq_true rfl) (Nat.le_of_ble_eq_true rfl)
    · replace hk := hk.2 c13
      refine px_iload (i := 7) C dX0_tighten_56 rfl ?_
      refine px_ldc (v := (1000000 : Int32)) C dX0_tighten_58 (gw2 173 rfl rfl) ?_
      refine px_icmp_eq (tgt := 93) C dX0_tighten_60 (by decide) (fun c12 => ?_) (fun c12 => ?_)
      · replace hk := hk.1 c12
        refine px_iinc (i := 5) (v := (1 : Int32)) C dX0_tighten_93 rfl rfl (by decide) rfl ?_
        refine px_goto (tgt := 24) C dX0_tighten_96 (by decide) ?_
        exact PW_at (hR24 _ _ _ _ _ _ hk) (And.intro rfl (And.intro rfl (And.intro rfl (And.intro rfl (And.intro rfl (And.intro rfl trivial)))))) (Nat.le_of_ble_eq_true rfl) (Nat.le_of_ble_eq_true rfl)
      · replace hk := hk.2 c12
        refine px_aload_n (i := 0) C dX0_tighten_63 rfl rfl ?_
        refine px_getr C dX0_tighten_64 fl_RX0_23 rfl rfl rfl ?_
        refine px_iload (i := 4) C dX0_tighten_67 rfl ?_
        obtain ⟨o7, hk⟩ := hk
        refine px_aald C dX0_tighten_69 rfl rfl rfl o7 rfl ?_
        refine px_iload (i := 5) C dX0_tighten_70 rfl ?_
        refine px_aload_n (i := 0) C dX0_tighten_72 rfl rfl ?_
        refine px_getr C dX0_tighten_73 fl_RX0_23 rfl rfl rfl ?_
        refine px_iload (i := 4) C dX0_tighten_76 rfl ?_
        obtain ⟨o8, hk⟩ := hk
        refine px_aald C dX0_tighten_78 rfl rfl rfl o8 rfl ?_
        refine px_iload (i := 5) C dX0_tighten_79 rfl ?_
        obtain ⟨o9, hk⟩ := hk
        refine px_iald 1088 C dX0_tighten_81 rfl rfl rfl rfl o9 ?_
        refine px_iload (i := 6) C dX0_tighten_82 rfl ?_
        refine px_iload_n (i := 3) C dX0_tighten_84 rfl rfl ?_
        refine px_iadd C dX0_tighten_85 ?_
        refine px_iload (i := 7) C dX0_tighten_86 rfl ?_
        refine px_iadd C dX0_tighten_88 ?_
        refine px_mmin C (HR_le hHR (Nat.le_of_ble_eq_true rfl)) dX0_tighten_89 (gw2 201 rfl rfl) math_min (Nat.le_of_ble_eq_true rfl) ?_
        obtain ⟨o10, hk⟩ := hk
        replace hk := hk _ rfl
        refine px_iast 1088 C dX0_tighten_92 rfl rfl rfl rfl o10 ?_
        refine px_iinc (i := 5) (v := (1 : Int32)) C dX0_tighten_93 rfl rfl (by decide) rfl ?_
        refine px_goto (tgt := 24) C dX0_tighten_96 (by decide) ?_
        exact PW_at (hR24 _ _ _ _ _ _ hk) (And.intro rfl (And.intro rfl (And.intro rfl (And.intro rfl (And.intro rfl (And.intro rfl trivial)))))) (Nat.le_of_ble_eq_true rfl) (Nat.le_of_ble_eq_true rfl)
set_option maxRecDepth 100000 in
set_option maxHeartbeats 4000000 in
theorem w0_tighten_b14_ok {G : GT} {P : Mem → Prop} {X : String → Mem → Prop} (C : PCx G cX0_tighten 8 RX0) (hRt : PRt G none (qV P) X) (hHR : HR G (1)) (hnT : NoT G) {μ : Mem} {l1 : Int32} {l2 : Int32} {l3 : Int32} {l4 : Int32} (hk : w0_tighten_b14 P μ l1 l2 l3 l4) : PW G 0 0 14 [some (pR 12 0), some (pI l1), some (pI l2), some (pI l3), some (pI l4), none, none, none] [] μ := by
  refine hk (fun (μ : Mem) (l1 : Int32) (l2 : Int32) (l3 : Int32) (l4 : Int32) => PW G 0 0 14 [some (pR 12 0), some (pI l1), some (pI l2), some (pI l3), some (pI l4), none, none, none] [] μ) (fun (μ : Mem) l1 l2 l3 l4 hk => ?_)
  have hR14 : ∀ (μ : Mem) (l1 : Int32) (l2 : Int32) (l3 : Int32) (l4 : Int32), PW G 0 0 14 [some (pR 12 0), some (pI l1), some (pI l2), some (pI l3), some (pI l4), none, none, none] [] μ → PW G 0 0 14 [some (pR 12 0), some (pI l1), some (pI l2), some (pI l3), some (pI l4), none, none, none] [] μ := fun _ _ _ _ _ h => h
  unfold w0_tighten_b14_body at hk
  refine px_iload (i := 4) C dX0_tighten_14 rfl ?_
  refine px_bipush (v := (8 : Int32)) C dX0_tighten_16 rfl ?_
  refine px_icmp_ge (tgt := 105) C dX0_tighten_18 (by decide) (fun c15 => ?_) (fun c15 => ?_)
  · replace hk := hk.1 c15
    exact px_vret C hRt dX0_tighten_105 rfl hk
  · replace hk := hk.2 c15
    refine px_iconst (v := (0 : Int32)) C dX0_tighten_21 rfl ?_
    refine px_istore (i := 5) C dX0_tighten_22 (by decide) rfl ?_
    exact PW_at (w0_tighten_b24_ok C hRt hHR hnT hR14 hk) (And.intro rfl (And.intro rfl (And.intro rfl (And.intro rfl (And.intro rfl (And.intro rfl trivial)))))) (Nat.le_of_ble_eq_true rfl) (Nat.le_of_ble_eq_true rfl)
set_option maxRecDepth 100000 in
set_option maxHeartbeats 4000000 in
theorem w0_tighten_ok {l : Launch} {idx : List (Nat × Nat)} {μ : Mem} {a1 : Int32} {a2 : Int32} {a3 : Int32} {P : Mem → Prop} {X : String → Mem → Prop} (hl : l.stackTraces = false) (hI : IdxOK idx) (hk : w0_tighten_wp μ a1 a2 a3 P) : PMet l yX0_tighten (.code yX0_tighten cX0_tighten 8 none) 1 0 0 idx [pR 12 0, pI a1, pI a2, pI a3] μ (qV P) X := by
  refine PMet_of mv_X0_tighten.2.2.2.2.2.2 hl hI mv_X0_tighten.2.2.2.1 rfl (Nat.le_of_ble_eq_true rfl) (fun G _ _ C hRt hHR hnT => ?_)
  show PW G 0 0 0 [some (pR 12 0), some (pI a1), some (pI a2), some (pI a3), none, none, none, none] [] μ
  unfold w0_tighten_wp at hk
  refine px_aload_n (i := 0) C dX0_tighten_0 rfl rfl ?_
  refine px_iload_n (i := 1) C dX0_tighten_1 rfl rfl ?_
  refine px_iload_n (i := 2) C dX0_tighten_2 rfl rfl ?_
  obtain ⟨o1, o2, hk⟩ := hk
  refine px_callVi (h := 0) (rc' := 0) (rs' := 0) C (HR_le hHR (Nat.le_of_ble_eq_true rfl)) hRt hnT dX0_tighten_3 (gw2 193 rfl rfl) mv_X0_mostOf (w0_mostOf_ok (PCx_l C) (PCx_I C) (mostOf_in o1 o2)) rfl rfl rfl rfl rfl (Nat.le_of_ble_eq_true rfl) (Nat.le_of_ble_eq_true rfl) (Nat.le_of_ble_eq_true rfl) (Nat.le_of_ble_eq_true rfl) ?_
  rintro _ _ ⟨rfl, rfl⟩
  refine px_iload_n (i := 3) C dX0_tighten_6 rfl rfl ?_
  refine px_icmp_gt (tgt := 11) C dX0_tighten_7 (by decide) (fun c16 => ?_) (fun c16 => ?_)
  · replace hk := hk.1 c16
    refine px_iconst (v := (0 : Int32)) C dX0_tighten_11 rfl ?_
    refine px_istore (i := 4) C dX0_tighten_12 (by decide) rfl ?_
    exact PW_at (w0_tighten_b14_ok C hRt hHR hnT hk) (And.intro rfl (And.intro rfl (And.intro rfl (And.intro rfl (And.intro rfl trivial))))) (Nat.le_of_ble_eq_true rfl) (Nat.le_of_ble_eq_true rfl)
  · replace hk := hk.2 c16
    exact px_vret C hRt dX0_tighten_10 rfl hk
theorem dX1_isErrorSource_0 : decode cX1_isErrorSource 0 = .ok (.aload_n 0, 1) := by decide +kernel
theorem dX1_isErrorSource_1 : decode cX1_isErrorSource 1 = .ok (.getfield 9, 3) := by decide +kernel
theorem dX1_isErrorSource_4 : decode cX1_isErrorSource 4 = .ok (.getfield 68, 3) := by decide +kernel
theorem dX1_isErrorSource_7 : decode cX1_isErrorSource 7 = .ok (.iload_n 1, 1) := by decide +kernel
theorem dX1_isErrorSource_8 : decode cX1_isErrorSource 8 = .ok (.invokestatic 72, 3) := by decide +kernel
theorem dX1_isErrorSource_11 : decode cX1_isErrorSource 11 = .ok (.ifCond .eq 21, 3) := by decide +kernel
theorem dX1_isErrorSource_14 : decode cX1_isErrorSource 14 = .ok (.aload_n 0, 1) := by decide +kernel
theorem dX1_isErrorSource_15 : decode cX1_isErrorSource 15 = .ok (.getfield 15, 3) := by decide +kernel
theorem dX1_isErrorSource_18 : decode cX1_isErrorSource 18 = .ok (.getfield 76, 3) := by decide +kernel
theorem dX1_isErrorSource_21 : decode cX1_isErrorSource 21 = .ok (.iload_n 1, 1) := by decide +kernel
theorem dX1_isErrorSource_22 : decode cX1_isErrorSource 22 = .ok (.invokestatic 72, 3) := by decide +kernel
theorem dX1_isErrorSource_25 : decode cX1_isErrorSource 25 = .ok (.ifCond .ne 7, 3) := by decide +kernel
theorem dX1_isErrorSource_28 : decode cX1_isErrorSource 28 = .ok (.iconst 1, 1) := by decide +kernel
theorem dX1_isErrorSource_29 : decode cX1_isErrorSource 29 = .ok (.goto 4, 3) := by decide +kernel
theorem dX1_isErrorSource_32 : decode cX1_isErrorSource 32 = .ok (.iconst 0, 1) := by decide +kernel
theorem dX1_isErrorSource_33 : decode cX1_isErrorSource 33 = .ok (.ireturn, 1) := by decide +kernel
set_option maxRecDepth 100000 in
set_option maxHeartbeats 4000000 in
theorem w1_isErrorSource_ok {l : Launch} {idx : List (Nat × Nat)} {μ : Mem} {a1 : Int32} {P : Int32 → Mem → Prop} {X : String → Mem → Prop} (hl : l.stackTraces = false) (hI : IdxOK idx) (hk : w1_isErrorSource_wp μ a1 P) : PMet l yX1_isErrorSource (.code yX1_isErrorSource cX1_isErrorSource 2 (some .boolean)) 1 0 0 idx [pR 34 0, pI a1] μ (qI P) X := by
  refine PMet_of mv_X1_isErrorSource.2.2.2.2.2.2 hl hI mv_X1_isErrorSource.2.2.2.1 rfl (Nat.le_of_ble_eq_true rfl) (fun G _ _ C hRt hHR hnT => ?_)
  show PW G 0 0 0 [some (pR 34 0), some (pI a1)] [] μ
  unfold w1_isErrorSource_wp at hk
  refine px_aload_n (i := 0) C dX1_isErrorSource_0 rfl rfl ?_
  refine px_getr C dX1_isErrorSource_1 fl_RX1_9 rfl rfl rfl ?_
  refine px_getr C dX1_isErrorSource_4 fl_RX1_68 rfl rfl rfl ?_
  refine px_iload_n (i := 1) C dX1_isErrorSource_7 rfl rfl ?_
  obtain ⟨o1, hk⟩ := hk
  refine px_callSNi (h := 0) (rc' := 0) (rs' := 0) C (HR_le hHR (Nat.le_of_ble_eq_true rfl)) hRt hnT dX1_isErrorSource_8 (List.mem_append_right _ (List.mem_append_left _ (List.mem_of_getElem? (i := 21) rfl))) ms_X8_flagAt (flagAt_ok (j := 7) (q := 0) (n := 40) (loc := 448) (PCx_l C) (PCx_I C) rfl rfl rfl o1) rfl rfl (Nat.le_of_ble_eq_true rfl) (Nat.le_of_ble_eq_true rfl) (Nat.le_of_ble_eq_true rfl) (Nat.le_of_ble_eq_true rfl) ?_
  rintro _ _ ⟨rfl, rfl⟩
  refine px_if_eq (tgt := 32) C dX1_isErrorSource_11 (by decide) (fun c4 => ?_) (fun c4 => ?_)
  · replace hk := hk.1 (fz_1 c4)
    refine px_iconst (v := (0 : Int32)) C dX1_isErrorSource_32 rfl ?_
    exact px_iret C hRt dX1_isErrorSource_33 rfl rfl hk
  · replace hk := hk.2 (fz_2 c4)
    refine px_aload_n (i := 0) C dX1_isErrorSource_14 rfl rfl ?_
    refine px_getr C dX1_isErrorSource_15 fl_RX1_15 rfl rfl rfl ?_
    refine px_getr C dX1_isErrorSource_18 fl_RX1_76 rfl rfl rfl ?_
    refine px_iload_n (i := 1) C dX1_isErrorSource_21 rfl rfl ?_
    obtain ⟨o2, hk⟩ := hk
    refine px_callSNi (h := 0) (rc' := 0) (rs' := 0) C (HR_le hHR (Nat.le_of_ble_eq_true rfl)) hRt hnT dX1_isErrorSource_22 (List.mem_append_right _ (List.mem_append_left _ (List.mem_of_getElem? (i := 21) rfl))) ms_X8_flagAt (flagAt_ok (j := 25) (q := 0) (n := 40) (loc := 1600) (PCx_l C) (PCx_I C) rfl rfl rfl o2) rfl rfl (Nat.le_of_ble_eq_true rfl) (Nat.le_of_ble_eq_true rfl) (Nat.le_of_ble_eq_true rfl) (Nat.le_of_ble_eq_true rfl) ?_
    rintro _ _ ⟨rfl, rfl⟩
    refine px_if_ne (tgt := 32) C dX1_isErrorSource_25 (by decide) (fun c3 => ?_) (fun c3 => ?_)
    · replace hk := hk.1 (fz_2 c3)
      refine px_iconst (v := (0 : Int32)) C dX1_isErrorSource_32 rfl ?_
      exact px_iret C hRt dX1_isErrorSource_33 rfl rfl hk
    · replace hk := hk.2 (fz_1 c3)
      refine px_iconst (v := (1 : Int32)) C dX1_isErrorSource_28 rfl ?_
      refine px_goto (tgt := 33) C dX1_isErrorSource_29 (by decide) ?_
      exact px_iret C hRt dX1_isErrorSource_33 rfl rfl hk
theorem dX1_errorSourceAt_0 : decode cX1_errorSourceAt 0 = .ok (.iconst 0, 1) := by decide +kernel
theorem dX1_errorSourceAt_1 : decode cX1_errorSourceAt 1 = .ok (.istore_n 3, 1) := by decide +kernel
theorem dX1_errorSourceAt_2 : decode cX1_errorSourceAt 2 = .ok (.iconst 0, 1) := by decide +kernel
theorem dX1_errorSourceAt_3 : decode cX1_errorSourceAt 3 = .ok (.istore 4, 2) := by decide +kernel
theorem dX1_errorSourceAt_5 : decode cX1_errorSourceAt 5 = .ok (.iload 4, 2) := by decide +kernel
theorem dX1_errorSourceAt_7 : decode cX1_errorSourceAt 7 = .ok (.aload_n 0, 1) := by decide +kernel
theorem dX1_errorSourceAt_8 : decode cX1_errorSourceAt 8 = .ok (.getfield 9, 3) := by decide +kernel
theorem dX1_errorSourceAt_11 : decode cX1_errorSourceAt 11 = .ok (.getfield 39, 3) := by decide +kernel
theorem dX1_errorSourceAt_14 : decode cX1_errorSourceAt 14 = .ok (.if_icmp .ge 59, 3) := by decide +kernel
theorem dX1_errorSourceAt_17 : decode cX1_errorSourceAt 17 = .ok (.aload_n 0, 1) := by decide +kernel
theorem dX1_errorSourceAt_18 : decode cX1_errorSourceAt 18 = .ok (.getfield 15, 3) := by decide +kernel
theorem dX1_errorSourceAt_21 : decode cX1_errorSourceAt 21 = .ok (.getfield 43, 3) := by decide +kernel
theorem dX1_errorSourceAt_24 : decode cX1_errorSourceAt 24 = .ok (.iload 4, 2) := by decide +kernel
theorem dX1_errorSourceAt_26 : decode cX1_errorSourceAt 26 = .ok (.invokestatic 35, 3) := by decide +kernel
theorem dX1_errorSourceAt_29 : decode cX1_errorSourceAt 29 = .ok (.istore 5, 2) := by decide +kernel
theorem dX1_errorSourceAt_31 : decode cX1_errorSourceAt 31 = .ok (.aload_n 0, 1) := by decide +kernel
theorem dX1_errorSourceAt_32 : decode cX1_errorSourceAt 32 = .ok (.getfield 9, 3) := by decide +kernel
theorem dX1_errorSourceAt_35 : decode cX1_errorSourceAt 35 = .ok (.getfield 46, 3) := by decide +kernel
theorem dX1_errorSourceAt_38 : decode cX1_errorSourceAt 38 = .ok (.iload 5, 2) := by decide +kernel
theorem dX1_errorSourceAt_40 : decode cX1_errorSourceAt 40 = .ok (.invokestatic 35, 3) := by decide +kernel
theorem dX1_errorSourceAt_43 : decode cX1_errorSourceAt 43 = .ok (.iload_n 1, 1) := by decide +kernel
theorem dX1_errorSourceAt_44 : decode cX1_errorSourceAt 44 = .ok (.if_icmp .ne 23, 3) := by decide +kernel
theorem dX1_errorSourceAt_47 : decode cX1_errorSourceAt 47 = .ok (.aload_n 0, 1) := by decide +kernel
theorem dX1_errorSourceAt_48 : decode cX1_errorSourceAt 48 = .ok (.iload 5, 2) := by decide +kernel
theorem dX1_errorSourceAt_50 : decode cX1_errorSourceAt 50 = .ok (.invokevirtual 79, 3) := by decide +kernel
theorem dX1_errorSourceAt_53 : decode cX1_errorSourceAt 53 = .ok (.ifCond .eq 14, 3) := by decide +kernel
theorem dX1_errorSourceAt_56 : decode cX1_errorSourceAt 56 = .ok (.iload_n 3, 1) := by decide +kernel
theorem dX1_errorSourceAt_57 : decode cX1_errorSourceAt 57 = .ok (.iload_n 2, 1) := by decide +kernel
theorem dX1_errorSourceAt_58 : decode cX1_errorSourceAt 58 = .ok (.if_icmp .ne 6, 3) := by decide +kernel
theorem dX1_errorSourceAt_61 : decode cX1_errorSourceAt 61 = .ok (.iload 5, 2) := by decide +kernel
theorem dX1_errorSourceAt_63 : decode cX1_errorSourceAt 63 = .ok (.ireturn, 1) := by decide +kernel
theorem dX1_errorSourceAt_64 : decode cX1_errorSourceAt 64 = .ok (.iinc 3 1, 3) := by decide +kernel
theorem dX1_errorSourceAt_67 : decode cX1_errorSourceAt 67 = .ok (.iinc 4 1, 3) := by decide +kernel
theorem dX1_errorSourceAt_70 : decode cX1_errorSourceAt 70 = .ok (.goto (-65), 3) := by decide +kernel
theorem dX1_errorSourceAt_73 : decode cX1_errorSourceAt 73 = .ok (.iconst (-1), 1) := by decide +kernel
theorem dX1_errorSourceAt_74 : decode cX1_errorSourceAt 74 = .ok (.ireturn, 1) := by decide +kernel
set_option maxRecDepth 100000 in
set_option maxHeartbeats 4000000 in
theorem w1_errorSourceAt_b5_ok {G : GT} {P : Int32 → Mem → Prop} {X : String → Mem → Prop} (C : PCx G cX1_errorSourceAt 6 RX1) (hRt : PRt G (some .int) (qI P) X) (hHR : HR G (2)) (hnT : NoT G) {μ : Mem} {l1 : Int32} {l2 : Int32} {l3 : Int32} {l4 : Int32} (hk : w1_errorSourceAt_b5 P μ l1 l2 l3 l4) : PW G 0 0 5 [some (pR 34 0), some (pI l1), some (pI l2), some (pI l3), some (pI l4), none] [] μ := by
  refine hk (fun (μ : Mem) (l1 : Int32) (l2 : Int32) (l3 : Int32) (l4 : Int32) => PW G 0 0 5 [some (pR 34 0), some (pI l1), some (pI l2), some (pI l3), some (pI l4), none] [] μ) (fun (μ : Mem) l1 l2 l3 l4 hk => ?_)
  have hR5 : ∀ (μ : Mem) (l1 : Int32) (l2 : Int32) (l3 : Int32) (l4 : Int32), PW G 0 0 5 [some (pR 34 0), some (pI l1), some (pI l2), some (pI l3), some (pI l4), none] [] μ → PW G 0 0 5 [some (pR 34 0), some (pI l1), some (pI l2), some (pI l3), some (pI l4), none] [] μ := fun _ _ _ _ _ h => h
  unfold w1_errorSourceAt_b5_body at hk
  refine px_iload (i := 4) C dX1_errorSourceAt_5 rfl ?_
  refine px_aload_n (i := 0) C dX1_errorSourceAt_7 rfl rfl ?_
  refine px_getr C dX1_errorSourceAt_8 fl_RX1_9 rfl rfl rfl ?_
  refine px_geti 1 C dX1_errorSourceAt_11 fl_RX1_39 rfl rfl rfl rfl ?_
  refine px_icmp_ge (tgt := 73) C dX1_errorSourceAt_14 (by decide) (fun c8 => ?_) (fun c8 => ?_)
  · replace hk := hk.1 c8
    refine px_iconst (v := (-1 : Int32)) C dX1_errorSourceAt_73 rfl ?_
    exact px_iret C hRt dX1_errorSourceAt_74 rfl rfl hk
  · replace hk := hk.2 c8
    refine px_aload_n (i := 0) C dX1_errorSourceAt_17 rfl rfl ?_
    refine px_getr C dX1_errorSourceAt_18 fl_RX1_15 rfl rfl rfl ?_
    refine px_getr C dX1_errorSourceAt_21 fl_RX1_43 rfl rfl rfl ?_
    refine px_iload (i := 4) C dX1_errorSourceAt_24 rfl ?_
    obtain ⟨o1, hk⟩ := hk
    refine px_callSNi (h := 0) (rc' := 0) (rs' := 0) C (HR_le hHR (Nat.le_of_ble_eq_true rfl)) hRt hnT dX1_errorSourceAt_26 (List.mem_append_right _ (List.mem_append_left _ (List.mem_of_getElem? (i := 20) rfl))) ms_X8_at (at_ok (j := 26) (q := 0) (n := 40) (loc := 1664) (PCx_l C) (PCx_I C) rfl rfl rfl o1) rfl rfl (Nat.le_of_ble_eq_true rfl) (Nat.le_of_ble_eq_true rfl) (Nat.le_of_ble_eq_true rfl) (Nat.le_of_ble_eq_true rfl) ?_
    rintro _ _ ⟨rfl, rfl⟩
    refine px_istore (i := 5) C dX1_errorSourceAt_29 (by decide) rfl ?_
    refine px_aload_n (i := 0) C dX1_errorSourceAt_31 rfl rfl ?_
    refine px_getr C dX1_errorSourceAt_32 fl_RX1_9 rfl rfl rfl ?_
    refine px_getr C dX1_errorSourceAt_35 fl_RX1_46 rfl rfl rfl ?_
    refine px_iload (i := 5) C dX1_errorSourceAt_38 rfl ?_
    obtain ⟨o2, hk⟩ := hk
    refine px_callSNi (h := 0) (rc' := 0) (rs' := 0) C (HR_le hHR (Nat.le_of_ble_eq_true rfl)) hRt hnT dX1_errorSourceAt_40 (List.mem_append_right _ (List.mem_append_left _ (List.mem_of_getElem? (i := 20) rfl))) ms_X8_at (at_ok (j := 1) (q := 0) (n := 40) (loc := 64) (PCx_l C) (PCx_I C) rfl rfl rfl o2) rfl rfl (Nat.le_of_ble_eq_true rfl) (Nat.le_of_ble_eq_true rfl) (Nat.le_of_ble_eq_true rfl) (Nat.le_of_ble_eq_true rfl) ?_
    rintro _ _ ⟨rfl, rfl⟩
    refine px_iload_n (i := 1) C dX1_errorSourceAt_43 rfl rfl ?_
    refine px_icmp_ne (tgt := 67) C dX1_errorSourceAt_44 (by decide) (fun c7 => ?_) (fun c7 => ?_)
    · replace hk := hk.1 c7
      refine px_iinc (i := 4) (v := (1 : Int32)) C dX1_errorSourceAt_67 rfl rfl (by decide) rfl ?_
      refine px_goto (tgt := 5) C dX1_errorSourceAt_70 (by decide) ?_
      exact PW_at (hR5 _ _ _ _ _ hk) (And.intro rfl (And.intro rfl (And.intro rfl (And.intro rfl (And.intro rfl trivial))))) (Nat.le_of_ble_eq_true rfl) (Nat.le_of_ble_eq_true rfl)
    · replace hk := hk.2 c7
      refine px_aload_n (i := 0) C dX1_errorSourceAt_47 rfl rfl ?_
      refine px_iload (i := 5) C dX1_errorSourceAt_48 rfl ?_
      refine px_callVi (h := 1) (rc' := 0) (rs' := 0) C (HR_le hHR (Nat.le_of_ble_eq_true rfl)) hRt hnT dX1_errorSourceAt_50 (gw5 117 rfl rfl) mv_X1_isErrorSource (w1_isErrorSource_ok (PCx_l C) (PCx_I C) hk) rfl rfl rfl rfl rfl (Nat.le_of_ble_eq_true rfl) (Nat.le_of_ble_eq_true rfl) (Nat.le_of_ble_eq_true rfl) (Nat.le_of_ble_eq_true rfl) ?_
      intro r4 μ3 hk
      refine px_if_eq (tgt := 67) C dX1_errorSourceAt_53 (by decide) (fun c6 => ?_) (fun c6 => ?_)
      · replace hk := hk.1 c6
        refine px_iinc (i := 4) (v := (1 : Int32)) C dX1_errorSourceAt_67 rfl rfl (by decide) rfl ?_
        refine px_goto (tgt := 5) C dX1_errorSourceAt_70 (by decide) ?_
        exact PW_at (hR5 _ _ _ _ _ hk) (And.intro rfl (And.intro rfl (And.intro rfl (And.intro rfl (And.intro rfl trivial))))) (Nat.le_of_ble_eq_true rfl) (Nat.le_of_ble_eq_true rfl)
      · replace hk := hk.2 c6
        refine px_iload_n (i := 3) C dX1_errorSourceAt_56 rfl rfl ?_
        refine px_iload_n (i := 2) C dX1_errorSourceAt_57 rfl rfl ?_
        refine px_icmp_ne (tgt := 64) C dX1_errorSourceAt_58 (by decide) (fun c5 => ?_) (fun c5 => ?_)
        · replace hk := hk.1 c5
          refine px_iinc (i := 3) (v := (1 : Int32)) C dX1_errorSourceAt_64 rfl rfl (by decide) rfl ?_
          refine px_iinc (i := 4) (v := (1 : Int32)) C dX1_errorSourceAt_67 rfl rfl (by decide) rfl ?_
          refine px_goto (tgt := 5) C dX1_errorSourceAt_70 (by decide) ?_
          exact PW_at (hR5 _ _ _ _ _ hk) (And.intro rfl (And.intro rfl (And.intro rfl (And.intro rfl (And.intro rfl trivial))))) (Nat.le_of_ble_eq_true rfl) (Nat.le_of_ble_eq_true rfl)
        · replace hk := hk.2 c5
          refine px_iload (i := 5) C dX1_errorSourceAt_61 rfl ?_
          exact px_iret C hRt dX1_errorSourceAt_63 rfl rfl hk
set_option maxRecDepth 100000 in
set_option maxHeartbeats 4000000 in
theorem w1_errorSourceAt_ok {l : Launch} {idx : List (Nat × Nat)} {μ : Mem} {a1 : Int32} {a2 : Int32} {P : Int32 → Mem → Prop} {X : String → Mem → Prop} (hl : l.stackTraces = false) (hI : IdxOK idx) (hk : w1_errorSourceAt_wp μ a1 a2 P) : PMet l yX1_errorSourceAt (.code yX1_errorSourceAt cX1_errorSourceAt 6 (some .int)) 2 0 0 idx [pR 34 0, pI a1, pI a2] μ (qI P) X := by
  refine PMet_of mv_X1_errorSourceAt.2.2.2.2.2.2 hl hI mv_X1_errorSourceAt.2.2.2.1 rfl (Nat.le_of_ble_eq_true rfl) (fun G _ _ C hRt hHR hnT => ?_)
  show PW G 0 0 0 [some (pR 34 0), some (pI a1), some (pI a2), none, none, none] [] μ
  unfold w1_errorSourceAt_wp at hk
  refine px_iconst (v := (0 : Int32)) C dX1_errorSourceAt_0 rfl ?_
  refine px_istore_n (i := 3) C dX1_errorSourceAt_1 rfl (by decide) rfl ?_
  refine px_iconst (v := (0 : Int32)) C dX1_errorSourceAt_2 rfl ?_
  refine px_istore (i := 4) C dX1_errorSourceAt_3 (by decide) rfl ?_
  exact PW_at (w1_errorSourceAt_b5_ok C hRt hHR hnT hk) (And.intro rfl (And.intro rfl (And.intro rfl (And.intro rfl (And.intro rfl trivial))))) (Nat.le_of_ble_eq_true rfl) (Nat.le_of_ble_eq_true rfl)
theorem dX1_spansOf_0 : decode cX1_spansOf 0 = .ok (.iconst 0, 1) := by decide +kernel
theorem dX1_spansOf_1 : decode cX1_spansOf 1 = .ok (.istore_n 2, 1) := by decide +kernel
theorem dX1_spansOf_2 : decode cX1_spansOf 2 = .ok (.iconst 0, 1) := by decide +kernel
theorem dX1_spansOf_3 : decode cX1_spansOf 3 = .ok (.istore_n 3, 1) := by decide +kernel
theorem dX1_spansOf_4 : decode cX1_spansOf 4 = .ok (.iload_n 3, 1) := by decide +kernel
theorem dX1_spansOf_5 : decode cX1_spansOf 5 = .ok (.aload_n 0, 1) := by decide +kernel
theorem dX1_spansOf_6 : decode cX1_spansOf 6 = .ok (.getfield 9, 3) := by decide +kernel
theorem dX1_spansOf_9 : decode cX1_spansOf 9 = .ok (.getfield 39, 3) := by decide +kernel
theorem dX1_spansOf_12 : decode cX1_spansOf 12 = .ok (.if_icmp .ge 27, 3) := by decide +kernel
theorem dX1_spansOf_15 : decode cX1_spansOf 15 = .ok (.aload_n 0, 1) := by decide +kernel
theorem dX1_spansOf_16 : decode cX1_spansOf 16 = .ok (.getfield 9, 3) := by decide +kernel
theorem dX1_spansOf_19 : decode cX1_spansOf 19 = .ok (.getfield 46, 3) := by decide +kernel
theorem dX1_spansOf_22 : decode cX1_spansOf 22 = .ok (.iload_n 3, 1) := by decide +kernel
theorem dX1_spansOf_23 : decode cX1_spansOf 23 = .ok (.invokestatic 35, 3) := by decide +kernel
theorem dX1_spansOf_26 : decode cX1_spansOf 26 = .ok (.iload_n 1, 1) := by decide +kernel
theorem dX1_spansOf_27 : decode cX1_spansOf 27 = .ok (.if_icmp .ne 6, 3) := by decide +kernel
theorem dX1_spansOf_30 : decode cX1_spansOf 30 = .ok (.iinc 2 1, 3) := by decide +kernel
theorem dX1_spansOf_33 : decode cX1_spansOf 33 = .ok (.iinc 3 1, 3) := by decide +kernel
theorem dX1_spansOf_36 : decode cX1_spansOf 36 = .ok (.goto (-32), 3) := by decide +kernel
theorem dX1_spansOf_39 : decode cX1_spansOf 39 = .ok (.iload_n 2, 1) := by decide +kernel
theorem dX1_spansOf_40 : decode cX1_spansOf 40 = .ok (.ireturn, 1) := by decide +kernel
set_option maxRecDepth 100000 in
set_option maxHeartbeats 4000000 in
theorem w1_spansOf_b4_ok {G : GT} {P : Int32 → Mem → Prop} {X : String → Mem → Prop} (C : PCx G cX1_spansOf 4 RX1) (hRt : PRt G (some .int) (qI P) X) (hHR : HR G (1)) (hnT : NoT G) {μ : Mem} {l1 : Int32} {l2 : Int32} {l3 : Int32} (hk : w1_spansOf_b4 P μ l1 l2 l3) : PW G 0 0 4 [some (pR 34 0), some (pI l1), some (pI l2), some (pI l3)] [] μ := by
  refine hk (fun (μ : Mem) (l1 : Int32) (l2 : Int32) (l3 : Int32) => PW G 0 0 4 [some (pR 34 0), some (pI l1), some (pI l2), some (pI l3)] [] μ) (fun (μ : Mem) l1 l2 l3 hk => ?_)
  have hR4 : ∀ (μ : Mem) (l1 : Int32) (l2 : Int32) (l3 : Int32), PW G 0 0 4 [some (pR 34 0), some (pI l1), some (pI l2), some (pI l3)] [] μ → PW G 0 0 4 [some (pR 34 0), some (pI l1), some (pI l2), some (pI l3)] [] μ := fun _ _ _ _ h => h
  unfold w1_spansOf_b4_body at hk
  refine px_iload_n (i := 3) C dX1_spansOf_4 rfl rfl ?_
  refine px_aload_n (i := 0) C dX1_spansOf_5 rfl rfl ?_
  refine px_getr C dX1_spansOf_6 fl_RX1_9 rfl rfl rfl ?_
  refine px_geti 1 C dX1_spansOf_9 fl_RX1_39 rfl rfl rfl rfl ?_
  refine px_icmp_ge (tgt := 39) C dX1_spansOf_12 (by decide) (fun c3 => ?_) (fun c3 => ?_)
  · replace hk := hk.1 c3
    refine px_iload_n (i := 2) C dX1_spansOf_39 rfl rfl ?_
    exact px_iret C hRt dX1_spansOf_40 rfl rfl hk
  · replace hk := hk.2 c3
    refine px_aload_n (i := 0) C dX1_spansOf_15 rfl rfl ?_
    refine px_getr C dX1_spansOf_16 fl_RX1_9 rfl rfl rfl ?_
    refine px_getr C dX1_spansOf_19 fl_RX1_46 rfl rfl rfl ?_
    refine px_iload_n (i := 3) C dX1_spansOf_22 rfl rfl ?_
    obtain ⟨o1, hk⟩ := hk
    refine px_callSNi (h := 0) (rc' := 0) (rs' := 0) C (HR_le hHR (Nat.le_of_ble_eq_true rfl)) hRt hnT dX1_spansOf_23 (List.mem_append_right _ (List.mem_append_left _ (List.mem_of_getElem? (i := 20) rfl))) ms_X8_at (at_ok (j := 1) (q := 0) (n := 40) (loc := 64) (PCx_l C) (PCx_I C) rfl rfl rfl o1) rfl rfl (Nat.le_of_ble_eq_true rfl) (Nat.le_of_ble_eq_true rfl) (Nat.le_of_ble_eq_true rfl) (Nat.le_of_ble_eq_true rfl) ?_
    rintro _ _ ⟨rfl, rfl⟩
    refine px_iload_n (i := 1) C dX1_spansOf_26 rfl rfl ?_
    refine px_icmp_ne (tgt := 33) C dX1_spansOf_27 (by decide) (fun c2 => ?_) (fun c2 => ?_)
    · replace hk := hk.1 c2
      refine px_iinc (i := 3) (v := (1 : Int32)) C dX1_spansOf_33 rfl rfl (by decide) rfl ?_
      refine px_goto (tgt := 4) C dX1_spansOf_36 (by decide) ?_
      exact PW_at (hR4 _ _ _ _ hk) (And.intro rfl (And.intro rfl (And.intro rfl (And.intro rfl trivial)))) (Nat.le_of_ble_eq_true rfl) (Nat.le_of_ble_eq_true rfl)
    · replace hk := hk.2 c2
      refine px_iinc (i := 2) (v := (1 : Int32)) C dX1_spansOf_30 rfl rfl (by decide) rfl ?_
      refine px_iinc (i := 3) (v := (1 : Int32)) C dX1_spansOf_33 rfl rfl (by decide) rfl ?_
      refine px_goto (tgt := 4) C dX1_spansOf_36 (by decide) ?_
      exact PW_at (hR4 _ _ _ _ hk) (And.intro rfl (And.intro rfl (And.intro rfl (And.intro rfl trivial)))) (Nat.le_of_ble_eq_true rfl) (Nat.le_of_ble_eq_true rfl)
set_option maxRecDepth 100000 in
set_option maxHeartbeats 4000000 in
theorem w1_spansOf_ok {l : Launch} {idx : List (Nat × Nat)} {μ : Mem} {a1 : Int32} {P : Int32 → Mem → Prop} {X : String → Mem → Prop} (hl : l.stackTraces = false) (hI : IdxOK idx) (hk : w1_spansOf_wp μ a1 P) : PMet l yX1_spansOf (.code yX1_spansOf cX1_spansOf 4 (some .int)) 1 0 0 idx [pR 34 0, pI a1] μ (qI P) X := by
  refine PMet_of mv_X1_spansOf.2.2.2.2.2.2 hl hI mv_X1_spansOf.2.2.2.1 rfl (Nat.le_of_ble_eq_true rfl) (fun G _ _ C hRt hHR hnT => ?_)
  show PW G 0 0 0 [some (pR 34 0), some (pI a1), none, none] [] μ
  unfold w1_spansOf_wp at hk
  refine px_iconst (v := (0 : Int32)) C dX1_spansOf_0 rfl ?_
  refine px_istore_n (i := 2) C dX1_spansOf_1 rfl (by decide) rfl ?_
  refine px_iconst (v := (0 : Int32)) C dX1_spansOf_2 rfl ?_
  refine px_istore_n (i := 3) C dX1_spansOf_3 rfl (by decide) rfl ?_
  exact PW_at (w1_spansOf_b4_ok C hRt hHR hnT hk) (And.intro rfl (And.intro rfl (And.intro rfl (And.intro rfl trivial)))) (Nat.le_of_ble_eq_true rfl) (Nat.le_of_ble_eq_true rfl)
theorem dX1_errorsOf_0 : decode cX1_errorsOf 0 = .ok (.iconst 0, 1) := by decide +kernel
theorem dX1_errorsOf_1 : decode cX1_errorsOf 1 = .ok (.istore_n 2, 1) := by decide +kernel
theorem dX1_errorsOf_2 : decode cX1_errorsOf 2 = .ok (.iconst 0, 1) := by decide +kernel
theorem dX1_errorsOf_3 : decode cX1_errorsOf 3 = .ok (.istore_n 3, 1) := by decide +kernel
theorem dX1_errorsOf_4 : decode cX1_errorsOf 4 = .ok (.iload_n 3, 1) := by decide +kernel
theorem dX1_errorsOf_5 : decode cX1_errorsOf 5 = .ok (.aload_n 0, 1) := by decide +kernel
theorem dX1_errorsOf_6 : decode cX1_errorsOf 6 = .ok (.getfield 9, 3) := by decide +kernel
theorem dX1_errorsOf_9 : decode cX1_errorsOf 9 = .ok (.getfield 39, 3) := by decide +kernel
theorem dX1_errorsOf_12 : decode cX1_errorsOf 12 = .ok (.if_icmp .ge 41, 3) := by decide +kernel
theorem dX1_errorsOf_15 : decode cX1_errorsOf 15 = .ok (.aload_n 0, 1) := by decide +kernel
theorem dX1_errorsOf_16 : decode cX1_errorsOf 16 = .ok (.getfield 9, 3) := by decide +kernel
theorem dX1_errorsOf_19 : decode cX1_errorsOf 19 = .ok (.getfield 46, 3) := by decide +kernel
theorem dX1_errorsOf_22 : decode cX1_errorsOf 22 = .ok (.iload_n 3, 1) := by decide +kernel
theorem dX1_errorsOf_23 : decode cX1_errorsOf 23 = .ok (.invokestatic 35, 3) := by decide +kernel
theorem dX1_errorsOf_26 : decode cX1_errorsOf 26 = .ok (.iload_n 1, 1) := by decide +kernel
theorem dX1_errorsOf_27 : decode cX1_errorsOf 27 = .ok (.if_icmp .ne 20, 3) := by decide +kernel
theorem dX1_errorsOf_30 : decode cX1_errorsOf 30 = .ok (.aload_n 0, 1) := by decide +kernel
theorem dX1_errorsOf_31 : decode cX1_errorsOf 31 = .ok (.getfield 9, 3) := by decide +kernel
theorem dX1_errorsOf_34 : decode cX1_errorsOf 34 = .ok (.getfield 68, 3) := by decide +kernel
theorem dX1_errorsOf_37 : decode cX1_errorsOf 37 = .ok (.iload_n 3, 1) := by decide +kernel
theorem dX1_errorsOf_38 : decode cX1_errorsOf 38 = .ok (.invokestatic 72, 3) := by decide +kernel
theorem dX1_errorsOf_41 : decode cX1_errorsOf 41 = .ok (.ifCond .eq 6, 3) := by decide +kernel
theorem dX1_errorsOf_44 : decode cX1_errorsOf 44 = .ok (.iinc 2 1, 3) := by decide +kernel
theorem dX1_errorsOf_47 : decode cX1_errorsOf 47 = .ok (.iinc 3 1, 3) := by decide +kernel
theorem dX1_errorsOf_50 : decode cX1_errorsOf 50 = .ok (.goto (-46), 3) := by decide +kernel
theorem dX1_errorsOf_53 : decode cX1_errorsOf 53 = .ok (.iload_n 2, 1) := by decide +kernel
theorem dX1_errorsOf_54 : decode cX1_errorsOf 54 = .ok (.ireturn, 1) := by decide +kernel
set_option maxRecDepth 100000 in
set_option maxHeartbeats 4000000 in
theorem w1_errorsOf_b4_ok {G : GT} {P : Int32 → Mem → Prop} {X : String → Mem → Prop} (C : PCx G cX1_errorsOf 4 RX1) (hRt : PRt G (some .int) (qI P) X) (hHR : HR G (1)) (hnT : NoT G) {μ : Mem} {l1 : Int32} {l2 : Int32} {l3 : Int32} (hk : w1_errorsOf_b4 P μ l1 l2 l3) : PW G 0 0 4 [some (pR 34 0), some (pI l1), some (pI l2), some (pI l3)] [] μ := by
  refine hk (fun (μ : Mem) (l1 : Int32) (l2 : Int32) (l3 : Int32) => PW G 0 0 4 [some (pR 34 0), some (pI l1), some (pI l2), some (pI l3)] [] μ) (fun (μ : Mem) l1 l2 l3 hk => ?_)
  have hR4 : ∀ (μ : Mem) (l1 : Int32) (l2 : Int32) (l3 : Int32), PW G 0 0 4 [some (pR 34 0), some (pI l1), some (pI l2), some (pI l3)] [] μ → PW G 0 0 4 [some (pR 34 0), some (pI l1), some (pI l2), some (pI l3)] [] μ := fun _ _ _ _ h => h
  unfold w1_errorsOf_b4_body at hk
  refine px_iload_n (i := 3) C dX1_errorsOf_4 rfl rfl ?_
  refine px_aload_n (i := 0) C dX1_errorsOf_5 rfl rfl ?_
  refine px_getr C dX1_errorsOf_6 fl_RX1_9 rfl rfl rfl ?_
  refine px_geti 1 C dX1_errorsOf_9 fl_RX1_39 rfl rfl rfl rfl ?_
  refine px_icmp_ge (tgt := 53) C dX1_errorsOf_12 (by decide) (fun c5 => ?_) (fun c5 => ?_)
  · replace hk := hk.1 c5
    refine px_iload_n (i := 2) C dX1_errorsOf_53 rfl rfl ?_
    exact px_iret C hRt dX1_errorsOf_54 rfl rfl hk
  · replace hk := hk.2 c5
    refine px_aload_n (i := 0) C dX1_errorsOf_15 rfl rfl ?_
    refine px_getr C dX1_errorsOf_16 fl_RX1_9 rfl rfl rfl ?_
    refine px_getr C dX1_errorsOf_19 fl_RX1_46 rfl rfl rfl ?_
    refine px_iload_n (i := 3) C dX1_errorsOf_22 rfl rfl ?_
    obtain ⟨o1, hk⟩ := hk
    refine px_callSNi (h := 0) (rc' := 0) (rs' := 0) C (HR_le hHR (Nat.le_of_ble_eq_true rfl)) hRt hnT dX1_errorsOf_23 (List.mem_append_right _ (List.mem_append_left _ (List.mem_of_getElem? (i := 20) rfl))) ms_X8_at (at_ok (j := 1) (q := 0) (n := 40) (loc := 64) (PCx_l C) (PCx_I C) rfl rfl rfl o1) rfl rfl (Nat.le_of_ble_eq_true rfl) (Nat.le_of_ble_eq_true rfl) (Nat.le_of_ble_eq_true rfl) (Nat.le_of_ble_eq_true rfl) ?_
    rintro _ _ ⟨rfl, rfl⟩
    refine px_iload_n (i := 1) C dX1_errorsOf_26 rfl rfl ?_
    refine px_icmp_ne (tgt := 47) C dX1_errorsOf_27 (by decide) (fun c4 => ?_) (fun c4 => ?_)
    · replace hk := hk.1 c4
      refine px_iinc (i := 3) (v := (1 : Int32)) C dX1_errorsOf_47 rfl rfl (by decide) rfl ?_
      refine px_goto (tgt := 4) C dX1_errorsOf_50 (by decide) ?_
      exact PW_at (hR4 _ _ _ _ hk) (And.intro rfl (And.intro rfl (And.intro rfl (And.intro rfl trivial)))) (Nat.le_of_ble_eq_true rfl) (Nat.le_of_ble_eq_true rfl)
    · replace hk := hk.2 c4
      refine px_aload_n (i := 0) C dX1_errorsOf_30 rfl rfl ?_
      refine px_getr C dX1_errorsOf_31 fl_RX1_9 rfl rfl rfl ?_
      refine px_getr C dX1_errorsOf_34 fl_RX1_68 rfl rfl rfl ?_
      refine px_iload_n (i := 3) C dX1_errorsOf_37 rfl rfl ?_
      obtain ⟨o2, hk⟩ := hk
      refine px_callSNi (h := 0) (rc' := 0) (rs' := 0) C (HR_le hHR (Nat.le_of_ble_eq_true rfl)) hRt hnT dX1_errorsOf_38 (List.mem_append_right _ (List.mem_append_left _ (List.mem_of_getElem? (i := 21) rfl))) ms_X8_flagAt (flagAt_ok (j := 7) (q := 0) (n := 40) (loc := 448) (PCx_l C) (PCx_I C) rfl rfl rfl o2) rfl rfl (Nat.le_of_ble_eq_true rfl) (Nat.le_of_ble_eq_true rfl) (Nat.le_of_ble_eq_true rfl) (Nat.le_of_ble_eq_true rfl) ?_
      rintro _ _ ⟨rfl, rfl⟩
      refine px_if_eq (tgt := 47) C dX1_errorsOf_41 (by decide) (fun c3 => ?_) (fun c3 => ?_)
      · replace hk := hk.1 (fz_1 c3)
        refine px_iinc (i := 3) (v := (1 : Int32)) C dX1_errorsOf_47 rfl rfl (by decide) rfl ?_
        refine px_goto (tgt := 4) C dX1_errorsOf_50 (by decide) ?_
        exact PW_at (hR4 _ _ _ _ hk) (And.intro rfl (And.intro rfl (And.intro rfl (And.intro rfl trivial)))) (Nat.le_of_ble_eq_true rfl) (Nat.le_of_ble_eq_true rfl)
      · replace hk := hk.2 (fz_2 c3)
        refine px_iinc (i := 2) (v := (1 : Int32)) C dX1_errorsOf_44 rfl rfl (by decide) rfl ?_
        refine px_iinc (i := 3) (v := (1 : Int32)) C dX1_errorsOf_47 rfl rfl (by decide) rfl ?_
        refine px_goto (tgt := 4) C dX1_errorsOf_50 (by decide) ?_
        exact PW_at (hR4 _ _ _ _ hk) (And.intro rfl (And.intro rfl (And.intro rfl (And.intro rfl trivial)))) (Nat.le_of_ble_eq_true rfl) (Nat.le_of_ble_eq_true rfl)
set_option maxRecDepth 100000 in
set_option maxHeartbeats 4000000 in
theorem w1_errorsOf_ok {l : Launch} {idx : List (Nat × Nat)} {μ : Mem} {a1 : Int32} {P : Int32 → Mem → Prop} {X : String → Mem → Prop} (hl : l.stackTraces = false) (hI : IdxOK idx) (hk : w1_errorsOf_wp μ a1 P) : PMet l yX1_errorsOf (.code yX1_errorsOf cX1_errorsOf 4 (some .int)) 1 0 0 idx [pR 34 0, pI a1] μ (qI P) X := by
  refine PMet_of mv_X1_errorsOf.2.2.2.2.2.2 hl hI mv_X1_errorsOf.2.2.2.1 rfl (Nat.le_of_ble_eq_true rfl) (fun G _ _ C hRt hHR hnT => ?_)
  show PW G 0 0 0 [some (pR 34 0), some (pI a1), none, none] [] μ
  unfold w1_errorsOf_wp at hk
  refine px_iconst (v := (0 : Int32)) C dX1_errorsOf_0 rfl ?_
  refine px_istore_n (i := 2) C dX1_errorsOf_1 rfl (by decide) rfl ?_
  refine px_iconst (v := (0 : Int32)) C dX1_errorsOf_2 rfl ?_
  refine px_istore_n (i := 3) C dX1_errorsOf_3 rfl (by decide) rfl ?_
  exact PW_at (w1_errorsOf_b4_ok C hRt hHR hnT hk) (And.intro rfl (And.intro rfl (And.intro rfl (And.intro rfl trivial)))) (Nat.le_of_ble_eq_true rfl) (Nat.le_of_ble_eq_true rfl)
theorem dX1_earliestBegin_0 : decode cX1_earliestBegin 0 = .ok (.ldc 107, 2) := by decide +kernel
theorem dX1_earliestBegin_2 : decode cX1_earliestBegin 2 = .ok (.istore_n 2, 1) := by decide +kernel
theorem dX1_earliestBegin_3 : decode cX1_earliestBegin 3 = .ok (.iconst 0, 1) := by decide +kernel
theorem dX1_earliestBegin_4 : decode cX1_earliestBegin 4 = .ok (.istore_n 3, 1) := by decide +kernel
theorem dX1_earliestBegin_5 : decode cX1_earliestBegin 5 = .ok (.iload_n 3, 1) := by decide +kernel
theorem dX1_earliestBegin_6 : decode cX1_earliestBegin 6 = .ok (.aload_n 0, 1) := by decide +kernel
theorem dX1_earliestBegin_7 : decode cX1_earliestBegin 7 = .ok (.getfield 9, 3) := by decide +kernel
theorem dX1_earliestBegin_10 : decode cX1_earliestBegin 10 = .ok (.getfield 39, 3) := by decide +kernel
theorem dX1_earliestBegin_13 : decode cX1_earliestBegin 13 = .ok (.if_icmp .ge 40, 3) := by decide +kernel
theorem dX1_earliestBegin_16 : decode cX1_earliestBegin 16 = .ok (.aload_n 0, 1) := by decide +kernel
theorem dX1_earliestBegin_17 : decode cX1_earliestBegin 17 = .ok (.getfield 9, 3) := by decide +kernel
theorem dX1_earliestBegin_20 : decode cX1_earliestBegin 20 = .ok (.getfield 46, 3) := by decide +kernel
theorem dX1_earliestBegin_23 : decode cX1_earliestBegin 23 = .ok (.iload_n 3, 1) := by decide +kernel
theorem dX1_earliestBegin_24 : decode cX1_earliestBegin 24 = .ok (.invokestatic 35, 3) := by decide +kernel
theorem dX1_earliestBegin_27 : decode cX1_earliestBegin 27 = .ok (.iload_n 1, 1) := by decide +kernel
theorem dX1_earliestBegin_28 : decode cX1_earliestBegin 28 = .ok (.if_icmp .ne 19, 3) := by decide +kernel
theorem dX1_earliestBegin_31 : decode cX1_earliestBegin 31 = .ok (.iload_n 2, 1) := by decide +kernel
theorem dX1_earliestBegin_32 : decode cX1_earliestBegin 32 = .ok (.aload_n 0, 1) := by decide +kernel
theorem dX1_earliestBegin_33 : decode cX1_earliestBegin 33 = .ok (.getfield 15, 3) := by decide +kernel
theorem dX1_earliestBegin_36 : decode cX1_earliestBegin 36 = .ok (.getfield 29, 3) := by decide +kernel
theorem dX1_earliestBegin_39 : decode cX1_earliestBegin 39 = .ok (.iload_n 3, 1) := by decide +kernel
theorem dX1_earliestBegin_40 : decode cX1_earliestBegin 40 = .ok (.invokestatic 35, 3) := by decide +kernel
theorem dX1_earliestBegin_43 : decode cX1_earliestBegin 43 = .ok (.invokestatic 65, 3) := by decide +kernel
theorem dX1_earliestBegin_46 : decode cX1_earliestBegin 46 = .ok (.istore_n 2, 1) := by decide +kernel
theorem dX1_earliestBegin_47 : decode cX1_earliestBegin 47 = .ok (.iinc 3 1, 3) := by decide +kernel
theorem dX1_earliestBegin_50 : decode cX1_earliestBegin 50 = .ok (.goto (-45), 3) := by decide +kernel
theorem dX1_earliestBegin_53 : decode cX1_earliestBegin 53 = .ok (.iload_n 2, 1) := by decide +kernel
theorem dX1_earliestBegin_54 : decode cX1_earliestBegin 54 = .ok (.ireturn, 1) := by decide +kernel
set_option maxRecDepth 100000 in
set_option maxHeartbeats 4000000 in
theorem w1_earliestBegin_b5_ok {G : GT} {P : Int32 → Mem → Prop} {X : String → Mem → Prop} (C : PCx G cX1_earliestBegin 4 RX1) (hRt : PRt G (some .int) (qI P) X) (hHR : HR G (1)) (hnT : NoT G) {μ : Mem} {l1 : Int32} {l2 : Int32} {l3 : Int32} (hk : w1_earliestBegin_b5 P μ l1 l2 l3) : PW G 0 0 5 [some (pR 34 0), some (pI l1), some (pI l2), some (pI l3)] [] μ := by
  refine hk (fun (μ : Mem) (l1 : Int32) (l2 : Int32) (l3 : Int32) => PW G 0 0 5 [some (pR 34 0), some (pI l1), some (pI l2), some (pI l3)] [] μ) (fun (μ : Mem) l1 l2 l3 hk => ?_)
  have hR5 : ∀ (μ : Mem) (l1 : Int32) (l2 : Int32) (l3 : Int32), PW G 0 0 5 [some (pR 34 0), some (pI l1), some (pI l2), some (pI l3)] [] μ → PW G 0 0 5 [some (pR 34 0), some (pI l1), some (pI l2), some (pI l3)] [] μ := fun _ _ _ _ h => h
  unfold w1_earliestBegin_b5_body at hk
  refine px_iload_n (i := 3) C dX1_earliestBegin_5 rfl rfl ?_
  refine px_aload_n (i := 0) C dX1_earliestBegin_6 rfl rfl ?_
  refine px_getr C dX1_earliestBegin_7 fl_RX1_9 rfl rfl rfl ?_
  refine px_geti 1 C dX1_earliestBegin_10 fl_RX1_39 rfl rfl rfl rfl ?_
  refine px_icmp_ge (tgt := 53) C dX1_earliestBegin_13 (by decide) (fun c4 => ?_) (fun c4 => ?_)
  · replace hk := hk.1 c4
    refine px_iload_n (i := 2) C dX1_earliestBegin_53 rfl rfl ?_
    exact px_iret C hRt dX1_earliestBegin_54 rfl rfl hk
  · replace hk := hk.2 c4
    refine px_aload_n (i := 0) C dX1_earliestBegin_16 rfl rfl ?_
    refine px_getr C dX1_earliestBegin_17 fl_RX1_9 rfl rfl rfl ?_
    refine px_getr C dX1_earliestBegin_20 fl_RX1_46 rfl rfl rfl ?_
    refine px_iload_n (i := 3) C dX1_earliestBegin_23 rfl rfl ?_
    obtain ⟨o1, hk⟩ := hk
    refine px_callSNi (h := 0) (rc' := 0) (rs' := 0) C (HR_le hHR (Nat.le_of_ble_eq_true rfl)) hRt hnT dX1_earliestBegin_24 (List.mem_append_right _ (List.mem_append_left _ (List.mem_of_getElem? (i := 20) rfl))) ms_X8_at (at_ok (j := 1) (q := 0) (n := 40) (loc := 64) (PCx_l C) (PCx_I C) rfl rfl rfl o1) rfl rfl (Nat.le_of_ble_eq_true rfl) (Nat.le_of_ble_eq_true rfl) (Nat.le_of_ble_eq_true rfl) (Nat.le_of_ble_eq_true rfl) ?_
    rintro _ _ ⟨rfl, rfl⟩
    refine px_iload_n (i := 1) C dX1_earliestBegin_27 rfl rfl ?_
    refine px_icmp_ne (tgt := 47) C dX1_earliestBegin_28 (by decide) (fun c3 => ?_) (fun c3 => ?_)
    · replace hk := hk.1 c3
      refine px_iinc (i := 3) (v := (1 : Int32)) C dX1_earliestBegin_47 rfl rfl (by decide) rfl ?_
      refine px_goto (tgt := 5) C dX1_earliestBegin_50 (by decide) ?_
      exact PW_at (hR5 _ _ _ _ hk) (And.intro rfl (And.intro rfl (And.intro rfl (And.intro rfl trivial)))) (Nat.le_of_ble_eq_true rfl) (Nat.le_of_ble_eq_true rfl)
    · replace hk := hk.2 c3
      refine px_iload_n (i := 2) C dX1_earliestBegin_31 rfl rfl ?_
      refine px_aload_n (i := 0) C dX1_earliestBegin_32 rfl rfl ?_
      refine px_getr C dX1_earliestBegin_33 fl_RX1_15 rfl rfl rfl ?_
      refine px_getr C dX1_earliestBegin_36 fl_RX1_29 rfl rfl rfl ?_
      refine px_iload_n (i := 3) C dX1_earliestBegin_39 rfl rfl ?_
      obtain ⟨o2, hk⟩ := hk
      refine px_callSNi (h := 0) (rc' := 0) (rs' := 0) C (HR_le hHR (Nat.le_of_ble_eq_true rfl)) hRt hnT dX1_earliestBegin_40 (List.mem_append_right _ (List.mem_append_left _ (List.mem_of_getElem? (i := 20) rfl))) ms_X8_at (at_ok (j := 19) (q := 0) (n := 40) (loc := 1216) (PCx_l C) (PCx_I C) rfl rfl rfl o2) rfl rfl (Nat.le_of_ble_eq_true rfl) (Nat.le_of_ble_eq_true rfl) (Nat.le_of_ble_eq_true rfl) (Nat.le_of_ble_eq_true rfl) ?_
      rintro _ _ ⟨rfl, rfl⟩
      refine px_mmin C (HR_le hHR (Nat.le_of_ble_eq_true rfl)) dX1_earliestBegin_43 (gw5 82 rfl rfl) math_min (Nat.le_of_ble_eq_true rfl) ?_
      refine px_istore_n (i := 2) C dX1_earliestBegin_46 rfl (by decide) rfl ?_
      refine px_iinc (i := 3) (v := (1 : Int32)) C dX1_earliestBegin_47 rfl rfl (by decide) rfl ?_
      refine px_goto (tgt := 5) C dX1_earliestBegin_50 (by decide) ?_
      exact PW_at (hR5 _ _ _ _ hk) (And.intro rfl (And.intro rfl (And.intro rfl (And.intro rfl trivial)))) (Nat.le_of_ble_eq_true rfl) (Nat.le_of_ble_eq_true rfl)
set_option maxRecDepth 100000 in
set_option maxHeartbeats 4000000 in
theorem w1_earliestBegin_ok {l : Launch} {idx : List (Nat × Nat)} {μ : Mem} {a1 : Int32} {P : Int32 → Mem → Prop} {X : String → Mem → Prop} (hl : l.stackTraces = false) (hI : IdxOK idx) (hk : w1_earliestBegin_wp μ a1 P) : PMet l yX1_earliestBegin (.code yX1_earliestBegin cX1_earliestBegin 4 (some .int)) 1 0 0 idx [pR 34 0, pI a1] μ (qI P) X := by
  refine PMet_of mv_X1_earliestBegin.2.2.2.2.2.2 hl hI mv_X1_earliestBegin.2.2.2.1 rfl (Nat.le_of_ble_eq_true rfl) (fun G _ _ C hRt hHR hnT => ?_)
  show PW G 0 0 0 [some (pR 34 0), some (pI a1), none, none] [] μ
  unfold w1_earliestBegin_wp at hk
  refine px_ldc (v := (1000000 : Int32)) C dX1_earliestBegin_0 (gw5 220 rfl rfl) ?_
  refine px_istore_n (i := 2) C dX1_earliestBegin_2 rfl (by decide) rfl ?_
  refine px_iconst (v := (0 : Int32)) C dX1_earliestBegin_3 rfl ?_
  refine px_istore_n (i := 3) C dX1_earliestBegin_4 rfl (by decide) rfl ?_
  exact PW_at (w1_earliestBegin_b5_ok C hRt hHR hnT hk) (And.intro rfl (And.intro rfl (And.intro rfl (And.intro rfl trivial)))) (Nat.le_of_ble_eq_true rfl) (Nat.le_of_ble_eq_true rfl)
theorem dX1_latestEnd_0 : decode cX1_latestEnd 0 = .ok (.ldc 108, 2) := by decide +kernel
theorem dX1_latestEnd_2 : decode cX1_latestEnd 2 = .ok (.istore_n 2, 1) := by decide +kernel
theorem dX1_latestEnd_3 : decode cX1_latestEnd 3 = .ok (.iconst 0, 1) := by decide +kernel
theorem dX1_latestEnd_4 : decode cX1_latestEnd 4 = .ok (.istore_n 3, 1) := by decide +kernel
theorem dX1_latestEnd_5 : decode cX1_latestEnd 5 = .ok (.iload_n 3, 1) := by decide +kernel
theorem dX1_latestEnd_6 : decode cX1_latestEnd 6 = .ok (.aload_n 0, 1) := by decide +kernel
theorem dX1_latestEnd_7 : decode cX1_latestEnd 7 = .ok (.getfield 9, 3) := by decide +kernel
theorem dX1_latestEnd_10 : decode cX1_latestEnd 10 = .ok (.getfield 39, 3) := by decide +kernel
theorem dX1_latestEnd_13 : decode cX1_latestEnd 13 = .ok (.if_icmp .ge 40, 3) := by decide +kernel
theorem dX1_latestEnd_16 : decode cX1_latestEnd 16 = .ok (.aload_n 0, 1) := by decide +kernel
theorem dX1_latestEnd_17 : decode cX1_latestEnd 17 = .ok (.getfield 9, 3) := by decide +kernel
theorem dX1_latestEnd_20 : decode cX1_latestEnd 20 = .ok (.getfield 46, 3) := by decide +kernel
theorem dX1_latestEnd_23 : decode cX1_latestEnd 23 = .ok (.iload_n 3, 1) := by decide +kernel
theorem dX1_latestEnd_24 : decode cX1_latestEnd 24 = .ok (.invokestatic 35, 3) := by decide +kernel
theorem dX1_latestEnd_27 : decode cX1_latestEnd 27 = .ok (.iload_n 1, 1) := by decide +kernel
theorem dX1_latestEnd_28 : decode cX1_latestEnd 28 = .ok (.if_icmp .ne 19, 3) := by decide +kernel
theorem dX1_latestEnd_31 : decode cX1_latestEnd 31 = .ok (.iload_n 2, 1) := by decide +kernel
theorem dX1_latestEnd_32 : decode cX1_latestEnd 32 = .ok (.aload_n 0, 1) := by decide +kernel
theorem dX1_latestEnd_33 : decode cX1_latestEnd 33 = .ok (.getfield 15, 3) := by decide +kernel
theorem dX1_latestEnd_36 : decode cX1_latestEnd 36 = .ok (.getfield 62, 3) := by decide +kernel
theorem dX1_latestEnd_39 : decode cX1_latestEnd 39 = .ok (.iload_n 3, 1) := by decide +kernel
theorem dX1_latestEnd_40 : decode cX1_latestEnd 40 = .ok (.invokestatic 35, 3) := by decide +kernel
theorem dX1_latestEnd_43 : decode cX1_latestEnd 43 = .ok (.invokestatic 56, 3) := by decide +kernel
theorem dX1_latestEnd_46 : decode cX1_latestEnd 46 = .ok (.istore_n 2, 1) := by decide +kernel
theorem dX1_latestEnd_47 : decode cX1_latestEnd 47 = .ok (.iinc 3 1, 3) := by decide +kernel
theorem dX1_latestEnd_50 : decode cX1_latestEnd 50 = .ok (.goto (-45), 3) := by decide +kernel
theorem dX1_latestEnd_53 : decode cX1_latestEnd 53 = .ok (.iload_n 2, 1) := by decide +kernel
theorem dX1_latestEnd_54 : decode cX1_latestEnd 54 = .ok (.ireturn, 1) := by decide +kernel
set_option maxRecDepth 100000 in
set_option maxHeartbeats 4000000 in
theorem w1_latestEnd_b5_ok {G : GT} {P : Int32 → Mem → Prop} {X : String → Mem → Prop} (C : PCx G cX1_latestEnd 4 RX1) (hRt : PRt G (some .int) (qI P) X) (hHR : HR G (1)) (hnT : NoT G) {μ : Mem} {l1 : Int32} {l2 : Int32} {l3 : Int32} (hk : w1_latestEnd_b5 P μ l1 l2 l3) : PW G 0 0 5 [some (pR 34 0), some (pI l1), some (pI l2), some (pI l3)] [] μ := by
  refine hk (fun (μ : Mem) (l1 : Int32) (l2 : Int32) (l3 : Int32) => PW G 0 0 5 [some (pR 34 0), some (pI l1), some (pI l2), some (pI l3)] [] μ) (fun (μ : Mem) l1 l2 l3 hk => ?_)
  have hR5 : ∀ (μ : Mem) (l1 : Int32) (l2 : Int32) (l3 : Int32), PW G 0 0 5 [some (pR 34 0), some (pI l1), some (pI l2), some (pI l3)] [] μ → PW G 0 0 5 [some (pR 34 0), some (pI l1), some (pI l2), some (pI l3)] [] μ := fun _ _ _ _ h => h
  unfold w1_latestEnd_b5_body at hk
  refine px_iload_n (i := 3) C dX1_latestEnd_5 rfl rfl ?_
  refine px_aload_n (i := 0) C dX1_latestEnd_6 rfl rfl ?_
  refine px_getr C dX1_latestEnd_7 fl_RX1_9 rfl rfl rfl ?_
  refine px_geti 1 C dX1_latestEnd_10 fl_RX1_39 rfl rfl rfl rfl ?_
  refine px_icmp_ge (tgt := 53) C dX1_latestEnd_13 (by decide) (fun c4 => ?_) (fun c4 => ?_)
  · replace hk := hk.1 c4
    refine px_iload_n (i := 2) C dX1_latestEnd_53 rfl rfl ?_
    exact px_iret C hRt dX1_latestEnd_54 rfl rfl hk
  · replace hk := hk.2 c4
    refine px_aload_n (i := 0) C dX1_latestEnd_16 rfl rfl ?_
    refine px_getr C dX1_latestEnd_17 fl_RX1_9 rfl rfl rfl ?_
    refine px_getr C dX1_latestEnd_20 fl_RX1_46 rfl rfl rfl ?_
    refine px_iload_n (i := 3) C dX1_latestEnd_23 rfl rfl ?_
    obtain ⟨o1, hk⟩ := hk
    refine px_callSNi (h := 0) (rc' := 0) (rs' := 0) C (HR_le hHR (Nat.le_of_ble_eq_true rfl)) hRt hnT dX1_latestEnd_24 (List.mem_append_right _ (List.mem_append_left _ (List.mem_of_getElem? (i := 20) rfl))) ms_X8_at (at_ok (j := 1) (q := 0) (n := 40) (loc := 64) (PCx_l C) (PCx_I C) rfl rfl rfl o1) rfl rfl (Nat.le_of_ble_eq_true rfl) (Nat.le_of_ble_eq_true rfl) (Nat.le_of_ble_eq_true rfl) (Nat.le_of_ble_eq_true rfl) ?_
    rintro _ _ ⟨rfl, rfl⟩
    refine px_iload_n (i := 1) C dX1_latestEnd_27 rfl rfl ?_
    refine px_icmp_ne (tgt := 47) C dX1_latestEnd_28 (by decide) (fun c3 => ?_) (fun c3 => ?_)
    · replace hk := hk.1 c3
      refine px_iinc (i := 3) (v := (1 : Int32)) C dX1_latestEnd_47 rfl rfl (by decide) rfl ?_
      refine px_goto (tgt := 5) C dX1_latestEnd_50 (by decide) ?_
      exact PW_at (hR5 _ _ _ _ hk) (And.intro rfl (And.intro rfl (And.intro rfl (And.intro rfl trivial)))) (Nat.le_of_ble_eq_true rfl) (Nat.le_of_ble_eq_true rfl)
    · replace hk := hk.2 c3
      refine px_iload_n (i := 2) C dX1_latestEnd_31 rfl rfl ?_
      refine px_aload_n (i := 0) C dX1_latestEnd_32 rfl rfl ?_
      refine px_getr C dX1_latestEnd_33 fl_RX1_15 rfl rfl rfl ?_
      refine px_getr C dX1_latestEnd_36 fl_RX1_62 rfl rfl rfl ?_
      refine px_iload_n (i := 3) C dX1_latestEnd_39 rfl rfl ?_
      obtain ⟨o2, hk⟩ := hk
      refine px_callSNi (h := 0) (rc' := 0) (rs' := 0) C (HR_le hHR (Nat.le_of_ble_eq_true rfl)) hRt hnT dX1_latestEnd_40 (List.mem_append_right _ (List.mem_append_left _ (List.mem_of_getElem? (i := 20) rfl))) ms_X8_at (at_ok (j := 20) (q := 0) (n := 40) (loc := 1280) (PCx_l C) (PCx_I C) rfl rfl rfl o2) rfl rfl (Nat.le_of_ble_eq_true rfl) (Nat.le_of_ble_eq_true rfl) (Nat.le_of_ble_eq_true rfl) (Nat.le_of_ble_eq_true rfl) ?_
      rintro _ _ ⟨rfl, rfl⟩
      refine px_mmax C (HR_le hHR (Nat.le_of_ble_eq_true rfl)) dX1_latestEnd_43 (gw5 81 rfl rfl) math_max (Nat.le_of_ble_eq_true rfl) ?_
      refine px_istore_n (i := 2) C dX1_latestEnd_46 rfl (by decide) rfl ?_
      refine px_iinc (i := 3) (v := (1 : Int32)) C dX1_latestEnd_47 rfl rfl (by decide) rfl ?_
      refine px_goto (tgt := 5) C dX1_latestEnd_50 (by decide) ?_
      exact PW_at (hR5 _ _ _ _ hk) (And.intro rfl (And.intro rfl (And.intro rfl (And.intro rfl trivial)))) (Nat.le_of_ble_eq_true rfl) (Nat.le_of_ble_eq_true rfl)
set_option maxRecDepth 100000 in
set_option maxHeartbeats 4000000 in
theorem w1_latestEnd_ok {l : Launch} {idx : List (Nat × Nat)} {μ : Mem} {a1 : Int32} {P : Int32 → Mem → Prop} {X : String → Mem → Prop} (hl : l.stackTraces = false) (hI : IdxOK idx) (hk : w1_latestEnd_wp μ a1 P) : PMet l yX1_latestEnd (.code yX1_latestEnd cX1_latestEnd 4 (some .int)) 1 0 0 idx [pR 34 0, pI a1] μ (qI P) X := by
  refine PMet_of mv_X1_latestEnd.2.2.2.2.2.2 hl hI mv_X1_latestEnd.2.2.2.1 rfl (Nat.le_of_ble_eq_true rfl) (fun G _ _ C hRt hHR hnT => ?_)
  show PW G 0 0 0 [some (pR 34 0), some (pI a1), none, none] [] μ
  unfold w1_latestEnd_wp at hk
  refine px_ldc (v := (-1000000 : Int32)) C dX1_latestEnd_0 (gw5 215 rfl rfl) ?_
  refine px_istore_n (i := 2) C dX1_latestEnd_2 rfl (by decide) rfl ?_
  refine px_iconst (v := (0 : Int32)) C dX1_latestEnd_3 rfl ?_
  refine px_istore_n (i := 3) C dX1_latestEnd_4 rfl (by decide) rfl ?_
  exact PW_at (w1_latestEnd_b5_ok C hRt hHR hnT hk) (And.intro rfl (And.intro rfl (And.intro rfl (And.intro rfl trivial)))) (Nat.le_of_ble_eq_true rfl) (Nat.le_of_ble_eq_true rfl)
theorem dX1_busyUnits_0 : decode cX1_busyUnits 0 = .ok (.iconst 0, 1) := by decide +kernel
theorem dX1_busyUnits_1 : decode cX1_busyUnits 1 = .ok (.istore_n 3, 1) := by decide +kernel
theorem dX1_busyUnits_2 : decode cX1_busyUnits 2 = .ok (.ldc 108, 2) := by decide +kernel
theorem dX1_busyUnits_4 : decode cX1_busyUnits 4 = .ok (.istore 4, 2) := by decide +kernel
theorem dX1_busyUnits_6 : decode cX1_busyUnits 6 = .ok (.iconst 0, 1) := by decide +kernel
theorem dX1_busyUnits_7 : decode cX1_busyUnits 7 = .ok (.istore 5, 2) := by decide +kernel
theorem dX1_busyUnits_9 : decode cX1_busyUnits 9 = .ok (.iload 5, 2) := by decide +kernel
theorem dX1_busyUnits_11 : decode cX1_busyUnits 11 = .ok (.aload_n 0, 1) := by decide +kernel
theorem dX1_busyUnits_12 : decode cX1_busyUnits 12 = .ok (.getfield 9, 3) := by decide +kernel
theorem dX1_busyUnits_15 : decode cX1_busyUnits 15 = .ok (.getfield 39, 3) := by decide +kernel
theorem dX1_busyUnits_18 : decode cX1_busyUnits 18 = .ok (.if_icmp .ge 107, 3) := by decide +kernel
theorem dX1_busyUnits_21 : decode cX1_busyUnits 21 = .ok (.aload_n 0, 1) := by decide +kernel
theorem dX1_busyUnits_22 : decode cX1_busyUnits 22 = .ok (.getfield 15, 3) := by decide +kernel
theorem dX1_busyUnits_25 : decode cX1_busyUnits 25 = .ok (.getfield 43, 3) := by decide +kernel
theorem dX1_busyUnits_28 : decode cX1_busyUnits 28 = .ok (.iload 5, 2) := by decide +kernel
theorem dX1_busyUnits_30 : decode cX1_busyUnits 30 = .ok (.invokestatic 35, 3) := by decide +kernel
theorem dX1_busyUnits_33 : decode cX1_busyUnits 33 = .ok (.istore 6, 2) := by decide +kernel
theorem dX1_busyUnits_35 : decode cX1_busyUnits 35 = .ok (.aload_n 0, 1) := by decide +kernel
theorem dX1_busyUnits_36 : decode cX1_busyUnits 36 = .ok (.getfield 9, 3) := by decide +kernel
theorem dX1_busyUnits_39 : decode cX1_busyUnits 39 = .ok (.getfield 46, 3) := by decide +kernel
theorem dX1_busyUnits_42 : decode cX1_busyUnits 42 = .ok (.iload 6, 2) := by decide +kernel
theorem dX1_busyUnits_44 : decode cX1_busyUnits 44 = .ok (.invokestatic 35, 3) := by decide +kernel
theorem dX1_busyUnits_47 : decode cX1_busyUnits 47 = .ok (.iload_n 1, 1) := by decide +kernel
theorem dX1_busyUnits_48 : decode cX1_busyUnits 48 = .ok (.if_icmp .ne 71, 3) := by decide +kernel
theorem dX1_busyUnits_51 : decode cX1_busyUnits 51 = .ok (.aload_n 0, 1) := by decide +kernel
theorem dX1_busyUnits_52 : decode cX1_busyUnits 52 = .ok (.getfield 9, 3) := by decide +kernel
theorem dX1_busyUnits_55 : decode cX1_busyUnits 55 = .ok (.getfield 83, 3) := by decide +kernel
theorem dX1_busyUnits_58 : decode cX1_busyUnits 58 = .ok (.iload 6, 2) := by decide +kernel
theorem dX1_busyUnits_60 : decode cX1_busyUnits 60 = .ok (.invokestatic 35, 3) := by decide +kernel
theorem dX1_busyUnits_63 : decode cX1_busyUnits 63 = .ok (.iload_n 2, 1) := by decide +kernel
theorem dX1_busyUnits_64 : decode cX1_busyUnits 64 = .ok (.if_icmp .ne 55, 3) := by decide +kernel
theorem dX1_busyUnits_67 : decode cX1_busyUnits 67 = .ok (.aload_n 0, 1) := by decide +kernel
theorem dX1_busyUnits_68 : decode cX1_busyUnits 68 = .ok (.getfield 15, 3) := by decide +kernel
theorem dX1_busyUnits_71 : decode cX1_busyUnits 71 = .ok (.getfield 29, 3) := by decide +kernel
theorem dX1_busyUnits_74 : decode cX1_busyUnits 74 = .ok (.iload 6, 2) := by decide +kernel
theorem dX1_busyUnits_76 : decode cX1_busyUnits 76 = .ok (.invokestatic 35, 3) := by decide +kernel
theorem dX1_busyUnits_79 : decode cX1_busyUnits 79 = .ok (.iload 4, 2) := by decide +kernel
theorem dX1_busyUnits_81 : decode cX1_busyUnits 81 = .ok (.invokestatic 56, 3) := by decide +kernel
theorem dX1_busyUnits_84 : decode cX1_busyUnits 84 = .ok (.istore 7, 2) := by decide +kernel
theorem dX1_busyUnits_86 : decode cX1_busyUnits 86 = .ok (.aload_n 0, 1) := by decide +kernel
theorem dX1_busyUnits_87 : decode cX1_busyUnits 87 = .ok (.getfield 15, 3) := by decide +kernel
theorem dX1_busyUnits_90 : decode cX1_busyUnits 90 = .ok (.getfield 62, 3) := by decide +kernel
theorem dX1_busyUnits_93 : decode cX1_busyUnits 93 = .ok (.iload 6, 2) := by decide +kernel
theorem dX1_busyUnits_95 : decode cX1_busyUnits 95 = .ok (.invokestatic 35, 3) := by decide +kernel
theorem dX1_busyUnits_98 : decode cX1_busyUnits 98 = .ok (.istore 8, 2) := by decide +kernel
theorem dX1_busyUnits_100 : decode cX1_busyUnits 100 = .ok (.iload 7, 2) := by decide +kernel
theorem dX1_busyUnits_102 : decode cX1_busyUnits 102 = .ok (.iload 8, 2) := by decide +kernel
theorem dX1_busyUnits_104 : decode cX1_busyUnits 104 = .ok (.if_icmp .ge 15, 3) := by decide +kernel
theorem dX1_busyUnits_107 : decode cX1_busyUnits 107 = .ok (.iload_n 3, 1) := by decide +kernel
theorem dX1_busyUnits_108 : decode cX1_busyUnits 108 = .ok (.iload 8, 2) := by decide +kernel
theorem dX1_busyUnits_110 : decode cX1_busyUnits 110 = .ok (.iload 7, 2) := by decide +kernel
theorem dX1_busyUnits_112 : decode cX1_busyUnits 112 = .ok (.isub, 1) := by decide +kernel
theorem dX1_busyUnits_113 : decode cX1_busyUnits 113 = .ok (.iadd, 1) := by decide +kernel
theorem dX1_busyUnits_114 : decode cX1_busyUnits 114 = .ok (.istore_n 3, 1) := by decide +kernel
theorem dX1_busyUnits_115 : decode cX1_busyUnits 115 = .ok (.iload 8, 2) := by decide +kernel
theorem dX1_busyUnits_117 : decode cX1_busyUnits 117 = .ok (.istore 4, 2) := by decide +kernel
theorem dX1_busyUnits_119 : decode cX1_busyUnits 119 = .ok (.iinc 5 1, 3) := by decide +kernel
theorem dX1_busyUnits_122 : decode cX1_busyUnits 122 = .ok (.goto (-113), 3) := by decide +kernel
theorem dX1_busyUnits_125 : decode cX1_busyUnits 125 = .ok (.iload_n 3, 1) := by decide +kernel
theorem dX1_busyUnits_126 : decode cX1_busyUnits 126 = .ok (.ireturn, 1) := by decide +kernel
set_option maxRecDepth 100000 in
set_option maxHeartbeats 4000000 in
theorem w1_busyUnits_b9_ok {G : GT} {P : Int32 → Mem → Prop} {X : String → Mem → Prop} (C : PCx G cX1_busyUnits 9 RX1) (hRt : PRt G (some .int) (qI P) X) (hHR : HR G (1)) (hnT : NoT G) {μ : Mem} {l1 : Int32} {l2 : Int32} {l3 : Int32} {l4 : Int32} {l5 : Int32} (hk : w1_busyUnits_b9 P μ l1 l2 l3 l4 l5) : PW G 0 0 9 [some (pR 34 0), some (pI l1), some (pI l2), some (pI l3), some (pI l4), some (pI l5), none, none, none] [] μ := by
  refine hk (fun (μ : Mem) (l1 : Int32) (l2 : Int32) (l3 : Int32) (l4 : Int32) (l5 : Int32) => PW G 0 0 9 [some (pR 34 0), some (pI l1), some (pI l2), some (pI l3), some (pI l4), some (pI l5), none, none, none] [] μ) (fun (μ : Mem) l1 l2 l3 l4 l5 hk => ?_)
  have hR9 : ∀ (μ : Mem) (l1 : Int32) (l2 : Int32) (l3 : Int32) (l4 : Int32) (l5 : Int32), PW G 0 0 9 [some (pR 34 0), some (pI l1), some (pI l2), some (pI l3), some (pI l4), some (pI l5), none, none, none] [] μ → PW G 0 0 9 [some (pR 34 0), some (pI l1), some (pI l2), some (pI l3), some (pI l4), some (pI l5), none, none, none] [] μ := fun _ _ _ _ _ _ h => h
  unfold w1_busyUnits_b9_body at hk
  refine px_iload (i := 5) C dX1_busyUnits_9 rfl ?_
  refine px_aload_n (i := 0) C dX1_busyUnits_11 rfl rfl ?_
  refine px_getr C dX1_busyUnits_12 fl_RX1_9 rfl rfl rfl ?_
  refine px_geti 1 C dX1_busyUnits_15 fl_RX1_39 rfl rfl rfl rfl ?_
  refine px_icmp_ge (tgt := 125) C dX1_busyUnits_18 (by decide) (fun c9 => ?_) (fun c9 => ?_)
  · replace hk := hk.1 c9
    refine px_iload_n (i := 3) C dX1_busyUnits_125 rfl rfl ?_
    exact px_iret C hRt dX1_busyUnits_126 rfl rfl hk
  · replace hk := hk.2 c9
    refine px_aload_n (i := 0) C dX1_busyUnits_21 rfl rfl ?_
    refine px_getr C dX1_busyUnits_22 fl_RX1_15 rfl rfl rfl ?_
    refine px_getr C dX1_busyUnits_25 fl_RX1_43 rfl rfl rfl ?_
    refine px_iload (i := 5) C dX1_busyUnits_28 rfl ?_
    obtain ⟨o1, hk⟩ := hk
    refine px_callSNi (h := 0) (rc' := 0) (rs' := 0) C (HR_le hHR (Nat.le_of_ble_eq_true rfl)) hRt hnT dX1_busyUnits_30 (List.mem_append_right _ (List.mem_append_left _ (List.mem_of_getElem? (i := 20) rfl))) ms_X8_at (at_ok (j := 26) (q := 0) (n := 40) (loc := 1664) (PCx_l C) (PCx_I C) rfl rfl rfl o1) rfl rfl (Nat.le_of_ble_eq_true rfl) (Nat.le_of_ble_eq_true rfl) (Nat.le_of_ble_eq_true rfl) (Nat.le_of_ble_eq_true rfl) ?_
    rintro _ _ ⟨rfl, rfl⟩
    refine px_istore (i := 6) C dX1_busyUnits_33 (by decide) rfl ?_
    refine px_aload_n (i := 0) C dX1_busyUnits_35 rfl rfl ?_
    refine px_getr C dX1_busyUnits_36 fl_RX1_9 rfl rfl rfl ?_
    refine px_getr C dX1_busyUnits_39 fl_RX1_46 rfl rfl rfl ?_
    refine px_iload (i := 6) C dX1_busyUnits_42 rfl ?_
    obtain ⟨o2, hk⟩ := hk
    refine px_callSNi (h := 0) (rc' := 0) (rs' := 0) C (HR_le hHR (Nat.le_of_ble_eq_true rfl)) hRt hnT dX1_busyUnits_44 (List.mem_append_right _ (List.mem_append_left _ (List.mem_of_getElem? (i := 20) rfl))) ms_X8_at (at_ok (j := 1) (q := 0) (n := 40) (loc := 64) (PCx_l C) (PCx_I C) rfl rfl rfl o2) rfl rfl (Nat.le_of_ble_eq_true rfl) (Nat.le_of_ble_eq_true rfl) (Nat.le_of_ble_eq_true rfl) (Nat.le_of_ble_eq_true rfl) ?_
    rintro _ _ ⟨rfl, rfl⟩
    refine px_iload_n (i := 1) C dX1_busyUnits_47 rfl rfl ?_
    refine px_icmp_ne (tgt := 119) C dX1_busyUnits_48 (by decide) (fun c8 => ?_) (fun c8 => ?_)
    · replace hk := hk.1 c8
      refine px_iinc (i := 5) (v := (1 : Int32)) C dX1_busyUnits_119 rfl rfl (by decide) rfl ?_
      refine px_goto (tgt := 9) C dX1_busyUnits_122 (by decide) ?_
      exact PW_at (hR9 _ _ _ _ _ _ hk) (And.intro rfl (And.intro rfl (And.intro rfl (And.intro rfl (And.intro rfl (And.intro rfl trivial)))))) (Nat.le_of_ble_eq_true rfl) (Nat.le_of_ble_eq_true rfl)
    · replace hk := hk.2 c8
      refine px_aload_n (i := 0) C dX1_busyUnits_51 rfl rfl ?_
      refine px_getr C dX1_busyUnits_52 fl_RX1_9 rfl rfl rfl ?_
      refine px_getr C dX1_busyUnits_55 fl_RX1_83 rfl rfl rfl ?_
      refine px_iload (i := 6) C dX1_busyUnits_58 rfl ?_
      obtain ⟨o3, hk⟩ := hk
      refine px_callSNi (h := 0) (rc' := 0) (rs' := 0) C (HR_le hHR (Nat.le_of_ble_eq_true rfl)) hRt hnT dX1_busyUnits_60 (List.mem_append_right _ (List.mem_append_left _ (List.mem_of_getElem? (i := 20) rfl))) ms_X8_at (at_ok (j := 4) (q := 0) (n := 40) (loc := 256) (PCx_l C) (PCx_I C) rfl rfl rfl o3) rfl rfl (Nat.le_of_ble_eq_true rfl) (Nat.le_of_ble_eq_true rfl) (Nat.le_of_ble_eq_true rfl) (Nat.le_of_ble_eq_true rfl) ?_
      rintro _ _ ⟨rfl, rfl⟩
      refine px_iload_n (i := 2) C dX1_busyUnits_63 rfl rfl ?_
      refine px_icmp_ne (tgt := 119) C dX1_busyUnits_64 (by decide) (fun c7 => ?_) (fun c7 => ?_)
      · replace hk := hk.1 c7
        refine px_iinc (i := 5) (v := (1 : Int32)) C dX1_busyUnits_119 rfl rfl (by decide) rfl ?_
        refine px_goto (tgt := 9) C dX1_busyUnits_122 (by decide) ?_
        exact PW_at (hR9 _ _ _ _ _ _ hk) (And.intro rfl (And.intro rfl (And.intro rfl (And.intro rfl (And.intro rfl (And.intro rfl trivial)))))) (Nat.le_of_ble_eq_true rfl) (Nat.le_of_ble_eq_true rfl)
      · replace hk := hk.2 c7
        refine px_aload_n (i := 0) C dX1_busyUnits_67 rfl rfl ?_
        refine px_getr C dX1_busyUnits_68 fl_RX1_15 rfl rfl rfl ?_
        refine px_getr C dX1_busyUnits_71 fl_RX1_29 rfl rfl rfl ?_
        refine px_iload (i := 6) C dX1_busyUnits_74 rfl ?_
        obtain ⟨o4, hk⟩ := hk
        refine px_callSNi (h := 0) (rc' := 0) (rs' := 0) C (HR_le hHR (Nat.le_of_ble_eq_true rfl)) hRt hnT dX1_busyUnits_76 (List.mem_append_right _ (List.mem_append_left _ (List.mem_of_getElem? (i := 20) rfl))) ms_X8_at (at_ok (j := 19) (q := 0) (n := 40) (loc := 1216) (PCx_l C) (PCx_I C) rfl rfl rfl o4) rfl rfl (Nat.le_of_ble_eq_true rfl) (Nat.le_of_ble_eq_true rfl) (Nat.le_of_ble_eq_true rfl) (Nat.le_of_ble_eq_true rfl) ?_
        rintro _ _ ⟨rfl, rfl⟩
        refine px_iload (i := 4) C dX1_busyUnits_79 rfl ?_
        refine px_mmax C (HR_le hHR (Nat.le_of_ble_eq_true rfl)) dX1_busyUnits_81 (gw5 81 rfl rfl) math_max (Nat.le_of_ble_eq_true rfl) ?_
        refine px_istore (i := 7) C dX1_busyUnits_84 (by decide) rfl ?_
        refine px_aload_n (i := 0) C dX1_busyUnits_86 rfl rfl ?_
        refine px_getr C dX1_busyUnits_87 fl_RX1_15 rfl rfl rfl ?_
        refine px_getr C dX1_busyUnits_90 fl_RX1_62 rfl rfl rfl ?_
        refine px_iload (i := 6) C dX1_busyUnits_93 rfl ?_
        obtain ⟨o5, hk⟩ := hk
        refine px_callSNi (h := 0) (rc' := 0) (rs' := 0) C (HR_le hHR (Nat.le_of_ble_eq_true rfl)) hRt hnT dX1_busyUnits_95 (List.mem_append_right _ (List.mem_append_left _ (List.mem_of_getElem? (i := 20) rfl))) ms_X8_at (at_ok (j := 20) (q := 0) (n := 40) (loc := 1280) (PCx_l C) (PCx_I C) rfl rfl rfl o5) rfl rfl (Nat.le_of_ble_eq_true rfl) (Nat.le_of_ble_eq_true rfl) (Nat.le_of_ble_eq_true rfl) (Nat.le_of_ble_eq_true rfl) ?_
        rintro _ _ ⟨rfl, rfl⟩
        refine px_istore (i := 8) C dX1_busyUnits_98 (by decide) rfl ?_
        refine px_iload (i := 7) C dX1_busyUnits_100 rfl ?_
        refine px_iload (i := 8) C dX1_busyUnits_102 rfl ?_
        refine px_icmp_ge (tgt := 119) C dX1_busyUnits_104 (by decide) (fun c6 => ?_) (fun c6 => ?_)
        · replace hk := hk.1 c6
          refine px_iinc (i := 5) (v := (1 : Int32)) C dX1_busyUnits_119 rfl rfl (by decide) rfl ?_
          refine px_goto (tgt := 9) C dX1_busyUnits_122 (by decide) ?_
          exact PW_at (hR9 _ _ _ _ _ _ hk) (And.intro rfl (And.intro rfl (And.intro rfl (And.intro rfl (And.intro rfl (And.intro rfl trivial)))))) (Nat.le_of_ble_eq_true rfl) (Nat.le_of_ble_eq_true rfl)
        · replace hk := hk.2 c6
          refine px_iload_n (i := 3) C dX1_busyUnits_107 rfl rfl ?_
          refine px_iload (i := 8) C dX1_busyUnits_108 rfl ?_
          refine px_iload (i := 7) C dX1_busyUnits_110 rfl ?_
          refine px_isub C dX1_busyUnits_112 ?_
          refine px_iadd C dX1_busyUnits_113 ?_
          refine px_istore_n (i := 3) C dX1_busyUnits_114 rfl (by decide) rfl ?_
          refine px_iload (i := 8) C dX1_busyUnits_115 rfl ?_
          refine px_istore (i := 4) C dX1_busyUnits_117 (by decide) rfl ?_
          refine px_iinc (i := 5) (v := (1 : Int32)) C dX1_busyUnits_119 rfl rfl (by decide) rfl ?_
          refine px_goto (tgt := 9) C dX1_busyUnits_122 (by decide) ?_
          exact PW_at (hR9 _ _ _ _ _ _ hk) (And.intro rfl (And.intro rfl (And.intro rfl (And.intro rfl (And.intro rfl (And.intro rfl trivial)))))) (Nat.le_of_ble_eq_true rfl) (Nat.le_of_ble_eq_true rfl)
set_option maxRecDepth 100000 in
set_option maxHeartbeats 4000000 in
theorem w1_busyUnits_ok {l : Launch} {idx : List (Nat × Nat)} {μ : Mem} {a1 : Int32} {a2 : Int32} {P : Int32 → Mem → Prop} {X : String → Mem → Prop} (hl : l.stackTraces = false) (hI : IdxOK idx) (hk : w1_busyUnits_wp μ a1 a2 P) : PMet l yX1_busyUnits (.code yX1_busyUnits cX1_busyUnits 9 (some .int)) 1 0 0 idx [pR 34 0, pI a1, pI a2] μ (qI P) X := by
  refine PMet_of mv_X1_busyUnits.2.2.2.2.2.2 hl hI mv_X1_busyUnits.2.2.2.1 rfl (Nat.le_of_ble_eq_true rfl) (fun G _ _ C hRt hHR hnT => ?_)
  show PW G 0 0 0 [some (pR 34 0), some (pI a1), some (pI a2), none, none, none, none, none, none] [] μ
  unfold w1_busyUnits_wp at hk
  refine px_iconst (v := (0 : Int32)) C dX1_busyUnits_0 rfl ?_
  refine px_istore_n (i := 3) C dX1_busyUnits_1 rfl (by decide) rfl ?_
  refine px_ldc (v := (-1000000 : Int32)) C dX1_busyUnits_2 (gw5 215 rfl rfl) ?_
  refine px_istore (i := 4) C dX1_busyUnits_4 (by decide) rfl ?_
  refine px_iconst (v := (0 : Int32)) C dX1_busyUnits_6 rfl ?_
  refine px_istore (i := 5) C dX1_busyUnits_7 (by decide) rfl ?_
  exact PW_at (w1_busyUnits_b9_ok C hRt hHR hnT hk) (And.intro rfl (And.intro rfl (And.intro rfl (And.intro rfl (And.intro rfl (And.intro rfl trivial)))))) (Nat.le_of_ble_eq_true rfl) (Nat.le_of_ble_eq_true rfl)
theorem dX1_busiestService_0 : decode cX1_busiestService 0 = .ok (.iconst 0, 1) := by decide +kernel
theorem dX1_busiestService_1 : decode cX1_busiestService 1 = .ok (.istore_n 2, 1) := by decide +kernel
theorem dX1_busiestService_2 : decode cX1_busiestService 2 = .ok (.aload_n 0, 1) := by decide +kernel
theorem dX1_busiestService_3 : decode cX1_busiestService 3 = .ok (.iload_n 1, 1) := by decide +kernel
theorem dX1_busiestService_4 : decode cX1_busiestService 4 = .ok (.iconst 0, 1) := by decide +kernel
theorem dX1_busiestService_5 : decode cX1_busiestService 5 = .ok (.invokevirtual 109, 3) := by decide +kernel
theorem dX1_busiestService_8 : decode cX1_busiestService 8 = .ok (.istore_n 3, 1) := by decide +kernel
theorem dX1_busiestService_9 : decode cX1_busiestService 9 = .ok (.iconst 1, 1) := by decide +kernel
theorem dX1_busiestService_10 : decode cX1_busiestService 10 = .ok (.istore 4, 2) := by decide +kernel
theorem dX1_busiestService_12 : decode cX1_busiestService 12 = .ok (.iload 4, 2) := by decide +kernel
theorem dX1_busiestService_14 : decode cX1_busiestService 14 = .ok (.bipush 8, 2) := by decide +kernel
theorem dX1_busiestService_16 : decode cX1_busiestService 16 = .ok (.if_icmp .ge 30, 3) := by decide +kernel
theorem dX1_busiestService_19 : decode cX1_busiestService 19 = .ok (.aload_n 0, 1) := by decide +kernel
theorem dX1_busiestService_20 : decode cX1_busiestService 20 = .ok (.iload_n 1, 1) := by decide +kernel
theorem dX1_busiestService_21 : decode cX1_busiestService 21 = .ok (.iload 4, 2) := by decide +kernel
theorem dX1_busiestService_23 : decode cX1_busiestService 23 = .ok (.invokevirtual 109, 3) := by decide +kernel
theorem dX1_busiestService_26 : decode cX1_busiestService 26 = .ok (.istore 5, 2) := by decide +kernel
theorem dX1_busiestService_28 : decode cX1_busiestService 28 = .ok (.iload 5, 2) := by decide +kernel
theorem dX1_busiestService_30 : decode cX1_busiestService 30 = .ok (.iload_n 3, 1) := by decide +kernel
theorem dX1_busiestService_31 : decode cX1_busiestService 31 = .ok (.if_icmp .le 9, 3) := by decide +kernel
theorem dX1_busiestService_34 : decode cX1_busiestService 34 = .ok (.iload 4, 2) := by decide +kernel
theorem dX1_busiestService_36 : decode cX1_busiestService 36 = .ok (.istore_n 2, 1) := by decide +kernel
theorem dX1_busiestService_37 : decode cX1_busiestService 37 = .ok (.iload 5, 2) := by decide +kernel
theorem dX1_busiestService_39 : decode cX1_busiestService 39 = .ok (.istore_n 3, 1) := by decide +kernel
theorem dX1_busiestService_40 : decode cX1_busiestService 40 = .ok (.iinc 4 1, 3) := by decide +kernel
theorem dX1_busiestService_43 : decode cX1_busiestService 43 = .ok (.goto (-31), 3) := by decide +kernel
theorem dX1_busiestService_46 : decode cX1_busiestService 46 = .ok (.iload_n 2, 1) := by decide +kernel
theorem dX1_busiestService_47 : decode cX1_busiestService 47 = .ok (.ireturn, 1) := by decide +kernel
set_option maxRecDepth 100000 in
set_option maxHeartbeats 4000000 in
theorem w1_busiestService_b12_ok {G : GT} {P : Int32 → Mem → Prop} {X : String → Mem → Prop} (C : PCx G cX1_busiestService 6 RX1) (hRt : PRt G (some .int) (qI P) X) (hHR : HR G (2)) (hnT : NoT G) {μ : Mem} {l1 : Int32} {l2 : Int32} {l3 : Int32} {l4 : Int32} (hk : w1_busiestService_b12 P μ l1 l2 l3 l4) : PW G 0 0 12 [some (pR 34 0), some (pI l1), some (pI l2), some (pI l3), some (pI l4), none] [] μ := by
  refine hk (fun (μ : Mem) (l1 : Int32) (l2 : Int32) (l3 : Int32) (l4 : Int32) => PW G 0 0 12 [some (pR 34 0), some (pI l1), some (pI l2), some (pI l3), some (pI l4), none] [] μ) (fun (μ : Mem) l1 l2 l3 l4 hk => ?_)
  have hR12 : ∀ (μ : Mem) (l1 : Int32) (l2 : Int32) (l3 : Int32) (l4 : Int32), PW G 0 0 12 [some (pR 34 0), some (pI l1), some (pI l2), some (pI l3), some (pI l4), none] [] μ → PW G 0 0 12 [some (pR 34 0), some (pI l1), some (pI l2), some (pI l3), some (pI l4), none] [] μ := fun _ _ _ _ _ h => h
  unfold w1_busiestService_b12_body at hk
  refine px_iload (i := 4) C dX1_busiestService_12 rfl ?_
  refine px_bipush (v := (8 : Int32)) C dX1_busiestService_14 rfl ?_
  refine px_icmp_ge (tgt := 46) C dX1_busiestService_16 (by decide) (fun c6 => ?_) (fun c6 => ?_)
  · replace hk := hk.1 c6
    refine px_iload_n (i := 2) C dX1_busiestService_46 rfl rfl ?_
    exact px_iret C hRt dX1_busiestService_47 rfl rfl hk
  · replace hk := hk.2 c6
    refine px_aload_n (i := 0) C dX1_busiestService_19 rfl rfl ?_
    refine px_iload_n (i := 1) C dX1_busiestService_20 rfl rfl ?_
    refine px_iload (i := 4) C dX1_busiestService_21 rfl ?_
    refine px_callVi (h := 1) (rc' := 0) (rs' := 0) C (HR_le hHR (Nat.le_of_ble_eq_true rfl)) hRt hnT dX1_busiestService_23 (gw6 8 rfl rfl) mv_X1_busyUnits (w1_busyUnits_ok (PCx_l C) (PCx_I C) hk) rfl rfl rfl rfl rfl (Nat.le_of_ble_eq_true rfl) (Nat.le_of_ble_eq_true rfl) (Nat.le_of_ble_eq_true rfl) (Nat.le_of_ble_eq_true rfl) ?_
    intro r4 μ3 hk
    refine px_istore (i := 5) C dX1_busiestService_26 (by decide) rfl ?_
    refine px_iload (i := 5) C dX1_busiestService_28 rfl ?_
    refine px_iload_n (i := 3) C dX1_busiestService_30 rfl rfl ?_
    refine px_icmp_le (tgt := 40) C dX1_busiestService_31 (by decide) (fun c5 => ?_) (fun c5 => ?_)
    · replace hk := hk.1 c5
      refine px_iinc (i := 4) (v := (1 : Int32)) C dX1_busiestService_40 rfl rfl (by decide) rfl ?_
      refine px_goto (tgt := 12) C dX1_busiestService_43 (by decide) ?_
      exact PW_at (hR12 _ _ _ _ _ hk) (And.intro rfl (And.intro rfl (And.intro rfl (And.intro rfl (And.intro rfl trivial))))) (Nat.le_of_ble_eq_true rfl) (Nat.le_of_ble_eq_true rfl)
    · replace hk := hk.2 c5
      refine px_iload (i := 4) C dX1_busiestService_34 rfl ?_
      refine px_istore_n (i := 2) C dX1_busiestService_36 rfl (by decide) rfl ?_
      refine px_iload (i := 5) C dX1_busiestService_37 rfl ?_
      refine px_istore_n (i := 3) C dX1_busiestService_39 rfl (by decide) rfl ?_
      refine px_iinc (i := 4) (v := (1 : Int32)) C dX1_busiestService_40 rfl rfl (by decide) rfl ?_
      refine px_goto (tgt := 12) C dX1_busiestService_43 (by decide) ?_
      exact PW_at (hR12 _ _ _ _ _ hk) (And.intro rfl (And.intro rfl (And.intro rfl (And.intro rfl (And.intro rfl trivial))))) (Nat.le_of_ble_eq_true rfl) (Nat.le_of_ble_eq_true rfl)
set_option maxRecDepth 100000 in
set_option maxHeartbeats 4000000 in
theorem w1_busiestService_ok {l : Launch} {idx : List (Nat × Nat)} {μ : Mem} {a1 : Int32} {P : Int32 → Mem → Prop} {X : String → Mem → Prop} (hl : l.stackTraces = false) (hI : IdxOK idx) (hk : w1_busiestService_wp μ a1 P) : PMet l yX1_busiestService (.code yX1_busiestService cX1_busiestService 6 (some .int)) 2 0 0 idx [pR 34 0, pI a1] μ (qI P) X := by
  refine PMet_of mv_X1_busiestService.2.2.2.2.2.2 hl hI mv_X1_busiestService.2.2.2.1 rfl (Nat.le_of_ble_eq_true rfl) (fun G _ _ C hRt hHR hnT => ?_)
  show PW G 0 0 0 [some (pR 34 0), some (pI a1), none, none, none, none] [] μ
  unfold w1_busiestService_wp at hk
  refine px_iconst (v := (0 : Int32)) C dX1_busiestService_0 rfl ?_
  refine px_istore_n (i := 2) C dX1_busiestService_1 rfl (by decide) rfl ?_
  refine px_aload_n (i := 0) C dX1_busiestService_2 rfl rfl ?_
  refine px_iload_n (i := 1) C dX1_busiestService_3 rfl rfl ?_
  refine px_iconst (v := (0 : Int32)) C dX1_busiestService_4 rfl ?_
  refine px_callVi (h := 1) (rc' := 0) (rs' := 0) C (HR_le hHR (Nat.le_of_ble_eq_true rfl)) hRt hnT dX1_busiestService_5 (gw6 8 rfl rfl) mv_X1_busyUnits (w1_busyUnits_ok (PCx_l C) (PCx_I C) hk) rfl rfl rfl rfl rfl (Nat.le_of_ble_eq_true rfl) (Nat.le_of_ble_eq_true rfl) (Nat.le_of_ble_eq_true rfl) (Nat.le_of_ble_eq_true rfl) ?_
  intro r2 μ1 hk
  refine px_istore_n (i := 3) C dX1_busiestService_8 rfl (by decide) rfl ?_
  refine px_iconst (v := (1 : Int32)) C dX1_busiestService_9 rfl ?_
  refine px_istore (i := 4) C dX1_busiestService_10 (by decide) rfl ?_
  exact PW_at (w1_busiestService_b12_ok C hRt hHR hnT hk) (And.intro rfl (And.intro rfl (And.intro rfl (And.intro rfl (And.intro rfl trivial))))) (Nat.le_of_ble_eq_true rfl) (Nat.le_of_ble_eq_true rfl)
theorem dX2_nodeOver_0 : decode cX2_nodeOver 0 = .ok (.aload_n 0, 1) := by decide +kernel
theorem dX2_nodeOver_1 : decode cX2_nodeOver 1 = .ok (.getfield 21, 3) := by decide +kernel
theorem dX2_nodeOver_4 : decode cX2_nodeOver 4 = .ok (.iload_n 1, 1) := by decide +kernel
theorem dX2_nodeOver_5 : decode cX2_nodeOver 5 = .ok (.invokestatic 54, 3) := by decide +kernel
theorem dX2_nodeOver_8 : decode cX2_nodeOver 8 = .ok (.lookupswitch 56 #[(1, 28), (2, 40)], 28) := by decide +kernel
theorem dX2_nodeOver_36 : decode cX2_nodeOver 36 = .ok (.aload_n 0, 1) := by decide +kernel
theorem dX2_nodeOver_37 : decode cX2_nodeOver 37 = .ok (.getfield 37, 3) := by decide +kernel
theorem dX2_nodeOver_40 : decode cX2_nodeOver 40 = .ok (.getfield 101, 3) := by decide +kernel
theorem dX2_nodeOver_43 : decode cX2_nodeOver 43 = .ok (.iload_n 1, 1) := by decide +kernel
theorem dX2_nodeOver_44 : decode cX2_nodeOver 44 = .ok (.invokestatic 54, 3) := by decide +kernel
theorem dX2_nodeOver_47 : decode cX2_nodeOver 47 = .ok (.ireturn, 1) := by decide +kernel
theorem dX2_nodeOver_48 : decode cX2_nodeOver 48 = .ok (.sipush 1000, 3) := by decide +kernel
theorem dX2_nodeOver_51 : decode cX2_nodeOver 51 = .ok (.aload_n 0, 1) := by decide +kernel
theorem dX2_nodeOver_52 : decode cX2_nodeOver 52 = .ok (.getfield 37, 3) := by decide +kernel
theorem dX2_nodeOver_55 : decode cX2_nodeOver 55 = .ok (.getfield 101, 3) := by decide +kernel
theorem dX2_nodeOver_58 : decode cX2_nodeOver 58 = .ok (.iload_n 1, 1) := by decide +kernel
theorem dX2_nodeOver_59 : decode cX2_nodeOver 59 = .ok (.invokestatic 54, 3) := by decide +kernel
theorem dX2_nodeOver_62 : decode cX2_nodeOver 62 = .ok (.iadd, 1) := by decide +kernel
theorem dX2_nodeOver_63 : decode cX2_nodeOver 63 = .ok (.ireturn, 1) := by decide +kernel
theorem dX2_nodeOver_64 : decode cX2_nodeOver 64 = .ok (.iconst (-1), 1) := by decide +kernel
theorem dX2_nodeOver_65 : decode cX2_nodeOver 65 = .ok (.ireturn, 1) := by decide +kernel
set_option maxRecDepth 100000 in
set_option maxHeartbeats 4000000 in
theorem w2_nodeOver_ok {l : Launch} {idx : List (Nat × Nat)} {μ : Mem} {a1 : Int32} {P : Int32 → Mem → Prop} {X : String → Mem → Prop} (hl : l.stackTraces = false) (hI : IdxOK idx) (hk : w2_nodeOver_wp μ a1 P) : PMet l yX2_nodeOver (.code yX2_nodeOver cX2_nodeOver 2 (some .int)) 1 0 0 idx [pR 18 0, pI a1] μ (qI P) X := by
  refine PMet_of mv_X2_nodeOver.2.2.2.2.2.2 hl hI mv_X2_nodeOver.2.2.2.1 rfl (Nat.le_of_ble_eq_true rfl) (fun G _ _ C hRt hHR hnT => ?_)
  show PW G 0 0 0 [some (pR 18 0), some (pI a1)] [] μ
  unfold w2_nodeOver_wp at hk
  refine px_aload_n (i := 0) C dX2_nodeOver_0 rfl rfl ?_
  refine px_getr C dX2_nodeOver_1 fl_RX2_21 rfl rfl rfl ?_
  refine px_iload_n (i := 1) C dX2_nodeOver_4 rfl rfl ?_
  obtain ⟨o1, hk⟩ := hk
  refine px_callSNi (h := 0) (rc' := 0) (rs' := 0) C (HR_le hHR (Nat.le_of_ble_eq_true rfl)) hRt hnT dX2_nodeOver_5 (List.mem_append_right _ (List.mem_append_left _ (List.mem_of_getElem? (i := 7) rfl))) ms_X8_at (at_ok (j := 22) (q := 0) (n := 40) (loc := 1408) (PCx_l C) (PCx_I C) rfl rfl rfl o1) rfl rfl (Nat.le_of_ble_eq_true rfl) (Nat.le_of_ble_eq_true rfl) (Nat.le_of_ble_eq_true rfl) (Nat.le_of_ble_eq_true rfl) ?_
  rintro _ _ ⟨rfl, rfl⟩
  by_cases c4_0 : (μ 1408 0 (a1).toNatClampNeg) = (1 : Int32)
  · replace hk := hk.1 c4_0
    refine px_lsw (tgt := 36) (off := 28) C dX2_nodeOver_8 c4_0 (by decide) (by decide) (by decide) ?_
    refine px_aload_n (i := 0) C dX2_nodeOver_36 rfl rfl ?_
    refine px_getr C dX2_nodeOver_37 fl_RX2_37 rfl rfl rfl ?_
    refine px_getr C dX2_nodeOver_40 fl_RX2_101 rfl rfl rfl ?_
    refine px_iload_n (i := 1) C dX2_nodeOver_43 rfl rfl ?_
    obtain ⟨o2, hk⟩ := hk
    refine px_callSNi (h := 0) (rc' := 0) (rs' := 0) C (HR_le hHR (Nat.le_of_ble_eq_true rfl)) hRt hnT dX2_nodeOver_44 (List.mem_append_right _ (List.mem_append_left _ (List.mem_of_getElem? (i := 7) rfl))) ms_X8_at (at_ok (j := 3) (q := 0) (n := 40) (loc := 192) (PCx_l C) (PCx_I C) rfl rfl rfl o2) rfl rfl (Nat.le_of_ble_eq_true rfl) (Nat.le_of_ble_eq_true rfl) (Nat.le_of_ble_eq_true rfl) (Nat.le_of_ble_eq_true rfl) ?_
    rintro _ _ ⟨rfl, rfl⟩
    exact px_iret C hRt dX2_nodeOver_47 rfl rfl hk
  · skip
    by_cases c4_1 : (μ 1408 0 (a1).toNatClampNeg) = (2 : Int32)
    · replace hk := hk.2.1 c4_1
      refine px_lsw (tgt := 48) (off := 40) C dX2_nodeOver_8 c4_1 (by decide) (by decide) (by decide) ?_
      refine px_sipush (v := (1000 : Int32)) C dX2_nodeOver_48 rfl ?_
      refine px_aload_n (i := 0) C dX2_nodeOver_51 rfl rfl ?_
      refine px_getr C dX2_nodeOver_52 fl_RX2_37 rfl rfl rfl ?_
      refine px_getr C dX2_nodeOver_55 fl_RX2_101 rfl rfl rfl ?_
      refine px_iload_n (i := 1) C dX2_nodeOver_58 rfl rfl ?_
      obtain ⟨o3, hk⟩ := hk
      refine px_callSNi (h := 0) (rc' := 0) (rs' := 0) C (HR_le hHR (Nat.le_of_ble_eq_true rfl)) hRt hnT dX2_nodeOver_59 (List.mem_append_right _ (List.mem_append_left _ (List.mem_of_getElem? (i := 7) rfl))) ms_X8_at (at_ok (j := 3) (q := 0) (n := 40) (loc := 192) (PCx_l C) (PCx_I C) rfl rfl rfl o3) rfl rfl (Nat.le_of_ble_eq_true rfl) (Nat.le_of_ble_eq_true rfl) (Nat.le_of_ble_eq_true rfl) (Nat.le_of_ble_eq_true rfl) ?_
      rintro _ _ ⟨rfl, rfl⟩
      refine px_iadd C dX2_nodeOver_62 ?_
      exact px_iret C hRt dX2_nodeOver_63 rfl rfl hk
    · skip
      replace hk := hk.2.2 ⟨c4_0, c4_1⟩
      refine px_lsw2 (tgt := 64) (off := 56) C dX2_nodeOver_8 (by decide) (lsw_out2 c4_0 c4_1 rfl rfl) (by decide) ?_
      refine px_iconst (v := (-1 : Int32)) C dX2_nodeOver_64 rfl ?_
      exact px_iret C hRt dX2_nodeOver_65 rfl rfl hk
theorem dX2_isEarlier_0 : decode cX2_isEarlier 0 = .ok (.aload_n 0, 1) := by decide +kernel
theorem dX2_isEarlier_1 : decode cX2_isEarlier 1 = .ok (.getfield 9, 3) := by decide +kernel
theorem dX2_isEarlier_4 : decode cX2_isEarlier 4 = .ok (.iload_n 1, 1) := by decide +kernel
theorem dX2_isEarlier_5 : decode cX2_isEarlier 5 = .ok (.invokestatic 54, 3) := by decide +kernel
theorem dX2_isEarlier_8 : decode cX2_isEarlier 8 = .ok (.aload_n 0, 1) := by decide +kernel
theorem dX2_isEarlier_9 : decode cX2_isEarlier 9 = .ok (.getfield 9, 3) := by decide +kernel
theorem dX2_isEarlier_12 : decode cX2_isEarlier 12 = .ok (.iload_n 2, 1) := by decide +kernel
theorem dX2_isEarlier_13 : decode cX2_isEarlier 13 = .ok (.invokestatic 54, 3) := by decide +kernel
theorem dX2_isEarlier_16 : decode cX2_isEarlier 16 = .ok (.if_icmp .lt 47, 3) := by decide +kernel
theorem dX2_isEarlier_19 : decode cX2_isEarlier 19 = .ok (.aload_n 0, 1) := by decide +kernel
theorem dX2_isEarlier_20 : decode cX2_isEarlier 20 = .ok (.getfield 9, 3) := by decide +kernel
theorem dX2_isEarlier_23 : decode cX2_isEarlier 23 = .ok (.iload_n 1, 1) := by decide +kernel
theorem dX2_isEarlier_24 : decode cX2_isEarlier 24 = .ok (.invokestatic 54, 3) := by decide +kernel
theorem dX2_isEarlier_27 : decode cX2_isEarlier 27 = .ok (.aload_n 0, 1) := by decide +kernel
theorem dX2_isEarlier_28 : decode cX2_isEarlier 28 = .ok (.getfield 9, 3) := by decide +kernel
theorem dX2_isEarlier_31 : decode cX2_isEarlier 31 = .ok (.iload_n 2, 1) := by decide +kernel
theorem dX2_isEarlier_32 : decode cX2_isEarlier 32 = .ok (.invokestatic 54, 3) := by decide +kernel
theorem dX2_isEarlier_35 : decode cX2_isEarlier 35 = .ok (.if_icmp .ne 32, 3) := by decide +kernel
theorem dX2_isEarlier_38 : decode cX2_isEarlier 38 = .ok (.aload_n 0, 1) := by decide +kernel
theorem dX2_isEarlier_39 : decode cX2_isEarlier 39 = .ok (.getfield 37, 3) := by decide +kernel
theorem dX2_isEarlier_42 : decode cX2_isEarlier 42 = .ok (.getfield 108, 3) := by decide +kernel
theorem dX2_isEarlier_45 : decode cX2_isEarlier 45 = .ok (.iload_n 1, 1) := by decide +kernel
theorem dX2_isEarlier_46 : decode cX2_isEarlier 46 = .ok (.invokestatic 54, 3) := by decide +kernel
theorem dX2_isEarlier_49 : decode cX2_isEarlier 49 = .ok (.aload_n 0, 1) := by decide +kernel
theorem dX2_isEarlier_50 : decode cX2_isEarlier 50 = .ok (.getfield 37, 3) := by decide +kernel
theorem dX2_isEarlier_53 : decode cX2_isEarlier 53 = .ok (.getfield 108, 3) := by decide +kernel
theorem dX2_isEarlier_56 : decode cX2_isEarlier 56 = .ok (.iload_n 2, 1) := by decide +kernel
theorem dX2_isEarlier_57 : decode cX2_isEarlier 57 = .ok (.invokestatic 54, 3) := by decide +kernel
theorem dX2_isEarlier_60 : decode cX2_isEarlier 60 = .ok (.if_icmp .ge 7, 3) := by decide +kernel
theorem dX2_isEarlier_63 : decode cX2_isEarlier 63 = .ok (.iconst 1, 1) := by decide +kernel
theorem dX2_isEarlier_64 : decode cX2_isEarlier 64 = .ok (.goto 4, 3) := by decide +kernel
theorem dX2_isEarlier_67 : decode cX2_isEarlier 67 = .ok (.iconst 0, 1) := by decide +kernel
theorem dX2_isEarlier_68 : decode cX2_isEarlier 68 = .ok (.ireturn, 1) := by decide +kernel
set_option maxRecDepth 100000 in
set_option maxHeartbeats 4000000 in
theorem w2_isEarlier_ok {l : Launch} {idx : List (Nat × Nat)} {μ : Mem} {a1 : Int32} {a2 : Int32} {P : Int32 → Mem → Prop} {X : String → Mem → Prop} (hl : l.stackTraces = false) (hI : IdxOK idx) (hk : w2_isEarlier_wp μ a1 a2 P) : PMet l yX2_isEarlier (.code yX2_isEarlier cX2_isEarlier 3 (some .boolean)) 1 0 0 idx [pR 18 0, pI a1, pI a2] μ (qI P) X := by
  refine PMet_of mv_X2_isEarlier.2.2.2.2.2.2 hl hI mv_X2_isEarlier.2.2.2.1 rfl (Nat.le_of_ble_eq_true rfl) (fun G _ _ C hRt hHR hnT => ?_)
  show PW G 0 0 0 [some (pR 18 0), some (pI a1), some (pI a2)] [] μ
  unfold w2_isEarlier_wp at hk
  refine px_aload_n (i := 0) C dX2_isEarlier_0 rfl rfl ?_
  refine px_getr C dX2_isEarlier_1 fl_RX2_9 rfl rfl rfl ?_
  refine px_iload_n (i := 1) C dX2_isEarlier_4 rfl rfl ?_
  obtain ⟨o1, hk⟩ := hk
  refine px_callSNi (h := 0) (rc' := 0) (rs' := 0) C (HR_le hHR (Nat.le_of_ble_eq_true rfl)) hRt hnT dX2_isEarlier_5 (List.mem_append_right _ (List.mem_append_left _ (List.mem_of_getElem? (i := 7) rfl))) ms_X8_at (at_ok (j := 19) (q := 0) (n := 40) (loc := 1216) (PCx_l C) (PCx_I C) rfl rfl rfl o1) rfl rfl (Nat.le_of_ble_eq_true rfl) (Nat.le_of_ble_eq_true rfl) (Nat.le_of_ble_eq_true rfl) (Nat.le_of_ble_eq_true rfl) ?_
  rintro _ _ ⟨rfl, rfl⟩
  refine px_aload_n (i := 0) C dX2_isEarlier_8 rfl rfl ?_
  refine px_getr C dX2_isEarlier_9 fl_RX2_9 rfl rfl rfl ?_
  refine px_iload_n (i := 2) C dX2_isEarlier_12 rfl rfl ?_
  obtain ⟨o2, hk⟩ := hk
  refine px_callSNi (h := 0) (rc' := 0) (rs' := 0) C (HR_le hHR (Nat.le_of_ble_eq_true rfl)) hRt hnT dX2_isEarlier_13 (List.mem_append_right _ (List.mem_append_left _ (List.mem_of_getElem? (i := 7) rfl))) ms_X8_at (at_ok (j := 19) (q := 0) (n := 40) (loc := 1216) (PCx_l C) (PCx_I C) rfl rfl rfl o2) rfl rfl (Nat.le_of_ble_eq_true rfl) (Nat.le_of_ble_eq_true rfl) (Nat.le_of_ble_eq_true rfl) (Nat.le_of_ble_eq_true rfl) ?_
  rintro _ _ ⟨rfl, rfl⟩
  refine px_icmp_lt (tgt := 63) C dX2_isEarlier_16 (by decide) (fun c9 => ?_) (fun c9 => ?_)
  · replace hk := hk.1 c9
    refine px_iconst (v := (1 : Int32)) C dX2_isEarlier_63 rfl ?_
    refine px_goto (tgt := 68) C dX2_isEarlier_64 (by decide) ?_
    exact px_iret C hRt dX2_isEarlier_68 rfl rfl hk
  · replace hk := hk.2 c9
    refine px_aload_n (i := 0) C dX2_isEarlier_19 rfl rfl ?_
    refine px_getr C dX2_isEarlier_20 fl_RX2_9 rfl rfl rfl ?_
    refine px_iload_n (i := 1) C dX2_isEarlier_23 rfl rfl ?_
    obtain ⟨o3, hk⟩ := hk
    refine px_callSNi (h := 0) (rc' := 0) (rs' := 0) C (HR_le hHR (Nat.le_of_ble_eq_true rfl)) hRt hnT dX2_isEarlier_24 (List.mem_append_right _ (List.mem_append_left _ (List.mem_of_getElem? (i := 7) rfl))) ms_X8_at (at_ok (j := 19) (q := 0) (n := 40) (loc := 1216) (PCx_l C) (PCx_I C) rfl rfl rfl o3) rfl rfl (Nat.le_of_ble_eq_true rfl) (Nat.le_of_ble_eq_true rfl) (Nat.le_of_ble_eq_true rfl) (Nat.le_of_ble_eq_true rfl) ?_
    rintro _ _ ⟨rfl, rfl⟩
    refine px_aload_n (i := 0) C dX2_isEarlier_27 rfl rfl ?_
    refine px_getr C dX2_isEarlier_28 fl_RX2_9 rfl rfl rfl ?_
    refine px_iload_n (i := 2) C dX2_isEarlier_31 rfl rfl ?_
    obtain ⟨o4, hk⟩ := hk
    refine px_callSNi (h := 0) (rc' := 0) (rs' := 0) C (HR_le hHR (Nat.le_of_ble_eq_true rfl)) hRt hnT dX2_isEarlier_32 (List.mem_append_right _ (List.mem_append_left _ (List.mem_of_getElem? (i := 7) rfl))) ms_X8_at (at_ok (j := 19) (q := 0) (n := 40) (loc := 1216) (PCx_l C) (PCx_I C) rfl rfl rfl o4) rfl rfl (Nat.le_of_ble_eq_true rfl) (Nat.le_of_ble_eq_true rfl) (Nat.le_of_ble_eq_true rfl) (Nat.le_of_ble_eq_true rfl) ?_
    rintro _ _ ⟨rfl, rfl⟩
    refine px_icmp_ne (tgt := 67) C dX2_isEarlier_35 (by decide) (fun c8 => ?_) (fun c8 => ?_)
    · replace hk := hk.1 c8
      refine px_iconst (v := (0 : Int32)) C dX2_isEarlier_67 rfl ?_
      exact px_iret C hRt dX2_isEarlier_68 rfl rfl hk
    · replace hk := hk.2 c8
      refine px_aload_n (i := 0) C dX2_isEarlier_38 rfl rfl ?_
      refine px_getr C dX2_isEarlier_39 fl_RX2_37 rfl rfl rfl ?_
      refine px_getr C dX2_isEarlier_42 fl_RX2_108 rfl rfl rfl ?_
      refine px_iload_n (i := 1) C dX2_isEarlier_45 rfl rfl ?_
      obtain ⟨o5, hk⟩ := hk
      refine px_callSNi (h := 0) (rc' := 0) (rs' := 0) C (HR_le hHR (Nat.le_of_ble_eq_true rfl)) hRt hnT dX2_isEarlier_46 (List.mem_append_right _ (List.mem_append_left _ (List.mem_of_getElem? (i := 7) rfl))) ms_X8_at (at_ok (j := 2) (q := 0) (n := 40) (loc := 128) (PCx_l C) (PCx_I C) rfl rfl rfl o5) rfl rfl (Nat.le_of_ble_eq_true rfl) (Nat.le_of_ble_eq_true rfl) (Nat.le_of_ble_eq_true rfl) (Nat.le_of_ble_eq_true rfl) ?_
      rintro _ _ ⟨rfl, rfl⟩
      refine px_aload_n (i := 0) C dX2_isEarlier_49 rfl rfl ?_
      refine px_getr C dX2_isEarlier_50 fl_RX2_37 rfl rfl rfl ?_
      refine px_getr C dX2_isEarlier_53 fl_RX2_108 rfl rfl rfl ?_
      refine px_iload_n (i := 2) C dX2_isEarlier_56 rfl rfl ?_
      obtain ⟨o6, hk⟩ := hk
      refine px_callSNi (h := 0) (rc' := 0) (rs' := 0) C (HR_le hHR (Nat.le_of_ble_eq_true rfl)) hRt hnT dX2_isEarlier_57 (List.mem_append_right _ (List.mem_append_left _ (List.mem_of_getElem? (i := 7) rfl))) ms_X8_at (at_ok (j := 2) (q := 0) (n := 40) (loc := 128) (PCx_l C) (PCx_I C) rfl rfl rfl o6) rfl rfl (Nat.le_of_ble_eq_true rfl) (Nat.le_of_ble_eq_true rfl) (Nat.le_of_ble_eq_true rfl) (Nat.le_of_ble_eq_true rfl) ?_
      rintro _ _ ⟨rfl, rfl⟩
      refine px_icmp_ge (tgt := 67) C dX2_isEarlier_60 (by decide) (fun c7 => ?_) (fun c7 => ?_)
      · replace hk := hk.1 c7
        refine px_iconst (v := (0 : Int32)) C dX2_isEarlier_67 rfl ?_
        exact px_iret C hRt dX2_isEarlier_68 rfl rfl hk
      · replace hk := hk.2 c7
        refine px_iconst (v := (1 : Int32)) C dX2_isEarlier_63 rfl ?_
        refine px_goto (tgt := 68) C dX2_isEarlier_64 (by decide) ?_
        exact px_iret C hRt dX2_isEarlier_68 rfl rfl hk
theorem dX2_isChild_0 : decode cX2_isChild 0 = .ok (.aload_n 0, 1) := by decide +kernel
theorem dX2_isChild_1 : decode cX2_isChild 1 = .ok (.getfield 27, 3) := by decide +kernel
theorem dX2_isChild_4 : decode cX2_isChild 4 = .ok (.iload_n 1, 1) := by decide +kernel
theorem dX2_isChild_5 : decode cX2_isChild 5 = .ok (.invokestatic 54, 3) := by decide +kernel
theorem dX2_isChild_8 : decode cX2_isChild 8 = .ok (.iload_n 3, 1) := by decide +kernel
theorem dX2_isChild_9 : decode cX2_isChild 9 = .ok (.if_icmp .ne 22, 3) := by decide +kernel
theorem dX2_isChild_12 : decode cX2_isChild 12 = .ok (.aload_n 0, 1) := by decide +kernel
theorem dX2_isChild_13 : decode cX2_isChild 13 = .ok (.getfield 37, 3) := by decide +kernel
theorem dX2_isChild_16 : decode cX2_isChild 16 = .ok (.getfield 117, 3) := by decide +kernel
theorem dX2_isChild_19 : decode cX2_isChild 19 = .ok (.iload_n 1, 1) := by decide +kernel
theorem dX2_isChild_20 : decode cX2_isChild 20 = .ok (.invokestatic 54, 3) := by decide +kernel
theorem dX2_isChild_23 : decode cX2_isChild 23 = .ok (.iload_n 2, 1) := by decide +kernel
theorem dX2_isChild_24 : decode cX2_isChild 24 = .ok (.if_icmp .ne 7, 3) := by decide +kernel
theorem dX2_isChild_27 : decode cX2_isChild 27 = .ok (.iconst 1, 1) := by decide +kernel
theorem dX2_isChild_28 : decode cX2_isChild 28 = .ok (.goto 4, 3) := by decide +kernel
theorem dX2_isChild_31 : decode cX2_isChild 31 = .ok (.iconst 0, 1) := by decide +kernel
theorem dX2_isChild_32 : decode cX2_isChild 32 = .ok (.ireturn, 1) := by decide +kernel
set_option maxRecDepth 100000 in
set_option maxHeartbeats 4000000 in
theorem w2_isChild_ok {l : Launch} {idx : List (Nat × Nat)} {μ : Mem} {a1 : Int32} {a2 : Int32} {a3 : Int32} {P : Int32 → Mem → Prop} {X : String → Mem → Prop} (hl : l.stackTraces = false) (hI : IdxOK idx) (hk : w2_isChild_wp μ a1 a2 a3 P) : PMet l yX2_isChild (.code yX2_isChild cX2_isChild 4 (some .boolean)) 1 0 0 idx [pR 18 0, pI a1, pI a2, pI a3] μ (qI P) X := by
  refine PMet_of mv_X2_isChild.2.2.2.2.2.2 hl hI mv_X2_isChild.2.2.2.1 rfl (Nat.le_of_ble_eq_true rfl) (fun G _ _ C hRt hHR hnT => ?_)
  show PW G 0 0 0 [some (pR 18 0), some (pI a1), some (pI a2), some (pI a3)] [] μ
  unfold w2_isChild_wp at hk
  refine px_aload_n (i := 0) C dX2_isChild_0 rfl rfl ?_
  refine px_getr C dX2_isChild_1 fl_RX2_27 rfl rfl rfl ?_
  refine px_iload_n (i := 1) C dX2_isChild_4 rfl rfl ?_
  obtain ⟨o1, hk⟩ := hk
  refine px_callSNi (h := 0) (rc' := 0) (rs' := 0) C (HR_le hHR (Nat.le_of_ble_eq_true rfl)) hRt hnT dX2_isChild_5 (List.mem_append_right _ (List.mem_append_left _ (List.mem_of_getElem? (i := 7) rfl))) ms_X8_at (at_ok (j := 24) (q := 0) (n := 40) (loc := 1536) (PCx_l C) (PCx_I C) rfl rfl rfl o1) rfl rfl (Nat.le_of_ble_eq_true rfl) (Nat.le_of_ble_eq_true rfl) (Nat.le_of_ble_eq_true rfl) (Nat.le_of_ble_eq_true rfl) ?_
  rintro _ _ ⟨rfl, rfl⟩
  refine px_iload_n (i := 3) C dX2_isChild_8 rfl rfl ?_
  refine px_icmp_ne (tgt := 31) C dX2_isChild_9 (by decide) (fun c4 => ?_) (fun c4 => ?_)
  · replace hk := hk.1 c4
    refine px_iconst (v := (0 : Int32)) C dX2_isChild_31 rfl ?_
    exact px_iret C hRt dX2_isChild_32 rfl rfl hk
  · replace hk := hk.2 c4
    refine px_aload_n (i := 0) C dX2_isChild_12 rfl rfl ?_
    refine px_getr C dX2_isChild_13 fl_RX2_37 rfl rfl rfl ?_
    refine px_getr C dX2_isChild_16 fl_RX2_117 rfl rfl rfl ?_
    refine px_iload_n (i := 1) C dX2_isChild_19 rfl rfl ?_
    obtain ⟨o2, hk⟩ := hk
    refine px_callSNi (h := 0) (rc' := 0) (rs' := 0) C (HR_le hHR (Nat.le_of_ble_eq_true rfl)) hRt hnT dX2_isChild_20 (List.mem_append_right _ (List.mem_append_left _ (List.mem_of_getElem? (i := 7) rfl))) ms_X8_at (at_ok (j := 1) (q := 0) (n := 40) (loc := 64) (PCx_l C) (PCx_I C) rfl rfl rfl o2) rfl rfl (Nat.le_of_ble_eq_true rfl) (Nat.le_of_ble_eq_true rfl) (Nat.le_of_ble_eq_true rfl) (Nat.le_of_ble_eq_true rfl) ?_
    rintro _ _ ⟨rfl, rfl⟩
    refine px_iload_n (i := 2) C dX2_isChild_23 rfl rfl ?_
    refine px_icmp_ne (tgt := 31) C dX2_isChild_24 (by decide) (fun c3 => ?_) (fun c3 => ?_)
    · replace hk := hk.1 c3
      refine px_iconst (v := (0 : Int32)) C dX2_isChild_31 rfl ?_
      exact px_iret C hRt dX2_isChild_32 rfl rfl hk
    · replace hk := hk.2 c3
      refine px_iconst (v := (1 : Int32)) C dX2_isChild_27 rfl ?_
      refine px_goto (tgt := 32) C dX2_isChild_28 (by decide) ?_
      exact px_iret C hRt dX2_isChild_32 rfl rfl hk
theorem dX2_children_0 : decode cX2_children 0 = .ok (.iconst 0, 1) := by decide +kernel
theorem dX2_children_1 : decode cX2_children 1 = .ok (.istore_n 3, 1) := by decide +kernel
theorem dX2_children_2 : decode cX2_children 2 = .ok (.iconst 0, 1) := by decide +kernel
theorem dX2_children_3 : decode cX2_children 3 = .ok (.istore 4, 2) := by decide +kernel
theorem dX2_children_5 : decode cX2_children 5 = .ok (.iload 4, 2) := by decide +kernel
theorem dX2_children_7 : decode cX2_children 7 = .ok (.aload_n 0, 1) := by decide +kernel
theorem dX2_children_8 : decode cX2_children 8 = .ok (.getfield 37, 3) := by decide +kernel
theorem dX2_children_11 : decode cX2_children 11 = .ok (.getfield 45, 3) := by decide +kernel
theorem dX2_children_14 : decode cX2_children 14 = .ok (.if_icmp .ge 23, 3) := by decide +kernel
theorem dX2_children_17 : decode cX2_children 17 = .ok (.aload_n 0, 1) := by decide +kernel
theorem dX2_children_18 : decode cX2_children 18 = .ok (.iload 4, 2) := by decide +kernel
theorem dX2_children_20 : decode cX2_children 20 = .ok (.iload_n 1, 1) := by decide +kernel
theorem dX2_children_21 : decode cX2_children 21 = .ok (.iload_n 2, 1) := by decide +kernel
theorem dX2_children_22 : decode cX2_children 22 = .ok (.invokevirtual 120, 3) := by decide +kernel
theorem dX2_children_25 : decode cX2_children 25 = .ok (.ifCond .eq 6, 3) := by decide +kernel
theorem dX2_children_28 : decode cX2_children 28 = .ok (.iinc 3 1, 3) := by decide +kernel
theorem dX2_children_31 : decode cX2_children 31 = .ok (.iinc 4 1, 3) := by decide +kernel
theorem dX2_children_34 : decode cX2_children 34 = .ok (.goto (-29), 3) := by decide +kernel
theorem dX2_children_37 : decode cX2_children 37 = .ok (.iload_n 3, 1) := by decide +kernel
theorem dX2_children_38 : decode cX2_children 38 = .ok (.ireturn, 1) := by decide +kernel
set_option maxRecDepth 100000 in
set_option maxHeartbeats 4000000 in
theorem w2_children_b5_ok {G : GT} {P : Int32 → Mem → Prop} {X : String → Mem → Prop} (C : PCx G cX2_children 5 RX2) (hRt : PRt G (some .int) (qI P) X) (hHR : HR G (2)) (hnT : NoT G) {μ : Mem} {l1 : Int32} {l2 : Int32} {l3 : Int32} {l4 : Int32} (hk : w2_children_b5 P μ l1 l2 l3 l4) : PW G 0 0 5 [some (pR 18 0), some (pI l1), some (pI l2), some (pI l3), some (pI l4)] [] μ := by
  refine hk (fun (μ : Mem) (l1 : Int32) (l2 : Int32) (l3 : Int32) (l4 : Int32) => PW G 0 0 5 [some (pR 18 0), some (pI l1), some (pI l2), some (pI l3), some (pI l4)] [] μ) (fun (μ : Mem) l1 l2 l3 l4 hk => ?_)
  have hR5 : ∀ (μ : Mem) (l1 : Int32) (l2 : Int32) (l3 : Int32) (l4 : Int32), PW G 0 0 5 [some (pR 18 0), some (pI l1), some (pI l2), some (pI l3), some (pI l4)] [] μ → PW G 0 0 5 [some (pR 18 0), some (pI l1), some (pI l2), some (pI l3), some (pI l4)] [] μ := fun _ _ _ _ _ h => h
  unfold w2_children_b5_body at hk
  refine px_iload (i := 4) C dX2_children_5 rfl ?_
  refine px_aload_n (i := 0) C dX2_children_7 rfl rfl ?_
  refine px_getr C dX2_children_8 fl_RX2_37 rfl rfl rfl ?_
  refine px_geti 1 C dX2_children_11 fl_RX2_45 rfl rfl rfl rfl ?_
  refine px_icmp_ge (tgt := 37) C dX2_children_14 (by decide) (fun c4 => ?_) (fun c4 => ?_)
  · replace hk := hk.1 c4
    refine px_iload_n (i := 3) C dX2_children_37 rfl rfl ?_
    exact px_iret C hRt dX2_children_38 rfl rfl hk
  · replace hk := hk.2 c4
    refine px_aload_n (i := 0) C dX2_children_17 rfl rfl ?_
    refine px_iload (i := 4) C dX2_children_18 rfl ?_
    refine px_iload_n (i := 1) C dX2_children_20 rfl rfl ?_
    refine px_iload_n (i := 2) C dX2_children_21 rfl rfl ?_
    refine px_callVi (h := 1) (rc' := 0) (rs' := 0) C (HR_le hHR (Nat.le_of_ble_eq_true rfl)) hRt hnT dX2_children_22 (gw4 154 rfl rfl) mv_X2_isChild (w2_isChild_ok (PCx_l C) (PCx_I C) hk) rfl rfl rfl rfl rfl (Nat.le_of_ble_eq_true rfl) (Nat.le_of_ble_eq_true rfl) (Nat.le_of_ble_eq_true rfl) (Nat.le_of_ble_eq_true rfl) ?_
    intro r2 μ1 hk
    refine px_if_eq (tgt := 31) C dX2_children_25 (by decide) (fun c3 => ?_) (fun c3 => ?_)
    · replace hk := hk.1 c3
      refine px_iinc (i := 4) (v := (1 : Int32)) C dX2_children_31 rfl rfl (by decide) rfl ?_
      refine px_goto (tgt := 5) C dX2_children_34 (by decide) ?_
      exact PW_at (hR5 _ _ _ _ _ hk) (And.intro rfl (And.intro rfl (And.intro rfl (And.intro rfl (And.intro rfl trivial))))) (Nat.le_of_ble_eq_true rfl) (Nat.le_of_ble_eq_true rfl)
    · replace hk := hk.2 c3
      refine px_iinc (i := 3) (v := (1 : Int32)) C dX2_children_28 rfl rfl (by decide) rfl ?_
      refine px_iinc (i := 4) (v := (1 : Int32)) C dX2_children_31 rfl rfl (by decide) rfl ?_
      refine px_goto (tgt := 5) C dX2_children_34 (by decide) ?_
      exact PW_at (hR5 _ _ _ _ _ hk) (And.intro rfl (And.intro rfl (And.intro rfl (And.intro rfl (And.intro rfl trivial))))) (Nat.le_of_ble_eq_true rfl) (Nat.le_of_ble_eq_true rfl)
set_option maxRecDepth 100000 in
set_option maxHeartbeats 4000000 in
theorem w2_children_ok {l : Launch} {idx : List (Nat × Nat)} {μ : Mem} {a1 : Int32} {a2 : Int32} {P : Int32 → Mem → Prop} {X : String → Mem → Prop} (hl : l.stackTraces = false) (hI : IdxOK idx) (hk : w2_children_wp μ a1 a2 P) : PMet l yX2_children (.code yX2_children cX2_children 5 (some .int)) 2 0 0 idx [pR 18 0, pI a1, pI a2] μ (qI P) X := by
  refine PMet_of mv_X2_children.2.2.2.2.2.2 hl hI mv_X2_children.2.2.2.1 rfl (Nat.le_of_ble_eq_true rfl) (fun G _ _ C hRt hHR hnT => ?_)
  show PW G 0 0 0 [some (pR 18 0), some (pI a1), some (pI a2), none, none] [] μ
  unfold w2_children_wp at hk
  refine px_iconst (v := (0 : Int32)) C dX2_children_0 rfl ?_
  refine px_istore_n (i := 3) C dX2_children_1 rfl (by decide) rfl ?_
  refine px_iconst (v := (0 : Int32)) C dX2_children_2 rfl ?_
  refine px_istore (i := 4) C dX2_children_3 (by decide) rfl ?_
  exact PW_at (w2_children_b5_ok C hRt hHR hnT hk) (And.intro rfl (And.intro rfl (And.intro rfl (And.intro rfl (And.intro rfl trivial))))) (Nat.le_of_ble_eq_true rfl) (Nat.le_of_ble_eq_true rfl)
theorem dX2_childAt_0 : decode cX2_childAt 0 = .ok (.iconst 0, 1) := by decide +kernel
theorem dX2_childAt_1 : decode cX2_childAt 1 = .ok (.istore 4, 2) := by decide +kernel
theorem dX2_childAt_3 : decode cX2_childAt 3 = .ok (.iconst 0, 1) := by decide +kernel
theorem dX2_childAt_4 : decode cX2_childAt 4 = .ok (.istore 5, 2) := by decide +kernel
theorem dX2_childAt_6 : decode cX2_childAt 6 = .ok (.iload 5, 2) := by decide +kernel
theorem dX2_childAt_8 : decode cX2_childAt 8 = .ok (.aload_n 0, 1) := by decide +kernel
theorem dX2_childAt_9 : decode cX2_childAt 9 = .ok (.getfield 37, 3) := by decide +kernel
theorem dX2_childAt_12 : decode cX2_childAt 12 = .ok (.getfield 45, 3) := by decide +kernel
theorem dX2_childAt_15 : decode cX2_childAt 15 = .ok (.if_icmp .ge 46, 3) := by decide +kernel
theorem dX2_childAt_18 : decode cX2_childAt 18 = .ok (.aload_n 0, 1) := by decide +kernel
theorem dX2_childAt_19 : decode cX2_childAt 19 = .ok (.aload_n 0, 1) := by decide +kernel
theorem dX2_childAt_20 : decode cX2_childAt 20 = .ok (.getfield 34, 3) := by decide +kernel
theorem dX2_childAt_23 : decode cX2_childAt 23 = .ok (.iload 5, 2) := by decide +kernel
theorem dX2_childAt_25 : decode cX2_childAt 25 = .ok (.invokestatic 54, 3) := by decide +kernel
theorem dX2_childAt_28 : decode cX2_childAt 28 = .ok (.iload_n 1, 1) := by decide +kernel
theorem dX2_childAt_29 : decode cX2_childAt 29 = .ok (.iload_n 2, 1) := by decide +kernel
theorem dX2_childAt_30 : decode cX2_childAt 30 = .ok (.invokevirtual 120, 3) := by decide +kernel
theorem dX2_childAt_33 : decode cX2_childAt 33 = .ok (.ifCond .eq 22, 3) := by decide +kernel
theorem dX2_childAt_36 : decode cX2_childAt 36 = .ok (.iload 4, 2) := by decide +kernel
theorem dX2_childAt_38 : decode cX2_childAt 38 = .ok (.iload_n 3, 1) := by decide +kernel
theorem dX2_childAt_39 : decode cX2_childAt 39 = .ok (.if_icmp .ne 13, 3) := by decide +kernel
theorem dX2_childAt_42 : decode cX2_childAt 42 = .ok (.aload_n 0, 1) := by decide +kernel
theorem dX2_childAt_43 : decode cX2_childAt 43 = .ok (.getfield 34, 3) := by decide +kernel
theorem dX2_childAt_46 : decode cX2_childAt 46 = .ok (.iload 5, 2) := by decide +kernel
theorem dX2_childAt_48 : decode cX2_childAt 48 = .ok (.invokestatic 54, 3) := by decide +kernel
theorem dX2_childAt_51 : decode cX2_childAt 51 = .ok (.ireturn, 1) := by decide +kernel
theorem dX2_childAt_52 : decode cX2_childAt 52 = .ok (.iinc 4 1, 3) := by decide +kernel
theorem dX2_childAt_55 : decode cX2_childAt 55 = .ok (.iinc 5 1, 3) := by decide +kernel
theorem dX2_childAt_58 : decode cX2_childAt 58 = .ok (.goto (-52), 3) := by decide +kernel
theorem dX2_childAt_61 : decode cX2_childAt 61 = .ok (.iconst (-1), 1) := by decide +kernel
theorem dX2_childAt_62 : decode cX2_childAt 62 = .ok (.ireturn, 1) := by decide +kernel
set_option maxRecDepth 100000 in
set_option maxHeartbeats 4000000 in
theorem w2_childAt_b6_ok {G : GT} {P : Int32 → Mem → Prop} {X : String → Mem → Prop} (C : PCx G cX2_childAt 6 RX2) (hRt : PRt G (some .int) (qI P) X) (hHR : HR G (2)) (hnT : NoT G) {μ : Mem} {l1 : Int32} {l2 : Int32} {l3 : Int32} {l4 : Int32} {l5 : Int32} (hk : w2_childAt_b6 P μ l1 l2 l3 l4 l5) : PW G 0 0 6 [some (pR 18 0), some (pI l1), some (pI l2), some (pI l3), some (pI l4), some (pI l5)] [] μ := by
  refine hk (fun (μ : Mem) (l1 : Int32) (l2 : Int32) (l3 : Int32) (l4 : Int32) (l5 : Int32) => PW G 0 0 6 [some (pR 18 0), some (pI l1), some (pI l2), some (pI l3), some (pI l4), some (pI l5)] [] μ) (fun (μ : Mem) l1 l2 l3 l4 l5 hk => ?_)
  have hR6 : ∀ (μ : Mem) (l1 : Int32) (l2 : Int32) (l3 : Int32) (l4 : Int32) (l5 : Int32), PW G 0 0 6 [some (pR 18 0), some (pI l1), some (pI l2), some (pI l3), some (pI l4), some (pI l5)] [] μ → PW G 0 0 6 [some (pR 18 0), some (pI l1), some (pI l2), some (pI l3), some (pI l4), some (pI l5)] [] μ := fun _ _ _ _ _ _ h => h
  unfold w2_childAt_b6_body at hk
  refine px_iload (i := 5) C dX2_childAt_6 rfl ?_
  refine px_aload_n (i := 0) C dX2_childAt_8 rfl rfl ?_
  refine px_getr C dX2_childAt_9 fl_RX2_37 rfl rfl rfl ?_
  refine px_geti 1 C dX2_childAt_12 fl_RX2_45 rfl rfl rfl rfl ?_
  refine px_icmp_ge (tgt := 61) C dX2_childAt_15 (by decide) (fun c7 => ?_) (fun c7 => ?_)
  · replace hk := hk.1 c7
    refine px_iconst (v := (-1 : Int32)) C dX2_childAt_61 rfl ?_
    exact px_iret C hRt dX2_childAt_62 rfl rfl hk
  · replace hk := hk.2 c7
    refine px_aload_n (i := 0) C dX2_childAt_18 rfl rfl ?_
    refine px_aload_n (i := 0) C dX2_childAt_19 rfl rfl ?_
    refine px_getr C dX2_childAt_20 fl_RX2_34 rfl rfl rfl ?_
    refine px_iload (i := 5) C dX2_childAt_23 rfl ?_
    obtain ⟨o1, hk⟩ := hk
    refine px_callSNi (h := 0) (rc' := 0) (rs' := 0) C (HR_le hHR (Nat.le_of_ble_eq_true rfl)) hRt hnT dX2_childAt_25 (List.mem_append_right _ (List.mem_append_left _ (List.mem_of_getElem? (i := 7) rfl))) ms_X8_at (at_ok (j := 26) (q := 0) (n := 40) (loc := 1664) (PCx_l C) (PCx_I C) rfl rfl rfl o1) rfl rfl (Nat.le_of_ble_eq_true rfl) (Nat.le_of_ble_eq_true rfl) (Nat.le_of_ble_eq_true rfl) (Nat.le_of_ble_eq_true rfl) ?_
    rintro _ _ ⟨rfl, rfl⟩
    refine px_iload_n (i := 1) C dX2_childAt_28 rfl rfl ?_
    refine px_iload_n (i := 2) C dX2_childAt_29 rfl rfl ?_
    refine px_callVi (h := 1) (rc' := 0) (rs' := 0) C (HR_le hHR (Nat.le_of_ble_eq_true rfl)) hRt hnT dX2_childAt_30 (gw4 154 rfl rfl) mv_X2_isChild (w2_isChild_ok (PCx_l C) (PCx_I C) hk) rfl rfl rfl rfl rfl (Nat.le_of_ble_eq_true rfl) (Nat.le_of_ble_eq_true rfl) (Nat.le_of_ble_eq_true rfl) (Nat.le_of_ble_eq_true rfl) ?_
    intro r3 μ2 hk
    refine px_if_eq (tgt := 55) C dX2_childAt_33 (by decide) (fun c6 => ?_) (fun c6 => ?_)
    · replace hk := hk.1 c6
      refine px_iinc (i := 5) (v := (1 : Int32)) C dX2_childAt_55 rfl rfl (by decide) rfl ?_
      refine px_goto (tgt := 6) C dX2_childAt_58 (by decide) ?_
      exact PW_at (hR6 _ _ _ _ _ _ hk) (And.intro rfl (And.intro rfl (And.intro rfl (And.intro rfl (And.intro rfl (And.intro rfl trivial)))))) (Nat.le_of_ble_eq_true rfl) (Nat.le_of_ble_eq_true rfl)
    · replace hk := hk.2 c6
      refine px_iload (i := 4) C dX2_childAt_36 rfl ?_
      refine px_iload_n (i := 3) C dX2_childAt_38 rfl rfl ?_
      refine px_icmp_ne (tgt := 52) C dX2_childAt_39 (by decide) (fun c5 => ?_) (fun c5 => ?_)
      · replace hk := hk.1 c5
        refine px_iinc (i := 4) (v := (1 : Int32)) C dX2_childAt_52 rfl rfl (by decide) rfl ?_
        refine px_iinc (i := 5) (v := (1 : Int32)) C dX2_childAt_55 rfl rfl (by decide) rfl ?_
        refine px_goto (tgt := 6) C dX2_childAt_58 (by decide) ?_
        exact PW_at (hR6 _ _ _ _ _ _ hk) (And.intro rfl (And.intro rfl (And.intro rfl (And.intro rfl (And.intro rfl (And.intro rfl trivial)))))) (Nat.le_of_ble_eq_true rfl) (Nat.le_of_ble_eq_true rfl)
      · replace hk := hk.2 c5
        refine px_aload_n (i := 0) C dX2_childAt_42 rfl rfl ?_
        refine px_getr C dX2_childAt_43 fl_RX2_34 rfl rfl rfl ?_
        refine px_iload (i := 5) C dX2_childAt_46 rfl ?_
        obtain ⟨o4, hk⟩ := hk
        refine px_callSNi (h := 0) (rc' := 0) (rs' := 0) C (HR_le hHR (Nat.le_of_ble_eq_true rfl)) hRt hnT dX2_childAt_48 (List.mem_append_right _ (List.mem_append_left _ (List.mem_of_getElem? (i := 7) rfl))) ms_X8_at (at_ok (j := 26) (q := 0) (n := 40) (loc := 1664) (PCx_l C) (PCx_I C) rfl rfl rfl o4) rfl rfl (Nat.le_of_ble_eq_true rfl) (Nat.le_of_ble_eq_true rfl) (Nat.le_of_ble_eq_true rfl) (Nat.le_of_ble_eq_true rfl) ?_
        rintro _ _ ⟨rfl, rfl⟩
        exact px_iret C hRt dX2_childAt_51 rfl rfl hk
set_option maxRecDepth 100000 in
set_option maxHeartbeats 4000000 in
theorem w2_childAt_ok {l : Launch} {idx : List (Nat × Nat)} {μ : Mem} {a1 : Int32} {a2 : Int32} {a3 : Int32} {P : Int32 → Mem → Prop} {X : String → Mem → Prop} (hl : l.stackTraces = false) (hI : IdxOK idx) (hk : w2_childAt_wp μ a1 a2 a3 P) : PMet l yX2_childAt (.code yX2_childAt cX2_childAt 6 (some .int)) 2 0 0 idx [pR 18 0, pI a1, pI a2, pI a3] μ (qI P) X := by
  refine PMet_of mv_X2_childAt.2.2.2.2.2.2 hl hI mv_X2_childAt.2.2.2.1 rfl (Nat.le_of_ble_eq_true rfl) (fun G _ _ C hRt hHR hnT => ?_)
  show PW G 0 0 0 [some (pR 18 0), some (pI a1), some (pI a2), some (pI a3), none, none] [] μ
  unfold w2_childAt_wp at hk
  refine px_iconst (v := (0 : Int32)) C dX2_childAt_0 rfl ?_
  refine px_istore (i := 4) C dX2_childAt_1 (by decide) rfl ?_
  refine px_iconst (v := (0 : Int32)) C dX2_childAt_3 rfl ?_
  refine px_istore (i := 5) C dX2_childAt_4 (by decide) rfl ?_
  exact PW_at (w2_childAt_b6_ok C hRt hHR hnT hk) (And.intro rfl (And.intro rfl (And.intro rfl (And.intro rfl (And.intro rfl (And.intro rfl trivial)))))) (Nat.le_of_ble_eq_true rfl) (Nat.le_of_ble_eq_true rfl)
theorem dX2_isPlaceholder_0 : decode cX2_isPlaceholder 0 = .ok (.iload_n 2, 1) := by decide +kernel
theorem dX2_isPlaceholder_1 : decode cX2_isPlaceholder 1 = .ok (.sipush 1000, 3) := by decide +kernel
theorem dX2_isPlaceholder_4 : decode cX2_isPlaceholder 4 = .ok (.if_icmp .lt 16, 3) := by decide +kernel
theorem dX2_isPlaceholder_7 : decode cX2_isPlaceholder 7 = .ok (.aload_n 0, 1) := by decide +kernel
theorem dX2_isPlaceholder_8 : decode cX2_isPlaceholder 8 = .ok (.iload_n 1, 1) := by decide +kernel
theorem dX2_isPlaceholder_9 : decode cX2_isPlaceholder 9 = .ok (.iload_n 2, 1) := by decide +kernel
theorem dX2_isPlaceholder_10 : decode cX2_isPlaceholder 10 = .ok (.invokevirtual 127, 3) := by decide +kernel
theorem dX2_isPlaceholder_13 : decode cX2_isPlaceholder 13 = .ok (.ifCond .le 7, 3) := by decide +kernel
theorem dX2_isPlaceholder_16 : decode cX2_isPlaceholder 16 = .ok (.iconst 1, 1) := by decide +kernel
theorem dX2_isPlaceholder_17 : decode cX2_isPlaceholder 17 = .ok (.goto 4, 3) := by decide +kernel
theorem dX2_isPlaceholder_20 : decode cX2_isPlaceholder 20 = .ok (.iconst 0, 1) := by decide +kernel
theorem dX2_isPlaceholder_21 : decode cX2_isPlaceholder 21 = .ok (.ireturn, 1) := by decide +kernel
set_option maxRecDepth 100000 in
set_option maxHeartbeats 4000000 in
theorem w2_isPlaceholder_ok {l : Launch} {idx : List (Nat × Nat)} {μ : Mem} {a1 : Int32} {a2 : Int32} {P : Int32 → Mem → Prop} {X : String → Mem → Prop} (hl : l.stackTraces = false) (hI : IdxOK idx) (hk : w2_isPlaceholder_wp μ a1 a2 P) : PMet l yX2_isPlaceholder (.code yX2_isPlaceholder cX2_isPlaceholder 3 (some .boolean)) 3 0 0 idx [pR 18 0, pI a1, pI a2] μ (qI P) X := by
  refine PMet_of mv_X2_isPlaceholder.2.2.2.2.2.2 hl hI mv_X2_isPlaceholder.2.2.2.1 rfl (Nat.le_of_ble_eq_true rfl) (fun G _ _ C hRt hHR hnT => ?_)
  show PW G 0 0 0 [some (pR 18 0), some (pI a1), some (pI a2)] [] μ
  unfold w2_isPlaceholder_wp at hk
  refine px_iload_n (i := 2) C dX2_isPlaceholder_0 rfl rfl ?_
  refine px_sipush (v := (1000 : Int32)) C dX2_isPlaceholder_1 rfl ?_
  refine px_icmp_lt (tgt := 20) C dX2_isPlaceholder_4 (by decide) (fun c4 => ?_) (fun c4 => ?_)
  · replace hk := hk.1 c4
    refine px_iconst (v := (0 : Int32)) C dX2_isPlaceholder_20 rfl ?_
    exact px_iret C hRt dX2_isPlaceholder_21 rfl rfl hk
  · replace hk := hk.2 c4
    refine px_aload_n (i := 0) C dX2_isPlaceholder_7 rfl rfl ?_
    refine px_iload_n (i := 1) C dX2_isPlaceholder_8 rfl rfl ?_
    refine px_iload_n (i := 2) C dX2_isPlaceholder_9 rfl rfl ?_
    refine px_callVi (h := 2) (rc' := 0) (rs' := 0) C (HR_le hHR (Nat.le_of_ble_eq_true rfl)) hRt hnT dX2_isPlaceholder_10 (gw4 150 rfl rfl) mv_X2_children (w2_children_ok (PCx_l C) (PCx_I C) hk) rfl rfl rfl rfl rfl (Nat.le_of_ble_eq_true rfl) (Nat.le_of_ble_eq_true rfl) (Nat.le_of_ble_eq_true rfl) (Nat.le_of_ble_eq_true rfl) ?_
    intro r2 μ1 hk
    refine px_if_le (tgt := 20) C dX2_isPlaceholder_13 (by decide) (fun c3 => ?_) (fun c3 => ?_)
    · replace hk := hk.1 c3
      refine px_iconst (v := (0 : Int32)) C dX2_isPlaceholder_20 rfl ?_
      exact px_iret C hRt dX2_isPlaceholder_21 rfl rfl hk
    · replace hk := hk.2 c3
      refine px_iconst (v := (1 : Int32)) C dX2_isPlaceholder_16 rfl ?_
      refine px_goto (tgt := 21) C dX2_isPlaceholder_17 (by decide) ?_
      exact px_iret C hRt dX2_isPlaceholder_21 rfl rfl hk
theorem dX2_countKind_0 : decode cX2_countKind 0 = .ok (.iconst 0, 1) := by decide +kernel
theorem dX2_countKind_1 : decode cX2_countKind 1 = .ok (.istore_n 2, 1) := by decide +kernel
theorem dX2_countKind_2 : decode cX2_countKind 2 = .ok (.iconst 0, 1) := by decide +kernel
theorem dX2_countKind_3 : decode cX2_countKind 3 = .ok (.istore_n 3, 1) := by decide +kernel
theorem dX2_countKind_4 : decode cX2_countKind 4 = .ok (.iload_n 3, 1) := by decide +kernel
theorem dX2_countKind_5 : decode cX2_countKind 5 = .ok (.aload_n 0, 1) := by decide +kernel
theorem dX2_countKind_6 : decode cX2_countKind 6 = .ok (.getfield 37, 3) := by decide +kernel
theorem dX2_countKind_9 : decode cX2_countKind 9 = .ok (.getfield 45, 3) := by decide +kernel
theorem dX2_countKind_12 : decode cX2_countKind 12 = .ok (.if_icmp .ge 24, 3) := by decide +kernel
theorem dX2_countKind_15 : decode cX2_countKind 15 = .ok (.aload_n 0, 1) := by decide +kernel
theorem dX2_countKind_16 : decode cX2_countKind 16 = .ok (.getfield 21, 3) := by decide +kernel
theorem dX2_countKind_19 : decode cX2_countKind 19 = .ok (.iload_n 3, 1) := by decide +kernel
theorem dX2_countKind_20 : decode cX2_countKind 20 = .ok (.invokestatic 54, 3) := by decide +kernel
theorem dX2_countKind_23 : decode cX2_countKind 23 = .ok (.iload_n 1, 1) := by decide +kernel
theorem dX2_countKind_24 : decode cX2_countKind 24 = .ok (.if_icmp .ne 6, 3) := by decide +kernel
theorem dX2_countKind_27 : decode cX2_countKind 27 = .ok (.iinc 2 1, 3) := by decide +kernel
theorem dX2_countKind_30 : decode cX2_countKind 30 = .ok (.iinc 3 1, 3) := by decide +kernel
theorem dX2_countKind_33 : decode cX2_countKind 33 = .ok (.goto (-29), 3) := by decide +kernel
theorem dX2_countKind_36 : decode cX2_countKind 36 = .ok (.iload_n 2, 1) := by decide +kernel
theorem dX2_countKind_37 : decode cX2_countKind 37 = .ok (.ireturn, 1) := by decide +kernel
set_option maxRecDepth 100000 in
set_option maxHeartbeats 4000000 in
theorem w2_countKind_b4_ok {G : GT} {P : Int32 → Mem → Prop} {X : String → Mem → Prop} (C : PCx G cX2_countKind 4 RX2) (hRt : PRt G (some .int) (qI P) X) (hHR : HR G (1)) (hnT : NoT G) {μ : Mem} {l1 : Int32} {l2 : Int32} {l3 : Int32} (hk : w2_countKind_b4 P μ l1 l2 l3) : PW G 0 0 4 [some (pR 18 0), some (pI l1), some (pI l2), some (pI l3)] [] μ := by
  refine hk (fun (μ : Mem) (l1 : Int32) (l2 : Int32) (l3 : Int32) => PW G 0 0 4 [some (pR 18 0), some (pI l1), some (pI l2), some (pI l3)] [] μ) (fun (μ : Mem) l1 l2 l3 hk => ?_)
  have hR4 : ∀ (μ : Mem) (l1 : Int32) (l2 : Int32) (l3 : Int32), PW G 0 0 4 [some (pR 18 0), some (pI l1), some (pI l2), some (pI l3)] [] μ → PW G 0 0 4 [some (pR 18 0), some (pI l1), some (pI l2), some (pI l3)] [] μ := fun _ _ _ _ h => h
  unfold w2_countKind_b4_body at hk
  refine px_iload_n (i := 3) C dX2_countKind_4 rfl rfl ?_
  refine px_aload_n (i := 0) C dX2_countKind_5 rfl rfl ?_
  refine px_getr C dX2_countKind_6 fl_RX2_37 rfl rfl rfl ?_
  refine px_geti 1 C dX2_countKind_9 fl_RX2_45 rfl rfl rfl rfl ?_
  refine px_icmp_ge (tgt := 36) C dX2_countKind_12 (by decide) (fun c3 => ?_) (fun c3 => ?_)
  · replace hk := hk.1 c3
    refine px_iload_n (i := 2) C dX2_countKind_36 rfl rfl ?_
    exact px_iret C hRt dX2_countKind_37 rfl rfl hk
  · replace hk := hk.2 c3
    refine px_aload_n (i := 0) C dX2_countKind_15 rfl rfl ?_
    refine px_getr C dX2_countKind_16 fl_RX2_21 rfl rfl rfl ?_
    refine px_iload_n (i := 3) C dX2_countKind_19 rfl rfl ?_
    obtain ⟨o1, hk⟩ := hk
    refine px_callSNi (h := 0) (rc' := 0) (rs' := 0) C (HR_le hHR (Nat.le_of_ble_eq_true rfl)) hRt hnT dX2_countKind_20 (List.mem_append_right _ (List.mem_append_left _ (List.mem_of_getElem? (i := 7) rfl))) ms_X8_at (at_ok (j := 22) (q := 0) (n := 40) (loc := 1408) (PCx_l C) (PCx_I C) rfl rfl rfl o1) rfl rfl (Nat.le_of_ble_eq_true rfl) (Nat.le_of_ble_eq_true rfl) (Nat.le_of_ble_eq_true rfl) (Nat.le_of_ble_eq_true rfl) ?_
    rintro _ _ ⟨rfl, rfl⟩
    refine px_iload_n (i := 1) C dX2_countKind_23 rfl rfl ?_
    refine px_icmp_ne (tgt := 30) C dX2_countKind_24 (by decide) (fun c2 => ?_) (fun c2 => ?_)
    · replace hk := hk.1 c2
      refine px_iinc (i := 3) (v := (1 : Int32)) C dX2_countKind_30 rfl rfl (by decide) rfl ?_
      refine px_goto (tgt := 4) C dX2_countKind_33 (by decide) ?_
      exact PW_at (hR4 _ _ _ _ hk) (And.intro rfl (And.intro rfl (And.intro rfl (And.intro rfl trivial)))) (Nat.le_of_ble_eq_true rfl) (Nat.le_of_ble_eq_true rfl)
    · replace hk := hk.2 c2
      refine px_iinc (i := 2) (v := (1 : Int32)) C dX2_countKind_27 rfl rfl (by decide) rfl ?_
      refine px_iinc (i := 3) (v := (1 : Int32)) C dX2_countKind_30 rfl rfl (by decide) rfl ?_
      refine px_goto (tgt := 4) C dX2_countKind_33 (by decide) ?_
      exact PW_at (hR4 _ _ _ _ hk) (And.intro rfl (And.intro rfl (And.intro rfl (And.intro rfl trivial)))) (Nat.le_of_ble_eq_true rfl) (Nat.le_of_ble_eq_true rfl)
set_option maxRecDepth 100000 in
set_option maxHeartbeats 4000000 in
theorem w2_countKind_ok {l : Launch} {idx : List (Nat × Nat)} {μ : Mem} {a1 : Int32} {P : Int32 → Mem → Prop} {X : String → Mem → Prop} (hl : l.stackTraces = false) (hI : IdxOK idx) (hk : w2_countKind_wp μ a1 P) : PMet l yX2_countKind (.code yX2_countKind cX2_countKind 4 (some .int)) 1 0 0 idx [pR 18 0, pI a1] μ (qI P) X := by
  refine PMet_of mv_X2_countKind.2.2.2.2.2.2 hl hI mv_X2_countKind.2.2.2.1 rfl (Nat.le_of_ble_eq_true rfl) (fun G _ _ C hRt hHR hnT => ?_)
  show PW G 0 0 0 [some (pR 18 0), some (pI a1), none, none] [] μ
  unfold w2_countKind_wp at hk
  refine px_iconst (v := (0 : Int32)) C dX2_countKind_0 rfl ?_
  refine px_istore_n (i := 2) C dX2_countKind_1 rfl (by decide) rfl ?_
  refine px_iconst (v := (0 : Int32)) C dX2_countKind_2 rfl ?_
  refine px_istore_n (i := 3) C dX2_countKind_3 rfl (by decide) rfl ?_
  exact PW_at (w2_countKind_b4_ok C hRt hHR hnT hk) (And.intro rfl (And.intro rfl (And.intro rfl (And.intro rfl trivial)))) (Nat.le_of_ble_eq_true rfl) (Nat.le_of_ble_eq_true rfl)
theorem dX3_forget_0 : decode cX3_forget 0 = .ok (.aload_n 0, 1) := by decide +kernel
theorem dX3_forget_1 : decode cX3_forget 1 = .ok (.iconst 0, 1) := by decide +kernel
theorem dX3_forget_2 : decode cX3_forget 2 = .ok (.putfield 9, 3) := by decide +kernel
theorem dX3_forget_5 : decode cX3_forget 5 = .ok (.return_, 1) := by decide +kernel
set_option maxRecDepth 100000 in
set_option maxHeartbeats 4000000 in
theorem w3_forget_ok {l : Launch} {idx : List (Nat × Nat)} {μ : Mem} {P : Mem → Prop} {X : String → Mem → Prop} (hl : l.stackTraces = false) (hI : IdxOK idx) (hk : w3_forget_wp μ P) : PMet l yX3_forget (.code yX3_forget cX3_forget 1 none) 0 0 0 idx [pR 10 0] μ (qV P) X := by
  refine PMet_of mv_X3_forget.2.2.2.2.2.2 hl hI mv_X3_forget.2.2.2.1 rfl (Nat.le_of_ble_eq_true rfl) (fun G _ _ C hRt hHR hnT => ?_)
  show PW G 0 0 0 [some (pR 10 0)] [] μ
  unfold w3_forget_wp at hk
  refine px_aload_n (i := 0) C dX3_forget_0 rfl rfl ?_
  refine px_iconst (v := (0 : Int32)) C dX3_forget_1 rfl ?_
  replace hk := hk _ rfl
  refine px_puti 641 C dX3_forget_2 fp_RX3_9 rfl rfl rfl rfl rfl rfl ?_
  exact px_vret C hRt dX3_forget_5 rfl hk
theorem dX4_empty_0 : decode cX4_empty 0 = .ok (.aload_n 0, 1) := by decide +kernel
theorem dX4_empty_1 : decode cX4_empty 1 = .ok (.iconst 0, 1) := by decide +kernel
theorem dX4_empty_2 : decode cX4_empty 2 = .ok (.putfield 9, 3) := by decide +kernel
theorem dX4_empty_5 : decode cX4_empty 5 = .ok (.return_, 1) := by decide +kernel
set_option maxRecDepth 100000 in
set_option maxHeartbeats 4000000 in
theorem w4_empty_ok {l : Launch} {idx : List (Nat × Nat)} {μ : Mem} {P : Mem → Prop} {X : String → Mem → Prop} (hl : l.stackTraces = false) (hI : IdxOK idx) (hk : w4_empty_wp μ P) : PMet l yX4_empty (.code yX4_empty cX4_empty 1 none) 0 0 0 idx [pR 38 0] μ (qV P) X := by
  refine PMet_of mv_X4_empty.2.2.2.2.2.2 hl hI mv_X4_empty.2.2.2.1 rfl (Nat.le_of_ble_eq_true rfl) (fun G _ _ C hRt hHR hnT => ?_)
  show PW G 0 0 0 [some (pR 38 0)] [] μ
  unfold w4_empty_wp at hk
  refine px_aload_n (i := 0) C dX4_empty_0 rfl rfl ?_
  refine px_iconst (v := (0 : Int32)) C dX4_empty_1 rfl ?_
  replace hk := hk _ rfl
  refine px_puti 2433 C dX4_empty_2 fp_RX4_9 rfl rfl rfl rfl rfl rfl ?_
  exact px_vret C hRt dX4_empty_5 rfl hk
theorem dX5_latestChild_0 : decode cX5_latestChild 0 = .ok (.iconst (-1), 1) := by decide +kernel
theorem dX5_latestChild_1 : decode cX5_latestChild 1 = .ok (.istore 4, 2) := by decide +kernel
theorem dX5_latestChild_3 : decode cX5_latestChild 3 = .ok (.iconst 0, 1) := by decide +kernel
theorem dX5_latestChild_4 : decode cX5_latestChild 4 = .ok (.istore 5, 2) := by decide +kernel
theorem dX5_latestChild_6 : decode cX5_latestChild 6 = .ok (.iconst 0, 1) := by decide +kernel
theorem dX5_latestChild_7 : decode cX5_latestChild 7 = .ok (.istore 6, 2) := by decide +kernel
theorem dX5_latestChild_9 : decode cX5_latestChild 9 = .ok (.iconst 0, 1) := by decide +kernel
theorem dX5_latestChild_10 : decode cX5_latestChild 10 = .ok (.istore 7, 2) := by decide +kernel
theorem dX5_latestChild_12 : decode cX5_latestChild 12 = .ok (.iload 7, 2) := by decide +kernel
theorem dX5_latestChild_14 : decode cX5_latestChild 14 = .ok (.aload_n 0, 1) := by decide +kernel
theorem dX5_latestChild_15 : decode cX5_latestChild 15 = .ok (.getfield 40, 3) := by decide +kernel
theorem dX5_latestChild_18 : decode cX5_latestChild 18 = .ok (.getfield 99, 3) := by decide +kernel
theorem dX5_latestChild_21 : decode cX5_latestChild 21 = .ok (.if_icmp .ge 161, 3) := by decide +kernel
theorem dX5_latestChild_24 : decode cX5_latestChild 24 = .ok (.aload_n 0, 1) := by decide +kernel
theorem dX5_latestChild_25 : decode cX5_latestChild 25 = .ok (.getfield 44, 3) := by decide +kernel
theorem dX5_latestChild_28 : decode cX5_latestChild 28 = .ok (.getfield 84, 3) := by decide +kernel
theorem dX5_latestChild_31 : decode cX5_latestChild 31 = .ok (.iload 7, 2) := by decide +kernel
theorem dX5_latestChild_33 : decode cX5_latestChild 33 = .ok (.invokestatic 65, 3) := by decide +kernel
theorem dX5_latestChild_36 : decode cX5_latestChild 36 = .ok (.iload_n 2, 1) := by decide +kernel
theorem dX5_latestChild_37 : decode cX5_latestChild 37 = .ok (.invokestatic 85, 3) := by decide +kernel
theorem dX5_latestChild_40 : decode cX5_latestChild 40 = .ok (.istore 8, 2) := by decide +kernel
theorem dX5_latestChild_42 : decode cX5_latestChild 42 = .ok (.aload_n 0, 1) := by decide +kernel
theorem dX5_latestChild_43 : decode cX5_latestChild 43 = .ok (.getfield 44, 3) := by decide +kernel
theorem dX5_latestChild_46 : decode cX5_latestChild 46 = .ok (.getfield 90, 3) := by decide +kernel
theorem dX5_latestChild_49 : decode cX5_latestChild 49 = .ok (.iload 7, 2) := by decide +kernel
theorem dX5_latestChild_51 : decode cX5_latestChild 51 = .ok (.invokestatic 65, 3) := by decide +kernel
theorem dX5_latestChild_54 : decode cX5_latestChild 54 = .ok (.iload_n 3, 1) := by decide +kernel
theorem dX5_latestChild_55 : decode cX5_latestChild 55 = .ok (.invokestatic 91, 3) := by decide +kernel
theorem dX5_latestChild_58 : decode cX5_latestChild 58 = .ok (.istore 9, 2) := by decide +kernel
theorem dX5_latestChild_60 : decode cX5_latestChild 60 = .ok (.iload 8, 2) := by decide +kernel
theorem dX5_latestChild_62 : decode cX5_latestChild 62 = .ok (.iload 9, 2) := by decide +kernel
theorem dX5_latestChild_64 : decode cX5_latestChild 64 = .ok (.if_icmp .ge 112, 3) := by decide +kernel
theorem dX5_latestChild_67 : decode cX5_latestChild 67 = .ok (.aload_n 0, 1) := by decide +kernel
theorem dX5_latestChild_68 : decode cX5_latestChild 68 = .ok (.getfield 44, 3) := by decide +kernel
theorem dX5_latestChild_71 : decode cX5_latestChild 71 = .ok (.iload 7, 2) := by decide +kernel
theorem dX5_latestChild_73 : decode cX5_latestChild 73 = .ok (.aload_n 0, 1) := by decide +kernel
theorem dX5_latestChild_74 : decode cX5_latestChild 74 = .ok (.getfield 25, 3) := by decide +kernel
theorem dX5_latestChild_77 : decode cX5_latestChild 77 = .ok (.iload_n 1, 1) := by decide +kernel
theorem dX5_latestChild_78 : decode cX5_latestChild 78 = .ok (.invokevirtual 102, 3) := by decide +kernel
theorem dX5_latestChild_81 : decode cX5_latestChild 81 = .ok (.ifCond .eq 95, 3) := by decide +kernel
theorem dX5_latestChild_84 : decode cX5_latestChild 84 = .ok (.iload 4, 2) := by decide +kernel
theorem dX5_latestChild_86 : decode cX5_latestChild 86 = .ok (.iconst (-1), 1) := by decide +kernel
theorem dX5_latestChild_87 : decode cX5_latestChild 87 = .ok (.if_icmp .eq 65, 3) := by decide +kernel
theorem dX5_latestChild_90 : decode cX5_latestChild 90 = .ok (.iload 9, 2) := by decide +kernel
theorem dX5_latestChild_92 : decode cX5_latestChild 92 = .ok (.iload 6, 2) := by decide +kernel
theorem dX5_latestChild_94 : decode cX5_latestChild 94 = .ok (.if_icmp .gt 58, 3) := by decide +kernel
theorem dX5_latestChild_97 : decode cX5_latestChild 97 = .ok (.iload 9, 2) := by decide +kernel
theorem dX5_latestChild_99 : decode cX5_latestChild 99 = .ok (.iload 6, 2) := by decide +kernel
theorem dX5_latestChild_101 : decode cX5_latestChild 101 = .ok (.if_icmp .ne 10, 3) := by decide +kernel
theorem dX5_latestChild_104 : decode cX5_latestChild 104 = .ok (.iload 8, 2) := by decide +kernel
theorem dX5_latestChild_106 : decode cX5_latestChild 106 = .ok (.iload 5, 2) := by decide +kernel
theorem dX5_latestChild_108 : decode cX5_latestChild 108 = .ok (.if_icmp .lt 44, 3) := by decide +kernel
theorem dX5_latestChild_111 : decode cX5_latestChild 111 = .ok (.iload 9, 2) := by decide +kernel
theorem dX5_latestChild_113 : decode cX5_latestChild 113 = .ok (.iload 6, 2) := by decide +kernel
theorem dX5_latestChild_115 : decode cX5_latestChild 115 = .ok (.if_icmp .ne 41, 3) := by decide +kernel
theorem dX5_latestChild_118 : decode cX5_latestChild 118 = .ok (.iload 8, 2) := by decide +kernel
theorem dX5_latestChild_120 : decode cX5_latestChild 120 = .ok (.iload 5, 2) := by decide +kernel
theorem dX5_latestChild_122 : decode cX5_latestChild 122 = .ok (.if_icmp .ne 34, 3) := by decide +kernel
theorem dX5_latestChild_125 : decode cX5_latestChild 125 = .ok (.aload_n 0, 1) := by decide +kernel
theorem dX5_latestChild_126 : decode cX5_latestChild 126 = .ok (.getfield 40, 3) := by decide +kernel
theorem dX5_latestChild_129 : decode cX5_latestChild 129 = .ok (.getfield 94, 3) := by decide +kernel
theorem dX5_latestChild_132 : decode cX5_latestChild 132 = .ok (.iload 7, 2) := by decide +kernel
theorem dX5_latestChild_134 : decode cX5_latestChild 134 = .ok (.invokestatic 65, 3) := by decide +kernel
theorem dX5_latestChild_137 : decode cX5_latestChild 137 = .ok (.aload_n 0, 1) := by decide +kernel
theorem dX5_latestChild_138 : decode cX5_latestChild 138 = .ok (.getfield 40, 3) := by decide +kernel
theorem dX5_latestChild_141 : decode cX5_latestChild 141 = .ok (.getfield 94, 3) := by decide +kernel
theorem dX5_latestChild_144 : decode cX5_latestChild 144 = .ok (.iload 4, 2) := by decide +kernel
theorem dX5_latestChild_146 : decode cX5_latestChild 146 = .ok (.invokestatic 65, 3) := by decide +kernel
theorem dX5_latestChild_149 : decode cX5_latestChild 149 = .ok (.if_icmp .ge 7, 3) := by decide +kernel
theorem dX5_latestChild_152 : decode cX5_latestChild 152 = .ok (.iconst 1, 1) := by decide +kernel
theorem dX5_latestChild_153 : decode cX5_latestChild 153 = .ok (.goto 4, 3) := by decide +kernel
theorem dX5_latestChild_156 : decode cX5_latestChild 156 = .ok (.iconst 0, 1) := by decide +kernel
theorem dX5_latestChild_157 : decode cX5_latestChild 157 = .ok (.istore 10, 2) := by decide +kernel
theorem dX5_latestChild_159 : decode cX5_latestChild 159 = .ok (.iload 10, 2) := by decide +kernel
theorem dX5_latestChild_161 : decode cX5_latestChild 161 = .ok (.ifCond .eq 15, 3) := by decide +kernel
theorem dX5_latestChild_164 : decode cX5_latestChild 164 = .ok (.iload 7, 2) := by decide +kernel
theorem dX5_latestChild_166 : decode cX5_latestChild 166 = .ok (.istore 4, 2) := by decide +kernel
theorem dX5_latestChild_168 : decode cX5_latestChild 168 = .ok (.iload 8, 2) := by decide +kernel
theorem dX5_latestChild_170 : decode cX5_latestChild 170 = .ok (.istore 5, 2) := by decide +kernel
theorem dX5_latestChild_172 : decode cX5_latestChild 172 = .ok (.iload 9, 2) := by decide +kernel
theorem dX5_latestChild_174 : decode cX5_latestChild 174 = .ok (.istore 6, 2) := by decide +kernel
theorem dX5_latestChild_176 : decode cX5_latestChild 176 = .ok (.iinc 7 1, 3) := by decide +kernel
theorem dX5_latestChild_179 : decode cX5_latestChild 179 = .ok (.goto (-167), 3) := by decide +kernel
theorem dX5_latestChild_182 : decode cX5_latestChild 182 = .ok (.iload 4, 2) := by decide +kernel
theorem dX5_latestChild_184 : decode cX5_latestChild 184 = .ok (.ireturn, 1) := by decide +kernel
set_option maxRecDepth 100000 in
set_option maxHeartbeats 4000000 in
theorem w5_latestChild_b157_ok {G : GT} {P : Int32 → Mem → Prop} {X : String → Mem → Prop} (C : PCx G cX5_latestChild 11 RX5) (hRt : PRt G (some .int) (qI P) X) (hHR : HR G (2)) (hnT : NoT G) {R12 : Mem → Int32 → Int32 → Int32 → Int32 → Int32 → Int32 → Int32 → Prop} (hR12 : ∀ (μ : Mem) (l1 : Int32) (l2 : Int32) (l3 : Int32) (l4 : Int32) (l5 : Int32) (l6 : Int32) (l7 : Int32), R12 μ l1 l2 l3 l4 l5 l6 l7 → PW G 0 0 12 [some (pR 27 0), some (pI l1), some (pI l2), some (pI l3), some (pI l4), some (pI l5), some (pI l6), some (pI l7), none, none, none] [] μ) {μ : Mem} {l1 : Int32} {l2 : Int32} {l3 : Int32} {l4 : Int32} {l5 : Int32} {l6 : Int32} {l7 : Int32} {l8 : Int32} {l9 : Int32} {s0 : Int32} (hk : w5_latestChild_b157 P R12 μ l1 l2 l3 l4 l5 l6 l7 l8 l9 s0) : PW G 0 0 157 [some (pR 27 0), some (pI l1), some (pI l2), some (pI l3), some (pI l4), some (pI l5), some (pI l6), some (pI l7), some (pI l8), some (pI l9), none] [pI s0] μ := by
  unfold w5_latestChild_b157 at hk
  refine px_istore (i := 10) C dX5_latestChild_157 (by decide) rfl ?_
  refine px_iload (i := 10) C dX5_latestChild_159 rfl ?_
  refine px_if_eq (tgt := 176) C dX5_latestChild_161 (by decide) (fun c5 => ?_) (fun c5 => ?_)
  · replace hk := hk.1 c5
    refine px_iinc (i := 7) (v := (1 : Int32)) C dX5_latestChild_176 rfl rfl (by decide) rfl ?_
    refine px_goto (tgt := 12) C dX5_latestChild_179 (by decide) ?_
    exact PW_at (hR12 _ _ _ _ _ _ _ _ hk) (And.intro rfl (And.intro rfl (And.intro rfl (And.intro rfl (And.intro rfl (And.intro rfl (And.intro rfl (And.intro rfl trivial)))))))) (Nat.le_of_ble_eq_true rfl) (Nat.le_of_ble_eq_true rfl)
  · replace hk := hk.2 c5
    refine px_iload (i := 7) C dX5_latestChild_164 rfl ?_
    refine px_istore (i := 4) C dX5_latestChild_166 (by decide) rfl ?_
    refine px_iload (i := 8) C dX5_latestChild_168 rfl ?_
    refine px_istore (i := 5) C dX5_latestChild_170 (by decide) rfl ?_
    refine px_iload (i := 9) C dX5_latestChild_172 rfl ?_
    refine px_istore (i := 6) C dX5_latestChild_174 (by decide) rfl ?_
    refine px_iinc (i := 7) (v := (1 : Int32)) C dX5_latestChild_176 rfl rfl (by decide) rfl ?_
    refine px_goto (tgt := 12) C dX5_latestChild_179 (by decide) ?_
    exact PW_at (hR12 _ _ _ _ _ _ _ _ hk) (And.intro rfl (And.intro rfl (And.intro rfl (And.intro rfl (And.intro rfl (And.intro rfl (And.intro rfl (And.intro rfl trivial)))))))) (Nat.le_of_ble_eq_true rfl) (Nat.le_of_ble_eq_true rfl)
set_option maxRecDepth 100000 in
set_option maxHeartbeats 4000000 in
theorem w5_latestChild_b111_ok {G : GT} {P : Int32 → Mem → Prop} {X : String → Mem → Prop} (C : PCx G cX5_latestChild 11 RX5) (hRt : PRt G (some .int) (qI P) X) (hHR : HR G (2)) (hnT : NoT G) {R12 : Mem → Int32 → Int32 → Int32 → Int32 → Int32 → Int32 → Int32 → Prop} (hR12 : ∀ (μ : Mem) (l1 : Int32) (l2 : Int32) (l3 : Int32) (l4 : Int32) (l5 : Int32) (l6 : Int32) (l7 : Int32), R12 μ l1 l2 l3 l4 l5 l6 l7 → PW G 0 0 12 [some (pR 27 0), some (pI l1), some (pI l2), some (pI l3), some (pI l4), some (pI l5), some (pI l6), some (pI l7), none, none, none] [] μ) {μ : Mem} {l1 : Int32} {l2 : Int32} {l3 : Int32} {l4 : Int32} {l5 : Int32} {l6 : Int32} {l7 : Int32} {l8 : Int32} {l9 : Int32} (hk : w5_latestChild_b111 P R12 μ l1 l2 l3 l4 l5 l6 l7 l8 l9) : PW G 0 0 111 [some (pR 27 0), some (pI l1), some (pI l2), some (pI l3), some (pI l4), some (pI l5), some (pI l6), some (pI l7), some (pI l8), some (pI l9), none] [] μ := by
  unfold w5_latestChild_b111 at hk
  refine px_iload (i := 9) C dX5_latestChild_111 rfl ?_
  refine px_iload (i := 6) C dX5_latestChild_113 rfl ?_
  refine px_icmp_ne (tgt := 156) C dX5_latestChild_115 (by decide) (fun c10 => ?_) (fun c10 => ?_)
  · replace hk := hk.1 c10
    refine px_iconst (v := (0 : Int32)) C dX5_latestChild_156 rfl ?_
    exact PW_at (w5_latestChild_b157_ok C hRt hHR hnT hR12 hk) (And.intro rfl (And.intro rfl (And.intro rfl (And.intro rfl (And.intro rfl (And.intro rfl (And.intro rfl (And.intro rfl (And.intro rfl (And.intro rfl trivial)))))))))) (Nat.le_of_ble_eq_true rfl) (Nat.le_of_ble_eq_true rfl)
  · replace hk := hk.2 c10
    refine px_iload (i := 8) C dX5_latestChild_118 rfl ?_
    refine px_iload (i := 5) C dX5_latestChild_120 rfl ?_
    refine px_icmp_ne (tgt := 156) C dX5_latestChild_122 (by decide) (fun c9 => ?_) (fun c9 => ?_)
    · replace hk := hk.1 c9
      refine px_iconst (v := (0 : Int32)) C dX5_latestChild_156 rfl ?_
      exact PW_at (w5_latestChild_b157_ok C hRt hHR hnT hR12 hk) (And.intro rfl (And.intro rfl (And.intro rfl (And.intro rfl (And.intro rfl (And.intro rfl (And.intro rfl (And.intro rfl (And.intro rfl (And.intro rfl trivial)))))))))) (Nat.le_of_ble_eq_true rfl) (Nat.le_of_ble_eq_true rfl)
    · replace hk := hk.2 c9
      refine px_aload_n (i := 0) C dX5_latestChild_125 rfl rfl ?_
      refine px_getr C dX5_latestChild_126 fl_RX5_40 rfl rfl rfl ?_
      refine px_getr C dX5_latestChild_129 fl_RX5_94 rfl rfl rfl ?_
      refine px_iload (i := 7) C dX5_latestChild_132 rfl ?_
      obtain ⟨o6, hk⟩ := hk
      refine px_callSNi (h := 0) (rc' := 0) (rs' := 0) C (HR_le hHR (Nat.le_of_ble_eq_true rfl)) hRt hnT dX5_latestChild_134 (List.mem_append_right _ (List.mem_append_left _ (List.mem_of_getElem? (i := 19) rfl))) ms_X8_at (at_ok (j := 2) (q := 0) (n := 40) (loc := 128) (PCx_l C) (PCx_I C) rfl rfl rfl o6) rfl rfl (Nat.le_of_ble_eq_true rfl) (Nat.le_of_ble_eq_true rfl) (Nat.le_of_ble_eq_true rfl) (Nat.le_of_ble_eq_true rfl) ?_
      rintro _ _ ⟨rfl, rfl⟩
      refine px_aload_n (i := 0) C dX5_latestChild_137 rfl rfl ?_
      refine px_getr C dX5_latestChild_138 fl_RX5_40 rfl rfl rfl ?_
      refine px_getr C dX5_latestChild_141 fl_RX5_94 rfl rfl rfl ?_
      refine px_iload (i := 4) C dX5_latestChild_144 rfl ?_
      obtain ⟨o7, hk⟩ := hk
      refine px_callSNi (h := 0) (rc' := 0) (rs' := 0) C (HR_le hHR (Nat.le_of_ble_eq_true rfl)) hRt hnT dX5_latestChild_146 (List.mem_append_right _ (List.mem_append_left _ (List.mem_of_getElem? (i := 19) rfl))) ms_X8_at (at_ok (j := 2) (q := 0) (n := 40) (loc := 128) (PCx_l C) (PCx_I C) rfl rfl rfl o7) rfl rfl (Nat.le_of_ble_eq_true rfl) (Nat.le_of_ble_eq_true rfl) (Nat.le_of_ble_eq_true rfl) (Nat.le_of_ble_eq_true rfl) ?_
      rintro _ _ ⟨rfl, rfl⟩
      refine px_icmp_ge (tgt := 156) C dX5_latestChild_149 (by decide) (fun c8 => ?_) (fun c8 => ?_)
      · replace hk := hk.1 c8
        refine px_iconst (v := (0 : Int32)) C dX5_latestChild_156 rfl ?_
        exact PW_at (w5_latestChild_b157_ok C hRt hHR hnT hR12 hk) (And.intro rfl (And.intro rfl (And.intro rfl (And.intro rfl (And.intro rfl (And.intro rfl (And.intro rfl (And.intro rfl (And.intro rfl (And.intro rfl trivial)))))))))) (Nat.le_of_ble_eq_true rfl) (Nat.le_of_ble_eq_true rfl)
      · replace hk := hk.2 c8
        refine px_iconst (v := (1 : Int32)) C dX5_latestChild_152 rfl ?_
        refine px_goto (tgt := 157) C dX5_latestChild_153 (by decide) ?_
        exact PW_at (w5_latestChild_b157_ok C hRt hHR hnT hR12 hk) (And.intro rfl (And.intro rfl (And.intro rfl (And.intro rfl (And.intro rfl (And.intro rfl (And.intro rfl (And.intro rfl (And.intro rfl (And.intro rfl trivial)))))))))) (Nat.le_of_ble_eq_true rfl) (Nat.le_of_ble_eq_true rfl)
set_option maxRecDepth 100000 in
set_option maxHeartbeats 4000000 in
theorem w5_latestChild_b12_ok {G : GT} {P : Int32 → Mem → Prop} {X : String → Mem → Prop} (C : PCx G cX5_latestChild 11 RX5) (hRt : PRt G (some .int) (qI P) X) (hHR : HR G (2)) (hnT : NoT G) {μ : Mem} {l1 : Int32} {l2 : Int32} {l3 : Int32} {l4 : Int32} {l5 : Int32} {l6 : Int32} {l7 : Int32} (hk : w5_latestChild_b12 P μ l1 l2 l3 l4 l5 l6 l7) : PW G 0 0 12 [some (pR 27 0), some (pI l1), some (pI l2), some (pI l3), some (pI l4), some (pI l5), some (pI l6), some (pI l7), none, none, none] [] μ := by
  refine hk (fun (μ : Mem) (l1 : Int32) (l2 : Int32) (l3 : Int32) (l4 : Int32) (l5 : Int32) (l6 : Int32) (l7 : Int32) => PW G 0 0 12 [some (pR 27 0), some (pI l1), some (pI l2), some (pI l3), some (pI l4), some (pI l5), some (pI l6), some (pI l7), none, none, none] [] μ) (fun (μ : Mem) l1 l2 l3 l4 l5 l6 l7 hk => ?_)
  have hR12 : ∀ (μ : Mem) (l1 : Int32) (l2 : Int32) (l3 : Int32) (l4 : Int32) (l5 : Int32) (l6 : Int32) (l7 : Int32), PW G 0 0 12 [some (pR 27 0), some (pI l1), some (pI l2), some (pI l3), some (pI l4), some (pI l5), some (pI l6), some (pI l7), none, none, none] [] μ → PW G 0 0 12 [some (pR 27 0), some (pI l1), some (pI l2), some (pI l3), some (pI l4), some (pI l5), some (pI l6), some (pI l7), none, none, none] [] μ := fun _ _ _ _ _ _ _ _ h => h
  unfold w5_latestChild_b12_body at hk
  refine px_iload (i := 7) C dX5_latestChild_12 rfl ?_
  refine px_aload_n (i := 0) C dX5_latestChild_14 rfl rfl ?_
  refine px_getr C dX5_latestChild_15 fl_RX5_40 rfl rfl rfl ?_
  refine px_geti 1 C dX5_latestChild_18 fl_RX5_99 rfl rfl rfl rfl ?_
  refine px_icmp_ge (tgt := 182) C dX5_latestChild_21 (by decide) (fun c17 => ?_) (fun c17 => ?_)
  · replace hk := hk.1 c17
    refine px_iload (i := 4) C dX5_latestChild_182 rfl ?_
    exact px_iret C hRt dX5_latestChild_184 rfl rfl hk
  · replace hk := hk.2 c17
    refine px_aload_n (i := 0) C dX5_latestChild_24 rfl rfl ?_
    refine px_getr C dX5_latestChild_25 fl_RX5_44 rfl rfl rfl ?_
    refine px_getr C dX5_latestChild_28 fl_RX5_84 rfl rfl rfl ?_
    refine px_iload (i := 7) C dX5_latestChild_31 rfl ?_
    obtain ⟨o1, hk⟩ := hk
    refine px_callSNi (h := 0) (rc' := 0) (rs' := 0) C (HR_le hHR (Nat.le_of_ble_eq_true rfl)) hRt hnT dX5_latestChild_33 (List.mem_append_right _ (List.mem_append_left _ (List.mem_of_getElem? (i := 19) rfl))) ms_X8_at (at_ok (j := 19) (q := 0) (n := 40) (loc := 1216) (PCx_l C) (PCx_I C) rfl rfl rfl o1) rfl rfl (Nat.le_of_ble_eq_true rfl) (Nat.le_of_ble_eq_true rfl) (Nat.le_of_ble_eq_true rfl) (Nat.le_of_ble_eq_true rfl) ?_
    rintro _ _ ⟨rfl, rfl⟩
    refine px_iload_n (i := 2) C dX5_latestChild_36 rfl rfl ?_
    refine px_mmax C (HR_le hHR (Nat.le_of_ble_eq_true rfl)) dX5_latestChild_37 (gw5 24 rfl rfl) math_max (Nat.le_of_ble_eq_true rfl) ?_
    refine px_istore (i := 8) C dX5_latestChild_40 (by decide) rfl ?_
    refine px_aload_n (i := 0) C dX5_latestChild_42 rfl rfl ?_
    refine px_getr C dX5_latestChild_43 fl_RX5_44 rfl rfl rfl ?_
    refine px_getr C dX5_latestChild_46 fl_RX5_90 rfl rfl rfl ?_
    refine px_iload (i := 7) C dX5_latestChild_49 rfl ?_
    obtain ⟨o2, hk⟩ := hk
    refine px_callSNi (h := 0) (rc' := 0) (rs' := 0) C (HR_le hHR (Nat.le_of_ble_eq_true rfl)) hRt hnT dX5_latestChild_51 (List.mem_append_right _ (List.mem_append_left _ (List.mem_of_getElem? (i := 19) rfl))) ms_X8_at (at_ok (j := 20) (q := 0) (n := 40) (loc := 1280) (PCx_l C) (PCx_I C) rfl rfl rfl o2) rfl rfl (Nat.le_of_ble_eq_true rfl) (Nat.le_of_ble_eq_true rfl) (Nat.le_of_ble_eq_true rfl) (Nat.le_of_ble_eq_true rfl) ?_
    rintro _ _ ⟨rfl, rfl⟩
    refine px_iload_n (i := 3) C dX5_latestChild_54 rfl rfl ?_
    refine px_mmin C (HR_le hHR (Nat.le_of_ble_eq_true rfl)) dX5_latestChild_55 (gw5 25 rfl rfl) math_min (Nat.le_of_ble_eq_true rfl) ?_
    refine px_istore (i := 9) C dX5_latestChild_58 (by decide) rfl ?_
    refine px_iload (i := 8) C dX5_latestChild_60 rfl ?_
    refine px_iload (i := 9) C dX5_latestChild_62 rfl ?_
    refine px_icmp_ge (tgt := 176) C dX5_latestChild_64 (by decide) (fun c16 => ?_) (fun c16 => ?_)
    · replace hk := hk.1 c16
      refine px_iinc (i := 7) (v := (1 : Int32)) C dX5_latestChild_176 rfl rfl (by decide) rfl ?_
      refine px_goto (tgt := 12) C dX5_latestChild_179 (by decide) ?_
      exact PW_at (hR12 _ _ _ _ _ _ _ _ hk) (And.intro rfl (And.intro rfl (And.intro rfl (And.intro rfl (And.intro rfl (And.intro rfl (And.intro rfl (And.intro rfl trivial)))))))) (Nat.le_of_ble_eq_true rfl) (Nat.le_of_ble_eq_true rfl)
    · replace hk := hk.2 c16
      refine px_aload_n (i := 0) C dX5_latestChild_67 rfl rfl ?_
      refine px_getr C dX5_latestChild_68 fl_RX5_44 rfl rfl rfl ?_
      refine px_iload (i := 7) C dX5_latestChild_71 rfl ?_
      refine px_aload_n (i := 0) C dX5_latestChild_73 rfl rfl ?_
      refine px_geti 1735 C dX5_latestChild_74 fl_RX5_25 rfl rfl rfl rfl ?_
      refine px_iload_n (i := 1) C dX5_latestChild_77 rfl rfl ?_
      refine px_callVi (h := 1) (rc' := 0) (rs' := 0) C (HR_le hHR (Nat.le_of_ble_eq_true rfl)) hRt hnT dX5_latestChild_78 (gw5 26 rfl rfl) mv_X2_isChild (w2_isChild_ok (PCx_l C) (PCx_I C) hk) rfl rfl rfl rfl rfl (Nat.le_of_ble_eq_true rfl) (Nat.le_of_ble_eq_true rfl) (Nat.le_of_ble_eq_true rfl) (Nat.le_of_ble_eq_true rfl) ?_
      intro r4 μ3 hk
      refine px_if_eq (tgt := 176) C dX5_latestChild_81 (by decide) (fun c15 => ?_) (fun c15 => ?_)
      · replace hk := hk.1 c15
        refine px_iinc (i := 7) (v := (1 : Int32)) C dX5_latestChild_176 rfl rfl (by decide) rfl ?_
        refine px_goto (tgt := 12) C dX5_latestChild_179 (by decide) ?_
        exact PW_at (hR12 _ _ _ _ _ _ _ _ hk) (And.intro rfl (And.intro rfl (And.intro rfl (And.intro rfl (And.intro rfl (And.intro rfl (And.intro rfl (And.intro rfl trivial)))))))) (Nat.le_of_ble_eq_true rfl) (Nat.le_of_ble_eq_true rfl)
      · replace hk := hk.2 c15
        refine px_iload (i := 4) C dX5_latestChild_84 rfl ?_
        refine px_iconst (v := (-1 : Int32)) C dX5_latestChild_86 rfl ?_
        refine px_icmp_eq (tgt := 152) C dX5_latestChild_87 (by decide) (fun c14 => ?_) (fun c14 => ?_)
        · replace hk := hk.1 c14
          refine px_iconst (v := (1 : Int32)) C dX5_latestChild_152 rfl ?_
          refine px_goto (tgt := 157) C dX5_latestChild_153 (by decide) ?_
          exact PW_at (w5_latestChild_b157_ok C hRt hHR hnT hR12 hk) (And.intro rfl (And.intro rfl (And.intro rfl (And.intro rfl (And.intro rfl (And.intro rfl (And.intro rfl (And.intro rfl (And.intro rfl (And.intro rfl trivial)))))))))) (Nat.le_of_ble_eq_true rfl) (Nat.le_of_ble_eq_true rfl)
        · replace hk := hk.2 c14
          refine px_iload (i := 9) C dX5_latestChild_90 rfl ?_
          refine px_iload (i := 6) C dX5_latestChild_92 rfl ?_
          refine px_icmp_gt (tgt := 152) C dX5_latestChild_94 (by decide) (fun c13 => ?_) (fun c13 => ?_)
          · replace hk := hk.1 c13
            refine px_iconst (v := (1 : Int32)) C dX5_latestChild_152 rfl ?_
            refine px_goto (tgt := 157) C dX5_latestChild_153 (by decide) ?_
            exact PW_at (w5_latestChild_b157_ok C hRt hHR hnT hR12 hk) (And.intro rfl (And.intro rfl (And.intro rfl (And.intro rfl (And.intro rfl (And.intro rfl (And.intro rfl (And.intro rfl (And.intro rfl (And.intro rfl trivial)))))))))) (Nat.le_of_ble_eq_true rfl) (Nat.le_of_ble_eq_true rfl)
          · replace hk := hk.2 c13
            refine px_iload (i := 9) C dX5_latestChild_97 rfl ?_
            refine px_iload (i := 6) C dX5_latestChild_99 rfl ?_
            refine px_icmp_ne (tgt := 111) C dX5_latestChild_101 (by decide) (fun c12 => ?_) (fun c12 => ?_)
            · replace hk := hk.1 c12
              exact PW_at (w5_latestChild_b111_ok C hRt hHR hnT hR12 hk) (And.intro rfl (And.intro rfl (And.intro rfl (And.intro rfl (And.intro rfl (And.intro rfl (And.intro rfl (And.intro rfl (And.intro rfl (And.intro rfl trivial)))))))))) (Nat.le_of_ble_eq_true rfl) (Nat.le_of_ble_eq_true rfl)
            · replace hk := hk.2 c12
              refine px_iload (i := 8) C dX5_latestChild_104 rfl ?_
              refine px_iload (i := 5) C dX5_latestChild_106 rfl ?_
              refine px_icmp_lt (tgt := 152) C dX5_latestChild_108 (by decide) (fun c11 => ?_) (fun c11 => ?_)
              · replace hk := hk.1 c11
                refine px_iconst (v := (1 : Int32)) C dX5_latestChild_152 rfl ?_
                refine px_goto (tgt := 157) C dX5_latestChild_153 (by decide) ?_
                exact PW_at (w5_latestChild_b157_ok C hRt hHR hnT hR12 hk) (And.intro rfl (And.intro rfl (And.intro rfl (And.intro rfl (And.intro rfl (And.intro rfl (And.intro rfl (And.intro rfl (And.intro rfl (And.intro rfl trivial)))))))))) (Nat.le_of_ble_eq_true rfl) (Nat.le_of_ble_eq_true rfl)
              · replace hk := hk.2 c11
                exact PW_at (w5_latestChild_b111_ok C hRt hHR hnT hR12 hk) (And.intro rfl (And.intro rfl (And.intro rfl (And.intro rfl (And.intro rfl (And.intro rfl (And.intro rfl (And.intro rfl (And.intro rfl (And.intro rfl trivial)))))))))) (Nat.le_of_ble_eq_true rfl) (Nat.le_of_ble_eq_true rfl)
set_option maxRecDepth 100000 in
set_option maxHeartbeats 4000000 in
theorem w5_latestChild_ok {l : Launch} {idx : List (Nat × Nat)} {μ : Mem} {a1 : Int32} {a2 : Int32} {a3 : Int32} {P : Int32 → Mem → Prop} {X : String → Mem → Prop} (hl : l.stackTraces = false) (hI : IdxOK idx) (hk : w5_latestChild_wp μ a1 a2 a3 P) : PMet l yX5_latestChild (.code yX5_latestChild cX5_latestChild 11 (some .int)) 2 0 0 idx [pR 27 0, pI a1, pI a2, pI a3] μ (qI P) X := by
  refine PMet_of mv_X5_latestChild.2.2.2.2.2.2 hl hI mv_X5_latestChild.2.2.2.1 rfl (Nat.le_of_ble_eq_true rfl) (fun G _ _ C hRt hHR hnT => ?_)
  show PW G 0 0 0 [some (pR 27 0), some (pI a1), some (pI a2), some (pI a3), none, none, none, none, none, none, none] [] μ
  unfold w5_latestChild_wp at hk
  refine px_iconst (v := (-1 : Int32)) C dX5_latestChild_0 rfl ?_
  refine px_istore (i := 4) C dX5_latestChild_1 (by decide) rfl ?_
  refine px_iconst (v := (0 : Int32)) C dX5_latestChild_3 rfl ?_
  refine px_istore (i := 5) C dX5_latestChild_4 (by decide) rfl ?_
  refine px_iconst (v := (0 : Int32)) C dX5_latestChild_6 rfl ?_
  refine px_istore (i := 6) C dX5_latestChild_7 (by decide) rfl ?_
  refine px_iconst (v := (0 : Int32)) C dX5_latestChild_9 rfl ?_
  refine px_istore (i := 7) C dX5_latestChild_10 (by decide) rfl ?_
  exact PW_at (w5_latestChild_b12_ok C hRt hHR hnT hk) (And.intro rfl (And.intro rfl (And.intro rfl (And.intro rfl (And.intro rfl (And.intro rfl (And.intro rfl (And.intro rfl trivial)))))))) (Nat.le_of_ble_eq_true rfl) (Nat.le_of_ble_eq_true rfl)
theorem dX5_rowOf_0 : decode cX5_rowOf 0 = .ok (.aload_n 0, 1) := by decide +kernel
theorem dX5_rowOf_1 : decode cX5_rowOf 1 = .ok (.getfield 11, 3) := by decide +kernel
theorem dX5_rowOf_4 : decode cX5_rowOf 4 = .ok (.iconst 1, 1) := by decide +kernel
theorem dX5_rowOf_5 : decode cX5_rowOf 5 = .ok (.isub, 1) := by decide +kernel
theorem dX5_rowOf_6 : decode cX5_rowOf 6 = .ok (.iload_n 1, 1) := by decide +kernel
theorem dX5_rowOf_7 : decode cX5_rowOf 7 = .ok (.isub, 1) := by decide +kernel
theorem dX5_rowOf_8 : decode cX5_rowOf 8 = .ok (.ireturn, 1) := by decide +kernel
set_option maxRecDepth 100000 in
set_option maxHeartbeats 4000000 in
theorem w5_rowOf_ok {l : Launch} {idx : List (Nat × Nat)} {μ : Mem} {a1 : Int32} {P : Int32 → Mem → Prop} {X : String → Mem → Prop} (hl : l.stackTraces = false) (hI : IdxOK idx) (hk : w5_rowOf_wp μ a1 P) : PMet l yX5_rowOf (.code yX5_rowOf cX5_rowOf 2 (some .int)) 0 0 0 idx [pR 27 0, pI a1] μ (qI P) X := by
  refine PMet_of mv_X5_rowOf.2.2.2.2.2.2 hl hI mv_X5_rowOf.2.2.2.1 rfl (Nat.le_of_ble_eq_true rfl) (fun G _ _ C hRt hHR hnT => ?_)
  show PW G 0 0 0 [some (pR 27 0), some (pI a1)] [] μ
  unfold w5_rowOf_wp at hk
  refine px_aload_n (i := 0) C dX5_rowOf_0 rfl rfl ?_
  refine px_geti 1729 C dX5_rowOf_1 fl_RX5_11 rfl rfl rfl rfl ?_
  refine px_iconst (v := (1 : Int32)) C dX5_rowOf_4 rfl ?_
  refine px_isub C dX5_rowOf_5 ?_
  refine px_iload_n (i := 1) C dX5_rowOf_6 rfl rfl ?_
  refine px_isub C dX5_rowOf_7 ?_
  exact px_iret C hRt dX5_rowOf_8 rfl rfl hk
theorem dX5_timeOf_0 : decode cX5_timeOf 0 = .ok (.iconst 0, 1) := by decide +kernel
theorem dX5_timeOf_1 : decode cX5_timeOf 1 = .ok (.istore_n 2, 1) := by decide +kernel
theorem dX5_timeOf_2 : decode cX5_timeOf 2 = .ok (.iconst 0, 1) := by decide +kernel
theorem dX5_timeOf_3 : decode cX5_timeOf 3 = .ok (.istore_n 3, 1) := by decide +kernel
theorem dX5_timeOf_4 : decode cX5_timeOf 4 = .ok (.iload_n 3, 1) := by decide +kernel
theorem dX5_timeOf_5 : decode cX5_timeOf 5 = .ok (.aload_n 0, 1) := by decide +kernel
theorem dX5_timeOf_6 : decode cX5_timeOf 6 = .ok (.getfield 11, 3) := by decide +kernel
theorem dX5_timeOf_9 : decode cX5_timeOf 9 = .ok (.if_icmp .ge 41, 3) := by decide +kernel
theorem dX5_timeOf_12 : decode cX5_timeOf 12 = .ok (.aload_n 0, 1) := by decide +kernel
theorem dX5_timeOf_13 : decode cX5_timeOf 13 = .ok (.getfield 15, 3) := by decide +kernel
theorem dX5_timeOf_16 : decode cX5_timeOf 16 = .ok (.iload_n 3, 1) := by decide +kernel
theorem dX5_timeOf_17 : decode cX5_timeOf 17 = .ok (.invokestatic 65, 3) := by decide +kernel
theorem dX5_timeOf_20 : decode cX5_timeOf 20 = .ok (.iload_n 1, 1) := by decide +kernel
theorem dX5_timeOf_21 : decode cX5_timeOf 21 = .ok (.if_icmp .ne 23, 3) := by decide +kernel
theorem dX5_timeOf_24 : decode cX5_timeOf 24 = .ok (.iload_n 2, 1) := by decide +kernel
theorem dX5_timeOf_25 : decode cX5_timeOf 25 = .ok (.aload_n 0, 1) := by decide +kernel
theorem dX5_timeOf_26 : decode cX5_timeOf 26 = .ok (.getfield 22, 3) := by decide +kernel
theorem dX5_timeOf_29 : decode cX5_timeOf 29 = .ok (.iload_n 3, 1) := by decide +kernel
theorem dX5_timeOf_30 : decode cX5_timeOf 30 = .ok (.invokestatic 65, 3) := by decide +kernel
theorem dX5_timeOf_33 : decode cX5_timeOf 33 = .ok (.aload_n 0, 1) := by decide +kernel
theorem dX5_timeOf_34 : decode cX5_timeOf 34 = .ok (.getfield 19, 3) := by decide +kernel
theorem dX5_timeOf_37 : decode cX5_timeOf 37 = .ok (.iload_n 3, 1) := by decide +kernel
theorem dX5_timeOf_38 : decode cX5_timeOf 38 = .ok (.invokestatic 65, 3) := by decide +kernel
theorem dX5_timeOf_41 : decode cX5_timeOf 41 = .ok (.isub, 1) := by decide +kernel
theorem dX5_timeOf_42 : decode cX5_timeOf 42 = .ok (.iadd, 1) := by decide +kernel
theorem dX5_timeOf_43 : decode cX5_timeOf 43 = .ok (.istore_n 2, 1) := by decide +kernel
theorem dX5_timeOf_44 : decode cX5_timeOf 44 = .ok (.iinc 3 1, 3) := by decide +kernel
theorem dX5_timeOf_47 : decode cX5_timeOf 47 = .ok (.goto (-43), 3) := by decide +kernel
theorem dX5_timeOf_50 : decode cX5_timeOf 50 = .ok (.iload_n 2, 1) := by decide +kernel
theorem dX5_timeOf_51 : decode cX5_timeOf 51 = .ok (.ireturn, 1) := by decide +kernel
set_option maxRecDepth 100000 in
set_option maxHeartbeats 4000000 in
theorem w5_timeOf_b4_ok {G : GT} {P : Int32 → Mem → Prop} {X : String → Mem → Prop} (C : PCx G cX5_timeOf 4 RX5) (hRt : PRt G (some .int) (qI P) X) (hHR : HR G (1)) (hnT : NoT G) {μ : Mem} {l1 : Int32} {l2 : Int32} {l3 : Int32} (hk : w5_timeOf_b4 P μ l1 l2 l3) : PW G 0 0 4 [some (pR 27 0), some (pI l1), some (pI l2), some (pI l3)] [] μ := by
  refine hk (fun (μ : Mem) (l1 : Int32) (l2 : Int32) (l3 : Int32) => PW G 0 0 4 [some (pR 27 0), some (pI l1), some (pI l2), some (pI l3)] [] μ) (fun (μ : Mem) l1 l2 l3 hk => ?_)
  have hR4 : ∀ (μ : Mem) (l1 : Int32) (l2 : Int32) (l3 : Int32), PW G 0 0 4 [some (pR 27 0), some (pI l1), some (pI l2), some (pI l3)] [] μ → PW G 0 0 4 [some (pR 27 0), some (pI l1), some (pI l2), some (pI l3)] [] μ := fun _ _ _ _ h => h
  unfold w5_timeOf_b4_body at hk
  refine px_iload_n (i := 3) C dX5_timeOf_4 rfl rfl ?_
  refine px_aload_n (i := 0) C dX5_timeOf_5 rfl rfl ?_
  refine px_geti 1729 C dX5_timeOf_6 fl_RX5_11 rfl rfl rfl rfl ?_
  refine px_icmp_ge (tgt := 50) C dX5_timeOf_9 (by decide) (fun c5 => ?_) (fun c5 => ?_)
  · replace hk := hk.1 c5
    refine px_iload_n (i := 2) C dX5_timeOf_50 rfl rfl ?_
    exact px_iret C hRt dX5_timeOf_51 rfl rfl hk
  · replace hk := hk.2 c5
    refine px_aload_n (i := 0) C dX5_timeOf_12 rfl rfl ?_
    refine px_getr C dX5_timeOf_13 fl_RX5_15 rfl rfl rfl ?_
    refine px_iload_n (i := 3) C dX5_timeOf_16 rfl rfl ?_
    obtain ⟨o1, hk⟩ := hk
    refine px_callSNi (h := 0) (rc' := 0) (rs' := 0) C (HR_le hHR (Nat.le_of_ble_eq_true rfl)) hRt hnT dX5_timeOf_17 (List.mem_append_right _ (List.mem_append_left _ (List.mem_of_getElem? (i := 19) rfl))) ms_X8_at (at_ok (j := 28) (q := 0) (n := 82) (loc := 1792) (PCx_l C) (PCx_I C) rfl rfl rfl o1) rfl rfl (Nat.le_of_ble_eq_true rfl) (Nat.le_of_ble_eq_true rfl) (Nat.le_of_ble_eq_true rfl) (Nat.le_of_ble_eq_true rfl) ?_
    rintro _ _ ⟨rfl, rfl⟩
    refine px_iload_n (i := 1) C dX5_timeOf_20 rfl rfl ?_
    refine px_icmp_ne (tgt := 44) C dX5_timeOf_21 (by decide) (fun c4 => ?_) (fun c4 => ?_)
    · replace hk := hk.1 c4
      refine px_iinc (i := 3) (v := (1 : Int32)) C dX5_timeOf_44 rfl rfl (by decide) rfl ?_
      refine px_goto (tgt := 4) C dX5_timeOf_47 (by decide) ?_
      exact PW_at (hR4 _ _ _ _ hk) (And.intro rfl (And.intro rfl (And.intro rfl (And.intro rfl trivial)))) (Nat.le_of_ble_eq_true rfl) (Nat.le_of_ble_eq_true rfl)
    · replace hk := hk.2 c4
      refine px_iload_n (i := 2) C dX5_timeOf_24 rfl rfl ?_
      refine px_aload_n (i := 0) C dX5_timeOf_25 rfl rfl ?_
      refine px_getr C dX5_timeOf_26 fl_RX5_22 rfl rfl rfl ?_
      refine px_iload_n (i := 3) C dX5_timeOf_29 rfl rfl ?_
      obtain ⟨o2, hk⟩ := hk
      refine px_callSNi (h := 0) (rc' := 0) (rs' := 0) C (HR_le hHR (Nat.le_of_ble_eq_true rfl)) hRt hnT dX5_timeOf_30 (List.mem_append_right _ (List.mem_append_left _ (List.mem_of_getElem? (i := 19) rfl))) ms_X8_at (at_ok (j := 30) (q := 0) (n := 82) (loc := 1920) (PCx_l C) (PCx_I C) rfl rfl rfl o2) rfl rfl (Nat.le_of_ble_eq_true rfl) (Nat.le_of_ble_eq_true rfl) (Nat.le_of_ble_eq_true rfl) (Nat.le_of_ble_eq_true rfl) ?_
      rintro _ _ ⟨rfl, rfl⟩
      refine px_aload_n (i := 0) C dX5_timeOf_33 rfl rfl ?_
      refine px_getr C dX5_timeOf_34 fl_RX5_19 rfl rfl rfl ?_
      refine px_iload_n (i := 3) C dX5_timeOf_37 rfl rfl ?_
      obtain ⟨o3, hk⟩ := hk
      refine px_callSNi (h := 0) (rc' := 0) (rs' := 0) C (HR_le hHR (Nat.le_of_ble_eq_true rfl)) hRt hnT dX5_timeOf_38 (List.mem_append_right _ (List.mem_append_left _ (List.mem_of_getElem? (i := 19) rfl))) ms_X8_at (at_ok (j := 29) (q := 0) (n := 82) (loc := 1856) (PCx_l C) (PCx_I C) rfl rfl rfl o3) rfl rfl (Nat.le_of_ble_eq_true rfl) (Nat.le_of_ble_eq_true rfl) (Nat.le_of_ble_eq_true rfl) (Nat.le_of_ble_eq_true rfl) ?_
      rintro _ _ ⟨rfl, rfl⟩
      refine px_isub C dX5_timeOf_41 ?_
      refine px_iadd C dX5_timeOf_42 ?_
      refine px_istore_n (i := 2) C dX5_timeOf_43 rfl (by decide) rfl ?_
      refine px_iinc (i := 3) (v := (1 : Int32)) C dX5_timeOf_44 rfl rfl (by decide) rfl ?_
      refine px_goto (tgt := 4) C dX5_timeOf_47 (by decide) ?_
      exact PW_at (hR4 _ _ _ _ hk) (And.intro rfl (And.intro rfl (And.intro rfl (And.intro rfl trivial)))) (Nat.le_of_ble_eq_true rfl) (Nat.le_of_ble_eq_true rfl)
set_option maxRecDepth 100000 in
set_option maxHeartbeats 4000000 in
theorem w5_timeOf_ok {l : Launch} {idx : List (Nat × Nat)} {μ : Mem} {a1 : Int32} {P : Int32 → Mem → Prop} {X : String → Mem → Prop} (hl : l.stackTraces = false) (hI : IdxOK idx) (hk : w5_timeOf_wp μ a1 P) : PMet l yX5_timeOf (.code yX5_timeOf cX5_timeOf 4 (some .int)) 1 0 0 idx [pR 27 0, pI a1] μ (qI P) X := by
  refine PMet_of mv_X5_timeOf.2.2.2.2.2.2 hl hI mv_X5_timeOf.2.2.2.1 rfl (Nat.le_of_ble_eq_true rfl) (fun G _ _ C hRt hHR hnT => ?_)
  show PW G 0 0 0 [some (pR 27 0), some (pI a1), none, none] [] μ
  unfold w5_timeOf_wp at hk
  refine px_iconst (v := (0 : Int32)) C dX5_timeOf_0 rfl ?_
  refine px_istore_n (i := 2) C dX5_timeOf_1 rfl (by decide) rfl ?_
  refine px_iconst (v := (0 : Int32)) C dX5_timeOf_2 rfl ?_
  refine px_istore_n (i := 3) C dX5_timeOf_3 rfl (by decide) rfl ?_
  exact PW_at (w5_timeOf_b4_ok C hRt hHR hnT hk) (And.intro rfl (And.intro rfl (And.intro rfl (And.intro rfl trivial)))) (Nat.le_of_ble_eq_true rfl) (Nat.le_of_ble_eq_true rfl)
theorem dX5_nodeAt_0 : decode cX5_nodeAt 0 = .ok (.iconst 0, 1) := by decide +kernel
theorem dX5_nodeAt_1 : decode cX5_nodeAt 1 = .ok (.istore_n 2, 1) := by decide +kernel
theorem dX5_nodeAt_2 : decode cX5_nodeAt 2 = .ok (.iload_n 2, 1) := by decide +kernel
theorem dX5_nodeAt_3 : decode cX5_nodeAt 3 = .ok (.aload_n 0, 1) := by decide +kernel
theorem dX5_nodeAt_4 : decode cX5_nodeAt 4 = .ok (.getfield 11, 3) := by decide +kernel
theorem dX5_nodeAt_7 : decode cX5_nodeAt 7 = .ok (.if_icmp .ge 42, 3) := by decide +kernel
theorem dX5_nodeAt_10 : decode cX5_nodeAt 10 = .ok (.aload_n 0, 1) := by decide +kernel
theorem dX5_nodeAt_11 : decode cX5_nodeAt 11 = .ok (.getfield 19, 3) := by decide +kernel
theorem dX5_nodeAt_14 : decode cX5_nodeAt 14 = .ok (.iload_n 2, 1) := by decide +kernel
theorem dX5_nodeAt_15 : decode cX5_nodeAt 15 = .ok (.invokestatic 65, 3) := by decide +kernel
theorem dX5_nodeAt_18 : decode cX5_nodeAt 18 = .ok (.iload_n 1, 1) := by decide +kernel
theorem dX5_nodeAt_19 : decode cX5_nodeAt 19 = .ok (.if_icmp .gt 24, 3) := by decide +kernel
theorem dX5_nodeAt_22 : decode cX5_nodeAt 22 = .ok (.iload_n 1, 1) := by decide +kernel
theorem dX5_nodeAt_23 : decode cX5_nodeAt 23 = .ok (.aload_n 0, 1) := by decide +kernel
theorem dX5_nodeAt_24 : decode cX5_nodeAt 24 = .ok (.getfield 22, 3) := by decide +kernel
theorem dX5_nodeAt_27 : decode cX5_nodeAt 27 = .ok (.iload_n 2, 1) := by decide +kernel
theorem dX5_nodeAt_28 : decode cX5_nodeAt 28 = .ok (.invokestatic 65, 3) := by decide +kernel
theorem dX5_nodeAt_31 : decode cX5_nodeAt 31 = .ok (.if_icmp .ge 12, 3) := by decide +kernel
theorem dX5_nodeAt_34 : decode cX5_nodeAt 34 = .ok (.aload_n 0, 1) := by decide +kernel
theorem dX5_nodeAt_35 : decode cX5_nodeAt 35 = .ok (.getfield 15, 3) := by decide +kernel
theorem dX5_nodeAt_38 : decode cX5_nodeAt 38 = .ok (.iload_n 2, 1) := by decide +kernel
theorem dX5_nodeAt_39 : decode cX5_nodeAt 39 = .ok (.invokestatic 65, 3) := by decide +kernel
theorem dX5_nodeAt_42 : decode cX5_nodeAt 42 = .ok (.ireturn, 1) := by decide +kernel
theorem dX5_nodeAt_43 : decode cX5_nodeAt 43 = .ok (.iinc 2 1, 3) := by decide +kernel
theorem dX5_nodeAt_46 : decode cX5_nodeAt 46 = .ok (.goto (-44), 3) := by decide +kernel
theorem dX5_nodeAt_49 : decode cX5_nodeAt 49 = .ok (.iconst (-1), 1) := by decide +kernel
theorem dX5_nodeAt_50 : decode cX5_nodeAt 50 = .ok (.ireturn, 1) := by decide +kernel
set_option maxRecDepth 100000 in
set_option maxHeartbeats 4000000 in
theorem w5_nodeAt_b2_ok {G : GT} {P : Int32 → Mem → Prop} {X : String → Mem → Prop} (C : PCx G cX5_nodeAt 3 RX5) (hRt : PRt G (some .int) (qI P) X) (hHR : HR G (1)) (hnT : NoT G) {μ : Mem} {l1 : Int32} {l2 : Int32} (hk : w5_nodeAt_b2 P μ l1 l2) : PW G 0 0 2 [some (pR 27 0), some (pI l1), some (pI l2)] [] μ := by
  refine hk (fun (μ : Mem) (l1 : Int32) (l2 : Int32) => PW G 0 0 2 [some (pR 27 0), some (pI l1), some (pI l2)] [] μ) (fun (μ : Mem) l1 l2 hk => ?_)
  have hR2 : ∀ (μ : Mem) (l1 : Int32) (l2 : Int32), PW G 0 0 2 [some (pR 27 0), some (pI l1), some (pI l2)] [] μ → PW G 0 0 2 [some (pR 27 0), some (pI l1), some (pI l2)] [] μ := fun _ _ _ h => h
  unfold w5_nodeAt_b2_body at hk
  refine px_iload_n (i := 2) C dX5_nodeAt_2 rfl rfl ?_
  refine px_aload_n (i := 0) C dX5_nodeAt_3 rfl rfl ?_
  refine px_geti 1729 C dX5_nodeAt_4 fl_RX5_11 rfl rfl rfl rfl ?_
  refine px_icmp_ge (tgt := 49) C dX5_nodeAt_7 (by decide) (fun c6 => ?_) (fun c6 => ?_)
  · replace hk := hk.1 c6
    refine px_iconst (v := (-1 : Int32)) C dX5_nodeAt_49 rfl ?_
    exact px_iret C hRt dX5_nodeAt_50 rfl rfl hk
  · replace hk := hk.2 c6
    refine px_aload_n (i := 0) C dX5_nodeAt_10 rfl rfl ?_
    refine px_getr C dX5_nodeAt_11 fl_RX5_19 rfl rfl rfl ?_
    refine px_iload_n (i := 2) C dX5_nodeAt_14 rfl rfl ?_
    obtain ⟨o1, hk⟩ := hk
    refine px_callSNi (h := 0) (rc' := 0) (rs' := 0) C (HR_le hHR (Nat.le_of_ble_eq_true rfl)) hRt hnT dX5_nodeAt_15 (List.mem_append_right _ (List.mem_append_left _ (List.mem_of_getElem? (i := 19) rfl))) ms_X8_at (at_ok (j := 29) (q := 0) (n := 82) (loc := 1856) (PCx_l C) (PCx_I C) rfl rfl rfl o1) rfl rfl (Nat.le_of_ble_eq_true rfl) (Nat.le_of_ble_eq_true rfl) (Nat.le_of_ble_eq_true rfl) (Nat.le_of_ble_eq_true rfl) ?_
    rintro _ _ ⟨rfl, rfl⟩
    refine px_iload_n (i := 1) C dX5_nodeAt_18 rfl rfl ?_
    refine px_icmp_gt (tgt := 43) C dX5_nodeAt_19 (by decide) (fun c5 => ?_) (fun c5 => ?_)
    · replace hk := hk.1 c5
      refine px_iinc (i := 2) (v := (1 : Int32)) C dX5_nodeAt_43 rfl rfl (by decide) rfl ?_
      refine px_goto (tgt := 2) C dX5_nodeAt_46 (by decide) ?_
      exact PW_at (hR2 _ _ _ hk) (And.intro rfl (And.intro rfl (And.intro rfl trivial))) (Nat.le_of_ble_eq_true rfl) (Nat.le_of_ble_eq_true rfl)
    · replace hk := hk.2 c5
      refine px_iload_n (i := 1) C dX5_nodeAt_22 rfl rfl ?_
      refine px_aload_n (i := 0) C dX5_nodeAt_23 rfl rfl ?_
      refine px_getr C dX5_nodeAt_24 fl_RX5_22 rfl rfl rfl ?_
      refine px_iload_n (i := 2) C dX5_nodeAt_27 rfl rfl ?_
      obtain ⟨o2, hk⟩ := hk
      refine px_callSNi (h := 0) (rc' := 0) (rs' := 0) C (HR_le hHR (Nat.le_of_ble_eq_true rfl)) hRt hnT dX5_nodeAt_28 (List.mem_append_right _ (List.mem_append_left _ (List.mem_of_getElem? (i := 19) rfl))) ms_X8_at (at_ok (j := 30) (q := 0) (n := 82) (loc := 1920) (PCx_l C) (PCx_I C) rfl rfl rfl o2) rfl rfl (Nat.le_of_ble_eq_true rfl) (Nat.le_of_ble_eq_true rfl) (Nat.le_of_ble_eq_true rfl) (Nat.le_of_ble_eq_true rfl) ?_
      rintro _ _ ⟨rfl, rfl⟩
      refine px_icmp_ge (tgt := 43) C dX5_nodeAt_31 (by decide) (fun c4 => ?_) (fun c4 => ?_)
      · replace hk := hk.1 c4
        refine px_iinc (i := 2) (v := (1 : Int32)) C dX5_nodeAt_43 rfl rfl (by decide) rfl ?_
        refine px_goto (tgt := 2) C dX5_nodeAt_46 (by decide) ?_
        exact PW_at (hR2 _ _ _ hk) (And.intro rfl (And.intro rfl (And.intro rfl trivial))) (Nat.le_of_ble_eq_true rfl) (Nat.le_of_ble_eq_true rfl)
      · replace hk := hk.2 c4
        refine px_aload_n (i := 0) C dX5_nodeAt_34 rfl rfl ?_
        refine px_getr C dX5_nodeAt_35 fl_RX5_15 rfl rfl rfl ?_
        refine px_iload_n (i := 2) C dX5_nodeAt_38 rfl rfl ?_
        obtain ⟨o3, hk⟩ := hk
        refine px_callSNi (h := 0) (rc' := 0) (rs' := 0) C (HR_le hHR (Nat.le_of_ble_eq_true rfl)) hRt hnT dX5_nodeAt_39 (List.mem_append_right _ (List.mem_append_left _ (List.mem_of_getElem? (i := 19) rfl))) ms_X8_at (at_ok (j := 28) (q := 0) (n := 82) (loc := 1792) (PCx_l C) (PCx_I C) rfl rfl rfl o3) rfl rfl (Nat.le_of_ble_eq_true rfl) (Nat.le_of_ble_eq_true rfl) (Nat.le_of_ble_eq_true rfl) (Nat.le_of_ble_eq_true rfl) ?_
        rintro _ _ ⟨rfl, rfl⟩
        exact px_iret C hRt dX5_nodeAt_42 rfl rfl hk
set_option maxRecDepth 100000 in
set_option maxHeartbeats 4000000 in
theorem w5_nodeAt_ok {l : Launch} {idx : List (Nat × Nat)} {μ : Mem} {a1 : Int32} {P : Int32 → Mem → Prop} {X : String → Mem → Prop} (hl : l.stackTraces = false) (hI : IdxOK idx) (hk : w5_nodeAt_wp μ a1 P) : PMet l yX5_nodeAt (.code yX5_nodeAt cX5_nodeAt 3 (some .int)) 1 0 0 idx [pR 27 0, pI a1] μ (qI P) X := by
  refine PMet_of mv_X5_nodeAt.2.2.2.2.2.2 hl hI mv_X5_nodeAt.2.2.2.1 rfl (Nat.le_of_ble_eq_true rfl) (fun G _ _ C hRt hHR hnT => ?_)
  show PW G 0 0 0 [some (pR 27 0), some (pI a1), none] [] μ
  unfold w5_nodeAt_wp at hk
  refine px_iconst (v := (0 : Int32)) C dX5_nodeAt_0 rfl ?_
  refine px_istore_n (i := 2) C dX5_nodeAt_1 rfl (by decide) rfl ?_
  exact PW_at (w5_nodeAt_b2_ok C hRt hHR hnT hk) (And.intro rfl (And.intro rfl (And.intro rfl trivial))) (Nat.le_of_ble_eq_true rfl) (Nat.le_of_ble_eq_true rfl)
theorem dX7_empty_0 : decode cX7_empty 0 = .ok (.aload_n 0, 1) := by decide +kernel
theorem dX7_empty_1 : decode cX7_empty 1 = .ok (.iconst 0, 1) := by decide +kernel
theorem dX7_empty_2 : decode cX7_empty 2 = .ok (.putfield 9, 3) := by decide +kernel
theorem dX7_empty_5 : decode cX7_empty 5 = .ok (.aload_n 0, 1) := by decide +kernel
theorem dX7_empty_6 : decode cX7_empty 6 = .ok (.iconst 0, 1) := by decide +kernel
theorem dX7_empty_7 : decode cX7_empty 7 = .ok (.putfield 15, 3) := by decide +kernel
theorem dX7_empty_10 : decode cX7_empty 10 = .ok (.return_, 1) := by decide +kernel
set_option maxRecDepth 100000 in
set_option maxHeartbeats 4000000 in
theorem w7_empty_ok {l : Launch} {idx : List (Nat × Nat)} {μ : Mem} {k : Nat} {P : Mem → Prop} {X : String → Mem → Prop} (hl : l.stackTraces = false) (hI : IdxOK idx) (hk : w7_empty_wp μ k P) : PMet l yX7_empty (.code yX7_empty cX7_empty 1 none) 0 0 0 idx [pR 0 k] μ (qV P) X := by
  refine PMet_of mv_X7_empty.2.2.2.2.2.2 hl hI mv_X7_empty.2.2.2.1 rfl (Nat.le_of_ble_eq_true rfl) (fun G _ _ C hRt hHR hnT => ?_)
  show PW G 0 0 0 [some (pR 0 k)] [] μ
  unfold w7_empty_wp at hk
  refine px_aload_n (i := 0) C dX7_empty_0 rfl rfl ?_
  refine px_iconst (v := (0 : Int32)) C dX7_empty_1 rfl ?_
  replace hk := hk _ rfl
  refine px_puti 1 C dX7_empty_2 fp_RX7_9 rfl rfl rfl rfl rfl rfl ?_
  refine px_aload_n (i := 0) C dX7_empty_5 rfl rfl ?_
  refine px_iconst (v := (0 : Int32)) C dX7_empty_6 rfl ?_
  replace hk := hk _ rfl
  refine px_puti 2 C dX7_empty_7 fp_RX7_15 rfl rfl rfl rfl rfl rfl ?_
  exact px_vret C hRt dX7_empty_10 rfl hk
theorem dX7_hasLink_0 : decode cX7_hasLink 0 = .ok (.iconst 0, 1) := by decide +kernel
theorem dX7_hasLink_1 : decode cX7_hasLink 1 = .ok (.istore_n 3, 1) := by decide +kernel
theorem dX7_hasLink_2 : decode cX7_hasLink 2 = .ok (.iload_n 3, 1) := by decide +kernel
theorem dX7_hasLink_3 : decode cX7_hasLink 3 = .ok (.aload_n 0, 1) := by decide +kernel
theorem dX7_hasLink_4 : decode cX7_hasLink 4 = .ok (.getfield 15, 3) := by decide +kernel
theorem dX7_hasLink_7 : decode cX7_hasLink 7 = .ok (.if_icmp .ge 35, 3) := by decide +kernel
theorem dX7_hasLink_10 : decode cX7_hasLink 10 = .ok (.aload_n 0, 1) := by decide +kernel
theorem dX7_hasLink_11 : decode cX7_hasLink 11 = .ok (.getfield 41, 3) := by decide +kernel
theorem dX7_hasLink_14 : decode cX7_hasLink 14 = .ok (.iload_n 3, 1) := by decide +kernel
theorem dX7_hasLink_15 : decode cX7_hasLink 15 = .ok (.invokestatic 51, 3) := by decide +kernel
theorem dX7_hasLink_18 : decode cX7_hasLink 18 = .ok (.iload_n 1, 1) := by decide +kernel
theorem dX7_hasLink_19 : decode cX7_hasLink 19 = .ok (.if_icmp .ne 17, 3) := by decide +kernel
theorem dX7_hasLink_22 : decode cX7_hasLink 22 = .ok (.aload_n 0, 1) := by decide +kernel
theorem dX7_hasLink_23 : decode cX7_hasLink 23 = .ok (.getfield 44, 3) := by decide +kernel
theorem dX7_hasLink_26 : decode cX7_hasLink 26 = .ok (.iload_n 3, 1) := by decide +kernel
theorem dX7_hasLink_27 : decode cX7_hasLink 27 = .ok (.invokestatic 51, 3) := by decide +kernel
theorem dX7_hasLink_30 : decode cX7_hasLink 30 = .ok (.iload_n 2, 1) := by decide +kernel
theorem dX7_hasLink_31 : decode cX7_hasLink 31 = .ok (.if_icmp .ne 5, 3) := by decide +kernel
theorem dX7_hasLink_34 : decode cX7_hasLink 34 = .ok (.iconst 1, 1) := by decide +kernel
theorem dX7_hasLink_35 : decode cX7_hasLink 35 = .ok (.ireturn, 1) := by decide +kernel
theorem dX7_hasLink_36 : decode cX7_hasLink 36 = .ok (.iinc 3 1, 3) := by decide +kernel
theorem dX7_hasLink_39 : decode cX7_hasLink 39 = .ok (.goto (-37), 3) := by decide +kernel
theorem dX7_hasLink_42 : decode cX7_hasLink 42 = .ok (.iconst 0, 1) := by decide +kernel
theorem dX7_hasLink_43 : decode cX7_hasLink 43 = .ok (.ireturn, 1) := by decide +kernel
set_option maxRecDepth 100000 in
set_option maxHeartbeats 4000000 in
theorem w7_hasLink_b2_ok {G : GT} {k : Nat} {P : Int32 → Mem → Prop} {X : String → Mem → Prop} (C : PCx G cX7_hasLink 4 RX7) (hRt : PRt G (some .boolean) (qI P) X) (hHR : HR G (1)) (hnT : NoT G) {μ : Mem} {l1 : Int32} {l2 : Int32} {l3 : Int32} (hk : w7_hasLink_b2 k P μ l1 l2 l3) : PW G 0 0 2 [some (pR 0 k), some (pI l1), some (pI l2), some (pI l3)] [] μ := by
  refine hk (fun (μ : Mem) (l1 : Int32) (l2 : Int32) (l3 : Int32) => PW G 0 0 2 [some (pR 0 k), some (pI l1), some (pI l2), some (pI l3)] [] μ) (fun (μ : Mem) l1 l2 l3 hk => ?_)
  have hR2 : ∀ (μ : Mem) (l1 : Int32) (l2 : Int32) (l3 : Int32), PW G 0 0 2 [some (pR 0 k), some (pI l1), some (pI l2), some (pI l3)] [] μ → PW G 0 0 2 [some (pR 0 k), some (pI l1), some (pI l2), some (pI l3)] [] μ := fun _ _ _ _ h => h
  unfold w7_hasLink_b2_body at hk
  refine px_iload_n (i := 3) C dX7_hasLink_2 rfl rfl ?_
  refine px_aload_n (i := 0) C dX7_hasLink_3 rfl rfl ?_
  refine px_geti 2 C dX7_hasLink_4 fl_RX7_15 rfl rfl rfl rfl ?_
  refine px_icmp_ge (tgt := 42) C dX7_hasLink_7 (by decide) (fun c5 => ?_) (fun c5 => ?_)
  · replace hk := hk.1 c5
    refine px_iconst (v := (0 : Int32)) C dX7_hasLink_42 rfl ?_
    exact px_iret C hRt dX7_hasLink_43 rfl rfl hk
  · replace hk := hk.2 c5
    refine px_aload_n (i := 0) C dX7_hasLink_10 rfl rfl ?_
    refine px_getr C dX7_hasLink_11 fl_RX7_41 rfl rfl rfl ?_
    refine px_iload_n (i := 3) C dX7_hasLink_14 rfl rfl ?_
    obtain ⟨o1, hk⟩ := hk
    refine px_callSNi (h := 0) (rc' := 0) (rs' := 0) C (HR_le hHR (Nat.le_of_ble_eq_true rfl)) hRt hnT dX7_hasLink_15 (List.mem_append_right _ (List.mem_append_left _ (List.mem_of_getElem? (i := 3) rfl))) ms_X8_at (at_ok (j := 8) (q := k) (n := 30) (loc := 512) (PCx_l C) (PCx_I C) rfl rfl rfl o1) rfl rfl (Nat.le_of_ble_eq_true rfl) (Nat.le_of_ble_eq_true rfl) (Nat.le_of_ble_eq_true rfl) (Nat.le_of_ble_eq_true rfl) ?_
    rintro _ _ ⟨rfl, rfl⟩
    refine px_iload_n (i := 1) C dX7_hasLink_18 rfl rfl ?_
    refine px_icmp_ne (tgt := 36) C dX7_hasLink_19 (by decide) (fun c4 => ?_) (fun c4 => ?_)
    · replace hk := hk.1 c4
      refine px_iinc (i := 3) (v := (1 : Int32)) C dX7_hasLink_36 rfl rfl (by decide) rfl ?_
      refine px_goto (tgt := 2) C dX7_hasLink_39 (by decide) ?_
      exact PW_at (hR2 _ _ _ _ hk) (And.intro rfl (And.intro rfl (And.intro rfl (And.intro rfl trivial)))) (Nat.le_of_ble_eq_true rfl) (Nat.le_of_ble_eq_true rfl)
    · replace hk := hk.2 c4
      refine px_aload_n (i := 0) C dX7_hasLink_22 rfl rfl ?_
      refine px_getr C dX7_hasLink_23 fl_RX7_44 rfl rfl rfl ?_
      refine px_iload_n (i := 3) C dX7_hasLink_26 rfl rfl ?_
      obtain ⟨o2, hk⟩ := hk
      refine px_callSNi (h := 0) (rc' := 0) (rs' := 0) C (HR_le hHR (Nat.le_of_ble_eq_true rfl)) hRt hnT dX7_hasLink_27 (List.mem_append_right _ (List.mem_append_left _ (List.mem_of_getElem? (i := 3) rfl))) ms_X8_at (at_ok (j := 9) (q := k) (n := 30) (loc := 576) (PCx_l C) (PCx_I C) rfl rfl rfl o2) rfl rfl (Nat.le_of_ble_eq_true rfl) (Nat.le_of_ble_eq_true rfl) (Nat.le_of_ble_eq_true rfl) (Nat.le_of_ble_eq_true rfl) ?_
      rintro _ _ ⟨rfl, rfl⟩
      refine px_iload_n (i := 2) C dX7_hasLink_30 rfl rfl ?_
      refine px_icmp_ne (tgt := 36) C dX7_hasLink_31 (by decide) (fun c3 => ?_) (fun c3 => ?_)
      · replace hk := hk.1 c3
        refine px_iinc (i := 3) (v := (1 : Int32)) C dX7_hasLink_36 rfl rfl (by decide) rfl ?_
        refine px_goto (tgt := 2) C dX7_hasLink_39 (by decide) ?_
        exact PW_at (hR2 _ _ _ _ hk) (And.intro rfl (And.intro rfl (And.intro rfl (And.intro rfl trivial)))) (Nat.le_of_ble_eq_true rfl) (Nat.le_of_ble_eq_true rfl)
      · replace hk := hk.2 c3
        refine px_iconst (v := (1 : Int32)) C dX7_hasLink_34 rfl ?_
        exact px_iret C hRt dX7_hasLink_35 rfl rfl hk
set_option maxRecDepth 100000 in
set_option maxHeartbeats 4000000 in
theorem w7_hasLink_ok {l : Launch} {idx : List (Nat × Nat)} {μ : Mem} {k : Nat} {a1 : Int32} {a2 : Int32} {P : Int32 → Mem → Prop} {X : String → Mem → Prop} (hl : l.stackTraces = false) (hI : IdxOK idx) (hk : w7_hasLink_wp μ k a1 a2 P) : PMet l yX7_hasLink (.code yX7_hasLink cX7_hasLink 4 (some .boolean)) 1 0 0 idx [pR 0 k, pI a1, pI a2] μ (qI P) X := by
  refine PMet_of mv_X7_hasLink.2.2.2.2.2.2 hl hI mv_X7_hasLink.2.2.2.1 rfl (Nat.le_of_ble_eq_true rfl) (fun G _ _ C hRt hHR hnT => ?_)
  show PW G 0 0 0 [some (pR 0 k), some (pI a1), some (pI a2), none] [] μ
  unfold w7_hasLink_wp at hk
  refine px_iconst (v := (0 : Int32)) C dX7_hasLink_0 rfl ?_
  refine px_istore_n (i := 3) C dX7_hasLink_1 rfl (by decide) rfl ?_
  exact PW_at (w7_hasLink_b2_ok C hRt hHR hnT hk) (And.intro rfl (And.intro rfl (And.intro rfl (And.intro rfl trivial)))) (Nat.le_of_ble_eq_true rfl) (Nat.le_of_ble_eq_true rfl)
theorem dX7_find_0 : decode cX7_find 0 = .ok (.iconst 0, 1) := by decide +kernel
theorem dX7_find_1 : decode cX7_find 1 = .ok (.istore_n 2, 1) := by decide +kernel
theorem dX7_find_2 : decode cX7_find 2 = .ok (.iload_n 2, 1) := by decide +kernel
theorem dX7_find_3 : decode cX7_find 3 = .ok (.aload_n 0, 1) := by decide +kernel
theorem dX7_find_4 : decode cX7_find 4 = .ok (.getfield 9, 3) := by decide +kernel
theorem dX7_find_7 : decode cX7_find 7 = .ok (.if_icmp .ge 30, 3) := by decide +kernel
theorem dX7_find_10 : decode cX7_find 10 = .ok (.iload_n 2, 1) := by decide +kernel
theorem dX7_find_11 : decode cX7_find 11 = .ok (.aload_n 0, 1) := by decide +kernel
theorem dX7_find_12 : decode cX7_find 12 = .ok (.getfield 22, 3) := by decide +kernel
theorem dX7_find_15 : decode cX7_find 15 = .ok (.arraylength, 1) := by decide +kernel
theorem dX7_find_16 : decode cX7_find 16 = .ok (.if_icmp .ge 21, 3) := by decide +kernel
theorem dX7_find_19 : decode cX7_find 19 = .ok (.aload_n 0, 1) := by decide +kernel
theorem dX7_find_20 : decode cX7_find 20 = .ok (.getfield 22, 3) := by decide +kernel
theorem dX7_find_23 : decode cX7_find 23 = .ok (.iload_n 2, 1) := by decide +kernel
theorem dX7_find_24 : decode cX7_find 24 = .ok (.iaload, 1) := by decide +kernel
theorem dX7_find_25 : decode cX7_find 25 = .ok (.iload_n 1, 1) := by decide +kernel
theorem dX7_find_26 : decode cX7_find 26 = .ok (.if_icmp .ne 5, 3) := by decide +kernel
theorem dX7_find_29 : decode cX7_find 29 = .ok (.iload_n 2, 1) := by decide +kernel
theorem dX7_find_30 : decode cX7_find 30 = .ok (.ireturn, 1) := by decide +kernel
theorem dX7_find_31 : decode cX7_find 31 = .ok (.iinc 2 1, 3) := by decide +kernel
theorem dX7_find_34 : decode cX7_find 34 = .ok (.goto (-32), 3) := by decide +kernel
theorem dX7_find_37 : decode cX7_find 37 = .ok (.iconst (-1), 1) := by decide +kernel
theorem dX7_find_38 : decode cX7_find 38 = .ok (.ireturn, 1) := by decide +kernel
set_option maxRecDepth 100000 in
set_option maxHeartbeats 4000000 in
theorem w7_find_b2_ok {G : GT} {k : Nat} {P : Int32 → Mem → Prop} {X : String → Mem → Prop} (C : PCx G cX7_find 3 RX7) (hRt : PRt G (some .int) (qI P) X) (hHR : HR G (0)) (hnT : NoT G) {μ : Mem} {l1 : Int32} {l2 : Int32} (hk : w7_find_b2 k P μ l1 l2) : PW G 0 0 2 [some (pR 0 k), some (pI l1), some (pI l2)] [] μ := by
  refine hk (fun (μ : Mem) (l1 : Int32) (l2 : Int32) => PW G 0 0 2 [some (pR 0 k), some (pI l1), some (pI l2)] [] μ) (fun (μ : Mem) l1 l2 hk => ?_)
  have hR2 : ∀ (μ : Mem) (l1 : Int32) (l2 : Int32), PW G 0 0 2 [some (pR 0 k), some (pI l1), some (pI l2)] [] μ → PW G 0 0 2 [some (pR 0 k), some (pI l1), some (pI l2)] [] μ := fun _ _ _ h => h
  unfold w7_find_b2_body at hk
  refine px_iload_n (i := 2) C dX7_find_2 rfl rfl ?_
  refine px_aload_n (i := 0) C dX7_find_3 rfl rfl ?_
  refine px_geti 1 C dX7_find_4 fl_RX7_9 rfl rfl rfl rfl ?_
  refine px_icmp_ge (tgt := 37) C dX7_find_7 (by decide) (fun c4 => ?_) (fun c4 => ?_)
  · replace hk := hk.1 c4
    refine px_iconst (v := (-1 : Int32)) C dX7_find_37 rfl ?_
    exact px_iret C hRt dX7_find_38 rfl rfl hk
  · replace hk := hk.2 c4
    refine px_iload_n (i := 2) C dX7_find_10 rfl rfl ?_
    refine px_aload_n (i := 0) C dX7_find_11 rfl rfl ?_
    refine px_getr C dX7_find_12 fl_RX7_22 rfl rfl rfl ?_
    refine px_alen (v := (40 : Int32)) C dX7_find_15 rfl (by decide) rfl rfl ?_
    refine px_icmp_ge (tgt := 37) C dX7_find_16 (by decide) (fun c3 => ?_) (fun c3 => ?_)
    · replace hk := hk.1 c3
      refine px_iconst (v := (-1 : Int32)) C dX7_find_37 rfl ?_
      exact px_iret C hRt dX7_find_38 rfl rfl hk
    · replace hk := hk.2 c3
      refine px_aload_n (i := 0) C dX7_find_19 rfl rfl ?_
      refine px_getr C dX7_find_20 fl_RX7_22 rfl rfl rfl ?_
      refine px_iload_n (i := 2) C dX7_find_23 rfl rfl ?_
      obtain ⟨o1, hk⟩ := hk
      refine px_iald 128 C dX7_find_24 rfl rfl rfl rfl o1 ?_
      refine px_iload_n (i := 1) C dX7_find_25 rfl rfl ?_
      refine px_icmp_ne (tgt := 31) C dX7_find_26 (by decide) (fun c2 => ?_) (fun c2 => ?_)
      · replace hk := hk.1 c2
        refine px_iinc (i := 2) (v := (1 : Int32)) C dX7_find_31 rfl rfl (by decide) rfl ?_
        refine px_goto (tgt := 2) C dX7_find_34 (by decide) ?_
        exact PW_at (hR2 _ _ _ hk) (And.intro rfl (And.intro rfl (And.intro rfl trivial))) (Nat.le_of_ble_eq_true rfl) (Nat.le_of_ble_eq_true rfl)
      · replace hk := hk.2 c2
        refine px_iload_n (i := 2) C dX7_find_29 rfl rfl ?_
        exact px_iret C hRt dX7_find_30 rfl rfl hk
set_option maxRecDepth 100000 in
set_option maxHeartbeats 4000000 in
theorem w7_find_ok {l : Launch} {idx : List (Nat × Nat)} {μ : Mem} {k : Nat} {a1 : Int32} {P : Int32 → Mem → Prop} {X : String → Mem → Prop} (hl : l.stackTraces = false) (hI : IdxOK idx) (hk : w7_find_wp μ k a1 P) : PMet l yX7_find (.code yX7_find cX7_find 3 (some .int)) 0 0 0 idx [pR 0 k, pI a1] μ (qI P) X := by
  refine PMet_of mv_X7_find.2.2.2.2.2.2 hl hI mv_X7_find.2.2.2.1 rfl (Nat.le_of_ble_eq_true rfl) (fun G _ _ C hRt hHR hnT => ?_)
  show PW G 0 0 0 [some (pR 0 k), some (pI a1), none] [] μ
  unfold w7_find_wp at hk
  refine px_iconst (v := (0 : Int32)) C dX7_find_0 rfl ?_
  refine px_istore_n (i := 2) C dX7_find_1 rfl (by decide) rfl ?_
  exact PW_at (w7_find_b2_ok C hRt hHR hnT hk) (And.intro rfl (And.intro rfl (And.intro rfl trivial))) (Nat.le_of_ble_eq_true rfl) (Nat.le_of_ble_eq_true rfl)
