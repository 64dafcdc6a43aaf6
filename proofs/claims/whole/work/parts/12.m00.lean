theorem dX0_countVerdicts_0 : decode cX0_countVerdicts 0 = .ok (.iconst 0, 1) := by decide +kernel
theorem dX0_countVerdicts_1 : decode cX0_countVerdicts 1 = .ok (.istore_n 2, 1) := by decide +kernel
theorem dX0_countVerdicts_2 : decode cX0_countVerdicts 2 = .ok (.iconst 0, 1) := by decide +kernel
theorem dX0_countVerdicts_3 : decode cX0_countVerdicts 3 = .ok (.istore_n 3, 1) := by decide +kernel
theorem dX0_countVerdicts_4 : decode cX0_countVerdicts 4 = .ok (.iload_n 3, 1) := by decide +kernel
theorem dX0_countVerdicts_5 : decode cX0_countVerdicts 5 = .ok (.aload_n 0, 1) := by decide +kernel
theorem dX0_countVerdicts_6 : decode cX0_countVerdicts 6 = .ok (.getfield 26, 3) := by decide +kernel
theorem dX0_countVerdicts_9 : decode cX0_countVerdicts 9 = .ok (.getfield 31, 3) := by decide +kernel
theorem dX0_countVerdicts_12 : decode cX0_countVerdicts 12 = .ok (.if_icmp .ge 22, 3) := by decide +kernel
theorem dX0_countVerdicts_15 : decode cX0_countVerdicts 15 = .ok (.aload_n 0, 1) := by decide +kernel
theorem dX0_countVerdicts_16 : decode cX0_countVerdicts 16 = .ok (.getfield 9, 3) := by decide +kernel
theorem dX0_countVerdicts_19 : decode cX0_countVerdicts 19 = .ok (.iload_n 3, 1) := by decide +kernel
theorem dX0_countVerdicts_20 : decode cX0_countVerdicts 20 = .ok (.iaload, 1) := by decide +kernel
theorem dX0_countVerdicts_21 : decode cX0_countVerdicts 21 = .ok (.iload_n 1, 1) := by decide +kernel
theorem dX0_countVerdicts_22 : decode cX0_countVerdicts 22 = .ok (.if_icmp .ne 6, 3) := by decide +kernel
theorem dX0_countVerdicts_25 : decode cX0_countVerdicts 25 = .ok (.iinc 2 1, 3) := by decide +kernel
theorem dX0_countVerdicts_28 : decode cX0_countVerdicts 28 = .ok (.iinc 3 1, 3) := by decide +kernel
theorem dX0_countVerdicts_31 : decode cX0_countVerdicts 31 = .ok (.goto (-27), 3) := by decide +kernel
theorem dX0_countVerdicts_34 : decode cX0_countVerdicts 34 = .ok (.iload_n 2, 1) := by decide +kernel
theorem dX0_countVerdicts_35 : decode cX0_countVerdicts 35 = .ok (.ireturn, 1) := by decide +kernel
set_option maxRecDepth 100000 in
set_option maxHeartbeats 4000000 in
theorem w0_countVerdicts_b4_ok {G : GT} {P : Int32 → Mem → Prop} {X : String → Mem → Prop} (C : PCx G cX0_countVerdicts 4 RX0) (hRt : PRt G (some .int) (qI P) X) (hHR : HR G (0)) (hnT : NoT G) {μ : Mem} {l1 : Int32} {l2 : Int32} {l3 : Int32} (hk : w0_countVerdicts_b4 P μ l1 l2 l3) : PW G 0 0 4 [some (pR 12 0), some (pI l1), some (pI l2), some (pI l3)] [] μ := by
  refine hk (fun (μ : Mem) (l1 : Int32) (l2 : Int32) (l3 : Int32) => PW G 0 0 4 [some (pR 12 0), some (pI l1), some (pI l2), some (pI l3)] [] μ) (fun (μ : Mem) l1 l2 l3 hk => ?_)
  have hR4 : ∀ (μ : Mem) (l1 : Int32) (l2 : Int32) (l3 : Int32), PW G 0 0 4 [some (pR 12 0), some (pI l1), some (pI l2), some (pI l3)] [] μ → PW G 0 0 4 [some (pR 12 0), some (pI l1), some (pI l2), some (pI l3)] [] μ := fun _ _ _ _ h => h
  unfold w0_countVerdicts_b4_body at hk
  refine px_iload_n (i := 3) C dX0_countVerdicts_4 rfl rfl ?_
  refine px_aload_n (i := 0) C dX0_countVerdicts_5 rfl rfl ?_
  refine px_getr C dX0_countVerdicts_6 fl_RX0_26 rfl rfl rfl ?_
  refine px_geti 1 C dX0_countVerdicts_9 fl_RX0_31 rfl rfl rfl rfl ?_
  refine px_icmp_ge (tgt := 34) C dX0_countVerdicts_12 (by decide) (fun c3 => ?_) (fun c3 => ?_)
  · replace hk := hk.1 c3
    refine px_iload_n (i := 2) C dX0_countVerdicts_34 rfl rfl ?_
    exact px_iret C hRt dX0_countVerdicts_35 rfl rfl hk
  · replace hk := hk.2 c3
    refine px_aload_n (i := 0) C dX0_countVerdicts_15 rfl rfl ?_
    refine px_getr C dX0_countVerdicts_16 fl_RX0_9 rfl rfl rfl ?_
    refine px_iload_n (i := 3) C dX0_countVerdicts_19 rfl rfl ?_
    obtain ⟨o1, hk⟩ := hk
    refine px_iald 832 C dX0_countVerdicts_20 rfl rfl rfl rfl o1 ?_
    refine px_iload_n (i := 1) C dX0_countVerdicts_21 rfl rfl ?_
    refine px_icmp_ne (tgt := 28) C dX0_countVerdicts_22 (by decide) (fun c2 => ?_) (fun c2 => ?_)
    · replace hk := hk.1 c2
      refine px_iinc (i := 3) (v := (1 : Int32)) C dX0_countVerdicts_28 rfl rfl (by decide) rfl ?_
      refine px_goto (tgt := 4) C dX0_countVerdicts_31 (by decide) ?_
      exact PW_at (hR4 _ _ _ _ hk) (And.intro rfl (And.intro rfl (And.intro rfl (And.intro rfl trivial)))) (Nat.le_of_ble_eq_true rfl) (Nat.le_of_ble_eq_true rfl)
    · replace hk := hk.2 c2
      refine px_iinc (i := 2) (v := (1 : Int32)) C dX0_countVerdicts_25 rfl rfl (by decide) rfl ?_
      refine px_iinc (i := 3) (v := (1 : Int32)) C dX0_countVerdicts_28 rfl rfl (by decide) rfl ?_
      refine px_goto (tgt := 4) C dX0_countVerdicts_31 (by decide) ?_
      exact PW_at (hR4 _ _ _ _ hk) (And.intro rfl (And.intro rfl (And.intro rfl (And.intro rfl trivial)))) (Nat.le_of_ble_eq_true rfl) (Nat.le_of_ble_eq_true rfl)
set_option maxRecDepth 100000 in
set_option maxHeartbeats 4000000 in
theorem w0_countVerdicts_ok {l : Launch} {idx : List (Nat × Nat)} {μ : Mem} {a1 : Int32} {P : Int32 → Mem → Prop} {X : String → Mem → Prop} (hl : l.stackTraces = false) (hI : IdxOK idx) (hk : w0_countVerdicts_wp μ a1 P) : PMet l yX0_countVerdicts (.code yX0_countVerdicts cX0_countVerdicts 4 (some .int)) 0 0 0 idx [pR 12 0, pI a1] μ (qI P) X := by
  refine PMet_of mv_X0_countVerdicts.2.2.2.2.2.2 hl hI mv_X0_countVerdicts.2.2.2.1 rfl (Nat.le_of_ble_eq_true rfl) (fun G _ _ C hRt hHR hnT => ?_)
  show PW G 0 0 0 [some (pR 12 0), some (pI a1), none, none] [] μ
  unfold w0_countVerdicts_wp at hk
  refine px_iconst (v := (0 : Int32)) C dX0_countVerdicts_0 rfl ?_
  refine px_istore_n (i := 2) C dX0_countVerdicts_1 rfl (by decide) rfl ?_
  refine px_iconst (v := (0 : Int32)) C dX0_countVerdicts_2 rfl ?_
  refine px_istore_n (i := 3) C dX0_countVerdicts_3 rfl (by decide) rfl ?_
  exact PW_at (w0_countVerdicts_b4_ok C hRt hHR hnT hk) (And.intro rfl (And.intro rfl (And.intro rfl (And.intro rfl trivial)))) (Nat.le_of_ble_eq_true rfl) (Nat.le_of_ble_eq_true rfl)
theorem dX0_tighten_0 : decode cX0_tighten 0 = .ok (.aload_n 0, 1) := by decide +kernel
theorem dX0_tighten_1 : decode cX0_tighten 1 = .ok (.getfield 23, 3) := by decide +kernel
theorem dX0_tighten_4 : decode cX0_tighten 4 = .ok (.iload_n 1, 1) := by decide +kernel
theorem dX0_tighten_5 : decode cX0_tighten 5 = .ok (.aaload, 1) := by decide +kernel
theorem dX0_tighten_6 : decode cX0_tighten 6 = .ok (.iload_n 2, 1) := by decide +kernel
theorem dX0_tighten_7 : decode cX0_tighten 7 = .ok (.iaload, 1) := by decide +kernel
theorem dX0_tighten_8 : decode cX0_tighten 8 = .ok (.iload_n 3, 1) := by decide +kernel
theorem dX0_tighten_9 : decode cX0_tighten 9 = .ok (.if_icmp .gt 4, 3) := by decide +kernel
theorem dX0_tighten_12 : decode cX0_tighten 12 = .ok (.return_, 1) := by decide +kernel
theorem dX0_tighten_13 : decode cX0_tighten 13 = .ok (.iconst 0, 1) := by decide +kernel
theorem dX0_tighten_14 : decode cX0_tighten 14 = .ok (.istore 4, 2) := by decide +kernel
theorem dX0_tighten_16 : decode cX0_tighten 16 = .ok (.iload 4, 2) := by decide +kernel
theorem dX0_tighten_18 : decode cX0_tighten 18 = .ok (.bipush 8, 2) := by decide +kernel
theorem dX0_tighten_20 : decode cX0_tighten 20 = .ok (.if_icmp .ge 97, 3) := by decide +kernel
theorem dX0_tighten_23 : decode cX0_tighten 23 = .ok (.iconst 0, 1) := by decide +kernel
theorem dX0_tighten_24 : decode cX0_tighten 24 = .ok (.istore 5, 2) := by decide +kernel
theorem dX0_tighten_26 : decode cX0_tighten 26 = .ok (.iload 5, 2) := by decide +kernel
theorem dX0_tighten_28 : decode cX0_tighten 28 = .ok (.bipush 8, 2) := by decide +kernel
theorem dX0_tighten_30 : decode cX0_tighten 30 = .ok (.if_icmp .ge 81, 3) := by decide +kernel
theorem dX0_tighten_33 : decode cX0_tighten 33 = .ok (.aload_n 0, 1) := by decide +kernel
theorem dX0_tighten_34 : decode cX0_tighten 34 = .ok (.getfield 23, 3) := by decide +kernel
theorem dX0_tighten_37 : decode cX0_tighten 37 = .ok (.iload 4, 2) := by decide +kernel
theorem dX0_tighten_39 : decode cX0_tighten 39 = .ok (.aaload, 1) := by decide +kernel
theorem dX0_tighten_40 : decode cX0_tighten 40 = .ok (.iload_n 1, 1) := by decide +kernel
theorem dX0_tighten_41 : decode cX0_tighten 41 = .ok (.iaload, 1) := by decide +kernel
theorem dX0_tighten_42 : decode cX0_tighten 42 = .ok (.ldc 30, 2) := by decide +kernel
theorem dX0_tighten_44 : decode cX0_tighten 44 = .ok (.if_icmp .eq 61, 3) := by decide +kernel
theorem dX0_tighten_47 : decode cX0_tighten 47 = .ok (.aload_n 0, 1) := by decide +kernel
theorem dX0_tighten_48 : decode cX0_tighten 48 = .ok (.getfield 23, 3) := by decide +kernel
theorem dX0_tighten_51 : decode cX0_tighten 51 = .ok (.iload_n 2, 1) := by decide +kernel
theorem dX0_tighten_52 : decode cX0_tighten 52 = .ok (.aaload, 1) := by decide +kernel
theorem dX0_tighten_53 : decode cX0_tighten 53 = .ok (.iload 5, 2) := by decide +kernel
theorem dX0_tighten_55 : decode cX0_tighten 55 = .ok (.iaload, 1) := by decide +kernel
theorem dX0_tighten_56 : decode cX0_tighten 56 = .ok (.ldc 30, 2) := by decide +kernel
theorem dX0_tighten_58 : decode cX0_tighten 58 = .ok (.if_icmp .eq 47, 3) := by decide +kernel
theorem dX0_tighten_61 : decode cX0_tighten 61 = .ok (.aload_n 0, 1) := by decide +kernel
theorem dX0_tighten_62 : decode cX0_tighten 62 = .ok (.getfield 23, 3) := by decide +kernel
theorem dX0_tighten_65 : decode cX0_tighten 65 = .ok (.iload 4, 2) := by decide +kernel
theorem dX0_tighten_67 : decode cX0_tighten 67 = .ok (.aaload, 1) := by decide +kernel
theorem dX0_tighten_68 : decode cX0_tighten 68 = .ok (.iload 5, 2) := by decide +kernel
theorem dX0_tighten_70 : decode cX0_tighten 70 = .ok (.aload_n 0, 1) := by decide +kernel
theorem dX0_tighten_71 : decode cX0_tighten 71 = .ok (.getfield 23, 3) := by decide +kernel
theorem dX0_tighten_74 : decode cX0_tighten 74 = .ok (.iload 4, 2) := by decide +kernel
theorem dX0_tighten_76 : decode cX0_tighten 76 = .ok (.aaload, 1) := by decide +kernel
theorem dX0_tighten_77 : decode cX0_tighten 77 = .ok (.iload 5, 2) := by decide +kernel
theorem dX0_tighten_79 : decode cX0_tighten 79 = .ok (.iaload, 1) := by decide +kernel
theorem dX0_tighten_80 : decode cX0_tighten 80 = .ok (.aload_n 0, 1) := by decide +kernel
theorem dX0_tighten_81 : decode cX0_tighten 81 = .ok (.getfield 23, 3) := by decide +kernel
theorem dX0_tighten_84 : decode cX0_tighten 84 = .ok (.iload 4, 2) := by decide +kernel
theorem dX0_tighten_86 : decode cX0_tighten 86 = .ok (.aaload, 1) := by decide +kernel
theorem dX0_tighten_87 : decode cX0_tighten 87 = .ok (.iload_n 1, 1) := by decide +kernel
theorem dX0_tighten_88 : decode cX0_tighten 88 = .ok (.iaload, 1) := by decide +kernel
theorem dX0_tighten_89 : decode cX0_tighten 89 = .ok (.iload_n 3, 1) := by decide +kernel
theorem dX0_tighten_90 : decode cX0_tighten 90 = .ok (.iadd, 1) := by decide +kernel
theorem dX0_tighten_91 : decode cX0_tighten 91 = .ok (.aload_n 0, 1) := by decide +kernel
theorem dX0_tighten_92 : decode cX0_tighten 92 = .ok (.getfield 23, 3) := by decide +kernel
theorem dX0_tighten_95 : decode cX0_tighten 95 = .ok (.iload_n 2, 1) := by decide +kernel
theorem dX0_tighten_96 : decode cX0_tighten 96 = .ok (.aaload, 1) := by decide +kernel
theorem dX0_tighten_97 : decode cX0_tighten 97 = .ok (.iload 5, 2) := by decide +kernel
theorem dX0_tighten_99 : decode cX0_tighten 99 = .ok (.iaload, 1) := by decide +kernel
theorem dX0_tighten_100 : decode cX0_tighten 100 = .ok (.iadd, 1) := by decide +kernel
theorem dX0_tighten_101 : decode cX0_tighten 101 = .ok (.invokestatic 65, 3) := by decide +kernel
theorem dX0_tighten_104 : decode cX0_tighten 104 = .ok (.iastore, 1) := by decide +kernel
theorem dX0_tighten_105 : decode cX0_tighten 105 = .ok (.iinc 5 1, 3) := by decide +kernel
theorem dX0_tighten_108 : decode cX0_tighten 108 = .ok (.goto (-82), 3) := by decide +kernel
theorem dX0_tighten_111 : decode cX0_tighten 111 = .ok (.iinc 4 1, 3) := by decide +kernel
theorem dX0_tighten_114 : decode cX0_tighten 114 = .ok (.goto (-98), 3) := by decide +kernel
theorem dX0_tighten_117 : decode cX0_tighten 117 = .ok (.return_, 1) := by decide +kernel
set_option maxRecDepth 100000 in
set_option maxHeartbeats 4000000 in
theorem w0_tighten_b26_ok {G : GT} {P : Mem → Prop} {X : String → Mem → Prop} (C : PCx G cX0_tighten 6 RX0) (hRt : PRt G none (qV P) X) (hHR : HR G (1)) (hnT : NoT G) {R16 : Mem → Int32 → Int32 → Int32 → Int32 → Prop} (hR16 : ∀ (μ : Mem) (l1 : Int32) (l2 : Int32) (l3 : Int32) (l4 : Int32), R16 μ l1 l2 l3 l4 → PW G 0 0 16 [some (pR 12 0), some (pI l1), some (pI l2), some (pI l3), some (pI l4), none] [] μ) {μ : Mem} {l1 : Int32} {l2 : Int32} {l3 : Int32} {l4 : Int32} {l5 : Int32} (hk : w0_tighten_b26 P R16 μ l1 l2 l3 l4 l5) : PW G 0 0 26 [some (pR 12 0), some (pI l1), some (pI l2), some (pI l3), some (pI l4), some (pI l5)] [] μ := by
  refine hk (fun (μ : Mem) (l1 : Int32) (l2 : Int32) (l3 : Int32) (l4 : Int32) (l5 : Int32) => PW G 0 0 26 [some (pR 12 0), some (pI l1), some (pI l2), some (pI l3), some (pI l4), some (pI l5)] [] μ) (fun (μ : Mem) l1 l2 l3 l4 l5 hk => ?_)
  have hR26 : ∀ (μ : Mem) (l1 : Int32) (l2 : Int32) (l3 : Int32) (l4 : Int32) (l5 : Int32), PW G 0 0 26 [some (pR 12 0), some (pI l1), some (pI l2), some (pI l3), some (pI l4), some (pI l5)] [] μ → PW G 0 0 26 [some (pR 12 0), some (pI l1), some (pI l2), some (pI l3), some (pI l4), some (pI l5)] [] μ := fun _ _ _ _ _ _ h => h
  unfold w0_tighten_b26_body at hk
  refine px_iload (i := 5) C dX0_tighten_26 rfl ?_
  refine px_bipush (v := (8 : Int32)) C dX0_tighten_28 rfl ?_
  refine px_icmp_ge (tgt := 111) C dX0_tighten_30 (by decide) (fun c18 => ?_) (fun c18 => ?_)
  · replace hk := hk.1 c18
    refine px_iinc (i := 4) (v := (1 : Int32)) C dX0_tighten_111 rfl rfl (by decide) rfl ?_
    refine px_goto (tgt := 16) C dX0_tighten_114 (by decide) ?_
    exact PW_at (hR16 _ _ _ _ _ hk) (And.intro rfl (And.intro rfl (And.intro rfl (And.intro rfl (And.intro rfl trivial))))) (Nat.le_of_ble_eq_true rfl) (Nat.le_of_ble_eq_true rfl)
  · replace hk := hk.2 c18
    refine px_aload_n (i := 0) C dX0_tighten_33 rfl rfl ?_
    refine px_getr C dX0_tighten_34 fl_RX0_23 rfl rfl rfl ?_
    refine px_iload (i := 4) C dX0_tighten_37 rfl ?_
    obtain ⟨o3, hk⟩ := hk
    refine px_aald C dX0_tighten_39 rfl rfl rfl o3 rfl ?_
    refine px_iload_n (i := 1) C dX0_tighten_40 rfl rfl ?_
    obtain ⟨o4, hk⟩ := hk
    refine px_iald 1088 C dX0_tighten_41 rfl rfl rfl rfl o4 ?_
    refine px_ldc (v := (1000000 : Int32)) C dX0_tighten_42 (gw2 173 rfl rfl) ?_
    refine px_icmp_eq (tgt := 105) C dX0_tighten_44 (by decide) (fun c17 => ?_) (fun c17 => ?_)
    · replace hk := hk.1 c17
      refine px_iinc (i := 5) (v := (1 : Int32)) C dX0_tighten_105 rfl rfl (by decide) rfl ?_
      refine px_goto (tgt := 26) C dX0_tighten_108 (by decide) ?_
      exact PW_at (hR26 _ _ _ _ _ _ hk) (And.intro rfl (And.intro rfl (And.intro rfl (And.intro rfl (And.intro rfl (And.intro rfl trivial)))))) (Nat.le_of_ble_eq_true rfl) (Nat.le_of_ble_eq_true rfl)
    · replace hk := hk.2 c17
      refine px_aload_n (i := 0) C dX0_tighten_47 rfl rfl ?_
      refine px_getr C dX0_tighten_48 fl_RX0_23 rfl rfl rfl ?_
      refine px_iload_n (i := 2) C dX0_tighten_51 rfl rfl ?_
      obtain ⟨o5, hk⟩ := hk
      refine px_aald C dX0_tighten_52 rfl rfl rfl o5 rfl ?_
      refine px_iload (i := 5) C dX0_tighten_53 rfl ?_
      obtain ⟨o6, hk⟩ := hk
      refine px_iald 1088 C dX0_tighten_55 rfl rfl rfl rfl o6 ?_
      refine px_ldc (v := (1000000 : Int32)) C dX0_tighten_56 (gw2 173 rfl rfl) ?_
      refine px_icmp_eq (tgt := 105) C dX0_tighten_58 (by decide) (fun c16 => ?_) (fun c16 => ?_)
      · replace hk := hk.1 c16
        refine px_iinc (i := 5) (v := (1 : Int32)) C dX0_tighten_105 rfl rfl (by decide) rfl ?_
        refine px_goto (tgt := 26) C dX0_tighten_108 (by decide) ?_
        exact PW_at (hR26 _ _ _ _ _ _ hk) (And.intro rfl (And.intro rfl (And.intro rfl (And.intro rfl (And.intro rfl (And.intro rfl trivial)))))) (Nat.le_of_ble_eq_true rfl) (Nat.le_of_ble_eq_true rfl)
      · replace hk := hk.2 c16
        refine px_aload_n (i := 0) C dX0_tighten_61 rfl rfl ?_
        refine px_getr C dX0_tighten_62 fl_RX0_23 rfl rfl rfl ?_
        refine px_iload (i := 4) C dX0_tighten_65 rfl ?_
        obtain ⟨o7, hk⟩ := hk
        refine px_aald C dX0_tighten_67 rfl rfl rfl o7 rfl ?_
        refine px_iload (i := 5) C dX0_tighten_68 rfl ?_
        refine px_aload_n (i := 0) C dX0_tighten_70 rfl rfl ?_
        refine px_getr C dX0_tighten_71 fl_RX0_23 rfl rfl rfl ?_
        refine px_iload (i := 4) C dX0_tighten_74 rfl ?_
        obtain ⟨o8, hk⟩ := hk
        refine px_aald C dX0_tighten_76 rfl rfl rfl o8 rfl ?_
        refine px_iload (i := 5) C dX0_tighten_77 rfl ?_
        obtain ⟨o9, hk⟩ := hk
        refine px_iald 1088 C dX0_tighten_79 rfl rfl rfl rfl o9 ?_
        refine px_aload_n (i := 0) C dX0_tighten_80 rfl rfl ?_
        refine px_getr C dX0_tighten_81 fl_RX0_23 rfl rfl rfl ?_
        refine px_iload (i := 4) C dX0_tighten_84 rfl ?_
        obtain ⟨o10, hk⟩ := hk
        refine px_aald C dX0_tighten_86 rfl rfl rfl o10 rfl ?_
        refine px_iload_n (i := 1) C dX0_tighten_87 rfl rfl ?_
        obtain ⟨o11, hk⟩ := hk
        refine px_iald 1088 C dX0_tighten_88 rfl rfl rfl rfl o11 ?_
        refine px_iload_n (i := 3) C dX0_tighten_89 rfl rfl ?_
        refine px_iadd C dX0_tighten_90 ?_
        refine px_aload_n (i := 0) C dX0_tighten_91 rfl rfl ?_
        refine px_getr C dX0_tighten_92 fl_RX0_23 rfl rfl rfl ?_
        refine px_iload_n (i := 2) C dX0_tighten_95 rfl rfl ?_
        obtain ⟨o12, hk⟩ := hk
        refine px_aald C dX0_tighten_96 rfl rfl rfl o12 rfl ?_
        refine px_iload (i := 5) C dX0_tighten_97 rfl ?_
        obtain ⟨o13, hk⟩ := hk
        refine px_iald 1088 C dX0_tighten_99 rfl rfl rfl rfl o13 ?_
        refine px_iadd C dX0_tighten_100 ?_
        refine px_mmin C (HR_le hHR (Nat.le_of_ble_eq_true rfl)) dX0_tighten_101 (gw2 193 rfl rfl) math_min (Nat.le_of_ble_eq_true rfl) ?_
        obtain ⟨o14, hk⟩ := hk
        replace hk := hk _ rfl
        refine px_iast 1088 C dX0_tighten_104 rfl rfl rfl rfl o14 ?_
        refine px_iinc (i := 5) (v := (1 : Int32)) C dX0_tighten_105 rfl rfl (by decide) rfl ?_
        refine px_goto (tgt := 26) C dX0_tighten_108 (by decide) ?_
        exact PW_at (hR26 _ _ _ _ _ _ hk) (And.intro rfl (And.intro rfl (And.intro rfl (And.intro rfl (And.intro rfl (And.intro rfl trivial)))))) (Nat.le_of_ble_eq_true rfl) (Nat.le_of_ble_eq_true rfl)
set_option maxRecDepth 100000 in
set_option maxHeartbeats 4000000 in
theorem w0_tighten_b16_ok {G : GT} {P : Mem → Prop} {X : String → Mem → Prop} (C : PCx G cX0_tighten 6 RX0) (hRt : PRt G none (qV P) X) (hHR : HR G (1)) (hnT : NoT G) {μ : Mem} {l1 : Int32} {l2 : Int32} {l3 : Int32} {l4 : Int32} (hk : w0_tighten_b16 P μ l1 l2 l3 l4) : PW G 0 0 16 [some (pR 12 0), some (pI l1), some (pI l2), some (pI l3), some (pI l4), none] [] μ := by
  refine hk (fun (μ : Mem) (l1 : Int32) (l2 : Int32) (l3 : Int32) (l4 : Int32) => PW G 0 0 16 [some (pR 12 0), some (pI l1), some (pI l2), some (pI l3), some (pI l4), none] [] μ) (fun (μ : Mem) l1 l2 l3 l4 hk => ?_)
  have hR16 : ∀ (μ : Mem) (l1 : Int32) (l2 : Int32) (l3 : Int32) (l4 : Int32), PW G 0 0 16 [some (pR 12 0), some (pI l1), some (pI l2), some (pI l3), some (pI l4), none] [] μ → PW G 0 0 16 [some (pR 12 0), some (pI l1), some (pI l2), some (pI l3), some (pI l4), none] [] μ := fun _ _ _ _ _ h => h
  unfold w0_tighten_b16_body at hk
  refine px_iload (i := 4) C dX0_tighten_16 rfl ?_
  refine px_bipush (v := (8 : Int32)) C dX0_tighten_18 rfl ?_
  refine px_icmp_ge (tgt := 117) C dX0_tighten_20 (by decide) (fun c19 => ?_) (fun c19 => ?_)
  · replace hk := hk.1 c19
    exact px_vret C hRt dX0_tighten_117 rfl hk
  · replace hk := hk.2 c19
    refine px_iconst (v := (0 : Int32)) C dX0_tighten_23 rfl ?_
    refine px_istore (i := 5) C dX0_tighten_24 (by decide) rfl ?_
    exact PW_at (w0_tighten_b26_ok C hRt hHR hnT hR16 hk) (And.intro rfl (And.intro rfl (And.intro rfl (And.intro rfl (And.intro rfl (And.intro rfl trivial)))))) (Nat.le_of_ble_eq_true rfl) (Nat.le_of_ble_eq_true rfl)
set_option maxRecDepth 100000 in
set_option maxHeartbeats 4000000 in
theorem w0_tighten_ok {l : Launch} {idx : List (Nat × Nat)} {μ : Mem} {a1 : Int32} {a2 : Int32} {a3 : Int32} {P : Mem → Prop} {X : String → Mem → Prop} (hl : l.stackTraces = false) (hI : IdxOK idx) (hk : w0_tighten_wp μ a1 a2 a3 P) : PMet l yX0_tighten (.code yX0_tighten cX0_tighten 6 none) 1 0 0 idx [pR 12 0, pI a1, pI a2, pI a3] μ (qV P) X := by
  refine PMet_of mv_X0_tighten.2.2.2.2.2.2 hl hI mv_X0_tighten.2.2.2.1 rfl (Nat.le_of_ble_eq_true rfl) (fun G _ _ C hRt hHR hnT => ?_)
  show PW G 0 0 0 [some (pR 12 0), some (pI a1), some (pI a2), some (pI a3), none, none] [] μ
  unfold w0_tighten_wp at hk
  refine px_aload_n (i := 0) C dX0_tighten_0 rfl rfl ?_
  refine px_getr C dX0_tighten_1 fl_RX0_23 rfl rfl rfl ?_
  refine px_iload_n (i := 1) C dX0_tighten_4 rfl rfl ?_
  obtain ⟨o1, hk⟩ := hk
  refine px_aald C dX0_tighten_5 rfl rfl rfl o1 rfl ?_
  refine px_iload_n (i := 2) C dX0_tighten_6 rfl rfl ?_
  obtain ⟨o2, hk⟩ := hk
  refine px_iald 1088 C dX0_tighten_7 rfl rfl rfl rfl o2 ?_
  refine px_iload_n (i := 3) C dX0_tighten_8 rfl rfl ?_
  refine px_icmp_gt (tgt := 13) C dX0_tighten_9 (by decide) (fun c20 => ?_) (fun c20 => ?_)
  · replace hk := hk.1 c20
    refine px_iconst (v := (0 : Int32)) C dX0_tighten_13 rfl ?_
    refine px_istore (i := 4) C dX0_tighten_14 (by decide) rfl ?_
    exact PW_at (w0_tighten_b16_ok C hRt hHR hnT hk) (And.intro rfl (And.intro rfl (And.intro rfl (And.intro rfl (And.intro rfl trivial))))) (Nat.le_of_ble_eq_true rfl) (Nat.le_of_ble_eq_true rfl)
  · replace hk := hk.2 c20
    exact px_vret C hRt dX0_tighten_12 rfl hk
theorem dX1_isErrorSource_0 : decode cX1_isErrorSource 0 = .ok (.aload_n 0, 1) := by decide +kernel
theorem dX1_isErrorSource_1 : decode cX1_isErrorSource 1 = .ok (.getfield 9, 3) := by decide +kernel
theorem dX1_isErrorSource_4 : decode cX1_isErrorSource 4 = .ok (.getfield 64, 3) := by decide +kernel
theorem dX1_isErrorSource_7 : decode cX1_isErrorSource 7 = .ok (.iload_n 1, 1) := by decide +kernel
theorem dX1_isErrorSource_8 : decode cX1_isErrorSource 8 = .ok (.baload, 1) := by decide +kernel
theorem dX1_isErrorSource_9 : decode cX1_isErrorSource 9 = .ok (.ifCond .eq 19, 3) := by decide +kernel
theorem dX1_isErrorSource_12 : decode cX1_isErrorSource 12 = .ok (.aload_n 0, 1) := by decide +kernel
theorem dX1_isErrorSource_13 : decode cX1_isErrorSource 13 = .ok (.getfield 15, 3) := by decide +kernel
theorem dX1_isErrorSource_16 : decode cX1_isErrorSource 16 = .ok (.getfield 68, 3) := by decide +kernel
theorem dX1_isErrorSource_19 : decode cX1_isErrorSource 19 = .ok (.iload_n 1, 1) := by decide +kernel
theorem dX1_isErrorSource_20 : decode cX1_isErrorSource 20 = .ok (.baload, 1) := by decide +kernel
theorem dX1_isErrorSource_21 : decode cX1_isErrorSource 21 = .ok (.ifCond .ne 7, 3) := by decide +kernel
theorem dX1_isErrorSource_24 : decode cX1_isErrorSource 24 = .ok (.iconst 1, 1) := by decide +kernel
theorem dX1_isErrorSource_25 : decode cX1_isErrorSource 25 = .ok (.goto 4, 3) := by decide +kernel
theorem dX1_isErrorSource_28 : decode cX1_isErrorSource 28 = .ok (.iconst 0, 1) := by decide +kernel
theorem dX1_isErrorSource_29 : decode cX1_isErrorSource 29 = .ok (.ireturn, 1) := by decide +kernel
set_option maxRecDepth 100000 in
set_option maxHeartbeats 4000000 in
theorem w1_isErrorSource_ok {l : Launch} {idx : List (Nat × Nat)} {μ : Mem} {a1 : Int32} {P : Int32 → Mem → Prop} {X : String → Mem → Prop} (hl : l.stackTraces = false) (hI : IdxOK idx) (hk : w1_isErrorSource_wp μ a1 P) : PMet l yX1_isErrorSource (.code yX1_isErrorSource cX1_isErrorSource 2 (some .boolean)) 0 0 0 idx [pR 34 0, pI a1] μ (qI P) X := by
  refine PMet_of mv_X1_isErrorSource.2.2.2.2.2.2 hl hI mv_X1_isErrorSource.2.2.2.1 rfl (Nat.le_of_ble_eq_true rfl) (fun G _ _ C hRt hHR hnT => ?_)
  show PW G 0 0 0 [some (pR 34 0), some (pI a1)] [] μ
  unfold w1_isErrorSource_wp at hk
  refine px_aload_n (i := 0) C dX1_isErrorSource_0 rfl rfl ?_
  refine px_getr C dX1_isErrorSource_1 fl_RX1_9 rfl rfl rfl ?_
  refine px_getr C dX1_isErrorSource_4 fl_RX1_64 rfl rfl rfl ?_
  refine px_iload_n (i := 1) C dX1_isErrorSource_7 rfl rfl ?_
  obtain ⟨o1, hk⟩ := hk
  refine px_zald 448 C dX1_isErrorSource_8 rfl rfl rfl rfl o1 ?_
  refine px_if_eq (tgt := 28) C dX1_isErrorSource_9 (by decide) (fun c4 => ?_) (fun c4 => ?_)
  · replace hk := hk.1 c4
    refine px_iconst (v := (0 : Int32)) C dX1_isErrorSource_28 rfl ?_
    exact px_iret C hRt dX1_isErrorSource_29 rfl rfl hk
  · replace hk := hk.2 c4
    refine px_aload_n (i := 0) C dX1_isErrorSource_12 rfl rfl ?_
    refine px_getr C dX1_isErrorSource_13 fl_RX1_15 rfl rfl rfl ?_
    refine px_getr C dX1_isErrorSource_16 fl_RX1_68 rfl rfl rfl ?_
    refine px_iload_n (i := 1) C dX1_isErrorSource_19 rfl rfl ?_
    obtain ⟨o2, hk⟩ := hk
    refine px_zald 1600 C dX1_isErrorSource_20 rfl rfl rfl rfl o2 ?_
    refine px_if_ne (tgt := 28) C dX1_isErrorSource_21 (by decide) (fun c3 => ?_) (fun c3 => ?_)
    · replace hk := hk.1 c3
      refine px_iconst (v := (0 : Int32)) C dX1_isErrorSource_28 rfl ?_
      exact px_iret C hRt dX1_isErrorSource_29 rfl rfl hk
    · replace hk := hk.2 c3
      refine px_iconst (v := (1 : Int32)) C dX1_isErrorSource_24 rfl ?_
      refine px_goto (tgt := 29) C dX1_isErrorSource_25 (by decide) ?_
      exact px_iret C hRt dX1_isErrorSource_29 rfl rfl hk
theorem dX1_errorSourceAt_0 : decode cX1_errorSourceAt 0 = .ok (.iconst 0, 1) := by decide +kernel
theorem dX1_errorSourceAt_1 : decode cX1_errorSourceAt 1 = .ok (.istore_n 3, 1) := by decide +kernel
theorem dX1_errorSourceAt_2 : decode cX1_errorSourceAt 2 = .ok (.iconst 0, 1) := by decide +kernel
theorem dX1_errorSourceAt_3 : decode cX1_errorSourceAt 3 = .ok (.istore 4, 2) := by decide +kernel
theorem dX1_errorSourceAt_5 : decode cX1_errorSourceAt 5 = .ok (.iload 4, 2) := by decide +kernel
theorem dX1_errorSourceAt_7 : decode cX1_errorSourceAt 7 = .ok (.aload_n 0, 1) := by decide +kernel
theorem dX1_errorSourceAt_8 : decode cX1_errorSourceAt 8 = .ok (.getfield 9, 3) := by decide +kernel
theorem dX1_errorSourceAt_11 : decode cX1_errorSourceAt 11 = .ok (.getfield 35, 3) := by decide +kernel
theorem dX1_errorSourceAt_14 : decode cX1_errorSourceAt 14 = .ok (.if_icmp .ge 55, 3) := by decide +kernel
theorem dX1_errorSourceAt_17 : decode cX1_errorSourceAt 17 = .ok (.aload_n 0, 1) := by decide +kernel
theorem dX1_errorSourceAt_18 : decode cX1_errorSourceAt 18 = .ok (.getfield 15, 3) := by decide +kernel
theorem dX1_errorSourceAt_21 : decode cX1_errorSourceAt 21 = .ok (.getfield 39, 3) := by decide +kernel
theorem dX1_errorSourceAt_24 : decode cX1_errorSourceAt 24 = .ok (.iload 4, 2) := by decide +kernel
theorem dX1_errorSourceAt_26 : decode cX1_errorSourceAt 26 = .ok (.iaload, 1) := by decide +kernel
theorem dX1_errorSourceAt_27 : decode cX1_errorSourceAt 27 = .ok (.istore 5, 2) := by decide +kernel
theorem dX1_errorSourceAt_29 : decode cX1_errorSourceAt 29 = .ok (.aload_n 0, 1) := by decide +kernel
theorem dX1_errorSourceAt_30 : decode cX1_errorSourceAt 30 = .ok (.getfield 9, 3) := by decide +kernel
theorem dX1_errorSourceAt_33 : decode cX1_errorSourceAt 33 = .ok (.getfield 42, 3) := by decide +kernel
theorem dX1_errorSourceAt_36 : decode cX1_errorSourceAt 36 = .ok (.iload 5, 2) := by decide +kernel
theorem dX1_errorSourceAt_38 : decode cX1_errorSourceAt 38 = .ok (.iaload, 1) := by decide +kernel
theorem dX1_errorSourceAt_39 : decode cX1_errorSourceAt 39 = .ok (.iload_n 1, 1) := by decide +kernel
theorem dX1_errorSourceAt_40 : decode cX1_errorSourceAt 40 = .ok (.if_icmp .ne 23, 3) := by decide +kernel
theorem dX1_errorSourceAt_43 : decode cX1_errorSourceAt 43 = .ok (.aload_n 0, 1) := by decide +kernel
theorem dX1_errorSourceAt_44 : decode cX1_errorSourceAt 44 = .ok (.iload 5, 2) := by decide +kernel
theorem dX1_errorSourceAt_46 : decode cX1_errorSourceAt 46 = .ok (.invokevirtual 71, 3) := by decide +kernel
theorem dX1_errorSourceAt_49 : decode cX1_errorSourceAt 49 = .ok (.ifCond .eq 14, 3) := by decide +kernel
theorem dX1_errorSourceAt_52 : decode cX1_errorSourceAt 52 = .ok (.iload_n 3, 1) := by decide +kernel
theorem dX1_errorSourceAt_53 : decode cX1_errorSourceAt 53 = .ok (.iload_n 2, 1) := by decide +kernel
theorem dX1_errorSourceAt_54 : decode cX1_errorSourceAt 54 = .ok (.if_icmp .ne 6, 3) := by decide +kernel
theorem dX1_errorSourceAt_57 : decode cX1_errorSourceAt 57 = .ok (.iload 5, 2) := by decide +kernel
theorem dX1_errorSourceAt_59 : decode cX1_errorSourceAt 59 = .ok (.ireturn, 1) := by decide +kernel
theorem dX1_errorSourceAt_60 : decode cX1_errorSourceAt 60 = .ok (.iinc 3 1, 3) := by decide +kernel
theorem dX1_errorSourceAt_63 : decode cX1_errorSourceAt 63 = .ok (.iinc 4 1, 3) := by decide +kernel
theorem dX1_errorSourceAt_66 : decode cX1_errorSourceAt 66 = .ok (.goto (-61), 3) := by decide +kernel
theorem dX1_errorSourceAt_69 : decode cX1_errorSourceAt 69 = .ok (.iconst (-1), 1) := by decide +kernel
theorem dX1_errorSourceAt_70 : decode cX1_errorSourceAt 70 = .ok (.ireturn, 1) := by decide +kernel
set_option maxRecDepth 100000 in
set_option maxHeartbeats 4000000 in
theorem w1_errorSourceAt_b5_ok {G : GT} {P : Int32 → Mem → Prop} {X : String → Mem → Prop} (C : PCx G cX1_errorSourceAt 6 RX1) (hRt : PRt G (some .int) (qI P) X) (hHR : HR G (1)) (hnT : NoT G) {μ : Mem} {l1 : Int32} {l2 : Int32} {l3 : Int32} {l4 : Int32} (hk : w1_errorSourceAt_b5 P μ l1 l2 l3 l4) : PW G 0 0 5 [some (pR 34 0), some (pI l1), some (pI l2), some (pI l3), some (pI l4), none] [] μ := by
  refine hk (fun (μ : Mem) (l1 : Int32) (l2 : Int32) (l3 : Int32) (l4 : Int32) => PW G 0 0 5 [some (pR 34 0), some (pI l1), some (pI l2), some (pI l3), some (pI l4), none] [] μ) (fun (μ : Mem) l1 l2 l3 l4 hk => ?_)
  have hR5 : ∀ (μ : Mem) (l1 : Int32) (l2 : Int32) (l3 : Int32) (l4 : Int32), PW G 0 0 5 [some (pR 34 0), some (pI l1), some (pI l2), some (pI l3), some (pI l4), none] [] μ → PW G 0 0 5 [some (pR 34 0), some (pI l1), some (pI l2), some (pI l3), some (pI l4), none] [] μ := fun _ _ _ _ _ h => h
  unfold w1_errorSourceAt_b5_body at hk
  refine px_iload (i := 4) C dX1_errorSourceAt_5 rfl ?_
  refine px_aload_n (i := 0) C dX1_errorSourceAt_7 rfl rfl ?_
  refine px_getr C dX1_errorSourceAt_8 fl_RX1_9 rfl rfl rfl ?_
  refine px_geti 1 C dX1_errorSourceAt_11 fl_RX1_35 rfl rfl rfl rfl ?_
  refine px_icmp_ge (tgt := 69) C dX1_errorSourceAt_14 (by decide) (fun c8 => ?_) (fun c8 => ?_)
  · replace hk := hk.1 c8
    refine px_iconst (v := (-1 : Int32)) C dX1_errorSourceAt_69 rfl ?_
    exact px_iret C hRt dX1_errorSourceAt_70 rfl rfl hk
  · replace hk := hk.2 c8
    refine px_aload_n (i := 0) C dX1_errorSourceAt_17 rfl rfl ?_
    refine px_getr C dX1_errorSourceAt_18 fl_RX1_15 rfl rfl rfl ?_
    refine px_getr C dX1_errorSourceAt_21 fl_RX1_39 rfl rfl rfl ?_
    refine px_iload (i := 4) C dX1_errorSourceAt_24 rfl ?_
    obtain ⟨o1, hk⟩ := hk
    refine px_iald 1664 C dX1_errorSourceAt_26 rfl rfl rfl rfl o1 ?_
    refine px_istore (i := 5) C dX1_errorSourceAt_27 (by decide) rfl ?_
    refine px_aload_n (i := 0) C dX1_errorSourceAt_29 rfl rfl ?_
    refine px_getr C dX1_errorSourceAt_30 fl_RX1_9 rfl rfl rfl ?_
    refine px_getr C dX1_errorSourceAt_33 fl_RX1_42 rfl rfl rfl ?_
    refine px_iload (i := 5) C dX1_errorSourceAt_36 rfl ?_
    obtain ⟨o2, hk⟩ := hk
    refine px_iald 64 C dX1_errorSourceAt_38 rfl rfl rfl rfl o2 ?_
    refine px_iload_n (i := 1) C dX1_errorSourceAt_39 rfl rfl ?_
    refine px_icmp_ne (tgt := 63) C dX1_errorSourceAt_40 (by decide) (fun c7 => ?_) (fun c7 => ?_)
    · replace hk := hk.1 c7
      refine px_iinc (i := 4) (v := (1 : Int32)) C dX1_errorSourceAt_63 rfl rfl (by decide) rfl ?_
      refine px_goto (tgt := 5) C dX1_errorSourceAt_66 (by decide) ?_
      exact PW_at (hR5 _ _ _ _ _ hk) (And.intro rfl (And.intro rfl (And.intro rfl (And.intro rfl (And.intro rfl trivial))))) (Nat.le_of_ble_eq_true rfl) (Nat.le_of_ble_eq_true rfl)
    · replace hk := hk.2 c7
      refine px_aload_n (i := 0) C dX1_errorSourceAt_43 rfl rfl ?_
      refine px_iload (i := 5) C dX1_errorSourceAt_44 rfl ?_
      refine px_callVi (h := 0) (rc' := 0) (rs' := 0) C (HR_le hHR (Nat.le_of_ble_eq_true rfl)) hRt hnT dX1_errorSourceAt_46 (gw5 82 rfl rfl) mv_X1_isErrorSource (w1_isErrorSource_ok (PCx_l C) (PCx_I C) hk) rfl rfl rfl rfl rfl (Nat.le_of_ble_eq_true rfl) (Nat.le_of_ble_eq_true rfl) (Nat.le_of_ble_eq_true rfl) (Nat.le_of_ble_eq_true rfl) ?_
      intro r4 μ3 hk
      refine px_if_eq (tgt := 63) C dX1_errorSourceAt_49 (by decide) (fun c6 => ?_) (fun c6 => ?_)
      · replace hk := hk.1 c6
        refine px_iinc (i := 4) (v := (1 : Int32)) C dX1_errorSourceAt_63 rfl rfl (by decide) rfl ?_
        refine px_goto (tgt := 5) C dX1_errorSourceAt_66 (by decide) ?_
        exact PW_at (hR5 _ _ _ _ _ hk) (And.intro rfl (And.intro rfl (And.intro rfl (And.intro rfl (And.intro rfl trivial))))) (Nat.le_of_ble_eq_true rfl) (Nat.le_of_ble_eq_true rfl)
      · replace hk := hk.2 c6
        refine px_iload_n (i := 3) C dX1_errorSourceAt_52 rfl rfl ?_
        refine px_iload_n (i := 2) C dX1_errorSourceAt_53 rfl rfl ?_
        refine px_icmp_ne (tgt := 60) C dX1_errorSourceAt_54 (by decide) (fun c5 => ?_) (fun c5 => ?_)
        · replace hk := hk.1 c5
          refine px_iinc (i := 3) (v := (1 : Int32)) C dX1_errorSourceAt_60 rfl rfl (by decide) rfl ?_
          refine px_iinc (i := 4) (v := (1 : Int32)) C dX1_errorSourceAt_63 rfl rfl (by decide) rfl ?_
          refine px_goto (tgt := 5) C dX1_errorSourceAt_66 (by decide) ?_
          exact PW_at (hR5 _ _ _ _ _ hk) (And.intro rfl (And.intro rfl (And.intro rfl (And.intro rfl (And.intro rfl trivial))))) (Nat.le_of_ble_eq_true rfl) (Nat.le_of_ble_eq_true rfl)
        · replace hk := hk.2 c5
          refine px_iload (i := 5) C dX1_errorSourceAt_57 rfl ?_
          exact px_iret C hRt dX1_errorSourceAt_59 rfl rfl hk
set_option maxRecDepth 100000 in
set_option maxHeartbeats 4000000 in
theorem w1_errorSourceAt_ok {l : Launch} {idx : List (Nat × Nat)} {μ : Mem} {a1 : Int32} {a2 : Int32} {P : Int32 → Mem → Prop} {X : String → Mem → Prop} (hl : l.stackTraces = false) (hI : IdxOK idx) (hk : w1_errorSourceAt_wp μ a1 a2 P) : PMet l yX1_errorSourceAt (.code yX1_errorSourceAt cX1_errorSourceAt 6 (some .int)) 1 0 0 idx [pR 34 0, pI a1, pI a2] μ (qI P) X := by
  refine PMet_of mv_X1_errorSourceAt.2.2.2.2.2.2 hl hI mv_X1_errorSourceAt.2.2.2.1 rfl (Nat.le_of_ble_eq_true rfl) (fun G _ _ C hRt hHR hnT => ?_)
  show PW G 0 0 0 [some (pR 34 0), some (pI a1), some (pI a2), none, none, none] [] μ
  unfold w1_errorSourceAt_wp at hk
  refine px_iconst (v := (0 : Int32)) C dX1_errorSourceAt_0 rfl ?_
  refine px_istore_n (i := 3) C dX1_errorSourceAt_1 rfl (by decide) rfl ?_
  refine px_iconst (v := (0 : Int32)) C dX1_errorSourceAt_2 rfl ?_
  refine px_istore (i := 4) C dX1_errorSourceAt_3 (by decide) rfl ?_
  exact PW_at (w1_errorSourceAt_b5_ok C hRt hHR hnT hk) (And.intro rfl (And.intro rfl (And.intro rfl (And.intro rfl (And.intro rfl trivial))))) (Nat.le_of_ble_eq_true rfl) (Nat.le_of_ble_eq_true rfl)
theorem dX1_spansOf_0 : decode cX1_spansOf 0 = .ok (.iconst 0, 1) := by decide +kernel
theorem dX1_spansOf_1 : decode cX1_spansOf 1 = .ok (.istore_n 2, 1) := by decide +kernel
theorem dX1_spansOf_2 : decode cX1_spansOf 2 = .ok (.iconst 0, 1) := by decide +kernel
theorem dX1_spansOf_3 : decode cX1_spansOf 3 = .ok (.istore_n 3, 1) := by decide +kernel
theorem dX1_spansOf_4 : decode cX1_spansOf 4 = .ok (.iload_n 3, 1) := by decide +kernel
theorem dX1_spansOf_5 : decode cX1_spansOf 5 = .ok (.aload_n 0, 1) := by decide +kernel
theorem dX1_spansOf_6 : decode cX1_spansOf 6 = .ok (.getfield 9, 3) := by decide +kernel
theorem dX1_spansOf_9 : decode cX1_spansOf 9 = .ok (.getfield 35, 3) := by decide +kernel
theorem dX1_spansOf_12 : decode cX1_spansOf 12 = .ok (.if_icmp .ge 25, 3) := by decide +kernel
theorem dX1_spansOf_15 : decode cX1_spansOf 15 = .ok (.aload_n 0, 1) := by decide +kernel
theorem dX1_spansOf_16 : decode cX1_spansOf 16 = .ok (.getfield 9, 3) := by decide +kernel
theorem dX1_spansOf_19 : decode cX1_spansOf 19 = .ok (.getfield 42, 3) := by decide +kernel
theorem dX1_spansOf_22 : decode cX1_spansOf 22 = .ok (.iload_n 3, 1) := by decide +kernel
theorem dX1_spansOf_23 : decode cX1_spansOf 23 = .ok (.iaload, 1) := by decide +kernel
theorem dX1_spansOf_24 : decode cX1_spansOf 24 = .ok (.iload_n 1, 1) := by decide +kernel
theorem dX1_spansOf_25 : decode cX1_spansOf 25 = .ok (.if_icmp .ne 6, 3) := by decide +kernel
theorem dX1_spansOf_28 : decode cX1_spansOf 28 = .ok (.iinc 2 1, 3) := by decide +kernel
theorem dX1_spansOf_31 : decode cX1_spansOf 31 = .ok (.iinc 3 1, 3) := by decide +kernel
theorem dX1_spansOf_34 : decode cX1_spansOf 34 = .ok (.goto (-30), 3) := by decide +kernel
theorem dX1_spansOf_37 : decode cX1_spansOf 37 = .ok (.iload_n 2, 1) := by decide +kernel
theorem dX1_spansOf_38 : decode cX1_spansOf 38 = .ok (.ireturn, 1) := by decide +kernel
set_option maxRecDepth 100000 in
set_option maxHeartbeats 4000000 in
theorem w1_spansOf_b4_ok {G : GT} {P : Int32 → Mem → Prop} {X : String → Mem → Prop} (C : PCx G cX1_spansOf 4 RX1) (hRt : PRt G (some .int) (qI P) X) (hHR : HR G (0)) (hnT : NoT G) {μ : Mem} {l1 : Int32} {l2 : Int32} {l3 : Int32} (hk : w1_spansOf_b4 P μ l1 l2 l3) : PW G 0 0 4 [some (pR 34 0), some (pI l1), some (pI l2), some (pI l3)] [] μ := by
  refine hk (fun (μ : Mem) (l1 : Int32) (l2 : Int32) (l3 : Int32) => PW G 0 0 4 [some (pR 34 0), some (pI l1), some (pI l2), some (pI l3)] [] μ) (fun (μ : Mem) l1 l2 l3 hk => ?_)
  have hR4 : ∀ (μ : Mem) (l1 : Int32) (l2 : Int32) (l3 : Int32), PW G 0 0 4 [some (pR 34 0), some (pI l1), some (pI l2), some (pI l3)] [] μ → PW G 0 0 4 [some (pR 34 0), some (pI l1), some (pI l2), some (pI l3)] [] μ := fun _ _ _ _ h => h
  unfold w1_spansOf_b4_body at hk
  refine px_iload_n (i := 3) C dX1_spansOf_4 rfl rfl ?_
  refine px_aload_n (i := 0) C dX1_spansOf_5 rfl rfl ?_
  refine px_getr C dX1_spansOf_6 fl_RX1_9 rfl rfl rfl ?_
  refine px_geti 1 C dX1_spansOf_9 fl_RX1_35 rfl rfl rfl rfl ?_
  refine px_icmp_ge (tgt := 37) C dX1_spansOf_12 (by decide) (fun c3 => ?_) (fun c3 => ?_)
  · replace hk := hk.1 c3
    refine px_iload_n (i := 2) C dX1_spansOf_37 rfl rfl ?_
    exact px_iret C hRt dX1_spansOf_38 rfl rfl hk
  · replace hk := hk.2 c3
    refine px_aload_n (i := 0) C dX1_spansOf_15 rfl rfl ?_
    refine px_getr C dX1_spansOf_16 fl_RX1_9 rfl rfl rfl ?_
    refine px_getr C dX1_spansOf_19 fl_RX1_42 rfl rfl rfl ?_
    refine px_iload_n (i := 3) C dX1_spansOf_22 rfl rfl ?_
    obtain ⟨o1, hk⟩ := hk
    refine px_iald 64 C dX1_spansOf_23 rfl rfl rfl rfl o1 ?_
    refine px_iload_n (i := 1) C dX1_spansOf_24 rfl rfl ?_
    refine px_icmp_ne (tgt := 31) C dX1_spansOf_25 (by decide) (fun c2 => ?_) (fun c2 => ?_)
    · replace hk := hk.1 c2
      refine px_iinc (i := 3) (v := (1 : Int32)) C dX1_spansOf_31 rfl rfl (by decide) rfl ?_
      refine px_goto (tgt := 4) C dX1_spansOf_34 (by decide) ?_
      exact PW_at (hR4 _ _ _ _ hk) (And.intro rfl (And.intro rfl (And.intro rfl (And.intro rfl trivial)))) (Nat.le_of_ble_eq_true rfl) (Nat.le_of_ble_eq_true rfl)
    · replace hk := hk.2 c2
      refine px_iinc (i := 2) (v := (1 : Int32)) C dX1_spansOf_28 rfl rfl (by decide) rfl ?_
      refine px_iinc (i := 3) (v := (1 : Int32)) C dX1_spansOf_31 rfl rfl (by decide) rfl ?_
      refine px_goto (tgt := 4) C dX1_spansOf_34 (by decide) ?_
      exact PW_at (hR4 _ _ _ _ hk) (And.intro rfl (And.intro rfl (And.intro rfl (And.intro rfl trivial)))) (Nat.le_of_ble_eq_true rfl) (Nat.le_of_ble_eq_true rfl)
set_option maxRecDepth 100000 in
set_option maxHeartbeats 4000000 in
theorem w1_spansOf_ok {l : Launch} {idx : List (Nat × Nat)} {μ : Mem} {a1 : Int32} {P : Int32 → Mem → Prop} {X : String → Mem → Prop} (hl : l.stackTraces = false) (hI : IdxOK idx) (hk : w1_spansOf_wp μ a1 P) : PMet l yX1_spansOf (.code yX1_spansOf cX1_spansOf 4 (some .int)) 0 0 0 idx [pR 34 0, pI a1] μ (qI P) X := by
  refine PMet_of mv_X1_spansOf.2.2.2.2.2.2 hl hI mv_X1_spansOf.2.2.2.1 rfl (Nat.le_of_ble_eq_true rfl) (fun G _ _ C hRt hHR hnT => ?_)
  show PW G 0 0 0 [some (pR 34 0), some (pI a1), none, none] [] μ
  unfold w1_spansOf_wp at hk
  refine px_iconst (v := (0 : Int32)) C dX1_spansOf_0 rfl ?_
  refine px_istore_n (i := 2) C dX1_spansOf_1 rfl (by decide) rfl ?_
  refine px_iconst (v := (0 : Int32)) C dX1_spansOf_2 rfl ?_
  refine px_istore_n (i := 3) C dX1_spansOf_3 rfl (by decide) rfl ?_
  exact PW_at (w1_spansOf_b4_ok C hRt hHR hnT hk) (And.intro rfl (And.intro rfl (And.intro rfl (And.intro rfl trivial)))) (Nat.le_of_ble_eq_true rfl) (Nat.le_of_ble_eq_true rfl)
theorem dX1_errorsOf_0 : decode cX1_errorsOf 0 = .ok (.iconst 0, 1) := by decide +kernel
theorem dX1_errorsOf_1 : decode cX1_errorsOf 1 = .ok (.istore_n 2, 1) := by decide +kernel
theorem dX1_errorsOf_2 : decode cX1_errorsOf 2 = .ok (.iconst 0, 1) := by decide +kernel
theorem dX1_errorsOf_3 : decode cX1_errorsOf 3 = .ok (.istore_n 3, 1) := by decide +kernel
theorem dX1_errorsOf_4 : decode cX1_errorsOf 4 = .ok (.iload_n 3, 1) := by decide +kernel
theorem dX1_errorsOf_5 : decode cX1_errorsOf 5 = .ok (.aload_n 0, 1) := by decide +kernel
theorem dX1_errorsOf_6 : decode cX1_errorsOf 6 = .ok (.getfield 9, 3) := by decide +kernel
theorem dX1_errorsOf_9 : decode cX1_errorsOf 9 = .ok (.getfield 35, 3) := by decide +kernel
theorem dX1_errorsOf_12 : decode cX1_errorsOf 12 = .ok (.if_icmp .ge 37, 3) := by decide +kernel
theorem dX1_errorsOf_15 : decode cX1_errorsOf 15 = .ok (.aload_n 0, 1) := by decide +kernel
theorem dX1_errorsOf_16 : decode cX1_errorsOf 16 = .ok (.getfield 9, 3) := by decide +kernel
theorem dX1_errorsOf_19 : decode cX1_errorsOf 19 = .ok (.getfield 42, 3) := by decide +kernel
theorem dX1_errorsOf_22 : decode cX1_errorsOf 22 = .ok (.iload_n 3, 1) := by decide +kernel
theorem dX1_errorsOf_23 : decode cX1_errorsOf 23 = .ok (.iaload, 1) := by decide +kernel
theorem dX1_errorsOf_24 : decode cX1_errorsOf 24 = .ok (.iload_n 1, 1) := by decide +kernel
theorem dX1_errorsOf_25 : decode cX1_errorsOf 25 = .ok (.if_icmp .ne 18, 3) := by decide +kernel
theorem dX1_errorsOf_28 : decode cX1_errorsOf 28 = .ok (.aload_n 0, 1) := by decide +kernel
theorem dX1_errorsOf_29 : decode cX1_errorsOf 29 = .ok (.getfield 9, 3) := by decide +kernel
theorem dX1_errorsOf_32 : decode cX1_errorsOf 32 = .ok (.getfield 64, 3) := by decide +kernel
theorem dX1_errorsOf_35 : decode cX1_errorsOf 35 = .ok (.iload_n 3, 1) := by decide +kernel
theorem dX1_errorsOf_36 : decode cX1_errorsOf 36 = .ok (.baload, 1) := by decide +kernel
theorem dX1_errorsOf_37 : decode cX1_errorsOf 37 = .ok (.ifCond .eq 6, 3) := by decide +kernel
theorem dX1_errorsOf_40 : decode cX1_errorsOf 40 = .ok (.iinc 2 1, 3) := by decide +kernel
theorem dX1_errorsOf_43 : decode cX1_errorsOf 43 = .ok (.iinc 3 1, 3) := by decide +kernel
theorem dX1_errorsOf_46 : decode cX1_errorsOf 46 = .ok (.goto (-42), 3) := by decide +kernel
theorem dX1_errorsOf_49 : decode cX1_errorsOf 49 = .ok (.iload_n 2, 1) := by decide +kernel
theorem dX1_errorsOf_50 : decode cX1_errorsOf 50 = .ok (.ireturn, 1) := by decide +kernel
set_option maxRecDepth 100000 in
set_option maxHeartbeats 4000000 in
theorem w1_errorsOf_b4_ok {G : GT} {P : Int32 → Mem → Prop} {X : String → Mem → Prop} (C : PCx G cX1_errorsOf 4 RX1) (hRt : PRt G (some .int) (qI P) X) (hHR : HR G (0)) (hnT : NoT G) {μ : Mem} {l1 : Int32} {l2 : Int32} {l3 : Int32} (hk : w1_errorsOf_b4 P μ l1 l2 l3) : PW G 0 0 4 [some (pR 34 0), some (pI l1), some (pI l2), some (pI l3)] [] μ := by
  refine hk (fun (μ : Mem) (l1 : Int32) (l2 : Int32) (l3 : Int32) => PW G 0 0 4 [some (pR 34 0), some (pI l1), some (pI l2), some (pI l3)] [] μ) (fun (μ : Mem) l1 l2 l3 hk => ?_)
  have hR4 : ∀ (μ : Mem) (l1 : Int32) (l2 : Int32) (l3 : Int32), PW G 0 0 4 [some (pR 34 0), some (pI l1), some (pI l2), some (pI l3)] [] μ → PW G 0 0 4 [some (pR 34 0), some (pI l1), some (pI l2), some (pI l3)] [] μ := fun _ _ _ _ h => h
  unfold w1_errorsOf_b4_body at hk
  refine px_iload_n (i := 3) C dX1_errorsOf_4 rfl rfl ?_
  refine px_aload_n (i := 0) C dX1_errorsOf_5 rfl rfl ?_
  refine px_getr C dX1_errorsOf_6 fl_RX1_9 rfl rfl rfl ?_
  refine px_geti 1 C dX1_errorsOf_9 fl_RX1_35 rfl rfl rfl rfl ?_
  refine px_icmp_ge (tgt := 49) C dX1_errorsOf_12 (by decide) (fun c5 => ?_) (fun c5 => ?_)
  · replace hk := hk.1 c5
    refine px_iload_n (i := 2) C dX1_errorsOf_49 rfl rfl ?_
    exact px_iret C hRt dX1_errorsOf_50 rfl rfl hk
  · replace hk := hk.2 c5
    refine px_aload_n (i := 0) C dX1_errorsOf_15 rfl rfl ?_
    refine px_getr C dX1_errorsOf_16 fl_RX1_9 rfl rfl rfl ?_
    refine px_getr C dX1_errorsOf_19 fl_RX1_42 rfl rfl rfl ?_
    refine px_iload_n (i := 3) C dX1_errorsOf_22 rfl rfl ?_
    obtain ⟨o1, hk⟩ := hk
    refine px_iald 64 C dX1_errorsOf_23 rfl rfl rfl rfl o1 ?_
    refine px_iload_n (i := 1) C dX1_errorsOf_24 rfl rfl ?_
    refine px_icmp_ne (tgt := 43) C dX1_errorsOf_25 (by decide) (fun c4 => ?_) (fun c4 => ?_)
    · replace hk := hk.1 c4
      refine px_iinc (i := 3) (v := (1 : Int32)) C dX1_errorsOf_43 rfl rfl (by decide) rfl ?_
      refine px_goto (tgt := 4) C dX1_errorsOf_46 (by decide) ?_
      exact PW_at (hR4 _ _ _ _ hk) (And.intro rfl (And.intro rfl (And.intro rfl (And.intro rfl trivial)))) (Nat.le_of_ble_eq_true rfl) (Nat.le_of_ble_eq_true rfl)
    · replace hk := hk.2 c4
      refine px_aload_n (i := 0) C dX1_errorsOf_28 rfl rfl ?_
      refine px_getr C dX1_errorsOf_29 fl_RX1_9 rfl rfl rfl ?_
      refine px_getr C dX1_errorsOf_32 fl_RX1_64 rfl rfl rfl ?_
      refine px_iload_n (i := 3) C dX1_errorsOf_35 rfl rfl ?_
      obtain ⟨o2, hk⟩ := hk
      refine px_zald 448 C dX1_errorsOf_36 rfl rfl rfl rfl o2 ?_
      refine px_if_eq (tgt := 43) C dX1_errorsOf_37 (by decide) (fun c3 => ?_) (fun c3 => ?_)
      · replace hk := hk.1 c3
        refine px_iinc (i := 3) (v := (1 : Int32)) C dX1_errorsOf_43 rfl rfl (by decide) rfl ?_
        refine px_goto (tgt := 4) C dX1_errorsOf_46 (by decide) ?_
        exact PW_at (hR4 _ _ _ _ hk) (And.intro rfl (And.intro rfl (And.intro rfl (And.intro rfl trivial)))) (Nat.le_of_ble_eq_true rfl) (Nat.le_of_ble_eq_true rfl)
      · replace hk := hk.2 c3
        refine px_iinc (i := 2) (v := (1 : Int32)) C dX1_errorsOf_40 rfl rfl (by decide) rfl ?_
        refine px_iinc (i := 3) (v := (1 : Int32)) C dX1_errorsOf_43 rfl rfl (by decide) rfl ?_
        refine px_goto (tgt := 4) C dX1_errorsOf_46 (by decide) ?_
        exact PW_at (hR4 _ _ _ _ hk) (And.intro rfl (And.intro rfl (And.intro rfl (And.intro rfl trivial)))) (Nat.le_of_ble_eq_true rfl) (Nat.le_of_ble_eq_true rfl)
set_option maxRecDepth 100000 in
set_option maxHeartbeats 4000000 in
theorem w1_errorsOf_ok {l : Launch} {idx : List (Nat × Nat)} {μ : Mem} {a1 : Int32} {P : Int32 → Mem → Prop} {X : String → Mem → Prop} (hl : l.stackTraces = false) (hI : IdxOK idx) (hk : w1_errorsOf_wp μ a1 P) : PMet l yX1_errorsOf (.code yX1_errorsOf cX1_errorsOf 4 (some .int)) 0 0 0 idx [pR 34 0, pI a1] μ (qI P) X := by
  refine PMet_of mv_X1_errorsOf.2.2.2.2.2.2 hl hI mv_X1_errorsOf.2.2.2.1 rfl (Nat.le_of_ble_eq_true rfl) (fun G _ _ C hRt hHR hnT => ?_)
  show PW G 0 0 0 [some (pR 34 0), some (pI a1), none, none] [] μ
  unfold w1_errorsOf_wp at hk
  refine px_iconst (v := (0 : Int32)) C dX1_errorsOf_0 rfl ?_
  refine px_istore_n (i := 2) C dX1_errorsOf_1 rfl (by decide) rfl ?_
  refine px_iconst (v := (0 : Int32)) C dX1_errorsOf_2 rfl ?_
  refine px_istore_n (i := 3) C dX1_errorsOf_3 rfl (by decide) rfl ?_
  exact PW_at (w1_errorsOf_b4_ok C hRt hHR hnT hk) (And.intro rfl (And.intro rfl (And.intro rfl (And.intro rfl trivial)))) (Nat.le_of_ble_eq_true rfl) (Nat.le_of_ble_eq_true rfl)
theorem dX1_earliestBegin_0 : decode cX1_earliestBegin 0 = .ok (.ldc 99, 2) := by decide +kernel
theorem dX1_earliestBegin_2 : decode cX1_earliestBegin 2 = .ok (.istore_n 2, 1) := by decide +kernel
theorem dX1_earliestBegin_3 : decode cX1_earliestBegin 3 = .ok (.iconst 0, 1) := by decide +kernel
theorem dX1_earliestBegin_4 : decode cX1_earliestBegin 4 = .ok (.istore_n 3, 1) := by decide +kernel
theorem dX1_earliestBegin_5 : decode cX1_earliestBegin 5 = .ok (.iload_n 3, 1) := by decide +kernel
theorem dX1_earliestBegin_6 : decode cX1_earliestBegin 6 = .ok (.aload_n 0, 1) := by decide +kernel
theorem dX1_earliestBegin_7 : decode cX1_earliestBegin 7 = .ok (.getfield 9, 3) := by decide +kernel
theorem dX1_earliestBegin_10 : decode cX1_earliestBegin 10 = .ok (.getfield 35, 3) := by decide +kernel
theorem dX1_earliestBegin_13 : decode cX1_earliestBegin 13 = .ok (.if_icmp .ge 36, 3) := by decide +kernel
theorem dX1_earliestBegin_16 : decode cX1_earliestBegin 16 = .ok (.aload_n 0, 1) := by decide +kernel
theorem dX1_earliestBegin_17 : decode cX1_earliestBegin 17 = .ok (.getfield 9, 3) := by decide +kernel
theorem dX1_earliestBegin_20 : decode cX1_earliestBegin 20 = .ok (.getfield 42, 3) := by decide +kernel
theorem dX1_earliestBegin_23 : decode cX1_earliestBegin 23 = .ok (.iload_n 3, 1) := by decide +kernel
theorem dX1_earliestBegin_24 : decode cX1_earliestBegin 24 = .ok (.iaload, 1) := by decide +kernel
theorem dX1_earliestBegin_25 : decode cX1_earliestBegin 25 = .ok (.iload_n 1, 1) := by decide +kernel
theorem dX1_earliestBegin_26 : decode cX1_earliestBegin 26 = .ok (.if_icmp .ne 17, 3) := by decide +kernel
theorem dX1_earliestBegin_29 : decode cX1_earliestBegin 29 = .ok (.iload_n 2, 1) := by decide +kernel
theorem dX1_earliestBegin_30 : decode cX1_earliestBegin 30 = .ok (.aload_n 0, 1) := by decide +kernel
theorem dX1_earliestBegin_31 : decode cX1_earliestBegin 31 = .ok (.getfield 15, 3) := by decide +kernel
theorem dX1_earliestBegin_34 : decode cX1_earliestBegin 34 = .ok (.getfield 29, 3) := by decide +kernel
theorem dX1_earliestBegin_37 : decode cX1_earliestBegin 37 = .ok (.iload_n 3, 1) := by decide +kernel
theorem dX1_earliestBegin_38 : decode cX1_earliestBegin 38 = .ok (.iaload, 1) := by decide +kernel
theorem dX1_earliestBegin_39 : decode cX1_earliestBegin 39 = .ok (.invokestatic 61, 3) := by decide +kernel
theorem dX1_earliestBegin_42 : decode cX1_earliestBegin 42 = .ok (.istore_n 2, 1) := by decide +kernel
theorem dX1_earliestBegin_43 : decode cX1_earliestBegin 43 = .ok (.iinc 3 1, 3) := by decide +kernel
theorem dX1_earliestBegin_46 : decode cX1_earliestBegin 46 = .ok (.goto (-41), 3) := by decide +kernel
theorem dX1_earliestBegin_49 : decode cX1_earliestBegin 49 = .ok (.iload_n 2, 1) := by decide +kernel
theorem dX1_earliestBegin_50 : decode cX1_earliestBegin 50 = .ok (.ireturn, 1) := by decide +kernel
set_option maxRecDepth 100000 in
set_option maxHeartbeats 4000000 in
theorem w1_earliestBegin_b5_ok {G : GT} {P : Int32 → Mem → Prop} {X : String → Mem → Prop} (C : PCx G cX1_earliestBegin 4 RX1) (hRt : PRt G (some .int) (qI P) X) (hHR : HR G (1)) (hnT : NoT G) {μ : Mem} {l1 : Int32} {l2 : Int32} {l3 : Int32} (hk : w1_earliestBegin_b5 P μ l1 l2 l3) : PW G 0 0 5 [some (pR 34 0), some (pI l1), some (pI l2), some (pI l3)] [] μ := by
  refine hk (fun (μ : Mem) (l1 : Int32) (l2 : Int32) (l3 : Int32) => PW G 0 0 5 [some (pR 34 0), some (pI l1), some (pI l2), some (pI l3)] [] μ) (fun (μ : Mem) l1 l2 l3 hk => ?_)
  have hR5 : ∀ (μ : Mem) (l1 : Int32) (l2 : Int32) (l3 : Int32), PW G 0 0 5 [some (pR 34 0), some (pI l1), some (pI l2), some (pI l3)] [] μ → PW G 0 0 5 [some (pR 34 0), some (pI l1), some (pI l2), some (pI l3)] [] μ := fun _ _ _ _ h => h
  unfold w1_earliestBegin_b5_body at hk
  refine px_iload_n (i := 3) C dX1_earliestBegin_5 rfl rfl ?_
  refine px_aload_n (i := 0) C dX1_earliestBegin_6 rfl rfl ?_
  refine px_getr C dX1_earliestBegin_7 fl_RX1_9 rfl rfl rfl ?_
  refine px_geti 1 C dX1_earliestBegin_10 fl_RX1_35 rfl rfl rfl rfl ?_
  refine px_icmp_ge (tgt := 49) C dX1_earliestBegin_13 (by decide) (fun c4 => ?_) (fun c4 => ?_)
  · replace hk := hk.1 c4
    refine px_iload_n (i := 2) C dX1_earliestBegin_49 rfl rfl ?_
    exact px_iret C hRt dX1_earliestBegin_50 rfl rfl hk
  · replace hk := hk.2 c4
    refine px_aload_n (i := 0) C dX1_earliestBegin_16 rfl rfl ?_
    refine px_getr C dX1_earliestBegin_17 fl_RX1_9 rfl rfl rfl ?_
    refine px_getr C dX1_earliestBegin_20 fl_RX1_42 rfl rfl rfl ?_
    refine px_iload_n (i := 3) C dX1_earliestBegin_23 rfl rfl ?_
    obtain ⟨o1, hk⟩ := hk
    refine px_iald 64 C dX1_earliestBegin_24 rfl rfl rfl rfl o1 ?_
    refine px_iload_n (i := 1) C dX1_earliestBegin_25 rfl rfl ?_
    refine px_icmp_ne (tgt := 43) C dX1_earliestBegin_26 (by decide) (fun c3 => ?_) (fun c3 => ?_)
    · replace hk := hk.1 c3
      refine px_iinc (i := 3) (v := (1 : Int32)) C dX1_earliestBegin_43 rfl rfl (by decide) rfl ?_
      refine px_goto (tgt := 5) C dX1_earliestBegin_46 (by decide) ?_
      exact PW_at (hR5 _ _ _ _ hk) (And.intro rfl (And.intro rfl (And.intro rfl (And.intro rfl trivial)))) (Nat.le_of_ble_eq_true rfl) (Nat.le_of_ble_eq_true rfl)
    · replace hk := hk.2 c3
      refine px_iload_n (i := 2) C dX1_earliestBegin_29 rfl rfl ?_
      refine px_aload_n (i := 0) C dX1_earliestBegin_30 rfl rfl ?_
      refine px_getr C dX1_earliestBegin_31 fl_RX1_15 rfl rfl rfl ?_
      refine px_getr C dX1_earliestBegin_34 fl_RX1_29 rfl rfl rfl ?_
      refine px_iload_n (i := 3) C dX1_earliestBegin_37 rfl rfl ?_
      obtain ⟨o2, hk⟩ := hk
      refine px_iald 1216 C dX1_earliestBegin_38 rfl rfl rfl rfl o2 ?_
      refine px_mmin C (HR_le hHR (Nat.le_of_ble_eq_true rfl)) dX1_earliestBegin_39 (gw5 48 rfl rfl) math_min (Nat.le_of_ble_eq_true rfl) ?_
      refine px_istore_n (i := 2) C dX1_earliestBegin_42 rfl (by decide) rfl ?_
      refine px_iinc (i := 3) (v := (1 : Int32)) C dX1_earliestBegin_43 rfl rfl (by decide) rfl ?_
      refine px_goto (tgt := 5) C dX1_earliestBegin_46 (by decide) ?_
      exact PW_at (hR5 _ _ _ _ hk) (And.intro rfl (And.intro rfl (And.intro rfl (And.intro rfl trivial)))) (Nat.le_of_ble_eq_true rfl) (Nat.le_of_ble_eq_true rfl)
set_option maxRecDepth 100000 in
set_option maxHeartbeats 4000000 in
theorem w1_earliestBegin_ok {l : Launch} {idx : List (Nat × Nat)} {μ : Mem} {a1 : Int32} {P : Int32 → Mem → Prop} {X : String → Mem → Prop} (hl : l.stackTraces = false) (hI : IdxOK idx) (hk : w1_earliestBegin_wp μ a1 P) : PMet l yX1_earliestBegin (.code yX1_earliestBegin cX1_earliestBegin 4 (some .int)) 1 0 0 idx [pR 34 0, pI a1] μ (qI P) X := by
  refine PMet_of mv_X1_earliestBegin.2.2.2.2.2.2 hl hI mv_X1_earliestBegin.2.2.2.1 rfl (Nat.le_of_ble_eq_true rfl) (fun G _ _ C hRt hHR hnT => ?_)
  show PW G 0 0 0 [some (pR 34 0), some (pI a1), none, none] [] μ
  unfold w1_earliestBegin_wp at hk
  refine px_ldc (v := (1000000 : Int32)) C dX1_earliestBegin_0 (gw5 185 rfl rfl) ?_
  refine px_istore_n (i := 2) C dX1_earliestBegin_2 rfl (by decide) rfl ?_
  refine px_iconst (v := (0 : Int32)) C dX1_earliestBegin_3 rfl ?_
  refine px_istore_n (i := 3) C dX1_earliestBegin_4 rfl (by decide) rfl ?_
  exact PW_at (w1_earliestBegin_b5_ok C hRt hHR hnT hk) (And.intro rfl (And.intro rfl (And.intro rfl (And.intro rfl trivial)))) (Nat.le_of_ble_eq_true rfl) (Nat.le_of_ble_eq_true rfl)
theorem dX1_latestEnd_0 : decode cX1_latestEnd 0 = .ok (.ldc 100, 2) := by decide +kernel
theorem dX1_latestEnd_2 : decode cX1_latestEnd 2 = .ok (.istore_n 2, 1) := by decide +kernel
theorem dX1_latestEnd_3 : decode cX1_latestEnd 3 = .ok (.iconst 0, 1) := by decide +kernel
theorem dX1_latestEnd_4 : decode cX1_latestEnd 4 = .ok (.istore_n 3, 1) := by decide +kernel
theorem dX1_latestEnd_5 : decode cX1_latestEnd 5 = .ok (.iload_n 3, 1) := by decide +kernel
theorem dX1_latestEnd_6 : decode cX1_latestEnd 6 = .ok (.aload_n 0, 1) := by decide +kernel
theorem dX1_latestEnd_7 : decode cX1_latestEnd 7 = .ok (.getfield 9, 3) := by decide +kernel
theorem dX1_latestEnd_10 : decode cX1_latestEnd 10 = .ok (.getfield 35, 3) := by decide +kernel
theorem dX1_latestEnd_13 : decode cX1_latestEnd 13 = .ok (.if_icmp .ge 36, 3) := by decide +kernel
theorem dX1_latestEnd_16 : decode cX1_latestEnd 16 = .ok (.aload_n 0, 1) := by decide +kernel
theorem dX1_latestEnd_17 : decode cX1_latestEnd 17 = .ok (.getfield 9, 3) := by decide +kernel
theorem dX1_latestEnd_20 : decode cX1_latestEnd 20 = .ok (.getfield 42, 3) := by decide +kernel
theorem dX1_latestEnd_23 : decode cX1_latestEnd 23 = .ok (.iload_n 3, 1) := by decide +kernel
theorem dX1_latestEnd_24 : decode cX1_latestEnd 24 = .ok (.iaload, 1) := by decide +kernel
theorem dX1_latestEnd_25 : decode cX1_latestEnd 25 = .ok (.iload_n 1, 1) := by decide +kernel
theorem dX1_latestEnd_26 : decode cX1_latestEnd 26 = .ok (.if_icmp .ne 17, 3) := by decide +kernel
theorem dX1_latestEnd_29 : decode cX1_latestEnd 29 = .ok (.iload_n 2, 1) := by decide +kernel
theorem dX1_latestEnd_30 : decode cX1_latestEnd 30 = .ok (.aload_n 0, 1) := by decide +kernel
theorem dX1_latestEnd_31 : decode cX1_latestEnd 31 = .ok (.getfield 15, 3) := by decide +kernel
theorem dX1_latestEnd_34 : decode cX1_latestEnd 34 = .ok (.getfield 58, 3) := by decide +kernel
theorem dX1_latestEnd_37 : decode cX1_latestEnd 37 = .ok (.iload_n 3, 1) := by decide +kernel
theorem dX1_latestEnd_38 : decode cX1_latestEnd 38 = .ok (.iaload, 1) := by decide +kernel
theorem dX1_latestEnd_39 : decode cX1_latestEnd 39 = .ok (.invokestatic 52, 3) := by decide +kernel
theorem dX1_latestEnd_42 : decode cX1_latestEnd 42 = .ok (.istore_n 2, 1) := by decide +kernel
theorem dX1_latestEnd_43 : decode cX1_latestEnd 43 = .ok (.iinc 3 1, 3) := by decide +kernel
theorem dX1_latestEnd_46 : decode cX1_latestEnd 46 = .ok (.goto (-41), 3) := by decide +kernel
theorem dX1_latestEnd_49 : decode cX1_latestEnd 49 = .ok (.iload_n 2, 1) := by decide +kernel
theorem dX1_latestEnd_50 : decode cX1_latestEnd 50 = .ok (.ireturn, 1) := by decide +kernel
set_option maxRecDepth 100000 in
set_option maxHeartbeats 4000000 in
theorem w1_latestEnd_b5_ok {G : GT} {P : Int32 → Mem → Prop} {X : String → Mem → Prop} (C : PCx G cX1_latestEnd 4 RX1) (hRt : PRt G (some .int) (qI P) X) (hHR : HR G (1)) (hnT : NoT G) {μ : Mem} {l1 : Int32} {l2 : Int32} {l3 : Int32} (hk : w1_latestEnd_b5 P μ l1 l2 l3) : PW G 0 0 5 [some (pR 34 0), some (pI l1), some (pI l2), some (pI l3)] [] μ := by
  refine hk (fun (μ : Mem) (l1 : Int32) (l2 : Int32) (l3 : Int32) => PW G 0 0 5 [some (pR 34 0), some (pI l1), some (pI l2), some (pI l3)] [] μ) (fun (μ : Mem) l1 l2 l3 hk => ?_)
  have hR5 : ∀ (μ : Mem) (l1 : Int32) (l2 : Int32) (l3 : Int32), PW G 0 0 5 [some (pR 34 0), some (pI l1), some (pI l2), some (pI l3)] [] μ → PW G 0 0 5 [some (pR 34 0), some (pI l1), some (pI l2), some (pI l3)] [] μ := fun _ _ _ _ h => h
  unfold w1_latestEnd_b5_body at hk
  refine px_iload_n (i := 3) C dX1_latestEnd_5 rfl rfl ?_
  refine px_aload_n (i := 0) C dX1_latestEnd_6 rfl rfl ?_
  refine px_getr C dX1_latestEnd_7 fl_RX1_9 rfl rfl rfl ?_
  refine px_geti 1 C dX1_latestEnd_10 fl_RX1_35 rfl rfl rfl rfl ?_
  refine px_icmp_ge (tgt := 49) C dX1_latestEnd_13 (by decide) (fun c4 => ?_) (fun c4 => ?_)
  · replace hk := hk.1 c4
    refine px_iload_n (i := 2) C dX1_latestEnd_49 rfl rfl ?_
    exact px_iret C hRt dX1_latestEnd_50 rfl rfl hk
  · replace hk := hk.2 c4
    refine px_aload_n (i := 0) C dX1_latestEnd_16 rfl rfl ?_
    refine px_getr C dX1_latestEnd_17 fl_RX1_9 rfl rfl rfl ?_
    refine px_getr C dX1_latestEnd_20 fl_RX1_42 rfl rfl rfl ?_
    refine px_iload_n (i := 3) C dX1_latestEnd_23 rfl rfl ?_
    obtain ⟨o1, hk⟩ := hk
    refine px_iald 64 C dX1_latestEnd_24 rfl rfl rfl rfl o1 ?_
    refine px_iload_n (i := 1) C dX1_latestEnd_25 rfl rfl ?_
    refine px_icmp_ne (tgt := 43) C dX1_latestEnd_26 (by decide) (fun c3 => ?_) (fun c3 => ?_)
    · replace hk := hk.1 c3
      refine px_iinc (i := 3) (v := (1 : Int32)) C dX1_latestEnd_43 rfl rfl (by decide) rfl ?_
      refine px_goto (tgt := 5) C dX1_latestEnd_46 (by decide) ?_
      exact PW_at (hR5 _ _ _ _ hk) (And.intro rfl (And.intro rfl (And.intro rfl (And.intro rfl trivial)))) (Nat.le_of_ble_eq_true rfl) (Nat.le_of_ble_eq_true rfl)
    · replace hk := hk.2 c3
      refine px_iload_n (i := 2) C dX1_latestEnd_29 rfl rfl ?_
      refine px_aload_n (i := 0) C dX1_latestEnd_30 rfl rfl ?_
      refine px_getr C dX1_latestEnd_31 fl_RX1_15 rfl rfl rfl ?_
      refine px_getr C dX1_latestEnd_34 fl_RX1_58 rfl rfl rfl ?_
      refine px_iload_n (i := 3) C dX1_latestEnd_37 rfl rfl ?_
      obtain ⟨o2, hk⟩ := hk
      refine px_iald 1280 C dX1_latestEnd_38 rfl rfl rfl rfl o2 ?_
      refine px_mmax C (HR_le hHR (Nat.le_of_ble_eq_true rfl)) dX1_latestEnd_39 (gw5 47 rfl rfl) math_max (Nat.le_of_ble_eq_true rfl) ?_
      refine px_istore_n (i := 2) C dX1_latestEnd_42 rfl (by decide) rfl ?_
      refine px_iinc (i := 3) (v := (1 : Int32)) C dX1_latestEnd_43 rfl rfl (by decide) rfl ?_
      refine px_goto (tgt := 5) C dX1_latestEnd_46 (by decide) ?_
      exact PW_at (hR5 _ _ _ _ hk) (And.intro rfl (And.intro rfl (And.intro rfl (And.intro rfl trivial)))) (Nat.le_of_ble_eq_true rfl) (Nat.le_of_ble_eq_true rfl)
set_option maxRecDepth 100000 in
set_option maxHeartbeats 4000000 in
theorem w1_latestEnd_ok {l : Launch} {idx : List (Nat × Nat)} {μ : Mem} {a1 : Int32} {P : Int32 → Mem → Prop} {X : String → Mem → Prop} (hl : l.stackTraces = false) (hI : IdxOK idx) (hk : w1_latestEnd_wp μ a1 P) : PMet l yX1_latestEnd (.code yX1_latestEnd cX1_latestEnd 4 (some .int)) 1 0 0 idx [pR 34 0, pI a1] μ (qI P) X := by
  refine PMet_of mv_X1_latestEnd.2.2.2.2.2.2 hl hI mv_X1_latestEnd.2.2.2.1 rfl (Nat.le_of_ble_eq_true rfl) (fun G _ _ C hRt hHR hnT => ?_)
  show PW G 0 0 0 [some (pR 34 0), some (pI a1), none, none] [] μ
  unfold w1_latestEnd_wp at hk
  refine px_ldc (v := (-1000000 : Int32)) C dX1_latestEnd_0 (gw5 180 rfl rfl) ?_
  refine px_istore_n (i := 2) C dX1_latestEnd_2 rfl (by decide) rfl ?_
  refine px_iconst (v := (0 : Int32)) C dX1_latestEnd_3 rfl ?_
  refine px_istore_n (i := 3) C dX1_latestEnd_4 rfl (by decide) rfl ?_
  exact PW_at (w1_latestEnd_b5_ok C hRt hHR hnT hk) (And.intro rfl (And.intro rfl (And.intro rfl (And.intro rfl trivial)))) (Nat.le_of_ble_eq_true rfl) (Nat.le_of_ble_eq_true rfl)
theorem dX1_busyUnits_0 : decode cX1_busyUnits 0 = .ok (.iconst 0, 1) := by decide +kernel
theorem dX1_busyUnits_1 : decode cX1_busyUnits 1 = .ok (.istore_n 3, 1) := by decide +kernel
theorem dX1_busyUnits_2 : decode cX1_busyUnits 2 = .ok (.ldc 100, 2) := by decide +kernel
theorem dX1_busyUnits_4 : decode cX1_busyUnits 4 = .ok (.istore 4, 2) := by decide +kernel
theorem dX1_busyUnits_6 : decode cX1_busyUnits 6 = .ok (.iconst 0, 1) := by decide +kernel
theorem dX1_busyUnits_7 : decode cX1_busyUnits 7 = .ok (.istore 5, 2) := by decide +kernel
theorem dX1_busyUnits_9 : decode cX1_busyUnits 9 = .ok (.iload 5, 2) := by decide +kernel
theorem dX1_busyUnits_11 : decode cX1_busyUnits 11 = .ok (.aload_n 0, 1) := by decide +kernel
theorem dX1_busyUnits_12 : decode cX1_busyUnits 12 = .ok (.getfield 9, 3) := by decide +kernel
theorem dX1_busyUnits_15 : decode cX1_busyUnits 15 = .ok (.getfield 35, 3) := by decide +kernel
theorem dX1_busyUnits_18 : decode cX1_busyUnits 18 = .ok (.if_icmp .ge 97, 3) := by decide +kernel
theorem dX1_busyUnits_21 : decode cX1_busyUnits 21 = .ok (.aload_n 0, 1) := by decide +kernel
theorem dX1_busyUnits_22 : decode cX1_busyUnits 22 = .ok (.getfield 15, 3) := by decide +kernel
theorem dX1_busyUnits_25 : decode cX1_busyUnits 25 = .ok (.getfield 39, 3) := by decide +kernel
theorem dX1_busyUnits_28 : decode cX1_busyUnits 28 = .ok (.iload 5, 2) := by decide +kernel
theorem dX1_busyUnits_30 : decode cX1_busyUnits 30 = .ok (.iaload, 1) := by decide +kernel
theorem dX1_busyUnits_31 : decode cX1_busyUnits 31 = .ok (.istore 6, 2) := by decide +kernel
theorem dX1_busyUnits_33 : decode cX1_busyUnits 33 = .ok (.aload_n 0, 1) := by decide +kernel
theorem dX1_busyUnits_34 : decode cX1_busyUnits 34 = .ok (.getfield 9, 3) := by decide +kernel
theorem dX1_busyUnits_37 : decode cX1_busyUnits 37 = .ok (.getfield 42, 3) := by decide +kernel
theorem dX1_busyUnits_40 : decode cX1_busyUnits 40 = .ok (.iload 6, 2) := by decide +kernel
theorem dX1_busyUnits_42 : decode cX1_busyUnits 42 = .ok (.iaload, 1) := by decide +kernel
theorem dX1_busyUnits_43 : decode cX1_busyUnits 43 = .ok (.iload_n 1, 1) := by decide +kernel
theorem dX1_busyUnits_44 : decode cX1_busyUnits 44 = .ok (.if_icmp .ne 65, 3) := by decide +kernel
theorem dX1_busyUnits_47 : decode cX1_busyUnits 47 = .ok (.aload_n 0, 1) := by decide +kernel
theorem dX1_busyUnits_48 : decode cX1_busyUnits 48 = .ok (.getfield 9, 3) := by decide +kernel
theorem dX1_busyUnits_51 : decode cX1_busyUnits 51 = .ok (.getfield 75, 3) := by decide +kernel
theorem dX1_busyUnits_54 : decode cX1_busyUnits 54 = .ok (.iload 6, 2) := by decide +kernel
theorem dX1_busyUnits_56 : decode cX1_busyUnits 56 = .ok (.iaload, 1) := by decide +kernel
theorem dX1_busyUnits_57 : decode cX1_busyUnits 57 = .ok (.iload_n 2, 1) := by decide +kernel
theorem dX1_busyUnits_58 : decode cX1_busyUnits 58 = .ok (.if_icmp .ne 51, 3) := by decide +kernel
theorem dX1_busyUnits_61 : decode cX1_busyUnits 61 = .ok (.aload_n 0, 1) := by decide +kernel
theorem dX1_busyUnits_62 : decode cX1_busyUnits 62 = .ok (.getfield 15, 3) := by decide +kernel
theorem dX1_busyUnits_65 : decode cX1_busyUnits 65 = .ok (.getfield 29, 3) := by decide +kernel
theorem dX1_busyUnits_68 : decode cX1_busyUnits 68 = .ok (.iload 6, 2) := by decide +kernel
theorem dX1_busyUnits_70 : decode cX1_busyUnits 70 = .ok (.iaload, 1) := by decide +kernel
theorem dX1_busyUnits_71 : decode cX1_busyUnits 71 = .ok (.iload 4, 2) := by decide +kernel
theorem dX1_busyUnits_73 : decode cX1_busyUnits 73 = .ok (.invokestatic 52, 3) := by decide +kernel
theorem dX1_busyUnits_76 : decode cX1_busyUnits 76 = .ok (.istore 7, 2) := by decide +kernel
theorem dX1_busyUnits_78 : decode cX1_busyUnits 78 = .ok (.aload_n 0, 1) := by decide +kernel
theorem dX1_busyUnits_79 : decode cX1_busyUnits 79 = .ok (.getfield 15, 3) := by decide +kernel
theorem dX1_busyUnits_82 : decode cX1_busyUnits 82 = .ok (.getfield 58, 3) := by decide +kernel
theorem dX1_busyUnits_85 : decode cX1_busyUnits 85 = .ok (.iload 6, 2) := by decide +kernel
theorem dX1_busyUnits_87 : decode cX1_busyUnits 87 = .ok (.iaload, 1) := by decide +kernel
theorem dX1_busyUnits_88 : decode cX1_busyUnits 88 = .ok (.istore 8, 2) := by decide +kernel
theorem dX1_busyUnits_90 : decode cX1_busyUnits 90 = .ok (.iload 7, 2) := by decide +kernel
theorem dX1_busyUnits_92 : decode cX1_busyUnits 92 = .ok (.iload 8, 2) := by decide +kernel
theorem dX1_busyUnits_94 : decode cX1_busyUnits 94 = .ok (.if_icmp .ge 15, 3) := by decide +kernel
theorem dX1_busyUnits_97 : decode cX1_busyUnits 97 = .ok (.iload_n 3, 1) := by decide +kernel
theorem dX1_busyUnits_98 : decode cX1_busyUnits 98 = .ok (.iload 8, 2) := by decide +kernel
theorem dX1_busyUnits_100 : decode cX1_busyUnits 100 = .ok (.iload 7, 2) := by decide +kernel
theorem dX1_busyUnits_102 : decode cX1_busyUnits 102 = .ok (.isub, 1) := by decide +kernel
theorem dX1_busyUnits_103 : decode cX1_busyUnits 103 = .ok (.iadd, 1) := by decide +kernel
theorem dX1_busyUnits_104 : decode cX1_busyUnits 104 = .ok (.istore_n 3, 1) := by decide +kernel
theorem dX1_busyUnits_105 : decode cX1_busyUnits 105 = .ok (.iload 8, 2) := by decide +kernel
theorem dX1_busyUnits_107 : decode cX1_busyUnits 107 = .ok (.istore 4, 2) := by decide +kernel
theorem dX1_busyUnits_109 : decode cX1_busyUnits 109 = .ok (.iinc 5 1, 3) := by decide +kernel
theorem dX1_busyUnits_112 : decode cX1_busyUnits 112 = .ok (.goto (-103), 3) := by decide +kernel
theorem dX1_busyUnits_115 : decode cX1_busyUnits 115 = .ok (.iload_n 3, 1) := by decide +kernel
theorem dX1_busyUnits_116 : decode cX1_busyUnits 116 = .ok (.ireturn, 1) := by decide +kernel
set_option maxRecDepth 100000 in
set_option maxHeartbeats 4000000 in
theorem w1_busyUnits_b9_ok {G : GT} {P : Int32 → Mem → Prop} {X : String → Mem → Prop} (C : PCx G cX1_busyUnits 9 RX1) (hRt : PRt G (some .int) (qI P) X) (hHR : HR G (1)) (hnT : NoT G) {μ : Mem} {l1 : Int32} {l2 : Int32} {l3 : Int32} {l4 : Int32} {l5 : Int32} (hk : w1_busyUnits_b9 P μ l1 l2 l3 l4 l5) : PW G 0 0 9 [some (pR 34 0), some (pI l1), some (pI l2), some (pI l3), some (pI l4), some (pI l5), none, none, none] [] μ := by
  refine hk (fun (μ : Mem) (l1 : Int32) (l2 : Int32) (l3 : Int32) (l4 : Int32) (l5 : Int32) => PW G 0 0 9 [some (pR 34 0), some (pI l1), some (pI l2), some (pI l3), some (pI l4), some (pI l5), none, none, none] [] μ) (fun (μ : Mem) l1 l2 l3 l4 l5 hk => ?_)
  have hR9 : ∀ (μ : Mem) (l1 : Int32) (l2 : Int32) (l3 : Int32) (l4 : Int32) (l5 : Int32), PW G 0 0 9 [some (pR 34 0), some (pI l1), some (pI l2), some (pI l3), some (pI l4), some (pI l5), none, none, none] [] μ → PW G 0 0 9 [some (pR 34 0), some (pI l1), some (pI l2), some (pI l3), some (pI l4), some (pI l5), none, none, none] [] μ := fun _ _ _ _ _ _ h => h
  unfold w1_busyUnits_b9_body at hk
  refine px_iload (i := 5) C dX1_busyUnits_9 rfl ?_
  refine px_aload_n (i := 0) C dX1_busyUnits_11 rfl rfl ?_
  refine px_getr C dX1_busyUnits_12 fl_RX1_9 rfl rfl rfl ?_
  refine px_geti 1 C dX1_busyUnits_15 fl_RX1_35 rfl rfl rfl rfl ?_
  refine px_icmp_ge (tgt := 115) C dX1_busyUnits_18 (by decide) (fun c9 => ?_) (fun c9 => ?_)
  · replace hk := hk.1 c9
    refine px_iload_n (i := 3) C dX1_busyUnits_115 rfl rfl ?_
    exact px_iret C hRt dX1_busyUnits_116 rfl rfl hk
  · replace hk := hk.2 c9
    refine px_aload_n (i := 0) C dX1_busyUnits_21 rfl rfl ?_
    refine px_getr C dX1_busyUnits_22 fl_RX1_15 rfl rfl rfl ?_
    refine px_getr C dX1_busyUnits_25 fl_RX1_39 rfl rfl rfl ?_
    refine px_iload (i := 5) C dX1_busyUnits_28 rfl ?_
    obtain ⟨o1, hk⟩ := hk
    refine px_iald 1664 C dX1_busyUnits_30 rfl rfl rfl rfl o1 ?_
    refine px_istore (i := 6) C dX1_busyUnits_31 (by decide) rfl ?_
    refine px_aload_n (i := 0) C dX1_busyUnits_33 rfl rfl ?_
    refine px_getr C dX1_busyUnits_34 fl_RX1_9 rfl rfl rfl ?_
    refine px_getr C dX1_busyUnits_37 fl_RX1_42 rfl rfl rfl ?_
    refine px_iload (i := 6) C dX1_busyUnits_40 rfl ?_
    obtain ⟨o2, hk⟩ := hk
    refine px_iald 64 C dX1_busyUnits_42 rfl rfl rfl rfl o2 ?_
    refine px_iload_n (i := 1) C dX1_busyUnits_43 rfl rfl ?_
    refine px_icmp_ne (tgt := 109) C dX1_busyUnits_44 (by decide) (fun c8 => ?_) (fun c8 => ?_)
    · replace hk := hk.1 c8
      refine px_iinc (i := 5) (v := (1 : Int32)) C dX1_busyUnits_109 rfl rfl (by decide) rfl ?_
      refine px_goto (tgt := 9) C dX1_busyUnits_112 (by decide) ?_
      exact PW_at (hR9 _ _ _ _ _ _ hk) (And.intro rfl (And.intro rfl (And.intro rfl (And.intro rfl (And.intro rfl (And.intro rfl trivial)))))) (Nat.le_of_ble_eq_true rfl) (Nat.le_of_ble_eq_true rfl)
    · replace hk := hk.2 c8
      refine px_aload_n (i := 0) C dX1_busyUnits_47 rfl rfl ?_
      refine px_getr C dX1_busyUnits_48 fl_RX1_9 rfl rfl rfl ?_
      refine px_getr C dX1_busyUnits_51 fl_RX1_75 rfl rfl rfl ?_
      refine px_iload (i := 6) C dX1_busyUnits_54 rfl ?_
      obtain ⟨o3, hk⟩ := hk
      refine px_iald 256 C dX1_busyUnits_56 rfl rfl rfl rfl o3 ?_
      refine px_iload_n (i := 2) C dX1_busyUnits_57 rfl rfl ?_
      refine px_icmp_ne (tgt := 109) C dX1_busyUnits_58 (by decide) (fun c7 => ?_) (fun c7 => ?_)
      · replace hk := hk.1 c7
        refine px_iinc (i := 5) (v := (1 : Int32)) C dX1_busyUnits_109 rfl rfl (by decide) rfl ?_
        refine px_goto (tgt := 9) C dX1_busyUnits_112 (by decide) ?_
        exact PW_at (hR9 _ _ _ _ _ _ hk) (And.intro rfl (And.intro rfl (And.intro rfl (And.intro rfl (And.intro rfl (And.intro rfl trivial)))))) (Nat.le_of_ble_eq_true rfl) (Nat.le_of_ble_eq_true rfl)
      · replace hk := hk.2 c7
        refine px_aload_n (i := 0) C dX1_busyUnits_61 rfl rfl ?_
        refine px_getr C dX1_busyUnits_62 fl_RX1_15 rfl rfl rfl ?_
        refine px_getr C dX1_busyUnits_65 fl_RX1_29 rfl rfl rfl ?_
        refine px_iload (i := 6) C dX1_busyUnits_68 rfl ?_
        obtain ⟨o4, hk⟩ := hk
        refine px_iald 1216 C dX1_busyUnits_70 rfl rfl rfl rfl o4 ?_
        refine px_iload (i := 4) C dX1_busyUnits_71 rfl ?_
        refine px_mmax C (HR_le hHR (Nat.le_of_ble_eq_true rfl)) dX1_busyUnits_73 (gw5 47 rfl rfl) math_max (Nat.le_of_ble_eq_true rfl) ?_
        refine px_istore (i := 7) C dX1_busyUnits_76 (by decide) rfl ?_
        refine px_aload_n (i := 0) C dX1_busyUnits_78 rfl rfl ?_
        refine px_getr C dX1_busyUnits_79 fl_RX1_15 rfl rfl rfl ?_
        refine px_getr C dX1_busyUnits_82 fl_RX1_58 rfl rfl rfl ?_
        refine px_iload (i := 6) C dX1_busyUnits_85 rfl ?_
        obtain ⟨o5, hk⟩ := hk
        refine px_iald 1280 C dX1_busyUnits_87 rfl rfl rfl rfl o5 ?_
        refine px_istore (i := 8) C dX1_busyUnits_88 (by decide) rfl ?_
        refine px_iload (i := 7) C dX1_busyUnits_90 rfl ?_
        refine px_iload (i := 8) C dX1_busyUnits_92 rfl ?_
        refine px_icmp_ge (tgt := 109) C dX1_busyUnits_94 (by decide) (fun c6 => ?_) (fun c6 => ?_)
        · replace hk := hk.1 c6
          refine px_iinc (i := 5) (v := (1 : Int32)) C dX1_busyUnits_109 rfl rfl (by decide) rfl ?_
          refine px_goto (tgt := 9) C dX1_busyUnits_112 (by decide) ?_
          exact PW_at (hR9 _ _ _ _ _ _ hk) (And.intro rfl (And.intro rfl (And.intro rfl (And.intro rfl (And.intro rfl (And.intro rfl trivial)))))) (Nat.le_of_ble_eq_true rfl) (Nat.le_of_ble_eq_true rfl)
        · replace hk := hk.2 c6
          refine px_iload_n (i := 3) C dX1_busyUnits_97 rfl rfl ?_
          refine px_iload (i := 8) C dX1_busyUnits_98 rfl ?_
          refine px_iload (i := 7) C dX1_busyUnits_100 rfl ?_
          refine px_isub C dX1_busyUnits_102 ?_
          refine px_iadd C dX1_busyUnits_103 ?_
          refine px_istore_n (i := 3) C dX1_busyUnits_104 rfl (by decide) rfl ?_
          refine px_iload (i := 8) C dX1_busyUnits_105 rfl ?_
          refine px_istore (i := 4) C dX1_busyUnits_107 (by decide) rfl ?_
          refine px_iinc (i := 5) (v := (1 : Int32)) C dX1_busyUnits_109 rfl rfl (by decide) rfl ?_
          refine px_goto (tgt := 9) C dX1_busyUnits_112 (by decide) ?_
          exact PW_at (hR9 _ _ _ _ _ _ hk) (And.intro rfl (And.intro rfl (And.intro rfl (And.intro rfl (And.intro rfl (And.intro rfl trivial)))))) (Nat.le_of_ble_eq_true rfl) (Nat.le_of_ble_eq_true rfl)
set_option maxRecDepth 100000 in
set_option maxHeartbeats 4000000 in
theorem w1_busyUnits_ok {l : Launch} {idx : List (Nat × Nat)} {μ : Mem} {a1 : Int32} {a2 : Int32} {P : Int32 → Mem → Prop} {X : String → Mem → Prop} (hl : l.stackTraces = false) (hI : IdxOK idx) (hk : w1_busyUnits_wp μ a1 a2 P) : PMet l yX1_busyUnits (.code yX1_busyUnits cX1_busyUnits 9 (some .int)) 1 0 0 idx [pR 34 0, pI a1, pI a2] μ (qI P) X := by
  refine PMet_of mv_X1_busyUnits.2.2.2.2.2.2 hl hI mv_X1_busyUnits.2.2.2.1 rfl (Nat.le_of_ble_eq_true rfl) (fun G _ _ C hRt hHR hnT => ?_)
  show PW G 0 0 0 [some (pR 34 0), some (pI a1), some (pI a2), none, none, none, none, none, none] [] μ
  unfold w1_busyUnits_wp at hk
  refine px_iconst (v := (0 : Int32)) C dX1_busyUnits_0 rfl ?_
  refine px_istore_n (i := 3) C dX1_busyUnits_1 rfl (by decide) rfl ?_
  refine px_ldc (v := (-1000000 : Int32)) C dX1_busyUnits_2 (gw5 180 rfl rfl) ?_
  refine px_istore (i := 4) C dX1_busyUnits_4 (by decide) rfl ?_
  refine px_iconst (v := (0 : Int32)) C dX1_busyUnits_6 rfl ?_
  refine px_istore (i := 5) C dX1_busyUnits_7 (by decide) rfl ?_
  exact PW_at (w1_busyUnits_b9_ok C hRt hHR hnT hk) (And.intro rfl (And.intro rfl (And.intro rfl (And.intro rfl (And.intro rfl (And.intro rfl trivial)))))) (Nat.le_of_ble_eq_true rfl) (Nat.le_of_ble_eq_true rfl)
theorem dX1_busiestService_0 : decode cX1_busiestService 0 = .ok (.iconst 0, 1) := by decide +kernel
theorem dX1_busiestService_1 : decode cX1_busiestService 1 = .ok (.istore_n 2, 1) := by decide +kernel
theorem dX1_busiestService_2 : decode cX1_busiestService 2 = .ok (.aload_n 0, 1) := by decide +kernel
theorem dX1_busiestService_3 : decode cX1_busiestService 3 = .ok (.iload_n 1, 1) := by decide +kernel
theorem dX1_busiestService_4 : decode cX1_busiestService 4 = .ok (.iconst 0, 1) := by decide +kernel
theorem dX1_busiestService_5 : decode cX1_busiestService 5 = .ok (.invokevirtual 101, 3) := by decide +kernel
theorem dX1_busiestService_8 : decode cX1_busiestService 8 = .ok (.istore_n 3, 1) := by decide +kernel
theorem dX1_busiestService_9 : decode cX1_busiestService 9 = .ok (.iconst 1, 1) := by decide +kernel
theorem dX1_busiestService_10 : decode cX1_busiestService 10 = .ok (.istore 4, 2) := by decide +kernel
theorem dX1_busiestService_12 : decode cX1_busiestService 12 = .ok (.iload 4, 2) := by decide +kernel
theorem dX1_busiestService_14 : decode cX1_busiestService 14 = .ok (.bipush 8, 2) := by decide +kernel
theorem dX1_busiestService_16 : decode cX1_busiestService 16 = .ok (.if_icmp .ge 30, 3) := by decide +kernel
theorem dX1_busiestService_19 : decode cX1_busiestService 19 = .ok (.aload_n 0, 1) := by decide +kernel
theorem dX1_busiestService_20 : decode cX1_busiestService 20 = .ok (.iload_n 1, 1) := by decide +kernel
theorem dX1_busiestService_21 : decode cX1_busiestService 21 = .ok (.iload 4, 2) := by decide +kernel
theorem dX1_busiestService_23 : decode cX1_busiestService 23 = .ok (.invokevirtual 101, 3) := by decide +kernel
theorem dX1_busiestService_26 : decode cX1_busiestService 26 = .ok (.istore 5, 2) := by decide +kernel
theorem dX1_busiestService_28 : decode cX1_busiestService 28 = .ok (.iload 5, 2) := by decide +kernel
theorem dX1_busiestService_30 : decode cX1_busiestService 30 = .ok (.iload_n 3, 1) := by decide +kernel
theorem dX1_busiestService_31 : decode cX1_busiestService 31 = .ok (.if_icmp .le 9, 3) := by decide +kernel
theorem dX1_busiestService_34 : decode cX1_busiestService 34 = .ok (.iload 4, 2) := by decide +kernel
theorem dX1_busiestService_36 : decode cX1_busiestService 36 = .ok (.istore_n 2, 1) := by decide +kernel
theorem dX1_busiestService_37 : decode cX1_busiestService 37 = .ok (.iload 5, 2) := by decide +kernel
theorem dX1_busiestService_39 : decode cX1_busiestService 39 = .ok (.istore_n 3, 1) := by decide +kernel
theorem dX1_busiestService_40 : decode cX1_busiestService 40 = .ok (.iinc 4 1, 3) := by decide +kernel
theorem dX1_busiestService_43 : decode cX1_busiestService 43 = .ok (.goto (-31), 3) := by decide +kernel
theorem dX1_busiestService_46 : decode cX1_busiestService 46 = .ok (.iload_n 2, 1) := by decide +kernel
theorem dX1_busiestService_47 : decode cX1_busiestService 47 = .ok (.ireturn, 1) := by decide +kernel
set_option maxRecDepth 100000 in
set_option maxHeartbeats 4000000 in
theorem w1_busiestService_b12_ok {G : GT} {P : Int32 → Mem → Prop} {X : String → Mem → Prop} (C : PCx G cX1_busiestService 6 RX1) (hRt : PRt G (some .int) (qI P) X) (hHR : HR G (2)) (hnT : NoT G) {μ : Mem} {l1 : Int32} {l2 : Int32} {l3 : Int32} {l4 : Int32} (hk : w1_busiestService_b12 P μ l1 l2 l3 l4) : PW G 0 0 12 [some (pR 34 0), some (pI l1), some (pI l2), some (pI l3), some (pI l4), none] [] μ := by
  refine hk (fun (μ : Mem) (l1 : Int32) (l2 : Int32) (l3 : Int32) (l4 : Int32) => PW G 0 0 12 [some (pR 34 0), some (pI l1), some (pI l2), some (pI l3), some (pI l4), none] [] μ) (fun (μ : Mem) l1 l2 l3 l4 hk => ?_)
  have hR12 : ∀ (μ : Mem) (l1 : Int32) (l2 : Int32) (l3 : Int32) (l4 : Int32), PW G 0 0 12 [some (pR 34 0), some (pI l1), some (pI l2), some (pI l3), some (pI l4), none] [] μ → PW G 0 0 12 [some (pR 34 0), some (pI l1), some (pI l2), some (pI l3), some (pI l4), none] [] μ := fun _ _ _ _ _ h => h
  unfold w1_busiestService_b12_body at hk
  refine px_iload (i := 4) C dX1_busiestService_12 rfl ?_
  refine px_bipush (v := (8 : Int32)) C dX1_busiestService_14 rfl ?_
  refine px_icmp_ge (tgt := 46) C dX1_busiestService_16 (by decide) (fun c6 => ?_) (fun c6 => ?_)
  · replace hk := hk.1 c6
    refine px_iload_n (i := 2) C dX1_busiestService_46 rfl rfl ?_
    exact px_iret C hRt dX1_busiestService_47 rfl rfl hk
  · replace hk := hk.2 c6
    refine px_aload_n (i := 0) C dX1_busiestService_19 rfl rfl ?_
    refine px_iload_n (i := 1) C dX1_busiestService_20 rfl rfl ?_
    refine px_iload (i := 4) C dX1_busiestService_21 rfl ?_
    refine px_callVi (h := 1) (rc' := 0) (rs' := 0) C (HR_le hHR (Nat.le_of_ble_eq_true rfl)) hRt hnT dX1_busiestService_23 (gw5 213 rfl rfl) mv_X1_busyUnits (w1_busyUnits_ok (PCx_l C) (PCx_I C) hk) rfl rfl rfl rfl rfl (Nat.le_of_ble_eq_true rfl) (Nat.le_of_ble_eq_true rfl) (Nat.le_of_ble_eq_true rfl) (Nat.le_of_ble_eq_true rfl) ?_
    intro r4 μ3 hk
    refine px_istore (i := 5) C dX1_busiestService_26 (by decide) rfl ?_
    refine px_iload (i := 5) C dX1_busiestService_28 rfl ?_
    refine px_iload_n (i := 3) C dX1_busiestService_30 rfl rfl ?_
    refine px_icmp_le (tgt := 40) C dX1_busiestService_31 (by decide) (fun c5 => ?_) (fun c5 => ?_)
    · replace hk := hk.1 c5
      refine px_iinc (i := 4) (v := (1 : Int32)) C dX1_busiestService_40 rfl rfl (by decide) rfl ?_
      refine px_goto (tgt := 12) C dX1_busiestService_43 (by decide) ?_
      exact PW_at (hR12 _ _ _ _ _ hk) (And.intro rfl (And.intro rfl (And.intro rfl (And.intro rfl (And.intro rfl trivial))))) (Nat.le_of_ble_eq_true rfl) (Nat.le_of_ble_eq_true rfl)
    · replace hk := hk.2 c5
      refine px_iload (i := 4) C dX1_busiestService_34 rfl ?_
      refine px_istore_n (i := 2) C dX1_busiestService_36 rfl (by decide) rfl ?_
      refine px_iload (i := 5) C dX1_busiestService_37 rfl ?_
      refine px_istore_n (i := 3) C dX1_busiestService_39 rfl (by decide) rfl ?_
      refine px_iinc (i := 4) (v := (1 : Int32)) C dX1_busiestService_40 rfl rfl (by decide) rfl ?_
      refine px_goto (tgt := 12) C dX1_busiestService_43 (by decide) ?_
      exact PW_at (hR12 _ _ _ _ _ hk) (And.intro rfl (And.intro rfl (And.intro rfl (And.intro rfl (And.intro rfl trivial))))) (Nat.le_of_ble_eq_true rfl) (Nat.le_of_ble_eq_true rfl)
set_option maxRecDepth 100000 in
set_option maxHeartbeats 4000000 in
theorem w1_busiestService_ok {l : Launch} {idx : List (Nat × Nat)} {μ : Mem} {a1 : Int32} {P : Int32 → Mem → Prop} {X : String → Mem → Prop} (hl : l.stackTraces = false) (hI : IdxOK idx) (hk : w1_busiestService_wp μ a1 P) : PMet l yX1_busiestService (.code yX1_busiestService cX1_busiestService 6 (some .int)) 2 0 0 idx [pR 34 0, pI a1] μ (qI P) X := by
  refine PMet_of mv_X1_busiestService.2.2.2.2.2.2 hl hI mv_X1_busiestService.2.2.2.1 rfl (Nat.le_of_ble_eq_true rfl) (fun G _ _ C hRt hHR hnT => ?_)
  show PW G 0 0 0 [some (pR 34 0), some (pI a1), none, none, none, none] [] μ
  unfold w1_busiestService_wp at hk
  refine px_iconst (v := (0 : Int32)) C dX1_busiestService_0 rfl ?_
  refine px_istore_n (i := 2) C dX1_busiestService_1 rfl (by decide) rfl ?_
  refine px_aload_n (i := 0) C dX1_busiestService_2 rfl rfl ?_
  refine px_iload_n (i := 1) C dX1_busiestService_3 rfl rfl ?_
  refine px_iconst (v := (0 : Int32)) C dX1_busiestService_4 rfl ?_
  refine px_callVi (h := 1) (rc' := 0) (rs' := 0) C (HR_le hHR (Nat.le_of_ble_eq_true rfl)) hRt hnT dX1_busiestService_5 (gw5 213 rfl rfl) mv_X1_busyUnits (w1_busyUnits_ok (PCx_l C) (PCx_I C) hk) rfl rfl rfl rfl rfl (Nat.le_of_ble_eq_true rfl) (Nat.le_of_ble_eq_true rfl) (Nat.le_of_ble_eq_true rfl) (Nat.le_of_ble_eq_true rfl) ?_
  intro r2 μ1 hk
  refine px_istore_n (i := 3) C dX1_busiestService_8 rfl (by decide) rfl ?_
  refine px_iconst (v := (1 : Int32)) C dX1_busiestService_9 rfl ?_
  refine px_istore (i := 4) C dX1_busiestService_10 (by decide) rfl ?_
  exact PW_at (w1_busiestService_b12_ok C hRt hHR hnT hk) (And.intro rfl (And.intro rfl (And.intro rfl (And.intro rfl (And.intro rfl trivial))))) (Nat.le_of_ble_eq_true rfl) (Nat.le_of_ble_eq_true rfl)
theorem dX2_nodeOver_0 : decode cX2_nodeOver 0 = .ok (.aload_n 0, 1) := by decide +kernel
theorem dX2_nodeOver_1 : decode cX2_nodeOver 1 = .ok (.getfield 21, 3) := by decide +kernel
theorem dX2_nodeOver_4 : decode cX2_nodeOver 4 = .ok (.iload_n 1, 1) := by decide +kernel
theorem dX2_nodeOver_5 : decode cX2_nodeOver 5 = .ok (.iaload, 1) := by decide +kernel
theorem dX2_nodeOver_6 : decode cX2_nodeOver 6 = .ok (.lookupswitch 50 #[(1, 26), (2, 36)], 26) := by decide +kernel
theorem dX2_nodeOver_32 : decode cX2_nodeOver 32 = .ok (.aload_n 0, 1) := by decide +kernel
theorem dX2_nodeOver_33 : decode cX2_nodeOver 33 = .ok (.getfield 37, 3) := by decide +kernel
theorem dX2_nodeOver_36 : decode cX2_nodeOver 36 = .ok (.getfield 85, 3) := by decide +kernel
theorem dX2_nodeOver_39 : decode cX2_nodeOver 39 = .ok (.iload_n 1, 1) := by decide +kernel
theorem dX2_nodeOver_40 : decode cX2_nodeOver 40 = .ok (.iaload, 1) := by decide +kernel
theorem dX2_nodeOver_41 : decode cX2_nodeOver 41 = .ok (.ireturn, 1) := by decide +kernel
theorem dX2_nodeOver_42 : decode cX2_nodeOver 42 = .ok (.sipush 1000, 3) := by decide +kernel
theorem dX2_nodeOver_45 : decode cX2_nodeOver 45 = .ok (.aload_n 0, 1) := by decide +kernel
theorem dX2_nodeOver_46 : decode cX2_nodeOver 46 = .ok (.getfield 37, 3) := by decide +kernel
theorem dX2_nodeOver_49 : decode cX2_nodeOver 49 = .ok (.getfield 85, 3) := by decide +kernel
theorem dX2_nodeOver_52 : decode cX2_nodeOver 52 = .ok (.iload_n 1, 1) := by decide +kernel
theorem dX2_nodeOver_53 : decode cX2_nodeOver 53 = .ok (.iaload, 1) := by decide +kernel
theorem dX2_nodeOver_54 : decode cX2_nodeOver 54 = .ok (.iadd, 1) := by decide +kernel
theorem dX2_nodeOver_55 : decode cX2_nodeOver 55 = .ok (.ireturn, 1) := by decide +kernel
theorem dX2_nodeOver_56 : decode cX2_nodeOver 56 = .ok (.iconst (-1), 1) := by decide +kernel
theorem dX2_nodeOver_57 : decode cX2_nodeOver 57 = .ok (.ireturn, 1) := by decide +kernel
set_option maxRecDepth 100000 in
set_option maxHeartbeats 4000000 in
theorem w2_nodeOver_ok {l : Launch} {idx : List (Nat × Nat)} {μ : Mem} {a1 : Int32} {P : Int32 → Mem → Prop} {X : String → Mem → Prop} (hl : l.stackTraces = false) (hI : IdxOK idx) (hk : w2_nodeOver_wp μ a1 P) : PMet l yX2_nodeOver (.code yX2_nodeOver cX2_nodeOver 2 (some .int)) 0 0 0 idx [pR 18 0, pI a1] μ (qI P) X := by
  refine PMet_of mv_X2_nodeOver.2.2.2.2.2.2 hl hI mv_X2_nodeOver.2.2.2.1 rfl (Nat.le_of_ble_eq_true rfl) (fun G _ _ C hRt hHR hnT => ?_)
  show PW G 0 0 0 [some (pR 18 0), some (pI a1)] [] μ
  unfold w2_nodeOver_wp at hk
  refine px_aload_n (i := 0) C dX2_nodeOver_0 rfl rfl ?_
  refine px_getr C dX2_nodeOver_1 fl_RX2_21 rfl rfl rfl ?_
  refine px_iload_n (i := 1) C dX2_nodeOver_4 rfl rfl ?_
  obtain ⟨o1, hk⟩ := hk
  refine px_iald 1408 C dX2_nodeOver_5 rfl rfl rfl rfl o1 ?_
  by_cases c4_0 : (μ 1408 0 (a1).toNatClampNeg) = (1 : Int32)
  · replace hk := hk.1 c4_0
    refine px_lsw (tgt := 32) (off := 26) C dX2_nodeOver_6 c4_0 (by decide) (by decide) (by decide) ?_
    refine px_aload_n (i := 0) C dX2_nodeOver_32 rfl rfl ?_
    refine px_getr C dX2_nodeOver_33 fl_RX2_37 rfl rfl rfl ?_
    refine px_getr C dX2_nodeOver_36 fl_RX2_85 rfl rfl rfl ?_
    refine px_iload_n (i := 1) C dX2_nodeOver_39 rfl rfl ?_
    obtain ⟨o2, hk⟩ := hk
    refine px_iald 192 C dX2_nodeOver_40 rfl rfl rfl rfl o2 ?_
    exact px_iret C hRt dX2_nodeOver_41 rfl rfl hk
  · skip
    by_cases c4_1 : (μ 1408 0 (a1).toNatClampNeg) = (2 : Int32)
    · replace hk := hk.2.1 c4_1
      refine px_lsw (tgt := 42) (off := 36) C dX2_nodeOver_6 c4_1 (by decide) (by decide) (by decide) ?_
      refine px_sipush (v := (1000 : Int32)) C dX2_nodeOver_42 rfl ?_
      refine px_aload_n (i := 0) C dX2_nodeOver_45 rfl rfl ?_
      refine px_getr C dX2_nodeOver_46 fl_RX2_37 rfl rfl rfl ?_
      refine px_getr C dX2_nodeOver_49 fl_RX2_85 rfl rfl rfl ?_
      refine px_iload_n (i := 1) C dX2_nodeOver_52 rfl rfl ?_
      obtain ⟨o3, hk⟩ := hk
      refine px_iald 192 C dX2_nodeOver_53 rfl rfl rfl rfl o3 ?_
      refine px_iadd C dX2_nodeOver_54 ?_
      exact px_iret C hRt dX2_nodeOver_55 rfl rfl hk
    · skip
      replace hk := hk.2.2 ⟨c4_0, c4_1⟩
      refine px_lsw2 (tgt := 56) (off := 50) C dX2_nodeOver_6 (by decide) (lsw_out2 c4_0 c4_1 rfl rfl) (by decide) ?_
      refine px_iconst (v := (-1 : Int32)) C dX2_nodeOver_56 rfl ?_
      exact px_iret C hRt dX2_nodeOver_57 rfl rfl hk
theorem dX2_isEarlier_0 : decode cX2_isEarlier 0 = .ok (.aload_n 0, 1) := by decide +kernel
theorem dX2_isEarlier_1 : decode cX2_isEarlier 1 = .ok (.getfield 9, 3) := by decide +kernel
theorem dX2_isEarlier_4 : decode cX2_isEarlier 4 = .ok (.iload_n 1, 1) := by decide +kernel
theorem dX2_isEarlier_5 : decode cX2_isEarlier 5 = .ok (.iaload, 1) := by decide +kernel
theorem dX2_isEarlier_6 : decode cX2_isEarlier 6 = .ok (.aload_n 0, 1) := by decide +kernel
theorem dX2_isEarlier_7 : decode cX2_isEarlier 7 = .ok (.getfield 9, 3) := by decide +kernel
theorem dX2_isEarlier_10 : decode cX2_isEarlier 10 = .ok (.iload_n 2, 1) := by decide +kernel
theorem dX2_isEarlier_11 : decode cX2_isEarlier 11 = .ok (.iaload, 1) := by decide +kernel
theorem dX2_isEarlier_12 : decode cX2_isEarlier 12 = .ok (.if_icmp .lt 39, 3) := by decide +kernel
theorem dX2_isEarlier_15 : decode cX2_isEarlier 15 = .ok (.aload_n 0, 1) := by decide +kernel
theorem dX2_isEarlier_16 : decode cX2_isEarlier 16 = .ok (.getfield 9, 3) := by decide +kernel
theorem dX2_isEarlier_19 : decode cX2_isEarlier 19 = .ok (.iload_n 1, 1) := by decide +kernel
theorem dX2_isEarlier_20 : decode cX2_isEarlier 20 = .ok (.iaload, 1) := by decide +kernel
theorem dX2_isEarlier_21 : decode cX2_isEarlier 21 = .ok (.aload_n 0, 1) := by decide +kernel
theorem dX2_isEarlier_22 : decode cX2_isEarlier 22 = .ok (.getfield 9, 3) := by decide +kernel
theorem dX2_isEarlier_25 : decode cX2_isEarlier 25 = .ok (.iload_n 2, 1) := by decide +kernel
theorem dX2_isEarlier_26 : decode cX2_isEarlier 26 = .ok (.iaload, 1) := by decide +kernel
theorem dX2_isEarlier_27 : decode cX2_isEarlier 27 = .ok (.if_icmp .ne 28, 3) := by decide +kernel
theorem dX2_isEarlier_30 : decode cX2_isEarlier 30 = .ok (.aload_n 0, 1) := by decide +kernel
theorem dX2_isEarlier_31 : decode cX2_isEarlier 31 = .ok (.getfield 37, 3) := by decide +kernel
theorem dX2_isEarlier_34 : decode cX2_isEarlier 34 = .ok (.getfield 92, 3) := by decide +kernel
theorem dX2_isEarlier_37 : decode cX2_isEarlier 37 = .ok (.iload_n 1, 1) := by decide +kernel
theorem dX2_isEarlier_38 : decode cX2_isEarlier 38 = .ok (.iaload, 1) := by decide +kernel
theorem dX2_isEarlier_39 : decode cX2_isEarlier 39 = .ok (.aload_n 0, 1) := by decide +kernel
theorem dX2_isEarlier_40 : decode cX2_isEarlier 40 = .ok (.getfield 37, 3) := by decide +kernel
theorem dX2_isEarlier_43 : decode cX2_isEarlier 43 = .ok (.getfield 92, 3) := by decide +kernel
theorem dX2_isEarlier_46 : decode cX2_isEarlier 46 = .ok (.iload_n 2, 1) := by decide +kernel
theorem dX2_isEarlier_47 : decode cX2_isEarlier 47 = .ok (.iaload, 1) := by decide +kernel
theorem dX2_isEarlier_48 : decode cX2_isEarlier 48 = .ok (.if_icmp .ge 7, 3) := by decide +kernel
theorem dX2_isEarlier_51 : decode cX2_isEarlier 51 = .ok (.iconst 1, 1) := by decide +kernel
theorem dX2_isEarlier_52 : decode cX2_isEarlier 52 = .ok (.goto 4, 3) := by decide +kernel
theorem dX2_isEarlier_55 : decode cX2_isEarlier 55 = .ok (.iconst 0, 1) := by decide +kernel
theorem dX2_isEarlier_56 : decode cX2_isEarlier 56 = .ok (.ireturn, 1) := by decide +kernel
set_option maxRecDepth 100000 in
set_option maxHeartbeats 4000000 in
theorem w2_isEarlier_ok {l : Launch} {idx : List (Nat × Nat)} {μ : Mem} {a1 : Int32} {a2 : Int32} {P : Int32 → Mem → Prop} {X : String → Mem → Prop} (hl : l.stackTraces = false) (hI : IdxOK idx) (hk : w2_isEarlier_wp μ a1 a2 P) : PMet l yX2_isEarlier (.code yX2_isEarlier cX2_isEarlier 3 (some .boolean)) 0 0 0 idx [pR 18 0, pI a1, pI a2] μ (qI P) X := by
  refine PMet_of mv_X2_isEarlier.2.2.2.2.2.2 hl hI mv_X2_isEarlier.2.2.2.1 rfl (Nat.le_of_ble_eq_true rfl) (fun G _ _ C hRt hHR hnT => ?_)
  show PW G 0 0 0 [some (pR 18 0), some (pI a1), some (pI a2)] [] μ
  unfold w2_isEarlier_wp at hk
  refine px_aload_n (i := 0) C dX2_isEarlier_0 rfl rfl ?_
  refine px_getr C dX2_isEarlier_1 fl_RX2_9 rfl rfl rfl ?_
  refine px_iload_n (i := 1) C dX2_isEarlier_4 rfl rfl ?_
  obtain ⟨o1, hk⟩ := hk
  refine px_iald 1216 C dX2_isEarlier_5 rfl rfl rfl rfl o1 ?_
  refine px_aload_n (i := 0) C dX2_isEarlier_6 rfl rfl ?_
  refine px_getr C dX2_isEarlier_7 fl_RX2_9 rfl rfl rfl ?_
  refine px_iload_n (i := 2) C dX2_isEarlier_10 rfl rfl ?_
  obtain ⟨o2, hk⟩ := hk
  refine px_iald 1216 C dX2_isEarlier_11 rfl rfl rfl rfl o2 ?_
  refine px_icmp_lt (tgt := 51) C dX2_isEarlier_12 (by decide) (fun c9 => ?_) (fun c9 => ?_)
  · replace hk := hk.1 c9
    refine px_iconst (v := (1 : Int32)) C dX2_isEarlier_51 rfl ?_
    refine px_goto (tgt := 56) C dX2_isEarlier_52 (by decide) ?_
    exact px_iret C hRt dX2_isEarlier_56 rfl rfl hk
  · replace hk := hk.2 c9
    refine px_aload_n (i := 0) C dX2_isEarlier_15 rfl rfl ?_
    refine px_getr C dX2_isEarlier_16 fl_RX2_9 rfl rfl rfl ?_
    refine px_iload_n (i := 1) C dX2_isEarlier_19 rfl rfl ?_
    obtain ⟨o3, hk⟩ := hk
    refine px_iald 1216 C dX2_isEarlier_20 rfl rfl rfl rfl o3 ?_
    refine px_aload_n (i := 0) C dX2_isEarlier_21 rfl rfl ?_
    refine px_getr C dX2_isEarlier_22 fl_RX2_9 rfl rfl rfl ?_
    refine px_iload_n (i := 2) C dX2_isEarlier_25 rfl rfl ?_
    obtain ⟨o4, hk⟩ := hk
    refine px_iald 1216 C dX2_isEarlier_26 rfl rfl rfl rfl o4 ?_
    refine px_icmp_ne (tgt := 55) C dX2_isEarlier_27 (by decide) (fun c8 => ?_) (fun c8 => ?_)
    · replace hk := hk.1 c8
      refine px_iconst (v := (0 : Int32)) C dX2_isEarlier_55 rfl ?_
      exact px_iret C hRt dX2_isEarlier_56 rfl rfl hk
    · replace hk := hk.2 c8
      refine px_aload_n (i := 0) C dX2_isEarlier_30 rfl rfl ?_
      refine px_getr C dX2_isEarlier_31 fl_RX2_37 rfl rfl rfl ?_
      refine px_getr C dX2_isEarlier_34 fl_RX2_92 rfl rfl rfl ?_
      refine px_iload_n (i := 1) C dX2_isEarlier_37 rfl rfl ?_
      obtain ⟨o5, hk⟩ := hk
      refine px_iald 128 C dX2_isEarlier_38 rfl rfl rfl rfl o5 ?_
      refine px_aload_n (i := 0) C dX2_isEarlier_39 rfl rfl ?_
      refine px_getr C dX2_isEarlier_40 fl_RX2_37 rfl rfl rfl ?_
      refine px_getr C dX2_isEarlier_43 fl_RX2_92 rfl rfl rfl ?_
      refine px_iload_n (i := 2) C dX2_isEarlier_46 rfl rfl ?_
      obtain ⟨o6, hk⟩ := hk
      refine px_iald 128 C dX2_isEarlier_47 rfl rfl rfl rfl o6 ?_
      refine px_icmp_ge (tgt := 55) C dX2_isEarlier_48 (by decide) (fun c7 => ?_) (fun c7 => ?_)
      · replace hk := hk.1 c7
        refine px_iconst (v := (0 : Int32)) C dX2_isEarlier_55 rfl ?_
        exact px_iret C hRt dX2_isEarlier_56 rfl rfl hk
      · replace hk := hk.2 c7
        refine px_iconst (v := (1 : Int32)) C dX2_isEarlier_51 rfl ?_
        refine px_goto (tgt := 56) C dX2_isEarlier_52 (by decide) ?_
        exact px_iret C hRt dX2_isEarlier_56 rfl rfl hk
theorem dX2_isChild_0 : decode cX2_isChild 0 = .ok (.aload_n 0, 1) := by decide +kernel
theorem dX2_isChild_1 : decode cX2_isChild 1 = .ok (.getfield 27, 3) := by decide +kernel
theorem dX2_isChild_4 : decode cX2_isChild 4 = .ok (.iload_n 1, 1) := by decide +kernel
theorem dX2_isChild_5 : decode cX2_isChild 5 = .ok (.iaload, 1) := by decide +kernel
theorem dX2_isChild_6 : decode cX2_isChild 6 = .ok (.iload_n 3, 1) := by decide +kernel
theorem dX2_isChild_7 : decode cX2_isChild 7 = .ok (.if_icmp .ne 20, 3) := by decide +kernel
theorem dX2_isChild_10 : decode cX2_isChild 10 = .ok (.aload_n 0, 1) := by decide +kernel
theorem dX2_isChild_11 : decode cX2_isChild 11 = .ok (.getfield 37, 3) := by decide +kernel
theorem dX2_isChild_14 : decode cX2_isChild 14 = .ok (.getfield 101, 3) := by decide +kernel
theorem dX2_isChild_17 : decode cX2_isChild 17 = .ok (.iload_n 1, 1) := by decide +kernel
theorem dX2_isChild_18 : decode cX2_isChild 18 = .ok (.iaload, 1) := by decide +kernel
theorem dX2_isChild_19 : decode cX2_isChild 19 = .ok (.iload_n 2, 1) := by decide +kernel
theorem dX2_isChild_20 : decode cX2_isChild 20 = .ok (.if_icmp .ne 7, 3) := by decide +kernel
theorem dX2_isChild_23 : decode cX2_isChild 23 = .ok (.iconst 1, 1) := by decide +kernel
theorem dX2_isChild_24 : decode cX2_isChild 24 = .ok (.goto 4, 3) := by decide +kernel
theorem dX2_isChild_27 : decode cX2_isChild 27 = .ok (.iconst 0, 1) := by decide +kernel
theorem dX2_isChild_28 : decode cX2_isChild 28 = .ok (.ireturn, 1) := by decide +kernel
set_option maxRecDepth 100000 in
set_option maxHeartbeats 4000000 in
theorem w2_isChild_ok {l : Launch} {idx : List (Nat × Nat)} {μ : Mem} {a1 : Int32} {a2 : Int32} {a3 : Int32} {P : Int32 → Mem → Prop} {X : String → Mem → Prop} (hl : l.stackTraces = false) (hI : IdxOK idx) (hk : w2_isChild_wp μ a1 a2 a3 P) : PMet l yX2_isChild (.code yX2_isChild cX2_isChild 4 (some .boolean)) 0 0 0 idx [pR 18 0, pI a1, pI a2, pI a3] μ (qI P) X := by
  refine PMet_of mv_X2_isChild.2.2.2.2.2.2 hl hI mv_X2_isChild.2.2.2.1 rfl (Nat.le_of_ble_eq_true rfl) (fun G _ _ C hRt hHR hnT => ?_)
  show PW G 0 0 0 [some (pR 18 0), some (pI a1), some (pI a2), some (pI a3)] [] μ
  unfold w2_isChild_wp at hk
  refine px_aload_n (i := 0) C dX2_isChild_0 rfl rfl ?_
  refine px_getr C dX2_isChild_1 fl_RX2_27 rfl rfl rfl ?_
  refine px_iload_n (i := 1) C dX2_isChild_4 rfl rfl ?_
  obtain ⟨o1, hk⟩ := hk
  refine px_iald 1536 C dX2_isChild_5 rfl rfl rfl rfl o1 ?_
  refine px_iload_n (i := 3) C dX2_isChild_6 rfl rfl ?_
  refine px_icmp_ne (tgt := 27) C dX2_isChild_7 (by decide) (fun c4 => ?_) (fun c4 => ?_)
  · replace hk := hk.1 c4
    refine px_iconst (v := (0 : Int32)) C dX2_isChild_27 rfl ?_
    exact px_iret C hRt dX2_isChild_28 rfl rfl hk
  · replace hk := hk.2 c4
    refine px_aload_n (i := 0) C dX2_isChild_10 rfl rfl ?_
    refine px_getr C dX2_isChild_11 fl_RX2_37 rfl rfl rfl ?_
    refine px_getr C dX2_isChild_14 fl_RX2_101 rfl rfl rfl ?_
    refine px_iload_n (i := 1) C dX2_isChild_17 rfl rfl ?_
    obtain ⟨o2, hk⟩ := hk
    refine px_iald 64 C dX2_isChild_18 rfl rfl rfl rfl o2 ?_
    refine px_iload_n (i := 2) C dX2_isChild_19 rfl rfl ?_
    refine px_icmp_ne (tgt := 27) C dX2_isChild_20 (by decide) (fun c3 => ?_) (fun c3 => ?_)
    · replace hk := hk.1 c3
      refine px_iconst (v := (0 : Int32)) C dX2_isChild_27 rfl ?_
      exact px_iret C hRt dX2_isChild_28 rfl rfl hk
    · replace hk := hk.2 c3
      refine px_iconst (v := (1 : Int32)) C dX2_isChild_23 rfl ?_
      refine px_goto (tgt := 28) C dX2_isChild_24 (by decide) ?_
      exact px_iret C hRt dX2_isChild_28 rfl rfl hk
theorem dX2_children_0 : decode cX2_children 0 = .ok (.iconst 0, 1) := by decide +kernel
theorem dX2_children_1 : decode cX2_children 1 = .ok (.istore_n 3, 1) := by decide +kernel
theorem dX2_children_2 : decode cX2_children 2 = .ok (.iconst 0, 1) := by decide +kernel
theorem dX2_children_3 : decode cX2_children 3 = .ok (.istore 4, 2) := by decide +kernel
theorem dX2_children_5 : decode cX2_children 5 = .ok (.iload 4, 2) := by decide +kernel
theorem dX2_children_7 : decode cX2_children 7 = .ok (.aload_n 0, 1) := by decide +kernel
theorem dX2_children_8 : decode cX2_children 8 = .ok (.getfield 37, 3) := by decide +kernel
theorem dX2_children_11 : decode cX2_children 11 = .ok (.getfield 45, 3) := by decide +kernel
theorem dX2_children_14 : decode cX2_children 14 = .ok (.if_icmp .ge 23, 3) := by decide +kernel
theorem dX2_children_17 : decode cX2_children 17 = .ok (.aload_n 0, 1) := by decide +kernel
theorem dX2_children_18 : decode cX2_children 18 = .ok (.iload 4, 2) := by decide +kernel
theorem dX2_children_20 : decode cX2_children 20 = .ok (.iload_n 1, 1) := by decide +kernel
theorem dX2_children_21 : decode cX2_children 21 = .ok (.iload_n 2, 1) := by decide +kernel
theorem dX2_children_22 : decode cX2_children 22 = .ok (.invokevirtual 104, 3) := by decide +kernel
theorem dX2_children_25 : decode cX2_children 25 = .ok (.ifCond .eq 6, 3) := by decide +kernel
theorem dX2_children_28 : decode cX2_children 28 = .ok (.iinc 3 1, 3) := by decide +kernel
theorem dX2_children_31 : decode cX2_children 31 = .ok (.iinc 4 1, 3) := by decide +kernel
theorem dX2_children_34 : decode cX2_children 34 = .ok (.goto (-29), 3) := by decide +kernel
theorem dX2_children_37 : decode cX2_children 37 = .ok (.iload_n 3, 1) := by decide +kernel
theorem dX2_children_38 : decode cX2_children 38 = .ok (.ireturn, 1) := by decide +kernel
set_option maxRecDepth 100000 in
set_option maxHeartbeats 4000000 in
theorem w2_children_b5_ok {G : GT} {P : Int32 → Mem → Prop} {X : String → Mem → Prop} (C : PCx G cX2_children 5 RX2) (hRt : PRt G (some .int) (qI P) X) (hHR : HR G (1)) (hnT : NoT G) {μ : Mem} {l1 : Int32} {l2 : Int32} {l3 : Int32} {l4 : Int32} (hk : w2_children_b5 P μ l1 l2 l3 l4) : PW G 0 0 5 [some (pR 18 0), some (pI l1), some (pI l2), some (pI l3), some (pI l4)] [] μ := by
  refine hk (fun (μ : Mem) (l1 : Int32) (l2 : Int32) (l3 : Int32) (l4 : Int32) => PW G 0 0 5 [some (pR 18 0), some (pI l1), some (pI l2), some (pI l3), some (pI l4)] [] μ) (fun (μ : Mem) l1 l2 l3 l4 hk => ?_)
  have hR5 : ∀ (μ : Mem) (l1 : Int32) (l2 : Int32) (l3 : Int32) (l4 : Int32), PW G 0 0 5 [some (pR 18 0), some (pI l1), some (pI l2), some (pI l3), some (pI l4)] [] μ → PW G 0 0 5 [some (pR 18 0), some (pI l1), some (pI l2), some (pI l3), some (pI l4)] [] μ := fun _ _ _ _ _ h => h
  unfold w2_children_b5_body at hk
  refine px_iload (i := 4) C dX2_children_5 rfl ?_
  refine px_aload_n (i := 0) C dX2_children_7 rfl rfl ?_
  refine px_getr C dX2_children_8 fl_RX2_37 rfl rfl rfl ?_
  refine px_geti 1 C dX2_children_11 fl_RX2_45 rfl rfl rfl rfl ?_
  refine px_icmp_ge (tgt := 37) C dX2_children_14 (by decide) (fun c4 => ?_) (fun c4 => ?_)
  · replace hk := hk.1 c4
    refine px_iload_n (i := 3) C dX2_children_37 rfl rfl ?_
    exact px_iret C hRt dX2_children_38 rfl rfl hk
  · replace hk := hk.2 c4
    refine px_aload_n (i := 0) C dX2_children_17 rfl rfl ?_
    refine px_iload (i := 4) C dX2_children_18 rfl ?_
    refine px_iload_n (i := 1) C dX2_children_20 rfl rfl ?_
    refine px_iload_n (i := 2) C dX2_children_21 rfl rfl ?_
    refine px_callVi (h := 0) (rc' := 0) (rs' := 0) C (HR_le hHR (Nat.le_of_ble_eq_true rfl)) hRt hnT dX2_children_22 (gw4 123 rfl rfl) mv_X2_isChild (w2_isChild_ok (PCx_l C) (PCx_I C) hk) rfl rfl rfl rfl rfl (Nat.le_of_ble_eq_true rfl) (Nat.le_of_ble_eq_true rfl) (Nat.le_of_ble_eq_true rfl) (Nat.le_of_ble_eq_true rfl) ?_
    intro r2 μ1 hk
    refine px_if_eq (tgt := 31) C dX2_children_25 (by decide) (fun c3 => ?_) (fun c3 => ?_)
    · replace hk := hk.1 c3
      refine px_iinc (i := 4) (v := (1 : Int32)) C dX2_children_31 rfl rfl (by decide) rfl ?_
      refine px_goto (tgt := 5) C dX2_children_34 (by decide) ?_
      exact PW_at (hR5 _ _ _ _ _ hk) (And.intro rfl (And.intro rfl (And.intro rfl (And.intro rfl (And.intro rfl trivial))))) (Nat.le_of_ble_eq_true rfl) (Nat.le_of_ble_eq_true rfl)
    · replace hk := hk.2 c3
      refine px_iinc (i := 3) (v := (1 : Int32)) C dX2_children_28 rfl rfl (by decide) rfl ?_
      refine px_iinc (i := 4) (v := (1 : Int32)) C dX2_children_31 rfl rfl (by decide) rfl ?_
      refine px_goto (tgt := 5) C dX2_children_34 (by decide) ?_
      exact PW_at (hR5 _ _ _ _ _ hk) (And.intro rfl (And.intro rfl (And.intro rfl (And.intro rfl (And.intro rfl trivial))))) (Nat.le_of_ble_eq_true rfl) (Nat.le_of_ble_eq_true rfl)
set_option maxRecDepth 100000 in
set_option maxHeartbeats 4000000 in
theorem w2_children_ok {l : Launch} {idx : List (Nat × Nat)} {μ : Mem} {a1 : Int32} {a2 : Int32} {P : Int32 → Mem → Prop} {X : String → Mem → Prop} (hl : l.stackTraces = false) (hI : IdxOK idx) (hk : w2_children_wp μ a1 a2 P) : PMet l yX2_children (.code yX2_children cX2_children 5 (some .int)) 1 0 0 idx [pR 18 0, pI a1, pI a2] μ (qI P) X := by
  refine PMet_of mv_X2_children.2.2.2.2.2.2 hl hI mv_X2_children.2.2.2.1 rfl (Nat.le_of_ble_eq_true rfl) (fun G _ _ C hRt hHR hnT => ?_)
  show PW G 0 0 0 [some (pR 18 0), some (pI a1), some (pI a2), none, none] [] μ
  unfold w2_children_wp at hk
  refine px_iconst (v := (0 : Int32)) C dX2_children_0 rfl ?_
  refine px_istore_n (i := 3) C dX2_children_1 rfl (by decide) rfl ?_
  refine px_iconst (v := (0 : Int32)) C dX2_children_2 rfl ?_
  refine px_istore (i := 4) C dX2_children_3 (by decide) rfl ?_
  exact PW_at (w2_children_b5_ok C hRt hHR hnT hk) (And.intro rfl (And.intro rfl (And.intro rfl (And.intro rfl (And.intro rfl trivial))))) (Nat.le_of_ble_eq_true rfl) (Nat.le_of_ble_eq_true rfl)
theorem dX2_childAt_0 : decode cX2_childAt 0 = .ok (.iconst 0, 1) := by decide +kernel
theorem dX2_childAt_1 : decode cX2_childAt 1 = .ok (.istore 4, 2) := by decide +kernel
theorem dX2_childAt_3 : decode cX2_childAt 3 = .ok (.iconst 0, 1) := by decide +kernel
theorem dX2_childAt_4 : decode cX2_childAt 4 = .ok (.istore 5, 2) := by decide +kernel
theorem dX2_childAt_6 : decode cX2_childAt 6 = .ok (.iload 5, 2) := by decide +kernel
theorem dX2_childAt_8 : decode cX2_childAt 8 = .ok (.aload_n 0, 1) := by decide +kernel
theorem dX2_childAt_9 : decode cX2_childAt 9 = .ok (.getfield 37, 3) := by decide +kernel
theorem dX2_childAt_12 : decode cX2_childAt 12 = .ok (.getfield 45, 3) := by decide +kernel
theorem dX2_childAt_15 : decode cX2_childAt 15 = .ok (.if_icmp .ge 42, 3) := by decide +kernel
theorem dX2_childAt_18 : decode cX2_childAt 18 = .ok (.aload_n 0, 1) := by decide +kernel
theorem dX2_childAt_19 : decode cX2_childAt 19 = .ok (.aload_n 0, 1) := by decide +kernel
theorem dX2_childAt_20 : decode cX2_childAt 20 = .ok (.getfield 34, 3) := by decide +kernel
theorem dX2_childAt_23 : decode cX2_childAt 23 = .ok (.iload 5, 2) := by decide +kernel
theorem dX2_childAt_25 : decode cX2_childAt 25 = .ok (.iaload, 1) := by decide +kernel
theorem dX2_childAt_26 : decode cX2_childAt 26 = .ok (.iload_n 1, 1) := by decide +kernel
theorem dX2_childAt_27 : decode cX2_childAt 27 = .ok (.iload_n 2, 1) := by decide +kernel
theorem dX2_childAt_28 : decode cX2_childAt 28 = .ok (.invokevirtual 104, 3) := by decide +kernel
theorem dX2_childAt_31 : decode cX2_childAt 31 = .ok (.ifCond .eq 20, 3) := by decide +kernel
theorem dX2_childAt_34 : decode cX2_childAt 34 = .ok (.iload 4, 2) := by decide +kernel
theorem dX2_childAt_36 : decode cX2_childAt 36 = .ok (.iload_n 3, 1) := by decide +kernel
theorem dX2_childAt_37 : decode cX2_childAt 37 = .ok (.if_icmp .ne 11, 3) := by decide +kernel
theorem dX2_childAt_40 : decode cX2_childAt 40 = .ok (.aload_n 0, 1) := by decide +kernel
theorem dX2_childAt_41 : decode cX2_childAt 41 = .ok (.getfield 34, 3) := by decide +kernel
theorem dX2_childAt_44 : decode cX2_childAt 44 = .ok (.iload 5, 2) := by decide +kernel
theorem dX2_childAt_46 : decode cX2_childAt 46 = .ok (.iaload, 1) := by decide +kernel
theorem dX2_childAt_47 : decode cX2_childAt 47 = .ok (.ireturn, 1) := by decide +kernel
theorem dX2_childAt_48 : decode cX2_childAt 48 = .ok (.iinc 4 1, 3) := by decide +kernel
theorem dX2_childAt_51 : decode cX2_childAt 51 = .ok (.iinc 5 1, 3) := by decide +kernel
theorem dX2_childAt_54 : decode cX2_childAt 54 = .ok (.goto (-48), 3) := by decide +kernel
theorem dX2_childAt_57 : decode cX2_childAt 57 = .ok (.iconst (-1), 1) := by decide +kernel
theorem dX2_childAt_58 : decode cX2_childAt 58 = .ok (.ireturn, 1) := by decide +kernel
set_option maxRecDepth 100000 in
set_option maxHeartbeats 4000000 in
theorem w2_childAt_b6_ok {G : GT} {P : Int32 → Mem → Prop} {X : String → Mem → Prop} (C : PCx G cX2_childAt 6 RX2) (hRt : PRt G (some .int) (qI P) X) (hHR : HR G (1)) (hnT : NoT G) {μ : Mem} {l1 : Int32} {l2 : Int32} {l3 : Int32} {l4 : Int32} {l5 : Int32} (hk : w2_childAt_b6 P μ l1 l2 l3 l4 l5) : PW G 0 0 6 [some (pR 18 0), some (pI l1), some (pI l2), some (pI l3), some (pI l4), some (pI l5)] [] μ := by
  refine hk (fun (μ : Mem) (l1 : Int32) (l2 : Int32) (l3 : Int32) (l4 : Int32) (l5 : Int32) => PW G 0 0 6 [some (pR 18 0), some (pI l1), some (pI l2), some (pI l3), some (pI l4), some (pI l5)] [] μ) (fun (μ : Mem) l1 l2 l3 l4 l5 hk => ?_)
  have hR6 : ∀ (μ : Mem) (l1 : Int32) (l2 : Int32) (l3 : Int32) (l4 : Int32) (l5 : Int32), PW G 0 0 6 [some (pR 18 0), some (pI l1), some (pI l2), some (pI l3), some (pI l4), some (pI l5)] [] μ → PW G 0 0 6 [some (pR 18 0), some (pI l1), some (pI l2), some (pI l3), some (pI l4), some (pI l5)] [] μ := fun _ _ _ _ _ _ h => h
  unfold w2_childAt_b6_body at hk
  refine px_iload (i := 5) C dX2_childAt_6 rfl ?_
  refine px_aload_n (i := 0) C dX2_childAt_8 rfl rfl ?_
  refine px_getr C dX2_childAt_9 fl_RX2_37 rfl rfl rfl ?_
  refine px_geti 1 C dX2_childAt_12 fl_RX2_45 rfl rfl rfl rfl ?_
  refine px_icmp_ge (tgt := 57) C dX2_childAt_15 (by decide) (fun c7 => ?_) (fun c7 => ?_)
  · replace hk := hk.1 c7
    refine px_iconst (v := (-1 : Int32)) C dX2_childAt_57 rfl ?_
    exact px_iret C hRt dX2_childAt_58 rfl rfl hk
  · replace hk := hk.2 c7
    refine px_aload_n (i := 0) C dX2_childAt_18 rfl rfl ?_
    refine px_aload_n (i := 0) C dX2_childAt_19 rfl rfl ?_
    refine px_getr C dX2_childAt_20 fl_RX2_34 rfl rfl rfl ?_
    refine px_iload (i := 5) C dX2_childAt_23 rfl ?_
    obtain ⟨o1, hk⟩ := hk
    refine px_iald 1664 C dX2_childAt_25 rfl rfl rfl rfl o1 ?_
    refine px_iload_n (i := 1) C dX2_childAt_26 rfl rfl ?_
    refine px_iload_n (i := 2) C dX2_childAt_27 rfl rfl ?_
    refine px_callVi (h := 0) (rc' := 0) (rs' := 0) C (HR_le hHR (Nat.le_of_ble_eq_true rfl)) hRt hnT dX2_childAt_28 (gw4 123 rfl rfl) mv_X2_isChild (w2_isChild_ok (PCx_l C) (PCx_I C) hk) rfl rfl rfl rfl rfl (Nat.le_of_ble_eq_true rfl) (Nat.le_of_ble_eq_true rfl) (Nat.le_of_ble_eq_true rfl) (Nat.le_of_ble_eq_true rfl) ?_
    intro r3 μ2 hk
    refine px_if_eq (tgt := 51) C dX2_childAt_31 (by decide) (fun c6 => ?_) (fun c6 => ?_)
    · replace hk := hk.1 c6
      refine px_iinc (i := 5) (v := (1 : Int32)) C dX2_childAt_51 rfl rfl (by decide) rfl ?_
      refine px_goto (tgt := 6) C dX2_childAt_54 (by decide) ?_
      exact PW_at (hR6 _ _ _ _ _ _ hk) (And.intro rfl (And.intro rfl (And.intro rfl (And.intro rfl (And.intro rfl (And.intro rfl trivial)))))) (Nat.le_of_ble_eq_true rfl) (Nat.le_of_ble_eq_true rfl)
    · replace hk := hk.2 c6
      refine px_iload (i := 4) C dX2_childAt_34 rfl ?_
      refine px_iload_n (i := 3) C dX2_childAt_36 rfl rfl ?_
      refine px_icmp_ne (tgt := 48) C dX2_childAt_37 (by decide) (fun c5 => ?_) (fun c5 => ?_)
      · replace hk := hk.1 c5
        refine px_iinc (i := 4) (v := (1 : Int32)) C dX2_childAt_48 rfl rfl (by decide) rfl ?_
        refine px_iinc (i := 5) (v := (1 : Int32)) C dX2_childAt_51 rfl rfl (by decide) rfl ?_
        refine px_goto (tgt := 6) C dX2_childAt_54 (by decide) ?_
        exact PW_at (hR6 _ _ _ _ _ _ hk) (And.intro rfl (And.intro rfl (And.intro rfl (And.intro rfl (And.intro rfl (And.intro rfl trivial)))))) (Nat.le_of_ble_eq_true rfl) (Nat.le_of_ble_eq_true rfl)
      · replace hk := hk.2 c5
        refine px_aload_n (i := 0) C dX2_childAt_40 rfl rfl ?_
        refine px_getr C dX2_childAt_41 fl_RX2_34 rfl rfl rfl ?_
        refine px_iload (i := 5) C dX2_childAt_44 rfl ?_
        obtain ⟨o4, hk⟩ := hk
        refine px_iald 1664 C dX2_childAt_46 rfl rfl rfl rfl o4 ?_
        exact px_iret C hRt dX2_childAt_47 rfl rfl hk
set_option maxRecDepth 100000 in
set_option maxHeartbeats 4000000 in
theorem w2_childAt_ok {l : Launch} {idx : List (Nat × Nat)} {μ : Mem} {a1 : Int32} {a2 : Int32} {a3 : Int32} {P : Int32 → Mem → Prop} {X : String → Mem → Prop} (hl : l.stackTraces = false) (hI : IdxOK idx) (hk : w2_childAt_wp μ a1 a2 a3 P) : PMet l yX2_childAt (.code yX2_childAt cX2_childAt 6 (some .int)) 1 0 0 idx [pR 18 0, pI a1, pI a2, pI a3] μ (qI P) X := by
  refine PMet_of mv_X2_childAt.2.2.2.2.2.2 hl hI mv_X2_childAt.2.2.2.1 rfl (Nat.le_of_ble_eq_true rfl) (fun G _ _ C hRt hHR hnT => ?_)
  show PW G 0 0 0 [some (pR 18 0), some (pI a1), some (pI a2), some (pI a3), none, none] [] μ
  unfold w2_childAt_wp at hk
  refine px_iconst (v := (0 : Int32)) C dX2_childAt_0 rfl ?_
  refine px_istore (i := 4) C dX2_childAt_1 (by decide) rfl ?_
  refine px_iconst (v := (0 : Int32)) C dX2_childAt_3 rfl ?_
  refine px_istore (i := 5) C dX2_childAt_4 (by decide) rfl ?_
  exact PW_at (w2_childAt_b6_ok C hRt hHR hnT hk) (And.intro rfl (And.intro rfl (And.intro rfl (And.intro rfl (And.intro rfl (And.intro rfl trivial)))))) (Nat.le_of_ble_eq_true rfl) (Nat.le_of_ble_eq_true rfl)
theorem dX2_isPlaceholder_0 : decode cX2_isPlaceholder 0 = .ok (.iload_n 2, 1) := by decide +kernel
theorem dX2_isPlaceholder_1 : decode cX2_isPlaceholder 1 = .ok (.sipush 1000, 3) := by decide +kernel
theorem dX2_isPlaceholder_4 : decode cX2_isPlaceholder 4 = .ok (.if_icmp .lt 16, 3) := by decide +kernel
theorem dX2_isPlaceholder_7 : decode cX2_isPlaceholder 7 = .ok (.aload_n 0, 1) := by decide +kernel
theorem dX2_isPlaceholder_8 : decode cX2_isPlaceholder 8 = .ok (.iload_n 1, 1) := by decide +kernel
theorem dX2_isPlaceholder_9 : decode cX2_isPlaceholder 9 = .ok (.iload_n 2, 1) := by decide +kernel
theorem dX2_isPlaceholder_10 : decode cX2_isPlaceholder 10 = .ok (.invokevirtual 111, 3) := by decide +kernel
theorem dX2_isPlaceholder_13 : decode cX2_isPlaceholder 13 = .ok (.ifCond .le 7, 3) := by decide +kernel
theorem dX2_isPlaceholder_16 : decode cX2_isPlaceholder 16 = .ok (.iconst 1, 1) := by decide +kernel
theorem dX2_isPlaceholder_17 : decode cX2_isPlaceholder 17 = .ok (.goto 4, 3) := by decide +kernel
theorem dX2_isPlaceholder_20 : decode cX2_isPlaceholder 20 = .ok (.iconst 0, 1) := by decide +kernel
theorem dX2_isPlaceholder_21 : decode cX2_isPlaceholder 21 = .ok (.ireturn, 1) := by decide +kernel
set_option maxRecDepth 100000 in
set_option maxHeartbeats 4000000 in
theorem w2_isPlaceholder_ok {l : Launch} {idx : List (Nat × Nat)} {μ : Mem} {a1 : Int32} {a2 : Int32} {P : Int32 → Mem → Prop} {X : String → Mem → Prop} (hl : l.stackTraces = false) (hI : IdxOK idx) (hk : w2_isPlaceholder_wp μ a1 a2 P) : PMet l yX2_isPlaceholder (.code yX2_isPlaceholder cX2_isPlaceholder 3 (some .boolean)) 2 0 0 idx [pR 18 0, pI a1, pI a2] μ (qI P) X := by
  refine PMet_of mv_X2_isPlaceholder.2.2.2.2.2.2 hl hI mv_X2_isPlaceholder.2.2.2.1 rfl (Nat.le_of_ble_eq_true rfl) (fun G _ _ C hRt hHR hnT => ?_)
  show PW G 0 0 0 [some (pR 18 0), some (pI a1), some (pI a2)] [] μ
  unfold w2_isPlaceholder_wp at hk
  refine px_iload_n (i := 2) C dX2_isPlaceholder_0 rfl rfl ?_
  refine px_sipush (v := (1000 : Int32)) C dX2_isPlaceholder_1 rfl ?_
  refine px_icmp_lt (tgt := 20) C dX2_isPlaceholder_4 (by decide) (fun c4 => ?_) (fun c4 => ?_)
  · replace hk := hk.1 c4
    refine px_iconst (v := (0 : Int32)) C dX2_isPlaceholder_20 rfl ?_
    exact px_iret C hRt dX2_isPlaceholder_21 rfl rfl hk
  · replace hk := hk.2 c4
    refine px_aload_n (i := 0) C dX2_isPlaceholder_7 rfl rfl ?_
    refine px_iload_n (i := 1) C dX2_isPlaceholder_8 rfl rfl ?_
    refine px_iload_n (i := 2) C dX2_isPlaceholder_9 rfl rfl ?_
    refine px_callVi (h := 1) (rc' := 0) (rs' := 0) C (HR_le hHR (Nat.le_of_ble_eq_true rfl)) hRt hnT dX2_isPlaceholder_10 (gw4 119 rfl rfl) mv_X2_children (w2_children_ok (PCx_l C) (PCx_I C) hk) rfl rfl rfl rfl rfl (Nat.le_of_ble_eq_true rfl) (Nat.le_of_ble_eq_true rfl) (Nat.le_of_ble_eq_true rfl) (Nat.le_of_ble_eq_true rfl) ?_
    intro r2 μ1 hk
    refine px_if_le (tgt := 20) C dX2_isPlaceholder_13 (by decide) (fun c3 => ?_) (fun c3 => ?_)
    · replace hk := hk.1 c3
      refine px_iconst (v := (0 : Int32)) C dX2_isPlaceholder_20 rfl ?_
      exact px_iret C hRt dX2_isPlaceholder_21 rfl rfl hk
    · replace hk := hk.2 c3
      refine px_iconst (v := (1 : Int32)) C dX2_isPlaceholder_16 rfl ?_
      refine px_goto (tgt := 21) C dX2_isPlaceholder_17 (by decide) ?_
      exact px_iret C hRt dX2_isPlaceholder_21 rfl rfl hk
theorem dX2_countKind_0 : decode cX2_countKind 0 = .ok (.iconst 0, 1) := by decide +kernel
theorem dX2_countKind_1 : decode cX2_countKind 1 = .ok (.istore_n 2, 1) := by decide +kernel
theorem dX2_countKind_2 : decode cX2_countKind 2 = .ok (.iconst 0, 1) := by decide +kernel
theorem dX2_countKind_3 : decode cX2_countKind 3 = .ok (.istore_n 3, 1) := by decide +kernel
theorem dX2_countKind_4 : decode cX2_countKind 4 = .ok (.iload_n 3, 1) := by decide +kernel
theorem dX2_countKind_5 : decode cX2_countKind 5 = .ok (.aload_n 0, 1) := by decide +kernel
theorem dX2_countKind_6 : decode cX2_countKind 6 = .ok (.getfield 37, 3) := by decide +kernel
theorem dX2_countKind_9 : decode cX2_countKind 9 = .ok (.getfield 45, 3) := by decide +kernel
theorem dX2_countKind_12 : decode cX2_countKind 12 = .ok (.if_icmp .ge 22, 3) := by decide +kernel
theorem dX2_countKind_15 : decode cX2_countKind 15 = .ok (.aload_n 0, 1) := by decide +kernel
theorem dX2_countKind_16 : decode cX2_countKind 16 = .ok (.getfield 21, 3) := by decide +kernel
theorem dX2_countKind_19 : decode cX2_countKind 19 = .ok (.iload_n 3, 1) := by decide +kernel
theorem dX2_countKind_20 : decode cX2_countKind 20 = .ok (.iaload, 1) := by decide +kernel
theorem dX2_countKind_21 : decode cX2_countKind 21 = .ok (.iload_n 1, 1) := by decide +kernel
theorem dX2_countKind_22 : decode cX2_countKind 22 = .ok (.if_icmp .ne 6, 3) := by decide +kernel
theorem dX2_countKind_25 : decode cX2_countKind 25 = .ok (.iinc 2 1, 3) := by decide +kernel
theorem dX2_countKind_28 : decode cX2_countKind 28 = .ok (.iinc 3 1, 3) := by decide +kernel
theorem dX2_countKind_31 : decode cX2_countKind 31 = .ok (.goto (-27), 3) := by decide +kernel
theorem dX2_countKind_34 : decode cX2_countKind 34 = .ok (.iload_n 2, 1) := by decide +kernel
theorem dX2_countKind_35 : decode cX2_countKind 35 = .ok (.ireturn, 1) := by decide +kernel
set_option maxRecDepth 100000 in
set_option maxHeartbeats 4000000 in
theorem w2_countKind_b4_ok {G : GT} {P : Int32 → Mem → Prop} {X : String → Mem → Prop} (C : PCx G cX2_countKind 4 RX2) (hRt : PRt G (some .int) (qI P) X) (hHR : HR G (0)) (hnT : NoT G) {μ : Mem} {l1 : Int32} {l2 : Int32} {l3 : Int32} (hk : w2_countKind_b4 P μ l1 l2 l3) : PW G 0 0 4 [some (pR 18 0), some (pI l1), some (pI l2), some (pI l3)] [] μ := by
  refine hk (fun (μ : Mem) (l1 : Int32) (l2 : Int32) (l3 : Int32) => PW G 0 0 4 [some (pR 18 0), some (pI l1), some (pI l2), some (pI l3)] [] μ) (fun (μ : Mem) l1 l2 l3 hk => ?_)
  have hR4 : ∀ (μ : Mem) (l1 : Int32) (l2 : Int32) (l3 : Int32), PW G 0 0 4 [some (pR 18 0), some (pI l1), some (pI l2), some (pI l3)] [] μ → PW G 0 0 4 [some (pR 18 0), some (pI l1), some (pI l2), some (pI l3)] [] μ := fun _ _ _ _ h => h
  unfold w2_countKind_b4_body at hk
  refine px_iload_n (i := 3) C dX2_countKind_4 rfl rfl ?_
  refine px_aload_n (i := 0) C dX2_countKind_5 rfl rfl ?_
  refine px_getr C dX2_countKind_6 fl_RX2_37 rfl rfl rfl ?_
  refine px_geti 1 C dX2_countKind_9 fl_RX2_45 rfl rfl rfl rfl ?_
  refine px_icmp_ge (tgt := 34) C dX2_countKind_12 (by decide) (fun c3 => ?_) (fun c3 => ?_)
  · replace hk := hk.1 c3
    refine px_iload_n (i := 2) C dX2_countKind_34 rfl rfl ?_
    exact px_iret C hRt dX2_countKind_35 rfl rfl hk
  · replace hk := hk.2 c3
    refine px_aload_n (i := 0) C dX2_countKind_15 rfl rfl ?_
    refine px_getr C dX2_countKind_16 fl_RX2_21 rfl rfl rfl ?_
    refine px_iload_n (i := 3) C dX2_countKind_19 rfl rfl ?_
    obtain ⟨o1, hk⟩ := hk
    refine px_iald 1408 C dX2_countKind_20 rfl rfl rfl rfl o1 ?_
    refine px_iload_n (i := 1) C dX2_countKind_21 rfl rfl ?_
    refine px_icmp_ne (tgt := 28) C dX2_countKind_22 (by decide) (fun c2 => ?_) (fun c2 => ?_)
    · replace hk := hk.1 c2
      refine px_iinc (i := 3) (v := (1 : Int32)) C dX2_countKind_28 rfl rfl (by decide) rfl ?_
      refine px_goto (tgt := 4) C dX2_countKind_31 (by decide) ?_
      exact PW_at (hR4 _ _ _ _ hk) (And.intro rfl (And.intro rfl (And.intro rfl (And.intro rfl trivial)))) (Nat.le_of_ble_eq_true rfl) (Nat.le_of_ble_eq_true rfl)
    · replace hk := hk.2 c2
      refine px_iinc (i := 2) (v := (1 : Int32)) C dX2_countKind_25 rfl rfl (by decide) rfl ?_
      refine px_iinc (i := 3) (v := (1 : Int32)) C dX2_countKind_28 rfl rfl (by decide) rfl ?_
      refine px_goto (tgt := 4) C dX2_countKind_31 (by decide) ?_
      exact PW_at (hR4 _ _ _ _ hk) (And.intro rfl (And.intro rfl (And.intro rfl (And.intro rfl trivial)))) (Nat.le_of_ble_eq_true rfl) (Nat.le_of_ble_eq_true rfl)
set_option maxRecDepth 100000 in
set_option maxHeartbeats 4000000 in
theorem w2_countKind_ok {l : Launch} {idx : List (Nat × Nat)} {μ : Mem} {a1 : Int32} {P : Int32 → Mem → Prop} {X : String → Mem → Prop} (hl : l.stackTraces = false) (hI : IdxOK idx) (hk : w2_countKind_wp μ a1 P) : PMet l yX2_countKind (.code yX2_countKind cX2_countKind 4 (some .int)) 0 0 0 idx [pR 18 0, pI a1] μ (qI P) X := by
  refine PMet_of mv_X2_countKind.2.2.2.2.2.2 hl hI mv_X2_countKind.2.2.2.1 rfl (Nat.le_of_ble_eq_true rfl) (fun G _ _ C hRt hHR hnT => ?_)
  show PW G 0 0 0 [some (pR 18 0), some (pI a1), none, none] [] μ
  unfold w2_countKind_wp at hk
  refine px_iconst (v := (0 : Int32)) C dX2_countKind_0 rfl ?_
  refine px_istore_n (i := 2) C dX2_countKind_1 rfl (by decide) rfl ?_
  refine px_iconst (v := (0 : Int32)) C dX2_countKind_2 rfl ?_
  refine px_istore_n (i := 3) C dX2_countKind_3 rfl (by decide) rfl ?_
  exact PW_at (w2_countKind_b4_ok C hRt hHR hnT hk) (And.intro rfl (And.intro rfl (And.intro rfl (And.intro rfl trivial)))) (Nat.le_of_ble_eq_true rfl) (Nat.le_of_ble_eq_true rfl)
theorem dX3_forget_0 : decode cX3_forget 0 = .ok (.aload_n 0, 1) := by decide +kernel
theorem dX3_forget_1 : decode cX3_forget 1 = .ok (.iconst 0, 1) := by decide +kernel
theorem dX3_forget_2 : decode cX3_forget 2 = .ok (.putfield 9, 3) := by decide +kernel
theorem dX3_forget_5 : decode cX3_forget 5 = .ok (.return_, 1) := by decide +kernel
set_option maxRecDepth 100000 in
set_option maxHeartbeats 4000000 in
theorem w3_forget_ok {l : Launch} {idx : List (Nat × Nat)} {μ : Mem} {P : Mem → Prop} {X : String → Mem → Prop} (hl : l.stackTraces = false) (hI : IdxOK idx) (hk : w3_forget_wp μ P) : PMet l yX3_forget (.code yX3_forget cX3_forget 1 none) 0 0 0 idx [pR 10 0] μ (qV P) X := by
  refine PMet_of mv_X3_forget.2.2.2.2.2.2 hl hI mv_X3_forget.2.2.2.1 rfl (Nat.le_of_ble_eq_true rfl) (fun G _ _ C hRt hHR hnT => ?_)
  show PW G 0 0 0 [some (pR 10 0)] [] μ
  unfold w3_forget_wp at hk
  refine px_aload_n (i := 0) C dX3_forget_0 rfl rfl ?_
  refine px_iconst (v := (0 : Int32)) C dX3_forget_1 rfl ?_
  replace hk := hk _ rfl
  refine px_puti 641 C dX3_forget_2 fp_RX3_9 rfl rfl rfl rfl rfl rfl ?_
  exact px_vret C hRt dX3_forget_5 rfl hk
theorem dX4_empty_0 : decode cX4_empty 0 = .ok (.aload_n 0, 1) := by decide +kernel
theorem dX4_empty_1 : decode cX4_empty 1 = .ok (.iconst 0, 1) := by decide +kernel
theorem dX4_empty_2 : decode cX4_empty 2 = .ok (.putfield 9, 3) := by decide +kernel
theorem dX4_empty_5 : decode cX4_empty 5 = .ok (.return_, 1) := by decide +kernel
set_option maxRecDepth 100000 in
set_option maxHeartbeats 4000000 in
theorem w4_empty_ok {l : Launch} {idx : List (Nat × Nat)} {μ : Mem} {P : Mem → Prop} {X : String → Mem → Prop} (hl : l.stackTraces = false) (hI : IdxOK idx) (hk : w4_empty_wp μ P) : PMet l yX4_empty (.code yX4_empty cX4_empty 1 none) 0 0 0 idx [pR 38 0] μ (qV P) X := by
  refine PMet_of mv_X4_empty.2.2.2.2.2.2 hl hI mv_X4_empty.2.2.2.1 rfl (Nat.le_of_ble_eq_true rfl) (fun G _ _ C hRt hHR hnT => ?_)
  show PW G 0 0 0 [some (pR 38 0)] [] μ
  unfold w4_empty_wp at hk
  refine px_aload_n (i := 0) C dX4_empty_0 rfl rfl ?_
  refine px_iconst (v := (0 : Int32)) C dX4_empty_1 rfl ?_
  replace hk := hk _ rfl
  refine px_puti 2433 C dX4_empty_2 fp_RX4_9 rfl rfl rfl rfl rfl rfl ?_
  exact px_vret C hRt dX4_empty_5 rfl hk
theorem dX5_latestChild_0 : decode cX5_latestChild 0 = .ok (.iconst (-1), 1) := by decide +kernel
theorem dX5_latestChild_1 : decode cX5_latestChild 1 = .ok (.istore 4, 2) := by decide +kernel
theorem dX5_latestChild_3 : decode cX5_latestChild 3 = .ok (.iconst 0, 1) := by decide +kernel
theorem dX5_latestChild_4 : decode cX5_latestChild 4 = .ok (.istore 5, 2) := by decide +kernel
theorem dX5_latestChild_6 : decode cX5_latestChild 6 = .ok (.iconst 0, 1) := by decide +kernel
theorem dX5_latestChild_7 : decode cX5_latestChild 7 = .ok (.istore 6, 2) := by decide +kernel
theorem dX5_latestChild_9 : decode cX5_latestChild 9 = .ok (.iconst 0, 1) := by decide +kernel
theorem dX5_latestChild_10 : decode cX5_latestChild 10 = .ok (.istore 7, 2) := by decide +kernel
theorem dX5_latestChild_12 : decode cX5_latestChild 12 = .ok (.iload 7, 2) := by decide +kernel
theorem dX5_latestChild_14 : decode cX5_latestChild 14 = .ok (.aload_n 0, 1) := by decide +kernel
theorem dX5_latestChild_15 : decode cX5_latestChild 15 = .ok (.getfield 40, 3) := by decide +kernel
theorem dX5_latestChild_18 : decode cX5_latestChild 18 = .ok (.getfield 91, 3) := by decide +kernel
theorem dX5_latestChild_21 : decode cX5_latestChild 21 = .ok (.if_icmp .ge 153, 3) := by decide +kernel
theorem dX5_latestChild_24 : decode cX5_latestChild 24 = .ok (.aload_n 0, 1) := by decide +kernel
theorem dX5_latestChild_25 : decode cX5_latestChild 25 = .ok (.getfield 44, 3) := by decide +kernel
theorem dX5_latestChild_28 : decode cX5_latestChild 28 = .ok (.getfield 76, 3) := by decide +kernel
theorem dX5_latestChild_31 : decode cX5_latestChild 31 = .ok (.iload 7, 2) := by decide +kernel
theorem dX5_latestChild_33 : decode cX5_latestChild 33 = .ok (.iaload, 1) := by decide +kernel
theorem dX5_latestChild_34 : decode cX5_latestChild 34 = .ok (.iload_n 2, 1) := by decide +kernel
theorem dX5_latestChild_35 : decode cX5_latestChild 35 = .ok (.invokestatic 77, 3) := by decide +kernel
theorem dX5_latestChild_38 : decode cX5_latestChild 38 = .ok (.istore 8, 2) := by decide +kernel
theorem dX5_latestChild_40 : decode cX5_latestChild 40 = .ok (.aload_n 0, 1) := by decide +kernel
theorem dX5_latestChild_41 : decode cX5_latestChild 41 = .ok (.getfield 44, 3) := by decide +kernel
theorem dX5_latestChild_44 : decode cX5_latestChild 44 = .ok (.getfield 82, 3) := by decide +kernel
theorem dX5_latestChild_47 : decode cX5_latestChild 47 = .ok (.iload 7, 2) := by decide +kernel
theorem dX5_latestChild_49 : decode cX5_latestChild 49 = .ok (.iaload, 1) := by decide +kernel
theorem dX5_latestChild_50 : decode cX5_latestChild 50 = .ok (.iload_n 3, 1) := by decide +kernel
theorem dX5_latestChild_51 : decode cX5_latestChild 51 = .ok (.invokestatic 83, 3) := by decide +kernel
theorem dX5_latestChild_54 : decode cX5_latestChild 54 = .ok (.istore 9, 2) := by decide +kernel
theorem dX5_latestChild_56 : decode cX5_latestChild 56 = .ok (.iload 8, 2) := by decide +kernel
theorem dX5_latestChild_58 : decode cX5_latestChild 58 = .ok (.iload 9, 2) := by decide +kernel
theorem dX5_latestChild_60 : decode cX5_latestChild 60 = .ok (.if_icmp .ge 108, 3) := by decide +kernel
theorem dX5_latestChild_63 : decode cX5_latestChild 63 = .ok (.aload_n 0, 1) := by decide +kernel
theorem dX5_latestChild_64 : decode cX5_latestChild 64 = .ok (.getfield 44, 3) := by decide +kernel
theorem dX5_latestChild_67 : decode cX5_latestChild 67 = .ok (.iload 7, 2) := by decide +kernel
theorem dX5_latestChild_69 : decode cX5_latestChild 69 = .ok (.aload_n 0, 1) := by decide +kernel
theorem dX5_latestChild_70 : decode cX5_latestChild 70 = .ok (.getfield 25, 3) := by decide +kernel
theorem dX5_latestChild_73 : decode cX5_latestChild 73 = .ok (.iload_n 1, 1) := by decide +kernel
theorem dX5_latestChild_74 : decode cX5_latestChild 74 = .ok (.invokevirtual 94, 3) := by decide +kernel
theorem dX5_latestChild_77 : decode cX5_latestChild 77 = .ok (.ifCond .eq 91, 3) := by decide +kernel
theorem dX5_latestChild_80 : decode cX5_latestChild 80 = .ok (.iload 4, 2) := by decide +kernel
theorem dX5_latestChild_82 : decode cX5_latestChild 82 = .ok (.iconst (-1), 1) := by decide +kernel
theorem dX5_latestChild_83 : decode cX5_latestChild 83 = .ok (.if_icmp .eq 61, 3) := by decide +kernel
theorem dX5_latestChild_86 : decode cX5_latestChild 86 = .ok (.iload 9, 2) := by decide +kernel
theorem dX5_latestChild_88 : decode cX5_latestChild 88 = .ok (.iload 6, 2) := by decide +kernel
theorem dX5_latestChild_90 : decode cX5_latestChild 90 = .ok (.if_icmp .gt 54, 3) := by decide +kernel
theorem dX5_latestChild_93 : decode cX5_latestChild 93 = .ok (.iload 9, 2) := by decide +kernel
theorem dX5_latestChild_95 : decode cX5_latestChild 95 = .ok (.iload 6, 2) := by decide +kernel
theorem dX5_latestChild_97 : decode cX5_latestChild 97 = .ok (.if_icmp .ne 10, 3) := by decide +kernel
theorem dX5_latestChild_100 : decode cX5_latestChild 100 = .ok (.iload 8, 2) := by decide +kernel
theorem dX5_latestChild_102 : decode cX5_latestChild 102 = .ok (.iload 5, 2) := by decide +kernel
theorem dX5_latestChild_104 : decode cX5_latestChild 104 = .ok (.if_icmp .lt 40, 3) := by decide +kernel
theorem dX5_latestChild_107 : decode cX5_latestChild 107 = .ok (.iload 9, 2) := by decide +kernel
theorem dX5_latestChild_109 : decode cX5_latestChild 109 = .ok (.iload 6, 2) := by decide +kernel
theorem dX5_latestChild_111 : decode cX5_latestChild 111 = .ok (.if_icmp .ne 37, 3) := by decide +kernel
theorem dX5_latestChild_114 : decode cX5_latestChild 114 = .ok (.iload 8, 2) := by decide +kernel
theorem dX5_latestChild_116 : decode cX5_latestChild 116 = .ok (.iload 5, 2) := by decide +kernel
theorem dX5_latestChild_118 : decode cX5_latestChild 118 = .ok (.if_icmp .ne 30, 3) := by decide +kernel
theorem dX5_latestChild_121 : decode cX5_latestChild 121 = .ok (.aload_n 0, 1) := by decide +kernel
theorem dX5_latestChild_122 : decode cX5_latestChild 122 = .ok (.getfield 40, 3) := by decide +kernel
theorem dX5_latestChild_125 : decode cX5_latestChild 125 = .ok (.getfield 86, 3) := by decide +kernel
theorem dX5_latestChild_128 : decode cX5_latestChild 128 = .ok (.iload 7, 2) := by decide +kernel
theorem dX5_latestChild_130 : decode cX5_latestChild 130 = .ok (.iaload, 1) := by decide +kernel
theorem dX5_latestChild_131 : decode cX5_latestChild 131 = .ok (.aload_n 0, 1) := by decide +kernel
theorem dX5_latestChild_132 : decode cX5_latestChild 132 = .ok (.getfield 40, 3) := by decide +kernel
theorem dX5_latestChild_135 : decode cX5_latestChild 135 = .ok (.getfield 86, 3) := by decide +kernel
theorem dX5_latestChild_138 : decode cX5_latestChild 138 = .ok (.iload 4, 2) := by decide +kernel
theorem dX5_latestChild_140 : decode cX5_latestChild 140 = .ok (.iaload, 1) := by decide +kernel
theorem dX5_latestChild_141 : decode cX5_latestChild 141 = .ok (.if_icmp .ge 7, 3) := by decide +kernel
theorem dX5_latestChild_144 : decode cX5_latestChild 144 = .ok (.iconst 1, 1) := by decide +kernel
theorem dX5_latestChild_145 : decode cX5_latestChild 145 = .ok (.goto 4, 3) := by decide +kernel
theorem dX5_latestChild_148 : decode cX5_latestChild 148 = .ok (.iconst 0, 1) := by decide +kernel
theorem dX5_latestChild_149 : decode cX5_latestChild 149 = .ok (.istore 10, 2) := by decide +kernel
theorem dX5_latestChild_151 : decode cX5_latestChild 151 = .ok (.iload 10, 2) := by decide +kernel
theorem dX5_latestChild_153 : decode cX5_latestChild 153 = .ok (.ifCond .eq 15, 3) := by decide +kernel
theorem dX5_latestChild_156 : decode cX5_latestChild 156 = .ok (.iload 7, 2) := by decide +kernel
theorem dX5_latestChild_158 : decode cX5_latestChild 158 = .ok (.istore 4, 2) := by decide +kernel
theorem dX5_latestChild_160 : decode cX5_latestChild 160 = .ok (.iload 8, 2) := by decide +kernel
theorem dX5_latestChild_162 : decode cX5_latestChild 162 = .ok (.istore 5, 2) := by decide +kernel
theorem dX5_latestChild_164 : decode cX5_latestChild 164 = .ok (.iload 9, 2) := by decide +kernel
theorem dX5_latestChild_166 : decode cX5_latestChild 166 = .ok (.istore 6, 2) := by decide +kernel
theorem dX5_latestChild_168 : decode cX5_latestChild 168 = .ok (.iinc 7 1, 3) := by decide +kernel
theorem dX5_latestChild_171 : decode cX5_latestChild 171 = .ok (.goto (-159), 3) := by decide +kernel
theorem dX5_latestChild_174 : decode cX5_latestChild 174 = .ok (.iload 4, 2) := by decide +kernel
theorem dX5_latestChild_176 : decode cX5_latestChild 176 = .ok (.ireturn, 1) := by decide +kernel
set_option maxRecDepth 100000 in
set_option maxHeartbeats 4000000 in
theorem w5_latestChild_b149_ok {G : GT} {P : Int32 → Mem → Prop} {X : String → Mem → Prop} (C : PCx G cX5_latestChild 11 RX5) (hRt : PRt G (some .int) (qI P) X) (hHR : HR G (1)) (hnT : NoT G) {R12 : Mem → Int32 → Int32 → Int32 → Int32 → Int32 → Int32 → Int32 → Prop} (hR12 : ∀ (μ : Mem) (l1 : Int32) (l2 : Int32) (l3 : Int32) (l4 : Int32) (l5 : Int32) (l6 : Int32) (l7 : Int32), R12 μ l1 l2 l3 l4 l5 l6 l7 → PW G 0 0 12 [some (pR 27 0), some (pI l1), some (pI l2), some (pI l3), some (pI l4), some (pI l5), some (pI l6), some (pI l7), none, none, none] [] μ) {μ : Mem} {l1 : Int32} {l2 : Int32} {l3 : Int32} {l4 : Int32} {l5 : Int32} {l6 : Int32} {l7 : Int32} {l8 : Int32} {l9 : Int32} {s0 : Int32} (hk : w5_latestChild_b149 P R12 μ l1 l2 l3 l4 l5 l6 l7 l8 l9 s0) : PW G 0 0 149 [some (pR 27 0), some (pI l1), some (pI l2), some (pI l3), some (pI l4), some (pI l5), some (pI l6), some (pI l7), some (pI l8), some (pI l9), none] [pI s0] μ := by
  unfold w5_latestChild_b149 at hk
  refine px_istore (i := 10) C dX5_latestChild_149 (by decide) rfl ?_
  refine px_iload (i := 10) C dX5_latestChild_151 rfl ?_
  refine px_if_eq (tgt := 168) C dX5_latestChild_153 (by decide) (fun c5 => ?_) (fun c5 => ?_)
  · replace hk := hk.1 c5
    refine px_iinc (i := 7) (v := (1 : Int32)) C dX5_latestChild_168 rfl rfl (by decide) rfl ?_
    refine px_goto (tgt := 12) C dX5_latestChild_171 (by decide) ?_
    exact PW_at (hR12 _ _ _ _ _ _ _ _ hk) (And.intro rfl (And.intro rfl (And.intro rfl (And.intro rfl (And.intro rfl (And.intro rfl (And.intro rfl (And.intro rfl trivial)))))))) (Nat.le_of_ble_eq_true rfl) (Nat.le_of_ble_eq_true rfl)
  · replace hk := hk.2 c5
    refine px_iload (i := 7) C dX5_latestChild_156 rfl ?_
    refine px_istore (i := 4) C dX5_latestChild_158 (by decide) rfl ?_
    refine px_iload (i := 8) C dX5_latestChild_160 rfl ?_
    refine px_istore (i := 5) C dX5_latestChild_162 (by decide) rfl ?_
    refine px_iload (i := 9) C dX5_latestChild_164 rfl ?_
    refine px_istore (i := 6) C dX5_latestChild_166 (by decide) rfl ?_
    refine px_iinc (i := 7) (v := (1 : Int32)) C dX5_latestChild_168 rfl rfl (by decide) rfl ?_
    refine px_goto (tgt := 12) C dX5_latestChild_171 (by decide) ?_
    exact PW_at (hR12 _ _ _ _ _ _ _ _ hk) (And.intro rfl (And.intro rfl (And.intro rfl (And.intro rfl (And.intro rfl (And.intro rfl (And.intro rfl (And.intro rfl trivial)))))))) (Nat.le_of_ble_eq_true rfl) (Nat.le_of_ble_eq_true rfl)
set_option maxRecDepth 100000 in
set_option maxHeartbeats 4000000 in
theorem w5_latestChild_b107_ok {G : GT} {P : Int32 → Mem → Prop} {X : String → Mem → Prop} (C : PCx G cX5_latestChild 11 RX5) (hRt : PRt G (some .int) (qI P) X) (hHR : HR G (1)) (hnT : NoT G) {R12 : Mem → Int32 → Int32 → Int32 → Int32 → Int32 → Int32 → Int32 → Prop} (hR12 : ∀ (μ : Mem) (l1 : Int32) (l2 : Int32) (l3 : Int32) (l4 : Int32) (l5 : Int32) (l6 : Int32) (l7 : Int32), R12 μ l1 l2 l3 l4 l5 l6 l7 → PW G 0 0 12 [some (pR 27 0), some (pI l1), some (pI l2), some (pI l3), some (pI l4), some (pI l5), some (pI l6), some (pI l7), none, none, none] [] μ) {μ : Mem} {l1 : Int32} {l2 : Int32} {l3 : Int32} {l4 : Int32} {l5 : Int32} {l6 : Int32} {l7 : Int32} {l8 : Int32} {l9 : Int32} (hk : w5_latestChild_b107 P R12 μ l1 l2 l3 l4 l5 l6 l7 l8 l9) : PW G 0 0 107 [some (pR 27 0), some (pI l1), some (pI l2), some (pI l3), some (pI l4), some (pI l5), some (pI l6), some (pI l7), some (pI l8), some (pI l9), none] [] μ := by
  unfold w5_latestChild_b107 at hk
  refine px_iload (i := 9) C dX5_latestChild_107 rfl ?_
  refine px_iload (i := 6) C dX5_latestChild_109 rfl ?_
  refine px_icmp_ne (tgt := 148) C dX5_latestChild_111 (by decide) (fun c10 => ?_) (fun c10 => ?_)
  · replace hk := hk.1 c10
    refine px_iconst (v := (0 : Int32)) C dX5_latestChild_148 rfl ?_
    exact PW_at (w5_latestChild_b149_ok C hRt hHR hnT hR12 hk) (And.intro rfl (And.intro rfl (And.intro rfl (And.intro rfl (And.intro rfl (And.intro rfl (And.intro rfl (And.intro rfl (And.intro rfl (And.intro rfl trivial)))))))))) (Nat.le_of_ble_eq_true rfl) (Nat.le_of_ble_eq_true rfl)
  · replace hk := hk.2 c10
    refine px_iload (i := 8) C dX5_latestChild_114 rfl ?_
    refine px_iload (i := 5) C dX5_latestChild_116 rfl ?_
    refine px_icmp_ne (tgt := 148) C dX5_latestChild_118 (by decide) (fun c9 => ?_) (fun c9 => ?_)
    · replace hk := hk.1 c9
      refine px_iconst (v := (0 : Int32)) C dX5_latestChild_148 rfl ?_
      exact PW_at (w5_latestChild_b149_ok C hRt hHR hnT hR12 hk) (And.intro rfl (And.intro rfl (And.intro rfl (And.intro rfl (And.intro rfl (And.intro rfl (And.intro rfl (And.intro rfl (And.intro rfl (And.intro rfl trivial)))))))))) (Nat.le_of_ble_eq_true rfl) (Nat.le_of_ble_eq_true rfl)
    · replace hk := hk.2 c9
      refine px_aload_n (i := 0) C dX5_latestChild_121 rfl rfl ?_
      refine px_getr C dX5_latestChild_122 fl_RX5_40 rfl rfl rfl ?_
      refine px_getr C dX5_latestChild_125 fl_RX5_86 rfl rfl rfl ?_
      refine px_iload (i := 7) C dX5_latestChild_128 rfl ?_
      obtain ⟨o6, hk⟩ := hk
      refine px_iald 128 C dX5_latestChild_130 rfl rfl rfl rfl o6 ?_
      refine px_aload_n (i := 0) C dX5_latestChild_131 rfl rfl ?_
      refine px_getr C dX5_latestChild_132 fl_RX5_40 rfl rfl rfl ?_
      refine px_getr C dX5_latestChild_135 fl_RX5_86 rfl rfl rfl ?_
      refine px_iload (i := 4) C dX5_latestChild_138 rfl ?_
      obtain ⟨o7, hk⟩ := hk
      refine px_iald 128 C dX5_latestChild_140 rfl rfl rfl rfl o7 ?_
      refine px_icmp_ge (tgt := 148) C dX5_latestChild_141 (by decide) (fun c8 => ?_) (fun c8 => ?_)
      · replace hk := hk.1 c8
        refine px_iconst (v := (0 : Int32)) C dX5_latestChild_148 rfl ?_
        exact PW_at (w5_latestChild_b149_ok C hRt hHR hnT hR12 hk) (And.intro rfl (And.intro rfl (And.intro rfl (And.intro rfl (And.intro rfl (And.intro rfl (And.intro rfl (And.intro rfl (And.intro rfl (And.intro rfl trivial)))))))))) (Nat.le_of_ble_eq_true rfl) (Nat.le_of_ble_eq_true rfl)
      · replace hk := hk.2 c8
        refine px_iconst (v := (1 : Int32)) C dX5_latestChild_144 rfl ?_
        refine px_goto (tgt := 149) C dX5_latestChild_145 (by decide) ?_
        exact PW_at (w5_latestChild_b149_ok C hRt hHR hnT hR12 hk) (And.intro rfl (And.intro rfl (And.intro rfl (And.intro rfl (And.intro rfl (And.intro rfl (And.intro rfl (And.intro rfl (And.intro rfl (And.intro rfl trivial)))))))))) (Nat.le_of_ble_eq_true rfl) (Nat.le_of_ble_eq_true rfl)
set_option maxRecDepth 100000 in
set_option maxHeartbeats 4000000 in
theorem w5_latestChild_b12_ok {G : GT} {P : Int32 → Mem → Prop} {X : String → Mem → Prop} (C : PCx G cX5_latestChild 11 RX5) (hRt : PRt G (some .int) (qI P) X) (hHR : HR G (1)) (hnT : NoT G) {μ : Mem} {l1 : Int32} {l2 : Int32} {l3 : Int32} {l4 : Int32} {l5 : Int32} {l6 : Int32} {l7 : Int32} (hk : w5_latestChild_b12 P μ l1 l2 l3 l4 l5 l6 l7) : PW G 0 0 12 [some (pR 27 0), some (pI l1), some (pI l2), some (pI l3), some (pI l4), some (pI l5), some (pI l6), some (pI l7), none, none, none] [] μ := by
  refine hk (fun (μ : Mem) (l1 : Int32) (l2 : Int32) (l3 : Int32) (l4 : Int32) (l5 : Int32) (l6 : Int32) (l7 : Int32) => PW G 0 0 12 [some (pR 27 0), some (pI l1), some (pI l2), some (pI l3), some (pI l4), some (pI l5), some (pI l6), some (pI l7), none, none, none] [] μ) (fun (μ : Mem) l1 l2 l3 l4 l5 l6 l7 hk => ?_)
  have hR12 : ∀ (μ : Mem) (l1 : Int32) (l2 : Int32) (l3 : Int32) (l4 : Int32) (l5 : Int32) (l6 : Int32) (l7 : Int32), PW G 0 0 12 [some (pR 27 0), some (pI l1), some (pI l2), some (pI l3), some (pI l4), some (pI l5), some (pI l6), some (pI l7), none, none, none] [] μ → PW G 0 0 12 [some (pR 27 0), some (pI l1), some (pI l2), some (pI l3), some (pI l4), some (pI l5), some (pI l6), some (pI l7), none, none, none] [] μ := fun _ _ _ _ _ _ _ _ h => h
  unfold w5_latestChild_b12_body at hk
  refine px_iload (i := 7) C dX5_latestChild_12 rfl ?_
  refine px_aload_n (i := 0) C dX5_latestChild_14 rfl rfl ?_
  refine px_getr C dX5_latestChild_15 fl_RX5_40 rfl rfl rfl ?_
  refine px_geti 1 C dX5_latestChild_18 fl_RX5_91 rfl rfl rfl rfl ?_
  refine px_icmp_ge (tgt := 174) C dX5_latestChild_21 (by decide) (fun c17 => ?_) (fun c17 => ?_)
  · replace hk := hk.1 c17
    refine px_iload (i := 4) C dX5_latestChild_174 rfl ?_
    exact px_iret C hRt dX5_latestChild_176 rfl rfl hk
  · replace hk := hk.2 c17
    refine px_aload_n (i := 0) C dX5_latestChild_24 rfl rfl ?_
    refine px_getr C dX5_latestChild_25 fl_RX5_44 rfl rfl rfl ?_
    refine px_getr C dX5_latestChild_28 fl_RX5_76 rfl rfl rfl ?_
    refine px_iload (i := 7) C dX5_latestChild_31 rfl ?_
    obtain ⟨o1, hk⟩ := hk
    refine px_iald 1216 C dX5_latestChild_33 rfl rfl rfl rfl o1 ?_
    refine px_iload_n (i := 2) C dX5_latestChild_34 rfl rfl ?_
    refine px_mmax C (HR_le hHR (Nat.le_of_ble_eq_true rfl)) dX5_latestChild_35 (gw4 231 rfl rfl) math_max (Nat.le_of_ble_eq_true rfl) ?_
    refine px_istore (i := 8) C dX5_latestChild_38 (by decide) rfl ?_
    refine px_aload_n (i := 0) C dX5_latestChild_40 rfl rfl ?_
    refine px_getr C dX5_latestChild_41 fl_RX5_44 rfl rfl rfl ?_
    refine px_getr C dX5_latestChild_44 fl_RX5_82 rfl rfl rfl ?_
    refine px_iload (i := 7) C dX5_latestChild_47 rfl ?_
    obtain ⟨o2, hk⟩ := hk
    refine px_iald 1280 C dX5_latestChild_49 rfl rfl rfl rfl o2 ?_
    refine px_iload_n (i := 3) C dX5_latestChild_50 rfl rfl ?_
    refine px_mmin C (HR_le hHR (Nat.le_of_ble_eq_true rfl)) dX5_latestChild_51 (gw4 232 rfl rfl) math_min (Nat.le_of_ble_eq_true rfl) ?_
    refine px_istore (i := 9) C dX5_latestChild_54 (by decide) rfl ?_
    refine px_iload (i := 8) C dX5_latestChild_56 rfl ?_
    refine px_iload (i := 9) C dX5_latestChild_58 rfl ?_
    refine px_icmp_ge (tgt := 168) C dX5_latestChild_60 (by decide) (fun c16 => ?_) (fun c16 => ?_)
    · replace hk := hk.1 c16
      refine px_iinc (i := 7) (v := (1 : Int32)) C dX5_latestChild_168 rfl rfl (by decide) rfl ?_
      refine px_goto (tgt := 12) C dX5_latestChild_171 (by decide) ?_
      exact PW_at (hR12 _ _ _ _ _ _ _ _ hk) (And.intro rfl (And.intro rfl (And.intro rfl (And.intro rfl (And.intro rfl (And.intro rfl (And.intro rfl (And.intro rfl trivial)))))))) (Nat.le_of_ble_eq_true rfl) (Nat.le_of_ble_eq_true rfl)
    · replace hk := hk.2 c16
      refine px_aload_n (i := 0) C dX5_latestChild_63 rfl rfl ?_
      refine px_getr C dX5_latestChild_64 fl_RX5_44 rfl rfl rfl ?_
      refine px_iload (i := 7) C dX5_latestChild_67 rfl ?_
      refine px_aload_n (i := 0) C dX5_latestChild_69 rfl rfl ?_
      refine px_geti 1735 C dX5_latestChild_70 fl_RX5_25 rfl rfl rfl rfl ?_
      refine px_iload_n (i := 1) C dX5_latestChild_73 rfl rfl ?_
      refine px_callVi (h := 0) (rc' := 0) (rs' := 0) C (HR_le hHR (Nat.le_of_ble_eq_true rfl)) hRt hnT dX5_latestChild_74 (gw4 233 rfl rfl) mv_X2_isChild (w2_isChild_ok (PCx_l C) (PCx_I C) hk) rfl rfl rfl rfl rfl (Nat.le_of_ble_eq_true rfl) (Nat.le_of_ble_eq_true rfl) (Nat.le_of_ble_eq_true rfl) (Nat.le_of_ble_eq_true rfl) ?_
      intro r4 μ3 hk
      refine px_if_eq (tgt := 168) C dX5_latestChild_77 (by decide) (fun c15 => ?_) (fun c15 => ?_)
      · replace hk := hk.1 c15
        refine px_iinc (i := 7) (v := (1 : Int32)) C dX5_latestChild_168 rfl rfl (by decide) rfl ?_
        refine px_goto (tgt := 12) C dX5_latestChild_171 (by decide) ?_
        exact PW_at (hR12 _ _ _ _ _ _ _ _ hk) (And.intro rfl (And.intro rfl (And.intro rfl (And.intro rfl (And.intro rfl (And.intro rfl (And.intro rfl (And.intro rfl trivial)))))))) (Nat.le_of_ble_eq_true rfl) (Nat.le_of_ble_eq_true rfl)
      · replace hk := hk.2 c15
        refine px_iload (i := 4) C dX5_latestChild_80 rfl ?_
        refine px_iconst (v := (-1 : Int32)) C dX5_latestChild_82 rfl ?_
        refine px_icmp_eq (tgt := 144) C dX5_latestChild_83 (by decide) (fun c14 => ?_) (fun c14 => ?_)
        · replace hk := hk.1 c14
          refine px_iconst (v := (1 : Int32)) C dX5_latestChild_144 rfl ?_
          refine px_goto (tgt := 149) C dX5_latestChild_145 (by decide) ?_
          exact PW_at (w5_latestChild_b149_ok C hRt hHR hnT hR12 hk) (And.intro rfl (And.intro rfl (And.intro rfl (And.intro rfl (And.intro rfl (And.intro rfl (And.intro rfl (And.intro rfl (And.intro rfl (And.intro rfl trivial)))))))))) (Nat.le_of_ble_eq_true rfl) (Nat.le_of_ble_eq_true rfl)
        · replace hk := hk.2 c14
          refine px_iload (i := 9) C dX5_latestChild_86 rfl ?_
          refine px_iload (i := 6) C dX5_latestChild_88 rfl ?_
          refine px_icmp_gt (tgt := 144) C dX5_latestChild_90 (by decide) (fun c13 => ?_) (fun c13 => ?_)
          · replace hk := hk.1 c13
            refine px_iconst (v := (1 : Int32)) C dX5_latestChild_144 rfl ?_
            refine px_goto (tgt := 149) C dX5_latestChild_145 (by decide) ?_
            exact PW_at (w5_latestChild_b149_ok C hRt hHR hnT hR12 hk) (And.intro rfl (And.intro rfl (And.intro rfl (And.intro rfl (And.intro rfl (And.intro rfl (And.intro rfl (And.intro rfl (And.intro rfl (And.intro rfl trivial)))))))))) (Nat.le_of_ble_eq_true rfl) (Nat.le_of_ble_eq_true rfl)
          · replace hk := hk.2 c13
            refine px_iload (i := 9) C dX5_latestChild_93 rfl ?_
            refine px_iload (i := 6) C dX5_latestChild_95 rfl ?_
            refine px_icmp_ne (tgt := 107) C dX5_latestChild_97 (by decide) (fun c12 => ?_) (fun c12 => ?_)
            · replace hk := hk.1 c12
              exact PW_at (w5_latestChild_b107_ok C hRt hHR hnT hR12 hk) (And.intro rfl (And.intro rfl (And.intro rfl (And.intro rfl (And.intro rfl (And.intro rfl (And.intro rfl (And.intro rfl (And.intro rfl (And.intro rfl trivial)))))))))) (Nat.le_of_ble_eq_true rfl) (Nat.le_of_ble_eq_true rfl)
            · replace hk := hk.2 c12
              refine px_iload (i := 8) C dX5_latestChild_100 rfl ?_
              refine px_iload (i := 5) C dX5_latestChild_102 rfl ?_
              refine px_icmp_lt (tgt := 144) C dX5_latestChild_104 (by decide) (fun c11 => ?_) (fun c11 => ?_)
              · replace hk := hk.1 c11
                refine px_iconst (v := (1 : Int32)) C dX5_latestChild_144 rfl ?_
                refine px_goto (tgt := 149) C dX5_latestChild_145 (by decide) ?_
                exact PW_at (w5_latestChild_b149_ok C hRt hHR hnT hR12 hk) (And.intro rfl (And.intro rfl (And.intro rfl (And.intro rfl (And.intro rfl (And.intro rfl (And.intro rfl (And.intro rfl (And.intro rfl (And.intro rfl trivial)))))))))) (Nat.le_of_ble_eq_true rfl) (Nat.le_of_ble_eq_true rfl)
              · replace hk := hk.2 c11
                exact PW_at (w5_latestChild_b107_ok C hRt hHR hnT hR12 hk) (And.intro rfl (And.intro rfl (And.intro rfl (And.intro rfl (And.intro rfl (And.intro rfl (And.intro rfl (And.intro rfl (And.intro rfl (And.intro rfl trivial)))))))))) (Nat.le_of_ble_eq_true rfl) (Nat.le_of_ble_eq_true rfl)
set_option maxRecDepth 100000 in
set_option maxHeartbeats 4000000 in
theorem w5_latestChild_ok {l : Launch} {idx : List (Nat × Nat)} {μ : Mem} {a1 : Int32} {a2 : Int32} {a3 : Int32} {P : Int32 → Mem → Prop} {X : String → Mem → Prop} (hl : l.stackTraces = false) (hI : IdxOK idx) (hk : w5_latestChild_wp μ a1 a2 a3 P) : PMet l yX5_latestChild (.code yX5_latestChild cX5_latestChild 11 (some .int)) 1 0 0 idx [pR 27 0, pI a1, pI a2, pI a3] μ (qI P) X := by
  refine PMet_of mv_X5_latestChild.2.2.2.2.2.2 hl hI mv_X5_latestChild.2.2.2.1 rfl (Nat.le_of_ble_eq_true rfl) (fun G _ _ C hRt hHR hnT => ?_)
  show PW G 0 0 0 [some (pR 27 0), some (pI a1), some (pI a2), some (pI a3), none, none, none, none, none, none, none] [] μ
  unfold w5_latestChild_wp at hk
  refine px_iconst (v := (-1 : Int32)) C dX5_latestChild_0 rfl ?_
  refine px_istore (i := 4) C dX5_latestChild_1 (by decide) rfl ?_
  refine px_iconst (v := (0 : Int32)) C dX5_latestChild_3 rfl ?_
  refine px_istore (i := 5) C dX5_latestChild_4 (by decide) rfl ?_
  refine px_iconst (v := (0 : Int32)) C dX5_latestChild_6 rfl ?_
  refine px_istore (i := 6) C dX5_latestChild_7 (by decide) rfl ?_
  refine px_iconst (v := (0 : Int32)) C dX5_latestChild_9 rfl ?_
  refine px_istore (i := 7) C dX5_latestChild_10 (by decide) rfl ?_
  exact PW_at (w5_latestChild_b12_ok C hRt hHR hnT hk) (And.intro rfl (And.intro rfl (And.intro rfl (And.intro rfl (And.intro rfl (And.intro rfl (And.intro rfl (And.intro rfl trivial)))))))) (Nat.le_of_ble_eq_true rfl) (Nat.le_of_ble_eq_true rfl)
theorem dX5_rowOf_0 : decode cX5_rowOf 0 = .ok (.aload_n 0, 1) := by decide +kernel
theorem dX5_rowOf_1 : decode cX5_rowOf 1 = .ok (.getfield 11, 3) := by decide +kernel
theorem dX5_rowOf_4 : decode cX5_rowOf 4 = .ok (.iconst 1, 1) := by decide +kernel
theorem dX5_rowOf_5 : decode cX5_rowOf 5 = .ok (.isub, 1) := by decide +kernel
theorem dX5_rowOf_6 : decode cX5_rowOf 6 = .ok (.iload_n 1, 1) := by decide +kernel
theorem dX5_rowOf_7 : decode cX5_rowOf 7 = .ok (.isub, 1) := by decide +kernel
theorem dX5_rowOf_8 : decode cX5_rowOf 8 = .ok (.ireturn, 1) := by decide +kernel
set_option maxRecDepth 100000 in
set_option maxHeartbeats 4000000 in
theorem w5_rowOf_ok {l : Launch} {idx : List (Nat × Nat)} {μ : Mem} {a1 : Int32} {P : Int32 → Mem → Prop} {X : String → Mem → Prop} (hl : l.stackTraces = false) (hI : IdxOK idx) (hk : w5_rowOf_wp μ a1 P) : PMet l yX5_rowOf (.code yX5_rowOf cX5_rowOf 2 (some .int)) 0 0 0 idx [pR 27 0, pI a1] μ (qI P) X := by
  refine PMet_of mv_X5_rowOf.2.2.2.2.2.2 hl hI mv_X5_rowOf.2.2.2.1 rfl (Nat.le_of_ble_eq_true rfl) (fun G _ _ C hRt hHR hnT => ?_)
  show PW G 0 0 0 [some (pR 27 0), some (pI a1)] [] μ
  unfold w5_rowOf_wp at hk
  refine px_aload_n (i := 0) C dX5_rowOf_0 rfl rfl ?_
  refine px_geti 1729 C dX5_rowOf_1 fl_RX5_11 rfl rfl rfl rfl ?_
  refine px_iconst (v := (1 : Int32)) C dX5_rowOf_4 rfl ?_
  refine px_isub C dX5_rowOf_5 ?_
  refine px_iload_n (i := 1) C dX5_rowOf_6 rfl rfl ?_
  refine px_isub C dX5_rowOf_7 ?_
  exact px_iret C hRt dX5_rowOf_8 rfl rfl hk
theorem dX5_timeOf_0 : decode cX5_timeOf 0 = .ok (.iconst 0, 1) := by decide +kernel
theorem dX5_timeOf_1 : decode cX5_timeOf 1 = .ok (.istore_n 2, 1) := by decide +kernel
theorem dX5_timeOf_2 : decode cX5_timeOf 2 = .ok (.iconst 0, 1) := by decide +kernel
theorem dX5_timeOf_3 : decode cX5_timeOf 3 = .ok (.istore_n 3, 1) := by decide +kernel
theorem dX5_timeOf_4 : decode cX5_timeOf 4 = .ok (.iload_n 3, 1) := by decide +kernel
theorem dX5_timeOf_5 : decode cX5_timeOf 5 = .ok (.aload_n 0, 1) := by decide +kernel
theorem dX5_timeOf_6 : decode cX5_timeOf 6 = .ok (.getfield 11, 3) := by decide +kernel
theorem dX5_timeOf_9 : decode cX5_timeOf 9 = .ok (.if_icmp .ge 35, 3) := by decide +kernel
theorem dX5_timeOf_12 : decode cX5_timeOf 12 = .ok (.aload_n 0, 1) := by decide +kernel
theorem dX5_timeOf_13 : decode cX5_timeOf 13 = .ok (.getfield 15, 3) := by decide +kernel
theorem dX5_timeOf_16 : decode cX5_timeOf 16 = .ok (.iload_n 3, 1) := by decide +kernel
theorem dX5_timeOf_17 : decode cX5_timeOf 17 = .ok (.iaload, 1) := by decide +kernel
theorem dX5_timeOf_18 : decode cX5_timeOf 18 = .ok (.iload_n 1, 1) := by decide +kernel
theorem dX5_timeOf_19 : decode cX5_timeOf 19 = .ok (.if_icmp .ne 19, 3) := by decide +kernel
theorem dX5_timeOf_22 : decode cX5_timeOf 22 = .ok (.iload_n 2, 1) := by decide +kernel
theorem dX5_timeOf_23 : decode cX5_timeOf 23 = .ok (.aload_n 0, 1) := by decide +kernel
theorem dX5_timeOf_24 : decode cX5_timeOf 24 = .ok (.getfield 22, 3) := by decide +kernel
theorem dX5_timeOf_27 : decode cX5_timeOf 27 = .ok (.iload_n 3, 1) := by decide +kernel
theorem dX5_timeOf_28 : decode cX5_timeOf 28 = .ok (.iaload, 1) := by decide +kernel
theorem dX5_timeOf_29 : decode cX5_timeOf 29 = .ok (.aload_n 0, 1) := by decide +kernel
theorem dX5_timeOf_30 : decode cX5_timeOf 30 = .ok (.getfield 19, 3) := by decide +kernel
theorem dX5_timeOf_33 : decode cX5_timeOf 33 = .ok (.iload_n 3, 1) := by decide +kernel
theorem dX5_timeOf_34 : decode cX5_timeOf 34 = .ok (.iaload, 1) := by decide +kernel
theorem dX5_timeOf_35 : decode cX5_timeOf 35 = .ok (.isub, 1) := by decide +kernel
theorem dX5_timeOf_36 : decode cX5_timeOf 36 = .ok (.iadd, 1) := by decide +kernel
theorem dX5_timeOf_37 : decode cX5_timeOf 37 = .ok (.istore_n 2, 1) := by decide +kernel
theorem dX5_timeOf_38 : decode cX5_timeOf 38 = .ok (.iinc 3 1, 3) := by decide +kernel
theorem dX5_timeOf_41 : decode cX5_timeOf 41 = .ok (.goto (-37), 3) := by decide +kernel
theorem dX5_timeOf_44 : decode cX5_timeOf 44 = .ok (.iload_n 2, 1) := by decide +kernel
theorem dX5_timeOf_45 : decode cX5_timeOf 45 = .ok (.ireturn, 1) := by decide +kernel
set_option maxRecDepth 100000 in
set_option maxHeartbeats 4000000 in
theorem w5_timeOf_b4_ok {G : GT} {P : Int32 → Mem → Prop} {X : String → Mem → Prop} (C : PCx G cX5_timeOf 4 RX5) (hRt : PRt G (some .int) (qI P) X) (hHR : HR G (0)) (hnT : NoT G) {μ : Mem} {l1 : Int32} {l2 : Int32} {l3 : Int32} (hk : w5_timeOf_b4 P μ l1 l2 l3) : PW G 0 0 4 [some (pR 27 0), some (pI l1), some (pI l2), some (pI l3)] [] μ := by
  refine hk (fun (μ : Mem) (l1 : Int32) (l2 : Int32) (l3 : Int32) => PW G 0 0 4 [some (pR 27 0), some (pI l1), some (pI l2), some (pI l3)] [] μ) (fun (μ : Mem) l1 l2 l3 hk => ?_)
  have hR4 : ∀ (μ : Mem) (l1 : Int32) (l2 : Int32) (l3 : Int32), PW G 0 0 4 [some (pR 27 0), some (pI l1), some (pI l2), some (pI l3)] [] μ → PW G 0 0 4 [some (pR 27 0), some (pI l1), some (pI l2), some (pI l3)] [] μ := fun _ _ _ _ h => h
  unfold w5_timeOf_b4_body at hk
  refine px_iload_n (i := 3) C dX5_timeOf_4 rfl rfl ?_
  refine px_aload_n (i := 0) C dX5_timeOf_5 rfl rfl ?_
  refine px_geti 1729 C dX5_timeOf_6 fl_RX5_11 rfl rfl rfl rfl ?_
  refine px_icmp_ge (tgt := 44) C dX5_timeOf_9 (by decide) (fun c5 => ?_) (fun c5 => ?_)
  · replace hk := hk.1 c5
    refine px_iload_n (i := 2) C dX5_timeOf_44 rfl rfl ?_
    exact px_iret C hRt dX5_timeOf_45 rfl rfl hk
  · replace hk := hk.2 c5
    refine px_aload_n (i := 0) C dX5_timeOf_12 rfl rfl ?_
    refine px_getr C dX5_timeOf_13 fl_RX5_15 rfl rfl rfl ?_
    refine px_iload_n (i := 3) C dX5_timeOf_16 rfl rfl ?_
    obtain ⟨o1, hk⟩ := hk
    refine px_iald 1792 C dX5_timeOf_17 rfl rfl rfl rfl o1 ?_
    refine px_iload_n (i := 1) C dX5_timeOf_18 rfl rfl ?_
    refine px_icmp_ne (tgt := 38) C dX5_timeOf_19 (by decide) (fun c4 => ?_) (fun c4 => ?_)
    · replace hk := hk.1 c4
      refine px_iinc (i := 3) (v := (1 : Int32)) C dX5_timeOf_38 rfl rfl (by decide) rfl ?_
      refine px_goto (tgt := 4) C dX5_timeOf_41 (by decide) ?_
      exact PW_at (hR4 _ _ _ _ hk) (And.intro rfl (And.intro rfl (And.intro rfl (And.intro rfl trivial)))) (Nat.le_of_ble_eq_true rfl) (Nat.le_of_ble_eq_true rfl)
    · replace hk := hk.2 c4
      refine px_iload_n (i := 2) C dX5_timeOf_22 rfl rfl ?_
      refine px_aload_n (i := 0) C dX5_timeOf_23 rfl rfl ?_
      refine px_getr C dX5_timeOf_24 fl_RX5_22 rfl rfl rfl ?_
      refine px_iload_n (i := 3) C dX5_timeOf_27 rfl rfl ?_
      obtain ⟨o2, hk⟩ := hk
      refine px_iald 1920 C dX5_timeOf_28 rfl rfl rfl rfl o2 ?_
      refine px_aload_n (i := 0) C dX5_timeOf_29 rfl rfl ?_
      refine px_getr C dX5_timeOf_30 fl_RX5_19 rfl rfl rfl ?_
      refine px_iload_n (i := 3) C dX5_timeOf_33 rfl rfl ?_
      obtain ⟨o3, hk⟩ := hk
      refine px_iald 1856 C dX5_timeOf_34 rfl rfl rfl rfl o3 ?_
      refine px_isub C dX5_timeOf_35 ?_
      refine px_iadd C dX5_timeOf_36 ?_
      refine px_istore_n (i := 2) C dX5_timeOf_37 rfl (by decide) rfl ?_
      refine px_iinc (i := 3) (v := (1 : Int32)) C dX5_timeOf_38 rfl rfl (by decide) rfl ?_
      refine px_goto (tgt := 4) C dX5_timeOf_41 (by decide) ?_
      exact PW_at (hR4 _ _ _ _ hk) (And.intro rfl (And.intro rfl (And.intro rfl (And.intro rfl trivial)))) (Nat.le_of_ble_eq_true rfl) (Nat.le_of_ble_eq_true rfl)
set_option maxRecDepth 100000 in
set_option maxHeartbeats 4000000 in
theorem w5_timeOf_ok {l : Launch} {idx : List (Nat × Nat)} {μ : Mem} {a1 : Int32} {P : Int32 → Mem → Prop} {X : String → Mem → Prop} (hl : l.stackTraces = false) (hI : IdxOK idx) (hk : w5_timeOf_wp μ a1 P) : PMet l yX5_timeOf (.code yX5_timeOf cX5_timeOf 4 (some .int)) 0 0 0 idx [pR 27 0, pI a1] μ (qI P) X := by
  refine PMet_of mv_X5_timeOf.2.2.2.2.2.2 hl hI mv_X5_timeOf.2.2.2.1 rfl (Nat.le_of_ble_eq_true rfl) (fun G _ _ C hRt hHR hnT => ?_)
  show PW G 0 0 0 [some (pR 27 0), some (pI a1), none, none] [] μ
  unfold w5_timeOf_wp at hk
  refine px_iconst (v := (0 : Int32)) C dX5_timeOf_0 rfl ?_
  refine px_istore_n (i := 2) C dX5_timeOf_1 rfl (by decide) rfl ?_
  refine px_iconst (v := (0 : Int32)) C dX5_timeOf_2 rfl ?_
  refine px_istore_n (i := 3) C dX5_timeOf_3 rfl (by decide) rfl ?_
  exact PW_at (w5_timeOf_b4_ok C hRt hHR hnT hk) (And.intro rfl (And.intro rfl (And.intro rfl (And.intro rfl trivial)))) (Nat.le_of_ble_eq_true rfl) (Nat.le_of_ble_eq_true rfl)
theorem dX5_nodeAt_0 : decode cX5_nodeAt 0 = .ok (.iconst 0, 1) := by decide +kernel
theorem dX5_nodeAt_1 : decode cX5_nodeAt 1 = .ok (.istore_n 2, 1) := by decide +kernel
theorem dX5_nodeAt_2 : decode cX5_nodeAt 2 = .ok (.iload_n 2, 1) := by decide +kernel
theorem dX5_nodeAt_3 : decode cX5_nodeAt 3 = .ok (.aload_n 0, 1) := by decide +kernel
theorem dX5_nodeAt_4 : decode cX5_nodeAt 4 = .ok (.getfield 11, 3) := by decide +kernel
theorem dX5_nodeAt_7 : decode cX5_nodeAt 7 = .ok (.if_icmp .ge 36, 3) := by decide +kernel
theorem dX5_nodeAt_10 : decode cX5_nodeAt 10 = .ok (.aload_n 0, 1) := by decide +kernel
theorem dX5_nodeAt_11 : decode cX5_nodeAt 11 = .ok (.getfield 19, 3) := by decide +kernel
theorem dX5_nodeAt_14 : decode cX5_nodeAt 14 = .ok (.iload_n 2, 1) := by decide +kernel
theorem dX5_nodeAt_15 : decode cX5_nodeAt 15 = .ok (.iaload, 1) := by decide +kernel
theorem dX5_nodeAt_16 : decode cX5_nodeAt 16 = .ok (.iload_n 1, 1) := by decide +kernel
theorem dX5_nodeAt_17 : decode cX5_nodeAt 17 = .ok (.if_icmp .gt 20, 3) := by decide +kernel
theorem dX5_nodeAt_20 : decode cX5_nodeAt 20 = .ok (.iload_n 1, 1) := by decide +kernel
theorem dX5_nodeAt_21 : decode cX5_nodeAt 21 = .ok (.aload_n 0, 1) := by decide +kernel
theorem dX5_nodeAt_22 : decode cX5_nodeAt 22 = .ok (.getfield 22, 3) := by decide +kernel
theorem dX5_nodeAt_25 : decode cX5_nodeAt 25 = .ok (.iload_n 2, 1) := by decide +kernel
theorem dX5_nodeAt_26 : decode cX5_nodeAt 26 = .ok (.iaload, 1) := by decide +kernel
theorem dX5_nodeAt_27 : decode cX5_nodeAt 27 = .ok (.if_icmp .ge 10, 3) := by decide +kernel
theorem dX5_nodeAt_30 : decode cX5_nodeAt 30 = .ok (.aload_n 0, 1) := by decide +kernel
theorem dX5_nodeAt_31 : decode cX5_nodeAt 31 = .ok (.getfield 15, 3) := by decide +kernel
theorem dX5_nodeAt_34 : decode cX5_nodeAt 34 = .ok (.iload_n 2, 1) := by decide +kernel
theorem dX5_nodeAt_35 : decode cX5_nodeAt 35 = .ok (.iaload, 1) := by decide +kernel
theorem dX5_nodeAt_36 : decode cX5_nodeAt 36 = .ok (.ireturn, 1) := by decide +kernel
theorem dX5_nodeAt_37 : decode cX5_nodeAt 37 = .ok (.iinc 2 1, 3) := by decide +kernel
theorem dX5_nodeAt_40 : decode cX5_nodeAt 40 = .ok (.goto (-38), 3) := by decide +kernel
theorem dX5_nodeAt_43 : decode cX5_nodeAt 43 = .ok (.iconst (-1), 1) := by decide +kernel
theorem dX5_nodeAt_44 : decode cX5_nodeAt 44 = .ok (.ireturn, 1) := by decide +kernel
set_option maxRecDepth 100000 in
set_option maxHeartbeats 4000000 in
theorem w5_nodeAt_b2_ok {G : GT} {P : Int32 → Mem → Prop} {X : String → Mem → Prop} (C : PCx G cX5_nodeAt 3 RX5) (hRt : PRt G (some .int) (qI P) X) (hHR : HR G (0)) (hnT : NoT G) {μ : Mem} {l1 : Int32} {l2 : Int32} (hk : w5_nodeAt_b2 P μ l1 l2) : PW G 0 0 2 [some (pR 27 0), some (pI l1), some (pI l2)] [] μ := by
  refine hk (fun (μ : Mem) (l1 : Int32) (l2 : Int32) => PW G 0 0 2 [some (pR 27 0), some (pI l1), some (pI l2)] [] μ) (fun (μ : Mem) l1 l2 hk => ?_)
  have hR2 : ∀ (μ : Mem) (l1 : Int32) (l2 : Int32), PW G 0 0 2 [some (pR 27 0), some (pI l1), some (pI l2)] [] μ → PW G 0 0 2 [some (pR 27 0), some (pI l1), some (pI l2)] [] μ := fun _ _ _ h => h
  unfold w5_nodeAt_b2_body at hk
  refine px_iload_n (i := 2) C dX5_nodeAt_2 rfl rfl ?_
  refine px_aload_n (i := 0) C dX5_nodeAt_3 rfl rfl ?_
  refine px_geti 1729 C dX5_nodeAt_4 fl_RX5_11 rfl rfl rfl rfl ?_
  refine px_icmp_ge (tgt := 43) C dX5_nodeAt_7 (by decide) (fun c6 => ?_) (fun c6 => ?_)
  · replace hk := hk.1 c6
    refine px_iconst (v := (-1 : Int32)) C dX5_nodeAt_43 rfl ?_
    exact px_iret C hRt dX5_nodeAt_44 rfl rfl hk
  · replace hk := hk.2 c6
    refine px_aload_n (i := 0) C dX5_nodeAt_10 rfl rfl ?_
    refine px_getr C dX5_nodeAt_11 fl_RX5_19 rfl rfl rfl ?_
    refine px_iload_n (i := 2) C dX5_nodeAt_14 rfl rfl ?_
    obtain ⟨o1, hk⟩ := hk
    refine px_iald 1856 C dX5_nodeAt_15 rfl rfl rfl rfl o1 ?_
    refine px_iload_n (i := 1) C dX5_nodeAt_16 rfl rfl ?_
    refine px_icmp_gt (tgt := 37) C dX5_nodeAt_17 (by decide) (fun c5 => ?_) (fun c5 => ?_)
    · replace hk := hk.1 c5
      refine px_iinc (i := 2) (v := (1 : Int32)) C dX5_nodeAt_37 rfl rfl (by decide) rfl ?_
      refine px_goto (tgt := 2) C dX5_nodeAt_40 (by decide) ?_
      exact PW_at (hR2 _ _ _ hk) (And.intro rfl (And.intro rfl (And.intro rfl trivial))) (Nat.le_of_ble_eq_true rfl) (Nat.le_of_ble_eq_true rfl)
    · replace hk := hk.2 c5
      refine px_iload_n (i := 1) C dX5_nodeAt_20 rfl rfl ?_
      refine px_aload_n (i := 0) C dX5_nodeAt_21 rfl rfl ?_
      refine px_getr C dX5_nodeAt_22 fl_RX5_22 rfl rfl rfl ?_
      refine px_iload_n (i := 2) C dX5_nodeAt_25 rfl rfl ?_
      obtain ⟨o2, hk⟩ := hk
      refine px_iald 1920 C dX5_nodeAt_26 rfl rfl rfl rfl o2 ?_
      refine px_icmp_ge (tgt := 37) C dX5_nodeAt_27 (by decide) (fun c4 => ?_) (fun c4 => ?_)
      · replace hk := hk.1 c4
        refine px_iinc (i := 2) (v := (1 : Int32)) C dX5_nodeAt_37 rfl rfl (by decide) rfl ?_
        refine px_goto (tgt := 2) C dX5_nodeAt_40 (by decide) ?_
        exact PW_at (hR2 _ _ _ hk) (And.intro rfl (And.intro rfl (And.intro rfl trivial))) (Nat.le_of_ble_eq_true rfl) (Nat.le_of_ble_eq_true rfl)
      · replace hk := hk.2 c4
        refine px_aload_n (i := 0) C dX5_nodeAt_30 rfl rfl ?_
        refine px_getr C dX5_nodeAt_31 fl_RX5_15 rfl rfl rfl ?_
        refine px_iload_n (i := 2) C dX5_nodeAt_34 rfl rfl ?_
        obtain ⟨o3, hk⟩ := hk
        refine px_iald 1792 C dX5_nodeAt_35 rfl rfl rfl rfl o3 ?_
        exact px_iret C hRt dX5_nodeAt_36 rfl rfl hk
set_option maxRecDepth 100000 in
set_option maxHeartbeats 4000000 in
theorem w5_nodeAt_ok {l : Launch} {idx : List (Nat × Nat)} {μ : Mem} {a1 : Int32} {P : Int32 → Mem → Prop} {X : String → Mem → Prop} (hl : l.stackTraces = false) (hI : IdxOK idx) (hk : w5_nodeAt_wp μ a1 P) : PMet l yX5_nodeAt (.code yX5_nodeAt cX5_nodeAt 3 (some .int)) 0 0 0 idx [pR 27 0, pI a1] μ (qI P) X := by
  refine PMet_of mv_X5_nodeAt.2.2.2.2.2.2 hl hI mv_X5_nodeAt.2.2.2.1 rfl (Nat.le_of_ble_eq_true rfl) (fun G _ _ C hRt hHR hnT => ?_)
  show PW G 0 0 0 [some (pR 27 0), some (pI a1), none] [] μ
  unfold w5_nodeAt_wp at hk
  refine px_iconst (v := (0 : Int32)) C dX5_nodeAt_0 rfl ?_
  refine px_istore_n (i := 2) C dX5_nodeAt_1 rfl (by decide) rfl ?_
  exact PW_at (w5_nodeAt_b2_ok C hRt hHR hnT hk) (And.intro rfl (And.intro rfl (And.intro rfl trivial))) (Nat.le_of_ble_eq_true rfl) (Nat.le_of_ble_eq_true rfl)
theorem dX7_empty_0 : decode cX7_empty 0 = .ok (.aload_n 0, 1) := by decide +kernel
theorem dX7_empty_1 : decode cX7_empty 1 = .ok (.iconst 0, 1) := by decide +kernel
theorem dX7_empty_2 : decode cX7_empty 2 = .ok (.putfield 9, 3) := by decide +kernel
theorem dX7_empty_5 : decode cX7_empty 5 = .ok (.aload_n 0, 1) := by decide +kernel
theorem dX7_empty_6 : decode cX7_empty 6 = .ok (.iconst 0, 1) := by decide +kernel
theorem dX7_empty_7 : decode cX7_empty 7 = .ok (.putfield 15, 3) := by decide +kernel
theorem dX7_empty_10 : decode cX7_empty 10 = .ok (.return_, 1) := by decide +kernel
set_option maxRecDepth 100000 in
set_option maxHeartbeats 4000000 in
theorem w7_empty_ok {l : Launch} {idx : List (Nat × Nat)} {μ : Mem} {k : Nat} {P : Mem → Prop} {X : String → Mem → Prop} (hl : l.stackTraces = false) (hI : IdxOK idx) (hk : w7_empty_wp μ k P) : PMet l yX7_empty (.code yX7_empty cX7_empty 1 none) 0 0 0 idx [pR 0 k] μ (qV P) X := by
  refine PMet_of mv_X7_empty.2.2.2.2.2.2 hl hI mv_X7_empty.2.2.2.1 rfl (Nat.le_of_ble_eq_true rfl) (fun G _ _ C hRt hHR hnT => ?_)
  show PW G 0 0 0 [some (pR 0 k)] [] μ
  unfold w7_empty_wp at hk
  refine px_aload_n (i := 0) C dX7_empty_0 rfl rfl ?_
  refine px_iconst (v := (0 : Int32)) C dX7_empty_1 rfl ?_
  replace hk := hk _ rfl
  refine px_puti 1 C dX7_empty_2 fp_RX7_9 rfl rfl rfl rfl rfl rfl ?_
  refine px_aload_n (i := 0) C dX7_empty_5 rfl rfl ?_
  refine px_iconst (v := (0 : Int32)) C dX7_empty_6 rfl ?_
  replace hk := hk _ rfl
  refine px_puti 2 C dX7_empty_7 fp_RX7_15 rfl rfl rfl rfl rfl rfl ?_
  exact px_vret C hRt dX7_empty_10 rfl hk
theorem dX7_hasLink_0 : decode cX7_hasLink 0 = .ok (.iconst 0, 1) := by decide +kernel
theorem dX7_hasLink_1 : decode cX7_hasLink 1 = .ok (.istore_n 3, 1) := by decide +kernel
theorem dX7_hasLink_2 : decode cX7_hasLink 2 = .ok (.iload_n 3, 1) := by decide +kernel
theorem dX7_hasLink_3 : decode cX7_hasLink 3 = .ok (.aload_n 0, 1) := by decide +kernel
theorem dX7_hasLink_4 : decode cX7_hasLink 4 = .ok (.getfield 15, 3) := by decide +kernel
theorem dX7_hasLink_7 : decode cX7_hasLink 7 = .ok (.if_icmp .ge 31, 3) := by decide +kernel
theorem dX7_hasLink_10 : decode cX7_hasLink 10 = .ok (.aload_n 0, 1) := by decide +kernel
theorem dX7_hasLink_11 : decode cX7_hasLink 11 = .ok (.getfield 41, 3) := by decide +kernel
theorem dX7_hasLink_14 : decode cX7_hasLink 14 = .ok (.iload_n 3, 1) := by decide +kernel
theorem dX7_hasLink_15 : decode cX7_hasLink 15 = .ok (.iaload, 1) := by decide +kernel
theorem dX7_hasLink_16 : decode cX7_hasLink 16 = .ok (.iload_n 1, 1) := by decide +kernel
theorem dX7_hasLink_17 : decode cX7_hasLink 17 = .ok (.if_icmp .ne 15, 3) := by decide +kernel
theorem dX7_hasLink_20 : decode cX7_hasLink 20 = .ok (.aload_n 0, 1) := by decide +kernel
theorem dX7_hasLink_21 : decode cX7_hasLink 21 = .ok (.getfield 44, 3) := by decide +kernel
theorem dX7_hasLink_24 : decode cX7_hasLink 24 = .ok (.iload_n 3, 1) := by decide +kernel
theorem dX7_hasLink_25 : decode cX7_hasLink 25 = .ok (.iaload, 1) := by decide +kernel
theorem dX7_hasLink_26 : decode cX7_hasLink 26 = .ok (.iload_n 2, 1) := by decide +kernel
theorem dX7_hasLink_27 : decode cX7_hasLink 27 = .ok (.if_icmp .ne 5, 3) := by decide +kernel
theorem dX7_hasLink_30 : decode cX7_hasLink 30 = .ok (.iconst 1, 1) := by decide +kernel
theorem dX7_hasLink_31 : decode cX7_hasLink 31 = .ok (.ireturn, 1) := by decide +kernel
theorem dX7_hasLink_32 : decode cX7_hasLink 32 = .ok (.iinc 3 1, 3) := by decide +kernel
theorem dX7_hasLink_35 : decode cX7_hasLink 35 = .ok (.goto (-33), 3) := by decide +kernel
theorem dX7_hasLink_38 : decode cX7_hasLink 38 = .ok (.iconst 0, 1) := by decide +kernel
theorem dX7_hasLink_39 : decode cX7_hasLink 39 = .ok (.ireturn, 1) := by decide +kernel
set_option maxRecDepth 100000 in
set_option maxHeartbeats 4000000 in
theorem w7_hasLink_b2_ok {G : GT} {k : Nat} {P : Int32 → Mem → Prop} {X : String → Mem → Prop} (C : PCx G cX7_hasLink 4 RX7) (hRt : PRt G (some .boolean) (qI P) X) (hHR : HR G (0)) (hnT : NoT G) {μ : Mem} {l1 : Int32} {l2 : Int32} {l3 : Int32} (hk : w7_hasLink_b2 k P μ l1 l2 l3) : PW G 0 0 2 [some (pR 0 k), some (pI l1), some (pI l2), some (pI l3)] [] μ := by
  refine hk (fun (μ : Mem) (l1 : Int32) (l2 : Int32) (l3 : Int32) => PW G 0 0 2 [some (pR 0 k), some (pI l1), some (pI l2), some (pI l3)] [] μ) (fun (μ : Mem) l1 l2 l3 hk => ?_)
  have hR2 : ∀ (μ : Mem) (l1 : Int32) (l2 : Int32) (l3 : Int32), PW G 0 0 2 [some (pR 0 k), some (pI l1), some (pI l2), some (pI l3)] [] μ → PW G 0 0 2 [some (pR 0 k), some (pI l1), some (pI l2), some (pI l3)] [] μ := fun _ _ _ _ h => h
  unfold w7_hasLink_b2_body at hk
  refine px_iload_n (i := 3) C dX7_hasLink_2 rfl rfl ?_
  refine px_aload_n (i := 0) C dX7_hasLink_3 rfl rfl ?_
  refine px_geti 2 C dX7_hasLink_4 fl_RX7_15 rfl rfl rfl rfl ?_
  refine px_icmp_ge (tgt := 38) C dX7_hasLink_7 (by decide) (fun c5 => ?_) (fun c5 => ?_)
  · replace hk := hk.1 c5
    refine px_iconst (v := (0 : Int32)) C dX7_hasLink_38 rfl ?_
    exact px_iret C hRt dX7_hasLink_39 rfl rfl hk
  · replace hk := hk.2 c5
    refine px_aload_n (i := 0) C dX7_hasLink_10 rfl rfl ?_
    refine px_getr C dX7_hasLink_11 fl_RX7_41 rfl rfl rfl ?_
    refine px_iload_n (i := 3) C dX7_hasLink_14 rfl rfl ?_
    obtain ⟨o1, hk⟩ := hk
    refine px_iald 512 C dX7_hasLink_15 rfl rfl rfl rfl o1 ?_
    refine px_iload_n (i := 1) C dX7_hasLink_16 rfl rfl ?_
    refine px_icmp_ne (tgt := 32) C dX7_hasLink_17 (by decide) (fun c4 => ?_) (fun c4 => ?_)
    · replace hk := hk.1 c4
      refine px_iinc (i := 3) (v := (1 : Int32)) C dX7_hasLink_32 rfl rfl (by decide) rfl ?_
      refine px_goto (tgt := 2) C dX7_hasLink_35 (by decide) ?_
      exact PW_at (hR2 _ _ _ _ hk) (And.intro rfl (And.intro rfl (And.intro rfl (And.intro rfl trivial)))) (Nat.le_of_ble_eq_true rfl) (Nat.le_of_ble_eq_true rfl)
    · replace hk := hk.2 c4
      refine px_aload_n (i := 0) C dX7_hasLink_20 rfl rfl ?_
      refine px_getr C dX7_hasLink_21 fl_RX7_44 rfl rfl rfl ?_
      refine px_iload_n (i := 3) C dX7_hasLink_24 rfl rfl ?_
      obtain ⟨o2, hk⟩ := hk
      refine px_iald 576 C dX7_hasLink_25 rfl rfl rfl rfl o2 ?_
      refine px_iload_n (i := 2) C dX7_hasLink_26 rfl rfl ?_
      refine px_icmp_ne (tgt := 32) C dX7_hasLink_27 (by decide) (fun c3 => ?_) (fun c3 => ?_)
      · replace hk := hk.1 c3
        refine px_iinc (i := 3) (v := (1 : Int32)) C dX7_hasLink_32 rfl rfl (by decide) rfl ?_
        refine px_goto (tgt := 2) C dX7_hasLink_35 (by decide) ?_
        exact PW_at (hR2 _ _ _ _ hk) (And.intro rfl (And.intro rfl (And.intro rfl (And.intro rfl trivial)))) (Nat.le_of_ble_eq_true rfl) (Nat.le_of_ble_eq_true rfl)
      · replace hk := hk.2 c3
        refine px_iconst (v := (1 : Int32)) C dX7_hasLink_30 rfl ?_
        exact px_iret C hRt dX7_hasLink_31 rfl rfl hk
set_option maxRecDepth 100000 in
set_option maxHeartbeats 4000000 in
theorem w7_hasLink_ok {l : Launch} {idx : List (Nat × Nat)} {μ : Mem} {k : Nat} {a1 : Int32} {a2 : Int32} {P : Int32 → Mem → Prop} {X : String → Mem → Prop} (hl : l.stackTraces = false) (hI : IdxOK idx) (hk : w7_hasLink_wp μ k a1 a2 P) : PMet l yX7_hasLink (.code yX7_hasLink cX7_hasLink 4 (some .boolean)) 0 0 0 idx [pR 0 k, pI a1, pI a2] μ (qI P) X := by
  refine PMet_of mv_X7_hasLink.2.2.2.2.2.2 hl hI mv_X7_hasLink.2.2.2.1 rfl (Nat.le_of_ble_eq_true rfl) (fun G _ _ C hRt hHR hnT => ?_)
  show PW G 0 0 0 [some (pR 0 k), some (pI a1), some (pI a2), none] [] μ
  unfold w7_hasLink_wp at hk
  refine px_iconst (v := (0 : Int32)) C dX7_hasLink_0 rfl ?_
  refine px_istore_n (i := 3) C dX7_hasLink_1 rfl (by decide) rfl ?_
  exact PW_at (w7_hasLink_b2_ok C hRt hHR hnT hk) (And.intro rfl (And.intro rfl (And.intro rfl (And.intro rfl trivial)))) (Nat.le_of_ble_eq_true rfl) (Nat.le_of_ble_eq_true rfl)
theorem dX7_find_0 : decode cX7_find 0 = .ok (.iconst 0, 1) := by decide +kernel
theorem dX7_find_1 : decode cX7_find 1 = .ok (.istore_n 2, 1) := by decide +kernel
theorem dX7_find_2 : decode cX7_find 2 = .ok (.iload_n 2, 1) := by decide +kernel
theorem dX7_find_3 : decode cX7_find 3 = .ok (.aload_n 0, 1) := by decide +kernel
theorem dX7_find_4 : decode cX7_find 4 = .ok (.getfield 9, 3) := by decide +kernel
theorem dX7_find_7 : decode cX7_find 7 = .ok (.if_icmp .ge 21, 3) := by decide +kernel
theorem dX7_find_10 : decode cX7_find 10 = .ok (.aload_n 0, 1) := by decide +kernel
theorem dX7_find_11 : decode cX7_find 11 = .ok (.getfield 22, 3) := by decide +kernel
theorem dX7_find_14 : decode cX7_find 14 = .ok (.iload_n 2, 1) := by decide +kernel
theorem dX7_find_15 : decode cX7_find 15 = .ok (.iaload, 1) := by decide +kernel
theorem dX7_find_16 : decode cX7_find 16 = .ok (.iload_n 1, 1) := by decide +kernel
theorem dX7_find_17 : decode cX7_find 17 = .ok (.if_icmp .ne 5, 3) := by decide +kernel
theorem dX7_find_20 : decode cX7_find 20 = .ok (.iload_n 2, 1) := by decide +kernel
theorem dX7_find_21 : decode cX7_find 21 = .ok (.ireturn, 1) := by decide +kernel
theorem dX7_find_22 : decode cX7_find 22 = .ok (.iinc 2 1, 3) := by decide +kernel
theorem dX7_find_25 : decode cX7_find 25 = .ok (.goto (-23), 3) := by decide +kernel
theorem dX7_find_28 : decode cX7_find 28 = .ok (.iconst (-1), 1) := by decide +kernel
theorem dX7_find_29 : decode cX7_find 29 = .ok (.ireturn, 1) := by decide +kernel
set_option maxRecDepth 100000 in
set_option maxHeartbeats 4000000 in
theorem w7_find_b2_ok {G : GT} {k : Nat} {P : Int32 → Mem → Prop} {X : String → Mem → Prop} (C : PCx G cX7_find 3 RX7) (hRt : PRt G (some .int) (qI P) X) (hHR : HR G (0)) (hnT : NoT G) {μ : Mem} {l1 : Int32} {l2 : Int32} (hk : w7_find_b2 k P μ l1 l2) : PW G 0 0 2 [some (pR 0 k), some (pI l1), some (pI l2)] [] μ := by
  refine hk (fun (μ : Mem) (l1 : Int32) (l2 : Int32) => PW G 0 0 2 [some (pR 0 k), some (pI l1), some (pI l2)] [] μ) (fun (μ : Mem) l1 l2 hk => ?_)
  have hR2 : ∀ (μ : Mem) (l1 : Int32) (l2 : Int32), PW G 0 0 2 [some (pR 0 k), some (pI l1), some (pI l2)] [] μ → PW G 0 0 2 [some (pR 0 k), some (pI l1), some (pI l2)] [] μ := fun _ _ _ h => h
  unfold w7_find_b2_body at hk
  refine px_iload_n (i := 2) C dX7_find_2 rfl rfl ?_
  refine px_aload_n (i := 0) C dX7_find_3 rfl rfl ?_
  refine px_geti 1 C dX7_find_4 fl_RX7_9 rfl rfl rfl rfl ?_
  refine px_icmp_ge (tgt := 28) C dX7_find_7 (by decide) (fun c3 => ?_) (fun c3 => ?_)
  · replace hk := hk.1 c3
    refine px_iconst (v := (-1 : Int32)) C dX7_find_28 rfl ?_
    exact px_iret C hRt dX7_find_29 rfl rfl hk
  · replace hk := hk.2 c3
    refine px_aload_n (i := 0) C dX7_find_10 rfl rfl ?_
    refine px_getr C dX7_find_11 fl_RX7_22 rfl rfl rfl ?_
    refine px_iload_n (i := 2) C dX7_find_14 rfl rfl ?_
    obtain ⟨o1, hk⟩ := hk
    refine px_iald 128 C dX7_find_15 rfl rfl rfl rfl o1 ?_
    refine px_iload_n (i := 1) C dX7_find_16 rfl rfl ?_
    refine px_icmp_ne (tgt := 22) C dX7_find_17 (by decide) (fun c2 => ?_) (fun c2 => ?_)
    · replace hk := hk.1 c2
      refine px_iinc (i := 2) (v := (1 : Int32)) C dX7_find_22 rfl rfl (by decide) rfl ?_
      refine px_goto (tgt := 2) C dX7_find_25 (by decide) ?_
      exact PW_at (hR2 _ _ _ hk) (And.intro rfl (And.intro rfl (And.intro rfl trivial))) (Nat.le_of_ble_eq_true rfl) (Nat.le_of_ble_eq_true rfl)
    · replace hk := hk.2 c2
      refine px_iload_n (i := 2) C dX7_find_20 rfl rfl ?_
      exact px_iret C hRt dX7_find_21 rfl rfl hk
set_option maxRecDepth 100000 in
set_option maxHeartbeats 4000000 in
theorem w7_find_ok {l : Launch} {idx : List (Nat × Nat)} {μ : Mem} {k : Nat} {a1 : Int32} {P : Int32 → Mem → Prop} {X : String → Mem → Prop} (hl : l.stackTraces = false) (hI : IdxOK idx) (hk : w7_find_wp μ k a1 P) : PMet l yX7_find (.code yX7_find cX7_find 3 (some .int)) 0 0 0 idx [pR 0 k, pI a1] μ (qI P) X := by
  refine PMet_of mv_X7_find.2.2.2.2.2.2 hl hI mv_X7_find.2.2.2.1 rfl (Nat.le_of_ble_eq_true rfl) (fun G _ _ C hRt hHR hnT => ?_)
  show PW G 0 0 0 [some (pR 0 k), some (pI a1), none] [] μ
  unfold w7_find_wp at hk
  refine px_iconst (v := (0 : Int32)) C dX7_find_0 rfl ?_
  refine px_istore_n (i := 2) C dX7_find_1 rfl (by decide) rfl ?_
  exact PW_at (w7_find_b2_ok C hRt hHR hnT hk) (And.intro rfl (And.intro rfl (And.intro rfl trivial))) (Nat.le_of_ble_eq_true rfl) (Nat.le_of_ble_eq_true rfl)
theorem dX7_presentParent_0 : decode cX7_presentParent 0 = .ok (.aload_n 0, 1) := by decide +kernel
theorem dX7_presentParent_1 : decode cX7_presentParent 1 = .ok (.aload_n 0, 1) := by decide +kernel
theorem dX7_presentParent_2 : decode cX7_presentParent 2 = .ok (.getfield 25, 3) := by decide +kernel
theorem dX7_presentParent_5 : decode cX7_presentParent 5 = .ok (.iload_n 1, 1) := by decide +kernel
theorem dX7_presentParent_6 : decode cX7_presentParent 6 = .ok (.iaload, 1) := by decide +kernel
theorem dX7_presentParent_7 : decode cX7_presentParent 7 = .ok (.invokevirtual 67, 3) := by decide +kernel
theorem dX7_presentParent_10 : decode cX7_presentParent 10 = .ok (.istore_n 2, 1) := by decide +kernel
theorem dX7_presentParent_11 : decode cX7_presentParent 11 = .ok (.iload_n 2, 1) := by decide +kernel
theorem dX7_presentParent_12 : decode cX7_presentParent 12 = .ok (.iconst (-1), 1) := by decide +kernel
theorem dX7_presentParent_13 : decode cX7_presentParent 13 = .ok (.if_icmp .eq 23, 3) := by decide +kernel
theorem dX7_presentParent_16 : decode cX7_presentParent 16 = .ok (.iload_n 2, 1) := by decide +kernel
theorem dX7_presentParent_17 : decode cX7_presentParent 17 = .ok (.iload_n 1, 1) := by decide +kernel
theorem dX7_presentParent_18 : decode cX7_presentParent 18 = .ok (.if_icmp .eq 18, 3) := by decide +kernel
theorem dX7_presentParent_21 : decode cX7_presentParent 21 = .ok (.aload_n 0, 1) := by decide +kernel
theorem dX7_presentParent_22 : decode cX7_presentParent 22 = .ok (.getfield 18, 3) := by decide +kernel
theorem dX7_presentParent_25 : decode cX7_presentParent 25 = .ok (.iload_n 2, 1) := by decide +kernel
theorem dX7_presentParent_26 : decode cX7_presentParent 26 = .ok (.iaload, 1) := by decide +kernel
theorem dX7_presentParent_27 : decode cX7_presentParent 27 = .ok (.aload_n 0, 1) := by decide +kernel
theorem dX7_presentParent_28 : decode cX7_presentParent 28 = .ok (.getfield 18, 3) := by decide +kernel
theorem dX7_presentParent_31 : decode cX7_presentParent 31 = .ok (.iload_n 1, 1) := by decide +kernel
theorem dX7_presentParent_32 : decode cX7_presentParent 32 = .ok (.iaload, 1) := by decide +kernel
theorem dX7_presentParent_33 : decode cX7_presentParent 33 = .ok (.if_icmp .eq 5, 3) := by decide +kernel
theorem dX7_presentParent_36 : decode cX7_presentParent 36 = .ok (.iconst (-1), 1) := by decide +kernel
theorem dX7_presentParent_37 : decode cX7_presentParent 37 = .ok (.ireturn, 1) := by decide +kernel
theorem dX7_presentParent_38 : decode cX7_presentParent 38 = .ok (.iload_n 2, 1) := by decide +kernel
theorem dX7_presentParent_39 : decode cX7_presentParent 39 = .ok (.ireturn, 1) := by decide +kernel
set_option maxRecDepth 100000 in
set_option maxHeartbeats 4000000 in
theorem w7_presentParent_ok {l : Launch} {idx : List (Nat × Nat)} {μ : Mem} {k : Nat} {a1 : Int32} {P : Int32 → Mem → Prop} {X : String → Mem → Prop} (hl : l.stackTraces = false) (hI : IdxOK idx) (hk : w7_presentParent_wp μ k a1 P) : PMet l yX7_presentParent (.code yX7_presentParent cX7_presentParent 3 (some .int)) 1 0 0 idx [pR 0 k, pI a1] μ (qI P) X := by
  refine PMet_of mv_X7_presentParent.2.2.2.2.2.2 hl hI mv_X7_presentParent.2.2.2.1 rfl (Nat.le_of_ble_eq_true rfl) (fun G _ _ C hRt hHR hnT => ?_)
  show PW G 0 0 0 [some (pR 0 k), some (pI a1), none] [] μ
  unfold w7_presentParent_wp at hk
  refine px_aload_n (i := 0) C dX7_presentParent_0 rfl rfl ?_
  refine px_aload_n (i := 0) C dX7_presentParent_1 rfl rfl ?_
  refine px_getr C dX7_presentParent_2 fl_RX7_25 rfl rfl rfl ?_
  refine px_iload_n (i := 1) C dX7_presentParent_5 rfl rfl ?_
  obtain ⟨o1, hk⟩ := hk
  refine px_iald 192 C dX7_presentParent_6 rfl rfl rfl rfl o1 ?_
  refine px_callVi (h := 0) (rc' := 0) (rs' := 0) C (HR_le hHR (Nat.le_of_ble_eq_true rfl)) hRt hnT dX7_presentParent_7 (gw2 182 rfl rfl) mv_X7_find (w7_find_ok (PCx_l C) (PCx_I C) hk) rfl rfl rfl rfl rfl (Nat.le_of_ble_eq_true rfl) (Nat.le_of_ble_eq_true rfl) (Nat.le_of_ble_eq_true rfl) (Nat.le_of_ble_eq_true rfl) ?_
  intro r3 μ2 hk
  refine px_istore_n (i := 2) C dX7_presentParent_10 rfl (by decide) rfl ?_
  refine px_iload_n (i := 2) C dX7_presentParent_11 rfl rfl ?_
  refine px_iconst (v := (-1 : Int32)) C dX7_presentParent_12 rfl ?_
  refine px_icmp_eq (tgt := 36) C dX7_presentParent_13 (by decide) (fun c8 => ?_) (fun c8 => ?_)
  · replace hk := hk.1 c8
    refine px_iconst (v := (-1 : Int32)) C dX7_presentParent_36 rfl ?_
    exact px_iret C hRt dX7_presentParent_37 rfl rfl hk
  · replace hk := hk.2 c8
    refine px_iload_n (i := 2) C dX7_presentParent_16 rfl rfl ?_
    refine px_iload_n (i := 1) C dX7_presentParent_17 rfl rfl ?_
    refine px_icmp_eq (tgt := 36) C dX7_presentParent_18 (by decide) (fun c7 => ?_) (fun c7 => ?_)
    · replace hk := hk.1 c7
      refine px_iconst (v := (-1 : Int32)) C dX7_presentParent_36 rfl ?_
      exact px_iret C hRt dX7_presentParent_37 rfl rfl hk
    · replace hk := hk.2 c7
      refine px_aload_n (i := 0) C dX7_presentParent_21 rfl rfl ?_
      refine px_getr C dX7_presentParent_22 fl_RX7_18 rfl rfl rfl ?_
      refine px_iload_n (i := 2) C dX7_presentParent_25 rfl rfl ?_
      obtain ⟨o4, hk⟩ := hk
      refine px_iald 64 C dX7_presentParent_26 rfl rfl rfl rfl o4 ?_
      refine px_aload_n (i := 0) C dX7_presentParent_27 rfl rfl ?_
      refine px_getr C dX7_presentParent_28 fl_RX7_18 rfl rfl rfl ?_
      refine px_iload_n (i := 1) C dX7_presentParent_31 rfl rfl ?_
      obtain ⟨o5, hk⟩ := hk
      refine px_iald 64 C dX7_presentParent_32 rfl rfl rfl rfl o5 ?_
      refine px_icmp_eq (tgt := 38) C dX7_presentParent_33 (by decide) (fun c6 => ?_) (fun c6 => ?_)
      · replace hk := hk.1 c6
        refine px_iload_n (i := 2) C dX7_presentParent_38 rfl rfl ?_
        exact px_iret C hRt dX7_presentParent_39 rfl rfl hk
      · replace hk := hk.2 c6
        refine px_iconst (v := (-1 : Int32)) C dX7_presentParent_36 rfl ?_
        exact px_iret C hRt dX7_presentParent_37 rfl rfl hk
