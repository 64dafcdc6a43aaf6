theorem dX9_root_0 : decode cX9_root 0 = .ok (.aload_n 0, 1) := by decide +kernel
theorem dX9_root_1 : decode cX9_root 1 = .ok (.iload_n 1, 1) := by decide +kernel
theorem dX9_root_2 : decode cX9_root 2 = .ok (.invokevirtual 216, 3) := by decide +kernel
theorem dX9_root_5 : decode cX9_root 5 = .ok (.istore_n 2, 1) := by decide +kernel
theorem dX9_root_6 : decode cX9_root 6 = .ok (.aload_n 0, 1) := by decide +kernel
theorem dX9_root_7 : decode cX9_root 7 = .ok (.getfield 80, 3) := by decide +kernel
theorem dX9_root_10 : decode cX9_root 10 = .ok (.ifCond .le 5, 3) := by decide +kernel
theorem dX9_root_13 : decode cX9_root 13 = .ok (.iconst 0, 1) := by decide +kernel
theorem dX9_root_14 : decode cX9_root 14 = .ok (.ireturn, 1) := by decide +kernel
theorem dX9_root_15 : decode cX9_root 15 = .ok (.aload_n 0, 1) := by decide +kernel
theorem dX9_root_16 : decode cX9_root 16 = .ok (.invokevirtual 137, 3) := by decide +kernel
theorem dX9_root_19 : decode cX9_root 19 = .ok (.aload_n 0, 1) := by decide +kernel
theorem dX9_root_20 : decode cX9_root 20 = .ok (.aload_n 0, 1) := by decide +kernel
theorem dX9_root_21 : decode cX9_root 21 = .ok (.iload_n 2, 1) := by decide +kernel
theorem dX9_root_22 : decode cX9_root 22 = .ok (.invokevirtual 179, 3) := by decide +kernel
theorem dX9_root_25 : decode cX9_root 25 = .ok (.invokevirtual 225, 3) := by decide +kernel
theorem dX9_root_28 : decode cX9_root 28 = .ok (.ireturn, 1) := by decide +kernel
set_option maxRecDepth 100000 in
set_option maxHeartbeats 4000000 in
theorem w9_root_ok {l : Launch} {idx : List (Nat × Nat)} {μ : Mem} {a1 : Int32} {P : Int32 → Mem → Prop} {X : String → Mem → Prop} (hl : l.stackTraces = false) (hI : IdxOK idx) (hk : w9_root_wp μ a1 P) : PMet l yX9_root (.code yX9_root cX9_root 3 (some .int)) 6 0 0 idx [pR 50 0, pI a1] μ (qI P) X := by
  refine PMet_of mv_X9_root.2.2.2.2.2.2 hl hI mv_X9_root.2.2.2.1 rfl (Nat.le_of_ble_eq_true rfl) (fun G _ _ C hRt hHR hnT => ?_)
  show PW G 0 0 0 [some (pR 50 0), some (pI a1), none] [] μ
  unfold w9_root_wp at hk
  refine px_aload_n (i := 0) C dX9_root_0 rfl rfl ?_
  refine px_iload_n (i := 1) C dX9_root_1 rfl rfl ?_
  refine px_callVi (h := 2) (rc' := 0) (rs' := 0) C (HR_le hHR (Nat.le_of_ble_eq_true rfl)) hRt hnT dX9_root_2 (gw8 176 rfl rfl) mv_X9_spanOr (w9_spanOr_ok (PCx_l C) (PCx_I C) hk) rfl rfl rfl rfl rfl (Nat.le_of_ble_eq_true rfl) (Nat.le_of_ble_eq_true rfl) (Nat.le_of_ble_eq_true rfl) (Nat.le_of_ble_eq_true rfl) ?_
  intro r2 μ1 hk
  refine px_istore_n (i := 2) C dX9_root_5 rfl (by decide) rfl ?_
  refine px_aload_n (i := 0) C dX9_root_6 rfl rfl ?_
  refine px_geti 3201 C dX9_root_7 fl_RX9_80 rfl rfl rfl rfl ?_
  refine px_if_le (tgt := 15) C dX9_root_10 (by decide) (fun c8 => ?_) (fun c8 => ?_)
  · replace hk := hk.1 c8
    refine px_aload_n (i := 0) C dX9_root_15 rfl rfl ?_
    refine px_callVv (h := 5) (rc' := 0) (rs' := 0) C (HR_le hHR (Nat.le_of_ble_eq_true rfl)) hRt hnT dX9_root_16 (gw8 208 rfl rfl) mv_X9_knows (w9_knows_ok (PCx_l C) (PCx_I C) hk) rfl rfl rfl rfl rfl (Nat.le_of_ble_eq_true rfl) (Nat.le_of_ble_eq_true rfl) (Nat.le_of_ble_eq_true rfl) (Nat.le_of_ble_eq_true rfl) ?_
    intro μ3 hk
    refine px_aload_n (i := 0) C dX9_root_19 rfl rfl ?_
    refine px_aload_n (i := 0) C dX9_root_20 rfl rfl ?_
    refine px_iload_n (i := 2) C dX9_root_21 rfl rfl ?_
    refine px_callVi (h := 0) (rc' := 0) (rs' := 0) C (HR_le hHR (Nat.le_of_ble_eq_true rfl)) hRt hnT dX9_root_22 (gw9 42 rfl rfl) mv_X9_rootOf (w9_rootOf_ok (PCx_l C) (PCx_I C) hk) rfl rfl rfl rfl rfl (Nat.le_of_ble_eq_true rfl) (Nat.le_of_ble_eq_true rfl) (Nat.le_of_ble_eq_true rfl) (Nat.le_of_ble_eq_true rfl) ?_
    intro r5 μ4 hk
    refine px_callVi (h := 1) (rc' := 0) (rs' := 0) C (HR_le hHR (Nat.le_of_ble_eq_true rfl)) hRt hnT dX9_root_25 (gw9 46 rfl rfl) mv_X9_number (w9_number_ok (PCx_l C) (PCx_I C) hk) rfl rfl rfl rfl rfl (Nat.le_of_ble_eq_true rfl) (Nat.le_of_ble_eq_true rfl) (Nat.le_of_ble_eq_true rfl) (Nat.le_of_ble_eq_true rfl) ?_
    intro r7 μ6 hk
    exact px_iret C hRt dX9_root_28 rfl rfl hk
  · replace hk := hk.2 c8
    refine px_iconst (v := (0 : Int32)) C dX9_root_13 rfl ?_
    exact px_iret C hRt dX9_root_14 rfl rfl hk
theorem dX9_depth_0 : decode cX9_depth 0 = .ok (.aload_n 0, 1) := by decide +kernel
theorem dX9_depth_1 : decode cX9_depth 1 = .ok (.iload_n 1, 1) := by decide +kernel
theorem dX9_depth_2 : decode cX9_depth 2 = .ok (.invokevirtual 216, 3) := by decide +kernel
theorem dX9_depth_5 : decode cX9_depth 5 = .ok (.istore_n 2, 1) := by decide +kernel
theorem dX9_depth_6 : decode cX9_depth 6 = .ok (.aload_n 0, 1) := by decide +kernel
theorem dX9_depth_7 : decode cX9_depth 7 = .ok (.getfield 80, 3) := by decide +kernel
theorem dX9_depth_10 : decode cX9_depth 10 = .ok (.ifCond .le 5, 3) := by decide +kernel
theorem dX9_depth_13 : decode cX9_depth 13 = .ok (.iconst 0, 1) := by decide +kernel
theorem dX9_depth_14 : decode cX9_depth 14 = .ok (.ireturn, 1) := by decide +kernel
theorem dX9_depth_15 : decode cX9_depth 15 = .ok (.aload_n 0, 1) := by decide +kernel
theorem dX9_depth_16 : decode cX9_depth 16 = .ok (.invokevirtual 137, 3) := by decide +kernel
theorem dX9_depth_19 : decode cX9_depth 19 = .ok (.aload_n 0, 1) := by decide +kernel
theorem dX9_depth_20 : decode cX9_depth 20 = .ok (.iload_n 2, 1) := by decide +kernel
theorem dX9_depth_21 : decode cX9_depth 21 = .ok (.invokevirtual 228, 3) := by decide +kernel
theorem dX9_depth_24 : decode cX9_depth 24 = .ok (.ireturn, 1) := by decide +kernel
set_option maxRecDepth 100000 in
set_option maxHeartbeats 4000000 in
theorem w9_depth_ok {l : Launch} {idx : List (Nat × Nat)} {μ : Mem} {a1 : Int32} {P : Int32 → Mem → Prop} {X : String → Mem → Prop} (hl : l.stackTraces = false) (hI : IdxOK idx) (hk : w9_depth_wp μ a1 P) : PMet l yX9_depth (.code yX9_depth cX9_depth 3 (some .int)) 6 0 0 idx [pR 50 0, pI a1] μ (qI P) X := by
  refine PMet_of mv_X9_depth.2.2.2.2.2.2 hl hI mv_X9_depth.2.2.2.1 rfl (Nat.le_of_ble_eq_true rfl) (fun G _ _ C hRt hHR hnT => ?_)
  show PW G 0 0 0 [some (pR 50 0), some (pI a1), none] [] μ
  unfold w9_depth_wp at hk
  refine px_aload_n (i := 0) C dX9_depth_0 rfl rfl ?_
  refine px_iload_n (i := 1) C dX9_depth_1 rfl rfl ?_
  refine px_callVi (h := 2) (rc' := 0) (rs' := 0) C (HR_le hHR (Nat.le_of_ble_eq_true rfl)) hRt hnT dX9_depth_2 (gw8 176 rfl rfl) mv_X9_spanOr (w9_spanOr_ok (PCx_l C) (PCx_I C) hk) rfl rfl rfl rfl rfl (Nat.le_of_ble_eq_true rfl) (Nat.le_of_ble_eq_true rfl) (Nat.le_of_ble_eq_true rfl) (Nat.le_of_ble_eq_true rfl) ?_
  intro r2 μ1 hk
  refine px_istore_n (i := 2) C dX9_depth_5 rfl (by decide) rfl ?_
  refine px_aload_n (i := 0) C dX9_depth_6 rfl rfl ?_
  refine px_geti 3201 C dX9_depth_7 fl_RX9_80 rfl rfl rfl rfl ?_
  refine px_if_le (tgt := 15) C dX9_depth_10 (by decide) (fun c6 => ?_) (fun c6 => ?_)
  · replace hk := hk.1 c6
    refine px_aload_n (i := 0) C dX9_depth_15 rfl rfl ?_
    refine px_callVv (h := 5) (rc' := 0) (rs' := 0) C (HR_le hHR (Nat.le_of_ble_eq_true rfl)) hRt hnT dX9_depth_16 (gw8 208 rfl rfl) mv_X9_knows (w9_knows_ok (PCx_l C) (PCx_I C) hk) rfl rfl rfl rfl rfl (Nat.le_of_ble_eq_true rfl) (Nat.le_of_ble_eq_true rfl) (Nat.le_of_ble_eq_true rfl) (Nat.le_of_ble_eq_true rfl) ?_
    intro μ3 hk
    refine px_aload_n (i := 0) C dX9_depth_19 rfl rfl ?_
    refine px_iload_n (i := 2) C dX9_depth_20 rfl rfl ?_
    refine px_callVi (h := 0) (rc' := 0) (rs' := 0) C (HR_le hHR (Nat.le_of_ble_eq_true rfl)) hRt hnT dX9_depth_21 (gw9 54 rfl rfl) mv_X9_depthOf (w9_depthOf_ok (PCx_l C) (PCx_I C) hk) rfl rfl rfl rfl rfl (Nat.le_of_ble_eq_true rfl) (Nat.le_of_ble_eq_true rfl) (Nat.le_of_ble_eq_true rfl) (Nat.le_of_ble_eq_true rfl) ?_
    intro r5 μ4 hk
    exact px_iret C hRt dX9_depth_24 rfl rfl hk
  · replace hk := hk.2 c6
    refine px_iconst (v := (0 : Int32)) C dX9_depth_13 rfl ?_
    exact px_iret C hRt dX9_depth_14 rfl rfl hk
theorem dX9_below_0 : decode cX9_below 0 = .ok (.aload_n 0, 1) := by decide +kernel
theorem dX9_below_1 : decode cX9_below 1 = .ok (.iload_n 1, 1) := by decide +kernel
theorem dX9_below_2 : decode cX9_below 2 = .ok (.iload_n 2, 1) := by decide +kernel
theorem dX9_below_3 : decode cX9_below 3 = .ok (.invokevirtual 231, 3) := by decide +kernel
theorem dX9_below_6 : decode cX9_below 6 = .ok (.istore_n 3, 1) := by decide +kernel
theorem dX9_below_7 : decode cX9_below 7 = .ok (.iconst 0, 1) := by decide +kernel
theorem dX9_below_8 : decode cX9_below 8 = .ok (.istore 4, 2) := by decide +kernel
theorem dX9_below_10 : decode cX9_below 10 = .ok (.iconst 0, 1) := by decide +kernel
theorem dX9_below_11 : decode cX9_below 11 = .ok (.istore 5, 2) := by decide +kernel
theorem dX9_below_13 : decode cX9_below 13 = .ok (.iload 5, 2) := by decide +kernel
theorem dX9_below_15 : decode cX9_below 15 = .ok (.aload_n 0, 1) := by decide +kernel
theorem dX9_below_16 : decode cX9_below 16 = .ok (.getfield 7, 3) := by decide +kernel
theorem dX9_below_19 : decode cX9_below 19 = .ok (.iconst 0, 1) := by decide +kernel
theorem dX9_below_20 : decode cX9_below 20 = .ok (.iaload, 1) := by decide +kernel
theorem dX9_below_21 : decode cX9_below 21 = .ok (.if_icmp .ge 36, 3) := by decide +kernel
theorem dX9_below_24 : decode cX9_below 24 = .ok (.aload_n 0, 1) := by decide +kernel
theorem dX9_below_25 : decode cX9_below 25 = .ok (.getfield 80, 3) := by decide +kernel
theorem dX9_below_28 : decode cX9_below 28 = .ok (.ifCond .ne 29, 3) := by decide +kernel
theorem dX9_below_31 : decode cX9_below 31 = .ok (.iload 4, 2) := by decide +kernel
theorem dX9_below_33 : decode cX9_below 33 = .ok (.aload_n 0, 1) := by decide +kernel
theorem dX9_below_34 : decode cX9_below 34 = .ok (.iload 5, 2) := by decide +kernel
theorem dX9_below_36 : decode cX9_below 36 = .ok (.iload_n 3, 1) := by decide +kernel
theorem dX9_below_37 : decode cX9_below 37 = .ok (.invokevirtual 234, 3) := by decide +kernel
theorem dX9_below_40 : decode cX9_below 40 = .ok (.ifCond .eq 7, 3) := by decide +kernel
theorem dX9_below_43 : decode cX9_below 43 = .ok (.iconst 1, 1) := by decide +kernel
theorem dX9_below_44 : decode cX9_below 44 = .ok (.goto 4, 3) := by decide +kernel
theorem dX9_below_47 : decode cX9_below 47 = .ok (.iconst 0, 1) := by decide +kernel
theorem dX9_below_48 : decode cX9_below 48 = .ok (.iadd, 1) := by decide +kernel
theorem dX9_below_49 : decode cX9_below 49 = .ok (.istore 4, 2) := by decide +kernel
theorem dX9_below_51 : decode cX9_below 51 = .ok (.iinc 5 1, 3) := by decide +kernel
theorem dX9_below_54 : decode cX9_below 54 = .ok (.goto (-41), 3) := by decide +kernel
theorem dX9_below_57 : decode cX9_below 57 = .ok (.iload 4, 2) := by decide +kernel
theorem dX9_below_59 : decode cX9_below 59 = .ok (.ireturn, 1) := by decide +kernel
set_option maxRecDepth 100000 in
set_option maxHeartbeats 4000000 in
theorem w9_below_b13_ok {G : GT} {P : Int32 → Mem → Prop} {X : String → Mem → Prop} (C : PCx G cX9_below 6 RX9) (hRt : PRt G (some .int) (qI P) X) (hHR : HR G (8)) (hnT : NoT G) {μ : Mem} {l3 : Int32} {l4 : Int32} {l5 : Int32} (hk : w9_below_b13 P μ l3 l4 l5) : PW G 0 0 13 [some (pR 50 0), none, none, some (pI l3), some (pI l4), some (pI l5)] [] μ := by
  refine hk (fun (μ : Mem) (l3 : Int32) (l4 : Int32) (l5 : Int32) => PW G 0 0 13 [some (pR 50 0), none, none, some (pI l3), some (pI l4), some (pI l5)] [] μ) (fun (μ : Mem) l3 l4 l5 hk => ?_)
  have hR13 : ∀ (μ : Mem) (l3 : Int32) (l4 : Int32) (l5 : Int32), PW G 0 0 13 [some (pR 50 0), none, none, some (pI l3), some (pI l4), some (pI l5)] [] μ → PW G 0 0 13 [some (pR 50 0), none, none, some (pI l3), some (pI l4), some (pI l5)] [] μ := fun _ _ _ _ h => h
  unfold w9_below_b13_body at hk
  refine px_iload (i := 5) C dX9_below_13 rfl ?_
  refine px_aload_n (i := 0) C dX9_below_15 rfl rfl ?_
  refine px_getr C dX9_below_16 fl_RX9_7 rfl rfl rfl ?_
  refine px_iconst (v := (0 : Int32)) C dX9_below_19 rfl ?_
  obtain ⟨o3, hk⟩ := hk
  refine px_iald 3264 C dX9_below_20 rfl rfl rfl rfl o3 ?_
  refine px_icmp_ge (tgt := 57) C dX9_below_21 (by decide) (fun c8 => ?_) (fun c8 => ?_)
  · replace hk := hk.1 c8
    refine px_iload (i := 4) C dX9_below_57 rfl ?_
    exact px_iret C hRt dX9_below_59 rfl rfl hk
  · replace hk := hk.2 c8
    refine px_aload_n (i := 0) C dX9_below_24 rfl rfl ?_
    refine px_geti 3201 C dX9_below_25 fl_RX9_80 rfl rfl rfl rfl ?_
    refine px_if_ne (tgt := 57) C dX9_below_28 (by decide) (fun c7 => ?_) (fun c7 => ?_)
    · replace hk := hk.1 c7
      refine px_iload (i := 4) C dX9_below_57 rfl ?_
      exact px_iret C hRt dX9_below_59 rfl rfl hk
    · replace hk := hk.2 c7
      refine px_iload (i := 4) C dX9_below_31 rfl ?_
      refine px_aload_n (i := 0) C dX9_below_33 rfl rfl ?_
      refine px_iload (i := 5) C dX9_below_34 rfl ?_
      refine px_iload_n (i := 3) C dX9_below_36 rfl rfl ?_
      refine px_callVi (h := 0) (rc' := 0) (rs' := 0) C (HR_le hHR (Nat.le_of_ble_eq_true rfl)) hRt hnT dX9_below_37 (gw9 70 rfl rfl) mv_X9_isBelow (w9_isBelow_ok (PCx_l C) (PCx_I C) hk) rfl rfl rfl rfl rfl (Nat.le_of_ble_eq_true rfl) (Nat.le_of_ble_eq_true rfl) (Nat.le_of_ble_eq_true rfl) (Nat.le_of_ble_eq_true rfl) ?_
      intro r5 μ4 hk
      refine px_if_eq (tgt := 47) C dX9_below_40 (by decide) (fun c6 => ?_) (fun c6 => ?_)
      · replace hk := hk.1 c6
        refine px_iconst (v := (0 : Int32)) C dX9_below_47 rfl ?_
        refine px_iadd C dX9_below_48 ?_
        refine px_istore (i := 4) C dX9_below_49 (by decide) rfl ?_
        refine px_iinc (i := 5) (v := (1 : Int32)) C dX9_below_51 rfl rfl (by decide) rfl ?_
        refine px_goto (tgt := 13) C dX9_below_54 (by decide) ?_
        exact PW_at (hR13 _ _ _ _ hk) (And.intro rfl (And.intro rfl (And.intro rfl (And.intro rfl trivial)))) (Nat.le_of_ble_eq_true rfl) (Nat.le_of_ble_eq_true rfl)
      · replace hk := hk.2 c6
        refine px_iconst (v := (1 : Int32)) C dX9_below_43 rfl ?_
        refine px_goto (tgt := 48) C dX9_below_44 (by decide) ?_
        refine px_iadd C dX9_below_48 ?_
        refine px_istore (i := 4) C dX9_below_49 (by decide) rfl ?_
        refine px_iinc (i := 5) (v := (1 : Int32)) C dX9_below_51 rfl rfl (by decide) rfl ?_
        refine px_goto (tgt := 13) C dX9_below_54 (by decide) ?_
        exact PW_at (hR13 _ _ _ _ hk) (And.intro rfl (And.intro rfl (And.intro rfl (And.intro rfl trivial)))) (Nat.le_of_ble_eq_true rfl) (Nat.le_of_ble_eq_true rfl)
set_option maxRecDepth 100000 in
set_option maxHeartbeats 4000000 in
theorem w9_below_ok {l : Launch} {idx : List (Nat × Nat)} {μ : Mem} {a1 : Int32} {a2 : Int32} {P : Int32 → Mem → Prop} {X : String → Mem → Prop} (hl : l.stackTraces = false) (hI : IdxOK idx) (hk : w9_below_wp μ a1 a2 P) : PMet l yX9_below (.code yX9_below cX9_below 6 (some .int)) 8 0 0 idx [pR 50 0, pI a1, pI a2] μ (qI P) X := by
  refine PMet_of mv_X9_below.2.2.2.2.2.2 hl hI mv_X9_below.2.2.2.1 rfl (Nat.le_of_ble_eq_true rfl) (fun G _ _ C hRt hHR hnT => ?_)
  show PW G 0 0 0 [some (pR 50 0), some (pI a1), some (pI a2), none, none, none] [] μ
  unfold w9_below_wp at hk
  refine px_aload_n (i := 0) C dX9_below_0 rfl rfl ?_
  refine px_iload_n (i := 1) C dX9_below_1 rfl rfl ?_
  refine px_iload_n (i := 2) C dX9_below_2 rfl rfl ?_
  refine px_callVi (h := 7) (rc' := 0) (rs' := 0) C (HR_le hHR (Nat.le_of_ble_eq_true rfl)) hRt hnT dX9_below_3 (gw9 62 rfl rfl) mv_X9_nodeOr (w9_nodeOr_ok (PCx_l C) (PCx_I C) hk) rfl rfl rfl rfl rfl (Nat.le_of_ble_eq_true rfl) (Nat.le_of_ble_eq_true rfl) (Nat.le_of_ble_eq_true rfl) (Nat.le_of_ble_eq_true rfl) ?_
  intro r2 μ1 hk
  refine px_istore_n (i := 3) C dX9_below_6 rfl (by decide) rfl ?_
  refine px_iconst (v := (0 : Int32)) C dX9_below_7 rfl ?_
  refine px_istore (i := 4) C dX9_below_8 (by decide) rfl ?_
  refine px_iconst (v := (0 : Int32)) C dX9_below_10 rfl ?_
  refine px_istore (i := 5) C dX9_below_11 (by decide) rfl ?_
  exact PW_at (w9_below_b13_ok C hRt hHR hnT hk) (And.intro rfl (And.intro rfl (And.intro rfl (And.intro rfl trivial)))) (Nat.le_of_ble_eq_true rfl) (Nat.le_of_ble_eq_true rfl)
theorem dX9_childCount_0 : decode cX9_childCount 0 = .ok (.aload_n 0, 1) := by decide +kernel
theorem dX9_childCount_1 : decode cX9_childCount 1 = .ok (.iload_n 1, 1) := by decide +kernel
theorem dX9_childCount_2 : decode cX9_childCount 2 = .ok (.iload_n 2, 1) := by decide +kernel
theorem dX9_childCount_3 : decode cX9_childCount 3 = .ok (.invokevirtual 231, 3) := by decide +kernel
theorem dX9_childCount_6 : decode cX9_childCount 6 = .ok (.istore_n 3, 1) := by decide +kernel
theorem dX9_childCount_7 : decode cX9_childCount 7 = .ok (.aload_n 0, 1) := by decide +kernel
theorem dX9_childCount_8 : decode cX9_childCount 8 = .ok (.getfield 80, 3) := by decide +kernel
theorem dX9_childCount_11 : decode cX9_childCount 11 = .ok (.ifCond .le 7, 3) := by decide +kernel
theorem dX9_childCount_14 : decode cX9_childCount 14 = .ok (.iconst 0, 1) := by decide +kernel
theorem dX9_childCount_15 : decode cX9_childCount 15 = .ok (.goto 8, 3) := by decide +kernel
theorem dX9_childCount_18 : decode cX9_childCount 18 = .ok (.aload_n 0, 1) := by decide +kernel
theorem dX9_childCount_19 : decode cX9_childCount 19 = .ok (.iload_n 3, 1) := by decide +kernel
theorem dX9_childCount_20 : decode cX9_childCount 20 = .ok (.invokevirtual 237, 3) := by decide +kernel
theorem dX9_childCount_23 : decode cX9_childCount 23 = .ok (.ireturn, 1) := by decide +kernel
set_option maxRecDepth 100000 in
set_option maxHeartbeats 4000000 in
theorem w9_childCount_ok {l : Launch} {idx : List (Nat × Nat)} {μ : Mem} {a1 : Int32} {a2 : Int32} {P : Int32 → Mem → Prop} {X : String → Mem → Prop} (hl : l.stackTraces = false) (hI : IdxOK idx) (hk : w9_childCount_wp μ a1 a2 P) : PMet l yX9_childCount (.code yX9_childCount cX9_childCount 4 (some .int)) 8 0 0 idx [pR 50 0, pI a1, pI a2] μ (qI P) X := by
  refine PMet_of mv_X9_childCount.2.2.2.2.2.2 hl hI mv_X9_childCount.2.2.2.1 rfl (Nat.le_of_ble_eq_true rfl) (fun G _ _ C hRt hHR hnT => ?_)
  show PW G 0 0 0 [some (pR 50 0), some (pI a1), some (pI a2), none] [] μ
  unfold w9_childCount_wp at hk
  refine px_aload_n (i := 0) C dX9_childCount_0 rfl rfl ?_
  refine px_iload_n (i := 1) C dX9_childCount_1 rfl rfl ?_
  refine px_iload_n (i := 2) C dX9_childCount_2 rfl rfl ?_
  refine px_callVi (h := 7) (rc' := 0) (rs' := 0) C (HR_le hHR (Nat.le_of_ble_eq_true rfl)) hRt hnT dX9_childCount_3 (gw9 62 rfl rfl) mv_X9_nodeOr (w9_nodeOr_ok (PCx_l C) (PCx_I C) hk) rfl rfl rfl rfl rfl (Nat.le_of_ble_eq_true rfl) (Nat.le_of_ble_eq_true rfl) (Nat.le_of_ble_eq_true rfl) (Nat.le_of_ble_eq_true rfl) ?_
  intro r2 μ1 hk
  refine px_istore_n (i := 3) C dX9_childCount_6 rfl (by decide) rfl ?_
  refine px_aload_n (i := 0) C dX9_childCount_7 rfl rfl ?_
  refine px_geti 3201 C dX9_childCount_8 fl_RX9_80 rfl rfl rfl rfl ?_
  refine px_if_le (tgt := 18) C dX9_childCount_11 (by decide) (fun c5 => ?_) (fun c5 => ?_)
  · replace hk := hk.1 c5
    refine px_aload_n (i := 0) C dX9_childCount_18 rfl rfl ?_
    refine px_iload_n (i := 3) C dX9_childCount_19 rfl rfl ?_
    refine px_callVi (h := 0) (rc' := 0) (rs' := 0) C (HR_le hHR (Nat.le_of_ble_eq_true rfl)) hRt hnT dX9_childCount_20 (gw9 78 rfl rfl) mv_X9_childrenOf (w9_childrenOf_ok (PCx_l C) (PCx_I C) hk) rfl rfl rfl rfl rfl (Nat.le_of_ble_eq_true rfl) (Nat.le_of_ble_eq_true rfl) (Nat.le_of_ble_eq_true rfl) (Nat.le_of_ble_eq_true rfl) ?_
    intro r4 μ3 hk
    exact px_iret C hRt dX9_childCount_23 rfl rfl hk
  · replace hk := hk.2 c5
    refine px_iconst (v := (0 : Int32)) C dX9_childCount_14 rfl ?_
    refine px_goto (tgt := 23) C dX9_childCount_15 (by decide) ?_
    exact px_iret C hRt dX9_childCount_23 rfl rfl hk
theorem dX9_child_0 : decode cX9_child 0 = .ok (.aload_n 0, 1) := by decide +kernel
theorem dX9_child_1 : decode cX9_child 1 = .ok (.iload_n 1, 1) := by decide +kernel
theorem dX9_child_2 : decode cX9_child 2 = .ok (.iload_n 2, 1) := by decide +kernel
theorem dX9_child_3 : decode cX9_child 3 = .ok (.invokevirtual 231, 3) := by decide +kernel
theorem dX9_child_6 : decode cX9_child 6 = .ok (.istore 4, 2) := by decide +kernel
theorem dX9_child_8 : decode cX9_child 8 = .ok (.aload_n 0, 1) := by decide +kernel
theorem dX9_child_9 : decode cX9_child 9 = .ok (.getfield 80, 3) := by decide +kernel
theorem dX9_child_12 : decode cX9_child 12 = .ok (.ifCond .le 5, 3) := by decide +kernel
theorem dX9_child_15 : decode cX9_child 15 = .ok (.iconst 0, 1) := by decide +kernel
theorem dX9_child_16 : decode cX9_child 16 = .ok (.ireturn, 1) := by decide +kernel
theorem dX9_child_17 : decode cX9_child 17 = .ok (.iload_n 3, 1) := by decide +kernel
theorem dX9_child_18 : decode cX9_child 18 = .ok (.ifCond .ge 7, 3) := by decide +kernel
theorem dX9_child_21 : decode cX9_child 21 = .ok (.iconst (-1), 1) := by decide +kernel
theorem dX9_child_22 : decode cX9_child 22 = .ok (.goto 10, 3) := by decide +kernel
theorem dX9_child_25 : decode cX9_child 25 = .ok (.aload_n 0, 1) := by decide +kernel
theorem dX9_child_26 : decode cX9_child 26 = .ok (.iload 4, 2) := by decide +kernel
theorem dX9_child_28 : decode cX9_child 28 = .ok (.iload_n 3, 1) := by decide +kernel
theorem dX9_child_29 : decode cX9_child 29 = .ok (.invokevirtual 240, 3) := by decide +kernel
theorem dX9_child_32 : decode cX9_child 32 = .ok (.istore 5, 2) := by decide +kernel
theorem dX9_child_34 : decode cX9_child 34 = .ok (.iload 5, 2) := by decide +kernel
theorem dX9_child_36 : decode cX9_child 36 = .ok (.iconst (-1), 1) := by decide +kernel
theorem dX9_child_37 : decode cX9_child 37 = .ok (.if_icmp .ne 11, 3) := by decide +kernel
theorem dX9_child_40 : decode cX9_child 40 = .ok (.aload_n 0, 1) := by decide +kernel
theorem dX9_child_41 : decode cX9_child 41 = .ok (.iconst 2, 1) := by decide +kernel
theorem dX9_child_42 : decode cX9_child 42 = .ok (.invokevirtual 203, 3) := by decide +kernel
theorem dX9_child_45 : decode cX9_child 45 = .ok (.goto 10, 3) := by decide +kernel
theorem dX9_child_48 : decode cX9_child 48 = .ok (.aload_n 0, 1) := by decide +kernel
theorem dX9_child_49 : decode cX9_child 49 = .ok (.iload 5, 2) := by decide +kernel
theorem dX9_child_51 : decode cX9_child 51 = .ok (.iconst 0, 1) := by decide +kernel
theorem dX9_child_52 : decode cX9_child 52 = .ok (.invokevirtual 83, 3) := by decide +kernel
theorem dX9_child_55 : decode cX9_child 55 = .ok (.ireturn, 1) := by decide +kernel
set_option maxRecDepth 100000 in
set_option maxHeartbeats 4000000 in
theorem w9_child_b32_ok {G : GT} {P : Int32 → Mem → Prop} {X : String → Mem → Prop} (C : PCx G cX9_child 6 RX9) (hRt : PRt G (some .int) (qI P) X) (hHR : HR G (8)) (hnT : NoT G) {μ : Mem} {s0 : Int32} (hk : w9_child_b32 P μ s0) : PW G 0 0 32 [some (pR 50 0), none, none, none, none, none] [pI s0] μ := by
  unfold w9_child_b32 at hk
  refine px_istore (i := 5) C dX9_child_32 (by decide) rfl ?_
  refine px_iload (i := 5) C dX9_child_34 rfl ?_
  refine px_iconst (v := (-1 : Int32)) C dX9_child_36 rfl ?_
  refine px_icmp_ne (tgt := 48) C dX9_child_37 (by decide) (fun c9 => ?_) (fun c9 => ?_)
  · replace hk := hk.1 c9
    refine px_aload_n (i := 0) C dX9_child_48 rfl rfl ?_
    refine px_iload (i := 5) C dX9_child_49 rfl ?_
    refine px_iconst (v := (0 : Int32)) C dX9_child_51 rfl ?_
    refine px_callVi (h := 0) (rc' := 0) (rs' := 0) C (HR_le hHR (Nat.le_of_ble_eq_true rfl)) hRt hnT dX9_child_52 (gw8 152 rfl rfl) mv_X9_of (w9_of_ok (PCx_l C) (PCx_I C) hk) rfl rfl rfl rfl rfl (Nat.le_of_ble_eq_true rfl) (Nat.le_of_ble_eq_true rfl) (Nat.le_of_ble_eq_true rfl) (Nat.le_of_ble_eq_true rfl) ?_
    intro r6 μ5 hk
    exact px_iret C hRt dX9_child_55 rfl rfl hk
  · replace hk := hk.2 c9
    refine px_aload_n (i := 0) C dX9_child_40 rfl rfl ?_
    refine px_iconst (v := (2 : Int32)) C dX9_child_41 rfl ?_
    refine px_callVi (h := 0) (rc' := 0) (rs' := 0) C (HR_le hHR (Nat.le_of_ble_eq_true rfl)) hRt hnT dX9_child_42 (gw8 144 rfl rfl) mv_X9_fails (w9_fails_ok (PCx_l C) (PCx_I C) hk) rfl rfl rfl rfl rfl (Nat.le_of_ble_eq_true rfl) (Nat.le_of_ble_eq_true rfl) (Nat.le_of_ble_eq_true rfl) (Nat.le_of_ble_eq_true rfl) ?_
    intro r8 μ7 hk
    refine px_goto (tgt := 55) C dX9_child_45 (by decide) ?_
    exact px_iret C hRt dX9_child_55 rfl rfl hk
set_option maxRecDepth 100000 in
set_option maxHeartbeats 4000000 in
theorem w9_child_ok {l : Launch} {idx : List (Nat × Nat)} {μ : Mem} {a1 : Int32} {a2 : Int32} {a3 : Int32} {P : Int32 → Mem → Prop} {X : String → Mem → Prop} (hl : l.stackTraces = false) (hI : IdxOK idx) (hk : w9_child_wp μ a1 a2 a3 P) : PMet l yX9_child (.code yX9_child cX9_child 6 (some .int)) 8 0 0 idx [pR 50 0, pI a1, pI a2, pI a3] μ (qI P) X := by
  refine PMet_of mv_X9_child.2.2.2.2.2.2 hl hI mv_X9_child.2.2.2.1 rfl (Nat.le_of_ble_eq_true rfl) (fun G _ _ C hRt hHR hnT => ?_)
  show PW G 0 0 0 [some (pR 50 0), some (pI a1), some (pI a2), some (pI a3), none, none] [] μ
  unfold w9_child_wp at hk
  refine px_aload_n (i := 0) C dX9_child_0 rfl rfl ?_
  refine px_iload_n (i := 1) C dX9_child_1 rfl rfl ?_
  refine px_iload_n (i := 2) C dX9_child_2 rfl rfl ?_
  refine px_callVi (h := 7) (rc' := 0) (rs' := 0) C (HR_le hHR (Nat.le_of_ble_eq_true rfl)) hRt hnT dX9_child_3 (gw9 62 rfl rfl) mv_X9_nodeOr (w9_nodeOr_ok (PCx_l C) (PCx_I C) hk) rfl rfl rfl rfl rfl (Nat.le_of_ble_eq_true rfl) (Nat.le_of_ble_eq_true rfl) (Nat.le_of_ble_eq_true rfl) (Nat.le_of_ble_eq_true rfl) ?_
  intro r2 μ1 hk
  refine px_istore (i := 4) C dX9_child_6 (by decide) rfl ?_
  refine px_aload_n (i := 0) C dX9_child_8 rfl rfl ?_
  refine px_geti 3201 C dX9_child_9 fl_RX9_80 rfl rfl rfl rfl ?_
  refine px_if_le (tgt := 17) C dX9_child_12 (by decide) (fun c11 => ?_) (fun c11 => ?_)
  · replace hk := hk.1 c11
    refine px_iload_n (i := 3) C dX9_child_17 rfl rfl ?_
    refine px_if_ge (tgt := 25) C dX9_child_18 (by decide) (fun c10 => ?_) (fun c10 => ?_)
    · replace hk := hk.1 c10
      refine px_aload_n (i := 0) C dX9_child_25 rfl rfl ?_
      refine px_iload (i := 4) C dX9_child_26 rfl ?_
      refine px_iload_n (i := 3) C dX9_child_28 rfl rfl ?_
      refine px_callVi (h := 3) (rc' := 0) (rs' := 0) C (HR_le hHR (Nat.le_of_ble_eq_true rfl)) hRt hnT dX9_child_29 (gw9 86 rfl rfl) mv_X9_childOf (w9_childOf_ok (PCx_l C) (PCx_I C) hk) rfl rfl rfl rfl rfl (Nat.le_of_ble_eq_true rfl) (Nat.le_of_ble_eq_true rfl) (Nat.le_of_ble_eq_true rfl) (Nat.le_of_ble_eq_true rfl) ?_
      intro r4 μ3 hk
      exact PW_at (w9_child_b32_ok C hRt hHR hnT hk) (And.intro rfl trivial) (Nat.le_of_ble_eq_true rfl) (Nat.le_of_ble_eq_true rfl)
    · replace hk := hk.2 c10
      refine px_iconst (v := (-1 : Int32)) C dX9_child_21 rfl ?_
      refine px_goto (tgt := 32) C dX9_child_22 (by decide) ?_
      exact PW_at (w9_child_b32_ok C hRt hHR hnT hk) (And.intro rfl trivial) (Nat.le_of_ble_eq_true rfl) (Nat.le_of_ble_eq_true rfl)
  · replace hk := hk.2 c11
    refine px_iconst (v := (0 : Int32)) C dX9_child_15 rfl ?_
    exact px_iret C hRt dX9_child_16 rfl rfl hk
theorem dX9_roots_0 : decode cX9_roots 0 = .ok (.aload_n 0, 1) := by decide +kernel
theorem dX9_roots_1 : decode cX9_roots 1 = .ok (.iconst 0, 1) := by decide +kernel
theorem dX9_roots_2 : decode cX9_roots 2 = .ok (.putfield 80, 3) := by decide +kernel
theorem dX9_roots_5 : decode cX9_roots 5 = .ok (.aload_n 0, 1) := by decide +kernel
theorem dX9_roots_6 : decode cX9_roots 6 = .ok (.invokevirtual 137, 3) := by decide +kernel
theorem dX9_roots_9 : decode cX9_roots 9 = .ok (.iload_n 1, 1) := by decide +kernel
theorem dX9_roots_10 : decode cX9_roots 10 = .ok (.invokestatic 143, 3) := by decide +kernel
theorem dX9_roots_13 : decode cX9_roots 13 = .ok (.ifCond .ne 9, 3) := by decide +kernel
theorem dX9_roots_16 : decode cX9_roots 16 = .ok (.aload_n 0, 1) := by decide +kernel
theorem dX9_roots_17 : decode cX9_roots 17 = .ok (.iconst 1, 1) := by decide +kernel
theorem dX9_roots_18 : decode cX9_roots 18 = .ok (.invokevirtual 203, 3) := by decide +kernel
theorem dX9_roots_21 : decode cX9_roots 21 = .ok (.ireturn, 1) := by decide +kernel
theorem dX9_roots_22 : decode cX9_roots 22 = .ok (.iload_n 2, 1) := by decide +kernel
theorem dX9_roots_23 : decode cX9_roots 23 = .ok (.ifCond .eq 11, 3) := by decide +kernel
theorem dX9_roots_26 : decode cX9_roots 26 = .ok (.aload_n 0, 1) := by decide +kernel
theorem dX9_roots_27 : decode cX9_roots 27 = .ok (.iload_n 1, 1) := by decide +kernel
theorem dX9_roots_28 : decode cX9_roots 28 = .ok (.invokevirtual 243, 3) := by decide +kernel
theorem dX9_roots_31 : decode cX9_roots 31 = .ok (.goto 8, 3) := by decide +kernel
theorem dX9_roots_34 : decode cX9_roots 34 = .ok (.aload_n 0, 1) := by decide +kernel
theorem dX9_roots_35 : decode cX9_roots 35 = .ok (.iload_n 1, 1) := by decide +kernel
theorem dX9_roots_36 : decode cX9_roots 36 = .ok (.invokevirtual 246, 3) := by decide +kernel
theorem dX9_roots_39 : decode cX9_roots 39 = .ok (.ireturn, 1) := by decide +kernel
set_option maxRecDepth 100000 in
set_option maxHeartbeats 4000000 in
theorem w9_roots_ok {l : Launch} {idx : List (Nat × Nat)} {μ : Mem} {a1 : Int32} {a2 : Int32} {P : Int32 → Mem → Prop} {X : String → Mem → Prop} (hl : l.stackTraces = false) (hI : IdxOK idx) (hk : w9_roots_wp μ a1 a2 P) : PMet l yX9_roots (.code yX9_roots cX9_roots 3 (some .int)) 6 0 0 idx [pR 50 0, pI a1, pI a2] μ (qI P) X := by
  refine PMet_of mv_X9_roots.2.2.2.2.2.2 hl hI mv_X9_roots.2.2.2.1 rfl (Nat.le_of_ble_eq_true rfl) (fun G _ _ C hRt hHR hnT => ?_)
  show PW G 0 0 0 [some (pR 50 0), some (pI a1), some (pI a2)] [] μ
  unfold w9_roots_wp at hk
  refine px_aload_n (i := 0) C dX9_roots_0 rfl rfl ?_
  refine px_iconst (v := (0 : Int32)) C dX9_roots_1 rfl ?_
  replace hk := hk _ rfl
  refine px_puti 3201 C dX9_roots_2 fp_RX9_80 rfl rfl rfl rfl rfl rfl ?_
  refine px_aload_n (i := 0) C dX9_roots_5 rfl rfl ?_
  refine px_callVv (h := 5) (rc' := 0) (rs' := 0) C (HR_le hHR (Nat.le_of_ble_eq_true rfl)) hRt hnT dX9_roots_6 (gw8 208 rfl rfl) mv_X9_knows (w9_knows_ok (PCx_l C) (PCx_I C) hk) rfl rfl rfl rfl rfl (Nat.le_of_ble_eq_true rfl) (Nat.le_of_ble_eq_true rfl) (Nat.le_of_ble_eq_true rfl) (Nat.le_of_ble_eq_true rfl) ?_
  intro μ2 hk
  refine px_iload_n (i := 1) C dX9_roots_9 rfl rfl ?_
  refine px_callSi (h := 1) (rc' := 0) (rs' := 0) C (HR_le hHR (Nat.le_of_ble_eq_true rfl)) hRt hnT dX9_roots_10 (gw8 135 rfl rfl) ms_X9_isTrace (w9_isTrace_ok (PCx_l C) (PCx_I C) hk) rfl rfl (Nat.le_of_ble_eq_true rfl) (Nat.le_of_ble_eq_true rfl) (Nat.le_of_ble_eq_true rfl) (Nat.le_of_ble_eq_true rfl) ?_
  intro r4 μ3 hk
  refine px_if_ne (tgt := 22) C dX9_roots_13 (by decide) (fun c12 => ?_) (fun c12 => ?_)
  · replace hk := hk.1 c12
    refine px_iload_n (i := 2) C dX9_roots_22 rfl rfl ?_
    refine px_if_eq (tgt := 34) C dX9_roots_23 (by decide) (fun c9 => ?_) (fun c9 => ?_)
    · replace hk := hk.1 c9
      refine px_aload_n (i := 0) C dX9_roots_34 rfl rfl ?_
      refine px_iload_n (i := 1) C dX9_roots_35 rfl rfl ?_
      refine px_callVi (h := 1) (rc' := 0) (rs' := 0) C (HR_le hHR (Nat.le_of_ble_eq_true rfl)) hRt hnT dX9_roots_36 (gw9 102 rfl rfl) mv_X9_spanRoots (w9_spanRoots_ok (PCx_l C) (PCx_I C) hk) rfl rfl rfl rfl rfl (Nat.le_of_ble_eq_true rfl) (Nat.le_of_ble_eq_true rfl) (Nat.le_of_ble_eq_true rfl) (Nat.le_of_ble_eq_true rfl) ?_
      intro r6 μ5 hk
      exact px_iret C hRt dX9_roots_39 rfl rfl hk
    · replace hk := hk.2 c9
      refine px_aload_n (i := 0) C dX9_roots_26 rfl rfl ?_
      refine px_iload_n (i := 1) C dX9_roots_27 rfl rfl ?_
      refine px_callVi (h := 0) (rc' := 0) (rs' := 0) C (HR_le hHR (Nat.le_of_ble_eq_true rfl)) hRt hnT dX9_roots_28 (gw9 98 rfl rfl) mv_X9_holderRoots (w9_holderRoots_ok (PCx_l C) (PCx_I C) hk) rfl rfl rfl rfl rfl (Nat.le_of_ble_eq_true rfl) (Nat.le_of_ble_eq_true rfl) (Nat.le_of_ble_eq_true rfl) (Nat.le_of_ble_eq_true rfl) ?_
      intro r8 μ7 hk
      refine px_goto (tgt := 39) C dX9_roots_31 (by decide) ?_
      exact px_iret C hRt dX9_roots_39 rfl rfl hk
  · replace hk := hk.2 c12
    refine px_aload_n (i := 0) C dX9_roots_16 rfl rfl ?_
    refine px_iconst (v := (1 : Int32)) C dX9_roots_17 rfl ?_
    refine px_callVi (h := 0) (rc' := 0) (rs' := 0) C (HR_le hHR (Nat.le_of_ble_eq_true rfl)) hRt hnT dX9_roots_18 (gw8 144 rfl rfl) mv_X9_fails (w9_fails_ok (PCx_l C) (PCx_I C) hk) rfl rfl rfl rfl rfl (Nat.le_of_ble_eq_true rfl) (Nat.le_of_ble_eq_true rfl) (Nat.le_of_ble_eq_true rfl) (Nat.le_of_ble_eq_true rfl) ?_
    intro r11 μ10 hk
    exact px_iret C hRt dX9_roots_21 rfl rfl hk
theorem dX9_rootAt_0 : decode cX9_rootAt 0 = .ok (.aload_n 0, 1) := by decide +kernel
theorem dX9_rootAt_1 : decode cX9_rootAt 1 = .ok (.iconst 0, 1) := by decide +kernel
theorem dX9_rootAt_2 : decode cX9_rootAt 2 = .ok (.putfield 80, 3) := by decide +kernel
theorem dX9_rootAt_5 : decode cX9_rootAt 5 = .ok (.aload_n 0, 1) := by decide +kernel
theorem dX9_rootAt_6 : decode cX9_rootAt 6 = .ok (.invokevirtual 137, 3) := by decide +kernel
theorem dX9_rootAt_9 : decode cX9_rootAt 9 = .ok (.iload_n 1, 1) := by decide +kernel
theorem dX9_rootAt_10 : decode cX9_rootAt 10 = .ok (.invokestatic 143, 3) := by decide +kernel
theorem dX9_rootAt_13 : decode cX9_rootAt 13 = .ok (.ifCond .ne 9, 3) := by decide +kernel
theorem dX9_rootAt_16 : decode cX9_rootAt 16 = .ok (.aload_n 0, 1) := by decide +kernel
theorem dX9_rootAt_17 : decode cX9_rootAt 17 = .ok (.iconst 1, 1) := by decide +kernel
theorem dX9_rootAt_18 : decode cX9_rootAt 18 = .ok (.invokevirtual 203, 3) := by decide +kernel
theorem dX9_rootAt_21 : decode cX9_rootAt 21 = .ok (.ireturn, 1) := by decide +kernel
theorem dX9_rootAt_22 : decode cX9_rootAt 22 = .ok (.iload_n 2, 1) := by decide +kernel
theorem dX9_rootAt_23 : decode cX9_rootAt 23 = .ok (.istore_n 3, 1) := by decide +kernel
theorem dX9_rootAt_24 : decode cX9_rootAt 24 = .ok (.iconst 0, 1) := by decide +kernel
theorem dX9_rootAt_25 : decode cX9_rootAt 25 = .ok (.istore 4, 2) := by decide +kernel
theorem dX9_rootAt_27 : decode cX9_rootAt 27 = .ok (.iload 4, 2) := by decide +kernel
theorem dX9_rootAt_29 : decode cX9_rootAt 29 = .ok (.sipush 1100, 3) := by decide +kernel
theorem dX9_rootAt_32 : decode cX9_rootAt 32 = .ok (.if_icmp .ge 52, 3) := by decide +kernel
theorem dX9_rootAt_35 : decode cX9_rootAt 35 = .ok (.aload_n 0, 1) := by decide +kernel
theorem dX9_rootAt_36 : decode cX9_rootAt 36 = .ok (.iload_n 1, 1) := by decide +kernel
theorem dX9_rootAt_37 : decode cX9_rootAt 37 = .ok (.iload 4, 2) := by decide +kernel
theorem dX9_rootAt_39 : decode cX9_rootAt 39 = .ok (.invokevirtual 146, 3) := by decide +kernel
theorem dX9_rootAt_42 : decode cX9_rootAt 42 = .ok (.istore 5, 2) := by decide +kernel
theorem dX9_rootAt_44 : decode cX9_rootAt 44 = .ok (.iload 5, 2) := by decide +kernel
theorem dX9_rootAt_46 : decode cX9_rootAt 46 = .ok (.iconst (-1), 1) := by decide +kernel
theorem dX9_rootAt_47 : decode cX9_rootAt 47 = .ok (.if_icmp .eq 31, 3) := by decide +kernel
theorem dX9_rootAt_50 : decode cX9_rootAt 50 = .ok (.iload 5, 2) := by decide +kernel
theorem dX9_rootAt_52 : decode cX9_rootAt 52 = .ok (.bipush 40, 2) := by decide +kernel
theorem dX9_rootAt_54 : decode cX9_rootAt 54 = .ok (.if_icmp .ge 14, 3) := by decide +kernel
theorem dX9_rootAt_57 : decode cX9_rootAt 57 = .ok (.aload_n 0, 1) := by decide +kernel
theorem dX9_rootAt_58 : decode cX9_rootAt 58 = .ok (.getfield 47, 3) := by decide +kernel
theorem dX9_rootAt_61 : decode cX9_rootAt 61 = .ok (.iload 5, 2) := by decide +kernel
theorem dX9_rootAt_63 : decode cX9_rootAt 63 = .ok (.iaload, 1) := by decide +kernel
theorem dX9_rootAt_64 : decode cX9_rootAt 64 = .ok (.iconst (-1), 1) := by decide +kernel
theorem dX9_rootAt_65 : decode cX9_rootAt 65 = .ok (.if_icmp .ne 13, 3) := by decide +kernel
theorem dX9_rootAt_68 : decode cX9_rootAt 68 = .ok (.iload_n 3, 1) := by decide +kernel
theorem dX9_rootAt_69 : decode cX9_rootAt 69 = .ok (.ifCond .ne 6, 3) := by decide +kernel
theorem dX9_rootAt_72 : decode cX9_rootAt 72 = .ok (.iload 4, 2) := by decide +kernel
theorem dX9_rootAt_74 : decode cX9_rootAt 74 = .ok (.ireturn, 1) := by decide +kernel
theorem dX9_rootAt_75 : decode cX9_rootAt 75 = .ok (.iinc 3 (-1), 3) := by decide +kernel
theorem dX9_rootAt_78 : decode cX9_rootAt 78 = .ok (.iinc 4 1, 3) := by decide +kernel
theorem dX9_rootAt_81 : decode cX9_rootAt 81 = .ok (.goto (-54), 3) := by decide +kernel
theorem dX9_rootAt_84 : decode cX9_rootAt 84 = .ok (.aload_n 0, 1) := by decide +kernel
theorem dX9_rootAt_85 : decode cX9_rootAt 85 = .ok (.iconst 2, 1) := by decide +kernel
theorem dX9_rootAt_86 : decode cX9_rootAt 86 = .ok (.invokevirtual 203, 3) := by decide +kernel
theorem dX9_rootAt_89 : decode cX9_rootAt 89 = .ok (.ireturn, 1) := by decide +kernel
set_option maxRecDepth 100000 in
set_option maxHeartbeats 4000000 in
theorem w9_rootAt_b27_ok {G : GT} {P : Int32 → Mem → Prop} {X : String → Mem → Prop} (C : PCx G cX9_rootAt 6 RX9) (hRt : PRt G (some .int) (qI P) X) (hHR : HR G (7)) (hnT : NoT G) {μ : Mem} {l1 : Int32} {l3 : Int32} {l4 : Int32} (hk : w9_rootAt_b27 P μ l1 l3 l4) : PW G 0 0 27 [some (pR 50 0), some (pI l1), none, some (pI l3), some (pI l4), none] [] μ := by
  refine hk (fun (μ : Mem) (l1 : Int32) (l3 : Int32) (l4 : Int32) => PW G 0 0 27 [some (pR 50 0), some (pI l1), none, some (pI l3), some (pI l4), none] [] μ) (fun (μ : Mem) l1 l3 l4 hk => ?_)
  have hR27 : ∀ (μ : Mem) (l1 : Int32) (l3 : Int32) (l4 : Int32), PW G 0 0 27 [some (pR 50 0), some (pI l1), none, some (pI l3), some (pI l4), none] [] μ → PW G 0 0 27 [some (pR 50 0), some (pI l1), none, some (pI l3), some (pI l4), none] [] μ := fun _ _ _ _ h => h
  unfold w9_rootAt_b27_body at hk
  refine px_iload (i := 4) C dX9_rootAt_27 rfl ?_
  refine px_sipush (v := (1100 : Int32)) C dX9_rootAt_29 rfl ?_
  refine px_icmp_ge (tgt := 84) C dX9_rootAt_32 (by decide) (fun c15 => ?_) (fun c15 => ?_)
  · replace hk := hk.1 c15
    refine px_aload_n (i := 0) C dX9_rootAt_84 rfl rfl ?_
    refine px_iconst (v := (2 : Int32)) C dX9_rootAt_85 rfl ?_
    refine px_callVi (h := 0) (rc' := 0) (rs' := 0) C (HR_le hHR (Nat.le_of_ble_eq_true rfl)) hRt hnT dX9_rootAt_86 (gw8 144 rfl rfl) mv_X9_fails (w9_fails_ok (PCx_l C) (PCx_I C) hk) rfl rfl rfl rfl rfl (Nat.le_of_ble_eq_true rfl) (Nat.le_of_ble_eq_true rfl) (Nat.le_of_ble_eq_true rfl) (Nat.le_of_ble_eq_true rfl) ?_
    intro r6 μ5 hk
    exact px_iret C hRt dX9_rootAt_89 rfl rfl hk
  · replace hk := hk.2 c15
    refine px_aload_n (i := 0) C dX9_rootAt_35 rfl rfl ?_
    refine px_iload_n (i := 1) C dX9_rootAt_36 rfl rfl ?_
    refine px_iload (i := 4) C dX9_rootAt_37 rfl ?_
    refine px_callVi (h := 6) (rc' := 0) (rs' := 0) C (HR_le hHR (Nat.le_of_ble_eq_true rfl)) hRt hnT dX9_rootAt_39 (gw9 66 rfl rfl) mv_X9_node (w9_node_ok (PCx_l C) (PCx_I C) hk) rfl rfl rfl rfl rfl (Nat.le_of_ble_eq_true rfl) (Nat.le_of_ble_eq_true rfl) (Nat.le_of_ble_eq_true rfl) (Nat.le_of_ble_eq_true rfl) ?_
    intro r8 μ7 hk
    refine px_istore (i := 5) C dX9_rootAt_42 (by decide) rfl ?_
    refine px_iload (i := 5) C dX9_rootAt_44 rfl ?_
    refine px_iconst (v := (-1 : Int32)) C dX9_rootAt_46 rfl ?_
    refine px_icmp_eq (tgt := 78) C dX9_rootAt_47 (by decide) (fun c14 => ?_) (fun c14 => ?_)
    · replace hk := hk.1 c14
      refine px_iinc (i := 4) (v := (1 : Int32)) C dX9_rootAt_78 rfl rfl (by decide) rfl ?_
      refine px_goto (tgt := 27) C dX9_rootAt_81 (by decide) ?_
      exact PW_at (hR27 _ _ _ _ hk) (And.intro rfl (And.intro rfl (And.intro rfl (And.intro rfl trivial)))) (Nat.le_of_ble_eq_true rfl) (Nat.le_of_ble_eq_true rfl)
    · replace hk := hk.2 c14
      refine px_iload (i := 5) C dX9_rootAt_50 rfl ?_
      refine px_bipush (v := (40 : Int32)) C dX9_rootAt_52 rfl ?_
      refine px_icmp_ge (tgt := 68) C dX9_rootAt_54 (by decide) (fun c13 => ?_) (fun c13 => ?_)
      · replace hk := hk.1 c13
        refine px_iload_n (i := 3) C dX9_rootAt_68 rfl rfl ?_
        refine px_if_ne (tgt := 75) C dX9_rootAt_69 (by decide) (fun c9 => ?_) (fun c9 => ?_)
        · replace hk := hk.1 c9
          refine px_iinc (i := 3) (v := (-1 : Int32)) C dX9_rootAt_75 rfl rfl (by decide) rfl ?_
          refine px_iinc (i := 4) (v := (1 : Int32)) C dX9_rootAt_78 rfl rfl (by decide) rfl ?_
          refine px_goto (tgt := 27) C dX9_rootAt_81 (by decide) ?_
          exact PW_at (hR27 _ _ _ _ hk) (And.intro rfl (And.intro rfl (And.intro rfl (And.intro rfl trivial)))) (Nat.le_of_ble_eq_true rfl) (Nat.le_of_ble_eq_true rfl)
        · replace hk := hk.2 c9
          refine px_iload (i := 4) C dX9_rootAt_72 rfl ?_
          exact px_iret C hRt dX9_rootAt_74 rfl rfl hk
      · replace hk := hk.2 c13
        refine px_aload_n (i := 0) C dX9_rootAt_57 rfl rfl ?_
        refine px_getr C dX9_rootAt_58 fl_RX9_47 rfl rfl rfl ?_
        refine px_iload (i := 5) C dX9_rootAt_61 rfl ?_
        obtain ⟨o10, hk⟩ := hk
        refine px_iald 3968 C dX9_rootAt_63 rfl rfl rfl rfl o10 ?_
        refine px_iconst (v := (-1 : Int32)) C dX9_rootAt_64 rfl ?_
        refine px_icmp_ne (tgt := 78) C dX9_rootAt_65 (by decide) (fun c12 => ?_) (fun c12 => ?_)
        · replace hk := hk.1 c12
          refine px_iinc (i := 4) (v := (1 : Int32)) C dX9_rootAt_78 rfl rfl (by decide) rfl ?_
          refine px_goto (tgt := 27) C dX9_rootAt_81 (by decide) ?_
          exact PW_at (hR27 _ _ _ _ hk) (And.intro rfl (And.intro rfl (And.intro rfl (And.intro rfl trivial)))) (Nat.le_of_ble_eq_true rfl) (Nat.le_of_ble_eq_true rfl)
        · replace hk := hk.2 c12
          refine px_iload_n (i := 3) C dX9_rootAt_68 rfl rfl ?_
          refine px_if_ne (tgt := 75) C dX9_rootAt_69 (by decide) (fun c11 => ?_) (fun c11 => ?_)
          · replace hk := hk.1 c11
            refine px_iinc (i := 3) (v := (-1 : Int32)) C dX9_rootAt_75 rfl rfl (by decide) rfl ?_
            refine px_iinc (i := 4) (v := (1 : Int32)) C dX9_rootAt_78 rfl rfl (by decide) rfl ?_
            refine px_goto (tgt := 27) C dX9_rootAt_81 (by decide) ?_
            exact PW_at (hR27 _ _ _ _ hk) (And.intro rfl (And.intro rfl (And.intro rfl (And.intro rfl trivial)))) (Nat.le_of_ble_eq_true rfl) (Nat.le_of_ble_eq_true rfl)
          · replace hk := hk.2 c11
            refine px_iload (i := 4) C dX9_rootAt_72 rfl ?_
            exact px_iret C hRt dX9_rootAt_74 rfl rfl hk
set_option maxRecDepth 100000 in
set_option maxHeartbeats 4000000 in
theorem w9_rootAt_ok {l : Launch} {idx : List (Nat × Nat)} {μ : Mem} {a1 : Int32} {a2 : Int32} {P : Int32 → Mem → Prop} {X : String → Mem → Prop} (hl : l.stackTraces = false) (hI : IdxOK idx) (hk : w9_rootAt_wp μ a1 a2 P) : PMet l yX9_rootAt (.code yX9_rootAt cX9_rootAt 6 (some .int)) 7 0 0 idx [pR 50 0, pI a1, pI a2] μ (qI P) X := by
  refine PMet_of mv_X9_rootAt.2.2.2.2.2.2 hl hI mv_X9_rootAt.2.2.2.1 rfl (Nat.le_of_ble_eq_true rfl) (fun G _ _ C hRt hHR hnT => ?_)
  show PW G 0 0 0 [some (pR 50 0), some (pI a1), some (pI a2), none, none, none] [] μ
  unfold w9_rootAt_wp at hk
  refine px_aload_n (i := 0) C dX9_rootAt_0 rfl rfl ?_
  refine px_iconst (v := (0 : Int32)) C dX9_rootAt_1 rfl ?_
  replace hk := hk _ rfl
  refine px_puti 3201 C dX9_rootAt_2 fp_RX9_80 rfl rfl rfl rfl rfl rfl ?_
  refine px_aload_n (i := 0) C dX9_rootAt_5 rfl rfl ?_
  refine px_callVv (h := 5) (rc' := 0) (rs' := 0) C (HR_le hHR (Nat.le_of_ble_eq_true rfl)) hRt hnT dX9_rootAt_6 (gw8 208 rfl rfl) mv_X9_knows (w9_knows_ok (PCx_l C) (PCx_I C) hk) rfl rfl rfl rfl rfl (Nat.le_of_ble_eq_true rfl) (Nat.le_of_ble_eq_true rfl) (Nat.le_of_ble_eq_true rfl) (Nat.le_of_ble_eq_true rfl) ?_
  intro μ2 hk
  refine px_iload_n (i := 1) C dX9_rootAt_9 rfl rfl ?_
  refine px_callSi (h := 1) (rc' := 0) (rs' := 0) C (HR_le hHR (Nat.le_of_ble_eq_true rfl)) hRt hnT dX9_rootAt_10 (gw8 135 rfl rfl) ms_X9_isTrace (w9_isTrace_ok (PCx_l C) (PCx_I C) hk) rfl rfl (Nat.le_of_ble_eq_true rfl) (Nat.le_of_ble_eq_true rfl) (Nat.le_of_ble_eq_true rfl) (Nat.le_of_ble_eq_true rfl) ?_
  intro r4 μ3 hk
  refine px_if_ne (tgt := 22) C dX9_rootAt_13 (by decide) (fun c18 => ?_) (fun c18 => ?_)
  · replace hk := hk.1 c18
    refine px_iload_n (i := 2) C dX9_rootAt_22 rfl rfl ?_
    refine px_istore_n (i := 3) C dX9_rootAt_23 rfl (by decide) rfl ?_
    refine px_iconst (v := (0 : Int32)) C dX9_rootAt_24 rfl ?_
    refine px_istore (i := 4) C dX9_rootAt_25 (by decide) rfl ?_
    exact PW_at (w9_rootAt_b27_ok C hRt hHR hnT hk) (And.intro rfl (And.intro rfl (And.intro rfl (And.intro rfl trivial)))) (Nat.le_of_ble_eq_true rfl) (Nat.le_of_ble_eq_true rfl)
  · replace hk := hk.2 c18
    refine px_aload_n (i := 0) C dX9_rootAt_16 rfl rfl ?_
    refine px_iconst (v := (1 : Int32)) C dX9_rootAt_17 rfl ?_
    refine px_callVi (h := 0) (rc' := 0) (rs' := 0) C (HR_le hHR (Nat.le_of_ble_eq_true rfl)) hRt hnT dX9_rootAt_18 (gw8 144 rfl rfl) mv_X9_fails (w9_fails_ok (PCx_l C) (PCx_I C) hk) rfl rfl rfl rfl rfl (Nat.le_of_ble_eq_true rfl) (Nat.le_of_ble_eq_true rfl) (Nat.le_of_ble_eq_true rfl) (Nat.le_of_ble_eq_true rfl) ?_
    intro r17 μ16 hk
    exact px_iret C hRt dX9_rootAt_21 rfl rfl hk
theorem dX9_missing_0 : decode cX9_missing 0 = .ok (.aload_n 0, 1) := by decide +kernel
theorem dX9_missing_1 : decode cX9_missing 1 = .ok (.iload_n 1, 1) := by decide +kernel
theorem dX9_missing_2 : decode cX9_missing 2 = .ok (.iload_n 2, 1) := by decide +kernel
theorem dX9_missing_3 : decode cX9_missing 3 = .ok (.invokevirtual 231, 3) := by decide +kernel
theorem dX9_missing_6 : decode cX9_missing 6 = .ok (.istore 4, 2) := by decide +kernel
theorem dX9_missing_8 : decode cX9_missing 8 = .ok (.aload_n 0, 1) := by decide +kernel
theorem dX9_missing_9 : decode cX9_missing 9 = .ok (.getfield 80, 3) := by decide +kernel
theorem dX9_missing_12 : decode cX9_missing 12 = .ok (.ifCond .le 5, 3) := by decide +kernel
theorem dX9_missing_15 : decode cX9_missing 15 = .ok (.iconst 0, 1) := by decide +kernel
theorem dX9_missing_16 : decode cX9_missing 16 = .ok (.ireturn, 1) := by decide +kernel
theorem dX9_missing_17 : decode cX9_missing 17 = .ok (.iload 4, 2) := by decide +kernel
theorem dX9_missing_19 : decode cX9_missing 19 = .ok (.bipush 40, 2) := by decide +kernel
theorem dX9_missing_21 : decode cX9_missing 21 = .ok (.if_icmp .ge 9, 3) := by decide +kernel
theorem dX9_missing_24 : decode cX9_missing 24 = .ok (.aload_n 0, 1) := by decide +kernel
theorem dX9_missing_25 : decode cX9_missing 25 = .ok (.iconst 2, 1) := by decide +kernel
theorem dX9_missing_26 : decode cX9_missing 26 = .ok (.invokevirtual 203, 3) := by decide +kernel
theorem dX9_missing_29 : decode cX9_missing 29 = .ok (.ireturn, 1) := by decide +kernel
theorem dX9_missing_30 : decode cX9_missing 30 = .ok (.iload_n 3, 1) := by decide +kernel
theorem dX9_missing_31 : decode cX9_missing 31 = .ok (.ifCond .eq 12, 3) := by decide +kernel
theorem dX9_missing_34 : decode cX9_missing 34 = .ok (.aload_n 0, 1) := by decide +kernel
theorem dX9_missing_35 : decode cX9_missing 35 = .ok (.iload 4, 2) := by decide +kernel
theorem dX9_missing_37 : decode cX9_missing 37 = .ok (.invokevirtual 176, 3) := by decide +kernel
theorem dX9_missing_40 : decode cX9_missing 40 = .ok (.goto 9, 3) := by decide +kernel
theorem dX9_missing_43 : decode cX9_missing 43 = .ok (.aload_n 0, 1) := by decide +kernel
theorem dX9_missing_44 : decode cX9_missing 44 = .ok (.iload 4, 2) := by decide +kernel
theorem dX9_missing_46 : decode cX9_missing 46 = .ok (.invokevirtual 173, 3) := by decide +kernel
theorem dX9_missing_49 : decode cX9_missing 49 = .ok (.ireturn, 1) := by decide +kernel
set_option maxRecDepth 100000 in
set_option maxHeartbeats 4000000 in
theorem w9_missing_ok {l : Launch} {idx : List (Nat × Nat)} {μ : Mem} {a1 : Int32} {a2 : Int32} {a3 : Int32} {P : Int32 → Mem → Prop} {X : String → Mem → Prop} (hl : l.stackTraces = false) (hI : IdxOK idx) (hk : w9_missing_wp μ a1 a2 a3 P) : PMet l yX9_missing (.code yX9_missing cX9_missing 5 (some .int)) 8 0 0 idx [pR 50 0, pI a1, pI a2, pI a3] μ (qI P) X := by
  refine PMet_of mv_X9_missing.2.2.2.2.2.2 hl hI mv_X9_missing.2.2.2.1 rfl (Nat.le_of_ble_eq_true rfl) (fun G _ _ C hRt hHR hnT => ?_)
  show PW G 0 0 0 [some (pR 50 0), some (pI a1), some (pI a2), some (pI a3), none] [] μ
  unfold w9_missing_wp at hk
  refine px_aload_n (i := 0) C dX9_missing_0 rfl rfl ?_
  refine px_iload_n (i := 1) C dX9_missing_1 rfl rfl ?_
  refine px_iload_n (i := 2) C dX9_missing_2 rfl rfl ?_
  refine px_callVi (h := 7) (rc' := 0) (rs' := 0) C (HR_le hHR (Nat.le_of_ble_eq_true rfl)) hRt hnT dX9_missing_3 (gw9 62 rfl rfl) mv_X9_nodeOr (w9_nodeOr_ok (PCx_l C) (PCx_I C) hk) rfl rfl rfl rfl rfl (Nat.le_of_ble_eq_true rfl) (Nat.le_of_ble_eq_true rfl) (Nat.le_of_ble_eq_true rfl) (Nat.le_of_ble_eq_true rfl) ?_
  intro r2 μ1 hk
  refine px_istore (i := 4) C dX9_missing_6 (by decide) rfl ?_
  refine px_aload_n (i := 0) C dX9_missing_8 rfl rfl ?_
  refine px_geti 3201 C dX9_missing_9 fl_RX9_80 rfl rfl rfl rfl ?_
  refine px_if_le (tgt := 17) C dX9_missing_12 (by decide) (fun c11 => ?_) (fun c11 => ?_)
  · replace hk := hk.1 c11
    refine px_iload (i := 4) C dX9_missing_17 rfl ?_
    refine px_bipush (v := (40 : Int32)) C dX9_missing_19 rfl ?_
    refine px_icmp_ge (tgt := 30) C dX9_missing_21 (by decide) (fun c10 => ?_) (fun c10 => ?_)
    · replace hk := hk.1 c10
      refine px_iload_n (i := 3) C dX9_missing_30 rfl rfl ?_
      refine px_if_eq (tgt := 43) C dX9_missing_31 (by decide) (fun c7 => ?_) (fun c7 => ?_)
      · replace hk := hk.1 c7
        refine px_aload_n (i := 0) C dX9_missing_43 rfl rfl ?_
        refine px_iload (i := 4) C dX9_missing_44 rfl ?_
        refine px_callVi (h := 2) (rc' := 0) (rs' := 0) C (HR_le hHR (Nat.le_of_ble_eq_true rfl)) hRt hnT dX9_missing_46 (gw9 118 rfl rfl) mv_X9_nodeBegin (w9_nodeBegin_ok (PCx_l C) (PCx_I C) hk) rfl rfl rfl rfl rfl (Nat.le_of_ble_eq_true rfl) (Nat.le_of_ble_eq_true rfl) (Nat.le_of_ble_eq_true rfl) (Nat.le_of_ble_eq_true rfl) ?_
        intro r4 μ3 hk
        exact px_iret C hRt dX9_missing_49 rfl rfl hk
      · replace hk := hk.2 c7
        refine px_aload_n (i := 0) C dX9_missing_34 rfl rfl ?_
        refine px_iload (i := 4) C dX9_missing_35 rfl ?_
        refine px_callVi (h := 2) (rc' := 0) (rs' := 0) C (HR_le hHR (Nat.le_of_ble_eq_true rfl)) hRt hnT dX9_missing_37 (gw9 114 rfl rfl) mv_X9_nodeEnd (w9_nodeEnd_ok (PCx_l C) (PCx_I C) hk) rfl rfl rfl rfl rfl (Nat.le_of_ble_eq_true rfl) (Nat.le_of_ble_eq_true rfl) (Nat.le_of_ble_eq_true rfl) (Nat.le_of_ble_eq_true rfl) ?_
        intro r6 μ5 hk
        refine px_goto (tgt := 49) C dX9_missing_40 (by decide) ?_
        exact px_iret C hRt dX9_missing_49 rfl rfl hk
    · replace hk := hk.2 c10
      refine px_aload_n (i := 0) C dX9_missing_24 rfl rfl ?_
      refine px_iconst (v := (2 : Int32)) C dX9_missing_25 rfl ?_
      refine px_callVi (h := 0) (rc' := 0) (rs' := 0) C (HR_le hHR (Nat.le_of_ble_eq_true rfl)) hRt hnT dX9_missing_26 (gw8 144 rfl rfl) mv_X9_fails (w9_fails_ok (PCx_l C) (PCx_I C) hk) rfl rfl rfl rfl rfl (Nat.le_of_ble_eq_true rfl) (Nat.le_of_ble_eq_true rfl) (Nat.le_of_ble_eq_true rfl) (Nat.le_of_ble_eq_true rfl) ?_
      intro r9 μ8 hk
      exact px_iret C hRt dX9_missing_29 rfl rfl hk
  · replace hk := hk.2 c11
    refine px_iconst (v := (0 : Int32)) C dX9_missing_15 rfl ?_
    exact px_iret C hRt dX9_missing_16 rfl rfl hk
theorem dX9_cutCount_0 : decode cX9_cutCount 0 = .ok (.aload_n 0, 1) := by decide +kernel
theorem dX9_cutCount_1 : decode cX9_cutCount 1 = .ok (.iconst 0, 1) := by decide +kernel
theorem dX9_cutCount_2 : decode cX9_cutCount 2 = .ok (.putfield 80, 3) := by decide +kernel
theorem dX9_cutCount_5 : decode cX9_cutCount 5 = .ok (.aload_n 0, 1) := by decide +kernel
theorem dX9_cutCount_6 : decode cX9_cutCount 6 = .ok (.invokevirtual 137, 3) := by decide +kernel
theorem dX9_cutCount_9 : decode cX9_cutCount 9 = .ok (.iconst 0, 1) := by decide +kernel
theorem dX9_cutCount_10 : decode cX9_cutCount 10 = .ok (.istore_n 1, 1) := by decide +kernel
theorem dX9_cutCount_11 : decode cX9_cutCount 11 = .ok (.iconst 0, 1) := by decide +kernel
theorem dX9_cutCount_12 : decode cX9_cutCount 12 = .ok (.istore_n 2, 1) := by decide +kernel
theorem dX9_cutCount_13 : decode cX9_cutCount 13 = .ok (.iload_n 2, 1) := by decide +kernel
theorem dX9_cutCount_14 : decode cX9_cutCount 14 = .ok (.aload_n 0, 1) := by decide +kernel
theorem dX9_cutCount_15 : decode cX9_cutCount 15 = .ok (.getfield 7, 3) := by decide +kernel
theorem dX9_cutCount_18 : decode cX9_cutCount 18 = .ok (.iconst 0, 1) := by decide +kernel
theorem dX9_cutCount_19 : decode cX9_cutCount 19 = .ok (.iaload, 1) := by decide +kernel
theorem dX9_cutCount_20 : decode cX9_cutCount 20 = .ok (.if_icmp .ge 27, 3) := by decide +kernel
theorem dX9_cutCount_23 : decode cX9_cutCount 23 = .ok (.iload_n 1, 1) := by decide +kernel
theorem dX9_cutCount_24 : decode cX9_cutCount 24 = .ok (.aload_n 0, 1) := by decide +kernel
theorem dX9_cutCount_25 : decode cX9_cutCount 25 = .ok (.getfield 50, 3) := by decide +kernel
theorem dX9_cutCount_28 : decode cX9_cutCount 28 = .ok (.iload_n 2, 1) := by decide +kernel
theorem dX9_cutCount_29 : decode cX9_cutCount 29 = .ok (.iaload, 1) := by decide +kernel
theorem dX9_cutCount_30 : decode cX9_cutCount 30 = .ok (.iconst 3, 1) := by decide +kernel
theorem dX9_cutCount_31 : decode cX9_cutCount 31 = .ok (.if_icmp .ne 7, 3) := by decide +kernel
theorem dX9_cutCount_34 : decode cX9_cutCount 34 = .ok (.iconst 1, 1) := by decide +kernel
theorem dX9_cutCount_35 : decode cX9_cutCount 35 = .ok (.goto 4, 3) := by decide +kernel
theorem dX9_cutCount_38 : decode cX9_cutCount 38 = .ok (.iconst 0, 1) := by decide +kernel
theorem dX9_cutCount_39 : decode cX9_cutCount 39 = .ok (.iadd, 1) := by decide +kernel
theorem dX9_cutCount_40 : decode cX9_cutCount 40 = .ok (.istore_n 1, 1) := by decide +kernel
theorem dX9_cutCount_41 : decode cX9_cutCount 41 = .ok (.iinc 2 1, 3) := by decide +kernel
theorem dX9_cutCount_44 : decode cX9_cutCount 44 = .ok (.goto (-31), 3) := by decide +kernel
theorem dX9_cutCount_47 : decode cX9_cutCount 47 = .ok (.iload_n 1, 1) := by decide +kernel
theorem dX9_cutCount_48 : decode cX9_cutCount 48 = .ok (.ireturn, 1) := by decide +kernel
set_option maxRecDepth 100000 in
set_option maxHeartbeats 4000000 in
theorem w9_cutCount_b13_ok {G : GT} {P : Int32 → Mem → Prop} {X : String → Mem → Prop} (C : PCx G cX9_cutCount 3 RX9) (hRt : PRt G (some .int) (qI P) X) (hHR : HR G (6)) (hnT : NoT G) {μ : Mem} {l1 : Int32} {l2 : Int32} (hk : w9_cutCount_b13 P μ l1 l2) : PW G 0 0 13 [some (pR 50 0), some (pI l1), some (pI l2)] [] μ := by
  refine hk (fun (μ : Mem) (l1 : Int32) (l2 : Int32) => PW G 0 0 13 [some (pR 50 0), some (pI l1), some (pI l2)] [] μ) (fun (μ : Mem) l1 l2 hk => ?_)
  have hR13 : ∀ (μ : Mem) (l1 : Int32) (l2 : Int32), PW G 0 0 13 [some (pR 50 0), some (pI l1), some (pI l2)] [] μ → PW G 0 0 13 [some (pR 50 0), some (pI l1), some (pI l2)] [] μ := fun _ _ _ h => h
  unfold w9_cutCount_b13_body at hk
  refine px_iload_n (i := 2) C dX9_cutCount_13 rfl rfl ?_
  refine px_aload_n (i := 0) C dX9_cutCount_14 rfl rfl ?_
  refine px_getr C dX9_cutCount_15 fl_RX9_7 rfl rfl rfl ?_
  refine px_iconst (v := (0 : Int32)) C dX9_cutCount_18 rfl ?_
  obtain ⟨o3, hk⟩ := hk
  refine px_iald 3264 C dX9_cutCount_19 rfl rfl rfl rfl o3 ?_
  refine px_icmp_ge (tgt := 47) C dX9_cutCount_20 (by decide) (fun c6 => ?_) (fun c6 => ?_)
  · replace hk := hk.1 c6
    refine px_iload_n (i := 1) C dX9_cutCount_47 rfl rfl ?_
    exact px_iret C hRt dX9_cutCount_48 rfl rfl hk
  · replace hk := hk.2 c6
    refine px_iload_n (i := 1) C dX9_cutCount_23 rfl rfl ?_
    refine px_aload_n (i := 0) C dX9_cutCount_24 rfl rfl ?_
    refine px_getr C dX9_cutCount_25 fl_RX9_50 rfl rfl rfl ?_
    refine px_iload_n (i := 2) C dX9_cutCount_28 rfl rfl ?_
    obtain ⟨o4, hk⟩ := hk
    refine px_iald 4032 C dX9_cutCount_29 rfl rfl rfl rfl o4 ?_
    refine px_iconst (v := (3 : Int32)) C dX9_cutCount_30 rfl ?_
    refine px_icmp_ne (tgt := 38) C dX9_cutCount_31 (by decide) (fun c5 => ?_) (fun c5 => ?_)
    · replace hk := hk.1 c5
      refine px_iconst (v := (0 : Int32)) C dX9_cutCount_38 rfl ?_
      refine px_iadd C dX9_cutCount_39 ?_
      refine px_istore_n (i := 1) C dX9_cutCount_40 rfl (by decide) rfl ?_
      refine px_iinc (i := 2) (v := (1 : Int32)) C dX9_cutCount_41 rfl rfl (by decide) rfl ?_
      refine px_goto (tgt := 13) C dX9_cutCount_44 (by decide) ?_
      exact PW_at (hR13 _ _ _ hk) (And.intro rfl (And.intro rfl (And.intro rfl trivial))) (Nat.le_of_ble_eq_true rfl) (Nat.le_of_ble_eq_true rfl)
    · replace hk := hk.2 c5
      refine px_iconst (v := (1 : Int32)) C dX9_cutCount_34 rfl ?_
      refine px_goto (tgt := 39) C dX9_cutCount_35 (by decide) ?_
      refine px_iadd C dX9_cutCount_39 ?_
      refine px_istore_n (i := 1) C dX9_cutCount_40 rfl (by decide) rfl ?_
      refine px_iinc (i := 2) (v := (1 : Int32)) C dX9_cutCount_41 rfl rfl (by decide) rfl ?_
      refine px_goto (tgt := 13) C dX9_cutCount_44 (by decide) ?_
      exact PW_at (hR13 _ _ _ hk) (And.intro rfl (And.intro rfl (And.intro rfl trivial))) (Nat.le_of_ble_eq_true rfl) (Nat.le_of_ble_eq_true rfl)
set_option maxRecDepth 100000 in
set_option maxHeartbeats 4000000 in
theorem w9_cutCount_ok {l : Launch} {idx : List (Nat × Nat)} {μ : Mem} {P : Int32 → Mem → Prop} {X : String → Mem → Prop} (hl : l.stackTraces = false) (hI : IdxOK idx) (hk : w9_cutCount_wp μ P) : PMet l yX9_cutCount (.code yX9_cutCount cX9_cutCount 3 (some .int)) 6 0 0 idx [pR 50 0] μ (qI P) X := by
  refine PMet_of mv_X9_cutCount.2.2.2.2.2.2 hl hI mv_X9_cutCount.2.2.2.1 rfl (Nat.le_of_ble_eq_true rfl) (fun G _ _ C hRt hHR hnT => ?_)
  show PW G 0 0 0 [some (pR 50 0), none, none] [] μ
  unfold w9_cutCount_wp at hk
  refine px_aload_n (i := 0) C dX9_cutCount_0 rfl rfl ?_
  refine px_iconst (v := (0 : Int32)) C dX9_cutCount_1 rfl ?_
  replace hk := hk _ rfl
  refine px_puti 3201 C dX9_cutCount_2 fp_RX9_80 rfl rfl rfl rfl rfl rfl ?_
  refine px_aload_n (i := 0) C dX9_cutCount_5 rfl rfl ?_
  refine px_callVv (h := 5) (rc' := 0) (rs' := 0) C (HR_le hHR (Nat.le_of_ble_eq_true rfl)) hRt hnT dX9_cutCount_6 (gw8 208 rfl rfl) mv_X9_knows (w9_knows_ok (PCx_l C) (PCx_I C) hk) rfl rfl rfl rfl rfl (Nat.le_of_ble_eq_true rfl) (Nat.le_of_ble_eq_true rfl) (Nat.le_of_ble_eq_true rfl) (Nat.le_of_ble_eq_true rfl) ?_
  intro μ2 hk
  refine px_iconst (v := (0 : Int32)) C dX9_cutCount_9 rfl ?_
  refine px_istore_n (i := 1) C dX9_cutCount_10 rfl (by decide) rfl ?_
  refine px_iconst (v := (0 : Int32)) C dX9_cutCount_11 rfl ?_
  refine px_istore_n (i := 2) C dX9_cutCount_12 rfl (by decide) rfl ?_
  exact PW_at (w9_cutCount_b13_ok C hRt hHR hnT hk) (And.intro rfl (And.intro rfl (And.intro rfl trivial))) (Nat.le_of_ble_eq_true rfl) (Nat.le_of_ble_eq_true rfl)
theorem dX9_segments_0 : decode cX9_segments 0 = .ok (.aload_n 0, 1) := by decide +kernel
theorem dX9_segments_1 : decode cX9_segments 1 = .ok (.iload_n 1, 1) := by decide +kernel
theorem dX9_segments_2 : decode cX9_segments 2 = .ok (.iload_n 2, 1) := by decide +kernel
theorem dX9_segments_3 : decode cX9_segments 3 = .ok (.invokevirtual 231, 3) := by decide +kernel
theorem dX9_segments_6 : decode cX9_segments 6 = .ok (.istore_n 3, 1) := by decide +kernel
theorem dX9_segments_7 : decode cX9_segments 7 = .ok (.aload_n 0, 1) := by decide +kernel
theorem dX9_segments_8 : decode cX9_segments 8 = .ok (.getfield 80, 3) := by decide +kernel
theorem dX9_segments_11 : decode cX9_segments 11 = .ok (.ifCond .le 5, 3) := by decide +kernel
theorem dX9_segments_14 : decode cX9_segments 14 = .ok (.iconst 0, 1) := by decide +kernel
theorem dX9_segments_15 : decode cX9_segments 15 = .ok (.ireturn, 1) := by decide +kernel
theorem dX9_segments_16 : decode cX9_segments 16 = .ok (.aload_n 0, 1) := by decide +kernel
theorem dX9_segments_17 : decode cX9_segments 17 = .ok (.iload_n 3, 1) := by decide +kernel
theorem dX9_segments_18 : decode cX9_segments 18 = .ok (.invokevirtual 182, 3) := by decide +kernel
theorem dX9_segments_21 : decode cX9_segments 21 = .ok (.aload_n 0, 1) := by decide +kernel
theorem dX9_segments_22 : decode cX9_segments 22 = .ok (.getfield 153, 3) := by decide +kernel
theorem dX9_segments_25 : decode cX9_segments 25 = .ok (.ireturn, 1) := by decide +kernel
set_option maxRecDepth 100000 in
set_option maxHeartbeats 4000000 in
theorem w9_segments_ok {l : Launch} {idx : List (Nat × Nat)} {μ : Mem} {a1 : Int32} {a2 : Int32} {P : Int32 → Mem → Prop} {X : String → Mem → Prop} (hl : l.stackTraces = false) (hI : IdxOK idx) (hk : w9_segments_wp μ a1 a2 P) : PMet l yX9_segments (.code yX9_segments cX9_segments 4 (some .int)) 65 0 0 idx [pR 50 0, pI a1, pI a2] μ (qI P) X := by
  refine PMet_of mv_X9_segments.2.2.2.2.2.2 hl hI mv_X9_segments.2.2.2.1 rfl (Nat.le_of_ble_eq_true rfl) (fun G _ _ C hRt hHR hnT => ?_)
  show PW G 0 0 0 [some (pR 50 0), some (pI a1), some (pI a2), none] [] μ
  unfold w9_segments_wp at hk
  refine px_aload_n (i := 0) C dX9_segments_0 rfl rfl ?_
  refine px_iload_n (i := 1) C dX9_segments_1 rfl rfl ?_
  refine px_iload_n (i := 2) C dX9_segments_2 rfl rfl ?_
  refine px_callVi (h := 7) (rc' := 0) (rs' := 0) C (HR_le hHR (Nat.le_of_ble_eq_true rfl)) hRt hnT dX9_segments_3 (gw9 62 rfl rfl) mv_X9_nodeOr (w9_nodeOr_ok (PCx_l C) (PCx_I C) hk) rfl rfl rfl rfl rfl (Nat.le_of_ble_eq_true rfl) (Nat.le_of_ble_eq_true rfl) (Nat.le_of_ble_eq_true rfl) (Nat.le_of_ble_eq_true rfl) ?_
  intro r2 μ1 hk
  refine px_istore_n (i := 3) C dX9_segments_6 rfl (by decide) rfl ?_
  refine px_aload_n (i := 0) C dX9_segments_7 rfl rfl ?_
  refine px_geti 3201 C dX9_segments_8 fl_RX9_80 rfl rfl rfl rfl ?_
  refine px_if_le (tgt := 16) C dX9_segments_11 (by decide) (fun c4 => ?_) (fun c4 => ?_)
  · replace hk := hk.1 c4
    refine px_aload_n (i := 0) C dX9_segments_16 rfl rfl ?_
    refine px_iload_n (i := 3) C dX9_segments_17 rfl rfl ?_
    refine px_callVv (h := 64) (rc' := 0) (rs' := 0) C (HR_le hHR (Nat.le_of_ble_eq_true rfl)) hRt hnT dX9_segments_18 (gw9 130 rfl rfl) mv_X9_path (w9_path_ok (PCx_l C) (PCx_I C) hk) rfl rfl rfl rfl rfl (Nat.le_of_ble_eq_true rfl) (Nat.le_of_ble_eq_true rfl) (Nat.le_of_ble_eq_true rfl) (Nat.le_of_ble_eq_true rfl) ?_
    intro μ3 hk
    refine px_aload_n (i := 0) C dX9_segments_21 rfl rfl ?_
    refine px_geti 3226 C dX9_segments_22 fl_RX9_153 rfl rfl rfl rfl ?_
    exact px_iret C hRt dX9_segments_25 rfl rfl hk
  · replace hk := hk.2 c4
    refine px_iconst (v := (0 : Int32)) C dX9_segments_14 rfl ?_
    exact px_iret C hRt dX9_segments_15 rfl rfl hk
theorem dX9_segment_0 : decode cX9_segment 0 = .ok (.aload_n 0, 1) := by decide +kernel
theorem dX9_segment_1 : decode cX9_segment 1 = .ok (.iload_n 1, 1) := by decide +kernel
theorem dX9_segment_2 : decode cX9_segment 2 = .ok (.invokestatic 143, 3) := by decide +kernel
theorem dX9_segment_5 : decode cX9_segment 5 = .ok (.ifCond .ne 7, 3) := by decide +kernel
theorem dX9_segment_8 : decode cX9_segment 8 = .ok (.iconst 1, 1) := by decide +kernel
theorem dX9_segment_9 : decode cX9_segment 9 = .ok (.goto 32, 3) := by decide +kernel
theorem dX9_segment_12 : decode cX9_segment 12 = .ok (.iload 4, 2) := by decide +kernel
theorem dX9_segment_14 : decode cX9_segment 14 = .ok (.iconst 0, 1) := by decide +kernel
theorem dX9_segment_15 : decode cX9_segment 15 = .ok (.iconst 2, 1) := by decide +kernel
theorem dX9_segment_16 : decode cX9_segment 16 = .ok (.invokestatic 140, 3) := by decide +kernel
theorem dX9_segment_19 : decode cX9_segment 19 = .ok (.ifCond .ne 7, 3) := by decide +kernel
theorem dX9_segment_22 : decode cX9_segment 22 = .ok (.iconst 2, 1) := by decide +kernel
theorem dX9_segment_23 : decode cX9_segment 23 = .ok (.goto 18, 3) := by decide +kernel
theorem dX9_segment_26 : decode cX9_segment 26 = .ok (.aload_n 0, 1) := by decide +kernel
theorem dX9_segment_27 : decode cX9_segment 27 = .ok (.iload_n 1, 1) := by decide +kernel
theorem dX9_segment_28 : decode cX9_segment 28 = .ok (.iload_n 2, 1) := by decide +kernel
theorem dX9_segment_29 : decode cX9_segment 29 = .ok (.invokevirtual 146, 3) := by decide +kernel
theorem dX9_segment_32 : decode cX9_segment 32 = .ok (.iconst (-1), 1) := by decide +kernel
theorem dX9_segment_33 : decode cX9_segment 33 = .ok (.if_icmp .ne 7, 3) := by decide +kernel
theorem dX9_segment_36 : decode cX9_segment 36 = .ok (.iconst 3, 1) := by decide +kernel
theorem dX9_segment_37 : decode cX9_segment 37 = .ok (.goto 4, 3) := by decide +kernel
theorem dX9_segment_40 : decode cX9_segment 40 = .ok (.iconst 0, 1) := by decide +kernel
theorem dX9_segment_41 : decode cX9_segment 41 = .ok (.putfield 80, 3) := by decide +kernel
theorem dX9_segment_44 : decode cX9_segment 44 = .ok (.aload_n 0, 1) := by decide +kernel
theorem dX9_segment_45 : decode cX9_segment 45 = .ok (.getfield 80, 3) := by decide +kernel
theorem dX9_segment_48 : decode cX9_segment 48 = .ok (.ifCond .le 5, 3) := by decide +kernel
theorem dX9_segment_51 : decode cX9_segment 51 = .ok (.iconst 0, 1) := by decide +kernel
theorem dX9_segment_52 : decode cX9_segment 52 = .ok (.ireturn, 1) := by decide +kernel
theorem dX9_segment_53 : decode cX9_segment 53 = .ok (.aload_n 0, 1) := by decide +kernel
theorem dX9_segment_54 : decode cX9_segment 54 = .ok (.aload_n 0, 1) := by decide +kernel
theorem dX9_segment_55 : decode cX9_segment 55 = .ok (.iload_n 1, 1) := by decide +kernel
theorem dX9_segment_56 : decode cX9_segment 56 = .ok (.iload_n 2, 1) := by decide +kernel
theorem dX9_segment_57 : decode cX9_segment 57 = .ok (.invokevirtual 146, 3) := by decide +kernel
theorem dX9_segment_60 : decode cX9_segment 60 = .ok (.invokevirtual 182, 3) := by decide +kernel
theorem dX9_segment_63 : decode cX9_segment 63 = .ok (.iload_n 3, 1) := by decide +kernel
theorem dX9_segment_64 : decode cX9_segment 64 = .ok (.iconst 0, 1) := by decide +kernel
theorem dX9_segment_65 : decode cX9_segment 65 = .ok (.aload_n 0, 1) := by decide +kernel
theorem dX9_segment_66 : decode cX9_segment 66 = .ok (.getfield 153, 3) := by decide +kernel
theorem dX9_segment_69 : decode cX9_segment 69 = .ok (.iconst 1, 1) := by decide +kernel
theorem dX9_segment_70 : decode cX9_segment 70 = .ok (.isub, 1) := by decide +kernel
theorem dX9_segment_71 : decode cX9_segment 71 = .ok (.invokestatic 140, 3) := by decide +kernel
theorem dX9_segment_74 : decode cX9_segment 74 = .ok (.ifCond .ne 9, 3) := by decide +kernel
theorem dX9_segment_77 : decode cX9_segment 77 = .ok (.aload_n 0, 1) := by decide +kernel
theorem dX9_segment_78 : decode cX9_segment 78 = .ok (.iconst 3, 1) := by decide +kernel
theorem dX9_segment_79 : decode cX9_segment 79 = .ok (.invokevirtual 203, 3) := by decide +kernel
theorem dX9_segment_82 : decode cX9_segment 82 = .ok (.ireturn, 1) := by decide +kernel
theorem dX9_segment_83 : decode cX9_segment 83 = .ok (.aload_n 0, 1) := by decide +kernel
theorem dX9_segment_84 : decode cX9_segment 84 = .ok (.getfield 153, 3) := by decide +kernel
theorem dX9_segment_87 : decode cX9_segment 87 = .ok (.iconst 1, 1) := by decide +kernel
theorem dX9_segment_88 : decode cX9_segment 88 = .ok (.isub, 1) := by decide +kernel
theorem dX9_segment_89 : decode cX9_segment 89 = .ok (.iload_n 3, 1) := by decide +kernel
theorem dX9_segment_90 : decode cX9_segment 90 = .ok (.isub, 1) := by decide +kernel
theorem dX9_segment_91 : decode cX9_segment 91 = .ok (.istore 5, 2) := by decide +kernel
theorem dX9_segment_93 : decode cX9_segment 93 = .ok (.iload 4, 2) := by decide +kernel
theorem dX9_segment_95 : decode cX9_segment 95 = .ok (.ifCond .ne 17, 3) := by decide +kernel
theorem dX9_segment_98 : decode cX9_segment 98 = .ok (.aload_n 0, 1) := by decide +kernel
theorem dX9_segment_99 : decode cX9_segment 99 = .ok (.aload_n 0, 1) := by decide +kernel
theorem dX9_segment_100 : decode cX9_segment 100 = .ok (.getfield 59, 3) := by decide +kernel
theorem dX9_segment_103 : decode cX9_segment 103 = .ok (.iload 5, 2) := by decide +kernel
theorem dX9_segment_105 : decode cX9_segment 105 = .ok (.iaload, 1) := by decide +kernel
theorem dX9_segment_106 : decode cX9_segment 106 = .ok (.invokevirtual 225, 3) := by decide +kernel
theorem dX9_segment_109 : decode cX9_segment 109 = .ok (.goto 26, 3) := by decide +kernel
theorem dX9_segment_112 : decode cX9_segment 112 = .ok (.iload 4, 2) := by decide +kernel
theorem dX9_segment_114 : decode cX9_segment 114 = .ok (.iconst 1, 1) := by decide +kernel
theorem dX9_segment_115 : decode cX9_segment 115 = .ok (.if_icmp .ne 13, 3) := by decide +kernel
theorem dX9_segment_118 : decode cX9_segment 118 = .ok (.aload_n 0, 1) := by decide +kernel
theorem dX9_segment_119 : decode cX9_segment 119 = .ok (.getfield 62, 3) := by decide +kernel
theorem dX9_segment_122 : decode cX9_segment 122 = .ok (.iload 5, 2) := by decide +kernel
theorem dX9_segment_124 : decode cX9_segment 124 = .ok (.iaload, 1) := by decide +kernel
theorem dX9_segment_125 : decode cX9_segment 125 = .ok (.goto 10, 3) := by decide +kernel
theorem dX9_segment_128 : decode cX9_segment 128 = .ok (.aload_n 0, 1) := by decide +kernel
theorem dX9_segment_129 : decode cX9_segment 129 = .ok (.getfield 65, 3) := by decide +kernel
theorem dX9_segment_132 : decode cX9_segment 132 = .ok (.iload 5, 2) := by decide +kernel
theorem dX9_segment_134 : decode cX9_segment 134 = .ok (.iaload, 1) := by decide +kernel
theorem dX9_segment_135 : decode cX9_segment 135 = .ok (.ireturn, 1) := by decide +kernel
set_option maxRecDepth 100000 in
set_option maxHeartbeats 4000000 in
theorem w9_segment_b41_ok {G : GT} {P : Int32 → Mem → Prop} {X : String → Mem → Prop} (C : PCx G cX9_segment 6 RX9) (hRt : PRt G (some .int) (qI P) X) (hHR : HR G (65)) (hnT : NoT G) {μ : Mem} {l1 : Int32} {l2 : Int32} {l3 : Int32} {l4 : Int32} {s0 : Int32} (hk : w9_segment_b41 P μ l1 l2 l3 l4 s0) : PW G 0 0 41 [some (pR 50 0), some (pI l1), some (pI l2), some (pI l3), some (pI l4), none] [pI s0, pR 50 0] μ := by
  unfold w9_segment_b41 at hk
  replace hk := hk _ rfl
  refine px_puti 3201 C dX9_segment_41 fp_RX9_80 rfl rfl rfl rfl rfl rfl ?_
  refine px_aload_n (i := 0) C dX9_segment_44 rfl rfl ?_
  refine px_geti 3201 C dX9_segment_45 fl_RX9_80 rfl rfl rfl rfl ?_
  refine px_if_le (tgt := 53) C dX9_segment_48 (by decide) (fun c23 => ?_) (fun c23 => ?_)
  · replace hk := hk.1 c23
    refine px_aload_n (i := 0) C dX9_segment_53 rfl rfl ?_
    refine px_aload_n (i := 0) C dX9_segment_54 rfl rfl ?_
    refine px_iload_n (i := 1) C dX9_segment_55 rfl rfl ?_
    refine px_iload_n (i := 2) C dX9_segment_56 rfl rfl ?_
    refine px_callVi (h := 6) (rc' := 0) (rs' := 0) C (HR_le hHR (Nat.le_of_ble_eq_true rfl)) hRt hnT dX9_segment_57 (gw9 66 rfl rfl) mv_X9_node (w9_node_ok (PCx_l C) (PCx_I C) hk) rfl rfl rfl rfl rfl (Nat.le_of_ble_eq_true rfl) (Nat.le_of_ble_eq_true rfl) (Nat.le_of_ble_eq_true rfl) (Nat.le_of_ble_eq_true rfl) ?_
    intro r9 μ8 hk
    refine px_callVv (h := 64) (rc' := 0) (rs' := 0) C (HR_le hHR (Nat.le_of_ble_eq_true rfl)) hRt hnT dX9_segment_60 (gw9 130 rfl rfl) mv_X9_path (w9_path_ok (PCx_l C) (PCx_I C) hk) rfl rfl rfl rfl rfl (Nat.le_of_ble_eq_true rfl) (Nat.le_of_ble_eq_true rfl) (Nat.le_of_ble_eq_true rfl) (Nat.le_of_ble_eq_true rfl) ?_
    intro μ10 hk
    refine px_iload_n (i := 3) C dX9_segment_63 rfl rfl ?_
    refine px_iconst (v := (0 : Int32)) C dX9_segment_64 rfl ?_
    refine px_aload_n (i := 0) C dX9_segment_65 rfl rfl ?_
    refine px_geti 3226 C dX9_segment_66 fl_RX9_153 rfl rfl rfl rfl ?_
    refine px_iconst (v := (1 : Int32)) C dX9_segment_69 rfl ?_
    refine px_isub C dX9_segment_70 ?_
    refine px_callSi (h := 0) (rc' := 0) (rs' := 0) C (HR_le hHR (Nat.le_of_ble_eq_true rfl)) hRt hnT dX9_segment_71 (gw8 138 rfl rfl) ms_X9_in (w9_in_ok (PCx_l C) (PCx_I C) hk) rfl rfl (Nat.le_of_ble_eq_true rfl) (Nat.le_of_ble_eq_true rfl) (Nat.le_of_ble_eq_true rfl) (Nat.le_of_ble_eq_true rfl) ?_
    intro r12 μ11 hk
    refine px_if_ne (tgt := 83) C dX9_segment_74 (by decide) (fun c22 => ?_) (fun c22 => ?_)
    · replace hk := hk.1 c22
      refine px_aload_n (i := 0) C dX9_segment_83 rfl rfl ?_
      refine px_geti 3226 C dX9_segment_84 fl_RX9_153 rfl rfl rfl rfl ?_
      refine px_iconst (v := (1 : Int32)) C dX9_segment_87 rfl ?_
      refine px_isub C dX9_segment_88 ?_
      refine px_iload_n (i := 3) C dX9_segment_89 rfl rfl ?_
      refine px_isub C dX9_segment_90 ?_
      refine px_istore (i := 5) C dX9_segment_91 (by decide) rfl ?_
      refine px_iload (i := 4) C dX9_segment_93 rfl ?_
      refine px_if_ne (tgt := 112) C dX9_segment_95 (by decide) (fun c19 => ?_) (fun c19 => ?_)
      · replace hk := hk.1 c19
        refine px_iload (i := 4) C dX9_segment_112 rfl ?_
        refine px_iconst (v := (1 : Int32)) C dX9_segment_114 rfl ?_
        refine px_icmp_ne (tgt := 128) C dX9_segment_115 (by decide) (fun c15 => ?_) (fun c15 => ?_)
        · replace hk := hk.1 c15
          refine px_aload_n (i := 0) C dX9_segment_128 rfl rfl ?_
          refine px_getr C dX9_segment_129 fl_RX9_65 rfl rfl rfl ?_
          refine px_iload (i := 5) C dX9_segment_132 rfl ?_
          obtain ⟨o13, hk⟩ := hk
          refine px_iald 4352 C dX9_segment_134 rfl rfl rfl rfl o13 ?_
          exact px_iret C hRt dX9_segment_135 rfl rfl hk
        · replace hk := hk.2 c15
          refine px_aload_n (i := 0) C dX9_segment_118 rfl rfl ?_
          refine px_getr C dX9_segment_119 fl_RX9_62 rfl rfl rfl ?_
          refine px_iload (i := 5) C dX9_segment_122 rfl ?_
          obtain ⟨o14, hk⟩ := hk
          refine px_iald 4288 C dX9_segment_124 rfl rfl rfl rfl o14 ?_
          refine px_goto (tgt := 135) C dX9_segment_125 (by decide) ?_
          exact px_iret C hRt dX9_segment_135 rfl rfl hk
      · replace hk := hk.2 c19
        refine px_aload_n (i := 0) C dX9_segment_98 rfl rfl ?_
        refine px_aload_n (i := 0) C dX9_segment_99 rfl rfl ?_
        refine px_getr C dX9_segment_100 fl_RX9_59 rfl rfl rfl ?_
        refine px_iload (i := 5) C dX9_segment_103 rfl ?_
        obtain ⟨o16, hk⟩ := hk
        refine px_iald 4224 C dX9_segment_105 rfl rfl rfl rfl o16 ?_
        refine px_callVi (h := 1) (rc' := 0) (rs' := 0) C (HR_le hHR (Nat.le_of_ble_eq_true rfl)) hRt hnT dX9_segment_106 (gw9 46 rfl rfl) mv_X9_number (w9_number_ok (PCx_l C) (PCx_I C) hk) rfl rfl rfl rfl rfl (Nat.le_of_ble_eq_true rfl) (Nat.le_of_ble_eq_true rfl) (Nat.le_of_ble_eq_true rfl) (Nat.le_of_ble_eq_true rfl) ?_
        intro r18 μ17 hk
        refine px_goto (tgt := 135) C dX9_segment_109 (by decide) ?_
        exact px_iret C hRt dX9_segment_135 rfl rfl hk
    · replace hk := hk.2 c22
      refine px_aload_n (i := 0) C dX9_segment_77 rfl rfl ?_
      refine px_iconst (v := (3 : Int32)) C dX9_segment_78 rfl ?_
      refine px_callVi (h := 0) (rc' := 0) (rs' := 0) C (HR_le hHR (Nat.le_of_ble_eq_true rfl)) hRt hnT dX9_segment_79 (gw8 144 rfl rfl) mv_X9_fails (w9_fails_ok (PCx_l C) (PCx_I C) hk) rfl rfl rfl rfl rfl (Nat.le_of_ble_eq_true rfl) (Nat.le_of_ble_eq_true rfl) (Nat.le_of_ble_eq_true rfl) (Nat.le_of_ble_eq_true rfl) ?_
      intro r21 μ20 hk
      exact px_iret C hRt dX9_segment_82 rfl rfl hk
  · replace hk := hk.2 c23
    refine px_iconst (v := (0 : Int32)) C dX9_segment_51 rfl ?_
    exact px_iret C hRt dX9_segment_52 rfl rfl hk
set_option maxRecDepth 100000 in
set_option maxHeartbeats 4000000 in
theorem w9_segment_ok {l : Launch} {idx : List (Nat × Nat)} {μ : Mem} {a1 : Int32} {a2 : Int32} {a3 : Int32} {a4 : Int32} {P : Int32 → Mem → Prop} {X : String → Mem → Prop} (hl : l.stackTraces = false) (hI : IdxOK idx) (hk : w9_segment_wp μ a1 a2 a3 a4 P) : PMet l yX9_segment (.code yX9_segment cX9_segment 6 (some .int)) 65 0 0 idx [pR 50 0, pI a1, pI a2, pI a3, pI a4] μ (qI P) X := by
  refine PMet_of mv_X9_segment.2.2.2.2.2.2 hl hI mv_X9_segment.2.2.2.1 rfl (Nat.le_of_ble_eq_true rfl) (fun G _ _ C hRt hHR hnT => ?_)
  show PW G 0 0 0 [some (pR 50 0), some (pI a1), some (pI a2), some (pI a3), some (pI a4), none] [] μ
  unfold w9_segment_wp at hk
  refine px_aload_n (i := 0) C dX9_segment_0 rfl rfl ?_
  refine px_iload_n (i := 1) C dX9_segment_1 rfl rfl ?_
  refine px_callSi (h := 1) (rc' := 0) (rs' := 0) C (HR_le hHR (Nat.le_of_ble_eq_true rfl)) hRt hnT dX9_segment_2 (gw8 135 rfl rfl) ms_X9_isTrace (w9_isTrace_ok (PCx_l C) (PCx_I C) hk) rfl rfl (Nat.le_of_ble_eq_true rfl) (Nat.le_of_ble_eq_true rfl) (Nat.le_of_ble_eq_true rfl) (Nat.le_of_ble_eq_true rfl) ?_
  intro r2 μ1 hk
  refine px_if_ne (tgt := 12) C dX9_segment_5 (by decide) (fun c26 => ?_) (fun c26 => ?_)
  · replace hk := hk.1 c26
    refine px_iload (i := 4) C dX9_segment_12 rfl ?_
    refine px_iconst (v := (0 : Int32)) C dX9_segment_14 rfl ?_
    refine px_iconst (v := (2 : Int32)) C dX9_segment_15 rfl ?_
    refine px_callSi (h := 0) (rc' := 0) (rs' := 0) C (HR_le hHR (Nat.le_of_ble_eq_true rfl)) hRt hnT dX9_segment_16 (gw8 138 rfl rfl) ms_X9_in (w9_in_ok (PCx_l C) (PCx_I C) hk) rfl rfl (Nat.le_of_ble_eq_true rfl) (Nat.le_of_ble_eq_true rfl) (Nat.le_of_ble_eq_true rfl) (Nat.le_of_ble_eq_true rfl) ?_
    intro r4 μ3 hk
    refine px_if_ne (tgt := 26) C dX9_segment_19 (by decide) (fun c25 => ?_) (fun c25 => ?_)
    · replace hk := hk.1 c25
      refine px_aload_n (i := 0) C dX9_segment_26 rfl rfl ?_
      refine px_iload_n (i := 1) C dX9_segment_27 rfl rfl ?_
      refine px_iload_n (i := 2) C dX9_segment_28 rfl rfl ?_
      refine px_callVi (h := 6) (rc' := 0) (rs' := 0) C (HR_le hHR (Nat.le_of_ble_eq_true rfl)) hRt hnT dX9_segment_29 (gw9 66 rfl rfl) mv_X9_node (w9_node_ok (PCx_l C) (PCx_I C) hk) rfl rfl rfl rfl rfl (Nat.le_of_ble_eq_true rfl) (Nat.le_of_ble_eq_true rfl) (Nat.le_of_ble_eq_true rfl) (Nat.le_of_ble_eq_true rfl) ?_
      intro r6 μ5 hk
      refine px_iconst (v := (-1 : Int32)) C dX9_segment_32 rfl ?_
      refine px_icmp_ne (tgt := 40) C dX9_segment_33 (by decide) (fun c24 => ?_) (fun c24 => ?_)
      · replace hk := hk.1 c24
        refine px_iconst (v := (0 : Int32)) C dX9_segment_40 rfl ?_
        exact PW_at (w9_segment_b41_ok C hRt hHR hnT hk) (And.intro rfl (And.intro rfl (And.intro rfl (And.intro rfl (And.intro rfl trivial))))) (Nat.le_of_ble_eq_true rfl) (Nat.le_of_ble_eq_true rfl)
      · replace hk := hk.2 c24
        refine px_iconst (v := (3 : Int32)) C dX9_segment_36 rfl ?_
        refine px_goto (tgt := 41) C dX9_segment_37 (by decide) ?_
        exact PW_at (w9_segment_b41_ok C hRt hHR hnT hk) (And.intro rfl (And.intro rfl (And.intro rfl (And.intro rfl (And.intro rfl trivial))))) (Nat.le_of_ble_eq_true rfl) (Nat.le_of_ble_eq_true rfl)
    · replace hk := hk.2 c25
      refine px_iconst (v := (2 : Int32)) C dX9_segment_22 rfl ?_
      refine px_goto (tgt := 41) C dX9_segment_23 (by decide) ?_
      exact PW_at (w9_segment_b41_ok C hRt hHR hnT hk) (And.intro rfl (And.intro rfl (And.intro rfl (And.intro rfl (And.intro rfl trivial))))) (Nat.le_of_ble_eq_true rfl) (Nat.le_of_ble_eq_true rfl)
  · replace hk := hk.2 c26
    refine px_iconst (v := (1 : Int32)) C dX9_segment_8 rfl ?_
    refine px_goto (tgt := 41) C dX9_segment_9 (by decide) ?_
    exact PW_at (w9_segment_b41_ok C hRt hHR hnT hk) (And.intro rfl (And.intro rfl (And.intro rfl (And.intro rfl (And.intro rfl trivial))))) (Nat.le_of_ble_eq_true rfl) (Nat.le_of_ble_eq_true rfl)
theorem dX9_criticalTime_0 : decode cX9_criticalTime 0 = .ok (.aload_n 0, 1) := by decide +kernel
theorem dX9_criticalTime_1 : decode cX9_criticalTime 1 = .ok (.iload_n 1, 1) := by decide +kernel
theorem dX9_criticalTime_2 : decode cX9_criticalTime 2 = .ok (.invokevirtual 216, 3) := by decide +kernel
theorem dX9_criticalTime_5 : decode cX9_criticalTime 5 = .ok (.istore_n 2, 1) := by decide +kernel
theorem dX9_criticalTime_6 : decode cX9_criticalTime 6 = .ok (.aload_n 0, 1) := by decide +kernel
theorem dX9_criticalTime_7 : decode cX9_criticalTime 7 = .ok (.getfield 80, 3) := by decide +kernel
theorem dX9_criticalTime_10 : decode cX9_criticalTime 10 = .ok (.ifCond .le 5, 3) := by decide +kernel
theorem dX9_criticalTime_13 : decode cX9_criticalTime 13 = .ok (.iconst 0, 1) := by decide +kernel
theorem dX9_criticalTime_14 : decode cX9_criticalTime 14 = .ok (.ireturn, 1) := by decide +kernel
theorem dX9_criticalTime_15 : decode cX9_criticalTime 15 = .ok (.aload_n 0, 1) := by decide +kernel
theorem dX9_criticalTime_16 : decode cX9_criticalTime 16 = .ok (.invokevirtual 137, 3) := by decide +kernel
theorem dX9_criticalTime_19 : decode cX9_criticalTime 19 = .ok (.aload_n 0, 1) := by decide +kernel
theorem dX9_criticalTime_20 : decode cX9_criticalTime 20 = .ok (.iload_n 2, 1) := by decide +kernel
theorem dX9_criticalTime_21 : decode cX9_criticalTime 21 = .ok (.invokevirtual 249, 3) := by decide +kernel
theorem dX9_criticalTime_24 : decode cX9_criticalTime 24 = .ok (.ireturn, 1) := by decide +kernel
set_option maxRecDepth 100000 in
set_option maxHeartbeats 4000000 in
theorem w9_criticalTime_ok {l : Launch} {idx : List (Nat × Nat)} {μ : Mem} {a1 : Int32} {P : Int32 → Mem → Prop} {X : String → Mem → Prop} (hl : l.stackTraces = false) (hI : IdxOK idx) (hk : w9_criticalTime_wp μ a1 P) : PMet l yX9_criticalTime (.code yX9_criticalTime cX9_criticalTime 3 (some .int)) 66 0 0 idx [pR 50 0, pI a1] μ (qI P) X := by
  refine PMet_of mv_X9_criticalTime.2.2.2.2.2.2 hl hI mv_X9_criticalTime.2.2.2.1 rfl (Nat.le_of_ble_eq_true rfl) (fun G _ _ C hRt hHR hnT => ?_)
  show PW G 0 0 0 [some (pR 50 0), some (pI a1), none] [] μ
  unfold w9_criticalTime_wp at hk
  refine px_aload_n (i := 0) C dX9_criticalTime_0 rfl rfl ?_
  refine px_iload_n (i := 1) C dX9_criticalTime_1 rfl rfl ?_
  refine px_callVi (h := 2) (rc' := 0) (rs' := 0) C (HR_le hHR (Nat.le_of_ble_eq_true rfl)) hRt hnT dX9_criticalTime_2 (gw8 176 rfl rfl) mv_X9_spanOr (w9_spanOr_ok (PCx_l C) (PCx_I C) hk) rfl rfl rfl rfl rfl (Nat.le_of_ble_eq_true rfl) (Nat.le_of_ble_eq_true rfl) (Nat.le_of_ble_eq_true rfl) (Nat.le_of_ble_eq_true rfl) ?_
  intro r2 μ1 hk
  refine px_istore_n (i := 2) C dX9_criticalTime_5 rfl (by decide) rfl ?_
  refine px_aload_n (i := 0) C dX9_criticalTime_6 rfl rfl ?_
  refine px_geti 3201 C dX9_criticalTime_7 fl_RX9_80 rfl rfl rfl rfl ?_
  refine px_if_le (tgt := 15) C dX9_criticalTime_10 (by decide) (fun c6 => ?_) (fun c6 => ?_)
  · replace hk := hk.1 c6
    refine px_aload_n (i := 0) C dX9_criticalTime_15 rfl rfl ?_
    refine px_callVv (h := 5) (rc' := 0) (rs' := 0) C (HR_le hHR (Nat.le_of_ble_eq_true rfl)) hRt hnT dX9_criticalTime_16 (gw8 208 rfl rfl) mv_X9_knows (w9_knows_ok (PCx_l C) (PCx_I C) hk) rfl rfl rfl rfl rfl (Nat.le_of_ble_eq_true rfl) (Nat.le_of_ble_eq_true rfl) (Nat.le_of_ble_eq_true rfl) (Nat.le_of_ble_eq_true rfl) ?_
    intro μ3 hk
    refine px_aload_n (i := 0) C dX9_criticalTime_19 rfl rfl ?_
    refine px_iload_n (i := 2) C dX9_criticalTime_20 rfl rfl ?_
    refine px_callVi (h := 65) (rc' := 0) (rs' := 0) C (HR_le hHR (Nat.le_of_ble_eq_true rfl)) hRt hnT dX9_criticalTime_21 (gw9 156 rfl rfl) mv_X9_critical (w9_critical_ok (PCx_l C) (PCx_I C) hk) rfl rfl rfl rfl rfl (Nat.le_of_ble_eq_true rfl) (Nat.le_of_ble_eq_true rfl) (Nat.le_of_ble_eq_true rfl) (Nat.le_of_ble_eq_true rfl) ?_
    intro r5 μ4 hk
    exact px_iret C hRt dX9_criticalTime_24 rfl rfl hk
  · replace hk := hk.2 c6
    refine px_iconst (v := (0 : Int32)) C dX9_criticalTime_13 rfl ?_
    exact px_iret C hRt dX9_criticalTime_14 rfl rfl hk
theorem dX9_criticalAt_0 : decode cX9_criticalAt 0 = .ok (.aload_n 0, 1) := by decide +kernel
theorem dX9_criticalAt_1 : decode cX9_criticalAt 1 = .ok (.iload_n 1, 1) := by decide +kernel
theorem dX9_criticalAt_2 : decode cX9_criticalAt 2 = .ok (.iload_n 2, 1) := by decide +kernel
theorem dX9_criticalAt_3 : decode cX9_criticalAt 3 = .ok (.invokevirtual 231, 3) := by decide +kernel
theorem dX9_criticalAt_6 : decode cX9_criticalAt 6 = .ok (.istore 4, 2) := by decide +kernel
theorem dX9_criticalAt_8 : decode cX9_criticalAt 8 = .ok (.aload_n 0, 1) := by decide +kernel
theorem dX9_criticalAt_9 : decode cX9_criticalAt 9 = .ok (.getfield 80, 3) := by decide +kernel
theorem dX9_criticalAt_12 : decode cX9_criticalAt 12 = .ok (.ifCond .le 5, 3) := by decide +kernel
theorem dX9_criticalAt_15 : decode cX9_criticalAt 15 = .ok (.iconst 0, 1) := by decide +kernel
theorem dX9_criticalAt_16 : decode cX9_criticalAt 16 = .ok (.ireturn, 1) := by decide +kernel
theorem dX9_criticalAt_17 : decode cX9_criticalAt 17 = .ok (.aload_n 0, 1) := by decide +kernel
theorem dX9_criticalAt_18 : decode cX9_criticalAt 18 = .ok (.iload 4, 2) := by decide +kernel
theorem dX9_criticalAt_20 : decode cX9_criticalAt 20 = .ok (.invokevirtual 182, 3) := by decide +kernel
theorem dX9_criticalAt_23 : decode cX9_criticalAt 23 = .ok (.iconst 0, 1) := by decide +kernel
theorem dX9_criticalAt_24 : decode cX9_criticalAt 24 = .ok (.istore 5, 2) := by decide +kernel
theorem dX9_criticalAt_26 : decode cX9_criticalAt 26 = .ok (.iload 5, 2) := by decide +kernel
theorem dX9_criticalAt_28 : decode cX9_criticalAt 28 = .ok (.aload_n 0, 1) := by decide +kernel
theorem dX9_criticalAt_29 : decode cX9_criticalAt 29 = .ok (.getfield 153, 3) := by decide +kernel
theorem dX9_criticalAt_32 : decode cX9_criticalAt 32 = .ok (.if_icmp .ge 43, 3) := by decide +kernel
theorem dX9_criticalAt_35 : decode cX9_criticalAt 35 = .ok (.aload_n 0, 1) := by decide +kernel
theorem dX9_criticalAt_36 : decode cX9_criticalAt 36 = .ok (.getfield 62, 3) := by decide +kernel
theorem dX9_criticalAt_39 : decode cX9_criticalAt 39 = .ok (.iload 5, 2) := by decide +kernel
theorem dX9_criticalAt_41 : decode cX9_criticalAt 41 = .ok (.iaload, 1) := by decide +kernel
theorem dX9_criticalAt_42 : decode cX9_criticalAt 42 = .ok (.iload_n 3, 1) := by decide +kernel
theorem dX9_criticalAt_43 : decode cX9_criticalAt 43 = .ok (.if_icmp .gt 26, 3) := by decide +kernel
theorem dX9_criticalAt_46 : decode cX9_criticalAt 46 = .ok (.aload_n 0, 1) := by decide +kernel
theorem dX9_criticalAt_47 : decode cX9_criticalAt 47 = .ok (.getfield 65, 3) := by decide +kernel
theorem dX9_criticalAt_50 : decode cX9_criticalAt 50 = .ok (.iload 5, 2) := by decide +kernel
theorem dX9_criticalAt_52 : decode cX9_criticalAt 52 = .ok (.iaload, 1) := by decide +kernel
theorem dX9_criticalAt_53 : decode cX9_criticalAt 53 = .ok (.iload_n 3, 1) := by decide +kernel
theorem dX9_criticalAt_54 : decode cX9_criticalAt 54 = .ok (.if_icmp .le 15, 3) := by decide +kernel
theorem dX9_criticalAt_57 : decode cX9_criticalAt 57 = .ok (.aload_n 0, 1) := by decide +kernel
theorem dX9_criticalAt_58 : decode cX9_criticalAt 58 = .ok (.aload_n 0, 1) := by decide +kernel
theorem dX9_criticalAt_59 : decode cX9_criticalAt 59 = .ok (.getfield 59, 3) := by decide +kernel
theorem dX9_criticalAt_62 : decode cX9_criticalAt 62 = .ok (.iload 5, 2) := by decide +kernel
theorem dX9_criticalAt_64 : decode cX9_criticalAt 64 = .ok (.iaload, 1) := by decide +kernel
theorem dX9_criticalAt_65 : decode cX9_criticalAt 65 = .ok (.invokevirtual 225, 3) := by decide +kernel
theorem dX9_criticalAt_68 : decode cX9_criticalAt 68 = .ok (.ireturn, 1) := by decide +kernel
theorem dX9_criticalAt_69 : decode cX9_criticalAt 69 = .ok (.iinc 5 1, 3) := by decide +kernel
theorem dX9_criticalAt_72 : decode cX9_criticalAt 72 = .ok (.goto (-46), 3) := by decide +kernel
theorem dX9_criticalAt_75 : decode cX9_criticalAt 75 = .ok (.aload_n 0, 1) := by decide +kernel
theorem dX9_criticalAt_76 : decode cX9_criticalAt 76 = .ok (.iconst 2, 1) := by decide +kernel
theorem dX9_criticalAt_77 : decode cX9_criticalAt 77 = .ok (.invokevirtual 203, 3) := by decide +kernel
theorem dX9_criticalAt_80 : decode cX9_criticalAt 80 = .ok (.ireturn, 1) := by decide +kernel
set_option maxRecDepth 100000 in
set_option maxHeartbeats 4000000 in
theorem w9_criticalAt_b26_ok {G : GT} {P : Int32 → Mem → Prop} {X : String → Mem → Prop} (C : PCx G cX9_criticalAt 6 RX9) (hRt : PRt G (some .int) (qI P) X) (hHR : HR G (65)) (hnT : NoT G) {μ : Mem} {l3 : Int32} {l5 : Int32} (hk : w9_criticalAt_b26 P μ l3 l5) : PW G 0 0 26 [some (pR 50 0), none, none, some (pI l3), none, some (pI l5)] [] μ := by
  refine hk (fun (μ : Mem) (l3 : Int32) (l5 : Int32) => PW G 0 0 26 [some (pR 50 0), none, none, some (pI l3), none, some (pI l5)] [] μ) (fun (μ : Mem) l3 l5 hk => ?_)
  have hR26 : ∀ (μ : Mem) (l3 : Int32) (l5 : Int32), PW G 0 0 26 [some (pR 50 0), none, none, some (pI l3), none, some (pI l5)] [] μ → PW G 0 0 26 [some (pR 50 0), none, none, some (pI l3), none, some (pI l5)] [] μ := fun _ _ _ h => h
  unfold w9_criticalAt_b26_body at hk
  refine px_iload (i := 5) C dX9_criticalAt_26 rfl ?_
  refine px_aload_n (i := 0) C dX9_criticalAt_28 rfl rfl ?_
  refine px_geti 3226 C dX9_criticalAt_29 fl_RX9_153 rfl rfl rfl rfl ?_
  refine px_icmp_ge (tgt := 75) C dX9_criticalAt_32 (by decide) (fun c13 => ?_) (fun c13 => ?_)
  · replace hk := hk.1 c13
    refine px_aload_n (i := 0) C dX9_criticalAt_75 rfl rfl ?_
    refine px_iconst (v := (2 : Int32)) C dX9_criticalAt_76 rfl ?_
    refine px_callVi (h := 0) (rc' := 0) (rs' := 0) C (HR_le hHR (Nat.le_of_ble_eq_true rfl)) hRt hnT dX9_criticalAt_77 (gw8 144 rfl rfl) mv_X9_fails (w9_fails_ok (PCx_l C) (PCx_I C) hk) rfl rfl rfl rfl rfl (Nat.le_of_ble_eq_true rfl) (Nat.le_of_ble_eq_true rfl) (Nat.le_of_ble_eq_true rfl) (Nat.le_of_ble_eq_true rfl) ?_
    intro r5 μ4 hk
    exact px_iret C hRt dX9_criticalAt_80 rfl rfl hk
  · replace hk := hk.2 c13
    refine px_aload_n (i := 0) C dX9_criticalAt_35 rfl rfl ?_
    refine px_getr C dX9_criticalAt_36 fl_RX9_62 rfl rfl rfl ?_
    refine px_iload (i := 5) C dX9_criticalAt_39 rfl ?_
    obtain ⟨o6, hk⟩ := hk
    refine px_iald 4288 C dX9_criticalAt_41 rfl rfl rfl rfl o6 ?_
    refine px_iload_n (i := 3) C dX9_criticalAt_42 rfl rfl ?_
    refine px_icmp_gt (tgt := 69) C dX9_criticalAt_43 (by decide) (fun c12 => ?_) (fun c12 => ?_)
    · replace hk := hk.1 c12
      refine px_iinc (i := 5) (v := (1 : Int32)) C dX9_criticalAt_69 rfl rfl (by decide) rfl ?_
      refine px_goto (tgt := 26) C dX9_criticalAt_72 (by decide) ?_
      exact PW_at (hR26 _ _ _ hk) (And.intro rfl (And.intro rfl (And.intro rfl trivial))) (Nat.le_of_ble_eq_true rfl) (Nat.le_of_ble_eq_true rfl)
    · replace hk := hk.2 c12
      refine px_aload_n (i := 0) C dX9_criticalAt_46 rfl rfl ?_
      refine px_getr C dX9_criticalAt_47 fl_RX9_65 rfl rfl rfl ?_
      refine px_iload (i := 5) C dX9_criticalAt_50 rfl ?_
      obtain ⟨o7, hk⟩ := hk
      refine px_iald 4352 C dX9_criticalAt_52 rfl rfl rfl rfl o7 ?_
      refine px_iload_n (i := 3) C dX9_criticalAt_53 rfl rfl ?_
      refine px_icmp_le (tgt := 69) C dX9_criticalAt_54 (by decide) (fun c11 => ?_) (fun c11 => ?_)
      · replace hk := hk.1 c11
        refine px_iinc (i := 5) (v := (1 : Int32)) C dX9_criticalAt_69 rfl rfl (by decide) rfl ?_
        refine px_goto (tgt := 26) C dX9_criticalAt_72 (by decide) ?_
        exact PW_at (hR26 _ _ _ hk) (And.intro rfl (And.intro rfl (And.intro rfl trivial))) (Nat.le_of_ble_eq_true rfl) (Nat.le_of_ble_eq_true rfl)
      · replace hk := hk.2 c11
        refine px_aload_n (i := 0) C dX9_criticalAt_57 rfl rfl ?_
        refine px_aload_n (i := 0) C dX9_criticalAt_58 rfl rfl ?_
        refine px_getr C dX9_criticalAt_59 fl_RX9_59 rfl rfl rfl ?_
        refine px_iload (i := 5) C dX9_criticalAt_62 rfl ?_
        obtain ⟨o8, hk⟩ := hk
        refine px_iald 4224 C dX9_criticalAt_64 rfl rfl rfl rfl o8 ?_
        refine px_callVi (h := 1) (rc' := 0) (rs' := 0) C (HR_le hHR (Nat.le_of_ble_eq_true rfl)) hRt hnT dX9_criticalAt_65 (gw9 46 rfl rfl) mv_X9_number (w9_number_ok (PCx_l C) (PCx_I C) hk) rfl rfl rfl rfl rfl (Nat.le_of_ble_eq_true rfl) (Nat.le_of_ble_eq_true rfl) (Nat.le_of_ble_eq_true rfl) (Nat.le_of_ble_eq_true rfl) ?_
        intro r10 μ9 hk
        exact px_iret C hRt dX9_criticalAt_68 rfl rfl hk
set_option maxRecDepth 100000 in
set_option maxHeartbeats 4000000 in
theorem w9_criticalAt_ok {l : Launch} {idx : List (Nat × Nat)} {μ : Mem} {a1 : Int32} {a2 : Int32} {a3 : Int32} {P : Int32 → Mem → Prop} {X : String → Mem → Prop} (hl : l.stackTraces = false) (hI : IdxOK idx) (hk : w9_criticalAt_wp μ a1 a2 a3 P) : PMet l yX9_criticalAt (.code yX9_criticalAt cX9_criticalAt 6 (some .int)) 65 0 0 idx [pR 50 0, pI a1, pI a2, pI a3] μ (qI P) X := by
  refine PMet_of mv_X9_criticalAt.2.2.2.2.2.2 hl hI mv_X9_criticalAt.2.2.2.1 rfl (Nat.le_of_ble_eq_true rfl) (fun G _ _ C hRt hHR hnT => ?_)
  show PW G 0 0 0 [some (pR 50 0), some (pI a1), some (pI a2), some (pI a3), none, none] [] μ
  unfold w9_criticalAt_wp at hk
  refine px_aload_n (i := 0) C dX9_criticalAt_0 rfl rfl ?_
  refine px_iload_n (i := 1) C dX9_criticalAt_1 rfl rfl ?_
  refine px_iload_n (i := 2) C dX9_criticalAt_2 rfl rfl ?_
  refine px_callVi (h := 7) (rc' := 0) (rs' := 0) C (HR_le hHR (Nat.le_of_ble_eq_true rfl)) hRt hnT dX9_criticalAt_3 (gw9 62 rfl rfl) mv_X9_nodeOr (w9_nodeOr_ok (PCx_l C) (PCx_I C) hk) rfl rfl rfl rfl rfl (Nat.le_of_ble_eq_true rfl) (Nat.le_of_ble_eq_true rfl) (Nat.le_of_ble_eq_true rfl) (Nat.le_of_ble_eq_true rfl) ?_
  intro r2 μ1 hk
  refine px_istore (i := 4) C dX9_criticalAt_6 (by decide) rfl ?_
  refine px_aload_n (i := 0) C dX9_criticalAt_8 rfl rfl ?_
  refine px_geti 3201 C dX9_criticalAt_9 fl_RX9_80 rfl rfl rfl rfl ?_
  refine px_if_le (tgt := 17) C dX9_criticalAt_12 (by decide) (fun c14 => ?_) (fun c14 => ?_)
  · replace hk := hk.1 c14
    refine px_aload_n (i := 0) C dX9_criticalAt_17 rfl rfl ?_
    refine px_iload (i := 4) C dX9_criticalAt_18 rfl ?_
    refine px_callVv (h := 64) (rc' := 0) (rs' := 0) C (HR_le hHR (Nat.le_of_ble_eq_true rfl)) hRt hnT dX9_criticalAt_20 (gw9 130 rfl rfl) mv_X9_path (w9_path_ok (PCx_l C) (PCx_I C) hk) rfl rfl rfl rfl rfl (Nat.le_of_ble_eq_true rfl) (Nat.le_of_ble_eq_true rfl) (Nat.le_of_ble_eq_true rfl) (Nat.le_of_ble_eq_true rfl) ?_
    intro μ3 hk
    refine px_iconst (v := (0 : Int32)) C dX9_criticalAt_23 rfl ?_
    refine px_istore (i := 5) C dX9_criticalAt_24 (by decide) rfl ?_
    exact PW_at (w9_criticalAt_b26_ok C hRt hHR hnT hk) (And.intro rfl (And.intro rfl (And.intro rfl trivial))) (Nat.le_of_ble_eq_true rfl) (Nat.le_of_ble_eq_true rfl)
  · replace hk := hk.2 c14
    refine px_iconst (v := (0 : Int32)) C dX9_criticalAt_15 rfl ?_
    exact px_iret C hRt dX9_criticalAt_16 rfl rfl hk
theorem dX9_selfTime_0 : decode cX9_selfTime 0 = .ok (.aload_n 0, 1) := by decide +kernel
theorem dX9_selfTime_1 : decode cX9_selfTime 1 = .ok (.iload_n 1, 1) := by decide +kernel
theorem dX9_selfTime_2 : decode cX9_selfTime 2 = .ok (.invokevirtual 216, 3) := by decide +kernel
theorem dX9_selfTime_5 : decode cX9_selfTime 5 = .ok (.istore_n 2, 1) := by decide +kernel
theorem dX9_selfTime_6 : decode cX9_selfTime 6 = .ok (.aload_n 0, 1) := by decide +kernel
theorem dX9_selfTime_7 : decode cX9_selfTime 7 = .ok (.getfield 80, 3) := by decide +kernel
theorem dX9_selfTime_10 : decode cX9_selfTime 10 = .ok (.ifCond .le 5, 3) := by decide +kernel
theorem dX9_selfTime_13 : decode cX9_selfTime 13 = .ok (.iconst 0, 1) := by decide +kernel
theorem dX9_selfTime_14 : decode cX9_selfTime 14 = .ok (.ireturn, 1) := by decide +kernel
theorem dX9_selfTime_15 : decode cX9_selfTime 15 = .ok (.aload_n 0, 1) := by decide +kernel
theorem dX9_selfTime_16 : decode cX9_selfTime 16 = .ok (.invokevirtual 137, 3) := by decide +kernel
theorem dX9_selfTime_19 : decode cX9_selfTime 19 = .ok (.aload_n 0, 1) := by decide +kernel
theorem dX9_selfTime_20 : decode cX9_selfTime 20 = .ok (.iload_n 2, 1) := by decide +kernel
theorem dX9_selfTime_21 : decode cX9_selfTime 21 = .ok (.invokevirtual 252, 3) := by decide +kernel
theorem dX9_selfTime_24 : decode cX9_selfTime 24 = .ok (.ireturn, 1) := by decide +kernel
set_option maxRecDepth 100000 in
set_option maxHeartbeats 4000000 in
theorem w9_selfTime_ok {l : Launch} {idx : List (Nat × Nat)} {μ : Mem} {a1 : Int32} {P : Int32 → Mem → Prop} {X : String → Mem → Prop} (hl : l.stackTraces = false) (hI : IdxOK idx) (hk : w9_selfTime_wp μ a1 P) : PMet l yX9_selfTime (.code yX9_selfTime cX9_selfTime 3 (some .int)) 6 0 0 idx [pR 50 0, pI a1] μ (qI P) X := by
  refine PMet_of mv_X9_selfTime.2.2.2.2.2.2 hl hI mv_X9_selfTime.2.2.2.1 rfl (Nat.le_of_ble_eq_true rfl) (fun G _ _ C hRt hHR hnT => ?_)
  show PW G 0 0 0 [some (pR 50 0), some (pI a1), none] [] μ
  unfold w9_selfTime_wp at hk
  refine px_aload_n (i := 0) C dX9_selfTime_0 rfl rfl ?_
  refine px_iload_n (i := 1) C dX9_selfTime_1 rfl rfl ?_
  refine px_callVi (h := 2) (rc' := 0) (rs' := 0) C (HR_le hHR (Nat.le_of_ble_eq_true rfl)) hRt hnT dX9_selfTime_2 (gw8 176 rfl rfl) mv_X9_spanOr (w9_spanOr_ok (PCx_l C) (PCx_I C) hk) rfl rfl rfl rfl rfl (Nat.le_of_ble_eq_true rfl) (Nat.le_of_ble_eq_true rfl) (Nat.le_of_ble_eq_true rfl) (Nat.le_of_ble_eq_true rfl) ?_
  intro r2 μ1 hk
  refine px_istore_n (i := 2) C dX9_selfTime_5 rfl (by decide) rfl ?_
  refine px_aload_n (i := 0) C dX9_selfTime_6 rfl rfl ?_
  refine px_geti 3201 C dX9_selfTime_7 fl_RX9_80 rfl rfl rfl rfl ?_
  refine px_if_le (tgt := 15) C dX9_selfTime_10 (by decide) (fun c6 => ?_) (fun c6 => ?_)
  · replace hk := hk.1 c6
    refine px_aload_n (i := 0) C dX9_selfTime_15 rfl rfl ?_
    refine px_callVv (h := 5) (rc' := 0) (rs' := 0) C (HR_le hHR (Nat.le_of_ble_eq_true rfl)) hRt hnT dX9_selfTime_16 (gw8 208 rfl rfl) mv_X9_knows (w9_knows_ok (PCx_l C) (PCx_I C) hk) rfl rfl rfl rfl rfl (Nat.le_of_ble_eq_true rfl) (Nat.le_of_ble_eq_true rfl) (Nat.le_of_ble_eq_true rfl) (Nat.le_of_ble_eq_true rfl) ?_
    intro μ3 hk
    refine px_aload_n (i := 0) C dX9_selfTime_19 rfl rfl ?_
    refine px_iload_n (i := 2) C dX9_selfTime_20 rfl rfl ?_
    refine px_callVi (h := 2) (rc' := 0) (rs' := 0) C (HR_le hHR (Nat.le_of_ble_eq_true rfl)) hRt hnT dX9_selfTime_21 (gw9 168 rfl rfl) mv_X9_own (w9_own_ok (PCx_l C) (PCx_I C) hk) rfl rfl rfl rfl rfl (Nat.le_of_ble_eq_true rfl) (Nat.le_of_ble_eq_true rfl) (Nat.le_of_ble_eq_true rfl) (Nat.le_of_ble_eq_true rfl) ?_
    intro r5 μ4 hk
    exact px_iret C hRt dX9_selfTime_24 rfl rfl hk
  · replace hk := hk.2 c6
    refine px_iconst (v := (0 : Int32)) C dX9_selfTime_13 rfl ?_
    exact px_iret C hRt dX9_selfTime_14 rfl rfl hk
theorem dX9_parallel_0 : decode cX9_parallel 0 = .ok (.aload_n 0, 1) := by decide +kernel
theorem dX9_parallel_1 : decode cX9_parallel 1 = .ok (.iload_n 1, 1) := by decide +kernel
theorem dX9_parallel_2 : decode cX9_parallel 2 = .ok (.invokevirtual 216, 3) := by decide +kernel
theorem dX9_parallel_5 : decode cX9_parallel 5 = .ok (.istore_n 3, 1) := by decide +kernel
theorem dX9_parallel_6 : decode cX9_parallel 6 = .ok (.aload_n 0, 1) := by decide +kernel
theorem dX9_parallel_7 : decode cX9_parallel 7 = .ok (.getfield 80, 3) := by decide +kernel
theorem dX9_parallel_10 : decode cX9_parallel 10 = .ok (.ifCond .le 5, 3) := by decide +kernel
theorem dX9_parallel_13 : decode cX9_parallel 13 = .ok (.iconst 0, 1) := by decide +kernel
theorem dX9_parallel_14 : decode cX9_parallel 14 = .ok (.ireturn, 1) := by decide +kernel
theorem dX9_parallel_15 : decode cX9_parallel 15 = .ok (.aload_n 0, 1) := by decide +kernel
theorem dX9_parallel_16 : decode cX9_parallel 16 = .ok (.invokevirtual 137, 3) := by decide +kernel
theorem dX9_parallel_19 : decode cX9_parallel 19 = .ok (.iconst 0, 1) := by decide +kernel
theorem dX9_parallel_20 : decode cX9_parallel 20 = .ok (.istore 4, 2) := by decide +kernel
theorem dX9_parallel_22 : decode cX9_parallel 22 = .ok (.iconst 0, 1) := by decide +kernel
theorem dX9_parallel_23 : decode cX9_parallel 23 = .ok (.istore 5, 2) := by decide +kernel
theorem dX9_parallel_25 : decode cX9_parallel 25 = .ok (.iload 5, 2) := by decide +kernel
theorem dX9_parallel_27 : decode cX9_parallel 27 = .ok (.aload_n 0, 1) := by decide +kernel
theorem dX9_parallel_28 : decode cX9_parallel 28 = .ok (.getfield 7, 3) := by decide +kernel
theorem dX9_parallel_31 : decode cX9_parallel 31 = .ok (.iconst 0, 1) := by decide +kernel
theorem dX9_parallel_32 : decode cX9_parallel 32 = .ok (.iaload, 1) := by decide +kernel
theorem dX9_parallel_33 : decode cX9_parallel 33 = .ok (.if_icmp .ge 50, 3) := by decide +kernel
theorem dX9_parallel_36 : decode cX9_parallel 36 = .ok (.iload 4, 2) := by decide +kernel
theorem dX9_parallel_38 : decode cX9_parallel 38 = .ok (.aload_n 0, 1) := by decide +kernel
theorem dX9_parallel_39 : decode cX9_parallel 39 = .ok (.getfield 47, 3) := by decide +kernel
theorem dX9_parallel_42 : decode cX9_parallel 42 = .ok (.iload 5, 2) := by decide +kernel
theorem dX9_parallel_44 : decode cX9_parallel 44 = .ok (.iaload, 1) := by decide +kernel
theorem dX9_parallel_45 : decode cX9_parallel 45 = .ok (.iload_n 3, 1) := by decide +kernel
theorem dX9_parallel_46 : decode cX9_parallel 46 = .ok (.if_icmp .ne 27, 3) := by decide +kernel
theorem dX9_parallel_49 : decode cX9_parallel 49 = .ok (.aload_n 0, 1) := by decide +kernel
theorem dX9_parallel_50 : decode cX9_parallel 50 = .ok (.iload 5, 2) := by decide +kernel
theorem dX9_parallel_52 : decode cX9_parallel 52 = .ok (.invokevirtual 131, 3) := by decide +kernel
theorem dX9_parallel_55 : decode cX9_parallel 55 = .ok (.iload_n 2, 1) := by decide +kernel
theorem dX9_parallel_56 : decode cX9_parallel 56 = .ok (.if_icmp .gt 17, 3) := by decide +kernel
theorem dX9_parallel_59 : decode cX9_parallel 59 = .ok (.aload_n 0, 1) := by decide +kernel
theorem dX9_parallel_60 : decode cX9_parallel 60 = .ok (.iload 5, 2) := by decide +kernel
theorem dX9_parallel_62 : decode cX9_parallel 62 = .ok (.invokevirtual 134, 3) := by decide +kernel
theorem dX9_parallel_65 : decode cX9_parallel 65 = .ok (.iload_n 2, 1) := by decide +kernel
theorem dX9_parallel_66 : decode cX9_parallel 66 = .ok (.if_icmp .le 7, 3) := by decide +kernel
theorem dX9_parallel_69 : decode cX9_parallel 69 = .ok (.iconst 1, 1) := by decide +kernel
theorem dX9_parallel_70 : decode cX9_parallel 70 = .ok (.goto 4, 3) := by decide +kernel
theorem dX9_parallel_73 : decode cX9_parallel 73 = .ok (.iconst 0, 1) := by decide +kernel
theorem dX9_parallel_74 : decode cX9_parallel 74 = .ok (.iadd, 1) := by decide +kernel
theorem dX9_parallel_75 : decode cX9_parallel 75 = .ok (.istore 4, 2) := by decide +kernel
theorem dX9_parallel_77 : decode cX9_parallel 77 = .ok (.iinc 5 1, 3) := by decide +kernel
theorem dX9_parallel_80 : decode cX9_parallel 80 = .ok (.goto (-55), 3) := by decide +kernel
theorem dX9_parallel_83 : decode cX9_parallel 83 = .ok (.iload 4, 2) := by decide +kernel
theorem dX9_parallel_85 : decode cX9_parallel 85 = .ok (.ireturn, 1) := by decide +kernel
set_option maxRecDepth 100000 in
set_option maxHeartbeats 4000000 in
theorem w9_parallel_b25_ok {G : GT} {P : Int32 → Mem → Prop} {X : String → Mem → Prop} (C : PCx G cX9_parallel 6 RX9) (hRt : PRt G (some .int) (qI P) X) (hHR : HR G (6)) (hnT : NoT G) {μ : Mem} {l2 : Int32} {l3 : Int32} {l4 : Int32} {l5 : Int32} (hk : w9_parallel_b25 P μ l2 l3 l4 l5) : PW G 0 0 25 [some (pR 50 0), none, some (pI l2), some (pI l3), some (pI l4), some (pI l5)] [] μ := by
  refine hk (fun (μ : Mem) (l2 : Int32) (l3 : Int32) (l4 : Int32) (l5 : Int32) => PW G 0 0 25 [some (pR 50 0), none, some (pI l2), some (pI l3), some (pI l4), some (pI l5)] [] μ) (fun (μ : Mem) l2 l3 l4 l5 hk => ?_)
  have hR25 : ∀ (μ : Mem) (l2 : Int32) (l3 : Int32) (l4 : Int32) (l5 : Int32), PW G 0 0 25 [some (pR 50 0), none, some (pI l2), some (pI l3), some (pI l4), some (pI l5)] [] μ → PW G 0 0 25 [some (pR 50 0), none, some (pI l2), some (pI l3), some (pI l4), some (pI l5)] [] μ := fun _ _ _ _ _ h => h
  unfold w9_parallel_b25_body at hk
  refine px_iload (i := 5) C dX9_parallel_25 rfl ?_
  refine px_aload_n (i := 0) C dX9_parallel_27 rfl rfl ?_
  refine px_getr C dX9_parallel_28 fl_RX9_7 rfl rfl rfl ?_
  refine px_iconst (v := (0 : Int32)) C dX9_parallel_31 rfl ?_
  obtain ⟨o4, hk⟩ := hk
  refine px_iald 3264 C dX9_parallel_32 rfl rfl rfl rfl o4 ?_
  refine px_icmp_ge (tgt := 83) C dX9_parallel_33 (by decide) (fun c13 => ?_) (fun c13 => ?_)
  · replace hk := hk.1 c13
    refine px_iload (i := 4) C dX9_parallel_83 rfl ?_
    exact px_iret C hRt dX9_parallel_85 rfl rfl hk
  · replace hk := hk.2 c13
    refine px_iload (i := 4) C dX9_parallel_36 rfl ?_
    refine px_aload_n (i := 0) C dX9_parallel_38 rfl rfl ?_
    refine px_getr C dX9_parallel_39 fl_RX9_47 rfl rfl rfl ?_
    refine px_iload (i := 5) C dX9_parallel_42 rfl ?_
    obtain ⟨o5, hk⟩ := hk
    refine px_iald 3968 C dX9_parallel_44 rfl rfl rfl rfl o5 ?_
    refine px_iload_n (i := 3) C dX9_parallel_45 rfl rfl ?_
    refine px_icmp_ne (tgt := 73) C dX9_parallel_46 (by decide) (fun c12 => ?_) (fun c12 => ?_)
    · replace hk := hk.1 c12
      refine px_iconst (v := (0 : Int32)) C dX9_parallel_73 rfl ?_
      refine px_iadd C dX9_parallel_74 ?_
      refine px_istore (i := 4) C dX9_parallel_75 (by decide) rfl ?_
      refine px_iinc (i := 5) (v := (1 : Int32)) C dX9_parallel_77 rfl rfl (by decide) rfl ?_
      refine px_goto (tgt := 25) C dX9_parallel_80 (by decide) ?_
      exact PW_at (hR25 _ _ _ _ _ hk) (And.intro rfl (And.intro rfl (And.intro rfl (And.intro rfl (And.intro rfl trivial))))) (Nat.le_of_ble_eq_true rfl) (Nat.le_of_ble_eq_true rfl)
    · replace hk := hk.2 c12
      refine px_aload_n (i := 0) C dX9_parallel_49 rfl rfl ?_
      refine px_iload (i := 5) C dX9_parallel_50 rfl ?_
      refine px_callVi (h := 1) (rc' := 0) (rs' := 0) C (HR_le hHR (Nat.le_of_ble_eq_true rfl)) hRt hnT dX9_parallel_52 (gw9 22 rfl rfl) mv_X9_begin (w9_begin_ok (PCx_l C) (PCx_I C) hk) rfl rfl rfl rfl rfl (Nat.le_of_ble_eq_true rfl) (Nat.le_of_ble_eq_true rfl) (Nat.le_of_ble_eq_true rfl) (Nat.le_of_ble_eq_true rfl) ?_
      intro r7 μ6 hk
      refine px_iload_n (i := 2) C dX9_parallel_55 rfl rfl ?_
      refine px_icmp_gt (tgt := 73) C dX9_parallel_56 (by decide) (fun c11 => ?_) (fun c11 => ?_)
      · replace hk := hk.1 c11
        refine px_iconst (v := (0 : Int32)) C dX9_parallel_73 rfl ?_
        refine px_iadd C dX9_parallel_74 ?_
        refine px_istore (i := 4) C dX9_parallel_75 (by decide) rfl ?_
        refine px_iinc (i := 5) (v := (1 : Int32)) C dX9_parallel_77 rfl rfl (by decide) rfl ?_
        refine px_goto (tgt := 25) C dX9_parallel_80 (by decide) ?_
        exact PW_at (hR25 _ _ _ _ _ hk) (And.intro rfl (And.intro rfl (And.intro rfl (And.intro rfl (And.intro rfl trivial))))) (Nat.le_of_ble_eq_true rfl) (Nat.le_of_ble_eq_true rfl)
      · replace hk := hk.2 c11
        refine px_aload_n (i := 0) C dX9_parallel_59 rfl rfl ?_
        refine px_iload (i := 5) C dX9_parallel_60 rfl ?_
        refine px_callVi (h := 1) (rc' := 0) (rs' := 0) C (HR_le hHR (Nat.le_of_ble_eq_true rfl)) hRt hnT dX9_parallel_62 (gw9 26 rfl rfl) mv_X9_end (w9_end_ok (PCx_l C) (PCx_I C) hk) rfl rfl rfl rfl rfl (Nat.le_of_ble_eq_true rfl) (Nat.le_of_ble_eq_true rfl) (Nat.le_of_ble_eq_true rfl) (Nat.le_of_ble_eq_true rfl) ?_
        intro r9 μ8 hk
        refine px_iload_n (i := 2) C dX9_parallel_65 rfl rfl ?_
        refine px_icmp_le (tgt := 73) C dX9_parallel_66 (by decide) (fun c10 => ?_) (fun c10 => ?_)
        · replace hk := hk.1 c10
          refine px_iconst (v := (0 : Int32)) C dX9_parallel_73 rfl ?_
          refine px_iadd C dX9_parallel_74 ?_
          refine px_istore (i := 4) C dX9_parallel_75 (by decide) rfl ?_
          refine px_iinc (i := 5) (v := (1 : Int32)) C dX9_parallel_77 rfl rfl (by decide) rfl ?_
          refine px_goto (tgt := 25) C dX9_parallel_80 (by decide) ?_
          exact PW_at (hR25 _ _ _ _ _ hk) (And.intro rfl (And.intro rfl (And.intro rfl (And.intro rfl (And.intro rfl trivial))))) (Nat.le_of_ble_eq_true rfl) (Nat.le_of_ble_eq_true rfl)
        · replace hk := hk.2 c10
          refine px_iconst (v := (1 : Int32)) C dX9_parallel_69 rfl ?_
          refine px_goto (tgt := 74) C dX9_parallel_70 (by decide) ?_
          refine px_iadd C dX9_parallel_74 ?_
          refine px_istore (i := 4) C dX9_parallel_75 (by decide) rfl ?_
          refine px_iinc (i := 5) (v := (1 : Int32)) C dX9_parallel_77 rfl rfl (by decide) rfl ?_
          refine px_goto (tgt := 25) C dX9_parallel_80 (by decide) ?_
          exact PW_at (hR25 _ _ _ _ _ hk) (And.intro rfl (And.intro rfl (And.intro rfl (And.intro rfl (And.intro rfl trivial))))) (Nat.le_of_ble_eq_true rfl) (Nat.le_of_ble_eq_true rfl)
set_option maxRecDepth 100000 in
set_option maxHeartbeats 4000000 in
theorem w9_parallel_ok {l : Launch} {idx : List (Nat × Nat)} {μ : Mem} {a1 : Int32} {a2 : Int32} {P : Int32 → Mem → Prop} {X : String → Mem → Prop} (hl : l.stackTraces = false) (hI : IdxOK idx) (hk : w9_parallel_wp μ a1 a2 P) : PMet l yX9_parallel (.code yX9_parallel cX9_parallel 6 (some .int)) 6 0 0 idx [pR 50 0, pI a1, pI a2] μ (qI P) X := by
  refine PMet_of mv_X9_parallel.2.2.2.2.2.2 hl hI mv_X9_parallel.2.2.2.1 rfl (Nat.le_of_ble_eq_true rfl) (fun G _ _ C hRt hHR hnT => ?_)
  show PW G 0 0 0 [some (pR 50 0), some (pI a1), some (pI a2), none, none, none] [] μ
  unfold w9_parallel_wp at hk
  refine px_aload_n (i := 0) C dX9_parallel_0 rfl rfl ?_
  refine px_iload_n (i := 1) C dX9_parallel_1 rfl rfl ?_
  refine px_callVi (h := 2) (rc' := 0) (rs' := 0) C (HR_le hHR (Nat.le_of_ble_eq_true rfl)) hRt hnT dX9_parallel_2 (gw8 176 rfl rfl) mv_X9_spanOr (w9_spanOr_ok (PCx_l C) (PCx_I C) hk) rfl rfl rfl rfl rfl (Nat.le_of_ble_eq_true rfl) (Nat.le_of_ble_eq_true rfl) (Nat.le_of_ble_eq_true rfl) (Nat.le_of_ble_eq_true rfl) ?_
  intro r2 μ1 hk
  refine px_istore_n (i := 3) C dX9_parallel_5 rfl (by decide) rfl ?_
  refine px_aload_n (i := 0) C dX9_parallel_6 rfl rfl ?_
  refine px_geti 3201 C dX9_parallel_7 fl_RX9_80 rfl rfl rfl rfl ?_
  refine px_if_le (tgt := 15) C dX9_parallel_10 (by decide) (fun c14 => ?_) (fun c14 => ?_)
  · replace hk := hk.1 c14
    refine px_aload_n (i := 0) C dX9_parallel_15 rfl rfl ?_
    refine px_callVv (h := 5) (rc' := 0) (rs' := 0) C (HR_le hHR (Nat.le_of_ble_eq_true rfl)) hRt hnT dX9_parallel_16 (gw8 208 rfl rfl) mv_X9_knows (w9_knows_ok (PCx_l C) (PCx_I C) hk) rfl rfl rfl rfl rfl (Nat.le_of_ble_eq_true rfl) (Nat.le_of_ble_eq_true rfl) (Nat.le_of_ble_eq_true rfl) (Nat.le_of_ble_eq_true rfl) ?_
    intro μ3 hk
    refine px_iconst (v := (0 : Int32)) C dX9_parallel_19 rfl ?_
    refine px_istore (i := 4) C dX9_parallel_20 (by decide) rfl ?_
    refine px_iconst (v := (0 : Int32)) C dX9_parallel_22 rfl ?_
    refine px_istore (i := 5) C dX9_parallel_23 (by decide) rfl ?_
    exact PW_at (w9_parallel_b25_ok C hRt hHR hnT hk) (And.intro rfl (And.intro rfl (And.intro rfl (And.intro rfl (And.intro rfl trivial))))) (Nat.le_of_ble_eq_true rfl) (Nat.le_of_ble_eq_true rfl)
  · replace hk := hk.2 c14
    refine px_iconst (v := (0 : Int32)) C dX9_parallel_13 rfl ?_
    exact px_iret C hRt dX9_parallel_14 rfl rfl hk
theorem dX9_isCause_0 : decode cX9_isCause 0 = .ok (.aload_n 0, 1) := by decide +kernel
theorem dX9_isCause_1 : decode cX9_isCause 1 = .ok (.iload_n 1, 1) := by decide +kernel
theorem dX9_isCause_2 : decode cX9_isCause 2 = .ok (.invokevirtual 216, 3) := by decide +kernel
theorem dX9_isCause_5 : decode cX9_isCause 5 = .ok (.istore_n 2, 1) := by decide +kernel
theorem dX9_isCause_6 : decode cX9_isCause 6 = .ok (.aload_n 0, 1) := by decide +kernel
theorem dX9_isCause_7 : decode cX9_isCause 7 = .ok (.getfield 80, 3) := by decide +kernel
theorem dX9_isCause_10 : decode cX9_isCause 10 = .ok (.ifCond .le 5, 3) := by decide +kernel
theorem dX9_isCause_13 : decode cX9_isCause 13 = .ok (.iconst 0, 1) := by decide +kernel
theorem dX9_isCause_14 : decode cX9_isCause 14 = .ok (.ireturn, 1) := by decide +kernel
theorem dX9_isCause_15 : decode cX9_isCause 15 = .ok (.aload_n 0, 1) := by decide +kernel
theorem dX9_isCause_16 : decode cX9_isCause 16 = .ok (.invokevirtual 137, 3) := by decide +kernel
theorem dX9_isCause_19 : decode cX9_isCause 19 = .ok (.aload_n 0, 1) := by decide +kernel
theorem dX9_isCause_20 : decode cX9_isCause 20 = .ok (.iload_n 2, 1) := by decide +kernel
theorem dX9_isCause_21 : decode cX9_isCause 21 = .ok (.invokevirtual 255, 3) := by decide +kernel
theorem dX9_isCause_24 : decode cX9_isCause 24 = .ok (.ireturn, 1) := by decide +kernel
set_option maxRecDepth 100000 in
set_option maxHeartbeats 4000000 in
theorem w9_isCause_ok {l : Launch} {idx : List (Nat × Nat)} {μ : Mem} {a1 : Int32} {P : Int32 → Mem → Prop} {X : String → Mem → Prop} (hl : l.stackTraces = false) (hI : IdxOK idx) (hk : w9_isCause_wp μ a1 P) : PMet l yX9_isCause (.code yX9_isCause cX9_isCause 3 (some .boolean)) 6 0 0 idx [pR 50 0, pI a1] μ (qI P) X := by
  refine PMet_of mv_X9_isCause.2.2.2.2.2.2 hl hI mv_X9_isCause.2.2.2.1 rfl (Nat.le_of_ble_eq_true rfl) (fun G _ _ C hRt hHR hnT => ?_)
  show PW G 0 0 0 [some (pR 50 0), some (pI a1), none] [] μ
  unfold w9_isCause_wp at hk
  refine px_aload_n (i := 0) C dX9_isCause_0 rfl rfl ?_
  refine px_iload_n (i := 1) C dX9_isCause_1 rfl rfl ?_
  refine px_callVi (h := 2) (rc' := 0) (rs' := 0) C (HR_le hHR (Nat.le_of_ble_eq_true rfl)) hRt hnT dX9_isCause_2 (gw8 176 rfl rfl) mv_X9_spanOr (w9_spanOr_ok (PCx_l C) (PCx_I C) hk) rfl rfl rfl rfl rfl (Nat.le_of_ble_eq_true rfl) (Nat.le_of_ble_eq_true rfl) (Nat.le_of_ble_eq_true rfl) (Nat.le_of_ble_eq_true rfl) ?_
  intro r2 μ1 hk
  refine px_istore_n (i := 2) C dX9_isCause_5 rfl (by decide) rfl ?_
  refine px_aload_n (i := 0) C dX9_isCause_6 rfl rfl ?_
  refine px_geti 3201 C dX9_isCause_7 fl_RX9_80 rfl rfl rfl rfl ?_
  refine px_if_le (tgt := 15) C dX9_isCause_10 (by decide) (fun c7 => ?_) (fun c7 => ?_)
  · replace hk := hk.1 c7
    refine px_aload_n (i := 0) C dX9_isCause_15 rfl rfl ?_
    refine px_callVv (h := 5) (rc' := 0) (rs' := 0) C (HR_le hHR (Nat.le_of_ble_eq_true rfl)) hRt hnT dX9_isCause_16 (gw8 208 rfl rfl) mv_X9_knows (w9_knows_ok (PCx_l C) (PCx_I C) hk) rfl rfl rfl rfl rfl (Nat.le_of_ble_eq_true rfl) (Nat.le_of_ble_eq_true rfl) (Nat.le_of_ble_eq_true rfl) (Nat.le_of_ble_eq_true rfl) ?_
    intro μ3 hk
    refine px_aload_n (i := 0) C dX9_isCause_19 rfl rfl ?_
    refine px_iload_n (i := 2) C dX9_isCause_20 rfl rfl ?_
    refine px_callVi (h := 1) (rc' := 0) (rs' := 0) C (HR_le hHR (Nat.le_of_ble_eq_true rfl)) hRt hnT dX9_isCause_21 (gw9 188 rfl rfl) mv_X9_causes (w9_causes_ok (PCx_l C) (PCx_I C) hk) rfl rfl rfl rfl rfl (Nat.le_of_ble_eq_true rfl) (Nat.le_of_ble_eq_true rfl) (Nat.le_of_ble_eq_true rfl) (Nat.le_of_ble_eq_true rfl) ?_
    intro r5 μ4 hk
    obtain ⟨o6, hk⟩ := hk
    exact px_iret C hRt dX9_isCause_24 (nar_z o6) rfl hk
  · replace hk := hk.2 c7
    refine px_iconst (v := (0 : Int32)) C dX9_isCause_13 rfl ?_
    exact px_iret C hRt dX9_isCause_14 rfl rfl hk
theorem dX9_cause_0 : decode cX9_cause 0 = .ok (.aload_n 0, 1) := by decide +kernel
theorem dX9_cause_1 : decode cX9_cause 1 = .ok (.iconst 0, 1) := by decide +kernel
theorem dX9_cause_2 : decode cX9_cause 2 = .ok (.putfield 80, 3) := by decide +kernel
theorem dX9_cause_5 : decode cX9_cause 5 = .ok (.aload_n 0, 1) := by decide +kernel
theorem dX9_cause_6 : decode cX9_cause 6 = .ok (.invokevirtual 137, 3) := by decide +kernel
theorem dX9_cause_9 : decode cX9_cause 9 = .ok (.iload_n 1, 1) := by decide +kernel
theorem dX9_cause_10 : decode cX9_cause 10 = .ok (.invokestatic 143, 3) := by decide +kernel
theorem dX9_cause_13 : decode cX9_cause 13 = .ok (.ifCond .ne 9, 3) := by decide +kernel
theorem dX9_cause_16 : decode cX9_cause 16 = .ok (.aload_n 0, 1) := by decide +kernel
theorem dX9_cause_17 : decode cX9_cause 17 = .ok (.iconst 1, 1) := by decide +kernel
theorem dX9_cause_18 : decode cX9_cause 18 = .ok (.invokevirtual 203, 3) := by decide +kernel
theorem dX9_cause_21 : decode cX9_cause 21 = .ok (.ireturn, 1) := by decide +kernel
theorem dX9_cause_22 : decode cX9_cause 22 = .ok (.iconst 0, 1) := by decide +kernel
theorem dX9_cause_23 : decode cX9_cause 23 = .ok (.istore_n 3, 1) := by decide +kernel
theorem dX9_cause_24 : decode cX9_cause 24 = .ok (.iload_n 3, 1) := by decide +kernel
theorem dX9_cause_25 : decode cX9_cause 25 = .ok (.aload_n 0, 1) := by decide +kernel
theorem dX9_cause_26 : decode cX9_cause 26 = .ok (.getfield 7, 3) := by decide +kernel
theorem dX9_cause_29 : decode cX9_cause 29 = .ok (.iconst 0, 1) := by decide +kernel
theorem dX9_cause_30 : decode cX9_cause 30 = .ok (.iaload, 1) := by decide +kernel
theorem dX9_cause_31 : decode cX9_cause 31 = .ok (.if_icmp .ge 103, 3) := by decide +kernel
theorem dX9_cause_34 : decode cX9_cause 34 = .ok (.aload_n 0, 1) := by decide +kernel
theorem dX9_cause_35 : decode cX9_cause 35 = .ok (.iload_n 3, 1) := by decide +kernel
theorem dX9_cause_36 : decode cX9_cause 36 = .ok (.iconst 1, 1) := by decide +kernel
theorem dX9_cause_37 : decode cX9_cause 37 = .ok (.invokevirtual 83, 3) := by decide +kernel
theorem dX9_cause_40 : decode cX9_cause 40 = .ok (.iload_n 1, 1) := by decide +kernel
theorem dX9_cause_41 : decode cX9_cause 41 = .ok (.if_icmp .ne 87, 3) := by decide +kernel
theorem dX9_cause_44 : decode cX9_cause 44 = .ok (.aload_n 0, 1) := by decide +kernel
theorem dX9_cause_45 : decode cX9_cause 45 = .ok (.iload_n 3, 1) := by decide +kernel
theorem dX9_cause_46 : decode cX9_cause 46 = .ok (.invokevirtual 255, 3) := by decide +kernel
theorem dX9_cause_49 : decode cX9_cause 49 = .ok (.ifCond .eq 79, 3) := by decide +kernel
theorem dX9_cause_52 : decode cX9_cause 52 = .ok (.iconst 0, 1) := by decide +kernel
theorem dX9_cause_53 : decode cX9_cause 53 = .ok (.istore 4, 2) := by decide +kernel
theorem dX9_cause_55 : decode cX9_cause 55 = .ok (.iconst 0, 1) := by decide +kernel
theorem dX9_cause_56 : decode cX9_cause 56 = .ok (.istore 5, 2) := by decide +kernel
theorem dX9_cause_58 : decode cX9_cause 58 = .ok (.iload 5, 2) := by decide +kernel
theorem dX9_cause_60 : decode cX9_cause 60 = .ok (.aload_n 0, 1) := by decide +kernel
theorem dX9_cause_61 : decode cX9_cause 61 = .ok (.getfield 7, 3) := by decide +kernel
theorem dX9_cause_64 : decode cX9_cause 64 = .ok (.iconst 0, 1) := by decide +kernel
theorem dX9_cause_65 : decode cX9_cause 65 = .ok (.iaload, 1) := by decide +kernel
theorem dX9_cause_66 : decode cX9_cause 66 = .ok (.if_icmp .ge 49, 3) := by decide +kernel
theorem dX9_cause_69 : decode cX9_cause 69 = .ok (.iload 4, 2) := by decide +kernel
theorem dX9_cause_71 : decode cX9_cause 71 = .ok (.aload_n 0, 1) := by decide +kernel
theorem dX9_cause_72 : decode cX9_cause 72 = .ok (.iload 5, 2) := by decide +kernel
theorem dX9_cause_74 : decode cX9_cause 74 = .ok (.iconst 1, 1) := by decide +kernel
theorem dX9_cause_75 : decode cX9_cause 75 = .ok (.invokevirtual 83, 3) := by decide +kernel
theorem dX9_cause_78 : decode cX9_cause 78 = .ok (.iload_n 1, 1) := by decide +kernel
theorem dX9_cause_79 : decode cX9_cause 79 = .ok (.if_icmp .ne 26, 3) := by decide +kernel
theorem dX9_cause_82 : decode cX9_cause 82 = .ok (.aload_n 0, 1) := by decide +kernel
theorem dX9_cause_83 : decode cX9_cause 83 = .ok (.iload 5, 2) := by decide +kernel
theorem dX9_cause_85 : decode cX9_cause 85 = .ok (.iload_n 3, 1) := by decide +kernel
theorem dX9_cause_86 : decode cX9_cause 86 = .ok (.invokevirtual 149, 3) := by decide +kernel
theorem dX9_cause_89 : decode cX9_cause 89 = .ok (.ifCond .eq 16, 3) := by decide +kernel
theorem dX9_cause_92 : decode cX9_cause 92 = .ok (.aload_n 0, 1) := by decide +kernel
theorem dX9_cause_93 : decode cX9_cause 93 = .ok (.iload 5, 2) := by decide +kernel
theorem dX9_cause_95 : decode cX9_cause 95 = .ok (.invokevirtual 255, 3) := by decide +kernel
theorem dX9_cause_98 : decode cX9_cause 98 = .ok (.ifCond .eq 7, 3) := by decide +kernel
theorem dX9_cause_101 : decode cX9_cause 101 = .ok (.iconst 1, 1) := by decide +kernel
theorem dX9_cause_102 : decode cX9_cause 102 = .ok (.goto 4, 3) := by decide +kernel
theorem dX9_cause_105 : decode cX9_cause 105 = .ok (.iconst 0, 1) := by decide +kernel
theorem dX9_cause_106 : decode cX9_cause 106 = .ok (.iadd, 1) := by decide +kernel
theorem dX9_cause_107 : decode cX9_cause 107 = .ok (.istore 4, 2) := by decide +kernel
theorem dX9_cause_109 : decode cX9_cause 109 = .ok (.iinc 5 1, 3) := by decide +kernel
theorem dX9_cause_112 : decode cX9_cause 112 = .ok (.goto (-54), 3) := by decide +kernel
theorem dX9_cause_115 : decode cX9_cause 115 = .ok (.iload 4, 2) := by decide +kernel
theorem dX9_cause_117 : decode cX9_cause 117 = .ok (.iload_n 2, 1) := by decide +kernel
theorem dX9_cause_118 : decode cX9_cause 118 = .ok (.if_icmp .ne 10, 3) := by decide +kernel
theorem dX9_cause_121 : decode cX9_cause 121 = .ok (.aload_n 0, 1) := by decide +kernel
theorem dX9_cause_122 : decode cX9_cause 122 = .ok (.iload_n 3, 1) := by decide +kernel
theorem dX9_cause_123 : decode cX9_cause 123 = .ok (.iconst 0, 1) := by decide +kernel
theorem dX9_cause_124 : decode cX9_cause 124 = .ok (.invokevirtual 83, 3) := by decide +kernel
theorem dX9_cause_127 : decode cX9_cause 127 = .ok (.ireturn, 1) := by decide +kernel
theorem dX9_cause_128 : decode cX9_cause 128 = .ok (.iinc 3 1, 3) := by decide +kernel
theorem dX9_cause_131 : decode cX9_cause 131 = .ok (.goto (-107), 3) := by decide +kernel
theorem dX9_cause_134 : decode cX9_cause 134 = .ok (.aload_n 0, 1) := by decide +kernel
theorem dX9_cause_135 : decode cX9_cause 135 = .ok (.iconst 2, 1) := by decide +kernel
theorem dX9_cause_136 : decode cX9_cause 136 = .ok (.invokevirtual 203, 3) := by decide +kernel
theorem dX9_cause_139 : decode cX9_cause 139 = .ok (.ireturn, 1) := by decide +kernel
set_option maxRecDepth 100000 in
set_option maxHeartbeats 4000000 in
theorem w9_cause_b58_ok {G : GT} {P : Int32 → Mem → Prop} {X : String → Mem → Prop} (C : PCx G cX9_cause 6 RX9) (hRt : PRt G (some .int) (qI P) X) (hHR : HR G (6)) (hnT : NoT G) {R24 : Mem → Int32 → Int32 → Int32 → Prop} (hR24 : ∀ (μ : Mem) (l1 : Int32) (l2 : Int32) (l3 : Int32), R24 μ l1 l2 l3 → PW G 0 0 24 [some (pR 50 0), some (pI l1), some (pI l2), some (pI l3), none, none] [] μ) {μ : Mem} {l1 : Int32} {l2 : Int32} {l3 : Int32} {l4 : Int32} {l5 : Int32} (hk : w9_cause_b58 P R24 μ l1 l2 l3 l4 l5) : PW G 0 0 58 [some (pR 50 0), some (pI l1), some (pI l2), some (pI l3), some (pI l4), some (pI l5)] [] μ := by
  refine hk (fun (μ : Mem) (l1 : Int32) (l2 : Int32) (l3 : Int32) (l4 : Int32) (l5 : Int32) => PW G 0 0 58 [some (pR 50 0), some (pI l1), some (pI l2), some (pI l3), some (pI l4), some (pI l5)] [] μ) (fun (μ : Mem) l1 l2 l3 l4 l5 hk => ?_)
  have hR58 : ∀ (μ : Mem) (l1 : Int32) (l2 : Int32) (l3 : Int32) (l4 : Int32) (l5 : Int32), PW G 0 0 58 [some (pR 50 0), some (pI l1), some (pI l2), some (pI l3), some (pI l4), some (pI l5)] [] μ → PW G 0 0 58 [some (pR 50 0), some (pI l1), some (pI l2), some (pI l3), some (pI l4), some (pI l5)] [] μ := fun _ _ _ _ _ _ h => h
  unfold w9_cause_b58_body at hk
  refine px_iload (i := 5) C dX9_cause_58 rfl ?_
  refine px_aload_n (i := 0) C dX9_cause_60 rfl rfl ?_
  refine px_getr C dX9_cause_61 fl_RX9_7 rfl rfl rfl ?_
  refine px_iconst (v := (0 : Int32)) C dX9_cause_64 rfl ?_
  obtain ⟨o12, hk⟩ := hk
  refine px_iald 3264 C dX9_cause_65 rfl rfl rfl rfl o12 ?_
  refine px_icmp_ge (tgt := 115) C dX9_cause_66 (by decide) (fun c25 => ?_) (fun c25 => ?_)
  · replace hk := hk.1 c25
    refine px_iload (i := 4) C dX9_cause_115 rfl ?_
    refine px_iload_n (i := 2) C dX9_cause_117 rfl rfl ?_
    refine px_icmp_ne (tgt := 128) C dX9_cause_118 (by decide) (fun c15 => ?_) (fun c15 => ?_)
    · replace hk := hk.1 c15
      refine px_iinc (i := 3) (v := (1 : Int32)) C dX9_cause_128 rfl rfl (by decide) rfl ?_
      refine px_goto (tgt := 24) C dX9_cause_131 (by decide) ?_
      exact PW_at (hR24 _ _ _ _ hk) (And.intro rfl (And.intro rfl (And.intro rfl (And.intro rfl trivial)))) (Nat.le_of_ble_eq_true rfl) (Nat.le_of_ble_eq_true rfl)
    · replace hk := hk.2 c15
      refine px_aload_n (i := 0) C dX9_cause_121 rfl rfl ?_
      refine px_iload_n (i := 3) C dX9_cause_122 rfl rfl ?_
      refine px_iconst (v := (0 : Int32)) C dX9_cause_123 rfl ?_
      refine px_callVi (h := 0) (rc' := 0) (rs' := 0) C (HR_le hHR (Nat.le_of_ble_eq_true rfl)) hRt hnT dX9_cause_124 (gw8 152 rfl rfl) mv_X9_of (w9_of_ok (PCx_l C) (PCx_I C) hk) rfl rfl rfl rfl rfl (Nat.le_of_ble_eq_true rfl) (Nat.le_of_ble_eq_true rfl) (Nat.le_of_ble_eq_true rfl) (Nat.le_of_ble_eq_true rfl) ?_
      intro r14 μ13 hk
      exact px_iret C hRt dX9_cause_127 rfl rfl hk
  · replace hk := hk.2 c25
    refine px_iload (i := 4) C dX9_cause_69 rfl ?_
    refine px_aload_n (i := 0) C dX9_cause_71 rfl rfl ?_
    refine px_iload (i := 5) C dX9_cause_72 rfl ?_
    refine px_iconst (v := (1 : Int32)) C dX9_cause_74 rfl ?_
    refine px_callVi (h := 0) (rc' := 0) (rs' := 0) C (HR_le hHR (Nat.le_of_ble_eq_true rfl)) hRt hnT dX9_cause_75 (gw8 152 rfl rfl) mv_X9_of (w9_of_ok (PCx_l C) (PCx_I C) hk) rfl rfl rfl rfl rfl (Nat.le_of_ble_eq_true rfl) (Nat.le_of_ble_eq_true rfl) (Nat.le_of_ble_eq_true rfl) (Nat.le_of_ble_eq_true rfl) ?_
    intro r17 μ16 hk
    refine px_iload_n (i := 1) C dX9_cause_78 rfl rfl ?_
    refine px_icmp_ne (tgt := 105) C dX9_cause_79 (by decide) (fun c24 => ?_) (fun c24 => ?_)
    · replace hk := hk.1 c24
      refine px_iconst (v := (0 : Int32)) C dX9_cause_105 rfl ?_
      refine px_iadd C dX9_cause_106 ?_
      refine px_istore (i := 4) C dX9_cause_107 (by decide) rfl ?_
      refine px_iinc (i := 5) (v := (1 : Int32)) C dX9_cause_109 rfl rfl (by decide) rfl ?_
      refine px_goto (tgt := 58) C dX9_cause_112 (by decide) ?_
      exact PW_at (hR58 _ _ _ _ _ _ hk) (And.intro rfl (And.intro rfl (And.intro rfl (And.intro rfl (And.intro rfl (And.intro rfl trivial)))))) (Nat.le_of_ble_eq_true rfl) (Nat.le_of_ble_eq_true rfl)
    · replace hk := hk.2 c24
      refine px_aload_n (i := 0) C dX9_cause_82 rfl rfl ?_
      refine px_iload (i := 5) C dX9_cause_83 rfl ?_
      refine px_iload_n (i := 3) C dX9_cause_85 rfl rfl ?_
      refine px_callVi (h := 2) (rc' := 0) (rs' := 0) C (HR_le hHR (Nat.le_of_ble_eq_true rfl)) hRt hnT dX9_cause_86 (gw9 90 rfl rfl) mv_X9_isEarlier (w9_isEarlier_ok (PCx_l C) (PCx_I C) hk) rfl rfl rfl rfl rfl (Nat.le_of_ble_eq_true rfl) (Nat.le_of_ble_eq_true rfl) (Nat.le_of_ble_eq_true rfl) (Nat.le_of_ble_eq_true rfl) ?_
      intro r19 μ18 hk
      refine px_if_eq (tgt := 105) C dX9_cause_89 (by decide) (fun c23 => ?_) (fun c23 => ?_)
      · replace hk := hk.1 c23
        refine px_iconst (v := (0 : Int32)) C dX9_cause_105 rfl ?_
        refine px_iadd C dX9_cause_106 ?_
        refine px_istore (i := 4) C dX9_cause_107 (by decide) rfl ?_
        refine px_iinc (i := 5) (v := (1 : Int32)) C dX9_cause_109 rfl rfl (by decide) rfl ?_
        refine px_goto (tgt := 58) C dX9_cause_112 (by decide) ?_
        exact PW_at (hR58 _ _ _ _ _ _ hk) (And.intro rfl (And.intro rfl (And.intro rfl (And.intro rfl (And.intro rfl (And.intro rfl trivial)))))) (Nat.le_of_ble_eq_true rfl) (Nat.le_of_ble_eq_true rfl)
      · replace hk := hk.2 c23
        refine px_aload_n (i := 0) C dX9_cause_92 rfl rfl ?_
        refine px_iload (i := 5) C dX9_cause_93 rfl ?_
        refine px_callVi (h := 1) (rc' := 0) (rs' := 0) C (HR_le hHR (Nat.le_of_ble_eq_true rfl)) hRt hnT dX9_cause_95 (gw9 188 rfl rfl) mv_X9_causes (w9_causes_ok (PCx_l C) (PCx_I C) hk) rfl rfl rfl rfl rfl (Nat.le_of_ble_eq_true rfl) (Nat.le_of_ble_eq_true rfl) (Nat.le_of_ble_eq_true rfl) (Nat.le_of_ble_eq_true rfl) ?_
        intro r21 μ20 hk
        refine px_if_eq (tgt := 105) C dX9_cause_98 (by decide) (fun c22 => ?_) (fun c22 => ?_)
        · replace hk := hk.1 c22
          refine px_iconst (v := (0 : Int32)) C dX9_cause_105 rfl ?_
          refine px_iadd C dX9_cause_106 ?_
          refine px_istore (i := 4) C dX9_cause_107 (by decide) rfl ?_
          refine px_iinc (i := 5) (v := (1 : Int32)) C dX9_cause_109 rfl rfl (by decide) rfl ?_
          refine px_goto (tgt := 58) C dX9_cause_112 (by decide) ?_
          exact PW_at (hR58 _ _ _ _ _ _ hk) (And.intro rfl (And.intro rfl (And.intro rfl (And.intro rfl (And.intro rfl (And.intro rfl trivial)))))) (Nat.le_of_ble_eq_true rfl) (Nat.le_of_ble_eq_true rfl)
        · replace hk := hk.2 c22
          refine px_iconst (v := (1 : Int32)) C dX9_cause_101 rfl ?_
          refine px_goto (tgt := 106) C dX9_cause_102 (by decide) ?_
          refine px_iadd C dX9_cause_106 ?_
          refine px_istore (i := 4) C dX9_cause_107 (by decide) rfl ?_
          refine px_iinc (i := 5) (v := (1 : Int32)) C dX9_cause_109 rfl rfl (by decide) rfl ?_
          refine px_goto (tgt := 58) C dX9_cause_112 (by decide) ?_
          exact PW_at (hR58 _ _ _ _ _ _ hk) (And.intro rfl (And.intro rfl (And.intro rfl (And.intro rfl (And.intro rfl (And.intro rfl trivial)))))) (Nat.le_of_ble_eq_true rfl) (Nat.le_of_ble_eq_true rfl)
set_option maxRecDepth 100000 in
set_option maxHeartbeats 4000000 in
theorem w9_cause_b24_ok {G : GT} {P : Int32 → Mem → Prop} {X : String → Mem → Prop} (C : PCx G cX9_cause 6 RX9) (hRt : PRt G (some .int) (qI P) X) (hHR : HR G (6)) (hnT : NoT G) {μ : Mem} {l1 : Int32} {l2 : Int32} {l3 : Int32} (hk : w9_cause_b24 P μ l1 l2 l3) : PW G 0 0 24 [some (pR 50 0), some (pI l1), some (pI l2), some (pI l3), none, none] [] μ := by
  refine hk (fun (μ : Mem) (l1 : Int32) (l2 : Int32) (l3 : Int32) => PW G 0 0 24 [some (pR 50 0), some (pI l1), some (pI l2), some (pI l3), none, none] [] μ) (fun (μ : Mem) l1 l2 l3 hk => ?_)
  have hR24 : ∀ (μ : Mem) (l1 : Int32) (l2 : Int32) (l3 : Int32), PW G 0 0 24 [some (pR 50 0), some (pI l1), some (pI l2), some (pI l3), none, none] [] μ → PW G 0 0 24 [some (pR 50 0), some (pI l1), some (pI l2), some (pI l3), none, none] [] μ := fun _ _ _ _ h => h
  unfold w9_cause_b24_body at hk
  refine px_iload_n (i := 3) C dX9_cause_24 rfl rfl ?_
  refine px_aload_n (i := 0) C dX9_cause_25 rfl rfl ?_
  refine px_getr C dX9_cause_26 fl_RX9_7 rfl rfl rfl ?_
  refine px_iconst (v := (0 : Int32)) C dX9_cause_29 rfl ?_
  obtain ⟨o5, hk⟩ := hk
  refine px_iald 3264 C dX9_cause_30 rfl rfl rfl rfl o5 ?_
  refine px_icmp_ge (tgt := 134) C dX9_cause_31 (by decide) (fun c28 => ?_) (fun c28 => ?_)
  · replace hk := hk.1 c28
    refine px_aload_n (i := 0) C dX9_cause_134 rfl rfl ?_
    refine px_iconst (v := (2 : Int32)) C dX9_cause_135 rfl ?_
    refine px_callVi (h := 0) (rc' := 0) (rs' := 0) C (HR_le hHR (Nat.le_of_ble_eq_true rfl)) hRt hnT dX9_cause_136 (gw8 144 rfl rfl) mv_X9_fails (w9_fails_ok (PCx_l C) (PCx_I C) hk) rfl rfl rfl rfl rfl (Nat.le_of_ble_eq_true rfl) (Nat.le_of_ble_eq_true rfl) (Nat.le_of_ble_eq_true rfl) (Nat.le_of_ble_eq_true rfl) ?_
    intro r7 μ6 hk
    exact px_iret C hRt dX9_cause_139 rfl rfl hk
  · replace hk := hk.2 c28
    refine px_aload_n (i := 0) C dX9_cause_34 rfl rfl ?_
    refine px_iload_n (i := 3) C dX9_cause_35 rfl rfl ?_
    refine px_iconst (v := (1 : Int32)) C dX9_cause_36 rfl ?_
    refine px_callVi (h := 0) (rc' := 0) (rs' := 0) C (HR_le hHR (Nat.le_of_ble_eq_true rfl)) hRt hnT dX9_cause_37 (gw8 152 rfl rfl) mv_X9_of (w9_of_ok (PCx_l C) (PCx_I C) hk) rfl rfl rfl rfl rfl (Nat.le_of_ble_eq_true rfl) (Nat.le_of_ble_eq_true rfl) (Nat.le_of_ble_eq_true rfl) (Nat.le_of_ble_eq_true rfl) ?_
    intro r9 μ8 hk
    refine px_iload_n (i := 1) C dX9_cause_40 rfl rfl ?_
    refine px_icmp_ne (tgt := 128) C dX9_cause_41 (by decide) (fun c27 => ?_) (fun c27 => ?_)
    · replace hk := hk.1 c27
      refine px_iinc (i := 3) (v := (1 : Int32)) C dX9_cause_128 rfl rfl (by decide) rfl ?_
      refine px_goto (tgt := 24) C dX9_cause_131 (by decide) ?_
      exact PW_at (hR24 _ _ _ _ hk) (And.intro rfl (And.intro rfl (And.intro rfl (And.intro rfl trivial)))) (Nat.le_of_ble_eq_true rfl) (Nat.le_of_ble_eq_true rfl)
    · replace hk := hk.2 c27
      refine px_aload_n (i := 0) C dX9_cause_44 rfl rfl ?_
      refine px_iload_n (i := 3) C dX9_cause_45 rfl rfl ?_
      refine px_callVi (h := 1) (rc' := 0) (rs' := 0) C (HR_le hHR (Nat.le_of_ble_eq_true rfl)) hRt hnT dX9_cause_46 (gw9 188 rfl rfl) mv_X9_causes (w9_causes_ok (PCx_l C) (PCx_I C) hk) rfl rfl rfl rfl rfl (Nat.le_of_ble_eq_true rfl) (Nat.le_of_ble_eq_true rfl) (Nat.le_of_ble_eq_true rfl) (Nat.le_of_ble_eq_true rfl) ?_
      intro r11 μ10 hk
      refine px_if_eq (tgt := 128) C dX9_cause_49 (by decide) (fun c26 => ?_) (fun c26 => ?_)
      · replace hk := hk.1 c26
        refine px_iinc (i := 3) (v := (1 : Int32)) C dX9_cause_128 rfl rfl (by decide) rfl ?_
        refine px_goto (tgt := 24) C dX9_cause_131 (by decide) ?_
        exact PW_at (hR24 _ _ _ _ hk) (And.intro rfl (And.intro rfl (And.intro rfl (And.intro rfl trivial)))) (Nat.le_of_ble_eq_true rfl) (Nat.le_of_ble_eq_true rfl)
      · replace hk := hk.2 c26
        refine px_iconst (v := (0 : Int32)) C dX9_cause_52 rfl ?_
        refine px_istore (i := 4) C dX9_cause_53 (by decide) rfl ?_
        refine px_iconst (v := (0 : Int32)) C dX9_cause_55 rfl ?_
        refine px_istore (i := 5) C dX9_cause_56 (by decide) rfl ?_
        exact PW_at (w9_cause_b58_ok C hRt hHR hnT hR24 hk) (And.intro rfl (And.intro rfl (And.intro rfl (And.intro rfl (And.intro rfl (And.intro rfl trivial)))))) (Nat.le_of_ble_eq_true rfl) (Nat.le_of_ble_eq_true rfl)
set_option maxRecDepth 100000 in
set_option maxHeartbeats 4000000 in
theorem w9_cause_ok {l : Launch} {idx : List (Nat × Nat)} {μ : Mem} {a1 : Int32} {a2 : Int32} {P : Int32 → Mem → Prop} {X : String → Mem → Prop} (hl : l.stackTraces = false) (hI : IdxOK idx) (hk : w9_cause_wp μ a1 a2 P) : PMet l yX9_cause (.code yX9_cause cX9_cause 6 (some .int)) 6 0 0 idx [pR 50 0, pI a1, pI a2] μ (qI P) X := by
  refine PMet_of mv_X9_cause.2.2.2.2.2.2 hl hI mv_X9_cause.2.2.2.1 rfl (Nat.le_of_ble_eq_true rfl) (fun G _ _ C hRt hHR hnT => ?_)
  show PW G 0 0 0 [some (pR 50 0), some (pI a1), some (pI a2), none, none, none] [] μ
  unfold w9_cause_wp at hk
  refine px_aload_n (i := 0) C dX9_cause_0 rfl rfl ?_
  refine px_iconst (v := (0 : Int32)) C dX9_cause_1 rfl ?_
  replace hk := hk _ rfl
  refine px_puti 3201 C dX9_cause_2 fp_RX9_80 rfl rfl rfl rfl rfl rfl ?_
  refine px_aload_n (i := 0) C dX9_cause_5 rfl rfl ?_
  refine px_callVv (h := 5) (rc' := 0) (rs' := 0) C (HR_le hHR (Nat.le_of_ble_eq_true rfl)) hRt hnT dX9_cause_6 (gw8 208 rfl rfl) mv_X9_knows (w9_knows_ok (PCx_l C) (PCx_I C) hk) rfl rfl rfl rfl rfl (Nat.le_of_ble_eq_true rfl) (Nat.le_of_ble_eq_true rfl) (Nat.le_of_ble_eq_true rfl) (Nat.le_of_ble_eq_true rfl) ?_
  intro μ2 hk
  refine px_iload_n (i := 1) C dX9_cause_9 rfl rfl ?_
  refine px_callSi (h := 1) (rc' := 0) (rs' := 0) C (HR_le hHR (Nat.le_of_ble_eq_true rfl)) hRt hnT dX9_cause_10 (gw8 135 rfl rfl) ms_X9_isTrace (w9_isTrace_ok (PCx_l C) (PCx_I C) hk) rfl rfl (Nat.le_of_ble_eq_true rfl) (Nat.le_of_ble_eq_true rfl) (Nat.le_of_ble_eq_true rfl) (Nat.le_of_ble_eq_true rfl) ?_
  intro r4 μ3 hk
  refine px_if_ne (tgt := 22) C dX9_cause_13 (by decide) (fun c31 => ?_) (fun c31 => ?_)
  · replace hk := hk.1 c31
    refine px_iconst (v := (0 : Int32)) C dX9_cause_22 rfl ?_
    refine px_istore_n (i := 3) C dX9_cause_23 rfl (by decide) rfl ?_
    exact PW_at (w9_cause_b24_ok C hRt hHR hnT hk) (And.intro rfl (And.intro rfl (And.intro rfl (And.intro rfl trivial)))) (Nat.le_of_ble_eq_true rfl) (Nat.le_of_ble_eq_true rfl)
  · replace hk := hk.2 c31
    refine px_aload_n (i := 0) C dX9_cause_16 rfl rfl ?_
    refine px_iconst (v := (1 : Int32)) C dX9_cause_17 rfl ?_
    refine px_callVi (h := 0) (rc' := 0) (rs' := 0) C (HR_le hHR (Nat.le_of_ble_eq_true rfl)) hRt hnT dX9_cause_18 (gw8 144 rfl rfl) mv_X9_fails (w9_fails_ok (PCx_l C) (PCx_I C) hk) rfl rfl rfl rfl rfl (Nat.le_of_ble_eq_true rfl) (Nat.le_of_ble_eq_true rfl) (Nat.le_of_ble_eq_true rfl) (Nat.le_of_ble_eq_true rfl) ?_
    intro r30 μ29 hk
    exact px_iret C hRt dX9_cause_21 rfl rfl hk
theorem dX9_service_0 : decode cX9_service 0 = .ok (.aload_n 0, 1) := by decide +kernel
theorem dX9_service_1 : decode cX9_service 1 = .ok (.iconst 0, 1) := by decide +kernel
theorem dX9_service_2 : decode cX9_service 2 = .ok (.putfield 80, 3) := by decide +kernel
theorem dX9_service_5 : decode cX9_service 5 = .ok (.aload_n 0, 1) := by decide +kernel
theorem dX9_service_6 : decode cX9_service 6 = .ok (.invokevirtual 137, 3) := by decide +kernel
theorem dX9_service_9 : decode cX9_service 9 = .ok (.iload_n 1, 1) := by decide +kernel
theorem dX9_service_10 : decode cX9_service 10 = .ok (.invokestatic 222, 3) := by decide +kernel
theorem dX9_service_13 : decode cX9_service 13 = .ok (.ifCond .ne 9, 3) := by decide +kernel
theorem dX9_service_16 : decode cX9_service 16 = .ok (.aload_n 0, 1) := by decide +kernel
theorem dX9_service_17 : decode cX9_service 17 = .ok (.iconst 1, 1) := by decide +kernel
theorem dX9_service_18 : decode cX9_service 18 = .ok (.invokevirtual 203, 3) := by decide +kernel
theorem dX9_service_21 : decode cX9_service 21 = .ok (.ireturn, 1) := by decide +kernel
theorem dX9_service_22 : decode cX9_service 22 = .ok (.iload_n 2, 1) := by decide +kernel
theorem dX9_service_23 : decode cX9_service 23 = .ok (.iconst 0, 1) := by decide +kernel
theorem dX9_service_24 : decode cX9_service 24 = .ok (.iconst 5, 1) := by decide +kernel
theorem dX9_service_25 : decode cX9_service 25 = .ok (.invokestatic 140, 3) := by decide +kernel
theorem dX9_service_28 : decode cX9_service 28 = .ok (.ifCond .ne 9, 3) := by decide +kernel
theorem dX9_service_31 : decode cX9_service 31 = .ok (.aload_n 0, 1) := by decide +kernel
theorem dX9_service_32 : decode cX9_service 32 = .ok (.iconst 2, 1) := by decide +kernel
theorem dX9_service_33 : decode cX9_service 33 = .ok (.invokevirtual 203, 3) := by decide +kernel
theorem dX9_service_36 : decode cX9_service 36 = .ok (.ireturn, 1) := by decide +kernel
theorem dX9_service_37 : decode cX9_service 37 = .ok (.iconst 0, 1) := by decide +kernel
theorem dX9_service_38 : decode cX9_service 38 = .ok (.istore_n 3, 1) := by decide +kernel
theorem dX9_service_39 : decode cX9_service 39 = .ok (.iconst 0, 1) := by decide +kernel
theorem dX9_service_40 : decode cX9_service 40 = .ok (.istore 4, 2) := by decide +kernel
theorem dX9_service_42 : decode cX9_service 42 = .ok (.iconst 0, 1) := by decide +kernel
theorem dX9_service_43 : decode cX9_service 43 = .ok (.istore 5, 2) := by decide +kernel
theorem dX9_service_45 : decode cX9_service 45 = .ok (.iload 5, 2) := by decide +kernel
theorem dX9_service_47 : decode cX9_service 47 = .ok (.aload_n 0, 1) := by decide +kernel
theorem dX9_service_48 : decode cX9_service 48 = .ok (.getfield 7, 3) := by decide +kernel
theorem dX9_service_51 : decode cX9_service 51 = .ok (.iconst 0, 1) := by decide +kernel
theorem dX9_service_52 : decode cX9_service 52 = .ok (.iaload, 1) := by decide +kernel
theorem dX9_service_53 : decode cX9_service 53 = .ok (.if_icmp .ge 43, 3) := by decide +kernel
theorem dX9_service_56 : decode cX9_service 56 = .ok (.aload_n 0, 1) := by decide +kernel
theorem dX9_service_57 : decode cX9_service 57 = .ok (.iload 5, 2) := by decide +kernel
theorem dX9_service_59 : decode cX9_service 59 = .ok (.iconst 3, 1) := by decide +kernel
theorem dX9_service_60 : decode cX9_service 60 = .ok (.invokevirtual 83, 3) := by decide +kernel
theorem dX9_service_63 : decode cX9_service 63 = .ok (.iload_n 1, 1) := by decide +kernel
theorem dX9_service_64 : decode cX9_service 64 = .ok (.if_icmp .ne 26, 3) := by decide +kernel
theorem dX9_service_67 : decode cX9_service 67 = .ok (.iload_n 3, 1) := by decide +kernel
theorem dX9_service_68 : decode cX9_service 68 = .ok (.aload_n 0, 1) := by decide +kernel
theorem dX9_service_69 : decode cX9_service 69 = .ok (.iload 5, 2) := by decide +kernel
theorem dX9_service_71 : decode cX9_service 71 = .ok (.iload_n 2, 1) := by decide +kernel
theorem dX9_service_72 : decode cX9_service 72 = .ok (.invokevirtual 264, 3) := by decide +kernel
theorem dX9_service_75 : decode cX9_service 75 = .ok (.iadd, 1) := by decide +kernel
theorem dX9_service_76 : decode cX9_service 76 = .ok (.istore_n 3, 1) := by decide +kernel
theorem dX9_service_77 : decode cX9_service 77 = .ok (.iload 4, 2) := by decide +kernel
theorem dX9_service_79 : decode cX9_service 79 = .ok (.aload_n 0, 1) := by decide +kernel
theorem dX9_service_80 : decode cX9_service 80 = .ok (.iload 5, 2) := by decide +kernel
theorem dX9_service_82 : decode cX9_service 82 = .ok (.invokevirtual 261, 3) := by decide +kernel
theorem dX9_service_85 : decode cX9_service 85 = .ok (.invokestatic 156, 3) := by decide +kernel
theorem dX9_service_88 : decode cX9_service 88 = .ok (.istore 4, 2) := by decide +kernel
theorem dX9_service_90 : decode cX9_service 90 = .ok (.iinc 5 1, 3) := by decide +kernel
theorem dX9_service_93 : decode cX9_service 93 = .ok (.goto (-48), 3) := by decide +kernel
theorem dX9_service_96 : decode cX9_service 96 = .ok (.iload_n 2, 1) := by decide +kernel
theorem dX9_service_97 : decode cX9_service 97 = .ok (.iconst 5, 1) := by decide +kernel
theorem dX9_service_98 : decode cX9_service 98 = .ok (.if_icmp .ne 8, 3) := by decide +kernel
theorem dX9_service_101 : decode cX9_service 101 = .ok (.iload 4, 2) := by decide +kernel
theorem dX9_service_103 : decode cX9_service 103 = .ok (.goto 4, 3) := by decide +kernel
theorem dX9_service_106 : decode cX9_service 106 = .ok (.iload_n 3, 1) := by decide +kernel
theorem dX9_service_107 : decode cX9_service 107 = .ok (.ireturn, 1) := by decide +kernel
set_option maxRecDepth 100000 in
set_option maxHeartbeats 4000000 in
theorem w9_service_b45_ok {G : GT} {P : Int32 → Mem → Prop} {X : String → Mem → Prop} (C : PCx G cX9_service 6 RX9) (hRt : PRt G (some .int) (qI P) X) (hHR : HR G (67)) (hnT : NoT G) {μ : Mem} {l1 : Int32} {l2 : Int32} {l3 : Int32} {l4 : Int32} {l5 : Int32} (hk : w9_service_b45 P μ l1 l2 l3 l4 l5) : PW G 0 0 45 [some (pR 50 0), some (pI l1), some (pI l2), some (pI l3), some (pI l4), some (pI l5)] [] μ := by
  refine hk (fun (μ : Mem) (l1 : Int32) (l2 : Int32) (l3 : Int32) (l4 : Int32) (l5 : Int32) => PW G 0 0 45 [some (pR 50 0), some (pI l1), some (pI l2), some (pI l3), some (pI l4), some (pI l5)] [] μ) (fun (μ : Mem) l1 l2 l3 l4 l5 hk => ?_)
  have hR45 : ∀ (μ : Mem) (l1 : Int32) (l2 : Int32) (l3 : Int32) (l4 : Int32) (l5 : Int32), PW G 0 0 45 [some (pR 50 0), some (pI l1), some (pI l2), some (pI l3), some (pI l4), some (pI l5)] [] μ → PW G 0 0 45 [some (pR 50 0), some (pI l1), some (pI l2), some (pI l3), some (pI l4), some (pI l5)] [] μ := fun _ _ _ _ _ _ h => h
  unfold w9_service_b45_body at hk
  refine px_iload (i := 5) C dX9_service_45 rfl ?_
  refine px_aload_n (i := 0) C dX9_service_47 rfl rfl ?_
  refine px_getr C dX9_service_48 fl_RX9_7 rfl rfl rfl ?_
  refine px_iconst (v := (0 : Int32)) C dX9_service_51 rfl ?_
  obtain ⟨o7, hk⟩ := hk
  refine px_iald 3264 C dX9_service_52 rfl rfl rfl rfl o7 ?_
  refine px_icmp_ge (tgt := 96) C dX9_service_53 (by decide) (fun c16 => ?_) (fun c16 => ?_)
  · replace hk := hk.1 c16
    refine px_iload_n (i := 2) C dX9_service_96 rfl rfl ?_
    refine px_iconst (v := (5 : Int32)) C dX9_service_97 rfl ?_
    refine px_icmp_ne (tgt := 106) C dX9_service_98 (by decide) (fun c8 => ?_) (fun c8 => ?_)
    · replace hk := hk.1 c8
      refine px_iload_n (i := 3) C dX9_service_106 rfl rfl ?_
      exact px_iret C hRt dX9_service_107 rfl rfl hk
    · replace hk := hk.2 c8
      refine px_iload (i := 4) C dX9_service_101 rfl ?_
      refine px_goto (tgt := 107) C dX9_service_103 (by decide) ?_
      exact px_iret C hRt dX9_service_107 rfl rfl hk
  · replace hk := hk.2 c16
    refine px_aload_n (i := 0) C dX9_service_56 rfl rfl ?_
    refine px_iload (i := 5) C dX9_service_57 rfl ?_
    refine px_iconst (v := (3 : Int32)) C dX9_service_59 rfl ?_
    refine px_callVi (h := 0) (rc' := 0) (rs' := 0) C (HR_le hHR (Nat.le_of_ble_eq_true rfl)) hRt hnT dX9_service_60 (gw8 152 rfl rfl) mv_X9_of (w9_of_ok (PCx_l C) (PCx_I C) hk) rfl rfl rfl rfl rfl (Nat.le_of_ble_eq_true rfl) (Nat.le_of_ble_eq_true rfl) (Nat.le_of_ble_eq_true rfl) (Nat.le_of_ble_eq_true rfl) ?_
    intro r10 μ9 hk
    refine px_iload_n (i := 1) C dX9_service_63 rfl rfl ?_
    refine px_icmp_ne (tgt := 90) C dX9_service_64 (by decide) (fun c15 => ?_) (fun c15 => ?_)
    · replace hk := hk.1 c15
      refine px_iinc (i := 5) (v := (1 : Int32)) C dX9_service_90 rfl rfl (by decide) rfl ?_
      refine px_goto (tgt := 45) C dX9_service_93 (by decide) ?_
      exact PW_at (hR45 _ _ _ _ _ _ hk) (And.intro rfl (And.intro rfl (And.intro rfl (And.intro rfl (And.intro rfl (And.intro rfl trivial)))))) (Nat.le_of_ble_eq_true rfl) (Nat.le_of_ble_eq_true rfl)
    · replace hk := hk.2 c15
      refine px_iload_n (i := 3) C dX9_service_67 rfl rfl ?_
      refine px_aload_n (i := 0) C dX9_service_68 rfl rfl ?_
      refine px_iload (i := 5) C dX9_service_69 rfl ?_
      refine px_iload_n (i := 2) C dX9_service_71 rfl rfl ?_
      refine px_callVi (h := 66) (rc' := 0) (rs' := 0) C (HR_le hHR (Nat.le_of_ble_eq_true rfl)) hRt hnT dX9_service_72 (gw9 208 rfl rfl) mv_X9_counted (w9_counted_ok (PCx_l C) (PCx_I C) hk) rfl rfl rfl rfl rfl (Nat.le_of_ble_eq_true rfl) (Nat.le_of_ble_eq_true rfl) (Nat.le_of_ble_eq_true rfl) (Nat.le_of_ble_eq_true rfl) ?_
      intro r12 μ11 hk
      refine px_iadd C dX9_service_75 ?_
      refine px_istore_n (i := 3) C dX9_service_76 rfl (by decide) rfl ?_
      refine px_iload (i := 4) C dX9_service_77 rfl ?_
      refine px_aload_n (i := 0) C dX9_service_79 rfl rfl ?_
      refine px_iload (i := 5) C dX9_service_80 rfl ?_
      refine px_callVi (h := 1) (rc' := 0) (rs' := 0) C (HR_le hHR (Nat.le_of_ble_eq_true rfl)) hRt hnT dX9_service_82 (gw9 212 rfl rfl) mv_X9_duration (w9_duration_ok (PCx_l C) (PCx_I C) hk) rfl rfl rfl rfl rfl (Nat.le_of_ble_eq_true rfl) (Nat.le_of_ble_eq_true rfl) (Nat.le_of_ble_eq_true rfl) (Nat.le_of_ble_eq_true rfl) ?_
      intro r14 μ13 hk
      refine px_mmax C (HR_le hHR (Nat.le_of_ble_eq_true rfl)) dX9_service_85 (gw9 142 rfl rfl) math_max (Nat.le_of_ble_eq_true rfl) ?_
      refine px_istore (i := 4) C dX9_service_88 (by decide) rfl ?_
      refine px_iinc (i := 5) (v := (1 : Int32)) C dX9_service_90 rfl rfl (by decide) rfl ?_
      refine px_goto (tgt := 45) C dX9_service_93 (by decide) ?_
      exact PW_at (hR45 _ _ _ _ _ _ hk) (And.intro rfl (And.intro rfl (And.intro rfl (And.intro rfl (And.intro rfl (And.intro rfl trivial)))))) (Nat.le_of_ble_eq_true rfl) (Nat.le_of_ble_eq_true rfl)
set_option maxRecDepth 100000 in
set_option maxHeartbeats 4000000 in
theorem w9_service_ok {l : Launch} {idx : List (Nat × Nat)} {μ : Mem} {a1 : Int32} {a2 : Int32} {P : Int32 → Mem → Prop} {X : String → Mem → Prop} (hl : l.stackTraces = false) (hI : IdxOK idx) (hk : w9_service_wp μ a1 a2 P) : PMet l yX9_service (.code yX9_service cX9_service 6 (some .int)) 67 0 0 idx [pR 50 0, pI a1, pI a2] μ (qI P) X := by
  refine PMet_of mv_X9_service.2.2.2.2.2.2 hl hI mv_X9_service.2.2.2.1 rfl (Nat.le_of_ble_eq_true rfl) (fun G _ _ C hRt hHR hnT => ?_)
  show PW G 0 0 0 [some (pR 50 0), some (pI a1), some (pI a2), none, none, none] [] μ
  unfold w9_service_wp at hk
  refine px_aload_n (i := 0) C dX9_service_0 rfl rfl ?_
  refine px_iconst (v := (0 : Int32)) C dX9_service_1 rfl ?_
  replace hk := hk _ rfl
  refine px_puti 3201 C dX9_service_2 fp_RX9_80 rfl rfl rfl rfl rfl rfl ?_
  refine px_aload_n (i := 0) C dX9_service_5 rfl rfl ?_
  refine px_callVv (h := 5) (rc' := 0) (rs' := 0) C (HR_le hHR (Nat.le_of_ble_eq_true rfl)) hRt hnT dX9_service_6 (gw8 208 rfl rfl) mv_X9_knows (w9_knows_ok (PCx_l C) (PCx_I C) hk) rfl rfl rfl rfl rfl (Nat.le_of_ble_eq_true rfl) (Nat.le_of_ble_eq_true rfl) (Nat.le_of_ble_eq_true rfl) (Nat.le_of_ble_eq_true rfl) ?_
  intro μ2 hk
  refine px_iload_n (i := 1) C dX9_service_9 rfl rfl ?_
  refine px_callSi (h := 1) (rc' := 0) (rs' := 0) C (HR_le hHR (Nat.le_of_ble_eq_true rfl)) hRt hnT dX9_service_10 (gw9 3 rfl rfl) ms_X9_isService (w9_isService_ok (PCx_l C) (PCx_I C) hk) rfl rfl (Nat.le_of_ble_eq_true rfl) (Nat.le_of_ble_eq_true rfl) (Nat.le_of_ble_eq_true rfl) (Nat.le_of_ble_eq_true rfl) ?_
  intro r4 μ3 hk
  refine px_if_ne (tgt := 22) C dX9_service_13 (by decide) (fun c22 => ?_) (fun c22 => ?_)
  · replace hk := hk.1 c22
    refine px_iload_n (i := 2) C dX9_service_22 rfl rfl ?_
    refine px_iconst (v := (0 : Int32)) C dX9_service_23 rfl ?_
    refine px_iconst (v := (5 : Int32)) C dX9_service_24 rfl ?_
    refine px_callSi (h := 0) (rc' := 0) (rs' := 0) C (HR_le hHR (Nat.le_of_ble_eq_true rfl)) hRt hnT dX9_service_25 (gw8 138 rfl rfl) ms_X9_in (w9_in_ok (PCx_l C) (PCx_I C) hk) rfl rfl (Nat.le_of_ble_eq_true rfl) (Nat.le_of_ble_eq_true rfl) (Nat.le_of_ble_eq_true rfl) (Nat.le_of_ble_eq_true rfl) ?_
    intro r6 μ5 hk
    refine px_if_ne (tgt := 37) C dX9_service_28 (by decide) (fun c19 => ?_) (fun c19 => ?_)
    · replace hk := hk.1 c19
      refine px_iconst (v := (0 : Int32)) C dX9_service_37 rfl ?_
      refine px_istore_n (i := 3) C dX9_service_38 rfl (by decide) rfl ?_
      refine px_iconst (v := (0 : Int32)) C dX9_service_39 rfl ?_
      refine px_istore (i := 4) C dX9_service_40 (by decide) rfl ?_
      refine px_iconst (v := (0 : Int32)) C dX9_service_42 rfl ?_
      refine px_istore (i := 5) C dX9_service_43 (by decide) rfl ?_
      exact PW_at (w9_service_b45_ok C hRt hHR hnT hk) (And.intro rfl (And.intro rfl (And.intro rfl (And.intro rfl (And.intro rfl (And.intro rfl trivial)))))) (Nat.le_of_ble_eq_true rfl) (Nat.le_of_ble_eq_true rfl)
    · replace hk := hk.2 c19
      refine px_aload_n (i := 0) C dX9_service_31 rfl rfl ?_
      refine px_iconst (v := (2 : Int32)) C dX9_service_32 rfl ?_
      refine px_callVi (h := 0) (rc' := 0) (rs' := 0) C (HR_le hHR (Nat.le_of_ble_eq_true rfl)) hRt hnT dX9_service_33 (gw8 144 rfl rfl) mv_X9_fails (w9_fails_ok (PCx_l C) (PCx_I C) hk) rfl rfl rfl rfl rfl (Nat.le_of_ble_eq_true rfl) (Nat.le_of_ble_eq_true rfl) (Nat.le_of_ble_eq_true rfl) (Nat.le_of_ble_eq_true rfl) ?_
      intro r18 μ17 hk
      exact px_iret C hRt dX9_service_36 rfl rfl hk
  · replace hk := hk.2 c22
    refine px_aload_n (i := 0) C dX9_service_16 rfl rfl ?_
    refine px_iconst (v := (1 : Int32)) C dX9_service_17 rfl ?_
    refine px_callVi (h := 0) (rc' := 0) (rs' := 0) C (HR_le hHR (Nat.le_of_ble_eq_true rfl)) hRt hnT dX9_service_18 (gw8 144 rfl rfl) mv_X9_fails (w9_fails_ok (PCx_l C) (PCx_I C) hk) rfl rfl rfl rfl rfl (Nat.le_of_ble_eq_true rfl) (Nat.le_of_ble_eq_true rfl) (Nat.le_of_ble_eq_true rfl) (Nat.le_of_ble_eq_true rfl) ?_
    intro r21 μ20 hk
    exact px_iret C hRt dX9_service_21 rfl rfl hk
theorem dX9_quantile_0 : decode cX9_quantile 0 = .ok (.aload_n 0, 1) := by decide +kernel
theorem dX9_quantile_1 : decode cX9_quantile 1 = .ok (.iconst 0, 1) := by decide +kernel
theorem dX9_quantile_2 : decode cX9_quantile 2 = .ok (.putfield 80, 3) := by decide +kernel
theorem dX9_quantile_5 : decode cX9_quantile 5 = .ok (.iload_n 1, 1) := by decide +kernel
theorem dX9_quantile_6 : decode cX9_quantile 6 = .ok (.invokestatic 222, 3) := by decide +kernel
theorem dX9_quantile_9 : decode cX9_quantile 9 = .ok (.ifCond .ne 9, 3) := by decide +kernel
theorem dX9_quantile_12 : decode cX9_quantile 12 = .ok (.aload_n 0, 1) := by decide +kernel
theorem dX9_quantile_13 : decode cX9_quantile 13 = .ok (.iconst 1, 1) := by decide +kernel
theorem dX9_quantile_14 : decode cX9_quantile 14 = .ok (.invokevirtual 203, 3) := by decide +kernel
theorem dX9_quantile_17 : decode cX9_quantile 17 = .ok (.ireturn, 1) := by decide +kernel
theorem dX9_quantile_18 : decode cX9_quantile 18 = .ok (.iload_n 2, 1) := by decide +kernel
theorem dX9_quantile_19 : decode cX9_quantile 19 = .ok (.iconst 0, 1) := by decide +kernel
theorem dX9_quantile_20 : decode cX9_quantile 20 = .ok (.bipush 100, 2) := by decide +kernel
theorem dX9_quantile_22 : decode cX9_quantile 22 = .ok (.invokestatic 140, 3) := by decide +kernel
theorem dX9_quantile_25 : decode cX9_quantile 25 = .ok (.ifCond .ne 9, 3) := by decide +kernel
theorem dX9_quantile_28 : decode cX9_quantile 28 = .ok (.aload_n 0, 1) := by decide +kernel
theorem dX9_quantile_29 : decode cX9_quantile 29 = .ok (.iconst 2, 1) := by decide +kernel
theorem dX9_quantile_30 : decode cX9_quantile 30 = .ok (.invokevirtual 203, 3) := by decide +kernel
theorem dX9_quantile_33 : decode cX9_quantile 33 = .ok (.ireturn, 1) := by decide +kernel
theorem dX9_quantile_34 : decode cX9_quantile 34 = .ok (.iconst 0, 1) := by decide +kernel
theorem dX9_quantile_35 : decode cX9_quantile 35 = .ok (.istore_n 3, 1) := by decide +kernel
theorem dX9_quantile_36 : decode cX9_quantile 36 = .ok (.iconst 0, 1) := by decide +kernel
theorem dX9_quantile_37 : decode cX9_quantile 37 = .ok (.istore 4, 2) := by decide +kernel
theorem dX9_quantile_39 : decode cX9_quantile 39 = .ok (.iload 4, 2) := by decide +kernel
theorem dX9_quantile_41 : decode cX9_quantile 41 = .ok (.aload_n 0, 1) := by decide +kernel
theorem dX9_quantile_42 : decode cX9_quantile 42 = .ok (.getfield 7, 3) := by decide +kernel
theorem dX9_quantile_45 : decode cX9_quantile 45 = .ok (.iconst 0, 1) := by decide +kernel
theorem dX9_quantile_46 : decode cX9_quantile 46 = .ok (.iaload, 1) := by decide +kernel
theorem dX9_quantile_47 : decode cX9_quantile 47 = .ok (.if_icmp .ge 28, 3) := by decide +kernel
theorem dX9_quantile_50 : decode cX9_quantile 50 = .ok (.iload_n 3, 1) := by decide +kernel
theorem dX9_quantile_51 : decode cX9_quantile 51 = .ok (.aload_n 0, 1) := by decide +kernel
theorem dX9_quantile_52 : decode cX9_quantile 52 = .ok (.iload 4, 2) := by decide +kernel
theorem dX9_quantile_54 : decode cX9_quantile 54 = .ok (.iconst 3, 1) := by decide +kernel
theorem dX9_quantile_55 : decode cX9_quantile 55 = .ok (.invokevirtual 83, 3) := by decide +kernel
theorem dX9_quantile_58 : decode cX9_quantile 58 = .ok (.iload_n 1, 1) := by decide +kernel
theorem dX9_quantile_59 : decode cX9_quantile 59 = .ok (.if_icmp .ne 7, 3) := by decide +kernel
theorem dX9_quantile_62 : decode cX9_quantile 62 = .ok (.iconst 1, 1) := by decide +kernel
theorem dX9_quantile_63 : decode cX9_quantile 63 = .ok (.goto 4, 3) := by decide +kernel
theorem dX9_quantile_66 : decode cX9_quantile 66 = .ok (.iconst 0, 1) := by decide +kernel
theorem dX9_quantile_67 : decode cX9_quantile 67 = .ok (.iadd, 1) := by decide +kernel
theorem dX9_quantile_68 : decode cX9_quantile 68 = .ok (.istore_n 3, 1) := by decide +kernel
theorem dX9_quantile_69 : decode cX9_quantile 69 = .ok (.iinc 4 1, 3) := by decide +kernel
theorem dX9_quantile_72 : decode cX9_quantile 72 = .ok (.goto (-33), 3) := by decide +kernel
theorem dX9_quantile_75 : decode cX9_quantile 75 = .ok (.iload_n 3, 1) := by decide +kernel
theorem dX9_quantile_76 : decode cX9_quantile 76 = .ok (.ifCond .ne 9, 3) := by decide +kernel
theorem dX9_quantile_79 : decode cX9_quantile 79 = .ok (.aload_n 0, 1) := by decide +kernel
theorem dX9_quantile_80 : decode cX9_quantile 80 = .ok (.iconst 3, 1) := by decide +kernel
theorem dX9_quantile_81 : decode cX9_quantile 81 = .ok (.invokevirtual 203, 3) := by decide +kernel
theorem dX9_quantile_84 : decode cX9_quantile 84 = .ok (.ireturn, 1) := by decide +kernel
theorem dX9_quantile_85 : decode cX9_quantile 85 = .ok (.iconst 1, 1) := by decide +kernel
theorem dX9_quantile_86 : decode cX9_quantile 86 = .ok (.iload_n 2, 1) := by decide +kernel
theorem dX9_quantile_87 : decode cX9_quantile 87 = .ok (.iload_n 3, 1) := by decide +kernel
theorem dX9_quantile_88 : decode cX9_quantile 88 = .ok (.imul, 1) := by decide +kernel
theorem dX9_quantile_89 : decode cX9_quantile 89 = .ok (.bipush 99, 2) := by decide +kernel
theorem dX9_quantile_91 : decode cX9_quantile 91 = .ok (.iadd, 1) := by decide +kernel
theorem dX9_quantile_92 : decode cX9_quantile 92 = .ok (.bipush 100, 2) := by decide +kernel
theorem dX9_quantile_94 : decode cX9_quantile 94 = .ok (.idiv, 1) := by decide +kernel
theorem dX9_quantile_95 : decode cX9_quantile 95 = .ok (.invokestatic 156, 3) := by decide +kernel
theorem dX9_quantile_98 : decode cX9_quantile 98 = .ok (.istore 4, 2) := by decide +kernel
theorem dX9_quantile_100 : decode cX9_quantile 100 = .ok (.iconst 0, 1) := by decide +kernel
theorem dX9_quantile_101 : decode cX9_quantile 101 = .ok (.istore 5, 2) := by decide +kernel
theorem dX9_quantile_103 : decode cX9_quantile 103 = .ok (.aload_n 0, 1) := by decide +kernel
theorem dX9_quantile_104 : decode cX9_quantile 104 = .ok (.iload_n 1, 1) := by decide +kernel
theorem dX9_quantile_105 : decode cX9_quantile 105 = .ok (.iload 5, 2) := by decide +kernel
theorem dX9_quantile_107 : decode cX9_quantile 107 = .ok (.invokevirtual 267, 3) := by decide +kernel
theorem dX9_quantile_110 : decode cX9_quantile 110 = .ok (.iload 4, 2) := by decide +kernel
theorem dX9_quantile_112 : decode cX9_quantile 112 = .ok (.if_icmp .ge 9, 3) := by decide +kernel
theorem dX9_quantile_115 : decode cX9_quantile 115 = .ok (.iinc 5 1, 3) := by decide +kernel
theorem dX9_quantile_118 : decode cX9_quantile 118 = .ok (.goto (-15), 3) := by decide +kernel
theorem dX9_quantile_121 : decode cX9_quantile 121 = .ok (.iload 5, 2) := by decide +kernel
theorem dX9_quantile_123 : decode cX9_quantile 123 = .ok (.ireturn, 1) := by decide +kernel
set_option maxRecDepth 100000 in
set_option maxHeartbeats 4000000 in
theorem w9_quantile_b103_ok {G : GT} {P : Int32 → Mem → Prop} {X : String → Mem → Prop} (C : PCx G cX9_quantile 6 RX9) (hRt : PRt G (some .int) (qI P) X) (hHR : HR G (3)) (hnT : NoT G) {μ : Mem} {l1 : Int32} {l4 : Int32} {l5 : Int32} (hk : w9_quantile_b103 P μ l1 l4 l5) : PW G 0 0 103 [some (pR 50 0), some (pI l1), none, none, some (pI l4), some (pI l5)] [] μ := by
  refine hk (fun (μ : Mem) (l1 : Int32) (l4 : Int32) (l5 : Int32) => PW G 0 0 103 [some (pR 50 0), some (pI l1), none, none, some (pI l4), some (pI l5)] [] μ) (fun (μ : Mem) l1 l4 l5 hk => ?_)
  have hR103 : ∀ (μ : Mem) (l1 : Int32) (l4 : Int32) (l5 : Int32), PW G 0 0 103 [some (pR 50 0), some (pI l1), none, none, some (pI l4), some (pI l5)] [] μ → PW G 0 0 103 [some (pR 50 0), some (pI l1), none, none, some (pI l4), some (pI l5)] [] μ := fun _ _ _ _ h => h
  unfold w9_quantile_b103_body at hk
  refine px_aload_n (i := 0) C dX9_quantile_103 rfl rfl ?_
  refine px_iload_n (i := 1) C dX9_quantile_104 rfl rfl ?_
  refine px_iload (i := 5) C dX9_quantile_105 rfl ?_
  refine px_callVi (h := 2) (rc' := 0) (rs' := 0) C (HR_le hHR (Nat.le_of_ble_eq_true rfl)) hRt hnT dX9_quantile_107 (gw9 220 rfl rfl) mv_X9_upTo (w9_upTo_ok (PCx_l C) (PCx_I C) hk) rfl rfl rfl rfl rfl (Nat.le_of_ble_eq_true rfl) (Nat.le_of_ble_eq_true rfl) (Nat.le_of_ble_eq_true rfl) (Nat.le_of_ble_eq_true rfl) ?_
  intro r9 μ8 hk
  refine px_iload (i := 4) C dX9_quantile_110 rfl ?_
  refine px_icmp_ge (tgt := 121) C dX9_quantile_112 (by decide) (fun c10 => ?_) (fun c10 => ?_)
  · replace hk := hk.1 c10
    refine px_iload (i := 5) C dX9_quantile_121 rfl ?_
    exact px_iret C hRt dX9_quantile_123 rfl rfl hk
  · replace hk := hk.2 c10
    refine px_iinc (i := 5) (v := (1 : Int32)) C dX9_quantile_115 rfl rfl (by decide) rfl ?_
    refine px_goto (tgt := 103) C dX9_quantile_118 (by decide) ?_
    exact PW_at (hR103 _ _ _ _ hk) (And.intro rfl (And.intro rfl (And.intro rfl (And.intro rfl trivial)))) (Nat.le_of_ble_eq_true rfl) (Nat.le_of_ble_eq_true rfl)
set_option maxRecDepth 100000 in
set_option maxHeartbeats 4000000 in
theorem w9_quantile_b39_ok {G : GT} {P : Int32 → Mem → Prop} {X : String → Mem → Prop} (C : PCx G cX9_quantile 6 RX9) (hRt : PRt G (some .int) (qI P) X) (hHR : HR G (3)) (hnT : NoT G) {μ : Mem} {l1 : Int32} {l2 : Int32} {l3 : Int32} {l4 : Int32} (hk : w9_quantile_b39 P μ l1 l2 l3 l4) : PW G 0 0 39 [some (pR 50 0), some (pI l1), some (pI l2), some (pI l3), some (pI l4), none] [] μ := by
  refine hk (fun (μ : Mem) (l1 : Int32) (l2 : Int32) (l3 : Int32) (l4 : Int32) => PW G 0 0 39 [some (pR 50 0), some (pI l1), some (pI l2), some (pI l3), some (pI l4), none] [] μ) (fun (μ : Mem) l1 l2 l3 l4 hk => ?_)
  have hR39 : ∀ (μ : Mem) (l1 : Int32) (l2 : Int32) (l3 : Int32) (l4 : Int32), PW G 0 0 39 [some (pR 50 0), some (pI l1), some (pI l2), some (pI l3), some (pI l4), none] [] μ → PW G 0 0 39 [some (pR 50 0), some (pI l1), some (pI l2), some (pI l3), some (pI l4), none] [] μ := fun _ _ _ _ _ h => h
  unfold w9_quantile_b39_body at hk
  refine px_iload (i := 4) C dX9_quantile_39 rfl ?_
  refine px_aload_n (i := 0) C dX9_quantile_41 rfl rfl ?_
  refine px_getr C dX9_quantile_42 fl_RX9_7 rfl rfl rfl ?_
  refine px_iconst (v := (0 : Int32)) C dX9_quantile_45 rfl ?_
  obtain ⟨o6, hk⟩ := hk
  refine px_iald 3264 C dX9_quantile_46 rfl rfl rfl rfl o6 ?_
  refine px_icmp_ge (tgt := 75) C dX9_quantile_47 (by decide) (fun c17 => ?_) (fun c17 => ?_)
  · replace hk := hk.1 c17
    refine px_iload_n (i := 3) C dX9_quantile_75 rfl rfl ?_
    refine px_if_ne (tgt := 85) C dX9_quantile_76 (by decide) (fun c13 => ?_) (fun c13 => ?_)
    · replace hk := hk.1 c13
      refine px_iconst (v := (1 : Int32)) C dX9_quantile_85 rfl ?_
      refine px_iload_n (i := 2) C dX9_quantile_86 rfl rfl ?_
      refine px_iload_n (i := 3) C dX9_quantile_87 rfl rfl ?_
      refine px_imul C dX9_quantile_88 ?_
      refine px_bipush (v := (99 : Int32)) C dX9_quantile_89 rfl ?_
      refine px_iadd C dX9_quantile_91 ?_
      refine px_bipush (v := (100 : Int32)) C dX9_quantile_92 rfl ?_
      obtain ⟨o7, hk⟩ := hk
      refine px_idiv C dX9_quantile_94 o7 ?_
      refine px_mmax C (HR_le hHR (Nat.le_of_ble_eq_true rfl)) dX9_quantile_95 (gw9 142 rfl rfl) math_max (Nat.le_of_ble_eq_true rfl) ?_
      refine px_istore (i := 4) C dX9_quantile_98 (by decide) rfl ?_
      refine px_iconst (v := (0 : Int32)) C dX9_quantile_100 rfl ?_
      refine px_istore (i := 5) C dX9_quantile_101 (by decide) rfl ?_
      exact PW_at (w9_quantile_b103_ok C hRt hHR hnT hk) (And.intro rfl (And.intro rfl (And.intro rfl (And.intro rfl trivial)))) (Nat.le_of_ble_eq_true rfl) (Nat.le_of_ble_eq_true rfl)
    · replace hk := hk.2 c13
      refine px_aload_n (i := 0) C dX9_quantile_79 rfl rfl ?_
      refine px_iconst (v := (3 : Int32)) C dX9_quantile_80 rfl ?_
      refine px_callVi (h := 0) (rc' := 0) (rs' := 0) C (HR_le hHR (Nat.le_of_ble_eq_true rfl)) hRt hnT dX9_quantile_81 (gw8 144 rfl rfl) mv_X9_fails (w9_fails_ok (PCx_l C) (PCx_I C) hk) rfl rfl rfl rfl rfl (Nat.le_of_ble_eq_true rfl) (Nat.le_of_ble_eq_true rfl) (Nat.le_of_ble_eq_true rfl) (Nat.le_of_ble_eq_true rfl) ?_
      intro r12 μ11 hk
      exact px_iret C hRt dX9_quantile_84 rfl rfl hk
  · replace hk := hk.2 c17
    refine px_iload_n (i := 3) C dX9_quantile_50 rfl rfl ?_
    refine px_aload_n (i := 0) C dX9_quantile_51 rfl rfl ?_
    refine px_iload (i := 4) C dX9_quantile_52 rfl ?_
    refine px_iconst (v := (3 : Int32)) C dX9_quantile_54 rfl ?_
    refine px_callVi (h := 0) (rc' := 0) (rs' := 0) C (HR_le hHR (Nat.le_of_ble_eq_true rfl)) hRt hnT dX9_quantile_55 (gw8 152 rfl rfl) mv_X9_of (w9_of_ok (PCx_l C) (PCx_I C) hk) rfl rfl rfl rfl rfl (Nat.le_of_ble_eq_true rfl) (Nat.le_of_ble_eq_true rfl) (Nat.le_of_ble_eq_true rfl) (Nat.le_of_ble_eq_true rfl) ?_
    intro r15 μ14 hk
    refine px_iload_n (i := 1) C dX9_quantile_58 rfl rfl ?_
    refine px_icmp_ne (tgt := 66) C dX9_quantile_59 (by decide) (fun c16 => ?_) (fun c16 => ?_)
    · replace hk := hk.1 c16
      refine px_iconst (v := (0 : Int32)) C dX9_quantile_66 rfl ?_
      refine px_iadd C dX9_quantile_67 ?_
      refine px_istore_n (i := 3) C dX9_quantile_68 rfl (by decide) rfl ?_
      refine px_iinc (i := 4) (v := (1 : Int32)) C dX9_quantile_69 rfl rfl (by decide) rfl ?_
      refine px_goto (tgt := 39) C dX9_quantile_72 (by decide) ?_
      exact PW_at (hR39 _ _ _ _ _ hk) (And.intro rfl (And.intro rfl (And.intro rfl (And.intro rfl (And.intro rfl trivial))))) (Nat.le_of_ble_eq_true rfl) (Nat.le_of_ble_eq_true rfl)
    · replace hk := hk.2 c16
      refine px_iconst (v := (1 : Int32)) C dX9_quantile_62 rfl ?_
      refine px_goto (tgt := 67) C dX9_quantile_63 (by decide) ?_
      refine px_iadd C dX9_quantile_67 ?_
      refine px_istore_n (i := 3) C dX9_quantile_68 rfl (by decide) rfl ?_
      refine px_iinc (i := 4) (v := (1 : Int32)) C dX9_quantile_69 rfl rfl (by decide) rfl ?_
      refine px_goto (tgt := 39) C dX9_quantile_72 (by decide) ?_
      exact PW_at (hR39 _ _ _ _ _ hk) (And.intro rfl (And.intro rfl (And.intro rfl (And.intro rfl (And.intro rfl trivial))))) (Nat.le_of_ble_eq_true rfl) (Nat.le_of_ble_eq_true rfl)
set_option maxRecDepth 100000 in
set_option maxHeartbeats 4000000 in
theorem w9_quantile_ok {l : Launch} {idx : List (Nat × Nat)} {μ : Mem} {a1 : Int32} {a2 : Int32} {P : Int32 → Mem → Prop} {X : String → Mem → Prop} (hl : l.stackTraces = false) (hI : IdxOK idx) (hk : w9_quantile_wp μ a1 a2 P) : PMet l yX9_quantile (.code yX9_quantile cX9_quantile 6 (some .int)) 3 0 0 idx [pR 50 0, pI a1, pI a2] μ (qI P) X := by
  refine PMet_of mv_X9_quantile.2.2.2.2.2.2 hl hI mv_X9_quantile.2.2.2.1 rfl (Nat.le_of_ble_eq_true rfl) (fun G _ _ C hRt hHR hnT => ?_)
  show PW G 0 0 0 [some (pR 50 0), some (pI a1), some (pI a2), none, none, none] [] μ
  unfold w9_quantile_wp at hk
  refine px_aload_n (i := 0) C dX9_quantile_0 rfl rfl ?_
  refine px_iconst (v := (0 : Int32)) C dX9_quantile_1 rfl ?_
  replace hk := hk _ rfl
  refine px_puti 3201 C dX9_quantile_2 fp_RX9_80 rfl rfl rfl rfl rfl rfl ?_
  refine px_iload_n (i := 1) C dX9_quantile_5 rfl rfl ?_
  refine px_callSi (h := 1) (rc' := 0) (rs' := 0) C (HR_le hHR (Nat.le_of_ble_eq_true rfl)) hRt hnT dX9_quantile_6 (gw9 3 rfl rfl) ms_X9_isService (w9_isService_ok (PCx_l C) (PCx_I C) hk) rfl rfl (Nat.le_of_ble_eq_true rfl) (Nat.le_of_ble_eq_true rfl) (Nat.le_of_ble_eq_true rfl) (Nat.le_of_ble_eq_true rfl) ?_
  intro r3 μ2 hk
  refine px_if_ne (tgt := 18) C dX9_quantile_9 (by decide) (fun c23 => ?_) (fun c23 => ?_)
  · replace hk := hk.1 c23
    refine px_iload_n (i := 2) C dX9_quantile_18 rfl rfl ?_
    refine px_iconst (v := (0 : Int32)) C dX9_quantile_19 rfl ?_
    refine px_bipush (v := (100 : Int32)) C dX9_quantile_20 rfl ?_
    refine px_callSi (h := 0) (rc' := 0) (rs' := 0) C (HR_le hHR (Nat.le_of_ble_eq_true rfl)) hRt hnT dX9_quantile_22 (gw8 138 rfl rfl) ms_X9_in (w9_in_ok (PCx_l C) (PCx_I C) hk) rfl rfl (Nat.le_of_ble_eq_true rfl) (Nat.le_of_ble_eq_true rfl) (Nat.le_of_ble_eq_true rfl) (Nat.le_of_ble_eq_true rfl) ?_
    intro r5 μ4 hk
    refine px_if_ne (tgt := 34) C dX9_quantile_25 (by decide) (fun c20 => ?_) (fun c20 => ?_)
    · replace hk := hk.1 c20
      refine px_iconst (v := (0 : Int32)) C dX9_quantile_34 rfl ?_
      refine px_istore_n (i := 3) C dX9_quantile_35 rfl (by decide) rfl ?_
      refine px_iconst (v := (0 : Int32)) C dX9_quantile_36 rfl ?_
      refine px_istore (i := 4) C dX9_quantile_37 (by decide) rfl ?_
      exact PW_at (w9_quantile_b39_ok C hRt hHR hnT hk) (And.intro rfl (And.intro rfl (And.intro rfl (And.intro rfl (And.intro rfl trivial))))) (Nat.le_of_ble_eq_true rfl) (Nat.le_of_ble_eq_true rfl)
    · replace hk := hk.2 c20
      refine px_aload_n (i := 0) C dX9_quantile_28 rfl rfl ?_
      refine px_iconst (v := (2 : Int32)) C dX9_quantile_29 rfl ?_
      refine px_callVi (h := 0) (rc' := 0) (rs' := 0) C (HR_le hHR (Nat.le_of_ble_eq_true rfl)) hRt hnT dX9_quantile_30 (gw8 144 rfl rfl) mv_X9_fails (w9_fails_ok (PCx_l C) (PCx_I C) hk) rfl rfl rfl rfl rfl (Nat.le_of_ble_eq_true rfl) (Nat.le_of_ble_eq_true rfl) (Nat.le_of_ble_eq_true rfl) (Nat.le_of_ble_eq_true rfl) ?_
      intro r19 μ18 hk
      exact px_iret C hRt dX9_quantile_33 rfl rfl hk
  · replace hk := hk.2 c23
    refine px_aload_n (i := 0) C dX9_quantile_12 rfl rfl ?_
    refine px_iconst (v := (1 : Int32)) C dX9_quantile_13 rfl ?_
    refine px_callVi (h := 0) (rc' := 0) (rs' := 0) C (HR_le hHR (Nat.le_of_ble_eq_true rfl)) hRt hnT dX9_quantile_14 (gw8 144 rfl rfl) mv_X9_fails (w9_fails_ok (PCx_l C) (PCx_I C) hk) rfl rfl rfl rfl rfl (Nat.le_of_ble_eq_true rfl) (Nat.le_of_ble_eq_true rfl) (Nat.le_of_ble_eq_true rfl) (Nat.le_of_ble_eq_true rfl) ?_
    intro r22 μ21 hk
    exact px_iret C hRt dX9_quantile_17 rfl rfl hk
theorem dX9_extent_0 : decode cX9_extent 0 = .ok (.aload_n 0, 1) := by decide +kernel
theorem dX9_extent_1 : decode cX9_extent 1 = .ok (.iconst 0, 1) := by decide +kernel
theorem dX9_extent_2 : decode cX9_extent 2 = .ok (.putfield 80, 3) := by decide +kernel
theorem dX9_extent_5 : decode cX9_extent 5 = .ok (.aload_n 0, 1) := by decide +kernel
theorem dX9_extent_6 : decode cX9_extent 6 = .ok (.invokevirtual 137, 3) := by decide +kernel
theorem dX9_extent_9 : decode cX9_extent 9 = .ok (.iload_n 1, 1) := by decide +kernel
theorem dX9_extent_10 : decode cX9_extent 10 = .ok (.invokestatic 143, 3) := by decide +kernel
theorem dX9_extent_13 : decode cX9_extent 13 = .ok (.ifCond .ne 9, 3) := by decide +kernel
theorem dX9_extent_16 : decode cX9_extent 16 = .ok (.aload_n 0, 1) := by decide +kernel
theorem dX9_extent_17 : decode cX9_extent 17 = .ok (.iconst 1, 1) := by decide +kernel
theorem dX9_extent_18 : decode cX9_extent 18 = .ok (.invokevirtual 203, 3) := by decide +kernel
theorem dX9_extent_21 : decode cX9_extent 21 = .ok (.ireturn, 1) := by decide +kernel
theorem dX9_extent_22 : decode cX9_extent 22 = .ok (.aload_n 0, 1) := by decide +kernel
theorem dX9_extent_23 : decode cX9_extent 23 = .ok (.iload_n 1, 1) := by decide +kernel
theorem dX9_extent_24 : decode cX9_extent 24 = .ok (.invokevirtual 258, 3) := by decide +kernel
theorem dX9_extent_27 : decode cX9_extent 27 = .ok (.ifCond .ne 11, 3) := by decide +kernel
theorem dX9_extent_30 : decode cX9_extent 30 = .ok (.aload_n 0, 1) := by decide +kernel
theorem dX9_extent_31 : decode cX9_extent 31 = .ok (.iconst 2, 1) := by decide +kernel
theorem dX9_extent_32 : decode cX9_extent 32 = .ok (.invokevirtual 203, 3) := by decide +kernel
theorem dX9_extent_35 : decode cX9_extent 35 = .ok (.goto 8, 3) := by decide +kernel
theorem dX9_extent_38 : decode cX9_extent 38 = .ok (.aload_n 0, 1) := by decide +kernel
theorem dX9_extent_39 : decode cX9_extent 39 = .ok (.iload_n 1, 1) := by decide +kernel
theorem dX9_extent_40 : decode cX9_extent 40 = .ok (.invokevirtual 270, 3) := by decide +kernel
theorem dX9_extent_43 : decode cX9_extent 43 = .ok (.ireturn, 1) := by decide +kernel
set_option maxRecDepth 100000 in
set_option maxHeartbeats 4000000 in
theorem w9_extent_ok {l : Launch} {idx : List (Nat × Nat)} {μ : Mem} {a1 : Int32} {P : Int32 → Mem → Prop} {X : String → Mem → Prop} (hl : l.stackTraces = false) (hI : IdxOK idx) (hk : w9_extent_wp μ a1 P) : PMet l yX9_extent (.code yX9_extent cX9_extent 2 (some .int)) 6 0 0 idx [pR 50 0, pI a1] μ (qI P) X := by
  refine PMet_of mv_X9_extent.2.2.2.2.2.2 hl hI mv_X9_extent.2.2.2.1 rfl (Nat.le_of_ble_eq_true rfl) (fun G _ _ C hRt hHR hnT => ?_)
  show PW G 0 0 0 [some (pR 50 0), some (pI a1)] [] μ
  unfold w9_extent_wp at hk
  refine px_aload_n (i := 0) C dX9_extent_0 rfl rfl ?_
  refine px_iconst (v := (0 : Int32)) C dX9_extent_1 rfl ?_
  replace hk := hk _ rfl
  refine px_puti 3201 C dX9_extent_2 fp_RX9_80 rfl rfl rfl rfl rfl rfl ?_
  refine px_aload_n (i := 0) C dX9_extent_5 rfl rfl ?_
  refine px_callVv (h := 5) (rc' := 0) (rs' := 0) C (HR_le hHR (Nat.le_of_ble_eq_true rfl)) hRt hnT dX9_extent_6 (gw8 208 rfl rfl) mv_X9_knows (w9_knows_ok (PCx_l C) (PCx_I C) hk) rfl rfl rfl rfl rfl (Nat.le_of_ble_eq_true rfl) (Nat.le_of_ble_eq_true rfl) (Nat.le_of_ble_eq_true rfl) (Nat.le_of_ble_eq_true rfl) ?_
  intro μ2 hk
  refine px_iload_n (i := 1) C dX9_extent_9 rfl rfl ?_
  refine px_callSi (h := 1) (rc' := 0) (rs' := 0) C (HR_le hHR (Nat.le_of_ble_eq_true rfl)) hRt hnT dX9_extent_10 (gw8 135 rfl rfl) ms_X9_isTrace (w9_isTrace_ok (PCx_l C) (PCx_I C) hk) rfl rfl (Nat.le_of_ble_eq_true rfl) (Nat.le_of_ble_eq_true rfl) (Nat.le_of_ble_eq_true rfl) (Nat.le_of_ble_eq_true rfl) ?_
  intro r4 μ3 hk
  refine px_if_ne (tgt := 22) C dX9_extent_13 (by decide) (fun c14 => ?_) (fun c14 => ?_)
  · replace hk := hk.1 c14
    refine px_aload_n (i := 0) C dX9_extent_22 rfl rfl ?_
    refine px_iload_n (i := 1) C dX9_extent_23 rfl rfl ?_
    refine px_callVi (h := 1) (rc' := 0) (rs' := 0) C (HR_le hHR (Nat.le_of_ble_eq_true rfl)) hRt hnT dX9_extent_24 (gw9 200 rfl rfl) mv_X9_inTrace (w9_inTrace_ok (PCx_l C) (PCx_I C) hk) rfl rfl rfl rfl rfl (Nat.le_of_ble_eq_true rfl) (Nat.le_of_ble_eq_true rfl) (Nat.le_of_ble_eq_true rfl) (Nat.le_of_ble_eq_true rfl) ?_
    intro r6 μ5 hk
    refine px_if_ne (tgt := 38) C dX9_extent_27 (by decide) (fun c11 => ?_) (fun c11 => ?_)
    · replace hk := hk.1 c11
      refine px_aload_n (i := 0) C dX9_extent_38 rfl rfl ?_
      refine px_iload_n (i := 1) C dX9_extent_39 rfl rfl ?_
      refine px_callVi (h := 2) (rc' := 0) (rs' := 0) C (HR_le hHR (Nat.le_of_ble_eq_true rfl)) hRt hnT dX9_extent_40 (gw9 228 rfl rfl) mv_X9_extentOf (w9_extentOf_ok (PCx_l C) (PCx_I C) hk) rfl rfl rfl rfl rfl (Nat.le_of_ble_eq_true rfl) (Nat.le_of_ble_eq_true rfl) (Nat.le_of_ble_eq_true rfl) (Nat.le_of_ble_eq_true rfl) ?_
      intro r8 μ7 hk
      exact px_iret C hRt dX9_extent_43 rfl rfl hk
    · replace hk := hk.2 c11
      refine px_aload_n (i := 0) C dX9_extent_30 rfl rfl ?_
      refine px_iconst (v := (2 : Int32)) C dX9_extent_31 rfl ?_
      refine px_callVi (h := 0) (rc' := 0) (rs' := 0) C (HR_le hHR (Nat.le_of_ble_eq_true rfl)) hRt hnT dX9_extent_32 (gw8 144 rfl rfl) mv_X9_fails (w9_fails_ok (PCx_l C) (PCx_I C) hk) rfl rfl rfl rfl rfl (Nat.le_of_ble_eq_true rfl) (Nat.le_of_ble_eq_true rfl) (Nat.le_of_ble_eq_true rfl) (Nat.le_of_ble_eq_true rfl) ?_
      intro r10 μ9 hk
      refine px_goto (tgt := 43) C dX9_extent_35 (by decide) ?_
      exact px_iret C hRt dX9_extent_43 rfl rfl hk
  · replace hk := hk.2 c14
    refine px_aload_n (i := 0) C dX9_extent_16 rfl rfl ?_
    refine px_iconst (v := (1 : Int32)) C dX9_extent_17 rfl ?_
    refine px_callVi (h := 0) (rc' := 0) (rs' := 0) C (HR_le hHR (Nat.le_of_ble_eq_true rfl)) hRt hnT dX9_extent_18 (gw8 144 rfl rfl) mv_X9_fails (w9_fails_ok (PCx_l C) (PCx_I C) hk) rfl rfl rfl rfl rfl (Nat.le_of_ble_eq_true rfl) (Nat.le_of_ble_eq_true rfl) (Nat.le_of_ble_eq_true rfl) (Nat.le_of_ble_eq_true rfl) ?_
    intro r13 μ12 hk
    exact px_iret C hRt dX9_extent_21 rfl rfl hk
theorem dX9_activityRefusal_0 : decode cX9_activityRefusal 0 = .ok (.aload_n 0, 1) := by decide +kernel
theorem dX9_activityRefusal_1 : decode cX9_activityRefusal 1 = .ok (.invokevirtual 137, 3) := by decide +kernel
theorem dX9_activityRefusal_4 : decode cX9_activityRefusal 4 = .ok (.aload_n 0, 1) := by decide +kernel
theorem dX9_activityRefusal_5 : decode cX9_activityRefusal 5 = .ok (.iload_n 1, 1) := by decide +kernel
theorem dX9_activityRefusal_6 : decode cX9_activityRefusal 6 = .ok (.invokestatic 143, 3) := by decide +kernel
theorem dX9_activityRefusal_9 : decode cX9_activityRefusal 9 = .ok (.ifCond .eq 7, 3) := by decide +kernel
theorem dX9_activityRefusal_12 : decode cX9_activityRefusal 12 = .ok (.iload_n 2, 1) := by decide +kernel
theorem dX9_activityRefusal_13 : decode cX9_activityRefusal 13 = .ok (.ifCond .ne 7, 3) := by decide +kernel
theorem dX9_activityRefusal_16 : decode cX9_activityRefusal 16 = .ok (.iconst 1, 1) := by decide +kernel
theorem dX9_activityRefusal_17 : decode cX9_activityRefusal 17 = .ok (.goto 28, 3) := by decide +kernel
theorem dX9_activityRefusal_20 : decode cX9_activityRefusal 20 = .ok (.aload_n 0, 1) := by decide +kernel
theorem dX9_activityRefusal_21 : decode cX9_activityRefusal 21 = .ok (.iload_n 1, 1) := by decide +kernel
theorem dX9_activityRefusal_22 : decode cX9_activityRefusal 22 = .ok (.invokevirtual 258, 3) := by decide +kernel
theorem dX9_activityRefusal_25 : decode cX9_activityRefusal 25 = .ok (.ifCond .ne 7, 3) := by decide +kernel
theorem dX9_activityRefusal_28 : decode cX9_activityRefusal 28 = .ok (.iconst 2, 1) := by decide +kernel
theorem dX9_activityRefusal_29 : decode cX9_activityRefusal 29 = .ok (.goto 16, 3) := by decide +kernel
theorem dX9_activityRefusal_32 : decode cX9_activityRefusal 32 = .ok (.aload_n 0, 1) := by decide +kernel
theorem dX9_activityRefusal_33 : decode cX9_activityRefusal 33 = .ok (.iload_n 1, 1) := by decide +kernel
theorem dX9_activityRefusal_34 : decode cX9_activityRefusal 34 = .ok (.invokevirtual 270, 3) := by decide +kernel
theorem dX9_activityRefusal_37 : decode cX9_activityRefusal 37 = .ok (.ifCond .ne 7, 3) := by decide +kernel
theorem dX9_activityRefusal_40 : decode cX9_activityRefusal 40 = .ok (.iconst 3, 1) := by decide +kernel
theorem dX9_activityRefusal_41 : decode cX9_activityRefusal 41 = .ok (.goto 4, 3) := by decide +kernel
theorem dX9_activityRefusal_44 : decode cX9_activityRefusal 44 = .ok (.iconst 0, 1) := by decide +kernel
theorem dX9_activityRefusal_45 : decode cX9_activityRefusal 45 = .ok (.putfield 80, 3) := by decide +kernel
theorem dX9_activityRefusal_48 : decode cX9_activityRefusal 48 = .ok (.aload_n 0, 1) := by decide +kernel
theorem dX9_activityRefusal_49 : decode cX9_activityRefusal 49 = .ok (.getfield 80, 3) := by decide +kernel
theorem dX9_activityRefusal_52 : decode cX9_activityRefusal 52 = .ok (.ireturn, 1) := by decide +kernel
set_option maxRecDepth 100000 in
set_option maxHeartbeats 4000000 in
theorem w9_activityRefusal_ok {l : Launch} {idx : List (Nat × Nat)} {μ : Mem} {a1 : Int32} {a2 : Int32} {P : Int32 → Mem → Prop} {X : String → Mem → Prop} (hl : l.stackTraces = false) (hI : IdxOK idx) (hk : w9_activityRefusal_wp μ a1 a2 P) : PMet l yX9_activityRefusal (.code yX9_activityRefusal cX9_activityRefusal 3 (some .int)) 6 0 0 idx [pR 50 0, pI a1, pI a2] μ (qI P) X := by
  refine PMet_of mv_X9_activityRefusal.2.2.2.2.2.2 hl hI mv_X9_activityRefusal.2.2.2.1 rfl (Nat.le_of_ble_eq_true rfl) (fun G _ _ C hRt hHR hnT => ?_)
  show PW G 0 0 0 [some (pR 50 0), some (pI a1), some (pI a2)] [] μ
  unfold w9_activityRefusal_wp at hk
  refine px_aload_n (i := 0) C dX9_activityRefusal_0 rfl rfl ?_
  refine px_callVv (h := 5) (rc' := 0) (rs' := 0) C (HR_le hHR (Nat.le_of_ble_eq_true rfl)) hRt hnT dX9_activityRefusal_1 (gw8 208 rfl rfl) mv_X9_knows (w9_knows_ok (PCx_l C) (PCx_I C) hk) rfl rfl rfl rfl rfl (Nat.le_of_ble_eq_true rfl) (Nat.le_of_ble_eq_true rfl) (Nat.le_of_ble_eq_true rfl) (Nat.le_of_ble_eq_true rfl) ?_
  intro μ1 hk
  refine px_aload_n (i := 0) C dX9_activityRefusal_4 rfl rfl ?_
  refine px_iload_n (i := 1) C dX9_activityRefusal_5 rfl rfl ?_
  refine px_callSi (h := 1) (rc' := 0) (rs' := 0) C (HR_le hHR (Nat.le_of_ble_eq_true rfl)) hRt hnT dX9_activityRefusal_6 (gw8 135 rfl rfl) ms_X9_isTrace (w9_isTrace_ok (PCx_l C) (PCx_I C) hk) rfl rfl (Nat.le_of_ble_eq_true rfl) (Nat.le_of_ble_eq_true rfl) (Nat.le_of_ble_eq_true rfl) (Nat.le_of_ble_eq_true rfl) ?_
  intro r3 μ2 hk
  refine px_if_eq (tgt := 16) C dX9_activityRefusal_9 (by decide) (fun c16 => ?_) (fun c16 => ?_)
  · replace hk := hk.1 c16
    refine px_iconst (v := (1 : Int32)) C dX9_activityRefusal_16 rfl ?_
    refine px_goto (tgt := 45) C dX9_activityRefusal_17 (by decide) ?_
    replace hk := hk _ rfl
    refine px_puti 3201 C dX9_activityRefusal_45 fp_RX9_80 rfl rfl rfl rfl rfl rfl ?_
    refine px_aload_n (i := 0) C dX9_activityRefusal_48 rfl rfl ?_
    refine px_geti 3201 C dX9_activityRefusal_49 fl_RX9_80 rfl rfl rfl rfl ?_
    exact px_iret C hRt dX9_activityRefusal_52 rfl rfl hk
  · replace hk := hk.2 c16
    refine px_iload_n (i := 2) C dX9_activityRefusal_12 rfl rfl ?_
    refine px_if_ne (tgt := 20) C dX9_activityRefusal_13 (by decide) (fun c15 => ?_) (fun c15 => ?_)
    · replace hk := hk.1 c15
      refine px_aload_n (i := 0) C dX9_activityRefusal_20 rfl rfl ?_
      refine px_iload_n (i := 1) C dX9_activityRefusal_21 rfl rfl ?_
      refine px_callVi (h := 1) (rc' := 0) (rs' := 0) C (HR_le hHR (Nat.le_of_ble_eq_true rfl)) hRt hnT dX9_activityRefusal_22 (gw9 200 rfl rfl) mv_X9_inTrace (w9_inTrace_ok (PCx_l C) (PCx_I C) hk) rfl rfl rfl rfl rfl (Nat.le_of_ble_eq_true rfl) (Nat.le_of_ble_eq_true rfl) (Nat.le_of_ble_eq_true rfl) (Nat.le_of_ble_eq_true rfl) ?_
      intro r6 μ5 hk
      refine px_if_ne (tgt := 32) C dX9_activityRefusal_25 (by decide) (fun c13 => ?_) (fun c13 => ?_)
      · replace hk := hk.1 c13
        refine px_aload_n (i := 0) C dX9_activityRefusal_32 rfl rfl ?_
        refine px_iload_n (i := 1) C dX9_activityRefusal_33 rfl rfl ?_
        refine px_callVi (h := 2) (rc' := 0) (rs' := 0) C (HR_le hHR (Nat.le_of_ble_eq_true rfl)) hRt hnT dX9_activityRefusal_34 (gw9 228 rfl rfl) mv_X9_extentOf (w9_extentOf_ok (PCx_l C) (PCx_I C) hk) rfl rfl rfl rfl rfl (Nat.le_of_ble_eq_true rfl) (Nat.le_of_ble_eq_true rfl) (Nat.le_of_ble_eq_true rfl) (Nat.le_of_ble_eq_true rfl) ?_
        intro r8 μ7 hk
        refine px_if_ne (tgt := 44) C dX9_activityRefusal_37 (by decide) (fun c11 => ?_) (fun c11 => ?_)
        · replace hk := hk.1 c11
          refine px_iconst (v := (0 : Int32)) C dX9_activityRefusal_44 rfl ?_
          replace hk := hk _ rfl
          refine px_puti 3201 C dX9_activityRefusal_45 fp_RX9_80 rfl rfl rfl rfl rfl rfl ?_
          refine px_aload_n (i := 0) C dX9_activityRefusal_48 rfl rfl ?_
          refine px_geti 3201 C dX9_activityRefusal_49 fl_RX9_80 rfl rfl rfl rfl ?_
          exact px_iret C hRt dX9_activityRefusal_52 rfl rfl hk
        · replace hk := hk.2 c11
          refine px_iconst (v := (3 : Int32)) C dX9_activityRefusal_40 rfl ?_
          refine px_goto (tgt := 45) C dX9_activityRefusal_41 (by decide) ?_
          replace hk := hk _ rfl
          refine px_puti 3201 C dX9_activityRefusal_45 fp_RX9_80 rfl rfl rfl rfl rfl rfl ?_
          refine px_aload_n (i := 0) C dX9_activityRefusal_48 rfl rfl ?_
          refine px_geti 3201 C dX9_activityRefusal_49 fl_RX9_80 rfl rfl rfl rfl ?_
          exact px_iret C hRt dX9_activityRefusal_52 rfl rfl hk
      · replace hk := hk.2 c13
        refine px_iconst (v := (2 : Int32)) C dX9_activityRefusal_28 rfl ?_
        refine px_goto (tgt := 45) C dX9_activityRefusal_29 (by decide) ?_
        replace hk := hk _ rfl
        refine px_puti 3201 C dX9_activityRefusal_45 fp_RX9_80 rfl rfl rfl rfl rfl rfl ?_
        refine px_aload_n (i := 0) C dX9_activityRefusal_48 rfl rfl ?_
        refine px_geti 3201 C dX9_activityRefusal_49 fl_RX9_80 rfl rfl rfl rfl ?_
        exact px_iret C hRt dX9_activityRefusal_52 rfl rfl hk
    · replace hk := hk.2 c15
      refine px_iconst (v := (1 : Int32)) C dX9_activityRefusal_16 rfl ?_
      refine px_goto (tgt := 45) C dX9_activityRefusal_17 (by decide) ?_
      replace hk := hk _ rfl
      refine px_puti 3201 C dX9_activityRefusal_45 fp_RX9_80 rfl rfl rfl rfl rfl rfl ?_
      refine px_aload_n (i := 0) C dX9_activityRefusal_48 rfl rfl ?_
      refine px_geti 3201 C dX9_activityRefusal_49 fl_RX9_80 rfl rfl rfl rfl ?_
      exact px_iret C hRt dX9_activityRefusal_52 rfl rfl hk
