theorem dX9_errorPosition_0 : decode cX9_errorPosition 0 = .ok (.aload_n 0, 1) := by decide +kernel
theorem dX9_errorPosition_1 : decode cX9_errorPosition 1 = .ok (.iconst 0, 1) := by decide +kernel
theorem dX9_errorPosition_2 : decode cX9_errorPosition 2 = .ok (.putfield 80, 3) := by decide +kernel
theorem dX9_errorPosition_5 : decode cX9_errorPosition 5 = .ok (.aload_n 0, 1) := by decide +kernel
theorem dX9_errorPosition_6 : decode cX9_errorPosition 6 = .ok (.getfield 28, 3) := by decide +kernel
theorem dX9_errorPosition_9 : decode cX9_errorPosition 9 = .ok (.iconst (-1), 1) := by decide +kernel
theorem dX9_errorPosition_10 : decode cX9_errorPosition 10 = .ok (.if_icmp .ne 11, 3) := by decide +kernel
theorem dX9_errorPosition_13 : decode cX9_errorPosition 13 = .ok (.aload_n 0, 1) := by decide +kernel
theorem dX9_errorPosition_14 : decode cX9_errorPosition 14 = .ok (.iconst 1, 1) := by decide +kernel
theorem dX9_errorPosition_15 : decode cX9_errorPosition 15 = .ok (.invokevirtual 203, 3) := by decide +kernel
theorem dX9_errorPosition_18 : decode cX9_errorPosition 18 = .ok (.goto 7, 3) := by decide +kernel
theorem dX9_errorPosition_21 : decode cX9_errorPosition 21 = .ok (.aload_n 0, 1) := by decide +kernel
theorem dX9_errorPosition_22 : decode cX9_errorPosition 22 = .ok (.getfield 28, 3) := by decide +kernel
theorem dX9_errorPosition_25 : decode cX9_errorPosition 25 = .ok (.ireturn, 1) := by decide +kernel
set_option maxRecDepth 100000 in
set_option maxHeartbeats 4000000 in
theorem w9_errorPosition_ok {l : Launch} {idx : List (Nat × Nat)} {μ : Mem} {P : Int32 → Mem → Prop} {X : String → Mem → Prop} (hl : l.stackTraces = false) (hI : IdxOK idx) (hk : w9_errorPosition_wp μ P) : PMet l yX9_errorPosition (.code yX9_errorPosition cX9_errorPosition 1 (some .int)) 1 0 0 idx [pR 50 0] μ (qI P) X := by
  refine PMet_of mv_X9_errorPosition.2.2.2.2.2.2 hl hI mv_X9_errorPosition.2.2.2.1 rfl (Nat.le_of_ble_eq_true rfl) (fun G _ _ C hRt hHR hnT => ?_)
  show PW G 0 0 0 [some (pR 50 0)] [] μ
  unfold w9_errorPosition_wp at hk
  refine px_aload_n (i := 0) C dX9_errorPosition_0 rfl rfl ?_
  refine px_iconst (v := (0 : Int32)) C dX9_errorPosition_1 rfl ?_
  replace hk := hk _ rfl
  refine px_puti 3201 C dX9_errorPosition_2 fp_RX9_80 rfl rfl rfl rfl rfl rfl ?_
  refine px_aload_n (i := 0) C dX9_errorPosition_5 rfl rfl ?_
  refine px_geti 3211 C dX9_errorPosition_6 fl_RX9_28 rfl rfl rfl rfl ?_
  refine px_iconst (v := (-1 : Int32)) C dX9_errorPosition_9 rfl ?_
  refine px_icmp_ne (tgt := 21) C dX9_errorPosition_10 (by decide) (fun c4 => ?_) (fun c4 => ?_)
  · replace hk := hk.1 c4
    refine px_aload_n (i := 0) C dX9_errorPosition_21 rfl rfl ?_
    refine px_geti 3211 C dX9_errorPosition_22 fl_RX9_28 rfl rfl rfl rfl ?_
    exact px_iret C hRt dX9_errorPosition_25 rfl rfl hk
  · replace hk := hk.2 c4
    refine px_aload_n (i := 0) C dX9_errorPosition_13 rfl rfl ?_
    refine px_iconst (v := (1 : Int32)) C dX9_errorPosition_14 rfl ?_
    refine px_callVi (h := 0) (rc' := 0) (rs' := 0) C (HR_le hHR (Nat.le_of_ble_eq_true rfl)) hRt hnT dX9_errorPosition_15 (gw8 144 rfl rfl) mv_X9_fails (w9_fails_ok (PCx_l C) (PCx_I C) hk) rfl rfl rfl rfl rfl (Nat.le_of_ble_eq_true rfl) (Nat.le_of_ble_eq_true rfl) (Nat.le_of_ble_eq_true rfl) (Nat.le_of_ble_eq_true rfl) ?_
    intro r3 μ2 hk
    refine px_goto (tgt := 25) C dX9_errorPosition_18 (by decide) ?_
    exact px_iret C hRt dX9_errorPosition_25 rfl rfl hk
theorem dX9_writes_0 : decode cX9_writes 0 = .ok (.aload_n 0, 1) := by decide +kernel
theorem dX9_writes_1 : decode cX9_writes 1 = .ok (.getfield 77, 3) := by decide +kernel
theorem dX9_writes_4 : decode cX9_writes 4 = .ok (.aload_n 0, 1) := by decide +kernel
theorem dX9_writes_5 : decode cX9_writes 5 = .ok (.getfield 311, 3) := by decide +kernel
theorem dX9_writes_8 : decode cX9_writes 8 = .ok (.iload_n 1, 1) := by decide +kernel
theorem dX9_writes_9 : decode cX9_writes 9 = .ok (.iastore, 1) := by decide +kernel
theorem dX9_writes_10 : decode cX9_writes 10 = .ok (.aload_n 0, 1) := by decide +kernel
theorem dX9_writes_11 : decode cX9_writes 11 = .ok (.dup, 1) := by decide +kernel
theorem dX9_writes_12 : decode cX9_writes 12 = .ok (.getfield 311, 3) := by decide +kernel
theorem dX9_writes_15 : decode cX9_writes 15 = .ok (.iconst 1, 1) := by decide +kernel
theorem dX9_writes_16 : decode cX9_writes 16 = .ok (.iadd, 1) := by decide +kernel
theorem dX9_writes_17 : decode cX9_writes 17 = .ok (.putfield 311, 3) := by decide +kernel
theorem dX9_writes_20 : decode cX9_writes 20 = .ok (.return_, 1) := by decide +kernel
set_option maxRecDepth 100000 in
set_option maxHeartbeats 4000000 in
theorem w9_writes_ok {l : Launch} {idx : List (Nat × Nat)} {μ : Mem} {a1 : Int32} {P : Mem → Prop} {X : String → Mem → Prop} (hl : l.stackTraces = false) (hI : IdxOK idx) (hk : w9_writes_wp μ a1 P) : PMet l yX9_writes (.code yX9_writes cX9_writes 2 none) 0 0 0 idx [pR 50 0, pI a1] μ (qV P) X := by
  refine PMet_of mv_X9_writes.2.2.2.2.2.2 hl hI mv_X9_writes.2.2.2.1 rfl (Nat.le_of_ble_eq_true rfl) (fun G _ _ C hRt hHR hnT => ?_)
  show PW G 0 0 0 [some (pR 50 0), some (pI a1)] [] μ
  unfold w9_writes_wp at hk
  refine px_aload_n (i := 0) C dX9_writes_0 rfl rfl ?_
  refine px_getr C dX9_writes_1 fl_RX9_77 rfl rfl rfl ?_
  refine px_aload_n (i := 0) C dX9_writes_4 rfl rfl ?_
  refine px_geti 3234 C dX9_writes_5 fl_RX9_311 rfl rfl rfl rfl ?_
  refine px_iload_n (i := 1) C dX9_writes_8 rfl rfl ?_
  obtain ⟨o1, hk⟩ := hk
  replace hk := hk _ rfl
  refine px_iast 4608 C dX9_writes_9 rfl rfl rfl rfl o1 ?_
  refine px_aload_n (i := 0) C dX9_writes_10 rfl rfl ?_
  refine px_dup C dX9_writes_11 rfl ?_
  refine px_geti 3234 C dX9_writes_12 fl_RX9_311 rfl rfl rfl rfl ?_
  refine px_iconst (v := (1 : Int32)) C dX9_writes_15 rfl ?_
  refine px_iadd C dX9_writes_16 ?_
  replace hk := hk _ rfl
  refine px_puti 3234 C dX9_writes_17 fp_RX9_311 rfl rfl rfl rfl rfl rfl ?_
  exact px_vret C hRt dX9_writes_20 rfl hk
theorem dX9_writesNumber_0 : decode cX9_writesNumber 0 = .ok (.iconst 1, 1) := by decide +kernel
theorem dX9_writesNumber_1 : decode cX9_writesNumber 1 = .ok (.istore_n 2, 1) := by decide +kernel
theorem dX9_writesNumber_2 : decode cX9_writesNumber 2 = .ok (.iload_n 1, 1) := by decide +kernel
theorem dX9_writesNumber_3 : decode cX9_writesNumber 3 = .ok (.iload_n 2, 1) := by decide +kernel
theorem dX9_writesNumber_4 : decode cX9_writesNumber 4 = .ok (.idiv, 1) := by decide +kernel
theorem dX9_writesNumber_5 : decode cX9_writesNumber 5 = .ok (.bipush 10, 2) := by decide +kernel
theorem dX9_writesNumber_7 : decode cX9_writesNumber 7 = .ok (.if_icmp .lt 11, 3) := by decide +kernel
theorem dX9_writesNumber_10 : decode cX9_writesNumber 10 = .ok (.iload_n 2, 1) := by decide +kernel
theorem dX9_writesNumber_11 : decode cX9_writesNumber 11 = .ok (.bipush 10, 2) := by decide +kernel
theorem dX9_writesNumber_13 : decode cX9_writesNumber 13 = .ok (.imul, 1) := by decide +kernel
theorem dX9_writesNumber_14 : decode cX9_writesNumber 14 = .ok (.istore_n 2, 1) := by decide +kernel
theorem dX9_writesNumber_15 : decode cX9_writesNumber 15 = .ok (.goto (-13), 3) := by decide +kernel
theorem dX9_writesNumber_18 : decode cX9_writesNumber 18 = .ok (.iload_n 2, 1) := by decide +kernel
theorem dX9_writesNumber_19 : decode cX9_writesNumber 19 = .ok (.istore_n 3, 1) := by decide +kernel
theorem dX9_writesNumber_20 : decode cX9_writesNumber 20 = .ok (.iload_n 3, 1) := by decide +kernel
theorem dX9_writesNumber_21 : decode cX9_writesNumber 21 = .ok (.ifCond .le 24, 3) := by decide +kernel
theorem dX9_writesNumber_24 : decode cX9_writesNumber 24 = .ok (.aload_n 0, 1) := by decide +kernel
theorem dX9_writesNumber_25 : decode cX9_writesNumber 25 = .ok (.bipush 48, 2) := by decide +kernel
theorem dX9_writesNumber_27 : decode cX9_writesNumber 27 = .ok (.iload_n 1, 1) := by decide +kernel
theorem dX9_writesNumber_28 : decode cX9_writesNumber 28 = .ok (.iload_n 3, 1) := by decide +kernel
theorem dX9_writesNumber_29 : decode cX9_writesNumber 29 = .ok (.idiv, 1) := by decide +kernel
theorem dX9_writesNumber_30 : decode cX9_writesNumber 30 = .ok (.bipush 10, 2) := by decide +kernel
theorem dX9_writesNumber_32 : decode cX9_writesNumber 32 = .ok (.irem, 1) := by decide +kernel
theorem dX9_writesNumber_33 : decode cX9_writesNumber 33 = .ok (.iadd, 1) := by decide +kernel
theorem dX9_writesNumber_34 : decode cX9_writesNumber 34 = .ok (.invokevirtual 314, 3) := by decide +kernel
theorem dX9_writesNumber_37 : decode cX9_writesNumber 37 = .ok (.iload_n 3, 1) := by decide +kernel
theorem dX9_writesNumber_38 : decode cX9_writesNumber 38 = .ok (.bipush 10, 2) := by decide +kernel
theorem dX9_writesNumber_40 : decode cX9_writesNumber 40 = .ok (.idiv, 1) := by decide +kernel
theorem dX9_writesNumber_41 : decode cX9_writesNumber 41 = .ok (.istore_n 3, 1) := by decide +kernel
theorem dX9_writesNumber_42 : decode cX9_writesNumber 42 = .ok (.goto (-22), 3) := by decide +kernel
theorem dX9_writesNumber_45 : decode cX9_writesNumber 45 = .ok (.return_, 1) := by decide +kernel
set_option maxRecDepth 100000 in
set_option maxHeartbeats 4000000 in
theorem w9_writesNumber_b20_ok {G : GT} {P : Mem → Prop} {X : String → Mem → Prop} (C : PCx G cX9_writesNumber 4 RX9) (hRt : PRt G none (qV P) X) (hHR : HR G (1)) (hnT : NoT G) {μ : Mem} {l1 : Int32} {l3 : Int32} (hk : w9_writesNumber_b20 P μ l1 l3) : PW G 0 0 20 [some (pR 50 0), some (pI l1), none, some (pI l3)] [] μ := by
  refine hk (fun (μ : Mem) (l1 : Int32) (l3 : Int32) => PW G 0 0 20 [some (pR 50 0), some (pI l1), none, some (pI l3)] [] μ) (fun (μ : Mem) l1 l3 hk => ?_)
  have hR20 : ∀ (μ : Mem) (l1 : Int32) (l3 : Int32), PW G 0 0 20 [some (pR 50 0), some (pI l1), none, some (pI l3)] [] μ → PW G 0 0 20 [some (pR 50 0), some (pI l1), none, some (pI l3)] [] μ := fun _ _ _ h => h
  unfold w9_writesNumber_b20_body at hk
  refine px_iload_n (i := 3) C dX9_writesNumber_20 rfl rfl ?_
  refine px_if_le (tgt := 45) C dX9_writesNumber_21 (by decide) (fun c6 => ?_) (fun c6 => ?_)
  · replace hk := hk.1 c6
    exact px_vret C hRt dX9_writesNumber_45 rfl hk
  · replace hk := hk.2 c6
    refine px_aload_n (i := 0) C dX9_writesNumber_24 rfl rfl ?_
    refine px_bipush (v := (48 : Int32)) C dX9_writesNumber_25 rfl ?_
    refine px_iload_n (i := 1) C dX9_writesNumber_27 rfl rfl ?_
    refine px_iload_n (i := 3) C dX9_writesNumber_28 rfl rfl ?_
    obtain ⟨o2, hk⟩ := hk
    refine px_idiv C dX9_writesNumber_29 o2 ?_
    refine px_bipush (v := (10 : Int32)) C dX9_writesNumber_30 rfl ?_
    obtain ⟨o3, hk⟩ := hk
    refine px_irem C dX9_writesNumber_32 o3 ?_
    refine px_iadd C dX9_writesNumber_33 ?_
    refine px_callVv (h := 0) (rc' := 0) (rs' := 0) C (HR_le hHR (Nat.le_of_ble_eq_true rfl)) hRt hnT dX9_writesNumber_34 (gw10 83 rfl rfl) mv_X9_writes (w9_writes_ok (PCx_l C) (PCx_I C) hk) rfl rfl rfl rfl rfl (Nat.le_of_ble_eq_true rfl) (Nat.le_of_ble_eq_true rfl) (Nat.le_of_ble_eq_true rfl) (Nat.le_of_ble_eq_true rfl) ?_
    intro μ4 hk
    refine px_iload_n (i := 3) C dX9_writesNumber_37 rfl rfl ?_
    refine px_bipush (v := (10 : Int32)) C dX9_writesNumber_38 rfl ?_
    obtain ⟨o5, hk⟩ := hk
    refine px_idiv C dX9_writesNumber_40 o5 ?_
    refine px_istore_n (i := 3) C dX9_writesNumber_41 rfl (by decide) rfl ?_
    refine px_goto (tgt := 20) C dX9_writesNumber_42 (by decide) ?_
    exact PW_at (hR20 _ _ _ hk) (And.intro rfl (And.intro rfl (And.intro rfl trivial))) (Nat.le_of_ble_eq_true rfl) (Nat.le_of_ble_eq_true rfl)
set_option maxRecDepth 100000 in
set_option maxHeartbeats 4000000 in
theorem w9_writesNumber_b2_ok {G : GT} {P : Mem → Prop} {X : String → Mem → Prop} (C : PCx G cX9_writesNumber 4 RX9) (hRt : PRt G none (qV P) X) (hHR : HR G (1)) (hnT : NoT G) {μ : Mem} {l1 : Int32} {l2 : Int32} (hk : w9_writesNumber_b2 P μ l1 l2) : PW G 0 0 2 [some (pR 50 0), some (pI l1), some (pI l2), none] [] μ := by
  refine hk (fun (μ : Mem) (l1 : Int32) (l2 : Int32) => PW G 0 0 2 [some (pR 50 0), some (pI l1), some (pI l2), none] [] μ) (fun (μ : Mem) l1 l2 hk => ?_)
  have hR2 : ∀ (μ : Mem) (l1 : Int32) (l2 : Int32), PW G 0 0 2 [some (pR 50 0), some (pI l1), some (pI l2), none] [] μ → PW G 0 0 2 [some (pR 50 0), some (pI l1), some (pI l2), none] [] μ := fun _ _ _ h => h
  unfold w9_writesNumber_b2_body at hk
  refine px_iload_n (i := 1) C dX9_writesNumber_2 rfl rfl ?_
  refine px_iload_n (i := 2) C dX9_writesNumber_3 rfl rfl ?_
  obtain ⟨o1, hk⟩ := hk
  refine px_idiv C dX9_writesNumber_4 o1 ?_
  refine px_bipush (v := (10 : Int32)) C dX9_writesNumber_5 rfl ?_
  refine px_icmp_lt (tgt := 18) C dX9_writesNumber_7 (by decide) (fun c7 => ?_) (fun c7 => ?_)
  · replace hk := hk.1 c7
    refine px_iload_n (i := 2) C dX9_writesNumber_18 rfl rfl ?_
    refine px_istore_n (i := 3) C dX9_writesNumber_19 rfl (by decide) rfl ?_
    exact PW_at (w9_writesNumber_b20_ok C hRt hHR hnT hk) (And.intro rfl (And.intro rfl (And.intro rfl trivial))) (Nat.le_of_ble_eq_true rfl) (Nat.le_of_ble_eq_true rfl)
  · replace hk := hk.2 c7
    refine px_iload_n (i := 2) C dX9_writesNumber_10 rfl rfl ?_
    refine px_bipush (v := (10 : Int32)) C dX9_writesNumber_11 rfl ?_
    refine px_imul C dX9_writesNumber_13 ?_
    refine px_istore_n (i := 2) C dX9_writesNumber_14 rfl (by decide) rfl ?_
    refine px_goto (tgt := 2) C dX9_writesNumber_15 (by decide) ?_
    exact PW_at (hR2 _ _ _ hk) (And.intro rfl (And.intro rfl (And.intro rfl trivial))) (Nat.le_of_ble_eq_true rfl) (Nat.le_of_ble_eq_true rfl)
set_option maxRecDepth 100000 in
set_option maxHeartbeats 4000000 in
theorem w9_writesNumber_ok {l : Launch} {idx : List (Nat × Nat)} {μ : Mem} {a1 : Int32} {P : Mem → Prop} {X : String → Mem → Prop} (hl : l.stackTraces = false) (hI : IdxOK idx) (hk : w9_writesNumber_wp μ a1 P) : PMet l yX9_writesNumber (.code yX9_writesNumber cX9_writesNumber 4 none) 1 0 0 idx [pR 50 0, pI a1] μ (qV P) X := by
  refine PMet_of mv_X9_writesNumber.2.2.2.2.2.2 hl hI mv_X9_writesNumber.2.2.2.1 rfl (Nat.le_of_ble_eq_true rfl) (fun G _ _ C hRt hHR hnT => ?_)
  show PW G 0 0 0 [some (pR 50 0), some (pI a1), none, none] [] μ
  unfold w9_writesNumber_wp at hk
  refine px_iconst (v := (1 : Int32)) C dX9_writesNumber_0 rfl ?_
  refine px_istore_n (i := 2) C dX9_writesNumber_1 rfl (by decide) rfl ?_
  exact PW_at (w9_writesNumber_b2_ok C hRt hHR hnT hk) (And.intro rfl (And.intro rfl (And.intro rfl trivial))) (Nat.le_of_ble_eq_true rfl) (Nat.le_of_ble_eq_true rfl)
theorem dX9_describe_0 : decode cX9_describe 0 = .ok (.aload_n 0, 1) := by decide +kernel
theorem dX9_describe_1 : decode cX9_describe 1 = .ok (.iload_n 1, 1) := by decide +kernel
theorem dX9_describe_2 : decode cX9_describe 2 = .ok (.invokevirtual 216, 3) := by decide +kernel
theorem dX9_describe_5 : decode cX9_describe 5 = .ok (.istore_n 3, 1) := by decide +kernel
theorem dX9_describe_6 : decode cX9_describe 6 = .ok (.aload_n 0, 1) := by decide +kernel
theorem dX9_describe_7 : decode cX9_describe 7 = .ok (.getfield 80, 3) := by decide +kernel
theorem dX9_describe_10 : decode cX9_describe 10 = .ok (.ifCond .le 5, 3) := by decide +kernel
theorem dX9_describe_13 : decode cX9_describe 13 = .ok (.iconst 0, 1) := by decide +kernel
theorem dX9_describe_14 : decode cX9_describe 14 = .ok (.ireturn, 1) := by decide +kernel
theorem dX9_describe_15 : decode cX9_describe 15 = .ok (.aload_n 0, 1) := by decide +kernel
theorem dX9_describe_16 : decode cX9_describe 16 = .ok (.iconst 0, 1) := by decide +kernel
theorem dX9_describe_17 : decode cX9_describe 17 = .ok (.putfield 311, 3) := by decide +kernel
theorem dX9_describe_20 : decode cX9_describe 20 = .ok (.aload_n 0, 1) := by decide +kernel
theorem dX9_describe_21 : decode cX9_describe 21 = .ok (.aload_n 0, 1) := by decide +kernel
theorem dX9_describe_22 : decode cX9_describe 22 = .ok (.iload_n 3, 1) := by decide +kernel
theorem dX9_describe_23 : decode cX9_describe 23 = .ok (.iconst 1, 1) := by decide +kernel
theorem dX9_describe_24 : decode cX9_describe 24 = .ok (.invokevirtual 83, 3) := by decide +kernel
theorem dX9_describe_27 : decode cX9_describe 27 = .ok (.invokevirtual 317, 3) := by decide +kernel
theorem dX9_describe_30 : decode cX9_describe 30 = .ok (.aload_n 0, 1) := by decide +kernel
theorem dX9_describe_31 : decode cX9_describe 31 = .ok (.bipush 47, 2) := by decide +kernel
theorem dX9_describe_33 : decode cX9_describe 33 = .ok (.invokevirtual 314, 3) := by decide +kernel
theorem dX9_describe_36 : decode cX9_describe 36 = .ok (.aload_n 0, 1) := by decide +kernel
theorem dX9_describe_37 : decode cX9_describe 37 = .ok (.aload_n 0, 1) := by decide +kernel
theorem dX9_describe_38 : decode cX9_describe 38 = .ok (.iload_n 3, 1) := by decide +kernel
theorem dX9_describe_39 : decode cX9_describe 39 = .ok (.iconst 0, 1) := by decide +kernel
theorem dX9_describe_40 : decode cX9_describe 40 = .ok (.invokevirtual 83, 3) := by decide +kernel
theorem dX9_describe_43 : decode cX9_describe 43 = .ok (.invokevirtual 317, 3) := by decide +kernel
theorem dX9_describe_46 : decode cX9_describe 46 = .ok (.aload_n 0, 1) := by decide +kernel
theorem dX9_describe_47 : decode cX9_describe 47 = .ok (.bipush 60, 2) := by decide +kernel
theorem dX9_describe_49 : decode cX9_describe 49 = .ok (.invokevirtual 314, 3) := by decide +kernel
theorem dX9_describe_52 : decode cX9_describe 52 = .ok (.aload_n 0, 1) := by decide +kernel
theorem dX9_describe_53 : decode cX9_describe 53 = .ok (.iload_n 3, 1) := by decide +kernel
theorem dX9_describe_54 : decode cX9_describe 54 = .ok (.iconst 2, 1) := by decide +kernel
theorem dX9_describe_55 : decode cX9_describe 55 = .ok (.invokevirtual 83, 3) := by decide +kernel
theorem dX9_describe_58 : decode cX9_describe 58 = .ok (.iconst (-1), 1) := by decide +kernel
theorem dX9_describe_59 : decode cX9_describe 59 = .ok (.if_icmp .ne 12, 3) := by decide +kernel
theorem dX9_describe_62 : decode cX9_describe 62 = .ok (.aload_n 0, 1) := by decide +kernel
theorem dX9_describe_63 : decode cX9_describe 63 = .ok (.bipush 45, 2) := by decide +kernel
theorem dX9_describe_65 : decode cX9_describe 65 = .ok (.invokevirtual 314, 3) := by decide +kernel
theorem dX9_describe_68 : decode cX9_describe 68 = .ok (.goto 13, 3) := by decide +kernel
theorem dX9_describe_71 : decode cX9_describe 71 = .ok (.aload_n 0, 1) := by decide +kernel
theorem dX9_describe_72 : decode cX9_describe 72 = .ok (.aload_n 0, 1) := by decide +kernel
theorem dX9_describe_73 : decode cX9_describe 73 = .ok (.iload_n 3, 1) := by decide +kernel
theorem dX9_describe_74 : decode cX9_describe 74 = .ok (.iconst 2, 1) := by decide +kernel
theorem dX9_describe_75 : decode cX9_describe 75 = .ok (.invokevirtual 83, 3) := by decide +kernel
theorem dX9_describe_78 : decode cX9_describe 78 = .ok (.invokevirtual 317, 3) := by decide +kernel
theorem dX9_describe_81 : decode cX9_describe 81 = .ok (.aload_n 0, 1) := by decide +kernel
theorem dX9_describe_82 : decode cX9_describe 82 = .ok (.bipush 64, 2) := by decide +kernel
theorem dX9_describe_84 : decode cX9_describe 84 = .ok (.invokevirtual 314, 3) := by decide +kernel
theorem dX9_describe_87 : decode cX9_describe 87 = .ok (.aload_n 0, 1) := by decide +kernel
theorem dX9_describe_88 : decode cX9_describe 88 = .ok (.aload_n 0, 1) := by decide +kernel
theorem dX9_describe_89 : decode cX9_describe 89 = .ok (.iload_n 3, 1) := by decide +kernel
theorem dX9_describe_90 : decode cX9_describe 90 = .ok (.iconst 3, 1) := by decide +kernel
theorem dX9_describe_91 : decode cX9_describe 91 = .ok (.invokevirtual 83, 3) := by decide +kernel
theorem dX9_describe_94 : decode cX9_describe 94 = .ok (.invokevirtual 317, 3) := by decide +kernel
theorem dX9_describe_97 : decode cX9_describe 97 = .ok (.aload_n 0, 1) := by decide +kernel
theorem dX9_describe_98 : decode cX9_describe 98 = .ok (.bipush 58, 2) := by decide +kernel
theorem dX9_describe_100 : decode cX9_describe 100 = .ok (.invokevirtual 314, 3) := by decide +kernel
theorem dX9_describe_103 : decode cX9_describe 103 = .ok (.aload_n 0, 1) := by decide +kernel
theorem dX9_describe_104 : decode cX9_describe 104 = .ok (.aload_n 0, 1) := by decide +kernel
theorem dX9_describe_105 : decode cX9_describe 105 = .ok (.iload_n 3, 1) := by decide +kernel
theorem dX9_describe_106 : decode cX9_describe 106 = .ok (.iconst 4, 1) := by decide +kernel
theorem dX9_describe_107 : decode cX9_describe 107 = .ok (.invokevirtual 83, 3) := by decide +kernel
theorem dX9_describe_110 : decode cX9_describe 110 = .ok (.invokevirtual 317, 3) := by decide +kernel
theorem dX9_describe_113 : decode cX9_describe 113 = .ok (.aload_n 0, 1) := by decide +kernel
theorem dX9_describe_114 : decode cX9_describe 114 = .ok (.bipush 45, 2) := by decide +kernel
theorem dX9_describe_116 : decode cX9_describe 116 = .ok (.invokevirtual 314, 3) := by decide +kernel
theorem dX9_describe_119 : decode cX9_describe 119 = .ok (.aload_n 0, 1) := by decide +kernel
theorem dX9_describe_120 : decode cX9_describe 120 = .ok (.aload_n 0, 1) := by decide +kernel
theorem dX9_describe_121 : decode cX9_describe 121 = .ok (.iload_n 3, 1) := by decide +kernel
theorem dX9_describe_122 : decode cX9_describe 122 = .ok (.iconst 5, 1) := by decide +kernel
theorem dX9_describe_123 : decode cX9_describe 123 = .ok (.invokevirtual 83, 3) := by decide +kernel
theorem dX9_describe_126 : decode cX9_describe 126 = .ok (.invokevirtual 317, 3) := by decide +kernel
theorem dX9_describe_129 : decode cX9_describe 129 = .ok (.aload_n 0, 1) := by decide +kernel
theorem dX9_describe_130 : decode cX9_describe 130 = .ok (.iload_n 3, 1) := by decide +kernel
theorem dX9_describe_131 : decode cX9_describe 131 = .ok (.bipush 6, 2) := by decide +kernel
theorem dX9_describe_133 : decode cX9_describe 133 = .ok (.invokevirtual 83, 3) := by decide +kernel
theorem dX9_describe_136 : decode cX9_describe 136 = .ok (.iconst 1, 1) := by decide +kernel
theorem dX9_describe_137 : decode cX9_describe 137 = .ok (.if_icmp .ne 9, 3) := by decide +kernel
theorem dX9_describe_140 : decode cX9_describe 140 = .ok (.aload_n 0, 1) := by decide +kernel
theorem dX9_describe_141 : decode cX9_describe 141 = .ok (.bipush 33, 2) := by decide +kernel
theorem dX9_describe_143 : decode cX9_describe 143 = .ok (.invokevirtual 314, 3) := by decide +kernel
theorem dX9_describe_146 : decode cX9_describe 146 = .ok (.aload_n 0, 1) := by decide +kernel
theorem dX9_describe_147 : decode cX9_describe 147 = .ok (.bipush 59, 2) := by decide +kernel
theorem dX9_describe_149 : decode cX9_describe 149 = .ok (.invokevirtual 314, 3) := by decide +kernel
theorem dX9_describe_152 : decode cX9_describe 152 = .ok (.iload_n 2, 1) := by decide +kernel
theorem dX9_describe_153 : decode cX9_describe 153 = .ok (.iconst (-1), 1) := by decide +kernel
theorem dX9_describe_154 : decode cX9_describe 154 = .ok (.if_icmp .ne 10, 3) := by decide +kernel
theorem dX9_describe_157 : decode cX9_describe 157 = .ok (.aload_n 0, 1) := by decide +kernel
theorem dX9_describe_158 : decode cX9_describe 158 = .ok (.getfield 311, 3) := by decide +kernel
theorem dX9_describe_161 : decode cX9_describe 161 = .ok (.goto 31, 3) := by decide +kernel
theorem dX9_describe_164 : decode cX9_describe 164 = .ok (.iload_n 2, 1) := by decide +kernel
theorem dX9_describe_165 : decode cX9_describe 165 = .ok (.iconst 0, 1) := by decide +kernel
theorem dX9_describe_166 : decode cX9_describe 166 = .ok (.aload_n 0, 1) := by decide +kernel
theorem dX9_describe_167 : decode cX9_describe 167 = .ok (.getfield 311, 3) := by decide +kernel
theorem dX9_describe_170 : decode cX9_describe 170 = .ok (.iconst 1, 1) := by decide +kernel
theorem dX9_describe_171 : decode cX9_describe 171 = .ok (.isub, 1) := by decide +kernel
theorem dX9_describe_172 : decode cX9_describe 172 = .ok (.invokestatic 140, 3) := by decide +kernel
theorem dX9_describe_175 : decode cX9_describe 175 = .ok (.ifCond .eq 12, 3) := by decide +kernel
theorem dX9_describe_178 : decode cX9_describe 178 = .ok (.aload_n 0, 1) := by decide +kernel
theorem dX9_describe_179 : decode cX9_describe 179 = .ok (.getfield 77, 3) := by decide +kernel
theorem dX9_describe_182 : decode cX9_describe 182 = .ok (.iload_n 2, 1) := by decide +kernel
theorem dX9_describe_183 : decode cX9_describe 183 = .ok (.iaload, 1) := by decide +kernel
theorem dX9_describe_184 : decode cX9_describe 184 = .ok (.goto 8, 3) := by decide +kernel
theorem dX9_describe_187 : decode cX9_describe 187 = .ok (.aload_n 0, 1) := by decide +kernel
theorem dX9_describe_188 : decode cX9_describe 188 = .ok (.iconst 2, 1) := by decide +kernel
theorem dX9_describe_189 : decode cX9_describe 189 = .ok (.invokevirtual 203, 3) := by decide +kernel
theorem dX9_describe_192 : decode cX9_describe 192 = .ok (.ireturn, 1) := by decide +kernel
set_option maxRecDepth 100000 in
set_option maxHeartbeats 4000000 in
theorem w9_describe_b146_ok {G : GT} {P : Int32 → Mem → Prop} {X : String → Mem → Prop} (C : PCx G cX9_describe 4 RX9) (hRt : PRt G (some .int) (qI P) X) (hHR : HR G (3)) (hnT : NoT G) {μ : Mem} {l2 : Int32} (hk : w9_describe_b146 P μ l2) : PW G 0 0 146 [some (pR 50 0), none, some (pI l2), none] [] μ := by
  unfold w9_describe_b146 at hk
  refine px_aload_n (i := 0) C dX9_describe_146 rfl rfl ?_
  refine px_bipush (v := (59 : Int32)) C dX9_describe_147 rfl ?_
  refine px_callVv (h := 0) (rc' := 0) (rs' := 0) C (HR_le hHR (Nat.le_of_ble_eq_true rfl)) hRt hnT dX9_describe_149 (gw10 83 rfl rfl) mv_X9_writes (w9_writes_ok (PCx_l C) (PCx_I C) hk) rfl rfl rfl rfl rfl (Nat.le_of_ble_eq_true rfl) (Nat.le_of_ble_eq_true rfl) (Nat.le_of_ble_eq_true rfl) (Nat.le_of_ble_eq_true rfl) ?_
  intro μ31 hk
  refine px_iload_n (i := 2) C dX9_describe_152 rfl rfl ?_
  refine px_iconst (v := (-1 : Int32)) C dX9_describe_153 rfl ?_
  refine px_icmp_ne (tgt := 164) C dX9_describe_154 (by decide) (fun c38 => ?_) (fun c38 => ?_)
  · replace hk := hk.1 c38
    refine px_iload_n (i := 2) C dX9_describe_164 rfl rfl ?_
    refine px_iconst (v := (0 : Int32)) C dX9_describe_165 rfl ?_
    refine px_aload_n (i := 0) C dX9_describe_166 rfl rfl ?_
    refine px_geti 3234 C dX9_describe_167 fl_RX9_311 rfl rfl rfl rfl ?_
    refine px_iconst (v := (1 : Int32)) C dX9_describe_170 rfl ?_
    refine px_isub C dX9_describe_171 ?_
    refine px_callSi (h := 0) (rc' := 0) (rs' := 0) C (HR_le hHR (Nat.le_of_ble_eq_true rfl)) hRt hnT dX9_describe_172 (gw8 138 rfl rfl) ms_X9_in (w9_in_ok (PCx_l C) (PCx_I C) hk) rfl rfl (Nat.le_of_ble_eq_true rfl) (Nat.le_of_ble_eq_true rfl) (Nat.le_of_ble_eq_true rfl) (Nat.le_of_ble_eq_true rfl) ?_
    intro r33 μ32 hk
    refine px_if_eq (tgt := 187) C dX9_describe_175 (by decide) (fun c37 => ?_) (fun c37 => ?_)
    · replace hk := hk.1 c37
      refine px_aload_n (i := 0) C dX9_describe_187 rfl rfl ?_
      refine px_iconst (v := (2 : Int32)) C dX9_describe_188 rfl ?_
      refine px_callVi (h := 0) (rc' := 0) (rs' := 0) C (HR_le hHR (Nat.le_of_ble_eq_true rfl)) hRt hnT dX9_describe_189 (gw8 144 rfl rfl) mv_X9_fails (w9_fails_ok (PCx_l C) (PCx_I C) hk) rfl rfl rfl rfl rfl (Nat.le_of_ble_eq_true rfl) (Nat.le_of_ble_eq_true rfl) (Nat.le_of_ble_eq_true rfl) (Nat.le_of_ble_eq_true rfl) ?_
      intro r35 μ34 hk
      exact px_iret C hRt dX9_describe_192 rfl rfl hk
    · replace hk := hk.2 c37
      refine px_aload_n (i := 0) C dX9_describe_178 rfl rfl ?_
      refine px_getr C dX9_describe_179 fl_RX9_77 rfl rfl rfl ?_
      refine px_iload_n (i := 2) C dX9_describe_182 rfl rfl ?_
      obtain ⟨o36, hk⟩ := hk
      refine px_iald 4608 C dX9_describe_183 rfl rfl rfl rfl o36 ?_
      refine px_goto (tgt := 192) C dX9_describe_184 (by decide) ?_
      exact px_iret C hRt dX9_describe_192 rfl rfl hk
  · replace hk := hk.2 c38
    refine px_aload_n (i := 0) C dX9_describe_157 rfl rfl ?_
    refine px_geti 3234 C dX9_describe_158 fl_RX9_311 rfl rfl rfl rfl ?_
    refine px_goto (tgt := 192) C dX9_describe_161 (by decide) ?_
    exact px_iret C hRt dX9_describe_192 rfl rfl hk
set_option maxRecDepth 100000 in
set_option maxHeartbeats 4000000 in
theorem w9_describe_b81_ok {G : GT} {P : Int32 → Mem → Prop} {X : String → Mem → Prop} (C : PCx G cX9_describe 4 RX9) (hRt : PRt G (some .int) (qI P) X) (hHR : HR G (3)) (hnT : NoT G) {μ : Mem} {l2 : Int32} {l3 : Int32} (hk : w9_describe_b81 P μ l2 l3) : PW G 0 0 81 [some (pR 50 0), none, some (pI l2), some (pI l3)] [] μ := by
  unfold w9_describe_b81 at hk
  refine px_aload_n (i := 0) C dX9_describe_81 rfl rfl ?_
  refine px_bipush (v := (64 : Int32)) C dX9_describe_82 rfl ?_
  refine px_callVv (h := 0) (rc' := 0) (rs' := 0) C (HR_le hHR (Nat.le_of_ble_eq_true rfl)) hRt hnT dX9_describe_84 (gw10 83 rfl rfl) mv_X9_writes (w9_writes_ok (PCx_l C) (PCx_I C) hk) rfl rfl rfl rfl rfl (Nat.le_of_ble_eq_true rfl) (Nat.le_of_ble_eq_true rfl) (Nat.le_of_ble_eq_true rfl) (Nat.le_of_ble_eq_true rfl) ?_
  intro μ17 hk
  refine px_aload_n (i := 0) C dX9_describe_87 rfl rfl ?_
  refine px_aload_n (i := 0) C dX9_describe_88 rfl rfl ?_
  refine px_iload_n (i := 3) C dX9_describe_89 rfl rfl ?_
  refine px_iconst (v := (3 : Int32)) C dX9_describe_90 rfl ?_
  refine px_callVi (h := 0) (rc' := 0) (rs' := 0) C (HR_le hHR (Nat.le_of_ble_eq_true rfl)) hRt hnT dX9_describe_91 (gw8 152 rfl rfl) mv_X9_of (w9_of_ok (PCx_l C) (PCx_I C) hk) rfl rfl rfl rfl rfl (Nat.le_of_ble_eq_true rfl) (Nat.le_of_ble_eq_true rfl) (Nat.le_of_ble_eq_true rfl) (Nat.le_of_ble_eq_true rfl) ?_
  intro r19 μ18 hk
  refine px_callVv (h := 1) (rc' := 0) (rs' := 0) C (HR_le hHR (Nat.le_of_ble_eq_true rfl)) hRt hnT dX9_describe_94 (gw10 79 rfl rfl) mv_X9_writesNumber (w9_writesNumber_ok (PCx_l C) (PCx_I C) hk) rfl rfl rfl rfl rfl (Nat.le_of_ble_eq_true rfl) (Nat.le_of_ble_eq_true rfl) (Nat.le_of_ble_eq_true rfl) (Nat.le_of_ble_eq_true rfl) ?_
  intro μ20 hk
  refine px_aload_n (i := 0) C dX9_describe_97 rfl rfl ?_
  refine px_bipush (v := (58 : Int32)) C dX9_describe_98 rfl ?_
  refine px_callVv (h := 0) (rc' := 0) (rs' := 0) C (HR_le hHR (Nat.le_of_ble_eq_true rfl)) hRt hnT dX9_describe_100 (gw10 83 rfl rfl) mv_X9_writes (w9_writes_ok (PCx_l C) (PCx_I C) hk) rfl rfl rfl rfl rfl (Nat.le_of_ble_eq_true rfl) (Nat.le_of_ble_eq_true rfl) (Nat.le_of_ble_eq_true rfl) (Nat.le_of_ble_eq_true rfl) ?_
  intro μ21 hk
  refine px_aload_n (i := 0) C dX9_describe_103 rfl rfl ?_
  refine px_aload_n (i := 0) C dX9_describe_104 rfl rfl ?_
  refine px_iload_n (i := 3) C dX9_describe_105 rfl rfl ?_
  refine px_iconst (v := (4 : Int32)) C dX9_describe_106 rfl ?_
  refine px_callVi (h := 0) (rc' := 0) (rs' := 0) C (HR_le hHR (Nat.le_of_ble_eq_true rfl)) hRt hnT dX9_describe_107 (gw8 152 rfl rfl) mv_X9_of (w9_of_ok (PCx_l C) (PCx_I C) hk) rfl rfl rfl rfl rfl (Nat.le_of_ble_eq_true rfl) (Nat.le_of_ble_eq_true rfl) (Nat.le_of_ble_eq_true rfl) (Nat.le_of_ble_eq_true rfl) ?_
  intro r23 μ22 hk
  refine px_callVv (h := 1) (rc' := 0) (rs' := 0) C (HR_le hHR (Nat.le_of_ble_eq_true rfl)) hRt hnT dX9_describe_110 (gw10 79 rfl rfl) mv_X9_writesNumber (w9_writesNumber_ok (PCx_l C) (PCx_I C) hk) rfl rfl rfl rfl rfl (Nat.le_of_ble_eq_true rfl) (Nat.le_of_ble_eq_true rfl) (Nat.le_of_ble_eq_true rfl) (Nat.le_of_ble_eq_true rfl) ?_
  intro μ24 hk
  refine px_aload_n (i := 0) C dX9_describe_113 rfl rfl ?_
  refine px_bipush (v := (45 : Int32)) C dX9_describe_114 rfl ?_
  refine px_callVv (h := 0) (rc' := 0) (rs' := 0) C (HR_le hHR (Nat.le_of_ble_eq_true rfl)) hRt hnT dX9_describe_116 (gw10 83 rfl rfl) mv_X9_writes (w9_writes_ok (PCx_l C) (PCx_I C) hk) rfl rfl rfl rfl rfl (Nat.le_of_ble_eq_true rfl) (Nat.le_of_ble_eq_true rfl) (Nat.le_of_ble_eq_true rfl) (Nat.le_of_ble_eq_true rfl) ?_
  intro μ25 hk
  refine px_aload_n (i := 0) C dX9_describe_119 rfl rfl ?_
  refine px_aload_n (i := 0) C dX9_describe_120 rfl rfl ?_
  refine px_iload_n (i := 3) C dX9_describe_121 rfl rfl ?_
  refine px_iconst (v := (5 : Int32)) C dX9_describe_122 rfl ?_
  refine px_callVi (h := 0) (rc' := 0) (rs' := 0) C (HR_le hHR (Nat.le_of_ble_eq_true rfl)) hRt hnT dX9_describe_123 (gw8 152 rfl rfl) mv_X9_of (w9_of_ok (PCx_l C) (PCx_I C) hk) rfl rfl rfl rfl rfl (Nat.le_of_ble_eq_true rfl) (Nat.le_of_ble_eq_true rfl) (Nat.le_of_ble_eq_true rfl) (Nat.le_of_ble_eq_true rfl) ?_
  intro r27 μ26 hk
  refine px_callVv (h := 1) (rc' := 0) (rs' := 0) C (HR_le hHR (Nat.le_of_ble_eq_true rfl)) hRt hnT dX9_describe_126 (gw10 79 rfl rfl) mv_X9_writesNumber (w9_writesNumber_ok (PCx_l C) (PCx_I C) hk) rfl rfl rfl rfl rfl (Nat.le_of_ble_eq_true rfl) (Nat.le_of_ble_eq_true rfl) (Nat.le_of_ble_eq_true rfl) (Nat.le_of_ble_eq_true rfl) ?_
  intro μ28 hk
  refine px_aload_n (i := 0) C dX9_describe_129 rfl rfl ?_
  refine px_iload_n (i := 3) C dX9_describe_130 rfl rfl ?_
  refine px_bipush (v := (6 : Int32)) C dX9_describe_131 rfl ?_
  refine px_callVi (h := 0) (rc' := 0) (rs' := 0) C (HR_le hHR (Nat.le_of_ble_eq_true rfl)) hRt hnT dX9_describe_133 (gw8 152 rfl rfl) mv_X9_of (w9_of_ok (PCx_l C) (PCx_I C) hk) rfl rfl rfl rfl rfl (Nat.le_of_ble_eq_true rfl) (Nat.le_of_ble_eq_true rfl) (Nat.le_of_ble_eq_true rfl) (Nat.le_of_ble_eq_true rfl) ?_
  intro r30 μ29 hk
  refine px_iconst (v := (1 : Int32)) C dX9_describe_136 rfl ?_
  refine px_icmp_ne (tgt := 146) C dX9_describe_137 (by decide) (fun c40 => ?_) (fun c40 => ?_)
  · replace hk := hk.1 c40
    exact PW_at (w9_describe_b146_ok C hRt hHR hnT hk) (And.intro rfl (And.intro rfl trivial)) (Nat.le_of_ble_eq_true rfl) (Nat.le_of_ble_eq_true rfl)
  · replace hk := hk.2 c40
    refine px_aload_n (i := 0) C dX9_describe_140 rfl rfl ?_
    refine px_bipush (v := (33 : Int32)) C dX9_describe_141 rfl ?_
    refine px_callVv (h := 0) (rc' := 0) (rs' := 0) C (HR_le hHR (Nat.le_of_ble_eq_true rfl)) hRt hnT dX9_describe_143 (gw10 83 rfl rfl) mv_X9_writes (w9_writes_ok (PCx_l C) (PCx_I C) hk) rfl rfl rfl rfl rfl (Nat.le_of_ble_eq_true rfl) (Nat.le_of_ble_eq_true rfl) (Nat.le_of_ble_eq_true rfl) (Nat.le_of_ble_eq_true rfl) ?_
    intro μ39 hk
    exact PW_at (w9_describe_b146_ok C hRt hHR hnT hk) (And.intro rfl (And.intro rfl trivial)) (Nat.le_of_ble_eq_true rfl) (Nat.le_of_ble_eq_true rfl)
set_option maxRecDepth 100000 in
set_option maxHeartbeats 4000000 in
theorem w9_describe_ok {l : Launch} {idx : List (Nat × Nat)} {μ : Mem} {a1 : Int32} {a2 : Int32} {P : Int32 → Mem → Prop} {X : String → Mem → Prop} (hl : l.stackTraces = false) (hI : IdxOK idx) (hk : w9_describe_wp μ a1 a2 P) : PMet l yX9_describe (.code yX9_describe cX9_describe 4 (some .int)) 3 0 0 idx [pR 50 0, pI a1, pI a2] μ (qI P) X := by
  refine PMet_of mv_X9_describe.2.2.2.2.2.2 hl hI mv_X9_describe.2.2.2.1 rfl (Nat.le_of_ble_eq_true rfl) (fun G _ _ C hRt hHR hnT => ?_)
  show PW G 0 0 0 [some (pR 50 0), some (pI a1), some (pI a2), none] [] μ
  unfold w9_describe_wp at hk
  refine px_aload_n (i := 0) C dX9_describe_0 rfl rfl ?_
  refine px_iload_n (i := 1) C dX9_describe_1 rfl rfl ?_
  refine px_callVi (h := 2) (rc' := 0) (rs' := 0) C (HR_le hHR (Nat.le_of_ble_eq_true rfl)) hRt hnT dX9_describe_2 (gw8 176 rfl rfl) mv_X9_spanOr (w9_spanOr_ok (PCx_l C) (PCx_I C) hk) rfl rfl rfl rfl rfl (Nat.le_of_ble_eq_true rfl) (Nat.le_of_ble_eq_true rfl) (Nat.le_of_ble_eq_true rfl) (Nat.le_of_ble_eq_true rfl) ?_
  intro r2 μ1 hk
  refine px_istore_n (i := 3) C dX9_describe_5 rfl (by decide) rfl ?_
  refine px_aload_n (i := 0) C dX9_describe_6 rfl rfl ?_
  refine px_geti 3201 C dX9_describe_7 fl_RX9_80 rfl rfl rfl rfl ?_
  refine px_if_le (tgt := 15) C dX9_describe_10 (by decide) (fun c43 => ?_) (fun c43 => ?_)
  · replace hk := hk.1 c43
    refine px_aload_n (i := 0) C dX9_describe_15 rfl rfl ?_
    refine px_iconst (v := (0 : Int32)) C dX9_describe_16 rfl ?_
    replace hk := hk _ rfl
    refine px_puti 3234 C dX9_describe_17 fp_RX9_311 rfl rfl rfl rfl rfl rfl ?_
    refine px_aload_n (i := 0) C dX9_describe_20 rfl rfl ?_
    refine px_aload_n (i := 0) C dX9_describe_21 rfl rfl ?_
    refine px_iload_n (i := 3) C dX9_describe_22 rfl rfl ?_
    refine px_iconst (v := (1 : Int32)) C dX9_describe_23 rfl ?_
    refine px_callVi (h := 0) (rc' := 0) (rs' := 0) C (HR_le hHR (Nat.le_of_ble_eq_true rfl)) hRt hnT dX9_describe_24 (gw8 152 rfl rfl) mv_X9_of (w9_of_ok (PCx_l C) (PCx_I C) hk) rfl rfl rfl rfl rfl (Nat.le_of_ble_eq_true rfl) (Nat.le_of_ble_eq_true rfl) (Nat.le_of_ble_eq_true rfl) (Nat.le_of_ble_eq_true rfl) ?_
    intro r5 μ4 hk
    refine px_callVv (h := 1) (rc' := 0) (rs' := 0) C (HR_le hHR (Nat.le_of_ble_eq_true rfl)) hRt hnT dX9_describe_27 (gw10 79 rfl rfl) mv_X9_writesNumber (w9_writesNumber_ok (PCx_l C) (PCx_I C) hk) rfl rfl rfl rfl rfl (Nat.le_of_ble_eq_true rfl) (Nat.le_of_ble_eq_true rfl) (Nat.le_of_ble_eq_true rfl) (Nat.le_of_ble_eq_true rfl) ?_
    intro μ6 hk
    refine px_aload_n (i := 0) C dX9_describe_30 rfl rfl ?_
    refine px_bipush (v := (47 : Int32)) C dX9_describe_31 rfl ?_
    refine px_callVv (h := 0) (rc' := 0) (rs' := 0) C (HR_le hHR (Nat.le_of_ble_eq_true rfl)) hRt hnT dX9_describe_33 (gw10 83 rfl rfl) mv_X9_writes (w9_writes_ok (PCx_l C) (PCx_I C) hk) rfl rfl rfl rfl rfl (Nat.le_of_ble_eq_true rfl) (Nat.le_of_ble_eq_true rfl) (Nat.le_of_ble_eq_true rfl) (Nat.le_of_ble_eq_true rfl) ?_
    intro μ7 hk
    refine px_aload_n (i := 0) C dX9_describe_36 rfl rfl ?_
    refine px_aload_n (i := 0) C dX9_describe_37 rfl rfl ?_
    refine px_iload_n (i := 3) C dX9_describe_38 rfl rfl ?_
    refine px_iconst (v := (0 : Int32)) C dX9_describe_39 rfl ?_
    refine px_callVi (h := 0) (rc' := 0) (rs' := 0) C (HR_le hHR (Nat.le_of_ble_eq_true rfl)) hRt hnT dX9_describe_40 (gw8 152 rfl rfl) mv_X9_of (w9_of_ok (PCx_l C) (PCx_I C) hk) rfl rfl rfl rfl rfl (Nat.le_of_ble_eq_true rfl) (Nat.le_of_ble_eq_true rfl) (Nat.le_of_ble_eq_true rfl) (Nat.le_of_ble_eq_true rfl) ?_
    intro r9 μ8 hk
    refine px_callVv (h := 1) (rc' := 0) (rs' := 0) C (HR_le hHR (Nat.le_of_ble_eq_true rfl)) hRt hnT dX9_describe_43 (gw10 79 rfl rfl) mv_X9_writesNumber (w9_writesNumber_ok (PCx_l C) (PCx_I C) hk) rfl rfl rfl rfl rfl (Nat.le_of_ble_eq_true rfl) (Nat.le_of_ble_eq_true rfl) (Nat.le_of_ble_eq_true rfl) (Nat.le_of_ble_eq_true rfl) ?_
    intro μ10 hk
    refine px_aload_n (i := 0) C dX9_describe_46 rfl rfl ?_
    refine px_bipush (v := (60 : Int32)) C dX9_describe_47 rfl ?_
    refine px_callVv (h := 0) (rc' := 0) (rs' := 0) C (HR_le hHR (Nat.le_of_ble_eq_true rfl)) hRt hnT dX9_describe_49 (gw10 83 rfl rfl) mv_X9_writes (w9_writes_ok (PCx_l C) (PCx_I C) hk) rfl rfl rfl rfl rfl (Nat.le_of_ble_eq_true rfl) (Nat.le_of_ble_eq_true rfl) (Nat.le_of_ble_eq_true rfl) (Nat.le_of_ble_eq_true rfl) ?_
    intro μ11 hk
    refine px_aload_n (i := 0) C dX9_describe_52 rfl rfl ?_
    refine px_iload_n (i := 3) C dX9_describe_53 rfl rfl ?_
    refine px_iconst (v := (2 : Int32)) C dX9_describe_54 rfl ?_
    refine px_callVi (h := 0) (rc' := 0) (rs' := 0) C (HR_le hHR (Nat.le_of_ble_eq_true rfl)) hRt hnT dX9_describe_55 (gw8 152 rfl rfl) mv_X9_of (w9_of_ok (PCx_l C) (PCx_I C) hk) rfl rfl rfl rfl rfl (Nat.le_of_ble_eq_true rfl) (Nat.le_of_ble_eq_true rfl) (Nat.le_of_ble_eq_true rfl) (Nat.le_of_ble_eq_true rfl) ?_
    intro r13 μ12 hk
    refine px_iconst (v := (-1 : Int32)) C dX9_describe_58 rfl ?_
    refine px_icmp_ne (tgt := 71) C dX9_describe_59 (by decide) (fun c42 => ?_) (fun c42 => ?_)
    · replace hk := hk.1 c42
      refine px_aload_n (i := 0) C dX9_describe_71 rfl rfl ?_
      refine px_aload_n (i := 0) C dX9_describe_72 rfl rfl ?_
      refine px_iload_n (i := 3) C dX9_describe_73 rfl rfl ?_
      refine px_iconst (v := (2 : Int32)) C dX9_describe_74 rfl ?_
      refine px_callVi (h := 0) (rc' := 0) (rs' := 0) C (HR_le hHR (Nat.le_of_ble_eq_true rfl)) hRt hnT dX9_describe_75 (gw8 152 rfl rfl) mv_X9_of (w9_of_ok (PCx_l C) (PCx_I C) hk) rfl rfl rfl rfl rfl (Nat.le_of_ble_eq_true rfl) (Nat.le_of_ble_eq_true rfl) (Nat.le_of_ble_eq_true rfl) (Nat.le_of_ble_eq_true rfl) ?_
      intro r15 μ14 hk
      refine px_callVv (h := 1) (rc' := 0) (rs' := 0) C (HR_le hHR (Nat.le_of_ble_eq_true rfl)) hRt hnT dX9_describe_78 (gw10 79 rfl rfl) mv_X9_writesNumber (w9_writesNumber_ok (PCx_l C) (PCx_I C) hk) rfl rfl rfl rfl rfl (Nat.le_of_ble_eq_true rfl) (Nat.le_of_ble_eq_true rfl) (Nat.le_of_ble_eq_true rfl) (Nat.le_of_ble_eq_true rfl) ?_
      intro μ16 hk
      exact PW_at (w9_describe_b81_ok C hRt hHR hnT hk) (And.intro rfl (And.intro rfl (And.intro rfl trivial))) (Nat.le_of_ble_eq_true rfl) (Nat.le_of_ble_eq_true rfl)
    · replace hk := hk.2 c42
      refine px_aload_n (i := 0) C dX9_describe_62 rfl rfl ?_
      refine px_bipush (v := (45 : Int32)) C dX9_describe_63 rfl ?_
      refine px_callVv (h := 0) (rc' := 0) (rs' := 0) C (HR_le hHR (Nat.le_of_ble_eq_true rfl)) hRt hnT dX9_describe_65 (gw10 83 rfl rfl) mv_X9_writes (w9_writes_ok (PCx_l C) (PCx_I C) hk) rfl rfl rfl rfl rfl (Nat.le_of_ble_eq_true rfl) (Nat.le_of_ble_eq_true rfl) (Nat.le_of_ble_eq_true rfl) (Nat.le_of_ble_eq_true rfl) ?_
      intro μ41 hk
      refine px_goto (tgt := 81) C dX9_describe_68 (by decide) ?_
      exact PW_at (w9_describe_b81_ok C hRt hHR hnT hk) (And.intro rfl (And.intro rfl (And.intro rfl trivial))) (Nat.le_of_ble_eq_true rfl) (Nat.le_of_ble_eq_true rfl)
  · replace hk := hk.2 c43
    refine px_iconst (v := (0 : Int32)) C dX9_describe_13 rfl ?_
    exact px_iret C hRt dX9_describe_14 rfl rfl hk
theorem dX9_undo_0 : decode cX9_undo 0 = .ok (.aload_n 0, 1) := by decide +kernel
theorem dX9_undo_1 : decode cX9_undo 1 = .ok (.iconst 0, 1) := by decide +kernel
theorem dX9_undo_2 : decode cX9_undo 2 = .ok (.putfield 80, 3) := by decide +kernel
theorem dX9_undo_5 : decode cX9_undo 5 = .ok (.aload_n 0, 1) := by decide +kernel
theorem dX9_undo_6 : decode cX9_undo 6 = .ok (.getfield 91, 3) := by decide +kernel
theorem dX9_undo_9 : decode cX9_undo 9 = .ok (.ifCond .ne 9, 3) := by decide +kernel
theorem dX9_undo_12 : decode cX9_undo 12 = .ok (.aload_n 0, 1) := by decide +kernel
theorem dX9_undo_13 : decode cX9_undo 13 = .ok (.iconst 1, 1) := by decide +kernel
theorem dX9_undo_14 : decode cX9_undo 14 = .ok (.invokevirtual 203, 3) := by decide +kernel
theorem dX9_undo_17 : decode cX9_undo 17 = .ok (.ireturn, 1) := by decide +kernel
theorem dX9_undo_18 : decode cX9_undo 18 = .ok (.aload_n 0, 1) := by decide +kernel
theorem dX9_undo_19 : decode cX9_undo 19 = .ok (.dup, 1) := by decide +kernel
theorem dX9_undo_20 : decode cX9_undo 20 = .ok (.getfield 91, 3) := by decide +kernel
theorem dX9_undo_23 : decode cX9_undo 23 = .ok (.iconst 1, 1) := by decide +kernel
theorem dX9_undo_24 : decode cX9_undo 24 = .ok (.isub, 1) := by decide +kernel
theorem dX9_undo_25 : decode cX9_undo 25 = .ok (.putfield 91, 3) := by decide +kernel
theorem dX9_undo_28 : decode cX9_undo 28 = .ok (.iconst 0, 1) := by decide +kernel
theorem dX9_undo_29 : decode cX9_undo 29 = .ok (.istore_n 1, 1) := by decide +kernel
theorem dX9_undo_30 : decode cX9_undo 30 = .ok (.iload_n 1, 1) := by decide +kernel
theorem dX9_undo_31 : decode cX9_undo 31 = .ok (.sipush 342, 3) := by decide +kernel
theorem dX9_undo_34 : decode cX9_undo 34 = .ok (.if_icmp .ge 30, 3) := by decide +kernel
theorem dX9_undo_37 : decode cX9_undo 37 = .ok (.aload_n 0, 1) := by decide +kernel
theorem dX9_undo_38 : decode cX9_undo 38 = .ok (.getfield 7, 3) := by decide +kernel
theorem dX9_undo_41 : decode cX9_undo 41 = .ok (.iload_n 1, 1) := by decide +kernel
theorem dX9_undo_42 : decode cX9_undo 42 = .ok (.aload_n 0, 1) := by decide +kernel
theorem dX9_undo_43 : decode cX9_undo 43 = .ok (.getfield 19, 3) := by decide +kernel
theorem dX9_undo_46 : decode cX9_undo 46 = .ok (.sipush 342, 3) := by decide +kernel
theorem dX9_undo_49 : decode cX9_undo 49 = .ok (.aload_n 0, 1) := by decide +kernel
theorem dX9_undo_50 : decode cX9_undo 50 = .ok (.getfield 91, 3) := by decide +kernel
theorem dX9_undo_53 : decode cX9_undo 53 = .ok (.imul, 1) := by decide +kernel
theorem dX9_undo_54 : decode cX9_undo 54 = .ok (.iload_n 1, 1) := by decide +kernel
theorem dX9_undo_55 : decode cX9_undo 55 = .ok (.iadd, 1) := by decide +kernel
theorem dX9_undo_56 : decode cX9_undo 56 = .ok (.iaload, 1) := by decide +kernel
theorem dX9_undo_57 : decode cX9_undo 57 = .ok (.iastore, 1) := by decide +kernel
theorem dX9_undo_58 : decode cX9_undo 58 = .ok (.iinc 1 1, 3) := by decide +kernel
theorem dX9_undo_61 : decode cX9_undo 61 = .ok (.goto (-31), 3) := by decide +kernel
theorem dX9_undo_64 : decode cX9_undo 64 = .ok (.aload_n 0, 1) := by decide +kernel
theorem dX9_undo_65 : decode cX9_undo 65 = .ok (.iconst 0, 1) := by decide +kernel
theorem dX9_undo_66 : decode cX9_undo 66 = .ok (.putfield 94, 3) := by decide +kernel
theorem dX9_undo_69 : decode cX9_undo 69 = .ok (.aload_n 0, 1) := by decide +kernel
theorem dX9_undo_70 : decode cX9_undo 70 = .ok (.getfield 91, 3) := by decide +kernel
theorem dX9_undo_73 : decode cX9_undo 73 = .ok (.ireturn, 1) := by decide +kernel
set_option maxRecDepth 100000 in
set_option maxHeartbeats 4000000 in
theorem w9_undo_b30_ok {G : GT} {P : Int32 → Mem → Prop} {X : String → Mem → Prop} (C : PCx G cX9_undo 2 RX9) (hRt : PRt G (some .int) (qI P) X) (hHR : HR G (1)) (hnT : NoT G) {μ : Mem} {l1 : Int32} (hk : w9_undo_b30 P μ l1) : PW G 0 0 30 [some (pR 50 0), some (pI l1)] [] μ := by
  refine hk (fun (μ : Mem) (l1 : Int32) => PW G 0 0 30 [some (pR 50 0), some (pI l1)] [] μ) (fun (μ : Mem) l1 hk => ?_)
  have hR30 : ∀ (μ : Mem) (l1 : Int32), PW G 0 0 30 [some (pR 50 0), some (pI l1)] [] μ → PW G 0 0 30 [some (pR 50 0), some (pI l1)] [] μ := fun _ _ h => h
  unfold w9_undo_b30_body at hk
  refine px_iload_n (i := 1) C dX9_undo_30 rfl rfl ?_
  refine px_sipush (v := (342 : Int32)) C dX9_undo_31 rfl ?_
  refine px_icmp_ge (tgt := 64) C dX9_undo_34 (by decide) (fun c7 => ?_) (fun c7 => ?_)
  · replace hk := hk.1 c7
    refine px_aload_n (i := 0) C dX9_undo_64 rfl rfl ?_
    refine px_iconst (v := (0 : Int32)) C dX9_undo_65 rfl ?_
    replace hk := hk _ rfl
    refine px_puti 3212 C dX9_undo_66 fp_RX9_94 rfl rfl rfl rfl rfl rfl ?_
    refine px_aload_n (i := 0) C dX9_undo_69 rfl rfl ?_
    refine px_geti 3207 C dX9_undo_70 fl_RX9_91 rfl rfl rfl rfl ?_
    exact px_iret C hRt dX9_undo_73 rfl rfl hk
  · replace hk := hk.2 c7
    refine px_aload_n (i := 0) C dX9_undo_37 rfl rfl ?_
    refine px_getr C dX9_undo_38 fl_RX9_7 rfl rfl rfl ?_
    refine px_iload_n (i := 1) C dX9_undo_41 rfl rfl ?_
    refine px_aload_n (i := 0) C dX9_undo_42 rfl rfl ?_
    refine px_getr C dX9_undo_43 fl_RX9_19 rfl rfl rfl ?_
    refine px_sipush (v := (342 : Int32)) C dX9_undo_46 rfl ?_
    refine px_aload_n (i := 0) C dX9_undo_49 rfl rfl ?_
    refine px_geti 3207 C dX9_undo_50 fl_RX9_91 rfl rfl rfl rfl ?_
    refine px_imul C dX9_undo_53 ?_
    refine px_iload_n (i := 1) C dX9_undo_54 rfl rfl ?_
    refine px_iadd C dX9_undo_55 ?_
    obtain ⟨o4, hk⟩ := hk
    refine px_iald 3456 C dX9_undo_56 rfl rfl rfl rfl o4 ?_
    obtain ⟨o5, hk⟩ := hk
    replace hk := hk _ rfl
    refine px_iast 3264 C dX9_undo_57 rfl rfl rfl rfl o5 ?_
    refine px_iinc (i := 1) (v := (1 : Int32)) C dX9_undo_58 rfl rfl (by decide) rfl ?_
    refine px_goto (tgt := 30) C dX9_undo_61 (by decide) ?_
    exact PW_at (hR30 _ _ hk) (And.intro rfl (And.intro rfl trivial)) (Nat.le_of_ble_eq_true rfl) (Nat.le_of_ble_eq_true rfl)
set_option maxRecDepth 100000 in
set_option maxHeartbeats 4000000 in
theorem w9_undo_ok {l : Launch} {idx : List (Nat × Nat)} {μ : Mem} {P : Int32 → Mem → Prop} {X : String → Mem → Prop} (hl : l.stackTraces = false) (hI : IdxOK idx) (hk : w9_undo_wp μ P) : PMet l yX9_undo (.code yX9_undo cX9_undo 2 (some .int)) 1 0 0 idx [pR 50 0] μ (qI P) X := by
  refine PMet_of mv_X9_undo.2.2.2.2.2.2 hl hI mv_X9_undo.2.2.2.1 rfl (Nat.le_of_ble_eq_true rfl) (fun G _ _ C hRt hHR hnT => ?_)
  show PW G 0 0 0 [some (pR 50 0), none] [] μ
  unfold w9_undo_wp at hk
  refine px_aload_n (i := 0) C dX9_undo_0 rfl rfl ?_
  refine px_iconst (v := (0 : Int32)) C dX9_undo_1 rfl ?_
  replace hk := hk _ rfl
  refine px_puti 3201 C dX9_undo_2 fp_RX9_80 rfl rfl rfl rfl rfl rfl ?_
  refine px_aload_n (i := 0) C dX9_undo_5 rfl rfl ?_
  refine px_geti 3207 C dX9_undo_6 fl_RX9_91 rfl rfl rfl rfl ?_
  refine px_if_ne (tgt := 18) C dX9_undo_9 (by decide) (fun c10 => ?_) (fun c10 => ?_)
  · replace hk := hk.1 c10
    refine px_aload_n (i := 0) C dX9_undo_18 rfl rfl ?_
    refine px_dup C dX9_undo_19 rfl ?_
    refine px_geti 3207 C dX9_undo_20 fl_RX9_91 rfl rfl rfl rfl ?_
    refine px_iconst (v := (1 : Int32)) C dX9_undo_23 rfl ?_
    refine px_isub C dX9_undo_24 ?_
    replace hk := hk _ rfl
    refine px_puti 3207 C dX9_undo_25 fp_RX9_91 rfl rfl rfl rfl rfl rfl ?_
    refine px_iconst (v := (0 : Int32)) C dX9_undo_28 rfl ?_
    refine px_istore_n (i := 1) C dX9_undo_29 rfl (by decide) rfl ?_
    exact PW_at (w9_undo_b30_ok C hRt hHR hnT hk) (And.intro rfl (And.intro rfl trivial)) (Nat.le_of_ble_eq_true rfl) (Nat.le_of_ble_eq_true rfl)
  · replace hk := hk.2 c10
    refine px_aload_n (i := 0) C dX9_undo_12 rfl rfl ?_
    refine px_iconst (v := (1 : Int32)) C dX9_undo_13 rfl ?_
    refine px_callVi (h := 0) (rc' := 0) (rs' := 0) C (HR_le hHR (Nat.le_of_ble_eq_true rfl)) hRt hnT dX9_undo_14 (gw8 144 rfl rfl) mv_X9_fails (w9_fails_ok (PCx_l C) (PCx_I C) hk) rfl rfl rfl rfl rfl (Nat.le_of_ble_eq_true rfl) (Nat.le_of_ble_eq_true rfl) (Nat.le_of_ble_eq_true rfl) (Nat.le_of_ble_eq_true rfl) ?_
    intro r9 μ8 hk
    exact px_iret C hRt dX9_undo_17 rfl rfl hk
theorem dX9_save_0 : decode cX9_save 0 = .ok (.aload_n 0, 1) := by decide +kernel
theorem dX9_save_1 : decode cX9_save 1 = .ok (.iconst 0, 1) := by decide +kernel
theorem dX9_save_2 : decode cX9_save 2 = .ok (.putfield 80, 3) := by decide +kernel
theorem dX9_save_5 : decode cX9_save 5 = .ok (.iconst 0, 1) := by decide +kernel
theorem dX9_save_6 : decode cX9_save 6 = .ok (.istore_n 1, 1) := by decide +kernel
theorem dX9_save_7 : decode cX9_save 7 = .ok (.iload_n 1, 1) := by decide +kernel
theorem dX9_save_8 : decode cX9_save 8 = .ok (.sipush 342, 3) := by decide +kernel
theorem dX9_save_11 : decode cX9_save 11 = .ok (.if_icmp .ge 21, 3) := by decide +kernel
theorem dX9_save_14 : decode cX9_save 14 = .ok (.aload_n 0, 1) := by decide +kernel
theorem dX9_save_15 : decode cX9_save 15 = .ok (.getfield 13, 3) := by decide +kernel
theorem dX9_save_18 : decode cX9_save 18 = .ok (.iload_n 1, 1) := by decide +kernel
theorem dX9_save_19 : decode cX9_save 19 = .ok (.aload_n 0, 1) := by decide +kernel
theorem dX9_save_20 : decode cX9_save 20 = .ok (.getfield 7, 3) := by decide +kernel
theorem dX9_save_23 : decode cX9_save 23 = .ok (.iload_n 1, 1) := by decide +kernel
theorem dX9_save_24 : decode cX9_save 24 = .ok (.iaload, 1) := by decide +kernel
theorem dX9_save_25 : decode cX9_save 25 = .ok (.iastore, 1) := by decide +kernel
theorem dX9_save_26 : decode cX9_save 26 = .ok (.iinc 1 1, 3) := by decide +kernel
theorem dX9_save_29 : decode cX9_save 29 = .ok (.goto (-22), 3) := by decide +kernel
theorem dX9_save_32 : decode cX9_save 32 = .ok (.aload_n 0, 1) := by decide +kernel
theorem dX9_save_33 : decode cX9_save 33 = .ok (.iconst 1, 1) := by decide +kernel
theorem dX9_save_34 : decode cX9_save 34 = .ok (.putfield 320, 3) := by decide +kernel
theorem dX9_save_37 : decode cX9_save 37 = .ok (.aload_n 0, 1) := by decide +kernel
theorem dX9_save_38 : decode cX9_save 38 = .ok (.getfield 7, 3) := by decide +kernel
theorem dX9_save_41 : decode cX9_save 41 = .ok (.iconst 0, 1) := by decide +kernel
theorem dX9_save_42 : decode cX9_save 42 = .ok (.iaload, 1) := by decide +kernel
theorem dX9_save_43 : decode cX9_save 43 = .ok (.ireturn, 1) := by decide +kernel
set_option maxRecDepth 100000 in
set_option maxHeartbeats 4000000 in
theorem w9_save_b7_ok {G : GT} {P : Int32 → Mem → Prop} {X : String → Mem → Prop} (C : PCx G cX9_save 2 RX9) (hRt : PRt G (some .int) (qI P) X) (hHR : HR G (0)) (hnT : NoT G) {μ : Mem} {l1 : Int32} (hk : w9_save_b7 P μ l1) : PW G 0 0 7 [some (pR 50 0), some (pI l1)] [] μ := by
  refine hk (fun (μ : Mem) (l1 : Int32) => PW G 0 0 7 [some (pR 50 0), some (pI l1)] [] μ) (fun (μ : Mem) l1 hk => ?_)
  have hR7 : ∀ (μ : Mem) (l1 : Int32), PW G 0 0 7 [some (pR 50 0), some (pI l1)] [] μ → PW G 0 0 7 [some (pR 50 0), some (pI l1)] [] μ := fun _ _ h => h
  unfold w9_save_b7_body at hk
  refine px_iload_n (i := 1) C dX9_save_7 rfl rfl ?_
  refine px_sipush (v := (342 : Int32)) C dX9_save_8 rfl ?_
  refine px_icmp_ge (tgt := 32) C dX9_save_11 (by decide) (fun c7 => ?_) (fun c7 => ?_)
  · replace hk := hk.1 c7
    refine px_aload_n (i := 0) C dX9_save_32 rfl rfl ?_
    refine px_iconst (v := (1 : Int32)) C dX9_save_33 rfl ?_
    replace hk := hk _ rfl
    refine px_puti 3206 C dX9_save_34 fp_RX9_320 rfl rfl rfl rfl rfl rfl ?_
    refine px_aload_n (i := 0) C dX9_save_37 rfl rfl ?_
    refine px_getr C dX9_save_38 fl_RX9_7 rfl rfl rfl ?_
    refine px_iconst (v := (0 : Int32)) C dX9_save_41 rfl ?_
    obtain ⟨o3, hk⟩ := hk
    refine px_iald 3264 C dX9_save_42 rfl rfl rfl rfl o3 ?_
    exact px_iret C hRt dX9_save_43 rfl rfl hk
  · replace hk := hk.2 c7
    refine px_aload_n (i := 0) C dX9_save_14 rfl rfl ?_
    refine px_getr C dX9_save_15 fl_RX9_13 rfl rfl rfl ?_
    refine px_iload_n (i := 1) C dX9_save_18 rfl rfl ?_
    refine px_aload_n (i := 0) C dX9_save_19 rfl rfl ?_
    refine px_getr C dX9_save_20 fl_RX9_7 rfl rfl rfl ?_
    refine px_iload_n (i := 1) C dX9_save_23 rfl rfl ?_
    obtain ⟨o4, hk⟩ := hk
    refine px_iald 3264 C dX9_save_24 rfl rfl rfl rfl o4 ?_
    obtain ⟨o5, hk⟩ := hk
    replace hk := hk _ rfl
    refine px_iast 3328 C dX9_save_25 rfl rfl rfl rfl o5 ?_
    refine px_iinc (i := 1) (v := (1 : Int32)) C dX9_save_26 rfl rfl (by decide) rfl ?_
    refine px_goto (tgt := 7) C dX9_save_29 (by decide) ?_
    exact PW_at (hR7 _ _ hk) (And.intro rfl (And.intro rfl trivial)) (Nat.le_of_ble_eq_true rfl) (Nat.le_of_ble_eq_true rfl)
set_option maxRecDepth 100000 in
set_option maxHeartbeats 4000000 in
theorem w9_save_ok {l : Launch} {idx : List (Nat × Nat)} {μ : Mem} {P : Int32 → Mem → Prop} {X : String → Mem → Prop} (hl : l.stackTraces = false) (hI : IdxOK idx) (hk : w9_save_wp μ P) : PMet l yX9_save (.code yX9_save cX9_save 2 (some .int)) 0 0 0 idx [pR 50 0] μ (qI P) X := by
  refine PMet_of mv_X9_save.2.2.2.2.2.2 hl hI mv_X9_save.2.2.2.1 rfl (Nat.le_of_ble_eq_true rfl) (fun G _ _ C hRt hHR hnT => ?_)
  show PW G 0 0 0 [some (pR 50 0), none] [] μ
  unfold w9_save_wp at hk
  refine px_aload_n (i := 0) C dX9_save_0 rfl rfl ?_
  refine px_iconst (v := (0 : Int32)) C dX9_save_1 rfl ?_
  replace hk := hk _ rfl
  refine px_puti 3201 C dX9_save_2 fp_RX9_80 rfl rfl rfl rfl rfl rfl ?_
  refine px_iconst (v := (0 : Int32)) C dX9_save_5 rfl ?_
  refine px_istore_n (i := 1) C dX9_save_6 rfl (by decide) rfl ?_
  exact PW_at (w9_save_b7_ok C hRt hHR hnT hk) (And.intro rfl (And.intro rfl trivial)) (Nat.le_of_ble_eq_true rfl) (Nat.le_of_ble_eq_true rfl)
theorem dX9_restore_0 : decode cX9_restore 0 = .ok (.aload_n 0, 1) := by decide +kernel
theorem dX9_restore_1 : decode cX9_restore 1 = .ok (.iconst 0, 1) := by decide +kernel
theorem dX9_restore_2 : decode cX9_restore 2 = .ok (.putfield 80, 3) := by decide +kernel
theorem dX9_restore_5 : decode cX9_restore 5 = .ok (.aload_n 0, 1) := by decide +kernel
theorem dX9_restore_6 : decode cX9_restore 6 = .ok (.getfield 320, 3) := by decide +kernel
theorem dX9_restore_9 : decode cX9_restore 9 = .ok (.ifCond .ne 9, 3) := by decide +kernel
theorem dX9_restore_12 : decode cX9_restore 12 = .ok (.aload_n 0, 1) := by decide +kernel
theorem dX9_restore_13 : decode cX9_restore 13 = .ok (.iconst 1, 1) := by decide +kernel
theorem dX9_restore_14 : decode cX9_restore 14 = .ok (.invokevirtual 203, 3) := by decide +kernel
theorem dX9_restore_17 : decode cX9_restore 17 = .ok (.ireturn, 1) := by decide +kernel
theorem dX9_restore_18 : decode cX9_restore 18 = .ok (.iconst 0, 1) := by decide +kernel
theorem dX9_restore_19 : decode cX9_restore 19 = .ok (.istore_n 1, 1) := by decide +kernel
theorem dX9_restore_20 : decode cX9_restore 20 = .ok (.iload_n 1, 1) := by decide +kernel
theorem dX9_restore_21 : decode cX9_restore 21 = .ok (.sipush 342, 3) := by decide +kernel
theorem dX9_restore_24 : decode cX9_restore 24 = .ok (.if_icmp .ge 21, 3) := by decide +kernel
theorem dX9_restore_27 : decode cX9_restore 27 = .ok (.aload_n 0, 1) := by decide +kernel
theorem dX9_restore_28 : decode cX9_restore 28 = .ok (.getfield 7, 3) := by decide +kernel
theorem dX9_restore_31 : decode cX9_restore 31 = .ok (.iload_n 1, 1) := by decide +kernel
theorem dX9_restore_32 : decode cX9_restore 32 = .ok (.aload_n 0, 1) := by decide +kernel
theorem dX9_restore_33 : decode cX9_restore 33 = .ok (.getfield 13, 3) := by decide +kernel
theorem dX9_restore_36 : decode cX9_restore 36 = .ok (.iload_n 1, 1) := by decide +kernel
theorem dX9_restore_37 : decode cX9_restore 37 = .ok (.iaload, 1) := by decide +kernel
theorem dX9_restore_38 : decode cX9_restore 38 = .ok (.iastore, 1) := by decide +kernel
theorem dX9_restore_39 : decode cX9_restore 39 = .ok (.iinc 1 1, 3) := by decide +kernel
theorem dX9_restore_42 : decode cX9_restore 42 = .ok (.goto (-22), 3) := by decide +kernel
theorem dX9_restore_45 : decode cX9_restore 45 = .ok (.aload_n 0, 1) := by decide +kernel
theorem dX9_restore_46 : decode cX9_restore 46 = .ok (.iconst 0, 1) := by decide +kernel
theorem dX9_restore_47 : decode cX9_restore 47 = .ok (.putfield 91, 3) := by decide +kernel
theorem dX9_restore_50 : decode cX9_restore 50 = .ok (.aload_n 0, 1) := by decide +kernel
theorem dX9_restore_51 : decode cX9_restore 51 = .ok (.iconst 0, 1) := by decide +kernel
theorem dX9_restore_52 : decode cX9_restore 52 = .ok (.putfield 94, 3) := by decide +kernel
theorem dX9_restore_55 : decode cX9_restore 55 = .ok (.aload_n 0, 1) := by decide +kernel
theorem dX9_restore_56 : decode cX9_restore 56 = .ok (.getfield 7, 3) := by decide +kernel
theorem dX9_restore_59 : decode cX9_restore 59 = .ok (.iconst 0, 1) := by decide +kernel
theorem dX9_restore_60 : decode cX9_restore 60 = .ok (.iaload, 1) := by decide +kernel
theorem dX9_restore_61 : decode cX9_restore 61 = .ok (.ireturn, 1) := by decide +kernel
set_option maxRecDepth 100000 in
set_option maxHeartbeats 4000000 in
theorem w9_restore_b20_ok {G : GT} {P : Int32 → Mem → Prop} {X : String → Mem → Prop} (C : PCx G cX9_restore 2 RX9) (hRt : PRt G (some .int) (qI P) X) (hHR : HR G (1)) (hnT : NoT G) {μ : Mem} {l1 : Int32} (hk : w9_restore_b20 P μ l1) : PW G 0 0 20 [some (pR 50 0), some (pI l1)] [] μ := by
  refine hk (fun (μ : Mem) (l1 : Int32) => PW G 0 0 20 [some (pR 50 0), some (pI l1)] [] μ) (fun (μ : Mem) l1 hk => ?_)
  have hR20 : ∀ (μ : Mem) (l1 : Int32), PW G 0 0 20 [some (pR 50 0), some (pI l1)] [] μ → PW G 0 0 20 [some (pR 50 0), some (pI l1)] [] μ := fun _ _ h => h
  unfold w9_restore_b20_body at hk
  refine px_iload_n (i := 1) C dX9_restore_20 rfl rfl ?_
  refine px_sipush (v := (342 : Int32)) C dX9_restore_21 rfl ?_
  refine px_icmp_ge (tgt := 45) C dX9_restore_24 (by decide) (fun c8 => ?_) (fun c8 => ?_)
  · replace hk := hk.1 c8
    refine px_aload_n (i := 0) C dX9_restore_45 rfl rfl ?_
    refine px_iconst (v := (0 : Int32)) C dX9_restore_46 rfl ?_
    replace hk := hk _ rfl
    refine px_puti 3207 C dX9_restore_47 fp_RX9_91 rfl rfl rfl rfl rfl rfl ?_
    refine px_aload_n (i := 0) C dX9_restore_50 rfl rfl ?_
    refine px_iconst (v := (0 : Int32)) C dX9_restore_51 rfl ?_
    replace hk := hk _ rfl
    refine px_puti 3212 C dX9_restore_52 fp_RX9_94 rfl rfl rfl rfl rfl rfl ?_
    refine px_aload_n (i := 0) C dX9_restore_55 rfl rfl ?_
    refine px_getr C dX9_restore_56 fl_RX9_7 rfl rfl rfl ?_
    refine px_iconst (v := (0 : Int32)) C dX9_restore_59 rfl ?_
    obtain ⟨o4, hk⟩ := hk
    refine px_iald 3264 C dX9_restore_60 rfl rfl rfl rfl o4 ?_
    exact px_iret C hRt dX9_restore_61 rfl rfl hk
  · replace hk := hk.2 c8
    refine px_aload_n (i := 0) C dX9_restore_27 rfl rfl ?_
    refine px_getr C dX9_restore_28 fl_RX9_7 rfl rfl rfl ?_
    refine px_iload_n (i := 1) C dX9_restore_31 rfl rfl ?_
    refine px_aload_n (i := 0) C dX9_restore_32 rfl rfl ?_
    refine px_getr C dX9_restore_33 fl_RX9_13 rfl rfl rfl ?_
    refine px_iload_n (i := 1) C dX9_restore_36 rfl rfl ?_
    obtain ⟨o5, hk⟩ := hk
    refine px_iald 3328 C dX9_restore_37 rfl rfl rfl rfl o5 ?_
    obtain ⟨o6, hk⟩ := hk
    replace hk := hk _ rfl
    refine px_iast 3264 C dX9_restore_38 rfl rfl rfl rfl o6 ?_
    refine px_iinc (i := 1) (v := (1 : Int32)) C dX9_restore_39 rfl rfl (by decide) rfl ?_
    refine px_goto (tgt := 20) C dX9_restore_42 (by decide) ?_
    exact PW_at (hR20 _ _ hk) (And.intro rfl (And.intro rfl trivial)) (Nat.le_of_ble_eq_true rfl) (Nat.le_of_ble_eq_true rfl)
set_option maxRecDepth 100000 in
set_option maxHeartbeats 4000000 in
theorem w9_restore_ok {l : Launch} {idx : List (Nat × Nat)} {μ : Mem} {P : Int32 → Mem → Prop} {X : String → Mem → Prop} (hl : l.stackTraces = false) (hI : IdxOK idx) (hk : w9_restore_wp μ P) : PMet l yX9_restore (.code yX9_restore cX9_restore 2 (some .int)) 1 0 0 idx [pR 50 0] μ (qI P) X := by
  refine PMet_of mv_X9_restore.2.2.2.2.2.2 hl hI mv_X9_restore.2.2.2.1 rfl (Nat.le_of_ble_eq_true rfl) (fun G _ _ C hRt hHR hnT => ?_)
  show PW G 0 0 0 [some (pR 50 0), none] [] μ
  unfold w9_restore_wp at hk
  refine px_aload_n (i := 0) C dX9_restore_0 rfl rfl ?_
  refine px_iconst (v := (0 : Int32)) C dX9_restore_1 rfl ?_
  replace hk := hk _ rfl
  refine px_puti 3201 C dX9_restore_2 fp_RX9_80 rfl rfl rfl rfl rfl rfl ?_
  refine px_aload_n (i := 0) C dX9_restore_5 rfl rfl ?_
  refine px_geti 3206 C dX9_restore_6 fl_RX9_320 rfl rfl rfl rfl ?_
  refine px_if_ne (tgt := 18) C dX9_restore_9 (by decide) (fun c11 => ?_) (fun c11 => ?_)
  · replace hk := hk.1 c11
    refine px_iconst (v := (0 : Int32)) C dX9_restore_18 rfl ?_
    refine px_istore_n (i := 1) C dX9_restore_19 rfl (by decide) rfl ?_
    exact PW_at (w9_restore_b20_ok C hRt hHR hnT hk) (And.intro rfl (And.intro rfl trivial)) (Nat.le_of_ble_eq_true rfl) (Nat.le_of_ble_eq_true rfl)
  · replace hk := hk.2 c11
    refine px_aload_n (i := 0) C dX9_restore_12 rfl rfl ?_
    refine px_iconst (v := (1 : Int32)) C dX9_restore_13 rfl ?_
    refine px_callVi (h := 0) (rc' := 0) (rs' := 0) C (HR_le hHR (Nat.le_of_ble_eq_true rfl)) hRt hnT dX9_restore_14 (gw8 144 rfl rfl) mv_X9_fails (w9_fails_ok (PCx_l C) (PCx_I C) hk) rfl rfl rfl rfl rfl (Nat.le_of_ble_eq_true rfl) (Nat.le_of_ble_eq_true rfl) (Nat.le_of_ble_eq_true rfl) (Nat.le_of_ble_eq_true rfl) ?_
    intro r10 μ9 hk
    exact px_iret C hRt dX9_restore_17 rfl rfl hk
theorem dJ9_floorDiv_7cf53_0 : decode cJ9_floorDiv_7cf53 0 = .ok (.iload_n 0, 1) := by decide +kernel
theorem dJ9_floorDiv_7cf53_1 : decode cJ9_floorDiv_7cf53 1 = .ok (.iload_n 1, 1) := by decide +kernel
theorem dJ9_floorDiv_7cf53_2 : decode cJ9_floorDiv_7cf53 2 = .ok (.idiv, 1) := by decide +kernel
theorem dJ9_floorDiv_7cf53_3 : decode cJ9_floorDiv_7cf53 3 = .ok (.istore_n 2, 1) := by decide +kernel
theorem dJ9_floorDiv_7cf53_4 : decode cJ9_floorDiv_7cf53 4 = .ok (.iload_n 0, 1) := by decide +kernel
theorem dJ9_floorDiv_7cf53_5 : decode cJ9_floorDiv_7cf53 5 = .ok (.iload_n 1, 1) := by decide +kernel
theorem dJ9_floorDiv_7cf53_6 : decode cJ9_floorDiv_7cf53 6 = .ok (.ixor, 1) := by decide +kernel
theorem dJ9_floorDiv_7cf53_7 : decode cJ9_floorDiv_7cf53 7 = .ok (.ifCond .ge 14, 3) := by decide +kernel
theorem dJ9_floorDiv_7cf53_10 : decode cJ9_floorDiv_7cf53 10 = .ok (.iload_n 2, 1) := by decide +kernel
theorem dJ9_floorDiv_7cf53_11 : decode cJ9_floorDiv_7cf53 11 = .ok (.iload_n 1, 1) := by decide +kernel
theorem dJ9_floorDiv_7cf53_12 : decode cJ9_floorDiv_7cf53 12 = .ok (.imul, 1) := by decide +kernel
theorem dJ9_floorDiv_7cf53_13 : decode cJ9_floorDiv_7cf53 13 = .ok (.iload_n 0, 1) := by decide +kernel
theorem dJ9_floorDiv_7cf53_14 : decode cJ9_floorDiv_7cf53 14 = .ok (.if_icmp .eq 7, 3) := by decide +kernel
theorem dJ9_floorDiv_7cf53_17 : decode cJ9_floorDiv_7cf53 17 = .ok (.iload_n 2, 1) := by decide +kernel
theorem dJ9_floorDiv_7cf53_18 : decode cJ9_floorDiv_7cf53 18 = .ok (.iconst 1, 1) := by decide +kernel
theorem dJ9_floorDiv_7cf53_19 : decode cJ9_floorDiv_7cf53 19 = .ok (.isub, 1) := by decide +kernel
theorem dJ9_floorDiv_7cf53_20 : decode cJ9_floorDiv_7cf53 20 = .ok (.ireturn, 1) := by decide +kernel
theorem dJ9_floorDiv_7cf53_21 : decode cJ9_floorDiv_7cf53 21 = .ok (.iload_n 2, 1) := by decide +kernel
theorem dJ9_floorDiv_7cf53_22 : decode cJ9_floorDiv_7cf53 22 = .ok (.ireturn, 1) := by decide +kernel
set_option maxRecDepth 100000 in
set_option maxHeartbeats 4000000 in
theorem J9_floorDiv_7cf53_ok {l : Launch} {idx : List (Nat × Nat)} {μ : Mem} {a1 : Int32} {a2 : Int32} {P : Int32 → Mem → Prop} {X : String → Mem → Prop} (hl : l.stackTraces = false) (hI : IdxOK idx) (hk : J9_floorDiv_7cf53_wp μ a1 a2 P) : PMet l yJ9_floorDiv_7cf53 (.code yJ9_floorDiv_7cf53 cJ9_floorDiv_7cf53 3 (some .int)) 0 0 0 idx [pI a1, pI a2] μ (qI P) X := by
  refine PMet_of ms_J9_floorDiv_7cf53.2.2.2.2.2 hl hI ms_J9_floorDiv_7cf53.2.2.1 rfl (Nat.le_of_ble_eq_true rfl) (fun G _ _ C hRt hHR hnT => ?_)
  show PW G 0 0 0 [some (pI a1), some (pI a2), none] [] μ
  unfold J9_floorDiv_7cf53_wp at hk
  refine px_iload_n (i := 0) C dJ9_floorDiv_7cf53_0 rfl rfl ?_
  refine px_iload_n (i := 1) C dJ9_floorDiv_7cf53_1 rfl rfl ?_
  obtain ⟨o1, hk⟩ := hk
  refine px_idiv C dJ9_floorDiv_7cf53_2 o1 ?_
  refine px_istore_n (i := 2) C dJ9_floorDiv_7cf53_3 rfl (by decide) rfl ?_
  refine px_iload_n (i := 0) C dJ9_floorDiv_7cf53_4 rfl rfl ?_
  refine px_iload_n (i := 1) C dJ9_floorDiv_7cf53_5 rfl rfl ?_
  refine px_ixor C dJ9_floorDiv_7cf53_6 ?_
  refine px_if_ge (tgt := 21) C dJ9_floorDiv_7cf53_7 (by decide) (fun c3 => ?_) (fun c3 => ?_)
  · replace hk := hk.1 c3
    refine px_iload_n (i := 2) C dJ9_floorDiv_7cf53_21 rfl rfl ?_
    exact px_iret C hRt dJ9_floorDiv_7cf53_22 rfl rfl hk
  · replace hk := hk.2 c3
    refine px_iload_n (i := 2) C dJ9_floorDiv_7cf53_10 rfl rfl ?_
    refine px_iload_n (i := 1) C dJ9_floorDiv_7cf53_11 rfl rfl ?_
    refine px_imul C dJ9_floorDiv_7cf53_12 ?_
    refine px_iload_n (i := 0) C dJ9_floorDiv_7cf53_13 rfl rfl ?_
    refine px_icmp_eq (tgt := 21) C dJ9_floorDiv_7cf53_14 (by decide) (fun c2 => ?_) (fun c2 => ?_)
    · replace hk := hk.1 c2
      refine px_iload_n (i := 2) C dJ9_floorDiv_7cf53_21 rfl rfl ?_
      exact px_iret C hRt dJ9_floorDiv_7cf53_22 rfl rfl hk
    · replace hk := hk.2 c2
      refine px_iload_n (i := 2) C dJ9_floorDiv_7cf53_17 rfl rfl ?_
      refine px_iconst (v := (1 : Int32)) C dJ9_floorDiv_7cf53_18 rfl ?_
      refine px_isub C dJ9_floorDiv_7cf53_19 ?_
      exact px_iret C hRt dJ9_floorDiv_7cf53_20 rfl rfl hk
theorem dX0_judge_0 : decode cX0_judge 0 = .ok (.aload_n 0, 1) := by decide +kernel
theorem dX0_judge_1 : decode cX0_judge 1 = .ok (.getfield 26, 3) := by decide +kernel
theorem dX0_judge_4 : decode cX0_judge 4 = .ok (.iload_n 1, 1) := by decide +kernel
theorem dX0_judge_5 : decode cX0_judge 5 = .ok (.invokevirtual 53, 3) := by decide +kernel
theorem dX0_judge_8 : decode cX0_judge 8 = .ok (.istore_n 2, 1) := by decide +kernel
theorem dX0_judge_9 : decode cX0_judge 9 = .ok (.iload_n 2, 1) := by decide +kernel
theorem dX0_judge_10 : decode cX0_judge 10 = .ok (.bipush 40, 2) := by decide +kernel
theorem dX0_judge_12 : decode cX0_judge 12 = .ok (.invokestatic 56, 3) := by decide +kernel
theorem dX0_judge_15 : decode cX0_judge 15 = .ok (.ifCond .ne 5, 3) := by decide +kernel
theorem dX0_judge_18 : decode cX0_judge 18 = .ok (.iconst 0, 1) := by decide +kernel
theorem dX0_judge_19 : decode cX0_judge 19 = .ok (.ireturn, 1) := by decide +kernel
theorem dX0_judge_20 : decode cX0_judge 20 = .ok (.aload_n 0, 1) := by decide +kernel
theorem dX0_judge_21 : decode cX0_judge 21 = .ok (.getfield 26, 3) := by decide +kernel
theorem dX0_judge_24 : decode cX0_judge 24 = .ok (.getfield 60, 3) := by decide +kernel
theorem dX0_judge_27 : decode cX0_judge 27 = .ok (.iload_n 1, 1) := by decide +kernel
theorem dX0_judge_28 : decode cX0_judge 28 = .ok (.invokestatic 49, 3) := by decide +kernel
theorem dX0_judge_31 : decode cX0_judge 31 = .ok (.istore_n 3, 1) := by decide +kernel
theorem dX0_judge_32 : decode cX0_judge 32 = .ok (.aload_n 0, 1) := by decide +kernel
theorem dX0_judge_33 : decode cX0_judge 33 = .ok (.getfield 26, 3) := by decide +kernel
theorem dX0_judge_36 : decode cX0_judge 36 = .ok (.getfield 60, 3) := by decide +kernel
theorem dX0_judge_39 : decode cX0_judge 39 = .ok (.iload_n 2, 1) := by decide +kernel
theorem dX0_judge_40 : decode cX0_judge 40 = .ok (.invokestatic 49, 3) := by decide +kernel
theorem dX0_judge_43 : decode cX0_judge 43 = .ok (.istore 4, 2) := by decide +kernel
theorem dX0_judge_45 : decode cX0_judge 45 = .ok (.iload_n 3, 1) := by decide +kernel
theorem dX0_judge_46 : decode cX0_judge 46 = .ok (.iload 4, 2) := by decide +kernel
theorem dX0_judge_48 : decode cX0_judge 48 = .ok (.if_icmp .ne 5, 3) := by decide +kernel
theorem dX0_judge_51 : decode cX0_judge 51 = .ok (.iconst 0, 1) := by decide +kernel
theorem dX0_judge_52 : decode cX0_judge 52 = .ok (.ireturn, 1) := by decide +kernel
theorem dX0_judge_53 : decode cX0_judge 53 = .ok (.aload_n 0, 1) := by decide +kernel
theorem dX0_judge_54 : decode cX0_judge 54 = .ok (.getfield 26, 3) := by decide +kernel
theorem dX0_judge_57 : decode cX0_judge 57 = .ok (.getfield 63, 3) := by decide +kernel
theorem dX0_judge_60 : decode cX0_judge 60 = .ok (.iload_n 2, 1) := by decide +kernel
theorem dX0_judge_61 : decode cX0_judge 61 = .ok (.invokestatic 49, 3) := by decide +kernel
theorem dX0_judge_64 : decode cX0_judge 64 = .ok (.aload_n 0, 1) := by decide +kernel
theorem dX0_judge_65 : decode cX0_judge 65 = .ok (.getfield 26, 3) := by decide +kernel
theorem dX0_judge_68 : decode cX0_judge 68 = .ok (.getfield 63, 3) := by decide +kernel
theorem dX0_judge_71 : decode cX0_judge 71 = .ok (.iload_n 1, 1) := by decide +kernel
theorem dX0_judge_72 : decode cX0_judge 72 = .ok (.invokestatic 49, 3) := by decide +kernel
theorem dX0_judge_75 : decode cX0_judge 75 = .ok (.isub, 1) := by decide +kernel
theorem dX0_judge_76 : decode cX0_judge 76 = .ok (.istore 5, 2) := by decide +kernel
theorem dX0_judge_78 : decode cX0_judge 78 = .ok (.aload_n 0, 1) := by decide +kernel
theorem dX0_judge_79 : decode cX0_judge 79 = .ok (.getfield 26, 3) := by decide +kernel
theorem dX0_judge_82 : decode cX0_judge 82 = .ok (.getfield 66, 3) := by decide +kernel
theorem dX0_judge_85 : decode cX0_judge 85 = .ok (.iload_n 2, 1) := by decide +kernel
theorem dX0_judge_86 : decode cX0_judge 86 = .ok (.invokestatic 49, 3) := by decide +kernel
theorem dX0_judge_89 : decode cX0_judge 89 = .ok (.aload_n 0, 1) := by decide +kernel
theorem dX0_judge_90 : decode cX0_judge 90 = .ok (.getfield 26, 3) := by decide +kernel
theorem dX0_judge_93 : decode cX0_judge 93 = .ok (.getfield 66, 3) := by decide +kernel
theorem dX0_judge_96 : decode cX0_judge 96 = .ok (.iload_n 1, 1) := by decide +kernel
theorem dX0_judge_97 : decode cX0_judge 97 = .ok (.invokestatic 49, 3) := by decide +kernel
theorem dX0_judge_100 : decode cX0_judge 100 = .ok (.isub, 1) := by decide +kernel
theorem dX0_judge_101 : decode cX0_judge 101 = .ok (.istore 6, 2) := by decide +kernel
theorem dX0_judge_103 : decode cX0_judge 103 = .ok (.iload 5, 2) := by decide +kernel
theorem dX0_judge_105 : decode cX0_judge 105 = .ok (.iload 6, 2) := by decide +kernel
theorem dX0_judge_107 : decode cX0_judge 107 = .ok (.if_icmp .gt 28, 3) := by decide +kernel
theorem dX0_judge_110 : decode cX0_judge 110 = .ok (.iload 5, 2) := by decide +kernel
theorem dX0_judge_112 : decode cX0_judge 112 = .ok (.aload_n 0, 1) := by decide +kernel
theorem dX0_judge_113 : decode cX0_judge 113 = .ok (.iload_n 3, 1) := by decide +kernel
theorem dX0_judge_114 : decode cX0_judge 114 = .ok (.iload 4, 2) := by decide +kernel
theorem dX0_judge_116 : decode cX0_judge 116 = .ok (.invokevirtual 69, 3) := by decide +kernel
theorem dX0_judge_119 : decode cX0_judge 119 = .ok (.if_icmp .gt 16, 3) := by decide +kernel
theorem dX0_judge_122 : decode cX0_judge 122 = .ok (.iload 6, 2) := by decide +kernel
theorem dX0_judge_124 : decode cX0_judge 124 = .ok (.ineg, 1) := by decide +kernel
theorem dX0_judge_125 : decode cX0_judge 125 = .ok (.aload_n 0, 1) := by decide +kernel
theorem dX0_judge_126 : decode cX0_judge 126 = .ok (.iload 4, 2) := by decide +kernel
theorem dX0_judge_128 : decode cX0_judge 128 = .ok (.iload_n 3, 1) := by decide +kernel
theorem dX0_judge_129 : decode cX0_judge 129 = .ok (.invokevirtual 69, 3) := by decide +kernel
theorem dX0_judge_132 : decode cX0_judge 132 = .ok (.if_icmp .le 5, 3) := by decide +kernel
theorem dX0_judge_135 : decode cX0_judge 135 = .ok (.iconst 2, 1) := by decide +kernel
theorem dX0_judge_136 : decode cX0_judge 136 = .ok (.ireturn, 1) := by decide +kernel
theorem dX0_judge_137 : decode cX0_judge 137 = .ok (.aload_n 0, 1) := by decide +kernel
theorem dX0_judge_138 : decode cX0_judge 138 = .ok (.iload_n 3, 1) := by decide +kernel
theorem dX0_judge_139 : decode cX0_judge 139 = .ok (.iload 4, 2) := by decide +kernel
theorem dX0_judge_141 : decode cX0_judge 141 = .ok (.iload 6, 2) := by decide +kernel
theorem dX0_judge_143 : decode cX0_judge 143 = .ok (.invokevirtual 73, 3) := by decide +kernel
theorem dX0_judge_146 : decode cX0_judge 146 = .ok (.aload_n 0, 1) := by decide +kernel
theorem dX0_judge_147 : decode cX0_judge 147 = .ok (.iload 4, 2) := by decide +kernel
theorem dX0_judge_149 : decode cX0_judge 149 = .ok (.iload_n 3, 1) := by decide +kernel
theorem dX0_judge_150 : decode cX0_judge 150 = .ok (.iload 5, 2) := by decide +kernel
theorem dX0_judge_152 : decode cX0_judge 152 = .ok (.ineg, 1) := by decide +kernel
theorem dX0_judge_153 : decode cX0_judge 153 = .ok (.invokevirtual 73, 3) := by decide +kernel
theorem dX0_judge_156 : decode cX0_judge 156 = .ok (.iconst 1, 1) := by decide +kernel
theorem dX0_judge_157 : decode cX0_judge 157 = .ok (.ireturn, 1) := by decide +kernel
set_option maxRecDepth 100000 in
set_option maxHeartbeats 4000000 in
theorem w0_judge_ok {l : Launch} {idx : List (Nat × Nat)} {μ : Mem} {a1 : Int32} {P : Int32 → Mem → Prop} {X : String → Mem → Prop} (hl : l.stackTraces = false) (hI : IdxOK idx) (hk : w0_judge_wp μ a1 P) : PMet l yX0_judge (.code yX0_judge cX0_judge 7 (some .int)) 2 0 0 idx [pR 12 0, pI a1] μ (qI P) X := by
  refine PMet_of mv_X0_judge.2.2.2.2.2.2 hl hI mv_X0_judge.2.2.2.1 rfl (Nat.le_of_ble_eq_true rfl) (fun G _ _ C hRt hHR hnT => ?_)
  show PW G 0 0 0 [some (pR 12 0), some (pI a1), none, none, none, none, none] [] μ
  unfold w0_judge_wp at hk
  refine px_aload_n (i := 0) C dX0_judge_0 rfl rfl ?_
  refine px_getr C dX0_judge_1 fl_RX0_26 rfl rfl rfl ?_
  refine px_iload_n (i := 1) C dX0_judge_4 rfl rfl ?_
  refine px_callVi (h := 1) (rc' := 0) (rs' := 0) C (HR_le hHR (Nat.le_of_ble_eq_true rfl)) hRt hnT dX0_judge_5 (gw2 178 rfl rfl) mv_X7_presentParent (w7_presentParent_ok (PCx_l C) (PCx_I C) hk) rfl rfl rfl rfl rfl (Nat.le_of_ble_eq_true rfl) (Nat.le_of_ble_eq_true rfl) (Nat.le_of_ble_eq_true rfl) (Nat.le_of_ble_eq_true rfl) ?_
  intro r2 μ1 hk
  refine px_istore_n (i := 2) C dX0_judge_8 rfl (by decide) rfl ?_
  refine px_iload_n (i := 2) C dX0_judge_9 rfl rfl ?_
  refine px_bipush (v := (40 : Int32)) C dX0_judge_10 rfl ?_
  refine px_callSNi (h := 0) (rc' := 0) (rs' := 0) C (HR_le hHR (Nat.le_of_ble_eq_true rfl)) hRt hnT dX0_judge_12 (List.mem_append_right _ (List.mem_append_left _ (List.mem_of_getElem? (i := 4) rfl))) ms_X8_isWithin (w8_isWithin_ok (PCx_l C) (PCx_I C) hk) rfl rfl (Nat.le_of_ble_eq_true rfl) (Nat.le_of_ble_eq_true rfl) (Nat.le_of_ble_eq_true rfl) (Nat.le_of_ble_eq_true rfl) ?_
  intro r4 μ3 hk
  refine px_if_ne (tgt := 20) C dX0_judge_15 (by decide) (fun c21 => ?_) (fun c21 => ?_)
  · replace hk := hk.1 c21
    refine px_aload_n (i := 0) C dX0_judge_20 rfl rfl ?_
    refine px_getr C dX0_judge_21 fl_RX0_26 rfl rfl rfl ?_
    refine px_getr C dX0_judge_24 fl_RX0_60 rfl rfl rfl ?_
    refine px_iload_n (i := 1) C dX0_judge_27 rfl rfl ?_
    obtain ⟨o5, hk⟩ := hk
    refine px_callSNi (h := 0) (rc' := 0) (rs' := 0) C (HR_le hHR (Nat.le_of_ble_eq_true rfl)) hRt hnT dX0_judge_28 (List.mem_append_right _ (List.mem_append_left _ (List.mem_of_getElem? (i := 5) rfl))) ms_X8_at (at_ok (j := 4) (q := 0) (n := 40) (loc := 256) (PCx_l C) (PCx_I C) rfl rfl rfl o5) rfl rfl (Nat.le_of_ble_eq_true rfl) (Nat.le_of_ble_eq_true rfl) (Nat.le_of_ble_eq_true rfl) (Nat.le_of_ble_eq_true rfl) ?_
    rintro _ _ ⟨rfl, rfl⟩
    refine px_istore_n (i := 3) C dX0_judge_31 rfl (by decide) rfl ?_
    refine px_aload_n (i := 0) C dX0_judge_32 rfl rfl ?_
    refine px_getr C dX0_judge_33 fl_RX0_26 rfl rfl rfl ?_
    refine px_getr C dX0_judge_36 fl_RX0_60 rfl rfl rfl ?_
    refine px_iload_n (i := 2) C dX0_judge_39 rfl rfl ?_
    obtain ⟨o6, hk⟩ := hk
    refine px_callSNi (h := 0) (rc' := 0) (rs' := 0) C (HR_le hHR (Nat.le_of_ble_eq_true rfl)) hRt hnT dX0_judge_40 (List.mem_append_right _ (List.mem_append_left _ (List.mem_of_getElem? (i := 5) rfl))) ms_X8_at (at_ok (j := 4) (q := 0) (n := 40) (loc := 256) (PCx_l C) (PCx_I C) rfl rfl rfl o6) rfl rfl (Nat.le_of_ble_eq_true rfl) (Nat.le_of_ble_eq_true rfl) (Nat.le_of_ble_eq_true rfl) (Nat.le_of_ble_eq_true rfl) ?_
    rintro _ _ ⟨rfl, rfl⟩
    refine px_istore (i := 4) C dX0_judge_43 (by decide) rfl ?_
    refine px_iload_n (i := 3) C dX0_judge_45 rfl rfl ?_
    refine px_iload (i := 4) C dX0_judge_46 rfl ?_
    refine px_icmp_ne (tgt := 53) C dX0_judge_48 (by decide) (fun c20 => ?_) (fun c20 => ?_)
    · replace hk := hk.1 c20
      refine px_aload_n (i := 0) C dX0_judge_53 rfl rfl ?_
      refine px_getr C dX0_judge_54 fl_RX0_26 rfl rfl rfl ?_
      refine px_getr C dX0_judge_57 fl_RX0_63 rfl rfl rfl ?_
      refine px_iload_n (i := 2) C dX0_judge_60 rfl rfl ?_
      obtain ⟨o7, hk⟩ := hk
      refine px_callSNi (h := 0) (rc' := 0) (rs' := 0) C (HR_le hHR (Nat.le_of_ble_eq_true rfl)) hRt hnT dX0_judge_61 (List.mem_append_right _ (List.mem_append_left _ (List.mem_of_getElem? (i := 5) rfl))) ms_X8_at (at_ok (j := 5) (q := 0) (n := 40) (loc := 320) (PCx_l C) (PCx_I C) rfl rfl rfl o7) rfl rfl (Nat.le_of_ble_eq_true rfl) (Nat.le_of_ble_eq_true rfl) (Nat.le_of_ble_eq_true rfl) (Nat.le_of_ble_eq_true rfl) ?_
      rintro _ _ ⟨rfl, rfl⟩
      refine px_aload_n (i := 0) C dX0_judge_64 rfl rfl ?_
      refine px_getr C dX0_judge_65 fl_RX0_26 rfl rfl rfl ?_
      refine px_getr C dX0_judge_68 fl_RX0_63 rfl rfl rfl ?_
      refine px_iload_n (i := 1) C dX0_judge_71 rfl rfl ?_
      obtain ⟨o8, hk⟩ := hk
      refine px_callSNi (h := 0) (rc' := 0) (rs' := 0) C (HR_le hHR (Nat.le_of_ble_eq_true rfl)) hRt hnT dX0_judge_72 (List.mem_append_right _ (List.mem_append_left _ (List.mem_of_getElem? (i := 5) rfl))) ms_X8_at (at_ok (j := 5) (q := 0) (n := 40) (loc := 320) (PCx_l C) (PCx_I C) rfl rfl rfl o8) rfl rfl (Nat.le_of_ble_eq_true rfl) (Nat.le_of_ble_eq_true rfl) (Nat.le_of_ble_eq_true rfl) (Nat.le_of_ble_eq_true rfl) ?_
      rintro _ _ ⟨rfl, rfl⟩
      refine px_isub C dX0_judge_75 ?_
      refine px_istore (i := 5) C dX0_judge_76 (by decide) rfl ?_
      refine px_aload_n (i := 0) C dX0_judge_78 rfl rfl ?_
      refine px_getr C dX0_judge_79 fl_RX0_26 rfl rfl rfl ?_
      refine px_getr C dX0_judge_82 fl_RX0_66 rfl rfl rfl ?_
      refine px_iload_n (i := 2) C dX0_judge_85 rfl rfl ?_
      obtain ⟨o9, hk⟩ := hk
      refine px_callSNi (h := 0) (rc' := 0) (rs' := 0) C (HR_le hHR (Nat.le_of_ble_eq_true rfl)) hRt hnT dX0_judge_86 (List.mem_append_right _ (List.mem_append_left _ (List.mem_of_getElem? (i := 5) rfl))) ms_X8_at (at_ok (j := 6) (q := 0) (n := 40) (loc := 384) (PCx_l C) (PCx_I C) rfl rfl rfl o9) rfl rfl (Nat.le_of_ble_eq_true rfl) (Nat.le_of_ble_eq_true rfl) (Nat.le_of_ble_eq_true rfl) (Nat.le_of_ble_eq_true rfl) ?_
      rintro _ _ ⟨rfl, rfl⟩
      refine px_aload_n (i := 0) C dX0_judge_89 rfl rfl ?_
      refine px_getr C dX0_judge_90 fl_RX0_26 rfl rfl rfl ?_
      refine px_getr C dX0_judge_93 fl_RX0_66 rfl rfl rfl ?_
      refine px_iload_n (i := 1) C dX0_judge_96 rfl rfl ?_
      obtain ⟨o10, hk⟩ := hk
      refine px_callSNi (h := 0) (rc' := 0) (rs' := 0) C (HR_le hHR (Nat.le_of_ble_eq_true rfl)) hRt hnT dX0_judge_97 (List.mem_append_right _ (List.mem_append_left _ (List.mem_of_getElem? (i := 5) rfl))) ms_X8_at (at_ok (j := 6) (q := 0) (n := 40) (loc := 384) (PCx_l C) (PCx_I C) rfl rfl rfl o10) rfl rfl (Nat.le_of_ble_eq_true rfl) (Nat.le_of_ble_eq_true rfl) (Nat.le_of_ble_eq_true rfl) (Nat.le_of_ble_eq_true rfl) ?_
      rintro _ _ ⟨rfl, rfl⟩
      refine px_isub C dX0_judge_100 ?_
      refine px_istore (i := 6) C dX0_judge_101 (by decide) rfl ?_
      refine px_iload (i := 5) C dX0_judge_103 rfl ?_
      refine px_iload (i := 6) C dX0_judge_105 rfl ?_
      refine px_icmp_gt (tgt := 135) C dX0_judge_107 (by decide) (fun c19 => ?_) (fun c19 => ?_)
      · replace hk := hk.1 c19
        refine px_iconst (v := (2 : Int32)) C dX0_judge_135 rfl ?_
        exact px_iret C hRt dX0_judge_136 rfl rfl hk
      · replace hk := hk.2 c19
        refine px_iload (i := 5) C dX0_judge_110 rfl ?_
        refine px_aload_n (i := 0) C dX0_judge_112 rfl rfl ?_
        refine px_iload_n (i := 3) C dX0_judge_113 rfl rfl ?_
        refine px_iload (i := 4) C dX0_judge_114 rfl ?_
        obtain ⟨o11, o12, hk⟩ := hk
        refine px_callVi (h := 0) (rc' := 0) (rs' := 0) C (HR_le hHR (Nat.le_of_ble_eq_true rfl)) hRt hnT dX0_judge_116 (gw2 193 rfl rfl) mv_X0_mostOf (w0_mostOf_ok (PCx_l C) (PCx_I C) (mostOf_in o11 o12)) rfl rfl rfl rfl rfl (Nat.le_of_ble_eq_true rfl) (Nat.le_of_ble_eq_true rfl) (Nat.le_of_ble_eq_true rfl) (Nat.le_of_ble_eq_true rfl) ?_
        rintro _ _ ⟨rfl, rfl⟩
        refine px_icmp_gt (tgt := 135) C dX0_judge_119 (by decide) (fun c18 => ?_) (fun c18 => ?_)
        · replace hk := hk.1 c18
          refine px_iconst (v := (2 : Int32)) C dX0_judge_135 rfl ?_
          exact px_iret C hRt dX0_judge_136 rfl rfl hk
        · replace hk := hk.2 c18
          refine px_iload (i := 6) C dX0_judge_122 rfl ?_
          refine px_ineg C dX0_judge_124 ?_
          refine px_aload_n (i := 0) C dX0_judge_125 rfl rfl ?_
          refine px_iload (i := 4) C dX0_judge_126 rfl ?_
          refine px_iload_n (i := 3) C dX0_judge_128 rfl rfl ?_
          obtain ⟨o13, o14, hk⟩ := hk
          refine px_callVi (h := 0) (rc' := 0) (rs' := 0) C (HR_le hHR (Nat.le_of_ble_eq_true rfl)) hRt hnT dX0_judge_129 (gw2 193 rfl rfl) mv_X0_mostOf (w0_mostOf_ok (PCx_l C) (PCx_I C) (mostOf_in o13 o14)) rfl rfl rfl rfl rfl (Nat.le_of_ble_eq_true rfl) (Nat.le_of_ble_eq_true rfl) (Nat.le_of_ble_eq_true rfl) (Nat.le_of_ble_eq_true rfl) ?_
          rintro _ _ ⟨rfl, rfl⟩
          refine px_icmp_le (tgt := 137) C dX0_judge_132 (by decide) (fun c17 => ?_) (fun c17 => ?_)
          · replace hk := hk.1 c17
            refine px_aload_n (i := 0) C dX0_judge_137 rfl rfl ?_
            refine px_iload_n (i := 3) C dX0_judge_138 rfl rfl ?_
            refine px_iload (i := 4) C dX0_judge_139 rfl ?_
            refine px_iload (i := 6) C dX0_judge_141 rfl ?_
            refine px_callVv (h := 1) (rc' := 0) (rs' := 0) C (HR_le hHR (Nat.le_of_ble_eq_true rfl)) hRt hnT dX0_judge_143 (gw2 197 rfl rfl) mv_X0_tighten (w0_tighten_ok (PCx_l C) (PCx_I C) hk) rfl rfl rfl rfl rfl (Nat.le_of_ble_eq_true rfl) (Nat.le_of_ble_eq_true rfl) (Nat.le_of_ble_eq_true rfl) (Nat.le_of_ble_eq_true rfl) ?_
            intro μ15 hk
            refine px_aload_n (i := 0) C dX0_judge_146 rfl rfl ?_
            refine px_iload (i := 4) C dX0_judge_147 rfl ?_
            refine px_iload_n (i := 3) C dX0_judge_149 rfl rfl ?_
            refine px_iload (i := 5) C dX0_judge_150 rfl ?_
            refine px_ineg C dX0_judge_152 ?_
            refine px_callVv (h := 1) (rc' := 0) (rs' := 0) C (HR_le hHR (Nat.le_of_ble_eq_true rfl)) hRt hnT dX0_judge_153 (gw2 197 rfl rfl) mv_X0_tighten (w0_tighten_ok (PCx_l C) (PCx_I C) hk) rfl rfl rfl rfl rfl (Nat.le_of_ble_eq_true rfl) (Nat.le_of_ble_eq_true rfl) (Nat.le_of_ble_eq_true rfl) (Nat.le_of_ble_eq_true rfl) ?_
            intro μ16 hk
            refine px_iconst (v := (1 : Int32)) C dX0_judge_156 rfl ?_
            exact px_iret C hRt dX0_judge_157 rfl rfl hk
          · replace hk := hk.2 c17
            refine px_iconst (v := (2 : Int32)) C dX0_judge_135 rfl ?_
            exact px_iret C hRt dX0_judge_136 rfl rfl hk
    · replace hk := hk.2 c20
      refine px_iconst (v := (0 : Int32)) C dX0_judge_51 rfl ?_
      exact px_iret C hRt dX0_judge_52 rfl rfl hk
  · replace hk := hk.2 c21
    refine px_iconst (v := (0 : Int32)) C dX0_judge_18 rfl ?_
    exact px_iret C hRt dX0_judge_19 rfl rfl hk
theorem dX0_choose_0 : decode cX0_choose 0 = .ok (.ldc 82, 2) := by decide +kernel
theorem dX0_choose_2 : decode cX0_choose 2 = .ok (.istore_n 2, 1) := by decide +kernel
theorem dX0_choose_3 : decode cX0_choose 3 = .ok (.ldc 30, 2) := by decide +kernel
theorem dX0_choose_5 : decode cX0_choose 5 = .ok (.istore_n 3, 1) := by decide +kernel
theorem dX0_choose_6 : decode cX0_choose 6 = .ok (.iconst 0, 1) := by decide +kernel
theorem dX0_choose_7 : decode cX0_choose 7 = .ok (.istore 4, 2) := by decide +kernel
theorem dX0_choose_9 : decode cX0_choose 9 = .ok (.iload 4, 2) := by decide +kernel
theorem dX0_choose_11 : decode cX0_choose 11 = .ok (.iload_n 1, 1) := by decide +kernel
theorem dX0_choose_12 : decode cX0_choose 12 = .ok (.if_icmp .ge 75, 3) := by decide +kernel
theorem dX0_choose_15 : decode cX0_choose 15 = .ok (.aload_n 0, 1) := by decide +kernel
theorem dX0_choose_16 : decode cX0_choose 16 = .ok (.iload_n 1, 1) := by decide +kernel
theorem dX0_choose_17 : decode cX0_choose 17 = .ok (.iload 4, 2) := by decide +kernel
theorem dX0_choose_19 : decode cX0_choose 19 = .ok (.invokevirtual 69, 3) := by decide +kernel
theorem dX0_choose_22 : decode cX0_choose 22 = .ok (.istore 5, 2) := by decide +kernel
theorem dX0_choose_24 : decode cX0_choose 24 = .ok (.aload_n 0, 1) := by decide +kernel
theorem dX0_choose_25 : decode cX0_choose 25 = .ok (.iload 4, 2) := by decide +kernel
theorem dX0_choose_27 : decode cX0_choose 27 = .ok (.iload_n 1, 1) := by decide +kernel
theorem dX0_choose_28 : decode cX0_choose 28 = .ok (.invokevirtual 69, 3) := by decide +kernel
theorem dX0_choose_31 : decode cX0_choose 31 = .ok (.istore 6, 2) := by decide +kernel
theorem dX0_choose_33 : decode cX0_choose 33 = .ok (.iload 5, 2) := by decide +kernel
theorem dX0_choose_35 : decode cX0_choose 35 = .ok (.ldc 30, 2) := by decide +kernel
theorem dX0_choose_37 : decode cX0_choose 37 = .ok (.if_icmp .eq 44, 3) := by decide +kernel
theorem dX0_choose_40 : decode cX0_choose 40 = .ok (.iload 6, 2) := by decide +kernel
theorem dX0_choose_42 : decode cX0_choose 42 = .ok (.ldc 30, 2) := by decide +kernel
theorem dX0_choose_44 : decode cX0_choose 44 = .ok (.if_icmp .eq 37, 3) := by decide +kernel
theorem dX0_choose_47 : decode cX0_choose 47 = .ok (.iload_n 2, 1) := by decide +kernel
theorem dX0_choose_48 : decode cX0_choose 48 = .ok (.aload_n 0, 1) := by decide +kernel
theorem dX0_choose_49 : decode cX0_choose 49 = .ok (.getfield 15, 3) := by decide +kernel
theorem dX0_choose_52 : decode cX0_choose 52 = .ok (.iload 4, 2) := by decide +kernel
theorem dX0_choose_54 : decode cX0_choose 54 = .ok (.invokestatic 49, 3) := by decide +kernel
theorem dX0_choose_57 : decode cX0_choose 57 = .ok (.iload 6, 2) := by decide +kernel
theorem dX0_choose_59 : decode cX0_choose 59 = .ok (.isub, 1) := by decide +kernel
theorem dX0_choose_60 : decode cX0_choose 60 = .ok (.invokestatic 83, 3) := by decide +kernel
theorem dX0_choose_63 : decode cX0_choose 63 = .ok (.istore_n 2, 1) := by decide +kernel
theorem dX0_choose_64 : decode cX0_choose 64 = .ok (.iload_n 3, 1) := by decide +kernel
theorem dX0_choose_65 : decode cX0_choose 65 = .ok (.aload_n 0, 1) := by decide +kernel
theorem dX0_choose_66 : decode cX0_choose 66 = .ok (.getfield 15, 3) := by decide +kernel
theorem dX0_choose_69 : decode cX0_choose 69 = .ok (.iload 4, 2) := by decide +kernel
theorem dX0_choose_71 : decode cX0_choose 71 = .ok (.invokestatic 49, 3) := by decide +kernel
theorem dX0_choose_74 : decode cX0_choose 74 = .ok (.iload 5, 2) := by decide +kernel
theorem dX0_choose_76 : decode cX0_choose 76 = .ok (.iadd, 1) := by decide +kernel
theorem dX0_choose_77 : decode cX0_choose 77 = .ok (.invokestatic 77, 3) := by decide +kernel
theorem dX0_choose_80 : decode cX0_choose 80 = .ok (.istore_n 3, 1) := by decide +kernel
theorem dX0_choose_81 : decode cX0_choose 81 = .ok (.iinc 4 1, 3) := by decide +kernel
theorem dX0_choose_84 : decode cX0_choose 84 = .ok (.goto (-75), 3) := by decide +kernel
theorem dX0_choose_87 : decode cX0_choose 87 = .ok (.iload_n 3, 1) := by decide +kernel
theorem dX0_choose_88 : decode cX0_choose 88 = .ok (.ldc 30, 2) := by decide +kernel
theorem dX0_choose_90 : decode cX0_choose 90 = .ok (.if_icmp .eq 7, 3) := by decide +kernel
theorem dX0_choose_93 : decode cX0_choose 93 = .ok (.iconst 1, 1) := by decide +kernel
theorem dX0_choose_94 : decode cX0_choose 94 = .ok (.goto 4, 3) := by decide +kernel
theorem dX0_choose_97 : decode cX0_choose 97 = .ok (.iconst 0, 1) := by decide +kernel
theorem dX0_choose_98 : decode cX0_choose 98 = .ok (.istore 4, 2) := by decide +kernel
theorem dX0_choose_100 : decode cX0_choose 100 = .ok (.aload_n 0, 1) := by decide +kernel
theorem dX0_choose_101 : decode cX0_choose 101 = .ok (.getfield 15, 3) := by decide +kernel
theorem dX0_choose_104 : decode cX0_choose 104 = .ok (.iload_n 1, 1) := by decide +kernel
theorem dX0_choose_105 : decode cX0_choose 105 = .ok (.iload 4, 2) := by decide +kernel
theorem dX0_choose_107 : decode cX0_choose 107 = .ok (.ifCond .eq 13, 3) := by decide +kernel
theorem dX0_choose_110 : decode cX0_choose 110 = .ok (.iload_n 2, 1) := by decide +kernel
theorem dX0_choose_111 : decode cX0_choose 111 = .ok (.iload_n 3, 1) := by decide +kernel
theorem dX0_choose_112 : decode cX0_choose 112 = .ok (.iadd, 1) := by decide +kernel
theorem dX0_choose_113 : decode cX0_choose 113 = .ok (.iconst 2, 1) := by decide +kernel
theorem dX0_choose_114 : decode cX0_choose 114 = .ok (.invokestatic 86, 3) := by decide +kernel
theorem dX0_choose_117 : decode cX0_choose 117 = .ok (.goto 4, 3) := by decide +kernel
theorem dX0_choose_120 : decode cX0_choose 120 = .ok (.iconst 0, 1) := by decide +kernel
theorem dX0_choose_121 : decode cX0_choose 121 = .ok (.invokestatic 41, 3) := by decide +kernel
theorem dX0_choose_124 : decode cX0_choose 124 = .ok (.aload_n 0, 1) := by decide +kernel
theorem dX0_choose_125 : decode cX0_choose 125 = .ok (.getfield 18, 3) := by decide +kernel
theorem dX0_choose_128 : decode cX0_choose 128 = .ok (.iload_n 1, 1) := by decide +kernel
theorem dX0_choose_129 : decode cX0_choose 129 = .ok (.iload 4, 2) := by decide +kernel
theorem dX0_choose_131 : decode cX0_choose 131 = .ok (.ifCond .eq 11, 3) := by decide +kernel
theorem dX0_choose_134 : decode cX0_choose 134 = .ok (.iload_n 3, 1) := by decide +kernel
theorem dX0_choose_135 : decode cX0_choose 135 = .ok (.iload_n 2, 1) := by decide +kernel
theorem dX0_choose_136 : decode cX0_choose 136 = .ok (.isub, 1) := by decide +kernel
theorem dX0_choose_137 : decode cX0_choose 137 = .ok (.iconst 1, 1) := by decide +kernel
theorem dX0_choose_138 : decode cX0_choose 138 = .ok (.iadd, 1) := by decide +kernel
theorem dX0_choose_139 : decode cX0_choose 139 = .ok (.goto 4, 3) := by decide +kernel
theorem dX0_choose_142 : decode cX0_choose 142 = .ok (.iconst 0, 1) := by decide +kernel
theorem dX0_choose_143 : decode cX0_choose 143 = .ok (.invokestatic 41, 3) := by decide +kernel
theorem dX0_choose_146 : decode cX0_choose 146 = .ok (.return_, 1) := by decide +kernel
set_option maxRecDepth 100000 in
set_option maxHeartbeats 4000000 in
theorem w0_choose_b121_ok {G : GT} {P : Mem → Prop} {X : String → Mem → Prop} (C : PCx G cX0_choose 7 RX0) (hRt : PRt G none (qV P) X) (hHR : HR G (1)) (hnT : NoT G) {μ : Mem} {l1 : Int32} {l2 : Int32} {l3 : Int32} {l4 : Int32} {s0 : Int32} {s1 : Int32} (hk : w0_choose_b121 P μ l1 l2 l3 l4 s0 s1) : PW G 0 0 121 [some (pR 12 0), some (pI l1), some (pI l2), some (pI l3), some (pI l4), none, none] [pI s0, pI s1, pR 14 0] μ := by
  unfold w0_choose_b121 at hk
  obtain ⟨o1, hk⟩ := hk
  replace hk := hk _ rfl
  refine px_callSNv (h := 0) (rc' := 0) (rs' := 0) C (HR_le hHR (Nat.le_of_ble_eq_true rfl)) hRt hnT dX0_choose_121 (List.mem_append_right _ (List.mem_append_left _ (List.mem_of_getElem? (i := 6) rfl))) ms_X8_set (set_ok (j := 14) (q := 0) (n := 8) (loc := 896) (PCx_l C) (PCx_I C) rfl rfl rfl o1) rfl rfl (Nat.le_of_ble_eq_true rfl) (Nat.le_of_ble_eq_true rfl) (Nat.le_of_ble_eq_true rfl) (Nat.le_of_ble_eq_true rfl) ?_
  rintro _ rfl
  refine px_aload_n (i := 0) C dX0_choose_124 rfl rfl ?_
  refine px_getr C dX0_choose_125 fl_RX0_18 rfl rfl rfl ?_
  refine px_iload_n (i := 1) C dX0_choose_128 rfl rfl ?_
  refine px_iload (i := 4) C dX0_choose_129 rfl ?_
  refine px_if_eq (tgt := 142) C dX0_choose_131 (by decide) (fun c7 => ?_) (fun c7 => ?_)
  · replace hk := hk.1 c7
    refine px_iconst (v := (0 : Int32)) C dX0_choose_142 rfl ?_
    obtain ⟨o3, hk⟩ := hk
    replace hk := hk _ rfl
    refine px_callSNv (h := 0) (rc' := 0) (rs' := 0) C (HR_le hHR (Nat.le_of_ble_eq_true rfl)) hRt hnT dX0_choose_143 (List.mem_append_right _ (List.mem_append_left _ (List.mem_of_getElem? (i := 6) rfl))) ms_X8_set (set_ok (j := 15) (q := 0) (n := 8) (loc := 960) (PCx_l C) (PCx_I C) rfl rfl rfl o3) rfl rfl (Nat.le_of_ble_eq_true rfl) (Nat.le_of_ble_eq_true rfl) (Nat.le_of_ble_eq_true rfl) (Nat.le_of_ble_eq_true rfl) ?_
    rintro _ rfl
    exact px_vret C hRt dX0_choose_146 rfl hk
  · replace hk := hk.2 c7
    refine px_iload_n (i := 3) C dX0_choose_134 rfl rfl ?_
    refine px_iload_n (i := 2) C dX0_choose_135 rfl rfl ?_
    refine px_isub C dX0_choose_136 ?_
    refine px_iconst (v := (1 : Int32)) C dX0_choose_137 rfl ?_
    refine px_iadd C dX0_choose_138 ?_
    refine px_goto (tgt := 143) C dX0_choose_139 (by decide) ?_
    obtain ⟨o5, hk⟩ := hk
    replace hk := hk _ rfl
    refine px_callSNv (h := 0) (rc' := 0) (rs' := 0) C (HR_le hHR (Nat.le_of_ble_eq_true rfl)) hRt hnT dX0_choose_143 (List.mem_append_right _ (List.mem_append_left _ (List.mem_of_getElem? (i := 6) rfl))) ms_X8_set (set_ok (j := 15) (q := 0) (n := 8) (loc := 960) (PCx_l C) (PCx_I C) rfl rfl rfl o5) rfl rfl (Nat.le_of_ble_eq_true rfl) (Nat.le_of_ble_eq_true rfl) (Nat.le_of_ble_eq_true rfl) (Nat.le_of_ble_eq_true rfl) ?_
    rintro _ rfl
    exact px_vret C hRt dX0_choose_146 rfl hk
set_option maxRecDepth 100000 in
set_option maxHeartbeats 4000000 in
theorem w0_choose_b98_ok {G : GT} {P : Mem → Prop} {X : String → Mem → Prop} (C : PCx G cX0_choose 7 RX0) (hRt : PRt G none (qV P) X) (hHR : HR G (1)) (hnT : NoT G) {μ : Mem} {l1 : Int32} {l2 : Int32} {l3 : Int32} {s0 : Int32} (hk : w0_choose_b98 P μ l1 l2 l3 s0) : PW G 0 0 98 [some (pR 12 0), some (pI l1), some (pI l2), some (pI l3), none, none, none] [pI s0] μ := by
  unfold w0_choose_b98 at hk
  refine px_istore (i := 4) C dX0_choose_98 (by decide) rfl ?_
  refine px_aload_n (i := 0) C dX0_choose_100 rfl rfl ?_
  refine px_getr C dX0_choose_101 fl_RX0_15 rfl rfl rfl ?_
  refine px_iload_n (i := 1) C dX0_choose_104 rfl rfl ?_
  refine px_iload (i := 4) C dX0_choose_105 rfl ?_
  refine px_if_eq (tgt := 120) C dX0_choose_107 (by decide) (fun c10 => ?_) (fun c10 => ?_)
  · replace hk := hk.1 c10
    refine px_iconst (v := (0 : Int32)) C dX0_choose_120 rfl ?_
    exact PW_at (w0_choose_b121_ok C hRt hHR hnT hk) (And.intro rfl (And.intro rfl (And.intro rfl (And.intro rfl (And.intro rfl trivial))))) (Nat.le_of_ble_eq_true rfl) (Nat.le_of_ble_eq_true rfl)
  · replace hk := hk.2 c10
    refine px_iload_n (i := 2) C dX0_choose_110 rfl rfl ?_
    refine px_iload_n (i := 3) C dX0_choose_111 rfl rfl ?_
    refine px_iadd C dX0_choose_112 ?_
    refine px_iconst (v := (2 : Int32)) C dX0_choose_113 rfl ?_
    refine px_callSi (h := 0) (rc' := 0) (rs' := 0) C (HR_le hHR (Nat.le_of_ble_eq_true rfl)) hRt hnT dX0_choose_114 (gw2 215 rfl rfl) ms_J9_floorDiv_7cf53 (J9_floorDiv_7cf53_ok (PCx_l C) (PCx_I C) hk) rfl rfl (Nat.le_of_ble_eq_true rfl) (Nat.le_of_ble_eq_true rfl) (Nat.le_of_ble_eq_true rfl) (Nat.le_of_ble_eq_true rfl) ?_
    intro r9 μ8 hk
    refine px_goto (tgt := 121) C dX0_choose_117 (by decide) ?_
    exact PW_at (w0_choose_b121_ok C hRt hHR hnT hk) (And.intro rfl (And.intro rfl (And.intro rfl (And.intro rfl (And.intro rfl trivial))))) (Nat.le_of_ble_eq_true rfl) (Nat.le_of_ble_eq_true rfl)
set_option maxRecDepth 100000 in
set_option maxHeartbeats 4000000 in
theorem w0_choose_b9_ok {G : GT} {P : Mem → Prop} {X : String → Mem → Prop} (C : PCx G cX0_choose 7 RX0) (hRt : PRt G none (qV P) X) (hHR : HR G (1)) (hnT : NoT G) {μ : Mem} {l1 : Int32} {l2 : Int32} {l3 : Int32} {l4 : Int32} (hk : w0_choose_b9 P μ l1 l2 l3 l4) : PW G 0 0 9 [some (pR 12 0), some (pI l1), some (pI l2), some (pI l3), some (pI l4), none, none] [] μ := by
  refine hk (fun (μ : Mem) (l1 : Int32) (l2 : Int32) (l3 : Int32) (l4 : Int32) => PW G 0 0 9 [some (pR 12 0), some (pI l1), some (pI l2), some (pI l3), some (pI l4), none, none] [] μ) (fun (μ : Mem) l1 l2 l3 l4 hk => ?_)
  have hR9 : ∀ (μ : Mem) (l1 : Int32) (l2 : Int32) (l3 : Int32) (l4 : Int32), PW G 0 0 9 [some (pR 12 0), some (pI l1), some (pI l2), some (pI l3), some (pI l4), none, none] [] μ → PW G 0 0 9 [some (pR 12 0), some (pI l1), some (pI l2), some (pI l3), some (pI l4), none, none] [] μ := fun _ _ _ _ _ h => h
  unfold w0_choose_b9_body at hk
  refine px_iload (i := 4) C dX0_choose_9 rfl ?_
  refine px_iload_n (i := 1) C dX0_choose_11 rfl rfl ?_
  refine px_icmp_ge (tgt := 87) C dX0_choose_12 (by decide) (fun c20 => ?_) (fun c20 => ?_)
  · replace hk := hk.1 c20
    refine px_iload_n (i := 3) C dX0_choose_87 rfl rfl ?_
    refine px_ldc (v := (1000000 : Int32)) C dX0_choose_88 (gw2 173 rfl rfl) ?_
    refine px_icmp_eq (tgt := 97) C dX0_choose_90 (by decide) (fun c11 => ?_) (fun c11 => ?_)
    · replace hk := hk.1 c11
      refine px_iconst (v := (0 : Int32)) C dX0_choose_97 rfl ?_
      exact PW_at (w0_choose_b98_ok C hRt hHR hnT hk) (And.intro rfl (And.intro rfl (And.intro rfl (And.intro rfl trivial)))) (Nat.le_of_ble_eq_true rfl) (Nat.le_of_ble_eq_true rfl)
    · replace hk := hk.2 c11
      refine px_iconst (v := (1 : Int32)) C dX0_choose_93 rfl ?_
      refine px_goto (tgt := 98) C dX0_choose_94 (by decide) ?_
      exact PW_at (w0_choose_b98_ok C hRt hHR hnT hk) (And.intro rfl (And.intro rfl (And.intro rfl (And.intro rfl trivial)))) (Nat.le_of_ble_eq_true rfl) (Nat.le_of_ble_eq_true rfl)
  · replace hk := hk.2 c20
    refine px_aload_n (i := 0) C dX0_choose_15 rfl rfl ?_
    refine px_iload_n (i := 1) C dX0_choose_16 rfl rfl ?_
    refine px_iload (i := 4) C dX0_choose_17 rfl ?_
    obtain ⟨o12, o13, hk⟩ := hk
    refine px_callVi (h := 0) (rc' := 0) (rs' := 0) C (HR_le hHR (Nat.le_of_ble_eq_true rfl)) hRt hnT dX0_choose_19 (gw2 193 rfl rfl) mv_X0_mostOf (w0_mostOf_ok (PCx_l C) (PCx_I C) (mostOf_in o12 o13)) rfl rfl rfl rfl rfl (Nat.le_of_ble_eq_true rfl) (Nat.le_of_ble_eq_true rfl) (Nat.le_of_ble_eq_true rfl) (Nat.le_of_ble_eq_true rfl) ?_
    rintro _ _ ⟨rfl, rfl⟩
    refine px_istore (i := 5) C dX0_choose_22 (by decide) rfl ?_
    refine px_aload_n (i := 0) C dX0_choose_24 rfl rfl ?_
    refine px_iload (i := 4) C dX0_choose_25 rfl ?_
    refine px_iload_n (i := 1) C dX0_choose_27 rfl rfl ?_
    obtain ⟨o14, o15, hk⟩ := hk
    refine px_callVi (h := 0) (rc' := 0) (rs' := 0) C (HR_le hHR (Nat.le_of_ble_eq_true rfl)) hRt hnT dX0_choose_28 (gw2 193 rfl rfl) mv_X0_mostOf (w0_mostOf_ok (PCx_l C) (PCx_I C) (mostOf_in o14 o15)) rfl rfl rfl rfl rfl (Nat.le_of_ble_eq_true rfl) (Nat.le_of_ble_eq_true rfl) (Nat.le_of_ble_eq_true rfl) (Nat.le_of_ble_eq_true rfl) ?_
    rintro _ _ ⟨rfl, rfl⟩
    refine px_istore (i := 6) C dX0_choose_31 (by decide) rfl ?_
    refine px_iload (i := 5) C dX0_choose_33 rfl ?_
    refine px_ldc (v := (1000000 : Int32)) C dX0_choose_35 (gw2 173 rfl rfl) ?_
    refine px_icmp_eq (tgt := 81) C dX0_choose_37 (by decide) (fun c19 => ?_) (fun c19 => ?_)
    · replace hk := hk.1 c19
      refine px_iinc (i := 4) (v := (1 : Int32)) C dX0_choose_81 rfl rfl (by decide) rfl ?_
      refine px_goto (tgt := 9) C dX0_choose_84 (by decide) ?_
      exact PW_at (hR9 _ _ _ _ _ hk) (And.intro rfl (And.intro rfl (And.intro rfl (And.intro rfl (And.intro rfl trivial))))) (Nat.le_of_ble_eq_true rfl) (Nat.le_of_ble_eq_true rfl)
    · replace hk := hk.2 c19
      refine px_iload (i := 6) C dX0_choose_40 rfl ?_
      refine px_ldc (v := (1000000 : Int32)) C dX0_choose_42 (gw2 173 rfl rfl) ?_
      refine px_icmp_eq (tgt := 81) C dX0_choose_44 (by decide) (fun c18 => ?_) (fun c18 => ?_)
      · replace hk := hk.1 c18
        refine px_iinc (i := 4) (v := (1 : Int32)) C dX0_choose_81 rfl rfl (by decide) rfl ?_
        refine px_goto (tgt := 9) C dX0_choose_84 (by decide) ?_
        exact PW_at (hR9 _ _ _ _ _ hk) (And.intro rfl (And.intro rfl (And.intro rfl (And.intro rfl (And.intro rfl trivial))))) (Nat.le_of_ble_eq_true rfl) (Nat.le_of_ble_eq_true rfl)
      · replace hk := hk.2 c18
        refine px_iload_n (i := 2) C dX0_choose_47 rfl rfl ?_
        refine px_aload_n (i := 0) C dX0_choose_48 rfl rfl ?_
        refine px_getr C dX0_choose_49 fl_RX0_15 rfl rfl rfl ?_
        refine px_iload (i := 4) C dX0_choose_52 rfl ?_
        obtain ⟨o16, hk⟩ := hk
        refine px_callSNi (h := 0) (rc' := 0) (rs' := 0) C (HR_le hHR (Nat.le_of_ble_eq_true rfl)) hRt hnT dX0_choose_54 (List.mem_append_right _ (List.mem_append_left _ (List.mem_of_getElem? (i := 5) rfl))) ms_X8_at (at_ok (j := 14) (q := 0) (n := 8) (loc := 896) (PCx_l C) (PCx_I C) rfl rfl rfl o16) rfl rfl (Nat.le_of_ble_eq_true rfl) (Nat.le_of_ble_eq_true rfl) (Nat.le_of_ble_eq_true rfl) (Nat.le_of_ble_eq_true rfl) ?_
        rintro _ _ ⟨rfl, rfl⟩
        refine px_iload (i := 6) C dX0_choose_57 rfl ?_
        refine px_isub C dX0_choose_59 ?_
        refine px_mmax C (HR_le hHR (Nat.le_of_ble_eq_true rfl)) dX0_choose_60 (gw2 212 rfl rfl) math_max (Nat.le_of_ble_eq_true rfl) ?_
        refine px_istore_n (i := 2) C dX0_choose_63 rfl (by decide) rfl ?_
        refine px_iload_n (i := 3) C dX0_choose_64 rfl rfl ?_
        refine px_aload_n (i := 0) C dX0_choose_65 rfl rfl ?_
        refine px_getr C dX0_choose_66 fl_RX0_15 rfl rfl rfl ?_
        refine px_iload (i := 4) C dX0_choose_69 rfl ?_
        obtain ⟨o17, hk⟩ := hk
        refine px_callSNi (h := 0) (rc' := 0) (rs' := 0) C (HR_le hHR (Nat.le_of_ble_eq_true rfl)) hRt hnT dX0_choose_71 (List.mem_append_right _ (List.mem_append_left _ (List.mem_of_getElem? (i := 5) rfl))) ms_X8_at (at_ok (j := 14) (q := 0) (n := 8) (loc := 896) (PCx_l C) (PCx_I C) rfl rfl rfl o17) rfl rfl (Nat.le_of_ble_eq_true rfl) (Nat.le_of_ble_eq_true rfl) (Nat.le_of_ble_eq_true rfl) (Nat.le_of_ble_eq_true rfl) ?_
        rintro _ _ ⟨rfl, rfl⟩
        refine px_iload (i := 5) C dX0_choose_74 rfl ?_
        refine px_iadd C dX0_choose_76 ?_
        refine px_mmin C (HR_le hHR (Nat.le_of_ble_eq_true rfl)) dX0_choose_77 (gw2 201 rfl rfl) math_min (Nat.le_of_ble_eq_true rfl) ?_
        refine px_istore_n (i := 3) C dX0_choose_80 rfl (by decide) rfl ?_
        refine px_iinc (i := 4) (v := (1 : Int32)) C dX0_choose_81 rfl rfl (by decide) rfl ?_
        refine px_goto (tgt := 9) C dX0_choose_84 (by decide) ?_
        exact PW_at (hR9 _ _ _ _ _ hk) (And.intro rfl (And.intro rfl (And.intro rfl (And.intro rfl (And.intro rfl trivial))))) (Nat.le_of_ble_eq_true rfl) (Nat.le_of_ble_eq_true rfl)
set_option maxRecDepth 100000 in
set_option maxHeartbeats 4000000 in
theorem w0_choose_ok {l : Launch} {idx : List (Nat × Nat)} {μ : Mem} {a1 : Int32} {P : Mem → Prop} {X : String → Mem → Prop} (hl : l.stackTraces = false) (hI : IdxOK idx) (hk : w0_choose_wp μ a1 P) : PMet l yX0_choose (.code yX0_choose cX0_choose 7 none) 1 0 0 idx [pR 12 0, pI a1] μ (qV P) X := by
  refine PMet_of mv_X0_choose.2.2.2.2.2.2 hl hI mv_X0_choose.2.2.2.1 rfl (Nat.le_of_ble_eq_true rfl) (fun G _ _ C hRt hHR hnT => ?_)
  show PW G 0 0 0 [some (pR 12 0), some (pI a1), none, none, none, none, none] [] μ
  unfold w0_choose_wp at hk
  refine px_ldc (v := (-1000000 : Int32)) C dX0_choose_0 (gw2 211 rfl rfl) ?_
  refine px_istore_n (i := 2) C dX0_choose_2 rfl (by decide) rfl ?_
  refine px_ldc (v := (1000000 : Int32)) C dX0_choose_3 (gw2 173 rfl rfl) ?_
  refine px_istore_n (i := 3) C dX0_choose_5 rfl (by decide) rfl ?_
  refine px_iconst (v := (0 : Int32)) C dX0_choose_6 rfl ?_
  refine px_istore (i := 4) C dX0_choose_7 (by decide) rfl ?_
  exact PW_at (w0_choose_b9_ok C hRt hHR hnT hk) (And.intro rfl (And.intro rfl (And.intro rfl (And.intro rfl (And.intro rfl trivial))))) (Nat.le_of_ble_eq_true rfl) (Nat.le_of_ble_eq_true rfl)
theorem dX1_ownUnits_0 : decode cX1_ownUnits 0 = .ok (.aload_n 0, 1) := by decide +kernel
theorem dX1_ownUnits_1 : decode cX1_ownUnits 1 = .ok (.getfield 9, 3) := by decide +kernel
theorem dX1_ownUnits_4 : decode cX1_ownUnits 4 = .ok (.iload_n 1, 1) := by decide +kernel
theorem dX1_ownUnits_5 : decode cX1_ownUnits 5 = .ok (.invokevirtual 23, 3) := by decide +kernel
theorem dX1_ownUnits_8 : decode cX1_ownUnits 8 = .ok (.istore_n 2, 1) := by decide +kernel
theorem dX1_ownUnits_9 : decode cX1_ownUnits 9 = .ok (.aload_n 0, 1) := by decide +kernel
theorem dX1_ownUnits_10 : decode cX1_ownUnits 10 = .ok (.getfield 15, 3) := by decide +kernel
theorem dX1_ownUnits_13 : decode cX1_ownUnits 13 = .ok (.getfield 29, 3) := by decide +kernel
theorem dX1_ownUnits_16 : decode cX1_ownUnits 16 = .ok (.iload_n 1, 1) := by decide +kernel
theorem dX1_ownUnits_17 : decode cX1_ownUnits 17 = .ok (.invokestatic 35, 3) := by decide +kernel
theorem dX1_ownUnits_20 : decode cX1_ownUnits 20 = .ok (.istore_n 3, 1) := by decide +kernel
theorem dX1_ownUnits_21 : decode cX1_ownUnits 21 = .ok (.iconst 0, 1) := by decide +kernel
theorem dX1_ownUnits_22 : decode cX1_ownUnits 22 = .ok (.istore 4, 2) := by decide +kernel
theorem dX1_ownUnits_24 : decode cX1_ownUnits 24 = .ok (.iload 4, 2) := by decide +kernel
theorem dX1_ownUnits_26 : decode cX1_ownUnits 26 = .ok (.aload_n 0, 1) := by decide +kernel
theorem dX1_ownUnits_27 : decode cX1_ownUnits 27 = .ok (.getfield 9, 3) := by decide +kernel
theorem dX1_ownUnits_30 : decode cX1_ownUnits 30 = .ok (.getfield 39, 3) := by decide +kernel
theorem dX1_ownUnits_33 : decode cX1_ownUnits 33 = .ok (.if_icmp .ge 121, 3) := by decide +kernel
theorem dX1_ownUnits_36 : decode cX1_ownUnits 36 = .ok (.aload_n 0, 1) := by decide +kernel
theorem dX1_ownUnits_37 : decode cX1_ownUnits 37 = .ok (.getfield 15, 3) := by decide +kernel
theorem dX1_ownUnits_40 : decode cX1_ownUnits 40 = .ok (.getfield 43, 3) := by decide +kernel
theorem dX1_ownUnits_43 : decode cX1_ownUnits 43 = .ok (.iload 4, 2) := by decide +kernel
theorem dX1_ownUnits_45 : decode cX1_ownUnits 45 = .ok (.invokestatic 35, 3) := by decide +kernel
theorem dX1_ownUnits_48 : decode cX1_ownUnits 48 = .ok (.istore 5, 2) := by decide +kernel
theorem dX1_ownUnits_50 : decode cX1_ownUnits 50 = .ok (.aload_n 0, 1) := by decide +kernel
theorem dX1_ownUnits_51 : decode cX1_ownUnits 51 = .ok (.getfield 15, 3) := by decide +kernel
theorem dX1_ownUnits_54 : decode cX1_ownUnits 54 = .ok (.iload 5, 2) := by decide +kernel
theorem dX1_ownUnits_56 : decode cX1_ownUnits 56 = .ok (.aload_n 0, 1) := by decide +kernel
theorem dX1_ownUnits_57 : decode cX1_ownUnits 57 = .ok (.getfield 9, 3) := by decide +kernel
theorem dX1_ownUnits_60 : decode cX1_ownUnits 60 = .ok (.getfield 46, 3) := by decide +kernel
theorem dX1_ownUnits_63 : decode cX1_ownUnits 63 = .ok (.iload_n 1, 1) := by decide +kernel
theorem dX1_ownUnits_64 : decode cX1_ownUnits 64 = .ok (.invokestatic 35, 3) := by decide +kernel
theorem dX1_ownUnits_67 : decode cX1_ownUnits 67 = .ok (.aload_n 0, 1) := by decide +kernel
theorem dX1_ownUnits_68 : decode cX1_ownUnits 68 = .ok (.getfield 9, 3) := by decide +kernel
theorem dX1_ownUnits_71 : decode cX1_ownUnits 71 = .ok (.getfield 49, 3) := by decide +kernel
theorem dX1_ownUnits_74 : decode cX1_ownUnits 74 = .ok (.iload_n 1, 1) := by decide +kernel
theorem dX1_ownUnits_75 : decode cX1_ownUnits 75 = .ok (.invokestatic 35, 3) := by decide +kernel
theorem dX1_ownUnits_78 : decode cX1_ownUnits 78 = .ok (.invokevirtual 52, 3) := by decide +kernel
theorem dX1_ownUnits_81 : decode cX1_ownUnits 81 = .ok (.ifCond .eq 67, 3) := by decide +kernel
theorem dX1_ownUnits_84 : decode cX1_ownUnits 84 = .ok (.aload_n 0, 1) := by decide +kernel
theorem dX1_ownUnits_85 : decode cX1_ownUnits 85 = .ok (.getfield 15, 3) := by decide +kernel
theorem dX1_ownUnits_88 : decode cX1_ownUnits 88 = .ok (.getfield 29, 3) := by decide +kernel
theorem dX1_ownUnits_91 : decode cX1_ownUnits 91 = .ok (.iload 5, 2) := by decide +kernel
theorem dX1_ownUnits_93 : decode cX1_ownUnits 93 = .ok (.invokestatic 35, 3) := by decide +kernel
theorem dX1_ownUnits_96 : decode cX1_ownUnits 96 = .ok (.iload_n 3, 1) := by decide +kernel
theorem dX1_ownUnits_97 : decode cX1_ownUnits 97 = .ok (.invokestatic 56, 3) := by decide +kernel
theorem dX1_ownUnits_100 : decode cX1_ownUnits 100 = .ok (.istore 6, 2) := by decide +kernel
theorem dX1_ownUnits_102 : decode cX1_ownUnits 102 = .ok (.aload_n 0, 1) := by decide +kernel
theorem dX1_ownUnits_103 : decode cX1_ownUnits 103 = .ok (.getfield 15, 3) := by decide +kernel
theorem dX1_ownUnits_106 : decode cX1_ownUnits 106 = .ok (.getfield 62, 3) := by decide +kernel
theorem dX1_ownUnits_109 : decode cX1_ownUnits 109 = .ok (.iload 5, 2) := by decide +kernel
theorem dX1_ownUnits_111 : decode cX1_ownUnits 111 = .ok (.invokestatic 35, 3) := by decide +kernel
theorem dX1_ownUnits_114 : decode cX1_ownUnits 114 = .ok (.aload_n 0, 1) := by decide +kernel
theorem dX1_ownUnits_115 : decode cX1_ownUnits 115 = .ok (.getfield 15, 3) := by decide +kernel
theorem dX1_ownUnits_118 : decode cX1_ownUnits 118 = .ok (.getfield 62, 3) := by decide +kernel
theorem dX1_ownUnits_121 : decode cX1_ownUnits 121 = .ok (.iload_n 1, 1) := by decide +kernel
theorem dX1_ownUnits_122 : decode cX1_ownUnits 122 = .ok (.invokestatic 35, 3) := by decide +kernel
theorem dX1_ownUnits_125 : decode cX1_ownUnits 125 = .ok (.invokestatic 65, 3) := by decide +kernel
theorem dX1_ownUnits_128 : decode cX1_ownUnits 128 = .ok (.istore 7, 2) := by decide +kernel
theorem dX1_ownUnits_130 : decode cX1_ownUnits 130 = .ok (.iload 6, 2) := by decide +kernel
theorem dX1_ownUnits_132 : decode cX1_ownUnits 132 = .ok (.iload 7, 2) := by decide +kernel
theorem dX1_ownUnits_134 : decode cX1_ownUnits 134 = .ok (.if_icmp .ge 14, 3) := by decide +kernel
theorem dX1_ownUnits_137 : decode cX1_ownUnits 137 = .ok (.iload_n 2, 1) := by decide +kernel
theorem dX1_ownUnits_138 : decode cX1_ownUnits 138 = .ok (.iload 7, 2) := by decide +kernel
theorem dX1_ownUnits_140 : decode cX1_ownUnits 140 = .ok (.iload 6, 2) := by decide +kernel
theorem dX1_ownUnits_142 : decode cX1_ownUnits 142 = .ok (.isub, 1) := by decide +kernel
theorem dX1_ownUnits_143 : decode cX1_ownUnits 143 = .ok (.isub, 1) := by decide +kernel
theorem dX1_ownUnits_144 : decode cX1_ownUnits 144 = .ok (.istore_n 2, 1) := by decide +kernel
theorem dX1_ownUnits_145 : decode cX1_ownUnits 145 = .ok (.iload 7, 2) := by decide +kernel
theorem dX1_ownUnits_147 : decode cX1_ownUnits 147 = .ok (.istore_n 3, 1) := by decide +kernel
theorem dX1_ownUnits_148 : decode cX1_ownUnits 148 = .ok (.iinc 4 1, 3) := by decide +kernel
theorem dX1_ownUnits_151 : decode cX1_ownUnits 151 = .ok (.goto (-127), 3) := by decide +kernel
theorem dX1_ownUnits_154 : decode cX1_ownUnits 154 = .ok (.iload_n 2, 1) := by decide +kernel
theorem dX1_ownUnits_155 : decode cX1_ownUnits 155 = .ok (.ireturn, 1) := by decide +kernel
set_option maxRecDepth 100000 in
set_option maxHeartbeats 4000000 in
theorem w1_ownUnits_b24_ok {G : GT} {P : Int32 → Mem → Prop} {X : String → Mem → Prop} (C : PCx G cX1_ownUnits 8 RX1) (hRt : PRt G (some .int) (qI P) X) (hHR : HR G (2)) (hnT : NoT G) {μ : Mem} {l1 : Int32} {l2 : Int32} {l3 : Int32} {l4 : Int32} (hk : w1_ownUnits_b24 P μ l1 l2 l3 l4) : PW G 0 0 24 [some (pR 34 0), some (pI l1), some (pI l2), some (pI l3), some (pI l4), none, none, none] [] μ := by
  refine hk (fun (μ : Mem) (l1 : Int32) (l2 : Int32) (l3 : Int32) (l4 : Int32) => PW G 0 0 24 [some (pR 34 0), some (pI l1), some (pI l2), some (pI l3), some (pI l4), none, none, none] [] μ) (fun (μ : Mem) l1 l2 l3 l4 hk => ?_)
  have hR24 : ∀ (μ : Mem) (l1 : Int32) (l2 : Int32) (l3 : Int32) (l4 : Int32), PW G 0 0 24 [some (pR 34 0), some (pI l1), some (pI l2), some (pI l3), some (pI l4), none, none, none] [] μ → PW G 0 0 24 [some (pR 34 0), some (pI l1), some (pI l2), some (pI l3), some (pI l4), none, none, none] [] μ := fun _ _ _ _ _ h => h
  unfold w1_ownUnits_b24_body at hk
  refine px_iload (i := 4) C dX1_ownUnits_24 rfl ?_
  refine px_aload_n (i := 0) C dX1_ownUnits_26 rfl rfl ?_
  refine px_getr C dX1_ownUnits_27 fl_RX1_9 rfl rfl rfl ?_
  refine px_geti 1 C dX1_ownUnits_30 fl_RX1_39 rfl rfl rfl rfl ?_
  refine px_icmp_ge (tgt := 154) C dX1_ownUnits_33 (by decide) (fun c14 => ?_) (fun c14 => ?_)
  · replace hk := hk.1 c14
    refine px_iload_n (i := 2) C dX1_ownUnits_154 rfl rfl ?_
    exact px_iret C hRt dX1_ownUnits_155 rfl rfl hk
  · replace hk := hk.2 c14
    refine px_aload_n (i := 0) C dX1_ownUnits_36 rfl rfl ?_
    refine px_getr C dX1_ownUnits_37 fl_RX1_15 rfl rfl rfl ?_
    refine px_getr C dX1_ownUnits_40 fl_RX1_43 rfl rfl rfl ?_
    refine px_iload (i := 4) C dX1_ownUnits_43 rfl ?_
    obtain ⟨o4, hk⟩ := hk
    refine px_callSNi (h := 0) (rc' := 0) (rs' := 0) C (HR_le hHR (Nat.le_of_ble_eq_true rfl)) hRt hnT dX1_ownUnits_45 (List.mem_append_right _ (List.mem_append_left _ (List.mem_of_getElem? (i := 20) rfl))) ms_X8_at (at_ok (j := 26) (q := 0) (n := 40) (loc := 1664) (PCx_l C) (PCx_I C) rfl rfl rfl o4) rfl rfl (Nat.le_of_ble_eq_true rfl) (Nat.le_of_ble_eq_true rfl) (Nat.le_of_ble_eq_true rfl) (Nat.le_of_ble_eq_true rfl) ?_
    rintro _ _ ⟨rfl, rfl⟩
    refine px_istore (i := 5) C dX1_ownUnits_48 (by decide) rfl ?_
    refine px_aload_n (i := 0) C dX1_ownUnits_50 rfl rfl ?_
    refine px_getr C dX1_ownUnits_51 fl_RX1_15 rfl rfl rfl ?_
    refine px_iload (i := 5) C dX1_ownUnits_54 rfl ?_
    refine px_aload_n (i := 0) C dX1_ownUnits_56 rfl rfl ?_
    refine px_getr C dX1_ownUnits_57 fl_RX1_9 rfl rfl rfl ?_
    refine px_getr C dX1_ownUnits_60 fl_RX1_46 rfl rfl rfl ?_
    refine px_iload_n (i := 1) C dX1_ownUnits_63 rfl rfl ?_
    obtain ⟨o5, hk⟩ := hk
    refine px_callSNi (h := 0) (rc' := 0) (rs' := 0) C (HR_le hHR (Nat.le_of_ble_eq_true rfl)) hRt hnT dX1_ownUnits_64 (List.mem_append_right _ (List.mem_append_left _ (List.mem_of_getElem? (i := 20) rfl))) ms_X8_at (at_ok (j := 1) (q := 0) (n := 40) (loc := 64) (PCx_l C) (PCx_I C) rfl rfl rfl o5) rfl rfl (Nat.le_of_ble_eq_true rfl) (Nat.le_of_ble_eq_true rfl) (Nat.le_of_ble_eq_true rfl) (Nat.le_of_ble_eq_true rfl) ?_
    rintro _ _ ⟨rfl, rfl⟩
    refine px_aload_n (i := 0) C dX1_ownUnits_67 rfl rfl ?_
    refine px_getr C dX1_ownUnits_68 fl_RX1_9 rfl rfl rfl ?_
    refine px_getr C dX1_ownUnits_71 fl_RX1_49 rfl rfl rfl ?_
    refine px_iload_n (i := 1) C dX1_ownUnits_74 rfl rfl ?_
    obtain ⟨o6, hk⟩ := hk
    refine px_callSNi (h := 0) (rc' := 0) (rs' := 0) C (HR_le hHR (Nat.le_of_ble_eq_true rfl)) hRt hnT dX1_ownUnits_75 (List.mem_append_right _ (List.mem_append_left _ (List.mem_of_getElem? (i := 20) rfl))) ms_X8_at (at_ok (j := 2) (q := 0) (n := 40) (loc := 128) (PCx_l C) (PCx_I C) rfl rfl rfl o6) rfl rfl (Nat.le_of_ble_eq_true rfl) (Nat.le_of_ble_eq_true rfl) (Nat.le_of_ble_eq_true rfl) (Nat.le_of_ble_eq_true rfl) ?_
    rintro _ _ ⟨rfl, rfl⟩
    refine px_callVi (h := 1) (rc' := 0) (rs' := 0) C (HR_le hHR (Nat.le_of_ble_eq_true rfl)) hRt hnT dX1_ownUnits_78 (gw5 80 rfl rfl) mv_X2_isChild (w2_isChild_ok (PCx_l C) (PCx_I C) hk) rfl rfl rfl rfl rfl (Nat.le_of_ble_eq_true rfl) (Nat.le_of_ble_eq_true rfl) (Nat.le_of_ble_eq_true rfl) (Nat.le_of_ble_eq_true rfl) ?_
    intro r8 μ7 hk
    refine px_if_eq (tgt := 148) C dX1_ownUnits_81 (by decide) (fun c13 => ?_) (fun c13 => ?_)
    · replace hk := hk.1 c13
      refine px_iinc (i := 4) (v := (1 : Int32)) C dX1_ownUnits_148 rfl rfl (by decide) rfl ?_
      refine px_goto (tgt := 24) C dX1_ownUnits_151 (by decide) ?_
      exact PW_at (hR24 _ _ _ _ _ hk) (And.intro rfl (And.intro rfl (And.intro rfl (And.intro rfl (And.intro rfl trivial))))) (Nat.le_of_ble_eq_true rfl) (Nat.le_of_ble_eq_true rfl)
    · replace hk := hk.2 c13
      refine px_aload_n (i := 0) C dX1_ownUnits_84 rfl rfl ?_
      refine px_getr C dX1_ownUnits_85 fl_RX1_15 rfl rfl rfl ?_
      refine px_getr C dX1_ownUnits_88 fl_RX1_29 rfl rfl rfl ?_
      refine px_iload (i := 5) C dX1_ownUnits_91 rfl ?_
      obtain ⟨o9, hk⟩ := hk
      refine px_callSNi (h := 0) (rc' := 0) (rs' := 0) C (HR_le hHR (Nat.le_of_ble_eq_true rfl)) hRt hnT dX1_ownUnits_93 (List.mem_append_right _ (List.mem_append_left _ (List.mem_of_getElem? (i := 20) rfl))) ms_X8_at (at_ok (j := 19) (q := 0) (n := 40) (loc := 1216) (PCx_l C) (PCx_I C) rfl rfl rfl o9) rfl rfl (Nat.le_of_ble_eq_true rfl) (Nat.le_of_ble_eq_true rfl) (Nat.le_of_ble_eq_true rfl) (Nat.le_of_ble_eq_true rfl) ?_
      rintro _ _ ⟨rfl, rfl⟩
      refine px_iload_n (i := 3) C dX1_ownUnits_96 rfl rfl ?_
      refine px_mmax C (HR_le hHR (Nat.le_of_ble_eq_true rfl)) dX1_ownUnits_97 (gw5 81 rfl rfl) math_max (Nat.le_of_ble_eq_true rfl) ?_
      refine px_istore (i := 6) C dX1_ownUnits_100 (by decide) rfl ?_
      refine px_aload_n (i := 0) C dX1_ownUnits_102 rfl rfl ?_
      refine px_getr C dX1_ownUnits_103 fl_RX1_15 rfl rfl rfl ?_
      refine px_getr C dX1_ownUnits_106 fl_RX1_62 rfl rfl rfl ?_
      refine px_iload (i := 5) C dX1_ownUnits_109 rfl ?_
      obtain ⟨o10, hk⟩ := hk
      refine px_callSNi (h := 0) (rc' := 0) (rs' := 0) C (HR_le hHR (Nat.le_of_ble_eq_true rfl)) hRt hnT dX1_ownUnits_111 (List.mem_append_right _ (List.mem_append_left _ (List.mem_of_getElem? (i := 20) rfl))) ms_X8_at (at_ok (j := 20) (q := 0) (n := 40) (loc := 1280) (PCx_l C) (PCx_I C) rfl rfl rfl o10) rfl rfl (Nat.le_of_ble_eq_true rfl) (Nat.le_of_ble_eq_true rfl) (Nat.le_of_ble_eq_true rfl) (Nat.le_of_ble_eq_true rfl) ?_
      rintro _ _ ⟨rfl, rfl⟩
      refine px_aload_n (i := 0) C dX1_ownUnits_114 rfl rfl ?_
      refine px_getr C dX1_ownUnits_115 fl_RX1_15 rfl rfl rfl ?_
      refine px_getr C dX1_ownUnits_118 fl_RX1_62 rfl rfl rfl ?_
      refine px_iload_n (i := 1) C dX1_ownUnits_121 rfl rfl ?_
      obtain ⟨o11, hk⟩ := hk
      refine px_callSNi (h := 0) (rc' := 0) (rs' := 0) C (HR_le hHR (Nat.le_of_ble_eq_true rfl)) hRt hnT dX1_ownUnits_122 (List.mem_append_right _ (List.mem_append_left _ (List.mem_of_getElem? (i := 20) rfl))) ms_X8_at (at_ok (j := 20) (q := 0) (n := 40) (loc := 1280) (PCx_l C) (PCx_I C) rfl rfl rfl o11) rfl rfl (Nat.le_of_ble_eq_true rfl) (Nat.le_of_ble_eq_true rfl) (Nat.le_of_ble_eq_true rfl) (Nat.le_of_ble_eq_true rfl) ?_
      rintro _ _ ⟨rfl, rfl⟩
      refine px_mmin C (HR_le hHR (Nat.le_of_ble_eq_true rfl)) dX1_ownUnits_125 (gw5 82 rfl rfl) math_min (Nat.le_of_ble_eq_true rfl) ?_
      refine px_istore (i := 7) C dX1_ownUnits_128 (by decide) rfl ?_
      refine px_iload (i := 6) C dX1_ownUnits_130 rfl ?_
      refine px_iload (i := 7) C dX1_ownUnits_132 rfl ?_
      refine px_icmp_ge (tgt := 148) C dX1_ownUnits_134 (by decide) (fun c12 => ?_) (fun c12 => ?_)
      · replace hk := hk.1 c12
        refine px_iinc (i := 4) (v := (1 : Int32)) C dX1_ownUnits_148 rfl rfl (by decide) rfl ?_
        refine px_goto (tgt := 24) C dX1_ownUnits_151 (by decide) ?_
        exact PW_at (hR24 _ _ _ _ _ hk) (And.intro rfl (And.intro rfl (And.intro rfl (And.intro rfl (And.intro rfl trivial))))) (Nat.le_of_ble_eq_true rfl) (Nat.le_of_ble_eq_true rfl)
      · replace hk := hk.2 c12
        refine px_iload_n (i := 2) C dX1_ownUnits_137 rfl rfl ?_
        refine px_iload (i := 7) C dX1_ownUnits_138 rfl ?_
        refine px_iload (i := 6) C dX1_ownUnits_140 rfl ?_
        refine px_isub C dX1_ownUnits_142 ?_
        refine px_isub C dX1_ownUnits_143 ?_
        refine px_istore_n (i := 2) C dX1_ownUnits_144 rfl (by decide) rfl ?_
        refine px_iload (i := 7) C dX1_ownUnits_145 rfl ?_
        refine px_istore_n (i := 3) C dX1_ownUnits_147 rfl (by decide) rfl ?_
        refine px_iinc (i := 4) (v := (1 : Int32)) C dX1_ownUnits_148 rfl rfl (by decide) rfl ?_
        refine px_goto (tgt := 24) C dX1_ownUnits_151 (by decide) ?_
        exact PW_at (hR24 _ _ _ _ _ hk) (And.intro rfl (And.intro rfl (And.intro rfl (And.intro rfl (And.intro rfl trivial))))) (Nat.le_of_ble_eq_true rfl) (Nat.le_of_ble_eq_true rfl)
set_option maxRecDepth 100000 in
set_option maxHeartbeats 4000000 in
theorem w1_ownUnits_ok {l : Launch} {idx : List (Nat × Nat)} {μ : Mem} {a1 : Int32} {P : Int32 → Mem → Prop} {X : String → Mem → Prop} (hl : l.stackTraces = false) (hI : IdxOK idx) (hk : w1_ownUnits_wp μ a1 P) : PMet l yX1_ownUnits (.code yX1_ownUnits cX1_ownUnits 8 (some .int)) 2 0 0 idx [pR 34 0, pI a1] μ (qI P) X := by
  refine PMet_of mv_X1_ownUnits.2.2.2.2.2.2 hl hI mv_X1_ownUnits.2.2.2.1 rfl (Nat.le_of_ble_eq_true rfl) (fun G _ _ C hRt hHR hnT => ?_)
  show PW G 0 0 0 [some (pR 34 0), some (pI a1), none, none, none, none, none, none] [] μ
  unfold w1_ownUnits_wp at hk
  refine px_aload_n (i := 0) C dX1_ownUnits_0 rfl rfl ?_
  refine px_getr C dX1_ownUnits_1 fl_RX1_9 rfl rfl rfl ?_
  refine px_iload_n (i := 1) C dX1_ownUnits_4 rfl rfl ?_
  refine px_callVi (h := 1) (rc' := 0) (rs' := 0) C (HR_le hHR (Nat.le_of_ble_eq_true rfl)) hRt hnT dX1_ownUnits_5 (gw5 78 rfl rfl) mv_X7_duration (w7_duration_ok (PCx_l C) (PCx_I C) hk) rfl rfl rfl rfl rfl (Nat.le_of_ble_eq_true rfl) (Nat.le_of_ble_eq_true rfl) (Nat.le_of_ble_eq_true rfl) (Nat.le_of_ble_eq_true rfl) ?_
  intro r2 μ1 hk
  refine px_istore_n (i := 2) C dX1_ownUnits_8 rfl (by decide) rfl ?_
  refine px_aload_n (i := 0) C dX1_ownUnits_9 rfl rfl ?_
  refine px_getr C dX1_ownUnits_10 fl_RX1_15 rfl rfl rfl ?_
  refine px_getr C dX1_ownUnits_13 fl_RX1_29 rfl rfl rfl ?_
  refine px_iload_n (i := 1) C dX1_ownUnits_16 rfl rfl ?_
  obtain ⟨o3, hk⟩ := hk
  refine px_callSNi (h := 0) (rc' := 0) (rs' := 0) C (HR_le hHR (Nat.le_of_ble_eq_true rfl)) hRt hnT dX1_ownUnits_17 (List.mem_append_right _ (List.mem_append_left _ (List.mem_of_getElem? (i := 20) rfl))) ms_X8_at (at_ok (j := 19) (q := 0) (n := 40) (loc := 1216) (PCx_l C) (PCx_I C) rfl rfl rfl o3) rfl rfl (Nat.le_of_ble_eq_true rfl) (Nat.le_of_ble_eq_true rfl) (Nat.le_of_ble_eq_true rfl) (Nat.le_of_ble_eq_true rfl) ?_
  rintro _ _ ⟨rfl, rfl⟩
  refine px_istore_n (i := 3) C dX1_ownUnits_20 rfl (by decide) rfl ?_
  refine px_iconst (v := (0 : Int32)) C dX1_ownUnits_21 rfl ?_
  refine px_istore (i := 4) C dX1_ownUnits_22 (by decide) rfl ?_
  exact PW_at (w1_ownUnits_b24_ok C hRt hHR hnT hk) (And.intro rfl (And.intro rfl (And.intro rfl (And.intro rfl (And.intro rfl trivial))))) (Nat.le_of_ble_eq_true rfl) (Nat.le_of_ble_eq_true rfl)
theorem dX1_childrenAt_0 : decode cX1_childrenAt 0 = .ok (.iconst 0, 1) := by decide +kernel
theorem dX1_childrenAt_1 : decode cX1_childrenAt 1 = .ok (.istore_n 3, 1) := by decide +kernel
theorem dX1_childrenAt_2 : decode cX1_childrenAt 2 = .ok (.iconst 0, 1) := by decide +kernel
theorem dX1_childrenAt_3 : decode cX1_childrenAt 3 = .ok (.istore 4, 2) := by decide +kernel
theorem dX1_childrenAt_5 : decode cX1_childrenAt 5 = .ok (.iload 4, 2) := by decide +kernel
theorem dX1_childrenAt_7 : decode cX1_childrenAt 7 = .ok (.aload_n 0, 1) := by decide +kernel
theorem dX1_childrenAt_8 : decode cX1_childrenAt 8 = .ok (.getfield 9, 3) := by decide +kernel
theorem dX1_childrenAt_11 : decode cX1_childrenAt 11 = .ok (.getfield 39, 3) := by decide +kernel
theorem dX1_childrenAt_14 : decode cX1_childrenAt 14 = .ok (.if_icmp .ge 78, 3) := by decide +kernel
theorem dX1_childrenAt_17 : decode cX1_childrenAt 17 = .ok (.aload_n 0, 1) := by decide +kernel
theorem dX1_childrenAt_18 : decode cX1_childrenAt 18 = .ok (.getfield 15, 3) := by decide +kernel
theorem dX1_childrenAt_21 : decode cX1_childrenAt 21 = .ok (.getfield 29, 3) := by decide +kernel
theorem dX1_childrenAt_24 : decode cX1_childrenAt 24 = .ok (.iload 4, 2) := by decide +kernel
theorem dX1_childrenAt_26 : decode cX1_childrenAt 26 = .ok (.invokestatic 35, 3) := by decide +kernel
theorem dX1_childrenAt_29 : decode cX1_childrenAt 29 = .ok (.iload_n 2, 1) := by decide +kernel
theorem dX1_childrenAt_30 : decode cX1_childrenAt 30 = .ok (.if_icmp .gt 56, 3) := by decide +kernel
theorem dX1_childrenAt_33 : decode cX1_childrenAt 33 = .ok (.iload_n 2, 1) := by decide +kernel
theorem dX1_childrenAt_34 : decode cX1_childrenAt 34 = .ok (.aload_n 0, 1) := by decide +kernel
theorem dX1_childrenAt_35 : decode cX1_childrenAt 35 = .ok (.getfield 15, 3) := by decide +kernel
theorem dX1_childrenAt_38 : decode cX1_childrenAt 38 = .ok (.getfield 62, 3) := by decide +kernel
theorem dX1_childrenAt_41 : decode cX1_childrenAt 41 = .ok (.iload 4, 2) := by decide +kernel
theorem dX1_childrenAt_43 : decode cX1_childrenAt 43 = .ok (.invokestatic 35, 3) := by decide +kernel
theorem dX1_childrenAt_46 : decode cX1_childrenAt 46 = .ok (.if_icmp .ge 40, 3) := by decide +kernel
theorem dX1_childrenAt_49 : decode cX1_childrenAt 49 = .ok (.aload_n 0, 1) := by decide +kernel
theorem dX1_childrenAt_50 : decode cX1_childrenAt 50 = .ok (.getfield 15, 3) := by decide +kernel
theorem dX1_childrenAt_53 : decode cX1_childrenAt 53 = .ok (.iload 4, 2) := by decide +kernel
theorem dX1_childrenAt_55 : decode cX1_childrenAt 55 = .ok (.aload_n 0, 1) := by decide +kernel
theorem dX1_childrenAt_56 : decode cX1_childrenAt 56 = .ok (.getfield 9, 3) := by decide +kernel
theorem dX1_childrenAt_59 : decode cX1_childrenAt 59 = .ok (.getfield 46, 3) := by decide +kernel
theorem dX1_childrenAt_62 : decode cX1_childrenAt 62 = .ok (.iload_n 1, 1) := by decide +kernel
theorem dX1_childrenAt_63 : decode cX1_childrenAt 63 = .ok (.invokestatic 35, 3) := by decide +kernel
theorem dX1_childrenAt_66 : decode cX1_childrenAt 66 = .ok (.aload_n 0, 1) := by decide +kernel
theorem dX1_childrenAt_67 : decode cX1_childrenAt 67 = .ok (.getfield 9, 3) := by decide +kernel
theorem dX1_childrenAt_70 : decode cX1_childrenAt 70 = .ok (.getfield 49, 3) := by decide +kernel
theorem dX1_childrenAt_73 : decode cX1_childrenAt 73 = .ok (.iload_n 1, 1) := by decide +kernel
theorem dX1_childrenAt_74 : decode cX1_childrenAt 74 = .ok (.invokestatic 35, 3) := by decide +kernel
theorem dX1_childrenAt_77 : decode cX1_childrenAt 77 = .ok (.invokevirtual 52, 3) := by decide +kernel
theorem dX1_childrenAt_80 : decode cX1_childrenAt 80 = .ok (.ifCond .eq 6, 3) := by decide +kernel
theorem dX1_childrenAt_83 : decode cX1_childrenAt 83 = .ok (.iinc 3 1, 3) := by decide +kernel
theorem dX1_childrenAt_86 : decode cX1_childrenAt 86 = .ok (.iinc 4 1, 3) := by decide +kernel
theorem dX1_childrenAt_89 : decode cX1_childrenAt 89 = .ok (.goto (-84), 3) := by decide +kernel
theorem dX1_childrenAt_92 : decode cX1_childrenAt 92 = .ok (.iload_n 3, 1) := by decide +kernel
theorem dX1_childrenAt_93 : decode cX1_childrenAt 93 = .ok (.ireturn, 1) := by decide +kernel
set_option maxRecDepth 100000 in
set_option maxHeartbeats 4000000 in
theorem w1_childrenAt_b5_ok {G : GT} {P : Int32 → Mem → Prop} {X : String → Mem → Prop} (C : PCx G cX1_childrenAt 5 RX1) (hRt : PRt G (some .int) (qI P) X) (hHR : HR G (2)) (hnT : NoT G) {μ : Mem} {l1 : Int32} {l2 : Int32} {l3 : Int32} {l4 : Int32} (hk : w1_childrenAt_b5 P μ l1 l2 l3 l4) : PW G 0 0 5 [some (pR 34 0), some (pI l1), some (pI l2), some (pI l3), some (pI l4)] [] μ := by
  refine hk (fun (μ : Mem) (l1 : Int32) (l2 : Int32) (l3 : Int32) (l4 : Int32) => PW G 0 0 5 [some (pR 34 0), some (pI l1), some (pI l2), some (pI l3), some (pI l4)] [] μ) (fun (μ : Mem) l1 l2 l3 l4 hk => ?_)
  have hR5 : ∀ (μ : Mem) (l1 : Int32) (l2 : Int32) (l3 : Int32) (l4 : Int32), PW G 0 0 5 [some (pR 34 0), some (pI l1), some (pI l2), some (pI l3), some (pI l4)] [] μ → PW G 0 0 5 [some (pR 34 0), some (pI l1), some (pI l2), some (pI l3), some (pI l4)] [] μ := fun _ _ _ _ _ h => h
  unfold w1_childrenAt_b5_body at hk
  refine px_iload (i := 4) C dX1_childrenAt_5 rfl ?_
  refine px_aload_n (i := 0) C dX1_childrenAt_7 rfl rfl ?_
  refine px_getr C dX1_childrenAt_8 fl_RX1_9 rfl rfl rfl ?_
  refine px_geti 1 C dX1_childrenAt_11 fl_RX1_39 rfl rfl rfl rfl ?_
  refine px_icmp_ge (tgt := 92) C dX1_childrenAt_14 (by decide) (fun c10 => ?_) (fun c10 => ?_)
  · replace hk := hk.1 c10
    refine px_iload_n (i := 3) C dX1_childrenAt_92 rfl rfl ?_
    exact px_iret C hRt dX1_childrenAt_93 rfl rfl hk
  · replace hk := hk.2 c10
    refine px_aload_n (i := 0) C dX1_childrenAt_17 rfl rfl ?_
    refine px_getr C dX1_childrenAt_18 fl_RX1_15 rfl rfl rfl ?_
    refine px_getr C dX1_childrenAt_21 fl_RX1_29 rfl rfl rfl ?_
    refine px_iload (i := 4) C dX1_childrenAt_24 rfl ?_
    obtain ⟨o1, hk⟩ := hk
    refine px_callSNi (h := 0) (rc' := 0) (rs' := 0) C (HR_le hHR (Nat.le_of_ble_eq_true rfl)) hRt hnT dX1_childrenAt_26 (List.mem_append_right _ (List.mem_append_left _ (List.mem_of_getElem? (i := 20) rfl))) ms_X8_at (at_ok (j := 19) (q := 0) (n := 40) (loc := 1216) (PCx_l C) (PCx_I C) rfl rfl rfl o1) rfl rfl (Nat.le_of_ble_eq_true rfl) (Nat.le_of_ble_eq_true rfl) (Nat.le_of_ble_eq_true rfl) (Nat.le_of_ble_eq_true rfl) ?_
    rintro _ _ ⟨rfl, rfl⟩
    refine px_iload_n (i := 2) C dX1_childrenAt_29 rfl rfl ?_
    refine px_icmp_gt (tgt := 86) C dX1_childrenAt_30 (by decide) (fun c9 => ?_) (fun c9 => ?_)
    · replace hk := hk.1 c9
      refine px_iinc (i := 4) (v := (1 : Int32)) C dX1_childrenAt_86 rfl rfl (by decide) rfl ?_
      refine px_goto (tgt := 5) C dX1_childrenAt_89 (by decide) ?_
      exact PW_at (hR5 _ _ _ _ _ hk) (And.intro rfl (And.intro rfl (And.intro rfl (And.intro rfl (And.intro rfl trivial))))) (Nat.le_of_ble_eq_true rfl) (Nat.le_of_ble_eq_true rfl)
    · replace hk := hk.2 c9
      refine px_iload_n (i := 2) C dX1_childrenAt_33 rfl rfl ?_
      refine px_aload_n (i := 0) C dX1_childrenAt_34 rfl rfl ?_
      refine px_getr C dX1_childrenAt_35 fl_RX1_15 rfl rfl rfl ?_
      refine px_getr C dX1_childrenAt_38 fl_RX1_62 rfl rfl rfl ?_
      refine px_iload (i := 4) C dX1_childrenAt_41 rfl ?_
      obtain ⟨o2, hk⟩ := hk
      refine px_callSNi (h := 0) (rc' := 0) (rs' := 0) C (HR_le hHR (Nat.le_of_ble_eq_true rfl)) hRt hnT dX1_childrenAt_43 (List.mem_append_right _ (List.mem_append_left _ (List.mem_of_getElem? (i := 20) rfl))) ms_X8_at (at_ok (j := 20) (q := 0) (n := 40) (loc := 1280) (PCx_l C) (PCx_I C) rfl rfl rfl o2) rfl rfl (Nat.le_of_ble_eq_true rfl) (Nat.le_of_ble_eq_true rfl) (Nat.le_of_ble_eq_true rfl) (Nat.le_of_ble_eq_true rfl) ?_
      rintro _ _ ⟨rfl, rfl⟩
      refine px_icmp_ge (tgt := 86) C dX1_childrenAt_46 (by decide) (fun c8 => ?_) (fun c8 => ?_)
      · replace hk := hk.1 c8
        refine px_iinc (i := 4) (v := (1 : Int32)) C dX1_childrenAt_86 rfl rfl (by decide) rfl ?_
        refine px_goto (tgt := 5) C dX1_childrenAt_89 (by decide) ?_
        exact PW_at (hR5 _ _ _ _ _ hk) (And.intro rfl (And.intro rfl (And.intro rfl (And.intro rfl (And.intro rfl trivial))))) (Nat.le_of_ble_eq_true rfl) (Nat.le_of_ble_eq_true rfl)
      · replace hk := hk.2 c8
        refine px_aload_n (i := 0) C dX1_childrenAt_49 rfl rfl ?_
        refine px_getr C dX1_childrenAt_50 fl_RX1_15 rfl rfl rfl ?_
        refine px_iload (i := 4) C dX1_childrenAt_53 rfl ?_
        refine px_aload_n (i := 0) C dX1_childrenAt_55 rfl rfl ?_
        refine px_getr C dX1_childrenAt_56 fl_RX1_9 rfl rfl rfl ?_
        refine px_getr C dX1_childrenAt_59 fl_RX1_46 rfl rfl rfl ?_
        refine px_iload_n (i := 1) C dX1_childrenAt_62 rfl rfl ?_
        obtain ⟨o3, hk⟩ := hk
        refine px_callSNi (h := 0) (rc' := 0) (rs' := 0) C (HR_le hHR (Nat.le_of_ble_eq_true rfl)) hRt hnT dX1_childrenAt_63 (List.mem_append_right _ (List.mem_append_left _ (List.mem_of_getElem? (i := 20) rfl))) ms_X8_at (at_ok (j := 1) (q := 0) (n := 40) (loc := 64) (PCx_l C) (PCx_I C) rfl rfl rfl o3) rfl rfl (Nat.le_of_ble_eq_true rfl) (Nat.le_of_ble_eq_true rfl) (Nat.le_of_ble_eq_true rfl) (Nat.le_of_ble_eq_true rfl) ?_
        rintro _ _ ⟨rfl, rfl⟩
        refine px_aload_n (i := 0) C dX1_childrenAt_66 rfl rfl ?_
        refine px_getr C dX1_childrenAt_67 fl_RX1_9 rfl rfl rfl ?_
        refine px_getr C dX1_childrenAt_70 fl_RX1_49 rfl rfl rfl ?_
        refine px_iload_n (i := 1) C dX1_childrenAt_73 rfl rfl ?_
        obtain ⟨o4, hk⟩ := hk
        refine px_callSNi (h := 0) (rc' := 0) (rs' := 0) C (HR_le hHR (Nat.le_of_ble_eq_true rfl)) hRt hnT dX1_childrenAt_74 (List.mem_append_right _ (List.mem_append_left _ (List.mem_of_getElem? (i := 20) rfl))) ms_X8_at (at_ok (j := 2) (q := 0) (n := 40) (loc := 128) (PCx_l C) (PCx_I C) rfl rfl rfl o4) rfl rfl (Nat.le_of_ble_eq_true rfl) (Nat.le_of_ble_eq_true rfl) (Nat.le_of_ble_eq_true rfl) (Nat.le_of_ble_eq_true rfl) ?_
        rintro _ _ ⟨rfl, rfl⟩
        refine px_callVi (h := 1) (rc' := 0) (rs' := 0) C (HR_le hHR (Nat.le_of_ble_eq_true rfl)) hRt hnT dX1_childrenAt_77 (gw5 80 rfl rfl) mv_X2_isChild (w2_isChild_ok (PCx_l C) (PCx_I C) hk) rfl rfl rfl rfl rfl (Nat.le_of_ble_eq_true rfl) (Nat.le_of_ble_eq_true rfl) (Nat.le_of_ble_eq_true rfl) (Nat.le_of_ble_eq_true rfl) ?_
        intro r6 μ5 hk
        refine px_if_eq (tgt := 86) C dX1_childrenAt_80 (by decide) (fun c7 => ?_) (fun c7 => ?_)
        · replace hk := hk.1 c7
          refine px_iinc (i := 4) (v := (1 : Int32)) C dX1_childrenAt_86 rfl rfl (by decide) rfl ?_
          refine px_goto (tgt := 5) C dX1_childrenAt_89 (by decide) ?_
          exact PW_at (hR5 _ _ _ _ _ hk) (And.intro rfl (And.intro rfl (And.intro rfl (And.intro rfl (And.intro rfl trivial))))) (Nat.le_of_ble_eq_true rfl) (Nat.le_of_ble_eq_true rfl)
        · replace hk := hk.2 c7
          refine px_iinc (i := 3) (v := (1 : Int32)) C dX1_childrenAt_83 rfl rfl (by decide) rfl ?_
          refine px_iinc (i := 4) (v := (1 : Int32)) C dX1_childrenAt_86 rfl rfl (by decide) rfl ?_
          refine px_goto (tgt := 5) C dX1_childrenAt_89 (by decide) ?_
          exact PW_at (hR5 _ _ _ _ _ hk) (And.intro rfl (And.intro rfl (And.intro rfl (And.intro rfl (And.intro rfl trivial))))) (Nat.le_of_ble_eq_true rfl) (Nat.le_of_ble_eq_true rfl)
set_option maxRecDepth 100000 in
set_option maxHeartbeats 4000000 in
theorem w1_childrenAt_ok {l : Launch} {idx : List (Nat × Nat)} {μ : Mem} {a1 : Int32} {a2 : Int32} {P : Int32 → Mem → Prop} {X : String → Mem → Prop} (hl : l.stackTraces = false) (hI : IdxOK idx) (hk : w1_childrenAt_wp μ a1 a2 P) : PMet l yX1_childrenAt (.code yX1_childrenAt cX1_childrenAt 5 (some .int)) 2 0 0 idx [pR 34 0, pI a1, pI a2] μ (qI P) X := by
  refine PMet_of mv_X1_childrenAt.2.2.2.2.2.2 hl hI mv_X1_childrenAt.2.2.2.1 rfl (Nat.le_of_ble_eq_true rfl) (fun G _ _ C hRt hHR hnT => ?_)
  show PW G 0 0 0 [some (pR 34 0), some (pI a1), some (pI a2), none, none] [] μ
  unfold w1_childrenAt_wp at hk
  refine px_iconst (v := (0 : Int32)) C dX1_childrenAt_0 rfl ?_
  refine px_istore_n (i := 3) C dX1_childrenAt_1 rfl (by decide) rfl ?_
  refine px_iconst (v := (0 : Int32)) C dX1_childrenAt_2 rfl ?_
  refine px_istore (i := 4) C dX1_childrenAt_3 (by decide) rfl ?_
  exact PW_at (w1_childrenAt_b5_ok C hRt hHR hnT hk) (And.intro rfl (And.intro rfl (And.intro rfl (And.intro rfl (And.intro rfl trivial))))) (Nat.le_of_ble_eq_true rfl) (Nat.le_of_ble_eq_true rfl)
theorem dX1_numberOf_0 : decode cX1_numberOf 0 = .ok (.iload_n 2, 1) := by decide +kernel
theorem dX1_numberOf_1 : decode cX1_numberOf 1 = .ok (.tableswitch 68 0 3 #[31, 33, 53, 62], 31) := by decide +kernel
theorem dX1_numberOf_32 : decode cX1_numberOf 32 = .ok (.iconst 1, 1) := by decide +kernel
theorem dX1_numberOf_33 : decode cX1_numberOf 33 = .ok (.ireturn, 1) := by decide +kernel
theorem dX1_numberOf_34 : decode cX1_numberOf 34 = .ok (.aload_n 0, 1) := by decide +kernel
theorem dX1_numberOf_35 : decode cX1_numberOf 35 = .ok (.getfield 9, 3) := by decide +kernel
theorem dX1_numberOf_38 : decode cX1_numberOf 38 = .ok (.getfield 68, 3) := by decide +kernel
theorem dX1_numberOf_41 : decode cX1_numberOf 41 = .ok (.iload_n 1, 1) := by decide +kernel
theorem dX1_numberOf_42 : decode cX1_numberOf 42 = .ok (.invokestatic 72, 3) := by decide +kernel
theorem dX1_numberOf_45 : decode cX1_numberOf 45 = .ok (.ifCond .eq 7, 3) := by decide +kernel
theorem dX1_numberOf_48 : decode cX1_numberOf 48 = .ok (.iconst 1, 1) := by decide +kernel
theorem dX1_numberOf_49 : decode cX1_numberOf 49 = .ok (.goto 4, 3) := by decide +kernel
theorem dX1_numberOf_52 : decode cX1_numberOf 52 = .ok (.iconst 0, 1) := by decide +kernel
theorem dX1_numberOf_53 : decode cX1_numberOf 53 = .ok (.ireturn, 1) := by decide +kernel
theorem dX1_numberOf_54 : decode cX1_numberOf 54 = .ok (.aload_n 0, 1) := by decide +kernel
theorem dX1_numberOf_55 : decode cX1_numberOf 55 = .ok (.getfield 9, 3) := by decide +kernel
theorem dX1_numberOf_58 : decode cX1_numberOf 58 = .ok (.iload_n 1, 1) := by decide +kernel
theorem dX1_numberOf_59 : decode cX1_numberOf 59 = .ok (.invokevirtual 23, 3) := by decide +kernel
theorem dX1_numberOf_62 : decode cX1_numberOf 62 = .ok (.ireturn, 1) := by decide +kernel
theorem dX1_numberOf_63 : decode cX1_numberOf 63 = .ok (.aload_n 0, 1) := by decide +kernel
theorem dX1_numberOf_64 : decode cX1_numberOf 64 = .ok (.iload_n 1, 1) := by decide +kernel
theorem dX1_numberOf_65 : decode cX1_numberOf 65 = .ok (.invokevirtual 89, 3) := by decide +kernel
theorem dX1_numberOf_68 : decode cX1_numberOf 68 = .ok (.ireturn, 1) := by decide +kernel
theorem dX1_numberOf_69 : decode cX1_numberOf 69 = .ok (.iconst 0, 1) := by decide +kernel
theorem dX1_numberOf_70 : decode cX1_numberOf 70 = .ok (.ireturn, 1) := by decide +kernel
set_option maxRecDepth 100000 in
set_option maxHeartbeats 4000000 in
theorem w1_numberOf_ok {l : Launch} {idx : List (Nat × Nat)} {μ : Mem} {a1 : Int32} {a2 : Int32} {P : Int32 → Mem → Prop} {X : String → Mem → Prop} (hl : l.stackTraces = false) (hI : IdxOK idx) (hk : w1_numberOf_wp μ a1 a2 P) : PMet l yX1_numberOf (.code yX1_numberOf cX1_numberOf 3 (some .int)) 3 0 0 idx [pR 34 0, pI a1, pI a2] μ (qI P) X := by
  refine PMet_of mv_X1_numberOf.2.2.2.2.2.2 hl hI mv_X1_numberOf.2.2.2.1 rfl (Nat.le_of_ble_eq_true rfl) (fun G _ _ C hRt hHR hnT => ?_)
  show PW G 0 0 0 [some (pR 34 0), some (pI a1), some (pI a2)] [] μ
  unfold w1_numberOf_wp at hk
  refine px_iload_n (i := 2) C dX1_numberOf_0 rfl rfl ?_
  by_cases c7_0 : a2 = (0 : Int32)
  · replace hk := hk.1 c7_0
    refine px_tsw (tgt := 32) C dX1_numberOf_1 c7_0 (by decide) (by decide) rfl (by decide) ?_
    refine px_iconst (v := (1 : Int32)) C dX1_numberOf_32 rfl ?_
    exact px_iret C hRt dX1_numberOf_33 rfl rfl hk
  · skip
    by_cases c7_1 : a2 = (1 : Int32)
    · replace hk := hk.2.1 c7_1
      refine px_tsw (tgt := 34) C dX1_numberOf_1 c7_1 (by decide) (by decide) rfl (by decide) ?_
      refine px_aload_n (i := 0) C dX1_numberOf_34 rfl rfl ?_
      refine px_getr C dX1_numberOf_35 fl_RX1_9 rfl rfl rfl ?_
      refine px_getr C dX1_numberOf_38 fl_RX1_68 rfl rfl rfl ?_
      refine px_iload_n (i := 1) C dX1_numberOf_41 rfl rfl ?_
      obtain ⟨o1, hk⟩ := hk
      refine px_callSNi (h := 0) (rc' := 0) (rs' := 0) C (HR_le hHR (Nat.le_of_ble_eq_true rfl)) hRt hnT dX1_numberOf_42 (List.mem_append_right _ (List.mem_append_left _ (List.mem_of_getElem? (i := 21) rfl))) ms_X8_flagAt (flagAt_ok (j := 7) (q := 0) (n := 40) (loc := 448) (PCx_l C) (PCx_I C) rfl rfl rfl o1) rfl rfl (Nat.le_of_ble_eq_true rfl) (Nat.le_of_ble_eq_true rfl) (Nat.le_of_ble_eq_true rfl) (Nat.le_of_ble_eq_true rfl) ?_
      rintro _ _ ⟨rfl, rfl⟩
      refine px_if_eq (tgt := 52) C dX1_numberOf_45 (by decide) (fun c2 => ?_) (fun c2 => ?_)
      · replace hk := hk.1 (fz_1 c2)
        refine px_iconst (v := (0 : Int32)) C dX1_numberOf_52 rfl ?_
        exact px_iret C hRt dX1_numberOf_53 rfl rfl hk
      · replace hk := hk.2 (fz_2 c2)
        refine px_iconst (v := (1 : Int32)) C dX1_numberOf_48 rfl ?_
        refine px_goto (tgt := 53) C dX1_numberOf_49 (by decide) ?_
        exact px_iret C hRt dX1_numberOf_53 rfl rfl hk
    · skip
      by_cases c7_2 : a2 = (2 : Int32)
      · replace hk := hk.2.2.1 c7_2
        refine px_tsw (tgt := 54) C dX1_numberOf_1 c7_2 (by decide) (by decide) rfl (by decide) ?_
        refine px_aload_n (i := 0) C dX1_numberOf_54 rfl rfl ?_
        refine px_getr C dX1_numberOf_55 fl_RX1_9 rfl rfl rfl ?_
        refine px_iload_n (i := 1) C dX1_numberOf_58 rfl rfl ?_
        refine px_callVi (h := 1) (rc' := 0) (rs' := 0) C (HR_le hHR (Nat.le_of_ble_eq_true rfl)) hRt hnT dX1_numberOf_59 (gw5 78 rfl rfl) mv_X7_duration (w7_duration_ok (PCx_l C) (PCx_I C) hk) rfl rfl rfl rfl rfl (Nat.le_of_ble_eq_true rfl) (Nat.le_of_ble_eq_true rfl) (Nat.le_of_ble_eq_true rfl) (Nat.le_of_ble_eq_true rfl) ?_
        intro r4 μ3 hk
        exact px_iret C hRt dX1_numberOf_62 rfl rfl hk
      · skip
        by_cases c7_3 : a2 = (3 : Int32)
        · replace hk := hk.2.2.2.1 c7_3
          refine px_tsw (tgt := 63) C dX1_numberOf_1 c7_3 (by decide) (by decide) rfl (by decide) ?_
          refine px_aload_n (i := 0) C dX1_numberOf_63 rfl rfl ?_
          refine px_iload_n (i := 1) C dX1_numberOf_64 rfl rfl ?_
          refine px_callVi (h := 2) (rc' := 0) (rs' := 0) C (HR_le hHR (Nat.le_of_ble_eq_true rfl)) hRt hnT dX1_numberOf_65 (gw5 181 rfl rfl) mv_X1_ownUnits (w1_ownUnits_ok (PCx_l C) (PCx_I C) hk) rfl rfl rfl rfl rfl (Nat.le_of_ble_eq_true rfl) (Nat.le_of_ble_eq_true rfl) (Nat.le_of_ble_eq_true rfl) (Nat.le_of_ble_eq_true rfl) ?_
          intro r6 μ5 hk
          exact px_iret C hRt dX1_numberOf_68 rfl rfl hk
        · skip
          have c7_d : (a2 < (0 : Int32) ∨ (3 : Int32) < a2) := tsw_out4 c7_0 c7_1 c7_2 c7_3
          replace hk := hk.2.2.2.2 c7_d
          refine px_tswo (tgt := 69) C dX1_numberOf_1 (by decide) (by decide) c7_d (by decide) ?_
          refine px_iconst (v := (0 : Int32)) C dX1_numberOf_69 rfl ?_
          exact px_iret C hRt dX1_numberOf_70 rfl rfl hk
theorem dX1_longestDuration_0 : decode cX1_longestDuration 0 = .ok (.iconst 0, 1) := by decide +kernel
theorem dX1_longestDuration_1 : decode cX1_longestDuration 1 = .ok (.istore_n 2, 1) := by decide +kernel
theorem dX1_longestDuration_2 : decode cX1_longestDuration 2 = .ok (.iconst 0, 1) := by decide +kernel
theorem dX1_longestDuration_3 : decode cX1_longestDuration 3 = .ok (.istore_n 3, 1) := by decide +kernel
theorem dX1_longestDuration_4 : decode cX1_longestDuration 4 = .ok (.iload_n 3, 1) := by decide +kernel
theorem dX1_longestDuration_5 : decode cX1_longestDuration 5 = .ok (.aload_n 0, 1) := by decide +kernel
theorem dX1_longestDuration_6 : decode cX1_longestDuration 6 = .ok (.getfield 9, 3) := by decide +kernel
theorem dX1_longestDuration_9 : decode cX1_longestDuration 9 = .ok (.getfield 39, 3) := by decide +kernel
theorem dX1_longestDuration_12 : decode cX1_longestDuration 12 = .ok (.if_icmp .ge 37, 3) := by decide +kernel
theorem dX1_longestDuration_15 : decode cX1_longestDuration 15 = .ok (.aload_n 0, 1) := by decide +kernel
theorem dX1_longestDuration_16 : decode cX1_longestDuration 16 = .ok (.getfield 9, 3) := by decide +kernel
theorem dX1_longestDuration_19 : decode cX1_longestDuration 19 = .ok (.getfield 83, 3) := by decide +kernel
theorem dX1_longestDuration_22 : decode cX1_longestDuration 22 = .ok (.iload_n 3, 1) := by decide +kernel
theorem dX1_longestDuration_23 : decode cX1_longestDuration 23 = .ok (.invokestatic 35, 3) := by decide +kernel
theorem dX1_longestDuration_26 : decode cX1_longestDuration 26 = .ok (.iload_n 1, 1) := by decide +kernel
theorem dX1_longestDuration_27 : decode cX1_longestDuration 27 = .ok (.if_icmp .ne 16, 3) := by decide +kernel
theorem dX1_longestDuration_30 : decode cX1_longestDuration 30 = .ok (.iload_n 2, 1) := by decide +kernel
theorem dX1_longestDuration_31 : decode cX1_longestDuration 31 = .ok (.aload_n 0, 1) := by decide +kernel
theorem dX1_longestDuration_32 : decode cX1_longestDuration 32 = .ok (.getfield 9, 3) := by decide +kernel
theorem dX1_longestDuration_35 : decode cX1_longestDuration 35 = .ok (.iload_n 3, 1) := by decide +kernel
theorem dX1_longestDuration_36 : decode cX1_longestDuration 36 = .ok (.invokevirtual 23, 3) := by decide +kernel
theorem dX1_longestDuration_39 : decode cX1_longestDuration 39 = .ok (.invokestatic 56, 3) := by decide +kernel
theorem dX1_longestDuration_42 : decode cX1_longestDuration 42 = .ok (.istore_n 2, 1) := by decide +kernel
theorem dX1_longestDuration_43 : decode cX1_longestDuration 43 = .ok (.iinc 3 1, 3) := by decide +kernel
theorem dX1_longestDuration_46 : decode cX1_longestDuration 46 = .ok (.goto (-42), 3) := by decide +kernel
theorem dX1_longestDuration_49 : decode cX1_longestDuration 49 = .ok (.iload_n 2, 1) := by decide +kernel
theorem dX1_longestDuration_50 : decode cX1_longestDuration 50 = .ok (.ireturn, 1) := by decide +kernel
set_option maxRecDepth 100000 in
set_option maxHeartbeats 4000000 in
theorem w1_longestDuration_b4_ok {G : GT} {P : Int32 → Mem → Prop} {X : String → Mem → Prop} (C : PCx G cX1_longestDuration 4 RX1) (hRt : PRt G (some .int) (qI P) X) (hHR : HR G (2)) (hnT : NoT G) {μ : Mem} {l1 : Int32} {l2 : Int32} {l3 : Int32} (hk : w1_longestDuration_b4 P μ l1 l2 l3) : PW G 0 0 4 [some (pR 34 0), some (pI l1), some (pI l2), some (pI l3)] [] μ := by
  refine hk (fun (μ : Mem) (l1 : Int32) (l2 : Int32) (l3 : Int32) => PW G 0 0 4 [some (pR 34 0), some (pI l1), some (pI l2), some (pI l3)] [] μ) (fun (μ : Mem) l1 l2 l3 hk => ?_)
  have hR4 : ∀ (μ : Mem) (l1 : Int32) (l2 : Int32) (l3 : Int32), PW G 0 0 4 [some (pR 34 0), some (pI l1), some (pI l2), some (pI l3)] [] μ → PW G 0 0 4 [some (pR 34 0), some (pI l1), some (pI l2), some (pI l3)] [] μ := fun _ _ _ _ h => h
  unfold w1_longestDuration_b4_body at hk
  refine px_iload_n (i := 3) C dX1_longestDuration_4 rfl rfl ?_
  refine px_aload_n (i := 0) C dX1_longestDuration_5 rfl rfl ?_
  refine px_getr C dX1_longestDuration_6 fl_RX1_9 rfl rfl rfl ?_
  refine px_geti 1 C dX1_longestDuration_9 fl_RX1_39 rfl rfl rfl rfl ?_
  refine px_icmp_ge (tgt := 49) C dX1_longestDuration_12 (by decide) (fun c5 => ?_) (fun c5 => ?_)
  · replace hk := hk.1 c5
    refine px_iload_n (i := 2) C dX1_longestDuration_49 rfl rfl ?_
    exact px_iret C hRt dX1_longestDuration_50 rfl rfl hk
  · replace hk := hk.2 c5
    refine px_aload_n (i := 0) C dX1_longestDuration_15 rfl rfl ?_
    refine px_getr C dX1_longestDuration_16 fl_RX1_9 rfl rfl rfl ?_
    refine px_getr C dX1_longestDuration_19 fl_RX1_83 rfl rfl rfl ?_
    refine px_iload_n (i := 3) C dX1_longestDuration_22 rfl rfl ?_
    obtain ⟨o1, hk⟩ := hk
    refine px_callSNi (h := 0) (rc' := 0) (rs' := 0) C (HR_le hHR (Nat.le_of_ble_eq_true rfl)) hRt hnT dX1_longestDuration_23 (List.mem_append_right _ (List.mem_append_left _ (List.mem_of_getElem? (i := 20) rfl))) ms_X8_at (at_ok (j := 4) (q := 0) (n := 40) (loc := 256) (PCx_l C) (PCx_I C) rfl rfl rfl o1) rfl rfl (Nat.le_of_ble_eq_true rfl) (Nat.le_of_ble_eq_true rfl) (Nat.le_of_ble_eq_true rfl) (Nat.le_of_ble_eq_true rfl) ?_
    rintro _ _ ⟨rfl, rfl⟩
    refine px_iload_n (i := 1) C dX1_longestDuration_26 rfl rfl ?_
    refine px_icmp_ne (tgt := 43) C dX1_longestDuration_27 (by decide) (fun c4 => ?_) (fun c4 => ?_)
    · replace hk := hk.1 c4
      refine px_iinc (i := 3) (v := (1 : Int32)) C dX1_longestDuration_43 rfl rfl (by decide) rfl ?_
      refine px_goto (tgt := 4) C dX1_longestDuration_46 (by decide) ?_
      exact PW_at (hR4 _ _ _ _ hk) (And.intro rfl (And.intro rfl (And.intro rfl (And.intro rfl trivial)))) (Nat.le_of_ble_eq_true rfl) (Nat.le_of_ble_eq_true rfl)
    · replace hk := hk.2 c4
      refine px_iload_n (i := 2) C dX1_longestDuration_30 rfl rfl ?_
      refine px_aload_n (i := 0) C dX1_longestDuration_31 rfl rfl ?_
      refine px_getr C dX1_longestDuration_32 fl_RX1_9 rfl rfl rfl ?_
      refine px_iload_n (i := 3) C dX1_longestDuration_35 rfl rfl ?_
      refine px_callVi (h := 1) (rc' := 0) (rs' := 0) C (HR_le hHR (Nat.le_of_ble_eq_true rfl)) hRt hnT dX1_longestDuration_36 (gw5 78 rfl rfl) mv_X7_duration (w7_duration_ok (PCx_l C) (PCx_I C) hk) rfl rfl rfl rfl rfl (Nat.le_of_ble_eq_true rfl) (Nat.le_of_ble_eq_true rfl) (Nat.le_of_ble_eq_true rfl) (Nat.le_of_ble_eq_true rfl) ?_
      intro r3 μ2 hk
      refine px_mmax C (HR_le hHR (Nat.le_of_ble_eq_true rfl)) dX1_longestDuration_39 (gw5 81 rfl rfl) math_max (Nat.le_of_ble_eq_true rfl) ?_
      refine px_istore_n (i := 2) C dX1_longestDuration_42 rfl (by decide) rfl ?_
      refine px_iinc (i := 3) (v := (1 : Int32)) C dX1_longestDuration_43 rfl rfl (by decide) rfl ?_
      refine px_goto (tgt := 4) C dX1_longestDuration_46 (by decide) ?_
      exact PW_at (hR4 _ _ _ _ hk) (And.intro rfl (And.intro rfl (And.intro rfl (And.intro rfl trivial)))) (Nat.le_of_ble_eq_true rfl) (Nat.le_of_ble_eq_true rfl)
set_option maxRecDepth 100000 in
set_option maxHeartbeats 4000000 in
theorem w1_longestDuration_ok {l : Launch} {idx : List (Nat × Nat)} {μ : Mem} {a1 : Int32} {P : Int32 → Mem → Prop} {X : String → Mem → Prop} (hl : l.stackTraces = false) (hI : IdxOK idx) (hk : w1_longestDuration_wp μ a1 P) : PMet l yX1_longestDuration (.code yX1_longestDuration cX1_longestDuration 4 (some .int)) 2 0 0 idx [pR 34 0, pI a1] μ (qI P) X := by
  refine PMet_of mv_X1_longestDuration.2.2.2.2.2.2 hl hI mv_X1_longestDuration.2.2.2.1 rfl (Nat.le_of_ble_eq_true rfl) (fun G _ _ C hRt hHR hnT => ?_)
  show PW G 0 0 0 [some (pR 34 0), some (pI a1), none, none] [] μ
  unfold w1_longestDuration_wp at hk
  refine px_iconst (v := (0 : Int32)) C dX1_longestDuration_0 rfl ?_
  refine px_istore_n (i := 2) C dX1_longestDuration_1 rfl (by decide) rfl ?_
  refine px_iconst (v := (0 : Int32)) C dX1_longestDuration_2 rfl ?_
  refine px_istore_n (i := 3) C dX1_longestDuration_3 rfl (by decide) rfl ?_
  exact PW_at (w1_longestDuration_b4_ok C hRt hHR hnT hk) (And.intro rfl (And.intro rfl (And.intro rfl (And.intro rfl trivial)))) (Nat.le_of_ble_eq_true rfl) (Nat.le_of_ble_eq_true rfl)
theorem dX1_countUpTo_0 : decode cX1_countUpTo 0 = .ok (.iconst 0, 1) := by decide +kernel
theorem dX1_countUpTo_1 : decode cX1_countUpTo 1 = .ok (.istore_n 3, 1) := by decide +kernel
theorem dX1_countUpTo_2 : decode cX1_countUpTo 2 = .ok (.iconst 0, 1) := by decide +kernel
theorem dX1_countUpTo_3 : decode cX1_countUpTo 3 = .ok (.istore 4, 2) := by decide +kernel
theorem dX1_countUpTo_5 : decode cX1_countUpTo 5 = .ok (.iload 4, 2) := by decide +kernel
theorem dX1_countUpTo_7 : decode cX1_countUpTo 7 = .ok (.aload_n 0, 1) := by decide +kernel
theorem dX1_countUpTo_8 : decode cX1_countUpTo 8 = .ok (.getfield 9, 3) := by decide +kernel
theorem dX1_countUpTo_11 : decode cX1_countUpTo 11 = .ok (.getfield 39, 3) := by decide +kernel
theorem dX1_countUpTo_14 : decode cX1_countUpTo 14 = .ok (.if_icmp .ge 41, 3) := by decide +kernel
theorem dX1_countUpTo_17 : decode cX1_countUpTo 17 = .ok (.aload_n 0, 1) := by decide +kernel
theorem dX1_countUpTo_18 : decode cX1_countUpTo 18 = .ok (.getfield 9, 3) := by decide +kernel
theorem dX1_countUpTo_21 : decode cX1_countUpTo 21 = .ok (.getfield 83, 3) := by decide +kernel
theorem dX1_countUpTo_24 : decode cX1_countUpTo 24 = .ok (.iload 4, 2) := by decide +kernel
theorem dX1_countUpTo_26 : decode cX1_countUpTo 26 = .ok (.invokestatic 35, 3) := by decide +kernel
theorem dX1_countUpTo_29 : decode cX1_countUpTo 29 = .ok (.iload_n 1, 1) := by decide +kernel
theorem dX1_countUpTo_30 : decode cX1_countUpTo 30 = .ok (.if_icmp .ne 19, 3) := by decide +kernel
theorem dX1_countUpTo_33 : decode cX1_countUpTo 33 = .ok (.aload_n 0, 1) := by decide +kernel
theorem dX1_countUpTo_34 : decode cX1_countUpTo 34 = .ok (.getfield 9, 3) := by decide +kernel
theorem dX1_countUpTo_37 : decode cX1_countUpTo 37 = .ok (.iload 4, 2) := by decide +kernel
theorem dX1_countUpTo_39 : decode cX1_countUpTo 39 = .ok (.invokevirtual 23, 3) := by decide +kernel
theorem dX1_countUpTo_42 : decode cX1_countUpTo 42 = .ok (.iload_n 2, 1) := by decide +kernel
theorem dX1_countUpTo_43 : decode cX1_countUpTo 43 = .ok (.if_icmp .gt 6, 3) := by decide +kernel
theorem dX1_countUpTo_46 : decode cX1_countUpTo 46 = .ok (.iinc 3 1, 3) := by decide +kernel
theorem dX1_countUpTo_49 : decode cX1_countUpTo 49 = .ok (.iinc 4 1, 3) := by decide +kernel
theorem dX1_countUpTo_52 : decode cX1_countUpTo 52 = .ok (.goto (-47), 3) := by decide +kernel
theorem dX1_countUpTo_55 : decode cX1_countUpTo 55 = .ok (.iload_n 3, 1) := by decide +kernel
theorem dX1_countUpTo_56 : decode cX1_countUpTo 56 = .ok (.ireturn, 1) := by decide +kernel
set_option maxRecDepth 100000 in
set_option maxHeartbeats 4000000 in
theorem w1_countUpTo_b5_ok {G : GT} {P : Int32 → Mem → Prop} {X : String → Mem → Prop} (C : PCx G cX1_countUpTo 5 RX1) (hRt : PRt G (some .int) (qI P) X) (hHR : HR G (2)) (hnT : NoT G) {μ : Mem} {l1 : Int32} {l2 : Int32} {l3 : Int32} {l4 : Int32} (hk : w1_countUpTo_b5 P μ l1 l2 l3 l4) : PW G 0 0 5 [some (pR 34 0), some (pI l1), some (pI l2), some (pI l3), some (pI l4)] [] μ := by
  refine hk (fun (μ : Mem) (l1 : Int32) (l2 : Int32) (l3 : Int32) (l4 : Int32) => PW G 0 0 5 [some (pR 34 0), some (pI l1), some (pI l2), some (pI l3), some (pI l4)] [] μ) (fun (μ : Mem) l1 l2 l3 l4 hk => ?_)
  have hR5 : ∀ (μ : Mem) (l1 : Int32) (l2 : Int32) (l3 : Int32) (l4 : Int32), PW G 0 0 5 [some (pR 34 0), some (pI l1), some (pI l2), some (pI l3), some (pI l4)] [] μ → PW G 0 0 5 [some (pR 34 0), some (pI l1), some (pI l2), some (pI l3), some (pI l4)] [] μ := fun _ _ _ _ _ h => h
  unfold w1_countUpTo_b5_body at hk
  refine px_iload (i := 4) C dX1_countUpTo_5 rfl ?_
  refine px_aload_n (i := 0) C dX1_countUpTo_7 rfl rfl ?_
  refine px_getr C dX1_countUpTo_8 fl_RX1_9 rfl rfl rfl ?_
  refine px_geti 1 C dX1_countUpTo_11 fl_RX1_39 rfl rfl rfl rfl ?_
  refine px_icmp_ge (tgt := 55) C dX1_countUpTo_14 (by decide) (fun c6 => ?_) (fun c6 => ?_)
  · replace hk := hk.1 c6
    refine px_iload_n (i := 3) C dX1_countUpTo_55 rfl rfl ?_
    exact px_iret C hRt dX1_countUpTo_56 rfl rfl hk
  · replace hk := hk.2 c6
    refine px_aload_n (i := 0) C dX1_countUpTo_17 rfl rfl ?_
    refine px_getr C dX1_countUpTo_18 fl_RX1_9 rfl rfl rfl ?_
    refine px_getr C dX1_countUpTo_21 fl_RX1_83 rfl rfl rfl ?_
    refine px_iload (i := 4) C dX1_countUpTo_24 rfl ?_
    obtain ⟨o1, hk⟩ := hk
    refine px_callSNi (h := 0) (rc' := 0) (rs' := 0) C (HR_le hHR (Nat.le_of_ble_eq_true rfl)) hRt hnT dX1_countUpTo_26 (List.mem_append_right _ (List.mem_append_left _ (List.mem_of_getElem? (i := 20) rfl))) ms_X8_at (at_ok (j := 4) (q := 0) (n := 40) (loc := 256) (PCx_l C) (PCx_I C) rfl rfl rfl o1) rfl rfl (Nat.le_of_ble_eq_true rfl) (Nat.le_of_ble_eq_true rfl) (Nat.le_of_ble_eq_true rfl) (Nat.le_of_ble_eq_true rfl) ?_
    rintro _ _ ⟨rfl, rfl⟩
    refine px_iload_n (i := 1) C dX1_countUpTo_29 rfl rfl ?_
    refine px_icmp_ne (tgt := 49) C dX1_countUpTo_30 (by decide) (fun c5 => ?_) (fun c5 => ?_)
    · replace hk := hk.1 c5
      refine px_iinc (i := 4) (v := (1 : Int32)) C dX1_countUpTo_49 rfl rfl (by decide) rfl ?_
      refine px_goto (tgt := 5) C dX1_countUpTo_52 (by decide) ?_
      exact PW_at (hR5 _ _ _ _ _ hk) (And.intro rfl (And.intro rfl (And.intro rfl (And.intro rfl (And.intro rfl trivial))))) (Nat.le_of_ble_eq_true rfl) (Nat.le_of_ble_eq_true rfl)
    · replace hk := hk.2 c5
      refine px_aload_n (i := 0) C dX1_countUpTo_33 rfl rfl ?_
      refine px_getr C dX1_countUpTo_34 fl_RX1_9 rfl rfl rfl ?_
      refine px_iload (i := 4) C dX1_countUpTo_37 rfl ?_
      refine px_callVi (h := 1) (rc' := 0) (rs' := 0) C (HR_le hHR (Nat.le_of_ble_eq_true rfl)) hRt hnT dX1_countUpTo_39 (gw5 78 rfl rfl) mv_X7_duration (w7_duration_ok (PCx_l C) (PCx_I C) hk) rfl rfl rfl rfl rfl (Nat.le_of_ble_eq_true rfl) (Nat.le_of_ble_eq_true rfl) (Nat.le_of_ble_eq_true rfl) (Nat.le_of_ble_eq_true rfl) ?_
      intro r3 μ2 hk
      refine px_iload_n (i := 2) C dX1_countUpTo_42 rfl rfl ?_
      refine px_icmp_gt (tgt := 49) C dX1_countUpTo_43 (by decide) (fun c4 => ?_) (fun c4 => ?_)
      · replace hk := hk.1 c4
        refine px_iinc (i := 4) (v := (1 : Int32)) C dX1_countUpTo_49 rfl rfl (by decide) rfl ?_
        refine px_goto (tgt := 5) C dX1_countUpTo_52 (by decide) ?_
        exact PW_at (hR5 _ _ _ _ _ hk) (And.intro rfl (And.intro rfl (And.intro rfl (And.intro rfl (And.intro rfl trivial))))) (Nat.le_of_ble_eq_true rfl) (Nat.le_of_ble_eq_true rfl)
      · replace hk := hk.2 c4
        refine px_iinc (i := 3) (v := (1 : Int32)) C dX1_countUpTo_46 rfl rfl (by decide) rfl ?_
        refine px_iinc (i := 4) (v := (1 : Int32)) C dX1_countUpTo_49 rfl rfl (by decide) rfl ?_
        refine px_goto (tgt := 5) C dX1_countUpTo_52 (by decide) ?_
        exact PW_at (hR5 _ _ _ _ _ hk) (And.intro rfl (And.intro rfl (And.intro rfl (And.intro rfl (And.intro rfl trivial))))) (Nat.le_of_ble_eq_true rfl) (Nat.le_of_ble_eq_true rfl)
set_option maxRecDepth 100000 in
set_option maxHeartbeats 4000000 in
theorem w1_countUpTo_ok {l : Launch} {idx : List (Nat × Nat)} {μ : Mem} {a1 : Int32} {a2 : Int32} {P : Int32 → Mem → Prop} {X : String → Mem → Prop} (hl : l.stackTraces = false) (hI : IdxOK idx) (hk : w1_countUpTo_wp μ a1 a2 P) : PMet l yX1_countUpTo (.code yX1_countUpTo cX1_countUpTo 5 (some .int)) 2 0 0 idx [pR 34 0, pI a1, pI a2] μ (qI P) X := by
  refine PMet_of mv_X1_countUpTo.2.2.2.2.2.2 hl hI mv_X1_countUpTo.2.2.2.1 rfl (Nat.le_of_ble_eq_true rfl) (fun G _ _ C hRt hHR hnT => ?_)
  show PW G 0 0 0 [some (pR 34 0), some (pI a1), some (pI a2), none, none] [] μ
  unfold w1_countUpTo_wp at hk
  refine px_iconst (v := (0 : Int32)) C dX1_countUpTo_0 rfl ?_
  refine px_istore_n (i := 3) C dX1_countUpTo_1 rfl (by decide) rfl ?_
  refine px_iconst (v := (0 : Int32)) C dX1_countUpTo_2 rfl ?_
  refine px_istore (i := 4) C dX1_countUpTo_3 (by decide) rfl ?_
  exact PW_at (w1_countUpTo_b5_ok C hRt hHR hnT hk) (And.intro rfl (And.intro rfl (And.intro rfl (And.intro rfl (And.intro rfl trivial))))) (Nat.le_of_ble_eq_true rfl) (Nat.le_of_ble_eq_true rfl)
theorem dX1_tracesReached_0 : decode cX1_tracesReached 0 = .ok (.iconst 0, 1) := by decide +kernel
theorem dX1_tracesReached_1 : decode cX1_tracesReached 1 = .ok (.istore_n 2, 1) := by decide +kernel
theorem dX1_tracesReached_2 : decode cX1_tracesReached 2 = .ok (.iconst 0, 1) := by decide +kernel
theorem dX1_tracesReached_3 : decode cX1_tracesReached 3 = .ok (.istore_n 3, 1) := by decide +kernel
theorem dX1_tracesReached_4 : decode cX1_tracesReached 4 = .ok (.iload_n 3, 1) := by decide +kernel
theorem dX1_tracesReached_5 : decode cX1_tracesReached 5 = .ok (.iconst 4, 1) := by decide +kernel
theorem dX1_tracesReached_6 : decode cX1_tracesReached 6 = .ok (.if_icmp .ge 129, 3) := by decide +kernel
theorem dX1_tracesReached_9 : decode cX1_tracesReached 9 = .ok (.iload_n 2, 1) := by decide +kernel
theorem dX1_tracesReached_10 : decode cX1_tracesReached 10 = .ok (.iconst 1, 1) := by decide +kernel
theorem dX1_tracesReached_11 : decode cX1_tracesReached 11 = .ok (.iload_n 1, 1) := by decide +kernel
theorem dX1_tracesReached_12 : decode cX1_tracesReached 12 = .ok (.ishl, 1) := by decide +kernel
theorem dX1_tracesReached_13 : decode cX1_tracesReached 13 = .ok (.ior, 1) := by decide +kernel
theorem dX1_tracesReached_14 : decode cX1_tracesReached 14 = .ok (.istore 4, 2) := by decide +kernel
theorem dX1_tracesReached_16 : decode cX1_tracesReached 16 = .ok (.iconst 0, 1) := by decide +kernel
theorem dX1_tracesReached_17 : decode cX1_tracesReached 17 = .ok (.istore 5, 2) := by decide +kernel
theorem dX1_tracesReached_19 : decode cX1_tracesReached 19 = .ok (.iload 5, 2) := by decide +kernel
theorem dX1_tracesReached_21 : decode cX1_tracesReached 21 = .ok (.aload_n 0, 1) := by decide +kernel
theorem dX1_tracesReached_22 : decode cX1_tracesReached 22 = .ok (.getfield 9, 3) := by decide +kernel
theorem dX1_tracesReached_25 : decode cX1_tracesReached 25 = .ok (.getfield 112, 3) := by decide +kernel
theorem dX1_tracesReached_28 : decode cX1_tracesReached 28 = .ok (.if_icmp .ge 101, 3) := by decide +kernel
theorem dX1_tracesReached_31 : decode cX1_tracesReached 31 = .ok (.aload_n 0, 1) := by decide +kernel
theorem dX1_tracesReached_32 : decode cX1_tracesReached 32 = .ok (.getfield 9, 3) := by decide +kernel
theorem dX1_tracesReached_35 : decode cX1_tracesReached 35 = .ok (.aload_n 0, 1) := by decide +kernel
theorem dX1_tracesReached_36 : decode cX1_tracesReached 36 = .ok (.getfield 9, 3) := by decide +kernel
theorem dX1_tracesReached_39 : decode cX1_tracesReached 39 = .ok (.getfield 115, 3) := by decide +kernel
theorem dX1_tracesReached_42 : decode cX1_tracesReached 42 = .ok (.iload 5, 2) := by decide +kernel
theorem dX1_tracesReached_44 : decode cX1_tracesReached 44 = .ok (.invokestatic 35, 3) := by decide +kernel
theorem dX1_tracesReached_47 : decode cX1_tracesReached 47 = .ok (.invokevirtual 118, 3) := by decide +kernel
theorem dX1_tracesReached_50 : decode cX1_tracesReached 50 = .ok (.istore 6, 2) := by decide +kernel
theorem dX1_tracesReached_52 : decode cX1_tracesReached 52 = .ok (.aload_n 0, 1) := by decide +kernel
theorem dX1_tracesReached_53 : decode cX1_tracesReached 53 = .ok (.getfield 9, 3) := by decide +kernel
theorem dX1_tracesReached_56 : decode cX1_tracesReached 56 = .ok (.aload_n 0, 1) := by decide +kernel
theorem dX1_tracesReached_57 : decode cX1_tracesReached 57 = .ok (.getfield 9, 3) := by decide +kernel
theorem dX1_tracesReached_60 : decode cX1_tracesReached 60 = .ok (.getfield 121, 3) := by decide +kernel
theorem dX1_tracesReached_63 : decode cX1_tracesReached 63 = .ok (.iload 5, 2) := by decide +kernel
theorem dX1_tracesReached_65 : decode cX1_tracesReached 65 = .ok (.invokestatic 35, 3) := by decide +kernel
theorem dX1_tracesReached_68 : decode cX1_tracesReached 68 = .ok (.invokevirtual 118, 3) := by decide +kernel
theorem dX1_tracesReached_71 : decode cX1_tracesReached 71 = .ok (.istore 7, 2) := by decide +kernel
theorem dX1_tracesReached_73 : decode cX1_tracesReached 73 = .ok (.iload 6, 2) := by decide +kernel
theorem dX1_tracesReached_75 : decode cX1_tracesReached 75 = .ok (.iconst (-1), 1) := by decide +kernel
theorem dX1_tracesReached_76 : decode cX1_tracesReached 76 = .ok (.if_icmp .eq 47, 3) := by decide +kernel
theorem dX1_tracesReached_79 : decode cX1_tracesReached 79 = .ok (.iload 7, 2) := by decide +kernel
theorem dX1_tracesReached_81 : decode cX1_tracesReached 81 = .ok (.iconst (-1), 1) := by decide +kernel
theorem dX1_tracesReached_82 : decode cX1_tracesReached 82 = .ok (.if_icmp .eq 41, 3) := by decide +kernel
theorem dX1_tracesReached_85 : decode cX1_tracesReached 85 = .ok (.iload 4, 2) := by decide +kernel
theorem dX1_tracesReached_87 : decode cX1_tracesReached 87 = .ok (.aload_n 0, 1) := by decide +kernel
theorem dX1_tracesReached_88 : decode cX1_tracesReached 88 = .ok (.getfield 9, 3) := by decide +kernel
theorem dX1_tracesReached_91 : decode cX1_tracesReached 91 = .ok (.getfield 46, 3) := by decide +kernel
theorem dX1_tracesReached_94 : decode cX1_tracesReached 94 = .ok (.iload 6, 2) := by decide +kernel
theorem dX1_tracesReached_96 : decode cX1_tracesReached 96 = .ok (.invokestatic 35, 3) := by decide +kernel
theorem dX1_tracesReached_99 : decode cX1_tracesReached 99 = .ok (.ishr, 1) := by decide +kernel
theorem dX1_tracesReached_100 : decode cX1_tracesReached 100 = .ok (.iconst 1, 1) := by decide +kernel
theorem dX1_tracesReached_101 : decode cX1_tracesReached 101 = .ok (.iand, 1) := by decide +kernel
theorem dX1_tracesReached_102 : decode cX1_tracesReached 102 = .ok (.iconst 1, 1) := by decide +kernel
theorem dX1_tracesReached_103 : decode cX1_tracesReached 103 = .ok (.if_icmp .ne 20, 3) := by decide +kernel
theorem dX1_tracesReached_106 : decode cX1_tracesReached 106 = .ok (.iload_n 2, 1) := by decide +kernel
theorem dX1_tracesReached_107 : decode cX1_tracesReached 107 = .ok (.iconst 1, 1) := by decide +kernel
theorem dX1_tracesReached_108 : decode cX1_tracesReached 108 = .ok (.aload_n 0, 1) := by decide +kernel
theorem dX1_tracesReached_109 : decode cX1_tracesReached 109 = .ok (.getfield 9, 3) := by decide +kernel
theorem dX1_tracesReached_112 : decode cX1_tracesReached 112 = .ok (.getfield 46, 3) := by decide +kernel
theorem dX1_tracesReached_115 : decode cX1_tracesReached 115 = .ok (.iload 7, 2) := by decide +kernel
theorem dX1_tracesReached_117 : decode cX1_tracesReached 117 = .ok (.invokestatic 35, 3) := by decide +kernel
theorem dX1_tracesReached_120 : decode cX1_tracesReached 120 = .ok (.ishl, 1) := by decide +kernel
theorem dX1_tracesReached_121 : decode cX1_tracesReached 121 = .ok (.ior, 1) := by decide +kernel
theorem dX1_tracesReached_122 : decode cX1_tracesReached 122 = .ok (.istore_n 2, 1) := by decide +kernel
theorem dX1_tracesReached_123 : decode cX1_tracesReached 123 = .ok (.iinc 5 1, 3) := by decide +kernel
theorem dX1_tracesReached_126 : decode cX1_tracesReached 126 = .ok (.goto (-107), 3) := by decide +kernel
theorem dX1_tracesReached_129 : decode cX1_tracesReached 129 = .ok (.iinc 3 1, 3) := by decide +kernel
theorem dX1_tracesReached_132 : decode cX1_tracesReached 132 = .ok (.goto (-128), 3) := by decide +kernel
theorem dX1_tracesReached_135 : decode cX1_tracesReached 135 = .ok (.iload_n 2, 1) := by decide +kernel
theorem dX1_tracesReached_136 : decode cX1_tracesReached 136 = .ok (.ireturn, 1) := by decide +kernel
set_option maxRecDepth 100000 in
set_option maxHeartbeats 4000000 in
theorem w1_tracesReached_b19_ok {G : GT} {P : Int32 → Mem → Prop} {X : String → Mem → Prop} (C : PCx G cX1_tracesReached 8 RX1) (hRt : PRt G (some .int) (qI P) X) (hHR : HR G (1)) (hnT : NoT G) {R4 : Mem → Int32 → Int32 → Int32 → Prop} (hR4 : ∀ (μ : Mem) (l1 : Int32) (l2 : Int32) (l3 : Int32), R4 μ l1 l2 l3 → PW G 0 0 4 [some (pR 34 0), some (pI l1), some (pI l2), some (pI l3), none, none, none, none] [] μ) {μ : Mem} {l1 : Int32} {l2 : Int32} {l3 : Int32} {l4 : Int32} {l5 : Int32} (hk : w1_tracesReached_b19 P R4 μ l1 l2 l3 l4 l5) : PW G 0 0 19 [some (pR 34 0), some (pI l1), some (pI l2), some (pI l3), some (pI l4), some (pI l5), none, none] [] μ := by
  refine hk (fun (μ : Mem) (l1 : Int32) (l2 : Int32) (l3 : Int32) (l4 : Int32) (l5 : Int32) => PW G 0 0 19 [some (pR 34 0), some (pI l1), some (pI l2), some (pI l3), some (pI l4), some (pI l5), none, none] [] μ) (fun (μ : Mem) l1 l2 l3 l4 l5 hk => ?_)
  have hR19 : ∀ (μ : Mem) (l1 : Int32) (l2 : Int32) (l3 : Int32) (l4 : Int32) (l5 : Int32), PW G 0 0 19 [some (pR 34 0), some (pI l1), some (pI l2), some (pI l3), some (pI l4), some (pI l5), none, none] [] μ → PW G 0 0 19 [some (pR 34 0), some (pI l1), some (pI l2), some (pI l3), some (pI l4), some (pI l5), none, none] [] μ := fun _ _ _ _ _ _ h => h
  unfold w1_tracesReached_b19_body at hk
  refine px_iload (i := 5) C dX1_tracesReached_19 rfl ?_
  refine px_aload_n (i := 0) C dX1_tracesReached_21 rfl rfl ?_
  refine px_getr C dX1_tracesReached_22 fl_RX1_9 rfl rfl rfl ?_
  refine px_geti 2 C dX1_tracesReached_25 fl_RX1_112 rfl rfl rfl rfl ?_
  refine px_icmp_ge (tgt := 129) C dX1_tracesReached_28 (by decide) (fun c12 => ?_) (fun c12 => ?_)
  · replace hk := hk.1 c12
    refine px_iinc (i := 3) (v := (1 : Int32)) C dX1_tracesReached_129 rfl rfl (by decide) rfl ?_
    refine px_goto (tgt := 4) C dX1_tracesReached_132 (by decide) ?_
    exact PW_at (hR4 _ _ _ _ hk) (And.intro rfl (And.intro rfl (And.intro rfl (And.intro rfl trivial)))) (Nat.le_of_ble_eq_true rfl) (Nat.le_of_ble_eq_true rfl)
  · replace hk := hk.2 c12
    refine px_aload_n (i := 0) C dX1_tracesReached_31 rfl rfl ?_
    refine px_getr C dX1_tracesReached_32 fl_RX1_9 rfl rfl rfl ?_
    refine px_aload_n (i := 0) C dX1_tracesReached_35 rfl rfl ?_
    refine px_getr C dX1_tracesReached_36 fl_RX1_9 rfl rfl rfl ?_
    refine px_getr C dX1_tracesReached_39 fl_RX1_115 rfl rfl rfl ?_
    refine px_iload (i := 5) C dX1_tracesReached_42 rfl ?_
    obtain ⟨o1, hk⟩ := hk
    refine px_callSNi (h := 0) (rc' := 0) (rs' := 0) C (HR_le hHR (Nat.le_of_ble_eq_true rfl)) hRt hnT dX1_tracesReached_44 (List.mem_append_right _ (List.mem_append_left _ (List.mem_of_getElem? (i := 20) rfl))) ms_X8_at (at_ok (j := 8) (q := 0) (n := 30) (loc := 512) (PCx_l C) (PCx_I C) rfl rfl rfl o1) rfl rfl (Nat.le_of_ble_eq_true rfl) (Nat.le_of_ble_eq_true rfl) (Nat.le_of_ble_eq_true rfl) (Nat.le_of_ble_eq_true rfl) ?_
    rintro _ _ ⟨rfl, rfl⟩
    refine px_callVi (h := 0) (rc' := 0) (rs' := 0) C (HR_le hHR (Nat.le_of_ble_eq_true rfl)) hRt hnT dX1_tracesReached_47 (gw6 57 rfl rfl) mv_X7_find (w7_find_ok (PCx_l C) (PCx_I C) hk) rfl rfl rfl rfl rfl (Nat.le_of_ble_eq_true rfl) (Nat.le_of_ble_eq_true rfl) (Nat.le_of_ble_eq_true rfl) (Nat.le_of_ble_eq_true rfl) ?_
    intro r3 μ2 hk
    refine px_istore (i := 6) C dX1_tracesReached_50 (by decide) rfl ?_
    refine px_aload_n (i := 0) C dX1_tracesReached_52 rfl rfl ?_
    refine px_getr C dX1_tracesReached_53 fl_RX1_9 rfl rfl rfl ?_
    refine px_aload_n (i := 0) C dX1_tracesReached_56 rfl rfl ?_
    refine px_getr C dX1_tracesReached_57 fl_RX1_9 rfl rfl rfl ?_
    refine px_getr C dX1_tracesReached_60 fl_RX1_121 rfl rfl rfl ?_
    refine px_iload (i := 5) C dX1_tracesReached_63 rfl ?_
    obtain ⟨o4, hk⟩ := hk
    refine px_callSNi (h := 0) (rc' := 0) (rs' := 0) C (HR_le hHR (Nat.le_of_ble_eq_true rfl)) hRt hnT dX1_tracesReached_65 (List.mem_append_right _ (List.mem_append_left _ (List.mem_of_getElem? (i := 20) rfl))) ms_X8_at (at_ok (j := 9) (q := 0) (n := 30) (loc := 576) (PCx_l C) (PCx_I C) rfl rfl rfl o4) rfl rfl (Nat.le_of_ble_eq_true rfl) (Nat.le_of_ble_eq_true rfl) (Nat.le_of_ble_eq_true rfl) (Nat.le_of_ble_eq_true rfl) ?_
    rintro _ _ ⟨rfl, rfl⟩
    refine px_callVi (h := 0) (rc' := 0) (rs' := 0) C (HR_le hHR (Nat.le_of_ble_eq_true rfl)) hRt hnT dX1_tracesReached_68 (gw6 57 rfl rfl) mv_X7_find (w7_find_ok (PCx_l C) (PCx_I C) hk) rfl rfl rfl rfl rfl (Nat.le_of_ble_eq_true rfl) (Nat.le_of_ble_eq_true rfl) (Nat.le_of_ble_eq_true rfl) (Nat.le_of_ble_eq_true rfl) ?_
    intro r6 μ5 hk
    refine px_istore (i := 7) C dX1_tracesReached_71 (by decide) rfl ?_
    refine px_iload (i := 6) C dX1_tracesReached_73 rfl ?_
    refine px_iconst (v := (-1 : Int32)) C dX1_tracesReached_75 rfl ?_
    refine px_icmp_eq (tgt := 123) C dX1_tracesReached_76 (by decide) (fun c11 => ?_) (fun c11 => ?_)
    · replace hk := hk.1 c11
      refine px_iinc (i := 5) (v := (1 : Int32)) C dX1_tracesReached_123 rfl rfl (by decide) rfl ?_
      refine px_goto (tgt := 19) C dX1_tracesReached_126 (by decide) ?_
      exact PW_at (hR19 _ _ _ _ _ _ hk) (And.intro rfl (And.intro rfl (And.intro rfl (And.intro rfl (And.intro rfl (And.intro rfl trivial)))))) (Nat.le_of_ble_eq_true rfl) (Nat.le_of_ble_eq_true rfl)
    · replace hk := hk.2 c11
      refine px_iload (i := 7) C dX1_tracesReached_79 rfl ?_
      refine px_iconst (v := (-1 : Int32)) C dX1_tracesReached_81 rfl ?_
      refine px_icmp_eq (tgt := 123) C dX1_tracesReached_82 (by decide) (fun c10 => ?_) (fun c10 => ?_)
      · replace hk := hk.1 c10
        refine px_iinc (i := 5) (v := (1 : Int32)) C dX1_tracesReached_123 rfl rfl (by decide) rfl ?_
        refine px_goto (tgt := 19) C dX1_tracesReached_126 (by decide) ?_
        exact PW_at (hR19 _ _ _ _ _ _ hk) (And.intro rfl (And.intro rfl (And.intro rfl (And.intro rfl (And.intro rfl (And.intro rfl trivial)))))) (Nat.le_of_ble_eq_true rfl) (Nat.le_of_ble_eq_true rfl)
      · replace hk := hk.2 c10
        refine px_iload (i := 4) C dX1_tracesReached_85 rfl ?_
        refine px_aload_n (i := 0) C dX1_tracesReached_87 rfl rfl ?_
        refine px_getr C dX1_tracesReached_88 fl_RX1_9 rfl rfl rfl ?_
        refine px_getr C dX1_tracesReached_91 fl_RX1_46 rfl rfl rfl ?_
        refine px_iload (i := 6) C dX1_tracesReached_94 rfl ?_
        obtain ⟨o7, hk⟩ := hk
        refine px_callSNi (h := 0) (rc' := 0) (rs' := 0) C (HR_le hHR (Nat.le_of_ble_eq_true rfl)) hRt hnT dX1_tracesReached_96 (List.mem_append_right _ (List.mem_append_left _ (List.mem_of_getElem? (i := 20) rfl))) ms_X8_at (at_ok (j := 1) (q := 0) (n := 40) (loc := 64) (PCx_l C) (PCx_I C) rfl rfl rfl o7) rfl rfl (Nat.le_of_ble_eq_true rfl) (Nat.le_of_ble_eq_true rfl) (Nat.le_of_ble_eq_true rfl) (Nat.le_of_ble_eq_true rfl) ?_
        rintro _ _ ⟨rfl, rfl⟩
        refine px_ishr C dX1_tracesReached_99 ?_
        refine px_iconst (v := (1 : Int32)) C dX1_tracesReached_100 rfl ?_
        refine px_iand C dX1_tracesReached_101 ?_
        refine px_iconst (v := (1 : Int32)) C dX1_tracesReached_102 rfl ?_
        refine px_icmp_ne (tgt := 123) C dX1_tracesReached_103 (by decide) (fun c9 => ?_) (fun c9 => ?_)
        · replace hk := hk.1 c9
          refine px_iinc (i := 5) (v := (1 : Int32)) C dX1_tracesReached_123 rfl rfl (by decide) rfl ?_
          refine px_goto (tgt := 19) C dX1_tracesReached_126 (by decide) ?_
          exact PW_at (hR19 _ _ _ _ _ _ hk) (And.intro rfl (And.intro rfl (And.intro rfl (And.intro rfl (And.intro rfl (And.intro rfl trivial)))))) (Nat.le_of_ble_eq_true rfl) (Nat.le_of_ble_eq_true rfl)
        · replace hk := hk.2 c9
          refine px_iload_n (i := 2) C dX1_tracesReached_106 rfl rfl ?_
          refine px_iconst (v := (1 : Int32)) C dX1_tracesReached_107 rfl ?_
          refine px_aload_n (i := 0) C dX1_tracesReached_108 rfl rfl ?_
          refine px_getr C dX1_tracesReached_109 fl_RX1_9 rfl rfl rfl ?_
          refine px_getr C dX1_tracesReached_112 fl_RX1_46 rfl rfl rfl ?_
          refine px_iload (i := 7) C dX1_tracesReached_115 rfl ?_
          obtain ⟨o8, hk⟩ := hk
          refine px_callSNi (h := 0) (rc' := 0) (rs' := 0) C (HR_le hHR (Nat.le_of_ble_eq_true rfl)) hRt hnT dX1_tracesReached_117 (List.mem_append_right _ (List.mem_append_left _ (List.mem_of_getElem? (i := 20) rfl))) ms_X8_at (at_ok (j := 1) (q := 0) (n := 40) (loc := 64) (PCx_l C) (PCx_I C) rfl rfl rfl o8) rfl rfl (Nat.le_of_ble_eq_true rfl) (Nat.le_of_ble_eq_true rfl) (Nat.le_of_ble_eq_true rfl) (Nat.le_of_ble_eq_true rfl) ?_
          rintro _ _ ⟨rfl, rfl⟩
          refine px_ishl C dX1_tracesReached_120 ?_
          refine px_ior C dX1_tracesReached_121 ?_
          refine px_istore_n (i := 2) C dX1_tracesReached_122 rfl (by decide) rfl ?_
          refine px_iinc (i := 5) (v := (1 : Int32)) C dX1_tracesReached_123 rfl rfl (by decide) rfl ?_
          refine px_goto (tgt := 19) C dX1_tracesReached_126 (by decide) ?_
          exact PW_at (hR19 _ _ _ _ _ _ hk) (And.intro rfl (And.intro rfl (And.intro rfl (And.intro rfl (And.intro rfl (And.intro rfl trivial)))))) (Nat.le_of_ble_eq_true rfl) (Nat.le_of_ble_eq_true rfl)
set_option maxRecDepth 100000 in
set_option maxHeartbeats 4000000 in
theorem w1_tracesReached_b4_ok {G : GT} {P : Int32 → Mem → Prop} {X : String → Mem → Prop} (C : PCx G cX1_tracesReached 8 RX1) (hRt : PRt G (some .int) (qI P) X) (hHR : HR G (1)) (hnT : NoT G) {μ : Mem} {l1 : Int32} {l2 : Int32} {l3 : Int32} (hk : w1_tracesReached_b4 P μ l1 l2 l3) : PW G 0 0 4 [some (pR 34 0), some (pI l1), some (pI l2), some (pI l3), none, none, none, none] [] μ := by
  refine hk (fun (μ : Mem) (l1 : Int32) (l2 : Int32) (l3 : Int32) => PW G 0 0 4 [some (pR 34 0), some (pI l1), some (pI l2), some (pI l3), none, none, none, none] [] μ) (fun (μ : Mem) l1 l2 l3 hk => ?_)
  have hR4 : ∀ (μ : Mem) (l1 : Int32) (l2 : Int32) (l3 : Int32), PW G 0 0 4 [some (pR 34 0), some (pI l1), some (pI l2), some (pI l3), none, none, none, none] [] μ → PW G 0 0 4 [some (pR 34 0), some (pI l1), some (pI l2), some (pI l3), none, none, none, none] [] μ := fun _ _ _ _ h => h
  unfold w1_tracesReached_b4_body at hk
  refine px_iload_n (i := 3) C dX1_tracesReached_4 rfl rfl ?_
  refine px_iconst (v := (4 : Int32)) C dX1_tracesReached_5 rfl ?_
  refine px_icmp_ge (tgt := 135) C dX1_tracesReached_6 (by decide) (fun c13 => ?_) (fun c13 => ?_)
  · replace hk := hk.1 c13
    refine px_iload_n (i := 2) C dX1_tracesReached_135 rfl rfl ?_
    exact px_iret C hRt dX1_tracesReached_136 rfl rfl hk
  · replace hk := hk.2 c13
    refine px_iload_n (i := 2) C dX1_tracesReached_9 rfl rfl ?_
    refine px_iconst (v := (1 : Int32)) C dX1_tracesReached_10 rfl ?_
    refine px_iload_n (i := 1) C dX1_tracesReached_11 rfl rfl ?_
    refine px_ishl C dX1_tracesReached_12 ?_
    refine px_ior C dX1_tracesReached_13 ?_
    refine px_istore (i := 4) C dX1_tracesReached_14 (by decide) rfl ?_
    refine px_iconst (v := (0 : Int32)) C dX1_tracesReached_16 rfl ?_
    refine px_istore (i := 5) C dX1_tracesReached_17 (by decide) rfl ?_
    exact PW_at (w1_tracesReached_b19_ok C hRt hHR hnT hR4 hk) (And.intro rfl (And.intro rfl (And.intro rfl (And.intro rfl (And.intro rfl (And.intro rfl trivial)))))) (Nat.le_of_ble_eq_true rfl) (Nat.le_of_ble_eq_true rfl)
set_option maxRecDepth 100000 in
set_option maxHeartbeats 4000000 in
theorem w1_tracesReached_ok {l : Launch} {idx : List (Nat × Nat)} {μ : Mem} {a1 : Int32} {P : Int32 → Mem → Prop} {X : String → Mem → Prop} (hl : l.stackTraces = false) (hI : IdxOK idx) (hk : w1_tracesReached_wp μ a1 P) : PMet l yX1_tracesReached (.code yX1_tracesReached cX1_tracesReached 8 (some .int)) 1 0 0 idx [pR 34 0, pI a1] μ (qI P) X := by
  refine PMet_of mv_X1_tracesReached.2.2.2.2.2.2 hl hI mv_X1_tracesReached.2.2.2.1 rfl (Nat.le_of_ble_eq_true rfl) (fun G _ _ C hRt hHR hnT => ?_)
  show PW G 0 0 0 [some (pR 34 0), some (pI a1), none, none, none, none, none, none] [] μ
  unfold w1_tracesReached_wp at hk
  refine px_iconst (v := (0 : Int32)) C dX1_tracesReached_0 rfl ?_
  refine px_istore_n (i := 2) C dX1_tracesReached_1 rfl (by decide) rfl ?_
  refine px_iconst (v := (0 : Int32)) C dX1_tracesReached_2 rfl ?_
  refine px_istore_n (i := 3) C dX1_tracesReached_3 rfl (by decide) rfl ?_
  exact PW_at (w1_tracesReached_b4_ok C hRt hHR hnT hk) (And.intro rfl (And.intro rfl (And.intro rfl (And.intro rfl trivial)))) (Nat.le_of_ble_eq_true rfl) (Nat.le_of_ble_eq_true rfl)
