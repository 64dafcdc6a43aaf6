theorem dX8_at_0 : decode cX8_at 0 = .ok (.iload_n 1, 1) := by decide +kernel
theorem dX8_at_1 : decode cX8_at 1 = .ok (.ifCond .lt 15, 3) := by decide +kernel
theorem dX8_at_4 : decode cX8_at 4 = .ok (.iload_n 1, 1) := by decide +kernel
theorem dX8_at_5 : decode cX8_at 5 = .ok (.aload_n 0, 1) := by decide +kernel
theorem dX8_at_6 : decode cX8_at 6 = .ok (.arraylength, 1) := by decide +kernel
theorem dX8_at_7 : decode cX8_at 7 = .ok (.if_icmp .ge 9, 3) := by decide +kernel
theorem dX8_at_10 : decode cX8_at 10 = .ok (.aload_n 0, 1) := by decide +kernel
theorem dX8_at_11 : decode cX8_at 11 = .ok (.iload_n 1, 1) := by decide +kernel
theorem dX8_at_12 : decode cX8_at 12 = .ok (.iaload, 1) := by decide +kernel
theorem dX8_at_13 : decode cX8_at 13 = .ok (.goto 4, 3) := by decide +kernel
theorem dX8_at_16 : decode cX8_at 16 = .ok (.iconst (-1), 1) := by decide +kernel
theorem dX8_at_17 : decode cX8_at 17 = .ok (.ireturn, 1) := by decide +kernel
theorem dX8_set_0 : decode cX8_set 0 = .ok (.iload_n 1, 1) := by decide +kernel
theorem dX8_set_1 : decode cX8_set 1 = .ok (.ifCond .lt 13, 3) := by decide +kernel
theorem dX8_set_4 : decode cX8_set 4 = .ok (.iload_n 1, 1) := by decide +kernel
theorem dX8_set_5 : decode cX8_set 5 = .ok (.aload_n 0, 1) := by decide +kernel
theorem dX8_set_6 : decode cX8_set 6 = .ok (.arraylength, 1) := by decide +kernel
theorem dX8_set_7 : decode cX8_set 7 = .ok (.if_icmp .ge 7, 3) := by decide +kernel
theorem dX8_set_10 : decode cX8_set 10 = .ok (.aload_n 0, 1) := by decide +kernel
theorem dX8_set_11 : decode cX8_set 11 = .ok (.iload_n 1, 1) := by decide +kernel
theorem dX8_set_12 : decode cX8_set 12 = .ok (.iload_n 2, 1) := by decide +kernel
theorem dX8_set_13 : decode cX8_set 13 = .ok (.iastore, 1) := by decide +kernel
theorem dX8_set_14 : decode cX8_set 14 = .ok (.return_, 1) := by decide +kernel
theorem dX8_flagAt_0 : decode cX8_flagAt 0 = .ok (.iload_n 1, 1) := by decide +kernel
theorem dX8_flagAt_1 : decode cX8_flagAt 1 = .ok (.ifCond .lt 19, 3) := by decide +kernel
theorem dX8_flagAt_4 : decode cX8_flagAt 4 = .ok (.iload_n 1, 1) := by decide +kernel
theorem dX8_flagAt_5 : decode cX8_flagAt 5 = .ok (.aload_n 0, 1) := by decide +kernel
theorem dX8_flagAt_6 : decode cX8_flagAt 6 = .ok (.arraylength, 1) := by decide +kernel
theorem dX8_flagAt_7 : decode cX8_flagAt 7 = .ok (.if_icmp .ge 13, 3) := by decide +kernel
theorem dX8_flagAt_10 : decode cX8_flagAt 10 = .ok (.aload_n 0, 1) := by decide +kernel
theorem dX8_flagAt_11 : decode cX8_flagAt 11 = .ok (.iload_n 1, 1) := by decide +kernel
theorem dX8_flagAt_12 : decode cX8_flagAt 12 = .ok (.baload, 1) := by decide +kernel
theorem dX8_flagAt_13 : decode cX8_flagAt 13 = .ok (.ifCond .eq 7, 3) := by decide +kernel
theorem dX8_flagAt_16 : decode cX8_flagAt 16 = .ok (.iconst 1, 1) := by decide +kernel
theorem dX8_flagAt_17 : decode cX8_flagAt 17 = .ok (.goto 4, 3) := by decide +kernel
theorem dX8_flagAt_20 : decode cX8_flagAt 20 = .ok (.iconst 0, 1) := by decide +kernel
theorem dX8_flagAt_21 : decode cX8_flagAt 21 = .ok (.ireturn, 1) := by decide +kernel
theorem dX8_setFlag_0 : decode cX8_setFlag 0 = .ok (.iload_n 1, 1) := by decide +kernel
theorem dX8_setFlag_1 : decode cX8_setFlag 1 = .ok (.ifCond .lt 13, 3) := by decide +kernel
theorem dX8_setFlag_4 : decode cX8_setFlag 4 = .ok (.iload_n 1, 1) := by decide +kernel
theorem dX8_setFlag_5 : decode cX8_setFlag 5 = .ok (.aload_n 0, 1) := by decide +kernel
theorem dX8_setFlag_6 : decode cX8_setFlag 6 = .ok (.arraylength, 1) := by decide +kernel
theorem dX8_setFlag_7 : decode cX8_setFlag 7 = .ok (.if_icmp .ge 7, 3) := by decide +kernel
theorem dX8_setFlag_10 : decode cX8_setFlag 10 = .ok (.aload_n 0, 1) := by decide +kernel
theorem dX8_setFlag_11 : decode cX8_setFlag 11 = .ok (.iload_n 1, 1) := by decide +kernel
theorem dX8_setFlag_12 : decode cX8_setFlag 12 = .ok (.iload_n 2, 1) := by decide +kernel
theorem dX8_setFlag_13 : decode cX8_setFlag 13 = .ok (.bastore, 1) := by decide +kernel
theorem dX8_setFlag_14 : decode cX8_setFlag 14 = .ok (.return_, 1) := by decide +kernel
-- the class's own reading and writing of rows
theorem at_ok {l : Launch} {idx : List (Nat × Nat)} {μ : Mem} {j q n loc : Nat} {i : Int32} {X : String → Mem → Prop} (hl : l.stackTraces = false) (hI : IdxOK idx) (hs : sp j q = .inr (2, n, none)) (hj : (j == 41) = false) (hloc : 64 * j = loc) (hin : vp_in i n) : PMet l yX8_at (.code yX8_at cX8_at 2 (some .int)) 0 0 0 idx [pR j q, pI i] μ (qI (fun r μ' => μ loc q i.toNatClampNeg = r ∧ μ = μ')) X := by
  have hn : n < 2147483648 := (sp_acl hs).2
  refine PMet_of ms_X8_at.2.2.2.2.2 hl hI ms_X8_at.2.2.1 rfl (Nat.le_of_ble_eq_true rfl) (fun G _ _ C hRt hHR hnT => ?_)
  show PW G 0 0 0 [some (pR j q), some (pI i)] [] μ
  refine px_iload_n (i := 1) C dX8_at_0 rfl rfl ?_
  refine px_if_lt (tgt := 16) C dX8_at_1 (by decide) (fun h => absurd (Or.inl h) hin) (fun _ => ?_)
  refine px_iload_n (i := 1) C dX8_at_4 rfl rfl ?_
  refine px_aload_n (i := 0) C dX8_at_5 rfl rfl ?_
  refine px_alen (v := Int32.ofNat n) C dX8_at_6 hs (by decide) hj rfl ?_
  refine px_icmp_ge (tgt := 16) C dX8_at_7 (by decide) (fun h => absurd h (at_lt hn hin)) (fun _ => ?_)
  refine px_aload_n (i := 0) C dX8_at_10 rfl rfl ?_
  refine px_iload_n (i := 1) C dX8_at_11 rfl rfl ?_
  refine px_iald loc C dX8_at_12 hs rfl hj hloc hin ?_
  refine px_goto (tgt := 17) C dX8_at_13 (by decide) ?_
  exact px_iret C hRt dX8_at_17 rfl rfl ⟨rfl, rfl⟩
theorem set_ok {l : Launch} {idx : List (Nat × Nat)} {μ : Mem} {j q n loc : Nat} {i x : Int32} {X : String → Mem → Prop} (hl : l.stackTraces = false) (hI : IdxOK idx) (hs : sp j q = .inr (2, n, none)) (hj : (j == 41) = false) (hloc : 64 * j = loc) (hin : vp_in i n) : PMet l yX8_set (.code yX8_set cX8_set 3 none) 0 0 0 idx [pR j q, pI i, pI x] μ (qV (fun μ' => up μ loc q i.toNatClampNeg x = μ')) X := by
  have hn : n < 2147483648 := (sp_acl hs).2
  refine PMet_of ms_X8_set.2.2.2.2.2 hl hI ms_X8_set.2.2.1 rfl (Nat.le_of_ble_eq_true rfl) (fun G _ _ C hRt hHR hnT => ?_)
  show PW G 0 0 0 [some (pR j q), some (pI i), some (pI x)] [] μ
  refine px_iload_n (i := 1) C dX8_set_0 rfl rfl ?_
  refine px_if_lt (tgt := 14) C dX8_set_1 (by decide) (fun h => absurd (Or.inl h) hin) (fun _ => ?_)
  refine px_iload_n (i := 1) C dX8_set_4 rfl rfl ?_
  refine px_aload_n (i := 0) C dX8_set_5 rfl rfl ?_
  refine px_alen (v := Int32.ofNat n) C dX8_set_6 hs (by decide) hj rfl ?_
  refine px_icmp_ge (tgt := 14) C dX8_set_7 (by decide) (fun h => absurd h (at_lt hn hin)) (fun _ => ?_)
  refine px_aload_n (i := 0) C dX8_set_10 rfl rfl ?_
  refine px_iload_n (i := 1) C dX8_set_11 rfl rfl ?_
  refine px_iload_n (i := 2) C dX8_set_12 rfl rfl ?_
  refine px_iast loc C dX8_set_13 hs rfl hj hloc hin ?_
  exact px_vret C hRt dX8_set_14 rfl rfl
theorem flagAt_ok {l : Launch} {idx : List (Nat × Nat)} {μ : Mem} {j q n loc : Nat} {i : Int32} {X : String → Mem → Prop} (hl : l.stackTraces = false) (hI : IdxOK idx) (hs : sp j q = .inr (3, n, none)) (hj : (j == 41) = false) (hloc : 64 * j = loc) (hin : vp_in i n) : PMet l yX8_flagAt (.code yX8_flagAt cX8_flagAt 2 (some .boolean)) 0 0 0 idx [pR j q, pI i] μ (qI (fun r μ' => (if μ loc q i.toNatClampNeg = 0 then 0 else 1) = r ∧ μ = μ')) X := by
  have hn : n < 2147483648 := (sp_acl hs).2
  refine PMet_of ms_X8_flagAt.2.2.2.2.2 hl hI ms_X8_flagAt.2.2.1 rfl (Nat.le_of_ble_eq_true rfl) (fun G _ _ C hRt hHR hnT => ?_)
  show PW G 0 0 0 [some (pR j q), some (pI i)] [] μ
  refine px_iload_n (i := 1) C dX8_flagAt_0 rfl rfl ?_
  refine px_if_lt (tgt := 20) C dX8_flagAt_1 (by decide) (fun h => absurd (Or.inl h) hin) (fun _ => ?_)
  refine px_iload_n (i := 1) C dX8_flagAt_4 rfl rfl ?_
  refine px_aload_n (i := 0) C dX8_flagAt_5 rfl rfl ?_
  refine px_alen (v := Int32.ofNat n) C dX8_flagAt_6 hs (by decide) hj rfl ?_
  refine px_icmp_ge (tgt := 20) C dX8_flagAt_7 (by decide) (fun h => absurd h (at_lt hn hin)) (fun _ => ?_)
  refine px_aload_n (i := 0) C dX8_flagAt_10 rfl rfl ?_
  refine px_iload_n (i := 1) C dX8_flagAt_11 rfl rfl ?_
  refine px_zald loc C dX8_flagAt_12 hs rfl hj hloc hin ?_
  refine px_if_eq (tgt := 20) C dX8_flagAt_13 (by decide) (fun h => ?_) (fun h => ?_)
  · refine px_iconst (v := (0 : Int32)) C dX8_flagAt_20 rfl ?_
    exact px_iret C hRt dX8_flagAt_21 rfl rfl ⟨if_pos h, rfl⟩
  · refine px_iconst (v := (1 : Int32)) C dX8_flagAt_16 rfl ?_
    refine px_goto (tgt := 21) C dX8_flagAt_17 (by decide) ?_
    exact px_iret C hRt dX8_flagAt_21 rfl rfl ⟨if_neg h, rfl⟩
theorem flagAt_ok2 {l : Launch} {idx : List (Nat × Nat)} {μ : Mem} {j q n loc : Nat} {i : Int32} {X : String → Mem → Prop} (hl : l.stackTraces = false) (hI : IdxOK idx) (hs : sp j q = .inr (3, n, none)) (hj : (j == 41) = false) (hloc : 64 * j = loc) (hin : vp_in i n) (hz : vp_nar .boolean (μ loc q i.toNatClampNeg) = μ loc q i.toNatClampNeg) : PMet l yX8_flagAt (.code yX8_flagAt cX8_flagAt 2 (some .boolean)) 0 0 0 idx [pR j q, pI i] μ (qI (fun r μ' => μ loc q i.toNatClampNeg = r ∧ μ = μ')) X := by
  have h := flagAt_ok (μ := μ) (X := X) hl hI hs hj hloc hin
  rwa [← nar_bool hz] at h
theorem setFlag_ok {l : Launch} {idx : List (Nat × Nat)} {μ : Mem} {j q n loc : Nat} {i x : Int32} {X : String → Mem → Prop} (hl : l.stackTraces = false) (hI : IdxOK idx) (hs : sp j q = .inr (3, n, none)) (hj : (j == 41) = false) (hloc : 64 * j = loc) (hin : vp_in i n) : PMet l yX8_setFlag (.code yX8_setFlag cX8_setFlag 3 none) 0 0 0 idx [pR j q, pI i, pI x] μ (qV (fun μ' => up μ loc q i.toNatClampNeg (vp_nar .boolean x) = μ')) X := by
  have hn : n < 2147483648 := (sp_acl hs).2
  refine PMet_of ms_X8_setFlag.2.2.2.2.2 hl hI ms_X8_setFlag.2.2.1 rfl (Nat.le_of_ble_eq_true rfl) (fun G _ _ C hRt hHR hnT => ?_)
  show PW G 0 0 0 [some (pR j q), some (pI i), some (pI x)] [] μ
  refine px_iload_n (i := 1) C dX8_setFlag_0 rfl rfl ?_
  refine px_if_lt (tgt := 14) C dX8_setFlag_1 (by decide) (fun h => absurd (Or.inl h) hin) (fun _ => ?_)
  refine px_iload_n (i := 1) C dX8_setFlag_4 rfl rfl ?_
  refine px_aload_n (i := 0) C dX8_setFlag_5 rfl rfl ?_
  refine px_alen (v := Int32.ofNat n) C dX8_setFlag_6 hs (by decide) hj rfl ?_
  refine px_icmp_ge (tgt := 14) C dX8_setFlag_7 (by decide) (fun h => absurd h (at_lt hn hin)) (fun _ => ?_)
  refine px_aload_n (i := 0) C dX8_setFlag_10 rfl rfl ?_
  refine px_iload_n (i := 1) C dX8_setFlag_11 rfl rfl ?_
  refine px_iload_n (i := 2) C dX8_setFlag_12 rfl rfl ?_
  refine px_zast loc C dX8_setFlag_13 hs rfl hj hloc hin ?_
  exact px_vret C hRt dX8_setFlag_14 rfl rfl
theorem in8 {i : Int32} (h : vp_in i 8) : ¬ i < 0 ∧ ¬ (8 : Int32) ≤ i := ⟨fun z => h (Or.inl z), at_lt (n := 8) (by decide) h⟩
theorem slotAt_in {μ : Mem} {i : Int32} (h : vp_in i 8) : w3_slotAt_wp μ i (fun k μ' => 3 + i.toNatClampNeg = k ∧ μ = μ') := by
  obtain ⟨h1, h2⟩ := in8 h
  unfold w3_slotAt_wp w8_isWithin_wp
  exact ⟨fun z => absurd z h1, fun _ => ⟨fun z => absurd z h2, fun _ => ⟨fun z => absurd z (by decide), fun _ => ⟨h, rfl, rfl⟩⟩⟩⟩
theorem mostOf_in {μ : Mem} {a b : Int32} (h : vp_in a 8) (h' : vp_in b 8) : w0_mostOf_wp μ a b (fun r μ' => μ 1088 a.toNatClampNeg b.toNatClampNeg = r ∧ μ = μ') := by
  obtain ⟨h1, h2⟩ := in8 h
  obtain ⟨h3, h4⟩ := in8 h'
  unfold w0_mostOf_wp
  exact ⟨fun z => absurd z h1, fun _ => ⟨fun z => absurd z h2, fun _ => ⟨fun z => absurd z h3, fun _ => ⟨fun z => absurd z h4, fun _ => ⟨h, h', rfl, rfl⟩⟩⟩⟩⟩
