theorem dL_law_2603 : decode cL_law 2603 = .ok (.aload_n 1, 1) := by decide +kernel
theorem dL_law_2604 : decode cL_law 2604 = .ok (.aload_n 0, 1) := by decide +kernel
theorem dL_law_2605 : decode cL_law 2605 = .ok (.iload 5, 2) := by decide +kernel
theorem dL_law_2607 : decode cL_law 2607 = .ok (.iconst 1, 1) := by decide +kernel
theorem dL_law_2608 : decode cL_law 2608 = .ok (.iadd, 1) := by decide +kernel
theorem dL_law_2609 : decode cL_law 2609 = .ok (.iaload, 1) := by decide +kernel
theorem dL_law_2610 : decode cL_law 2610 = .ok (.aload_n 0, 1) := by decide +kernel
theorem dL_law_2611 : decode cL_law 2611 = .ok (.iload 5, 2) := by decide +kernel
theorem dL_law_2613 : decode cL_law 2613 = .ok (.iconst 2, 1) := by decide +kernel
theorem dL_law_2614 : decode cL_law 2614 = .ok (.iadd, 1) := by decide +kernel
theorem dL_law_2615 : decode cL_law 2615 = .ok (.iaload, 1) := by decide +kernel
theorem dL_law_2616 : decode cL_law 2616 = .ok (.aload 4, 2) := by decide +kernel
theorem dL_law_2618 : decode cL_law 2618 = .ok (.invokestatic 302, 3) := by decide +kernel
theorem dL_law_2621 : decode cL_law 2621 = .ok (.istore 6, 2) := by decide +kernel
theorem dL_law_2623 : decode cL_law 2623 = .ok (.aload_n 2, 1) := by decide +kernel
theorem dL_law_2624 : decode cL_law 2624 = .ok (.aload_n 0, 1) := by decide +kernel
theorem dL_law_2625 : decode cL_law 2625 = .ok (.iload 5, 2) := by decide +kernel
theorem dL_law_2627 : decode cL_law 2627 = .ok (.iconst 1, 1) := by decide +kernel
theorem dL_law_2628 : decode cL_law 2628 = .ok (.iadd, 1) := by decide +kernel
theorem dL_law_2629 : decode cL_law 2629 = .ok (.iaload, 1) := by decide +kernel
theorem dL_law_2630 : decode cL_law 2630 = .ok (.aload_n 0, 1) := by decide +kernel
theorem dL_law_2631 : decode cL_law 2631 = .ok (.iload 5, 2) := by decide +kernel
theorem dL_law_2633 : decode cL_law 2633 = .ok (.iconst 2, 1) := by decide +kernel
theorem dL_law_2634 : decode cL_law 2634 = .ok (.iadd, 1) := by decide +kernel
theorem dL_law_2635 : decode cL_law 2635 = .ok (.iaload, 1) := by decide +kernel
theorem dL_law_2636 : decode cL_law 2636 = .ok (.invokevirtual 305, 3) := by decide +kernel
theorem dL_law_2639 : decode cL_law 2639 = .ok (.fstore 7, 2) := by decide +kernel
theorem dL_law_2641 : decode cL_law 2641 = .ok (.aload_n 2, 1) := by decide +kernel
theorem dL_law_2642 : decode cL_law 2642 = .ok (.invokevirtual 186, 3) := by decide +kernel
theorem dL_law_2645 : decode cL_law 2645 = .ok (.iload 6, 2) := by decide +kernel
theorem dL_law_2647 : decode cL_law 2647 = .ok (.if_icmp .eq 5, 3) := by decide +kernel
theorem dL_law_2650 : decode cL_law 2650 = .ok (.iconst 0, 1) := by decide +kernel
theorem dL_law_2651 : decode cL_law 2651 = .ok (.ireturn, 1) := by decide +kernel
theorem dL_law_2652 : decode cL_law 2652 = .ok (.iload 6, 2) := by decide +kernel
theorem dL_law_2654 : decode cL_law 2654 = .ok (.ifCond .ne 36, 3) := by decide +kernel
theorem dL_law_2657 : decode cL_law 2657 = .ok (.aload 4, 2) := by decide +kernel
theorem dL_law_2659 : decode cL_law 2659 = .ok (.iconst 0, 1) := by decide +kernel
theorem dL_law_2660 : decode cL_law 2660 = .ok (.daload, 1) := by decide +kernel
theorem dL_law_2661 : decode cL_law 2661 = .ok (.fload 7, 2) := by decide +kernel
theorem dL_law_2663 : decode cL_law 2663 = .ok (.f2d, 1) := by decide +kernel
theorem dL_law_2664 : decode cL_law 2664 = .ok (.dcmp .l, 1) := by decide +kernel
theorem dL_law_2665 : decode cL_law 2665 = .ok (.ifCond .eq 25, 3) := by decide +kernel
theorem dL_law_2668 : decode cL_law 2668 = .ok (.aload 4, 2) := by decide +kernel
theorem dL_law_2670 : decode cL_law 2670 = .ok (.iconst 0, 1) := by decide +kernel
theorem dL_law_2671 : decode cL_law 2671 = .ok (.daload, 1) := by decide +kernel
theorem dL_law_2672 : decode cL_law 2672 = .ok (.aload 4, 2) := by decide +kernel
theorem dL_law_2674 : decode cL_law 2674 = .ok (.iconst 0, 1) := by decide +kernel
theorem dL_law_2675 : decode cL_law 2675 = .ok (.daload, 1) := by decide +kernel
theorem dL_law_2676 : decode cL_law 2676 = .ok (.dcmp .l, 1) := by decide +kernel
theorem dL_law_2677 : decode cL_law 2677 = .ok (.ifCond .eq 11, 3) := by decide +kernel
theorem dL_law_2680 : decode cL_law 2680 = .ok (.fload 7, 2) := by decide +kernel
theorem dL_law_2682 : decode cL_law 2682 = .ok (.fload 7, 2) := by decide +kernel
theorem dL_law_2684 : decode cL_law 2684 = .ok (.fcmp .l, 1) := by decide +kernel
theorem dL_law_2685 : decode cL_law 2685 = .ok (.ifCond .ne 5, 3) := by decide +kernel
theorem dL_law_2688 : decode cL_law 2688 = .ok (.iconst 0, 1) := by decide +kernel
theorem dL_law_2689 : decode cL_law 2689 = .ok (.ireturn, 1) := by decide +kernel
theorem dL_law_2690 : decode cL_law 2690 = .ok (.goto 783, 3) := by decide +kernel
set_option maxRecDepth 100000 in
set_option maxHeartbeats 4000000 in
theorem lc36_ok {G : GT} {b L A B : Nat} {xs : Nat → Int32} {μ : Mem} {i : Int32} {N : Mem → Prop} (C : PCx G cL_law 9 RL) (hX : Scr G b L xs) (hHR : HR G 12) (hN : ∀ μ : Mem, N μ → PW G A B 3473 [some (pW (.ref b)), some (pR 40 0), some (pR 50 0), some (pR 80 0), some (pR 81 0), some (pI i), none, none, none] [] μ) (hk : lc36_wp xs L μ i N) : PW G (A + 4) (B + 24) 2603 [some (pW (.ref b)), some (pR 40 0), some (pR 50 0), some (pR 80 0), some (pR 81 0), some (pI i), none, none, none] [] μ := by
  unfold lc36_wp at hk
  refine px_aload_n (i := 1) C dL_law_2603 rfl rfl ?_
  refine px_aload_nw (i := 0) C dL_law_2604 rfl rfl ?_
  refine px_iload (i := 5) C dL_law_2605 rfl ?_
  refine px_iconst (v := (1 : Int32)) C dL_law_2607 rfl ?_
  refine px_iadd C dL_law_2608 ?_
  obtain ⟨o1, hk⟩ := hk
  refine px_sld C hX dL_law_2609 o1 ?_
  refine px_aload_nw (i := 0) C dL_law_2610 rfl rfl ?_
  refine px_iload (i := 5) C dL_law_2611 rfl ?_
  refine px_iconst (v := (2 : Int32)) C dL_law_2613 rfl ?_
  refine px_iadd C dL_law_2614 ?_
  obtain ⟨o2, hk⟩ := hk
  refine px_sld C hX dL_law_2615 o2 ?_
  refine px_aload (i := 4) C dL_law_2616 rfl ?_
  refine px_callSH (h := 11) (rc' := A + 0) (rs' := B + 0) C (HR_le hHR (Nat.le_of_ble_eq_true rfl)) dL_law_2618 (gw5 221 rfl rfl) ms_L_activity (L_activity_ok (PCx_l C) (PCx_I C) hk) rfl rfl (Nat.le_of_ble_eq_true rfl) (Nat.le_of_ble_eq_true rfl) (by omega) (by omega) ?_
  intro r4 μ3 hk
  refine px_istore (i := 6) C dL_law_2621 (by decide) rfl ?_
  refine px_aload_n (i := 2) C dL_law_2623 rfl rfl ?_
  refine px_aload_nw (i := 0) C dL_law_2624 rfl rfl ?_
  refine px_iload (i := 5) C dL_law_2625 rfl ?_
  refine px_iconst (v := (1 : Int32)) C dL_law_2627 rfl ?_
  refine px_iadd C dL_law_2628 ?_
  obtain ⟨o5, hk⟩ := hk
  refine px_sld C hX dL_law_2629 o5 ?_
  refine px_aload_nw (i := 0) C dL_law_2630 rfl rfl ?_
  refine px_iload (i := 5) C dL_law_2631 rfl ?_
  refine px_iconst (v := (2 : Int32)) C dL_law_2633 rfl ?_
  refine px_iadd C dL_law_2634 ?_
  obtain ⟨o6, hk⟩ := hk
  refine px_sld C hX dL_law_2635 o6 ?_
  refine px_callVNf (h := 7) (rc' := A + 0) (rs' := B + 0) C (HR_le hHR (Nat.le_of_ble_eq_true rfl)) dL_law_2636 (gw9 232 rfl rfl) mv_X9_activity (w9_activity_ok (PCx_l C) (PCx_I C) hk) rfl rfl rfl rfl rfl (Nat.le_of_ble_eq_true rfl) (Nat.le_of_ble_eq_true rfl) (by omega) (by omega) ?_
  intro r8 μ7 hk
  refine px_fstore (i := 7) C dL_law_2639 (by decide) rfl ?_
  refine px_aload_n (i := 2) C dL_law_2641 rfl rfl ?_
  refine px_callVNi (h := 0) (rc' := A + 0) (rs' := B + 0) C (HR_le hHR (Nat.le_of_ble_eq_true rfl)) dL_law_2642 (gw8 123 rfl rfl) mv_X9_thrown (w9_thrown_ok (PCx_l C) (PCx_I C) hk) rfl rfl rfl rfl rfl (Nat.le_of_ble_eq_true rfl) (Nat.le_of_ble_eq_true rfl) (by omega) (by omega) ?_
  intro r10 μ9 hk
  refine px_iload (i := 6) C dL_law_2645 rfl ?_
  refine px_icmp_eq (tgt := 2652) C dL_law_2647 (by decide) (fun c19 => ?_) (fun c19 => ?_)
  · replace hk := hk.1 c19
    refine px_iload (i := 6) C dL_law_2652 rfl ?_
    refine px_if_ne (tgt := 2690) C dL_law_2654 (by decide) (fun c18 => ?_) (fun c18 => ?_)
    · replace hk := hk.1 c18
      refine px_goto (tgt := 3473) C dL_law_2690 (by decide) ?_
      exact PW_at (hN _ hk) (And.intro rfl (And.intro rfl (And.intro rfl (And.intro rfl (And.intro rfl (And.intro rfl trivial)))))) (by omega) (by omega)
    · replace hk := hk.2 c18
      refine px_aload (i := 4) C dL_law_2657 rfl ?_
      refine px_iconst (v := (0 : Int32)) C dL_law_2659 rfl ?_
      obtain ⟨o11, hk⟩ := hk
      refine px_dald 5184 C dL_law_2660 rfl rfl rfl rfl o11 ?_
      refine px_fload (i := 7) C dL_law_2661 rfl ?_
      obtain ⟨o12, hk⟩ := hk
      refine px_f2d C dL_law_2663 o12 ?_
      refine px_dcmp C dL_law_2664 ?_
      refine px_if_eq (tgt := 2690) C dL_law_2665 (by decide) (fun c17 => ?_) (fun c17 => ?_)
      · replace hk := hk.1 c17
        refine px_goto (tgt := 3473) C dL_law_2690 (by decide) ?_
        exact PW_at (hN _ hk) (And.intro rfl (And.intro rfl (And.intro rfl (And.intro rfl (And.intro rfl (And.intro rfl trivial)))))) (by omega) (by omega)
      · replace hk := hk.2 c17
        refine px_aload (i := 4) C dL_law_2668 rfl ?_
        refine px_iconst (v := (0 : Int32)) C dL_law_2670 rfl ?_
        obtain ⟨o13, hk⟩ := hk
        refine px_dald 5184 C dL_law_2671 rfl rfl rfl rfl o13 ?_
        refine px_aload (i := 4) C dL_law_2672 rfl ?_
        refine px_iconst (v := (0 : Int32)) C dL_law_2674 rfl ?_
        obtain ⟨o14, hk⟩ := hk
        refine px_dald 5184 C dL_law_2675 rfl rfl rfl rfl o14 ?_
        refine px_dcmp C dL_law_2676 ?_
        refine px_if_eq (tgt := 2688) C dL_law_2677 (by decide) (fun c16 => ?_) (fun c16 => ?_)
        · replace hk := hk.1 c16
          refine px_iconst (v := (0 : Int32)) C dL_law_2688 rfl ?_
          exact hk.elim
        · replace hk := hk.2 c16
          refine px_fload (i := 7) C dL_law_2680 rfl ?_
          refine px_fload (i := 7) C dL_law_2682 rfl ?_
          refine px_fcmp C dL_law_2684 ?_
          refine px_if_ne (tgt := 2690) C dL_law_2685 (by decide) (fun c15 => ?_) (fun c15 => ?_)
          · replace hk := hk.1 c15
            refine px_goto (tgt := 3473) C dL_law_2690 (by decide) ?_
            exact PW_at (hN _ hk) (And.intro rfl (And.intro rfl (And.intro rfl (And.intro rfl (And.intro rfl (And.intro rfl trivial)))))) (by omega) (by omega)
          · replace hk := hk.2 c15
            refine px_iconst (v := (0 : Int32)) C dL_law_2688 rfl ?_
            exact hk.elim
  · replace hk := hk.2 c19
    refine px_iconst (v := (0 : Int32)) C dL_law_2650 rfl ?_
    exact hk.elim
theorem dL_law_2693 : decode cL_law 2693 = .ok (.aload_n 1, 1) := by decide +kernel
theorem dL_law_2694 : decode cL_law 2694 = .ok (.aload_n 0, 1) := by decide +kernel
theorem dL_law_2695 : decode cL_law 2695 = .ok (.iload 5, 2) := by decide +kernel
theorem dL_law_2697 : decode cL_law 2697 = .ok (.iconst 1, 1) := by decide +kernel
theorem dL_law_2698 : decode cL_law 2698 = .ok (.iadd, 1) := by decide +kernel
theorem dL_law_2699 : decode cL_law 2699 = .ok (.iaload, 1) := by decide +kernel
theorem dL_law_2700 : decode cL_law 2700 = .ok (.aload_n 3, 1) := by decide +kernel
theorem dL_law_2701 : decode cL_law 2701 = .ok (.invokestatic 306, 3) := by decide +kernel
theorem dL_law_2704 : decode cL_law 2704 = .ok (.istore 6, 2) := by decide +kernel
theorem dL_law_2706 : decode cL_law 2706 = .ok (.aload_n 2, 1) := by decide +kernel
theorem dL_law_2707 : decode cL_law 2707 = .ok (.aload_n 0, 1) := by decide +kernel
theorem dL_law_2708 : decode cL_law 2708 = .ok (.iload 5, 2) := by decide +kernel
theorem dL_law_2710 : decode cL_law 2710 = .ok (.iconst 1, 1) := by decide +kernel
theorem dL_law_2711 : decode cL_law 2711 = .ok (.iadd, 1) := by decide +kernel
theorem dL_law_2712 : decode cL_law 2712 = .ok (.iaload, 1) := by decide +kernel
theorem dL_law_2713 : decode cL_law 2713 = .ok (.invokevirtual 308, 3) := by decide +kernel
theorem dL_law_2716 : decode cL_law 2716 = .ok (.istore 7, 2) := by decide +kernel
theorem dL_law_2718 : decode cL_law 2718 = .ok (.aload_n 2, 1) := by decide +kernel
theorem dL_law_2719 : decode cL_law 2719 = .ok (.invokevirtual 186, 3) := by decide +kernel
theorem dL_law_2722 : decode cL_law 2722 = .ok (.iload 6, 2) := by decide +kernel
theorem dL_law_2724 : decode cL_law 2724 = .ok (.if_icmp .eq 5, 3) := by decide +kernel
theorem dL_law_2727 : decode cL_law 2727 = .ok (.iconst 0, 1) := by decide +kernel
theorem dL_law_2728 : decode cL_law 2728 = .ok (.ireturn, 1) := by decide +kernel
theorem dL_law_2729 : decode cL_law 2729 = .ok (.iload 6, 2) := by decide +kernel
theorem dL_law_2731 : decode cL_law 2731 = .ok (.ifCond .ne 15, 3) := by decide +kernel
theorem dL_law_2734 : decode cL_law 2734 = .ok (.aload_n 3, 1) := by decide +kernel
theorem dL_law_2735 : decode cL_law 2735 = .ok (.iconst 0, 1) := by decide +kernel
theorem dL_law_2736 : decode cL_law 2736 = .ok (.laload, 1) := by decide +kernel
theorem dL_law_2737 : decode cL_law 2737 = .ok (.iload 7, 2) := by decide +kernel
theorem dL_law_2739 : decode cL_law 2739 = .ok (.i2l, 1) := by decide +kernel
theorem dL_law_2740 : decode cL_law 2740 = .ok (.lcmp, 1) := by decide +kernel
theorem dL_law_2741 : decode cL_law 2741 = .ok (.ifCond .eq 5, 3) := by decide +kernel
theorem dL_law_2744 : decode cL_law 2744 = .ok (.iconst 0, 1) := by decide +kernel
theorem dL_law_2745 : decode cL_law 2745 = .ok (.ireturn, 1) := by decide +kernel
theorem dL_law_2746 : decode cL_law 2746 = .ok (.goto 727, 3) := by decide +kernel
set_option maxRecDepth 100000 in
set_option maxHeartbeats 4000000 in
theorem lc37_ok {G : GT} {b L A B : Nat} {xs : Nat → Int32} {μ : Mem} {i : Int32} {N : Mem → Prop} (C : PCx G cL_law 9 RL) (hX : Scr G b L xs) (hHR : HR G 12) (hN : ∀ μ : Mem, N μ → PW G A B 3473 [some (pW (.ref b)), some (pR 40 0), some (pR 50 0), some (pR 80 0), some (pR 81 0), some (pI i), none, none, none] [] μ) (hk : lc37_wp xs L μ i N) : PW G (A + 3) (B + 18) 2693 [some (pW (.ref b)), some (pR 40 0), some (pR 50 0), some (pR 80 0), some (pR 81 0), some (pI i), none, none, none] [] μ := by
  unfold lc37_wp at hk
  refine px_aload_n (i := 1) C dL_law_2693 rfl rfl ?_
  refine px_aload_nw (i := 0) C dL_law_2694 rfl rfl ?_
  refine px_iload (i := 5) C dL_law_2695 rfl ?_
  refine px_iconst (v := (1 : Int32)) C dL_law_2697 rfl ?_
  refine px_iadd C dL_law_2698 ?_
  obtain ⟨o1, hk⟩ := hk
  refine px_sld C hX dL_law_2699 o1 ?_
  refine px_aload_n (i := 3) C dL_law_2700 rfl rfl ?_
  refine px_callSH (h := 11) (rc' := A + 0) (rs' := B + 0) C (HR_le hHR (Nat.le_of_ble_eq_true rfl)) dL_law_2701 (gw5 237 rfl rfl) ms_L_busiest (L_busiest_ok (PCx_l C) (PCx_I C) hk) rfl rfl (Nat.le_of_ble_eq_true rfl) (Nat.le_of_ble_eq_true rfl) (by omega) (by omega) ?_
  intro r3 μ2 hk
  refine px_istore (i := 6) C dL_law_2704 (by decide) rfl ?_
  refine px_aload_n (i := 2) C dL_law_2706 rfl rfl ?_
  refine px_aload_nw (i := 0) C dL_law_2707 rfl rfl ?_
  refine px_iload (i := 5) C dL_law_2708 rfl ?_
  refine px_iconst (v := (1 : Int32)) C dL_law_2710 rfl ?_
  refine px_iadd C dL_law_2711 ?_
  obtain ⟨o4, hk⟩ := hk
  refine px_sld C hX dL_law_2712 o4 ?_
  refine px_callVNi (h := 7) (rc' := A + 0) (rs' := B + 0) C (HR_le hHR (Nat.le_of_ble_eq_true rfl)) dL_law_2713 (gw10 4 rfl rfl) mv_X9_busiest (w9_busiest_ok (PCx_l C) (PCx_I C) hk) rfl rfl rfl rfl rfl (Nat.le_of_ble_eq_true rfl) (Nat.le_of_ble_eq_true rfl) (by omega) (by omega) ?_
  intro r6 μ5 hk
  refine px_istore (i := 7) C dL_law_2716 (by decide) rfl ?_
  refine px_aload_n (i := 2) C dL_law_2718 rfl rfl ?_
  refine px_callVNi (h := 0) (rc' := A + 0) (rs' := B + 0) C (HR_le hHR (Nat.le_of_ble_eq_true rfl)) dL_law_2719 (gw8 123 rfl rfl) mv_X9_thrown (w9_thrown_ok (PCx_l C) (PCx_I C) hk) rfl rfl rfl rfl rfl (Nat.le_of_ble_eq_true rfl) (Nat.le_of_ble_eq_true rfl) (by omega) (by omega) ?_
  intro r8 μ7 hk
  refine px_iload (i := 6) C dL_law_2722 rfl ?_
  refine px_icmp_eq (tgt := 2729) C dL_law_2724 (by decide) (fun c13 => ?_) (fun c13 => ?_)
  · replace hk := hk.1 c13
    refine px_iload (i := 6) C dL_law_2729 rfl ?_
    refine px_if_ne (tgt := 2746) C dL_law_2731 (by decide) (fun c12 => ?_) (fun c12 => ?_)
    · replace hk := hk.1 c12
      refine px_goto (tgt := 3473) C dL_law_2746 (by decide) ?_
      exact PW_at (hN _ hk) (And.intro rfl (And.intro rfl (And.intro rfl (And.intro rfl (And.intro rfl (And.intro rfl trivial)))))) (by omega) (by omega)
    · replace hk := hk.2 c12
      refine px_aload_n (i := 3) C dL_law_2734 rfl rfl ?_
      refine px_iconst (v := (0 : Int32)) C dL_law_2735 rfl ?_
      obtain ⟨o9, hk⟩ := hk
      refine px_lald 5120 C dL_law_2736 rfl rfl rfl rfl o9 ?_
      refine px_iload (i := 7) C dL_law_2737 rfl ?_
      refine px_i2l C dL_law_2739 ?_
      obtain ⟨o10, hk⟩ := hk
      refine px_lcmp C dL_law_2740 o10 ?_
      refine px_if_eq (tgt := 2746) C dL_law_2741 (by decide) (fun c11 => ?_) (fun c11 => ?_)
      · replace hk := hk.1 c11
        refine px_goto (tgt := 3473) C dL_law_2746 (by decide) ?_
        exact PW_at (hN _ hk) (And.intro rfl (And.intro rfl (And.intro rfl (And.intro rfl (And.intro rfl (And.intro rfl trivial)))))) (by omega) (by omega)
      · replace hk := hk.2 c11
        refine px_iconst (v := (0 : Int32)) C dL_law_2744 rfl ?_
        exact hk.elim
  · replace hk := hk.2 c13
    refine px_iconst (v := (0 : Int32)) C dL_law_2727 rfl ?_
    exact hk.elim
theorem dL_law_2749 : decode cL_law 2749 = .ok (.aload_n 1, 1) := by decide +kernel
theorem dL_law_2750 : decode cL_law 2750 = .ok (.aload_n 0, 1) := by decide +kernel
theorem dL_law_2751 : decode cL_law 2751 = .ok (.iload 5, 2) := by decide +kernel
theorem dL_law_2753 : decode cL_law 2753 = .ok (.iconst 1, 1) := by decide +kernel
theorem dL_law_2754 : decode cL_law 2754 = .ok (.iadd, 1) := by decide +kernel
theorem dL_law_2755 : decode cL_law 2755 = .ok (.iaload, 1) := by decide +kernel
theorem dL_law_2756 : decode cL_law 2756 = .ok (.aload_n 0, 1) := by decide +kernel
theorem dL_law_2757 : decode cL_law 2757 = .ok (.iload 5, 2) := by decide +kernel
theorem dL_law_2759 : decode cL_law 2759 = .ok (.iconst 2, 1) := by decide +kernel
theorem dL_law_2760 : decode cL_law 2760 = .ok (.iadd, 1) := by decide +kernel
theorem dL_law_2761 : decode cL_law 2761 = .ok (.iaload, 1) := by decide +kernel
theorem dL_law_2762 : decode cL_law 2762 = .ok (.aload_n 3, 1) := by decide +kernel
theorem dL_law_2763 : decode cL_law 2763 = .ok (.invokestatic 309, 3) := by decide +kernel
theorem dL_law_2766 : decode cL_law 2766 = .ok (.istore 6, 2) := by decide +kernel
theorem dL_law_2768 : decode cL_law 2768 = .ok (.aload_n 2, 1) := by decide +kernel
theorem dL_law_2769 : decode cL_law 2769 = .ok (.aload_n 0, 1) := by decide +kernel
theorem dL_law_2770 : decode cL_law 2770 = .ok (.iload 5, 2) := by decide +kernel
theorem dL_law_2772 : decode cL_law 2772 = .ok (.iconst 1, 1) := by decide +kernel
theorem dL_law_2773 : decode cL_law 2773 = .ok (.iadd, 1) := by decide +kernel
theorem dL_law_2774 : decode cL_law 2774 = .ok (.iaload, 1) := by decide +kernel
theorem dL_law_2775 : decode cL_law 2775 = .ok (.aload_n 0, 1) := by decide +kernel
theorem dL_law_2776 : decode cL_law 2776 = .ok (.iload 5, 2) := by decide +kernel
theorem dL_law_2778 : decode cL_law 2778 = .ok (.iconst 2, 1) := by decide +kernel
theorem dL_law_2779 : decode cL_law 2779 = .ok (.iadd, 1) := by decide +kernel
theorem dL_law_2780 : decode cL_law 2780 = .ok (.iaload, 1) := by decide +kernel
theorem dL_law_2781 : decode cL_law 2781 = .ok (.invokevirtual 311, 3) := by decide +kernel
theorem dL_law_2784 : decode cL_law 2784 = .ok (.istore 7, 2) := by decide +kernel
theorem dL_law_2786 : decode cL_law 2786 = .ok (.aload_n 2, 1) := by decide +kernel
theorem dL_law_2787 : decode cL_law 2787 = .ok (.invokevirtual 186, 3) := by decide +kernel
theorem dL_law_2790 : decode cL_law 2790 = .ok (.iload 6, 2) := by decide +kernel
theorem dL_law_2792 : decode cL_law 2792 = .ok (.if_icmp .eq 5, 3) := by decide +kernel
theorem dL_law_2795 : decode cL_law 2795 = .ok (.iconst 0, 1) := by decide +kernel
theorem dL_law_2796 : decode cL_law 2796 = .ok (.ireturn, 1) := by decide +kernel
theorem dL_law_2797 : decode cL_law 2797 = .ok (.iload 6, 2) := by decide +kernel
theorem dL_law_2799 : decode cL_law 2799 = .ok (.ifCond .ne 15, 3) := by decide +kernel
theorem dL_law_2802 : decode cL_law 2802 = .ok (.aload_n 3, 1) := by decide +kernel
theorem dL_law_2803 : decode cL_law 2803 = .ok (.iconst 0, 1) := by decide +kernel
theorem dL_law_2804 : decode cL_law 2804 = .ok (.laload, 1) := by decide +kernel
theorem dL_law_2805 : decode cL_law 2805 = .ok (.iload 7, 2) := by decide +kernel
theorem dL_law_2807 : decode cL_law 2807 = .ok (.i2l, 1) := by decide +kernel
theorem dL_law_2808 : decode cL_law 2808 = .ok (.lcmp, 1) := by decide +kernel
theorem dL_law_2809 : decode cL_law 2809 = .ok (.ifCond .eq 5, 3) := by decide +kernel
theorem dL_law_2812 : decode cL_law 2812 = .ok (.iconst 0, 1) := by decide +kernel
theorem dL_law_2813 : decode cL_law 2813 = .ok (.ireturn, 1) := by decide +kernel
theorem dL_law_2814 : decode cL_law 2814 = .ok (.goto 659, 3) := by decide +kernel
set_option maxRecDepth 100000 in
set_option maxHeartbeats 4000000 in
theorem lc38_ok {G : GT} {b L A B : Nat} {xs : Nat → Int32} {μ : Mem} {i : Int32} {N : Mem → Prop} (C : PCx G cL_law 9 RL) (hX : Scr G b L xs) (hHR : HR G 11) (hN : ∀ μ : Mem, N μ → PW G A B 3473 [some (pW (.ref b)), some (pR 40 0), some (pR 50 0), some (pR 80 0), some (pR 81 0), some (pI i), none, none, none] [] μ) (hk : lc38_wp xs L μ i N) : PW G (A + 3) (B + 18) 2749 [some (pW (.ref b)), some (pR 40 0), some (pR 50 0), some (pR 80 0), some (pR 81 0), some (pI i), none, none, none] [] μ := by
  unfold lc38_wp at hk
  refine px_aload_n (i := 1) C dL_law_2749 rfl rfl ?_
  refine px_aload_nw (i := 0) C dL_law_2750 rfl rfl ?_
  refine px_iload (i := 5) C dL_law_2751 rfl ?_
  refine px_iconst (v := (1 : Int32)) C dL_law_2753 rfl ?_
  refine px_iadd C dL_law_2754 ?_
  obtain ⟨o1, hk⟩ := hk
  refine px_sld C hX dL_law_2755 o1 ?_
  refine px_aload_nw (i := 0) C dL_law_2756 rfl rfl ?_
  refine px_iload (i := 5) C dL_law_2757 rfl ?_
  refine px_iconst (v := (2 : Int32)) C dL_law_2759 rfl ?_
  refine px_iadd C dL_law_2760 ?_
  obtain ⟨o2, hk⟩ := hk
  refine px_sld C hX dL_law_2761 o2 ?_
  refine px_aload_n (i := 3) C dL_law_2762 rfl rfl ?_
  refine px_callSH (h := 10) (rc' := A + 0) (rs' := B + 0) C (HR_le hHR (Nat.le_of_ble_eq_true rfl)) dL_law_2763 (gw6 9 rfl rfl) ms_L_link (L_link_ok (PCx_l C) (PCx_I C) hk) rfl rfl (Nat.le_of_ble_eq_true rfl) (Nat.le_of_ble_eq_true rfl) (by omega) (by omega) ?_
  intro r4 μ3 hk
  refine px_istore (i := 6) C dL_law_2766 (by decide) rfl ?_
  refine px_aload_n (i := 2) C dL_law_2768 rfl rfl ?_
  refine px_aload_nw (i := 0) C dL_law_2769 rfl rfl ?_
  refine px_iload (i := 5) C dL_law_2770 rfl ?_
  refine px_iconst (v := (1 : Int32)) C dL_law_2772 rfl ?_
  refine px_iadd C dL_law_2773 ?_
  obtain ⟨o5, hk⟩ := hk
  refine px_sld C hX dL_law_2774 o5 ?_
  refine px_aload_nw (i := 0) C dL_law_2775 rfl rfl ?_
  refine px_iload (i := 5) C dL_law_2776 rfl ?_
  refine px_iconst (v := (2 : Int32)) C dL_law_2778 rfl ?_
  refine px_iadd C dL_law_2779 ?_
  obtain ⟨o6, hk⟩ := hk
  refine px_sld C hX dL_law_2780 o6 ?_
  refine px_callVNi (h := 2) (rc' := A + 0) (rs' := B + 0) C (HR_le hHR (Nat.le_of_ble_eq_true rfl)) dL_law_2781 (gw10 8 rfl rfl) mv_X9_link (w9_link_ok (PCx_l C) (PCx_I C) hk) rfl rfl rfl rfl rfl (Nat.le_of_ble_eq_true rfl) (Nat.le_of_ble_eq_true rfl) (by omega) (by omega) ?_
  intro r8 μ7 hk
  refine px_istore (i := 7) C dL_law_2784 (by decide) rfl ?_
  refine px_aload_n (i := 2) C dL_law_2786 rfl rfl ?_
  refine px_callVNi (h := 0) (rc' := A + 0) (rs' := B + 0) C (HR_le hHR (Nat.le_of_ble_eq_true rfl)) dL_law_2787 (gw8 123 rfl rfl) mv_X9_thrown (w9_thrown_ok (PCx_l C) (PCx_I C) hk) rfl rfl rfl rfl rfl (Nat.le_of_ble_eq_true rfl) (Nat.le_of_ble_eq_true rfl) (by omega) (by omega) ?_
  intro r10 μ9 hk
  refine px_iload (i := 6) C dL_law_2790 rfl ?_
  refine px_icmp_eq (tgt := 2797) C dL_law_2792 (by decide) (fun c15 => ?_) (fun c15 => ?_)
  · replace hk := hk.1 c15
    refine px_iload (i := 6) C dL_law_2797 rfl ?_
    refine px_if_ne (tgt := 2814) C dL_law_2799 (by decide) (fun c14 => ?_) (fun c14 => ?_)
    · replace hk := hk.1 c14
      refine px_goto (tgt := 3473) C dL_law_2814 (by decide) ?_
      exact PW_at (hN _ hk) (And.intro rfl (And.intro rfl (And.intro rfl (And.intro rfl (And.intro rfl (And.intro rfl trivial)))))) (by omega) (by omega)
    · replace hk := hk.2 c14
      refine px_aload_n (i := 3) C dL_law_2802 rfl rfl ?_
      refine px_iconst (v := (0 : Int32)) C dL_law_2803 rfl ?_
      obtain ⟨o11, hk⟩ := hk
      refine px_lald 5120 C dL_law_2804 rfl rfl rfl rfl o11 ?_
      refine px_iload (i := 7) C dL_law_2805 rfl ?_
      refine px_i2l C dL_law_2807 ?_
      obtain ⟨o12, hk⟩ := hk
      refine px_lcmp C dL_law_2808 o12 ?_
      refine px_if_eq (tgt := 2814) C dL_law_2809 (by decide) (fun c13 => ?_) (fun c13 => ?_)
      · replace hk := hk.1 c13
        refine px_goto (tgt := 3473) C dL_law_2814 (by decide) ?_
        exact PW_at (hN _ hk) (And.intro rfl (And.intro rfl (And.intro rfl (And.intro rfl (And.intro rfl (And.intro rfl trivial)))))) (by omega) (by omega)
      · replace hk := hk.2 c13
        refine px_iconst (v := (0 : Int32)) C dL_law_2812 rfl ?_
        exact hk.elim
  · replace hk := hk.2 c15
    refine px_iconst (v := (0 : Int32)) C dL_law_2795 rfl ?_
    exact hk.elim
theorem dL_law_2817 : decode cL_law 2817 = .ok (.aload_n 1, 1) := by decide +kernel
theorem dL_law_2818 : decode cL_law 2818 = .ok (.aload_n 0, 1) := by decide +kernel
theorem dL_law_2819 : decode cL_law 2819 = .ok (.iload 5, 2) := by decide +kernel
theorem dL_law_2821 : decode cL_law 2821 = .ok (.iconst 1, 1) := by decide +kernel
theorem dL_law_2822 : decode cL_law 2822 = .ok (.iadd, 1) := by decide +kernel
theorem dL_law_2823 : decode cL_law 2823 = .ok (.iaload, 1) := by decide +kernel
theorem dL_law_2824 : decode cL_law 2824 = .ok (.aload_n 3, 1) := by decide +kernel
theorem dL_law_2825 : decode cL_law 2825 = .ok (.invokestatic 312, 3) := by decide +kernel
theorem dL_law_2828 : decode cL_law 2828 = .ok (.istore 6, 2) := by decide +kernel
theorem dL_law_2830 : decode cL_law 2830 = .ok (.aload_n 2, 1) := by decide +kernel
theorem dL_law_2831 : decode cL_law 2831 = .ok (.aload_n 0, 1) := by decide +kernel
theorem dL_law_2832 : decode cL_law 2832 = .ok (.iload 5, 2) := by decide +kernel
theorem dL_law_2834 : decode cL_law 2834 = .ok (.iconst 1, 1) := by decide +kernel
theorem dL_law_2835 : decode cL_law 2835 = .ok (.iadd, 1) := by decide +kernel
theorem dL_law_2836 : decode cL_law 2836 = .ok (.iaload, 1) := by decide +kernel
theorem dL_law_2837 : decode cL_law 2837 = .ok (.invokevirtual 314, 3) := by decide +kernel
theorem dL_law_2840 : decode cL_law 2840 = .ok (.istore 7, 2) := by decide +kernel
theorem dL_law_2842 : decode cL_law 2842 = .ok (.aload_n 2, 1) := by decide +kernel
theorem dL_law_2843 : decode cL_law 2843 = .ok (.invokevirtual 186, 3) := by decide +kernel
theorem dL_law_2846 : decode cL_law 2846 = .ok (.iload 6, 2) := by decide +kernel
theorem dL_law_2848 : decode cL_law 2848 = .ok (.if_icmp .eq 5, 3) := by decide +kernel
theorem dL_law_2851 : decode cL_law 2851 = .ok (.iconst 0, 1) := by decide +kernel
theorem dL_law_2852 : decode cL_law 2852 = .ok (.ireturn, 1) := by decide +kernel
theorem dL_law_2853 : decode cL_law 2853 = .ok (.iload 6, 2) := by decide +kernel
theorem dL_law_2855 : decode cL_law 2855 = .ok (.ifCond .ne 15, 3) := by decide +kernel
theorem dL_law_2858 : decode cL_law 2858 = .ok (.aload_n 3, 1) := by decide +kernel
theorem dL_law_2859 : decode cL_law 2859 = .ok (.iconst 0, 1) := by decide +kernel
theorem dL_law_2860 : decode cL_law 2860 = .ok (.laload, 1) := by decide +kernel
theorem dL_law_2861 : decode cL_law 2861 = .ok (.iload 7, 2) := by decide +kernel
theorem dL_law_2863 : decode cL_law 2863 = .ok (.i2l, 1) := by decide +kernel
theorem dL_law_2864 : decode cL_law 2864 = .ok (.lcmp, 1) := by decide +kernel
theorem dL_law_2865 : decode cL_law 2865 = .ok (.ifCond .eq 5, 3) := by decide +kernel
theorem dL_law_2868 : decode cL_law 2868 = .ok (.iconst 0, 1) := by decide +kernel
theorem dL_law_2869 : decode cL_law 2869 = .ok (.ireturn, 1) := by decide +kernel
theorem dL_law_2870 : decode cL_law 2870 = .ok (.goto 603, 3) := by decide +kernel
set_option maxRecDepth 100000 in
set_option maxHeartbeats 4000000 in
theorem lc39_ok {G : GT} {b L A B : Nat} {xs : Nat → Int32} {μ : Mem} {i : Int32} {N : Mem → Prop} (C : PCx G cL_law 9 RL) (hX : Scr G b L xs) (hHR : HR G 11) (hN : ∀ μ : Mem, N μ → PW G A B 3473 [some (pW (.ref b)), some (pR 40 0), some (pR 50 0), some (pR 80 0), some (pR 81 0), some (pI i), none, none, none] [] μ) (hk : lc39_wp xs L μ i N) : PW G (A + 1) (B + 6) 2817 [some (pW (.ref b)), some (pR 40 0), some (pR 50 0), some (pR 80 0), some (pR 81 0), some (pI i), none, none, none] [] μ := by
  unfold lc39_wp at hk
  refine px_aload_n (i := 1) C dL_law_2817 rfl rfl ?_
  refine px_aload_nw (i := 0) C dL_law_2818 rfl rfl ?_
  refine px_iload (i := 5) C dL_law_2819 rfl ?_
  refine px_iconst (v := (1 : Int32)) C dL_law_2821 rfl ?_
  refine px_iadd C dL_law_2822 ?_
  obtain ⟨o1, hk⟩ := hk
  refine px_sld C hX dL_law_2823 o1 ?_
  refine px_aload_n (i := 3) C dL_law_2824 rfl rfl ?_
  refine px_callSH (h := 10) (rc' := A + 0) (rs' := B + 0) C (HR_le hHR (Nat.le_of_ble_eq_true rfl)) dL_law_2825 (gw6 23 rfl rfl) ms_L_unlink (L_unlink_ok (PCx_l C) (PCx_I C) hk) rfl rfl (Nat.le_of_ble_eq_true rfl) (Nat.le_of_ble_eq_true rfl) (by omega) (by omega) ?_
  intro r3 μ2 hk
  refine px_istore (i := 6) C dL_law_2828 (by decide) rfl ?_
  refine px_aload_n (i := 2) C dL_law_2830 rfl rfl ?_
  refine px_aload_nw (i := 0) C dL_law_2831 rfl rfl ?_
  refine px_iload (i := 5) C dL_law_2832 rfl ?_
  refine px_iconst (v := (1 : Int32)) C dL_law_2834 rfl ?_
  refine px_iadd C dL_law_2835 ?_
  obtain ⟨o4, hk⟩ := hk
  refine px_sld C hX dL_law_2836 o4 ?_
  refine px_callVNi (h := 1) (rc' := A + 0) (rs' := B + 0) C (HR_le hHR (Nat.le_of_ble_eq_true rfl)) dL_law_2837 (gw10 16 rfl rfl) mv_X9_unlink (w9_unlink_ok (PCx_l C) (PCx_I C) hk) rfl rfl rfl rfl rfl (Nat.le_of_ble_eq_true rfl) (Nat.le_of_ble_eq_true rfl) (by omega) (by omega) ?_
  intro r6 μ5 hk
  refine px_istore (i := 7) C dL_law_2840 (by decide) rfl ?_
  refine px_aload_n (i := 2) C dL_law_2842 rfl rfl ?_
  refine px_callVNi (h := 0) (rc' := A + 0) (rs' := B + 0) C (HR_le hHR (Nat.le_of_ble_eq_true rfl)) dL_law_2843 (gw8 123 rfl rfl) mv_X9_thrown (w9_thrown_ok (PCx_l C) (PCx_I C) hk) rfl rfl rfl rfl rfl (Nat.le_of_ble_eq_true rfl) (Nat.le_of_ble_eq_true rfl) (by omega) (by omega) ?_
  intro r8 μ7 hk
  refine px_iload (i := 6) C dL_law_2846 rfl ?_
  refine px_icmp_eq (tgt := 2853) C dL_law_2848 (by decide) (fun c13 => ?_) (fun c13 => ?_)
  · replace hk := hk.1 c13
    refine px_iload (i := 6) C dL_law_2853 rfl ?_
    refine px_if_ne (tgt := 2870) C dL_law_2855 (by decide) (fun c12 => ?_) (fun c12 => ?_)
    · replace hk := hk.1 c12
      refine px_goto (tgt := 3473) C dL_law_2870 (by decide) ?_
      exact PW_at (hN _ hk) (And.intro rfl (And.intro rfl (And.intro rfl (And.intro rfl (And.intro rfl (And.intro rfl trivial)))))) (by omega) (by omega)
    · replace hk := hk.2 c12
      refine px_aload_n (i := 3) C dL_law_2858 rfl rfl ?_
      refine px_iconst (v := (0 : Int32)) C dL_law_2859 rfl ?_
      obtain ⟨o9, hk⟩ := hk
      refine px_lald 5120 C dL_law_2860 rfl rfl rfl rfl o9 ?_
      refine px_iload (i := 7) C dL_law_2861 rfl ?_
      refine px_i2l C dL_law_2863 ?_
      obtain ⟨o10, hk⟩ := hk
      refine px_lcmp C dL_law_2864 o10 ?_
      refine px_if_eq (tgt := 2870) C dL_law_2865 (by decide) (fun c11 => ?_) (fun c11 => ?_)
      · replace hk := hk.1 c11
        refine px_goto (tgt := 3473) C dL_law_2870 (by decide) ?_
        exact PW_at (hN _ hk) (And.intro rfl (And.intro rfl (And.intro rfl (And.intro rfl (And.intro rfl (And.intro rfl trivial)))))) (by omega) (by omega)
      · replace hk := hk.2 c11
        refine px_iconst (v := (0 : Int32)) C dL_law_2868 rfl ?_
        exact hk.elim
  · replace hk := hk.2 c13
    refine px_iconst (v := (0 : Int32)) C dL_law_2851 rfl ?_
    exact hk.elim
theorem dL_law_2873 : decode cL_law 2873 = .ok (.aload_n 1, 1) := by decide +kernel
theorem dL_law_2874 : decode cL_law 2874 = .ok (.invokevirtual 315, 3) := by decide +kernel
theorem dL_law_2877 : decode cL_law 2877 = .ok (.aload_n 2, 1) := by decide +kernel
theorem dL_law_2878 : decode cL_law 2878 = .ok (.invokevirtual 318, 3) := by decide +kernel
theorem dL_law_2881 : decode cL_law 2881 = .ok (.if_icmp .eq 592, 3) := by decide +kernel
theorem dL_law_2884 : decode cL_law 2884 = .ok (.iconst 0, 1) := by decide +kernel
theorem dL_law_2885 : decode cL_law 2885 = .ok (.ireturn, 1) := by decide +kernel
set_option maxRecDepth 100000 in
set_option maxHeartbeats 4000000 in
theorem lc40_ok {G : GT} {b L A B : Nat} {xs : Nat → Int32} {μ : Mem} {i : Int32} {N : Mem → Prop} (C : PCx G cL_law 9 RL) (hX : Scr G b L xs) (hHR : HR G 1) (hN : ∀ μ : Mem, N μ → PW G A B 3473 [some (pW (.ref b)), some (pR 40 0), some (pR 50 0), some (pR 80 0), some (pR 81 0), some (pI i), none, none, none] [] μ) (hk : lc40_wp xs L μ i N) : PW G (A + 0) (B + 0) 2873 [some (pW (.ref b)), some (pR 40 0), some (pR 50 0), some (pR 80 0), some (pR 81 0), some (pI i), none, none, none] [] μ := by
  unfold lc40_wp at hk
  refine px_aload_n (i := 1) C dL_law_2873 rfl rfl ?_
  refine px_callVNi (h := 0) (rc' := A + 0) (rs' := B + 0) C (HR_le hHR (Nat.le_of_ble_eq_true rfl)) dL_law_2874 (gw3 28 rfl rfl) mv_X8_linkCount (w8_linkCount_ok (PCx_l C) (PCx_I C) hk) rfl rfl rfl rfl rfl (Nat.le_of_ble_eq_true rfl) (Nat.le_of_ble_eq_true rfl) (by omega) (by omega) ?_
  intro r2 μ1 hk
  refine px_aload_n (i := 2) C dL_law_2877 rfl rfl ?_
  refine px_callVNi (h := 0) (rc' := A + 0) (rs' := B + 0) C (HR_le hHR (Nat.le_of_ble_eq_true rfl)) dL_law_2878 (gw10 20 rfl rfl) mv_X9_linkCount (w9_linkCount_ok (PCx_l C) (PCx_I C) hk) rfl rfl rfl rfl rfl (Nat.le_of_ble_eq_true rfl) (Nat.le_of_ble_eq_true rfl) (by omega) (by omega) ?_
  intro r4 μ3 hk
  refine px_icmp_eq (tgt := 3473) C dL_law_2881 (by decide) (fun c5 => ?_) (fun c5 => ?_)
  · replace hk := hk.1 c5
    exact PW_at (hN _ hk) (And.intro rfl (And.intro rfl (And.intro rfl (And.intro rfl (And.intro rfl (And.intro rfl trivial)))))) (by omega) (by omega)
  · replace hk := hk.2 c5
    refine px_iconst (v := (0 : Int32)) C dL_law_2884 rfl ?_
    exact hk.elim
theorem dL_law_2886 : decode cL_law 2886 = .ok (.aload_n 1, 1) := by decide +kernel
theorem dL_law_2887 : decode cL_law 2887 = .ok (.aload_n 0, 1) := by decide +kernel
theorem dL_law_2888 : decode cL_law 2888 = .ok (.iload 5, 2) := by decide +kernel
theorem dL_law_2890 : decode cL_law 2890 = .ok (.iconst 1, 1) := by decide +kernel
theorem dL_law_2891 : decode cL_law 2891 = .ok (.iadd, 1) := by decide +kernel
theorem dL_law_2892 : decode cL_law 2892 = .ok (.iaload, 1) := by decide +kernel
theorem dL_law_2893 : decode cL_law 2893 = .ok (.aload_n 3, 1) := by decide +kernel
theorem dL_law_2894 : decode cL_law 2894 = .ok (.invokestatic 319, 3) := by decide +kernel
theorem dL_law_2897 : decode cL_law 2897 = .ok (.istore 6, 2) := by decide +kernel
theorem dL_law_2899 : decode cL_law 2899 = .ok (.aload_n 2, 1) := by decide +kernel
theorem dL_law_2900 : decode cL_law 2900 = .ok (.aload_n 0, 1) := by decide +kernel
theorem dL_law_2901 : decode cL_law 2901 = .ok (.iload 5, 2) := by decide +kernel
theorem dL_law_2903 : decode cL_law 2903 = .ok (.iconst 1, 1) := by decide +kernel
theorem dL_law_2904 : decode cL_law 2904 = .ok (.iadd, 1) := by decide +kernel
theorem dL_law_2905 : decode cL_law 2905 = .ok (.iaload, 1) := by decide +kernel
theorem dL_law_2906 : decode cL_law 2906 = .ok (.invokevirtual 321, 3) := by decide +kernel
theorem dL_law_2909 : decode cL_law 2909 = .ok (.istore 7, 2) := by decide +kernel
theorem dL_law_2911 : decode cL_law 2911 = .ok (.aload_n 2, 1) := by decide +kernel
theorem dL_law_2912 : decode cL_law 2912 = .ok (.invokevirtual 186, 3) := by decide +kernel
theorem dL_law_2915 : decode cL_law 2915 = .ok (.iload 6, 2) := by decide +kernel
theorem dL_law_2917 : decode cL_law 2917 = .ok (.if_icmp .eq 5, 3) := by decide +kernel
theorem dL_law_2920 : decode cL_law 2920 = .ok (.iconst 0, 1) := by decide +kernel
theorem dL_law_2921 : decode cL_law 2921 = .ok (.ireturn, 1) := by decide +kernel
theorem dL_law_2922 : decode cL_law 2922 = .ok (.iload 6, 2) := by decide +kernel
theorem dL_law_2924 : decode cL_law 2924 = .ok (.ifCond .ne 15, 3) := by decide +kernel
theorem dL_law_2927 : decode cL_law 2927 = .ok (.aload_n 3, 1) := by decide +kernel
theorem dL_law_2928 : decode cL_law 2928 = .ok (.iconst 0, 1) := by decide +kernel
theorem dL_law_2929 : decode cL_law 2929 = .ok (.laload, 1) := by decide +kernel
theorem dL_law_2930 : decode cL_law 2930 = .ok (.iload 7, 2) := by decide +kernel
theorem dL_law_2932 : decode cL_law 2932 = .ok (.i2l, 1) := by decide +kernel
theorem dL_law_2933 : decode cL_law 2933 = .ok (.lcmp, 1) := by decide +kernel
theorem dL_law_2934 : decode cL_law 2934 = .ok (.ifCond .eq 5, 3) := by decide +kernel
theorem dL_law_2937 : decode cL_law 2937 = .ok (.iconst 0, 1) := by decide +kernel
theorem dL_law_2938 : decode cL_law 2938 = .ok (.ireturn, 1) := by decide +kernel
theorem dL_law_2939 : decode cL_law 2939 = .ok (.goto 534, 3) := by decide +kernel
set_option maxRecDepth 100000 in
set_option maxHeartbeats 4000000 in
theorem lc41_ok {G : GT} {b L A B : Nat} {xs : Nat → Int32} {μ : Mem} {i : Int32} {N : Mem → Prop} (C : PCx G cL_law 9 RL) (hX : Scr G b L xs) (hHR : HR G 11) (hN : ∀ μ : Mem, N μ → PW G A B 3473 [some (pW (.ref b)), some (pR 40 0), some (pR 50 0), some (pR 80 0), some (pR 81 0), some (pI i), none, none, none] [] μ) (hk : lc41_wp xs L μ i N) : PW G (A + 3) (B + 18) 2886 [some (pW (.ref b)), some (pR 40 0), some (pR 50 0), some (pR 80 0), some (pR 81 0), some (pI i), none, none, none] [] μ := by
  unfold lc41_wp at hk
  refine px_aload_n (i := 1) C dL_law_2886 rfl rfl ?_
  refine px_aload_nw (i := 0) C dL_law_2887 rfl rfl ?_
  refine px_iload (i := 5) C dL_law_2888 rfl ?_
  refine px_iconst (v := (1 : Int32)) C dL_law_2890 rfl ?_
  refine px_iadd C dL_law_2891 ?_
  obtain ⟨o1, hk⟩ := hk
  refine px_sld C hX dL_law_2892 o1 ?_
  refine px_aload_n (i := 3) C dL_law_2893 rfl rfl ?_
  refine px_callSH (h := 10) (rc' := A + 0) (rs' := B + 0) C (HR_le hHR (Nat.le_of_ble_eq_true rfl)) dL_law_2894 (gw6 39 rfl rfl) ms_L_linkDelay (L_linkDelay_ok (PCx_l C) (PCx_I C) hk) rfl rfl (Nat.le_of_ble_eq_true rfl) (Nat.le_of_ble_eq_true rfl) (by omega) (by omega) ?_
  intro r3 μ2 hk
  refine px_istore (i := 6) C dL_law_2897 (by decide) rfl ?_
  refine px_aload_n (i := 2) C dL_law_2899 rfl rfl ?_
  refine px_aload_nw (i := 0) C dL_law_2900 rfl rfl ?_
  refine px_iload (i := 5) C dL_law_2901 rfl ?_
  refine px_iconst (v := (1 : Int32)) C dL_law_2903 rfl ?_
  refine px_iadd C dL_law_2904 ?_
  obtain ⟨o4, hk⟩ := hk
  refine px_sld C hX dL_law_2905 o4 ?_
  refine px_callVNi (h := 6) (rc' := A + 0) (rs' := B + 0) C (HR_le hHR (Nat.le_of_ble_eq_true rfl)) dL_law_2906 (gw10 24 rfl rfl) mv_X9_linkDelay (w9_linkDelay_ok (PCx_l C) (PCx_I C) hk) rfl rfl rfl rfl rfl (Nat.le_of_ble_eq_true rfl) (Nat.le_of_ble_eq_true rfl) (by omega) (by omega) ?_
  intro r6 μ5 hk
  refine px_istore (i := 7) C dL_law_2909 (by decide) rfl ?_
  refine px_aload_n (i := 2) C dL_law_2911 rfl rfl ?_
  refine px_callVNi (h := 0) (rc' := A + 0) (rs' := B + 0) C (HR_le hHR (Nat.le_of_ble_eq_true rfl)) dL_law_2912 (gw8 123 rfl rfl) mv_X9_thrown (w9_thrown_ok (PCx_l C) (PCx_I C) hk) rfl rfl rfl rfl rfl (Nat.le_of_ble_eq_true rfl) (Nat.le_of_ble_eq_true rfl) (by omega) (by omega) ?_
  intro r8 μ7 hk
  refine px_iload (i := 6) C dL_law_2915 rfl ?_
  refine px_icmp_eq (tgt := 2922) C dL_law_2917 (by decide) (fun c13 => ?_) (fun c13 => ?_)
  · replace hk := hk.1 c13
    refine px_iload (i := 6) C dL_law_2922 rfl ?_
    refine px_if_ne (tgt := 2939) C dL_law_2924 (by decide) (fun c12 => ?_) (fun c12 => ?_)
    · replace hk := hk.1 c12
      refine px_goto (tgt := 3473) C dL_law_2939 (by decide) ?_
      exact PW_at (hN _ hk) (And.intro rfl (And.intro rfl (And.intro rfl (And.intro rfl (And.intro rfl (And.intro rfl trivial)))))) (by omega) (by omega)
    · replace hk := hk.2 c12
      refine px_aload_n (i := 3) C dL_law_2927 rfl rfl ?_
      refine px_iconst (v := (0 : Int32)) C dL_law_2928 rfl ?_
      obtain ⟨o9, hk⟩ := hk
      refine px_lald 5120 C dL_law_2929 rfl rfl rfl rfl o9 ?_
      refine px_iload (i := 7) C dL_law_2930 rfl ?_
      refine px_i2l C dL_law_2932 ?_
      obtain ⟨o10, hk⟩ := hk
      refine px_lcmp C dL_law_2933 o10 ?_
      refine px_if_eq (tgt := 2939) C dL_law_2934 (by decide) (fun c11 => ?_) (fun c11 => ?_)
      · replace hk := hk.1 c11
        refine px_goto (tgt := 3473) C dL_law_2939 (by decide) ?_
        exact PW_at (hN _ hk) (And.intro rfl (And.intro rfl (And.intro rfl (And.intro rfl (And.intro rfl (And.intro rfl trivial)))))) (by omega) (by omega)
      · replace hk := hk.2 c11
        refine px_iconst (v := (0 : Int32)) C dL_law_2937 rfl ?_
        exact hk.elim
  · replace hk := hk.2 c13
    refine px_iconst (v := (0 : Int32)) C dL_law_2920 rfl ?_
    exact hk.elim
theorem dL_law_2942 : decode cL_law 2942 = .ok (.aload_n 1, 1) := by decide +kernel
theorem dL_law_2943 : decode cL_law 2943 = .ok (.aload_n 0, 1) := by decide +kernel
theorem dL_law_2944 : decode cL_law 2944 = .ok (.iload 5, 2) := by decide +kernel
theorem dL_law_2946 : decode cL_law 2946 = .ok (.iconst 1, 1) := by decide +kernel
theorem dL_law_2947 : decode cL_law 2947 = .ok (.iadd, 1) := by decide +kernel
theorem dL_law_2948 : decode cL_law 2948 = .ok (.iaload, 1) := by decide +kernel
theorem dL_law_2949 : decode cL_law 2949 = .ok (.aload_n 3, 1) := by decide +kernel
theorem dL_law_2950 : decode cL_law 2950 = .ok (.invokestatic 322, 3) := by decide +kernel
theorem dL_law_2953 : decode cL_law 2953 = .ok (.istore 6, 2) := by decide +kernel
theorem dL_law_2955 : decode cL_law 2955 = .ok (.aload_n 2, 1) := by decide +kernel
theorem dL_law_2956 : decode cL_law 2956 = .ok (.aload_n 0, 1) := by decide +kernel
theorem dL_law_2957 : decode cL_law 2957 = .ok (.iload 5, 2) := by decide +kernel
theorem dL_law_2959 : decode cL_law 2959 = .ok (.iconst 1, 1) := by decide +kernel
theorem dL_law_2960 : decode cL_law 2960 = .ok (.iadd, 1) := by decide +kernel
theorem dL_law_2961 : decode cL_law 2961 = .ok (.iaload, 1) := by decide +kernel
theorem dL_law_2962 : decode cL_law 2962 = .ok (.invokevirtual 324, 3) := by decide +kernel
theorem dL_law_2965 : decode cL_law 2965 = .ok (.istore 7, 2) := by decide +kernel
theorem dL_law_2967 : decode cL_law 2967 = .ok (.aload_n 2, 1) := by decide +kernel
theorem dL_law_2968 : decode cL_law 2968 = .ok (.invokevirtual 186, 3) := by decide +kernel
theorem dL_law_2971 : decode cL_law 2971 = .ok (.iload 6, 2) := by decide +kernel
theorem dL_law_2973 : decode cL_law 2973 = .ok (.if_icmp .eq 5, 3) := by decide +kernel
theorem dL_law_2976 : decode cL_law 2976 = .ok (.iconst 0, 1) := by decide +kernel
theorem dL_law_2977 : decode cL_law 2977 = .ok (.ireturn, 1) := by decide +kernel
theorem dL_law_2978 : decode cL_law 2978 = .ok (.iload 6, 2) := by decide +kernel
theorem dL_law_2980 : decode cL_law 2980 = .ok (.ifCond .ne 15, 3) := by decide +kernel
theorem dL_law_2983 : decode cL_law 2983 = .ok (.aload_n 3, 1) := by decide +kernel
theorem dL_law_2984 : decode cL_law 2984 = .ok (.iconst 0, 1) := by decide +kernel
theorem dL_law_2985 : decode cL_law 2985 = .ok (.laload, 1) := by decide +kernel
theorem dL_law_2986 : decode cL_law 2986 = .ok (.iload 7, 2) := by decide +kernel
theorem dL_law_2988 : decode cL_law 2988 = .ok (.i2l, 1) := by decide +kernel
theorem dL_law_2989 : decode cL_law 2989 = .ok (.lcmp, 1) := by decide +kernel
theorem dL_law_2990 : decode cL_law 2990 = .ok (.ifCond .eq 5, 3) := by decide +kernel
theorem dL_law_2993 : decode cL_law 2993 = .ok (.iconst 0, 1) := by decide +kernel
theorem dL_law_2994 : decode cL_law 2994 = .ok (.ireturn, 1) := by decide +kernel
theorem dL_law_2995 : decode cL_law 2995 = .ok (.goto 478, 3) := by decide +kernel
set_option maxRecDepth 100000 in
set_option maxHeartbeats 4000000 in
theorem lc42_ok {G : GT} {b L A B : Nat} {xs : Nat → Int32} {μ : Mem} {i : Int32} {N : Mem → Prop} (C : PCx G cL_law 9 RL) (hX : Scr G b L xs) (hHR : HR G 11) (hN : ∀ μ : Mem, N μ → PW G A B 3473 [some (pW (.ref b)), some (pR 40 0), some (pR 50 0), some (pR 80 0), some (pR 81 0), some (pI i), none, none, none] [] μ) (hk : lc42_wp xs L μ i N) : PW G (A + 1) (B + 6) 2942 [some (pW (.ref b)), some (pR 40 0), some (pR 50 0), some (pR 80 0), some (pR 81 0), some (pI i), none, none, none] [] μ := by
  unfold lc42_wp at hk
  refine px_aload_n (i := 1) C dL_law_2942 rfl rfl ?_
  refine px_aload_nw (i := 0) C dL_law_2943 rfl rfl ?_
  refine px_iload (i := 5) C dL_law_2944 rfl ?_
  refine px_iconst (v := (1 : Int32)) C dL_law_2946 rfl ?_
  refine px_iadd C dL_law_2947 ?_
  obtain ⟨o1, hk⟩ := hk
  refine px_sld C hX dL_law_2948 o1 ?_
  refine px_aload_n (i := 3) C dL_law_2949 rfl rfl ?_
  refine px_callSH (h := 10) (rc' := A + 0) (rs' := B + 0) C (HR_le hHR (Nat.le_of_ble_eq_true rfl)) dL_law_2950 (gw6 46 rfl rfl) ms_L_linkedTraces (L_linkedTraces_ok (PCx_l C) (PCx_I C) hk) rfl rfl (Nat.le_of_ble_eq_true rfl) (Nat.le_of_ble_eq_true rfl) (by omega) (by omega) ?_
  intro r3 μ2 hk
  refine px_istore (i := 6) C dL_law_2953 (by decide) rfl ?_
  refine px_aload_n (i := 2) C dL_law_2955 rfl rfl ?_
  refine px_aload_nw (i := 0) C dL_law_2956 rfl rfl ?_
  refine px_iload (i := 5) C dL_law_2957 rfl ?_
  refine px_iconst (v := (1 : Int32)) C dL_law_2959 rfl ?_
  refine px_iadd C dL_law_2960 ?_
  obtain ⟨o4, hk⟩ := hk
  refine px_sld C hX dL_law_2961 o4 ?_
  refine px_callVNi (h := 2) (rc' := A + 0) (rs' := B + 0) C (HR_le hHR (Nat.le_of_ble_eq_true rfl)) dL_law_2962 (gw10 28 rfl rfl) mv_X9_linkedTraces (w9_linkedTraces_ok (PCx_l C) (PCx_I C) hk) rfl rfl rfl rfl rfl (Nat.le_of_ble_eq_true rfl) (Nat.le_of_ble_eq_true rfl) (by omega) (by omega) ?_
  intro r6 μ5 hk
  refine px_istore (i := 7) C dL_law_2965 (by decide) rfl ?_
  refine px_aload_n (i := 2) C dL_law_2967 rfl rfl ?_
  refine px_callVNi (h := 0) (rc' := A + 0) (rs' := B + 0) C (HR_le hHR (Nat.le_of_ble_eq_true rfl)) dL_law_2968 (gw8 123 rfl rfl) mv_X9_thrown (w9_thrown_ok (PCx_l C) (PCx_I C) hk) rfl rfl rfl rfl rfl (Nat.le_of_ble_eq_true rfl) (Nat.le_of_ble_eq_true rfl) (by omega) (by omega) ?_
  intro r8 μ7 hk
  refine px_iload (i := 6) C dL_law_2971 rfl ?_
  refine px_icmp_eq (tgt := 2978) C dL_law_2973 (by decide) (fun c13 => ?_) (fun c13 => ?_)
  · replace hk := hk.1 c13
    refine px_iload (i := 6) C dL_law_2978 rfl ?_
    refine px_if_ne (tgt := 2995) C dL_law_2980 (by decide) (fun c12 => ?_) (fun c12 => ?_)
    · replace hk := hk.1 c12
      refine px_goto (tgt := 3473) C dL_law_2995 (by decide) ?_
      exact PW_at (hN _ hk) (And.intro rfl (And.intro rfl (And.intro rfl (And.intro rfl (And.intro rfl (And.intro rfl trivial)))))) (by omega) (by omega)
    · replace hk := hk.2 c12
      refine px_aload_n (i := 3) C dL_law_2983 rfl rfl ?_
      refine px_iconst (v := (0 : Int32)) C dL_law_2984 rfl ?_
      obtain ⟨o9, hk⟩ := hk
      refine px_lald 5120 C dL_law_2985 rfl rfl rfl rfl o9 ?_
      refine px_iload (i := 7) C dL_law_2986 rfl ?_
      refine px_i2l C dL_law_2988 ?_
      obtain ⟨o10, hk⟩ := hk
      refine px_lcmp C dL_law_2989 o10 ?_
      refine px_if_eq (tgt := 2995) C dL_law_2990 (by decide) (fun c11 => ?_) (fun c11 => ?_)
      · replace hk := hk.1 c11
        refine px_goto (tgt := 3473) C dL_law_2995 (by decide) ?_
        exact PW_at (hN _ hk) (And.intro rfl (And.intro rfl (And.intro rfl (And.intro rfl (And.intro rfl (And.intro rfl trivial)))))) (by omega) (by omega)
      · replace hk := hk.2 c11
        refine px_iconst (v := (0 : Int32)) C dL_law_2993 rfl ?_
        exact hk.elim
  · replace hk := hk.2 c13
    refine px_iconst (v := (0 : Int32)) C dL_law_2976 rfl ?_
    exact hk.elim
theorem dL_law_2998 : decode cL_law 2998 = .ok (.aload_n 1, 1) := by decide +kernel
theorem dL_law_2999 : decode cL_law 2999 = .ok (.aload_n 0, 1) := by decide +kernel
theorem dL_law_3000 : decode cL_law 3000 = .ok (.iload 5, 2) := by decide +kernel
theorem dL_law_3002 : decode cL_law 3002 = .ok (.iconst 1, 1) := by decide +kernel
theorem dL_law_3003 : decode cL_law 3003 = .ok (.iadd, 1) := by decide +kernel
theorem dL_law_3004 : decode cL_law 3004 = .ok (.iaload, 1) := by decide +kernel
theorem dL_law_3005 : decode cL_law 3005 = .ok (.aload_n 0, 1) := by decide +kernel
theorem dL_law_3006 : decode cL_law 3006 = .ok (.iload 5, 2) := by decide +kernel
theorem dL_law_3008 : decode cL_law 3008 = .ok (.iconst 2, 1) := by decide +kernel
theorem dL_law_3009 : decode cL_law 3009 = .ok (.iadd, 1) := by decide +kernel
theorem dL_law_3010 : decode cL_law 3010 = .ok (.iaload, 1) := by decide +kernel
theorem dL_law_3011 : decode cL_law 3011 = .ok (.aload_n 0, 1) := by decide +kernel
theorem dL_law_3012 : decode cL_law 3012 = .ok (.iload 5, 2) := by decide +kernel
theorem dL_law_3014 : decode cL_law 3014 = .ok (.iconst 3, 1) := by decide +kernel
theorem dL_law_3015 : decode cL_law 3015 = .ok (.iadd, 1) := by decide +kernel
theorem dL_law_3016 : decode cL_law 3016 = .ok (.iaload, 1) := by decide +kernel
theorem dL_law_3017 : decode cL_law 3017 = .ok (.aload_n 0, 1) := by decide +kernel
theorem dL_law_3018 : decode cL_law 3018 = .ok (.iload 5, 2) := by decide +kernel
theorem dL_law_3020 : decode cL_law 3020 = .ok (.iconst 4, 1) := by decide +kernel
theorem dL_law_3021 : decode cL_law 3021 = .ok (.iadd, 1) := by decide +kernel
theorem dL_law_3022 : decode cL_law 3022 = .ok (.iaload, 1) := by decide +kernel
theorem dL_law_3023 : decode cL_law 3023 = .ok (.aload_n 3, 1) := by decide +kernel
theorem dL_law_3024 : decode cL_law 3024 = .ok (.invokestatic 325, 3) := by decide +kernel
theorem dL_law_3027 : decode cL_law 3027 = .ok (.istore 6, 2) := by decide +kernel
theorem dL_law_3029 : decode cL_law 3029 = .ok (.aload_n 2, 1) := by decide +kernel
theorem dL_law_3030 : decode cL_law 3030 = .ok (.aload_n 0, 1) := by decide +kernel
theorem dL_law_3031 : decode cL_law 3031 = .ok (.iload 5, 2) := by decide +kernel
theorem dL_law_3033 : decode cL_law 3033 = .ok (.iconst 1, 1) := by decide +kernel
theorem dL_law_3034 : decode cL_law 3034 = .ok (.iadd, 1) := by decide +kernel
theorem dL_law_3035 : decode cL_law 3035 = .ok (.iaload, 1) := by decide +kernel
theorem dL_law_3036 : decode cL_law 3036 = .ok (.aload_n 0, 1) := by decide +kernel
theorem dL_law_3037 : decode cL_law 3037 = .ok (.iload 5, 2) := by decide +kernel
theorem dL_law_3039 : decode cL_law 3039 = .ok (.iconst 2, 1) := by decide +kernel
theorem dL_law_3040 : decode cL_law 3040 = .ok (.iadd, 1) := by decide +kernel
theorem dL_law_3041 : decode cL_law 3041 = .ok (.iaload, 1) := by decide +kernel
theorem dL_law_3042 : decode cL_law 3042 = .ok (.aload_n 0, 1) := by decide +kernel
theorem dL_law_3043 : decode cL_law 3043 = .ok (.iload 5, 2) := by decide +kernel
theorem dL_law_3045 : decode cL_law 3045 = .ok (.iconst 3, 1) := by decide +kernel
theorem dL_law_3046 : decode cL_law 3046 = .ok (.iadd, 1) := by decide +kernel
theorem dL_law_3047 : decode cL_law 3047 = .ok (.iaload, 1) := by decide +kernel
theorem dL_law_3048 : decode cL_law 3048 = .ok (.aload_n 0, 1) := by decide +kernel
theorem dL_law_3049 : decode cL_law 3049 = .ok (.iload 5, 2) := by decide +kernel
theorem dL_law_3051 : decode cL_law 3051 = .ok (.iconst 4, 1) := by decide +kernel
theorem dL_law_3052 : decode cL_law 3052 = .ok (.iadd, 1) := by decide +kernel
theorem dL_law_3053 : decode cL_law 3053 = .ok (.iaload, 1) := by decide +kernel
theorem dL_law_3054 : decode cL_law 3054 = .ok (.invokevirtual 327, 3) := by decide +kernel
theorem dL_law_3057 : decode cL_law 3057 = .ok (.istore 7, 2) := by decide +kernel
theorem dL_law_3059 : decode cL_law 3059 = .ok (.aload_n 2, 1) := by decide +kernel
theorem dL_law_3060 : decode cL_law 3060 = .ok (.invokevirtual 186, 3) := by decide +kernel
theorem dL_law_3063 : decode cL_law 3063 = .ok (.iload 6, 2) := by decide +kernel
theorem dL_law_3065 : decode cL_law 3065 = .ok (.if_icmp .eq 5, 3) := by decide +kernel
theorem dL_law_3068 : decode cL_law 3068 = .ok (.iconst 0, 1) := by decide +kernel
theorem dL_law_3069 : decode cL_law 3069 = .ok (.ireturn, 1) := by decide +kernel
theorem dL_law_3070 : decode cL_law 3070 = .ok (.iload 6, 2) := by decide +kernel
theorem dL_law_3072 : decode cL_law 3072 = .ok (.ifCond .ne 15, 3) := by decide +kernel
theorem dL_law_3075 : decode cL_law 3075 = .ok (.aload_n 3, 1) := by decide +kernel
theorem dL_law_3076 : decode cL_law 3076 = .ok (.iconst 0, 1) := by decide +kernel
theorem dL_law_3077 : decode cL_law 3077 = .ok (.laload, 1) := by decide +kernel
theorem dL_law_3078 : decode cL_law 3078 = .ok (.iload 7, 2) := by decide +kernel
theorem dL_law_3080 : decode cL_law 3080 = .ok (.i2l, 1) := by decide +kernel
theorem dL_law_3081 : decode cL_law 3081 = .ok (.lcmp, 1) := by decide +kernel
theorem dL_law_3082 : decode cL_law 3082 = .ok (.ifCond .eq 5, 3) := by decide +kernel
theorem dL_law_3085 : decode cL_law 3085 = .ok (.iconst 0, 1) := by decide +kernel
theorem dL_law_3086 : decode cL_law 3086 = .ok (.ireturn, 1) := by decide +kernel
theorem dL_law_3087 : decode cL_law 3087 = .ok (.goto 386, 3) := by decide +kernel
set_option maxRecDepth 100000 in
set_option maxHeartbeats 4000000 in
theorem lc43_ok {G : GT} {b L A B : Nat} {xs : Nat → Int32} {μ : Mem} {i : Int32} {N : Mem → Prop} (C : PCx G cL_law 9 RL) (hX : Scr G b L xs) (hHR : HR G 12) (hN : ∀ μ : Mem, N μ → PW G A B 3473 [some (pW (.ref b)), some (pR 40 0), some (pR 50 0), some (pR 80 0), some (pR 81 0), some (pI i), none, none, none] [] μ) (hk : lc43_wp xs L μ i N) : PW G (A + 4) (B + 24) 2998 [some (pW (.ref b)), some (pR 40 0), some (pR 50 0), some (pR 80 0), some (pR 81 0), some (pI i), none, none, none] [] μ := by
  unfold lc43_wp at hk
  refine px_aload_n (i := 1) C dL_law_2998 rfl rfl ?_
  refine px_aload_nw (i := 0) C dL_law_2999 rfl rfl ?_
  refine px_iload (i := 5) C dL_law_3000 rfl ?_
  refine px_iconst (v := (1 : Int32)) C dL_law_3002 rfl ?_
  refine px_iadd C dL_law_3003 ?_
  obtain ⟨o1, hk⟩ := hk
  refine px_sld C hX dL_law_3004 o1 ?_
  refine px_aload_nw (i := 0) C dL_law_3005 rfl rfl ?_
  refine px_iload (i := 5) C dL_law_3006 rfl ?_
  refine px_iconst (v := (2 : Int32)) C dL_law_3008 rfl ?_
  refine px_iadd C dL_law_3009 ?_
  obtain ⟨o2, hk⟩ := hk
  refine px_sld C hX dL_law_3010 o2 ?_
  refine px_aload_nw (i := 0) C dL_law_3011 rfl rfl ?_
  refine px_iload (i := 5) C dL_law_3012 rfl ?_
  refine px_iconst (v := (3 : Int32)) C dL_law_3014 rfl ?_
  refine px_iadd C dL_law_3015 ?_
  obtain ⟨o3, hk⟩ := hk
  refine px_sld C hX dL_law_3016 o3 ?_
  refine px_aload_nw (i := 0) C dL_law_3017 rfl rfl ?_
  refine px_iload (i := 5) C dL_law_3018 rfl ?_
  refine px_iconst (v := (4 : Int32)) C dL_law_3020 rfl ?_
  refine px_iadd C dL_law_3021 ?_
  obtain ⟨o4, hk⟩ := hk
  refine px_sld C hX dL_law_3022 o4 ?_
  refine px_aload_n (i := 3) C dL_law_3023 rfl rfl ?_
  refine px_callSH (h := 11) (rc' := A + 0) (rs' := B + 0) C (HR_le hHR (Nat.le_of_ble_eq_true rfl)) dL_law_3024 (gw6 58 rfl rfl) ms_L_bookmark (L_bookmark_ok (PCx_l C) (PCx_I C) hk) rfl rfl (Nat.le_of_ble_eq_true rfl) (Nat.le_of_ble_eq_true rfl) (by omega) (by omega) ?_
  intro r6 μ5 hk
  refine px_istore (i := 6) C dL_law_3027 (by decide) rfl ?_
  refine px_aload_n (i := 2) C dL_law_3029 rfl rfl ?_
  refine px_aload_nw (i := 0) C dL_law_3030 rfl rfl ?_
  refine px_iload (i := 5) C dL_law_3031 rfl ?_
  refine px_iconst (v := (1 : Int32)) C dL_law_3033 rfl ?_
  refine px_iadd C dL_law_3034 ?_
  obtain ⟨o7, hk⟩ := hk
  refine px_sld C hX dL_law_3035 o7 ?_
  refine px_aload_nw (i := 0) C dL_law_3036 rfl rfl ?_
  refine px_iload (i := 5) C dL_law_3037 rfl ?_
  refine px_iconst (v := (2 : Int32)) C dL_law_3039 rfl ?_
  refine px_iadd C dL_law_3040 ?_
  obtain ⟨o8, hk⟩ := hk
  refine px_sld C hX dL_law_3041 o8 ?_
  refine px_aload_nw (i := 0) C dL_law_3042 rfl rfl ?_
  refine px_iload (i := 5) C dL_law_3043 rfl ?_
  refine px_iconst (v := (3 : Int32)) C dL_law_3045 rfl ?_
  refine px_iadd C dL_law_3046 ?_
  obtain ⟨o9, hk⟩ := hk
  refine px_sld C hX dL_law_3047 o9 ?_
  refine px_aload_nw (i := 0) C dL_law_3048 rfl rfl ?_
  refine px_iload (i := 5) C dL_law_3049 rfl ?_
  refine px_iconst (v := (4 : Int32)) C dL_law_3051 rfl ?_
  refine px_iadd C dL_law_3052 ?_
  obtain ⟨o10, hk⟩ := hk
  refine px_sld C hX dL_law_3053 o10 ?_
  refine px_callVNi (h := 7) (rc' := A + 0) (rs' := B + 0) C (HR_le hHR (Nat.le_of_ble_eq_true rfl)) dL_law_3054 (gw10 32 rfl rfl) mv_X9_bookmark (w9_bookmark_ok (PCx_l C) (PCx_I C) hk) rfl rfl rfl rfl rfl (Nat.le_of_ble_eq_true rfl) (Nat.le_of_ble_eq_true rfl) (by omega) (by omega) ?_
  intro r12 μ11 hk
  refine px_istore (i := 7) C dL_law_3057 (by decide) rfl ?_
  refine px_aload_n (i := 2) C dL_law_3059 rfl rfl ?_
  refine px_callVNi (h := 0) (rc' := A + 0) (rs' := B + 0) C (HR_le hHR (Nat.le_of_ble_eq_true rfl)) dL_law_3060 (gw8 123 rfl rfl) mv_X9_thrown (w9_thrown_ok (PCx_l C) (PCx_I C) hk) rfl rfl rfl rfl rfl (Nat.le_of_ble_eq_true rfl) (Nat.le_of_ble_eq_true rfl) (by omega) (by omega) ?_
  intro r14 μ13 hk
  refine px_iload (i := 6) C dL_law_3063 rfl ?_
  refine px_icmp_eq (tgt := 3070) C dL_law_3065 (by decide) (fun c19 => ?_) (fun c19 => ?_)
  · replace hk := hk.1 c19
    refine px_iload (i := 6) C dL_law_3070 rfl ?_
    refine px_if_ne (tgt := 3087) C dL_law_3072 (by decide) (fun c18 => ?_) (fun c18 => ?_)
    · replace hk := hk.1 c18
      refine px_goto (tgt := 3473) C dL_law_3087 (by decide) ?_
      exact PW_at (hN _ hk) (And.intro rfl (And.intro rfl (And.intro rfl (And.intro rfl (And.intro rfl (And.intro rfl trivial)))))) (by omega) (by omega)
    · replace hk := hk.2 c18
      refine px_aload_n (i := 3) C dL_law_3075 rfl rfl ?_
      refine px_iconst (v := (0 : Int32)) C dL_law_3076 rfl ?_
      obtain ⟨o15, hk⟩ := hk
      refine px_lald 5120 C dL_law_3077 rfl rfl rfl rfl o15 ?_
      refine px_iload (i := 7) C dL_law_3078 rfl ?_
      refine px_i2l C dL_law_3080 ?_
      obtain ⟨o16, hk⟩ := hk
      refine px_lcmp C dL_law_3081 o16 ?_
      refine px_if_eq (tgt := 3087) C dL_law_3082 (by decide) (fun c17 => ?_) (fun c17 => ?_)
      · replace hk := hk.1 c17
        refine px_goto (tgt := 3473) C dL_law_3087 (by decide) ?_
        exact PW_at (hN _ hk) (And.intro rfl (And.intro rfl (And.intro rfl (And.intro rfl (And.intro rfl (And.intro rfl trivial)))))) (by omega) (by omega)
      · replace hk := hk.2 c17
        refine px_iconst (v := (0 : Int32)) C dL_law_3085 rfl ?_
        exact hk.elim
  · replace hk := hk.2 c19
    refine px_iconst (v := (0 : Int32)) C dL_law_3068 rfl ?_
    exact hk.elim
theorem dL_law_3090 : decode cL_law 3090 = .ok (.aload_n 1, 1) := by decide +kernel
theorem dL_law_3091 : decode cL_law 3091 = .ok (.aload_n 0, 1) := by decide +kernel
theorem dL_law_3092 : decode cL_law 3092 = .ok (.iload 5, 2) := by decide +kernel
theorem dL_law_3094 : decode cL_law 3094 = .ok (.iconst 1, 1) := by decide +kernel
theorem dL_law_3095 : decode cL_law 3095 = .ok (.iadd, 1) := by decide +kernel
theorem dL_law_3096 : decode cL_law 3096 = .ok (.iaload, 1) := by decide +kernel
theorem dL_law_3097 : decode cL_law 3097 = .ok (.aload_n 0, 1) := by decide +kernel
theorem dL_law_3098 : decode cL_law 3098 = .ok (.iload 5, 2) := by decide +kernel
theorem dL_law_3100 : decode cL_law 3100 = .ok (.iconst 2, 1) := by decide +kernel
theorem dL_law_3101 : decode cL_law 3101 = .ok (.iadd, 1) := by decide +kernel
theorem dL_law_3102 : decode cL_law 3102 = .ok (.iaload, 1) := by decide +kernel
theorem dL_law_3103 : decode cL_law 3103 = .ok (.aload_n 3, 1) := by decide +kernel
theorem dL_law_3104 : decode cL_law 3104 = .ok (.invokestatic 328, 3) := by decide +kernel
theorem dL_law_3107 : decode cL_law 3107 = .ok (.istore 6, 2) := by decide +kernel
theorem dL_law_3109 : decode cL_law 3109 = .ok (.aload_n 2, 1) := by decide +kernel
theorem dL_law_3110 : decode cL_law 3110 = .ok (.aload_n 0, 1) := by decide +kernel
theorem dL_law_3111 : decode cL_law 3111 = .ok (.iload 5, 2) := by decide +kernel
theorem dL_law_3113 : decode cL_law 3113 = .ok (.iconst 1, 1) := by decide +kernel
theorem dL_law_3114 : decode cL_law 3114 = .ok (.iadd, 1) := by decide +kernel
theorem dL_law_3115 : decode cL_law 3115 = .ok (.iaload, 1) := by decide +kernel
theorem dL_law_3116 : decode cL_law 3116 = .ok (.aload_n 0, 1) := by decide +kernel
theorem dL_law_3117 : decode cL_law 3117 = .ok (.iload 5, 2) := by decide +kernel
theorem dL_law_3119 : decode cL_law 3119 = .ok (.iconst 2, 1) := by decide +kernel
theorem dL_law_3120 : decode cL_law 3120 = .ok (.iadd, 1) := by decide +kernel
theorem dL_law_3121 : decode cL_law 3121 = .ok (.iaload, 1) := by decide +kernel
theorem dL_law_3122 : decode cL_law 3122 = .ok (.invokevirtual 330, 3) := by decide +kernel
theorem dL_law_3125 : decode cL_law 3125 = .ok (.istore 7, 2) := by decide +kernel
theorem dL_law_3127 : decode cL_law 3127 = .ok (.aload_n 2, 1) := by decide +kernel
theorem dL_law_3128 : decode cL_law 3128 = .ok (.invokevirtual 186, 3) := by decide +kernel
theorem dL_law_3131 : decode cL_law 3131 = .ok (.iload 6, 2) := by decide +kernel
theorem dL_law_3133 : decode cL_law 3133 = .ok (.if_icmp .eq 5, 3) := by decide +kernel
theorem dL_law_3136 : decode cL_law 3136 = .ok (.iconst 0, 1) := by decide +kernel
theorem dL_law_3137 : decode cL_law 3137 = .ok (.ireturn, 1) := by decide +kernel
theorem dL_law_3138 : decode cL_law 3138 = .ok (.iload 6, 2) := by decide +kernel
theorem dL_law_3140 : decode cL_law 3140 = .ok (.ifCond .ne 15, 3) := by decide +kernel
theorem dL_law_3143 : decode cL_law 3143 = .ok (.aload_n 3, 1) := by decide +kernel
theorem dL_law_3144 : decode cL_law 3144 = .ok (.iconst 0, 1) := by decide +kernel
theorem dL_law_3145 : decode cL_law 3145 = .ok (.laload, 1) := by decide +kernel
theorem dL_law_3146 : decode cL_law 3146 = .ok (.iload 7, 2) := by decide +kernel
theorem dL_law_3148 : decode cL_law 3148 = .ok (.i2l, 1) := by decide +kernel
theorem dL_law_3149 : decode cL_law 3149 = .ok (.lcmp, 1) := by decide +kernel
theorem dL_law_3150 : decode cL_law 3150 = .ok (.ifCond .eq 5, 3) := by decide +kernel
theorem dL_law_3153 : decode cL_law 3153 = .ok (.iconst 0, 1) := by decide +kernel
theorem dL_law_3154 : decode cL_law 3154 = .ok (.ireturn, 1) := by decide +kernel
theorem dL_law_3155 : decode cL_law 3155 = .ok (.goto 318, 3) := by decide +kernel
set_option maxRecDepth 100000 in
set_option maxHeartbeats 4000000 in
theorem lc44_ok {G : GT} {b L A B : Nat} {xs : Nat → Int32} {μ : Mem} {i : Int32} {N : Mem → Prop} (C : PCx G cL_law 9 RL) (hX : Scr G b L xs) (hHR : HR G 11) (hN : ∀ μ : Mem, N μ → PW G A B 3473 [some (pW (.ref b)), some (pR 40 0), some (pR 50 0), some (pR 80 0), some (pR 81 0), some (pI i), none, none, none] [] μ) (hk : lc44_wp xs L μ i N) : PW G (A + 2) (B + 12) 3090 [some (pW (.ref b)), some (pR 40 0), some (pR 50 0), some (pR 80 0), some (pR 81 0), some (pI i), none, none, none] [] μ := by
  unfold lc44_wp at hk
  refine px_aload_n (i := 1) C dL_law_3090 rfl rfl ?_
  refine px_aload_nw (i := 0) C dL_law_3091 rfl rfl ?_
  refine px_iload (i := 5) C dL_law_3092 rfl ?_
  refine px_iconst (v := (1 : Int32)) C dL_law_3094 rfl ?_
  refine px_iadd C dL_law_3095 ?_
  obtain ⟨o1, hk⟩ := hk
  refine px_sld C hX dL_law_3096 o1 ?_
  refine px_aload_nw (i := 0) C dL_law_3097 rfl rfl ?_
  refine px_iload (i := 5) C dL_law_3098 rfl ?_
  refine px_iconst (v := (2 : Int32)) C dL_law_3100 rfl ?_
  refine px_iadd C dL_law_3101 ?_
  obtain ⟨o2, hk⟩ := hk
  refine px_sld C hX dL_law_3102 o2 ?_
  refine px_aload_n (i := 3) C dL_law_3103 rfl rfl ?_
  refine px_callSH (h := 10) (rc' := A + 0) (rs' := B + 0) C (HR_le hHR (Nat.le_of_ble_eq_true rfl)) dL_law_3104 (gw6 100 rfl rfl) ms_L_bookmarked (L_bookmarked_ok (PCx_l C) (PCx_I C) hk) rfl rfl (Nat.le_of_ble_eq_true rfl) (Nat.le_of_ble_eq_true rfl) (by omega) (by omega) ?_
  intro r4 μ3 hk
  refine px_istore (i := 6) C dL_law_3107 (by decide) rfl ?_
  refine px_aload_n (i := 2) C dL_law_3109 rfl rfl ?_
  refine px_aload_nw (i := 0) C dL_law_3110 rfl rfl ?_
  refine px_iload (i := 5) C dL_law_3111 rfl ?_
  refine px_iconst (v := (1 : Int32)) C dL_law_3113 rfl ?_
  refine px_iadd C dL_law_3114 ?_
  obtain ⟨o5, hk⟩ := hk
  refine px_sld C hX dL_law_3115 o5 ?_
  refine px_aload_nw (i := 0) C dL_law_3116 rfl rfl ?_
  refine px_iload (i := 5) C dL_law_3117 rfl ?_
  refine px_iconst (v := (2 : Int32)) C dL_law_3119 rfl ?_
  refine px_iadd C dL_law_3120 ?_
  obtain ⟨o6, hk⟩ := hk
  refine px_sld C hX dL_law_3121 o6 ?_
  refine px_callVNi (h := 7) (rc' := A + 0) (rs' := B + 0) C (HR_le hHR (Nat.le_of_ble_eq_true rfl)) dL_law_3122 (gw10 39 rfl rfl) mv_X9_bookmarked (w9_bookmarked_ok (PCx_l C) (PCx_I C) hk) rfl rfl rfl rfl rfl (Nat.le_of_ble_eq_true rfl) (Nat.le_of_ble_eq_true rfl) (by omega) (by omega) ?_
  intro r8 μ7 hk
  refine px_istore (i := 7) C dL_law_3125 (by decide) rfl ?_
  refine px_aload_n (i := 2) C dL_law_3127 rfl rfl ?_
  refine px_callVNi (h := 0) (rc' := A + 0) (rs' := B + 0) C (HR_le hHR (Nat.le_of_ble_eq_true rfl)) dL_law_3128 (gw8 123 rfl rfl) mv_X9_thrown (w9_thrown_ok (PCx_l C) (PCx_I C) hk) rfl rfl rfl rfl rfl (Nat.le_of_ble_eq_true rfl) (Nat.le_of_ble_eq_true rfl) (by omega) (by omega) ?_
  intro r10 μ9 hk
  refine px_iload (i := 6) C dL_law_3131 rfl ?_
  refine px_icmp_eq (tgt := 3138) C dL_law_3133 (by decide) (fun c15 => ?_) (fun c15 => ?_)
  · replace hk := hk.1 c15
    refine px_iload (i := 6) C dL_law_3138 rfl ?_
    refine px_if_ne (tgt := 3155) C dL_law_3140 (by decide) (fun c14 => ?_) (fun c14 => ?_)
    · replace hk := hk.1 c14
      refine px_goto (tgt := 3473) C dL_law_3155 (by decide) ?_
      exact PW_at (hN _ hk) (And.intro rfl (And.intro rfl (And.intro rfl (And.intro rfl (And.intro rfl (And.intro rfl trivial)))))) (by omega) (by omega)
    · replace hk := hk.2 c14
      refine px_aload_n (i := 3) C dL_law_3143 rfl rfl ?_
      refine px_iconst (v := (0 : Int32)) C dL_law_3144 rfl ?_
      obtain ⟨o11, hk⟩ := hk
      refine px_lald 5120 C dL_law_3145 rfl rfl rfl rfl o11 ?_
      refine px_iload (i := 7) C dL_law_3146 rfl ?_
      refine px_i2l C dL_law_3148 ?_
      obtain ⟨o12, hk⟩ := hk
      refine px_lcmp C dL_law_3149 o12 ?_
      refine px_if_eq (tgt := 3155) C dL_law_3150 (by decide) (fun c13 => ?_) (fun c13 => ?_)
      · replace hk := hk.1 c13
        refine px_goto (tgt := 3473) C dL_law_3155 (by decide) ?_
        exact PW_at (hN _ hk) (And.intro rfl (And.intro rfl (And.intro rfl (And.intro rfl (And.intro rfl (And.intro rfl trivial)))))) (by omega) (by omega)
      · replace hk := hk.2 c13
        refine px_iconst (v := (0 : Int32)) C dL_law_3153 rfl ?_
        exact hk.elim
  · replace hk := hk.2 c15
    refine px_iconst (v := (0 : Int32)) C dL_law_3136 rfl ?_
    exact hk.elim
