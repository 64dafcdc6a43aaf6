theorem dL_law_831 : decode cL_law 831 = .ok (.aload_n 1, 1) := by decide +kernel
theorem dL_law_832 : decode cL_law 832 = .ok (.aload_n 0, 1) := by decide +kernel
theorem dL_law_833 : decode cL_law 833 = .ok (.iload 5, 2) := by decide +kernel
theorem dL_law_835 : decode cL_law 835 = .ok (.iconst 1, 1) := by decide +kernel
theorem dL_law_836 : decode cL_law 836 = .ok (.iadd, 1) := by decide +kernel
theorem dL_law_837 : decode cL_law 837 = .ok (.iaload, 1) := by decide +kernel
theorem dL_law_838 : decode cL_law 838 = .ok (.aload_n 3, 1) := by decide +kernel
theorem dL_law_839 : decode cL_law 839 = .ok (.invokestatic 215, 3) := by decide +kernel
theorem dL_law_842 : decode cL_law 842 = .ok (.istore 6, 2) := by decide +kernel
theorem dL_law_844 : decode cL_law 844 = .ok (.aload_n 2, 1) := by decide +kernel
theorem dL_law_845 : decode cL_law 845 = .ok (.aload_n 0, 1) := by decide +kernel
theorem dL_law_846 : decode cL_law 846 = .ok (.iload 5, 2) := by decide +kernel
theorem dL_law_848 : decode cL_law 848 = .ok (.iconst 1, 1) := by decide +kernel
theorem dL_law_849 : decode cL_law 849 = .ok (.iadd, 1) := by decide +kernel
theorem dL_law_850 : decode cL_law 850 = .ok (.iaload, 1) := by decide +kernel
theorem dL_law_851 : decode cL_law 851 = .ok (.invokevirtual 217, 3) := by decide +kernel
theorem dL_law_854 : decode cL_law 854 = .ok (.istore 7, 2) := by decide +kernel
theorem dL_law_856 : decode cL_law 856 = .ok (.aload_n 2, 1) := by decide +kernel
theorem dL_law_857 : decode cL_law 857 = .ok (.invokevirtual 186, 3) := by decide +kernel
theorem dL_law_860 : decode cL_law 860 = .ok (.iload 6, 2) := by decide +kernel
theorem dL_law_862 : decode cL_law 862 = .ok (.if_icmp .eq 5, 3) := by decide +kernel
theorem dL_law_865 : decode cL_law 865 = .ok (.iconst 0, 1) := by decide +kernel
theorem dL_law_866 : decode cL_law 866 = .ok (.ireturn, 1) := by decide +kernel
theorem dL_law_867 : decode cL_law 867 = .ok (.iload 6, 2) := by decide +kernel
theorem dL_law_869 : decode cL_law 869 = .ok (.ifCond .ne 15, 3) := by decide +kernel
theorem dL_law_872 : decode cL_law 872 = .ok (.aload_n 3, 1) := by decide +kernel
theorem dL_law_873 : decode cL_law 873 = .ok (.iconst 0, 1) := by decide +kernel
theorem dL_law_874 : decode cL_law 874 = .ok (.laload, 1) := by decide +kernel
theorem dL_law_875 : decode cL_law 875 = .ok (.iload 7, 2) := by decide +kernel
theorem dL_law_877 : decode cL_law 877 = .ok (.i2l, 1) := by decide +kernel
theorem dL_law_878 : decode cL_law 878 = .ok (.lcmp, 1) := by decide +kernel
theorem dL_law_879 : decode cL_law 879 = .ok (.ifCond .eq 5, 3) := by decide +kernel
theorem dL_law_882 : decode cL_law 882 = .ok (.iconst 0, 1) := by decide +kernel
theorem dL_law_883 : decode cL_law 883 = .ok (.ireturn, 1) := by decide +kernel
theorem dL_law_884 : decode cL_law 884 = .ok (.goto 2589, 3) := by decide +kernel
set_option maxRecDepth 100000 in
set_option maxHeartbeats 4000000 in
theorem lc9_ok {G : GT} {b L A B : Nat} {xs : Nat → Int32} {μ : Mem} {i : Int32} {N : Mem → Prop} (C : PCx G cL_law 9 RL) (hX : Scr G b L xs) (hHR : HR G 11) (hN : ∀ μ : Mem, N μ → PW G A B 3473 [some (pW (.ref b)), some (pR 40 0), some (pR 50 0), some (pR 80 0), some (pR 81 0), some (pI i), none, none, none] [] μ) (hk : lc9_wp xs L μ i N) : PW G (A + 2) (B + 12) 831 [some (pW (.ref b)), some (pR 40 0), some (pR 50 0), some (pR 80 0), some (pR 81 0), some (pI i), none, none, none] [] μ := by
  unfold lc9_wp at hk
  refine px_aload_n (i := 1) C dL_law_831 rfl rfl ?_
  refine px_aload_nw (i := 0) C dL_law_832 rfl rfl ?_
  refine px_iload (i := 5) C dL_law_833 rfl ?_
  refine px_iconst (v := (1 : Int32)) C dL_law_835 rfl ?_
  refine px_iadd C dL_law_836 ?_
  obtain ⟨o1, hk⟩ := hk
  refine px_sld C hX dL_law_837 o1 ?_
  refine px_aload_n (i := 3) C dL_law_838 rfl rfl ?_
  refine px_callSH (h := 10) (rc' := A + 0) (rs' := B + 0) C (HR_le hHR (Nat.le_of_ble_eq_true rfl)) dL_law_839 (gw4 45 rfl rfl) ms_L_freedom (L_freedom_ok (PCx_l C) (PCx_I C) hk) rfl rfl (Nat.le_of_ble_eq_true rfl) (Nat.le_of_ble_eq_true rfl) (by omega) (by omega) ?_
  intro r3 μ2 hk
  refine px_istore (i := 6) C dL_law_842 (by decide) rfl ?_
  refine px_aload_n (i := 2) C dL_law_844 rfl rfl ?_
  refine px_aload_nw (i := 0) C dL_law_845 rfl rfl ?_
  refine px_iload (i := 5) C dL_law_846 rfl ?_
  refine px_iconst (v := (1 : Int32)) C dL_law_848 rfl ?_
  refine px_iadd C dL_law_849 ?_
  obtain ⟨o4, hk⟩ := hk
  refine px_sld C hX dL_law_850 o4 ?_
  refine px_callVNi (h := 6) (rc' := A + 0) (rs' := B + 0) C (HR_le hHR (Nat.le_of_ble_eq_true rfl)) dL_law_851 (gw9 6 rfl rfl) mv_X9_freedom (w9_freedom_ok (PCx_l C) (PCx_I C) hk) rfl rfl rfl rfl rfl (Nat.le_of_ble_eq_true rfl) (Nat.le_of_ble_eq_true rfl) (by omega) (by omega) ?_
  intro r6 μ5 hk
  refine px_istore (i := 7) C dL_law_854 (by decide) rfl ?_
  refine px_aload_n (i := 2) C dL_law_856 rfl rfl ?_
  refine px_callVNi (h := 0) (rc' := A + 0) (rs' := B + 0) C (HR_le hHR (Nat.le_of_ble_eq_true rfl)) dL_law_857 (gw8 123 rfl rfl) mv_X9_thrown (w9_thrown_ok (PCx_l C) (PCx_I C) hk) rfl rfl rfl rfl rfl (Nat.le_of_ble_eq_true rfl) (Nat.le_of_ble_eq_true rfl) (by omega) (by omega) ?_
  intro r8 μ7 hk
  refine px_iload (i := 6) C dL_law_860 rfl ?_
  refine px_icmp_eq (tgt := 867) C dL_law_862 (by decide) (fun c13 => ?_) (fun c13 => ?_)
  · replace hk := hk.1 c13
    refine px_iload (i := 6) C dL_law_867 rfl ?_
    refine px_if_ne (tgt := 884) C dL_law_869 (by decide) (fun c12 => ?_) (fun c12 => ?_)
    · replace hk := hk.1 c12
      refine px_goto (tgt := 3473) C dL_law_884 (by decide) ?_
      exact PW_at (hN _ hk) (And.intro rfl (And.intro rfl (And.intro rfl (And.intro rfl (And.intro rfl (And.intro rfl trivial)))))) (by omega) (by omega)
    · replace hk := hk.2 c12
      refine px_aload_n (i := 3) C dL_law_872 rfl rfl ?_
      refine px_iconst (v := (0 : Int32)) C dL_law_873 rfl ?_
      obtain ⟨o9, hk⟩ := hk
      refine px_lald 5120 C dL_law_874 rfl rfl rfl rfl o9 ?_
      refine px_iload (i := 7) C dL_law_875 rfl ?_
      refine px_i2l C dL_law_877 ?_
      obtain ⟨o10, hk⟩ := hk
      refine px_lcmp C dL_law_878 o10 ?_
      refine px_if_eq (tgt := 884) C dL_law_879 (by decide) (fun c11 => ?_) (fun c11 => ?_)
      · replace hk := hk.1 c11
        refine px_goto (tgt := 3473) C dL_law_884 (by decide) ?_
        exact PW_at (hN _ hk) (And.intro rfl (And.intro rfl (And.intro rfl (And.intro rfl (And.intro rfl (And.intro rfl trivial)))))) (by omega) (by omega)
      · replace hk := hk.2 c11
        refine px_iconst (v := (0 : Int32)) C dL_law_882 rfl ?_
        exact hk.elim
  · replace hk := hk.2 c13
    refine px_iconst (v := (0 : Int32)) C dL_law_865 rfl ?_
    exact hk.elim
theorem dL_law_887 : decode cL_law 887 = .ok (.aload_n 1, 1) := by decide +kernel
theorem dL_law_888 : decode cL_law 888 = .ok (.aload_n 0, 1) := by decide +kernel
theorem dL_law_889 : decode cL_law 889 = .ok (.iload 5, 2) := by decide +kernel
theorem dL_law_891 : decode cL_law 891 = .ok (.iconst 1, 1) := by decide +kernel
theorem dL_law_892 : decode cL_law 892 = .ok (.iadd, 1) := by decide +kernel
theorem dL_law_893 : decode cL_law 893 = .ok (.iaload, 1) := by decide +kernel
theorem dL_law_894 : decode cL_law 894 = .ok (.ifCond .eq 7, 3) := by decide +kernel
theorem dL_law_897 : decode cL_law 897 = .ok (.iconst 1, 1) := by decide +kernel
theorem dL_law_898 : decode cL_law 898 = .ok (.goto 4, 3) := by decide +kernel
theorem dL_law_901 : decode cL_law 901 = .ok (.iconst 0, 1) := by decide +kernel
theorem dL_law_902 : decode cL_law 902 = .ok (.invokevirtual 218, 3) := by decide +kernel
theorem dL_law_905 : decode cL_law 905 = .ok (.aload_n 2, 1) := by decide +kernel
theorem dL_law_906 : decode cL_law 906 = .ok (.aload_n 0, 1) := by decide +kernel
theorem dL_law_907 : decode cL_law 907 = .ok (.iload 5, 2) := by decide +kernel
theorem dL_law_909 : decode cL_law 909 = .ok (.iconst 1, 1) := by decide +kernel
theorem dL_law_910 : decode cL_law 910 = .ok (.iadd, 1) := by decide +kernel
theorem dL_law_911 : decode cL_law 911 = .ok (.iaload, 1) := by decide +kernel
theorem dL_law_912 : decode cL_law 912 = .ok (.ifCond .eq 7, 3) := by decide +kernel
theorem dL_law_915 : decode cL_law 915 = .ok (.iconst 1, 1) := by decide +kernel
theorem dL_law_916 : decode cL_law 916 = .ok (.goto 4, 3) := by decide +kernel
theorem dL_law_919 : decode cL_law 919 = .ok (.iconst 0, 1) := by decide +kernel
theorem dL_law_920 : decode cL_law 920 = .ok (.invokevirtual 222, 3) := by decide +kernel
theorem dL_law_923 : decode cL_law 923 = .ok (.if_icmp .eq 2550, 3) := by decide +kernel
theorem dL_law_926 : decode cL_law 926 = .ok (.iconst 0, 1) := by decide +kernel
theorem dL_law_927 : decode cL_law 927 = .ok (.ireturn, 1) := by decide +kernel
set_option maxRecDepth 100000 in
set_option maxHeartbeats 4000000 in
theorem lc10_ok {G : GT} {b L A B : Nat} {xs : Nat → Int32} {μ : Mem} {i : Int32} {N : Mem → Prop} (C : PCx G cL_law 9 RL) (hX : Scr G b L xs) (hHR : HR G 7) (hN : ∀ μ : Mem, N μ → PW G A B 3473 [some (pW (.ref b)), some (pR 40 0), some (pR 50 0), some (pR 80 0), some (pR 81 0), some (pI i), none, none, none] [] μ) (hk : lc10_wp xs L μ i N) : PW G (A + 0) (B + 0) 887 [some (pW (.ref b)), some (pR 40 0), some (pR 50 0), some (pR 80 0), some (pR 81 0), some (pI i), none, none, none] [] μ := by
  unfold lc10_wp at hk
  refine px_aload_n (i := 1) C dL_law_887 rfl rfl ?_
  refine px_aload_nw (i := 0) C dL_law_888 rfl rfl ?_
  refine px_iload (i := 5) C dL_law_889 rfl ?_
  refine px_iconst (v := (1 : Int32)) C dL_law_891 rfl ?_
  refine px_iadd C dL_law_892 ?_
  obtain ⟨o1, hk⟩ := hk
  refine px_sld C hX dL_law_893 o1 ?_
  refine px_if_eq (tgt := 901) C dL_law_894 (by decide) (fun c22 => ?_) (fun c22 => ?_)
  · replace hk := hk.1 c22
    refine px_iconst (v := (0 : Int32)) C dL_law_901 rfl ?_
    refine px_callVNi (h := 5) (rc' := A + 0) (rs' := B + 0) C (HR_le hHR (Nat.le_of_ble_eq_true rfl)) dL_law_902 (gw2 161 rfl rfl) mv_X8_pairs (w8_pairs_ok (PCx_l C) (PCx_I C) hk) rfl rfl rfl rfl rfl (Nat.le_of_ble_eq_true rfl) (Nat.le_of_ble_eq_true rfl) (by omega) (by omega) ?_
    intro r3 μ2 hk
    refine px_aload_n (i := 2) C dL_law_905 rfl rfl ?_
    refine px_aload_nw (i := 0) C dL_law_906 rfl rfl ?_
    refine px_iload (i := 5) C dL_law_907 rfl ?_
    refine px_iconst (v := (1 : Int32)) C dL_law_909 rfl ?_
    refine px_iadd C dL_law_910 ?_
    obtain ⟨o4, hk⟩ := hk
    refine px_sld C hX dL_law_911 o4 ?_
    refine px_if_eq (tgt := 919) C dL_law_912 (by decide) (fun c11 => ?_) (fun c11 => ?_)
    · replace hk := hk.1 c11
      refine px_iconst (v := (0 : Int32)) C dL_law_919 rfl ?_
      refine px_callVNi (h := 6) (rc' := A + 0) (rs' := B + 0) C (HR_le hHR (Nat.le_of_ble_eq_true rfl)) dL_law_920 (gw9 10 rfl rfl) mv_X9_pairs (w9_pairs_ok (PCx_l C) (PCx_I C) hk) rfl rfl rfl rfl rfl (Nat.le_of_ble_eq_true rfl) (Nat.le_of_ble_eq_true rfl) (by omega) (by omega) ?_
      intro r6 μ5 hk
      refine px_icmp_eq (tgt := 3473) C dL_law_923 (by decide) (fun c7 => ?_) (fun c7 => ?_)
      · replace hk := hk.1 c7
        exact PW_at (hN _ hk) (And.intro rfl (And.intro rfl (And.intro rfl (And.intro rfl (And.intro rfl (And.intro rfl trivial)))))) (by omega) (by omega)
      · replace hk := hk.2 c7
        refine px_iconst (v := (0 : Int32)) C dL_law_926 rfl ?_
        exact hk.elim
    · replace hk := hk.2 c11
      refine px_iconst (v := (1 : Int32)) C dL_law_915 rfl ?_
      refine px_goto (tgt := 920) C dL_law_916 (by decide) ?_
      refine px_callVNi (h := 6) (rc' := A + 0) (rs' := B + 0) C (HR_le hHR (Nat.le_of_ble_eq_true rfl)) dL_law_920 (gw9 10 rfl rfl) mv_X9_pairs (w9_pairs_ok (PCx_l C) (PCx_I C) hk) rfl rfl rfl rfl rfl (Nat.le_of_ble_eq_true rfl) (Nat.le_of_ble_eq_true rfl) (by omega) (by omega) ?_
      intro r9 μ8 hk
      refine px_icmp_eq (tgt := 3473) C dL_law_923 (by decide) (fun c10 => ?_) (fun c10 => ?_)
      · replace hk := hk.1 c10
        exact PW_at (hN _ hk) (And.intro rfl (And.intro rfl (And.intro rfl (And.intro rfl (And.intro rfl (And.intro rfl trivial)))))) (by omega) (by omega)
      · replace hk := hk.2 c10
        refine px_iconst (v := (0 : Int32)) C dL_law_926 rfl ?_
        exact hk.elim
  · replace hk := hk.2 c22
    refine px_iconst (v := (1 : Int32)) C dL_law_897 rfl ?_
    refine px_goto (tgt := 902) C dL_law_898 (by decide) ?_
    refine px_callVNi (h := 5) (rc' := A + 0) (rs' := B + 0) C (HR_le hHR (Nat.le_of_ble_eq_true rfl)) dL_law_902 (gw2 161 rfl rfl) mv_X8_pairs (w8_pairs_ok (PCx_l C) (PCx_I C) hk) rfl rfl rfl rfl rfl (Nat.le_of_ble_eq_true rfl) (Nat.le_of_ble_eq_true rfl) (by omega) (by omega) ?_
    intro r13 μ12 hk
    refine px_aload_n (i := 2) C dL_law_905 rfl rfl ?_
    refine px_aload_nw (i := 0) C dL_law_906 rfl rfl ?_
    refine px_iload (i := 5) C dL_law_907 rfl ?_
    refine px_iconst (v := (1 : Int32)) C dL_law_909 rfl ?_
    refine px_iadd C dL_law_910 ?_
    obtain ⟨o14, hk⟩ := hk
    refine px_sld C hX dL_law_911 o14 ?_
    refine px_if_eq (tgt := 919) C dL_law_912 (by decide) (fun c21 => ?_) (fun c21 => ?_)
    · replace hk := hk.1 c21
      refine px_iconst (v := (0 : Int32)) C dL_law_919 rfl ?_
      refine px_callVNi (h := 6) (rc' := A + 0) (rs' := B + 0) C (HR_le hHR (Nat.le_of_ble_eq_true rfl)) dL_law_920 (gw9 10 rfl rfl) mv_X9_pairs (w9_pairs_ok (PCx_l C) (PCx_I C) hk) rfl rfl rfl rfl rfl (Nat.le_of_ble_eq_true rfl) (Nat.le_of_ble_eq_true rfl) (by omega) (by omega) ?_
      intro r16 μ15 hk
      refine px_icmp_eq (tgt := 3473) C dL_law_923 (by decide) (fun c17 => ?_) (fun c17 => ?_)
      · replace hk := hk.1 c17
        exact PW_at (hN _ hk) (And.intro rfl (And.intro rfl (And.intro rfl (And.intro rfl (And.intro rfl (And.intro rfl trivial)))))) (by omega) (by omega)
      · replace hk := hk.2 c17
        refine px_iconst (v := (0 : Int32)) C dL_law_926 rfl ?_
        exact hk.elim
    · replace hk := hk.2 c21
      refine px_iconst (v := (1 : Int32)) C dL_law_915 rfl ?_
      refine px_goto (tgt := 920) C dL_law_916 (by decide) ?_
      refine px_callVNi (h := 6) (rc' := A + 0) (rs' := B + 0) C (HR_le hHR (Nat.le_of_ble_eq_true rfl)) dL_law_920 (gw9 10 rfl rfl) mv_X9_pairs (w9_pairs_ok (PCx_l C) (PCx_I C) hk) rfl rfl rfl rfl rfl (Nat.le_of_ble_eq_true rfl) (Nat.le_of_ble_eq_true rfl) (by omega) (by omega) ?_
      intro r19 μ18 hk
      refine px_icmp_eq (tgt := 3473) C dL_law_923 (by decide) (fun c20 => ?_) (fun c20 => ?_)
      · replace hk := hk.1 c20
        exact PW_at (hN _ hk) (And.intro rfl (And.intro rfl (And.intro rfl (And.intro rfl (And.intro rfl (And.intro rfl trivial)))))) (by omega) (by omega)
      · replace hk := hk.2 c20
        refine px_iconst (v := (0 : Int32)) C dL_law_926 rfl ?_
        exact hk.elim
theorem dL_law_928 : decode cL_law 928 = .ok (.aload_n 1, 1) := by decide +kernel
theorem dL_law_929 : decode cL_law 929 = .ok (.aload_n 0, 1) := by decide +kernel
theorem dL_law_930 : decode cL_law 930 = .ok (.iload 5, 2) := by decide +kernel
theorem dL_law_932 : decode cL_law 932 = .ok (.iconst 1, 1) := by decide +kernel
theorem dL_law_933 : decode cL_law 933 = .ok (.iadd, 1) := by decide +kernel
theorem dL_law_934 : decode cL_law 934 = .ok (.iaload, 1) := by decide +kernel
theorem dL_law_935 : decode cL_law 935 = .ok (.aload_n 3, 1) := by decide +kernel
theorem dL_law_936 : decode cL_law 936 = .ok (.invokestatic 223, 3) := by decide +kernel
theorem dL_law_939 : decode cL_law 939 = .ok (.istore 6, 2) := by decide +kernel
theorem dL_law_941 : decode cL_law 941 = .ok (.aload_n 2, 1) := by decide +kernel
theorem dL_law_942 : decode cL_law 942 = .ok (.aload_n 0, 1) := by decide +kernel
theorem dL_law_943 : decode cL_law 943 = .ok (.iload 5, 2) := by decide +kernel
theorem dL_law_945 : decode cL_law 945 = .ok (.iconst 1, 1) := by decide +kernel
theorem dL_law_946 : decode cL_law 946 = .ok (.iadd, 1) := by decide +kernel
theorem dL_law_947 : decode cL_law 947 = .ok (.iaload, 1) := by decide +kernel
theorem dL_law_948 : decode cL_law 948 = .ok (.invokevirtual 225, 3) := by decide +kernel
theorem dL_law_951 : decode cL_law 951 = .ok (.istore 7, 2) := by decide +kernel
theorem dL_law_953 : decode cL_law 953 = .ok (.aload_n 2, 1) := by decide +kernel
theorem dL_law_954 : decode cL_law 954 = .ok (.invokevirtual 186, 3) := by decide +kernel
theorem dL_law_957 : decode cL_law 957 = .ok (.iload 6, 2) := by decide +kernel
theorem dL_law_959 : decode cL_law 959 = .ok (.if_icmp .eq 5, 3) := by decide +kernel
theorem dL_law_962 : decode cL_law 962 = .ok (.iconst 0, 1) := by decide +kernel
theorem dL_law_963 : decode cL_law 963 = .ok (.ireturn, 1) := by decide +kernel
theorem dL_law_964 : decode cL_law 964 = .ok (.iload 6, 2) := by decide +kernel
theorem dL_law_966 : decode cL_law 966 = .ok (.ifCond .ne 22, 3) := by decide +kernel
theorem dL_law_969 : decode cL_law 969 = .ok (.aload_n 3, 1) := by decide +kernel
theorem dL_law_970 : decode cL_law 970 = .ok (.iconst 0, 1) := by decide +kernel
theorem dL_law_971 : decode cL_law 971 = .ok (.laload, 1) := by decide +kernel
theorem dL_law_972 : decode cL_law 972 = .ok (.iload 7, 2) := by decide +kernel
theorem dL_law_974 : decode cL_law 974 = .ok (.ifCond .eq 7, 3) := by decide +kernel
theorem dL_law_977 : decode cL_law 977 = .ok (.lconst 1, 1) := by decide +kernel
theorem dL_law_978 : decode cL_law 978 = .ok (.goto 4, 3) := by decide +kernel
theorem dL_law_981 : decode cL_law 981 = .ok (.lconst 0, 1) := by decide +kernel
theorem dL_law_982 : decode cL_law 982 = .ok (.lcmp, 1) := by decide +kernel
theorem dL_law_983 : decode cL_law 983 = .ok (.ifCond .eq 5, 3) := by decide +kernel
theorem dL_law_986 : decode cL_law 986 = .ok (.iconst 0, 1) := by decide +kernel
theorem dL_law_987 : decode cL_law 987 = .ok (.ireturn, 1) := by decide +kernel
theorem dL_law_988 : decode cL_law 988 = .ok (.goto 2485, 3) := by decide +kernel
set_option maxRecDepth 100000 in
set_option maxHeartbeats 4000000 in
theorem lc11_ok {G : GT} {b L A B : Nat} {xs : Nat → Int32} {μ : Mem} {i : Int32} {N : Mem → Prop} (C : PCx G cL_law 9 RL) (hX : Scr G b L xs) (hHR : HR G 11) (hN : ∀ μ : Mem, N μ → PW G A B 3473 [some (pW (.ref b)), some (pR 40 0), some (pR 50 0), some (pR 80 0), some (pR 81 0), some (pI i), none, none, none] [] μ) (hk : lc11_wp xs L μ i N) : PW G (A + 2) (B + 12) 928 [some (pW (.ref b)), some (pR 40 0), some (pR 50 0), some (pR 80 0), some (pR 81 0), some (pI i), none, none, none] [] μ := by
  unfold lc11_wp at hk
  refine px_aload_n (i := 1) C dL_law_928 rfl rfl ?_
  refine px_aload_nw (i := 0) C dL_law_929 rfl rfl ?_
  refine px_iload (i := 5) C dL_law_930 rfl ?_
  refine px_iconst (v := (1 : Int32)) C dL_law_932 rfl ?_
  refine px_iadd C dL_law_933 ?_
  obtain ⟨o1, hk⟩ := hk
  refine px_sld C hX dL_law_934 o1 ?_
  refine px_aload_n (i := 3) C dL_law_935 rfl rfl ?_
  refine px_callSH (h := 10) (rc' := A + 0) (rs' := B + 0) C (HR_le hHR (Nat.le_of_ble_eq_true rfl)) dL_law_936 (gw4 69 rfl rfl) ms_L_isAccepted (L_isAccepted_ok (PCx_l C) (PCx_I C) hk) rfl rfl (Nat.le_of_ble_eq_true rfl) (Nat.le_of_ble_eq_true rfl) (by omega) (by omega) ?_
  intro r3 μ2 hk
  refine px_istore (i := 6) C dL_law_939 (by decide) rfl ?_
  refine px_aload_n (i := 2) C dL_law_941 rfl rfl ?_
  refine px_aload_nw (i := 0) C dL_law_942 rfl rfl ?_
  refine px_iload (i := 5) C dL_law_943 rfl ?_
  refine px_iconst (v := (1 : Int32)) C dL_law_945 rfl ?_
  refine px_iadd C dL_law_946 ?_
  obtain ⟨o4, hk⟩ := hk
  refine px_sld C hX dL_law_947 o4 ?_
  refine px_callVNi (h := 6) (rc' := A + 0) (rs' := B + 0) C (HR_le hHR (Nat.le_of_ble_eq_true rfl)) dL_law_948 (gw9 14 rfl rfl) mv_X9_isAccepted (w9_isAccepted_ok (PCx_l C) (PCx_I C) hk) rfl rfl rfl rfl rfl (Nat.le_of_ble_eq_true rfl) (Nat.le_of_ble_eq_true rfl) (by omega) (by omega) ?_
  intro r6 μ5 hk
  refine px_istore (i := 7) C dL_law_951 (by decide) rfl ?_
  refine px_aload_n (i := 2) C dL_law_953 rfl rfl ?_
  refine px_callVNi (h := 0) (rc' := A + 0) (rs' := B + 0) C (HR_le hHR (Nat.le_of_ble_eq_true rfl)) dL_law_954 (gw8 123 rfl rfl) mv_X9_thrown (w9_thrown_ok (PCx_l C) (PCx_I C) hk) rfl rfl rfl rfl rfl (Nat.le_of_ble_eq_true rfl) (Nat.le_of_ble_eq_true rfl) (by omega) (by omega) ?_
  intro r8 μ7 hk
  refine px_iload (i := 6) C dL_law_957 rfl ?_
  refine px_icmp_eq (tgt := 964) C dL_law_959 (by decide) (fun c16 => ?_) (fun c16 => ?_)
  · replace hk := hk.1 c16
    refine px_iload (i := 6) C dL_law_964 rfl ?_
    refine px_if_ne (tgt := 988) C dL_law_966 (by decide) (fun c15 => ?_) (fun c15 => ?_)
    · replace hk := hk.1 c15
      refine px_goto (tgt := 3473) C dL_law_988 (by decide) ?_
      exact PW_at (hN _ hk) (And.intro rfl (And.intro rfl (And.intro rfl (And.intro rfl (And.intro rfl (And.intro rfl trivial)))))) (by omega) (by omega)
    · replace hk := hk.2 c15
      refine px_aload_n (i := 3) C dL_law_969 rfl rfl ?_
      refine px_iconst (v := (0 : Int32)) C dL_law_970 rfl ?_
      obtain ⟨o9, hk⟩ := hk
      refine px_lald 5120 C dL_law_971 rfl rfl rfl rfl o9 ?_
      refine px_iload (i := 7) C dL_law_972 rfl ?_
      refine px_if_eq (tgt := 981) C dL_law_974 (by decide) (fun c14 => ?_) (fun c14 => ?_)
      · replace hk := hk.1 c14
        refine px_lconst (v := (0 : Int32)) C dL_law_981 rfl ?_
        obtain ⟨o10, hk⟩ := hk
        refine px_lcmp C dL_law_982 o10 ?_
        refine px_if_eq (tgt := 988) C dL_law_983 (by decide) (fun c11 => ?_) (fun c11 => ?_)
        · replace hk := hk.1 c11
          refine px_goto (tgt := 3473) C dL_law_988 (by decide) ?_
          exact PW_at (hN _ hk) (And.intro rfl (And.intro rfl (And.intro rfl (And.intro rfl (And.intro rfl (And.intro rfl trivial)))))) (by omega) (by omega)
        · replace hk := hk.2 c11
          refine px_iconst (v := (0 : Int32)) C dL_law_986 rfl ?_
          exact hk.elim
      · replace hk := hk.2 c14
        refine px_lconst (v := (1 : Int32)) C dL_law_977 rfl ?_
        refine px_goto (tgt := 982) C dL_law_978 (by decide) ?_
        obtain ⟨o12, hk⟩ := hk
        refine px_lcmp C dL_law_982 o12 ?_
        refine px_if_eq (tgt := 988) C dL_law_983 (by decide) (fun c13 => ?_) (fun c13 => ?_)
        · replace hk := hk.1 c13
          refine px_goto (tgt := 3473) C dL_law_988 (by decide) ?_
          exact PW_at (hN _ hk) (And.intro rfl (And.intro rfl (And.intro rfl (And.intro rfl (And.intro rfl (And.intro rfl trivial)))))) (by omega) (by omega)
        · replace hk := hk.2 c13
          refine px_iconst (v := (0 : Int32)) C dL_law_986 rfl ?_
          exact hk.elim
  · replace hk := hk.2 c16
    refine px_iconst (v := (0 : Int32)) C dL_law_962 rfl ?_
    exact hk.elim
theorem dL_law_991 : decode cL_law 991 = .ok (.aload_n 1, 1) := by decide +kernel
theorem dL_law_992 : decode cL_law 992 = .ok (.aload_n 0, 1) := by decide +kernel
theorem dL_law_993 : decode cL_law 993 = .ok (.iload 5, 2) := by decide +kernel
theorem dL_law_995 : decode cL_law 995 = .ok (.iconst 1, 1) := by decide +kernel
theorem dL_law_996 : decode cL_law 996 = .ok (.iadd, 1) := by decide +kernel
theorem dL_law_997 : decode cL_law 997 = .ok (.iaload, 1) := by decide +kernel
theorem dL_law_998 : decode cL_law 998 = .ok (.aload_n 3, 1) := by decide +kernel
theorem dL_law_999 : decode cL_law 999 = .ok (.invokestatic 226, 3) := by decide +kernel
theorem dL_law_1002 : decode cL_law 1002 = .ok (.istore 6, 2) := by decide +kernel
theorem dL_law_1004 : decode cL_law 1004 = .ok (.aload_n 2, 1) := by decide +kernel
theorem dL_law_1005 : decode cL_law 1005 = .ok (.aload_n 0, 1) := by decide +kernel
theorem dL_law_1006 : decode cL_law 1006 = .ok (.iload 5, 2) := by decide +kernel
theorem dL_law_1008 : decode cL_law 1008 = .ok (.iconst 1, 1) := by decide +kernel
theorem dL_law_1009 : decode cL_law 1009 = .ok (.iadd, 1) := by decide +kernel
theorem dL_law_1010 : decode cL_law 1010 = .ok (.iaload, 1) := by decide +kernel
theorem dL_law_1011 : decode cL_law 1011 = .ok (.invokevirtual 228, 3) := by decide +kernel
theorem dL_law_1014 : decode cL_law 1014 = .ok (.istore 7, 2) := by decide +kernel
theorem dL_law_1016 : decode cL_law 1016 = .ok (.aload_n 2, 1) := by decide +kernel
theorem dL_law_1017 : decode cL_law 1017 = .ok (.invokevirtual 186, 3) := by decide +kernel
theorem dL_law_1020 : decode cL_law 1020 = .ok (.iload 6, 2) := by decide +kernel
theorem dL_law_1022 : decode cL_law 1022 = .ok (.if_icmp .eq 5, 3) := by decide +kernel
theorem dL_law_1025 : decode cL_law 1025 = .ok (.iconst 0, 1) := by decide +kernel
theorem dL_law_1026 : decode cL_law 1026 = .ok (.ireturn, 1) := by decide +kernel
theorem dL_law_1027 : decode cL_law 1027 = .ok (.iload 6, 2) := by decide +kernel
theorem dL_law_1029 : decode cL_law 1029 = .ok (.ifCond .ne 22, 3) := by decide +kernel
theorem dL_law_1032 : decode cL_law 1032 = .ok (.aload_n 3, 1) := by decide +kernel
theorem dL_law_1033 : decode cL_law 1033 = .ok (.iconst 0, 1) := by decide +kernel
theorem dL_law_1034 : decode cL_law 1034 = .ok (.laload, 1) := by decide +kernel
theorem dL_law_1035 : decode cL_law 1035 = .ok (.iload 7, 2) := by decide +kernel
theorem dL_law_1037 : decode cL_law 1037 = .ok (.ifCond .eq 7, 3) := by decide +kernel
theorem dL_law_1040 : decode cL_law 1040 = .ok (.lconst 1, 1) := by decide +kernel
theorem dL_law_1041 : decode cL_law 1041 = .ok (.goto 4, 3) := by decide +kernel
theorem dL_law_1044 : decode cL_law 1044 = .ok (.lconst 0, 1) := by decide +kernel
theorem dL_law_1045 : decode cL_law 1045 = .ok (.lcmp, 1) := by decide +kernel
theorem dL_law_1046 : decode cL_law 1046 = .ok (.ifCond .eq 5, 3) := by decide +kernel
theorem dL_law_1049 : decode cL_law 1049 = .ok (.iconst 0, 1) := by decide +kernel
theorem dL_law_1050 : decode cL_law 1050 = .ok (.ireturn, 1) := by decide +kernel
theorem dL_law_1051 : decode cL_law 1051 = .ok (.goto 2422, 3) := by decide +kernel
set_option maxRecDepth 100000 in
set_option maxHeartbeats 4000000 in
theorem lc12_ok {G : GT} {b L A B : Nat} {xs : Nat → Int32} {μ : Mem} {i : Int32} {N : Mem → Prop} (C : PCx G cL_law 9 RL) (hX : Scr G b L xs) (hHR : HR G 11) (hN : ∀ μ : Mem, N μ → PW G A B 3473 [some (pW (.ref b)), some (pR 40 0), some (pR 50 0), some (pR 80 0), some (pR 81 0), some (pI i), none, none, none] [] μ) (hk : lc12_wp xs L μ i N) : PW G (A + 2) (B + 12) 991 [some (pW (.ref b)), some (pR 40 0), some (pR 50 0), some (pR 80 0), some (pR 81 0), some (pI i), none, none, none] [] μ := by
  unfold lc12_wp at hk
  refine px_aload_n (i := 1) C dL_law_991 rfl rfl ?_
  refine px_aload_nw (i := 0) C dL_law_992 rfl rfl ?_
  refine px_iload (i := 5) C dL_law_993 rfl ?_
  refine px_iconst (v := (1 : Int32)) C dL_law_995 rfl ?_
  refine px_iadd C dL_law_996 ?_
  obtain ⟨o1, hk⟩ := hk
  refine px_sld C hX dL_law_997 o1 ?_
  refine px_aload_n (i := 3) C dL_law_998 rfl rfl ?_
  refine px_callSH (h := 10) (rc' := A + 0) (rs' := B + 0) C (HR_le hHR (Nat.le_of_ble_eq_true rfl)) dL_law_999 (gw4 77 rfl rfl) ms_L_isInside (L_isInside_ok (PCx_l C) (PCx_I C) hk) rfl rfl (Nat.le_of_ble_eq_true rfl) (Nat.le_of_ble_eq_true rfl) (by omega) (by omega) ?_
  intro r3 μ2 hk
  refine px_istore (i := 6) C dL_law_1002 (by decide) rfl ?_
  refine px_aload_n (i := 2) C dL_law_1004 rfl rfl ?_
  refine px_aload_nw (i := 0) C dL_law_1005 rfl rfl ?_
  refine px_iload (i := 5) C dL_law_1006 rfl ?_
  refine px_iconst (v := (1 : Int32)) C dL_law_1008 rfl ?_
  refine px_iadd C dL_law_1009 ?_
  obtain ⟨o4, hk⟩ := hk
  refine px_sld C hX dL_law_1010 o4 ?_
  refine px_callVNi (h := 6) (rc' := A + 0) (rs' := B + 0) C (HR_le hHR (Nat.le_of_ble_eq_true rfl)) dL_law_1011 (gw9 18 rfl rfl) mv_X9_isInside (w9_isInside_ok (PCx_l C) (PCx_I C) hk) rfl rfl rfl rfl rfl (Nat.le_of_ble_eq_true rfl) (Nat.le_of_ble_eq_true rfl) (by omega) (by omega) ?_
  intro r6 μ5 hk
  refine px_istore (i := 7) C dL_law_1014 (by decide) rfl ?_
  refine px_aload_n (i := 2) C dL_law_1016 rfl rfl ?_
  refine px_callVNi (h := 0) (rc' := A + 0) (rs' := B + 0) C (HR_le hHR (Nat.le_of_ble_eq_true rfl)) dL_law_1017 (gw8 123 rfl rfl) mv_X9_thrown (w9_thrown_ok (PCx_l C) (PCx_I C) hk) rfl rfl rfl rfl rfl (Nat.le_of_ble_eq_true rfl) (Nat.le_of_ble_eq_true rfl) (by omega) (by omega) ?_
  intro r8 μ7 hk
  refine px_iload (i := 6) C dL_law_1020 rfl ?_
  refine px_icmp_eq (tgt := 1027) C dL_law_1022 (by decide) (fun c16 => ?_) (fun c16 => ?_)
  · replace hk := hk.1 c16
    refine px_iload (i := 6) C dL_law_1027 rfl ?_
    refine px_if_ne (tgt := 1051) C dL_law_1029 (by decide) (fun c15 => ?_) (fun c15 => ?_)
    · replace hk := hk.1 c15
      refine px_goto (tgt := 3473) C dL_law_1051 (by decide) ?_
      exact PW_at (hN _ hk) (And.intro rfl (And.intro rfl (And.intro rfl (And.intro rfl (And.intro rfl (And.intro rfl trivial)))))) (by omega) (by omega)
    · replace hk := hk.2 c15
      refine px_aload_n (i := 3) C dL_law_1032 rfl rfl ?_
      refine px_iconst (v := (0 : Int32)) C dL_law_1033 rfl ?_
      obtain ⟨o9, hk⟩ := hk
      refine px_lald 5120 C dL_law_1034 rfl rfl rfl rfl o9 ?_
      refine px_iload (i := 7) C dL_law_1035 rfl ?_
      refine px_if_eq (tgt := 1044) C dL_law_1037 (by decide) (fun c14 => ?_) (fun c14 => ?_)
      · replace hk := hk.1 c14
        refine px_lconst (v := (0 : Int32)) C dL_law_1044 rfl ?_
        obtain ⟨o10, hk⟩ := hk
        refine px_lcmp C dL_law_1045 o10 ?_
        refine px_if_eq (tgt := 1051) C dL_law_1046 (by decide) (fun c11 => ?_) (fun c11 => ?_)
        · replace hk := hk.1 c11
          refine px_goto (tgt := 3473) C dL_law_1051 (by decide) ?_
          exact PW_at (hN _ hk) (And.intro rfl (And.intro rfl (And.intro rfl (And.intro rfl (And.intro rfl (And.intro rfl trivial)))))) (by omega) (by omega)
        · replace hk := hk.2 c11
          refine px_iconst (v := (0 : Int32)) C dL_law_1049 rfl ?_
          exact hk.elim
      · replace hk := hk.2 c14
        refine px_lconst (v := (1 : Int32)) C dL_law_1040 rfl ?_
        refine px_goto (tgt := 1045) C dL_law_1041 (by decide) ?_
        obtain ⟨o12, hk⟩ := hk
        refine px_lcmp C dL_law_1045 o12 ?_
        refine px_if_eq (tgt := 1051) C dL_law_1046 (by decide) (fun c13 => ?_) (fun c13 => ?_)
        · replace hk := hk.1 c13
          refine px_goto (tgt := 3473) C dL_law_1051 (by decide) ?_
          exact PW_at (hN _ hk) (And.intro rfl (And.intro rfl (And.intro rfl (And.intro rfl (And.intro rfl (And.intro rfl trivial)))))) (by omega) (by omega)
        · replace hk := hk.2 c13
          refine px_iconst (v := (0 : Int32)) C dL_law_1049 rfl ?_
          exact hk.elim
  · replace hk := hk.2 c16
    refine px_iconst (v := (0 : Int32)) C dL_law_1025 rfl ?_
    exact hk.elim
theorem dL_law_1054 : decode cL_law 1054 = .ok (.aload_n 1, 1) := by decide +kernel
theorem dL_law_1055 : decode cL_law 1055 = .ok (.aload_n 0, 1) := by decide +kernel
theorem dL_law_1056 : decode cL_law 1056 = .ok (.iload 5, 2) := by decide +kernel
theorem dL_law_1058 : decode cL_law 1058 = .ok (.iconst 1, 1) := by decide +kernel
theorem dL_law_1059 : decode cL_law 1059 = .ok (.iadd, 1) := by decide +kernel
theorem dL_law_1060 : decode cL_law 1060 = .ok (.iaload, 1) := by decide +kernel
theorem dL_law_1061 : decode cL_law 1061 = .ok (.aload_n 0, 1) := by decide +kernel
theorem dL_law_1062 : decode cL_law 1062 = .ok (.iload 5, 2) := by decide +kernel
theorem dL_law_1064 : decode cL_law 1064 = .ok (.iconst 2, 1) := by decide +kernel
theorem dL_law_1065 : decode cL_law 1065 = .ok (.iadd, 1) := by decide +kernel
theorem dL_law_1066 : decode cL_law 1066 = .ok (.iaload, 1) := by decide +kernel
theorem dL_law_1067 : decode cL_law 1067 = .ok (.ifCond .eq 7, 3) := by decide +kernel
theorem dL_law_1070 : decode cL_law 1070 = .ok (.iconst 1, 1) := by decide +kernel
theorem dL_law_1071 : decode cL_law 1071 = .ok (.goto 4, 3) := by decide +kernel
theorem dL_law_1074 : decode cL_law 1074 = .ok (.iconst 0, 1) := by decide +kernel
theorem dL_law_1075 : decode cL_law 1075 = .ok (.aload_n 3, 1) := by decide +kernel
theorem dL_law_1076 : decode cL_law 1076 = .ok (.invokestatic 229, 3) := by decide +kernel
theorem dL_law_1079 : decode cL_law 1079 = .ok (.istore 6, 2) := by decide +kernel
theorem dL_law_1081 : decode cL_law 1081 = .ok (.aload_n 2, 1) := by decide +kernel
theorem dL_law_1082 : decode cL_law 1082 = .ok (.aload_n 0, 1) := by decide +kernel
theorem dL_law_1083 : decode cL_law 1083 = .ok (.iload 5, 2) := by decide +kernel
theorem dL_law_1085 : decode cL_law 1085 = .ok (.iconst 1, 1) := by decide +kernel
theorem dL_law_1086 : decode cL_law 1086 = .ok (.iadd, 1) := by decide +kernel
theorem dL_law_1087 : decode cL_law 1087 = .ok (.iaload, 1) := by decide +kernel
theorem dL_law_1088 : decode cL_law 1088 = .ok (.aload_n 0, 1) := by decide +kernel
theorem dL_law_1089 : decode cL_law 1089 = .ok (.iload 5, 2) := by decide +kernel
theorem dL_law_1091 : decode cL_law 1091 = .ok (.iconst 2, 1) := by decide +kernel
theorem dL_law_1092 : decode cL_law 1092 = .ok (.iadd, 1) := by decide +kernel
theorem dL_law_1093 : decode cL_law 1093 = .ok (.iaload, 1) := by decide +kernel
theorem dL_law_1094 : decode cL_law 1094 = .ok (.ifCond .eq 7, 3) := by decide +kernel
theorem dL_law_1097 : decode cL_law 1097 = .ok (.iconst 1, 1) := by decide +kernel
theorem dL_law_1098 : decode cL_law 1098 = .ok (.goto 4, 3) := by decide +kernel
theorem dL_law_1101 : decode cL_law 1101 = .ok (.iconst 0, 1) := by decide +kernel
theorem dL_law_1102 : decode cL_law 1102 = .ok (.invokevirtual 231, 3) := by decide +kernel
theorem dL_law_1105 : decode cL_law 1105 = .ok (.istore 7, 2) := by decide +kernel
theorem dL_law_1107 : decode cL_law 1107 = .ok (.aload_n 2, 1) := by decide +kernel
theorem dL_law_1108 : decode cL_law 1108 = .ok (.invokevirtual 186, 3) := by decide +kernel
theorem dL_law_1111 : decode cL_law 1111 = .ok (.iload 6, 2) := by decide +kernel
theorem dL_law_1113 : decode cL_law 1113 = .ok (.if_icmp .eq 5, 3) := by decide +kernel
theorem dL_law_1116 : decode cL_law 1116 = .ok (.iconst 0, 1) := by decide +kernel
theorem dL_law_1117 : decode cL_law 1117 = .ok (.ireturn, 1) := by decide +kernel
theorem dL_law_1118 : decode cL_law 1118 = .ok (.iload 6, 2) := by decide +kernel
theorem dL_law_1120 : decode cL_law 1120 = .ok (.ifCond .ne 15, 3) := by decide +kernel
theorem dL_law_1123 : decode cL_law 1123 = .ok (.aload_n 3, 1) := by decide +kernel
theorem dL_law_1124 : decode cL_law 1124 = .ok (.iconst 0, 1) := by decide +kernel
theorem dL_law_1125 : decode cL_law 1125 = .ok (.laload, 1) := by decide +kernel
theorem dL_law_1126 : decode cL_law 1126 = .ok (.iload 7, 2) := by decide +kernel
theorem dL_law_1128 : decode cL_law 1128 = .ok (.i2l, 1) := by decide +kernel
theorem dL_law_1129 : decode cL_law 1129 = .ok (.lcmp, 1) := by decide +kernel
theorem dL_law_1130 : decode cL_law 1130 = .ok (.ifCond .eq 5, 3) := by decide +kernel
theorem dL_law_1133 : decode cL_law 1133 = .ok (.iconst 0, 1) := by decide +kernel
theorem dL_law_1134 : decode cL_law 1134 = .ok (.ireturn, 1) := by decide +kernel
theorem dL_law_1135 : decode cL_law 1135 = .ok (.goto 2338, 3) := by decide +kernel
set_option maxRecDepth 100000 in
set_option maxHeartbeats 4000000 in
theorem lc13_ok {G : GT} {b L A B : Nat} {xs : Nat → Int32} {μ : Mem} {i : Int32} {N : Mem → Prop} (C : PCx G cL_law 9 RL) (hX : Scr G b L xs) (hHR : HR G 11) (hN : ∀ μ : Mem, N μ → PW G A B 3473 [some (pW (.ref b)), some (pR 40 0), some (pR 50 0), some (pR 80 0), some (pR 81 0), some (pI i), none, none, none] [] μ) (hk : lc13_wp xs L μ i N) : PW G (A + 1) (B + 6) 1054 [some (pW (.ref b)), some (pR 40 0), some (pR 50 0), some (pR 80 0), some (pR 81 0), some (pI i), none, none, none] [] μ := by
  unfold lc13_wp at hk
  refine px_aload_n (i := 1) C dL_law_1054 rfl rfl ?_
  refine px_aload_nw (i := 0) C dL_law_1055 rfl rfl ?_
  refine px_iload (i := 5) C dL_law_1056 rfl ?_
  refine px_iconst (v := (1 : Int32)) C dL_law_1058 rfl ?_
  refine px_iadd C dL_law_1059 ?_
  obtain ⟨o1, hk⟩ := hk
  refine px_sld C hX dL_law_1060 o1 ?_
  refine px_aload_nw (i := 0) C dL_law_1061 rfl rfl ?_
  refine px_iload (i := 5) C dL_law_1062 rfl ?_
  refine px_iconst (v := (2 : Int32)) C dL_law_1064 rfl ?_
  refine px_iadd C dL_law_1065 ?_
  obtain ⟨o2, hk⟩ := hk
  refine px_sld C hX dL_law_1066 o2 ?_
  refine px_if_eq (tgt := 1074) C dL_law_1067 (by decide) (fun c49 => ?_) (fun c49 => ?_)
  · replace hk := hk.1 c49
    refine px_iconst (v := (0 : Int32)) C dL_law_1074 rfl ?_
    refine px_aload_n (i := 3) C dL_law_1075 rfl rfl ?_
    refine px_callSH (h := 10) (rc' := A + 0) (rs' := B + 0) C (HR_le hHR (Nat.le_of_ble_eq_true rfl)) dL_law_1076 (gw4 85 rfl rfl) ms_L_corrected (L_corrected_ok (PCx_l C) (PCx_I C) hk) rfl rfl (Nat.le_of_ble_eq_true rfl) (Nat.le_of_ble_eq_true rfl) (by omega) (by omega) ?_
    intro r4 μ3 hk
    refine px_istore (i := 6) C dL_law_1079 (by decide) rfl ?_
    refine px_aload_n (i := 2) C dL_law_1081 rfl rfl ?_
    refine px_aload_nw (i := 0) C dL_law_1082 rfl rfl ?_
    refine px_iload (i := 5) C dL_law_1083 rfl ?_
    refine px_iconst (v := (1 : Int32)) C dL_law_1085 rfl ?_
    refine px_iadd C dL_law_1086 ?_
    obtain ⟨o5, hk⟩ := hk
    refine px_sld C hX dL_law_1087 o5 ?_
    refine px_aload_nw (i := 0) C dL_law_1088 rfl rfl ?_
    refine px_iload (i := 5) C dL_law_1089 rfl ?_
    refine px_iconst (v := (2 : Int32)) C dL_law_1091 rfl ?_
    refine px_iadd C dL_law_1092 ?_
    obtain ⟨o6, hk⟩ := hk
    refine px_sld C hX dL_law_1093 o6 ?_
    refine px_if_eq (tgt := 1101) C dL_law_1094 (by decide) (fun c25 => ?_) (fun c25 => ?_)
    · replace hk := hk.1 c25
      refine px_iconst (v := (0 : Int32)) C dL_law_1101 rfl ?_
      refine px_callVNi (h := 6) (rc' := A + 0) (rs' := B + 0) C (HR_le hHR (Nat.le_of_ble_eq_true rfl)) dL_law_1102 (gw9 30 rfl rfl) mv_X9_corrected (w9_corrected_ok (PCx_l C) (PCx_I C) hk) rfl rfl rfl rfl rfl (Nat.le_of_ble_eq_true rfl) (Nat.le_of_ble_eq_true rfl) (by omega) (by omega) ?_
      intro r8 μ7 hk
      refine px_istore (i := 7) C dL_law_1105 (by decide) rfl ?_
      refine px_aload_n (i := 2) C dL_law_1107 rfl rfl ?_
      refine px_callVNi (h := 0) (rc' := A + 0) (rs' := B + 0) C (HR_le hHR (Nat.le_of_ble_eq_true rfl)) dL_law_1108 (gw8 123 rfl rfl) mv_X9_thrown (w9_thrown_ok (PCx_l C) (PCx_I C) hk) rfl rfl rfl rfl rfl (Nat.le_of_ble_eq_true rfl) (Nat.le_of_ble_eq_true rfl) (by omega) (by omega) ?_
      intro r10 μ9 hk
      refine px_iload (i := 6) C dL_law_1111 rfl ?_
      refine px_icmp_eq (tgt := 1118) C dL_law_1113 (by decide) (fun c15 => ?_) (fun c15 => ?_)
      · replace hk := hk.1 c15
        refine px_iload (i := 6) C dL_law_1118 rfl ?_
        refine px_if_ne (tgt := 1135) C dL_law_1120 (by decide) (fun c14 => ?_) (fun c14 => ?_)
        · replace hk := hk.1 c14
          refine px_goto (tgt := 3473) C dL_law_1135 (by decide) ?_
          exact PW_at (hN _ hk) (And.intro rfl (And.intro rfl (And.intro rfl (And.intro rfl (And.intro rfl (And.intro rfl trivial)))))) (by omega) (by omega)
        · replace hk := hk.2 c14
          refine px_aload_n (i := 3) C dL_law_1123 rfl rfl ?_
          refine px_iconst (v := (0 : Int32)) C dL_law_1124 rfl ?_
          obtain ⟨o11, hk⟩ := hk
          refine px_lald 5120 C dL_law_1125 rfl rfl rfl rfl o11 ?_
          refine px_iload (i := 7) C dL_law_1126 rfl ?_
          refine px_i2l C dL_law_1128 ?_
          obtain ⟨o12, hk⟩ := hk
          refine px_lcmp C dL_law_1129 o12 ?_
          refine px_if_eq (tgt := 1135) C dL_law_1130 (by decide) (fun c13 => ?_) (fun c13 => ?_)
          · replace hk := hk.1 c13
            refine px_goto (tgt := 3473) C dL_law_1135 (by decide) ?_
            exact PW_at (hN _ hk) (And.intro rfl (And.intro rfl (And.intro rfl (And.intro rfl (And.intro rfl (And.intro rfl trivial)))))) (by omega) (by omega)
          · replace hk := hk.2 c13
            refine px_iconst (v := (0 : Int32)) C dL_law_1133 rfl ?_
            exact hk.elim
      · replace hk := hk.2 c15
        refine px_iconst (v := (0 : Int32)) C dL_law_1116 rfl ?_
        exact hk.elim
    · replace hk := hk.2 c25
      refine px_iconst (v := (1 : Int32)) C dL_law_1097 rfl ?_
      refine px_goto (tgt := 1102) C dL_law_1098 (by decide) ?_
      refine px_callVNi (h := 6) (rc' := A + 0) (rs' := B + 0) C (HR_le hHR (Nat.le_of_ble_eq_true rfl)) dL_law_1102 (gw9 30 rfl rfl) mv_X9_corrected (w9_corrected_ok (PCx_l C) (PCx_I C) hk) rfl rfl rfl rfl rfl (Nat.le_of_ble_eq_true rfl) (Nat.le_of_ble_eq_true rfl) (by omega) (by omega) ?_
      intro r17 μ16 hk
      refine px_istore (i := 7) C dL_law_1105 (by decide) rfl ?_
      refine px_aload_n (i := 2) C dL_law_1107 rfl rfl ?_
      refine px_callVNi (h := 0) (rc' := A + 0) (rs' := B + 0) C (HR_le hHR (Nat.le_of_ble_eq_true rfl)) dL_law_1108 (gw8 123 rfl rfl) mv_X9_thrown (w9_thrown_ok (PCx_l C) (PCx_I C) hk) rfl rfl rfl rfl rfl (Nat.le_of_ble_eq_true rfl) (Nat.le_of_ble_eq_true rfl) (by omega) (by omega) ?_
      intro r19 μ18 hk
      refine px_iload (i := 6) C dL_law_1111 rfl ?_
      refine px_icmp_eq (tgt := 1118) C dL_law_1113 (by decide) (fun c24 => ?_) (fun c24 => ?_)
      · replace hk := hk.1 c24
        refine px_iload (i := 6) C dL_law_1118 rfl ?_
        refine px_if_ne (tgt := 1135) C dL_law_1120 (by decide) (fun c23 => ?_) (fun c23 => ?_)
        · replace hk := hk.1 c23
          refine px_goto (tgt := 3473) C dL_law_1135 (by decide) ?_
          exact PW_at (hN _ hk) (And.intro rfl (And.intro rfl (And.intro rfl (And.intro rfl (And.intro rfl (And.intro rfl trivial)))))) (by omega) (by omega)
        · replace hk := hk.2 c23
          refine px_aload_n (i := 3) C dL_law_1123 rfl rfl ?_
          refine px_iconst (v := (0 : Int32)) C dL_law_1124 rfl ?_
          obtain ⟨o20, hk⟩ := hk
          refine px_lald 5120 C dL_law_1125 rfl rfl rfl rfl o20 ?_
          refine px_iload (i := 7) C dL_law_1126 rfl ?_
          refine px_i2l C dL_law_1128 ?_
          obtain ⟨o21, hk⟩ := hk
          refine px_lcmp C dL_law_1129 o21 ?_
          refine px_if_eq (tgt := 1135) C dL_law_1130 (by decide) (fun c22 => ?_) (fun c22 => ?_)
          · replace hk := hk.1 c22
            refine px_goto (tgt := 3473) C dL_law_1135 (by decide) ?_
            exact PW_at (hN _ hk) (And.intro rfl (And.intro rfl (And.intro rfl (And.intro rfl (And.intro rfl (And.intro rfl trivial)))))) (by omega) (by omega)
          · replace hk := hk.2 c22
            refine px_iconst (v := (0 : Int32)) C dL_law_1133 rfl ?_
            exact hk.elim
      · replace hk := hk.2 c24
        refine px_iconst (v := (0 : Int32)) C dL_law_1116 rfl ?_
        exact hk.elim
  · replace hk := hk.2 c49
    refine px_iconst (v := (1 : Int32)) C dL_law_1070 rfl ?_
    refine px_goto (tgt := 1075) C dL_law_1071 (by decide) ?_
    refine px_aload_n (i := 3) C dL_law_1075 rfl rfl ?_
    refine px_callSH (h := 10) (rc' := A + 0) (rs' := B + 0) C (HR_le hHR (Nat.le_of_ble_eq_true rfl)) dL_law_1076 (gw4 85 rfl rfl) ms_L_corrected (L_corrected_ok (PCx_l C) (PCx_I C) hk) rfl rfl (Nat.le_of_ble_eq_true rfl) (Nat.le_of_ble_eq_true rfl) (by omega) (by omega) ?_
    intro r27 μ26 hk
    refine px_istore (i := 6) C dL_law_1079 (by decide) rfl ?_
    refine px_aload_n (i := 2) C dL_law_1081 rfl rfl ?_
    refine px_aload_nw (i := 0) C dL_law_1082 rfl rfl ?_
    refine px_iload (i := 5) C dL_law_1083 rfl ?_
    refine px_iconst (v := (1 : Int32)) C dL_law_1085 rfl ?_
    refine px_iadd C dL_law_1086 ?_
    obtain ⟨o28, hk⟩ := hk
    refine px_sld C hX dL_law_1087 o28 ?_
    refine px_aload_nw (i := 0) C dL_law_1088 rfl rfl ?_
    refine px_iload (i := 5) C dL_law_1089 rfl ?_
    refine px_iconst (v := (2 : Int32)) C dL_law_1091 rfl ?_
    refine px_iadd C dL_law_1092 ?_
    obtain ⟨o29, hk⟩ := hk
    refine px_sld C hX dL_law_1093 o29 ?_
    refine px_if_eq (tgt := 1101) C dL_law_1094 (by decide) (fun c48 => ?_) (fun c48 => ?_)
    · replace hk := hk.1 c48
      refine px_iconst (v := (0 : Int32)) C dL_law_1101 rfl ?_
      refine px_callVNi (h := 6) (rc' := A + 0) (rs' := B + 0) C (HR_le hHR (Nat.le_of_ble_eq_true rfl)) dL_law_1102 (gw9 30 rfl rfl) mv_X9_corrected (w9_corrected_ok (PCx_l C) (PCx_I C) hk) rfl rfl rfl rfl rfl (Nat.le_of_ble_eq_true rfl) (Nat.le_of_ble_eq_true rfl) (by omega) (by omega) ?_
      intro r31 μ30 hk
      refine px_istore (i := 7) C dL_law_1105 (by decide) rfl ?_
      refine px_aload_n (i := 2) C dL_law_1107 rfl rfl ?_
      refine px_callVNi (h := 0) (rc' := A + 0) (rs' := B + 0) C (HR_le hHR (Nat.le_of_ble_eq_true rfl)) dL_law_1108 (gw8 123 rfl rfl) mv_X9_thrown (w9_thrown_ok (PCx_l C) (PCx_I C) hk) rfl rfl rfl rfl rfl (Nat.le_of_ble_eq_true rfl) (Nat.le_of_ble_eq_true rfl) (by omega) (by omega) ?_
      intro r33 μ32 hk
      refine px_iload (i := 6) C dL_law_1111 rfl ?_
      refine px_icmp_eq (tgt := 1118) C dL_law_1113 (by decide) (fun c38 => ?_) (fun c38 => ?_)
      · replace hk := hk.1 c38
        refine px_iload (i := 6) C dL_law_1118 rfl ?_
        refine px_if_ne (tgt := 1135) C dL_law_1120 (by decide) (fun c37 => ?_) (fun c37 => ?_)
        · replace hk := hk.1 c37
          refine px_goto (tgt := 3473) C dL_law_1135 (by decide) ?_
          exact PW_at (hN _ hk) (And.intro rfl (And.intro rfl (And.intro rfl (And.intro rfl (And.intro rfl (And.intro rfl trivial)))))) (by omega) (by omega)
        · replace hk := hk.2 c37
          refine px_aload_n (i := 3) C dL_law_1123 rfl rfl ?_
          refine px_iconst (v := (0 : Int32)) C dL_law_1124 rfl ?_
          obtain ⟨o34, hk⟩ := hk
          refine px_lald 5120 C dL_law_1125 rfl rfl rfl rfl o34 ?_
          refine px_iload (i := 7) C dL_law_1126 rfl ?_
          refine px_i2l C dL_law_1128 ?_
          obtain ⟨o35, hk⟩ := hk
          refine px_lcmp C dL_law_1129 o35 ?_
          refine px_if_eq (tgt := 1135) C dL_law_1130 (by decide) (fun c36 => ?_) (fun c36 => ?_)
          · replace hk := hk.1 c36
            refine px_goto (tgt := 3473) C dL_law_1135 (by decide) ?_
            exact PW_at (hN _ hk) (And.intro rfl (And.intro rfl (And.intro rfl (And.intro rfl (And.intro rfl (And.intro rfl trivial)))))) (by omega) (by omega)
          · replace hk := hk.2 c36
            refine px_iconst (v := (0 : Int32)) C dL_law_1133 rfl ?_
            exact hk.elim
      · replace hk := hk.2 c38
        refine px_iconst (v := (0 : Int32)) C dL_law_1116 rfl ?_
        exact hk.elim
    · replace hk := hk.2 c48
      refine px_iconst (v := (1 : Int32)) C dL_law_1097 rfl ?_
      refine px_goto (tgt := 1102) C dL_law_1098 (by decide) ?_
      refine px_callVNi (h := 6) (rc' := A + 0) (rs' := B + 0) C (HR_le hHR (Nat.le_of_ble_eq_true rfl)) dL_law_1102 (gw9 30 rfl rfl) mv_X9_corrected (w9_corrected_ok (PCx_l C) (PCx_I C) hk) rfl rfl rfl rfl rfl (Nat.le_of_ble_eq_true rfl) (Nat.le_of_ble_eq_true rfl) (by omega) (by omega) ?_
      intro r40 μ39 hk
      refine px_istore (i := 7) C dL_law_1105 (by decide) rfl ?_
      refine px_aload_n (i := 2) C dL_law_1107 rfl rfl ?_
      refine px_callVNi (h := 0) (rc' := A + 0) (rs' := B + 0) C (HR_le hHR (Nat.le_of_ble_eq_true rfl)) dL_law_1108 (gw8 123 rfl rfl) mv_X9_thrown (w9_thrown_ok (PCx_l C) (PCx_I C) hk) rfl rfl rfl rfl rfl (Nat.le_of_ble_eq_true rfl) (Nat.le_of_ble_eq_true rfl) (by omega) (by omega) ?_
      intro r42 μ41 hk
      refine px_iload (i := 6) C dL_law_1111 rfl ?_
      refine px_icmp_eq (tgt := 1118) C dL_law_1113 (by decide) (fun c47 => ?_) (fun c47 => ?_)
      · replace hk := hk.1 c47
        refine px_iload (i := 6) C dL_law_1118 rfl ?_
        refine px_if_ne (tgt := 1135) C dL_law_1120 (by decide) (fun c46 => ?_) (fun c46 => ?_)
        · replace hk := hk.1 c46
          refine px_goto (tgt := 3473) C dL_law_1135 (by decide) ?_
          exact PW_at (hN _ hk) (And.intro rfl (And.intro rfl (And.intro rfl (And.intro rfl (And.intro rfl (And.intro rfl trivial)))))) (by omega) (by omega)
        · replace hk := hk.2 c46
          refine px_aload_n (i := 3) C dL_law_1123 rfl rfl ?_
          refine px_iconst (v := (0 : Int32)) C dL_law_1124 rfl ?_
          obtain ⟨o43, hk⟩ := hk
          refine px_lald 5120 C dL_law_1125 rfl rfl rfl rfl o43 ?_
          refine px_iload (i := 7) C dL_law_1126 rfl ?_
          refine px_i2l C dL_law_1128 ?_
          obtain ⟨o44, hk⟩ := hk
          refine px_lcmp C dL_law_1129 o44 ?_
          refine px_if_eq (tgt := 1135) C dL_law_1130 (by decide) (fun c45 => ?_) (fun c45 => ?_)
          · replace hk := hk.1 c45
            refine px_goto (tgt := 3473) C dL_law_1135 (by decide) ?_
            exact PW_at (hN _ hk) (And.intro rfl (And.intro rfl (And.intro rfl (And.intro rfl (And.intro rfl (And.intro rfl trivial)))))) (by omega) (by omega)
          · replace hk := hk.2 c45
            refine px_iconst (v := (0 : Int32)) C dL_law_1133 rfl ?_
            exact hk.elim
      · replace hk := hk.2 c47
        refine px_iconst (v := (0 : Int32)) C dL_law_1116 rfl ?_
        exact hk.elim
theorem dL_law_1138 : decode cL_law 1138 = .ok (.aload_n 1, 1) := by decide +kernel
theorem dL_law_1139 : decode cL_law 1139 = .ok (.aload_n 0, 1) := by decide +kernel
theorem dL_law_1140 : decode cL_law 1140 = .ok (.iload 5, 2) := by decide +kernel
theorem dL_law_1142 : decode cL_law 1142 = .ok (.iconst 1, 1) := by decide +kernel
theorem dL_law_1143 : decode cL_law 1143 = .ok (.iadd, 1) := by decide +kernel
theorem dL_law_1144 : decode cL_law 1144 = .ok (.iaload, 1) := by decide +kernel
theorem dL_law_1145 : decode cL_law 1145 = .ok (.aload_n 3, 1) := by decide +kernel
theorem dL_law_1146 : decode cL_law 1146 = .ok (.invokestatic 232, 3) := by decide +kernel
theorem dL_law_1149 : decode cL_law 1149 = .ok (.istore 6, 2) := by decide +kernel
theorem dL_law_1151 : decode cL_law 1151 = .ok (.aload_n 2, 1) := by decide +kernel
theorem dL_law_1152 : decode cL_law 1152 = .ok (.aload_n 0, 1) := by decide +kernel
theorem dL_law_1153 : decode cL_law 1153 = .ok (.iload 5, 2) := by decide +kernel
theorem dL_law_1155 : decode cL_law 1155 = .ok (.iconst 1, 1) := by decide +kernel
theorem dL_law_1156 : decode cL_law 1156 = .ok (.iadd, 1) := by decide +kernel
theorem dL_law_1157 : decode cL_law 1157 = .ok (.iaload, 1) := by decide +kernel
theorem dL_law_1158 : decode cL_law 1158 = .ok (.invokevirtual 234, 3) := by decide +kernel
theorem dL_law_1161 : decode cL_law 1161 = .ok (.istore 7, 2) := by decide +kernel
theorem dL_law_1163 : decode cL_law 1163 = .ok (.aload_n 2, 1) := by decide +kernel
theorem dL_law_1164 : decode cL_law 1164 = .ok (.invokevirtual 186, 3) := by decide +kernel
theorem dL_law_1167 : decode cL_law 1167 = .ok (.iload 6, 2) := by decide +kernel
theorem dL_law_1169 : decode cL_law 1169 = .ok (.if_icmp .eq 5, 3) := by decide +kernel
theorem dL_law_1172 : decode cL_law 1172 = .ok (.iconst 0, 1) := by decide +kernel
theorem dL_law_1173 : decode cL_law 1173 = .ok (.ireturn, 1) := by decide +kernel
theorem dL_law_1174 : decode cL_law 1174 = .ok (.iload 6, 2) := by decide +kernel
theorem dL_law_1176 : decode cL_law 1176 = .ok (.ifCond .ne 15, 3) := by decide +kernel
theorem dL_law_1179 : decode cL_law 1179 = .ok (.aload_n 3, 1) := by decide +kernel
theorem dL_law_1180 : decode cL_law 1180 = .ok (.iconst 0, 1) := by decide +kernel
theorem dL_law_1181 : decode cL_law 1181 = .ok (.laload, 1) := by decide +kernel
theorem dL_law_1182 : decode cL_law 1182 = .ok (.iload 7, 2) := by decide +kernel
theorem dL_law_1184 : decode cL_law 1184 = .ok (.i2l, 1) := by decide +kernel
theorem dL_law_1185 : decode cL_law 1185 = .ok (.lcmp, 1) := by decide +kernel
theorem dL_law_1186 : decode cL_law 1186 = .ok (.ifCond .eq 5, 3) := by decide +kernel
theorem dL_law_1189 : decode cL_law 1189 = .ok (.iconst 0, 1) := by decide +kernel
theorem dL_law_1190 : decode cL_law 1190 = .ok (.ireturn, 1) := by decide +kernel
theorem dL_law_1191 : decode cL_law 1191 = .ok (.goto 2282, 3) := by decide +kernel
set_option maxRecDepth 100000 in
set_option maxHeartbeats 4000000 in
theorem lc14_ok {G : GT} {b L A B : Nat} {xs : Nat → Int32} {μ : Mem} {i : Int32} {N : Mem → Prop} (C : PCx G cL_law 9 RL) (hX : Scr G b L xs) (hHR : HR G 11) (hN : ∀ μ : Mem, N μ → PW G A B 3473 [some (pW (.ref b)), some (pR 40 0), some (pR 50 0), some (pR 80 0), some (pR 81 0), some (pI i), none, none, none] [] μ) (hk : lc14_wp xs L μ i N) : PW G (A + 1) (B + 6) 1138 [some (pW (.ref b)), some (pR 40 0), some (pR 50 0), some (pR 80 0), some (pR 81 0), some (pI i), none, none, none] [] μ := by
  unfold lc14_wp at hk
  refine px_aload_n (i := 1) C dL_law_1138 rfl rfl ?_
  refine px_aload_nw (i := 0) C dL_law_1139 rfl rfl ?_
  refine px_iload (i := 5) C dL_law_1140 rfl ?_
  refine px_iconst (v := (1 : Int32)) C dL_law_1142 rfl ?_
  refine px_iadd C dL_law_1143 ?_
  obtain ⟨o1, hk⟩ := hk
  refine px_sld C hX dL_law_1144 o1 ?_
  refine px_aload_n (i := 3) C dL_law_1145 rfl rfl ?_
  refine px_callSH (h := 10) (rc' := A + 0) (rs' := B + 0) C (HR_le hHR (Nat.le_of_ble_eq_true rfl)) dL_law_1146 (gw4 92 rfl rfl) ms_L_explain (L_explain_ok (PCx_l C) (PCx_I C) hk) rfl rfl (Nat.le_of_ble_eq_true rfl) (Nat.le_of_ble_eq_true rfl) (by omega) (by omega) ?_
  intro r3 μ2 hk
  refine px_istore (i := 6) C dL_law_1149 (by decide) rfl ?_
  refine px_aload_n (i := 2) C dL_law_1151 rfl rfl ?_
  refine px_aload_nw (i := 0) C dL_law_1152 rfl rfl ?_
  refine px_iload (i := 5) C dL_law_1153 rfl ?_
  refine px_iconst (v := (1 : Int32)) C dL_law_1155 rfl ?_
  refine px_iadd C dL_law_1156 ?_
  obtain ⟨o4, hk⟩ := hk
  refine px_sld C hX dL_law_1157 o4 ?_
  refine px_callVNi (h := 6) (rc' := A + 0) (rs' := B + 0) C (HR_le hHR (Nat.le_of_ble_eq_true rfl)) dL_law_1158 (gw9 34 rfl rfl) mv_X9_explain (w9_explain_ok (PCx_l C) (PCx_I C) hk) rfl rfl rfl rfl rfl (Nat.le_of_ble_eq_true rfl) (Nat.le_of_ble_eq_true rfl) (by omega) (by omega) ?_
  intro r6 μ5 hk
  refine px_istore (i := 7) C dL_law_1161 (by decide) rfl ?_
  refine px_aload_n (i := 2) C dL_law_1163 rfl rfl ?_
  refine px_callVNi (h := 0) (rc' := A + 0) (rs' := B + 0) C (HR_le hHR (Nat.le_of_ble_eq_true rfl)) dL_law_1164 (gw8 123 rfl rfl) mv_X9_thrown (w9_thrown_ok (PCx_l C) (PCx_I C) hk) rfl rfl rfl rfl rfl (Nat.le_of_ble_eq_true rfl) (Nat.le_of_ble_eq_true rfl) (by omega) (by omega) ?_
  intro r8 μ7 hk
  refine px_iload (i := 6) C dL_law_1167 rfl ?_
  refine px_icmp_eq (tgt := 1174) C dL_law_1169 (by decide) (fun c13 => ?_) (fun c13 => ?_)
  · replace hk := hk.1 c13
    refine px_iload (i := 6) C dL_law_1174 rfl ?_
    refine px_if_ne (tgt := 1191) C dL_law_1176 (by decide) (fun c12 => ?_) (fun c12 => ?_)
    · replace hk := hk.1 c12
      refine px_goto (tgt := 3473) C dL_law_1191 (by decide) ?_
      exact PW_at (hN _ hk) (And.intro rfl (And.intro rfl (And.intro rfl (And.intro rfl (And.intro rfl (And.intro rfl trivial)))))) (by omega) (by omega)
    · replace hk := hk.2 c12
      refine px_aload_n (i := 3) C dL_law_1179 rfl rfl ?_
      refine px_iconst (v := (0 : Int32)) C dL_law_1180 rfl ?_
      obtain ⟨o9, hk⟩ := hk
      refine px_lald 5120 C dL_law_1181 rfl rfl rfl rfl o9 ?_
      refine px_iload (i := 7) C dL_law_1182 rfl ?_
      refine px_i2l C dL_law_1184 ?_
      obtain ⟨o10, hk⟩ := hk
      refine px_lcmp C dL_law_1185 o10 ?_
      refine px_if_eq (tgt := 1191) C dL_law_1186 (by decide) (fun c11 => ?_) (fun c11 => ?_)
      · replace hk := hk.1 c11
        refine px_goto (tgt := 3473) C dL_law_1191 (by decide) ?_
        exact PW_at (hN _ hk) (And.intro rfl (And.intro rfl (And.intro rfl (And.intro rfl (And.intro rfl (And.intro rfl trivial)))))) (by omega) (by omega)
      · replace hk := hk.2 c11
        refine px_iconst (v := (0 : Int32)) C dL_law_1189 rfl ?_
        exact hk.elim
  · replace hk := hk.2 c13
    refine px_iconst (v := (0 : Int32)) C dL_law_1172 rfl ?_
    exact hk.elim
theorem dL_law_1194 : decode cL_law 1194 = .ok (.aload_n 1, 1) := by decide +kernel
theorem dL_law_1195 : decode cL_law 1195 = .ok (.aload_n 0, 1) := by decide +kernel
theorem dL_law_1196 : decode cL_law 1196 = .ok (.iload 5, 2) := by decide +kernel
theorem dL_law_1198 : decode cL_law 1198 = .ok (.iconst 1, 1) := by decide +kernel
theorem dL_law_1199 : decode cL_law 1199 = .ok (.iadd, 1) := by decide +kernel
theorem dL_law_1200 : decode cL_law 1200 = .ok (.iaload, 1) := by decide +kernel
theorem dL_law_1201 : decode cL_law 1201 = .ok (.aload_n 3, 1) := by decide +kernel
theorem dL_law_1202 : decode cL_law 1202 = .ok (.invokestatic 235, 3) := by decide +kernel
theorem dL_law_1205 : decode cL_law 1205 = .ok (.istore 6, 2) := by decide +kernel
theorem dL_law_1207 : decode cL_law 1207 = .ok (.aload_n 2, 1) := by decide +kernel
theorem dL_law_1208 : decode cL_law 1208 = .ok (.aload_n 0, 1) := by decide +kernel
theorem dL_law_1209 : decode cL_law 1209 = .ok (.iload 5, 2) := by decide +kernel
theorem dL_law_1211 : decode cL_law 1211 = .ok (.iconst 1, 1) := by decide +kernel
theorem dL_law_1212 : decode cL_law 1212 = .ok (.iadd, 1) := by decide +kernel
theorem dL_law_1213 : decode cL_law 1213 = .ok (.iaload, 1) := by decide +kernel
theorem dL_law_1214 : decode cL_law 1214 = .ok (.invokevirtual 237, 3) := by decide +kernel
theorem dL_law_1217 : decode cL_law 1217 = .ok (.istore 7, 2) := by decide +kernel
theorem dL_law_1219 : decode cL_law 1219 = .ok (.aload_n 2, 1) := by decide +kernel
theorem dL_law_1220 : decode cL_law 1220 = .ok (.invokevirtual 186, 3) := by decide +kernel
theorem dL_law_1223 : decode cL_law 1223 = .ok (.iload 6, 2) := by decide +kernel
theorem dL_law_1225 : decode cL_law 1225 = .ok (.if_icmp .eq 5, 3) := by decide +kernel
theorem dL_law_1228 : decode cL_law 1228 = .ok (.iconst 0, 1) := by decide +kernel
theorem dL_law_1229 : decode cL_law 1229 = .ok (.ireturn, 1) := by decide +kernel
theorem dL_law_1230 : decode cL_law 1230 = .ok (.iload 6, 2) := by decide +kernel
theorem dL_law_1232 : decode cL_law 1232 = .ok (.ifCond .ne 15, 3) := by decide +kernel
theorem dL_law_1235 : decode cL_law 1235 = .ok (.aload_n 3, 1) := by decide +kernel
theorem dL_law_1236 : decode cL_law 1236 = .ok (.iconst 0, 1) := by decide +kernel
theorem dL_law_1237 : decode cL_law 1237 = .ok (.laload, 1) := by decide +kernel
theorem dL_law_1238 : decode cL_law 1238 = .ok (.iload 7, 2) := by decide +kernel
theorem dL_law_1240 : decode cL_law 1240 = .ok (.i2l, 1) := by decide +kernel
theorem dL_law_1241 : decode cL_law 1241 = .ok (.lcmp, 1) := by decide +kernel
theorem dL_law_1242 : decode cL_law 1242 = .ok (.ifCond .eq 5, 3) := by decide +kernel
theorem dL_law_1245 : decode cL_law 1245 = .ok (.iconst 0, 1) := by decide +kernel
theorem dL_law_1246 : decode cL_law 1246 = .ok (.ireturn, 1) := by decide +kernel
theorem dL_law_1247 : decode cL_law 1247 = .ok (.goto 2226, 3) := by decide +kernel
set_option maxRecDepth 100000 in
set_option maxHeartbeats 4000000 in
theorem lc15_ok {G : GT} {b L A B : Nat} {xs : Nat → Int32} {μ : Mem} {i : Int32} {N : Mem → Prop} (C : PCx G cL_law 9 RL) (hX : Scr G b L xs) (hHR : HR G 11) (hN : ∀ μ : Mem, N μ → PW G A B 3473 [some (pW (.ref b)), some (pR 40 0), some (pR 50 0), some (pR 80 0), some (pR 81 0), some (pI i), none, none, none] [] μ) (hk : lc15_wp xs L μ i N) : PW G (A + 1) (B + 6) 1194 [some (pW (.ref b)), some (pR 40 0), some (pR 50 0), some (pR 80 0), some (pR 81 0), some (pI i), none, none, none] [] μ := by
  unfold lc15_wp at hk
  refine px_aload_n (i := 1) C dL_law_1194 rfl rfl ?_
  refine px_aload_nw (i := 0) C dL_law_1195 rfl rfl ?_
  refine px_iload (i := 5) C dL_law_1196 rfl ?_
  refine px_iconst (v := (1 : Int32)) C dL_law_1198 rfl ?_
  refine px_iadd C dL_law_1199 ?_
  obtain ⟨o1, hk⟩ := hk
  refine px_sld C hX dL_law_1200 o1 ?_
  refine px_aload_n (i := 3) C dL_law_1201 rfl rfl ?_
  refine px_callSH (h := 10) (rc' := A + 0) (rs' := B + 0) C (HR_le hHR (Nat.le_of_ble_eq_true rfl)) dL_law_1202 (gw4 99 rfl rfl) ms_L_root (L_root_ok (PCx_l C) (PCx_I C) hk) rfl rfl (Nat.le_of_ble_eq_true rfl) (Nat.le_of_ble_eq_true rfl) (by omega) (by omega) ?_
  intro r3 μ2 hk
  refine px_istore (i := 6) C dL_law_1205 (by decide) rfl ?_
  refine px_aload_n (i := 2) C dL_law_1207 rfl rfl ?_
  refine px_aload_nw (i := 0) C dL_law_1208 rfl rfl ?_
  refine px_iload (i := 5) C dL_law_1209 rfl ?_
  refine px_iconst (v := (1 : Int32)) C dL_law_1211 rfl ?_
  refine px_iadd C dL_law_1212 ?_
  obtain ⟨o4, hk⟩ := hk
  refine px_sld C hX dL_law_1213 o4 ?_
  refine px_callVNi (h := 6) (rc' := A + 0) (rs' := B + 0) C (HR_le hHR (Nat.le_of_ble_eq_true rfl)) dL_law_1214 (gw9 38 rfl rfl) mv_X9_root (w9_root_ok (PCx_l C) (PCx_I C) hk) rfl rfl rfl rfl rfl (Nat.le_of_ble_eq_true rfl) (Nat.le_of_ble_eq_true rfl) (by omega) (by omega) ?_
  intro r6 μ5 hk
  refine px_istore (i := 7) C dL_law_1217 (by decide) rfl ?_
  refine px_aload_n (i := 2) C dL_law_1219 rfl rfl ?_
  refine px_callVNi (h := 0) (rc' := A + 0) (rs' := B + 0) C (HR_le hHR (Nat.le_of_ble_eq_true rfl)) dL_law_1220 (gw8 123 rfl rfl) mv_X9_thrown (w9_thrown_ok (PCx_l C) (PCx_I C) hk) rfl rfl rfl rfl rfl (Nat.le_of_ble_eq_true rfl) (Nat.le_of_ble_eq_true rfl) (by omega) (by omega) ?_
  intro r8 μ7 hk
  refine px_iload (i := 6) C dL_law_1223 rfl ?_
  refine px_icmp_eq (tgt := 1230) C dL_law_1225 (by decide) (fun c13 => ?_) (fun c13 => ?_)
  · replace hk := hk.1 c13
    refine px_iload (i := 6) C dL_law_1230 rfl ?_
    refine px_if_ne (tgt := 1247) C dL_law_1232 (by decide) (fun c12 => ?_) (fun c12 => ?_)
    · replace hk := hk.1 c12
      refine px_goto (tgt := 3473) C dL_law_1247 (by decide) ?_
      exact PW_at (hN _ hk) (And.intro rfl (And.intro rfl (And.intro rfl (And.intro rfl (And.intro rfl (And.intro rfl trivial)))))) (by omega) (by omega)
    · replace hk := hk.2 c12
      refine px_aload_n (i := 3) C dL_law_1235 rfl rfl ?_
      refine px_iconst (v := (0 : Int32)) C dL_law_1236 rfl ?_
      obtain ⟨o9, hk⟩ := hk
      refine px_lald 5120 C dL_law_1237 rfl rfl rfl rfl o9 ?_
      refine px_iload (i := 7) C dL_law_1238 rfl ?_
      refine px_i2l C dL_law_1240 ?_
      obtain ⟨o10, hk⟩ := hk
      refine px_lcmp C dL_law_1241 o10 ?_
      refine px_if_eq (tgt := 1247) C dL_law_1242 (by decide) (fun c11 => ?_) (fun c11 => ?_)
      · replace hk := hk.1 c11
        refine px_goto (tgt := 3473) C dL_law_1247 (by decide) ?_
        exact PW_at (hN _ hk) (And.intro rfl (And.intro rfl (And.intro rfl (And.intro rfl (And.intro rfl (And.intro rfl trivial)))))) (by omega) (by omega)
      · replace hk := hk.2 c11
        refine px_iconst (v := (0 : Int32)) C dL_law_1245 rfl ?_
        exact hk.elim
  · replace hk := hk.2 c13
    refine px_iconst (v := (0 : Int32)) C dL_law_1228 rfl ?_
    exact hk.elim
theorem dL_law_1250 : decode cL_law 1250 = .ok (.aload_n 1, 1) := by decide +kernel
theorem dL_law_1251 : decode cL_law 1251 = .ok (.aload_n 0, 1) := by decide +kernel
theorem dL_law_1252 : decode cL_law 1252 = .ok (.iload 5, 2) := by decide +kernel
theorem dL_law_1254 : decode cL_law 1254 = .ok (.iconst 1, 1) := by decide +kernel
theorem dL_law_1255 : decode cL_law 1255 = .ok (.iadd, 1) := by decide +kernel
theorem dL_law_1256 : decode cL_law 1256 = .ok (.iaload, 1) := by decide +kernel
theorem dL_law_1257 : decode cL_law 1257 = .ok (.aload_n 3, 1) := by decide +kernel
theorem dL_law_1258 : decode cL_law 1258 = .ok (.invokestatic 238, 3) := by decide +kernel
theorem dL_law_1261 : decode cL_law 1261 = .ok (.istore 6, 2) := by decide +kernel
theorem dL_law_1263 : decode cL_law 1263 = .ok (.aload_n 2, 1) := by decide +kernel
theorem dL_law_1264 : decode cL_law 1264 = .ok (.aload_n 0, 1) := by decide +kernel
theorem dL_law_1265 : decode cL_law 1265 = .ok (.iload 5, 2) := by decide +kernel
theorem dL_law_1267 : decode cL_law 1267 = .ok (.iconst 1, 1) := by decide +kernel
theorem dL_law_1268 : decode cL_law 1268 = .ok (.iadd, 1) := by decide +kernel
theorem dL_law_1269 : decode cL_law 1269 = .ok (.iaload, 1) := by decide +kernel
theorem dL_law_1270 : decode cL_law 1270 = .ok (.invokevirtual 240, 3) := by decide +kernel
theorem dL_law_1273 : decode cL_law 1273 = .ok (.istore 7, 2) := by decide +kernel
theorem dL_law_1275 : decode cL_law 1275 = .ok (.aload_n 2, 1) := by decide +kernel
theorem dL_law_1276 : decode cL_law 1276 = .ok (.invokevirtual 186, 3) := by decide +kernel
theorem dL_law_1279 : decode cL_law 1279 = .ok (.iload 6, 2) := by decide +kernel
theorem dL_law_1281 : decode cL_law 1281 = .ok (.if_icmp .eq 5, 3) := by decide +kernel
theorem dL_law_1284 : decode cL_law 1284 = .ok (.iconst 0, 1) := by decide +kernel
theorem dL_law_1285 : decode cL_law 1285 = .ok (.ireturn, 1) := by decide +kernel
theorem dL_law_1286 : decode cL_law 1286 = .ok (.iload 6, 2) := by decide +kernel
theorem dL_law_1288 : decode cL_law 1288 = .ok (.ifCond .ne 15, 3) := by decide +kernel
theorem dL_law_1291 : decode cL_law 1291 = .ok (.aload_n 3, 1) := by decide +kernel
theorem dL_law_1292 : decode cL_law 1292 = .ok (.iconst 0, 1) := by decide +kernel
theorem dL_law_1293 : decode cL_law 1293 = .ok (.laload, 1) := by decide +kernel
theorem dL_law_1294 : decode cL_law 1294 = .ok (.iload 7, 2) := by decide +kernel
theorem dL_law_1296 : decode cL_law 1296 = .ok (.i2l, 1) := by decide +kernel
theorem dL_law_1297 : decode cL_law 1297 = .ok (.lcmp, 1) := by decide +kernel
theorem dL_law_1298 : decode cL_law 1298 = .ok (.ifCond .eq 5, 3) := by decide +kernel
theorem dL_law_1301 : decode cL_law 1301 = .ok (.iconst 0, 1) := by decide +kernel
theorem dL_law_1302 : decode cL_law 1302 = .ok (.ireturn, 1) := by decide +kernel
theorem dL_law_1303 : decode cL_law 1303 = .ok (.goto 2170, 3) := by decide +kernel
set_option maxRecDepth 100000 in
set_option maxHeartbeats 4000000 in
theorem lc16_ok {G : GT} {b L A B : Nat} {xs : Nat → Int32} {μ : Mem} {i : Int32} {N : Mem → Prop} (C : PCx G cL_law 9 RL) (hX : Scr G b L xs) (hHR : HR G 11) (hN : ∀ μ : Mem, N μ → PW G A B 3473 [some (pW (.ref b)), some (pR 40 0), some (pR 50 0), some (pR 80 0), some (pR 81 0), some (pI i), none, none, none] [] μ) (hk : lc16_wp xs L μ i N) : PW G (A + 1) (B + 6) 1250 [some (pW (.ref b)), some (pR 40 0), some (pR 50 0), some (pR 80 0), some (pR 81 0), some (pI i), none, none, none] [] μ := by
  unfold lc16_wp at hk
  refine px_aload_n (i := 1) C dL_law_1250 rfl rfl ?_
  refine px_aload_nw (i := 0) C dL_law_1251 rfl rfl ?_
  refine px_iload (i := 5) C dL_law_1252 rfl ?_
  refine px_iconst (v := (1 : Int32)) C dL_law_1254 rfl ?_
  refine px_iadd C dL_law_1255 ?_
  obtain ⟨o1, hk⟩ := hk
  refine px_sld C hX dL_law_1256 o1 ?_
  refine px_aload_n (i := 3) C dL_law_1257 rfl rfl ?_
  refine px_callSH (h := 10) (rc' := A + 0) (rs' := B + 0) C (HR_le hHR (Nat.le_of_ble_eq_true rfl)) dL_law_1258 (gw4 114 rfl rfl) ms_L_depth (L_depth_ok (PCx_l C) (PCx_I C) hk) rfl rfl (Nat.le_of_ble_eq_true rfl) (Nat.le_of_ble_eq_true rfl) (by omega) (by omega) ?_
  intro r3 μ2 hk
  refine px_istore (i := 6) C dL_law_1261 (by decide) rfl ?_
  refine px_aload_n (i := 2) C dL_law_1263 rfl rfl ?_
  refine px_aload_nw (i := 0) C dL_law_1264 rfl rfl ?_
  refine px_iload (i := 5) C dL_law_1265 rfl ?_
  refine px_iconst (v := (1 : Int32)) C dL_law_1267 rfl ?_
  refine px_iadd C dL_law_1268 ?_
  obtain ⟨o4, hk⟩ := hk
  refine px_sld C hX dL_law_1269 o4 ?_
  refine px_callVNi (h := 6) (rc' := A + 0) (rs' := B + 0) C (HR_le hHR (Nat.le_of_ble_eq_true rfl)) dL_law_1270 (gw9 50 rfl rfl) mv_X9_depth (w9_depth_ok (PCx_l C) (PCx_I C) hk) rfl rfl rfl rfl rfl (Nat.le_of_ble_eq_true rfl) (Nat.le_of_ble_eq_true rfl) (by omega) (by omega) ?_
  intro r6 μ5 hk
  refine px_istore (i := 7) C dL_law_1273 (by decide) rfl ?_
  refine px_aload_n (i := 2) C dL_law_1275 rfl rfl ?_
  refine px_callVNi (h := 0) (rc' := A + 0) (rs' := B + 0) C (HR_le hHR (Nat.le_of_ble_eq_true rfl)) dL_law_1276 (gw8 123 rfl rfl) mv_X9_thrown (w9_thrown_ok (PCx_l C) (PCx_I C) hk) rfl rfl rfl rfl rfl (Nat.le_of_ble_eq_true rfl) (Nat.le_of_ble_eq_true rfl) (by omega) (by omega) ?_
  intro r8 μ7 hk
  refine px_iload (i := 6) C dL_law_1279 rfl ?_
  refine px_icmp_eq (tgt := 1286) C dL_law_1281 (by decide) (fun c13 => ?_) (fun c13 => ?_)
  · replace hk := hk.1 c13
    refine px_iload (i := 6) C dL_law_1286 rfl ?_
    refine px_if_ne (tgt := 1303) C dL_law_1288 (by decide) (fun c12 => ?_) (fun c12 => ?_)
    · replace hk := hk.1 c12
      refine px_goto (tgt := 3473) C dL_law_1303 (by decide) ?_
      exact PW_at (hN _ hk) (And.intro rfl (And.intro rfl (And.intro rfl (And.intro rfl (And.intro rfl (And.intro rfl trivial)))))) (by omega) (by omega)
    · replace hk := hk.2 c12
      refine px_aload_n (i := 3) C dL_law_1291 rfl rfl ?_
      refine px_iconst (v := (0 : Int32)) C dL_law_1292 rfl ?_
      obtain ⟨o9, hk⟩ := hk
      refine px_lald 5120 C dL_law_1293 rfl rfl rfl rfl o9 ?_
      refine px_iload (i := 7) C dL_law_1294 rfl ?_
      refine px_i2l C dL_law_1296 ?_
      obtain ⟨o10, hk⟩ := hk
      refine px_lcmp C dL_law_1297 o10 ?_
      refine px_if_eq (tgt := 1303) C dL_law_1298 (by decide) (fun c11 => ?_) (fun c11 => ?_)
      · replace hk := hk.1 c11
        refine px_goto (tgt := 3473) C dL_law_1303 (by decide) ?_
        exact PW_at (hN _ hk) (And.intro rfl (And.intro rfl (And.intro rfl (And.intro rfl (And.intro rfl (And.intro rfl trivial)))))) (by omega) (by omega)
      · replace hk := hk.2 c11
        refine px_iconst (v := (0 : Int32)) C dL_law_1301 rfl ?_
        exact hk.elim
  · replace hk := hk.2 c13
    refine px_iconst (v := (0 : Int32)) C dL_law_1284 rfl ?_
    exact hk.elim
theorem dL_law_1306 : decode cL_law 1306 = .ok (.aload_n 1, 1) := by decide +kernel
theorem dL_law_1307 : decode cL_law 1307 = .ok (.aload_n 0, 1) := by decide +kernel
theorem dL_law_1308 : decode cL_law 1308 = .ok (.iload 5, 2) := by decide +kernel
theorem dL_law_1310 : decode cL_law 1310 = .ok (.iconst 1, 1) := by decide +kernel
theorem dL_law_1311 : decode cL_law 1311 = .ok (.iadd, 1) := by decide +kernel
theorem dL_law_1312 : decode cL_law 1312 = .ok (.iaload, 1) := by decide +kernel
theorem dL_law_1313 : decode cL_law 1313 = .ok (.aload_n 0, 1) := by decide +kernel
theorem dL_law_1314 : decode cL_law 1314 = .ok (.iload 5, 2) := by decide +kernel
theorem dL_law_1316 : decode cL_law 1316 = .ok (.iconst 2, 1) := by decide +kernel
theorem dL_law_1317 : decode cL_law 1317 = .ok (.iadd, 1) := by decide +kernel
theorem dL_law_1318 : decode cL_law 1318 = .ok (.iaload, 1) := by decide +kernel
theorem dL_law_1319 : decode cL_law 1319 = .ok (.aload_n 3, 1) := by decide +kernel
theorem dL_law_1320 : decode cL_law 1320 = .ok (.invokestatic 241, 3) := by decide +kernel
theorem dL_law_1323 : decode cL_law 1323 = .ok (.istore 6, 2) := by decide +kernel
theorem dL_law_1325 : decode cL_law 1325 = .ok (.aload_n 2, 1) := by decide +kernel
theorem dL_law_1326 : decode cL_law 1326 = .ok (.aload_n 0, 1) := by decide +kernel
theorem dL_law_1327 : decode cL_law 1327 = .ok (.iload 5, 2) := by decide +kernel
theorem dL_law_1329 : decode cL_law 1329 = .ok (.iconst 1, 1) := by decide +kernel
theorem dL_law_1330 : decode cL_law 1330 = .ok (.iadd, 1) := by decide +kernel
theorem dL_law_1331 : decode cL_law 1331 = .ok (.iaload, 1) := by decide +kernel
theorem dL_law_1332 : decode cL_law 1332 = .ok (.aload_n 0, 1) := by decide +kernel
theorem dL_law_1333 : decode cL_law 1333 = .ok (.iload 5, 2) := by decide +kernel
theorem dL_law_1335 : decode cL_law 1335 = .ok (.iconst 2, 1) := by decide +kernel
theorem dL_law_1336 : decode cL_law 1336 = .ok (.iadd, 1) := by decide +kernel
theorem dL_law_1337 : decode cL_law 1337 = .ok (.iaload, 1) := by decide +kernel
theorem dL_law_1338 : decode cL_law 1338 = .ok (.invokevirtual 243, 3) := by decide +kernel
theorem dL_law_1341 : decode cL_law 1341 = .ok (.istore 7, 2) := by decide +kernel
theorem dL_law_1343 : decode cL_law 1343 = .ok (.aload_n 2, 1) := by decide +kernel
theorem dL_law_1344 : decode cL_law 1344 = .ok (.invokevirtual 186, 3) := by decide +kernel
theorem dL_law_1347 : decode cL_law 1347 = .ok (.iload 6, 2) := by decide +kernel
theorem dL_law_1349 : decode cL_law 1349 = .ok (.if_icmp .eq 5, 3) := by decide +kernel
theorem dL_law_1352 : decode cL_law 1352 = .ok (.iconst 0, 1) := by decide +kernel
theorem dL_law_1353 : decode cL_law 1353 = .ok (.ireturn, 1) := by decide +kernel
theorem dL_law_1354 : decode cL_law 1354 = .ok (.iload 6, 2) := by decide +kernel
theorem dL_law_1356 : decode cL_law 1356 = .ok (.ifCond .ne 15, 3) := by decide +kernel
theorem dL_law_1359 : decode cL_law 1359 = .ok (.aload_n 3, 1) := by decide +kernel
theorem dL_law_1360 : decode cL_law 1360 = .ok (.iconst 0, 1) := by decide +kernel
theorem dL_law_1361 : decode cL_law 1361 = .ok (.laload, 1) := by decide +kernel
theorem dL_law_1362 : decode cL_law 1362 = .ok (.iload 7, 2) := by decide +kernel
theorem dL_law_1364 : decode cL_law 1364 = .ok (.i2l, 1) := by decide +kernel
theorem dL_law_1365 : decode cL_law 1365 = .ok (.lcmp, 1) := by decide +kernel
theorem dL_law_1366 : decode cL_law 1366 = .ok (.ifCond .eq 5, 3) := by decide +kernel
theorem dL_law_1369 : decode cL_law 1369 = .ok (.iconst 0, 1) := by decide +kernel
theorem dL_law_1370 : decode cL_law 1370 = .ok (.ireturn, 1) := by decide +kernel
theorem dL_law_1371 : decode cL_law 1371 = .ok (.goto 2102, 3) := by decide +kernel
set_option maxRecDepth 100000 in
set_option maxHeartbeats 4000000 in
theorem lc17_ok {G : GT} {b L A B : Nat} {xs : Nat → Int32} {μ : Mem} {i : Int32} {N : Mem → Prop} (C : PCx G cL_law 9 RL) (hX : Scr G b L xs) (hHR : HR G 12) (hN : ∀ μ : Mem, N μ → PW G A B 3473 [some (pW (.ref b)), some (pR 40 0), some (pR 50 0), some (pR 80 0), some (pR 81 0), some (pI i), none, none, none] [] μ) (hk : lc17_wp xs L μ i N) : PW G (A + 2) (B + 12) 1306 [some (pW (.ref b)), some (pR 40 0), some (pR 50 0), some (pR 80 0), some (pR 81 0), some (pI i), none, none, none] [] μ := by
  unfold lc17_wp at hk
  refine px_aload_n (i := 1) C dL_law_1306 rfl rfl ?_
  refine px_aload_nw (i := 0) C dL_law_1307 rfl rfl ?_
  refine px_iload (i := 5) C dL_law_1308 rfl ?_
  refine px_iconst (v := (1 : Int32)) C dL_law_1310 rfl ?_
  refine px_iadd C dL_law_1311 ?_
  obtain ⟨o1, hk⟩ := hk
  refine px_sld C hX dL_law_1312 o1 ?_
  refine px_aload_nw (i := 0) C dL_law_1313 rfl rfl ?_
  refine px_iload (i := 5) C dL_law_1314 rfl ?_
  refine px_iconst (v := (2 : Int32)) C dL_law_1316 rfl ?_
  refine px_iadd C dL_law_1317 ?_
  obtain ⟨o2, hk⟩ := hk
  refine px_sld C hX dL_law_1318 o2 ?_
  refine px_aload_n (i := 3) C dL_law_1319 rfl rfl ?_
  refine px_callSH (h := 11) (rc' := A + 0) (rs' := B + 0) C (HR_le hHR (Nat.le_of_ble_eq_true rfl)) dL_law_1320 (gw4 125 rfl rfl) ms_L_below (L_below_ok (PCx_l C) (PCx_I C) hk) rfl rfl (Nat.le_of_ble_eq_true rfl) (Nat.le_of_ble_eq_true rfl) (by omega) (by omega) ?_
  intro r4 μ3 hk
  refine px_istore (i := 6) C dL_law_1323 (by decide) rfl ?_
  refine px_aload_n (i := 2) C dL_law_1325 rfl rfl ?_
  refine px_aload_nw (i := 0) C dL_law_1326 rfl rfl ?_
  refine px_iload (i := 5) C dL_law_1327 rfl ?_
  refine px_iconst (v := (1 : Int32)) C dL_law_1329 rfl ?_
  refine px_iadd C dL_law_1330 ?_
  obtain ⟨o5, hk⟩ := hk
  refine px_sld C hX dL_law_1331 o5 ?_
  refine px_aload_nw (i := 0) C dL_law_1332 rfl rfl ?_
  refine px_iload (i := 5) C dL_law_1333 rfl ?_
  refine px_iconst (v := (2 : Int32)) C dL_law_1335 rfl ?_
  refine px_iadd C dL_law_1336 ?_
  obtain ⟨o6, hk⟩ := hk
  refine px_sld C hX dL_law_1337 o6 ?_
  refine px_callVNi (h := 8) (rc' := A + 0) (rs' := B + 0) C (HR_le hHR (Nat.le_of_ble_eq_true rfl)) dL_law_1338 (gw9 58 rfl rfl) mv_X9_below (w9_below_ok (PCx_l C) (PCx_I C) hk) rfl rfl rfl rfl rfl (Nat.le_of_ble_eq_true rfl) (Nat.le_of_ble_eq_true rfl) (by omega) (by omega) ?_
  intro r8 μ7 hk
  refine px_istore (i := 7) C dL_law_1341 (by decide) rfl ?_
  refine px_aload_n (i := 2) C dL_law_1343 rfl rfl ?_
  refine px_callVNi (h := 0) (rc' := A + 0) (rs' := B + 0) C (HR_le hHR (Nat.le_of_ble_eq_true rfl)) dL_law_1344 (gw8 123 rfl rfl) mv_X9_thrown (w9_thrown_ok (PCx_l C) (PCx_I C) hk) rfl rfl rfl rfl rfl (Nat.le_of_ble_eq_true rfl) (Nat.le_of_ble_eq_true rfl) (by omega) (by omega) ?_
  intro r10 μ9 hk
  refine px_iload (i := 6) C dL_law_1347 rfl ?_
  refine px_icmp_eq (tgt := 1354) C dL_law_1349 (by decide) (fun c15 => ?_) (fun c15 => ?_)
  · replace hk := hk.1 c15
    refine px_iload (i := 6) C dL_law_1354 rfl ?_
    refine px_if_ne (tgt := 1371) C dL_law_1356 (by decide) (fun c14 => ?_) (fun c14 => ?_)
    · replace hk := hk.1 c14
      refine px_goto (tgt := 3473) C dL_law_1371 (by decide) ?_
      exact PW_at (hN _ hk) (And.intro rfl (And.intro rfl (And.intro rfl (And.intro rfl (And.intro rfl (And.intro rfl trivial)))))) (by omega) (by omega)
    · replace hk := hk.2 c14
      refine px_aload_n (i := 3) C dL_law_1359 rfl rfl ?_
      refine px_iconst (v := (0 : Int32)) C dL_law_1360 rfl ?_
      obtain ⟨o11, hk⟩ := hk
      refine px_lald 5120 C dL_law_1361 rfl rfl rfl rfl o11 ?_
      refine px_iload (i := 7) C dL_law_1362 rfl ?_
      refine px_i2l C dL_law_1364 ?_
      obtain ⟨o12, hk⟩ := hk
      refine px_lcmp C dL_law_1365 o12 ?_
      refine px_if_eq (tgt := 1371) C dL_law_1366 (by decide) (fun c13 => ?_) (fun c13 => ?_)
      · replace hk := hk.1 c13
        refine px_goto (tgt := 3473) C dL_law_1371 (by decide) ?_
        exact PW_at (hN _ hk) (And.intro rfl (And.intro rfl (And.intro rfl (And.intro rfl (And.intro rfl (And.intro rfl trivial)))))) (by omega) (by omega)
      · replace hk := hk.2 c13
        refine px_iconst (v := (0 : Int32)) C dL_law_1369 rfl ?_
        exact hk.elim
  · replace hk := hk.2 c15
    refine px_iconst (v := (0 : Int32)) C dL_law_1352 rfl ?_
    exact hk.elim
