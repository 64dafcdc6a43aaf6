theorem dL_law_1999 : decode cL_law 1999 = .ok (.aload_n 1, 1) := by decide +kernel
theorem dL_law_2000 : decode cL_law 2000 = .ok (.aload_n 0, 1) := by decide +kernel
theorem dL_law_2001 : decode cL_law 2001 = .ok (.iload 5, 2) := by decide +kernel
theorem dL_law_2003 : decode cL_law 2003 = .ok (.iconst 1, 1) := by decide +kernel
theorem dL_law_2004 : decode cL_law 2004 = .ok (.iadd, 1) := by decide +kernel
theorem dL_law_2005 : decode cL_law 2005 = .ok (.iaload, 1) := by decide +kernel
theorem dL_law_2006 : decode cL_law 2006 = .ok (.aload_n 0, 1) := by decide +kernel
theorem dL_law_2007 : decode cL_law 2007 = .ok (.iload 5, 2) := by decide +kernel
theorem dL_law_2009 : decode cL_law 2009 = .ok (.iconst 2, 1) := by decide +kernel
theorem dL_law_2010 : decode cL_law 2010 = .ok (.iadd, 1) := by decide +kernel
theorem dL_law_2011 : decode cL_law 2011 = .ok (.iaload, 1) := by decide +kernel
theorem dL_law_2012 : decode cL_law 2012 = .ok (.aload_n 0, 1) := by decide +kernel
theorem dL_law_2013 : decode cL_law 2013 = .ok (.iload 5, 2) := by decide +kernel
theorem dL_law_2015 : decode cL_law 2015 = .ok (.iconst 3, 1) := by decide +kernel
theorem dL_law_2016 : decode cL_law 2016 = .ok (.iadd, 1) := by decide +kernel
theorem dL_law_2017 : decode cL_law 2017 = .ok (.iaload, 1) := by decide +kernel
theorem dL_law_2018 : decode cL_law 2018 = .ok (.aload_n 3, 1) := by decide +kernel
theorem dL_law_2019 : decode cL_law 2019 = .ok (.invokestatic 274, 3) := by decide +kernel
theorem dL_law_2022 : decode cL_law 2022 = .ok (.istore 6, 2) := by decide +kernel
theorem dL_law_2024 : decode cL_law 2024 = .ok (.aload_n 2, 1) := by decide +kernel
theorem dL_law_2025 : decode cL_law 2025 = .ok (.aload_n 0, 1) := by decide +kernel
theorem dL_law_2026 : decode cL_law 2026 = .ok (.iload 5, 2) := by decide +kernel
theorem dL_law_2028 : decode cL_law 2028 = .ok (.iconst 1, 1) := by decide +kernel
theorem dL_law_2029 : decode cL_law 2029 = .ok (.iadd, 1) := by decide +kernel
theorem dL_law_2030 : decode cL_law 2030 = .ok (.iaload, 1) := by decide +kernel
theorem dL_law_2031 : decode cL_law 2031 = .ok (.aload_n 0, 1) := by decide +kernel
theorem dL_law_2032 : decode cL_law 2032 = .ok (.iload 5, 2) := by decide +kernel
theorem dL_law_2034 : decode cL_law 2034 = .ok (.iconst 2, 1) := by decide +kernel
theorem dL_law_2035 : decode cL_law 2035 = .ok (.iadd, 1) := by decide +kernel
theorem dL_law_2036 : decode cL_law 2036 = .ok (.iaload, 1) := by decide +kernel
theorem dL_law_2037 : decode cL_law 2037 = .ok (.aload_n 0, 1) := by decide +kernel
theorem dL_law_2038 : decode cL_law 2038 = .ok (.iload 5, 2) := by decide +kernel
theorem dL_law_2040 : decode cL_law 2040 = .ok (.iconst 3, 1) := by decide +kernel
theorem dL_law_2041 : decode cL_law 2041 = .ok (.iadd, 1) := by decide +kernel
theorem dL_law_2042 : decode cL_law 2042 = .ok (.iaload, 1) := by decide +kernel
theorem dL_law_2043 : decode cL_law 2043 = .ok (.invokevirtual 276, 3) := by decide +kernel
theorem dL_law_2046 : decode cL_law 2046 = .ok (.istore 7, 2) := by decide +kernel
theorem dL_law_2048 : decode cL_law 2048 = .ok (.aload_n 2, 1) := by decide +kernel
theorem dL_law_2049 : decode cL_law 2049 = .ok (.invokevirtual 186, 3) := by decide +kernel
theorem dL_law_2052 : decode cL_law 2052 = .ok (.iload 6, 2) := by decide +kernel
theorem dL_law_2054 : decode cL_law 2054 = .ok (.if_icmp .eq 5, 3) := by decide +kernel
theorem dL_law_2057 : decode cL_law 2057 = .ok (.iconst 0, 1) := by decide +kernel
theorem dL_law_2058 : decode cL_law 2058 = .ok (.ireturn, 1) := by decide +kernel
theorem dL_law_2059 : decode cL_law 2059 = .ok (.iload 6, 2) := by decide +kernel
theorem dL_law_2061 : decode cL_law 2061 = .ok (.ifCond .ne 15, 3) := by decide +kernel
theorem dL_law_2064 : decode cL_law 2064 = .ok (.aload_n 3, 1) := by decide +kernel
theorem dL_law_2065 : decode cL_law 2065 = .ok (.iconst 0, 1) := by decide +kernel
theorem dL_law_2066 : decode cL_law 2066 = .ok (.laload, 1) := by decide +kernel
theorem dL_law_2067 : decode cL_law 2067 = .ok (.iload 7, 2) := by decide +kernel
theorem dL_law_2069 : decode cL_law 2069 = .ok (.i2l, 1) := by decide +kernel
theorem dL_law_2070 : decode cL_law 2070 = .ok (.lcmp, 1) := by decide +kernel
theorem dL_law_2071 : decode cL_law 2071 = .ok (.ifCond .eq 5, 3) := by decide +kernel
theorem dL_law_2074 : decode cL_law 2074 = .ok (.iconst 0, 1) := by decide +kernel
theorem dL_law_2075 : decode cL_law 2075 = .ok (.ireturn, 1) := by decide +kernel
theorem dL_law_2076 : decode cL_law 2076 = .ok (.goto 1397, 3) := by decide +kernel
set_option maxRecDepth 100000 in
set_option maxHeartbeats 4000000 in
theorem lc27_ok {G : GT} {b L A B : Nat} {xs : Nat → Int32} {μ : Mem} {i : Int32} {N : Mem → Prop} (C : PCx G cL_law 9 RL) (hX : Scr G b L xs) (hHR : HR G 66) (hN : ∀ μ : Mem, N μ → PW G A B 3473 [some (pW (.ref b)), some (pR 40 0), some (pR 50 0), some (pR 80 0), some (pR 81 0), some (pI i), none, none, none] [] μ) (hk : lc27_wp xs L μ i N) : PW G (A + 3) (B + 18) 1999 [some (pW (.ref b)), some (pR 40 0), some (pR 50 0), some (pR 80 0), some (pR 81 0), some (pI i), none, none, none] [] μ := by
  unfold lc27_wp at hk
  refine px_aload_n (i := 1) C dL_law_1999 rfl rfl ?_
  refine px_aload_nw (i := 0) C dL_law_2000 rfl rfl ?_
  refine px_iload (i := 5) C dL_law_2001 rfl ?_
  refine px_iconst (v := (1 : Int32)) C dL_law_2003 rfl ?_
  refine px_iadd C dL_law_2004 ?_
  obtain ⟨o1, hk⟩ := hk
  refine px_sld C hX dL_law_2005 o1 ?_
  refine px_aload_nw (i := 0) C dL_law_2006 rfl rfl ?_
  refine px_iload (i := 5) C dL_law_2007 rfl ?_
  refine px_iconst (v := (2 : Int32)) C dL_law_2009 rfl ?_
  refine px_iadd C dL_law_2010 ?_
  obtain ⟨o2, hk⟩ := hk
  refine px_sld C hX dL_law_2011 o2 ?_
  refine px_aload_nw (i := 0) C dL_law_2012 rfl rfl ?_
  refine px_iload (i := 5) C dL_law_2013 rfl ?_
  refine px_iconst (v := (3 : Int32)) C dL_law_2015 rfl ?_
  refine px_iadd C dL_law_2016 ?_
  obtain ⟨o3, hk⟩ := hk
  refine px_sld C hX dL_law_2017 o3 ?_
  refine px_aload_n (i := 3) C dL_law_2018 rfl rfl ?_
  refine px_callSH (h := 11) (rc' := A + 0) (rs' := B + 0) C (HR_le hHR (Nat.le_of_ble_eq_true rfl)) dL_law_2019 (gw5 55 rfl rfl) ms_L_criticalAt (L_criticalAt_ok (PCx_l C) (PCx_I C) hk) rfl rfl (Nat.le_of_ble_eq_true rfl) (Nat.le_of_ble_eq_true rfl) (by omega) (by omega) ?_
  intro r5 μ4 hk
  refine px_istore (i := 6) C dL_law_2022 (by decide) rfl ?_
  refine px_aload_n (i := 2) C dL_law_2024 rfl rfl ?_
  refine px_aload_nw (i := 0) C dL_law_2025 rfl rfl ?_
  refine px_iload (i := 5) C dL_law_2026 rfl ?_
  refine px_iconst (v := (1 : Int32)) C dL_law_2028 rfl ?_
  refine px_iadd C dL_law_2029 ?_
  obtain ⟨o6, hk⟩ := hk
  refine px_sld C hX dL_law_2030 o6 ?_
  refine px_aload_nw (i := 0) C dL_law_2031 rfl rfl ?_
  refine px_iload (i := 5) C dL_law_2032 rfl ?_
  refine px_iconst (v := (2 : Int32)) C dL_law_2034 rfl ?_
  refine px_iadd C dL_law_2035 ?_
  obtain ⟨o7, hk⟩ := hk
  refine px_sld C hX dL_law_2036 o7 ?_
  refine px_aload_nw (i := 0) C dL_law_2037 rfl rfl ?_
  refine px_iload (i := 5) C dL_law_2038 rfl ?_
  refine px_iconst (v := (3 : Int32)) C dL_law_2040 rfl ?_
  refine px_iadd C dL_law_2041 ?_
  obtain ⟨o8, hk⟩ := hk
  refine px_sld C hX dL_law_2042 o8 ?_
  refine px_callVNi (h := 65) (rc' := A + 0) (rs' := B + 0) C (HR_le hHR (Nat.le_of_ble_eq_true rfl)) dL_law_2043 (gw9 160 rfl rfl) mv_X9_criticalAt (w9_criticalAt_ok (PCx_l C) (PCx_I C) hk) rfl rfl rfl rfl rfl (Nat.le_of_ble_eq_true rfl) (Nat.le_of_ble_eq_true rfl) (by omega) (by omega) ?_
  intro r10 μ9 hk
  refine px_istore (i := 7) C dL_law_2046 (by decide) rfl ?_
  refine px_aload_n (i := 2) C dL_law_2048 rfl rfl ?_
  refine px_callVNi (h := 0) (rc' := A + 0) (rs' := B + 0) C (HR_le hHR (Nat.le_of_ble_eq_true rfl)) dL_law_2049 (gw8 123 rfl rfl) mv_X9_thrown (w9_thrown_ok (PCx_l C) (PCx_I C) hk) rfl rfl rfl rfl rfl (Nat.le_of_ble_eq_true rfl) (Nat.le_of_ble_eq_true rfl) (by omega) (by omega) ?_
  intro r12 μ11 hk
  refine px_iload (i := 6) C dL_law_2052 rfl ?_
  refine px_icmp_eq (tgt := 2059) C dL_law_2054 (by decide) (fun c17 => ?_) (fun c17 => ?_)
  · replace hk := hk.1 c17
    refine px_iload (i := 6) C dL_law_2059 rfl ?_
    refine px_if_ne (tgt := 2076) C dL_law_2061 (by decide) (fun c16 => ?_) (fun c16 => ?_)
    · replace hk := hk.1 c16
      refine px_goto (tgt := 3473) C dL_law_2076 (by decide) ?_
      exact PW_at (hN _ hk) (And.intro rfl (And.intro rfl (And.intro rfl (And.intro rfl (And.intro rfl (And.intro rfl trivial)))))) (by omega) (by omega)
    · replace hk := hk.2 c16
      refine px_aload_n (i := 3) C dL_law_2064 rfl rfl ?_
      refine px_iconst (v := (0 : Int32)) C dL_law_2065 rfl ?_
      obtain ⟨o13, hk⟩ := hk
      refine px_lald 5120 C dL_law_2066 rfl rfl rfl rfl o13 ?_
      refine px_iload (i := 7) C dL_law_2067 rfl ?_
      refine px_i2l C dL_law_2069 ?_
      obtain ⟨o14, hk⟩ := hk
      refine px_lcmp C dL_law_2070 o14 ?_
      refine px_if_eq (tgt := 2076) C dL_law_2071 (by decide) (fun c15 => ?_) (fun c15 => ?_)
      · replace hk := hk.1 c15
        refine px_goto (tgt := 3473) C dL_law_2076 (by decide) ?_
        exact PW_at (hN _ hk) (And.intro rfl (And.intro rfl (And.intro rfl (And.intro rfl (And.intro rfl (And.intro rfl trivial)))))) (by omega) (by omega)
      · replace hk := hk.2 c15
        refine px_iconst (v := (0 : Int32)) C dL_law_2074 rfl ?_
        exact hk.elim
  · replace hk := hk.2 c17
    refine px_iconst (v := (0 : Int32)) C dL_law_2057 rfl ?_
    exact hk.elim
theorem dL_law_2079 : decode cL_law 2079 = .ok (.aload_n 1, 1) := by decide +kernel
theorem dL_law_2080 : decode cL_law 2080 = .ok (.aload_n 0, 1) := by decide +kernel
theorem dL_law_2081 : decode cL_law 2081 = .ok (.iload 5, 2) := by decide +kernel
theorem dL_law_2083 : decode cL_law 2083 = .ok (.iconst 1, 1) := by decide +kernel
theorem dL_law_2084 : decode cL_law 2084 = .ok (.iadd, 1) := by decide +kernel
theorem dL_law_2085 : decode cL_law 2085 = .ok (.iaload, 1) := by decide +kernel
theorem dL_law_2086 : decode cL_law 2086 = .ok (.aload_n 3, 1) := by decide +kernel
theorem dL_law_2087 : decode cL_law 2087 = .ok (.invokestatic 277, 3) := by decide +kernel
theorem dL_law_2090 : decode cL_law 2090 = .ok (.istore 6, 2) := by decide +kernel
theorem dL_law_2092 : decode cL_law 2092 = .ok (.aload_n 2, 1) := by decide +kernel
theorem dL_law_2093 : decode cL_law 2093 = .ok (.aload_n 0, 1) := by decide +kernel
theorem dL_law_2094 : decode cL_law 2094 = .ok (.iload 5, 2) := by decide +kernel
theorem dL_law_2096 : decode cL_law 2096 = .ok (.iconst 1, 1) := by decide +kernel
theorem dL_law_2097 : decode cL_law 2097 = .ok (.iadd, 1) := by decide +kernel
theorem dL_law_2098 : decode cL_law 2098 = .ok (.iaload, 1) := by decide +kernel
theorem dL_law_2099 : decode cL_law 2099 = .ok (.invokevirtual 279, 3) := by decide +kernel
theorem dL_law_2102 : decode cL_law 2102 = .ok (.istore 7, 2) := by decide +kernel
theorem dL_law_2104 : decode cL_law 2104 = .ok (.aload_n 2, 1) := by decide +kernel
theorem dL_law_2105 : decode cL_law 2105 = .ok (.invokevirtual 186, 3) := by decide +kernel
theorem dL_law_2108 : decode cL_law 2108 = .ok (.iload 6, 2) := by decide +kernel
theorem dL_law_2110 : decode cL_law 2110 = .ok (.if_icmp .eq 5, 3) := by decide +kernel
theorem dL_law_2113 : decode cL_law 2113 = .ok (.iconst 0, 1) := by decide +kernel
theorem dL_law_2114 : decode cL_law 2114 = .ok (.ireturn, 1) := by decide +kernel
theorem dL_law_2115 : decode cL_law 2115 = .ok (.iload 6, 2) := by decide +kernel
theorem dL_law_2117 : decode cL_law 2117 = .ok (.ifCond .ne 15, 3) := by decide +kernel
theorem dL_law_2120 : decode cL_law 2120 = .ok (.aload_n 3, 1) := by decide +kernel
theorem dL_law_2121 : decode cL_law 2121 = .ok (.iconst 0, 1) := by decide +kernel
theorem dL_law_2122 : decode cL_law 2122 = .ok (.laload, 1) := by decide +kernel
theorem dL_law_2123 : decode cL_law 2123 = .ok (.iload 7, 2) := by decide +kernel
theorem dL_law_2125 : decode cL_law 2125 = .ok (.i2l, 1) := by decide +kernel
theorem dL_law_2126 : decode cL_law 2126 = .ok (.lcmp, 1) := by decide +kernel
theorem dL_law_2127 : decode cL_law 2127 = .ok (.ifCond .eq 5, 3) := by decide +kernel
theorem dL_law_2130 : decode cL_law 2130 = .ok (.iconst 0, 1) := by decide +kernel
theorem dL_law_2131 : decode cL_law 2131 = .ok (.ireturn, 1) := by decide +kernel
theorem dL_law_2132 : decode cL_law 2132 = .ok (.goto 1341, 3) := by decide +kernel
set_option maxRecDepth 100000 in
set_option maxHeartbeats 4000000 in
theorem lc28_ok {G : GT} {b L A B : Nat} {xs : Nat → Int32} {μ : Mem} {i : Int32} {N : Mem → Prop} (C : PCx G cL_law 9 RL) (hX : Scr G b L xs) (hHR : HR G 11) (hN : ∀ μ : Mem, N μ → PW G A B 3473 [some (pW (.ref b)), some (pR 40 0), some (pR 50 0), some (pR 80 0), some (pR 81 0), some (pI i), none, none, none] [] μ) (hk : lc28_wp xs L μ i N) : PW G (A + 1) (B + 6) 2079 [some (pW (.ref b)), some (pR 40 0), some (pR 50 0), some (pR 80 0), some (pR 81 0), some (pI i), none, none, none] [] μ := by
  unfold lc28_wp at hk
  refine px_aload_n (i := 1) C dL_law_2079 rfl rfl ?_
  refine px_aload_nw (i := 0) C dL_law_2080 rfl rfl ?_
  refine px_iload (i := 5) C dL_law_2081 rfl ?_
  refine px_iconst (v := (1 : Int32)) C dL_law_2083 rfl ?_
  refine px_iadd C dL_law_2084 ?_
  obtain ⟨o1, hk⟩ := hk
  refine px_sld C hX dL_law_2085 o1 ?_
  refine px_aload_n (i := 3) C dL_law_2086 rfl rfl ?_
  refine px_callSH (h := 10) (rc' := A + 0) (rs' := B + 0) C (HR_le hHR (Nat.le_of_ble_eq_true rfl)) dL_law_2087 (gw5 67 rfl rfl) ms_L_selfTime (L_selfTime_ok (PCx_l C) (PCx_I C) hk) rfl rfl (Nat.le_of_ble_eq_true rfl) (Nat.le_of_ble_eq_true rfl) (by omega) (by omega) ?_
  intro r3 μ2 hk
  refine px_istore (i := 6) C dL_law_2090 (by decide) rfl ?_
  refine px_aload_n (i := 2) C dL_law_2092 rfl rfl ?_
  refine px_aload_nw (i := 0) C dL_law_2093 rfl rfl ?_
  refine px_iload (i := 5) C dL_law_2094 rfl ?_
  refine px_iconst (v := (1 : Int32)) C dL_law_2096 rfl ?_
  refine px_iadd C dL_law_2097 ?_
  obtain ⟨o4, hk⟩ := hk
  refine px_sld C hX dL_law_2098 o4 ?_
  refine px_callVNi (h := 6) (rc' := A + 0) (rs' := B + 0) C (HR_le hHR (Nat.le_of_ble_eq_true rfl)) dL_law_2099 (gw9 164 rfl rfl) mv_X9_selfTime (w9_selfTime_ok (PCx_l C) (PCx_I C) hk) rfl rfl rfl rfl rfl (Nat.le_of_ble_eq_true rfl) (Nat.le_of_ble_eq_true rfl) (by omega) (by omega) ?_
  intro r6 μ5 hk
  refine px_istore (i := 7) C dL_law_2102 (by decide) rfl ?_
  refine px_aload_n (i := 2) C dL_law_2104 rfl rfl ?_
  refine px_callVNi (h := 0) (rc' := A + 0) (rs' := B + 0) C (HR_le hHR (Nat.le_of_ble_eq_true rfl)) dL_law_2105 (gw8 123 rfl rfl) mv_X9_thrown (w9_thrown_ok (PCx_l C) (PCx_I C) hk) rfl rfl rfl rfl rfl (Nat.le_of_ble_eq_true rfl) (Nat.le_of_ble_eq_true rfl) (by omega) (by omega) ?_
  intro r8 μ7 hk
  refine px_iload (i := 6) C dL_law_2108 rfl ?_
  refine px_icmp_eq (tgt := 2115) C dL_law_2110 (by decide) (fun c13 => ?_) (fun c13 => ?_)
  · replace hk := hk.1 c13
    refine px_iload (i := 6) C dL_law_2115 rfl ?_
    refine px_if_ne (tgt := 2132) C dL_law_2117 (by decide) (fun c12 => ?_) (fun c12 => ?_)
    · replace hk := hk.1 c12
      refine px_goto (tgt := 3473) C dL_law_2132 (by decide) ?_
      exact PW_at (hN _ hk) (And.intro rfl (And.intro rfl (And.intro rfl (And.intro rfl (And.intro rfl (And.intro rfl trivial)))))) (by omega) (by omega)
    · replace hk := hk.2 c12
      refine px_aload_n (i := 3) C dL_law_2120 rfl rfl ?_
      refine px_iconst (v := (0 : Int32)) C dL_law_2121 rfl ?_
      obtain ⟨o9, hk⟩ := hk
      refine px_lald 5120 C dL_law_2122 rfl rfl rfl rfl o9 ?_
      refine px_iload (i := 7) C dL_law_2123 rfl ?_
      refine px_i2l C dL_law_2125 ?_
      obtain ⟨o10, hk⟩ := hk
      refine px_lcmp C dL_law_2126 o10 ?_
      refine px_if_eq (tgt := 2132) C dL_law_2127 (by decide) (fun c11 => ?_) (fun c11 => ?_)
      · replace hk := hk.1 c11
        refine px_goto (tgt := 3473) C dL_law_2132 (by decide) ?_
        exact PW_at (hN _ hk) (And.intro rfl (And.intro rfl (And.intro rfl (And.intro rfl (And.intro rfl (And.intro rfl trivial)))))) (by omega) (by omega)
      · replace hk := hk.2 c11
        refine px_iconst (v := (0 : Int32)) C dL_law_2130 rfl ?_
        exact hk.elim
  · replace hk := hk.2 c13
    refine px_iconst (v := (0 : Int32)) C dL_law_2113 rfl ?_
    exact hk.elim
theorem dL_law_2135 : decode cL_law 2135 = .ok (.aload_n 1, 1) := by decide +kernel
theorem dL_law_2136 : decode cL_law 2136 = .ok (.aload_n 0, 1) := by decide +kernel
theorem dL_law_2137 : decode cL_law 2137 = .ok (.iload 5, 2) := by decide +kernel
theorem dL_law_2139 : decode cL_law 2139 = .ok (.iconst 1, 1) := by decide +kernel
theorem dL_law_2140 : decode cL_law 2140 = .ok (.iadd, 1) := by decide +kernel
theorem dL_law_2141 : decode cL_law 2141 = .ok (.iaload, 1) := by decide +kernel
theorem dL_law_2142 : decode cL_law 2142 = .ok (.aload_n 0, 1) := by decide +kernel
theorem dL_law_2143 : decode cL_law 2143 = .ok (.iload 5, 2) := by decide +kernel
theorem dL_law_2145 : decode cL_law 2145 = .ok (.iconst 2, 1) := by decide +kernel
theorem dL_law_2146 : decode cL_law 2146 = .ok (.iadd, 1) := by decide +kernel
theorem dL_law_2147 : decode cL_law 2147 = .ok (.iaload, 1) := by decide +kernel
theorem dL_law_2148 : decode cL_law 2148 = .ok (.aload_n 3, 1) := by decide +kernel
theorem dL_law_2149 : decode cL_law 2149 = .ok (.invokestatic 280, 3) := by decide +kernel
theorem dL_law_2152 : decode cL_law 2152 = .ok (.istore 6, 2) := by decide +kernel
theorem dL_law_2154 : decode cL_law 2154 = .ok (.aload_n 2, 1) := by decide +kernel
theorem dL_law_2155 : decode cL_law 2155 = .ok (.aload_n 0, 1) := by decide +kernel
theorem dL_law_2156 : decode cL_law 2156 = .ok (.iload 5, 2) := by decide +kernel
theorem dL_law_2158 : decode cL_law 2158 = .ok (.iconst 1, 1) := by decide +kernel
theorem dL_law_2159 : decode cL_law 2159 = .ok (.iadd, 1) := by decide +kernel
theorem dL_law_2160 : decode cL_law 2160 = .ok (.iaload, 1) := by decide +kernel
theorem dL_law_2161 : decode cL_law 2161 = .ok (.aload_n 0, 1) := by decide +kernel
theorem dL_law_2162 : decode cL_law 2162 = .ok (.iload 5, 2) := by decide +kernel
theorem dL_law_2164 : decode cL_law 2164 = .ok (.iconst 2, 1) := by decide +kernel
theorem dL_law_2165 : decode cL_law 2165 = .ok (.iadd, 1) := by decide +kernel
theorem dL_law_2166 : decode cL_law 2166 = .ok (.iaload, 1) := by decide +kernel
theorem dL_law_2167 : decode cL_law 2167 = .ok (.invokevirtual 282, 3) := by decide +kernel
theorem dL_law_2170 : decode cL_law 2170 = .ok (.istore 7, 2) := by decide +kernel
theorem dL_law_2172 : decode cL_law 2172 = .ok (.aload_n 2, 1) := by decide +kernel
theorem dL_law_2173 : decode cL_law 2173 = .ok (.invokevirtual 186, 3) := by decide +kernel
theorem dL_law_2176 : decode cL_law 2176 = .ok (.iload 6, 2) := by decide +kernel
theorem dL_law_2178 : decode cL_law 2178 = .ok (.if_icmp .eq 5, 3) := by decide +kernel
theorem dL_law_2181 : decode cL_law 2181 = .ok (.iconst 0, 1) := by decide +kernel
theorem dL_law_2182 : decode cL_law 2182 = .ok (.ireturn, 1) := by decide +kernel
theorem dL_law_2183 : decode cL_law 2183 = .ok (.iload 6, 2) := by decide +kernel
theorem dL_law_2185 : decode cL_law 2185 = .ok (.ifCond .ne 15, 3) := by decide +kernel
theorem dL_law_2188 : decode cL_law 2188 = .ok (.aload_n 3, 1) := by decide +kernel
theorem dL_law_2189 : decode cL_law 2189 = .ok (.iconst 0, 1) := by decide +kernel
theorem dL_law_2190 : decode cL_law 2190 = .ok (.laload, 1) := by decide +kernel
theorem dL_law_2191 : decode cL_law 2191 = .ok (.iload 7, 2) := by decide +kernel
theorem dL_law_2193 : decode cL_law 2193 = .ok (.i2l, 1) := by decide +kernel
theorem dL_law_2194 : decode cL_law 2194 = .ok (.lcmp, 1) := by decide +kernel
theorem dL_law_2195 : decode cL_law 2195 = .ok (.ifCond .eq 5, 3) := by decide +kernel
theorem dL_law_2198 : decode cL_law 2198 = .ok (.iconst 0, 1) := by decide +kernel
theorem dL_law_2199 : decode cL_law 2199 = .ok (.ireturn, 1) := by decide +kernel
theorem dL_law_2200 : decode cL_law 2200 = .ok (.goto 1273, 3) := by decide +kernel
set_option maxRecDepth 100000 in
set_option maxHeartbeats 4000000 in
theorem lc29_ok {G : GT} {b L A B : Nat} {xs : Nat → Int32} {μ : Mem} {i : Int32} {N : Mem → Prop} (C : PCx G cL_law 9 RL) (hX : Scr G b L xs) (hHR : HR G 11) (hN : ∀ μ : Mem, N μ → PW G A B 3473 [some (pW (.ref b)), some (pR 40 0), some (pR 50 0), some (pR 80 0), some (pR 81 0), some (pI i), none, none, none] [] μ) (hk : lc29_wp xs L μ i N) : PW G (A + 1) (B + 6) 2135 [some (pW (.ref b)), some (pR 40 0), some (pR 50 0), some (pR 80 0), some (pR 81 0), some (pI i), none, none, none] [] μ := by
  unfold lc29_wp at hk
  refine px_aload_n (i := 1) C dL_law_2135 rfl rfl ?_
  refine px_aload_nw (i := 0) C dL_law_2136 rfl rfl ?_
  refine px_iload (i := 5) C dL_law_2137 rfl ?_
  refine px_iconst (v := (1 : Int32)) C dL_law_2139 rfl ?_
  refine px_iadd C dL_law_2140 ?_
  obtain ⟨o1, hk⟩ := hk
  refine px_sld C hX dL_law_2141 o1 ?_
  refine px_aload_nw (i := 0) C dL_law_2142 rfl rfl ?_
  refine px_iload (i := 5) C dL_law_2143 rfl ?_
  refine px_iconst (v := (2 : Int32)) C dL_law_2145 rfl ?_
  refine px_iadd C dL_law_2146 ?_
  obtain ⟨o2, hk⟩ := hk
  refine px_sld C hX dL_law_2147 o2 ?_
  refine px_aload_n (i := 3) C dL_law_2148 rfl rfl ?_
  refine px_callSH (h := 10) (rc' := A + 0) (rs' := B + 0) C (HR_le hHR (Nat.le_of_ble_eq_true rfl)) dL_law_2149 (gw5 83 rfl rfl) ms_L_parallel (L_parallel_ok (PCx_l C) (PCx_I C) hk) rfl rfl (Nat.le_of_ble_eq_true rfl) (Nat.le_of_ble_eq_true rfl) (by omega) (by omega) ?_
  intro r4 μ3 hk
  refine px_istore (i := 6) C dL_law_2152 (by decide) rfl ?_
  refine px_aload_n (i := 2) C dL_law_2154 rfl rfl ?_
  refine px_aload_nw (i := 0) C dL_law_2155 rfl rfl ?_
  refine px_iload (i := 5) C dL_law_2156 rfl ?_
  refine px_iconst (v := (1 : Int32)) C dL_law_2158 rfl ?_
  refine px_iadd C dL_law_2159 ?_
  obtain ⟨o5, hk⟩ := hk
  refine px_sld C hX dL_law_2160 o5 ?_
  refine px_aload_nw (i := 0) C dL_law_2161 rfl rfl ?_
  refine px_iload (i := 5) C dL_law_2162 rfl ?_
  refine px_iconst (v := (2 : Int32)) C dL_law_2164 rfl ?_
  refine px_iadd C dL_law_2165 ?_
  obtain ⟨o6, hk⟩ := hk
  refine px_sld C hX dL_law_2166 o6 ?_
  refine px_callVNi (h := 6) (rc' := A + 0) (rs' := B + 0) C (HR_le hHR (Nat.le_of_ble_eq_true rfl)) dL_law_2167 (gw9 180 rfl rfl) mv_X9_parallel (w9_parallel_ok (PCx_l C) (PCx_I C) hk) rfl rfl rfl rfl rfl (Nat.le_of_ble_eq_true rfl) (Nat.le_of_ble_eq_true rfl) (by omega) (by omega) ?_
  intro r8 μ7 hk
  refine px_istore (i := 7) C dL_law_2170 (by decide) rfl ?_
  refine px_aload_n (i := 2) C dL_law_2172 rfl rfl ?_
  refine px_callVNi (h := 0) (rc' := A + 0) (rs' := B + 0) C (HR_le hHR (Nat.le_of_ble_eq_true rfl)) dL_law_2173 (gw8 123 rfl rfl) mv_X9_thrown (w9_thrown_ok (PCx_l C) (PCx_I C) hk) rfl rfl rfl rfl rfl (Nat.le_of_ble_eq_true rfl) (Nat.le_of_ble_eq_true rfl) (by omega) (by omega) ?_
  intro r10 μ9 hk
  refine px_iload (i := 6) C dL_law_2176 rfl ?_
  refine px_icmp_eq (tgt := 2183) C dL_law_2178 (by decide) (fun c15 => ?_) (fun c15 => ?_)
  · replace hk := hk.1 c15
    refine px_iload (i := 6) C dL_law_2183 rfl ?_
    refine px_if_ne (tgt := 2200) C dL_law_2185 (by decide) (fun c14 => ?_) (fun c14 => ?_)
    · replace hk := hk.1 c14
      refine px_goto (tgt := 3473) C dL_law_2200 (by decide) ?_
      exact PW_at (hN _ hk) (And.intro rfl (And.intro rfl (And.intro rfl (And.intro rfl (And.intro rfl (And.intro rfl trivial)))))) (by omega) (by omega)
    · replace hk := hk.2 c14
      refine px_aload_n (i := 3) C dL_law_2188 rfl rfl ?_
      refine px_iconst (v := (0 : Int32)) C dL_law_2189 rfl ?_
      obtain ⟨o11, hk⟩ := hk
      refine px_lald 5120 C dL_law_2190 rfl rfl rfl rfl o11 ?_
      refine px_iload (i := 7) C dL_law_2191 rfl ?_
      refine px_i2l C dL_law_2193 ?_
      obtain ⟨o12, hk⟩ := hk
      refine px_lcmp C dL_law_2194 o12 ?_
      refine px_if_eq (tgt := 2200) C dL_law_2195 (by decide) (fun c13 => ?_) (fun c13 => ?_)
      · replace hk := hk.1 c13
        refine px_goto (tgt := 3473) C dL_law_2200 (by decide) ?_
        exact PW_at (hN _ hk) (And.intro rfl (And.intro rfl (And.intro rfl (And.intro rfl (And.intro rfl (And.intro rfl trivial)))))) (by omega) (by omega)
      · replace hk := hk.2 c13
        refine px_iconst (v := (0 : Int32)) C dL_law_2198 rfl ?_
        exact hk.elim
  · replace hk := hk.2 c15
    refine px_iconst (v := (0 : Int32)) C dL_law_2181 rfl ?_
    exact hk.elim
theorem dL_law_2203 : decode cL_law 2203 = .ok (.aload_n 1, 1) := by decide +kernel
theorem dL_law_2204 : decode cL_law 2204 = .ok (.aload_n 0, 1) := by decide +kernel
theorem dL_law_2205 : decode cL_law 2205 = .ok (.iload 5, 2) := by decide +kernel
theorem dL_law_2207 : decode cL_law 2207 = .ok (.iconst 1, 1) := by decide +kernel
theorem dL_law_2208 : decode cL_law 2208 = .ok (.iadd, 1) := by decide +kernel
theorem dL_law_2209 : decode cL_law 2209 = .ok (.iaload, 1) := by decide +kernel
theorem dL_law_2210 : decode cL_law 2210 = .ok (.aload_n 3, 1) := by decide +kernel
theorem dL_law_2211 : decode cL_law 2211 = .ok (.invokestatic 283, 3) := by decide +kernel
theorem dL_law_2214 : decode cL_law 2214 = .ok (.istore 6, 2) := by decide +kernel
theorem dL_law_2216 : decode cL_law 2216 = .ok (.aload_n 2, 1) := by decide +kernel
theorem dL_law_2217 : decode cL_law 2217 = .ok (.aload_n 0, 1) := by decide +kernel
theorem dL_law_2218 : decode cL_law 2218 = .ok (.iload 5, 2) := by decide +kernel
theorem dL_law_2220 : decode cL_law 2220 = .ok (.iconst 1, 1) := by decide +kernel
theorem dL_law_2221 : decode cL_law 2221 = .ok (.iadd, 1) := by decide +kernel
theorem dL_law_2222 : decode cL_law 2222 = .ok (.iaload, 1) := by decide +kernel
theorem dL_law_2223 : decode cL_law 2223 = .ok (.invokevirtual 285, 3) := by decide +kernel
theorem dL_law_2226 : decode cL_law 2226 = .ok (.istore 7, 2) := by decide +kernel
theorem dL_law_2228 : decode cL_law 2228 = .ok (.aload_n 2, 1) := by decide +kernel
theorem dL_law_2229 : decode cL_law 2229 = .ok (.invokevirtual 186, 3) := by decide +kernel
theorem dL_law_2232 : decode cL_law 2232 = .ok (.iload 6, 2) := by decide +kernel
theorem dL_law_2234 : decode cL_law 2234 = .ok (.if_icmp .eq 5, 3) := by decide +kernel
theorem dL_law_2237 : decode cL_law 2237 = .ok (.iconst 0, 1) := by decide +kernel
theorem dL_law_2238 : decode cL_law 2238 = .ok (.ireturn, 1) := by decide +kernel
theorem dL_law_2239 : decode cL_law 2239 = .ok (.iload 6, 2) := by decide +kernel
theorem dL_law_2241 : decode cL_law 2241 = .ok (.ifCond .ne 22, 3) := by decide +kernel
theorem dL_law_2244 : decode cL_law 2244 = .ok (.aload_n 3, 1) := by decide +kernel
theorem dL_law_2245 : decode cL_law 2245 = .ok (.iconst 0, 1) := by decide +kernel
theorem dL_law_2246 : decode cL_law 2246 = .ok (.laload, 1) := by decide +kernel
theorem dL_law_2247 : decode cL_law 2247 = .ok (.iload 7, 2) := by decide +kernel
theorem dL_law_2249 : decode cL_law 2249 = .ok (.ifCond .eq 7, 3) := by decide +kernel
theorem dL_law_2252 : decode cL_law 2252 = .ok (.lconst 1, 1) := by decide +kernel
theorem dL_law_2253 : decode cL_law 2253 = .ok (.goto 4, 3) := by decide +kernel
theorem dL_law_2256 : decode cL_law 2256 = .ok (.lconst 0, 1) := by decide +kernel
theorem dL_law_2257 : decode cL_law 2257 = .ok (.lcmp, 1) := by decide +kernel
theorem dL_law_2258 : decode cL_law 2258 = .ok (.ifCond .eq 5, 3) := by decide +kernel
theorem dL_law_2261 : decode cL_law 2261 = .ok (.iconst 0, 1) := by decide +kernel
theorem dL_law_2262 : decode cL_law 2262 = .ok (.ireturn, 1) := by decide +kernel
theorem dL_law_2263 : decode cL_law 2263 = .ok (.goto 1210, 3) := by decide +kernel
set_option maxRecDepth 100000 in
set_option maxHeartbeats 4000000 in
theorem lc30_ok {G : GT} {b L A B : Nat} {xs : Nat → Int32} {μ : Mem} {i : Int32} {N : Mem → Prop} (C : PCx G cL_law 9 RL) (hX : Scr G b L xs) (hHR : HR G 11) (hN : ∀ μ : Mem, N μ → PW G A B 3473 [some (pW (.ref b)), some (pR 40 0), some (pR 50 0), some (pR 80 0), some (pR 81 0), some (pI i), none, none, none] [] μ) (hk : lc30_wp xs L μ i N) : PW G (A + 1) (B + 6) 2203 [some (pW (.ref b)), some (pR 40 0), some (pR 50 0), some (pR 80 0), some (pR 81 0), some (pI i), none, none, none] [] μ := by
  unfold lc30_wp at hk
  refine px_aload_n (i := 1) C dL_law_2203 rfl rfl ?_
  refine px_aload_nw (i := 0) C dL_law_2204 rfl rfl ?_
  refine px_iload (i := 5) C dL_law_2205 rfl ?_
  refine px_iconst (v := (1 : Int32)) C dL_law_2207 rfl ?_
  refine px_iadd C dL_law_2208 ?_
  obtain ⟨o1, hk⟩ := hk
  refine px_sld C hX dL_law_2209 o1 ?_
  refine px_aload_n (i := 3) C dL_law_2210 rfl rfl ?_
  refine px_callSH (h := 10) (rc' := A + 0) (rs' := B + 0) C (HR_le hHR (Nat.le_of_ble_eq_true rfl)) dL_law_2211 (gw5 94 rfl rfl) ms_L_isCause (L_isCause_ok (PCx_l C) (PCx_I C) hk) rfl rfl (Nat.le_of_ble_eq_true rfl) (Nat.le_of_ble_eq_true rfl) (by omega) (by omega) ?_
  intro r3 μ2 hk
  refine px_istore (i := 6) C dL_law_2214 (by decide) rfl ?_
  refine px_aload_n (i := 2) C dL_law_2216 rfl rfl ?_
  refine px_aload_nw (i := 0) C dL_law_2217 rfl rfl ?_
  refine px_iload (i := 5) C dL_law_2218 rfl ?_
  refine px_iconst (v := (1 : Int32)) C dL_law_2220 rfl ?_
  refine px_iadd C dL_law_2221 ?_
  obtain ⟨o4, hk⟩ := hk
  refine px_sld C hX dL_law_2222 o4 ?_
  refine px_callVNi (h := 6) (rc' := A + 0) (rs' := B + 0) C (HR_le hHR (Nat.le_of_ble_eq_true rfl)) dL_law_2223 (gw9 184 rfl rfl) mv_X9_isCause (w9_isCause_ok (PCx_l C) (PCx_I C) hk) rfl rfl rfl rfl rfl (Nat.le_of_ble_eq_true rfl) (Nat.le_of_ble_eq_true rfl) (by omega) (by omega) ?_
  intro r6 μ5 hk
  refine px_istore (i := 7) C dL_law_2226 (by decide) rfl ?_
  refine px_aload_n (i := 2) C dL_law_2228 rfl rfl ?_
  refine px_callVNi (h := 0) (rc' := A + 0) (rs' := B + 0) C (HR_le hHR (Nat.le_of_ble_eq_true rfl)) dL_law_2229 (gw8 123 rfl rfl) mv_X9_thrown (w9_thrown_ok (PCx_l C) (PCx_I C) hk) rfl rfl rfl rfl rfl (Nat.le_of_ble_eq_true rfl) (Nat.le_of_ble_eq_true rfl) (by omega) (by omega) ?_
  intro r8 μ7 hk
  refine px_iload (i := 6) C dL_law_2232 rfl ?_
  refine px_icmp_eq (tgt := 2239) C dL_law_2234 (by decide) (fun c16 => ?_) (fun c16 => ?_)
  · replace hk := hk.1 c16
    refine px_iload (i := 6) C dL_law_2239 rfl ?_
    refine px_if_ne (tgt := 2263) C dL_law_2241 (by decide) (fun c15 => ?_) (fun c15 => ?_)
    · replace hk := hk.1 c15
      refine px_goto (tgt := 3473) C dL_law_2263 (by decide) ?_
      exact PW_at (hN _ hk) (And.intro rfl (And.intro rfl (And.intro rfl (And.intro rfl (And.intro rfl (And.intro rfl trivial)))))) (by omega) (by omega)
    · replace hk := hk.2 c15
      refine px_aload_n (i := 3) C dL_law_2244 rfl rfl ?_
      refine px_iconst (v := (0 : Int32)) C dL_law_2245 rfl ?_
      obtain ⟨o9, hk⟩ := hk
      refine px_lald 5120 C dL_law_2246 rfl rfl rfl rfl o9 ?_
      refine px_iload (i := 7) C dL_law_2247 rfl ?_
      refine px_if_eq (tgt := 2256) C dL_law_2249 (by decide) (fun c14 => ?_) (fun c14 => ?_)
      · replace hk := hk.1 c14
        refine px_lconst (v := (0 : Int32)) C dL_law_2256 rfl ?_
        obtain ⟨o10, hk⟩ := hk
        refine px_lcmp C dL_law_2257 o10 ?_
        refine px_if_eq (tgt := 2263) C dL_law_2258 (by decide) (fun c11 => ?_) (fun c11 => ?_)
        · replace hk := hk.1 c11
          refine px_goto (tgt := 3473) C dL_law_2263 (by decide) ?_
          exact PW_at (hN _ hk) (And.intro rfl (And.intro rfl (And.intro rfl (And.intro rfl (And.intro rfl (And.intro rfl trivial)))))) (by omega) (by omega)
        · replace hk := hk.2 c11
          refine px_iconst (v := (0 : Int32)) C dL_law_2261 rfl ?_
          exact hk.elim
      · replace hk := hk.2 c14
        refine px_lconst (v := (1 : Int32)) C dL_law_2252 rfl ?_
        refine px_goto (tgt := 2257) C dL_law_2253 (by decide) ?_
        obtain ⟨o12, hk⟩ := hk
        refine px_lcmp C dL_law_2257 o12 ?_
        refine px_if_eq (tgt := 2263) C dL_law_2258 (by decide) (fun c13 => ?_) (fun c13 => ?_)
        · replace hk := hk.1 c13
          refine px_goto (tgt := 3473) C dL_law_2263 (by decide) ?_
          exact PW_at (hN _ hk) (And.intro rfl (And.intro rfl (And.intro rfl (And.intro rfl (And.intro rfl (And.intro rfl trivial)))))) (by omega) (by omega)
        · replace hk := hk.2 c13
          refine px_iconst (v := (0 : Int32)) C dL_law_2261 rfl ?_
          exact hk.elim
  · replace hk := hk.2 c16
    refine px_iconst (v := (0 : Int32)) C dL_law_2237 rfl ?_
    exact hk.elim
theorem dL_law_2266 : decode cL_law 2266 = .ok (.aload_n 1, 1) := by decide +kernel
theorem dL_law_2267 : decode cL_law 2267 = .ok (.aload_n 0, 1) := by decide +kernel
theorem dL_law_2268 : decode cL_law 2268 = .ok (.iload 5, 2) := by decide +kernel
theorem dL_law_2270 : decode cL_law 2270 = .ok (.iconst 1, 1) := by decide +kernel
theorem dL_law_2271 : decode cL_law 2271 = .ok (.iadd, 1) := by decide +kernel
theorem dL_law_2272 : decode cL_law 2272 = .ok (.iaload, 1) := by decide +kernel
theorem dL_law_2273 : decode cL_law 2273 = .ok (.aload_n 0, 1) := by decide +kernel
theorem dL_law_2274 : decode cL_law 2274 = .ok (.iload 5, 2) := by decide +kernel
theorem dL_law_2276 : decode cL_law 2276 = .ok (.iconst 2, 1) := by decide +kernel
theorem dL_law_2277 : decode cL_law 2277 = .ok (.iadd, 1) := by decide +kernel
theorem dL_law_2278 : decode cL_law 2278 = .ok (.iaload, 1) := by decide +kernel
theorem dL_law_2279 : decode cL_law 2279 = .ok (.aload_n 3, 1) := by decide +kernel
theorem dL_law_2280 : decode cL_law 2280 = .ok (.invokestatic 286, 3) := by decide +kernel
theorem dL_law_2283 : decode cL_law 2283 = .ok (.istore 6, 2) := by decide +kernel
theorem dL_law_2285 : decode cL_law 2285 = .ok (.aload_n 2, 1) := by decide +kernel
theorem dL_law_2286 : decode cL_law 2286 = .ok (.aload_n 0, 1) := by decide +kernel
theorem dL_law_2287 : decode cL_law 2287 = .ok (.iload 5, 2) := by decide +kernel
theorem dL_law_2289 : decode cL_law 2289 = .ok (.iconst 1, 1) := by decide +kernel
theorem dL_law_2290 : decode cL_law 2290 = .ok (.iadd, 1) := by decide +kernel
theorem dL_law_2291 : decode cL_law 2291 = .ok (.iaload, 1) := by decide +kernel
theorem dL_law_2292 : decode cL_law 2292 = .ok (.aload_n 0, 1) := by decide +kernel
theorem dL_law_2293 : decode cL_law 2293 = .ok (.iload 5, 2) := by decide +kernel
theorem dL_law_2295 : decode cL_law 2295 = .ok (.iconst 2, 1) := by decide +kernel
theorem dL_law_2296 : decode cL_law 2296 = .ok (.iadd, 1) := by decide +kernel
theorem dL_law_2297 : decode cL_law 2297 = .ok (.iaload, 1) := by decide +kernel
theorem dL_law_2298 : decode cL_law 2298 = .ok (.invokevirtual 288, 3) := by decide +kernel
theorem dL_law_2301 : decode cL_law 2301 = .ok (.istore 7, 2) := by decide +kernel
theorem dL_law_2303 : decode cL_law 2303 = .ok (.aload_n 2, 1) := by decide +kernel
theorem dL_law_2304 : decode cL_law 2304 = .ok (.invokevirtual 186, 3) := by decide +kernel
theorem dL_law_2307 : decode cL_law 2307 = .ok (.iload 6, 2) := by decide +kernel
theorem dL_law_2309 : decode cL_law 2309 = .ok (.if_icmp .eq 5, 3) := by decide +kernel
theorem dL_law_2312 : decode cL_law 2312 = .ok (.iconst 0, 1) := by decide +kernel
theorem dL_law_2313 : decode cL_law 2313 = .ok (.ireturn, 1) := by decide +kernel
theorem dL_law_2314 : decode cL_law 2314 = .ok (.iload 6, 2) := by decide +kernel
theorem dL_law_2316 : decode cL_law 2316 = .ok (.ifCond .ne 15, 3) := by decide +kernel
theorem dL_law_2319 : decode cL_law 2319 = .ok (.aload_n 3, 1) := by decide +kernel
theorem dL_law_2320 : decode cL_law 2320 = .ok (.iconst 0, 1) := by decide +kernel
theorem dL_law_2321 : decode cL_law 2321 = .ok (.laload, 1) := by decide +kernel
theorem dL_law_2322 : decode cL_law 2322 = .ok (.iload 7, 2) := by decide +kernel
theorem dL_law_2324 : decode cL_law 2324 = .ok (.i2l, 1) := by decide +kernel
theorem dL_law_2325 : decode cL_law 2325 = .ok (.lcmp, 1) := by decide +kernel
theorem dL_law_2326 : decode cL_law 2326 = .ok (.ifCond .eq 5, 3) := by decide +kernel
theorem dL_law_2329 : decode cL_law 2329 = .ok (.iconst 0, 1) := by decide +kernel
theorem dL_law_2330 : decode cL_law 2330 = .ok (.ireturn, 1) := by decide +kernel
theorem dL_law_2331 : decode cL_law 2331 = .ok (.goto 1142, 3) := by decide +kernel
set_option maxRecDepth 100000 in
set_option maxHeartbeats 4000000 in
theorem lc31_ok {G : GT} {b L A B : Nat} {xs : Nat → Int32} {μ : Mem} {i : Int32} {N : Mem → Prop} (C : PCx G cL_law 9 RL) (hX : Scr G b L xs) (hHR : HR G 11) (hN : ∀ μ : Mem, N μ → PW G A B 3473 [some (pW (.ref b)), some (pR 40 0), some (pR 50 0), some (pR 80 0), some (pR 81 0), some (pI i), none, none, none] [] μ) (hk : lc31_wp xs L μ i N) : PW G (A + 2) (B + 12) 2266 [some (pW (.ref b)), some (pR 40 0), some (pR 50 0), some (pR 80 0), some (pR 81 0), some (pI i), none, none, none] [] μ := by
  unfold lc31_wp at hk
  refine px_aload_n (i := 1) C dL_law_2266 rfl rfl ?_
  refine px_aload_nw (i := 0) C dL_law_2267 rfl rfl ?_
  refine px_iload (i := 5) C dL_law_2268 rfl ?_
  refine px_iconst (v := (1 : Int32)) C dL_law_2270 rfl ?_
  refine px_iadd C dL_law_2271 ?_
  obtain ⟨o1, hk⟩ := hk
  refine px_sld C hX dL_law_2272 o1 ?_
  refine px_aload_nw (i := 0) C dL_law_2273 rfl rfl ?_
  refine px_iload (i := 5) C dL_law_2274 rfl ?_
  refine px_iconst (v := (2 : Int32)) C dL_law_2276 rfl ?_
  refine px_iadd C dL_law_2277 ?_
  obtain ⟨o2, hk⟩ := hk
  refine px_sld C hX dL_law_2278 o2 ?_
  refine px_aload_n (i := 3) C dL_law_2279 rfl rfl ?_
  refine px_callSH (h := 10) (rc' := A + 0) (rs' := B + 0) C (HR_le hHR (Nat.le_of_ble_eq_true rfl)) dL_law_2280 (gw5 106 rfl rfl) ms_L_cause (L_cause_ok (PCx_l C) (PCx_I C) hk) rfl rfl (Nat.le_of_ble_eq_true rfl) (Nat.le_of_ble_eq_true rfl) (by omega) (by omega) ?_
  intro r4 μ3 hk
  refine px_istore (i := 6) C dL_law_2283 (by decide) rfl ?_
  refine px_aload_n (i := 2) C dL_law_2285 rfl rfl ?_
  refine px_aload_nw (i := 0) C dL_law_2286 rfl rfl ?_
  refine px_iload (i := 5) C dL_law_2287 rfl ?_
  refine px_iconst (v := (1 : Int32)) C dL_law_2289 rfl ?_
  refine px_iadd C dL_law_2290 ?_
  obtain ⟨o5, hk⟩ := hk
  refine px_sld C hX dL_law_2291 o5 ?_
  refine px_aload_nw (i := 0) C dL_law_2292 rfl rfl ?_
  refine px_iload (i := 5) C dL_law_2293 rfl ?_
  refine px_iconst (v := (2 : Int32)) C dL_law_2295 rfl ?_
  refine px_iadd C dL_law_2296 ?_
  obtain ⟨o6, hk⟩ := hk
  refine px_sld C hX dL_law_2297 o6 ?_
  refine px_callVNi (h := 6) (rc' := A + 0) (rs' := B + 0) C (HR_le hHR (Nat.le_of_ble_eq_true rfl)) dL_law_2298 (gw9 192 rfl rfl) mv_X9_cause (w9_cause_ok (PCx_l C) (PCx_I C) hk) rfl rfl rfl rfl rfl (Nat.le_of_ble_eq_true rfl) (Nat.le_of_ble_eq_true rfl) (by omega) (by omega) ?_
  intro r8 μ7 hk
  refine px_istore (i := 7) C dL_law_2301 (by decide) rfl ?_
  refine px_aload_n (i := 2) C dL_law_2303 rfl rfl ?_
  refine px_callVNi (h := 0) (rc' := A + 0) (rs' := B + 0) C (HR_le hHR (Nat.le_of_ble_eq_true rfl)) dL_law_2304 (gw8 123 rfl rfl) mv_X9_thrown (w9_thrown_ok (PCx_l C) (PCx_I C) hk) rfl rfl rfl rfl rfl (Nat.le_of_ble_eq_true rfl) (Nat.le_of_ble_eq_true rfl) (by omega) (by omega) ?_
  intro r10 μ9 hk
  refine px_iload (i := 6) C dL_law_2307 rfl ?_
  refine px_icmp_eq (tgt := 2314) C dL_law_2309 (by decide) (fun c15 => ?_) (fun c15 => ?_)
  · replace hk := hk.1 c15
    refine px_iload (i := 6) C dL_law_2314 rfl ?_
    refine px_if_ne (tgt := 2331) C dL_law_2316 (by decide) (fun c14 => ?_) (fun c14 => ?_)
    · replace hk := hk.1 c14
      refine px_goto (tgt := 3473) C dL_law_2331 (by decide) ?_
      exact PW_at (hN _ hk) (And.intro rfl (And.intro rfl (And.intro rfl (And.intro rfl (And.intro rfl (And.intro rfl trivial)))))) (by omega) (by omega)
    · replace hk := hk.2 c14
      refine px_aload_n (i := 3) C dL_law_2319 rfl rfl ?_
      refine px_iconst (v := (0 : Int32)) C dL_law_2320 rfl ?_
      obtain ⟨o11, hk⟩ := hk
      refine px_lald 5120 C dL_law_2321 rfl rfl rfl rfl o11 ?_
      refine px_iload (i := 7) C dL_law_2322 rfl ?_
      refine px_i2l C dL_law_2324 ?_
      obtain ⟨o12, hk⟩ := hk
      refine px_lcmp C dL_law_2325 o12 ?_
      refine px_if_eq (tgt := 2331) C dL_law_2326 (by decide) (fun c13 => ?_) (fun c13 => ?_)
      · replace hk := hk.1 c13
        refine px_goto (tgt := 3473) C dL_law_2331 (by decide) ?_
        exact PW_at (hN _ hk) (And.intro rfl (And.intro rfl (And.intro rfl (And.intro rfl (And.intro rfl (And.intro rfl trivial)))))) (by omega) (by omega)
      · replace hk := hk.2 c13
        refine px_iconst (v := (0 : Int32)) C dL_law_2329 rfl ?_
        exact hk.elim
  · replace hk := hk.2 c15
    refine px_iconst (v := (0 : Int32)) C dL_law_2312 rfl ?_
    exact hk.elim
theorem dL_law_2334 : decode cL_law 2334 = .ok (.aload_n 1, 1) := by decide +kernel
theorem dL_law_2335 : decode cL_law 2335 = .ok (.aload_n 0, 1) := by decide +kernel
theorem dL_law_2336 : decode cL_law 2336 = .ok (.iload 5, 2) := by decide +kernel
theorem dL_law_2338 : decode cL_law 2338 = .ok (.iconst 1, 1) := by decide +kernel
theorem dL_law_2339 : decode cL_law 2339 = .ok (.iadd, 1) := by decide +kernel
theorem dL_law_2340 : decode cL_law 2340 = .ok (.iaload, 1) := by decide +kernel
theorem dL_law_2341 : decode cL_law 2341 = .ok (.aload 4, 2) := by decide +kernel
theorem dL_law_2343 : decode cL_law 2343 = .ok (.invokestatic 289, 3) := by decide +kernel
theorem dL_law_2346 : decode cL_law 2346 = .ok (.istore 6, 2) := by decide +kernel
theorem dL_law_2348 : decode cL_law 2348 = .ok (.aload_n 2, 1) := by decide +kernel
theorem dL_law_2349 : decode cL_law 2349 = .ok (.aload_n 0, 1) := by decide +kernel
theorem dL_law_2350 : decode cL_law 2350 = .ok (.iload 5, 2) := by decide +kernel
theorem dL_law_2352 : decode cL_law 2352 = .ok (.iconst 1, 1) := by decide +kernel
theorem dL_law_2353 : decode cL_law 2353 = .ok (.iadd, 1) := by decide +kernel
theorem dL_law_2354 : decode cL_law 2354 = .ok (.iaload, 1) := by decide +kernel
theorem dL_law_2355 : decode cL_law 2355 = .ok (.invokevirtual 292, 3) := by decide +kernel
theorem dL_law_2358 : decode cL_law 2358 = .ok (.dstore 7, 2) := by decide +kernel
theorem dL_law_2360 : decode cL_law 2360 = .ok (.aload_n 2, 1) := by decide +kernel
theorem dL_law_2361 : decode cL_law 2361 = .ok (.invokevirtual 186, 3) := by decide +kernel
theorem dL_law_2364 : decode cL_law 2364 = .ok (.iload 6, 2) := by decide +kernel
theorem dL_law_2366 : decode cL_law 2366 = .ok (.if_icmp .eq 5, 3) := by decide +kernel
theorem dL_law_2369 : decode cL_law 2369 = .ok (.iconst 0, 1) := by decide +kernel
theorem dL_law_2370 : decode cL_law 2370 = .ok (.ireturn, 1) := by decide +kernel
theorem dL_law_2371 : decode cL_law 2371 = .ok (.iload 6, 2) := by decide +kernel
theorem dL_law_2373 : decode cL_law 2373 = .ok (.ifCond .ne 35, 3) := by decide +kernel
theorem dL_law_2376 : decode cL_law 2376 = .ok (.aload 4, 2) := by decide +kernel
theorem dL_law_2378 : decode cL_law 2378 = .ok (.iconst 0, 1) := by decide +kernel
theorem dL_law_2379 : decode cL_law 2379 = .ok (.daload, 1) := by decide +kernel
theorem dL_law_2380 : decode cL_law 2380 = .ok (.dload 7, 2) := by decide +kernel
theorem dL_law_2382 : decode cL_law 2382 = .ok (.dcmp .l, 1) := by decide +kernel
theorem dL_law_2383 : decode cL_law 2383 = .ok (.ifCond .eq 25, 3) := by decide +kernel
theorem dL_law_2386 : decode cL_law 2386 = .ok (.aload 4, 2) := by decide +kernel
theorem dL_law_2388 : decode cL_law 2388 = .ok (.iconst 0, 1) := by decide +kernel
theorem dL_law_2389 : decode cL_law 2389 = .ok (.daload, 1) := by decide +kernel
theorem dL_law_2390 : decode cL_law 2390 = .ok (.aload 4, 2) := by decide +kernel
theorem dL_law_2392 : decode cL_law 2392 = .ok (.iconst 0, 1) := by decide +kernel
theorem dL_law_2393 : decode cL_law 2393 = .ok (.daload, 1) := by decide +kernel
theorem dL_law_2394 : decode cL_law 2394 = .ok (.dcmp .l, 1) := by decide +kernel
theorem dL_law_2395 : decode cL_law 2395 = .ok (.ifCond .eq 11, 3) := by decide +kernel
theorem dL_law_2398 : decode cL_law 2398 = .ok (.dload 7, 2) := by decide +kernel
theorem dL_law_2400 : decode cL_law 2400 = .ok (.dload 7, 2) := by decide +kernel
theorem dL_law_2402 : decode cL_law 2402 = .ok (.dcmp .l, 1) := by decide +kernel
theorem dL_law_2403 : decode cL_law 2403 = .ok (.ifCond .ne 5, 3) := by decide +kernel
theorem dL_law_2406 : decode cL_law 2406 = .ok (.iconst 0, 1) := by decide +kernel
theorem dL_law_2407 : decode cL_law 2407 = .ok (.ireturn, 1) := by decide +kernel
theorem dL_law_2408 : decode cL_law 2408 = .ok (.goto 1065, 3) := by decide +kernel
set_option maxRecDepth 100000 in
set_option maxHeartbeats 4000000 in
theorem lc32_ok {G : GT} {b L A B : Nat} {xs : Nat → Int32} {μ : Mem} {i : Int32} {N : Mem → Prop} (C : PCx G cL_law 9 RL) (hX : Scr G b L xs) (hHR : HR G 11) (hN : ∀ μ : Mem, N μ → PW G A B 3473 [some (pW (.ref b)), some (pR 40 0), some (pR 50 0), some (pR 80 0), some (pR 81 0), some (pI i), none, none, none] [] μ) (hk : lc32_wp xs L μ i N) : PW G (A + 2) (B + 12) 2334 [some (pW (.ref b)), some (pR 40 0), some (pR 50 0), some (pR 80 0), some (pR 81 0), some (pI i), none, none, none] [] μ := by
  unfold lc32_wp at hk
  refine px_aload_n (i := 1) C dL_law_2334 rfl rfl ?_
  refine px_aload_nw (i := 0) C dL_law_2335 rfl rfl ?_
  refine px_iload (i := 5) C dL_law_2336 rfl ?_
  refine px_iconst (v := (1 : Int32)) C dL_law_2338 rfl ?_
  refine px_iadd C dL_law_2339 ?_
  obtain ⟨o1, hk⟩ := hk
  refine px_sld C hX dL_law_2340 o1 ?_
  refine px_aload (i := 4) C dL_law_2341 rfl ?_
  refine px_callSH (h := 10) (rc' := A + 0) (rs' := B + 0) C (HR_le hHR (Nat.le_of_ble_eq_true rfl)) dL_law_2343 (gw5 119 rfl rfl) ms_L_errorShare (L_errorShare_ok (PCx_l C) (PCx_I C) hk) rfl rfl (Nat.le_of_ble_eq_true rfl) (Nat.le_of_ble_eq_true rfl) (by omega) (by omega) ?_
  intro r3 μ2 hk
  refine px_istore (i := 6) C dL_law_2346 (by decide) rfl ?_
  refine px_aload_n (i := 2) C dL_law_2348 rfl rfl ?_
  refine px_aload_nw (i := 0) C dL_law_2349 rfl rfl ?_
  refine px_iload (i := 5) C dL_law_2350 rfl ?_
  refine px_iconst (v := (1 : Int32)) C dL_law_2352 rfl ?_
  refine px_iadd C dL_law_2353 ?_
  obtain ⟨o4, hk⟩ := hk
  refine px_sld C hX dL_law_2354 o4 ?_
  refine px_callVNd (h := 2) (rc' := A + 0) (rs' := B + 0) C (HR_le hHR (Nat.le_of_ble_eq_true rfl)) dL_law_2355 (gw9 196 rfl rfl) mv_X9_errorShare (w9_errorShare_ok (PCx_l C) (PCx_I C) hk) rfl rfl rfl rfl rfl (Nat.le_of_ble_eq_true rfl) (Nat.le_of_ble_eq_true rfl) (by omega) (by omega) ?_
  intro r6 μ5 hk
  refine px_dstore (i := 7) C dL_law_2358 (by decide) rfl rfl ?_
  refine px_aload_n (i := 2) C dL_law_2360 rfl rfl ?_
  refine px_callVNi (h := 0) (rc' := A + 0) (rs' := B + 0) C (HR_le hHR (Nat.le_of_ble_eq_true rfl)) dL_law_2361 (gw8 123 rfl rfl) mv_X9_thrown (w9_thrown_ok (PCx_l C) (PCx_I C) hk) rfl rfl rfl rfl rfl (Nat.le_of_ble_eq_true rfl) (Nat.le_of_ble_eq_true rfl) (by omega) (by omega) ?_
  intro r8 μ7 hk
  refine px_iload (i := 6) C dL_law_2364 rfl ?_
  refine px_icmp_eq (tgt := 2371) C dL_law_2366 (by decide) (fun c16 => ?_) (fun c16 => ?_)
  · replace hk := hk.1 c16
    refine px_iload (i := 6) C dL_law_2371 rfl ?_
    refine px_if_ne (tgt := 2408) C dL_law_2373 (by decide) (fun c15 => ?_) (fun c15 => ?_)
    · replace hk := hk.1 c15
      refine px_goto (tgt := 3473) C dL_law_2408 (by decide) ?_
      exact PW_at (hN _ hk) (And.intro rfl (And.intro rfl (And.intro rfl (And.intro rfl (And.intro rfl (And.intro rfl trivial)))))) (by omega) (by omega)
    · replace hk := hk.2 c15
      refine px_aload (i := 4) C dL_law_2376 rfl ?_
      refine px_iconst (v := (0 : Int32)) C dL_law_2378 rfl ?_
      obtain ⟨o9, hk⟩ := hk
      refine px_dald 5184 C dL_law_2379 rfl rfl rfl rfl o9 ?_
      refine px_dload (i := 7) C dL_law_2380 rfl ?_
      refine px_dcmp C dL_law_2382 ?_
      refine px_if_eq (tgt := 2408) C dL_law_2383 (by decide) (fun c14 => ?_) (fun c14 => ?_)
      · replace hk := hk.1 c14
        refine px_goto (tgt := 3473) C dL_law_2408 (by decide) ?_
        exact PW_at (hN _ hk) (And.intro rfl (And.intro rfl (And.intro rfl (And.intro rfl (And.intro rfl (And.intro rfl trivial)))))) (by omega) (by omega)
      · replace hk := hk.2 c14
        refine px_aload (i := 4) C dL_law_2386 rfl ?_
        refine px_iconst (v := (0 : Int32)) C dL_law_2388 rfl ?_
        obtain ⟨o10, hk⟩ := hk
        refine px_dald 5184 C dL_law_2389 rfl rfl rfl rfl o10 ?_
        refine px_aload (i := 4) C dL_law_2390 rfl ?_
        refine px_iconst (v := (0 : Int32)) C dL_law_2392 rfl ?_
        obtain ⟨o11, hk⟩ := hk
        refine px_dald 5184 C dL_law_2393 rfl rfl rfl rfl o11 ?_
        refine px_dcmp C dL_law_2394 ?_
        refine px_if_eq (tgt := 2406) C dL_law_2395 (by decide) (fun c13 => ?_) (fun c13 => ?_)
        · replace hk := hk.1 c13
          refine px_iconst (v := (0 : Int32)) C dL_law_2406 rfl ?_
          exact hk.elim
        · replace hk := hk.2 c13
          refine px_dload (i := 7) C dL_law_2398 rfl ?_
          refine px_dload (i := 7) C dL_law_2400 rfl ?_
          refine px_dcmp C dL_law_2402 ?_
          refine px_if_ne (tgt := 2408) C dL_law_2403 (by decide) (fun c12 => ?_) (fun c12 => ?_)
          · replace hk := hk.1 c12
            refine px_goto (tgt := 3473) C dL_law_2408 (by decide) ?_
            exact PW_at (hN _ hk) (And.intro rfl (And.intro rfl (And.intro rfl (And.intro rfl (And.intro rfl (And.intro rfl trivial)))))) (by omega) (by omega)
          · replace hk := hk.2 c12
            refine px_iconst (v := (0 : Int32)) C dL_law_2406 rfl ?_
            exact hk.elim
  · replace hk := hk.2 c16
    refine px_iconst (v := (0 : Int32)) C dL_law_2369 rfl ?_
    exact hk.elim
theorem dL_law_2411 : decode cL_law 2411 = .ok (.aload_n 1, 1) := by decide +kernel
theorem dL_law_2412 : decode cL_law 2412 = .ok (.aload_n 0, 1) := by decide +kernel
theorem dL_law_2413 : decode cL_law 2413 = .ok (.iload 5, 2) := by decide +kernel
theorem dL_law_2415 : decode cL_law 2415 = .ok (.iconst 1, 1) := by decide +kernel
theorem dL_law_2416 : decode cL_law 2416 = .ok (.iadd, 1) := by decide +kernel
theorem dL_law_2417 : decode cL_law 2417 = .ok (.iaload, 1) := by decide +kernel
theorem dL_law_2418 : decode cL_law 2418 = .ok (.aload_n 0, 1) := by decide +kernel
theorem dL_law_2419 : decode cL_law 2419 = .ok (.iload 5, 2) := by decide +kernel
theorem dL_law_2421 : decode cL_law 2421 = .ok (.iconst 2, 1) := by decide +kernel
theorem dL_law_2422 : decode cL_law 2422 = .ok (.iadd, 1) := by decide +kernel
theorem dL_law_2423 : decode cL_law 2423 = .ok (.iaload, 1) := by decide +kernel
theorem dL_law_2424 : decode cL_law 2424 = .ok (.aload_n 3, 1) := by decide +kernel
theorem dL_law_2425 : decode cL_law 2425 = .ok (.invokestatic 293, 3) := by decide +kernel
theorem dL_law_2428 : decode cL_law 2428 = .ok (.istore 6, 2) := by decide +kernel
theorem dL_law_2430 : decode cL_law 2430 = .ok (.aload_n 2, 1) := by decide +kernel
theorem dL_law_2431 : decode cL_law 2431 = .ok (.aload_n 0, 1) := by decide +kernel
theorem dL_law_2432 : decode cL_law 2432 = .ok (.iload 5, 2) := by decide +kernel
theorem dL_law_2434 : decode cL_law 2434 = .ok (.iconst 1, 1) := by decide +kernel
theorem dL_law_2435 : decode cL_law 2435 = .ok (.iadd, 1) := by decide +kernel
theorem dL_law_2436 : decode cL_law 2436 = .ok (.iaload, 1) := by decide +kernel
theorem dL_law_2437 : decode cL_law 2437 = .ok (.aload_n 0, 1) := by decide +kernel
theorem dL_law_2438 : decode cL_law 2438 = .ok (.iload 5, 2) := by decide +kernel
theorem dL_law_2440 : decode cL_law 2440 = .ok (.iconst 2, 1) := by decide +kernel
theorem dL_law_2441 : decode cL_law 2441 = .ok (.iadd, 1) := by decide +kernel
theorem dL_law_2442 : decode cL_law 2442 = .ok (.iaload, 1) := by decide +kernel
theorem dL_law_2443 : decode cL_law 2443 = .ok (.invokevirtual 295, 3) := by decide +kernel
theorem dL_law_2446 : decode cL_law 2446 = .ok (.istore 7, 2) := by decide +kernel
theorem dL_law_2448 : decode cL_law 2448 = .ok (.aload_n 2, 1) := by decide +kernel
theorem dL_law_2449 : decode cL_law 2449 = .ok (.invokevirtual 186, 3) := by decide +kernel
theorem dL_law_2452 : decode cL_law 2452 = .ok (.iload 6, 2) := by decide +kernel
theorem dL_law_2454 : decode cL_law 2454 = .ok (.if_icmp .eq 5, 3) := by decide +kernel
theorem dL_law_2457 : decode cL_law 2457 = .ok (.iconst 0, 1) := by decide +kernel
theorem dL_law_2458 : decode cL_law 2458 = .ok (.ireturn, 1) := by decide +kernel
theorem dL_law_2459 : decode cL_law 2459 = .ok (.iload 6, 2) := by decide +kernel
theorem dL_law_2461 : decode cL_law 2461 = .ok (.ifCond .ne 15, 3) := by decide +kernel
theorem dL_law_2464 : decode cL_law 2464 = .ok (.aload_n 3, 1) := by decide +kernel
theorem dL_law_2465 : decode cL_law 2465 = .ok (.iconst 0, 1) := by decide +kernel
theorem dL_law_2466 : decode cL_law 2466 = .ok (.laload, 1) := by decide +kernel
theorem dL_law_2467 : decode cL_law 2467 = .ok (.iload 7, 2) := by decide +kernel
theorem dL_law_2469 : decode cL_law 2469 = .ok (.i2l, 1) := by decide +kernel
theorem dL_law_2470 : decode cL_law 2470 = .ok (.lcmp, 1) := by decide +kernel
theorem dL_law_2471 : decode cL_law 2471 = .ok (.ifCond .eq 5, 3) := by decide +kernel
theorem dL_law_2474 : decode cL_law 2474 = .ok (.iconst 0, 1) := by decide +kernel
theorem dL_law_2475 : decode cL_law 2475 = .ok (.ireturn, 1) := by decide +kernel
theorem dL_law_2476 : decode cL_law 2476 = .ok (.goto 997, 3) := by decide +kernel
set_option maxRecDepth 100000 in
set_option maxHeartbeats 4000000 in
theorem lc33_ok {G : GT} {b L A B : Nat} {xs : Nat → Int32} {μ : Mem} {i : Int32} {N : Mem → Prop} (C : PCx G cL_law 9 RL) (hX : Scr G b L xs) (hHR : HR G 68) (hN : ∀ μ : Mem, N μ → PW G A B 3473 [some (pW (.ref b)), some (pR 40 0), some (pR 50 0), some (pR 80 0), some (pR 81 0), some (pI i), none, none, none] [] μ) (hk : lc33_wp xs L μ i N) : PW G (A + 2) (B + 12) 2411 [some (pW (.ref b)), some (pR 40 0), some (pR 50 0), some (pR 80 0), some (pR 81 0), some (pI i), none, none, none] [] μ := by
  unfold lc33_wp at hk
  refine px_aload_n (i := 1) C dL_law_2411 rfl rfl ?_
  refine px_aload_nw (i := 0) C dL_law_2412 rfl rfl ?_
  refine px_iload (i := 5) C dL_law_2413 rfl ?_
  refine px_iconst (v := (1 : Int32)) C dL_law_2415 rfl ?_
  refine px_iadd C dL_law_2416 ?_
  obtain ⟨o1, hk⟩ := hk
  refine px_sld C hX dL_law_2417 o1 ?_
  refine px_aload_nw (i := 0) C dL_law_2418 rfl rfl ?_
  refine px_iload (i := 5) C dL_law_2419 rfl ?_
  refine px_iconst (v := (2 : Int32)) C dL_law_2421 rfl ?_
  refine px_iadd C dL_law_2422 ?_
  obtain ⟨o2, hk⟩ := hk
  refine px_sld C hX dL_law_2423 o2 ?_
  refine px_aload_n (i := 3) C dL_law_2424 rfl rfl ?_
  refine px_callSH (h := 10) (rc' := A + 0) (rs' := B + 0) C (HR_le hHR (Nat.le_of_ble_eq_true rfl)) dL_law_2425 (gw5 151 rfl rfl) ms_L_service (L_service_ok (PCx_l C) (PCx_I C) hk) rfl rfl (Nat.le_of_ble_eq_true rfl) (Nat.le_of_ble_eq_true rfl) (by omega) (by omega) ?_
  intro r4 μ3 hk
  refine px_istore (i := 6) C dL_law_2428 (by decide) rfl ?_
  refine px_aload_n (i := 2) C dL_law_2430 rfl rfl ?_
  refine px_aload_nw (i := 0) C dL_law_2431 rfl rfl ?_
  refine px_iload (i := 5) C dL_law_2432 rfl ?_
  refine px_iconst (v := (1 : Int32)) C dL_law_2434 rfl ?_
  refine px_iadd C dL_law_2435 ?_
  obtain ⟨o5, hk⟩ := hk
  refine px_sld C hX dL_law_2436 o5 ?_
  refine px_aload_nw (i := 0) C dL_law_2437 rfl rfl ?_
  refine px_iload (i := 5) C dL_law_2438 rfl ?_
  refine px_iconst (v := (2 : Int32)) C dL_law_2440 rfl ?_
  refine px_iadd C dL_law_2441 ?_
  obtain ⟨o6, hk⟩ := hk
  refine px_sld C hX dL_law_2442 o6 ?_
  refine px_callVNi (h := 67) (rc' := A + 0) (rs' := B + 0) C (HR_le hHR (Nat.le_of_ble_eq_true rfl)) dL_law_2443 (gw9 204 rfl rfl) mv_X9_service (w9_service_ok (PCx_l C) (PCx_I C) hk) rfl rfl rfl rfl rfl (Nat.le_of_ble_eq_true rfl) (Nat.le_of_ble_eq_true rfl) (by omega) (by omega) ?_
  intro r8 μ7 hk
  refine px_istore (i := 7) C dL_law_2446 (by decide) rfl ?_
  refine px_aload_n (i := 2) C dL_law_2448 rfl rfl ?_
  refine px_callVNi (h := 0) (rc' := A + 0) (rs' := B + 0) C (HR_le hHR (Nat.le_of_ble_eq_true rfl)) dL_law_2449 (gw8 123 rfl rfl) mv_X9_thrown (w9_thrown_ok (PCx_l C) (PCx_I C) hk) rfl rfl rfl rfl rfl (Nat.le_of_ble_eq_true rfl) (Nat.le_of_ble_eq_true rfl) (by omega) (by omega) ?_
  intro r10 μ9 hk
  refine px_iload (i := 6) C dL_law_2452 rfl ?_
  refine px_icmp_eq (tgt := 2459) C dL_law_2454 (by decide) (fun c15 => ?_) (fun c15 => ?_)
  · replace hk := hk.1 c15
    refine px_iload (i := 6) C dL_law_2459 rfl ?_
    refine px_if_ne (tgt := 2476) C dL_law_2461 (by decide) (fun c14 => ?_) (fun c14 => ?_)
    · replace hk := hk.1 c14
      refine px_goto (tgt := 3473) C dL_law_2476 (by decide) ?_
      exact PW_at (hN _ hk) (And.intro rfl (And.intro rfl (And.intro rfl (And.intro rfl (And.intro rfl (And.intro rfl trivial)))))) (by omega) (by omega)
    · replace hk := hk.2 c14
      refine px_aload_n (i := 3) C dL_law_2464 rfl rfl ?_
      refine px_iconst (v := (0 : Int32)) C dL_law_2465 rfl ?_
      obtain ⟨o11, hk⟩ := hk
      refine px_lald 5120 C dL_law_2466 rfl rfl rfl rfl o11 ?_
      refine px_iload (i := 7) C dL_law_2467 rfl ?_
      refine px_i2l C dL_law_2469 ?_
      obtain ⟨o12, hk⟩ := hk
      refine px_lcmp C dL_law_2470 o12 ?_
      refine px_if_eq (tgt := 2476) C dL_law_2471 (by decide) (fun c13 => ?_) (fun c13 => ?_)
      · replace hk := hk.1 c13
        refine px_goto (tgt := 3473) C dL_law_2476 (by decide) ?_
        exact PW_at (hN _ hk) (And.intro rfl (And.intro rfl (And.intro rfl (And.intro rfl (And.intro rfl (And.intro rfl trivial)))))) (by omega) (by omega)
      · replace hk := hk.2 c13
        refine px_iconst (v := (0 : Int32)) C dL_law_2474 rfl ?_
        exact hk.elim
  · replace hk := hk.2 c15
    refine px_iconst (v := (0 : Int32)) C dL_law_2457 rfl ?_
    exact hk.elim
theorem dL_law_2479 : decode cL_law 2479 = .ok (.aload_n 1, 1) := by decide +kernel
theorem dL_law_2480 : decode cL_law 2480 = .ok (.aload_n 0, 1) := by decide +kernel
theorem dL_law_2481 : decode cL_law 2481 = .ok (.iload 5, 2) := by decide +kernel
theorem dL_law_2483 : decode cL_law 2483 = .ok (.iconst 1, 1) := by decide +kernel
theorem dL_law_2484 : decode cL_law 2484 = .ok (.iadd, 1) := by decide +kernel
theorem dL_law_2485 : decode cL_law 2485 = .ok (.iaload, 1) := by decide +kernel
theorem dL_law_2486 : decode cL_law 2486 = .ok (.aload_n 0, 1) := by decide +kernel
theorem dL_law_2487 : decode cL_law 2487 = .ok (.iload 5, 2) := by decide +kernel
theorem dL_law_2489 : decode cL_law 2489 = .ok (.iconst 2, 1) := by decide +kernel
theorem dL_law_2490 : decode cL_law 2490 = .ok (.iadd, 1) := by decide +kernel
theorem dL_law_2491 : decode cL_law 2491 = .ok (.iaload, 1) := by decide +kernel
theorem dL_law_2492 : decode cL_law 2492 = .ok (.aload_n 3, 1) := by decide +kernel
theorem dL_law_2493 : decode cL_law 2493 = .ok (.invokestatic 296, 3) := by decide +kernel
theorem dL_law_2496 : decode cL_law 2496 = .ok (.istore 6, 2) := by decide +kernel
theorem dL_law_2498 : decode cL_law 2498 = .ok (.aload_n 2, 1) := by decide +kernel
theorem dL_law_2499 : decode cL_law 2499 = .ok (.aload_n 0, 1) := by decide +kernel
theorem dL_law_2500 : decode cL_law 2500 = .ok (.iload 5, 2) := by decide +kernel
theorem dL_law_2502 : decode cL_law 2502 = .ok (.iconst 1, 1) := by decide +kernel
theorem dL_law_2503 : decode cL_law 2503 = .ok (.iadd, 1) := by decide +kernel
theorem dL_law_2504 : decode cL_law 2504 = .ok (.iaload, 1) := by decide +kernel
theorem dL_law_2505 : decode cL_law 2505 = .ok (.aload_n 0, 1) := by decide +kernel
theorem dL_law_2506 : decode cL_law 2506 = .ok (.iload 5, 2) := by decide +kernel
theorem dL_law_2508 : decode cL_law 2508 = .ok (.iconst 2, 1) := by decide +kernel
theorem dL_law_2509 : decode cL_law 2509 = .ok (.iadd, 1) := by decide +kernel
theorem dL_law_2510 : decode cL_law 2510 = .ok (.iaload, 1) := by decide +kernel
theorem dL_law_2511 : decode cL_law 2511 = .ok (.invokevirtual 298, 3) := by decide +kernel
theorem dL_law_2514 : decode cL_law 2514 = .ok (.istore 7, 2) := by decide +kernel
theorem dL_law_2516 : decode cL_law 2516 = .ok (.aload_n 2, 1) := by decide +kernel
theorem dL_law_2517 : decode cL_law 2517 = .ok (.invokevirtual 186, 3) := by decide +kernel
theorem dL_law_2520 : decode cL_law 2520 = .ok (.iload 6, 2) := by decide +kernel
theorem dL_law_2522 : decode cL_law 2522 = .ok (.if_icmp .eq 5, 3) := by decide +kernel
theorem dL_law_2525 : decode cL_law 2525 = .ok (.iconst 0, 1) := by decide +kernel
theorem dL_law_2526 : decode cL_law 2526 = .ok (.ireturn, 1) := by decide +kernel
theorem dL_law_2527 : decode cL_law 2527 = .ok (.iload 6, 2) := by decide +kernel
theorem dL_law_2529 : decode cL_law 2529 = .ok (.ifCond .ne 15, 3) := by decide +kernel
theorem dL_law_2532 : decode cL_law 2532 = .ok (.aload_n 3, 1) := by decide +kernel
theorem dL_law_2533 : decode cL_law 2533 = .ok (.iconst 0, 1) := by decide +kernel
theorem dL_law_2534 : decode cL_law 2534 = .ok (.laload, 1) := by decide +kernel
theorem dL_law_2535 : decode cL_law 2535 = .ok (.iload 7, 2) := by decide +kernel
theorem dL_law_2537 : decode cL_law 2537 = .ok (.i2l, 1) := by decide +kernel
theorem dL_law_2538 : decode cL_law 2538 = .ok (.lcmp, 1) := by decide +kernel
theorem dL_law_2539 : decode cL_law 2539 = .ok (.ifCond .eq 5, 3) := by decide +kernel
theorem dL_law_2542 : decode cL_law 2542 = .ok (.iconst 0, 1) := by decide +kernel
theorem dL_law_2543 : decode cL_law 2543 = .ok (.ireturn, 1) := by decide +kernel
theorem dL_law_2544 : decode cL_law 2544 = .ok (.goto 929, 3) := by decide +kernel
set_option maxRecDepth 100000 in
set_option maxHeartbeats 4000000 in
theorem lc34_ok {G : GT} {b L A B : Nat} {xs : Nat → Int32} {μ : Mem} {i : Int32} {N : Mem → Prop} (C : PCx G cL_law 9 RL) (hX : Scr G b L xs) (hHR : HR G 11) (hN : ∀ μ : Mem, N μ → PW G A B 3473 [some (pW (.ref b)), some (pR 40 0), some (pR 50 0), some (pR 80 0), some (pR 81 0), some (pI i), none, none, none] [] μ) (hk : lc34_wp xs L μ i N) : PW G (A + 2) (B + 12) 2479 [some (pW (.ref b)), some (pR 40 0), some (pR 50 0), some (pR 80 0), some (pR 81 0), some (pI i), none, none, none] [] μ := by
  unfold lc34_wp at hk
  refine px_aload_n (i := 1) C dL_law_2479 rfl rfl ?_
  refine px_aload_nw (i := 0) C dL_law_2480 rfl rfl ?_
  refine px_iload (i := 5) C dL_law_2481 rfl ?_
  refine px_iconst (v := (1 : Int32)) C dL_law_2483 rfl ?_
  refine px_iadd C dL_law_2484 ?_
  obtain ⟨o1, hk⟩ := hk
  refine px_sld C hX dL_law_2485 o1 ?_
  refine px_aload_nw (i := 0) C dL_law_2486 rfl rfl ?_
  refine px_iload (i := 5) C dL_law_2487 rfl ?_
  refine px_iconst (v := (2 : Int32)) C dL_law_2489 rfl ?_
  refine px_iadd C dL_law_2490 ?_
  obtain ⟨o2, hk⟩ := hk
  refine px_sld C hX dL_law_2491 o2 ?_
  refine px_aload_n (i := 3) C dL_law_2492 rfl rfl ?_
  refine px_callSH (h := 10) (rc' := A + 0) (rs' := B + 0) C (HR_le hHR (Nat.le_of_ble_eq_true rfl)) dL_law_2493 (gw5 182 rfl rfl) ms_L_quantile (L_quantile_ok (PCx_l C) (PCx_I C) hk) rfl rfl (Nat.le_of_ble_eq_true rfl) (Nat.le_of_ble_eq_true rfl) (by omega) (by omega) ?_
  intro r4 μ3 hk
  refine px_istore (i := 6) C dL_law_2496 (by decide) rfl ?_
  refine px_aload_n (i := 2) C dL_law_2498 rfl rfl ?_
  refine px_aload_nw (i := 0) C dL_law_2499 rfl rfl ?_
  refine px_iload (i := 5) C dL_law_2500 rfl ?_
  refine px_iconst (v := (1 : Int32)) C dL_law_2502 rfl ?_
  refine px_iadd C dL_law_2503 ?_
  obtain ⟨o5, hk⟩ := hk
  refine px_sld C hX dL_law_2504 o5 ?_
  refine px_aload_nw (i := 0) C dL_law_2505 rfl rfl ?_
  refine px_iload (i := 5) C dL_law_2506 rfl ?_
  refine px_iconst (v := (2 : Int32)) C dL_law_2508 rfl ?_
  refine px_iadd C dL_law_2509 ?_
  obtain ⟨o6, hk⟩ := hk
  refine px_sld C hX dL_law_2510 o6 ?_
  refine px_callVNi (h := 3) (rc' := A + 0) (rs' := B + 0) C (HR_le hHR (Nat.le_of_ble_eq_true rfl)) dL_law_2511 (gw9 216 rfl rfl) mv_X9_quantile (w9_quantile_ok (PCx_l C) (PCx_I C) hk) rfl rfl rfl rfl rfl (Nat.le_of_ble_eq_true rfl) (Nat.le_of_ble_eq_true rfl) (by omega) (by omega) ?_
  intro r8 μ7 hk
  refine px_istore (i := 7) C dL_law_2514 (by decide) rfl ?_
  refine px_aload_n (i := 2) C dL_law_2516 rfl rfl ?_
  refine px_callVNi (h := 0) (rc' := A + 0) (rs' := B + 0) C (HR_le hHR (Nat.le_of_ble_eq_true rfl)) dL_law_2517 (gw8 123 rfl rfl) mv_X9_thrown (w9_thrown_ok (PCx_l C) (PCx_I C) hk) rfl rfl rfl rfl rfl (Nat.le_of_ble_eq_true rfl) (Nat.le_of_ble_eq_true rfl) (by omega) (by omega) ?_
  intro r10 μ9 hk
  refine px_iload (i := 6) C dL_law_2520 rfl ?_
  refine px_icmp_eq (tgt := 2527) C dL_law_2522 (by decide) (fun c15 => ?_) (fun c15 => ?_)
  · replace hk := hk.1 c15
    refine px_iload (i := 6) C dL_law_2527 rfl ?_
    refine px_if_ne (tgt := 2544) C dL_law_2529 (by decide) (fun c14 => ?_) (fun c14 => ?_)
    · replace hk := hk.1 c14
      refine px_goto (tgt := 3473) C dL_law_2544 (by decide) ?_
      exact PW_at (hN _ hk) (And.intro rfl (And.intro rfl (And.intro rfl (And.intro rfl (And.intro rfl (And.intro rfl trivial)))))) (by omega) (by omega)
    · replace hk := hk.2 c14
      refine px_aload_n (i := 3) C dL_law_2532 rfl rfl ?_
      refine px_iconst (v := (0 : Int32)) C dL_law_2533 rfl ?_
      obtain ⟨o11, hk⟩ := hk
      refine px_lald 5120 C dL_law_2534 rfl rfl rfl rfl o11 ?_
      refine px_iload (i := 7) C dL_law_2535 rfl ?_
      refine px_i2l C dL_law_2537 ?_
      obtain ⟨o12, hk⟩ := hk
      refine px_lcmp C dL_law_2538 o12 ?_
      refine px_if_eq (tgt := 2544) C dL_law_2539 (by decide) (fun c13 => ?_) (fun c13 => ?_)
      · replace hk := hk.1 c13
        refine px_goto (tgt := 3473) C dL_law_2544 (by decide) ?_
        exact PW_at (hN _ hk) (And.intro rfl (And.intro rfl (And.intro rfl (And.intro rfl (And.intro rfl (And.intro rfl trivial)))))) (by omega) (by omega)
      · replace hk := hk.2 c13
        refine px_iconst (v := (0 : Int32)) C dL_law_2542 rfl ?_
        exact hk.elim
  · replace hk := hk.2 c15
    refine px_iconst (v := (0 : Int32)) C dL_law_2525 rfl ?_
    exact hk.elim
theorem dL_law_2547 : decode cL_law 2547 = .ok (.aload_n 1, 1) := by decide +kernel
theorem dL_law_2548 : decode cL_law 2548 = .ok (.aload_n 0, 1) := by decide +kernel
theorem dL_law_2549 : decode cL_law 2549 = .ok (.iload 5, 2) := by decide +kernel
theorem dL_law_2551 : decode cL_law 2551 = .ok (.iconst 1, 1) := by decide +kernel
theorem dL_law_2552 : decode cL_law 2552 = .ok (.iadd, 1) := by decide +kernel
theorem dL_law_2553 : decode cL_law 2553 = .ok (.iaload, 1) := by decide +kernel
theorem dL_law_2554 : decode cL_law 2554 = .ok (.aload_n 3, 1) := by decide +kernel
theorem dL_law_2555 : decode cL_law 2555 = .ok (.invokestatic 299, 3) := by decide +kernel
theorem dL_law_2558 : decode cL_law 2558 = .ok (.istore 6, 2) := by decide +kernel
theorem dL_law_2560 : decode cL_law 2560 = .ok (.aload_n 2, 1) := by decide +kernel
theorem dL_law_2561 : decode cL_law 2561 = .ok (.aload_n 0, 1) := by decide +kernel
theorem dL_law_2562 : decode cL_law 2562 = .ok (.iload 5, 2) := by decide +kernel
theorem dL_law_2564 : decode cL_law 2564 = .ok (.iconst 1, 1) := by decide +kernel
theorem dL_law_2565 : decode cL_law 2565 = .ok (.iadd, 1) := by decide +kernel
theorem dL_law_2566 : decode cL_law 2566 = .ok (.iaload, 1) := by decide +kernel
theorem dL_law_2567 : decode cL_law 2567 = .ok (.invokevirtual 301, 3) := by decide +kernel
theorem dL_law_2570 : decode cL_law 2570 = .ok (.istore 7, 2) := by decide +kernel
theorem dL_law_2572 : decode cL_law 2572 = .ok (.aload_n 2, 1) := by decide +kernel
theorem dL_law_2573 : decode cL_law 2573 = .ok (.invokevirtual 186, 3) := by decide +kernel
theorem dL_law_2576 : decode cL_law 2576 = .ok (.iload 6, 2) := by decide +kernel
theorem dL_law_2578 : decode cL_law 2578 = .ok (.if_icmp .eq 5, 3) := by decide +kernel
theorem dL_law_2581 : decode cL_law 2581 = .ok (.iconst 0, 1) := by decide +kernel
theorem dL_law_2582 : decode cL_law 2582 = .ok (.ireturn, 1) := by decide +kernel
theorem dL_law_2583 : decode cL_law 2583 = .ok (.iload 6, 2) := by decide +kernel
theorem dL_law_2585 : decode cL_law 2585 = .ok (.ifCond .ne 15, 3) := by decide +kernel
theorem dL_law_2588 : decode cL_law 2588 = .ok (.aload_n 3, 1) := by decide +kernel
theorem dL_law_2589 : decode cL_law 2589 = .ok (.iconst 0, 1) := by decide +kernel
theorem dL_law_2590 : decode cL_law 2590 = .ok (.laload, 1) := by decide +kernel
theorem dL_law_2591 : decode cL_law 2591 = .ok (.iload 7, 2) := by decide +kernel
theorem dL_law_2593 : decode cL_law 2593 = .ok (.i2l, 1) := by decide +kernel
theorem dL_law_2594 : decode cL_law 2594 = .ok (.lcmp, 1) := by decide +kernel
theorem dL_law_2595 : decode cL_law 2595 = .ok (.ifCond .eq 5, 3) := by decide +kernel
theorem dL_law_2598 : decode cL_law 2598 = .ok (.iconst 0, 1) := by decide +kernel
theorem dL_law_2599 : decode cL_law 2599 = .ok (.ireturn, 1) := by decide +kernel
theorem dL_law_2600 : decode cL_law 2600 = .ok (.goto 873, 3) := by decide +kernel
set_option maxRecDepth 100000 in
set_option maxHeartbeats 4000000 in
theorem lc35_ok {G : GT} {b L A B : Nat} {xs : Nat → Int32} {μ : Mem} {i : Int32} {N : Mem → Prop} (C : PCx G cL_law 9 RL) (hX : Scr G b L xs) (hHR : HR G 11) (hN : ∀ μ : Mem, N μ → PW G A B 3473 [some (pW (.ref b)), some (pR 40 0), some (pR 50 0), some (pR 80 0), some (pR 81 0), some (pI i), none, none, none] [] μ) (hk : lc35_wp xs L μ i N) : PW G (A + 2) (B + 12) 2547 [some (pW (.ref b)), some (pR 40 0), some (pR 50 0), some (pR 80 0), some (pR 81 0), some (pI i), none, none, none] [] μ := by
  unfold lc35_wp at hk
  refine px_aload_n (i := 1) C dL_law_2547 rfl rfl ?_
  refine px_aload_nw (i := 0) C dL_law_2548 rfl rfl ?_
  refine px_iload (i := 5) C dL_law_2549 rfl ?_
  refine px_iconst (v := (1 : Int32)) C dL_law_2551 rfl ?_
  refine px_iadd C dL_law_2552 ?_
  obtain ⟨o1, hk⟩ := hk
  refine px_sld C hX dL_law_2553 o1 ?_
  refine px_aload_n (i := 3) C dL_law_2554 rfl rfl ?_
  refine px_callSH (h := 10) (rc' := A + 0) (rs' := B + 0) C (HR_le hHR (Nat.le_of_ble_eq_true rfl)) dL_law_2555 (gw5 200 rfl rfl) ms_L_extent (L_extent_ok (PCx_l C) (PCx_I C) hk) rfl rfl (Nat.le_of_ble_eq_true rfl) (Nat.le_of_ble_eq_true rfl) (by omega) (by omega) ?_
  intro r3 μ2 hk
  refine px_istore (i := 6) C dL_law_2558 (by decide) rfl ?_
  refine px_aload_n (i := 2) C dL_law_2560 rfl rfl ?_
  refine px_aload_nw (i := 0) C dL_law_2561 rfl rfl ?_
  refine px_iload (i := 5) C dL_law_2562 rfl ?_
  refine px_iconst (v := (1 : Int32)) C dL_law_2564 rfl ?_
  refine px_iadd C dL_law_2565 ?_
  obtain ⟨o4, hk⟩ := hk
  refine px_sld C hX dL_law_2566 o4 ?_
  refine px_callVNi (h := 6) (rc' := A + 0) (rs' := B + 0) C (HR_le hHR (Nat.le_of_ble_eq_true rfl)) dL_law_2567 (gw9 224 rfl rfl) mv_X9_extent (w9_extent_ok (PCx_l C) (PCx_I C) hk) rfl rfl rfl rfl rfl (Nat.le_of_ble_eq_true rfl) (Nat.le_of_ble_eq_true rfl) (by omega) (by omega) ?_
  intro r6 μ5 hk
  refine px_istore (i := 7) C dL_law_2570 (by decide) rfl ?_
  refine px_aload_n (i := 2) C dL_law_2572 rfl rfl ?_
  refine px_callVNi (h := 0) (rc' := A + 0) (rs' := B + 0) C (HR_le hHR (Nat.le_of_ble_eq_true rfl)) dL_law_2573 (gw8 123 rfl rfl) mv_X9_thrown (w9_thrown_ok (PCx_l C) (PCx_I C) hk) rfl rfl rfl rfl rfl (Nat.le_of_ble_eq_true rfl) (Nat.le_of_ble_eq_true rfl) (by omega) (by omega) ?_
  intro r8 μ7 hk
  refine px_iload (i := 6) C dL_law_2576 rfl ?_
  refine px_icmp_eq (tgt := 2583) C dL_law_2578 (by decide) (fun c13 => ?_) (fun c13 => ?_)
  · replace hk := hk.1 c13
    refine px_iload (i := 6) C dL_law_2583 rfl ?_
    refine px_if_ne (tgt := 2600) C dL_law_2585 (by decide) (fun c12 => ?_) (fun c12 => ?_)
    · replace hk := hk.1 c12
      refine px_goto (tgt := 3473) C dL_law_2600 (by decide) ?_
      exact PW_at (hN _ hk) (And.intro rfl (And.intro rfl (And.intro rfl (And.intro rfl (And.intro rfl (And.intro rfl trivial)))))) (by omega) (by omega)
    · replace hk := hk.2 c12
      refine px_aload_n (i := 3) C dL_law_2588 rfl rfl ?_
      refine px_iconst (v := (0 : Int32)) C dL_law_2589 rfl ?_
      obtain ⟨o9, hk⟩ := hk
      refine px_lald 5120 C dL_law_2590 rfl rfl rfl rfl o9 ?_
      refine px_iload (i := 7) C dL_law_2591 rfl ?_
      refine px_i2l C dL_law_2593 ?_
      obtain ⟨o10, hk⟩ := hk
      refine px_lcmp C dL_law_2594 o10 ?_
      refine px_if_eq (tgt := 2600) C dL_law_2595 (by decide) (fun c11 => ?_) (fun c11 => ?_)
      · replace hk := hk.1 c11
        refine px_goto (tgt := 3473) C dL_law_2600 (by decide) ?_
        exact PW_at (hN _ hk) (And.intro rfl (And.intro rfl (And.intro rfl (And.intro rfl (And.intro rfl (And.intro rfl trivial)))))) (by omega) (by omega)
      · replace hk := hk.2 c11
        refine px_iconst (v := (0 : Int32)) C dL_law_2598 rfl ?_
        exact hk.elim
  · replace hk := hk.2 c13
    refine px_iconst (v := (0 : Int32)) C dL_law_2581 rfl ?_
    exact hk.elim
