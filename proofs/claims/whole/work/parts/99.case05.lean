theorem dL_law_3158 : decode cL_law 3158 = .ok (.aload_n 1, 1) := by decide +kernel
theorem dL_law_3159 : decode cL_law 3159 = .ok (.aload_n 0, 1) := by decide +kernel
theorem dL_law_3160 : decode cL_law 3160 = .ok (.iload 5, 2) := by decide +kernel
theorem dL_law_3162 : decode cL_law 3162 = .ok (.iconst 1, 1) := by decide +kernel
theorem dL_law_3163 : decode cL_law 3163 = .ok (.iadd, 1) := by decide +kernel
theorem dL_law_3164 : decode cL_law 3164 = .ok (.iaload, 1) := by decide +kernel
theorem dL_law_3165 : decode cL_law 3165 = .ok (.i2c, 1) := by decide +kernel
theorem dL_law_3166 : decode cL_law 3166 = .ok (.aload_n 3, 1) := by decide +kernel
theorem dL_law_3167 : decode cL_law 3167 = .ok (.invokestatic 331, 3) := by decide +kernel
theorem dL_law_3170 : decode cL_law 3170 = .ok (.istore 6, 2) := by decide +kernel
theorem dL_law_3172 : decode cL_law 3172 = .ok (.aload_n 2, 1) := by decide +kernel
theorem dL_law_3173 : decode cL_law 3173 = .ok (.aload_n 0, 1) := by decide +kernel
theorem dL_law_3174 : decode cL_law 3174 = .ok (.iload 5, 2) := by decide +kernel
theorem dL_law_3176 : decode cL_law 3176 = .ok (.iconst 1, 1) := by decide +kernel
theorem dL_law_3177 : decode cL_law 3177 = .ok (.iadd, 1) := by decide +kernel
theorem dL_law_3178 : decode cL_law 3178 = .ok (.iaload, 1) := by decide +kernel
theorem dL_law_3179 : decode cL_law 3179 = .ok (.i2c, 1) := by decide +kernel
theorem dL_law_3180 : decode cL_law 3180 = .ok (.invokevirtual 334, 3) := by decide +kernel
theorem dL_law_3183 : decode cL_law 3183 = .ok (.istore 7, 2) := by decide +kernel
theorem dL_law_3185 : decode cL_law 3185 = .ok (.aload_n 2, 1) := by decide +kernel
theorem dL_law_3186 : decode cL_law 3186 = .ok (.invokevirtual 186, 3) := by decide +kernel
theorem dL_law_3189 : decode cL_law 3189 = .ok (.iload 6, 2) := by decide +kernel
theorem dL_law_3191 : decode cL_law 3191 = .ok (.if_icmp .eq 5, 3) := by decide +kernel
theorem dL_law_3194 : decode cL_law 3194 = .ok (.iconst 0, 1) := by decide +kernel
theorem dL_law_3195 : decode cL_law 3195 = .ok (.ireturn, 1) := by decide +kernel
theorem dL_law_3196 : decode cL_law 3196 = .ok (.iload 6, 2) := by decide +kernel
theorem dL_law_3198 : decode cL_law 3198 = .ok (.ifCond .ne 15, 3) := by decide +kernel
theorem dL_law_3201 : decode cL_law 3201 = .ok (.aload_n 3, 1) := by decide +kernel
theorem dL_law_3202 : decode cL_law 3202 = .ok (.iconst 0, 1) := by decide +kernel
theorem dL_law_3203 : decode cL_law 3203 = .ok (.laload, 1) := by decide +kernel
theorem dL_law_3204 : decode cL_law 3204 = .ok (.iload 7, 2) := by decide +kernel
theorem dL_law_3206 : decode cL_law 3206 = .ok (.i2l, 1) := by decide +kernel
theorem dL_law_3207 : decode cL_law 3207 = .ok (.lcmp, 1) := by decide +kernel
theorem dL_law_3208 : decode cL_law 3208 = .ok (.ifCond .eq 5, 3) := by decide +kernel
theorem dL_law_3211 : decode cL_law 3211 = .ok (.iconst 0, 1) := by decide +kernel
theorem dL_law_3212 : decode cL_law 3212 = .ok (.ireturn, 1) := by decide +kernel
theorem dL_law_3213 : decode cL_law 3213 = .ok (.goto 260, 3) := by decide +kernel
set_option maxRecDepth 100000 in
set_option maxHeartbeats 4000000 in
theorem lc45_ok {G : GT} {b L A B : Nat} {xs : Nat → Int32} {μ : Mem} {i : Int32} {N : Mem → Prop} (C : PCx G cL_law 9 RL) (hX : Scr G b L xs) (hHR : HR G 10) (hN : ∀ μ : Mem, N μ → PW G A B 3473 [some (pW (.ref b)), some (pR 40 0), some (pR 50 0), some (pR 80 0), some (pR 81 0), some (pI i), none, none, none] [] μ) (hk : lc45_wp xs L μ i N) : PW G (A + 1) (B + 6) 3158 [some (pW (.ref b)), some (pR 40 0), some (pR 50 0), some (pR 80 0), some (pR 81 0), some (pI i), none, none, none] [] μ := by
  unfold lc45_wp at hk
  refine px_aload_n (i := 1) C dL_law_3158 rfl rfl ?_
  refine px_aload_nw (i := 0) C dL_law_3159 rfl rfl ?_
  refine px_iload (i := 5) C dL_law_3160 rfl ?_
  refine px_iconst (v := (1 : Int32)) C dL_law_3162 rfl ?_
  refine px_iadd C dL_law_3163 ?_
  obtain ⟨o1, hk⟩ := hk
  refine px_sld C hX dL_law_3164 o1 ?_
  refine px_i2c C dL_law_3165 ?_
  refine px_aload_n (i := 3) C dL_law_3166 rfl rfl ?_
  refine px_callSH (h := 9) (rc' := A + 0) (rs' := B + 0) C (HR_le hHR (Nat.le_of_ble_eq_true rfl)) dL_law_3167 (gw6 113 rfl rfl) ms_L_append (L_append_ok (PCx_l C) (PCx_I C) hk) rfl rfl (Nat.le_of_ble_eq_true rfl) (Nat.le_of_ble_eq_true rfl) (by omega) (by omega) ?_
  intro r3 μ2 hk
  refine px_istore (i := 6) C dL_law_3170 (by decide) rfl ?_
  refine px_aload_n (i := 2) C dL_law_3172 rfl rfl ?_
  refine px_aload_nw (i := 0) C dL_law_3173 rfl rfl ?_
  refine px_iload (i := 5) C dL_law_3174 rfl ?_
  refine px_iconst (v := (1 : Int32)) C dL_law_3176 rfl ?_
  refine px_iadd C dL_law_3177 ?_
  obtain ⟨o4, hk⟩ := hk
  refine px_sld C hX dL_law_3178 o4 ?_
  refine px_i2c C dL_law_3179 ?_
  refine px_callVNi (h := 1) (rc' := A + 0) (rs' := B + 0) C (HR_le hHR (Nat.le_of_ble_eq_true rfl)) dL_law_3180 (gw10 43 rfl rfl) mv_X9_append (w9_append_ok (PCx_l C) (PCx_I C) hk) rfl rfl rfl rfl rfl (Nat.le_of_ble_eq_true rfl) (Nat.le_of_ble_eq_true rfl) (by omega) (by omega) ?_
  intro r6 μ5 hk
  refine px_istore (i := 7) C dL_law_3183 (by decide) rfl ?_
  refine px_aload_n (i := 2) C dL_law_3185 rfl rfl ?_
  refine px_callVNi (h := 0) (rc' := A + 0) (rs' := B + 0) C (HR_le hHR (Nat.le_of_ble_eq_true rfl)) dL_law_3186 (gw8 123 rfl rfl) mv_X9_thrown (w9_thrown_ok (PCx_l C) (PCx_I C) hk) rfl rfl rfl rfl rfl (Nat.le_of_ble_eq_true rfl) (Nat.le_of_ble_eq_true rfl) (by omega) (by omega) ?_
  intro r8 μ7 hk
  refine px_iload (i := 6) C dL_law_3189 rfl ?_
  refine px_icmp_eq (tgt := 3196) C dL_law_3191 (by decide) (fun c13 => ?_) (fun c13 => ?_)
  · replace hk := hk.1 c13
    refine px_iload (i := 6) C dL_law_3196 rfl ?_
    refine px_if_ne (tgt := 3213) C dL_law_3198 (by decide) (fun c12 => ?_) (fun c12 => ?_)
    · replace hk := hk.1 c12
      refine px_goto (tgt := 3473) C dL_law_3213 (by decide) ?_
      exact PW_at (hN _ hk) (And.intro rfl (And.intro rfl (And.intro rfl (And.intro rfl (And.intro rfl (And.intro rfl trivial)))))) (by omega) (by omega)
    · replace hk := hk.2 c12
      refine px_aload_n (i := 3) C dL_law_3201 rfl rfl ?_
      refine px_iconst (v := (0 : Int32)) C dL_law_3202 rfl ?_
      obtain ⟨o9, hk⟩ := hk
      refine px_lald 5120 C dL_law_3203 rfl rfl rfl rfl o9 ?_
      refine px_iload (i := 7) C dL_law_3204 rfl ?_
      refine px_i2l C dL_law_3206 ?_
      obtain ⟨o10, hk⟩ := hk
      refine px_lcmp C dL_law_3207 o10 ?_
      refine px_if_eq (tgt := 3213) C dL_law_3208 (by decide) (fun c11 => ?_) (fun c11 => ?_)
      · replace hk := hk.1 c11
        refine px_goto (tgt := 3473) C dL_law_3213 (by decide) ?_
        exact PW_at (hN _ hk) (And.intro rfl (And.intro rfl (And.intro rfl (And.intro rfl (And.intro rfl (And.intro rfl trivial)))))) (by omega) (by omega)
      · replace hk := hk.2 c11
        refine px_iconst (v := (0 : Int32)) C dL_law_3211 rfl ?_
        exact hk.elim
  · replace hk := hk.2 c13
    refine px_iconst (v := (0 : Int32)) C dL_law_3194 rfl ?_
    exact hk.elim
theorem dL_law_3216 : decode cL_law 3216 = .ok (.aload_n 1, 1) := by decide +kernel
theorem dL_law_3217 : decode cL_law 3217 = .ok (.aload_n 3, 1) := by decide +kernel
theorem dL_law_3218 : decode cL_law 3218 = .ok (.invokestatic 335, 3) := by decide +kernel
theorem dL_law_3221 : decode cL_law 3221 = .ok (.istore 6, 2) := by decide +kernel
theorem dL_law_3223 : decode cL_law 3223 = .ok (.aload_n 2, 1) := by decide +kernel
theorem dL_law_3224 : decode cL_law 3224 = .ok (.invokevirtual 338, 3) := by decide +kernel
theorem dL_law_3227 : decode cL_law 3227 = .ok (.istore 7, 2) := by decide +kernel
theorem dL_law_3229 : decode cL_law 3229 = .ok (.aload_n 2, 1) := by decide +kernel
theorem dL_law_3230 : decode cL_law 3230 = .ok (.invokevirtual 186, 3) := by decide +kernel
theorem dL_law_3233 : decode cL_law 3233 = .ok (.iload 6, 2) := by decide +kernel
theorem dL_law_3235 : decode cL_law 3235 = .ok (.if_icmp .eq 5, 3) := by decide +kernel
theorem dL_law_3238 : decode cL_law 3238 = .ok (.iconst 0, 1) := by decide +kernel
theorem dL_law_3239 : decode cL_law 3239 = .ok (.ireturn, 1) := by decide +kernel
theorem dL_law_3240 : decode cL_law 3240 = .ok (.iload 6, 2) := by decide +kernel
theorem dL_law_3242 : decode cL_law 3242 = .ok (.ifCond .ne 15, 3) := by decide +kernel
theorem dL_law_3245 : decode cL_law 3245 = .ok (.aload_n 3, 1) := by decide +kernel
theorem dL_law_3246 : decode cL_law 3246 = .ok (.iconst 0, 1) := by decide +kernel
theorem dL_law_3247 : decode cL_law 3247 = .ok (.laload, 1) := by decide +kernel
theorem dL_law_3248 : decode cL_law 3248 = .ok (.iload 7, 2) := by decide +kernel
theorem dL_law_3250 : decode cL_law 3250 = .ok (.i2l, 1) := by decide +kernel
theorem dL_law_3251 : decode cL_law 3251 = .ok (.lcmp, 1) := by decide +kernel
theorem dL_law_3252 : decode cL_law 3252 = .ok (.ifCond .eq 5, 3) := by decide +kernel
theorem dL_law_3255 : decode cL_law 3255 = .ok (.iconst 0, 1) := by decide +kernel
theorem dL_law_3256 : decode cL_law 3256 = .ok (.ireturn, 1) := by decide +kernel
theorem dL_law_3257 : decode cL_law 3257 = .ok (.goto 216, 3) := by decide +kernel
set_option maxRecDepth 100000 in
set_option maxHeartbeats 4000000 in
theorem lc46_ok {G : GT} {b L A B : Nat} {xs : Nat → Int32} {μ : Mem} {i : Int32} {N : Mem → Prop} (C : PCx G cL_law 9 RL) (hX : Scr G b L xs) (hHR : HR G 10) (hN : ∀ μ : Mem, N μ → PW G A B 3473 [some (pW (.ref b)), some (pR 40 0), some (pR 50 0), some (pR 80 0), some (pR 81 0), some (pI i), none, none, none] [] μ) (hk : lc46_wp xs L μ i N) : PW G (A + 1) (B + 6) 3216 [some (pW (.ref b)), some (pR 40 0), some (pR 50 0), some (pR 80 0), some (pR 81 0), some (pI i), none, none, none] [] μ := by
  unfold lc46_wp at hk
  refine px_aload_n (i := 1) C dL_law_3216 rfl rfl ?_
  refine px_aload_n (i := 3) C dL_law_3217 rfl rfl ?_
  refine px_callSH (h := 9) (rc' := A + 0) (rs' := B + 0) C (HR_le hHR (Nat.le_of_ble_eq_true rfl)) dL_law_3218 (gw6 127 rfl rfl) ms_L_read (L_read_ok (PCx_l C) (PCx_I C) hk) rfl rfl (Nat.le_of_ble_eq_true rfl) (Nat.le_of_ble_eq_true rfl) (by omega) (by omega) ?_
  intro r2 μ1 hk
  refine px_istore (i := 6) C dL_law_3221 (by decide) rfl ?_
  refine px_aload_n (i := 2) C dL_law_3223 rfl rfl ?_
  refine px_callVNi (h := 4) (rc' := A + 0) (rs' := B + 0) C (HR_le hHR (Nat.le_of_ble_eq_true rfl)) dL_law_3224 (gw10 47 rfl rfl) mv_X9_read (w9_read_ok (PCx_l C) (PCx_I C) hk) rfl rfl rfl rfl rfl (Nat.le_of_ble_eq_true rfl) (Nat.le_of_ble_eq_true rfl) (by omega) (by omega) ?_
  intro r4 μ3 hk
  refine px_istore (i := 7) C dL_law_3227 (by decide) rfl ?_
  refine px_aload_n (i := 2) C dL_law_3229 rfl rfl ?_
  refine px_callVNi (h := 0) (rc' := A + 0) (rs' := B + 0) C (HR_le hHR (Nat.le_of_ble_eq_true rfl)) dL_law_3230 (gw8 123 rfl rfl) mv_X9_thrown (w9_thrown_ok (PCx_l C) (PCx_I C) hk) rfl rfl rfl rfl rfl (Nat.le_of_ble_eq_true rfl) (Nat.le_of_ble_eq_true rfl) (by omega) (by omega) ?_
  intro r6 μ5 hk
  refine px_iload (i := 6) C dL_law_3233 rfl ?_
  refine px_icmp_eq (tgt := 3240) C dL_law_3235 (by decide) (fun c11 => ?_) (fun c11 => ?_)
  · replace hk := hk.1 c11
    refine px_iload (i := 6) C dL_law_3240 rfl ?_
    refine px_if_ne (tgt := 3257) C dL_law_3242 (by decide) (fun c10 => ?_) (fun c10 => ?_)
    · replace hk := hk.1 c10
      refine px_goto (tgt := 3473) C dL_law_3257 (by decide) ?_
      exact PW_at (hN _ hk) (And.intro rfl (And.intro rfl (And.intro rfl (And.intro rfl (And.intro rfl (And.intro rfl trivial)))))) (by omega) (by omega)
    · replace hk := hk.2 c10
      refine px_aload_n (i := 3) C dL_law_3245 rfl rfl ?_
      refine px_iconst (v := (0 : Int32)) C dL_law_3246 rfl ?_
      obtain ⟨o7, hk⟩ := hk
      refine px_lald 5120 C dL_law_3247 rfl rfl rfl rfl o7 ?_
      refine px_iload (i := 7) C dL_law_3248 rfl ?_
      refine px_i2l C dL_law_3250 ?_
      obtain ⟨o8, hk⟩ := hk
      refine px_lcmp C dL_law_3251 o8 ?_
      refine px_if_eq (tgt := 3257) C dL_law_3252 (by decide) (fun c9 => ?_) (fun c9 => ?_)
      · replace hk := hk.1 c9
        refine px_goto (tgt := 3473) C dL_law_3257 (by decide) ?_
        exact PW_at (hN _ hk) (And.intro rfl (And.intro rfl (And.intro rfl (And.intro rfl (And.intro rfl (And.intro rfl trivial)))))) (by omega) (by omega)
      · replace hk := hk.2 c9
        refine px_iconst (v := (0 : Int32)) C dL_law_3255 rfl ?_
        exact hk.elim
  · replace hk := hk.2 c11
    refine px_iconst (v := (0 : Int32)) C dL_law_3238 rfl ?_
    exact hk.elim
theorem dL_law_3260 : decode cL_law 3260 = .ok (.aload_n 1, 1) := by decide +kernel
theorem dL_law_3261 : decode cL_law 3261 = .ok (.aload_n 3, 1) := by decide +kernel
theorem dL_law_3262 : decode cL_law 3262 = .ok (.invokestatic 339, 3) := by decide +kernel
theorem dL_law_3265 : decode cL_law 3265 = .ok (.istore 6, 2) := by decide +kernel
theorem dL_law_3267 : decode cL_law 3267 = .ok (.aload_n 2, 1) := by decide +kernel
theorem dL_law_3268 : decode cL_law 3268 = .ok (.invokevirtual 341, 3) := by decide +kernel
theorem dL_law_3271 : decode cL_law 3271 = .ok (.istore 7, 2) := by decide +kernel
theorem dL_law_3273 : decode cL_law 3273 = .ok (.aload_n 2, 1) := by decide +kernel
theorem dL_law_3274 : decode cL_law 3274 = .ok (.invokevirtual 186, 3) := by decide +kernel
theorem dL_law_3277 : decode cL_law 3277 = .ok (.iload 6, 2) := by decide +kernel
theorem dL_law_3279 : decode cL_law 3279 = .ok (.if_icmp .eq 5, 3) := by decide +kernel
theorem dL_law_3282 : decode cL_law 3282 = .ok (.iconst 0, 1) := by decide +kernel
theorem dL_law_3283 : decode cL_law 3283 = .ok (.ireturn, 1) := by decide +kernel
theorem dL_law_3284 : decode cL_law 3284 = .ok (.iload 6, 2) := by decide +kernel
theorem dL_law_3286 : decode cL_law 3286 = .ok (.ifCond .ne 15, 3) := by decide +kernel
theorem dL_law_3289 : decode cL_law 3289 = .ok (.aload_n 3, 1) := by decide +kernel
theorem dL_law_3290 : decode cL_law 3290 = .ok (.iconst 0, 1) := by decide +kernel
theorem dL_law_3291 : decode cL_law 3291 = .ok (.laload, 1) := by decide +kernel
theorem dL_law_3292 : decode cL_law 3292 = .ok (.iload 7, 2) := by decide +kernel
theorem dL_law_3294 : decode cL_law 3294 = .ok (.i2l, 1) := by decide +kernel
theorem dL_law_3295 : decode cL_law 3295 = .ok (.lcmp, 1) := by decide +kernel
theorem dL_law_3296 : decode cL_law 3296 = .ok (.ifCond .eq 5, 3) := by decide +kernel
theorem dL_law_3299 : decode cL_law 3299 = .ok (.iconst 0, 1) := by decide +kernel
theorem dL_law_3300 : decode cL_law 3300 = .ok (.ireturn, 1) := by decide +kernel
theorem dL_law_3301 : decode cL_law 3301 = .ok (.goto 172, 3) := by decide +kernel
set_option maxRecDepth 100000 in
set_option maxHeartbeats 4000000 in
theorem lc47_ok {G : GT} {b L A B : Nat} {xs : Nat → Int32} {μ : Mem} {i : Int32} {N : Mem → Prop} (C : PCx G cL_law 9 RL) (hX : Scr G b L xs) (hHR : HR G 10) (hN : ∀ μ : Mem, N μ → PW G A B 3473 [some (pW (.ref b)), some (pR 40 0), some (pR 50 0), some (pR 80 0), some (pR 81 0), some (pI i), none, none, none] [] μ) (hk : lc47_wp xs L μ i N) : PW G (A + 1) (B + 6) 3260 [some (pW (.ref b)), some (pR 40 0), some (pR 50 0), some (pR 80 0), some (pR 81 0), some (pI i), none, none, none] [] μ := by
  unfold lc47_wp at hk
  refine px_aload_n (i := 1) C dL_law_3260 rfl rfl ?_
  refine px_aload_n (i := 3) C dL_law_3261 rfl rfl ?_
  refine px_callSH (h := 9) (rc' := A + 0) (rs' := B + 0) C (HR_le hHR (Nat.le_of_ble_eq_true rfl)) dL_law_3262 (gw6 167 rfl rfl) ms_L_errorPosition (L_errorPosition_ok (PCx_l C) (PCx_I C) hk) rfl rfl (Nat.le_of_ble_eq_true rfl) (Nat.le_of_ble_eq_true rfl) (by omega) (by omega) ?_
  intro r2 μ1 hk
  refine px_istore (i := 6) C dL_law_3265 (by decide) rfl ?_
  refine px_aload_n (i := 2) C dL_law_3267 rfl rfl ?_
  refine px_callVNi (h := 1) (rc' := A + 0) (rs' := B + 0) C (HR_le hHR (Nat.le_of_ble_eq_true rfl)) dL_law_3268 (gw10 71 rfl rfl) mv_X9_errorPosition (w9_errorPosition_ok (PCx_l C) (PCx_I C) hk) rfl rfl rfl rfl rfl (Nat.le_of_ble_eq_true rfl) (Nat.le_of_ble_eq_true rfl) (by omega) (by omega) ?_
  intro r4 μ3 hk
  refine px_istore (i := 7) C dL_law_3271 (by decide) rfl ?_
  refine px_aload_n (i := 2) C dL_law_3273 rfl rfl ?_
  refine px_callVNi (h := 0) (rc' := A + 0) (rs' := B + 0) C (HR_le hHR (Nat.le_of_ble_eq_true rfl)) dL_law_3274 (gw8 123 rfl rfl) mv_X9_thrown (w9_thrown_ok (PCx_l C) (PCx_I C) hk) rfl rfl rfl rfl rfl (Nat.le_of_ble_eq_true rfl) (Nat.le_of_ble_eq_true rfl) (by omega) (by omega) ?_
  intro r6 μ5 hk
  refine px_iload (i := 6) C dL_law_3277 rfl ?_
  refine px_icmp_eq (tgt := 3284) C dL_law_3279 (by decide) (fun c11 => ?_) (fun c11 => ?_)
  · replace hk := hk.1 c11
    refine px_iload (i := 6) C dL_law_3284 rfl ?_
    refine px_if_ne (tgt := 3301) C dL_law_3286 (by decide) (fun c10 => ?_) (fun c10 => ?_)
    · replace hk := hk.1 c10
      refine px_goto (tgt := 3473) C dL_law_3301 (by decide) ?_
      exact PW_at (hN _ hk) (And.intro rfl (And.intro rfl (And.intro rfl (And.intro rfl (And.intro rfl (And.intro rfl trivial)))))) (by omega) (by omega)
    · replace hk := hk.2 c10
      refine px_aload_n (i := 3) C dL_law_3289 rfl rfl ?_
      refine px_iconst (v := (0 : Int32)) C dL_law_3290 rfl ?_
      obtain ⟨o7, hk⟩ := hk
      refine px_lald 5120 C dL_law_3291 rfl rfl rfl rfl o7 ?_
      refine px_iload (i := 7) C dL_law_3292 rfl ?_
      refine px_i2l C dL_law_3294 ?_
      obtain ⟨o8, hk⟩ := hk
      refine px_lcmp C dL_law_3295 o8 ?_
      refine px_if_eq (tgt := 3301) C dL_law_3296 (by decide) (fun c9 => ?_) (fun c9 => ?_)
      · replace hk := hk.1 c9
        refine px_goto (tgt := 3473) C dL_law_3301 (by decide) ?_
        exact PW_at (hN _ hk) (And.intro rfl (And.intro rfl (And.intro rfl (And.intro rfl (And.intro rfl (And.intro rfl trivial)))))) (by omega) (by omega)
      · replace hk := hk.2 c9
        refine px_iconst (v := (0 : Int32)) C dL_law_3299 rfl ?_
        exact hk.elim
  · replace hk := hk.2 c11
    refine px_iconst (v := (0 : Int32)) C dL_law_3282 rfl ?_
    exact hk.elim
theorem dL_law_3372 : decode cL_law 3372 = .ok (.aload_n 1, 1) := by decide +kernel
theorem dL_law_3373 : decode cL_law 3373 = .ok (.aload_n 3, 1) := by decide +kernel
theorem dL_law_3374 : decode cL_law 3374 = .ok (.invokestatic 345, 3) := by decide +kernel
theorem dL_law_3377 : decode cL_law 3377 = .ok (.istore 6, 2) := by decide +kernel
theorem dL_law_3379 : decode cL_law 3379 = .ok (.aload_n 2, 1) := by decide +kernel
theorem dL_law_3380 : decode cL_law 3380 = .ok (.invokevirtual 347, 3) := by decide +kernel
theorem dL_law_3383 : decode cL_law 3383 = .ok (.istore 7, 2) := by decide +kernel
theorem dL_law_3385 : decode cL_law 3385 = .ok (.aload_n 2, 1) := by decide +kernel
theorem dL_law_3386 : decode cL_law 3386 = .ok (.invokevirtual 186, 3) := by decide +kernel
theorem dL_law_3389 : decode cL_law 3389 = .ok (.iload 6, 2) := by decide +kernel
theorem dL_law_3391 : decode cL_law 3391 = .ok (.if_icmp .eq 5, 3) := by decide +kernel
theorem dL_law_3394 : decode cL_law 3394 = .ok (.iconst 0, 1) := by decide +kernel
theorem dL_law_3395 : decode cL_law 3395 = .ok (.ireturn, 1) := by decide +kernel
theorem dL_law_3396 : decode cL_law 3396 = .ok (.iload 6, 2) := by decide +kernel
theorem dL_law_3398 : decode cL_law 3398 = .ok (.ifCond .ne 15, 3) := by decide +kernel
theorem dL_law_3401 : decode cL_law 3401 = .ok (.aload_n 3, 1) := by decide +kernel
theorem dL_law_3402 : decode cL_law 3402 = .ok (.iconst 0, 1) := by decide +kernel
theorem dL_law_3403 : decode cL_law 3403 = .ok (.laload, 1) := by decide +kernel
theorem dL_law_3404 : decode cL_law 3404 = .ok (.iload 7, 2) := by decide +kernel
theorem dL_law_3406 : decode cL_law 3406 = .ok (.i2l, 1) := by decide +kernel
theorem dL_law_3407 : decode cL_law 3407 = .ok (.lcmp, 1) := by decide +kernel
theorem dL_law_3408 : decode cL_law 3408 = .ok (.ifCond .eq 5, 3) := by decide +kernel
theorem dL_law_3411 : decode cL_law 3411 = .ok (.iconst 0, 1) := by decide +kernel
theorem dL_law_3412 : decode cL_law 3412 = .ok (.ireturn, 1) := by decide +kernel
theorem dL_law_3413 : decode cL_law 3413 = .ok (.goto 60, 3) := by decide +kernel
set_option maxRecDepth 100000 in
set_option maxHeartbeats 4000000 in
theorem lc49_ok {G : GT} {b L A B : Nat} {xs : Nat → Int32} {μ : Mem} {i : Int32} {N : Mem → Prop} (C : PCx G cL_law 9 RL) (hX : Scr G b L xs) (hHR : HR G 10) (hN : ∀ μ : Mem, N μ → PW G A B 3473 [some (pW (.ref b)), some (pR 40 0), some (pR 50 0), some (pR 80 0), some (pR 81 0), some (pI i), none, none, none] [] μ) (hk : lc49_wp xs L μ i N) : PW G (A + 1) (B + 6) 3372 [some (pW (.ref b)), some (pR 40 0), some (pR 50 0), some (pR 80 0), some (pR 81 0), some (pI i), none, none, none] [] μ := by
  unfold lc49_wp at hk
  refine px_aload_n (i := 1) C dL_law_3372 rfl rfl ?_
  refine px_aload_n (i := 3) C dL_law_3373 rfl rfl ?_
  refine px_callSH (h := 9) (rc' := A + 0) (rs' := B + 0) C (HR_le hHR (Nat.le_of_ble_eq_true rfl)) dL_law_3374 (gw7 234 rfl rfl) ms_L_undo (L_undo_ok (PCx_l C) (PCx_I C) hk) rfl rfl (Nat.le_of_ble_eq_true rfl) (Nat.le_of_ble_eq_true rfl) (by omega) (by omega) ?_
  intro r2 μ1 hk
  refine px_istore (i := 6) C dL_law_3377 (by decide) rfl ?_
  refine px_aload_n (i := 2) C dL_law_3379 rfl rfl ?_
  refine px_callVNi (h := 1) (rc' := A + 0) (rs' := B + 0) C (HR_le hHR (Nat.le_of_ble_eq_true rfl)) dL_law_3380 (gw10 87 rfl rfl) mv_X9_undo (w9_undo_ok (PCx_l C) (PCx_I C) hk) rfl rfl rfl rfl rfl (Nat.le_of_ble_eq_true rfl) (Nat.le_of_ble_eq_true rfl) (by omega) (by omega) ?_
  intro r4 μ3 hk
  refine px_istore (i := 7) C dL_law_3383 (by decide) rfl ?_
  refine px_aload_n (i := 2) C dL_law_3385 rfl rfl ?_
  refine px_callVNi (h := 0) (rc' := A + 0) (rs' := B + 0) C (HR_le hHR (Nat.le_of_ble_eq_true rfl)) dL_law_3386 (gw8 123 rfl rfl) mv_X9_thrown (w9_thrown_ok (PCx_l C) (PCx_I C) hk) rfl rfl rfl rfl rfl (Nat.le_of_ble_eq_true rfl) (Nat.le_of_ble_eq_true rfl) (by omega) (by omega) ?_
  intro r6 μ5 hk
  refine px_iload (i := 6) C dL_law_3389 rfl ?_
  refine px_icmp_eq (tgt := 3396) C dL_law_3391 (by decide) (fun c11 => ?_) (fun c11 => ?_)
  · replace hk := hk.1 c11
    refine px_iload (i := 6) C dL_law_3396 rfl ?_
    refine px_if_ne (tgt := 3413) C dL_law_3398 (by decide) (fun c10 => ?_) (fun c10 => ?_)
    · replace hk := hk.1 c10
      refine px_goto (tgt := 3473) C dL_law_3413 (by decide) ?_
      exact PW_at (hN _ hk) (And.intro rfl (And.intro rfl (And.intro rfl (And.intro rfl (And.intro rfl (And.intro rfl trivial)))))) (by omega) (by omega)
    · replace hk := hk.2 c10
      refine px_aload_n (i := 3) C dL_law_3401 rfl rfl ?_
      refine px_iconst (v := (0 : Int32)) C dL_law_3402 rfl ?_
      obtain ⟨o7, hk⟩ := hk
      refine px_lald 5120 C dL_law_3403 rfl rfl rfl rfl o7 ?_
      refine px_iload (i := 7) C dL_law_3404 rfl ?_
      refine px_i2l C dL_law_3406 ?_
      obtain ⟨o8, hk⟩ := hk
      refine px_lcmp C dL_law_3407 o8 ?_
      refine px_if_eq (tgt := 3413) C dL_law_3408 (by decide) (fun c9 => ?_) (fun c9 => ?_)
      · replace hk := hk.1 c9
        refine px_goto (tgt := 3473) C dL_law_3413 (by decide) ?_
        exact PW_at (hN _ hk) (And.intro rfl (And.intro rfl (And.intro rfl (And.intro rfl (And.intro rfl (And.intro rfl trivial)))))) (by omega) (by omega)
      · replace hk := hk.2 c9
        refine px_iconst (v := (0 : Int32)) C dL_law_3411 rfl ?_
        exact hk.elim
  · replace hk := hk.2 c11
    refine px_iconst (v := (0 : Int32)) C dL_law_3394 rfl ?_
    exact hk.elim
theorem dL_law_3416 : decode cL_law 3416 = .ok (.aload_n 1, 1) := by decide +kernel
theorem dL_law_3417 : decode cL_law 3417 = .ok (.invokevirtual 348, 3) := by decide +kernel
theorem dL_law_3420 : decode cL_law 3420 = .ok (.aload_n 2, 1) := by decide +kernel
theorem dL_law_3421 : decode cL_law 3421 = .ok (.invokevirtual 351, 3) := by decide +kernel
theorem dL_law_3424 : decode cL_law 3424 = .ok (.if_icmp .eq 49, 3) := by decide +kernel
theorem dL_law_3427 : decode cL_law 3427 = .ok (.iconst 0, 1) := by decide +kernel
theorem dL_law_3428 : decode cL_law 3428 = .ok (.ireturn, 1) := by decide +kernel
set_option maxRecDepth 100000 in
set_option maxHeartbeats 4000000 in
theorem lc50_ok {G : GT} {b L A B : Nat} {xs : Nat → Int32} {μ : Mem} {i : Int32} {N : Mem → Prop} (C : PCx G cL_law 9 RL) (hX : Scr G b L xs) (hHR : HR G 5) (hN : ∀ μ : Mem, N μ → PW G A B 3473 [some (pW (.ref b)), some (pR 40 0), some (pR 50 0), some (pR 80 0), some (pR 81 0), some (pI i), none, none, none] [] μ) (hk : lc50_wp xs L μ i N) : PW G (A + 0) (B + 0) 3416 [some (pW (.ref b)), some (pR 40 0), some (pR 50 0), some (pR 80 0), some (pR 81 0), some (pI i), none, none, none] [] μ := by
  unfold lc50_wp at hk
  refine px_aload_n (i := 1) C dL_law_3416 rfl rfl ?_
  refine px_callVNi (h := 4) (rc' := A + 0) (rs' := B + 0) C (HR_le hHR (Nat.le_of_ble_eq_true rfl)) dL_law_3417 (gw3 32 rfl rfl) mv_X8_save (w8_save_ok (PCx_l C) (PCx_I C) hk) rfl rfl rfl rfl rfl (Nat.le_of_ble_eq_true rfl) (Nat.le_of_ble_eq_true rfl) (by omega) (by omega) ?_
  intro r2 μ1 hk
  refine px_aload_n (i := 2) C dL_law_3420 rfl rfl ?_
  refine px_callVNi (h := 0) (rc' := A + 0) (rs' := B + 0) C (HR_le hHR (Nat.le_of_ble_eq_true rfl)) dL_law_3421 (gw10 91 rfl rfl) mv_X9_save (w9_save_ok (PCx_l C) (PCx_I C) hk) rfl rfl rfl rfl rfl (Nat.le_of_ble_eq_true rfl) (Nat.le_of_ble_eq_true rfl) (by omega) (by omega) ?_
  intro r4 μ3 hk
  refine px_icmp_eq (tgt := 3473) C dL_law_3424 (by decide) (fun c5 => ?_) (fun c5 => ?_)
  · replace hk := hk.1 c5
    exact PW_at (hN _ hk) (And.intro rfl (And.intro rfl (And.intro rfl (And.intro rfl (And.intro rfl (And.intro rfl trivial)))))) (by omega) (by omega)
  · replace hk := hk.2 c5
    refine px_iconst (v := (0 : Int32)) C dL_law_3427 rfl ?_
    exact hk.elim
theorem dL_law_3429 : decode cL_law 3429 = .ok (.aload_n 1, 1) := by decide +kernel
theorem dL_law_3430 : decode cL_law 3430 = .ok (.aload_n 3, 1) := by decide +kernel
theorem dL_law_3431 : decode cL_law 3431 = .ok (.invokestatic 352, 3) := by decide +kernel
theorem dL_law_3434 : decode cL_law 3434 = .ok (.istore 6, 2) := by decide +kernel
theorem dL_law_3436 : decode cL_law 3436 = .ok (.aload_n 2, 1) := by decide +kernel
theorem dL_law_3437 : decode cL_law 3437 = .ok (.invokevirtual 354, 3) := by decide +kernel
theorem dL_law_3440 : decode cL_law 3440 = .ok (.istore 7, 2) := by decide +kernel
theorem dL_law_3442 : decode cL_law 3442 = .ok (.aload_n 2, 1) := by decide +kernel
theorem dL_law_3443 : decode cL_law 3443 = .ok (.invokevirtual 186, 3) := by decide +kernel
theorem dL_law_3446 : decode cL_law 3446 = .ok (.iload 6, 2) := by decide +kernel
theorem dL_law_3448 : decode cL_law 3448 = .ok (.if_icmp .eq 5, 3) := by decide +kernel
theorem dL_law_3451 : decode cL_law 3451 = .ok (.iconst 0, 1) := by decide +kernel
theorem dL_law_3452 : decode cL_law 3452 = .ok (.ireturn, 1) := by decide +kernel
theorem dL_law_3453 : decode cL_law 3453 = .ok (.iload 6, 2) := by decide +kernel
theorem dL_law_3455 : decode cL_law 3455 = .ok (.ifCond .ne 15, 3) := by decide +kernel
theorem dL_law_3458 : decode cL_law 3458 = .ok (.aload_n 3, 1) := by decide +kernel
theorem dL_law_3459 : decode cL_law 3459 = .ok (.iconst 0, 1) := by decide +kernel
theorem dL_law_3460 : decode cL_law 3460 = .ok (.laload, 1) := by decide +kernel
theorem dL_law_3461 : decode cL_law 3461 = .ok (.iload 7, 2) := by decide +kernel
theorem dL_law_3463 : decode cL_law 3463 = .ok (.i2l, 1) := by decide +kernel
theorem dL_law_3464 : decode cL_law 3464 = .ok (.lcmp, 1) := by decide +kernel
theorem dL_law_3465 : decode cL_law 3465 = .ok (.ifCond .eq 5, 3) := by decide +kernel
theorem dL_law_3468 : decode cL_law 3468 = .ok (.iconst 0, 1) := by decide +kernel
theorem dL_law_3469 : decode cL_law 3469 = .ok (.ireturn, 1) := by decide +kernel
theorem dL_law_3470 : decode cL_law 3470 = .ok (.goto 3, 3) := by decide +kernel
set_option maxRecDepth 100000 in
set_option maxHeartbeats 4000000 in
theorem lc51_ok {G : GT} {b L A B : Nat} {xs : Nat → Int32} {μ : Mem} {i : Int32} {N : Mem → Prop} (C : PCx G cL_law 9 RL) (hX : Scr G b L xs) (hHR : HR G 10) (hN : ∀ μ : Mem, N μ → PW G A B 3473 [some (pW (.ref b)), some (pR 40 0), some (pR 50 0), some (pR 80 0), some (pR 81 0), some (pI i), none, none, none] [] μ) (hk : lc51_wp xs L μ i N) : PW G (A + 1) (B + 6) 3429 [some (pW (.ref b)), some (pR 40 0), some (pR 50 0), some (pR 80 0), some (pR 81 0), some (pI i), none, none, none] [] μ := by
  unfold lc51_wp at hk
  refine px_aload_n (i := 1) C dL_law_3429 rfl rfl ?_
  refine px_aload_n (i := 3) C dL_law_3430 rfl rfl ?_
  refine px_callSH (h := 9) (rc' := A + 0) (rs' := B + 0) C (HR_le hHR (Nat.le_of_ble_eq_true rfl)) dL_law_3431 (gw8 6 rfl rfl) ms_L_restore (L_restore_ok (PCx_l C) (PCx_I C) hk) rfl rfl (Nat.le_of_ble_eq_true rfl) (Nat.le_of_ble_eq_true rfl) (by omega) (by omega) ?_
  intro r2 μ1 hk
  refine px_istore (i := 6) C dL_law_3434 (by decide) rfl ?_
  refine px_aload_n (i := 2) C dL_law_3436 rfl rfl ?_
  refine px_callVNi (h := 1) (rc' := A + 0) (rs' := B + 0) C (HR_le hHR (Nat.le_of_ble_eq_true rfl)) dL_law_3437 (gw10 95 rfl rfl) mv_X9_restore (w9_restore_ok (PCx_l C) (PCx_I C) hk) rfl rfl rfl rfl rfl (Nat.le_of_ble_eq_true rfl) (Nat.le_of_ble_eq_true rfl) (by omega) (by omega) ?_
  intro r4 μ3 hk
  refine px_istore (i := 7) C dL_law_3440 (by decide) rfl ?_
  refine px_aload_n (i := 2) C dL_law_3442 rfl rfl ?_
  refine px_callVNi (h := 0) (rc' := A + 0) (rs' := B + 0) C (HR_le hHR (Nat.le_of_ble_eq_true rfl)) dL_law_3443 (gw8 123 rfl rfl) mv_X9_thrown (w9_thrown_ok (PCx_l C) (PCx_I C) hk) rfl rfl rfl rfl rfl (Nat.le_of_ble_eq_true rfl) (Nat.le_of_ble_eq_true rfl) (by omega) (by omega) ?_
  intro r6 μ5 hk
  refine px_iload (i := 6) C dL_law_3446 rfl ?_
  refine px_icmp_eq (tgt := 3453) C dL_law_3448 (by decide) (fun c11 => ?_) (fun c11 => ?_)
  · replace hk := hk.1 c11
    refine px_iload (i := 6) C dL_law_3453 rfl ?_
    refine px_if_ne (tgt := 3470) C dL_law_3455 (by decide) (fun c10 => ?_) (fun c10 => ?_)
    · replace hk := hk.1 c10
      refine px_goto (tgt := 3473) C dL_law_3470 (by decide) ?_
      exact PW_at (hN _ hk) (And.intro rfl (And.intro rfl (And.intro rfl (And.intro rfl (And.intro rfl (And.intro rfl trivial)))))) (by omega) (by omega)
    · replace hk := hk.2 c10
      refine px_aload_n (i := 3) C dL_law_3458 rfl rfl ?_
      refine px_iconst (v := (0 : Int32)) C dL_law_3459 rfl ?_
      obtain ⟨o7, hk⟩ := hk
      refine px_lald 5120 C dL_law_3460 rfl rfl rfl rfl o7 ?_
      refine px_iload (i := 7) C dL_law_3461 rfl ?_
      refine px_i2l C dL_law_3463 ?_
      obtain ⟨o8, hk⟩ := hk
      refine px_lcmp C dL_law_3464 o8 ?_
      refine px_if_eq (tgt := 3470) C dL_law_3465 (by decide) (fun c9 => ?_) (fun c9 => ?_)
      · replace hk := hk.1 c9
        refine px_goto (tgt := 3473) C dL_law_3470 (by decide) ?_
        exact PW_at (hN _ hk) (And.intro rfl (And.intro rfl (And.intro rfl (And.intro rfl (And.intro rfl (And.intro rfl trivial)))))) (by omega) (by omega)
      · replace hk := hk.2 c9
        refine px_iconst (v := (0 : Int32)) C dL_law_3468 rfl ?_
        exact hk.elim
  · replace hk := hk.2 c11
    refine px_iconst (v := (0 : Int32)) C dL_law_3451 rfl ?_
    exact hk.elim
