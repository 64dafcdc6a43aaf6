-- the law's describe and its case (gen/mk_l48.py)
theorem dL_describe_0 : decode cL_describe 0 = .ok (.aload_n 3, 1) := by decide +kernel
theorem dL_describe_1 : decode cL_describe 1 = .ok (.iconst 0, 1) := by decide +kernel
theorem dL_describe_2 : decode cL_describe 2 = .ok (.aload_n 0, 1) := by decide +kernel
theorem dL_describe_3 : decode cL_describe 3 = .ok (.iload_n 1, 1) := by decide +kernel
theorem dL_describe_4 : decode cL_describe 4 = .ok (.iload_n 2, 1) := by decide +kernel
theorem dL_describe_5 : decode cL_describe 5 = .ok (.invokevirtual 163, 3) := by decide +kernel
theorem dL_describe_8 : decode cL_describe 8 = .ok (.i2l, 1) := by decide +kernel
theorem dL_describe_9 : decode cL_describe 9 = .ok (.lastore, 1) := by decide +kernel
theorem dL_describe_10 : decode cL_describe 10 = .ok (.goto 11, 3) := by decide +kernel
theorem dL_describe_13 : decode cL_describe 13 = .ok (.astore 4, 2) := by decide +kernel
theorem dL_describe_15 : decode cL_describe 15 = .ok (.iconst 1, 1) := by decide +kernel
theorem dL_describe_16 : decode cL_describe 16 = .ok (.ireturn, 1) := by decide +kernel
theorem dL_describe_17 : decode cL_describe 17 = .ok (.astore 4, 2) := by decide +kernel
theorem dL_describe_19 : decode cL_describe 19 = .ok (.iconst 2, 1) := by decide +kernel
theorem dL_describe_20 : decode cL_describe 20 = .ok (.ireturn, 1) := by decide +kernel
theorem dL_describe_21 : decode cL_describe 21 = .ok (.iconst 0, 1) := by decide +kernel
theorem dL_describe_22 : decode cL_describe 22 = .ok (.ireturn, 1) := by decide +kernel
theorem dL_law_3304 : decode cL_law 3304 = .ok (.aload_n 1, 1) := by decide +kernel
theorem dL_law_3305 : decode cL_law 3305 = .ok (.aload_n 0, 1) := by decide +kernel
theorem dL_law_3306 : decode cL_law 3306 = .ok (.iload 5, 2) := by decide +kernel
theorem dL_law_3308 : decode cL_law 3308 = .ok (.iconst 1, 1) := by decide +kernel
theorem dL_law_3309 : decode cL_law 3309 = .ok (.iadd, 1) := by decide +kernel
theorem dL_law_3310 : decode cL_law 3310 = .ok (.iaload, 1) := by decide +kernel
theorem dL_law_3311 : decode cL_law 3311 = .ok (.aload_n 0, 1) := by decide +kernel
theorem dL_law_3312 : decode cL_law 3312 = .ok (.iload 5, 2) := by decide +kernel
theorem dL_law_3314 : decode cL_law 3314 = .ok (.iconst 2, 1) := by decide +kernel
theorem dL_law_3315 : decode cL_law 3315 = .ok (.iadd, 1) := by decide +kernel
theorem dL_law_3316 : decode cL_law 3316 = .ok (.iaload, 1) := by decide +kernel
theorem dL_law_3317 : decode cL_law 3317 = .ok (.aload_n 3, 1) := by decide +kernel
theorem dL_law_3318 : decode cL_law 3318 = .ok (.invokestatic 342, 3) := by decide +kernel
theorem dL_law_3321 : decode cL_law 3321 = .ok (.istore 6, 2) := by decide +kernel
theorem dL_law_3323 : decode cL_law 3323 = .ok (.aload_n 2, 1) := by decide +kernel
theorem dL_law_3324 : decode cL_law 3324 = .ok (.aload_n 0, 1) := by decide +kernel
theorem dL_law_3325 : decode cL_law 3325 = .ok (.iload 5, 2) := by decide +kernel
theorem dL_law_3327 : decode cL_law 3327 = .ok (.iconst 1, 1) := by decide +kernel
theorem dL_law_3328 : decode cL_law 3328 = .ok (.iadd, 1) := by decide +kernel
theorem dL_law_3329 : decode cL_law 3329 = .ok (.iaload, 1) := by decide +kernel
theorem dL_law_3330 : decode cL_law 3330 = .ok (.aload_n 0, 1) := by decide +kernel
theorem dL_law_3331 : decode cL_law 3331 = .ok (.iload 5, 2) := by decide +kernel
theorem dL_law_3333 : decode cL_law 3333 = .ok (.iconst 2, 1) := by decide +kernel
theorem dL_law_3334 : decode cL_law 3334 = .ok (.iadd, 1) := by decide +kernel
theorem dL_law_3335 : decode cL_law 3335 = .ok (.iaload, 1) := by decide +kernel
theorem dL_law_3336 : decode cL_law 3336 = .ok (.invokevirtual 344, 3) := by decide +kernel
theorem dL_law_3339 : decode cL_law 3339 = .ok (.istore 7, 2) := by decide +kernel
theorem dL_law_3341 : decode cL_law 3341 = .ok (.aload_n 2, 1) := by decide +kernel
theorem dL_law_3342 : decode cL_law 3342 = .ok (.invokevirtual 186, 3) := by decide +kernel
theorem dL_law_3345 : decode cL_law 3345 = .ok (.iload 6, 2) := by decide +kernel
theorem dL_law_3347 : decode cL_law 3347 = .ok (.if_icmp .eq 5, 3) := by decide +kernel
theorem dL_law_3350 : decode cL_law 3350 = .ok (.iconst 0, 1) := by decide +kernel
theorem dL_law_3351 : decode cL_law 3351 = .ok (.ireturn, 1) := by decide +kernel
theorem dL_law_3352 : decode cL_law 3352 = .ok (.iload 6, 2) := by decide +kernel
theorem dL_law_3354 : decode cL_law 3354 = .ok (.ifCond .ne 15, 3) := by decide +kernel
theorem dL_law_3357 : decode cL_law 3357 = .ok (.aload_n 3, 1) := by decide +kernel
theorem dL_law_3358 : decode cL_law 3358 = .ok (.iconst 0, 1) := by decide +kernel
theorem dL_law_3359 : decode cL_law 3359 = .ok (.laload, 1) := by decide +kernel
theorem dL_law_3360 : decode cL_law 3360 = .ok (.iload 7, 2) := by decide +kernel
theorem dL_law_3362 : decode cL_law 3362 = .ok (.i2l, 1) := by decide +kernel
theorem dL_law_3363 : decode cL_law 3363 = .ok (.lcmp, 1) := by decide +kernel
theorem dL_law_3364 : decode cL_law 3364 = .ok (.ifCond .eq 5, 3) := by decide +kernel
theorem dL_law_3367 : decode cL_law 3367 = .ok (.iconst 0, 1) := by decide +kernel
theorem dL_law_3368 : decode cL_law 3368 = .ok (.ireturn, 1) := by decide +kernel
theorem dL_law_3369 : decode cL_law 3369 = .ok (.goto 104, 3) := by decide +kernel
theorem op_describe_1 {S : GS} {z k : Int} : (op_describe S z k).1 = S := by
  unfold op_describe
  repeat' split
  all_goals rfl
theorem op_describe_x {S : GS} {z k : Int} : ∀ x9, (op_describe S z k).2 = .inr x9 → x9 = (xIO, 1) ∨ x9 = (xNE, 2) := by
  unfold op_describe
  repeat' split
  all_goals (intro x9 h; first | (cases h; done) | (cases h; simp; done))
theorem setTl_PRtT {G : GT} {tl0 tl' : va_W} {ret : Option FieldType} {P : Option PV → Mem → va_W → Prop} {X : String → Mem → va_W → Prop} (h : PRtT G tl0 ret P X) : PRtT (setTl G tl') tl0 ret P X := by
  obtain ⟨p, l, e, R, s, m, args, below, meth, c, Q, A, V, idx, tl⟩ := G
  exact h
theorem setTl_SBG {G : GT} {tl' : va_W} (h : SBG G) : SBG (setTl G tl') := by
  obtain ⟨p, l, e, R, s, m, args, below, meth, c, Q, A, V, idx, tl⟩ := G
  exact h
theorem setTl_HR {G : GT} {tl' : va_W} {h0 : Nat} (h : HR G h0) : HR (setTl G tl') h0 := by
  obtain ⟨p, l, e, R, s, m, args, below, meth, c, Q, A, V, idx, tl⟩ := G
  exact h
theorem setTl_Scr {G : GT} {tl' : va_W} {b L : Nat} {xs : Nat → Int32} (h : Scr G b L xs) : Scr (setTl G tl') b L xs := by
  obtain ⟨p, l, e, R, s, m, args, below, meth, c, Q, A, V, idx, tl⟩ := G
  exact h
theorem setTl_tl {G : GT} {tl' : va_W} : GTl (setTl G tl') = tl' := by
  obtain ⟨p, l, e, R, s, m, args, below, meth, c, Q, A, V, idx, tl⟩ := G
  rfl
theorem setTl_V {G : GT} {tl' : va_W} : GV (setTl G tl') = GV G := by
  obtain ⟨p, l, e, R, s, m, args, below, meth, c, Q, A, V, idx, tl⟩ := G
  rfl
theorem pt_iret {G : GT} {cc : ByteArray} {nL : Nat} {own : String} {rc rs pc : Nat} {ls : List (Option PV)} {μ : Mem} {tl0 : va_W} {P : Option PV → Mem → va_W → Prop} {X : String → Mem → va_W → Prop} {v : Int32} (C : PCx G cc nL own) (hR : PRtT G tl0 (some .int) P X) (d : decode cc pc = .ok (.ireturn, 1)) (k : P (some (pI v)) μ (GTl G)) : PW G rc rs pc ls [pI v] μ :=
  pt_std (P9 := qI fun r μ' => P (some (pI r)) μ' (GTl G)) (X9 := fun E μ' => X E μ' (GTl G)) C hR (fun v μ' h => by obtain ⟨r, rfl, h⟩ := h; exact h) (fun _ _ h => h) (fun G9 _ _ _ _ C9 R9 _ _ _ => px_iret C9 R9 d rfl rfl k)
set_option maxRecDepth 100000 in
theorem c_Ldescribe {l : Launch} {idx : List (Nat × Nat)} {V : VT} {tl : va_W} {S : GS} {μ : Mem} {x : TX} {z k : Int} (hl : l.stackTraces = false) (hI : IdxOK idx) (hc : CI S μ) (hm : MI S μ) (g : GOK S) (hz : (-2147483648 ≤ z ∧ z ≤ 2147483647)) (hk : (-2147483648 ≤ k ∧ k ≤ 2147483647)) (hx : SBX V tl x) : PMetT l yL_describe (.codeWith yL_describe cL_describe 5 (some .int) [(0, 10, 13, 21), (0, 10, 17, 44)]) 10 20 900 idx [pR 40 0, pI (J z), pI (J k), pR 80 0] μ V tl (fun v μ' tl' => (∃ y, SBX V tl' y) ∧ ∃ r, v = some (pI r) ∧ CI S μ' ∧ MI S μ' ∧ Ans (op_describe S z k).2 r (fun q => μ' 5120 0 0 = J q)) (fun _ _ _ => False) := by
  refine PMetTH_of (by decide +kernel) hl hI rfl (Nat.le_of_ble_eq_true rfl) (fun G hGX hGL hGV hGT C hB hR hHR hT => ?_)
  show PW G 20 900 0 [some (pR 40 0), some (pI (J z)), some (pI (J k)), some (pR 80 0), none] [] μ
  refine px_aload_n (i := 3) C dL_describe_0 rfl rfl ?_
  refine px_iconst (v := (0 : Int32)) C dL_describe_1 rfl ?_
  refine px_aload_n (i := 0) C dL_describe_2 rfl rfl ?_
  refine px_iload_n (i := 1) C dL_describe_3 rfl rfl ?_
  refine px_iload_n (i := 2) C dL_describe_4 rfl rfl ?_
  refine pt_callVH (h := 9) (rc' := 0) (rs' := 0) C hB (HR_le hHR (Nat.le_of_ble_eq_true rfl)) hT dL_describe_5 (gw6 178 rfl rfl) mv_X8_describe (c_describe (V := GV G) (tl := GTl G) (x := x) (PCx_l C) (PCx_I C) hc g hz hk (by rw [hGV, hGT]; exact hx)) rfl rfl rfl rfl rfl (Nat.le_of_ble_eq_true rfl) (Nat.le_of_ble_eq_true rfl) (Nat.le_of_ble_eq_true rfl) (Nat.le_of_ble_eq_true rfl) ?_ ?_
  · intro E μ3 tl' hk hTl
    obtain ⟨rfl, hy, e, he⟩ := hk
    have C2 := PCx_tl C hTl
    have R2 := setTl_PRtT (tl' := tl') hR
    have hy2 : ∃ y, SBX V (GTl (setTl G tl')) y := by rw [setTl_tl, ← hGV]; exact hy
    rcases op_describe_x _ he with h9 | h9
    · obtain ⟨rfl, rfl⟩ := Prod.mk.inj h9
      refine ⟨[], ⟨0, 10, 13, 21⟩, [⟨0, 10, 17, 44⟩], rfl, (fun _ hz => absurd hz List.not_mem_nil), rfl, by decide, ⟨"java/lang/IndexOutOfBoundsException", (gw3 181 rfl rfl), List.mem_append_left _ (List.mem_of_getElem? (i := 2) rfl)⟩, fun q9 => ?_⟩
      refine px_astorew (i := 4) C2 dL_describe_13 (by decide) rfl ?_
      refine px_iconst (v := (1 : Int32)) C2 dL_describe_15 rfl ?_
      exact pt_iret C2 R2 dL_describe_16 ⟨hy2, _, rfl, hc, hm, by rw [he]; exact ⟨rfl, by decide, by decide⟩⟩
    · obtain ⟨rfl, rfl⟩ := Prod.mk.inj h9
      refine ⟨[⟨0, 10, 13, 21⟩], ⟨0, 10, 17, 44⟩, [], rfl, (List.forall_mem_cons.mpr ⟨Or.inr ⟨by decide, "java/lang/IndexOutOfBoundsException", (gw3 181 rfl rfl), List.mem_of_getElem? (i := 17) rfl⟩, (fun _ hz => absurd hz List.not_mem_nil)⟩), rfl, by decide, ⟨"java/util/NoSuchElementException", (gw4 48 rfl rfl), List.mem_append_left _ (List.mem_of_getElem? (i := 3) rfl)⟩, fun q9 => ?_⟩
      refine px_astorew (i := 4) C2 dL_describe_17 (by decide) rfl ?_
      refine px_iconst (v := (2 : Int32)) C2 dL_describe_19 rfl ?_
      exact pt_iret C2 R2 dL_describe_20 ⟨hy2, _, rfl, hc, hm, by rw [he]; exact ⟨rfl, by decide, by decide⟩⟩
  intro v μ1 tl' hp hTl
  obtain ⟨rfl, hy, q, rfl, he⟩ := hp
  have C2 := PCx_tl C hTl
  have R2 := setTl_PRtT (tl' := tl') hR
  have hy2 : ∃ y, SBX V (GTl (setTl G tl')) y := by rw [setTl_tl, ← hGV]; exact hy
  show PW (setTl G tl') 0 0 8 _ [pI (J q), pI 0, pR 80 0] _
  refine px_i2l C2 dL_describe_8 ?_
  refine px_last 5120 C2 dL_describe_9 rfl rfl rfl rfl vin1 rfl ?_
  refine px_goto (tgt := 21) C2 dL_describe_10 (by decide) ?_
  refine px_iconst (v := (0 : Int32)) C2 dL_describe_21 rfl ?_
  rw [tz0]
  have b : Bt [5120] μ1 (up μ1 5120 0 0 (J q)) := Bt.up (by decide)
  exact pt_iret C2 R2 dL_describe_22 ⟨hy2, _, rfl, hc.bt b (by decide), hm.bt b (by decide), by rw [he]; exact ⟨rfl, up_self⟩⟩
set_option maxRecDepth 100000 in
set_option maxHeartbeats 4000000 in
theorem lc48_ok {G : GT} {b L A B : Nat} {xs : Nat → Int32} {S : GS} {μ : Mem} {i : Int32} {x : TX} (C : PCx G cL_law 9 RL) (hB : SBG G) (hX : Scr G b L xs) (hHR : HR G 12) (hx : SBX (GV G) (GTl G) x) (hc : CI S μ) (hm : MI S μ) (g : GOK S) (hi : ∀ d : Int32, 1 ≤ d → d ≤ 6 → vp_in (i + d) L) (hN : ∀ (tl' : va_W) (S' : GS) (μ' : Mem), (∃ y, SBX (GV G) tl' y) → TlOK (GV G) (GX G) (G.2.2.2.2.1).heap.size (GTl G) tl' → GOK S' → CI S' μ' → MI S' μ' → PW (setTl G tl') A B 3473 [some (pW (.ref b)), some (pR 40 0), some (pR 50 0), some (pR 80 0), some (pR 81 0), some (pI i), none, none, none] [] μ') : PW G (A + 20) (B + 900) 3304 [some (pW (.ref b)), some (pR 40 0), some (pR 50 0), some (pR 80 0), some (pR 81 0), some (pI i), none, none, none] [] μ := by
  obtain ⟨z1, q1, e1⟩ := J_of (xs (i + 1).toNatClampNeg)
  obtain ⟨z2, q2, e2⟩ := J_of (xs (i + 2).toNatClampNeg)
  have o1 := hi 1 (by decide) (by decide)
  have o2 := hi 2 (by decide) (by decide)
  refine px_aload_n (i := 1) C dL_law_3304 rfl rfl ?_
  refine px_aload_nw (i := 0) C dL_law_3305 rfl rfl ?_
  refine px_iload (i := 5) C dL_law_3306 rfl ?_
  refine px_iconst (v := (1 : Int32)) C dL_law_3308 rfl ?_
  refine px_iadd C dL_law_3309 ?_
  refine px_sld C hX dL_law_3310 o1 ?_
  refine px_aload_nw (i := 0) C dL_law_3311 rfl rfl ?_
  refine px_iload (i := 5) C dL_law_3312 rfl ?_
  refine px_iconst (v := (2 : Int32)) C dL_law_3314 rfl ?_
  refine px_iadd C dL_law_3315 ?_
  refine px_sld C hX dL_law_3316 o2 ?_
  refine px_aload_n (i := 3) C dL_law_3317 rfl rfl ?_
  rw [e1, e2]
  refine pt_callSH (h := 10) (rc' := A + 0) (rs' := B + 0) C hB (HR_le hHR (Nat.le_of_ble_eq_true rfl)) dL_law_3318 (gw6 175 rfl rfl) ms_L_describe (c_Ldescribe (x := x) (PCx_l C) (PCx_I C) hc hm g q1 q2 hx) rfl rfl (Nat.le_of_ble_eq_true rfl) (Nat.le_of_ble_eq_true rfl) (by omega) (by omega) ?_
  intro v μ1 tl' hp hTl
  obtain ⟨hy, r4, rfl, hc1, hm1, ha⟩ := hp
  have hN1 : ∀ (S' : GS) (μ' : Mem), GOK S' → CI S' μ' → MI S' μ' → PW (setTl G tl') A B 3473 [some (pW (.ref b)), some (pR 40 0), some (pR 50 0), some (pR 80 0), some (pR 81 0), some (pI i), none, none, none] [] μ' := fun S' μ' h1 h2 h3 => hN tl' S' μ' hy hTl h1 h2 h3
  have C2 := PCx_tl C hTl
  have hX2 := setTl_Scr (tl' := tl') hX
  have hHR2 := setTl_HR (tl' := tl') hHR
  clear C hX hHR hN hTl hy hx hB
  generalize setTl G tl' = G2 at hN1 C2 hX2 hHR2
  have hk := m_describe (z := z1) (k := z2) hm1 g q1 q2 (fin_i hN1 (by rw [op_describe_1]; exact g) (by rw [op_describe_1]; exact hc1) ha)
  show PW G2 (A + 0) (B + 0) 3321 _ [pI r4] _
  refine px_istore (i := 6) C2 dL_law_3321 (by decide) rfl ?_
  refine px_aload_n (i := 2) C2 dL_law_3323 rfl rfl ?_
  refine px_aload_nw (i := 0) C2 dL_law_3324 rfl rfl ?_
  refine px_iload (i := 5) C2 dL_law_3325 rfl ?_
  refine px_iconst (v := (1 : Int32)) C2 dL_law_3327 rfl ?_
  refine px_iadd C2 dL_law_3328 ?_
  refine px_sld C2 hX2 dL_law_3329 o1 ?_
  refine px_aload_nw (i := 0) C2 dL_law_3330 rfl rfl ?_
  refine px_iload (i := 5) C2 dL_law_3331 rfl ?_
  refine px_iconst (v := (2 : Int32)) C2 dL_law_3333 rfl ?_
  refine px_iadd C2 dL_law_3334 ?_
  refine px_sld C2 hX2 dL_law_3335 o2 ?_
  rw [e1, e2]
  refine px_callVNi (h := 3) (rc' := A + 0) (rs' := B + 0) C2 (HR_le hHR2 (Nat.le_of_ble_eq_true rfl)) dL_law_3336 (gw10 75 rfl rfl) mv_X9_describe (w9_describe_ok (PCx_l C2) (PCx_I C2) hk) rfl rfl rfl rfl rfl (Nat.le_of_ble_eq_true rfl) (Nat.le_of_ble_eq_true rfl) (by omega) (by omega) ?_
  clear hk
  intro r8 μ7 hk
  refine px_istore (i := 7) C2 dL_law_3339 (by decide) rfl ?_
  refine px_aload_n (i := 2) C2 dL_law_3341 rfl rfl ?_
  refine px_callVNi (h := 0) (rc' := A + 0) (rs' := B + 0) C2 (HR_le hHR2 (Nat.le_of_ble_eq_true rfl)) dL_law_3342 (gw8 123 rfl rfl) mv_X9_thrown (w9_thrown_ok (PCx_l C2) (PCx_I C2) hk) rfl rfl rfl rfl rfl (Nat.le_of_ble_eq_true rfl) (Nat.le_of_ble_eq_true rfl) (by omega) (by omega) ?_
  clear hk
  intro r10 μ9 hk
  refine px_iload (i := 6) C2 dL_law_3345 rfl ?_
  refine px_icmp_eq (tgt := 3352) C2 dL_law_3347 (by decide) (fun c15 => ?_) (fun c15 => ?_)
  · replace hk := hk.1 c15
    refine px_iload (i := 6) C2 dL_law_3352 rfl ?_
    refine px_if_ne (tgt := 3369) C2 dL_law_3354 (by decide) (fun c14 => ?_) (fun c14 => ?_)
    · replace hk := hk.1 c14
      refine px_goto (tgt := 3473) C2 dL_law_3369 (by decide) ?_
      exact PW_at hk (And.intro rfl (And.intro rfl (And.intro rfl (And.intro rfl (And.intro rfl (And.intro rfl trivial)))))) (by omega) (by omega)
    · replace hk := hk.2 c14
      refine px_aload_n (i := 3) C2 dL_law_3357 rfl rfl ?_
      refine px_iconst (v := (0 : Int32)) C2 dL_law_3358 rfl ?_
      obtain ⟨o11, hk⟩ := hk
      refine px_lald 5120 C2 dL_law_3359 rfl rfl rfl rfl o11 ?_
      refine px_iload (i := 7) C2 dL_law_3360 rfl ?_
      refine px_i2l C2 dL_law_3362 ?_
      obtain ⟨o12, hk⟩ := hk
      refine px_lcmp C2 dL_law_3363 o12 ?_
      refine px_if_eq (tgt := 3369) C2 dL_law_3364 (by decide) (fun c13 => ?_) (fun c13 => ?_)
      · replace hk := hk.1 c13
        refine px_goto (tgt := 3473) C2 dL_law_3369 (by decide) ?_
        exact PW_at hk (And.intro rfl (And.intro rfl (And.intro rfl (And.intro rfl (And.intro rfl (And.intro rfl trivial)))))) (by omega) (by omega)
      · replace hk := hk.2 c13
        refine px_iconst (v := (0 : Int32)) C2 dL_law_3367 rfl ?_
        exact hk.elim
  · replace hk := hk.2 c15
    refine px_iconst (v := (0 : Int32)) C2 dL_law_3350 rfl ?_
    exact hk.elim
