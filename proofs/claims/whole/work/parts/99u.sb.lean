-- the JDK's builder of texts (gen/mk_sb.py)
theorem dJ5_isLatin1_aae02_0 : decode cJ5_isLatin1_aae02 0 = .ok (.getstatic 18, 3) := by decide +kernel
theorem dJ5_isLatin1_aae02_3 : decode cJ5_isLatin1_aae02 3 = .ok (.ifCond .eq 14, 3) := by decide +kernel
theorem dJ5_isLatin1_aae02_6 : decode cJ5_isLatin1_aae02 6 = .ok (.aload_n 0, 1) := by decide +kernel
theorem dJ5_isLatin1_aae02_7 : decode cJ5_isLatin1_aae02 7 = .ok (.getfield 22, 3) := by decide +kernel
theorem dJ5_isLatin1_aae02_10 : decode cJ5_isLatin1_aae02 10 = .ok (.ifCond .ne 7, 3) := by decide +kernel
theorem dJ5_isLatin1_aae02_13 : decode cJ5_isLatin1_aae02 13 = .ok (.iconst 1, 1) := by decide +kernel
theorem dJ5_isLatin1_aae02_14 : decode cJ5_isLatin1_aae02 14 = .ok (.goto 4, 3) := by decide +kernel
theorem dJ5_isLatin1_aae02_17 : decode cJ5_isLatin1_aae02 17 = .ok (.iconst 0, 1) := by decide +kernel
theorem dJ5_isLatin1_aae02_18 : decode cJ5_isLatin1_aae02 18 = .ok (.ireturn, 1) := by decide +kernel
set_option maxHeartbeats 2000000 in
set_option maxRecDepth 20000 in
theorem c_isL {l : Launch} {V : VT} (h q m : Nat) (f : Nat → Int32) (ml n : Int32) : CMet l yJ5_isLatin1_aae02 (.code yJ5_isLatin1_aae02 cJ5_isLatin1_aae02 1 (some .boolean)) 1 0 0 V [.ref h] (sbW V h q m f ml n) (fun v W1 => v = some (.int 1) ∧ W1 = sbW V h q m f ml n) := by
  refine CMet_of (args := [pW (.ref h)]) (by decide +kernel) rfl (Nat.le_of_ble_eq_true rfl) (fun G hV hl C hR hH hN => ?_)
  subst hV
  subst hl
  refine cw_gets C dJ5_isLatin1_aae02_0 (gw1 184 rfl rfl) ?_
  refine cw_if_eq (tgt := 17) C dJ5_isLatin1_aae02_3 (by decide) (fun z => absurd z (by decide)) (fun _ => ?_)
  refine cw_aload_n C dJ5_isLatin1_aae02_6 rfl rfl ?_
  refine cw_get (j := 0) (f := 1) (ci := 1) (K := RJ4) (T := TJ4) (N := 4) (fs := [.ref q, .int 0, .int ml, .int n]) C dJ5_isLatin1_aae02_7 inJ4 rfl rfl (by decide) (gw1 194 rfl rfl) (Or.inl rfl) rfl ?_
  refine cw_if_ne (tgt := 17) C dJ5_isLatin1_aae02_10 (by decide) (fun z => absurd rfl z) (fun _ => ?_)
  refine cw_iconst (v := (1 : Int32)) C dJ5_isLatin1_aae02_13 (by decide) ?_
  refine cw_goto (tgt := 18) C dJ5_isLatin1_aae02_14 (by decide) ?_
  exact cw_iret C hR dJ5_isLatin1_aae02_18 rfl rfl ⟨rfl, rfl⟩
theorem dJ1_canEncode_fc78d_0 : decode cJ1_canEncode_fc78d 0 = .ok (.iload_n 0, 1) := by decide +kernel
theorem dJ1_canEncode_fc78d_1 : decode cJ1_canEncode_fc78d 1 = .ok (.sipush 255, 3) := by decide +kernel
theorem dJ1_canEncode_fc78d_4 : decode cJ1_canEncode_fc78d 4 = .ok (.if_icmp .gt 7, 3) := by decide +kernel
theorem dJ1_canEncode_fc78d_7 : decode cJ1_canEncode_fc78d 7 = .ok (.iconst 1, 1) := by decide +kernel
theorem dJ1_canEncode_fc78d_8 : decode cJ1_canEncode_fc78d 8 = .ok (.goto 4, 3) := by decide +kernel
theorem dJ1_canEncode_fc78d_11 : decode cJ1_canEncode_fc78d 11 = .ok (.iconst 0, 1) := by decide +kernel
theorem dJ1_canEncode_fc78d_12 : decode cJ1_canEncode_fc78d 12 = .ok (.ireturn, 1) := by decide +kernel
set_option maxHeartbeats 2000000 in
set_option maxRecDepth 20000 in
theorem c_canE {l : Launch} {V : VT} (c : Nat) (hc : c < 256) : CMet l yJ1_canEncode_fc78d (.code yJ1_canEncode_fc78d cJ1_canEncode_fc78d 1 (some .boolean)) 1 0 0 V [.int (nI c)] ([]) (fun v W1 => v = some (.int 1) ∧ W1 = []) := by
  refine CMet_of (args := [pI (nI c)]) (by decide +kernel) rfl (Nat.le_of_ble_eq_true rfl) (fun G hV hl C hR hH hN => ?_)
  subst hV
  subst hl
  refine cw_iload_n C dJ1_canEncode_fc78d_0 rfl rfl ?_
  refine cw_sipush (v := (255 : Int32)) C dJ1_canEncode_fc78d_1 (by decide) ?_
  refine cw_icmp_gt (tgt := 11) C dJ1_canEncode_fc78d_4 (by decide) (fun z => absurd z (nI_nlt (a := 255) (b := c) (by omega) (by decide))) (fun _ => ?_)
  refine cw_iconst (v := (1 : Int32)) C dJ1_canEncode_fc78d_7 (by decide) ?_
  refine cw_goto (tgt := 12) C dJ1_canEncode_fc78d_8 (by decide) ?_
  exact cw_iret C hR dJ1_canEncode_fc78d_12 rfl rfl ⟨rfl, rfl⟩
theorem dJ8_newLength_cabcc_0 : decode cJ8_newLength_cabcc 0 = .ok (.iload_n 0, 1) := by decide +kernel
theorem dJ8_newLength_cabcc_1 : decode cJ8_newLength_cabcc 1 = .ok (.iload_n 1, 1) := by decide +kernel
theorem dJ8_newLength_cabcc_2 : decode cJ8_newLength_cabcc 2 = .ok (.iload_n 2, 1) := by decide +kernel
theorem dJ8_newLength_cabcc_3 : decode cJ8_newLength_cabcc 3 = .ok (.invokestatic 194, 3) := by decide +kernel
theorem dJ8_newLength_cabcc_6 : decode cJ8_newLength_cabcc 6 = .ok (.iadd, 1) := by decide +kernel
theorem dJ8_newLength_cabcc_7 : decode cJ8_newLength_cabcc 7 = .ok (.istore_n 3, 1) := by decide +kernel
theorem dJ8_newLength_cabcc_8 : decode cJ8_newLength_cabcc 8 = .ok (.iconst 0, 1) := by decide +kernel
theorem dJ8_newLength_cabcc_9 : decode cJ8_newLength_cabcc 9 = .ok (.iload_n 3, 1) := by decide +kernel
theorem dJ8_newLength_cabcc_10 : decode cJ8_newLength_cabcc 10 = .ok (.if_icmp .ge 11, 3) := by decide +kernel
theorem dJ8_newLength_cabcc_13 : decode cJ8_newLength_cabcc 13 = .ok (.iload_n 3, 1) := by decide +kernel
theorem dJ8_newLength_cabcc_14 : decode cJ8_newLength_cabcc 14 = .ok (.ldc 200, 2) := by decide +kernel
theorem dJ8_newLength_cabcc_16 : decode cJ8_newLength_cabcc 16 = .ok (.if_icmp .gt 5, 3) := by decide +kernel
theorem dJ8_newLength_cabcc_19 : decode cJ8_newLength_cabcc 19 = .ok (.iload_n 3, 1) := by decide +kernel
theorem dJ8_newLength_cabcc_20 : decode cJ8_newLength_cabcc 20 = .ok (.ireturn, 1) := by decide +kernel
theorem dJ8_newLength_cabcc_21 : decode cJ8_newLength_cabcc 21 = .ok (.iload_n 0, 1) := by decide +kernel
theorem dJ8_newLength_cabcc_22 : decode cJ8_newLength_cabcc 22 = .ok (.iload_n 1, 1) := by decide +kernel
theorem dJ8_newLength_cabcc_23 : decode cJ8_newLength_cabcc 23 = .ok (.invokestatic 201, 3) := by decide +kernel
theorem dJ8_newLength_cabcc_26 : decode cJ8_newLength_cabcc 26 = .ok (.ireturn, 1) := by decide +kernel
set_option maxHeartbeats 2000000 in
set_option maxRecDepth 20000 in
theorem c_newL {l : Launch} {V : VT} (m a : Nat) (hm : 1 ≤ m ∧ m < 1000) (ha : a < 1000) : CMet l yJ8_newLength_cabcc (.code yJ8_newLength_cabcc cJ8_newLength_cabcc 4 (some .int)) 1 0 0 V [.int (nI m), .int (nI a), .int (nI (m + 2))] ([]) (fun v W1 => v = some (.int (nI (m + if a < m + 2 then m + 2 else a))) ∧ W1 = []) := by
  refine CMet_of (args := [pI (nI m), pI (nI a), pI (nI (m + 2))]) (by decide +kernel) rfl (Nat.le_of_ble_eq_true rfl) (fun G hV hl C hR hH hN => ?_)
  subst hV
  subst hl
  refine cw_iload_n C dJ8_newLength_cabcc_0 rfl rfl ?_
  refine cw_iload_n C dJ8_newLength_cabcc_1 rfl rfl ?_
  refine cw_iload_n C dJ8_newLength_cabcc_2 rfl rfl ?_
  refine cw_max C (CHR_le (by decide) hH) dJ8_newLength_cabcc_3 (gw6 223 rfl rfl) (Nat.le_of_ble_eq_true rfl) ?_
  have e : (if nI a < nI (m + 2) then nI (m + 2) else nI a) = nI (if a < m + 2 then m + 2 else a) := by
    by_cases h : a < m + 2
    · rw [if_pos h, if_pos (nI_lt h (by omega))]
    · rw [if_neg h, if_neg (nI_nlt (by omega) (by omega))]
  rw [e]
  have hb : (if a < m + 2 then m + 2 else a) < 1002 := by split <;> omega
  generalize (if a < m + 2 then m + 2 else a) = g at hb hR ⊢
  refine cw_iadd C dJ8_newLength_cabcc_6 ?_
  rw [nI_add]
  refine cw_istore_n C dJ8_newLength_cabcc_7 rfl (by decide) rfl ?_
  refine cw_iconst (v := (0 : Int32)) C dJ8_newLength_cabcc_8 (by decide) ?_
  refine cw_iload_n C dJ8_newLength_cabcc_9 rfl rfl ?_
  refine cw_icmp_ge (tgt := 21) C dJ8_newLength_cabcc_10 (by decide) (fun z => absurd z (nI_nle (by omega) (by omega))) (fun _ => ?_)
  refine cw_iload_n C dJ8_newLength_cabcc_13 rfl rfl ?_
  refine cw_ldc (v := nI 2147483639) C dJ8_newLength_cabcc_14 (gw6 224 rfl rfl) ?_
  refine cw_icmp_gt (tgt := 21) C dJ8_newLength_cabcc_16 (by decide) (fun z => absurd z (nI_nlt (by omega) (by omega))) (fun _ => ?_)
  refine cw_iload_n C dJ8_newLength_cabcc_19 rfl rfl ?_
  exact cw_iret C hR dJ8_newLength_cabcc_20 rfl rfl ⟨rfl, rfl⟩
theorem dJ5_newCapacity_0f7a4_0 : decode cJ5_newCapacity_0f7a4 0 = .ok (.aload_n 0, 1) := by decide +kernel
theorem dJ5_newCapacity_0f7a4_1 : decode cJ5_newCapacity_0f7a4 1 = .ok (.getfield 15, 3) := by decide +kernel
theorem dJ5_newCapacity_0f7a4_4 : decode cJ5_newCapacity_0f7a4 4 = .ok (.arraylength, 1) := by decide +kernel
theorem dJ5_newCapacity_0f7a4_5 : decode cJ5_newCapacity_0f7a4 5 = .ok (.istore_n 2, 1) := by decide +kernel
theorem dJ5_newCapacity_0f7a4_6 : decode cJ5_newCapacity_0f7a4 6 = .ok (.iload_n 1, 1) := by decide +kernel
theorem dJ5_newCapacity_0f7a4_7 : decode cJ5_newCapacity_0f7a4 7 = .ok (.aload_n 0, 1) := by decide +kernel
theorem dJ5_newCapacity_0f7a4_8 : decode cJ5_newCapacity_0f7a4 8 = .ok (.getfield 22, 3) := by decide +kernel
theorem dJ5_newCapacity_0f7a4_11 : decode cJ5_newCapacity_0f7a4 11 = .ok (.ishl, 1) := by decide +kernel
theorem dJ5_newCapacity_0f7a4_12 : decode cJ5_newCapacity_0f7a4 12 = .ok (.istore_n 3, 1) := by decide +kernel
theorem dJ5_newCapacity_0f7a4_13 : decode cJ5_newCapacity_0f7a4 13 = .ok (.iload_n 3, 1) := by decide +kernel
theorem dJ5_newCapacity_0f7a4_14 : decode cJ5_newCapacity_0f7a4 14 = .ok (.iload_n 2, 1) := by decide +kernel
theorem dJ5_newCapacity_0f7a4_15 : decode cJ5_newCapacity_0f7a4 15 = .ok (.isub, 1) := by decide +kernel
theorem dJ5_newCapacity_0f7a4_16 : decode cJ5_newCapacity_0f7a4 16 = .ok (.istore 4, 2) := by decide +kernel
theorem dJ5_newCapacity_0f7a4_18 : decode cJ5_newCapacity_0f7a4 18 = .ok (.iload_n 2, 1) := by decide +kernel
theorem dJ5_newCapacity_0f7a4_19 : decode cJ5_newCapacity_0f7a4 19 = .ok (.iload 4, 2) := by decide +kernel
theorem dJ5_newCapacity_0f7a4_21 : decode cJ5_newCapacity_0f7a4 21 = .ok (.iload_n 2, 1) := by decide +kernel
theorem dJ5_newCapacity_0f7a4_22 : decode cJ5_newCapacity_0f7a4 22 = .ok (.iconst 2, 1) := by decide +kernel
theorem dJ5_newCapacity_0f7a4_23 : decode cJ5_newCapacity_0f7a4 23 = .ok (.aload_n 0, 1) := by decide +kernel
theorem dJ5_newCapacity_0f7a4_24 : decode cJ5_newCapacity_0f7a4 24 = .ok (.getfield 22, 3) := by decide +kernel
theorem dJ5_newCapacity_0f7a4_27 : decode cJ5_newCapacity_0f7a4 27 = .ok (.ishl, 1) := by decide +kernel
theorem dJ5_newCapacity_0f7a4_28 : decode cJ5_newCapacity_0f7a4 28 = .ok (.iadd, 1) := by decide +kernel
theorem dJ5_newCapacity_0f7a4_29 : decode cJ5_newCapacity_0f7a4 29 = .ok (.invokestatic 114, 3) := by decide +kernel
theorem dJ5_newCapacity_0f7a4_32 : decode cJ5_newCapacity_0f7a4 32 = .ok (.istore 5, 2) := by decide +kernel
theorem dJ5_newCapacity_0f7a4_34 : decode cJ5_newCapacity_0f7a4 34 = .ok (.iload 5, 2) := by decide +kernel
theorem dJ5_newCapacity_0f7a4_36 : decode cJ5_newCapacity_0f7a4 36 = .ok (.ldc 39, 2) := by decide +kernel
theorem dJ5_newCapacity_0f7a4_38 : decode cJ5_newCapacity_0f7a4 38 = .ok (.if_icmp .ne 13, 3) := by decide +kernel
theorem dJ5_newCapacity_0f7a4_41 : decode cJ5_newCapacity_0f7a4 41 = .ok (.new 120, 3) := by decide +kernel
theorem dJ5_newCapacity_0f7a4_44 : decode cJ5_newCapacity_0f7a4 44 = .ok (.dup, 1) := by decide +kernel
theorem dJ5_newCapacity_0f7a4_45 : decode cJ5_newCapacity_0f7a4 45 = .ok (.ldc 122, 2) := by decide +kernel
theorem dJ5_newCapacity_0f7a4_47 : decode cJ5_newCapacity_0f7a4 47 = .ok (.invokespecial 124, 3) := by decide +kernel
theorem dJ5_newCapacity_0f7a4_50 : decode cJ5_newCapacity_0f7a4 50 = .ok (.athrow, 1) := by decide +kernel
theorem dJ5_newCapacity_0f7a4_51 : decode cJ5_newCapacity_0f7a4 51 = .ok (.iload 5, 2) := by decide +kernel
theorem dJ5_newCapacity_0f7a4_53 : decode cJ5_newCapacity_0f7a4 53 = .ok (.aload_n 0, 1) := by decide +kernel
theorem dJ5_newCapacity_0f7a4_54 : decode cJ5_newCapacity_0f7a4 54 = .ok (.getfield 22, 3) := by decide +kernel
theorem dJ5_newCapacity_0f7a4_57 : decode cJ5_newCapacity_0f7a4 57 = .ok (.ishr, 1) := by decide +kernel
theorem dJ5_newCapacity_0f7a4_58 : decode cJ5_newCapacity_0f7a4 58 = .ok (.ireturn, 1) := by decide +kernel
set_option maxHeartbeats 2000000 in
set_option maxRecDepth 20000 in
theorem c_newC {l : Launch} {V : VT} (h q m : Nat) (f : Nat → Int32) (ml n : Int32) (a : Nat) (hm : 1 ≤ m ∧ m < 900) (ha : m < a ∧ a < 900) : CMet l yJ5_newCapacity_0f7a4 (.code yJ5_newCapacity_0f7a4 cJ5_newCapacity_0f7a4 6 (some .int)) 2 0 0 V [.ref h, .int (nI a)] (sbW V h q m f ml n) (fun v W1 => v = some (.int (nI (m + if a - m < m + 2 then m + 2 else a - m))) ∧ W1 = sbW V h q m f ml n) := by
  refine CMet_of (args := [pW (.ref h), pI (nI a)]) (by decide +kernel) rfl (Nat.le_of_ble_eq_true rfl) (fun G hV hl C hR hH hN => ?_)
  subst hV
  subst hl
  refine cw_aload_n C dJ5_newCapacity_0f7a4_0 rfl rfl ?_
  refine cw_get (j := 0) (f := 0) (ci := 1) (K := RJ4) (T := TJ4) (N := 4) (fs := [.ref q, .int 0, .int ml, .int n]) C dJ5_newCapacity_0f7a4_1 inJ4 rfl rfl (by decide) (gw1 193 rfl rfl) (Or.inl rfl) rfl ?_
  refine cw_alen (j := 1) (a := 0) (v := nI m) C dJ5_newCapacity_0f7a4_4 rfl (by decide) rfl ?_
  refine cw_istore_n C dJ5_newCapacity_0f7a4_5 rfl (by decide) rfl ?_
  refine cw_iload_n C dJ5_newCapacity_0f7a4_6 rfl rfl ?_
  refine cw_aload_n C dJ5_newCapacity_0f7a4_7 rfl rfl ?_
  refine cw_get (j := 0) (f := 1) (ci := 1) (K := RJ4) (T := TJ4) (N := 4) (fs := [.ref q, .int 0, .int ml, .int n]) C dJ5_newCapacity_0f7a4_8 inJ4 rfl rfl (by decide) (gw1 194 rfl rfl) (Or.inl rfl) rfl ?_
  refine cw_ishl C dJ5_newCapacity_0f7a4_11 ?_
  rw [sb_shl0]
  refine cw_istore_n C dJ5_newCapacity_0f7a4_12 rfl (by decide) rfl ?_
  refine cw_iload_n C dJ5_newCapacity_0f7a4_13 rfl rfl ?_
  refine cw_iload_n C dJ5_newCapacity_0f7a4_14 rfl rfl ?_
  refine cw_isub C dJ5_newCapacity_0f7a4_15 ?_
  rw [pk_sub (by omega)]
  refine cw_istore C dJ5_newCapacity_0f7a4_16 (by decide) rfl ?_
  refine cw_iload_n C dJ5_newCapacity_0f7a4_18 rfl rfl ?_
  refine cw_iload C dJ5_newCapacity_0f7a4_19 rfl ?_
  refine cw_iload_n C dJ5_newCapacity_0f7a4_21 rfl rfl ?_
  refine cw_iconst (v := (2 : Int32)) C dJ5_newCapacity_0f7a4_22 (by decide) ?_
  refine cw_aload_n C dJ5_newCapacity_0f7a4_23 rfl rfl ?_
  refine cw_get (j := 0) (f := 1) (ci := 1) (K := RJ4) (T := TJ4) (N := 4) (fs := [.ref q, .int 0, .int ml, .int n]) C dJ5_newCapacity_0f7a4_24 inJ4 rfl rfl (by decide) (gw1 194 rfl rfl) (Or.inl rfl) rfl ?_
  refine cw_ishl C dJ5_newCapacity_0f7a4_27 ?_
  rw [sb_shl0]
  refine cw_iadd C dJ5_newCapacity_0f7a4_28 ?_
  rw [show (2 : Int32) = nI 2 from rfl, nI_add]
  refine cw_callS (h := 1) (mc := 0) (ms := 0) (n := 3) (rc' := 0) (rs' := 0) (as := [.int (nI m), .int (nI (a - m)), .int (nI (m + 2))]) (rest := []) (W0 := []) (Wr := (sbW (CGV G) h q m f ml n)) C (CHR_le (by decide) hH) dJ5_newCapacity_0f7a4_29 (gw6 220 rfl rfl) ms_J8_newLength_cabcc (c_newL m (a - m) (by omega) (by omega)) (List.Perm.refl _) rfl rfl (Nat.le_of_ble_eq_true rfl) (by decide) (by omega) (by omega) (fun v9 W9 h9 => ?_)
  obtain ⟨rfl, rfl⟩ := h9
  have hb : m + (if a - m < m + 2 then m + 2 else a - m) < 2000 := by split <;> omega
  generalize m + (if a - m < m + 2 then m + 2 else a - m) = g at hb hR ⊢
  refine cw_istore C dJ5_newCapacity_0f7a4_32 (by decide) rfl ?_
  refine cw_iload C dJ5_newCapacity_0f7a4_34 rfl ?_
  refine cw_ldc (v := nI 2147483647) C dJ5_newCapacity_0f7a4_36 (gw6 228 rfl rfl) ?_
  refine cw_icmp_ne (tgt := 51) C dJ5_newCapacity_0f7a4_38 (by decide) (fun _ => ?_) (fun z => by have := (nI_eq (by omega) (by decide)).mp z; omega)
  refine cw_iload C dJ5_newCapacity_0f7a4_51 rfl ?_
  refine cw_aload_n C dJ5_newCapacity_0f7a4_53 rfl rfl ?_
  refine cw_get (j := 0) (f := 1) (ci := 1) (K := RJ4) (T := TJ4) (N := 4) (fs := [.ref q, .int 0, .int ml, .int n]) C dJ5_newCapacity_0f7a4_54 inJ4 rfl rfl (by decide) (gw1 194 rfl rfl) (Or.inl rfl) rfl ?_
  refine cw_ishr C dJ5_newCapacity_0f7a4_57 ?_
  rw [sb_shr0]
  exact cw_iret C hR dJ5_newCapacity_0f7a4_58 rfl rfl ⟨rfl, rfl⟩
theorem dJ7_copyOf_9075b_0 : decode cJ7_copyOf_9075b 0 = .ok (.iload_n 1, 1) := by decide +kernel
theorem dJ7_copyOf_9075b_1 : decode cJ7_copyOf_9075b 1 = .ok (.aload_n 0, 1) := by decide +kernel
theorem dJ7_copyOf_9075b_2 : decode cJ7_copyOf_9075b 2 = .ok (.arraylength, 1) := by decide +kernel
theorem dJ7_copyOf_9075b_3 : decode cJ7_copyOf_9075b 3 = .ok (.if_icmp .ne 11, 3) := by decide +kernel
theorem dJ7_copyOf_9075b_6 : decode cJ7_copyOf_9075b 6 = .ok (.aload_n 0, 1) := by decide +kernel
theorem dJ7_copyOf_9075b_7 : decode cJ7_copyOf_9075b 7 = .ok (.invokevirtual 310, 3) := by decide +kernel
theorem dJ7_copyOf_9075b_10 : decode cJ7_copyOf_9075b 10 = .ok (.checkcast 311, 3) := by decide +kernel
theorem dJ7_copyOf_9075b_13 : decode cJ7_copyOf_9075b 13 = .ok (.areturn, 1) := by decide +kernel
theorem dJ7_copyOf_9075b_14 : decode cJ7_copyOf_9075b 14 = .ok (.iload_n 1, 1) := by decide +kernel
theorem dJ7_copyOf_9075b_15 : decode cJ7_copyOf_9075b 15 = .ok (.newarray .byte, 2) := by decide +kernel
theorem dJ7_copyOf_9075b_17 : decode cJ7_copyOf_9075b 17 = .ok (.astore_n 2, 1) := by decide +kernel
theorem dJ7_copyOf_9075b_18 : decode cJ7_copyOf_9075b 18 = .ok (.aload_n 0, 1) := by decide +kernel
theorem dJ7_copyOf_9075b_19 : decode cJ7_copyOf_9075b 19 = .ok (.iconst 0, 1) := by decide +kernel
theorem dJ7_copyOf_9075b_20 : decode cJ7_copyOf_9075b 20 = .ok (.aload_n 2, 1) := by decide +kernel
theorem dJ7_copyOf_9075b_21 : decode cJ7_copyOf_9075b 21 = .ok (.iconst 0, 1) := by decide +kernel
theorem dJ7_copyOf_9075b_22 : decode cJ7_copyOf_9075b 22 = .ok (.aload_n 0, 1) := by decide +kernel
theorem dJ7_copyOf_9075b_23 : decode cJ7_copyOf_9075b 23 = .ok (.arraylength, 1) := by decide +kernel
theorem dJ7_copyOf_9075b_24 : decode cJ7_copyOf_9075b 24 = .ok (.iload_n 1, 1) := by decide +kernel
theorem dJ7_copyOf_9075b_25 : decode cJ7_copyOf_9075b 25 = .ok (.invokestatic 304, 3) := by decide +kernel
theorem dJ7_copyOf_9075b_28 : decode cJ7_copyOf_9075b 28 = .ok (.invokestatic 150, 3) := by decide +kernel
theorem dJ7_copyOf_9075b_31 : decode cJ7_copyOf_9075b 31 = .ok (.aload_n 2, 1) := by decide +kernel
theorem dJ7_copyOf_9075b_32 : decode cJ7_copyOf_9075b 32 = .ok (.areturn, 1) := by decide +kernel
set_option maxHeartbeats 2000000 in
set_option maxRecDepth 20000 in
theorem c_cpy {l : Launch} {V : VT} (q m N : Nat) (f : Nat → Int32) (hN : m < N ∧ N ≤ 60) (hf : sb_Fit f) : CMet l yJ7_copyOf_9075b (.code yJ7_copyOf_9075b cJ7_copyOf_9075b 3 (some (.array .byte))) 1 1 60 V [.ref q, .int (nI N)] ([(q, .inl (V.2.2 0, m, .inl f))]) (fun v W1 => ∃ r : Nat, v = some (.ref r) ∧ W1 = [(q, .inl (V.2.2 0, m, .inl f)), (r, .inl (V.2.2 0, N, .inl (va_cpy f (fun _ => 0) 0 0 m)))]) := by
  refine CMet_of (args := [pW (.ref q), pI (nI N)]) (by decide +kernel) rfl (Nat.le_of_ble_eq_true rfl) (fun G hV hl C hR hH hN => ?_)
  subst hV
  subst hl
  refine cw_iload_n C dJ7_copyOf_9075b_0 rfl rfl ?_
  refine cw_aload_n C dJ7_copyOf_9075b_1 rfl rfl ?_
  refine cw_alen (j := 0) (a := 0) (v := nI m) C dJ7_copyOf_9075b_2 rfl (by decide) rfl ?_
  refine cw_icmp_ne (tgt := 14) C dJ7_copyOf_9075b_3 (by decide) (fun _ => ?_) (fun z => by have := (nI_eq (by omega) (by omega)).mp z; omega)
  refine cw_iload_n C dJ7_copyOf_9075b_14 rfl rfl ?_
  refine cw_less (rc' := 0 + 1) (rs' := 0 + N) (by omega) (by omega) ?_
  refine cw_newa (atype := .byte) (a := 0) (N := N) (a0 := (N, .inl (fun _ => 0))) (rc := 0) (rs := 0) (pre := [(q, .inl ((CGV G).2.2 0, m, .inl f))]) (Wr := []) C dJ7_copyOf_9075b_15 (gw1 207 rfl rfl) (by decide) rfl (fun _ => rfl) (nI_pos (by omega)) (nI_clamp (by omega)) (by show N * 1 ≤ _; omega) rfl (fun r => ?_)
  refine cw_astore_n C dJ7_copyOf_9075b_17 rfl (by decide) rfl ?_
  refine cw_aload_n C dJ7_copyOf_9075b_18 rfl rfl ?_
  refine cw_iconst (v := (0 : Int32)) C dJ7_copyOf_9075b_19 (by decide) ?_
  refine cw_aload_n C dJ7_copyOf_9075b_20 rfl rfl ?_
  refine cw_iconst (v := (0 : Int32)) C dJ7_copyOf_9075b_21 (by decide) ?_
  refine cw_aload_n C dJ7_copyOf_9075b_22 rfl rfl ?_
  refine cw_alen (j := 0) (a := 0) (v := nI m) C dJ7_copyOf_9075b_23 rfl (by decide) rfl ?_
  refine cw_iload_n C dJ7_copyOf_9075b_24 rfl rfl ?_
  refine cw_min C (CHR_le (by decide) hH) dJ7_copyOf_9075b_25 (gw6 239 rfl rfl) (Nat.le_of_ble_eq_true rfl) ?_
  rw [if_neg (nI_nlt (by omega) (by omega))]
  refine cw_copyB (q0 := 0) (q1 := 1) (n0 := m) (n1 := N) (f := f) (g := fun _ => 0) C (CHR_le (by decide) hH) dJ7_copyOf_9075b_28 (gw7 0 rfl rfl) (gw7 2 rfl rfl) (gw7 1 rfl rfl) (gw1 29 rfl rfl) rfl rfl (by decide) (by decide) (nI_pos (by omega)) (by rw [sb_cl0, nI_clamp (by omega)]; omega) (by rw [sb_cl0, nI_clamp (by omega)]; omega) (fun i _ => hf _) (Nat.le_of_ble_eq_true rfl) ?_
  rw [sb_cl0, nI_clamp (by omega)]
  refine cw_aload_n C dJ7_copyOf_9075b_31 rfl rfl ?_
  exact cw_aret C hR dJ7_copyOf_9075b_32 (Or.inr ⟨_, rfl⟩) rfl ⟨r, rfl, rfl⟩
theorem ms_J7_copyOf_9075b : MS yJ7_copyOf_9075b cJ7_copyOf_9075b 3 (some (.array .byte)) 2 := ⟨(gw6 230 rfl rfl), (gw1 5 rfl rfl), (gw6 231 rfl rfl), ⟨by decide +kernel, by decide +kernel⟩, by decide +kernel, by decide +kernel⟩
/-- a builder with the same signs, with room for at least a, and what was left behind -/
def SBe (V : VT) (h q m : Nat) (f : Nat → Int32) (ml n : Int32) (a : Nat) (W1 : va_W) : Prop := ∃ (q2 m2 : Nat) (f2 : Nat → Int32) (J9 : va_W), W1 = sbW V h q2 m2 f2 ml n ++ J9 ∧ a ≤ m2 ∧ m ≤ m2 ∧ m2 ≤ 60 ∧ (∀ i, i < m → f2 i = f i) ∧ sb_Fit f2 ∧ (q = q2 ∨ q ∈ J9.map Prod.fst)
theorem dJ5_ensureCapacityInternal_d00df_0 : decode cJ5_ensureCapacityInternal_d00df 0 = .ok (.aload_n 0, 1) := by decide +kernel
theorem dJ5_ensureCapacityInternal_d00df_1 : decode cJ5_ensureCapacityInternal_d00df 1 = .ok (.getfield 15, 3) := by decide +kernel
theorem dJ5_ensureCapacityInternal_d00df_4 : decode cJ5_ensureCapacityInternal_d00df 4 = .ok (.arraylength, 1) := by decide +kernel
theorem dJ5_ensureCapacityInternal_d00df_5 : decode cJ5_ensureCapacityInternal_d00df 5 = .ok (.aload_n 0, 1) := by decide +kernel
theorem dJ5_ensureCapacityInternal_d00df_6 : decode cJ5_ensureCapacityInternal_d00df 6 = .ok (.getfield 22, 3) := by decide +kernel
theorem dJ5_ensureCapacityInternal_d00df_9 : decode cJ5_ensureCapacityInternal_d00df 9 = .ok (.ishr, 1) := by decide +kernel
theorem dJ5_ensureCapacityInternal_d00df_10 : decode cJ5_ensureCapacityInternal_d00df 10 = .ok (.istore_n 2, 1) := by decide +kernel
theorem dJ5_ensureCapacityInternal_d00df_11 : decode cJ5_ensureCapacityInternal_d00df 11 = .ok (.iload_n 1, 1) := by decide +kernel
theorem dJ5_ensureCapacityInternal_d00df_12 : decode cJ5_ensureCapacityInternal_d00df 12 = .ok (.iload_n 2, 1) := by decide +kernel
theorem dJ5_ensureCapacityInternal_d00df_13 : decode cJ5_ensureCapacityInternal_d00df 13 = .ok (.isub, 1) := by decide +kernel
theorem dJ5_ensureCapacityInternal_d00df_14 : decode cJ5_ensureCapacityInternal_d00df 14 = .ok (.ifCond .le 24, 3) := by decide +kernel
theorem dJ5_ensureCapacityInternal_d00df_17 : decode cJ5_ensureCapacityInternal_d00df 17 = .ok (.aload_n 0, 1) := by decide +kernel
theorem dJ5_ensureCapacityInternal_d00df_18 : decode cJ5_ensureCapacityInternal_d00df 18 = .ok (.aload_n 0, 1) := by decide +kernel
theorem dJ5_ensureCapacityInternal_d00df_19 : decode cJ5_ensureCapacityInternal_d00df 19 = .ok (.getfield 15, 3) := by decide +kernel
theorem dJ5_ensureCapacityInternal_d00df_22 : decode cJ5_ensureCapacityInternal_d00df 22 = .ok (.aload_n 0, 1) := by decide +kernel
theorem dJ5_ensureCapacityInternal_d00df_23 : decode cJ5_ensureCapacityInternal_d00df 23 = .ok (.iload_n 1, 1) := by decide +kernel
theorem dJ5_ensureCapacityInternal_d00df_24 : decode cJ5_ensureCapacityInternal_d00df 24 = .ok (.invokevirtual 104, 3) := by decide +kernel
theorem dJ5_ensureCapacityInternal_d00df_27 : decode cJ5_ensureCapacityInternal_d00df 27 = .ok (.aload_n 0, 1) := by decide +kernel
theorem dJ5_ensureCapacityInternal_d00df_28 : decode cJ5_ensureCapacityInternal_d00df 28 = .ok (.getfield 22, 3) := by decide +kernel
theorem dJ5_ensureCapacityInternal_d00df_31 : decode cJ5_ensureCapacityInternal_d00df 31 = .ok (.ishl, 1) := by decide +kernel
theorem dJ5_ensureCapacityInternal_d00df_32 : decode cJ5_ensureCapacityInternal_d00df 32 = .ok (.invokestatic 108, 3) := by decide +kernel
theorem dJ5_ensureCapacityInternal_d00df_35 : decode cJ5_ensureCapacityInternal_d00df 35 = .ok (.putfield 15, 3) := by decide +kernel
theorem dJ5_ensureCapacityInternal_d00df_38 : decode cJ5_ensureCapacityInternal_d00df 38 = .ok (.return_, 1) := by decide +kernel
set_option maxHeartbeats 2000000 in
set_option maxRecDepth 20000 in
theorem c_ens {l : Launch} {V : VT} (h q m : Nat) (f : Nat → Int32) (ml n : Int32) (a : Nat) (hm : 16 ≤ m ∧ m ≤ 60) (ha : a ≤ 27) (hf : sb_Fit f) : CMet l yJ5_ensureCapacityInternal_d00df (.code yJ5_ensureCapacityInternal_d00df cJ5_ensureCapacityInternal_d00df 3 none) 3 1 60 V [.ref h, .int (nI a)] (sbW V h q m f ml n) (fun v W1 => v = none ∧ SBe V h q m f ml n a W1) := by
  refine CMet_of (args := [pW (.ref h), pI (nI a)]) (by decide +kernel) rfl (Nat.le_of_ble_eq_true rfl) (fun G hV hl C hR hH hN => ?_)
  subst hV
  subst hl
  refine cw_aload_n C dJ5_ensureCapacityInternal_d00df_0 rfl rfl ?_
  refine cw_get (j := 0) (f := 0) (ci := 1) (K := RJ4) (T := TJ4) (N := 4) (fs := [.ref q, .int 0, .int ml, .int n]) C dJ5_ensureCapacityInternal_d00df_1 inJ4 rfl rfl (by decide) (gw1 193 rfl rfl) (Or.inl rfl) rfl ?_
  refine cw_alen (j := 1) (a := 0) (v := nI m) C dJ5_ensureCapacityInternal_d00df_4 rfl (by decide) rfl ?_
  refine cw_aload_n C dJ5_ensureCapacityInternal_d00df_5 rfl rfl ?_
  refine cw_get (j := 0) (f := 1) (ci := 1) (K := RJ4) (T := TJ4) (N := 4) (fs := [.ref q, .int 0, .int ml, .int n]) C dJ5_ensureCapacityInternal_d00df_6 inJ4 rfl rfl (by decide) (gw1 194 rfl rfl) (Or.inl rfl) rfl ?_
  refine cw_ishr C dJ5_ensureCapacityInternal_d00df_9 ?_
  rw [sb_shr0]
  refine cw_istore_n C dJ5_ensureCapacityInternal_d00df_10 rfl (by decide) rfl ?_
  refine cw_iload_n C dJ5_ensureCapacityInternal_d00df_11 rfl rfl ?_
  refine cw_iload_n C dJ5_ensureCapacityInternal_d00df_12 rfl rfl ?_
  refine cw_isub C dJ5_ensureCapacityInternal_d00df_13 ?_
  by_cases hc : a ≤ m
  · refine cw_if_le (tgt := 38) C dJ5_ensureCapacityInternal_d00df_14 (by decide) (fun _ => ?_) (fun z => absurd (by rw [Int32.le_iff_toInt_le, pk_sub_toInt (by omega) (by omega), Int32.toInt_zero]; omega) z)
    exact cw_vret C hR dJ5_ensureCapacityInternal_d00df_38 rfl ⟨rfl, q, m, f, [], rfl, hc, Nat.le_refl _, hm.2, fun _ _ => rfl, hf, Or.inl rfl⟩
  · refine cw_if_le (tgt := 38) C dJ5_ensureCapacityInternal_d00df_14 (by decide) (fun z => absurd z (by rw [Int32.le_iff_toInt_le, pk_sub_toInt (by omega) (by omega), Int32.toInt_zero]; omega)) (fun _ => ?_)
    refine cw_aload_n C dJ5_ensureCapacityInternal_d00df_17 rfl rfl ?_
    refine cw_aload_n C dJ5_ensureCapacityInternal_d00df_18 rfl rfl ?_
    refine cw_get (j := 0) (f := 0) (ci := 1) (K := RJ4) (T := TJ4) (N := 4) (fs := [.ref q, .int 0, .int ml, .int n]) C dJ5_ensureCapacityInternal_d00df_19 inJ4 rfl rfl (by decide) (gw1 193 rfl rfl) (Or.inl rfl) rfl ?_
    refine cw_aload_n C dJ5_ensureCapacityInternal_d00df_22 rfl rfl ?_
    refine cw_iload_n C dJ5_ensureCapacityInternal_d00df_23 rfl rfl ?_
    refine cw_callU (h := 2) (mc := 0) (ms := 0) (n := 1) (rc' := 1) (rs' := 60) (as := [.int (nI a)]) (rest := [.ref q, .ref h]) (fs := [.ref q, .int 0, .int ml, .int n]) (W0 := (sbW (CGV G) h q m f ml n)) (Wr := []) C (CHR_le (by decide) hH) dJ5_ensureCapacityInternal_d00df_24 (gw6 216 rfl rfl) (gw10 106 rfl rfl) (Or.inr (List.mem_cons_of_mem _ List.mem_cons_self)) (gw6 218 rfl rfl) (gw1 7 rfl rfl) (gw6 219 rfl rfl) ⟨by decide +kernel, by decide +kernel⟩ (by decide +kernel) (c_newC h q m f ml n a (by omega) (by omega)) rfl (List.Perm.refl _) rfl rfl (Nat.le_of_ble_eq_true rfl) (by decide) (by omega) (by omega) (fun v9 W9 h9 => ?_)
    obtain ⟨rfl, rfl⟩ := h9
    have e : m + (if a - m < m + 2 then m + 2 else a - m) = 2 * m + 2 := by rw [if_pos (by omega)]; omega
    rw [e]
    refine cw_aload_n C dJ5_ensureCapacityInternal_d00df_27 rfl rfl ?_
    refine cw_get (j := 0) (f := 1) (ci := 1) (K := RJ4) (T := TJ4) (N := 4) (fs := [.ref q, .int 0, .int ml, .int n]) C dJ5_ensureCapacityInternal_d00df_28 inJ4 rfl rfl (by decide) (gw1 194 rfl rfl) (Or.inl rfl) rfl ?_
    refine cw_ishl C dJ5_ensureCapacityInternal_d00df_31 ?_
    rw [sb_shl0]
    refine cw_callS (h := 1) (mc := 1) (ms := 60) (n := 2) (rc' := 0) (rs' := 0) (as := [.ref q, .int (nI (2 * m + 2))]) (rest := [.ref h]) (W0 := [(q, .inl ((CGV G).2.2 0, m, .inl f))]) (Wr := [(h, .inr (1, [.ref q, .int 0, .int ml, .int n]))]) C (CHR_le (by decide) hH) dJ5_ensureCapacityInternal_d00df_32 (gw6 229 rfl rfl) ms_J7_copyOf_9075b (c_cpy q m (2 * m + 2) f (by omega) hf) (perm_pick (j := 1) rfl) rfl rfl (Nat.le_of_ble_eq_true rfl) (by decide) (by omega) (by omega) (fun v9 W9 h9 => ?_)
    obtain ⟨r, rfl, rfl⟩ := h9
    refine cw_perm (W' := (h, .inr (1, [.ref q, .int 0, .int ml, .int n])) :: [(q, .inl ((CGV G).2.2 0, m, .inl f)), (r, .inl ((CGV G).2.2 0, 2 * m + 2, .inl (va_cpy f (fun _ => 0) 0 0 m)))]) (perm_pick (j := 2) rfl) ?_
    refine cw_put (j := 0) (f := 0) (ci := 1) (K := RJ4) (T := TJ4) (N := 4) (fs := [.ref q, .int 0, .int ml, .int n]) (ty := .array .byte) C dJ5_ensureCapacityInternal_d00df_35 inJ4 tyJ4 tyJ4_ok nmJ4 rfl rfl (by decide) (gw1 193 rfl rfl) (Or.inl rfl) (Or.inl rfl) (by decide +kernel) rfl rfl (Nat.le_of_ble_eq_true rfl) ?_
    refine cw_perm (W' := [(h, .inr (1, [.ref r, .int 0, .int ml, .int n])), (r, .inl ((CGV G).2.2 0, 2 * m + 2, .inl (va_cpy f (fun _ => 0) 0 0 m))), (q, .inl ((CGV G).2.2 0, m, .inl f))]) (List.Perm.cons _ (List.Perm.swap _ _ _)) ?_
    exact cw_vret C hR dJ5_ensureCapacityInternal_d00df_38 rfl ⟨rfl, r, 2 * m + 2, va_cpy f (fun _ => 0) 0 0 m, [(q, .inl ((CGV G).2.2 0, m, .inl f))], rfl, by omega, by omega, by omega, fun i hi => sb_cpy0 hi, sb_fitC hf sb_fit0, Or.inr List.mem_cons_self⟩
theorem cw_none {G : CG} {rc rs pc i : Nat} {ls : List (Option PV)} {st : List Value} {W9 : va_W} (k : CW G rc rs pc (ls.set i none) st W9) : CW G rc rs pc ls st W9 := by
  obtain ⟨p, l, e, R, s, m, args, below, meth, c, Q, A, V⟩ := G
  intro H locs cells slots lsM hP hD hS hl h1 h2
  refine k H locs cells slots lsM hP hD hS ⟨hl.1, hl.2.1, fun q hq => hl.2.2 q ?_⟩ h1 h2
  obtain ⟨n, v, h3, rfl⟩ := asc_of hq
  by_cases hn : n = i
  · subst hn
    have hl : n < (ls.set n none).length := (List.getElem?_eq_some_iff.mp h3).1
    rw [List.length_set] at hl
    rw [List.getElem?_set_self hl] at h3
    cases h3
  · rw [List.getElem?_set_ne (Ne.symm hn)] at h3
    exact asc_mem h3
theorem SBq.rf {V : VT} {x : TX} {h q m : Nat} {f : Nat → Int32} {ml : Int32} (hx : x.1 ≤ m ∧ 16 ≤ m ∧ m ≤ 60 ∧ sb_Fit f ∧ sb_Lat x.2 x.1 f) : SBq V h x (sbW V h q m f ml (nI x.1)) (sbW V h q m f ml (nI x.1)) := ⟨⟨q, m, f, ml, [], (List.append_nil _).symm, hx.1, hx.2.1, hx.2.2.1, hx.2.2.2.1, hx.2.2.2.2⟩, fun a h => h⟩
theorem sub_ens {V : VT} {h q m q2 m2 : Nat} {f f2 : Nat → Int32} {ml ml2 n n2 : Int32} {J9 Wr : va_W} (hq : q = q2 ∨ q ∈ J9.map Prod.fst) : ∀ a ∈ (sbW V h q m f ml n).map Prod.fst, a ∈ (sbW V h q2 m2 f2 ml2 n2 ++ (J9 ++ Wr)).map Prod.fst := by
  intro a ha
  rw [List.map_append, List.map_append]
  rcases List.mem_cons.mp ha with rfl | ha
  · exact List.mem_append_left _ List.mem_cons_self
  · rcases List.mem_cons.mp ha with rfl | ha
    · rcases hq with h1 | h1
      · exact List.mem_append_left _ (h1 ▸ List.mem_cons_of_mem _ List.mem_cons_self)
      · exact List.mem_append_right _ (List.mem_append_left _ h1)
    · cases ha
theorem dJ5_length_8abf5_0 : decode cJ5_length_8abf5 0 = .ok (.aload_n 0, 1) := by decide +kernel
theorem dJ5_length_8abf5_1 : decode cJ5_length_8abf5 1 = .ok (.getfield 79, 3) := by decide +kernel
theorem dJ5_length_8abf5_4 : decode cJ5_length_8abf5 4 = .ok (.ireturn, 1) := by decide +kernel
set_option maxHeartbeats 2000000 in
set_option maxRecDepth 20000 in
theorem c_len5 {l : Launch} {V : VT} (x : TX) (h q m : Nat) (f : Nat → Int32) (ml : Int32) (hx : (x.1 ≤ m ∧ 16 ≤ m ∧ m ≤ 60 ∧ sb_Fit f ∧ sb_Lat x.2 x.1 f)) : CMet l yJ5_length_8abf5 (.code yJ5_length_8abf5 cJ5_length_8abf5 1 (some .int)) 1 0 0 V [.ref h] (sbW V h q m f ml (nI x.1)) (fun v W1 => v = some (.int (nI x.1)) ∧ SBq V h x (sbW V h q m f ml (nI x.1)) W1) := by
  refine CMet_of (args := [pW (.ref h)]) (by decide +kernel) rfl (Nat.le_of_ble_eq_true rfl) (fun G hV hl C hR hH hN => ?_)
  subst hV
  subst hl
  refine cw_aload_n C dJ5_length_8abf5_0 rfl rfl ?_
  refine cw_get (j := 0) (f := 3) (ci := 1) (K := RJ4) (T := TJ4) (N := 4) (fs := [.ref q, .int 0, .int ml, .int (nI x.1)]) C dJ5_length_8abf5_1 inJ4 rfl rfl (by decide) (gw1 197 rfl rfl) (Or.inl rfl) rfl ?_
  exact cw_iret C hR dJ5_length_8abf5_4 rfl rfl ⟨rfl, SBq.rf hx⟩
theorem dJ4_length_8abf5_0 : decode cJ4_length_8abf5 0 = .ok (.aload_n 0, 1) := by decide +kernel
theorem dJ4_length_8abf5_1 : decode cJ4_length_8abf5 1 = .ok (.invokespecial 343, 3) := by decide +kernel
theorem dJ4_length_8abf5_4 : decode cJ4_length_8abf5 4 = .ok (.ireturn, 1) := by decide +kernel
set_option maxHeartbeats 2000000 in
set_option maxRecDepth 20000 in
theorem c_len4 {l : Launch} {V : VT} (x : TX) (h q m : Nat) (f : Nat → Int32) (ml : Int32) (hx : (x.1 ≤ m ∧ 16 ≤ m ∧ m ≤ 60 ∧ sb_Fit f ∧ sb_Lat x.2 x.1 f)) : CMet l yJ4_length_8abf5 (.code yJ4_length_8abf5 cJ4_length_8abf5 1 (some .int)) 2 0 0 V [.ref h] (sbW V h q m f ml (nI x.1)) (fun v W1 => v = some (.int (nI x.1)) ∧ SBq V h x (sbW V h q m f ml (nI x.1)) W1) := by
  refine CMet_of (args := [pW (.ref h)]) (by decide +kernel) rfl (Nat.le_of_ble_eq_true rfl) (fun G hV hl C hR hH hN => ?_)
  subst hV
  subst hl
  refine cw_aload_n C dJ4_length_8abf5_0 rfl rfl ?_
  refine cw_callSU (h := 1) (mc := 0) (ms := 0) (n := 0) (rc' := 0) (rs' := 0) (as := []) (rest := []) (fs := [.ref q, .int 0, .int ml, .int (nI x.1)]) (W0 := (sbW (CGV G) h q m f ml (nI x.1))) (Wr := []) C (CHR_le (by decide) hH) dJ4_length_8abf5_1 (gw7 125 rfl rfl) (gw7 121 rfl rfl) (gw1 206 rfl rfl) (gw7 120 rfl rfl) (gw1 7 rfl rfl) (gw7 126 rfl rfl) (by decide +kernel) (by decide +kernel) (c_len5 x h q m f ml hx) rfl (List.Perm.refl _) rfl rfl (Nat.le_of_ble_eq_true rfl) (by decide) (by omega) (by omega) (fun v9 W9 h9 => ?_)
  obtain ⟨rfl, h9⟩ := h9
  exact cw_iret C hR dJ4_length_8abf5_4 rfl rfl ⟨rfl, by rw [List.append_nil]; exact h9⟩
theorem dJ3_checkIndex_8e157_0 : decode cJ3_checkIndex_8e157 0 = .ok (.iload_n 0, 1) := by decide +kernel
theorem dJ3_checkIndex_8e157_1 : decode cJ3_checkIndex_8e157 1 = .ok (.ifCond .lt 8, 3) := by decide +kernel
theorem dJ3_checkIndex_8e157_4 : decode cJ3_checkIndex_8e157 4 = .ok (.iload_n 0, 1) := by decide +kernel
theorem dJ3_checkIndex_8e157_5 : decode cJ3_checkIndex_8e157 5 = .ok (.iload_n 1, 1) := by decide +kernel
theorem dJ3_checkIndex_8e157_6 : decode cJ3_checkIndex_8e157 6 = .ok (.if_icmp .lt 10, 3) := by decide +kernel
theorem dJ3_checkIndex_8e157_9 : decode cJ3_checkIndex_8e157 9 = .ok (.aload_n 2, 1) := by decide +kernel
theorem dJ3_checkIndex_8e157_10 : decode cJ3_checkIndex_8e157 10 = .ok (.iload_n 0, 1) := by decide +kernel
theorem dJ3_checkIndex_8e157_11 : decode cJ3_checkIndex_8e157 11 = .ok (.iload_n 1, 1) := by decide +kernel
theorem dJ3_checkIndex_8e157_12 : decode cJ3_checkIndex_8e157 12 = .ok (.invokestatic 95, 3) := by decide +kernel
theorem dJ3_checkIndex_8e157_15 : decode cJ3_checkIndex_8e157 15 = .ok (.athrow, 1) := by decide +kernel
theorem dJ3_checkIndex_8e157_16 : decode cJ3_checkIndex_8e157 16 = .ok (.iload_n 0, 1) := by decide +kernel
theorem dJ3_checkIndex_8e157_17 : decode cJ3_checkIndex_8e157 17 = .ok (.ireturn, 1) := by decide +kernel
set_option maxHeartbeats 2000000 in
set_option maxRecDepth 20000 in
theorem c_chk3 {l : Launch} {V : VT} (i n : Nat) (w : Value) (hv : w.category = 1) (hi : i < n ∧ n < 1000) : CMet l yJ3_checkIndex_8e157 (.code yJ3_checkIndex_8e157 cJ3_checkIndex_8e157 3 (some .int)) 1 0 0 V [.int (nI i), .int (nI n), w] ([]) (fun v W1 => v = some (.int (nI i)) ∧ W1 = []) := by
  refine CMet_of (args := [pI (nI i), pI (nI n), pW w]) (by decide +kernel) (by simp [c1, hv]) (Nat.le_of_ble_eq_true rfl) (fun G hV hl C hR hH hN => ?_)
  subst hV
  subst hl
  refine cw_iload_n C dJ3_checkIndex_8e157_0 rfl rfl ?_
  refine cw_if_lt (tgt := 9) C dJ3_checkIndex_8e157_1 (by decide) (fun z => absurd z (nI_pos (by omega))) (fun _ => ?_)
  refine cw_iload_n C dJ3_checkIndex_8e157_4 rfl rfl ?_
  refine cw_iload_n C dJ3_checkIndex_8e157_5 rfl rfl ?_
  refine cw_icmp_lt (tgt := 16) C dJ3_checkIndex_8e157_6 (by decide) (fun _ => ?_) (fun z => absurd (nI_lt (by omega) (by omega)) z)
  refine cw_iload_n C dJ3_checkIndex_8e157_16 rfl rfl ?_
  exact cw_iret C hR dJ3_checkIndex_8e157_17 rfl rfl ⟨rfl, rfl⟩
theorem dJ0_checkIndex_df160_0 : decode cJ0_checkIndex_df160 0 = .ok (.iload_n 0, 1) := by decide +kernel
theorem dJ0_checkIndex_df160_1 : decode cJ0_checkIndex_df160 1 = .ok (.iload_n 1, 1) := by decide +kernel
theorem dJ0_checkIndex_df160_2 : decode cJ0_checkIndex_df160 2 = .ok (.getstatic 1053, 3) := by decide +kernel
theorem dJ0_checkIndex_df160_5 : decode cJ0_checkIndex_df160 5 = .ok (.invokestatic 1059, 3) := by decide +kernel
theorem dJ0_checkIndex_df160_8 : decode cJ0_checkIndex_df160 8 = .ok (.pop, 1) := by decide +kernel
theorem dJ0_checkIndex_df160_9 : decode cJ0_checkIndex_df160 9 = .ok (.return_, 1) := by decide +kernel
set_option maxHeartbeats 2000000 in
set_option maxRecDepth 20000 in
theorem c_chk0 {l : Launch} {V : VT} (i n : Nat) (hi : i < n ∧ n < 1000) : CMet l yJ0_checkIndex_df160 (.code yJ0_checkIndex_df160 cJ0_checkIndex_df160 2 none) 2 0 0 V [.int (nI i), .int (nI n)] ([]) (fun v W1 => v = none ∧ W1 = []) := by
  refine CMet_of (args := [pI (nI i), pI (nI n)]) (by decide +kernel) rfl (Nat.le_of_ble_eq_true rfl) (fun G hV hl C hR hH hN => ?_)
  subst hV
  subst hl
  refine cw_iload_n C dJ0_checkIndex_df160_0 rfl rfl ?_
  refine cw_iload_n C dJ0_checkIndex_df160_1 rfl rfl ?_
  refine cw_getF C dJ0_checkIndex_df160_2 (gw7 20 rfl rfl) (fun w hv => ?_)
  refine cw_callS (h := 1) (mc := 0) (ms := 0) (n := 3) (rc' := 0) (rs' := 0) (as := [.int (nI i), .int (nI n), w]) (rest := []) (W0 := []) (Wr := []) C (CHR_le (by decide) hH) dJ0_checkIndex_df160_5 (gw7 219 rfl rfl) ms_J3_checkIndex_8e157 (c_chk3 i n w hv hi) (List.Perm.refl _) rfl rfl (Nat.le_of_ble_eq_true rfl) (by decide) (by omega) (by omega) (fun v9 W9 h9 => ?_)
  obtain ⟨rfl, rfl⟩ := h9
  refine cw_pop C dJ0_checkIndex_df160_8 rfl ?_
  exact cw_vret C hR dJ0_checkIndex_df160_9 rfl ⟨rfl, rfl⟩
theorem dJ5_charAt_5068e_0 : decode cJ5_charAt_5068e 0 = .ok (.aload_n 0, 1) := by decide +kernel
theorem dJ5_charAt_5068e_1 : decode cJ5_charAt_5068e 1 = .ok (.getfield 22, 3) := by decide +kernel
theorem dJ5_charAt_5068e_4 : decode cJ5_charAt_5068e 4 = .ok (.istore_n 2, 1) := by decide +kernel
theorem dJ5_charAt_5068e_5 : decode cJ5_charAt_5068e 5 = .ok (.aload_n 0, 1) := by decide +kernel
theorem dJ5_charAt_5068e_6 : decode cJ5_charAt_5068e 6 = .ok (.getfield 15, 3) := by decide +kernel
theorem dJ5_charAt_5068e_9 : decode cJ5_charAt_5068e 9 = .ok (.astore_n 3, 1) := by decide +kernel
theorem dJ5_charAt_5068e_10 : decode cJ5_charAt_5068e 10 = .ok (.aload_n 0, 1) := by decide +kernel
theorem dJ5_charAt_5068e_11 : decode cJ5_charAt_5068e 11 = .ok (.getfield 79, 3) := by decide +kernel
theorem dJ5_charAt_5068e_14 : decode cJ5_charAt_5068e 14 = .ok (.aload_n 3, 1) := by decide +kernel
theorem dJ5_charAt_5068e_15 : decode cJ5_charAt_5068e 15 = .ok (.arraylength, 1) := by decide +kernel
theorem dJ5_charAt_5068e_16 : decode cJ5_charAt_5068e 16 = .ok (.iload_n 2, 1) := by decide +kernel
theorem dJ5_charAt_5068e_17 : decode cJ5_charAt_5068e 17 = .ok (.ishr, 1) := by decide +kernel
theorem dJ5_charAt_5068e_18 : decode cJ5_charAt_5068e 18 = .ok (.invokestatic 138, 3) := by decide +kernel
theorem dJ5_charAt_5068e_21 : decode cJ5_charAt_5068e 21 = .ok (.istore 4, 2) := by decide +kernel
theorem dJ5_charAt_5068e_23 : decode cJ5_charAt_5068e 23 = .ok (.iload_n 1, 1) := by decide +kernel
theorem dJ5_charAt_5068e_24 : decode cJ5_charAt_5068e 24 = .ok (.iload 4, 2) := by decide +kernel
theorem dJ5_charAt_5068e_26 : decode cJ5_charAt_5068e 26 = .ok (.invokestatic 144, 3) := by decide +kernel
theorem dJ5_charAt_5068e_29 : decode cJ5_charAt_5068e 29 = .ok (.iload_n 2, 1) := by decide +kernel
theorem dJ5_charAt_5068e_30 : decode cJ5_charAt_5068e 30 = .ok (.ifCond .ne 12, 3) := by decide +kernel
theorem dJ5_charAt_5068e_33 : decode cJ5_charAt_5068e 33 = .ok (.aload_n 3, 1) := by decide +kernel
theorem dJ5_charAt_5068e_34 : decode cJ5_charAt_5068e 34 = .ok (.iload_n 1, 1) := by decide +kernel
theorem dJ5_charAt_5068e_35 : decode cJ5_charAt_5068e 35 = .ok (.baload, 1) := by decide +kernel
theorem dJ5_charAt_5068e_36 : decode cJ5_charAt_5068e 36 = .ok (.sipush 255, 3) := by decide +kernel
theorem dJ5_charAt_5068e_39 : decode cJ5_charAt_5068e 39 = .ok (.iand, 1) := by decide +kernel
theorem dJ5_charAt_5068e_40 : decode cJ5_charAt_5068e 40 = .ok (.i2c, 1) := by decide +kernel
theorem dJ5_charAt_5068e_41 : decode cJ5_charAt_5068e 41 = .ok (.ireturn, 1) := by decide +kernel
theorem dJ5_charAt_5068e_42 : decode cJ5_charAt_5068e 42 = .ok (.aload_n 3, 1) := by decide +kernel
theorem dJ5_charAt_5068e_43 : decode cJ5_charAt_5068e 43 = .ok (.iload_n 1, 1) := by decide +kernel
theorem dJ5_charAt_5068e_44 : decode cJ5_charAt_5068e 44 = .ok (.invokestatic 148, 3) := by decide +kernel
theorem dJ5_charAt_5068e_47 : decode cJ5_charAt_5068e 47 = .ok (.ireturn, 1) := by decide +kernel
set_option maxHeartbeats 2000000 in
set_option maxRecDepth 20000 in
theorem c_chr5 {l : Launch} {V : VT} (x : TX) (h q m : Nat) (f : Nat → Int32) (ml : Int32) (i : Nat) (hx : (x.1 ≤ m ∧ 16 ≤ m ∧ m ≤ 60 ∧ sb_Fit f ∧ sb_Lat x.2 x.1 f)) (hi : i < x.1) : CMet l yJ5_charAt_5068e (.code yJ5_charAt_5068e cJ5_charAt_5068e 5 (some .char)) 3 0 0 V [.ref h, .int (nI i)] (sbW V h q m f ml (nI x.1)) (fun v W1 => v = some (.int (nI (x.2 i))) ∧ SBq V h x (sbW V h q m f ml (nI x.1)) W1) := by
  refine CMet_of (args := [pW (.ref h), pI (nI i)]) (by decide +kernel) rfl (Nat.le_of_ble_eq_true rfl) (fun G hV hl C hR hH hN => ?_)
  subst hV
  subst hl
  refine cw_aload_n C dJ5_charAt_5068e_0 rfl rfl ?_
  refine cw_get (j := 0) (f := 1) (ci := 1) (K := RJ4) (T := TJ4) (N := 4) (fs := [.ref q, .int 0, .int ml, .int (nI x.1)]) C dJ5_charAt_5068e_1 inJ4 rfl rfl (by decide) (gw1 194 rfl rfl) (Or.inl rfl) rfl ?_
  refine cw_istore_n C dJ5_charAt_5068e_4 rfl (by decide) rfl ?_
  refine cw_aload_n C dJ5_charAt_5068e_5 rfl rfl ?_
  refine cw_get (j := 0) (f := 0) (ci := 1) (K := RJ4) (T := TJ4) (N := 4) (fs := [.ref q, .int 0, .int ml, .int (nI x.1)]) C dJ5_charAt_5068e_6 inJ4 rfl rfl (by decide) (gw1 193 rfl rfl) (Or.inl rfl) rfl ?_
  refine cw_astore_n C dJ5_charAt_5068e_9 rfl (by decide) rfl ?_
  refine cw_aload_n C dJ5_charAt_5068e_10 rfl rfl ?_
  refine cw_get (j := 0) (f := 3) (ci := 1) (K := RJ4) (T := TJ4) (N := 4) (fs := [.ref q, .int 0, .int ml, .int (nI x.1)]) C dJ5_charAt_5068e_11 inJ4 rfl rfl (by decide) (gw1 197 rfl rfl) (Or.inl rfl) rfl ?_
  refine cw_aload_n C dJ5_charAt_5068e_14 rfl rfl ?_
  refine cw_alen (j := 1) (a := 0) (v := nI m) C dJ5_charAt_5068e_15 rfl (by decide) rfl ?_
  refine cw_iload_n C dJ5_charAt_5068e_16 rfl rfl ?_
  refine cw_ishr C dJ5_charAt_5068e_17 ?_
  rw [sb_shr0]
  refine cw_min C (CHR_le (by decide) hH) dJ5_charAt_5068e_18 (gw7 231 rfl rfl) (Nat.le_of_ble_eq_true rfl) ?_
  rw [if_neg (nI_nlt (by omega) (by omega))]
  refine cw_istore C dJ5_charAt_5068e_21 (by decide) rfl ?_
  refine cw_iload_n C dJ5_charAt_5068e_23 rfl rfl ?_
  refine cw_iload C dJ5_charAt_5068e_24 rfl ?_
  refine cw_callS (h := 2) (mc := 0) (ms := 0) (n := 2) (rc' := 0) (rs' := 0) (as := [.int (nI i), .int (nI x.1)]) (rest := []) (W0 := []) (Wr := (sbW (CGV G) h q m f ml (nI x.1))) C (CHR_le (by decide) hH) dJ5_charAt_5068e_26 (gw7 232 rfl rfl) ms_J0_checkIndex_df160 (c_chk0 i x.1 (by omega)) (List.Perm.refl _) rfl rfl (Nat.le_of_ble_eq_true rfl) (by decide) (by omega) (by omega) (fun v9 W9 h9 => ?_)
  obtain ⟨rfl, rfl⟩ := h9
  refine cw_iload_n C dJ5_charAt_5068e_29 rfl rfl ?_
  refine cw_if_ne (tgt := 42) C dJ5_charAt_5068e_30 (by decide) (fun z => absurd rfl z) (fun _ => ?_)
  refine cw_aload_n C dJ5_charAt_5068e_33 rfl rfl ?_
  refine cw_iload_n C dJ5_charAt_5068e_34 rfl rfl ?_
  refine cw_bald (j := 1) (n := m) (f := f) C dJ5_charAt_5068e_35 rfl (vp_in_nI (by omega) (by omega)) ?_
  obtain ⟨h5, h6⟩ := hx.2.2.2.2 i hi
  obtain ⟨b1, b2, -⟩ := sb_byte _ h5
  rw [nI_clamp (by omega), h6]
  refine cw_sipush (v := (255 : Int32)) C dJ5_charAt_5068e_36 (by decide) ?_
  refine cw_iand C dJ5_charAt_5068e_39 ?_
  rw [show (255 : Int32) = 255 from rfl, b1]
  refine cw_i2c (v := nI (x.2 i)) C dJ5_charAt_5068e_40 b2 ?_
  exact cw_iret C hR dJ5_charAt_5068e_41 (congrArg Value.int b2) rfl ⟨rfl, SBq.rf hx⟩
theorem dJ4_charAt_5068e_0 : decode cJ4_charAt_5068e 0 = .ok (.aload_n 0, 1) := by decide +kernel
theorem dJ4_charAt_5068e_1 : decode cJ4_charAt_5068e 1 = .ok (.iload_n 1, 1) := by decide +kernel
theorem dJ4_charAt_5068e_2 : decode cJ4_charAt_5068e 2 = .ok (.invokespecial 329, 3) := by decide +kernel
theorem dJ4_charAt_5068e_5 : decode cJ4_charAt_5068e 5 = .ok (.ireturn, 1) := by decide +kernel
set_option maxHeartbeats 2000000 in
set_option maxRecDepth 20000 in
theorem c_chr4 {l : Launch} {V : VT} (x : TX) (h q m : Nat) (f : Nat → Int32) (ml : Int32) (i : Nat) (hx : (x.1 ≤ m ∧ 16 ≤ m ∧ m ≤ 60 ∧ sb_Fit f ∧ sb_Lat x.2 x.1 f)) (hi : i < x.1) : CMet l yJ4_charAt_5068e (.code yJ4_charAt_5068e cJ4_charAt_5068e 2 (some .char)) 4 0 0 V [.ref h, .int (nI i)] (sbW V h q m f ml (nI x.1)) (fun v W1 => v = some (.int (nI (x.2 i))) ∧ SBq V h x (sbW V h q m f ml (nI x.1)) W1) := by
  refine CMet_of (args := [pW (.ref h), pI (nI i)]) (by decide +kernel) rfl (Nat.le_of_ble_eq_true rfl) (fun G hV hl C hR hH hN => ?_)
  subst hV
  subst hl
  refine cw_aload_n C dJ4_charAt_5068e_0 rfl rfl ?_
  refine cw_iload_n C dJ4_charAt_5068e_1 rfl rfl ?_
  refine cw_callSU (h := 3) (mc := 0) (ms := 0) (n := 1) (rc' := 0) (rs' := 0) (as := [.int (nI i)]) (rest := []) (fs := [.ref q, .int 0, .int ml, .int (nI x.1)]) (W0 := (sbW (CGV G) h q m f ml (nI x.1))) (Wr := []) C (CHR_le (by decide) hH) dJ4_charAt_5068e_2 (gw7 228 rfl rfl) (gw10 113 rfl rfl) (gw1 206 rfl rfl) (gw7 229 rfl rfl) (gw1 7 rfl rfl) (gw7 230 rfl rfl) (by decide +kernel) (by decide +kernel) (c_chr5 x h q m f ml i hx hi) rfl (List.Perm.refl _) rfl rfl (Nat.le_of_ble_eq_true rfl) (by decide) (by omega) (by omega) (fun v9 W9 h9 => ?_)
  obtain ⟨rfl, h9⟩ := h9
  obtain ⟨h5, -⟩ := hx.2.2.2.2 i hi
  obtain ⟨-, b2, -⟩ := sb_byte _ h5
  exact cw_iret C hR dJ4_charAt_5068e_5 (congrArg Value.int b2) rfl ⟨rfl, by rw [List.append_nil]; exact h9⟩
theorem dJ5_setLength_d00df_0 : decode cJ5_setLength_d00df 0 = .ok (.iload_n 1, 1) := by decide +kernel
theorem dJ5_setLength_d00df_1 : decode cJ5_setLength_d00df 1 = .ok (.ifCond .ge 12, 3) := by decide +kernel
theorem dJ5_setLength_d00df_4 : decode cJ5_setLength_d00df 4 = .ok (.new 129, 3) := by decide +kernel
theorem dJ5_setLength_d00df_7 : decode cJ5_setLength_d00df 7 = .ok (.dup, 1) := by decide +kernel
theorem dJ5_setLength_d00df_8 : decode cJ5_setLength_d00df 8 = .ok (.iload_n 1, 1) := by decide +kernel
theorem dJ5_setLength_d00df_9 : decode cJ5_setLength_d00df 9 = .ok (.invokespecial 131, 3) := by decide +kernel
theorem dJ5_setLength_d00df_12 : decode cJ5_setLength_d00df 12 = .ok (.athrow, 1) := by decide +kernel
theorem dJ5_setLength_d00df_13 : decode cJ5_setLength_d00df 13 = .ok (.aload_n 0, 1) := by decide +kernel
theorem dJ5_setLength_d00df_14 : decode cJ5_setLength_d00df 14 = .ok (.iload_n 1, 1) := by decide +kernel
theorem dJ5_setLength_d00df_15 : decode cJ5_setLength_d00df 15 = .ok (.invokevirtual 100, 3) := by decide +kernel
theorem dJ5_setLength_d00df_18 : decode cJ5_setLength_d00df 18 = .ok (.aload_n 0, 1) := by decide +kernel
theorem dJ5_setLength_d00df_19 : decode cJ5_setLength_d00df 19 = .ok (.getfield 79, 3) := by decide +kernel
theorem dJ5_setLength_d00df_22 : decode cJ5_setLength_d00df 22 = .ok (.iload_n 1, 1) := by decide +kernel
theorem dJ5_setLength_d00df_23 : decode cJ5_setLength_d00df 23 = .ok (.if_icmp .ge 40, 3) := by decide +kernel
theorem dJ5_setLength_d00df_26 : decode cJ5_setLength_d00df 26 = .ok (.aload_n 0, 1) := by decide +kernel
theorem dJ5_setLength_d00df_27 : decode cJ5_setLength_d00df 27 = .ok (.invokevirtual 83, 3) := by decide +kernel
theorem dJ5_setLength_d00df_30 : decode cJ5_setLength_d00df 30 = .ok (.ifCond .eq 18, 3) := by decide +kernel
theorem dJ5_setLength_d00df_33 : decode cJ5_setLength_d00df 33 = .ok (.aload_n 0, 1) := by decide +kernel
theorem dJ5_setLength_d00df_34 : decode cJ5_setLength_d00df 34 = .ok (.getfield 15, 3) := by decide +kernel
theorem dJ5_setLength_d00df_37 : decode cJ5_setLength_d00df 37 = .ok (.aload_n 0, 1) := by decide +kernel
theorem dJ5_setLength_d00df_38 : decode cJ5_setLength_d00df 38 = .ok (.getfield 79, 3) := by decide +kernel
theorem dJ5_setLength_d00df_41 : decode cJ5_setLength_d00df 41 = .ok (.iload_n 1, 1) := by decide +kernel
theorem dJ5_setLength_d00df_42 : decode cJ5_setLength_d00df 42 = .ok (.invokestatic 133, 3) := by decide +kernel
theorem dJ5_setLength_d00df_45 : decode cJ5_setLength_d00df 45 = .ok (.goto 31, 3) := by decide +kernel
theorem dJ5_setLength_d00df_48 : decode cJ5_setLength_d00df 48 = .ok (.aload_n 0, 1) := by decide +kernel
theorem dJ5_setLength_d00df_49 : decode cJ5_setLength_d00df 49 = .ok (.getfield 15, 3) := by decide +kernel
theorem dJ5_setLength_d00df_52 : decode cJ5_setLength_d00df 52 = .ok (.aload_n 0, 1) := by decide +kernel
theorem dJ5_setLength_d00df_53 : decode cJ5_setLength_d00df 53 = .ok (.getfield 79, 3) := by decide +kernel
theorem dJ5_setLength_d00df_56 : decode cJ5_setLength_d00df 56 = .ok (.iload_n 1, 1) := by decide +kernel
theorem dJ5_setLength_d00df_57 : decode cJ5_setLength_d00df 57 = .ok (.invokestatic 137, 3) := by decide +kernel
theorem dJ5_setLength_d00df_60 : decode cJ5_setLength_d00df 60 = .ok (.goto 16, 3) := by decide +kernel
theorem dJ5_setLength_d00df_63 : decode cJ5_setLength_d00df 63 = .ok (.aload_n 0, 1) := by decide +kernel
theorem dJ5_setLength_d00df_64 : decode cJ5_setLength_d00df 64 = .ok (.getfield 79, 3) := by decide +kernel
theorem dJ5_setLength_d00df_67 : decode cJ5_setLength_d00df 67 = .ok (.iload_n 1, 1) := by decide +kernel
theorem dJ5_setLength_d00df_68 : decode cJ5_setLength_d00df 68 = .ok (.if_icmp .le 8, 3) := by decide +kernel
theorem dJ5_setLength_d00df_71 : decode cJ5_setLength_d00df 71 = .ok (.aload_n 0, 1) := by decide +kernel
theorem dJ5_setLength_d00df_72 : decode cJ5_setLength_d00df 72 = .ok (.iconst 1, 1) := by decide +kernel
theorem dJ5_setLength_d00df_73 : decode cJ5_setLength_d00df 73 = .ok (.putfield 73, 3) := by decide +kernel
theorem dJ5_setLength_d00df_76 : decode cJ5_setLength_d00df 76 = .ok (.aload_n 0, 1) := by decide +kernel
theorem dJ5_setLength_d00df_77 : decode cJ5_setLength_d00df 77 = .ok (.iload_n 1, 1) := by decide +kernel
theorem dJ5_setLength_d00df_78 : decode cJ5_setLength_d00df 78 = .ok (.putfield 79, 3) := by decide +kernel
theorem dJ5_setLength_d00df_81 : decode cJ5_setLength_d00df 81 = .ok (.return_, 1) := by decide +kernel
set_option maxHeartbeats 2000000 in
set_option maxRecDepth 20000 in
theorem c_set5 {l : Launch} {V : VT} (x : TX) (h q m : Nat) (f : Nat → Int32) (ml : Int32) (hx : (x.1 ≤ m ∧ 16 ≤ m ∧ m ≤ 60 ∧ sb_Fit f ∧ sb_Lat x.2 x.1 f)) : CMet l yJ5_setLength_d00df (.code yJ5_setLength_d00df cJ5_setLength_d00df 2 none) 4 1 60 V [.ref h, .int (nI 0)] (sbW V h q m f ml (nI x.1)) (fun v W1 => v = none ∧ SBq V h tx0 (sbW V h q m f ml (nI x.1)) W1) := by
  refine CMet_of (args := [pW (.ref h), pI (nI 0)]) (by decide +kernel) rfl (Nat.le_of_ble_eq_true rfl) (fun G hV hl C hR hH hN => ?_)
  subst hV
  subst hl
  refine cw_iload_n C dJ5_setLength_d00df_0 rfl rfl ?_
  refine cw_if_ge (tgt := 13) C dJ5_setLength_d00df_1 (by decide) (fun _ => ?_) (fun z => absurd (by decide) z)
  refine cw_aload_n C dJ5_setLength_d00df_13 rfl rfl ?_
  refine cw_iload_n C dJ5_setLength_d00df_14 rfl rfl ?_
  refine cw_callU (h := 3) (mc := 1) (ms := 60) (n := 1) (rc' := 0) (rs' := 0) (as := [.int (nI 0)]) (rest := []) (fs := [.ref q, .int 0, .int ml, .int (nI x.1)]) (W0 := (sbW (CGV G) h q m f ml (nI x.1))) (Wr := []) C (CHR_le (by decide) hH) dJ5_setLength_d00df_15 (gw6 212 rfl rfl) (gw10 105 rfl rfl) (Or.inr List.mem_cons_self) (gw6 214 rfl rfl) (gw1 7 rfl rfl) (gw6 215 rfl rfl) ⟨by decide +kernel, by decide +kernel⟩ (by decide +kernel) (c_ens h q m f ml (nI x.1) 0 (by omega) (by omega) hx.2.2.2.1) rfl (List.Perm.refl _) rfl rfl (Nat.le_of_ble_eq_true rfl) (by decide) (by omega) (by omega) (fun v9 W9 h9 => ?_)
  obtain ⟨rfl, q2, m2, f2, J9, rfl, b1, b2, b3, b4, b5, b6⟩ := h9
  refine cw_aload_n C dJ5_setLength_d00df_18 rfl rfl ?_
  refine cw_get (j := 0) (f := 3) (ci := 1) (K := RJ4) (T := TJ4) (N := 4) (fs := [.ref q2, .int 0, .int ml, .int (nI x.1)]) C dJ5_setLength_d00df_19 inJ4 rfl rfl (by decide) (gw1 197 rfl rfl) (Or.inl rfl) rfl ?_
  refine cw_iload_n C dJ5_setLength_d00df_22 rfl rfl ?_
  refine cw_icmp_ge (tgt := 63) C dJ5_setLength_d00df_23 (by decide) (fun _ => ?_) (fun z => absurd (nI_le (a := 0) (by omega) (by omega)) z)
  refine cw_aload_n C dJ5_setLength_d00df_63 rfl rfl ?_
  refine cw_get (j := 0) (f := 3) (ci := 1) (K := RJ4) (T := TJ4) (N := 4) (fs := [.ref q2, .int 0, .int ml, .int (nI x.1)]) C dJ5_setLength_d00df_64 inJ4 rfl rfl (by decide) (gw1 197 rfl rfl) (Or.inl rfl) rfl ?_
  refine cw_iload_n C dJ5_setLength_d00df_67 rfl rfl ?_
  have fin : ∀ ml9 : Int32, CRt G none (sbW (CGV G) h q m f ml (nI x.1)) (fun v W1 => v = none ∧ SBq (CGV G) h tx0 (sbW (CGV G) h q m f ml (nI x.1)) W1) → CW G 0 0 76 [some (pW (.ref h)), some (pI (nI 0))] [] (sbW (CGV G) h q2 m2 f2 ml9 (nI x.1) ++ (J9 ++ [])) := by
    intro ml9 hR
    refine cw_aload_n C dJ5_setLength_d00df_76 rfl rfl ?_
    refine cw_iload_n C dJ5_setLength_d00df_77 rfl rfl ?_
    refine cw_put (j := 0) (f := 3) (ci := 1) (K := RJ4) (T := TJ4) (N := 4) (fs := [.ref q2, .int 0, .int ml9, .int (nI x.1)]) (ty := .int) C dJ5_setLength_d00df_78 inJ4 tyJ4 tyJ4_ok nmJ4 rfl rfl (by decide) (gw1 197 rfl rfl) (Or.inl rfl) (Or.inl rfl) (by decide +kernel) rfl rfl (Nat.le_of_ble_eq_true rfl) ?_
    exact cw_vret C hR dJ5_setLength_d00df_81 rfl ⟨rfl, ⟨q2, m2, f2, ml9, J9 ++ [], rfl, Nat.zero_le _, by omega, b3, b5, fun j hj => absurd hj (Nat.not_lt_zero _)⟩, sub_ens b6⟩
  by_cases hz : x.1 = 0
  · refine cw_icmp_le (tgt := 76) C dJ5_setLength_d00df_68 (by decide) (fun _ => ?_) (fun z => absurd (by rw [hz]; decide) z)
    rw [List.append_assoc]
    exact fin ml hR
  · refine cw_icmp_le (tgt := 76) C dJ5_setLength_d00df_68 (by decide) (fun z => absurd z (nI_nle (by omega) (by omega))) (fun _ => ?_)
    rw [List.append_assoc]
    refine cw_aload_n C dJ5_setLength_d00df_71 rfl rfl ?_
    refine cw_iconst (v := (1 : Int32)) C dJ5_setLength_d00df_72 (by decide) ?_
    refine cw_put (j := 0) (f := 2) (ci := 1) (K := RJ4) (T := TJ4) (N := 4) (fs := [.ref q2, .int 0, .int ml, .int (nI x.1)]) (ty := .boolean) C dJ5_setLength_d00df_73 inJ4 tyJ4 tyJ4_ok nmJ4 rfl rfl (by decide) (gw1 195 rfl rfl) (Or.inl rfl) (Or.inl rfl) (by decide +kernel) rfl rfl (Nat.le_of_ble_eq_true rfl) ?_
    exact fin 1 hR
theorem dJ4_setLength_d00df_0 : decode cJ4_setLength_d00df 0 = .ok (.aload_n 0, 1) := by decide +kernel
theorem dJ4_setLength_d00df_1 : decode cJ4_setLength_d00df 1 = .ok (.iload_n 1, 1) := by decide +kernel
theorem dJ4_setLength_d00df_2 : decode cJ4_setLength_d00df 2 = .ok (.invokespecial 333, 3) := by decide +kernel
theorem dJ4_setLength_d00df_5 : decode cJ4_setLength_d00df 5 = .ok (.return_, 1) := by decide +kernel
set_option maxHeartbeats 2000000 in
set_option maxRecDepth 20000 in
theorem c_set4 {l : Launch} {V : VT} (x : TX) (h q m : Nat) (f : Nat → Int32) (ml : Int32) (hx : (x.1 ≤ m ∧ 16 ≤ m ∧ m ≤ 60 ∧ sb_Fit f ∧ sb_Lat x.2 x.1 f)) : CMet l yJ4_setLength_d00df (.code yJ4_setLength_d00df cJ4_setLength_d00df 2 none) 5 1 60 V [.ref h, .int (nI 0)] (sbW V h q m f ml (nI x.1)) (fun v W1 => v = none ∧ SBq V h tx0 (sbW V h q m f ml (nI x.1)) W1) := by
  refine CMet_of (args := [pW (.ref h), pI (nI 0)]) (by decide +kernel) rfl (Nat.le_of_ble_eq_true rfl) (fun G hV hl C hR hH hN => ?_)
  subst hV
  subst hl
  refine cw_aload_n C dJ4_setLength_d00df_0 rfl rfl ?_
  refine cw_iload_n C dJ4_setLength_d00df_1 rfl rfl ?_
  refine cw_callSU (h := 4) (mc := 1) (ms := 60) (n := 1) (rc' := 0) (rs' := 0) (as := [.int (nI 0)]) (rest := []) (fs := [.ref q, .int 0, .int ml, .int (nI x.1)]) (W0 := (sbW (CGV G) h q m f ml (nI x.1))) (Wr := []) C (CHR_le (by decide) hH) dJ4_setLength_d00df_2 (gw6 190 rfl rfl) (gw10 102 rfl rfl) (gw1 206 rfl rfl) (gw6 191 rfl rfl) (gw1 7 rfl rfl) (gw6 192 rfl rfl) (by decide +kernel) (by decide +kernel) (c_set5 x h q m f ml hx) rfl (List.Perm.refl _) rfl rfl (Nat.le_of_ble_eq_true rfl) (by decide) (by omega) (by omega) (fun v9 W9 h9 => ?_)
  obtain ⟨rfl, h9⟩ := h9
  exact cw_vret C hR dJ4_setLength_d00df_5 rfl ⟨rfl, by rw [List.append_nil]; exact h9⟩
theorem dJ5_append_3fe6f_0 : decode cJ5_append_3fe6f 0 = .ok (.aload_n 0, 1) := by decide +kernel
theorem dJ5_append_3fe6f_1 : decode cJ5_append_3fe6f 1 = .ok (.aload_n 0, 1) := by decide +kernel
theorem dJ5_append_3fe6f_2 : decode cJ5_append_3fe6f 2 = .ok (.getfield 79, 3) := by decide +kernel
theorem dJ5_append_3fe6f_5 : decode cJ5_append_3fe6f 5 = .ok (.iconst 1, 1) := by decide +kernel
theorem dJ5_append_3fe6f_6 : decode cJ5_append_3fe6f 6 = .ok (.iadd, 1) := by decide +kernel
theorem dJ5_append_3fe6f_7 : decode cJ5_append_3fe6f 7 = .ok (.invokevirtual 100, 3) := by decide +kernel
theorem dJ5_append_3fe6f_10 : decode cJ5_append_3fe6f 10 = .ok (.aload_n 0, 1) := by decide +kernel
theorem dJ5_append_3fe6f_11 : decode cJ5_append_3fe6f 11 = .ok (.invokevirtual 83, 3) := by decide +kernel
theorem dJ5_append_3fe6f_14 : decode cJ5_append_3fe6f 14 = .ok (.ifCond .eq 31, 3) := by decide +kernel
theorem dJ5_append_3fe6f_17 : decode cJ5_append_3fe6f 17 = .ok (.iload_n 1, 1) := by decide +kernel
theorem dJ5_append_3fe6f_18 : decode cJ5_append_3fe6f 18 = .ok (.invokestatic 191, 3) := by decide +kernel
theorem dJ5_append_3fe6f_21 : decode cJ5_append_3fe6f 21 = .ok (.ifCond .eq 24, 3) := by decide +kernel
theorem dJ5_append_3fe6f_24 : decode cJ5_append_3fe6f 24 = .ok (.aload_n 0, 1) := by decide +kernel
theorem dJ5_append_3fe6f_25 : decode cJ5_append_3fe6f 25 = .ok (.getfield 15, 3) := by decide +kernel
theorem dJ5_append_3fe6f_28 : decode cJ5_append_3fe6f 28 = .ok (.aload_n 0, 1) := by decide +kernel
theorem dJ5_append_3fe6f_29 : decode cJ5_append_3fe6f 29 = .ok (.dup, 1) := by decide +kernel
theorem dJ5_append_3fe6f_30 : decode cJ5_append_3fe6f 30 = .ok (.getfield 79, 3) := by decide +kernel
theorem dJ5_append_3fe6f_33 : decode cJ5_append_3fe6f 33 = .ok (.dup_x1, 1) := by decide +kernel
theorem dJ5_append_3fe6f_34 : decode cJ5_append_3fe6f 34 = .ok (.iconst 1, 1) := by decide +kernel
theorem dJ5_append_3fe6f_35 : decode cJ5_append_3fe6f 35 = .ok (.iadd, 1) := by decide +kernel
theorem dJ5_append_3fe6f_36 : decode cJ5_append_3fe6f 36 = .ok (.putfield 79, 3) := by decide +kernel
theorem dJ5_append_3fe6f_39 : decode cJ5_append_3fe6f 39 = .ok (.iload_n 1, 1) := by decide +kernel
theorem dJ5_append_3fe6f_40 : decode cJ5_append_3fe6f 40 = .ok (.i2b, 1) := by decide +kernel
theorem dJ5_append_3fe6f_41 : decode cJ5_append_3fe6f 41 = .ok (.bastore, 1) := by decide +kernel
theorem dJ5_append_3fe6f_42 : decode cJ5_append_3fe6f 42 = .ok (.goto 33, 3) := by decide +kernel
theorem dJ5_append_3fe6f_45 : decode cJ5_append_3fe6f 45 = .ok (.aload_n 0, 1) := by decide +kernel
theorem dJ5_append_3fe6f_46 : decode cJ5_append_3fe6f 46 = .ok (.invokevirtual 83, 3) := by decide +kernel
theorem dJ5_append_3fe6f_49 : decode cJ5_append_3fe6f 49 = .ok (.ifCond .eq 7, 3) := by decide +kernel
theorem dJ5_append_3fe6f_52 : decode cJ5_append_3fe6f 52 = .ok (.aload_n 0, 1) := by decide +kernel
theorem dJ5_append_3fe6f_53 : decode cJ5_append_3fe6f 53 = .ok (.invokevirtual 195, 3) := by decide +kernel
theorem dJ5_append_3fe6f_56 : decode cJ5_append_3fe6f 56 = .ok (.aload_n 0, 1) := by decide +kernel
theorem dJ5_append_3fe6f_57 : decode cJ5_append_3fe6f 57 = .ok (.getfield 15, 3) := by decide +kernel
theorem dJ5_append_3fe6f_60 : decode cJ5_append_3fe6f 60 = .ok (.aload_n 0, 1) := by decide +kernel
theorem dJ5_append_3fe6f_61 : decode cJ5_append_3fe6f 61 = .ok (.dup, 1) := by decide +kernel
theorem dJ5_append_3fe6f_62 : decode cJ5_append_3fe6f 62 = .ok (.getfield 79, 3) := by decide +kernel
theorem dJ5_append_3fe6f_65 : decode cJ5_append_3fe6f 65 = .ok (.dup_x1, 1) := by decide +kernel
theorem dJ5_append_3fe6f_66 : decode cJ5_append_3fe6f 66 = .ok (.iconst 1, 1) := by decide +kernel
theorem dJ5_append_3fe6f_67 : decode cJ5_append_3fe6f 67 = .ok (.iadd, 1) := by decide +kernel
theorem dJ5_append_3fe6f_68 : decode cJ5_append_3fe6f 68 = .ok (.putfield 79, 3) := by decide +kernel
theorem dJ5_append_3fe6f_71 : decode cJ5_append_3fe6f 71 = .ok (.iload_n 1, 1) := by decide +kernel
theorem dJ5_append_3fe6f_72 : decode cJ5_append_3fe6f 72 = .ok (.invokestatic 197, 3) := by decide +kernel
theorem dJ5_append_3fe6f_75 : decode cJ5_append_3fe6f 75 = .ok (.aload_n 0, 1) := by decide +kernel
theorem dJ5_append_3fe6f_76 : decode cJ5_append_3fe6f 76 = .ok (.areturn, 1) := by decide +kernel
set_option maxHeartbeats 2000000 in
set_option maxRecDepth 20000 in
theorem c_app5 {l : Launch} {V : VT} (x : TX) (h q m : Nat) (f : Nat → Int32) (ml : Int32) (c : Nat) (hx : (x.1 ≤ m ∧ 16 ≤ m ∧ m ≤ 60 ∧ sb_Fit f ∧ sb_Lat x.2 x.1 f)) (hc : c < 256) (hl : x.1 < 27) : CMet l yJ5_append_3fe6f (.code yJ5_append_3fe6f cJ5_append_3fe6f 2 (some (.object "java/lang/AbstractStringBuilder"))) 4 1 60 V [.ref h, .int (nI c)] (sbW V h q m f ml (nI x.1)) (fun v W1 => v = some (.ref h) ∧ SBq V h (txC x c) (sbW V h q m f ml (nI x.1)) W1) := by
  refine CMet_of (args := [pW (.ref h), pI (nI c)]) (by decide +kernel) rfl (Nat.le_of_ble_eq_true rfl) (fun G hV hl C hR hH hN => ?_)
  subst hV
  subst hl
  refine cw_aload_n C dJ5_append_3fe6f_0 rfl rfl ?_
  refine cw_aload_n C dJ5_append_3fe6f_1 rfl rfl ?_
  refine cw_get (j := 0) (f := 3) (ci := 1) (K := RJ4) (T := TJ4) (N := 4) (fs := [.ref q, .int 0, .int ml, .int (nI x.1)]) C dJ5_append_3fe6f_2 inJ4 rfl rfl (by decide) (gw1 197 rfl rfl) (Or.inl rfl) rfl ?_
  refine cw_iconst (v := (1 : Int32)) C dJ5_append_3fe6f_5 (by decide) ?_
  refine cw_iadd C dJ5_append_3fe6f_6 ?_
  rw [nI_1]
  refine cw_callU (h := 3) (mc := 1) (ms := 60) (n := 1) (rc' := 0) (rs' := 0) (as := [.int (nI (x.1 + 1))]) (rest := []) (fs := [.ref q, .int 0, .int ml, .int (nI x.1)]) (W0 := (sbW (CGV G) h q m f ml (nI x.1))) (Wr := []) C (CHR_le (by decide) hH) dJ5_append_3fe6f_7 (gw6 212 rfl rfl) (gw10 105 rfl rfl) (Or.inr List.mem_cons_self) (gw6 214 rfl rfl) (gw1 7 rfl rfl) (gw6 215 rfl rfl) ⟨by decide +kernel, by decide +kernel⟩ (by decide +kernel) (c_ens h q m f ml (nI x.1) (x.1 + 1) (by omega) (by omega) hx.2.2.2.1) rfl (List.Perm.refl _) rfl rfl (Nat.le_of_ble_eq_true rfl) (by decide) (by omega) (by omega) (fun v9 W9 h9 => ?_)
  obtain ⟨rfl, q2, m2, f2, J9, rfl, b1, b2, b3, b4, b5, b6⟩ := h9
  rw [List.append_assoc]
  refine cw_aload_n C dJ5_append_3fe6f_10 rfl rfl ?_
  refine cw_callU (h := 1) (mc := 0) (ms := 0) (n := 0) (rc' := 0) (rs' := 0) (as := []) (rest := []) (fs := [.ref q2, .int 0, .int ml, .int (nI x.1)]) (W0 := (sbW (CGV G) h q2 m2 f2 ml (nI x.1))) (Wr := (J9 ++ [])) C (CHR_le (by decide) hH) dJ5_append_3fe6f_11 (gw7 3 rfl rfl) (gw7 5 rfl rfl) (Or.inl (gw7 6 rfl rfl)) (gw7 4 rfl rfl) (gw1 7 rfl rfl) (gw7 7 rfl rfl) ⟨by decide +kernel, by decide +kernel⟩ (by decide +kernel) (c_isL h q2 m2 f2 ml (nI x.1)) rfl (List.Perm.refl _) rfl rfl (Nat.le_of_ble_eq_true rfl) (by decide) (by omega) (by omega) (fun v9 W9 h9 => ?_)
  obtain ⟨rfl, rfl⟩ := h9
  refine cw_if_eq (tgt := 45) C dJ5_append_3fe6f_14 (by decide) (fun z => absurd z (by decide)) (fun _ => ?_)
  refine cw_iload_n C dJ5_append_3fe6f_17 rfl rfl ?_
  refine cw_callS (h := 1) (mc := 0) (ms := 0) (n := 1) (rc' := 0) (rs' := 0) (as := [.int (nI c)]) (rest := []) (W0 := []) (Wr := ((sbW (CGV G) h q2 m2 f2 ml (nI x.1)) ++ (J9 ++ []))) C (CHR_le (by decide) hH) dJ5_append_3fe6f_18 (gw7 207 rfl rfl) ms_J1_canEncode_fc78d (c_canE c hc) (List.Perm.refl _) rfl rfl (Nat.le_of_ble_eq_true rfl) (by decide) (by omega) (by omega) (fun v9 W9 h9 => ?_)
  obtain ⟨rfl, rfl⟩ := h9
  refine cw_if_eq (tgt := 45) C dJ5_append_3fe6f_21 (by decide) (fun z => absurd z (by decide)) (fun _ => ?_)
  refine cw_aload_n C dJ5_append_3fe6f_24 rfl rfl ?_
  refine cw_get (j := 0) (f := 0) (ci := 1) (K := RJ4) (T := TJ4) (N := 4) (fs := [.ref q2, .int 0, .int ml, .int (nI x.1)]) C dJ5_append_3fe6f_25 inJ4 rfl rfl (by decide) (gw1 193 rfl rfl) (Or.inl rfl) rfl ?_
  refine cw_aload_n C dJ5_append_3fe6f_28 rfl rfl ?_
  refine cw_dup C dJ5_append_3fe6f_29 rfl ?_
  refine cw_get (j := 0) (f := 3) (ci := 1) (K := RJ4) (T := TJ4) (N := 4) (fs := [.ref q2, .int 0, .int ml, .int (nI x.1)]) C dJ5_append_3fe6f_30 inJ4 rfl rfl (by decide) (gw1 197 rfl rfl) (Or.inl rfl) rfl ?_
  refine cw_dup_x1 C dJ5_append_3fe6f_33 rfl rfl ?_
  refine cw_iconst (v := (1 : Int32)) C dJ5_append_3fe6f_34 (by decide) ?_
  refine cw_iadd C dJ5_append_3fe6f_35 ?_
  rw [nI_1]
  refine cw_put (j := 0) (f := 3) (ci := 1) (K := RJ4) (T := TJ4) (N := 4) (fs := [.ref q2, .int 0, .int ml, .int (nI x.1)]) (ty := .int) C dJ5_append_3fe6f_36 inJ4 tyJ4 tyJ4_ok nmJ4 rfl rfl (by decide) (gw1 197 rfl rfl) (Or.inl rfl) (Or.inl rfl) (by decide +kernel) rfl rfl (Nat.le_of_ble_eq_true rfl) ?_
  refine cw_iload_n C dJ5_append_3fe6f_39 rfl rfl ?_
  refine cw_i2b (v := sb_b c) C dJ5_append_3fe6f_40 rfl ?_
  refine cw_bast (j := 1) (n := m2) (f := f2) C dJ5_append_3fe6f_41 rfl (vp_in_nI (by omega) (by omega)) ?_
  rw [nI_clamp (by omega), show vp_nar .byte (sb_b c) = sb_b c from pk_vb (nI c)]
  refine cw_goto (tgt := 75) C dJ5_append_3fe6f_42 (by decide) ?_
  refine cw_aload_n C dJ5_append_3fe6f_75 rfl rfl ?_
  exact cw_aret C hR dJ5_append_3fe6f_76 (Or.inl ⟨_, rfl⟩) rfl ⟨rfl, ⟨q2, m2, upd f2 x.1 (sb_b c), ml, J9 ++ [], rfl, b1, by omega, b3, sb_fitU b5 (sb_fitB c), sb_latPut (s := fun _ => c) (w := 1) (a' := upd f2 x.1 (sb_b c)) hx.2.2.2.2 (fun j hj => by rw [pk_un (by omega)]; exact b4 j (by omega)) (fun i hi => ⟨hc, by rw [show i = 0 by omega]; exact pk_us⟩)⟩, sub_ens b6⟩
theorem dJ4_append_cf468_0 : decode cJ4_append_cf468 0 = .ok (.aload_n 0, 1) := by decide +kernel
theorem dJ4_append_cf468_1 : decode cJ4_append_cf468 1 = .ok (.iload_n 1, 1) := by decide +kernel
theorem dJ4_append_cf468_2 : decode cJ4_append_cf468 2 = .ok (.invokespecial 50, 3) := by decide +kernel
theorem dJ4_append_cf468_5 : decode cJ4_append_cf468 5 = .ok (.pop, 1) := by decide +kernel
theorem dJ4_append_cf468_6 : decode cJ4_append_cf468 6 = .ok (.aload_n 0, 1) := by decide +kernel
theorem dJ4_append_cf468_7 : decode cJ4_append_cf468 7 = .ok (.areturn, 1) := by decide +kernel
set_option maxHeartbeats 2000000 in
set_option maxRecDepth 20000 in
theorem c_app4 {l : Launch} {V : VT} (x : TX) (h q m : Nat) (f : Nat → Int32) (ml : Int32) (c : Nat) (hx : (x.1 ≤ m ∧ 16 ≤ m ∧ m ≤ 60 ∧ sb_Fit f ∧ sb_Lat x.2 x.1 f)) (hc : c < 256) (hl : x.1 < 27) : CMet l yJ4_append_cf468 (.code yJ4_append_cf468 cJ4_append_cf468 2 (some (.object "java/lang/StringBuilder"))) 5 1 60 V [.ref h, .int (nI c)] (sbW V h q m f ml (nI x.1)) (fun v W1 => v = some (.ref h) ∧ SBq V h (txC x c) (sbW V h q m f ml (nI x.1)) W1) := by
  refine CMet_of (args := [pW (.ref h), pI (nI c)]) (by decide +kernel) rfl (Nat.le_of_ble_eq_true rfl) (fun G hV hl C hR hH hN => ?_)
  subst hV
  subst hl
  refine cw_aload_n C dJ4_append_cf468_0 rfl rfl ?_
  refine cw_iload_n C dJ4_append_cf468_1 rfl rfl ?_
  refine cw_callSU (h := 4) (mc := 1) (ms := 60) (n := 1) (rc' := 0) (rs' := 0) (as := [.int (nI c)]) (rest := []) (fs := [.ref q, .int 0, .int ml, .int (nI x.1)]) (W0 := (sbW (CGV G) h q m f ml (nI x.1))) (Wr := []) C (CHR_le (by decide) hH) dJ4_append_cf468_2 (gw7 204 rfl rfl) (gw10 111 rfl rfl) (gw1 206 rfl rfl) (gw7 205 rfl rfl) (gw1 7 rfl rfl) (gw7 206 rfl rfl) (by decide +kernel) (by decide +kernel) (c_app5 x h q m f ml c hx hc hl) rfl (List.Perm.refl _) rfl rfl (Nat.le_of_ble_eq_true rfl) (by decide) (by omega) (by omega) (fun v9 W9 h9 => ?_)
  obtain ⟨rfl, h9⟩ := h9
  refine cw_pop C dJ4_append_cf468_5 rfl ?_
  refine cw_aload_n C dJ4_append_cf468_6 rfl rfl ?_
  exact cw_aret C hR dJ4_append_cf468_7 (Or.inl ⟨_, rfl⟩) rfl ⟨rfl, by rw [List.append_nil]; exact h9⟩
theorem dJ6_stringSize_0f7a4_0 : decode cJ6_stringSize_0f7a4 0 = .ok (.iconst 1, 1) := by decide +kernel
theorem dJ6_stringSize_0f7a4_1 : decode cJ6_stringSize_0f7a4 1 = .ok (.istore_n 1, 1) := by decide +kernel
theorem dJ6_stringSize_0f7a4_2 : decode cJ6_stringSize_0f7a4 2 = .ok (.iload_n 0, 1) := by decide +kernel
theorem dJ6_stringSize_0f7a4_3 : decode cJ6_stringSize_0f7a4 3 = .ok (.ifCond .lt 8, 3) := by decide +kernel
theorem dJ6_stringSize_0f7a4_6 : decode cJ6_stringSize_0f7a4 6 = .ok (.iconst 0, 1) := by decide +kernel
theorem dJ6_stringSize_0f7a4_7 : decode cJ6_stringSize_0f7a4 7 = .ok (.istore_n 1, 1) := by decide +kernel
theorem dJ6_stringSize_0f7a4_8 : decode cJ6_stringSize_0f7a4 8 = .ok (.iload_n 0, 1) := by decide +kernel
theorem dJ6_stringSize_0f7a4_9 : decode cJ6_stringSize_0f7a4 9 = .ok (.ineg, 1) := by decide +kernel
theorem dJ6_stringSize_0f7a4_10 : decode cJ6_stringSize_0f7a4 10 = .ok (.istore_n 0, 1) := by decide +kernel
theorem dJ6_stringSize_0f7a4_11 : decode cJ6_stringSize_0f7a4 11 = .ok (.bipush (-10), 2) := by decide +kernel
theorem dJ6_stringSize_0f7a4_13 : decode cJ6_stringSize_0f7a4 13 = .ok (.istore_n 2, 1) := by decide +kernel
theorem dJ6_stringSize_0f7a4_14 : decode cJ6_stringSize_0f7a4 14 = .ok (.iconst 1, 1) := by decide +kernel
theorem dJ6_stringSize_0f7a4_15 : decode cJ6_stringSize_0f7a4 15 = .ok (.istore_n 3, 1) := by decide +kernel
theorem dJ6_stringSize_0f7a4_16 : decode cJ6_stringSize_0f7a4 16 = .ok (.iload_n 3, 1) := by decide +kernel
theorem dJ6_stringSize_0f7a4_17 : decode cJ6_stringSize_0f7a4 17 = .ok (.bipush 10, 2) := by decide +kernel
theorem dJ6_stringSize_0f7a4_19 : decode cJ6_stringSize_0f7a4 19 = .ok (.if_icmp .ge 23, 3) := by decide +kernel
theorem dJ6_stringSize_0f7a4_22 : decode cJ6_stringSize_0f7a4 22 = .ok (.iload_n 0, 1) := by decide +kernel
theorem dJ6_stringSize_0f7a4_23 : decode cJ6_stringSize_0f7a4 23 = .ok (.iload_n 2, 1) := by decide +kernel
theorem dJ6_stringSize_0f7a4_24 : decode cJ6_stringSize_0f7a4 24 = .ok (.if_icmp .le 7, 3) := by decide +kernel
theorem dJ6_stringSize_0f7a4_27 : decode cJ6_stringSize_0f7a4 27 = .ok (.iload_n 3, 1) := by decide +kernel
theorem dJ6_stringSize_0f7a4_28 : decode cJ6_stringSize_0f7a4 28 = .ok (.iload_n 1, 1) := by decide +kernel
theorem dJ6_stringSize_0f7a4_29 : decode cJ6_stringSize_0f7a4 29 = .ok (.iadd, 1) := by decide +kernel
theorem dJ6_stringSize_0f7a4_30 : decode cJ6_stringSize_0f7a4 30 = .ok (.ireturn, 1) := by decide +kernel
theorem dJ6_stringSize_0f7a4_31 : decode cJ6_stringSize_0f7a4 31 = .ok (.bipush 10, 2) := by decide +kernel
theorem dJ6_stringSize_0f7a4_33 : decode cJ6_stringSize_0f7a4 33 = .ok (.iload_n 2, 1) := by decide +kernel
theorem dJ6_stringSize_0f7a4_34 : decode cJ6_stringSize_0f7a4 34 = .ok (.imul, 1) := by decide +kernel
theorem dJ6_stringSize_0f7a4_35 : decode cJ6_stringSize_0f7a4 35 = .ok (.istore_n 2, 1) := by decide +kernel
theorem dJ6_stringSize_0f7a4_36 : decode cJ6_stringSize_0f7a4 36 = .ok (.iinc 3 1, 3) := by decide +kernel
theorem dJ6_stringSize_0f7a4_39 : decode cJ6_stringSize_0f7a4 39 = .ok (.goto (-23), 3) := by decide +kernel
theorem dJ6_stringSize_0f7a4_42 : decode cJ6_stringSize_0f7a4 42 = .ok (.bipush 10, 2) := by decide +kernel
theorem dJ6_stringSize_0f7a4_44 : decode cJ6_stringSize_0f7a4 44 = .ok (.iload_n 1, 1) := by decide +kernel
theorem dJ6_stringSize_0f7a4_45 : decode cJ6_stringSize_0f7a4 45 = .ok (.iadd, 1) := by decide +kernel
theorem dJ6_stringSize_0f7a4_46 : decode cJ6_stringSize_0f7a4 46 = .ok (.ireturn, 1) := by decide +kernel
set_option maxHeartbeats 2000000 in
set_option maxRecDepth 20000 in
theorem c_siz {l : Launch} {V : VT} (v : Nat) (hv : v < 10000) : CMet l yJ6_stringSize_0f7a4 (.code yJ6_stringSize_0f7a4 cJ6_stringSize_0f7a4 4 (some .int)) 1 0 0 V [.int (nI v)] ([]) (fun w W1 => w = some (.int (nI (sb_dg v))) ∧ W1 = []) := by
  refine CMet_of (args := [pI (nI v)]) (by decide +kernel) rfl (Nat.le_of_ble_eq_true rfl) (fun G hV hl C hR hH hN => ?_)
  subst hV
  subst hl
  have g := dg_le hv
  have hp : ∀ k, 1 ≤ k → k < sb_dg v → 10 ^ k ≤ v := by
    intro k h1 h2
    have hk3 : k = 1 ∨ k = 2 ∨ k = 3 := by omega
    unfold sb_dg at h2
    rcases hk3 with rfl | rfl | rfl
    all_goals (split at h2 <;> try omega)
    all_goals (try (split at h2 <;> try omega))
    all_goals (try (split at h2 <;> try omega))
    all_goals (try (split at h2 <;> try omega))
  have hq : v < 10 ^ sb_dg v := by
    unfold sb_dg
    (repeat' split) <;> omega
  have L : ∀ d k : Nat, k + d = sb_dg v → 1 ≤ k → CW G 0 0 16 [some (pI (-nI v)), some (pI 0), some (pI (-nI (10 ^ k))), some (pI (nI k))] [] [] := by
    intro d
    induction d with
    | zero =>
      intro k hk h1
      have hk : k = sb_dg v := by omega
      have h9 := ten_le (e := k - 1) (by omega)
      have h8 : 10 ^ k = 10 ^ (k - 1) * 10 := by rw [← Nat.pow_succ]; congr 1; omega
      refine cw_iload_n C dJ6_stringSize_0f7a4_16 rfl rfl ?_
      refine cw_bipush (v := (10 : Int32)) C dJ6_stringSize_0f7a4_17 (by decide) ?_
      refine cw_icmp_ge (tgt := 42) C dJ6_stringSize_0f7a4_19 (by decide) (fun z => absurd z (nI_ge (a := k) (b := 10) (by omega) (by decide))) (fun _ => ?_)
      refine cw_iload_n C dJ6_stringSize_0f7a4_22 rfl rfl ?_
      refine cw_iload_n C dJ6_stringSize_0f7a4_23 rfl rfl ?_
      refine cw_icmp_le (tgt := 31) C dJ6_stringSize_0f7a4_24 (by decide) (fun z => absurd ((sb_nle (by omega) (by omega)).mp z) (by rw [hk]; omega)) (fun _ => ?_)
      refine cw_iload_n C dJ6_stringSize_0f7a4_27 rfl rfl ?_
      refine cw_iload_n C dJ6_stringSize_0f7a4_28 rfl rfl ?_
      refine cw_iadd C dJ6_stringSize_0f7a4_29 ?_
      rw [show nI k + 0 = nI k from Int32.add_zero _, hk]
      exact cw_iret C hR dJ6_stringSize_0f7a4_30 rfl rfl ⟨rfl, rfl⟩
    | succ d ih =>
      intro k hk h1
      have h9 := ten_le (e := k) (by omega)
      refine cw_iload_n C dJ6_stringSize_0f7a4_16 rfl rfl ?_
      refine cw_bipush (v := (10 : Int32)) C dJ6_stringSize_0f7a4_17 (by decide) ?_
      refine cw_icmp_ge (tgt := 42) C dJ6_stringSize_0f7a4_19 (by decide) (fun z => absurd z (nI_ge (a := k) (b := 10) (by omega) (by decide))) (fun _ => ?_)
      refine cw_iload_n C dJ6_stringSize_0f7a4_22 rfl rfl ?_
      refine cw_iload_n C dJ6_stringSize_0f7a4_23 rfl rfl ?_
      refine cw_icmp_le (tgt := 31) C dJ6_stringSize_0f7a4_24 (by decide) (fun _ => ?_) (fun z => absurd ((sb_nle (by omega) (by omega)).mpr (hp k h1 (by omega))) z)
      refine cw_bipush (v := (10 : Int32)) C dJ6_stringSize_0f7a4_31 (by decide) ?_
      refine cw_iload_n C dJ6_stringSize_0f7a4_33 rfl rfl ?_
      refine cw_imul C dJ6_stringSize_0f7a4_34 ?_
      rw [show (10 : Int32) * -nI (10 ^ k) = -nI (10 ^ (k + 1)) by rw [Int32.mul_neg, show (10 : Int32) = nI 10 from rfl, pk_mul, Nat.pow_succ, Nat.mul_comm]]
      refine cw_istore_n C dJ6_stringSize_0f7a4_35 rfl (by decide) rfl ?_
      refine cw_iinc (v := nI (k + 1)) C dJ6_stringSize_0f7a4_36 rfl (nI_1 k) (by decide) rfl ?_
      refine cw_goto (tgt := 16) C dJ6_stringSize_0f7a4_39 (by decide) ?_
      exact ih (k + 1) (by omega) (by omega)
  refine cw_iconst (v := (1 : Int32)) C dJ6_stringSize_0f7a4_0 (by decide) ?_
  refine cw_istore_n C dJ6_stringSize_0f7a4_1 rfl (by decide) rfl ?_
  refine cw_iload_n C dJ6_stringSize_0f7a4_2 rfl rfl ?_
  refine cw_if_lt (tgt := 11) C dJ6_stringSize_0f7a4_3 (by decide) (fun z => absurd z (nI_pos (by omega))) (fun _ => ?_)
  refine cw_iconst (v := (0 : Int32)) C dJ6_stringSize_0f7a4_6 (by decide) ?_
  refine cw_istore_n C dJ6_stringSize_0f7a4_7 rfl (by decide) rfl ?_
  refine cw_iload_n C dJ6_stringSize_0f7a4_8 rfl rfl ?_
  refine cw_ineg C dJ6_stringSize_0f7a4_9 ?_
  refine cw_istore_n C dJ6_stringSize_0f7a4_10 rfl (by decide) rfl ?_
  refine cw_bipush (v := (-10 : Int32)) C dJ6_stringSize_0f7a4_11 (by decide) ?_
  refine cw_istore_n C dJ6_stringSize_0f7a4_13 rfl (by decide) rfl ?_
  refine cw_iconst (v := (1 : Int32)) C dJ6_stringSize_0f7a4_14 (by decide) ?_
  refine cw_istore_n C dJ6_stringSize_0f7a4_15 rfl (by decide) rfl ?_
  exact L (sb_dg v - 1) 1 (by omega) (Nat.le_refl _)
