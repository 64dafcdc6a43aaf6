-- the law's objects (gen/mk_obj.py)
theorem dL_law_0 : decode cL_law 0 = .ok (.new 8, 3) := by decide +kernel
theorem dL_law_3 : decode cL_law 3 = .ok (.dup, 1) := by decide +kernel
theorem dL_law_4 : decode cL_law 4 = .ok (.invokespecial 172, 3) := by decide +kernel
theorem dL_law_7 : decode cL_law 7 = .ok (.astore_n 1, 1) := by decide +kernel
theorem dL_law_8 : decode cL_law 8 = .ok (.new 173, 3) := by decide +kernel
theorem dL_law_11 : decode cL_law 11 = .ok (.dup, 1) := by decide +kernel
theorem dL_law_12 : decode cL_law 12 = .ok (.invokespecial 175, 3) := by decide +kernel
theorem dL_law_15 : decode cL_law 15 = .ok (.astore_n 2, 1) := by decide +kernel
theorem dL_law_16 : decode cL_law 16 = .ok (.iconst 1, 1) := by decide +kernel
theorem dL_law_17 : decode cL_law 17 = .ok (.newarray .long, 2) := by decide +kernel
theorem dL_law_19 : decode cL_law 19 = .ok (.astore_n 3, 1) := by decide +kernel
theorem dL_law_20 : decode cL_law 20 = .ok (.iconst 1, 1) := by decide +kernel
theorem dL_law_21 : decode cL_law 21 = .ok (.newarray .double, 2) := by decide +kernel
theorem dL_law_23 : decode cL_law 23 = .ok (.astore 4, 2) := by decide +kernel
theorem dL_law_25 : decode cL_law 25 = .ok (.iconst 0, 1) := by decide +kernel
theorem dL_law_26 : decode cL_law 26 = .ok (.istore 5, 2) := by decide +kernel
theorem dL_law_28 : decode cL_law 28 = .ok (.iload 5, 2) := by decide +kernel
theorem dL_law_30 : decode cL_law 30 = .ok (.aload_n 0, 1) := by decide +kernel
theorem dL_law_31 : decode cL_law 31 = .ok (.arraylength, 1) := by decide +kernel
theorem dL_law_32 : decode cL_law 32 = .ok (.bipush 7, 2) := by decide +kernel
theorem dL_law_34 : decode cL_law 34 = .ok (.isub, 1) := by decide +kernel
theorem dL_law_35 : decode cL_law 35 = .ok (.if_icmp .gt 3444, 3) := by decide +kernel
theorem dL_law_38 : decode cL_law 38 = .ok (.aload_n 0, 1) := by decide +kernel
theorem dL_law_39 : decode cL_law 39 = .ok (.iload 5, 2) := by decide +kernel
theorem dL_law_41 : decode cL_law 41 = .ok (.iaload, 1) := by decide +kernel
theorem dL_law_42 : decode cL_law 42 = .ok (.bipush 63, 2) := by decide +kernel
theorem dL_law_44 : decode cL_law 44 = .ok (.iand, 1) := by decide +kernel
theorem dL_law_45 : decode cL_law 45 = .ok (.tableswitch 3428 0 51 #[223, 236, 354, 410, 478, 558, 649, 662, 730, 786, 842, 883, 946, 1009, 1093, 1149, 1205, 1261, 1329, 1397, 1477, 1561, 1629, 1725, 1738, 1806, 1898, 1954, 2034, 2090, 2158, 2221, 2289, 2366, 2434, 2502, 2558, 2648, 2704, 2772, 2828, 2841, 2897, 2953, 3045, 3113, 3171, 3215, 3259, 3327, 3371, 3384], 223) := by decide +kernel
theorem dL_law_3473 : decode cL_law 3473 = .ok (.iinc 5 7, 3) := by decide +kernel
theorem dL_law_3476 : decode cL_law 3476 = .ok (.goto (-3448), 3) := by decide +kernel
theorem dL_law_3479 : decode cL_law 3479 = .ok (.iconst 1, 1) := by decide +kernel
theorem dL_law_3480 : decode cL_law 3480 = .ok (.ireturn, 1) := by decide +kernel
set_option maxRecDepth 20000 in
theorem law_objs {G : CG} {b rc rs : Nat} (C : CC G cL_law 9 RL) (hH : CHR G 4) (k : ∀ (T B : Nat → Nat → Nat) (z : Nat → Nat), CW G rc rs 28 [some (pW (.ref b)), some (pW (.ref (z 0))), some (pW (.ref (T 10 0))), some (pW (.ref (z 3))), some (pW (.ref (z 4))), some (pI 0), none, none, none] [] (rawW (CGV G) T B z)) : CW G (rc + 179) (rs + 9862) 0 [some (pW (.ref b)), none, none, none, none, none, none, none, none] [] [] := by
  refine cw_new (ci := 12) (K := RX8) (T := TX8) (N := 14) (fs := [.null, .null, .null, .null, .null, .null, .null, .null, .null, .null, .null, .int 0, .int 0, .int 0]) (rc := rc + 178) (rs := rs + 9848) (pre := []) (Wr := []) C dL_law_0 inX8 tyX8 tyX8_ok (gw1 34 rfl rfl) (gw1 35 rfl rfl) (gw1 1 rfl rfl) rfl dfX8 rfl (fun h0 => ?_)
  refine cw_dup C dL_law_3 rfl ?_
  refine cw_callI (h := 3) (mc := 153) (ms := 4843) (rc' := rc + 25) (rs' := rs + 5005) (as := []) (rest := [.ref h0]) (W0 := [(h0, .inr (12, [.null, .null, .null, .null, .null, .null, .null, .null, .null, .null, .null, .int 0, .int 0, .int 0]))]) (Wr := []) C (CHR_le (by decide) hH) dL_law_4 (gw1 36 rfl rfl) mi_X8_init (c_X8_init h0) (List.Perm.refl _) rfl rfl (Nat.le_of_ble_eq_true rfl) (by decide) (by omega) (by omega) (fun v9 W9 h9 => ?_)
  obtain ⟨rfl, a2, a4, a6, a6b, a8, a10, a12, a14, a16, a18, a20, a22, q11, rfl⟩ := h9
  refine cw_perm (List.Perm.of_eq (List.append_nil _)) ?_
  refine cw_astore_n C dL_law_7 rfl (by decide) rfl ?_
  refine cw_new (ci := 13) (K := RX9) (T := TX9) (N := 34) (fs := [.int 0, .null, .null, .null, .null, .int 0, .int 0, .null, .null, .int 0, .int 0, .int 0, .null, .null, .null, .null, .null, .null, .null, .null, .null, .int 0, .null, .null, .null, .int 0, .null, .null, .int 0, .int 0, .int 0, .null, .null, .int 0]) (rc := rc + 24) (rs := rs + 4971) (pre := []) (Wr := taW (CGV G) h0 a2 a4 a6 a6b a8 a10 a12 a14 a16 a18 a20 a22 q11) C dL_law_8 inX9 tyX9 tyX9_ok (gw8 14 rfl rfl) (gw8 15 rfl rfl) (gw1 15 rfl rfl) rfl dfX9 rfl (fun m0 => ?_)
  refine cw_dup C dL_law_11 rfl ?_
  refine cw_callI (h := 1) (mc := 22) (ms := 4969) (rc' := rc + 2) (rs' := rs + 2) (as := []) (rest := [.ref m0]) (W0 := [(m0, .inr (13, [.int 0, .null, .null, .null, .null, .int 0, .int 0, .null, .null, .int 0, .int 0, .int 0, .null, .null, .null, .null, .null, .null, .null, .null, .null, .int 0, .null, .null, .null, .int 0, .null, .null, .int 0, .int 0, .int 0, .null, .null, .int 0]))]) (Wr := taW (CGV G) h0 a2 a4 a6 a6b a8 a10 a12 a14 a16 a18 a20 a22 q11) C (CHR_le (by decide) hH) dL_law_12 (gw8 16 rfl rfl) mi_X9_init (c_X9_init m0) (List.Perm.refl _) rfl rfl (Nat.le_of_ble_eq_true rfl) (by decide) (by omega) (by omega) (fun v9 W9 h9 => ?_)
  obtain ⟨rfl, am, rfl, rfl⟩ := h9
  refine cw_astore_n C dL_law_15 rfl (by decide) rfl ?_
  refine cw_iconst (v := (1 : Int32)) C dL_law_16 (by decide) ?_
  refine cw_newa (atype := .long) (a := 6) (N := 1) (a0 := (1, .inr (.inl (fun _ => 0)))) (rc := rc + 1) (rs := rs + 1) (pre := []) (Wr := (modW (CGV G) am ++ taW (CGV G) h0 a2 a4 a6 a6b a8 a10 a12 a14 a16 a18 a20 a22 q11)) C dL_law_17 (gw10 99 rfl rfl) (by decide) rfl (fun _ => rfl) (by decide) (by decide) (Nat.le_of_ble_eq_true rfl) rfl (fun qo => ?_)
  refine cw_astore_n C dL_law_19 rfl (by decide) rfl ?_
  refine cw_iconst (v := (1 : Int32)) C dL_law_20 (by decide) ?_
  refine cw_newa (atype := .double) (a := 7) (N := 1) (a0 := (1, .inr (.inr (.inr (.inl (fun _ => 0)))))) (rc := rc) (rs := rs) (pre := []) (Wr := (qo, .inl ((CGV G).2.2 6, (1, .inr (.inl (fun _ => 0))))) :: (modW (CGV G) am ++ taW (CGV G) h0 a2 a4 a6 a6b a8 a10 a12 a14 a16 a18 a20 a22 q11)) C dL_law_21 (gw10 100 rfl rfl) (by decide) rfl (fun _ => rfl) (by decide) (by decide) (Nat.le_of_ble_eq_true rfl) rfl (fun qd => ?_)
  refine cw_astore C dL_law_23 (by decide) rfl ?_
  refine cw_iconst (v := (0 : Int32)) C dL_law_25 (by decide) ?_
  refine cw_istore C dL_law_26 (by decide) rfl ?_
  exact k (fun i => match i with | 0 => a14 | 1 => a2 | 2 => a4 | 3 => a6 | 4 => a8 | 5 => a10 | 6 => a16 | 7 => a18 | 8 => a20 | 9 => a22 | _ => am) a6b (fun i => match i with | 0 => h0 | 1 => a12 | 2 => q11 | 3 => qo | _ => qd)
/-- the cells that a text's builder holds: n signs, m places -/
def SBT (V : VT) (tl : va_W) : Prop := ∃ (q m : Nat) (f : Nat → Int32) (ml : Int32) (n : Nat) (t : Nat → Nat) (rest : va_W), tl = sbW V (V.1 41 0) q m f ml (nI n) ++ rest ∧ n ≤ m ∧ 16 ≤ m ∧ m ≤ 60 ∧ sb_Fit f ∧ sb_Lat t n f
theorem Aof_eq {V : VT} {idx : List (Nat × Nat)} {tl : va_W} {sz : Nat} (h : ∀ q ∈ wl V idx (fun _ _ _ => 0) ++ tl, sz ≤ q.1) : (fun q => sz ≤ q) = Aof V idx tl sz := by
  funext q
  refine propext ⟨fun h9 => Or.inr h9, fun h9 => ?_⟩
  rcases h9 with ⟨k, e9, h9⟩ | h9
  · exact h (q, e9) (List.mem_of_getElem? h9)
  · exact h9
section ENT
variable {p : Program} {l : Launch} {e : Env} {s : State} {m : MethodId} {below : List Frame} {meth : Method} {c : Code} {Q : State → Prop} {b L : Nat} {xs : Nat → Int32}
/-- from the objects' world to the layout's walk -/
theorem law_to {V : VT} {T B : Nat → Nat → Nat} {z : Nat → Nat} {rc rs : Nat} (ht : ∀ w ∈ lw_tbl, w.before #[.ref b] s = true) (hs : ∀ w ∈ flatC (Jvm.Cond.and given_1 narrow_1), w.before #[.ref b] s = true) (htr : l.stackTraces = false) (C : CC (p, l, e, room_1, s, m, #[.ref b], below, meth, c, Q, fun q => s.heap.size ≤ q, V) cL_law 9 RL)
    (k : ∀ (V9 : VT) (tl : va_W), V9.2 = V.2 → SBT V9 tl → PCx (p, l, e, room_1, s, m, #[.ref b], below, meth, c, Q, fun q => s.heap.size ≤ q, V9, idxA, tl) cL_law 9 RL → PW (p, l, e, room_1, s, m, #[.ref b], below, meth, c, Q, fun q => s.heap.size ≤ q, V9, idxA, tl) rc rs 28 [some (pW (.ref b)), some (pR 40 0), some (pR 50 0), some (pR 80 0), some (pR 81 0), some (pI 0), none, none, none] [] mu0) : CW (p, l, e, room_1, s, m, #[.ref b], below, meth, c, Q, fun q => s.heap.size ≤ q, V) rc rs 28 [some (pW (.ref b)), some (pW (.ref (z 0))), some (pW (.ref (T 10 0))), some (pW (.ref (z 3))), some (pW (.ref (z 4))), some (pI 0), none, none, none] [] (rawW V T B z) := by
  intro H locs cells slots lsM hP hD hS hl h1 h2
  obtain ⟨d1, d2⟩ := va_D_iff.mp hD
  have hN : ∀ μ : Mem, ((wl (adW T B z, V.2) idxA μ ++ sbW V (z 2) (z 1) 16 (fun _ => 0) 0 0).map Prod.fst).Nodup := fun μ => (raw_perm μ).nodup_iff.mp d1
  have hA : ∀ μ : Mem, ∀ q ∈ wl (adW T B z, V.2) idxA μ ++ sbW V (z 2) (z 1) 16 (fun _ => 0) 0 0, s.heap.size ≤ q.1 := fun μ q hq => by
    have : q.1 ∈ (rawW V T B z).map Prod.fst := (raw_perm μ).mem_iff.mpr (List.mem_map.mpr ⟨q, hq, rfl⟩)
    obtain ⟨q9, h9, e9⟩ := List.mem_map.mp this
    exact e9 ▸ d2 q9 h9
  obtain ⟨z1, z2⟩ := law_Zs ht hs
  have hE := C.2.2.2.2.2.1
  have K := k (adW T B z, V.2) (sbW V (z 2) (z 1) 16 (fun _ => 0) 0 0) rfl ⟨z 1, 16, fun _ => 0, 0, 0, fun _ => 0, [], (List.append_nil _).symm, by decide, by decide, by decide, sb_fit0, fun j hj => absurd hj (Nat.not_lt_zero j)⟩
    ⟨C.1, C.2.1, C.2.2.1, C.2.2.2.1, C.2.2.2.2.1, ⟨hE.1, fun μ => va_D_iff.mpr ⟨hN μ, fun _ _ => trivial⟩, z1, z2, law_strs ht hs, hE.2.1, law_ncs hs⟩, va_D_iff.mpr ⟨hN _, hA _⟩, idxA_ok, fun q h => h, Aof_eq (hA _), C.2.2.2.2.2.2.2, htr⟩
  exact K H locs cells slots lsM (raw_wl hP) hS hl (by
    intro i v hv
    match i, hv with
    | 0, hv => cases hv; trivial
    | 1, hv => cases hv; exact Or.inl (by decide +kernel)
    | 2, hv => cases hv; exact Or.inl (by decide +kernel)
    | 3, hv => cases hv; exact Or.inl (by decide +kernel)
    | 4, hv => cases hv; exact Or.inl (by decide +kernel)
    | 5, hv => cases hv; trivial
    | 6, hv => cases hv
    | 7, hv => cases hv
    | 8, hv => cases hv
    | i + 9, hv => simp at hv) (fun v hv => by cases hv) h1 h2
end ENT
