theorem dX2_build_0 : decode cX2_build 0 = .ok (.iconst 0, 1) := by decide +kernel
theorem dX2_build_1 : decode cX2_build 1 = .ok (.istore_n 1, 1) := by decide +kernel
theorem dX2_build_2 : decode cX2_build 2 = .ok (.iload_n 1, 1) := by decide +kernel
theorem dX2_build_3 : decode cX2_build 3 = .ok (.aload_n 0, 1) := by decide +kernel
theorem dX2_build_4 : decode cX2_build 4 = .ok (.getfield 37, 3) := by decide +kernel
theorem dX2_build_7 : decode cX2_build 7 = .ok (.getfield 45, 3) := by decide +kernel
theorem dX2_build_10 : decode cX2_build 10 = .ok (.if_icmp .ge 104, 3) := by decide +kernel
theorem dX2_build_13 : decode cX2_build 13 = .ok (.aload_n 0, 1) := by decide +kernel
theorem dX2_build_14 : decode cX2_build 14 = .ok (.getfield 37, 3) := by decide +kernel
theorem dX2_build_17 : decode cX2_build 17 = .ok (.getfield 51, 3) := by decide +kernel
theorem dX2_build_20 : decode cX2_build 20 = .ok (.iload_n 1, 1) := by decide +kernel
theorem dX2_build_21 : decode cX2_build 21 = .ok (.invokestatic 54, 3) := by decide +kernel
theorem dX2_build_24 : decode cX2_build 24 = .ok (.istore_n 2, 1) := by decide +kernel
theorem dX2_build_25 : decode cX2_build 25 = .ok (.iload_n 2, 1) := by decide +kernel
theorem dX2_build_26 : decode cX2_build 26 = .ok (.bipush 8, 2) := by decide +kernel
theorem dX2_build_28 : decode cX2_build 28 = .ok (.invokestatic 58, 3) := by decide +kernel
theorem dX2_build_31 : decode cX2_build 31 = .ok (.ifCond .eq 17, 3) := by decide +kernel
theorem dX2_build_34 : decode cX2_build 34 = .ok (.aload_n 0, 1) := by decide +kernel
theorem dX2_build_35 : decode cX2_build 35 = .ok (.getfield 41, 3) := by decide +kernel
theorem dX2_build_38 : decode cX2_build 38 = .ok (.getfield 62, 3) := by decide +kernel
theorem dX2_build_41 : decode cX2_build 41 = .ok (.iload_n 2, 1) := by decide +kernel
theorem dX2_build_42 : decode cX2_build 42 = .ok (.invokestatic 54, 3) := by decide +kernel
theorem dX2_build_45 : decode cX2_build 45 = .ok (.goto 4, 3) := by decide +kernel
theorem dX2_build_48 : decode cX2_build 48 = .ok (.iconst 0, 1) := by decide +kernel
theorem dX2_build_49 : decode cX2_build 49 = .ok (.istore_n 3, 1) := by decide +kernel
theorem dX2_build_50 : decode cX2_build 50 = .ok (.aload_n 0, 1) := by decide +kernel
theorem dX2_build_51 : decode cX2_build 51 = .ok (.getfield 9, 3) := by decide +kernel
theorem dX2_build_54 : decode cX2_build 54 = .ok (.iload_n 1, 1) := by decide +kernel
theorem dX2_build_55 : decode cX2_build 55 = .ok (.aload_n 0, 1) := by decide +kernel
theorem dX2_build_56 : decode cX2_build 56 = .ok (.getfield 37, 3) := by decide +kernel
theorem dX2_build_59 : decode cX2_build 59 = .ok (.getfield 67, 3) := by decide +kernel
theorem dX2_build_62 : decode cX2_build 62 = .ok (.iload_n 1, 1) := by decide +kernel
theorem dX2_build_63 : decode cX2_build 63 = .ok (.invokestatic 54, 3) := by decide +kernel
theorem dX2_build_66 : decode cX2_build 66 = .ok (.iload_n 3, 1) := by decide +kernel
theorem dX2_build_67 : decode cX2_build 67 = .ok (.iadd, 1) := by decide +kernel
theorem dX2_build_68 : decode cX2_build 68 = .ok (.invokestatic 68, 3) := by decide +kernel
theorem dX2_build_71 : decode cX2_build 71 = .ok (.aload_n 0, 1) := by decide +kernel
theorem dX2_build_72 : decode cX2_build 72 = .ok (.getfield 15, 3) := by decide +kernel
theorem dX2_build_75 : decode cX2_build 75 = .ok (.iload_n 1, 1) := by decide +kernel
theorem dX2_build_76 : decode cX2_build 76 = .ok (.aload_n 0, 1) := by decide +kernel
theorem dX2_build_77 : decode cX2_build 77 = .ok (.getfield 37, 3) := by decide +kernel
theorem dX2_build_80 : decode cX2_build 80 = .ok (.getfield 72, 3) := by decide +kernel
theorem dX2_build_83 : decode cX2_build 83 = .ok (.iload_n 1, 1) := by decide +kernel
theorem dX2_build_84 : decode cX2_build 84 = .ok (.invokestatic 54, 3) := by decide +kernel
theorem dX2_build_87 : decode cX2_build 87 = .ok (.iload_n 3, 1) := by decide +kernel
theorem dX2_build_88 : decode cX2_build 88 = .ok (.iadd, 1) := by decide +kernel
theorem dX2_build_89 : decode cX2_build 89 = .ok (.invokestatic 68, 3) := by decide +kernel
theorem dX2_build_92 : decode cX2_build 92 = .ok (.aload_n 0, 1) := by decide +kernel
theorem dX2_build_93 : decode cX2_build 93 = .ok (.getfield 18, 3) := by decide +kernel
theorem dX2_build_96 : decode cX2_build 96 = .ok (.iload_n 1, 1) := by decide +kernel
theorem dX2_build_97 : decode cX2_build 97 = .ok (.aload_n 0, 1) := by decide +kernel
theorem dX2_build_98 : decode cX2_build 98 = .ok (.getfield 37, 3) := by decide +kernel
theorem dX2_build_101 : decode cX2_build 101 = .ok (.iload_n 1, 1) := by decide +kernel
theorem dX2_build_102 : decode cX2_build 102 = .ok (.invokevirtual 73, 3) := by decide +kernel
theorem dX2_build_105 : decode cX2_build 105 = .ok (.invokestatic 68, 3) := by decide +kernel
theorem dX2_build_108 : decode cX2_build 108 = .ok (.iinc 1 1, 3) := by decide +kernel
theorem dX2_build_111 : decode cX2_build 111 = .ok (.goto (-109), 3) := by decide +kernel
theorem dX2_build_114 : decode cX2_build 114 = .ok (.iconst 0, 1) := by decide +kernel
theorem dX2_build_115 : decode cX2_build 115 = .ok (.istore_n 1, 1) := by decide +kernel
theorem dX2_build_116 : decode cX2_build 116 = .ok (.iload_n 1, 1) := by decide +kernel
theorem dX2_build_117 : decode cX2_build 117 = .ok (.aload_n 0, 1) := by decide +kernel
theorem dX2_build_118 : decode cX2_build 118 = .ok (.getfield 37, 3) := by decide +kernel
theorem dX2_build_121 : decode cX2_build 121 = .ok (.getfield 45, 3) := by decide +kernel
theorem dX2_build_124 : decode cX2_build 124 = .ok (.if_icmp .ge 81, 3) := by decide +kernel
theorem dX2_build_127 : decode cX2_build 127 = .ok (.aload_n 0, 1) := by decide +kernel
theorem dX2_build_128 : decode cX2_build 128 = .ok (.getfield 21, 3) := by decide +kernel
theorem dX2_build_131 : decode cX2_build 131 = .ok (.iload_n 1, 1) := by decide +kernel
theorem dX2_build_132 : decode cX2_build 132 = .ok (.aload_n 0, 1) := by decide +kernel
theorem dX2_build_133 : decode cX2_build 133 = .ok (.iload_n 1, 1) := by decide +kernel
theorem dX2_build_134 : decode cX2_build 134 = .ok (.invokevirtual 77, 3) := by decide +kernel
theorem dX2_build_137 : decode cX2_build 137 = .ok (.invokestatic 68, 3) := by decide +kernel
theorem dX2_build_140 : decode cX2_build 140 = .ok (.aload_n 0, 1) := by decide +kernel
theorem dX2_build_141 : decode cX2_build 141 = .ok (.getfield 24, 3) := by decide +kernel
theorem dX2_build_144 : decode cX2_build 144 = .ok (.iload_n 1, 1) := by decide +kernel
theorem dX2_build_145 : decode cX2_build 145 = .ok (.aload_n 0, 1) := by decide +kernel
theorem dX2_build_146 : decode cX2_build 146 = .ok (.getfield 21, 3) := by decide +kernel
theorem dX2_build_149 : decode cX2_build 149 = .ok (.iload_n 1, 1) := by decide +kernel
theorem dX2_build_150 : decode cX2_build 150 = .ok (.invokestatic 54, 3) := by decide +kernel
theorem dX2_build_153 : decode cX2_build 153 = .ok (.iconst 1, 1) := by decide +kernel
theorem dX2_build_154 : decode cX2_build 154 = .ok (.if_icmp .ne 14, 3) := by decide +kernel
theorem dX2_build_157 : decode cX2_build 157 = .ok (.aload_n 0, 1) := by decide +kernel
theorem dX2_build_158 : decode cX2_build 158 = .ok (.getfield 18, 3) := by decide +kernel
theorem dX2_build_161 : decode cX2_build 161 = .ok (.iload_n 1, 1) := by decide +kernel
theorem dX2_build_162 : decode cX2_build 162 = .ok (.invokestatic 54, 3) := by decide +kernel
theorem dX2_build_165 : decode cX2_build 165 = .ok (.goto 4, 3) := by decide +kernel
theorem dX2_build_168 : decode cX2_build 168 = .ok (.iconst (-1), 1) := by decide +kernel
theorem dX2_build_169 : decode cX2_build 169 = .ok (.invokestatic 68, 3) := by decide +kernel
theorem dX2_build_172 : decode cX2_build 172 = .ok (.aload_n 0, 1) := by decide +kernel
theorem dX2_build_173 : decode cX2_build 173 = .ok (.getfield 27, 3) := by decide +kernel
theorem dX2_build_176 : decode cX2_build 176 = .ok (.iload_n 1, 1) := by decide +kernel
theorem dX2_build_177 : decode cX2_build 177 = .ok (.aload_n 0, 1) := by decide +kernel
theorem dX2_build_178 : decode cX2_build 178 = .ok (.iload_n 1, 1) := by decide +kernel
theorem dX2_build_179 : decode cX2_build 179 = .ok (.invokevirtual 80, 3) := by decide +kernel
theorem dX2_build_182 : decode cX2_build 182 = .ok (.invokestatic 68, 3) := by decide +kernel
theorem dX2_build_185 : decode cX2_build 185 = .ok (.aload_n 0, 1) := by decide +kernel
theorem dX2_build_186 : decode cX2_build 186 = .ok (.getfield 30, 3) := by decide +kernel
theorem dX2_build_189 : decode cX2_build 189 = .ok (.iload_n 1, 1) := by decide +kernel
theorem dX2_build_190 : decode cX2_build 190 = .ok (.iconst 0, 1) := by decide +kernel
theorem dX2_build_191 : decode cX2_build 191 = .ok (.invokestatic 83, 3) := by decide +kernel
theorem dX2_build_194 : decode cX2_build 194 = .ok (.aload_n 0, 1) := by decide +kernel
theorem dX2_build_195 : decode cX2_build 195 = .ok (.iload_n 1, 1) := by decide +kernel
theorem dX2_build_196 : decode cX2_build 196 = .ok (.invokevirtual 87, 3) := by decide +kernel
theorem dX2_build_199 : decode cX2_build 199 = .ok (.iinc 1 1, 3) := by decide +kernel
theorem dX2_build_202 : decode cX2_build 202 = .ok (.goto (-86), 3) := by decide +kernel
theorem dX2_build_205 : decode cX2_build 205 = .ok (.iconst 0, 1) := by decide +kernel
theorem dX2_build_206 : decode cX2_build 206 = .ok (.istore_n 1, 1) := by decide +kernel
theorem dX2_build_207 : decode cX2_build 207 = .ok (.iload_n 1, 1) := by decide +kernel
theorem dX2_build_208 : decode cX2_build 208 = .ok (.aload_n 0, 1) := by decide +kernel
theorem dX2_build_209 : decode cX2_build 209 = .ok (.getfield 37, 3) := by decide +kernel
theorem dX2_build_212 : decode cX2_build 212 = .ok (.getfield 45, 3) := by decide +kernel
theorem dX2_build_215 : decode cX2_build 215 = .ok (.if_icmp .ge 28, 3) := by decide +kernel
theorem dX2_build_218 : decode cX2_build 218 = .ok (.aload_n 0, 1) := by decide +kernel
theorem dX2_build_219 : decode cX2_build 219 = .ok (.getfield 37, 3) := by decide +kernel
theorem dX2_build_222 : decode cX2_build 222 = .ok (.getfield 91, 3) := by decide +kernel
theorem dX2_build_225 : decode cX2_build 225 = .ok (.iload_n 1, 1) := by decide +kernel
theorem dX2_build_226 : decode cX2_build 226 = .ok (.invokestatic 94, 3) := by decide +kernel
theorem dX2_build_229 : decode cX2_build 229 = .ok (.ifCond .eq 8, 3) := by decide +kernel
theorem dX2_build_232 : decode cX2_build 232 = .ok (.aload_n 0, 1) := by decide +kernel
theorem dX2_build_233 : decode cX2_build 233 = .ok (.iload_n 1, 1) := by decide +kernel
theorem dX2_build_234 : decode cX2_build 234 = .ok (.invokevirtual 98, 3) := by decide +kernel
theorem dX2_build_237 : decode cX2_build 237 = .ok (.iinc 1 1, 3) := by decide +kernel
theorem dX2_build_240 : decode cX2_build 240 = .ok (.goto (-33), 3) := by decide +kernel
theorem dX2_build_243 : decode cX2_build 243 = .ok (.return_, 1) := by decide +kernel
set_option maxRecDepth 100000 in
set_option maxHeartbeats 4000000 in
theorem w2_build_b207_ok {G : GT} {P : Mem → Prop} {X : String → Mem → Prop} (C : PCx G cX2_build 4 RX2) (hRt : PRt G none (qV P) X) (hHR : HR G (3)) (hnT : NoT G) {μ : Mem} {l1 : Int32} (hk : w2_build_b207 P μ l1) : PW G 0 0 207 [some (pR 18 0), some (pI l1), none, none] [] μ := by
  refine hk (fun (μ : Mem) (l1 : Int32) => PW G 0 0 207 [some (pR 18 0), some (pI l1), none, none] [] μ) (fun (μ : Mem) l1 hk => ?_)
  have hR207 : ∀ (μ : Mem) (l1 : Int32), PW G 0 0 207 [some (pR 18 0), some (pI l1), none, none] [] μ → PW G 0 0 207 [some (pR 18 0), some (pI l1), none, none] [] μ := fun _ _ h => h
  unfold w2_build_b207_body at hk
  refine px_iload_n (i := 1) C dX2_build_207 rfl rfl ?_
  refine px_aload_n (i := 0) C dX2_build_208 rfl rfl ?_
  refine px_getr C dX2_build_209 fl_RX2_37 rfl rfl rfl ?_
  refine px_geti 1 C dX2_build_212 fl_RX2_45 rfl rfl rfl rfl ?_
  refine px_icmp_ge (tgt := 243) C dX2_build_215 (by decide) (fun c4 => ?_) (fun c4 => ?_)
  · replace hk := hk.1 c4
    exact px_vret C hRt dX2_build_243 rfl hk
  · replace hk := hk.2 c4
    refine px_aload_n (i := 0) C dX2_build_218 rfl rfl ?_
    refine px_getr C dX2_build_219 fl_RX2_37 rfl rfl rfl ?_
    refine px_getr C dX2_build_222 fl_RX2_91 rfl rfl rfl ?_
    refine px_iload_n (i := 1) C dX2_build_225 rfl rfl ?_
    obtain ⟨o1, hk⟩ := hk
    refine px_callSNi (h := 0) (rc' := 0) (rs' := 0) C (HR_le hHR (Nat.le_of_ble_eq_true rfl)) hRt hnT dX2_build_226 (List.mem_append_right _ (List.mem_append_left _ (List.mem_of_getElem? (i := 11) rfl))) ms_X8_flagAt (flagAt_ok (j := 7) (q := 0) (n := 40) (loc := 448) (PCx_l C) (PCx_I C) rfl rfl rfl o1) rfl rfl (Nat.le_of_ble_eq_true rfl) (Nat.le_of_ble_eq_true rfl) (Nat.le_of_ble_eq_true rfl) (Nat.le_of_ble_eq_true rfl) ?_
    rintro _ _ ⟨rfl, rfl⟩
    refine px_if_eq (tgt := 237) C dX2_build_229 (by decide) (fun c3 => ?_) (fun c3 => ?_)
    · replace hk := hk.1 (fz_1 c3)
      refine px_iinc (i := 1) (v := (1 : Int32)) C dX2_build_237 rfl rfl (by decide) rfl ?_
      refine px_goto (tgt := 207) C dX2_build_240 (by decide) ?_
      exact PW_at (hR207 _ _ hk) (And.intro rfl (And.intro rfl trivial)) (Nat.le_of_ble_eq_true rfl) (Nat.le_of_ble_eq_true rfl)
    · replace hk := hk.2 (fz_2 c3)
      refine px_aload_n (i := 0) C dX2_build_232 rfl rfl ?_
      refine px_iload_n (i := 1) C dX2_build_233 rfl rfl ?_
      refine px_callVv (h := 1) (rc' := 0) (rs' := 0) C (HR_le hHR (Nat.le_of_ble_eq_true rfl)) hRt hnT dX2_build_234 (gw3 12 rfl rfl) mv_X2_spreadError (w2_spreadError_ok (PCx_l C) (PCx_I C) hk) rfl rfl rfl rfl rfl (Nat.le_of_ble_eq_true rfl) (Nat.le_of_ble_eq_true rfl) (Nat.le_of_ble_eq_true rfl) (Nat.le_of_ble_eq_true rfl) ?_
      intro μ2 hk
      refine px_iinc (i := 1) (v := (1 : Int32)) C dX2_build_237 rfl rfl (by decide) rfl ?_
      refine px_goto (tgt := 207) C dX2_build_240 (by decide) ?_
      exact PW_at (hR207 _ _ hk) (And.intro rfl (And.intro rfl trivial)) (Nat.le_of_ble_eq_true rfl) (Nat.le_of_ble_eq_true rfl)
set_option maxRecDepth 100000 in
set_option maxHeartbeats 4000000 in
theorem w2_build_b169_ok {G : GT} {P : Mem → Prop} {X : String → Mem → Prop} (C : PCx G cX2_build 4 RX2) (hRt : PRt G none (qV P) X) (hHR : HR G (3)) (hnT : NoT G) {R116 : Mem → Int32 → Prop} (hR116 : ∀ (μ : Mem) (l1 : Int32), R116 μ l1 → PW G 0 0 116 [some (pR 18 0), some (pI l1), none, none] [] μ) {μ : Mem} {l1 : Int32} {s0 : Int32} {s1 : Int32} (hk : w2_build_b169 P R116 μ l1 s0 s1) : PW G 0 0 169 [some (pR 18 0), some (pI l1), none, none] [pI s0, pI s1, pR 23 0] μ := by
  unfold w2_build_b169 at hk
  obtain ⟨o10, hk⟩ := hk
  replace hk := hk _ rfl
  refine px_callSNv (h := 0) (rc' := 0) (rs' := 0) C (HR_le hHR (Nat.le_of_ble_eq_true rfl)) hRt hnT dX2_build_169 (List.mem_append_right _ (List.mem_append_left _ (List.mem_of_getElem? (i := 9) rfl))) ms_X8_set (set_ok (j := 23) (q := 0) (n := 40) (loc := 1472) (PCx_l C) (PCx_I C) rfl rfl rfl o10) rfl rfl (Nat.le_of_ble_eq_true rfl) (Nat.le_of_ble_eq_true rfl) (Nat.le_of_ble_eq_true rfl) (Nat.le_of_ble_eq_true rfl) ?_
  rintro _ rfl
  refine px_aload_n (i := 0) C dX2_build_172 rfl rfl ?_
  refine px_getr C dX2_build_173 fl_RX2_27 rfl rfl rfl ?_
  refine px_iload_n (i := 1) C dX2_build_176 rfl rfl ?_
  refine px_aload_n (i := 0) C dX2_build_177 rfl rfl ?_
  refine px_iload_n (i := 1) C dX2_build_178 rfl rfl ?_
  refine px_callVi (h := 1) (rc' := 0) (rs' := 0) C (HR_le hHR (Nat.le_of_ble_eq_true rfl)) hRt hnT dX2_build_179 (gw2 234 rfl rfl) mv_X2_nodeOver (w2_nodeOver_ok (PCx_l C) (PCx_I C) hk) rfl rfl rfl rfl rfl (Nat.le_of_ble_eq_true rfl) (Nat.le_of_ble_eq_true rfl) (Nat.le_of_ble_eq_true rfl) (Nat.le_of_ble_eq_true rfl) ?_
  intro r13 μ12 hk
  obtain ⟨o14, hk⟩ := hk
  replace hk := hk _ rfl
  refine px_callSNv (h := 0) (rc' := 0) (rs' := 0) C (HR_le hHR (Nat.le_of_ble_eq_true rfl)) hRt hnT dX2_build_182 (List.mem_append_right _ (List.mem_append_left _ (List.mem_of_getElem? (i := 9) rfl))) ms_X8_set (set_ok (j := 24) (q := 0) (n := 40) (loc := 1536) (PCx_l C) (PCx_I C) rfl rfl rfl o14) rfl rfl (Nat.le_of_ble_eq_true rfl) (Nat.le_of_ble_eq_true rfl) (Nat.le_of_ble_eq_true rfl) (Nat.le_of_ble_eq_true rfl) ?_
  rintro _ rfl
  refine px_aload_n (i := 0) C dX2_build_185 rfl rfl ?_
  refine px_getr C dX2_build_186 fl_RX2_30 rfl rfl rfl ?_
  refine px_iload_n (i := 1) C dX2_build_189 rfl rfl ?_
  refine px_iconst (v := (0 : Int32)) C dX2_build_190 rfl ?_
  obtain ⟨o16, hk⟩ := hk
  replace hk := hk _ rfl
  refine px_callSNv (h := 0) (rc' := 0) (rs' := 0) C (HR_le hHR (Nat.le_of_ble_eq_true rfl)) hRt hnT dX2_build_191 (List.mem_append_right _ (List.mem_append_left _ (List.mem_of_getElem? (i := 10) rfl))) ms_X8_setFlag (setFlag_ok (j := 25) (q := 0) (n := 40) (loc := 1600) (PCx_l C) (PCx_I C) rfl rfl rfl o16) rfl rfl (Nat.le_of_ble_eq_true rfl) (Nat.le_of_ble_eq_true rfl) (Nat.le_of_ble_eq_true rfl) (Nat.le_of_ble_eq_true rfl) ?_
  rintro _ rfl
  refine px_aload_n (i := 0) C dX2_build_194 rfl rfl ?_
  refine px_iload_n (i := 1) C dX2_build_195 rfl rfl ?_
  refine px_callVv (h := 2) (rc' := 0) (rs' := 0) C (HR_le hHR (Nat.le_of_ble_eq_true rfl)) hRt hnT dX2_build_196 (gw3 1 rfl rfl) mv_X2_insert (w2_insert_ok (PCx_l C) (PCx_I C) hk) rfl rfl rfl rfl rfl (Nat.le_of_ble_eq_true rfl) (Nat.le_of_ble_eq_true rfl) (Nat.le_of_ble_eq_true rfl) (Nat.le_of_ble_eq_true rfl) ?_
  intro μ18 hk
  refine px_iinc (i := 1) (v := (1 : Int32)) C dX2_build_199 rfl rfl (by decide) rfl ?_
  refine px_goto (tgt := 116) C dX2_build_202 (by decide) ?_
  exact PW_at (hR116 _ _ hk) (And.intro rfl (And.intro rfl trivial)) (Nat.le_of_ble_eq_true rfl) (Nat.le_of_ble_eq_true rfl)
set_option maxRecDepth 100000 in
set_option maxHeartbeats 4000000 in
theorem w2_build_b116_ok {G : GT} {P : Mem → Prop} {X : String → Mem → Prop} (C : PCx G cX2_build 4 RX2) (hRt : PRt G none (qV P) X) (hHR : HR G (3)) (hnT : NoT G) {μ : Mem} {l1 : Int32} (hk : w2_build_b116 P μ l1) : PW G 0 0 116 [some (pR 18 0), some (pI l1), none, none] [] μ := by
  refine hk (fun (μ : Mem) (l1 : Int32) => PW G 0 0 116 [some (pR 18 0), some (pI l1), none, none] [] μ) (fun (μ : Mem) l1 hk => ?_)
  have hR116 : ∀ (μ : Mem) (l1 : Int32), PW G 0 0 116 [some (pR 18 0), some (pI l1), none, none] [] μ → PW G 0 0 116 [some (pR 18 0), some (pI l1), none, none] [] μ := fun _ _ h => h
  unfold w2_build_b116_body at hk
  refine px_iload_n (i := 1) C dX2_build_116 rfl rfl ?_
  refine px_aload_n (i := 0) C dX2_build_117 rfl rfl ?_
  refine px_getr C dX2_build_118 fl_RX2_37 rfl rfl rfl ?_
  refine px_geti 1 C dX2_build_121 fl_RX2_45 rfl rfl rfl rfl ?_
  refine px_icmp_ge (tgt := 205) C dX2_build_124 (by decide) (fun c21 => ?_) (fun c21 => ?_)
  · replace hk := hk.1 c21
    refine px_iconst (v := (0 : Int32)) C dX2_build_205 rfl ?_
    refine px_istore_n (i := 1) C dX2_build_206 rfl (by decide) rfl ?_
    exact PW_at (w2_build_b207_ok C hRt hHR hnT hk) (And.intro rfl (And.intro rfl trivial)) (Nat.le_of_ble_eq_true rfl) (Nat.le_of_ble_eq_true rfl)
  · replace hk := hk.2 c21
    refine px_aload_n (i := 0) C dX2_build_127 rfl rfl ?_
    refine px_getr C dX2_build_128 fl_RX2_21 rfl rfl rfl ?_
    refine px_iload_n (i := 1) C dX2_build_131 rfl rfl ?_
    refine px_aload_n (i := 0) C dX2_build_132 rfl rfl ?_
    refine px_iload_n (i := 1) C dX2_build_133 rfl rfl ?_
    refine px_callVi (h := 2) (rc' := 0) (rs' := 0) C (HR_le hHR (Nat.le_of_ble_eq_true rfl)) hRt hnT dX2_build_134 (gw2 226 rfl rfl) mv_X2_kindOf (w2_kindOf_ok (PCx_l C) (PCx_I C) hk) rfl rfl rfl rfl rfl (Nat.le_of_ble_eq_true rfl) (Nat.le_of_ble_eq_true rfl) (Nat.le_of_ble_eq_true rfl) (Nat.le_of_ble_eq_true rfl) ?_
    intro r6 μ5 hk
    obtain ⟨o7, hk⟩ := hk
    replace hk := hk _ rfl
    refine px_callSNv (h := 0) (rc' := 0) (rs' := 0) C (HR_le hHR (Nat.le_of_ble_eq_true rfl)) hRt hnT dX2_build_137 (List.mem_append_right _ (List.mem_append_left _ (List.mem_of_getElem? (i := 9) rfl))) ms_X8_set (set_ok (j := 22) (q := 0) (n := 40) (loc := 1408) (PCx_l C) (PCx_I C) rfl rfl rfl o7) rfl rfl (Nat.le_of_ble_eq_true rfl) (Nat.le_of_ble_eq_true rfl) (Nat.le_of_ble_eq_true rfl) (Nat.le_of_ble_eq_true rfl) ?_
    rintro _ rfl
    refine px_aload_n (i := 0) C dX2_build_140 rfl rfl ?_
    refine px_getr C dX2_build_141 fl_RX2_24 rfl rfl rfl ?_
    refine px_iload_n (i := 1) C dX2_build_144 rfl rfl ?_
    refine px_aload_n (i := 0) C dX2_build_145 rfl rfl ?_
    refine px_getr C dX2_build_146 fl_RX2_21 rfl rfl rfl ?_
    refine px_iload_n (i := 1) C dX2_build_149 rfl rfl ?_
    obtain ⟨o9, hk⟩ := hk
    refine px_callSNi (h := 0) (rc' := 0) (rs' := 0) C (HR_le hHR (Nat.le_of_ble_eq_true rfl)) hRt hnT dX2_build_150 (List.mem_append_right _ (List.mem_append_left _ (List.mem_of_getElem? (i := 7) rfl))) ms_X8_at (at_ok (j := 22) (q := 0) (n := 40) (loc := 1408) (PCx_l C) (PCx_I C) rfl rfl rfl o9) rfl rfl (Nat.le_of_ble_eq_true rfl) (Nat.le_of_ble_eq_true rfl) (Nat.le_of_ble_eq_true rfl) (Nat.le_of_ble_eq_true rfl) ?_
    rintro _ _ ⟨rfl, rfl⟩
    refine px_iconst (v := (1 : Int32)) C dX2_build_153 rfl ?_
    refine px_icmp_ne (tgt := 168) C dX2_build_154 (by decide) (fun c20 => ?_) (fun c20 => ?_)
    · replace hk := hk.1 c20
      refine px_iconst (v := (-1 : Int32)) C dX2_build_168 rfl ?_
      exact PW_at (w2_build_b169_ok C hRt hHR hnT hR116 hk) (And.intro rfl (And.intro rfl trivial)) (Nat.le_of_ble_eq_true rfl) (Nat.le_of_ble_eq_true rfl)
    · replace hk := hk.2 c20
      refine px_aload_n (i := 0) C dX2_build_157 rfl rfl ?_
      refine px_getr C dX2_build_158 fl_RX2_18 rfl rfl rfl ?_
      refine px_iload_n (i := 1) C dX2_build_161 rfl rfl ?_
      obtain ⟨o19, hk⟩ := hk
      refine px_callSNi (h := 0) (rc' := 0) (rs' := 0) C (HR_le hHR (Nat.le_of_ble_eq_true rfl)) hRt hnT dX2_build_162 (List.mem_append_right _ (List.mem_append_left _ (List.mem_of_getElem? (i := 7) rfl))) ms_X8_at (at_ok (j := 21) (q := 0) (n := 40) (loc := 1344) (PCx_l C) (PCx_I C) rfl rfl rfl o19) rfl rfl (Nat.le_of_ble_eq_true rfl) (Nat.le_of_ble_eq_true rfl) (Nat.le_of_ble_eq_true rfl) (Nat.le_of_ble_eq_true rfl) ?_
      rintro _ _ ⟨rfl, rfl⟩
      refine px_goto (tgt := 169) C dX2_build_165 (by decide) ?_
      exact PW_at (w2_build_b169_ok C hRt hHR hnT hR116 hk) (And.intro rfl (And.intro rfl trivial)) (Nat.le_of_ble_eq_true rfl) (Nat.le_of_ble_eq_true rfl)
set_option maxRecDepth 100000 in
set_option maxHeartbeats 4000000 in
theorem w2_build_b49_ok {G : GT} {P : Mem → Prop} {X : String → Mem → Prop} (C : PCx G cX2_build 4 RX2) (hRt : PRt G none (qV P) X) (hHR : HR G (3)) (hnT : NoT G) {R2 : Mem → Int32 → Prop} (hR2 : ∀ (μ : Mem) (l1 : Int32), R2 μ l1 → PW G 0 0 2 [some (pR 18 0), some (pI l1), none, none] [] μ) {μ : Mem} {l1 : Int32} {s0 : Int32} (hk : w2_build_b49 P R2 μ l1 s0) : PW G 0 0 49 [some (pR 18 0), some (pI l1), none, none] [pI s0] μ := by
  unfold w2_build_b49 at hk
  refine px_istore_n (i := 3) C dX2_build_49 rfl (by decide) rfl ?_
  refine px_aload_n (i := 0) C dX2_build_50 rfl rfl ?_
  refine px_getr C dX2_build_51 fl_RX2_9 rfl rfl rfl ?_
  refine px_iload_n (i := 1) C dX2_build_54 rfl rfl ?_
  refine px_aload_n (i := 0) C dX2_build_55 rfl rfl ?_
  refine px_getr C dX2_build_56 fl_RX2_37 rfl rfl rfl ?_
  refine px_getr C dX2_build_59 fl_RX2_67 rfl rfl rfl ?_
  refine px_iload_n (i := 1) C dX2_build_62 rfl rfl ?_
  obtain ⟨o25, hk⟩ := hk
  refine px_callSNi (h := 0) (rc' := 0) (rs' := 0) C (HR_le hHR (Nat.le_of_ble_eq_true rfl)) hRt hnT dX2_build_63 (List.mem_append_right _ (List.mem_append_left _ (List.mem_of_getElem? (i := 7) rfl))) ms_X8_at (at_ok (j := 5) (q := 0) (n := 40) (loc := 320) (PCx_l C) (PCx_I C) rfl rfl rfl o25) rfl rfl (Nat.le_of_ble_eq_true rfl) (Nat.le_of_ble_eq_true rfl) (Nat.le_of_ble_eq_true rfl) (Nat.le_of_ble_eq_true rfl) ?_
  rintro _ _ ⟨rfl, rfl⟩
  refine px_iload_n (i := 3) C dX2_build_66 rfl rfl ?_
  refine px_iadd C dX2_build_67 ?_
  obtain ⟨o26, hk⟩ := hk
  replace hk := hk _ rfl
  refine px_callSNv (h := 0) (rc' := 0) (rs' := 0) C (HR_le hHR (Nat.le_of_ble_eq_true rfl)) hRt hnT dX2_build_68 (List.mem_append_right _ (List.mem_append_left _ (List.mem_of_getElem? (i := 9) rfl))) ms_X8_set (set_ok (j := 19) (q := 0) (n := 40) (loc := 1216) (PCx_l C) (PCx_I C) rfl rfl rfl o26) rfl rfl (Nat.le_of_ble_eq_true rfl) (Nat.le_of_ble_eq_true rfl) (Nat.le_of_ble_eq_true rfl) (Nat.le_of_ble_eq_true rfl) ?_
  rintro _ rfl
  refine px_aload_n (i := 0) C dX2_build_71 rfl rfl ?_
  refine px_getr C dX2_build_72 fl_RX2_15 rfl rfl rfl ?_
  refine px_iload_n (i := 1) C dX2_build_75 rfl rfl ?_
  refine px_aload_n (i := 0) C dX2_build_76 rfl rfl ?_
  refine px_getr C dX2_build_77 fl_RX2_37 rfl rfl rfl ?_
  refine px_getr C dX2_build_80 fl_RX2_72 rfl rfl rfl ?_
  refine px_iload_n (i := 1) C dX2_build_83 rfl rfl ?_
  obtain ⟨o28, hk⟩ := hk
  refine px_callSNi (h := 0) (rc' := 0) (rs' := 0) C (HR_le hHR (Nat.le_of_ble_eq_true rfl)) hRt hnT dX2_build_84 (List.mem_append_right _ (List.mem_append_left _ (List.mem_of_getElem? (i := 7) rfl))) ms_X8_at (at_ok (j := 6) (q := 0) (n := 40) (loc := 384) (PCx_l C) (PCx_I C) rfl rfl rfl o28) rfl rfl (Nat.le_of_ble_eq_true rfl) (Nat.le_of_ble_eq_true rfl) (Nat.le_of_ble_eq_true rfl) (Nat.le_of_ble_eq_true rfl) ?_
  rintro _ _ ⟨rfl, rfl⟩
  refine px_iload_n (i := 3) C dX2_build_87 rfl rfl ?_
  refine px_iadd C dX2_build_88 ?_
  obtain ⟨o29, hk⟩ := hk
  replace hk := hk _ rfl
  refine px_callSNv (h := 0) (rc' := 0) (rs' := 0) C (HR_le hHR (Nat.le_of_ble_eq_true rfl)) hRt hnT dX2_build_89 (List.mem_append_right _ (List.mem_append_left _ (List.mem_of_getElem? (i := 9) rfl))) ms_X8_set (set_ok (j := 20) (q := 0) (n := 40) (loc := 1280) (PCx_l C) (PCx_I C) rfl rfl rfl o29) rfl rfl (Nat.le_of_ble_eq_true rfl) (Nat.le_of_ble_eq_true rfl) (Nat.le_of_ble_eq_true rfl) (Nat.le_of_ble_eq_true rfl) ?_
  rintro _ rfl
  refine px_aload_n (i := 0) C dX2_build_92 rfl rfl ?_
  refine px_getr C dX2_build_93 fl_RX2_18 rfl rfl rfl ?_
  refine px_iload_n (i := 1) C dX2_build_96 rfl rfl ?_
  refine px_aload_n (i := 0) C dX2_build_97 rfl rfl ?_
  refine px_getr C dX2_build_98 fl_RX2_37 rfl rfl rfl ?_
  refine px_iload_n (i := 1) C dX2_build_101 rfl rfl ?_
  refine px_callVi (h := 1) (rc' := 0) (rs' := 0) C (HR_le hHR (Nat.le_of_ble_eq_true rfl)) hRt hnT dX2_build_102 (gw2 225 rfl rfl) mv_X7_presentParent (w7_presentParent_ok (PCx_l C) (PCx_I C) hk) rfl rfl rfl rfl rfl (Nat.le_of_ble_eq_true rfl) (Nat.le_of_ble_eq_true rfl) (Nat.le_of_ble_eq_true rfl) (Nat.le_of_ble_eq_true rfl) ?_
  intro r32 μ31 hk
  obtain ⟨o33, hk⟩ := hk
  replace hk := hk _ rfl
  refine px_callSNv (h := 0) (rc' := 0) (rs' := 0) C (HR_le hHR (Nat.le_of_ble_eq_true rfl)) hRt hnT dX2_build_105 (List.mem_append_right _ (List.mem_append_left _ (List.mem_of_getElem? (i := 9) rfl))) ms_X8_set (set_ok (j := 21) (q := 0) (n := 40) (loc := 1344) (PCx_l C) (PCx_I C) rfl rfl rfl o33) rfl rfl (Nat.le_of_ble_eq_true rfl) (Nat.le_of_ble_eq_true rfl) (Nat.le_of_ble_eq_true rfl) (Nat.le_of_ble_eq_true rfl) ?_
  rintro _ rfl
  refine px_iinc (i := 1) (v := (1 : Int32)) C dX2_build_108 rfl rfl (by decide) rfl ?_
  refine px_goto (tgt := 2) C dX2_build_111 (by decide) ?_
  exact PW_at (hR2 _ _ hk) (And.intro rfl (And.intro rfl trivial)) (Nat.le_of_ble_eq_true rfl) (Nat.le_of_ble_eq_true rfl)
set_option maxRecDepth 100000 in
set_option maxHeartbeats 4000000 in
theorem w2_build_b2_ok {G : GT} {P : Mem → Prop} {X : String → Mem → Prop} (C : PCx G cX2_build 4 RX2) (hRt : PRt G none (qV P) X) (hHR : HR G (3)) (hnT : NoT G) {μ : Mem} {l1 : Int32} (hk : w2_build_b2 P μ l1) : PW G 0 0 2 [some (pR 18 0), some (pI l1), none, none] [] μ := by
  refine hk (fun (μ : Mem) (l1 : Int32) => PW G 0 0 2 [some (pR 18 0), some (pI l1), none, none] [] μ) (fun (μ : Mem) l1 hk => ?_)
  have hR2 : ∀ (μ : Mem) (l1 : Int32), PW G 0 0 2 [some (pR 18 0), some (pI l1), none, none] [] μ → PW G 0 0 2 [some (pR 18 0), some (pI l1), none, none] [] μ := fun _ _ h => h
  unfold w2_build_b2_body at hk
  refine px_iload_n (i := 1) C dX2_build_2 rfl rfl ?_
  refine px_aload_n (i := 0) C dX2_build_3 rfl rfl ?_
  refine px_getr C dX2_build_4 fl_RX2_37 rfl rfl rfl ?_
  refine px_geti 1 C dX2_build_7 fl_RX2_45 rfl rfl rfl rfl ?_
  refine px_icmp_ge (tgt := 114) C dX2_build_10 (by decide) (fun c37 => ?_) (fun c37 => ?_)
  · replace hk := hk.1 c37
    refine px_iconst (v := (0 : Int32)) C dX2_build_114 rfl ?_
    refine px_istore_n (i := 1) C dX2_build_115 rfl (by decide) rfl ?_
    exact PW_at (w2_build_b116_ok C hRt hHR hnT hk) (And.intro rfl (And.intro rfl trivial)) (Nat.le_of_ble_eq_true rfl) (Nat.le_of_ble_eq_true rfl)
  · replace hk := hk.2 c37
    refine px_aload_n (i := 0) C dX2_build_13 rfl rfl ?_
    refine px_getr C dX2_build_14 fl_RX2_37 rfl rfl rfl ?_
    refine px_getr C dX2_build_17 fl_RX2_51 rfl rfl rfl ?_
    refine px_iload_n (i := 1) C dX2_build_20 rfl rfl ?_
    obtain ⟨o22, hk⟩ := hk
    refine px_callSNi (h := 0) (rc' := 0) (rs' := 0) C (HR_le hHR (Nat.le_of_ble_eq_true rfl)) hRt hnT dX2_build_21 (List.mem_append_right _ (List.mem_append_left _ (List.mem_of_getElem? (i := 7) rfl))) ms_X8_at (at_ok (j := 4) (q := 0) (n := 40) (loc := 256) (PCx_l C) (PCx_I C) rfl rfl rfl o22) rfl rfl (Nat.le_of_ble_eq_true rfl) (Nat.le_of_ble_eq_true rfl) (Nat.le_of_ble_eq_true rfl) (Nat.le_of_ble_eq_true rfl) ?_
    rintro _ _ ⟨rfl, rfl⟩
    refine px_istore_n (i := 2) C dX2_build_24 rfl (by decide) rfl ?_
    refine px_iload_n (i := 2) C dX2_build_25 rfl rfl ?_
    refine px_bipush (v := (8 : Int32)) C dX2_build_26 rfl ?_
    refine px_callSNi (h := 0) (rc' := 0) (rs' := 0) C (HR_le hHR (Nat.le_of_ble_eq_true rfl)) hRt hnT dX2_build_28 (List.mem_append_right _ (List.mem_append_left _ (List.mem_of_getElem? (i := 8) rfl))) ms_X8_isWithin (w8_isWithin_ok (PCx_l C) (PCx_I C) hk) rfl rfl (Nat.le_of_ble_eq_true rfl) (Nat.le_of_ble_eq_true rfl) (Nat.le_of_ble_eq_true rfl) (Nat.le_of_ble_eq_true rfl) ?_
    intro r24 μ23 hk
    refine px_if_eq (tgt := 48) C dX2_build_31 (by decide) (fun c36 => ?_) (fun c36 => ?_)
    · replace hk := hk.1 c36
      refine px_iconst (v := (0 : Int32)) C dX2_build_48 rfl ?_
      exact PW_at (w2_build_b49_ok C hRt hHR hnT hR2 hk) (And.intro rfl (And.intro rfl trivial)) (Nat.le_of_ble_eq_true rfl) (Nat.le_of_ble_eq_true rfl)
    · replace hk := hk.2 c36
      refine px_aload_n (i := 0) C dX2_build_34 rfl rfl ?_
      refine px_getr C dX2_build_35 fl_RX2_41 rfl rfl rfl ?_
      refine px_getr C dX2_build_38 fl_RX2_62 rfl rfl rfl ?_
      refine px_iload_n (i := 2) C dX2_build_41 rfl rfl ?_
      obtain ⟨o35, hk⟩ := hk
      refine px_callSNi (h := 0) (rc' := 0) (rs' := 0) C (HR_le hHR (Nat.le_of_ble_eq_true rfl)) hRt hnT dX2_build_42 (List.mem_append_right _ (List.mem_append_left _ (List.mem_of_getElem? (i := 7) rfl))) ms_X8_at (at_ok (j := 14) (q := 0) (n := 8) (loc := 896) (PCx_l C) (PCx_I C) rfl rfl rfl o35) rfl rfl (Nat.le_of_ble_eq_true rfl) (Nat.le_of_ble_eq_true rfl) (Nat.le_of_ble_eq_true rfl) (Nat.le_of_ble_eq_true rfl) ?_
      rintro _ _ ⟨rfl, rfl⟩
      refine px_goto (tgt := 49) C dX2_build_45 (by decide) ?_
      exact PW_at (w2_build_b49_ok C hRt hHR hnT hR2 hk) (And.intro rfl (And.intro rfl trivial)) (Nat.le_of_ble_eq_true rfl) (Nat.le_of_ble_eq_true rfl)
set_option maxRecDepth 100000 in
set_option maxHeartbeats 4000000 in
theorem w2_build_ok {l : Launch} {idx : List (Nat × Nat)} {μ : Mem} {P : Mem → Prop} {X : String → Mem → Prop} (hl : l.stackTraces = false) (hI : IdxOK idx) (hk : w2_build_wp μ P) : PMet l yX2_build (.code yX2_build cX2_build 4 none) 3 0 0 idx [pR 18 0] μ (qV P) X := by
  refine PMet_of mv_X2_build.2.2.2.2.2.2 hl hI mv_X2_build.2.2.2.1 rfl (Nat.le_of_ble_eq_true rfl) (fun G _ _ C hRt hHR hnT => ?_)
  show PW G 0 0 0 [some (pR 18 0), none, none, none] [] μ
  unfold w2_build_wp at hk
  refine px_iconst (v := (0 : Int32)) C dX2_build_0 rfl ?_
  refine px_istore_n (i := 1) C dX2_build_1 rfl (by decide) rfl ?_
  exact PW_at (w2_build_b2_ok C hRt hHR hnT hk) (And.intro rfl (And.intro rfl trivial)) (Nat.le_of_ble_eq_true rfl) (Nat.le_of_ble_eq_true rfl)
theorem dX3_remember_0 : decode cX3_remember 0 = .ok (.aload_n 0, 1) := by decide +kernel
theorem dX3_remember_1 : decode cX3_remember 1 = .ok (.aload_n 0, 1) := by decide +kernel
theorem dX3_remember_2 : decode cX3_remember 2 = .ok (.getfield 15, 3) := by decide +kernel
theorem dX3_remember_5 : decode cX3_remember 5 = .ok (.invokevirtual 25, 3) := by decide +kernel
theorem dX3_remember_8 : decode cX3_remember 8 = .ok (.astore_n 2, 1) := by decide +kernel
theorem dX3_remember_9 : decode cX3_remember 9 = .ok (.aload_n 2, 1) := by decide +kernel
theorem dX3_remember_10 : decode cX3_remember 10 = .ok (.ifnull 8, 3) := by decide +kernel
theorem dX3_remember_13 : decode cX3_remember 13 = .ok (.aload_n 2, 1) := by decide +kernel
theorem dX3_remember_14 : decode cX3_remember 14 = .ok (.aload_n 1, 1) := by decide +kernel
theorem dX3_remember_15 : decode cX3_remember 15 = .ok (.invokevirtual 29, 3) := by decide +kernel
theorem dX3_remember_18 : decode cX3_remember 18 = .ok (.aload_n 0, 1) := by decide +kernel
theorem dX3_remember_19 : decode cX3_remember 19 = .ok (.aload_n 0, 1) := by decide +kernel
theorem dX3_remember_20 : decode cX3_remember 20 = .ok (.getfield 15, 3) := by decide +kernel
theorem dX3_remember_23 : decode cX3_remember 23 = .ok (.iconst 1, 1) := by decide +kernel
theorem dX3_remember_24 : decode cX3_remember 24 = .ok (.iadd, 1) := by decide +kernel
theorem dX3_remember_25 : decode cX3_remember 25 = .ok (.bipush 8, 2) := by decide +kernel
theorem dX3_remember_27 : decode cX3_remember 27 = .ok (.irem, 1) := by decide +kernel
theorem dX3_remember_28 : decode cX3_remember 28 = .ok (.putfield 15, 3) := by decide +kernel
theorem dX3_remember_31 : decode cX3_remember 31 = .ok (.aload_n 0, 1) := by decide +kernel
theorem dX3_remember_32 : decode cX3_remember 32 = .ok (.aload_n 0, 1) := by decide +kernel
theorem dX3_remember_33 : decode cX3_remember 33 = .ok (.getfield 9, 3) := by decide +kernel
theorem dX3_remember_36 : decode cX3_remember 36 = .ok (.iconst 1, 1) := by decide +kernel
theorem dX3_remember_37 : decode cX3_remember 37 = .ok (.iadd, 1) := by decide +kernel
theorem dX3_remember_38 : decode cX3_remember 38 = .ok (.bipush 8, 2) := by decide +kernel
theorem dX3_remember_40 : decode cX3_remember 40 = .ok (.invokestatic 33, 3) := by decide +kernel
theorem dX3_remember_43 : decode cX3_remember 43 = .ok (.putfield 9, 3) := by decide +kernel
theorem dX3_remember_46 : decode cX3_remember 46 = .ok (.return_, 1) := by decide +kernel
set_option maxRecDepth 100000 in
set_option maxHeartbeats 4000000 in
theorem w3_remember_b18_ok {G : GT} {k1 : Nat} {P : Mem → Prop} {X : String → Mem → Prop} (C : PCx G cX3_remember 3 RX3) (hRt : PRt G none (qV P) X) (hHR : HR G (4)) (hnT : NoT G) {μ : Mem} (hk : w3_remember_b18 k1 P μ) : PW G 0 0 18 [some (pR 10 0), none, none] [] μ := by
  unfold w3_remember_b18 at hk
  refine px_aload_n (i := 0) C dX3_remember_18 rfl rfl ?_
  refine px_aload_n (i := 0) C dX3_remember_19 rfl rfl ?_
  refine px_geti 642 C dX3_remember_20 fl_RX3_15 rfl rfl rfl rfl ?_
  refine px_iconst (v := (1 : Int32)) C dX3_remember_23 rfl ?_
  refine px_iadd C dX3_remember_24 ?_
  refine px_bipush (v := (8 : Int32)) C dX3_remember_25 rfl ?_
  obtain ⟨o3, hk⟩ := hk
  refine px_irem C dX3_remember_27 o3 ?_
  replace hk := hk _ rfl
  refine px_puti 642 C dX3_remember_28 fp_RX3_15 rfl rfl rfl rfl rfl rfl ?_
  refine px_aload_n (i := 0) C dX3_remember_31 rfl rfl ?_
  refine px_aload_n (i := 0) C dX3_remember_32 rfl rfl ?_
  refine px_geti 641 C dX3_remember_33 fl_RX3_9 rfl rfl rfl rfl ?_
  refine px_iconst (v := (1 : Int32)) C dX3_remember_36 rfl ?_
  refine px_iadd C dX3_remember_37 ?_
  refine px_bipush (v := (8 : Int32)) C dX3_remember_38 rfl ?_
  refine px_mmin C (HR_le hHR (Nat.le_of_ble_eq_true rfl)) dX3_remember_40 (gw3 176 rfl rfl) math_min (Nat.le_of_ble_eq_true rfl) ?_
  replace hk := hk _ rfl
  refine px_puti 641 C dX3_remember_43 fp_RX3_9 rfl rfl rfl rfl rfl rfl ?_
  exact px_vret C hRt dX3_remember_46 rfl hk
set_option maxRecDepth 100000 in
set_option maxHeartbeats 4000000 in
theorem w3_remember_ok {l : Launch} {idx : List (Nat × Nat)} {μ : Mem} {k1 : Nat} {P : Mem → Prop} {X : String → Mem → Prop} (hl : l.stackTraces = false) (hI : IdxOK idx) (hk : w3_remember_wp μ k1 P) : PMet l yX3_remember (.code yX3_remember cX3_remember 3 none) 4 0 0 idx [pR 10 0, pR 0 k1] μ (qV P) X := by
  refine PMet_of mv_X3_remember.2.2.2.2.2.2 hl hI mv_X3_remember.2.2.2.1 rfl (Nat.le_of_ble_eq_true rfl) (fun G _ _ C hRt hHR hnT => ?_)
  show PW G 0 0 0 [some (pR 10 0), some (pR 0 k1), none] [] μ
  unfold w3_remember_wp at hk
  refine px_aload_n (i := 0) C dX3_remember_0 rfl rfl ?_
  refine px_aload_n (i := 0) C dX3_remember_1 rfl rfl ?_
  refine px_geti 642 C dX3_remember_2 fl_RX3_15 rfl rfl rfl rfl ?_
  obtain ⟨o1, hk⟩ := hk
  refine px_callVr (h := 1) (rc' := 0) (rs' := 0) C (HR_le hHR (Nat.le_of_ble_eq_true rfl)) hRt hnT dX3_remember_5 (gw3 170 rfl rfl) mv_X3_slotAt (w3_slotAt_ok (PCx_l C) (PCx_I C) (slotAt_in o1)) rfl rfl rfl rfl rfl (Nat.le_of_ble_eq_true rfl) (Nat.le_of_ble_eq_true rfl) (Nat.le_of_ble_eq_true rfl) (Nat.le_of_ble_eq_true rfl) ?_
  rintro _ _ ⟨rfl, rfl⟩
  refine px_astore_n (i := 2) C dX3_remember_8 rfl (by decide) rfl ?_
  refine px_aload_n (i := 2) C dX3_remember_9 rfl rfl ?_
  refine px_ifnull C dX3_remember_10 ?_
  refine px_aload_n (i := 2) C dX3_remember_13 rfl rfl ?_
  refine px_aload_n (i := 1) C dX3_remember_14 rfl rfl ?_
  refine px_callVv (h := 3) (rc' := 0) (rs' := 0) C (HR_le hHR (Nat.le_of_ble_eq_true rfl)) hRt hnT dX3_remember_15 (gw3 175 rfl rfl) mv_X7_copyFrom (w7_copyFrom_ok (PCx_l C) (PCx_I C) hk) rfl rfl rfl rfl rfl (Nat.le_of_ble_eq_true rfl) (Nat.le_of_ble_eq_true rfl) (Nat.le_of_ble_eq_true rfl) (Nat.le_of_ble_eq_true rfl) ?_
  intro μ2 hk
  exact PW_at (w3_remember_b18_ok C hRt hHR hnT hk) (And.intro rfl trivial) (Nat.le_of_ble_eq_true rfl) (Nat.le_of_ble_eq_true rfl)
theorem dX3_takeBack_0 : decode cX3_takeBack 0 = .ok (.aload_n 0, 1) := by decide +kernel
theorem dX3_takeBack_1 : decode cX3_takeBack 1 = .ok (.aload_n 0, 1) := by decide +kernel
theorem dX3_takeBack_2 : decode cX3_takeBack 2 = .ok (.getfield 15, 3) := by decide +kernel
theorem dX3_takeBack_5 : decode cX3_takeBack 5 = .ok (.bipush 8, 2) := by decide +kernel
theorem dX3_takeBack_7 : decode cX3_takeBack 7 = .ok (.iadd, 1) := by decide +kernel
theorem dX3_takeBack_8 : decode cX3_takeBack 8 = .ok (.iconst 1, 1) := by decide +kernel
theorem dX3_takeBack_9 : decode cX3_takeBack 9 = .ok (.isub, 1) := by decide +kernel
theorem dX3_takeBack_10 : decode cX3_takeBack 10 = .ok (.bipush 8, 2) := by decide +kernel
theorem dX3_takeBack_12 : decode cX3_takeBack 12 = .ok (.irem, 1) := by decide +kernel
theorem dX3_takeBack_13 : decode cX3_takeBack 13 = .ok (.putfield 15, 3) := by decide +kernel
theorem dX3_takeBack_16 : decode cX3_takeBack 16 = .ok (.aload_n 0, 1) := by decide +kernel
theorem dX3_takeBack_17 : decode cX3_takeBack 17 = .ok (.dup, 1) := by decide +kernel
theorem dX3_takeBack_18 : decode cX3_takeBack 18 = .ok (.getfield 9, 3) := by decide +kernel
theorem dX3_takeBack_21 : decode cX3_takeBack 21 = .ok (.iconst 1, 1) := by decide +kernel
theorem dX3_takeBack_22 : decode cX3_takeBack 22 = .ok (.isub, 1) := by decide +kernel
theorem dX3_takeBack_23 : decode cX3_takeBack 23 = .ok (.putfield 9, 3) := by decide +kernel
theorem dX3_takeBack_26 : decode cX3_takeBack 26 = .ok (.aload_n 0, 1) := by decide +kernel
theorem dX3_takeBack_27 : decode cX3_takeBack 27 = .ok (.aload_n 0, 1) := by decide +kernel
theorem dX3_takeBack_28 : decode cX3_takeBack 28 = .ok (.getfield 15, 3) := by decide +kernel
theorem dX3_takeBack_31 : decode cX3_takeBack 31 = .ok (.invokevirtual 25, 3) := by decide +kernel
theorem dX3_takeBack_34 : decode cX3_takeBack 34 = .ok (.astore_n 2, 1) := by decide +kernel
theorem dX3_takeBack_35 : decode cX3_takeBack 35 = .ok (.aload_n 2, 1) := by decide +kernel
theorem dX3_takeBack_36 : decode cX3_takeBack 36 = .ok (.ifnull 8, 3) := by decide +kernel
theorem dX3_takeBack_39 : decode cX3_takeBack 39 = .ok (.aload_n 1, 1) := by decide +kernel
theorem dX3_takeBack_40 : decode cX3_takeBack 40 = .ok (.aload_n 2, 1) := by decide +kernel
theorem dX3_takeBack_41 : decode cX3_takeBack 41 = .ok (.invokevirtual 29, 3) := by decide +kernel
theorem dX3_takeBack_44 : decode cX3_takeBack 44 = .ok (.return_, 1) := by decide +kernel
set_option maxRecDepth 100000 in
set_option maxHeartbeats 4000000 in
theorem w3_takeBack_ok {l : Launch} {idx : List (Nat × Nat)} {μ : Mem} {k1 : Nat} {P : Mem → Prop} {X : String → Mem → Prop} (hl : l.stackTraces = false) (hI : IdxOK idx) (hk : w3_takeBack_wp μ k1 P) : PMet l yX3_takeBack (.code yX3_takeBack cX3_takeBack 3 none) 4 0 0 idx [pR 10 0, pR 0 k1] μ (qV P) X := by
  refine PMet_of mv_X3_takeBack.2.2.2.2.2.2 hl hI mv_X3_takeBack.2.2.2.1 rfl (Nat.le_of_ble_eq_true rfl) (fun G _ _ C hRt hHR hnT => ?_)
  show PW G 0 0 0 [some (pR 10 0), some (pR 0 k1), none] [] μ
  unfold w3_takeBack_wp at hk
  refine px_aload_n (i := 0) C dX3_takeBack_0 rfl rfl ?_
  refine px_aload_n (i := 0) C dX3_takeBack_1 rfl rfl ?_
  refine px_geti 642 C dX3_takeBack_2 fl_RX3_15 rfl rfl rfl rfl ?_
  refine px_bipush (v := (8 : Int32)) C dX3_takeBack_5 rfl ?_
  refine px_iadd C dX3_takeBack_7 ?_
  refine px_iconst (v := (1 : Int32)) C dX3_takeBack_8 rfl ?_
  refine px_isub C dX3_takeBack_9 ?_
  refine px_bipush (v := (8 : Int32)) C dX3_takeBack_10 rfl ?_
  obtain ⟨o1, hk⟩ := hk
  refine px_irem C dX3_takeBack_12 o1 ?_
  replace hk := hk _ rfl
  refine px_puti 642 C dX3_takeBack_13 fp_RX3_15 rfl rfl rfl rfl rfl rfl ?_
  refine px_aload_n (i := 0) C dX3_takeBack_16 rfl rfl ?_
  refine px_dup C dX3_takeBack_17 rfl ?_
  refine px_geti 641 C dX3_takeBack_18 fl_RX3_9 rfl rfl rfl rfl ?_
  refine px_iconst (v := (1 : Int32)) C dX3_takeBack_21 rfl ?_
  refine px_isub C dX3_takeBack_22 ?_
  replace hk := hk _ rfl
  refine px_puti 641 C dX3_takeBack_23 fp_RX3_9 rfl rfl rfl rfl rfl rfl ?_
  refine px_aload_n (i := 0) C dX3_takeBack_26 rfl rfl ?_
  refine px_aload_n (i := 0) C dX3_takeBack_27 rfl rfl ?_
  refine px_geti 642 C dX3_takeBack_28 fl_RX3_15 rfl rfl rfl rfl ?_
  obtain ⟨o4, hk⟩ := hk
  refine px_callVr (h := 1) (rc' := 0) (rs' := 0) C (HR_le hHR (Nat.le_of_ble_eq_true rfl)) hRt hnT dX3_takeBack_31 (gw3 170 rfl rfl) mv_X3_slotAt (w3_slotAt_ok (PCx_l C) (PCx_I C) (slotAt_in o4)) rfl rfl rfl rfl rfl (Nat.le_of_ble_eq_true rfl) (Nat.le_of_ble_eq_true rfl) (Nat.le_of_ble_eq_true rfl) (Nat.le_of_ble_eq_true rfl) ?_
  rintro _ _ ⟨rfl, rfl⟩
  refine px_astore_n (i := 2) C dX3_takeBack_34 rfl (by decide) rfl ?_
  refine px_aload_n (i := 2) C dX3_takeBack_35 rfl rfl ?_
  refine px_ifnull C dX3_takeBack_36 ?_
  refine px_aload_n (i := 1) C dX3_takeBack_39 rfl rfl ?_
  refine px_aload_n (i := 2) C dX3_takeBack_40 rfl rfl ?_
  refine px_callVv (h := 3) (rc' := 0) (rs' := 0) C (HR_le hHR (Nat.le_of_ble_eq_true rfl)) hRt hnT dX3_takeBack_41 (gw3 175 rfl rfl) mv_X7_copyFrom (w7_copyFrom_ok (PCx_l C) (PCx_I C) hk) rfl rfl rfl rfl rfl (Nat.le_of_ble_eq_true rfl) (Nat.le_of_ble_eq_true rfl) (Nat.le_of_ble_eq_true rfl) (Nat.le_of_ble_eq_true rfl) ?_
  intro μ5 hk
  exact px_vret C hRt dX3_takeBack_44 rfl hk
theorem dX4_parse_0 : decode cX4_parse 0 = .ok (.aload_n 1, 1) := by decide +kernel
theorem dX4_parse_1 : decode cX4_parse 1 = .ok (.invokevirtual 26, 3) := by decide +kernel
theorem dX4_parse_4 : decode cX4_parse 4 = .ok (.aload_n 0, 1) := by decide +kernel
theorem dX4_parse_5 : decode cX4_parse 5 = .ok (.iconst 0, 1) := by decide +kernel
theorem dX4_parse_6 : decode cX4_parse 6 = .ok (.putfield 15, 3) := by decide +kernel
theorem dX4_parse_9 : decode cX4_parse 9 = .ok (.iconst 0, 1) := by decide +kernel
theorem dX4_parse_10 : decode cX4_parse 10 = .ok (.istore_n 2, 1) := by decide +kernel
theorem dX4_parse_11 : decode cX4_parse 11 = .ok (.iload_n 2, 1) := by decide +kernel
theorem dX4_parse_12 : decode cX4_parse 12 = .ok (.bipush 80, 2) := by decide +kernel
theorem dX4_parse_14 : decode cX4_parse 14 = .ok (.if_icmp .ge 32, 3) := by decide +kernel
theorem dX4_parse_17 : decode cX4_parse 17 = .ok (.aload_n 0, 1) := by decide +kernel
theorem dX4_parse_18 : decode cX4_parse 18 = .ok (.aload_n 1, 1) := by decide +kernel
theorem dX4_parse_19 : decode cX4_parse 19 = .ok (.invokevirtual 31, 3) := by decide +kernel
theorem dX4_parse_22 : decode cX4_parse 22 = .ok (.ifCond .ne 5, 3) := by decide +kernel
theorem dX4_parse_25 : decode cX4_parse 25 = .ok (.iconst 0, 1) := by decide +kernel
theorem dX4_parse_26 : decode cX4_parse 26 = .ok (.ireturn, 1) := by decide +kernel
theorem dX4_parse_27 : decode cX4_parse 27 = .ok (.aload_n 0, 1) := by decide +kernel
theorem dX4_parse_28 : decode cX4_parse 28 = .ok (.getfield 15, 3) := by decide +kernel
theorem dX4_parse_31 : decode cX4_parse 31 = .ok (.aload_n 0, 1) := by decide +kernel
theorem dX4_parse_32 : decode cX4_parse 32 = .ok (.getfield 9, 3) := by decide +kernel
theorem dX4_parse_35 : decode cX4_parse 35 = .ok (.if_icmp .lt 5, 3) := by decide +kernel
theorem dX4_parse_38 : decode cX4_parse 38 = .ok (.iconst 1, 1) := by decide +kernel
theorem dX4_parse_39 : decode cX4_parse 39 = .ok (.ireturn, 1) := by decide +kernel
theorem dX4_parse_40 : decode cX4_parse 40 = .ok (.iinc 2 1, 3) := by decide +kernel
theorem dX4_parse_43 : decode cX4_parse 43 = .ok (.goto (-32), 3) := by decide +kernel
theorem dX4_parse_46 : decode cX4_parse 46 = .ok (.iconst 0, 1) := by decide +kernel
theorem dX4_parse_47 : decode cX4_parse 47 = .ok (.ireturn, 1) := by decide +kernel
set_option maxRecDepth 100000 in
set_option maxHeartbeats 4000000 in
theorem w4_parse_b11_ok {G : GT} {k1 : Nat} {P : Int32 → Mem → Prop} {X : String → Mem → Prop} (C : PCx G cX4_parse 3 RX4) (hRt : PRt G (some .boolean) (qI P) X) (hHR : HR G (4)) (hnT : NoT G) {μ : Mem} {l2 : Int32} (hk : w4_parse_b11 k1 P μ l2) : PW G 0 0 11 [some (pR 38 0), some (pR 0 k1), some (pI l2)] [] μ := by
  refine hk (fun (μ : Mem) (l2 : Int32) => PW G 0 0 11 [some (pR 38 0), some (pR 0 k1), some (pI l2)] [] μ) (fun (μ : Mem) l2 hk => ?_)
  have hR11 : ∀ (μ : Mem) (l2 : Int32), PW G 0 0 11 [some (pR 38 0), some (pR 0 k1), some (pI l2)] [] μ → PW G 0 0 11 [some (pR 38 0), some (pR 0 k1), some (pI l2)] [] μ := fun _ _ h => h
  unfold w4_parse_b11_body at hk
  refine px_iload_n (i := 2) C dX4_parse_11 rfl rfl ?_
  refine px_bipush (v := (80 : Int32)) C dX4_parse_12 rfl ?_
  refine px_icmp_ge (tgt := 46) C dX4_parse_14 (by decide) (fun c7 => ?_) (fun c7 => ?_)
  · replace hk := hk.1 c7
    refine px_iconst (v := (0 : Int32)) C dX4_parse_46 rfl ?_
    exact px_iret C hRt dX4_parse_47 rfl rfl hk
  · replace hk := hk.2 c7
    refine px_aload_n (i := 0) C dX4_parse_17 rfl rfl ?_
    refine px_aload_n (i := 1) C dX4_parse_18 rfl rfl ?_
    refine px_callVi (h := 3) (rc' := 0) (rs' := 0) C (HR_le hHR (Nat.le_of_ble_eq_true rfl)) hRt hnT dX4_parse_19 (gw6 139 rfl rfl) mv_X4_parseEntry (w4_parseEntry_ok (PCx_l C) (PCx_I C) hk) rfl rfl rfl rfl rfl (Nat.le_of_ble_eq_true rfl) (Nat.le_of_ble_eq_true rfl) (Nat.le_of_ble_eq_true rfl) (Nat.le_of_ble_eq_true rfl) ?_
    intro r4 μ3 hk
    refine px_if_ne (tgt := 27) C dX4_parse_22 (by decide) (fun c6 => ?_) (fun c6 => ?_)
    · replace hk := hk.1 c6
      refine px_aload_n (i := 0) C dX4_parse_27 rfl rfl ?_
      refine px_geti 2434 C dX4_parse_28 fl_RX4_15 rfl rfl rfl rfl ?_
      refine px_aload_n (i := 0) C dX4_parse_31 rfl rfl ?_
      refine px_geti 2433 C dX4_parse_32 fl_RX4_9 rfl rfl rfl rfl ?_
      refine px_icmp_lt (tgt := 40) C dX4_parse_35 (by decide) (fun c5 => ?_) (fun c5 => ?_)
      · replace hk := hk.1 c5
        refine px_iinc (i := 2) (v := (1 : Int32)) C dX4_parse_40 rfl rfl (by decide) rfl ?_
        refine px_goto (tgt := 11) C dX4_parse_43 (by decide) ?_
        exact PW_at (hR11 _ _ hk) (And.intro rfl (And.intro rfl (And.intro rfl trivial))) (Nat.le_of_ble_eq_true rfl) (Nat.le_of_ble_eq_true rfl)
      · replace hk := hk.2 c5
        refine px_iconst (v := (1 : Int32)) C dX4_parse_38 rfl ?_
        exact px_iret C hRt dX4_parse_39 rfl rfl hk
    · replace hk := hk.2 c6
      refine px_iconst (v := (0 : Int32)) C dX4_parse_25 rfl ?_
      exact px_iret C hRt dX4_parse_26 rfl rfl hk
set_option maxRecDepth 100000 in
set_option maxHeartbeats 4000000 in
theorem w4_parse_ok {l : Launch} {idx : List (Nat × Nat)} {μ : Mem} {k1 : Nat} {P : Int32 → Mem → Prop} {X : String → Mem → Prop} (hl : l.stackTraces = false) (hI : IdxOK idx) (hk : w4_parse_wp μ k1 P) : PMet l yX4_parse (.code yX4_parse cX4_parse 3 (some .boolean)) 4 0 0 idx [pR 38 0, pR 0 k1] μ (qI P) X := by
  refine PMet_of mv_X4_parse.2.2.2.2.2.2 hl hI mv_X4_parse.2.2.2.1 rfl (Nat.le_of_ble_eq_true rfl) (fun G _ _ C hRt hHR hnT => ?_)
  show PW G 0 0 0 [some (pR 38 0), some (pR 0 k1), none] [] μ
  unfold w4_parse_wp at hk
  refine px_aload_n (i := 1) C dX4_parse_0 rfl rfl ?_
  refine px_callVv (h := 0) (rc' := 0) (rs' := 0) C (HR_le hHR (Nat.le_of_ble_eq_true rfl)) hRt hnT dX4_parse_1 (gw6 138 rfl rfl) mv_X7_empty (w7_empty_ok (PCx_l C) (PCx_I C) hk) rfl rfl rfl rfl rfl (Nat.le_of_ble_eq_true rfl) (Nat.le_of_ble_eq_true rfl) (Nat.le_of_ble_eq_true rfl) (Nat.le_of_ble_eq_true rfl) ?_
  intro μ1 hk
  refine px_aload_n (i := 0) C dX4_parse_4 rfl rfl ?_
  refine px_iconst (v := (0 : Int32)) C dX4_parse_5 rfl ?_
  replace hk := hk _ rfl
  refine px_puti 2434 C dX4_parse_6 fp_RX4_15 rfl rfl rfl rfl rfl rfl ?_
  refine px_iconst (v := (0 : Int32)) C dX4_parse_9 rfl ?_
  refine px_istore_n (i := 2) C dX4_parse_10 rfl (by decide) rfl ?_
  exact PW_at (w4_parse_b11_ok C hRt hHR hnT hk) (And.intro rfl (And.intro rfl (And.intro rfl trivial))) (Nat.le_of_ble_eq_true rfl) (Nat.le_of_ble_eq_true rfl)
theorem dX5_follow_0 : decode cX5_follow 0 = .ok (.aload_n 0, 1) := by decide +kernel
theorem dX5_follow_1 : decode cX5_follow 1 = .ok (.iload_n 1, 1) := by decide +kernel
theorem dX5_follow_2 : decode cX5_follow 2 = .ok (.putfield 25, 3) := by decide +kernel
theorem dX5_follow_5 : decode cX5_follow 5 = .ok (.aload_n 0, 1) := by decide +kernel
theorem dX5_follow_6 : decode cX5_follow 6 = .ok (.iconst 0, 1) := by decide +kernel
theorem dX5_follow_7 : decode cX5_follow 7 = .ok (.putfield 11, 3) := by decide +kernel
theorem dX5_follow_10 : decode cX5_follow 10 = .ok (.aload_n 0, 1) := by decide +kernel
theorem dX5_follow_11 : decode cX5_follow 11 = .ok (.iconst 0, 1) := by decide +kernel
theorem dX5_follow_12 : decode cX5_follow 12 = .ok (.putfield 28, 3) := by decide +kernel
theorem dX5_follow_15 : decode cX5_follow 15 = .ok (.aload_n 0, 1) := by decide +kernel
theorem dX5_follow_16 : decode cX5_follow 16 = .ok (.iload_n 2, 1) := by decide +kernel
theorem dX5_follow_17 : decode cX5_follow 17 = .ok (.aload_n 0, 1) := by decide +kernel
theorem dX5_follow_18 : decode cX5_follow 18 = .ok (.getfield 44, 3) := by decide +kernel
theorem dX5_follow_21 : decode cX5_follow 21 = .ok (.iload_n 1, 1) := by decide +kernel
theorem dX5_follow_22 : decode cX5_follow 22 = .ok (.iload_n 2, 1) := by decide +kernel
theorem dX5_follow_23 : decode cX5_follow 23 = .ok (.invokevirtual 48, 3) := by decide +kernel
theorem dX5_follow_26 : decode cX5_follow 26 = .ok (.aload_n 0, 1) := by decide +kernel
theorem dX5_follow_27 : decode cX5_follow 27 = .ok (.getfield 44, 3) := by decide +kernel
theorem dX5_follow_30 : decode cX5_follow 30 = .ok (.iload_n 1, 1) := by decide +kernel
theorem dX5_follow_31 : decode cX5_follow 31 = .ok (.iload_n 2, 1) := by decide +kernel
theorem dX5_follow_32 : decode cX5_follow 32 = .ok (.invokevirtual 54, 3) := by decide +kernel
theorem dX5_follow_35 : decode cX5_follow 35 = .ok (.invokevirtual 57, 3) := by decide +kernel
theorem dX5_follow_38 : decode cX5_follow 38 = .ok (.iconst 0, 1) := by decide +kernel
theorem dX5_follow_39 : decode cX5_follow 39 = .ok (.istore_n 3, 1) := by decide +kernel
theorem dX5_follow_40 : decode cX5_follow 40 = .ok (.iload_n 3, 1) := by decide +kernel
theorem dX5_follow_41 : decode cX5_follow 41 = .ok (.bipush 123, 2) := by decide +kernel
theorem dX5_follow_43 : decode cX5_follow 43 = .ok (.if_icmp .ge 71, 3) := by decide +kernel
theorem dX5_follow_46 : decode cX5_follow 46 = .ok (.aload_n 0, 1) := by decide +kernel
theorem dX5_follow_47 : decode cX5_follow 47 = .ok (.getfield 28, 3) := by decide +kernel
theorem dX5_follow_50 : decode cX5_follow 50 = .ok (.iconst 1, 1) := by decide +kernel
theorem dX5_follow_51 : decode cX5_follow 51 = .ok (.isub, 1) := by decide +kernel
theorem dX5_follow_52 : decode cX5_follow 52 = .ok (.bipush 41, 2) := by decide +kernel
theorem dX5_follow_54 : decode cX5_follow 54 = .ok (.invokestatic 61, 3) := by decide +kernel
theorem dX5_follow_57 : decode cX5_follow 57 = .ok (.ifCond .eq 57, 3) := by decide +kernel
theorem dX5_follow_60 : decode cX5_follow 60 = .ok (.aload_n 0, 1) := by decide +kernel
theorem dX5_follow_61 : decode cX5_follow 61 = .ok (.getfield 28, 3) := by decide +kernel
theorem dX5_follow_64 : decode cX5_follow 64 = .ok (.iconst 1, 1) := by decide +kernel
theorem dX5_follow_65 : decode cX5_follow 65 = .ok (.isub, 1) := by decide +kernel
theorem dX5_follow_66 : decode cX5_follow 66 = .ok (.istore 4, 2) := by decide +kernel
theorem dX5_follow_68 : decode cX5_follow 68 = .ok (.aload_n 0, 1) := by decide +kernel
theorem dX5_follow_69 : decode cX5_follow 69 = .ok (.getfield 37, 3) := by decide +kernel
theorem dX5_follow_72 : decode cX5_follow 72 = .ok (.iload 4, 2) := by decide +kernel
theorem dX5_follow_74 : decode cX5_follow 74 = .ok (.invokestatic 65, 3) := by decide +kernel
theorem dX5_follow_77 : decode cX5_follow 77 = .ok (.aload_n 0, 1) := by decide +kernel
theorem dX5_follow_78 : decode cX5_follow 78 = .ok (.getfield 34, 3) := by decide +kernel
theorem dX5_follow_81 : decode cX5_follow 81 = .ok (.iload 4, 2) := by decide +kernel
theorem dX5_follow_83 : decode cX5_follow 83 = .ok (.invokestatic 65, 3) := by decide +kernel
theorem dX5_follow_86 : decode cX5_follow 86 = .ok (.if_icmp .le 12, 3) := by decide +kernel
theorem dX5_follow_89 : decode cX5_follow 89 = .ok (.aload_n 0, 1) := by decide +kernel
theorem dX5_follow_90 : decode cX5_follow 90 = .ok (.iload 4, 2) := by decide +kernel
theorem dX5_follow_92 : decode cX5_follow 92 = .ok (.invokevirtual 69, 3) := by decide +kernel
theorem dX5_follow_95 : decode cX5_follow 95 = .ok (.goto 13, 3) := by decide +kernel
theorem dX5_follow_98 : decode cX5_follow 98 = .ok (.aload_n 0, 1) := by decide +kernel
theorem dX5_follow_99 : decode cX5_follow 99 = .ok (.dup, 1) := by decide +kernel
theorem dX5_follow_100 : decode cX5_follow 100 = .ok (.getfield 28, 3) := by decide +kernel
theorem dX5_follow_103 : decode cX5_follow 103 = .ok (.iconst 1, 1) := by decide +kernel
theorem dX5_follow_104 : decode cX5_follow 104 = .ok (.isub, 1) := by decide +kernel
theorem dX5_follow_105 : decode cX5_follow 105 = .ok (.putfield 28, 3) := by decide +kernel
theorem dX5_follow_108 : decode cX5_follow 108 = .ok (.iinc 3 1, 3) := by decide +kernel
theorem dX5_follow_111 : decode cX5_follow 111 = .ok (.goto (-71), 3) := by decide +kernel
theorem dX5_follow_114 : decode cX5_follow 114 = .ok (.return_, 1) := by decide +kernel
set_option maxRecDepth 100000 in
set_option maxHeartbeats 4000000 in
theorem w5_follow_b40_ok {G : GT} {P : Mem → Prop} {X : String → Mem → Prop} (C : PCx G cX5_follow 5 RX5) (hRt : PRt G none (qV P) X) (hHR : HR G (4)) (hnT : NoT G) {μ : Mem} {l3 : Int32} (hk : w5_follow_b40 P μ l3) : PW G 0 0 40 [some (pR 27 0), none, none, some (pI l3), none] [] μ := by
  refine hk (fun (μ : Mem) (l3 : Int32) => PW G 0 0 40 [some (pR 27 0), none, none, some (pI l3), none] [] μ) (fun (μ : Mem) l3 hk => ?_)
  have hR40 : ∀ (μ : Mem) (l3 : Int32), PW G 0 0 40 [some (pR 27 0), none, none, some (pI l3), none] [] μ → PW G 0 0 40 [some (pR 27 0), none, none, some (pI l3), none] [] μ := fun _ _ h => h
  unfold w5_follow_b40_body at hk
  refine px_iload_n (i := 3) C dX5_follow_40 rfl rfl ?_
  refine px_bipush (v := (123 : Int32)) C dX5_follow_41 rfl ?_
  refine px_icmp_ge (tgt := 114) C dX5_follow_43 (by decide) (fun c17 => ?_) (fun c17 => ?_)
  · replace hk := hk.1 c17
    exact px_vret C hRt dX5_follow_114 rfl hk
  · replace hk := hk.2 c17
    refine px_aload_n (i := 0) C dX5_follow_46 rfl rfl ?_
    refine px_geti 1736 C dX5_follow_47 fl_RX5_28 rfl rfl rfl rfl ?_
    refine px_iconst (v := (1 : Int32)) C dX5_follow_50 rfl ?_
    refine px_isub C dX5_follow_51 ?_
    refine px_bipush (v := (41 : Int32)) C dX5_follow_52 rfl ?_
    refine px_callSNi (h := 0) (rc' := 0) (rs' := 0) C (HR_le hHR (Nat.le_of_ble_eq_true rfl)) hRt hnT dX5_follow_54 (List.mem_append_right _ (List.mem_append_left _ (List.mem_of_getElem? (i := 17) rfl))) ms_X8_isWithin (w8_isWithin_ok (PCx_l C) (PCx_I C) hk) rfl rfl (Nat.le_of_ble_eq_true rfl) (Nat.le_of_ble_eq_true rfl) (Nat.le_of_ble_eq_true rfl) (Nat.le_of_ble_eq_true rfl) ?_
    intro r10 μ9 hk
    refine px_if_eq (tgt := 114) C dX5_follow_57 (by decide) (fun c16 => ?_) (fun c16 => ?_)
    · replace hk := hk.1 c16
      exact px_vret C hRt dX5_follow_114 rfl hk
    · replace hk := hk.2 c16
      refine px_aload_n (i := 0) C dX5_follow_60 rfl rfl ?_
      refine px_geti 1736 C dX5_follow_61 fl_RX5_28 rfl rfl rfl rfl ?_
      refine px_iconst (v := (1 : Int32)) C dX5_follow_64 rfl ?_
      refine px_isub C dX5_follow_65 ?_
      refine px_istore (i := 4) C dX5_follow_66 (by decide) rfl ?_
      refine px_aload_n (i := 0) C dX5_follow_68 rfl rfl ?_
      refine px_getr C dX5_follow_69 fl_RX5_37 rfl rfl rfl ?_
      refine px_iload (i := 4) C dX5_follow_72 rfl ?_
      obtain ⟨o11, hk⟩ := hk
      refine px_callSNi (h := 0) (rc' := 0) (rs' := 0) C (HR_le hHR (Nat.le_of_ble_eq_true rfl)) hRt hnT dX5_follow_74 (List.mem_append_right _ (List.mem_append_left _ (List.mem_of_getElem? (i := 19) rfl))) ms_X8_at (at_ok (j := 33) (q := 0) (n := 41) (loc := 2112) (PCx_l C) (PCx_I C) rfl rfl rfl o11) rfl rfl (Nat.le_of_ble_eq_true rfl) (Nat.le_of_ble_eq_true rfl) (Nat.le_of_ble_eq_true rfl) (Nat.le_of_ble_eq_true rfl) ?_
      rintro _ _ ⟨rfl, rfl⟩
      refine px_aload_n (i := 0) C dX5_follow_77 rfl rfl ?_
      refine px_getr C dX5_follow_78 fl_RX5_34 rfl rfl rfl ?_
      refine px_iload (i := 4) C dX5_follow_81 rfl ?_
      obtain ⟨o12, hk⟩ := hk
      refine px_callSNi (h := 0) (rc' := 0) (rs' := 0) C (HR_le hHR (Nat.le_of_ble_eq_true rfl)) hRt hnT dX5_follow_83 (List.mem_append_right _ (List.mem_append_left _ (List.mem_of_getElem? (i := 19) rfl))) ms_X8_at (at_ok (j := 32) (q := 0) (n := 41) (loc := 2048) (PCx_l C) (PCx_I C) rfl rfl rfl o12) rfl rfl (Nat.le_of_ble_eq_true rfl) (Nat.le_of_ble_eq_true rfl) (Nat.le_of_ble_eq_true rfl) (Nat.le_of_ble_eq_true rfl) ?_
      rintro _ _ ⟨rfl, rfl⟩
      refine px_icmp_le (tgt := 98) C dX5_follow_86 (by decide) (fun c15 => ?_) (fun c15 => ?_)
      · replace hk := hk.1 c15
        refine px_aload_n (i := 0) C dX5_follow_98 rfl rfl ?_
        refine px_dup C dX5_follow_99 rfl ?_
        refine px_geti 1736 C dX5_follow_100 fl_RX5_28 rfl rfl rfl rfl ?_
        refine px_iconst (v := (1 : Int32)) C dX5_follow_103 rfl ?_
        refine px_isub C dX5_follow_104 ?_
        replace hk := hk _ rfl
        refine px_puti 1736 C dX5_follow_105 fp_RX5_28 rfl rfl rfl rfl rfl rfl ?_
        refine px_iinc (i := 3) (v := (1 : Int32)) C dX5_follow_108 rfl rfl (by decide) rfl ?_
        refine px_goto (tgt := 40) C dX5_follow_111 (by decide) ?_
        exact PW_at (hR40 _ _ hk) (And.intro rfl (And.intro rfl trivial)) (Nat.le_of_ble_eq_true rfl) (Nat.le_of_ble_eq_true rfl)
      · replace hk := hk.2 c15
        refine px_aload_n (i := 0) C dX5_follow_89 rfl rfl ?_
        refine px_iload (i := 4) C dX5_follow_90 rfl ?_
        refine px_callVv (h := 3) (rc' := 0) (rs' := 0) C (HR_le hHR (Nat.le_of_ble_eq_true rfl)) hRt hnT dX5_follow_92 (gw5 16 rfl rfl) mv_X5_goBack (w5_goBack_ok (PCx_l C) (PCx_I C) hk) rfl rfl rfl rfl rfl (Nat.le_of_ble_eq_true rfl) (Nat.le_of_ble_eq_true rfl) (Nat.le_of_ble_eq_true rfl) (Nat.le_of_ble_eq_true rfl) ?_
        intro μ14 hk
        refine px_goto (tgt := 108) C dX5_follow_95 (by decide) ?_
        refine px_iinc (i := 3) (v := (1 : Int32)) C dX5_follow_108 rfl rfl (by decide) rfl ?_
        refine px_goto (tgt := 40) C dX5_follow_111 (by decide) ?_
        exact PW_at (hR40 _ _ hk) (And.intro rfl (And.intro rfl trivial)) (Nat.le_of_ble_eq_true rfl) (Nat.le_of_ble_eq_true rfl)
set_option maxRecDepth 100000 in
set_option maxHeartbeats 4000000 in
theorem w5_follow_ok {l : Launch} {idx : List (Nat × Nat)} {μ : Mem} {a1 : Int32} {a2 : Int32} {P : Mem → Prop} {X : String → Mem → Prop} (hl : l.stackTraces = false) (hI : IdxOK idx) (hk : w5_follow_wp μ a1 a2 P) : PMet l yX5_follow (.code yX5_follow cX5_follow 5 none) 4 0 0 idx [pR 27 0, pI a1, pI a2] μ (qV P) X := by
  refine PMet_of mv_X5_follow.2.2.2.2.2.2 hl hI mv_X5_follow.2.2.2.1 rfl (Nat.le_of_ble_eq_true rfl) (fun G _ _ C hRt hHR hnT => ?_)
  show PW G 0 0 0 [some (pR 27 0), some (pI a1), some (pI a2), none, none] [] μ
  unfold w5_follow_wp at hk
  refine px_aload_n (i := 0) C dX5_follow_0 rfl rfl ?_
  refine px_iload_n (i := 1) C dX5_follow_1 rfl rfl ?_
  replace hk := hk _ rfl
  refine px_puti 1735 C dX5_follow_2 fp_RX5_25 rfl rfl rfl rfl rfl rfl ?_
  refine px_aload_n (i := 0) C dX5_follow_5 rfl rfl ?_
  refine px_iconst (v := (0 : Int32)) C dX5_follow_6 rfl ?_
  replace hk := hk _ rfl
  refine px_puti 1729 C dX5_follow_7 fp_RX5_11 rfl rfl rfl rfl rfl rfl ?_
  refine px_aload_n (i := 0) C dX5_follow_10 rfl rfl ?_
  refine px_iconst (v := (0 : Int32)) C dX5_follow_11 rfl ?_
  replace hk := hk _ rfl
  refine px_puti 1736 C dX5_follow_12 fp_RX5_28 rfl rfl rfl rfl rfl rfl ?_
  refine px_aload_n (i := 0) C dX5_follow_15 rfl rfl ?_
  refine px_iload_n (i := 2) C dX5_follow_16 rfl rfl ?_
  refine px_aload_n (i := 0) C dX5_follow_17 rfl rfl ?_
  refine px_getr C dX5_follow_18 fl_RX5_44 rfl rfl rfl ?_
  refine px_iload_n (i := 1) C dX5_follow_21 rfl rfl ?_
  refine px_iload_n (i := 2) C dX5_follow_22 rfl rfl ?_
  refine px_callVi (h := 2) (rc' := 0) (rs' := 0) C (HR_le hHR (Nat.le_of_ble_eq_true rfl)) hRt hnT dX5_follow_23 (gw5 7 rfl rfl) mv_X2_nodeBegin (w2_nodeBegin_ok (PCx_l C) (PCx_I C) hk) rfl rfl rfl rfl rfl (Nat.le_of_ble_eq_true rfl) (Nat.le_of_ble_eq_true rfl) (Nat.le_of_ble_eq_true rfl) (Nat.le_of_ble_eq_true rfl) ?_
  intro r5 μ4 hk
  refine px_aload_n (i := 0) C dX5_follow_26 rfl rfl ?_
  refine px_getr C dX5_follow_27 fl_RX5_44 rfl rfl rfl ?_
  refine px_iload_n (i := 1) C dX5_follow_30 rfl rfl ?_
  refine px_iload_n (i := 2) C dX5_follow_31 rfl rfl ?_
  refine px_callVi (h := 2) (rc' := 0) (rs' := 0) C (HR_le hHR (Nat.le_of_ble_eq_true rfl)) hRt hnT dX5_follow_32 (gw5 8 rfl rfl) mv_X2_nodeEnd (w2_nodeEnd_ok (PCx_l C) (PCx_I C) hk) rfl rfl rfl rfl rfl (Nat.le_of_ble_eq_true rfl) (Nat.le_of_ble_eq_true rfl) (Nat.le_of_ble_eq_true rfl) (Nat.le_of_ble_eq_true rfl) ?_
  intro r7 μ6 hk
  refine px_callVv (h := 1) (rc' := 0) (rs' := 0) C (HR_le hHR (Nat.le_of_ble_eq_true rfl)) hRt hnT dX5_follow_35 (gw5 9 rfl rfl) mv_X5_enter (w5_enter_ok (PCx_l C) (PCx_I C) hk) rfl rfl rfl rfl rfl (Nat.le_of_ble_eq_true rfl) (Nat.le_of_ble_eq_true rfl) (Nat.le_of_ble_eq_true rfl) (Nat.le_of_ble_eq_true rfl) ?_
  intro μ8 hk
  refine px_iconst (v := (0 : Int32)) C dX5_follow_38 rfl ?_
  refine px_istore_n (i := 3) C dX5_follow_39 rfl (by decide) rfl ?_
  exact PW_at (w5_follow_b40_ok C hRt hHR hnT hk) (And.intro rfl (And.intro rfl trivial)) (Nat.le_of_ble_eq_true rfl) (Nat.le_of_ble_eq_true rfl)
theorem dX8_undo_0 : decode cX8_undo 0 = .ok (.aload_n 0, 1) := by decide +kernel
theorem dX8_undo_1 : decode cX8_undo 1 = .ok (.getfield 22, 3) := by decide +kernel
theorem dX8_undo_4 : decode cX8_undo 4 = .ok (.getfield 461, 3) := by decide +kernel
theorem dX8_undo_7 : decode cX8_undo 7 = .ok (.ifCond .ne 14, 3) := by decide +kernel
theorem dX8_undo_10 : decode cX8_undo 10 = .ok (.new 206, 3) := by decide +kernel
theorem dX8_undo_13 : decode cX8_undo 13 = .ok (.dup, 1) := by decide +kernel
theorem dX8_undo_14 : decode cX8_undo 14 = .ok (.ldc_w 464, 3) := by decide +kernel
theorem dX8_undo_17 : decode cX8_undo 17 = .ok (.invokespecial 210, 3) := by decide +kernel
theorem dX8_undo_20 : decode cX8_undo 20 = .ok (.athrow, 1) := by decide +kernel
theorem dX8_undo_21 : decode cX8_undo 21 = .ok (.aload_n 0, 1) := by decide +kernel
theorem dX8_undo_22 : decode cX8_undo 22 = .ok (.getfield 22, 3) := by decide +kernel
theorem dX8_undo_25 : decode cX8_undo 25 = .ok (.aload_n 0, 1) := by decide +kernel
theorem dX8_undo_26 : decode cX8_undo 26 = .ok (.getfield 94, 3) := by decide +kernel
theorem dX8_undo_29 : decode cX8_undo 29 = .ok (.invokevirtual 466, 3) := by decide +kernel
theorem dX8_undo_32 : decode cX8_undo 32 = .ok (.aload_n 0, 1) := by decide +kernel
theorem dX8_undo_33 : decode cX8_undo 33 = .ok (.iconst 0, 1) := by decide +kernel
theorem dX8_undo_34 : decode cX8_undo 34 = .ok (.putfield 51, 3) := by decide +kernel
theorem dX8_undo_37 : decode cX8_undo 37 = .ok (.aload_n 0, 1) := by decide +kernel
theorem dX8_undo_38 : decode cX8_undo 38 = .ok (.getfield 22, 3) := by decide +kernel
theorem dX8_undo_41 : decode cX8_undo 41 = .ok (.getfield 461, 3) := by decide +kernel
theorem dX8_undo_44 : decode cX8_undo 44 = .ok (.ireturn, 1) := by decide +kernel
set_option maxRecDepth 100000 in
set_option maxHeartbeats 4000000 in
theorem w8_undo_ok {l : Launch} {idx : List (Nat × Nat)} {μ : Mem} {P : Int32 → Mem → Prop} {X : String → Mem → Prop} (hl : l.stackTraces = false) (hI : IdxOK idx) (hk : w8_undo_wp μ P X) : PMet l yX8_undo (.code yX8_undo cX8_undo 1 (some .int)) 8 1 6 idx [pR 40 0] μ (qI P) X := by
  refine PMet_of mv_X8_undo.2.2.2.2.2.2 hl hI mv_X8_undo.2.2.2.1 rfl (Nat.le_of_ble_eq_true rfl) (fun G _ _ C hRt hHR hnT => ?_)
  show PW G 1 6 0 [some (pR 40 0)] [] μ
  unfold w8_undo_wp at hk
  refine px_aload_n (i := 0) C dX8_undo_0 rfl rfl ?_
  refine px_getr C dX8_undo_1 fl_RX8_22 rfl rfl rfl ?_
  refine px_geti 641 C dX8_undo_4 fl_RX8_461 rfl rfl rfl rfl ?_
  refine px_if_ne (tgt := 21) C dX8_undo_7 (by decide) (fun c3 => ?_) (fun c3 => ?_)
  · replace hk := hk.1 c3
    refine px_aload_n (i := 0) C dX8_undo_21 rfl rfl ?_
    refine px_getr C dX8_undo_22 fl_RX8_22 rfl rfl rfl ?_
    refine px_aload_n (i := 0) C dX8_undo_25 rfl rfl ?_
    refine px_getr C dX8_undo_26 fl_RX8_94 rfl rfl rfl ?_
    refine px_callVv (h := 4) (rc' := 0) (rs' := 0) C (HR_le hHR (Nat.le_of_ble_eq_true rfl)) hRt hnT dX8_undo_29 (gw8 2 rfl rfl) mv_X3_takeBack (w3_takeBack_ok (PCx_l C) (PCx_I C) hk) rfl rfl rfl rfl rfl (Nat.le_of_ble_eq_true rfl) (Nat.le_of_ble_eq_true rfl) (Nat.le_of_ble_eq_true rfl) (Nat.le_of_ble_eq_true rfl) ?_
    intro μ1 hk
    refine px_aload_n (i := 0) C dX8_undo_32 rfl rfl ?_
    refine px_iconst (v := (0 : Int32)) C dX8_undo_33 rfl ?_
    replace hk := hk _ rfl
    refine px_puti 2573 C dX8_undo_34 fp_RX8_51 rfl rfl rfl rfl rfl rfl ?_
    refine px_aload_n (i := 0) C dX8_undo_37 rfl rfl ?_
    refine px_getr C dX8_undo_38 fl_RX8_22 rfl rfl rfl ?_
    refine px_geti 641 C dX8_undo_41 fl_RX8_461 rfl rfl rfl rfl ?_
    exact px_iret C hRt dX8_undo_44 rfl rfl hk
  · replace hk := hk.2 c3
    exact px_throwwN (h9 := 0) C (HR_le hHR (Nat.le_of_ble_eq_true rfl)) hRt hnT tk_NoSuchElementException ti_NoSuchElementException (List.mem_of_getElem? (i := 36) rfl) rfl dX8_undo_10 dX8_undo_13 dX8_undo_14 dX8_undo_17 dX8_undo_20 rfl (Nat.le_of_ble_eq_true rfl) (Nat.le_of_ble_eq_true rfl) hk
theorem dX8_startChange_0 : decode cX8_startChange 0 = .ok (.aload_n 0, 1) := by decide +kernel
theorem dX8_startChange_1 : decode cX8_startChange 1 = .ok (.getfield 22, 3) := by decide +kernel
theorem dX8_startChange_4 : decode cX8_startChange 4 = .ok (.aload_n 0, 1) := by decide +kernel
theorem dX8_startChange_5 : decode cX8_startChange 5 = .ok (.getfield 94, 3) := by decide +kernel
theorem dX8_startChange_8 : decode cX8_startChange 8 = .ok (.invokevirtual 497, 3) := by decide +kernel
theorem dX8_startChange_11 : decode cX8_startChange 11 = .ok (.aload_n 0, 1) := by decide +kernel
theorem dX8_startChange_12 : decode cX8_startChange 12 = .ok (.iconst 0, 1) := by decide +kernel
theorem dX8_startChange_13 : decode cX8_startChange 13 = .ok (.putfield 51, 3) := by decide +kernel
theorem dX8_startChange_16 : decode cX8_startChange 16 = .ok (.return_, 1) := by decide +kernel
set_option maxRecDepth 100000 in
set_option maxHeartbeats 4000000 in
theorem w8_startChange_ok {l : Launch} {idx : List (Nat × Nat)} {μ : Mem} {P : Mem → Prop} {X : String → Mem → Prop} (hl : l.stackTraces = false) (hI : IdxOK idx) (hk : w8_startChange_wp μ P) : PMet l yX8_startChange (.code yX8_startChange cX8_startChange 1 none) 5 0 0 idx [pR 40 0] μ (qV P) X := by
  refine PMet_of mv_X8_startChange.2.2.2.2.2.2 hl hI mv_X8_startChange.2.2.2.1 rfl (Nat.le_of_ble_eq_true rfl) (fun G _ _ C hRt hHR hnT => ?_)
  show PW G 0 0 0 [some (pR 40 0)] [] μ
  unfold w8_startChange_wp at hk
  refine px_aload_n (i := 0) C dX8_startChange_0 rfl rfl ?_
  refine px_getr C dX8_startChange_1 fl_RX8_22 rfl rfl rfl ?_
  refine px_aload_n (i := 0) C dX8_startChange_4 rfl rfl ?_
  refine px_getr C dX8_startChange_5 fl_RX8_94 rfl rfl rfl ?_
  refine px_callVv (h := 4) (rc' := 0) (rs' := 0) C (HR_le hHR (Nat.le_of_ble_eq_true rfl)) hRt hnT dX8_startChange_8 (gw3 166 rfl rfl) mv_X3_remember (w3_remember_ok (PCx_l C) (PCx_I C) hk) rfl rfl rfl rfl rfl (Nat.le_of_ble_eq_true rfl) (Nat.le_of_ble_eq_true rfl) (Nat.le_of_ble_eq_true rfl) (Nat.le_of_ble_eq_true rfl) ?_
  intro μ1 hk
  refine px_aload_n (i := 0) C dX8_startChange_11 rfl rfl ?_
  refine px_iconst (v := (0 : Int32)) C dX8_startChange_12 rfl ?_
  replace hk := hk _ rfl
  refine px_puti 2573 C dX8_startChange_13 fp_RX8_51 rfl rfl rfl rfl rfl rfl ?_
  exact px_vret C hRt dX8_startChange_16 rfl hk
theorem dX8_workOut_0 : decode cX8_workOut 0 = .ok (.aload_n 0, 1) := by decide +kernel
theorem dX8_workOut_1 : decode cX8_workOut 1 = .ok (.getfield 51, 3) := by decide +kernel
theorem dX8_workOut_4 : decode cX8_workOut 4 = .ok (.ifCond .ne 22, 3) := by decide +kernel
theorem dX8_workOut_7 : decode cX8_workOut 7 = .ok (.aload_n 0, 1) := by decide +kernel
theorem dX8_workOut_8 : decode cX8_workOut 8 = .ok (.getfield 90, 3) := by decide +kernel
theorem dX8_workOut_11 : decode cX8_workOut 11 = .ok (.invokevirtual 500, 3) := by decide +kernel
theorem dX8_workOut_14 : decode cX8_workOut 14 = .ok (.aload_n 0, 1) := by decide +kernel
theorem dX8_workOut_15 : decode cX8_workOut 15 = .ok (.getfield 86, 3) := by decide +kernel
theorem dX8_workOut_18 : decode cX8_workOut 18 = .ok (.invokevirtual 503, 3) := by decide +kernel
theorem dX8_workOut_21 : decode cX8_workOut 21 = .ok (.aload_n 0, 1) := by decide +kernel
theorem dX8_workOut_22 : decode cX8_workOut 22 = .ok (.iconst 1, 1) := by decide +kernel
theorem dX8_workOut_23 : decode cX8_workOut 23 = .ok (.putfield 51, 3) := by decide +kernel
theorem dX8_workOut_26 : decode cX8_workOut 26 = .ok (.return_, 1) := by decide +kernel
set_option maxRecDepth 100000 in
set_option maxHeartbeats 4000000 in
theorem w8_workOut_ok {l : Launch} {idx : List (Nat × Nat)} {μ : Mem} {P : Mem → Prop} {X : String → Mem → Prop} (hl : l.stackTraces = false) (hI : IdxOK idx) (hk : w8_workOut_wp μ P) : PMet l yX8_workOut (.code yX8_workOut cX8_workOut 1 none) 4 0 0 idx [pR 40 0] μ (qV P) X := by
  refine PMet_of mv_X8_workOut.2.2.2.2.2.2 hl hI mv_X8_workOut.2.2.2.1 rfl (Nat.le_of_ble_eq_true rfl) (fun G _ _ C hRt hHR hnT => ?_)
  show PW G 0 0 0 [some (pR 40 0)] [] μ
  unfold w8_workOut_wp at hk
  refine px_aload_n (i := 0) C dX8_workOut_0 rfl rfl ?_
  refine px_geti 2573 C dX8_workOut_1 fl_RX8_51 rfl rfl rfl rfl ?_
  refine px_if_ne (tgt := 26) C dX8_workOut_4 (by decide) (fun c4 => ?_) (fun c4 => ?_)
  · replace hk := hk.1 c4
    exact px_vret C hRt dX8_workOut_26 rfl hk
  · replace hk := hk.2 c4
    refine px_aload_n (i := 0) C dX8_workOut_7 rfl rfl ?_
    refine px_getr C dX8_workOut_8 fl_RX8_90 rfl rfl rfl ?_
    refine px_callVv (h := 3) (rc' := 0) (rs' := 0) C (HR_le hHR (Nat.le_of_ble_eq_true rfl)) hRt hnT dX8_workOut_11 (gw2 169 rfl rfl) mv_X0_solve (w0_solve_ok (PCx_l C) (PCx_I C) hk) rfl rfl rfl rfl rfl (Nat.le_of_ble_eq_true rfl) (Nat.le_of_ble_eq_true rfl) (Nat.le_of_ble_eq_true rfl) (Nat.le_of_ble_eq_true rfl) ?_
    intro μ1 hk
    refine px_aload_n (i := 0) C dX8_workOut_14 rfl rfl ?_
    refine px_getr C dX8_workOut_15 fl_RX8_86 rfl rfl rfl ?_
    refine px_callVv (h := 3) (rc' := 0) (rs' := 0) C (HR_le hHR (Nat.le_of_ble_eq_true rfl)) hRt hnT dX8_workOut_18 (gw2 218 rfl rfl) mv_X2_build (w2_build_ok (PCx_l C) (PCx_I C) hk) rfl rfl rfl rfl rfl (Nat.le_of_ble_eq_true rfl) (Nat.le_of_ble_eq_true rfl) (Nat.le_of_ble_eq_true rfl) (Nat.le_of_ble_eq_true rfl) ?_
    intro μ2 hk
    refine px_aload_n (i := 0) C dX8_workOut_21 rfl rfl ?_
    refine px_iconst (v := (1 : Int32)) C dX8_workOut_22 rfl ?_
    replace hk := hk _ rfl
    refine px_puti 2573 C dX8_workOut_23 fp_RX8_51 rfl rfl rfl rfl rfl rfl ?_
    exact px_vret C hRt dX8_workOut_26 rfl hk
theorem dX1_criticalUnits_0 : decode cX1_criticalUnits 0 = .ok (.iconst 0, 1) := by decide +kernel
theorem dX1_criticalUnits_1 : decode cX1_criticalUnits 1 = .ok (.istore_n 2, 1) := by decide +kernel
theorem dX1_criticalUnits_2 : decode cX1_criticalUnits 2 = .ok (.iconst 0, 1) := by decide +kernel
theorem dX1_criticalUnits_3 : decode cX1_criticalUnits 3 = .ok (.istore_n 3, 1) := by decide +kernel
theorem dX1_criticalUnits_4 : decode cX1_criticalUnits 4 = .ok (.iload_n 3, 1) := by decide +kernel
theorem dX1_criticalUnits_5 : decode cX1_criticalUnits 5 = .ok (.iconst 4, 1) := by decide +kernel
theorem dX1_criticalUnits_6 : decode cX1_criticalUnits 6 = .ok (.if_icmp .ge 75, 3) := by decide +kernel
theorem dX1_criticalUnits_9 : decode cX1_criticalUnits 9 = .ok (.aload_n 0, 1) := by decide +kernel
theorem dX1_criticalUnits_10 : decode cX1_criticalUnits 10 = .ok (.getfield 15, 3) := by decide +kernel
theorem dX1_criticalUnits_13 : decode cX1_criticalUnits 13 = .ok (.iload_n 3, 1) := by decide +kernel
theorem dX1_criticalUnits_14 : decode cX1_criticalUnits 14 = .ok (.iconst (-1), 1) := by decide +kernel
theorem dX1_criticalUnits_15 : decode cX1_criticalUnits 15 = .ok (.invokevirtual 92, 3) := by decide +kernel
theorem dX1_criticalUnits_18 : decode cX1_criticalUnits 18 = .ok (.istore 4, 2) := by decide +kernel
theorem dX1_criticalUnits_20 : decode cX1_criticalUnits 20 = .ok (.iconst 0, 1) := by decide +kernel
theorem dX1_criticalUnits_21 : decode cX1_criticalUnits 21 = .ok (.istore 5, 2) := by decide +kernel
theorem dX1_criticalUnits_23 : decode cX1_criticalUnits 23 = .ok (.iload 5, 2) := by decide +kernel
theorem dX1_criticalUnits_25 : decode cX1_criticalUnits 25 = .ok (.bipush 40, 2) := by decide +kernel
theorem dX1_criticalUnits_27 : decode cX1_criticalUnits 27 = .ok (.if_icmp .ge 48, 3) := by decide +kernel
theorem dX1_criticalUnits_30 : decode cX1_criticalUnits 30 = .ok (.iload 4, 2) := by decide +kernel
theorem dX1_criticalUnits_32 : decode cX1_criticalUnits 32 = .ok (.iconst (-1), 1) := by decide +kernel
theorem dX1_criticalUnits_33 : decode cX1_criticalUnits 33 = .ok (.if_icmp .eq 42, 3) := by decide +kernel
theorem dX1_criticalUnits_36 : decode cX1_criticalUnits 36 = .ok (.aload_n 0, 1) := by decide +kernel
theorem dX1_criticalUnits_37 : decode cX1_criticalUnits 37 = .ok (.getfield 19, 3) := by decide +kernel
theorem dX1_criticalUnits_40 : decode cX1_criticalUnits 40 = .ok (.iload_n 3, 1) := by decide +kernel
theorem dX1_criticalUnits_41 : decode cX1_criticalUnits 41 = .ok (.iload 4, 2) := by decide +kernel
theorem dX1_criticalUnits_43 : decode cX1_criticalUnits 43 = .ok (.invokevirtual 95, 3) := by decide +kernel
theorem dX1_criticalUnits_46 : decode cX1_criticalUnits 46 = .ok (.iload_n 2, 1) := by decide +kernel
theorem dX1_criticalUnits_47 : decode cX1_criticalUnits 47 = .ok (.aload_n 0, 1) := by decide +kernel
theorem dX1_criticalUnits_48 : decode cX1_criticalUnits 48 = .ok (.getfield 19, 3) := by decide +kernel
theorem dX1_criticalUnits_51 : decode cX1_criticalUnits 51 = .ok (.iload_n 1, 1) := by decide +kernel
theorem dX1_criticalUnits_52 : decode cX1_criticalUnits 52 = .ok (.invokevirtual 101, 3) := by decide +kernel
theorem dX1_criticalUnits_55 : decode cX1_criticalUnits 55 = .ok (.iadd, 1) := by decide +kernel
theorem dX1_criticalUnits_56 : decode cX1_criticalUnits 56 = .ok (.istore_n 2, 1) := by decide +kernel
theorem dX1_criticalUnits_57 : decode cX1_criticalUnits 57 = .ok (.aload_n 0, 1) := by decide +kernel
theorem dX1_criticalUnits_58 : decode cX1_criticalUnits 58 = .ok (.getfield 15, 3) := by decide +kernel
theorem dX1_criticalUnits_61 : decode cX1_criticalUnits 61 = .ok (.iload_n 3, 1) := by decide +kernel
theorem dX1_criticalUnits_62 : decode cX1_criticalUnits 62 = .ok (.iload 4, 2) := by decide +kernel
theorem dX1_criticalUnits_64 : decode cX1_criticalUnits 64 = .ok (.invokevirtual 92, 3) := by decide +kernel
theorem dX1_criticalUnits_67 : decode cX1_criticalUnits 67 = .ok (.istore 4, 2) := by decide +kernel
theorem dX1_criticalUnits_69 : decode cX1_criticalUnits 69 = .ok (.iinc 5 1, 3) := by decide +kernel
theorem dX1_criticalUnits_72 : decode cX1_criticalUnits 72 = .ok (.goto (-49), 3) := by decide +kernel
theorem dX1_criticalUnits_75 : decode cX1_criticalUnits 75 = .ok (.iinc 3 1, 3) := by decide +kernel
theorem dX1_criticalUnits_78 : decode cX1_criticalUnits 78 = .ok (.goto (-74), 3) := by decide +kernel
theorem dX1_criticalUnits_81 : decode cX1_criticalUnits 81 = .ok (.iload_n 2, 1) := by decide +kernel
theorem dX1_criticalUnits_82 : decode cX1_criticalUnits 82 = .ok (.ireturn, 1) := by decide +kernel
set_option maxRecDepth 100000 in
set_option maxHeartbeats 4000000 in
theorem w1_criticalUnits_b23_ok {G : GT} {P : Int32 → Mem → Prop} {X : String → Mem → Prop} (C : PCx G cX1_criticalUnits 6 RX1) (hRt : PRt G (some .int) (qI P) X) (hHR : HR G (5)) (hnT : NoT G) {R4 : Mem → Int32 → Int32 → Int32 → Prop} (hR4 : ∀ (μ : Mem) (l1 : Int32) (l2 : Int32) (l3 : Int32), R4 μ l1 l2 l3 → PW G 0 0 4 [some (pR 34 0), some (pI l1), some (pI l2), some (pI l3), none, none] [] μ) {μ : Mem} {l1 : Int32} {l2 : Int32} {l3 : Int32} {l4 : Int32} {l5 : Int32} (hk : w1_criticalUnits_b23 P R4 μ l1 l2 l3 l4 l5) : PW G 0 0 23 [some (pR 34 0), some (pI l1), some (pI l2), some (pI l3), some (pI l4), some (pI l5)] [] μ := by
  refine hk (fun (μ : Mem) (l1 : Int32) (l2 : Int32) (l3 : Int32) (l4 : Int32) (l5 : Int32) => PW G 0 0 23 [some (pR 34 0), some (pI l1), some (pI l2), some (pI l3), some (pI l4), some (pI l5)] [] μ) (fun (μ : Mem) l1 l2 l3 l4 l5 hk => ?_)
  have hR23 : ∀ (μ : Mem) (l1 : Int32) (l2 : Int32) (l3 : Int32) (l4 : Int32) (l5 : Int32), PW G 0 0 23 [some (pR 34 0), some (pI l1), some (pI l2), some (pI l3), some (pI l4), some (pI l5)] [] μ → PW G 0 0 23 [some (pR 34 0), some (pI l1), some (pI l2), some (pI l3), some (pI l4), some (pI l5)] [] μ := fun _ _ _ _ _ _ h => h
  unfold w1_criticalUnits_b23_body at hk
  refine px_iload (i := 5) C dX1_criticalUnits_23 rfl ?_
  refine px_bipush (v := (40 : Int32)) C dX1_criticalUnits_25 rfl ?_
  refine px_icmp_ge (tgt := 75) C dX1_criticalUnits_27 (by decide) (fun c9 => ?_) (fun c9 => ?_)
  · replace hk := hk.1 c9
    refine px_iinc (i := 3) (v := (1 : Int32)) C dX1_criticalUnits_75 rfl rfl (by decide) rfl ?_
    refine px_goto (tgt := 4) C dX1_criticalUnits_78 (by decide) ?_
    exact PW_at (hR4 _ _ _ _ hk) (And.intro rfl (And.intro rfl (And.intro rfl (And.intro rfl trivial)))) (Nat.le_of_ble_eq_true rfl) (Nat.le_of_ble_eq_true rfl)
  · replace hk := hk.2 c9
    refine px_iload (i := 4) C dX1_criticalUnits_30 rfl ?_
    refine px_iconst (v := (-1 : Int32)) C dX1_criticalUnits_32 rfl ?_
    refine px_icmp_eq (tgt := 75) C dX1_criticalUnits_33 (by decide) (fun c8 => ?_) (fun c8 => ?_)
    · replace hk := hk.1 c8
      refine px_iinc (i := 3) (v := (1 : Int32)) C dX1_criticalUnits_75 rfl rfl (by decide) rfl ?_
      refine px_goto (tgt := 4) C dX1_criticalUnits_78 (by decide) ?_
      exact PW_at (hR4 _ _ _ _ hk) (And.intro rfl (And.intro rfl (And.intro rfl (And.intro rfl trivial)))) (Nat.le_of_ble_eq_true rfl) (Nat.le_of_ble_eq_true rfl)
    · replace hk := hk.2 c8
      refine px_aload_n (i := 0) C dX1_criticalUnits_36 rfl rfl ?_
      refine px_getr C dX1_criticalUnits_37 fl_RX1_19 rfl rfl rfl ?_
      refine px_iload_n (i := 3) C dX1_criticalUnits_40 rfl rfl ?_
      refine px_iload (i := 4) C dX1_criticalUnits_41 rfl ?_
      refine px_callVv (h := 4) (rc' := 0) (rs' := 0) C (HR_le hHR (Nat.le_of_ble_eq_true rfl)) hRt hnT dX1_criticalUnits_43 (gw5 163 rfl rfl) mv_X5_follow (w5_follow_ok (PCx_l C) (PCx_I C) hk) rfl rfl rfl rfl rfl (Nat.le_of_ble_eq_true rfl) (Nat.le_of_ble_eq_true rfl) (Nat.le_of_ble_eq_true rfl) (Nat.le_of_ble_eq_true rfl) ?_
      intro μ3 hk
      refine px_iload_n (i := 2) C dX1_criticalUnits_46 rfl rfl ?_
      refine px_aload_n (i := 0) C dX1_criticalUnits_47 rfl rfl ?_
      refine px_getr C dX1_criticalUnits_48 fl_RX1_19 rfl rfl rfl ?_
      refine px_iload_n (i := 1) C dX1_criticalUnits_51 rfl rfl ?_
      refine px_callVi (h := 1) (rc' := 0) (rs' := 0) C (HR_le hHR (Nat.le_of_ble_eq_true rfl)) hRt hnT dX1_criticalUnits_52 (gw5 164 rfl rfl) mv_X5_timeOfService (w5_timeOfService_ok (PCx_l C) (PCx_I C) hk) rfl rfl rfl rfl rfl (Nat.le_of_ble_eq_true rfl) (Nat.le_of_ble_eq_true rfl) (Nat.le_of_ble_eq_true rfl) (Nat.le_of_ble_eq_true rfl) ?_
      intro r5 μ4 hk
      refine px_iadd C dX1_criticalUnits_55 ?_
      refine px_istore_n (i := 2) C dX1_criticalUnits_56 rfl (by decide) rfl ?_
      refine px_aload_n (i := 0) C dX1_criticalUnits_57 rfl rfl ?_
      refine px_getr C dX1_criticalUnits_58 fl_RX1_15 rfl rfl rfl ?_
      refine px_iload_n (i := 3) C dX1_criticalUnits_61 rfl rfl ?_
      refine px_iload (i := 4) C dX1_criticalUnits_62 rfl ?_
      refine px_callVi (h := 3) (rc' := 0) (rs' := 0) C (HR_le hHR (Nat.le_of_ble_eq_true rfl)) hRt hnT dX1_criticalUnits_64 (gw5 162 rfl rfl) mv_X2_nextRoot (w2_nextRoot_ok (PCx_l C) (PCx_I C) hk) rfl rfl rfl rfl rfl (Nat.le_of_ble_eq_true rfl) (Nat.le_of_ble_eq_true rfl) (Nat.le_of_ble_eq_true rfl) (Nat.le_of_ble_eq_true rfl) ?_
      intro r7 μ6 hk
      refine px_istore (i := 4) C dX1_criticalUnits_67 (by decide) rfl ?_
      refine px_iinc (i := 5) (v := (1 : Int32)) C dX1_criticalUnits_69 rfl rfl (by decide) rfl ?_
      refine px_goto (tgt := 23) C dX1_criticalUnits_72 (by decide) ?_
      exact PW_at (hR23 _ _ _ _ _ _ hk) (And.intro rfl (And.intro rfl (And.intro rfl (And.intro rfl (And.intro rfl (And.intro rfl trivial)))))) (Nat.le_of_ble_eq_true rfl) (Nat.le_of_ble_eq_true rfl)
set_option maxRecDepth 100000 in
set_option maxHeartbeats 4000000 in
theorem w1_criticalUnits_b4_ok {G : GT} {P : Int32 → Mem → Prop} {X : String → Mem → Prop} (C : PCx G cX1_criticalUnits 6 RX1) (hRt : PRt G (some .int) (qI P) X) (hHR : HR G (5)) (hnT : NoT G) {μ : Mem} {l1 : Int32} {l2 : Int32} {l3 : Int32} (hk : w1_criticalUnits_b4 P μ l1 l2 l3) : PW G 0 0 4 [some (pR 34 0), some (pI l1), some (pI l2), some (pI l3), none, none] [] μ := by
  refine hk (fun (μ : Mem) (l1 : Int32) (l2 : Int32) (l3 : Int32) => PW G 0 0 4 [some (pR 34 0), some (pI l1), some (pI l2), some (pI l3), none, none] [] μ) (fun (μ : Mem) l1 l2 l3 hk => ?_)
  have hR4 : ∀ (μ : Mem) (l1 : Int32) (l2 : Int32) (l3 : Int32), PW G 0 0 4 [some (pR 34 0), some (pI l1), some (pI l2), some (pI l3), none, none] [] μ → PW G 0 0 4 [some (pR 34 0), some (pI l1), some (pI l2), some (pI l3), none, none] [] μ := fun _ _ _ _ h => h
  unfold w1_criticalUnits_b4_body at hk
  refine px_iload_n (i := 3) C dX1_criticalUnits_4 rfl rfl ?_
  refine px_iconst (v := (4 : Int32)) C dX1_criticalUnits_5 rfl ?_
  refine px_icmp_ge (tgt := 81) C dX1_criticalUnits_6 (by decide) (fun c10 => ?_) (fun c10 => ?_)
  · replace hk := hk.1 c10
    refine px_iload_n (i := 2) C dX1_criticalUnits_81 rfl rfl ?_
    exact px_iret C hRt dX1_criticalUnits_82 rfl rfl hk
  · replace hk := hk.2 c10
    refine px_aload_n (i := 0) C dX1_criticalUnits_9 rfl rfl ?_
    refine px_getr C dX1_criticalUnits_10 fl_RX1_15 rfl rfl rfl ?_
    refine px_iload_n (i := 3) C dX1_criticalUnits_13 rfl rfl ?_
    refine px_iconst (v := (-1 : Int32)) C dX1_criticalUnits_14 rfl ?_
    refine px_callVi (h := 3) (rc' := 0) (rs' := 0) C (HR_le hHR (Nat.le_of_ble_eq_true rfl)) hRt hnT dX1_criticalUnits_15 (gw5 162 rfl rfl) mv_X2_nextRoot (w2_nextRoot_ok (PCx_l C) (PCx_I C) hk) rfl rfl rfl rfl rfl (Nat.le_of_ble_eq_true rfl) (Nat.le_of_ble_eq_true rfl) (Nat.le_of_ble_eq_true rfl) (Nat.le_of_ble_eq_true rfl) ?_
    intro r2 μ1 hk
    refine px_istore (i := 4) C dX1_criticalUnits_18 (by decide) rfl ?_
    refine px_iconst (v := (0 : Int32)) C dX1_criticalUnits_20 rfl ?_
    refine px_istore (i := 5) C dX1_criticalUnits_21 (by decide) rfl ?_
    exact PW_at (w1_criticalUnits_b23_ok C hRt hHR hnT hR4 hk) (And.intro rfl (And.intro rfl (And.intro rfl (And.intro rfl (And.intro rfl (And.intro rfl trivial)))))) (Nat.le_of_ble_eq_true rfl) (Nat.le_of_ble_eq_true rfl)
set_option maxRecDepth 100000 in
set_option maxHeartbeats 4000000 in
theorem w1_criticalUnits_ok {l : Launch} {idx : List (Nat × Nat)} {μ : Mem} {a1 : Int32} {P : Int32 → Mem → Prop} {X : String → Mem → Prop} (hl : l.stackTraces = false) (hI : IdxOK idx) (hk : w1_criticalUnits_wp μ a1 P) : PMet l yX1_criticalUnits (.code yX1_criticalUnits cX1_criticalUnits 6 (some .int)) 5 0 0 idx [pR 34 0, pI a1] μ (qI P) X := by
  refine PMet_of mv_X1_criticalUnits.2.2.2.2.2.2 hl hI mv_X1_criticalUnits.2.2.2.1 rfl (Nat.le_of_ble_eq_true rfl) (fun G _ _ C hRt hHR hnT => ?_)
  show PW G 0 0 0 [some (pR 34 0), some (pI a1), none, none, none, none] [] μ
  unfold w1_criticalUnits_wp at hk
  refine px_iconst (v := (0 : Int32)) C dX1_criticalUnits_0 rfl ?_
  refine px_istore_n (i := 2) C dX1_criticalUnits_1 rfl (by decide) rfl ?_
  refine px_iconst (v := (0 : Int32)) C dX1_criticalUnits_2 rfl ?_
  refine px_istore_n (i := 3) C dX1_criticalUnits_3 rfl (by decide) rfl ?_
  exact PW_at (w1_criticalUnits_b4_ok C hRt hHR hnT hk) (And.intro rfl (And.intro rfl (And.intro rfl (And.intro rfl trivial)))) (Nat.le_of_ble_eq_true rfl) (Nat.le_of_ble_eq_true rfl)
theorem dX8_add_0 : decode cX8_add 0 = .ok (.iload_n 1, 1) := by decide +kernel
theorem dX8_add_1 : decode cX8_add 1 = .ok (.iconst 4, 1) := by decide +kernel
theorem dX8_add_2 : decode cX8_add 2 = .ok (.invokestatic 106, 3) := by decide +kernel
theorem dX8_add_5 : decode cX8_add 5 = .ok (.ifCond .eq 22, 3) := by decide +kernel
theorem dX8_add_8 : decode cX8_add 8 = .ok (.iload_n 2, 1) := by decide +kernel
theorem dX8_add_9 : decode cX8_add 9 = .ok (.bipush 100, 2) := by decide +kernel
theorem dX8_add_11 : decode cX8_add 11 = .ok (.invokestatic 106, 3) := by decide +kernel
theorem dX8_add_14 : decode cX8_add 14 = .ok (.ifCond .eq 13, 3) := by decide +kernel
theorem dX8_add_17 : decode cX8_add 17 = .ok (.iload 4, 2) := by decide +kernel
theorem dX8_add_19 : decode cX8_add 19 = .ok (.bipush 8, 2) := by decide +kernel
theorem dX8_add_21 : decode cX8_add 21 = .ok (.invokestatic 106, 3) := by decide +kernel
theorem dX8_add_24 : decode cX8_add 24 = .ok (.ifCond .ne 13, 3) := by decide +kernel
theorem dX8_add_27 : decode cX8_add 27 = .ok (.new 110, 3) := by decide +kernel
theorem dX8_add_30 : decode cX8_add 30 = .ok (.dup, 1) := by decide +kernel
theorem dX8_add_31 : decode cX8_add 31 = .ok (.ldc 112, 2) := by decide +kernel
theorem dX8_add_33 : decode cX8_add 33 = .ok (.invokespecial 114, 3) := by decide +kernel
theorem dX8_add_36 : decode cX8_add 36 = .ok (.athrow, 1) := by decide +kernel
theorem dX8_add_37 : decode cX8_add 37 = .ok (.iload_n 3, 1) := by decide +kernel
theorem dX8_add_38 : decode cX8_add 38 = .ok (.invokestatic 117, 3) := by decide +kernel
theorem dX8_add_41 : decode cX8_add 41 = .ok (.ifCond .eq 13, 3) := by decide +kernel
theorem dX8_add_44 : decode cX8_add 44 = .ok (.iload 5, 2) := by decide +kernel
theorem dX8_add_46 : decode cX8_add 46 = .ok (.iload 6, 2) := by decide +kernel
theorem dX8_add_48 : decode cX8_add 48 = .ok (.invokestatic 121, 3) := by decide +kernel
theorem dX8_add_51 : decode cX8_add 51 = .ok (.ifCond .ne 13, 3) := by decide +kernel
theorem dX8_add_54 : decode cX8_add 54 = .ok (.new 110, 3) := by decide +kernel
theorem dX8_add_57 : decode cX8_add 57 = .ok (.dup, 1) := by decide +kernel
theorem dX8_add_58 : decode cX8_add 58 = .ok (.ldc 124, 2) := by decide +kernel
theorem dX8_add_60 : decode cX8_add 60 = .ok (.invokespecial 114, 3) := by decide +kernel
theorem dX8_add_63 : decode cX8_add 63 = .ok (.athrow, 1) := by decide +kernel
theorem dX8_add_64 : decode cX8_add 64 = .ok (.aload_n 0, 1) := by decide +kernel
theorem dX8_add_65 : decode cX8_add 65 = .ok (.getfield 94, 3) := by decide +kernel
theorem dX8_add_68 : decode cX8_add 68 = .ok (.getfield 97, 3) := by decide +kernel
theorem dX8_add_71 : decode cX8_add 71 = .ok (.bipush 40, 2) := by decide +kernel
theorem dX8_add_73 : decode cX8_add 73 = .ok (.if_icmp .ge 15, 3) := by decide +kernel
theorem dX8_add_76 : decode cX8_add 76 = .ok (.aload_n 0, 1) := by decide +kernel
theorem dX8_add_77 : decode cX8_add 77 = .ok (.getfield 94, 3) := by decide +kernel
theorem dX8_add_80 : decode cX8_add 80 = .ok (.iload_n 2, 1) := by decide +kernel
theorem dX8_add_81 : decode cX8_add 81 = .ok (.invokevirtual 126, 3) := by decide +kernel
theorem dX8_add_84 : decode cX8_add 84 = .ok (.iconst (-1), 1) := by decide +kernel
theorem dX8_add_85 : decode cX8_add 85 = .ok (.if_icmp .eq 13, 3) := by decide +kernel
theorem dX8_add_88 : decode cX8_add 88 = .ok (.new 130, 3) := by decide +kernel
theorem dX8_add_91 : decode cX8_add 91 = .ok (.dup, 1) := by decide +kernel
theorem dX8_add_92 : decode cX8_add 92 = .ok (.ldc 132, 2) := by decide +kernel
theorem dX8_add_94 : decode cX8_add 94 = .ok (.invokespecial 134, 3) := by decide +kernel
theorem dX8_add_97 : decode cX8_add 97 = .ok (.athrow, 1) := by decide +kernel
theorem dX8_add_98 : decode cX8_add 98 = .ok (.aload_n 0, 1) := by decide +kernel
theorem dX8_add_99 : decode cX8_add 99 = .ok (.invokevirtual 135, 3) := by decide +kernel
theorem dX8_add_102 : decode cX8_add 102 = .ok (.aload_n 0, 1) := by decide +kernel
theorem dX8_add_103 : decode cX8_add 103 = .ok (.getfield 94, 3) := by decide +kernel
theorem dX8_add_106 : decode cX8_add 106 = .ok (.iload_n 1, 1) := by decide +kernel
theorem dX8_add_107 : decode cX8_add 107 = .ok (.iload_n 2, 1) := by decide +kernel
theorem dX8_add_108 : decode cX8_add 108 = .ok (.iload_n 3, 1) := by decide +kernel
theorem dX8_add_109 : decode cX8_add 109 = .ok (.iload 4, 2) := by decide +kernel
theorem dX8_add_111 : decode cX8_add 111 = .ok (.iload 5, 2) := by decide +kernel
theorem dX8_add_113 : decode cX8_add 113 = .ok (.iload 6, 2) := by decide +kernel
theorem dX8_add_115 : decode cX8_add 115 = .ok (.iconst 0, 1) := by decide +kernel
theorem dX8_add_116 : decode cX8_add 116 = .ok (.invokevirtual 138, 3) := by decide +kernel
theorem dX8_add_119 : decode cX8_add 119 = .ok (.aload_n 0, 1) := by decide +kernel
theorem dX8_add_120 : decode cX8_add 120 = .ok (.getfield 94, 3) := by decide +kernel
theorem dX8_add_123 : decode cX8_add 123 = .ok (.getfield 97, 3) := by decide +kernel
theorem dX8_add_126 : decode cX8_add 126 = .ok (.ireturn, 1) := by decide +kernel
set_option maxRecDepth 100000 in
set_option maxHeartbeats 4000000 in
theorem w8_add_ok {l : Launch} {idx : List (Nat × Nat)} {μ : Mem} {a1 : Int32} {a2 : Int32} {a3 : Int32} {a4 : Int32} {a5 : Int32} {a6 : Int32} {P : Int32 → Mem → Prop} {X : String → Mem → Prop} (hl : l.stackTraces = false) (hI : IdxOK idx) (hk : w8_add_wp μ a1 a2 a3 a4 a5 a6 P X) : PMet l yX8_add (.code yX8_add cX8_add 7 (some .int)) 8 1 6 idx [pR 40 0, pI a1, pI a2, pI a3, pI a4, pI a5, pI a6] μ (qI P) X := by
  refine PMet_of mv_X8_add.2.2.2.2.2.2 hl hI mv_X8_add.2.2.2.1 rfl (Nat.le_of_ble_eq_true rfl) (fun G _ _ C hRt hHR hnT => ?_)
  show PW G 1 6 0 [some (pR 40 0), some (pI a1), some (pI a2), some (pI a3), some (pI a4), some (pI a5), some (pI a6)] [] μ
  unfold w8_add_wp at hk
  refine px_iload_n (i := 1) C dX8_add_0 rfl rfl ?_
  refine px_iconst (v := (4 : Int32)) C dX8_add_1 rfl ?_
  refine px_callSi (h := 0) (rc' := 1) (rs' := 6) C (HR_le hHR (Nat.le_of_ble_eq_true rfl)) hRt hnT dX8_add_2 (gw3 65 rfl rfl) ms_X8_isWithin (w8_isWithin_ok (PCx_l C) (PCx_I C) hk) rfl rfl (Nat.le_of_ble_eq_true rfl) (Nat.le_of_ble_eq_true rfl) (Nat.le_of_ble_eq_true rfl) (Nat.le_of_ble_eq_true rfl) ?_
  intro r2 μ1 hk
  refine px_if_eq (tgt := 27) C dX8_add_5 (by decide) (fun c21 => ?_) (fun c21 => ?_)
  · replace hk := hk.1 c21
    exact px_throw (h9 := 0) C (HR_le hHR (Nat.le_of_ble_eq_true rfl)) hRt hnT tk_IllegalArgumentException ti_IllegalArgumentException tw_IllegalArgumentException (by decide +kernel) (List.mem_of_getElem? (i := 0) rfl) dX8_add_27 dX8_add_30 dX8_add_31 dX8_add_33 dX8_add_36 rfl (Nat.le_of_ble_eq_true rfl) (Nat.le_of_ble_eq_true rfl) hk
  · replace hk := hk.2 c21
    refine px_iload_n (i := 2) C dX8_add_8 rfl rfl ?_
    refine px_bipush (v := (100 : Int32)) C dX8_add_9 rfl ?_
    refine px_callSi (h := 0) (rc' := 1) (rs' := 6) C (HR_le hHR (Nat.le_of_ble_eq_true rfl)) hRt hnT dX8_add_11 (gw3 65 rfl rfl) ms_X8_isWithin (w8_isWithin_ok (PCx_l C) (PCx_I C) hk) rfl rfl (Nat.le_of_ble_eq_true rfl) (Nat.le_of_ble_eq_true rfl) (Nat.le_of_ble_eq_true rfl) (Nat.le_of_ble_eq_true rfl) ?_
    intro r4 μ3 hk
    refine px_if_eq (tgt := 27) C dX8_add_14 (by decide) (fun c20 => ?_) (fun c20 => ?_)
    · replace hk := hk.1 c20
      exact px_throw (h9 := 0) C (HR_le hHR (Nat.le_of_ble_eq_true rfl)) hRt hnT tk_IllegalArgumentException ti_IllegalArgumentException tw_IllegalArgumentException (by decide +kernel) (List.mem_of_getElem? (i := 0) rfl) dX8_add_27 dX8_add_30 dX8_add_31 dX8_add_33 dX8_add_36 rfl (Nat.le_of_ble_eq_true rfl) (Nat.le_of_ble_eq_true rfl) hk
    · replace hk := hk.2 c20
      refine px_iload (i := 4) C dX8_add_17 rfl ?_
      refine px_bipush (v := (8 : Int32)) C dX8_add_19 rfl ?_
      refine px_callSi (h := 0) (rc' := 1) (rs' := 6) C (HR_le hHR (Nat.le_of_ble_eq_true rfl)) hRt hnT dX8_add_21 (gw3 65 rfl rfl) ms_X8_isWithin (w8_isWithin_ok (PCx_l C) (PCx_I C) hk) rfl rfl (Nat.le_of_ble_eq_true rfl) (Nat.le_of_ble_eq_true rfl) (Nat.le_of_ble_eq_true rfl) (Nat.le_of_ble_eq_true rfl) ?_
      intro r6 μ5 hk
      refine px_if_ne (tgt := 37) C dX8_add_24 (by decide) (fun c19 => ?_) (fun c19 => ?_)
      · replace hk := hk.1 c19
        refine px_iload_n (i := 3) C dX8_add_37 rfl rfl ?_
        refine px_callSi (h := 1) (rc' := 1) (rs' := 6) C (HR_le hHR (Nat.le_of_ble_eq_true rfl)) hRt hnT dX8_add_38 (gw3 138 rfl rfl) ms_X8_isParentId (w8_isParentId_ok (PCx_l C) (PCx_I C) hk) rfl rfl (Nat.le_of_ble_eq_true rfl) (Nat.le_of_ble_eq_true rfl) (Nat.le_of_ble_eq_true rfl) (Nat.le_of_ble_eq_true rfl) ?_
        intro r8 μ7 hk
        refine px_if_eq (tgt := 54) C dX8_add_41 (by decide) (fun c18 => ?_) (fun c18 => ?_)
        · replace hk := hk.1 c18
          exact px_throw (h9 := 0) C (HR_le hHR (Nat.le_of_ble_eq_true rfl)) hRt hnT tk_IllegalArgumentException ti_IllegalArgumentException tw_IllegalArgumentException (by decide +kernel) (List.mem_of_getElem? (i := 1) rfl) dX8_add_54 dX8_add_57 dX8_add_58 dX8_add_60 dX8_add_63 rfl (Nat.le_of_ble_eq_true rfl) (Nat.le_of_ble_eq_true rfl) hk
        · replace hk := hk.2 c18
          refine px_iload (i := 5) C dX8_add_44 rfl ?_
          refine px_iload (i := 6) C dX8_add_46 rfl ?_
          refine px_callSi (h := 1) (rc' := 1) (rs' := 6) C (HR_le hHR (Nat.le_of_ble_eq_true rfl)) hRt hnT dX8_add_48 (gw3 141 rfl rfl) ms_X8_areTimes (w8_areTimes_ok (PCx_l C) (PCx_I C) hk) rfl rfl (Nat.le_of_ble_eq_true rfl) (Nat.le_of_ble_eq_true rfl) (Nat.le_of_ble_eq_true rfl) (Nat.le_of_ble_eq_true rfl) ?_
          intro r10 μ9 hk
          refine px_if_ne (tgt := 64) C dX8_add_51 (by decide) (fun c17 => ?_) (fun c17 => ?_)
          · replace hk := hk.1 c17
            refine px_aload_n (i := 0) C dX8_add_64 rfl rfl ?_
            refine px_getr C dX8_add_65 fl_RX8_94 rfl rfl rfl ?_
            refine px_geti 1 C dX8_add_68 fl_RX8_97 rfl rfl rfl rfl ?_
            refine px_bipush (v := (40 : Int32)) C dX8_add_71 rfl ?_
            refine px_icmp_ge (tgt := 88) C dX8_add_73 (by decide) (fun c16 => ?_) (fun c16 => ?_)
            · replace hk := hk.1 c16
              exact px_throw (h9 := 0) C (HR_le hHR (Nat.le_of_ble_eq_true rfl)) hRt hnT tk_IllegalStateException ti_IllegalStateException tw_IllegalStateException (by decide +kernel) (List.mem_of_getElem? (i := 2) rfl) dX8_add_88 dX8_add_91 dX8_add_92 dX8_add_94 dX8_add_97 rfl (Nat.le_of_ble_eq_true rfl) (Nat.le_of_ble_eq_true rfl) hk
            · replace hk := hk.2 c16
              refine px_aload_n (i := 0) C dX8_add_76 rfl rfl ?_
              refine px_getr C dX8_add_77 fl_RX8_94 rfl rfl rfl ?_
              refine px_iload_n (i := 2) C dX8_add_80 rfl rfl ?_
              refine px_callVi (h := 0) (rc' := 1) (rs' := 6) C (HR_le hHR (Nat.le_of_ble_eq_true rfl)) hRt hnT dX8_add_81 (gw3 145 rfl rfl) mv_X7_find (w7_find_ok (PCx_l C) (PCx_I C) hk) rfl rfl rfl rfl rfl (Nat.le_of_ble_eq_true rfl) (Nat.le_of_ble_eq_true rfl) (Nat.le_of_ble_eq_true rfl) (Nat.le_of_ble_eq_true rfl) ?_
              intro r12 μ11 hk
              refine px_iconst (v := (-1 : Int32)) C dX8_add_84 rfl ?_
              refine px_icmp_eq (tgt := 98) C dX8_add_85 (by decide) (fun c15 => ?_) (fun c15 => ?_)
              · replace hk := hk.1 c15
                refine px_aload_n (i := 0) C dX8_add_98 rfl rfl ?_
                refine px_callVv (h := 5) (rc' := 0) (rs' := 0) C (HR_le hHR (Nat.le_of_ble_eq_true rfl)) hRt hnT dX8_add_99 (gw3 162 rfl rfl) mv_X8_startChange (w8_startChange_ok (PCx_l C) (PCx_I C) hk) rfl rfl rfl rfl rfl (Nat.le_of_ble_eq_true rfl) (Nat.le_of_ble_eq_true rfl) (Nat.le_of_ble_eq_true rfl) (Nat.le_of_ble_eq_true rfl) ?_
                intro μ13 hk
                refine px_aload_n (i := 0) C dX8_add_102 rfl rfl ?_
                refine px_getr C dX8_add_103 fl_RX8_94 rfl rfl rfl ?_
                refine px_iload_n (i := 1) C dX8_add_106 rfl rfl ?_
                refine px_iload_n (i := 2) C dX8_add_107 rfl rfl ?_
                refine px_iload_n (i := 3) C dX8_add_108 rfl rfl ?_
                refine px_iload (i := 4) C dX8_add_109 rfl ?_
                refine px_iload (i := 5) C dX8_add_111 rfl ?_
                refine px_iload (i := 6) C dX8_add_113 rfl ?_
                refine px_iconst (v := (0 : Int32)) C dX8_add_115 rfl ?_
                refine px_callVv (h := 1) (rc' := 0) (rs' := 0) C (HR_le hHR (Nat.le_of_ble_eq_true rfl)) hRt hnT dX8_add_116 (gw3 177 rfl rfl) mv_X7_keep (w7_keep_ok (PCx_l C) (PCx_I C) hk) rfl rfl rfl rfl rfl (Nat.le_of_ble_eq_true rfl) (Nat.le_of_ble_eq_true rfl) (Nat.le_of_ble_eq_true rfl) (Nat.le_of_ble_eq_true rfl) ?_
                intro μ14 hk
                refine px_aload_n (i := 0) C dX8_add_119 rfl rfl ?_
                refine px_getr C dX8_add_120 fl_RX8_94 rfl rfl rfl ?_
                refine px_geti 1 C dX8_add_123 fl_RX8_97 rfl rfl rfl rfl ?_
                exact px_iret C hRt dX8_add_126 rfl rfl hk
              · replace hk := hk.2 c15
                exact px_throw (h9 := 0) C (HR_le hHR (Nat.le_of_ble_eq_true rfl)) hRt hnT tk_IllegalStateException ti_IllegalStateException tw_IllegalStateException (by decide +kernel) (List.mem_of_getElem? (i := 2) rfl) dX8_add_88 dX8_add_91 dX8_add_92 dX8_add_94 dX8_add_97 rfl (Nat.le_of_ble_eq_true rfl) (Nat.le_of_ble_eq_true rfl) hk
          · replace hk := hk.2 c17
            exact px_throw (h9 := 0) C (HR_le hHR (Nat.le_of_ble_eq_true rfl)) hRt hnT tk_IllegalArgumentException ti_IllegalArgumentException tw_IllegalArgumentException (by decide +kernel) (List.mem_of_getElem? (i := 1) rfl) dX8_add_54 dX8_add_57 dX8_add_58 dX8_add_60 dX8_add_63 rfl (Nat.le_of_ble_eq_true rfl) (Nat.le_of_ble_eq_true rfl) hk
      · replace hk := hk.2 c19
        exact px_throw (h9 := 0) C (HR_le hHR (Nat.le_of_ble_eq_true rfl)) hRt hnT tk_IllegalArgumentException ti_IllegalArgumentException tw_IllegalArgumentException (by decide +kernel) (List.mem_of_getElem? (i := 0) rfl) dX8_add_27 dX8_add_30 dX8_add_31 dX8_add_33 dX8_add_36 rfl (Nat.le_of_ble_eq_true rfl) (Nat.le_of_ble_eq_true rfl) hk
theorem dX8_remove_0 : decode cX8_remove 0 = .ok (.aload_n 0, 1) := by decide +kernel
theorem dX8_remove_1 : decode cX8_remove 1 = .ok (.iload_n 1, 1) := by decide +kernel
theorem dX8_remove_2 : decode cX8_remove 2 = .ok (.invokevirtual 142, 3) := by decide +kernel
theorem dX8_remove_5 : decode cX8_remove 5 = .ok (.istore_n 2, 1) := by decide +kernel
theorem dX8_remove_6 : decode cX8_remove 6 = .ok (.aload_n 0, 1) := by decide +kernel
theorem dX8_remove_7 : decode cX8_remove 7 = .ok (.invokevirtual 135, 3) := by decide +kernel
theorem dX8_remove_10 : decode cX8_remove 10 = .ok (.aload_n 0, 1) := by decide +kernel
theorem dX8_remove_11 : decode cX8_remove 11 = .ok (.getfield 94, 3) := by decide +kernel
theorem dX8_remove_14 : decode cX8_remove 14 = .ok (.iload_n 2, 1) := by decide +kernel
theorem dX8_remove_15 : decode cX8_remove 15 = .ok (.invokevirtual 145, 3) := by decide +kernel
theorem dX8_remove_18 : decode cX8_remove 18 = .ok (.aload_n 0, 1) := by decide +kernel
theorem dX8_remove_19 : decode cX8_remove 19 = .ok (.getfield 94, 3) := by decide +kernel
theorem dX8_remove_22 : decode cX8_remove 22 = .ok (.getfield 97, 3) := by decide +kernel
theorem dX8_remove_25 : decode cX8_remove 25 = .ok (.ireturn, 1) := by decide +kernel
set_option maxRecDepth 100000 in
set_option maxHeartbeats 4000000 in
theorem w8_remove_ok {l : Launch} {idx : List (Nat × Nat)} {μ : Mem} {a1 : Int32} {P : Int32 → Mem → Prop} {X : String → Mem → Prop} (hl : l.stackTraces = false) (hI : IdxOK idx) (hk : w8_remove_wp μ a1 P X) : PMet l yX8_remove (.code yX8_remove cX8_remove 3 (some .int)) 9 1 6 idx [pR 40 0, pI a1] μ (qI P) X := by
  refine PMet_of mv_X8_remove.2.2.2.2.2.2 hl hI mv_X8_remove.2.2.2.1 rfl (Nat.le_of_ble_eq_true rfl) (fun G _ _ C hRt hHR hnT => ?_)
  show PW G 1 6 0 [some (pR 40 0), some (pI a1), none] [] μ
  unfold w8_remove_wp at hk
  refine px_aload_n (i := 0) C dX8_remove_0 rfl rfl ?_
  refine px_iload_n (i := 1) C dX8_remove_1 rfl rfl ?_
  refine px_callVi (h := 8) (rc' := 0) (rs' := 0) C (HR_le hHR (Nat.le_of_ble_eq_true rfl)) hRt hnT dX8_remove_2 (gw3 209 rfl rfl) mv_X8_placeOf (w8_placeOf_ok (PCx_l C) (PCx_I C) hk) rfl rfl rfl rfl rfl (Nat.le_of_ble_eq_true rfl) (Nat.le_of_ble_eq_true rfl) (Nat.le_of_ble_eq_true rfl) (Nat.le_of_ble_eq_true rfl) ?_
  intro r2 μ1 hk
  refine px_istore_n (i := 2) C dX8_remove_5 rfl (by decide) rfl ?_
  refine px_aload_n (i := 0) C dX8_remove_6 rfl rfl ?_
  refine px_callVv (h := 5) (rc' := 0) (rs' := 0) C (HR_le hHR (Nat.le_of_ble_eq_true rfl)) hRt hnT dX8_remove_7 (gw3 162 rfl rfl) mv_X8_startChange (w8_startChange_ok (PCx_l C) (PCx_I C) hk) rfl rfl rfl rfl rfl (Nat.le_of_ble_eq_true rfl) (Nat.le_of_ble_eq_true rfl) (Nat.le_of_ble_eq_true rfl) (Nat.le_of_ble_eq_true rfl) ?_
  intro μ3 hk
  refine px_aload_n (i := 0) C dX8_remove_10 rfl rfl ?_
  refine px_getr C dX8_remove_11 fl_RX8_94 rfl rfl rfl ?_
  refine px_iload_n (i := 2) C dX8_remove_14 rfl rfl ?_
  refine px_callVv (h := 3) (rc' := 0) (rs' := 0) C (HR_le hHR (Nat.le_of_ble_eq_true rfl)) hRt hnT dX8_remove_15 (gw3 226 rfl rfl) mv_X7_drop (w7_drop_ok (PCx_l C) (PCx_I C) hk) rfl rfl rfl rfl rfl (Nat.le_of_ble_eq_true rfl) (Nat.le_of_ble_eq_true rfl) (Nat.le_of_ble_eq_true rfl) (Nat.le_of_ble_eq_true rfl) ?_
  intro μ4 hk
  refine px_aload_n (i := 0) C dX8_remove_18 rfl rfl ?_
  refine px_getr C dX8_remove_19 fl_RX8_94 rfl rfl rfl ?_
  refine px_geti 1 C dX8_remove_22 fl_RX8_97 rfl rfl rfl rfl ?_
  exact px_iret C hRt dX8_remove_25 rfl rfl hk
theorem dX8_setParent_0 : decode cX8_setParent 0 = .ok (.aload_n 0, 1) := by decide +kernel
theorem dX8_setParent_1 : decode cX8_setParent 1 = .ok (.iload_n 1, 1) := by decide +kernel
theorem dX8_setParent_2 : decode cX8_setParent 2 = .ok (.invokevirtual 142, 3) := by decide +kernel
theorem dX8_setParent_5 : decode cX8_setParent 5 = .ok (.istore_n 3, 1) := by decide +kernel
theorem dX8_setParent_6 : decode cX8_setParent 6 = .ok (.iload_n 2, 1) := by decide +kernel
theorem dX8_setParent_7 : decode cX8_setParent 7 = .ok (.invokestatic 117, 3) := by decide +kernel
theorem dX8_setParent_10 : decode cX8_setParent 10 = .ok (.ifCond .ne 13, 3) := by decide +kernel
theorem dX8_setParent_13 : decode cX8_setParent 13 = .ok (.new 110, 3) := by decide +kernel
theorem dX8_setParent_16 : decode cX8_setParent 16 = .ok (.dup, 1) := by decide +kernel
theorem dX8_setParent_17 : decode cX8_setParent 17 = .ok (.ldc 149, 2) := by decide +kernel
theorem dX8_setParent_19 : decode cX8_setParent 19 = .ok (.invokespecial 114, 3) := by decide +kernel
theorem dX8_setParent_22 : decode cX8_setParent 22 = .ok (.athrow, 1) := by decide +kernel
theorem dX8_setParent_23 : decode cX8_setParent 23 = .ok (.aload_n 0, 1) := by decide +kernel
theorem dX8_setParent_24 : decode cX8_setParent 24 = .ok (.invokevirtual 135, 3) := by decide +kernel
theorem dX8_setParent_27 : decode cX8_setParent 27 = .ok (.aload_n 0, 1) := by decide +kernel
theorem dX8_setParent_28 : decode cX8_setParent 28 = .ok (.getfield 94, 3) := by decide +kernel
theorem dX8_setParent_31 : decode cX8_setParent 31 = .ok (.getfield 151, 3) := by decide +kernel
theorem dX8_setParent_34 : decode cX8_setParent 34 = .ok (.iload_n 3, 1) := by decide +kernel
theorem dX8_setParent_35 : decode cX8_setParent 35 = .ok (.invokestatic 155, 3) := by decide +kernel
theorem dX8_setParent_38 : decode cX8_setParent 38 = .ok (.istore 4, 2) := by decide +kernel
theorem dX8_setParent_40 : decode cX8_setParent 40 = .ok (.aload_n 0, 1) := by decide +kernel
theorem dX8_setParent_41 : decode cX8_setParent 41 = .ok (.getfield 94, 3) := by decide +kernel
theorem dX8_setParent_44 : decode cX8_setParent 44 = .ok (.getfield 151, 3) := by decide +kernel
theorem dX8_setParent_47 : decode cX8_setParent 47 = .ok (.iload_n 3, 1) := by decide +kernel
theorem dX8_setParent_48 : decode cX8_setParent 48 = .ok (.iload_n 2, 1) := by decide +kernel
theorem dX8_setParent_49 : decode cX8_setParent 49 = .ok (.invokestatic 159, 3) := by decide +kernel
theorem dX8_setParent_52 : decode cX8_setParent 52 = .ok (.iload 4, 2) := by decide +kernel
theorem dX8_setParent_54 : decode cX8_setParent 54 = .ok (.ireturn, 1) := by decide +kernel
set_option maxRecDepth 100000 in
set_option maxHeartbeats 4000000 in
theorem w8_setParent_ok {l : Launch} {idx : List (Nat × Nat)} {μ : Mem} {a1 : Int32} {a2 : Int32} {P : Int32 → Mem → Prop} {X : String → Mem → Prop} (hl : l.stackTraces = false) (hI : IdxOK idx) (hk : w8_setParent_wp μ a1 a2 P X) : PMet l yX8_setParent (.code yX8_setParent cX8_setParent 5 (some .int)) 9 2 12 idx [pR 40 0, pI a1, pI a2] μ (qI P) X := by
  refine PMet_of mv_X8_setParent.2.2.2.2.2.2 hl hI mv_X8_setParent.2.2.2.1 rfl (Nat.le_of_ble_eq_true rfl) (fun G _ _ C hRt hHR hnT => ?_)
  show PW G 2 12 0 [some (pR 40 0), some (pI a1), some (pI a2), none, none] [] μ
  unfold w8_setParent_wp at hk
  refine px_aload_n (i := 0) C dX8_setParent_0 rfl rfl ?_
  refine px_iload_n (i := 1) C dX8_setParent_1 rfl rfl ?_
  refine px_callVi (h := 8) (rc' := 1) (rs' := 6) C (HR_le hHR (Nat.le_of_ble_eq_true rfl)) hRt hnT dX8_setParent_2 (gw3 209 rfl rfl) mv_X8_placeOf (w8_placeOf_ok (PCx_l C) (PCx_I C) hk) rfl rfl rfl rfl rfl (Nat.le_of_ble_eq_true rfl) (Nat.le_of_ble_eq_true rfl) (Nat.le_of_ble_eq_true rfl) (Nat.le_of_ble_eq_true rfl) ?_
  intro r2 μ1 hk
  refine px_istore_n (i := 3) C dX8_setParent_5 rfl (by decide) rfl ?_
  refine px_iload_n (i := 2) C dX8_setParent_6 rfl rfl ?_
  refine px_callSi (h := 1) (rc' := 1) (rs' := 6) C (HR_le hHR (Nat.le_of_ble_eq_true rfl)) hRt hnT dX8_setParent_7 (gw3 138 rfl rfl) ms_X8_isParentId (w8_isParentId_ok (PCx_l C) (PCx_I C) hk) rfl rfl (Nat.le_of_ble_eq_true rfl) (Nat.le_of_ble_eq_true rfl) (Nat.le_of_ble_eq_true rfl) (Nat.le_of_ble_eq_true rfl) ?_
  intro r4 μ3 hk
  refine px_if_ne (tgt := 23) C dX8_setParent_10 (by decide) (fun c9 => ?_) (fun c9 => ?_)
  · replace hk := hk.1 c9
    refine px_aload_n (i := 0) C dX8_setParent_23 rfl rfl ?_
    refine px_callVv (h := 5) (rc' := 0) (rs' := 0) C (HR_le hHR (Nat.le_of_ble_eq_true rfl)) hRt hnT dX8_setParent_24 (gw3 162 rfl rfl) mv_X8_startChange (w8_startChange_ok (PCx_l C) (PCx_I C) hk) rfl rfl rfl rfl rfl (Nat.le_of_ble_eq_true rfl) (Nat.le_of_ble_eq_true rfl) (Nat.le_of_ble_eq_true rfl) (Nat.le_of_ble_eq_true rfl) ?_
    intro μ5 hk
    refine px_aload_n (i := 0) C dX8_setParent_27 rfl rfl ?_
    refine px_getr C dX8_setParent_28 fl_RX8_94 rfl rfl rfl ?_
    refine px_getr C dX8_setParent_31 fl_RX8_151 rfl rfl rfl ?_
    refine px_iload_n (i := 3) C dX8_setParent_34 rfl rfl ?_
    obtain ⟨o6, hk⟩ := hk
    refine px_callSi (h := 0) (rc' := 0) (rs' := 0) C (HR_le hHR (Nat.le_of_ble_eq_true rfl)) hRt hnT dX8_setParent_35 (gw4 2 rfl rfl) ms_X8_at (at_ok (j := 3) (q := 0) (n := 40) (loc := 192) (PCx_l C) (PCx_I C) rfl rfl rfl o6) rfl rfl (Nat.le_of_ble_eq_true rfl) (Nat.le_of_ble_eq_true rfl) (Nat.le_of_ble_eq_true rfl) (Nat.le_of_ble_eq_true rfl) ?_
    rintro _ _ ⟨rfl, rfl⟩
    refine px_istore (i := 4) C dX8_setParent_38 (by decide) rfl ?_
    refine px_aload_n (i := 0) C dX8_setParent_40 rfl rfl ?_
    refine px_getr C dX8_setParent_41 fl_RX8_94 rfl rfl rfl ?_
    refine px_getr C dX8_setParent_44 fl_RX8_151 rfl rfl rfl ?_
    refine px_iload_n (i := 3) C dX8_setParent_47 rfl rfl ?_
    refine px_iload_n (i := 2) C dX8_setParent_48 rfl rfl ?_
    obtain ⟨o7, hk⟩ := hk
    replace hk := hk _ rfl
    refine px_callSv (h := 0) (rc' := 0) (rs' := 0) C (HR_le hHR (Nat.le_of_ble_eq_true rfl)) hRt hnT dX8_setParent_49 (gw4 3 rfl rfl) ms_X8_set (set_ok (j := 3) (q := 0) (n := 40) (loc := 192) (PCx_l C) (PCx_I C) rfl rfl rfl o7) rfl rfl (Nat.le_of_ble_eq_true rfl) (Nat.le_of_ble_eq_true rfl) (Nat.le_of_ble_eq_true rfl) (Nat.le_of_ble_eq_true rfl) ?_
    rintro _ rfl
    refine px_iload (i := 4) C dX8_setParent_52 rfl ?_
    exact px_iret C hRt dX8_setParent_54 rfl rfl hk
  · replace hk := hk.2 c9
    exact px_throw (h9 := 1) C (HR_le hHR (Nat.le_of_ble_eq_true rfl)) hRt hnT tk_IllegalArgumentException ti_IllegalArgumentException tw_IllegalArgumentException (by decide +kernel) (List.mem_of_getElem? (i := 4) rfl) dX8_setParent_13 dX8_setParent_16 dX8_setParent_17 dX8_setParent_19 dX8_setParent_22 rfl (Nat.le_of_ble_eq_true rfl) (Nat.le_of_ble_eq_true rfl) hk
theorem dX8_setTimes_0 : decode cX8_setTimes 0 = .ok (.aload_n 0, 1) := by decide +kernel
theorem dX8_setTimes_1 : decode cX8_setTimes 1 = .ok (.iload_n 1, 1) := by decide +kernel
theorem dX8_setTimes_2 : decode cX8_setTimes 2 = .ok (.invokevirtual 142, 3) := by decide +kernel
theorem dX8_setTimes_5 : decode cX8_setTimes 5 = .ok (.istore 4, 2) := by decide +kernel
theorem dX8_setTimes_7 : decode cX8_setTimes 7 = .ok (.iload_n 2, 1) := by decide +kernel
theorem dX8_setTimes_8 : decode cX8_setTimes 8 = .ok (.iload_n 3, 1) := by decide +kernel
theorem dX8_setTimes_9 : decode cX8_setTimes 9 = .ok (.invokestatic 121, 3) := by decide +kernel
theorem dX8_setTimes_12 : decode cX8_setTimes 12 = .ok (.ifCond .ne 13, 3) := by decide +kernel
theorem dX8_setTimes_15 : decode cX8_setTimes 15 = .ok (.new 110, 3) := by decide +kernel
theorem dX8_setTimes_18 : decode cX8_setTimes 18 = .ok (.dup, 1) := by decide +kernel
theorem dX8_setTimes_19 : decode cX8_setTimes 19 = .ok (.ldc 163, 2) := by decide +kernel
theorem dX8_setTimes_21 : decode cX8_setTimes 21 = .ok (.invokespecial 114, 3) := by decide +kernel
theorem dX8_setTimes_24 : decode cX8_setTimes 24 = .ok (.athrow, 1) := by decide +kernel
theorem dX8_setTimes_25 : decode cX8_setTimes 25 = .ok (.aload_n 0, 1) := by decide +kernel
theorem dX8_setTimes_26 : decode cX8_setTimes 26 = .ok (.invokevirtual 135, 3) := by decide +kernel
theorem dX8_setTimes_29 : decode cX8_setTimes 29 = .ok (.aload_n 0, 1) := by decide +kernel
theorem dX8_setTimes_30 : decode cX8_setTimes 30 = .ok (.getfield 94, 3) := by decide +kernel
theorem dX8_setTimes_33 : decode cX8_setTimes 33 = .ok (.iload 4, 2) := by decide +kernel
theorem dX8_setTimes_35 : decode cX8_setTimes 35 = .ok (.invokevirtual 165, 3) := by decide +kernel
theorem dX8_setTimes_38 : decode cX8_setTimes 38 = .ok (.istore 5, 2) := by decide +kernel
theorem dX8_setTimes_40 : decode cX8_setTimes 40 = .ok (.aload_n 0, 1) := by decide +kernel
theorem dX8_setTimes_41 : decode cX8_setTimes 41 = .ok (.getfield 94, 3) := by decide +kernel
theorem dX8_setTimes_44 : decode cX8_setTimes 44 = .ok (.getfield 168, 3) := by decide +kernel
theorem dX8_setTimes_47 : decode cX8_setTimes 47 = .ok (.iload 4, 2) := by decide +kernel
theorem dX8_setTimes_49 : decode cX8_setTimes 49 = .ok (.iload_n 2, 1) := by decide +kernel
theorem dX8_setTimes_50 : decode cX8_setTimes 50 = .ok (.invokestatic 159, 3) := by decide +kernel
theorem dX8_setTimes_53 : decode cX8_setTimes 53 = .ok (.aload_n 0, 1) := by decide +kernel
theorem dX8_setTimes_54 : decode cX8_setTimes 54 = .ok (.getfield 94, 3) := by decide +kernel
theorem dX8_setTimes_57 : decode cX8_setTimes 57 = .ok (.getfield 171, 3) := by decide +kernel
theorem dX8_setTimes_60 : decode cX8_setTimes 60 = .ok (.iload 4, 2) := by decide +kernel
theorem dX8_setTimes_62 : decode cX8_setTimes 62 = .ok (.iload_n 3, 1) := by decide +kernel
theorem dX8_setTimes_63 : decode cX8_setTimes 63 = .ok (.invokestatic 159, 3) := by decide +kernel
theorem dX8_setTimes_66 : decode cX8_setTimes 66 = .ok (.iload 5, 2) := by decide +kernel
theorem dX8_setTimes_68 : decode cX8_setTimes 68 = .ok (.ireturn, 1) := by decide +kernel
set_option maxRecDepth 100000 in
set_option maxHeartbeats 4000000 in
theorem w8_setTimes_ok {l : Launch} {idx : List (Nat × Nat)} {μ : Mem} {a1 : Int32} {a2 : Int32} {a3 : Int32} {P : Int32 → Mem → Prop} {X : String → Mem → Prop} (hl : l.stackTraces = false) (hI : IdxOK idx) (hk : w8_setTimes_wp μ a1 a2 a3 P X) : PMet l yX8_setTimes (.code yX8_setTimes cX8_setTimes 6 (some .int)) 9 2 12 idx [pR 40 0, pI a1, pI a2, pI a3] μ (qI P) X := by
  refine PMet_of mv_X8_setTimes.2.2.2.2.2.2 hl hI mv_X8_setTimes.2.2.2.1 rfl (Nat.le_of_ble_eq_true rfl) (fun G _ _ C hRt hHR hnT => ?_)
  show PW G 2 12 0 [some (pR 40 0), some (pI a1), some (pI a2), some (pI a3), none, none] [] μ
  unfold w8_setTimes_wp at hk
  refine px_aload_n (i := 0) C dX8_setTimes_0 rfl rfl ?_
  refine px_iload_n (i := 1) C dX8_setTimes_1 rfl rfl ?_
  refine px_callVi (h := 8) (rc' := 1) (rs' := 6) C (HR_le hHR (Nat.le_of_ble_eq_true rfl)) hRt hnT dX8_setTimes_2 (gw3 209 rfl rfl) mv_X8_placeOf (w8_placeOf_ok (PCx_l C) (PCx_I C) hk) rfl rfl rfl rfl rfl (Nat.le_of_ble_eq_true rfl) (Nat.le_of_ble_eq_true rfl) (Nat.le_of_ble_eq_true rfl) (Nat.le_of_ble_eq_true rfl) ?_
  intro r2 μ1 hk
  refine px_istore (i := 4) C dX8_setTimes_5 (by decide) rfl ?_
  refine px_iload_n (i := 2) C dX8_setTimes_7 rfl rfl ?_
  refine px_iload_n (i := 3) C dX8_setTimes_8 rfl rfl ?_
  refine px_callSi (h := 1) (rc' := 1) (rs' := 6) C (HR_le hHR (Nat.le_of_ble_eq_true rfl)) hRt hnT dX8_setTimes_9 (gw3 141 rfl rfl) ms_X8_areTimes (w8_areTimes_ok (PCx_l C) (PCx_I C) hk) rfl rfl (Nat.le_of_ble_eq_true rfl) (Nat.le_of_ble_eq_true rfl) (Nat.le_of_ble_eq_true rfl) (Nat.le_of_ble_eq_true rfl) ?_
  intro r4 μ3 hk
  refine px_if_ne (tgt := 25) C dX8_setTimes_12 (by decide) (fun c12 => ?_) (fun c12 => ?_)
  · replace hk := hk.1 c12
    refine px_aload_n (i := 0) C dX8_setTimes_25 rfl rfl ?_
    refine px_callVv (h := 5) (rc' := 0) (rs' := 0) C (HR_le hHR (Nat.le_of_ble_eq_true rfl)) hRt hnT dX8_setTimes_26 (gw3 162 rfl rfl) mv_X8_startChange (w8_startChange_ok (PCx_l C) (PCx_I C) hk) rfl rfl rfl rfl rfl (Nat.le_of_ble_eq_true rfl) (Nat.le_of_ble_eq_true rfl) (Nat.le_of_ble_eq_true rfl) (Nat.le_of_ble_eq_true rfl) ?_
    intro μ5 hk
    refine px_aload_n (i := 0) C dX8_setTimes_29 rfl rfl ?_
    refine px_getr C dX8_setTimes_30 fl_RX8_94 rfl rfl rfl ?_
    refine px_iload (i := 4) C dX8_setTimes_33 rfl ?_
    refine px_callVi (h := 1) (rc' := 0) (rs' := 0) C (HR_le hHR (Nat.le_of_ble_eq_true rfl)) hRt hnT dX8_setTimes_35 (gw4 12 rfl rfl) mv_X7_duration (w7_duration_ok (PCx_l C) (PCx_I C) hk) rfl rfl rfl rfl rfl (Nat.le_of_ble_eq_true rfl) (Nat.le_of_ble_eq_true rfl) (Nat.le_of_ble_eq_true rfl) (Nat.le_of_ble_eq_true rfl) ?_
    intro r7 μ6 hk
    refine px_istore (i := 5) C dX8_setTimes_38 (by decide) rfl ?_
    refine px_aload_n (i := 0) C dX8_setTimes_40 rfl rfl ?_
    refine px_getr C dX8_setTimes_41 fl_RX8_94 rfl rfl rfl ?_
    refine px_getr C dX8_setTimes_44 fl_RX8_168 rfl rfl rfl ?_
    refine px_iload (i := 4) C dX8_setTimes_47 rfl ?_
    refine px_iload_n (i := 2) C dX8_setTimes_49 rfl rfl ?_
    obtain ⟨o8, hk⟩ := hk
    replace hk := hk _ rfl
    refine px_callSv (h := 0) (rc' := 0) (rs' := 0) C (HR_le hHR (Nat.le_of_ble_eq_true rfl)) hRt hnT dX8_setTimes_50 (gw4 3 rfl rfl) ms_X8_set (set_ok (j := 5) (q := 0) (n := 40) (loc := 320) (PCx_l C) (PCx_I C) rfl rfl rfl o8) rfl rfl (Nat.le_of_ble_eq_true rfl) (Nat.le_of_ble_eq_true rfl) (Nat.le_of_ble_eq_true rfl) (Nat.le_of_ble_eq_true rfl) ?_
    rintro _ rfl
    refine px_aload_n (i := 0) C dX8_setTimes_53 rfl rfl ?_
    refine px_getr C dX8_setTimes_54 fl_RX8_94 rfl rfl rfl ?_
    refine px_getr C dX8_setTimes_57 fl_RX8_171 rfl rfl rfl ?_
    refine px_iload (i := 4) C dX8_setTimes_60 rfl ?_
    refine px_iload_n (i := 3) C dX8_setTimes_62 rfl rfl ?_
    obtain ⟨o10, hk⟩ := hk
    replace hk := hk _ rfl
    refine px_callSv (h := 0) (rc' := 0) (rs' := 0) C (HR_le hHR (Nat.le_of_ble_eq_true rfl)) hRt hnT dX8_setTimes_63 (gw4 3 rfl rfl) ms_X8_set (set_ok (j := 6) (q := 0) (n := 40) (loc := 384) (PCx_l C) (PCx_I C) rfl rfl rfl o10) rfl rfl (Nat.le_of_ble_eq_true rfl) (Nat.le_of_ble_eq_true rfl) (Nat.le_of_ble_eq_true rfl) (Nat.le_of_ble_eq_true rfl) ?_
    rintro _ rfl
    refine px_iload (i := 5) C dX8_setTimes_66 rfl ?_
    exact px_iret C hRt dX8_setTimes_68 rfl rfl hk
  · replace hk := hk.2 c12
    exact px_throw (h9 := 1) C (HR_le hHR (Nat.le_of_ble_eq_true rfl)) hRt hnT tk_IllegalArgumentException ti_IllegalArgumentException tw_IllegalArgumentException (by decide +kernel) (List.mem_of_getElem? (i := 5) rfl) dX8_setTimes_15 dX8_setTimes_18 dX8_setTimes_19 dX8_setTimes_21 dX8_setTimes_24 rfl (Nat.le_of_ble_eq_true rfl) (Nat.le_of_ble_eq_true rfl) hk
theorem dX8_mark_0 : decode cX8_mark 0 = .ok (.aload_n 0, 1) := by decide +kernel
theorem dX8_mark_1 : decode cX8_mark 1 = .ok (.iload_n 1, 1) := by decide +kernel
theorem dX8_mark_2 : decode cX8_mark 2 = .ok (.invokevirtual 142, 3) := by decide +kernel
theorem dX8_mark_5 : decode cX8_mark 5 = .ok (.istore_n 3, 1) := by decide +kernel
theorem dX8_mark_6 : decode cX8_mark 6 = .ok (.aload_n 0, 1) := by decide +kernel
theorem dX8_mark_7 : decode cX8_mark 7 = .ok (.invokevirtual 135, 3) := by decide +kernel
theorem dX8_mark_10 : decode cX8_mark 10 = .ok (.aload_n 0, 1) := by decide +kernel
theorem dX8_mark_11 : decode cX8_mark 11 = .ok (.getfield 94, 3) := by decide +kernel
theorem dX8_mark_14 : decode cX8_mark 14 = .ok (.getfield 174, 3) := by decide +kernel
theorem dX8_mark_17 : decode cX8_mark 17 = .ok (.iload_n 3, 1) := by decide +kernel
theorem dX8_mark_18 : decode cX8_mark 18 = .ok (.invokestatic 178, 3) := by decide +kernel
theorem dX8_mark_21 : decode cX8_mark 21 = .ok (.istore 4, 2) := by decide +kernel
theorem dX8_mark_23 : decode cX8_mark 23 = .ok (.aload_n 0, 1) := by decide +kernel
theorem dX8_mark_24 : decode cX8_mark 24 = .ok (.getfield 94, 3) := by decide +kernel
theorem dX8_mark_27 : decode cX8_mark 27 = .ok (.getfield 174, 3) := by decide +kernel
theorem dX8_mark_30 : decode cX8_mark 30 = .ok (.iload_n 3, 1) := by decide +kernel
theorem dX8_mark_31 : decode cX8_mark 31 = .ok (.iload_n 2, 1) := by decide +kernel
theorem dX8_mark_32 : decode cX8_mark 32 = .ok (.invokestatic 182, 3) := by decide +kernel
theorem dX8_mark_35 : decode cX8_mark 35 = .ok (.iload 4, 2) := by decide +kernel
theorem dX8_mark_37 : decode cX8_mark 37 = .ok (.ireturn, 1) := by decide +kernel
set_option maxRecDepth 100000 in
set_option maxHeartbeats 4000000 in
theorem w8_mark_ok {l : Launch} {idx : List (Nat × Nat)} {μ : Mem} {a1 : Int32} {a2 : Int32} {P : Int32 → Mem → Prop} {X : String → Mem → Prop} (hl : l.stackTraces = false) (hI : IdxOK idx) (hk : w8_mark_wp μ a1 a2 P X) : PMet l yX8_mark (.code yX8_mark cX8_mark 5 (some .boolean)) 9 1 6 idx [pR 40 0, pI a1, pI a2] μ (qI P) X := by
  refine PMet_of mv_X8_mark.2.2.2.2.2.2 hl hI mv_X8_mark.2.2.2.1 rfl (Nat.le_of_ble_eq_true rfl) (fun G _ _ C hRt hHR hnT => ?_)
  show PW G 1 6 0 [some (pR 40 0), some (pI a1), some (pI a2), none, none] [] μ
  unfold w8_mark_wp at hk
  refine px_aload_n (i := 0) C dX8_mark_0 rfl rfl ?_
  refine px_iload_n (i := 1) C dX8_mark_1 rfl rfl ?_
  refine px_callVi (h := 8) (rc' := 0) (rs' := 0) C (HR_le hHR (Nat.le_of_ble_eq_true rfl)) hRt hnT dX8_mark_2 (gw3 209 rfl rfl) mv_X8_placeOf (w8_placeOf_ok (PCx_l C) (PCx_I C) hk) rfl rfl rfl rfl rfl (Nat.le_of_ble_eq_true rfl) (Nat.le_of_ble_eq_true rfl) (Nat.le_of_ble_eq_true rfl) (Nat.le_of_ble_eq_true rfl) ?_
  intro r2 μ1 hk
  refine px_istore_n (i := 3) C dX8_mark_5 rfl (by decide) rfl ?_
  refine px_aload_n (i := 0) C dX8_mark_6 rfl rfl ?_
  refine px_callVv (h := 5) (rc' := 0) (rs' := 0) C (HR_le hHR (Nat.le_of_ble_eq_true rfl)) hRt hnT dX8_mark_7 (gw3 162 rfl rfl) mv_X8_startChange (w8_startChange_ok (PCx_l C) (PCx_I C) hk) rfl rfl rfl rfl rfl (Nat.le_of_ble_eq_true rfl) (Nat.le_of_ble_eq_true rfl) (Nat.le_of_ble_eq_true rfl) (Nat.le_of_ble_eq_true rfl) ?_
  intro μ3 hk
  refine px_aload_n (i := 0) C dX8_mark_10 rfl rfl ?_
  refine px_getr C dX8_mark_11 fl_RX8_94 rfl rfl rfl ?_
  refine px_getr C dX8_mark_14 fl_RX8_174 rfl rfl rfl ?_
  refine px_iload_n (i := 3) C dX8_mark_17 rfl rfl ?_
  obtain ⟨o4, o5, hk⟩ := hk
  refine px_callSi (h := 0) (rc' := 0) (rs' := 0) C (HR_le hHR (Nat.le_of_ble_eq_true rfl)) hRt hnT dX8_mark_18 (gw4 23 rfl rfl) ms_X8_flagAt (flagAt_ok2 (j := 7) (q := 0) (n := 40) (loc := 448) (PCx_l C) (PCx_I C) rfl rfl rfl o4 o5) rfl rfl (Nat.le_of_ble_eq_true rfl) (Nat.le_of_ble_eq_true rfl) (Nat.le_of_ble_eq_true rfl) (Nat.le_of_ble_eq_true rfl) ?_
  rintro _ _ ⟨rfl, rfl⟩
  refine px_istore (i := 4) C dX8_mark_21 (by decide) rfl ?_
  refine px_aload_n (i := 0) C dX8_mark_23 rfl rfl ?_
  refine px_getr C dX8_mark_24 fl_RX8_94 rfl rfl rfl ?_
  refine px_getr C dX8_mark_27 fl_RX8_174 rfl rfl rfl ?_
  refine px_iload_n (i := 3) C dX8_mark_30 rfl rfl ?_
  refine px_iload_n (i := 2) C dX8_mark_31 rfl rfl ?_
  obtain ⟨o6, hk⟩ := hk
  replace hk := hk _ rfl
  refine px_callSv (h := 0) (rc' := 0) (rs' := 0) C (HR_le hHR (Nat.le_of_ble_eq_true rfl)) hRt hnT dX8_mark_32 (gw4 24 rfl rfl) ms_X8_setFlag (setFlag_ok (j := 7) (q := 0) (n := 40) (loc := 448) (PCx_l C) (PCx_I C) rfl rfl rfl o6) rfl rfl (Nat.le_of_ble_eq_true rfl) (Nat.le_of_ble_eq_true rfl) (Nat.le_of_ble_eq_true rfl) (Nat.le_of_ble_eq_true rfl) ?_
  rintro _ rfl
  refine px_iload (i := 4) C dX8_mark_35 rfl ?_
  obtain ⟨o8, hk⟩ := hk
  exact px_iret C hRt dX8_mark_37 (nar_z o8) rfl hk
theorem dX8_offset_0 : decode cX8_offset 0 = .ok (.aload_n 0, 1) := by decide +kernel
theorem dX8_offset_1 : decode cX8_offset 1 = .ok (.iload_n 1, 1) := by decide +kernel
theorem dX8_offset_2 : decode cX8_offset 2 = .ok (.invokevirtual 194, 3) := by decide +kernel
theorem dX8_offset_5 : decode cX8_offset 5 = .ok (.aload_n 0, 1) := by decide +kernel
theorem dX8_offset_6 : decode cX8_offset 6 = .ok (.invokevirtual 197, 3) := by decide +kernel
theorem dX8_offset_9 : decode cX8_offset 9 = .ok (.aload_n 0, 1) := by decide +kernel
theorem dX8_offset_10 : decode cX8_offset 10 = .ok (.getfield 90, 3) := by decide +kernel
theorem dX8_offset_13 : decode cX8_offset 13 = .ok (.getfield 200, 3) := by decide +kernel
theorem dX8_offset_16 : decode cX8_offset 16 = .ok (.iload_n 1, 1) := by decide +kernel
theorem dX8_offset_17 : decode cX8_offset 17 = .ok (.invokestatic 155, 3) := by decide +kernel
theorem dX8_offset_20 : decode cX8_offset 20 = .ok (.ireturn, 1) := by decide +kernel
set_option maxRecDepth 100000 in
set_option maxHeartbeats 4000000 in
theorem w8_offset_ok {l : Launch} {idx : List (Nat × Nat)} {μ : Mem} {a1 : Int32} {P : Int32 → Mem → Prop} {X : String → Mem → Prop} (hl : l.stackTraces = false) (hI : IdxOK idx) (hk : w8_offset_wp μ a1 P X) : PMet l yX8_offset (.code yX8_offset cX8_offset 2 (some .int)) 9 1 6 idx [pR 40 0, pI a1] μ (qI P) X := by
  refine PMet_of mv_X8_offset.2.2.2.2.2.2 hl hI mv_X8_offset.2.2.2.1 rfl (Nat.le_of_ble_eq_true rfl) (fun G _ _ C hRt hHR hnT => ?_)
  show PW G 1 6 0 [some (pR 40 0), some (pI a1)] [] μ
  unfold w8_offset_wp at hk
  refine px_aload_n (i := 0) C dX8_offset_0 rfl rfl ?_
  refine px_iload_n (i := 1) C dX8_offset_1 rfl rfl ?_
  refine px_callVv (h := 8) (rc' := 0) (rs' := 0) C (HR_le hHR (Nat.le_of_ble_eq_true rfl)) hRt hnT dX8_offset_2 (gw4 40 rfl rfl) mv_X8_checkService (w8_checkService_ok (PCx_l C) (PCx_I C) hk) rfl rfl rfl rfl rfl (Nat.le_of_ble_eq_true rfl) (Nat.le_of_ble_eq_true rfl) (Nat.le_of_ble_eq_true rfl) (Nat.le_of_ble_eq_true rfl) ?_
  intro μ1 hk
  refine px_aload_n (i := 0) C dX8_offset_5 rfl rfl ?_
  refine px_callVv (h := 4) (rc' := 0) (rs' := 0) C (HR_le hHR (Nat.le_of_ble_eq_true rfl)) hRt hnT dX8_offset_6 (gw2 165 rfl rfl) mv_X8_workOut (w8_workOut_ok (PCx_l C) (PCx_I C) hk) rfl rfl rfl rfl rfl (Nat.le_of_ble_eq_true rfl) (Nat.le_of_ble_eq_true rfl) (Nat.le_of_ble_eq_true rfl) (Nat.le_of_ble_eq_true rfl) ?_
  intro μ2 hk
  refine px_aload_n (i := 0) C dX8_offset_9 rfl rfl ?_
  refine px_getr C dX8_offset_10 fl_RX8_90 rfl rfl rfl ?_
  refine px_getr C dX8_offset_13 fl_RX8_200 rfl rfl rfl ?_
  refine px_iload_n (i := 1) C dX8_offset_16 rfl rfl ?_
  obtain ⟨o3, hk⟩ := hk
  refine px_callSi (h := 0) (rc' := 0) (rs' := 0) C (HR_le hHR (Nat.le_of_ble_eq_true rfl)) hRt hnT dX8_offset_17 (gw4 2 rfl rfl) ms_X8_at (at_ok (j := 14) (q := 0) (n := 8) (loc := 896) (PCx_l C) (PCx_I C) rfl rfl rfl o3) rfl rfl (Nat.le_of_ble_eq_true rfl) (Nat.le_of_ble_eq_true rfl) (Nat.le_of_ble_eq_true rfl) (Nat.le_of_ble_eq_true rfl) ?_
  rintro _ _ ⟨rfl, rfl⟩
  exact px_iret C hRt dX8_offset_20 rfl rfl hk
theorem dX8_freedom_0 : decode cX8_freedom 0 = .ok (.aload_n 0, 1) := by decide +kernel
theorem dX8_freedom_1 : decode cX8_freedom 1 = .ok (.iload_n 1, 1) := by decide +kernel
theorem dX8_freedom_2 : decode cX8_freedom 2 = .ok (.invokevirtual 194, 3) := by decide +kernel
theorem dX8_freedom_5 : decode cX8_freedom 5 = .ok (.aload_n 0, 1) := by decide +kernel
theorem dX8_freedom_6 : decode cX8_freedom 6 = .ok (.invokevirtual 197, 3) := by decide +kernel
theorem dX8_freedom_9 : decode cX8_freedom 9 = .ok (.aload_n 0, 1) := by decide +kernel
theorem dX8_freedom_10 : decode cX8_freedom 10 = .ok (.getfield 90, 3) := by decide +kernel
theorem dX8_freedom_13 : decode cX8_freedom 13 = .ok (.getfield 203, 3) := by decide +kernel
theorem dX8_freedom_16 : decode cX8_freedom 16 = .ok (.iload_n 1, 1) := by decide +kernel
theorem dX8_freedom_17 : decode cX8_freedom 17 = .ok (.invokestatic 155, 3) := by decide +kernel
theorem dX8_freedom_20 : decode cX8_freedom 20 = .ok (.istore_n 2, 1) := by decide +kernel
theorem dX8_freedom_21 : decode cX8_freedom 21 = .ok (.iload_n 2, 1) := by decide +kernel
theorem dX8_freedom_22 : decode cX8_freedom 22 = .ok (.ifCond .ne 13, 3) := by decide +kernel
theorem dX8_freedom_25 : decode cX8_freedom 25 = .ok (.new 206, 3) := by decide +kernel
theorem dX8_freedom_28 : decode cX8_freedom 28 = .ok (.dup, 1) := by decide +kernel
theorem dX8_freedom_29 : decode cX8_freedom 29 = .ok (.ldc 208, 2) := by decide +kernel
theorem dX8_freedom_31 : decode cX8_freedom 31 = .ok (.invokespecial 210, 3) := by decide +kernel
theorem dX8_freedom_34 : decode cX8_freedom 34 = .ok (.athrow, 1) := by decide +kernel
theorem dX8_freedom_35 : decode cX8_freedom 35 = .ok (.iload_n 2, 1) := by decide +kernel
theorem dX8_freedom_36 : decode cX8_freedom 36 = .ok (.ireturn, 1) := by decide +kernel
set_option maxRecDepth 100000 in
set_option maxHeartbeats 4000000 in
theorem w8_freedom_ok {l : Launch} {idx : List (Nat × Nat)} {μ : Mem} {a1 : Int32} {P : Int32 → Mem → Prop} {X : String → Mem → Prop} (hl : l.stackTraces = false) (hI : IdxOK idx) (hk : w8_freedom_wp μ a1 P X) : PMet l yX8_freedom (.code yX8_freedom cX8_freedom 3 (some .int)) 9 2 12 idx [pR 40 0, pI a1] μ (qI P) X := by
  refine PMet_of mv_X8_freedom.2.2.2.2.2.2 hl hI mv_X8_freedom.2.2.2.1 rfl (Nat.le_of_ble_eq_true rfl) (fun G _ _ C hRt hHR hnT => ?_)
  show PW G 2 12 0 [some (pR 40 0), some (pI a1), none] [] μ
  unfold w8_freedom_wp at hk
  refine px_aload_n (i := 0) C dX8_freedom_0 rfl rfl ?_
  refine px_iload_n (i := 1) C dX8_freedom_1 rfl rfl ?_
  refine px_callVv (h := 8) (rc' := 1) (rs' := 6) C (HR_le hHR (Nat.le_of_ble_eq_true rfl)) hRt hnT dX8_freedom_2 (gw4 40 rfl rfl) mv_X8_checkService (w8_checkService_ok (PCx_l C) (PCx_I C) hk) rfl rfl rfl rfl rfl (Nat.le_of_ble_eq_true rfl) (Nat.le_of_ble_eq_true rfl) (Nat.le_of_ble_eq_true rfl) (Nat.le_of_ble_eq_true rfl) ?_
  intro μ1 hk
  refine px_aload_n (i := 0) C dX8_freedom_5 rfl rfl ?_
  refine px_callVv (h := 4) (rc' := 1) (rs' := 6) C (HR_le hHR (Nat.le_of_ble_eq_true rfl)) hRt hnT dX8_freedom_6 (gw2 165 rfl rfl) mv_X8_workOut (w8_workOut_ok (PCx_l C) (PCx_I C) hk) rfl rfl rfl rfl rfl (Nat.le_of_ble_eq_true rfl) (Nat.le_of_ble_eq_true rfl) (Nat.le_of_ble_eq_true rfl) (Nat.le_of_ble_eq_true rfl) ?_
  intro μ2 hk
  refine px_aload_n (i := 0) C dX8_freedom_9 rfl rfl ?_
  refine px_getr C dX8_freedom_10 fl_RX8_90 rfl rfl rfl ?_
  refine px_getr C dX8_freedom_13 fl_RX8_203 rfl rfl rfl ?_
  refine px_iload_n (i := 1) C dX8_freedom_16 rfl rfl ?_
  obtain ⟨o3, hk⟩ := hk
  refine px_callSi (h := 0) (rc' := 1) (rs' := 6) C (HR_le hHR (Nat.le_of_ble_eq_true rfl)) hRt hnT dX8_freedom_17 (gw4 2 rfl rfl) ms_X8_at (at_ok (j := 15) (q := 0) (n := 8) (loc := 960) (PCx_l C) (PCx_I C) rfl rfl rfl o3) rfl rfl (Nat.le_of_ble_eq_true rfl) (Nat.le_of_ble_eq_true rfl) (Nat.le_of_ble_eq_true rfl) (Nat.le_of_ble_eq_true rfl) ?_
  rintro _ _ ⟨rfl, rfl⟩
  refine px_istore_n (i := 2) C dX8_freedom_20 rfl (by decide) rfl ?_
  refine px_iload_n (i := 2) C dX8_freedom_21 rfl rfl ?_
  refine px_if_ne (tgt := 35) C dX8_freedom_22 (by decide) (fun c4 => ?_) (fun c4 => ?_)
  · replace hk := hk.1 c4
    refine px_iload_n (i := 2) C dX8_freedom_35 rfl rfl ?_
    exact px_iret C hRt dX8_freedom_36 rfl rfl hk
  · replace hk := hk.2 c4
    exact px_throwN (h9 := 1) C (HR_le hHR (Nat.le_of_ble_eq_true rfl)) hRt hnT tk_NoSuchElementException ti_NoSuchElementException (List.mem_of_getElem? (i := 8) rfl) rfl dX8_freedom_25 dX8_freedom_28 dX8_freedom_29 dX8_freedom_31 dX8_freedom_34 rfl (Nat.le_of_ble_eq_true rfl) (Nat.le_of_ble_eq_true rfl) hk
theorem dX8_pairs_0 : decode cX8_pairs 0 = .ok (.aload_n 0, 1) := by decide +kernel
theorem dX8_pairs_1 : decode cX8_pairs 1 = .ok (.invokevirtual 197, 3) := by decide +kernel
theorem dX8_pairs_4 : decode cX8_pairs 4 = .ok (.aload_n 0, 1) := by decide +kernel
theorem dX8_pairs_5 : decode cX8_pairs 5 = .ok (.getfield 90, 3) := by decide +kernel
theorem dX8_pairs_8 : decode cX8_pairs 8 = .ok (.iload_n 1, 1) := by decide +kernel
theorem dX8_pairs_9 : decode cX8_pairs 9 = .ok (.ifCond .eq 7, 3) := by decide +kernel
theorem dX8_pairs_12 : decode cX8_pairs 12 = .ok (.iconst 1, 1) := by decide +kernel
theorem dX8_pairs_13 : decode cX8_pairs 13 = .ok (.goto 4, 3) := by decide +kernel
theorem dX8_pairs_16 : decode cX8_pairs 16 = .ok (.iconst 2, 1) := by decide +kernel
theorem dX8_pairs_17 : decode cX8_pairs 17 = .ok (.invokevirtual 211, 3) := by decide +kernel
theorem dX8_pairs_20 : decode cX8_pairs 20 = .ok (.ireturn, 1) := by decide +kernel
set_option maxRecDepth 100000 in
set_option maxHeartbeats 4000000 in
theorem w8_pairs_ok {l : Launch} {idx : List (Nat × Nat)} {μ : Mem} {a1 : Int32} {P : Int32 → Mem → Prop} {X : String → Mem → Prop} (hl : l.stackTraces = false) (hI : IdxOK idx) (hk : w8_pairs_wp μ a1 P) : PMet l yX8_pairs (.code yX8_pairs cX8_pairs 2 (some .int)) 5 0 0 idx [pR 40 0, pI a1] μ (qI P) X := by
  refine PMet_of mv_X8_pairs.2.2.2.2.2.2 hl hI mv_X8_pairs.2.2.2.1 rfl (Nat.le_of_ble_eq_true rfl) (fun G _ _ C hRt hHR hnT => ?_)
  show PW G 0 0 0 [some (pR 40 0), some (pI a1)] [] μ
  unfold w8_pairs_wp at hk
  refine px_aload_n (i := 0) C dX8_pairs_0 rfl rfl ?_
  refine px_callVv (h := 4) (rc' := 0) (rs' := 0) C (HR_le hHR (Nat.le_of_ble_eq_true rfl)) hRt hnT dX8_pairs_1 (gw2 165 rfl rfl) mv_X8_workOut (w8_workOut_ok (PCx_l C) (PCx_I C) hk) rfl rfl rfl rfl rfl (Nat.le_of_ble_eq_true rfl) (Nat.le_of_ble_eq_true rfl) (Nat.le_of_ble_eq_true rfl) (Nat.le_of_ble_eq_true rfl) ?_
  intro μ1 hk
  refine px_aload_n (i := 0) C dX8_pairs_4 rfl rfl ?_
  refine px_getr C dX8_pairs_5 fl_RX8_90 rfl rfl rfl ?_
  refine px_iload_n (i := 1) C dX8_pairs_8 rfl rfl ?_
  refine px_if_eq (tgt := 16) C dX8_pairs_9 (by decide) (fun c6 => ?_) (fun c6 => ?_)
  · replace hk := hk.1 c6
    refine px_iconst (v := (2 : Int32)) C dX8_pairs_16 rfl ?_
    refine px_callVi (h := 1) (rc' := 0) (rs' := 0) C (HR_le hHR (Nat.le_of_ble_eq_true rfl)) hRt hnT dX8_pairs_17 (gw3 16 rfl rfl) mv_X0_countVerdicts (w0_countVerdicts_ok (PCx_l C) (PCx_I C) hk) rfl rfl rfl rfl rfl (Nat.le_of_ble_eq_true rfl) (Nat.le_of_ble_eq_true rfl) (Nat.le_of_ble_eq_true rfl) (Nat.le_of_ble_eq_true rfl) ?_
    intro r3 μ2 hk
    exact px_iret C hRt dX8_pairs_20 rfl rfl hk
  · replace hk := hk.2 c6
    refine px_iconst (v := (1 : Int32)) C dX8_pairs_12 rfl ?_
    refine px_goto (tgt := 17) C dX8_pairs_13 (by decide) ?_
    refine px_callVi (h := 1) (rc' := 0) (rs' := 0) C (HR_le hHR (Nat.le_of_ble_eq_true rfl)) hRt hnT dX8_pairs_17 (gw3 16 rfl rfl) mv_X0_countVerdicts (w0_countVerdicts_ok (PCx_l C) (PCx_I C) hk) rfl rfl rfl rfl rfl (Nat.le_of_ble_eq_true rfl) (Nat.le_of_ble_eq_true rfl) (Nat.le_of_ble_eq_true rfl) (Nat.le_of_ble_eq_true rfl) ?_
    intro r5 μ4 hk
    exact px_iret C hRt dX8_pairs_20 rfl rfl hk
theorem dX8_isAccepted_0 : decode cX8_isAccepted 0 = .ok (.aload_n 0, 1) := by decide +kernel
theorem dX8_isAccepted_1 : decode cX8_isAccepted 1 = .ok (.iload_n 1, 1) := by decide +kernel
theorem dX8_isAccepted_2 : decode cX8_isAccepted 2 = .ok (.invokevirtual 142, 3) := by decide +kernel
theorem dX8_isAccepted_5 : decode cX8_isAccepted 5 = .ok (.istore_n 2, 1) := by decide +kernel
theorem dX8_isAccepted_6 : decode cX8_isAccepted 6 = .ok (.aload_n 0, 1) := by decide +kernel
theorem dX8_isAccepted_7 : decode cX8_isAccepted 7 = .ok (.invokevirtual 197, 3) := by decide +kernel
theorem dX8_isAccepted_10 : decode cX8_isAccepted 10 = .ok (.aload_n 0, 1) := by decide +kernel
theorem dX8_isAccepted_11 : decode cX8_isAccepted 11 = .ok (.getfield 90, 3) := by decide +kernel
theorem dX8_isAccepted_14 : decode cX8_isAccepted 14 = .ok (.getfield 214, 3) := by decide +kernel
theorem dX8_isAccepted_17 : decode cX8_isAccepted 17 = .ok (.iload_n 2, 1) := by decide +kernel
theorem dX8_isAccepted_18 : decode cX8_isAccepted 18 = .ok (.invokestatic 155, 3) := by decide +kernel
theorem dX8_isAccepted_21 : decode cX8_isAccepted 21 = .ok (.istore_n 3, 1) := by decide +kernel
theorem dX8_isAccepted_22 : decode cX8_isAccepted 22 = .ok (.iload_n 3, 1) := by decide +kernel
theorem dX8_isAccepted_23 : decode cX8_isAccepted 23 = .ok (.ifCond .ne 13, 3) := by decide +kernel
theorem dX8_isAccepted_26 : decode cX8_isAccepted 26 = .ok (.new 206, 3) := by decide +kernel
theorem dX8_isAccepted_29 : decode cX8_isAccepted 29 = .ok (.dup, 1) := by decide +kernel
theorem dX8_isAccepted_30 : decode cX8_isAccepted 30 = .ok (.ldc 217, 2) := by decide +kernel
theorem dX8_isAccepted_32 : decode cX8_isAccepted 32 = .ok (.invokespecial 210, 3) := by decide +kernel
theorem dX8_isAccepted_35 : decode cX8_isAccepted 35 = .ok (.athrow, 1) := by decide +kernel
theorem dX8_isAccepted_36 : decode cX8_isAccepted 36 = .ok (.iload_n 3, 1) := by decide +kernel
theorem dX8_isAccepted_37 : decode cX8_isAccepted 37 = .ok (.iconst 1, 1) := by decide +kernel
theorem dX8_isAccepted_38 : decode cX8_isAccepted 38 = .ok (.if_icmp .ne 7, 3) := by decide +kernel
theorem dX8_isAccepted_41 : decode cX8_isAccepted 41 = .ok (.iconst 1, 1) := by decide +kernel
theorem dX8_isAccepted_42 : decode cX8_isAccepted 42 = .ok (.goto 4, 3) := by decide +kernel
theorem dX8_isAccepted_45 : decode cX8_isAccepted 45 = .ok (.iconst 0, 1) := by decide +kernel
theorem dX8_isAccepted_46 : decode cX8_isAccepted 46 = .ok (.ireturn, 1) := by decide +kernel
set_option maxRecDepth 100000 in
set_option maxHeartbeats 4000000 in
theorem w8_isAccepted_ok {l : Launch} {idx : List (Nat × Nat)} {μ : Mem} {a1 : Int32} {P : Int32 → Mem → Prop} {X : String → Mem → Prop} (hl : l.stackTraces = false) (hI : IdxOK idx) (hk : w8_isAccepted_wp μ a1 P X) : PMet l yX8_isAccepted (.code yX8_isAccepted cX8_isAccepted 4 (some .boolean)) 9 2 12 idx [pR 40 0, pI a1] μ (qI P) X := by
  refine PMet_of mv_X8_isAccepted.2.2.2.2.2.2 hl hI mv_X8_isAccepted.2.2.2.1 rfl (Nat.le_of_ble_eq_true rfl) (fun G _ _ C hRt hHR hnT => ?_)
  show PW G 2 12 0 [some (pR 40 0), some (pI a1), none, none] [] μ
  unfold w8_isAccepted_wp at hk
  refine px_aload_n (i := 0) C dX8_isAccepted_0 rfl rfl ?_
  refine px_iload_n (i := 1) C dX8_isAccepted_1 rfl rfl ?_
  refine px_callVi (h := 8) (rc' := 1) (rs' := 6) C (HR_le hHR (Nat.le_of_ble_eq_true rfl)) hRt hnT dX8_isAccepted_2 (gw3 209 rfl rfl) mv_X8_placeOf (w8_placeOf_ok (PCx_l C) (PCx_I C) hk) rfl rfl rfl rfl rfl (Nat.le_of_ble_eq_true rfl) (Nat.le_of_ble_eq_true rfl) (Nat.le_of_ble_eq_true rfl) (Nat.le_of_ble_eq_true rfl) ?_
  intro r2 μ1 hk
  refine px_istore_n (i := 2) C dX8_isAccepted_5 rfl (by decide) rfl ?_
  refine px_aload_n (i := 0) C dX8_isAccepted_6 rfl rfl ?_
  refine px_callVv (h := 4) (rc' := 1) (rs' := 6) C (HR_le hHR (Nat.le_of_ble_eq_true rfl)) hRt hnT dX8_isAccepted_7 (gw2 165 rfl rfl) mv_X8_workOut (w8_workOut_ok (PCx_l C) (PCx_I C) hk) rfl rfl rfl rfl rfl (Nat.le_of_ble_eq_true rfl) (Nat.le_of_ble_eq_true rfl) (Nat.le_of_ble_eq_true rfl) (Nat.le_of_ble_eq_true rfl) ?_
  intro μ3 hk
  refine px_aload_n (i := 0) C dX8_isAccepted_10 rfl rfl ?_
  refine px_getr C dX8_isAccepted_11 fl_RX8_90 rfl rfl rfl ?_
  refine px_getr C dX8_isAccepted_14 fl_RX8_214 rfl rfl rfl ?_
  refine px_iload_n (i := 2) C dX8_isAccepted_17 rfl rfl ?_
  obtain ⟨o4, hk⟩ := hk
  refine px_callSi (h := 0) (rc' := 1) (rs' := 6) C (HR_le hHR (Nat.le_of_ble_eq_true rfl)) hRt hnT dX8_isAccepted_18 (gw4 2 rfl rfl) ms_X8_at (at_ok (j := 13) (q := 0) (n := 40) (loc := 832) (PCx_l C) (PCx_I C) rfl rfl rfl o4) rfl rfl (Nat.le_of_ble_eq_true rfl) (Nat.le_of_ble_eq_true rfl) (Nat.le_of_ble_eq_true rfl) (Nat.le_of_ble_eq_true rfl) ?_
  rintro _ _ ⟨rfl, rfl⟩
  refine px_istore_n (i := 3) C dX8_isAccepted_21 rfl (by decide) rfl ?_
  refine px_iload_n (i := 3) C dX8_isAccepted_22 rfl rfl ?_
  refine px_if_ne (tgt := 36) C dX8_isAccepted_23 (by decide) (fun c6 => ?_) (fun c6 => ?_)
  · replace hk := hk.1 c6
    refine px_iload_n (i := 3) C dX8_isAccepted_36 rfl rfl ?_
    refine px_iconst (v := (1 : Int32)) C dX8_isAccepted_37 rfl ?_
    refine px_icmp_ne (tgt := 45) C dX8_isAccepted_38 (by decide) (fun c5 => ?_) (fun c5 => ?_)
    · replace hk := hk.1 c5
      refine px_iconst (v := (0 : Int32)) C dX8_isAccepted_45 rfl ?_
      exact px_iret C hRt dX8_isAccepted_46 rfl rfl hk
    · replace hk := hk.2 c5
      refine px_iconst (v := (1 : Int32)) C dX8_isAccepted_41 rfl ?_
      refine px_goto (tgt := 46) C dX8_isAccepted_42 (by decide) ?_
      exact px_iret C hRt dX8_isAccepted_46 rfl rfl hk
  · replace hk := hk.2 c6
    exact px_throwN (h9 := 1) C (HR_le hHR (Nat.le_of_ble_eq_true rfl)) hRt hnT tk_NoSuchElementException ti_NoSuchElementException (List.mem_of_getElem? (i := 9) rfl) rfl dX8_isAccepted_26 dX8_isAccepted_29 dX8_isAccepted_30 dX8_isAccepted_32 dX8_isAccepted_35 rfl (Nat.le_of_ble_eq_true rfl) (Nat.le_of_ble_eq_true rfl) hk
theorem dX8_isInside_0 : decode cX8_isInside 0 = .ok (.aload_n 0, 1) := by decide +kernel
theorem dX8_isInside_1 : decode cX8_isInside 1 = .ok (.iload_n 1, 1) := by decide +kernel
theorem dX8_isInside_2 : decode cX8_isInside 2 = .ok (.invokevirtual 142, 3) := by decide +kernel
theorem dX8_isInside_5 : decode cX8_isInside 5 = .ok (.istore_n 2, 1) := by decide +kernel
theorem dX8_isInside_6 : decode cX8_isInside 6 = .ok (.aload_n 0, 1) := by decide +kernel
theorem dX8_isInside_7 : decode cX8_isInside 7 = .ok (.invokevirtual 197, 3) := by decide +kernel
theorem dX8_isInside_10 : decode cX8_isInside 10 = .ok (.aload_n 0, 1) := by decide +kernel
theorem dX8_isInside_11 : decode cX8_isInside 11 = .ok (.getfield 86, 3) := by decide +kernel
theorem dX8_isInside_14 : decode cX8_isInside 14 = .ok (.getfield 219, 3) := by decide +kernel
theorem dX8_isInside_17 : decode cX8_isInside 17 = .ok (.iload_n 2, 1) := by decide +kernel
theorem dX8_isInside_18 : decode cX8_isInside 18 = .ok (.invokestatic 155, 3) := by decide +kernel
theorem dX8_isInside_21 : decode cX8_isInside 21 = .ok (.istore_n 3, 1) := by decide +kernel
theorem dX8_isInside_22 : decode cX8_isInside 22 = .ok (.iload_n 3, 1) := by decide +kernel
theorem dX8_isInside_23 : decode cX8_isInside 23 = .ok (.bipush 40, 2) := by decide +kernel
theorem dX8_isInside_25 : decode cX8_isInside 25 = .ok (.invokestatic 106, 3) := by decide +kernel
theorem dX8_isInside_28 : decode cX8_isInside 28 = .ok (.ifCond .ne 13, 3) := by decide +kernel
theorem dX8_isInside_31 : decode cX8_isInside 31 = .ok (.new 206, 3) := by decide +kernel
theorem dX8_isInside_34 : decode cX8_isInside 34 = .ok (.dup, 1) := by decide +kernel
theorem dX8_isInside_35 : decode cX8_isInside 35 = .ok (.ldc 222, 2) := by decide +kernel
theorem dX8_isInside_37 : decode cX8_isInside 37 = .ok (.invokespecial 210, 3) := by decide +kernel
theorem dX8_isInside_40 : decode cX8_isInside 40 = .ok (.athrow, 1) := by decide +kernel
theorem dX8_isInside_41 : decode cX8_isInside 41 = .ok (.aload_n 0, 1) := by decide +kernel
theorem dX8_isInside_42 : decode cX8_isInside 42 = .ok (.getfield 86, 3) := by decide +kernel
theorem dX8_isInside_45 : decode cX8_isInside 45 = .ok (.getfield 224, 3) := by decide +kernel
theorem dX8_isInside_48 : decode cX8_isInside 48 = .ok (.iload_n 2, 1) := by decide +kernel
theorem dX8_isInside_49 : decode cX8_isInside 49 = .ok (.invokestatic 155, 3) := by decide +kernel
theorem dX8_isInside_52 : decode cX8_isInside 52 = .ok (.aload_n 0, 1) := by decide +kernel
theorem dX8_isInside_53 : decode cX8_isInside 53 = .ok (.getfield 86, 3) := by decide +kernel
theorem dX8_isInside_56 : decode cX8_isInside 56 = .ok (.getfield 224, 3) := by decide +kernel
theorem dX8_isInside_59 : decode cX8_isInside 59 = .ok (.iload_n 3, 1) := by decide +kernel
theorem dX8_isInside_60 : decode cX8_isInside 60 = .ok (.invokestatic 155, 3) := by decide +kernel
theorem dX8_isInside_63 : decode cX8_isInside 63 = .ok (.if_icmp .lt 32, 3) := by decide +kernel
theorem dX8_isInside_66 : decode cX8_isInside 66 = .ok (.aload_n 0, 1) := by decide +kernel
theorem dX8_isInside_67 : decode cX8_isInside 67 = .ok (.getfield 86, 3) := by decide +kernel
theorem dX8_isInside_70 : decode cX8_isInside 70 = .ok (.getfield 225, 3) := by decide +kernel
theorem dX8_isInside_73 : decode cX8_isInside 73 = .ok (.iload_n 2, 1) := by decide +kernel
theorem dX8_isInside_74 : decode cX8_isInside 74 = .ok (.invokestatic 155, 3) := by decide +kernel
theorem dX8_isInside_77 : decode cX8_isInside 77 = .ok (.aload_n 0, 1) := by decide +kernel
theorem dX8_isInside_78 : decode cX8_isInside 78 = .ok (.getfield 86, 3) := by decide +kernel
theorem dX8_isInside_81 : decode cX8_isInside 81 = .ok (.getfield 225, 3) := by decide +kernel
theorem dX8_isInside_84 : decode cX8_isInside 84 = .ok (.iload_n 3, 1) := by decide +kernel
theorem dX8_isInside_85 : decode cX8_isInside 85 = .ok (.invokestatic 155, 3) := by decide +kernel
theorem dX8_isInside_88 : decode cX8_isInside 88 = .ok (.if_icmp .gt 7, 3) := by decide +kernel
theorem dX8_isInside_91 : decode cX8_isInside 91 = .ok (.iconst 1, 1) := by decide +kernel
theorem dX8_isInside_92 : decode cX8_isInside 92 = .ok (.goto 4, 3) := by decide +kernel
theorem dX8_isInside_95 : decode cX8_isInside 95 = .ok (.iconst 0, 1) := by decide +kernel
theorem dX8_isInside_96 : decode cX8_isInside 96 = .ok (.ireturn, 1) := by decide +kernel
set_option maxRecDepth 100000 in
set_option maxHeartbeats 4000000 in
theorem w8_isInside_ok {l : Launch} {idx : List (Nat × Nat)} {μ : Mem} {a1 : Int32} {P : Int32 → Mem → Prop} {X : String → Mem → Prop} (hl : l.stackTraces = false) (hI : IdxOK idx) (hk : w8_isInside_wp μ a1 P X) : PMet l yX8_isInside (.code yX8_isInside cX8_isInside 4 (some .boolean)) 9 2 12 idx [pR 40 0, pI a1] μ (qI P) X := by
  refine PMet_of mv_X8_isInside.2.2.2.2.2.2 hl hI mv_X8_isInside.2.2.2.1 rfl (Nat.le_of_ble_eq_true rfl) (fun G _ _ C hRt hHR hnT => ?_)
  show PW G 2 12 0 [some (pR 40 0), some (pI a1), none, none] [] μ
  unfold w8_isInside_wp at hk
  refine px_aload_n (i := 0) C dX8_isInside_0 rfl rfl ?_
  refine px_iload_n (i := 1) C dX8_isInside_1 rfl rfl ?_
  refine px_callVi (h := 8) (rc' := 1) (rs' := 6) C (HR_le hHR (Nat.le_of_ble_eq_true rfl)) hRt hnT dX8_isInside_2 (gw3 209 rfl rfl) mv_X8_placeOf (w8_placeOf_ok (PCx_l C) (PCx_I C) hk) rfl rfl rfl rfl rfl (Nat.le_of_ble_eq_true rfl) (Nat.le_of_ble_eq_true rfl) (Nat.le_of_ble_eq_true rfl) (Nat.le_of_ble_eq_true rfl) ?_
  intro r2 μ1 hk
  refine px_istore_n (i := 2) C dX8_isInside_5 rfl (by decide) rfl ?_
  refine px_aload_n (i := 0) C dX8_isInside_6 rfl rfl ?_
  refine px_callVv (h := 4) (rc' := 1) (rs' := 6) C (HR_le hHR (Nat.le_of_ble_eq_true rfl)) hRt hnT dX8_isInside_7 (gw2 165 rfl rfl) mv_X8_workOut (w8_workOut_ok (PCx_l C) (PCx_I C) hk) rfl rfl rfl rfl rfl (Nat.le_of_ble_eq_true rfl) (Nat.le_of_ble_eq_true rfl) (Nat.le_of_ble_eq_true rfl) (Nat.le_of_ble_eq_true rfl) ?_
  intro μ3 hk
  refine px_aload_n (i := 0) C dX8_isInside_10 rfl rfl ?_
  refine px_getr C dX8_isInside_11 fl_RX8_86 rfl rfl rfl ?_
  refine px_getr C dX8_isInside_14 fl_RX8_219 rfl rfl rfl ?_
  refine px_iload_n (i := 2) C dX8_isInside_17 rfl rfl ?_
  obtain ⟨o4, hk⟩ := hk
  refine px_callSi (h := 0) (rc' := 1) (rs' := 6) C (HR_le hHR (Nat.le_of_ble_eq_true rfl)) hRt hnT dX8_isInside_18 (gw4 2 rfl rfl) ms_X8_at (at_ok (j := 21) (q := 0) (n := 40) (loc := 1344) (PCx_l C) (PCx_I C) rfl rfl rfl o4) rfl rfl (Nat.le_of_ble_eq_true rfl) (Nat.le_of_ble_eq_true rfl) (Nat.le_of_ble_eq_true rfl) (Nat.le_of_ble_eq_true rfl) ?_
  rintro _ _ ⟨rfl, rfl⟩
  refine px_istore_n (i := 3) C dX8_isInside_21 rfl (by decide) rfl ?_
  refine px_iload_n (i := 3) C dX8_isInside_22 rfl rfl ?_
  refine px_bipush (v := (40 : Int32)) C dX8_isInside_23 rfl ?_
  refine px_callSi (h := 0) (rc' := 1) (rs' := 6) C (HR_le hHR (Nat.le_of_ble_eq_true rfl)) hRt hnT dX8_isInside_25 (gw3 65 rfl rfl) ms_X8_isWithin (w8_isWithin_ok (PCx_l C) (PCx_I C) hk) rfl rfl (Nat.le_of_ble_eq_true rfl) (Nat.le_of_ble_eq_true rfl) (Nat.le_of_ble_eq_true rfl) (Nat.le_of_ble_eq_true rfl) ?_
  intro r6 μ5 hk
  refine px_if_ne (tgt := 41) C dX8_isInside_28 (by decide) (fun c13 => ?_) (fun c13 => ?_)
  · replace hk := hk.1 c13
    refine px_aload_n (i := 0) C dX8_isInside_41 rfl rfl ?_
    refine px_getr C dX8_isInside_42 fl_RX8_86 rfl rfl rfl ?_
    refine px_getr C dX8_isInside_45 fl_RX8_224 rfl rfl rfl ?_
    refine px_iload_n (i := 2) C dX8_isInside_48 rfl rfl ?_
    obtain ⟨o7, hk⟩ := hk
    refine px_callSi (h := 0) (rc' := 0) (rs' := 0) C (HR_le hHR (Nat.le_of_ble_eq_true rfl)) hRt hnT dX8_isInside_49 (gw4 2 rfl rfl) ms_X8_at (at_ok (j := 19) (q := 0) (n := 40) (loc := 1216) (PCx_l C) (PCx_I C) rfl rfl rfl o7) rfl rfl (Nat.le_of_ble_eq_true rfl) (Nat.le_of_ble_eq_true rfl) (Nat.le_of_ble_eq_true rfl) (Nat.le_of_ble_eq_true rfl) ?_
    rintro _ _ ⟨rfl, rfl⟩
    refine px_aload_n (i := 0) C dX8_isInside_52 rfl rfl ?_
    refine px_getr C dX8_isInside_53 fl_RX8_86 rfl rfl rfl ?_
    refine px_getr C dX8_isInside_56 fl_RX8_224 rfl rfl rfl ?_
    refine px_iload_n (i := 3) C dX8_isInside_59 rfl rfl ?_
    obtain ⟨o8, hk⟩ := hk
    refine px_callSi (h := 0) (rc' := 0) (rs' := 0) C (HR_le hHR (Nat.le_of_ble_eq_true rfl)) hRt hnT dX8_isInside_60 (gw4 2 rfl rfl) ms_X8_at (at_ok (j := 19) (q := 0) (n := 40) (loc := 1216) (PCx_l C) (PCx_I C) rfl rfl rfl o8) rfl rfl (Nat.le_of_ble_eq_true rfl) (Nat.le_of_ble_eq_true rfl) (Nat.le_of_ble_eq_true rfl) (Nat.le_of_ble_eq_true rfl) ?_
    rintro _ _ ⟨rfl, rfl⟩
    refine px_icmp_lt (tgt := 95) C dX8_isInside_63 (by decide) (fun c12 => ?_) (fun c12 => ?_)
    · replace hk := hk.1 c12
      refine px_iconst (v := (0 : Int32)) C dX8_isInside_95 rfl ?_
      exact px_iret C hRt dX8_isInside_96 rfl rfl hk
    · replace hk := hk.2 c12
      refine px_aload_n (i := 0) C dX8_isInside_66 rfl rfl ?_
      refine px_getr C dX8_isInside_67 fl_RX8_86 rfl rfl rfl ?_
      refine px_getr C dX8_isInside_70 fl_RX8_225 rfl rfl rfl ?_
      refine px_iload_n (i := 2) C dX8_isInside_73 rfl rfl ?_
      obtain ⟨o9, hk⟩ := hk
      refine px_callSi (h := 0) (rc' := 0) (rs' := 0) C (HR_le hHR (Nat.le_of_ble_eq_true rfl)) hRt hnT dX8_isInside_74 (gw4 2 rfl rfl) ms_X8_at (at_ok (j := 20) (q := 0) (n := 40) (loc := 1280) (PCx_l C) (PCx_I C) rfl rfl rfl o9) rfl rfl (Nat.le_of_ble_eq_true rfl) (Nat.le_of_ble_eq_true rfl) (Nat.le_of_ble_eq_true rfl) (Nat.le_of_ble_eq_true rfl) ?_
      rintro _ _ ⟨rfl, rfl⟩
      refine px_aload_n (i := 0) C dX8_isInside_77 rfl rfl ?_
      refine px_getr C dX8_isInside_78 fl_RX8_86 rfl rfl rfl ?_
      refine px_getr C dX8_isInside_81 fl_RX8_225 rfl rfl rfl ?_
      refine px_iload_n (i := 3) C dX8_isInside_84 rfl rfl ?_
      obtain ⟨o10, hk⟩ := hk
      refine px_callSi (h := 0) (rc' := 0) (rs' := 0) C (HR_le hHR (Nat.le_of_ble_eq_true rfl)) hRt hnT dX8_isInside_85 (gw4 2 rfl rfl) ms_X8_at (at_ok (j := 20) (q := 0) (n := 40) (loc := 1280) (PCx_l C) (PCx_I C) rfl rfl rfl o10) rfl rfl (Nat.le_of_ble_eq_true rfl) (Nat.le_of_ble_eq_true rfl) (Nat.le_of_ble_eq_true rfl) (Nat.le_of_ble_eq_true rfl) ?_
      rintro _ _ ⟨rfl, rfl⟩
      refine px_icmp_gt (tgt := 95) C dX8_isInside_88 (by decide) (fun c11 => ?_) (fun c11 => ?_)
      · replace hk := hk.1 c11
        refine px_iconst (v := (0 : Int32)) C dX8_isInside_95 rfl ?_
        exact px_iret C hRt dX8_isInside_96 rfl rfl hk
      · replace hk := hk.2 c11
        refine px_iconst (v := (1 : Int32)) C dX8_isInside_91 rfl ?_
        refine px_goto (tgt := 96) C dX8_isInside_92 (by decide) ?_
        exact px_iret C hRt dX8_isInside_96 rfl rfl hk
  · replace hk := hk.2 c13
    exact px_throwN (h9 := 1) C (HR_le hHR (Nat.le_of_ble_eq_true rfl)) hRt hnT tk_NoSuchElementException ti_NoSuchElementException (List.mem_of_getElem? (i := 10) rfl) rfl dX8_isInside_31 dX8_isInside_34 dX8_isInside_35 dX8_isInside_37 dX8_isInside_40 rfl (Nat.le_of_ble_eq_true rfl) (Nat.le_of_ble_eq_true rfl) hk
theorem dX8_corrected_0 : decode cX8_corrected 0 = .ok (.aload_n 0, 1) := by decide +kernel
theorem dX8_corrected_1 : decode cX8_corrected 1 = .ok (.iload_n 1, 1) := by decide +kernel
theorem dX8_corrected_2 : decode cX8_corrected 2 = .ok (.invokevirtual 142, 3) := by decide +kernel
theorem dX8_corrected_5 : decode cX8_corrected 5 = .ok (.istore_n 3, 1) := by decide +kernel
theorem dX8_corrected_6 : decode cX8_corrected 6 = .ok (.aload_n 0, 1) := by decide +kernel
theorem dX8_corrected_7 : decode cX8_corrected 7 = .ok (.invokevirtual 197, 3) := by decide +kernel
theorem dX8_corrected_10 : decode cX8_corrected 10 = .ok (.iload_n 2, 1) := by decide +kernel
theorem dX8_corrected_11 : decode cX8_corrected 11 = .ok (.ifCond .eq 17, 3) := by decide +kernel
theorem dX8_corrected_14 : decode cX8_corrected 14 = .ok (.aload_n 0, 1) := by decide +kernel
theorem dX8_corrected_15 : decode cX8_corrected 15 = .ok (.getfield 86, 3) := by decide +kernel
theorem dX8_corrected_18 : decode cX8_corrected 18 = .ok (.getfield 225, 3) := by decide +kernel
theorem dX8_corrected_21 : decode cX8_corrected 21 = .ok (.iload_n 3, 1) := by decide +kernel
theorem dX8_corrected_22 : decode cX8_corrected 22 = .ok (.invokestatic 155, 3) := by decide +kernel
theorem dX8_corrected_25 : decode cX8_corrected 25 = .ok (.goto 14, 3) := by decide +kernel
theorem dX8_corrected_28 : decode cX8_corrected 28 = .ok (.aload_n 0, 1) := by decide +kernel
theorem dX8_corrected_29 : decode cX8_corrected 29 = .ok (.getfield 86, 3) := by decide +kernel
theorem dX8_corrected_32 : decode cX8_corrected 32 = .ok (.getfield 224, 3) := by decide +kernel
theorem dX8_corrected_35 : decode cX8_corrected 35 = .ok (.iload_n 3, 1) := by decide +kernel
theorem dX8_corrected_36 : decode cX8_corrected 36 = .ok (.invokestatic 155, 3) := by decide +kernel
theorem dX8_corrected_39 : decode cX8_corrected 39 = .ok (.ireturn, 1) := by decide +kernel
set_option maxRecDepth 100000 in
set_option maxHeartbeats 4000000 in
theorem w8_corrected_ok {l : Launch} {idx : List (Nat × Nat)} {μ : Mem} {a1 : Int32} {a2 : Int32} {P : Int32 → Mem → Prop} {X : String → Mem → Prop} (hl : l.stackTraces = false) (hI : IdxOK idx) (hk : w8_corrected_wp μ a1 a2 P X) : PMet l yX8_corrected (.code yX8_corrected cX8_corrected 4 (some .int)) 9 1 6 idx [pR 40 0, pI a1, pI a2] μ (qI P) X := by
  refine PMet_of mv_X8_corrected.2.2.2.2.2.2 hl hI mv_X8_corrected.2.2.2.1 rfl (Nat.le_of_ble_eq_true rfl) (fun G _ _ C hRt hHR hnT => ?_)
  show PW G 1 6 0 [some (pR 40 0), some (pI a1), some (pI a2), none] [] μ
  unfold w8_corrected_wp at hk
  refine px_aload_n (i := 0) C dX8_corrected_0 rfl rfl ?_
  refine px_iload_n (i := 1) C dX8_corrected_1 rfl rfl ?_
  refine px_callVi (h := 8) (rc' := 0) (rs' := 0) C (HR_le hHR (Nat.le_of_ble_eq_true rfl)) hRt hnT dX8_corrected_2 (gw3 209 rfl rfl) mv_X8_placeOf (w8_placeOf_ok (PCx_l C) (PCx_I C) hk) rfl rfl rfl rfl rfl (Nat.le_of_ble_eq_true rfl) (Nat.le_of_ble_eq_true rfl) (Nat.le_of_ble_eq_true rfl) (Nat.le_of_ble_eq_true rfl) ?_
  intro r2 μ1 hk
  refine px_istore_n (i := 3) C dX8_corrected_5 rfl (by decide) rfl ?_
  refine px_aload_n (i := 0) C dX8_corrected_6 rfl rfl ?_
  refine px_callVv (h := 4) (rc' := 0) (rs' := 0) C (HR_le hHR (Nat.le_of_ble_eq_true rfl)) hRt hnT dX8_corrected_7 (gw2 165 rfl rfl) mv_X8_workOut (w8_workOut_ok (PCx_l C) (PCx_I C) hk) rfl rfl rfl rfl rfl (Nat.le_of_ble_eq_true rfl) (Nat.le_of_ble_eq_true rfl) (Nat.le_of_ble_eq_true rfl) (Nat.le_of_ble_eq_true rfl) ?_
  intro μ3 hk
  refine px_iload_n (i := 2) C dX8_corrected_10 rfl rfl ?_
  refine px_if_eq (tgt := 28) C dX8_corrected_11 (by decide) (fun c6 => ?_) (fun c6 => ?_)
  · replace hk := hk.1 c6
    refine px_aload_n (i := 0) C dX8_corrected_28 rfl rfl ?_
    refine px_getr C dX8_corrected_29 fl_RX8_86 rfl rfl rfl ?_
    refine px_getr C dX8_corrected_32 fl_RX8_224 rfl rfl rfl ?_
    refine px_iload_n (i := 3) C dX8_corrected_35 rfl rfl ?_
    obtain ⟨o4, hk⟩ := hk
    refine px_callSi (h := 0) (rc' := 0) (rs' := 0) C (HR_le hHR (Nat.le_of_ble_eq_true rfl)) hRt hnT dX8_corrected_36 (gw4 2 rfl rfl) ms_X8_at (at_ok (j := 19) (q := 0) (n := 40) (loc := 1216) (PCx_l C) (PCx_I C) rfl rfl rfl o4) rfl rfl (Nat.le_of_ble_eq_true rfl) (Nat.le_of_ble_eq_true rfl) (Nat.le_of_ble_eq_true rfl) (Nat.le_of_ble_eq_true rfl) ?_
    rintro _ _ ⟨rfl, rfl⟩
    exact px_iret C hRt dX8_corrected_39 rfl rfl hk
  · replace hk := hk.2 c6
    refine px_aload_n (i := 0) C dX8_corrected_14 rfl rfl ?_
    refine px_getr C dX8_corrected_15 fl_RX8_86 rfl rfl rfl ?_
    refine px_getr C dX8_corrected_18 fl_RX8_225 rfl rfl rfl ?_
    refine px_iload_n (i := 3) C dX8_corrected_21 rfl rfl ?_
    obtain ⟨o5, hk⟩ := hk
    refine px_callSi (h := 0) (rc' := 0) (rs' := 0) C (HR_le hHR (Nat.le_of_ble_eq_true rfl)) hRt hnT dX8_corrected_22 (gw4 2 rfl rfl) ms_X8_at (at_ok (j := 20) (q := 0) (n := 40) (loc := 1280) (PCx_l C) (PCx_I C) rfl rfl rfl o5) rfl rfl (Nat.le_of_ble_eq_true rfl) (Nat.le_of_ble_eq_true rfl) (Nat.le_of_ble_eq_true rfl) (Nat.le_of_ble_eq_true rfl) ?_
    rintro _ _ ⟨rfl, rfl⟩
    refine px_goto (tgt := 39) C dX8_corrected_25 (by decide) ?_
    exact px_iret C hRt dX8_corrected_39 rfl rfl hk
theorem dX8_explain_0 : decode cX8_explain 0 = .ok (.aload_n 0, 1) := by decide +kernel
theorem dX8_explain_1 : decode cX8_explain 1 = .ok (.iload_n 1, 1) := by decide +kernel
theorem dX8_explain_2 : decode cX8_explain 2 = .ok (.invokevirtual 142, 3) := by decide +kernel
theorem dX8_explain_5 : decode cX8_explain 5 = .ok (.istore_n 2, 1) := by decide +kernel
theorem dX8_explain_6 : decode cX8_explain 6 = .ok (.aload_n 0, 1) := by decide +kernel
theorem dX8_explain_7 : decode cX8_explain 7 = .ok (.invokevirtual 197, 3) := by decide +kernel
theorem dX8_explain_10 : decode cX8_explain 10 = .ok (.aload_n 0, 1) := by decide +kernel
theorem dX8_explain_11 : decode cX8_explain 11 = .ok (.getfield 86, 3) := by decide +kernel
theorem dX8_explain_14 : decode cX8_explain 14 = .ok (.getfield 226, 3) := by decide +kernel
theorem dX8_explain_17 : decode cX8_explain 17 = .ok (.iload_n 2, 1) := by decide +kernel
theorem dX8_explain_18 : decode cX8_explain 18 = .ok (.invokestatic 155, 3) := by decide +kernel
theorem dX8_explain_21 : decode cX8_explain 21 = .ok (.ireturn, 1) := by decide +kernel
set_option maxRecDepth 100000 in
set_option maxHeartbeats 4000000 in
theorem w8_explain_ok {l : Launch} {idx : List (Nat × Nat)} {μ : Mem} {a1 : Int32} {P : Int32 → Mem → Prop} {X : String → Mem → Prop} (hl : l.stackTraces = false) (hI : IdxOK idx) (hk : w8_explain_wp μ a1 P X) : PMet l yX8_explain (.code yX8_explain cX8_explain 3 (some .int)) 9 1 6 idx [pR 40 0, pI a1] μ (qI P) X := by
  refine PMet_of mv_X8_explain.2.2.2.2.2.2 hl hI mv_X8_explain.2.2.2.1 rfl (Nat.le_of_ble_eq_true rfl) (fun G _ _ C hRt hHR hnT => ?_)
  show PW G 1 6 0 [some (pR 40 0), some (pI a1), none] [] μ
  unfold w8_explain_wp at hk
  refine px_aload_n (i := 0) C dX8_explain_0 rfl rfl ?_
  refine px_iload_n (i := 1) C dX8_explain_1 rfl rfl ?_
  refine px_callVi (h := 8) (rc' := 0) (rs' := 0) C (HR_le hHR (Nat.le_of_ble_eq_true rfl)) hRt hnT dX8_explain_2 (gw3 209 rfl rfl) mv_X8_placeOf (w8_placeOf_ok (PCx_l C) (PCx_I C) hk) rfl rfl rfl rfl rfl (Nat.le_of_ble_eq_true rfl) (Nat.le_of_ble_eq_true rfl) (Nat.le_of_ble_eq_true rfl) (Nat.le_of_ble_eq_true rfl) ?_
  intro r2 μ1 hk
  refine px_istore_n (i := 2) C dX8_explain_5 rfl (by decide) rfl ?_
  refine px_aload_n (i := 0) C dX8_explain_6 rfl rfl ?_
  refine px_callVv (h := 4) (rc' := 0) (rs' := 0) C (HR_le hHR (Nat.le_of_ble_eq_true rfl)) hRt hnT dX8_explain_7 (gw2 165 rfl rfl) mv_X8_workOut (w8_workOut_ok (PCx_l C) (PCx_I C) hk) rfl rfl rfl rfl rfl (Nat.le_of_ble_eq_true rfl) (Nat.le_of_ble_eq_true rfl) (Nat.le_of_ble_eq_true rfl) (Nat.le_of_ble_eq_true rfl) ?_
  intro μ3 hk
  refine px_aload_n (i := 0) C dX8_explain_10 rfl rfl ?_
  refine px_getr C dX8_explain_11 fl_RX8_86 rfl rfl rfl ?_
  refine px_getr C dX8_explain_14 fl_RX8_226 rfl rfl rfl ?_
  refine px_iload_n (i := 2) C dX8_explain_17 rfl rfl ?_
  obtain ⟨o4, hk⟩ := hk
  refine px_callSi (h := 0) (rc' := 0) (rs' := 0) C (HR_le hHR (Nat.le_of_ble_eq_true rfl)) hRt hnT dX8_explain_18 (gw4 2 rfl rfl) ms_X8_at (at_ok (j := 22) (q := 0) (n := 40) (loc := 1408) (PCx_l C) (PCx_I C) rfl rfl rfl o4) rfl rfl (Nat.le_of_ble_eq_true rfl) (Nat.le_of_ble_eq_true rfl) (Nat.le_of_ble_eq_true rfl) (Nat.le_of_ble_eq_true rfl) ?_
  rintro _ _ ⟨rfl, rfl⟩
  exact px_iret C hRt dX8_explain_21 rfl rfl hk
theorem dX8_root_0 : decode cX8_root 0 = .ok (.aload_n 0, 1) := by decide +kernel
theorem dX8_root_1 : decode cX8_root 1 = .ok (.iload_n 1, 1) := by decide +kernel
theorem dX8_root_2 : decode cX8_root 2 = .ok (.invokevirtual 142, 3) := by decide +kernel
theorem dX8_root_5 : decode cX8_root 5 = .ok (.istore_n 2, 1) := by decide +kernel
theorem dX8_root_6 : decode cX8_root 6 = .ok (.aload_n 0, 1) := by decide +kernel
theorem dX8_root_7 : decode cX8_root 7 = .ok (.invokevirtual 197, 3) := by decide +kernel
theorem dX8_root_10 : decode cX8_root 10 = .ok (.aload_n 0, 1) := by decide +kernel
theorem dX8_root_11 : decode cX8_root 11 = .ok (.getfield 86, 3) := by decide +kernel
theorem dX8_root_14 : decode cX8_root 14 = .ok (.iload_n 2, 1) := by decide +kernel
theorem dX8_root_15 : decode cX8_root 15 = .ok (.invokevirtual 229, 3) := by decide +kernel
theorem dX8_root_18 : decode cX8_root 18 = .ok (.ireturn, 1) := by decide +kernel
set_option maxRecDepth 100000 in
set_option maxHeartbeats 4000000 in
theorem w8_root_ok {l : Launch} {idx : List (Nat × Nat)} {μ : Mem} {a1 : Int32} {P : Int32 → Mem → Prop} {X : String → Mem → Prop} (hl : l.stackTraces = false) (hI : IdxOK idx) (hk : w8_root_wp μ a1 P X) : PMet l yX8_root (.code yX8_root cX8_root 3 (some .int)) 9 1 6 idx [pR 40 0, pI a1] μ (qI P) X := by
  refine PMet_of mv_X8_root.2.2.2.2.2.2 hl hI mv_X8_root.2.2.2.1 rfl (Nat.le_of_ble_eq_true rfl) (fun G _ _ C hRt hHR hnT => ?_)
  show PW G 1 6 0 [some (pR 40 0), some (pI a1), none] [] μ
  unfold w8_root_wp at hk
  refine px_aload_n (i := 0) C dX8_root_0 rfl rfl ?_
  refine px_iload_n (i := 1) C dX8_root_1 rfl rfl ?_
  refine px_callVi (h := 8) (rc' := 0) (rs' := 0) C (HR_le hHR (Nat.le_of_ble_eq_true rfl)) hRt hnT dX8_root_2 (gw3 209 rfl rfl) mv_X8_placeOf (w8_placeOf_ok (PCx_l C) (PCx_I C) hk) rfl rfl rfl rfl rfl (Nat.le_of_ble_eq_true rfl) (Nat.le_of_ble_eq_true rfl) (Nat.le_of_ble_eq_true rfl) (Nat.le_of_ble_eq_true rfl) ?_
  intro r2 μ1 hk
  refine px_istore_n (i := 2) C dX8_root_5 rfl (by decide) rfl ?_
  refine px_aload_n (i := 0) C dX8_root_6 rfl rfl ?_
  refine px_callVv (h := 4) (rc' := 0) (rs' := 0) C (HR_le hHR (Nat.le_of_ble_eq_true rfl)) hRt hnT dX8_root_7 (gw2 165 rfl rfl) mv_X8_workOut (w8_workOut_ok (PCx_l C) (PCx_I C) hk) rfl rfl rfl rfl rfl (Nat.le_of_ble_eq_true rfl) (Nat.le_of_ble_eq_true rfl) (Nat.le_of_ble_eq_true rfl) (Nat.le_of_ble_eq_true rfl) ?_
  intro μ3 hk
  refine px_aload_n (i := 0) C dX8_root_10 rfl rfl ?_
  refine px_getr C dX8_root_11 fl_RX8_86 rfl rfl rfl ?_
  refine px_iload_n (i := 2) C dX8_root_14 rfl rfl ?_
  refine px_callVi (h := 2) (rc' := 0) (rs' := 0) C (HR_le hHR (Nat.le_of_ble_eq_true rfl)) hRt hnT dX8_root_15 (gw4 106 rfl rfl) mv_X2_rootNumber (w2_rootNumber_ok (PCx_l C) (PCx_I C) hk) rfl rfl rfl rfl rfl (Nat.le_of_ble_eq_true rfl) (Nat.le_of_ble_eq_true rfl) (Nat.le_of_ble_eq_true rfl) (Nat.le_of_ble_eq_true rfl) ?_
  intro r5 μ4 hk
  exact px_iret C hRt dX8_root_18 rfl rfl hk
theorem dX8_depth_0 : decode cX8_depth 0 = .ok (.aload_n 0, 1) := by decide +kernel
theorem dX8_depth_1 : decode cX8_depth 1 = .ok (.iload_n 1, 1) := by decide +kernel
theorem dX8_depth_2 : decode cX8_depth 2 = .ok (.invokevirtual 142, 3) := by decide +kernel
theorem dX8_depth_5 : decode cX8_depth 5 = .ok (.istore_n 2, 1) := by decide +kernel
theorem dX8_depth_6 : decode cX8_depth 6 = .ok (.aload_n 0, 1) := by decide +kernel
theorem dX8_depth_7 : decode cX8_depth 7 = .ok (.invokevirtual 197, 3) := by decide +kernel
theorem dX8_depth_10 : decode cX8_depth 10 = .ok (.aload_n 0, 1) := by decide +kernel
theorem dX8_depth_11 : decode cX8_depth 11 = .ok (.getfield 86, 3) := by decide +kernel
theorem dX8_depth_14 : decode cX8_depth 14 = .ok (.iload_n 2, 1) := by decide +kernel
theorem dX8_depth_15 : decode cX8_depth 15 = .ok (.invokevirtual 232, 3) := by decide +kernel
theorem dX8_depth_18 : decode cX8_depth 18 = .ok (.ireturn, 1) := by decide +kernel
set_option maxRecDepth 100000 in
set_option maxHeartbeats 4000000 in
theorem w8_depth_ok {l : Launch} {idx : List (Nat × Nat)} {μ : Mem} {a1 : Int32} {P : Int32 → Mem → Prop} {X : String → Mem → Prop} (hl : l.stackTraces = false) (hI : IdxOK idx) (hk : w8_depth_wp μ a1 P X) : PMet l yX8_depth (.code yX8_depth cX8_depth 3 (some .int)) 9 1 6 idx [pR 40 0, pI a1] μ (qI P) X := by
  refine PMet_of mv_X8_depth.2.2.2.2.2.2 hl hI mv_X8_depth.2.2.2.1 rfl (Nat.le_of_ble_eq_true rfl) (fun G _ _ C hRt hHR hnT => ?_)
  show PW G 1 6 0 [some (pR 40 0), some (pI a1), none] [] μ
  unfold w8_depth_wp at hk
  refine px_aload_n (i := 0) C dX8_depth_0 rfl rfl ?_
  refine px_iload_n (i := 1) C dX8_depth_1 rfl rfl ?_
  refine px_callVi (h := 8) (rc' := 0) (rs' := 0) C (HR_le hHR (Nat.le_of_ble_eq_true rfl)) hRt hnT dX8_depth_2 (gw3 209 rfl rfl) mv_X8_placeOf (w8_placeOf_ok (PCx_l C) (PCx_I C) hk) rfl rfl rfl rfl rfl (Nat.le_of_ble_eq_true rfl) (Nat.le_of_ble_eq_true rfl) (Nat.le_of_ble_eq_true rfl) (Nat.le_of_ble_eq_true rfl) ?_
  intro r2 μ1 hk
  refine px_istore_n (i := 2) C dX8_depth_5 rfl (by decide) rfl ?_
  refine px_aload_n (i := 0) C dX8_depth_6 rfl rfl ?_
  refine px_callVv (h := 4) (rc' := 0) (rs' := 0) C (HR_le hHR (Nat.le_of_ble_eq_true rfl)) hRt hnT dX8_depth_7 (gw2 165 rfl rfl) mv_X8_workOut (w8_workOut_ok (PCx_l C) (PCx_I C) hk) rfl rfl rfl rfl rfl (Nat.le_of_ble_eq_true rfl) (Nat.le_of_ble_eq_true rfl) (Nat.le_of_ble_eq_true rfl) (Nat.le_of_ble_eq_true rfl) ?_
  intro μ3 hk
  refine px_aload_n (i := 0) C dX8_depth_10 rfl rfl ?_
  refine px_getr C dX8_depth_11 fl_RX8_86 rfl rfl rfl ?_
  refine px_iload_n (i := 2) C dX8_depth_14 rfl rfl ?_
  refine px_callVi (h := 1) (rc' := 0) (rs' := 0) C (HR_le hHR (Nat.le_of_ble_eq_true rfl)) hRt hnT dX8_depth_15 (gw4 121 rfl rfl) mv_X2_nodesAbove (w2_nodesAbove_ok (PCx_l C) (PCx_I C) hk) rfl rfl rfl rfl rfl (Nat.le_of_ble_eq_true rfl) (Nat.le_of_ble_eq_true rfl) (Nat.le_of_ble_eq_true rfl) (Nat.le_of_ble_eq_true rfl) ?_
  intro r5 μ4 hk
  exact px_iret C hRt dX8_depth_18 rfl rfl hk
theorem dX8_roots_0 : decode cX8_roots 0 = .ok (.aload_n 0, 1) := by decide +kernel
theorem dX8_roots_1 : decode cX8_roots 1 = .ok (.iload_n 1, 1) := by decide +kernel
theorem dX8_roots_2 : decode cX8_roots 2 = .ok (.invokevirtual 255, 3) := by decide +kernel
theorem dX8_roots_5 : decode cX8_roots 5 = .ok (.aload_n 0, 1) := by decide +kernel
theorem dX8_roots_6 : decode cX8_roots 6 = .ok (.invokevirtual 197, 3) := by decide +kernel
theorem dX8_roots_9 : decode cX8_roots 9 = .ok (.aload_n 0, 1) := by decide +kernel
theorem dX8_roots_10 : decode cX8_roots 10 = .ok (.getfield 86, 3) := by decide +kernel
theorem dX8_roots_13 : decode cX8_roots 13 = .ok (.iload_n 1, 1) := by decide +kernel
theorem dX8_roots_14 : decode cX8_roots 14 = .ok (.iload_n 2, 1) := by decide +kernel
theorem dX8_roots_15 : decode cX8_roots 15 = .ok (.invokevirtual 258, 3) := by decide +kernel
theorem dX8_roots_18 : decode cX8_roots 18 = .ok (.ireturn, 1) := by decide +kernel
set_option maxRecDepth 100000 in
set_option maxHeartbeats 4000000 in
theorem w8_roots_ok {l : Launch} {idx : List (Nat × Nat)} {μ : Mem} {a1 : Int32} {a2 : Int32} {P : Int32 → Mem → Prop} {X : String → Mem → Prop} (hl : l.stackTraces = false) (hI : IdxOK idx) (hk : w8_roots_wp μ a1 a2 P X) : PMet l yX8_roots (.code yX8_roots cX8_roots 3 (some .int)) 9 1 6 idx [pR 40 0, pI a1, pI a2] μ (qI P) X := by
  refine PMet_of mv_X8_roots.2.2.2.2.2.2 hl hI mv_X8_roots.2.2.2.1 rfl (Nat.le_of_ble_eq_true rfl) (fun G _ _ C hRt hHR hnT => ?_)
  show PW G 1 6 0 [some (pR 40 0), some (pI a1), some (pI a2)] [] μ
  unfold w8_roots_wp at hk
  refine px_aload_n (i := 0) C dX8_roots_0 rfl rfl ?_
  refine px_iload_n (i := 1) C dX8_roots_1 rfl rfl ?_
  refine px_callVv (h := 8) (rc' := 0) (rs' := 0) C (HR_le hHR (Nat.le_of_ble_eq_true rfl)) hRt hnT dX8_roots_2 (gw4 136 rfl rfl) mv_X8_checkTrace (w8_checkTrace_ok (PCx_l C) (PCx_I C) hk) rfl rfl rfl rfl rfl (Nat.le_of_ble_eq_true rfl) (Nat.le_of_ble_eq_true rfl) (Nat.le_of_ble_eq_true rfl) (Nat.le_of_ble_eq_true rfl) ?_
  intro μ1 hk
  refine px_aload_n (i := 0) C dX8_roots_5 rfl rfl ?_
  refine px_callVv (h := 4) (rc' := 0) (rs' := 0) C (HR_le hHR (Nat.le_of_ble_eq_true rfl)) hRt hnT dX8_roots_6 (gw2 165 rfl rfl) mv_X8_workOut (w8_workOut_ok (PCx_l C) (PCx_I C) hk) rfl rfl rfl rfl rfl (Nat.le_of_ble_eq_true rfl) (Nat.le_of_ble_eq_true rfl) (Nat.le_of_ble_eq_true rfl) (Nat.le_of_ble_eq_true rfl) ?_
  intro μ2 hk
  refine px_aload_n (i := 0) C dX8_roots_9 rfl rfl ?_
  refine px_getr C dX8_roots_10 fl_RX8_86 rfl rfl rfl ?_
  refine px_iload_n (i := 1) C dX8_roots_13 rfl rfl ?_
  refine px_iload_n (i := 2) C dX8_roots_14 rfl rfl ?_
  refine px_callVi (h := 4) (rc' := 0) (rs' := 0) C (HR_le hHR (Nat.le_of_ble_eq_true rfl)) hRt hnT dX8_roots_15 (gw4 194 rfl rfl) mv_X2_countRoots (w2_countRoots_ok (PCx_l C) (PCx_I C) hk) rfl rfl rfl rfl rfl (Nat.le_of_ble_eq_true rfl) (Nat.le_of_ble_eq_true rfl) (Nat.le_of_ble_eq_true rfl) (Nat.le_of_ble_eq_true rfl) ?_
  intro r4 μ3 hk
  exact px_iret C hRt dX8_roots_18 rfl rfl hk
theorem dX8_rootAt_0 : decode cX8_rootAt 0 = .ok (.aload_n 0, 1) := by decide +kernel
theorem dX8_rootAt_1 : decode cX8_rootAt 1 = .ok (.iload_n 1, 1) := by decide +kernel
theorem dX8_rootAt_2 : decode cX8_rootAt 2 = .ok (.invokevirtual 255, 3) := by decide +kernel
theorem dX8_rootAt_5 : decode cX8_rootAt 5 = .ok (.aload_n 0, 1) := by decide +kernel
theorem dX8_rootAt_6 : decode cX8_rootAt 6 = .ok (.invokevirtual 197, 3) := by decide +kernel
theorem dX8_rootAt_9 : decode cX8_rootAt 9 = .ok (.aload_n 0, 1) := by decide +kernel
theorem dX8_rootAt_10 : decode cX8_rootAt 10 = .ok (.getfield 86, 3) := by decide +kernel
theorem dX8_rootAt_13 : decode cX8_rootAt 13 = .ok (.iload_n 1, 1) := by decide +kernel
theorem dX8_rootAt_14 : decode cX8_rootAt 14 = .ok (.iload_n 2, 1) := by decide +kernel
theorem dX8_rootAt_15 : decode cX8_rootAt 15 = .ok (.invokevirtual 262, 3) := by decide +kernel
theorem dX8_rootAt_18 : decode cX8_rootAt 18 = .ok (.istore_n 3, 1) := by decide +kernel
theorem dX8_rootAt_19 : decode cX8_rootAt 19 = .ok (.iload_n 3, 1) := by decide +kernel
theorem dX8_rootAt_20 : decode cX8_rootAt 20 = .ok (.iconst (-1), 1) := by decide +kernel
theorem dX8_rootAt_21 : decode cX8_rootAt 21 = .ok (.if_icmp .ne 14, 3) := by decide +kernel
theorem dX8_rootAt_24 : decode cX8_rootAt 24 = .ok (.new 206, 3) := by decide +kernel
theorem dX8_rootAt_27 : decode cX8_rootAt 27 = .ok (.dup, 1) := by decide +kernel
theorem dX8_rootAt_28 : decode cX8_rootAt 28 = .ok (.ldc_w 265, 3) := by decide +kernel
theorem dX8_rootAt_31 : decode cX8_rootAt 31 = .ok (.invokespecial 210, 3) := by decide +kernel
theorem dX8_rootAt_34 : decode cX8_rootAt 34 = .ok (.athrow, 1) := by decide +kernel
theorem dX8_rootAt_35 : decode cX8_rootAt 35 = .ok (.iload_n 3, 1) := by decide +kernel
theorem dX8_rootAt_36 : decode cX8_rootAt 36 = .ok (.ireturn, 1) := by decide +kernel
set_option maxRecDepth 100000 in
set_option maxHeartbeats 4000000 in
theorem w8_rootAt_ok {l : Launch} {idx : List (Nat × Nat)} {μ : Mem} {a1 : Int32} {a2 : Int32} {P : Int32 → Mem → Prop} {X : String → Mem → Prop} (hl : l.stackTraces = false) (hI : IdxOK idx) (hk : w8_rootAt_wp μ a1 a2 P X) : PMet l yX8_rootAt (.code yX8_rootAt cX8_rootAt 4 (some .int)) 9 2 12 idx [pR 40 0, pI a1, pI a2] μ (qI P) X := by
  refine PMet_of mv_X8_rootAt.2.2.2.2.2.2 hl hI mv_X8_rootAt.2.2.2.1 rfl (Nat.le_of_ble_eq_true rfl) (fun G _ _ C hRt hHR hnT => ?_)
  show PW G 2 12 0 [some (pR 40 0), some (pI a1), some (pI a2), none] [] μ
  unfold w8_rootAt_wp at hk
  refine px_aload_n (i := 0) C dX8_rootAt_0 rfl rfl ?_
  refine px_iload_n (i := 1) C dX8_rootAt_1 rfl rfl ?_
  refine px_callVv (h := 8) (rc' := 1) (rs' := 6) C (HR_le hHR (Nat.le_of_ble_eq_true rfl)) hRt hnT dX8_rootAt_2 (gw4 136 rfl rfl) mv_X8_checkTrace (w8_checkTrace_ok (PCx_l C) (PCx_I C) hk) rfl rfl rfl rfl rfl (Nat.le_of_ble_eq_true rfl) (Nat.le_of_ble_eq_true rfl) (Nat.le_of_ble_eq_true rfl) (Nat.le_of_ble_eq_true rfl) ?_
  intro μ1 hk
  refine px_aload_n (i := 0) C dX8_rootAt_5 rfl rfl ?_
  refine px_callVv (h := 4) (rc' := 1) (rs' := 6) C (HR_le hHR (Nat.le_of_ble_eq_true rfl)) hRt hnT dX8_rootAt_6 (gw2 165 rfl rfl) mv_X8_workOut (w8_workOut_ok (PCx_l C) (PCx_I C) hk) rfl rfl rfl rfl rfl (Nat.le_of_ble_eq_true rfl) (Nat.le_of_ble_eq_true rfl) (Nat.le_of_ble_eq_true rfl) (Nat.le_of_ble_eq_true rfl) ?_
  intro μ2 hk
  refine px_aload_n (i := 0) C dX8_rootAt_9 rfl rfl ?_
  refine px_getr C dX8_rootAt_10 fl_RX8_86 rfl rfl rfl ?_
  refine px_iload_n (i := 1) C dX8_rootAt_13 rfl rfl ?_
  refine px_iload_n (i := 2) C dX8_rootAt_14 rfl rfl ?_
  refine px_callVi (h := 4) (rc' := 1) (rs' := 6) C (HR_le hHR (Nat.le_of_ble_eq_true rfl)) hRt hnT dX8_rootAt_15 (gw4 210 rfl rfl) mv_X2_nthRoot (w2_nthRoot_ok (PCx_l C) (PCx_I C) hk) rfl rfl rfl rfl rfl (Nat.le_of_ble_eq_true rfl) (Nat.le_of_ble_eq_true rfl) (Nat.le_of_ble_eq_true rfl) (Nat.le_of_ble_eq_true rfl) ?_
  intro r4 μ3 hk
  refine px_istore_n (i := 3) C dX8_rootAt_18 rfl (by decide) rfl ?_
  refine px_iload_n (i := 3) C dX8_rootAt_19 rfl rfl ?_
  refine px_iconst (v := (-1 : Int32)) C dX8_rootAt_20 rfl ?_
  refine px_icmp_ne (tgt := 35) C dX8_rootAt_21 (by decide) (fun c5 => ?_) (fun c5 => ?_)
  · replace hk := hk.1 c5
    refine px_iload_n (i := 3) C dX8_rootAt_35 rfl rfl ?_
    exact px_iret C hRt dX8_rootAt_36 rfl rfl hk
  · replace hk := hk.2 c5
    exact px_throwwN (h9 := 1) C (HR_le hHR (Nat.le_of_ble_eq_true rfl)) hRt hnT tk_NoSuchElementException ti_NoSuchElementException (List.mem_of_getElem? (i := 14) rfl) rfl dX8_rootAt_24 dX8_rootAt_27 dX8_rootAt_28 dX8_rootAt_31 dX8_rootAt_34 rfl (Nat.le_of_ble_eq_true rfl) (Nat.le_of_ble_eq_true rfl) hk
