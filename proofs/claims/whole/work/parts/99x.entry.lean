-- writeEntry of the class (gen/mk_we.py)
theorem fl_RX8_43 : FL RX8 43 12 10 := ⟨RX8, TX8, 14, rfl, by decide, inX8, rfl, (gw2 112 rfl rfl)⟩
theorem dX8_writeEntry_0 : decode cX8_writeEntry 0 = .ok (.aload_n 0, 1) := by decide +kernel
theorem dX8_writeEntry_1 : decode cX8_writeEntry 1 = .ok (.getfield 43, 3) := by decide +kernel
theorem dX8_writeEntry_4 : decode cX8_writeEntry 4 = .ok (.iconst 0, 1) := by decide +kernel
theorem dX8_writeEntry_5 : decode cX8_writeEntry 5 = .ok (.invokevirtual 506, 3) := by decide +kernel
theorem dX8_writeEntry_8 : decode cX8_writeEntry 8 = .ok (.aload_n 0, 1) := by decide +kernel
theorem dX8_writeEntry_9 : decode cX8_writeEntry 9 = .ok (.getfield 43, 3) := by decide +kernel
theorem dX8_writeEntry_12 : decode cX8_writeEntry 12 = .ok (.aload_n 0, 1) := by decide +kernel
theorem dX8_writeEntry_13 : decode cX8_writeEntry 13 = .ok (.getfield 94, 3) := by decide +kernel
theorem dX8_writeEntry_16 : decode cX8_writeEntry 16 = .ok (.getfield 186, 3) := by decide +kernel
theorem dX8_writeEntry_19 : decode cX8_writeEntry 19 = .ok (.iload_n 1, 1) := by decide +kernel
theorem dX8_writeEntry_20 : decode cX8_writeEntry 20 = .ok (.invokestatic 155, 3) := by decide +kernel
theorem dX8_writeEntry_23 : decode cX8_writeEntry 23 = .ok (.invokevirtual 509, 3) := by decide +kernel
theorem dX8_writeEntry_26 : decode cX8_writeEntry 26 = .ok (.bipush 47, 2) := by decide +kernel
theorem dX8_writeEntry_28 : decode cX8_writeEntry 28 = .ok (.invokevirtual 513, 3) := by decide +kernel
theorem dX8_writeEntry_31 : decode cX8_writeEntry 31 = .ok (.aload_n 0, 1) := by decide +kernel
theorem dX8_writeEntry_32 : decode cX8_writeEntry 32 = .ok (.getfield 94, 3) := by decide +kernel
theorem dX8_writeEntry_35 : decode cX8_writeEntry 35 = .ok (.getfield 252, 3) := by decide +kernel
theorem dX8_writeEntry_38 : decode cX8_writeEntry 38 = .ok (.iload_n 1, 1) := by decide +kernel
theorem dX8_writeEntry_39 : decode cX8_writeEntry 39 = .ok (.invokestatic 155, 3) := by decide +kernel
theorem dX8_writeEntry_42 : decode cX8_writeEntry 42 = .ok (.invokevirtual 509, 3) := by decide +kernel
theorem dX8_writeEntry_45 : decode cX8_writeEntry 45 = .ok (.bipush 60, 2) := by decide +kernel
theorem dX8_writeEntry_47 : decode cX8_writeEntry 47 = .ok (.invokevirtual 513, 3) := by decide +kernel
theorem dX8_writeEntry_50 : decode cX8_writeEntry 50 = .ok (.pop, 1) := by decide +kernel
theorem dX8_writeEntry_51 : decode cX8_writeEntry 51 = .ok (.aload_n 0, 1) := by decide +kernel
theorem dX8_writeEntry_52 : decode cX8_writeEntry 52 = .ok (.getfield 94, 3) := by decide +kernel
theorem dX8_writeEntry_55 : decode cX8_writeEntry 55 = .ok (.getfield 151, 3) := by decide +kernel
theorem dX8_writeEntry_58 : decode cX8_writeEntry 58 = .ok (.iload_n 1, 1) := by decide +kernel
theorem dX8_writeEntry_59 : decode cX8_writeEntry 59 = .ok (.invokestatic 155, 3) := by decide +kernel
theorem dX8_writeEntry_62 : decode cX8_writeEntry 62 = .ok (.iconst (-1), 1) := by decide +kernel
theorem dX8_writeEntry_63 : decode cX8_writeEntry 63 = .ok (.if_icmp .ne 16, 3) := by decide +kernel
theorem dX8_writeEntry_66 : decode cX8_writeEntry 66 = .ok (.aload_n 0, 1) := by decide +kernel
theorem dX8_writeEntry_67 : decode cX8_writeEntry 67 = .ok (.getfield 43, 3) := by decide +kernel
theorem dX8_writeEntry_70 : decode cX8_writeEntry 70 = .ok (.bipush 45, 2) := by decide +kernel
theorem dX8_writeEntry_72 : decode cX8_writeEntry 72 = .ok (.invokevirtual 513, 3) := by decide +kernel
theorem dX8_writeEntry_75 : decode cX8_writeEntry 75 = .ok (.pop, 1) := by decide +kernel
theorem dX8_writeEntry_76 : decode cX8_writeEntry 76 = .ok (.goto 22, 3) := by decide +kernel
theorem dX8_writeEntry_79 : decode cX8_writeEntry 79 = .ok (.aload_n 0, 1) := by decide +kernel
theorem dX8_writeEntry_80 : decode cX8_writeEntry 80 = .ok (.getfield 43, 3) := by decide +kernel
theorem dX8_writeEntry_83 : decode cX8_writeEntry 83 = .ok (.aload_n 0, 1) := by decide +kernel
theorem dX8_writeEntry_84 : decode cX8_writeEntry 84 = .ok (.getfield 94, 3) := by decide +kernel
theorem dX8_writeEntry_87 : decode cX8_writeEntry 87 = .ok (.getfield 151, 3) := by decide +kernel
theorem dX8_writeEntry_90 : decode cX8_writeEntry 90 = .ok (.iload_n 1, 1) := by decide +kernel
theorem dX8_writeEntry_91 : decode cX8_writeEntry 91 = .ok (.invokestatic 155, 3) := by decide +kernel
theorem dX8_writeEntry_94 : decode cX8_writeEntry 94 = .ok (.invokevirtual 509, 3) := by decide +kernel
theorem dX8_writeEntry_97 : decode cX8_writeEntry 97 = .ok (.pop, 1) := by decide +kernel
theorem dX8_writeEntry_98 : decode cX8_writeEntry 98 = .ok (.aload_n 0, 1) := by decide +kernel
theorem dX8_writeEntry_99 : decode cX8_writeEntry 99 = .ok (.getfield 43, 3) := by decide +kernel
theorem dX8_writeEntry_102 : decode cX8_writeEntry 102 = .ok (.bipush 64, 2) := by decide +kernel
theorem dX8_writeEntry_104 : decode cX8_writeEntry 104 = .ok (.invokevirtual 513, 3) := by decide +kernel
theorem dX8_writeEntry_107 : decode cX8_writeEntry 107 = .ok (.aload_n 0, 1) := by decide +kernel
theorem dX8_writeEntry_108 : decode cX8_writeEntry 108 = .ok (.getfield 94, 3) := by decide +kernel
theorem dX8_writeEntry_111 : decode cX8_writeEntry 111 = .ok (.getfield 189, 3) := by decide +kernel
theorem dX8_writeEntry_114 : decode cX8_writeEntry 114 = .ok (.iload_n 1, 1) := by decide +kernel
theorem dX8_writeEntry_115 : decode cX8_writeEntry 115 = .ok (.invokestatic 155, 3) := by decide +kernel
theorem dX8_writeEntry_118 : decode cX8_writeEntry 118 = .ok (.invokevirtual 509, 3) := by decide +kernel
theorem dX8_writeEntry_121 : decode cX8_writeEntry 121 = .ok (.bipush 58, 2) := by decide +kernel
theorem dX8_writeEntry_123 : decode cX8_writeEntry 123 = .ok (.invokevirtual 513, 3) := by decide +kernel
theorem dX8_writeEntry_126 : decode cX8_writeEntry 126 = .ok (.pop, 1) := by decide +kernel
theorem dX8_writeEntry_127 : decode cX8_writeEntry 127 = .ok (.aload_n 0, 1) := by decide +kernel
theorem dX8_writeEntry_128 : decode cX8_writeEntry 128 = .ok (.getfield 43, 3) := by decide +kernel
theorem dX8_writeEntry_131 : decode cX8_writeEntry 131 = .ok (.aload_n 0, 1) := by decide +kernel
theorem dX8_writeEntry_132 : decode cX8_writeEntry 132 = .ok (.getfield 94, 3) := by decide +kernel
theorem dX8_writeEntry_135 : decode cX8_writeEntry 135 = .ok (.getfield 168, 3) := by decide +kernel
theorem dX8_writeEntry_138 : decode cX8_writeEntry 138 = .ok (.iload_n 1, 1) := by decide +kernel
theorem dX8_writeEntry_139 : decode cX8_writeEntry 139 = .ok (.invokestatic 155, 3) := by decide +kernel
theorem dX8_writeEntry_142 : decode cX8_writeEntry 142 = .ok (.invokevirtual 509, 3) := by decide +kernel
theorem dX8_writeEntry_145 : decode cX8_writeEntry 145 = .ok (.bipush 45, 2) := by decide +kernel
theorem dX8_writeEntry_147 : decode cX8_writeEntry 147 = .ok (.invokevirtual 513, 3) := by decide +kernel
theorem dX8_writeEntry_150 : decode cX8_writeEntry 150 = .ok (.aload_n 0, 1) := by decide +kernel
theorem dX8_writeEntry_151 : decode cX8_writeEntry 151 = .ok (.getfield 94, 3) := by decide +kernel
theorem dX8_writeEntry_154 : decode cX8_writeEntry 154 = .ok (.getfield 171, 3) := by decide +kernel
theorem dX8_writeEntry_157 : decode cX8_writeEntry 157 = .ok (.iload_n 1, 1) := by decide +kernel
theorem dX8_writeEntry_158 : decode cX8_writeEntry 158 = .ok (.invokestatic 155, 3) := by decide +kernel
theorem dX8_writeEntry_161 : decode cX8_writeEntry 161 = .ok (.invokevirtual 509, 3) := by decide +kernel
theorem dX8_writeEntry_164 : decode cX8_writeEntry 164 = .ok (.pop, 1) := by decide +kernel
theorem dX8_writeEntry_165 : decode cX8_writeEntry 165 = .ok (.aload_n 0, 1) := by decide +kernel
theorem dX8_writeEntry_166 : decode cX8_writeEntry 166 = .ok (.getfield 94, 3) := by decide +kernel
theorem dX8_writeEntry_169 : decode cX8_writeEntry 169 = .ok (.getfield 174, 3) := by decide +kernel
theorem dX8_writeEntry_172 : decode cX8_writeEntry 172 = .ok (.iload_n 1, 1) := by decide +kernel
theorem dX8_writeEntry_173 : decode cX8_writeEntry 173 = .ok (.invokestatic 178, 3) := by decide +kernel
theorem dX8_writeEntry_176 : decode cX8_writeEntry 176 = .ok (.ifCond .eq 13, 3) := by decide +kernel
theorem dX8_writeEntry_179 : decode cX8_writeEntry 179 = .ok (.aload_n 0, 1) := by decide +kernel
theorem dX8_writeEntry_180 : decode cX8_writeEntry 180 = .ok (.getfield 43, 3) := by decide +kernel
theorem dX8_writeEntry_183 : decode cX8_writeEntry 183 = .ok (.bipush 33, 2) := by decide +kernel
theorem dX8_writeEntry_185 : decode cX8_writeEntry 185 = .ok (.invokevirtual 513, 3) := by decide +kernel
theorem dX8_writeEntry_188 : decode cX8_writeEntry 188 = .ok (.pop, 1) := by decide +kernel
theorem dX8_writeEntry_189 : decode cX8_writeEntry 189 = .ok (.aload_n 0, 1) := by decide +kernel
theorem dX8_writeEntry_190 : decode cX8_writeEntry 190 = .ok (.getfield 43, 3) := by decide +kernel
theorem dX8_writeEntry_193 : decode cX8_writeEntry 193 = .ok (.bipush 59, 2) := by decide +kernel
theorem dX8_writeEntry_195 : decode cX8_writeEntry 195 = .ok (.invokevirtual 513, 3) := by decide +kernel
theorem dX8_writeEntry_198 : decode cX8_writeEntry 198 = .ok (.pop, 1) := by decide +kernel
theorem dX8_writeEntry_199 : decode cX8_writeEntry 199 = .ok (.return_, 1) := by decide +kernel
/-- a static method that throws nothing -/
theorem px_callS0 {G : GT} {cc : ByteArray} {nL : Nat} {own : String} {rc rs pc : Nat} {ls : List (Option PV)} {st : List PV} {μ : Mem} {i h mc ms n maxL rc' rs' : Nat} {y : MethodName} {b : ByteArray} {ret : Option FieldType} {as rest : List PV} {P : Int32 → Mem → Prop} (C : PCx G cc nL own) (hHR : HR G (h + 1)) (d : decode cc pc = .ok (.invokestatic i, 3)) (hl : Cond.methodLink own i y ∈ gW) (hm : MS y b maxL ret n) (hM : PMet (GL G) y (.code y b maxL ret) h mc ms (GX G) as μ (qI P) (fun _ _ => False)) (hst : st = as.reverse ++ rest) (hn : as.length = n) (hk : stK rest ≤ 8) (hmx : maxL ≤ 45) (hrc : mc + rc' ≤ rc) (hrs : ms + rs' ≤ rs)
    (k : ∀ (r : Int32) (μ' : Mem), P r μ' → PW G rc' rs' (pc + 3) ls (pI r :: rest) μ') : PW G rc rs pc ls st μ := by
  obtain ⟨p, l, e, R, s, m, args, below, meth, c, Q, A, V, idx, tl⟩ := G
  subst hst
  intro H locs cells slots lsM hP hS hl9 hL9 hV h1 h2
  have hok : ∀ v ∈ as.reverse ++ rest, okP idx v := hV
  have hokA : ∀ v ∈ as, okP idx v := fun v hv => hok v (List.mem_append_left _ (List.mem_reverse.mpr hv))
  have hokR : ∀ v ∈ rest, okP idx v := fun v hv => hok v (List.mem_append_right _ hv)
  obtain ⟨hx, hb, hml, hown, hts, hE, hD, hI, hAs, hA, hlk, htr⟩ := C
  obtain ⟨m1, m3, m4, m5, m6, -⟩ := hm
  have cw : CallB R s args own i y b maxL ret (.code y b maxL ret :: gW) (rmh h mc ms) mc ms n := ⟨rfl, rfl, hHR.1, (by have := hHR.2; show 8 + (maxL + 11) + 64 * h ≤ R.locals; omega), gW_pay hts m4, List.mem_cons_self, hts _ m4, hts _ m3, m5, fun sig h9 => by rw [h9] at m6; exact (Option.some.inj m6).symm, hts _ hl⟩
  refine px_call (st := rest) (mc := mc) (ms := ms) hA hS hokR (vx_runS (As := as.map (cv V.1)) (nL := nL) ⟨hx, hb, hml, hown, hts⟩ (hM V tl H.size) ⟨cw, hts _ m1⟩ ⟨PcF_blind, fun U hU hW => ?_⟩ rfl (by rw [List.length_map]; exact hn) (by show lsM.size = nL; rw [hl9.1, hml]) (by show List.map _ _ = _; rw [List.map_append, List.map_reverse]) (lv_room (Nat.le_trans stK_le hk)) d ⟨by omega, by omega⟩) ?_ ?_
  · subst hU
    exact PcF_at (μ := μ) (as := as) hE hA hW hS hokA hP
  · intro E ce q9 μ' H1 locs1 hXE hP1 hS1 hce hcv hcl
    exact hXE.elim
  · intro v μ' H1 locs1 hPv hP1 hS1 hok2
    obtain ⟨r, rfl, hPv⟩ := hPv
    exact k r μ' hPv H1 locs1 (cells + mc) (slots + ms) lsM hP1 hS1 hl9 hL9 hok2 (by omega) (by omega)
/-- what a body that writes on the builder knows -/
def BW (G : GT) (cc : ByteArray) (nL : Nat) (own : String) (tl0 : va_W) (P : Option PV → Mem → va_W → Prop) (idx : List (Nat × Nat)) (V : VT) (x : TX) (n : Nat) : Prop := PCx G cc nL own ∧ SBG G ∧ PRtT G tl0 none P (fun _ _ _ => False) ∧ HR G 6 ∧ GX G = idx ∧ GV G = V ∧ SBX V (GTl G) x ∧ x.1 ≤ n
theorem BW.tl {G : GT} {cc : ByteArray} {nL : Nat} {own : String} {tl0 : va_W} {P : Option PV → Mem → va_W → Prop} {idx : List (Nat × Nat)} {V : VT} {x x' : TX} {n n' : Nat} {tl' : va_W} (B : BW G cc nL own tl0 P idx V x n) (h : TlOK (GV G) (GX G) (G.2.2.2.2.1).heap.size (GTl G) tl') (hx : SBX (GV G) tl' x') (hn : x'.1 ≤ n') : BW (setTl G tl') cc nL own tl0 P idx V x' n' := by
  obtain ⟨b1, b2, b3, b4, b5, b6, b7, b8⟩ := B
  have c1 := PCx_tl b1 h
  obtain ⟨p, l, e, R, s, m, args, below, meth, c, Q, A, V1, idx1, tl⟩ := G
  subst b6
  exact ⟨c1, b2, b3, b4, b5, rfl, hx, hn⟩
section BWs
variable {G : GT} {cc : ByteArray} {nL : Nat} {own : String} {rc rs pc : Nat} {ls : List (Option PV)} {μ : Mem} {tl0 : va_W} {P : Option PV → Mem → va_W → Prop} {idx : List (Nat × Nat)} {V : VT} {x : TX} {n : Nat}
theorem pw_less {pc rc' rs' : Nat} {st : List PV} (h3 : rc' ≤ rc) (h4 : rs' ≤ rs) (k : PW G rc' rs' pc ls st μ) : PW G rc rs pc ls st μ := by
  obtain ⟨p, l, e, R, s, m, args, below, meth, c, Q, A, V, idx, tl⟩ := G
  intro H locs cells slots lsM hP hS hl hL hV h1 h2
  exact k H locs cells slots lsM hP hS hl hL hV (by omega) (by omega)
theorem bw_num {i v j rc' rs' : Nat} {y : Int32} (B : BW G cc nL own tl0 P idx V x n) (d : decode cc pc = .ok (.invokevirtual i, 3)) (hl : Cond.methodLink own i yJ4_append_bf812 ∈ gW) (ey : y = nI v) (hv : v < 10000) (hj : sb_dg v ≤ j) (hn : n + j ≤ 27) (hrc : 1 + rc' ≤ rc) (hrs : 60 + rs' ≤ rs)
    (k : ∀ G1 : GT, BW G1 cc nL own tl0 P idx V (txN x v) (n + j) → PW G1 rc' rs' (pc + 3) ls [pR 41 0] μ) : PW G rc rs pc ls [pI y, pR 41 0] μ := by
  subst ey
  have B0 := B
  obtain ⟨b1, b2, b3, b4, b5, b6, b7, b8⟩ := B
  have hl2 : x.1 + sb_dg v ≤ 27 := by omega
  subst b6
  exact pt_callSB (as := [pI (nI v)]) (rest := []) (rv := some (pR 41 0)) b1 b2 b7 b4 d hl mv_J4_append_bf812 rfl (fun V9 a q m f ml hV ha h1 h2 h3 h4 h5 => by
    subst hV; subst ha
    exact c_api4 x _ q m f ml v ⟨h1, h2, h3, h4, h5⟩ hv hl2) (fun z hz => by cases hz; exact Or.inr rfl) rfl rfl (Nat.le_of_ble_eq_true rfl) (Nat.le_of_ble_eq_true rfl) hrc hrs (fun tl' z1 z2 => k _ (B0.tl z2 z1 (Nat.add_le_add b8 hj)))
theorem bw_chr {i rc' rs' : Nat} (c : Nat) {y : Int32} (B : BW G cc nL own tl0 P idx V x n) (d : decode cc pc = .ok (.invokevirtual i, 3)) (hl : Cond.methodLink own i yJ4_append_cf468 ∈ gW) (ey : y = nI c) (hc : c < 256) (hn : n + 1 ≤ 27) (hrc : 1 + rc' ≤ rc) (hrs : 60 + rs' ≤ rs)
    (k : ∀ G1 : GT, BW G1 cc nL own tl0 P idx V (txC x c) (n + 1) → PW G1 rc' rs' (pc + 3) ls [pR 41 0] μ) : PW G rc rs pc ls [pI y, pR 41 0] μ := by
  subst ey
  have B0 := B
  obtain ⟨b1, b2, b3, b4, b5, b6, b7, b8⟩ := B
  have hl2 : x.1 < 27 := by omega
  subst b6
  exact pt_callSB (as := [pI (nI c)]) (rest := []) (rv := some (pR 41 0)) b1 b2 b7 b4 d hl mv_J4_append_cf468 rfl (fun V9 a q m f ml hV ha h1 h2 h3 h4 h5 => by
    subst hV; subst ha
    exact c_app4 x _ q m f ml c ⟨h1, h2, h3, h4, h5⟩ hc hl2) (fun z hz => by cases hz; exact Or.inr rfl) rfl rfl (Nat.le_of_ble_eq_true rfl) (Nat.le_of_ble_eq_true rfl) hrc hrs (fun tl' z1 z2 => k _ (B0.tl z2 z1 (Nat.succ_le_succ b8)))
theorem bw_set {i rc' rs' : Nat} {y : Int32} (B : BW G cc nL own tl0 P idx V x n) (d : decode cc pc = .ok (.invokevirtual i, 3)) (hl : Cond.methodLink own i yJ4_setLength_d00df ∈ gW) (ey : y = nI 0) (hrc : 1 + rc' ≤ rc) (hrs : 60 + rs' ≤ rs)
    (k : ∀ G1 : GT, BW G1 cc nL own tl0 P idx V tx0 0 → PW G1 rc' rs' (pc + 3) ls [] μ) : PW G rc rs pc ls [pI y, pR 41 0] μ := by
  subst ey
  have B0 := B
  obtain ⟨b1, b2, b3, b4, b5, b6, b7, b8⟩ := B
  subst b6
  exact pt_callSB (as := [pI (nI 0)]) (rest := []) (rv := none) b1 b2 b7 b4 d hl mv_J4_setLength_d00df rfl (fun V9 a q m f ml hV ha h1 h2 h3 h4 h5 => by
    subst hV; subst ha
    exact c_set4 x _ q m f ml ⟨h1, h2, h3, h4, h5⟩) (fun z hz => by cases hz) rfl rfl (Nat.le_of_ble_eq_true rfl) (Nat.le_of_ble_eq_true rfl) hrc hrs (fun tl' z1 z2 => k _ (B0.tl z2 z1 (Nat.le_refl _)))
end BWs
theorem c_writeEntry {l : Launch} {idx : List (Nat × Nat)} {V : VT} {tl : va_W} {μ : Mem} {n : Nat} {w : View} {i : Nat} {x : TX} (hl : l.stackTraces = false) (hI : IdxOK idx) (hS : SV μ 0 n w) (hi : i < n) (hn : n ≤ 40) (r : Rg w i) (hx : SBX V tl x) : PMetT l yX8_writeEntry (.code yX8_writeEntry cX8_writeEntry 2 none) 6 14 840 idx [pR 40 0, pI (J i)] μ V tl (fun v μ' tl' => v = none ∧ μ' = μ ∧ SBX V tl' (dtx w i)) (fun _ _ _ => False) := by
  have ec : (J (i : Int)).toNatClampNeg = i := by rw [J_clamp (by omega)]; exact Int.toNat_natCast i
  have hin : vp_in (J (i : Int)) 40 := (J_in (by omega)).mpr (by omega)
  have ev0 : ∀ c, c < 7 → sA μ 0 c (J (i : Int)).toNatClampNeg = J (w i c) := fun c hc => by rw [ec]; exact hS.2 i hi c hc
  have ev : ∀ c, c < 7 → 0 ≤ w i c → sA μ 0 c (J (i : Int)).toNatClampNeg = nI (w i c).toNat := fun c hc h0 => by rw [ev0 c hc, ← Jn]; congr 1; omega
  refine PMetT_of mv_X8_writeEntry.2.2.2.2.2.2 hl hI rfl (Nat.le_of_ble_eq_true rfl) (fun G hGX hGL hGV hGT C hB hR hHR hnT => ?_)
  show PW G 14 840 0 [some (pR 40 0), some (pI (J i))] [] μ
  have B0 : BW G cX8_writeEntry 2 RX8 tl (fun v μ' tl' => v = none ∧ μ' = μ ∧ SBX V tl' (dtx w i)) idx V x x.1 := ⟨C, hB, hR, hHR, hGX, hGV, by rw [hGT]; exact hx, Nat.le_refl _⟩
  clear hR C hB
  have K173 : ∀ (G : GT) (y : TX), txC y 59 = dtx w i → BW G cX8_writeEntry 2 RX8 tl (fun v μ' tl' => v = none ∧ μ' = μ ∧ SBX V tl' (dtx w i)) idx V y 20 → PW G 1 60 189 [some (pR 40 0), some (pI (J i))] [] μ := by
    intro G y ey B0
    refine px_aload_n (i := 0) B0.1 dX8_writeEntry_189 rfl rfl ?_
    refine px_getr B0.1 dX8_writeEntry_190 fl_RX8_43 rfl rfl rfl ?_
    refine px_bipush (v := (59 : Int32)) B0.1 dX8_writeEntry_193 rfl ?_
    refine bw_chr (rc' := 0) (rs' := 0) 59 B0 dX8_writeEntry_195 (gw7 200 rfl rfl) rfl (by decide) (Nat.le_of_ble_eq_true rfl) (Nat.le_of_ble_eq_true rfl) (Nat.le_of_ble_eq_true rfl) (fun G195 B195_0 => ?_)
    refine px_pop B195_0.1 dX8_writeEntry_198 rfl ?_
    exact pt_vret B195_0.1 B195_0.2.2.1 dX8_writeEntry_199 rfl ⟨rfl, rfl, by rw [← ey, ← B195_0.2.2.2.2.2.1]; rw [B195_0.2.2.2.2.2.1]; exact B195_0.2.2.2.2.2.2.1⟩
  have K90 : ∀ (G : GT), BW G cX8_writeEntry 2 RX8 tl (fun v μ' tl' => v = none ∧ μ' = μ ∧ SBX V tl' (dtx w i)) idx V (dtx2 w i) 7 → PW G 8 480 98 [some (pR 40 0), some (pI (J i))] [] μ := by
    intro G B0
    refine px_aload_n (i := 0) B0.1 dX8_writeEntry_98 rfl rfl ?_
    refine px_getr B0.1 dX8_writeEntry_99 fl_RX8_43 rfl rfl rfl ?_
    refine px_bipush (v := (64 : Int32)) B0.1 dX8_writeEntry_102 rfl ?_
    refine bw_chr (rc' := 7) (rs' := 420) 64 B0 dX8_writeEntry_104 (gw7 200 rfl rfl) rfl (by decide) (Nat.le_of_ble_eq_true rfl) (Nat.le_of_ble_eq_true rfl) (Nat.le_of_ble_eq_true rfl) (fun G104 B104_7 => ?_)
    refine px_aload_n (i := 0) B104_7.1 dX8_writeEntry_107 rfl rfl ?_
    refine px_getr B104_7.1 dX8_writeEntry_108 fl_RX8_94 rfl rfl rfl ?_
    refine px_getr B104_7.1 dX8_writeEntry_111 fl_RX8_189 rfl rfl rfl ?_
    refine px_iload_n (i := 1) B104_7.1 dX8_writeEntry_114 rfl rfl ?_
    refine px_callS0 (h := 0) (rc' := 7) (rs' := 420) B104_7.1 (HR_le B104_7.2.2.2.1 (Nat.le_of_ble_eq_true rfl)) dX8_writeEntry_115 (gw4 2 rfl rfl) ms_X8_at (at_ok (j := 4) (q := 0) (n := 40) (loc := 256) (PCx_l B104_7.1) (PCx_I B104_7.1) rfl rfl rfl hin) rfl rfl (Nat.le_of_ble_eq_true rfl) (Nat.le_of_ble_eq_true rfl) (Nat.le_of_ble_eq_true rfl) (Nat.le_of_ble_eq_true rfl) ?_
    rintro _ _ ⟨rfl, rfl⟩
    refine bw_num (rc' := 6) (rs' := 360) (v := (w i 3).toNat) B104_7 dX8_writeEntry_118 (gw7 199 rfl rfl) (ev 3 (by decide) (by omega)) (by omega) (dg1 (by omega)) (Nat.le_of_ble_eq_true rfl) (Nat.le_of_ble_eq_true rfl) (Nat.le_of_ble_eq_true rfl) (fun G118 B118_6 => ?_)
    refine px_bipush (v := (58 : Int32)) B118_6.1 dX8_writeEntry_121 rfl ?_
    refine bw_chr (rc' := 5) (rs' := 300) 58 B118_6 dX8_writeEntry_123 (gw7 200 rfl rfl) rfl (by decide) (Nat.le_of_ble_eq_true rfl) (Nat.le_of_ble_eq_true rfl) (Nat.le_of_ble_eq_true rfl) (fun G123 B123_5 => ?_)
    refine px_pop B123_5.1 dX8_writeEntry_126 rfl ?_
    refine px_aload_n (i := 0) B123_5.1 dX8_writeEntry_127 rfl rfl ?_
    refine px_getr B123_5.1 dX8_writeEntry_128 fl_RX8_43 rfl rfl rfl ?_
    refine px_aload_n (i := 0) B123_5.1 dX8_writeEntry_131 rfl rfl ?_
    refine px_getr B123_5.1 dX8_writeEntry_132 fl_RX8_94 rfl rfl rfl ?_
    refine px_getr B123_5.1 dX8_writeEntry_135 fl_RX8_168 rfl rfl rfl ?_
    refine px_iload_n (i := 1) B123_5.1 dX8_writeEntry_138 rfl rfl ?_
    refine px_callS0 (h := 0) (rc' := 5) (rs' := 300) B123_5.1 (HR_le B123_5.2.2.2.1 (Nat.le_of_ble_eq_true rfl)) dX8_writeEntry_139 (gw4 2 rfl rfl) ms_X8_at (at_ok (j := 5) (q := 0) (n := 40) (loc := 320) (PCx_l B123_5.1) (PCx_I B123_5.1) rfl rfl rfl hin) rfl rfl (Nat.le_of_ble_eq_true rfl) (Nat.le_of_ble_eq_true rfl) (Nat.le_of_ble_eq_true rfl) (Nat.le_of_ble_eq_true rfl) ?_
    rintro _ _ ⟨rfl, rfl⟩
    refine bw_num (rc' := 4) (rs' := 240) (v := (w i 4).toNat) B123_5 dX8_writeEntry_142 (gw7 199 rfl rfl) (ev 4 (by decide) (by omega)) (by omega) (dg_le (by omega)).2 (Nat.le_of_ble_eq_true rfl) (Nat.le_of_ble_eq_true rfl) (Nat.le_of_ble_eq_true rfl) (fun G142 B142_4 => ?_)
    refine px_bipush (v := (45 : Int32)) B142_4.1 dX8_writeEntry_145 rfl ?_
    refine bw_chr (rc' := 3) (rs' := 180) 45 B142_4 dX8_writeEntry_147 (gw7 200 rfl rfl) rfl (by decide) (Nat.le_of_ble_eq_true rfl) (Nat.le_of_ble_eq_true rfl) (Nat.le_of_ble_eq_true rfl) (fun G147 B147_3 => ?_)
    refine px_aload_n (i := 0) B147_3.1 dX8_writeEntry_150 rfl rfl ?_
    refine px_getr B147_3.1 dX8_writeEntry_151 fl_RX8_94 rfl rfl rfl ?_
    refine px_getr B147_3.1 dX8_writeEntry_154 fl_RX8_171 rfl rfl rfl ?_
    refine px_iload_n (i := 1) B147_3.1 dX8_writeEntry_157 rfl rfl ?_
    refine px_callS0 (h := 0) (rc' := 3) (rs' := 180) B147_3.1 (HR_le B147_3.2.2.2.1 (Nat.le_of_ble_eq_true rfl)) dX8_writeEntry_158 (gw4 2 rfl rfl) ms_X8_at (at_ok (j := 6) (q := 0) (n := 40) (loc := 384) (PCx_l B147_3.1) (PCx_I B147_3.1) rfl rfl rfl hin) rfl rfl (Nat.le_of_ble_eq_true rfl) (Nat.le_of_ble_eq_true rfl) (Nat.le_of_ble_eq_true rfl) (Nat.le_of_ble_eq_true rfl) ?_
    rintro _ _ ⟨rfl, rfl⟩
    refine bw_num (rc' := 2) (rs' := 120) (v := (w i 5).toNat) B147_3 dX8_writeEntry_161 (gw7 199 rfl rfl) (ev 5 (by decide) (by omega)) (by omega) (dg_le (by omega)).2 (Nat.le_of_ble_eq_true rfl) (Nat.le_of_ble_eq_true rfl) (Nat.le_of_ble_eq_true rfl) (fun G161 B161_2 => ?_)
    refine px_pop B161_2.1 dX8_writeEntry_164 rfl ?_
    refine px_aload_n (i := 0) B161_2.1 dX8_writeEntry_165 rfl rfl ?_
    refine px_getr B161_2.1 dX8_writeEntry_166 fl_RX8_94 rfl rfl rfl ?_
    refine px_getr B161_2.1 dX8_writeEntry_169 fl_RX8_174 rfl rfl rfl ?_
    refine px_iload_n (i := 1) B161_2.1 dX8_writeEntry_172 rfl rfl ?_
    refine px_callS0 (h := 0) (rc' := 2) (rs' := 120) B161_2.1 (HR_le B161_2.2.2.2.1 (Nat.le_of_ble_eq_true rfl)) dX8_writeEntry_173 (gw4 23 rfl rfl) ms_X8_flagAt (flagAt_ok (j := 7) (q := 0) (n := 40) (loc := 448) (PCx_l B161_2.1) (PCx_I B161_2.1) rfl rfl rfl hin) rfl rfl (Nat.le_of_ble_eq_true rfl) (Nat.le_of_ble_eq_true rfl) (Nat.le_of_ble_eq_true rfl) (Nat.le_of_ble_eq_true rfl) ?_
    rintro _ _ ⟨rfl, rfl⟩
    refine px_if_eq (tgt := 189) B161_2.1 dX8_writeEntry_176 (by decide) (fun c5 => ?_) (fun c5 => ?_)
    · replace c5 : J (w i 6) = J 0 := (ev0 6 (by decide)).symm.trans (fz_1 c5)
      rw [J_eq (by omega) (by decide)] at c5
      refine pw_less (by decide) (by decide) (K173 _ _ ?_ (by obtain ⟨b1, b2, b3, b4, b5, b6, b7, b8⟩ := B161_2; exact ⟨b1, b2, b3, b4, b5, b6, b7, Nat.le_trans b8 (by decide)⟩))
      show _ = txC (if w i 6 = 1 then txC (dtx3 w i) 33 else dtx3 w i) 59
      rw [if_neg (by omega)]; rfl
    · replace c5 : ¬ J (w i 6) = J 0 := fun z => fz_2 c5 ((ev0 6 (by decide)).trans z)
      rw [J_eq (by omega) (by decide)] at c5
      refine px_aload_n (i := 0) B161_2.1 dX8_writeEntry_179 rfl rfl ?_
      refine px_getr B161_2.1 dX8_writeEntry_180 fl_RX8_43 rfl rfl rfl ?_
      refine px_bipush (v := (33 : Int32)) B161_2.1 dX8_writeEntry_183 rfl ?_
      refine bw_chr (rc' := 1) (rs' := 60) 33 B161_2 dX8_writeEntry_185 (gw7 200 rfl rfl) rfl (by decide) (Nat.le_of_ble_eq_true rfl) (Nat.le_of_ble_eq_true rfl) (Nat.le_of_ble_eq_true rfl) (fun G185 B185_1 => ?_)
      refine px_pop B185_1.1 dX8_writeEntry_188 rfl ?_
      refine K173 _ _ ?_ (by obtain ⟨b1, b2, b3, b4, b5, b6, b7, b8⟩ := B185_1; exact ⟨b1, b2, b3, b4, b5, b6, b7, Nat.le_trans b8 (by decide)⟩)
      show _ = txC (if w i 6 = 1 then txC (dtx3 w i) 33 else dtx3 w i) 59
      rw [if_pos (by omega)]; rfl
  refine px_aload_n (i := 0) B0.1 dX8_writeEntry_0 rfl rfl ?_
  refine px_getr B0.1 dX8_writeEntry_1 fl_RX8_43 rfl rfl rfl ?_
  refine px_iconst (v := (0 : Int32)) B0.1 dX8_writeEntry_4 rfl ?_
  refine bw_set (rc' := 13) (rs' := 780) B0 dX8_writeEntry_5 (gw6 186 rfl rfl) rfl (Nat.le_of_ble_eq_true rfl) (Nat.le_of_ble_eq_true rfl) (fun G5 B5_13 => ?_)
  refine px_aload_n (i := 0) B5_13.1 dX8_writeEntry_8 rfl rfl ?_
  refine px_getr B5_13.1 dX8_writeEntry_9 fl_RX8_43 rfl rfl rfl ?_
  refine px_aload_n (i := 0) B5_13.1 dX8_writeEntry_12 rfl rfl ?_
  refine px_getr B5_13.1 dX8_writeEntry_13 fl_RX8_94 rfl rfl rfl ?_
  refine px_getr B5_13.1 dX8_writeEntry_16 fl_RX8_186 rfl rfl rfl ?_
  refine px_iload_n (i := 1) B5_13.1 dX8_writeEntry_19 rfl rfl ?_
  refine px_callS0 (h := 0) (rc' := 13) (rs' := 780) B5_13.1 (HR_le B5_13.2.2.2.1 (Nat.le_of_ble_eq_true rfl)) dX8_writeEntry_20 (gw4 2 rfl rfl) ms_X8_at (at_ok (j := 1) (q := 0) (n := 40) (loc := 64) (PCx_l B5_13.1) (PCx_I B5_13.1) rfl rfl rfl hin) rfl rfl (Nat.le_of_ble_eq_true rfl) (Nat.le_of_ble_eq_true rfl) (Nat.le_of_ble_eq_true rfl) (Nat.le_of_ble_eq_true rfl) ?_
  rintro _ _ ⟨rfl, rfl⟩
  refine bw_num (rc' := 12) (rs' := 720) (v := (w i 1).toNat) B5_13 dX8_writeEntry_23 (gw7 199 rfl rfl) (ev 1 (by decide) (by omega)) (by omega) (dg1 (by omega)) (Nat.le_of_ble_eq_true rfl) (Nat.le_of_ble_eq_true rfl) (Nat.le_of_ble_eq_true rfl) (fun G23 B23_12 => ?_)
  refine px_bipush (v := (47 : Int32)) B23_12.1 dX8_writeEntry_26 rfl ?_
  refine bw_chr (rc' := 11) (rs' := 660) 47 B23_12 dX8_writeEntry_28 (gw7 200 rfl rfl) rfl (by decide) (Nat.le_of_ble_eq_true rfl) (Nat.le_of_ble_eq_true rfl) (Nat.le_of_ble_eq_true rfl) (fun G28 B28_11 => ?_)
  refine px_aload_n (i := 0) B28_11.1 dX8_writeEntry_31 rfl rfl ?_
  refine px_getr B28_11.1 dX8_writeEntry_32 fl_RX8_94 rfl rfl rfl ?_
  refine px_getr B28_11.1 dX8_writeEntry_35 fl_RX8_252 rfl rfl rfl ?_
  refine px_iload_n (i := 1) B28_11.1 dX8_writeEntry_38 rfl rfl ?_
  refine px_callS0 (h := 0) (rc' := 11) (rs' := 660) B28_11.1 (HR_le B28_11.2.2.2.1 (Nat.le_of_ble_eq_true rfl)) dX8_writeEntry_39 (gw4 2 rfl rfl) ms_X8_at (at_ok (j := 2) (q := 0) (n := 40) (loc := 128) (PCx_l B28_11.1) (PCx_I B28_11.1) rfl rfl rfl hin) rfl rfl (Nat.le_of_ble_eq_true rfl) (Nat.le_of_ble_eq_true rfl) (Nat.le_of_ble_eq_true rfl) (Nat.le_of_ble_eq_true rfl) ?_
  rintro _ _ ⟨rfl, rfl⟩
  refine bw_num (rc' := 10) (rs' := 600) (v := (w i 0).toNat) B28_11 dX8_writeEntry_42 (gw7 199 rfl rfl) (ev 0 (by decide) (by omega)) (by omega) (dg2 (by omega)) (Nat.le_of_ble_eq_true rfl) (Nat.le_of_ble_eq_true rfl) (Nat.le_of_ble_eq_true rfl) (fun G42 B42_10 => ?_)
  refine px_bipush (v := (60 : Int32)) B42_10.1 dX8_writeEntry_45 rfl ?_
  refine bw_chr (rc' := 9) (rs' := 540) 60 B42_10 dX8_writeEntry_47 (gw7 200 rfl rfl) rfl (by decide) (Nat.le_of_ble_eq_true rfl) (Nat.le_of_ble_eq_true rfl) (Nat.le_of_ble_eq_true rfl) (fun G47 B47_9 => ?_)
  refine px_pop B47_9.1 dX8_writeEntry_50 rfl ?_
  refine px_aload_n (i := 0) B47_9.1 dX8_writeEntry_51 rfl rfl ?_
  refine px_getr B47_9.1 dX8_writeEntry_52 fl_RX8_94 rfl rfl rfl ?_
  refine px_getr B47_9.1 dX8_writeEntry_55 fl_RX8_151 rfl rfl rfl ?_
  refine px_iload_n (i := 1) B47_9.1 dX8_writeEntry_58 rfl rfl ?_
  refine px_callS0 (h := 0) (rc' := 9) (rs' := 540) B47_9.1 (HR_le B47_9.2.2.2.1 (Nat.le_of_ble_eq_true rfl)) dX8_writeEntry_59 (gw4 2 rfl rfl) ms_X8_at (at_ok (j := 3) (q := 0) (n := 40) (loc := 192) (PCx_l B47_9.1) (PCx_I B47_9.1) rfl rfl rfl hin) rfl rfl (Nat.le_of_ble_eq_true rfl) (Nat.le_of_ble_eq_true rfl) (Nat.le_of_ble_eq_true rfl) (Nat.le_of_ble_eq_true rfl) ?_
  rintro _ _ ⟨rfl, rfl⟩
  refine px_iconst (v := (-1 : Int32)) B47_9.1 dX8_writeEntry_62 rfl ?_
  refine px_icmp_ne (tgt := 79) B47_9.1 dX8_writeEntry_63 (by decide) (fun c5 => ?_) (fun c5 => ?_)
  · replace c5 : ¬ J (w i 2) = J (-1) := fun z => c5 ((ev0 2 (by decide)).trans z)
    rw [J_eq (by omega) (by decide)] at c5
    refine px_aload_n (i := 0) B47_9.1 dX8_writeEntry_79 rfl rfl ?_
    refine px_getr B47_9.1 dX8_writeEntry_80 fl_RX8_43 rfl rfl rfl ?_
    refine px_aload_n (i := 0) B47_9.1 dX8_writeEntry_83 rfl rfl ?_
    refine px_getr B47_9.1 dX8_writeEntry_84 fl_RX8_94 rfl rfl rfl ?_
    refine px_getr B47_9.1 dX8_writeEntry_87 fl_RX8_151 rfl rfl rfl ?_
    refine px_iload_n (i := 1) B47_9.1 dX8_writeEntry_90 rfl rfl ?_
    refine px_callS0 (h := 0) (rc' := 9) (rs' := 540) B47_9.1 (HR_le B47_9.2.2.2.1 (Nat.le_of_ble_eq_true rfl)) dX8_writeEntry_91 (gw4 2 rfl rfl) ms_X8_at (at_ok (j := 3) (q := 0) (n := 40) (loc := 192) (PCx_l B47_9.1) (PCx_I B47_9.1) rfl rfl rfl hin) rfl rfl (Nat.le_of_ble_eq_true rfl) (Nat.le_of_ble_eq_true rfl) (Nat.le_of_ble_eq_true rfl) (Nat.le_of_ble_eq_true rfl) ?_
    rintro _ _ ⟨rfl, rfl⟩
    refine bw_num (rc' := 8) (rs' := 480) (v := (w i 2).toNat) B47_9 dX8_writeEntry_94 (gw7 199 rfl rfl) (ev 2 (by decide) (by omega)) (by omega) (dg2 (by omega)) (Nat.le_of_ble_eq_true rfl) (Nat.le_of_ble_eq_true rfl) (Nat.le_of_ble_eq_true rfl) (fun G94 B94_8 => ?_)
    refine px_pop B94_8.1 dX8_writeEntry_97 rfl ?_
    refine K90 _ ?_
    rw [show dtx2 w i = txN (dtx1 w i) (w i 2).toNat from if_neg c5]
    exact B94_8
  · replace c5 : J (w i 2) = J (-1) := (ev0 2 (by decide)).symm.trans c5
    rw [J_eq (by omega) (by decide)] at c5
    refine px_aload_n (i := 0) B47_9.1 dX8_writeEntry_66 rfl rfl ?_
    refine px_getr B47_9.1 dX8_writeEntry_67 fl_RX8_43 rfl rfl rfl ?_
    refine px_bipush (v := (45 : Int32)) B47_9.1 dX8_writeEntry_70 rfl ?_
    refine bw_chr (rc' := 8) (rs' := 480) 45 B47_9 dX8_writeEntry_72 (gw7 200 rfl rfl) rfl (by decide) (Nat.le_of_ble_eq_true rfl) (Nat.le_of_ble_eq_true rfl) (Nat.le_of_ble_eq_true rfl) (fun G72 B72_8 => ?_)
    refine px_pop B72_8.1 dX8_writeEntry_75 rfl ?_
    refine px_goto (tgt := 98) B72_8.1 dX8_writeEntry_76 (by decide) ?_
    refine K90 _ ?_
    rw [show dtx2 w i = txC (dtx1 w i) 45 from if_pos c5]
    obtain ⟨b1, b2, b3, b4, b5, b6, b7, b8⟩ := B72_8
    exact ⟨b1, b2, b3, b4, b5, b6, b7, Nat.le_trans b8 (by decide)⟩
