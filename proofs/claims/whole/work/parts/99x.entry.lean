-- writeEntry of the class (gen/mk_we.py)
theorem fl_RX8_43 : FL RX8 43 12 10 := ⟨RX8, TX8, 14, rfl, by decide, inX8, rfl, (gw2 112 rfl rfl)⟩
theorem dX8_writeEntry_0 : decode cX8_writeEntry 0 = .ok (.aload_n 0, 1) := by decide +kernel
theorem dX8_writeEntry_1 : decode cX8_writeEntry 1 = .ok (.getfield 43, 3) := by decide +kernel
theorem dX8_writeEntry_4 : decode cX8_writeEntry 4 = .ok (.iconst 0, 1) := by decide +kernel
theorem dX8_writeEntry_5 : decode cX8_writeEntry 5 = .ok (.invokevirtual 490, 3) := by decide +kernel
theorem dX8_writeEntry_8 : decode cX8_writeEntry 8 = .ok (.aload_n 0, 1) := by decide +kernel
theorem dX8_writeEntry_9 : decode cX8_writeEntry 9 = .ok (.getfield 43, 3) := by decide +kernel
theorem dX8_writeEntry_12 : decode cX8_writeEntry 12 = .ok (.aload_n 0, 1) := by decide +kernel
theorem dX8_writeEntry_13 : decode cX8_writeEntry 13 = .ok (.getfield 94, 3) := by decide +kernel
theorem dX8_writeEntry_16 : decode cX8_writeEntry 16 = .ok (.getfield 170, 3) := by decide +kernel
theorem dX8_writeEntry_19 : decode cX8_writeEntry 19 = .ok (.iload_n 1, 1) := by decide +kernel
theorem dX8_writeEntry_20 : decode cX8_writeEntry 20 = .ok (.iaload, 1) := by decide +kernel
theorem dX8_writeEntry_21 : decode cX8_writeEntry 21 = .ok (.invokevirtual 493, 3) := by decide +kernel
theorem dX8_writeEntry_24 : decode cX8_writeEntry 24 = .ok (.bipush 47, 2) := by decide +kernel
theorem dX8_writeEntry_26 : decode cX8_writeEntry 26 = .ok (.invokevirtual 497, 3) := by decide +kernel
theorem dX8_writeEntry_29 : decode cX8_writeEntry 29 = .ok (.aload_n 0, 1) := by decide +kernel
theorem dX8_writeEntry_30 : decode cX8_writeEntry 30 = .ok (.getfield 94, 3) := by decide +kernel
theorem dX8_writeEntry_33 : decode cX8_writeEntry 33 = .ok (.getfield 236, 3) := by decide +kernel
theorem dX8_writeEntry_36 : decode cX8_writeEntry 36 = .ok (.iload_n 1, 1) := by decide +kernel
theorem dX8_writeEntry_37 : decode cX8_writeEntry 37 = .ok (.iaload, 1) := by decide +kernel
theorem dX8_writeEntry_38 : decode cX8_writeEntry 38 = .ok (.invokevirtual 493, 3) := by decide +kernel
theorem dX8_writeEntry_41 : decode cX8_writeEntry 41 = .ok (.bipush 60, 2) := by decide +kernel
theorem dX8_writeEntry_43 : decode cX8_writeEntry 43 = .ok (.invokevirtual 497, 3) := by decide +kernel
theorem dX8_writeEntry_46 : decode cX8_writeEntry 46 = .ok (.pop, 1) := by decide +kernel
theorem dX8_writeEntry_47 : decode cX8_writeEntry 47 = .ok (.aload_n 0, 1) := by decide +kernel
theorem dX8_writeEntry_48 : decode cX8_writeEntry 48 = .ok (.getfield 94, 3) := by decide +kernel
theorem dX8_writeEntry_51 : decode cX8_writeEntry 51 = .ok (.getfield 151, 3) := by decide +kernel
theorem dX8_writeEntry_54 : decode cX8_writeEntry 54 = .ok (.iload_n 1, 1) := by decide +kernel
theorem dX8_writeEntry_55 : decode cX8_writeEntry 55 = .ok (.iaload, 1) := by decide +kernel
theorem dX8_writeEntry_56 : decode cX8_writeEntry 56 = .ok (.iconst (-1), 1) := by decide +kernel
theorem dX8_writeEntry_57 : decode cX8_writeEntry 57 = .ok (.if_icmp .ne 16, 3) := by decide +kernel
theorem dX8_writeEntry_60 : decode cX8_writeEntry 60 = .ok (.aload_n 0, 1) := by decide +kernel
theorem dX8_writeEntry_61 : decode cX8_writeEntry 61 = .ok (.getfield 43, 3) := by decide +kernel
theorem dX8_writeEntry_64 : decode cX8_writeEntry 64 = .ok (.bipush 45, 2) := by decide +kernel
theorem dX8_writeEntry_66 : decode cX8_writeEntry 66 = .ok (.invokevirtual 497, 3) := by decide +kernel
theorem dX8_writeEntry_69 : decode cX8_writeEntry 69 = .ok (.pop, 1) := by decide +kernel
theorem dX8_writeEntry_70 : decode cX8_writeEntry 70 = .ok (.goto 20, 3) := by decide +kernel
theorem dX8_writeEntry_73 : decode cX8_writeEntry 73 = .ok (.aload_n 0, 1) := by decide +kernel
theorem dX8_writeEntry_74 : decode cX8_writeEntry 74 = .ok (.getfield 43, 3) := by decide +kernel
theorem dX8_writeEntry_77 : decode cX8_writeEntry 77 = .ok (.aload_n 0, 1) := by decide +kernel
theorem dX8_writeEntry_78 : decode cX8_writeEntry 78 = .ok (.getfield 94, 3) := by decide +kernel
theorem dX8_writeEntry_81 : decode cX8_writeEntry 81 = .ok (.getfield 151, 3) := by decide +kernel
theorem dX8_writeEntry_84 : decode cX8_writeEntry 84 = .ok (.iload_n 1, 1) := by decide +kernel
theorem dX8_writeEntry_85 : decode cX8_writeEntry 85 = .ok (.iaload, 1) := by decide +kernel
theorem dX8_writeEntry_86 : decode cX8_writeEntry 86 = .ok (.invokevirtual 493, 3) := by decide +kernel
theorem dX8_writeEntry_89 : decode cX8_writeEntry 89 = .ok (.pop, 1) := by decide +kernel
theorem dX8_writeEntry_90 : decode cX8_writeEntry 90 = .ok (.aload_n 0, 1) := by decide +kernel
theorem dX8_writeEntry_91 : decode cX8_writeEntry 91 = .ok (.getfield 43, 3) := by decide +kernel
theorem dX8_writeEntry_94 : decode cX8_writeEntry 94 = .ok (.bipush 64, 2) := by decide +kernel
theorem dX8_writeEntry_96 : decode cX8_writeEntry 96 = .ok (.invokevirtual 497, 3) := by decide +kernel
theorem dX8_writeEntry_99 : decode cX8_writeEntry 99 = .ok (.aload_n 0, 1) := by decide +kernel
theorem dX8_writeEntry_100 : decode cX8_writeEntry 100 = .ok (.getfield 94, 3) := by decide +kernel
theorem dX8_writeEntry_103 : decode cX8_writeEntry 103 = .ok (.getfield 173, 3) := by decide +kernel
theorem dX8_writeEntry_106 : decode cX8_writeEntry 106 = .ok (.iload_n 1, 1) := by decide +kernel
theorem dX8_writeEntry_107 : decode cX8_writeEntry 107 = .ok (.iaload, 1) := by decide +kernel
theorem dX8_writeEntry_108 : decode cX8_writeEntry 108 = .ok (.invokevirtual 493, 3) := by decide +kernel
theorem dX8_writeEntry_111 : decode cX8_writeEntry 111 = .ok (.bipush 58, 2) := by decide +kernel
theorem dX8_writeEntry_113 : decode cX8_writeEntry 113 = .ok (.invokevirtual 497, 3) := by decide +kernel
theorem dX8_writeEntry_116 : decode cX8_writeEntry 116 = .ok (.pop, 1) := by decide +kernel
theorem dX8_writeEntry_117 : decode cX8_writeEntry 117 = .ok (.aload_n 0, 1) := by decide +kernel
theorem dX8_writeEntry_118 : decode cX8_writeEntry 118 = .ok (.getfield 43, 3) := by decide +kernel
theorem dX8_writeEntry_121 : decode cX8_writeEntry 121 = .ok (.aload_n 0, 1) := by decide +kernel
theorem dX8_writeEntry_122 : decode cX8_writeEntry 122 = .ok (.getfield 94, 3) := by decide +kernel
theorem dX8_writeEntry_125 : decode cX8_writeEntry 125 = .ok (.getfield 160, 3) := by decide +kernel
theorem dX8_writeEntry_128 : decode cX8_writeEntry 128 = .ok (.iload_n 1, 1) := by decide +kernel
theorem dX8_writeEntry_129 : decode cX8_writeEntry 129 = .ok (.iaload, 1) := by decide +kernel
theorem dX8_writeEntry_130 : decode cX8_writeEntry 130 = .ok (.invokevirtual 493, 3) := by decide +kernel
theorem dX8_writeEntry_133 : decode cX8_writeEntry 133 = .ok (.bipush 45, 2) := by decide +kernel
theorem dX8_writeEntry_135 : decode cX8_writeEntry 135 = .ok (.invokevirtual 497, 3) := by decide +kernel
theorem dX8_writeEntry_138 : decode cX8_writeEntry 138 = .ok (.aload_n 0, 1) := by decide +kernel
theorem dX8_writeEntry_139 : decode cX8_writeEntry 139 = .ok (.getfield 94, 3) := by decide +kernel
theorem dX8_writeEntry_142 : decode cX8_writeEntry 142 = .ok (.getfield 163, 3) := by decide +kernel
theorem dX8_writeEntry_145 : decode cX8_writeEntry 145 = .ok (.iload_n 1, 1) := by decide +kernel
theorem dX8_writeEntry_146 : decode cX8_writeEntry 146 = .ok (.iaload, 1) := by decide +kernel
theorem dX8_writeEntry_147 : decode cX8_writeEntry 147 = .ok (.invokevirtual 493, 3) := by decide +kernel
theorem dX8_writeEntry_150 : decode cX8_writeEntry 150 = .ok (.pop, 1) := by decide +kernel
theorem dX8_writeEntry_151 : decode cX8_writeEntry 151 = .ok (.aload_n 0, 1) := by decide +kernel
theorem dX8_writeEntry_152 : decode cX8_writeEntry 152 = .ok (.getfield 94, 3) := by decide +kernel
theorem dX8_writeEntry_155 : decode cX8_writeEntry 155 = .ok (.getfield 166, 3) := by decide +kernel
theorem dX8_writeEntry_158 : decode cX8_writeEntry 158 = .ok (.iload_n 1, 1) := by decide +kernel
theorem dX8_writeEntry_159 : decode cX8_writeEntry 159 = .ok (.baload, 1) := by decide +kernel
theorem dX8_writeEntry_160 : decode cX8_writeEntry 160 = .ok (.ifCond .eq 13, 3) := by decide +kernel
theorem dX8_writeEntry_163 : decode cX8_writeEntry 163 = .ok (.aload_n 0, 1) := by decide +kernel
theorem dX8_writeEntry_164 : decode cX8_writeEntry 164 = .ok (.getfield 43, 3) := by decide +kernel
theorem dX8_writeEntry_167 : decode cX8_writeEntry 167 = .ok (.bipush 33, 2) := by decide +kernel
theorem dX8_writeEntry_169 : decode cX8_writeEntry 169 = .ok (.invokevirtual 497, 3) := by decide +kernel
theorem dX8_writeEntry_172 : decode cX8_writeEntry 172 = .ok (.pop, 1) := by decide +kernel
theorem dX8_writeEntry_173 : decode cX8_writeEntry 173 = .ok (.aload_n 0, 1) := by decide +kernel
theorem dX8_writeEntry_174 : decode cX8_writeEntry 174 = .ok (.getfield 43, 3) := by decide +kernel
theorem dX8_writeEntry_177 : decode cX8_writeEntry 177 = .ok (.bipush 59, 2) := by decide +kernel
theorem dX8_writeEntry_179 : decode cX8_writeEntry 179 = .ok (.invokevirtual 497, 3) := by decide +kernel
theorem dX8_writeEntry_182 : decode cX8_writeEntry 182 = .ok (.pop, 1) := by decide +kernel
theorem dX8_writeEntry_183 : decode cX8_writeEntry 183 = .ok (.return_, 1) := by decide +kernel
/-- what a body that writes on the builder knows -/
def BW (G : GT) (cc : ByteArray) (nL : Nat) (own : String) (tl0 : va_W) (P : Option PV → Mem → va_W → Prop) (idx : List (Nat × Nat)) (V : VT) (x : TX) (n : Nat) : Prop := PCx G cc nL own ∧ SBG G ∧ PRtT G tl0 none P (fun _ _ _ => False) ∧ HR G 6 ∧ GX G = idx ∧ GV G = V ∧ SBX V (GTl G) x ∧ x.1 ≤ n
theorem BW.tl {G : GT} {cc : ByteArray} {nL : Nat} {own : String} {tl0 : va_W} {P : Option PV → Mem → va_W → Prop} {idx : List (Nat × Nat)} {V : VT} {x x' : TX} {n n' : Nat} {tl' : va_W} (B : BW G cc nL own tl0 P idx V x n) (h : TlOK (GV G) (GX G) (G.2.2.2.2.1).heap.size (GTl G) tl') (hx : SBX (GV G) tl' x') (hn : x'.1 ≤ n') : BW (setTl G tl') cc nL own tl0 P idx V x' n' := by
  obtain ⟨b1, b2, b3, b4, b5, b6, b7, b8⟩ := B
  have c1 := PCx_tl b1 h
  obtain ⟨p, l, e, R, s, m, args, below, meth, c, Q, A, V1, idx1, tl⟩ := G
  subst b6
  exact ⟨c1, b2, b3, b4, b5, rfl, hx, hn⟩
section BWs
variable {G : GT} {cc : ByteArray} {nL : Nat} {own : String} {rc rs pc : Nat} {ls : List (Option PV)} {μ : Mem} {tl0 : va_W} {P : Option PV → Mem → va_W → Prop} {idx : List (Nat × Nat)} {V : VT} {x : TX} {n : Nat}
theorem pw_less {pc rc' rs' : Nat} {st : List PV} (h3 : rc' ≤ rc) (h4 : rs' ≤ rs) (k : PW G rc' rs' pc ls st μ) : PW G rc rs pc ls st μ := by
  obtain ⟨p, l, e, R, s, m, args, below, meth, c, Q, A, V, idx, tl⟩ := G
  intro H locs cells slots lsM hP hS hl hL hV h1 h2
  exact k H locs cells slots lsM hP hS hl hL hV (by omega) (by omega)
theorem bw_num {i v j rc' rs' : Nat} {y : Int32} (B : BW G cc nL own tl0 P idx V x n) (d : decode cc pc = .ok (.invokevirtual i, 3)) (hl : Cond.methodLink own i yJ4_append_bf812 ∈ gW) (ey : y = nI v) (hv : v < 10000) (hj : sb_dg v ≤ j) (hn : n + j ≤ 27) (hrc : 1 + rc' ≤ rc) (hrs : 60 + rs' ≤ rs)
    (k : ∀ G1 : GT, BW G1 cc nL own tl0 P idx V (txN x v) (n + j) → PW G1 rc' rs' (pc + 3) ls [pR 41 0] μ) : PW G rc rs pc ls [pI y, pR 41 0] μ := by
  subst ey
  have B0 := B
  obtain ⟨b1, b2, b3, b4, b5, b6, b7, b8⟩ := B
  have hl2 : x.1 + sb_dg v ≤ 27 := by omega
  subst b6
  exact pt_callSB (as := [pI (nI v)]) (rest := []) (rv := some (pR 41 0)) b1 b2 b7 b4 d hl mv_J4_append_bf812 rfl (fun V9 a q m f ml hV ha h1 h2 h3 h4 h5 => by
    subst hV; subst ha
    exact c_api4 x _ q m f ml v ⟨h1, h2, h3, h4, h5⟩ hv hl2) (fun z hz => by cases hz; exact Or.inr rfl) rfl rfl (Nat.le_of_ble_eq_true rfl) (Nat.le_of_ble_eq_true rfl) hrc hrs (fun tl' z1 z2 => k _ (B0.tl z2 z1 (Nat.add_le_add b8 hj)))
theorem bw_chr {i rc' rs' : Nat} (c : Nat) {y : Int32} (B : BW G cc nL own tl0 P idx V x n) (d : decode cc pc = .ok (.invokevirtual i, 3)) (hl : Cond.methodLink own i yJ4_append_cf468 ∈ gW) (ey : y = nI c) (hc : c < 256) (hn : n + 1 ≤ 27) (hrc : 1 + rc' ≤ rc) (hrs : 60 + rs' ≤ rs)
    (k : ∀ G1 : GT, BW G1 cc nL own tl0 P idx V (txC x c) (n + 1) → PW G1 rc' rs' (pc + 3) ls [pR 41 0] μ) : PW G rc rs pc ls [pI y, pR 41 0] μ := by
  subst ey
  have B0 := B
  obtain ⟨b1, b2, b3, b4, b5, b6, b7, b8⟩ := B
  have hl2 : x.1 < 27 := by omega
  subst b6
  exact pt_callSB (as := [pI (nI c)]) (rest := []) (rv := some (pR 41 0)) b1 b2 b7 b4 d hl mv_J4_append_cf468 rfl (fun V9 a q m f ml hV ha h1 h2 h3 h4 h5 => by
    subst hV; subst ha
    exact c_app4 x _ q m f ml c ⟨h1, h2, h3, h4, h5⟩ hc hl2) (fun z hz => by cases hz; exact Or.inr rfl) rfl rfl (Nat.le_of_ble_eq_true rfl) (Nat.le_of_ble_eq_true rfl) hrc hrs (fun tl' z1 z2 => k _ (B0.tl z2 z1 (Nat.succ_le_succ b8)))
theorem bw_set {i rc' rs' : Nat} {y : Int32} (B : BW G cc nL own tl0 P idx V x n) (d : decode cc pc = .ok (.invokevirtual i, 3)) (hl : Cond.methodLink own i yJ4_setLength_d00df ∈ gW) (ey : y = nI 0) (hrc : 1 + rc' ≤ rc) (hrs : 60 + rs' ≤ rs)
    (k : ∀ G1 : GT, BW G1 cc nL own tl0 P idx V tx0 0 → PW G1 rc' rs' (pc + 3) ls [] μ) : PW G rc rs pc ls [pI y, pR 41 0] μ := by
  subst ey
  have B0 := B
  obtain ⟨b1, b2, b3, b4, b5, b6, b7, b8⟩ := B
  subst b6
  exact pt_callSB (as := [pI (nI 0)]) (rest := []) (rv := none) b1 b2 b7 b4 d hl mv_J4_setLength_d00df rfl (fun V9 a q m f ml hV ha h1 h2 h3 h4 h5 => by
    subst hV; subst ha
    exact c_set4 x _ q m f ml ⟨h1, h2, h3, h4, h5⟩) (fun z hz => by cases hz) rfl rfl (Nat.le_of_ble_eq_true rfl) (Nat.le_of_ble_eq_true rfl) hrc hrs (fun tl' z1 z2 => k _ (B0.tl z2 z1 (Nat.le_refl _)))
end BWs
theorem c_writeEntry {l : Launch} {idx : List (Nat × Nat)} {V : VT} {tl : va_W} {μ : Mem} {n : Nat} {w : View} {i : Nat} {x : TX} (hl : l.stackTraces = false) (hI : IdxOK idx) (hS : SV μ 0 n w) (hi : i < n) (hn : n ≤ 40) (r : Rg w i) (hx : SBX V tl x) : PMetT l yX8_writeEntry (.code yX8_writeEntry cX8_writeEntry 2 none) 6 14 840 idx [pR 40 0, pI (J i)] μ V tl (fun v μ' tl' => v = none ∧ μ' = μ ∧ SBX V tl' (dtx w i)) (fun _ _ _ => False) := by
  have ec : (J (i : Int)).toNatClampNeg = i := by rw [J_clamp (by omega)]; exact Int.toNat_natCast i
  have hin : vp_in (J (i : Int)) 40 := (J_in (by omega)).mpr (by omega)
  have ev0 : ∀ c, c < 7 → sA μ 0 c (J (i : Int)).toNatClampNeg = J (w i c) := fun c hc => by rw [ec]; exact hS.2 i hi c hc
  have ev : ∀ c, c < 7 → 0 ≤ w i c → sA μ 0 c (J (i : Int)).toNatClampNeg = nI (w i c).toNat := fun c hc h0 => by rw [ev0 c hc, ← Jn]; congr 1; omega
  refine PMetT_of mv_X8_writeEntry.2.2.2.2.2.2 hl hI rfl (Nat.le_of_ble_eq_true rfl) (fun G hGX hGL hGV hGT C hB hR hHR hnT => ?_)
  show PW G 14 840 0 [some (pR 40 0), some (pI (J i))] [] μ
  have B0 : BW G cX8_writeEntry 2 RX8 tl (fun v μ' tl' => v = none ∧ μ' = μ ∧ SBX V tl' (dtx w i)) idx V x x.1 := ⟨C, hB, hR, hHR, hGX, hGV, by rw [hGT]; exact hx, Nat.le_refl _⟩
  clear hR C hB
  have K173 : ∀ (G : GT) (y : TX), txC y 59 = dtx w i → BW G cX8_writeEntry 2 RX8 tl (fun v μ' tl' => v = none ∧ μ' = μ ∧ SBX V tl' (dtx w i)) idx V y 20 → PW G 1 60 173 [some (pR 40 0), some (pI (J i))] [] μ := by
    intro G y ey B0
    refine px_aload_n (i := 0) B0.1 dX8_writeEntry_173 rfl rfl ?_
    refine px_getr B0.1 dX8_writeEntry_174 fl_RX8_43 rfl rfl rfl ?_
    refine px_bipush (v := (59 : Int32)) B0.1 dX8_writeEntry_177 rfl ?_
    refine bw_chr (rc' := 0) (rs' := 0) 59 B0 dX8_writeEntry_179 (gw7 165 rfl rfl) rfl (by decide) (Nat.le_of_ble_eq_true rfl) (Nat.le_of_ble_eq_true rfl) (Nat.le_of_ble_eq_true rfl) (fun G179 B179_0 => ?_)
    refine px_pop B179_0.1 dX8_writeEntry_182 rfl ?_
    exact pt_vret B179_0.1 B179_0.2.2.1 dX8_writeEntry_183 rfl ⟨rfl, rfl, by rw [← ey, ← B179_0.2.2.2.2.2.1]; rw [B179_0.2.2.2.2.2.1]; exact B179_0.2.2.2.2.2.2.1⟩
  have K90 : ∀ (G : GT), BW G cX8_writeEntry 2 RX8 tl (fun v μ' tl' => v = none ∧ μ' = μ ∧ SBX V tl' (dtx w i)) idx V (dtx2 w i) 7 → PW G 8 480 90 [some (pR 40 0), some (pI (J i))] [] μ := by
    intro G B0
    refine px_aload_n (i := 0) B0.1 dX8_writeEntry_90 rfl rfl ?_
    refine px_getr B0.1 dX8_writeEntry_91 fl_RX8_43 rfl rfl rfl ?_
    refine px_bipush (v := (64 : Int32)) B0.1 dX8_writeEntry_94 rfl ?_
    refine bw_chr (rc' := 7) (rs' := 420) 64 B0 dX8_writeEntry_96 (gw7 165 rfl rfl) rfl (by decide) (Nat.le_of_ble_eq_true rfl) (Nat.le_of_ble_eq_true rfl) (Nat.le_of_ble_eq_true rfl) (fun G96 B96_7 => ?_)
    refine px_aload_n (i := 0) B96_7.1 dX8_writeEntry_99 rfl rfl ?_
    refine px_getr B96_7.1 dX8_writeEntry_100 fl_RX8_94 rfl rfl rfl ?_
    refine px_getr B96_7.1 dX8_writeEntry_103 fl_RX8_173 rfl rfl rfl ?_
    refine px_iload_n (i := 1) B96_7.1 dX8_writeEntry_106 rfl rfl ?_
    refine px_iald 256 B96_7.1 dX8_writeEntry_107 rfl rfl rfl rfl hin ?_
    refine bw_num (rc' := 6) (rs' := 360) (v := (w i 3).toNat) B96_7 dX8_writeEntry_108 (gw7 164 rfl rfl) (ev 3 (by decide) (by omega)) (by omega) (dg1 (by omega)) (Nat.le_of_ble_eq_true rfl) (Nat.le_of_ble_eq_true rfl) (Nat.le_of_ble_eq_true rfl) (fun G108 B108_6 => ?_)
    refine px_bipush (v := (58 : Int32)) B108_6.1 dX8_writeEntry_111 rfl ?_
    refine bw_chr (rc' := 5) (rs' := 300) 58 B108_6 dX8_writeEntry_113 (gw7 165 rfl rfl) rfl (by decide) (Nat.le_of_ble_eq_true rfl) (Nat.le_of_ble_eq_true rfl) (Nat.le_of_ble_eq_true rfl) (fun G113 B113_5 => ?_)
    refine px_pop B113_5.1 dX8_writeEntry_116 rfl ?_
    refine px_aload_n (i := 0) B113_5.1 dX8_writeEntry_117 rfl rfl ?_
    refine px_getr B113_5.1 dX8_writeEntry_118 fl_RX8_43 rfl rfl rfl ?_
    refine px_aload_n (i := 0) B113_5.1 dX8_writeEntry_121 rfl rfl ?_
    refine px_getr B113_5.1 dX8_writeEntry_122 fl_RX8_94 rfl rfl rfl ?_
    refine px_getr B113_5.1 dX8_writeEntry_125 fl_RX8_160 rfl rfl rfl ?_
    refine px_iload_n (i := 1) B113_5.1 dX8_writeEntry_128 rfl rfl ?_
    refine px_iald 320 B113_5.1 dX8_writeEntry_129 rfl rfl rfl rfl hin ?_
    refine bw_num (rc' := 4) (rs' := 240) (v := (w i 4).toNat) B113_5 dX8_writeEntry_130 (gw7 164 rfl rfl) (ev 4 (by decide) (by omega)) (by omega) (dg_le (by omega)).2 (Nat.le_of_ble_eq_true rfl) (Nat.le_of_ble_eq_true rfl) (Nat.le_of_ble_eq_true rfl) (fun G130 B130_4 => ?_)
    refine px_bipush (v := (45 : Int32)) B130_4.1 dX8_writeEntry_133 rfl ?_
    refine bw_chr (rc' := 3) (rs' := 180) 45 B130_4 dX8_writeEntry_135 (gw7 165 rfl rfl) rfl (by decide) (Nat.le_of_ble_eq_true rfl) (Nat.le_of_ble_eq_true rfl) (Nat.le_of_ble_eq_true rfl) (fun G135 B135_3 => ?_)
    refine px_aload_n (i := 0) B135_3.1 dX8_writeEntry_138 rfl rfl ?_
    refine px_getr B135_3.1 dX8_writeEntry_139 fl_RX8_94 rfl rfl rfl ?_
    refine px_getr B135_3.1 dX8_writeEntry_142 fl_RX8_163 rfl rfl rfl ?_
    refine px_iload_n (i := 1) B135_3.1 dX8_writeEntry_145 rfl rfl ?_
    refine px_iald 384 B135_3.1 dX8_writeEntry_146 rfl rfl rfl rfl hin ?_
    refine bw_num (rc' := 2) (rs' := 120) (v := (w i 5).toNat) B135_3 dX8_writeEntry_147 (gw7 164 rfl rfl) (ev 5 (by decide) (by omega)) (by omega) (dg_le (by omega)).2 (Nat.le_of_ble_eq_true rfl) (Nat.le_of_ble_eq_true rfl) (Nat.le_of_ble_eq_true rfl) (fun G147 B147_2 => ?_)
    refine px_pop B147_2.1 dX8_writeEntry_150 rfl ?_
    refine px_aload_n (i := 0) B147_2.1 dX8_writeEntry_151 rfl rfl ?_
    refine px_getr B147_2.1 dX8_writeEntry_152 fl_RX8_94 rfl rfl rfl ?_
    refine px_getr B147_2.1 dX8_writeEntry_155 fl_RX8_166 rfl rfl rfl ?_
    refine px_iload_n (i := 1) B147_2.1 dX8_writeEntry_158 rfl rfl ?_
    refine px_zald 448 B147_2.1 dX8_writeEntry_159 rfl rfl rfl rfl hin ?_
    refine px_if_eq (tgt := 173) B147_2.1 dX8_writeEntry_160 (by decide) (fun c5 => ?_) (fun c5 => ?_)
    · replace c5 : J (w i 6) = J 0 := (ev0 6 (by decide)).symm.trans c5
      rw [J_eq (by omega) (by decide)] at c5
      refine pw_less (by decide) (by decide) (K173 _ _ ?_ (by obtain ⟨b1, b2, b3, b4, b5, b6, b7, b8⟩ := B147_2; exact ⟨b1, b2, b3, b4, b5, b6, b7, Nat.le_trans b8 (by decide)⟩))
      show _ = txC (if w i 6 = 1 then txC (dtx3 w i) 33 else dtx3 w i) 59
      rw [if_neg (by omega)]; rfl
    · replace c5 : ¬ J (w i 6) = J 0 := fun z => c5 ((ev0 6 (by decide)).trans z)
      rw [J_eq (by omega) (by decide)] at c5
      refine px_aload_n (i := 0) B147_2.1 dX8_writeEntry_163 rfl rfl ?_
      refine px_getr B147_2.1 dX8_writeEntry_164 fl_RX8_43 rfl rfl rfl ?_
      refine px_bipush (v := (33 : Int32)) B147_2.1 dX8_writeEntry_167 rfl ?_
      refine bw_chr (rc' := 1) (rs' := 60) 33 B147_2 dX8_writeEntry_169 (gw7 165 rfl rfl) rfl (by decide) (Nat.le_of_ble_eq_true rfl) (Nat.le_of_ble_eq_true rfl) (Nat.le_of_ble_eq_true rfl) (fun G169 B169_1 => ?_)
      refine px_pop B169_1.1 dX8_writeEntry_172 rfl ?_
      refine K173 _ _ ?_ (by obtain ⟨b1, b2, b3, b4, b5, b6, b7, b8⟩ := B169_1; exact ⟨b1, b2, b3, b4, b5, b6, b7, Nat.le_trans b8 (by decide)⟩)
      show _ = txC (if w i 6 = 1 then txC (dtx3 w i) 33 else dtx3 w i) 59
      rw [if_pos (by omega)]; rfl
  refine px_aload_n (i := 0) B0.1 dX8_writeEntry_0 rfl rfl ?_
  refine px_getr B0.1 dX8_writeEntry_1 fl_RX8_43 rfl rfl rfl ?_
  refine px_iconst (v := (0 : Int32)) B0.1 dX8_writeEntry_4 rfl ?_
  refine bw_set (rc' := 13) (rs' := 780) B0 dX8_writeEntry_5 (gw6 151 rfl rfl) rfl (Nat.le_of_ble_eq_true rfl) (Nat.le_of_ble_eq_true rfl) (fun G5 B5_13 => ?_)
  refine px_aload_n (i := 0) B5_13.1 dX8_writeEntry_8 rfl rfl ?_
  refine px_getr B5_13.1 dX8_writeEntry_9 fl_RX8_43 rfl rfl rfl ?_
  refine px_aload_n (i := 0) B5_13.1 dX8_writeEntry_12 rfl rfl ?_
  refine px_getr B5_13.1 dX8_writeEntry_13 fl_RX8_94 rfl rfl rfl ?_
  refine px_getr B5_13.1 dX8_writeEntry_16 fl_RX8_170 rfl rfl rfl ?_
  refine px_iload_n (i := 1) B5_13.1 dX8_writeEntry_19 rfl rfl ?_
  refine px_iald 64 B5_13.1 dX8_writeEntry_20 rfl rfl rfl rfl hin ?_
  refine bw_num (rc' := 12) (rs' := 720) (v := (w i 1).toNat) B5_13 dX8_writeEntry_21 (gw7 164 rfl rfl) (ev 1 (by decide) (by omega)) (by omega) (dg1 (by omega)) (Nat.le_of_ble_eq_true rfl) (Nat.le_of_ble_eq_true rfl) (Nat.le_of_ble_eq_true rfl) (fun G21 B21_12 => ?_)
  refine px_bipush (v := (47 : Int32)) B21_12.1 dX8_writeEntry_24 rfl ?_
  refine bw_chr (rc' := 11) (rs' := 660) 47 B21_12 dX8_writeEntry_26 (gw7 165 rfl rfl) rfl (by decide) (Nat.le_of_ble_eq_true rfl) (Nat.le_of_ble_eq_true rfl) (Nat.le_of_ble_eq_true rfl) (fun G26 B26_11 => ?_)
  refine px_aload_n (i := 0) B26_11.1 dX8_writeEntry_29 rfl rfl ?_
  refine px_getr B26_11.1 dX8_writeEntry_30 fl_RX8_94 rfl rfl rfl ?_
  refine px_getr B26_11.1 dX8_writeEntry_33 fl_RX8_236 rfl rfl rfl ?_
  refine px_iload_n (i := 1) B26_11.1 dX8_writeEntry_36 rfl rfl ?_
  refine px_iald 128 B26_11.1 dX8_writeEntry_37 rfl rfl rfl rfl hin ?_
  refine bw_num (rc' := 10) (rs' := 600) (v := (w i 0).toNat) B26_11 dX8_writeEntry_38 (gw7 164 rfl rfl) (ev 0 (by decide) (by omega)) (by omega) (dg2 (by omega)) (Nat.le_of_ble_eq_true rfl) (Nat.le_of_ble_eq_true rfl) (Nat.le_of_ble_eq_true rfl) (fun G38 B38_10 => ?_)
  refine px_bipush (v := (60 : Int32)) B38_10.1 dX8_writeEntry_41 rfl ?_
  refine bw_chr (rc' := 9) (rs' := 540) 60 B38_10 dX8_writeEntry_43 (gw7 165 rfl rfl) rfl (by decide) (Nat.le_of_ble_eq_true rfl) (Nat.le_of_ble_eq_true rfl) (Nat.le_of_ble_eq_true rfl) (fun G43 B43_9 => ?_)
  refine px_pop B43_9.1 dX8_writeEntry_46 rfl ?_
  refine px_aload_n (i := 0) B43_9.1 dX8_writeEntry_47 rfl rfl ?_
  refine px_getr B43_9.1 dX8_writeEntry_48 fl_RX8_94 rfl rfl rfl ?_
  refine px_getr B43_9.1 dX8_writeEntry_51 fl_RX8_151 rfl rfl rfl ?_
  refine px_iload_n (i := 1) B43_9.1 dX8_writeEntry_54 rfl rfl ?_
  refine px_iald 192 B43_9.1 dX8_writeEntry_55 rfl rfl rfl rfl hin ?_
  refine px_iconst (v := (-1 : Int32)) B43_9.1 dX8_writeEntry_56 rfl ?_
  refine px_icmp_ne (tgt := 73) B43_9.1 dX8_writeEntry_57 (by decide) (fun c5 => ?_) (fun c5 => ?_)
  · replace c5 : ¬ J (w i 2) = J (-1) := fun z => c5 ((ev0 2 (by decide)).trans z)
    rw [J_eq (by omega) (by decide)] at c5
    refine px_aload_n (i := 0) B43_9.1 dX8_writeEntry_73 rfl rfl ?_
    refine px_getr B43_9.1 dX8_writeEntry_74 fl_RX8_43 rfl rfl rfl ?_
    refine px_aload_n (i := 0) B43_9.1 dX8_writeEntry_77 rfl rfl ?_
    refine px_getr B43_9.1 dX8_writeEntry_78 fl_RX8_94 rfl rfl rfl ?_
    refine px_getr B43_9.1 dX8_writeEntry_81 fl_RX8_151 rfl rfl rfl ?_
    refine px_iload_n (i := 1) B43_9.1 dX8_writeEntry_84 rfl rfl ?_
    refine px_iald 192 B43_9.1 dX8_writeEntry_85 rfl rfl rfl rfl hin ?_
    refine bw_num (rc' := 8) (rs' := 480) (v := (w i 2).toNat) B43_9 dX8_writeEntry_86 (gw7 164 rfl rfl) (ev 2 (by decide) (by omega)) (by omega) (dg2 (by omega)) (Nat.le_of_ble_eq_true rfl) (Nat.le_of_ble_eq_true rfl) (Nat.le_of_ble_eq_true rfl) (fun G86 B86_8 => ?_)
    refine px_pop B86_8.1 dX8_writeEntry_89 rfl ?_
    refine K90 _ ?_
    rw [show dtx2 w i = txN (dtx1 w i) (w i 2).toNat from if_neg c5]
    exact B86_8
  · replace c5 : J (w i 2) = J (-1) := (ev0 2 (by decide)).symm.trans c5
    rw [J_eq (by omega) (by decide)] at c5
    refine px_aload_n (i := 0) B43_9.1 dX8_writeEntry_60 rfl rfl ?_
    refine px_getr B43_9.1 dX8_writeEntry_61 fl_RX8_43 rfl rfl rfl ?_
    refine px_bipush (v := (45 : Int32)) B43_9.1 dX8_writeEntry_64 rfl ?_
    refine bw_chr (rc' := 8) (rs' := 480) 45 B43_9 dX8_writeEntry_66 (gw7 165 rfl rfl) rfl (by decide) (Nat.le_of_ble_eq_true rfl) (Nat.le_of_ble_eq_true rfl) (Nat.le_of_ble_eq_true rfl) (fun G66 B66_8 => ?_)
    refine px_pop B66_8.1 dX8_writeEntry_69 rfl ?_
    refine px_goto (tgt := 90) B66_8.1 dX8_writeEntry_70 (by decide) ?_
    refine K90 _ ?_
    rw [show dtx2 w i = txC (dtx1 w i) 45 from if_pos c5]
    obtain ⟨b1, b2, b3, b4, b5, b6, b7, b8⟩ := B66_8
    exact ⟨b1, b2, b3, b4, b5, b6, b7, Nat.le_trans b8 (by decide)⟩
