-- needs: 20 21 22 23 24 25 26 30 31 32 33 40 41
theorem spread_spec {μ : Mem} {n : Nat} {w : View} (hw : WF n w) (ht : ∀ i, i < n → μ 1472 0 i = J (tp n w i)) {i : Nat} (hi : i < n) {P : Mem → Prop} (h : ∀ μ', Bt [1600] μ μ' → (∀ x, μ' 1600 0 x = if anb n w i x = true then J 1 else μ 1600 0 x) → P μ') : w2_spreadError_wp μ (J i) P := by
  have rn := hw.n
  have tr := tp_tr hw
  have ri := tr.1 i hi
  unfold w2_spreadError_wp
  simp (disch := omega) only [lJ0, lJ1, lJ2, lJ3, lJ4, lJ5, lJ6, lJ7, lJ8, lJ9, lJ10, lJ30, lJ32, lJ33, lJ39, lJ40, lJ41, lJ45, lJ47, lJ48, lJ51, lJ55, lJ57, lJ58, lJ59, lJ60, lJ64, lJ80, lJ82, lJ99, lJ100, lJ101, lJ123, lJ126, lJ282, lJ342, lJ1000, lJ1100, lJ2394, lJ2736, lJ9999, lJ10000, lJ1000000, lJ100000000, J_add, J_sub, J_mul, J_neg, J_le, J_lt, J_eq, J_in, J_clamp, Int.toNat_natCast, ht i hi]
  refine ⟨by omega, ?_⟩
  intro R hR
  suffices H : ∀ (d k : Nat) (y : Int), k + d = 40 → -1 ≤ y → y < n → (0 ≤ y → dep (tp n w) y.toNat < d) → ∀ μ', Bt [1600] μ μ' → (∀ μ'', Bt [1600] μ' μ'' → (∀ x : Nat, μ'' 1600 0 x = if 0 ≤ y ∧ (y = x ∨ anb n w y.toNat x = true) then J 1 else μ' 1600 0 x) → P μ'') → R μ' (J y) (J (k : Nat)) by
    refine H 40 0 (tp n w i) (by omega) ri.1 ri.2 (fun c => ?_) μ Bt.rf (fun μ'' b e => h μ'' b (fun x => ?_))
    · exact dep40 tr (by omega)
    · rw [e, anb_eq hw hi]
      by_cases c : tp n w i < 0
      · rw [if_neg (by omega), if_pos c]; simp
      · rw [if_neg c]
        by_cases c2 : tp n w i = x
        · rw [if_pos ⟨by omega, Or.inl c2⟩, if_pos (by simp [c2])]
        · by_cases c3 : anb n w (tp n w i).toNat x = true
          · rw [if_pos ⟨by omega, Or.inr c3⟩, if_pos (by simp [c3])]
          · rw [if_neg (fun z => z.2.elim c2 c3), if_neg (by simp [c2, c3])]
  intro d
  induction d with
  | zero =>
    intro k y hk y1 y2 hd μ' b hp
    apply hR
    unfold w2_spreadError_b11_body
    simp (disch := omega) only [lJ0, lJ1, lJ2, lJ3, lJ4, lJ5, lJ6, lJ7, lJ8, lJ9, lJ10, lJ30, lJ32, lJ33, lJ39, lJ40, lJ41, lJ45, lJ47, lJ48, lJ51, lJ55, lJ57, lJ58, lJ59, lJ60, lJ64, lJ80, lJ82, lJ99, lJ100, lJ101, lJ123, lJ126, lJ282, lJ342, lJ1000, lJ1100, lJ2394, lJ2736, lJ9999, lJ10000, lJ1000000, lJ100000000, J_add, J_sub, J_mul, J_neg, J_le, J_lt, J_eq, J_in, J_clamp, Int.toNat_natCast]
    refine ⟨fun _ => hp μ' Bt.rf (fun x => ?_), fun c => absurd (by omega) c⟩
    rw [if_neg]
    intro z
    have := hd z.1
    omega
  | succ d ih =>
    intro k y hk y1 y2 hd μ' b hp
    apply hR
    unfold w2_spreadError_b11_body
    simp (disch := omega) only [lJ0, lJ1, lJ2, lJ3, lJ4, lJ5, lJ6, lJ7, lJ8, lJ9, lJ10, lJ30, lJ32, lJ33, lJ39, lJ40, lJ41, lJ45, lJ47, lJ48, lJ51, lJ55, lJ57, lJ58, lJ59, lJ60, lJ64, lJ80, lJ82, lJ99, lJ100, lJ101, lJ123, lJ126, lJ282, lJ342, lJ1000, lJ1100, lJ2394, lJ2736, lJ9999, lJ10000, lJ1000000, lJ100000000, J_add, J_sub, J_mul, J_neg, J_le, J_lt, J_eq, J_in, J_clamp, Int.toNat_natCast]
    refine ⟨fun _ => by omega, fun _ => ?_⟩
    refine isWithin_spec y 40 rfl rfl (by omega) (by decide) (fun c => ⟨fun c => absurd c (by decide), fun _ => ⟨by omega, ?_⟩⟩) (fun c => ⟨fun _ => hp μ' Bt.rf (fun x => by rw [if_neg (by omega)]), fun c => absurd rfl c⟩)
    rintro μ5 rfl
    refine ⟨by omega, ?_⟩
    have hy : y.toNat < n := by omega
    have e : (up μ' 1600 0 y.toNat (vp_nar .boolean (J 1))) 1472 0 y.toNat = J (tp n w y.toNat) := by rw [up_nq (by decide), b 1472 (by decide)]; exact ht _ hy
    have rt := tr.1 y.toNat hy
    have dq := dep_eq tr hy
    have hdd := hd (by omega)
    rw [e]
    refine ih (k + 1) (tp n w y.toNat) (by omega) rt.1 rt.2 (fun c => ?_) _ (Btu1 b) (fun μ'' b2 e2 => hp μ'' ((Bt.up (by decide)).tr b2) (fun x => ?_))
    · rw [dq, if_neg (by omega)] at hdd
      omega
    · rw [e2, up_at, anb_eq hw hy]
      have v1 : vp_nar .boolean (J 1) = J 1 := rfl
      rw [v1]
      have key : ((0 ≤ tp n w y.toNat ∧ (tp n w y.toNat = x ∨ anb n w (tp n w y.toNat).toNat x = true)) ∨ x = y.toNat) ↔ (0 ≤ y ∧ (y = x ∨ (if tp n w y.toNat < 0 then false else (decide (tp n w y.toNat = x) || anb n w (tp n w y.toNat).toNat x)) = true)) := by
        by_cases c2 : tp n w y.toNat < 0
        · rw [if_pos c2]
          simp only [Bool.false_eq_true, or_false]
          omega
        · rw [if_neg c2]
          simp only [Bool.or_eq_true, decide_eq_true_eq]
          constructor
          · rintro (⟨_, z⟩ | z)
            · exact ⟨by omega, Or.inr z⟩
            · exact ⟨by omega, Or.inl (by omega)⟩
          · rintro ⟨_, z | z⟩
            · exact Or.inr (by omega)
            · exact Or.inl ⟨by omega, z⟩
      by_cases a : 0 ≤ tp n w y.toNat ∧ (tp n w y.toNat = x ∨ anb n w (tp n w y.toNat).toNat x = true)
      · rw [if_pos a, if_pos (key.mp (Or.inl a))]
      · rw [if_neg a]
        by_cases c1 : x = y.toNat
        · rw [if_pos ⟨rfl, rfl, c1⟩, if_pos (key.mp (Or.inr c1))]
        · rw [if_neg (fun z => c1 z.2.2), if_neg (fun z => (key.mpr z).elim a c1)]
theorem build_spec {μ : Mem} {n : Nat} {w : View} (hv : SV μ 0 n w) (hw : WF n w) (ho : ∀ s, s < 8 → μ 896 0 s = J (off n w s)) {P : Mem → Prop} (h : ∀ μ', Bt [1216, 1280, 1344, 1408, 1472, 1536, 1600, 1664] μ μ' → FV μ' n w → P μ') : w2_build_wp μ P := by
  have rn := hw.n
  have tr := tp_tr hw
  -- the errors
  have p3 : ∀ μ1, Bt [1216, 1280, 1344, 1408, 1472, 1536, 1600, 1664] μ μ1 → F1 μ1 n w → F2 μ1 n w n → (∀ i, i < n → μ1 1600 0 i = J 0) → OD (μ1 1664 0) n w n → w2_build_b207 P μ1 0 := by
    intro μ1 b1 f1 f2 f3 f4 R hR
    suffices H : ∀ μ', Bt [1600] μ1 μ' → (∀ i, i < n → ((∃ j, j < 0 ∧ w j 6 ≠ 0 ∧ anb n w j i = true) → μ' 1600 0 i = J 1) ∧ (¬ (∃ j, j < 0 ∧ w j 6 ≠ 0 ∧ anb n w j i = true) → μ' 1600 0 i = J 0)) → R μ' (J (0 : Nat)) from H μ1 Bt.rf (fun i hi => ⟨fun ⟨j, hj, _⟩ => absurd hj (by omega), fun _ => f3 i hi⟩)
    refine down (Q := fun m => ∀ μ', Bt [1600] μ1 μ' → (∀ i, i < n → ((∃ j, j < m ∧ w j 6 ≠ 0 ∧ anb n w j i = true) → μ' 1600 0 i = J 1) ∧ (¬ (∃ j, j < m ∧ w j 6 ≠ 0 ∧ anb n w j i = true) → μ' 1600 0 i = J 0)) → R μ' (J m)) n (fun m hm ih μ' b er => ?_)
    apply hR
    unfold w2_build_b207_body
    have hv' := (hv.bt b1 (by decide)).bt b (by decide)
    rcases Nat.lt_or_ge m n with c | c
    · have ih := ih c
      have rm := hw.r m c
      simp (disch := omega) only [lJ0, lJ1, lJ2, lJ3, lJ4, lJ5, lJ6, lJ7, lJ8, lJ9, lJ10, lJ30, lJ32, lJ33, lJ39, lJ40, lJ41, lJ45, lJ47, lJ48, lJ51, lJ55, lJ57, lJ58, lJ59, lJ60, lJ64, lJ80, lJ82, lJ99, lJ100, lJ101, lJ123, lJ126, lJ282, lJ342, lJ1000, lJ1100, lJ2394, lJ2736, lJ9999, lJ10000, lJ1000000, lJ100000000, J_add, J_sub, J_mul, J_neg, J_le, J_lt, J_eq, J_in, J_clamp, Int.toNat_natCast, hv'.1, hv'.i0, hv'.i1, hv'.i2, hv'.i3, hv'.i4, hv'.i5, hv'.i6]
      refine ⟨fun _ => by omega, fun _ => ⟨by omega, fun c2 => ih μ' b (fun i hi => ?_), fun c2 => ?_⟩⟩
      · have := er i hi
        refine ⟨fun ⟨j, j1, j2, j3⟩ => this.1 ⟨j, ?_, j2, j3⟩, fun z => this.2 (fun ⟨j, j1, j2, j3⟩ => z ⟨j, by omega, j2, j3⟩)⟩
        rcases Nat.lt_or_ge j m with y | y
        · exact y
        · exfalso; rw [show j = m by omega] at j2; exact j2 c2
      · refine spread_spec hw (fun i hi => ?_) c (fun μ2 b2 e2 => ih μ2 (b.tr b2) (fun i hi => ?_))
        · rw [b 1472 (by decide)]; exact (f2 i hi).2.1
        · rw [e2]
          have := er i hi
          by_cases y : anb n w m i = true
          · rw [if_pos y]
            exact ⟨fun _ => rfl, fun z => absurd ⟨m, by omega, c2, y⟩ z⟩
          · rw [if_neg y]
            refine ⟨fun ⟨j, j1, j2, j3⟩ => this.1 ⟨j, ?_, j2, j3⟩, fun z => this.2 (fun ⟨j, j1, j2, j3⟩ => z ⟨j, by omega, j2, j3⟩)⟩
            rcases Nat.lt_or_ge j m with y2 | y2
            · exact y2
            · exfalso; rw [show j = m by omega] at j3; exact y j3
    · obtain rfl : m = n := by omega
      simp (disch := omega) only [lJ0, lJ1, lJ2, lJ3, lJ4, lJ5, lJ6, lJ7, lJ8, lJ9, lJ10, lJ30, lJ32, lJ33, lJ39, lJ40, lJ41, lJ45, lJ47, lJ48, lJ51, lJ55, lJ57, lJ58, lJ59, lJ60, lJ64, lJ80, lJ82, lJ99, lJ100, lJ101, lJ123, lJ126, lJ282, lJ342, lJ1000, lJ1100, lJ2394, lJ2736, lJ9999, lJ10000, lJ1000000, lJ100000000, J_add, J_sub, J_mul, J_neg, J_le, J_lt, J_eq, J_in, J_clamp, Int.toNat_natCast, hv'.1]
      refine ⟨fun _ => h μ' (b1.tr (b.mo (by decide))) ⟨fun i hi => ?_, fun i hi => ?_, er, ?_⟩, fun c => absurd (Int.le_refl _) c⟩
      · rw [b 1216 (by decide), b 1280 (by decide), b 1344 (by decide)]; exact f1 i hi
      · rw [b 1408 (by decide), b 1472 (by decide), b 1536 (by decide)]; exact f2 i hi
      · rw [b 1664 (by decide)]; exact f4
  -- kinds and order
  have p2 : ∀ μ1, Bt [1216, 1280, 1344] μ μ1 → F1 μ1 n w → w2_build_b116 P μ1 0 := by
    intro μ1 b1 f1 R hR
    suffices H : ∀ μ', Bt [1408, 1472, 1536, 1600, 1664] μ1 μ' → F2 μ' n w 0 → (∀ i, i < 0 → μ' 1600 0 i = J 0) → OD (μ' 1664 0) n w 0 → R μ' (J (0 : Nat)) from H μ1 Bt.rf (fun i hi => absurd hi (by omega)) (fun i hi => absurd hi (by omega)) ⟨fun _ => 0, fun r hr => absurd hr (by omega), fun r s _ hs => absurd hs (by omega), fun i hi => absurd hi (by omega)⟩
    refine down (Q := fun m => ∀ μ', Bt [1408, 1472, 1536, 1600, 1664] μ1 μ' → F2 μ' n w m → (∀ i, i < m → μ' 1600 0 i = J 0) → OD (μ' 1664 0) n w m → R μ' (J m)) n (fun m hm ih μ' b f2 f3 f4 => ?_)
    apply hR
    unfold w2_build_b116_body
    have hv' := (hv.bt b1 (by decide)).bt b (by decide)
    rcases Nat.lt_or_ge m n with c | c
    · have ih := ih c
      have rm := hw.r m c
      have hp : ∀ i, i < n → μ' 1344 0 i = J (pp n w i) := fun i hi => by rw [b 1344 (by decide)]; exact (f1 i hi).2.2
      have rk := kd_rg n w m
      have rp := pp_rg n w m
      simp (disch := omega) only [lJ0, lJ1, lJ2, lJ3, lJ4, lJ5, lJ6, lJ7, lJ8, lJ9, lJ10, lJ30, lJ32, lJ33, lJ39, lJ40, lJ41, lJ45, lJ47, lJ48, lJ51, lJ55, lJ57, lJ58, lJ59, lJ60, lJ64, lJ80, lJ82, lJ99, lJ100, lJ101, lJ123, lJ126, lJ282, lJ342, lJ1000, lJ1100, lJ2394, lJ2736, lJ9999, lJ10000, lJ1000000, lJ100000000, J_add, J_sub, J_mul, J_neg, J_le, J_lt, J_eq, J_in, J_clamp, Int.toNat_natCast, hv'.1]
      refine ⟨fun _ => by omega, fun _ => ?_⟩
      refine kindOf_spec hv' hw hp c ⟨by omega, ?_⟩
      rintro μ8 rfl
      have b8 : Bt [1408] μ' (up μ' 1408 0 m (J (kd n w m))) := Bt.up (by decide)
      have u8 : ∀ i, (up μ' 1408 0 m (J (kd n w m))) 1408 0 i = if i = m then J (kd n w m) else μ' 1408 0 i := fun i => by rw [up_row]; rfl
      generalize up μ' 1408 0 m (J (kd n w m)) = μ8 at b8 u8 ⊢
      have um : μ8 1408 0 m = J (kd n w m) := by rw [u8, if_pos rfl]
      have p8 : μ8 1344 0 m = J (pp n w m) := by rw [b8 1344 (by decide)]; exact hp m c
      -- the rest of the turn
      have rest : w2_build_b169 P R μ8 (J m) (J (tp n w m)) (J m) := by
        unfold w2_build_b169
        refine ⟨(J_in (by omega)).mpr (by omega), ?_⟩
        rintro μ11 rfl
        rw [J_nat_clamp (by omega)]
        have b11 : Bt [1472] μ8 (up μ8 1472 0 m (J (tp n w m))) := Bt.up (by decide)
        have u11 : ∀ i, (up μ8 1472 0 m (J (tp n w m))) 1472 0 i = if i = m then J (tp n w m) else μ8 1472 0 i := fun i => by rw [up_row]; rfl
        generalize up μ8 1472 0 m (J (tp n w m)) = μ11 at b11 u11 ⊢
        refine nodeOver_spec ((hv'.bt b8 (by decide)).bt b11 (by decide)) hw c (by rw [b11 1408 (by decide)]; exact um) ?_
        refine ⟨(J_in (by omega)).mpr (by omega), ?_⟩
        rintro μ15 rfl
        refine ⟨(J_in (by omega)).mpr (by omega), ?_⟩
        rintro μ17 rfl
        have b15 : Bt [1536] μ11 (up μ11 1536 0 m (J (nov n w m))) := Bt.up (by decide)
        have u15 : ∀ i, (up μ11 1536 0 m (J (nov n w m))) 1536 0 i = if i = m then J (nov n w m) else μ11 1536 0 i := fun i => by rw [up_row]; rfl
        generalize up μ11 1536 0 m (J (nov n w m)) = μ15 at b15 u15 ⊢
        have b17 : Bt [1600] μ15 (up μ15 1600 0 m (vp_nar .boolean 0)) := Bt.up (by decide)
        have u17 : ∀ i, (up μ15 1600 0 m (vp_nar .boolean 0)) 1600 0 i = if i = m then J 0 else μ15 1600 0 i := fun i => by rw [up_row]; rfl
        generalize up μ15 1600 0 m (vp_nar .boolean 0) = μ17 at b17 u17 ⊢
        have ba : Bt [1408, 1472, 1536, 1600] μ' μ17 := (((b8.mo (by decide)).tr (b11.mo (by decide))).tr (b15.mo (by decide))).tr (b17.mo (by decide))
        refine insert_spec (hv'.bt ba (by decide)) hw (fun i hi => ?_) c (by rw [ba 1664 (by decide)]; exact f4) (fun μ18 b18 od => ?_)
        · rw [ba 1216 (by decide), b 1216 (by decide)]; exact (f1 i hi).1
        · rw [lJ1, J_add]
          refine ih μ18 (b.tr ((ba.mo (by decide)).tr (b18.mo (by decide)))) (fun i hi => ?_) (fun i hi => ?_) od
          · rw [b18 1408 (by decide), b18 1472 (by decide), b18 1536 (by decide), b17 1408 (by decide), b17 1472 (by decide), b17 1536 (by decide), u15, b15 1408 (by decide), b15 1472 (by decide), u11, b11 1408 (by decide), b11 1536 (by decide), u8, b8 1472 (by decide), b8 1536 (by decide)]
            by_cases y : i = m
            · rw [if_pos y, if_pos y, if_pos y, y]; exact ⟨rfl, rfl, rfl⟩
            · rw [if_neg y, if_neg y, if_neg y]; exact f2 i (by omega)
          · rw [b18 1600 (by decide), u17]
            by_cases y : i = m
            · rw [if_pos y]
            · rw [if_neg y, b15 1600 (by decide), b11 1600 (by decide), b8 1600 (by decide)]; exact f3 i (by omega)
      have tk := tp_kd hw (i := m)
      simp (disch := omega) only [lJ0, lJ1, lJ2, lJ3, lJ4, lJ5, lJ6, lJ7, lJ8, lJ9, lJ10, lJ30, lJ32, lJ33, lJ39, lJ40, lJ41, lJ45, lJ47, lJ48, lJ51, lJ55, lJ57, lJ58, lJ59, lJ60, lJ64, lJ80, lJ82, lJ99, lJ100, lJ101, lJ123, lJ126, lJ282, lJ342, lJ1000, lJ1100, lJ2394, lJ2736, lJ9999, lJ10000, lJ1000000, lJ100000000, J_add, J_sub, J_mul, J_neg, J_le, J_lt, J_eq, J_in, J_clamp, Int.toNat_natCast, um, p8]
      refine ⟨by omega, fun c2 => ?_, fun c2 => ⟨by omega, ?_⟩⟩
      · rw [if_neg c2] at tk
        rw [tk] at rest
        exact rest
      · rw [if_pos c2] at tk
        rw [tk] at rest
        exact rest
    · obtain rfl : m = n := by omega
      simp (disch := omega) only [lJ0, lJ1, lJ2, lJ3, lJ4, lJ5, lJ6, lJ7, lJ8, lJ9, lJ10, lJ30, lJ32, lJ33, lJ39, lJ40, lJ41, lJ45, lJ47, lJ48, lJ51, lJ55, lJ57, lJ58, lJ59, lJ60, lJ64, lJ80, lJ82, lJ99, lJ100, lJ101, lJ123, lJ126, lJ282, lJ342, lJ1000, lJ1100, lJ2394, lJ2736, lJ9999, lJ10000, lJ1000000, lJ100000000, J_add, J_sub, J_mul, J_neg, J_le, J_lt, J_eq, J_in, J_clamp, Int.toNat_natCast, hv'.1]
      refine ⟨fun _ => p3 μ' ((b1.mo (by decide)).tr (b.mo (by decide))) (fun i hi => ?_) f2 f3 f4, fun c => absurd (Int.le_refl _) c⟩
      rw [b 1216 (by decide), b 1280 (by decide), b 1344 (by decide)]; exact f1 i hi
  -- the times
  intro R hR
  suffices H : ∀ μ', Bt [1216, 1280, 1344] μ μ' → (∀ i, i < 0 → μ' 1216 0 i = J (bgn n w i) ∧ μ' 1280 0 i = J (enn n w i) ∧ μ' 1344 0 i = J (pp n w i)) → R μ' (J (0 : Nat)) from H μ Bt.rf (fun i hi => absurd hi (by omega))
  refine down (Q := fun m => ∀ μ', Bt [1216, 1280, 1344] μ μ' → (∀ i, i < m → μ' 1216 0 i = J (bgn n w i) ∧ μ' 1280 0 i = J (enn n w i) ∧ μ' 1344 0 i = J (pp n w i)) → R μ' (J m)) n (fun m hm ih μ' b f1 => ?_)
  apply hR
  unfold w2_build_b2_body
  have hv' := hv.bt b (by decide)
  rcases Nat.lt_or_ge m n with c | c
  · have ih := ih c
    have rm := hw.r m c
    have o := ho (w m 3).toNat (by omega)
    have o' : μ' 896 0 (w m 3).toNat = J (off n w (w m 3).toNat) := by rw [b 896 (by decide)]; exact o
    simp (disch := omega) only [lJ0, lJ1, lJ2, lJ3, lJ4, lJ5, lJ6, lJ7, lJ8, lJ9, lJ10, lJ30, lJ32, lJ33, lJ39, lJ40, lJ41, lJ45, lJ47, lJ48, lJ51, lJ55, lJ57, lJ58, lJ59, lJ60, lJ64, lJ80, lJ82, lJ99, lJ100, lJ101, lJ123, lJ126, lJ282, lJ342, lJ1000, lJ1100, lJ2394, lJ2736, lJ9999, lJ10000, lJ1000000, lJ100000000, J_add, J_sub, J_mul, J_neg, J_le, J_lt, J_eq, J_in, J_clamp, Int.toNat_natCast, hv'.1, hv'.i0, hv'.i1, hv'.i2, hv'.i3, hv'.i4, hv'.i5, hv'.i6]
    refine ⟨fun _ => by omega, fun _ => ⟨by omega, ?_⟩⟩
    refine isWithin_spec (w m 3) 8 rfl rfl (by omega) (by decide) (fun _ => ⟨fun c => absurd c (by decide), fun _ => ⟨by omega, ?_⟩⟩) (fun c => absurd (by omega) c)
    rw [o']
    unfold w2_build_b49
    simp (disch := omega) only [lJ0, lJ1, lJ2, lJ3, lJ4, lJ5, lJ6, lJ7, lJ8, lJ9, lJ10, lJ30, lJ32, lJ33, lJ39, lJ40, lJ41, lJ45, lJ47, lJ48, lJ51, lJ55, lJ57, lJ58, lJ59, lJ60, lJ64, lJ80, lJ82, lJ99, lJ100, lJ101, lJ123, lJ126, lJ282, lJ342, lJ1000, lJ1100, lJ2394, lJ2736, lJ9999, lJ10000, lJ1000000, lJ100000000, J_add, J_sub, J_mul, J_neg, J_le, J_lt, J_eq, J_in, J_clamp, Int.toNat_natCast, hv'.1, hv'.i0, hv'.i1, hv'.i2, hv'.i3, hv'.i4, hv'.i5, hv'.i6]
    refine ⟨by omega, by omega, ?_⟩
    rintro μ27 rfl
    have b27 : Bt [1216] μ' (up μ' 1216 0 m (J (w m 4 + off n w (w m 3).toNat))) := Bt.up (by decide)
    have u27 : ∀ i, (up μ' 1216 0 m (J (w m 4 + off n w (w m 3).toNat))) 1216 0 i = if i = m then J (bgn n w m) else μ' 1216 0 i := fun i => by rw [up_row]; rfl
    generalize up μ' 1216 0 m (J (w m 4 + off n w (w m 3).toNat)) = μ27 at b27 u27 ⊢
    have hv27 := hv'.bt b27 (by decide)
    refine ⟨by omega, by omega, ?_⟩
    rintro μ30 rfl
    simp (disch := omega) only [lJ0, lJ1, lJ2, lJ3, lJ4, lJ5, lJ6, lJ7, lJ8, lJ9, lJ10, lJ30, lJ32, lJ33, lJ39, lJ40, lJ41, lJ45, lJ47, lJ48, lJ51, lJ55, lJ57, lJ58, lJ59, lJ60, lJ64, lJ80, lJ82, lJ99, lJ100, lJ101, lJ123, lJ126, lJ282, lJ342, lJ1000, lJ1100, lJ2394, lJ2736, lJ9999, lJ10000, lJ1000000, lJ100000000, J_add, J_sub, J_mul, J_neg, J_le, J_lt, J_eq, J_in, J_clamp, Int.toNat_natCast, hv27.1, hv27.i0, hv27.i1, hv27.i2, hv27.i3, hv27.i4, hv27.i5, hv27.i6]
    have b30 : Bt [1280] μ27 (up μ27 1280 0 m (J (w m 5 + off n w (w m 3).toNat))) := Bt.up (by decide)
    have u30 : ∀ i, (up μ27 1280 0 m (J (w m 5 + off n w (w m 3).toNat))) 1280 0 i = if i = m then J (enn n w m) else μ27 1280 0 i := fun i => by rw [up_row]; rfl
    generalize up μ27 1280 0 m (J (w m 5 + off n w (w m 3).toNat)) = μ30 at b30 u30 ⊢
    refine presentParent_spec (hv27.bt b30 (by decide)) hw c ⟨by omega, ?_⟩
    rintro μ34 rfl
    refine ih _ ((((b.tr (b27.mo (by decide))).tr (b30.mo (by decide)))).tr (Bt.up (by decide))) (fun i hi => ?_)
    rw [up_nq (by decide), up_nq (by decide), b30 1216 (by decide), u27, u30, b27 1280 (by decide), up_at, b30 1344 (by decide), b27 1344 (by decide)]
    by_cases y : i = m
    · rw [if_pos y, if_pos y, if_pos ⟨rfl, rfl, y⟩, y]
      exact ⟨rfl, rfl, rfl⟩
    · rw [if_neg y, if_neg y, if_neg (fun z => y z.2.2)]
      exact f1 i (by omega)
  · obtain rfl : m = n := by omega
    simp (disch := omega) only [lJ0, lJ1, lJ2, lJ3, lJ4, lJ5, lJ6, lJ7, lJ8, lJ9, lJ10, lJ30, lJ32, lJ33, lJ39, lJ40, lJ41, lJ45, lJ47, lJ48, lJ51, lJ55, lJ57, lJ58, lJ59, lJ60, lJ64, lJ80, lJ82, lJ99, lJ100, lJ101, lJ123, lJ126, lJ282, lJ342, lJ1000, lJ1100, lJ2394, lJ2736, lJ9999, lJ10000, lJ1000000, lJ100000000, J_add, J_sub, J_mul, J_neg, J_le, J_lt, J_eq, J_in, J_clamp, Int.toNat_natCast, hv'.1]
    exact ⟨fun _ => p2 μ' b f1, fun c => absurd (Int.le_refl _) c⟩
