-- needs: 20 21 22 23 24 25 26 30 31 32 33 34 40 41 43
theorem hl_rg {n : Nat} {w : View} (hw : WF n w) {m : Nat} (hm : m ≤ n) (h : Nat) (hh : h < (hl n w m).length) : 0 ≤ lf (hl n w m) h ∧ lf (hl n w m) h < 4 ∧ 0 ≤ lt (hl n w m) h ∧ lt (hl n w m) h < 100 := by
  obtain ⟨i, i1, i2, i3, i4⟩ := (hl_inv n w m).2.2.1 h hh
  have r := hw.r i (by omega)
  have : w i 2 ≠ -1 := by
    intro c
    unfold kd at i2
    rw [if_pos c] at i2
    omega
  omega
theorem ab_rg {n : Nat} {w : View} {i : Nat} (hi : i < n) : -1 ≤ ab n w i ∧ ab n w i < 40 + n := by
  have := pp_rg n w i
  have a := (hl_inv n w n).1
  have b := hfn_rg (hl n w n) (w i 1) (w i 2)
  have c := (hl_inv n w n).2.2.2 i hi
  unfold ab
  split
  · omega
  · split
    · have := c (by assumption)
      omega
    · omega
theorem plants_spec {μ : Mem} {s : St} (hm : MW (μ 3264 0) s) (hw : WF s.1 s.2.1) {P : Mem → Prop} (h : ∀ μ', Bt [3222, 3968, 4032, 4096, 4160] μ μ' → MFo μ' s.1 s.2.1 → P μ') : w9_plants_wp μ P := by
  obtain ⟨n, w, l⟩ := s
  have hw : WF n w := hw
  have rn := hw.n
  unfold w9_plants_wp
  rintro μ1 rfl
  intro R hR
  suffices H : ∀ μ', Bt [3222, 3968, 4032, 4096, 4160] μ μ' → MH1 μ' (hl n w 0) → (∀ i, i < 0 → μ' 3968 0 i = J (ab n w i) ∧ μ' 4032 0 i = J (kd n w i)) → R μ' (J (0 : Nat)) from H _ (Bt.up (by decide)) ⟨up_self, fun h hh => absurd hh (by simp [hl, it])⟩ (fun i hi => absurd hi (by omega))
  refine down (Q := fun m => ∀ μ', Bt [3222, 3968, 4032, 4096, 4160] μ μ' → MH1 μ' (hl n w m) → (∀ i, i < m → μ' 3968 0 i = J (ab n w i) ∧ μ' 4032 0 i = J (kd n w i)) → R μ' (J m)) n (fun m hm2 ih μ' b mh ak => ?_)
  apply hR
  have hm' : MW (μ' 3264 0) (n, w, l) := hm.bt b (by decide)
  have m0 : μ' 3264 0 0 = J n := hm'.1
  unfold w9_plants_b7_body
  rcases Nat.lt_or_ge m n with c | c
  rotate_left
  · obtain rfl : m = n := by omega
    simp (disch := omega) only [lJ0, lJ1, lJ2, lJ3, lJ4, lJ5, lJ6, lJ7, lJ8, lJ9, lJ10, lJ30, lJ32, lJ33, lJ39, lJ40, lJ41, lJ45, lJ47, lJ48, lJ51, lJ55, lJ57, lJ58, lJ59, lJ60, lJ64, lJ80, lJ82, lJ99, lJ100, lJ101, lJ123, lJ126, lJ282, lJ342, lJ1000, lJ1100, lJ2394, lJ2736, lJ9999, lJ10000, lJ1000000, lJ100000000, J_add, J_sub, J_mul, J_neg, J_le, J_lt, J_eq, J_in, J_clamp, Int.toNat_natCast, Int.toNat_zero, m0]
    exact ⟨by omega, fun _ => h μ' b ⟨mh, ak⟩, fun c => absurd (Int.le_refl _) c⟩
  have ih := ih c
  have r1 := hw.r m c
  have rp := pp_rg n w m
  have hi := hl_inv n w m
  simp (disch := omega) only [lJ0, lJ1, lJ2, lJ3, lJ4, lJ5, lJ6, lJ7, lJ8, lJ9, lJ10, lJ30, lJ32, lJ33, lJ39, lJ40, lJ41, lJ45, lJ47, lJ48, lJ51, lJ55, lJ57, lJ58, lJ59, lJ60, lJ64, lJ80, lJ82, lJ99, lJ100, lJ101, lJ123, lJ126, lJ282, lJ342, lJ1000, lJ1100, lJ2394, lJ2736, lJ9999, lJ10000, lJ1000000, lJ100000000, J_add, J_sub, J_mul, J_neg, J_le, J_lt, J_eq, J_in, J_clamp, Int.toNat_natCast, Int.toNat_zero, m0]
  refine ⟨by omega, fun _ => by omega, fun _ => ?_⟩
  refine parentOf_spec hm' hw c ?_
  dsimp only
  refine ⟨by omega, ?_⟩
  rintro μ6 rfl
  -- the end of a turn
  have fin : ∀ μ7, Bt [3222, 3968, 4032, 4096, 4160] μ' μ7 → MH1 μ7 (hl n w (m + 1)) → (∀ i, μ7 3968 0 i = if i = m then J (ab n w m) else μ' 3968 0 i) → (∀ i, μ7 4032 0 i = if i = m then J (kd n w m) else μ' 4032 0 i) → R μ7 (J ((m : Int) + 1)) := fun μ7 b7 h7 a7 k7 => by
    refine ih μ7 (b.tr b7) h7 (fun i hi => ?_)
    rw [a7, k7]
    by_cases y : i = m
    · rw [if_pos y, if_pos y, y]; exact ⟨rfl, rfl⟩
    · rw [if_neg y, if_neg y]; exact ak i (by omega)
  have same : kd n w m ≠ 2 → hl n w (m + 1) = hl n w m := fun z => by rw [hl_succ, if_neg (fun y => z y.1)]
  -- where the place has a parent or none
  have p45 : ∀ v : Int, v = (if pp n w m = -1 then 0 else 1) → w9_plants_b45 P R (up μ' 3968 0 m (J (pp n w m))) (J m) (J (pp n w m)) (J v) (J m) := by
    intro v hv
    have b6 : Bt [3968] μ' (up μ' 3968 0 m (J (pp n w m))) := Bt.up (by decide)
    have u6 : ∀ i, (up μ' 3968 0 m (J (pp n w m))) 3968 0 i = if i = m then J (pp n w m) else μ' 3968 0 i := fun i => by rw [up_row]; rfl
    generalize up μ' 3968 0 m (J (pp n w m)) = μ6 at b6 u6 ⊢
    unfold w9_plants_b45
    refine ⟨(J_in (by omega)).mpr (by omega), ?_⟩
    rintro μ8 rfl
    rw [J_nat_clamp (by omega)]
    have b8 : Bt [4032] μ6 (up μ6 4032 0 m (J v)) := Bt.up (by decide)
    have u8 : ∀ i, (up μ6 4032 0 m (J v)) 4032 0 i = if i = m then J v else μ6 4032 0 i := fun i => by rw [up_row]; rfl
    generalize up μ6 4032 0 m (J v) = μ8 at b8 u8 ⊢
    have hm8 : MW (μ8 3264 0) (n, w, l) := (hm'.bt b6 (by decide)).bt b8 (by decide)
    have b68 : Bt [3968, 4032] μ' μ8 := (b6.mo (by decide)).tr (b8.mo (by decide))
    have mh8 : MH1 μ8 (hl n w m) := ⟨by rw [b68 _ (by decide)]; exact mh.1, fun h hh => by rw [b68 _ (by decide), b68 _ (by decide)]; exact mh.2 h hh⟩
    have u8a : ∀ i, μ8 3968 0 i = if i = m then J (pp n w m) else μ' 3968 0 i := fun i => by rw [b8 3968 (by decide)]; exact u6 i
    have u8k : ∀ i, μ8 4032 0 i = if i = m then J v else μ' 4032 0 i := fun i => by rw [u8, b6 4032 (by decide)]
    by_cases y : pp n w m = -1
    · -- a root or an orphan
      rw [if_pos y] at hv
      have kc : kd n w m = if w m 2 = -1 then 0 else 2 := by
        unfold kd
        by_cases z : w m 2 = -1
        · rw [if_pos z, if_pos z]
        · rw [if_neg z, if_neg z, if_pos (by omega)]
      simp (disch := omega) only [lJ0, lJ1, lJ2, lJ3, lJ4, lJ5, lJ6, lJ7, lJ8, lJ9, lJ10, lJ30, lJ32, lJ33, lJ39, lJ40, lJ41, lJ45, lJ47, lJ48, lJ51, lJ55, lJ57, lJ58, lJ59, lJ60, lJ64, lJ80, lJ82, lJ99, lJ100, lJ101, lJ123, lJ126, lJ282, lJ342, lJ1000, lJ1100, lJ2394, lJ2736, lJ9999, lJ10000, lJ1000000, lJ100000000, J_add, J_sub, J_mul, J_neg, J_le, J_lt, J_eq, J_in, J_clamp, Int.toNat_natCast]
      refine ⟨fun _ => ?_, fun z => absurd y z⟩
      unfold w9_plants_b73
      simp (disch := omega) only [lJ0, lJ1, lJ2, lJ3, lJ4, lJ5, lJ6, lJ7, lJ8, lJ9, lJ10, lJ30, lJ32, lJ33, lJ39, lJ40, lJ41, lJ45, lJ47, lJ48, lJ51, lJ55, lJ57, lJ58, lJ59, lJ60, lJ64, lJ80, lJ82, lJ99, lJ100, lJ101, lJ123, lJ126, lJ282, lJ342, lJ1000, lJ1100, lJ2394, lJ2736, lJ9999, lJ10000, lJ1000000, lJ100000000, J_add, J_sub, J_mul, J_neg, J_le, J_lt, J_eq, J_in, J_clamp, Int.toNat_natCast]
      refine ⟨fun z => absurd y z, fun _ => ?_⟩
      refine of_spec hm8 rn m 2 rfl rfl c (by omega) ?_
      dsimp only
      simp (disch := omega) only [lJ0, lJ1, lJ2, lJ3, lJ4, lJ5, lJ6, lJ7, lJ8, lJ9, lJ10, lJ30, lJ32, lJ33, lJ39, lJ40, lJ41, lJ45, lJ47, lJ48, lJ51, lJ55, lJ57, lJ58, lJ59, lJ60, lJ64, lJ80, lJ82, lJ99, lJ100, lJ101, lJ123, lJ126, lJ282, lJ342, lJ1000, lJ1100, lJ2394, lJ2736, lJ9999, lJ10000, lJ1000000, lJ100000000, J_add, J_sub, J_mul, J_neg, J_le, J_lt, J_eq, J_in, J_clamp, Int.toNat_natCast]
      refine ⟨fun z => ?_, fun z => ?_⟩
      · rw [if_pos z] at kc
        refine fin μ8 (b68.mo (by decide)) (by rw [same (by omega)]; exact mh8) (fun i => ?_) (fun i => ?_)
        · rw [u8a, show ab n w m = -1 by unfold ab; rw [if_neg (by omega), if_neg (by omega)], y]
        · rw [u8k, kc, hv]
      · rw [if_neg z] at kc
        refine of_spec hm8 rn m 1 rfl rfl c (by omega) ?_
        refine of_spec hm8 rn m 2 rfl rfl c (by omega) ?_
        dsimp only
        refine holder_spec mh8 (by omega) (fun h hh => by have := hl_rg hw (show m ≤ n by omega) h hh; omega) (by omega) (by omega) ?_
        have hr := hfn_rg (hl n w m) (w m 1) (w m 2)
        -- the last writes
        have p149 : ∀ (μ9 : Mem) (hh : Int), 0 ≤ hh → hh < 40 → Bt [3222, 3968, 4032, 4096, 4160] μ' μ9 → MH1 μ9 (hl n w (m + 1)) → (∀ i, μ9 3968 0 i = if i = m then J (pp n w m) else μ' 3968 0 i) → (∀ i, μ9 4032 0 i = if i = m then J v else μ' 4032 0 i) → hh = hfn (hl n w (m + 1)) (w m 1) (w m 2) → w9_plants_b149 P R μ9 (J m) (J hh) := by
          intro μ9 hh h1 h2 b9 mh9 a9 k9 hq
          unfold w9_plants_b149
          simp (disch := omega) only [lJ0, lJ1, lJ2, lJ3, lJ4, lJ5, lJ6, lJ7, lJ8, lJ9, lJ10, lJ30, lJ32, lJ33, lJ39, lJ40, lJ41, lJ45, lJ47, lJ48, lJ51, lJ55, lJ57, lJ58, lJ59, lJ60, lJ64, lJ80, lJ82, lJ99, lJ100, lJ101, lJ123, lJ126, lJ282, lJ342, lJ1000, lJ1100, lJ2394, lJ2736, lJ9999, lJ10000, lJ1000000, lJ100000000, J_add, J_sub, J_mul, J_neg, J_le, J_lt, J_eq, J_in, J_clamp, Int.toNat_natCast]
          refine ⟨by omega, ?_⟩
          rintro μ18 rfl
          refine ⟨by omega, ?_⟩
          rintro μ20 rfl
          have st := hl_st (n := n) (w := w) (m := m + 1) (t := w m 1) (q := w m 2) (by omega) (n - (m + 1))
          rw [show m + 1 + (n - (m + 1)) = n by omega] at st
          refine fin _ ((b9.tr (Bt.up (by decide))).tr (Bt.up (by decide))) ⟨?_, fun h hh => ?_⟩ (fun i => ?_) (fun i => ?_)
          · rw [up_nq (by decide), up_nq (by decide)]; exact mh9.1
          · rw [up_nq (by decide), up_nq (by decide), up_nq (by decide), up_nq (by decide)]; exact mh9.2 h hh
          · rw [up_nq (by decide), up_at, a9]
            by_cases e : i = m
            · rw [if_pos ⟨rfl, rfl, e⟩, if_pos e, show ab n w m = 40 + hh by unfold ab; rw [if_neg (by omega), if_pos kc, st, hq]]
            · rw [if_neg (fun z => e z.2.2), if_neg e, if_neg e]
          · rw [up_at, up_nq (by decide), k9, kc]
            by_cases e : i = m
            · rw [if_pos ⟨rfl, rfl, e⟩, if_pos e]
            · rw [if_neg (fun z => e z.2.2), if_neg e, if_neg e]
        simp (disch := omega) only [lJ0, lJ1, lJ2, lJ3, lJ4, lJ5, lJ6, lJ7, lJ8, lJ9, lJ10, lJ30, lJ32, lJ33, lJ39, lJ40, lJ41, lJ45, lJ47, lJ48, lJ51, lJ55, lJ57, lJ58, lJ59, lJ60, lJ64, lJ80, lJ82, lJ99, lJ100, lJ101, lJ123, lJ126, lJ282, lJ342, lJ1000, lJ1100, lJ2394, lJ2736, lJ9999, lJ10000, lJ1000000, lJ100000000, J_add, J_sub, J_mul, J_neg, J_le, J_lt, J_eq, J_in, J_clamp, Int.toNat_natCast]
        refine ⟨fun z2 => ?_, fun z2 => ?_⟩
        · have e : hl n w (m + 1) = hl n w m := by rw [hl_succ, if_neg (fun y => z2 y.2)]
          exact p149 μ8 _ (by omega) (by omega) (b68.mo (by decide)) (by rw [e]; exact mh8) u8a u8k (by rw [e])
        · have e : hl n w (m + 1) = hl n w m ++ [(w m 1, w m 2)] := by rw [hl_succ, if_pos ⟨kc, z2⟩]
          refine of_spec hm8 rn m 1 rfl rfl c (by omega) ?_
          dsimp only
          simp (disch := omega) only [lJ0, lJ1, lJ2, lJ3, lJ4, lJ5, lJ6, lJ7, lJ8, lJ9, lJ10, lJ30, lJ32, lJ33, lJ39, lJ40, lJ41, lJ45, lJ47, lJ48, lJ51, lJ55, lJ57, lJ58, lJ59, lJ60, lJ64, lJ80, lJ82, lJ99, lJ100, lJ101, lJ123, lJ126, lJ282, lJ342, lJ1000, lJ1100, lJ2394, lJ2736, lJ9999, lJ10000, lJ1000000, lJ100000000, J_add, J_sub, J_mul, J_neg, J_le, J_lt, J_eq, J_in, J_clamp, Int.toNat_natCast, mh8.1]
          refine ⟨by omega, ?_⟩
          rintro μ24 rfl
          have b24 : Bt [4096] μ8 (up μ8 4096 0 (hl n w m).length (J (w m 1))) := Bt.up (by decide)
          have u24 : ∀ i, (up μ8 4096 0 (hl n w m).length (J (w m 1))) 4096 0 i = if i = (hl n w m).length then J (w m 1) else μ8 4096 0 i := fun i => by rw [up_row]; rfl
          generalize up μ8 4096 0 (hl n w m).length (J (w m 1)) = μ24 at b24 u24 ⊢
          refine of_spec (hm8.bt b24 (by decide)) rn m 2 rfl rfl c (by omega) ?_
          dsimp only
          refine ⟨by omega, ?_⟩
          rintro μ28 rfl μ29 rfl
          have b28 : Bt [4160] μ24 (up μ24 4160 0 (hl n w m).length (J (w m 2))) := Bt.up (by decide)
          have u28 : ∀ i, (up μ24 4160 0 (hl n w m).length (J (w m 2))) 4160 0 i = if i = (hl n w m).length then J (w m 2) else μ24 4160 0 i := fun i => by rw [up_row]; rfl
          generalize up μ24 4160 0 (hl n w m).length (J (w m 2)) = μ28 at b28 u28 ⊢
          have c28 : μ28 3222 0 0 = J (hl n w m).length := by rw [b28 _ (by decide), b24 _ (by decide)]; exact mh8.1
          rw [c28, J_add]
          have b29 : Bt [3222] μ28 (up μ28 3222 0 0 (J ((hl n w m).length + 1))) := Bt.up (by decide)
          have u29 : (up μ28 3222 0 0 (J ((hl n w m).length + 1))) 3222 0 0 = J ((hl n w m).length + 1) := up_self
          generalize up μ28 3222 0 0 (J ((hl n w m).length + 1)) = μ29 at b29 u29 ⊢
          refine p149 μ29 _ (by omega) (by omega) ((((b68.mo (by decide)).tr (b24.mo (by decide))).tr (b28.mo (by decide))).tr (b29.mo (by decide))) ⟨?_, fun h hh => ?_⟩ (fun i => ?_) (fun i => ?_) ?_
          · rw [e, List.length_append, List.length_singleton]; exact u29
          · rw [e, List.length_append, List.length_singleton] at hh
            rw [b29 4096 (by decide), b29 4160 (by decide), b28 4096 (by decide), u24, u28, b24 4160 (by decide), e]
            by_cases z3 : h = (hl n w m).length
            · rw [if_pos z3, if_pos z3, z3, lf_last, lt_last]; exact ⟨rfl, rfl⟩
            · rw [if_neg z3, if_neg z3, lf_app (by omega), lt_app (by omega)]; exact mh8.2 h (by omega)
          · rw [b29 3968 (by decide), b28 3968 (by decide), b24 3968 (by decide)]; exact u8a i
          · rw [b29 4032 (by decide), b28 4032 (by decide), b24 4032 (by decide)]; exact u8k i
          · rw [e, hfn_new hi.2.1 z2]
    · -- a child
      rw [if_neg y] at hv
      have kc : kd n w m = if cutb n w m = true then 3 else 1 := by
        unfold kd
        rw [if_neg (fun z => y (pp_none hw z)), if_neg (by omega)]
      simp (disch := omega) only [lJ0, lJ1, lJ2, lJ3, lJ4, lJ5, lJ6, lJ7, lJ8, lJ9, lJ10, lJ30, lJ32, lJ33, lJ39, lJ40, lJ41, lJ45, lJ47, lJ48, lJ51, lJ55, lJ57, lJ58, lJ59, lJ60, lJ64, lJ80, lJ82, lJ99, lJ100, lJ101, lJ123, lJ126, lJ282, lJ342, lJ1000, lJ1100, lJ2394, lJ2736, lJ9999, lJ10000, lJ1000000, lJ100000000, J_add, J_sub, J_mul, J_neg, J_le, J_lt, J_eq, J_in, J_clamp, Int.toNat_natCast]
      refine ⟨fun z => absurd z y, fun _ => ?_⟩
      refine isCut_spec hm8 hw c (fun z => ⟨fun c => absurd c (by decide), fun _ => ⟨by omega, ?_⟩⟩) (fun z => ⟨fun _ => ?_, fun c => absurd rfl c⟩)
      · rintro μ36 rfl
        refine ⟨by omega, ?_⟩
        rintro μ38 rfl
        unfold w9_plants_b73
        simp (disch := omega) only [lJ0, lJ1, lJ2, lJ3, lJ4, lJ5, lJ6, lJ7, lJ8, lJ9, lJ10, lJ30, lJ32, lJ33, lJ39, lJ40, lJ41, lJ45, lJ47, lJ48, lJ51, lJ55, lJ57, lJ58, lJ59, lJ60, lJ64, lJ80, lJ82, lJ99, lJ100, lJ101, lJ123, lJ126, lJ282, lJ342, lJ1000, lJ1100, lJ2394, lJ2736, lJ9999, lJ10000, lJ1000000, lJ100000000, J_add, J_sub, J_mul, J_neg, J_le, J_lt, J_eq, J_in, J_clamp, Int.toNat_natCast]
        refine ⟨fun _ => ?_, fun z => absurd z y⟩
        rw [if_pos z] at kc
        refine fin _ (((b68.mo (by decide)).tr (Bt.up (by decide))).tr (Bt.up (by decide))) ⟨?_, fun h hh => ?_⟩ (fun i => ?_) (fun i => ?_)
        · rw [up_nq (by decide), up_nq (by decide), same (by omega)]; exact mh8.1
        · rw [up_nq (by decide), up_nq (by decide), up_nq (by decide), up_nq (by decide)]
          rw [same (by omega)] at hh ⊢
          exact mh8.2 h hh
        · rw [up_nq (by decide), up_at, u8a, show ab n w m = -1 by unfold ab; rw [if_neg (by omega), if_neg (by omega)]]
          by_cases e : i = m
          · rw [if_pos ⟨rfl, rfl, e⟩, if_pos e]
          · rw [if_neg (fun z => e z.2.2), if_neg e, if_neg e]
        · rw [up_at, up_nq (by decide), u8k, kc]
          by_cases e : i = m
          · rw [if_pos ⟨rfl, rfl, e⟩, if_pos e]
          · rw [if_neg (fun z => e z.2.2), if_neg e, if_neg e]
      · unfold w9_plants_b73
        simp (disch := omega) only [lJ0, lJ1, lJ2, lJ3, lJ4, lJ5, lJ6, lJ7, lJ8, lJ9, lJ10, lJ30, lJ32, lJ33, lJ39, lJ40, lJ41, lJ45, lJ47, lJ48, lJ51, lJ55, lJ57, lJ58, lJ59, lJ60, lJ64, lJ80, lJ82, lJ99, lJ100, lJ101, lJ123, lJ126, lJ282, lJ342, lJ1000, lJ1100, lJ2394, lJ2736, lJ9999, lJ10000, lJ1000000, lJ100000000, J_add, J_sub, J_mul, J_neg, J_le, J_lt, J_eq, J_in, J_clamp, Int.toNat_natCast]
        refine ⟨fun _ => ?_, fun z => absurd z y⟩
        rw [if_neg z] at kc
        refine fin μ8 (b68.mo (by decide)) (by rw [same (by omega)]; exact mh8) (fun i => ?_) (fun i => ?_)
        · rw [u8a, show ab n w m = pp n w m by unfold ab; rw [if_pos kc]]
        · rw [u8k, kc, hv]
  simp (disch := omega) only [lJ0, lJ1, lJ2, lJ3, lJ4, lJ5, lJ6, lJ7, lJ8, lJ9, lJ10, lJ30, lJ32, lJ33, lJ39, lJ40, lJ41, lJ45, lJ47, lJ48, lJ51, lJ55, lJ57, lJ58, lJ59, lJ60, lJ64, lJ80, lJ82, lJ99, lJ100, lJ101, lJ123, lJ126, lJ282, lJ342, lJ1000, lJ1100, lJ2394, lJ2736, lJ9999, lJ10000, lJ1000000, lJ100000000, J_add, J_sub, J_mul, J_neg, J_le, J_lt, J_eq, J_in, J_clamp, Int.toNat_natCast]
  refine ⟨fun z => p45 1 (by rw [if_neg z]), fun z => p45 0 (by rw [if_pos z])⟩
