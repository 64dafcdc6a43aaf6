-- calls on the trees: the reference
theorem m_nodeBegin_spec {S : GS} {μ : Mem} (k : MQ9 S μ) (g : GOK S) {x : Int} (hx : Nx S x) (he : 40 ≤ x → ∃ i, i < S.1.1 ∧ ab (S.1.1) (S.1.2.1) i = x) {P : Int32 → Mem → Prop} (h : P (J (nbg (S.1.1) (S.1.2.1) x)) μ) : w9_nodeBegin_wp μ (J x) P := by
  have rn := g.1.n
  have rl := hl_len g
  unfold w9_nodeBegin_wp
  unfold nbg at h
  rcases hx with hx | hx
  · rw [if_pos (by omega)] at h
    simp (disch := omega) only [lJ0, lJ1, lJ2, lJ3, lJ4, lJ5, lJ6, lJ7, lJ8, lJ9, lJ10, lJ30, lJ32, lJ33, lJ39, lJ40, lJ41, lJ45, lJ47, lJ48, lJ51, lJ55, lJ57, lJ58, lJ59, lJ60, lJ64, lJ80, lJ82, lJ99, lJ100, lJ101, lJ123, lJ126, lJ282, lJ342, lJ1000, lJ1100, lJ2394, lJ2736, lJ9999, lJ10000, lJ1000000, lJ100000000, J_add, J_sub, J_mul, J_neg, J_le, J_lt, J_eq, J_in, J_clamp, Int.toNat_natCast]
    exact ⟨fun c => by omega, fun _ => m_begin_spec k g (i := x.toNat) (by omega) (by congr 1; omega) h⟩
  · rw [if_neg (by omega)] at h
    obtain ⟨i0, hi0, ha0⟩ := he hx.1
    simp (disch := omega) only [lJ0, lJ1, lJ2, lJ3, lJ4, lJ5, lJ6, lJ7, lJ8, lJ9, lJ10, lJ30, lJ32, lJ33, lJ39, lJ40, lJ41, lJ45, lJ47, lJ48, lJ51, lJ55, lJ57, lJ58, lJ59, lJ60, lJ64, lJ80, lJ82, lJ99, lJ100, lJ101, lJ123, lJ126, lJ282, lJ342, lJ1000, lJ1100, lJ2394, lJ2736, lJ9999, lJ10000, lJ1000000, lJ100000000, J_add, J_sub, J_mul, J_neg, J_le, J_lt, J_eq, J_in, J_clamp, Int.toNat_natCast]
    refine ⟨fun _ => ?_, fun c => by omega⟩
    intro R hR
    refine down (Q := fun i => R μ (J x) (J (rb (mnb (S.1.1) (S.1.2.1) x i))) (J i)) (S.1.1) (fun i hi ih => ?_)
    apply hR
    unfold w9_nodeBegin_b17_body
    have r := (mnb_rg g.w x i hi).1
    have e0 := k.n0
    rcases Nat.lt_or_ge i (S.1.1) with c | c
    · have ih := ih c
      have e := k.ab c
      have b := be_rg g.w c
      have ra := ab_rg (w := S.1.2.1) c
      rw [mnb_succ] at ih
      have hz : ∀ z : Int, z = (rb (mnb (S.1.1) (S.1.2.1) x i)) → -489951 ≤ z ∧ z ≤ 100000000 ∧ (bgn (S.1.1) (S.1.2.1) i < z ↔ bgn (S.1.1) (S.1.2.1) i < mnb (S.1.1) (S.1.2.1) x i) := by
        intro z hz
        rw [hz]
        unfold rb
        split <;> omega
      generalize hl : (rb (mnb (S.1.1) (S.1.2.1) x i)) = l
      have hl2 := hz l hl.symm
      simp (disch := omega) only [lJ0, lJ1, lJ2, lJ3, lJ4, lJ5, lJ6, lJ7, lJ8, lJ9, lJ10, lJ30, lJ32, lJ33, lJ39, lJ40, lJ41, lJ45, lJ47, lJ48, lJ51, lJ55, lJ57, lJ58, lJ59, lJ60, lJ64, lJ80, lJ82, lJ99, lJ100, lJ101, lJ123, lJ126, lJ282, lJ342, lJ1000, lJ1100, lJ2394, lJ2736, lJ9999, lJ10000, lJ1000000, lJ100000000, J_add, J_sub, J_mul, J_neg, J_le, J_lt, J_eq, J_in, J_clamp, Int.toNat_natCast, Int.toNat_zero, e0, e]
      refine ⟨by omega, fun _ => by omega, fun _ => ⟨by omega, fun c2 => ?_, fun c2 => ?_⟩⟩
      · rw [if_neg (fun z => c2 z.1), hl] at ih
        exact ih
      · refine m_begin_spec k g c rfl ?_
        simp (disch := omega) only [lJ0, lJ1, lJ2, lJ3, lJ4, lJ5, lJ6, lJ7, lJ8, lJ9, lJ10, lJ30, lJ32, lJ33, lJ39, lJ40, lJ41, lJ45, lJ47, lJ48, lJ51, lJ55, lJ57, lJ58, lJ59, lJ60, lJ64, lJ80, lJ82, lJ99, lJ100, lJ101, lJ123, lJ126, lJ282, lJ342, lJ1000, lJ1100, lJ2394, lJ2736, lJ9999, lJ10000, lJ1000000, lJ100000000, J_add, J_sub, J_mul, J_neg, J_le, J_lt, J_eq, J_in, J_clamp, Int.toNat_natCast]
        refine ⟨fun c3 => ?_, fun c3 => m_begin_spec k g c rfl ?_⟩
        · rw [if_neg (fun z => by omega), hl] at ih
          exact ih
        · rw [if_pos ⟨c2, by omega⟩, show rb (bgn (S.1.1) (S.1.2.1) i) = bgn (S.1.1) (S.1.2.1) i from if_neg (by omega)] at ih
          exact ih
    · have e9 : i = S.1.1 := by omega
      subst e9
      have := (mnb_rg g.w x (S.1.1) (Nat.le_refl _)).2 i0 hi0 ha0
      have b := be_rg g.w hi0
      rw [show rb (mnb (S.1.1) (S.1.2.1) x (S.1.1)) = mnb (S.1.1) (S.1.2.1) x (S.1.1) from if_neg (by omega)]
      simp (disch := omega) only [lJ0, lJ1, lJ2, lJ3, lJ4, lJ5, lJ6, lJ7, lJ8, lJ9, lJ10, lJ30, lJ32, lJ33, lJ39, lJ40, lJ41, lJ45, lJ47, lJ48, lJ51, lJ55, lJ57, lJ58, lJ59, lJ60, lJ64, lJ80, lJ82, lJ99, lJ100, lJ101, lJ123, lJ126, lJ282, lJ342, lJ1000, lJ1100, lJ2394, lJ2736, lJ9999, lJ10000, lJ1000000, lJ100000000, J_add, J_sub, J_mul, J_neg, J_le, J_lt, J_eq, J_in, J_clamp, Int.toNat_natCast, Int.toNat_zero, e0]
      exact ⟨by omega, fun _ => h, fun c => absurd (Int.le_refl _) c⟩
theorem m_nodeEnd_spec {S : GS} {μ : Mem} (k : MQ9 S μ) (g : GOK S) {x : Int} (hx : Nx S x) (he : 40 ≤ x → ∃ i, i < S.1.1 ∧ ab (S.1.1) (S.1.2.1) i = x) {P : Int32 → Mem → Prop} (h : P (J (nen (S.1.1) (S.1.2.1) x)) μ) : w9_nodeEnd_wp μ (J x) P := by
  have rn := g.1.n
  have rlen := hl_len g
  unfold w9_nodeEnd_wp
  unfold nen at h
  rcases hx with hx | hx
  · rw [if_pos (by omega)] at h
    simp (disch := omega) only [lJ0, lJ1, lJ2, lJ3, lJ4, lJ5, lJ6, lJ7, lJ8, lJ9, lJ10, lJ30, lJ32, lJ33, lJ39, lJ40, lJ41, lJ45, lJ47, lJ48, lJ51, lJ55, lJ57, lJ58, lJ59, lJ60, lJ64, lJ80, lJ82, lJ99, lJ100, lJ101, lJ123, lJ126, lJ282, lJ342, lJ1000, lJ1100, lJ2394, lJ2736, lJ9999, lJ10000, lJ1000000, lJ100000000, J_add, J_sub, J_mul, J_neg, J_le, J_lt, J_eq, J_in, J_clamp, Int.toNat_natCast]
    exact ⟨fun c => by omega, fun _ => m_end_spec k g (i := x.toNat) (by omega) (by congr 1; omega) h⟩
  · rw [if_neg (by omega)] at h
    obtain ⟨i0, hi0, ha0⟩ := he hx.1
    simp (disch := omega) only [lJ0, lJ1, lJ2, lJ3, lJ4, lJ5, lJ6, lJ7, lJ8, lJ9, lJ10, lJ30, lJ32, lJ33, lJ39, lJ40, lJ41, lJ45, lJ47, lJ48, lJ51, lJ55, lJ57, lJ58, lJ59, lJ60, lJ64, lJ80, lJ82, lJ99, lJ100, lJ101, lJ123, lJ126, lJ282, lJ342, lJ1000, lJ1100, lJ2394, lJ2736, lJ9999, lJ10000, lJ1000000, lJ100000000, J_add, J_sub, J_mul, J_neg, J_le, J_lt, J_eq, J_in, J_clamp, Int.toNat_natCast]
    refine ⟨fun _ => ?_, fun c => by omega⟩
    intro R hR
    refine down (Q := fun i => R μ (J x) (J (rl (mxe (S.1.1) (S.1.2.1) x i))) (J i)) (S.1.1) (fun i hi ih => ?_)
    apply hR
    unfold w9_nodeEnd_b17_body
    have r := (mxe_rg g.w x i hi).1
    have e0 := k.n0
    rcases Nat.lt_or_ge i (S.1.1) with c | c
    · have ih := ih c
      have e := k.ab c
      have b := be_rg g.w c
      have ra := ab_rg (w := S.1.2.1) c
      rw [mxe_succ] at ih
      have hz : ∀ z : Int, z = (rl (mxe (S.1.1) (S.1.2.1) x i)) → -100000000 ≤ z ∧ z ≤ 499950 ∧ (z < enn (S.1.1) (S.1.2.1) i ↔ mxe (S.1.1) (S.1.2.1) x i < enn (S.1.1) (S.1.2.1) i) := by
        intro z hz
        rw [hz]
        unfold rl
        split <;> omega
      generalize hl : (rl (mxe (S.1.1) (S.1.2.1) x i)) = l
      have hl2 := hz l hl.symm
      simp (disch := omega) only [lJ0, lJ1, lJ2, lJ3, lJ4, lJ5, lJ6, lJ7, lJ8, lJ9, lJ10, lJ30, lJ32, lJ33, lJ39, lJ40, lJ41, lJ45, lJ47, lJ48, lJ51, lJ55, lJ57, lJ58, lJ59, lJ60, lJ64, lJ80, lJ82, lJ99, lJ100, lJ101, lJ123, lJ126, lJ282, lJ342, lJ1000, lJ1100, lJ2394, lJ2736, lJ9999, lJ10000, lJ1000000, lJ100000000, J_add, J_sub, J_mul, J_neg, J_le, J_lt, J_eq, J_in, J_clamp, Int.toNat_natCast, Int.toNat_zero, e0, e]
      refine ⟨by omega, fun _ => by omega, fun _ => ⟨by omega, fun c2 => ?_, fun c2 => ?_⟩⟩
      · rw [if_neg (fun z => c2 z.1), hl] at ih
        exact ih
      · refine m_end_spec k g c rfl ?_
        simp (disch := omega) only [lJ0, lJ1, lJ2, lJ3, lJ4, lJ5, lJ6, lJ7, lJ8, lJ9, lJ10, lJ30, lJ32, lJ33, lJ39, lJ40, lJ41, lJ45, lJ47, lJ48, lJ51, lJ55, lJ57, lJ58, lJ59, lJ60, lJ64, lJ80, lJ82, lJ99, lJ100, lJ101, lJ123, lJ126, lJ282, lJ342, lJ1000, lJ1100, lJ2394, lJ2736, lJ9999, lJ10000, lJ1000000, lJ100000000, J_add, J_sub, J_mul, J_neg, J_le, J_lt, J_eq, J_in, J_clamp, Int.toNat_natCast]
        refine ⟨fun c3 => ?_, fun c3 => m_end_spec k g c rfl ?_⟩
        · rw [if_neg (fun z => by omega), hl] at ih
          exact ih
        · rw [if_pos ⟨c2, by omega⟩, show rl (enn (S.1.1) (S.1.2.1) i) = enn (S.1.1) (S.1.2.1) i from if_neg (by omega)] at ih
          exact ih
    · have e9 : i = S.1.1 := by omega
      subst e9
      have := (mxe_rg g.w x (S.1.1) (Nat.le_refl _)).2 i0 hi0 ha0
      have b := be_rg g.w hi0
      rw [show rl (mxe (S.1.1) (S.1.2.1) x (S.1.1)) = mxe (S.1.1) (S.1.2.1) x (S.1.1) from if_neg (by omega)]
      simp (disch := omega) only [lJ0, lJ1, lJ2, lJ3, lJ4, lJ5, lJ6, lJ7, lJ8, lJ9, lJ10, lJ30, lJ32, lJ33, lJ39, lJ40, lJ41, lJ45, lJ47, lJ48, lJ51, lJ55, lJ57, lJ58, lJ59, lJ60, lJ64, lJ80, lJ82, lJ99, lJ100, lJ101, lJ123, lJ126, lJ282, lJ342, lJ1000, lJ1100, lJ2394, lJ2736, lJ9999, lJ10000, lJ1000000, lJ100000000, J_add, J_sub, J_mul, J_neg, J_le, J_lt, J_eq, J_in, J_clamp, Int.toNat_natCast, Int.toNat_zero, e0]
      exact ⟨by omega, fun _ => h, fun c => absurd (Int.le_refl _) c⟩
theorem nd_kid {S : GS} (g : GOK S) {t q : Int} (h : nd (S.1.1) (S.1.2.1) t q ≠ -1) : 40 ≤ nd (S.1.1) (S.1.2.1) t q → ∃ i, i < S.1.1 ∧ ab (S.1.1) (S.1.2.1) i = nd (S.1.1) (S.1.2.1) t q := by
  intro h4
  have rn := g.1.n
  rcases nd_cs g.w h with ⟨c1, c2, c3, c4⟩ | ⟨c1, c2, c3⟩
  · omega
  · obtain ⟨i, hi, e⟩ := (nd_ph g.w c3).mp h
    exact ⟨i, hi, (nd_ch g.w h hi).mp e⟩
theorem m_isEarlier_spec {S : GS} {μ : Mem} (k : MQ9 S μ) (g : GOK S) {i j : Nat} (hi : i < S.1.1) (hj : j < S.1.1) {P : Int32 → Mem → Prop} (h1 : erl (S.1.1) (S.1.2.1) i j → P 1 μ) (h0 : ¬ erl (S.1.1) (S.1.2.1) i j → P 0 μ) : w9_isEarlier_wp μ (J i) (J j) P := by
  have rn := g.1.n
  have ri := g.w.r i hi
  have rj := g.w.r j hj
  have bi := be_rg g.w hi
  have bj := be_rg g.w hj
  unfold w9_isEarlier_wp
  refine m_begin_spec k g hi rfl (m_begin_spec k g hj rfl ?_)
  simp (disch := omega) only [lJ0, lJ1, lJ2, lJ3, lJ4, lJ5, lJ6, lJ7, lJ8, lJ9, lJ10, lJ30, lJ32, lJ33, lJ39, lJ40, lJ41, lJ45, lJ47, lJ48, lJ51, lJ55, lJ57, lJ58, lJ59, lJ60, lJ64, lJ80, lJ82, lJ99, lJ100, lJ101, lJ123, lJ126, lJ282, lJ342, lJ1000, lJ1100, lJ2394, lJ2736, lJ9999, lJ10000, lJ1000000, lJ100000000, J_add, J_sub, J_mul, J_neg, J_le, J_lt, J_eq, J_in, J_clamp, Int.toNat_natCast]
  refine ⟨fun c => ?_, fun c => ?_⟩
  · refine of_spec k.1.1.1 rn i 0 rfl rfl hi (by omega) (of_spec k.1.1.1 rn j 0 rfl rfl hj (by omega) ?_)
    simp (disch := omega) only [lJ0, lJ1, lJ2, lJ3, lJ4, lJ5, lJ6, lJ7, lJ8, lJ9, lJ10, lJ30, lJ32, lJ33, lJ39, lJ40, lJ41, lJ45, lJ47, lJ48, lJ51, lJ55, lJ57, lJ58, lJ59, lJ60, lJ64, lJ80, lJ82, lJ99, lJ100, lJ101, lJ123, lJ126, lJ282, lJ342, lJ1000, lJ1100, lJ2394, lJ2736, lJ9999, lJ10000, lJ1000000, lJ100000000, J_add, J_sub, J_mul, J_neg, J_le, J_lt, J_eq, J_in, J_clamp, Int.toNat_natCast]
    exact ⟨fun c2 => h0 (by unfold erl; omega), fun c2 => h1 (by unfold erl; omega)⟩
  · refine m_begin_spec k g hi rfl (m_begin_spec k g hj rfl ?_)
    simp (disch := omega) only [lJ0, lJ1, lJ2, lJ3, lJ4, lJ5, lJ6, lJ7, lJ8, lJ9, lJ10, lJ30, lJ32, lJ33, lJ39, lJ40, lJ41, lJ45, lJ47, lJ48, lJ51, lJ55, lJ57, lJ58, lJ59, lJ60, lJ64, lJ80, lJ82, lJ99, lJ100, lJ101, lJ123, lJ126, lJ282, lJ342, lJ1000, lJ1100, lJ2394, lJ2736, lJ9999, lJ10000, lJ1000000, lJ100000000, J_add, J_sub, J_mul, J_neg, J_le, J_lt, J_eq, J_in, J_clamp, Int.toNat_natCast]
    exact ⟨fun c2 => h0 (by unfold erl; omega), fun c2 => h1 (by unfold erl; omega)⟩
theorem m_root {S : GS} {μ : Mem} (hm : MI S μ) (g : GOK S) {z : Int} (hz : (-2147483648 ≤ z ∧ z ≤ 2147483647)) {P : Int32 → Mem → Prop} (h : MRes J (op_root S z) μ P) : w9_root_wp μ (J z) P := by
  unfold op_root at h
  unfold w9_root_wp
  refine m_on2 hm g hz (fun c μ1 f1 k1 t1 => ⟨fun c => absurd c (by rw [t1]; decide), fun _ => by rw [if_pos c] at h; exact m_thw h f1 k1 t1⟩) (fun i hi ei ez μ1 f1 k1 t1 => ⟨fun _ => ?_, fun c => absurd (by rw [t1]; decide) c⟩)
  rw [if_neg (by omega), ei, Int.toNat_natCast] at h
  refine knows_spec2 k1 g (fun μ2 f2 t2 k2 => ?_)
  refine m_rootOf_spec k2 g hi rfl (m_number_spec k2 g (rtx_Nx g hi) ?_)
  rw [rno_num g.w hi]
  exact m_ok h (f1.tr f2) k2.1 (t2.trans t1) rfl
theorem m_depth {S : GS} {μ : Mem} (hm : MI S μ) (g : GOK S) {z : Int} (hz : (-2147483648 ≤ z ∧ z ≤ 2147483647)) {P : Int32 → Mem → Prop} (h : MRes J (op_depth S z) μ P) : w9_depth_wp μ (J z) P := by
  unfold op_depth at h
  unfold w9_depth_wp
  refine m_on2 hm g hz (fun c μ1 f1 k1 t1 => ⟨fun c => absurd c (by rw [t1]; decide), fun _ => by rw [if_pos c] at h; exact m_thw h f1 k1 t1⟩) (fun i hi ei ez μ1 f1 k1 t1 => ⟨fun _ => ?_, fun c => absurd (by rw [t1]; decide) c⟩)
  rw [if_neg (by omega), ei, Int.toNat_natCast] at h
  refine knows_spec2 k1 g (fun μ2 f2 t2 k2 => ?_)
  exact m_depthOf_spec k2 g hi (m_ok h (f1.tr f2) k2.1 (t2.trans t1) rfl)
theorem m_below {S : GS} {μ : Mem} (hm : MI S μ) (g : GOK S) {t q : Int} (ht : (-2147483648 ≤ t ∧ t ≤ 2147483647)) (hq : (-2147483648 ≤ q ∧ q ≤ 2147483647)) {P : Int32 → Mem → Prop} (h : MRes J (op_below S t q) μ P) : w9_below_wp μ (J t) (J q) P := by
  unfold op_below at h
  unfold w9_below_wp
  have rn := g.1.n
  have bad : ∀ μ', FrM μ μ' → MI S μ' → ∀ v : Int, 1 ≤ v ∧ v ≤ 2 → μ' 3201 0 0 = J v → MRes J (thw (α := Int) S "" v) μ P → w9_below_b13 P μ' (J (-1)) 0 0 := by
    intro μ' f k v hv t1 h R hR
    apply hR
    unfold w9_below_b13_body
    have e0 : μ' 3264 0 0 = J (S.1.1) := k.1.1.1
    simp (disch := omega) only [lJ0, lJ1, lJ2, lJ3, lJ4, lJ5, lJ6, lJ7, lJ8, lJ9, lJ10, lJ30, lJ32, lJ33, lJ39, lJ40, lJ41, lJ45, lJ47, lJ48, lJ51, lJ55, lJ57, lJ58, lJ59, lJ60, lJ64, lJ80, lJ82, lJ99, lJ100, lJ101, lJ123, lJ126, lJ282, lJ342, lJ1000, lJ1100, lJ2394, lJ2736, lJ9999, lJ10000, lJ1000000, lJ100000000, J_add, J_sub, J_mul, J_neg, J_le, J_lt, J_eq, J_in, J_clamp, Int.toNat_natCast, Int.toNat_zero, e0, t1]
    refine ⟨by omega, fun _ => m_thw h f k t1, fun _ => ⟨fun _ => m_thw h f k t1, fun c => by omega⟩⟩
  refine m_nodeOr_spec hm g ht hq (fun c μ' f k t1 => ?_) (fun c c2 μ' f k t1 => ?_) (fun c c2 μ' f k t1 => ?_)
  · rw [if_neg c] at h
    exact bad μ' f k 1 (by omega) t1 h
  · rw [if_pos c, if_pos c2] at h
    exact bad μ' f k 2 (by omega) t1 h
  · rw [if_pos c, if_neg c2] at h
    have nx := nd_Nx g c2
    have rl := hl_len g
    have h := m_ok h f k.1 t1 rfl
    generalize nd (S.1.1) (S.1.2.1) t q = x at h nx ⊢
    have rx : 0 ≤ x ∧ x < 100 := by unfold Nx at nx; omega
    intro R hR
    refine down (Q := fun i => R μ' (J x) (J (cnt (fun i => bl (S.1.1) (S.1.2.1) x i = true) i)) (J i)) (S.1.1) (fun i hi ih => ?_)
    apply hR
    unfold w9_below_b13_body
    have e0 := k.n0
    rcases Nat.lt_or_ge i (S.1.1) with c | c
    · have ih := ih c
      simp (disch := omega) only [lJ0, lJ1, lJ2, lJ3, lJ4, lJ5, lJ6, lJ7, lJ8, lJ9, lJ10, lJ30, lJ32, lJ33, lJ39, lJ40, lJ41, lJ45, lJ47, lJ48, lJ51, lJ55, lJ57, lJ58, lJ59, lJ60, lJ64, lJ80, lJ82, lJ99, lJ100, lJ101, lJ123, lJ126, lJ282, lJ342, lJ1000, lJ1100, lJ2394, lJ2736, lJ9999, lJ10000, lJ1000000, lJ100000000, J_add, J_sub, J_mul, J_neg, J_le, J_lt, J_eq, J_in, J_clamp, Int.toNat_natCast, Int.toNat_zero, e0, t1, Int.add_zero]
      refine ⟨by omega, fun _ => by omega, fun _ => ⟨fun c => absurd trivial c, fun _ => ?_⟩⟩
      rw [cnt_succ] at ih
      refine m_isBelow_spec k g c rx rfl (fun c5 => ⟨fun c => absurd c (by decide), fun _ => ?_⟩) (fun c5 => ⟨fun _ => ?_, fun c => absurd rfl c⟩)
      · rw [if_pos c5] at ih; exact ih
      · rw [if_neg c5] at ih; exact ih
    · have e9 : i = S.1.1 := by omega
      subst e9
      simp (disch := omega) only [lJ0, lJ1, lJ2, lJ3, lJ4, lJ5, lJ6, lJ7, lJ8, lJ9, lJ10, lJ30, lJ32, lJ33, lJ39, lJ40, lJ41, lJ45, lJ47, lJ48, lJ51, lJ55, lJ57, lJ58, lJ59, lJ60, lJ64, lJ80, lJ82, lJ99, lJ100, lJ101, lJ123, lJ126, lJ282, lJ342, lJ1000, lJ1100, lJ2394, lJ2736, lJ9999, lJ10000, lJ1000000, lJ100000000, J_add, J_sub, J_mul, J_neg, J_le, J_lt, J_eq, J_in, J_clamp, Int.toNat_natCast, Int.toNat_zero, e0]
      exact ⟨by omega, fun _ => h, fun c => absurd (Int.le_refl _) c⟩
theorem m_childCount {S : GS} {μ : Mem} (hm : MI S μ) (g : GOK S) {t q : Int} (ht : (-2147483648 ≤ t ∧ t ≤ 2147483647)) (hq : (-2147483648 ≤ q ∧ q ≤ 2147483647)) {P : Int32 → Mem → Prop} (h : MRes J (op_childCount S t q) μ P) : w9_childCount_wp μ (J t) (J q) P := by
  unfold op_childCount at h
  unfold w9_childCount_wp
  have rn := g.1.n
  have rl := hl_len g
  refine m_nodeOr_spec hm g ht hq (fun c μ' f k t1 => ⟨fun c => absurd c (by rw [t1]; decide), fun _ => by rw [if_neg c] at h; exact m_thw h f k t1⟩) (fun c c2 μ' f k t1 => ⟨fun c => absurd c (by rw [t1]; decide), fun _ => by rw [if_pos c, if_pos c2] at h; exact m_thw h f k t1⟩) (fun c c2 μ' f k t1 => ⟨fun _ => ?_, fun c => absurd (by rw [t1]; decide) c⟩)
  rw [if_pos c, if_neg c2] at h
  have nx := nd_Nx g c2
  unfold Nx at nx
  exact m_childrenOf_spec k g (by omega) (m_ok h f k.1 t1 rfl)
theorem m_missing {S : GS} {μ : Mem} (hm : MI S μ) (g : GOK S) {t q v : Int} (ht : (-2147483648 ≤ t ∧ t ≤ 2147483647)) (hq : (-2147483648 ≤ q ∧ q ≤ 2147483647)) (hv : 0 ≤ v ∧ v ≤ 1) {P : Int32 → Mem → Prop} (h : MRes J (op_missing S t q v) μ P) : w9_missing_wp μ (J t) (J q) (J v) P := by
  unfold op_missing at h
  unfold w9_missing_wp
  have rn := g.1.n
  have rl := hl_len g
  refine m_nodeOr_spec hm g ht hq (fun c μ' f k t1 => ⟨fun c => absurd c (by rw [t1]; decide), fun _ => by rw [if_neg c] at h; exact m_thw h f k t1⟩) (fun c c2 μ' f k t1 => ⟨fun c => absurd c (by rw [t1]; decide), fun _ => by rw [if_pos c, if_neg (fun z => z.2 c2)] at h; exact m_thw h f k t1⟩) (fun c c2 μ' f k t1 => ⟨fun _ => ?_, fun c => absurd (by rw [t1]; decide) c⟩)
  rw [if_pos c] at h
  have nx := nd_Nx g c2
  have kid := nd_kid g c2
  have iff1 : 1000 ≤ q ↔ 40 ≤ nd (S.1.1) (S.1.2.1) t q := by
    rcases nd_cs g.w c2 with ⟨d1, d2, d3, d4⟩ | ⟨d1, d2, d3⟩
    · have := fnd_hi g.w (q := q)
      clear kid
      omega
    · clear kid; omega
  have rx : 0 ≤ nd (S.1.1) (S.1.2.1) t q ∧ nd (S.1.1) (S.1.2.1) t q < 100 := by unfold Nx at nx; clear kid; omega
  simp (disch := omega) only [lJ0, lJ1, lJ2, lJ3, lJ4, lJ5, lJ6, lJ7, lJ8, lJ9, lJ10, lJ30, lJ32, lJ33, lJ39, lJ40, lJ41, lJ45, lJ47, lJ48, lJ51, lJ55, lJ57, lJ58, lJ59, lJ60, lJ64, lJ80, lJ82, lJ99, lJ100, lJ101, lJ123, lJ126, lJ282, lJ342, lJ1000, lJ1100, lJ2394, lJ2736, lJ9999, lJ10000, lJ1000000, lJ100000000, J_add, J_sub, J_mul, J_neg, J_le, J_lt, J_eq, J_in, J_clamp, Int.toNat_natCast]
  refine ⟨fun c3 => ?_, fun c3 => by rw [if_neg (fun z => c3 (iff1.mp z.1))] at h; exact m_fails rfl h f k.1⟩
  rw [if_pos ⟨iff1.mpr c3, c2⟩] at h
  refine ⟨fun c4 => ?_, fun c4 => ?_⟩
  · rw [if_pos c4] at h
    exact m_nodeBegin_spec k g nx kid (m_ok h f k.1 t1 rfl)
  · rw [if_neg c4] at h
    exact m_nodeEnd_spec k g nx kid (m_ok h f k.1 t1 rfl)
