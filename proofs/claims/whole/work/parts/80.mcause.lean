-- the reference on causes; shares of errors
theorem m_selfTime {S : GS} {μ : Mem} (hm : MI S μ) (g : GOK S) {z : Int} (hz : (-2147483648 ≤ z ∧ z ≤ 2147483647)) {P : Int32 → Mem → Prop} (h : MRes J (op_selfTime S z) μ P) : w9_selfTime_wp μ (J z) P := by
  unfold op_selfTime at h
  unfold w9_selfTime_wp
  refine m_on2 hm g hz (fun c μ1 f1 k1 t1 => ⟨fun c => absurd c (by rw [t1]; decide), fun _ => by rw [if_pos c] at h; exact m_thw h f1 k1 t1⟩) (fun i hi ei ez μ1 f1 k1 t1 => ⟨fun _ => ?_, fun c => absurd (by rw [t1]; decide) c⟩)
  rw [if_neg (by omega), ei, Int.toNat_natCast] at h
  refine knows_spec2 k1 g (fun μ2 f2 t2 k2 => ?_)
  refine m_own_spec k2 g hi rfl (fun μ3 b3 => ?_)
  exact m_ok h ((f1.tr f2).tr (b3.frM (by decide))) (k2.bt b3 (by decide)).1 (by rw [b3 3201 (by decide)]; exact t2.trans t1) rfl
theorem m_parallel {S : GS} {μ : Mem} (hm : MI S μ) (g : GOK S) {z u : Int} (hz : (-2147483648 ≤ z ∧ z ≤ 2147483647)) (hu : (-2147483648 ≤ u ∧ u ≤ 2147483647)) {P : Int32 → Mem → Prop} (h : MRes J (op_parallel S z u) μ P) : w9_parallel_wp μ (J z) (J u) P := by
  unfold op_parallel at h
  unfold w9_parallel_wp
  refine m_on2 hm g hz (fun c μ1 f1 k1 t1 => ⟨fun c => absurd c (by rw [t1]; decide), fun _ => by rw [if_pos c] at h; exact m_thw h f1 k1 t1⟩) (fun i hi ei ez μ1 f1 k1 t1 => ⟨fun _ => ?_, fun c => absurd (by rw [t1]; decide) c⟩)
  rw [if_neg (by omega), ei] at h
  refine knows_spec2 k1 g (fun μ2 f2 t2 k2 => ?_)
  have rn := g.1.n
  have e0 := k2.n0
  intro R hR
  refine down (Q := fun j => R μ2 (J u) (J i) (J (cnt (fun j => ab (S.1.1) (S.1.2.1) j = (i : Int) ∧ bgn (S.1.1) (S.1.2.1) j ≤ u ∧ u < enn (S.1.1) (S.1.2.1) j) j)) (J j)) (S.1.1) (fun j hj ih => ?_)
  apply hR
  unfold w9_parallel_b25_body
  rcases Nat.lt_or_ge j (S.1.1) with c | c
  · have ih := ih c
    have rj := be_rg g.w c
    have e := k2.ab c
    have ra := ab_rg (w := S.1.2.1) c
    rw [cnt_succ] at ih
    simp (disch := omega) only [lJ0, lJ1, lJ2, lJ3, lJ4, lJ5, lJ6, lJ7, lJ8, lJ9, lJ10, lJ30, lJ32, lJ33, lJ39, lJ40, lJ41, lJ45, lJ47, lJ48, lJ51, lJ55, lJ57, lJ58, lJ59, lJ60, lJ64, lJ80, lJ82, lJ99, lJ100, lJ101, lJ123, lJ126, lJ282, lJ342, lJ1000, lJ1100, lJ2394, lJ2736, lJ9999, lJ10000, lJ1000000, lJ100000000, J_add, J_sub, J_mul, J_neg, J_le, J_lt, J_eq, J_in, J_clamp, Int.toNat_natCast, Int.toNat_zero, e0, e, Int.add_zero]
    refine ⟨by omega, fun _ => by omega, fun _ => ⟨by omega, fun c2 => ?_, fun c2 => ?_⟩⟩
    · rw [if_neg (fun z => c2 z.1)] at ih; exact ih
    · refine m_begin_spec k2 g c rfl ?_
      simp (disch := omega) only [lJ0, lJ1, lJ2, lJ3, lJ4, lJ5, lJ6, lJ7, lJ8, lJ9, lJ10, lJ30, lJ32, lJ33, lJ39, lJ40, lJ41, lJ45, lJ47, lJ48, lJ51, lJ55, lJ57, lJ58, lJ59, lJ60, lJ64, lJ80, lJ82, lJ99, lJ100, lJ101, lJ123, lJ126, lJ282, lJ342, lJ1000, lJ1100, lJ2394, lJ2736, lJ9999, lJ10000, lJ1000000, lJ100000000, J_add, J_sub, J_mul, J_neg, J_le, J_lt, J_eq, J_in, J_clamp, Int.toNat_natCast]
      refine ⟨fun c3 => ?_, fun c3 => m_end_spec k2 g c rfl ?_⟩
      · rw [if_neg (by omega)] at ih; exact ih
      · simp (disch := omega) only [lJ0, lJ1, lJ2, lJ3, lJ4, lJ5, lJ6, lJ7, lJ8, lJ9, lJ10, lJ30, lJ32, lJ33, lJ39, lJ40, lJ41, lJ45, lJ47, lJ48, lJ51, lJ55, lJ57, lJ58, lJ59, lJ60, lJ64, lJ80, lJ82, lJ99, lJ100, lJ101, lJ123, lJ126, lJ282, lJ342, lJ1000, lJ1100, lJ2394, lJ2736, lJ9999, lJ10000, lJ1000000, lJ100000000, J_add, J_sub, J_mul, J_neg, J_le, J_lt, J_eq, J_in, J_clamp, Int.toNat_natCast]
        refine ⟨fun c4 => ?_, fun c4 => ?_⟩
        · rw [if_neg (by omega)] at ih; exact ih
        · rw [if_pos ⟨c2, by omega, by omega⟩] at ih; exact ih
  · have e9 : j = S.1.1 := by omega
    subst e9
    simp (disch := omega) only [lJ0, lJ1, lJ2, lJ3, lJ4, lJ5, lJ6, lJ7, lJ8, lJ9, lJ10, lJ30, lJ32, lJ33, lJ39, lJ40, lJ41, lJ45, lJ47, lJ48, lJ51, lJ55, lJ57, lJ58, lJ59, lJ60, lJ64, lJ80, lJ82, lJ99, lJ100, lJ101, lJ123, lJ126, lJ282, lJ342, lJ1000, lJ1100, lJ2394, lJ2736, lJ9999, lJ10000, lJ1000000, lJ100000000, J_add, J_sub, J_mul, J_neg, J_le, J_lt, J_eq, J_in, J_clamp, Int.toNat_natCast, Int.toNat_zero, e0]
    exact ⟨by omega, fun _ => m_ok h (f1.tr f2) k2.1 (t2.trans t1) rfl, fun z => absurd (Int.le_refl _) z⟩
theorem m_isCause {S : GS} {μ : Mem} (hm : MI S μ) (g : GOK S) {z : Int} (hz : (-2147483648 ≤ z ∧ z ≤ 2147483647)) {P : Int32 → Mem → Prop} (h : MRes J (op_isCause S z) μ P) : w9_isCause_wp μ (J z) P := by
  unfold op_isCause at h
  unfold w9_isCause_wp
  refine m_on2 hm g hz (fun c μ1 f1 k1 t1 => ⟨fun c => absurd c (by rw [t1]; decide), fun _ => by rw [if_pos c] at h; exact m_thw h f1 k1 t1⟩) (fun i hi ei ez μ1 f1 k1 t1 => ⟨fun _ => ?_, fun c => absurd (by rw [t1]; decide) c⟩)
  rw [if_neg (by omega), ei, Int.toNat_natCast] at h
  refine knows_spec2 k1 g (fun μ2 f2 t2 k2 => ?_)
  refine m_causes_spec k2 g hi (fun c => ?_) (fun c => ?_)
  · rw [if_pos c] at h; exact ⟨rfl, m_ok h (f1.tr f2) k2.1 (t2.trans t1) rfl⟩
  · rw [if_neg c] at h; exact ⟨rfl, m_ok h (f1.tr f2) k2.1 (t2.trans t1) rfl⟩
theorem m_cause {S : GS} {μ : Mem} (hm : MI S μ) (g : GOK S) {t a : Int} (ht : (-2147483648 ≤ t ∧ t ≤ 2147483647)) (ha : (-2147483648 ≤ a ∧ a ≤ 2147483647)) {P : Int32 → Mem → Prop} (h : MRes J (op_cause S t a) μ P) : w9_cause_wp μ (J t) (J a) P := by
  unfold op_cause at h
  unfold w9_cause_wp
  have rn := g.1.n
  refine m_kn0 hm g (fun μ1 f1 t1 k => ?_)
  refine isTrace_spec ht (fun c => ⟨fun _ => ?_, fun c => absurd c (by decide)⟩) (fun c => ⟨fun c => absurd rfl c, fun _ => by rw [if_neg c] at h; exact m_fails rfl h f1 k.1⟩)
  rw [if_pos c] at h
  have e0 := k.n0
  obtain ⟨Z, hZ⟩ : ∃ Z, nthe (S.1.1) (S.1.2.1) (fun i => S.1.2.1 i 1 = t ∧ csb (S.1.1) (S.1.2.1) i = true) a (S.1.1) 0 = Z := ⟨_, rfl⟩
  have hZ2 : caO S t a = Z := hZ
  rw [hZ2] at h
  have fin : ∀ z : Int, Z = z → (z = -1 → w9_fails_wp μ1 (2 : Int32) (fun (r7 : Int32) (μ6 : Mem) => P r7 μ6)) ∧ (z ≠ -1 → P (J (S.1.2.1 z.toNat 0)) μ1) := fun z hz => by
    rw [hz] at h
    exact ⟨fun c => by rw [if_pos c] at h; exact m_fails rfl h f1 k.1, fun c => by rw [if_neg c] at h; exact m_ok h f1 k.1 t1 rfl⟩
  clear h
  intro R hR
  suffices H : ∀ d i : Nat, i + d = S.1.1 → nthe (S.1.1) (S.1.2.1) (fun i => S.1.2.1 i 1 = t ∧ csb (S.1.1) (S.1.2.1) i = true) a d i = Z → R μ1 (J t) (J a) (J i) from H (S.1.1) 0 (by omega) hZ
  clear hZ hZ2
  intro d
  induction d with
  | zero =>
    intro i hi h
    apply hR
    unfold w9_cause_b24_body
    simp (disch := omega) only [lJ0, lJ1, lJ2, lJ3, lJ4, lJ5, lJ6, lJ7, lJ8, lJ9, lJ10, lJ30, lJ32, lJ33, lJ39, lJ40, lJ41, lJ45, lJ47, lJ48, lJ51, lJ55, lJ57, lJ58, lJ59, lJ60, lJ64, lJ80, lJ82, lJ99, lJ100, lJ101, lJ123, lJ126, lJ282, lJ342, lJ1000, lJ1100, lJ2394, lJ2736, lJ9999, lJ10000, lJ1000000, lJ100000000, J_add, J_sub, J_mul, J_neg, J_le, J_lt, J_eq, J_in, J_clamp, Int.toNat_natCast, Int.toNat_zero, e0]
    exact ⟨by omega, fun _ => (fin _ h.symm).1 rfl, fun c => absurd (by omega) c⟩
  | succ d ih =>
    intro i hi h
    have ci : i < S.1.1 := by omega
    have ri := g.w.r i ci
    apply hR
    unfold w9_cause_b24_body
    simp (disch := omega) only [lJ0, lJ1, lJ2, lJ3, lJ4, lJ5, lJ6, lJ7, lJ8, lJ9, lJ10, lJ30, lJ32, lJ33, lJ39, lJ40, lJ41, lJ45, lJ47, lJ48, lJ51, lJ55, lJ57, lJ58, lJ59, lJ60, lJ64, lJ80, lJ82, lJ99, lJ100, lJ101, lJ123, lJ126, lJ282, lJ342, lJ1000, lJ1100, lJ2394, lJ2736, lJ9999, lJ10000, lJ1000000, lJ100000000, J_add, J_sub, J_mul, J_neg, J_le, J_lt, J_eq, J_in, J_clamp, Int.toNat_natCast, Int.toNat_zero, e0]
    refine ⟨by omega, fun c => absurd c (by omega), fun _ => ?_⟩
    refine of_spec k.1.1.1 rn i 1 rfl rfl ci (by omega) ?_
    unfold nthe at h
    simp (disch := omega) only [lJ0, lJ1, lJ2, lJ3, lJ4, lJ5, lJ6, lJ7, lJ8, lJ9, lJ10, lJ30, lJ32, lJ33, lJ39, lJ40, lJ41, lJ45, lJ47, lJ48, lJ51, lJ55, lJ57, lJ58, lJ59, lJ60, lJ64, lJ80, lJ82, lJ99, lJ100, lJ101, lJ123, lJ126, lJ282, lJ342, lJ1000, lJ1100, lJ2394, lJ2736, lJ9999, lJ10000, lJ1000000, lJ100000000, J_add, J_sub, J_mul, J_neg, J_le, J_lt, J_eq, J_in, J_clamp, Int.toNat_natCast]
    refine ⟨fun c1 => ?_, fun c1 => ?_⟩
    · rw [if_neg (fun z => c1 z.1.1)] at h; exact ih (i + 1) (by omega) h
    refine m_causes_spec k g ci (fun c2 => ⟨fun c => absurd c (by decide), fun _ => ?_⟩) (fun c2 => ⟨fun _ => ?_, fun c => absurd rfl c⟩)
    rotate_left
    · rw [if_neg (fun z => c2 z.1.2)] at h; exact ih (i + 1) (by omega) h
    intro R2 hR2
    refine down (Q := fun j => R2 μ1 (J t) (J a) (J i) (J (cnt (fun j => (S.1.2.1 j 1 = t ∧ csb (S.1.1) (S.1.2.1) j = true) ∧ erl (S.1.1) (S.1.2.1) j i) j)) (J j)) (S.1.1) (fun j hj ih2 => ?_)
    apply hR2
    unfold w9_cause_b58_body
    have rc := cnt_le (p := fun j => (S.1.2.1 j 1 = t ∧ csb (S.1.1) (S.1.2.1) j = true) ∧ erl (S.1.1) (S.1.2.1) j i) (n := j)
    rcases Nat.lt_or_ge j (S.1.1) with cj | cj
    · have ih2 := ih2 cj
      have rj := g.w.r j cj
      rw [cnt_succ] at ih2
      have skip : ¬ ((S.1.2.1 j 1 = t ∧ csb (S.1.1) (S.1.2.1) j = true) ∧ erl (S.1.1) (S.1.2.1) j i) → R2 μ1 (J t) (J a) (J i) (J (cnt (fun j => (S.1.2.1 j 1 = t ∧ csb (S.1.1) (S.1.2.1) j = true) ∧ erl (S.1.1) (S.1.2.1) j i) j)) (J ((j : Int) + 1)) := fun z => by rw [if_neg z] at ih2; exact ih2
      simp (disch := omega) only [lJ0, lJ1, lJ2, lJ3, lJ4, lJ5, lJ6, lJ7, lJ8, lJ9, lJ10, lJ30, lJ32, lJ33, lJ39, lJ40, lJ41, lJ45, lJ47, lJ48, lJ51, lJ55, lJ57, lJ58, lJ59, lJ60, lJ64, lJ80, lJ82, lJ99, lJ100, lJ101, lJ123, lJ126, lJ282, lJ342, lJ1000, lJ1100, lJ2394, lJ2736, lJ9999, lJ10000, lJ1000000, lJ100000000, J_add, J_sub, J_mul, J_neg, J_le, J_lt, J_eq, J_in, J_clamp, Int.toNat_natCast, Int.toNat_zero, e0, Int.add_zero]
      refine ⟨by omega, fun _ => by omega, fun _ => ?_⟩
      refine of_spec k.1.1.1 rn j 1 rfl rfl cj (by omega) ?_
      simp (disch := omega) only [lJ0, lJ1, lJ2, lJ3, lJ4, lJ5, lJ6, lJ7, lJ8, lJ9, lJ10, lJ30, lJ32, lJ33, lJ39, lJ40, lJ41, lJ45, lJ47, lJ48, lJ51, lJ55, lJ57, lJ58, lJ59, lJ60, lJ64, lJ80, lJ82, lJ99, lJ100, lJ101, lJ123, lJ126, lJ282, lJ342, lJ1000, lJ1100, lJ2394, lJ2736, lJ9999, lJ10000, lJ1000000, lJ100000000, J_add, J_sub, J_mul, J_neg, J_le, J_lt, J_eq, J_in, J_clamp, Int.toNat_natCast]
      refine ⟨fun c5 => skip (fun z => c5 z.1.1), fun c5 => ?_⟩
      refine m_isEarlier_spec k g cj ci (fun c6 => ⟨fun c => absurd c (by decide), fun _ => ?_⟩) (fun c6 => ⟨fun _ => skip (fun z => c6 z.2), fun c => absurd rfl c⟩)
      refine m_causes_spec k g cj (fun c7 => ⟨fun c => absurd c (by decide), fun _ => ?_⟩) (fun c7 => ⟨fun _ => skip (fun z => c7 z.1.2), fun c => absurd rfl c⟩)
      rw [if_pos ⟨⟨c5, c7⟩, c6⟩] at ih2; exact ih2
    · have e9 : j = S.1.1 := by omega
      subst e9
      simp (disch := omega) only [lJ0, lJ1, lJ2, lJ3, lJ4, lJ5, lJ6, lJ7, lJ8, lJ9, lJ10, lJ30, lJ32, lJ33, lJ39, lJ40, lJ41, lJ45, lJ47, lJ48, lJ51, lJ55, lJ57, lJ58, lJ59, lJ60, lJ64, lJ80, lJ82, lJ99, lJ100, lJ101, lJ123, lJ126, lJ282, lJ342, lJ1000, lJ1100, lJ2394, lJ2736, lJ9999, lJ10000, lJ1000000, lJ100000000, J_add, J_sub, J_mul, J_neg, J_le, J_lt, J_eq, J_in, J_clamp, Int.toNat_natCast, Int.toNat_zero, e0]
      refine ⟨by omega, fun _ => ⟨fun c5 => ?_, fun c5 => ?_⟩, fun c => absurd (Int.le_refl _) c⟩
      · rw [if_neg (fun z => c5 z.2)] at h; exact ih (i + 1) (by omega) h
      · rw [if_pos ⟨⟨c1, c2⟩, c5⟩] at h
        refine of_spec k.1.1.1 rn i 0 rfl rfl ci (by omega) ?_
        exact (fin _ h.symm).2 (by omega)
/-- counts of a trace -/
def op_errorShare (S : GS) (t : Int) : OpR UInt64 := if 0 ≤ t ∧ t < 4 then (if cnt (fun i => S.1.2.1 i 1 = t) (S.1.1) = 0 then thw S xAR 2 else ok S (FP.ddiv (FP.i2d (J (cnt (fun i => S.1.2.1 i 1 = t ∧ S.1.2.1 i 6 ≠ 0) (S.1.1)))) (FP.i2d (J (cnt (fun i => S.1.2.1 i 1 = t) (S.1.1)))))) else thw S xIO 1
theorem c_spansOf_spec {S : GS} {μ : Mem} (hc : CI S μ) (g : GOK S) {t : Int} (ht : (-2147483648 ≤ t ∧ t ≤ 2147483647)) {P : Int32 → Mem → Prop} (h : P (J (cnt (fun i => S.1.2.1 i 1 = t) (S.1.1))) μ) : w1_spansOf_wp μ (J t) P := by
  have rn := g.1.n
  have s1 : SV μ 0 (S.1.1) (S.1.2.1) := hc.1.1.1
  intro R hR
  refine down (Q := fun i => R μ (J t) (J (cnt (fun i => S.1.2.1 i 1 = t) i)) (J i)) (S.1.1) (fun i hi ih => ?_)
  apply hR
  unfold w1_spansOf_b4_body
  rcases Nat.lt_or_ge i (S.1.1) with c | c
  · have ih := ih c
    have ri := g.w.r i c
    rw [cnt_succ] at ih
    simp (disch := omega) only [lJ0, lJ1, lJ2, lJ3, lJ4, lJ5, lJ6, lJ7, lJ8, lJ9, lJ10, lJ30, lJ32, lJ33, lJ39, lJ40, lJ41, lJ45, lJ47, lJ48, lJ51, lJ55, lJ57, lJ58, lJ59, lJ60, lJ64, lJ80, lJ82, lJ99, lJ100, lJ101, lJ123, lJ126, lJ282, lJ342, lJ1000, lJ1100, lJ2394, lJ2736, lJ9999, lJ10000, lJ1000000, lJ100000000, J_add, J_sub, J_mul, J_neg, J_le, J_lt, J_eq, J_in, J_clamp, Int.toNat_natCast, s1.1, s1.i0, s1.i1, s1.i2, s1.i3, s1.i4, s1.i5, s1.i6]
    refine ⟨fun _ => by omega, fun _ => ⟨by omega, fun c2 => ?_, fun c2 => ?_⟩⟩
    · rw [if_neg c2] at ih; exact ih
    · rw [if_pos c2] at ih; exact ih
  · have e9 : i = S.1.1 := by omega
    subst e9
    simp (disch := omega) only [lJ0, lJ1, lJ2, lJ3, lJ4, lJ5, lJ6, lJ7, lJ8, lJ9, lJ10, lJ30, lJ32, lJ33, lJ39, lJ40, lJ41, lJ45, lJ47, lJ48, lJ51, lJ55, lJ57, lJ58, lJ59, lJ60, lJ64, lJ80, lJ82, lJ99, lJ100, lJ101, lJ123, lJ126, lJ282, lJ342, lJ1000, lJ1100, lJ2394, lJ2736, lJ9999, lJ10000, lJ1000000, lJ100000000, J_add, J_sub, J_mul, J_neg, J_le, J_lt, J_eq, J_in, J_clamp, Int.toNat_natCast, s1.1, s1.i0, s1.i1, s1.i2, s1.i3, s1.i4, s1.i5, s1.i6]
    exact ⟨fun _ => h, fun z => absurd (Int.le_refl _) z⟩
theorem c_errorsOf_spec {S : GS} {μ : Mem} (hc : CI S μ) (g : GOK S) {t : Int} (ht : (-2147483648 ≤ t ∧ t ≤ 2147483647)) {P : Int32 → Mem → Prop} (h : P (J (cnt (fun i => S.1.2.1 i 1 = t ∧ S.1.2.1 i 6 ≠ 0) (S.1.1))) μ) : w1_errorsOf_wp μ (J t) P := by
  have rn := g.1.n
  have s1 : SV μ 0 (S.1.1) (S.1.2.1) := hc.1.1.1
  intro R hR
  refine down (Q := fun i => R μ (J t) (J (cnt (fun i => S.1.2.1 i 1 = t ∧ S.1.2.1 i 6 ≠ 0) i)) (J i)) (S.1.1) (fun i hi ih => ?_)
  apply hR
  unfold w1_errorsOf_b4_body
  rcases Nat.lt_or_ge i (S.1.1) with c | c
  · have ih := ih c
    have ri := g.w.r i c
    rw [cnt_succ] at ih
    simp (disch := omega) only [lJ0, lJ1, lJ2, lJ3, lJ4, lJ5, lJ6, lJ7, lJ8, lJ9, lJ10, lJ30, lJ32, lJ33, lJ39, lJ40, lJ41, lJ45, lJ47, lJ48, lJ51, lJ55, lJ57, lJ58, lJ59, lJ60, lJ64, lJ80, lJ82, lJ99, lJ100, lJ101, lJ123, lJ126, lJ282, lJ342, lJ1000, lJ1100, lJ2394, lJ2736, lJ9999, lJ10000, lJ1000000, lJ100000000, J_add, J_sub, J_mul, J_neg, J_le, J_lt, J_eq, J_in, J_clamp, Int.toNat_natCast, s1.1, s1.i0, s1.i1, s1.i2, s1.i3, s1.i4, s1.i5, s1.i6]
    refine ⟨fun _ => by omega, fun _ => ⟨by omega, fun c2 => ?_, fun c2 => ⟨by omega, fun c3 => ?_, fun c3 => ?_⟩⟩⟩
    · rw [if_neg (fun z => c2 z.1)] at ih; exact ih
    · rw [if_neg (fun z => z.2 c3)] at ih; exact ih
    · rw [if_pos ⟨c2, c3⟩] at ih; exact ih
  · have e9 : i = S.1.1 := by omega
    subst e9
    simp (disch := omega) only [lJ0, lJ1, lJ2, lJ3, lJ4, lJ5, lJ6, lJ7, lJ8, lJ9, lJ10, lJ30, lJ32, lJ33, lJ39, lJ40, lJ41, lJ45, lJ47, lJ48, lJ51, lJ55, lJ57, lJ58, lJ59, lJ60, lJ64, lJ80, lJ82, lJ99, lJ100, lJ101, lJ123, lJ126, lJ282, lJ342, lJ1000, lJ1100, lJ2394, lJ2736, lJ9999, lJ10000, lJ1000000, lJ100000000, J_add, J_sub, J_mul, J_neg, J_le, J_lt, J_eq, J_in, J_clamp, Int.toNat_natCast, s1.1, s1.i0, s1.i1, s1.i2, s1.i3, s1.i4, s1.i5, s1.i6]
    exact ⟨fun _ => h, fun z => absurd (Int.le_refl _) z⟩
theorem c_errorShare {S : GS} {μ : Mem} (hc : CI S μ) (g : GOK S) {t : Int} (ht : (-2147483648 ≤ t ∧ t ≤ 2147483647)) {P : UInt64 → Mem → Prop} {X : String → Mem → Prop} (h : CRes (fun v => v) (op_errorShare S t) μ P X) : w8_errorShare_wp μ (J t) P X := by
  unfold op_errorShare at h
  unfold w8_errorShare_wp
  have rn := g.1.n
  refine checkTrace_spec ht (fun c => ?_) (fun c => by rw [if_neg c] at h; exact h μ FrC.rf hc)
  rw [if_pos c] at h
  refine c_spansOf_spec hc g ht ?_
  have r1 := cnt_le (p := fun i => S.1.2.1 i 1 = t) (n := S.1.1)
  simp (disch := omega) only [lJ0, lJ1, lJ2, lJ3, lJ4, lJ5, lJ6, lJ7, lJ8, lJ9, lJ10, lJ30, lJ32, lJ33, lJ39, lJ40, lJ41, lJ45, lJ47, lJ48, lJ51, lJ55, lJ57, lJ58, lJ59, lJ60, lJ64, lJ80, lJ82, lJ99, lJ100, lJ101, lJ123, lJ126, lJ282, lJ342, lJ1000, lJ1100, lJ2394, lJ2736, lJ9999, lJ10000, lJ1000000, lJ100000000, J_add, J_sub, J_mul, J_neg, J_le, J_lt, J_eq, J_in, J_clamp, Int.toNat_natCast]
  refine ⟨fun c2 => c_errorsOf_spec hc g ht ?_, fun c2 => by rw [if_pos c2] at h; exact h μ FrC.rf hc⟩
  rw [if_neg c2] at h
  exact ⟨n64_div (fun z => c2 ((J_eq (by omega) (by omega)).mp z)), h μ FrC.rf hc⟩
theorem m_inTrace_spec {S : GS} {μ : Mem} (hm : MI S μ) (g : GOK S) {t : Int} (ht : (-2147483648 ≤ t ∧ t ≤ 2147483647)) {P : Int32 → Mem → Prop} (h : P (J (cnt (fun i => S.1.2.1 i 1 = t) (S.1.1))) μ) : w9_inTrace_wp μ (J t) P := by
  have rn := g.1.n
  have e0 : μ 3264 0 0 = J (S.1.1) := hm.1.1.1
  intro R hR
  refine down (Q := fun i => R μ (J t) (J (cnt (fun i => S.1.2.1 i 1 = t) i)) (J i)) (S.1.1) (fun i hi ih => ?_)
  apply hR
  unfold w9_inTrace_b4_body
  rcases Nat.lt_or_ge i (S.1.1) with c | c
  · have ih := ih c
    have ri := g.w.r i c
    rw [cnt_succ] at ih
    simp (disch := omega) only [lJ0, lJ1, lJ2, lJ3, lJ4, lJ5, lJ6, lJ7, lJ8, lJ9, lJ10, lJ30, lJ32, lJ33, lJ39, lJ40, lJ41, lJ45, lJ47, lJ48, lJ51, lJ55, lJ57, lJ58, lJ59, lJ60, lJ64, lJ80, lJ82, lJ99, lJ100, lJ101, lJ123, lJ126, lJ282, lJ342, lJ1000, lJ1100, lJ2394, lJ2736, lJ9999, lJ10000, lJ1000000, lJ100000000, J_add, J_sub, J_mul, J_neg, J_le, J_lt, J_eq, J_in, J_clamp, Int.toNat_natCast, Int.toNat_zero, e0, Int.add_zero]
    refine ⟨by omega, fun _ => by omega, fun _ => ?_⟩
    refine of_spec hm.1.1 rn i 1 rfl rfl c (by omega) ?_
    simp (disch := omega) only [lJ0, lJ1, lJ2, lJ3, lJ4, lJ5, lJ6, lJ7, lJ8, lJ9, lJ10, lJ30, lJ32, lJ33, lJ39, lJ40, lJ41, lJ45, lJ47, lJ48, lJ51, lJ55, lJ57, lJ58, lJ59, lJ60, lJ64, lJ80, lJ82, lJ99, lJ100, lJ101, lJ123, lJ126, lJ282, lJ342, lJ1000, lJ1100, lJ2394, lJ2736, lJ9999, lJ10000, lJ1000000, lJ100000000, J_add, J_sub, J_mul, J_neg, J_le, J_lt, J_eq, J_in, J_clamp, Int.toNat_natCast]
    refine ⟨fun c2 => ?_, fun c2 => ?_⟩
    · rw [if_neg c2] at ih; exact ih
    · rw [if_pos c2] at ih; exact ih
  · have e9 : i = S.1.1 := by omega
    subst e9
    simp (disch := omega) only [lJ0, lJ1, lJ2, lJ3, lJ4, lJ5, lJ6, lJ7, lJ8, lJ9, lJ10, lJ30, lJ32, lJ33, lJ39, lJ40, lJ41, lJ45, lJ47, lJ48, lJ51, lJ55, lJ57, lJ58, lJ59, lJ60, lJ64, lJ80, lJ82, lJ99, lJ100, lJ101, lJ123, lJ126, lJ282, lJ342, lJ1000, lJ1100, lJ2394, lJ2736, lJ9999, lJ10000, lJ1000000, lJ100000000, J_add, J_sub, J_mul, J_neg, J_le, J_lt, J_eq, J_in, J_clamp, Int.toNat_natCast, Int.toNat_zero, e0]
    exact ⟨by omega, fun _ => h, fun z => absurd (Int.le_refl _) z⟩
theorem m_errorShare {S : GS} {μ : Mem} (hm : MI S μ) (g : GOK S) {t : Int} (ht : (-2147483648 ≤ t ∧ t ≤ 2147483647)) {P : UInt64 → Mem → Prop} (h : MRes (fun v => v) (op_errorShare S t) μ P) : w9_errorShare_wp μ (J t) P := by
  unfold op_errorShare at h
  unfold w9_errorShare_wp
  have rn := g.1.n
  have bad : ∀ v : Int, v = 1 ∨ v = 2 → P 0 (thr μ v) → w9_errorShare_b32 P (thr μ v) (J t) (0 : Int32) (0 : Int32) := fun v hv hp R hR => by
    have e0 : thr μ v 3264 0 0 = J (S.1.1) := hm.thr.1.1.1
    have b79 : ∀ l1 l2, w9_errorShare_b79 P (thr μ v) l1 l2 := fun l1 l2 => by
      unfold w9_errorShare_b79
      rw [thr_w]
      simp (disch := omega) only [lJ0, lJ1, lJ2, lJ3, lJ4, lJ5, lJ6, lJ7, lJ8, lJ9, lJ10, lJ30, lJ32, lJ33, lJ39, lJ40, lJ41, lJ45, lJ47, lJ48, lJ51, lJ55, lJ57, lJ58, lJ59, lJ60, lJ64, lJ80, lJ82, lJ99, lJ100, lJ101, lJ123, lJ126, lJ282, lJ342, lJ1000, lJ1100, lJ2394, lJ2736, lJ9999, lJ10000, lJ1000000, lJ100000000, J_add, J_sub, J_mul, J_neg, J_le, J_lt, J_eq, J_in, J_clamp, Int.toNat_natCast]
      exact ⟨fun _ => hp, fun z => by omega⟩
    refine hR _ _ _ _ ?_
    unfold w9_errorShare_b32_body
    rw [thr_w, show (0 : Int32) = J 0 from rfl]
    simp (disch := omega) only [lJ0, lJ1, lJ2, lJ3, lJ4, lJ5, lJ6, lJ7, lJ8, lJ9, lJ10, lJ30, lJ32, lJ33, lJ39, lJ40, lJ41, lJ45, lJ47, lJ48, lJ51, lJ55, lJ57, lJ58, lJ59, lJ60, lJ64, lJ80, lJ82, lJ99, lJ100, lJ101, lJ123, lJ126, lJ282, lJ342, lJ1000, lJ1100, lJ2394, lJ2736, lJ9999, lJ10000, lJ1000000, lJ100000000, J_add, J_sub, J_mul, J_neg, J_le, J_lt, J_eq, J_in, J_clamp, Int.toNat_natCast, Int.toNat_zero, e0]
    exact ⟨by omega, fun _ => b79 _ _, fun _ => ⟨fun _ => b79 _ _, fun z => by omega⟩⟩
  refine isTrace_spec ht (fun c => ⟨fun _ => ?_, fun c => absurd c (by decide)⟩) (fun c => ⟨fun c => absurd rfl c, fun _ => ?_⟩)
  rotate_left
  · rw [if_neg c] at h
    rintro μ1 rfl
    exact bad 1 (Or.inl rfl) (m_thw h thr_fr hm.thr thr_w)
  rw [if_pos c] at h
  refine m_inTrace_spec hm g ht ?_
  have r1 := cnt_le (p := fun i => S.1.2.1 i 1 = t) (n := S.1.1)
  simp (disch := omega) only [lJ0, lJ1, lJ2, lJ3, lJ4, lJ5, lJ6, lJ7, lJ8, lJ9, lJ10, lJ30, lJ32, lJ33, lJ39, lJ40, lJ41, lJ45, lJ47, lJ48, lJ51, lJ55, lJ57, lJ58, lJ59, lJ60, lJ64, lJ80, lJ82, lJ99, lJ100, lJ101, lJ123, lJ126, lJ282, lJ342, lJ1000, lJ1100, lJ2394, lJ2736, lJ9999, lJ10000, lJ1000000, lJ100000000, J_add, J_sub, J_mul, J_neg, J_le, J_lt, J_eq, J_in, J_clamp, Int.toNat_natCast]
  refine ⟨fun c2 => ?_, fun c2 => ?_⟩
  rotate_left
  · rw [if_pos c2] at h
    rintro μ1 rfl
    exact bad 2 (Or.inr rfl) (m_thw h thr_fr hm.thr thr_w)
  rw [if_neg c2] at h
  rintro μ1 rfl
  have k : MI S (thr μ 0) := hm.thr
  have e0 : thr μ 0 3264 0 0 = J (S.1.1) := k.1.1.1
  have t1 : thr μ 0 3201 0 0 = J 0 := thr_w
  have f1 : FrM μ (thr μ 0) := thr_fr
  rw [show up μ 3201 0 0 (J 0) = thr μ 0 from rfl]
  generalize thr μ 0 = μ1 at *
  intro R hR
  refine down (Q := fun i => R μ1 (J t) (J (cnt (fun i => S.1.2.1 i 1 = t ∧ S.1.2.1 i 6 ≠ 0) i)) (J i)) (S.1.1) (fun i hi ih => ?_)
  apply hR
  unfold w9_errorShare_b32_body
  have r2 := cnt_le (p := fun i => S.1.2.1 i 1 = t ∧ S.1.2.1 i 6 ≠ 0) (n := i)
  rcases Nat.lt_or_ge i (S.1.1) with c3 | c3
  · have ih := ih c3
    have ri := g.w.r i c3
    rw [cnt_succ] at ih
    simp (disch := omega) only [lJ0, lJ1, lJ2, lJ3, lJ4, lJ5, lJ6, lJ7, lJ8, lJ9, lJ10, lJ30, lJ32, lJ33, lJ39, lJ40, lJ41, lJ45, lJ47, lJ48, lJ51, lJ55, lJ57, lJ58, lJ59, lJ60, lJ64, lJ80, lJ82, lJ99, lJ100, lJ101, lJ123, lJ126, lJ282, lJ342, lJ1000, lJ1100, lJ2394, lJ2736, lJ9999, lJ10000, lJ1000000, lJ100000000, J_add, J_sub, J_mul, J_neg, J_le, J_lt, J_eq, J_in, J_clamp, Int.toNat_natCast, Int.toNat_zero, e0, t1, Int.add_zero]
    refine ⟨by omega, fun _ => by omega, fun _ => ⟨fun z => absurd trivial z, fun _ => ?_⟩⟩
    refine of_spec k.1.1 rn i 1 rfl rfl c3 (by omega) ?_
    simp (disch := omega) only [lJ0, lJ1, lJ2, lJ3, lJ4, lJ5, lJ6, lJ7, lJ8, lJ9, lJ10, lJ30, lJ32, lJ33, lJ39, lJ40, lJ41, lJ45, lJ47, lJ48, lJ51, lJ55, lJ57, lJ58, lJ59, lJ60, lJ64, lJ80, lJ82, lJ99, lJ100, lJ101, lJ123, lJ126, lJ282, lJ342, lJ1000, lJ1100, lJ2394, lJ2736, lJ9999, lJ10000, lJ1000000, lJ100000000, J_add, J_sub, J_mul, J_neg, J_le, J_lt, J_eq, J_in, J_clamp, Int.toNat_natCast]
    refine ⟨fun c4 => ?_, fun c4 => ?_⟩
    · rw [if_neg (fun z => c4 z.1)] at ih; exact ih
    refine of_spec k.1.1 rn i 6 rfl rfl c3 (by omega) ?_
    simp (disch := omega) only [lJ0, lJ1, lJ2, lJ3, lJ4, lJ5, lJ6, lJ7, lJ8, lJ9, lJ10, lJ30, lJ32, lJ33, lJ39, lJ40, lJ41, lJ45, lJ47, lJ48, lJ51, lJ55, lJ57, lJ58, lJ59, lJ60, lJ64, lJ80, lJ82, lJ99, lJ100, lJ101, lJ123, lJ126, lJ282, lJ342, lJ1000, lJ1100, lJ2394, lJ2736, lJ9999, lJ10000, lJ1000000, lJ100000000, J_add, J_sub, J_mul, J_neg, J_le, J_lt, J_eq, J_in, J_clamp, Int.toNat_natCast]
    by_cases c5 : S.1.2.1 i 6 ≠ 0
    · rw [if_pos ⟨c4, c5⟩] at ih
      have e6 : S.1.2.1 i 6 = 1 := by omega
      rw [e6]
      exact ih
    · rw [if_neg (fun z => c5 z.2)] at ih
      have e6 : S.1.2.1 i 6 = 0 := by omega
      rw [e6, Int.add_zero]
      exact ih
  · have e9 : i = S.1.1 := by omega
    subst e9
    have fin : w9_errorShare_b79 P μ1 (J t) (J (cnt (fun i => S.1.2.1 i 1 = t ∧ S.1.2.1 i 6 ≠ 0) (S.1.1))) := by
      unfold w9_errorShare_b79
      simp (disch := omega) only [lJ0, lJ1, lJ2, lJ3, lJ4, lJ5, lJ6, lJ7, lJ8, lJ9, lJ10, lJ30, lJ32, lJ33, lJ39, lJ40, lJ41, lJ45, lJ47, lJ48, lJ51, lJ55, lJ57, lJ58, lJ59, lJ60, lJ64, lJ80, lJ82, lJ99, lJ100, lJ101, lJ123, lJ126, lJ282, lJ342, lJ1000, lJ1100, lJ2394, lJ2736, lJ9999, lJ10000, lJ1000000, lJ100000000, J_add, J_sub, J_mul, J_neg, J_le, J_lt, J_eq, J_in, J_clamp, Int.toNat_natCast, t1]
      refine ⟨fun z => absurd trivial z, fun _ => m_inTrace_spec k g ht ?_⟩
      exact ⟨n64_div (fun z => c2 ((J_eq (by omega) (by omega)).mp z)), m_ok h f1 k t1 rfl⟩
    simp (disch := omega) only [lJ0, lJ1, lJ2, lJ3, lJ4, lJ5, lJ6, lJ7, lJ8, lJ9, lJ10, lJ30, lJ32, lJ33, lJ39, lJ40, lJ41, lJ45, lJ47, lJ48, lJ51, lJ55, lJ57, lJ58, lJ59, lJ60, lJ64, lJ80, lJ82, lJ99, lJ100, lJ101, lJ123, lJ126, lJ282, lJ342, lJ1000, lJ1100, lJ2394, lJ2736, lJ9999, lJ10000, lJ1000000, lJ100000000, J_add, J_sub, J_mul, J_neg, J_le, J_lt, J_eq, J_in, J_clamp, Int.toNat_natCast, Int.toNat_zero, e0]
    exact ⟨by omega, fun _ => fin, fun z => absurd (Int.le_refl _) z⟩
