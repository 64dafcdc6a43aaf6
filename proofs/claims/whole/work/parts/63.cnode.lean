-- the class's nodes
theorem c_isChild_spec {S : GS} {μ : Mem} (k : CK S μ) (g : GOK S) {i : Nat} (hi : i < S.1.1) {t q : Int} (ht : (-2147483648 ≤ t ∧ t ≤ 2147483647)) (hq : (-2147483648 ≤ q ∧ q ≤ 2147483647)) {x : Int32} (ex : x = J i) {P : Int32 → Mem → Prop} (h1 : nov (S.1.1) (S.1.2.1) i = q ∧ S.1.2.1 i 1 = t → P 1 μ) (h0 : ¬ (nov (S.1.1) (S.1.2.1) i = q ∧ S.1.2.1 i 1 = t) → P 0 μ) : w2_isChild_wp μ x (J t) (J q) P := by
  subst ex
  have rn := g.1.n
  have ri := g.w.r i hi
  have rv := nov_rg g.w hi
  have s1 : SV μ 0 (S.1.1) (S.1.2.1) := k.1.1.1.1
  have e := (k.2.2.2.1 i hi).2.2
  unfold w2_isChild_wp
  simp (disch := omega) only [lJ0, lJ1, lJ2, lJ3, lJ4, lJ5, lJ6, lJ7, lJ8, lJ9, lJ10, lJ30, lJ32, lJ33, lJ39, lJ40, lJ41, lJ45, lJ47, lJ48, lJ51, lJ55, lJ57, lJ58, lJ59, lJ60, lJ64, lJ80, lJ82, lJ99, lJ100, lJ101, lJ123, lJ126, lJ282, lJ342, lJ1000, lJ1100, lJ2394, lJ2736, lJ9999, lJ10000, lJ1000000, lJ100000000, J_add, J_sub, J_mul, J_neg, J_le, J_lt, J_eq, J_in, J_clamp, Int.toNat_natCast, s1.1, s1.i0, s1.i1, s1.i2, s1.i3, s1.i4, s1.i5, s1.i6, e]
  exact ⟨by omega, fun c => h0 (by omega), fun c => ⟨by omega, fun c2 => h0 (by omega), fun c2 => h1 ⟨c, c2⟩⟩⟩
theorem c_topOf_spec {S : GS} {μ : Mem} (k : CK S μ) (g : GOK S) {i : Nat} (hi : i < S.1.1) {P : Int32 → Mem → Prop} (h : P (J (top (S.1.1) (S.1.2.1) i)) μ) : w2_topOf_wp μ (J i) P := by
  intro R hR
  have rn := g.1.n
  have H : ∀ i, i < S.1.1 → ∀ q : Nat, dp (S.1.1) (S.1.2.1) i + q ≤ 39 → P (J (top (S.1.1) (S.1.2.1) i)) μ → R μ (J i) (J q) := by
    refine tind g.w (fun i hi ih => ?_)
    intro q hq h
    apply hR
    unfold w2_topOf_b4_body
    have e := (k.2.2.2.1 i hi).2.1
    have rt := tp_rg (w := S.1.2.1) hi
    have de := dp_eq g.w hi
    rw [top_eq g.w hi] at h
    simp (disch := omega) only [lJ0, lJ1, lJ2, lJ3, lJ4, lJ5, lJ6, lJ7, lJ8, lJ9, lJ10, lJ30, lJ32, lJ33, lJ39, lJ40, lJ41, lJ45, lJ47, lJ48, lJ51, lJ55, lJ57, lJ58, lJ59, lJ60, lJ64, lJ80, lJ82, lJ99, lJ100, lJ101, lJ123, lJ126, lJ282, lJ342, lJ1000, lJ1100, lJ2394, lJ2736, lJ9999, lJ10000, lJ1000000, lJ100000000, J_add, J_sub, J_mul, J_neg, J_le, J_lt, J_eq, J_in, J_clamp, Int.toNat_natCast, e]
    refine ⟨fun c => by omega, fun _ => ⟨by omega, ?_⟩⟩
    refine isWithin_spec (tp (S.1.1) (S.1.2.1) i) 40 rfl rfl (by omega) (by decide) (fun c => ⟨fun c => absurd c (by decide), fun _ => ?_⟩) (fun c => ⟨fun _ => by rw [if_pos (by omega)] at h; exact h, fun c => absurd rfl c⟩)
    rw [if_neg (by omega)] at h de
    simp (disch := omega) only [lJ0, lJ1, lJ2, lJ3, lJ4, lJ5, lJ6, lJ7, lJ8, lJ9, lJ10, lJ30, lJ32, lJ33, lJ39, lJ40, lJ41, lJ45, lJ47, lJ48, lJ51, lJ55, lJ57, lJ58, lJ59, lJ60, lJ64, lJ80, lJ82, lJ99, lJ100, lJ101, lJ123, lJ126, lJ282, lJ342, lJ1000, lJ1100, lJ2394, lJ2736, lJ9999, lJ10000, lJ1000000, lJ100000000, J_add, J_sub, J_mul, J_neg, J_le, J_lt, J_eq, J_in, J_clamp, Int.toNat_natCast, e]
    refine ⟨by omega, ?_⟩
    have := ih (by omega) (q + 1) (by omega) h
    rw [show (((tp (S.1.1) (S.1.2.1) i).toNat : Nat) : Int) = tp (S.1.1) (S.1.2.1) i by omega] at this
    exact this
  exact H i hi 0 (by have := dp_lt g.w hi; omega) h
theorem c_rootNumber_spec {S : GS} {μ : Mem} (k : CK S μ) (g : GOK S) {i : Nat} (hi : i < S.1.1) {x : Int32} (ex : x = J i) {P : Int32 → Mem → Prop} (h : P (J (rno (S.1.1) (S.1.2.1) i)) μ) : w2_rootNumber_wp μ x P := by
  subst ex
  have rn := g.1.n
  have t := top_sp g.w i hi
  have rk := kd_rg (S.1.1) (S.1.2.1) (top (S.1.1) (S.1.2.1) i)
  have s1 : SV μ 0 (S.1.1) (S.1.2.1) := k.1.1.1.1
  unfold w2_rootNumber_wp
  refine c_topOf_spec k g hi ?_
  have e := k.2.2.2.1 _ t.1
  unfold rno at h
  simp (disch := omega) only [lJ0, lJ1, lJ2, lJ3, lJ4, lJ5, lJ6, lJ7, lJ8, lJ9, lJ10, lJ30, lJ32, lJ33, lJ39, lJ40, lJ41, lJ45, lJ47, lJ48, lJ51, lJ55, lJ57, lJ58, lJ59, lJ60, lJ64, lJ80, lJ82, lJ99, lJ100, lJ101, lJ123, lJ126, lJ282, lJ342, lJ1000, lJ1100, lJ2394, lJ2736, lJ9999, lJ10000, lJ1000000, lJ100000000, J_add, J_sub, J_mul, J_neg, J_le, J_lt, J_eq, J_in, J_clamp, Int.toNat_natCast, s1.1, s1.i0, s1.i1, s1.i2, s1.i3, s1.i4, s1.i5, s1.i6, e.1, e.2.2]
  refine ⟨by omega, fun c => ⟨by omega, by rw [if_neg c] at h; exact h⟩, fun c => ⟨by omega, ?_⟩⟩
  rw [if_pos c] at h
  unfold nov
  rw [if_neg (by omega), if_pos c]
  exact h
theorem c_nodesAbove_spec {S : GS} {μ : Mem} (k : CK S μ) (g : GOK S) {i : Nat} (hi : i < S.1.1) {P : Int32 → Mem → Prop} (h : P (J (dpx (S.1.1) (S.1.2.1) i)) μ) : w2_nodesAbove_wp μ (J i) P := by
  intro R hR
  have rn := g.1.n
  have H : ∀ i, i < S.1.1 → ∀ a q : Nat, dp (S.1.1) (S.1.2.1) i + q ≤ 39 → a ≤ q → P (J (dpx (S.1.1) (S.1.2.1) i + a)) μ → R μ (J i) (J a) (J q) := by
    refine tind g.w (fun i hi ih => ?_)
    intro a q hq ha h
    apply hR
    unfold w2_nodesAbove_b7_body
    have e := k.2.2.2.1 i hi
    have rt := tp_rg (w := S.1.2.1) hi
    have rk := kd_rg (S.1.1) (S.1.2.1) i
    have de := dp_eq g.w hi
    have te := top_eq g.w hi
    simp (disch := omega) only [lJ0, lJ1, lJ2, lJ3, lJ4, lJ5, lJ6, lJ7, lJ8, lJ9, lJ10, lJ30, lJ32, lJ33, lJ39, lJ40, lJ41, lJ45, lJ47, lJ48, lJ51, lJ55, lJ57, lJ58, lJ59, lJ60, lJ64, lJ80, lJ82, lJ99, lJ100, lJ101, lJ123, lJ126, lJ282, lJ342, lJ1000, lJ1100, lJ2394, lJ2736, lJ9999, lJ10000, lJ1000000, lJ100000000, J_add, J_sub, J_mul, J_neg, J_le, J_lt, J_eq, J_in, J_clamp, Int.toNat_natCast, e.2.1]
    refine ⟨fun c => by omega, fun _ => ⟨by omega, ?_⟩⟩
    refine isWithin_spec (tp (S.1.1) (S.1.2.1) i) 40 rfl rfl (by omega) (by decide) (fun c => ⟨fun c => absurd c (by decide), fun _ => ?_⟩) (fun c => ⟨fun _ => ?_, fun c => absurd rfl c⟩)
    · rw [if_neg (by omega)] at te de
      have dx : dpx (S.1.1) (S.1.2.1) i = dpx (S.1.1) (S.1.2.1) (tp (S.1.1) (S.1.2.1) i).toNat + 1 := by
        unfold dpx
        rw [te, de]
        split <;> omega
      rw [dx] at h
      simp (disch := omega) only [lJ0, lJ1, lJ2, lJ3, lJ4, lJ5, lJ6, lJ7, lJ8, lJ9, lJ10, lJ30, lJ32, lJ33, lJ39, lJ40, lJ41, lJ45, lJ47, lJ48, lJ51, lJ55, lJ57, lJ58, lJ59, lJ60, lJ64, lJ80, lJ82, lJ99, lJ100, lJ101, lJ123, lJ126, lJ282, lJ342, lJ1000, lJ1100, lJ2394, lJ2736, lJ9999, lJ10000, lJ1000000, lJ100000000, J_add, J_sub, J_mul, J_neg, J_le, J_lt, J_eq, J_in, J_clamp, Int.toNat_natCast, e.2.1]
      refine ⟨by omega, ?_⟩
      have := ih (by omega) (a + 1) (q + 1) (by omega) (by omega) (by
        rw [show dpx (S.1.1) (S.1.2.1) (tp (S.1.1) (S.1.2.1) i).toNat + ((a + 1 : Nat) : Int) = dpx (S.1.1) (S.1.2.1) (tp (S.1.1) (S.1.2.1) i).toNat + 1 + (a : Int) by omega]
        exact h)
      rw [show (((tp (S.1.1) (S.1.2.1) i).toNat : Nat) : Int) = tp (S.1.1) (S.1.2.1) i by omega] at this
      exact this
    · rw [if_pos (by omega)] at te de
      unfold dpx at h
      rw [te, de] at h
      unfold w2_nodesAbove_b48
      simp (disch := omega) only [lJ0, lJ1, lJ2, lJ3, lJ4, lJ5, lJ6, lJ7, lJ8, lJ9, lJ10, lJ30, lJ32, lJ33, lJ39, lJ40, lJ41, lJ45, lJ47, lJ48, lJ51, lJ55, lJ57, lJ58, lJ59, lJ60, lJ64, lJ80, lJ82, lJ99, lJ100, lJ101, lJ123, lJ126, lJ282, lJ342, lJ1000, lJ1100, lJ2394, lJ2736, lJ9999, lJ10000, lJ1000000, lJ100000000, J_add, J_sub, J_mul, J_neg, J_le, J_lt, J_eq, J_in, J_clamp, Int.toNat_natCast, e.1]
      refine ⟨by omega, fun c2 => ?_, fun c2 => ?_⟩
      · rw [if_neg c2] at h
        rw [show ((0 : Nat) : Int) + (a : Int) = (a : Int) by omega] at h
        exact h
      · rw [if_pos c2] at h
        rw [show ((0 : Nat) : Int) + 1 + (a : Int) = (a : Int) + 1 by omega] at h
        exact h
  exact H i hi 0 0 (by have := dp_lt g.w hi; omega) (by omega) (by rw [show dpx (S.1.1) (S.1.2.1) i + ((0 : Nat) : Int) = dpx (S.1.1) (S.1.2.1) i by omega]; exact h)
theorem c_children_spec {S : GS} {μ : Mem} (k : CK S μ) (g : GOK S) {t q : Int} (ht : (-2147483648 ≤ t ∧ t ≤ 2147483647)) (hq : (-2147483648 ≤ q ∧ q ≤ 2147483647)) {P : Int32 → Mem → Prop} (h : P (J (cnt (fun i => nov (S.1.1) (S.1.2.1) i = q ∧ S.1.2.1 i 1 = t) (S.1.1))) μ) : w2_children_wp μ (J t) (J q) P := by
  intro R hR
  have rn := g.1.n
  refine down (Q := fun i => R μ (J t) (J q) (J (cnt (fun i => nov (S.1.1) (S.1.2.1) i = q ∧ S.1.2.1 i 1 = t) i)) (J i)) (S.1.1) (fun i hi ih => ?_)
  apply hR
  unfold w2_children_b5_body
  have e0 : μ 1 0 0 = J (S.1.1) := k.1.1.1.1.1
  rcases Nat.lt_or_ge i (S.1.1) with c | c
  · have ih := ih c
    simp (disch := omega) only [lJ0, lJ1, lJ2, lJ3, lJ4, lJ5, lJ6, lJ7, lJ8, lJ9, lJ10, lJ30, lJ32, lJ33, lJ39, lJ40, lJ41, lJ45, lJ47, lJ48, lJ51, lJ55, lJ57, lJ58, lJ59, lJ60, lJ64, lJ80, lJ82, lJ99, lJ100, lJ101, lJ123, lJ126, lJ282, lJ342, lJ1000, lJ1100, lJ2394, lJ2736, lJ9999, lJ10000, lJ1000000, lJ100000000, J_add, J_sub, J_mul, J_neg, J_le, J_lt, J_eq, J_in, J_clamp, Int.toNat_natCast, e0]
    refine ⟨fun _ => by omega, fun _ => ?_⟩
    refine c_isChild_spec k g c ht hq rfl (fun c2 => ⟨fun c => absurd c (by decide), fun _ => ?_⟩) (fun c2 => ⟨fun _ => ?_, fun c => absurd rfl c⟩)
    · rw [cnt_succ, if_pos c2] at ih; exact ih
    · rw [cnt_succ, if_neg c2] at ih; exact ih
  · have e9 : i = S.1.1 := by omega
    subst e9
    simp (disch := omega) only [lJ0, lJ1, lJ2, lJ3, lJ4, lJ5, lJ6, lJ7, lJ8, lJ9, lJ10, lJ30, lJ32, lJ33, lJ39, lJ40, lJ41, lJ45, lJ47, lJ48, lJ51, lJ55, lJ57, lJ58, lJ59, lJ60, lJ64, lJ80, lJ82, lJ99, lJ100, lJ101, lJ123, lJ126, lJ282, lJ342, lJ1000, lJ1100, lJ2394, lJ2736, lJ9999, lJ10000, lJ1000000, lJ100000000, J_add, J_sub, J_mul, J_neg, J_le, J_lt, J_eq, J_in, J_clamp, Int.toNat_natCast, e0]
    exact ⟨fun _ => h, fun c => absurd (Int.le_refl _) c⟩
theorem cnt_0 {p : Nat → Prop} [DecidablePred p] {n : Nat} (h : cnt p n ≤ 0) (i : Nat) (hi : i < n) : ¬ p i := fun hp => by have := cnt_pos hi hp; omega
theorem cnt_ex {p : Nat → Prop} [DecidablePred p] : ∀ {n : Nat}, ¬ cnt p n ≤ 0 → ∃ i, i < n ∧ p i := by
  intro n
  induction n with
  | zero => intro h; exact absurd (Int.le_refl 0) h
  | succ n ih =>
    intro h
    by_cases c : p n
    · exact ⟨n, by omega, c⟩
    · rw [cnt_succ, if_neg c] at h
      obtain ⟨i, hi, hp⟩ := ih h
      exact ⟨i, by omega, hp⟩
theorem c_isPlaceholder_spec {S : GS} {μ : Mem} (k : CK S μ) (g : GOK S) {t q : Int} (ht : (-2147483648 ≤ t ∧ t ≤ 2147483647)) (hq : (-2147483648 ≤ q ∧ q ≤ 2147483647)) {P : Int32 → Mem → Prop} (h1 : 1000 ≤ q ∧ nd (S.1.1) (S.1.2.1) t q ≠ -1 → P 1 μ) (h0 : ¬ (1000 ≤ q ∧ nd (S.1.1) (S.1.2.1) t q ≠ -1) → P 0 μ) : w2_isPlaceholder_wp μ (J t) (J q) P := by
  unfold w2_isPlaceholder_wp
  simp (disch := omega) only [lJ0, lJ1, lJ2, lJ3, lJ4, lJ5, lJ6, lJ7, lJ8, lJ9, lJ10, lJ30, lJ32, lJ33, lJ39, lJ40, lJ41, lJ45, lJ47, lJ48, lJ51, lJ55, lJ57, lJ58, lJ59, lJ60, lJ64, lJ80, lJ82, lJ99, lJ100, lJ101, lJ123, lJ126, lJ282, lJ342, lJ1000, lJ1100, lJ2394, lJ2736, lJ9999, lJ10000, lJ1000000, lJ100000000, J_add, J_sub, J_mul, J_neg, J_le, J_lt, J_eq, J_in, J_clamp, Int.toNat_natCast]
  refine ⟨fun c => h0 (by omega), fun c => ?_⟩
  refine c_children_spec k g ht hq ?_
  have rn := g.1.n
  have rc := cnt_le (p := fun i => nov (S.1.1) (S.1.2.1) i = q ∧ S.1.2.1 i 1 = t) (n := S.1.1)
  simp (disch := omega) only [lJ0, lJ1, lJ2, lJ3, lJ4, lJ5, lJ6, lJ7, lJ8, lJ9, lJ10, lJ30, lJ32, lJ33, lJ39, lJ40, lJ41, lJ45, lJ47, lJ48, lJ51, lJ55, lJ57, lJ58, lJ59, lJ60, lJ64, lJ80, lJ82, lJ99, lJ100, lJ101, lJ123, lJ126, lJ282, lJ342, lJ1000, lJ1100, lJ2394, lJ2736, lJ9999, lJ10000, lJ1000000, lJ100000000, J_add, J_sub, J_mul, J_neg, J_le, J_lt, J_eq, J_in, J_clamp, Int.toNat_natCast]
  refine ⟨fun c2 => h0 (fun z => ?_), fun c2 => h1 ⟨by omega, ?_⟩⟩
  · obtain ⟨i, hi, e⟩ := (nd_ph g.w z.1).mp z.2
    exact cnt_0 c2 i hi e
  · exact (nd_ph g.w (by omega)).mpr (cnt_ex c2)
theorem c_isNode_spec {S : GS} {μ : Mem} (k : CK S μ) (g : GOK S) {t q : Int} (ht : (-2147483648 ≤ t ∧ t ≤ 2147483647)) (hq : (-2147483648 ≤ q ∧ q ≤ 2147483647)) {P : Int32 → Mem → Prop} (h1 : nd (S.1.1) (S.1.2.1) t q ≠ -1 → P 1 μ) (h0 : ¬ nd (S.1.1) (S.1.2.1) t q ≠ -1 → P 0 μ) : w2_isNode_wp μ (J t) (J q) P := by
  have s1 : SV μ 0 (S.1.1) (S.1.2.1) := k.1.1.1.1
  have rn := g.1.n
  have rf := fnd_rg (S.1.1) (S.1.2.1) q
  unfold w2_isNode_wp
  refine find_spec' s1 g.w hq ?_
  simp (disch := omega) only [lJ0, lJ1, lJ2, lJ3, lJ4, lJ5, lJ6, lJ7, lJ8, lJ9, lJ10, lJ30, lJ32, lJ33, lJ39, lJ40, lJ41, lJ45, lJ47, lJ48, lJ51, lJ55, lJ57, lJ58, lJ59, lJ60, lJ64, lJ80, lJ82, lJ99, lJ100, lJ101, lJ123, lJ126, lJ282, lJ342, lJ1000, lJ1100, lJ2394, lJ2736, lJ9999, lJ10000, lJ1000000, lJ100000000, J_add, J_sub, J_mul, J_neg, J_le, J_lt, J_eq, J_in, J_clamp, Int.toNat_natCast]
  refine ⟨fun c => ?_, fun c => ?_⟩
  · have y := fnd_some c
    have ry := g.w.r ((fnd S.1.1 S.1.2.1 q)).toNat (by omega)
    have q1 : q < 1000 := by omega
    unfold nd at h1 h0
    rw [if_pos q1, if_neg c] at h1 h0
    simp (disch := omega) only [lJ0, lJ1, lJ2, lJ3, lJ4, lJ5, lJ6, lJ7, lJ8, lJ9, lJ10, lJ30, lJ32, lJ33, lJ39, lJ40, lJ41, lJ45, lJ47, lJ48, lJ51, lJ55, lJ57, lJ58, lJ59, lJ60, lJ64, lJ80, lJ82, lJ99, lJ100, lJ101, lJ123, lJ126, lJ282, lJ342, lJ1000, lJ1100, lJ2394, lJ2736, lJ9999, lJ10000, lJ1000000, lJ100000000, J_add, J_sub, J_mul, J_neg, J_le, J_lt, J_eq, J_in, J_clamp, Int.toNat_natCast, s1.1, s1.i0, s1.i1, s1.i2, s1.i3, s1.i4, s1.i5, s1.i6]
    refine ⟨by omega, fun c2 => h0 (by rw [if_neg c2]; simp), fun c2 => h1 (by rw [if_pos c2]; exact c)⟩
  · refine c_isPlaceholder_spec k g ht hq (fun c2 => ⟨rfl, h1 c2.2⟩) (fun c2 => ⟨rfl, h0 (fun z => ?_)⟩)
    by_cases c3 : q < 1000
    · unfold nd at z
      rw [if_pos c3, if_pos c] at z
      exact z rfl
    · exact c2 ⟨by omega, z⟩
theorem findNode_spec {S : GS} {μ : Mem} (hc : CI S μ) (g : GOK S) {t q : Int} (ht : (-2147483648 ≤ t ∧ t ≤ 2147483647)) (hq : (-2147483648 ≤ q ∧ q ≤ 2147483647)) {P : Mem → Prop} {X : String → Mem → Prop} (hx1 : ¬ (0 ≤ t ∧ t < 4) → X xIO μ) (hx2 : 0 ≤ t ∧ t < 4 → nd (S.1.1) (S.1.2.1) t q = -1 → ∀ μ', FrC μ μ' → CK S μ' → X xNE μ') (h : 0 ≤ t ∧ t < 4 → nd (S.1.1) (S.1.2.1) t q ≠ -1 → ∀ μ', FrC μ μ' → CK S μ' → P μ') : w8_findNode_wp μ (J t) (J q) P X := by
  unfold w8_findNode_wp
  refine checkTrace_spec ht (fun c => ?_) hx1
  refine workOut_spec2 hc g (fun μ' f k => ?_)
  refine c_isNode_spec k g ht hq (fun c2 => ⟨fun _ => h c c2 μ' f k, fun c => absurd c (by decide)⟩) (fun c2 => ⟨fun c => absurd rfl c, fun _ => hx2 c (by omega) μ' f k⟩)
theorem c_isDescendant_spec {S : GS} {μ : Mem} (k : CK S μ) (g : GOK S) {i : Nat} (hi : i < S.1.1) {t q : Int} (ht : (-2147483648 ≤ t ∧ t ≤ 2147483647)) (hq : (-2147483648 ≤ q ∧ q ≤ 2147483647)) (hn : nd (S.1.1) (S.1.2.1) t q ≠ -1) {P : Int32 → Mem → Prop} (h1 : bl (S.1.1) (S.1.2.1) (nd (S.1.1) (S.1.2.1) t q) i = true → P 1 μ) (h0 : ¬ bl (S.1.1) (S.1.2.1) (nd (S.1.1) (S.1.2.1) t q) i = true → P 0 μ) : w2_isDescendant_wp μ (J i) (J t) (J q) P := by
  intro R hR
  have rn := g.1.n
  have H : ∀ i, i < S.1.1 → ∀ p : Nat, dp (S.1.1) (S.1.2.1) i + p ≤ 39 → (bl (S.1.1) (S.1.2.1) (nd (S.1.1) (S.1.2.1) t q) i = true → P 1 μ) → (¬ bl (S.1.1) (S.1.2.1) (nd (S.1.1) (S.1.2.1) t q) i = true → P 0 μ) → R μ (J t) (J q) (J i) (J p) := by
    refine tind g.w (fun i hi ih => ?_)
    intro p hp h1 h0
    apply hR
    unfold w2_isDescendant_b6_body
    have e := (k.2.2.2.1 i hi).2.1
    have rt := tp_rg (w := S.1.2.1) hi
    have de := dp_eq g.w hi
    rw [bl_eq g.w _ hi] at h1 h0
    simp (disch := omega) only [lJ0, lJ1, lJ2, lJ3, lJ4, lJ5, lJ6, lJ7, lJ8, lJ9, lJ10, lJ30, lJ32, lJ33, lJ39, lJ40, lJ41, lJ45, lJ47, lJ48, lJ51, lJ55, lJ57, lJ58, lJ59, lJ60, lJ64, lJ80, lJ82, lJ99, lJ100, lJ101, lJ123, lJ126, lJ282, lJ342, lJ1000, lJ1100, lJ2394, lJ2736, lJ9999, lJ10000, lJ1000000, lJ100000000, J_add, J_sub, J_mul, J_neg, J_le, J_lt, J_eq, J_in, J_clamp, Int.toNat_natCast]
    refine ⟨fun c => by omega, fun _ => ?_⟩
    refine isWithin_spec i 40 rfl rfl (by omega) (by decide) (fun c => ⟨fun c => absurd c (by decide), fun _ => ?_⟩) (fun c => absurd (by omega) c)
    refine c_isChild_spec k g hi ht hq rfl (fun c => ⟨fun c => absurd c (by decide), fun _ => h1 ?_⟩) (fun c => ⟨fun _ => ?_, fun c => absurd rfl c⟩)
    · have := (nd_ch g.w hn hi).mp c
      split <;> simp [this]
    · have c' : ¬ ab (S.1.1) (S.1.2.1) i = nd (S.1.1) (S.1.2.1) t q := fun z => c ((nd_ch g.w hn hi).mpr z)
      simp (disch := omega) only [lJ0, lJ1, lJ2, lJ3, lJ4, lJ5, lJ6, lJ7, lJ8, lJ9, lJ10, lJ30, lJ32, lJ33, lJ39, lJ40, lJ41, lJ45, lJ47, lJ48, lJ51, lJ55, lJ57, lJ58, lJ59, lJ60, lJ64, lJ80, lJ82, lJ99, lJ100, lJ101, lJ123, lJ126, lJ282, lJ342, lJ1000, lJ1100, lJ2394, lJ2736, lJ9999, lJ10000, lJ1000000, lJ100000000, J_add, J_sub, J_mul, J_neg, J_le, J_lt, J_eq, J_in, J_clamp, Int.toNat_natCast, e]
      refine ⟨by omega, ?_⟩
      by_cases z : tp (S.1.1) (S.1.2.1) i < 0
      · rw [if_pos z] at h0
        apply hR
        unfold w2_isDescendant_b6_body
        rw [show tp (S.1.1) (S.1.2.1) i = -1 by omega]
        simp (disch := omega) only [lJ0, lJ1, lJ2, lJ3, lJ4, lJ5, lJ6, lJ7, lJ8, lJ9, lJ10, lJ30, lJ32, lJ33, lJ39, lJ40, lJ41, lJ45, lJ47, lJ48, lJ51, lJ55, lJ57, lJ58, lJ59, lJ60, lJ64, lJ80, lJ82, lJ99, lJ100, lJ101, lJ123, lJ126, lJ282, lJ342, lJ1000, lJ1100, lJ2394, lJ2736, lJ9999, lJ10000, lJ1000000, lJ100000000, J_add, J_sub, J_mul, J_neg, J_le, J_lt, J_eq, J_in, J_clamp, Int.toNat_natCast]
        refine ⟨fun _ => h0 (by simp [c']), fun _ => ?_⟩
        exact isWithin_spec (-1) 40 rfl rfl (by omega) (by decide) (fun c => absurd c (by omega)) (fun c => ⟨fun _ => h0 (by simp [c']), fun c => absurd rfl c⟩)
      · rw [if_neg z] at h1 h0 de
        have := ih (by omega) (p + 1) (by omega) (fun y => h1 (by simp [c', y])) (fun y => h0 (by simp [c', y]))
        rw [show (((tp (S.1.1) (S.1.2.1) i).toNat : Nat) : Int) = tp (S.1.1) (S.1.2.1) i by omega] at this
        exact this
  exact H i hi 0 (by have := dp_lt g.w hi; omega) h1 h0
theorem c_spansBelow_spec {S : GS} {μ : Mem} (k : CK S μ) (g : GOK S) {t q : Int} (ht : (-2147483648 ≤ t ∧ t ≤ 2147483647)) (hq : (-2147483648 ≤ q ∧ q ≤ 2147483647)) (hn : nd (S.1.1) (S.1.2.1) t q ≠ -1) {P : Int32 → Mem → Prop} (h : P (J (cnt (fun i => bl (S.1.1) (S.1.2.1) (nd (S.1.1) (S.1.2.1) t q) i = true) (S.1.1))) μ) : w2_spansBelow_wp μ (J t) (J q) P := by
  intro R hR
  have rn := g.1.n
  refine down (Q := fun i => R μ (J t) (J q) (J (cnt (fun i => bl (S.1.1) (S.1.2.1) (nd (S.1.1) (S.1.2.1) t q) i = true) i)) (J i)) (S.1.1) (fun i hi ih => ?_)
  apply hR
  unfold w2_spansBelow_b5_body
  have e0 : μ 1 0 0 = J (S.1.1) := k.1.1.1.1.1
  rcases Nat.lt_or_ge i (S.1.1) with c | c
  · have ih := ih c
    simp (disch := omega) only [lJ0, lJ1, lJ2, lJ3, lJ4, lJ5, lJ6, lJ7, lJ8, lJ9, lJ10, lJ30, lJ32, lJ33, lJ39, lJ40, lJ41, lJ45, lJ47, lJ48, lJ51, lJ55, lJ57, lJ58, lJ59, lJ60, lJ64, lJ80, lJ82, lJ99, lJ100, lJ101, lJ123, lJ126, lJ282, lJ342, lJ1000, lJ1100, lJ2394, lJ2736, lJ9999, lJ10000, lJ1000000, lJ100000000, J_add, J_sub, J_mul, J_neg, J_le, J_lt, J_eq, J_in, J_clamp, Int.toNat_natCast, e0]
    refine ⟨fun _ => by omega, fun _ => ?_⟩
    refine c_isDescendant_spec k g c ht hq hn (fun c2 => ⟨fun c => absurd c (by decide), fun _ => ?_⟩) (fun c2 => ⟨fun _ => ?_, fun c => absurd rfl c⟩)
    · rw [cnt_succ, if_pos c2] at ih; exact ih
    · rw [cnt_succ, if_neg c2] at ih; exact ih
  · have e9 : i = S.1.1 := by omega
    subst e9
    simp (disch := omega) only [lJ0, lJ1, lJ2, lJ3, lJ4, lJ5, lJ6, lJ7, lJ8, lJ9, lJ10, lJ30, lJ32, lJ33, lJ39, lJ40, lJ41, lJ45, lJ47, lJ48, lJ51, lJ55, lJ57, lJ58, lJ59, lJ60, lJ64, lJ80, lJ82, lJ99, lJ100, lJ101, lJ123, lJ126, lJ282, lJ342, lJ1000, lJ1100, lJ2394, lJ2736, lJ9999, lJ10000, lJ1000000, lJ100000000, J_add, J_sub, J_mul, J_neg, J_le, J_lt, J_eq, J_in, J_clamp, Int.toNat_natCast, e0]
    exact ⟨fun _ => h, fun c => absurd (Int.le_refl _) c⟩
