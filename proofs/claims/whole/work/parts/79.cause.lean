-- own times, children at a time, errors that nothing below explains
theorem anb_bl {n : Nat} {w : View} (hw : WF n w) {x : Nat} (hx : x < n) : ∀ j, j < n → anb n w j x = bl n w x j := by
  have rn := hw.n
  refine tind hw (fun j hj ih => ?_)
  rw [anb_eq hw hj, bl_eq hw x hj]
  rcases ab_tp hw hj with ⟨h1, h2, h3⟩ | ⟨h1, h2, h3⟩
  · rw [if_neg (by omega), if_neg (by omega), ih h1, h2]
  · rw [if_pos (by omega), if_pos (by omega)]
    exact (decide_eq_false (by omega)).symm
def erbb (n : Nat) (w : View) (i : Nat) (m : Nat) : Bool := it (fun j b => b || (decide (w j 6 ≠ 0) && bl n w i j)) false m
theorem erbb_succ (n : Nat) (w : View) (i m : Nat) : erbb n w i (m + 1) = (erbb n w i m || (decide (w m 6 ≠ 0) && bl n w i m)) := rfl
theorem erbb_iff (n : Nat) (w : View) (i : Nat) : ∀ m, erbb n w i m = true ↔ ∃ j, j < m ∧ w j 6 ≠ 0 ∧ bl n w i j = true := by
  intro m
  induction m with
  | zero => exact ⟨fun c => (by cases c), fun ⟨j, h, _⟩ => absurd h (Nat.not_lt_zero _)⟩
  | succ m ih =>
    rw [erbb_succ, Bool.or_eq_true, ih, Bool.and_eq_true, decide_eq_true_iff]
    constructor
    · rintro (⟨j, h1, h2⟩ | h)
      · exact ⟨j, by omega, h2⟩
      · exact ⟨m, by omega, h⟩
    · rintro ⟨j, h1, h2⟩
      by_cases y : j = m
      · subst y; exact Or.inr h2
      · exact Or.inl ⟨j, by omega, h2⟩
theorem erb_iff {n : Nat} {w : View} (hw : WF n w) {i : Nat} (hi : i < n) : erb n w i ↔ erbb n w i n = true := by
  rw [erbb_iff]
  unfold erb
  constructor
  · rintro ⟨j, h1, h2, h3⟩; exact ⟨j, h1, h2, by rw [← anb_bl hw hi j h1]; exact h3⟩
  · rintro ⟨j, h1, h2, h3⟩; exact ⟨j, h1, h2, by rw [anb_bl hw hi j h1]; exact h3⟩
/-- an error that nothing below explains -/
def csb (n : Nat) (w : View) (i : Nat) : Bool := decide (w i 6 ≠ 0) && !(erbb n w i n)
theorem c_isErrorSource_spec {S : GS} {μ : Mem} (k : CK S μ) (g : GOK S) {i : Nat} (hi : i < S.1.1) {x : Int32} (ex : x = J i) {P : Int32 → Mem → Prop} (h1 : csb (S.1.1) (S.1.2.1) i = true → P 1 μ) (h0 : ¬ csb (S.1.1) (S.1.2.1) i = true → P 0 μ) : w1_isErrorSource_wp μ x P := by
  subst ex
  have rn := g.1.n
  have s1 : SV μ 0 (S.1.1) (S.1.2.1) := k.1.1.1.1
  have ri := g.w.r i hi
  have e := k.2.2.2.2.1 i hi
  rw [erb_iff g.w hi] at e
  unfold csb at h1 h0
  unfold w1_isErrorSource_wp
  simp (disch := omega) only [lJ0, lJ1, lJ2, lJ3, lJ4, lJ5, lJ6, lJ7, lJ8, lJ9, lJ10, lJ30, lJ32, lJ33, lJ39, lJ40, lJ41, lJ45, lJ47, lJ48, lJ51, lJ55, lJ57, lJ58, lJ59, lJ60, lJ64, lJ80, lJ82, lJ99, lJ100, lJ101, lJ123, lJ126, lJ282, lJ342, lJ1000, lJ1100, lJ2394, lJ2736, lJ9999, lJ10000, lJ1000000, lJ100000000, J_add, J_sub, J_mul, J_neg, J_le, J_lt, J_eq, J_in, J_clamp, Int.toNat_natCast, s1.1, s1.i0, s1.i1, s1.i2, s1.i3, s1.i4, s1.i5, s1.i6]
  refine ⟨by omega, fun c => h0 (by simp [c]), fun c => ⟨by omega, ?_⟩⟩
  by_cases c2 : erbb (S.1.1) (S.1.2.1) i (S.1.1) = true
  · rw [e.1 c2]
    exact ⟨fun _ => h0 (by simp [c2]), fun z => absurd z (by decide)⟩
  · rw [e.2 c2]
    exact ⟨fun z => absurd rfl z, fun _ => h1 (by simp [c, c2])⟩
theorem m_causes_spec {S : GS} {μ : Mem} (k : MQ9 S μ) (g : GOK S) {i : Nat} (hi : i < S.1.1) {P : Int32 → Mem → Prop} (h1 : csb (S.1.1) (S.1.2.1) i = true → P 1 μ) (h0 : ¬ csb (S.1.1) (S.1.2.1) i = true → P 0 μ) : w9_causes_wp μ (J i) P := by
  have rn := g.1.n
  have ri := g.w.r i hi
  have e0 := k.n0
  unfold w9_causes_wp
  refine of_spec k.1.1.1 rn i 6 rfl rfl hi (by omega) ?_
  have key : w9_causes_b19 P μ (J i) (J (if (decide (S.1.2.1 i 6 ≠ 0) && !(erbb (S.1.1) (S.1.2.1) i 0)) = true then 1 else 0)) (J (0 : Nat)) := by
    intro R hR
    refine down (Q := fun m => R μ (J i) (J (if (decide (S.1.2.1 i 6 ≠ 0) && !(erbb (S.1.1) (S.1.2.1) i m)) = true then 1 else 0)) (J m)) (S.1.1) (fun m hm ih => ?_)
    apply hR
    unfold w9_causes_b19_body
    rcases Nat.lt_or_ge m (S.1.1) with c | c
    · have ih := ih c
      have rm := g.w.r m c
      rw [erbb_succ] at ih
      by_cases c1 : (decide (S.1.2.1 i 6 ≠ 0) && !(erbb (S.1.1) (S.1.2.1) i m)) = true
      · rw [if_pos c1]
        rw [Bool.and_eq_true, Bool.not_eq_true'] at c1
        rw [c1.1, c1.2] at ih
        simp (disch := omega) only [lJ0, lJ1, lJ2, lJ3, lJ4, lJ5, lJ6, lJ7, lJ8, lJ9, lJ10, lJ30, lJ32, lJ33, lJ39, lJ40, lJ41, lJ45, lJ47, lJ48, lJ51, lJ55, lJ57, lJ58, lJ59, lJ60, lJ64, lJ80, lJ82, lJ99, lJ100, lJ101, lJ123, lJ126, lJ282, lJ342, lJ1000, lJ1100, lJ2394, lJ2736, lJ9999, lJ10000, lJ1000000, lJ100000000, J_add, J_sub, J_mul, J_neg, J_le, J_lt, J_eq, J_in, J_clamp, Int.toNat_natCast, Int.toNat_zero, e0]
        refine ⟨by omega, fun _ => by omega, fun _ => ⟨fun z => absurd z (by decide), fun _ => ?_⟩⟩
        refine of_spec k.1.1.1 rn m 6 rfl rfl c (by omega) ?_
        simp (disch := omega) only [lJ0, lJ1, lJ2, lJ3, lJ4, lJ5, lJ6, lJ7, lJ8, lJ9, lJ10, lJ30, lJ32, lJ33, lJ39, lJ40, lJ41, lJ45, lJ47, lJ48, lJ51, lJ55, lJ57, lJ58, lJ59, lJ60, lJ64, lJ80, lJ82, lJ99, lJ100, lJ101, lJ123, lJ126, lJ282, lJ342, lJ1000, lJ1100, lJ2394, lJ2736, lJ9999, lJ10000, lJ1000000, lJ100000000, J_add, J_sub, J_mul, J_neg, J_le, J_lt, J_eq, J_in, J_clamp, Int.toNat_natCast]
        refine ⟨fun c2 => ?_, fun c2 => ?_⟩
        · rw [decide_eq_false (fun z => z c2)] at ih; exact ih
        · rw [decide_eq_true c2] at ih
          refine m_isBelow_spec k g c (x := i) (by omega) rfl (fun c3 => ⟨fun _ => ?_, fun z => absurd z (by decide)⟩) (fun c3 => ⟨fun z => absurd rfl z, fun _ => ?_⟩)
          · rw [c3] at ih; exact ih
          · rw [Bool.eq_false_iff.mpr c3] at ih; exact ih
      · rw [if_neg c1]
        have c4 : ¬ (decide (S.1.2.1 i 6 ≠ 0) && !(erbb (S.1.1) (S.1.2.1) i m || (decide (S.1.2.1 m 6 ≠ 0) && bl (S.1.1) (S.1.2.1) i m))) = true := fun z => c1 (by
          rw [Bool.and_eq_true, Bool.not_eq_true', Bool.or_eq_false_iff] at z
          rw [Bool.and_eq_true, Bool.not_eq_true']
          exact ⟨z.1, z.2.1⟩)
        rw [if_neg c4] at ih
        simp (disch := omega) only [lJ0, lJ1, lJ2, lJ3, lJ4, lJ5, lJ6, lJ7, lJ8, lJ9, lJ10, lJ30, lJ32, lJ33, lJ39, lJ40, lJ41, lJ45, lJ47, lJ48, lJ51, lJ55, lJ57, lJ58, lJ59, lJ60, lJ64, lJ80, lJ82, lJ99, lJ100, lJ101, lJ123, lJ126, lJ282, lJ342, lJ1000, lJ1100, lJ2394, lJ2736, lJ9999, lJ10000, lJ1000000, lJ100000000, J_add, J_sub, J_mul, J_neg, J_le, J_lt, J_eq, J_in, J_clamp, Int.toNat_natCast, Int.toNat_zero, e0]
        exact ⟨by omega, fun _ => by omega, fun _ => ⟨fun _ => ih, fun z => absurd trivial z⟩⟩
    · have e9 : m = S.1.1 := by omega
      subst e9
      simp (disch := omega) only [lJ0, lJ1, lJ2, lJ3, lJ4, lJ5, lJ6, lJ7, lJ8, lJ9, lJ10, lJ30, lJ32, lJ33, lJ39, lJ40, lJ41, lJ45, lJ47, lJ48, lJ51, lJ55, lJ57, lJ58, lJ59, lJ60, lJ64, lJ80, lJ82, lJ99, lJ100, lJ101, lJ123, lJ126, lJ282, lJ342, lJ1000, lJ1100, lJ2394, lJ2736, lJ9999, lJ10000, lJ1000000, lJ100000000, J_add, J_sub, J_mul, J_neg, J_le, J_lt, J_eq, J_in, J_clamp, Int.toNat_natCast, Int.toNat_zero, e0]
      refine ⟨by omega, fun _ => ?_, fun z => absurd (Int.le_refl _) z⟩
      by_cases c1 : (decide (S.1.2.1 i 6 ≠ 0) && !(erbb (S.1.1) (S.1.2.1) i (S.1.1))) = true
      · rw [if_pos c1]; exact ⟨rfl, h1 c1⟩
      · rw [if_neg c1]; exact ⟨rfl, h0 c1⟩
  rw [show erbb (S.1.1) (S.1.2.1) i 0 = false from rfl, Bool.not_false, Bool.and_true] at key
  simp (disch := omega) only [lJ0, lJ1, lJ2, lJ3, lJ4, lJ5, lJ6, lJ7, lJ8, lJ9, lJ10, lJ30, lJ32, lJ33, lJ39, lJ40, lJ41, lJ45, lJ47, lJ48, lJ51, lJ55, lJ57, lJ58, lJ59, lJ60, lJ64, lJ80, lJ82, lJ99, lJ100, lJ101, lJ123, lJ126, lJ282, lJ342, lJ1000, lJ1100, lJ2394, lJ2736, lJ9999, lJ10000, lJ1000000, lJ100000000, J_add, J_sub, J_mul, J_neg, J_le, J_lt, J_eq, J_in, J_clamp, Int.toNat_natCast]
  refine ⟨fun c => ?_, fun c => ?_⟩
  · rw [decide_eq_false (by omega)] at key; exact key
  · rw [decide_eq_true (by omega)] at key; exact key
def op_selfTime (S : GS) (z : Int) : OpR Int := if (fnd S.1.1 S.1.2.1 z) = -1 then thw S xIO 1 else ok S (ownt (S.1.1) (S.1.2.1) ((fnd S.1.1 S.1.2.1 z)).toNat)
def op_parallel (S : GS) (z u : Int) : OpR Int := if (fnd S.1.1 S.1.2.1 z) = -1 then thw S xIO 1 else ok S (cnt (fun j => ab (S.1.1) (S.1.2.1) j = (fnd S.1.1 S.1.2.1 z) ∧ bgn (S.1.1) (S.1.2.1) j ≤ u ∧ u < enn (S.1.1) (S.1.2.1) j) (S.1.1))
def op_isCause (S : GS) (z : Int) : OpR Int := if (fnd S.1.1 S.1.2.1 z) = -1 then thw S xIO 1 else ok S (if csb (S.1.1) (S.1.2.1) ((fnd S.1.1 S.1.2.1 z)).toNat = true then 1 else 0)
abbrev caO (S : GS) (t k : Int) : Int := nthe (S.1.1) (S.1.2.1) (fun i => S.1.2.1 i 1 = t ∧ csb (S.1.1) (S.1.2.1) i = true) k (S.1.1) 0
def op_cause (S : GS) (t k : Int) : OpR Int := if 0 ≤ t ∧ t < 4 then (if caO S t k = -1 then thw S xNE 2 else ok S (S.1.2.1 (caO S t k).toNat 0)) else thw S xIO 1
theorem Tx_self {S : GS} (g : GOK S) {i : Nat} (hi : i < S.1.1) : Tx S (S.1.2.1 i 1) i ∧ num (S.1.1) (S.1.2.1) (i : Int) = S.1.2.1 i 0 := by
  have rn := g.1.n
  have ri := g.w.r i hi
  have e : num (S.1.1) (S.1.2.1) (i : Int) = S.1.2.1 i 0 := by unfold num; rw [if_pos (by omega), Int.toNat_natCast]
  refine ⟨⟨?_, by omega⟩, e⟩
  rw [e]
  unfold nd
  rw [if_pos (by omega), fnd_at g.w hi, if_neg (by omega), Int.toNat_natCast, if_pos rfl]
theorem c_selfTime {S : GS} {μ : Mem} (hc : CI S μ) (g : GOK S) {z : Int} (hz : (-2147483648 ≤ z ∧ z ≤ 2147483647)) {P : Int32 → Mem → Prop} {X : String → Mem → Prop} (h : CRes J (op_selfTime S z) μ P X) : w8_selfTime_wp μ (J z) P X := by
  unfold op_selfTime at h
  unfold w8_selfTime_wp
  refine placeOf_spec hc.1.1 g hz (fun c => by rw [if_pos c] at h; exact h μ FrC.rf hc) (fun i hi ei ez => ?_)
  rw [if_neg (by omega), ei, Int.toNat_natCast] at h
  exact workOut_spec2 hc g (fun μ' f k => c_ownUnits_spec k g hi (h μ' f k.1))
theorem c_parallel {S : GS} {μ : Mem} (hc : CI S μ) (g : GOK S) {z u : Int} (hz : (-2147483648 ≤ z ∧ z ≤ 2147483647)) (hu : (-2147483648 ≤ u ∧ u ≤ 2147483647)) {P : Int32 → Mem → Prop} {X : String → Mem → Prop} (h : CRes J (op_parallel S z u) μ P X) : w8_parallel_wp μ (J z) (J u) P X := by
  unfold op_parallel at h
  unfold w8_parallel_wp
  refine placeOf_spec hc.1.1 g hz (fun c => by rw [if_pos c] at h; exact h μ FrC.rf hc) (fun i hi ei ez => ?_)
  rw [if_neg (by omega), ei] at h
  refine workOut_spec2 hc g (fun μ' f k => ?_)
  have h := h μ' f k.1
  have rn := g.1.n
  have ri := g.w.r i hi
  have s1 : SV μ' 0 (S.1.1) (S.1.2.1) := k.1.1.1.1
  have tx := Tx_self g hi
  intro R hR
  refine down (Q := fun j => R μ' (J i) (J u) (J (cnt (fun j => ab (S.1.1) (S.1.2.1) j = (i : Int) ∧ bgn (S.1.1) (S.1.2.1) j ≤ u ∧ u < enn (S.1.1) (S.1.2.1) j) j)) (J j)) (S.1.1) (fun j hj ih => ?_)
  apply hR
  unfold w1_childrenAt_b5_body
  rcases Nat.lt_or_ge j (S.1.1) with c | c
  · have ih := ih c
    have rj := be_rg g.w c
    have ej := k.2.2.1 j c
    have tch := Tx_ch g tx.1 c
    rw [tx.2] at tch
    rw [cnt_succ] at ih
    simp (disch := omega) only [lJ0, lJ1, lJ2, lJ3, lJ4, lJ5, lJ6, lJ7, lJ8, lJ9, lJ10, lJ30, lJ32, lJ33, lJ39, lJ40, lJ41, lJ45, lJ47, lJ48, lJ51, lJ55, lJ57, lJ58, lJ59, lJ60, lJ64, lJ80, lJ82, lJ99, lJ100, lJ101, lJ123, lJ126, lJ282, lJ342, lJ1000, lJ1100, lJ2394, lJ2736, lJ9999, lJ10000, lJ1000000, lJ100000000, J_add, J_sub, J_mul, J_neg, J_le, J_lt, J_eq, J_in, J_clamp, Int.toNat_natCast, s1.1, s1.i0, s1.i1, s1.i2, s1.i3, s1.i4, s1.i5, s1.i6, ej.1, ej.2.1]
    refine ⟨fun _ => by omega, fun _ => ⟨by omega, fun c2 => ?_, fun c2 => ⟨by omega, fun c3 => ?_, fun c3 => ⟨by omega, by omega, ?_⟩⟩⟩⟩
    · rw [if_neg (by omega)] at ih; exact ih
    · rw [if_neg (by omega)] at ih; exact ih
    · refine c_isChild_spec k g c (by omega) (by omega) rfl (fun c1 => ⟨fun c => absurd c (by decide), fun _ => ?_⟩) (fun c1 => ⟨fun _ => ?_, fun c => absurd rfl c⟩)
      · rw [if_pos ⟨tch.mp c1, by omega, by omega⟩] at ih; exact ih
      · rw [if_neg (fun z => c1 (tch.mpr z.1))] at ih; exact ih
  · have e9 : j = S.1.1 := by omega
    subst e9
    simp (disch := omega) only [lJ0, lJ1, lJ2, lJ3, lJ4, lJ5, lJ6, lJ7, lJ8, lJ9, lJ10, lJ30, lJ32, lJ33, lJ39, lJ40, lJ41, lJ45, lJ47, lJ48, lJ51, lJ55, lJ57, lJ58, lJ59, lJ60, lJ64, lJ80, lJ82, lJ99, lJ100, lJ101, lJ123, lJ126, lJ282, lJ342, lJ1000, lJ1100, lJ2394, lJ2736, lJ9999, lJ10000, lJ1000000, lJ100000000, J_add, J_sub, J_mul, J_neg, J_le, J_lt, J_eq, J_in, J_clamp, Int.toNat_natCast, s1.1, s1.i0, s1.i1, s1.i2, s1.i3, s1.i4, s1.i5, s1.i6]
    exact ⟨fun _ => h, fun z => absurd (Int.le_refl _) z⟩
theorem c_isCause {S : GS} {μ : Mem} (hc : CI S μ) (g : GOK S) {z : Int} (hz : (-2147483648 ≤ z ∧ z ≤ 2147483647)) {P : Int32 → Mem → Prop} {X : String → Mem → Prop} (h : CRes J (op_isCause S z) μ P X) : w8_isCause_wp μ (J z) P X := by
  unfold op_isCause at h
  unfold w8_isCause_wp
  refine placeOf_spec hc.1.1 g hz (fun c => by rw [if_pos c] at h; exact h μ FrC.rf hc) (fun i hi ei ez => ?_)
  rw [if_neg (by omega), ei, Int.toNat_natCast] at h
  refine workOut_spec2 hc g (fun μ' f k => c_isErrorSource_spec k g hi rfl (fun c => ?_) (fun c => ?_))
  · rw [if_pos c] at h; exact ⟨rfl, h μ' f k.1⟩
  · rw [if_neg c] at h; exact ⟨rfl, h μ' f k.1⟩
theorem c_cause {S : GS} {μ : Mem} (hc : CI S μ) (g : GOK S) {t a : Int} (ht : (-2147483648 ≤ t ∧ t ≤ 2147483647)) (ha : (-2147483648 ≤ a ∧ a ≤ 2147483647)) {P : Int32 → Mem → Prop} {X : String → Mem → Prop} (h : CRes J (op_cause S t a) μ P X) : w8_cause_wp μ (J t) (J a) P X := by
  unfold op_cause at h
  unfold w8_cause_wp
  have rn := g.1.n
  refine checkTrace_spec ht (fun c => ?_) (fun c => by rw [if_neg c] at h; exact h μ FrC.rf hc)
  rw [if_pos c] at h
  refine workOut_spec2 hc g (fun μ' f k => ?_)
  obtain ⟨od, o1, o2, o3⟩ := k.2.2.2.2.2
  have s1 : SV μ' 0 (S.1.1) (S.1.2.1) := k.1.1.1.1
  have nr := nthe_rank g.w (fun r hr => (o1 r hr).2) o2 o3 (fun i => S.1.2.1 i 1 = t ∧ csb (S.1.1) (S.1.2.1) i = true) (k := a)
  unfold w1_errorSourceAt_wp
  intro R hR
  suffices H : (∀ r, r < 0 → (S.1.2.1 (od r) 1 = t ∧ csb (S.1.1) (S.1.2.1) (od r) = true) → cnt (fun s => S.1.2.1 (od s) 1 = t ∧ csb (S.1.1) (S.1.2.1) (od s) = true) r ≠ a) → R μ' (J t) (J a) (J (cnt (fun s => S.1.2.1 (od s) 1 = t ∧ csb (S.1.1) (S.1.2.1) (od s) = true) 0)) (J (0 : Nat)) from H (fun r hr => by omega)
  refine down (Q := fun i => (∀ r, r < i → (S.1.2.1 (od r) 1 = t ∧ csb (S.1.1) (S.1.2.1) (od r) = true) → cnt (fun s => S.1.2.1 (od s) 1 = t ∧ csb (S.1.1) (S.1.2.1) (od s) = true) r ≠ a) → R μ' (J t) (J a) (J (cnt (fun s => S.1.2.1 (od s) 1 = t ∧ csb (S.1.1) (S.1.2.1) (od s) = true) i)) (J i)) (S.1.1) (fun i hi ih hn => ?_)
  apply hR
  unfold w1_errorSourceAt_b5_body
  have rc := cnt_le (p := fun s => S.1.2.1 (od s) 1 = t ∧ csb (S.1.1) (S.1.2.1) (od s) = true) (n := i)
  rcases Nat.lt_or_ge i (S.1.1) with ci | ci
  · have ih := ih ci
    have e := o1 i ci
    have ro := g.w.r (od i) e.2
    rw [cnt_succ] at ih
    have nxt : ¬ (S.1.2.1 (od i) 1 = t ∧ csb (S.1.1) (S.1.2.1) (od i) = true) → R μ' (J t) (J a) (J (cnt (fun s => S.1.2.1 (od s) 1 = t ∧ csb (S.1.1) (S.1.2.1) (od s) = true) i)) (J ((i : Int) + 1)) := fun z => by
      rw [if_neg z] at ih
      refine ih (fun r hr hr2 => ?_)
      by_cases y : r = i
      · rw [y] at hr2; exact absurd hr2 z
      · exact hn r (by omega) hr2
    simp (disch := omega) only [lJ0, lJ1, lJ2, lJ3, lJ4, lJ5, lJ6, lJ7, lJ8, lJ9, lJ10, lJ30, lJ32, lJ33, lJ39, lJ40, lJ41, lJ45, lJ47, lJ48, lJ51, lJ55, lJ57, lJ58, lJ59, lJ60, lJ64, lJ80, lJ82, lJ99, lJ100, lJ101, lJ123, lJ126, lJ282, lJ342, lJ1000, lJ1100, lJ2394, lJ2736, lJ9999, lJ10000, lJ1000000, lJ100000000, J_add, J_sub, J_mul, J_neg, J_le, J_lt, J_eq, J_in, J_clamp, Int.toNat_natCast, s1.1, s1.i0, s1.i1, s1.i2, s1.i3, s1.i4, s1.i5, s1.i6, e.1]
    refine ⟨fun _ => by omega, fun _ => ⟨by omega, by omega, fun c2 => nxt (fun z => c2 z.1), fun c2 => ?_⟩⟩
    refine c_isErrorSource_spec k g e.2 rfl (fun c5 => ⟨fun c => absurd c (by decide), fun _ => ?_⟩) (fun c5 => ⟨fun _ => nxt (fun z => c5 z.2), fun c => absurd rfl c⟩)
    rw [if_pos ⟨c2, c5⟩] at ih
    refine ⟨fun c7 => ih (fun r hr hr2 => ?_), fun c7 => ?_⟩
    · by_cases y : r = i
      · rw [y]; exact c7
      · exact hn r (by omega) hr2
    · have nx := nr.1 i ci ⟨c2, c5⟩ c7
      have nx : caO S t a = od i := nx
      rw [if_neg (by omega), nx, Int.toNat_natCast] at h
      refine isWithin_spec (od i) 40 rfl rfl (by omega) (by decide) (fun c => ⟨fun _ => ?_, fun c => absurd c (by decide)⟩) (fun c => absurd (by omega) c)
      simp (disch := omega) only [lJ0, lJ1, lJ2, lJ3, lJ4, lJ5, lJ6, lJ7, lJ8, lJ9, lJ10, lJ30, lJ32, lJ33, lJ39, lJ40, lJ41, lJ45, lJ47, lJ48, lJ51, lJ55, lJ57, lJ58, lJ59, lJ60, lJ64, lJ80, lJ82, lJ99, lJ100, lJ101, lJ123, lJ126, lJ282, lJ342, lJ1000, lJ1100, lJ2394, lJ2736, lJ9999, lJ10000, lJ1000000, lJ100000000, J_add, J_sub, J_mul, J_neg, J_le, J_lt, J_eq, J_in, J_clamp, Int.toNat_natCast, s1.1, s1.i0, s1.i1, s1.i2, s1.i3, s1.i4, s1.i5, s1.i6]
      exact ⟨by omega, h μ' f k.1⟩
  · have e9 : i = S.1.1 := by omega
    subst e9
    have nx : caO S t a = -1 := nr.2 hn
    rw [if_pos nx] at h
    simp (disch := omega) only [lJ0, lJ1, lJ2, lJ3, lJ4, lJ5, lJ6, lJ7, lJ8, lJ9, lJ10, lJ30, lJ32, lJ33, lJ39, lJ40, lJ41, lJ45, lJ47, lJ48, lJ51, lJ55, lJ57, lJ58, lJ59, lJ60, lJ64, lJ80, lJ82, lJ99, lJ100, lJ101, lJ123, lJ126, lJ282, lJ342, lJ1000, lJ1100, lJ2394, lJ2736, lJ9999, lJ10000, lJ1000000, lJ100000000, J_add, J_sub, J_mul, J_neg, J_le, J_lt, J_eq, J_in, J_clamp, Int.toNat_natCast, s1.1, s1.i0, s1.i1, s1.i2, s1.i3, s1.i4, s1.i5, s1.i6]
    refine ⟨fun _ => ?_, fun c => absurd (Int.le_refl _) c⟩
    exact isWithin_spec (-1) 40 rfl rfl (by omega) (by decide) (fun c => absurd c (by omega)) (fun c => ⟨fun c => absurd rfl c, fun _ => h μ' f k.1⟩)
