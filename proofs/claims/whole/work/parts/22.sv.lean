-- needs: 20 21
theorem SV.i0 {μ : Mem} {k n : Nat} {w : View} (h : SV μ k n w) (i : Nat) (hi : i < n) : μ 128 k i = J (w i 0) := h.2 i hi 0 (by decide)
theorem SV.i1 {μ : Mem} {k n : Nat} {w : View} (h : SV μ k n w) (i : Nat) (hi : i < n) : μ 64 k i = J (w i 1) := h.2 i hi 1 (by decide)
theorem SV.i2 {μ : Mem} {k n : Nat} {w : View} (h : SV μ k n w) (i : Nat) (hi : i < n) : μ 192 k i = J (w i 2) := h.2 i hi 2 (by decide)
theorem SV.i3 {μ : Mem} {k n : Nat} {w : View} (h : SV μ k n w) (i : Nat) (hi : i < n) : μ 256 k i = J (w i 3) := h.2 i hi 3 (by decide)
theorem SV.i4 {μ : Mem} {k n : Nat} {w : View} (h : SV μ k n w) (i : Nat) (hi : i < n) : μ 320 k i = J (w i 4) := h.2 i hi 4 (by decide)
theorem SV.i5 {μ : Mem} {k n : Nat} {w : View} (h : SV μ k n w) (i : Nat) (hi : i < n) : μ 384 k i = J (w i 5) := h.2 i hi 5 (by decide)
theorem SV.i6 {μ : Mem} {k n : Nat} {w : View} (h : SV μ k n w) (i : Nat) (hi : i < n) : μ 448 k i = J (w i 6) := h.2 i hi 6 (by decide)
theorem WF.n {n : Nat} {w : View} (h : WF n w) : n ≤ 40 := h.1
theorem WF.r {n : Nat} {w : View} (h : WF n w) (i : Nat) (hi : i < n) : Rg w i ∧ w i 4 ≤ w i 5 := h.2.1 i hi
theorem cnt_succ (p : Nat → Prop) [DecidablePred p] (n : Nat) : cnt p (n + 1) = if p n then cnt p n + 1 else cnt p n := rfl
theorem spansOf_spec {μ : Mem} {n : Nat} {w : View} (hv : SV μ 0 n w) (hw : WF n w) {t : Int} (ht : (-2147483648 ≤ t ∧ t ≤ 2147483647)) {P : Int32 → Mem → Prop} (h : P (J (cnt (fun i => w i 1 = t) n)) μ) : w1_spansOf_wp μ (J t) P := by
  intro R hR
  refine down (Q := fun i => R μ (J t) (J (cnt (fun i => w i 1 = t) i)) (J i)) n (fun i hi ih => ?_)
  apply hR
  have r := hw.n
  unfold w1_spansOf_b4_body
  rcases Nat.lt_or_ge i n with c | c
  · have r1 := hw.r i c
    have ih := ih c
    simp (disch := omega) only [hv.1, hv.i0, hv.i1, hv.i2, hv.i3, hv.i4, hv.i5, hv.i6, lJ0, lJ1, lJ2, lJ3, lJ4, lJ5, lJ6, lJ7, lJ8, lJ9, lJ10, lJ30, lJ32, lJ33, lJ39, lJ40, lJ41, lJ45, lJ47, lJ48, lJ51, lJ55, lJ57, lJ58, lJ59, lJ60, lJ64, lJ80, lJ82, lJ99, lJ100, lJ101, lJ123, lJ126, lJ282, lJ342, lJ1000, lJ1100, lJ2394, lJ2736, lJ9999, lJ10000, lJ1000000, lJ100000000, J_add, J_sub, J_mul, J_neg, J_le, J_lt, J_eq, J_in, J_clamp, Int.toNat_natCast]
    refine ⟨fun _ => by omega, fun _ => ⟨by omega, fun c => ?_, fun c => ?_⟩⟩
    · simpa [cnt_succ, c] using ih
    · simpa [cnt_succ, c] using ih
  · obtain rfl : i = n := by omega
    simp (disch := omega) only [hv.1, hv.i0, hv.i1, hv.i2, hv.i3, hv.i4, hv.i5, hv.i6, lJ0, lJ1, lJ2, lJ3, lJ4, lJ5, lJ6, lJ7, lJ8, lJ9, lJ10, lJ30, lJ32, lJ33, lJ39, lJ40, lJ41, lJ45, lJ47, lJ48, lJ51, lJ55, lJ57, lJ58, lJ59, lJ60, lJ64, lJ80, lJ82, lJ99, lJ100, lJ101, lJ123, lJ126, lJ282, lJ342, lJ1000, lJ1100, lJ2394, lJ2736, lJ9999, lJ10000, lJ1000000, lJ100000000, J_add, J_sub, J_mul, J_neg, J_le, J_lt, J_eq, J_in, J_clamp, Int.toNat_natCast]
    exact ⟨fun _ => h, fun c => absurd (Int.le_refl _) c⟩
theorem errorsOf_spec {μ : Mem} {n : Nat} {w : View} (hv : SV μ 0 n w) (hw : WF n w) {t : Int} (ht : (-2147483648 ≤ t ∧ t ≤ 2147483647)) {P : Int32 → Mem → Prop} (h : P (J (cnt (fun i => w i 1 = t ∧ w i 6 ≠ 0) n)) μ) : w1_errorsOf_wp μ (J t) P := by
  intro R hR
  refine down (Q := fun i => R μ (J t) (J (cnt (fun i => w i 1 = t ∧ w i 6 ≠ 0) i)) (J i)) n (fun i hi ih => ?_)
  apply hR
  have r := hw.n
  unfold w1_errorsOf_b4_body
  rcases Nat.lt_or_ge i n with c | c
  · have r1 := hw.r i c
    have ih := ih c
    simp (disch := omega) only [hv.1, hv.i0, hv.i1, hv.i2, hv.i3, hv.i4, hv.i5, hv.i6, lJ0, lJ1, lJ2, lJ3, lJ4, lJ5, lJ6, lJ7, lJ8, lJ9, lJ10, lJ30, lJ32, lJ33, lJ39, lJ40, lJ41, lJ45, lJ47, lJ48, lJ51, lJ55, lJ57, lJ58, lJ59, lJ60, lJ64, lJ80, lJ82, lJ99, lJ100, lJ101, lJ123, lJ126, lJ282, lJ342, lJ1000, lJ1100, lJ2394, lJ2736, lJ9999, lJ10000, lJ1000000, lJ100000000, J_add, J_sub, J_mul, J_neg, J_le, J_lt, J_eq, J_in, J_clamp, Int.toNat_natCast]
    refine ⟨fun _ => by omega, fun _ => ⟨by omega, fun c => ?_, fun c => ⟨by omega, fun c2 => ?_, fun c2 => ?_⟩⟩⟩
    · simpa [cnt_succ, c] using ih
    · simpa [cnt_succ, c, c2] using ih
    · simpa [cnt_succ, c, c2] using ih
  · obtain rfl : i = n := by omega
    simp (disch := omega) only [hv.1, hv.i0, hv.i1, hv.i2, hv.i3, hv.i4, hv.i5, hv.i6, lJ0, lJ1, lJ2, lJ3, lJ4, lJ5, lJ6, lJ7, lJ8, lJ9, lJ10, lJ30, lJ32, lJ33, lJ39, lJ40, lJ41, lJ45, lJ47, lJ48, lJ51, lJ55, lJ57, lJ58, lJ59, lJ60, lJ64, lJ80, lJ82, lJ99, lJ100, lJ101, lJ123, lJ126, lJ282, lJ342, lJ1000, lJ1100, lJ2394, lJ2736, lJ9999, lJ10000, lJ1000000, lJ100000000, J_add, J_sub, J_mul, J_neg, J_le, J_lt, J_eq, J_in, J_clamp, Int.toNat_natCast]
    exact ⟨fun _ => h, fun c => absurd (Int.le_refl _) c⟩
theorem LV.sp {μ : Mem} {k : Nat} {l : Lk} (h : LV μ k l) : (μ 2 k 0) = J l.length := h.1
theorem LV.fr0 {μ : Mem} {k : Nat} {l : Lk} (h : LV μ k l) (q : Nat) (hq : q < l.length) : μ 512 k q = J (lf l q) := (h.2 q hq).1
theorem LV.to0 {μ : Mem} {k : Nat} {l : Lk} (h : LV μ k l) (q : Nat) (hq : q < l.length) : μ 576 k q = J (lt l q) := (h.2 q hq).2
theorem LW.n {l : Lk} (h : LW l) : l.length ≤ 30 := h.1
theorem LW.r {l : Lk} (h : LW l) (q : Nat) (hq : q < l.length) : 0 ≤ lf l q ∧ lf l q < 100 ∧ 0 ≤ lt l q ∧ lt l q < 100 := h.2 q hq
theorem hasLink_spec {μ : Mem} {k : Nat} {l : Lk} (hl : LV μ k l) (hw : LW l) {a b : Int} (ha : (-2147483648 ≤ a ∧ a ≤ 2147483647)) (hb : (-2147483648 ≤ b ∧ b ≤ 2147483647)) {P : Int32 → Mem → Prop} (h1 : (∃ q, q < l.length ∧ lf l q = a ∧ lt l q = b) → P 1 μ) (h0 : (¬ ∃ q, q < l.length ∧ lf l q = a ∧ lt l q = b) → P 0 μ) : w7_hasLink_wp μ k (J a) (J b) P := by
  intro R hR
  suffices H : (∀ q, q < 0 → ¬ (lf l q = a ∧ lt l q = b)) → R μ (J a) (J b) (J (0 : Nat)) from H (by omega)
  refine down (Q := fun i => (∀ q, q < i → ¬ (lf l q = a ∧ lt l q = b)) → R μ (J a) (J b) (J i)) l.length (fun i hi ih hn => ?_)
  apply hR
  have r := hw.n
  unfold w7_hasLink_b2_body
  rcases Nat.lt_or_ge i l.length with c | c
  · have r1 := hw.r i c
    have ih := ih c
    have nx : ¬ (lf l i = a ∧ lt l i = b) → ∀ q, q < i + 1 → ¬ (lf l q = a ∧ lt l q = b) := fun z q hq => by
      rcases Nat.lt_or_ge q i with y | y
      · exact hn q y
      · rw [show q = i by omega]; exact z
    simp (disch := omega) only [hl.1, hl.fr0, hl.to0, lJ1, lJ0, lJ1, lJ2, lJ3, lJ4, lJ5, lJ6, lJ7, lJ8, lJ9, lJ10, lJ30, lJ32, lJ33, lJ39, lJ40, lJ41, lJ45, lJ47, lJ48, lJ51, lJ55, lJ57, lJ58, lJ59, lJ60, lJ64, lJ80, lJ82, lJ99, lJ100, lJ101, lJ123, lJ126, lJ282, lJ342, lJ1000, lJ1100, lJ2394, lJ2736, lJ9999, lJ10000, lJ1000000, lJ100000000, J_add, J_sub, J_mul, J_neg, J_le, J_lt, J_eq, J_in, J_clamp, Int.toNat_natCast]
    refine ⟨fun _ => by omega, fun _ => ⟨by omega, fun c2 => ih (nx (fun z => c2 z.1)), fun c2 => ⟨by omega, fun c3 => ih (nx (fun z => c3 z.2)), fun c3 => h1 ⟨i, c, c2, c3⟩⟩⟩⟩
  · obtain rfl : i = l.length := by omega
    simp (disch := omega) only [hl.1, lJ0, lJ1, lJ2, lJ3, lJ4, lJ5, lJ6, lJ7, lJ8, lJ9, lJ10, lJ30, lJ32, lJ33, lJ39, lJ40, lJ41, lJ45, lJ47, lJ48, lJ51, lJ55, lJ57, lJ58, lJ59, lJ60, lJ64, lJ80, lJ82, lJ99, lJ100, lJ101, lJ123, lJ126, lJ282, lJ342, lJ1000, lJ1100, lJ2394, lJ2736, lJ9999, lJ10000, lJ1000000, lJ100000000, J_add, J_sub, J_mul, J_neg, J_le, J_lt, J_eq, J_in, J_clamp, Int.toNat_natCast]
    exact ⟨fun _ => h0 (fun ⟨q, z, y⟩ => hn q z y), fun c => absurd (Int.le_refl _) c⟩
theorem duration_spec {μ : Mem} {k n : Nat} {w : View} (hv : SV μ k n w) (hn : n ≤ 40) {z : Int} (hz : 0 ≤ z ∧ z < n) {P : Int32 → Mem → Prop} (h : P (J (w z.toNat 5 - w z.toNat 4)) μ) : w7_duration_wp μ k (J z) P := by
  unfold w7_duration_wp
  simp (disch := omega) only [hv.1, hv.i0, hv.i1, hv.i2, hv.i3, hv.i4, hv.i5, hv.i6, lJ0, lJ1, lJ2, lJ3, lJ4, lJ5, lJ6, lJ7, lJ8, lJ9, lJ10, lJ30, lJ32, lJ33, lJ39, lJ40, lJ41, lJ45, lJ47, lJ48, lJ51, lJ55, lJ57, lJ58, lJ59, lJ60, lJ64, lJ80, lJ82, lJ99, lJ100, lJ101, lJ123, lJ126, lJ282, lJ342, lJ1000, lJ1100, lJ2394, lJ2736, lJ9999, lJ10000, lJ1000000, lJ100000000, J_add, J_sub, J_mul, J_neg, J_le, J_lt, J_eq, J_in, J_clamp, Int.toNat_natCast]
  exact ⟨by omega, by omega, h⟩
/-- the place of the present parent -/
def pp (n : Nat) (w : View) (i : Nat) : Int :=
  if fnd n w (w i 2) = -1 then -1 else if fnd n w (w i 2) = i then -1 else if w (fnd n w (w i 2)).toNat 1 = w i 1 then fnd n w (w i 2) else -1
theorem fndF_some {w : View} {z : Int} : ∀ d i : Nat, fndF w z d i ≠ -1 → i ≤ fndF w z d i ∧ fndF w z d i < i + d ∧ w (fndF w z d i).toNat 0 = z := by
  intro d
  induction d with
  | zero => intro i h; exact absurd rfl h
  | succ d ih =>
    intro i h
    unfold fndF at h ⊢
    by_cases c : w i 0 = z
    · rw [if_pos c]
      exact ⟨by omega, by omega, by rw [Int.toNat_natCast]; exact c⟩
    · rw [if_neg c] at h ⊢
      have := ih (i + 1) h
      exact ⟨by omega, by omega, this.2.2⟩
theorem fnd_some {n : Nat} {w : View} {z : Int} (h : fnd n w z ≠ -1) : 0 ≤ fnd n w z ∧ fnd n w z < n ∧ w (fnd n w z).toNat 0 = z := by
  have := fndF_some n 0 h
  exact ⟨by simpa [fnd] using this.1, by simpa [fnd] using this.2.1, this.2.2⟩
theorem fndF_none {w : View} {z : Int} : ∀ d i : Nat, fndF w z d i = -1 → ∀ j, i ≤ j → j < i + d → w j 0 ≠ z := by
  intro d
  induction d with
  | zero => intro i h j; omega
  | succ d ih =>
    intro i h j h1 h2
    unfold fndF at h
    by_cases c : w i 0 = z
    · rw [if_pos c] at h; omega
    · rw [if_neg c] at h
      rcases Nat.lt_or_ge i j with y | y
      · exact ih (i + 1) h j (by omega) (by omega)
      · rw [show j = i by omega]; exact c
theorem fnd_none {n : Nat} {w : View} {z : Int} (h : fnd n w z = -1) (j : Nat) (hj : j < n) : w j 0 ≠ z := fndF_none n 0 h j (by omega) (by omega)
theorem fnd_rg (n : Nat) (w : View) (z : Int) : -1 ≤ fnd n w z ∧ fnd n w z < n := by
  by_cases h : fnd n w z = -1
  · omega
  · have := fnd_some h; omega
/-- the place of an id that is there -/
theorem fnd_at {n : Nat} {w : View} (hw : WF n w) {i : Nat} (hi : i < n) : fnd n w (w i 0) = i := by
  by_cases h : fnd n w (w i 0) = -1
  · exact absurd rfl (fnd_none h i hi)
  · have := fnd_some h
    have := hw.2.2 _ i (by omega) hi this.2.2
    omega
theorem find_spec' {μ : Mem} {k n : Nat} {w : View} (hv : SV μ k n w) (hw : WF n w) {z : Int} (hz : (-2147483648 ≤ z ∧ z ≤ 2147483647)) {P : Int32 → Mem → Prop} (h : P (J (fnd n w z)) μ) : w7_find_wp μ k (J z) P :=
  find_spec hv.1 hw.1 (fun i hi => ⟨hv.i0 i hi, by have := hw.r i hi; omega, by have := hw.r i hi; omega⟩) hz h
theorem pp_rg (n : Nat) (w : View) (i : Nat) : -1 ≤ pp n w i ∧ pp n w i < n := by
  have := fnd_rg n w (w i 2)
  unfold pp
  split
  · omega
  · split
    · omega
    · split <;> omega
theorem presentParent_spec {μ : Mem} {k n : Nat} {w : View} (hv : SV μ k n w) (hw : WF n w) {i : Nat} (hi : i < n) {P : Int32 → Mem → Prop} (h : P (J (pp n w i)) μ) : w7_presentParent_wp μ k (J i) P := by
  have r := hw.n
  have r1 := hw.r i hi
  have r2 := fnd_rg n w (w i 2)
  unfold w7_presentParent_wp
  simp (disch := omega) only [hv.1, hv.i0, hv.i1, hv.i2, hv.i3, hv.i4, hv.i5, hv.i6, lJ0, lJ1, lJ2, lJ3, lJ4, lJ5, lJ6, lJ7, lJ8, lJ9, lJ10, lJ30, lJ32, lJ33, lJ39, lJ40, lJ41, lJ45, lJ47, lJ48, lJ51, lJ55, lJ57, lJ58, lJ59, lJ60, lJ64, lJ80, lJ82, lJ99, lJ100, lJ101, lJ123, lJ126, lJ282, lJ342, lJ1000, lJ1100, lJ2394, lJ2736, lJ9999, lJ10000, lJ1000000, lJ100000000, J_add, J_sub, J_mul, J_neg, J_le, J_lt, J_eq, J_in, J_clamp, Int.toNat_natCast]
  refine ⟨by omega, ?_⟩
  refine find_spec' hv hw (by omega) ?_
  unfold pp at h
  simp (disch := omega) only [lJ1, lJ0, lJ1, lJ2, lJ3, lJ4, lJ5, lJ6, lJ7, lJ8, lJ9, lJ10, lJ30, lJ32, lJ33, lJ39, lJ40, lJ41, lJ45, lJ47, lJ48, lJ51, lJ55, lJ57, lJ58, lJ59, lJ60, lJ64, lJ80, lJ82, lJ99, lJ100, lJ101, lJ123, lJ126, lJ282, lJ342, lJ1000, lJ1100, lJ2394, lJ2736, lJ9999, lJ10000, lJ1000000, lJ100000000, J_add, J_sub, J_mul, J_neg, J_le, J_lt, J_eq, J_in, J_clamp, Int.toNat_natCast]
  refine ⟨fun c => by simpa [c] using h, fun c => ⟨fun c2 => by simpa [c, c2] using h, fun c2 => ⟨by omega, by omega, ?_⟩⟩⟩
  have r3 := hw.r (fnd n w (w i 2)).toNat (by omega)
  simp (disch := omega) only [hv.1, hv.i0, hv.i1, hv.i2, hv.i3, hv.i4, hv.i5, hv.i6, lJ0, lJ1, lJ2, lJ3, lJ4, lJ5, lJ6, lJ7, lJ8, lJ9, lJ10, lJ30, lJ32, lJ33, lJ39, lJ40, lJ41, lJ45, lJ47, lJ48, lJ51, lJ55, lJ57, lJ58, lJ59, lJ60, lJ64, lJ80, lJ82, lJ99, lJ100, lJ101, lJ123, lJ126, lJ282, lJ342, lJ1000, lJ1100, lJ2394, lJ2736, lJ9999, lJ10000, lJ1000000, lJ100000000, J_add, J_sub, J_mul, J_neg, J_le, J_lt, J_eq, J_in, J_clamp, Int.toNat_natCast]
  exact ⟨fun c3 => by simpa [c, c2, c3] using h, fun c3 => by simpa [c, c2, c3] using h⟩
