-- copies and drops
def FrL (k q : Nat) (μ μ' : Mem) : Prop := ∀ j' k' i', ¬ (k' = k ∧ (j' = 2 ∨ (j' = 512 ∨ j' = 576) ∧ i' = q)) → μ' j' k' i' = μ j' k' i'
theorem FrL.S {k q : Nat} {μ μ' : Mem} (h : FrL k q μ μ') : FrS k μ μ' := fun j' k' i' hh => h j' k' i' (by omega)
theorem FrL.SV {k q n k2 : Nat} {w : View} {μ μ' : Mem} (h : FrL k q μ μ') (hv : SV μ k2 n w) : SV μ' k2 n w := by
  refine ⟨(h _ _ _ (by omega)).trans hv.1, fun i hi c hc => ?_⟩
  have := hv.2 i hi c hc
  match c, hc with
  | 0, _ => exact (h _ _ _ (by omega)).trans this
  | 1, _ => exact (h _ _ _ (by omega)).trans this
  | 2, _ => exact (h _ _ _ (by omega)).trans this
  | 3, _ => exact (h _ _ _ (by omega)).trans this
  | 4, _ => exact (h _ _ _ (by omega)).trans this
  | 5, _ => exact (h _ _ _ (by omega)).trans this
  | 6, _ => exact (h _ _ _ (by omega)).trans this
theorem lf_app {l : Lk} {x : Int × Int} {q : Nat} (h : q < l.length) : lf (l ++ [x]) q = lf l q := by
  unfold lf; simp [List.getD, List.getElem?_append_left h]
theorem lt_app {l : Lk} {x : Int × Int} {q : Nat} (h : q < l.length) : lt (l ++ [x]) q = lt l q := by
  unfold lt; simp [List.getD, List.getElem?_append_left h]
theorem lf_last {l : Lk} {x : Int × Int} : lf (l ++ [x]) l.length = x.1 := by
  unfold lf; simp
theorem lt_last {l : Lk} {x : Int × Int} : lt (l ++ [x]) l.length = x.2 := by
  unfold lt; simp
theorem keepLink_spec {μ : Mem} {k : Nat} {l : Lk} (hl : LV μ k l) (h30 : l.length < 30) {x y : Int32} {a b : Int} (ex : x = J a) (ey : y = J b) {P : Mem → Prop} (h : ∀ μ', FrL k l.length μ μ' → LV μ' k (l ++ [(a, b)]) → P μ') : w7_keepLink_wp μ k x y P := by
  subst ex ey
  unfold w7_keepLink_wp
  have O : vp_in (J (l.length : Int)) 30 := (J_in (by omega)).mpr (by omega)
  have N : (J (l.length : Int)).toNatClampNeg = l.length := J_nat_clamp (by omega)
  refine isWithin_spec l.length 30 hl.1 rfl (by omega) (by decide) (fun _ => ⟨fun c => absurd c (by decide), fun _ => ?_⟩) (fun c => absurd (by omega) c)
  rw [hl.1]
  refine ⟨O, ?_⟩
  rintro _ rfl
  refine ⟨by simp only [up_at]; rw [if_neg (by omega), hl.1]; exact O, ?_⟩
  rintro _ rfl _ rfl
  have e1 : J (l.length : Int) + 1 = J ((l.length : Int) + 1) := J_add _ 1
  simp only [up_at, Nat.reduceEqDiff, reduceCtorEq, false_and, if_false, hl.1, N, e1]
  refine h _ (fun j' k' i' hh => ?_) ⟨by simp [up_at], fun q hq => ?_⟩
  · simp only [up_at]
    repeat rw [if_neg (by omega)]
  · rw [List.length_append] at hq
    simp only [List.length_singleton] at hq
    by_cases e : q = l.length
    · subst e
      simp [up_at, lf_last, lt_last]
    · have := hl.2 q (by omega)
      rw [lf_app (by omega), lt_app (by omega)]
      simpa [up_at, e] using this
/-- the view is that of the first i places -/
theorem take_succ_lf {l : Lk} {q : Nat} (h : q < l.length) : l.take (q + 1) = l.take q ++ [(lf l q, lt l q)] := by
  rw [List.take_succ_eq_append_getElem h, show lf l q = l[q].1 by simp [lf, List.getD, h], show lt l q = l[q].2 by simp [lt, List.getD, h]]
theorem copyFrom_spec {μ : Mem} {k k1 n : Nat} {w : View} {l : Lk} (hk : k1 ≠ k) (hv : SV μ k1 n w) (hl : LV μ k1 l) (hn : n ≤ 40) (hl30 : l.length ≤ 30) (he : ∀ i, i < n → 0 ≤ w i 6 ∧ w i 6 ≤ 1) {P : Mem → Prop} (h : ∀ μ', FrS k μ μ' → SV μ' k n w → LV μ' k l → P μ') : w7_copyFrom_wp μ k k1 P := by
  unfold w7_copyFrom_wp
  rintro μ1 rfl
  intro R hR
  have f1 : FrS k μ (up μ 1 k 0 0) := FrS.up (by omega)
  suffices H : ∀ μ', FrS k μ μ' → SV μ' k (0 : Nat) w → R μ' (J (0 : Nat)) from H _ f1 ⟨by simp [up_at]; rfl, fun i hi => absurd hi (by omega)⟩
  refine down (Q := fun i => ∀ μ', FrS k μ μ' → SV μ' k i w → R μ' (J i)) n (fun i hi ih => ?_)
  intro μ' fr sv
  apply hR
  unfold w7_copyFrom_b7_body
  have hv' := hv.fr fr hk
  have hl' := hl.fr fr hk
  rcases Nat.lt_or_ge i n with c | c
  · have ih := ih c
    simp (disch := omega) only [hv'.1, lJ1, lJ0, lJ1, lJ2, lJ3, lJ4, lJ5, lJ6, lJ7, lJ8, lJ9, lJ10, lJ30, lJ32, lJ33, lJ39, lJ40, lJ41, lJ45, lJ47, lJ48, lJ51, lJ55, lJ57, lJ58, lJ59, lJ60, lJ64, lJ80, lJ82, lJ99, lJ100, lJ101, lJ123, lJ126, lJ282, lJ342, lJ1000, lJ1100, lJ2394, lJ2736, lJ9999, lJ10000, lJ1000000, lJ100000000, J_add, J_sub, J_mul, J_neg, J_le, J_lt, J_eq, J_in, J_clamp, Int.toNat_natCast]
    refine ⟨fun _ => by omega, fun _ => ?_⟩
    refine keepCopy_spec sv (by omega) i (by omega) (w1 := w) (hv'.2 i c) (he i c) rfl (fun μ2 fr2 sv2 lv2 _ => ?_)
    refine ih μ2 (fr.tr fr2) (sv2.cg fun j hj c _ => ?_)
    unfold wset
    by_cases e : j = i
    · rw [if_pos e, e]
    · rw [if_neg e]
  · obtain rfl : i = n := by omega
    simp (disch := omega) only [hv'.1, lJ1, lJ0, lJ1, lJ2, lJ3, lJ4, lJ5, lJ6, lJ7, lJ8, lJ9, lJ10, lJ30, lJ32, lJ33, lJ39, lJ40, lJ41, lJ45, lJ47, lJ48, lJ51, lJ55, lJ57, lJ58, lJ59, lJ60, lJ64, lJ80, lJ82, lJ99, lJ100, lJ101, lJ123, lJ126, lJ282, lJ342, lJ1000, lJ1100, lJ2394, lJ2736, lJ9999, lJ10000, lJ1000000, lJ100000000, J_add, J_sub, J_mul, J_neg, J_le, J_lt, J_eq, J_in, J_clamp, Int.toNat_natCast]
    refine ⟨fun _ => ?_, fun c => absurd (Int.le_refl _) c⟩
    rintro μ2 rfl
    intro R2 hR2
    have f2 : FrL k 0 μ' (up μ' 2 k 0 0) := fun j' k' i' hh => by rw [up_at, if_neg]; omega
    suffices H : ∀ μ'', FrS k μ μ'' → SV μ'' k i w → LV μ'' k (l.take 0) → R2 μ'' (J (0 : Nat)) from H _ (fr.tr f2.S) (f2.SV sv) ⟨by simp [up_at, lJ0], fun q hq => absurd hq (by simp)⟩
    refine down (Q := fun q => ∀ μ'', FrS k μ μ'' → SV μ'' k i w → LV μ'' k (l.take q) → R2 μ'' (J q)) l.length (fun q hq ih2 => ?_)
    intro μ'' fr3 sv3 lv3
    apply hR2
    unfold w7_copyFrom_b34_body
    have hl3 := hl.fr fr3 hk
    rcases Nat.lt_or_ge q l.length with c | c
    · have ih2 := ih2 c
      simp (disch := omega) only [hl3.1, hl3.fr0, hl3.to0, lJ1, lJ0, lJ1, lJ2, lJ3, lJ4, lJ5, lJ6, lJ7, lJ8, lJ9, lJ10, lJ30, lJ32, lJ33, lJ39, lJ40, lJ41, lJ45, lJ47, lJ48, lJ51, lJ55, lJ57, lJ58, lJ59, lJ60, lJ64, lJ80, lJ82, lJ99, lJ100, lJ101, lJ123, lJ126, lJ282, lJ342, lJ1000, lJ1100, lJ2394, lJ2736, lJ9999, lJ10000, lJ1000000, lJ100000000, J_add, J_sub, J_mul, J_neg, J_le, J_lt, J_eq, J_in, J_clamp, Int.toNat_natCast]
      refine ⟨fun _ => by omega, fun _ => ⟨by omega, by omega, ?_⟩⟩
      have ln : (l.take q).length = q := by rw [List.length_take]; omega
      refine keepLink_spec lv3 (by omega) rfl rfl (fun μ4 fr4 lv4 => ?_)
      refine ih2 μ4 (fr3.tr fr4.S) (fr4.SV sv3) ?_
      rw [take_succ_lf c]
      exact lv4
    · obtain rfl : q = l.length := by omega
      simp (disch := omega) only [hl3.1, lJ1, lJ0, lJ1, lJ2, lJ3, lJ4, lJ5, lJ6, lJ7, lJ8, lJ9, lJ10, lJ30, lJ32, lJ33, lJ39, lJ40, lJ41, lJ45, lJ47, lJ48, lJ51, lJ55, lJ57, lJ58, lJ59, lJ60, lJ64, lJ80, lJ82, lJ99, lJ100, lJ101, lJ123, lJ126, lJ282, lJ342, lJ1000, lJ1100, lJ2394, lJ2736, lJ9999, lJ10000, lJ1000000, lJ100000000, J_add, J_sub, J_mul, J_neg, J_le, J_lt, J_eq, J_in, J_clamp, Int.toNat_natCast]
      refine ⟨fun _ => h _ fr3 sv3 ?_, fun c => absurd (Int.le_refl _) c⟩
      rw [List.take_length] at lv3
      exact lv3
theorem dropLinksOf_spec {μ : Mem} {k : Nat} {l : Lk} (hl : LV μ k l) (hw : LW l) {a : Int} (ha : (-2147483648 ≤ a ∧ a ≤ 2147483647)) {P : Mem → Prop} (h : ∀ μ', FrS k μ μ' → (∀ n w, SV μ k n w → SV μ' k n w) → LV μ' k (l.filter (fun p => decide (p.1 ≠ a ∧ p.2 ≠ a))) → P μ') : w7_dropLinksOf_wp μ k (J a) P := by
  unfold w7_dropLinksOf_wp
  rintro μ1 rfl
  intro R hR
  rw [hl.1]
  have f2 : FrL k 0 μ (up μ 2 k 0 0) := fun j' k' i' hh => by rw [up_at, if_neg]; omega
  suffices H : ∀ μ', FrS k μ μ' → (∀ n w, SV μ k n w → SV μ' k n w) → LV μ' k ((l.take 0).filter (fun p => decide (p.1 ≠ a ∧ p.2 ≠ a))) → (∀ q, 0 ≤ q → q < l.length → μ' 512 k q = J (lf l q) ∧ μ' 576 k q = J (lt l q)) → R μ' (J a) (J l.length) (J (0 : Nat)) from H _ f2.S (fun n w sv => f2.SV sv) ⟨by simp [up_at]; rfl, fun q hq => absurd hq (by simp)⟩ (fun q _ hq => by simpa [up_at] using hl.2 q hq)
  refine down (Q := fun e => ∀ μ', FrS k μ μ' → (∀ n w, SV μ k n w → SV μ' k n w) → LV μ' k ((l.take e).filter (fun p => decide (p.1 ≠ a ∧ p.2 ≠ a))) → (∀ q, e ≤ q → q < l.length → μ' 512 k q = J (lf l q) ∧ μ' 576 k q = J (lt l q)) → R μ' (J a) (J l.length) (J e)) l.length (fun e he ih => ?_)
  intro μ' fr sv lv old
  apply hR
  unfold w7_dropLinksOf_b12_body
  have r := hw.n
  rcases Nat.lt_or_ge e l.length with c | c
  · have ih := ih c
    have r1 := hw.r e c
    have o1 := old e (by omega) c
    have e1 : ∀ q : Nat, q = e → μ' 512 k q = J (lf l e) := fun q z => by rw [z]; exact o1.1
    have e2 : ∀ q : Nat, q = e → μ' 576 k q = J (lt l e) := fun q z => by rw [z]; exact o1.2
    have tk := take_succ_lf c
    simp (disch := omega) only [e1, e2, lJ1, lJ0, lJ1, lJ2, lJ3, lJ4, lJ5, lJ6, lJ7, lJ8, lJ9, lJ10, lJ30, lJ32, lJ33, lJ39, lJ40, lJ41, lJ45, lJ47, lJ48, lJ51, lJ55, lJ57, lJ58, lJ59, lJ60, lJ64, lJ80, lJ82, lJ99, lJ100, lJ101, lJ123, lJ126, lJ282, lJ342, lJ1000, lJ1100, lJ2394, lJ2736, lJ9999, lJ10000, lJ1000000, lJ100000000, J_add, J_sub, J_mul, J_neg, J_le, J_lt, J_eq, J_in, J_clamp, Int.toNat_natCast]
    refine ⟨fun _ => by omega, fun _ => ⟨by omega, fun c2 => ?_, fun c2 => ⟨by omega, fun c3 => ?_, fun c3 => ⟨by omega, by omega, ?_⟩⟩⟩⟩
    · exact ih _ fr sv (by rw [tk, List.filter_append]; simpa [c2] using lv) (fun q z => old q (by omega))
    · exact ih _ fr sv (by rw [tk, List.filter_append]; simpa [c2, c3] using lv) (fun q z => old q (by omega))
    · have ln : ((l.take e).filter (fun p => decide (p.1 ≠ a ∧ p.2 ≠ a))).length ≤ e := by
        refine Nat.le_trans (List.length_filter_le _ _) ?_
        rw [List.length_take]; omega
      refine keepLink_spec lv (by omega) rfl rfl (fun μ4 fr4 lv4 => ?_)
      refine ih _ (fr.tr fr4.S) (fun n w z => fr4.SV (sv n w z)) ?_ (fun q z y => ?_)
      · rw [tk, List.filter_append]; simpa [c2, c3] using lv4
      · have := old q (by omega) y
        rw [fr4 _ _ _ (by omega), fr4 _ _ _ (by omega)]
        exact this
  · obtain rfl : e = l.length := by omega
    simp (disch := omega) only [lJ1, lJ0, lJ1, lJ2, lJ3, lJ4, lJ5, lJ6, lJ7, lJ8, lJ9, lJ10, lJ30, lJ32, lJ33, lJ39, lJ40, lJ41, lJ45, lJ47, lJ48, lJ51, lJ55, lJ57, lJ58, lJ59, lJ60, lJ64, lJ80, lJ82, lJ99, lJ100, lJ101, lJ123, lJ126, lJ282, lJ342, lJ1000, lJ1100, lJ2394, lJ2736, lJ9999, lJ10000, lJ1000000, lJ100000000, J_add, J_sub, J_mul, J_neg, J_le, J_lt, J_eq, J_in, J_clamp, Int.toNat_natCast]
    refine ⟨fun _ => h _ fr sv ?_, fun c => absurd (Int.le_refl _) c⟩
    rw [List.take_length] at lv
    exact lv
/-- links without the one at place z -/
theorem dropLink_spec {μ : Mem} {k : Nat} {l : Lk} (hl : LV μ k l) (hw : LW l) {z : Nat} (hz : z < l.length) {P : Mem → Prop} (h : ∀ μ', FrS k μ μ' → (∀ n w, SV μ k n w → SV μ' k n w) → LV μ' k (l.eraseIdx z) → P μ') : w7_dropLink_wp μ k (J z) P := by
  unfold w7_dropLink_wp
  rintro μ1 rfl
  intro R hR
  rw [hl.1]
  have f2 : FrL k 0 μ (up μ 2 k 0 0) := fun j' k' i' hh => by rw [up_at, if_neg]; omega
  suffices H : ∀ μ', FrS k μ μ' → (∀ n w, SV μ k n w → SV μ' k n w) → LV μ' k ((l.take 0).eraseIdx z) → (∀ q, 0 ≤ q → q < l.length → μ' 512 k q = J (lf l q) ∧ μ' 576 k q = J (lt l q)) → R μ' (J z) (J l.length) (J (0 : Nat)) from H _ f2.S (fun n w sv => f2.SV sv) ⟨by simp [up_at]; rfl, fun q hq => absurd hq (by simp)⟩ (fun q _ hq => by simpa [up_at] using hl.2 q hq)
  refine down (Q := fun e => ∀ μ', FrS k μ μ' → (∀ n w, SV μ k n w → SV μ' k n w) → LV μ' k ((l.take e).eraseIdx z) → (∀ q, e ≤ q → q < l.length → μ' 512 k q = J (lf l q) ∧ μ' 576 k q = J (lt l q)) → R μ' (J z) (J l.length) (J e)) l.length (fun e he ih => ?_)
  intro μ' fr sv lv old
  apply hR
  unfold w7_dropLink_b12_body
  have r := hw.n
  rcases Nat.lt_or_ge e l.length with c | c
  · have ih := ih c
    have r1 := hw.r e c
    have o1 := old e (by omega) c
    have e1 : ∀ q : Nat, q = e → μ' 512 k q = J (lf l e) := fun q z => by rw [z]; exact o1.1
    have e2 : ∀ q : Nat, q = e → μ' 576 k q = J (lt l e) := fun q z => by rw [z]; exact o1.2
    have tk := take_succ_lf c
    have ln : (l.take e).length = e := by rw [List.length_take]; omega
    simp (disch := omega) only [e1, e2, lJ1, lJ0, lJ1, lJ2, lJ3, lJ4, lJ5, lJ6, lJ7, lJ8, lJ9, lJ10, lJ30, lJ32, lJ33, lJ39, lJ40, lJ41, lJ45, lJ47, lJ48, lJ51, lJ55, lJ57, lJ58, lJ59, lJ60, lJ64, lJ80, lJ82, lJ99, lJ100, lJ101, lJ123, lJ126, lJ282, lJ342, lJ1000, lJ1100, lJ2394, lJ2736, lJ9999, lJ10000, lJ1000000, lJ100000000, J_add, J_sub, J_mul, J_neg, J_le, J_lt, J_eq, J_in, J_clamp, Int.toNat_natCast]
    refine ⟨fun _ => by omega, fun _ => ⟨fun c2 => ?_, fun c2 => ⟨by omega, by omega, ?_⟩⟩⟩
    · refine ih _ fr sv ?_ (fun q z => old q (by omega))
      rw [tk, List.eraseIdx_append_of_length_le (by omega), ln, show z - e = 0 by omega]
      rw [List.eraseIdx_of_length_le (by omega)] at lv
      simpa using lv
    · have le : ((l.take e).eraseIdx z).length ≤ e := by
        refine Nat.le_trans (List.length_eraseIdx_le _ _) (by omega)
      refine keepLink_spec lv (by omega) rfl rfl (fun μ4 fr4 lv4 => ?_)
      refine ih _ (fr.tr fr4.S) (fun n w z => fr4.SV (sv n w z)) ?_ (fun q z y => ?_)
      · rw [tk]
        rcases Nat.lt_or_ge z e with y | y
        · rw [List.eraseIdx_append_of_lt_length (by omega)]; exact lv4
        · rw [List.eraseIdx_append_of_length_le (by omega), List.eraseIdx_of_length_le (by simp; omega)]
          rw [List.eraseIdx_of_length_le (by omega)] at lv4
          exact lv4
      · have := old q (by omega) y
        rw [fr4 _ _ _ (by omega), fr4 _ _ _ (by omega)]
        exact this
  · obtain rfl : e = l.length := by omega
    simp (disch := omega) only [lJ1, lJ0, lJ1, lJ2, lJ3, lJ4, lJ5, lJ6, lJ7, lJ8, lJ9, lJ10, lJ30, lJ32, lJ33, lJ39, lJ40, lJ41, lJ45, lJ47, lJ48, lJ51, lJ55, lJ57, lJ58, lJ59, lJ60, lJ64, lJ80, lJ82, lJ99, lJ100, lJ101, lJ123, lJ126, lJ282, lJ342, lJ1000, lJ1100, lJ2394, lJ2736, lJ9999, lJ10000, lJ1000000, lJ100000000, J_add, J_sub, J_mul, J_neg, J_le, J_lt, J_eq, J_in, J_clamp, Int.toNat_natCast]
    refine ⟨fun _ => h _ fr sv ?_, fun c => absurd (Int.le_refl _) c⟩
    rw [List.take_length] at lv
    exact lv
/-- the spans without the one at place i -/
def wdel (w : View) (i : Nat) : View := fun j => if j < i then w j else w (j + 1)
theorem drop_spec {μ : Mem} {k n : Nat} {w : View} {l : Lk} (hv : SV μ k n w) (hw : WF n w) (hl : LV μ k l) (hlw : LW l) {i : Nat} (hi : i < n) {P : Mem → Prop} (h : ∀ μ', FrS k μ μ' → SV μ' k (n - 1) (wdel w i) → LV μ' k (l.filter (fun p => decide (p.1 ≠ w i 0 ∧ p.2 ≠ w i 0))) → P μ') : w7_drop_wp μ k (J i) P := by
  have r := hw.n
  have r1 := hw.r i hi
  unfold w7_drop_wp
  refine isWithin_spec i n rfl hv.1 (by omega) (by omega) (fun _ => ⟨fun _ => ?_, fun c => absurd c (by decide)⟩) (fun c => absurd (by omega) c)
  simp (disch := omega) only [hv.1, hv.i0, hv.i1, hv.i2, hv.i3, hv.i4, hv.i5, hv.i6, lJ1, lJ0, lJ1, lJ2, lJ3, lJ4, lJ5, lJ6, lJ7, lJ8, lJ9, lJ10, lJ30, lJ32, lJ33, lJ39, lJ40, lJ41, lJ45, lJ47, lJ48, lJ51, lJ55, lJ57, lJ58, lJ59, lJ60, lJ64, lJ80, lJ82, lJ99, lJ100, lJ101, lJ123, lJ126, lJ282, lJ342, lJ1000, lJ1100, lJ2394, lJ2736, lJ9999, lJ10000, lJ1000000, lJ100000000, J_add, J_sub, J_mul, J_neg, J_le, J_lt, J_eq, J_in, J_clamp, Int.toNat_natCast]
  refine ⟨by omega, ?_⟩
  refine dropLinksOf_spec hl hlw (by omega) (fun μ1 fr1 sv1 lv1 => ?_)
  rintro μ2 rfl
  have hv1 := sv1 _ _ hv
  rw [hv1.1]
  intro R hR
  have f2 : FrS k μ1 (up μ1 1 k 0 (J i)) := FrS.up (by omega)
  suffices H : ∀ d e, e + d = n → i < e → ∀ μ', FrS k μ μ' → SV μ' k (e - 1) (wdel w i) → LV μ' k (l.filter (fun p => decide (p.1 ≠ w i 0 ∧ p.2 ≠ w i 0))) → (∀ j, e ≤ j → j < n → ∀ c, c < 7 → sA μ' k c j = J (w j c)) → R μ' (J n) (J e) by
    refine H (n - (i + 1)) (i + 1) (by omega) (by omega) _ (fr1.tr f2) ⟨by simp [up_at], fun j hj c hc => ?_⟩ ⟨by simpa [up_at] using lv1.1, fun q hq => by simpa [up_at] using lv1.2 q hq⟩ (fun j _ hj c hc => ?_)
    · have := hv1.2 j (by omega) c hc
      unfold wdel
      rw [if_pos (by omega)]
      match c, hc with
      | 0, _ => simpa [sA, up_at] using this
      | 1, _ => simpa [sA, up_at] using this
      | 2, _ => simpa [sA, up_at] using this
      | 3, _ => simpa [sA, up_at] using this
      | 4, _ => simpa [sA, up_at] using this
      | 5, _ => simpa [sA, up_at] using this
      | 6, _ => simpa [sA, up_at] using this
    · have := hv1.2 j (by omega) c hc
      match c, hc with
      | 0, _ => simpa [sA, up_at] using this
      | 1, _ => simpa [sA, up_at] using this
      | 2, _ => simpa [sA, up_at] using this
      | 3, _ => simpa [sA, up_at] using this
      | 4, _ => simpa [sA, up_at] using this
      | 5, _ => simpa [sA, up_at] using this
      | 6, _ => simpa [sA, up_at] using this
  intro d
  induction d with
  | zero =>
    intro e he hie μ' fr sv lv old
    apply hR
    unfold w7_drop_b38_body
    obtain rfl : e = n := by omega
    simp (disch := omega) only [lJ0, lJ1, lJ2, lJ3, lJ4, lJ5, lJ6, lJ7, lJ8, lJ9, lJ10, lJ30, lJ32, lJ33, lJ39, lJ40, lJ41, lJ45, lJ47, lJ48, lJ51, lJ55, lJ57, lJ58, lJ59, lJ60, lJ64, lJ80, lJ82, lJ99, lJ100, lJ101, lJ123, lJ126, lJ282, lJ342, lJ1000, lJ1100, lJ2394, lJ2736, lJ9999, lJ10000, lJ1000000, lJ100000000, J_add, J_sub, J_mul, J_neg, J_le, J_lt, J_eq, J_in, J_clamp, Int.toNat_natCast]
    exact ⟨fun _ => h _ fr sv lv, fun c => absurd (Int.le_refl _) c⟩
  | succ d ih =>
    intro e he hie μ' fr sv lv old
    apply hR
    unfold w7_drop_b38_body
    simp (disch := omega) only [lJ1, lJ0, lJ1, lJ2, lJ3, lJ4, lJ5, lJ6, lJ7, lJ8, lJ9, lJ10, lJ30, lJ32, lJ33, lJ39, lJ40, lJ41, lJ45, lJ47, lJ48, lJ51, lJ55, lJ57, lJ58, lJ59, lJ60, lJ64, lJ80, lJ82, lJ99, lJ100, lJ101, lJ123, lJ126, lJ282, lJ342, lJ1000, lJ1100, lJ2394, lJ2736, lJ9999, lJ10000, lJ1000000, lJ100000000, J_add, J_sub, J_mul, J_neg, J_le, J_lt, J_eq, J_in, J_clamp, Int.toNat_natCast]
    refine ⟨fun _ => by omega, fun _ => ?_⟩
    refine keepCopy_spec sv (by omega) e (by omega) (w1 := w) (old e (by omega) (by omega)) (by have := hw.r e (by omega); omega) rfl (fun μ3 fr3 sv3 lv3 sm => ?_)
    refine ih (e + 1) (by omega) (by omega) μ3 (fr.tr fr3) ?_ (lv3 _ lv) (fun j h1 h2 c hc => by rw [sm c j (by omega)]; exact old j (by omega) h2 c hc)
    rw [show e + 1 - 1 = e - 1 + 1 by omega]
    refine sv3.cg fun j hj c _ => ?_
    unfold wset wdel
    by_cases y : j = e - 1
    · rw [if_pos y, if_neg (by omega), y, show e - 1 + 1 = e by omega]
    · rw [if_neg y]
