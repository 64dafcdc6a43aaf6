-- calls on the trees: the class
def mnb (n : Nat) (w : View) (x : Int) : Nat → Int := it (fun i l => if ab n w i = x ∧ bgn n w i < l then bgn n w i else l) 1000000
def mxe (n : Nat) (w : View) (x : Int) : Nat → Int := it (fun i l => if ab n w i = x ∧ l < enn n w i then enn n w i else l) (-1000000)
theorem mnb_succ (n : Nat) (w : View) (x : Int) (m : Nat) : mnb n w x (m + 1) = if ab n w m = x ∧ bgn n w m < mnb n w x m then bgn n w m else mnb n w x m := rfl
theorem mxe_succ (n : Nat) (w : View) (x : Int) (m : Nat) : mxe n w x (m + 1) = if ab n w m = x ∧ mxe n w x m < enn n w m then enn n w m else mxe n w x m := rfl
def nbg (n : Nat) (w : View) (x : Int) : Int := if x < 40 then bgn n w x.toNat else mnb n w x n
def nen (n : Nat) (w : View) (x : Int) : Int := if x < 40 then enn n w x.toNat else mxe n w x n
theorem mnb_rg {n : Nat} {w : View} (hw : WF n w) (x : Int) : ∀ m, m ≤ n → (mnb n w x m = 1000000 ∨ (-489951 ≤ mnb n w x m ∧ mnb n w x m ≤ 499950)) ∧ ∀ i, i < m → ab n w i = x → mnb n w x m ≤ bgn n w i := by
  intro m
  induction m with
  | zero => intro _; exact ⟨Or.inl rfl, fun i hi => by omega⟩
  | succ m ih =>
    intro hm
    obtain ⟨h1, h2⟩ := ih (by omega)
    have b := be_rg hw (i := m) (by omega)
    rw [mnb_succ]
    refine ⟨by split <;> omega, fun i hi ha => ?_⟩
    by_cases y : i = m
    · subst y
      by_cases z : bgn n w i < mnb n w x i
      · rw [if_pos ⟨ha, z⟩]; exact Int.le_refl _
      · rw [if_neg (fun q => z q.2)]; omega
    · have := h2 i (by omega) ha
      split <;> omega
theorem mxe_rg {n : Nat} {w : View} (hw : WF n w) (x : Int) : ∀ m, m ≤ n → (mxe n w x m = -1000000 ∨ (-489951 ≤ mxe n w x m ∧ mxe n w x m ≤ 499950)) ∧ ∀ i, i < m → ab n w i = x → enn n w i ≤ mxe n w x m := by
  intro m
  induction m with
  | zero => intro _; exact ⟨Or.inl rfl, fun i hi => by omega⟩
  | succ m ih =>
    intro hm
    obtain ⟨h1, h2⟩ := ih (by omega)
    have b := be_rg hw (i := m) (by omega)
    rw [mxe_succ]
    refine ⟨by split <;> omega, fun i hi ha => ?_⟩
    by_cases y : i = m
    · subst y
      by_cases z : mxe n w x i < enn n w i
      · rw [if_pos ⟨ha, z⟩]; exact Int.le_refl _
      · rw [if_neg (fun q => z q.2)]; omega
    · have := h2 i (by omega) ha
      split <;> omega
theorem nd_cs {n : Nat} {w : View} (hw : WF n w) {t q : Int} (h : nd n w t q ≠ -1) : (fnd n w q ≠ -1 ∧ nd n w t q = fnd n w q ∧ 0 ≤ fnd n w q ∧ fnd n w q < n) ∨ (fnd n w q = -1 ∧ 40 ≤ nd n w t q ∧ 1000 ≤ q) := by
  have rn := hw.n
  have r2 := hfn_rg (hl n w n) t (q - 1000)
  by_cases c : fnd n w q = -1
  · refine Or.inr ⟨c, ?_⟩
    unfold nd at h ⊢
    by_cases c2 : q < 1000
    · rw [if_pos c2, if_pos c] at h; exact absurd rfl h
    · rw [if_neg c2] at h ⊢
      by_cases c3 : q < 1100
      · rw [if_pos c3] at h ⊢
        by_cases c4 : hfn (hl n w n) t (q - 1000) = -1
        · rw [if_pos c4] at h; exact absurd rfl h
        · rw [if_neg c4]; omega
      · rw [if_neg c3] at h; exact absurd rfl h
  · have y := fnd_some c
    have r := hw.r (fnd n w q).toNat (by omega)
    refine Or.inl ⟨c, ?_, y.1, y.2.1⟩
    unfold nd at h ⊢
    rw [if_pos (by omega), if_neg c] at h ⊢
    by_cases c3 : w (fnd n w q).toNat 1 = t
    · rw [if_pos c3]
    · rw [if_neg c3] at h; exact absurd rfl h
theorem c_nodeBegin_spec {S : GS} {μ : Mem} (k : CK S μ) (g : GOK S) {t q : Int} (ht : (-2147483648 ≤ t ∧ t ≤ 2147483647)) (hq : (-2147483648 ≤ q ∧ q ≤ 2147483647)) (hn : nd (S.1.1) (S.1.2.1) t q ≠ -1) {P : Int32 → Mem → Prop} (h : P (J (nbg (S.1.1) (S.1.2.1) (nd (S.1.1) (S.1.2.1) t q))) μ) : w2_nodeBegin_wp μ (J t) (J q) P := by
  have s1 : SV μ 0 (S.1.1) (S.1.2.1) := k.1.1.1.1
  have rn := g.1.n
  have rf := fnd_rg (S.1.1) (S.1.2.1) q
  unfold w2_nodeBegin_wp
  refine find_spec' s1 g.w hq ?_
  unfold nbg at h
  rcases nd_cs g.w hn with ⟨c1, c2, c3, c4⟩ | ⟨c1, c2, c3⟩
  · have e := (k.2.2.1 ((fnd S.1.1 S.1.2.1 q)).toNat (by omega)).1
    rw [c2, if_pos (by omega)] at h
    simp (disch := omega) only [lJ0, lJ1, lJ2, lJ3, lJ4, lJ5, lJ6, lJ7, lJ8, lJ9, lJ10, lJ30, lJ32, lJ33, lJ39, lJ40, lJ41, lJ45, lJ47, lJ48, lJ51, lJ55, lJ57, lJ58, lJ59, lJ60, lJ64, lJ80, lJ82, lJ99, lJ100, lJ101, lJ123, lJ126, lJ282, lJ342, lJ1000, lJ1100, lJ2394, lJ2736, lJ9999, lJ10000, lJ1000000, lJ100000000, J_add, J_sub, J_mul, J_neg, J_le, J_lt, J_eq, J_in, J_clamp, Int.toNat_natCast, e]
    exact ⟨fun c => absurd c c1, fun _ => ⟨by omega, h⟩⟩
  · rw [if_neg (by omega)] at h
    simp (disch := omega) only [lJ0, lJ1, lJ2, lJ3, lJ4, lJ5, lJ6, lJ7, lJ8, lJ9, lJ10, lJ30, lJ32, lJ33, lJ39, lJ40, lJ41, lJ45, lJ47, lJ48, lJ51, lJ55, lJ57, lJ58, lJ59, lJ60, lJ64, lJ80, lJ82, lJ99, lJ100, lJ101, lJ123, lJ126, lJ282, lJ342, lJ1000, lJ1100, lJ2394, lJ2736, lJ9999, lJ10000, lJ1000000, lJ100000000, J_add, J_sub, J_mul, J_neg, J_le, J_lt, J_eq, J_in, J_clamp, Int.toNat_natCast]
    refine ⟨fun _ => ?_, fun c => absurd c1 c⟩
    intro R hR
    refine down (Q := fun i => R μ (J t) (J q) (J (mnb (S.1.1) (S.1.2.1) (nd (S.1.1) (S.1.2.1) t q) i)) (J i)) (S.1.1) (fun i hi ih => ?_)
    apply hR
    unfold w2_nodeBegin_b30_body
    have r := (mnb_rg g.w (nd (S.1.1) (S.1.2.1) t q) i hi).1
    rcases Nat.lt_or_ge i (S.1.1) with c | c
    · have ih := ih c
      have e := (k.2.2.1 i c).1
      have b := be_rg g.w c
      simp (disch := omega) only [lJ0, lJ1, lJ2, lJ3, lJ4, lJ5, lJ6, lJ7, lJ8, lJ9, lJ10, lJ30, lJ32, lJ33, lJ39, lJ40, lJ41, lJ45, lJ47, lJ48, lJ51, lJ55, lJ57, lJ58, lJ59, lJ60, lJ64, lJ80, lJ82, lJ99, lJ100, lJ101, lJ123, lJ126, lJ282, lJ342, lJ1000, lJ1100, lJ2394, lJ2736, lJ9999, lJ10000, lJ1000000, lJ100000000, J_add, J_sub, J_mul, J_neg, J_le, J_lt, J_eq, J_in, J_clamp, Int.toNat_natCast, s1.1, s1.i0, s1.i1, s1.i2, s1.i3, s1.i4, s1.i5, s1.i6]
      refine ⟨fun _ => by omega, fun _ => ?_⟩
      rw [mnb_succ] at ih
      refine c_isChild_spec k g c ht hq rfl (fun c5 => ⟨fun c => absurd c (by decide), fun _ => ⟨by omega, ?_⟩⟩) (fun c5 => ⟨fun _ => ?_, fun c => absurd rfl c⟩)
      · have c6 := (nd_ch g.w hn c).mp c5
        simp (disch := omega) only [lJ0, lJ1, lJ2, lJ3, lJ4, lJ5, lJ6, lJ7, lJ8, lJ9, lJ10, lJ30, lJ32, lJ33, lJ39, lJ40, lJ41, lJ45, lJ47, lJ48, lJ51, lJ55, lJ57, lJ58, lJ59, lJ60, lJ64, lJ80, lJ82, lJ99, lJ100, lJ101, lJ123, lJ126, lJ282, lJ342, lJ1000, lJ1100, lJ2394, lJ2736, lJ9999, lJ10000, lJ1000000, lJ100000000, J_add, J_sub, J_mul, J_neg, J_le, J_lt, J_eq, J_in, J_clamp, Int.toNat_natCast, e]
        by_cases z : bgn (S.1.1) (S.1.2.1) i < mnb (S.1.1) (S.1.2.1) (nd (S.1.1) (S.1.2.1) t q) i
        · rw [if_pos ⟨c6, z⟩] at ih
          rw [if_pos z]
          exact ih
        · rw [if_neg (fun y => z y.2)] at ih
          rw [if_neg z]
          exact ih
      · have c6 : ¬ ab (S.1.1) (S.1.2.1) i = nd (S.1.1) (S.1.2.1) t q := fun z => c5 ((nd_ch g.w hn c).mpr z)
        rw [if_neg (fun y => c6 y.1)] at ih
        exact ih
    · have e9 : i = S.1.1 := by omega
      subst e9
      simp (disch := omega) only [lJ0, lJ1, lJ2, lJ3, lJ4, lJ5, lJ6, lJ7, lJ8, lJ9, lJ10, lJ30, lJ32, lJ33, lJ39, lJ40, lJ41, lJ45, lJ47, lJ48, lJ51, lJ55, lJ57, lJ58, lJ59, lJ60, lJ64, lJ80, lJ82, lJ99, lJ100, lJ101, lJ123, lJ126, lJ282, lJ342, lJ1000, lJ1100, lJ2394, lJ2736, lJ9999, lJ10000, lJ1000000, lJ100000000, J_add, J_sub, J_mul, J_neg, J_le, J_lt, J_eq, J_in, J_clamp, Int.toNat_natCast, s1.1, s1.i0, s1.i1, s1.i2, s1.i3, s1.i4, s1.i5, s1.i6]
      exact ⟨fun _ => h, fun c => absurd (Int.le_refl _) c⟩
theorem c_nodeEnd_spec {S : GS} {μ : Mem} (k : CK S μ) (g : GOK S) {t q : Int} (ht : (-2147483648 ≤ t ∧ t ≤ 2147483647)) (hq : (-2147483648 ≤ q ∧ q ≤ 2147483647)) (hn : nd (S.1.1) (S.1.2.1) t q ≠ -1) {P : Int32 → Mem → Prop} (h : P (J (nen (S.1.1) (S.1.2.1) (nd (S.1.1) (S.1.2.1) t q))) μ) : w2_nodeEnd_wp μ (J t) (J q) P := by
  have s1 : SV μ 0 (S.1.1) (S.1.2.1) := k.1.1.1.1
  have rn := g.1.n
  have rf := fnd_rg (S.1.1) (S.1.2.1) q
  unfold w2_nodeEnd_wp
  refine find_spec' s1 g.w hq ?_
  unfold nen at h
  rcases nd_cs g.w hn with ⟨c1, c2, c3, c4⟩ | ⟨c1, c2, c3⟩
  · have e := (k.2.2.1 ((fnd S.1.1 S.1.2.1 q)).toNat (by omega)).2.1
    rw [c2, if_pos (by omega)] at h
    simp (disch := omega) only [lJ0, lJ1, lJ2, lJ3, lJ4, lJ5, lJ6, lJ7, lJ8, lJ9, lJ10, lJ30, lJ32, lJ33, lJ39, lJ40, lJ41, lJ45, lJ47, lJ48, lJ51, lJ55, lJ57, lJ58, lJ59, lJ60, lJ64, lJ80, lJ82, lJ99, lJ100, lJ101, lJ123, lJ126, lJ282, lJ342, lJ1000, lJ1100, lJ2394, lJ2736, lJ9999, lJ10000, lJ1000000, lJ100000000, J_add, J_sub, J_mul, J_neg, J_le, J_lt, J_eq, J_in, J_clamp, Int.toNat_natCast, e]
    exact ⟨fun c => absurd c c1, fun _ => ⟨by omega, h⟩⟩
  · rw [if_neg (by omega)] at h
    simp (disch := omega) only [lJ0, lJ1, lJ2, lJ3, lJ4, lJ5, lJ6, lJ7, lJ8, lJ9, lJ10, lJ30, lJ32, lJ33, lJ39, lJ40, lJ41, lJ45, lJ47, lJ48, lJ51, lJ55, lJ57, lJ58, lJ59, lJ60, lJ64, lJ80, lJ82, lJ99, lJ100, lJ101, lJ123, lJ126, lJ282, lJ342, lJ1000, lJ1100, lJ2394, lJ2736, lJ9999, lJ10000, lJ1000000, lJ100000000, J_add, J_sub, J_mul, J_neg, J_le, J_lt, J_eq, J_in, J_clamp, Int.toNat_natCast]
    refine ⟨fun _ => ?_, fun c => absurd c1 c⟩
    intro R hR
    refine down (Q := fun i => R μ (J t) (J q) (J (mxe (S.1.1) (S.1.2.1) (nd (S.1.1) (S.1.2.1) t q) i)) (J i)) (S.1.1) (fun i hi ih => ?_)
    apply hR
    unfold w2_nodeEnd_b30_body
    have r := (mxe_rg g.w (nd (S.1.1) (S.1.2.1) t q) i hi).1
    rcases Nat.lt_or_ge i (S.1.1) with c | c
    · have ih := ih c
      have e := (k.2.2.1 i c).2.1
      have b := be_rg g.w c
      simp (disch := omega) only [lJ0, lJ1, lJ2, lJ3, lJ4, lJ5, lJ6, lJ7, lJ8, lJ9, lJ10, lJ30, lJ32, lJ33, lJ39, lJ40, lJ41, lJ45, lJ47, lJ48, lJ51, lJ55, lJ57, lJ58, lJ59, lJ60, lJ64, lJ80, lJ82, lJ99, lJ100, lJ101, lJ123, lJ126, lJ282, lJ342, lJ1000, lJ1100, lJ2394, lJ2736, lJ9999, lJ10000, lJ1000000, lJ100000000, J_add, J_sub, J_mul, J_neg, J_le, J_lt, J_eq, J_in, J_clamp, Int.toNat_natCast, s1.1, s1.i0, s1.i1, s1.i2, s1.i3, s1.i4, s1.i5, s1.i6]
      refine ⟨fun _ => by omega, fun _ => ?_⟩
      rw [mxe_succ] at ih
      refine c_isChild_spec k g c ht hq rfl (fun c5 => ⟨fun c => absurd c (by decide), fun _ => ⟨by omega, ?_⟩⟩) (fun c5 => ⟨fun _ => ?_, fun c => absurd rfl c⟩)
      · have c6 := (nd_ch g.w hn c).mp c5
        simp (disch := omega) only [lJ0, lJ1, lJ2, lJ3, lJ4, lJ5, lJ6, lJ7, lJ8, lJ9, lJ10, lJ30, lJ32, lJ33, lJ39, lJ40, lJ41, lJ45, lJ47, lJ48, lJ51, lJ55, lJ57, lJ58, lJ59, lJ60, lJ64, lJ80, lJ82, lJ99, lJ100, lJ101, lJ123, lJ126, lJ282, lJ342, lJ1000, lJ1100, lJ2394, lJ2736, lJ9999, lJ10000, lJ1000000, lJ100000000, J_add, J_sub, J_mul, J_neg, J_le, J_lt, J_eq, J_in, J_clamp, Int.toNat_natCast, e]
        by_cases z : mxe (S.1.1) (S.1.2.1) (nd (S.1.1) (S.1.2.1) t q) i < enn (S.1.1) (S.1.2.1) i
        · rw [if_pos ⟨c6, z⟩] at ih
          rw [if_pos z]
          exact ih
        · rw [if_neg (fun y => z y.2)] at ih
          rw [if_neg z]
          exact ih
      · have c6 : ¬ ab (S.1.1) (S.1.2.1) i = nd (S.1.1) (S.1.2.1) t q := fun z => c5 ((nd_ch g.w hn c).mpr z)
        rw [if_neg (fun y => c6 y.1)] at ih
        exact ih
    · have e9 : i = S.1.1 := by omega
      subst e9
      simp (disch := omega) only [lJ0, lJ1, lJ2, lJ3, lJ4, lJ5, lJ6, lJ7, lJ8, lJ9, lJ10, lJ30, lJ32, lJ33, lJ39, lJ40, lJ41, lJ45, lJ47, lJ48, lJ51, lJ55, lJ57, lJ58, lJ59, lJ60, lJ64, lJ80, lJ82, lJ99, lJ100, lJ101, lJ123, lJ126, lJ282, lJ342, lJ1000, lJ1100, lJ2394, lJ2736, lJ9999, lJ10000, lJ1000000, lJ100000000, J_add, J_sub, J_mul, J_neg, J_le, J_lt, J_eq, J_in, J_clamp, Int.toNat_natCast, s1.1, s1.i0, s1.i1, s1.i2, s1.i3, s1.i4, s1.i5, s1.i6]
      exact ⟨fun _ => h, fun c => absurd (Int.le_refl _) c⟩
def op_root (S : GS) (z : Int) : OpR Int := if (fnd S.1.1 S.1.2.1 z) = -1 then thw S xIO 1 else ok S (rno (S.1.1) (S.1.2.1) ((fnd S.1.1 S.1.2.1 z)).toNat)
def op_depth (S : GS) (z : Int) : OpR Int := if (fnd S.1.1 S.1.2.1 z) = -1 then thw S xIO 1 else ok S (dpx (S.1.1) (S.1.2.1) ((fnd S.1.1 S.1.2.1 z)).toNat)
def op_below (S : GS) (t q : Int) : OpR Int := if 0 ≤ t ∧ t < 4 then (if nd (S.1.1) (S.1.2.1) t q = -1 then thw S xNE 2 else ok S (cnt (fun i => bl (S.1.1) (S.1.2.1) (nd (S.1.1) (S.1.2.1) t q) i = true) (S.1.1))) else thw S xIO 1
def op_childCount (S : GS) (t q : Int) : OpR Int := if 0 ≤ t ∧ t < 4 then (if nd (S.1.1) (S.1.2.1) t q = -1 then thw S xNE 2 else ok S (cnt (fun i => ab (S.1.1) (S.1.2.1) i = nd (S.1.1) (S.1.2.1) t q) (S.1.1))) else thw S xIO 1
abbrev chO (S : GS) (t q k : Int) : Int := nthe (S.1.1) (S.1.2.1) (fun i => ab (S.1.1) (S.1.2.1) i = nd (S.1.1) (S.1.2.1) t q) k (S.1.1) 0
def op_child (S : GS) (t q k : Int) : OpR Int := if 0 ≤ t ∧ t < 4 then (if nd (S.1.1) (S.1.2.1) t q = -1 then thw S xNE 2 else if chO S t q k = -1 then thw S xNE 2 else ok S (S.1.2.1 (chO S t q k).toNat 0)) else thw S xIO 1
def op_missing (S : GS) (t q f : Int) : OpR Int := if 0 ≤ t ∧ t < 4 then (if 1000 ≤ q ∧ nd (S.1.1) (S.1.2.1) t q ≠ -1 then ok S (if f = 0 then nbg (S.1.1) (S.1.2.1) (nd (S.1.1) (S.1.2.1) t q) else nen (S.1.1) (S.1.2.1) (nd (S.1.1) (S.1.2.1) t q)) else thw S xNE 2) else thw S xIO 1
theorem c_root {S : GS} {μ : Mem} (hc : CI S μ) (g : GOK S) {z : Int} (hz : (-2147483648 ≤ z ∧ z ≤ 2147483647)) {P : Int32 → Mem → Prop} {X : String → Mem → Prop} (h : CRes J (op_root S z) μ P X) : w8_root_wp μ (J z) P X := by
  unfold op_root at h
  unfold w8_root_wp
  refine placeOf_spec hc.1.1 g hz (fun c => by rw [if_pos c] at h; exact h μ FrC.rf hc) (fun i hi ei ez => ?_)
  rw [if_neg (by omega), ei, Int.toNat_natCast] at h
  exact workOut_spec2 hc g (fun μ' f k => c_rootNumber_spec k g hi rfl (h μ' f k.1))
theorem c_depth {S : GS} {μ : Mem} (hc : CI S μ) (g : GOK S) {z : Int} (hz : (-2147483648 ≤ z ∧ z ≤ 2147483647)) {P : Int32 → Mem → Prop} {X : String → Mem → Prop} (h : CRes J (op_depth S z) μ P X) : w8_depth_wp μ (J z) P X := by
  unfold op_depth at h
  unfold w8_depth_wp
  refine placeOf_spec hc.1.1 g hz (fun c => by rw [if_pos c] at h; exact h μ FrC.rf hc) (fun i hi ei ez => ?_)
  rw [if_neg (by omega), ei, Int.toNat_natCast] at h
  exact workOut_spec2 hc g (fun μ' f k => c_nodesAbove_spec k g hi (h μ' f k.1))
theorem c_below {S : GS} {μ : Mem} (hc : CI S μ) (g : GOK S) {t q : Int} (ht : (-2147483648 ≤ t ∧ t ≤ 2147483647)) (hq : (-2147483648 ≤ q ∧ q ≤ 2147483647)) {P : Int32 → Mem → Prop} {X : String → Mem → Prop} (h : CRes J (op_below S t q) μ P X) : w8_below_wp μ (J t) (J q) P X := by
  unfold op_below at h
  unfold w8_below_wp
  refine findNode_spec hc g ht hq (fun c => by rw [if_neg c] at h; exact h μ FrC.rf hc) (fun c c2 μ' f k => by rw [if_pos c, if_pos c2] at h; exact h μ' f k.1) (fun c c2 μ' f k => ?_)
  rw [if_pos c, if_neg c2] at h
  exact c_spansBelow_spec k g ht hq c2 (h μ' f k.1)
theorem c_childCount {S : GS} {μ : Mem} (hc : CI S μ) (g : GOK S) {t q : Int} (ht : (-2147483648 ≤ t ∧ t ≤ 2147483647)) (hq : (-2147483648 ≤ q ∧ q ≤ 2147483647)) {P : Int32 → Mem → Prop} {X : String → Mem → Prop} (h : CRes J (op_childCount S t q) μ P X) : w8_childCount_wp μ (J t) (J q) P X := by
  unfold op_childCount at h
  unfold w8_childCount_wp
  refine findNode_spec hc g ht hq (fun c => by rw [if_neg c] at h; exact h μ FrC.rf hc) (fun c c2 μ' f k => by rw [if_pos c, if_pos c2] at h; exact h μ' f k.1) (fun c c2 μ' f k => ?_)
  rw [if_pos c, if_neg c2] at h
  refine c_children_spec k g ht hq ?_
  rw [cnt_cg (fun i hi => nd_ch g.w c2 hi)]
  exact h μ' f k.1
theorem c_child {S : GS} {μ : Mem} (hc : CI S μ) (g : GOK S) {t q a : Int} (ht : (-2147483648 ≤ t ∧ t ≤ 2147483647)) (hq : (-2147483648 ≤ q ∧ q ≤ 2147483647)) (ha : (-2147483648 ≤ a ∧ a ≤ 2147483647)) {P : Int32 → Mem → Prop} {X : String → Mem → Prop} (h : CRes J (op_child S t q a) μ P X) : w8_child_wp μ (J t) (J q) (J a) P X := by
  unfold op_child at h
  unfold w8_child_wp
  have rn := g.1.n
  refine findNode_spec hc g ht hq (fun c => by rw [if_neg c] at h; exact h μ FrC.rf hc) (fun c c2 μ' f k => by rw [if_pos c, if_pos c2] at h; exact h μ' f k.1) (fun c c2 μ' f k => ?_)
  rw [if_pos c, if_neg c2] at h
  obtain ⟨od, o1, o2, o3⟩ := k.2.2.2.2.2
  have s1 : SV μ' 0 (S.1.1) (S.1.2.1) := k.1.1.1.1
  have nr := nthe_rank g.w (fun r hr => (o1 r hr).2) o2 o3 (fun i => ab (S.1.1) (S.1.2.1) i = nd (S.1.1) (S.1.2.1) t q) (k := a)
  unfold w2_childAt_wp
  intro R hR
  suffices H : (∀ r, r < 0 → ab (S.1.1) (S.1.2.1) (od r) = nd (S.1.1) (S.1.2.1) t q → cnt (fun s => ab (S.1.1) (S.1.2.1) (od s) = nd (S.1.1) (S.1.2.1) t q) r ≠ a) → R μ' (J t) (J q) (J a) (J (cnt (fun s => ab (S.1.1) (S.1.2.1) (od s) = nd (S.1.1) (S.1.2.1) t q) 0)) (J (0 : Nat)) from H (fun r hr => by omega)
  refine down (Q := fun i => (∀ r, r < i → ab (S.1.1) (S.1.2.1) (od r) = nd (S.1.1) (S.1.2.1) t q → cnt (fun s => ab (S.1.1) (S.1.2.1) (od s) = nd (S.1.1) (S.1.2.1) t q) r ≠ a) → R μ' (J t) (J q) (J a) (J (cnt (fun s => ab (S.1.1) (S.1.2.1) (od s) = nd (S.1.1) (S.1.2.1) t q) i)) (J i)) (S.1.1) (fun i hi ih hn => ?_)
  apply hR
  unfold w2_childAt_b6_body
  have rc := cnt_le (p := fun s => ab (S.1.1) (S.1.2.1) (od s) = nd (S.1.1) (S.1.2.1) t q) (n := i)
  rcases Nat.lt_or_ge i (S.1.1) with ci | ci
  · have ih := ih ci
    have e := o1 i ci
    simp (disch := omega) only [lJ0, lJ1, lJ2, lJ3, lJ4, lJ5, lJ6, lJ7, lJ8, lJ9, lJ10, lJ30, lJ32, lJ33, lJ39, lJ40, lJ41, lJ45, lJ47, lJ48, lJ51, lJ55, lJ57, lJ58, lJ59, lJ60, lJ64, lJ80, lJ82, lJ99, lJ100, lJ101, lJ123, lJ126, lJ282, lJ342, lJ1000, lJ1100, lJ2394, lJ2736, lJ9999, lJ10000, lJ1000000, lJ100000000, J_add, J_sub, J_mul, J_neg, J_le, J_lt, J_eq, J_in, J_clamp, Int.toNat_natCast, s1.1, s1.i0, s1.i1, s1.i2, s1.i3, s1.i4, s1.i5, s1.i6, e.1]
    refine ⟨fun _ => by omega, fun _ => ⟨by omega, ?_⟩⟩
    rw [cnt_succ] at ih
    refine c_isChild_spec k g e.2 ht hq rfl (fun c5 => ⟨fun c => absurd c (by decide), fun _ => ?_⟩) (fun c5 => ⟨fun _ => ?_, fun c => absurd rfl c⟩)
    · have c6 := (nd_ch g.w c2 e.2).mp c5
      rw [if_pos c6] at ih
      refine ⟨fun c7 => ih (fun r hr hr2 => ?_), fun c7 => ⟨by omega, ?_⟩⟩
      · by_cases y : r = i
        · rw [y]; exact c7
        · exact hn r (by omega) hr2
      · have nx := nr.1 i ci c6 c7
        have nx : chO S t q a = od i := nx
        rw [if_neg (by omega), nx, Int.toNat_natCast] at h
        rw [e.1]
        refine isWithin_spec (od i) 40 rfl rfl (by omega) (by decide) (fun c => ⟨fun _ => ?_, fun c => absurd c (by decide)⟩) (fun c => absurd (by omega) c)
        simp (disch := omega) only [lJ0, lJ1, lJ2, lJ3, lJ4, lJ5, lJ6, lJ7, lJ8, lJ9, lJ10, lJ30, lJ32, lJ33, lJ39, lJ40, lJ41, lJ45, lJ47, lJ48, lJ51, lJ55, lJ57, lJ58, lJ59, lJ60, lJ64, lJ80, lJ82, lJ99, lJ100, lJ101, lJ123, lJ126, lJ282, lJ342, lJ1000, lJ1100, lJ2394, lJ2736, lJ9999, lJ10000, lJ1000000, lJ100000000, J_add, J_sub, J_mul, J_neg, J_le, J_lt, J_eq, J_in, J_clamp, Int.toNat_natCast, s1.1, s1.i0, s1.i1, s1.i2, s1.i3, s1.i4, s1.i5, s1.i6]
        exact ⟨by omega, h μ' f k.1⟩
    · have c6 : ¬ ab (S.1.1) (S.1.2.1) (od i) = nd (S.1.1) (S.1.2.1) t q := fun z => c5 ((nd_ch g.w c2 e.2).mpr z)
      rw [if_neg c6] at ih
      refine ih (fun r hr hr2 => ?_)
      by_cases y : r = i
      · rw [y] at hr2; exact absurd hr2 c6
      · exact hn r (by omega) hr2
  · have e9 : i = S.1.1 := by omega
    subst e9
    have nx : chO S t q a = -1 := nr.2 hn
    rw [if_pos nx] at h
    simp (disch := omega) only [lJ0, lJ1, lJ2, lJ3, lJ4, lJ5, lJ6, lJ7, lJ8, lJ9, lJ10, lJ30, lJ32, lJ33, lJ39, lJ40, lJ41, lJ45, lJ47, lJ48, lJ51, lJ55, lJ57, lJ58, lJ59, lJ60, lJ64, lJ80, lJ82, lJ99, lJ100, lJ101, lJ123, lJ126, lJ282, lJ342, lJ1000, lJ1100, lJ2394, lJ2736, lJ9999, lJ10000, lJ1000000, lJ100000000, J_add, J_sub, J_mul, J_neg, J_le, J_lt, J_eq, J_in, J_clamp, Int.toNat_natCast, s1.1, s1.i0, s1.i1, s1.i2, s1.i3, s1.i4, s1.i5, s1.i6]
    refine ⟨fun _ => ?_, fun c => absurd (Int.le_refl _) c⟩
    exact isWithin_spec (-1) 40 rfl rfl (by omega) (by decide) (fun c => absurd c (by omega)) (fun c => ⟨fun c => absurd rfl c, fun _ => h μ' f k.1⟩)
theorem c_missing {S : GS} {μ : Mem} (hc : CI S μ) (g : GOK S) {t q v : Int} (ht : (-2147483648 ≤ t ∧ t ≤ 2147483647)) (hq : (-2147483648 ≤ q ∧ q ≤ 2147483647)) (hv : 0 ≤ v ∧ v ≤ 1) {P : Int32 → Mem → Prop} {X : String → Mem → Prop} (h : CRes J (op_missing S t q v) μ P X) : w8_missing_wp μ (J t) (J q) (J v) P X := by
  unfold op_missing at h
  unfold w8_missing_wp
  refine checkTrace_spec ht (fun c => ?_) (fun c => by rw [if_neg c] at h; exact h μ FrC.rf hc)
  rw [if_pos c] at h
  refine workOut_spec2 hc g (fun μ' f k => ?_)
  refine c_isPlaceholder_spec k g ht hq (fun c2 => ⟨fun _ => ?_, fun c => absurd c (by decide)⟩) (fun c2 => ⟨fun c => absurd rfl c, fun _ => by rw [if_neg c2] at h; exact h μ' f k.1⟩)
  rw [if_pos c2] at h
  simp (disch := omega) only [lJ0, lJ1, lJ2, lJ3, lJ4, lJ5, lJ6, lJ7, lJ8, lJ9, lJ10, lJ30, lJ32, lJ33, lJ39, lJ40, lJ41, lJ45, lJ47, lJ48, lJ51, lJ55, lJ57, lJ58, lJ59, lJ60, lJ64, lJ80, lJ82, lJ99, lJ100, lJ101, lJ123, lJ126, lJ282, lJ342, lJ1000, lJ1100, lJ2394, lJ2736, lJ9999, lJ10000, lJ1000000, lJ100000000, J_add, J_sub, J_mul, J_neg, J_le, J_lt, J_eq, J_in, J_clamp, Int.toNat_natCast]
  refine ⟨fun c3 => ?_, fun c3 => ?_⟩
  · rw [if_pos c3] at h
    exact c_nodeBegin_spec k g ht hq c2.2 (h μ' f k.1)
  · rw [if_neg c3] at h
    exact c_nodeEnd_spec k g ht hq c2.2 (h μ' f k.1)
