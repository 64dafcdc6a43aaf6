-- extents, activity, the busiest service
def mnT (n : Nat) (w : View) (t F : Int) : Nat → Int := it (fun i l => if w i 1 = t ∧ bgn n w i < l then bgn n w i else l) F
def mxT (n : Nat) (w : View) (t F : Int) : Nat → Int := it (fun i l => if w i 1 = t ∧ l < enn n w i then enn n w i else l) (-F)
theorem mnT_succ (n : Nat) (w : View) (t F : Int) (m : Nat) : mnT n w t F (m + 1) = if w m 1 = t ∧ bgn n w m < mnT n w t F m then bgn n w m else mnT n w t F m := rfl
theorem mxT_succ (n : Nat) (w : View) (t F : Int) (m : Nat) : mxT n w t F (m + 1) = if w m 1 = t ∧ mxT n w t F m < enn n w m then enn n w m else mxT n w t F m := rfl
theorem mnT_cs {n : Nat} {w : View} (hw : WF n w) (t : Int) {F : Int} (hF : 1000000 ≤ F) : ∀ m, m ≤ n → (cnt (fun i => w i 1 = t) m = 0 ∧ mnT n w t F m = F ∧ mnT n w t 1000000 m = 1000000) ∨ (cnt (fun i => w i 1 = t) m ≠ 0 ∧ mnT n w t F m = mnT n w t 1000000 m ∧ -489951 ≤ mnT n w t F m ∧ mnT n w t F m ≤ 499950) := by
  intro m
  induction m with
  | zero => intro _; exact Or.inl ⟨rfl, rfl, rfl⟩
  | succ m ih =>
    intro hm
    have b := be_rg hw (i := m) (by omega)
    have r := cnt_le (p := fun i => w i 1 = t) (n := m)
    rw [cnt_succ, mnT_succ, mnT_succ]
    by_cases c : w m 1 = t
    · rw [if_pos c]
      rcases ih (by omega) with ⟨h1, h2, h3⟩ | ⟨h1, h2, h3, h4⟩
      · rw [h2, h3, if_pos ⟨c, by omega⟩, if_pos ⟨c, by omega⟩]; exact Or.inr ⟨by omega, rfl, by omega, by omega⟩
      · rw [← h2]
        by_cases d : bgn n w m < mnT n w t F m
        · rw [if_pos ⟨c, d⟩]; exact Or.inr ⟨by omega, rfl, by omega, by omega⟩
        · rw [if_neg (fun z => d z.2)]; exact Or.inr ⟨by omega, rfl, h3, h4⟩
    · rw [if_neg c, if_neg (fun z => c z.1), if_neg (fun z => c z.1)]
      exact ih (by omega)
theorem mxT_cs {n : Nat} {w : View} (hw : WF n w) (t : Int) {F : Int} (hF : 1000000 ≤ F) : ∀ m, m ≤ n → (cnt (fun i => w i 1 = t) m = 0 ∧ mxT n w t F m = -F ∧ mxT n w t 1000000 m = -1000000) ∨ (cnt (fun i => w i 1 = t) m ≠ 0 ∧ mxT n w t F m = mxT n w t 1000000 m ∧ -489951 ≤ mxT n w t F m ∧ mxT n w t F m ≤ 499950) := by
  intro m
  induction m with
  | zero => intro _; exact Or.inl ⟨rfl, rfl, rfl⟩
  | succ m ih =>
    intro hm
    have b := be_rg hw (i := m) (by omega)
    have r := cnt_le (p := fun i => w i 1 = t) (n := m)
    rw [cnt_succ, mxT_succ, mxT_succ]
    by_cases c : w m 1 = t
    · rw [if_pos c]
      rcases ih (by omega) with ⟨h1, h2, h3⟩ | ⟨h1, h2, h3, h4⟩
      · rw [h2, h3, if_pos ⟨c, by omega⟩, if_pos ⟨c, by omega⟩]; exact Or.inr ⟨by omega, rfl, by omega, by omega⟩
      · rw [← h2]
        by_cases d : mxT n w t F m < enn n w m
        · rw [if_pos ⟨c, d⟩]; exact Or.inr ⟨by omega, rfl, by omega, by omega⟩
        · rw [if_neg (fun z => d z.2)]; exact Or.inr ⟨by omega, rfl, h3, h4⟩
    · rw [if_neg c, if_neg (fun z => c z.1), if_neg (fun z => c z.1)]
      exact ih (by omega)
def ext (n : Nat) (w : View) (t : Int) : Int := mxT n w t 1000000 n - mnT n w t 1000000 n
theorem ext_rg {n : Nat} {w : View} (hw : WF n w) {t : Int} (h : cnt (fun i => w i 1 = t) n ≠ 0) : -1000000 ≤ ext n w t ∧ ext n w t ≤ 1000000 := by
  unfold ext
  rcases mnT_cs hw t (F := 1000000) (by omega) n (Nat.le_refl _) with ⟨h1, -⟩ | ⟨h1, h2, h3, h4⟩
  · exact absurd h1 h
  rcases mxT_cs hw t (F := 1000000) (by omega) n (Nat.le_refl _) with ⟨h1, -⟩ | ⟨h1, h5, h6, h7⟩
  · exact absurd h1 h
  omega
def bst (n : Nat) (w : View) (t : Int) : Nat → Int := it (fun k b => if bsy n w t b < bsy n w t ((k : Int) + 1) then (k : Int) + 1 else b) 0
theorem bst_succ (n : Nat) (w : View) (t : Int) (k : Nat) : bst n w t (k + 1) = if bsy n w t (bst n w t k) < bsy n w t ((k : Int) + 1) then (k : Int) + 1 else bst n w t k := rfl
theorem bst_rg (n : Nat) (w : View) (t : Int) : ∀ k : Nat, 0 ≤ bst n w t k ∧ bst n w t k ≤ k := by
  intro k
  induction k with
  | zero => exact ⟨Int.le_refl _, Int.le_refl _⟩
  | succ k ih => rw [bst_succ]; split <;> omega
theorem bsy_rg (n : Nat) (w : View) (t s : Int) : 0 ≤ bsy n w t s ∧ bsy n w t s ≤ 1200000 := cov_rg _ _ _ _
abbrev nTr (S : GS) (t : Int) : Int := cnt (fun i => S.1.2.1 i 1 = t) (S.1.1)
def op_extent (S : GS) (t : Int) : OpR Int := if 0 ≤ t ∧ t < 4 then (if nTr S t = 0 then thw S xNE 2 else ok S (ext (S.1.1) (S.1.2.1) t)) else thw S xIO 1
def op_activity (S : GS) (t s : Int) : OpR UInt32 := if 0 ≤ t ∧ t < 4 then (if 0 ≤ s ∧ s < 8 then (if nTr S t = 0 then thw S xNE 2 else if ext (S.1.1) (S.1.2.1) t = 0 then thw S xAR 3 else ok S (FP.fdiv (FP.i2f (J (bsy (S.1.1) (S.1.2.1) t s))) (FP.i2f (J (ext (S.1.1) (S.1.2.1) t))))) else thw S xIO 1) else thw S xIO 1
def op_busiest (S : GS) (t : Int) : OpR Int := if 0 ≤ t ∧ t < 4 then (if nTr S t = 0 then thw S xNE 2 else if ext (S.1.1) (S.1.2.1) t = 0 then thw S xAR 3 else ok S (bst (S.1.1) (S.1.2.1) t 7)) else thw S xIO 1
theorem c_extentOf_spec {S : GS} {μ : Mem} (k : CK S μ) (g : GOK S) {t : Int} (ht : (-2147483648 ≤ t ∧ t ≤ 2147483647)) {P : Int32 → Mem → Prop} {X : String → Mem → Prop} (h0 : nTr S t = 0 → X xNE μ) (h1 : nTr S t ≠ 0 → P (J (ext (S.1.1) (S.1.2.1) t)) μ) : w8_extentOf_wp μ (J t) P X := by
  have rn := g.1.n
  have s1 : SV μ 0 (S.1.1) (S.1.2.1) := k.1.1.1.1
  unfold w8_extentOf_wp
  refine c_spansOf_spec k.1 g ht ?_
  have r1 := cnt_le (p := fun i => S.1.2.1 i 1 = t) (n := S.1.1)
  simp (disch := omega) only [lJ0, lJ1, lJ2, lJ3, lJ4, lJ5, lJ6, lJ7, lJ8, lJ9, lJ10, lJ30, lJ32, lJ33, lJ39, lJ40, lJ41, lJ45, lJ47, lJ48, lJ51, lJ55, lJ57, lJ58, lJ59, lJ60, lJ64, lJ80, lJ82, lJ99, lJ100, lJ101, lJ123, lJ126, lJ282, lJ342, lJ1000, lJ1100, lJ2394, lJ2736, lJ9999, lJ10000, lJ1000000, lJ100000000, J_add, J_sub, J_mul, J_neg, J_le, J_lt, J_eq, J_in, J_clamp, Int.toNat_natCast]
  refine ⟨fun c2 => ?_, fun c2 => h0 c2⟩
  have h1 := h1 c2
  intro R hR
  refine down (Q := fun i => R μ (J t) (J (mxT (S.1.1) (S.1.2.1) t 1000000 i)) (J i)) (S.1.1) (fun i hi ih => ?_)
  apply hR
  unfold w1_latestEnd_b5_body
  have rx := mxT_cs g.w t (F := 1000000) (by omega) i hi
  rcases Nat.lt_or_ge i (S.1.1) with c | c
  · have ih := ih c
    have ri := g.w.r i c
    have b := be_rg g.w c
    have e := (k.2.2.1 i c).2.1
    rw [mxT_succ] at ih
    simp (disch := omega) only [lJ0, lJ1, lJ2, lJ3, lJ4, lJ5, lJ6, lJ7, lJ8, lJ9, lJ10, lJ30, lJ32, lJ33, lJ39, lJ40, lJ41, lJ45, lJ47, lJ48, lJ51, lJ55, lJ57, lJ58, lJ59, lJ60, lJ64, lJ80, lJ82, lJ99, lJ100, lJ101, lJ123, lJ126, lJ282, lJ342, lJ1000, lJ1100, lJ2394, lJ2736, lJ9999, lJ10000, lJ1000000, lJ100000000, J_add, J_sub, J_mul, J_neg, J_le, J_lt, J_eq, J_in, J_clamp, Int.toNat_natCast, s1.1, s1.i0, s1.i1, s1.i2, s1.i3, s1.i4, s1.i5, s1.i6, e]
    refine ⟨fun _ => by omega, fun _ => ⟨by omega, fun c3 => ?_, fun c3 => ⟨by omega, ?_⟩⟩⟩
    · rw [if_neg (fun z => c3 z.1)] at ih; exact ih
    · by_cases d : mxT (S.1.1) (S.1.2.1) t 1000000 i < enn (S.1.1) (S.1.2.1) i
      · rw [if_pos ⟨c3, d⟩] at ih; rw [if_pos d]; exact ih
      · rw [if_neg (fun z => d z.2)] at ih; rw [if_neg d]; exact ih
  · have e9 : i = S.1.1 := by omega
    subst e9
    simp (disch := omega) only [lJ0, lJ1, lJ2, lJ3, lJ4, lJ5, lJ6, lJ7, lJ8, lJ9, lJ10, lJ30, lJ32, lJ33, lJ39, lJ40, lJ41, lJ45, lJ47, lJ48, lJ51, lJ55, lJ57, lJ58, lJ59, lJ60, lJ64, lJ80, lJ82, lJ99, lJ100, lJ101, lJ123, lJ126, lJ282, lJ342, lJ1000, lJ1100, lJ2394, lJ2736, lJ9999, lJ10000, lJ1000000, lJ100000000, J_add, J_sub, J_mul, J_neg, J_le, J_lt, J_eq, J_in, J_clamp, Int.toNat_natCast, s1.1, s1.i0, s1.i1, s1.i2, s1.i3, s1.i4, s1.i5, s1.i6]
    refine ⟨fun _ => ?_, fun z => absurd (Int.le_refl _) z⟩
    intro R hR
    refine down (Q := fun i => R μ (J t) (J (mnT (S.1.1) (S.1.2.1) t 1000000 i)) (J i)) (S.1.1) (fun i hi ih => ?_)
    apply hR
    unfold w1_earliestBegin_b5_body
    have ry := mnT_cs g.w t (F := 1000000) (by omega) i hi
    rcases Nat.lt_or_ge i (S.1.1) with c | c
    · have ih := ih c
      have ri := g.w.r i c
      have b := be_rg g.w c
      have e := (k.2.2.1 i c).1
      rw [mnT_succ] at ih
      simp (disch := omega) only [lJ0, lJ1, lJ2, lJ3, lJ4, lJ5, lJ6, lJ7, lJ8, lJ9, lJ10, lJ30, lJ32, lJ33, lJ39, lJ40, lJ41, lJ45, lJ47, lJ48, lJ51, lJ55, lJ57, lJ58, lJ59, lJ60, lJ64, lJ80, lJ82, lJ99, lJ100, lJ101, lJ123, lJ126, lJ282, lJ342, lJ1000, lJ1100, lJ2394, lJ2736, lJ9999, lJ10000, lJ1000000, lJ100000000, J_add, J_sub, J_mul, J_neg, J_le, J_lt, J_eq, J_in, J_clamp, Int.toNat_natCast, s1.1, s1.i0, s1.i1, s1.i2, s1.i3, s1.i4, s1.i5, s1.i6, e]
      refine ⟨fun _ => by omega, fun _ => ⟨by omega, fun c3 => ?_, fun c3 => ⟨by omega, ?_⟩⟩⟩
      · rw [if_neg (fun z => c3 z.1)] at ih; exact ih
      · by_cases d : bgn (S.1.1) (S.1.2.1) i < mnT (S.1.1) (S.1.2.1) t 1000000 i
        · rw [if_pos ⟨c3, d⟩] at ih; rw [if_pos d]; exact ih
        · rw [if_neg (fun z => d z.2)] at ih; rw [if_neg d]; exact ih
    · have e9 : i = S.1.1 := by omega
      subst e9
      simp (disch := omega) only [lJ0, lJ1, lJ2, lJ3, lJ4, lJ5, lJ6, lJ7, lJ8, lJ9, lJ10, lJ30, lJ32, lJ33, lJ39, lJ40, lJ41, lJ45, lJ47, lJ48, lJ51, lJ55, lJ57, lJ58, lJ59, lJ60, lJ64, lJ80, lJ82, lJ99, lJ100, lJ101, lJ123, lJ126, lJ282, lJ342, lJ1000, lJ1100, lJ2394, lJ2736, lJ9999, lJ10000, lJ1000000, lJ100000000, J_add, J_sub, J_mul, J_neg, J_le, J_lt, J_eq, J_in, J_clamp, Int.toNat_natCast, s1.1, s1.i0, s1.i1, s1.i2, s1.i3, s1.i4, s1.i5, s1.i6]
      exact ⟨fun _ => h1, fun z => absurd (Int.le_refl _) z⟩
theorem c_extent {S : GS} {μ : Mem} (hc : CI S μ) (g : GOK S) {t : Int} (ht : (-2147483648 ≤ t ∧ t ≤ 2147483647)) {P : Int32 → Mem → Prop} {X : String → Mem → Prop} (h : CRes J (op_extent S t) μ P X) : w8_extent_wp μ (J t) P X := by
  unfold op_extent at h
  unfold w8_extent_wp
  refine checkTrace_spec ht (fun c => ?_) (fun c => by rw [if_neg c] at h; exact h μ FrC.rf hc)
  rw [if_pos c] at h
  refine workOut_spec2 hc g (fun μ' f k => c_extentOf_spec k g ht (fun c2 => ?_) (fun c2 => ?_))
  · rw [if_pos c2] at h; exact h μ' f k.1
  · rw [if_neg c2] at h; exact h μ' f k.1
theorem c_activity {S : GS} {μ : Mem} (hc : CI S μ) (g : GOK S) {t s : Int} (ht : (-2147483648 ≤ t ∧ t ≤ 2147483647)) (hs : (-2147483648 ≤ s ∧ s ≤ 2147483647)) {P : UInt32 → Mem → Prop} {X : String → Mem → Prop} (h : CRes (fun v => v) (op_activity S t s) μ P X) : w8_activity_wp μ (J t) (J s) P X := by
  unfold op_activity at h
  unfold w8_activity_wp
  refine checkTrace_spec ht (fun c => ?_) (fun c => by rw [if_neg c] at h; exact h μ FrC.rf hc)
  rw [if_pos c] at h
  refine checkService_spec hs (fun c => ?_) (fun c => by rw [if_neg c] at h; exact h μ FrC.rf hc)
  rw [if_pos c] at h
  refine workOut_spec2 hc g (fun μ' f k => ?_)
  unfold w8_positiveExtentOf_wp
  refine c_extentOf_spec k g ht (fun c2 => ?_) (fun c2 => ?_)
  · rw [if_pos c2] at h; exact h μ' f k.1
  rw [if_neg c2] at h
  have re := ext_rg g.w c2
  simp (disch := omega) only [lJ0, lJ1, lJ2, lJ3, lJ4, lJ5, lJ6, lJ7, lJ8, lJ9, lJ10, lJ30, lJ32, lJ33, lJ39, lJ40, lJ41, lJ45, lJ47, lJ48, lJ51, lJ55, lJ57, lJ58, lJ59, lJ60, lJ64, lJ80, lJ82, lJ99, lJ100, lJ101, lJ123, lJ126, lJ282, lJ342, lJ1000, lJ1100, lJ2394, lJ2736, lJ9999, lJ10000, lJ1000000, lJ100000000, J_add, J_sub, J_mul, J_neg, J_le, J_lt, J_eq, J_in, J_clamp, Int.toNat_natCast]
  refine ⟨fun c3 => ?_, fun c3 => ?_⟩
  · rw [if_neg c3] at h
    refine c_busyUnits_spec k g ht hs rfl rfl ?_
    exact ⟨n32_div (fun z => c3 ((J_eq (by omega) (by omega)).mp z)), h μ' f k.1⟩
  · rw [if_pos c3] at h; exact h μ' f k.1
theorem c_busiest {S : GS} {μ : Mem} (hc : CI S μ) (g : GOK S) {t : Int} (ht : (-2147483648 ≤ t ∧ t ≤ 2147483647)) {P : Int32 → Mem → Prop} {X : String → Mem → Prop} (h : CRes J (op_busiest S t) μ P X) : w8_busiest_wp μ (J t) P X := by
  unfold op_busiest at h
  unfold w8_busiest_wp
  refine checkTrace_spec ht (fun c => ?_) (fun c => by rw [if_neg c] at h; exact h μ FrC.rf hc)
  rw [if_pos c] at h
  refine workOut_spec2 hc g (fun μ' f k => ?_)
  unfold w8_positiveExtentOf_wp
  refine c_extentOf_spec k g ht (fun c2 => ?_) (fun c2 => ?_)
  · rw [if_pos c2] at h; exact h μ' f k.1
  rw [if_neg c2] at h
  have re := ext_rg g.w c2
  simp (disch := omega) only [lJ0, lJ1, lJ2, lJ3, lJ4, lJ5, lJ6, lJ7, lJ8, lJ9, lJ10, lJ30, lJ32, lJ33, lJ39, lJ40, lJ41, lJ45, lJ47, lJ48, lJ51, lJ55, lJ57, lJ58, lJ59, lJ60, lJ64, lJ80, lJ82, lJ99, lJ100, lJ101, lJ123, lJ126, lJ282, lJ342, lJ1000, lJ1100, lJ2394, lJ2736, lJ9999, lJ10000, lJ1000000, lJ100000000, J_add, J_sub, J_mul, J_neg, J_le, J_lt, J_eq, J_in, J_clamp, Int.toNat_natCast]
  refine ⟨fun c3 => ?_, fun c3 => ?_⟩
  rotate_left
  · rw [if_pos c3] at h; exact h μ' f k.1
  rw [if_neg c3] at h
  unfold w1_busiestService_wp
  refine c_busyUnits_spec k g ht (s := 0) (by omega) rfl rfl ?_
  intro R hR
  suffices H : ∀ d q : Nat, q + d = 7 → R μ' (J t) (J (bst (S.1.1) (S.1.2.1) t q)) (J (bsy (S.1.1) (S.1.2.1) t (bst (S.1.1) (S.1.2.1) t q))) (J ((q : Int) + 1)) from H 7 0 rfl
  intro d
  induction d with
  | zero =>
    intro q hq
    have e9 : q = 7 := by omega
    subst e9
    apply hR
    unfold w1_busiestService_b12_body
    simp (disch := omega) only [lJ0, lJ1, lJ2, lJ3, lJ4, lJ5, lJ6, lJ7, lJ8, lJ9, lJ10, lJ30, lJ32, lJ33, lJ39, lJ40, lJ41, lJ45, lJ47, lJ48, lJ51, lJ55, lJ57, lJ58, lJ59, lJ60, lJ64, lJ80, lJ82, lJ99, lJ100, lJ101, lJ123, lJ126, lJ282, lJ342, lJ1000, lJ1100, lJ2394, lJ2736, lJ9999, lJ10000, lJ1000000, lJ100000000, J_add, J_sub, J_mul, J_neg, J_le, J_lt, J_eq, J_in, J_clamp, Int.toNat_natCast]
    exact ⟨fun _ => h μ' f k.1, fun z => absurd (by omega) z⟩
  | succ d ih =>
    intro q hq
    have ih := ih (q + 1) (by omega)
    rw [bst_succ] at ih
    have r1 := bst_rg (S.1.1) (S.1.2.1) t q
    have r2 := bsy_rg (S.1.1) (S.1.2.1) t (bst (S.1.1) (S.1.2.1) t q)
    have r3 := bsy_rg (S.1.1) (S.1.2.1) t ((q : Int) + 1)
    apply hR
    unfold w1_busiestService_b12_body
    simp (disch := omega) only [lJ0, lJ1, lJ2, lJ3, lJ4, lJ5, lJ6, lJ7, lJ8, lJ9, lJ10, lJ30, lJ32, lJ33, lJ39, lJ40, lJ41, lJ45, lJ47, lJ48, lJ51, lJ55, lJ57, lJ58, lJ59, lJ60, lJ64, lJ80, lJ82, lJ99, lJ100, lJ101, lJ123, lJ126, lJ282, lJ342, lJ1000, lJ1100, lJ2394, lJ2736, lJ9999, lJ10000, lJ1000000, lJ100000000, J_add, J_sub, J_mul, J_neg, J_le, J_lt, J_eq, J_in, J_clamp, Int.toNat_natCast]
    refine ⟨fun z => by omega, fun _ => ?_⟩
    refine c_busyUnits_spec k g ht (s := (q : Int) + 1) (by omega) rfl rfl ?_
    simp (disch := omega) only [lJ0, lJ1, lJ2, lJ3, lJ4, lJ5, lJ6, lJ7, lJ8, lJ9, lJ10, lJ30, lJ32, lJ33, lJ39, lJ40, lJ41, lJ45, lJ47, lJ48, lJ51, lJ55, lJ57, lJ58, lJ59, lJ60, lJ64, lJ80, lJ82, lJ99, lJ100, lJ101, lJ123, lJ126, lJ282, lJ342, lJ1000, lJ1100, lJ2394, lJ2736, lJ9999, lJ10000, lJ1000000, lJ100000000, J_add, J_sub, J_mul, J_neg, J_le, J_lt, J_eq, J_in, J_clamp, Int.toNat_natCast]
    refine ⟨fun c4 => ?_, fun c4 => ?_⟩
    · rw [if_neg (by omega)] at ih; exact ih
    · rw [if_pos (by omega)] at ih; exact ih
