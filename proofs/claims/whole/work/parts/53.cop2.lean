theorem SV.put {μ : Mem} {n : Nat} {w : View} (h : SV μ 0 n w) {i c j : Nat} {v : Int} {x : Int32} (hx : x = J v) (hj : (c, j) ∈ [(2, 192), (4, 320), (5, 384), (6, 448)]) : SV (up μ j 0 i x) 0 n (wput w i c v) := by
  subst hx
  refine ⟨?_, fun k hk d hd => ?_⟩
  · rw [up_at, if_neg (by simp at hj; omega)]
    exact h.1
  · have := h.2 k hk d hd
    rw [wput_at]
    simp only [List.mem_cons, Prod.mk.injEq, List.not_mem_nil, or_false] at hj
    rcases hj with ⟨rfl, rfl⟩ | ⟨rfl, rfl⟩ | ⟨rfl, rfl⟩ | ⟨rfl, rfl⟩ <;> by_cases e : k = i <;>
      match d, hd with
      | 0, _ => simpa [sA, up_at, e] using this
      | 1, _ => simpa [sA, up_at, e] using this
      | 2, _ => simpa [sA, up_at, e] using this
      | 3, _ => simpa [sA, up_at, e] using this
      | 4, _ => simpa [sA, up_at, e] using this
      | 5, _ => simpa [sA, up_at, e] using this
      | 6, _ => simpa [sA, up_at, e] using this
theorem LV.put {μ : Mem} {l : Lk} (h : LV μ 0 l) {i j : Nat} {x : Int32} (hj : 3 ≤ j ∧ j < 512) : LV (up μ j 0 i x) 0 l := by
  refine ⟨?_, fun q hq => ?_⟩
  · rw [up_at, if_neg (by omega)]; exact h.1
  · rw [up_at, if_neg (by omega), up_at, if_neg (by omega)]; exact h.2 q hq
theorem c_remove {S : GS} {μ : Mem} (hc : CI S μ) (g : GOK S) {z : Int} (hz : (-2147483648 ≤ z ∧ z ≤ 2147483647)) {P : Int32 → Mem → Prop} {X : String → Mem → Prop} (h : CRes J (op_remove S z) μ P X) : w8_remove_wp μ (J z) P X := by
  unfold op_remove at h
  unfold w8_remove_wp
  refine placeOf_spec hc.1.1 g hz (fun c => ?_) (fun i hi e ez => ?_)
  · rw [if_pos c] at h
    exact h μ FrC.rf hc
  rw [if_neg (by omega), e, Int.toNat_natCast] at h
  refine startChange_spec hc.1 g (fun μ1 f1 cb e1 => ?_)
  obtain ⟨s1, s2⟩ := cb.1
  have s1 : SV μ1 0 (S.1.1) (S.1.2.1) := s1
  have s2 : LV μ1 0 (S.1.2.2) := s2
  refine drop_spec s1 g.w s2 g.1.2.1 hi (fun μ2 f2 k1 k2 => ?_)
  rw [ez] at k2
  rw [show μ2 1 0 0 = J ((S.1.1 : Int) - 1) by rw [k1.1]; congr 1; omega]
  refine h _ (f1.tr f2.frC) (CI.mk0 (cb.st f2 ⟨k1, k2⟩) ?_)
  rw [f2 _ _ _ (by omega)]
  exact e1
theorem c_setParent {S : GS} {μ : Mem} (hc : CI S μ) (g : GOK S) {z p : Int} (hz : (-2147483648 ≤ z ∧ z ≤ 2147483647)) (hp : (-2147483648 ≤ p ∧ p ≤ 2147483647)) {P : Int32 → Mem → Prop} {X : String → Mem → Prop} (h : CRes J (op_setParent S z p) μ P X) : w8_setParent_wp μ (J z) (J p) P X := by
  unfold op_setParent at h
  unfold w8_setParent_wp
  have rn := g.1.n
  refine placeOf_spec hc.1.1 g hz (fun c => ?_) (fun i hi e ez => ?_)
  · rw [if_pos c] at h
    exact h μ FrC.rf hc
  rw [if_neg (by omega), e, Int.toNat_natCast] at h
  refine isParentId_spec hp (fun c => ⟨fun _ => ?_, fun c => absurd c (by decide)⟩) (fun c => ⟨fun c => absurd rfl c, fun _ => by rw [if_neg c] at h; exact h μ FrC.rf hc⟩)
  rw [if_pos c] at h
  refine startChange_spec hc.1 g (fun μ1 f1 cb e1 => ?_)
  obtain ⟨s1, s2⟩ := cb.1
  have s1 : SV μ1 0 (S.1.1) (S.1.2.1) := s1
  have s2 : LV μ1 0 (S.1.2.2) := s2
  simp (disch := omega) only [s1.1, s1.i0, s1.i1, s1.i2, s1.i3, s1.i4, s1.i5, s1.i6, lJ0, lJ1, lJ2, lJ3, lJ4, lJ5, lJ6, lJ7, lJ8, lJ9, lJ10, lJ30, lJ32, lJ33, lJ39, lJ40, lJ41, lJ45, lJ47, lJ48, lJ51, lJ55, lJ57, lJ58, lJ59, lJ60, lJ64, lJ80, lJ82, lJ99, lJ100, lJ101, lJ123, lJ126, lJ282, lJ342, lJ1000, lJ1100, lJ2394, lJ2736, lJ9999, lJ10000, lJ1000000, lJ100000000, J_add, J_sub, J_mul, J_neg, J_le, J_lt, J_eq, J_in, J_clamp, Int.toNat_natCast]
  refine ⟨by omega, by omega, ?_⟩
  rintro μ2 rfl
  have f2 : FrS 0 μ1 (up μ1 192 0 i (J p)) := FrS.up (by omega)
  refine h _ (f1.tr f2.frC) (CI.mk0 (cb.st f2 ⟨s1.put rfl (by decide), s2.put (by omega)⟩) ?_)
  rw [f2 _ _ _ (by omega)]
  exact e1
theorem c_setTimes {S : GS} {μ : Mem} (hc : CI S μ) (g : GOK S) {z b e : Int} (hz : (-2147483648 ≤ z ∧ z ≤ 2147483647)) (hb : (-2147483648 ≤ b ∧ b ≤ 2147483647)) (he : (-2147483648 ≤ e ∧ e ≤ 2147483647)) {P : Int32 → Mem → Prop} {X : String → Mem → Prop} (h : CRes J (op_setTimes S z b e) μ P X) : w8_setTimes_wp μ (J z) (J b) (J e) P X := by
  unfold op_setTimes at h
  unfold w8_setTimes_wp
  have rn := g.1.n
  refine placeOf_spec hc.1.1 g hz (fun c => ?_) (fun i hi ei ez => ?_)
  · rw [if_pos c] at h
    exact h μ FrC.rf hc
  rw [if_neg (by omega), ei, Int.toNat_natCast] at h
  refine areTimes_spec hb he (fun c => ⟨fun _ => ?_, fun c => absurd c (by decide)⟩) (fun c => ⟨fun c => absurd rfl c, fun _ => by rw [if_neg c] at h; exact h μ FrC.rf hc⟩)
  rw [if_pos c] at h
  refine startChange_spec hc.1 g (fun μ1 f1 cb e1 => ?_)
  obtain ⟨s1, s2⟩ := cb.1
  have s1 : SV μ1 0 (S.1.1) (S.1.2.1) := s1
  have s2 : LV μ1 0 (S.1.2.2) := s2
  refine duration_spec s1 rn (by omega) ?_
  simp (disch := omega) only [lJ0, lJ1, lJ2, lJ3, lJ4, lJ5, lJ6, lJ7, lJ8, lJ9, lJ10, lJ30, lJ32, lJ33, lJ39, lJ40, lJ41, lJ45, lJ47, lJ48, lJ51, lJ55, lJ57, lJ58, lJ59, lJ60, lJ64, lJ80, lJ82, lJ99, lJ100, lJ101, lJ123, lJ126, lJ282, lJ342, lJ1000, lJ1100, lJ2394, lJ2736, lJ9999, lJ10000, lJ1000000, lJ100000000, J_add, J_sub, J_mul, J_neg, J_le, J_lt, J_eq, J_in, J_clamp, Int.toNat_natCast]
  refine ⟨by omega, ?_⟩
  rintro μ2 rfl
  refine ⟨by omega, ?_⟩
  rintro μ3 rfl
  have f2 : FrS 0 μ1 (up (up μ1 320 0 i (J b)) 384 0 i (J e)) := (FrS.up (by omega)).tr (FrS.up (by omega))
  refine h _ (f1.tr f2.frC) (CI.mk0 (cb.st f2 ⟨(s1.put rfl (by decide)).put rfl (by decide), (s2.put (by omega)).put (by omega)⟩) ?_)
  rw [f2 _ _ _ (by omega)]
  exact e1
theorem c_mark {S : GS} {μ : Mem} (hc : CI S μ) (g : GOK S) {z v : Int} (hz : (-2147483648 ≤ z ∧ z ≤ 2147483647)) (hv : 0 ≤ v ∧ v ≤ 1) {P : Int32 → Mem → Prop} {X : String → Mem → Prop} (h : CRes J (op_mark S z v) μ P X) : w8_mark_wp μ (J z) (J v) P X := by
  unfold op_mark at h
  unfold w8_mark_wp
  have rn := g.1.n
  refine placeOf_spec hc.1.1 g hz (fun c => ?_) (fun i hi ei ez => ?_)
  · rw [if_pos c] at h
    exact h μ FrC.rf hc
  rw [if_neg (by omega), ei, Int.toNat_natCast] at h
  refine startChange_spec hc.1 g (fun μ1 f1 cb e1 => ?_)
  obtain ⟨s1, s2⟩ := cb.1
  have s1 : SV μ1 0 (S.1.1) (S.1.2.1) := s1
  have s2 : LV μ1 0 (S.1.2.2) := s2
  have ri := g.w.r i hi
  simp (disch := omega) only [s1.1, s1.i0, s1.i1, s1.i2, s1.i3, s1.i4, s1.i5, s1.i6, lJ0, lJ1, lJ2, lJ3, lJ4, lJ5, lJ6, lJ7, lJ8, lJ9, lJ10, lJ30, lJ32, lJ33, lJ39, lJ40, lJ41, lJ45, lJ47, lJ48, lJ51, lJ55, lJ57, lJ58, lJ59, lJ60, lJ64, lJ80, lJ82, lJ99, lJ100, lJ101, lJ123, lJ126, lJ282, lJ342, lJ1000, lJ1100, lJ2394, lJ2736, lJ9999, lJ10000, lJ1000000, lJ100000000, J_add, J_sub, J_mul, J_neg, J_le, J_lt, J_eq, J_in, J_clamp, Int.toNat_natCast]
  refine ⟨by omega, nar01 (by omega), by omega, ?_⟩
  rintro μ2 rfl
  refine ⟨nar01 (by omega), ?_⟩
  rw [nar01 hv]
  have f2 : FrS 0 μ1 (up μ1 448 0 i (J v)) := FrS.up (by omega)
  refine h _ (f1.tr f2.frC) (CI.mk0 (cb.st f2 ⟨s1.put rfl (by decide), s2.put (by omega)⟩) ?_)
  rw [f2 _ _ _ (by omega)]
  exact e1
theorem c_spanCount {S : GS} {μ : Mem} (hc : CI S μ) {P : Int32 → Mem → Prop} {X : String → Mem → Prop} (h : CRes J (op_spanCount S) μ P X) : w8_spanCount_wp μ P := by
  unfold w8_spanCount_wp
  rw [show μ 1 0 0 = J (S.1.1) from hc.1.1.1.1]
  exact h μ FrC.rf hc
theorem c_linkCount {S : GS} {μ : Mem} (hc : CI S μ) {P : Int32 → Mem → Prop} {X : String → Mem → Prop} (h : CRes J (op_linkCount S) μ P X) : w8_linkCount_wp μ P := by
  unfold w8_linkCount_wp
  rw [show μ 2 0 0 = J (S.1.2.2).length from hc.1.1.2.1]
  exact h μ FrC.rf hc
theorem c_span {S : GS} {μ : Mem} (hc : CI S μ) (g : GOK S) {z k : Int} (hz : (-2147483648 ≤ z ∧ z ≤ 2147483647)) (hk : (-2147483648 ≤ k ∧ k ≤ 2147483647)) {P : Int32 → Mem → Prop} {X : String → Mem → Prop} (h : CRes J (op_span S z k) μ P X) : w8_span_wp μ (J z) (J k) P X := by
  unfold op_span at h
  unfold w8_span_wp
  have rn := g.1.n
  refine placeOf_spec hc.1.1 g hz (fun c => ?_) (fun i hi ei ez => ?_)
  · rw [if_pos c] at h
    exact h μ FrC.rf hc
  rw [if_neg (by omega), ei, Int.toNat_natCast] at h
  have s1 : SV μ 0 (S.1.1) (S.1.2.1) := hc.1.1.1
  simp (disch := omega) only [s1.1, s1.i0, s1.i1, s1.i2, s1.i3, s1.i4, s1.i5, s1.i6, lJ0, lJ1, lJ2, lJ3, lJ4, lJ5, lJ6, lJ7, lJ8, lJ9, lJ10, lJ30, lJ32, lJ33, lJ39, lJ40, lJ41, lJ45, lJ47, lJ48, lJ51, lJ55, lJ57, lJ58, lJ59, lJ60, lJ64, lJ80, lJ82, lJ99, lJ100, lJ101, lJ123, lJ126, lJ282, lJ342, lJ1000, lJ1100, lJ2394, lJ2736, lJ9999, lJ10000, lJ1000000, lJ100000000, J_add, J_sub, J_mul, J_neg, J_le, J_lt, J_eq, J_in, J_clamp, Int.toNat_natCast]
  refine ⟨fun c => ⟨by omega, ?_⟩, fun c => ⟨by omega, ?_⟩, fun c => ⟨by omega, ?_⟩, fun c => ⟨by omega, ?_⟩, fun c => ⟨by omega, ?_⟩, fun c => ?_, fun c => ?_⟩
  · subst c; exact h μ FrC.rf hc
  · subst c; exact h μ FrC.rf hc
  · subst c; exact h μ FrC.rf hc
  · subst c; exact h μ FrC.rf hc
  · subst c; exact h μ FrC.rf hc
  · subst c; exact h μ FrC.rf hc
  · rw [if_neg (by omega)] at h; exact h μ FrC.rf hc
theorem c_link {S : GS} {μ : Mem} (hc : CI S μ) (g : GOK S) {a b : Int} (ha : (-2147483648 ≤ a ∧ a ≤ 2147483647)) (hb : (-2147483648 ≤ b ∧ b ≤ 2147483647)) {P : Int32 → Mem → Prop} {X : String → Mem → Prop} (h : CRes J (op_link S a b) μ P X) : w8_link_wp μ (J a) (J b) P X := by
  unfold op_link at h
  unfold w8_link_wp
  have rl := g.1.l
  refine placeOf_spec hc.1.1 g ha (fun c => ?_) (fun i hi ei ez => ?_)
  · rw [if_pos (Or.inl c)] at h
    exact h μ FrC.rf hc
  refine placeOf_spec hc.1.1 g hb (fun c => ?_) (fun j hj ej ez2 => ?_)
  · rw [if_pos (Or.inr c)] at h
    exact h μ FrC.rf hc
  rw [if_neg (by omega)] at h
  have e2 : μ 2 0 0 = J (S.1.2.2).length := hc.1.1.2.1
  simp (disch := omega) only [lJ0, lJ1, lJ2, lJ3, lJ4, lJ5, lJ6, lJ7, lJ8, lJ9, lJ10, lJ30, lJ32, lJ33, lJ39, lJ40, lJ41, lJ45, lJ47, lJ48, lJ51, lJ55, lJ57, lJ58, lJ59, lJ60, lJ64, lJ80, lJ82, lJ99, lJ100, lJ101, lJ123, lJ126, lJ282, lJ342, lJ1000, lJ1100, lJ2394, lJ2736, lJ9999, lJ10000, lJ1000000, lJ100000000, J_add, J_sub, J_mul, J_neg, J_le, J_lt, J_eq, J_in, J_clamp, Int.toNat_natCast, e2]
  refine ⟨fun c => ?_, fun c => by rw [if_pos c] at h; exact h μ FrC.rf hc⟩
  rw [if_neg c] at h
  refine ⟨fun c2 => by rw [if_pos (Or.inl (by omega))] at h; exact h μ FrC.rf hc, fun c2 => ?_⟩
  refine hasLink_spec hc.1.1.2 g.1.2.1 ha hb (fun c3 => ⟨fun c => absurd c (by decide), fun _ => by rw [if_pos (Or.inr c3)] at h; exact h μ FrC.rf hc⟩) (fun c3 => ⟨fun _ => ?_, fun c => absurd rfl c⟩)
  rw [if_neg (fun z => z.elim (fun y => by omega) c3)] at h
  refine startChange_spec hc.1 g (fun μ1 f1 cb e1 => ?_)
  obtain ⟨s1, s2⟩ := cb.1
  have s1 : SV μ1 0 (S.1.1) (S.1.2.1) := s1
  have s2 : LV μ1 0 (S.1.2.2) := s2
  refine keepLink_spec s2 (by omega) rfl rfl (fun μ2 f2 k2 => ?_)
  have e3 : μ2 2 0 0 - J 1 = J (S.1.2.2).length := by
    rw [k2.1, List.length_append, List.length_singleton, J_sub]
    congr 1
    omega
  rw [e3]
  refine h _ (f1.tr f2.S.frC) (CI.mk0 (cb.st f2.S ⟨f2.SV s1, k2⟩) ?_)
  rw [f2.S _ _ _ (by omega)]
  exact e1
theorem checkLink_spec {S : GS} {μ : Mem} (hs : SS μ 0 (S.1)) (g : GOK S) {q : Int} (hq : (-2147483648 ≤ q ∧ q ≤ 2147483647)) {P : Mem → Prop} {X : String → Mem → Prop} (h1 : 0 ≤ q ∧ q < (S.1.2.2).length → P μ) (h0 : ¬ (0 ≤ q ∧ q < (S.1.2.2).length) → X xIO μ) : w8_checkLink_wp μ (J q) P X := by
  unfold w8_checkLink_wp
  have rl := g.1.l
  have e2 : μ 2 0 0 = J (S.1.2.2).length := hs.2.1
  refine isWithin_spec q 30 rfl rfl hq (by decide) (fun c => ⟨fun c => absurd c (by decide), fun _ => ?_⟩) (fun c => ⟨fun _ => h0 (by omega), fun c => absurd rfl c⟩)
  simp (disch := omega) only [lJ0, lJ1, lJ2, lJ3, lJ4, lJ5, lJ6, lJ7, lJ8, lJ9, lJ10, lJ30, lJ32, lJ33, lJ39, lJ40, lJ41, lJ45, lJ47, lJ48, lJ51, lJ55, lJ57, lJ58, lJ59, lJ60, lJ64, lJ80, lJ82, lJ99, lJ100, lJ101, lJ123, lJ126, lJ282, lJ342, lJ1000, lJ1100, lJ2394, lJ2736, lJ9999, lJ10000, lJ1000000, lJ100000000, J_add, J_sub, J_mul, J_neg, J_le, J_lt, J_eq, J_in, J_clamp, Int.toNat_natCast, e2]
  exact ⟨fun c2 => h1 (by omega), fun c2 => h0 (by omega)⟩
theorem c_unlink {S : GS} {μ : Mem} (hc : CI S μ) (g : GOK S) {q : Int} (hq : (-2147483648 ≤ q ∧ q ≤ 2147483647)) {P : Int32 → Mem → Prop} {X : String → Mem → Prop} (h : CRes J (op_unlink S q) μ P X) : w8_unlink_wp μ (J q) P X := by
  unfold op_unlink at h
  unfold w8_unlink_wp
  refine checkLink_spec hc.1.1 g hq (fun c => ?_) (fun c => by rw [if_neg c] at h; exact h μ FrC.rf hc)
  rw [if_pos c] at h
  refine startChange_spec hc.1 g (fun μ1 f1 cb e1 => ?_)
  obtain ⟨s1, s2⟩ := cb.1
  have s1 : SV μ1 0 (S.1.1) (S.1.2.1) := s1
  have s2 : LV μ1 0 (S.1.2.2) := s2
  have eq : q = (q.toNat : Nat) := by omega
  rw [show J q = J ((q.toNat : Nat) : Int) by rw [← eq]]
  refine dropLink_spec s2 g.1.2.1 (z := q.toNat) (by omega) (fun μ2 f2 k1 k2 => ?_)
  have e3 : μ2 2 0 0 = J (((S.1.2.2).length : Int) - 1) := by
    rw [k2.1, List.length_eraseIdx_of_lt (by omega)]
    congr 1
    omega
  rw [e3]
  refine h _ (f1.tr f2.frC) (CI.mk0 (cb.st f2 ⟨k1 _ _ s1, k2⟩) ?_)
  rw [f2 _ _ _ (by omega)]
  exact e1
theorem c_undo {S : GS} {μ : Mem} (hc : CI S μ) (g : GOK S) {P : Int32 → Mem → Prop} {X : String → Mem → Prop} (h : CRes J (op_undo S) μ P X) : w8_undo_wp μ P X := by
  obtain ⟨t, Hs, v, m, i, e⟩ := S
  unfold w8_undo_wp
  obtain ⟨⟨h1, h2, h3, h4, h5, h6⟩, hw⟩ := hc
  have e1 : μ 641 0 0 = J Hs.length := by obtain ⟨nx, a1, a2, a3, a4, a5⟩ := h2; exact a3
  have r8 := g.2.1
  have r8 : Hs.length ≤ 8 := r8
  simp (disch := omega) only [lJ0, lJ1, lJ2, lJ3, lJ4, lJ5, lJ6, lJ7, lJ8, lJ9, lJ10, lJ30, lJ32, lJ33, lJ39, lJ40, lJ41, lJ45, lJ47, lJ48, lJ51, lJ55, lJ57, lJ58, lJ59, lJ60, lJ64, lJ80, lJ82, lJ99, lJ100, lJ101, lJ123, lJ126, lJ282, lJ342, lJ1000, lJ1100, lJ2394, lJ2736, lJ9999, lJ10000, lJ1000000, lJ100000000, J_add, J_sub, J_mul, J_neg, J_le, J_lt, J_eq, J_in, J_clamp, Int.toNat_natCast, e1]
  cases Hs with
  | nil => exact ⟨fun c => absurd rfl c, fun _ => h μ FrC.rf ⟨⟨h1, h2, h3, h4, h5, h6⟩, hw⟩⟩
  | cons s Hs =>
    refine ⟨fun _ => ?_, fun c => absurd c (by rw [List.length_cons]; omega)⟩
    refine takeBack_spec h2 (g.2.2.1 0 (Nat.zero_lt_succ _)) (fun μ1 f hv ss => ?_)
    rintro μ2 rfl
    have b : Bt [2573] μ1 (up μ1 2573 0 0 (J 0)) := Bt.up (by decide)
    have e2 : up μ1 2573 0 0 (J 0) 641 0 0 = J Hs.length := by
      rw [b 641 (by decide)]
      obtain ⟨nx, a1, a2, a3, a4, a5⟩ := hv
      exact a3
    have k1 : CB (s, Hs, v, m, i, e) μ1 := by
      refine ⟨ss, hv, ?_, fun k p hk hp => ?_, ⟨(f _ _ _ (by omega) (by omega)).trans h5.1, fun q hq => (f _ _ _ (by omega) (by omega)).trans (h5.2 q hq)⟩, (f _ _ _ (by omega) (by omega)).trans h6⟩
      · cases v with
        | none => exact (f _ _ _ (by omega) (by omega)).trans h3
        | some s2 => 
          refine ⟨(f _ _ _ (by omega) (by omega)).trans h3.1, ?_⟩
          exact h3.2.at (fun j i hj => f _ _ _ (by omega) (by omega))
      · have := h4 k p hk hp
        exact ⟨(f _ _ _ (by omega) (by omega)).trans this.1, fun z => (f _ _ _ (by omega) (by omega)).trans (this.2 z)⟩
    have fc : FrC μ μ1 := fun j hj => by
      funext k' i'
      exact f j k' i' (by omega) (by omega)
    rw [e2]
    exact h _ (fc.tr (b.frC (by decide))) (CI.mk0 (k1.bt b (by decide)) up_self)
theorem c_save {S : GS} {μ : Mem} (hc : CI S μ) (g : GOK S) {P : Int32 → Mem → Prop} {X : String → Mem → Prop} (h : CRes J (op_save S) μ P X) : w8_save_wp μ P := by
  unfold w8_save_wp
  obtain ⟨⟨h1, h2, h3, h4, h5, h6⟩, hw⟩ := hc
  refine copy_spec (by omega) h1 g.1 (fun μ1 f ss => ?_)
  rintro μ2 rfl
  have b : Bt [2572] μ1 (up μ1 2572 0 0 1) := Bt.up (by decide)
  have t1 : SS μ1 0 (S.1) := h1.fr f (by omega)
  have q : ∀ j, j ≠ 2572 → up μ1 2572 0 0 1 j = μ1 j := fun j hj => b j (by simpa using hj)
  rw [q 1 (by decide), show μ1 1 0 0 = J (S.1.1) from t1.1.1]
  have ev : ∀ j, 640 ≤ j → j ≠ 2572 → up μ1 2572 0 0 1 j = μ j := fun j hj hn => by
    rw [q j hn]
    funext k' i'
    exact f j k' i' (by omega)
  refine h _ (f.frC.tr (b.frC (by decide))) ⟨⟨t1.ev (fun j hj => q j (by omega)), ?_, ⟨up_self, ss.ev (fun j hj => q j (by omega))⟩, h4.ev (ev _ (by omega) (by omega)), h5.ev (ev _ (by omega) (by omega)) (ev _ (by omega) (by omega)), by rw [ev _ (by omega) (by omega)]; exact h6⟩, ?_⟩
  · obtain ⟨nx, a1, a2, a3, a4, a5⟩ := h2
    exact ⟨nx, a1, a2, by rw [ev _ (by omega) (by omega)]; exact a3, by rw [ev _ (by omega) (by omega)]; exact a4, fun j hj => ((a5 j hj).fr f (by omega)).ev (fun j hj => q j (by omega))⟩
  · rcases hw with hw | ⟨w1, w2, w3⟩
    · exact Or.inl (by rw [ev _ (by omega) (by omega)]; exact hw)
    · refine Or.inr ⟨by rw [ev _ (by omega) (by omega)]; exact w1, w2.ev (ev _ (by omega) (by omega)) (ev _ (by omega) (by omega)) (ev _ (by omega) (by omega)), ?_⟩
      obtain ⟨a, c, d, e⟩ := w3
      refine ⟨fun i hi => ?_, fun i hi => ?_, fun i hi => ?_, ?_⟩
      · rw [ev _ (by omega) (by omega), ev _ (by omega) (by omega), ev _ (by omega) (by omega)]; exact a i hi
      · rw [ev _ (by omega) (by omega), ev _ (by omega) (by omega), ev _ (by omega) (by omega)]; exact c i hi
      · rw [ev _ (by omega) (by omega)]; exact d i hi
      · rw [ev _ (by omega) (by omega)]; exact e
theorem c_restore {S : GS} {μ : Mem} (hc : CI S μ) (g : GOK S) {P : Int32 → Mem → Prop} {X : String → Mem → Prop} (h : CRes J (op_restore S) μ P X) : w8_restore_wp μ P X := by
  obtain ⟨t, Hs, v, m, i, e⟩ := S
  unfold w8_restore_wp w3_forget_wp
  obtain ⟨⟨h1, h2, h3, h4, h5, h6⟩, hw⟩ := hc
  cases v with
  | none =>
    have e1 : μ 2572 0 0 = J 0 := h3
    rw [e1]
    exact ⟨fun c => absurd rfl c, fun _ => h μ FrC.rf ⟨⟨h1, h2, h3, h4, h5, h6⟩, hw⟩⟩
  | some s =>
    have e1 : μ 2572 0 0 = J 1 := h3.1
    rw [e1]
    refine ⟨fun _ => ?_, fun c => absurd c (by decide)⟩
    refine copy_spec (by omega) h3.2 (g.2.2.2.1 s rfl) (fun μ1 f ss => ?_)
    rintro μ2 rfl μ3 rfl
    have c1 : CB (setT (t, Hs, some s, m, i, e) s) μ1 := CB.st ⟨h1, h2, h3, h4, h5, h6⟩ f ss
    obtain ⟨d1, d2, d3, d4, d5, d6⟩ := c1
    have b1 : Bt [641] μ1 (up μ1 641 0 0 0) := Bt.up (by decide)
    have b2 : Bt [2573] (up μ1 641 0 0 0) (up (up μ1 641 0 0 0) 2573 0 0 0) := Bt.up (by decide)
    have q : ∀ j, j ≠ 641 → up μ1 641 0 0 0 j = μ1 j := fun j hj => b1 j (by simpa using hj)
    rw [b2 1 (by decide), q 1 (by decide), show μ1 1 0 0 = J s.1 from ss.1.1]
    refine h _ ((f.frC.tr (b1.frC (by decide))).tr (b2.frC (by decide))) (CI.mk0 (CB.bt ?_ b2 (by decide)) up_self)
    obtain ⟨nx, a1, a2, a3, a4, a5⟩ := d2
    exact ⟨d1.ev (fun j hj => q j (by omega)), ⟨nx, a1, Nat.zero_le _, up_self, by rw [q _ (by omega)]; exact a4, fun j hj => absurd hj (Nat.not_lt_zero _)⟩, d3.ev (q _ (by omega)) (fun j hj => q j (by omega)), d4.ev (q _ (by omega)), d5.ev (q _ (by omega)) (q _ (by omega)), by rw [q _ (by omega)]; exact d6⟩
