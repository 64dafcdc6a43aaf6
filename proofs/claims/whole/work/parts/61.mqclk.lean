theorem m_offset_op {S : GS} {μ : Mem} (hm : MI S μ) (g : GOK S) {a : Int} (ha : (-2147483648 ≤ a ∧ a ≤ 2147483647)) {P : Int32 → Mem → Prop} (h : MRes J (op_offset S a) μ P) : w9_offset_wp μ (J a) P := by
  unfold op_offset at h
  unfold w9_offset_wp
  refine m_kn0 hm g (fun μ1 f1 t1 k1 => ?_)
  refine isService_spec ha (fun c => ⟨fun c => absurd c (by decide), fun _ => ?_⟩) (fun c => ⟨fun _ => by rw [if_neg c] at h; exact m_fails rfl h f1 k1.1, fun c => absurd rfl c⟩)
  rw [if_pos c] at h
  have e := k1.2.1.2.1 a.toNat (by omega)
  simp (disch := omega) only [lJ0, lJ1, lJ2, lJ3, lJ4, lJ5, lJ6, lJ7, lJ8, lJ9, lJ10, lJ30, lJ32, lJ33, lJ39, lJ40, lJ41, lJ45, lJ47, lJ48, lJ51, lJ55, lJ57, lJ58, lJ59, lJ60, lJ64, lJ80, lJ82, lJ99, lJ100, lJ101, lJ123, lJ126, lJ282, lJ342, lJ1000, lJ1100, lJ2394, lJ2736, lJ9999, lJ10000, lJ1000000, lJ100000000, J_add, J_sub, J_mul, J_neg, J_le, J_lt, J_eq, J_in, J_clamp, Int.toNat_natCast, e]
  exact ⟨by omega, m_ok h f1 k1.1 t1 rfl⟩
theorem m_freedom_op {S : GS} {μ : Mem} (hm : MI S μ) (g : GOK S) {a : Int} (ha : (-2147483648 ≤ a ∧ a ≤ 2147483647)) {P : Int32 → Mem → Prop} (h : MRes J (op_freedom S a) μ P) : w9_freedom_wp μ (J a) P := by
  unfold op_freedom at h
  unfold w9_freedom_wp
  refine m_kn0 hm g (fun μ1 f1 t1 k1 => ?_)
  refine isService_spec ha (fun c => ⟨fun _ => ?_, fun c => absurd c (by decide)⟩) (fun c => ⟨fun c => absurd rfl c, fun _ => by rw [if_neg c] at h; exact m_fails rfl h f1 k1.1⟩)
  rw [if_pos c] at h
  have e := k1.2.1.2.2 a.toNat (by omega)
  have r := chc_rg g.w (s := a.toNat) (by omega)
  unfold fre at e
  by_cases c2 : chc (S.1.1) (S.1.2.1) a.toNat = 0
  · rw [if_pos c2] at e h
    simp (disch := omega) only [lJ0, lJ1, lJ2, lJ3, lJ4, lJ5, lJ6, lJ7, lJ8, lJ9, lJ10, lJ30, lJ32, lJ33, lJ39, lJ40, lJ41, lJ45, lJ47, lJ48, lJ51, lJ55, lJ57, lJ58, lJ59, lJ60, lJ64, lJ80, lJ82, lJ99, lJ100, lJ101, lJ123, lJ126, lJ282, lJ342, lJ1000, lJ1100, lJ2394, lJ2736, lJ9999, lJ10000, lJ1000000, lJ100000000, J_add, J_sub, J_mul, J_neg, J_le, J_lt, J_eq, J_in, J_clamp, Int.toNat_natCast, e]
    exact ⟨by omega, fun c => absurd trivial c, fun _ => m_fails rfl h f1 k1.1⟩
  · rw [if_neg c2] at e h
    simp (disch := omega) only [lJ0, lJ1, lJ2, lJ3, lJ4, lJ5, lJ6, lJ7, lJ8, lJ9, lJ10, lJ30, lJ32, lJ33, lJ39, lJ40, lJ41, lJ45, lJ47, lJ48, lJ51, lJ55, lJ57, lJ58, lJ59, lJ60, lJ64, lJ80, lJ82, lJ99, lJ100, lJ101, lJ123, lJ126, lJ282, lJ342, lJ1000, lJ1100, lJ2394, lJ2736, lJ9999, lJ10000, lJ1000000, lJ100000000, J_add, J_sub, J_mul, J_neg, J_le, J_lt, J_eq, J_in, J_clamp, Int.toNat_natCast, e]
    exact ⟨by omega, fun _ => ⟨by omega, m_ok h f1 k1.1 t1 rfl⟩, fun c => by omega⟩
theorem m_pairs {S : GS} {μ : Mem} (hm : MI S μ) (g : GOK S) {v : Int} (hv : 0 ≤ v ∧ v ≤ 1) {P : Int32 → Mem → Prop} (h : MRes J (op_pairs S v) μ P) : w9_pairs_wp μ (J v) P := by
  unfold op_pairs at h
  unfold w9_pairs_wp
  have rn := g.1.n
  refine m_kn0 hm g (fun μ1 f1 t1 k1 => ?_)
  intro R hR
  refine down (Q := fun i => R μ1 (J v) (J (cnt (fun i => ver (S.1.1) (S.1.2.1) i = if v = 0 then 2 else 1) i)) (J i)) (S.1.1) (fun i hi ih => ?_)
  apply hR
  unfold w9_pairs_b13_body
  have e0 : μ1 3264 0 0 = J (S.1.1) := k1.1.1.1.1
  rcases Nat.lt_or_ge i (S.1.1) with c | c
  · have ih := ih c
    have rv := ver_rg (S.1.1) (S.1.2.1) i
    have e := k1.2.1.1 i c
    have key : ∀ q : Int, q = (if v = 0 then 0 else 1) → w9_pairs_b39 P R μ1 (J v) (J i) (J q) (J (ps (S.1.1) (S.1.2.1) i)) (J (cnt (fun i => ver (S.1.1) (S.1.2.1) i = if v = 0 then 2 else 1) i)) := by
      intro q hq
      unfold w9_pairs_b39
      have rp : ps (S.1.1) (S.1.2.1) i = -1 ∨ ps (S.1.1) (S.1.2.1) i = 0 ∨ ps (S.1.1) (S.1.2.1) i = 1 := by unfold ps; split <;> (try split) <;> simp
      have rq : q = 0 ∨ q = 1 := by rw [hq]; split <;> simp
      have iff1 : ps (S.1.1) (S.1.2.1) i = q ↔ ver (S.1.1) (S.1.2.1) i = if v = 0 then 2 else 1 := by
        rw [hq]
        unfold ps
        split <;> split <;> (try split) <;> omega
      simp (disch := omega) only [lJ0, lJ1, lJ2, lJ3, lJ4, lJ5, lJ6, lJ7, lJ8, lJ9, lJ10, lJ30, lJ32, lJ33, lJ39, lJ40, lJ41, lJ45, lJ47, lJ48, lJ51, lJ55, lJ57, lJ58, lJ59, lJ60, lJ64, lJ80, lJ82, lJ99, lJ100, lJ101, lJ123, lJ126, lJ282, lJ342, lJ1000, lJ1100, lJ2394, lJ2736, lJ9999, lJ10000, lJ1000000, lJ100000000, J_add, J_sub, J_mul, J_neg, J_le, J_lt, J_eq, J_in, J_clamp, Int.toNat_natCast]
      rw [cnt_succ] at ih
      refine ⟨fun c2 => ?_, fun c2 => ?_⟩
      · rw [if_neg (fun z => c2 (iff1.mpr z))] at ih
        rw [Int.add_zero]
        exact ih
      · rw [if_pos (iff1.mp c2)] at ih
        exact ih
    simp (disch := omega) only [lJ0, lJ1, lJ2, lJ3, lJ4, lJ5, lJ6, lJ7, lJ8, lJ9, lJ10, lJ30, lJ32, lJ33, lJ39, lJ40, lJ41, lJ45, lJ47, lJ48, lJ51, lJ55, lJ57, lJ58, lJ59, lJ60, lJ64, lJ80, lJ82, lJ99, lJ100, lJ101, lJ123, lJ126, lJ282, lJ342, lJ1000, lJ1100, lJ2394, lJ2736, lJ9999, lJ10000, lJ1000000, lJ100000000, J_add, J_sub, J_mul, J_neg, J_le, J_lt, J_eq, J_in, J_clamp, Int.toNat_natCast, Int.toNat_zero, e0, e]
    refine ⟨by omega, fun _ => by omega, fun _ => ⟨by omega, fun c2 => key 0 (by rw [if_pos c2]), fun c2 => key 1 (by rw [if_neg c2])⟩⟩
  · have e9 : i = S.1.1 := by omega
    subst e9
    simp (disch := omega) only [lJ0, lJ1, lJ2, lJ3, lJ4, lJ5, lJ6, lJ7, lJ8, lJ9, lJ10, lJ30, lJ32, lJ33, lJ39, lJ40, lJ41, lJ45, lJ47, lJ48, lJ51, lJ55, lJ57, lJ58, lJ59, lJ60, lJ64, lJ80, lJ82, lJ99, lJ100, lJ101, lJ123, lJ126, lJ282, lJ342, lJ1000, lJ1100, lJ2394, lJ2736, lJ9999, lJ10000, lJ1000000, lJ100000000, J_add, J_sub, J_mul, J_neg, J_le, J_lt, J_eq, J_in, J_clamp, Int.toNat_natCast, Int.toNat_zero, e0]
    exact ⟨by omega, fun _ => m_ok h f1 k1.1 t1 rfl, fun c => absurd (Int.le_refl _) c⟩
theorem m_isAccepted {S : GS} {μ : Mem} (hm : MI S μ) (g : GOK S) {z : Int} (hz : (-2147483648 ≤ z ∧ z ≤ 2147483647)) {P : Int32 → Mem → Prop} (h : MRes J (op_isAccepted S z) μ P) : w9_isAccepted_wp μ (J z) P := by
  unfold op_isAccepted at h
  unfold w9_isAccepted_wp
  have rn := g.1.n
  refine m_on2 hm g hz (fun c μ1 f1 k1 t1 => ⟨fun c => absurd c (by rw [t1]; decide), fun _ => by rw [if_pos c] at h; exact m_thw h f1 k1 t1⟩) (fun i hi ei ez μ1 f1 k1 t1 => ⟨fun _ => ?_, fun c => absurd (by rw [t1]; decide) c⟩)
  rw [if_neg (by omega), ei, Int.toNat_natCast] at h
  refine knows_spec2 k1 g (fun μ2 f2 t2 k2 => ?_)
  have t2' := t2.trans t1
  have e := k2.2.1.1 i hi
  have rv := ver_rg (S.1.1) (S.1.2.1) i
  have f12 := f1.tr f2
  have b : ∀ q : Int, Bt [3201] μ2 (up μ2 3201 0 0 (J q)) := fun q => Bt.up (by decide)
  unfold w9_isAccepted_b35
  unfold ps at e
  rcases rv with rv | rv | rv
  · rw [if_pos rv] at e h
    simp (disch := omega) only [lJ0, lJ1, lJ2, lJ3, lJ4, lJ5, lJ6, lJ7, lJ8, lJ9, lJ10, lJ30, lJ32, lJ33, lJ39, lJ40, lJ41, lJ45, lJ47, lJ48, lJ51, lJ55, lJ57, lJ58, lJ59, lJ60, lJ64, lJ80, lJ82, lJ99, lJ100, lJ101, lJ123, lJ126, lJ282, lJ342, lJ1000, lJ1100, lJ2394, lJ2736, lJ9999, lJ10000, lJ1000000, lJ100000000, J_add, J_sub, J_mul, J_neg, J_le, J_lt, J_eq, J_in, J_clamp, Int.toNat_natCast, e]
    refine ⟨by omega, fun c => absurd trivial c, fun _ => ?_⟩
    rintro μ3 rfl
    have e3 : up μ2 3201 0 0 (J 2) 3904 0 i = J (-1) := by rw [b 2 _ (by decide)]; exact e
    simp (disch := omega) only [lJ0, lJ1, lJ2, lJ3, lJ4, lJ5, lJ6, lJ7, lJ8, lJ9, lJ10, lJ30, lJ32, lJ33, lJ39, lJ40, lJ41, lJ45, lJ47, lJ48, lJ51, lJ55, lJ57, lJ58, lJ59, lJ60, lJ64, lJ80, lJ82, lJ99, lJ100, lJ101, lJ123, lJ126, lJ282, lJ342, lJ1000, lJ1100, lJ2394, lJ2736, lJ9999, lJ10000, lJ1000000, lJ100000000, J_add, J_sub, J_mul, J_neg, J_le, J_lt, J_eq, J_in, J_clamp, Int.toNat_natCast, e3]
    exact ⟨by omega, fun _ => m_thw h (f12.tr ((b 2).frM (by decide))) (k2.1.bt (b 2) (by decide)) up_self, fun c => by omega⟩
  · rw [if_neg (by omega), if_pos rv] at e
    rw [if_neg (by omega), if_pos rv] at h
    simp (disch := omega) only [lJ0, lJ1, lJ2, lJ3, lJ4, lJ5, lJ6, lJ7, lJ8, lJ9, lJ10, lJ30, lJ32, lJ33, lJ39, lJ40, lJ41, lJ45, lJ47, lJ48, lJ51, lJ55, lJ57, lJ58, lJ59, lJ60, lJ64, lJ80, lJ82, lJ99, lJ100, lJ101, lJ123, lJ126, lJ282, lJ342, lJ1000, lJ1100, lJ2394, lJ2736, lJ9999, lJ10000, lJ1000000, lJ100000000, J_add, J_sub, J_mul, J_neg, J_le, J_lt, J_eq, J_in, J_clamp, Int.toNat_natCast, e]
    refine ⟨by omega, fun _ => ?_, fun c => by omega⟩
    rintro μ3 rfl
    have e3 : up μ2 3201 0 0 (J 0) 3904 0 i = J 1 := by rw [b 0 _ (by decide)]; exact e
    simp (disch := omega) only [lJ0, lJ1, lJ2, lJ3, lJ4, lJ5, lJ6, lJ7, lJ8, lJ9, lJ10, lJ30, lJ32, lJ33, lJ39, lJ40, lJ41, lJ45, lJ47, lJ48, lJ51, lJ55, lJ57, lJ58, lJ59, lJ60, lJ64, lJ80, lJ82, lJ99, lJ100, lJ101, lJ123, lJ126, lJ282, lJ342, lJ1000, lJ1100, lJ2394, lJ2736, lJ9999, lJ10000, lJ1000000, lJ100000000, J_add, J_sub, J_mul, J_neg, J_le, J_lt, J_eq, J_in, J_clamp, Int.toNat_natCast, e3]
    exact ⟨by omega, fun c => absurd trivial c, fun _ => m_ok h (f12.tr ((b 0).frM (by decide))) (k2.1.bt (b 0) (by decide)) up_self rfl⟩
  · rw [if_neg (by omega), if_neg (by omega)] at e
    rw [if_neg (by omega), if_neg (by omega)] at h
    simp (disch := omega) only [lJ0, lJ1, lJ2, lJ3, lJ4, lJ5, lJ6, lJ7, lJ8, lJ9, lJ10, lJ30, lJ32, lJ33, lJ39, lJ40, lJ41, lJ45, lJ47, lJ48, lJ51, lJ55, lJ57, lJ58, lJ59, lJ60, lJ64, lJ80, lJ82, lJ99, lJ100, lJ101, lJ123, lJ126, lJ282, lJ342, lJ1000, lJ1100, lJ2394, lJ2736, lJ9999, lJ10000, lJ1000000, lJ100000000, J_add, J_sub, J_mul, J_neg, J_le, J_lt, J_eq, J_in, J_clamp, Int.toNat_natCast, e]
    refine ⟨by omega, fun _ => ?_, fun c => by omega⟩
    rintro μ3 rfl
    have e3 : up μ2 3201 0 0 (J 0) 3904 0 i = J 0 := by rw [b 0 _ (by decide)]; exact e
    simp (disch := omega) only [lJ0, lJ1, lJ2, lJ3, lJ4, lJ5, lJ6, lJ7, lJ8, lJ9, lJ10, lJ30, lJ32, lJ33, lJ39, lJ40, lJ41, lJ45, lJ47, lJ48, lJ51, lJ55, lJ57, lJ58, lJ59, lJ60, lJ64, lJ80, lJ82, lJ99, lJ100, lJ101, lJ123, lJ126, lJ282, lJ342, lJ1000, lJ1100, lJ2394, lJ2736, lJ9999, lJ10000, lJ1000000, lJ100000000, J_add, J_sub, J_mul, J_neg, J_le, J_lt, J_eq, J_in, J_clamp, Int.toNat_natCast, e3]
    exact ⟨by omega, fun _ => m_ok h (f12.tr ((b 0).frM (by decide))) (k2.1.bt (b 0) (by decide)) up_self rfl, fun c => by omega⟩
theorem MQ9.bt {S : GS} {μ μ' : Mem} {js : List Nat} (k : MQ9 S μ) (b : Bt js μ μ') (hj : ∀ j ∈ js, Mp j = true) : MQ9 S μ' := by
  have q : ∀ j, Mp j = false → μ' j = μ j := fun _ z => b.ne hj z
  exact ⟨k.1.bt b hj, k.2.1.ev (q _ rfl) (q _ rfl) (q _ rfl), k.2.2.ev (q _ rfl) (q _ rfl) (q _ rfl) (q _ rfl) (q _ rfl)⟩
theorem m_isInside {S : GS} {μ : Mem} (hm : MI S μ) (g : GOK S) {z : Int} (hz : (-2147483648 ≤ z ∧ z ≤ 2147483647)) {P : Int32 → Mem → Prop} (h : MRes J (op_isInside S z) μ P) : w9_isInside_wp μ (J z) P := by
  unfold op_isInside at h
  unfold w9_isInside_wp
  have rn := g.1.n
  refine m_on2 hm g hz (fun c μ1 f1 k1 t1 => ⟨fun c => absurd c (by rw [t1]; decide), fun _ => by rw [if_pos c] at h; exact m_thw h f1 k1 t1⟩) (fun i hi ei ez μ1 f1 k1 t1 => ⟨fun _ => ?_, fun c => absurd (by rw [t1]; decide) c⟩)
  rw [if_neg (by omega), ei, Int.toNat_natCast] at h
  refine knows_spec2 k1 g (fun μ2 f2 t2 k2 => ?_)
  have f12 := f1.tr f2
  refine parentOf_spec k2.1.1.1 g.w hi ?_
  have rp := pp_rg (S.1.1) (S.1.2.1) i
  have b : ∀ q : Int, Bt [3201] μ2 (up μ2 3201 0 0 (J q)) := fun q => Bt.up (by decide)
  unfold w9_isInside_b36
  simp (disch := omega) only [lJ0, lJ1, lJ2, lJ3, lJ4, lJ5, lJ6, lJ7, lJ8, lJ9, lJ10, lJ30, lJ32, lJ33, lJ39, lJ40, lJ41, lJ45, lJ47, lJ48, lJ51, lJ55, lJ57, lJ58, lJ59, lJ60, lJ64, lJ80, lJ82, lJ99, lJ100, lJ101, lJ123, lJ126, lJ282, lJ342, lJ1000, lJ1100, lJ2394, lJ2736, lJ9999, lJ10000, lJ1000000, lJ100000000, J_add, J_sub, J_mul, J_neg, J_le, J_lt, J_eq, J_in, J_clamp, Int.toNat_natCast]
  refine ⟨fun c => ?_, fun c => ?_⟩
  · rintro μ3 rfl
    rw [if_neg c] at h
    have k3 := k2.bt (b 0) (by decide)
    have f3 := f12.tr ((b 0).frM (by decide))
    have t3 : up μ2 3201 0 0 (J 0) 3201 0 0 = J 0 := up_self
    generalize up μ2 3201 0 0 (J 0) = μ3 at k3 f3 t3 ⊢
    refine ⟨fun c2 => absurd c2 c, fun _ => ?_⟩
    have ep : pp (S.1.1) (S.1.2.1) i = ((pp (S.1.1) (S.1.2.1) i).toNat : Nat) := by omega
    have b1 := be_rg g.w hi
    have b2 := be_rg g.w (i := (pp (S.1.1) (S.1.2.1) i).toNat) (by omega)
    refine m_begin_spec k3 g hi rfl ?_
    refine m_begin_spec k3 g (i := (pp (S.1.1) (S.1.2.1) i).toNat) (by omega) (by rw [← ep]) ?_
    simp (disch := omega) only [lJ0, lJ1, lJ2, lJ3, lJ4, lJ5, lJ6, lJ7, lJ8, lJ9, lJ10, lJ30, lJ32, lJ33, lJ39, lJ40, lJ41, lJ45, lJ47, lJ48, lJ51, lJ55, lJ57, lJ58, lJ59, lJ60, lJ64, lJ80, lJ82, lJ99, lJ100, lJ101, lJ123, lJ126, lJ282, lJ342, lJ1000, lJ1100, lJ2394, lJ2736, lJ9999, lJ10000, lJ1000000, lJ100000000, J_add, J_sub, J_mul, J_neg, J_le, J_lt, J_eq, J_in, J_clamp, Int.toNat_natCast]
    refine ⟨fun c2 => by rw [if_neg (by omega)] at h; exact m_ok h f3 k3.1 t3 rfl, fun c2 => ?_⟩
    refine m_end_spec k3 g hi rfl ?_
    refine m_end_spec k3 g (i := (pp (S.1.1) (S.1.2.1) i).toNat) (by omega) (by rw [← ep]) ?_
    simp (disch := omega) only [lJ0, lJ1, lJ2, lJ3, lJ4, lJ5, lJ6, lJ7, lJ8, lJ9, lJ10, lJ30, lJ32, lJ33, lJ39, lJ40, lJ41, lJ45, lJ47, lJ48, lJ51, lJ55, lJ57, lJ58, lJ59, lJ60, lJ64, lJ80, lJ82, lJ99, lJ100, lJ101, lJ123, lJ126, lJ282, lJ342, lJ1000, lJ1100, lJ2394, lJ2736, lJ9999, lJ10000, lJ1000000, lJ100000000, J_add, J_sub, J_mul, J_neg, J_le, J_lt, J_eq, J_in, J_clamp, Int.toNat_natCast]
    exact ⟨fun c3 => by rw [if_neg (by omega)] at h; exact m_ok h f3 k3.1 t3 rfl, fun c3 => by rw [if_pos (by omega)] at h; exact m_ok h f3 k3.1 t3 rfl⟩
  · rintro μ3 rfl
    rw [if_pos c] at h
    refine ⟨fun _ => m_thw h (f12.tr ((b 2).frM (by decide))) (k2.1.bt (b 2) (by decide)) up_self, fun c2 => absurd c c2⟩
theorem m_corrected {S : GS} {μ : Mem} (hm : MI S μ) (g : GOK S) {z v : Int} (hz : (-2147483648 ≤ z ∧ z ≤ 2147483647)) (hv : 0 ≤ v ∧ v ≤ 1) {P : Int32 → Mem → Prop} (h : MRes J (op_corrected S z v) μ P) : w9_corrected_wp μ (J z) (J v) P := by
  unfold op_corrected at h
  unfold w9_corrected_wp
  refine m_on2 hm g hz (fun c μ1 f1 k1 t1 => ⟨fun c => absurd c (by rw [t1]; decide), fun _ => by rw [if_pos c] at h; exact m_thw h f1 k1 t1⟩) (fun i hi ei ez μ1 f1 k1 t1 => ⟨fun _ => ?_, fun c => absurd (by rw [t1]; decide) c⟩)
  rw [if_neg (by omega), ei, Int.toNat_natCast] at h
  refine knows_spec2 k1 g (fun μ2 f2 t2 k2 => ?_)
  simp (disch := omega) only [lJ0, lJ1, lJ2, lJ3, lJ4, lJ5, lJ6, lJ7, lJ8, lJ9, lJ10, lJ30, lJ32, lJ33, lJ39, lJ40, lJ41, lJ45, lJ47, lJ48, lJ51, lJ55, lJ57, lJ58, lJ59, lJ60, lJ64, lJ80, lJ82, lJ99, lJ100, lJ101, lJ123, lJ126, lJ282, lJ342, lJ1000, lJ1100, lJ2394, lJ2736, lJ9999, lJ10000, lJ1000000, lJ100000000, J_add, J_sub, J_mul, J_neg, J_le, J_lt, J_eq, J_in, J_clamp, Int.toNat_natCast]
  refine ⟨fun c => ?_, fun c => ?_⟩
  · rw [if_pos c] at h
    exact m_begin_spec k2 g hi rfl (m_ok h (f1.tr f2) k2.1 (t2.trans t1) rfl)
  · rw [if_neg c] at h
    exact m_end_spec k2 g hi rfl (m_ok h (f1.tr f2) k2.1 (t2.trans t1) rfl)
theorem m_explain {S : GS} {μ : Mem} (hm : MI S μ) (g : GOK S) {z : Int} (hz : (-2147483648 ≤ z ∧ z ≤ 2147483647)) {P : Int32 → Mem → Prop} (h : MRes J (op_explain S z) μ P) : w9_explain_wp μ (J z) P := by
  unfold op_explain at h
  unfold w9_explain_wp
  have rn := g.1.n
  refine m_on2 hm g hz (fun c μ1 f1 k1 t1 => ⟨fun c => absurd c (by rw [t1]; decide), fun _ => by rw [if_pos c] at h; exact m_thw h f1 k1 t1⟩) (fun i hi ei ez μ1 f1 k1 t1 => ⟨fun _ => ?_, fun c => absurd (by rw [t1]; decide) c⟩)
  rw [if_neg (by omega), ei, Int.toNat_natCast] at h
  refine knows_spec2 k1 g (fun μ2 f2 t2 k2 => ?_)
  have e := (k2.2.2.2 i hi).2
  simp (disch := omega) only [lJ0, lJ1, lJ2, lJ3, lJ4, lJ5, lJ6, lJ7, lJ8, lJ9, lJ10, lJ30, lJ32, lJ33, lJ39, lJ40, lJ41, lJ45, lJ47, lJ48, lJ51, lJ55, lJ57, lJ58, lJ59, lJ60, lJ64, lJ80, lJ82, lJ99, lJ100, lJ101, lJ123, lJ126, lJ282, lJ342, lJ1000, lJ1100, lJ2394, lJ2736, lJ9999, lJ10000, lJ1000000, lJ100000000, J_add, J_sub, J_mul, J_neg, J_le, J_lt, J_eq, J_in, J_clamp, Int.toNat_natCast, e]
  exact ⟨by omega, m_ok h (f1.tr f2) k2.1 (t2.trans t1) rfl⟩
theorem m_cutCount {S : GS} {μ : Mem} (hm : MI S μ) (g : GOK S) {P : Int32 → Mem → Prop} (h : MRes J (op_cutCount S) μ P) : w9_cutCount_wp μ P := by
  unfold op_cutCount at h
  unfold w9_cutCount_wp
  have rn := g.1.n
  refine m_kn0 hm g (fun μ1 f1 t1 k1 => ?_)
  intro R hR
  refine down (Q := fun i => R μ1 (J (cnt (fun i => kd (S.1.1) (S.1.2.1) i = 3) i)) (J i)) (S.1.1) (fun i hi ih => ?_)
  apply hR
  unfold w9_cutCount_b13_body
  have e0 : μ1 3264 0 0 = J (S.1.1) := k1.1.1.1.1
  rcases Nat.lt_or_ge i (S.1.1) with c | c
  · have ih := ih c
    have rv := kd_rg (S.1.1) (S.1.2.1) i
    have e := (k1.2.2.2 i c).2
    simp (disch := omega) only [lJ0, lJ1, lJ2, lJ3, lJ4, lJ5, lJ6, lJ7, lJ8, lJ9, lJ10, lJ30, lJ32, lJ33, lJ39, lJ40, lJ41, lJ45, lJ47, lJ48, lJ51, lJ55, lJ57, lJ58, lJ59, lJ60, lJ64, lJ80, lJ82, lJ99, lJ100, lJ101, lJ123, lJ126, lJ282, lJ342, lJ1000, lJ1100, lJ2394, lJ2736, lJ9999, lJ10000, lJ1000000, lJ100000000, J_add, J_sub, J_mul, J_neg, J_le, J_lt, J_eq, J_in, J_clamp, Int.toNat_natCast, Int.toNat_zero, e0, e, Int.add_zero]
    refine ⟨by omega, fun _ => by omega, fun _ => ⟨by omega, fun c2 => ?_, fun c2 => ?_⟩⟩
    · simpa [cnt_succ, c2] using ih
    · simpa [cnt_succ, c2] using ih
  · have e9 : i = S.1.1 := by omega
    subst e9
    simp (disch := omega) only [lJ0, lJ1, lJ2, lJ3, lJ4, lJ5, lJ6, lJ7, lJ8, lJ9, lJ10, lJ30, lJ32, lJ33, lJ39, lJ40, lJ41, lJ45, lJ47, lJ48, lJ51, lJ55, lJ57, lJ58, lJ59, lJ60, lJ64, lJ80, lJ82, lJ99, lJ100, lJ101, lJ123, lJ126, lJ282, lJ342, lJ1000, lJ1100, lJ2394, lJ2736, lJ9999, lJ10000, lJ1000000, lJ100000000, J_add, J_sub, J_mul, J_neg, J_le, J_lt, J_eq, J_in, J_clamp, Int.toNat_natCast, Int.toNat_zero, e0]
    exact ⟨by omega, fun _ => m_ok h f1 k1.1 t1 rfl, fun c => absurd (Int.le_refl _) c⟩
