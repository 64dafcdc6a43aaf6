theorem m_childOf_spec {S : GS} {μ : Mem} (k : MQ9 S μ) (g : GOK S) {x a : Int} (hx : -1 ≤ x ∧ x < 100) (ha : (-2147483648 ≤ a ∧ a ≤ 2147483647)) {P : Int32 → Mem → Prop} (h : P (J (nthe (S.1.1) (S.1.2.1) (fun i => ab (S.1.1) (S.1.2.1) i = x) a (S.1.1) 0)) μ) : w9_childOf_wp μ (J x) (J a) P := by
  have rn := g.1.n
  unfold w9_childOf_wp
  have e0 := k.n0
  intro R hR
  suffices H : ∀ d i : Nat, i + d = S.1.1 → P (J (nthe (S.1.1) (S.1.2.1) (fun i => ab (S.1.1) (S.1.2.1) i = x) a d i)) μ → R μ (J x) (J a) (J i) from H (S.1.1) 0 (by omega) h
  intro d
  induction d with
  | zero =>
    intro i hi h
    apply hR
    unfold w9_childOf_b2_body
    simp (disch := omega) only [lJ0, lJ1, lJ2, lJ3, lJ4, lJ5, lJ6, lJ7, lJ8, lJ9, lJ10, lJ30, lJ32, lJ33, lJ39, lJ40, lJ41, lJ45, lJ47, lJ48, lJ51, lJ55, lJ57, lJ58, lJ59, lJ60, lJ64, lJ80, lJ82, lJ99, lJ100, lJ101, lJ123, lJ126, lJ282, lJ342, lJ1000, lJ1100, lJ2394, lJ2736, lJ9999, lJ10000, lJ1000000, lJ100000000, J_add, J_sub, J_mul, J_neg, J_le, J_lt, J_eq, J_in, J_clamp, Int.toNat_natCast, Int.toNat_zero, e0]
    exact ⟨by omega, fun _ => h, fun c => absurd (by omega) c⟩
  | succ d ih =>
    intro i hi h
    have ci : i < S.1.1 := by omega
    have ei := k.ab ci
    have ri := ab_rg (w := S.1.2.1) ci
    apply hR
    unfold w9_childOf_b2_body
    simp (disch := omega) only [lJ0, lJ1, lJ2, lJ3, lJ4, lJ5, lJ6, lJ7, lJ8, lJ9, lJ10, lJ30, lJ32, lJ33, lJ39, lJ40, lJ41, lJ45, lJ47, lJ48, lJ51, lJ55, lJ57, lJ58, lJ59, lJ60, lJ64, lJ80, lJ82, lJ99, lJ100, lJ101, lJ123, lJ126, lJ282, lJ342, lJ1000, lJ1100, lJ2394, lJ2736, lJ9999, lJ10000, lJ1000000, lJ100000000, J_add, J_sub, J_mul, J_neg, J_le, J_lt, J_eq, J_in, J_clamp, Int.toNat_natCast, Int.toNat_zero, e0]
    refine ⟨by omega, fun c => absurd c (by omega), fun _ => ?_⟩
    intro R2 hR2
    refine down (Q := fun j => R2 μ (J x) (J a) (J i) (J (cnt (fun j => ab (S.1.1) (S.1.2.1) j = x ∧ erl (S.1.1) (S.1.2.1) j i) j)) (J j)) (S.1.1) (fun j hj ih2 => ?_)
    apply hR2
    unfold w9_childOf_b18_body
    have rc := cnt_le (p := fun j => ab (S.1.1) (S.1.2.1) j = x ∧ erl (S.1.1) (S.1.2.1) j i) (n := j)
    rcases Nat.lt_or_ge j (S.1.1) with cj | cj
    · have ih2 := ih2 cj
      have ej := k.ab cj
      have rj := ab_rg (w := S.1.2.1) cj
      rw [cnt_succ] at ih2
      simp (disch := omega) only [lJ0, lJ1, lJ2, lJ3, lJ4, lJ5, lJ6, lJ7, lJ8, lJ9, lJ10, lJ30, lJ32, lJ33, lJ39, lJ40, lJ41, lJ45, lJ47, lJ48, lJ51, lJ55, lJ57, lJ58, lJ59, lJ60, lJ64, lJ80, lJ82, lJ99, lJ100, lJ101, lJ123, lJ126, lJ282, lJ342, lJ1000, lJ1100, lJ2394, lJ2736, lJ9999, lJ10000, lJ1000000, lJ100000000, J_add, J_sub, J_mul, J_neg, J_le, J_lt, J_eq, J_in, J_clamp, Int.toNat_natCast, Int.toNat_zero, e0, ej, Int.add_zero]
      refine ⟨by omega, fun _ => by omega, fun _ => ⟨by omega, fun c5 => ?_, fun c5 => ?_⟩⟩
      · rw [if_neg (fun z => c5 z.1)] at ih2; exact ih2
      · refine m_isEarlier_spec k g cj ci (fun c6 => ⟨fun c => absurd c (by decide), fun _ => ?_⟩) (fun c6 => ⟨fun _ => ?_, fun c => absurd rfl c⟩)
        · rw [if_pos ⟨c5, c6⟩] at ih2; exact ih2
        · rw [if_neg (fun z => c6 z.2)] at ih2; exact ih2
    · have e9 : j = S.1.1 := by omega
      subst e9
      unfold nthe at h
      simp (disch := omega) only [lJ0, lJ1, lJ2, lJ3, lJ4, lJ5, lJ6, lJ7, lJ8, lJ9, lJ10, lJ30, lJ32, lJ33, lJ39, lJ40, lJ41, lJ45, lJ47, lJ48, lJ51, lJ55, lJ57, lJ58, lJ59, lJ60, lJ64, lJ80, lJ82, lJ99, lJ100, lJ101, lJ123, lJ126, lJ282, lJ342, lJ1000, lJ1100, lJ2394, lJ2736, lJ9999, lJ10000, lJ1000000, lJ100000000, J_add, J_sub, J_mul, J_neg, J_le, J_lt, J_eq, J_in, J_clamp, Int.toNat_natCast, Int.toNat_zero, e0, ei]
      refine ⟨by omega, fun _ => ⟨by omega, fun c5 => ?_, fun c5 => ⟨fun c6 => ?_, fun c6 => ?_⟩⟩, fun c => absurd (Int.le_refl _) c⟩
      · rw [if_neg (fun z => c5 z.1)] at h; exact ih (i + 1) (by omega) h
      · rw [if_neg (fun z => c6 z.2)] at h; exact ih (i + 1) (by omega) h
      · rw [if_pos ⟨c5, c6⟩] at h; exact h
theorem nthe_neg {n : Nat} {w : View} {p : Nat → Prop} [DecidablePred p] {k : Int} (hk : k < 0) : nthe n w p k n 0 = -1 := by
  rcases nthe_at (n := n) (w := w) (p := p) (k := k) n 0 with ⟨e, -⟩ | ⟨j, h1, h2, h3, h4, h5⟩
  · exact e
  · have := cnt_le (p := fun l => p l ∧ erl n w l j) (n := n)
    omega
theorem nthe_rg {n : Nat} {w : View} {p : Nat → Prop} [DecidablePred p] {k : Int} : nthe n w p k n 0 = -1 ∨ (0 ≤ nthe n w p k n 0 ∧ nthe n w p k n 0 < n ∧ p (nthe n w p k n 0).toNat) := by
  rcases nthe_at (n := n) (w := w) (p := p) (k := k) n 0 with ⟨e, -⟩ | ⟨j, h1, h2, h3, h4, h5⟩
  · exact Or.inl e
  · rw [h3, Int.toNat_natCast]
    exact Or.inr ⟨by omega, by omega, h4⟩
theorem m_child {S : GS} {μ : Mem} (hm : MI S μ) (g : GOK S) {t q a : Int} (ht : (-2147483648 ≤ t ∧ t ≤ 2147483647)) (hq : (-2147483648 ≤ q ∧ q ≤ 2147483647)) (ha : (-2147483648 ≤ a ∧ a ≤ 2147483647)) {P : Int32 → Mem → Prop} (h : MRes J (op_child S t q a) μ P) : w9_child_wp μ (J t) (J q) (J a) P := by
  unfold op_child at h
  unfold w9_child_wp
  have rn := g.1.n
  have rl := hl_len g
  refine m_nodeOr_spec hm g ht hq (fun c μ' f k t1 => ⟨fun c => absurd c (by rw [t1]; decide), fun _ => by rw [if_neg c] at h; exact m_thw h f k t1⟩) (fun c c2 μ' f k t1 => ⟨fun c => absurd c (by rw [t1]; decide), fun _ => by rw [if_pos c, if_pos c2] at h; exact m_thw h f k t1⟩) (fun c c2 μ' f k t1 => ⟨fun _ => ?_, fun c => absurd (by rw [t1]; decide) c⟩)
  rw [if_pos c, if_neg c2] at h
  have nx := nd_Nx g c2
  have rx : 0 ≤ nd (S.1.1) (S.1.2.1) t q ∧ nd (S.1.1) (S.1.2.1) t q < 100 := by unfold Nx at nx; omega
  have fin : ∀ z : Int, z = chO S t q a → w9_child_b32 P μ' (J z) := by
    rintro z hz
    have rz := nthe_rg (n := S.1.1) (w := S.1.2.1) (p := fun i => ab (S.1.1) (S.1.2.1) i = nd (S.1.1) (S.1.2.1) t q) (k := a)
    have rz : chO S t q a = -1 ∨ (0 ≤ chO S t q a ∧ chO S t q a < S.1.1 ∧ _) := rz
    rw [← hz] at h rz
    unfold w9_child_b32
    simp (disch := omega) only [lJ0, lJ1, lJ2, lJ3, lJ4, lJ5, lJ6, lJ7, lJ8, lJ9, lJ10, lJ30, lJ32, lJ33, lJ39, lJ40, lJ41, lJ45, lJ47, lJ48, lJ51, lJ55, lJ57, lJ58, lJ59, lJ60, lJ64, lJ80, lJ82, lJ99, lJ100, lJ101, lJ123, lJ126, lJ282, lJ342, lJ1000, lJ1100, lJ2394, lJ2736, lJ9999, lJ10000, lJ1000000, lJ100000000, J_add, J_sub, J_mul, J_neg, J_le, J_lt, J_eq, J_in, J_clamp, Int.toNat_natCast]
    refine ⟨fun c3 => ?_, fun c3 => by rw [if_pos c3] at h; exact m_fails rfl h f k.1⟩
    rw [if_neg c3] at h
    exact of_spec k.1.1.1 rn z.toNat 0 (by congr 1; omega) rfl (by omega) (by omega) (m_ok h f k.1 t1 rfl)
  simp (disch := omega) only [lJ0, lJ1, lJ2, lJ3, lJ4, lJ5, lJ6, lJ7, lJ8, lJ9, lJ10, lJ30, lJ32, lJ33, lJ39, lJ40, lJ41, lJ45, lJ47, lJ48, lJ51, lJ55, lJ57, lJ58, lJ59, lJ60, lJ64, lJ80, lJ82, lJ99, lJ100, lJ101, lJ123, lJ126, lJ282, lJ342, lJ1000, lJ1100, lJ2394, lJ2736, lJ9999, lJ10000, lJ1000000, lJ100000000, J_add, J_sub, J_mul, J_neg, J_le, J_lt, J_eq, J_in, J_clamp, Int.toNat_natCast]
  refine ⟨fun c3 => ?_, fun c3 => fin (-1) ?_⟩
  · exact m_childOf_spec k g (by omega) ha (fin _ rfl)
  · exact (nthe_neg (by omega)).symm
theorem m_spanRoots_spec {S : GS} {μ : Mem} (k : MQ9 S μ) (g : GOK S) {t : Int} (ht : (-2147483648 ≤ t ∧ t ≤ 2147483647)) {P : Int32 → Mem → Prop} (h : P (J (cnt (fun i => S.1.2.1 i 1 = t ∧ ab (S.1.1) (S.1.2.1) i = -1) (S.1.1))) μ) : w9_spanRoots_wp μ (J t) P := by
  intro R hR
  have rn := g.1.n
  refine down (Q := fun i => R μ (J t) (J (cnt (fun i => S.1.2.1 i 1 = t ∧ ab (S.1.1) (S.1.2.1) i = -1) i)) (J i)) (S.1.1) (fun i hi ih => ?_)
  apply hR
  unfold w9_spanRoots_b4_body
  have e0 := k.n0
  rcases Nat.lt_or_ge i (S.1.1) with c | c
  · have ih := ih c
    have e := k.ab c
    have ra := ab_rg (w := S.1.2.1) c
    have ri := g.w.r i c
    simp (disch := omega) only [lJ0, lJ1, lJ2, lJ3, lJ4, lJ5, lJ6, lJ7, lJ8, lJ9, lJ10, lJ30, lJ32, lJ33, lJ39, lJ40, lJ41, lJ45, lJ47, lJ48, lJ51, lJ55, lJ57, lJ58, lJ59, lJ60, lJ64, lJ80, lJ82, lJ99, lJ100, lJ101, lJ123, lJ126, lJ282, lJ342, lJ1000, lJ1100, lJ2394, lJ2736, lJ9999, lJ10000, lJ1000000, lJ100000000, J_add, J_sub, J_mul, J_neg, J_le, J_lt, J_eq, J_in, J_clamp, Int.toNat_natCast, Int.toNat_zero, e0, Int.add_zero]
    refine ⟨by omega, fun _ => by omega, fun _ => ?_⟩
    rw [cnt_succ] at ih
    refine of_spec k.1.1.1 rn i 1 rfl rfl c (by omega) ?_
    simp (disch := omega) only [lJ0, lJ1, lJ2, lJ3, lJ4, lJ5, lJ6, lJ7, lJ8, lJ9, lJ10, lJ30, lJ32, lJ33, lJ39, lJ40, lJ41, lJ45, lJ47, lJ48, lJ51, lJ55, lJ57, lJ58, lJ59, lJ60, lJ64, lJ80, lJ82, lJ99, lJ100, lJ101, lJ123, lJ126, lJ282, lJ342, lJ1000, lJ1100, lJ2394, lJ2736, lJ9999, lJ10000, lJ1000000, lJ100000000, J_add, J_sub, J_mul, J_neg, J_le, J_lt, J_eq, J_in, J_clamp, Int.toNat_natCast, e]
    refine ⟨fun c2 => ?_, fun c2 => ⟨by omega, fun c3 => ?_, fun c3 => ?_⟩⟩
    · rw [if_neg (fun z => c2 z.1)] at ih; exact ih
    · rw [if_neg (fun z => c3 z.2)] at ih; exact ih
    · rw [if_pos ⟨c2, c3⟩] at ih; exact ih
  · have e9 : i = S.1.1 := by omega
    subst e9
    simp (disch := omega) only [lJ0, lJ1, lJ2, lJ3, lJ4, lJ5, lJ6, lJ7, lJ8, lJ9, lJ10, lJ30, lJ32, lJ33, lJ39, lJ40, lJ41, lJ45, lJ47, lJ48, lJ51, lJ55, lJ57, lJ58, lJ59, lJ60, lJ64, lJ80, lJ82, lJ99, lJ100, lJ101, lJ123, lJ126, lJ282, lJ342, lJ1000, lJ1100, lJ2394, lJ2736, lJ9999, lJ10000, lJ1000000, lJ100000000, J_add, J_sub, J_mul, J_neg, J_le, J_lt, J_eq, J_in, J_clamp, Int.toNat_natCast, Int.toNat_zero, e0]
    exact ⟨by omega, fun _ => h, fun c => absurd (Int.le_refl _) c⟩
theorem m_holderRoots_spec {S : GS} {μ : Mem} (k : MQ9 S μ) (g : GOK S) {t : Int} (ht : (-2147483648 ≤ t ∧ t ≤ 2147483647)) {P : Int32 → Mem → Prop} (h : P (J (cnt (fun i => lf (hl (S.1.1) (S.1.2.1) (S.1.1)) i = t) (hl (S.1.1) (S.1.2.1) (S.1.1)).length)) μ) : w9_holderRoots_wp μ (J t) P := by
  intro R hR
  have rl := hl_len g
  refine down (Q := fun i => R μ (J t) (J (cnt (fun i => lf (hl (S.1.1) (S.1.2.1) (S.1.1)) i = t) i)) (J i)) (hl (S.1.1) (S.1.2.1) (S.1.1)).length (fun i hi ih => ?_)
  apply hR
  unfold w9_holderRoots_b4_body
  have e0 := k.2.2.1.1
  rcases Nat.lt_or_ge i (hl (S.1.1) (S.1.2.1) (S.1.1)).length with c | c
  · have ih := ih c
    have e := (k.2.2.1.2 i c).1
    have ra := hl_rg g.w (Nat.le_refl _) i c
    rw [cnt_succ] at ih
    simp (disch := omega) only [lJ0, lJ1, lJ2, lJ3, lJ4, lJ5, lJ6, lJ7, lJ8, lJ9, lJ10, lJ30, lJ32, lJ33, lJ39, lJ40, lJ41, lJ45, lJ47, lJ48, lJ51, lJ55, lJ57, lJ58, lJ59, lJ60, lJ64, lJ80, lJ82, lJ99, lJ100, lJ101, lJ123, lJ126, lJ282, lJ342, lJ1000, lJ1100, lJ2394, lJ2736, lJ9999, lJ10000, lJ1000000, lJ100000000, J_add, J_sub, J_mul, J_neg, J_le, J_lt, J_eq, J_in, J_clamp, Int.toNat_natCast, e0, e, Int.add_zero]
    refine ⟨fun _ => by omega, fun _ => ⟨by omega, fun c2 => ?_, fun c2 => ?_⟩⟩
    · rw [if_neg c2] at ih; exact ih
    · rw [if_pos c2] at ih; exact ih
  · have e9 : i = (hl (S.1.1) (S.1.2.1) (S.1.1)).length := by omega
    rw [e9]
    simp (disch := omega) only [lJ0, lJ1, lJ2, lJ3, lJ4, lJ5, lJ6, lJ7, lJ8, lJ9, lJ10, lJ30, lJ32, lJ33, lJ39, lJ40, lJ41, lJ45, lJ47, lJ48, lJ51, lJ55, lJ57, lJ58, lJ59, lJ60, lJ64, lJ80, lJ82, lJ99, lJ100, lJ101, lJ123, lJ126, lJ282, lJ342, lJ1000, lJ1100, lJ2394, lJ2736, lJ9999, lJ10000, lJ1000000, lJ100000000, J_add, J_sub, J_mul, J_neg, J_le, J_lt, J_eq, J_in, J_clamp, Int.toNat_natCast, e0]
    exact ⟨fun _ => h, fun c => absurd (Int.le_refl _) c⟩
/-- roots that are spans -/
theorem RQ_span {n : Nat} {w : View} (hw : WF n w) (t : Int) : cnt (fun q => RQ n w t q ∧ ¬ 1000 ≤ q) 1100 = cnt (fun i => w i 1 = t ∧ ab n w i = -1) n := by
  refine cnt_bij (f := fun i => (w i 0).toNat) n _ _ (fun i hi _ => by have := hw.r i hi; omega) (fun i j hi hj _ _ e => hw.2.2 i j hi hj (by have := hw.r i hi; have := hw.r j hj; omega)) (fun q hq => ?_)
  rw [RQ_iff hw]
  constructor
  · rintro ⟨⟨i, hi, e1, e2, e3⟩, z⟩
    have ri := hw.r i hi
    unfold rno at e3
    rw [top_self hw hi e2] at e3
    have k2 : kd n w i ≠ 2 := fun d => by
      rw [if_pos d] at e3
      have : w i 2 ≠ -1 := fun z => by unfold kd at d; rw [if_pos z] at d; omega
      omega
    rw [if_neg k2] at e3
    refine ⟨i, hi, ⟨e1, ?_⟩, by omega⟩
    rcases ab_tp hw hi with ⟨a1, a2, a3⟩ | ⟨a1, a2, ⟨a3, a4⟩ | ⟨a3, a4⟩⟩ <;> omega
  · rintro ⟨i, hi, ⟨e1, e2⟩, e3⟩
    have ri := hw.r i hi
    have kk : kd n w i ≠ 1 ∧ kd n w i ≠ 2 := by
      rcases ab_tp hw hi with ⟨a1, a2, a3⟩ | ⟨a1, a2, ⟨a3, a4⟩ | ⟨a3, a4⟩⟩ <;> omega
    refine ⟨⟨i, hi, e1, kk.1, ?_⟩, by omega⟩
    unfold rno
    rw [top_self hw hi kk.1, if_neg kk.2]
    omega
/-- roots that are placeholders -/
theorem RQ_hold {n : Nat} {w : View} (hw : WF n w) (t : Int) : cnt (fun q => RQ n w t q ∧ 1000 ≤ q) 1100 = cnt (fun i => lf (hl n w n) i = t) (hl n w n).length := by
  have hr := fun h hh => hl_rg hw (Nat.le_refl n) h hh
  refine cnt_bij (f := fun i => (1000 + lt (hl n w n) i).toNat) _ _ _ (fun i hi _ => by have := hr i hi; omega) (fun i j hi hj e1 e2 e => (hl_inv n w n).2.1 i j hi hj (by rw [e1, e2]) (by have := hr i hi; have := hr j hj; omega)) (fun q hq => ?_)
  constructor
  · rintro ⟨z, z2⟩
    obtain ⟨i, hi, e1, e2, e3⟩ := (RQ_iff hw).mp z
    have ri := hw.r i hi
    unfold rno at e3
    rw [top_self hw hi e2] at e3
    have k2 : kd n w i = 2 := by
      by_cases d : kd n w i = 2
      · exact d
      · rw [if_neg d] at e3; omega
    rw [if_pos k2] at e3
    have s := hfn_some ((hl_inv n w n).2.2.2 i hi k2)
    exact ⟨(hfn (hl n w n) (w i 1) (w i 2)).toNat, by omega, by rw [s.2.2.1]; exact e1, by rw [s.2.2.2]; omega⟩
  · rintro ⟨h, hh, e1, e2⟩
    obtain ⟨i, hi, k2, e3, e4⟩ := (hl_inv n w n).2.2.1 h hh
    have ri := hw.r i hi
    have rr := hr h hh
    refine ⟨(RQ_iff hw).mpr ⟨i, hi, by rw [← e3]; exact e1, by omega, ?_⟩, by omega⟩
    unfold rno
    rw [top_self hw hi (by omega), if_pos k2]
    omega
theorem m_roots {S : GS} {μ : Mem} (hm : MI S μ) (g : GOK S) {t f : Int} (ht : (-2147483648 ≤ t ∧ t ≤ 2147483647)) (hf : 0 ≤ f ∧ f ≤ 1) {P : Int32 → Mem → Prop} (h : MRes J (op_roots S t f) μ P) : w9_roots_wp μ (J t) (J f) P := by
  unfold op_roots at h
  unfold w9_roots_wp
  refine m_kn0 hm g (fun μ1 f1 t1 k1 => ?_)
  refine isTrace_spec ht (fun c => ⟨fun _ => ?_, fun c => absurd c (by decide)⟩) (fun c => ⟨fun c => absurd rfl c, fun _ => by rw [if_neg c] at h; exact m_fails rfl h f1 k1.1⟩)
  rw [if_pos c] at h
  simp (disch := omega) only [lJ0, lJ1, lJ2, lJ3, lJ4, lJ5, lJ6, lJ7, lJ8, lJ9, lJ10, lJ30, lJ32, lJ33, lJ39, lJ40, lJ41, lJ45, lJ47, lJ48, lJ51, lJ55, lJ57, lJ58, lJ59, lJ60, lJ64, lJ80, lJ82, lJ99, lJ100, lJ101, lJ123, lJ126, lJ282, lJ342, lJ1000, lJ1100, lJ2394, lJ2736, lJ9999, lJ10000, lJ1000000, lJ100000000, J_add, J_sub, J_mul, J_neg, J_le, J_lt, J_eq, J_in, J_clamp, Int.toNat_natCast]
  refine ⟨fun c2 => ?_, fun c2 => ?_⟩
  · refine m_spanRoots_spec k1 g ht (m_ok h f1 k1.1 t1 ?_)
    exact congrArg J ((RQ_span g.w t).symm.trans (cnt_cg (fun i hi => ⟨fun z => ⟨z.1, ⟨fun y => absurd y z.2, fun y => absurd c2 y⟩⟩, fun z => ⟨z.1, fun y => z.2.mp y c2⟩⟩)))
  · refine m_holderRoots_spec k1 g ht (m_ok h f1 k1.1 t1 ?_)
    exact congrArg J ((RQ_hold g.w t).symm.trans (cnt_cg (fun i hi => ⟨fun z => ⟨z.1, ⟨fun _ => c2, fun _ => z.2⟩⟩, fun z => ⟨z.1, z.2.mpr c2⟩⟩)))
theorem J_z {z : Int} (h : -4294967295 ≤ z ∧ z ≤ 4294967295) : J z = 0 ↔ z = 0 := by
  constructor
  · intro e
    have e2 : (Int32.ofInt z).toBitVec = (0 : Int32).toBitVec := congrArg Int32.toBitVec e
    have e3 : BitVec.ofInt 32 z = 0#32 := e2
    have e4 := congrArg BitVec.toInt e3
    rw [BitVec.toInt_ofInt] at e4
    have e5 : z.bmod (2 ^ 32) = 0 := e4
    rw [Int.bmod_def] at e5
    split at e5 <;> omega
  · intro e; rw [e]; rfl
theorem m_rootAt {S : GS} {μ : Mem} (hm : MI S μ) (g : GOK S) {t a : Int} (ht : (-2147483648 ≤ t ∧ t ≤ 2147483647)) (ha : (-2147483648 ≤ a ∧ a ≤ 2147483647)) {P : Int32 → Mem → Prop} (h : MRes J (op_rootAt S t a) μ P) : w9_rootAt_wp μ (J t) (J a) P := by
  unfold op_rootAt at h
  unfold w9_rootAt_wp
  have rn := g.1.n
  have rl := hl_len g
  refine m_kn0 hm g (fun μ1 f1 t1 k1 => ?_)
  refine isTrace_spec ht (fun c => ⟨fun _ => ?_, fun c => absurd c (by decide)⟩) (fun c => ⟨fun c => absurd rfl c, fun _ => by rw [if_neg c] at h; exact m_fails rfl h f1 k1.1⟩)
  rw [if_pos c] at h
  generalize hE : nthq (RQ (S.1.1) (S.1.2.1) t) 1100 a 0 = E at h
  intro R hR
  suffices H : ∀ (d q : Nat) (z : Int) (μ' : Mem), q + d = 1100 → a - q ≤ z ∧ z ≤ a → nthq (RQ (S.1.1) (S.1.2.1) t) d z q = E → FrM μ μ' → μ' 3201 0 0 = J 0 → MQ9 S μ' → R μ' (J t) (J z) (J q) from H 1100 0 a μ1 (by omega) (by omega) hE f1 t1 k1
  intro d
  induction d with
  | zero =>
    intro q z μ' hq hz e f t2 k
    have e : (-1 : Int) = E := e
    rw [← e, if_pos rfl] at h
    apply hR
    unfold w9_rootAt_b27_body
    simp (disch := omega) only [lJ0, lJ1, lJ2, lJ3, lJ4, lJ5, lJ6, lJ7, lJ8, lJ9, lJ10, lJ30, lJ32, lJ33, lJ39, lJ40, lJ41, lJ45, lJ47, lJ48, lJ51, lJ55, lJ57, lJ58, lJ59, lJ60, lJ64, lJ80, lJ82, lJ99, lJ100, lJ101, lJ123, lJ126, lJ282, lJ342, lJ1000, lJ1100, lJ2394, lJ2736, lJ9999, lJ10000, lJ1000000, lJ100000000, J_add, J_sub, J_mul, J_neg, J_le, J_lt, J_eq, J_in, J_clamp, Int.toNat_natCast]
    exact ⟨fun _ => m_fails rfl h f k.1, fun c => absurd (by omega) c⟩
  | succ d ih =>
    intro q z μ' hq hz e f t2 k
    rw [nthq_step] at e
    apply hR
    unfold w9_rootAt_b27_body
    have rd := nd_rg g.w t q
    simp (disch := omega) only [lJ0, lJ1, lJ2, lJ3, lJ4, lJ5, lJ6, lJ7, lJ8, lJ9, lJ10, lJ30, lJ32, lJ33, lJ39, lJ40, lJ41, lJ45, lJ47, lJ48, lJ51, lJ55, lJ57, lJ58, lJ59, lJ60, lJ64, lJ80, lJ82, lJ99, lJ100, lJ101, lJ123, lJ126, lJ282, lJ342, lJ1000, lJ1100, lJ2394, lJ2736, lJ9999, lJ10000, lJ1000000, lJ100000000, J_add, J_sub, J_mul, J_neg, J_le, J_lt, J_eq, J_in, J_clamp, Int.toNat_natCast]
    refine ⟨fun c => absurd c (by omega), fun _ => ?_⟩
    refine m_node_spec k.1 g ht (by omega) (fun μ2 f2 t3 k2 => ?_)
    have f3 := f.tr f2
    have t4 := t3.trans t2
    have jz := J_z (z := z) (by omega)
    have fin : RQ (S.1.1) (S.1.2.1) t q → (¬ J z = 0 → R μ2 (J t) (J (z + -1)) (J ((q : Int) + 1))) ∧ (J z = 0 → P (J q) μ2) := fun hp => by
      rw [if_pos hp] at e
      refine ⟨fun c2 => ?_, fun c2 => ?_⟩
      · rw [if_neg (fun y => c2 (jz.mpr y))] at e
        exact ih (q + 1) (z + -1) μ2 (by omega) (by omega) e f3 t4 k2
      · rw [if_pos (jz.mp c2)] at e
        rw [← e, if_neg (by omega)] at h
        exact m_ok h f3 k2.1 t4 rfl
    have skip : ¬ RQ (S.1.1) (S.1.2.1) t q → R μ2 (J t) (J z) (J ((q : Int) + 1)) := fun hp => by
      rw [if_neg hp] at e
      exact ih (q + 1) z μ2 (by omega) (by omega) e f3 t4 k2
    simp (disch := omega) only [lJ1, lJm1, lJ40, J_add, J_eq, J_le, J_in, J_clamp]
    refine ⟨fun c2 => skip (fun y => y.1 c2), fun c2 => ⟨fun c3 => fin ⟨c2, Or.inl c3⟩, fun c3 => ⟨by omega, ?_⟩⟩⟩
    have ea := k2.ab (i := (nd (S.1.1) (S.1.2.1) t q).toNat) (by omega)
    have ra := ab_rg (n := S.1.1) (w := S.1.2.1) (i := (nd (S.1.1) (S.1.2.1) t q).toNat) (by omega)
    simp (disch := omega) only [ea, J_eq]
    exact ⟨fun c4 => skip (fun y => y.2.elim (fun y => c3 y) c4), fun c4 => fin ⟨c2, Or.inr c4⟩⟩
