-- the reference's own times and activity
theorem m_covered_spec {μ : Mem} {m : Nat} {a b : Nat → Int} (hv : RV μ m a b) (ho : RO m a b) (hm : m ≤ 40) {D : Int → Bool} (hD : ∀ u, D u = true ↔ ∃ j, j < m ∧ a j ≤ u ∧ u < b j) {P : Int32 → Mem → Prop} (h : P (J (lenD D)) μ) : w9_covered_wp μ P := by
  obtain ⟨v0, v1⟩ := hv
  obtain ⟨q1, q2⟩ := ho
  unfold w9_covered_wp
  intro R hR
  have ini : SwI (cvb (fun _ => True) a b 0) (-100000000) 0 (-100000000) (-100000000) := sw_0
  suffices H : ∀ am sum at' : Int, SwI (cvb (fun _ => True) a b 0) am sum at' (-100000000) → (∀ j, 0 ≤ j → j < m → am ≤ a j) → at' ≤ 600000 → R μ (J sum) (J at') (J (0 : Nat)) from H _ _ _ ini (fun j _ hj => by have := q2 j hj; unfold Rn at this; omega) (by omega)
  refine down (Q := fun r => ∀ am sum at' : Int, SwI (cvb (fun _ => True) a b r) am sum at' (-100000000) → (∀ j, r ≤ j → j < m → am ≤ a j) → at' ≤ 600000 → R μ (J sum) (J at') (J r)) m (fun r hr ih am sum at' sw lo rat => ?_)
  apply hR
  unfold w9_covered_b7_body
  have sr : 0 ≤ sum ∧ sum ≤ 1200000 := by rw [sw.1]; exact lenD_rg _
  have at5 := sw.2.2.2.2
  rcases Nat.lt_or_ge r m with c | c
  rotate_left
  · have e9 : r = m := by omega
    subst e9
    have e : sum = lenD D := by
      rw [sw.1]
      refine lenD_cg (fun u => Bool.eq_iff_iff.mpr ?_)
      rw [cvb_iff, hD]
      exact ⟨fun ⟨j, z1, z2⟩ => ⟨j, z1, z2.2⟩, fun ⟨j, z1, z2⟩ => ⟨j, z1, trivial, z2⟩⟩
    rw [← e] at h
    simp (disch := omega) only [lJ0, lJ1, lJ2, lJ3, lJ4, lJ5, lJ6, lJ7, lJ8, lJ9, lJ10, lJ30, lJ32, lJ33, lJ39, lJ40, lJ41, lJ45, lJ47, lJ48, lJ51, lJ55, lJ57, lJ58, lJ59, lJ60, lJ64, lJ80, lJ82, lJ99, lJ100, lJ101, lJ123, lJ126, lJ282, lJ342, lJ1000, lJ1100, lJ2394, lJ2736, lJ9999, lJ10000, lJ1000000, lJ100000000, J_add, J_sub, J_mul, J_neg, J_le, J_lt, J_eq, J_in, J_clamp, Int.toNat_natCast, v0]
    exact ⟨fun _ => h, fun z => absurd (Int.le_refl _) z⟩
  have ih := ih c
  obtain ⟨e1, e2⟩ := v1 r c
  obtain ⟨ra, rb, rab⟩ := q2 r c
  have step := sw_step sw (lo r (Nat.le_refl _) c) ra rb
  unfold Rn at ra rb
  have lor := lo r (Nat.le_refl _) c
  have take : ∀ sum2 at2, SwI (addD (cvb (fun _ => True) a b r) (a r) (b r)) (a r) sum2 at2 (-100000000) → at2 ≤ 600000 → R μ (J sum2) (J at2) (J ((r : Int) + 1)) := fun sum2 at2 st ra2 => by
    refine ih _ sum2 at2 (st.cg (fun u => ?_)) (fun j h1 h2 => q1 r j (by omega) h2) ra2
    rw [cvb_succ]
    unfold addD
    congr 1
    exact decide_eq_decide.mpr ⟨fun y => y.2, fun y => ⟨trivial, y⟩⟩
  have j2 : (if J at' < J (a r) then J (a r) else J at') = J (if a r < at' then at' else a r) := by
    rw [J_mx (by omega) (by omega)]
    congr 1
    split <;> split <;> omega
  have j3 : (if J at' < J (b r) then J (b r) else J at') = J (if at' < b r then b r else at') := J_mx (by omega) (by omega)
  generalize hx : (if a r < at' then at' else a r) = x at *
  have rx : a r ≤ x ∧ at' ≤ x ∧ (x = a r ∨ x = at') := by rw [← hx]; split <;> omega
  have jr : (J (r : Int)).toNatClampNeg = r := J_nat_clamp (by omega)
  unfold w9_covered_b52
  simp only [jr, e1, e2, j2, j3]
  simp (disch := omega) only [lJ0, lJ1, lJ2, lJ3, lJ4, lJ5, lJ6, lJ7, lJ8, lJ9, lJ10, lJ30, lJ32, lJ33, lJ39, lJ40, lJ41, lJ45, lJ47, lJ48, lJ51, lJ55, lJ57, lJ58, lJ59, lJ60, lJ64, lJ80, lJ82, lJ99, lJ100, lJ101, lJ123, lJ126, lJ282, lJ342, lJ1000, lJ1100, lJ2394, lJ2736, lJ9999, lJ10000, lJ1000000, lJ100000000, J_add, J_sub, J_mul, J_neg, J_le, J_lt, J_eq, J_in, J_clamp, Int.toNat_natCast, v0]
  refine ⟨fun z => by omega, fun _ => ⟨by omega, by omega, fun c2 => ⟨by omega, ?_⟩, fun c2 => ⟨by omega, by omega, ?_⟩⟩⟩
  · rw [if_neg (by omega), if_neg (by omega)] at step
    have := take _ _ step rat
    rw [if_neg (by omega), Int.add_zero]
    exact this
  · rw [if_pos (by omega), if_pos (by omega)] at step
    have := take _ _ step (by omega)
    rw [if_pos (by omega)]
    exact this
theorem RO_0 : RO 0 (fun _ => 0) (fun _ => 0) := ⟨fun j k h1 h2 => absurd h2 (Nat.not_lt_zero _), fun j hj => absurd hj (Nat.not_lt_zero _)⟩
theorem m_own_spec {S : GS} {μ : Mem} (k : MQ9 S μ) (g : GOK S) {i : Nat} (hi : i < S.1.1) {x : Int32} (ex : x = J i) {P : Int32 → Mem → Prop} (h : ∀ μ', Bt [4416, 4480, 3229] μ μ' → P (J (ownt (S.1.1) (S.1.2.1) i)) μ') : w9_own_wp μ x P := by
  subst ex
  have rn := g.1.n
  unfold w9_own_wp
  rintro μ1 rfl
  have b1 : Bt [3229] μ (up μ 3229 0 0 0) := Bt.up (by decide)
  have v1 : RV (up μ 3229 0 0 0) 0 (fun _ => 0) (fun _ => 0) := ⟨up_self, fun j hj => absurd hj (Nat.not_lt_zero _)⟩
  generalize up μ 3229 0 0 0 = μ1 at b1 v1 ⊢
  have ri := be_Rn g.w hi
  have bi := be_rg g.w hi
  intro R hR
  suffices H : ∀ (μ' : Mem) (m : Nat) (a b : Nat → Int), m ≤ 0 → Bt [4416, 4480, 3229] μ μ' → RV μ' m a b → RO m a b → (∀ u, (∃ j, j < m ∧ a j ≤ u ∧ u < b j) ↔ cvb (fun j => ab (S.1.1) (S.1.2.1) j = (i : Int)) (fun j => if bgn (S.1.1) (S.1.2.1) i < bgn (S.1.1) (S.1.2.1) j then bgn (S.1.1) (S.1.2.1) j else bgn (S.1.1) (S.1.2.1) i) (fun j => if enn (S.1.1) (S.1.2.1) j < enn (S.1.1) (S.1.2.1) i then enn (S.1.1) (S.1.2.1) j else enn (S.1.1) (S.1.2.1) i) 0 u = true) → R μ' (J i) (J (0 : Nat)) from H μ1 0 _ _ (Nat.le_refl _) (b1.mo (by decide)) v1 RO_0 (fun u => ⟨fun ⟨j, hj, _⟩ => absurd hj (Nat.not_lt_zero _), fun z => (by cases z)⟩)
  refine down (Q := fun q => ∀ (μ' : Mem) (m : Nat) (a b : Nat → Int), m ≤ q → Bt [4416, 4480, 3229] μ μ' → RV μ' m a b → RO m a b → (∀ u, (∃ j, j < m ∧ a j ≤ u ∧ u < b j) ↔ cvb (fun j => ab (S.1.1) (S.1.2.1) j = (i : Int)) (fun j => if bgn (S.1.1) (S.1.2.1) i < bgn (S.1.1) (S.1.2.1) j then bgn (S.1.1) (S.1.2.1) j else bgn (S.1.1) (S.1.2.1) i) (fun j => if enn (S.1.1) (S.1.2.1) j < enn (S.1.1) (S.1.2.1) i then enn (S.1.1) (S.1.2.1) j else enn (S.1.1) (S.1.2.1) i) q u = true) → R μ' (J i) (J q)) (S.1.1) (fun q hq ih μ' m a b hm bt v o hU => ?_)
  apply hR
  unfold w9_own_b7_body
  have kk := k.bt bt (by decide)
  have e0 := kk.n0
  rcases Nat.lt_or_ge q (S.1.1) with c | c
  rotate_left
  · have e9 : q = S.1.1 := by omega
    subst e9
    simp (disch := omega) only [lJ0, lJ1, lJ2, lJ3, lJ4, lJ5, lJ6, lJ7, lJ8, lJ9, lJ10, lJ30, lJ32, lJ33, lJ39, lJ40, lJ41, lJ45, lJ47, lJ48, lJ51, lJ55, lJ57, lJ58, lJ59, lJ60, lJ64, lJ80, lJ82, lJ99, lJ100, lJ101, lJ123, lJ126, lJ282, lJ342, lJ1000, lJ1100, lJ2394, lJ2736, lJ9999, lJ10000, lJ1000000, lJ100000000, J_add, J_sub, J_mul, J_neg, J_le, J_lt, J_eq, J_in, J_clamp, Int.toNat_natCast, Int.toNat_zero, e0]
    refine ⟨by omega, fun _ => ?_, fun z => absurd (Int.le_refl _) z⟩
    refine m_end_spec kk g hi rfl (m_begin_spec kk g hi rfl ?_)
    refine m_covered_spec v o (by omega) (fun u => (hU u).symm) ?_
    rw [J_sub, J_sub]
    exact h μ' bt
  have ih := ih c
  have e := kk.ab c
  have ra := ab_rg (w := S.1.2.1) c
  have rq := be_Rn g.w c
  have skip : ab (S.1.1) (S.1.2.1) q ≠ i → R μ' (J i) (J ((q : Int) + 1)) := fun z => by
    refine ih μ' m a b (by omega) bt v o (fun u => ?_)
    rw [cvb_succ, decide_eq_false (fun y => z y.1), Bool.or_false]
    exact hU u
  have rA := (mx_Rn ri.1 rq.1).1
  have rB := (mx_Rn rq.2 ri.2).2
  have rq' := rq
  have ri' := ri
  unfold Rn at rq' ri'
  simp (disch := omega) only [lJ0, lJ1, lJ2, lJ3, lJ4, lJ5, lJ6, lJ7, lJ8, lJ9, lJ10, lJ30, lJ32, lJ33, lJ39, lJ40, lJ41, lJ45, lJ47, lJ48, lJ51, lJ55, lJ57, lJ58, lJ59, lJ60, lJ64, lJ80, lJ82, lJ99, lJ100, lJ101, lJ123, lJ126, lJ282, lJ342, lJ1000, lJ1100, lJ2394, lJ2736, lJ9999, lJ10000, lJ1000000, lJ100000000, J_add, J_sub, J_mul, J_neg, J_le, J_lt, J_eq, J_in, J_clamp, Int.toNat_natCast, Int.toNat_zero, e0, e]
  refine ⟨by omega, fun z => by omega, fun _ => ⟨by omega, fun c2 => skip c2, fun c2 => ?_⟩⟩
  refine m_begin_spec kk g hi rfl (m_begin_spec kk g c rfl (m_end_spec kk g hi rfl (m_end_spec kk g c rfl ?_)))
  refine m_range_spec v o (by omega) (f := if bgn (S.1.1) (S.1.2.1) i < bgn (S.1.1) (S.1.2.1) q then bgn (S.1.1) (S.1.2.1) q else bgn (S.1.1) (S.1.2.1) i) (t := if enn (S.1.1) (S.1.2.1) q < enn (S.1.1) (S.1.2.1) i then enn (S.1.1) (S.1.2.1) q else enn (S.1.1) (S.1.2.1) i) rA rB (J_mx (by omega) (by omega)) (J_mn (by omega) (by omega)) (fun z => ?_) (fun z μ2 a' b' b2 v2 o2 hU2 => ?_)
  · refine ih μ' m a b (by omega) bt v o (fun u => ?_)
    rw [cvb_succ, decide_eq_false (fun y => z (by omega)), Bool.or_false]
    exact hU u
  · refine ih μ2 (m + 1) a' b' (by omega) (bt.tr b2) v2 o2 (fun u => ?_)
    rw [hU2, cvb_succ, Bool.or_eq_true, decide_eq_true_iff, hU]
    exact ⟨fun y => y.imp_right (fun y => ⟨c2, y⟩), fun y => y.imp_right (fun y => y.2)⟩
theorem m_active_spec {S : GS} {μ : Mem} (k : MQ9 S μ) (g : GOK S) {t s : Int} (ht : (-2147483648 ≤ t ∧ t ≤ 2147483647)) (hs : (-2147483648 ≤ s ∧ s ≤ 2147483647)) {x y : Int32} (ex : x = J t) (ey : y = J s) {P : Int32 → Mem → Prop} (h : ∀ μ', Bt [4416, 4480, 3229] μ μ' → P (J (bsy (S.1.1) (S.1.2.1) t s)) μ') : w9_active_wp μ x y P := by
  subst ex ey
  have rn := g.1.n
  unfold w9_active_wp
  rintro μ1 rfl
  have b1 : Bt [3229] μ (up μ 3229 0 0 0) := Bt.up (by decide)
  have v1 : RV (up μ 3229 0 0 0) 0 (fun _ => 0) (fun _ => 0) := ⟨up_self, fun j hj => absurd hj (Nat.not_lt_zero _)⟩
  generalize up μ 3229 0 0 0 = μ1 at b1 v1 ⊢
  intro R hR
  suffices H : ∀ (μ' : Mem) (m : Nat) (a b : Nat → Int), m ≤ 0 → Bt [4416, 4480, 3229] μ μ' → RV μ' m a b → RO m a b → (∀ u, (∃ j, j < m ∧ a j ≤ u ∧ u < b j) ↔ cvb (fun j => S.1.2.1 j 1 = t ∧ S.1.2.1 j 3 = s) (bgn (S.1.1) (S.1.2.1)) (enn (S.1.1) (S.1.2.1)) 0 u = true) → R μ' (J t) (J s) (J (0 : Nat)) from H μ1 0 _ _ (Nat.le_refl _) (b1.mo (by decide)) v1 RO_0 (fun u => ⟨fun ⟨j, hj, _⟩ => absurd hj (Nat.not_lt_zero _), fun z => (by cases z)⟩)
  refine down (Q := fun q => ∀ (μ' : Mem) (m : Nat) (a b : Nat → Int), m ≤ q → Bt [4416, 4480, 3229] μ μ' → RV μ' m a b → RO m a b → (∀ u, (∃ j, j < m ∧ a j ≤ u ∧ u < b j) ↔ cvb (fun j => S.1.2.1 j 1 = t ∧ S.1.2.1 j 3 = s) (bgn (S.1.1) (S.1.2.1)) (enn (S.1.1) (S.1.2.1)) q u = true) → R μ' (J t) (J s) (J q)) (S.1.1) (fun q hq ih μ' m a b hm bt v o hU => ?_)
  apply hR
  unfold w9_active_b7_body
  have kk := k.bt bt (by decide)
  have e0 := kk.n0
  rcases Nat.lt_or_ge q (S.1.1) with c | c
  rotate_left
  · have e9 : q = S.1.1 := by omega
    subst e9
    simp (disch := omega) only [lJ0, lJ1, lJ2, lJ3, lJ4, lJ5, lJ6, lJ7, lJ8, lJ9, lJ10, lJ30, lJ32, lJ33, lJ39, lJ40, lJ41, lJ45, lJ47, lJ48, lJ51, lJ55, lJ57, lJ58, lJ59, lJ60, lJ64, lJ80, lJ82, lJ99, lJ100, lJ101, lJ123, lJ126, lJ282, lJ342, lJ1000, lJ1100, lJ2394, lJ2736, lJ9999, lJ10000, lJ1000000, lJ100000000, J_add, J_sub, J_mul, J_neg, J_le, J_lt, J_eq, J_in, J_clamp, Int.toNat_natCast, Int.toNat_zero, e0]
    refine ⟨by omega, fun _ => ?_, fun z => absurd (Int.le_refl _) z⟩
    exact m_covered_spec v o (by omega) (fun u => (hU u).symm) (h μ' bt)
  have ih := ih c
  have rq := be_Rn g.w c
  have rr := g.w.r q c
  have skip : ¬ (S.1.2.1 q 1 = t ∧ S.1.2.1 q 3 = s) → R μ' (J t) (J s) (J ((q : Int) + 1)) := fun z => by
    refine ih μ' m a b (by omega) bt v o (fun u => ?_)
    rw [cvb_succ, decide_eq_false (fun y => z y.1), Bool.or_false]
    exact hU u
  simp (disch := omega) only [lJ0, lJ1, lJ2, lJ3, lJ4, lJ5, lJ6, lJ7, lJ8, lJ9, lJ10, lJ30, lJ32, lJ33, lJ39, lJ40, lJ41, lJ45, lJ47, lJ48, lJ51, lJ55, lJ57, lJ58, lJ59, lJ60, lJ64, lJ80, lJ82, lJ99, lJ100, lJ101, lJ123, lJ126, lJ282, lJ342, lJ1000, lJ1100, lJ2394, lJ2736, lJ9999, lJ10000, lJ1000000, lJ100000000, J_add, J_sub, J_mul, J_neg, J_le, J_lt, J_eq, J_in, J_clamp, Int.toNat_natCast, Int.toNat_zero, e0]
  refine ⟨by omega, fun z => by omega, fun _ => ?_⟩
  refine of_spec kk.1.1.1 rn q 1 rfl rfl c (by omega) ?_
  simp (disch := omega) only [lJ0, lJ1, lJ2, lJ3, lJ4, lJ5, lJ6, lJ7, lJ8, lJ9, lJ10, lJ30, lJ32, lJ33, lJ39, lJ40, lJ41, lJ45, lJ47, lJ48, lJ51, lJ55, lJ57, lJ58, lJ59, lJ60, lJ64, lJ80, lJ82, lJ99, lJ100, lJ101, lJ123, lJ126, lJ282, lJ342, lJ1000, lJ1100, lJ2394, lJ2736, lJ9999, lJ10000, lJ1000000, lJ100000000, J_add, J_sub, J_mul, J_neg, J_le, J_lt, J_eq, J_in, J_clamp, Int.toNat_natCast]
  refine ⟨fun c1 => skip (fun z => c1 z.1), fun c1 => ?_⟩
  refine of_spec kk.1.1.1 rn q 3 rfl rfl c (by omega) ?_
  simp (disch := omega) only [lJ0, lJ1, lJ2, lJ3, lJ4, lJ5, lJ6, lJ7, lJ8, lJ9, lJ10, lJ30, lJ32, lJ33, lJ39, lJ40, lJ41, lJ45, lJ47, lJ48, lJ51, lJ55, lJ57, lJ58, lJ59, lJ60, lJ64, lJ80, lJ82, lJ99, lJ100, lJ101, lJ123, lJ126, lJ282, lJ342, lJ1000, lJ1100, lJ2394, lJ2736, lJ9999, lJ10000, lJ1000000, lJ100000000, J_add, J_sub, J_mul, J_neg, J_le, J_lt, J_eq, J_in, J_clamp, Int.toNat_natCast]
  refine ⟨fun c2 => skip (fun z => c2 z.2), fun c2 => ?_⟩
  refine m_begin_spec kk g c rfl (m_end_spec kk g c rfl ?_)
  refine m_range_spec v o (by omega) rq.1 rq.2 rfl rfl (fun z => ?_) (fun z μ2 a' b' b2 v2 o2 hU2 => ?_)
  · refine ih μ' m a b (by omega) bt v o (fun u => ?_)
    rw [cvb_succ, decide_eq_false (fun y => z (by omega)), Bool.or_false]
    exact hU u
  · refine ih μ2 (m + 1) a' b' (by omega) (bt.tr b2) v2 o2 (fun u => ?_)
    rw [hU2, cvb_succ, Bool.or_eq_true, decide_eq_true_iff, hU]
    exact ⟨fun y => y.imp_right (fun y => ⟨⟨c1, c2⟩, y⟩), fun y => y.imp_right (fun y => y.2)⟩
