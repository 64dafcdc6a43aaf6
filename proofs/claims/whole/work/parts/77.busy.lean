theorem c_busyUnits_spec {S : GS} {μ : Mem} (k : CK S μ) (g : GOK S) {t s : Int} (ht : (-2147483648 ≤ t ∧ t ≤ 2147483647)) (hs : (-2147483648 ≤ s ∧ s ≤ 2147483647)) {x y : Int32} (ex : x = J t) (ey : y = J s) {P : Int32 → Mem → Prop} (h : P (J (bsy (S.1.1) (S.1.2.1) t s)) μ) : w1_busyUnits_wp μ x y P := by
  subst ex ey
  have rn := g.1.n
  have s1 : SV μ 0 (S.1.1) (S.1.2.1) := k.1.1.1.1
  obtain ⟨od, o1, o2, o3⟩ := k.2.2.2.2.2
  unfold w1_busyUnits_wp
  intro R hR
  have ini : SwI (cvb (fun r => S.1.2.1 (od r) 1 = t ∧ S.1.2.1 (od r) 3 = s) (fun r => bgn (S.1.1) (S.1.2.1) (od r)) (fun r => enn (S.1.1) (S.1.2.1) (od r)) 0) (-1000000) 0 (-1000000) (-1000000) := sw_0
  suffices H : ∀ am sum at' : Int, SwI (cvb (fun r => S.1.2.1 (od r) 1 = t ∧ S.1.2.1 (od r) 3 = s) (fun r => bgn (S.1.1) (S.1.2.1) (od r)) (fun r => enn (S.1.1) (S.1.2.1) (od r)) 0) am sum at' (-1000000) → (∀ r, 0 ≤ r → r < S.1.1 → am ≤ bgn (S.1.1) (S.1.2.1) (od r)) → at' ≤ 600000 → R μ (J t) (J s) (J sum) (J at') (J (0 : Nat)) from H _ _ _ ini (fun r _ hr => by have := be_rg g.w (o1 r hr).2; omega) (by omega)
  refine down (Q := fun r => ∀ am sum at' : Int, SwI (cvb (fun r => S.1.2.1 (od r) 1 = t ∧ S.1.2.1 (od r) 3 = s) (fun r => bgn (S.1.1) (S.1.2.1) (od r)) (fun r => enn (S.1.1) (S.1.2.1) (od r)) r) am sum at' (-1000000) → (∀ q, r ≤ q → q < S.1.1 → am ≤ bgn (S.1.1) (S.1.2.1) (od q)) → at' ≤ 600000 → R μ (J t) (J s) (J sum) (J at') (J r)) (S.1.1) (fun r hr ih am sum at' sw lo rat => ?_)
  apply hR
  unfold w1_busyUnits_b9_body
  have sr : 0 ≤ sum ∧ sum ≤ 1200000 := by rw [sw.1]; exact lenD_rg _
  have at5 := sw.2.2.2.2
  rcases Nat.lt_or_ge r (S.1.1) with c | c
  rotate_left
  · have e9 : r = S.1.1 := by omega
    subst e9
    have e : sum = bsy (S.1.1) (S.1.2.1) t s := by
      rw [sw.1]
      exact lenD_cg (fun u => cvb_od (p := fun j => S.1.2.1 j 1 = t ∧ S.1.2.1 j 3 = s) (A := bgn (S.1.1) (S.1.2.1)) (B := enn (S.1.1) (S.1.2.1)) (fun r hr => (o1 r hr).2) o3 u)
    rw [← e] at h
    simp (disch := omega) only [lJ0, lJ1, lJ2, lJ3, lJ4, lJ5, lJ6, lJ7, lJ8, lJ9, lJ10, lJ30, lJ32, lJ33, lJ39, lJ40, lJ41, lJ45, lJ47, lJ48, lJ51, lJ55, lJ57, lJ58, lJ59, lJ60, lJ64, lJ80, lJ82, lJ99, lJ100, lJ101, lJ123, lJ126, lJ282, lJ342, lJ1000, lJ1100, lJ2394, lJ2736, lJ9999, lJ10000, lJ1000000, lJ100000000, J_add, J_sub, J_mul, J_neg, J_le, J_lt, J_eq, J_in, J_clamp, Int.toNat_natCast, s1.1, s1.i0, s1.i1, s1.i2, s1.i3, s1.i4, s1.i5, s1.i6]
    exact ⟨fun _ => h, fun z => absurd (Int.le_refl _) z⟩
  have ih := ih c
  obtain ⟨e1, hc⟩ := o1 r c
  have rc := g.w.r (od r) hc
  have bc := be_Rn g.w hc
  have ec := k.2.2.1 (od r) hc
  have lo2 : ∀ q, r + 1 ≤ q → q < S.1.1 → bgn (S.1.1) (S.1.2.1) (od r) ≤ bgn (S.1.1) (S.1.2.1) (od q) := fun q h1 h2 => by
    have := o2 r q (by omega) h2
    unfold erl at this
    omega
  have step := sw_step sw (lo r (Nat.le_refl _) c) bc.1 bc.2
  have skip : ¬ (S.1.2.1 (od r) 1 = t ∧ S.1.2.1 (od r) 3 = s) → R μ (J t) (J s) (J sum) (J at') (J ((r : Int) + 1)) := fun z => by
    refine ih am sum at' (sw.cg (fun u => ?_)) (fun q h1 h2 => lo q (by omega) h2) rat
    rw [cvb_succ, decide_eq_false (fun y => z y.1), Bool.or_false]
  have take : (S.1.2.1 (od r) 1 = t ∧ S.1.2.1 (od r) 3 = s) → ∀ sum2 at2, SwI (addD (cvb (fun r => S.1.2.1 (od r) 1 = t ∧ S.1.2.1 (od r) 3 = s) (fun r => bgn (S.1.1) (S.1.2.1) (od r)) (fun r => enn (S.1.1) (S.1.2.1) (od r)) r) (bgn (S.1.1) (S.1.2.1) (od r)) (enn (S.1.1) (S.1.2.1) (od r))) (bgn (S.1.1) (S.1.2.1) (od r)) sum2 at2 (-1000000) → at2 ≤ 600000 → R μ (J t) (J s) (J sum2) (J at2) (J ((r : Int) + 1)) := fun z sum2 at2 st ra => by
    refine ih _ sum2 at2 (st.cg (fun u => ?_)) lo2 ra
    rw [cvb_succ]
    unfold addD
    congr 1
    exact decide_eq_decide.mpr ⟨fun y => y.2, fun y => ⟨z, y⟩⟩
  clear ih
  unfold Rn at bc
  have j2 : (if J (bgn (S.1.1) (S.1.2.1) (od r)) < J at' then J at' else J (bgn (S.1.1) (S.1.2.1) (od r))) = J (if bgn (S.1.1) (S.1.2.1) (od r) < at' then at' else bgn (S.1.1) (S.1.2.1) (od r)) := J_mx (by omega) (by omega)
  generalize hx : (if bgn (S.1.1) (S.1.2.1) (od r) < at' then at' else bgn (S.1.1) (S.1.2.1) (od r)) = x at *
  have rx : -1000000 ≤ x ∧ x ≤ 600000 := by rw [← hx]; split <;> omega
  have jr : (J ((od r : Nat) : Int)).toNatClampNeg = od r := J_nat_clamp (by omega)
  have jq : (J (r : Int)).toNatClampNeg = r := J_nat_clamp (by omega)
  simp only [jq, e1, jr, ec.1, ec.2.1, j2]
  simp (disch := omega) only [lJ0, lJ1, lJ2, lJ3, lJ4, lJ5, lJ6, lJ7, lJ8, lJ9, lJ10, lJ30, lJ32, lJ33, lJ39, lJ40, lJ41, lJ45, lJ47, lJ48, lJ51, lJ55, lJ57, lJ58, lJ59, lJ60, lJ64, lJ80, lJ82, lJ99, lJ100, lJ101, lJ123, lJ126, lJ282, lJ342, lJ1000, lJ1100, lJ2394, lJ2736, lJ9999, lJ10000, lJ1000000, lJ100000000, J_add, J_sub, J_mul, J_neg, J_le, J_lt, J_eq, J_in, J_clamp, Int.toNat_natCast, s1.1, s1.i0, s1.i1, s1.i2, s1.i3, s1.i4, s1.i5, s1.i6]
  refine ⟨fun z => by omega, fun _ => ⟨by omega, by omega, fun c1 => skip (fun z => c1 z.1), fun c1 => ⟨by omega, fun c2 => skip (fun z => c2 z.2), fun c2 => ⟨by omega, by omega, fun c3 => ?_, fun c3 => ?_⟩⟩⟩⟩
  · rw [if_neg (by omega), if_neg (by omega)] at step
    exact take ⟨c1, c2⟩ _ _ step rat
  · rw [if_pos (by omega), if_pos (by omega)] at step
    exact take ⟨c1, c2⟩ _ _ step (by omega)
-- the reference's ranges
def RV (μ : Mem) (m : Nat) (a b : Nat → Int) : Prop := (μ 3229 0 0) = J m ∧ ∀ j, j < m → μ 4416 0 j = J (a j) ∧ μ 4480 0 j = J (b j)
/-- ranges in the order of their begins -/
def RO (m : Nat) (a b : Nat → Int) : Prop := (∀ j k, j < k → k < m → a j ≤ a k) ∧ ∀ j, j < m → Rn (a j) ∧ Rn (b j) ∧ a j < b j
def fins (f : Nat → Int) (k : Nat) (v : Int) : Nat → Int := fun j => if j < k then f j else if j = k then v else f (j - 1)
theorem m_range_spec {μ : Mem} {m : Nat} {a b : Nat → Int} (hv : RV μ m a b) (ho : RO m a b) (hm : m < 40) {f t : Int} (hf : Rn f) (ht : Rn t) {x y : Int32} (ex : x = J f) (ey : y = J t) {P : Mem → Prop} (h0 : ¬ f < t → P μ) (h1 : f < t → ∀ μ' a' b', Bt [4416, 4480, 3229] μ μ' → RV μ' (m + 1) a' b' → RO (m + 1) a' b' → (∀ u, (∃ j, j < m + 1 ∧ a' j ≤ u ∧ u < b' j) ↔ ((∃ j, j < m ∧ a j ≤ u ∧ u < b j) ∨ (f ≤ u ∧ u < t))) → P μ') : w9_range_wp μ x y P := by
  subst ex ey
  have hf' := hf
  have ht' := ht
  unfold Rn at hf' ht'
  obtain ⟨v0, v1⟩ := hv
  obtain ⟨q1, q2⟩ := ho
  unfold w9_range_wp
  simp (disch := omega) only [lJ0, lJ1, lJ2, lJ3, lJ4, lJ5, lJ6, lJ7, lJ8, lJ9, lJ10, lJ30, lJ32, lJ33, lJ39, lJ40, lJ41, lJ45, lJ47, lJ48, lJ51, lJ55, lJ57, lJ58, lJ59, lJ60, lJ64, lJ80, lJ82, lJ99, lJ100, lJ101, lJ123, lJ126, lJ282, lJ342, lJ1000, lJ1100, lJ2394, lJ2736, lJ9999, lJ10000, lJ1000000, lJ100000000, J_add, J_sub, J_mul, J_neg, J_le, J_lt, J_eq, J_in, J_clamp, Int.toNat_natCast, v0]
  refine ⟨fun c => ?_, h0⟩
  have h1 := h1 c
  -- the end of the shifting
  have fin : ∀ (k : Nat) (μ' : Mem), k ≤ m → Bt [4416, 4480] μ μ' → (∀ j, j < k → μ' 4416 0 j = J (a j) ∧ μ' 4480 0 j = J (b j)) → (∀ j, k < j → j ≤ m → μ' 4416 0 j = J (a (j - 1)) ∧ μ' 4480 0 j = J (b (j - 1))) → (∀ j, k ≤ j → j < m → f < a j) → (k = 0 ∨ a (k - 1) ≤ f) → w9_range_b61 P μ' (J f) (J t) (J (k : Int)) := by
    intro k μ' hk bt g1 g2 g3 g4
    have e0 : μ' 3229 0 0 = J m := by rw [bt 3229 (by decide)]; exact v0
    unfold w9_range_b61
    simp (disch := omega) only [lJ0, lJ1, lJ2, lJ3, lJ4, lJ5, lJ6, lJ7, lJ8, lJ9, lJ10, lJ30, lJ32, lJ33, lJ39, lJ40, lJ41, lJ45, lJ47, lJ48, lJ51, lJ55, lJ57, lJ58, lJ59, lJ60, lJ64, lJ80, lJ82, lJ99, lJ100, lJ101, lJ123, lJ126, lJ282, lJ342, lJ1000, lJ1100, lJ2394, lJ2736, lJ9999, lJ10000, lJ1000000, lJ100000000, J_add, J_sub, J_mul, J_neg, J_le, J_lt, J_eq, J_in, J_clamp, Int.toNat_natCast]
    refine ⟨by omega, ?_⟩
    rintro μ2 rfl
    refine ⟨by omega, ?_⟩
    rintro μ4 rfl μ5 rfl
    have e4 : up (up μ' 4416 0 k (J f)) 4480 0 k (J t) 3229 0 0 = J m := by rw [up_nq (by decide), up_nq (by decide)]; exact e0
    rw [e4, J_add]
    have g5 : ∀ j, j < k → a j ≤ f := fun j hj => by
      rcases g4 with z | z
      · omega
      · rcases Nat.lt_or_ge j (k - 1) with y | y
        · have := q1 j (k - 1) y (by omega); omega
        · rw [show j = k - 1 by omega]; exact z
    refine h1 _ (fins a k f) (fins b k t) (((bt.mo (by decide)).tr (Bt.up (by decide))).tr ((Bt.up (by decide)).tr (Bt.up (by decide)))) ⟨?_, fun j hj => ?_⟩ ⟨fun i j hij hj => ?_, fun j hj => ?_⟩ (fun u => ?_)
    · rw [up_at, if_pos ⟨rfl, rfl, rfl⟩]
      rfl
    · rw [up_nq (j' := 4416) (by decide), up_nq (j' := 4480) (by decide), up_nq (j' := 4416) (by decide), up_row, up_row, up_nq (j' := 4480) (by decide)]
      unfold mset fins
      by_cases y : j = k
      · rw [if_pos y, if_pos y, if_neg (by omega), if_pos y, if_neg (by omega), if_pos y]
        exact ⟨rfl, rfl⟩
      · by_cases y2 : j < k
        · simp only [if_neg y, if_pos y2]; exact g1 j y2
        · simp only [if_neg y, if_neg y2]; exact g2 j (by omega) (by omega)
    · unfold fins
      by_cases y : i < k
      · rw [if_pos y]
        by_cases y2 : j < k
        · rw [if_pos y2]; exact q1 i j hij (by omega)
        · rw [if_neg y2]
          by_cases y3 : j = k
          · rw [if_pos y3]; exact g5 i y
          · rw [if_neg y3]
            rcases Nat.lt_or_ge i (j - 1) with z | z
            · exact q1 i (j - 1) z (by omega)
            · omega
      · rw [if_neg y, if_neg (by omega : ¬ j < k), if_neg (by omega : ¬ j = k)]
        by_cases y3 : i = k
        · rw [if_pos y3]
          have := g3 (j - 1) (by omega) (by omega)
          omega
        · rw [if_neg y3]; exact q1 (i - 1) (j - 1) (by omega) (by omega)
    · unfold fins
      by_cases y : j < k
      · rw [if_pos y, if_pos y]; exact q2 j (by omega)
      · rw [if_neg y, if_neg y]
        by_cases y2 : j = k
        · rw [if_pos y2, if_pos y2]; exact ⟨hf, ht, c⟩
        · rw [if_neg y2, if_neg y2]; exact q2 (j - 1) (by omega)
    · constructor
      · rintro ⟨j, hj, z⟩
        unfold fins at z
        by_cases y : j < k
        · rw [if_pos y, if_pos y] at z; exact Or.inl ⟨j, by omega, z⟩
        · rw [if_neg y, if_neg y] at z
          by_cases y2 : j = k
          · rw [if_pos y2, if_pos y2] at z; exact Or.inr z
          · rw [if_neg y2, if_neg y2] at z; exact Or.inl ⟨j - 1, by omega, z⟩
      · rintro (⟨j, hj, z⟩ | z)
        · by_cases y : j < k
          · exact ⟨j, by omega, by unfold fins; rw [if_pos y, if_pos y]; exact z⟩
          · exact ⟨j + 1, by omega, by unfold fins; rw [if_neg (by omega), if_neg (by omega), if_neg (by omega), if_neg (by omega)]; exact z⟩
        · exact ⟨k, by omega, by unfold fins; rw [if_neg (by omega), if_pos rfl, if_neg (by omega), if_pos rfl]; exact z⟩
  intro R hR
  suffices H : ∀ k, k ≤ m → ∀ μ', Bt [4416, 4480] μ μ' → (∀ j, j < k → μ' 4416 0 j = J (a j) ∧ μ' 4480 0 j = J (b j)) → (∀ j, k < j → j ≤ m → μ' 4416 0 j = J (a (j - 1)) ∧ μ' 4480 0 j = J (b (j - 1))) → (∀ j, k ≤ j → j < m → f < a j) → R μ' (J f) (J t) (J (k : Int)) from H m (Nat.le_refl _) μ Bt.rf (fun j hj => v1 j hj) (fun j z1 z2 => by omega) (fun j z1 z2 => by omega)
  intro k
  induction k with
  | zero =>
    intro hk μ' bt g1 g2 g3
    apply hR
    unfold w9_range_b11_body
    simp (disch := omega) only [lJ0, lJ1, lJ2, lJ3, lJ4, lJ5, lJ6, lJ7, lJ8, lJ9, lJ10, lJ30, lJ32, lJ33, lJ39, lJ40, lJ41, lJ45, lJ47, lJ48, lJ51, lJ55, lJ57, lJ58, lJ59, lJ60, lJ64, lJ80, lJ82, lJ99, lJ100, lJ101, lJ123, lJ126, lJ282, lJ342, lJ1000, lJ1100, lJ2394, lJ2736, lJ9999, lJ10000, lJ1000000, lJ100000000, J_add, J_sub, J_mul, J_neg, J_le, J_lt, J_eq, J_in, J_clamp, Int.toNat_natCast]
    exact ⟨fun _ => fin 0 μ' hk bt g1 g2 g3 (Or.inl rfl), fun z => absurd (by omega) z⟩
  | succ k ih =>
    intro hk μ' bt g1 g2 g3
    apply hR
    unfold w9_range_b11_body
    have e1 : (((k + 1 : Nat) : Int) - 1).toNat = k := by omega
    obtain ⟨e2, e3⟩ := g1 k (by omega)
    have r := q2 k (by omega)
    unfold Rn at r
    simp (disch := omega) only [lJ0, lJ1, lJ2, lJ3, lJ4, lJ5, lJ6, lJ7, lJ8, lJ9, lJ10, lJ30, lJ32, lJ33, lJ39, lJ40, lJ41, lJ45, lJ47, lJ48, lJ51, lJ55, lJ57, lJ58, lJ59, lJ60, lJ64, lJ80, lJ82, lJ99, lJ100, lJ101, lJ123, lJ126, lJ282, lJ342, lJ1000, lJ1100, lJ2394, lJ2736, lJ9999, lJ10000, lJ1000000, lJ100000000, J_add, J_sub, J_mul, J_neg, J_le, J_lt, J_eq, J_in, J_clamp, Int.toNat_natCast, e1, e2]
    refine ⟨fun z => by omega, fun _ => ⟨by omega, fun z => fin (k + 1) μ' hk bt g1 g2 g3 (Or.inr z), fun z => ⟨by omega, by omega, ?_⟩⟩⟩
    rintro μ9 rfl
    have e4 : up μ' 4416 0 (k + 1) (J (a k)) 4480 0 k = J (b k) := by rw [up_nq (by decide)]; exact e3
    rw [e4]
    refine ⟨by omega, by omega, ?_⟩
    rintro μ12 rfl
    have := ih (by omega) (up (up μ' 4416 0 (k + 1) (J (a k))) 4480 0 (k + 1) (J (b k))) ((bt.tr (Bt.up (by decide))).tr (Bt.up (by decide))) (fun j hj => ?_) (fun j h1 h2 => ?_) (fun j h1 h2 => ?_)
    · rw [show ((k + 1 : Nat) : Int) + -1 = (k : Int) by omega]
      exact this
    · rw [up_nq (j' := 4416) (by decide), up_at, if_neg (by omega), up_at, if_neg (by omega), up_nq (j' := 4480) (by decide)]
      exact g1 j (by omega)
    · rw [up_nq (j' := 4416) (by decide), up_row, up_row, up_nq (j' := 4480) (by decide)]
      unfold mset
      by_cases y : j = k + 1
      · rw [if_pos y, if_pos y, y]; exact ⟨rfl, rfl⟩
      · rw [if_neg y, if_neg y]; exact g2 j (by omega) h2
    · rcases Nat.lt_or_ge k j with y | y
      · exact g3 j (by omega) h2
      · rw [show j = k by omega]; omega
