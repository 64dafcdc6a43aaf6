-- the reference's nodes
theorem MQ9.ab {S : GS} {μ : Mem} (k : MQ9 S μ) {i : Nat} (hi : i < S.1.1) : μ 3968 0 i = J (ab (S.1.1) (S.1.2.1) i) := (k.2.2.2 i hi).1
theorem MQ9.n0 {S : GS} {μ : Mem} (k : MQ9 S μ) : μ 3264 0 0 = J (S.1.1) := k.1.1.1.1
theorem m_rootOf_spec {S : GS} {μ : Mem} (k : MQ9 S μ) (g : GOK S) {i : Nat} (hi : i < S.1.1) {x : Int32} (ex : x = J i) {P : Int32 → Mem → Prop} (h : P (J (rtx (S.1.1) (S.1.2.1) i)) μ) : w9_rootOf_wp μ x P := by
  subst ex
  intro R hR
  have rn := g.1.n
  have H : ∀ i, i < S.1.1 → P (J (rtx (S.1.1) (S.1.2.1) i)) μ → R μ (J i) := by
    refine tind g.w (fun i hi ih => ?_)
    intro h
    apply hR
    unfold w9_rootOf_b2_body
    have e := k.ab hi
    have ra := ab_rg (w := S.1.2.1) hi
    have te := top_eq g.w hi
    unfold rtx at h
    simp (disch := omega) only [lJ0, lJ1, lJ2, lJ3, lJ4, lJ5, lJ6, lJ7, lJ8, lJ9, lJ10, lJ30, lJ32, lJ33, lJ39, lJ40, lJ41, lJ45, lJ47, lJ48, lJ51, lJ55, lJ57, lJ58, lJ59, lJ60, lJ64, lJ80, lJ82, lJ99, lJ100, lJ101, lJ123, lJ126, lJ282, lJ342, lJ1000, lJ1100, lJ2394, lJ2736, lJ9999, lJ10000, lJ1000000, lJ100000000, J_add, J_sub, J_mul, J_neg, J_le, J_lt, J_eq, J_in, J_clamp, Int.toNat_natCast, e]
    refine ⟨fun c => by omega, fun _ => ⟨by omega, fun c => ?_, fun c => ⟨by omega, ?_⟩⟩⟩
    · rcases ab_tp g.w hi with ⟨h1, h2, h3⟩ | ⟨h1, h2, ⟨h3, h4⟩ | ⟨h3, h4⟩⟩
      · omega
      · rw [if_pos (by omega)] at te
        rw [te, if_neg h4] at h
        exact h
      · omega
    · rcases ab_tp g.w hi with ⟨h1, h2, h3⟩ | ⟨h1, h2, ⟨h3, h4⟩ | ⟨h3, h4⟩⟩
      · rw [if_neg (by omega)] at te
        rw [te] at h
        have := ih h1 h
        rw [show (((tp (S.1.1) (S.1.2.1) i).toNat : Nat) : Int) = ab (S.1.1) (S.1.2.1) i by omega] at this
        exact this
      · omega
      · rw [if_pos (by omega)] at te
        rw [te, if_pos h4] at h
        apply hR
        unfold w9_rootOf_b2_body
        simp (disch := omega) only [lJ0, lJ1, lJ2, lJ3, lJ4, lJ5, lJ6, lJ7, lJ8, lJ9, lJ10, lJ30, lJ32, lJ33, lJ39, lJ40, lJ41, lJ45, lJ47, lJ48, lJ51, lJ55, lJ57, lJ58, lJ59, lJ60, lJ64, lJ80, lJ82, lJ99, lJ100, lJ101, lJ123, lJ126, lJ282, lJ342, lJ1000, lJ1100, lJ2394, lJ2736, lJ9999, lJ10000, lJ1000000, lJ100000000, J_add, J_sub, J_mul, J_neg, J_le, J_lt, J_eq, J_in, J_clamp, Int.toNat_natCast]
        exact ⟨fun _ => h, fun c => by omega⟩
  exact H i hi h
theorem m_depthOf_spec {S : GS} {μ : Mem} (k : MQ9 S μ) (g : GOK S) {i : Nat} (hi : i < S.1.1) {P : Int32 → Mem → Prop} (h : P (J (dpx (S.1.1) (S.1.2.1) i)) μ) : w9_depthOf_wp μ (J i) P := by
  intro R hR
  have rn := g.1.n
  have H : ∀ i, i < S.1.1 → ∀ a : Nat, dp (S.1.1) (S.1.2.1) i + a ≤ 39 → P (J (dpx (S.1.1) (S.1.2.1) i + a)) μ → R μ (J a) (J i) := by
    refine tind g.w (fun i hi ih => ?_)
    intro a ha h
    apply hR
    unfold w9_depthOf_b4_body
    have e := k.ab hi
    have ra := ab_rg (w := S.1.2.1) hi
    have te := top_eq g.w hi
    have de := dp_eq g.w hi
    unfold dpx at h
    simp (disch := omega) only [lJ0, lJ1, lJ2, lJ3, lJ4, lJ5, lJ6, lJ7, lJ8, lJ9, lJ10, lJ30, lJ32, lJ33, lJ39, lJ40, lJ41, lJ45, lJ47, lJ48, lJ51, lJ55, lJ57, lJ58, lJ59, lJ60, lJ64, lJ80, lJ82, lJ99, lJ100, lJ101, lJ123, lJ126, lJ282, lJ342, lJ1000, lJ1100, lJ2394, lJ2736, lJ9999, lJ10000, lJ1000000, lJ100000000, J_add, J_sub, J_mul, J_neg, J_le, J_lt, J_eq, J_in, J_clamp, Int.toNat_natCast, e]
    refine ⟨fun c => by omega, fun _ => ⟨by omega, fun c => ?_, fun c => ⟨by omega, ?_⟩⟩⟩
    · rcases ab_tp g.w hi with ⟨h1, h2, h3⟩ | ⟨h1, h2, ⟨h3, h4⟩ | ⟨h3, h4⟩⟩
      · omega
      · rw [if_pos (by omega)] at te de
        rw [te, if_neg h4, de, show ((0 : Nat) : Int) + (a : Int) = (a : Int) by omega] at h
        exact h
      · omega
    · rcases ab_tp g.w hi with ⟨h1, h2, h3⟩ | ⟨h1, h2, ⟨h3, h4⟩ | ⟨h3, h4⟩⟩
      · rw [if_neg (by omega)] at te de
        rw [te] at h
        have := ih h1 (a + 1) (by omega) (by
          unfold dpx
          by_cases z : kd (S.1.1) (S.1.2.1) (top (S.1.1) (S.1.2.1) (tp (S.1.1) (S.1.2.1) i).toNat) = 2
          · rw [if_pos z] at h ⊢
            rw [show ((dp (S.1.1) (S.1.2.1) (tp (S.1.1) (S.1.2.1) i).toNat : Nat) : Int) + 1 + ((a + 1 : Nat) : Int) = (dp (S.1.1) (S.1.2.1) i : Nat) + 1 + (a : Int) by omega]
            exact h
          · rw [if_neg z] at h ⊢
            rw [show ((dp (S.1.1) (S.1.2.1) (tp (S.1.1) (S.1.2.1) i).toNat : Nat) : Int) + ((a + 1 : Nat) : Int) = (dp (S.1.1) (S.1.2.1) i : Nat) + (a : Int) by omega]
            exact h)
        rw [show (((tp (S.1.1) (S.1.2.1) i).toNat : Nat) : Int) = ab (S.1.1) (S.1.2.1) i by omega] at this
        exact this
      · omega
      · rw [if_pos (by omega)] at te de
        rw [te, if_pos h4, de, show ((0 : Nat) : Int) + 1 + (a : Int) = (a : Int) + 1 by omega] at h
        apply hR
        unfold w9_depthOf_b4_body
        simp (disch := omega) only [lJ0, lJ1, lJ2, lJ3, lJ4, lJ5, lJ6, lJ7, lJ8, lJ9, lJ10, lJ30, lJ32, lJ33, lJ39, lJ40, lJ41, lJ45, lJ47, lJ48, lJ51, lJ55, lJ57, lJ58, lJ59, lJ60, lJ64, lJ80, lJ82, lJ99, lJ100, lJ101, lJ123, lJ126, lJ282, lJ342, lJ1000, lJ1100, lJ2394, lJ2736, lJ9999, lJ10000, lJ1000000, lJ100000000, J_add, J_sub, J_mul, J_neg, J_le, J_lt, J_eq, J_in, J_clamp, Int.toNat_natCast]
        exact ⟨fun _ => h, fun c => by omega⟩
  exact H i hi 0 (by have := dp_lt g.w hi; omega) (by rw [show dpx (S.1.1) (S.1.2.1) i + ((0 : Nat) : Int) = dpx (S.1.1) (S.1.2.1) i by omega]; exact h)
/-- an index that stands for a node -/
def Nx (S : GS) (x : Int) : Prop := (0 ≤ x ∧ x < S.1.1) ∨ (40 ≤ x ∧ x < 40 + (hl (S.1.1) (S.1.2.1) (S.1.1)).length)
theorem nd_Nx {S : GS} (g : GOK S) {t q : Int} (h : nd (S.1.1) (S.1.2.1) t q ≠ -1) : Nx S (nd (S.1.1) (S.1.2.1) t q) := by
  rcases nd_rg g.w t q with y | y | y
  · exact absurd y h
  · exact Or.inl y
  · exact Or.inr y
theorem hl_len {S : GS} (g : GOK S) : (hl (S.1.1) (S.1.2.1) (S.1.1)).length ≤ 40 := by
  have := (hl_inv (S.1.1) (S.1.2.1) (S.1.1)).1
  have := g.1.n
  omega
theorem ab_Nx {S : GS} (g : GOK S) {i : Nat} (hi : i < S.1.1) (h : 0 ≤ ab (S.1.1) (S.1.2.1) i) : Nx S (ab (S.1.1) (S.1.2.1) i) := by
  rcases ab_tp g.w hi with ⟨h1, h2, h3⟩ | ⟨h1, h2, ⟨h3, h4⟩ | ⟨h3, h4⟩⟩
  · have := tp_rg (w := S.1.2.1) hi
    exact Or.inl (by omega)
  · omega
  · have := hfn_rg (hl (S.1.1) (S.1.2.1) (S.1.1)) (S.1.2.1 i 1) (S.1.2.1 i 2)
    unfold ab at h3 ⊢
    rw [if_neg h2, if_pos h4] at h3 ⊢
    exact Or.inr (by omega)
theorem rtx_Nx {S : GS} (g : GOK S) {i : Nat} (hi : i < S.1.1) : Nx S (rtx (S.1.1) (S.1.2.1) i) := by
  have t := top_sp g.w i hi
  unfold rtx
  split
  · rename_i c
    rcases ab_tp g.w t.1 with ⟨h1, h2, h3⟩ | ⟨h1, h2, ⟨h3, h4⟩ | ⟨h3, h4⟩⟩
    · omega
    · omega
    · exact ab_Nx g t.1 (by omega)
  · exact Or.inl (by omega)
theorem num_rg {S : GS} (g : GOK S) {x : Int} (h : Nx S x) : 0 ≤ num (S.1.1) (S.1.2.1) x ∧ num (S.1.1) (S.1.2.1) x < 1100 := by
  have rn := g.1.n
  unfold num
  rcases h with h | h
  · have := g.w.r x.toNat (by omega)
    rw [if_pos (by omega)]
    omega
  · have := hl_rg g.w (Nat.le_refl _) (x - 40).toNat (by omega)
    rw [if_neg (by omega)]
    omega
theorem m_number_spec {S : GS} {μ : Mem} (k : MQ9 S μ) (g : GOK S) {x : Int} (hx : Nx S x) {P : Int32 → Mem → Prop} (h : P (J (num (S.1.1) (S.1.2.1) x)) μ) : w9_number_wp μ (J x) P := by
  have rn := g.1.n
  have rl := hl_len g
  unfold w9_number_wp
  unfold num at h
  rcases hx with hx | hx
  · rw [if_pos (by omega)] at h
    simp (disch := omega) only [lJ0, lJ1, lJ2, lJ3, lJ4, lJ5, lJ6, lJ7, lJ8, lJ9, lJ10, lJ30, lJ32, lJ33, lJ39, lJ40, lJ41, lJ45, lJ47, lJ48, lJ51, lJ55, lJ57, lJ58, lJ59, lJ60, lJ64, lJ80, lJ82, lJ99, lJ100, lJ101, lJ123, lJ126, lJ282, lJ342, lJ1000, lJ1100, lJ2394, lJ2736, lJ9999, lJ10000, lJ1000000, lJ100000000, J_add, J_sub, J_mul, J_neg, J_le, J_lt, J_eq, J_in, J_clamp, Int.toNat_natCast]
    refine ⟨fun c => by omega, fun _ => ?_⟩
    exact of_spec k.1.1.1 rn x.toNat 0 (by congr 1; omega) rfl (by omega) (by omega) h
  · rw [if_neg (by omega)] at h
    have e := (k.2.2.1.2 (x - 40).toNat (by omega)).2
    simp (disch := omega) only [lJ0, lJ1, lJ2, lJ3, lJ4, lJ5, lJ6, lJ7, lJ8, lJ9, lJ10, lJ30, lJ32, lJ33, lJ39, lJ40, lJ41, lJ45, lJ47, lJ48, lJ51, lJ55, lJ57, lJ58, lJ59, lJ60, lJ64, lJ80, lJ82, lJ99, lJ100, lJ101, lJ123, lJ126, lJ282, lJ342, lJ1000, lJ1100, lJ2394, lJ2736, lJ9999, lJ10000, lJ1000000, lJ100000000, J_add, J_sub, J_mul, J_neg, J_le, J_lt, J_eq, J_in, J_clamp, Int.toNat_natCast, e]
    exact ⟨fun _ => ⟨by omega, h⟩, fun c => by omega⟩
theorem m_node_spec {S : GS} {μ : Mem} (hm : MI S μ) (g : GOK S) {t q : Int} (ht : (-2147483648 ≤ t ∧ t ≤ 2147483647)) (hq : (-2147483648 ≤ q ∧ q ≤ 2147483647)) {P : Int32 → Mem → Prop} (h : ∀ μ', FrM μ μ' → μ' 3201 0 0 = μ 3201 0 0 → MQ9 S μ' → P (J (nd (S.1.1) (S.1.2.1) t q)) μ') : w9_node_wp μ (J t) (J q) P := by
  have rn := g.1.n
  have rl := hl_len g
  unfold w9_node_wp
  refine knows_spec2 hm g (fun μ1 f1 t1 k1 => ?_)
  have h := h μ1 f1 t1 k1
  unfold nd at h
  unfold w9_node_b59
  simp (disch := omega) only [lJ0, lJ1, lJ2, lJ3, lJ4, lJ5, lJ6, lJ7, lJ8, lJ9, lJ10, lJ30, lJ32, lJ33, lJ39, lJ40, lJ41, lJ45, lJ47, lJ48, lJ51, lJ55, lJ57, lJ58, lJ59, lJ60, lJ64, lJ80, lJ82, lJ99, lJ100, lJ101, lJ123, lJ126, lJ282, lJ342, lJ1000, lJ1100, lJ2394, lJ2736, lJ9999, lJ10000, lJ1000000, lJ100000000, J_add, J_sub, J_mul, J_neg, J_le, J_lt, J_eq, J_in, J_clamp, Int.toNat_natCast]
  refine ⟨fun c => ⟨fun c2 => ⟨fun c3 => absurd trivial c3, fun _ => ?_⟩, fun c2 => ?_⟩, fun c => ?_⟩
  · rw [if_neg (by omega), if_neg (by omega)] at h; exact h
  · rw [if_neg (by omega), if_pos (by omega)] at h
    have r := hfn_rg (hl (S.1.1) (S.1.2.1) (S.1.1)) t (q - 1000)
    refine holder_spec k1.2.2.1 rl (fun h hh => by have := hl_rg g.w (Nat.le_refl _) h hh; omega) ht (by omega) ?_
    simp (disch := omega) only [lJ0, lJ1, lJ2, lJ3, lJ4, lJ5, lJ6, lJ7, lJ8, lJ9, lJ10, lJ30, lJ32, lJ33, lJ39, lJ40, lJ41, lJ45, lJ47, lJ48, lJ51, lJ55, lJ57, lJ58, lJ59, lJ60, lJ64, lJ80, lJ82, lJ99, lJ100, lJ101, lJ123, lJ126, lJ282, lJ342, lJ1000, lJ1100, lJ2394, lJ2736, lJ9999, lJ10000, lJ1000000, lJ100000000, J_add, J_sub, J_mul, J_neg, J_le, J_lt, J_eq, J_in, J_clamp, Int.toNat_natCast]
    exact ⟨fun c3 => by rw [if_neg c3] at h; exact h, fun c3 => by rw [if_pos c3] at h; exact h⟩
  · rw [if_pos (by omega)] at h
    refine m_find_spec k1.1.1.1 g.w hq ?_
    have rf := fnd_rg (S.1.1) (S.1.2.1) q
    simp (disch := omega) only [lJ0, lJ1, lJ2, lJ3, lJ4, lJ5, lJ6, lJ7, lJ8, lJ9, lJ10, lJ30, lJ32, lJ33, lJ39, lJ40, lJ41, lJ45, lJ47, lJ48, lJ51, lJ55, lJ57, lJ58, lJ59, lJ60, lJ64, lJ80, lJ82, lJ99, lJ100, lJ101, lJ123, lJ126, lJ282, lJ342, lJ1000, lJ1100, lJ2394, lJ2736, lJ9999, lJ10000, lJ1000000, lJ100000000, J_add, J_sub, J_mul, J_neg, J_le, J_lt, J_eq, J_in, J_clamp, Int.toNat_natCast]
    refine ⟨fun c2 => by rw [if_pos c2] at h; exact h, fun c2 => ?_⟩
    rw [if_neg c2] at h
    have ef : (fnd S.1.1 S.1.2.1 q) = (((fnd S.1.1 S.1.2.1 q)).toNat : Nat) := by omega
    have rt := g.w.r ((fnd S.1.1 S.1.2.1 q)).toNat (by omega)
    refine of_spec k1.1.1.1 rn ((fnd S.1.1 S.1.2.1 q)).toNat 1 (by rw [← ef]) rfl (by omega) (by omega) ?_
    simp (disch := omega) only [lJ0, lJ1, lJ2, lJ3, lJ4, lJ5, lJ6, lJ7, lJ8, lJ9, lJ10, lJ30, lJ32, lJ33, lJ39, lJ40, lJ41, lJ45, lJ47, lJ48, lJ51, lJ55, lJ57, lJ58, lJ59, lJ60, lJ64, lJ80, lJ82, lJ99, lJ100, lJ101, lJ123, lJ126, lJ282, lJ342, lJ1000, lJ1100, lJ2394, lJ2736, lJ9999, lJ10000, lJ1000000, lJ100000000, J_add, J_sub, J_mul, J_neg, J_le, J_lt, J_eq, J_in, J_clamp, Int.toNat_natCast]
    exact ⟨fun c3 => by rw [if_neg c3] at h; exact h, fun c3 => by rw [if_pos c3] at h; exact h⟩
/-- 1: no such trace; 2: no such node -/
theorem m_nodeOr_spec {S : GS} {μ : Mem} (hm : MI S μ) (g : GOK S) {t q : Int} (ht : (-2147483648 ≤ t ∧ t ≤ 2147483647)) (hq : (-2147483648 ≤ q ∧ q ≤ 2147483647)) {P : Int32 → Mem → Prop} (h1 : ¬ (0 ≤ t ∧ t < 4) → ∀ μ', FrM μ μ' → MI S μ' → μ' 3201 0 0 = J 1 → P (J (-1)) μ') (h2 : 0 ≤ t ∧ t < 4 → nd (S.1.1) (S.1.2.1) t q = -1 → ∀ μ', FrM μ μ' → MI S μ' → μ' 3201 0 0 = J 2 → P (J (-1)) μ') (h : 0 ≤ t ∧ t < 4 → nd (S.1.1) (S.1.2.1) t q ≠ -1 → ∀ μ', FrM μ μ' → MQ9 S μ' → μ' 3201 0 0 = J 0 → P (J (nd (S.1.1) (S.1.2.1) t q)) μ') : w9_nodeOr_wp μ (J t) (J q) P := by
  unfold w9_nodeOr_wp
  have rn := g.1.n
  have rl := hl_len g
  have rd := nd_rg g.w t q
  refine isTrace_spec ht (fun c => ⟨fun _ => ?_, fun c => absurd c (by decide)⟩) (fun c => ⟨fun c => absurd rfl c, fun _ => ?_⟩)
  · refine m_node_spec hm g ht hq (fun μ1 f1 t1 k1 => ?_)
    simp (disch := omega) only [lJ0, lJ1, lJ2, lJ3, lJ4, lJ5, lJ6, lJ7, lJ8, lJ9, lJ10, lJ30, lJ32, lJ33, lJ39, lJ40, lJ41, lJ45, lJ47, lJ48, lJ51, lJ55, lJ57, lJ58, lJ59, lJ60, lJ64, lJ80, lJ82, lJ99, lJ100, lJ101, lJ123, lJ126, lJ282, lJ342, lJ1000, lJ1100, lJ2394, lJ2736, lJ9999, lJ10000, lJ1000000, lJ100000000, J_add, J_sub, J_mul, J_neg, J_le, J_lt, J_eq, J_in, J_clamp, Int.toNat_natCast]
    unfold w9_nodeOr_b27
    refine ⟨fun c2 => ?_, fun c2 => ?_⟩
    · rintro μ2 rfl
      have t2 : thr μ1 0 3201 0 0 = J 0 := thr_w
      show (¬ thr μ1 0 3201 0 0 = 0 → _) ∧ _
      rw [t2]
      refine ⟨fun c => absurd rfl c, fun _ => ?_⟩
      exact m_node_spec (k1.1.thr (v := 0)) g ht hq (fun μ3 f3 t3 k3 => h c c2 μ3 ((f1.tr thr_fr).tr f3) k3 (t3.trans t2))
    · rintro μ2 rfl
      have t2 : thr μ1 2 3201 0 0 = J 2 := thr_w
      show (¬ thr μ1 2 3201 0 0 = 0 → _) ∧ _
      rw [t2]
      exact ⟨fun _ => h2 c c2 _ (f1.tr (thr_fr (v := 2))) (k1.1.thr (v := 2)) t2, fun c => absurd (t2.symm.trans c) (by decide)⟩
  · unfold w9_nodeOr_b27
    rintro μ2 rfl
    have t2 : thr μ 1 3201 0 0 = J 1 := thr_w
    show (¬ thr μ 1 3201 0 0 = 0 → _) ∧ _
    rw [t2]
    exact ⟨fun _ => h1 c _ (thr_fr (v := 1)) (hm.thr (v := 1)) t2, fun c => absurd (t2.symm.trans c) (by decide)⟩
theorem m_isBelow_spec {S : GS} {μ : Mem} (k : MQ9 S μ) (g : GOK S) {i : Nat} (hi : i < S.1.1) {x : Int} (hx : 0 ≤ x ∧ x < 100) {y : Int32} (ey : y = J x) {P : Int32 → Mem → Prop} (h1 : bl (S.1.1) (S.1.2.1) x i = true → P 1 μ) (h0 : ¬ bl (S.1.1) (S.1.2.1) x i = true → P 0 μ) : w9_isBelow_wp μ (J i) y P := by
  subst ey
  have rn := g.1.n
  unfold w9_isBelow_wp
  have e := k.ab hi
  simp (disch := omega) only [lJ0, lJ1, lJ2, lJ3, lJ4, lJ5, lJ6, lJ7, lJ8, lJ9, lJ10, lJ30, lJ32, lJ33, lJ39, lJ40, lJ41, lJ45, lJ47, lJ48, lJ51, lJ55, lJ57, lJ58, lJ59, lJ60, lJ64, lJ80, lJ82, lJ99, lJ100, lJ101, lJ123, lJ126, lJ282, lJ342, lJ1000, lJ1100, lJ2394, lJ2736, lJ9999, lJ10000, lJ1000000, lJ100000000, J_add, J_sub, J_mul, J_neg, J_le, J_lt, J_eq, J_in, J_clamp, Int.toNat_natCast, e]
  refine ⟨by omega, ?_⟩
  intro R hR
  have H : ∀ i, i < S.1.1 → (bl (S.1.1) (S.1.2.1) x i = true → P 1 μ) → (¬ bl (S.1.1) (S.1.2.1) x i = true → P 0 μ) → R μ (J x) (J (ab (S.1.1) (S.1.2.1) i)) := by
    refine tind g.w (fun i hi ih => ?_)
    intro h1 h0
    apply hR
    unfold w9_isBelow_b7_body
    have ra := ab_rg (w := S.1.2.1) hi
    rw [bl_eq g.w _ hi] at h1 h0
    simp (disch := omega) only [lJ0, lJ1, lJ2, lJ3, lJ4, lJ5, lJ6, lJ7, lJ8, lJ9, lJ10, lJ30, lJ32, lJ33, lJ39, lJ40, lJ41, lJ45, lJ47, lJ48, lJ51, lJ55, lJ57, lJ58, lJ59, lJ60, lJ64, lJ80, lJ82, lJ99, lJ100, lJ101, lJ123, lJ126, lJ282, lJ342, lJ1000, lJ1100, lJ2394, lJ2736, lJ9999, lJ10000, lJ1000000, lJ100000000, J_add, J_sub, J_mul, J_neg, J_le, J_lt, J_eq, J_in, J_clamp, Int.toNat_natCast]
    refine ⟨fun c => ⟨fun c2 => h0 ?_, fun c2 => by omega⟩, fun c => ⟨fun c2 => ⟨fun c3 => absurd c2 c3, fun _ => h1 ?_⟩, fun c2 => ⟨fun c3 => ?_, fun c3 => ⟨by omega, ?_⟩⟩⟩⟩
    · rcases ab_tp g.w hi with ⟨a1, a2, a3⟩ | ⟨a1, a2, a3⟩
      · omega
      · rw [if_pos (by omega)]; simp [c2]
    · split <;> simp [c2]
    · apply hR
      unfold w9_isBelow_b7_body
      simp (disch := omega) only [lJ0, lJ1, lJ2, lJ3, lJ4, lJ5, lJ6, lJ7, lJ8, lJ9, lJ10, lJ30, lJ32, lJ33, lJ39, lJ40, lJ41, lJ45, lJ47, lJ48, lJ51, lJ55, lJ57, lJ58, lJ59, lJ60, lJ64, lJ80, lJ82, lJ99, lJ100, lJ101, lJ123, lJ126, lJ282, lJ342, lJ1000, lJ1100, lJ2394, lJ2736, lJ9999, lJ10000, lJ1000000, lJ100000000, J_add, J_sub, J_mul, J_neg, J_le, J_lt, J_eq, J_in, J_clamp, Int.toNat_natCast]
      rcases ab_tp g.w hi with ⟨a1, a2, a3⟩ | ⟨a1, a2, a3⟩
      · have := tp_rg (w := S.1.2.1) hi; omega
      · rw [if_pos (by omega)] at h0
        exact ⟨fun _ => ⟨fun _ => h0 (by simp [c2]), fun z => by omega⟩, fun z => absurd trivial z⟩
    · rcases ab_tp g.w hi with ⟨a1, a2, a3⟩ | ⟨a1, a2, a3⟩
      · have rt := tp_rg (w := S.1.2.1) hi
        rw [if_neg (by omega)] at h1 h0
        have e2 := k.ab (i := (tp (S.1.1) (S.1.2.1) i).toNat) (by omega)
        rw [show (ab (S.1.1) (S.1.2.1) i).toNat = (tp (S.1.1) (S.1.2.1) i).toNat by omega, e2]
        exact ih a1 (fun z => h1 (by simp [c2, z])) (fun z => h0 (by simp [c2, z]))
      · omega
  exact H i hi h1 h0
theorem m_childrenOf_spec {S : GS} {μ : Mem} (k : MQ9 S μ) (g : GOK S) {x : Int} (hx : -1 ≤ x ∧ x < 100) {P : Int32 → Mem → Prop} (h : P (J (cnt (fun i => ab (S.1.1) (S.1.2.1) i = x) (S.1.1))) μ) : w9_childrenOf_wp μ (J x) P := by
  intro R hR
  have rn := g.1.n
  refine down (Q := fun i => R μ (J x) (J (cnt (fun i => ab (S.1.1) (S.1.2.1) i = x) i)) (J i)) (S.1.1) (fun i hi ih => ?_)
  apply hR
  unfold w9_childrenOf_b4_body
  have e0 := k.n0
  rcases Nat.lt_or_ge i (S.1.1) with c | c
  · have ih := ih c
    have e := k.ab c
    have ra := ab_rg (w := S.1.2.1) c
    simp (disch := omega) only [lJ0, lJ1, lJ2, lJ3, lJ4, lJ5, lJ6, lJ7, lJ8, lJ9, lJ10, lJ30, lJ32, lJ33, lJ39, lJ40, lJ41, lJ45, lJ47, lJ48, lJ51, lJ55, lJ57, lJ58, lJ59, lJ60, lJ64, lJ80, lJ82, lJ99, lJ100, lJ101, lJ123, lJ126, lJ282, lJ342, lJ1000, lJ1100, lJ2394, lJ2736, lJ9999, lJ10000, lJ1000000, lJ100000000, J_add, J_sub, J_mul, J_neg, J_le, J_lt, J_eq, J_in, J_clamp, Int.toNat_natCast, Int.toNat_zero, e0, e, Int.add_zero]
    refine ⟨by omega, fun _ => by omega, fun _ => ⟨by omega, fun c2 => ?_, fun c2 => ?_⟩⟩
    · rw [cnt_succ, if_neg c2] at ih; exact ih
    · rw [cnt_succ, if_pos c2] at ih; exact ih
  · have e9 : i = S.1.1 := by omega
    subst e9
    simp (disch := omega) only [lJ0, lJ1, lJ2, lJ3, lJ4, lJ5, lJ6, lJ7, lJ8, lJ9, lJ10, lJ30, lJ32, lJ33, lJ39, lJ40, lJ41, lJ45, lJ47, lJ48, lJ51, lJ55, lJ57, lJ58, lJ59, lJ60, lJ64, lJ80, lJ82, lJ99, lJ100, lJ101, lJ123, lJ126, lJ282, lJ342, lJ1000, lJ1100, lJ2394, lJ2736, lJ9999, lJ10000, lJ1000000, lJ100000000, J_add, J_sub, J_mul, J_neg, J_le, J_lt, J_eq, J_in, J_clamp, Int.toNat_natCast, Int.toNat_zero, e0]
    exact ⟨by omega, fun _ => h, fun c => absurd (Int.le_refl _) c⟩
