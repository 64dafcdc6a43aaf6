-- needs: 20 21 22 23 24 25 26 30 31 32 33
-- the reference's clocks
theorem MW.bt {μ μ' : Mem} {s : St} {j : Nat} {js : List Nat} (h : MW (μ j 0) s) (b : Bt js μ μ') (hj : j ∉ js) : MW (μ' j 0) s := by rw [b j hj]; exact h
theorem parentOf_spec {μ : Mem} {s : St} (hm : MW (μ 3264 0) s) (hw : WF s.1 s.2.1) {i : Nat} (hi : i < s.1) {P : Int32 → Mem → Prop} (h : P (J (pp s.1 s.2.1 i)) μ) : w9_parentOf_wp μ (J i) P := by
  obtain ⟨n, w, l⟩ := s
  have hw : WF n w := hw
  have hi : i < n := hi
  have r := hw.n
  have r1 := hw.r i hi
  have r2 := fnd_rg n w (w i 2)
  have h : P (J (pp n w i)) μ := h
  unfold pp at h
  unfold w9_parentOf_wp
  refine of_spec hm r i 2 rfl rfl hi (by omega) ?_
  dsimp only
  simp (disch := omega) only [lJ0, lJ1, lJ2, lJ3, lJ4, lJ5, lJ6, lJ7, lJ8, lJ9, lJ10, lJ30, lJ32, lJ33, lJ39, lJ40, lJ41, lJ45, lJ47, lJ48, lJ51, lJ55, lJ57, lJ58, lJ59, lJ60, lJ64, lJ80, lJ82, lJ99, lJ100, lJ101, lJ123, lJ126, lJ282, lJ342, lJ1000, lJ1100, lJ2394, lJ2736, lJ9999, lJ10000, lJ1000000, lJ100000000, J_add, J_sub, J_mul, J_neg, J_le, J_lt, J_eq, J_in, J_clamp, Int.toNat_natCast]
  refine ⟨fun c => ?_, fun c => ?_⟩
  · refine of_spec hm r i 2 rfl rfl hi (by omega) ?_
    dsimp only
    refine m_find_spec hm hw (by omega) ?_
    dsimp only
    unfold w9_parentOf_b24
    simp (disch := omega) only [lJ0, lJ1, lJ2, lJ3, lJ4, lJ5, lJ6, lJ7, lJ8, lJ9, lJ10, lJ30, lJ32, lJ33, lJ39, lJ40, lJ41, lJ45, lJ47, lJ48, lJ51, lJ55, lJ57, lJ58, lJ59, lJ60, lJ64, lJ80, lJ82, lJ99, lJ100, lJ101, lJ123, lJ126, lJ282, lJ342, lJ1000, lJ1100, lJ2394, lJ2736, lJ9999, lJ10000, lJ1000000, lJ100000000, J_add, J_sub, J_mul, J_neg, J_le, J_lt, J_eq, J_in, J_clamp, Int.toNat_natCast]
    refine ⟨fun c => by simpa [c] using h, fun c => ⟨fun c2 => by simpa [c, c2] using h, fun c2 => ?_⟩⟩
    have g := fnd_some c
    obtain ⟨p, hp⟩ : ∃ p : Nat, fnd n w (w i 2) = p := ⟨(fnd n w (w i 2)).toNat, by omega⟩
    rw [hp] at h g c c2 ⊢
    rw [Int.toNat_natCast] at h
    have r3 := hw.r p (by omega)
    refine of_spec hm r p 1 rfl rfl (by show p < n; omega) (by omega) ?_
    refine of_spec hm r i 1 rfl rfl hi (by omega) ?_
    dsimp only
    simp (disch := omega) only [lJ0, lJ1, lJ2, lJ3, lJ4, lJ5, lJ6, lJ7, lJ8, lJ9, lJ10, lJ30, lJ32, lJ33, lJ39, lJ40, lJ41, lJ45, lJ47, lJ48, lJ51, lJ55, lJ57, lJ58, lJ59, lJ60, lJ64, lJ80, lJ82, lJ99, lJ100, lJ101, lJ123, lJ126, lJ282, lJ342, lJ1000, lJ1100, lJ2394, lJ2736, lJ9999, lJ10000, lJ1000000, lJ100000000, J_add, J_sub, J_mul, J_neg, J_le, J_lt, J_eq, J_in, J_clamp, Int.toNat_natCast]
    rw [if_neg c, if_neg c2] at h
    exact ⟨fun c3 => by rw [if_pos c3] at h; exact h, fun c3 => by rw [if_neg c3] at h; exact h⟩
  · have e : fnd n w (w i 2) = -1 := by
      by_cases y : fnd n w (w i 2) = -1
      · exact y
      · have g := fnd_some y
        have r3 := hw.r (fnd n w (w i 2)).toNat (by omega)
        omega
    unfold w9_parentOf_b24
    simp (disch := omega) only [lJ0, lJ1, lJ2, lJ3, lJ4, lJ5, lJ6, lJ7, lJ8, lJ9, lJ10, lJ30, lJ32, lJ33, lJ39, lJ40, lJ41, lJ45, lJ47, lJ48, lJ51, lJ55, lJ57, lJ58, lJ59, lJ60, lJ64, lJ80, lJ82, lJ99, lJ100, lJ101, lJ123, lJ126, lJ282, lJ342, lJ1000, lJ1100, lJ2394, lJ2736, lJ9999, lJ10000, lJ1000000, lJ100000000, J_add, J_sub, J_mul, J_neg, J_le, J_lt, J_eq, J_in, J_clamp, Int.toNat_natCast]
    refine ⟨fun _ => ?_, fun c => absurd trivial c⟩
    rw [if_pos e] at h
    exact h
def rb (e : Int) : Int := if e = 1000000 then 100000000 else e
def RM (f : Ar) (E : Mx) : Prop := ∀ a c, a < 8 → c < 8 → f (8 * c + a) = J (rb (E a c))
theorem rb_lt {e : Int} (h : e = 1000000 ∨ (-400000 ≤ e ∧ e ≤ 400000)) : (-400000 ≤ rb e ∧ rb e ≤ 100000000) ∧ (100000000 ≤ rb e ↔ e = 1000000) ∧ (e ≠ 1000000 → rb e = e) := by
  unfold rb
  split <;> omega
theorem holds_spec {μ : Mem} {E : Mx} {K : Int} (t : Ti K E) (hK : 0 ≤ K ∧ K ≤ 149985) (hm : RM (μ 3712 0) E) {h l : Nat} (hh : h < 8) (hl : l < 8) {b : Int} (hb : -9999 ≤ b ∧ b ≤ 9999) {x y z : Int32} (ex : x = J l) (ey : y = J h) (ez : z = J b) {P : Int32 → Mem → Prop} (h0 : ¬ (E l h = 1000000 ∨ 0 ≤ b + E l h) → P 0 μ) (h1 : (E l h = 1000000 ∨ 0 ≤ b + E l h) → ∀ μ', Bt [3712] μ μ' → RM (μ' 3712 0) (tg E h l b) → P 1 μ') : w9_holds_wp μ x y z P := by
  subst ex ey ez
  have rg : ∀ a c, a < 8 → c < 8 → E a c = 1000000 ∨ -K ≤ E a c ∧ E a c ≤ K := t.2.2
  have rg2 : ∀ a c, a < 8 → c < 8 → E a c = 1000000 ∨ (-400000 ≤ E a c ∧ E a c ≤ 400000) := fun a c ha hc => by have := rg a c ha hc; omega
  have lp : (E l h = 1000000 ∨ 0 ≤ b + E l h) → w9_holds_b37 P μ (J l) (J h) (J b) 0 := by
    intro f R hR
    suffices H : ∀ μ', Bt [3712] μ μ' → (∀ a c, a < 8 → c < 8 → μ' 3712 0 (8 * c + a) = if c < 0 then J (rb (tg E h l b a c)) else J (rb (E a c))) → R μ' (J l) (J h) (J b) (J (0 : Nat)) from H μ Bt.rf (fun a c ha hc => by rw [if_neg (by omega)]; exact hm a c ha hc)
    refine down (Q := fun i => ∀ μ', Bt [3712] μ μ' → (∀ a c, a < 8 → c < 8 → μ' 3712 0 (8 * c + a) = if c < i then J (rb (tg E h l b a c)) else J (rb (E a c))) → R μ' (J l) (J h) (J b) (J i)) 8 (fun i hi ih μ' bt cm => ?_)
    apply hR
    unfold w9_holds_b37_body
    rcases Nat.lt_or_ge i 8 with ci | ci
    rotate_left
    · obtain rfl : i = 8 := by omega
      simp (disch := omega) only [lJ0, lJ1, lJ2, lJ3, lJ4, lJ5, lJ6, lJ7, lJ8, lJ9, lJ10, lJ30, lJ32, lJ33, lJ39, lJ40, lJ41, lJ45, lJ47, lJ48, lJ51, lJ55, lJ57, lJ58, lJ59, lJ60, lJ64, lJ80, lJ82, lJ99, lJ100, lJ101, lJ123, lJ126, lJ282, lJ342, lJ1000, lJ1100, lJ2394, lJ2736, lJ9999, lJ10000, lJ1000000, lJ100000000, J_add, J_sub, J_mul, J_neg, J_le, J_lt, J_eq, J_in, J_clamp, Int.toNat_natCast]
      exact ⟨fun _ => h1 f _ bt (fun a c ha hc => by rw [cm a c ha hc, if_pos hc]), fun c => absurd (by omega) c⟩
    have ih := ih ci
    simp (disch := omega) only [lJ0, lJ1, lJ2, lJ3, lJ4, lJ5, lJ6, lJ7, lJ8, lJ9, lJ10, lJ30, lJ32, lJ33, lJ39, lJ40, lJ41, lJ45, lJ47, lJ48, lJ51, lJ55, lJ57, lJ58, lJ59, lJ60, lJ64, lJ80, lJ82, lJ99, lJ100, lJ101, lJ123, lJ126, lJ282, lJ342, lJ1000, lJ1100, lJ2394, lJ2736, lJ9999, lJ10000, lJ1000000, lJ100000000, J_add, J_sub, J_mul, J_neg, J_le, J_lt, J_eq, J_in, J_clamp, Int.toNat_natCast]
    refine ⟨fun _ => by omega, fun _ => ?_⟩
    intro R2 hR2
    suffices H : ∀ μ', Bt [3712] μ μ' → (∀ a c, a < 8 → c < 8 → μ' 3712 0 (8 * c + a) = if c < i ∨ (c = i ∧ a < 0) then J (rb (tg E h l b a c)) else J (rb (E a c))) → R2 μ' (J l) (J h) (J b) (J i) (J (0 : Nat)) from H μ' bt (fun a c ha hc => by
      rw [cm a c ha hc]
      by_cases y : c < i
      · rw [if_pos y, if_pos (Or.inl y)]
      · rw [if_neg y, if_neg (by omega)])
    refine down (Q := fun j => ∀ μ', Bt [3712] μ μ' → (∀ a c, a < 8 → c < 8 → μ' 3712 0 (8 * c + a) = if c < i ∨ (c = i ∧ a < j) then J (rb (tg E h l b a c)) else J (rb (E a c))) → R2 μ' (J l) (J h) (J b) (J i) (J j)) 8 (fun j hj ih2 μ' bt cm => ?_)
    apply hR2
    unfold w9_holds_b47_body
    rcases Nat.lt_or_ge j 8 with cj | cj
    rotate_left
    · obtain rfl : j = 8 := by omega
      simp (disch := omega) only [lJ0, lJ1, lJ2, lJ3, lJ4, lJ5, lJ6, lJ7, lJ8, lJ9, lJ10, lJ30, lJ32, lJ33, lJ39, lJ40, lJ41, lJ45, lJ47, lJ48, lJ51, lJ55, lJ57, lJ58, lJ59, lJ60, lJ64, lJ80, lJ82, lJ99, lJ100, lJ101, lJ123, lJ126, lJ282, lJ342, lJ1000, lJ1100, lJ2394, lJ2736, lJ9999, lJ10000, lJ1000000, lJ100000000, J_add, J_sub, J_mul, J_neg, J_le, J_lt, J_eq, J_in, J_clamp, Int.toNat_natCast]
      refine ⟨fun _ => ih _ bt (fun a d ha hd => ?_), fun c => absurd (by omega) c⟩
      rw [cm a d ha hd]
      by_cases y : d < i + 1
      · rw [if_pos y, if_pos (by omega)]
      · rw [if_neg y, if_neg (by omega)]
    have ih2 := ih2 cj
    have e1 : μ' 3712 0 (8 * i + l) = J (rb (E l i)) := by
      rw [cm l i hl ci]
      split
      · rw [tg_row t hh hl f ci]
      · rfl
    have e2 : μ' 3712 0 (8 * h + j) = J (rb (E j h)) := by
      rw [cm j h cj hh]
      split
      · rw [tg_col t hh hl f cj]
      · rfl
    have e3 : μ' 3712 0 (8 * i + j) = J (rb (E j i)) := by
      rw [cm j i cj ci, if_neg (by omega)]
    have g1 := rb_lt (rg2 l i hl ci)
    have g2 := rb_lt (rg2 j h cj hh)
    have g3 := rb_lt (rg2 j i cj ci)
    have stp : ∀ μ'' : Mem, Bt [3712] μ' μ'' → (∀ k, μ'' 3712 0 k = if k = 8 * i + j then J (rb (tg E h l b j i)) else μ' 3712 0 k) → R2 μ'' (J l) (J h) (J b) (J i) (J ((j : Int) + 1)) := fun μ'' bb cc => by
      refine ih2 μ'' (bt.tr bb) (fun a d ha hd => ?_)
      rw [cc]
      by_cases y : a = j ∧ d = i
      · rw [if_pos (by omega), if_pos (by omega), y.1, y.2]
      · rw [if_neg (by omega), cm a d ha hd]
        by_cases y2 : d < i ∨ (d = i ∧ a < j)
        · rw [if_pos y2, if_pos (by omega)]
        · rw [if_neg y2, if_neg (by omega)]
    have same : tg E h l b j i = E j i → R2 μ' (J l) (J h) (J b) (J i) (J ((j : Int) + 1)) := fun e => stp μ' Bt.rf (fun k => by
      split
      · rename_i y
        rw [y, e, e3]
      · rfl)
    have i1 : (8 * (i : Int) + l).toNat = 8 * i + l := by omega
    have i2 : (8 * (h : Int) + j).toNat = 8 * h + j := by omega
    have i3 : (8 * (i : Int) + j).toNat = 8 * i + j := by omega
    simp (disch := omega) only [lJ0, lJ1, lJ2, lJ3, lJ4, lJ5, lJ6, lJ7, lJ8, lJ9, lJ10, lJ30, lJ32, lJ33, lJ39, lJ40, lJ41, lJ45, lJ47, lJ48, lJ51, lJ55, lJ57, lJ58, lJ59, lJ60, lJ64, lJ80, lJ82, lJ99, lJ100, lJ101, lJ123, lJ126, lJ282, lJ342, lJ1000, lJ1100, lJ2394, lJ2736, lJ9999, lJ10000, lJ1000000, lJ100000000, J_add, J_sub, J_mul, J_neg, J_le, J_lt, J_eq, J_in, J_clamp, Int.toNat_natCast, i1, i2, i3, e1, e2, e3]
    refine ⟨fun _ => by omega, fun _ => ⟨by omega, by omega, fun c1 => same (by unfold tg; rw [if_pos (Or.inr (g1.2.1.mp c1))]), fun c1 => ⟨fun c2 => same (by unfold tg; rw [if_pos (Or.inl (g2.2.1.mp c2))]), fun c2 => ?_⟩⟩⟩
    have n1 : E l i ≠ 1000000 := fun z => c1 (g1.2.1.mpr z)
    have n2 : E j h ≠ 1000000 := fun z => c2 (g2.2.1.mpr z)
    have q1 := g1.2.2 n1
    have q2 := g2.2.2 n2
    have rg3 := rg l i hl ci
    have rg4 := rg j h cj hh
    have rg5 := rg j i cj ci
    rw [q1, q2]
    refine ⟨by omega, fun c3 => same ?_, fun c3 => ⟨by omega, ?_⟩⟩
    · unfold tg
      have : E j i ≠ 1000000 := by
        intro z
        unfold rb at c3
        rw [if_pos z] at c3
        omega
      have q3 := g3.2.2 this
      rw [if_neg (by omega), if_neg (by omega)]
    · rintro _ rfl
      refine stp _ (Bt.up (by decide)) (fun k => ?_)
      rw [up_row]
      unfold mset
      split
      · have e : tg E h l b j i = E l i + b + E j h := by
          unfold tg
          rw [if_neg (by omega)]
          have : E j i = 1000000 ∨ rb (E j i) = E j i := by
            by_cases y : E j i = 1000000
            · exact Or.inl y
            · exact Or.inr (g3.2.2 y)
          rw [if_pos (by omega)]
          omega
        rw [e]
        congr 1
        unfold rb
        rw [if_neg (by omega)]
      · rfl
  have e0 := hm l h hl hh
  have g0 := rb_lt (rg2 l h hl hh)
  have r0 := rg l h hl hh
  unfold w9_holds_wp
  have i0 : (8 * (h : Int) + l).toNat = 8 * h + l := by omega
  simp (disch := omega) only [lJ0, lJ1, lJ2, lJ3, lJ4, lJ5, lJ6, lJ7, lJ8, lJ9, lJ10, lJ30, lJ32, lJ33, lJ39, lJ40, lJ41, lJ45, lJ47, lJ48, lJ51, lJ55, lJ57, lJ58, lJ59, lJ60, lJ64, lJ80, lJ82, lJ99, lJ100, lJ101, lJ123, lJ126, lJ282, lJ342, lJ1000, lJ1100, lJ2394, lJ2736, lJ9999, lJ10000, lJ1000000, lJ100000000, J_add, J_sub, J_mul, J_neg, J_le, J_lt, J_eq, J_in, J_clamp, Int.toNat_natCast, i0, e0]
  refine ⟨by omega, fun c => lp (Or.inl (g0.2.1.mp c)), fun c => ⟨by omega, fun c2 => ?_, fun c2 => ?_⟩⟩
  · have := g0.2.2 (fun z => c (g0.2.1.mpr z))
    exact lp (Or.inr (by omega))
  · have := g0.2.2 (fun z => c (g0.2.1.mpr z))
    exact h0 (by omega)
