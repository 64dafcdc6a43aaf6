-- shelves
abbrev setM (S : GS) (m : Nat → Nat → Int × Int) : GS := (S.1, S.2.1, S.2.2.1, m, S.2.2.2.2)
def mput (m : Nat → Nat → Int × Int) (k p : Nat) (v : Int × Int) : Nat → Nat → Int × Int := fun k' p' => if k' = k ∧ p' = p then v else m k' p'
def fil (m : Nat → Nat → Int × Int) (k : Nat) : Int := cnt (fun p => (m k p).1 ≠ -1) 4
def op_bookmark (S : GS) (k p t q : Int) : OpR Int := if 0 ≤ k ∧ k < 2 ∧ 0 ≤ p ∧ p < 4 then (if 0 ≤ t ∧ t < 4 then (if nd (S.1.1) (S.1.2.1) t q = -1 then thw S xNE 2 else if k = 0 ∧ 1000 ≤ q then thw S xUO 3 else ok (setM S (mput (S.2.2.2.1) k.toNat p.toNat (t, q))) (fil (mput (S.2.2.2.1) k.toNat p.toNat (t, q)) k.toNat)) else thw S xIO 1) else thw S xIO 1
def op_bookmarked (S : GS) (k p : Int) : OpR Int := if 0 ≤ k ∧ k < 2 ∧ 0 ≤ p ∧ p < 4 then (if (S.2.2.2.1 k.toNat p.toNat).1 = -1 then thw S xNE 2 else if nd (S.1.1) (S.1.2.1) (S.2.2.2.1 k.toNat p.toNat).1 (S.2.2.2.1 k.toNat p.toNat).2 = -1 then thw S xNE 2 else ok S (10000 * (S.2.2.2.1 k.toNat p.toNat).1 + (S.2.2.2.1 k.toNat p.toNat).2)) else thw S xIO 1
theorem nd_q {n : Nat} {w : View} (hw : WF n w) {t q : Int} (h : nd n w t q ≠ -1) : 0 ≤ q ∧ q < 1100 := by
  unfold nd at h
  by_cases c : q < 1000
  · rw [if_pos c] at h
    refine ⟨?_, by omega⟩
    rcases Int.lt_or_le q 0 with y | y
    · rw [if_pos (fnd_hi hw (Or.inl y))] at h; exact absurd rfl h
    · exact y
  · rw [if_neg c] at h
    by_cases c2 : q < 1100
    · omega
    · rw [if_neg c2] at h; exact absurd rfl h
theorem g_bookmark {S : GS} (g : GOK S) {k p t q : Int} : GOK (op_bookmark S k p t q).1 := by
  unfold op_bookmark
  by_cases c1 : 0 ≤ k ∧ k < 2 ∧ 0 ≤ p ∧ p < 4
  · rw [if_pos c1]
    by_cases c2 : 0 ≤ t ∧ t < 4
    · rw [if_pos c2]
      by_cases c3 : nd (S.1.1) (S.1.2.1) t q = -1
      · rw [if_pos c3]; exact g
      · rw [if_neg c3]
        by_cases c4 : k = 0 ∧ 1000 ≤ q
        · rw [if_pos c4]; exact g
        · rw [if_neg c4]
          have rq := nd_q g.w c3
          obtain ⟨a1, a2, a3, a4, a5, a6⟩ := g
          refine ⟨a1, a2, a3, a4, fun k' p' hk hp => ?_, a6⟩
          show -1 ≤ (mput (S.2.2.2.1) k.toNat p.toNat (t, q) k' p').1 ∧ (mput (S.2.2.2.1) k.toNat p.toNat (t, q) k' p').1 < 4 ∧ 0 ≤ (mput (S.2.2.2.1) k.toNat p.toNat (t, q) k' p').2 ∧ (mput (S.2.2.2.1) k.toNat p.toNat (t, q) k' p').2 < 1100
          unfold mput
          by_cases y : k' = k.toNat ∧ p' = p.toNat
          · rw [if_pos y]; dsimp only; omega
          · rw [if_neg y]; exact a5 k' p' hk hp
    · rw [if_neg c2]; exact g
  · rw [if_neg c1]; exact g
theorem CI.mkM {S : GS} {μ μ' : Mem} {m : Nat → Nat → Int × Int} (h : CI S μ) (b : Bt [2368] μ μ') (hm : CMk μ' m) : CI (setM S m) μ' := by
  have q : ∀ j, j ≠ 2368 → μ' j = μ j := fun j hj => b j (by simpa using hj)
  obtain ⟨⟨h1, h2, h3, h4, h5, h6⟩, hw⟩ := h
  refine ⟨⟨h1.ev (fun j hj => q j (by omega)), h2.ev (fun j hj => q j (by omega)), h3.ev (q _ (by decide)) (fun j hj => q j (by omega)), hm, h5.ev (q _ (by decide)) (q _ (by decide)), ?_⟩, ?_⟩
  · show μ' 2574 0 0 = _
    rw [q 2574 (by decide)]
    exact h6
  · rcases hw with hw | ⟨w1, w2, w3⟩
    · exact Or.inl (by show μ' 2573 0 0 = _; rw [q 2573 (by decide)]; exact hw)
    · exact Or.inr ⟨by show μ' 2573 0 0 = _; rw [q 2573 (by decide)]; exact w1, w2.ev (q _ (by decide)) (q _ (by decide)) (q _ (by decide)), w3.ev (fun j hj => q j (by omega))⟩
theorem MI.mkM {S : GS} {μ μ' : Mem} {m : Nat → Nat → Int × Int} (h : MI S μ) (b : Bt [3520] μ μ') (hm : MMk μ' m) : MI (setM S m) μ' := by
  have q : ∀ j, j ≠ 3520 → μ' j = μ j := fun j hj => b j (by simpa using hj)
  have h' : MI (setM S m) (fun j => if j = 3520 then μ' 3520 else μ j) := by
    have e : (fun j => if j = 3520 then μ' 3520 else μ j) = μ' := by
      funext j
      by_cases y : j = 3520
      · rw [if_pos y, y]
      · rw [if_neg y, q j y]
    rw [e]
    obtain ⟨⟨h1, h2, h3, h4, h5, h6⟩, hw⟩ := h
    refine ⟨⟨h1.ev (q _ (by decide)), ⟨h2.1, by rw [q _ (by decide)]; exact h2.2.1, fun j hj => by have := h2.2.2 j hj; rw [← q 3456 (by decide)] at this; exact this⟩, ?_, hm, ⟨by rw [q _ (by decide)]; exact h5.1, fun i hi => by rw [q _ (by decide)]; exact h5.2 i hi⟩, by show μ' 3211 0 0 = _; rw [q _ (by decide)]; exact h6⟩, ?_⟩
    · obtain ⟨t, hs, v, mm, i, e⟩ := S
      cases v with
      | none => show μ' 3206 0 0 = _; rw [q _ (by decide)]; exact h3
      | some s => exact ⟨by rw [q _ (by decide)]; exact h3.1, h3.2.ev (q _ (by decide))⟩
    · rcases hw with hw | ⟨w1, w2, w3⟩
      · exact Or.inl (by rw [q _ (by decide)]; exact hw)
      · exact Or.inr ⟨by rw [q _ (by decide)]; exact w1, w2.ev (q _ (by decide)) (q _ (by decide)) (q _ (by decide)), w3.ev (q _ (by decide)) (q _ (by decide)) (q _ (by decide)) (q _ (by decide)) (q _ (by decide))⟩
  have e : (fun j => if j = 3520 then μ' 3520 else μ j) = μ' := by
    funext j
    by_cases y : j = 3520
    · rw [if_pos y, y]
    · rw [if_neg y, q j y]
  rw [e] at h'
  exact h'
theorem mput_rg {S : GS} (g : GOK S) {k p : Nat} {t q : Int} (ht : 0 ≤ t ∧ t < 4) {k' i : Nat} (hk : k' < 2) (hi : i < 4) : -1 ≤ (mput (S.2.2.2.1) k p (t, q) k' i).1 ∧ (mput (S.2.2.2.1) k p (t, q) k' i).1 < 4 := by
  have a := g.2.2.2.2.1 k' i hk hi
  unfold mput
  by_cases y : k' = k ∧ i = p
  · rw [if_pos y]; dsimp only; omega
  · rw [if_neg y]; omega
theorem checkShelfPlace_spec {μ : Mem} {k p : Int} (hk : (-2147483648 ≤ k ∧ k ≤ 2147483647)) (hp : (-2147483648 ≤ p ∧ p ≤ 2147483647)) {P : Mem → Prop} {X : String → Mem → Prop} (h1 : 0 ≤ k ∧ k < 2 ∧ 0 ≤ p ∧ p < 4 → P μ) (h0 : ¬ (0 ≤ k ∧ k < 2 ∧ 0 ≤ p ∧ p < 4) → X xIO μ) : w8_checkShelfPlace_wp μ (J k) (J p) P X := by
  unfold w8_checkShelfPlace_wp
  refine isWithin_spec k 2 rfl rfl hk (by decide) (fun c => ⟨fun z => absurd z (by decide), fun _ => ?_⟩) (fun c => ⟨fun _ => h0 (by omega), fun z => absurd rfl z⟩)
  exact isWithin_spec p 4 rfl rfl hp (by decide) (fun c2 => ⟨fun _ => h1 (by omega), fun z => absurd z (by decide)⟩) (fun c2 => ⟨fun z => absurd rfl z, fun _ => h0 (by omega)⟩)
theorem c_bookmark {S : GS} {μ : Mem} (hc : CI S μ) (g : GOK S) {k p t q : Int} (hk : (-2147483648 ≤ k ∧ k ≤ 2147483647)) (hp : (-2147483648 ≤ p ∧ p ≤ 2147483647)) (ht : (-2147483648 ≤ t ∧ t ≤ 2147483647)) (hq : (-2147483648 ≤ q ∧ q ≤ 2147483647)) {P : Int32 → Mem → Prop} {X : String → Mem → Prop} (h : CRes J (op_bookmark S k p t q) μ P X) : w8_bookmark_wp μ (J k) (J p) (J t) (J q) P X := by
  unfold op_bookmark at h
  unfold w8_bookmark_wp
  refine checkShelfPlace_spec hk hp (fun c => ?_) (fun c => by rw [if_neg c] at h; exact h μ FrC.rf hc)
  rw [if_pos c] at h
  refine findNode_spec hc g ht hq (fun c2 => by rw [if_neg c2] at h; exact h μ FrC.rf hc) (fun c2 c3 μ' f k' => by rw [if_pos c2, if_pos c3] at h; exact h μ' f k'.1) (fun c2 c3 μ' f k' => ?_)
  rw [if_pos c2, if_neg c3] at h
  have fin : ¬ (k = 0 ∧ 1000 ≤ q) → w8_bookmark_b36 P X μ' (J k) (J p) (J t) (J q) := by
    intro c4
    rw [if_neg c4] at h
    unfold w8_bookmark_b36 w6_put_wp
    refine isWithin_spec k 2 rfl rfl hk (by decide) (fun _ => ⟨fun z => absurd z (by decide), fun _ => ?_⟩) (fun z => absurd (by omega) z)
    refine isWithin_spec p 4 rfl rfl hp (by decide) (fun _ => ⟨fun z => absurd z (by decide), fun _ => ?_⟩) (fun z => absurd (by omega) z)
    refine ⟨(J_in (by omega)).mpr (by omega), (J_in (by omega)).mpr (by omega), ?_⟩
    rintro μ2 rfl
    refine ⟨(J_in (by omega)).mpr (by omega), (J_in (by omega)).mpr (by omega), ?_⟩
    rintro μ3 rfl
    rw [J_clamp hk, J_clamp hp]
    have eb : Bt [2368] μ' (up (up μ' 2368 (2 * 0 + k.toNat) p.toNat (J t)) 2368 (2 * 1 + k.toNat) p.toNat (J q)) := (Bt.up (by decide)).tr (Bt.up (by decide))
    have cm : CMk (up (up μ' 2368 (2 * 0 + k.toNat) p.toNat (J t)) 2368 (2 * 1 + k.toNat) p.toNat (J q)) (mput (S.2.2.2.1) k.toNat p.toNat (t, q)) := by
      intro k2 p2 hk2 hp2
      have o := k'.1.1.2.2.2.1 k2 p2 hk2 hp2
      unfold mput
      show (up (up μ' 2368 (2 * 0 + k.toNat) p.toNat (J t)) 2368 (2 * 1 + k.toNat) p.toNat (J q)) 2368 k2 p2 = _ ∧ (_ → (up (up μ' 2368 (2 * 0 + k.toNat) p.toNat (J t)) 2368 (2 * 1 + k.toNat) p.toNat (J q)) 2368 (2 + k2) p2 = _)
      rw [up_at, up_at, up_at, up_at]
      by_cases y : k2 = k.toNat ∧ p2 = p.toNat
      · have d1 : ¬ (2368 = 2368 ∧ k2 = 2 * 1 + k.toNat ∧ p2 = p.toNat) := by omega
        have d2 : 2368 = 2368 ∧ k2 = 2 * 0 + k.toNat ∧ p2 = p.toNat := by omega
        have d3 : 2368 = 2368 ∧ 2 + k2 = 2 * 1 + k.toNat ∧ p2 = p.toNat := by omega
        rw [if_pos y, if_neg d1, if_pos d2, if_pos d3]
        exact ⟨rfl, fun _ => rfl⟩
      · have d1 : ¬ (2368 = 2368 ∧ k2 = 2 * 1 + k.toNat ∧ p2 = p.toNat) := by omega
        have d2 : ¬ (2368 = 2368 ∧ k2 = 2 * 0 + k.toNat ∧ p2 = p.toNat) := by omega
        have d3 : ¬ (2368 = 2368 ∧ 2 + k2 = 2 * 1 + k.toNat ∧ p2 = p.toNat) := by omega
        have d4 : ¬ (2368 = 2368 ∧ 2 + k2 = 2 * 0 + k.toNat ∧ p2 = p.toNat) := by omega
        rw [if_neg y, if_neg d1, if_neg d2, if_neg d3, if_neg d4]
        exact o
    have ci := k'.1.mkM eb cm
    have h := h _ (f.tr (eb.frC (by decide))) ci
    dsimp only at h
    have mr := fun i hi => mput_rg g (k := k.toNat) (p := p.toNat) (t := t) (q := q) (by omega) (k' := k.toNat) (i := i) (by omega) hi
    generalize up (up μ' 2368 (2 * 0 + k.toNat) p.toNat (J t)) 2368 (2 * 1 + k.toNat) p.toNat (J q) = μ2 at *
    generalize mput (S.2.2.2.1) k.toNat p.toNat (t, q) = m at *
    clear ci eb
    intro R hR
    refine down (Q := fun i => R μ2 (J k) (J (cnt (fun p => (m k.toNat p).1 ≠ -1) i)) (J i)) 4 (fun i hi ih => ?_)
    apply hR
    unfold w6_filled_b4_body
    rcases Nat.lt_or_ge i 4 with ci | ci
    · have ih := ih ci
      rw [cnt_succ] at ih
      simp (disch := omega) only [lJ0, lJ1, lJ2, lJ3, lJ4, lJ5, lJ6, lJ7, lJ8, lJ9, lJ10, lJ30, lJ32, lJ33, lJ39, lJ40, lJ41, lJ45, lJ47, lJ48, lJ51, lJ55, lJ57, lJ58, lJ59, lJ60, lJ64, lJ80, lJ82, lJ99, lJ100, lJ101, lJ123, lJ126, lJ282, lJ342, lJ1000, lJ1100, lJ2394, lJ2736, lJ9999, lJ10000, lJ1000000, lJ100000000, J_add, J_sub, J_mul, J_neg, J_le, J_lt, J_eq, J_in, J_clamp, Int.toNat_natCast]
      refine ⟨fun z => by omega, fun _ => ?_⟩
      unfold w6_traceIn_wp
      refine isWithin_spec k 2 rfl rfl hk (by decide) (fun _ => ⟨fun z => absurd z (by decide), fun _ => ?_⟩) (fun z => absurd (by omega) z)
      refine isWithin_spec (i : Int) 4 rfl rfl (by omega) (by decide) (fun _ => ⟨fun z => absurd z (by decide), fun _ => ?_⟩) (fun z => absurd (by omega) z)
      have o := (cm k.toNat i (by omega) ci).1
      have o : μ2 2368 k.toNat i = J (m k.toNat i).1 := o
      have gk : -1 ≤ (m k.toNat i).1 ∧ (m k.toNat i).1 < 4 := mr i ci
      simp (disch := omega) only [lJ0, lJ1, lJ2, lJ3, lJ4, lJ5, lJ6, lJ7, lJ8, lJ9, lJ10, lJ30, lJ32, lJ33, lJ39, lJ40, lJ41, lJ45, lJ47, lJ48, lJ51, lJ55, lJ57, lJ58, lJ59, lJ60, lJ64, lJ80, lJ82, lJ99, lJ100, lJ101, lJ123, lJ126, lJ282, lJ342, lJ1000, lJ1100, lJ2394, lJ2736, lJ9999, lJ10000, lJ1000000, lJ100000000, J_add, J_sub, J_mul, J_neg, J_le, J_lt, J_eq, J_in, J_clamp, Int.toNat_natCast, Nat.zero_add, Nat.mul_zero, o]
      refine ⟨by omega, by omega, fun z => ?_, fun z => ?_⟩
      · rw [if_neg (fun y => y z)] at ih; exact ih
      · rw [if_pos z] at ih; exact ih
    · have e9 : i = 4 := by omega
      subst e9
      simp (disch := omega) only [lJ0, lJ1, lJ2, lJ3, lJ4, lJ5, lJ6, lJ7, lJ8, lJ9, lJ10, lJ30, lJ32, lJ33, lJ39, lJ40, lJ41, lJ45, lJ47, lJ48, lJ51, lJ55, lJ57, lJ58, lJ59, lJ60, lJ64, lJ80, lJ82, lJ99, lJ100, lJ101, lJ123, lJ126, lJ282, lJ342, lJ1000, lJ1100, lJ2394, lJ2736, lJ9999, lJ10000, lJ1000000, lJ100000000, J_add, J_sub, J_mul, J_neg, J_le, J_lt, J_eq, J_in, J_clamp, Int.toNat_natCast]
      exact ⟨fun _ => h, fun z => absurd (by omega) z⟩
  rw [show (0 : Int32) = J 0 from rfl]
  simp (disch := omega) only [lJ0, lJ1, lJ2, lJ3, lJ4, lJ5, lJ6, lJ7, lJ8, lJ9, lJ10, lJ30, lJ32, lJ33, lJ39, lJ40, lJ41, lJ45, lJ47, lJ48, lJ51, lJ55, lJ57, lJ58, lJ59, lJ60, lJ64, lJ80, lJ82, lJ99, lJ100, lJ101, lJ123, lJ126, lJ282, lJ342, lJ1000, lJ1100, lJ2394, lJ2736, lJ9999, lJ10000, lJ1000000, lJ100000000, J_add, J_sub, J_mul, J_neg, J_le, J_lt, J_eq, J_in, J_clamp, Int.toNat_natCast]
  refine ⟨fun c4 => fin (fun z => c4 z.1), fun c4 => ⟨fun c5 => fin (fun z => by omega), fun c5 => ?_⟩⟩
  rw [if_pos ⟨c4, by omega⟩] at h
  exact h μ' f k'.1
theorem c_bookmarked {S : GS} {μ : Mem} (hc : CI S μ) (g : GOK S) {k p : Int} (hk : (-2147483648 ≤ k ∧ k ≤ 2147483647)) (hp : (-2147483648 ≤ p ∧ p ≤ 2147483647)) {P : Int32 → Mem → Prop} {X : String → Mem → Prop} (h : CRes J (op_bookmarked S k p) μ P X) : w8_bookmarked_wp μ (J k) (J p) P X := by
  unfold op_bookmarked at h
  unfold w8_bookmarked_wp
  refine checkShelfPlace_spec hk hp (fun c => ?_) (fun c => by rw [if_neg c] at h; exact h μ FrC.rf hc)
  rw [if_pos c] at h
  have o := hc.1.2.2.2.1 k.toNat p.toNat (by omega) (by omega)
  have gr := g.2.2.2.2.1 k.toNat p.toNat (by omega) (by omega)
  generalize S.2.2.2.1 k.toNat p.toNat = v at *
  unfold w6_traceIn_wp
  refine isWithin_spec k 2 rfl rfl hk (by decide) (fun _ => ⟨fun z => absurd z (by decide), fun _ => ?_⟩) (fun z => absurd (by omega) z)
  refine isWithin_spec p 4 rfl rfl hp (by decide) (fun _ => ⟨fun z => absurd z (by decide), fun _ => ?_⟩) (fun z => absurd (by omega) z)
  refine ⟨(J_in (by omega)).mpr (by omega), (J_in (by omega)).mpr (by omega), ?_⟩
  unfold w6_nodeIn_wp
  refine isWithin_spec k 2 rfl rfl hk (by decide) (fun _ => ⟨fun z => absurd z (by decide), fun _ => ?_⟩) (fun z => absurd (by omega) z)
  refine isWithin_spec p 4 rfl rfl hp (by decide) (fun _ => ⟨fun z => absurd z (by decide), fun _ => ?_⟩) (fun z => absurd (by omega) z)
  refine ⟨(J_in (by omega)).mpr (by omega), (J_in (by omega)).mpr (by omega), ?_⟩
  refine workOut_spec2 hc g (fun μ' f k' => ?_)
  rw [J_clamp hk, J_clamp hp, show 2 * 0 + k.toNat = k.toNat by omega, show 2 * 1 + k.toNat = 2 + k.toNat by omega]
  have o1 : μ 2368 k.toNat p.toNat = J v.1 := o.1
  rw [o1]
  simp (disch := omega) only [lJ0, lJ1, lJ2, lJ3, lJ4, lJ5, lJ6, lJ7, lJ8, lJ9, lJ10, lJ30, lJ32, lJ33, lJ39, lJ40, lJ41, lJ45, lJ47, lJ48, lJ51, lJ55, lJ57, lJ58, lJ59, lJ60, lJ64, lJ80, lJ82, lJ99, lJ100, lJ101, lJ123, lJ126, lJ282, lJ342, lJ1000, lJ1100, lJ2394, lJ2736, lJ9999, lJ10000, lJ1000000, lJ100000000, J_add, J_sub, J_mul, J_neg, J_le, J_lt, J_eq, J_in, J_clamp, Int.toNat_natCast]
  refine ⟨fun c2 => by rw [if_pos c2] at h; exact h μ' f k'.1, fun c2 => ?_⟩
  have o2 : μ 2368 (2 + k.toNat) p.toNat = J v.2 := o.2 c2
  rw [o2]
  rw [if_neg c2] at h
  refine c_isNode_spec k' g (by omega) (by omega) (fun c3 => ⟨fun _ => ?_, fun z => absurd z (by decide)⟩) (fun c3 => ⟨fun z => absurd rfl z, fun _ => ?_⟩)
  · rw [if_neg c3] at h
    simp (disch := omega) only [lJ0, lJ1, lJ2, lJ3, lJ4, lJ5, lJ6, lJ7, lJ8, lJ9, lJ10, lJ30, lJ32, lJ33, lJ39, lJ40, lJ41, lJ45, lJ47, lJ48, lJ51, lJ55, lJ57, lJ58, lJ59, lJ60, lJ64, lJ80, lJ82, lJ99, lJ100, lJ101, lJ123, lJ126, lJ282, lJ342, lJ1000, lJ1100, lJ2394, lJ2736, lJ9999, lJ10000, lJ1000000, lJ100000000, J_add, J_sub, J_mul, J_neg, J_le, J_lt, J_eq, J_in, J_clamp, Int.toNat_natCast]
    exact h μ' f k'.1
  · rw [if_pos (by omega)] at h
    exact h μ' f k'.1
theorem isPlace_spec {μ : Mem} {k p : Int} (hk : (-2147483648 ≤ k ∧ k ≤ 2147483647)) (hp : (-2147483648 ≤ p ∧ p ≤ 2147483647)) {P : Int32 → Mem → Prop} (h1 : 0 ≤ k ∧ k < 2 ∧ 0 ≤ p ∧ p < 4 → P 1 μ) (h0 : ¬ (0 ≤ k ∧ k < 2 ∧ 0 ≤ p ∧ p < 4) → P 0 μ) : w9_isPlace_wp μ (J k) (J p) P := by
  unfold w9_isPlace_wp
  refine in_spec k 0 1 rfl rfl rfl hk (by decide) (by decide) (fun c => ⟨fun z => absurd z (by decide), fun _ => ?_⟩) (fun c => ⟨fun _ => h0 (by omega), fun z => absurd rfl z⟩)
  exact in_spec p 0 3 rfl rfl rfl hp (by decide) (by decide) (fun c2 => ⟨fun z => absurd z (by decide), fun _ => h1 (by omega)⟩) (fun c2 => ⟨fun _ => h0 (by omega), fun z => absurd rfl z⟩)
theorem m_bookmark {S : GS} {μ : Mem} (hm : MI S μ) (g : GOK S) {k p t q : Int} (hk : (-2147483648 ≤ k ∧ k ≤ 2147483647)) (hp : (-2147483648 ≤ p ∧ p ≤ 2147483647)) (ht : (-2147483648 ≤ t ∧ t ≤ 2147483647)) (hq : (-2147483648 ≤ q ∧ q ≤ 2147483647)) {P : Int32 → Mem → Prop} (h : MRes J (op_bookmark S k p t q) μ P) : w9_bookmark_wp μ (J k) (J p) (J t) (J q) P := by
  unfold op_bookmark at h
  unfold w9_bookmark_wp
  rintro μ1 rfl
  have k1 : MI S (thr μ 0) := hm.thr
  have t1 : thr μ 0 3201 0 0 = J 0 := thr_w
  have f1 : FrM μ (thr μ 0) := thr_fr
  rw [show up μ 3201 0 0 0 = thr μ 0 from rfl]
  generalize thr μ 0 = μ1 at *
  refine isPlace_spec hk hp (fun c => ⟨fun z => absurd z (by decide), fun _ => ?_⟩) (fun c => ⟨fun _ => by rw [if_neg c] at h; exact m_fails rfl h f1 k1, fun z => absurd rfl z⟩)
  rw [if_pos c] at h
  refine isTrace_spec ht (fun c2 => ⟨fun _ => ?_, fun z => absurd z (by decide)⟩) (fun c2 => ⟨fun z => absurd rfl z, fun _ => by rw [if_neg c2] at h; exact m_fails rfl h f1 k1⟩)
  rw [if_pos c2] at h
  refine m_node_spec k1 g ht hq (fun μ2 f2 e2 k2 => ?_)
  have t2 := e2.trans t1
  have f12 := f1.tr f2
  have nr := nd_rg g.w t q
  have rn := g.1.n
  have rl := hl_len g
  have fin : nd (S.1.1) (S.1.2.1) t q ≠ -1 → ¬ (k = 0 ∧ 1000 ≤ q) → w9_bookmark_b64 P μ2 (J k) (J p) (J t) (J q) := by
    intro c3 c4
    rw [if_neg c3, if_neg c4] at h
    unfold w9_bookmark_b64
    simp (disch := omega) only [lJ0, lJ1, lJ2, lJ3, lJ4, lJ5, lJ6, lJ7, lJ8, lJ9, lJ10, lJ30, lJ32, lJ33, lJ39, lJ40, lJ41, lJ45, lJ47, lJ48, lJ51, lJ55, lJ57, lJ58, lJ59, lJ60, lJ64, lJ80, lJ82, lJ99, lJ100, lJ101, lJ123, lJ126, lJ282, lJ342, lJ1000, lJ1100, lJ2394, lJ2736, lJ9999, lJ10000, lJ1000000, lJ100000000, J_add, J_sub, J_mul, J_neg, J_le, J_lt, J_eq, J_in, J_clamp, Int.toNat_natCast]
    refine ⟨by omega, ?_⟩
    rintro μ3 rfl
    refine ⟨by omega, ?_⟩
    rintro μ4 rfl
    have a1 : (8 * k + 2 * p).toNat = 8 * k.toNat + 2 * p.toNat := by omega
    have a2 : (8 * k + 2 * p + 1).toNat = 8 * k.toNat + 2 * p.toNat + 1 := by omega
    rw [a1, a2]
    have eb : Bt [3520] μ2 (up (up μ2 3520 0 (8 * k.toNat + 2 * p.toNat) (J t)) 3520 0 (8 * k.toNat + 2 * p.toNat + 1) (J q)) := (Bt.up (by decide)).tr (Bt.up (by decide))
    have cm : MMk (up (up μ2 3520 0 (8 * k.toNat + 2 * p.toNat) (J t)) 3520 0 (8 * k.toNat + 2 * p.toNat + 1) (J q)) (mput (S.2.2.2.1) k.toNat p.toNat (t, q)) := by
      intro k2' p2 hk2 hp2
      have o := k2.1.1.2.2.2.1 k2' p2 hk2 hp2
      unfold mput
      show (up (up μ2 3520 0 (8 * k.toNat + 2 * p.toNat) (J t)) 3520 0 (8 * k.toNat + 2 * p.toNat + 1) (J q)) 3520 0 (8 * k2' + 2 * p2) = _ ∧ (_ → (up (up μ2 3520 0 (8 * k.toNat + 2 * p.toNat) (J t)) 3520 0 (8 * k.toNat + 2 * p.toNat + 1) (J q)) 3520 0 (8 * k2' + 2 * p2 + 1) = _)
      rw [up_at, up_at, up_at, up_at]
      by_cases y : k2' = k.toNat ∧ p2 = p.toNat
      · have d1 : ¬ (3520 = 3520 ∧ 0 = 0 ∧ 8 * k2' + 2 * p2 = 8 * k.toNat + 2 * p.toNat + 1) := by omega
        have d2 : 3520 = 3520 ∧ 0 = 0 ∧ 8 * k2' + 2 * p2 = 8 * k.toNat + 2 * p.toNat := by omega
        have d3 : 3520 = 3520 ∧ 0 = 0 ∧ 8 * k2' + 2 * p2 + 1 = 8 * k.toNat + 2 * p.toNat + 1 := by omega
        rw [if_pos y, if_neg d1, if_pos d2, if_pos d3]
        exact ⟨rfl, fun _ => rfl⟩
      · have d1 : ¬ (3520 = 3520 ∧ 0 = 0 ∧ 8 * k2' + 2 * p2 = 8 * k.toNat + 2 * p.toNat + 1) := by omega
        have d2 : ¬ (3520 = 3520 ∧ 0 = 0 ∧ 8 * k2' + 2 * p2 = 8 * k.toNat + 2 * p.toNat) := by omega
        have d3 : ¬ (3520 = 3520 ∧ 0 = 0 ∧ 8 * k2' + 2 * p2 + 1 = 8 * k.toNat + 2 * p.toNat + 1) := by omega
        have d4 : ¬ (3520 = 3520 ∧ 0 = 0 ∧ 8 * k2' + 2 * p2 + 1 = 8 * k.toNat + 2 * p.toNat) := by omega
        rw [if_neg y, if_neg d1, if_neg d2, if_neg d3, if_neg d4]
        exact o
    have mi := k2.1.mkM eb cm
    have mr := fun i hi => mput_rg g (k := k.toNat) (p := p.toNat) (t := t) (q := q) (by omega) (k' := k.toNat) (i := i) (by omega) hi
    have h := fun v => h v _ (f12.tr (eb.frM (by decide))) mi
    have t3 : up (up μ2 3520 0 (8 * k.toNat + 2 * p.toNat) (J t)) 3520 0 (8 * k.toNat + 2 * p.toNat + 1) (J q) 3201 0 0 = J 0 := by rw [eb 3201 (by decide)]; exact t2
    have h := h _ ⟨t3, rfl⟩
    generalize up (up μ2 3520 0 (8 * k.toNat + 2 * p.toNat) (J t)) 3520 0 (8 * k.toNat + 2 * p.toNat + 1) (J q) = μ3 at *
    generalize mput (S.2.2.2.1) k.toNat p.toNat (t, q) = m at *
    clear mi eb
    intro R hR
    refine down (Q := fun i => R μ3 (J k) (J (cnt (fun p => (m k.toNat p).1 ≠ -1) i)) (J i)) 4 (fun i hi ih => ?_)
    apply hR
    unfold w9_bookmark_b101_body
    rcases Nat.lt_or_ge i 4 with ci | ci
    · have ih := ih ci
      rw [cnt_succ] at ih
      have o := (cm k.toNat i (by omega) ci).1
      have o : μ3 3520 0 (8 * k.toNat + 2 * i) = J (m k.toNat i).1 := o
      have gk := mr i ci
      have a3 : (8 * k + 2 * (i : Int)).toNat = 8 * k.toNat + 2 * i := by omega
      simp (disch := omega) only [lJ0, lJ1, lJ2, lJ3, lJ4, lJ5, lJ6, lJ7, lJ8, lJ9, lJ10, lJ30, lJ32, lJ33, lJ39, lJ40, lJ41, lJ45, lJ47, lJ48, lJ51, lJ55, lJ57, lJ58, lJ59, lJ60, lJ64, lJ80, lJ82, lJ99, lJ100, lJ101, lJ123, lJ126, lJ282, lJ342, lJ1000, lJ1100, lJ2394, lJ2736, lJ9999, lJ10000, lJ1000000, lJ100000000, J_add, J_sub, J_mul, J_neg, J_le, J_lt, J_eq, J_in, J_clamp, Int.toNat_natCast, a3, o, Int.add_zero]
      refine ⟨fun z => by omega, fun _ => ⟨by omega, fun z => ?_, fun z => ?_⟩⟩
      · rw [if_neg (fun y => y z)] at ih; exact ih
      · rw [if_pos z] at ih; exact ih
    · have e9 : i = 4 := by omega
      subst e9
      simp (disch := omega) only [lJ0, lJ1, lJ2, lJ3, lJ4, lJ5, lJ6, lJ7, lJ8, lJ9, lJ10, lJ30, lJ32, lJ33, lJ39, lJ40, lJ41, lJ45, lJ47, lJ48, lJ51, lJ55, lJ57, lJ58, lJ59, lJ60, lJ64, lJ80, lJ82, lJ99, lJ100, lJ101, lJ123, lJ126, lJ282, lJ342, lJ1000, lJ1100, lJ2394, lJ2736, lJ9999, lJ10000, lJ1000000, lJ100000000, J_add, J_sub, J_mul, J_neg, J_le, J_lt, J_eq, J_in, J_clamp, Int.toNat_natCast]
      exact ⟨fun _ => h, fun z => absurd (by omega) z⟩
  rw [show (0 : Int32) = J 0 from rfl]
  simp (disch := omega) only [lJ0, lJ1, lJ2, lJ3, lJ4, lJ5, lJ6, lJ7, lJ8, lJ9, lJ10, lJ30, lJ32, lJ33, lJ39, lJ40, lJ41, lJ45, lJ47, lJ48, lJ51, lJ55, lJ57, lJ58, lJ59, lJ60, lJ64, lJ80, lJ82, lJ99, lJ100, lJ101, lJ123, lJ126, lJ282, lJ342, lJ1000, lJ1100, lJ2394, lJ2736, lJ9999, lJ10000, lJ1000000, lJ100000000, J_add, J_sub, J_mul, J_neg, J_le, J_lt, J_eq, J_in, J_clamp, Int.toNat_natCast]
  refine ⟨fun c3 => ⟨fun c4 => fin c3 (fun z => c4 z.1), fun c4 => ⟨fun c5 => fin c3 (fun z => ?_), fun c5 => ?_⟩⟩, fun c3 => ?_⟩
  · rcases nd_cs g.w c3 with ⟨b1, b2, b3, b4⟩ | ⟨b1, b2, b3⟩
    · have := fnd_some b1
      have rr := g.w.r ((fnd S.1.1 S.1.2.1 q)).toNat (by omega)
      omega
    · omega
  · rw [if_neg c3, if_pos ⟨c4, by
      rcases nd_cs g.w c3 with ⟨b1, b2, b3, b4⟩ | ⟨b1, b2, b3⟩
      · omega
      · exact b3⟩] at h
    exact m_fails rfl h f12 k2.1
  · rw [if_pos c3] at h
    exact m_fails rfl h f12 k2.1
theorem m_bookmarked {S : GS} {μ : Mem} (hm : MI S μ) (g : GOK S) {k p : Int} (hk : (-2147483648 ≤ k ∧ k ≤ 2147483647)) (hp : (-2147483648 ≤ p ∧ p ≤ 2147483647)) {P : Int32 → Mem → Prop} (h : MRes J (op_bookmarked S k p) μ P) : w9_bookmarked_wp μ (J k) (J p) P := by
  unfold op_bookmarked at h
  unfold w9_bookmarked_wp
  rintro μ1 rfl
  have k1 : MI S (thr μ 0) := hm.thr
  have t1 : thr μ 0 3201 0 0 = J 0 := thr_w
  have f1 : FrM μ (thr μ 0) := thr_fr
  rw [show up μ 3201 0 0 0 = thr μ 0 from rfl]
  generalize thr μ 0 = μ1 at *
  refine isPlace_spec hk hp (fun c => ⟨fun _ => ?_, fun z => absurd z (by decide)⟩) (fun c => ⟨fun z => absurd rfl z, fun _ => by rw [if_neg c] at h; exact m_fails rfl h f1 k1⟩)
  rw [if_pos c] at h
  have o := k1.1.2.2.2.1 k.toNat p.toNat (by omega) (by omega)
  have gr := g.2.2.2.2.1 k.toNat p.toNat (by omega) (by omega)
  generalize S.2.2.2.1 k.toNat p.toNat = v at *
  have a1 : (8 * k + 2 * p).toNat = 8 * k.toNat + 2 * p.toNat := by omega
  have a2 : (8 * k + 2 * p + 1).toNat = 8 * k.toNat + 2 * p.toNat + 1 := by omega
  have o1 : μ1 3520 0 (8 * k.toNat + 2 * p.toNat) = J v.1 := o.1
  simp (disch := omega) only [lJ0, lJ1, lJ2, lJ3, lJ4, lJ5, lJ6, lJ7, lJ8, lJ9, lJ10, lJ30, lJ32, lJ33, lJ39, lJ40, lJ41, lJ45, lJ47, lJ48, lJ51, lJ55, lJ57, lJ58, lJ59, lJ60, lJ64, lJ80, lJ82, lJ99, lJ100, lJ101, lJ123, lJ126, lJ282, lJ342, lJ1000, lJ1100, lJ2394, lJ2736, lJ9999, lJ10000, lJ1000000, lJ100000000, J_add, J_sub, J_mul, J_neg, J_le, J_lt, J_eq, J_in, J_clamp, Int.toNat_natCast, a1, a2, o1]
  refine ⟨by omega, by omega, fun c2 => by rw [if_pos c2] at h; exact m_fails rfl h f1 k1, fun c2 => ?_⟩
  have o2 : μ1 3520 0 (8 * k.toNat + 2 * p.toNat + 1) = J v.2 := o.2 c2
  rw [if_neg c2] at h
  rw [o2]
  refine m_node_spec k1 g (by omega) (by omega) (fun μ2 f2 e2 k2 => ?_)
  have nr := nd_rg g.w v.1 v.2
  have rn := g.1.n
  have rl := hl_len g
  simp (disch := omega) only [lJ0, lJ1, lJ2, lJ3, lJ4, lJ5, lJ6, lJ7, lJ8, lJ9, lJ10, lJ30, lJ32, lJ33, lJ39, lJ40, lJ41, lJ45, lJ47, lJ48, lJ51, lJ55, lJ57, lJ58, lJ59, lJ60, lJ64, lJ80, lJ82, lJ99, lJ100, lJ101, lJ123, lJ126, lJ282, lJ342, lJ1000, lJ1100, lJ2394, lJ2736, lJ9999, lJ10000, lJ1000000, lJ100000000, J_add, J_sub, J_mul, J_neg, J_le, J_lt, J_eq, J_in, J_clamp, Int.toNat_natCast]
  refine ⟨fun c3 => ?_, fun c3 => ?_⟩
  · rw [if_neg c3] at h
    exact m_ok h (f1.tr f2) k2.1 (e2.trans t1) rfl
  · rw [if_pos c3] at h
    exact m_fails rfl h (f1.tr f2) k2.1
