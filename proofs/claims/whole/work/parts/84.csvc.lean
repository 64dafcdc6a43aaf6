-- the class on services
def nbr (n : Nat) (w : View) (v : Int) (i : Nat) : Int := if v = 0 then 1 else if v = 1 then w i 6 else if v = 2 then w i 5 - w i 4 else ownt n w i
theorem ownt_rg {n : Nat} {w : View} (hw : WF n w) {i : Nat} (hi : i < n) : -1300000 ≤ ownt n w i ∧ ownt n w i ≤ 1300000 := by
  have b := be_rg hw hi
  have r := hw.r i hi
  have c := cov_rg n (fun j => ab n w j = (i : Int)) (fun j => if bgn n w i < bgn n w j then bgn n w j else bgn n w i) (fun j => if enn n w j < enn n w i then enn n w j else enn n w i)
  unfold ownt
  obtain ⟨⟨r1, r2, r3, r4, r5, r6, r7⟩, r8⟩ := r
  omega
theorem nbr_rg {n : Nat} {w : View} (hw : WF n w) (v : Int) {i : Nat} (hi : i < n) : -1300000 ≤ nbr n w v i ∧ nbr n w v i ≤ 1300000 := by
  have r := hw.r i hi
  have o := ownt_rg hw hi
  obtain ⟨⟨r1, r2, r3, r4, r5, r6, r7⟩, r8⟩ := r
  unfold nbr
  repeat' split
  all_goals omega
def lgD (w : View) (s : Int) : Nat → Int := it (fun i l => if w i 3 = s ∧ l < w i 5 - w i 4 then w i 5 - w i 4 else l) 0
theorem lgD_succ (w : View) (s : Int) (m : Nat) : lgD w s (m + 1) = if w m 3 = s ∧ lgD w s m < w m 5 - w m 4 then w m 5 - w m 4 else lgD w s m := rfl
theorem lgD_rg {n : Nat} {w : View} (hw : WF n w) (s : Int) : ∀ m, m ≤ n → 0 ≤ lgD w s m ∧ lgD w s m ≤ 9999 := by
  intro m
  induction m with
  | zero => intro _; exact ⟨Int.le_refl _, by show (0 : Int) ≤ _; omega⟩
  | succ m ih =>
    intro hm
    have a := ih (by omega)
    have r := hw.r m (by omega)
    obtain ⟨⟨r1, r2, r3, r4, r5, r6, r7⟩, r8⟩ := r
    rw [lgD_succ]
    split <;> omega
abbrev nSv (S : GS) (s : Int) : Int := cnt (fun i => S.1.2.1 i 3 = s) (S.1.1)
def op_service (S : GS) (s v : Int) : OpR Int := if 0 ≤ s ∧ s < 8 then (if 0 ≤ v ∧ v ≤ 5 then ok S (if v = 5 then lgD (S.1.2.1) s (S.1.1) else if v = 4 then smf (fun i => S.1.2.1 i 3 = s) (ctm (S.1.1) (S.1.2.1)) (S.1.1) else smf (fun i => S.1.2.1 i 3 = s) (nbr (S.1.1) (S.1.2.1) v) (S.1.1)) else thw S xIA 2) else thw S xIO 1
theorem c_sumOf_spec {S : GS} {μ : Mem} (hc : CI S μ) (g : GOK S) {s v : Int} (hs : (-2147483648 ≤ s ∧ s ≤ 2147483647)) (hv : 0 ≤ v ∧ v ≤ 3) (hk : v = 3 → CK S μ) {y : Int32} (ey : y = J v) {P : Int32 → Mem → Prop} (h : P (J (smf (fun i => S.1.2.1 i 3 = s) (nbr (S.1.1) (S.1.2.1) v) (S.1.1))) μ) : w1_sumOf_wp μ (J s) y P := by
  subst ey
  have rn := g.1.n
  have s1 : SV μ 0 (S.1.1) (S.1.2.1) := hc.1.1.1
  intro R hR
  refine down (Q := fun i => R μ (J s) (J v) (J (smf (fun i => S.1.2.1 i 3 = s) (nbr (S.1.1) (S.1.2.1) v) i)) (J i)) (S.1.1) (fun i hi ih => ?_)
  apply hR
  unfold w1_sumOf_b5_body
  rcases Nat.lt_or_ge i (S.1.1) with c | c
  · have ih := ih c
    have ri := g.w.r i c
    obtain ⟨⟨r1, r2, r3, r4, r5, r6, r7⟩, r8⟩ := ri
    rw [smf_succ] at ih
    simp (disch := omega) only [lJ0, lJ1, lJ2, lJ3, lJ4, lJ5, lJ6, lJ7, lJ8, lJ9, lJ10, lJ30, lJ32, lJ33, lJ39, lJ40, lJ41, lJ45, lJ47, lJ48, lJ51, lJ55, lJ57, lJ58, lJ59, lJ60, lJ64, lJ80, lJ82, lJ99, lJ100, lJ101, lJ123, lJ126, lJ282, lJ342, lJ1000, lJ1100, lJ2394, lJ2736, lJ9999, lJ10000, lJ1000000, lJ100000000, J_add, J_sub, J_mul, J_neg, J_le, J_lt, J_eq, J_in, J_clamp, Int.toNat_natCast, s1.1, s1.i0, s1.i1, s1.i2, s1.i3, s1.i4, s1.i5, s1.i6]
    refine ⟨fun _ => by omega, fun _ => ⟨by omega, fun c2 => ?_, fun c2 => ?_⟩⟩
    · rw [if_neg c2] at ih; exact ih
    rw [if_pos c2] at ih
    have ih2 : R μ (J s) (J v) (J (smf (fun i => S.1.2.1 i 3 = s) (nbr (S.1.1) (S.1.2.1) v) i) + J (nbr (S.1.1) (S.1.2.1) v i)) (J ((i : Int) + 1)) := by rw [J_add]; exact ih
    unfold w1_numberOf_wp
    unfold nbr at ih2
    refine ⟨fun e => ?_, fun e => ?_, fun e => ?_, fun e => ?_, fun e => ?_⟩
    · have e : v = 0 := (J_eq (by omega) (by omega)).mp e
      rw [if_pos e] at ih2
      exact ih2
    · have e : v = 1 := (J_eq (by omega) (by omega)).mp e
      rw [if_neg (by omega), if_pos e] at ih2
      simp (disch := omega) only [lJ0, lJ1, lJ2, lJ3, lJ4, lJ5, lJ6, lJ7, lJ8, lJ9, lJ10, lJ30, lJ32, lJ33, lJ39, lJ40, lJ41, lJ45, lJ47, lJ48, lJ51, lJ55, lJ57, lJ58, lJ59, lJ60, lJ64, lJ80, lJ82, lJ99, lJ100, lJ101, lJ123, lJ126, lJ282, lJ342, lJ1000, lJ1100, lJ2394, lJ2736, lJ9999, lJ10000, lJ1000000, lJ100000000, J_add, J_sub, J_mul, J_neg, J_le, J_lt, J_eq, J_in, J_clamp, Int.toNat_natCast, s1.1, s1.i0, s1.i1, s1.i2, s1.i3, s1.i4, s1.i5, s1.i6]
      refine ⟨by omega, fun c3 => ?_, fun c3 => ?_⟩
      · rw [c3] at ih2; rw [show smf (fun i => S.1.2.1 i 3 = s) (nbr (S.1.1) (S.1.2.1) v) i + 0 = smf (fun i => S.1.2.1 i 3 = s) (nbr (S.1.1) (S.1.2.1) v) i by omega]; rw [J_add, Int.add_zero] at ih2; exact ih2
      · rw [show S.1.2.1 i 6 = 1 by omega, J_add] at ih2; exact ih2
    · have e : v = 2 := (J_eq (by omega) (by omega)).mp e
      rw [if_neg (by omega), if_neg (by omega), if_pos e] at ih2
      refine duration_spec s1 rn (by omega) ?_
      rw [Int.toNat_natCast]
      exact ih2
    · have e : v = 3 := (J_eq (by omega) (by omega)).mp e
      rw [if_neg (by omega), if_neg (by omega), if_neg (by omega)] at ih2
      exact c_ownUnits_spec (hk e) g c ih2
    · exfalso
      rcases e with e | e
      · have : v < 0 := (J_lt (by omega) (by omega)).mp e
        omega
      · have : 3 < v := (J_lt (by omega) (by omega)).mp e
        omega
  · have e9 : i = S.1.1 := by omega
    subst e9
    simp (disch := omega) only [lJ0, lJ1, lJ2, lJ3, lJ4, lJ5, lJ6, lJ7, lJ8, lJ9, lJ10, lJ30, lJ32, lJ33, lJ39, lJ40, lJ41, lJ45, lJ47, lJ48, lJ51, lJ55, lJ57, lJ58, lJ59, lJ60, lJ64, lJ80, lJ82, lJ99, lJ100, lJ101, lJ123, lJ126, lJ282, lJ342, lJ1000, lJ1100, lJ2394, lJ2736, lJ9999, lJ10000, lJ1000000, lJ100000000, J_add, J_sub, J_mul, J_neg, J_le, J_lt, J_eq, J_in, J_clamp, Int.toNat_natCast, s1.1, s1.i0, s1.i1, s1.i2, s1.i3, s1.i4, s1.i5, s1.i6]
    exact ⟨fun _ => h, fun z => absurd (Int.le_refl _) z⟩
theorem c_timeOfService_spec {S : GS} {μ : Mem} (k : CK S μ) (g : GOK S) {L : List Sg} (p2 : PgM S μ L) (pm : ∀ k, k < L.length → Nx S (sg L k).1) (pl : L.length ≤ 81) {s : Int} (hs : (-2147483648 ≤ s ∧ s ≤ 2147483647)) {P : Int32 → Mem → Prop} (h : P (J (sgs (fun y => y < S.1.1 ∧ S.1.2.1 y.toNat 3 = s) L L.length)) μ) : w5_timeOfService_wp μ (J s) P := by
  have rn := g.1.n
  have s1 : SV μ 0 (S.1.1) (S.1.2.1) := k.1.1.1.1
  intro R hR
  refine down (Q := fun r => R μ (J s) (J (sgs (fun y => y < S.1.1 ∧ S.1.2.1 y.toNat 3 = s) L r)) (J r)) L.length (fun r hr ih => ?_)
  apply hR
  unfold w5_timeOfService_b4_body
  have e0 : μ 1729 0 0 = J L.length := p2.1
  rcases Nat.lt_or_ge r L.length with c | c
  · have ih := ih c
    have q := pm r c
    have pr1 : μ 1792 0 r = _ := (p2.2 r c).1
    have pr2 : μ 1856 0 r = _ := (p2.2 r c).2.1
    have pr3 : μ 1920 0 r = _ := (p2.2 r c).2.2
    have rnum := num_rg g q
    rw [sgs_succ] at ih
    simp (disch := omega) only [lJ0, lJ1, lJ2, lJ3, lJ4, lJ5, lJ6, lJ7, lJ8, lJ9, lJ10, lJ30, lJ32, lJ33, lJ39, lJ40, lJ41, lJ45, lJ47, lJ48, lJ51, lJ55, lJ57, lJ58, lJ59, lJ60, lJ64, lJ80, lJ82, lJ99, lJ100, lJ101, lJ123, lJ126, lJ282, lJ342, lJ1000, lJ1100, lJ2394, lJ2736, lJ9999, lJ10000, lJ1000000, lJ100000000, J_add, J_sub, J_mul, J_neg, J_le, J_lt, J_eq, J_in, J_clamp, Int.toNat_natCast, e0, pr1, pr2, pr3]
    refine ⟨fun _ => by omega, fun _ => ⟨by omega, ?_⟩⟩
    refine find_spec' s1 g.w (by omega) ?_
    have rf := fnd_rg (S.1.1) (S.1.2.1) (num (S.1.1) (S.1.2.1) (sg L r).1)
    unfold Nx at q
    rcases q with q | q
    · have ef : fnd (S.1.1) (S.1.2.1) (num (S.1.1) (S.1.2.1) (sg L r).1) = (sg L r).1 := by
        unfold num
        rw [if_pos (by omega), fnd_at g.w (by omega)]
        omega
      have rr := g.w.r (sg L r).1.toNat (by omega)
      rw [ef]
      simp (disch := omega) only [lJ0, lJ1, lJ2, lJ3, lJ4, lJ5, lJ6, lJ7, lJ8, lJ9, lJ10, lJ30, lJ32, lJ33, lJ39, lJ40, lJ41, lJ45, lJ47, lJ48, lJ51, lJ55, lJ57, lJ58, lJ59, lJ60, lJ64, lJ80, lJ82, lJ99, lJ100, lJ101, lJ123, lJ126, lJ282, lJ342, lJ1000, lJ1100, lJ2394, lJ2736, lJ9999, lJ10000, lJ1000000, lJ100000000, J_add, J_sub, J_mul, J_neg, J_le, J_lt, J_eq, J_in, J_clamp, Int.toNat_natCast, s1.1, s1.i0, s1.i1, s1.i2, s1.i3, s1.i4, s1.i5, s1.i6, pr2, pr3]
      refine ⟨fun z => by omega, fun _ => ⟨by omega, fun c2 => ?_, fun c2 => ⟨by omega, by omega, ?_⟩⟩⟩
      · rw [if_neg (fun z => c2 z.2)] at ih; exact ih
      · rw [if_pos ⟨q.2, c2⟩] at ih; exact ih
    · have ef : fnd (S.1.1) (S.1.2.1) (num (S.1.1) (S.1.2.1) (sg L r).1) = -1 := by
        refine fnd_hi g.w ?_
        have := hl_rg g.w (Nat.le_refl _) ((sg L r).1 - 40).toNat (by omega)
        unfold num
        rw [if_neg (by omega)]
        omega
      rw [ef]
      rw [if_neg (fun z => by omega)] at ih
      simp (disch := omega) only [lJ0, lJ1, lJ2, lJ3, lJ4, lJ5, lJ6, lJ7, lJ8, lJ9, lJ10, lJ30, lJ32, lJ33, lJ39, lJ40, lJ41, lJ45, lJ47, lJ48, lJ51, lJ55, lJ57, lJ58, lJ59, lJ60, lJ64, lJ80, lJ82, lJ99, lJ100, lJ101, lJ123, lJ126, lJ282, lJ342, lJ1000, lJ1100, lJ2394, lJ2736, lJ9999, lJ10000, lJ1000000, lJ100000000, J_add, J_sub, J_mul, J_neg, J_le, J_lt, J_eq, J_in, J_clamp, Int.toNat_natCast]
      exact ⟨fun _ => ih, fun z => absurd trivial z⟩
  · have e9 : r = L.length := by omega
    rw [e9]
    simp (disch := omega) only [lJ0, lJ1, lJ2, lJ3, lJ4, lJ5, lJ6, lJ7, lJ8, lJ9, lJ10, lJ30, lJ32, lJ33, lJ39, lJ40, lJ41, lJ45, lJ47, lJ48, lJ51, lJ55, lJ57, lJ58, lJ59, lJ60, lJ64, lJ80, lJ82, lJ99, lJ100, lJ101, lJ123, lJ126, lJ282, lJ342, lJ1000, lJ1100, lJ2394, lJ2736, lJ9999, lJ10000, lJ1000000, lJ100000000, J_add, J_sub, J_mul, J_neg, J_le, J_lt, J_eq, J_in, J_clamp, Int.toNat_natCast, e0]
    exact ⟨fun _ => h, fun c => absurd (Int.le_refl _) c⟩
theorem rno_RQ {S : GS} (g : GOK S) {i : Nat} (hi : i < S.1.1) : RQ (S.1.1) (S.1.2.1) (S.1.2.1 i 1) (rno (S.1.1) (S.1.2.1) i).toNat := by
  have hs := top_sp g.w i hi
  refine (RQ_iff g.w).mpr ⟨top (S.1.1) (S.1.2.1) i, hs.1, top_tr g i hi, ?_, ?_⟩
  · rcases ab_tp g.w hs.1 with ⟨b1, b2, b3⟩ | ⟨b1, b2, b3⟩
    · omega
    · exact b2
  · have rr := rno_rg g.w hi
    have : rno (S.1.1) (S.1.2.1) (top (S.1.1) (S.1.2.1) i) = rno (S.1.1) (S.1.2.1) i := by
      unfold rno
      rw [top_self g.w hs.1 (by rcases ab_tp g.w hs.1 with ⟨b1, b2, b3⟩ | ⟨b1, b2, b3⟩; omega; exact b2)]
    omega
/-- what the roots of the traces before t, and those of t with numbers below a, bring -/
def cac (S : GS) (s t : Int) (a : Nat) : Int := smf (fun i => S.1.2.1 i 3 = s ∧ (S.1.2.1 i 1 < t ∨ (S.1.2.1 i 1 = t ∧ rno (S.1.1) (S.1.2.1) i < a))) (ctm (S.1.1) (S.1.2.1)) (S.1.1)
theorem cac_jump {S : GS} (g : GOK S) {s t : Int} {a b : Nat} (hab : a ≤ b) (h : ∀ q, a ≤ q → q < b → ¬ RQ (S.1.1) (S.1.2.1) t q) : cac S s t a = cac S s t b := by
  refine smf_cg _ (fun i hi => ?_) (fun _ _ _ => rfl)
  have r := rno_RQ g hi
  have rr := rno_rg g.w hi
  constructor
  · rintro ⟨h1, h2 | h2⟩
    · exact ⟨h1, Or.inl h2⟩
    · exact ⟨h1, Or.inr ⟨h2.1, by omega⟩⟩
  · rintro ⟨h1, h2 | h2⟩
    · exact ⟨h1, Or.inl h2⟩
    · refine ⟨h1, Or.inr ⟨h2.1, ?_⟩⟩
      rcases Int.lt_or_le (rno (S.1.1) (S.1.2.1) i) a with y | y
      · exact y
      · rw [h2.1] at r
        exact absurd r (h _ (by omega) (by omega))
theorem cac_end {S : GS} (g : GOK S) {s t : Int} {a : Nat} (h : ∀ q, a ≤ q → ¬ RQ (S.1.1) (S.1.2.1) t q) : cac S s t a = cac S s (t + 1) 0 := by
  refine smf_cg _ (fun i hi => ?_) (fun _ _ _ => rfl)
  have r := rno_RQ g hi
  have rr := rno_rg g.w hi
  constructor
  · rintro ⟨h1, h2 | h2⟩
    · exact ⟨h1, Or.inl (by omega)⟩
    · exact ⟨h1, Or.inl (by omega)⟩
  · rintro ⟨h1, h2 | h2⟩
    · rcases Int.lt_or_le (S.1.2.1 i 1) t with y | y
      · exact ⟨h1, Or.inl y⟩
      · have e : S.1.2.1 i 1 = t := by omega
        refine ⟨h1, Or.inr ⟨e, ?_⟩⟩
        rcases Int.lt_or_le (rno (S.1.1) (S.1.2.1) i) a with y | y
        · exact y
        · rw [e] at r
          exact absurd r (h _ (by omega))
    · omega
theorem cac_step {S : GS} (s t : Int) (b : Nat) : cac S s t (b + 1) = cac S s t b + smf (fun i => S.1.2.1 i 3 = s ∧ (S.1.2.1 i 1 = t ∧ rno (S.1.1) (S.1.2.1) i = b)) (ctm (S.1.1) (S.1.2.1)) (S.1.1) := by
  refine smf_add _ (fun i _ => ?_) (fun i _ z => by omega)
  constructor
  · rintro ⟨h1, h2 | h2⟩
    · exact Or.inl ⟨h1, Or.inl h2⟩
    · by_cases y : rno (S.1.1) (S.1.2.1) i = b
      · exact Or.inr ⟨h1, h2.1, y⟩
      · exact Or.inl ⟨h1, Or.inr ⟨h2.1, by omega⟩⟩
  · rintro (⟨h1, h2 | h2⟩ | ⟨h1, h2, h3⟩)
    · exact ⟨h1, Or.inl h2⟩
    · exact ⟨h1, Or.inr ⟨h2.1, by omega⟩⟩
    · exact ⟨h1, Or.inr ⟨h2, by omega⟩⟩
theorem cac_0 {S : GS} (g : GOK S) (s : Int) : cac S s 0 0 = 0 := smf_none _ (fun i hi z => by have := g.w.r i hi; have := rno_rg g.w hi; omega)
theorem cac_4 {S : GS} (g : GOK S) (s : Int) : cac S s 4 0 = smf (fun i => S.1.2.1 i 3 = s) (ctm (S.1.1) (S.1.2.1)) (S.1.1) :=
  smf_cg _ (fun i hi => ⟨fun z => z.1, fun z => ⟨z, Or.inl (by have := g.w.r i hi; omega)⟩⟩) (fun _ _ _ => rfl)
theorem c_criticalUnits_spec {S : GS} {μ : Mem} (k : CK S μ) (g : GOK S) {s : Int} (hs : (-2147483648 ≤ s ∧ s ≤ 2147483647)) {P : Int32 → Mem → Prop} (h : ∀ μ', FrC μ μ' → CK S μ' → P (J (smf (fun i => S.1.2.1 i 3 = s) (ctm (S.1.1) (S.1.2.1)) (S.1.1))) μ') : w1_criticalUnits_wp μ (J s) P := by
  have rn := g.1.n
  intro R hR
  suffices H : ∀ d t : Nat, t + d = 4 → ∀ μ', FrC μ μ' → CK S μ' → R μ' (J s) (J (cac S s t 0)) (J t) from by
    have := H 4 0 rfl μ FrC.rf k
    rw [show ((0 : Nat) : Int) = 0 from rfl, cac_0 g] at this
    exact this
  intro d
  induction d with
  | zero =>
    intro t ht μ' f k'
    have e9 : t = 4 := by omega
    subst e9
    apply hR
    unfold w1_criticalUnits_b4_body
    rw [show ((4 : Nat) : Int) = 4 from rfl, cac_4 g]
    simp (disch := omega) only [lJ0, lJ1, lJ2, lJ3, lJ4, lJ5, lJ6, lJ7, lJ8, lJ9, lJ10, lJ30, lJ32, lJ33, lJ39, lJ40, lJ41, lJ45, lJ47, lJ48, lJ51, lJ55, lJ57, lJ58, lJ59, lJ60, lJ64, lJ80, lJ82, lJ99, lJ100, lJ101, lJ123, lJ126, lJ282, lJ342, lJ1000, lJ1100, lJ2394, lJ2736, lJ9999, lJ10000, lJ1000000, lJ100000000, J_add, J_sub, J_mul, J_neg, J_le, J_lt, J_eq, J_in, J_clamp, Int.toNat_natCast]
    exact ⟨fun _ => h μ' f k', fun z => absurd (by omega) z⟩
  | succ d ih =>
    intro t ht μ' f k'
    apply hR
    unfold w1_criticalUnits_b4_body
    simp (disch := omega) only [lJ0, lJ1, lJ2, lJ3, lJ4, lJ5, lJ6, lJ7, lJ8, lJ9, lJ10, lJ30, lJ32, lJ33, lJ39, lJ40, lJ41, lJ45, lJ47, lJ48, lJ51, lJ55, lJ57, lJ58, lJ59, lJ60, lJ64, lJ80, lJ82, lJ99, lJ100, lJ101, lJ123, lJ126, lJ282, lJ342, lJ1000, lJ1100, lJ2394, lJ2736, lJ9999, lJ10000, lJ1000000, lJ100000000, J_add, J_sub, J_mul, J_neg, J_le, J_lt, J_eq, J_in, J_clamp, Int.toNat_natCast]
    refine ⟨fun z => by omega, fun _ => ?_⟩
    have tot := RQ_cnt g.w (t : Int)
    refine c_nextRoot_spec k' g (t := t) (m := -1) (by omega) (by omega) (fun r0 n0 r0r => ?_)
    intro R2 hR2
    have H : ∀ (d2 a : Nat) (r : Int), a + d2 = 1100 → NxR (S.1.1) (S.1.2.1) t a r → -1 ≤ r ∧ r < 1100 → ∀ μ', FrC μ μ' → CK S μ' → R2 μ' (J s) (J (cac S s t a)) (J t) (J r) (J (cnt (RQ (S.1.1) (S.1.2.1) t) a)) := by
      intro d2
      induction d2 using Nat.strongRecOn with
      | ind d2 ih2 =>
        intro a r had nx rr μ' f k'
        apply hR2
        unfold w1_criticalUnits_b23_body
        have c2 := cnt_le (p := RQ (S.1.1) (S.1.2.1) t) (n := a)
        have mo := cnt_mono (p := RQ (S.1.1) (S.1.2.1) t) (a := a) d2
        rw [had] at mo
        rcases nx with ⟨e1, e2⟩ | ⟨b, e1, e2, e3, e4⟩
        · have fin : R μ' (J s) (J (cac S s t a)) (J ((t : Int) + 1)) := by
            rw [cac_end g e2]
            exact ih (t + 1) (by omega) μ' f k'
          subst e1
          simp (disch := omega) only [lJ0, lJ1, lJ2, lJ3, lJ4, lJ5, lJ6, lJ7, lJ8, lJ9, lJ10, lJ30, lJ32, lJ33, lJ39, lJ40, lJ41, lJ45, lJ47, lJ48, lJ51, lJ55, lJ57, lJ58, lJ59, lJ60, lJ64, lJ80, lJ82, lJ99, lJ100, lJ101, lJ123, lJ126, lJ282, lJ342, lJ1000, lJ1100, lJ2394, lJ2736, lJ9999, lJ10000, lJ1000000, lJ100000000, J_add, J_sub, J_mul, J_neg, J_le, J_lt, J_eq, J_in, J_clamp, Int.toNat_natCast]
          exact ⟨fun _ => fin, fun _ => ⟨fun _ => fin, fun c => absurd trivial c⟩⟩
        · have hb := RQ_lt g.w e3
          have j2 := cnt_jump (p := RQ (S.1.1) (S.1.2.1) t) (a := a) b e2 (fun q h1 h2 z => e4 q h1 h2 z)
          have mo2 := cnt_mono (p := RQ (S.1.1) (S.1.2.1) t) (a := b + 1) (1100 - (b + 1))
          rw [show b + 1 + (1100 - (b + 1)) = 1100 by omega, cnt_succ, if_pos e3, j2] at mo2
          rw [cac_jump g e2 e4]
          subst e1
          simp (disch := omega) only [lJ0, lJ1, lJ2, lJ3, lJ4, lJ5, lJ6, lJ7, lJ8, lJ9, lJ10, lJ30, lJ32, lJ33, lJ39, lJ40, lJ41, lJ45, lJ47, lJ48, lJ51, lJ55, lJ57, lJ58, lJ59, lJ60, lJ64, lJ80, lJ82, lJ99, lJ100, lJ101, lJ123, lJ126, lJ282, lJ342, lJ1000, lJ1100, lJ2394, lJ2736, lJ9999, lJ10000, lJ1000000, lJ100000000, J_add, J_sub, J_mul, J_neg, J_le, J_lt, J_eq, J_in, J_clamp, Int.toNat_natCast]
          refine ⟨fun z => by omega, fun _ => ⟨fun z => by omega, fun _ => ?_⟩⟩
          refine c_follow_spec k' g (t := t) (q := b) (by omega) (by omega) e3.1 (fun μ2 f2 k2 p2 => ?_)
          have nx2 := nd_Nx g e3.1
          have kid : 40 ≤ nd (S.1.1) (S.1.2.1) t b → ∃ i, i < S.1.1 ∧ ab (S.1.1) (S.1.2.1) i = nd (S.1.1) (S.1.2.1) t b := fun h => by
            obtain ⟨i, hi, h1, h2, h3⟩ := (RQ_iff g.w).mp e3
            have e := rno_nd g hi
            rw [h1, h3] at e
            rw [e] at h ⊢
            exact rtx_kid g hi h
          refine c_timeOfService_spec k2 g p2 (fun k hk => (pa_mem g nx2 kid hk).1) (pa_len g (by clear kid; unfold Nx at nx2; omega)) hs ?_
          rw [svc_path g e3 s]
          refine c_nextRoot_spec k2 g (t := t) (m := b) (by omega) (by omega) (fun r n1 rr1 => ?_)
          have := ih2 (1100 - (b + 1)) (by omega) (b + 1) r (by omega) (by rw [show ((b : Int) + 1).toNat = b + 1 by omega] at n1; exact n1) rr1 μ2 (f.tr f2) k2
          rw [cac_step, show cnt (RQ (S.1.1) (S.1.2.1) t) (b + 1) = cnt (RQ (S.1.1) (S.1.2.1) t) a + 1 by rw [cnt_succ, if_pos e3, j2]] at this
          rw [J_add]
          exact this
    exact H 1100 0 r0 (by omega) n0 r0r μ' f k'
theorem c_service {S : GS} {μ : Mem} (hc : CI S μ) (g : GOK S) {s v : Int} (hs : (-2147483648 ≤ s ∧ s ≤ 2147483647)) (hv : (-2147483648 ≤ v ∧ v ≤ 2147483647)) {P : Int32 → Mem → Prop} {X : String → Mem → Prop} (h : CRes J (op_service S s v) μ P X) : w8_service_wp μ (J s) (J v) P X := by
  unfold op_service at h
  unfold w8_service_wp
  have rn := g.1.n
  refine checkService_spec hs (fun c => ?_) (fun c => by rw [if_neg c] at h; exact h μ FrC.rf hc)
  rw [if_pos c] at h
  rw [show (0 : Int32) = J 0 from rfl]
  simp (disch := omega) only [lJ0, lJ1, lJ2, lJ3, lJ4, lJ5, lJ6, lJ7, lJ8, lJ9, lJ10, lJ30, lJ32, lJ33, lJ39, lJ40, lJ41, lJ45, lJ47, lJ48, lJ51, lJ55, lJ57, lJ58, lJ59, lJ60, lJ64, lJ80, lJ82, lJ99, lJ100, lJ101, lJ123, lJ126, lJ282, lJ342, lJ1000, lJ1100, lJ2394, lJ2736, lJ9999, lJ10000, lJ1000000, lJ100000000, J_add, J_sub, J_mul, J_neg, J_le, J_lt, J_eq, J_in, J_clamp, Int.toNat_natCast]
  refine ⟨fun c2 => by rw [if_neg (by omega)] at h; exact h μ FrC.rf hc, fun c2 => ⟨fun c3 => ?_, fun c3 => by rw [if_neg (by omega)] at h; exact h μ FrC.rf hc⟩⟩
  rw [if_pos (by omega)] at h
  refine workOut_spec2 hc g (fun μ' f k => ?_)
  refine ⟨fun c4 => ?_, fun c4 => ?_, fun c4 => ?_⟩
  · rw [if_neg (by omega), if_pos c4] at h
    exact c_criticalUnits_spec k g hs (fun μ2 f2 k2 => h μ2 (f.tr f2) k2.1)
  · rw [if_pos c4] at h
    have h := h μ' f k.1
    have s1 : SV μ' 0 (S.1.1) (S.1.2.1) := k.1.1.1.1
    intro R hR
    refine down (Q := fun i => R μ' (J s) (J (lgD (S.1.2.1) s i)) (J i)) (S.1.1) (fun i hi ih => ?_)
    apply hR
    unfold w1_longestDuration_b4_body
    have rl := lgD_rg g.w s i hi
    rcases Nat.lt_or_ge i (S.1.1) with c | c
    · have ih := ih c
      have ri := g.w.r i c
      obtain ⟨⟨r1, r2, r3, r4, r5, r6, r7⟩, r8⟩ := ri
      rw [lgD_succ] at ih
      simp (disch := omega) only [lJ0, lJ1, lJ2, lJ3, lJ4, lJ5, lJ6, lJ7, lJ8, lJ9, lJ10, lJ30, lJ32, lJ33, lJ39, lJ40, lJ41, lJ45, lJ47, lJ48, lJ51, lJ55, lJ57, lJ58, lJ59, lJ60, lJ64, lJ80, lJ82, lJ99, lJ100, lJ101, lJ123, lJ126, lJ282, lJ342, lJ1000, lJ1100, lJ2394, lJ2736, lJ9999, lJ10000, lJ1000000, lJ100000000, J_add, J_sub, J_mul, J_neg, J_le, J_lt, J_eq, J_in, J_clamp, Int.toNat_natCast, s1.1, s1.i0, s1.i1, s1.i2, s1.i3, s1.i4, s1.i5, s1.i6]
      refine ⟨fun _ => by omega, fun _ => ⟨by omega, fun c2 => ?_, fun c2 => ?_⟩⟩
      · rw [if_neg (fun z => c2 z.1)] at ih; exact ih
      refine duration_spec s1 rn (by omega) ?_
      rw [Int.toNat_natCast]
      simp (disch := omega) only [lJ0, lJ1, lJ2, lJ3, lJ4, lJ5, lJ6, lJ7, lJ8, lJ9, lJ10, lJ30, lJ32, lJ33, lJ39, lJ40, lJ41, lJ45, lJ47, lJ48, lJ51, lJ55, lJ57, lJ58, lJ59, lJ60, lJ64, lJ80, lJ82, lJ99, lJ100, lJ101, lJ123, lJ126, lJ282, lJ342, lJ1000, lJ1100, lJ2394, lJ2736, lJ9999, lJ10000, lJ1000000, lJ100000000, J_add, J_sub, J_mul, J_neg, J_le, J_lt, J_eq, J_in, J_clamp, Int.toNat_natCast]
      by_cases d : lgD (S.1.2.1) s i < S.1.2.1 i 5 - S.1.2.1 i 4
      · rw [if_pos ⟨c2, d⟩] at ih; rw [if_pos d]; exact ih
      · rw [if_neg (fun z => d z.2)] at ih; rw [if_neg d]; exact ih
    · have e9 : i = S.1.1 := by omega
      subst e9
      simp (disch := omega) only [lJ0, lJ1, lJ2, lJ3, lJ4, lJ5, lJ6, lJ7, lJ8, lJ9, lJ10, lJ30, lJ32, lJ33, lJ39, lJ40, lJ41, lJ45, lJ47, lJ48, lJ51, lJ55, lJ57, lJ58, lJ59, lJ60, lJ64, lJ80, lJ82, lJ99, lJ100, lJ101, lJ123, lJ126, lJ282, lJ342, lJ1000, lJ1100, lJ2394, lJ2736, lJ9999, lJ10000, lJ1000000, lJ100000000, J_add, J_sub, J_mul, J_neg, J_le, J_lt, J_eq, J_in, J_clamp, Int.toNat_natCast, s1.1, s1.i0, s1.i1, s1.i2, s1.i3, s1.i4, s1.i5, s1.i6]
      exact ⟨fun _ => h, fun z => absurd (Int.le_refl _) z⟩
  · rw [if_neg c4.2, if_neg c4.1] at h
    exact c_sumOf_spec k.1 g hs (by omega) (fun _ => k) rfl (h μ' f k.1)
