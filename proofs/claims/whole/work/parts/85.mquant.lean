-- the reference on services; quantiles
theorem m_duration_spec {S : GS} {μ : Mem} (hm : MI S μ) (g : GOK S) {i : Nat} (hi : i < S.1.1) {P : Int32 → Mem → Prop} (h : P (J (S.1.2.1 i 5 - S.1.2.1 i 4)) μ) : w9_duration_wp μ (J i) P := by
  have rn := g.1.n
  unfold w9_duration_wp
  refine of_spec hm.1.1 rn i 5 rfl rfl hi (by omega) (of_spec hm.1.1 rn i 4 rfl rfl hi (by omega) ?_)
  rw [J_sub]
  exact h
def cqv (n : Nat) (w : View) (v : Int) (i : Nat) : Int := if v = 5 then 0 else if v = 4 then ctm n w i else nbr n w v i
theorem m_counted_spec {S : GS} {μ : Mem} (k : MQ9 S μ) (g : GOK S) {i : Nat} (hi : i < S.1.1) {v : Int} (hv : 0 ≤ v ∧ v ≤ 5) {P : Int32 → Mem → Prop} (h : ∀ μ', Bt [4416, 4480, 3229, 4224, 4288, 4352, 3226] μ μ' → P (J (cqv (S.1.1) (S.1.2.1) v i)) μ') : w9_counted_wp μ (J i) (J v) P := by
  have rn := g.1.n
  unfold cqv nbr at h
  unfold w9_counted_wp
  refine ⟨fun e => ?_, fun e => ?_, fun e => ?_, fun e => ?_, fun e => ?_, fun e => ?_⟩
  · have e : v = 0 := (J_eq (by omega) (by omega)).mp e
    have h := h μ Bt.rf
    rw [if_neg (by omega), if_neg (by omega), if_pos e] at h
    exact h
  · have e : v = 1 := (J_eq (by omega) (by omega)).mp e
    have h := h μ Bt.rf
    rw [if_neg (by omega), if_neg (by omega), if_neg (by omega), if_pos e] at h
    exact of_spec k.1.1.1 rn i 6 rfl rfl hi (by omega) h
  · have e : v = 2 := (J_eq (by omega) (by omega)).mp e
    have h := h μ Bt.rf
    rw [if_neg (by omega), if_neg (by omega), if_neg (by omega), if_neg (by omega), if_pos e] at h
    exact m_duration_spec k.1 g hi h
  · have e : v = 3 := (J_eq (by omega) (by omega)).mp e
    refine m_own_spec k g hi rfl (fun μ' b => ?_)
    have h := h μ' (b.mo (by decide))
    rw [if_neg (by omega), if_neg (by omega), if_neg (by omega), if_neg (by omega), if_neg (by omega)] at h
    exact h
  · have e : v = 4 := (J_eq (by omega) (by omega)).mp e
    refine m_critical_spec k g hi rfl (fun μ' b => ?_)
    have h := h μ' (b.mo (by decide))
    rw [if_neg (by omega), if_pos e] at h
    exact h
  · have e : v = 5 := by
      rcases e with e | e
      · have : v < 0 := (J_lt (by omega) (by omega)).mp e
        omega
      · have : 4 < v := (J_lt (by omega) (by omega)).mp e
        omega
    have h := h μ Bt.rf
    rw [if_pos e] at h
    exact h
theorem m_service {S : GS} {μ : Mem} (hm : MI S μ) (g : GOK S) {s v : Int} (hs : (-2147483648 ≤ s ∧ s ≤ 2147483647)) (hv : (-2147483648 ≤ v ∧ v ≤ 2147483647)) {P : Int32 → Mem → Prop} (h : MRes J (op_service S s v) μ P) : w9_service_wp μ (J s) (J v) P := by
  unfold op_service at h
  unfold w9_service_wp
  have rn := g.1.n
  refine m_kn0 hm g (fun μ1 f1 t1 k => ?_)
  refine isService_spec hs (fun c => ⟨fun _ => ?_, fun c => absurd c (by decide)⟩) (fun c => ⟨fun c => absurd rfl c, fun _ => by rw [if_neg c] at h; exact m_fails rfl h f1 k.1⟩)
  rw [if_pos c] at h
  refine in_spec v 0 5 rfl rfl rfl hv (by omega) (by omega) (fun c => ⟨fun _ => ?_, fun c => absurd c (by decide)⟩) (fun c => ⟨fun c => absurd rfl c, fun _ => by rw [if_neg c] at h; exact m_fails rfl h f1 k.1⟩)
  rw [if_pos c] at h
  intro R hR
  suffices H : ∀ μ', Bt [4416, 4480, 3229, 4224, 4288, 4352, 3226] μ1 μ' → R μ' (J s) (J v) (J (smf (fun i => S.1.2.1 i 3 = s) (cqv (S.1.1) (S.1.2.1) v) 0)) (J (lgD (S.1.2.1) s 0)) (J (0 : Nat)) from H μ1 Bt.rf
  refine down (Q := fun i => ∀ μ', Bt [4416, 4480, 3229, 4224, 4288, 4352, 3226] μ1 μ' → R μ' (J s) (J v) (J (smf (fun i => S.1.2.1 i 3 = s) (cqv (S.1.1) (S.1.2.1) v) i)) (J (lgD (S.1.2.1) s i)) (J i)) (S.1.1) (fun i hi ih μ' b => ?_)
  have k' := k.bt b (by decide)
  have e0 := k'.n0
  apply hR
  unfold w9_service_b45_body
  have rl := lgD_rg g.w s i hi
  rcases Nat.lt_or_ge i (S.1.1) with c3 | c3
  · have ih := ih c3
    have ri := g.w.r i c3
    obtain ⟨⟨r1, r2, r3, r4, r5, r6, r7⟩, r8⟩ := ri
    rw [lgD_succ, smf_succ] at ih
    simp (disch := omega) only [lJ0, lJ1, lJ2, lJ3, lJ4, lJ5, lJ6, lJ7, lJ8, lJ9, lJ10, lJ30, lJ32, lJ33, lJ39, lJ40, lJ41, lJ45, lJ47, lJ48, lJ51, lJ55, lJ57, lJ58, lJ59, lJ60, lJ64, lJ80, lJ82, lJ99, lJ100, lJ101, lJ123, lJ126, lJ282, lJ342, lJ1000, lJ1100, lJ2394, lJ2736, lJ9999, lJ10000, lJ1000000, lJ100000000, J_add, J_sub, J_mul, J_neg, J_le, J_lt, J_eq, J_in, J_clamp, Int.toNat_natCast, Int.toNat_zero, e0]
    refine ⟨by omega, fun _ => by omega, fun _ => ?_⟩
    refine of_spec k'.1.1.1 rn i 3 rfl rfl c3 (by omega) ?_
    simp (disch := omega) only [lJ0, lJ1, lJ2, lJ3, lJ4, lJ5, lJ6, lJ7, lJ8, lJ9, lJ10, lJ30, lJ32, lJ33, lJ39, lJ40, lJ41, lJ45, lJ47, lJ48, lJ51, lJ55, lJ57, lJ58, lJ59, lJ60, lJ64, lJ80, lJ82, lJ99, lJ100, lJ101, lJ123, lJ126, lJ282, lJ342, lJ1000, lJ1100, lJ2394, lJ2736, lJ9999, lJ10000, lJ1000000, lJ100000000, J_add, J_sub, J_mul, J_neg, J_le, J_lt, J_eq, J_in, J_clamp, Int.toNat_natCast]
    refine ⟨fun c2 => ?_, fun c2 => ?_⟩
    · have := ih μ' b
      rw [if_neg c2, if_neg (fun z => c2 z.1)] at this; exact this
    refine m_counted_spec k' g c3 (by omega) (fun μ2 b2 => ?_)
    refine m_duration_spec (k'.bt b2 (by decide)).1 g c3 ?_
    have := ih μ2 (b.tr b2)
    rw [if_pos c2] at this
    rw [J_add, J_mx (by omega) (by omega)]
    by_cases d : lgD (S.1.2.1) s i < S.1.2.1 i 5 - S.1.2.1 i 4
    · rw [if_pos ⟨c2, d⟩] at this; rw [if_pos d]; exact this
    · rw [if_neg (fun z => d z.2)] at this; rw [if_neg d]; exact this
  · have e9 : i = S.1.1 := by omega
    subst e9
    have hf : FrM μ μ' := f1.tr (b.frM (by decide))
    have ht : μ' 3201 0 0 = J 0 := by rw [b 3201 (by decide)]; exact t1
    simp (disch := omega) only [lJ0, lJ1, lJ2, lJ3, lJ4, lJ5, lJ6, lJ7, lJ8, lJ9, lJ10, lJ30, lJ32, lJ33, lJ39, lJ40, lJ41, lJ45, lJ47, lJ48, lJ51, lJ55, lJ57, lJ58, lJ59, lJ60, lJ64, lJ80, lJ82, lJ99, lJ100, lJ101, lJ123, lJ126, lJ282, lJ342, lJ1000, lJ1100, lJ2394, lJ2736, lJ9999, lJ10000, lJ1000000, lJ100000000, J_add, J_sub, J_mul, J_neg, J_le, J_lt, J_eq, J_in, J_clamp, Int.toNat_natCast, Int.toNat_zero, e0]
    refine ⟨by omega, fun _ => ⟨fun c4 => ?_, fun c4 => ?_⟩, fun z => absurd (Int.le_refl _) z⟩
    · rw [if_neg c4] at h
      refine m_ok h hf k'.1 ht ?_
      congr 1
      by_cases c5 : v = 4
      · rw [if_pos c5]
        exact smf_cg _ (fun _ _ => Iff.rfl) (fun i _ _ => by unfold cqv; rw [if_neg c4, if_pos c5])
      · rw [if_neg c5]
        exact smf_cg _ (fun _ _ => Iff.rfl) (fun i _ _ => by unfold cqv; rw [if_neg c4, if_neg c5])
    · rw [if_pos c4] at h
      exact m_ok h hf k'.1 ht rfl
-- quantiles
def cU (n : Nat) (w : View) (s v : Int) : Int := cnt (fun i => w i 3 = s ∧ w i 5 - w i 4 ≤ v) n
def fqt (f : Nat → Int) (r : Int) : Nat → Nat → Int
  | 0, v => v
  | d + 1, v => if r ≤ f v then v else fqt f r d (v + 1)
theorem fqt_cs {f : Nat → Int} {r : Int} : ∀ d v, (∃ u, v ≤ u ∧ u < v + d ∧ r ≤ f u) → ∃ q : Nat, fqt f r d v = q ∧ v ≤ q ∧ q < v + d ∧ r ≤ f q ∧ ∀ u, v ≤ u → u < q → f u < r := by
  intro d
  induction d with
  | zero => rintro v ⟨u, h1, h2, -⟩; omega
  | succ d ih =>
    rintro v ⟨u, h1, h2, h3⟩
    unfold fqt
    by_cases c : r ≤ f v
    · rw [if_pos c]
      exact ⟨v, rfl, by omega, by omega, c, fun u h1 h2 => by omega⟩
    · rw [if_neg c]
      obtain ⟨q, g1, g2, g3, g4, g5⟩ := ih (v + 1) ⟨u, by
        rcases Nat.lt_or_ge v u with y | y
        · omega
        · have : u = v := by omega
          subst this
          exact absurd h3 c, by omega, h3⟩
      refine ⟨q, g1, by omega, by omega, g4, fun u h1 h2 => ?_⟩
      by_cases y : u = v
      · subst y; omega
      · exact g5 u (by omega) h2
def qv (n : Nat) (w : View) (s r : Int) : Int := fqt (fun v => cU n w s v) r 10000 0
theorem cU_mono (n : Nat) (w : View) (s : Int) {u v : Int} (h : u ≤ v) : cU n w s u ≤ cU n w s v := by
  unfold cU
  rw [cnt_add (p := fun i => w i 3 = s ∧ w i 5 - w i 4 ≤ u) (q := fun i => w i 3 = s ∧ u < w i 5 - w i 4 ∧ w i 5 - w i 4 ≤ v) (r := fun i => w i 3 = s ∧ w i 5 - w i 4 ≤ v) (fun i _ => by omega) (fun i _ => by omega)]
  have := cnt_le (p := fun i => w i 3 = s ∧ u < w i 5 - w i 4 ∧ w i 5 - w i 4 ≤ v) (n := n)
  omega
theorem qv_cs {n : Nat} {w : View} (hw : WF n w) {s r : Int} (hr : 1 ≤ r ∧ r ≤ cnt (fun i => w i 3 = s) n) : 0 ≤ qv n w s r ∧ qv n w s r ≤ 9999 ∧ r ≤ cU n w s (qv n w s r) ∧ cU n w s (qv n w s r - 1) < r := by
  have top : cU n w s ((9999 : Nat) : Int) = cnt (fun i => w i 3 = s) n := cnt_cg (fun i hi => ⟨fun z => z.1, fun z => ⟨z, by have := hw.r i hi; obtain ⟨⟨r1, r2, r3, r4, r5, r6, r7⟩, r8⟩ := this; omega⟩⟩)
  obtain ⟨q, h1, h2, h3, h4, h5⟩ := fqt_cs (f := fun v => cU n w s v) (r := r) 10000 0 ⟨9999, by omega, by omega, by show r ≤ cU n w s ((9999 : Nat) : Int); omega⟩
  have e : qv n w s r = q := h1
  rw [e]
  refine ⟨by omega, by omega, h4, ?_⟩
  by_cases y : q = 0
  · subst y
    have : cU n w s (((0 : Nat) : Int) - 1) = 0 := cnt_none (fun i hi z => by have := hw.r i hi; omega)
    omega
  · have := h5 (q - 1) (by omega) (by omega)
    rw [show ((q : Int) - 1) = ((q - 1 : Nat) : Int) by omega]
    exact this
theorem qv_at {n : Nat} {w : View} (hw : WF n w) {s r : Int} (hr : 1 ≤ r ∧ r ≤ cnt (fun i => w i 3 = s) n) : ∃ i, i < n ∧ w i 3 = s ∧ w i 5 - w i 4 = qv n w s r := by
  obtain ⟨h1, h2, h3, h4⟩ := qv_cs hw hr
  generalize qv n w s r = q at *
  have e := cnt_add (p := fun i => w i 3 = s ∧ w i 5 - w i 4 ≤ q - 1) (q := fun i => w i 3 = s ∧ w i 5 - w i 4 = q) (r := fun i => w i 3 = s ∧ w i 5 - w i 4 ≤ q) (n := n) (fun i _ => by omega) (fun i _ => by omega)
  unfold cU at h3 h4
  obtain ⟨i, hi, h⟩ := cnt_ex (p := fun i => w i 3 = s ∧ w i 5 - w i 4 = q) (n := n) (by omega)
  exact ⟨i, hi, h⟩
def rnk (p a : Int) : Int := if 1 < (p * a + 99).tdiv 100 then (p * a + 99).tdiv 100 else 1
theorem rnk_rg {p a : Int} (hp : 0 ≤ p ∧ p ≤ 100) (ha : 1 ≤ a ∧ a ≤ 40) : 1 ≤ rnk p a ∧ rnk p a ≤ a ∧ 0 ≤ p * a ∧ p * a ≤ 4000 ∧ (if J 1 < (J p * J a + J 99) / J 100 then (J p * J a + J 99) / J 100 else J 1) = J (rnk p a) := by
  have m0 : 0 ≤ p * a := Int.mul_nonneg hp.1 (by omega)
  have m1 : p * a ≤ 100 * a := Int.mul_le_mul_of_nonneg_right hp.2 (by omega)
  have e := J_div (a := p * a + 99) (b := 100) (by omega) (by omega)
  rw [J_mul, J_add, e]
  unfold rnk
  rw [Int.tdiv_eq_ediv_of_nonneg (by omega)]
  generalize p * a = m at *
  have d0 : 0 ≤ (m + 99) / 100 ∧ (m + 99) / 100 ≤ a := by omega
  refine ⟨by split <;> omega, by split <;> omega, m0, by omega, ?_⟩
  rw [J_mx (by omega) (by omega)]
def op_quantile (S : GS) (s p : Int) : OpR Int := if 0 ≤ s ∧ s < 8 then (if 0 ≤ p ∧ p ≤ 100 then (if nSv S s = 0 then thw S xNE 3 else ok S (qv (S.1.1) (S.1.2.1) s (rnk p (nSv S s)))) else thw S xIA 2) else thw S xIO 1
theorem smf_one (p : Nat → Prop) [DecidablePred p] : ∀ n, smf p (fun _ => 1) n = cnt p n := by
  intro n
  induction n with
  | zero => rfl
  | succ n ih => rw [smf_succ, cnt_succ, ih]
theorem c_countUpTo_spec {S : GS} {μ : Mem} (hc : CI S μ) (g : GOK S) {s v : Int} (hs : (-2147483648 ≤ s ∧ s ≤ 2147483647)) (hv : (-2147483648 ≤ v ∧ v ≤ 2147483647)) {P : Int32 → Mem → Prop} (h : P (J (cU (S.1.1) (S.1.2.1) s v)) μ) : w1_countUpTo_wp μ (J s) (J v) P := by
  have rn := g.1.n
  have s1 : SV μ 0 (S.1.1) (S.1.2.1) := hc.1.1.1
  intro R hR
  refine down (Q := fun i => R μ (J s) (J v) (J (cnt (fun i => S.1.2.1 i 3 = s ∧ S.1.2.1 i 5 - S.1.2.1 i 4 ≤ v) i)) (J i)) (S.1.1) (fun i hi ih => ?_)
  apply hR
  unfold w1_countUpTo_b5_body
  rcases Nat.lt_or_ge i (S.1.1) with c | c
  · have ih := ih c
    have ri := g.w.r i c
    obtain ⟨⟨r1, r2, r3, r4, r5, r6, r7⟩, r8⟩ := ri
    rw [cnt_succ] at ih
    simp (disch := omega) only [lJ0, lJ1, lJ2, lJ3, lJ4, lJ5, lJ6, lJ7, lJ8, lJ9, lJ10, lJ30, lJ32, lJ33, lJ39, lJ40, lJ41, lJ45, lJ47, lJ48, lJ51, lJ55, lJ57, lJ58, lJ59, lJ60, lJ64, lJ80, lJ82, lJ99, lJ100, lJ101, lJ123, lJ126, lJ282, lJ342, lJ1000, lJ1100, lJ2394, lJ2736, lJ9999, lJ10000, lJ1000000, lJ100000000, J_add, J_sub, J_mul, J_neg, J_le, J_lt, J_eq, J_in, J_clamp, Int.toNat_natCast, s1.1, s1.i0, s1.i1, s1.i2, s1.i3, s1.i4, s1.i5, s1.i6]
    refine ⟨fun _ => by omega, fun _ => ⟨by omega, fun c2 => ?_, fun c2 => ?_⟩⟩
    · rw [if_neg (fun z => c2 z.1)] at ih; exact ih
    refine duration_spec s1 rn (by omega) ?_
    rw [Int.toNat_natCast]
    simp (disch := omega) only [lJ0, lJ1, lJ2, lJ3, lJ4, lJ5, lJ6, lJ7, lJ8, lJ9, lJ10, lJ30, lJ32, lJ33, lJ39, lJ40, lJ41, lJ45, lJ47, lJ48, lJ51, lJ55, lJ57, lJ58, lJ59, lJ60, lJ64, lJ80, lJ82, lJ99, lJ100, lJ101, lJ123, lJ126, lJ282, lJ342, lJ1000, lJ1100, lJ2394, lJ2736, lJ9999, lJ10000, lJ1000000, lJ100000000, J_add, J_sub, J_mul, J_neg, J_le, J_lt, J_eq, J_in, J_clamp, Int.toNat_natCast]
    refine ⟨fun c3 => ?_, fun c3 => ?_⟩
    · rw [if_neg (by omega)] at ih; exact ih
    · rw [if_pos ⟨c2, by omega⟩] at ih; exact ih
  · have e9 : i = S.1.1 := by omega
    subst e9
    simp (disch := omega) only [lJ0, lJ1, lJ2, lJ3, lJ4, lJ5, lJ6, lJ7, lJ8, lJ9, lJ10, lJ30, lJ32, lJ33, lJ39, lJ40, lJ41, lJ45, lJ47, lJ48, lJ51, lJ55, lJ57, lJ58, lJ59, lJ60, lJ64, lJ80, lJ82, lJ99, lJ100, lJ101, lJ123, lJ126, lJ282, lJ342, lJ1000, lJ1100, lJ2394, lJ2736, lJ9999, lJ10000, lJ1000000, lJ100000000, J_add, J_sub, J_mul, J_neg, J_le, J_lt, J_eq, J_in, J_clamp, Int.toNat_natCast, s1.1, s1.i0, s1.i1, s1.i2, s1.i3, s1.i4, s1.i5, s1.i6]
    exact ⟨fun _ => h, fun z => absurd (Int.le_refl _) z⟩
theorem c_quantile {S : GS} {μ : Mem} (hc : CI S μ) (g : GOK S) {s p : Int} (hs : (-2147483648 ≤ s ∧ s ≤ 2147483647)) (hp : (-2147483648 ≤ p ∧ p ≤ 2147483647)) {P : Int32 → Mem → Prop} {X : String → Mem → Prop} (h : CRes J (op_quantile S s p) μ P X) : w8_quantile_wp μ (J s) (J p) P X := by
  unfold op_quantile at h
  unfold w8_quantile_wp
  have rn := g.1.n
  have s1 : SV μ 0 (S.1.1) (S.1.2.1) := hc.1.1.1
  refine checkService_spec hs (fun c => ?_) (fun c => by rw [if_neg c] at h; exact h μ FrC.rf hc)
  rw [if_pos c] at h
  refine isWithin_spec p 101 rfl rfl hp (by decide) (fun c => ⟨fun _ => ?_, fun c => absurd c (by decide)⟩) (fun c => ⟨fun c => absurd rfl c, fun _ => by rw [if_neg (by omega)] at h; exact h μ FrC.rf hc⟩)
  rw [if_pos (by omega)] at h
  refine c_sumOf_spec hc g hs (v := 0) (by omega) (fun z => by omega) rfl ?_
  rw [smf_cg (p := fun i => S.1.2.1 i 3 = s) (q := fun i => S.1.2.1 i 3 = s) (h := fun _ => 1) (S.1.1) (fun _ _ => Iff.rfl) (fun i _ _ => by unfold nbr; rw [if_pos rfl]), smf_one]
  have r1 := cnt_le (p := fun i => S.1.2.1 i 3 = s) (n := S.1.1)
  rw [show (0 : Int32) = J 0 from rfl, J_eq (by omega) (by omega)]
  refine ⟨fun c2 => ⟨by decide, ?_⟩, fun c2 => by rw [if_pos c2] at h; exact h μ FrC.rf hc⟩
  rw [if_neg c2] at h
  have h := h μ FrC.rf hc
  have rr := rnk_rg (p := p) (a := nSv S s) (by omega) (by show 1 ≤ cnt _ _ ∧ cnt _ _ ≤ 40; omega)
  have rr5 := rr.2.2.2.2
  have ex := qv_at g.w (s := s) (r := rnk p (nSv S s)) ⟨rr.1, rr.2.1⟩
  have qc := qv_cs g.w (s := s) (r := rnk p (nSv S s)) ⟨rr.1, rr.2.1⟩
  have goal : w1_durationAt_wp μ (J s) (J (rnk p (nSv S s))) P := by
    have rk : rnk p (nSv S s) ≤ 40 := by have := rr.2.1; show rnk p (nSv S s) ≤ 40; have : nSv S s ≤ 40 := by show cnt _ _ ≤ 40; omega
                                         omega
    have rk1 := rr.1
    clear rr rr5
    generalize rnk p (nSv S s) = r at *
    dsimp only at h
    generalize qv (S.1.1) (S.1.2.1) s r = q at *
    intro R hR
    suffices H : (∀ j, j < 0 → ¬ (S.1.2.1 j 3 = s ∧ S.1.2.1 j 5 - S.1.2.1 j 4 = q)) → R μ (J s) (J r) (J (0 : Nat)) from H (fun j hj => by omega)
    refine down (Q := fun i => (∀ j, j < i → ¬ (S.1.2.1 j 3 = s ∧ S.1.2.1 j 5 - S.1.2.1 j 4 = q)) → R μ (J s) (J r) (J i)) (S.1.1) (fun i hi ih hn => ?_)
    apply hR
    unfold w1_durationAt_b2_body
    rcases Nat.lt_or_ge i (S.1.1) with ci | ci
    · have ih := ih ci
      have ri := g.w.r i ci
      obtain ⟨⟨r1, r2, r3, r4, r5, r6, r7⟩, r8⟩ := ri
      have nxt : ¬ (S.1.2.1 i 3 = s ∧ S.1.2.1 i 5 - S.1.2.1 i 4 = q) → R μ (J s) (J r) (J ((i : Int) + 1)) := fun z => ih (fun j hj => by
        by_cases y : j = i
        · rw [y]; exact z
        · exact hn j (by omega))
      clear ex ih
      have cu1 := cnt_le (p := fun j => S.1.2.1 j 3 = s ∧ S.1.2.1 j 5 - S.1.2.1 j 4 ≤ S.1.2.1 i 5 - S.1.2.1 i 4 - 1) (n := S.1.1)
      have cu2 := cnt_le (p := fun j => S.1.2.1 j 3 = s ∧ S.1.2.1 j 5 - S.1.2.1 j 4 ≤ S.1.2.1 i 5 - S.1.2.1 i 4) (n := S.1.1)
      have cu1 : 0 ≤ cU (S.1.1) (S.1.2.1) s (S.1.2.1 i 5 - S.1.2.1 i 4 - 1) ∧ cU (S.1.1) (S.1.2.1) s (S.1.2.1 i 5 - S.1.2.1 i 4 - 1) ≤ S.1.1 := cu1
      have cu2 : 0 ≤ cU (S.1.1) (S.1.2.1) s (S.1.2.1 i 5 - S.1.2.1 i 4) ∧ cU (S.1.1) (S.1.2.1) s (S.1.2.1 i 5 - S.1.2.1 i 4) ≤ S.1.1 := cu2
      simp (disch := omega) only [lJ0, lJ1, lJ2, lJ3, lJ4, lJ5, lJ6, lJ7, lJ8, lJ9, lJ10, lJ30, lJ32, lJ33, lJ39, lJ40, lJ41, lJ45, lJ47, lJ48, lJ51, lJ55, lJ57, lJ58, lJ59, lJ60, lJ64, lJ80, lJ82, lJ99, lJ100, lJ101, lJ123, lJ126, lJ282, lJ342, lJ1000, lJ1100, lJ2394, lJ2736, lJ9999, lJ10000, lJ1000000, lJ100000000, J_add, J_sub, J_mul, J_neg, J_le, J_lt, J_eq, J_in, J_clamp, Int.toNat_natCast, s1.1, s1.i0, s1.i1, s1.i2, s1.i3, s1.i4, s1.i5, s1.i6]
      refine ⟨fun _ => by omega, fun _ => ⟨by omega, fun c2 => nxt (fun z => c2 z.1), fun c2 => ?_⟩⟩
      refine duration_spec s1 rn (by omega) ?_
      rw [Int.toNat_natCast]
      simp (disch := omega) only [lJ0, lJ1, lJ2, lJ3, lJ4, lJ5, lJ6, lJ7, lJ8, lJ9, lJ10, lJ30, lJ32, lJ33, lJ39, lJ40, lJ41, lJ45, lJ47, lJ48, lJ51, lJ55, lJ57, lJ58, lJ59, lJ60, lJ64, lJ80, lJ82, lJ99, lJ100, lJ101, lJ123, lJ126, lJ282, lJ342, lJ1000, lJ1100, lJ2394, lJ2736, lJ9999, lJ10000, lJ1000000, lJ100000000, J_add, J_sub, J_mul, J_neg, J_le, J_lt, J_eq, J_in, J_clamp, Int.toNat_natCast]
      refine c_countUpTo_spec hc g hs (by omega) ?_
      simp (disch := omega) only [lJ0, lJ1, lJ2, lJ3, lJ4, lJ5, lJ6, lJ7, lJ8, lJ9, lJ10, lJ30, lJ32, lJ33, lJ39, lJ40, lJ41, lJ45, lJ47, lJ48, lJ51, lJ55, lJ57, lJ58, lJ59, lJ60, lJ64, lJ80, lJ82, lJ99, lJ100, lJ101, lJ123, lJ126, lJ282, lJ342, lJ1000, lJ1100, lJ2394, lJ2736, lJ9999, lJ10000, lJ1000000, lJ100000000, J_add, J_sub, J_mul, J_neg, J_le, J_lt, J_eq, J_in, J_clamp, Int.toNat_natCast]
      refine ⟨fun c3 => nxt (fun z => ?_), fun c3 => ?_⟩
      · rw [z.2] at c3; omega
      refine c_countUpTo_spec hc g hs (by omega) ?_
      simp (disch := omega) only [lJ0, lJ1, lJ2, lJ3, lJ4, lJ5, lJ6, lJ7, lJ8, lJ9, lJ10, lJ30, lJ32, lJ33, lJ39, lJ40, lJ41, lJ45, lJ47, lJ48, lJ51, lJ55, lJ57, lJ58, lJ59, lJ60, lJ64, lJ80, lJ82, lJ99, lJ100, lJ101, lJ123, lJ126, lJ282, lJ342, lJ1000, lJ1100, lJ2394, lJ2736, lJ9999, lJ10000, lJ1000000, lJ100000000, J_add, J_sub, J_mul, J_neg, J_le, J_lt, J_eq, J_in, J_clamp, Int.toNat_natCast]
      refine ⟨fun c4 => nxt (fun z => ?_), fun c4 => ?_⟩
      · rw [z.2] at c4; omega
      · have e : S.1.2.1 i 5 - S.1.2.1 i 4 = q := by
          rcases Int.lt_trichotomy (S.1.2.1 i 5 - S.1.2.1 i 4) q with y | y | y
          · have := cU_mono (S.1.1) (S.1.2.1) s (u := S.1.2.1 i 5 - S.1.2.1 i 4) (v := q - 1) (by omega)
            omega
          · exact y
          · have := cU_mono (S.1.1) (S.1.2.1) s (u := q) (v := S.1.2.1 i 5 - S.1.2.1 i 4 - 1) (by omega)
            omega
        rw [e]
        exact h
    · obtain ⟨j, hj, h1, h2⟩ := ex
      exact absurd ⟨h1, h2⟩ (hn j (by omega))
  rw [← rr5] at goal
  exact goal
theorem m_upTo_spec {S : GS} {μ : Mem} (hm : MI S μ) (g : GOK S) {s v : Int} (hs : (-2147483648 ≤ s ∧ s ≤ 2147483647)) (hv : (-2147483648 ≤ v ∧ v ≤ 2147483647)) {P : Int32 → Mem → Prop} (h : P (J (cU (S.1.1) (S.1.2.1) s v)) μ) : w9_upTo_wp μ (J s) (J v) P := by
  have rn := g.1.n
  have e0 : μ 3264 0 0 = J (S.1.1) := hm.1.1.1
  intro R hR
  refine down (Q := fun i => R μ (J s) (J v) (J (cnt (fun i => S.1.2.1 i 3 = s ∧ S.1.2.1 i 5 - S.1.2.1 i 4 ≤ v) i)) (J i)) (S.1.1) (fun i hi ih => ?_)
  apply hR
  unfold w9_upTo_b5_body
  rcases Nat.lt_or_ge i (S.1.1) with c | c
  · have ih := ih c
    have ri := g.w.r i c
    obtain ⟨⟨r1, r2, r3, r4, r5, r6, r7⟩, r8⟩ := ri
    rw [cnt_succ] at ih
    simp (disch := omega) only [lJ0, lJ1, lJ2, lJ3, lJ4, lJ5, lJ6, lJ7, lJ8, lJ9, lJ10, lJ30, lJ32, lJ33, lJ39, lJ40, lJ41, lJ45, lJ47, lJ48, lJ51, lJ55, lJ57, lJ58, lJ59, lJ60, lJ64, lJ80, lJ82, lJ99, lJ100, lJ101, lJ123, lJ126, lJ282, lJ342, lJ1000, lJ1100, lJ2394, lJ2736, lJ9999, lJ10000, lJ1000000, lJ100000000, J_add, J_sub, J_mul, J_neg, J_le, J_lt, J_eq, J_in, J_clamp, Int.toNat_natCast, Int.toNat_zero, e0, Int.add_zero]
    refine ⟨by omega, fun _ => by omega, fun _ => ?_⟩
    refine of_spec hm.1.1 rn i 3 rfl rfl c (by omega) ?_
    simp (disch := omega) only [lJ0, lJ1, lJ2, lJ3, lJ4, lJ5, lJ6, lJ7, lJ8, lJ9, lJ10, lJ30, lJ32, lJ33, lJ39, lJ40, lJ41, lJ45, lJ47, lJ48, lJ51, lJ55, lJ57, lJ58, lJ59, lJ60, lJ64, lJ80, lJ82, lJ99, lJ100, lJ101, lJ123, lJ126, lJ282, lJ342, lJ1000, lJ1100, lJ2394, lJ2736, lJ9999, lJ10000, lJ1000000, lJ100000000, J_add, J_sub, J_mul, J_neg, J_le, J_lt, J_eq, J_in, J_clamp, Int.toNat_natCast]
    refine ⟨fun c2 => ?_, fun c2 => ?_⟩
    · rw [if_neg (fun z => c2 z.1)] at ih; exact ih
    refine m_duration_spec hm g c ?_
    simp (disch := omega) only [lJ0, lJ1, lJ2, lJ3, lJ4, lJ5, lJ6, lJ7, lJ8, lJ9, lJ10, lJ30, lJ32, lJ33, lJ39, lJ40, lJ41, lJ45, lJ47, lJ48, lJ51, lJ55, lJ57, lJ58, lJ59, lJ60, lJ64, lJ80, lJ82, lJ99, lJ100, lJ101, lJ123, lJ126, lJ282, lJ342, lJ1000, lJ1100, lJ2394, lJ2736, lJ9999, lJ10000, lJ1000000, lJ100000000, J_add, J_sub, J_mul, J_neg, J_le, J_lt, J_eq, J_in, J_clamp, Int.toNat_natCast]
    refine ⟨fun c3 => ?_, fun c3 => ?_⟩
    · rw [if_neg (by omega)] at ih; exact ih
    · rw [if_pos ⟨c2, by omega⟩] at ih; exact ih
  · have e9 : i = S.1.1 := by omega
    subst e9
    simp (disch := omega) only [lJ0, lJ1, lJ2, lJ3, lJ4, lJ5, lJ6, lJ7, lJ8, lJ9, lJ10, lJ30, lJ32, lJ33, lJ39, lJ40, lJ41, lJ45, lJ47, lJ48, lJ51, lJ55, lJ57, lJ58, lJ59, lJ60, lJ64, lJ80, lJ82, lJ99, lJ100, lJ101, lJ123, lJ126, lJ282, lJ342, lJ1000, lJ1100, lJ2394, lJ2736, lJ9999, lJ10000, lJ1000000, lJ100000000, J_add, J_sub, J_mul, J_neg, J_le, J_lt, J_eq, J_in, J_clamp, Int.toNat_natCast, Int.toNat_zero, e0]
    exact ⟨by omega, fun _ => h, fun z => absurd (Int.le_refl _) z⟩
theorem m_quantile {S : GS} {μ : Mem} (hm : MI S μ) (g : GOK S) {s p : Int} (hs : (-2147483648 ≤ s ∧ s ≤ 2147483647)) (hp : (-2147483648 ≤ p ∧ p ≤ 2147483647)) {P : Int32 → Mem → Prop} (h : MRes J (op_quantile S s p) μ P) : w9_quantile_wp μ (J s) (J p) P := by
  unfold op_quantile at h
  unfold w9_quantile_wp
  have rn := g.1.n
  rintro μ1 rfl
  have k : MI S (thr μ 0) := hm.thr
  have e0 : thr μ 0 3264 0 0 = J (S.1.1) := k.1.1.1
  have t1 : thr μ 0 3201 0 0 = J 0 := thr_w
  have f1 : FrM μ (thr μ 0) := thr_fr
  rw [show up μ 3201 0 0 0 = thr μ 0 from rfl]
  generalize thr μ 0 = μ1 at *
  refine isService_spec hs (fun c => ⟨fun _ => ?_, fun c => absurd c (by decide)⟩) (fun c => ⟨fun c => absurd rfl c, fun _ => by rw [if_neg c] at h; exact m_fails rfl h f1 k⟩)
  rw [if_pos c] at h
  refine in_spec p 0 100 rfl rfl rfl hp (by omega) (by omega) (fun c => ⟨fun _ => ?_, fun c => absurd c (by decide)⟩) (fun c => ⟨fun c => absurd rfl c, fun _ => by rw [if_neg c] at h; exact m_fails rfl h f1 k⟩)
  rw [if_pos c] at h
  intro R hR
  refine down (Q := fun i => R μ1 (J s) (J p) (J (cnt (fun i => S.1.2.1 i 3 = s) i)) (J i)) (S.1.1) (fun i hi ih => ?_)
  apply hR
  unfold w9_quantile_b39_body
  have r1 := cnt_le (p := fun i => S.1.2.1 i 3 = s) (n := i)
  rcases Nat.lt_or_ge i (S.1.1) with ci | ci
  · have ih := ih ci
    have ri := g.w.r i ci
    obtain ⟨⟨r1, r2, r3, r4, r5, r6, r7⟩, r8⟩ := ri
    rw [cnt_succ] at ih
    simp (disch := omega) only [lJ0, lJ1, lJ2, lJ3, lJ4, lJ5, lJ6, lJ7, lJ8, lJ9, lJ10, lJ30, lJ32, lJ33, lJ39, lJ40, lJ41, lJ45, lJ47, lJ48, lJ51, lJ55, lJ57, lJ58, lJ59, lJ60, lJ64, lJ80, lJ82, lJ99, lJ100, lJ101, lJ123, lJ126, lJ282, lJ342, lJ1000, lJ1100, lJ2394, lJ2736, lJ9999, lJ10000, lJ1000000, lJ100000000, J_add, J_sub, J_mul, J_neg, J_le, J_lt, J_eq, J_in, J_clamp, Int.toNat_natCast, Int.toNat_zero, e0, Int.add_zero]
    refine ⟨by omega, fun _ => by omega, fun _ => ?_⟩
    refine of_spec k.1.1 rn i 3 rfl rfl ci (by omega) ?_
    simp (disch := omega) only [lJ0, lJ1, lJ2, lJ3, lJ4, lJ5, lJ6, lJ7, lJ8, lJ9, lJ10, lJ30, lJ32, lJ33, lJ39, lJ40, lJ41, lJ45, lJ47, lJ48, lJ51, lJ55, lJ57, lJ58, lJ59, lJ60, lJ64, lJ80, lJ82, lJ99, lJ100, lJ101, lJ123, lJ126, lJ282, lJ342, lJ1000, lJ1100, lJ2394, lJ2736, lJ9999, lJ10000, lJ1000000, lJ100000000, J_add, J_sub, J_mul, J_neg, J_le, J_lt, J_eq, J_in, J_clamp, Int.toNat_natCast]
    refine ⟨fun c2 => ?_, fun c2 => ?_⟩
    · rw [if_neg c2] at ih; exact ih
    · rw [if_pos c2] at ih; exact ih
  · have e9 : i = S.1.1 := by omega
    subst e9
    have fin : ¬ nSv S s = 0 → w9_quantile_b103 P μ1 (J s) (if (1 : Int32) < (((J p * J (nSv S s)) + (99 : Int32)) / (100 : Int32)) then (((J p * J (nSv S s)) + (99 : Int32)) / (100 : Int32)) else (1 : Int32)) (0 : Int32) := by
      intro c2
      rw [if_neg c2] at h
      have rr := rnk_rg (p := p) (a := nSv S s) (by omega) (by show 1 ≤ cnt _ _ ∧ cnt _ _ ≤ 40; have : cnt (fun i => S.1.2.1 i 3 = s) (S.1.1) ≠ 0 := c2; omega)
      have rr5 := rr.2.2.2.2
      have qc := qv_cs g.w (s := s) (r := rnk p (nSv S s)) ⟨rr.1, rr.2.1⟩
      have goal : w9_quantile_b103 P μ1 (J s) (J (rnk p (nSv S s))) (J 0) := by
        have rk : rnk p (nSv S s) ≤ 40 := by
          have h1 := rr.2.1
          have : nSv S s ≤ 40 := by show cnt _ _ ≤ 40; omega
          omega
        have rk1 := rr.1
        clear rr rr5
        generalize rnk p (nSv S s) = r at *
        generalize hq : qv (S.1.1) (S.1.2.1) s r = q at *
        intro R2 hR2
        suffices H : ∀ d v : Nat, (v : Int) + d = q → R2 μ1 (J s) (J r) (J v) from H q.toNat 0 (by omega)
        intro d
        induction d with
        | zero =>
          intro v hv
          apply hR2
          unfold w9_quantile_b103_body
          have cu := cnt_le (p := fun j => S.1.2.1 j 3 = s ∧ S.1.2.1 j 5 - S.1.2.1 j 4 ≤ (v : Int)) (n := S.1.1)
          have cu : 0 ≤ cU (S.1.1) (S.1.2.1) s v ∧ cU (S.1.1) (S.1.2.1) s v ≤ S.1.1 := cu
          refine m_upTo_spec k g hs (by omega) ?_
          have e : (v : Int) = q := by omega
          simp (disch := omega) only [lJ0, lJ1, lJ2, lJ3, lJ4, lJ5, lJ6, lJ7, lJ8, lJ9, lJ10, lJ30, lJ32, lJ33, lJ39, lJ40, lJ41, lJ45, lJ47, lJ48, lJ51, lJ55, lJ57, lJ58, lJ59, lJ60, lJ64, lJ80, lJ82, lJ99, lJ100, lJ101, lJ123, lJ126, lJ282, lJ342, lJ1000, lJ1100, lJ2394, lJ2736, lJ9999, lJ10000, lJ1000000, lJ100000000, J_add, J_sub, J_mul, J_neg, J_le, J_lt, J_eq, J_in, J_clamp, Int.toNat_natCast]
          rw [e] at cu ⊢
          exact ⟨fun _ => m_ok h f1 k t1 rfl, fun z => absurd qc.2.2.1 z⟩
        | succ d ihd =>
          intro v hv
          apply hR2
          unfold w9_quantile_b103_body
          have cu := cnt_le (p := fun j => S.1.2.1 j 3 = s ∧ S.1.2.1 j 5 - S.1.2.1 j 4 ≤ (v : Int)) (n := S.1.1)
          have cu : 0 ≤ cU (S.1.1) (S.1.2.1) s v ∧ cU (S.1.1) (S.1.2.1) s v ≤ S.1.1 := cu
          have mo := cU_mono (S.1.1) (S.1.2.1) s (u := v) (v := q - 1) (by omega)
          refine m_upTo_spec k g hs (by omega) ?_
          simp (disch := omega) only [lJ0, lJ1, lJ2, lJ3, lJ4, lJ5, lJ6, lJ7, lJ8, lJ9, lJ10, lJ30, lJ32, lJ33, lJ39, lJ40, lJ41, lJ45, lJ47, lJ48, lJ51, lJ55, lJ57, lJ58, lJ59, lJ60, lJ64, lJ80, lJ82, lJ99, lJ100, lJ101, lJ123, lJ126, lJ282, lJ342, lJ1000, lJ1100, lJ2394, lJ2736, lJ9999, lJ10000, lJ1000000, lJ100000000, J_add, J_sub, J_mul, J_neg, J_le, J_lt, J_eq, J_in, J_clamp, Int.toNat_natCast]
          exact ⟨fun z => by omega, fun _ => ihd (v + 1) (by omega)⟩
      rw [← rr5] at goal
      exact goal
    rw [show (0 : Int32) = J 0 from rfl, J_eq (by omega) (by omega)]
    refine ⟨(J_in (by omega)).mpr (by omega), fun _ => ⟨fun c2 => ⟨by decide, fin c2⟩, fun c2 => by rw [if_pos c2] at h; exact m_fails rfl h f1 k⟩, fun z => ?_⟩
    refine absurd ?_ z
    simp (disch := omega) only [lJ0, lJ1, lJ2, lJ3, lJ4, lJ5, lJ6, lJ7, lJ8, lJ9, lJ10, lJ30, lJ32, lJ33, lJ39, lJ40, lJ41, lJ45, lJ47, lJ48, lJ51, lJ55, lJ57, lJ58, lJ59, lJ60, lJ64, lJ80, lJ82, lJ99, lJ100, lJ101, lJ123, lJ126, lJ282, lJ342, lJ1000, lJ1100, lJ2394, lJ2736, lJ9999, lJ10000, lJ1000000, lJ100000000, J_add, J_sub, J_mul, J_neg, J_le, J_lt, J_eq, J_in, J_clamp, Int.toNat_natCast, Int.toNat_zero, e0]
    omega
