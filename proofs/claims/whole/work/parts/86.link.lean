-- links: delays, traces that are reached
theorem lnk {S : GS} (g : GOK S) {q : Nat} (hq : q < (S.1.2.2).length) : (0 ≤ lf (S.1.2.2) q ∧ lf (S.1.2.2) q < 100 ∧ 0 ≤ lt (S.1.2.2) q ∧ lt (S.1.2.2) q < 100) ∧ (∃ i : Nat, i < S.1.1 ∧ (fnd S.1.1 S.1.2.1 (lf (S.1.2.2) q)) = i) ∧ ∃ j : Nat, j < S.1.1 ∧ (fnd S.1.1 S.1.2.1 (lt (S.1.2.2) q)) = j := by
  have h := g.1.2.2 q hq
  have a := fnd_some h.1
  have b := fnd_some h.2
  exact ⟨g.1.2.1.2 q hq, ⟨((fnd S.1.1 S.1.2.1 (lf (S.1.2.2) q))).toNat, by omega, by omega⟩, ⟨((fnd S.1.1 S.1.2.1 (lt (S.1.2.2) q))).toNat, by omega, by omega⟩⟩
def op_linkDelay (S : GS) (q : Int) : OpR Int := if 0 ≤ q ∧ q < (S.1.2.2).length then ok S (bgn (S.1.1) (S.1.2.1) ((fnd S.1.1 S.1.2.1 (lt (S.1.2.2) q.toNat))).toNat - enn (S.1.1) (S.1.2.1) ((fnd S.1.1 S.1.2.1 (lf (S.1.2.2) q.toNat))).toNat) else thw S xIO 1
theorem c_linkDelay {S : GS} {μ : Mem} (hc : CI S μ) (g : GOK S) {q : Int} (hq : (-2147483648 ≤ q ∧ q ≤ 2147483647)) {P : Int32 → Mem → Prop} {X : String → Mem → Prop} (h : CRes J (op_linkDelay S q) μ P X) : w8_linkDelay_wp μ (J q) P X := by
  unfold op_linkDelay at h
  unfold w8_linkDelay_wp
  have rn := g.1.n
  have rl := g.1.l
  refine checkLink_spec hc.1.1 g hq (fun c => ?_) (fun c => by rw [if_neg c] at h; exact h μ FrC.rf hc)
  rw [if_pos c] at h
  obtain ⟨r, ⟨i, hi, ei⟩, j, hj, ej⟩ := lnk g (q := q.toNat) (by omega)
  have lv := hc.1.1.2.2 q.toNat (by show q.toNat < (S.1.2.2).length; omega)
  have lv1 : μ 512 0 q.toNat = J (lf (S.1.2.2) q.toNat) := lv.1
  have lv2 : μ 576 0 q.toNat = J (lt (S.1.2.2) q.toNat) := lv.2
  rw [ei, ej, Int.toNat_natCast, Int.toNat_natCast] at h
  refine ⟨(J_in (by omega)).mpr (by omega), ?_⟩
  rw [J_clamp hq, lv1]
  refine placeOf_spec hc.1.1 g (by omega) (fun c => by omega) (fun i' hi' ei' ez' => ?_)
  refine ⟨(J_in (by omega)).mpr (by omega), ?_⟩
  rw [lv2]
  refine placeOf_spec hc.1.1 g (by omega) (fun c => by omega) (fun j' hj' ej' ez2 => ?_)
  have : i' = i := by omega
  subst this
  have : j' = j := by omega
  subst this
  refine workOut_spec2 hc g (fun μ' f k => ?_)
  have e1 := (k.2.2.1 _ hi).2.1
  have e2 := (k.2.2.1 _ hj).1
  simp (disch := omega) only [lJ0, lJ1, lJ2, lJ3, lJ4, lJ5, lJ6, lJ7, lJ8, lJ9, lJ10, lJ30, lJ32, lJ33, lJ39, lJ40, lJ41, lJ45, lJ47, lJ48, lJ51, lJ55, lJ57, lJ58, lJ59, lJ60, lJ64, lJ80, lJ82, lJ99, lJ100, lJ101, lJ123, lJ126, lJ282, lJ342, lJ1000, lJ1100, lJ2394, lJ2736, lJ9999, lJ10000, lJ1000000, lJ100000000, J_add, J_sub, J_mul, J_neg, J_le, J_lt, J_eq, J_in, J_clamp, Int.toNat_natCast, e1, e2]
  exact ⟨by omega, by omega, h μ' f k.1⟩
theorem m_linkDelay {S : GS} {μ : Mem} (hm : MI S μ) (g : GOK S) {q : Int} (hq : (-2147483648 ≤ q ∧ q ≤ 2147483647)) {P : Int32 → Mem → Prop} (h : MRes J (op_linkDelay S q) μ P) : w9_linkDelay_wp μ (J q) P := by
  unfold op_linkDelay at h
  unfold w9_linkDelay_wp
  have rn := g.1.n
  have rl := g.1.l
  refine m_kn0 hm g (fun μ1 f1 t1 k => ?_)
  have e1 : μ1 3264 0 1 = J (S.1.2.2).length := k.1.1.1.lk
  simp (disch := omega) only [lJ0, lJ1, lJ2, lJ3, lJ4, lJ5, lJ6, lJ7, lJ8, lJ9, lJ10, lJ30, lJ32, lJ33, lJ39, lJ40, lJ41, lJ45, lJ47, lJ48, lJ51, lJ55, lJ57, lJ58, lJ59, lJ60, lJ64, lJ80, lJ82, lJ99, lJ100, lJ101, lJ123, lJ126, lJ282, lJ342, lJ1000, lJ1100, lJ2394, lJ2736, lJ9999, lJ10000, lJ1000000, lJ100000000, J_add, J_sub, J_mul, J_neg, J_le, J_lt, J_eq, J_in, J_clamp, Int.toNat_natCast, show (1 : Int).toNat = 1 from rfl, e1]
  refine ⟨by omega, ?_⟩
  refine in_spec q 0 (((S.1.2.2).length : Int) - 1) rfl rfl rfl hq (by omega) (by omega) (fun c => ⟨fun _ => ?_, fun c => absurd c (by decide)⟩) (fun c => ⟨fun c => absurd rfl c, fun _ => by rw [if_neg (by omega)] at h; exact m_fails rfl h f1 k.1⟩)
  rw [if_pos (by omega)] at h
  obtain ⟨r, ⟨i, hi, ei⟩, j, hj, ej⟩ := lnk g (q := q.toNat) (by omega)
  rw [ei, ej, Int.toNat_natCast, Int.toNat_natCast] at h
  have lv := k.1.1.1.2.2.2 q.toNat (by show q.toNat < (S.1.2.2).length; omega)
  have a1 : (282 + 2 * q + 1).toNat = 283 + 2 * q.toNat := by omega
  have a2 : (282 + 2 * q).toNat = 282 + 2 * q.toNat := by omega
  simp (disch := omega) only [lJ0, lJ1, lJ2, lJ3, lJ4, lJ5, lJ6, lJ7, lJ8, lJ9, lJ10, lJ30, lJ32, lJ33, lJ39, lJ40, lJ41, lJ45, lJ47, lJ48, lJ51, lJ55, lJ57, lJ58, lJ59, lJ60, lJ64, lJ80, lJ82, lJ99, lJ100, lJ101, lJ123, lJ126, lJ282, lJ342, lJ1000, lJ1100, lJ2394, lJ2736, lJ9999, lJ10000, lJ1000000, lJ100000000, J_add, J_sub, J_mul, J_neg, J_le, J_lt, J_eq, J_in, J_clamp, Int.toNat_natCast, a1, a2]
  refine ⟨by omega, ?_⟩
  rw [lv.2]
  refine m_find_spec k.1.1.1 g.w (by omega) ?_
  have ej' : fnd (S.1).1 (S.1).2.1 (lt (S.1).2.2 q.toNat) = j := ej
  have ei' : fnd (S.1).1 (S.1).2.1 (lf (S.1).2.2 q.toNat) = i := ei
  rw [ej']
  refine m_begin_spec k g hj rfl ⟨by omega, ?_⟩
  rw [lv.1]
  refine m_find_spec k.1.1.1 g.w (by omega) ?_
  rw [ei']
  refine m_end_spec k g hi rfl ?_
  rw [J_sub]
  exact m_ok h f1 k.1 t1 rfl
-- sets of traces as numbers below 16
theorem b_or : ∀ (m : Fin 16) (x : Fin 4), J ((m.val : Nat) : Int) ||| ((1 : Int32) <<< (J ((x.val : Nat) : Int) &&& 31)) = J (((m.val ||| 2 ^ x.val : Nat)) : Int) := by decide +kernel
theorem b_tst : ∀ (m : Fin 16) (x : Fin 4), (((J ((m.val : Nat) : Int) >>> (J ((x.val : Nat) : Int) &&& 31)) &&& (1 : Int32)) = (1 : Int32)) ↔ m.val.testBit x.val = true := by decide +kernel
theorem b_lt : ∀ (m : Fin 16) (x : Fin 4), m.val ||| 2 ^ x.val < 16 := by decide +kernel
theorem b_sub : ∀ (r s : Fin 16) (x : Fin 4), r.val &&& s.val = r.val → r.val &&& (s.val ||| 2 ^ x.val) = r.val := by decide +kernel
def pc (m : Nat) : Nat := (m.testBit 0).toNat + (m.testBit 1).toNat + (m.testBit 2).toNat + (m.testBit 3).toNat
theorem b_pc : ∀ (r s : Fin 16), r.val &&& s.val = r.val → r.val ≠ s.val → pc r.val < pc s.val := by decide +kernel
theorem b_pc4 : ∀ (r : Fin 16), pc r.val ≤ 4 := by decide +kernel
theorem b_or0 : ∀ (m : Fin 16), J ((m.val : Nat) : Int) ||| (0 : Int32) = J ((m.val : Nat) : Int) := by decide +kernel
/-- one round over the links; the traces of a link's ends are tf q, tt q -/
def rdl (tf tt : Nat → Nat) (src r : Nat) : Nat → Nat := it (fun q r => if src.testBit (tf q) = true then r ||| 2 ^ tt q else r) r
theorem rdl_succ (tf tt : Nat → Nat) (src r q : Nat) : rdl tf tt src r (q + 1) = if src.testBit (tf q) = true then rdl tf tt src r q ||| 2 ^ tt q else rdl tf tt src r q := rfl
theorem rdl_lt {tf tt : Nat → Nat} {src r : Nat} (hr : r < 16) : ∀ k, (∀ q, q < k → tt q < 4) → rdl tf tt src r k < 16 ∧ r &&& rdl tf tt src r k = r := by
  intro k
  induction k with
  | zero => intro _; exact ⟨hr, Nat.and_self r⟩
  | succ k ih =>
    intro h
    have a := ih (fun q hq => h q (by omega))
    rw [rdl_succ]
    split
    · exact ⟨b_lt ⟨_, a.1⟩ ⟨_, h k (by omega)⟩, b_sub ⟨r, hr⟩ ⟨_, a.1⟩ ⟨_, h k (by omega)⟩ a.2⟩
    · exact a
def rnd (tf tt : Nat → Nat) (len t : Nat) : Nat → Nat := it (fun _ r => rdl tf tt (r ||| 2 ^ t) r len) 0
theorem rnd_succ (tf tt : Nat → Nat) (len t k : Nat) : rnd tf tt len t (k + 1) = rdl tf tt (rnd tf tt len t k ||| 2 ^ t) (rnd tf tt len t k) len := rfl
theorem rnd_lt {tf tt : Nat → Nat} {len t : Nat} (h : ∀ q, q < len → tt q < 4) : ∀ k, rnd tf tt len t k < 16 ∧ rnd tf tt len t k &&& rnd tf tt len t (k + 1) = rnd tf tt len t k := by
  intro k
  have lt : rnd tf tt len t k < 16 := by
    induction k with
    | zero => exact (by decide : (0 : Nat) < 16)
    | succ k ih => rw [rnd_succ]; exact (rdl_lt ih len h).1
  exact ⟨lt, by rw [rnd_succ]; exact (rdl_lt lt len h).2⟩
theorem rnd_54 {tf tt : Nat → Nat} {len t : Nat} (h : ∀ q, q < len → tt q < 4) : rnd tf tt len t 5 = rnd tf tt len t 4 := by
  have st : ∀ k, rnd tf tt len t (k + 1) = rnd tf tt len t k → rnd tf tt len t (k + 2) = rnd tf tt len t (k + 1) := fun k e => by
    rw [rnd_succ tf tt len t (k + 1), e]
    exact (rnd_succ tf tt len t k).symm.trans e
  have up : ∀ k, rnd tf tt len t k ≠ rnd tf tt len t (k + 1) → pc (rnd tf tt len t k) < pc (rnd tf tt len t (k + 1)) := fun k e => b_pc ⟨_, (rnd_lt h k).1⟩ ⟨_, (rnd_lt h (k + 1)).1⟩ (rnd_lt h k).2 e
  by_cases c4 : rnd tf tt len t 5 = rnd tf tt len t 4
  · exact c4
  have c3 : rnd tf tt len t 4 ≠ rnd tf tt len t 3 := fun e => c4 (st 3 e)
  have c2 : rnd tf tt len t 3 ≠ rnd tf tt len t 2 := fun e => c3 (st 2 e)
  have c1 : rnd tf tt len t 2 ≠ rnd tf tt len t 1 := fun e => c2 (st 1 e)
  have c0 : rnd tf tt len t 1 ≠ rnd tf tt len t 0 := fun e => c1 (st 0 e)
  have u0 := up 0 (Ne.symm c0)
  have u1 := up 1 (Ne.symm c1)
  have u2 := up 2 (Ne.symm c2)
  have u3 := up 3 (Ne.symm c3)
  have u4 := up 4 (Ne.symm c4)
  have p5 : pc (rnd tf tt len t 5) ≤ 4 := b_pc4 ⟨_, (rnd_lt h 5).1⟩
  simp only [Nat.reduceAdd] at u0 u1 u2 u3 u4
  omega
abbrev tff (S : GS) (q : Nat) : Nat := (S.1.2.1 ((fnd S.1.1 S.1.2.1 (lf (S.1.2.2) q))).toNat 1).toNat
abbrev ttt (S : GS) (q : Nat) : Nat := (S.1.2.1 ((fnd S.1.1 S.1.2.1 (lt (S.1.2.2) q))).toNat 1).toNat
theorem tt4 {S : GS} (g : GOK S) : ∀ q, q < (S.1.2.2).length → tff S q < 4 ∧ ttt S q < 4 := fun q hq => by
  obtain ⟨r, ⟨i, hi, ei⟩, j, hj, ej⟩ := lnk g hq
  have a := g.w.r i hi
  have b := g.w.r j hj
  show (S.1.2.1 ((fnd S.1.1 S.1.2.1 (lf (S.1.2.2) q))).toNat 1).toNat < 4 ∧ (S.1.2.1 ((fnd S.1.1 S.1.2.1 (lt (S.1.2.2) q))).toNat 1).toNat < 4
  rw [ei, ej, Int.toNat_natCast, Int.toNat_natCast]
  omega
def op_linkedTraces (S : GS) (t : Int) : OpR Int := if 0 ≤ t ∧ t < 4 then ok S (rnd (tff S) (ttt S) (S.1.2.2).length t.toNat 4) else thw S xIO 1
theorem c_linkedTraces {S : GS} {μ : Mem} (hc : CI S μ) (g : GOK S) {t : Int} (ht : (-2147483648 ≤ t ∧ t ≤ 2147483647)) {P : Int32 → Mem → Prop} {X : String → Mem → Prop} (h : CRes J (op_linkedTraces S t) μ P X) : w8_linkedTraces_wp μ (J t) P X := by
  unfold op_linkedTraces at h
  unfold w8_linkedTraces_wp
  have rn := g.1.n
  have rl := g.1.l
  have s1 : SV μ 0 (S.1.1) (S.1.2.1) := hc.1.1.1
  have s2 : LV μ 0 (S.1.2.2) := hc.1.1.2
  have t4 := tt4 g
  refine checkTrace_spec ht (fun c => ?_) (fun c => by rw [if_neg c] at h; exact h μ FrC.rf hc)
  rw [if_pos c] at h
  have h := h μ FrC.rf hc
  dsimp only at h
  have et : t = ((t.toNat : Nat) : Int) := by omega
  have ht4 : t.toNat < 4 := by omega
  rw [et]
  generalize t.toNat = u at *
  intro R hR
  suffices H : ∀ d r : Nat, r + d = 4 → R μ (J u) (J ((rnd (tff S) (ttt S) (S.1.2.2).length u r : Nat) : Int)) (J r) from H 4 0 rfl
  intro d
  induction d with
  | zero =>
    intro r hr
    have e9 : r = 4 := by omega
    subst e9
    apply hR
    unfold w1_tracesReached_b4_body
    simp (disch := omega) only [lJ0, lJ1, lJ2, lJ3, lJ4, lJ5, lJ6, lJ7, lJ8, lJ9, lJ10, lJ30, lJ32, lJ33, lJ39, lJ40, lJ41, lJ45, lJ47, lJ48, lJ51, lJ55, lJ57, lJ58, lJ59, lJ60, lJ64, lJ80, lJ82, lJ99, lJ100, lJ101, lJ123, lJ126, lJ282, lJ342, lJ1000, lJ1100, lJ2394, lJ2736, lJ9999, lJ10000, lJ1000000, lJ100000000, J_add, J_sub, J_mul, J_neg, J_le, J_lt, J_eq, J_in, J_clamp, Int.toNat_natCast]
    exact ⟨fun _ => h, fun z => absurd (by omega) z⟩
  | succ d ih =>
    intro r hr
    have ih := ih (r + 1) (by omega)
    have ltm := (rnd_lt (tf := tff S) (t := u) (fun q hq => (t4 q hq).2) r).1
    apply hR
    unfold w1_tracesReached_b4_body
    rw [b_or ⟨_, ltm⟩ ⟨u, ht4⟩]
    have lt2 := b_lt ⟨_, ltm⟩ ⟨u, ht4⟩
    rw [rnd_succ] at ih
    dsimp only at lt2 ⊢
    generalize rnd (tff S) (ttt S) (S.1.2.2).length u r = m at *
    generalize m ||| 2 ^ u = src at *
    simp (disch := omega) only [lJ0, lJ1, lJ2, lJ3, lJ4, lJ5, lJ6, lJ7, lJ8, lJ9, lJ10, lJ30, lJ32, lJ33, lJ39, lJ40, lJ41, lJ45, lJ47, lJ48, lJ51, lJ55, lJ57, lJ58, lJ59, lJ60, lJ64, lJ80, lJ82, lJ99, lJ100, lJ101, lJ123, lJ126, lJ282, lJ342, lJ1000, lJ1100, lJ2394, lJ2736, lJ9999, lJ10000, lJ1000000, lJ100000000, J_add, J_sub, J_mul, J_neg, J_le, J_lt, J_eq, J_in, J_clamp, Int.toNat_natCast]
    refine ⟨fun z => by omega, fun _ => ?_⟩
    intro R2 hR2
    refine down (Q := fun q => R2 μ (J u) (J ((rdl (tff S) (ttt S) src m q : Nat) : Int)) (J r) (J ((src : Nat) : Int)) (J q)) (S.1.2.2).length (fun q hq ih2 => ?_)
    apply hR2
    unfold w1_tracesReached_b19_body
    have e0 : μ 2 0 0 = J (S.1.2.2).length := s2.1
    rcases Nat.lt_or_ge q (S.1.2.2).length with cq | cq
    · have ih2 := ih2 cq
      obtain ⟨r4, ⟨i, hi, ei⟩, j, hj, ej⟩ := lnk g cq
      have lv := s2.2 q cq
      have lv1 : μ 512 0 q = J (lf (S.1.2.2) q) := lv.1
      have lv2 : μ 576 0 q = J (lt (S.1.2.2) q) := lv.2
      have lm := (rdl_lt (tf := tff S) (src := src) ltm q (fun k hk => (t4 k (by omega)).2)).1
      have tq := t4 q cq
      have ri := g.w.r i hi
      have rj := g.w.r j hj
      have ef : tff S q = (S.1.2.1 i 1).toNat := by show (S.1.2.1 ((fnd S.1.1 S.1.2.1 (lf (S.1.2.2) q))).toNat 1).toNat = _; rw [ei, Int.toNat_natCast]
      have et2 : ttt S q = (S.1.2.1 j 1).toNat := by show (S.1.2.1 ((fnd S.1.1 S.1.2.1 (lt (S.1.2.2) q))).toNat 1).toNat = _; rw [ej, Int.toNat_natCast]
      have sf : J (S.1.2.1 i 1) = J ((tff S q : Nat) : Int) := by congr 1; omega
      have st : J (S.1.2.1 j 1) = J ((ttt S q : Nat) : Int) := by congr 1; omega
      rw [rdl_succ] at ih2
      simp (disch := omega) only [lJ0, lJ1, lJ2, lJ3, lJ4, lJ5, lJ6, lJ7, lJ8, lJ9, lJ10, lJ30, lJ32, lJ33, lJ39, lJ40, lJ41, lJ45, lJ47, lJ48, lJ51, lJ55, lJ57, lJ58, lJ59, lJ60, lJ64, lJ80, lJ82, lJ99, lJ100, lJ101, lJ123, lJ126, lJ282, lJ342, lJ1000, lJ1100, lJ2394, lJ2736, lJ9999, lJ10000, lJ1000000, lJ100000000, J_add, J_sub, J_mul, J_neg, J_le, J_lt, J_eq, J_in, J_clamp, Int.toNat_natCast, e0, lv1, lv2]
      refine ⟨fun _ => by omega, fun _ => ⟨by omega, ?_⟩⟩
      refine find_spec' s1 g.w (by omega) ⟨by omega, ?_⟩
      rw [lv2]
      refine find_spec' s1 g.w (by omega) ?_
      rw [ei, ej]
      simp (disch := omega) only [lJ0, lJ1, lJ2, lJ3, lJ4, lJ5, lJ6, lJ7, lJ8, lJ9, lJ10, lJ30, lJ32, lJ33, lJ39, lJ40, lJ41, lJ45, lJ47, lJ48, lJ51, lJ55, lJ57, lJ58, lJ59, lJ60, lJ64, lJ80, lJ82, lJ99, lJ100, lJ101, lJ123, lJ126, lJ282, lJ342, lJ1000, lJ1100, lJ2394, lJ2736, lJ9999, lJ10000, lJ1000000, lJ100000000, J_add, J_sub, J_mul, J_neg, J_le, J_lt, J_eq, J_in, J_clamp, Int.toNat_natCast, s1.1, s1.i0, s1.i1, s1.i2, s1.i3, s1.i4, s1.i5, s1.i6, sf, st]
      have bt : (((J ((src : Nat) : Int) >>> (J ((tff S q : Nat) : Int) &&& 31)) &&& J 1) = J 1) ↔ src.testBit (tff S q) = true := b_tst ⟨src, lt2⟩ ⟨tff S q, tq.1⟩
      have bo : J ((rdl (tff S) (ttt S) src m q : Nat) : Int) ||| (J 1 <<< (J ((ttt S q : Nat) : Int) &&& 31)) = J ((rdl (tff S) (ttt S) src m q ||| 2 ^ (ttt S q) : Nat) : Int) := b_or ⟨_, lm⟩ ⟨ttt S q, tq.2⟩
      refine ⟨fun z => by omega, fun _ => ⟨fun z => by omega, fun _ => ⟨by omega, fun c5 => ?_, fun c5 => ⟨by omega, ?_⟩⟩⟩⟩
      · rw [if_neg (fun z => c5 (bt.mpr z))] at ih2; exact ih2
      · rw [if_pos (bt.mp c5)] at ih2; rw [bo]; exact ih2
    · have e9 : q = (S.1.2.2).length := by omega
      rw [e9]
      simp (disch := omega) only [lJ0, lJ1, lJ2, lJ3, lJ4, lJ5, lJ6, lJ7, lJ8, lJ9, lJ10, lJ30, lJ32, lJ33, lJ39, lJ40, lJ41, lJ45, lJ47, lJ48, lJ51, lJ55, lJ57, lJ58, lJ59, lJ60, lJ64, lJ80, lJ82, lJ99, lJ100, lJ101, lJ123, lJ126, lJ282, lJ342, lJ1000, lJ1100, lJ2394, lJ2736, lJ9999, lJ10000, lJ1000000, lJ100000000, J_add, J_sub, J_mul, J_neg, J_le, J_lt, J_eq, J_in, J_clamp, Int.toNat_natCast, e0]
      exact ⟨fun _ => ih, fun z => absurd (Int.le_refl _) z⟩
theorem m_linkedTraces {S : GS} {μ : Mem} (hm : MI S μ) (g : GOK S) {t : Int} (ht : (-2147483648 ≤ t ∧ t ≤ 2147483647)) {P : Int32 → Mem → Prop} (h : MRes J (op_linkedTraces S t) μ P) : w9_linkedTraces_wp μ (J t) P := by
  unfold op_linkedTraces at h
  unfold w9_linkedTraces_wp
  have rn := g.1.n
  have rl := g.1.l
  have t4 := tt4 g
  rintro μ1 rfl
  have k : MI S (thr μ 0) := hm.thr
  have t1 : thr μ 0 3201 0 0 = J 0 := thr_w
  have f1 : FrM μ (thr μ 0) := thr_fr
  rw [show up μ 3201 0 0 0 = thr μ 0 from rfl]
  generalize thr μ 0 = μ1 at *
  refine isTrace_spec ht (fun c => ⟨fun _ => ?_, fun c => absurd c (by decide)⟩) (fun c => ⟨fun c => absurd rfl c, fun _ => by rw [if_neg c] at h; exact m_fails rfl h f1 k⟩)
  rw [if_pos c, ← rnd_54 (fun q hq => (t4 q hq).2)] at h
  have et : t = ((t.toNat : Nat) : Int) := by omega
  have ht4 : t.toNat < 4 := by omega
  rw [et]
  generalize t.toNat = u at *
  intro R hR
  suffices H : ∀ d r : Nat, r + d = 5 → R μ1 (J u) (J ((rnd (tff S) (ttt S) (S.1.2.2).length u r : Nat) : Int)) (J r) from H 5 0 rfl
  intro d
  induction d with
  | zero =>
    intro r hr
    have e9 : r = 5 := by omega
    subst e9
    apply hR
    unfold w9_linkedTraces_b22_body
    simp (disch := omega) only [lJ0, lJ1, lJ2, lJ3, lJ4, lJ5, lJ6, lJ7, lJ8, lJ9, lJ10, lJ30, lJ32, lJ33, lJ39, lJ40, lJ41, lJ45, lJ47, lJ48, lJ51, lJ55, lJ57, lJ58, lJ59, lJ60, lJ64, lJ80, lJ82, lJ99, lJ100, lJ101, lJ123, lJ126, lJ282, lJ342, lJ1000, lJ1100, lJ2394, lJ2736, lJ9999, lJ10000, lJ1000000, lJ100000000, J_add, J_sub, J_mul, J_neg, J_le, J_lt, J_eq, J_in, J_clamp, Int.toNat_natCast]
    exact ⟨fun _ => m_ok h f1 k t1 rfl, fun z => absurd (by omega) z⟩
  | succ d ih =>
    intro r hr
    have ih := ih (r + 1) (by omega)
    have lt0 := (rnd_lt (tf := tff S) (t := u) (fun q hq => (t4 q hq).2) r).1
    apply hR
    unfold w9_linkedTraces_b22_body
    rw [b_or ⟨_, lt0⟩ ⟨u, ht4⟩]
    have lt2 := b_lt ⟨_, lt0⟩ ⟨u, ht4⟩
    rw [rnd_succ] at ih
    clear h
    dsimp only at lt2 ⊢
    generalize rnd (tff S) (ttt S) (S.1.2.2).length u r = m at *
    generalize m ||| 2 ^ u = src at *
    simp (disch := omega) only [lJ0, lJ1, lJ2, lJ3, lJ4, lJ5, lJ6, lJ7, lJ8, lJ9, lJ10, lJ30, lJ32, lJ33, lJ39, lJ40, lJ41, lJ45, lJ47, lJ48, lJ51, lJ55, lJ57, lJ58, lJ59, lJ60, lJ64, lJ80, lJ82, lJ99, lJ100, lJ101, lJ123, lJ126, lJ282, lJ342, lJ1000, lJ1100, lJ2394, lJ2736, lJ9999, lJ10000, lJ1000000, lJ100000000, J_add, J_sub, J_mul, J_neg, J_le, J_lt, J_eq, J_in, J_clamp, Int.toNat_natCast]
    refine ⟨fun z => by omega, fun _ => ?_⟩
    intro R2 hR2
    refine down (Q := fun q => R2 μ1 (J u) (J ((rdl (tff S) (ttt S) src m q : Nat) : Int)) (J r) (J ((src : Nat) : Int)) (J q)) (S.1.2.2).length (fun q hq ih2 => ?_)
    apply hR2
    unfold w9_linkedTraces_b37_body
    have e0 : μ1 3264 0 1 = J (S.1.2.2).length := k.1.1.lk
    rcases Nat.lt_or_ge q (S.1.2.2).length with cq | cq
    · have ih2 := ih2 cq
      obtain ⟨r4, ⟨i, hi, ei⟩, j, hj, ej⟩ := lnk g cq
      have lv := k.1.1.2.2.2 q cq
      have lm := (rdl_lt (tf := tff S) (src := src) lt0 q (fun k hk => (t4 k (by omega)).2)).1
      have tq := t4 q cq
      have ri := g.w.r i hi
      have rj := g.w.r j hj
      have ef : tff S q = (S.1.2.1 i 1).toNat := by show (S.1.2.1 ((fnd S.1.1 S.1.2.1 (lf (S.1.2.2) q))).toNat 1).toNat = _; rw [ei, Int.toNat_natCast]
      have et2 : ttt S q = (S.1.2.1 j 1).toNat := by show (S.1.2.1 ((fnd S.1.1 S.1.2.1 (lt (S.1.2.2) q))).toNat 1).toNat = _; rw [ej, Int.toNat_natCast]
      have sf : J (S.1.2.1 i 1) = J ((tff S q : Nat) : Int) := by congr 1; omega
      have st : J (S.1.2.1 j 1) = J ((ttt S q : Nat) : Int) := by congr 1; omega
      have ej' : fnd (S.1).1 (S.1).2.1 (lt (S.1).2.2 q) = j := ej
      have ei' : fnd (S.1).1 (S.1).2.1 (lf (S.1).2.2 q) = i := ei
      rw [rdl_succ] at ih2
      have a1 : (282 + 2 * (q : Int) + 1).toNat = 283 + 2 * q := by omega
      have a2 : (282 + 2 * (q : Int)).toNat = 282 + 2 * q := by omega
      simp (disch := omega) only [lJ0, lJ1, lJ2, lJ3, lJ4, lJ5, lJ6, lJ7, lJ8, lJ9, lJ10, lJ30, lJ32, lJ33, lJ39, lJ40, lJ41, lJ45, lJ47, lJ48, lJ51, lJ55, lJ57, lJ58, lJ59, lJ60, lJ64, lJ80, lJ82, lJ99, lJ100, lJ101, lJ123, lJ126, lJ282, lJ342, lJ1000, lJ1100, lJ2394, lJ2736, lJ9999, lJ10000, lJ1000000, lJ100000000, J_add, J_sub, J_mul, J_neg, J_le, J_lt, J_eq, J_in, J_clamp, Int.toNat_natCast, show (1 : Int).toNat = 1 from rfl, e0, a1, a2, lv.1, lv.2]
      refine ⟨by omega, fun _ => by omega, fun _ => ⟨by omega, ?_⟩⟩
      have bt : (((J ((src : Nat) : Int) >>> (J ((tff S q : Nat) : Int) &&& 31)) &&& J 1) = J 1) ↔ src.testBit (tff S q) = true := b_tst ⟨src, lt2⟩ ⟨tff S q, tq.1⟩
      have bo : J ((rdl (tff S) (ttt S) src m q : Nat) : Int) ||| (J 1 <<< (J ((ttt S q : Nat) : Int) &&& 31)) = J ((rdl (tff S) (ttt S) src m q ||| 2 ^ (ttt S q) : Nat) : Int) := b_or ⟨_, lm⟩ ⟨ttt S q, tq.2⟩
      have b0 : J ((rdl (tff S) (ttt S) src m q : Nat) : Int) ||| J 0 = J ((rdl (tff S) (ttt S) src m q : Nat) : Int) := b_or0 ⟨_, lm⟩
      refine m_find_spec k.1.1 g.w (by omega) ?_
      rw [ei']
      refine of_spec k.1.1 rn i 1 rfl rfl hi (by omega) ?_
      rw [show J ((S.1).2.1 i 1) = J ((tff S q : Nat) : Int) from sf]
      refine ⟨fun c5 => ?_, fun c5 => ⟨by omega, ?_⟩⟩
      · rw [if_neg (fun z => c5 (bt.mpr z))] at ih2
        rw [b0]; exact ih2
      · rw [lv.2]
        refine m_find_spec k.1.1 g.w (by omega) ?_
        rw [ej']
        refine of_spec k.1.1 rn j 1 rfl rfl hj (by omega) ?_
        rw [show J ((S.1).2.1 j 1) = J ((ttt S q : Nat) : Int) from st]
        rw [if_pos (bt.mp c5)] at ih2
        rw [bo]; exact ih2
    · have e9 : q = (S.1.2.2).length := by omega
      rw [e9]
      simp (disch := omega) only [lJ0, lJ1, lJ2, lJ3, lJ4, lJ5, lJ6, lJ7, lJ8, lJ9, lJ10, lJ30, lJ32, lJ33, lJ39, lJ40, lJ41, lJ45, lJ47, lJ48, lJ51, lJ55, lJ57, lJ58, lJ59, lJ60, lJ64, lJ80, lJ82, lJ99, lJ100, lJ101, lJ123, lJ126, lJ282, lJ342, lJ1000, lJ1100, lJ2394, lJ2736, lJ9999, lJ10000, lJ1000000, lJ100000000, J_add, J_sub, J_mul, J_neg, J_le, J_lt, J_eq, J_in, J_clamp, Int.toNat_natCast, show (1 : Int).toNat = 1 from rfl, e0]
      exact ⟨by omega, fun _ => ih, fun z => absurd (Int.le_refl _) z⟩
