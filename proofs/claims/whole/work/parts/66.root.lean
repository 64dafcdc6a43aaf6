-- the roots of a trace, by their numbers
abbrev RQ (n : Nat) (w : View) (t : Int) (q : Nat) : Prop := nd n w t q ≠ -1 ∧ (40 ≤ nd n w t q ∨ ab n w (nd n w t q).toNat = -1)
theorem top_self {n : Nat} {w : View} (hw : WF n w) {i : Nat} (hi : i < n) (h : kd n w i ≠ 1) : top n w i = i := by
  rw [top_eq hw hi, if_pos]
  rw [tp_kd hw, if_neg h]
  omega
theorem RQ_iff {n : Nat} {w : View} (hw : WF n w) {t : Int} {q : Nat} : RQ n w t q ↔ ∃ i, i < n ∧ w i 1 = t ∧ kd n w i ≠ 1 ∧ rno n w i = q := by
  have rn := hw.n
  constructor
  · rintro ⟨h1, h2⟩
    by_cases c : (q : Int) < 1000
    · have h1' := h1
      unfold nd at h1 h2
      rw [if_pos c] at h1 h2
      by_cases c2 : fnd n w q = -1
      · rw [if_pos c2] at h1; exact absurd rfl h1
      rw [if_neg c2] at h1 h2
      by_cases c3 : w (fnd n w q).toNat 1 = t
      · rw [if_pos c3] at h2
        have y := fnd_some c2
        have a : ab n w (fnd n w q).toNat = -1 := by omega
        have hi : (fnd n w q).toNat < n := by omega
        have k1 : kd n w (fnd n w q).toNat ≠ 1 ∧ kd n w (fnd n w q).toNat ≠ 2 := by
          rcases ab_tp hw hi with ⟨a1, a2, a3⟩ | ⟨a1, a2, ⟨a3, a4⟩ | ⟨a3, a4⟩⟩ <;> omega
        refine ⟨(fnd n w q).toNat, hi, c3, k1.1, ?_⟩
        unfold rno
        rw [top_self hw hi k1.1, if_neg k1.2, y.2.2]
      · rw [if_neg c3] at h1; exact absurd rfl h1
    · obtain ⟨i, hi, e1, e2⟩ := (nd_ph hw (by omega)).mp h1
      have ri := hw.r i hi
      unfold nov at e1
      by_cases d : kd n w i = 1
      · rw [if_pos d] at e1; omega
      rw [if_neg d] at e1
      by_cases d2 : kd n w i = 2
      · rw [if_pos d2] at e1
        refine ⟨i, hi, e2, d, ?_⟩
        unfold rno
        rw [top_self hw hi d, if_pos d2]
        exact e1
      · rw [if_neg d2] at e1; omega
  · rintro ⟨i, hi, e1, e2, e3⟩
    have ri := hw.r i hi
    unfold rno at e3
    rw [top_self hw hi e2] at e3
    by_cases d2 : kd n w i = 2
    · rw [if_pos d2] at e3
      have k2 : w i 2 ≠ -1 := fun z => by unfold kd at d2; rw [if_pos z] at d2; omega
      have hk := (hl_inv n w n).2.2.2 i hi d2
      have := hfn_rg (hl n w n) (w i 1) (w i 2)
      have e : nd n w t q = 40 + hfn (hl n w n) (w i 1) (w i 2) := by
        unfold nd
        rw [if_neg (by omega), if_pos (by omega), ← e1, show (q : Int) - 1000 = w i 2 by omega, if_neg hk]
      unfold RQ
      rw [e]
      exact ⟨by omega, Or.inl (by omega)⟩
    · rw [if_neg d2] at e3
      have f := fnd_at hw hi
      rw [e3] at f
      have e : nd n w t q = i := by
        unfold nd
        rw [if_pos (by omega), f, if_neg (by omega), Int.toNat_natCast, if_pos e1]
      unfold RQ
      rw [e, Int.toNat_natCast]
      refine ⟨by omega, Or.inr ?_⟩
      rcases ab_tp hw hi with ⟨a1, a2, a3⟩ | ⟨a1, a2, ⟨a3, a4⟩ | ⟨a3, a4⟩⟩ <;> omega
theorem rno_rg {n : Nat} {w : View} (hw : WF n w) {i : Nat} (hi : i < n) : 0 ≤ rno n w i ∧ rno n w i < 1100 := by
  have t := (top_sp hw i hi).1
  have r := hw.r _ t
  unfold rno
  split
  · rename_i c
    have : w (top n w i) 2 ≠ -1 := fun z => by unfold kd at c; rw [if_pos z] at c; omega
    omega
  · omega
theorem RQ_lt {n : Nat} {w : View} (hw : WF n w) {t : Int} {q : Nat} (h : RQ n w t q) : q < 1100 := by
  obtain ⟨i, hi, -, -, e⟩ := (RQ_iff hw).mp h
  have := rno_rg hw hi
  omega
theorem RQ_cnt {n : Nat} {w : View} (hw : WF n w) (t : Int) : cnt (RQ n w t) 1100 ≤ n :=
  cnt_img (f := rno n w) n (RQ n w t) (fun q _ h => by obtain ⟨i, hi, -, -, e⟩ := (RQ_iff hw).mp h; exact ⟨i, hi, e⟩)
/-- the next root at or behind a number -/
def NxR (n : Nat) (w : View) (t : Int) (a : Nat) (r : Int) : Prop := (r = -1 ∧ ∀ q, a ≤ q → ¬ RQ n w t q) ∨ (∃ b : Nat, r = b ∧ a ≤ b ∧ RQ n w t b ∧ ∀ q, a ≤ q → q < b → ¬ RQ n w t q)
theorem c_nextRoot_spec {S : GS} {μ : Mem} (k : CK S μ) (g : GOK S) {t m : Int} (ht : (-2147483648 ≤ t ∧ t ≤ 2147483647)) (hm : -1 ≤ m ∧ m ≤ 2000) {P : Int32 → Mem → Prop} (h : ∀ r, NxR (S.1.1) (S.1.2.1) t (m + 1).toNat r → -1 ≤ r ∧ r < 1100 → P (J r) μ) : w2_nextRoot_wp μ (J t) (J m) P := by
  intro R hR
  have rn := g.1.n
  have s1 : SV μ 0 (S.1.1) (S.1.2.1) := k.1.1.1.1
  suffices H : ∀ l : Int, -1 ≤ l ∧ l < 1100 → ((l = -1 ∧ ∀ j, j < 0 → S.1.2.1 j 1 = t → kd (S.1.1) (S.1.2.1) j ≠ 1 → rno (S.1.1) (S.1.2.1) j ≤ m) ∨ ((∃ j, j < 0 ∧ S.1.2.1 j 1 = t ∧ kd (S.1.1) (S.1.2.1) j ≠ 1 ∧ rno (S.1.1) (S.1.2.1) j = l) ∧ m < l ∧ ∀ j, j < 0 → S.1.2.1 j 1 = t → kd (S.1.1) (S.1.2.1) j ≠ 1 → rno (S.1.1) (S.1.2.1) j ≤ m ∨ l ≤ rno (S.1.1) (S.1.2.1) j)) → R μ (J t) (J m) (J l) (J (0 : Nat)) from H (-1) (by omega) (Or.inl ⟨rfl, fun j hj => by omega⟩)
  refine down (Q := fun i => ∀ l : Int, -1 ≤ l ∧ l < 1100 → ((l = -1 ∧ ∀ j, j < i → S.1.2.1 j 1 = t → kd (S.1.1) (S.1.2.1) j ≠ 1 → rno (S.1.1) (S.1.2.1) j ≤ m) ∨ ((∃ j, j < i ∧ S.1.2.1 j 1 = t ∧ kd (S.1.1) (S.1.2.1) j ≠ 1 ∧ rno (S.1.1) (S.1.2.1) j = l) ∧ m < l ∧ ∀ j, j < i → S.1.2.1 j 1 = t → kd (S.1.1) (S.1.2.1) j ≠ 1 → rno (S.1.1) (S.1.2.1) j ≤ m ∨ l ≤ rno (S.1.1) (S.1.2.1) j)) → R μ (J t) (J m) (J l) (J i)) (S.1.1) (fun i hi ih l hl inv => ?_)
  apply hR
  unfold w2_nextRoot_b5_body
  rcases Nat.lt_or_ge i (S.1.1) with c | c
  · have ih := ih c
    have ri := g.w.r i c
    have rk := kd_rg (S.1.1) (S.1.2.1) i
    have rr := rno_rg g.w c
    have e := (k.2.2.2.1 i c).1
    have skip : (S.1.2.1 i 1 = t → kd (S.1.1) (S.1.2.1) i ≠ 1 → rno (S.1.1) (S.1.2.1) i ≤ m ∨ (l ≠ -1 ∧ l ≤ rno (S.1.1) (S.1.2.1) i)) → R μ (J t) (J m) (J l) (J ((i : Int) + 1)) := fun z => by
      refine ih l hl ?_
      rcases inv with ⟨a1, a2⟩ | ⟨⟨j0, b1, b2, b3, b4⟩, a2, a3⟩
      · refine Or.inl ⟨a1, fun j hj h1 h2 => ?_⟩
        by_cases y : j = i
        · subst y
          have := z h1 h2
          omega
        · exact a2 j (by omega) h1 h2
      · refine Or.inr ⟨⟨j0, by omega, b2, b3, b4⟩, a2, fun j hj h1 h2 => ?_⟩
        by_cases y : j = i
        · subst y
          have := z h1 h2
          omega
        · exact a3 j (by omega) h1 h2
    have take : S.1.2.1 i 1 = t → kd (S.1.1) (S.1.2.1) i ≠ 1 → m < rno (S.1.1) (S.1.2.1) i → (l = -1 ∨ rno (S.1.1) (S.1.2.1) i < l) → R μ (J t) (J m) (J (rno (S.1.1) (S.1.2.1) i)) (J ((i : Int) + 1)) := fun z1 z2 z3 z4 => by
      refine ih _ (by omega) (Or.inr ⟨⟨i, by omega, z1, z2, rfl⟩, z3, fun j hj h1 h2 => ?_⟩)
      by_cases y : j = i
      · subst y; exact Or.inr (Int.le_refl _)
      · rcases inv with ⟨a1, a2⟩ | ⟨-, a2, a3⟩
        · exact Or.inl (a2 j (by omega) h1 h2)
        · have := a3 j (by omega) h1 h2
          omega
    simp (disch := omega) only [lJ0, lJ1, lJ2, lJ3, lJ4, lJ5, lJ6, lJ7, lJ8, lJ9, lJ10, lJ30, lJ32, lJ33, lJ39, lJ40, lJ41, lJ45, lJ47, lJ48, lJ51, lJ55, lJ57, lJ58, lJ59, lJ60, lJ64, lJ80, lJ82, lJ99, lJ100, lJ101, lJ123, lJ126, lJ282, lJ342, lJ1000, lJ1100, lJ2394, lJ2736, lJ9999, lJ10000, lJ1000000, lJ100000000, J_add, J_sub, J_mul, J_neg, J_le, J_lt, J_eq, J_in, J_clamp, Int.toNat_natCast, s1.1, s1.i0, s1.i1, s1.i2, s1.i3, s1.i4, s1.i5, s1.i6, e]
    refine ⟨fun _ => by omega, fun _ => ⟨by omega, fun c2 => skip (fun z => absurd z c2), fun c2 => ⟨by omega, fun c3 => skip (fun _ z => absurd c3 z), fun c3 => ?_⟩⟩⟩
    refine c_rootNumber_spec k g c rfl ?_
    simp (disch := omega) only [lJ0, lJ1, lJ2, lJ3, lJ4, lJ5, lJ6, lJ7, lJ8, lJ9, lJ10, lJ30, lJ32, lJ33, lJ39, lJ40, lJ41, lJ45, lJ47, lJ48, lJ51, lJ55, lJ57, lJ58, lJ59, lJ60, lJ64, lJ80, lJ82, lJ99, lJ100, lJ101, lJ123, lJ126, lJ282, lJ342, lJ1000, lJ1100, lJ2394, lJ2736, lJ9999, lJ10000, lJ1000000, lJ100000000, J_add, J_sub, J_mul, J_neg, J_le, J_lt, J_eq, J_in, J_clamp, Int.toNat_natCast]
    refine ⟨fun c4 => skip (fun _ _ => Or.inl c4), fun c4 => ⟨fun c5 => take c2 c3 (by omega) (Or.inl c5), fun c5 => ⟨fun c6 => skip (fun _ _ => Or.inr ⟨c5, c6⟩), fun c6 => take c2 c3 (by omega) (Or.inr (by omega))⟩⟩⟩
  · have e9 : i = S.1.1 := by omega
    subst e9
    simp (disch := omega) only [lJ0, lJ1, lJ2, lJ3, lJ4, lJ5, lJ6, lJ7, lJ8, lJ9, lJ10, lJ30, lJ32, lJ33, lJ39, lJ40, lJ41, lJ45, lJ47, lJ48, lJ51, lJ55, lJ57, lJ58, lJ59, lJ60, lJ64, lJ80, lJ82, lJ99, lJ100, lJ101, lJ123, lJ126, lJ282, lJ342, lJ1000, lJ1100, lJ2394, lJ2736, lJ9999, lJ10000, lJ1000000, lJ100000000, J_add, J_sub, J_mul, J_neg, J_le, J_lt, J_eq, J_in, J_clamp, Int.toNat_natCast, s1.1, s1.i0, s1.i1, s1.i2, s1.i3, s1.i4, s1.i5, s1.i6]
    refine ⟨fun _ => h l ?_ hl, fun c => absurd (Int.le_refl _) c⟩
    rcases inv with ⟨a1, a2⟩ | ⟨⟨j0, b1, b2, b3, b4⟩, a2, a3⟩
    · refine Or.inl ⟨a1, fun q hq z => ?_⟩
      obtain ⟨j, hj, z1, z2, z3⟩ := (RQ_iff g.w).mp z
      have := a2 j hj z1 z2
      omega
    · refine Or.inr ⟨l.toNat, by omega, by omega, (RQ_iff g.w).mpr ⟨j0, b1, b2, b3, by omega⟩, fun q hq hq2 z => ?_⟩
      obtain ⟨j, hj, z1, z2, z3⟩ := (RQ_iff g.w).mp z
      have := a3 j hj z1 z2
      omega
def op_roots (S : GS) (t f : Int) : OpR Int := if 0 ≤ t ∧ t < 4 then ok S (cnt (fun q => RQ (S.1.1) (S.1.2.1) t q ∧ (1000 ≤ q ↔ f ≠ 0)) 1100) else thw S xIO 1
def op_rootAt (S : GS) (t k : Int) : OpR Int := if 0 ≤ t ∧ t < 4 then (if nthq (RQ (S.1.1) (S.1.2.1) t) 1100 k 0 = -1 then thw S xNE 2 else ok S (nthq (RQ (S.1.1) (S.1.2.1) t) 1100 k 0)) else thw S xIO 1
theorem c_countRoots_spec {S : GS} {μ : Mem} (k : CK S μ) (g : GOK S) {t f : Int} (ht : (-2147483648 ≤ t ∧ t ≤ 2147483647)) (hf : 0 ≤ f ∧ f ≤ 1) {P : Int32 → Mem → Prop} (h : P (J (cnt (fun q => RQ (S.1.1) (S.1.2.1) t q ∧ (1000 ≤ q ↔ f ≠ 0)) 1100)) μ) : w2_countRoots_wp μ (J t) (J f) P := by
  have rn := g.1.n
  have tot := RQ_cnt g.w t
  unfold w2_countRoots_wp
  refine c_nextRoot_spec k g ht (m := -1) (by omega) (fun r0 n0 r0r => ?_)
  intro R hR
  have H : ∀ (d a : Nat) (r : Int), a + d = 1100 → NxR (S.1.1) (S.1.2.1) t a r → -1 ≤ r ∧ r < 1100 → R μ (J t) (J f) (J (cnt (fun q => RQ (S.1.1) (S.1.2.1) t q ∧ (1000 ≤ q ↔ f ≠ 0)) a)) (J r) (J (cnt (RQ (S.1.1) (S.1.2.1) t) a)) := by
    intro d
    induction d using Nat.strongRecOn with
    | ind d ih =>
      intro a r had nx rr
      apply hR
      unfold w2_countRoots_b13_body
      have c1 := cnt_le (p := fun q => RQ (S.1.1) (S.1.2.1) t q ∧ (1000 ≤ q ↔ f ≠ 0)) (n := a)
      have c2 := cnt_le (p := RQ (S.1.1) (S.1.2.1) t) (n := a)
      have mo := cnt_mono (p := RQ (S.1.1) (S.1.2.1) t) (a := a) d
      rw [had] at mo
      rcases nx with ⟨e1, e2⟩ | ⟨b, e1, e2, e3, e4⟩
      · have j1 := cnt_jump (p := fun q => RQ (S.1.1) (S.1.2.1) t q ∧ (1000 ≤ q ↔ f ≠ 0)) (a := a) 1100 (by omega) (fun q h1 _ z => e2 q h1 z.1)
        rw [j1] at h
        subst e1
        simp (disch := omega) only [lJ0, lJ1, lJ2, lJ3, lJ4, lJ5, lJ6, lJ7, lJ8, lJ9, lJ10, lJ30, lJ32, lJ33, lJ39, lJ40, lJ41, lJ45, lJ47, lJ48, lJ51, lJ55, lJ57, lJ58, lJ59, lJ60, lJ64, lJ80, lJ82, lJ99, lJ100, lJ101, lJ123, lJ126, lJ282, lJ342, lJ1000, lJ1100, lJ2394, lJ2736, lJ9999, lJ10000, lJ1000000, lJ100000000, J_add, J_sub, J_mul, J_neg, J_le, J_lt, J_eq, J_in, J_clamp, Int.toNat_natCast]
        refine ⟨fun _ => h, fun _ => ⟨fun _ => h, fun c => absurd trivial c⟩⟩
      · have hb := RQ_lt g.w e3
        have j1 := cnt_jump (p := fun q => RQ (S.1.1) (S.1.2.1) t q ∧ (1000 ≤ q ↔ f ≠ 0)) (a := a) b e2 (fun q h1 h2 z => e4 q h1 h2 z.1)
        have j2 := cnt_jump (p := RQ (S.1.1) (S.1.2.1) t) (a := a) b e2 (fun q h1 h2 z => e4 q h1 h2 z)
        have mo2 := cnt_mono (p := RQ (S.1.1) (S.1.2.1) t) (a := b + 1) (1100 - (b + 1))
        rw [show b + 1 + (1100 - (b + 1)) = 1100 by omega, cnt_succ, if_pos e3, j2] at mo2
        subst e1
        have nxt : ∀ c : Int, c = cnt (fun q => RQ (S.1.1) (S.1.2.1) t q ∧ (1000 ≤ q ↔ f ≠ 0)) (b + 1) → w2_nextRoot_wp μ (J t) (J b) (fun r4 μ3 => R μ3 (J t) (J f) (J c) r4 (J (cnt (RQ (S.1.1) (S.1.2.1) t) a + 1))) := by
          intro c hcc
          refine c_nextRoot_spec k g ht (m := b) (by omega) (fun r n1 rr1 => ?_)
          have := ih (1100 - (b + 1)) (by omega) (b + 1) r (by omega) (by rw [show ((b : Int) + 1).toNat = b + 1 by omega] at n1; exact n1) rr1
          rw [show cnt (RQ (S.1.1) (S.1.2.1) t) (b + 1) = cnt (RQ (S.1.1) (S.1.2.1) t) a + 1 by rw [cnt_succ, if_pos e3, j2], ← hcc] at this
          exact this
        have key : ∀ s0 : Int, (s0 = if 1000 ≤ b then 1 else 0) → w2_countRoots_b39 P R μ (J t) (J f) (J (cnt (fun q => RQ (S.1.1) (S.1.2.1) t q ∧ (1000 ≤ q ↔ f ≠ 0)) a)) (J b) (J (cnt (RQ (S.1.1) (S.1.2.1) t) a)) (J s0) := by
          intro s0 hs
          unfold w2_countRoots_b39
          have r0 : s0 = 0 ∨ s0 = 1 := by rw [hs]; split <;> simp
          have iff1 : s0 = f ↔ (1000 ≤ b ↔ f ≠ 0) := by
            by_cases z : 1000 ≤ b
            · rw [if_pos z] at hs; omega
            · rw [if_neg z] at hs; omega
          simp (disch := omega) only [lJ0, lJ1, lJ2, lJ3, lJ4, lJ5, lJ6, lJ7, lJ8, lJ9, lJ10, lJ30, lJ32, lJ33, lJ39, lJ40, lJ41, lJ45, lJ47, lJ48, lJ51, lJ55, lJ57, lJ58, lJ59, lJ60, lJ64, lJ80, lJ82, lJ99, lJ100, lJ101, lJ123, lJ126, lJ282, lJ342, lJ1000, lJ1100, lJ2394, lJ2736, lJ9999, lJ10000, lJ1000000, lJ100000000, J_add, J_sub, J_mul, J_neg, J_le, J_lt, J_eq, J_in, J_clamp, Int.toNat_natCast]
          refine ⟨fun c => ?_, fun c => ?_⟩
          · have := nxt _ (show cnt (fun q => RQ (S.1.1) (S.1.2.1) t q ∧ (1000 ≤ q ↔ f ≠ 0)) a = _ by rw [cnt_succ, if_neg (fun z => c (iff1.mpr z.2)), j1])
            exact this
          · have := nxt _ (show cnt (fun q => RQ (S.1.1) (S.1.2.1) t q ∧ (1000 ≤ q ↔ f ≠ 0)) a + 1 = _ by rw [cnt_succ, if_pos ⟨e3, iff1.mp c⟩, j1])
            exact this
        simp (disch := omega) only [lJ0, lJ1, lJ2, lJ3, lJ4, lJ5, lJ6, lJ7, lJ8, lJ9, lJ10, lJ30, lJ32, lJ33, lJ39, lJ40, lJ41, lJ45, lJ47, lJ48, lJ51, lJ55, lJ57, lJ58, lJ59, lJ60, lJ64, lJ80, lJ82, lJ99, lJ100, lJ101, lJ123, lJ126, lJ282, lJ342, lJ1000, lJ1100, lJ2394, lJ2736, lJ9999, lJ10000, lJ1000000, lJ100000000, J_add, J_sub, J_mul, J_neg, J_le, J_lt, J_eq, J_in, J_clamp, Int.toNat_natCast]
        refine ⟨fun c => by omega, fun _ => ⟨fun c => by omega, fun _ => ⟨fun c => key 0 (by rw [if_neg (by omega)]), fun c => key 1 (by rw [if_pos (by omega)])⟩⟩⟩
  exact H 1100 0 r0 (by omega) n0 r0r
theorem c_roots {S : GS} {μ : Mem} (hc : CI S μ) (g : GOK S) {t f : Int} (ht : (-2147483648 ≤ t ∧ t ≤ 2147483647)) (hf : 0 ≤ f ∧ f ≤ 1) {P : Int32 → Mem → Prop} {X : String → Mem → Prop} (h : CRes J (op_roots S t f) μ P X) : w8_roots_wp μ (J t) (J f) P X := by
  unfold op_roots at h
  unfold w8_roots_wp
  refine checkTrace_spec ht (fun c => ?_) (fun c => by rw [if_neg c] at h; exact h μ FrC.rf hc)
  rw [if_pos c] at h
  refine workOut_spec2 hc g (fun μ' fr k => ?_)
  exact c_countRoots_spec k g ht hf (h μ' fr k.1)
theorem nthq_step {p : Nat → Prop} [DecidablePred p] {d : Nat} {k : Int} {q : Nat} : nthq p (d + 1) k q = if p q then (if k = 0 then (q : Int) else nthq p d (k - 1) (q + 1)) else nthq p d k (q + 1) := rfl
theorem c_rootAt {S : GS} {μ : Mem} (hc : CI S μ) (g : GOK S) {t k : Int} (ht : (-2147483648 ≤ t ∧ t ≤ 2147483647)) (hk : (-2147483648 ≤ k ∧ k ≤ 2147483647)) {P : Int32 → Mem → Prop} {X : String → Mem → Prop} (h : CRes J (op_rootAt S t k) μ P X) : w8_rootAt_wp μ (J t) (J k) P X := by
  unfold op_rootAt at h
  unfold w8_rootAt_wp
  have rn := g.1.n
  have tot := RQ_cnt g.w t
  refine checkTrace_spec ht (fun c => ?_) (fun c => by rw [if_neg c] at h; exact h μ FrC.rf hc)
  rw [if_pos c] at h
  refine workOut_spec2 hc g (fun μ' fr ck => ?_)
  generalize hE : nthq (RQ (S.1.1) (S.1.2.1) t) 1100 k 0 = E at h
  have fin : ∀ r : Int, r = E → -1 ≤ r ∧ r < 1100 → (¬ J r = (-1 : Int32) → P (J r) μ') ∧ (J r = (-1 : Int32) → X xNE μ') := by
    intro r hr rr
    rw [← hr] at h
    simp (disch := omega) only [lJ0, lJ1, lJ2, lJ3, lJ4, lJ5, lJ6, lJ7, lJ8, lJ9, lJ10, lJ30, lJ32, lJ33, lJ39, lJ40, lJ41, lJ45, lJ47, lJ48, lJ51, lJ55, lJ57, lJ58, lJ59, lJ60, lJ64, lJ80, lJ82, lJ99, lJ100, lJ101, lJ123, lJ126, lJ282, lJ342, lJ1000, lJ1100, lJ2394, lJ2736, lJ9999, lJ10000, lJ1000000, lJ100000000, J_add, J_sub, J_mul, J_neg, J_le, J_lt, J_eq, J_in, J_clamp, Int.toNat_natCast]
    exact ⟨fun c2 => by rw [if_neg c2] at h; exact h μ' fr ck.1, fun c2 => by rw [if_pos c2] at h; exact h μ' fr ck.1⟩
  unfold w2_nthRoot_wp
  refine isWithin_spec k 40 rfl rfl hk (by decide) (fun ci => ⟨fun _ => ?_, fun c => absurd c (by decide)⟩) (fun ci => ⟨fun c => absurd rfl c, fun _ => ?_⟩)
  · refine c_nextRoot_spec ck g ht (m := -1) (by omega) (fun r0 n0 r0r => ?_)
    intro R hR
    have H : ∀ (d a : Nat) (s : Nat) (r : Int), a + d = 1100 → (s : Int) ≤ k → NxR (S.1.1) (S.1.2.1) t a r → -1 ≤ r ∧ r < 1100 → nthq (RQ (S.1.1) (S.1.2.1) t) d (k - s) a = E → R μ' (J t) (J k) (J r) (J s) := by
      intro d
      induction d using Nat.strongRecOn with
      | ind d ih =>
        intro a s r had hs nx rr hq
        apply hR
        unfold w2_nthRoot_b21_body
        rcases nx with ⟨e1, e2⟩ | ⟨b, e1, e2, e3, e4⟩
        · have := fin r (by rw [← hq, nthq_all (fun q h1 _ => e2 q h1), e1]) rr
          subst e1
          simp (disch := omega) only [lJ0, lJ1, lJ2, lJ3, lJ4, lJ5, lJ6, lJ7, lJ8, lJ9, lJ10, lJ30, lJ32, lJ33, lJ39, lJ40, lJ41, lJ45, lJ47, lJ48, lJ51, lJ55, lJ57, lJ58, lJ59, lJ60, lJ64, lJ80, lJ82, lJ99, lJ100, lJ101, lJ123, lJ126, lJ282, lJ342, lJ1000, lJ1100, lJ2394, lJ2736, lJ9999, lJ10000, lJ1000000, lJ100000000, J_add, J_sub, J_mul, J_neg, J_le, J_lt, J_eq, J_in, J_clamp, Int.toNat_natCast] at this ⊢
          exact ⟨fun _ => this, fun _ => ⟨fun _ => this, fun c => absurd trivial c⟩⟩
        · have hb := RQ_lt g.w e3
          have sk := nthq_skip (p := RQ (S.1.1) (S.1.2.1) t) (k := k - s) (a := a) (b - a) (1100 - b) (fun q h1 h2 => e4 q h1 (by omega))
          rw [show b - a + (1100 - b) = d by omega, show a + (b - a) = b by omega, hq, show 1100 - b = (1100 - (b + 1)) + 1 by omega] at sk
          rw [nthq_step, if_pos e3] at sk
          subst e1
          simp (disch := omega) only [lJ0, lJ1, lJ2, lJ3, lJ4, lJ5, lJ6, lJ7, lJ8, lJ9, lJ10, lJ30, lJ32, lJ33, lJ39, lJ40, lJ41, lJ45, lJ47, lJ48, lJ51, lJ55, lJ57, lJ58, lJ59, lJ60, lJ64, lJ80, lJ82, lJ99, lJ100, lJ101, lJ123, lJ126, lJ282, lJ342, lJ1000, lJ1100, lJ2394, lJ2736, lJ9999, lJ10000, lJ1000000, lJ100000000, J_add, J_sub, J_mul, J_neg, J_le, J_lt, J_eq, J_in, J_clamp, Int.toNat_natCast]
          refine ⟨fun cs => ?_, fun cs => ⟨fun z => by omega, fun _ => ?_⟩⟩
          · rw [if_pos (by omega)] at sk
            have := fin b sk.symm rr
            simp (disch := omega) only [lJ0, lJ1, lJ2, lJ3, lJ4, lJ5, lJ6, lJ7, lJ8, lJ9, lJ10, lJ30, lJ32, lJ33, lJ39, lJ40, lJ41, lJ45, lJ47, lJ48, lJ51, lJ55, lJ57, lJ58, lJ59, lJ60, lJ64, lJ80, lJ82, lJ99, lJ100, lJ101, lJ123, lJ126, lJ282, lJ342, lJ1000, lJ1100, lJ2394, lJ2736, lJ9999, lJ10000, lJ1000000, lJ100000000, J_add, J_sub, J_mul, J_neg, J_le, J_lt, J_eq, J_in, J_clamp, Int.toNat_natCast] at this
            exact this
          · rw [if_neg (by omega)] at sk
            refine c_nextRoot_spec ck g ht (m := b) (by omega) (fun r n1 rr1 => ?_)
            rw [show ((b : Int) + 1).toNat = b + 1 by omega] at n1
            exact ih (1100 - (b + 1)) (by omega) (b + 1) (s + 1) r (by omega) (by omega) n1 rr1 (by rw [sk]; congr 1; omega)
    exact H 1100 0 0 r0 (by omega) (by omega) n0 r0r (by rw [← hE]; congr 1; omega)
  · refine fin (-1) ?_ (by omega)
    rw [← hE]
    rcases Int.lt_or_le k 0 with y | y
    · rw [nthq_neg _ _ _ y]
    · rw [nthq_big]
      rw [Nat.zero_add]
      have : cnt (RQ (S.1.1) (S.1.2.1) t) 0 = 0 := rfl
      omega
