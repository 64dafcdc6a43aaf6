-- needs: 20 21 22 23 24 25 26 30 31 32 33 34 35
def rl (z : Int) : Int := if z = -1000000 then -100000000 else z
/-- the reference's count of values; -1 stands for all -/
def fre (n : Nat) (w : View) (s : Nat) : Int := if chc n w s = 0 then -1 else chc n w s
def MClk (μ : Mem) (n : Nat) (w : View) : Prop := (∀ i, i < n → μ 3904 0 i = J (ps n w i)) ∧ (∀ s, s < 8 → μ 3776 0 s = J (off n w s)) ∧ ∀ s, s < 8 → μ 3840 0 s = J (fre n w s)
theorem m_chooses_spec {μ : Mem} {E : Mx} (k : Ck E) (hm : RM (μ 3648 0) E) {P : Mem → Prop} (h : ∀ μ', Bt [3776, 3840] μ μ' → (∀ s, s < 8 → μ' 3776 0 s = J (ofF E 8 s)) → (∀ s, s < 8 → μ' 3840 0 s = J (if hgF E (ofF E s) s s = 1000000 then -1 else hgF E (ofF E s) s s - lwF E (ofF E s) s s + 1)) → P μ') : w9_chooses_wp μ P := by
  intro R hR
  suffices H : ∀ μ', Bt [3776, 3840] μ μ' → (∀ s, s < 0 → μ' 3776 0 s = J (ofF E 0 s)) → (∀ s, s < 0 → μ' 3840 0 s = J (if hgF E (ofF E s) s s = 1000000 then -1 else hgF E (ofF E s) s s - lwF E (ofF E s) s s + 1)) → R μ' (J (0 : Nat)) from H μ Bt.rf (fun s hs => absurd hs (by omega)) (fun s hs => absurd hs (by omega))
  refine down (Q := fun s => ∀ μ', Bt [3776, 3840] μ μ' → (∀ c, c < s → μ' 3776 0 c = J (ofF E s c)) → (∀ s', s' < s → μ' 3840 0 s' = J (if hgF E (ofF E s') s' s' = 1000000 then -1 else hgF E (ofF E s') s' s' - lwF E (ofF E s') s' s' + 1)) → R μ' (J s)) 8 (fun s hs8 ih μ' b ho hf => ?_)
  apply hR
  unfold w9_chooses_b2_body
  rcases Nat.lt_or_ge s 8 with hs | hs
  rotate_left
  · obtain rfl : s = 8 := by omega
    simp (disch := omega) only [lJ0, lJ1, lJ2, lJ3, lJ4, lJ5, lJ6, lJ7, lJ8, lJ9, lJ10, lJ30, lJ32, lJ33, lJ39, lJ40, lJ41, lJ45, lJ47, lJ48, lJ51, lJ55, lJ57, lJ58, lJ59, lJ60, lJ64, lJ80, lJ82, lJ99, lJ100, lJ101, lJ123, lJ126, lJ282, lJ342, lJ1000, lJ1100, lJ2394, lJ2736, lJ9999, lJ10000, lJ1000000, lJ100000000, J_add, J_sub, J_mul, J_neg, J_le, J_lt, J_eq, J_in, J_clamp, Int.toNat_natCast]
    exact ⟨fun _ => h μ' b ho hf, fun c => absurd (by omega) c⟩
  have ih := ih hs
  simp (disch := omega) only [lJ0, lJ1, lJ2, lJ3, lJ4, lJ5, lJ6, lJ7, lJ8, lJ9, lJ10, lJ30, lJ32, lJ33, lJ39, lJ40, lJ41, lJ45, lJ47, lJ48, lJ51, lJ55, lJ57, lJ58, lJ59, lJ60, lJ64, lJ80, lJ82, lJ99, lJ100, lJ101, lJ123, lJ126, lJ282, lJ342, lJ1000, lJ1100, lJ2394, lJ2736, lJ9999, lJ10000, lJ1000000, lJ100000000, J_add, J_sub, J_mul, J_neg, J_le, J_lt, J_eq, J_in, J_clamp, Int.toNat_natCast]
  refine ⟨fun _ => by omega, fun _ => ?_⟩
  have inv := ofF_Oi k s (by omega)
  have z := lh2 k hs inv
  have hm' : RM (μ' 3648 0) E := by rw [b 3648 (by decide)]; exact hm
  have nv : ofF E (s + 1) s = if hgF E (ofF E s) s s = 1000000 then 0 else (lwF E (ofF E s) s s + hgF E (ofF E s) s s) / 2 := by
    show (if s = s then _ else _) = _
    rw [if_pos rfl]
    rfl
  -- the end of a turn
  have fin : ∀ μ2, Bt [3776, 3840] μ' μ2 → (∀ c, μ2 3776 0 c = if c = s then J (ofF E (s + 1) s) else μ' 3776 0 c) → (∀ c, μ2 3840 0 c = if c = s then J (if hgF E (ofF E s) s s = 1000000 then -1 else hgF E (ofF E s) s s - lwF E (ofF E s) s s + 1) else μ' 3840 0 c) → R μ2 (J ((s : Int) + 1)) := fun μ2 b2 v1 v2 => by
    refine ih μ2 (b.tr b2) (fun c hc => ?_) (fun c hc => ?_)
    · rw [v1]
      by_cases y : c = s
      · rw [if_pos y, y]
      · rw [if_neg y, ho c (by omega)]
        congr 1
        exact (ofF_ne (E := E) (show c < s by omega) 1).symm
    · rw [v2]
      by_cases y : c = s
      · rw [if_pos y, y]
      · rw [if_neg y]; exact hf c (by omega)
  intro R2 hR2
  have l0 : J (-100000000) = J (rl (lwF E (ofF E s) s 0)) := rfl
  have h0 : J 100000000 = J (rb (hgF E (ofF E s) s 0)) := rfl
  rw [l0, h0]
  refine down (Q := fun m => R2 μ' (J s) (J (rl (lwF E (ofF E s) s m))) (J (rb (hgF E (ofF E s) s m))) (J m)) s (fun m hm2 ih2 => ?_)
  apply hR2
  unfold w9_chooses_b17_body
  have zm := z.1 m (by omega)
  have rl1 : (-100000000 ≤ rl (lwF E (ofF E s) s m) ∧ rl (lwF E (ofF E s) s m) ≤ 900000) ∧ (rl (lwF E (ofF E s) s m) = -100000000 ↔ lwF E (ofF E s) s m = -1000000) := by
    unfold rl
    split <;> omega
  have rb1 : (-900000 ≤ rb (hgF E (ofF E s) s m) ∧ rb (hgF E (ofF E s) s m) ≤ 100000000) ∧ (rb (hgF E (ofF E s) s m) = 100000000 ↔ hgF E (ofF E s) s m = 1000000) := by
    unfold rb
    split <;> omega
  rcases Nat.lt_or_ge m s with c | c
  · have ih2 := ih2 c
    have l1 : lwF E (ofF E s) s (m + 1) = if E s m = 1000000 ∨ E m s = 1000000 then lwF E (ofF E s) s m else if lwF E (ofF E s) s m < ofF E s m - E m s then ofF E s m - E m s else lwF E (ofF E s) s m := rfl
    have h1 : hgF E (ofF E s) s (m + 1) = if E s m = 1000000 ∨ E m s = 1000000 then hgF E (ofF E s) s m else if ofF E s m + E s m < hgF E (ofF E s) s m then ofF E s m + E s m else hgF E (ofF E s) s m := rfl
    have i1 : (8 * (m : Int) + s).toNat = 8 * m + s := by omega
    have i2 : (8 * (s : Int) + m).toNat = 8 * s + m := by omega
    have e1 := hm' s m hs (by omega)
    have e2 := hm' m s (by omega) hs
    have e3 := ho m c
    have r1 := k.1.2.2 s m hs (by omega)
    have r2 := k.1.2.2 m s (by omega) hs
    have r3 := inv.1 m c
    have q1 := rb_lt (e := E s m) (by omega)
    have q2 := rb_lt (e := E m s) (by omega)
    simp (disch := omega) only [lJ0, lJ1, lJ2, lJ3, lJ4, lJ5, lJ6, lJ7, lJ8, lJ9, lJ10, lJ30, lJ32, lJ33, lJ39, lJ40, lJ41, lJ45, lJ47, lJ48, lJ51, lJ55, lJ57, lJ58, lJ59, lJ60, lJ64, lJ80, lJ82, lJ99, lJ100, lJ101, lJ123, lJ126, lJ282, lJ342, lJ1000, lJ1100, lJ2394, lJ2736, lJ9999, lJ10000, lJ1000000, lJ100000000, J_add, J_sub, J_mul, J_neg, J_le, J_lt, J_eq, J_in, J_clamp, Int.toNat_natCast, i1, e1]
    by_cases y : E s m = 1000000
    · have y2 : E m s = 1000000 := by
        by_cases y2 : E m s = 1000000
        · exact y2
        · exact absurd y (sym k (show m < 8 by omega) hs y2)
      rw [l1, h1, if_pos (Or.inl y), if_pos (Or.inl y)] at ih2
      refine ⟨fun _ => by omega, fun _ => ⟨by omega, fun _ => ?_, fun c => absurd (q1.2.1.mpr y) c⟩⟩
      unfold w9_chooses_b85
      simp (disch := omega) only [lJ0, lJ1, lJ2, lJ3, lJ4, lJ5, lJ6, lJ7, lJ8, lJ9, lJ10, lJ30, lJ32, lJ33, lJ39, lJ40, lJ41, lJ45, lJ47, lJ48, lJ51, lJ55, lJ57, lJ58, lJ59, lJ60, lJ64, lJ80, lJ82, lJ99, lJ100, lJ101, lJ123, lJ126, lJ282, lJ342, lJ1000, lJ1100, lJ2394, lJ2736, lJ9999, lJ10000, lJ1000000, lJ100000000, J_add, J_sub, J_mul, J_neg, J_le, J_lt, J_eq, J_in, J_clamp, Int.toNat_natCast, i2, e2]
      exact ⟨by omega, fun _ => ih2, fun c => absurd (q2.2.1.mpr y2) c⟩
    · have y2 := sym k hs (show m < 8 by omega) y
      have cc : ¬ (E s m = 1000000 ∨ E m s = 1000000) := by omega
      rw [l1, h1, if_neg cc, if_neg cc] at ih2
      have w1 := q1.2.2 y
      have w2 := q2.2.2 y2
      have n1 : ¬ 100000000 ≤ rb (E s m) := fun z => y (q1.2.1.mp z)
      have n2 : ¬ 100000000 ≤ rb (E m s) := fun z => y2 (q2.2.1.mp z)
      -- what is behind the second half
      have b85 : ∀ hh : Int, R2 μ' (J s) (J (rl (if lwF E (ofF E s) s m < ofF E s m - E m s then ofF E s m - E m s else lwF E (ofF E s) s m))) (J hh) (J ((m : Int) + 1)) → w9_chooses_b85 (P := P) (R2 := R) (R17 := R2) μ' (J s) (J (rl (lwF E (ofF E s) s m))) (J hh) (J m) := fun hh r => by
        unfold w9_chooses_b85
        simp (disch := omega) only [lJ0, lJ1, lJ2, lJ3, lJ4, lJ5, lJ6, lJ7, lJ8, lJ9, lJ10, lJ30, lJ32, lJ33, lJ39, lJ40, lJ41, lJ45, lJ47, lJ48, lJ51, lJ55, lJ57, lJ58, lJ59, lJ60, lJ64, lJ80, lJ82, lJ99, lJ100, lJ101, lJ123, lJ126, lJ282, lJ342, lJ1000, lJ1100, lJ2394, lJ2736, lJ9999, lJ10000, lJ1000000, lJ100000000, J_add, J_sub, J_mul, J_neg, J_le, J_lt, J_eq, J_in, J_clamp, Int.toNat_natCast, i2, e2, e3, w2]
        refine ⟨by omega, fun c => by omega, fun _ => ⟨by omega, by omega, fun c2 => ?_, fun c2 => ⟨by omega, by omega, ?_⟩⟩⟩
        · have : ¬ lwF E (ofF E s) s m < ofF E s m - E m s := by
            unfold rl at c2
            split at c2 <;> omega
          rw [if_neg this] at r
          exact r
        · have : lwF E (ofF E s) s m < ofF E s m - E m s := by
            unfold rl at c2
            split at c2 <;> omega
          rw [if_pos this, show rl (ofF E s m - E m s) = ofF E s m - E m s by unfold rl; rw [if_neg (by omega)]] at r
          exact r
      simp (disch := omega) only [e3, w1, lJ0, lJ1, lJ2, lJ3, lJ4, lJ5, lJ6, lJ7, lJ8, lJ9, lJ10, lJ30, lJ32, lJ33, lJ39, lJ40, lJ41, lJ45, lJ47, lJ48, lJ51, lJ55, lJ57, lJ58, lJ59, lJ60, lJ64, lJ80, lJ82, lJ99, lJ100, lJ101, lJ123, lJ126, lJ282, lJ342, lJ1000, lJ1100, lJ2394, lJ2736, lJ9999, lJ10000, lJ1000000, lJ100000000, J_add, J_sub, J_mul, J_neg, J_le, J_lt, J_eq, J_in, J_clamp, Int.toNat_natCast]
      refine ⟨fun _ => by omega, fun _ => ⟨by omega, fun c => by omega, fun _ => ⟨by omega, by omega, fun c2 => ?_, fun c2 => ⟨by omega, by omega, ?_⟩⟩⟩⟩
      · have : ¬ ofF E s m + E s m < hgF E (ofF E s) s m := by
          unfold rb at c2
          split at c2 <;> omega
        rw [if_neg this] at ih2
        exact b85 _ ih2
      · have : ofF E s m + E s m < hgF E (ofF E s) s m := by
          unfold rb at c2
          split at c2 <;> omega
        rw [if_pos this, show rb (ofF E s m + E s m) = ofF E s m + E s m by unfold rb; rw [if_neg (by omega)]] at ih2
        exact b85 _ ih2
  · obtain rfl : m = s := by omega
    simp (disch := omega) only [lJ0, lJ1, lJ2, lJ3, lJ4, lJ5, lJ6, lJ7, lJ8, lJ9, lJ10, lJ30, lJ32, lJ33, lJ39, lJ40, lJ41, lJ45, lJ47, lJ48, lJ51, lJ55, lJ57, lJ58, lJ59, lJ60, lJ64, lJ80, lJ82, lJ99, lJ100, lJ101, lJ123, lJ126, lJ282, lJ342, lJ1000, lJ1100, lJ2394, lJ2736, lJ9999, lJ10000, lJ1000000, lJ100000000, J_add, J_sub, J_mul, J_neg, J_le, J_lt, J_eq, J_in, J_clamp, Int.toNat_natCast]
    -- free
    have free : hgF E (ofF E m) m m = 1000000 → w9_chooses_b170 (P := P) (R2 := R) μ' (J m) (J (rl (lwF E (ofF E m) m m))) (J (rb (hgF E (ofF E m) m m))) (J 1) := fun e => by
      unfold w9_chooses_b170
      refine ⟨fun c => absurd c (by decide), fun _ => ?_⟩
      unfold w9_chooses_b193
      simp (disch := omega) only [lJ0, lJ1, lJ2, lJ3, lJ4, lJ5, lJ6, lJ7, lJ8, lJ9, lJ10, lJ30, lJ32, lJ33, lJ39, lJ40, lJ41, lJ45, lJ47, lJ48, lJ51, lJ55, lJ57, lJ58, lJ59, lJ60, lJ64, lJ80, lJ82, lJ99, lJ100, lJ101, lJ123, lJ126, lJ282, lJ342, lJ1000, lJ1100, lJ2394, lJ2736, lJ9999, lJ10000, lJ1000000, lJ100000000, J_add, J_sub, J_mul, J_neg, J_le, J_lt, J_eq, J_in, J_clamp, Int.toNat_natCast]
      refine ⟨by omega, ?_⟩
      rintro μ4 rfl
      refine ⟨fun c => absurd c (by decide), fun _ => ⟨by omega, ?_⟩⟩
      rintro μ6 rfl
      refine fin _ ((Bt.up (by decide)).tr (Bt.up (by decide))) (fun c => ?_) (fun c => ?_)
      · rw [up_nq (by decide), up_at, nv, if_pos e]
        simp
      · rw [up_at, up_nq (by decide), if_pos e]
        simp
    rcases z.2 with ⟨z1, z2, z3⟩ | ⟨z1, z2, z3, z4⟩
    · exact ⟨fun _ => ⟨fun _ => free z3, fun c => absurd (rl1.2.mpr z2) c⟩, fun c => absurd (Int.le_refl _) c⟩
    · have n1 : ¬ rl (lwF E (ofF E m) m m) = -100000000 := fun y => by have := rl1.2.mp y; omega
      have n2 : ¬ rb (hgF E (ofF E m) m m) = 100000000 := fun y => by have := rb1.2.mp y; omega
      have g1 : rl (lwF E (ofF E m) m m) = lwF E (ofF E m) m m := by unfold rl; rw [if_neg (by omega)]
      have g2 : rb (hgF E (ofF E m) m m) = hgF E (ofF E m) m m := by unfold rb; rw [if_neg (by omega)]
      refine ⟨fun _ => ⟨fun c => absurd c n1, fun _ => ⟨fun _ => ?_, fun c => absurd c n2⟩⟩, fun c => absurd (Int.le_refl _) c⟩
      rw [g1, g2]
      unfold w9_chooses_b170
      refine ⟨fun _ => ?_, fun c => absurd rfl c⟩
      refine floorDiv_spec (lwF E (ofF E m) m m + hgF E (ofF E m) m m) (J_add _ _) rfl (by omega) ?_
      unfold w9_chooses_b193
      simp (disch := omega) only [lJ0, lJ1, lJ2, lJ3, lJ4, lJ5, lJ6, lJ7, lJ8, lJ9, lJ10, lJ30, lJ32, lJ33, lJ39, lJ40, lJ41, lJ45, lJ47, lJ48, lJ51, lJ55, lJ57, lJ58, lJ59, lJ60, lJ64, lJ80, lJ82, lJ99, lJ100, lJ101, lJ123, lJ126, lJ282, lJ342, lJ1000, lJ1100, lJ2394, lJ2736, lJ9999, lJ10000, lJ1000000, lJ100000000, J_add, J_sub, J_mul, J_neg, J_le, J_lt, J_eq, J_in, J_clamp, Int.toNat_natCast]
      refine ⟨by omega, ?_⟩
      rintro μ4 rfl
      refine ⟨fun _ => ⟨by omega, ?_⟩, fun c => absurd trivial c⟩
      rintro μ6 rfl
      refine fin _ ((Bt.up (by decide)).tr (Bt.up (by decide))) (fun c => ?_) (fun c => ?_)
      · rw [up_nq (by decide), up_at, nv, if_neg (show ¬ hgF E (ofF E m) m m = 1000000 by omega)]
        simp
      · rw [up_at, up_nq (by decide), if_neg (show ¬ hgF E (ofF E m) m m = 1000000 by omega)]
        simp
/-- both together -/
theorem m_clocks_spec {μ : Mem} {s : St} (hm : MW (μ 3264 0) s) (hw : WF s.1 s.2.1) {P : Mem → Prop} (h : ∀ μ', Bt [3648, 3712, 3904, 3776, 3840] μ μ' → MClk μ' s.1 s.2.1 → P μ') : w9_accepts_wp μ (fun μ1 => w9_chooses_wp μ1 P) := by
  refine m_accepts_spec hm hw (fun μ1 b1 rm pv => ?_)
  refine m_chooses_spec (mx_Ck hw s.1 (by omega)) rm (fun μ2 b2 o f => h μ2 ((b1.mo (by decide)).tr (b2.mo (by decide))) ⟨fun i hi => ?_, o, fun c hc => ?_⟩)
  · rw [b2 3904 (by decide)]; exact pv i hi
  · rw [f c hc]
    unfold fre
    have e := chc_eq (n := s.1) (w := s.2.1) hc
    have inv := ofF_Oi (mx_Ck hw s.1 (Nat.le_refl _)) c (by omega)
    have z := (lh2 (mx_Ck hw s.1 (Nat.le_refl _)) hc inv).2
    rw [e]
    by_cases y : hgF (mx s.1 s.2.1 s.1) (ofF (mx s.1 s.2.1 s.1) c) c c = 1000000
    · rw [if_pos y, if_pos y, if_pos rfl]
    · rw [if_neg y, if_neg y, if_neg]
      rcases z with ⟨z1, z2, z3⟩ | ⟨z1, z2, z3, z4⟩
      · exact absurd z3 y
      · omega
