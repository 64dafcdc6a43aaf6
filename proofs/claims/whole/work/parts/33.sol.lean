-- needs: 20 21 22 23 24 25 26 30 31 32
def Clk (μ : Mem) (n : Nat) (w : View) : Prop := (∀ i, i < n → μ 832 0 i = J (ver n w i)) ∧ (∀ s, s < 8 → μ 896 0 s = J (off n w s)) ∧ ∀ s, s < 8 → μ 960 0 s = J (chc n w s)
theorem SV.bt {μ μ' : Mem} {k n : Nat} {w : View} {js : List Nat} (h : SV μ k n w) (b : Bt js μ μ') (hj : ∀ j, j ∈ js → 640 ≤ j) : SV μ' k n w := by
  have e : ∀ j, j < 640 → μ' j = μ j := fun j hj2 => b j (fun c => by have := hj j c; omega)
  refine ⟨by rw [e _ (by omega)]; exact h.1, fun i hi c hc => ?_⟩
  have := h.2 i hi c hc
  rw [← this]
  unfold sA
  split <;> rw [e _ (by omega)]
theorem LV.bt {μ μ' : Mem} {k : Nat} {l : Lk} {js : List Nat} (h : LV μ k l) (b : Bt js μ μ') (hj : ∀ j, j ∈ js → 640 ≤ j) : LV μ' k l := by
  have e : ∀ j, j < 640 → μ' j = μ j := fun j hj2 => b j (fun c => by have := hj j c; omega)
  exact ⟨by rw [e _ (by omega)]; exact h.1, fun q hq => by rw [e _ (by omega), e _ (by omega)]; exact h.2 q hq⟩
theorem CM.bt {μ μ' : Mem} {E : Mx} {js : List Nat} (h : CM μ E) (b : Bt js μ μ') (hj : 1088 ∉ js) : CM μ' E := fun a c ha hc => by rw [b _ hj]; exact h a c ha hc
theorem chc_eq {n : Nat} {w : View} {s : Nat} (hs : s < 8) : chc n w s = if hgF (mx n w n) (ofF (mx n w n) s) s s = 1000000 then 0 else hgF (mx n w n) (ofF (mx n w n) s) s s - lwF (mx n w n) (ofF (mx n w n) s) s s + 1 := by
  unfold chc
  have e : ∀ c, c < s → off n w c = ofF (mx n w n) s c := fun c hc => by
    have := ofF_ne (E := mx n w n) hc (8 - s)
    rw [show s + (8 - s) = 8 by omega] at this
    exact this
  obtain ⟨h1, h2⟩ := lwF_cg (E := mx n w n) (s := s) s e
  rw [h1, h2]
theorem off_eq {n : Nat} {w : View} {s k : Nat} (hs : s < k) (hk : k ≤ 8) : ofF (mx n w n) k s = off n w s := by
  have := ofF_ne (E := mx n w n) hs (8 - k)
  rw [show k + (8 - k) = 8 by omega] at this
  exact this.symm
theorem solve_spec {μ : Mem} {n : Nat} {w : View} (hv : SV μ 0 n w) (hw : WF n w) {P : Mem → Prop} (h : ∀ μ', Bt [832, 896, 960, 1088] μ μ' → Clk μ' n w → P μ') : w0_solve_wp μ P := by
  have rn := hw.n
  -- the choices
  have p3 : ∀ μ1, Bt [832, 896, 960, 1088] μ μ1 → CM μ1 (mx n w n) → (∀ i, i < n → μ1 832 0 i = J (ver n w i)) → w0_solve_b81 P μ1 0 := by
    intro μ1 b1 cm vr R hR
    have k := mx_Ck hw n (by omega)
    suffices H : ∀ μ', Bt [896, 960] μ1 μ' → (∀ s, s < 0 → μ' 896 0 s = J (off n w s)) → (∀ s, s < 0 → μ' 960 0 s = J (chc n w s)) → R μ' (J (0 : Nat)) from H μ1 Bt.rf (fun s hs => absurd hs (by omega)) (fun s hs => absurd hs (by omega))
    refine down (Q := fun m => ∀ μ', Bt [896, 960] μ1 μ' → (∀ s, s < m → μ' 896 0 s = J (off n w s)) → (∀ s, s < m → μ' 960 0 s = J (chc n w s)) → R μ' (J m)) 8 (fun m hm ih μ' b o1 o2 => ?_)
    apply hR
    unfold w0_solve_b81_body
    rcases Nat.lt_or_ge m 8 with c | c
    · have ih := ih c
      simp (disch := omega) only [lJ0, lJ1, lJ2, lJ3, lJ4, lJ5, lJ6, lJ7, lJ8, lJ9, lJ10, lJ30, lJ32, lJ33, lJ39, lJ40, lJ41, lJ45, lJ47, lJ48, lJ51, lJ55, lJ57, lJ58, lJ59, lJ60, lJ64, lJ80, lJ82, lJ99, lJ100, lJ101, lJ123, lJ126, lJ282, lJ342, lJ1000, lJ1100, lJ2394, lJ2736, lJ9999, lJ10000, lJ1000000, lJ100000000, J_add, J_sub, J_mul, J_neg, J_le, J_lt, J_eq, J_in, J_clamp, Int.toNat_natCast]
      refine ⟨fun _ => by omega, fun _ => ?_⟩
      refine choose_spec k (cm.bt b (by decide)) c (fun s hs => by rw [o1 s hs, off_eq hs (by omega)]) (fun μ2 b2 v1 v2 => ?_)
      refine ih μ2 (b.tr b2) (fun s hs => ?_) (fun s hs => ?_)
      · rw [v1]
        by_cases y : s = m
        · rw [if_pos y, y, off_eq (by omega) (by omega)]
        · rw [if_neg y]; exact o1 s (by omega)
      · rw [v2]
        by_cases y : s = m
        · rw [if_pos y, y, ← chc_eq c]
        · rw [if_neg y]; exact o2 s (by omega)
    · obtain rfl : m = 8 := by omega
      simp (disch := omega) only [lJ0, lJ1, lJ2, lJ3, lJ4, lJ5, lJ6, lJ7, lJ8, lJ9, lJ10, lJ30, lJ32, lJ33, lJ39, lJ40, lJ41, lJ45, lJ47, lJ48, lJ51, lJ55, lJ57, lJ58, lJ59, lJ60, lJ64, lJ80, lJ82, lJ99, lJ100, lJ101, lJ123, lJ126, lJ282, lJ342, lJ1000, lJ1100, lJ2394, lJ2736, lJ9999, lJ10000, lJ1000000, lJ100000000, J_add, J_sub, J_mul, J_neg, J_le, J_lt, J_eq, J_in, J_clamp, Int.toNat_natCast]
      refine ⟨fun _ => h μ' (b1.tr (b.mo (by decide))) ⟨fun i hi => ?_, o1, o2⟩, fun c => absurd (by omega) c⟩
      rw [b 832 (by decide)]; exact vr i hi
  -- the judgements
  have p2 : ∀ μ1, Bt [1088] μ μ1 → CM μ1 E0 → w0_solve_b49 P μ1 0 := by
    intro μ1 b1 cm R hR
    suffices H : ∀ μ', Bt [832, 1088] μ μ' → CM μ' (mx n w 0) → (∀ i, i < 0 → μ' 832 0 i = J (ver n w i)) → R μ' (J (0 : Nat)) from H μ1 (b1.mo (by decide)) cm (fun s hs => absurd hs (by omega))
    refine down (Q := fun m => ∀ μ', Bt [832, 1088] μ μ' → CM μ' (mx n w m) → (∀ i, i < m → μ' 832 0 i = J (ver n w i)) → R μ' (J m)) n (fun m hm ih μ' b cm vr => ?_)
    apply hR
    have hv' := hv.bt b (by decide)
    unfold w0_solve_b49_body
    rcases Nat.lt_or_ge m n with c | c
    · have ih := ih c
      simp (disch := omega) only [lJ0, lJ1, lJ2, lJ3, lJ4, lJ5, lJ6, lJ7, lJ8, lJ9, lJ10, lJ30, lJ32, lJ33, lJ39, lJ40, lJ41, lJ45, lJ47, lJ48, lJ51, lJ55, lJ57, lJ58, lJ59, lJ60, lJ64, lJ80, lJ82, lJ99, lJ100, lJ101, lJ123, lJ126, lJ282, lJ342, lJ1000, lJ1100, lJ2394, lJ2736, lJ9999, lJ10000, lJ1000000, lJ100000000, J_add, J_sub, J_mul, J_neg, J_le, J_lt, J_eq, J_in, J_clamp, Int.toNat_natCast, hv'.1]
      refine ⟨fun _ => by omega, fun _ => ?_⟩
      refine judge_spec hv' hw c (mx_Ck hw m hm) cm (fun μ3 b3 cm3 => ⟨by omega, ?_⟩)
      rintro μ6 rfl
      refine ih _ ((b.tr (b3.mo (by decide))).tr (Bt.up (by decide))) (cm3.bt (Bt.up (js := [832]) (by decide)) (by decide)) (fun i hi => ?_)
      rw [up_at]
      by_cases y : i = m
      · rw [if_pos ⟨rfl, rfl, y⟩, y]; rfl
      · rw [if_neg (fun z => y z.2.2), b3 832 (by decide)]; exact vr i (by omega)
    · obtain rfl : m = n := by omega
      simp (disch := omega) only [lJ0, lJ1, lJ2, lJ3, lJ4, lJ5, lJ6, lJ7, lJ8, lJ9, lJ10, lJ30, lJ32, lJ33, lJ39, lJ40, lJ41, lJ45, lJ47, lJ48, lJ51, lJ55, lJ57, lJ58, lJ59, lJ60, lJ64, lJ80, lJ82, lJ99, lJ100, lJ101, lJ123, lJ126, lJ282, lJ342, lJ1000, lJ1100, lJ2394, lJ2736, lJ9999, lJ10000, lJ1000000, lJ100000000, J_add, J_sub, J_mul, J_neg, J_le, J_lt, J_eq, J_in, J_clamp, Int.toNat_natCast, hv'.1]
      exact ⟨fun _ => p3 μ' (b.mo (by decide)) cm vr, fun c => absurd (Int.le_refl _) c⟩
  -- the empty bounds
  intro R hR
  suffices H : ∀ μ', Bt [1088] μ μ' → (∀ a d, a < 0 → d < 8 → μ' 1088 a d = J (E0 a d)) → R μ' (J (0 : Nat)) from H μ Bt.rf (fun a d ha => absurd ha (by omega))
  refine down (Q := fun m => ∀ μ', Bt [1088] μ μ' → (∀ a d, a < m → d < 8 → μ' 1088 a d = J (E0 a d)) → R μ' (J m)) 8 (fun m hm ih μ' b cm => ?_)
  apply hR
  unfold w0_solve_b2_body
  rcases Nat.lt_or_ge m 8 with c | c
  rotate_left
  · obtain rfl : m = 8 := by omega
    simp (disch := omega) only [lJ0, lJ1, lJ2, lJ3, lJ4, lJ5, lJ6, lJ7, lJ8, lJ9, lJ10, lJ30, lJ32, lJ33, lJ39, lJ40, lJ41, lJ45, lJ47, lJ48, lJ51, lJ55, lJ57, lJ58, lJ59, lJ60, lJ64, lJ80, lJ82, lJ99, lJ100, lJ101, lJ123, lJ126, lJ282, lJ342, lJ1000, lJ1100, lJ2394, lJ2736, lJ9999, lJ10000, lJ1000000, lJ100000000, J_add, J_sub, J_mul, J_neg, J_le, J_lt, J_eq, J_in, J_clamp, Int.toNat_natCast]
    exact ⟨fun _ => p2 μ' b (fun a d ha hd => cm a d ha hd), fun c => absurd (by omega) c⟩
  have ih := ih c
  simp (disch := omega) only [lJ0, lJ1, lJ2, lJ3, lJ4, lJ5, lJ6, lJ7, lJ8, lJ9, lJ10, lJ30, lJ32, lJ33, lJ39, lJ40, lJ41, lJ45, lJ47, lJ48, lJ51, lJ55, lJ57, lJ58, lJ59, lJ60, lJ64, lJ80, lJ82, lJ99, lJ100, lJ101, lJ123, lJ126, lJ282, lJ342, lJ1000, lJ1100, lJ2394, lJ2736, lJ9999, lJ10000, lJ1000000, lJ100000000, J_add, J_sub, J_mul, J_neg, J_le, J_lt, J_eq, J_in, J_clamp, Int.toNat_natCast]
  refine ⟨fun _ => by omega, fun _ => ?_⟩
  intro R2 hR2
  suffices H : ∀ μ', Bt [1088] μ μ' → (∀ a d, a < m → d < 8 → μ' 1088 a d = J (E0 a d)) → (∀ d, d < 0 → μ' 1088 m d = J (E0 m d)) → R2 μ' (J m) (J (0 : Nat)) from H μ' b cm (fun d hd => absurd hd (by omega))
  refine down (Q := fun j => ∀ μ', Bt [1088] μ μ' → (∀ a d, a < m → d < 8 → μ' 1088 a d = J (E0 a d)) → (∀ d, d < j → μ' 1088 m d = J (E0 m d)) → R2 μ' (J m) (J j)) 8 (fun j hj ih2 μ' b cm cj => ?_)
  apply hR2
  unfold w0_solve_b10_body
  rcases Nat.lt_or_ge j 8 with c2 | c2
  · have ih2 := ih2 c2
    have stp : ∀ v, J (E0 m j) = v → R2 (up μ' 1088 m j v) (J m) (J ((j : Int) + 1)) := fun v e => by
      refine ih2 _ (Btu1 b) (fun a d ha hd => ?_) (fun d hd => ?_)
      · rw [up_at, if_neg (by omega)]; exact cm a d ha hd
      · rw [up_at]
        by_cases y : d = j
        · rw [if_pos ⟨rfl, rfl, y⟩, y, e]
        · rw [if_neg (fun z => y z.2.2)]; exact cj d (by omega)
    simp (disch := omega) only [lJ0, lJ1, lJ2, lJ3, lJ4, lJ5, lJ6, lJ7, lJ8, lJ9, lJ10, lJ30, lJ32, lJ33, lJ39, lJ40, lJ41, lJ45, lJ47, lJ48, lJ51, lJ55, lJ57, lJ58, lJ59, lJ60, lJ64, lJ80, lJ82, lJ99, lJ100, lJ101, lJ123, lJ126, lJ282, lJ342, lJ1000, lJ1100, lJ2394, lJ2736, lJ9999, lJ10000, lJ1000000, lJ100000000, J_add, J_sub, J_mul, J_neg, J_le, J_lt, J_eq, J_in, J_clamp, Int.toNat_natCast]
    refine ⟨fun _ => by omega, fun _ => ⟨by omega, fun e => ⟨by omega, ?_⟩, fun e => ⟨by omega, ?_⟩⟩⟩
    · rintro _ rfl
      exact stp _ (by unfold E0; rw [if_neg (by omega)])
    · rintro _ rfl
      exact stp _ (by unfold E0; rw [if_pos (by omega)])
  · obtain rfl : j = 8 := by omega
    simp (disch := omega) only [lJ0, lJ1, lJ2, lJ3, lJ4, lJ5, lJ6, lJ7, lJ8, lJ9, lJ10, lJ30, lJ32, lJ33, lJ39, lJ40, lJ41, lJ45, lJ47, lJ48, lJ51, lJ55, lJ57, lJ58, lJ59, lJ60, lJ64, lJ80, lJ82, lJ99, lJ100, lJ101, lJ123, lJ126, lJ282, lJ342, lJ1000, lJ1100, lJ2394, lJ2736, lJ9999, lJ10000, lJ1000000, lJ100000000, J_add, J_sub, J_mul, J_neg, J_le, J_lt, J_eq, J_in, J_clamp, Int.toNat_natCast]
    refine ⟨fun _ => ih μ' b (fun a d ha hd => ?_), fun c => absurd (by omega) c⟩
    rcases Nat.lt_or_ge a m with y | y
    · exact cm a d y hd
    · rw [show a = m by omega]; exact cj d hd
