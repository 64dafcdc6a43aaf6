-- needs: 20 21 22 23 24 25 26 30 31 32 33 34
/-- the reference's word of a pair -/
def ps (n : Nat) (w : View) (i : Nat) : Int := if ver n w i = 0 then -1 else if ver n w i = 1 then 1 else 0
theorem RM.cp {f f' : Ar} {E : Mx} (h : RM f E) (hf : ∀ k, k < 64 → f' k = f k) : RM f' E := fun a c ha hc => by rw [hf _ (by omega)]; exact h a c ha hc
theorem m_accepts_spec {μ : Mem} {s : St} (hm : MW (μ 3264 0) s) (hw : WF s.1 s.2.1) {P : Mem → Prop} (h : ∀ μ', Bt [3648, 3712, 3904] μ μ' → RM (μ' 3648 0) (mx s.1 s.2.1 s.1) → (∀ i, i < s.1 → μ' 3904 0 i = J (ps s.1 s.2.1 i)) → P μ') : w9_accepts_wp μ P := by
  obtain ⟨n, w, l⟩ := s
  have hw : WF n w := hw
  have rn := hw.n
  have hE : ∀ i, i ≤ n → Ck (mx n w i) := mx_Ck hw
  -- the spans
  have p2 : ∀ μ1, Bt [3648] μ μ1 → RM (μ1 3648 0) E0 → w9_accepts_b35 P μ1 0 := by
    intro μ1 b1 cm R hR
    suffices H : ∀ μ', Bt [3648, 3712, 3904] μ μ' → RM (μ' 3648 0) (mx n w 0) → (∀ i, i < 0 → μ' 3904 0 i = J (ps n w i)) → R μ' (J (0 : Nat)) from H μ1 (b1.mo (by decide)) cm (fun s hs => absurd hs (by omega))
    refine down (Q := fun m => ∀ μ', Bt [3648, 3712, 3904] μ μ' → RM (μ' 3648 0) (mx n w m) → (∀ i, i < m → μ' 3904 0 i = J (ps n w i)) → R μ' (J m)) n (fun m hm2 ih μ' b cm vr => ?_)
    apply hR
    have hm' : MW (μ' 3264 0) (n, w, l) := hm.bt b (by decide)
    have m0 : μ' 3264 0 0 = J n := hm'.1
    unfold w9_accepts_b35_body
    rcases Nat.lt_or_ge m n with c | c
    rotate_left
    · obtain rfl : m = n := by omega
      simp (disch := omega) only [lJ0, lJ1, lJ2, lJ3, lJ4, lJ5, lJ6, lJ7, lJ8, lJ9, lJ10, lJ30, lJ32, lJ33, lJ39, lJ40, lJ41, lJ45, lJ47, lJ48, lJ51, lJ55, lJ57, lJ58, lJ59, lJ60, lJ64, lJ80, lJ82, lJ99, lJ100, lJ101, lJ123, lJ126, lJ282, lJ342, lJ1000, lJ1100, lJ2394, lJ2736, lJ9999, lJ10000, lJ1000000, lJ100000000, J_add, J_sub, J_mul, J_neg, J_le, J_lt, J_eq, J_in, J_clamp, Int.toNat_natCast, Int.toNat_zero, m0]
      exact ⟨by omega, fun _ => h μ' b cm vr, fun c => absurd (Int.le_refl _) c⟩
    have ih := ih c
    have r1 := hw.r m c
    have rp := pp_rg n w m
    have ck := hE m hm2
    simp (disch := omega) only [lJ0, lJ1, lJ2, lJ3, lJ4, lJ5, lJ6, lJ7, lJ8, lJ9, lJ10, lJ30, lJ32, lJ33, lJ39, lJ40, lJ41, lJ45, lJ47, lJ48, lJ51, lJ55, lJ57, lJ58, lJ59, lJ60, lJ64, lJ80, lJ82, lJ99, lJ100, lJ101, lJ123, lJ126, lJ282, lJ342, lJ1000, lJ1100, lJ2394, lJ2736, lJ9999, lJ10000, lJ1000000, lJ100000000, J_add, J_sub, J_mul, J_neg, J_le, J_lt, J_eq, J_in, J_clamp, Int.toNat_natCast, Int.toNat_zero, m0]
    refine ⟨by omega, fun _ => by omega, fun _ => ?_⟩
    refine parentOf_spec hm' hw c ?_
    refine ⟨by omega, ?_⟩
    rintro μ5 rfl
    -- the end of a turn
    have fin : ∀ μ6, Bt [3648, 3712, 3904] μ' μ6 → RM (μ6 3648 0) (jdm n w m (mx n w m)) → (∀ i, μ6 3904 0 i = if i = m then J (ps n w m) else μ' 3904 0 i) → R μ6 (J ((m : Int) + 1)) := fun μ6 b6 rm pv => by
      refine ih μ6 (b.tr b6) rm (fun i hi => ?_)
      rw [pv]
      by_cases y : i = m
      · rw [if_pos y, y]
      · rw [if_neg y]; exact vr i (by omega)
    simp (disch := omega) only [lJ0, lJ1, lJ2, lJ3, lJ4, lJ5, lJ6, lJ7, lJ8, lJ9, lJ10, lJ30, lJ32, lJ33, lJ39, lJ40, lJ41, lJ45, lJ47, lJ48, lJ51, lJ55, lJ57, lJ58, lJ59, lJ60, lJ64, lJ80, lJ82, lJ99, lJ100, lJ101, lJ123, lJ126, lJ282, lJ342, lJ1000, lJ1100, lJ2394, lJ2736, lJ9999, lJ10000, lJ1000000, lJ100000000, J_add, J_sub, J_mul, J_neg, J_le, J_lt, J_eq, J_in, J_clamp, Int.toNat_natCast]
    have u5 : ∀ i, (up μ' 3904 0 m (J (-1))) 3904 0 i = if i = m then J (-1) else μ' 3904 0 i := fun i => by
      rw [up_row]; rfl
    have b5 : Bt [3904] μ' (up μ' 3904 0 m (J (-1))) := Bt.up (by decide)
    have cm5 : RM ((up μ' 3904 0 m (J (-1))) 3648 0) (mx n w m) := by rw [up_nq (by decide)]; exact cm
    have hm5 : MW ((up μ' 3904 0 m (J (-1))) 3264 0) (n, w, l) := hm'.bt b5 (by decide)
    generalize up μ' 3904 0 m (J (-1)) = μ5 at u5 b5 cm5 hm5 ⊢
    have no : jdv n w (mx n w m) m = 0 → R μ5 (J ((m : Int) + 1)) := fun e => by
      refine fin μ5 (b5.mo (by decide)) (by unfold jdm; rw [if_neg (by omega)]; exact cm5) (fun i => ?_)
      rw [u5, show ps n w m = -1 by unfold ps ver; rw [if_pos e]]
    refine ⟨fun c1 => no (by unfold jdv; rw [if_pos c1]), fun c1 => ?_⟩
    obtain ⟨p, hp⟩ : ∃ p : Nat, pp n w m = p := ⟨(pp n w m).toNat, by omega⟩
    rw [hp] at rp c1 ⊢
    have hpn : p < n := by omega
    have r2 := hw.r p hpn
    refine of_spec hm5 rn p 3 rfl rfl hpn (by omega) ?_
    refine of_spec hm5 rn m 3 rfl rfl c (by omega) ?_
    dsimp only
    simp (disch := omega) only [lJ0, lJ1, lJ2, lJ3, lJ4, lJ5, lJ6, lJ7, lJ8, lJ9, lJ10, lJ30, lJ32, lJ33, lJ39, lJ40, lJ41, lJ45, lJ47, lJ48, lJ51, lJ55, lJ57, lJ58, lJ59, lJ60, lJ64, lJ80, lJ82, lJ99, lJ100, lJ101, lJ123, lJ126, lJ282, lJ342, lJ1000, lJ1100, lJ2394, lJ2736, lJ9999, lJ10000, lJ1000000, lJ100000000, J_add, J_sub, J_mul, J_neg, J_le, J_lt, J_eq, J_in, J_clamp, Int.toNat_natCast]
    have jj : jdv n w (mx n w m) m = if w m 3 = w p 3 then 0 else if w p 5 - w m 5 < w p 4 - w m 4 ∨ mx n w m (w m 3).toNat (w p 3).toNat < w p 4 - w m 4 ∨ mx n w m (w p 3).toNat (w m 3).toNat < -(w p 5 - w m 5) then 2 else 1 := by
      unfold jdv
      rw [if_neg (by omega), hp, Int.toNat_natCast]
    refine ⟨fun c2 => no (by rw [jj, if_pos c2.symm]), fun c2 => ?_⟩
    rw [if_neg (by omega)] at jj
    -- the copy
    intro R2 hR2
    suffices H : ∀ μ6, Bt [3712] μ5 μ6 → (∀ k, k < 0 → μ6 3712 0 k = μ5 3648 0 k) → R2 μ6 (J m) (J p) (J (0 : Nat)) from H μ5 Bt.rf (fun k hk => absurd hk (by omega))
    refine down (Q := fun j => ∀ μ6, Bt [3712] μ5 μ6 → (∀ k, k < j → μ6 3712 0 k = μ5 3648 0 k) → R2 μ6 (J m) (J p) (J j)) 64 (fun j hj ih2 μ6 b6 cp => ?_)
    apply hR2
    unfold w9_accepts_b80_body
    rcases Nat.lt_or_ge j 64 with cj | cj
    · have ih2 := ih2 cj
      simp (disch := omega) only [lJ0, lJ1, lJ2, lJ3, lJ4, lJ5, lJ6, lJ7, lJ8, lJ9, lJ10, lJ30, lJ32, lJ33, lJ39, lJ40, lJ41, lJ45, lJ47, lJ48, lJ51, lJ55, lJ57, lJ58, lJ59, lJ60, lJ64, lJ80, lJ82, lJ99, lJ100, lJ101, lJ123, lJ126, lJ282, lJ342, lJ1000, lJ1100, lJ2394, lJ2736, lJ9999, lJ10000, lJ1000000, lJ100000000, J_add, J_sub, J_mul, J_neg, J_le, J_lt, J_eq, J_in, J_clamp, Int.toNat_natCast]
      refine ⟨fun _ => by omega, fun _ => ⟨by omega, by omega, ?_⟩⟩
      rintro _ rfl
      refine ih2 _ (Btu1 b6) (fun k hk => ?_)
      rw [up_at]
      split
      · rename_i z; rw [z.2.2, b6 3648 (by decide)]
      · exact cp k (by omega)
    obtain rfl : j = 64 := by omega
    simp (disch := omega) only [lJ0, lJ1, lJ2, lJ3, lJ4, lJ5, lJ6, lJ7, lJ8, lJ9, lJ10, lJ30, lJ32, lJ33, lJ39, lJ40, lJ41, lJ45, lJ47, lJ48, lJ51, lJ55, lJ57, lJ58, lJ59, lJ60, lJ64, lJ80, lJ82, lJ99, lJ100, lJ101, lJ123, lJ126, lJ282, lJ342, lJ1000, lJ1100, lJ2394, lJ2736, lJ9999, lJ10000, lJ1000000, lJ100000000, J_add, J_sub, J_mul, J_neg, J_le, J_lt, J_eq, J_in, J_clamp, Int.toNat_natCast]
    refine ⟨fun _ => ?_, fun c => absurd (by omega) c⟩
    have hm6 : MW (μ6 3264 0) (n, w, l) := hm5.bt b6 (by decide)
    have tr6 : RM (μ6 3712 0) (mx n w m) := cm5.cp cp
    have cm6 : RM (μ6 3648 0) (mx n w m) := by rw [b6 3648 (by decide)]; exact cm5
    refine of_spec hm6 rn m 3 rfl rfl c (by omega) ?_
    refine of_spec hm6 rn p 3 rfl rfl hpn (by omega) ?_
    refine of_spec hm6 rn p 5 rfl rfl hpn (by omega) ?_
    refine of_spec hm6 rn m 5 rfl rfl c (by omega) ?_
    dsimp only
    have tx : J (w m 3) = J (((w m 3).toNat : Nat) : Int) := by congr 1; omega
    have ty : J (w p 3) = J (((w p 3).toNat : Nat) : Int) := by congr 1; omega
    -- not accepted
    have rej : jdv n w (mx n w m) m = 2 → ∀ μ7, Bt [3712] μ5 μ7 → w9_accepts_b170 P R μ7 (J m) 0 := fun e μ7 b7 => by
      have cm7 : RM (μ7 3648 0) (mx n w m) := by rw [b7 3648 (by decide)]; exact cm5
      unfold w9_accepts_b170
      refine ⟨fun _ => ⟨(J_in (by omega)).mpr (by omega), ?_⟩, fun c => absurd rfl c⟩
      rintro _ rfl
      intro R3 hR3
      apply hR3
      unfold w9_accepts_b191_body
      simp (disch := omega) only [lJ0, lJ1, lJ2, lJ3, lJ4, lJ5, lJ6, lJ7, lJ8, lJ9, lJ10, lJ30, lJ32, lJ33, lJ39, lJ40, lJ41, lJ45, lJ47, lJ48, lJ51, lJ55, lJ57, lJ58, lJ59, lJ60, lJ64, lJ80, lJ82, lJ99, lJ100, lJ101, lJ123, lJ126, lJ282, lJ342, lJ1000, lJ1100, lJ2394, lJ2736, lJ9999, lJ10000, lJ1000000, lJ100000000, J_add, J_sub, J_mul, J_neg, J_le, J_lt, J_eq, J_in, J_clamp, Int.toNat_natCast]
      refine ⟨fun c => by omega, fun _ => ⟨fun _ => ?_, fun c => absurd trivial c⟩⟩
      refine fin _ ((b5.mo (by decide)).tr ((b7.mo (by decide)).tr (Bt.up (by decide)))) ?_ (fun i => ?_)
      · unfold jdm
        rw [if_neg (by omega), up_nq (by decide)]
        exact cm7
      · rw [up_row]
        unfold mset
        rw [show ps n w m = 0 by unfold ps ver; rw [if_neg (by omega), if_neg (by omega)]]
        by_cases y : i = m
        · rw [if_pos y, if_pos y]
        · rw [if_neg y, if_neg y, b7 3904 (by decide), u5, if_neg y]
    refine holds_spec ck.1 (by omega) tr6 (h := (w m 3).toNat) (l := (w p 3).toNat) (by omega) (by omega) (b := w p 5 - w m 5) (by omega) ty tx (J_sub _ _) (fun c3 => ⟨fun _ => rej (by rw [jj, if_pos (by omega)]) μ6 b6, fun c => absurd rfl c⟩) (fun c3 μ8 b8 tr8 => ⟨fun c => absurd c (by decide), fun _ => ?_⟩)
    have hm8 : MW (μ8 3264 0) (n, w, l) := hm6.bt b8 (by decide)
    refine of_spec hm8 rn m 4 rfl rfl c (by omega) ?_
    refine of_spec hm8 rn p 4 rfl rfl hpn (by omega) ?_
    dsimp only
    have t1 : Ti 149985 (tg (mx n w m) (w m 3).toNat (w p 3).toNat (w p 5 - w m 5)) := tg_Ti ck.1 (by omega) (by omega) (by omega) (by omega) c3
    have v1 : tg (mx n w m) (w m 3).toNat (w p 3).toNat (w p 5 - w m 5) (w m 3).toNat (w p 3).toNat = if w p 5 - w m 5 < mx n w m (w m 3).toNat (w p 3).toNat then w p 5 - w m 5 else mx n w m (w m 3).toNat (w p 3).toNat := by
      have z1 := ck.1.1 (w m 3).toNat (by omega)
      have z2 := ck.1.1 (w p 3).toNat (by omega)
      unfold tg
      rw [if_neg (by omega), z1, z2, show 0 + (w p 5 - w m 5) + 0 = w p 5 - w m 5 by omega]
    have gxy := ck.1.2.2 (w m 3).toNat (w p 3).toNat (by omega) (by omega)
    refine holds_spec t1 (by omega) tr8 (h := (w p 3).toNat) (l := (w m 3).toNat) (by omega) (by omega) (b := w m 4 - w p 4) (by omega) tx ty (J_sub _ _) (fun c4 => ⟨fun _ => rej ?_ μ8 (b6.tr b8), fun c => absurd rfl c⟩) (fun c4 μ9 b9 tr9 => ⟨fun c => absurd c (by decide), fun _ => ?_⟩)
    · rw [jj, if_pos]
      rw [v1] at c4
      split at c4 <;> omega
    have acpt : jdv n w (mx n w m) m = 1 := by
      rw [jj, if_neg]
      rw [v1] at c4
      split at c4 <;> omega
    unfold w9_accepts_b170
    refine ⟨fun c => absurd c (by decide), fun _ => ⟨(J_in (by omega)).mpr (by omega), ?_⟩⟩
    rintro _ rfl
    rw [J_nat_clamp (by omega)]
    have b10 : Bt [3904] μ9 (up μ9 3904 0 m 1) := Bt.up (by decide)
    have u10 : ∀ i, (up μ9 3904 0 m 1) 3904 0 i = if i = m then 1 else μ9 3904 0 i := fun i => by rw [up_row]; rfl
    generalize up μ9 3904 0 m 1 = μ10 at b10 u10 ⊢
    intro R3 hR3
    suffices H : ∀ μ11, Bt [3648] μ10 μ11 → (∀ k, k < 0 → μ11 3648 0 k = μ10 3712 0 k) → R3 μ11 (J m) 1 (J (0 : Nat)) from H μ10 Bt.rf (fun k hk => absurd hk (by omega))
    refine down (Q := fun j => ∀ μ11, Bt [3648] μ10 μ11 → (∀ k, k < j → μ11 3648 0 k = μ10 3712 0 k) → R3 μ11 (J m) 1 (J j)) 64 (fun j hj ih3 μ11 b11 cp => ?_)
    apply hR3
    unfold w9_accepts_b191_body
    rcases Nat.lt_or_ge j 64 with cj | cj
    · have ih3 := ih3 cj
      simp (disch := omega) only [lJ0, lJ1, lJ2, lJ3, lJ4, lJ5, lJ6, lJ7, lJ8, lJ9, lJ10, lJ30, lJ32, lJ33, lJ39, lJ40, lJ41, lJ45, lJ47, lJ48, lJ51, lJ55, lJ57, lJ58, lJ59, lJ60, lJ64, lJ80, lJ82, lJ99, lJ100, lJ101, lJ123, lJ126, lJ282, lJ342, lJ1000, lJ1100, lJ2394, lJ2736, lJ9999, lJ10000, lJ1000000, lJ100000000, J_add, J_sub, J_mul, J_neg, J_le, J_lt, J_eq, J_in, J_clamp, Int.toNat_natCast]
      refine ⟨fun _ => by omega, fun _ => ⟨fun c => absurd c (by decide), fun _ => ⟨by omega, by omega, ?_⟩⟩⟩
      rintro _ rfl
      refine ih3 _ (Btu1 b11) (fun k hk => ?_)
      rw [up_at]
      split
      · rename_i z; rw [z.2.2, b11 3712 (by decide)]
      · exact cp k (by omega)
    obtain rfl : j = 64 := by omega
    simp (disch := omega) only [lJ0, lJ1, lJ2, lJ3, lJ4, lJ5, lJ6, lJ7, lJ8, lJ9, lJ10, lJ30, lJ32, lJ33, lJ39, lJ40, lJ41, lJ45, lJ47, lJ48, lJ51, lJ55, lJ57, lJ58, lJ59, lJ60, lJ64, lJ80, lJ82, lJ99, lJ100, lJ101, lJ123, lJ126, lJ282, lJ342, lJ1000, lJ1100, lJ2394, lJ2736, lJ9999, lJ10000, lJ1000000, lJ100000000, J_add, J_sub, J_mul, J_neg, J_le, J_lt, J_eq, J_in, J_clamp, Int.toNat_natCast]
    refine ⟨fun _ => ?_, fun c => absurd (by omega) c⟩
    refine fin _ (((((b5.mo (by decide)).tr (b6.mo (by decide))).tr (b8.mo (by decide))).tr (b9.mo (by decide))).tr ((b10.mo (by decide)).tr (b11.mo (by decide)))) ?_ (fun i => ?_)
    · unfold jdm
      rw [if_pos acpt, hp, Int.toNat_natCast]
      refine RM.cp (f := μ9 3712 0) ?_ (fun k hk => by rw [cp k hk, b10 3712 (by decide)])
      unfold acc
      rw [show -(w p 4 - w m 4) = w m 4 - w p 4 by omega]
      exact tr9
    · rw [b11 3904 (by decide), u10, show ps n w m = 1 by unfold ps ver; rw [if_neg (by omega), if_pos acpt]]
      by_cases y : i = m
      · rw [if_pos y, if_pos y]; rfl
      · rw [if_neg y, if_neg y, b9 3904 (by decide), b8 3904 (by decide), b6 3904 (by decide), u5, if_neg y]
  -- the empty bounds
  intro R hR
  suffices H : ∀ μ', Bt [3648] μ μ' → (∀ k, k < 0 → μ' 3648 0 k = J (if k % 9 = 0 then 0 else 100000000)) → R μ' (J (0 : Nat)) from H μ Bt.rf (fun a ha => absurd ha (by omega))
  refine down (Q := fun m => ∀ μ', Bt [3648] μ μ' → (∀ k, k < m → μ' 3648 0 k = J (if k % 9 = 0 then 0 else 100000000)) → R μ' (J m)) 64 (fun m hm3 ih μ' b cm => ?_)
  apply hR
  unfold w9_accepts_b2_body
  rcases Nat.lt_or_ge m 64 with c | c
  rotate_left
  · obtain rfl : m = 64 := by omega
    simp (disch := omega) only [lJ0, lJ1, lJ2, lJ3, lJ4, lJ5, lJ6, lJ7, lJ8, lJ9, lJ10, lJ30, lJ32, lJ33, lJ39, lJ40, lJ41, lJ45, lJ47, lJ48, lJ51, lJ55, lJ57, lJ58, lJ59, lJ60, lJ64, lJ80, lJ82, lJ99, lJ100, lJ101, lJ123, lJ126, lJ282, lJ342, lJ1000, lJ1100, lJ2394, lJ2736, lJ9999, lJ10000, lJ1000000, lJ100000000, J_add, J_sub, J_mul, J_neg, J_le, J_lt, J_eq, J_in, J_clamp, Int.toNat_natCast]
    refine ⟨fun _ => p2 μ' b (fun a d ha hd => ?_), fun c => absurd (by omega) c⟩
    rw [cm _ (by omega)]
    unfold rb E0
    by_cases y : a = d
    · rw [if_pos (by omega), if_pos y, if_neg (by omega)]
    · rw [if_neg (by omega), if_neg y, if_pos rfl]
  have ih := ih c
  have m9 : J (m : Int) - J (m : Int) / 9 * 9 = J ((m % 9 : Nat) : Int) := by
    rw [lJ9, J_div (by omega) (by decide), J_mul, J_sub]
    congr 1
    rw [Int.tdiv_eq_ediv_of_nonneg (by omega)]
    omega
  rw [m9]
  have stp : ∀ v, J (if m % 9 = 0 then 0 else 100000000) = v → R (up μ' 3648 0 m v) (J ((m : Int) + 1)) := fun v e => by
    refine ih _ (Btu1 b) (fun k hk => ?_)
    rw [up_row]
    unfold mset
    by_cases y : k = m
    · rw [if_pos y, y, e]
    · rw [if_neg y]; exact cm k (by omega)
  simp (disch := omega) only [lJ0, lJ1, lJ2, lJ3, lJ4, lJ5, lJ6, lJ7, lJ8, lJ9, lJ10, lJ30, lJ32, lJ33, lJ39, lJ40, lJ41, lJ45, lJ47, lJ48, lJ51, lJ55, lJ57, lJ58, lJ59, lJ60, lJ64, lJ80, lJ82, lJ99, lJ100, lJ101, lJ123, lJ126, lJ282, lJ342, lJ1000, lJ1100, lJ2394, lJ2736, lJ9999, lJ10000, lJ1000000, lJ100000000, J_add, J_sub, J_mul, J_neg, J_le, J_lt, J_eq, J_in, J_clamp, Int.toNat_natCast]
  refine ⟨fun _ => by omega, fun _ => ⟨by decide, fun e => ⟨by omega, ?_⟩, fun e => ⟨by omega, ?_⟩⟩⟩
  · rintro _ rfl
    exact stp _ (by rw [if_neg (by omega)])
  · rintro _ rfl
    exact stp _ (by rw [if_pos (by omega)])
