-- the input: characters one by one, the kept position
abbrev setI (S : GS) (l : List Int) (e : Int) : GS := (S.1, S.2.1, S.2.2.1, S.2.2.2.1, l, e)
theorem CI.mkI {S : GS} {μ μ' : Mem} {l : List Int} {e : Int} (h : CI S μ) (b : Bt [2433, 2434, 2496, 2574] μ μ') (hi : CIn μ' l) (he : μ' 2574 0 0 = J e) : CI (setI S l e) μ' := by
  have q : ∀ j, j ≠ 2433 → j ≠ 2434 → j ≠ 2496 → j ≠ 2574 → μ' j = μ j := fun j h1 h2 h3 h4 => b j (by simp only [List.mem_cons, List.not_mem_nil, or_false]; omega)
  obtain ⟨⟨h1, h2, h3, h4, h5, h6⟩, hw⟩ := h
  refine ⟨⟨h1.ev (fun j hj => q j (by omega) (by omega) (by omega) (by omega)), h2.ev (fun j hj => q j (by omega) (by omega) (by omega) (by omega)), h3.ev (q _ (by decide) (by decide) (by decide) (by decide)) (fun j hj => q j (by omega) (by omega) (by omega) (by omega)), h4.ev (q _ (by decide) (by decide) (by decide) (by decide)), hi, he⟩, ?_⟩
  rcases hw with hw | ⟨w1, w2, w3⟩
  · exact Or.inl (by show μ' 2573 0 0 = _; rw [q 2573 (by decide) (by decide) (by decide) (by decide)]; exact hw)
  · exact Or.inr ⟨by show μ' 2573 0 0 = _; rw [q 2573 (by decide) (by decide) (by decide) (by decide)]; exact w1, w2.ev (q _ (by decide) (by decide) (by decide) (by decide)) (q _ (by decide) (by decide) (by decide) (by decide)) (q _ (by decide) (by decide) (by decide) (by decide)), w3.ev (fun j hj => q j (by omega) (by omega) (by omega) (by omega))⟩
theorem MI.mkI {S : GS} {μ μ' : Mem} {l : List Int} {e : Int} (h : MI S μ) (b : Bt [3210, 3584, 3211, 3201, 3230, 3231, 4544] μ μ') (hi : MIn μ' l) (he : μ' 3211 0 0 = J e) : MI (setI S l e) μ' := by
  have q : ∀ j, j ∉ [3210, 3584, 3211, 3201, 3230, 3231, 4544] → μ' j = μ j := fun j hj => b j hj
  obtain ⟨⟨h1, h2, h3, h4, h5, h6⟩, hw⟩ := h
  refine ⟨⟨h1.ev (q _ (by decide)), ⟨h2.1, by rw [q _ (by decide)]; exact h2.2.1, fun j hj => by have := h2.2.2 j hj; rw [← q 3456 (by decide)] at this; exact this⟩, ?_, fun k p hk hp => by rw [q _ (by decide)]; exact h4 k p hk hp, hi, he⟩, ?_⟩
  · obtain ⟨t, hs, v, mm, i, e⟩ := S
    cases v with
    | none => show μ' 3206 0 0 = _; rw [q _ (by decide)]; exact h3
    | some s => exact ⟨by rw [q _ (by decide)]; exact h3.1, h3.2.ev (q _ (by decide))⟩
  · rcases hw with hw | ⟨w1, w2, w3⟩
    · exact Or.inl (by rw [q _ (by decide)]; exact hw)
    · exact Or.inr ⟨by rw [q _ (by decide)]; exact w1, w2.ev (q _ (by decide)) (q _ (by decide)) (q _ (by decide)), w3.ev (q _ (by decide)) (q _ (by decide)) (q _ (by decide)) (q _ (by decide)) (q _ (by decide))⟩
theorem gl_app (l : List Int) (v : Int) (q : Nat) : gl (l ++ [v]) q = if q = l.length then v else gl l q := by
  unfold gl
  simp only [List.getD_eq_getElem?_getD]
  by_cases c : q < l.length
  · rw [List.getElem?_append_left c, if_neg (by omega)]
  · by_cases d : q = l.length
    · rw [if_pos d, d]; simp
    · rw [if_neg d, List.getElem?_eq_none (by simp; omega), List.getElem?_eq_none (by omega)]
theorem nar_ch : ∀ v : Fin 127, vp_nar .char (J ((v.val : Nat) : Int)) = J ((v.val : Nat) : Int) := by decide +kernel
def op_append (S : GS) (v : Int) : OpR Int := if 32 ≤ v ∧ v ≤ 126 then (if (S.2.2.2.2.1).length = 80 then thw S xIS 2 else ok (setI S (S.2.2.2.2.1 ++ [v]) (S.2.2.2.2.2)) ((S.2.2.2.2.1).length + 1)) else thw S xIA 1
def op_errorPosition (S : GS) : OpR Int := if S.2.2.2.2.2 = -1 then thw S xNE 1 else ok S (S.2.2.2.2.2)
theorem g_append {S : GS} (g : GOK S) {v : Int} : GOK (op_append S v).1 := by
  unfold op_append
  by_cases c : 32 ≤ v ∧ v ≤ 126
  · rw [if_pos c]
    by_cases d : (S.2.2.2.2.1).length = 80
    · rw [if_pos d]; exact g
    · rw [if_neg d]
      obtain ⟨a1, a2, a3, a4, a5, a6, a7, a8⟩ := g
      refine ⟨a1, a2, a3, a4, a5, ?_, fun q hq => ?_, a8⟩
      · show (S.2.2.2.2.1 ++ [v]).length ≤ 80
        rw [List.length_append]
        show (S.2.2.2.2.1).length + 1 ≤ 80
        omega
      · have hq : q < (S.2.2.2.2.1 ++ [v]).length := hq
        rw [List.length_append] at hq
        have hq : q < (S.2.2.2.2.1).length + 1 := hq
        show 32 ≤ gl (S.2.2.2.2.1 ++ [v]) q ∧ gl (S.2.2.2.2.1 ++ [v]) q ≤ 126
        rw [gl_app]
        by_cases y : q = (S.2.2.2.2.1).length
        · rw [if_pos y]; exact c
        · rw [if_neg y]; exact a7 q (by omega)
  · rw [if_neg c]; exact g
theorem c_append {S : GS} {μ : Mem} (hc : CI S μ) (g : GOK S) {v : Int} (hv : (-2147483648 ≤ v ∧ v ≤ 2147483647)) {P : Int32 → Mem → Prop} {X : String → Mem → Prop} (h : CRes J (op_append S v) μ P X) : w8_append_wp μ (J v) P X := by
  unfold op_append at h
  unfold w8_append_wp
  have rl := g.2.2.2.2.2.1
  have e1 : μ 2433 0 0 = J (S.2.2.2.2.1).length := hc.1.2.2.2.2.1.1
  have e2 : ∀ q, q < (S.2.2.2.2.1).length → μ 2496 0 q = J (gl (S.2.2.2.2.1) q) := hc.1.2.2.2.2.1.2
  rw [show (126 : Int32) = J 126 from rfl, e1]
  simp (disch := omega) only [lJ0, lJ1, lJ2, lJ3, lJ4, lJ5, lJ6, lJ7, lJ8, lJ9, lJ10, lJ30, lJ32, lJ33, lJ39, lJ40, lJ41, lJ45, lJ47, lJ48, lJ51, lJ55, lJ57, lJ58, lJ59, lJ60, lJ64, lJ80, lJ82, lJ99, lJ100, lJ101, lJ123, lJ126, lJ282, lJ342, lJ1000, lJ1100, lJ2394, lJ2736, lJ9999, lJ10000, lJ1000000, lJ100000000, J_add, J_sub, J_mul, J_neg, J_le, J_lt, J_eq, J_in, J_clamp, Int.toNat_natCast]
  refine ⟨fun c => by rw [if_neg (by omega)] at h; exact h μ FrC.rf hc, fun c => ⟨fun c2 => ⟨fun c3 => ?_, fun c3 => ?_⟩, fun c2 => by rw [if_neg (by omega)] at h; exact h μ FrC.rf hc⟩⟩
  · rw [if_pos (by omega), if_neg (by omega)] at h
    unfold w4_put_wp
    rw [e1]
    refine isWithin_spec (S.2.2.2.2.1).length 80 rfl rfl (by omega) (by decide) (fun _ => ⟨fun z => absurd z (by decide), fun _ => ?_⟩) (fun z => absurd (by omega) z)
    rw [e1]
    refine ⟨(J_in (by omega)).mpr (by omega), ?_⟩
    have en : vp_nar .char (J v) = J v := by
      have := nar_ch ⟨v.toNat, by omega⟩
      rw [show ((v.toNat : Nat) : Int) = v by omega] at this
      exact this
    rintro μ2 rfl
    rintro μ3 rfl
    rw [J_nat_clamp (by omega), en, up_nq (j := 2496) (j' := 2433) (by decide), e1, show (1 : Int32) = J 1 from rfl, J_add]
    have eb : Bt [2433, 2434, 2496, 2574] μ (up (up μ 2496 0 (S.2.2.2.2.1).length (J v)) 2433 0 0 (J ((S.2.2.2.2.1).length + 1))) := (Bt.up (by decide)).tr (Bt.up (by decide))
    rw [up_self]
    refine h _ (eb.frC (by decide)) (hc.mkI eb ⟨?_, fun q hq => ?_⟩ ?_)
    · show up (up μ 2496 0 (S.2.2.2.2.1).length (J v)) 2433 0 0 (J ((S.2.2.2.2.1).length + 1)) 2433 0 0 = _
      rw [up_self, List.length_append]
      congr 1
    · rw [List.length_append] at hq
      have hq : q < (S.2.2.2.2.1).length + 1 := hq
      show up (up μ 2496 0 (S.2.2.2.2.1).length (J v)) 2433 0 0 (J ((S.2.2.2.2.1).length + 1)) 2496 0 q = _
      rw [up_nq (j' := 2496) (by decide), gl_app, up_at]
      by_cases y : q = (S.2.2.2.2.1).length
      · rw [if_pos ⟨rfl, rfl, y⟩, if_pos y]
      · rw [if_neg (fun z => y z.2.2), if_neg y]
        exact e2 q (by omega)
    · rw [up_nq (j' := 2574) (by decide), up_nq (j' := 2574) (by decide)]
      exact hc.1.2.2.2.2.2
  · rw [if_pos (by omega), if_pos (by omega)] at h; exact h μ FrC.rf hc
theorem c_errorPosition {S : GS} {μ : Mem} (hc : CI S μ) (g : GOK S) {P : Int32 → Mem → Prop} {X : String → Mem → Prop} (h : CRes J (op_errorPosition S) μ P X) : w8_errorPosition_wp μ P X := by
  unfold op_errorPosition at h
  unfold w8_errorPosition_wp
  have r := g.2.2.2.2.2.2.2
  have e : μ 2574 0 0 = J (S.2.2.2.2.2) := hc.1.2.2.2.2.2
  rw [e]
  simp (disch := omega) only [lJ0, lJ1, lJ2, lJ3, lJ4, lJ5, lJ6, lJ7, lJ8, lJ9, lJ10, lJ30, lJ32, lJ33, lJ39, lJ40, lJ41, lJ45, lJ47, lJ48, lJ51, lJ55, lJ57, lJ58, lJ59, lJ60, lJ64, lJ80, lJ82, lJ99, lJ100, lJ101, lJ123, lJ126, lJ282, lJ342, lJ1000, lJ1100, lJ2394, lJ2736, lJ9999, lJ10000, lJ1000000, lJ100000000, J_add, J_sub, J_mul, J_neg, J_le, J_lt, J_eq, J_in, J_clamp, Int.toNat_natCast]
  exact ⟨fun c => by rw [if_neg c] at h; exact h μ FrC.rf hc, fun c => by rw [if_pos c] at h; exact h μ FrC.rf hc⟩
theorem m_append {S : GS} {μ : Mem} (hm : MI S μ) (g : GOK S) {v : Int} (hv : (-2147483648 ≤ v ∧ v ≤ 2147483647)) {P : Int32 → Mem → Prop} (h : MRes J (op_append S v) μ P) : w9_append_wp μ (J v) P := by
  unfold op_append at h
  unfold w9_append_wp
  rintro μ1 rfl
  have k1 : MI S (thr μ 0) := hm.thr
  have t1 : thr μ 0 3201 0 0 = J 0 := thr_w
  have f1 : FrM μ (thr μ 0) := thr_fr
  rw [show up μ 3201 0 0 0 = thr μ 0 from rfl]
  generalize thr μ 0 = μ1 at *
  have rl := g.2.2.2.2.2.1
  have e1 : μ1 3210 0 0 = J (S.2.2.2.2.1).length := k1.1.2.2.2.2.1.1
  have e2 : ∀ q, q < (S.2.2.2.2.1).length → μ1 3584 0 q = J (gl (S.2.2.2.2.1) q) := k1.1.2.2.2.2.1.2
  refine in_spec v 32 126 rfl rfl rfl hv (by decide) (by decide) (fun c => ⟨fun _ => ?_, fun z => absurd z (by decide)⟩) (fun c => ⟨fun z => absurd rfl z, fun _ => by rw [if_neg c] at h; exact m_fails rfl h f1 k1⟩)
  rw [if_pos c] at h
  rw [e1]
  simp (disch := omega) only [lJ0, lJ1, lJ2, lJ3, lJ4, lJ5, lJ6, lJ7, lJ8, lJ9, lJ10, lJ30, lJ32, lJ33, lJ39, lJ40, lJ41, lJ45, lJ47, lJ48, lJ51, lJ55, lJ57, lJ58, lJ59, lJ60, lJ64, lJ80, lJ82, lJ99, lJ100, lJ101, lJ123, lJ126, lJ282, lJ342, lJ1000, lJ1100, lJ2394, lJ2736, lJ9999, lJ10000, lJ1000000, lJ100000000, J_add, J_sub, J_mul, J_neg, J_le, J_lt, J_eq, J_in, J_clamp, Int.toNat_natCast]
  refine ⟨fun c2 => ⟨by omega, ?_⟩, fun c2 => by rw [if_pos (by omega)] at h; exact m_fails rfl h f1 k1⟩
  rw [if_neg (by omega)] at h
  rintro μ2 rfl
  rintro μ3 rfl
  rw [up_nq (j := 3584) (j' := 3210) (by decide), e1, J_add]
  have eb : Bt [3210, 3584, 3211, 3201, 3230, 3231, 4544] μ1 (up (up μ1 3584 0 (S.2.2.2.2.1).length (J v)) 3210 0 0 (J ((S.2.2.2.2.1).length + 1))) := (Bt.up (by decide)).tr (Bt.up (by decide))
  rw [up_self]
  refine m_ok h (f1.tr (eb.frM (by decide))) (k1.mkI eb ⟨?_, fun q hq => ?_⟩ ?_) ?_ rfl
  · show up (up μ1 3584 0 (S.2.2.2.2.1).length (J v)) 3210 0 0 (J ((S.2.2.2.2.1).length + 1)) 3210 0 0 = _
    rw [up_self, List.length_append]
    congr 1
  · rw [List.length_append] at hq
    have hq : q < (S.2.2.2.2.1).length + 1 := hq
    show up (up μ1 3584 0 (S.2.2.2.2.1).length (J v)) 3210 0 0 (J ((S.2.2.2.2.1).length + 1)) 3584 0 q = _
    rw [up_nq (j' := 3584) (by decide), gl_app, up_at]
    by_cases y : q = (S.2.2.2.2.1).length
    · rw [if_pos ⟨rfl, rfl, y⟩, if_pos y]
    · rw [if_neg (fun z => y z.2.2), if_neg y]
      exact e2 q (by omega)
  · rw [up_nq (j' := 3211) (by decide), up_nq (j' := 3211) (by decide)]
    exact k1.1.2.2.2.2.2
  · rw [up_nq (j' := 3201) (by decide), up_nq (j' := 3201) (by decide)]
    exact t1
theorem m_errorPosition {S : GS} {μ : Mem} (hm : MI S μ) (g : GOK S) {P : Int32 → Mem → Prop} (h : MRes J (op_errorPosition S) μ P) : w9_errorPosition_wp μ P := by
  unfold op_errorPosition at h
  unfold w9_errorPosition_wp
  rintro μ1 rfl
  have k1 : MI S (thr μ 0) := hm.thr
  have t1 : thr μ 0 3201 0 0 = J 0 := thr_w
  have f1 : FrM μ (thr μ 0) := thr_fr
  rw [show up μ 3201 0 0 0 = thr μ 0 from rfl]
  generalize thr μ 0 = μ1 at *
  have r := g.2.2.2.2.2.2.2
  have e : μ1 3211 0 0 = J (S.2.2.2.2.2) := k1.1.2.2.2.2.2
  rw [e]
  simp (disch := omega) only [lJ0, lJ1, lJ2, lJ3, lJ4, lJ5, lJ6, lJ7, lJ8, lJ9, lJ10, lJ30, lJ32, lJ33, lJ39, lJ40, lJ41, lJ45, lJ47, lJ48, lJ51, lJ55, lJ57, lJ58, lJ59, lJ60, lJ64, lJ80, lJ82, lJ99, lJ100, lJ101, lJ123, lJ126, lJ282, lJ342, lJ1000, lJ1100, lJ2394, lJ2736, lJ9999, lJ10000, lJ1000000, lJ100000000, J_add, J_sub, J_mul, J_neg, J_le, J_lt, J_eq, J_in, J_clamp, Int.toNat_natCast]
  exact ⟨fun c => by rw [if_neg c] at h; exact m_ok h f1 k1 t1 rfl, fun c => by rw [if_pos c] at h; exact m_fails rfl h f1 k1⟩
