-- read(), in the class
theorem startChange_spec2 {S : GS} {μ : Mem} (hc : CB S μ) (g : GOK S) {P : Mem → Prop} (h : ∀ μ', FrC μ μ' → CB (push S) μ' → μ' 2573 0 0 = J 0 → (∀ m w, SV μ 2 m w → SV μ' 2 m w) → P μ') : w8_startChange_wp μ P := by
  obtain ⟨h1, h2, h3, h4, h5, h6⟩ := hc
  unfold w8_startChange_wp
  refine remember_spec h2 h1 g.1 (fun μ1 f hv => ?_)
  rintro μ2 rfl
  have b : Bt [2573] μ1 (up μ1 2573 0 0 0) := Bt.up (by decide)
  refine h _ (f.frC.tr (b.frC (by decide))) ?_ up_self (fun m w hw => ?_)
  · have k1 : CB (push S) μ1 := by
      refine ⟨h1.frN f (by omega), hv, ?_, fun k p hk hp => ?_, ⟨(f _ _ _ (by omega) (by omega)).trans h5.1, fun q hq => (f _ _ _ (by omega) (by omega)).trans (h5.2 q hq)⟩, (f _ _ _ (by omega) (by omega)).trans h6⟩
      · obtain ⟨t, hh, v, r⟩ := S
        cases v with
        | none => exact (f _ _ _ (by omega) (by omega)).trans h3
        | some s => exact ⟨(f _ _ _ (by omega) (by omega)).trans h3.1, h3.2.frN f (by omega)⟩
      · have := h4 k p hk hp
        exact ⟨(f _ _ _ (by omega) (by omega)).trans this.1, fun z => (f _ _ _ (by omega) (by omega)).trans (this.2 z)⟩
    exact k1.bt b (by decide)
  · have w1 : SV μ1 2 m w := by
      refine ⟨(f _ _ _ (by omega) (by omega)).trans hw.1, fun i hi c hc => ?_⟩
      have := hw.2 i hi c hc
      match c, hc with
      | 0, _ => exact (f _ _ _ (by omega) (by omega)).trans this
      | 1, _ => exact (f _ _ _ (by omega) (by omega)).trans this
      | 2, _ => exact (f _ _ _ (by omega) (by omega)).trans this
      | 3, _ => exact (f _ _ _ (by omega) (by omega)).trans this
      | 4, _ => exact (f _ _ _ (by omega) (by omega)).trans this
      | 5, _ => exact (f _ _ _ (by omega) (by omega)).trans this
      | 6, _ => exact (f _ _ _ (by omega) (by omega)).trans this
    exact w1.bt b (by decide)
theorem c_canAdd_spec {S : GS} {μ : Mem} (hc : CI S μ) (g : GOK S) {a : List Row} {w : View} (hv : SV μ 2 a.length w) (hw : ∀ i, i < a.length → w i = rwg a i) (hr : ∀ r ∈ a, RwOK r) (hl : a.length ≤ 40) {P : Int32 → Mem → Prop} (h1 : CAN (S.1) a → P 1 μ) (h0 : ¬ CAN (S.1) a → P 0 μ) : w8_canAddDraft_wp μ P := by
  have rn := g.1.n
  have s1 : SV μ 0 (S.1.1) (S.1.2.1) := hc.1.1.1
  have rr : ∀ i, i < a.length → RwOK (rwg a i) := fun i hi => by
    have : rwg a i = a[i] := by simp [rwg, List.getD, hi]
    rw [this]
    exact hr _ (List.getElem_mem hi)
  unfold w8_canAddDraft_wp
  rw [hv.1, s1.1, show (40 : Int32) = J 40 from rfl, J_sub, J_le (by omega) (by omega)]
  refine ⟨fun c => ?_, fun c => h0 (fun z => by have : S.1.1 + a.length ≤ 40 := z.1; omega)⟩
  intro R hR
  suffices H : (∀ j, j < 0 → rwg a j 4 ≤ rwg a j 5 ∧ (fnd S.1.1 S.1.2.1 (rwg a j 0)) = -1 ∧ fnd a.length w (rwg a j 0) = j) → R μ (J (0 : Nat)) from H (fun j hj => by omega)
  refine down (Q := fun i => (∀ j, j < i → rwg a j 4 ≤ rwg a j 5 ∧ (fnd S.1.1 S.1.2.1 (rwg a j 0)) = -1 ∧ fnd a.length w (rwg a j 0) = j) → R μ (J i)) a.length (fun i hi ih hj => ?_)
  apply hR
  unfold w8_canAddDraft_b24_body
  rw [hv.1]
  rcases Nat.lt_or_ge i a.length with ci | ci
  · have ih := ih ci
    obtain ⟨a1, a2, a3, a4, a5, a6, a7, a8, a9, a10, a11, a12, a13, a14, a15⟩ := rr i ci
    have v0 := hv.i0 i ci
    have v4 := hv.i4 i ci
    have v5 := hv.i5 i ci
    rw [hw i ci] at v0 v4 v5
    have rf := fnd_rg (S.1.1) (S.1.2.1) (rwg a i 0)
    have rf2 := fnd_rg a.length w (rwg a i 0)
    have bad : ¬ (rwg a i 4 ≤ rwg a i 5 ∧ (fnd S.1.1 S.1.2.1 (rwg a i 0)) = -1 ∧ fnd a.length w (rwg a i 0) = i) → P 0 μ := fun z => h0 (fun y => z (by
      have q := y.2.1 i ci
      refine ⟨q.1, q.2, ?_⟩
      by_cases e : fnd a.length w (rwg a i 0) = -1
      · have := fnd_none e i ci
        rw [hw i ci] at this
        exact absurd rfl this
      · have e2 := fnd_some e
        rw [hw _ (by omega)] at e2
        rcases Nat.lt_trichotomy (fnd a.length w (rwg a i 0)).toNat i with u | u | u
        · exact absurd e2.2.2 (y.2.2 _ _ u ci)
        · omega
        · exact absurd e2.2.2.symm (y.2.2 _ _ u (by omega))))
    have bad2 : ¬ (rwg a i 4 ≤ rwg a i 5 ∧ (fnd S.1.1 S.1.2.1 (rwg a i 0)) = -1 ∧ fnd a.length w (rwg a i 0) = i) → w8_canAddDraft_b76 P R μ (J i) 1 := fun z => ⟨fun _ => bad z, fun c => absurd c (by decide)⟩
    simp (disch := omega) only [lJ0, lJ1, lJ2, lJ3, lJ4, lJ5, lJ6, lJ7, lJ8, lJ9, lJ10, lJ30, lJ32, lJ33, lJ39, lJ40, lJ41, lJ45, lJ47, lJ48, lJ51, lJ55, lJ57, lJ58, lJ59, lJ60, lJ64, lJ80, lJ82, lJ99, lJ100, lJ101, lJ123, lJ126, lJ282, lJ342, lJ1000, lJ1100, lJ2394, lJ2736, lJ9999, lJ10000, lJ1000000, lJ100000000, J_add, J_sub, J_mul, J_neg, J_le, J_lt, J_eq, J_in, J_clamp, Int.toNat_natCast, v0]
    refine ⟨fun _ => by omega, fun _ => ⟨by omega, ?_⟩⟩
    refine find_spec' s1 g.w (by omega) ?_
    simp (disch := omega) only [lJ0, lJ1, lJ2, lJ3, lJ4, lJ5, lJ6, lJ7, lJ8, lJ9, lJ10, lJ30, lJ32, lJ33, lJ39, lJ40, lJ41, lJ45, lJ47, lJ48, lJ51, lJ55, lJ57, lJ58, lJ59, lJ60, lJ64, lJ80, lJ82, lJ99, lJ100, lJ101, lJ123, lJ126, lJ282, lJ342, lJ1000, lJ1100, lJ2394, lJ2736, lJ9999, lJ10000, lJ1000000, lJ100000000, J_add, J_sub, J_mul, J_neg, J_le, J_lt, J_eq, J_in, J_clamp, Int.toNat_natCast]
    refine ⟨fun c3 => bad2 (fun z => c3 z.2.1), fun c3 => ?_⟩
    refine find_spec (w := w) hv.1 hl (fun j hj => ?_) (by omega) ?_
    · have q := rr j hj
      have v := hv.i0 j hj
      have qw := hw j hj
      rw [qw] at v ⊢
      exact ⟨v, q.2.2.1, q.2.2.2.1⟩
    · simp (disch := omega) only [lJ0, lJ1, lJ2, lJ3, lJ4, lJ5, lJ6, lJ7, lJ8, lJ9, lJ10, lJ30, lJ32, lJ33, lJ39, lJ40, lJ41, lJ45, lJ47, lJ48, lJ51, lJ55, lJ57, lJ58, lJ59, lJ60, lJ64, lJ80, lJ82, lJ99, lJ100, lJ101, lJ123, lJ126, lJ282, lJ342, lJ1000, lJ1100, lJ2394, lJ2736, lJ9999, lJ10000, lJ1000000, lJ100000000, J_add, J_sub, J_mul, J_neg, J_le, J_lt, J_eq, J_in, J_clamp, Int.toNat_natCast]
      refine ⟨fun c4 => ?_, fun c4 => bad2 (fun z => c4 z.2.2)⟩
      unfold w8_canAddDraft_b76
      refine ⟨fun c => absurd rfl c, fun _ => ?_⟩
      simp (disch := omega) only [lJ0, lJ1, lJ2, lJ3, lJ4, lJ5, lJ6, lJ7, lJ8, lJ9, lJ10, lJ30, lJ32, lJ33, lJ39, lJ40, lJ41, lJ45, lJ47, lJ48, lJ51, lJ55, lJ57, lJ58, lJ59, lJ60, lJ64, lJ80, lJ82, lJ99, lJ100, lJ101, lJ123, lJ126, lJ282, lJ342, lJ1000, lJ1100, lJ2394, lJ2736, lJ9999, lJ10000, lJ1000000, lJ100000000, J_add, J_sub, J_mul, J_neg, J_le, J_lt, J_eq, J_in, J_clamp, Int.toNat_natCast, v4, v5]
      refine ⟨by omega, by omega, fun c2 => ?_, fun c2 => bad (fun z => by omega)⟩
      exact ih (fun j hj2 => by
        by_cases y : j = i
        · rw [y]; exact ⟨by omega, c3, c4⟩
        · exact hj j (by omega))
  · have e9 : i = a.length := by omega
    rw [e9] at hj ⊢
    rw [J_le (by omega) (by omega)]
    refine ⟨fun _ => h1 ⟨by show S.1.1 + a.length ≤ 40; omega, fun i hi => ⟨(hj i hi).1, (hj i hi).2.1⟩, fun i j hij hjl e => ?_⟩, fun z => absurd (Int.le_refl _) z⟩
    have x1 := (hj i (by omega)).2.2
    have x2 := (hj j hjl).2.2
    rw [e] at x1
    omega
theorem c_read {S : GS} {μ : Mem} (hc : CI S μ) (g : GOK S) {P : Int32 → Mem → Prop} {X : String → Mem → Prop} (h : CRes J (op_read S) μ P X) : w8_read_wp μ P X := by
  unfold op_read at h
  unfold w8_read_wp
  have rn := g.1.n
  have pr := prs_rg (l := S.2.2.2.2.1) 80 0 (Nat.zero_le _)
  have rl := g.ch.1
  have ac := adl_can (prs (S.2.2.2.2.1) 80 0).2 (S.1) rn
  refine c_parse_spec (l := S.2.2.2.2.1) hc.1.2.2.2.2.1.1 hc.1.2.2.2.2.1.2 g.ch (fun c μ1 f1 p1 => ?_) (fun c μ1 w f1 p1 v1 hw => ?_)
  · rw [if_neg (by rw [c]; decide)] at h
    rintro μ2 rfl
    refine ⟨fun z => absurd rfl z, fun _ => ?_⟩
    rintro μ3 rfl
    rw [up_nq (j := 2433) (j' := 2434) (by decide), p1.2.2]
    have eb : Bt [2433, 2434, 2496, 2574] μ1 (up (up μ1 2433 0 0 0) 2574 0 0 (J (prs (S.2.2.2.2.1) 80 0).1.2)) := (Bt.up (by decide)).tr (Bt.up (by decide))
    refine h _ (f1.frC.tr (eb.frC (by decide))) ((hc.frD f1).mkI eb ⟨?_, fun q hq => absurd hq (Nat.not_lt_zero _)⟩ up_self)
    show up (up μ1 2433 0 0 0) 2574 0 0 (J (prs (S.2.2.2.2.1) 80 0).1.2) 2433 0 0 = _
    rw [up_nq (j := 2574) (j' := 2433) (by decide), up_self]
    rfl
  rw [if_pos c] at h
  rintro μ2 rfl
  refine ⟨fun _ => ?_, fun z => absurd z (by decide)⟩
  have eb : Bt [2433, 2434, 2496, 2574] μ1 (up μ1 2433 0 0 0) := Bt.up (by decide)
  have c2 : CI (setI S [] (S.2.2.2.2.2)) (up μ1 2433 0 0 0) := (hc.frD f1).mkI eb ⟨up_self, fun q hq => absurd hq (Nat.not_lt_zero _)⟩ (by rw [up_nq (j := 2433) (j' := 2574) (by decide)]; exact (hc.frD f1).1.2.2.2.2.2)
  have f2 : FrC μ (up μ1 2433 0 0 0) := f1.frC.tr (eb.frC (by decide))
  have v2 : SV (up μ1 2433 0 0 0) 2 (prs (S.2.2.2.2.1) 80 0).2.length w := v1.bt eb (by decide)
  have g2 : GOK (setI S [] (S.2.2.2.2.2)) := g.setIK g.2.2.2.2.2.2.2
  generalize up μ1 2433 0 0 0 = μ2 at *
  generalize (prs (S.2.2.2.2.1) 80 0).2 = a at *
  clear eb v1 f1 p1 c
  refine c_canAdd_spec c2 g2 v2 hw pr.2.1 (by omega) (fun cn => ⟨fun _ => ?_, fun z => absurd z (by decide)⟩) (fun cn => ⟨fun z => absurd rfl z, fun _ => ?_⟩)
  rotate_left
  · have := ac.2 cn
    rw [this] at h
    exact h μ2 f2 c2
  rw [ac.1 cn] at h
  refine startChange_spec2 c2.1 g2 (fun μ3 f3 cb3 e3 dr => ?_)
  have v3 := dr _ _ v2
  have f23 := f2.tr f3
  have hl : a.length ≤ 40 := by have := pr.2.2; omega
  have hrw : ∀ i, i < a.length → RwOK (rwg a i) := fun i hi => by
    have : rwg a i = a[i] := by simp [rwg, List.getD, hi]
    rw [this]
    exact pr.2.1 _ (List.getElem_mem hi)
  intro R hR
  suffices H : ∀ (rs : List Row) (i : Nat) (s : St) (μ' : Mem), i + rs.length = a.length → (∀ j, j < rs.length → rwg rs j = rwg a (i + j)) → s.1 + rs.length ≤ 40 → sapp s rs = sapp (S.1) a → FrC μ μ' → CB (setT (push (setI S [] (S.2.2.2.2.2))) s) μ' → μ' 2573 0 0 = J 0 → SV μ' 2 a.length w → R μ' (J i) from H a 0 (S.1) μ3 (by omega) (fun j _ => by rw [Nat.zero_add]) cn.1 rfl f23 cb3 e3 v3
  intro rs
  induction rs with
  | nil =>
    intro i s μ' hi hrs hn e f cb e2573 vd
    have e9 : i = a.length := hi
    rw [e9]
    apply hR
    unfold w8_read_b69_body
    have e : s = sapp (S.1) a := e
    rw [e] at cb
    rw [vd.1, J_le (by omega) (by omega)]
    exact ⟨fun _ => h μ' f (CI.mk0 cb e2573), fun z => absurd (Int.le_refl _) z⟩
  | cons r rs ih =>
    intro i s μ' hi hrs hn e f cb e2573 vd
    have hi : i + (rs.length + 1) = a.length := hi
    have hn : s.1 + (rs.length + 1) ≤ 40 := hn
    apply hR
    unfold w8_read_b69_body
    rw [vd.1, J_le (by omega) (by omega)]
    refine ⟨fun z => by omega, fun _ => ?_⟩
    obtain ⟨s1, s2⟩ := cb.1
    have er : w i = r := by
      have := hrs 0 (Nat.succ_pos _)
      rw [hw i (by omega)]
      exact this.symm
    have ro := hrw i (by omega)
    rw [← hw i (by omega), er] at ro
    refine keepCopy_spec (w1 := w) s1 (by show s.1 < 40; omega) i (by omega) (fun c hc => vd.2 i (by omega) c hc) (by rw [er]; exact ⟨ro.2.2.2.2.2.2.2.2.2.2.2.2.1, ro.2.2.2.2.2.2.2.2.2.2.2.2.2.1⟩) rfl (fun μ4 f4 k1 k2 _ => ?_)
    rw [er] at k1
    have := ih (i + 1) (sadd s r) μ4 (by omega) (fun j hj => by
      have := hrs (j + 1) (by show j + 1 < rs.length + 1; omega)
      rw [show i + 1 + j = i + (j + 1) by omega]
      exact this) (by show s.1 + 1 + rs.length ≤ 40; omega) e (f.tr f4.frC) (cb.st f4 ⟨k1, k2 _ s2⟩) ((f4 _ _ _ (by omega)).trans e2573) (vd.fr f4 (by omega))
    rw [show (1 : Int32) = J 1 from rfl, J_add]
    exact this
