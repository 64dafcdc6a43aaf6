-- needs: 20 21 22 23 24 25 26 30 31 32 33 34 40 41
-- the reference's placeholders
def hfF (l : Lk) (t q : Int) : Nat → Nat → Int
  | 0, _ => -1
  | d + 1, h => if lf l h = t ∧ lt l h = q then (h : Int) else hfF l t q d (h + 1)
def hfn (l : Lk) (t q : Int) : Int := hfF l t q l.length 0
theorem hfF_some {l : Lk} {t q : Int} : ∀ d i : Nat, hfF l t q d i ≠ -1 → i ≤ hfF l t q d i ∧ hfF l t q d i < i + d ∧ lf l (hfF l t q d i).toNat = t ∧ lt l (hfF l t q d i).toNat = q := by
  intro d
  induction d with
  | zero => intro i h; exact absurd rfl h
  | succ d ih =>
    intro i h
    unfold hfF at h ⊢
    by_cases c : lf l i = t ∧ lt l i = q
    · rw [if_pos c]
      exact ⟨by omega, by omega, by rw [Int.toNat_natCast]; exact c⟩
    · rw [if_neg c] at h ⊢
      have := ih (i + 1) h
      exact ⟨by omega, by omega, this.2.2⟩
theorem hfF_none {l : Lk} {t q : Int} : ∀ d i : Nat, hfF l t q d i = -1 → ∀ j, i ≤ j → j < i + d → ¬ (lf l j = t ∧ lt l j = q) := by
  intro d
  induction d with
  | zero => intro i h j; omega
  | succ d ih =>
    intro i h j h1 h2
    unfold hfF at h
    by_cases c : lf l i = t ∧ lt l i = q
    · rw [if_pos c] at h; omega
    · rw [if_neg c] at h
      rcases Nat.lt_or_ge i j with y | y
      · exact ih (i + 1) h j (by omega) (by omega)
      · rw [show j = i by omega]; exact c
theorem hfn_some {l : Lk} {t q : Int} (h : hfn l t q ≠ -1) : 0 ≤ hfn l t q ∧ hfn l t q < l.length ∧ lf l (hfn l t q).toNat = t ∧ lt l (hfn l t q).toNat = q := by
  have := hfF_some l.length 0 h
  exact ⟨by simpa [hfn] using this.1, by simpa [hfn] using this.2.1, this.2.2⟩
theorem hfn_none {l : Lk} {t q : Int} (h : hfn l t q = -1) (j : Nat) (hj : j < l.length) : ¬ (lf l j = t ∧ lt l j = q) := hfF_none l.length 0 h j (by omega) (by omega)
theorem hfn_rg (l : Lk) (t q : Int) : -1 ≤ hfn l t q ∧ hfn l t q < l.length := by
  by_cases h : hfn l t q = -1
  · omega
  · have := hfn_some h; omega
/-- no pair twice -/
def HD (l : Lk) : Prop := ∀ h k, h < l.length → k < l.length → lf l h = lf l k → lt l h = lt l k → h = k
theorem hfn_at {l : Lk} (hd : HD l) {h : Nat} (hh : h < l.length) : hfn l (lf l h) (lt l h) = h := by
  by_cases c : hfn l (lf l h) (lt l h) = -1
  · exact absurd ⟨rfl, rfl⟩ (hfn_none c h hh)
  · have g := hfn_some c
    have := hd _ h (by omega) hh g.2.2.1 g.2.2.2
    omega
def hl (n : Nat) (w : View) : Nat → Lk := it (fun i l => if kd n w i = 2 ∧ hfn l (w i 1) (w i 2) = -1 then l ++ [(w i 1, w i 2)] else l) []
theorem hl_succ (n : Nat) (w : View) (m : Nat) : hl n w (m + 1) = if kd n w m = 2 ∧ hfn (hl n w m) (w m 1) (w m 2) = -1 then hl n w m ++ [(w m 1, w m 2)] else hl n w m := rfl
theorem HD_app {l : Lk} (hd : HD l) {t q : Int} (h : hfn l t q = -1) : HD (l ++ [(t, q)]) := by
  intro a b ha hb e1 e2
  rw [List.length_append, List.length_singleton] at ha hb
  by_cases ca : a < l.length
  · rw [lf_app ca] at e1
    rw [lt_app ca] at e2
    by_cases cb : b < l.length
    · rw [lf_app cb] at e1
      rw [lt_app cb] at e2
      exact hd a b ca cb e1 e2
    · have : b = l.length := by omega
      subst this
      rw [lf_last] at e1
      rw [lt_last] at e2
      exact absurd ⟨e1, e2⟩ (hfn_none h a ca)
  · have : a = l.length := by omega
    subst this
    rw [lf_last] at e1
    rw [lt_last] at e2
    by_cases cb : b < l.length
    · rw [lf_app cb] at e1
      rw [lt_app cb] at e2
      exact absurd ⟨e1.symm, e2.symm⟩ (hfn_none h b cb)
    · omega
theorem hfn_app {l : Lk} (hd : HD l) {t q t' q' : Int} (h : hfn l t' q' = -1) (k : hfn l t q ≠ -1) : hfn (l ++ [(t', q')]) t q = hfn l t q := by
  have g := hfn_some k
  have hd2 := HD_app hd h
  have := hfn_at hd2 (h := (hfn l t q).toNat) (by rw [List.length_append]; omega)
  rw [lf_app (by omega), lt_app (by omega), g.2.2.1, g.2.2.2] at this
  rw [this]
  omega
theorem hfn_new {l : Lk} (hd : HD l) {t q : Int} (h : hfn l t q = -1) : hfn (l ++ [(t, q)]) t q = l.length := by
  have hd2 := HD_app hd h
  have := hfn_at hd2 (h := l.length) (by rw [List.length_append, List.length_singleton]; omega)
  rw [lf_last, lt_last] at this
  exact this
theorem hl_inv (n : Nat) (w : View) : ∀ m, (hl n w m).length ≤ m ∧ HD (hl n w m) ∧ (∀ h, h < (hl n w m).length → ∃ i, i < m ∧ kd n w i = 2 ∧ lf (hl n w m) h = w i 1 ∧ lt (hl n w m) h = w i 2) ∧ ∀ i, i < m → kd n w i = 2 → hfn (hl n w m) (w i 1) (w i 2) ≠ -1 := by
  intro m
  induction m with
  | zero => exact ⟨by simp [hl, it], fun a b ha => absurd ha (by simp [hl, it]), fun h hh => absurd hh (by simp [hl, it]), fun i hi => absurd hi (by omega)⟩
  | succ m ih =>
    obtain ⟨a1, a2, a3, a4⟩ := ih
    rw [hl_succ]
    by_cases c : kd n w m = 2 ∧ hfn (hl n w m) (w m 1) (w m 2) = -1
    · rw [if_pos c]
      refine ⟨by rw [List.length_append, List.length_singleton]; omega, HD_app a2 c.2, fun h hh => ?_, fun i hi hk => ?_⟩
      · rw [List.length_append, List.length_singleton] at hh
        by_cases y : h < (hl n w m).length
        · obtain ⟨i, i1, i2, i3, i4⟩ := a3 h y
          exact ⟨i, by omega, i2, by rw [lf_app y]; exact i3, by rw [lt_app y]; exact i4⟩
        · have e : h = (hl n w m).length := by omega
          subst e
          exact ⟨m, by omega, c.1, lf_last, lt_last⟩
      · by_cases y : i = m
        · subst y
          rw [hfn_new a2 c.2]
          omega
        · have := a4 i (by omega) hk
          rw [hfn_app a2 c.2 this]
          exact this
    · rw [if_neg c]
      refine ⟨by omega, a2, fun h hh => ?_, fun i hi hk => ?_⟩
      · obtain ⟨i, i1, i2⟩ := a3 h hh
        exact ⟨i, by omega, i2⟩
      · by_cases y : i = m
        · subst y
          exact fun z => c ⟨hk, z⟩
        · exact a4 i (by omega) hk
theorem hl_st {n : Nat} {w : View} {m : Nat} {t q : Int} (h : hfn (hl n w m) t q ≠ -1) : ∀ d, hfn (hl n w (m + d)) t q = hfn (hl n w m) t q := by
  intro d
  induction d with
  | zero => rfl
  | succ d ih =>
    rw [← ih, show m + (d + 1) = m + d + 1 by omega, hl_succ]
    by_cases c : kd n w (m + d) = 2 ∧ hfn (hl n w (m + d)) (w (m + d) 1) (w (m + d) 2) = -1
    · rw [if_pos c]
      exact hfn_app (hl_inv n w (m + d)).2.1 c.2 (by rw [ih]; exact h)
    · rw [if_neg c]
/-- the node above, as the reference counts nodes -/
def ab (n : Nat) (w : View) (i : Nat) : Int := if kd n w i = 1 then pp n w i else if kd n w i = 2 then 40 + hfn (hl n w n) (w i 1) (w i 2) else -1
def MH1 (μ : Mem) (l : Lk) : Prop := (μ 3222 0 0) = J l.length ∧ ∀ h, h < l.length → μ 4096 0 h = J (lf l h) ∧ μ 4160 0 h = J (lt l h)
def MFo (μ : Mem) (n : Nat) (w : View) : Prop := MH1 μ (hl n w n) ∧ ∀ i, i < n → μ 3968 0 i = J (ab n w i) ∧ μ 4032 0 i = J (kd n w i)
theorem holder_spec {μ : Mem} {l : Lk} (hm : MH1 μ l) (h40 : l.length ≤ 40) (hr : ∀ h, h < l.length → -2147483648 ≤ lf l h ∧ lf l h ≤ 2147483647 ∧ -2147483648 ≤ lt l h ∧ lt l h ≤ 2147483647) {t q : Int} (ht : (-2147483648 ≤ t ∧ t ≤ 2147483647)) (hq : (-2147483648 ≤ q ∧ q ≤ 2147483647)) {P : Int32 → Mem → Prop} (h : P (J (hfn l t q)) μ) : w9_holder_wp μ (J t) (J q) P := by
  obtain ⟨m0, m1⟩ := hm
  intro R hR
  suffices H : ∀ d i : Nat, i + d = l.length → P (J (hfF l t q d i)) μ → R μ (J t) (J q) (J i) from H l.length 0 (by omega) h
  intro d
  induction d with
  | zero =>
    intro i hi hp
    apply hR
    unfold w9_holder_b2_body
    obtain rfl : i = l.length := by omega
    simp (disch := omega) only [lJ0, lJ1, lJ2, lJ3, lJ4, lJ5, lJ6, lJ7, lJ8, lJ9, lJ10, lJ30, lJ32, lJ33, lJ39, lJ40, lJ41, lJ45, lJ47, lJ48, lJ51, lJ55, lJ57, lJ58, lJ59, lJ60, lJ64, lJ80, lJ82, lJ99, lJ100, lJ101, lJ123, lJ126, lJ282, lJ342, lJ1000, lJ1100, lJ2394, lJ2736, lJ9999, lJ10000, lJ1000000, lJ100000000, J_add, J_sub, J_mul, J_neg, J_le, J_lt, J_eq, J_in, J_clamp, Int.toNat_natCast, m0]
    exact ⟨fun _ => hp, fun c => absurd (Int.le_refl _) c⟩
  | succ d ih =>
    intro i hi hp
    apply hR
    unfold w9_holder_b2_body
    have e1 := m1 i (by omega)
    have e2 := hr i (by omega)
    simp (disch := omega) only [lJ0, lJ1, lJ2, lJ3, lJ4, lJ5, lJ6, lJ7, lJ8, lJ9, lJ10, lJ30, lJ32, lJ33, lJ39, lJ40, lJ41, lJ45, lJ47, lJ48, lJ51, lJ55, lJ57, lJ58, lJ59, lJ60, lJ64, lJ80, lJ82, lJ99, lJ100, lJ101, lJ123, lJ126, lJ282, lJ342, lJ1000, lJ1100, lJ2394, lJ2736, lJ9999, lJ10000, lJ1000000, lJ100000000, J_add, J_sub, J_mul, J_neg, J_le, J_lt, J_eq, J_in, J_clamp, Int.toNat_natCast, m0, e1.1, e1.2]
    unfold hfF at hp
    refine ⟨fun c => by omega, fun _ => ⟨by omega, fun c => ?_, fun c => ⟨by omega, fun c2 => ?_, fun c2 => ?_⟩⟩⟩
    · rw [if_neg (fun z => c z.1)] at hp
      exact ih (i + 1) (by omega) hp
    · rw [if_neg (fun z => c2 z.2)] at hp
      exact ih (i + 1) (by omega) hp
    · rw [if_pos ⟨c, c2⟩] at hp
      exact hp
theorem isCut_spec {μ : Mem} {s : St} (hm : MW (μ 3264 0) s) (hw : WF s.1 s.2.1) {i : Nat} (hi : i < s.1) {P : Int32 → Mem → Prop} (h1 : cutb s.1 s.2.1 i = true → P 1 μ) (h0 : ¬ cutb s.1 s.2.1 i = true → P 0 μ) : w9_isCut_wp μ (J i) P := by
  obtain ⟨n, w, l⟩ := s
  have hw : WF n w := hw
  have hi : i < n := hi
  have rn := hw.n
  have ri := hw.r i hi
  have rp := pp_rg n w i
  have h1 : cutb n w i = true → P 1 μ := h1
  have h0 : ¬ cutb n w i = true → P 0 μ := h0
  unfold w9_isCut_wp
  refine parentOf_spec hm hw hi ?_
  dsimp only
  intro R hR
  unfold cutb at h1 h0
  rw [cyF_st (pp_pm n w) (d := 40) (e := 42) (by omega) (by omega) (by omega)] at h1 h0
  suffices H : ∀ (d k : Nat) (x : Int), k + d = 41 → -1 ≤ x → x < n → (cyF (pp n w) (idf w) i (d + 1) x = true → P 1 μ) → (¬ cyF (pp n w) (idf w) i (d + 1) x = true → P 0 μ) → R μ (J i) (J (k : Nat)) (J x) from H 41 0 (pp n w i) (by omega) (by omega) (by omega) h1 h0
  intro d
  induction d with
  | zero =>
    intro k x hk x1 x2 h1 h0
    apply hR
    unfold w9_isCut_b8_body
    unfold cyF at h1 h0
    simp (disch := omega) only [lJ0, lJ1, lJ2, lJ3, lJ4, lJ5, lJ6, lJ7, lJ8, lJ9, lJ10, lJ30, lJ32, lJ33, lJ39, lJ40, lJ41, lJ45, lJ47, lJ48, lJ51, lJ55, lJ57, lJ58, lJ59, lJ60, lJ64, lJ80, lJ82, lJ99, lJ100, lJ101, lJ123, lJ126, lJ282, lJ342, lJ1000, lJ1100, lJ2394, lJ2736, lJ9999, lJ10000, lJ1000000, lJ100000000, J_add, J_sub, J_mul, J_neg, J_le, J_lt, J_eq, J_in, J_clamp, Int.toNat_natCast]
    refine ⟨fun c => ⟨fun _ => h0 (by rw [if_pos (by omega)]; simp), fun c2 => by omega⟩, fun c => ⟨fun c2 => ⟨fun c3 => absurd c2 c3, fun _ => h1 (by rw [if_neg (by omega), if_pos c2])⟩, fun c2 => ⟨fun c3 => ⟨fun _ => h0 ?_, fun c4 => absurd c4 c2⟩, fun c3 => absurd (by omega) c3⟩⟩⟩
    rw [if_neg (by omega), if_neg c2]
    split <;> simp [cyF]
  | succ d ih =>
    intro k x hk x1 x2 h1 h0
    apply hR
    unfold w9_isCut_b8_body
    unfold cyF at h1 h0
    simp (disch := omega) only [lJ0, lJ1, lJ2, lJ3, lJ4, lJ5, lJ6, lJ7, lJ8, lJ9, lJ10, lJ30, lJ32, lJ33, lJ39, lJ40, lJ41, lJ45, lJ47, lJ48, lJ51, lJ55, lJ57, lJ58, lJ59, lJ60, lJ64, lJ80, lJ82, lJ99, lJ100, lJ101, lJ123, lJ126, lJ282, lJ342, lJ1000, lJ1100, lJ2394, lJ2736, lJ9999, lJ10000, lJ1000000, lJ100000000, J_add, J_sub, J_mul, J_neg, J_le, J_lt, J_eq, J_in, J_clamp, Int.toNat_natCast]
    refine ⟨fun c => ⟨fun _ => h0 (by rw [if_pos (by omega)]; simp), fun c2 => by omega⟩, fun c => ⟨fun c2 => ⟨fun c3 => absurd c2 c3, fun _ => h1 (by rw [if_neg (by omega), if_pos c2])⟩, fun c2 => ⟨fun c3 => by omega, fun c3 => ?_⟩⟩⟩
    rw [if_neg (show ¬ x < 0 by omega), if_neg c2] at h1 h0
    obtain ⟨y, rfl⟩ : ∃ y : Nat, x = y := ⟨x.toNat, by omega⟩
    rw [Int.toNat_natCast] at h1 h0
    have ry := hw.r y (by omega)
    have py := pp_rg n w y
    refine of_spec hm rn y 0 rfl rfl (by show y < n; omega) (by omega) ?_
    refine of_spec hm rn i 0 rfl rfl hi (by omega) ?_
    dsimp only
    simp (disch := omega) only [lJ0, lJ1, lJ2, lJ3, lJ4, lJ5, lJ6, lJ7, lJ8, lJ9, lJ10, lJ30, lJ32, lJ33, lJ39, lJ40, lJ41, lJ45, lJ47, lJ48, lJ51, lJ55, lJ57, lJ58, lJ59, lJ60, lJ64, lJ80, lJ82, lJ99, lJ100, lJ101, lJ123, lJ126, lJ282, lJ342, lJ1000, lJ1100, lJ2394, lJ2736, lJ9999, lJ10000, lJ1000000, lJ100000000, J_add, J_sub, J_mul, J_neg, J_le, J_lt, J_eq, J_in, J_clamp, Int.toNat_natCast]
    refine ⟨fun c4 => ?_, fun c4 => h0 (by rw [if_pos (show idf w y < idf w i by unfold idf; omega)]; simp)⟩
    refine parentOf_spec hm hw (by show y < n; omega) ?_
    rw [if_neg (show ¬ idf w y < idf w i by unfold idf; omega)] at h1 h0
    exact ih (k + 1) (pp n w y) (by omega) (by omega) (by omega) h1 h0
