-- the reference's small methods
def thr (μ : Mem) (v : Int) : Mem := up μ 3201 0 0 (J v)
theorem thr_j {μ : Mem} {v : Int} {j : Nat} (h : j ≠ 3201) : thr μ v j = μ j := up_nq h
theorem thr_v {μ : Mem} {v : Int} : m_thrown (thr μ v) 0 = J v := up_self
theorem thr_thr {μ : Mem} {v v' : Int} : thr (thr μ v) v' = thr μ v' := by
  funext j k i
  unfold thr
  simp only [up_at]
  split <;> rfl
theorem in_spec {μ : Mem} {x y z : Int32} (v a b : Int) {P : Int32 → Mem → Prop} (ex : x = J v) (ey : y = J a) (ez : z = J b) (hv : (-2147483648 ≤ v ∧ v ≤ 2147483647)) (ha : (-2147483648 ≤ a ∧ a ≤ 2147483647)) (hb : (-2147483648 ≤ b ∧ b ≤ 2147483647)) (h1 : a ≤ v ∧ v ≤ b → P 1 μ) (h0 : ¬ (a ≤ v ∧ v ≤ b) → P 0 μ) : w9_in_wp μ x y z P := by
  subst ex ey ez
  unfold w9_in_wp
  rw [J_lt hv ha, J_lt hb hv]
  exact ⟨fun c => h0 (by omega), fun c => ⟨fun c => h0 (by omega), fun c => h1 (by omega)⟩⟩
theorem isTrace_spec {μ : Mem} {v : Int} {P : Int32 → Mem → Prop} (hv : (-2147483648 ≤ v ∧ v ≤ 2147483647)) (h1 : 0 ≤ v ∧ v < 4 → P 1 μ) (h0 : ¬ (0 ≤ v ∧ v < 4) → P 0 μ) : w9_isTrace_wp μ (J v) P :=
  in_spec v 0 3 rfl rfl rfl hv (by decide) (by decide) (fun c => ⟨rfl, h1 (by omega)⟩) (fun c => ⟨rfl, h0 (by omega)⟩)
theorem isService_spec {μ : Mem} {v : Int} {P : Int32 → Mem → Prop} (hv : (-2147483648 ≤ v ∧ v ≤ 2147483647)) (h1 : 0 ≤ v ∧ v < 8 → P 1 μ) (h0 : ¬ (0 ≤ v ∧ v < 8) → P 0 μ) : w9_isService_wp μ (J v) P :=
  in_spec v 0 7 rfl rfl rfl hv (by decide) (by decide) (fun c => ⟨rfl, h1 (by omega)⟩) (fun c => ⟨rfl, h0 (by omega)⟩)
/-- times as the document wants them -/
def TOk (b e : Int) : Prop := 0 ≤ b ∧ b < 10000 ∧ 0 ≤ e ∧ e < 10000 ∧ b ≤ e
theorem m_areTimes_spec {μ : Mem} {b e : Int} {P : Int32 → Mem → Prop} (hb : (-2147483648 ≤ b ∧ b ≤ 2147483647)) (he : (-2147483648 ≤ e ∧ e ≤ 2147483647)) (h1 : TOk b e → P 1 μ) (h0 : ¬ TOk b e → P 0 μ) : w9_areTimes_wp μ (J b) (J e) P := by
  unfold TOk at *
  unfold w9_areTimes_wp
  refine in_spec b 0 9999 rfl rfl rfl hb (by decide) (by decide) (fun c => ⟨fun c => absurd c (by decide), fun _ => ?_⟩) (fun c => ⟨fun _ => h0 (by omega), fun c => absurd rfl c⟩)
  refine in_spec e 0 9999 rfl rfl rfl he (by decide) (by decide) (fun c => ⟨fun c => absurd c (by decide), fun _ => ?_⟩) (fun c => ⟨fun _ => h0 (by omega), fun c => absurd rfl c⟩)
  rw [J_lt he hb]
  exact ⟨fun c => h0 (by omega), fun c => h1 (by omega)⟩
theorem fails_spec {μ : Mem} {x : Int32} {v : Int} (ex : x = J v) {P : Int32 → Mem → Prop} (h : P 0 (thr μ v)) : w9_fails_wp μ x P := by
  subst ex
  rintro _ rfl
  exact h
theorem of_spec {μ : Mem} {s : St} (hm : MW (μ 3264 0) s) (hn : s.1 ≤ 40) {x y : Int32} (i c : Nat) (ex : x = J i) (ey : y = J c) (hi : i < s.1) (hc : c < 7) {P : Int32 → Mem → Prop} (h : P (J (s.2.1 i c)) μ) : w9_of_wp μ x y P := by
  subst ex ey
  unfold w9_of_wp
  simp (disch := omega) only [lJ0, lJ1, lJ2, lJ3, lJ4, lJ5, lJ6, lJ7, lJ8, lJ9, lJ10, lJ30, lJ32, lJ33, lJ39, lJ40, lJ41, lJ45, lJ47, lJ48, lJ51, lJ55, lJ57, lJ58, lJ59, lJ60, lJ64, lJ80, lJ82, lJ99, lJ100, lJ101, lJ123, lJ126, lJ282, lJ342, lJ1000, lJ1100, lJ2394, lJ2736, lJ9999, lJ10000, lJ1000000, lJ100000000, J_add, J_sub, J_mul, J_neg, J_le, J_lt, J_eq, J_in, J_clamp, Int.toNat_natCast]
  have := hm.2.2.1 i hi c hc
  rw [show (2 + 7 * (i : Int) + c).toNat = 2 + 7 * i + c by omega, this]
  exact ⟨by omega, h⟩
def mset (f : Ar) (k : Nat) (v : Int32) : Ar := fun i => if i = k then v else f i
theorem up_row {μ : Mem} {j i : Nat} {v : Int32} : up μ j 0 i v j 0 = mset (μ j 0) i v := by
  funext i'
  rw [up_at]
  unfold mset
  simp
theorem put_spec {μ : Mem} {x y v : Int32} (i c : Nat) (ex : x = J i) (ey : y = J c) (hi : i < 40) (hc : c < 7) {P : Mem → Prop} (h : ∀ μ', Bt [3264] μ μ' → μ' 3264 0 = mset (μ 3264 0) (2 + 7 * i + c) v → P μ') : w9_put_wp μ x y v P := by
  subst ex ey
  unfold w9_put_wp
  simp (disch := omega) only [lJ0, lJ1, lJ2, lJ3, lJ4, lJ5, lJ6, lJ7, lJ8, lJ9, lJ10, lJ30, lJ32, lJ33, lJ39, lJ40, lJ41, lJ45, lJ47, lJ48, lJ51, lJ55, lJ57, lJ58, lJ59, lJ60, lJ64, lJ80, lJ82, lJ99, lJ100, lJ101, lJ123, lJ126, lJ282, lJ342, lJ1000, lJ1100, lJ2394, lJ2736, lJ9999, lJ10000, lJ1000000, lJ100000000, J_add, J_sub, J_mul, J_neg, J_le, J_lt, J_eq, J_in, J_clamp, Int.toNat_natCast]
  refine ⟨by omega, ?_⟩
  rintro _ rfl
  refine h _ (Bt.up (by decide)) ?_
  rw [show (2 + 7 * (i : Int) + c).toNat = 2 + 7 * i + c by omega]
  exact up_row
theorem m_find_spec {μ : Mem} {s : St} (hm : MW (μ 3264 0) s) (hw : WF s.1 s.2.1) {z : Int} (hz : (-2147483648 ≤ z ∧ z ≤ 2147483647)) {P : Int32 → Mem → Prop} (h : P (J (fnd s.1 s.2.1 z)) μ) : w9_find_wp μ (J z) P := by
  obtain ⟨n, w, l⟩ := s
  have hw : WF n w := hw
  intro R hR
  have r := hw.n
  suffices H : ∀ d i : Nat, i + d = n → P (J (fndF w z d i)) μ → R μ (J z) (J i) from H n 0 (by omega) h
  intro d
  induction d with
  | zero =>
    intro i hi hp
    apply hR
    unfold w9_find_b2_body
    obtain rfl : i = n := by omega
    simp (disch := omega) only [lJ0, lJ1, lJ2, lJ3, lJ4, lJ5, lJ6, lJ7, lJ8, lJ9, lJ10, lJ30, lJ32, lJ33, lJ39, lJ40, lJ41, lJ45, lJ47, lJ48, lJ51, lJ55, lJ57, lJ58, lJ59, lJ60, lJ64, lJ80, lJ82, lJ99, lJ100, lJ101, lJ123, lJ126, lJ282, lJ342, lJ1000, lJ1100, lJ2394, lJ2736, lJ9999, lJ10000, lJ1000000, lJ100000000, J_add, J_sub, J_mul, J_neg, J_le, J_lt, J_eq, J_in, J_clamp, Int.toNat_natCast, Int.toNat_zero, hm.1]
    exact ⟨by omega, fun _ => hp, fun c => absurd (Int.le_refl _) c⟩
  | succ d ih =>
    intro i hi hp
    apply hR
    unfold w9_find_b2_body
    simp (disch := omega) only [lJ0, lJ1, lJ2, lJ3, lJ4, lJ5, lJ6, lJ7, lJ8, lJ9, lJ10, lJ30, lJ32, lJ33, lJ39, lJ40, lJ41, lJ45, lJ47, lJ48, lJ51, lJ55, lJ57, lJ58, lJ59, lJ60, lJ64, lJ80, lJ82, lJ99, lJ100, lJ101, lJ123, lJ126, lJ282, lJ342, lJ1000, lJ1100, lJ2394, lJ2736, lJ9999, lJ10000, lJ1000000, lJ100000000, J_add, J_sub, J_mul, J_neg, J_le, J_lt, J_eq, J_in, J_clamp, Int.toNat_natCast, Int.toNat_zero, hm.1]
    refine ⟨by omega, fun c => by omega, fun _ => ?_⟩
    refine of_spec hm r i 0 rfl rfl (by show i < n; omega) (by omega) ?_
    have r1 := hw.r i (by omega)
    dsimp only
    simp (disch := omega) only [lJ0, lJ1, lJ2, lJ3, lJ4, lJ5, lJ6, lJ7, lJ8, lJ9, lJ10, lJ30, lJ32, lJ33, lJ39, lJ40, lJ41, lJ45, lJ47, lJ48, lJ51, lJ55, lJ57, lJ58, lJ59, lJ60, lJ64, lJ80, lJ82, lJ99, lJ100, lJ101, lJ123, lJ126, lJ282, lJ342, lJ1000, lJ1100, lJ2394, lJ2736, lJ9999, lJ10000, lJ1000000, lJ100000000, J_add, J_sub, J_mul, J_neg, J_le, J_lt, J_eq, J_in, J_clamp, Int.toNat_natCast]
    unfold fndF at hp
    refine ⟨fun c => ?_, fun c => ?_⟩
    · rw [if_neg c] at hp
      exact ih (i + 1) (by omega) hp
    · rw [if_pos c] at hp
      exact hp
theorem spanOr_spec {μ : Mem} {s : St} (hm : MW (μ 3264 0) s) (hw : WF s.1 s.2.1) {z : Int} (hz : (-2147483648 ≤ z ∧ z ≤ 2147483647)) {P : Int32 → Mem → Prop} (h0 : fnd s.1 s.2.1 z = -1 → P (J (-1)) (thr μ 1)) (h1 : ∀ i : Nat, i < s.1 → fnd s.1 s.2.1 z = i → s.2.1 i 0 = z → P (J i) (thr μ 0)) : w9_spanOr_wp μ (J z) P := by
  unfold w9_spanOr_wp
  refine m_find_spec hm hw hz ?_
  have r := fnd_rg s.1 s.2.1 z
  have rn := hw.n
  simp (disch := omega) only [lJ0, lJ1, lJ2, lJ3, lJ4, lJ5, lJ6, lJ7, lJ8, lJ9, lJ10, lJ30, lJ32, lJ33, lJ39, lJ40, lJ41, lJ45, lJ47, lJ48, lJ51, lJ55, lJ57, lJ58, lJ59, lJ60, lJ64, lJ80, lJ82, lJ99, lJ100, lJ101, lJ123, lJ126, lJ282, lJ342, lJ1000, lJ1100, lJ2394, lJ2736, lJ9999, lJ10000, lJ1000000, lJ100000000, J_add, J_sub, J_mul, J_neg, J_le, J_lt, J_eq, J_in, J_clamp, Int.toNat_natCast]
  refine ⟨fun c => ?_, fun c => ?_⟩
  · rintro _ rfl
    refine m_find_spec (s := s) (by rw [up_nq (by decide)]; exact hm) hw hz ?_
    have g := fnd_some c
    have e : fnd s.1 s.2.1 z = ((fnd s.1 s.2.1 z).toNat : Nat) := by omega
    rw [e]
    exact h1 _ (by omega) e g.2.2
  · rintro _ rfl
    refine m_find_spec (s := s) (by rw [up_nq (by decide)]; exact hm) hw hz ?_
    rw [c]
    exact h0 c
/-- one more span -/
def sadd (s : St) (r : Nat → Int) : St := (s.1 + 1, wset s.2.1 s.1 r, s.2.2)
theorem appends_spec {μ : Mem} {s : St} (hm : MW (μ 3264 0) s) (hn : s.1 < 40) (hl : s.2.2.length ≤ 30) {t id pa sv b e : Int} {P : Mem → Prop} (h : ∀ μ', Bt [3264] μ μ' → MW (μ' 3264 0) (sadd s (rw7 t id pa sv b e 0)) → P μ') : w9_appends_wp μ (J t) (J id) (J pa) (J sv) (J b) (J e) P := by
  obtain ⟨n, w, l⟩ := s
  obtain ⟨m0, m1, m2, m3⟩ := hm
  simp only at hn hl m0 m1 m2 m3
  unfold w9_appends_wp
  simp (disch := omega) only [lJ0, lJ1, lJ2, lJ3, lJ4, lJ5, lJ6, lJ7, lJ8, lJ9, lJ10, lJ30, lJ32, lJ33, lJ39, lJ40, lJ41, lJ45, lJ47, lJ48, lJ51, lJ55, lJ57, lJ58, lJ59, lJ60, lJ64, lJ80, lJ82, lJ99, lJ100, lJ101, lJ123, lJ126, lJ282, lJ342, lJ1000, lJ1100, lJ2394, lJ2736, lJ9999, lJ10000, lJ1000000, lJ100000000, J_add, J_sub, J_mul, J_neg, J_le, J_lt, J_eq, J_in, J_clamp, Int.toNat_natCast, Int.toNat_zero, m0]
  refine ⟨by omega, by omega, by omega, ?_⟩
  rintro _ rfl
  refine put_spec n 0 rfl rfl hn (by omega) (fun μ5 b5 e5 => ?_)
  refine put_spec n 1 rfl rfl hn (by omega) (fun μ6 b6 e6 => ?_)
  refine put_spec n 2 rfl rfl hn (by omega) (fun μ7 b7 e7 => ?_)
  refine put_spec n 3 rfl rfl hn (by omega) (fun μ8 b8 e8 => ?_)
  refine put_spec n 4 rfl rfl hn (by omega) (fun μ9 b9 e9 => ?_)
  refine put_spec n 5 rfl rfl hn (by omega) (fun μ10 b10 e10 => ?_)
  refine put_spec n 6 rfl rfl hn (by omega) (fun μ11 b11 e11 => ?_)
  rw [e10, e9, e8, e7, e6, e5, up_row] at e11
  refine h _ ((((((((Bt.up (by decide)).tr b5).tr b6).tr b7).tr b8).tr b9).tr b10).tr b11) ?_
  have g : ∀ k, k ≠ 0 → (k < 2 + 7 * n ∨ 2 + 7 * n + 6 < k) → μ11 3264 0 k = μ 3264 0 k := by
    intro k h0 hk
    rw [e11]
    unfold mset
    repeat rw [if_neg (by omega)]
  refine ⟨?_, ?_, fun i hi c hc => ?_, fun q hq => ?_⟩
  · rw [e11]
    unfold mset
    repeat rw [if_neg (by omega)]
    exact if_pos rfl
  · rw [g 1 (by omega) (by omega)]
    exact m1
  · simp only [sadd] at hi ⊢
    unfold wset
    by_cases y : i = n
    · subst y
      rw [if_pos rfl, e11]
      match c, hc with
      | 0, _ => simp [mset, rw7]
      | 1, _ => simp [mset, rw7]
      | 2, _ => simp [mset, rw7]
      | 3, _ => simp [mset, rw7]
      | 4, _ => simp [mset, rw7]
      | 5, _ => simp [mset, rw7]
      | 6, _ => simp [mset, rw7]
    · rw [if_neg y, g _ (by omega) (by omega)]
      exact m2 i (by omega) c hc
  · simp only [sadd] at hq ⊢
    rw [g _ (by omega) (by omega), g _ (by omega) (by omega)]
    exact m3 q hq
theorem Btu1 {μ μ1 : Mem} {j k i : Nat} {v : Int32} (h : Bt [j] μ μ1) : Bt [j] μ (up μ1 j k i v) := h.tr (Bt.up (List.mem_singleton.mpr rfl))
theorem eraseIdx_lf {l : Lk} {z q : Nat} : lf (l.eraseIdx z) q = if q < z then lf l q else lf l (q + 1) := by
  unfold lf
  simp only [List.getD, List.getElem?_eraseIdx]
  split <;> rfl
theorem eraseIdx_lt {l : Lk} {z q : Nat} : lt (l.eraseIdx z) q = if q < z then lt l q else lt l (q + 1) := by
  unfold lt
  simp only [List.getD, List.getElem?_eraseIdx]
  split <;> rfl
theorem unlinks_spec {μ : Mem} {s : St} (hm : MW (μ 3264 0) s) (hn : s.1 ≤ 40) (hl : s.2.2.length ≤ 30) (z : Nat) (hz : z < s.2.2.length) {x : Int32} (ex : x = J z) {P : Mem → Prop} (h : ∀ μ', Bt [3264] μ μ' → MW (μ' 3264 0) (s.1, s.2.1, s.2.2.eraseIdx z) → P μ') : w9_unlinks_wp μ x P := by
  subst ex
  obtain ⟨n, w, l⟩ := s
  obtain ⟨m0, m1, m2, m3⟩ := hm
  simp only at hn hl m0 m1 m2 m3 hz
  unfold w9_unlinks_wp
  simp (disch := omega) only [lJ0, lJ1, lJ2, lJ3, lJ4, lJ5, lJ6, lJ7, lJ8, lJ9, lJ10, lJ30, lJ32, lJ33, lJ39, lJ40, lJ41, lJ45, lJ47, lJ48, lJ51, lJ55, lJ57, lJ58, lJ59, lJ60, lJ64, lJ80, lJ82, lJ99, lJ100, lJ101, lJ123, lJ126, lJ282, lJ342, lJ1000, lJ1100, lJ2394, lJ2736, lJ9999, lJ10000, lJ1000000, lJ100000000, J_add, J_sub, J_mul, J_neg, J_le, J_lt, J_eq, J_in, J_clamp, Int.toNat_natCast, Int.toNat_one, m1]
  refine ⟨by omega, by omega, ?_⟩
  rintro _ rfl
  intro R hR
  suffices H : ∀ d k : Nat, k + d = 2 * (l.length - 1) → 2 * z ≤ k → ∀ μ', Bt [3264] μ μ' → (∀ i, μ' 3264 0 i = if i = 1 then J (l.length - 1) else if 282 + 2 * z ≤ i ∧ i < 282 + k then μ 3264 0 (i + 2) else μ 3264 0 i) → R μ' (J k) by
    have := H (2 * (l.length - 1) - 2 * z) (2 * z) (by omega) (by omega) _ (Btu1 Bt.rf) (fun i => by
      rw [up_row]; unfold mset
      by_cases y : i = 1
      · rw [if_pos y, if_pos y]
      · rw [if_neg y, if_neg y, if_neg (by omega)])
    rw [show 2 * (z : Int) = ((2 * z : Nat) : Int) by omega]
    exact this
  intro d
  induction d with
  | zero =>
    intro k hk hzk μ' b g
    apply hR
    unfold w9_unlinks_b14_body
    have g1 := g 1
    rw [if_pos rfl] at g1
    simp (disch := omega) only [lJ0, lJ1, lJ2, lJ3, lJ4, lJ5, lJ6, lJ7, lJ8, lJ9, lJ10, lJ30, lJ32, lJ33, lJ39, lJ40, lJ41, lJ45, lJ47, lJ48, lJ51, lJ55, lJ57, lJ58, lJ59, lJ60, lJ64, lJ80, lJ82, lJ99, lJ100, lJ101, lJ123, lJ126, lJ282, lJ342, lJ1000, lJ1100, lJ2394, lJ2736, lJ9999, lJ10000, lJ1000000, lJ100000000, J_add, J_sub, J_mul, J_neg, J_le, J_lt, J_eq, J_in, J_clamp, Int.toNat_natCast, Int.toNat_one, g1]
    refine ⟨by omega, fun _ => h _ b ⟨?_, ?_, fun i hi c hc => ?_, fun q hq => ?_⟩, fun c => by omega⟩
    · rw [g, if_neg (by omega), if_neg (by omega)]; exact m0
    · rw [g1, List.length_eraseIdx_of_lt hz]; congr 1; omega
    · simp only at hi ⊢
      rw [g, if_neg (by omega), if_neg (by omega)]; exact m2 i hi c hc
    · simp only at hq ⊢
      rw [List.length_eraseIdx_of_lt hz] at hq
      rw [eraseIdx_lf, eraseIdx_lt, g, g, if_neg (show ¬ 282 + 2 * q = 1 by omega), if_neg (show ¬ 283 + 2 * q = 1 by omega)]
      by_cases y : q < z
      · rw [if_neg (show ¬ (282 + 2 * z ≤ 282 + 2 * q ∧ 282 + 2 * q < 282 + k) by omega), if_neg (show ¬ (282 + 2 * z ≤ 283 + 2 * q ∧ 283 + 2 * q < 282 + k) by omega), if_pos y, if_pos y]
        exact m3 q (by omega)
      · rw [if_pos (show 282 + 2 * z ≤ 282 + 2 * q ∧ 282 + 2 * q < 282 + k by omega), if_pos (show 282 + 2 * z ≤ 283 + 2 * q ∧ 283 + 2 * q < 282 + k by omega), if_neg y, if_neg y]
        have := m3 (q + 1) (by omega)
        rw [show 282 + 2 * q + 2 = 282 + 2 * (q + 1) by omega, show 283 + 2 * q + 2 = 283 + 2 * (q + 1) by omega]
        exact this
  | succ d ih =>
    intro k hk hzk μ' b g
    apply hR
    unfold w9_unlinks_b14_body
    have g1 := g 1
    rw [if_pos rfl] at g1
    simp (disch := omega) only [lJ0, lJ1, lJ2, lJ3, lJ4, lJ5, lJ6, lJ7, lJ8, lJ9, lJ10, lJ30, lJ32, lJ33, lJ39, lJ40, lJ41, lJ45, lJ47, lJ48, lJ51, lJ55, lJ57, lJ58, lJ59, lJ60, lJ64, lJ80, lJ82, lJ99, lJ100, lJ101, lJ123, lJ126, lJ282, lJ342, lJ1000, lJ1100, lJ2394, lJ2736, lJ9999, lJ10000, lJ1000000, lJ100000000, J_add, J_sub, J_mul, J_neg, J_le, J_lt, J_eq, J_in, J_clamp, Int.toNat_natCast, Int.toNat_one, g1]
    refine ⟨by omega, fun c => by omega, fun _ => ⟨by omega, by omega, ?_⟩⟩
    rintro _ rfl
    refine ih (k + 1) (by omega) (by omega) _ (Btu1 b) (fun i => ?_)
    rw [up_row]; unfold mset
    rw [show (282 + (k : Int)).toNat = 282 + k by omega, show (282 + (k : Int) + 2).toNat = 282 + k + 2 by omega]
    by_cases y : i = 282 + k
    · rw [if_pos y, if_neg (by omega), if_pos (by omega), g, if_neg (by omega), if_neg (by omega), y]
    · rw [if_neg y, g]
      by_cases y1 : i = 1
      · rw [if_pos y1, if_pos y1]
      · rw [if_neg y1, if_neg y1]
        by_cases y2 : 282 + 2 * z ≤ i ∧ i < 282 + k
        · rw [if_pos y2, if_pos (by omega)]
        · rw [if_neg y2, if_neg (by omega)]
theorem linkOf_spec {μ : Mem} {s : St} (hm : MW (μ 3264 0) s) (hw : LW s.2.2) {a b : Int} (ha : (-2147483648 ≤ a ∧ a ≤ 2147483647)) (hb : (-2147483648 ≤ b ∧ b ≤ 2147483647)) {P : Int32 → Mem → Prop} (h1 : ∀ q : Nat, q < s.2.2.length → lf s.2.2 q = a ∧ lt s.2.2 q = b → P (J q) μ) (h0 : (¬ ∃ q, q < s.2.2.length ∧ lf s.2.2 q = a ∧ lt s.2.2 q = b) → P (J (-1)) μ) : w9_linkOf_wp μ (J a) (J b) P := by
  obtain ⟨n, w, l⟩ := s
  obtain ⟨m0, m1, m2, m3⟩ := hm
  simp only at m0 m1 m2 m3 hw h1 h0
  intro R hR
  suffices H : (∀ q, q < 0 → ¬ (lf l q = a ∧ lt l q = b)) → R μ (J a) (J b) (J (0 : Nat)) from H (by omega)
  refine down (Q := fun i => (∀ q, q < i → ¬ (lf l q = a ∧ lt l q = b)) → R μ (J a) (J b) (J i)) l.length (fun i hi ih hn => ?_)
  apply hR
  have r := hw.n
  unfold w9_linkOf_b2_body
  rcases Nat.lt_or_ge i l.length with c | c
  · have r1 := hw.r i c
    have ih := ih c
    have nx : ¬ (lf l i = a ∧ lt l i = b) → ∀ q, q < i + 1 → ¬ (lf l q = a ∧ lt l q = b) := fun z q hq => by
      rcases Nat.lt_or_ge q i with y | y
      · exact hn q y
      · rw [show q = i by omega]; exact z
    simp (disch := omega) only [lJ0, lJ1, lJ2, lJ3, lJ4, lJ5, lJ6, lJ7, lJ8, lJ9, lJ10, lJ30, lJ32, lJ33, lJ39, lJ40, lJ41, lJ45, lJ47, lJ48, lJ51, lJ55, lJ57, lJ58, lJ59, lJ60, lJ64, lJ80, lJ82, lJ99, lJ100, lJ101, lJ123, lJ126, lJ282, lJ342, lJ1000, lJ1100, lJ2394, lJ2736, lJ9999, lJ10000, lJ1000000, lJ100000000, J_add, J_sub, J_mul, J_neg, J_le, J_lt, J_eq, J_in, J_clamp, Int.toNat_natCast, Int.toNat_one, m1]
    rw [show (282 + 2 * (i : Int)).toNat = 282 + 2 * i by omega, show (282 + 2 * (i : Int) + 1).toNat = 283 + 2 * i by omega, (m3 i c).1, (m3 i c).2]
    simp (disch := omega) only [lJ0, lJ1, lJ2, lJ3, lJ4, lJ5, lJ6, lJ7, lJ8, lJ9, lJ10, lJ30, lJ32, lJ33, lJ39, lJ40, lJ41, lJ45, lJ47, lJ48, lJ51, lJ55, lJ57, lJ58, lJ59, lJ60, lJ64, lJ80, lJ82, lJ99, lJ100, lJ101, lJ123, lJ126, lJ282, lJ342, lJ1000, lJ1100, lJ2394, lJ2736, lJ9999, lJ10000, lJ1000000, lJ100000000, J_add, J_sub, J_mul, J_neg, J_le, J_lt, J_eq, J_in, J_clamp, Int.toNat_natCast]
    refine ⟨by omega, fun _ => by omega, fun _ => ⟨by omega, fun c2 => ih (nx (fun z => c2 z.1)), fun c2 => ⟨by omega, fun c3 => ih (nx (fun z => c3 z.2)), fun c3 => h1 i c ⟨c2, c3⟩⟩⟩⟩
  · obtain rfl : i = l.length := by omega
    simp (disch := omega) only [lJ0, lJ1, lJ2, lJ3, lJ4, lJ5, lJ6, lJ7, lJ8, lJ9, lJ10, lJ30, lJ32, lJ33, lJ39, lJ40, lJ41, lJ45, lJ47, lJ48, lJ51, lJ55, lJ57, lJ58, lJ59, lJ60, lJ64, lJ80, lJ82, lJ99, lJ100, lJ101, lJ123, lJ126, lJ282, lJ342, lJ1000, lJ1100, lJ2394, lJ2736, lJ9999, lJ10000, lJ1000000, lJ100000000, J_add, J_sub, J_mul, J_neg, J_le, J_lt, J_eq, J_in, J_clamp, Int.toNat_natCast, Int.toNat_one, m1]
    exact ⟨by omega, fun _ => h0 (fun ⟨q, z, y⟩ => hn q z y), fun c => absurd (Int.le_refl _) c⟩
