-- the reference reads a text
theorem j10 : ¬ J 1 = (0 : Int32) := by decide
def MT (l : List Int) (s : FS) (μ : Mem) : Prop := μ 3210 0 0 = J l.length ∧ (∀ q, q < l.length → μ 3584 0 q = J (gl l q)) ∧ μ 3230 0 0 = J s.2 ∧ μ 3231 0 0 = J (bif s.1 then 1 else 0)
theorem MT.fr {l : List Int} {s : FS} {μ μ' : Mem} (h : MT l s μ) (h1 : μ' 3210 = μ 3210) (h2 : μ' 3584 = μ 3584) (h3 : μ' 3230 = μ 3230) (h4 : μ' 3231 = μ 3231) : MT l s μ' := ⟨by rw [h1]; exact h.1, fun q hq => by rw [h2]; exact h.2.1 q hq, by rw [h3]; exact h.2.2.1, by rw [h4]; exact h.2.2.2⟩
theorem MT.spot {l : List Int} {s : FS} {μ : Mem} (h : MT l s μ) {q : Nat} : MT l (s.1, q) (up μ 3230 0 0 (J q)) := ⟨by rw [up_nq (by decide)]; exact h.1, fun r hr => by rw [up_nq (by decide)]; exact h.2.1 r hr, up_self, by rw [up_nq (by decide)]; exact h.2.2.2⟩
theorem MT.right {l : List Int} {s : FS} {μ : Mem} (h : MT l s μ) {b : Bool} {v : Int32} (e : v = J (bif b then 1 else 0)) : MT l (b, s.2) (up μ 3231 0 0 v) := ⟨by rw [up_nq (by decide)]; exact h.1, fun r hr => by rw [up_nq (by decide)]; exact h.2.1 r hr, by rw [up_nq (by decide)]; exact h.2.2.1, by rw [up_self]; exact e⟩
theorem m_here_spec {l : List Int} {s : FS} {μ : Mem} (h : MT l s μ) (hc : CH l) (hs : s.2 ≤ l.length) {P : Int32 → Mem → Prop} (h1 : s.2 < l.length → P (J (gl l s.2)) μ) (h0 : ¬ s.2 < l.length → P (J (-1)) μ) : w9_here_wp μ P := by
  have r1 := hc.1
  unfold w9_here_wp
  rw [h.1, h.2.2.1, J_le (by omega) (by omega)]
  refine ⟨fun c => h0 (by omega), fun c => ⟨(J_in (by omega)).mpr (by omega), ?_⟩⟩
  rw [J_nat_clamp (by omega), h.2.1 _ (by omega)]
  exact h1 (by omega)
theorem m_must_spec {l : List Int} {s : FS} {μ : Mem} (h : MT l s μ) (hc : CH l) (hs : s.2 ≤ l.length) {c : Int} (hcc : 32 ≤ c ∧ c ≤ 126) {y : Int32} (ey : y = J c) {P : Mem → Prop} (h1 : ∀ μ', Bt [3230, 3231] μ μ' → MT l (fC l c s) μ' → P μ') : w9_must_wp μ y P := by
  subst ey
  have r1 := hc.1
  obtain ⟨b, p⟩ := s
  have hs : p ≤ l.length := hs
  have no : fC l c (b, p) = (false, p) → w9_must_b21 P μ (0 : Int32) := by
    intro e
    rw [e] at h1
    unfold w9_must_b21
    refine ⟨rfl, ?_⟩
    rintro μ1 rfl
    have m1 : MT l (false, p) (up μ 3231 0 0 0) := h.right (b := false) rfl
    rw [m1.2.2.2]
    refine ⟨fun _ => ?_, fun z => absurd rfl z⟩
    rintro μ3 rfl
    rw [m1.2.2.1, show (0 : Int32) = J 0 from rfl, J_add, Int.add_zero]
    exact h1 _ ((Bt.up (by decide)).tr (Bt.up (by decide))) (m1.spot (q := p))
  unfold w9_must_wp
  rw [h.2.2.2]
  cases b with
  | false => exact ⟨fun _ => no rfl, fun z => absurd rfl z⟩
  | true =>
    refine ⟨fun z => absurd z j10, fun _ => ?_⟩
    refine m_here_spec h hc hs (fun c1 => ?_) (fun c1 => ?_)
    · have c1 : p < l.length := c1
      have rr := hc.2 p c1
      dsimp only
      rw [J_eq (by omega) (by omega)]
      refine ⟨fun c2 => no (fC_f (by unfold tkn; rw [decide_eq_true_iff]; exact fun z => c2 z.2)), fun c2 => ?_⟩
      have c2 : gl l p = c := c2
      have ck : tkn l c p = true := by unfold tkn; rw [decide_eq_true_iff]; exact ⟨c1, c2⟩
      rw [fC_t ck] at h1
      unfold w9_must_b21
      refine ⟨rfl, ?_⟩
      rintro μ1 rfl
      have m1 : MT l (true, p) (up μ 3231 0 0 1) := h.right (b := true) rfl
      rw [m1.2.2.2]
      refine ⟨fun z => absurd z j10, fun _ => ?_⟩
      rintro μ3 rfl
      rw [m1.2.2.1, show (1 : Int32) = J 1 from rfl, J_add]
      exact h1 _ ((Bt.up (by decide)).tr (Bt.up (by decide))) (m1.spot (q := p + 1))
    · have c1 : ¬ p < l.length := c1
      rw [J_eq (by omega) (by omega)]
      refine ⟨fun _ => no (fC_f (by unfold tkn; rw [decide_eq_true_iff]; exact fun z => c1 z.1)), fun z => absurd z (by omega)⟩
theorem m_number_spec' {l : List Int} {s : FS} {μ : Mem} (h : MT l s μ) (hc : CH l) (hs : s.2 ≤ l.length) {g : Int} (hg : 0 ≤ g ∧ g ≤ 9) {k : Nat} (hk : k ≤ 3) {x y : Int32} (ex : x = J ((k + 1 : Nat) : Int)) (ey : y = J (48 + g)) {P : Int32 → Mem → Prop} (h1 : ∀ μ', Bt [3230, 3231] μ μ' → MT l (fN l g (k + 1) s).1 μ' → P (J (fN l g (k + 1) s).2) μ') : w9_number__wp μ x y P := by
  subst ex ey
  have r1 := hc.1
  obtain ⟨b, p⟩ := s
  have hs : p ≤ l.length := hs
  have no : ∀ μ1 : Mem, Bt [3230, 3231] μ μ1 → MT l (false, p) μ1 → fN l g (k + 1) (b, p) = ((false, p), 0) → w9_number__b34 P μ1 (J ((k + 1 : Nat) : Int)) (J (48 + g)) (0 : Int32) (0 : Int32) := by
    intro μ1 b1 m1 e R hR
    rw [e] at h1
    apply hR
    unfold w9_number__b34_body
    rw [m1.2.2.2, show (0 : Int32) = J 0 from rfl, J_le (by omega) (by omega)]
    exact ⟨fun z => by omega, fun _ => ⟨fun _ => h1 _ b1 m1, fun z => absurd rfl z⟩⟩
  unfold w9_number__wp
  rw [h.2.2.2]
  cases b with
  | false =>
    refine ⟨fun _ => ?_, fun z => absurd rfl z⟩
    rintro μ1 rfl
    exact no _ (Bt.up (by decide)) (h.right (b := false) rfl) rfl
  | true =>
    refine ⟨fun z => absurd z j10, fun _ => ?_⟩
    have bad : dgt l g p = -1 → ∀ μ16 : Mem, μ16 = up μ 3231 0 0 (0 : Int32) → w9_number__b34 P μ16 (J ((k + 1 : Nat) : Int)) (J (48 + g)) (0 : Int32) (0 : Int32) := by
      rintro e μ1 rfl
      exact no _ (Bt.up (by decide)) (h.right (b := false) rfl) (fN_f e)
    refine m_here_spec h hc hs (fun c1 => ?_) (fun c1 => ?_)
    rotate_left
    · have c1 : ¬ p < l.length := c1
      refine in_spec (-1) 48 (48 + g) rfl rfl rfl (by omega) (by omega) (by omega) (fun z => by omega) (fun _ => ⟨fun _ => bad (if_neg (by omega)), fun z => absurd rfl z⟩)
    have c1 : p < l.length := c1
    have rr := hc.2 p c1
    refine in_spec (gl l p) 48 (48 + g) rfl rfl rfl (by omega) (by omega) (by omega) (fun c2 => ⟨fun z => absurd z (by decide), fun _ => ?_⟩) (fun c2 => ⟨fun _ => bad (if_neg (by omega)), fun z => absurd rfl z⟩)
    have ed : dgt l g p = gl l p - 48 := if_pos ⟨c1, by omega, by omega⟩
    have nd1 : dgt l g p ≠ -1 := by omega
    rw [fN_t nd1] at h1
    rintro μ1 rfl
    have m1 : MT l (true, p) (up μ 3231 0 0 1) := h.right (b := true) rfl
    have b1 : Bt [3230, 3231] μ (up μ 3231 0 0 1) := Bt.up (by decide)
    generalize up μ 3231 0 0 1 = μ1 at *
    intro R hR
    suffices H : ∀ (d i : Nat) (v : Int) (q : Nat) (μ' : Mem), i + d = k + 1 → 0 ≤ v ∧ v < 10 ^ i → q ≤ l.length → Bt [3230, 3231] μ μ' → MT l (true, q) μ' → nmF l g d v q = nmF l g (k + 1) 0 p → R μ' (J ((k + 1 : Nat) : Int)) (J (48 + g)) (J v) (J i) from H (k + 1) 0 0 p μ1 (by omega) (by omega) hs b1 m1 rfl
    intro d
    induction d with
    | zero =>
      intro i v q μ' hi hv hq b m e
      apply hR
      unfold w9_number__b34_body
      rw [J_le (by omega) (by omega)]
      refine ⟨fun _ => ?_, fun z => absurd (by omega) z⟩
      rw [← e] at h1
      exact h1 μ' b m
    | succ d ih =>
      intro i v q μ' hi hv hq b m e
      apply hR
      unfold w9_number__b34_body
      rw [J_le (by omega) (by omega), m.2.2.2]
      refine ⟨fun z => by omega, fun _ => ⟨fun z => absurd z j10, fun _ => ?_⟩⟩
      have vb : v < 10000 := by
        have : i = 0 ∨ i = 1 ∨ i = 2 ∨ i = 3 := by omega
        rcases this with rfl | rfl | rfl | rfl <;> omega
      rw [nmF_succ l g d v q] at e
      have stop : dgt l g q = -1 → P (J v) μ' := fun z => by
        rw [if_pos z] at e
        rw [← e] at h1
        exact h1 μ' b m
      refine m_here_spec m hc hq (fun c3 => ?_) (fun c3 => ?_)
      · have c3 : q < l.length := c3
        have rq := hc.2 q c3
        refine in_spec (gl l q) 48 (48 + g) rfl rfl rfl (by omega) (by omega) (by omega) (fun c4 => ⟨fun z => absurd z (by decide), fun _ => ?_⟩) (fun c4 => ⟨fun _ => stop (if_neg (by omega)), fun z => absurd rfl z⟩)
        have eq2 : dgt l g q = gl l q - 48 := if_pos ⟨c3, by omega, by omega⟩
        refine m_here_spec m hc hq (fun _ => ?_) (fun z => absurd c3 z)
        rintro μ8 rfl
        rw [m.2.2.1]
        rw [if_neg (by omega), eq2] at e
        have := ih (i + 1) (10 * v + (gl l q - 48)) (q + 1) (up μ' 3230 0 0 (J ((q + 1 : Nat) : Int))) (by omega) (by rw [Int.pow_succ]; omega) (by omega) (b.tr (Bt.up (by decide))) (m.spot (q := q + 1)) e
        rw [show (1 : Int32) = J 1 from rfl, show (10 : Int32) = J 10 from rfl, show (48 : Int32) = J 48 from rfl]
        dsimp only
        simp only [J_mul, J_add, J_sub]
        rw [show 10 * v + gl l q - 48 = 10 * v + (gl l q - 48) by omega]
        exact this
      · have c3 : ¬ q < l.length := c3
        exact in_spec (-1) 48 (48 + g) rfl rfl rfl (by omega) (by omega) (by omega) (fun z => by omega) (fun _ => ⟨fun _ => stop (if_neg (by omega)), fun z => absurd rfl z⟩)
