-- texts, and the class's reading of them
def dgt (l : List Int) (g : Int) (p : Nat) : Int := if p < l.length ∧ 48 ≤ gl l p ∧ gl l p ≤ 48 + g then gl l p - 48 else -1
def tkn (l : List Int) (c : Int) (p : Nat) : Bool := decide (p < l.length ∧ gl l p = c)
def nmF (l : List Int) (g : Int) : Nat → Int → Nat → Int × Nat
  | 0, v, p => (v, p)
  | k + 1, v, p => if dgt l g p = -1 then (v, p) else nmF l g k (10 * v + dgt l g p) (p + 1)
theorem nmF_succ (l : List Int) (g : Int) (k : Nat) (v : Int) (p : Nat) : nmF l g (k + 1) v p = if dgt l g p = -1 then (v, p) else nmF l g k (10 * v + dgt l g p) (p + 1) := rfl
abbrev FS : Type := Bool × Nat
def fN (l : List Int) (g : Int) (k : Nat) : FS → FS × Int
  | (false, p) => ((false, p), 0)
  | (true, p) => if dgt l g p = -1 then ((false, p), 0) else ((true, (nmF l g k 0 p).2), (nmF l g k 0 p).1)
def fC (l : List Int) (c : Int) : FS → FS
  | (false, p) => (false, p)
  | (true, p) => bif tkn l c p then (true, p + 1) else (false, p)
theorem fN_t {l : List Int} {g : Int} {k p : Nat} (h : dgt l g p ≠ -1) : fN l g k (true, p) = ((true, (nmF l g k 0 p).2), (nmF l g k 0 p).1) := if_neg h
theorem fN_f {l : List Int} {g : Int} {k p : Nat} (h : dgt l g p = -1) : fN l g k (true, p) = ((false, p), 0) := if_pos h
theorem fC_t {l : List Int} {c : Int} {p : Nat} (h : tkn l c p = true) : fC l c (true, p) = (true, p + 1) := by show (bif tkn l c p then (true, p + 1) else (false, p)) = _; rw [h]; rfl
theorem fC_f {l : List Int} {c : Int} {p : Nat} (h : ¬ tkn l c p = true) : fC l c (true, p) = (false, p) := by show (bif tkn l c p then (true, p + 1) else (false, p)) = _; rw [Bool.eq_false_iff.mpr h]; rfl
abbrev Row : Type := Nat → Int
def xB (l : List Int) (t id pa sv b e : Int) (s : FS) : FS × Row := (fC l 59 (s.1, bif (s.1 && tkn l 33 s.2) then s.2 + 1 else s.2), rw7 t id pa sv b e (bif (s.1 && tkn l 33 s.2) then 1 else 0))
def x5 (l : List Int) (t id pa sv b : Int) (s : FS) : FS × Row := xB l t id pa sv b (fN l 9 4 (fC l 45 s)).2 (fN l 9 4 (fC l 45 s)).1
def x4 (l : List Int) (t id pa sv : Int) (s : FS) : FS × Row := x5 l t id pa sv (fN l 9 4 (fC l 58 s)).2 (fN l 9 4 (fC l 58 s)).1
def x3 (l : List Int) (t id pa : Int) (s : FS) : FS × Row := x4 l t id pa (fN l 7 1 (fC l 64 s)).2 (fN l 7 1 (fC l 64 s)).1
def x2 (l : List Int) (t id : Int) (s : FS) : FS × Row := bif (s.1 && tkn l 45 s.2) then x3 l t id (-1) (s.1, s.2 + 1) else x3 l t id (fN l 9 2 s).2 (fN l 9 2 s).1
def x1 (l : List Int) (t : Int) (s : FS) : FS × Row := x2 l t (fN l 9 2 (fC l 47 s)).2 (fC l 60 (fN l 9 2 (fC l 47 s)).1)
def fE (l : List Int) (p : Nat) : FS × Row := x1 l (fN l 3 1 (true, p)).2 (fN l 3 1 (true, p)).1
/-- the class at a place of its input -/
def PI (l : List Int) (p : Nat) (μ : Mem) : Prop := μ 2433 0 0 = J l.length ∧ (∀ q, q < l.length → μ 2496 0 q = J (gl l q)) ∧ μ 2434 0 0 = J p
def CH (l : List Int) : Prop := l.length ≤ 80 ∧ ∀ q, q < l.length → 32 ≤ gl l q ∧ gl l q ≤ 126
theorem PI.fr {l : List Int} {p : Nat} {μ μ' : Mem} (h : PI l p μ) (h1 : μ' 2433 = μ 2433) (h2 : μ' 2496 = μ 2496) (h3 : μ' 2434 = μ 2434) : PI l p μ' := ⟨by rw [h1]; exact h.1, fun q hq => by rw [h2]; exact h.2.1 q hq, by rw [h3]; exact h.2.2⟩
theorem PI.go {l : List Int} {p q : Nat} {μ : Mem} (h : PI l p μ) : PI l q (up μ 2434 0 0 (J q)) := ⟨by rw [up_nq (by decide)]; exact h.1, fun r hr => by rw [up_nq (by decide)]; exact h.2.1 r hr, up_self⟩
theorem c_take_spec {l : List Int} {p : Nat} {μ : Mem} (h : PI l p μ) (hc : CH l) (hp : p ≤ l.length) {c : Int} (hcc : 32 ≤ c ∧ c ≤ 126) {y : Int32} (ey : y = J c) {P : Int32 → Mem → Prop} (h1 : tkn l c p = true → ∀ μ', Bt [2434] μ μ' → PI l (p + 1) μ' → P 1 μ') (h0 : ¬ tkn l c p = true → P 0 μ) : w4_take_wp μ y P := by
  subst ey
  have r1 := hc.1
  unfold tkn at h1 h0
  rw [decide_eq_true_iff] at h1 h0
  unfold w4_take_wp
  obtain ⟨a1, a2, a3⟩ := h
  rw [a3]
  refine isWithin_spec p 80 rfl rfl (by omega) (by decide) (fun c1 => ⟨fun z => absurd z (by decide), fun _ => ?_⟩) (fun c1 => ⟨fun _ => h0 (by omega), fun z => absurd rfl z⟩)
  rw [a1, a3]
  rcases Nat.lt_or_ge p l.length with c2 | c2
  · have rr := hc.2 p c2
    have a4 := a2 p c2
    simp (disch := omega) only [lJ0, lJ1, lJ2, lJ3, lJ4, lJ5, lJ6, lJ7, lJ8, lJ9, lJ10, lJ30, lJ32, lJ33, lJ39, lJ40, lJ41, lJ45, lJ47, lJ48, lJ51, lJ55, lJ57, lJ58, lJ59, lJ60, lJ64, lJ80, lJ82, lJ99, lJ100, lJ101, lJ123, lJ126, lJ282, lJ342, lJ1000, lJ1100, lJ2394, lJ2736, lJ9999, lJ10000, lJ1000000, lJ100000000, J_add, J_sub, J_mul, J_neg, J_le, J_lt, J_eq, J_in, J_clamp, Int.toNat_natCast, a4]
    refine ⟨fun z => by omega, fun _ => ⟨by omega, fun c3 => h0 (fun z => c3 z.2), fun c3 => ?_⟩⟩
    rintro μ2 rfl
    exact h1 ⟨c2, c3⟩ _ (Bt.up (by decide)) (PI.go (q := p + 1) ⟨a1, a2, a3⟩)
  · simp (disch := omega) only [lJ0, lJ1, lJ2, lJ3, lJ4, lJ5, lJ6, lJ7, lJ8, lJ9, lJ10, lJ30, lJ32, lJ33, lJ39, lJ40, lJ41, lJ45, lJ47, lJ48, lJ51, lJ55, lJ57, lJ58, lJ59, lJ60, lJ64, lJ80, lJ82, lJ99, lJ100, lJ101, lJ123, lJ126, lJ282, lJ342, lJ1000, lJ1100, lJ2394, lJ2736, lJ9999, lJ10000, lJ1000000, lJ100000000, J_add, J_sub, J_mul, J_neg, J_le, J_lt, J_eq, J_in, J_clamp, Int.toNat_natCast]
    exact ⟨fun _ => h0 (fun z => by omega), fun z => absurd (by omega) z⟩
theorem dgt_rg {l : List Int} {g : Int} {p : Nat} (hg : 0 ≤ g) : dgt l g p = -1 ∨ (0 ≤ dgt l g p ∧ dgt l g p ≤ g ∧ p < l.length) := by
  unfold dgt
  split
  · rename_i h; exact Or.inr (by omega)
  · exact Or.inl rfl
theorem c_takeDigit_spec {l : List Int} {p : Nat} {μ : Mem} (h : PI l p μ) (hc : CH l) (hp : p ≤ l.length) {g : Int} (hg : 0 ≤ g ∧ g ≤ 9) {y : Int32} (ey : y = J g) {P : Int32 → Mem → Prop} (h1 : dgt l g p ≠ -1 → ∀ μ', Bt [2434] μ μ' → PI l (p + 1) μ' → P (J (dgt l g p)) μ') (h0 : dgt l g p = -1 → P (J (-1)) μ) : w4_takeDigit_wp μ y P := by
  subst ey
  have r1 := hc.1
  unfold dgt at h1 h0
  unfold w4_takeDigit_wp
  obtain ⟨a1, a2, a3⟩ := h
  rw [a3]
  refine isWithin_spec p 80 rfl rfl (by omega) (by decide) (fun c1 => ⟨fun z => absurd z (by decide), fun _ => ?_⟩) (fun c1 => ⟨fun _ => h0 (if_neg (by omega)), fun z => absurd rfl z⟩)
  rw [a1, a3]
  rcases Nat.lt_or_ge p l.length with c2 | c2
  · have rr := hc.2 p c2
    have a4 := a2 p c2
    rw [show (48 : Int32) = J 48 from rfl, show (0 : Int32) = J 0 from rfl]
    simp (disch := omega) only [lJ0, lJ1, lJ2, lJ3, lJ4, lJ5, lJ6, lJ7, lJ8, lJ9, lJ10, lJ30, lJ32, lJ33, lJ39, lJ40, lJ41, lJ45, lJ47, lJ48, lJ51, lJ55, lJ57, lJ58, lJ59, lJ60, lJ64, lJ80, lJ82, lJ99, lJ100, lJ101, lJ123, lJ126, lJ282, lJ342, lJ1000, lJ1100, lJ2394, lJ2736, lJ9999, lJ10000, lJ1000000, lJ100000000, J_add, J_sub, J_mul, J_neg, J_le, J_lt, J_eq, J_in, J_clamp, Int.toNat_natCast, a4]
    refine ⟨fun _ => ⟨by omega, fun c3 => h0 (if_neg (by omega)), fun c3 => ⟨fun c4 => ?_, fun c4 => h0 (if_neg (by omega))⟩⟩, fun z => absurd (by omega) z⟩
    rw [if_pos (by omega)] at h1
    rintro μ2 rfl
    exact h1 (by omega) _ (Bt.up (by decide)) (PI.go (q := p + 1) ⟨a1, a2, a3⟩)
  · simp (disch := omega) only [lJ0, lJ1, lJ2, lJ3, lJ4, lJ5, lJ6, lJ7, lJ8, lJ9, lJ10, lJ30, lJ32, lJ33, lJ39, lJ40, lJ41, lJ45, lJ47, lJ48, lJ51, lJ55, lJ57, lJ58, lJ59, lJ60, lJ64, lJ80, lJ82, lJ99, lJ100, lJ101, lJ123, lJ126, lJ282, lJ342, lJ1000, lJ1100, lJ2394, lJ2736, lJ9999, lJ10000, lJ1000000, lJ100000000, J_add, J_sub, J_mul, J_neg, J_le, J_lt, J_eq, J_in, J_clamp, Int.toNat_natCast]
    exact ⟨fun z => absurd z (by omega), fun _ => h0 (if_neg (by omega))⟩
theorem ten1 (k : Nat) : (1 : Int) ≤ 10 ^ k := by
  induction k with
  | zero => decide
  | succ k ih => rw [Int.pow_succ]; omega
theorem nmF_rg {l : List Int} {g : Int} (hg : 0 ≤ g ∧ g ≤ 9) : ∀ (k : Nat) (v : Int) (p : Nat), 0 ≤ v → p ≤ l.length → 0 ≤ (nmF l g k v p).1 ∧ (nmF l g k v p).1 + 1 ≤ (v + 1) * 10 ^ k ∧ p ≤ (nmF l g k v p).2 ∧ (nmF l g k v p).2 ≤ l.length := by
  intro k
  induction k with
  | zero => intro v p hv hp; unfold nmF; dsimp only; rw [Int.pow_zero, Int.mul_one]; omega
  | succ k ih =>
    intro v p hv hp
    unfold nmF
    have t := ten1 (k + 1)
    by_cases c : dgt l g p = -1
    · rw [if_pos c]
      dsimp only
      have m : (v + 1) * 1 ≤ (v + 1) * 10 ^ (k + 1) := Int.mul_le_mul_of_nonneg_left t (by omega)
      omega
    · rw [if_neg c]
      have r := dgt_rg (l := l) (p := p) hg.1
      obtain ⟨a1, a2, a3, a4⟩ := ih (10 * v + dgt l g p) (p + 1) (by omega) (by omega)
      have m : (10 * v + dgt l g p + 1) * 10 ^ k ≤ ((v + 1) * 10) * 10 ^ k := Int.mul_le_mul_of_nonneg_right (by omega) (by have := ten1 k; omega)
      rw [Int.mul_assoc, show (10 : Int) * 10 ^ k = 10 ^ (k + 1) by rw [Int.pow_succ]; omega] at m
      omega
theorem nmF_1 {l : List Int} {g : Int} (hg : 0 ≤ g ∧ g ≤ 9) {k p : Nat} (hp : p ≤ l.length) (h : dgt l g p ≠ -1) : 0 ≤ (nmF l g (k + 1) 0 p).1 ∧ (nmF l g (k + 1) 0 p).1 + 1 ≤ 10 ^ (k + 1) ∧ p + 1 ≤ (nmF l g (k + 1) 0 p).2 ∧ (nmF l g (k + 1) 0 p).2 ≤ l.length := by
  have a := nmF_rg (l := l) hg (k + 1) 0 p (by omega) hp
  have r := dgt_rg (l := l) (p := p) hg.1
  unfold nmF at a ⊢
  rw [if_neg h] at a ⊢
  have b := nmF_rg (l := l) hg k (10 * 0 + dgt l g p) (p + 1) (by omega) (by omega)
  rw [show (0 : Int) + 1 = 1 by omega, Int.one_mul] at a
  exact ⟨a.1, a.2.1, b.2.2.1, b.2.2.2⟩
theorem nmF_v1 {l : List Int} {g : Int} {p : Nat} (h : dgt l g p ≠ -1) : nmF l g 1 0 p = (dgt l g p, p + 1) := by
  unfold nmF
  rw [if_neg h]
  unfold nmF
  rw [Int.mul_zero, Int.zero_add]
theorem c_takeNumber_spec {l : List Int} {p : Nat} {μ : Mem} (h : PI l p μ) (hc : CH l) (hp : p ≤ l.length) {k : Nat} (hk : k ≤ 3) {y : Int32} (ey : y = J ((k + 1 : Nat) : Int)) {P : Int32 → Mem → Prop} (h1 : dgt l 9 p ≠ -1 → ∀ μ', Bt [2434] μ μ' → PI l (nmF l 9 (k + 1) 0 p).2 μ' → P (J (nmF l 9 (k + 1) 0 p).1) μ') (h0 : dgt l 9 p = -1 → P (J (-1)) μ) : w4_takeNumber_wp μ y P := by
  subst ey
  have r1 := hc.1
  unfold w4_takeNumber_wp
  have rd := dgt_rg (l := l) (g := 9) (p := p) (by omega)
  refine c_takeDigit_spec h hc hp (g := 9) (by omega) rfl (fun c μ2 b2 p2 => ?_) (fun c => ?_)
  · have h1 := h1 c
    unfold nmF at h1
    rw [if_neg c, Int.mul_zero, Int.zero_add] at h1
    simp (disch := omega) only [lJ0, lJ1, lJ2, lJ3, lJ4, lJ5, lJ6, lJ7, lJ8, lJ9, lJ10, lJ30, lJ32, lJ33, lJ39, lJ40, lJ41, lJ45, lJ47, lJ48, lJ51, lJ55, lJ57, lJ58, lJ59, lJ60, lJ64, lJ80, lJ82, lJ99, lJ100, lJ101, lJ123, lJ126, lJ282, lJ342, lJ1000, lJ1100, lJ2394, lJ2736, lJ9999, lJ10000, lJ1000000, lJ100000000, J_add, J_sub, J_mul, J_neg, J_le, J_lt, J_eq, J_in, J_clamp, Int.toNat_natCast]
    refine ⟨fun _ => ?_, fun z => absurd z c⟩
    intro R hR
    suffices H : ∀ (d i : Nat) (v : Int) (q : Nat) (μ' : Mem), i + d = k + 1 → 0 ≤ v ∧ v < 10 ^ i → 1 ≤ i → q ≤ l.length → Bt [2434] μ μ' → PI l q μ' → nmF l 9 d v q = nmF l 9 k (dgt l 9 p) (p + 1) → R μ' (J ((k + 1 : Nat) : Int)) (J v) (J i) from H k 1 (dgt l 9 p) (p + 1) μ2 (by omega) (by omega) (by omega) (by omega) b2 p2 rfl
    intro d
    induction d with
    | zero =>
      intro i v q μ' hi hv h1i hq b pi e
      apply hR
      unfold w4_takeNumber_b16_body
      simp (disch := omega) only [lJ0, lJ1, lJ2, lJ3, lJ4, lJ5, lJ6, lJ7, lJ8, lJ9, lJ10, lJ30, lJ32, lJ33, lJ39, lJ40, lJ41, lJ45, lJ47, lJ48, lJ51, lJ55, lJ57, lJ58, lJ59, lJ60, lJ64, lJ80, lJ82, lJ99, lJ100, lJ101, lJ123, lJ126, lJ282, lJ342, lJ1000, lJ1100, lJ2394, lJ2736, lJ9999, lJ10000, lJ1000000, lJ100000000, J_add, J_sub, J_mul, J_neg, J_le, J_lt, J_eq, J_in, J_clamp, Int.toNat_natCast]
      refine ⟨fun _ => ?_, fun z => absurd (by omega) z⟩
      rw [← e] at h1
      exact h1 μ' b pi
    | succ d ih =>
      intro i v q μ' hi hv h1i hq b pi e
      apply hR
      unfold w4_takeNumber_b16_body
      simp (disch := omega) only [lJ0, lJ1, lJ2, lJ3, lJ4, lJ5, lJ6, lJ7, lJ8, lJ9, lJ10, lJ30, lJ32, lJ33, lJ39, lJ40, lJ41, lJ45, lJ47, lJ48, lJ51, lJ55, lJ57, lJ58, lJ59, lJ60, lJ64, lJ80, lJ82, lJ99, lJ100, lJ101, lJ123, lJ126, lJ282, lJ342, lJ1000, lJ1100, lJ2394, lJ2736, lJ9999, lJ10000, lJ1000000, lJ100000000, J_add, J_sub, J_mul, J_neg, J_le, J_lt, J_eq, J_in, J_clamp, Int.toNat_natCast]
      refine ⟨fun z => by omega, fun _ => ?_⟩
      have vb : v < 10000 := by
        have : i = 1 ∨ i = 2 ∨ i = 3 := by omega
        rcases this with rfl | rfl | rfl <;> omega
      have rq := dgt_rg (l := l) (g := 9) (p := q) (by omega)
      rw [nmF_succ l 9 d v q] at e
      refine c_takeDigit_spec pi hc hq (g := 9) (by omega) rfl (fun c3 μ3 b3 p3 => ?_) (fun c3 => ?_)
      · rw [if_neg c3] at e
        simp (disch := omega) only [lJ0, lJ1, lJ2, lJ3, lJ4, lJ5, lJ6, lJ7, lJ8, lJ9, lJ10, lJ30, lJ32, lJ33, lJ39, lJ40, lJ41, lJ45, lJ47, lJ48, lJ51, lJ55, lJ57, lJ58, lJ59, lJ60, lJ64, lJ80, lJ82, lJ99, lJ100, lJ101, lJ123, lJ126, lJ282, lJ342, lJ1000, lJ1100, lJ2394, lJ2736, lJ9999, lJ10000, lJ1000000, lJ100000000, J_add, J_sub, J_mul, J_neg, J_le, J_lt, J_eq, J_in, J_clamp, Int.toNat_natCast]
        refine ⟨fun _ => ?_, fun z => absurd z c3⟩
        exact ih (i + 1) (10 * v + dgt l 9 q) (q + 1) μ3 (by omega) (by rw [Int.pow_succ]; omega) (by omega) (by omega) (b.tr b3) p3 e
      · rw [if_pos c3] at e
        simp (disch := omega) only [lJ0, lJ1, lJ2, lJ3, lJ4, lJ5, lJ6, lJ7, lJ8, lJ9, lJ10, lJ30, lJ32, lJ33, lJ39, lJ40, lJ41, lJ45, lJ47, lJ48, lJ51, lJ55, lJ57, lJ58, lJ59, lJ60, lJ64, lJ80, lJ82, lJ99, lJ100, lJ101, lJ123, lJ126, lJ282, lJ342, lJ1000, lJ1100, lJ2394, lJ2736, lJ9999, lJ10000, lJ1000000, lJ100000000, J_add, J_sub, J_mul, J_neg, J_le, J_lt, J_eq, J_in, J_clamp, Int.toNat_natCast]
        refine ⟨fun z => absurd trivial z, fun _ => ?_⟩
        rw [← e] at h1
        exact h1 μ' b pi
  · simp (disch := omega) only [lJ0, lJ1, lJ2, lJ3, lJ4, lJ5, lJ6, lJ7, lJ8, lJ9, lJ10, lJ30, lJ32, lJ33, lJ39, lJ40, lJ41, lJ45, lJ47, lJ48, lJ51, lJ55, lJ57, lJ58, lJ59, lJ60, lJ64, lJ80, lJ82, lJ99, lJ100, lJ101, lJ123, lJ126, lJ282, lJ342, lJ1000, lJ1100, lJ2394, lJ2736, lJ9999, lJ10000, lJ1000000, lJ100000000, J_add, J_sub, J_mul, J_neg, J_le, J_lt, J_eq, J_in, J_clamp, Int.toNat_natCast]
    exact ⟨fun z => absurd trivial z, fun _ => h0 c⟩
/-- nothing but the reading's place and the draft has changed -/
def FrD (μ μ' : Mem) : Prop := ∀ j k i, ¬ (j < 640 ∧ k = 2) → j ≠ 2434 → μ' j k i = μ j k i
theorem FrD.rf {μ : Mem} : FrD μ μ := fun _ _ _ _ _ => rfl
theorem FrD.tr {μ μ1 μ2 : Mem} (h1 : FrD μ μ1) (h2 : FrD μ1 μ2) : FrD μ μ2 := fun j k i a b => (h2 j k i a b).trans (h1 j k i a b)
theorem FrD.b {μ μ' : Mem} (h : Bt [2434] μ μ') : FrD μ μ' := fun j k i _ b => by rw [h j (by simpa using b)]
theorem FrD.s {μ μ' : Mem} (h : FrS 2 μ μ') : FrD μ μ' := fun j k i a _ => h j k i a
