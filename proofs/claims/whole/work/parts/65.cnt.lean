-- counting
theorem cnt_jump {p : Nat → Prop} [DecidablePred p] {a : Nat} : ∀ b, a ≤ b → (∀ q, a ≤ q → q < b → ¬ p q) → cnt p b = cnt p a := by
  intro b
  induction b with
  | zero => intro h _; rw [show a = 0 by omega]
  | succ b ih =>
    intro h hn
    by_cases c : a = b + 1
    · rw [c]
    · rw [cnt_succ, if_neg (hn b (by omega) (by omega))]
      exact ih (by omega) (fun q h1 h2 => hn q h1 (by omega))
theorem cnt_mono {p : Nat → Prop} [DecidablePred p] {a : Nat} : ∀ d, cnt p a ≤ cnt p (a + d) := by
  intro d
  induction d with
  | zero => exact Int.le_refl _
  | succ d ih =>
    rw [← Nat.add_assoc, cnt_succ]
    split <;> omega
theorem cnt_del {r : Nat → Prop} [DecidablePred r] {a : Nat} : ∀ m, a < m → r a → cnt r m = cnt (fun q => r q ∧ q ≠ a) m + 1 := by
  intro m
  induction m with
  | zero => intro h; omega
  | succ m ih =>
    intro h ha
    rw [cnt_succ, cnt_succ]
    by_cases c : a = m
    · subst c
      rw [if_pos ha, if_neg (fun z => z.2 rfl)]
      have : cnt (fun q => r q ∧ q ≠ a) a = cnt r a := cnt_cg (fun i hi => ⟨fun z => z.1, fun z => ⟨z, by omega⟩⟩)
      omega
    · have := ih (by omega) ha
      by_cases c2 : r m
      · rw [if_pos c2, if_pos ⟨c2, fun z => c z.symm⟩]; omega
      · rw [if_neg c2, if_neg (fun z => c2 z.1)]; omega
theorem cnt_none {r : Nat → Prop} [DecidablePred r] {m : Nat} (h : ∀ q, q < m → ¬ r q) : cnt r m = 0 := by
  rw [cnt_jump (a := 0) m (Nat.zero_le _) (fun q _ hq => h q hq)]
  rfl
/-- a count over one set and over its image -/
theorem cnt_bij {f : Nat → Nat} {m : Nat} : ∀ (n : Nat) (p r : Nat → Prop) [DecidablePred p] [DecidablePred r], (∀ i, i < n → p i → f i < m) → (∀ i j, i < n → j < n → p i → p j → f i = f j → i = j) → (∀ q, q < m → (r q ↔ ∃ i, i < n ∧ p i ∧ f i = q)) → cnt r m = cnt p n := by
  intro n
  induction n with
  | zero =>
    intro p r _ _ h1 h2 h3
    rw [cnt_none (fun q hq z => by obtain ⟨i, hi, -⟩ := (h3 q hq).mp z; omega)]
    rfl
  | succ n ih =>
    intro p r _ _ h1 h2 h3
    rw [cnt_succ]
    by_cases c : p n
    · rw [if_pos c, cnt_del (a := f n) m (h1 n (by omega) c) ((h3 _ (h1 n (by omega) c)).mpr ⟨n, by omega, c, rfl⟩)]
      rw [ih p (fun q => r q ∧ q ≠ f n) (fun i hi => h1 i (by omega)) (fun i j hi hj => h2 i j (by omega) (by omega)) (fun q hq => ?_)]
      constructor
      · rintro ⟨z1, z2⟩
        obtain ⟨i, hi, hp, hf⟩ := (h3 q hq).mp z1
        refine ⟨i, ?_, hp, hf⟩
        by_cases e : i = n
        · exact absurd (e ▸ hf).symm z2
        · omega
      · rintro ⟨i, hi, hp, hf⟩
        refine ⟨(h3 q hq).mpr ⟨i, by omega, hp, hf⟩, fun e => ?_⟩
        have := h2 i n (by omega) (by omega) hp c (by rw [hf, e])
        omega
    · rw [if_neg c]
      refine ih p r (fun i hi => h1 i (by omega)) (fun i j hi hj => h2 i j (by omega) (by omega)) (fun q hq => ?_)
      rw [h3 q hq]
      constructor
      · rintro ⟨i, hi, hp, hf⟩
        refine ⟨i, ?_, hp, hf⟩
        by_cases e : i = n
        · exact absurd (e ▸ hp) c
        · omega
      · rintro ⟨i, hi, hp, hf⟩
        exact ⟨i, by omega, hp, hf⟩
theorem cnt_img {f : Nat → Int} {m : Nat} : ∀ (n : Nat) (r : Nat → Prop) [DecidablePred r], (∀ q, q < m → r q → ∃ i, i < n ∧ f i = (q : Int)) → cnt r m ≤ n := by
  intro n
  induction n with
  | zero => intro r _ h; rw [cnt_none (fun q hq z => by obtain ⟨i, hi, -⟩ := h q hq z; omega)]; exact Int.le_refl _
  | succ n ih =>
    intro r _ h
    have k := ih (fun q => r q ∧ (q : Int) ≠ f n) (fun q hq z => by
      obtain ⟨i, hi, e⟩ := h q hq z.1
      refine ⟨i, ?_, e⟩
      by_cases y : i = n
      · exact absurd (y ▸ e).symm z.2
      · omega)
    by_cases c : ∃ q, q < m ∧ r q ∧ (q : Int) = f n
    · obtain ⟨a, a1, a2, a3⟩ := c
      rw [cnt_del (a := a) m a1 a2]
      have : cnt (fun q => r q ∧ q ≠ a) m = cnt (fun q => r q ∧ (q : Int) ≠ f n) m := cnt_cg (fun i hi => ⟨fun z => ⟨z.1, by omega⟩, fun z => ⟨z.1, by omega⟩⟩)
      omega
    · have : cnt r m = cnt (fun q => r q ∧ (q : Int) ≠ f n) m := cnt_cg (fun i hi => ⟨fun z => ⟨z, fun e => c ⟨i, hi, z, e⟩⟩, fun z => z.1⟩)
      omega
/-- the k-th number that has p, from q on -/
def nthq (p : Nat → Prop) [DecidablePred p] : Nat → Int → Nat → Int
  | 0, _, _ => -1
  | d + 1, k, q => if p q then (if k = 0 then (q : Int) else nthq p d (k - 1) (q + 1)) else nthq p d k (q + 1)
theorem nthq_skip {p : Nat → Prop} [DecidablePred p] {k : Int} {a : Nat} : ∀ (c d : Nat), (∀ q, a ≤ q → q < a + c → ¬ p q) → nthq p (c + d) k a = nthq p d k (a + c) := by
  intro c
  induction c generalizing a with
  | zero => intro d _; rw [Nat.zero_add, Nat.add_zero]
  | succ c ih =>
    intro d h
    rw [show c + 1 + d = (c + d) + 1 by omega]
    show (if p a then (if k = 0 then (a : Int) else nthq p (c + d) (k - 1) (a + 1)) else nthq p (c + d) k (a + 1)) = _
    rw [if_neg (h a (by omega) (by omega)), ih d (fun q h1 h2 => h q (by omega) (by omega)), show a + 1 + c = a + (c + 1) by omega]
theorem nthq_neg {p : Nat → Prop} [DecidablePred p] : ∀ (d : Nat) (k : Int) (a : Nat), k < 0 → nthq p d k a = -1 := by
  intro d
  induction d with
  | zero => intro k a _; rfl
  | succ d ih =>
    intro k a hk
    unfold nthq
    rw [if_neg (show ¬ k = 0 by omega), ih _ _ hk, ih _ _ (by omega)]
    split <;> rfl
theorem nthq_big {p : Nat → Prop} [DecidablePred p] : ∀ (d : Nat) (k : Int) (a : Nat), cnt p (a + d) - cnt p a ≤ k → nthq p d k a = -1 := by
  intro d
  induction d with
  | zero => intro k a _; rfl
  | succ d ih =>
    intro k a hk
    have e : a + (d + 1) = a + 1 + d := by omega
    rw [e] at hk
    have m := cnt_mono (p := p) (a := a + 1) d
    unfold nthq
    rw [cnt_succ] at m
    by_cases c : p a
    · rw [if_pos c] at m ⊢
      rw [if_neg (by omega)]
      exact ih _ _ (by rw [cnt_succ, if_pos c]; omega)
    · rw [if_neg c]
      exact ih _ _ (by rw [cnt_succ, if_neg c]; omega)
theorem nthq_all {p : Nat → Prop} [DecidablePred p] {k : Int} {a d : Nat} (h : ∀ q, a ≤ q → q < a + d → ¬ p q) : nthq p d k a = -1 := by
  have := nthq_skip (k := k) d 0 h
  rw [Nat.add_zero] at this
  rw [this]
  rfl
-- the k-th in the order of the spans
def nthe (n : Nat) (w : View) (p : Nat → Prop) [DecidablePred p] (k : Int) : Nat → Nat → Int
  | 0, _ => -1
  | d + 1, i => if p i ∧ cnt (fun j => p j ∧ erl n w j i) n = k then (i : Int) else nthe n w p k d (i + 1)
theorem nthe_at {n : Nat} {w : View} {p : Nat → Prop} [DecidablePred p] {k : Int} : ∀ d i, (nthe n w p k d i = -1 ∧ ∀ j, i ≤ j → j < i + d → ¬ (p j ∧ cnt (fun l => p l ∧ erl n w l j) n = k)) ∨ (∃ j, i ≤ j ∧ j < i + d ∧ nthe n w p k d i = j ∧ p j ∧ cnt (fun l => p l ∧ erl n w l j) n = k) := by
  intro d
  induction d with
  | zero => intro i; exact Or.inl ⟨rfl, fun j h1 h2 => by omega⟩
  | succ d ih =>
    intro i
    unfold nthe
    by_cases c : p i ∧ cnt (fun j => p j ∧ erl n w j i) n = k
    · rw [if_pos c]
      exact Or.inr ⟨i, by omega, by omega, rfl, c⟩
    · rw [if_neg c]
      rcases ih (i + 1) with ⟨e, h⟩ | ⟨j, h1, h2, h3⟩
      · refine Or.inl ⟨e, fun j h1 h2 => ?_⟩
        by_cases y : j = i
        · rw [y]; exact c
        · exact h j (by omega) (by omega)
      · exact Or.inr ⟨j, by omega, by omega, h3⟩
/-- how many come before the one at a rank -/
theorem cnt_rank {n : Nat} {w : View} (hw : WF n w) {od : Nat → Nat} (o1 : ∀ r, r < n → od r < n) (o2 : ∀ r s, r < s → s < n → erl n w (od r) (od s)) (o3 : ∀ i, i < n → ∃ r, r < n ∧ od r = i) (p : Nat → Prop) [DecidablePred p] {r : Nat} (hr : r < n) : cnt (fun j => p j ∧ erl n w j (od r)) n = cnt (fun s => p (od s)) r := by
  have irr : ∀ a b, a < n → b < n → erl n w (od a) (od b) → a < b := fun a b ha hb h => by
    rcases Nat.lt_trichotomy a b with y | y | y
    · exact y
    · subst y; unfold erl at h; omega
    · have := o2 b a y ha
      unfold erl at h this
      omega
  have inj : ∀ a b, a < n → b < n → od a = od b → a = b := fun a b ha hb e => by
    rcases Nat.lt_trichotomy a b with y | y | y
    · have := o2 a b y hb
      rw [e] at this
      unfold erl at this
      omega
    · exact y
    · have := o2 b a y ha
      rw [e] at this
      unfold erl at this
      omega
  refine cnt_bij (f := od) r (fun s => p (od s)) (fun j => p j ∧ erl n w j (od r)) (fun i hi _ => o1 i (by omega)) (fun i j hi hj _ _ e => inj i j (by omega) (by omega) e) (fun q hq => ?_)
  constructor
  · rintro ⟨z1, z2⟩
    obtain ⟨s, hs, e⟩ := o3 q hq
    refine ⟨s, ?_, by rw [e]; exact z1, e⟩
    exact irr s r hs hr (by rw [e]; exact z2)
  · rintro ⟨s, hs, hp, e⟩
    rw [← e]
    exact ⟨hp, o2 s r hs hr⟩
/-- the two ways to find the k-th are one -/
theorem nthe_rank {n : Nat} {w : View} (hw : WF n w) {od : Nat → Nat} (o1 : ∀ r, r < n → od r < n) (o2 : ∀ r s, r < s → s < n → erl n w (od r) (od s)) (o3 : ∀ i, i < n → ∃ r, r < n ∧ od r = i) (p : Nat → Prop) [DecidablePred p] {k : Int} : (∀ r, r < n → p (od r) → cnt (fun s => p (od s)) r = k → nthe n w p k n 0 = od r) ∧ ((∀ r, r < n → p (od r) → cnt (fun s => p (od s)) r ≠ k) → nthe n w p k n 0 = -1) := by
  refine ⟨fun r hr hp hk => ?_, fun hn => ?_⟩
  · rcases nthe_at (n := n) (w := w) (p := p) (k := k) n 0 with ⟨e, h⟩ | ⟨j, h1, h2, h3, h4, h5⟩
    · exact absurd ⟨hp, by rw [cnt_rank hw o1 o2 o3 p hr]; exact hk⟩ (h (od r) (Nat.zero_le _) (by have := o1 r hr; omega))
    · obtain ⟨s, hs, e⟩ := o3 j (by omega)
      rw [← e] at h4 h5
      rw [cnt_rank hw o1 o2 o3 p hs] at h5
      have : s = r := by
        rcases Nat.lt_trichotomy s r with y | y | y
        · have m := cnt_mono (p := fun s => p (od s)) (a := s + 1) (r - (s + 1))
          rw [show s + 1 + (r - (s + 1)) = r by omega, cnt_succ, if_pos h4] at m
          omega
        · exact y
        · have m := cnt_mono (p := fun s => p (od s)) (a := r + 1) (s - (r + 1))
          rw [show r + 1 + (s - (r + 1)) = s by omega, cnt_succ, if_pos hp] at m
          omega
      rw [h3, ← e, this]
  · rcases nthe_at (n := n) (w := w) (p := p) (k := k) n 0 with ⟨e, h⟩ | ⟨j, h1, h2, h3, h4, h5⟩
    · exact e
    · obtain ⟨s, hs, e⟩ := o3 j (by omega)
      rw [← e] at h4 h5
      rw [cnt_rank hw o1 o2 o3 p hs] at h5
      exact absurd h5 (hn s hs h4)
