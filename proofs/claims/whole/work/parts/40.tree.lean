-- needs: 20
-- chains and cycles
theorem pigeon : ∀ (n : Nat) (f : Nat → Nat) (m : Nat), (∀ i, i < m → f i < n) → (∀ i j, i < m → j < m → f i = f j → i = j) → m ≤ n := by
  intro n
  induction n with
  | zero =>
    intro f m h _
    match m with
    | 0 => exact Nat.le_refl _
    | m + 1 => exact absurd (h 0 (by omega)) (by omega)
  | succ n ih =>
    intro f m h hi
    match m, h, hi with
    | 0, _, _ => omega
    | m + 1, h, hi =>
      have := ih (fun i => if f i = n then f m else f i) m (fun i him => by
        have a := h i (by omega)
        have b := h m (by omega)
        have c := hi i m (by omega) (by omega)
        try dsimp only
        split
        · omega
        · omega) (fun i j hi1 hj1 e => by
        have a := hi i j (by omega) (by omega)
        have b := hi i m (by omega) (by omega)
        have c := hi j m (by omega) (by omega)
        try dsimp only at e
        split at e <;> split at e <;> first | omega | exact a e)
      omega
/-- one step up; -1 stays -1 -/
def stp (f : Nat → Int) (x : Int) : Int := if x < 0 then -1 else f x.toNat
def ch (f : Nat → Int) : Nat → Int → Int
  | 0, x => x
  | k + 1, x => ch f k (stp f x)
theorem ch_succ {f : Nat → Int} : ∀ k x, ch f (k + 1) x = stp f (ch f k x) := by
  intro k
  induction k with
  | zero => intro x; rfl
  | succ k ih => intro x; exact ih (stp f x)
theorem ch_add {f : Nat → Int} (a : Nat) : ∀ b x, ch f (a + b) x = ch f b (ch f a x) := by
  induction a with
  | zero => intro b x; rw [Nat.zero_add]; rfl
  | succ a ih => intro b x; rw [show a + 1 + b = a + b + 1 by omega]; exact ih b (stp f x)
/-- a parent map on the places below n -/
def Pm (n : Nat) (f : Nat → Int) : Prop := ∀ i, i < n → -1 ≤ f i ∧ f i < n
theorem ch_rg {n : Nat} {f : Nat → Int} (h : Pm n f) : ∀ (k : Nat) (x : Int), -1 ≤ x → x < n → -1 ≤ ch f k x ∧ ch f k x < n := by
  intro k
  induction k with
  | zero => intro x h1 h2; exact ⟨h1, h2⟩
  | succ k ih =>
    intro x h1 h2
    refine ih _ ?_ ?_
    · unfold stp
      split
      · omega
      · exact (h x.toNat (by omega)).1
    · unfold stp
      split
      · omega
      · exact (h x.toNat (by omega)).2
theorem ch_neg {f : Nat → Int} : ∀ k, ch f k (-1) = -1 := by
  intro k
  induction k with
  | zero => rfl
  | succ k ih => exact ih
theorem ch_pos {f : Nat → Int} {k : Nat} {x : Int} (h : 0 ≤ ch f k x) {j : Nat} (hj : j ≤ k) (hx : ∀ y, ch f j x = y → -1 ≤ y) : 0 ≤ ch f j x := by
  have := hx _ rfl
  by_cases c : ch f j x = -1
  · have e := ch_add (f := f) j (k - j) x
    rw [show j + (k - j) = k by omega, c, ch_neg] at e
    omega
  · omega
/-- following the parents from x: is i met before a lower id -/
def cyF (f id : Nat → Int) (i : Nat) : Nat → Int → Bool
  | 0, _ => false
  | d + 1, x => if x < 0 then false else if x = i then true else if id x.toNat < id i then false else cyF f id i d (f x.toNat)
theorem cyF_true {f id : Nat → Int} {i : Nat} : ∀ d x, (∀ j, j < d → 0 ≤ ch f j x ∧ ¬ id (ch f j x).toNat < id i) → (∃ k, k < d ∧ ch f k x = i) → cyF f id i d x = true := by
  intro d
  induction d with
  | zero => intro x _ ⟨k, hk, _⟩; omega
  | succ d ih =>
    intro x h ⟨k, hk, e⟩
    have h0 := h 0 (by omega)
    have h0 : 0 ≤ x ∧ ¬ id x.toNat < id i := h0
    unfold cyF
    rw [if_neg (by omega)]
    by_cases y : x = i
    · rw [if_pos y]
    · rw [if_neg y, if_neg h0.2]
      have sx : stp f x = f x.toNat := by unfold stp; rw [if_neg (by omega)]
      refine ih _ (fun j hj => ?_) ?_
      · have := h (j + 1) (by omega)
        rw [← sx]
        exact this
      · match k, hk, e with
        | 0, _, e => exact absurd e y
        | k + 1, hk, e => exact ⟨k, by omega, by rw [← sx]; exact e⟩
theorem cyF_hit {f id : Nat → Int} {i : Nat} : ∀ d x, cyF f id i d x = true → ∃ k, k < d ∧ ch f k x = i ∧ (∀ j, j ≤ k → 0 ≤ ch f j x) ∧ (∀ j, j < k → ch f j x ≠ i ∧ ¬ id (ch f j x).toNat < id i) := by
  intro d
  induction d with
  | zero => intro x h; exact absurd h (by simp [cyF])
  | succ d ih =>
    intro x h
    unfold cyF at h
    split at h
    · exact absurd h (by simp)
    · rename_i h1
      have sx : stp f x = f x.toNat := by unfold stp; rw [if_neg (by omega)]
      split at h
      · rename_i h2
        refine ⟨0, by omega, h2, fun j hj => ?_, fun j hj => absurd hj (by omega)⟩
        rw [show j = 0 by omega]
        exact Int.not_lt.mp h1
      · rename_i h2
        split at h
        · exact absurd h (by simp)
        · rename_i h3
          obtain ⟨k, k1, k2, k3, k4⟩ := ih _ h
          rw [← sx] at k2 k3 k4
          refine ⟨k + 1, by omega, k2, fun j hj => ?_, fun j hj => ?_⟩
          · match j with
            | 0 => exact Int.not_lt.mp h1
            | j + 1 => exact k3 j (by omega)
          · match j with
            | 0 => exact ⟨h2, h3⟩
            | j + 1 => exact k4 j (by omega)
theorem cyF_mono {f id : Nat → Int} {i : Nat} : ∀ d x, cyF f id i d x = true → cyF f id i (d + 1) x = true := by
  intro d
  induction d with
  | zero => intro x h; exact absurd h (by simp [cyF])
  | succ d ih =>
    intro x h
    unfold cyF at h ⊢
    split
    · rename_i h1; rw [if_pos h1] at h; exact h
    · rename_i h1
      rw [if_neg h1] at h
      split
      · rfl
      · rename_i h2
        rw [if_neg h2] at h
        split
        · rename_i h3; rw [if_pos h3] at h; exact h
        · rename_i h3; rw [if_neg h3] at h; exact ih _ h
theorem cyF_le {f id : Nat → Int} {i : Nat} {x : Int} {d : Nat} (h : cyF f id i d x = true) : ∀ e, cyF f id i (d + e) x = true := by
  intro e
  induction e with
  | zero => exact h
  | succ e ih => exact cyF_mono _ _ ih
/-- forty steps tell all -/
theorem cyF_st {n : Nat} {f id : Nat → Int} (h : Pm n f) {i : Nat} {d e : Nat} (hd : n ≤ d) (he : n ≤ e) {x : Int} (hx : -1 ≤ x ∧ x < n) : cyF f id i d x = cyF f id i e x := by
  have key : ∀ d e, n ≤ e → cyF f id i d x = true → cyF f id i e x = true := by
    intro d e he hh
    obtain ⟨k, k1, k2, k3, k4⟩ := cyF_hit d x hh
    have inj : k + 1 ≤ n := pigeon n (fun j => (ch f j x).toNat) (k + 1) (fun j hj => by
      have := ch_rg h j x hx.1 hx.2
      have := k3 j (by omega)
      try dsimp only
      omega) (fun a b ha hb e => by
      try dsimp only at e
      have e1 := k3 a (by omega)
      have e2 := k3 b (by omega)
      have e3 : ch f a x = ch f b x := by omega
      rcases Nat.lt_trichotomy a b with c | c | c
      · exfalso
        have q1 := ch_add (f := f) a (k - b) x
        have q2 := ch_add (f := f) b (k - b) x
        rw [show b + (k - b) = k by omega, ← e3, ← q1, k2] at q2
        exact (k4 (a + (k - b)) (by omega)).1 q2.symm
      · exact c
      · exfalso
        have q1 := ch_add (f := f) b (k - a) x
        have q2 := ch_add (f := f) a (k - a) x
        rw [show a + (k - a) = k by omega, e3, ← q1, k2] at q2
        exact (k4 (b + (k - a)) (by omega)).1 q2.symm)
    have : cyF f id i (k + 1) x = true := cyF_true _ _ (fun j hj => by
      rcases Nat.lt_or_ge j k with c | c
      · exact ⟨k3 j (by omega), (k4 j c).2⟩
      · rw [show j = k by omega, k2]
        exact ⟨by omega, by rw [Int.toNat_natCast]; omega⟩) ⟨k, by omega, k2⟩
    have := cyF_le this (e - (k + 1))
    rw [show k + 1 + (e - (k + 1)) = e by omega] at this
    exact this
  cases a : cyF f id i d x with
  | true => exact (key d e he a).symm
  | false =>
    cases b : cyF f id i e x with
    | false => rfl
    | true => rw [key e d hd b] at a; exact absurd a (by simp)
/-- the parents without the lowest ones of the cycles -/
def tpf (f id : Nat → Int) (i : Nat) : Int := if f i < 0 then -1 else if cyF f id i 40 (f i) = true then -1 else f i
theorem tpf_or {f id : Nat → Int} {i : Nat} : tpf f id i = -1 ∨ tpf f id i = f i ∧ 0 ≤ f i := by
  unfold tpf
  split
  · exact Or.inl rfl
  · split
    · exact Or.inl rfl
    · exact Or.inr ⟨rfl, by omega⟩
theorem tpf_pm {n : Nat} {f id : Nat → Int} (h : Pm n f) : Pm n (tpf f id) := by
  intro i hi
  have := h i hi
  rcases tpf_or (f := f) (id := id) (i := i) with e | ⟨e, _⟩ <;> rw [e] <;> omega
theorem minid (g : Nat → Int) (a : Nat) : ∀ L, ∃ m, a ≤ m ∧ m ≤ a + L ∧ ∀ j, a ≤ j → j ≤ a + L → g m ≤ g j := by
  intro L
  induction L with
  | zero => exact ⟨a, by omega, by omega, fun j h1 h2 => by rw [show j = a by omega]; exact Int.le_refl _⟩
  | succ L ih =>
    obtain ⟨m, h1, h2, h3⟩ := ih
    by_cases c : g m ≤ g (a + (L + 1))
    · refine ⟨m, h1, by omega, fun j j1 j2 => ?_⟩
      rcases Nat.lt_or_ge j (a + (L + 1)) with y | y
      · exact h3 j j1 (by omega)
      · rw [show j = a + (L + 1) by omega]; exact c
    · refine ⟨a + (L + 1), by omega, by omega, fun j j1 j2 => ?_⟩
      rcases Nat.lt_or_ge j (a + (L + 1)) with y | y
      · have := h3 j j1 (by omega); omega
      · rw [show j = a + (L + 1) by omega]; exact Int.le_refl _
theorem tree200 {n : Nat} {f id : Nat → Int} (h : Pm n f) (hn : n ≤ 40) {x : Int} (hx : -1 ≤ x ∧ x < n) : ch (tpf f id) 200 x = -1 := by
  have hp := tpf_pm (id := id) h
  have rg := fun k => ch_rg hp k x hx.1 hx.2
  by_cases c : ch (tpf f id) 200 x = -1
  · exact c
  exfalso
  have pos : ∀ k, k ≤ 200 → 0 ≤ ch (tpf f id) k x := fun k hk => ch_pos (k := 200) (by have := rg 200; omega) hk (fun y e => by rw [← e]; exact (rg k).1)
  have nx : ∀ k, k < 200 → ch (tpf f id) (k + 1) x = tpf f id (ch (tpf f id) k x).toNat ∧ ch (tpf f id) (k + 1) x = f (ch (tpf f id) k x).toNat := fun k hk => by
    have e := ch_succ (f := tpf f id) k x
    have p1 := pos k (by omega)
    have p2 := pos (k + 1) (by omega)
    unfold stp at e
    rw [if_neg (by omega)] at e
    refine ⟨e, ?_⟩
    rcases tpf_or (f := f) (id := id) (i := (ch (tpf f id) k x).toNat) with y | ⟨y, _⟩
    · omega
    · omega
  -- two are the same
  have dup : ∃ a b, a < b ∧ b ≤ n ∧ ch (tpf f id) a x = ch (tpf f id) b x := by
    refine Classical.byContradiction fun hc => ?_
    have := pigeon n (fun j => (ch (tpf f id) j x).toNat) (n + 1) (fun j hj => by
      have := rg j
      have := pos j (by omega)
      try dsimp only
      omega) (fun a b ha hb e => by
      try dsimp only at e
      have e1 := pos a (by omega)
      have e2 := pos b (by omega)
      have e3 : ch (tpf f id) a x = ch (tpf f id) b x := by omega
      rcases Nat.lt_trichotomy a b with c | c | c
      · exact absurd ⟨a, b, c, by omega, e3⟩ hc
      · exact c
      · exact absurd ⟨b, a, c, by omega, e3.symm⟩ hc)
    omega
  obtain ⟨a, b, ab, bn, e⟩ := dup
  have per : ∀ t, ch (tpf f id) (b + t) x = ch (tpf f id) (a + t) x := fun t => by rw [ch_add, ch_add, e]
  obtain ⟨m, m1, m2, m3⟩ := minid (fun j => id (ch (tpf f id) j x).toNat) a (b - a - 1)
  have all : ∀ N t, t ≤ N → a ≤ t → id (ch (tpf f id) m x).toNat ≤ id (ch (tpf f id) t x).toNat := by
    intro N
    induction N with
    | zero => intro t t1 t2; exact m3 t t2 (by omega)
    | succ N ih =>
      intro t t1 t2
      rcases Nat.lt_or_ge t b with y | y
      · exact m3 t t2 (by omega)
      · have := per (t - b)
        rw [show b + (t - b) = t by omega] at this
        rw [this]
        exact ih _ (by omega) (by omega)
  -- the lowest is cut
  have fch : ∀ j, j < 100 → ch f j (f (ch (tpf f id) m x).toNat) = ch (tpf f id) (m + 1 + j) x := by
    intro j
    induction j with
    | zero => intro _; exact (nx m (by omega)).2.symm
    | succ j ih =>
      intro hj
      rw [ch_succ, ih (by omega)]
      have := (nx (m + 1 + j) (by omega)).2
      have p := pos (m + 1 + j) (by omega)
      unfold stp
      rw [if_neg (by omega)]
      exact this.symm
  have pm := pos m (by omega)
  have ct : cyF f id (ch (tpf f id) m x).toNat 40 (f (ch (tpf f id) m x).toNat) = true := by
    refine cyF_true _ _ (fun j hj => ?_) ⟨b - a - 1, by omega, ?_⟩
    · rw [fch j (by omega)]
      refine ⟨pos _ (by omega), ?_⟩
      have := all (m + 1 + j) (m + 1 + j) (by omega) (by omega)
      omega
    · rw [fch _ (by omega)]
      have := per (m - a)
      rw [show b + (m - a) = m + 1 + (b - a - 1) by omega, show a + (m - a) = m by omega] at this
      rw [this]
      omega
  have z := (nx m (by omega)).1
  have p2 := pos (m + 1) (by omega)
  have z2 : tpf f id (ch (tpf f id) m x).toNat = -1 := by
    generalize (ch (tpf f id) m x).toNat = v at ct ⊢
    unfold tpf
    rw [if_pos ct, ite_self]
  omega
theorem tree40 {n : Nat} {f id : Nat → Int} (h : Pm n f) (hn : n ≤ 40) {x : Int} (hx : -1 ≤ x ∧ x < n) : ch (tpf f id) 40 x = -1 := by
  have hp := tpf_pm (id := id) h
  have rg := fun k => ch_rg hp k x hx.1 hx.2
  have stay : ∀ k m, ch (tpf f id) k x = -1 → ch (tpf f id) (k + m) x = -1 := fun k m e => by rw [ch_add, e, ch_neg]
  by_cases c : ch (tpf f id) 40 x = -1
  · exact c
  exfalso
  have pos : ∀ k, k ≤ 40 → 0 ≤ ch (tpf f id) k x := fun k hk => ch_pos (k := 40) (by have := rg 40; omega) hk (fun y e => by rw [← e]; exact (rg k).1)
  have dup : ∃ a b, a < b ∧ b ≤ n ∧ ch (tpf f id) a x = ch (tpf f id) b x := by
    refine Classical.byContradiction fun hc => ?_
    have := pigeon n (fun j => (ch (tpf f id) j x).toNat) (n + 1) (fun j hj => by
      have := rg j
      have := pos j (by omega)
      try dsimp only
      omega) (fun a b ha hb e => by
      try dsimp only at e
      have e1 := pos a (by omega)
      have e2 := pos b (by omega)
      have e3 : ch (tpf f id) a x = ch (tpf f id) b x := by omega
      rcases Nat.lt_trichotomy a b with c | c | c
      · exact absurd ⟨a, b, c, by omega, e3⟩ hc
      · exact c
      · exact absurd ⟨b, a, c, by omega, e3.symm⟩ hc)
    omega
  obtain ⟨a, b, ab, bn, e⟩ := dup
  have per : ∀ t, ch (tpf f id) (b + t) x = ch (tpf f id) (a + t) x := fun t => by rw [ch_add, ch_add, e]
  have all : ∀ N t, t ≤ N → 0 ≤ ch (tpf f id) t x := by
    intro N
    induction N with
    | zero => intro t t1; exact pos t (by omega)
    | succ N ih =>
      intro t t1
      rcases Nat.lt_or_ge t b with y | y
      · exact pos t (by omega)
      · have := per (t - b)
        rw [show b + (t - b) = t by omega] at this
        rw [this]
        exact ih _ (by omega)
  have := all 200 200 (by omega)
  have := tree200 (id := id) h hn hx
  omega
/-- a fold along the way up -/
def along {α : Type} (t : Nat → Int) (z : Nat → α) (g : Nat → α → α) : Nat → Nat → α
  | 0, i => z i
  | d + 1, i => if t i < 0 then z i else g i (along t z g d (t i).toNat)
theorem along_st {α : Type} {t : Nat → Int} {z : Nat → α} {g : Nat → α → α} : ∀ (d i : Nat), ch t (d + 1) (i : Int) = -1 → along t z g d i = along t z g (d + 1) i := by
  intro d
  induction d with
  | zero =>
    intro i h
    have h : stp t i = -1 := h
    unfold stp at h
    rw [if_neg (by omega), Int.toNat_natCast] at h
    unfold along
    rw [if_pos (by omega)]
  | succ d ih =>
    intro i h
    unfold along
    by_cases c : t i < 0
    · rw [if_pos c, if_pos c]
    · rw [if_neg c, if_neg c, ih]
      have h : ch t (d + 1) (stp t i) = -1 := h
      unfold stp at h
      rw [if_neg (by omega), Int.toNat_natCast] at h
      rw [show (((t i).toNat : Nat) : Int) = t i by omega]
      exact h
def al {α : Type} (t : Nat → Int) (z : Nat → α) (g : Nat → α → α) (i : Nat) : α := along t z g 40 i
/-- all ways end within forty steps -/
def Tr (n : Nat) (t : Nat → Int) : Prop := Pm n t ∧ ∀ x : Int, -1 ≤ x ∧ x < n → ch t 40 x = -1
theorem al_eq {α : Type} {n : Nat} {t : Nat → Int} (h : Tr n t) {z : Nat → α} {g : Nat → α → α} {i : Nat} (hi : i < n) : al t z g i = if t i < 0 then z i else g i (al t z g (t i).toNat) := by
  unfold al
  rw [along_st 40 i (by rw [ch_succ, h.2 i (by omega)]; rfl)]
  rfl
def dep (t : Nat → Int) (i : Nat) : Nat := al t (fun _ => 0) (fun _ r => r + 1) i
theorem dep_eq {n : Nat} {t : Nat → Int} (h : Tr n t) {i : Nat} (hi : i < n) : dep t i = if t i < 0 then 0 else dep t (t i).toNat + 1 := al_eq h hi
theorem dep_lt {n : Nat} {t : Nat → Int} (h : Tr n t) : ∀ (d i : Nat), i < n → ch t (d + 1) (i : Int) = -1 → dep t i ≤ d := by
  intro d
  induction d with
  | zero =>
    intro i hi e
    have e : stp t i = -1 := e
    unfold stp at e
    rw [if_neg (by omega), Int.toNat_natCast] at e
    rw [dep_eq h hi, if_pos (by omega)]
    exact Nat.le_refl _
  | succ d ih =>
    intro i hi e
    rw [dep_eq h hi]
    split
    · omega
    · have e : ch t (d + 1) (stp t i) = -1 := e
      have r := h.1 i hi
      unfold stp at e
      rw [if_neg (by omega), Int.toNat_natCast] at e
      have := ih (t i).toNat (by omega) (by rw [show (((t i).toNat : Nat) : Int) = t i by omega]; exact e)
      omega
theorem dep40 {n : Nat} {t : Nat → Int} (h : Tr n t) {i : Nat} (hi : i < n) : dep t i < 40 := by
  have := dep_lt h 39 i hi (h.2 i (by omega))
  omega
/-- induction from the top down -/
theorem tr_ind {n : Nat} {t : Nat → Int} (h : Tr n t) {Q : Nat → Prop} (s : ∀ i, i < n → (0 ≤ t i → Q (t i).toNat) → Q i) : ∀ i, i < n → Q i := by
  have H : ∀ d i, i < n → dep t i ≤ d → Q i := by
    intro d
    induction d with
    | zero =>
      intro i hi e
      refine s i hi (fun c => ?_)
      rw [dep_eq h hi, if_neg (by omega)] at e
      omega
    | succ d ih =>
      intro i hi e
      refine s i hi (fun c => ?_)
      have r := h.1 i hi
      rw [dep_eq h hi, if_neg (by omega)] at e
      exact ih _ (by omega) (by omega)
  exact fun i hi => H _ i hi (Nat.le_refl _)
