-- needs: 20
-- the matrix of the bounds: 1000000 where there is none
abbrev Mx : Type := Nat → Nat → Int
def tg (E : Mx) (h l : Nat) (b : Int) : Mx := fun a c => if E a h = 1000000 ∨ E l c = 1000000 then E a c else if E a h + b + E l c < E a c then E a h + b + E l c else E a c
/-- nulls on the diagonal, no bound can be made tighter by a detour, all bounds within K -/
def Ti (K : Int) (E : Mx) : Prop := (∀ a, a < 8 → E a a = 0) ∧ (∀ a m c, a < 8 → m < 8 → c < 8 → E a m ≠ 1000000 → E m c ≠ 1000000 → E a c ≤ E a m + E m c ∧ E a c ≠ 1000000) ∧ ∀ a c, a < 8 → c < 8 → E a c = 1000000 ∨ (-K ≤ E a c ∧ E a c ≤ K)
theorem tg_le1 {E : Mx} {h l a c : Nat} {b : Int} (k : E a c ≠ 1000000) : tg E h l b a c ≤ E a c := by
  unfold tg
  split
  · omega
  · split <;> omega
theorem tg_le2 {E : Mx} {h l a c : Nat} {b : Int} (k1 : E a h ≠ 1000000) (k2 : E l c ≠ 1000000) : tg E h l b a c ≤ E a h + b + E l c := by
  unfold tg
  rw [if_neg (by omega)]
  split <;> omega
theorem tg_cs {E : Mx} {h l a c : Nat} {b : Int} : tg E h l b a c = E a c ∨ (E a h ≠ 1000000 ∧ E l c ≠ 1000000 ∧ tg E h l b a c = E a h + b + E l c) := by
  unfold tg
  split
  · exact Or.inl rfl
  · split
    · exact Or.inr ⟨by omega, by omega, rfl⟩
    · exact Or.inl rfl
theorem tg_Ti {K : Int} {E : Mx} (t : Ti K E) (hK : 0 ≤ K ∧ K ≤ 400000) {h l : Nat} (hh : h < 8) (hl : l < 8) {b : Int} (hb : -9999 ≤ b ∧ b ≤ 9999) (f : E l h = 1000000 ∨ 0 ≤ b + E l h) : Ti (2 * K + 9999) (tg E h l b) := by
  obtain ⟨t0, t1, t2⟩ := t
  have rg : ∀ a c, a < 8 → c < 8 → E a h ≠ 1000000 → E l c ≠ 1000000 → -(2 * K + 9999) ≤ E a h + b + E l c ∧ E a h + b + E l c ≤ 2 * K + 9999 := fun a c ha hc k1 k2 => by
    have := t2 a h ha hh
    have := t2 l c hl hc
    omega
  refine ⟨fun a ha => ?_, fun a m c ha hm hc k1 k2 => ?_, fun a c ha hc => ?_⟩
  · have e := t0 a ha
    have z := tg_le1 (E := E) (h := h) (l := l) (a := a) (c := a) (b := b) (by omega)
    rcases tg_cs (E := E) (h := h) (l := l) (a := a) (c := a) (b := b) with y | ⟨y1, y2, y3⟩
    · omega
    · have := t1 l a h hl ha hh y2 y1
      omega
  · have bd : (E a h ≠ 1000000 ∧ E l c ≠ 1000000) ∨ E a c ≠ 1000000 → tg E h l b a c ≠ 1000000 := by
      intro y
      unfold tg
      rcases y with y | y
      · rw [if_neg (by omega)]
        have := rg a c ha hc y.1 y.2
        split <;> omega
      · split
        · exact y
        · have := rg a c ha hc (by omega) (by omega)
          split <;> omega
    rcases tg_cs (E := E) (h := h) (l := l) (a := a) (c := m) (b := b) with y | ⟨y1, y2, y3⟩
    · rcases tg_cs (E := E) (h := h) (l := l) (a := m) (c := c) (b := b) with z | ⟨z1, z2, z3⟩
      · have q := t1 a m c ha hm hc (by omega) (by omega)
        have := tg_le1 (E := E) (h := h) (l := l) (a := a) (c := c) (b := b) q.2
        exact ⟨by omega, bd (Or.inr q.2)⟩
      · have q := t1 a m h ha hm hh (by omega) (by omega)
        have := tg_le2 (E := E) (h := h) (l := l) (a := a) (c := c) (b := b) q.2 z2
        exact ⟨by omega, bd (Or.inl ⟨q.2, z2⟩)⟩
    · rcases tg_cs (E := E) (h := h) (l := l) (a := m) (c := c) (b := b) with z | ⟨z1, z2, z3⟩
      · have q := t1 l m c hl hm hc (by omega) (by omega)
        have := tg_le2 (E := E) (h := h) (l := l) (a := a) (c := c) (b := b) y1 q.2
        exact ⟨by omega, bd (Or.inl ⟨y1, q.2⟩)⟩
      · have q := t1 l m h hl hm hh y2 z1
        have := tg_le2 (E := E) (h := h) (l := l) (a := a) (c := c) (b := b) y1 z2
        exact ⟨by omega, bd (Or.inl ⟨y1, z2⟩)⟩
  · rcases tg_cs (E := E) (h := h) (l := l) (a := a) (c := c) (b := b) with y | ⟨y1, y2, y3⟩
    · have := t2 a c ha hc
      omega
    · have := rg a c ha hc y1 y2
      omega
/-- no change where the bound is there -/
theorem tg_id {K : Int} {E : Mx} (t : Ti K E) {h l : Nat} (hh : h < 8) (hl : l < 8) {b : Int} (k : E h l ≠ 1000000) (hb : E h l ≤ b) {a c : Nat} (ha : a < 8) (hc : c < 8) : tg E h l b a c = E a c := by
  obtain ⟨t0, t1, t2⟩ := t
  rcases tg_cs (E := E) (h := h) (l := l) (a := a) (c := c) (b := b) with y | ⟨y1, y2, y3⟩
  · exact y
  · have q := t1 a h l ha hh hl y1 k
    have q2 := t1 a l c ha hl hc q.2 y2
    have := tg_le1 (E := E) (h := h) (l := l) (a := a) (c := c) (b := b) q2.2
    omega
/-- a row or column that is read while cells are written -/
theorem tg_col {K : Int} {E : Mx} (t : Ti K E) {h l : Nat} (hh : h < 8) (hl : l < 8) {b : Int} (f : E l h = 1000000 ∨ 0 ≤ b + E l h) {a : Nat} (ha : a < 8) : tg E h l b a h = E a h := by
  unfold tg
  split
  · rfl
  · rw [if_neg (by omega)]
theorem tg_row {K : Int} {E : Mx} (t : Ti K E) {h l : Nat} (hh : h < 8) (hl : l < 8) {b : Int} (f : E l h = 1000000 ∨ 0 ≤ b + E l h) {c : Nat} (hc : c < 8) : tg E h l b l c = E l c := by
  unfold tg
  split
  · rfl
  · rw [if_neg (by omega)]
/-- how many of the eight have the number r -/
def sz (c : Nat → Nat) (r : Nat) : Int := cnt (fun x => c x = r) 8
theorem cnt_le {p : Nat → Prop} [DecidablePred p] {n : Nat} : 0 ≤ cnt p n ∧ cnt p n ≤ n := by
  induction n with
  | zero => exact ⟨Int.le_refl _, Int.le_refl _⟩
  | succ n ih =>
    show 0 ≤ (if p n then cnt p n + 1 else cnt p n) ∧ (if p n then cnt p n + 1 else cnt p n) ≤ ((n + 1 : Nat) : Int)
    split <;> omega
theorem cnt_pos {p : Nat → Prop} [DecidablePred p] {n i : Nat} (hi : i < n) (hp : p i) : 1 ≤ cnt p n := by
  induction n with
  | zero => omega
  | succ n ih =>
    show 1 ≤ (if p n then cnt p n + 1 else cnt p n)
    by_cases e : i = n
    · subst e
      rw [if_pos hp]
      have := cnt_le (p := p) (n := i)
      omega
    · have := ih (by omega)
      split <;> omega
theorem cnt_add {p q r : Nat → Prop} [DecidablePred p] [DecidablePred q] [DecidablePred r] {n : Nat} (h : ∀ i, i < n → (r i ↔ p i ∨ q i)) (d : ∀ i, i < n → ¬ (p i ∧ q i)) : cnt r n = cnt p n + cnt q n := by
  induction n with
  | zero => rfl
  | succ n ih =>
    have := ih (fun i hi => h i (by omega)) (fun i hi => d i (by omega))
    show (if r n then cnt r n + 1 else cnt r n) = (if p n then cnt p n + 1 else cnt p n) + (if q n then cnt q n + 1 else cnt q n)
    have h1 := h n (by omega)
    have h2 := d n (by omega)
    by_cases a : p n <;> by_cases b : q n <;> simp only [a, b, h1, if_true, if_false, or_true, true_or, or_false, or_self] <;> first | omega | exact absurd ⟨a, b⟩ h2
theorem cnt_cg {p q : Nat → Prop} [DecidablePred p] [DecidablePred q] {n : Nat} (h : ∀ i, i < n → (p i ↔ q i)) : cnt p n = cnt q n := by
  induction n with
  | zero => rfl
  | succ n ih =>
    have := ih (fun i hi => h i (by omega))
    show (if p n then cnt p n + 1 else cnt p n) = (if q n then cnt q n + 1 else cnt q n)
    rw [this]
    by_cases a : q n
    · rw [if_pos a, if_pos ((h n (by omega)).mpr a)]
    · rw [if_neg a, if_neg (fun z => a ((h n (by omega)).mp z))]
/-- what holds between two judgements -/
def Ck (E : Mx) : Prop := Ti 69993 E ∧ ∃ c : Nat → Nat, ∀ a b, a < 8 → b < 8 → (E a b ≠ 1000000 ↔ c a = c b) ∧ (E a b ≠ 1000000 → E a b ≤ 9999 * (sz c (c a) - 1))
def E0 : Mx := fun a b => if a = b then 0 else 1000000
theorem Ck0 : Ck E0 := by
  refine ⟨⟨fun a _ => if_pos rfl, fun a m c _ _ _ k1 k2 => ?_, fun a c _ _ => ?_⟩, fun x => x, fun a b ha hb => ?_⟩
  · unfold E0 at *
    by_cases e1 : a = m
    · subst e1
      simp only [if_true]
      exact ⟨by omega, k2⟩
    · rw [if_neg e1] at k1
      exact absurd rfl k1
  · unfold E0
    split <;> omega
  · show (E0 a b ≠ 1000000 ↔ a = b) ∧ (E0 a b ≠ 1000000 → E0 a b ≤ 9999 * (cnt (fun x => x = a) 8 - 1))
    unfold E0
    have := cnt_pos (p := fun x => x = a) (n := 8) ha rfl
    by_cases e1 : a = b
    · rw [if_pos e1]
      omega
    · rw [if_neg e1]
      omega
/-- an accepted pair: below x, above y -/
def acc (E : Mx) (x y : Nat) (le gr : Int) : Mx := tg (tg E x y gr) y x (-le)
theorem acc_Ck {E : Mx} (k : Ck E) {x y : Nat} (hx : x < 8) (hy : y < 8) (hxy : x ≠ y) {le gr : Int} (hle : -9999 ≤ le ∧ le ≤ 9999) (hgr : -9999 ≤ gr ∧ gr ≤ 9999) (hl : le ≤ gr) (h1 : E x y = 1000000 ∨ le ≤ E x y) (h2 : E y x = 1000000 ∨ -gr ≤ E y x) : Ck (acc E x y le gr) ∧ Ti 149985 (tg E x y gr) ∧ (tg E x y gr x y = 1000000 ∨ 0 ≤ -le + tg E x y gr x y) := by
  obtain ⟨t, c, hc⟩ := k
  have t1 : Ti 149985 (tg E x y gr) := tg_Ti t (by omega) hx hy hgr (by omega)
  have t00 := t.1 x hx
  have t01 := t.1 y hy
  have dxy : tg E x y gr x y ≤ gr := by
    have := tg_le2 (E := E) (h := x) (l := y) (a := x) (c := y) (b := gr) (by omega) (by omega)
    omega
  have f2 : tg E x y gr x y = 1000000 ∨ 0 ≤ -le + tg E x y gr x y := by
    rcases tg_cs (E := E) (h := x) (l := y) (a := x) (c := y) (b := gr) with z | ⟨z1, z2, z3⟩ <;> omega
  have t2 : Ti 309969 (acc E x y le gr) := tg_Ti t1 (by omega) hy hx (by omega) f2
  refine ⟨?_, t1, f2⟩
  have uB : ∀ a b, a < 8 → b < 8 → E a b ≠ 1000000 → acc E x y le gr a b ≤ E a b := fun a b ha hb kk => by
    have z1 := tg_le1 (E := E) (h := x) (l := y) (a := a) (c := b) (b := gr) kk
    have z0 := t1.2.2 a b ha hb
    have z3 : tg E x y gr a b ≠ 1000000 := by
      have := t.2.2 a b ha hb
      omega
    have z2 := tg_le1 (E := tg E x y gr) (h := y) (l := x) (a := a) (c := b) (b := -le) z3
    unfold acc
    omega
  have u1 : ∀ a b, a < 8 → b < 8 → E a x ≠ 1000000 → E y b ≠ 1000000 → acc E x y le gr a b ≤ E a x + gr + E y b := fun a b ha hb k1 k2 => by
    have z1 := tg_le2 (E := E) (h := x) (l := y) (a := a) (c := b) (b := gr) k1 k2
    have z3 : tg E x y gr a b ≠ 1000000 := by
      have := t.2.2 a x ha hx
      have := t.2.2 y b hy hb
      omega
    have z2 := tg_le1 (E := tg E x y gr) (h := y) (l := x) (a := a) (c := b) (b := -le) z3
    unfold acc
    omega
  have u2 : ∀ a b, a < 8 → b < 8 → E a y ≠ 1000000 → E x b ≠ 1000000 → acc E x y le gr a b ≤ E a y + -le + E x b := fun a b ha hb k1 k2 => by
    have z1 := tg_le1 (E := E) (h := x) (l := y) (a := a) (c := y) (b := gr) k1
    have z2 := tg_le1 (E := E) (h := x) (l := y) (a := x) (c := b) (b := gr) k2
    have := t.2.2 a y ha hy
    have := t.2.2 x b hx hb
    have z3 := tg_le2 (E := tg E x y gr) (h := y) (l := x) (a := a) (c := b) (b := -le) (by omega) (by omega)
    unfold acc
    omega
  have dB : ∀ a b, a < 8 → b < 8 → E a b ≠ 1000000 → acc E x y le gr a b ≠ 1000000 := fun a b ha hb kk => by
    have := uB a b ha hb kk
    have := t.2.2 a b ha hb
    omega
  -- the numbers of the new parts
  have nx := (hc x x hx hx)
  have cs : ∃ c' : Nat → Nat, ∀ a b, a < 8 → b < 8 → (acc E x y le gr a b ≠ 1000000 ↔ c' a = c' b) ∧ (acc E x y le gr a b ≠ 1000000 → acc E x y le gr a b ≤ 9999 * (sz c' (c' a) - 1)) := by
    by_cases j : c x = c y
    · refine ⟨c, fun a b ha hb => ?_⟩
      have back : acc E x y le gr a b ≠ 1000000 → E a b ≠ 1000000 := fun kk => by
        rw [(hc a b ha hb).1]
        have q1 : ∀ u v, u < 8 → v < 8 → tg E x y gr u v ≠ 1000000 → c u = c v := fun u v hu hv kk => by
          rcases tg_cs (E := E) (h := x) (l := y) (a := u) (c := v) (b := gr) with z | ⟨z1, z2, z3⟩
          · exact (hc u v hu hv).1.mp (by omega)
          · have e1 := (hc u x hu hx).1.mp z1
            have e2 := (hc y v hy hv).1.mp z2
            omega
        rcases tg_cs (E := tg E x y gr) (h := y) (l := x) (a := a) (c := b) (b := -le) with z | ⟨z1, z2, z3⟩
        · exact q1 a b ha hb (by unfold acc at kk; omega)
        · have e1 := q1 a y ha hy z1
          have e2 := q1 x b hx hb z2
          omega
      refine ⟨⟨fun kk => (hc a b ha hb).1.mp (back kk), fun e => dB a b ha hb ((hc a b ha hb).1.mpr e)⟩, fun kk => ?_⟩
      have := uB a b ha hb (back kk)
      have := (hc a b ha hb).2 (back kk)
      omega
    · refine ⟨fun u => if c u = c x then c y else c u, fun a b ha hb => ?_⟩
      have nE : ∀ u v, u < 8 → v < 8 → (E u v ≠ 1000000 ↔ c u = c v) := fun u v hu hv => (hc u v hu hv).1
      have szy : sz (fun u => if c u = c x then c y else c u) (c y) = sz c (c x) + sz c (c y) := by
        unfold sz
        refine cnt_add (fun i _ => ?_) (fun i _ z => j (by omega))
        by_cases e : c i = c x
        · simp [e]
        · simp [e]
      have szo : ∀ r, r ≠ c x → r ≠ c y → sz (fun u => if c u = c x then c y else c u) r = sz c r := fun r h1 h2 => by
        unfold sz
        refine cnt_cg (fun i _ => ?_)
        by_cases e : c i = c x
        · simp only [e, if_true]
          omega
        · simp [e]
      have px : 1 ≤ sz c (c x) := cnt_pos (p := fun i => c i = c x) hx rfl
      have py : 1 ≤ sz c (c y) := cnt_pos (p := fun i => c i = c y) hy rfl
      have q1 : ∀ u v, u < 8 → v < 8 → tg E x y gr u v ≠ 1000000 → c u = c v ∨ (c u = c x ∧ c v = c y) := fun u v hu hv kk => by
        rcases tg_cs (E := E) (h := x) (l := y) (a := u) (c := v) (b := gr) with z | ⟨z1, z2, z3⟩
        · exact Or.inl ((nE u v hu hv).mp (by omega))
        · exact Or.inr ⟨(nE u x hu hx).mp z1, ((nE y v hy hv).mp z2).symm⟩
      have q2 : acc E x y le gr a b ≠ 1000000 → c a = c b ∨ (c a = c x ∧ c b = c y) ∨ (c a = c y ∧ c b = c x) := fun kk => by
        rcases tg_cs (E := tg E x y gr) (h := y) (l := x) (a := a) (c := b) (b := -le) with z | ⟨z1, z2, z3⟩
        · rcases q1 a b ha hb (by unfold acc at kk; omega) with y | y
          · exact Or.inl y
          · exact Or.inr (Or.inl y)
        · rcases q1 a y ha hy z1 with e1 | e1 <;> rcases q1 x b hx hb z2 with e2 | e2 <;> omega
      have v1 : c a = c b → acc E x y le gr a b ≤ 9999 * (sz c (c a) - 1) := fun e => by
        have := uB a b ha hb ((nE a b ha hb).mpr e)
        have := (hc a b ha hb).2 ((nE a b ha hb).mpr e)
        omega
      have v2 : c a = c x → c b = c y → acc E x y le gr a b ≤ 9999 * (sz c (c x) + sz c (c y) - 1) := fun e1 e2 => by
        have w1 := (nE a x ha hx).mpr e1
        have w2 := (nE y b hy hb).mpr e2.symm
        have := u1 a b ha hb w1 w2
        have r1 := (hc a x ha hx).2 w1
        have r2 := (hc y b hy hb).2 w2
        rw [e1] at r1
        omega
      have v3 : c a = c y → c b = c x → acc E x y le gr a b ≤ 9999 * (sz c (c x) + sz c (c y) - 1) := fun e1 e2 => by
        have w1 := (nE a y ha hy).mpr e1
        have w2 := (nE x b hx hb).mpr e2.symm
        have := u2 a b ha hb w1 w2
        have r1 := (hc a y ha hy).2 w1
        have r2 := (hc x b hx hb).2 w2
        rw [e1] at r1
        omega
      have d1 : c a = c x → c b = c y → acc E x y le gr a b ≠ 1000000 := fun e1 e2 => by
        have w1 := (nE a x ha hx).mpr e1
        have w2 := (nE y b hy hb).mpr e2.symm
        have := u1 a b ha hb w1 w2
        have := t.2.2 a x ha hx
        have := t.2.2 y b hy hb
        omega
      have d2 : c a = c y → c b = c x → acc E x y le gr a b ≠ 1000000 := fun e1 e2 => by
        have w1 := (nE a y ha hy).mpr e1
        have w2 := (nE x b hx hb).mpr e2.symm
        have := u2 a b ha hb w1 w2
        have := t.2.2 a y ha hy
        have := t.2.2 x b hx hb
        omega
      have d3 : c a = c b → acc E x y le gr a b ≠ 1000000 := fun e => dB a b ha hb ((nE a b ha hb).mpr e)
      dsimp only
      by_cases ea : c a = c x
      · rw [if_pos ea]
        by_cases eb : c b = c x
        · rw [if_pos eb, szy]
          refine ⟨⟨fun _ => rfl, fun _ => d3 (by omega)⟩, fun _ => ?_⟩
          have := v1 (by omega)
          rw [ea] at this
          omega
        · rw [if_neg eb, szy]
          refine ⟨⟨fun kk => ?_, fun e => d1 ea e.symm⟩, fun kk => ?_⟩
          · have := q2 kk
            omega
          · have := q2 kk
            exact v2 ea (by omega)
      · rw [if_neg ea]
        by_cases eb : c b = c x
        · rw [if_pos eb]
          refine ⟨⟨fun kk => ?_, fun e => d2 e eb⟩, fun kk => ?_⟩
          · have := q2 kk
            omega
          · have e : c a = c y := by have := q2 kk; omega
            rw [e, szy]
            exact v3 e eb
        · rw [if_neg eb]
          refine ⟨⟨fun kk => ?_, fun e => d3 e⟩, fun kk => ?_⟩
          · have := q2 kk
            omega
          · have e : c a = c b := by have := q2 kk; omega
            have z := v1 e
            by_cases ey : c a = c y
            · rw [ey, szy]
              rw [ey] at z
              omega
            · rw [szo _ ea ey]
              exact z
  obtain ⟨c', h'⟩ := cs
  refine ⟨⟨t2.1, t2.2.1, fun a b ha hb => ?_⟩, c', h'⟩
  by_cases kk : acc E x y le gr a b = 1000000
  · exact Or.inl kk
  · refine Or.inr ?_
    have e := (h' a b ha hb).1.mp kk
    have z := (h' a b ha hb).2 kk
    have k2 := (h' b a hb ha).1.mpr e.symm
    have z2 := (h' b a hb ha).2 k2
    have z3 := t2.2.1 a b a ha hb ha kk k2
    have z4 := t2.1 a ha
    have s1 := cnt_le (p := fun i => c' i = c' a) (n := 8)
    have s2 := cnt_le (p := fun i => c' i = c' b) (n := 8)
    unfold sz at z z2
    omega
