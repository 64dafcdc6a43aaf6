-- ints: J z is the int that says z; arithmetic over J is arithmetic over the integers
def InR (z : Int) : Prop := -2147483648 ≤ z ∧ z ≤ 2147483647
def J (z : Int) : Int32 := Int32.ofInt z
theorem J_toInt {z : Int} (h1 : -2147483648 ≤ z) (h2 : z ≤ 2147483647) : (J z).toInt = z := by
  exact Int32.toInt_ofInt_of_le (by omega) (by omega)
theorem J_of (x : Int32) : ∃ z : Int, (-2147483648 ≤ z ∧ z ≤ 2147483647) ∧ x = J z := ⟨x.toInt, ⟨x.le_toInt, Int.le_of_lt_add_one x.toInt_lt⟩, (Int32.ofInt_toInt x).symm⟩
theorem J_add (a b : Int) : J a + J b = J (a + b) := (Int32.ofInt_add a b).symm
theorem J_sub (a b : Int) : J a - J b = J (a - b) := (Int32.ofInt_sub a b).symm
theorem J_mul (a b : Int) : J a * J b = J (a * b) := (Int32.ofInt_mul a b).symm
theorem J_neg (a : Int) : -J a = J (-a) := (Int32.ofInt_neg a).symm
theorem J_le {a b : Int} (ha : -2147483648 ≤ a ∧ a ≤ 2147483647) (hb : -2147483648 ≤ b ∧ b ≤ 2147483647) : J a ≤ J b ↔ a ≤ b := by
  rw [Int32.le_iff_toInt_le, J_toInt ha.1 ha.2, J_toInt hb.1 hb.2]
theorem J_lt {a b : Int} (ha : -2147483648 ≤ a ∧ a ≤ 2147483647) (hb : -2147483648 ≤ b ∧ b ≤ 2147483647) : J a < J b ↔ a < b := by
  rw [Int32.lt_iff_toInt_lt, J_toInt ha.1 ha.2, J_toInt hb.1 hb.2]
theorem J_eq {a b : Int} (ha : -2147483648 ≤ a ∧ a ≤ 2147483647) (hb : -2147483648 ≤ b ∧ b ≤ 2147483647) : J a = J b ↔ a = b := by
  rw [← Int32.toInt_inj, J_toInt ha.1 ha.2, J_toInt hb.1 hb.2]
theorem J_clamp {a : Int} (ha : -2147483648 ≤ a ∧ a ≤ 2147483647) : (J a).toNatClampNeg = a.toNat := by
  show (J a).toInt.toNat = _
  rw [J_toInt ha.1 ha.2]
theorem J_in {a : Int} {n : Nat} (ha : -2147483648 ≤ a ∧ a ≤ 2147483647) : vp_in (J a) n ↔ 0 ≤ a ∧ a < n := by
  unfold vp_in
  rw [J_clamp ha, show (0 : Int32) = J 0 from rfl, J_lt ha (by decide)]
  omega
theorem Jn (n : Nat) : J (n : Int) = nI n := by
  apply Int32.toBitVec_inj.mp
  show BitVec.ofInt 32 (n : Int) = BitVec.ofNat 32 n
  exact BitVec.ofInt_natCast 32 n
theorem lJ0 : (0 : Int32) = J 0 := rfl
theorem lJ1 : (1 : Int32) = J 1 := rfl
theorem lJ2 : (2 : Int32) = J 2 := rfl
theorem lJ3 : (3 : Int32) = J 3 := rfl
theorem lJ4 : (4 : Int32) = J 4 := rfl
theorem lJ5 : (5 : Int32) = J 5 := rfl
theorem lJ6 : (6 : Int32) = J 6 := rfl
theorem lJ7 : (7 : Int32) = J 7 := rfl
theorem lJ8 : (8 : Int32) = J 8 := rfl
theorem lJ9 : (9 : Int32) = J 9 := rfl
theorem lJ10 : (10 : Int32) = J 10 := rfl
theorem lJ30 : (30 : Int32) = J 30 := rfl
theorem lJ32 : (32 : Int32) = J 32 := rfl
theorem lJ33 : (33 : Int32) = J 33 := rfl
theorem lJ39 : (39 : Int32) = J 39 := rfl
theorem lJ40 : (40 : Int32) = J 40 := rfl
theorem lJ41 : (41 : Int32) = J 41 := rfl
theorem lJ45 : (45 : Int32) = J 45 := rfl
theorem lJ47 : (47 : Int32) = J 47 := rfl
theorem lJ48 : (48 : Int32) = J 48 := rfl
theorem lJ51 : (51 : Int32) = J 51 := rfl
theorem lJ55 : (55 : Int32) = J 55 := rfl
theorem lJ57 : (57 : Int32) = J 57 := rfl
theorem lJ58 : (58 : Int32) = J 58 := rfl
theorem lJ59 : (59 : Int32) = J 59 := rfl
theorem lJ60 : (60 : Int32) = J 60 := rfl
theorem lJ64 : (64 : Int32) = J 64 := rfl
theorem lJ80 : (80 : Int32) = J 80 := rfl
theorem lJ82 : (82 : Int32) = J 82 := rfl
theorem lJ99 : (99 : Int32) = J 99 := rfl
theorem lJ100 : (100 : Int32) = J 100 := rfl
theorem lJ101 : (101 : Int32) = J 101 := rfl
theorem lJ123 : (123 : Int32) = J 123 := rfl
theorem lJ126 : (126 : Int32) = J 126 := rfl
theorem lJ282 : (282 : Int32) = J 282 := rfl
theorem lJ342 : (342 : Int32) = J 342 := rfl
theorem lJ1000 : (1000 : Int32) = J 1000 := rfl
theorem lJ1100 : (1100 : Int32) = J 1100 := rfl
theorem lJ2394 : (2394 : Int32) = J 2394 := rfl
theorem lJ2736 : (2736 : Int32) = J 2736 := rfl
theorem lJ9999 : (9999 : Int32) = J 9999 := rfl
theorem lJ10000 : (10000 : Int32) = J 10000 := rfl
theorem lJ1000000 : (1000000 : Int32) = J 1000000 := rfl
theorem lJ100000000 : (100000000 : Int32) = J 100000000 := rfl
theorem lJm1 : (-1 : Int32) = J (-1) := rfl
-- the same index written twice
theorem up_nq {μ : Mem} {j k i : Nat} {v : Int32} {j' : Nat} (h : j' ≠ j) : up μ j k i v j' = μ j' := by
  funext k' i'
  unfold up
  rw [if_neg (fun c => h c.1)]
theorem J_nat_clamp {i : Nat} (h : i ≤ 2147483647) : (J (i : Int)).toNatClampNeg = i := by rw [J_clamp (by omega)]; omega
-- memory
theorem up_at (μ : Mem) (j k i : Nat) (v : Int32) (j' k' i' : Nat) : up μ j k i v j' k' i' = if j' = j ∧ k' = k ∧ i' = i then v else μ j' k' i' := by
  unfold up
  by_cases h : j' = j ∧ k' = k
  · obtain ⟨rfl, rfl⟩ := h
    simp [upd]
  · rw [if_neg h, if_neg (fun z => h ⟨z.1, z.2.1⟩)]
theorem down {Q : Nat → Prop} (n : Nat) (h : ∀ i, i ≤ n → (i < n → Q (i + 1)) → Q i) : Q 0 := by
  suffices H : ∀ d i, i + d = n → Q i from H n 0 (by omega)
  intro d
  induction d with
  | zero => intro i hi; exact h i (by omega) (fun c => absurd c (by omega))
  | succ d ih => intro i hi; exact h i (by omega) (fun _ => ih (i + 1) (by omega))
/-- a fold over 0 .. n - 1 -/
def it {α : Type} (f : Nat → α → α) (a : α) : Nat → α
  | 0 => a
  | n + 1 => f n (it f a n)
theorem Jc (n : Nat) : ((J n).toNatClampNeg : Nat) = (J n).toNatClampNeg := rfl
theorem it_succ {α : Type} (f : Nat → α → α) (a : α) (n : Nat) : it f a (n + 1) = f n (it f a n) := rfl
theorem it_congr {α : Type} {f g : Nat → α → α} {a : α} {n : Nat} (h : ∀ i, i < n → ∀ x, f i x = g i x) : it f a n = it g a n := by
  induction n with
  | zero => rfl
  | succ n ih => rw [it_succ, it_succ, ih (fun i hi => h i (by omega)), h n (by omega)]
def cnt (p : Nat → Prop) [DecidablePred p] (n : Nat) : Int := it (fun i (c : Int) => if p i then c + 1 else c) 0 n
theorem J_inj' {a b : Int} (ha : (-2147483648 ≤ a ∧ a ≤ 2147483647)) (hb : (-2147483648 ≤ b ∧ b ≤ 2147483647)) : ¬ J a = J b ↔ a ≠ b := by rw [J_eq ha hb]
/-- the place of the first one with an id, from i on -/
def fndF (w : Nat → Nat → Int) (z : Int) : Nat → Nat → Int
  | 0, _ => -1
  | d + 1, i => if w i 0 = z then (i : Int) else fndF w z d (i + 1)
def fnd (n : Nat) (w : Nat → Nat → Int) (z : Int) : Int := fndF w z n 0
theorem find_spec {μ : Mem} {k n : Nat} {w : Nat → Nat → Int} (hn : (μ 1 k 0) = J n) (h40 : n ≤ 40) (hid : ∀ i, i < n → μ 128 k i = J (w i 0) ∧ 0 ≤ w i 0 ∧ w i 0 < 100) {z : Int} (hz : -2147483648 ≤ z ∧ z ≤ 2147483647) {P : Int32 → Mem → Prop} (h : P (J (fnd n w z)) μ) : w7_find_wp μ k (J z) P := by
  intro R hR
  suffices H : ∀ d i : Nat, i + d = n → P (J (fndF w z d i)) μ → R μ (J z) (J i) from H n 0 (by omega) h
  intro d
  induction d with
  | zero =>
    intro i hi hp
    apply hR
    refine ⟨fun _ => hp, fun c => ?_⟩
    rw [hn, J_le (by omega) (by omega)] at c
    omega
  | succ d ih =>
    intro i hi hp
    apply hR
    refine ⟨fun c => ?_, fun _ => ⟨fun c => ?_, fun _ => ⟨(J_in (by omega)).mpr (by omega), fun c => ?_, fun c => ?_⟩⟩⟩
    · rw [hn, J_le (by omega) (by omega)] at c
      omega
    · rw [show (40 : Int32) = J 40 from rfl, J_le (by omega) (by omega)] at c
      omega
    · rw [J_nat_clamp (by omega), (hid i (by omega)).1, J_eq (by have := (hid i (by omega)).2; omega) hz] at c
      unfold fndF at hp
      rw [if_neg c] at hp
      rw [lJ1, J_add]
      exact ih (i + 1) (by omega) hp
    · rw [J_nat_clamp (by omega), (hid i (by omega)).1, J_eq (by have := (hid i (by omega)).2; omega) hz] at c
      unfold fndF at hp
      rw [if_pos c] at hp
      exact hp
