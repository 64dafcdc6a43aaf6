-- the ring of the changes
abbrev St : Type := Nat × View × Lk
def SS (μ : Mem) (k : Nat) (s : St) : Prop := SV μ k s.1 s.2.1 ∧ LV μ k s.2.2
/-- both ends of every link are there -/
def LPr (n : Nat) (w : View) (l : Lk) : Prop := ∀ q, q < l.length → fnd n w (lf l q) ≠ -1 ∧ fnd n w (lt l q) ≠ -1
def SOK (s : St) : Prop := WF s.1 s.2.1 ∧ LW s.2.2 ∧ LPr s.1 s.2.1 s.2.2
theorem SS.fr {μ μ' : Mem} {k k2 : Nat} {s : St} (h : SS μ k2 s) (hf : FrS k μ μ') (hk : k2 ≠ k) : SS μ' k2 s := ⟨h.1.fr hf hk, h.2.fr hf hk⟩
theorem copy_spec {μ : Mem} {k k1 : Nat} {s : St} (hk : k1 ≠ k) (hv : SS μ k1 s) (ok : SOK s) {P : Mem → Prop} (h : ∀ μ', FrS k μ μ' → SS μ' k s → P μ') : w7_copyFrom_wp μ k k1 P :=
  copyFrom_spec hk hv.1 hv.2 ok.1.1 ok.2.1.1 (fun i hi => by have := ok.1.r i hi; omega) (fun μ' fr a b => h μ' fr ⟨a, b⟩)
abbrev hd (Hs : List St) (j : Nat) : St := Hs.getD j (0, fun _ _ => 0, [])
def HV (μ : Mem) (Hs : List St) : Prop := ∃ nx : Nat, nx < 8 ∧ Hs.length ≤ 8 ∧ μ 641 0 0 = J Hs.length ∧ μ 642 0 0 = J nx ∧ ∀ j, j < Hs.length → SS μ (3 + (nx + 7 - j) % 8) (hd Hs j)
/-- places that are no store's and no history's -/
def FrN (μ μ' : Mem) : Prop := ∀ j' k' i', ¬ (j' < 640 ∧ 3 ≤ k' ∧ k' < 11) → ¬ (j' = 641 ∨ j' = 642) → μ' j' k' i' = μ j' k' i'
theorem SS.frN {μ μ' : Mem} {k : Nat} {s : St} (h : SS μ k s) (hf : FrN μ μ') (hk : k < 3) : SS μ' k s := by
  refine ⟨⟨(hf _ _ _ (by omega) (by omega)).trans h.1.1, fun i hi c hc => ?_⟩, (hf _ _ _ (by omega) (by omega)).trans h.2.1, fun q hq => ⟨(hf _ _ _ (by omega) (by omega)).trans (h.2.2 q hq).1, (hf _ _ _ (by omega) (by omega)).trans (h.2.2 q hq).2⟩⟩
  have := h.1.2 i hi c hc
  match c, hc with
  | 0, _ => exact (hf _ _ _ (by omega) (by omega)).trans this
  | 1, _ => exact (hf _ _ _ (by omega) (by omega)).trans this
  | 2, _ => exact (hf _ _ _ (by omega) (by omega)).trans this
  | 3, _ => exact (hf _ _ _ (by omega) (by omega)).trans this
  | 4, _ => exact (hf _ _ _ (by omega) (by omega)).trans this
  | 5, _ => exact (hf _ _ _ (by omega) (by omega)).trans this
  | 6, _ => exact (hf _ _ _ (by omega) (by omega)).trans this
theorem J_div {a b : Int} (ha : 0 ≤ a ∧ a ≤ 2147483647) (hb : 0 < b ∧ b ≤ 2147483647) : J a / J b = J (a.tdiv b) := by
  apply Int32.toInt_inj.mp
  have h1 : (J a).toInt = a := J_toInt (by omega) ha.2
  have h2 : (J b).toInt = b := J_toInt (by omega) hb.2
  have h3 : -2147483648 ≤ a.tdiv b ∧ a.tdiv b ≤ 2147483647 := by
    rw [Int.tdiv_eq_ediv_of_nonneg ha.1]
    have h4 := Int.ediv_le_self b ha.1
    have h5 := Int.ediv_nonneg ha.1 (Int.le_of_lt hb.1)
    omega
  rw [J_toInt h3.1 h3.2, Int32.toInt_div_of_ne_right, h1, h2]
  intro c
  have := congrArg Int32.toInt c
  rw [h2] at this
  have : (-1 : Int32).toInt = -1 := by decide
  omega
theorem mod8 {a : Nat} (h : a < 100) : J (a : Int) - J (a : Int) / J 8 * J 8 = J ((a % 8 : Nat) : Int) := by
  rw [J_div (by omega) (by decide), J_mul, J_sub]
  congr 1
  rw [Int.tdiv_eq_ediv_of_nonneg (by omega)]
  omega
theorem SS.at {μ μ' : Mem} {k : Nat} {s : St} (h : SS μ k s) (hf : ∀ j i, j < 640 → μ' j k i = μ j k i) : SS μ' k s := by
  refine ⟨⟨(hf _ _ (by omega)).trans h.1.1, fun i hi c hc => ?_⟩, (hf _ _ (by omega)).trans h.2.1, fun q hq => ⟨(hf _ _ (by omega)).trans (h.2.2 q hq).1, (hf _ _ (by omega)).trans (h.2.2 q hq).2⟩⟩
  have := h.1.2 i hi c hc
  match c, hc with
  | 0, _ => exact (hf _ _ (by omega)).trans this
  | 1, _ => exact (hf _ _ (by omega)).trans this
  | 2, _ => exact (hf _ _ (by omega)).trans this
  | 3, _ => exact (hf _ _ (by omega)).trans this
  | 4, _ => exact (hf _ _ (by omega)).trans this
  | 5, _ => exact (hf _ _ (by omega)).trans this
  | 6, _ => exact (hf _ _ (by omega)).trans this
theorem remember_spec {μ : Mem} {Hs : List St} {s : St} (hh : HV μ Hs) (hs : SS μ 0 s) (ok : SOK s) {P : Mem → Prop} (h : ∀ μ', FrN μ μ' → HV μ' ((s :: Hs).take 8) → P μ') : w3_remember_wp μ 0 P := by
  obtain ⟨nx, h8, hl, e1, e2, sl⟩ := hh
  unfold w3_remember_wp
  simp (disch := omega) only [e1, e2, lJ0, lJ1, lJ2, lJ3, lJ4, lJ5, lJ6, lJ7, lJ8, lJ9, lJ10, lJ30, lJ32, lJ33, lJ39, lJ40, lJ41, lJ45, lJ47, lJ48, lJ51, lJ55, lJ57, lJ58, lJ59, lJ60, lJ64, lJ80, lJ82, lJ99, lJ100, lJ101, lJ123, lJ126, lJ282, lJ342, lJ1000, lJ1100, lJ2394, lJ2736, lJ9999, lJ10000, lJ1000000, lJ100000000, J_add, J_sub, J_mul, J_neg, J_le, J_lt, J_eq, J_in, J_clamp, Int.toNat_natCast]
  refine ⟨by omega, ?_⟩
  refine copy_spec (by omega) hs ok (fun μ2 fr ss => ?_)
  refine ⟨by decide, ?_⟩
  rintro μ4 rfl μ5 rfl
  have g1 : μ2 641 0 0 = J Hs.length := (fr _ _ _ (by omega)).trans e1
  have g2 : μ2 642 0 0 = J nx := (fr _ _ _ (by omega)).trans e2
  have m8 := mod8 (a := nx + 1) (by omega)
  rw [show ((nx + 1 : Nat) : Int) = (nx : Int) + 1 by omega] at m8
  simp only [up_at, Nat.reduceEqDiff, reduceCtorEq, false_and, if_false, g1, g2]
  simp (disch := omega) only [lJ0, lJ1, lJ2, lJ3, lJ4, lJ5, lJ6, lJ7, lJ8, lJ9, lJ10, lJ30, lJ32, lJ33, lJ39, lJ40, lJ41, lJ45, lJ47, lJ48, lJ51, lJ55, lJ57, lJ58, lJ59, lJ60, lJ64, lJ80, lJ82, lJ99, lJ100, lJ101, lJ123, lJ126, lJ282, lJ342, lJ1000, lJ1100, lJ2394, lJ2736, lJ9999, lJ10000, lJ1000000, lJ100000000, J_add, J_sub, J_mul, J_neg, J_le, J_lt, J_eq, J_in, J_clamp, Int.toNat_natCast, m8]
  refine h _ (fun j' k' i' c1 c2 => ?_) ⟨(nx + 1) % 8, by omega, by rw [List.length_take]; omega, ?_, by simp [up_at], fun j hj => ?_⟩
  · simp only [up_at]
    rw [if_neg (by omega), if_neg (by omega)]
    exact fr _ _ _ (by omega)
  · simp only [up_at, and_self, if_true, Nat.reduceEqDiff, false_and, if_false]
    rw [List.length_take, List.length_cons]
    rw [← apply_ite]
    congr 1
    split <;> omega
  · rw [List.length_take, List.length_cons] at hj
    have g : SS μ2 (3 + ((nx + 1) % 8 + 7 - j) % 8) (hd ((s :: Hs).take 8) j) := by
      match j, hj with
      | 0, _ =>
        rw [show ((nx + 1) % 8 + 7 - 0) % 8 = nx by omega]
        exact ss
      | j + 1, hj =>
        have := sl j (by omega)
        rw [show ((nx + 1) % 8 + 7 - (j + 1)) % 8 = (nx + 7 - j) % 8 by omega]
        have e : hd ((s :: Hs).take 8) (j + 1) = hd Hs j := by
          simp only [hd, List.getD]
          rw [List.getElem?_take_of_lt (by omega), List.getElem?_cons_succ]
        rw [e]
        exact this.fr fr (by omega)
    refine g.at (fun j i hji => ?_)
    simp only [up_at]
    rw [if_neg (by omega), if_neg (by omega)]
theorem takeBack_spec {μ : Mem} {Hs : List St} {s : St} (hh : HV μ (s :: Hs)) (ok : SOK s) {P : Mem → Prop} (h : ∀ μ', (∀ j' k' i', ¬ (j' < 640 ∧ k' = 0) → ¬ (j' = 641 ∨ j' = 642) → μ' j' k' i' = μ j' k' i') → HV μ' Hs → SS μ' 0 s → P μ') : w3_takeBack_wp μ 0 P := by
  obtain ⟨nx, h8, hl, e1, e2, sl⟩ := hh
  rw [List.length_cons] at hl e1
  unfold w3_takeBack_wp
  refine ⟨by decide, ?_⟩
  rintro μ2 rfl μ3 rfl
  have m8 := mod8 (a := nx + 7) (by omega)
  rw [show ((nx + 7 : Nat) : Int) = (nx : Int) + 8 - 1 by omega] at m8
  simp only [up_at, Nat.reduceEqDiff, reduceCtorEq, false_and, if_false, e1, e2, and_self, if_true]
  simp (disch := omega) only [lJ0, lJ1, lJ2, lJ3, lJ4, lJ5, lJ6, lJ7, lJ8, lJ9, lJ10, lJ30, lJ32, lJ33, lJ39, lJ40, lJ41, lJ45, lJ47, lJ48, lJ51, lJ55, lJ57, lJ58, lJ59, lJ60, lJ64, lJ80, lJ82, lJ99, lJ100, lJ101, lJ123, lJ126, lJ282, lJ342, lJ1000, lJ1100, lJ2394, lJ2736, lJ9999, lJ10000, lJ1000000, lJ100000000, J_add, J_sub, J_mul, J_neg, J_le, J_lt, J_eq, J_in, J_clamp, Int.toNat_natCast, m8]
  refine ⟨by omega, ?_⟩
  have s0 := sl 0 (by simp)
  refine copy_spec (by omega) (s := s) (s0.at fun j i hji => ?_) ok (fun μ5 fr ss => ?_)
  · simp only [up_at]
    rw [if_neg (by omega), if_neg (by omega)]
  · refine h _ (fun j' k' i' c1 c2 => ?_) ⟨(nx + 7) % 8, by omega, by omega, ?_, ?_, fun j hj => ?_⟩ ss
    · rw [fr _ _ _ c1]
      simp only [up_at]
      rw [if_neg (by omega), if_neg (by omega)]
    · rw [fr _ _ _ (by omega)]
      simp [up_at]
    · rw [fr _ _ _ (by omega)]
      simp [up_at]
    · have := sl (j + 1) (by rw [List.length_cons]; omega)
      have e : hd (s :: Hs) (j + 1) = hd Hs j := by simp [hd, List.getD]
      rw [e, show (nx + 7 - (j + 1)) % 8 = ((nx + 7) % 8 + 7 - j) % 8 by omega] at this
      refine this.at (fun j i hji => ?_)
      rw [fr _ _ _ (by omega)]
      simp only [up_at]
      rw [if_neg (by omega), if_neg (by omega)]
