-- the class's Store
abbrev View : Type := Nat → Nat → Int
/-- field c of the span at place i of store k -/
def sA (μ : Mem) (k c i : Nat) : Int32 := match c with
  | 0 => μ 128 k i
  | 1 => μ 64 k i
  | 2 => μ 192 k i
  | 3 => μ 256 k i
  | 4 => μ 320 k i
  | 5 => μ 384 k i
  | _ => μ 448 k i
def SV (μ : Mem) (k n : Nat) (w : View) : Prop := (μ 1 k 0) = J n ∧ ∀ i, i < n → ∀ c, c < 7 → sA μ k c i = J (w i c)
def LV (μ : Mem) (k lk : Nat) (l : View) : Prop := (μ 2 k 0) = J lk ∧ ∀ q, q < lk → μ 512 k q = J (l q 0) ∧ μ 576 k q = J (l q 1)
/-- ranges of a span's fields -/
def Rg (w : View) (i : Nat) : Prop := 0 ≤ w i 0 ∧ w i 0 < 100 ∧ 0 ≤ w i 1 ∧ w i 1 < 4 ∧ -1 ≤ w i 2 ∧ w i 2 < 100 ∧ 0 ≤ w i 3 ∧ w i 3 < 8 ∧ 0 ≤ w i 4 ∧ w i 4 < 10000 ∧ 0 ≤ w i 5 ∧ w i 5 < 10000 ∧ 0 ≤ w i 6 ∧ w i 6 ≤ 1
def WF (n : Nat) (w : View) : Prop := n ≤ 40 ∧ (∀ i, i < n → Rg w i ∧ w i 4 ≤ w i 5) ∧ ∀ i j, i < n → j < n → w i 0 = w j 0 → i = j
def LW (lk : Nat) (l : View) : Prop := lk ≤ 30 ∧ ∀ q, q < lk → 0 ≤ l q 0 ∧ l q 0 < 100 ∧ 0 ≤ l q 1 ∧ l q 1 < 100
/-- nothing but store k has changed -/
def FrS (k : Nat) (μ μ' : Mem) : Prop := ∀ j' k' i', ¬ (j' < 640 ∧ k' = k) → μ' j' k' i' = μ j' k' i'
theorem FrS.rf {k : Nat} {μ : Mem} : FrS k μ μ := fun _ _ _ _ => rfl
theorem FrS.tr {k : Nat} {μ μ1 μ2 : Mem} (h1 : FrS k μ μ1) (h2 : FrS k μ1 μ2) : FrS k μ μ2 := fun j k' i h => (h2 j k' i h).trans (h1 j k' i h)
theorem FrS.up {k j i : Nat} {μ : Mem} {v : Int32} (hj : j < 640) : FrS k μ (up μ j k i v) := fun j' k' i' h => by rw [up_at, if_neg]; omega
theorem isWithin_spec {μ : Mem} {x y : Int32} (z m : Int) {P : Int32 → Mem → Prop} (ex : x = J z) (ey : y = J m) (hz : (-2147483648 ≤ z ∧ z ≤ 2147483647)) (hm : (-2147483648 ≤ m ∧ m ≤ 2147483647)) (h1 : 0 ≤ z ∧ z < m → P 1 μ) (h0 : ¬ (0 ≤ z ∧ z < m) → P 0 μ) : w8_isWithin_wp μ x y P := by
  subst ex ey
  unfold w8_isWithin_wp
  rw [lJ0, J_lt hz (by decide), J_le hm hz]
  exact ⟨fun c => h0 (by omega), fun c => ⟨fun c2 => h0 (by omega), fun c2 => h1 (by omega)⟩⟩
/-- the memory behind keep -/
def kp (μ : Mem) (k n : Nat) (t id pa sv b e er : Int32) : Mem := up (up (up (up (up (up (up (up μ 64 k n t) 128 k n id) 192 k n pa) 256 k n sv) 320 k n b) 384 k n e) 448 k n (vp_nar .boolean er)) 1 k 0 (J (n + 1))
theorem keep_spec {μ : Mem} {k n : Nat} (hv : (μ 1 k 0) = J n) (hn : n < 40) {t id pa sv b e er : Int32} {P : Mem → Prop} (h : P (kp μ k n t id pa sv b e er)) : w7_keep_wp μ k t id pa sv b e er P := by
  have O : vp_in (J (n : Int)) 40 := (J_in (by omega)).mpr (by omega)
  have N : (J (n : Int)).toNatClampNeg = n := J_nat_clamp (by omega)
  unfold w7_keep_wp
  rw [hv]
  refine isWithin_spec n 40 rfl rfl (by omega) (by decide) (fun _ => ⟨fun _ => ?_, fun c => absurd c (by decide)⟩) (fun c => absurd (by omega) c)
  refine ⟨by rw [hv]; exact O, ?_⟩
  rintro _ rfl
  refine ⟨by simp only [up_at]; rw [if_neg (by omega), hv]; exact O, ?_⟩
  rintro _ rfl
  refine ⟨by simp only [up_at]; rw [if_neg (by omega), if_neg (by omega), hv]; exact O, ?_⟩
  rintro _ rfl
  refine ⟨by simp only [up_at]; rw [if_neg (by omega), if_neg (by omega), if_neg (by omega), hv]; exact O, ?_⟩
  rintro _ rfl
  refine ⟨by simp only [up_at]; rw [if_neg (by omega), if_neg (by omega), if_neg (by omega), if_neg (by omega), hv]; exact O, ?_⟩
  rintro _ rfl
  refine ⟨by simp only [up_at]; rw [if_neg (by omega), if_neg (by omega), if_neg (by omega), if_neg (by omega), if_neg (by omega), hv]; exact O, ?_⟩
  rintro _ rfl
  refine ⟨by simp only [up_at]; rw [if_neg (by omega), if_neg (by omega), if_neg (by omega), if_neg (by omega), if_neg (by omega), if_neg (by omega), hv]; exact O, ?_⟩
  rintro _ rfl _ rfl
  simpa [up_at, hv, N, lJ1, J_add, kp] using h
