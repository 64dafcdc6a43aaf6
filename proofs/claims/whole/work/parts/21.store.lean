-- the class's Store
abbrev View : Type := Nat → Nat → Int
/-- field c of the span at place i of store k -/
def sA (μ : Mem) (k c i : Nat) : Int32 := match c with
  | 0 => μ 128 k i
  | 1 => μ 64 k i
  | 2 => μ 192 k i
  | 3 => μ 256 k i
  | 4 => μ 320 k i
  | 5 => μ 384 k i
  | _ => μ 448 k i
def SV (μ : Mem) (k n : Nat) (w : View) : Prop := (μ 1 k 0) = J n ∧ ∀ i, i < n → ∀ c, c < 7 → sA μ k c i = J (w i c)
abbrev Lk : Type := List (Int × Int)
def lf (l : Lk) (q : Nat) : Int := (l.getD q (0, 0)).1
def lt (l : Lk) (q : Nat) : Int := (l.getD q (0, 0)).2
def LV (μ : Mem) (k : Nat) (l : Lk) : Prop := (μ 2 k 0) = J l.length ∧ ∀ q, q < l.length → μ 512 k q = J (lf l q) ∧ μ 576 k q = J (lt l q)
/-- ranges of a span's fields -/
abbrev Rg (w : View) (i : Nat) : Prop := 0 ≤ w i 0 ∧ w i 0 < 100 ∧ 0 ≤ w i 1 ∧ w i 1 < 4 ∧ -1 ≤ w i 2 ∧ w i 2 < 100 ∧ 0 ≤ w i 3 ∧ w i 3 < 8 ∧ 0 ≤ w i 4 ∧ w i 4 < 10000 ∧ 0 ≤ w i 5 ∧ w i 5 < 10000 ∧ 0 ≤ w i 6 ∧ w i 6 ≤ 1
def WF (n : Nat) (w : View) : Prop := n ≤ 40 ∧ (∀ i, i < n → Rg w i ∧ w i 4 ≤ w i 5) ∧ ∀ i j, i < n → j < n → w i 0 = w j 0 → i = j
def LW (l : Lk) : Prop := l.length ≤ 30 ∧ ∀ q, q < l.length → 0 ≤ lf l q ∧ lf l q < 100 ∧ 0 ≤ lt l q ∧ lt l q < 100
/-- nothing but store k has changed -/
def FrS (k : Nat) (μ μ' : Mem) : Prop := ∀ j' k' i', ¬ (j' < 640 ∧ k' = k) → μ' j' k' i' = μ j' k' i'
theorem FrS.rf {k : Nat} {μ : Mem} : FrS k μ μ := fun _ _ _ _ => rfl
theorem FrS.tr {k : Nat} {μ μ1 μ2 : Mem} (h1 : FrS k μ μ1) (h2 : FrS k μ1 μ2) : FrS k μ μ2 := fun j k' i h => (h2 j k' i h).trans (h1 j k' i h)
theorem FrS.up {k j i : Nat} {μ : Mem} {v : Int32} (hj : j < 640) : FrS k μ (up μ j k i v) := fun j' k' i' h => by rw [up_at, if_neg]; omega
theorem isWithin_spec {μ : Mem} {x y : Int32} (z m : Int) {P : Int32 → Mem → Prop} (ex : x = J z) (ey : y = J m) (hz : (-2147483648 ≤ z ∧ z ≤ 2147483647)) (hm : (-2147483648 ≤ m ∧ m ≤ 2147483647)) (h1 : 0 ≤ z ∧ z < m → P 1 μ) (h0 : ¬ (0 ≤ z ∧ z < m) → P 0 μ) : w8_isWithin_wp μ x y P := by
  subst ex ey
  unfold w8_isWithin_wp
  rw [lJ0, J_lt hz (by decide), J_le hm hz]
  exact ⟨fun c => h0 (by omega), fun c => ⟨fun c2 => h0 (by omega), fun c2 => h1 (by omega)⟩⟩
/-- the memory behind keep -/
def kp (μ : Mem) (k n : Nat) (t id pa sv b e er : Int32) : Mem := up (up (up (up (up (up (up (up μ 64 k n t) 128 k n id) 192 k n pa) 256 k n sv) 320 k n b) 384 k n e) 448 k n (vp_nar .boolean er)) 1 k 0 (J (n + 1))
theorem keep_spec {μ : Mem} {k n : Nat} (hv : (μ 1 k 0) = J n) (hn : n < 40) {t id pa sv b e er : Int32} {P : Mem → Prop} (h : P (kp μ k n t id pa sv b e er)) : w7_keep_wp μ k t id pa sv b e er P := by
  have O : vp_in (J (n : Int)) 40 := (J_in (by omega)).mpr (by omega)
  have N : (J (n : Int)).toNatClampNeg = n := J_nat_clamp (by omega)
  unfold w7_keep_wp
  rw [hv]
  refine isWithin_spec n 40 rfl rfl (by omega) (by decide) (fun _ => ⟨fun _ => ?_, fun c => absurd c (by decide)⟩) (fun c => absurd (by omega) c)
  refine ⟨by rw [hv]; exact O, ?_⟩
  rintro _ rfl
  refine ⟨by simp only [up_at]; rw [if_neg (by omega), hv]; exact O, ?_⟩
  rintro _ rfl
  refine ⟨by simp only [up_at]; rw [if_neg (by omega), if_neg (by omega), hv]; exact O, ?_⟩
  rintro _ rfl
  refine ⟨by simp only [up_at]; rw [if_neg (by omega), if_neg (by omega), if_neg (by omega), hv]; exact O, ?_⟩
  rintro _ rfl
  refine ⟨by simp only [up_at]; rw [if_neg (by omega), if_neg (by omega), if_neg (by omega), if_neg (by omega), hv]; exact O, ?_⟩
  rintro _ rfl
  refine ⟨by simp only [up_at]; rw [if_neg (by omega), if_neg (by omega), if_neg (by omega), if_neg (by omega), if_neg (by omega), hv]; exact O, ?_⟩
  rintro _ rfl
  refine ⟨by simp only [up_at]; rw [if_neg (by omega), if_neg (by omega), if_neg (by omega), if_neg (by omega), if_neg (by omega), if_neg (by omega), hv]; exact O, ?_⟩
  rintro _ rfl _ rfl
  have e1 : J (n : Int) + 1 = J ((n : Int) + 1) := J_add n 1
  simp only [up_at, Nat.reduceEqDiff, reduceCtorEq, false_and, if_false, hv, N, e1]
  exact h
/-- the row of a span -/
def rw7 (t id pa sv b e er : Int) : Nat → Int := fun c => match c with
  | 0 => id
  | 1 => t
  | 2 => pa
  | 3 => sv
  | 4 => b
  | 5 => e
  | _ => er
def wset (w : View) (n : Nat) (r : Nat → Int) : View := fun i => if i = n then r else w i
theorem kp_fr {μ : Mem} {k n : Nat} {t id pa sv b e er : Int32} : FrS k μ (kp μ k n t id pa sv b e er) := by
  intro j' k' i' h
  unfold kp
  simp only [up_at]
  repeat rw [if_neg (by omega)]
theorem nar01 {z : Int} (h : 0 ≤ z ∧ z ≤ 1) : vp_nar .boolean (J z) = J z := by
  have : z = 0 ∨ z = 1 := by omega
  rcases this with rfl | rfl <;> rfl
theorem kp_SV {μ : Mem} {k n : Nat} {w : View} (hv : SV μ k n w) {t id pa sv b e er : Int} (her : 0 ≤ er ∧ er ≤ 1) : SV (kp μ k n (J t) (J id) (J pa) (J sv) (J b) (J e) (J er)) k (n + 1) (wset w n (rw7 t id pa sv b e er)) := by
  refine ⟨by unfold kp; simp only [up_at]; simp, fun i hi c hc => ?_⟩
  by_cases hin : i = n
  · subst hin
    match c, hc with
    | 0, _ => simp [sA, kp, up_at, wset, rw7]
    | 1, _ => simp [sA, kp, up_at, wset, rw7]
    | 2, _ => simp [sA, kp, up_at, wset, rw7]
    | 3, _ => simp [sA, kp, up_at, wset, rw7]
    | 4, _ => simp [sA, kp, up_at, wset, rw7]
    | 5, _ => simp [sA, kp, up_at, wset, rw7]
    | 6, _ => simp [sA, kp, up_at, wset, rw7, nar01 her]
  · have := hv.2 i (by omega) c hc
    match c, hc with
    | 0, _ => simpa [sA, kp, up_at, wset, hin] using this
    | 1, _ => simpa [sA, kp, up_at, wset, hin] using this
    | 2, _ => simpa [sA, kp, up_at, wset, hin] using this
    | 3, _ => simpa [sA, kp, up_at, wset, hin] using this
    | 4, _ => simpa [sA, kp, up_at, wset, hin] using this
    | 5, _ => simpa [sA, kp, up_at, wset, hin] using this
    | 6, _ => simpa [sA, kp, up_at, wset, hin] using this
theorem kp_LV {μ : Mem} {k n : Nat} {l : Lk} {t id pa sv b e er : Int32} (h : LV μ k l) : LV (kp μ k n t id pa sv b e er) k l := by
  refine ⟨by have := h.1; simpa [kp, up_at] using this, fun q hq => ?_⟩
  have := h.2 q hq
  simpa [kp, up_at] using this
theorem SV.fr {μ μ' : Mem} {k k2 n : Nat} {w : View} (h : SV μ k2 n w) (hf : FrS k μ μ') (hk : k2 ≠ k) : SV μ' k2 n w := by
  refine ⟨(hf _ _ _ (by omega)).trans h.1, fun i hi c hc => ?_⟩
  have := h.2 i hi c hc
  match c, hc with
  | 0, _ => exact (hf _ _ _ (by omega)).trans this
  | 1, _ => exact (hf _ _ _ (by omega)).trans this
  | 2, _ => exact (hf _ _ _ (by omega)).trans this
  | 3, _ => exact (hf _ _ _ (by omega)).trans this
  | 4, _ => exact (hf _ _ _ (by omega)).trans this
  | 5, _ => exact (hf _ _ _ (by omega)).trans this
  | 6, _ => exact (hf _ _ _ (by omega)).trans this
theorem LV.fr {μ μ' : Mem} {k k2 : Nat} {w : Lk} (h : LV μ k2 w) (hf : FrS k μ μ') (hk : k2 ≠ k) : LV μ' k2 w :=
  ⟨(hf _ _ _ (by omega)).trans h.1, fun q hq => ⟨(hf _ _ _ (by omega)).trans (h.2 q hq).1, (hf _ _ _ (by omega)).trans (h.2 q hq).2⟩⟩
theorem SV.cg {μ : Mem} {k n : Nat} {w w' : View} (h : SV μ k n w) (hw : ∀ i, i < n → ∀ c, c < 7 → w' i c = w i c) : SV μ k n w' := ⟨h.1, fun i hi c hc => by rw [hw i hi c hc]; exact h.2 i hi c hc⟩
/-- keepCopy(other, place) puts the row behind the others; k1 = k is allowed -/
theorem keepCopy_spec {μ : Mem} {k k1 n : Nat} {w w1 : View} (hv : SV μ k n w) (hn : n < 40) (i : Nat) (hi : i < 40) (hr : ∀ c, c < 7 → sA μ k1 c i = J (w1 i c)) (he : 0 ≤ w1 i 6 ∧ w1 i 6 ≤ 1) {x : Int32} (hx : x = J i) {P : Mem → Prop} (h : ∀ μ', FrS k μ μ' → SV μ' k (n + 1) (wset w n (w1 i)) → (∀ l, LV μ k l → LV μ' k l) → (∀ c i', i' ≠ n → sA μ' k c i' = sA μ k c i') → P μ') : w7_keepCopy_wp μ k k1 x P := by
  subst hx
  have O : vp_in (J (i : Int)) 40 := (J_in (by omega)).mpr (by omega)
  have N : (J (i : Int)).toNatClampNeg = i := J_nat_clamp (by omega)
  unfold w7_keepCopy_wp
  refine isWithin_spec i 40 rfl rfl (by omega) (by decide) (fun _ => ⟨fun c => absurd c (by decide), fun _ => ?_⟩) (fun c => absurd (by omega) c)
  refine ⟨O, O, O, O, O, O, O, ?_, ?_⟩
  · rw [N, show μ 448 k1 i = J (w1 i 6) from hr 6 (by omega)]
    exact nar01 he
  refine keep_spec (n := n) hv.1 hn ?_
  rw [N]
  have h0 : μ 128 k1 i = J (w1 i 0) := hr 0 (by omega)
  have h1 : μ 64 k1 i = J (w1 i 1) := hr 1 (by omega)
  have h2 : μ 192 k1 i = J (w1 i 2) := hr 2 (by omega)
  have h3 : μ 256 k1 i = J (w1 i 3) := hr 3 (by omega)
  have h4 : μ 320 k1 i = J (w1 i 4) := hr 4 (by omega)
  have h5 : μ 384 k1 i = J (w1 i 5) := hr 5 (by omega)
  have h6 : μ 448 k1 i = J (w1 i 6) := hr 6 (by omega)
  rw [h0, h1, h2, h3, h4, h5, h6]
  refine h _ kp_fr ((kp_SV hv he).cg fun i' hi' c hc => ?_) (fun l hl => kp_LV hl) (fun c i' hi' => ?_)
  · unfold wset
    by_cases e : i' = n
    · rw [if_pos e, if_pos e]
      match c, hc with
      | 0, _ => rfl
      | 1, _ => rfl
      | 2, _ => rfl
      | 3, _ => rfl
      | 4, _ => rfl
      | 5, _ => rfl
      | 6, _ => rfl
    · rw [if_neg e, if_neg e]
  · unfold sA
    split <;> simp [kp, up_at, hi']
