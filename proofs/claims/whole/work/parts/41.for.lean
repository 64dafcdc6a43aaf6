-- needs: 20 21 22 23 24 25 26 30 31 32 33 40
-- the class's forest
theorem pp_pm (n : Nat) (w : View) : Pm n (pp n w) := fun i _ => by have := pp_rg n w i; omega
def idf (w : View) (i : Nat) : Int := w i 0
def cutb (n : Nat) (w : View) (i : Nat) : Bool := cyF (pp n w) (idf w) i 40 (pp n w i)
def kd (n : Nat) (w : View) (i : Nat) : Int := if w i 2 = -1 then 0 else if pp n w i < 0 then 2 else if cutb n w i = true then 3 else 1
def tp (n : Nat) (w : View) (i : Nat) : Int := tpf (pp n w) (idf w) i
def nov (n : Nat) (w : View) (i : Nat) : Int := if kd n w i = 1 then w i 2 else if kd n w i = 2 then 1000 + w i 2 else -1
def bgn (n : Nat) (w : View) (i : Nat) : Int := w i 4 + off n w (w i 3).toNat
def enn (n : Nat) (w : View) (i : Nat) : Int := w i 5 + off n w (w i 3).toNat
theorem pp_none {n : Nat} {w : View} (hw : WF n w) {i : Nat} (h : w i 2 = -1) : pp n w i = -1 := by
  have : fnd n w (-1) = -1 := by
    by_cases c : fnd n w (-1) = -1
    · exact c
    · have g := fnd_some c
      have := hw.r (fnd n w (-1)).toNat (by omega)
      omega
  unfold pp
  rw [h, if_pos this]
theorem tp_kd {n : Nat} {w : View} (hw : WF n w) {i : Nat} : tp n w i = if kd n w i = 1 then pp n w i else -1 := by
  unfold tp tpf kd
  by_cases a : w i 2 = -1
  · have := pp_none hw a
    rw [if_pos (by omega), if_pos a, if_neg (by omega)]
  · rw [if_neg a]
    by_cases b : pp n w i < 0
    · rw [if_pos b, if_pos b, if_neg (by omega)]
    · rw [if_neg b, if_neg b]
      unfold cutb
      by_cases c : cyF (pp n w) (idf w) i 40 (pp n w i) = true
      · rw [if_pos c, if_pos c, if_neg (by omega)]
      · rw [if_neg c, if_neg c, if_pos rfl]
theorem tp_tr {n : Nat} {w : View} (hw : WF n w) : Tr n (tp n w) := ⟨tpf_pm (pp_pm n w), fun _ hx => tree40 (pp_pm n w) hw.n hx⟩
theorem kd_rg (n : Nat) (w : View) (i : Nat) : 0 ≤ kd n w i ∧ kd n w i ≤ 3 := by
  unfold kd
  split
  · omega
  · split
    · omega
    · split <;> omega
theorem nov_rg {n : Nat} {w : View} (hw : WF n w) {i : Nat} (hi : i < n) : -1 ≤ nov n w i ∧ nov n w i ≤ 1099 := by
  have := hw.r i hi
  unfold nov
  split
  · omega
  · split <;> omega
theorem off_rg {n : Nat} {w : View} (hw : WF n w) {s : Nat} (hs : s < 8) : -489951 ≤ off n w s ∧ off n w s ≤ 489951 := by
  have := (ofF_Oi (mx_Ck hw n (Nat.le_refl _)) 8 (by omega)).1 s hs
  unfold off
  omega
theorem be_rg {n : Nat} {w : View} (hw : WF n w) {i : Nat} (hi : i < n) : -489951 ≤ bgn n w i ∧ bgn n w i ≤ 499950 ∧ -489951 ≤ enn n w i ∧ enn n w i ≤ 499950 ∧ bgn n w i ≤ enn n w i ∧ enn n w i - bgn n w i = w i 5 - w i 4 := by
  have r := hw.r i hi
  have := off_rg hw (s := (w i 3).toNat) (by omega)
  unfold bgn enn
  omega
/-- earlier in the order of the spans -/
abbrev erl (n : Nat) (w : View) (i j : Nat) : Prop := bgn n w i < bgn n w j ∨ (bgn n w i = bgn n w j ∧ w i 0 < w j 0)
def anb (n : Nat) (w : View) (j i : Nat) : Bool := al (tp n w) (fun _ => false) (fun j r => decide (tp n w j = i) || r) j
theorem anb_eq {n : Nat} {w : View} (hw : WF n w) {j : Nat} (hj : j < n) (i : Nat) : anb n w j i = if tp n w j < 0 then false else (decide (tp n w j = i) || anb n w (tp n w j).toNat i) := al_eq (tp_tr hw) hj
/-- an error below the span -/
def erb (n : Nat) (w : View) (i : Nat) : Prop := ∃ j, j < n ∧ w j 6 ≠ 0 ∧ anb n w j i = true
/-- a row of the forest: the first m of n -/
def OD (f : Ar) (n : Nat) (w : View) (m : Nat) : Prop := ∃ od : Nat → Nat, (∀ r, r < m → f r = J (od r) ∧ od r < m) ∧ (∀ r s, r < s → s < m → erl n w (od r) (od s)) ∧ ∀ i, i < m → ∃ r, r < m ∧ od r = i
def F1 (μ : Mem) (n : Nat) (w : View) : Prop := ∀ i, i < n → μ 1216 0 i = J (bgn n w i) ∧ μ 1280 0 i = J (enn n w i) ∧ μ 1344 0 i = J (pp n w i)
def F2 (μ : Mem) (n : Nat) (w : View) (m : Nat) : Prop := ∀ i, i < m → μ 1408 0 i = J (kd n w i) ∧ μ 1472 0 i = J (tp n w i) ∧ μ 1536 0 i = J (nov n w i)
def FV (μ : Mem) (n : Nat) (w : View) : Prop := F1 μ n w ∧ F2 μ n w n ∧ (∀ i, i < n → (erb n w i → μ 1600 0 i = J 1) ∧ (¬ erb n w i → μ 1600 0 i = J 0)) ∧ OD (μ 1664 0) n w n
theorem cyc_spec {μ : Mem} {n : Nat} {w : View} (hv : SV μ 0 n w) (hw : WF n w) (hp : ∀ i, i < n → μ 1344 0 i = J (pp n w i)) {i : Nat} (hi : i < n) {P : Int32 → Mem → Prop} (h1 : cutb n w i = true → P 1 μ) (h0 : ¬ cutb n w i = true → P 0 μ) : w2_isLowestOfCycle_wp μ (J i) P := by
  have rn := hw.n
  have ri := hw.r i hi
  have rp := pp_rg n w i
  unfold w2_isLowestOfCycle_wp
  simp (disch := omega) only [lJ0, lJ1, lJ2, lJ3, lJ4, lJ5, lJ6, lJ7, lJ8, lJ9, lJ10, lJ30, lJ32, lJ33, lJ39, lJ40, lJ41, lJ45, lJ47, lJ48, lJ51, lJ55, lJ57, lJ58, lJ59, lJ60, lJ64, lJ80, lJ82, lJ99, lJ100, lJ101, lJ123, lJ126, lJ282, lJ342, lJ1000, lJ1100, lJ2394, lJ2736, lJ9999, lJ10000, lJ1000000, lJ100000000, J_add, J_sub, J_mul, J_neg, J_le, J_lt, J_eq, J_in, J_clamp, Int.toNat_natCast, hp i hi]
  refine ⟨by omega, ?_⟩
  intro R hR
  unfold cutb at h1 h0
  suffices H : ∀ (d k : Nat) (x : Int), k + d = 40 → -1 ≤ x → x < n → (cyF (pp n w) (idf w) i d x = true → P 1 μ) → (¬ cyF (pp n w) (idf w) i d x = true → P 0 μ) → R μ (J i) (J x) (J (k : Nat)) from H 40 0 (pp n w i) (by omega) (by omega) (by omega) h1 h0
  intro d
  induction d with
  | zero =>
    intro k x hk x1 x2 h1 h0
    apply hR
    unfold w2_isLowestOfCycle_b11_body
    simp (disch := omega) only [lJ0, lJ1, lJ2, lJ3, lJ4, lJ5, lJ6, lJ7, lJ8, lJ9, lJ10, lJ30, lJ32, lJ33, lJ39, lJ40, lJ41, lJ45, lJ47, lJ48, lJ51, lJ55, lJ57, lJ58, lJ59, lJ60, lJ64, lJ80, lJ82, lJ99, lJ100, lJ101, lJ123, lJ126, lJ282, lJ342, lJ1000, lJ1100, lJ2394, lJ2736, lJ9999, lJ10000, lJ1000000, lJ100000000, J_add, J_sub, J_mul, J_neg, J_le, J_lt, J_eq, J_in, J_clamp, Int.toNat_natCast]
    exact ⟨fun _ => h0 (by simp [cyF]), fun c => absurd (by omega) c⟩
  | succ d ih =>
    intro k x hk x1 x2 h1 h0
    apply hR
    unfold w2_isLowestOfCycle_b11_body
    unfold cyF at h1 h0
    simp (disch := omega) only [lJ0, lJ1, lJ2, lJ3, lJ4, lJ5, lJ6, lJ7, lJ8, lJ9, lJ10, lJ30, lJ32, lJ33, lJ39, lJ40, lJ41, lJ45, lJ47, lJ48, lJ51, lJ55, lJ57, lJ58, lJ59, lJ60, lJ64, lJ80, lJ82, lJ99, lJ100, lJ101, lJ123, lJ126, lJ282, lJ342, lJ1000, lJ1100, lJ2394, lJ2736, lJ9999, lJ10000, lJ1000000, lJ100000000, J_add, J_sub, J_mul, J_neg, J_le, J_lt, J_eq, J_in, J_clamp, Int.toNat_natCast]
    refine ⟨fun _ => by omega, fun _ => ?_⟩
    refine isWithin_spec x 40 rfl rfl (by omega) (by decide) (fun c => ⟨fun c => absurd c (by decide), fun _ => ?_⟩) (fun c => ⟨fun _ => h0 (by rw [if_pos (by omega)]; simp), fun c => absurd rfl c⟩)
    have rx := hw.r x.toNat (by omega)
    have px := pp_rg n w x.toNat
    rw [if_neg (show ¬ x < 0 by omega)] at h1 h0
    simp (disch := omega) only [lJ0, lJ1, lJ2, lJ3, lJ4, lJ5, lJ6, lJ7, lJ8, lJ9, lJ10, lJ30, lJ32, lJ33, lJ39, lJ40, lJ41, lJ45, lJ47, lJ48, lJ51, lJ55, lJ57, lJ58, lJ59, lJ60, lJ64, lJ80, lJ82, lJ99, lJ100, lJ101, lJ123, lJ126, lJ282, lJ342, lJ1000, lJ1100, lJ2394, lJ2736, lJ9999, lJ10000, lJ1000000, lJ100000000, J_add, J_sub, J_mul, J_neg, J_le, J_lt, J_eq, J_in, J_clamp, Int.toNat_natCast, hv.1, hv.i0, hv.i1, hv.i2, hv.i3, hv.i4, hv.i5, hv.i6]
    refine ⟨fun c2 => ⟨by omega, by omega, fun c3 => ⟨by omega, ?_⟩, fun c3 => h0 (by rw [if_neg c2, if_pos (show idf w x.toNat < idf w i by unfold idf; omega)]; simp)⟩, fun c2 => h1 (by rw [if_pos c2])⟩
    have e := hp x.toNat (by omega)
    rw [if_neg c2, if_neg (show ¬ idf w x.toNat < idf w i by unfold idf; omega)] at h1 h0
    rw [e]
    exact ih (k + 1) _ (by omega) (by omega) (by omega) h1 h0
theorem kindOf_spec {μ : Mem} {n : Nat} {w : View} (hv : SV μ 0 n w) (hw : WF n w) (hp : ∀ i, i < n → μ 1344 0 i = J (pp n w i)) {i : Nat} (hi : i < n) {P : Int32 → Mem → Prop} (h : P (J (kd n w i)) μ) : w2_kindOf_wp μ (J i) P := by
  have rn := hw.n
  have ri := hw.r i hi
  have rp := pp_rg n w i
  unfold w2_kindOf_wp
  unfold kd at h
  simp (disch := omega) only [lJ0, lJ1, lJ2, lJ3, lJ4, lJ5, lJ6, lJ7, lJ8, lJ9, lJ10, lJ30, lJ32, lJ33, lJ39, lJ40, lJ41, lJ45, lJ47, lJ48, lJ51, lJ55, lJ57, lJ58, lJ59, lJ60, lJ64, lJ80, lJ82, lJ99, lJ100, lJ101, lJ123, lJ126, lJ282, lJ342, lJ1000, lJ1100, lJ2394, lJ2736, lJ9999, lJ10000, lJ1000000, lJ100000000, J_add, J_sub, J_mul, J_neg, J_le, J_lt, J_eq, J_in, J_clamp, Int.toNat_natCast, hv.1, hv.i0, hv.i1, hv.i2, hv.i3, hv.i4, hv.i5, hv.i6, hp i hi]
  refine ⟨by omega, fun c => ⟨by omega, fun c2 => ?_, fun c2 => ?_⟩, fun c => ?_⟩
  · rw [if_neg c, if_neg (by omega)] at h
    refine cyc_spec hv hw hp hi (fun c3 => ⟨fun c => absurd c (by decide), fun _ => ?_⟩) (fun c3 => ⟨fun _ => ?_, fun c => absurd rfl c⟩)
    · rw [if_pos c3] at h; exact h
    · rw [if_neg c3] at h; exact h
  · rw [if_neg c, if_pos (by omega)] at h; exact h
  · rw [if_pos c] at h; exact h
theorem nodeOver_spec {μ : Mem} {n : Nat} {w : View} (hv : SV μ 0 n w) (hw : WF n w) {i : Nat} (hi : i < n) (hk : μ 1408 0 i = J (kd n w i)) {P : Int32 → Mem → Prop} (h : P (J (nov n w i)) μ) : w2_nodeOver_wp μ (J i) P := by
  have rn := hw.n
  have ri := hw.r i hi
  have rk := kd_rg n w i
  unfold w2_nodeOver_wp
  unfold nov at h
  simp (disch := omega) only [lJ0, lJ1, lJ2, lJ3, lJ4, lJ5, lJ6, lJ7, lJ8, lJ9, lJ10, lJ30, lJ32, lJ33, lJ39, lJ40, lJ41, lJ45, lJ47, lJ48, lJ51, lJ55, lJ57, lJ58, lJ59, lJ60, lJ64, lJ80, lJ82, lJ99, lJ100, lJ101, lJ123, lJ126, lJ282, lJ342, lJ1000, lJ1100, lJ2394, lJ2736, lJ9999, lJ10000, lJ1000000, lJ100000000, J_add, J_sub, J_mul, J_neg, J_le, J_lt, J_eq, J_in, J_clamp, Int.toNat_natCast, hv.1, hv.i0, hv.i1, hv.i2, hv.i3, hv.i4, hv.i5, hv.i6, hk]
  refine ⟨by omega, fun c => ⟨by omega, ?_⟩, fun c => ⟨by omega, ?_⟩, fun c => ?_⟩
  · rw [if_pos c] at h; exact h
  · rw [if_neg (by omega), if_pos c] at h; exact h
  · rw [if_neg c.1, if_neg c.2] at h; exact h
theorem isEarlier_spec {μ : Mem} {n : Nat} {w : View} (hv : SV μ 0 n w) (hw : WF n w) (hb : ∀ i, i < n → μ 1216 0 i = J (bgn n w i)) {i j : Nat} (hi : i < n) (hj : j < n) {P : Int32 → Mem → Prop} (h1 : erl n w i j → P 1 μ) (h0 : ¬ erl n w i j → P 0 μ) : w2_isEarlier_wp μ (J i) (J j) P := by
  have rn := hw.n
  have ri := hw.r i hi
  have rj := hw.r j hj
  have bi := be_rg hw hi
  have bj := be_rg hw hj
  unfold w2_isEarlier_wp
  simp (disch := omega) only [lJ0, lJ1, lJ2, lJ3, lJ4, lJ5, lJ6, lJ7, lJ8, lJ9, lJ10, lJ30, lJ32, lJ33, lJ39, lJ40, lJ41, lJ45, lJ47, lJ48, lJ51, lJ55, lJ57, lJ58, lJ59, lJ60, lJ64, lJ80, lJ82, lJ99, lJ100, lJ101, lJ123, lJ126, lJ282, lJ342, lJ1000, lJ1100, lJ2394, lJ2736, lJ9999, lJ10000, lJ1000000, lJ100000000, J_add, J_sub, J_mul, J_neg, J_le, J_lt, J_eq, J_in, J_clamp, Int.toNat_natCast, hv.1, hv.i0, hv.i1, hv.i2, hv.i3, hv.i4, hv.i5, hv.i6, hb i hi, hb j hj]
  exact ⟨by omega, by omega, fun c => h1 (Or.inl c), fun c => ⟨by omega, by omega, fun c2 => h0 (by omega), fun c2 => ⟨by omega, by omega, fun c3 => h0 (by omega), fun c3 => h1 (by omega)⟩⟩⟩
theorem erl_tot {n : Nat} {w : View} (hw : WF n w) {i j : Nat} (hi : i < n) (hj : j < n) (h : ¬ erl n w i j) (d : i ≠ j) : erl n w j i := by
  have : w i 0 ≠ w j 0 := fun e => d (hw.2.2 i j hi hj e)
  unfold erl at *
  omega
theorem insert_spec {μ : Mem} {n : Nat} {w : View} (hv : SV μ 0 n w) (hw : WF n w) (hb : ∀ i, i < n → μ 1216 0 i = J (bgn n w i)) {m : Nat} (hm : m < n) (ho : OD (μ 1664 0) n w m) {P : Mem → Prop} (h : ∀ μ', Bt [1664] μ μ' → OD (μ' 1664 0) n w (m + 1) → P μ') : w2_insert_wp μ (J m) P := by
  obtain ⟨od, o1, o2, o3⟩ := ho
  have rn := hw.n
  intro R hR
  -- the end
  have fin : ∀ k μ', k ≤ m → Bt [1664] μ μ' → (∀ r, r < k → μ' 1664 0 r = J (od r)) → (∀ r, k < r → r ≤ m → μ' 1664 0 r = J (od (r - 1))) → (∀ r, k ≤ r → r < m → erl n w m (od r)) → (k = 0 ∨ ¬ erl n w m (od (k - 1))) → P (up μ' 1664 0 k (J m)) := by
    intro k μ' hk b g1 g2 g3 g4
    have g5 : ∀ r, r < k → erl n w (od r) m := fun r hr => by
      have a := o1 r (by omega)
      have z : erl n w (od (k - 1)) m := erl_tot hw hm (by have := o1 (k - 1) (by omega); omega) (by rcases g4 with y | y; omega; exact y) (by have := o1 (k - 1) (by omega); omega)
      rcases Nat.lt_or_ge r (k - 1) with y | y
      · have q := o2 r (k - 1) y (by omega)
        unfold erl at *
        omega
      · rw [show r = k - 1 by omega]; exact z
    refine h _ (Btu1 b) ⟨fun r => if r < k then od r else if r = k then m else od (r - 1), fun r hr => ?_, fun r s hrs hs => ?_, fun i hi => ?_⟩
    · rw [up_at]
      dsimp only
      by_cases y : r < k
      · rw [if_neg (by omega), if_pos y]
        exact ⟨g1 r y, by have := o1 r (by omega); omega⟩
      · rw [if_neg y]
        by_cases y2 : r = k
        · rw [if_pos ⟨rfl, rfl, y2⟩, if_pos y2]
          exact ⟨rfl, by omega⟩
        · rw [if_neg (fun z => y2 z.2.2), if_neg y2]
          exact ⟨g2 r (by omega) (by omega), by have := o1 (r - 1) (by omega); omega⟩
    · dsimp only
      by_cases y : r < k
      · rw [if_pos y]
        by_cases y2 : s < k
        · rw [if_pos y2]; exact o2 r s hrs (by omega)
        · rw [if_neg y2]
          by_cases y3 : s = k
          · rw [if_pos y3]; exact g5 r y
          · rw [if_neg y3]
            rcases Nat.lt_or_ge r (s - 1) with z | z
            · exact o2 r (s - 1) z (by omega)
            · omega
      · rw [if_neg y, if_neg (by omega : ¬ s < k), if_neg (by omega : ¬ s = k)]
        by_cases y2 : r = k
        · rw [if_pos y2]; exact g3 (s - 1) (by omega) (by omega)
        · rw [if_neg y2]; exact o2 (r - 1) (s - 1) (by omega) (by omega)
    · rcases Nat.lt_or_ge i m with y | y
      · obtain ⟨r, r1, r2⟩ := o3 i y
        rcases Nat.lt_or_ge r k with z | z
        · exact ⟨r, by omega, by dsimp only; rw [if_pos z]; exact r2⟩
        · exact ⟨r + 1, by omega, by dsimp only; rw [if_neg (by omega), if_neg (by omega)]; exact r2⟩
      · exact ⟨k, by omega, by dsimp only; rw [if_neg (by omega), if_pos rfl]; omega⟩
  suffices H : ∀ k, k ≤ m → ∀ μ', Bt [1664] μ μ' → (∀ r, r < k → μ' 1664 0 r = J (od r)) → (∀ r, k < r → r ≤ m → μ' 1664 0 r = J (od (r - 1))) → (∀ r, k ≤ r → r < m → erl n w m (od r)) → R μ' (J m) (J k) from H m (Nat.le_refl _) μ Bt.rf (fun r hr => (o1 r hr).1) (fun r h1 h2 => by omega) (fun r h1 h2 => by omega)
  intro k
  induction k with
  | zero =>
    intro hk μ' b g1 g2 g3
    apply hR
    unfold w2_insert_b2_body
    simp (disch := omega) only [lJ0, lJ1, lJ2, lJ3, lJ4, lJ5, lJ6, lJ7, lJ8, lJ9, lJ10, lJ30, lJ32, lJ33, lJ39, lJ40, lJ41, lJ45, lJ47, lJ48, lJ51, lJ55, lJ57, lJ58, lJ59, lJ60, lJ64, lJ80, lJ82, lJ99, lJ100, lJ101, lJ123, lJ126, lJ282, lJ342, lJ1000, lJ1100, lJ2394, lJ2736, lJ9999, lJ10000, lJ1000000, lJ100000000, J_add, J_sub, J_mul, J_neg, J_le, J_lt, J_eq, J_in, J_clamp, Int.toNat_natCast]
    refine ⟨fun _ => ⟨by omega, ?_⟩, fun c => absurd (by omega) c⟩
    rintro _ rfl
    exact fin 0 μ' hk b g1 g2 g3 (Or.inl rfl)
  | succ k ih =>
    intro hk μ' b g1 g2 g3
    apply hR
    unfold w2_insert_b2_body
    have e1 : (((k + 1 : Nat) : Int) - 1).toNat = k := by omega
    have e2 : μ' 1664 0 k = J (od k) := g1 k (by omega)
    have e3 := (o1 k (by omega)).2
    have hv' := hv.bt b (by decide)
    have hb' : ∀ i, i < n → μ' 1216 0 i = J (bgn n w i) := fun i hi => by rw [b 1216 (by decide)]; exact hb i hi
    simp (disch := omega) only [lJ0, lJ1, lJ2, lJ3, lJ4, lJ5, lJ6, lJ7, lJ8, lJ9, lJ10, lJ30, lJ32, lJ33, lJ39, lJ40, lJ41, lJ45, lJ47, lJ48, lJ51, lJ55, lJ57, lJ58, lJ59, lJ60, lJ64, lJ80, lJ82, lJ99, lJ100, lJ101, lJ123, lJ126, lJ282, lJ342, lJ1000, lJ1100, lJ2394, lJ2736, lJ9999, lJ10000, lJ1000000, lJ100000000, J_add, J_sub, J_mul, J_neg, J_le, J_lt, J_eq, J_in, J_clamp, Int.toNat_natCast, e1, e2]
    refine ⟨fun c => by omega, fun _ => ⟨by omega, ?_⟩⟩
    refine isEarlier_spec hv' hw hb' hm (by omega) (fun c => ⟨fun c => absurd c (by decide), fun _ => ⟨by omega, by omega, ?_⟩⟩) (fun c => ⟨fun _ => ⟨by omega, ?_⟩, fun c => absurd rfl c⟩)
    · rintro _ rfl
      have := ih (by omega) (up μ' 1664 0 (k + 1) (J (od k))) (Btu1 b) (fun r hr => ?_) (fun r h1 h2 => ?_) (fun r h1 h2 => ?_)
      · rw [show ((k + 1 : Nat) : Int) + -1 = (k : Int) by omega, e2]
        exact this
      · rw [up_at, if_neg (by omega)]; exact g1 r (by omega)
      · rw [up_at]
        by_cases y : r = k + 1
        · rw [if_pos ⟨rfl, rfl, y⟩, y]; rfl
        · rw [if_neg (fun z => y z.2.2)]; exact g2 r (by omega) h2
      · rcases Nat.lt_or_ge k r with y | y
        · exact g3 r (by omega) h2
        · rw [show r = k by omega]; exact c
    · rintro _ rfl
      exact fin (k + 1) μ' hk b g1 g2 g3 (Or.inr c)
