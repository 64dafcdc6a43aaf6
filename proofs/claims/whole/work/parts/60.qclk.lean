-- calls that read the clocks and the forest, span by span
def CK (S : GS) (μ : Mem) : Prop := CI S μ ∧ Clk μ (S.1.1) (S.1.2.1) ∧ FV μ (S.1.1) (S.1.2.1)
def MQ9 (S : GS) (μ : Mem) : Prop := MI S μ ∧ MClk μ (S.1.1) (S.1.2.1) ∧ MFo μ (S.1.1) (S.1.2.1)
theorem workOut_spec2 {S : GS} {μ : Mem} (hc : CI S μ) (g : GOK S) {P : Mem → Prop} (h : ∀ μ', FrC μ μ' → CK S μ' → P μ') : w8_workOut_wp μ P := workOut_spec hc g (fun μ' f c k v => h μ' f ⟨c, k, v⟩)
theorem knows_spec2 {S : GS} {μ : Mem} (hm : MI S μ) (g : GOK S) {P : Mem → Prop} (h : ∀ μ', FrM μ μ' → μ' 3201 0 0 = μ 3201 0 0 → MQ9 S μ' → P μ') : w9_knows_wp μ P := knows_spec hm g (fun μ' f e c k v => h μ' f (by rw [e]) ⟨c, k, v⟩)
theorem m_kn0 {S : GS} {μ : Mem} (hm : MI S μ) (g : GOK S) {P : Mem → Prop} (h : ∀ μ', FrM μ μ' → μ' 3201 0 0 = J 0 → MQ9 S μ' → P μ') : ∀ μ1 : Mem, μ1 = up μ 3201 0 0 (0 : Int32) → w9_knows_wp μ1 P := by
  rintro μ1 rfl
  exact knows_spec2 (S := S) (hm.thr (v := 0)) g (fun μ' f e k => h μ' ((thr_fr (v := 0)).tr f) (e.trans (thr_w (v := 0))) k)
theorem m_on2 {S : GS} {μ : Mem} (hm : MI S μ) (g : GOK S) {z : Int} (hz : (-2147483648 ≤ z ∧ z ≤ 2147483647)) {F : Int32 → Mem → Prop} (h0 : (fnd S.1.1 S.1.2.1 z) = -1 → ∀ μ', FrM μ μ' → MI S μ' → μ' 3201 0 0 = J 1 → F (J (-1)) μ') (h1 : ∀ i : Nat, i < S.1.1 → (fnd S.1.1 S.1.2.1 z) = i → S.1.2.1 i 0 = z → ∀ μ', FrM μ μ' → MI S μ' → μ' 3201 0 0 = J 0 → F (J i) μ') : w9_spanOr_wp μ (J z) F :=
  spanOr_spec hm.1.1 g.w hz (fun c => h0 c _ thr_fr hm.thr thr_w) (fun i hi e ez => h1 i hi e ez _ thr_fr hm.thr thr_w)
theorem checkService_spec {μ : Mem} {a : Int} (ha : (-2147483648 ≤ a ∧ a ≤ 2147483647)) {P : Mem → Prop} {X : String → Mem → Prop} (h1 : 0 ≤ a ∧ a < 8 → P μ) (h0 : ¬ (0 ≤ a ∧ a < 8) → X xIO μ) : w8_checkService_wp μ (J a) P X := by
  unfold w8_checkService_wp
  exact isWithin_spec a 8 rfl rfl ha (by decide) (fun c => ⟨fun _ => h1 c, fun c => absurd c (by decide)⟩) (fun c => ⟨fun c => absurd rfl c, fun _ => h0 c⟩)
theorem checkTrace_spec {μ : Mem} {a : Int} (ha : (-2147483648 ≤ a ∧ a ≤ 2147483647)) {P : Mem → Prop} {X : String → Mem → Prop} (h1 : 0 ≤ a ∧ a < 4 → P μ) (h0 : ¬ (0 ≤ a ∧ a < 4) → X xIO μ) : w8_checkTrace_wp μ (J a) P X := by
  unfold w8_checkTrace_wp
  exact isWithin_spec a 4 rfl rfl ha (by decide) (fun c => ⟨fun _ => h1 c, fun c => absurd c (by decide)⟩) (fun c => ⟨fun c => absurd rfl c, fun _ => h0 c⟩)
theorem Oi.le {E : Mx} {o : Nat → Int} {s t : Nat} (h : Oi E o t) (hs : s ≤ t) : Oi E o s := ⟨fun c hc => h.1 c (by omega), fun c d hc hd => h.2 c d (by omega) (by omega)⟩
theorem chc_rg {n : Nat} {w : View} (hw : WF n w) {s : Nat} (hs : s < 8) : 0 ≤ chc n w s ∧ chc n w s ≤ 1200000 := by
  have k := mx_Ck hw n (Nat.le_refl _)
  have o := (ofF_Oi k 8 (Nat.le_refl _)).le (Nat.le_of_lt hs)
  have h := (lh2 k hs o).2
  have e : ∀ c, ofF (mx n w n) 8 c = off n w c := fun c => rfl
  unfold chc
  have e2 : off n w = ofF (mx n w n) 8 := rfl
  rw [e2]
  rcases h with ⟨h1, h2, h3⟩ | ⟨h1, h2, h3, -⟩
  · rw [if_pos h3]; omega
  · split <;> omega
theorem ver_rg (n : Nat) (w : View) (i : Nat) : ver n w i = 0 ∨ ver n w i = 1 ∨ ver n w i = 2 := by
  unfold ver jdv
  repeat' split
  all_goals simp
def op_offset (S : GS) (a : Int) : OpR Int := if 0 ≤ a ∧ a < 8 then ok S (off (S.1.1) (S.1.2.1) a.toNat) else thw S xIO 1
def op_freedom (S : GS) (a : Int) : OpR Int := if 0 ≤ a ∧ a < 8 then (if chc (S.1.1) (S.1.2.1) a.toNat = 0 then thw S xNE 2 else ok S (chc (S.1.1) (S.1.2.1) a.toNat)) else thw S xIO 1
def op_pairs (S : GS) (f : Int) : OpR Int := ok S (cnt (fun i => ver (S.1.1) (S.1.2.1) i = if f = 0 then 2 else 1) (S.1.1))
def op_isAccepted (S : GS) (z : Int) : OpR Int := if (fnd S.1.1 S.1.2.1 z) = -1 then thw S xIO 1 else if ver (S.1.1) (S.1.2.1) ((fnd S.1.1 S.1.2.1 z)).toNat = 0 then thw S xNE 2 else ok S (if ver (S.1.1) (S.1.2.1) ((fnd S.1.1 S.1.2.1 z)).toNat = 1 then 1 else 0)
def op_isInside (S : GS) (z : Int) : OpR Int := if (fnd S.1.1 S.1.2.1 z) = -1 then thw S xIO 1 else if pp (S.1.1) (S.1.2.1) ((fnd S.1.1 S.1.2.1 z)).toNat = -1 then thw S xNE 2 else ok S (if bgn (S.1.1) (S.1.2.1) (pp (S.1.1) (S.1.2.1) ((fnd S.1.1 S.1.2.1 z)).toNat).toNat ≤ bgn (S.1.1) (S.1.2.1) ((fnd S.1.1 S.1.2.1 z)).toNat ∧ enn (S.1.1) (S.1.2.1) ((fnd S.1.1 S.1.2.1 z)).toNat ≤ enn (S.1.1) (S.1.2.1) (pp (S.1.1) (S.1.2.1) ((fnd S.1.1 S.1.2.1 z)).toNat).toNat then 1 else 0)
def op_corrected (S : GS) (z f : Int) : OpR Int := if (fnd S.1.1 S.1.2.1 z) = -1 then thw S xIO 1 else ok S (if f = 0 then bgn (S.1.1) (S.1.2.1) ((fnd S.1.1 S.1.2.1 z)).toNat else enn (S.1.1) (S.1.2.1) ((fnd S.1.1 S.1.2.1 z)).toNat)
def op_explain (S : GS) (z : Int) : OpR Int := if (fnd S.1.1 S.1.2.1 z) = -1 then thw S xIO 1 else ok S (kd (S.1.1) (S.1.2.1) ((fnd S.1.1 S.1.2.1 z)).toNat)
def op_cutCount (S : GS) : OpR Int := ok S (cnt (fun i => kd (S.1.1) (S.1.2.1) i = 3) (S.1.1))
theorem c_offset {S : GS} {μ : Mem} (hc : CI S μ) (g : GOK S) {a : Int} (ha : (-2147483648 ≤ a ∧ a ≤ 2147483647)) {P : Int32 → Mem → Prop} {X : String → Mem → Prop} (h : CRes J (op_offset S a) μ P X) : w8_offset_wp μ (J a) P X := by
  unfold op_offset at h
  unfold w8_offset_wp
  refine checkService_spec ha (fun c => ?_) (fun c => by rw [if_neg c] at h; exact h μ FrC.rf hc)
  rw [if_pos c] at h
  refine workOut_spec2 hc g (fun μ' f k => ?_)
  have e := k.2.1.2.1 a.toNat (by omega)
  simp (disch := omega) only [lJ0, lJ1, lJ2, lJ3, lJ4, lJ5, lJ6, lJ7, lJ8, lJ9, lJ10, lJ30, lJ32, lJ33, lJ39, lJ40, lJ41, lJ45, lJ47, lJ48, lJ51, lJ55, lJ57, lJ58, lJ59, lJ60, lJ64, lJ80, lJ82, lJ99, lJ100, lJ101, lJ123, lJ126, lJ282, lJ342, lJ1000, lJ1100, lJ2394, lJ2736, lJ9999, lJ10000, lJ1000000, lJ100000000, J_add, J_sub, J_mul, J_neg, J_le, J_lt, J_eq, J_in, J_clamp, Int.toNat_natCast, e]
  exact ⟨by omega, h μ' f k.1⟩
theorem c_freedom {S : GS} {μ : Mem} (hc : CI S μ) (g : GOK S) {a : Int} (ha : (-2147483648 ≤ a ∧ a ≤ 2147483647)) {P : Int32 → Mem → Prop} {X : String → Mem → Prop} (h : CRes J (op_freedom S a) μ P X) : w8_freedom_wp μ (J a) P X := by
  unfold op_freedom at h
  unfold w8_freedom_wp
  refine checkService_spec ha (fun c => ?_) (fun c => by rw [if_neg c] at h; exact h μ FrC.rf hc)
  rw [if_pos c] at h
  refine workOut_spec2 hc g (fun μ' f k => ?_)
  have e := k.2.1.2.2 a.toNat (by omega)
  have r := chc_rg g.w (s := a.toNat) (by omega)
  simp (disch := omega) only [lJ0, lJ1, lJ2, lJ3, lJ4, lJ5, lJ6, lJ7, lJ8, lJ9, lJ10, lJ30, lJ32, lJ33, lJ39, lJ40, lJ41, lJ45, lJ47, lJ48, lJ51, lJ55, lJ57, lJ58, lJ59, lJ60, lJ64, lJ80, lJ82, lJ99, lJ100, lJ101, lJ123, lJ126, lJ282, lJ342, lJ1000, lJ1100, lJ2394, lJ2736, lJ9999, lJ10000, lJ1000000, lJ100000000, J_add, J_sub, J_mul, J_neg, J_le, J_lt, J_eq, J_in, J_clamp, Int.toNat_natCast, e]
  exact ⟨by omega, fun c2 => by rw [if_neg c2] at h; exact h μ' f k.1, fun c2 => by rw [if_pos c2] at h; exact h μ' f k.1⟩
theorem c_pairs {S : GS} {μ : Mem} (hc : CI S μ) (g : GOK S) {v : Int} (hv : 0 ≤ v ∧ v ≤ 1) {P : Int32 → Mem → Prop} {X : String → Mem → Prop} (h : CRes J (op_pairs S v) μ P X) : w8_pairs_wp μ (J v) P := by
  unfold op_pairs at h
  unfold w8_pairs_wp
  refine workOut_spec2 hc g (fun μ' f k => ?_)
  have rn := g.1.n
  have h := h μ' f k.1
  dsimp only at h
  have cv : ∀ q : Int, (q = if v = 0 then 2 else 1) → w0_countVerdicts_wp μ' (J q) P := by
    intro q hq R hR
    rw [← hq] at h
    refine down (Q := fun i => R μ' (J q) (J (cnt (fun i => ver (S.1.1) (S.1.2.1) i = q) i)) (J i)) (S.1.1) (fun i hi ih => ?_)
    apply hR
    unfold w0_countVerdicts_b4_body
    have e0 : μ' 1 0 0 = J (S.1.1) := k.1.1.1.1.1
    have rq : q = 1 ∨ q = 2 := by rw [hq]; split <;> simp
    rcases Nat.lt_or_ge i (S.1.1) with c | c
    · have ih := ih c
      have rv := ver_rg (S.1.1) (S.1.2.1) i
      have e := k.2.1.1 i c
      simp (disch := omega) only [lJ0, lJ1, lJ2, lJ3, lJ4, lJ5, lJ6, lJ7, lJ8, lJ9, lJ10, lJ30, lJ32, lJ33, lJ39, lJ40, lJ41, lJ45, lJ47, lJ48, lJ51, lJ55, lJ57, lJ58, lJ59, lJ60, lJ64, lJ80, lJ82, lJ99, lJ100, lJ101, lJ123, lJ126, lJ282, lJ342, lJ1000, lJ1100, lJ2394, lJ2736, lJ9999, lJ10000, lJ1000000, lJ100000000, J_add, J_sub, J_mul, J_neg, J_le, J_lt, J_eq, J_in, J_clamp, Int.toNat_natCast, e0, e]
      refine ⟨fun _ => by omega, fun _ => ⟨by omega, fun c2 => ?_, fun c2 => ?_⟩⟩
      · simpa [cnt_succ, c2] using ih
      · simpa [cnt_succ, c2] using ih
    · have e9 : i = S.1.1 := by omega
      subst e9
      simp (disch := omega) only [lJ0, lJ1, lJ2, lJ3, lJ4, lJ5, lJ6, lJ7, lJ8, lJ9, lJ10, lJ30, lJ32, lJ33, lJ39, lJ40, lJ41, lJ45, lJ47, lJ48, lJ51, lJ55, lJ57, lJ58, lJ59, lJ60, lJ64, lJ80, lJ82, lJ99, lJ100, lJ101, lJ123, lJ126, lJ282, lJ342, lJ1000, lJ1100, lJ2394, lJ2736, lJ9999, lJ10000, lJ1000000, lJ100000000, J_add, J_sub, J_mul, J_neg, J_le, J_lt, J_eq, J_in, J_clamp, Int.toNat_natCast, e0]
      exact ⟨fun _ => h, fun c => absurd (Int.le_refl _) c⟩
  simp (disch := omega) only [lJ0, lJ1, lJ2, lJ3, lJ4, lJ5, lJ6, lJ7, lJ8, lJ9, lJ10, lJ30, lJ32, lJ33, lJ39, lJ40, lJ41, lJ45, lJ47, lJ48, lJ51, lJ55, lJ57, lJ58, lJ59, lJ60, lJ64, lJ80, lJ82, lJ99, lJ100, lJ101, lJ123, lJ126, lJ282, lJ342, lJ1000, lJ1100, lJ2394, lJ2736, lJ9999, lJ10000, lJ1000000, lJ100000000, J_add, J_sub, J_mul, J_neg, J_le, J_lt, J_eq, J_in, J_clamp, Int.toNat_natCast]
  exact ⟨fun c => cv 2 (by rw [if_pos c]), fun c => cv 1 (by rw [if_neg c])⟩
theorem c_isAccepted {S : GS} {μ : Mem} (hc : CI S μ) (g : GOK S) {z : Int} (hz : (-2147483648 ≤ z ∧ z ≤ 2147483647)) {P : Int32 → Mem → Prop} {X : String → Mem → Prop} (h : CRes J (op_isAccepted S z) μ P X) : w8_isAccepted_wp μ (J z) P X := by
  unfold op_isAccepted at h
  unfold w8_isAccepted_wp
  refine placeOf_spec hc.1.1 g hz (fun c => by rw [if_pos c] at h; exact h μ FrC.rf hc) (fun i hi ei ez => ?_)
  rw [if_neg (by omega), ei, Int.toNat_natCast] at h
  refine workOut_spec2 hc g (fun μ' f k => ?_)
  have rn := g.1.n
  have rv := ver_rg (S.1.1) (S.1.2.1) i
  have e := k.2.1.1 i hi
  simp (disch := omega) only [lJ0, lJ1, lJ2, lJ3, lJ4, lJ5, lJ6, lJ7, lJ8, lJ9, lJ10, lJ30, lJ32, lJ33, lJ39, lJ40, lJ41, lJ45, lJ47, lJ48, lJ51, lJ55, lJ57, lJ58, lJ59, lJ60, lJ64, lJ80, lJ82, lJ99, lJ100, lJ101, lJ123, lJ126, lJ282, lJ342, lJ1000, lJ1100, lJ2394, lJ2736, lJ9999, lJ10000, lJ1000000, lJ100000000, J_add, J_sub, J_mul, J_neg, J_le, J_lt, J_eq, J_in, J_clamp, Int.toNat_natCast, e]
  refine ⟨by omega, fun c => ⟨fun c2 => ?_, fun c2 => ?_⟩, fun c => by rw [if_pos c] at h; exact h μ' f k.1⟩
  · rw [if_neg c, if_neg c2] at h; exact h μ' f k.1
  · rw [if_neg c, if_pos c2] at h; exact h μ' f k.1
theorem c_isInside {S : GS} {μ : Mem} (hc : CI S μ) (g : GOK S) {z : Int} (hz : (-2147483648 ≤ z ∧ z ≤ 2147483647)) {P : Int32 → Mem → Prop} {X : String → Mem → Prop} (h : CRes J (op_isInside S z) μ P X) : w8_isInside_wp μ (J z) P X := by
  unfold op_isInside at h
  unfold w8_isInside_wp
  refine placeOf_spec hc.1.1 g hz (fun c => by rw [if_pos c] at h; exact h μ FrC.rf hc) (fun i hi ei ez => ?_)
  rw [if_neg (by omega), ei, Int.toNat_natCast] at h
  refine workOut_spec2 hc g (fun μ' f k => ?_)
  have rn := g.1.n
  have rp := pp_rg (S.1.1) (S.1.2.1) i
  have e := k.2.2.1 i hi
  simp (disch := omega) only [lJ0, lJ1, lJ2, lJ3, lJ4, lJ5, lJ6, lJ7, lJ8, lJ9, lJ10, lJ30, lJ32, lJ33, lJ39, lJ40, lJ41, lJ45, lJ47, lJ48, lJ51, lJ55, lJ57, lJ58, lJ59, lJ60, lJ64, lJ80, lJ82, lJ99, lJ100, lJ101, lJ123, lJ126, lJ282, lJ342, lJ1000, lJ1100, lJ2394, lJ2736, lJ9999, lJ10000, lJ1000000, lJ100000000, J_add, J_sub, J_mul, J_neg, J_le, J_lt, J_eq, J_in, J_clamp, Int.toNat_natCast, e.2.2]
  refine ⟨by omega, ?_⟩
  refine isWithin_spec (pp (S.1.1) (S.1.2.1) i) 40 rfl rfl (by omega) (by decide) (fun c => ⟨fun _ => ?_, fun c => absurd c (by decide)⟩) (fun c => ⟨fun c => absurd rfl c, fun _ => by rw [if_pos (by omega)] at h; exact h μ' f k.1⟩)
  rw [if_neg (by omega)] at h
  have e2 := k.2.2.1 (pp (S.1.1) (S.1.2.1) i).toNat (by omega)
  have b1 := be_rg g.w hi
  have b2 := be_rg g.w (i := (pp (S.1.1) (S.1.2.1) i).toNat) (by omega)
  simp (disch := omega) only [lJ0, lJ1, lJ2, lJ3, lJ4, lJ5, lJ6, lJ7, lJ8, lJ9, lJ10, lJ30, lJ32, lJ33, lJ39, lJ40, lJ41, lJ45, lJ47, lJ48, lJ51, lJ55, lJ57, lJ58, lJ59, lJ60, lJ64, lJ80, lJ82, lJ99, lJ100, lJ101, lJ123, lJ126, lJ282, lJ342, lJ1000, lJ1100, lJ2394, lJ2736, lJ9999, lJ10000, lJ1000000, lJ100000000, J_add, J_sub, J_mul, J_neg, J_le, J_lt, J_eq, J_in, J_clamp, Int.toNat_natCast, e.1, e.2.1, e2.1, e2.2.1]
  refine ⟨by omega, by omega, fun c2 => by rw [if_neg (by omega)] at h; exact h μ' f k.1, fun c2 => ⟨by omega, by omega, fun c3 => by rw [if_neg (by omega)] at h; exact h μ' f k.1, fun c3 => by rw [if_pos (by omega)] at h; exact h μ' f k.1⟩⟩
theorem c_corrected {S : GS} {μ : Mem} (hc : CI S μ) (g : GOK S) {z v : Int} (hz : (-2147483648 ≤ z ∧ z ≤ 2147483647)) (hv : 0 ≤ v ∧ v ≤ 1) {P : Int32 → Mem → Prop} {X : String → Mem → Prop} (h : CRes J (op_corrected S z v) μ P X) : w8_corrected_wp μ (J z) (J v) P X := by
  unfold op_corrected at h
  unfold w8_corrected_wp
  refine placeOf_spec hc.1.1 g hz (fun c => by rw [if_pos c] at h; exact h μ FrC.rf hc) (fun i hi ei ez => ?_)
  rw [if_neg (by omega), ei, Int.toNat_natCast] at h
  refine workOut_spec2 hc g (fun μ' f k => ?_)
  have rn := g.1.n
  have e := k.2.2.1 i hi
  simp (disch := omega) only [lJ0, lJ1, lJ2, lJ3, lJ4, lJ5, lJ6, lJ7, lJ8, lJ9, lJ10, lJ30, lJ32, lJ33, lJ39, lJ40, lJ41, lJ45, lJ47, lJ48, lJ51, lJ55, lJ57, lJ58, lJ59, lJ60, lJ64, lJ80, lJ82, lJ99, lJ100, lJ101, lJ123, lJ126, lJ282, lJ342, lJ1000, lJ1100, lJ2394, lJ2736, lJ9999, lJ10000, lJ1000000, lJ100000000, J_add, J_sub, J_mul, J_neg, J_le, J_lt, J_eq, J_in, J_clamp, Int.toNat_natCast, e.1, e.2.1]
  refine ⟨fun c => ⟨by omega, by rw [if_pos c] at h; exact h μ' f k.1⟩, fun c => ⟨by omega, by rw [if_neg c] at h; exact h μ' f k.1⟩⟩
theorem c_explain {S : GS} {μ : Mem} (hc : CI S μ) (g : GOK S) {z : Int} (hz : (-2147483648 ≤ z ∧ z ≤ 2147483647)) {P : Int32 → Mem → Prop} {X : String → Mem → Prop} (h : CRes J (op_explain S z) μ P X) : w8_explain_wp μ (J z) P X := by
  unfold op_explain at h
  unfold w8_explain_wp
  refine placeOf_spec hc.1.1 g hz (fun c => by rw [if_pos c] at h; exact h μ FrC.rf hc) (fun i hi ei ez => ?_)
  rw [if_neg (by omega), ei, Int.toNat_natCast] at h
  refine workOut_spec2 hc g (fun μ' f k => ?_)
  have rn := g.1.n
  have e := k.2.2.2.1 i hi
  simp (disch := omega) only [lJ0, lJ1, lJ2, lJ3, lJ4, lJ5, lJ6, lJ7, lJ8, lJ9, lJ10, lJ30, lJ32, lJ33, lJ39, lJ40, lJ41, lJ45, lJ47, lJ48, lJ51, lJ55, lJ57, lJ58, lJ59, lJ60, lJ64, lJ80, lJ82, lJ99, lJ100, lJ101, lJ123, lJ126, lJ282, lJ342, lJ1000, lJ1100, lJ2394, lJ2736, lJ9999, lJ10000, lJ1000000, lJ100000000, J_add, J_sub, J_mul, J_neg, J_le, J_lt, J_eq, J_in, J_clamp, Int.toNat_natCast, e.1]
  exact ⟨by omega, h μ' f k.1⟩
theorem c_cutCount {S : GS} {μ : Mem} (hc : CI S μ) (g : GOK S) {P : Int32 → Mem → Prop} {X : String → Mem → Prop} (h : CRes J (op_cutCount S) μ P X) : w8_cutCount_wp μ P := by
  unfold op_cutCount at h
  unfold w8_cutCount_wp
  refine workOut_spec2 hc g (fun μ' f k => ?_)
  have rn := g.1.n
  have h := h μ' f k.1
  dsimp only at h
  intro R hR
  refine down (Q := fun i => R μ' (J 3) (J (cnt (fun i => kd (S.1.1) (S.1.2.1) i = 3) i)) (J i)) (S.1.1) (fun i hi ih => ?_)
  apply hR
  unfold w2_countKind_b4_body
  have e0 : μ' 1 0 0 = J (S.1.1) := k.1.1.1.1.1
  rcases Nat.lt_or_ge i (S.1.1) with c | c
  · have ih := ih c
    have rv := kd_rg (S.1.1) (S.1.2.1) i
    have e := k.2.2.2.1 i c
    simp (disch := omega) only [lJ0, lJ1, lJ2, lJ3, lJ4, lJ5, lJ6, lJ7, lJ8, lJ9, lJ10, lJ30, lJ32, lJ33, lJ39, lJ40, lJ41, lJ45, lJ47, lJ48, lJ51, lJ55, lJ57, lJ58, lJ59, lJ60, lJ64, lJ80, lJ82, lJ99, lJ100, lJ101, lJ123, lJ126, lJ282, lJ342, lJ1000, lJ1100, lJ2394, lJ2736, lJ9999, lJ10000, lJ1000000, lJ100000000, J_add, J_sub, J_mul, J_neg, J_le, J_lt, J_eq, J_in, J_clamp, Int.toNat_natCast, e0, e.1]
    refine ⟨fun _ => by omega, fun _ => ⟨by omega, fun c2 => ?_, fun c2 => ?_⟩⟩
    · simpa [cnt_succ, c2] using ih
    · simpa [cnt_succ, c2] using ih
  · have e9 : i = S.1.1 := by omega
    subst e9
    simp (disch := omega) only [lJ0, lJ1, lJ2, lJ3, lJ4, lJ5, lJ6, lJ7, lJ8, lJ9, lJ10, lJ30, lJ32, lJ33, lJ39, lJ40, lJ41, lJ45, lJ47, lJ48, lJ51, lJ55, lJ57, lJ58, lJ59, lJ60, lJ64, lJ80, lJ82, lJ99, lJ100, lJ101, lJ123, lJ126, lJ282, lJ342, lJ1000, lJ1100, lJ2394, lJ2736, lJ9999, lJ10000, lJ1000000, lJ100000000, J_add, J_sub, J_mul, J_neg, J_le, J_lt, J_eq, J_in, J_clamp, Int.toNat_natCast, e0]
    exact ⟨fun _ => h, fun c => absurd (Int.le_refl _) c⟩
-- the reference
theorem m_begin_spec {S : GS} {μ : Mem} (k : MQ9 S μ) (g : GOK S) {i : Nat} (hi : i < S.1.1) {x : Int32} (ex : x = J i) {P : Int32 → Mem → Prop} (h : P (J (bgn (S.1.1) (S.1.2.1) i)) μ) : w9_begin_wp μ x P := by
  subst ex
  have rn := g.1.n
  have ri := g.w.r i hi
  unfold w9_begin_wp
  refine of_spec k.1.1.1 rn i 4 rfl rfl hi (by omega) ?_
  refine of_spec k.1.1.1 rn i 3 rfl rfl hi (by omega) ?_
  have e := k.2.1.2.1 (S.1.2.1 i 3).toNat (by omega)
  simp (disch := omega) only [lJ0, lJ1, lJ2, lJ3, lJ4, lJ5, lJ6, lJ7, lJ8, lJ9, lJ10, lJ30, lJ32, lJ33, lJ39, lJ40, lJ41, lJ45, lJ47, lJ48, lJ51, lJ55, lJ57, lJ58, lJ59, lJ60, lJ64, lJ80, lJ82, lJ99, lJ100, lJ101, lJ123, lJ126, lJ282, lJ342, lJ1000, lJ1100, lJ2394, lJ2736, lJ9999, lJ10000, lJ1000000, lJ100000000, J_add, J_sub, J_mul, J_neg, J_le, J_lt, J_eq, J_in, J_clamp, Int.toNat_natCast, e]
  exact ⟨by omega, h⟩
theorem m_end_spec {S : GS} {μ : Mem} (k : MQ9 S μ) (g : GOK S) {i : Nat} (hi : i < S.1.1) {x : Int32} (ex : x = J i) {P : Int32 → Mem → Prop} (h : P (J (enn (S.1.1) (S.1.2.1) i)) μ) : w9_end_wp μ x P := by
  subst ex
  have rn := g.1.n
  have ri := g.w.r i hi
  unfold w9_end_wp
  refine of_spec k.1.1.1 rn i 5 rfl rfl hi (by omega) ?_
  refine of_spec k.1.1.1 rn i 3 rfl rfl hi (by omega) ?_
  have e := k.2.1.2.1 (S.1.2.1 i 3).toNat (by omega)
  simp (disch := omega) only [lJ0, lJ1, lJ2, lJ3, lJ4, lJ5, lJ6, lJ7, lJ8, lJ9, lJ10, lJ30, lJ32, lJ33, lJ39, lJ40, lJ41, lJ45, lJ47, lJ48, lJ51, lJ55, lJ57, lJ58, lJ59, lJ60, lJ64, lJ80, lJ82, lJ99, lJ100, lJ101, lJ123, lJ126, lJ282, lJ342, lJ1000, lJ1100, lJ2394, lJ2736, lJ9999, lJ10000, lJ1000000, lJ100000000, J_add, J_sub, J_mul, J_neg, J_le, J_lt, J_eq, J_in, J_clamp, Int.toNat_natCast, e]
  exact ⟨by omega, h⟩
