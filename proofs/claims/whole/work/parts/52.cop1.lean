-- the class does the calls that tell
theorem CB.st {S : GS} {μ μ' : Mem} {s : St} (h : CB S μ) (f : FrS 0 μ μ') (hs : SS μ' 0 s) : CB (setT S s) μ' := by
  obtain ⟨-, h2, h3, h4, h5, h6⟩ := h
  refine ⟨hs, ?_, ?_, fun k p hk hp => ?_, ⟨(f _ _ _ (by omega)).trans h5.1, fun q hq => (f _ _ _ (by omega)).trans (h5.2 q hq)⟩, (f _ _ _ (by omega)).trans h6⟩
  · obtain ⟨nx, a1, a2, a3, a4, a5⟩ := h2
    exact ⟨nx, a1, a2, (f _ _ _ (by omega)).trans a3, (f _ _ _ (by omega)).trans a4, fun j hj => (a5 j hj).fr f (by omega)⟩
  · obtain ⟨t, hh, v, r⟩ := S
    cases v with
    | none => exact (f _ _ _ (by omega)).trans h3
    | some s => exact ⟨(f _ _ _ (by omega)).trans h3.1, h3.2.fr f (by omega)⟩
  · have := h4 k p hk hp
    exact ⟨(f _ _ _ (by omega)).trans this.1, fun z => (f _ _ _ (by omega)).trans (this.2 z)⟩
theorem FrS.frC {k : Nat} {μ μ' : Mem} (h : FrS k μ μ') : FrC μ μ' := fun j hj => by
  funext k' i'
  exact h j k' i' (by omega)
theorem FrN.frC {μ μ' : Mem} (h : FrN μ μ') : FrC μ μ' := fun j hj => by
  funext k' i'
  exact h j k' i' (by omega) (by omega)
theorem startChange_spec {S : GS} {μ : Mem} (hc : CB S μ) (g : GOK S) {P : Mem → Prop} (h : ∀ μ', FrC μ μ' → CB (push S) μ' → μ' 2573 0 0 = J 0 → P μ') : w8_startChange_wp μ P := by
  obtain ⟨h1, h2, h3, h4, h5, h6⟩ := hc
  unfold w8_startChange_wp
  refine remember_spec h2 h1 g.1 (fun μ1 f hv => ?_)
  rintro μ2 rfl
  have b : Bt [2573] μ1 (up μ1 2573 0 0 0) := Bt.up (by decide)
  refine h _ (f.frC.tr (b.frC (by decide))) ?_ up_self
  have k1 : CB (push S) μ1 := by
    refine ⟨h1.frN f (by omega), hv, ?_, fun k p hk hp => ?_, ⟨(f _ _ _ (by omega) (by omega)).trans h5.1, fun q hq => (f _ _ _ (by omega) (by omega)).trans (h5.2 q hq)⟩, (f _ _ _ (by omega) (by omega)).trans h6⟩
    · obtain ⟨t, hh, v, r⟩ := S
      cases v with
      | none => exact (f _ _ _ (by omega) (by omega)).trans h3
      | some s => exact ⟨(f _ _ _ (by omega) (by omega)).trans h3.1, h3.2.frN f (by omega)⟩
    · have := h4 k p hk hp
      exact ⟨(f _ _ _ (by omega) (by omega)).trans this.1, fun z => (f _ _ _ (by omega) (by omega)).trans (this.2 z)⟩
  exact k1.bt b (by decide)
theorem placeOf_spec {S : GS} {μ : Mem} (hs : SS μ 0 (S.1)) (g : GOK S) {z : Int} (hz : (-2147483648 ≤ z ∧ z ≤ 2147483647)) {P : Int32 → Mem → Prop} {X : String → Mem → Prop} (h0 : (fnd S.1.1 S.1.2.1 z) = -1 → X xIO μ) (h1 : ∀ i : Nat, i < S.1.1 → (fnd S.1.1 S.1.2.1 z) = i → S.1.2.1 i 0 = z → P (J i) μ) : w8_placeOf_wp μ (J z) P X := by
  unfold w8_placeOf_wp
  refine find_spec' hs.1 g.w hz ?_
  have r := fnd_rg (S.1.1) (S.1.2.1) z
  have rn := g.1.n
  refine isWithin_spec ((fnd S.1.1 S.1.2.1 z)) 40 rfl rfl (by omega) (by decide) (fun c => ⟨fun _ => ?_, fun c => absurd c (by decide)⟩) (fun c => ⟨fun c => absurd rfl c, fun _ => h0 (by omega)⟩)
  have y := fnd_some (n := S.1.1) (w := S.1.2.1) (z := z) (by omega)
  have e : (fnd S.1.1 S.1.2.1 z) = (((fnd S.1.1 S.1.2.1 z)).toNat : Nat) := by omega
  rw [e]
  exact h1 _ (by omega) e y.2.2
theorem isParentId_spec {μ : Mem} {z : Int} (hz : (-2147483648 ≤ z ∧ z ≤ 2147483647)) {P : Int32 → Mem → Prop} (h1 : -1 ≤ z ∧ z < 100 → P 1 μ) (h0 : ¬ (-1 ≤ z ∧ z < 100) → P 0 μ) : w8_isParentId_wp μ (J z) P := by
  unfold w8_isParentId_wp
  simp (disch := omega) only [lJ0, lJ1, lJ2, lJ3, lJ4, lJ5, lJ6, lJ7, lJ8, lJ9, lJ10, lJ30, lJ32, lJ33, lJ39, lJ40, lJ41, lJ45, lJ47, lJ48, lJ51, lJ55, lJ57, lJ58, lJ59, lJ60, lJ64, lJ80, lJ82, lJ99, lJ100, lJ101, lJ123, lJ126, lJ282, lJ342, lJ1000, lJ1100, lJ2394, lJ2736, lJ9999, lJ10000, lJ1000000, lJ100000000, J_add, J_sub, J_mul, J_neg, J_le, J_lt, J_eq, J_in, J_clamp, Int.toNat_natCast]
  refine ⟨fun c => h1 (by omega), fun c => ?_⟩
  refine isWithin_spec z 100 rfl rfl hz (by decide) (fun c2 => ⟨fun c => absurd c (by decide), fun _ => h1 (by omega)⟩) (fun c2 => ⟨fun _ => h0 (by omega), fun c => absurd rfl c⟩)
theorem areTimes_spec {μ : Mem} {b e : Int} (hb : (-2147483648 ≤ b ∧ b ≤ 2147483647)) (he : (-2147483648 ≤ e ∧ e ≤ 2147483647)) {P : Int32 → Mem → Prop} (h1 : TOq b e → P 1 μ) (h0 : ¬ TOq b e → P 0 μ) : w8_areTimes_wp μ (J b) (J e) P := by
  unfold w8_areTimes_wp
  refine isWithin_spec b 10000 rfl rfl hb (by decide) (fun c => ⟨fun c => absurd c (by decide), fun _ => ?_⟩) (fun c => ⟨fun _ => h0 (by omega), fun c => absurd rfl c⟩)
  refine isWithin_spec e 10000 rfl rfl he (by decide) (fun c => ⟨fun c => absurd c (by decide), fun _ => ?_⟩) (fun c => ⟨fun _ => h0 (by omega), fun c => absurd rfl c⟩)
  rw [J_lt he hb]
  exact ⟨fun c => h0 (by omega), fun c => h1 (by omega)⟩
theorem CI.mk0 {S : GS} {μ : Mem} (h : CB S μ) (e : μ 2573 0 0 = J 0) : CI S μ := ⟨h, Or.inl e⟩
theorem c_clear {S : GS} {μ : Mem} (hc : CI S μ) (g : GOK S) {P : Int32 → Mem → Prop} {X : String → Mem → Prop} (h : CRes J (op_clear S) μ P X) : w8_clear_wp μ P := by
  obtain ⟨⟨h1, h2, h3, h4, h5, h6⟩, -⟩ := hc
  unfold w8_clear_wp w7_empty_wp w3_forget_wp
  rintro μ1 rfl μ2 rfl μ3 rfl μ4 rfl
  have e0 : μ 1 0 0 = J (S.1.1) := h1.1.1
  rw [e0]
  have f : FrS 0 μ (up (up μ 1 0 0 0) 2 0 0 0) := (FrS.up (by omega)).tr (FrS.up (by omega))
  have c1 : CB (setT S (0, S.1.2.1, [])) (up (up μ 1 0 0 0) 2 0 0 0) := CB.st ⟨h1, h2, h3, h4, h5, h6⟩ f ⟨⟨by simp [up_at]; rfl, fun i hi => absurd hi (Nat.not_lt_zero _)⟩, ⟨by simp [up_at]; rfl, fun q hq => absurd hq (Nat.not_lt_zero _)⟩⟩
  generalize up (up μ 1 0 0 0) 2 0 0 0 = μ2 at f c1 ⊢
  obtain ⟨d1, d2, d3, d4, d5, d6⟩ := c1
  have b1 : Bt [641] μ2 (up μ2 641 0 0 0) := Bt.up (by decide)
  have b2 : Bt [2573] (up μ2 641 0 0 0) (up (up μ2 641 0 0 0) 2573 0 0 0) := Bt.up (by decide)
  refine h _ ((f.frC.tr (b1.frC (by decide))).tr (b2.frC (by decide))) (CI.mk0 (CB.bt ?_ b2 (by decide)) up_self)
  obtain ⟨nx, a1, a2, a3, a4, a5⟩ := d2
  have q : ∀ j, j ≠ 641 → up μ2 641 0 0 0 j = μ2 j := fun j hj => b1 j (by simpa using hj)
  refine ⟨d1.ev (fun j hj => q j (by omega)), ⟨nx, a1, Nat.zero_le _, up_self, by rw [q _ (by omega)]; exact a4, fun j hj => absurd hj (Nat.not_lt_zero _)⟩, d3.ev (q _ (by omega)) (fun j hj => q j (by omega)), d4.ev (q _ (by omega)), d5.ev (q _ (by omega)) (q _ (by omega)), by rw [q _ (by omega)]; exact d6⟩
theorem c_add {S : GS} {μ : Mem} (hc : CI S μ) (g : GOK S) {t id pa sv b e : Int} (ht : (-2147483648 ≤ t ∧ t ≤ 2147483647)) (hid : (-2147483648 ≤ id ∧ id ≤ 2147483647)) (hpa : (-2147483648 ≤ pa ∧ pa ≤ 2147483647)) (hsv : (-2147483648 ≤ sv ∧ sv ≤ 2147483647)) (hb : (-2147483648 ≤ b ∧ b ≤ 2147483647)) (he : (-2147483648 ≤ e ∧ e ≤ 2147483647)) {P : Int32 → Mem → Prop} {X : String → Mem → Prop} (h : CRes J (op_add S t id pa sv b e) μ P X) : w8_add_wp μ (J t) (J id) (J pa) (J sv) (J b) (J e) P X := by
  have xa : ¬ (0 ≤ t ∧ t < 4 ∧ 0 ≤ id ∧ id < 100 ∧ -1 ≤ pa ∧ pa < 100 ∧ 0 ≤ sv ∧ sv < 8 ∧ TOq b e) → X xIA μ := fun c => by
    unfold op_add at h
    rw [if_neg c] at h
    exact h μ FrC.rf hc
  have xs : (0 ≤ t ∧ t < 4 ∧ 0 ≤ id ∧ id < 100 ∧ -1 ≤ pa ∧ pa < 100 ∧ 0 ≤ sv ∧ sv < 8 ∧ TOq b e) → (S.1.1 = 40 ∨ (fnd S.1.1 S.1.2.1 id) ≠ -1) → X xIS μ := fun c c2 => by
    unfold op_add at h
    rw [if_pos c, if_pos c2] at h
    exact h μ FrC.rf hc
  have rn := g.1.n
  unfold w8_add_wp
  refine isWithin_spec t 4 rfl rfl ht (by decide) (fun c1 => ⟨fun c => absurd c (by decide), fun _ => ?_⟩) (fun c => ⟨fun _ => xa (by omega), fun c => absurd rfl c⟩)
  refine isWithin_spec id 100 rfl rfl hid (by decide) (fun c2 => ⟨fun c => absurd c (by decide), fun _ => ?_⟩) (fun c => ⟨fun _ => xa (by omega), fun c => absurd rfl c⟩)
  refine isWithin_spec sv 8 rfl rfl hsv (by decide) (fun c3 => ⟨fun _ => ?_, fun c => absurd c (by decide)⟩) (fun c => ⟨fun c => absurd rfl c, fun _ => xa (by omega)⟩)
  refine isParentId_spec hpa (fun c4 => ⟨fun c => absurd c (by decide), fun _ => ?_⟩) (fun c => ⟨fun _ => xa (by omega), fun c => absurd rfl c⟩)
  refine areTimes_spec hb he (fun c5 => ⟨fun _ => ?_, fun c => absurd c (by decide)⟩) (fun c => ⟨fun c => absurd rfl c, fun _ => xa (by omega)⟩)
  have cc : 0 ≤ t ∧ t < 4 ∧ 0 ≤ id ∧ id < 100 ∧ -1 ≤ pa ∧ pa < 100 ∧ 0 ≤ sv ∧ sv < 8 ∧ TOq b e := by omega
  have e0 : μ 1 0 0 = J (S.1.1) := hc.1.1.1.1
  simp (disch := omega) only [lJ0, lJ1, lJ2, lJ3, lJ4, lJ5, lJ6, lJ7, lJ8, lJ9, lJ10, lJ30, lJ32, lJ33, lJ39, lJ40, lJ41, lJ45, lJ47, lJ48, lJ51, lJ55, lJ57, lJ58, lJ59, lJ60, lJ64, lJ80, lJ82, lJ99, lJ100, lJ101, lJ123, lJ126, lJ282, lJ342, lJ1000, lJ1100, lJ2394, lJ2736, lJ9999, lJ10000, lJ1000000, lJ100000000, J_add, J_sub, J_mul, J_neg, J_le, J_lt, J_eq, J_in, J_clamp, Int.toNat_natCast, e0]
  refine ⟨fun c => xs cc (Or.inl (by omega)), fun c => ?_⟩
  refine find_spec' hc.1.1.1 g.w hid ?_
  have rf := fnd_rg (S.1.1) (S.1.2.1) id
  simp (disch := omega) only [lJ0, lJ1, lJ2, lJ3, lJ4, lJ5, lJ6, lJ7, lJ8, lJ9, lJ10, lJ30, lJ32, lJ33, lJ39, lJ40, lJ41, lJ45, lJ47, lJ48, lJ51, lJ55, lJ57, lJ58, lJ59, lJ60, lJ64, lJ80, lJ82, lJ99, lJ100, lJ101, lJ123, lJ126, lJ282, lJ342, lJ1000, lJ1100, lJ2394, lJ2736, lJ9999, lJ10000, lJ1000000, lJ100000000, J_add, J_sub, J_mul, J_neg, J_le, J_lt, J_eq, J_in, J_clamp, Int.toNat_natCast]
  refine ⟨fun c2 => ?_, fun c2 => xs cc (Or.inr c2)⟩
  refine startChange_spec hc.1 g (fun μ1 f1 cb e1 => ?_)
  obtain ⟨s1, s2⟩ := cb.1
  have s1 : SV μ1 0 (S.1.1) (S.1.2.1) := s1
  refine keep_spec (n := S.1.1) s1.1 (by omega) ?_
  have hlt : S.1.1 < 40 := by omega
  have k1 : SV (kp μ1 0 (S.1.1) (J t) (J id) (J pa) (J sv) (J b) (J e) (J 0)) 0 (S.1.1 + 1) (wset (S.1.2.1) (S.1.1) (rw7 t id pa sv b e 0)) := kp_SV (er := 0) s1 (by omega)
  have k2 := kp_LV (n := S.1.1) (t := J t) (id := J id) (pa := J pa) (sv := J sv) (b := J b) (e := J e) (er := J 0) s2
  have kf : FrS 0 μ1 (kp μ1 0 (S.1.1) (J t) (J id) (J pa) (J sv) (J b) (J e) (J 0)) := kp_fr
  unfold op_add at h
  rw [if_pos cc, if_neg (by omega)] at h
  rw [show kp μ1 0 (S.1.1) (J t) (J id) (J pa) (J sv) (J b) (J e) (J 0) 1 0 0 = J ((S.1.1 : Int) + 1) from k1.1]
  refine h _ (f1.tr kf.frC) (CI.mk0 (cb.st kf ⟨k1, k2⟩) ?_)
  rw [kf _ _ _ (by omega)]
  exact e1
