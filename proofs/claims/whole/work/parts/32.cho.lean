-- needs: 20 21 22 23 24 25 30 31
-- the offsets
theorem xor_sgn {a : Int} (ha : (-2147483648 ≤ a ∧ a ≤ 2147483647)) : 0 ≤ (J a ^^^ J 2) ↔ 0 ≤ a := by
  rw [lJ0, Int32.le_iff_toInt_le]
  have h0 : (J 0).toInt = 0 := by decide
  have h1 : (J a ^^^ J 2).toInt = ((J a).toBitVec ^^^ (J 2).toBitVec).toInt := rfl
  have h2 : (J a).toBitVec.toInt = a := J_toInt ha.1 ha.2
  rw [h0, h1]
  have m : ((J a).toBitVec ^^^ (J 2).toBitVec).msb = (J a).toBitVec.msb := by
    rw [BitVec.msb_xor]
    have : (J 2).toBitVec.msb = false := by decide
    rw [this, Bool.xor_false]
  rw [BitVec.msb_eq_toInt, BitVec.msb_eq_toInt, h2] at m
  by_cases c : a < 0
  · simp only [c, decide_true, decide_eq_true_eq] at m
    omega
  · simp only [c, decide_false, decide_eq_false_iff_not] at m
    omega
theorem tdiv2 (a : Int) : a.tdiv 2 = if 0 ≤ a ∨ a % 2 = 0 then a / 2 else a / 2 + 1 := by
  rw [Int.tdiv_eq_ediv]
  have e : (2 : Int) ∣ a ↔ a % 2 = 0 := by omega
  simp only [e]
  split
  · simp
  · rfl
theorem floorDiv_spec {μ : Mem} {x y : Int32} (a : Int) (ex : x = J a) (ey : y = J 2) (ha : (-2147483648 ≤ a ∧ a ≤ 2147483647)) {P : Int32 → Mem → Prop} (h : P (J (a / 2)) μ) : J9_floorDiv_7cf53_wp μ x y P := by
  subst ex ey
  unfold J9_floorDiv_7cf53_wp
  have e : J a / J 2 = J (a.tdiv 2) := by
    apply Int32.toInt_inj.mp
    have h1 : (J a).toInt = a := J_toInt ha.1 ha.2
    have h2 : (J 2).toInt = 2 := by decide
    have h3 : -2147483648 ≤ a.tdiv 2 ∧ a.tdiv 2 ≤ 2147483647 := by
      rw [tdiv2]
      split <;> omega
    rw [J_toInt h3.1 h3.2, Int32.toInt_div_of_ne_right, h1, h2]
    decide
  have g := tdiv2 a
  rw [e, xor_sgn ha]
  refine ⟨by decide, fun c => ?_, fun c => ⟨fun c2 => ?_, fun c2 => ?_⟩⟩
  · rw [g, if_pos (by omega)]; exact h
  · by_cases y : a % 2 = 0
    · rw [g, if_pos (by omega)]; exact h
    · rw [g, if_neg (by omega)] at c2
      rw [J_mul, J_eq (by omega) ha] at c2
      omega
  · by_cases y : a % 2 = 0
    · exfalso
      apply c2
      rw [g, if_pos (by omega), J_mul]
      congr 1
      omega
    · rw [g, if_neg (by omega), lJ1, J_sub, show a / 2 + 1 - 1 = a / 2 by omega]
      exact h
/-- the least and the greatest that an offset can be by the services before k -/
def lwF (E : Mx) (o : Nat → Int) (s : Nat) : Nat → Int := it (fun c z => if E s c = 1000000 ∨ E c s = 1000000 then z else if z < o c - E c s then o c - E c s else z) (-1000000)
def hgF (E : Mx) (o : Nat → Int) (s : Nat) : Nat → Int := it (fun c z => if E s c = 1000000 ∨ E c s = 1000000 then z else if o c + E s c < z then o c + E s c else z) 1000000
def ofF (E : Mx) : Nat → Nat → Int := it (fun s o j => if j = s then (if hgF E o s s = 1000000 then 0 else (lwF E o s s + hgF E o s s) / 2) else o j) (fun _ => 0)
/-- offsets that keep all bounds -/
def Oi (E : Mx) (o : Nat → Int) (s : Nat) : Prop := (∀ c : Nat, c < s → -(69993 * c) ≤ o c ∧ o c ≤ 69993 * c) ∧ ∀ c d, c < s → d < s → E c d ≠ 1000000 → o c - o d ≤ E c d
theorem sym {E : Mx} (k : Ck E) {a b : Nat} (ha : a < 8) (hb : b < 8) (h : E a b ≠ 1000000) : E b a ≠ 1000000 := by
  obtain ⟨_, c, hc⟩ := k
  exact (hc b a hb ha).1.mpr ((hc a b ha hb).1.mp h).symm
theorem lh {E : Mx} {o : Nat → Int} {s : Nat} (k : Ck E) (hs : s < 8) (inv : Oi E o s) : ∀ m, m ≤ s → ((∀ c, c < m → E s c = 1000000) ∧ lwF E o s m = -1000000 ∧ hgF E o s m = 1000000) ∨ ((∃ c, c < m ∧ E s c ≠ 1000000 ∧ lwF E o s m = o c - E c s) ∧ (∃ c, c < m ∧ E s c ≠ 1000000 ∧ hgF E o s m = o c + E s c) ∧ ∀ c, c < m → E s c ≠ 1000000 → o c - E c s ≤ lwF E o s m ∧ hgF E o s m ≤ o c + E s c) := by
  intro m
  induction m with
  | zero => intro _; exact Or.inl ⟨fun c hc => absurd hc (by omega), rfl, rfl⟩
  | succ m ih =>
    intro hm
    have l1 : lwF E o s (m + 1) = if E s m = 1000000 ∨ E m s = 1000000 then lwF E o s m else if lwF E o s m < o m - E m s then o m - E m s else lwF E o s m := rfl
    have h1 : hgF E o s (m + 1) = if E s m = 1000000 ∨ E m s = 1000000 then hgF E o s m else if o m + E s m < hgF E o s m then o m + E s m else hgF E o s m := rfl
    have om := inv.1 m (by omega)
    have t1 := k.1.2.2 s m hs (by omega)
    have t2 := k.1.2.2 m s (by omega) hs
    by_cases y : E s m = 1000000
    · rw [l1, h1, if_pos (Or.inl y), if_pos (Or.inl y)]
      rcases ih (by omega) with ⟨a1, a2, a3⟩ | ⟨⟨c1, b1, b2, b3⟩, ⟨c2, b4, b5, b6⟩, b7⟩
      · refine Or.inl ⟨fun c hc => ?_, a2, a3⟩
        rcases Nat.lt_or_ge c m with z | z
        · exact a1 c z
        · rw [show c = m by omega]; exact y
      · refine Or.inr ⟨⟨c1, by omega, b2, b3⟩, ⟨c2, by omega, b5, b6⟩, fun c hc kk => ?_⟩
        rcases Nat.lt_or_ge c m with z | z
        · exact b7 c z kk
        · rw [show c = m by omega] at kk; exact absurd y kk
    · have y2 := sym k hs (show m < 8 by omega) y
      rw [if_neg (by omega)] at l1 h1
      refine Or.inr ?_
      rcases ih (by omega) with ⟨a1, a2, a3⟩ | ⟨⟨c1, b1, b2, b3⟩, ⟨c2, b4, b5, b6⟩, b7⟩
      · rw [a2, if_pos (by omega)] at l1
        rw [a3, if_pos (by omega)] at h1
        refine ⟨⟨m, by omega, y, l1⟩, ⟨m, by omega, y, h1⟩, fun c hc kk => ?_⟩
        rcases Nat.lt_or_ge c m with z | z
        · exact absurd (a1 c z) kk
        · rw [show c = m by omega]; omega
      · refine ⟨?_, ?_, fun c hc kk => ?_⟩
        · by_cases u : lwF E o s m < o m - E m s
          · rw [if_pos u] at l1
            exact ⟨m, by omega, y, l1⟩
          · rw [if_neg u] at l1
            exact ⟨c1, by omega, b2, by omega⟩
        · by_cases u : o m + E s m < hgF E o s m
          · rw [if_pos u] at h1
            exact ⟨m, by omega, y, h1⟩
          · rw [if_neg u] at h1
            exact ⟨c2, by omega, b5, by omega⟩
        · rw [l1, h1]
          rcases Nat.lt_or_ge c m with z | z
          · have := b7 c z kk
            split <;> split <;> omega
          · rw [show c = m by omega]
            split <;> split <;> omega
/-- the same put together -/
theorem lh2 {E : Mx} {o : Nat → Int} {s : Nat} (k : Ck E) (hs : s < 8) (inv : Oi E o s) : (∀ m, m ≤ s → -1000000 ≤ lwF E o s m ∧ lwF E o s m ≤ 900000 ∧ -900000 ≤ hgF E o s m ∧ hgF E o s m ≤ 1000000) ∧ (((∀ c, c < s → E s c = 1000000) ∧ lwF E o s s = -1000000 ∧ hgF E o s s = 1000000) ∨ (-(69993 * s) ≤ lwF E o s s ∧ lwF E o s s ≤ hgF E o s s ∧ hgF E o s s ≤ 69993 * s ∧ ∀ c, c < s → E s c ≠ 1000000 → o c - E c s ≤ lwF E o s s ∧ hgF E o s s ≤ o c + E s c)) := by
  refine ⟨fun m hm => ?_, ?_⟩
  · rcases lh k hs inv m hm with ⟨a1, a2, a3⟩ | ⟨⟨c1, b1, b2, b3⟩, ⟨c2, b4, b5, b6⟩, b7⟩
    · omega
    · have y2 := sym k hs (show c1 < 8 by omega) b2
      have := k.1.2.2 c1 s (by omega) hs
      have := k.1.2.2 s c2 hs (by omega)
      have := inv.1 c1 (by omega)
      have := inv.1 c2 (by omega)
      omega
  · rcases lh k hs inv s (by omega) with ⟨a1, a2, a3⟩ | ⟨⟨c1, b1, b2, b3⟩, ⟨c2, b4, b5, b6⟩, b7⟩
    · exact Or.inl ⟨a1, a2, a3⟩
    · have y2 := sym k hs (show c1 < 8 by omega) b2
      have y3 := sym k hs (show c2 < 8 by omega) b5
      have q1 := k.1.2.2 c1 s (by omega) hs
      have q2 := k.1.2.2 s c2 hs (by omega)
      have q3 := inv.1 c1 (by omega)
      have q4 := inv.1 c2 (by omega)
      have t := k.1.2.1 c1 s c2 (by omega) hs (by omega) y2 b5
      have f := inv.2 c1 c2 b1 b4 t.2
      exact Or.inr ⟨by omega, by omega, by omega, b7⟩
theorem ofF_ne {E : Mx} {s j : Nat} (h : j < s) : ∀ d, ofF E (s + d) j = ofF E s j := by
  intro d
  induction d with
  | zero => rfl
  | succ d ih =>
    show (if j = s + d then _ else ofF E (s + d) j) = _
    rw [if_neg (by omega), ih]
theorem lwF_cg {E : Mx} {o o' : Nat → Int} {s : Nat} : ∀ m, (∀ c, c < m → o c = o' c) → lwF E o s m = lwF E o' s m ∧ hgF E o s m = hgF E o' s m := by
  intro m
  induction m with
  | zero => intro _; exact ⟨rfl, rfl⟩
  | succ m ih =>
    intro h
    obtain ⟨i1, i2⟩ := ih (fun c hc => h c (by omega))
    have l1 : ∀ o, lwF E o s (m + 1) = if E s m = 1000000 ∨ E m s = 1000000 then lwF E o s m else if lwF E o s m < o m - E m s then o m - E m s else lwF E o s m := fun _ => rfl
    have h1 : ∀ o, hgF E o s (m + 1) = if E s m = 1000000 ∨ E m s = 1000000 then hgF E o s m else if o m + E s m < hgF E o s m then o m + E s m else hgF E o s m := fun _ => rfl
    rw [l1, l1, h1, h1, i1, i2, h m (by omega)]
    exact ⟨rfl, rfl⟩
theorem ofF_Oi {E : Mx} (k : Ck E) : ∀ s, s ≤ 8 → Oi E (ofF E s) s := by
  intro s
  induction s with
  | zero => intro _; exact ⟨fun c hc => absurd hc (by omega), fun c d hc => absurd hc (by omega)⟩
  | succ s ih =>
    intro hs
    have inv := ih (by omega)
    have z := (lh2 k (by omega) inv).2
    have nv : ofF E (s + 1) s = if hgF E (ofF E s) s s = 1000000 then 0 else (lwF E (ofF E s) s s + hgF E (ofF E s) s s) / 2 := by
      show (if s = s then _ else _) = _
      rw [if_pos rfl]
      rfl
    have ov : ∀ j, j < s → ofF E (s + 1) j = ofF E s j := fun j hj => ofF_ne hj 1
    refine ⟨fun c hc => ?_, fun c d hc hd kk => ?_⟩
    · rcases Nat.lt_or_ge c s with y | y
      · rw [ov c y]; exact inv.1 c y
      · rw [show c = s by omega, nv]
        rcases z with ⟨z1, z2, z3⟩ | ⟨z1, z2, z3, z4⟩
        · rw [if_pos z3]; omega
        · rw [if_neg (by omega)]; omega
    · rcases Nat.lt_or_ge c s with y | y
      · rcases Nat.lt_or_ge d s with y2 | y2
        · rw [ov c y, ov d y2]; exact inv.2 c d y y2 kk
        · have e : d = s := by omega
          subst e
          rw [ov c y, nv]
          have k2 := sym k (show c < 8 by omega) (show d < 8 by omega) kk
          rcases z with ⟨z1, z2, z3⟩ | ⟨z1, z2, z3, z4⟩
          · exact absurd (z1 c y) k2
          · have := z4 c y k2
            rw [if_neg (by omega)]; omega
      · have e : c = s := by omega
        subst e
        rcases Nat.lt_or_ge d c with y2 | y2
        · rw [ov d y2, nv]
          rcases z with ⟨z1, z2, z3⟩ | ⟨z1, z2, z3, z4⟩
          · exact absurd (z1 d y2) kk
          · have := z4 d y2 kk
            rw [if_neg (by omega)]; omega
        · rw [show d = c by omega]
          have := k.1.1 c (by omega)
          omega
/-- the solution -/
def off (n : Nat) (w : View) (s : Nat) : Int := ofF (mx n w n) 8 s
/-- how many values an offset could have; 0 stands for all -/
def chc (n : Nat) (w : View) (s : Nat) : Int := if hgF (mx n w n) (off n w) s s = 1000000 then 0 else hgF (mx n w n) (off n w) s s - lwF (mx n w n) (off n w) s s + 1
theorem choose_spec {μ : Mem} {E : Mx} (k : Ck E) (hm : CM μ E) {s : Nat} (hs : s < 8) (ho : ∀ c, c < s → μ 896 0 c = J (ofF E s c)) {P : Mem → Prop} (h : ∀ μ', Bt [896, 960] μ μ' → (∀ c, μ' 896 0 c = if c = s then J (ofF E (s + 1) s) else μ 896 0 c) → (∀ c, μ' 960 0 c = if c = s then J (if hgF E (ofF E s) s s = 1000000 then 0 else hgF E (ofF E s) s s - lwF E (ofF E s) s s + 1) else μ 960 0 c) → P μ') : w0_choose_wp μ (J s) P := by
  have inv := ofF_Oi k s (by omega)
  have z := lh2 k hs inv
  have nv : ofF E (s + 1) s = if hgF E (ofF E s) s s = 1000000 then 0 else (lwF E (ofF E s) s s + hgF E (ofF E s) s s) / 2 := by
    show (if s = s then _ else _) = _
    rw [if_pos rfl]
    rfl
  intro R hR
  refine down (Q := fun m => R μ (J s) (J (lwF E (ofF E s) s m)) (J (hgF E (ofF E s) s m)) (J m)) s (fun m hm2 ih => ?_)
  apply hR
  unfold w0_choose_b9_body
  have zm := z.1 m (by omega)
  rcases Nat.lt_or_ge m s with c | c
  · have ih := ih c
    have l1 : lwF E (ofF E s) s (m + 1) = if E s m = 1000000 ∨ E m s = 1000000 then lwF E (ofF E s) s m else if lwF E (ofF E s) s m < ofF E s m - E m s then ofF E s m - E m s else lwF E (ofF E s) s m := rfl
    have h1 : hgF E (ofF E s) s (m + 1) = if E s m = 1000000 ∨ E m s = 1000000 then hgF E (ofF E s) s m else if ofF E s m + E s m < hgF E (ofF E s) s m then ofF E s m + E s m else hgF E (ofF E s) s m := rfl
    have e1 := hm s m hs (by omega)
    have e2 := hm m s (by omega) hs
    have e3 := ho m c
    have r1 := k.1.2.2 s m hs (by omega)
    have r2 := k.1.2.2 m s (by omega) hs
    have r3 := inv.1 m c
    rw [l1, h1] at ih
    simp (disch := omega) only [lJ0, lJ1, lJ2, lJ3, lJ4, lJ5, lJ6, lJ7, lJ8, lJ9, lJ10, lJ30, lJ32, lJ33, lJ39, lJ40, lJ41, lJ45, lJ47, lJ48, lJ51, lJ55, lJ57, lJ58, lJ59, lJ60, lJ64, lJ80, lJ82, lJ99, lJ100, lJ101, lJ123, lJ126, lJ282, lJ342, lJ1000, lJ1100, lJ2394, lJ2736, lJ9999, lJ10000, lJ1000000, lJ100000000, J_add, J_sub, J_mul, J_neg, J_le, J_lt, J_eq, J_in, J_clamp, Int.toNat_natCast, e1, e2, e3]
    refine ⟨fun _ => by omega, fun _ => ⟨by omega, by omega, by omega, by omega, fun c1 => ?_, fun c1 => ⟨fun c2 => ?_, fun c2 => ⟨by omega, by omega, ?_⟩⟩⟩⟩
    · rw [if_pos (Or.inl c1), if_pos (Or.inl c1)] at ih
      exact ih
    · rw [if_pos (Or.inr c2), if_pos (Or.inr c2)] at ih
      exact ih
    · have cc : ¬ (E s m = 1000000 ∨ E m s = 1000000) := by omega
      rw [if_neg cc, if_neg cc] at ih
      rw [← apply_ite J, ← apply_ite J]
      exact ih
  · obtain rfl : m = s := by omega
    have em : J (-1000000) = J (-1000000) := rfl
    simp (disch := omega) only [lJ0, lJ1, lJ2, lJ3, lJ4, lJ5, lJ6, lJ7, lJ8, lJ9, lJ10, lJ30, lJ32, lJ33, lJ39, lJ40, lJ41, lJ45, lJ47, lJ48, lJ51, lJ55, lJ57, lJ58, lJ59, lJ60, lJ64, lJ80, lJ82, lJ99, lJ100, lJ101, lJ123, lJ126, lJ282, lJ342, lJ1000, lJ1100, lJ2394, lJ2736, lJ9999, lJ10000, lJ1000000, lJ100000000, J_add, J_sub, J_mul, J_neg, J_le, J_lt, J_eq, J_in, J_clamp, Int.toNat_natCast]
    refine ⟨fun _ => ⟨fun c1 => ?_, fun c1 => ?_⟩, fun c => absurd (Int.le_refl _) c⟩
    · unfold w0_choose_b98
      refine ⟨fun _ => ?_, fun c => absurd rfl c⟩
      unfold w0_choose_b121
      simp (disch := omega) only [lJ0, lJ1, lJ2, lJ3, lJ4, lJ5, lJ6, lJ7, lJ8, lJ9, lJ10, lJ30, lJ32, lJ33, lJ39, lJ40, lJ41, lJ45, lJ47, lJ48, lJ51, lJ55, lJ57, lJ58, lJ59, lJ60, lJ64, lJ80, lJ82, lJ99, lJ100, lJ101, lJ123, lJ126, lJ282, lJ342, lJ1000, lJ1100, lJ2394, lJ2736, lJ9999, lJ10000, lJ1000000, lJ100000000, J_add, J_sub, J_mul, J_neg, J_le, J_lt, J_eq, J_in, J_clamp, Int.toNat_natCast]
      refine ⟨by omega, ?_⟩
      rintro μ2 rfl
      refine ⟨fun _ => ⟨by omega, ?_⟩, fun c => absurd trivial c⟩
      rintro μ4 rfl
      refine h _ ((Bt.up (by decide)).tr (Bt.up (by decide))) (fun c => ?_) (fun c => ?_)
      · rw [up_nq (by decide), up_at, nv, if_pos c1]
        simp
      · rw [up_at, up_nq (by decide), if_pos c1]
        simp
    · have z3 : -(69993 * (m : Int)) ≤ lwF E (ofF E m) m m ∧ lwF E (ofF E m) m m ≤ hgF E (ofF E m) m m ∧ hgF E (ofF E m) m m ≤ 69993 * m := by
        rcases z.2 with ⟨z1, z2, z3⟩ | ⟨z1, z2, z3, z4⟩
        · exact absurd z3 c1
        · exact ⟨z1, z2, z3⟩
      unfold w0_choose_b98
      refine ⟨fun c => absurd c (by decide), fun _ => ?_⟩
      refine floorDiv_spec (lwF E (ofF E m) m m + hgF E (ofF E m) m m) (J_add _ _) rfl (by omega) ?_
      unfold w0_choose_b121
      simp (disch := omega) only [lJ0, lJ1, lJ2, lJ3, lJ4, lJ5, lJ6, lJ7, lJ8, lJ9, lJ10, lJ30, lJ32, lJ33, lJ39, lJ40, lJ41, lJ45, lJ47, lJ48, lJ51, lJ55, lJ57, lJ58, lJ59, lJ60, lJ64, lJ80, lJ82, lJ99, lJ100, lJ101, lJ123, lJ126, lJ282, lJ342, lJ1000, lJ1100, lJ2394, lJ2736, lJ9999, lJ10000, lJ1000000, lJ100000000, J_add, J_sub, J_mul, J_neg, J_le, J_lt, J_eq, J_in, J_clamp, Int.toNat_natCast]
      refine ⟨by omega, ?_⟩
      rintro μ2 rfl
      refine ⟨fun c => absurd c (by decide), fun _ => ⟨by omega, ?_⟩⟩
      rintro μ4 rfl
      refine h _ ((Bt.up (by decide)).tr (Bt.up (by decide))) (fun c => ?_) (fun c => ?_)
      · rw [up_nq (by decide), up_at, nv, if_neg c1]
        simp
      · rw [up_at, up_nq (by decide), if_neg c1]
        simp
