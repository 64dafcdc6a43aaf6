-- the length of a union of ranges, and the sweep that finds it
def BigN : Nat := 1200000
theorem BigN_eq : ((BigN : Nat) : Int) = 1200000 := rfl
def lenD (D : Int → Bool) : Int := cnt (fun k : Nat => D ((k : Int) - 600000) = true) BigN
theorem lenD_cg {D E : Int → Bool} (h : ∀ t, D t = E t) : lenD D = lenD E := by
  unfold lenD
  exact cnt_cg (fun i _ => by rw [h])
theorem cnt_iv {a b : Int} : ∀ n : Nat, 0 ≤ a → a ≤ b → b ≤ n → cnt (fun k : Nat => a ≤ (k : Int) ∧ (k : Int) < b) n = b - a := by
  intro n
  induction n with
  | zero => intro h1 h2 h3; show (0 : Int) = _; omega
  | succ n ih =>
    intro h1 h2 h3
    rw [cnt_succ]
    by_cases c : b ≤ n
    · rw [if_neg (by omega)]
      exact ih h1 h2 c
    · have e : b = n + 1 := by omega
      by_cases c2 : a ≤ n
      · rw [if_pos (by omega)]
        have : cnt (fun k : Nat => a ≤ (k : Int) ∧ (k : Int) < b) n = cnt (fun k : Nat => a ≤ (k : Int) ∧ (k : Int) < (n : Int)) n := cnt_cg (fun i hi => by omega)
        have z : ∀ m : Nat, a ≤ m → cnt (fun k : Nat => a ≤ (k : Int)) m = m - a := by
          intro m
          induction m with
          | zero => intro h; show (0 : Int) = _; omega
          | succ m ihm =>
            intro h
            rw [cnt_succ]
            by_cases c3 : a ≤ m
            · rw [if_pos c3, ihm c3]; omega
            · rw [if_neg c3, cnt_none (fun q hq z => by omega)]; omega
        have z2 : cnt (fun k : Nat => a ≤ (k : Int) ∧ (k : Int) < b) n = cnt (fun k : Nat => a ≤ (k : Int)) n := cnt_cg (fun i hi => by omega)
        rw [z2, z n c2]
        omega
      · rw [if_neg (by omega), cnt_none (fun q hq z => by omega)]
        omega
/-- what a sweep knows -/
def SwI (D : Int → Bool) (am sum at' ini : Int) : Prop := sum = lenD D ∧ (∀ t, D t = true → ini ≤ t ∧ t < at') ∧ (∀ t, am ≤ t → t < at' → D t = true) ∧ ini ≤ am ∧ ini ≤ at'
def addD (D : Int → Bool) (a b : Int) : Int → Bool := fun t => D t || decide (a ≤ t ∧ t < b)
theorem sw_step {D : Int → Bool} {am sum at' ini a b : Int} (h : SwI D am sum at' ini) (ha : am ≤ a) (ra : Rn a) (rb : Rn b) : SwI (addD D a b) a (if (if a < at' then at' else a) < b then sum + (b - (if a < at' then at' else a)) else sum) (if (if a < at' then at' else a) < b then b else at') ini := by
  obtain ⟨h1, h2, h3, h4, h5⟩ := h
  unfold Rn at ra rb
  have ht : ∀ t, addD D a b t = true ↔ D t = true ∨ (a ≤ t ∧ t < b) := fun t => by unfold addD; simp
  generalize hx : (if a < at' then at' else a) = x
  have x1 : a ≤ x ∧ at' ≤ x ∧ (x = a ∨ x = at') := by rw [← hx]; split <;> omega
  by_cases c : x < b
  · rw [if_pos c, if_pos c]
    refine ⟨?_, fun t z => ?_, fun t z1 z2 => (ht t).mpr (Or.inr ⟨z1, z2⟩), by omega, by omega⟩
    · have e := cnt_add (p := fun k : Nat => D ((k : Int) - 600000) = true) (q := fun k : Nat => x + 600000 ≤ (k : Int) ∧ (k : Int) < b + 600000) (r := fun k : Nat => addD D a b ((k : Int) - 600000) = true) (n := BigN) (fun k hk => ?_) (fun k hk z => ?_)
      · show sum + (b - x) = cnt _ BigN
        rw [e, cnt_iv BigN (by omega) (by omega) (by rw [BigN_eq]; omega), h1]
        unfold lenD
        omega
      · rw [ht]
        constructor
        · rintro (z | z)
          · exact Or.inl z
          · by_cases y : (k : Int) - 600000 < at'
            · exact Or.inl (h3 _ (by omega) y)
            · exact Or.inr (by omega)
        · rintro (z | z)
          · exact Or.inl z
          · exact Or.inr (by omega)
      · have := h2 _ z.1
        omega
    · rcases (ht t).mp z with z | z
      · have := h2 t z; omega
      · omega
  · rw [if_neg c, if_neg c]
    have eq : ∀ t, addD D a b t = D t := fun t => by
      have : addD D a b t = true ↔ D t = true := by
        rw [ht]
        constructor
        · rintro (z | z)
          · exact z
          · exact h3 t (by omega) (by omega)
        · exact Or.inl
      exact Bool.eq_iff_iff.mpr this
    refine ⟨by rw [lenD_cg eq]; exact h1, fun t z => h2 t (by rw [← eq]; exact z), fun t z1 z2 => by rw [eq]; exact h3 t (by omega) z2, by omega, h5⟩
theorem SwI.am {D : Int → Bool} {am am' sum at' ini : Int} (h : SwI D am sum at' ini) (ha : am ≤ am') : SwI D am' sum at' ini := ⟨h.1, h.2.1, fun t z => h.2.2.1 t (by omega), by have := h.2.2.2.1; omega, h.2.2.2.2⟩
theorem SwI.cg {D E : Int → Bool} {am sum at' ini : Int} (h : SwI D am sum at' ini) (e : ∀ t, E t = D t) : SwI E am sum at' ini := ⟨by rw [lenD_cg e]; exact h.1, fun t z => h.2.1 t (by rw [← e]; exact z), fun t z1 z2 => by rw [e]; exact h.2.2.1 t z1 z2, h.2.2.2⟩
theorem sw_0 {ini : Int} : SwI (fun _ => false) ini 0 ini ini := by
  refine ⟨?_, fun t z => (by cases z), fun t h1 h2 => by omega, Int.le_refl _, Int.le_refl _⟩
  unfold lenD
  rw [cnt_none (fun q _ z => by cases z)]
theorem lenD_rg (D : Int → Bool) : 0 ≤ lenD D ∧ lenD D ≤ 1200000 := by
  have := cnt_le (p := fun k : Nat => D ((k : Int) - 600000) = true) (n := BigN)
  rw [BigN_eq] at this
  exact this
/-- is a point in one of the first m ranges that have p -/
def cvb (p : Nat → Prop) [DecidablePred p] (A B : Nat → Int) (m : Nat) (t : Int) : Bool := it (fun i b => b || decide (p i ∧ A i ≤ t ∧ t < B i)) false m
theorem cvb_succ (p : Nat → Prop) [DecidablePred p] (A B : Nat → Int) (m : Nat) (t : Int) : cvb p A B (m + 1) t = (cvb p A B m t || decide (p m ∧ A m ≤ t ∧ t < B m)) := rfl
theorem cvb_iff (p : Nat → Prop) [DecidablePred p] (A B : Nat → Int) (t : Int) : ∀ m, cvb p A B m t = true ↔ ∃ i, i < m ∧ p i ∧ A i ≤ t ∧ t < B i := by
  intro m
  induction m with
  | zero => exact ⟨fun z => (by cases z), fun ⟨i, hi, _⟩ => (by omega)⟩
  | succ m ih =>
    rw [cvb_succ, Bool.or_eq_true, ih, decide_eq_true_iff]
    constructor
    · rintro (⟨i, hi, z⟩ | z)
      · exact ⟨i, by omega, z⟩
      · exact ⟨m, by omega, z⟩
    · rintro ⟨i, hi, z⟩
      by_cases y : i = m
      · subst y; exact Or.inr z
      · exact Or.inl ⟨i, by omega, z⟩
def cov (n : Nat) (p : Nat → Prop) [DecidablePred p] (A B : Nat → Int) : Int := lenD (cvb p A B n)
theorem cov_rg (n : Nat) (p : Nat → Prop) [DecidablePred p] (A B : Nat → Int) : 0 ≤ cov n p A B ∧ cov n p A B ≤ 1200000 := lenD_rg _
/-- a sweep in the order of the spans covers what any order covers -/
theorem cvb_od {n : Nat} {p : Nat → Prop} [DecidablePred p] {A B : Nat → Int} {od : Nat → Nat} (o1 : ∀ r, r < n → od r < n) (o3 : ∀ i, i < n → ∃ r, r < n ∧ od r = i) (t : Int) : cvb (fun r => p (od r)) (fun r => A (od r)) (fun r => B (od r)) n t = cvb p A B n t := by
  refine Bool.eq_iff_iff.mpr ?_
  rw [cvb_iff, cvb_iff]
  constructor
  · rintro ⟨r, hr, z⟩; exact ⟨od r, o1 r hr, z⟩
  · rintro ⟨i, hi, z⟩
    obtain ⟨r, hr, e⟩ := o3 i hi
    exact ⟨r, hr, by rw [e]; exact z⟩
def ownt (n : Nat) (w : View) (i : Nat) : Int := enn n w i - bgn n w i - cov n (fun j => ab n w j = (i : Int)) (fun j => if bgn n w i < bgn n w j then bgn n w j else bgn n w i) (fun j => if enn n w j < enn n w i then enn n w j else enn n w i)
def bsy (n : Nat) (w : View) (t s : Int) : Int := cov n (fun j => w j 1 = t ∧ w j 3 = s) (bgn n w) (enn n w)
theorem mx_Rn {a b : Int} (ha : Rn a) (hb : Rn b) : Rn (if a < b then b else a) ∧ Rn (if a < b then a else b) := by
  unfold Rn at *
  constructor <;> split <;> omega
theorem c_ownUnits_spec {S : GS} {μ : Mem} (k : CK S μ) (g : GOK S) {i : Nat} (hi : i < S.1.1) {P : Int32 → Mem → Prop} (h : P (J (ownt (S.1.1) (S.1.2.1) i)) μ) : w1_ownUnits_wp μ (J i) P := by
  have rn := g.1.n
  have s1 : SV μ 0 (S.1.1) (S.1.2.1) := k.1.1.1.1
  have ri := g.w.r i hi
  have bi := be_rg g.w hi
  have ri9 := be_Rn g.w hi
  have ei := k.2.2.1 i hi
  obtain ⟨od, o1, o2, o3⟩ := k.2.2.2.2.2
  have tx : Tx S (S.1.2.1 i 1) i := by
    refine ⟨?_, by omega⟩
    have e : num (S.1.1) (S.1.2.1) (i : Int) = S.1.2.1 i 0 := by unfold num; rw [if_pos (by omega), Int.toNat_natCast]
    rw [e]
    unfold nd
    rw [if_pos (by omega), fnd_at g.w hi, if_neg (by omega), Int.toNat_natCast, if_pos rfl]
  have enum : num (S.1.1) (S.1.2.1) (i : Int) = S.1.2.1 i 0 := by unfold num; rw [if_pos (by omega), Int.toNat_natCast]
  unfold w1_ownUnits_wp
  refine duration_spec s1 rn (by omega) ?_
  rw [Int.toNat_natCast, show S.1.2.1 i 5 - S.1.2.1 i 4 = enn (S.1.1) (S.1.2.1) i - bgn (S.1.1) (S.1.2.1) i by omega, J_nat_clamp (by omega), ei.1]
  refine ⟨(J_in (by omega)).mpr (by omega), ?_⟩
  intro R hR
  have ini : SwI (cvb (fun r => ab (S.1.1) (S.1.2.1) (od r) = (i : Int)) (fun r => if bgn (S.1.1) (S.1.2.1) i < bgn (S.1.1) (S.1.2.1) (od r) then bgn (S.1.1) (S.1.2.1) (od r) else bgn (S.1.1) (S.1.2.1) i) (fun r => if enn (S.1.1) (S.1.2.1) (od r) < enn (S.1.1) (S.1.2.1) i then enn (S.1.1) (S.1.2.1) (od r) else enn (S.1.1) (S.1.2.1) i) 0) (bgn (S.1.1) (S.1.2.1) i) 0 (bgn (S.1.1) (S.1.2.1) i) (bgn (S.1.1) (S.1.2.1) i) := sw_0
  suffices H : ∀ am sum at' : Int, SwI (cvb (fun r => ab (S.1.1) (S.1.2.1) (od r) = (i : Int)) (fun r => if bgn (S.1.1) (S.1.2.1) i < bgn (S.1.1) (S.1.2.1) (od r) then bgn (S.1.1) (S.1.2.1) (od r) else bgn (S.1.1) (S.1.2.1) i) (fun r => if enn (S.1.1) (S.1.2.1) (od r) < enn (S.1.1) (S.1.2.1) i then enn (S.1.1) (S.1.2.1) (od r) else enn (S.1.1) (S.1.2.1) i) 0) am sum at' (bgn (S.1.1) (S.1.2.1) i) → (∀ r, 0 ≤ r → r < S.1.1 → am ≤ (if bgn (S.1.1) (S.1.2.1) i < bgn (S.1.1) (S.1.2.1) (od r) then bgn (S.1.1) (S.1.2.1) (od r) else bgn (S.1.1) (S.1.2.1) i)) → Rn at' → R μ (J i) (J (enn (S.1.1) (S.1.2.1) i - bgn (S.1.1) (S.1.2.1) i - sum)) (J at') (J (0 : Nat)) from by
    have := H _ _ _ ini (fun r _ _ => by split <;> omega) ri9.1
    rw [Int.sub_zero] at this
    exact this
  refine down (Q := fun r => ∀ am sum at' : Int, SwI (cvb (fun r => ab (S.1.1) (S.1.2.1) (od r) = (i : Int)) (fun r => if bgn (S.1.1) (S.1.2.1) i < bgn (S.1.1) (S.1.2.1) (od r) then bgn (S.1.1) (S.1.2.1) (od r) else bgn (S.1.1) (S.1.2.1) i) (fun r => if enn (S.1.1) (S.1.2.1) (od r) < enn (S.1.1) (S.1.2.1) i then enn (S.1.1) (S.1.2.1) (od r) else enn (S.1.1) (S.1.2.1) i) r) am sum at' (bgn (S.1.1) (S.1.2.1) i) → (∀ s, r ≤ s → s < S.1.1 → am ≤ (if bgn (S.1.1) (S.1.2.1) i < bgn (S.1.1) (S.1.2.1) (od s) then bgn (S.1.1) (S.1.2.1) (od s) else bgn (S.1.1) (S.1.2.1) i)) → Rn at' → R μ (J i) (J (enn (S.1.1) (S.1.2.1) i - bgn (S.1.1) (S.1.2.1) i - sum)) (J at') (J r)) (S.1.1) (fun r hr ih am sum at' sw lo rat => ?_)
  apply hR
  unfold w1_ownUnits_b24_body
  have sr : 0 ≤ sum ∧ sum ≤ 1200000 := by rw [sw.1]; exact lenD_rg _
  have at5 := sw.2.2.2.2
  rcases Nat.lt_or_ge r (S.1.1) with c | c
  rotate_left
  · have e9 : r = S.1.1 := by omega
    subst e9
    have e : sum = cov (S.1.1) (fun j => ab (S.1.1) (S.1.2.1) j = (i : Int)) (fun j => if bgn (S.1.1) (S.1.2.1) i < bgn (S.1.1) (S.1.2.1) j then bgn (S.1.1) (S.1.2.1) j else bgn (S.1.1) (S.1.2.1) i) (fun j => if enn (S.1.1) (S.1.2.1) j < enn (S.1.1) (S.1.2.1) i then enn (S.1.1) (S.1.2.1) j else enn (S.1.1) (S.1.2.1) i) := by
      rw [sw.1]
      exact lenD_cg (fun t => cvb_od (p := fun j => ab (S.1.1) (S.1.2.1) j = (i : Int)) (A := fun j => if bgn (S.1.1) (S.1.2.1) i < bgn (S.1.1) (S.1.2.1) j then bgn (S.1.1) (S.1.2.1) j else bgn (S.1.1) (S.1.2.1) i) (B := fun j => if enn (S.1.1) (S.1.2.1) j < enn (S.1.1) (S.1.2.1) i then enn (S.1.1) (S.1.2.1) j else enn (S.1.1) (S.1.2.1) i) (fun r hr => (o1 r hr).2) o3 t)
    unfold ownt at h
    rw [← e] at h
    simp (disch := omega) only [lJ0, lJ1, lJ2, lJ3, lJ4, lJ5, lJ6, lJ7, lJ8, lJ9, lJ10, lJ30, lJ32, lJ33, lJ39, lJ40, lJ41, lJ45, lJ47, lJ48, lJ51, lJ55, lJ57, lJ58, lJ59, lJ60, lJ64, lJ80, lJ82, lJ99, lJ100, lJ101, lJ123, lJ126, lJ282, lJ342, lJ1000, lJ1100, lJ2394, lJ2736, lJ9999, lJ10000, lJ1000000, lJ100000000, J_add, J_sub, J_mul, J_neg, J_le, J_lt, J_eq, J_in, J_clamp, Int.toNat_natCast, s1.1, s1.i0, s1.i1, s1.i2, s1.i3, s1.i4, s1.i5, s1.i6]
    exact ⟨fun _ => h, fun z => absurd (Int.le_refl _) z⟩
  have ih := ih c
  obtain ⟨e1, hc⟩ := o1 r c
  have bc := be_Rn g.w hc
  have ec := k.2.2.1 (od r) hc
  -- what the ranks behind this one begin with
  have lo2 : ∀ s, r + 1 ≤ s → s < S.1.1 → (if bgn (S.1.1) (S.1.2.1) i < bgn (S.1.1) (S.1.2.1) (od r) then bgn (S.1.1) (S.1.2.1) (od r) else bgn (S.1.1) (S.1.2.1) i) ≤ (if bgn (S.1.1) (S.1.2.1) i < bgn (S.1.1) (S.1.2.1) (od s) then bgn (S.1.1) (S.1.2.1) (od s) else bgn (S.1.1) (S.1.2.1) i) := fun s h1 h2 => by
    have := o2 r s (by omega) h2
    unfold erl at this
    split <;> split <;> omega
  have rA := (mx_Rn ri9.1 bc.1).1
  have rB := (mx_Rn bc.2 ri9.2).2
  have step := sw_step sw (lo r (Nat.le_refl _) c) rA rB
  have lor := lo r (Nat.le_refl _) c
  have skip : ab (S.1.1) (S.1.2.1) (od r) ≠ i → R μ (J i) (J (enn (S.1.1) (S.1.2.1) i - bgn (S.1.1) (S.1.2.1) i - sum)) (J at') (J ((r : Int) + 1)) := fun z => by
    refine ih am sum at' (sw.cg (fun t => ?_)) (fun s h1 h2 => lo s (by omega) h2) rat
    rw [cvb_succ, decide_eq_false (fun y => z y.1), Bool.or_false]
  have take : ab (S.1.1) (S.1.2.1) (od r) = i → ∀ sum2 at2, SwI (addD (cvb (fun r => ab (S.1.1) (S.1.2.1) (od r) = (i : Int)) (fun r => if bgn (S.1.1) (S.1.2.1) i < bgn (S.1.1) (S.1.2.1) (od r) then bgn (S.1.1) (S.1.2.1) (od r) else bgn (S.1.1) (S.1.2.1) i) (fun r => if enn (S.1.1) (S.1.2.1) (od r) < enn (S.1.1) (S.1.2.1) i then enn (S.1.1) (S.1.2.1) (od r) else enn (S.1.1) (S.1.2.1) i) r) (if bgn (S.1.1) (S.1.2.1) i < bgn (S.1.1) (S.1.2.1) (od r) then bgn (S.1.1) (S.1.2.1) (od r) else bgn (S.1.1) (S.1.2.1) i) (if enn (S.1.1) (S.1.2.1) (od r) < enn (S.1.1) (S.1.2.1) i then enn (S.1.1) (S.1.2.1) (od r) else enn (S.1.1) (S.1.2.1) i)) (if bgn (S.1.1) (S.1.2.1) i < bgn (S.1.1) (S.1.2.1) (od r) then bgn (S.1.1) (S.1.2.1) (od r) else bgn (S.1.1) (S.1.2.1) i) sum2 at2 (bgn (S.1.1) (S.1.2.1) i) → Rn at2 → R μ (J i) (J (enn (S.1.1) (S.1.2.1) i - bgn (S.1.1) (S.1.2.1) i - sum2)) (J at2) (J ((r : Int) + 1)) := fun z sum2 at2 st ra => by
    refine ih _ sum2 at2 (st.cg (fun t => ?_)) lo2 ra
    rw [cvb_succ]
    unfold addD
    congr 1
    exact decide_eq_decide.mpr ⟨fun y => y.2, fun y => ⟨z, y⟩⟩
  clear ih
  unfold Rn at bc rA rB rat
  have ri8 := ri9
  unfold Rn at ri8
  have j1 : (if J (enn (S.1.1) (S.1.2.1) i) < J (enn (S.1.1) (S.1.2.1) (od r)) then J (enn (S.1.1) (S.1.2.1) i) else J (enn (S.1.1) (S.1.2.1) (od r))) = J (if enn (S.1.1) (S.1.2.1) (od r) < enn (S.1.1) (S.1.2.1) i then enn (S.1.1) (S.1.2.1) (od r) else enn (S.1.1) (S.1.2.1) i) := by
    rw [J_mn (by omega) (by omega)]
    congr 1
    split <;> split <;> omega
  generalize hA : (if bgn (S.1.1) (S.1.2.1) i < bgn (S.1.1) (S.1.2.1) (od r) then bgn (S.1.1) (S.1.2.1) (od r) else bgn (S.1.1) (S.1.2.1) i) = A at *
  generalize hB : (if enn (S.1.1) (S.1.2.1) (od r) < enn (S.1.1) (S.1.2.1) i then enn (S.1.1) (S.1.2.1) (od r) else enn (S.1.1) (S.1.2.1) i) = B at *
  have j2 : (if J (bgn (S.1.1) (S.1.2.1) (od r)) < J at' then J at' else J (bgn (S.1.1) (S.1.2.1) (od r))) = J (if A < at' then at' else A) := by
    rw [J_mx (by omega) (by omega)]
    congr 1
    rw [← hA]
    repeat' split
    all_goals omega
  generalize hx : (if A < at' then at' else A) = x at *
  have rx : -600000 ≤ x ∧ x ≤ 600000 := by rw [← hx]; split <;> omega
  simp (disch := omega) only [lJ0, lJ1, lJ2, lJ3, lJ4, lJ5, lJ6, lJ7, lJ8, lJ9, lJ10, lJ30, lJ32, lJ33, lJ39, lJ40, lJ41, lJ45, lJ47, lJ48, lJ51, lJ55, lJ57, lJ58, lJ59, lJ60, lJ64, lJ80, lJ82, lJ99, lJ100, lJ101, lJ123, lJ126, lJ282, lJ342, lJ1000, lJ1100, lJ2394, lJ2736, lJ9999, lJ10000, lJ1000000, lJ100000000, J_add, J_sub, J_mul, J_neg, J_le, J_lt, J_eq, J_in, J_clamp, Int.toNat_natCast, s1.1, s1.i0, s1.i1, s1.i2, s1.i3, s1.i4, s1.i5, s1.i6, e1]
  refine ⟨fun z => by omega, fun _ => ⟨by omega, by omega, by omega, ?_⟩⟩
  have tch := Tx_ch g tx hc
  rw [enum] at tch
  refine c_isChild_spec k g hc (by omega) (by omega) rfl (fun c1 => ⟨fun c => absurd c (by decide), fun _ => ?_⟩) (fun c1 => ⟨fun _ => skip (fun z => c1 (tch.mpr z)), fun c => absurd rfl c⟩)
  have c1 := tch.mp c1
  have jr : (J ((od r : Nat) : Int)).toNatClampNeg = od r := J_nat_clamp (by omega)
  have ji : (J (i : Int)).toNatClampNeg = i := J_nat_clamp (by omega)
  simp only [e1, jr, ji, ei.1, ei.2.1, ec.1, ec.2.1, j1, j2]
  simp (disch := omega) only [lJ0, lJ1, lJ2, lJ3, lJ4, lJ5, lJ6, lJ7, lJ8, lJ9, lJ10, lJ30, lJ32, lJ33, lJ39, lJ40, lJ41, lJ45, lJ47, lJ48, lJ51, lJ55, lJ57, lJ58, lJ59, lJ60, lJ64, lJ80, lJ82, lJ99, lJ100, lJ101, lJ123, lJ126, lJ282, lJ342, lJ1000, lJ1100, lJ2394, lJ2736, lJ9999, lJ10000, lJ1000000, lJ100000000, J_add, J_sub, J_mul, J_neg, J_le, J_lt, J_eq, J_in, J_clamp, Int.toNat_natCast]
  refine ⟨by omega, by omega, by omega, fun c2 => ?_, fun c2 => ?_⟩
  · rw [if_neg (by omega), if_neg (by omega)] at step
    exact take c1 _ _ step (by unfold Rn; omega)
  · rw [if_pos (by omega), if_pos (by omega)] at step
    have := take c1 _ _ step (by unfold Rn; omega)
    rw [show enn (S.1.1) (S.1.2.1) i - bgn (S.1.1) (S.1.2.1) i - (sum + (B - x)) = enn (S.1.1) (S.1.2.1) i - bgn (S.1.1) (S.1.2.1) i - sum - (B - x) by omega] at this
    exact this
