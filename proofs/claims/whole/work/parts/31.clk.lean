-- needs: 20 21 22 23 24 25 30
-- the class's clocks
/-- a judgement: the verdict and the bounds behind it -/
def jdv (n : Nat) (w : View) (E : Mx) (i : Nat) : Int :=
  if pp n w i = -1 then 0 else if w i 3 = w (pp n w i).toNat 3 then 0 else
  if w (pp n w i).toNat 5 - w i 5 < w (pp n w i).toNat 4 - w i 4 ∨ E (w i 3).toNat (w (pp n w i).toNat 3).toNat < w (pp n w i).toNat 4 - w i 4 ∨ E (w (pp n w i).toNat 3).toNat (w i 3).toNat < -(w (pp n w i).toNat 5 - w i 5) then 2 else 1
def jdm (n : Nat) (w : View) (i : Nat) (E : Mx) : Mx :=
  if jdv n w E i = 1 then acc E (w i 3).toNat (w (pp n w i).toNat 3).toNat (w (pp n w i).toNat 4 - w i 4) (w (pp n w i).toNat 5 - w i 5) else E
def mx (n : Nat) (w : View) : Nat → Mx := it (jdm n w) E0
def ver (n : Nat) (w : View) (i : Nat) : Int := jdv n w (mx n w i) i
theorem jdv_1 {n : Nat} {w : View} {E : Mx} {i : Nat} (h : jdv n w E i = 1) : pp n w i ≠ -1 ∧ w i 3 ≠ w (pp n w i).toNat 3 ∧ w (pp n w i).toNat 4 - w i 4 ≤ w (pp n w i).toNat 5 - w i 5 ∧ w (pp n w i).toNat 4 - w i 4 ≤ E (w i 3).toNat (w (pp n w i).toNat 3).toNat ∧ -(w (pp n w i).toNat 5 - w i 5) ≤ E (w (pp n w i).toNat 3).toNat (w i 3).toNat := by
  unfold jdv at h
  split at h
  · omega
  · split at h
    · omega
    · split at h
      · omega
      · exact ⟨by assumption, by assumption, by omega, by omega, by omega⟩
theorem jdm_Ck {n : Nat} {w : View} {E : Mx} {i : Nat} (hw : WF n w) (hi : i < n) (k : Ck E) : Ck (jdm n w i E) := by
  unfold jdm
  split
  · rename_i h
    obtain ⟨h1, h2, h3, h4, h5⟩ := jdv_1 h
    have r := hw.r i hi
    have rp := pp_rg n w i
    have r2 := hw.r (pp n w i).toNat (by omega)
    exact (acc_Ck k (by omega) (by omega) (by omega) (by omega) (by omega) h3 (Or.inr h4) (Or.inr h5)).1
  · exact k
theorem mx_Ck {n : Nat} {w : View} (hw : WF n w) : ∀ i, i ≤ n → Ck (mx n w i) := by
  intro i
  induction i with
  | zero => intro _; exact Ck0
  | succ i ih => intro hi; exact jdm_Ck hw (by omega) (ih (by omega))
/-- the class's matrix -/
def CM (μ : Mem) (E : Mx) : Prop := ∀ a c, a < 8 → c < 8 → μ 1088 a c = J (E a c)
theorem tighten_spec {μ : Mem} {E : Mx} {K : Int} (t : Ti K E) (hK : 0 ≤ K ∧ K ≤ 149985) (hm : CM μ E) {h l : Nat} (hh : h < 8) (hl : l < 8) {b : Int} (hb : -9999 ≤ b ∧ b ≤ 9999) (f : E l h = 1000000 ∨ 0 ≤ b + E l h) {x y z : Int32} (ex : x = J h) (ey : y = J l) (ez : z = J b) {P : Mem → Prop} (hp : ∀ μ', Bt [1088] μ μ' → CM μ' (tg E h l b) → P μ') : w0_tighten_wp μ x y z P := by
  subst ex ey ez
  have rg := t.2.2
  unfold w0_tighten_wp
  have r1 := rg h l hh hl
  simp (disch := omega) only [lJ0, lJ1, lJ2, lJ3, lJ4, lJ5, lJ6, lJ7, lJ8, lJ9, lJ10, lJ30, lJ32, lJ33, lJ39, lJ40, lJ41, lJ45, lJ47, lJ48, lJ51, lJ55, lJ57, lJ58, lJ59, lJ60, lJ64, lJ80, lJ82, lJ99, lJ100, lJ101, lJ123, lJ126, lJ282, lJ342, lJ1000, lJ1100, lJ2394, lJ2736, lJ9999, lJ10000, lJ1000000, lJ100000000, J_add, J_sub, J_mul, J_neg, J_le, J_lt, J_eq, J_in, J_clamp, Int.toNat_natCast, hm h l hh hl]
  refine ⟨by omega, by omega, fun c => ?_, fun c => hp μ Bt.rf (fun a d ha hd => ?_)⟩
  rotate_left
  · rw [hm a d ha hd, tg_id t hh hl (by omega) (by omega) ha hd]
  intro R hR
  suffices H : ∀ μ', Bt [1088] μ μ' → (∀ a d, a < 8 → d < 8 → μ' 1088 a d = if a < 0 then J (tg E h l b a d) else J (E a d)) → R μ' (J h) (J l) (J b) (J (0 : Nat)) from H μ Bt.rf (fun a d ha hd => by rw [if_neg (by omega)]; exact hm a d ha hd)
  refine down (Q := fun i => ∀ μ', Bt [1088] μ μ' → (∀ a d, a < 8 → d < 8 → μ' 1088 a d = if a < i then J (tg E h l b a d) else J (E a d)) → R μ' (J h) (J l) (J b) (J i)) 8 (fun i hi ih μ' bt cm => ?_)
  apply hR
  unfold w0_tighten_b14_body
  rcases Nat.lt_or_ge i 8 with ci | ci
  rotate_left
  · obtain rfl : i = 8 := by omega
    simp (disch := omega) only [lJ0, lJ1, lJ2, lJ3, lJ4, lJ5, lJ6, lJ7, lJ8, lJ9, lJ10, lJ30, lJ32, lJ33, lJ39, lJ40, lJ41, lJ45, lJ47, lJ48, lJ51, lJ55, lJ57, lJ58, lJ59, lJ60, lJ64, lJ80, lJ82, lJ99, lJ100, lJ101, lJ123, lJ126, lJ282, lJ342, lJ1000, lJ1100, lJ2394, lJ2736, lJ9999, lJ10000, lJ1000000, lJ100000000, J_add, J_sub, J_mul, J_neg, J_le, J_lt, J_eq, J_in, J_clamp, Int.toNat_natCast]
    exact ⟨fun _ => hp _ bt (fun a d ha hd => by rw [cm a d ha hd, if_pos ha]), fun c => absurd (by omega) c⟩
  have ih := ih ci
  simp (disch := omega) only [lJ0, lJ1, lJ2, lJ3, lJ4, lJ5, lJ6, lJ7, lJ8, lJ9, lJ10, lJ30, lJ32, lJ33, lJ39, lJ40, lJ41, lJ45, lJ47, lJ48, lJ51, lJ55, lJ57, lJ58, lJ59, lJ60, lJ64, lJ80, lJ82, lJ99, lJ100, lJ101, lJ123, lJ126, lJ282, lJ342, lJ1000, lJ1100, lJ2394, lJ2736, lJ9999, lJ10000, lJ1000000, lJ100000000, J_add, J_sub, J_mul, J_neg, J_le, J_lt, J_eq, J_in, J_clamp, Int.toNat_natCast]
  refine ⟨fun _ => by omega, fun _ => ?_⟩
  intro R2 hR2
  suffices H : ∀ μ', Bt [1088] μ μ' → (∀ a d, a < 8 → d < 8 → μ' 1088 a d = if a < i ∨ (a = i ∧ d < 0) then J (tg E h l b a d) else J (E a d)) → R2 μ' (J h) (J l) (J b) (J i) (J (0 : Nat)) from H μ' bt (fun a d ha hd => by
    rw [cm a d ha hd]
    by_cases y : a < i
    · rw [if_pos y, if_pos (Or.inl y)]
    · rw [if_neg y, if_neg (by omega)])
  refine down (Q := fun j => ∀ μ', Bt [1088] μ μ' → (∀ a d, a < 8 → d < 8 → μ' 1088 a d = if a < i ∨ (a = i ∧ d < j) then J (tg E h l b a d) else J (E a d)) → R2 μ' (J h) (J l) (J b) (J i) (J j)) 8 (fun j hj ih2 μ' bt cm => ?_)
  apply hR2
  unfold w0_tighten_b24_body
  rcases Nat.lt_or_ge j 8 with cj | cj
  rotate_left
  · obtain rfl : j = 8 := by omega
    simp (disch := omega) only [lJ0, lJ1, lJ2, lJ3, lJ4, lJ5, lJ6, lJ7, lJ8, lJ9, lJ10, lJ30, lJ32, lJ33, lJ39, lJ40, lJ41, lJ45, lJ47, lJ48, lJ51, lJ55, lJ57, lJ58, lJ59, lJ60, lJ64, lJ80, lJ82, lJ99, lJ100, lJ101, lJ123, lJ126, lJ282, lJ342, lJ1000, lJ1100, lJ2394, lJ2736, lJ9999, lJ10000, lJ1000000, lJ100000000, J_add, J_sub, J_mul, J_neg, J_le, J_lt, J_eq, J_in, J_clamp, Int.toNat_natCast]
    refine ⟨fun _ => ih _ bt (fun a d ha hd => ?_), fun c => absurd (by omega) c⟩
    rw [cm a d ha hd]
    by_cases y : a < i + 1
    · rw [if_pos y, if_pos (by omega)]
    · rw [if_neg y, if_neg (by omega)]
  have ih2 := ih2 cj
  -- what is read is what was there
  have e1 : μ' 1088 i h = J (E i h) := by
    rw [cm i h ci hh]
    split
    · rw [tg_col t hh hl f ci]
    · rfl
  have e2 : μ' 1088 l j = J (E l j) := by
    rw [cm l j hl cj]
    split
    · rw [tg_row t hh hl f cj]
    · rfl
  have e3 : μ' 1088 i j = J (E i j) := by
    rw [cm i j ci cj, if_neg (by omega)]
  have g1 := rg i h ci hh
  have g2 := rg l j hl cj
  have g3 := rg i j ci cj
  have stp : ∀ μ'' : Mem, Bt [1088] μ' μ'' → (∀ a d, a < 8 → d < 8 → μ'' 1088 a d = if a = i ∧ d = j then J (tg E h l b a d) else μ' 1088 a d) → R2 μ'' (J h) (J l) (J b) (J i) (J ((j : Int) + 1)) := fun μ'' bb cc => by
    refine ih2 μ'' (bt.tr bb) (fun a d ha hd => ?_)
    rw [cc a d ha hd]
    by_cases y : a = i ∧ d = j
    · rw [if_pos y, if_pos (by omega)]
    · rw [if_neg y, cm a d ha hd]
      by_cases y2 : a < i ∨ (a = i ∧ d < j)
      · rw [if_pos y2, if_pos (by omega)]
      · rw [if_neg y2, if_neg (by omega)]
  have same : tg E h l b i j = E i j → R2 μ' (J h) (J l) (J b) (J i) (J ((j : Int) + 1)) := fun e => stp μ' Bt.rf (fun a d ha hd => by
    split
    · rename_i y
      rw [y.1, y.2, e, e3]
    · rfl)
  simp (disch := omega) only [lJ0, lJ1, lJ2, lJ3, lJ4, lJ5, lJ6, lJ7, lJ8, lJ9, lJ10, lJ30, lJ32, lJ33, lJ39, lJ40, lJ41, lJ45, lJ47, lJ48, lJ51, lJ55, lJ57, lJ58, lJ59, lJ60, lJ64, lJ80, lJ82, lJ99, lJ100, lJ101, lJ123, lJ126, lJ282, lJ342, lJ1000, lJ1100, lJ2394, lJ2736, lJ9999, lJ10000, lJ1000000, lJ100000000, J_add, J_sub, J_mul, J_neg, J_le, J_lt, J_eq, J_in, J_clamp, Int.toNat_natCast, e1, e2, e3]
  refine ⟨fun _ => by omega, fun _ => ⟨by omega, by omega, by omega, by omega, fun c1 => same (by unfold tg; rw [if_pos (Or.inl c1)]), fun c1 => ⟨fun c2 => same (by unfold tg; rw [if_pos (Or.inr c2)]), fun c2 => ⟨by omega, by omega, by omega, by omega, ?_⟩⟩⟩⟩
  rintro _ rfl
  refine stp _ (Bt.up (by decide)) (fun a d ha hd => ?_)
  rw [up_at]
  by_cases y : a = i ∧ d = j
  · rw [if_pos ⟨rfl, y.1, y.2⟩, if_pos y, y.1, y.2]
    rw [show tg E h l b i j = if E i h + b + E l j < E i j then E i h + b + E l j else E i j from by unfold tg; rw [if_neg (by omega)], apply_ite J]
  · rw [if_neg (fun z => y z.2), if_neg y]
theorem judge_spec {μ : Mem} {n : Nat} {w : View} (hv : SV μ 0 n w) (hw : WF n w) {i : Nat} (hi : i < n) {E : Mx} (k : Ck E) (hm : CM μ E) {P : Int32 → Mem → Prop} (h : ∀ μ', Bt [1088] μ μ' → CM μ' (jdm n w i E) → P (J (jdv n w E i)) μ') : w0_judge_wp μ (J i) P := by
  have r := hw.n
  have r1 := hw.r i hi
  have rp := pp_rg n w i
  have h0 : jdv n w E i ≠ 1 → P (J (jdv n w E i)) μ := fun e => h μ Bt.rf (by unfold jdm; rw [if_neg e]; exact hm)
  unfold w0_judge_wp
  refine presentParent_spec hv hw hi ?_
  refine isWithin_spec (pp n w i) 40 rfl rfl (by omega) (by decide) (fun c => ⟨fun _ => ?_, fun c => absurd c (by decide)⟩) (fun c => ⟨fun c => absurd rfl c, fun _ => ?_⟩)
  rotate_left
  · have e : jdv n w E i = 0 := by unfold jdv; rw [if_pos (by omega)]
    rw [e] at h0
    exact h0 (by omega)
  have r2 := hw.r (pp n w i).toNat (by omega)
  obtain ⟨p, hp⟩ : ∃ p : Nat, pp n w i = p := ⟨(pp n w i).toNat, by omega⟩
  rw [hp] at r2 rp c ⊢
  rw [Int.toNat_natCast] at r2
  have jj : jdv n w E i = if w i 3 = w p 3 then 0 else if w p 5 - w i 5 < w p 4 - w i 4 ∨ E (w i 3).toNat (w p 3).toNat < w p 4 - w i 4 ∨ E (w p 3).toNat (w i 3).toNat < -(w p 5 - w i 5) then 2 else 1 := by
    unfold jdv
    rw [if_neg (by omega), hp, Int.toNat_natCast]
  simp (disch := omega) only [lJ0, lJ1, lJ2, lJ3, lJ4, lJ5, lJ6, lJ7, lJ8, lJ9, lJ10, lJ30, lJ32, lJ33, lJ39, lJ40, lJ41, lJ45, lJ47, lJ48, lJ51, lJ55, lJ57, lJ58, lJ59, lJ60, lJ64, lJ80, lJ82, lJ99, lJ100, lJ101, lJ123, lJ126, lJ282, lJ342, lJ1000, lJ1100, lJ2394, lJ2736, lJ9999, lJ10000, lJ1000000, lJ100000000, J_add, J_sub, J_mul, J_neg, J_le, J_lt, J_eq, J_in, J_clamp, Int.toNat_natCast, hv.1, hv.i0, hv.i1, hv.i2, hv.i3, hv.i4, hv.i5, hv.i6]
  refine ⟨by omega, by omega, fun c1 => ?_, fun c1 => ?_⟩
  rotate_left
  · have e : jdv n w E i = 0 := by rw [jj, if_pos c1]
    rw [e] at h0
    exact h0 (by omega)
  have m1 := hm (w i 3).toNat (w p 3).toNat (by omega) (by omega)
  have m2 := hm (w p 3).toNat (w i 3).toNat (by omega) (by omega)
  have g1 := k.1.2.2 (w i 3).toNat (w p 3).toNat (by omega) (by omega)
  have g2 := k.1.2.2 (w p 3).toNat (w i 3).toNat (by omega) (by omega)
  have z2 : (w p 5 - w i 5 < w p 4 - w i 4 ∨ E (w i 3).toNat (w p 3).toNat < w p 4 - w i 4 ∨ E (w p 3).toNat (w i 3).toNat < -(w p 5 - w i 5)) → P (J 2) μ := fun c => by
    have e : jdv n w E i = 2 := by rw [jj, if_neg c1, if_pos c]
    rw [e] at h0
    exact h0 (by omega)
  simp (disch := omega) only [lJ0, lJ1, lJ2, lJ3, lJ4, lJ5, lJ6, lJ7, lJ8, lJ9, lJ10, lJ30, lJ32, lJ33, lJ39, lJ40, lJ41, lJ45, lJ47, lJ48, lJ51, lJ55, lJ57, lJ58, lJ59, lJ60, lJ64, lJ80, lJ82, lJ99, lJ100, lJ101, lJ123, lJ126, lJ282, lJ342, lJ1000, lJ1100, lJ2394, lJ2736, lJ9999, lJ10000, lJ1000000, lJ100000000, J_add, J_sub, J_mul, J_neg, J_le, J_lt, J_eq, J_in, J_clamp, Int.toNat_natCast, hv.1, hv.i0, hv.i1, hv.i2, hv.i3, hv.i4, hv.i5, hv.i6, m1, m2]
  refine ⟨by omega, by omega, by omega, by omega, fun c => z2 (Or.inl c), fun c2 => ⟨by omega, by omega, fun c => z2 (Or.inr (Or.inl c)), fun c3 => ⟨by omega, by omega, fun c4 => ?_, fun c => z2 (Or.inr (Or.inr (by omega)))⟩⟩⟩
  have a := acc_Ck k (x := (w i 3).toNat) (y := (w p 3).toNat) (le := w p 4 - w i 4) (gr := w p 5 - w i 5) (by omega) (by omega) (by omega) (by omega) (by omega) (by omega) (Or.inr (by omega)) (Or.inr (by omega))
  refine tighten_spec k.1 (by omega) hm (h := (w i 3).toNat) (l := (w p 3).toNat) (by omega) (by omega) (b := w p 5 - w i 5) (by omega) (by omega) (by congr 1; omega) (by congr 1; omega) rfl (fun μ1 b1 m3 => ?_)
  refine tighten_spec a.2.1 (by omega) m3 (h := (w p 3).toNat) (l := (w i 3).toNat) (by omega) (by omega) (b := -(w p 4 - w i 4)) (by omega) a.2.2 (by congr 1; omega) (by congr 1; omega) rfl (fun μ2 b2 m4 => ?_)
  have e : jdv n w E i = 1 := by rw [jj, if_neg c1, if_neg (by omega)]
  have := h μ2 (b1.tr b2) (by
    unfold jdm
    rw [if_pos e, hp, Int.toNat_natCast]
    exact m4)
  rw [e] at this
  exact this
