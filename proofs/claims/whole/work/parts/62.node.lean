-- nodes: their tops, what lies below them, their numbers
def top (n : Nat) (w : View) (i : Nat) : Nat := al (tp n w) (fun i => i) (fun _ r => r) i
def bl (n : Nat) (w : View) (x : Int) (i : Nat) : Bool := al (tp n w) (fun i => decide (ab n w i = x)) (fun i r => decide (ab n w i = x) || r) i
theorem top_eq {n : Nat} {w : View} (hw : WF n w) {i : Nat} (hi : i < n) : top n w i = if tp n w i < 0 then i else top n w (tp n w i).toNat := al_eq (tp_tr hw) hi
theorem bl_eq {n : Nat} {w : View} (hw : WF n w) (x : Int) {i : Nat} (hi : i < n) : bl n w x i = if tp n w i < 0 then decide (ab n w i = x) else (decide (ab n w i = x) || bl n w x (tp n w i).toNat) := al_eq (tp_tr hw) hi
abbrev dp (n : Nat) (w : View) (i : Nat) : Nat := dep (tp n w) i
theorem dp_eq {n : Nat} {w : View} (hw : WF n w) {i : Nat} (hi : i < n) : dp n w i = if tp n w i < 0 then 0 else dp n w (tp n w i).toNat + 1 := dep_eq (tp_tr hw) hi
theorem dp_lt {n : Nat} {w : View} (hw : WF n w) {i : Nat} (hi : i < n) : dp n w i < 40 := dep40 (tp_tr hw) hi
theorem tp_rg {n : Nat} {w : View} {i : Nat} (hi : i < n) : -1 ≤ tp n w i ∧ tp n w i < n := (tpf_pm (pp_pm n w)) i hi
theorem tind {n : Nat} {w : View} (hw : WF n w) {Q : Nat → Prop} (s : ∀ i, i < n → (0 ≤ tp n w i → Q (tp n w i).toNat) → Q i) : ∀ i, i < n → Q i := tr_ind (tp_tr hw) s
theorem pp_cs {n : Nat} {w : View} {i : Nat} (h : pp n w i ≠ -1) : pp n w i = fnd n w (w i 2) ∧ w (pp n w i).toNat 1 = w i 1 := by
  unfold pp at h ⊢
  by_cases a : fnd n w (w i 2) = -1
  · rw [if_pos a] at h; exact absurd rfl h
  rw [if_neg a] at h ⊢
  by_cases b : fnd n w (w i 2) = i
  · rw [if_pos b] at h; exact absurd rfl h
  rw [if_neg b] at h ⊢
  by_cases c : w (fnd n w (w i 2)).toNat 1 = w i 1
  · rw [if_pos c]; exact ⟨rfl, c⟩
  · rw [if_neg c] at h; exact absurd rfl h
theorem pp_kd1 {n : Nat} {w : View} {i : Nat} (h : kd n w i = 1) : 0 ≤ pp n w i := by
  unfold kd at h
  split at h
  · omega
  · split at h
    · omega
    · rename_i a b; omega
/-- the node above and the span above -/
theorem ab_tp {n : Nat} {w : View} (hw : WF n w) {i : Nat} (hi : i < n) : (0 ≤ tp n w i ∧ ab n w i = tp n w i ∧ kd n w i = 1) ∨ (tp n w i = -1 ∧ kd n w i ≠ 1 ∧ (ab n w i = -1 ∧ kd n w i ≠ 2 ∨ 40 ≤ ab n w i ∧ kd n w i = 2)) := by
  rw [tp_kd hw]
  have h := (hl_inv n w n).2.2.2 i hi
  have r := hfn_rg (hl n w n) (w i 1) (w i 2)
  unfold ab
  by_cases c : kd n w i = 1
  · have := pp_kd1 c
    rw [if_pos c, if_pos c]
    exact Or.inl ⟨this, rfl, c⟩
  · rw [if_neg c, if_neg c]
    by_cases c2 : kd n w i = 2
    · rw [if_pos c2]
      have := h c2
      exact Or.inr ⟨rfl, c, Or.inr ⟨by omega, c2⟩⟩
    · rw [if_neg c2]
      exact Or.inr ⟨rfl, c, Or.inl ⟨rfl, c2⟩⟩
theorem top_sp {n : Nat} {w : View} (hw : WF n w) : ∀ i, i < n → top n w i < n ∧ tp n w (top n w i) = -1 := by
  refine tind hw (fun i hi ih => ?_)
  rw [top_eq hw hi]
  have r := tp_rg (w := w) hi
  split
  · exact ⟨hi, by omega⟩
  · exact ih (by omega)
/-- the root of a span, as an index and as a number -/
def rtx (n : Nat) (w : View) (i : Nat) : Int := if kd n w (top n w i) = 2 then ab n w (top n w i) else top n w i
def rno (n : Nat) (w : View) (i : Nat) : Int := if kd n w (top n w i) = 2 then 1000 + w (top n w i) 2 else w (top n w i) 0
def num (n : Nat) (w : View) (x : Int) : Int := if x < 40 then w x.toNat 0 else 1000 + lt (hl n w n) (x - 40).toNat
def dpx (n : Nat) (w : View) (i : Nat) : Int := if kd n w (top n w i) = 2 then (dp n w i : Int) + 1 else dp n w i
theorem ab_num {n : Nat} {w : View} (hw : WF n w) {i : Nat} (hi : i < n) (h : 0 ≤ ab n w i) : num n w (ab n w i) = nov n w i ∧ 0 ≤ nov n w i := by
  have r := hw.r i hi
  rcases ab_tp hw hi with ⟨h1, h2, h3⟩ | ⟨h1, h2, ⟨h3, h4⟩ | ⟨h3, h4⟩⟩
  · have rt := tp_rg (w := w) hi
    have rn := hw.n
    have e : pp n w i = tp n w i := by rw [tp_kd hw, if_pos h3]
    unfold num nov
    rw [if_pos (by omega), if_pos h3, h2, ← e]
    have e2 : pp n w i = fnd n w (w i 2) := (pp_cs (by omega)).1
    have y := fnd_some (n := n) (w := w) (z := w i 2) (by omega)
    rw [e2, y.2.2]
    have y3 := hw.r (fnd n w (w i 2)).toNat (by omega)
    omega
  · omega
  · have s := hfn_some (l := hl n w n) (t := w i 1) (q := w i 2) ((hl_inv n w n).2.2.2 i hi h4)
    unfold num nov
    rw [if_neg (by omega), if_neg (by omega), if_pos h4]
    unfold ab
    rw [if_neg (by omega), if_pos h4, show 40 + hfn (hl n w n) (w i 1) (w i 2) - 40 = hfn (hl n w n) (w i 1) (w i 2) by omega, s.2.2.2]
    unfold kd at h4
    split at h4
    · omega
    · refine ⟨rfl, ?_⟩
      omega
theorem rno_num {n : Nat} {w : View} (hw : WF n w) {i : Nat} (hi : i < n) : num n w (rtx n w i) = rno n w i := by
  have t := top_sp hw i hi
  have rn := hw.n
  unfold rtx rno
  by_cases c : kd n w (top n w i) = 2
  · rw [if_pos c, if_pos c]
    rcases ab_tp hw t.1 with ⟨h1, h2, h3⟩ | ⟨h1, h2, ⟨h3, h4⟩ | ⟨h3, h4⟩⟩
    · omega
    · omega
    · rw [(ab_num hw t.1 (by omega)).1]
      unfold nov
      rw [if_neg (by omega), if_pos c]
  · rw [if_neg c, if_neg c]
    unfold num
    rw [if_pos (by omega), Int.toNat_natCast]
/-- the node with a number in a trace -/
def nd (n : Nat) (w : View) (t q : Int) : Int := if q < 1000 then (if fnd n w q = -1 then -1 else if w (fnd n w q).toNat 1 = t then fnd n w q else -1) else if q < 1100 then (if hfn (hl n w n) t (q - 1000) = -1 then -1 else 40 + hfn (hl n w n) t (q - 1000)) else -1
theorem fnd_hi {n : Nat} {w : View} (hw : WF n w) {q : Int} (h : q < 0 ∨ 100 ≤ q) : fnd n w q = -1 := by
  by_cases c : fnd n w q = -1
  · exact c
  · have y := fnd_some c
    have := hw.r (fnd n w q).toNat (by omega)
    omega
theorem nd_rg {n : Nat} {w : View} (hw : WF n w) (t q : Int) : nd n w t q = -1 ∨ (0 ≤ nd n w t q ∧ nd n w t q < n) ∨ (40 ≤ nd n w t q ∧ nd n w t q < 40 + (hl n w n).length) := by
  have r1 := fnd_rg n w q
  have r2 := hfn_rg (hl n w n) t (q - 1000)
  unfold nd
  repeat' split
  all_goals omega
/-- the children of a node, said by its number and said by its index -/
theorem nd_ch {n : Nat} {w : View} (hw : WF n w) {t q : Int} (h : nd n w t q ≠ -1) {i : Nat} (hi : i < n) : (nov n w i = q ∧ w i 1 = t) ↔ ab n w i = nd n w t q := by
  have ri := hw.r i hi
  have rn := hw.n
  have ra := ab_tp hw hi
  have hk := (hl_inv n w n).2.2.2 i hi
  have k2 : kd n w i = 2 → w i 2 ≠ -1 := fun c z => by unfold kd at c; rw [if_pos z] at c; omega
  have k1 : kd n w i = 1 → w i 2 ≠ -1 := fun c z => by unfold kd at c; rw [if_pos z] at c; omega
  unfold nd at h ⊢
  by_cases c : q < 1000
  · rw [if_pos c] at h ⊢
    by_cases c2 : fnd n w q = -1
    · rw [if_pos c2] at h; exact absurd rfl h
    rw [if_neg c2] at h ⊢
    by_cases c3 : w (fnd n w q).toNat 1 = t
    · rw [if_pos c3] at h ⊢
      have y := fnd_some c2
      have ry := hw.r (fnd n w q).toNat (by omega)
      constructor
      · rintro ⟨e1, e2⟩
        unfold nov at e1
        by_cases d : kd n w i = 1
        · rw [if_pos d] at e1
          have e3 : pp n w i = fnd n w (w i 2) := (pp_cs (by have := pp_kd1 d; omega)).1
          unfold ab
          rw [if_pos d, e3, e1]
        · rw [if_neg d] at e1
          by_cases d2 : kd n w i = 2
          · rw [if_pos d2] at e1
            have := k2 d2
            omega
          · rw [if_neg d2] at e1
            omega
      · intro e
        have e4 := ab_num hw hi (by omega)
        rw [e] at e4
        unfold num at e4
        rw [if_pos (by omega), y.2.2] at e4
        refine ⟨e4.1.symm, ?_⟩
        rcases ra with ⟨h1, h2, h3⟩ | ⟨h1, h2, h3⟩
        · have e5 : pp n w i = fnd n w q := by rw [← e, h2, tp_kd hw, if_pos h3]
          have e6 : w (pp n w i).toNat 1 = w i 1 := (pp_cs (by omega)).2
          rw [← e6, e5]; exact c3
        · omega
    · rw [if_neg c3] at h; exact absurd rfl h
  · rw [if_neg c] at h ⊢
    by_cases c2 : q < 1100
    · rw [if_pos c2] at h ⊢
      by_cases c3 : hfn (hl n w n) t (q - 1000) = -1
      · rw [if_pos c3] at h; exact absurd rfl h
      rw [if_neg c3] at h ⊢
      have s := hfn_some c3
      constructor
      · rintro ⟨e1, e2⟩
        unfold nov at e1
        by_cases d : kd n w i = 1
        · rw [if_pos d] at e1; omega
        · rw [if_neg d] at e1
          by_cases d2 : kd n w i = 2
          · rw [if_pos d2] at e1
            unfold ab
            rw [if_neg d, if_pos d2, e2, show w i 2 = q - 1000 by omega]
          · rw [if_neg d2] at e1
            omega
      · intro e
        have e4 := ab_num hw hi (by omega)
        rw [e] at e4
        unfold num at e4
        rw [if_neg (by omega), show 40 + hfn (hl n w n) t (q - 1000) - 40 = hfn (hl n w n) t (q - 1000) by omega, s.2.2.2] at e4
        refine ⟨by omega, ?_⟩
        rcases ra with ⟨h1, h2, h3⟩ | ⟨h1, h2, ⟨h3, h4⟩ | ⟨h3, h4⟩⟩
        · have := tp_rg (w := w) hi; omega
        · omega
        · have s2 := hfn_some (hk h4)
          unfold ab at e
          rw [if_neg h2, if_pos h4] at e
          have e9 : hfn (hl n w n) (w i 1) (w i 2) = hfn (hl n w n) t (q - 1000) := by omega
          rw [← s2.2.2.1, e9, s.2.2.1]
    · rw [if_neg c2] at h; exact absurd rfl h
theorem nd_num {n : Nat} {w : View} (hw : WF n w) {t q : Int} (h : nd n w t q ≠ -1) : num n w (nd n w t q) = q := by
  have rn := hw.n
  unfold num
  unfold nd at h ⊢
  by_cases c : q < 1000
  · rw [if_pos c] at h ⊢
    by_cases c2 : fnd n w q = -1
    · rw [if_pos c2] at h; exact absurd rfl h
    rw [if_neg c2] at h ⊢
    by_cases c3 : w (fnd n w q).toNat 1 = t
    · rw [if_pos c3] at h ⊢
      have y := fnd_some c2
      rw [if_pos (by omega), y.2.2]
    · rw [if_neg c3] at h; exact absurd rfl h
  · rw [if_neg c] at h ⊢
    by_cases c2 : q < 1100
    · rw [if_pos c2] at h ⊢
      by_cases c3 : hfn (hl n w n) t (q - 1000) = -1
      · rw [if_pos c3] at h; exact absurd rfl h
      rw [if_neg c3] at h ⊢
      have s := hfn_some c3
      rw [if_neg (by omega), show 40 + hfn (hl n w n) t (q - 1000) - 40 = hfn (hl n w n) t (q - 1000) by omega, s.2.2.2]
      omega
    · rw [if_neg c2] at h; exact absurd rfl h
/-- a placeholder is there when it has a child -/
theorem nd_ph {n : Nat} {w : View} (hw : WF n w) {t q : Int} (hq : 1000 ≤ q) : nd n w t q ≠ -1 ↔ ∃ i, i < n ∧ nov n w i = q ∧ w i 1 = t := by
  constructor
  · intro h
    have rn := hw.n
    unfold nd at h
    rw [if_neg (by omega)] at h
    by_cases c2 : q < 1100
    · rw [if_pos c2] at h
      by_cases c3 : hfn (hl n w n) t (q - 1000) = -1
      · rw [if_pos c3] at h; exact absurd rfl h
      have s := hfn_some c3
      obtain ⟨i, hi, k, e1, e2⟩ := (hl_inv n w n).2.2.1 (hfn (hl n w n) t (q - 1000)).toNat (by omega)
      refine ⟨i, hi, ?_, ?_⟩
      · unfold nov
        rw [if_neg (by omega), if_pos k, ← e2, s.2.2.2]
        omega
      · rw [← e1]; exact s.2.2.1
    · rw [if_neg c2] at h; exact absurd rfl h
  · rintro ⟨i, hi, e1, e2⟩
    have ri := hw.r i hi
    have rv := nov_rg hw hi
    unfold nov at e1
    by_cases d : kd n w i = 1
    · rw [if_pos d] at e1; omega
    rw [if_neg d] at e1
    by_cases d2 : kd n w i = 2
    · rw [if_pos d2] at e1
      have hk := (hl_inv n w n).2.2.2 i hi d2
      unfold nd
      rw [if_neg (by omega), if_pos (by omega), ← e2, show q - 1000 = w i 2 by omega, if_neg hk]
      have := hfn_rg (hl n w n) (w i 1) (w i 2)
      omega
    · rw [if_neg d2] at e1; omega
