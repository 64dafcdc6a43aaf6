-- critical paths: the walk through a node's window, the latest first
def cb (n : Nat) (w : View) (f : Int) (i : Nat) : Int := if bgn n w i < f then f else bgn n w i
def ce (n : Nat) (w : View) (t : Int) (i : Nat) : Int := if t < enn n w i then t else enn n w i
/-- one turn of the search for the latest child -/
def lst (n : Nat) (w : View) (x f t : Int) (i : Nat) (s : Int × Int × Int) : Int × Int × Int :=
  if ab n w i = x ∧ cb n w f i < ce n w t i then
    (if s.1 = -1 ∨ s.2.2 < ce n w t i ∨ (ce n w t i = s.2.2 ∧ (cb n w f i < s.2.1 ∨ (cb n w f i = s.2.1 ∧ w i 0 < w s.1.toNat 0))) then ((i : Int), cb n w f i, ce n w t i) else s)
  else s
def lss (n : Nat) (w : View) (x f t : Int) : Nat → Int × Int × Int := it (lst n w x f t) (-1, 0, 0)
def lat (n : Nat) (w : View) (x f t : Int) : Int := (lss n w x f t n).1
theorem lss_succ (n : Nat) (w : View) (x f t : Int) (m : Nat) : lss n w x f t (m + 1) = lst n w x f t m (lss n w x f t m) := rfl
theorem lss_inv {n : Nat} {w : View} {x f t : Int} : ∀ m, lss n w x f t m = (-1, 0, 0) ∨ (∃ c : Nat, c < m ∧ lss n w x f t m = ((c : Int), cb n w f c, ce n w t c) ∧ ab n w c = x ∧ cb n w f c < ce n w t c) := by
  intro m
  induction m with
  | zero => exact Or.inl rfl
  | succ m ih =>
    rw [lss_succ]
    unfold lst
    by_cases h : ab n w m = x ∧ cb n w f m < ce n w t m
    · rw [if_pos h]
      split
      · exact Or.inr ⟨m, by omega, rfl, h⟩
      · rcases ih with e | ⟨c, h1, h2⟩
        · exact Or.inl e
        · exact Or.inr ⟨c, by omega, h2⟩
    · rw [if_neg h]
      rcases ih with e | ⟨c, h1, h2⟩
      · exact Or.inl e
      · exact Or.inr ⟨c, by omega, h2⟩
theorem lat_cs (n : Nat) (w : View) (x f t : Int) : lat n w x f t = -1 ∨ (∃ c : Nat, lat n w x f t = c ∧ c < n ∧ ab n w c = x ∧ cb n w f c < ce n w t c) := by
  unfold lat
  rcases lss_inv (n := n) (w := w) (x := x) (f := f) (t := t) n with e | ⟨c, h1, h2, h3⟩
  · rw [e]; exact Or.inl rfl
  · rw [h2]; exact Or.inr ⟨c, rfl, h1, h3⟩
theorem cb_rg {n : Nat} {w : View} {f : Int} {i : Nat} : f ≤ cb n w f i ∧ bgn n w i ≤ cb n w f i ∧ (cb n w f i = f ∨ (cb n w f i = bgn n w i ∧ f ≤ bgn n w i)) := by
  unfold cb
  split <;> omega
theorem ce_rg {n : Nat} {w : View} {t : Int} {i : Nat} : ce n w t i ≤ t ∧ ce n w t i ≤ enn n w i ∧ (ce n w t i = t ∨ (ce n w t i = enn n w i ∧ enn n w i ≤ t)) := by
  unfold ce
  split <;> omega
abbrev Sg : Type := Int × Int × Int
def wk (n : Nat) (w : View) : Nat → Int → Int → Int → List Sg
  | 0, _, _, _ => []
  | d + 1, x, f, t => if t ≤ f then [] else if lat n w x f t = -1 then [(x, f, t)] else
      (if t ≤ ce n w t (lat n w x f t).toNat then [] else [(x, ce n w t (lat n w x f t).toNat, t)]) ++ (wk n w d (lat n w x f t) (cb n w f (lat n w x f t).toNat) (ce n w t (lat n w x f t).toNat) ++ wk n w d x f (cb n w f (lat n w x f t).toNat))
def okw (n : Nat) (w : View) : Nat → Int → Int → Int → Prop
  | 0, _, _, _ => False
  | d + 1, x, f, t => f < t → lat n w x f t ≠ -1 → okw n w d (lat n w x f t) (cb n w f (lat n w x f t).toNat) (ce n w t (lat n w x f t).toNat) ∧ okw n w d x f (cb n w f (lat n w x f t).toNat)
/-- the nodes that are entered -/
def en (n : Nat) (w : View) : Nat → Int → Int → Int → List Nat
  | 0, _, _, _ => []
  | d + 1, x, f, t => if t ≤ f then [] else if lat n w x f t = -1 then [] else
      (lat n w x f t).toNat :: (en n w d (lat n w x f t) (cb n w f (lat n w x f t).toNat) (ce n w t (lat n w x f t).toNat) ++ en n w d x f (cb n w f (lat n w x f t).toNat))
/-- strictly below a span lies deeper -/
theorem bl_dp {n : Nat} {w : View} (hw : WF n w) {c : Nat} (hc : c < n) : ∀ i, i < n → bl n w (c : Int) i = true → dp n w c < dp n w i := by
  have rn := hw.n
  refine tind hw (fun i hi ih => ?_)
  intro h
  rw [bl_eq hw _ hi] at h
  have de := dp_eq hw hi
  have rt := tp_rg (w := w) hi
  rcases ab_tp hw hi with ⟨h1, h2, h3⟩ | ⟨h1, h2, h3⟩
  · rw [if_neg (by omega)] at h de
    rcases Bool.or_eq_true _ _ |>.mp h with z | z
    · have z := of_decide_eq_true z
      have e : (tp n w i).toNat = c := by omega
      rw [e] at de
      omega
    · have := ih h1 z
      omega
  · rw [if_pos (by omega)] at h
    have z := of_decide_eq_true h
    omega
theorem bl_tr {n : Nat} {w : View} (hw : WF n w) {c : Nat} (hc : c < n) {x : Int} (hx : ab n w c = x) : ∀ i, i < n → bl n w (c : Int) i = true → bl n w x i = true := by
  have rn := hw.n
  refine tind hw (fun i hi ih => ?_)
  intro h
  rw [bl_eq hw _ hi] at h ⊢
  have rt := tp_rg (w := w) hi
  rcases ab_tp hw hi with ⟨h1, h2, h3⟩ | ⟨h1, h2, h3⟩
  · rw [if_neg (by omega)] at h ⊢
    rcases Bool.or_eq_true _ _ |>.mp h with z | z
    · have z := of_decide_eq_true z
      have e : (tp n w i).toNat = c := by omega
      have : bl n w x (tp n w i).toNat = true := by
        rw [e, bl_eq hw _ hc]
        split <;> simp [hx]
      rw [this, Bool.or_true]
    · rw [ih h1 z, Bool.or_true]
  · rw [if_pos (by omega)] at h
    have z := of_decide_eq_true h
    omega
theorem bl_self {n : Nat} {w : View} (hw : WF n w) {c : Nat} (hc : c < n) {x : Int} (hx : ab n w c = x) : bl n w x c = true := by
  rw [bl_eq hw _ hc]
  split <;> simp [hx]
/-- the node itself or below it -/
def bs (n : Nat) (w : View) (c j : Nat) : Prop := j = c ∨ bl n w (c : Int) j = true
theorem bs_uq {n : Nat} {w : View} (hw : WF n w) {c a : Nat} (hc : c < n) (ha : a < n) (hd : dp n w c = dp n w a) : ∀ j, j < n → bs n w c j → bs n w a j → a = c := by
  have rn := hw.n
  refine tind hw (fun j hj ih => ?_)
  intro h1 h2
  have rt := tp_rg (w := w) hj
  have up : ∀ b, b < n → bl n w (b : Int) j = true → 0 ≤ tp n w j ∧ bs n w b (tp n w j).toNat := fun b hb h => by
    rw [bl_eq hw _ hj] at h
    rcases ab_tp hw hj with ⟨g1, g2, g3⟩ | ⟨g1, g2, g3⟩
    · rw [if_neg (by omega)] at h
      refine ⟨g1, ?_⟩
      rcases Bool.or_eq_true _ _ |>.mp h with z | z
      · have z := of_decide_eq_true z
        exact Or.inl (by omega)
      · exact Or.inr z
    · rw [if_pos (by omega)] at h
      have z := of_decide_eq_true h
      omega
  rcases h1 with h1 | h1 <;> rcases h2 with h2 | h2
  · omega
  · have := bl_dp hw ha j hj h2
    rw [h1] at this
    omega
  · have := bl_dp hw hc j hj h1
    rw [h2] at this
    omega
  · exact ih (up c hc h1).1 (up c hc h1).2 (up a ha h2).2
theorem ab_dp {n : Nat} {w : View} (hw : WF n w) {c a : Nat} (hc : c < n) (ha : a < n) {x : Int} (h1 : ab n w c = x) (h2 : ab n w a = x) (hx : 0 ≤ x) : dp n w c = dp n w a := by
  have rn := hw.n
  rw [dp_eq hw hc, dp_eq hw ha]
  have r1 := tp_rg (w := w) hc
  have r2 := tp_rg (w := w) ha
  rcases ab_tp hw hc with ⟨a1, a2, a3⟩ | ⟨a1, a2, a3⟩ <;> rcases ab_tp hw ha with ⟨b1, b2, b3⟩ | ⟨b1, b2, b3⟩
  · rw [if_neg (by omega), if_neg (by omega), show tp n w c = tp n w a by omega]
  · omega
  · omega
  · rw [if_pos (by omega), if_pos (by omega)]
theorem cnt_lt {p q : Nat → Prop} [DecidablePred p] [DecidablePred q] {n : Nat} (h : ∀ i, i < n → p i → q i) {a : Nat} (ha : a < n) (hq : q a) (hp : ¬ p a) : cnt p n + 1 ≤ cnt q n := by
  rw [cnt_del (a := a) n ha hq]
  have le : ∀ m, m ≤ n → cnt p m ≤ cnt (fun i => q i ∧ i ≠ a) m := by
    intro m
    induction m with
    | zero => intro _; exact Int.le_refl _
    | succ m ih =>
      intro hm
      have := ih (by omega)
      rw [cnt_succ, cnt_succ]
      by_cases c : p m
      · rw [if_pos c, if_pos ⟨h m (by omega) c, fun e => hp (e ▸ c)⟩]; omega
      · rw [if_neg c]
        split <;> omega
  have := le n (Nat.le_refl _)
  omega
/-- forty-two steps are enough -/
theorem okw_of {n : Nat} {w : View} (hw : WF n w) : ∀ (d : Nat) (x f t : Int), 0 ≤ x → cnt (fun i => bl n w x i = true ∧ bgn n w i < t) n + 2 ≤ d → okw n w d x f t := by
  intro d
  induction d with
  | zero => intro x f t hx h; have := cnt_le (p := fun i => bl n w x i = true ∧ bgn n w i < t) (n := n); omega
  | succ d ih =>
    intro x f t hx h
    show f < t → lat n w x f t ≠ -1 → _
    intro hft hl
    rcases lat_cs n w x f t with e | ⟨c, e, hc, e1, e2⟩
    · exact absurd e hl
    rw [e, Int.toNat_natCast]
    have r1 := cb_rg (n := n) (w := w) (f := f) (i := c)
    have r2 := ce_rg (n := n) (w := w) (t := t) (i := c)
    have hb := bl_self hw hc e1
    refine ⟨ih _ _ _ (by omega) ?_, ?_⟩
    · have := cnt_lt (p := fun i => bl n w (c : Int) i = true ∧ bgn n w i < ce n w t c) (q := fun i => bl n w x i = true ∧ bgn n w i < t) (n := n) (fun i hi z => ⟨bl_tr hw hc e1 i hi z.1, by omega⟩) hc ⟨hb, by omega⟩ (fun z => by have := bl_dp hw hc c hc z.1; omega)
      omega
    · by_cases y : cb n w f c = f
      · rw [y]
        cases d with
        | zero => have := cnt_pos (p := fun i => bl n w x i = true ∧ bgn n w i < t) (n := n) hc ⟨hb, by omega⟩; omega
        | succ d => exact fun z => absurd z (by omega)
      · refine ih _ _ _ hx ?_
        have := cnt_lt (p := fun i => bl n w x i = true ∧ bgn n w i < cb n w f c) (q := fun i => bl n w x i = true ∧ bgn n w i < t) (n := n) (fun i hi z => ⟨z.1, by omega⟩) hc ⟨hb, by omega⟩ (fun z => by omega)
        omega
theorem en_of {n : Nat} {w : View} (hw : WF n w) : ∀ (d : Nat) (x f t : Int), 0 ≤ x → (∀ j, j ∈ en n w d x f t → j < n ∧ ∃ c, c < n ∧ ab n w c = x ∧ cb n w f c < ce n w t c ∧ bs n w c j) ∧ (en n w d x f t).Nodup := by
  intro d
  induction d with
  | zero => intro x f t hx; exact ⟨fun j hj => absurd hj List.not_mem_nil, List.nodup_nil⟩
  | succ d ih =>
    intro x f t hx
    have u : en n w (d + 1) x f t = if t ≤ f then [] else if lat n w x f t = -1 then [] else
      (lat n w x f t).toNat :: (en n w d (lat n w x f t) (cb n w f (lat n w x f t).toNat) (ce n w t (lat n w x f t).toNat) ++ en n w d x f (cb n w f (lat n w x f t).toNat)) := rfl
    rw [u]
    by_cases c1 : t ≤ f
    · rw [if_pos c1]; exact ⟨fun j hj => absurd hj List.not_mem_nil, List.nodup_nil⟩
    rw [if_neg c1]
    rcases lat_cs n w x f t with e | ⟨c, e, hc, e1, e2⟩
    · rw [if_pos e]; exact ⟨fun j hj => absurd hj List.not_mem_nil, List.nodup_nil⟩
    rw [e, if_neg (by omega), Int.toNat_natCast]
    have r1 := cb_rg (n := n) (w := w) (f := f) (i := c)
    obtain ⟨a1, a2⟩ := ih c (cb n w f c) (ce n w t c) (by omega)
    obtain ⟨b1, b2⟩ := ih x f (cb n w f c) hx
    have a3 : ∀ j, j ∈ en n w d c (cb n w f c) (ce n w t c) → j < n ∧ bl n w (c : Int) j = true := fun j hj => by
      obtain ⟨h1, c', h2, h3, h4, h5⟩ := a1 j hj
      refine ⟨h1, ?_⟩
      rcases h5 with h5 | h5
      · rw [h5]; exact bl_self hw h2 h3
      · exact bl_tr hw h2 h3 j h1 h5
    have b3 : ∀ j, j ∈ en n w d x f (cb n w f c) → j < n ∧ ∃ a, a < n ∧ ab n w a = x ∧ a ≠ c ∧ cb n w f a < ce n w t a ∧ bs n w a j := fun j hj => by
      obtain ⟨h1, a, h2, h3, h4, h5⟩ := b1 j hj
      refine ⟨h1, a, h2, h3, fun z => ?_, ?_, h5⟩
      · subst z
        have := ce_rg (n := n) (w := w) (t := cb n w f a) (i := a)
        omega
      · have r3 := ce_rg (n := n) (w := w) (t := cb n w f c) (i := a)
        have r4 := ce_rg (n := n) (w := w) (t := t) (i := a)
        have r5 := ce_rg (n := n) (w := w) (t := t) (i := c)
        omega
    have uq : ∀ a j, a < n → ab n w a = x → j < n → bs n w c j → bs n w a j → a = c := fun a j ha hax hj h1 h2 => bs_uq hw hc ha (ab_dp hw hc ha e1 hax hx) j hj h1 h2
    refine ⟨fun j hj => ?_, ?_⟩
    · rcases List.mem_cons.mp hj with z | z
      · exact ⟨by omega, c, hc, e1, e2, Or.inl z⟩
      · rcases List.mem_append.mp z with z | z
        · exact ⟨(a3 j z).1, c, hc, e1, e2, Or.inr (a3 j z).2⟩
        · obtain ⟨h1, a, h2, h3, h4, h5, h6⟩ := b3 j z
          exact ⟨h1, a, h2, h3, h5, h6⟩
    · refine List.nodup_cons.mpr ⟨fun z => ?_, List.nodup_append.mpr ⟨a2, b2, fun j h1 k h2 e => ?_⟩⟩
      · rcases List.mem_append.mp z with z | z
        · have := bl_dp hw hc c hc (a3 c z).2
          omega
        · obtain ⟨h1, a, h2, h3, h4, h5, h6⟩ := b3 c z
          exact h4 (uq a c h2 h3 hc (Or.inl rfl) h6)
      · subst e
        obtain ⟨g1, a, g2, g3, g4, g5, g6⟩ := b3 j h2
        exact g4 (uq a j g2 g3 g1 (Or.inr (a3 j h1).2) g6)
theorem en_len {n : Nat} {w : View} (hw : WF n w) (d : Nat) (x f t : Int) (hx : 0 ≤ x) : (en n w d x f t).length ≤ 40 := by
  obtain ⟨h1, h2⟩ := en_of hw d x f t hx
  have h3 := List.Nodup.length_le_of_subset h2 (l₂ := List.range n) (fun j hj => List.mem_range.mpr (h1 j hj).1)
  rw [List.length_range] at h3
  have := hw.n
  omega
theorem wk_len {n : Nat} {w : View} : ∀ (d : Nat) (x f t : Int), (wk n w d x f t).length ≤ 2 * (en n w d x f t).length + 1 := by
  intro d
  induction d with
  | zero => intro x f t; exact Nat.zero_le _
  | succ d ih =>
    intro x f t
    unfold wk en
    by_cases c1 : t ≤ f
    · rw [if_pos c1]; exact Nat.zero_le _
    rw [if_neg c1, if_neg c1]
    by_cases c2 : lat n w x f t = -1
    · rw [if_pos c2]; simp
    rw [if_neg c2, if_neg c2]
    have a := ih (lat n w x f t) (cb n w f (lat n w x f t).toNat) (ce n w t (lat n w x f t).toNat)
    have b := ih x f (cb n w f (lat n w x f t).toNat)
    rw [List.length_append, List.length_append, List.length_cons, List.length_append]
    split <;> simp <;> omega
theorem wk_82 {n : Nat} {w : View} (hw : WF n w) (d : Nat) (x f t : Int) (hx : 0 ≤ x) : (wk n w d x f t).length ≤ 81 := by
  have := wk_len (n := n) (w := w) d x f t
  have := en_len hw d x f t hx
  omega
