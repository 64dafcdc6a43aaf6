-- the calls that tell: what they do (op_), and that the class does it (c_)
def setT (S : GS) (s : St) : GS := (s, S.2)
def push (S : GS) : GS := (S.1, (S.1 :: S.2.1).take 8, S.2.2)
/-- one field of one span -/
def wput (w : View) (i c : Nat) (v : Int) : View := fun j => if j = i then (fun d => if d = c then v else w j d) else w j
abbrev TOq (b e : Int) : Prop := 0 ≤ b ∧ b < 10000 ∧ 0 ≤ e ∧ e < 10000 ∧ b ≤ e
def op_clear (S : GS) : OpR Int := ok ((0, S.1.2.1, []), [], S.2.2) (S.1.1)
def op_add (S : GS) (t id pa sv b e : Int) : OpR Int :=
  if 0 ≤ t ∧ t < 4 ∧ 0 ≤ id ∧ id < 100 ∧ -1 ≤ pa ∧ pa < 100 ∧ 0 ≤ sv ∧ sv < 8 ∧ TOq b e then
    (if S.1.1 = 40 ∨ (fnd S.1.1 S.1.2.1 id) ≠ -1 then thw S xIS 2 else ok (setT (push S) (sadd (S.1) (rw7 t id pa sv b e 0))) (S.1.1 + 1))
  else thw S xIA 1
def op_remove (S : GS) (z : Int) : OpR Int := if (fnd S.1.1 S.1.2.1 z) = -1 then thw S xIO 1 else ok (setT (push S) (S.1.1 - 1, wdel (S.1.2.1) ((fnd S.1.1 S.1.2.1 z)).toNat, (S.1.2.2).filter (fun p => decide (p.1 ≠ z ∧ p.2 ≠ z)))) ((S.1.1 : Int) - 1)
def op_setParent (S : GS) (z p : Int) : OpR Int := if (fnd S.1.1 S.1.2.1 z) = -1 then thw S xIO 1 else if -1 ≤ p ∧ p < 100 then ok (setT (push S) (S.1.1, wput (S.1.2.1) ((fnd S.1.1 S.1.2.1 z)).toNat 2 p, S.1.2.2)) (S.1.2.1 ((fnd S.1.1 S.1.2.1 z)).toNat 2) else thw S xIA 2
def op_setTimes (S : GS) (z b e : Int) : OpR Int := if (fnd S.1.1 S.1.2.1 z) = -1 then thw S xIO 1 else if TOq b e then ok (setT (push S) (S.1.1, wput (wput (S.1.2.1) ((fnd S.1.1 S.1.2.1 z)).toNat 4 b) ((fnd S.1.1 S.1.2.1 z)).toNat 5 e, S.1.2.2)) (S.1.2.1 ((fnd S.1.1 S.1.2.1 z)).toNat 5 - S.1.2.1 ((fnd S.1.1 S.1.2.1 z)).toNat 4) else thw S xIA 2
def op_mark (S : GS) (z f : Int) : OpR Int := if (fnd S.1.1 S.1.2.1 z) = -1 then thw S xIO 1 else ok (setT (push S) (S.1.1, wput (S.1.2.1) ((fnd S.1.1 S.1.2.1 z)).toNat 6 f, S.1.2.2)) (S.1.2.1 ((fnd S.1.1 S.1.2.1 z)).toNat 6)
def op_spanCount (S : GS) : OpR Int := ok S (S.1.1)
def op_span (S : GS) (z k : Int) : OpR Int := if (fnd S.1.1 S.1.2.1 z) = -1 then thw S xIO 1 else if 0 ≤ k ∧ k < 6 then ok S (if k = 5 then (fnd S.1.1 S.1.2.1 z) else S.1.2.1 ((fnd S.1.1 S.1.2.1 z)).toNat (1 + k).toNat) else thw S xIA 2
def op_link (S : GS) (a b : Int) : OpR Int := if (fnd S.1.1 S.1.2.1 a) = -1 ∨ (fnd S.1.1 S.1.2.1 b) = -1 then thw S xIO 1 else if a = b then thw S xIA 2 else if (S.1.2.2).length = 30 ∨ (∃ q, q < (S.1.2.2).length ∧ lf (S.1.2.2) q = a ∧ lt (S.1.2.2) q = b) then thw S xIS 3 else ok (setT (push S) (S.1.1, S.1.2.1, S.1.2.2 ++ [(a, b)])) (S.1.2.2).length
def op_unlink (S : GS) (q : Int) : OpR Int := if 0 ≤ q ∧ q < (S.1.2.2).length then ok (setT (push S) (S.1.1, S.1.2.1, (S.1.2.2).eraseIdx q.toNat)) (((S.1.2.2).length : Int) - 1) else thw S xIO 1
def op_linkCount (S : GS) : OpR Int := ok S (S.1.2.2).length
def op_undo (S : GS) : OpR Int := match S.2.1 with
  | [] => thw S xNE 1
  | s :: Hs => ok (s, Hs, S.2.2) Hs.length
def op_save (S : GS) : OpR Int := ok (S.1, S.2.1, some (S.1), S.2.2.2) (S.1.1)
def op_restore (S : GS) : OpR Int := match S.2.2.1 with
  | none => thw S xIS 1
  | some s => ok (s, [], S.2.2) s.1
-- the states stay in order
theorem wput_at {w : View} {i c j d : Nat} {v : Int} : wput w i c v j d = if j = i ∧ d = c then v else w j d := by
  unfold wput
  by_cases h : j = i
  · by_cases h2 : d = c <;> simp [h, h2]
  · simp [h]
theorem fnd_cg {n : Nat} {w w' : View} (h : ∀ i, i < n → w' i 0 = w i 0) (z : Int) : fnd n w' z = fnd n w z := by
  suffices H : ∀ d i, i + d ≤ n → fndF w' z d i = fndF w z d i from H n 0 (by omega)
  intro d
  induction d with
  | zero => intro i _; rfl
  | succ d ih =>
    intro i hi
    unfold fndF
    rw [h i (by omega), ih (i + 1) (by omega)]
theorem SOK.n {s : St} (h : SOK s) : s.1 ≤ 40 := h.1.1
theorem SOK.l {s : St} (h : SOK s) : s.2.2.length ≤ 30 := h.2.1.1
theorem SOK.wputK {s : St} (h : SOK s) {i c : Nat} {v : Int} (hc : c ≠ 0) (hr : i < s.1 → Rg (wput s.2.1 i c v) i ∧ wput s.2.1 i c v i 4 ≤ wput s.2.1 i c v i 5) : SOK (s.1, wput s.2.1 i c v, s.2.2) := by
  obtain ⟨⟨h1, h2, h3⟩, h4, h5⟩ := h
  have e0 : ∀ j, wput s.2.1 i c v j 0 = s.2.1 j 0 := fun j => by rw [wput_at, if_neg (fun z => hc z.2.symm)]
  refine ⟨⟨h1, fun j hj => ?_, fun j k hj hk e' => h3 j k hj hk ((e0 j).symm.trans (Eq.trans e' (e0 k)))⟩, h4, fun q hq => ?_⟩
  · by_cases e : j = i
    · subst e
      exact hr hj
    · have : ∀ d, wput s.2.1 i c v j d = s.2.1 j d := fun d => by rw [wput_at, if_neg (fun z => e z.1)]
      simp only [Rg, this]
      exact h2 j hj
  · dsimp only
    rw [fnd_cg (fun j _ => e0 j), fnd_cg (fun j _ => e0 j)]
    exact h5 q hq
theorem fnd_ne {n : Nat} {w : View} {z : Int} {i : Nat} (hi : i < n) (h : w i 0 = z) : fnd n w z ≠ -1 := fun c => fnd_none c i hi h
theorem SOK.saddK {s : St} (h : SOK s) {t id pa sv b e er : Int} (hn : s.1 < 40) (hf : fnd s.1 s.2.1 id = -1) (hr : 0 ≤ t ∧ t < 4 ∧ 0 ≤ id ∧ id < 100 ∧ -1 ≤ pa ∧ pa < 100 ∧ 0 ≤ sv ∧ sv < 8 ∧ TOq b e) (her : 0 ≤ er ∧ er ≤ 1) : SOK (sadd s (rw7 t id pa sv b e er)) := by
  obtain ⟨⟨h1, h2, h3⟩, h4, h5⟩ := h
  have ea : ∀ j, j < s.1 → (sadd s (rw7 t id pa sv b e er)).2.1 j = s.2.1 j := fun j hj => if_neg (by omega)
  have eb : (sadd s (rw7 t id pa sv b e er)).2.1 s.1 = rw7 t id pa sv b e er := if_pos rfl
  refine ⟨⟨by show s.1 + 1 ≤ 40; omega, fun j hj => ?_, fun j k hj hk e => ?_⟩, h4, fun q hq => ?_⟩
  · have hj : j < s.1 + 1 := hj
    rcases Nat.lt_or_ge j s.1 with y | y
    · simp only [Rg, ea j y]; exact h2 j y
    · rw [show j = s.1 by omega]
      simp only [Rg, eb, rw7]
      omega
  · have hj : j < s.1 + 1 := hj
    have hk : k < s.1 + 1 := hk
    rcases Nat.lt_or_ge j s.1 with y | y <;> rcases Nat.lt_or_ge k s.1 with z | z
    · rw [ea j y, ea k z] at e; exact h3 j k y z e
    · rw [ea j y, show k = s.1 by omega, eb] at e
      exact absurd e (fnd_none hf j y)
    · rw [ea k z, show j = s.1 by omega, eb] at e
      exact absurd e.symm (fnd_none hf k z)
    · omega
  · have := h5 q hq
    have g : ∀ x, fnd s.1 s.2.1 x ≠ -1 → fnd (s.1 + 1) (sadd s (rw7 t id pa sv b e er)).2.1 x ≠ -1 := fun x hx => by
      have y := fnd_some hx
      refine fnd_ne (i := (fnd s.1 s.2.1 x).toNat) (by omega) ?_
      rw [ea _ (by omega)]
      exact y.2.2
    exact ⟨g _ this.1, g _ this.2⟩
theorem filter_get {l : Lk} {p : Int × Int → Bool} {q : Nat} (hq : q < (l.filter p).length) : (∃ r, r < l.length ∧ lf (l.filter p) q = lf l r ∧ lt (l.filter p) q = lt l r) ∧ p (lf (l.filter p) q, lt (l.filter p) q) = true := by
  have hm : (l.filter p)[q] ∈ l.filter p := List.getElem_mem hq
  have e : (lf (l.filter p) q, lt (l.filter p) q) = (l.filter p)[q] := by simp [lf, lt, List.getD, hq]
  obtain ⟨h1, h2⟩ := List.mem_filter.mp hm
  obtain ⟨r, hr, hr2⟩ := List.getElem_of_mem h1
  refine ⟨⟨r, hr, ?_, ?_⟩, by rw [e]; exact h2⟩
  · simp [lf, List.getD, hq, hr, hr2]
  · simp [lt, List.getD, hq, hr, hr2]
theorem SOK.sdelK {s : St} (h : SOK s) {i : Nat} (hi : i < s.1) {z : Int} (hz : s.2.1 i 0 = z) : SOK (s.1 - 1, wdel s.2.1 i, s.2.2.filter (fun p => decide (p.1 ≠ z ∧ p.2 ≠ z))) := by
  obtain ⟨⟨h1, h2, h3⟩, ⟨h4, h4'⟩, h5⟩ := h
  have ed : ∀ j, ∃ j', (wdel s.2.1 i j = s.2.1 j' ∧ (j < s.1 - 1 → j' < s.1 ∧ j' ≠ i) ∧ (j < i ∧ j' = j ∨ i ≤ j ∧ j' = j + 1)) := fun j => by
    unfold wdel
    by_cases y : j < i
    · exact ⟨j, if_pos y, fun _ => by omega, Or.inl ⟨y, rfl⟩⟩
    · exact ⟨j + 1, if_neg y, fun _ => by omega, Or.inr ⟨by omega, rfl⟩⟩
  refine ⟨⟨by show s.1 - 1 ≤ 40; omega, fun j hj => ?_, fun j k hj hk e => ?_⟩, ⟨Nat.le_trans (List.length_filter_le _ _) h4, fun q hq => ?_⟩, fun q hq => ?_⟩
  · have hj : j < s.1 - 1 := hj
    obtain ⟨j', e, e2, -⟩ := ed j
    simp only [Rg, e]
    exact h2 j' (e2 hj).1
  · have hj : j < s.1 - 1 := hj
    have hk : k < s.1 - 1 := hk
    obtain ⟨j', a1, a2, a3⟩ := ed j
    obtain ⟨k', b1, b2, b3⟩ := ed k
    have e : wdel s.2.1 i j 0 = wdel s.2.1 i k 0 := e
    rw [a1, b1] at e
    have := h3 j' k' (a2 hj).1 (b2 hk).1 e
    omega
  · obtain ⟨⟨r, hr, r1, r2⟩, -⟩ := filter_get hq
    rw [r1, r2]
    exact h4' r hr
  · obtain ⟨⟨r, hr, r1, r2⟩, hp⟩ := filter_get hq
    have hp := of_decide_eq_true hp
    have := h5 r hr
    have g : ∀ x, fnd s.1 s.2.1 x ≠ -1 → x ≠ z → fnd (s.1 - 1) (wdel s.2.1 i) x ≠ -1 := fun x hx hne => by
      have y := fnd_some hx
      have ne : (fnd s.1 s.2.1 x).toNat ≠ i := fun c => hne (by rw [← y.2.2, c, hz])
      rcases Nat.lt_or_ge (fnd s.1 s.2.1 x).toNat i with c | c
      · refine fnd_ne (i := (fnd s.1 s.2.1 x).toNat) (by omega) ?_
        unfold wdel
        rw [if_pos c]
        exact y.2.2
      · refine fnd_ne (i := (fnd s.1 s.2.1 x).toNat - 1) (by omega) ?_
        unfold wdel
        rw [if_neg (by omega), show (fnd s.1 s.2.1 x).toNat - 1 + 1 = (fnd s.1 s.2.1 x).toNat by omega]
        exact y.2.2
    dsimp only at hp ⊢
    rw [r1] at hp ⊢
    rw [r2] at hp ⊢
    exact ⟨g _ this.1 hp.1, g _ this.2 hp.2⟩
theorem SOK.linksK {s : St} (h : SOK s) {l : Lk} (h30 : l.length ≤ 30) (hm : ∀ q, q < l.length → fnd s.1 s.2.1 (lf l q) ≠ -1 ∧ fnd s.1 s.2.1 (lt l q) ≠ -1) : SOK (s.1, s.2.1, l) := by
  refine ⟨h.1, ⟨h30, fun q hq => ?_⟩, hm⟩
  have := hm q hq
  have a := fnd_some this.1
  have b := fnd_some this.2
  have ra := h.1.r (fnd s.1 s.2.1 (lf l q)).toNat (by omega)
  have rb := h.1.r (fnd s.1 s.2.1 (lt l q)).toNat (by omega)
  show 0 ≤ lf l q ∧ lf l q < 100 ∧ 0 ≤ lt l q ∧ lt l q < 100
  omega
theorem GOK.setTK {S : GS} (g : GOK S) {s : St} (h : SOK s) : GOK (setT S s) := ⟨h, g.2⟩
theorem hd_take {s : St} {Hs : List St} {j : Nat} (hj : j < ((s :: Hs).take 8).length) : (j = 0 ∧ hd ((s :: Hs).take 8) j = s) ∨ (0 < j ∧ j - 1 < Hs.length ∧ hd ((s :: Hs).take 8) j = hd Hs (j - 1)) := by
  rw [List.length_take, List.length_cons] at hj
  cases j with
  | zero => exact Or.inl ⟨rfl, rfl⟩
  | succ j =>
    refine Or.inr ⟨by omega, by omega, ?_⟩
    simp only [hd, List.getD]
    rw [List.getElem?_take_of_lt (by omega), List.getElem?_cons_succ]
    rfl
theorem GOK.pushK {S : GS} (g : GOK S) : GOK (push S) := by
  refine ⟨g.1, by show ((S.1 :: S.2.1).take 8).length ≤ 8; rw [List.length_take]; omega, fun j hj => ?_, g.2.2.2⟩
  rcases hd_take (s := S.1) (Hs := S.2.1) hj with ⟨-, e⟩ | ⟨-, h2, e⟩
  · rw [show hd ((push S).2.1) j = S.1 from e]; exact g.1
  · rw [show hd ((push S).2.1) j = hd (S.2.1) (j - 1) from e]; exact g.2.2.1 _ h2
theorem g_clear {S : GS} (g : GOK S) : GOK (op_clear S).1 := ⟨⟨⟨Nat.zero_le _, fun i hi => absurd hi (Nat.not_lt_zero _), fun i j hi => absurd hi (Nat.not_lt_zero _)⟩, ⟨Nat.zero_le _, fun q hq => absurd hq (Nat.not_lt_zero _)⟩, fun q hq => absurd hq (Nat.not_lt_zero _)⟩, Nat.zero_le _, fun j hj => absurd hj (Nat.not_lt_zero _), g.2.2.2⟩
theorem g_add {S : GS} (g : GOK S) {t id pa sv b e : Int} : GOK (op_add S t id pa sv b e).1 := by
  unfold op_add
  split
  · rename_i h
    split
    · exact g
    · rename_i h2
      exact g.pushK.setTK (g.1.saddK (by have := g.1.n; omega) (by omega) h (by omega))
  · exact g
theorem fd_at {S : GS} {z : Int} (h : ¬ (fnd S.1.1 S.1.2.1 z) = -1) : ((fnd S.1.1 S.1.2.1 z)).toNat < S.1.1 ∧ S.1.2.1 ((fnd S.1.1 S.1.2.1 z)).toNat 0 = z := by
  have := fnd_some h
  exact ⟨by omega, this.2.2⟩
theorem g_remove {S : GS} (g : GOK S) {z : Int} : GOK (op_remove S z).1 := by
  unfold op_remove
  split
  · exact g
  · rename_i h
    exact g.pushK.setTK (g.1.sdelK (fd_at h).1 (fd_at h).2)
theorem g_setParent {S : GS} (g : GOK S) {z p : Int} : GOK (op_setParent S z p).1 := by
  unfold op_setParent
  split
  · exact g
  · split
    · rename_i h hp
      refine g.pushK.setTK (g.1.wputK (by omega) (fun hi => ?_))
      have r := g.w.r _ hi
      simp only [Rg, wput_at] at r ⊢
      simp only [true_and, if_pos, Nat.reduceEqDiff, if_false, reduceCtorEq]
      omega
    · exact g
theorem g_setTimes {S : GS} (g : GOK S) {z b e : Int} : GOK (op_setTimes S z b e).1 := by
  unfold op_setTimes
  split
  · exact g
  · split
    · rename_i h hp
      have hi := (fd_at h).1
      have r := g.w.r _ hi
      have k1 : SOK (S.1.1, wput (wput (S.1.2.1) ((fnd S.1.1 S.1.2.1 z)).toNat 4 b) ((fnd S.1.1 S.1.2.1 z)).toNat 5 e, S.1.2.2) := by
        obtain ⟨⟨h1, h2, h3⟩, h4, h5⟩ := g.1
        have e0 : ∀ j, wput (wput (S.1.2.1) ((fnd S.1.1 S.1.2.1 z)).toNat 4 b) ((fnd S.1.1 S.1.2.1 z)).toNat 5 e j 0 = S.1.2.1 j 0 := fun j => by rw [wput_at, if_neg (by omega), wput_at, if_neg (by omega)]
        refine ⟨⟨h1, fun j hj => ?_, fun j k hj hk e' => h3 j k hj hk ((e0 j).symm.trans (Eq.trans e' (e0 k)))⟩, h4, fun q hq => ?_⟩
        · have rj := h2 j hj
          by_cases y : j = ((fnd S.1.1 S.1.2.1 z)).toNat
          · subst y
            simp only [Rg, wput_at] at r ⊢
            simp only [true_and, if_pos, Nat.reduceEqDiff, if_false, reduceCtorEq]
            omega
          · have : ∀ d, wput (wput (S.1.2.1) ((fnd S.1.1 S.1.2.1 z)).toNat 4 b) ((fnd S.1.1 S.1.2.1 z)).toNat 5 e j d = S.1.2.1 j d := fun d => by rw [wput_at, if_neg (fun z => y z.1), wput_at, if_neg (fun z => y z.1)]
            simp only [Rg, this]
            exact rj
        · dsimp only
          rw [fnd_cg (fun j _ => e0 j), fnd_cg (fun j _ => e0 j)]
          exact h5 q hq
      exact g.pushK.setTK k1
    · exact g
theorem g_mark {S : GS} (g : GOK S) {z f : Int} (hf : 0 ≤ f ∧ f ≤ 1) : GOK (op_mark S z f).1 := by
  unfold op_mark
  split
  · exact g
  · rename_i h
    refine g.pushK.setTK (g.1.wputK (by omega) (fun hi => ?_))
    have r := g.w.r _ hi
    simp only [Rg, wput_at] at r ⊢
    simp only [true_and, if_pos, Nat.reduceEqDiff, if_false, reduceCtorEq]
    omega
theorem g_link {S : GS} (g : GOK S) {a b : Int} : GOK (op_link S a b).1 := by
  unfold op_link
  split
  · exact g
  · rename_i h1
    split
    · exact g
    · split
      · exact g
      · rename_i h3
        have := g.1.l
        refine g.pushK.setTK (g.1.linksK ?_ (fun q hq => ?_))
        · rw [List.length_append, List.length_singleton]
          have : (S.1.2.2).length ≠ 30 := fun c => h3 (Or.inl c)
          omega
        · rw [List.length_append, List.length_singleton] at hq
          by_cases y : q = (S.1.2.2).length
          · rw [y, lf_last, lt_last]
            exact ⟨fun c => h1 (Or.inl c), fun c => h1 (Or.inr c)⟩
          · rw [lf_app (by omega), lt_app (by omega)]
            exact g.1.2.2 q (by omega)
theorem g_unlink {S : GS} (g : GOK S) {q : Int} : GOK (op_unlink S q).1 := by
  unfold op_unlink
  split
  · rename_i h
    have := g.1.l
    refine g.pushK.setTK (g.1.linksK ?_ (fun r hr => ?_))
    · exact Nat.le_trans (List.length_eraseIdx_le _ _) this
    · rw [List.length_eraseIdx_of_lt (by omega)] at hr
      rw [eraseIdx_lf, eraseIdx_lt]
      split
      · exact g.1.2.2 r (by omega)
      · exact g.1.2.2 (r + 1) (by omega)
  · exact g
theorem g_undo {S : GS} (g : GOK S) : GOK (op_undo S).1 := by
  obtain ⟨t, hs, r⟩ := S
  cases hs with
  | nil => exact g
  | cons s Hs =>
    obtain ⟨g1, g2, g3, g4⟩ := g
    refine ⟨g3 0 (Nat.zero_lt_succ _), Nat.le_of_succ_le g2, fun j hj => ?_, g4⟩
    have := g3 (j + 1) (Nat.succ_lt_succ hj)
    show SOK (hd Hs j)
    simpa [hd, List.getD] using this
theorem g_save {S : GS} (g : GOK S) : GOK (op_save S).1 := ⟨g.1, g.2.1, g.2.2.1, fun s h => by cases h; exact g.1, g.2.2.2.2⟩
theorem g_restore {S : GS} (g : GOK S) : GOK (op_restore S).1 := by
  obtain ⟨t, hs, v, r⟩ := S
  cases v with
  | none => exact g
  | some s => exact ⟨g.2.2.2.1 s rfl, Nat.zero_le _, fun j hj => absurd hj (Nat.not_lt_zero _), g.2.2.2⟩
