-- the spans of a text are added
abbrev okr (s : St) (r : Row) : Prop := r 4 ≤ r 5 ∧ s.1 < 40 ∧ fnd s.1 s.2.1 (r 0) = -1
def adl : St → List Row → Option St
  | s, [] => some s
  | s, r :: rs => if okr s r then adl (sadd s r) rs else none
def sapp : St → List Row → St
  | s, [] => s
  | s, r :: rs => sapp (sadd s r) rs
def CAN (s : St) (a : List Row) : Prop := s.1 + a.length ≤ 40 ∧ (∀ i, i < a.length → rwg a i 4 ≤ rwg a i 5 ∧ fnd s.1 s.2.1 (rwg a i 0) = -1) ∧ ∀ i j, i < j → j < a.length → rwg a i 0 ≠ rwg a j 0
theorem fnd_sadd {s : St} {r : Row} {x : Int} : fnd (sadd s r).1 (sadd s r).2.1 x = -1 ↔ fnd s.1 s.2.1 x = -1 ∧ r 0 ≠ x := by
  have ea : ∀ j, j < s.1 → (sadd s r).2.1 j = s.2.1 j := fun j hj => if_neg (by omega)
  have eb : (sadd s r).2.1 s.1 = r := if_pos rfl
  constructor
  · intro h
    refine ⟨?_, fun e => ?_⟩
    · by_cases c : fnd s.1 s.2.1 x = -1
      · exact c
      · have y := fnd_some c
        have := fnd_none h (fnd s.1 s.2.1 x).toNat (by show _ < s.1 + 1; omega)
        rw [ea _ (by omega)] at this
        exact absurd y.2.2 this
    · have := fnd_none h s.1 (by show _ < s.1 + 1; omega)
      rw [eb] at this
      exact this e
  · rintro ⟨h1, h2⟩
    by_cases c : fnd (sadd s r).1 (sadd s r).2.1 x = -1
    · exact c
    · have y := fnd_some c
      have y2 : fnd (sadd s r).1 (sadd s r).2.1 x < ((s.1 + 1 : Nat) : Int) := y.2.1
      generalize hk : (fnd (sadd s r).1 (sadd s r).2.1 x).toNat = k at y
      by_cases e : k = s.1
      · rw [e, eb] at y; exact absurd y.2.2 h2
      · rw [ea _ (by omega)] at y; exact absurd y.2.2 (fnd_none h1 k (by omega))
theorem CAN_cons {s : St} {r : Row} {rs : List Row} : CAN s (r :: rs) ↔ okr s r ∧ CAN (sadd s r) rs := by
  constructor
  · rintro ⟨h1, h2, h3⟩
    have h1 : s.1 + (rs.length + 1) ≤ 40 := h1
    have z := h2 0 (Nat.succ_pos _)
    refine ⟨⟨z.1, by omega, z.2⟩, by show s.1 + 1 + rs.length ≤ 40; omega, fun i hi => ?_, fun i j hij hj => h3 (i + 1) (j + 1) (by omega) (by show j + 1 < rs.length + 1; omega)⟩
    have a := h2 (i + 1) (by show i + 1 < rs.length + 1; omega)
    exact ⟨a.1, fnd_sadd.mpr ⟨a.2, h3 0 (i + 1) (by omega) (by show i + 1 < rs.length + 1; omega)⟩⟩
  · rintro ⟨⟨z1, z2, z3⟩, h1, h2, h3⟩
    have h1 : s.1 + 1 + rs.length ≤ 40 := h1
    refine ⟨by show s.1 + (rs.length + 1) ≤ 40; omega, fun i hi => ?_, fun i j hij hj => ?_⟩
    · cases i with
      | zero => exact ⟨z1, z3⟩
      | succ i =>
        have hi : i + 1 < rs.length + 1 := hi
        have a := h2 i (by omega)
        exact ⟨a.1, (fnd_sadd.mp a.2).1⟩
    · have hj : j < rs.length + 1 := hj
      cases j with
      | zero => omega
      | succ j =>
        cases i with
        | zero => exact (fnd_sadd.mp (h2 j (by omega)).2).2
        | succ i => exact h3 i j (by omega) (by omega)
theorem adl_can : ∀ (a : List Row) (s : St), s.1 ≤ 40 → (CAN s a → adl s a = some (sapp s a)) ∧ (¬ CAN s a → adl s a = none) := by
  intro a
  induction a with
  | nil => intro s hs; exact ⟨fun _ => rfl, fun z => absurd ⟨hs, fun i hi => absurd hi (Nat.not_lt_zero _), fun i j _ hj => absurd hj (Nat.not_lt_zero _)⟩ z⟩
  | cons r rs ih =>
    intro s hs
    rw [CAN_cons]
    show (_ → (if okr s r then adl (sadd s r) rs else none) = _) ∧ (_ → (if okr s r then adl (sadd s r) rs else none) = none)
    by_cases c : okr s r
    · rw [if_pos c]
      have i2 := ih (sadd s r) (by show s.1 + 1 ≤ 40; have := c.2.1; omega)
      exact ⟨fun z => i2.1 z.2, fun z => i2.2 (fun y => z ⟨c, y⟩)⟩
    · rw [if_neg c]
      exact ⟨fun z => absurd z.1 c, fun _ => rfl⟩
theorem SOK.sappK : ∀ (a : List Row) (s : St), SOK s → CAN s a → (∀ r ∈ a, RwOK r) → SOK (sapp s a) := by
  intro a
  induction a with
  | nil => intro s h _ _; exact h
  | cons r rs ih =>
    intro s h hc hr
    obtain ⟨c1, c2⟩ := CAN_cons.mp hc
    obtain ⟨a1, a2, a3, a4, a5, a6, a7, a8, a9, a10, a11, a12, a13, a14, a15⟩ := hr r (List.mem_cons_self ..)
    refine ih (sadd s r) ?_ c2 (fun r' hr' => hr r' (List.mem_cons_of_mem _ hr'))
    rw [a15]
    exact h.saddK c1.2.1 c1.2.2 ⟨a1, a2, a3, a4, a5, a6, a7, a8, by unfold TOq; have := c1.1; omega⟩ ⟨a13, a14⟩
def op_read (S : GS) : OpR Int := if (prs (S.2.2.2.2.1) 80 0).1.1 = true then (match adl (S.1) (prs (S.2.2.2.2.1) 80 0).2 with
  | some s => ok (setT (push (setI S [] (S.2.2.2.2.2))) s) (prs (S.2.2.2.2.1) 80 0).2.length
  | none => thw (setI S [] (S.2.2.2.2.2)) xIS 2) else thw (setI S [] (prs (S.2.2.2.2.1) 80 0).1.2) xIA 1
theorem GOK.ch {S : GS} (g : GOK S) : CH (S.2.2.2.2.1) := ⟨g.2.2.2.2.2.1, g.2.2.2.2.2.2.1⟩
theorem GOK.setIK {S : GS} (g : GOK S) {e : Int} (he : -1 ≤ e ∧ e ≤ 80) : GOK (setI S [] e) := by
  obtain ⟨a1, a2, a3, a4, a5, a6, a7, a8⟩ := g
  exact ⟨a1, a2, a3, a4, a5, Nat.zero_le _, fun q hq => absurd hq (Nat.not_lt_zero _), he⟩
theorem can_dec {s : St} (hs : s.1 ≤ 40) (a : List Row) : CAN s a ∨ ¬ CAN s a := Classical.em _
theorem g_read {S : GS} (g : GOK S) : GOK (op_read S).1 := by
  have r := prs_rg (l := S.2.2.2.2.1) 80 0 (Nat.zero_le _)
  have rl := g.ch.1
  unfold op_read
  by_cases c : (prs (S.2.2.2.2.1) 80 0).1.1 = true
  · rw [if_pos c]
    have ac := adl_can (prs (S.2.2.2.2.1) 80 0).2 (S.1) g.1.n
    rcases can_dec g.1.n (prs (S.2.2.2.2.1) 80 0).2 with d | d
    · rw [ac.1 d]
      have gi2 : GOK (setI S [] (S.2.2.2.2.2)) := g.setIK g.2.2.2.2.2.2.2
      exact gi2.pushK.setTK (SOK.sappK _ _ g.1 d r.2.1)
    · rw [ac.2 d]
      exact g.setIK g.2.2.2.2.2.2.2
  · rw [if_neg c]
    exact g.setIK (by omega)
