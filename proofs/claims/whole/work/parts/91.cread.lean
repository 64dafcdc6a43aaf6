-- the class reads its input
def prs (l : List Int) : Nat → Nat → FS × List Row
  | 0, p => ((false, p), [])
  | d + 1, p => if (fE l p).1.1 = true then (if (fE l p).1.2 < l.length then ((prs l d (fE l p).1.2).1, (fE l p).2 :: (prs l d (fE l p).1.2).2) else ((fE l p).1, [(fE l p).2])) else ((fE l p).1, [])
theorem prs_succ (l : List Int) (d p : Nat) : prs l (d + 1) p = if (fE l p).1.1 = true then (if (fE l p).1.2 < l.length then ((prs l d (fE l p).1.2).1, (fE l p).2 :: (prs l d (fE l p).1.2).2) else ((fE l p).1, [(fE l p).2])) else ((fE l p).1, []) := rfl
abbrev rwg (a : List Row) (i : Nat) : Row := a.getD i (fun _ => 0)
theorem rwg_app (a : List Row) (r : Row) (i : Nat) : rwg (a ++ [r]) i = if i = a.length then r else rwg a i := by
  unfold rwg
  simp only [List.getD_eq_getElem?_getD]
  by_cases c : i < a.length
  · rw [List.getElem?_append_left c, if_neg (by omega)]
  · by_cases d : i = a.length
    · rw [if_pos d, d]; simp
    · rw [if_neg d, List.getElem?_eq_none (by simp; omega), List.getElem?_eq_none (by omega)]
theorem prs_rg {l : List Int} : ∀ d p, p ≤ l.length → (prs l d p).1.2 ≤ l.length ∧ (∀ r ∈ (prs l d p).2, RwOK r) ∧ 2 * (prs l d p).2.length ≤ l.length - p := by
  intro d
  induction d with
  | zero => intro p hp; exact ⟨hp, fun r hr => absurd hr List.not_mem_nil, Nat.zero_le _⟩
  | succ d ih =>
    intro p hp
    have f := fE_rg hp
    rw [prs_succ]
    by_cases c : (fE l p).1.1 = true
    · rw [if_pos c]
      have f2 := f.2.2.1 c
      by_cases c2 : (fE l p).1.2 < l.length
      · rw [if_pos c2]
        have a := ih (fE l p).1.2 f.1
        refine ⟨a.1, fun r hr => ?_, ?_⟩
        · rcases List.mem_cons.mp hr with z | z
          · rw [z]; exact f.2.2.2
          · exact a.2.1 r z
        · have := a.2.2
          show 2 * ((prs l d (fE l p).1.2).2.length + 1) ≤ _
          omega
      · rw [if_neg c2]
        refine ⟨f.1, fun r hr => ?_, ?_⟩
        · rw [List.mem_singleton.mp hr]; exact f.2.2.2
        · show 2 * 1 ≤ _
          omega
    · rw [if_neg c]
      exact ⟨f.1, fun r hr => absurd hr List.not_mem_nil, Nat.zero_le _⟩
theorem CB.frD {S : GS} {μ μ' : Mem} (h : CB S μ) (f : FrS 2 μ μ') : CB S μ' := by
  obtain ⟨h1, h2, h3, h4, h5, h6⟩ := h
  refine ⟨h1.fr f (by omega), ?_, ?_, fun k p hk hp => ?_, ⟨(f _ _ _ (by omega)).trans h5.1, fun q hq => (f _ _ _ (by omega)).trans (h5.2 q hq)⟩, (f _ _ _ (by omega)).trans h6⟩
  · obtain ⟨nx, a1, a2, a3, a4, a5⟩ := h2
    exact ⟨nx, a1, a2, (f _ _ _ (by omega)).trans a3, (f _ _ _ (by omega)).trans a4, fun j hj => (a5 j hj).fr f (by omega)⟩
  · obtain ⟨t, hh, v, r⟩ := S
    cases v with
    | none => exact (f _ _ _ (by omega)).trans h3
    | some s => exact ⟨(f _ _ _ (by omega)).trans h3.1, h3.2.fr f (by omega)⟩
  · have := h4 k p hk hp
    exact ⟨(f _ _ _ (by omega)).trans this.1, fun z => (f _ _ _ (by omega)).trans (this.2 z)⟩
theorem FrD.frC {μ μ' : Mem} (h : FrD μ μ') : FrC μ μ' := fun j hj => by
  funext k i
  exact h j k i (by omega) (by omega)
theorem FV.q {μ μ' : Mem} {n : Nat} {w : View} (h : FV μ n w) (b : ∀ j, 640 ≤ j → j < 1728 → μ' j = μ j) : FV μ' n w := by
  obtain ⟨a, c, d, e⟩ := h
  refine ⟨fun i hi => ?_, fun i hi => ?_, fun i hi => ?_, ?_⟩
  · rw [b _ (by omega) (by omega), b _ (by omega) (by omega), b _ (by omega) (by omega)]; exact a i hi
  · rw [b _ (by omega) (by omega), b _ (by omega) (by omega), b _ (by omega) (by omega)]; exact c i hi
  · rw [b _ (by omega) (by omega)]; exact d i hi
  · rw [b _ (by omega) (by omega)]; exact e
theorem CI.frD {S : GS} {μ μ' : Mem} (h : CI S μ) (f : FrD μ μ') : CI S μ' := by
  have q : ∀ j, 640 ≤ j → j ≠ 2434 → μ' j = μ j := fun j h1 h2 => by
    funext k i
    exact f j k i (by omega) h2
  have f1 : FrS 2 μ (fun j k i => if j < 640 ∧ k = 2 then μ' j k i else μ j k i) := fun j k i z => if_neg z
  have b : Bt [2434] (fun j k i => if j < 640 ∧ k = 2 then μ' j k i else μ j k i) μ' := fun j hj => by
    funext k i
    by_cases c : j < 640 ∧ k = 2
    · exact (if_pos c).symm
    · exact (f j k i c (by simpa using hj)).trans (if_neg c).symm
  refine ⟨(h.1.frD f1).bt b (by decide), ?_⟩
  rcases h.2 with hw | ⟨w1, w2, w3⟩
  · exact Or.inl (by show μ' 2573 0 0 = _; rw [q 2573 (by decide) (by decide)]; exact hw)
  · exact Or.inr ⟨by show μ' 2573 0 0 = _; rw [q 2573 (by decide) (by decide)]; exact w1, w2.ev (q _ (by decide) (by decide)) (q _ (by decide) (by decide)) (q _ (by decide) (by decide)), w3.q (fun j h1 h2 => q j h1 (by omega))⟩
theorem c_parse_spec {l : List Int} {μ : Mem} (e1 : μ 2433 0 0 = J l.length) (e2 : ∀ q, q < l.length → μ 2496 0 q = J (gl l q)) (hc : CH l) {P : Int32 → Mem → Prop} (h0 : (prs l 80 0).1.1 = false → ∀ μ', FrD μ μ' → PI l (prs l 80 0).1.2 μ' → P 0 μ') (h1 : (prs l 80 0).1.1 = true → ∀ μ' w, FrD μ μ' → PI l (prs l 80 0).1.2 μ' → SV μ' 2 (prs l 80 0).2.length w → (∀ i, i < (prs l 80 0).2.length → w i = rwg (prs l 80 0).2 i) → P 1 μ') : w4_parse_wp μ 2 P := by
  unfold w4_parse_wp
  rintro μ1 rfl μ2 rfl μ3 rfl
  have rl := hc.1
  have f0 : FrD μ (up (up (up μ 1 2 0 0) 2 2 0 0) 2434 0 0 0) := ((FrD.s (FrS.up (by omega))).tr (FrD.s (FrS.up (by omega)))).tr (FrD.b (Bt.up (by decide)))
  have p0 : PI l 0 (up (up (up μ 1 2 0 0) 2 2 0 0) 2434 0 0 0) := by
    refine ⟨?_, fun q hq => ?_, up_self⟩
    · rw [f0 _ _ _ (by omega) (by omega)]; exact e1
    · rw [f0 _ _ _ (by omega) (by omega)]; exact e2 q hq
  have v0 : SV (up (up (up μ 1 2 0 0) 2 2 0 0) 2434 0 0 0) 2 0 (fun _ _ => 0) := ⟨by simp [up_at]; rfl, fun i hi => absurd hi (Nat.not_lt_zero _)⟩
  generalize up (up (up μ 1 2 0 0) 2 2 0 0) 2434 0 0 0 = μ3 at *
  clear e1 e2
  intro R hR
  suffices H : ∀ (d i p : Nat) (a : List Row) (μ' : Mem) (w : View), i + d = 80 → p ≤ l.length → 2 * a.length ≤ p → (p = 0 ∨ p < l.length) → FrD μ μ' → PI l p μ' → SV μ' 2 a.length w → (∀ i, i < a.length → w i = rwg a i) → prs l 80 0 = ((prs l d p).1, a ++ (prs l d p).2) → R μ' (J i) from H 80 0 0 [] μ3 _ rfl (Nat.zero_le _) (Nat.zero_le _) (Or.inl rfl) f0 p0 v0 (fun i hi => absurd hi (Nat.not_lt_zero _)) (by rw [List.nil_append])
  intro d
  induction d with
  | zero =>
    intro i p a μ' w hi hp ha hpl f pi hv hw e
    have e9 : i = 80 := by omega
    subst e9
    apply hR
    unfold w4_parse_b11_body
    rw [show (80 : Int32) = J ((80 : Nat) : Int) from rfl, J_le (by omega) (by omega)]
    refine ⟨fun _ => ?_, fun z => absurd (Int.le_refl _) z⟩
    refine h0 (by rw [e]; rfl) μ' f ?_
    rw [e]
    exact pi
  | succ d ih =>
    intro i p a μ' w hi hp ha hpl f pi hv hw e
    have fr := fE_rg hp
    rw [prs_succ l d p] at e
    apply hR
    unfold w4_parse_b11_body
    rw [show (80 : Int32) = J ((80 : Nat) : Int) from rfl, J_le (by omega) (by omega)]
    refine ⟨fun z => by omega, fun _ => ?_⟩
    refine c_parseEntry_spec pi hc hp hv (by omega) ⟨fun c μ2 f2 v2 p2 => ⟨fun z => absurd rfl z, fun _ => ?_⟩, fun c μ2 f2 v2 p2 => ⟨fun _ => ?_, fun z => absurd z (by decide)⟩⟩
    · rw [if_neg (by rw [c]; decide)] at e
      refine h0 (by rw [e]; exact c) μ2 (f.tr f2) ?_
      rw [e]
      exact p2
    · rw [if_pos c] at e
      have fp := fr.2.2.1 c
      have wa : ∀ j, j < (a ++ [(fE l p).2]).length → wset w a.length (fE l p).2 j = rwg (a ++ [(fE l p).2]) j := fun j hj => by
        rw [rwg_app]
        unfold wset
        by_cases y : j = a.length
        · rw [if_pos y, if_pos y]
        · rw [if_neg y, if_neg y]
          rw [List.length_append] at hj
          have hj : j < a.length + 1 := hj
          exact hw j (by omega)
      have la : (a ++ [(fE l p).2]).length = a.length + 1 := by rw [List.length_append]; rfl
      rw [p2.1, p2.2.2, J_lt (by omega) (by omega)]
      refine ⟨fun c2 => ?_, fun c2 => ?_⟩
      · rw [if_pos (by omega)] at e
        have := ih (i + 1) (fE l p).1.2 (a ++ [(fE l p).2]) μ2 (wset w a.length (fE l p).2) (by omega) fr.1 (by rw [la]; omega) (Or.inr (by omega)) (f.tr f2) p2 (by rw [la]; exact v2) wa (by rw [e]; simp)
        rw [show (1 : Int32) = J 1 from rfl, J_add]
        exact this
      · rw [if_neg (by omega)] at e
        refine h1 (by rw [e]; exact c) μ2 (wset w a.length (fE l p).2) (f.tr f2) (by rw [e]; exact p2) (by rw [e]; show SV μ2 2 (a ++ [(fE l p).2]).length _; rw [la]; exact v2) (by rw [e]; exact wa)
