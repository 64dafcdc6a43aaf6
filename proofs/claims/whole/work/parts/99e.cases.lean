-- cases of the law whose answers are ints or booleans (gen/mk_case.py)
theorem fin_b {N : Mem → Prop} (hN : ∀ (S' : GS) (μ' : Mem), GOK S' → CI S' μ' → MI S' μ' → N μ') {r : OpR Int} (g : GOK r.1) {k : Int32} {μ : Mem} (hc : CI r.1 μ) (hk : Ans r.2 k (fun z => μ 5120 0 0 = J z)) (hb : ∀ z9, r.2 = .inl z9 → z9 = 0 ∨ z9 = 1) : MRes J r μ (fun (v : Int32) (μ' : Mem) => w9_thrown_wp μ' (fun (r8 : Int32) (μ7 : Mem) => ((r8 = k → ((¬ k = 0 → (N μ7)) ∧ (k = 0 → ((vp_in (0 : Int32) 1) ∧ ((v = 0 → (((μ7 5120 0 ((0 : Int32)).toNatClampNeg) = (0 : Int32)) ∧ (((0 : Int32) = 0 → (N μ7)) ∧ (¬ (0 : Int32) = 0 → False)))) ∧ (¬ v = 0 → (((μ7 5120 0 ((0 : Int32)).toNatClampNeg) = (1 : Int32)) ∧ (((0 : Int32) = 0 → (N μ7)) ∧ (¬ (0 : Int32) = 0 → False))))))))) ∧ (¬ r8 = k → False)))) := by
  intro v μ' f hm ans
  have n := hN _ _ g (CI_FrM hc f) hm
  obtain ⟨S', o⟩ := r
  unfold w9_thrown_wp
  cases o with
  | inl z =>
    obtain ⟨rfl, h5⟩ := hk
    obtain ⟨a1, a2⟩ := ans
    have e5 : μ' 5120 0 (0 : Int32).toNatClampNeg = J z := by rw [tz0, f 5120 (Or.inr (by omega))]; exact h5
    refine ⟨fun _ => ⟨fun c => absurd rfl c, fun _ => ⟨vin1, fun c => ⟨?_, fun _ => n, fun c => absurd rfl c⟩, fun c => ⟨?_, fun _ => n, fun c => absurd rfl c⟩⟩⟩, fun c => absurd a1 c⟩
    · rw [e5, ← a2]; exact c
    · rcases hb z rfl with rfl | rfl
      · exact absurd a2 c
      · exact e5
  | inr e =>
    obtain ⟨rfl, h5, h6⟩ := hk
    have a1 : μ' 3201 0 0 = J e.2 := ans
    refine ⟨fun _ => ⟨fun _ => n, fun c => ?_⟩, fun c => absurd a1 c⟩
    have : e.2 = 0 := (J_eq (by omega) (by omega)).mp c
    omega
theorem cls_b {S : GS} {r : OpR Int} {μ : Mem} {K : Int32 → Mem → Prop} {X : String → Mem → Prop} (hm : MI S μ) (hcode : ∀ e, r.2 = .inr e → 1 ≤ e.2 ∧ e.2 ≤ 3) (hK : ∀ (k : Int32) (μ' : Mem), CI r.1 μ' → MI S μ' → Ans r.2 k (fun z => μ' 5120 0 0 = J z) → K k μ') (hX : ∀ e μ', r.2 = .inr e → K (J e.2) μ' → X e.1 μ') (hb : ∀ z9, r.2 = .inl z9 → z9 = 0 ∨ z9 = 1) : CRes J r μ (fun (r2 : Int32) (μ1 : Mem) => ((r2 = 0 → ((vp_in (0 : Int32) 1) ∧ (∀ μ5 : Mem, μ5 = up μ1 5120 0 ((0 : Int32)).toNatClampNeg (0 : Int32) → (K (0 : Int32) μ5)))) ∧ (¬ r2 = 0 → ((vp_in (0 : Int32) 1) ∧ (∀ μ7 : Mem, μ7 = up μ1 5120 0 ((0 : Int32)).toNatClampNeg (1 : Int32) → (K (0 : Int32) μ7)))))) X := by
  intro μ' f hc
  have mi := MI_FrC hm f
  obtain ⟨S', o⟩ := r
  cases o with
  | inl z =>
    have st : ∀ v : Int32, v = J z → ∀ μ5 : Mem, μ5 = up μ' 5120 0 ((0 : Int32)).toNatClampNeg v → K 0 μ5 := by
      rintro v rfl μ5 rfl
      rw [tz0]
      have b : Bt [5120] μ' (up μ' 5120 0 0 (J z)) := Bt.up (by decide)
      exact hK 0 _ (hc.bt b (by decide)) (mi.bt b (by decide)) ⟨rfl, up_self⟩
    refine ⟨fun c => ⟨vin1, st 0 (Eq.symm c)⟩, fun c => ⟨vin1, st 1 ?_⟩⟩
    rcases hb z rfl with rfl | rfl
    · exact absurd rfl c
    · rfl
  | inr e =>
    have hcd := hcode e rfl
    exact hX e μ' rfl (hK _ _ hc mi ⟨rfl, hcd⟩)
theorem opb_isAccepted {S : GS} (g : GOK S) {z : Int} : ∀ z9, (op_isAccepted S z).2 = .inl z9 → z9 = 0 ∨ z9 = 1 := by
  unfold op_isAccepted
  repeat' split
  all_goals (intro x9 h; first | (cases h; done) | (cases h; simp; done))
theorem opb_isInside {S : GS} (g : GOK S) {z : Int} : ∀ z9, (op_isInside S z).2 = .inl z9 → z9 = 0 ∨ z9 = 1 := by
  unfold op_isInside
  repeat' split
  all_goals (intro x9 h; first | (cases h; done) | (cases h; simp; done))
theorem opb_isCause {S : GS} (g : GOK S) {z : Int} : ∀ z9, (op_isCause S z).2 = .inl z9 → z9 = 0 ∨ z9 = 1 := by
  unfold op_isCause
  repeat' split
  all_goals (intro x9 h; first | (cases h; done) | (cases h; simp; done))
theorem opb_mark {S : GS} (g : GOK S) {z v : Int} : ∀ z9, (op_mark S z v).2 = .inl z9 → z9 = 0 ∨ z9 = 1 := by
  unfold op_mark
  split
  · intro x9 h; cases h
  · rename_i c
    intro x9 h
    cases h
    have y := fnd_some c
    have r := g.w.r (fnd S.1.1 S.1.2.1 z).toNat (by omega)
    obtain ⟨⟨r1, r2, r3, r4, r5, r6, r7⟩, r8⟩ := r
    omega
theorem op_remove_x {S : GS} {z : Int} : ∀ x9, (op_remove S z).2 = .inr x9 → x9 = (xIO, 1) := by
  unfold op_remove
  repeat' split
  all_goals (intro x9 h; first | (cases h; done) | (cases h; simp; done))
theorem L_remove_pf {S : GS} {μ : Mem} {K : Int32 → Mem → Prop} (hc : CI S μ) (hm : MI S μ) (g : GOK S) {z : Int} (q0 : (-2147483648 ≤ z ∧ z ≤ 2147483647))  (hK : ∀ (k9 : Int32) (μ9 : Mem), CI (op_remove S z).1 μ9 → MI S μ9 → Ans (op_remove S z).2 k9 (fun z9 => μ9 5120 0 0 = J z9) → K k9 μ9) : L_remove_wp μ (J z) K := by
  unfold L_remove_wp
  refine c_remove hc g q0 (cls_i (K := K) hm (fun x9 h9 => ?_) hK (fun x9 μ9 h9 hk => ?_))
  · rcases op_remove_x x9 h9 with rfl <;> decide
  · rcases op_remove_x x9 h9 with rfl
    · exact ⟨rfl, hk⟩
theorem lc2_pf {S : GS} {μ : Mem} {xs : Nat → Int32} {L : Nat} {i : Int32} {N : Mem → Prop} (hc : CI S μ) (hm : MI S μ) (g : GOK S) (hi : ∀ d : Int32, 1 ≤ d → d ≤ 6 → vp_in (i + d) L) (hN : ∀ (S' : GS) (μ' : Mem), GOK S' → CI S' μ' → MI S' μ' → N μ') : lc2_wp xs L μ i N := by
  unfold lc2_wp
  obtain ⟨z1, q1, e1⟩ := J_of (xs (i + 1).toNatClampNeg)
  have v1 := hi 1 (by decide) (by decide)
  rw [e1]
  refine ⟨v1, ?_⟩
  refine L_remove_pf hc hm g q1 (fun k μ' hc' hm' hk => ?_)
  exact ⟨v1, m_remove hm' g q1 (fin_i hN (g_remove g) hc' hk)⟩
theorem op_setParent_x {S : GS} {z p : Int} : ∀ x9, (op_setParent S z p).2 = .inr x9 → x9 = (xIO, 1) ∨ x9 = (xIA, 2) := by
  unfold op_setParent
  repeat' split
  all_goals (intro x9 h; first | (cases h; done) | (cases h; simp; done))
theorem L_setParent_pf {S : GS} {μ : Mem} {K : Int32 → Mem → Prop} (hc : CI S μ) (hm : MI S μ) (g : GOK S) {z p : Int} (q0 : (-2147483648 ≤ z ∧ z ≤ 2147483647)) (q1 : (-2147483648 ≤ p ∧ p ≤ 2147483647))  (hK : ∀ (k9 : Int32) (μ9 : Mem), CI (op_setParent S z p).1 μ9 → MI S μ9 → Ans (op_setParent S z p).2 k9 (fun z9 => μ9 5120 0 0 = J z9) → K k9 μ9) : L_setParent_wp μ (J z) (J p) K := by
  unfold L_setParent_wp
  refine c_setParent hc g q0 q1 (cls_i (K := K) hm (fun x9 h9 => ?_) hK (fun x9 μ9 h9 hk => ?_))
  · rcases op_setParent_x x9 h9 with rfl | rfl <;> decide
  · rcases op_setParent_x x9 h9 with rfl | rfl
    · exact Or.inl ⟨rfl, hk⟩
    · exact Or.inr (⟨rfl, hk⟩)
theorem lc3_pf {S : GS} {μ : Mem} {xs : Nat → Int32} {L : Nat} {i : Int32} {N : Mem → Prop} (hc : CI S μ) (hm : MI S μ) (g : GOK S) (hi : ∀ d : Int32, 1 ≤ d → d ≤ 6 → vp_in (i + d) L) (hN : ∀ (S' : GS) (μ' : Mem), GOK S' → CI S' μ' → MI S' μ' → N μ') : lc3_wp xs L μ i N := by
  unfold lc3_wp
  obtain ⟨z1, q1, e1⟩ := J_of (xs (i + 1).toNatClampNeg)
  obtain ⟨z2, q2, e2⟩ := J_of (xs (i + 2).toNatClampNeg)
  have v1 := hi 1 (by decide) (by decide)
  have v2 := hi 2 (by decide) (by decide)
  rw [e1, e2]
  refine ⟨v1, v2, ?_⟩
  refine L_setParent_pf hc hm g q1 q2 (fun k μ' hc' hm' hk => ?_)
  exact ⟨v1, v2, m_setParent hm' g q1 q2 (fin_i hN (g_setParent g) hc' hk)⟩
theorem op_setTimes_x {S : GS} {z b e : Int} : ∀ x9, (op_setTimes S z b e).2 = .inr x9 → x9 = (xIO, 1) ∨ x9 = (xIA, 2) := by
  unfold op_setTimes
  repeat' split
  all_goals (intro x9 h; first | (cases h; done) | (cases h; simp; done))
theorem L_setTimes_pf {S : GS} {μ : Mem} {K : Int32 → Mem → Prop} (hc : CI S μ) (hm : MI S μ) (g : GOK S) {z b e : Int} (q0 : (-2147483648 ≤ z ∧ z ≤ 2147483647)) (q1 : (-2147483648 ≤ b ∧ b ≤ 2147483647)) (q2 : (-2147483648 ≤ e ∧ e ≤ 2147483647))  (hK : ∀ (k9 : Int32) (μ9 : Mem), CI (op_setTimes S z b e).1 μ9 → MI S μ9 → Ans (op_setTimes S z b e).2 k9 (fun z9 => μ9 5120 0 0 = J z9) → K k9 μ9) : L_setTimes_wp μ (J z) (J b) (J e) K := by
  unfold L_setTimes_wp
  refine c_setTimes hc g q0 q1 q2 (cls_i (K := K) hm (fun x9 h9 => ?_) hK (fun x9 μ9 h9 hk => ?_))
  · rcases op_setTimes_x x9 h9 with rfl | rfl <;> decide
  · rcases op_setTimes_x x9 h9 with rfl | rfl
    · exact Or.inl ⟨rfl, hk⟩
    · exact Or.inr (⟨rfl, hk⟩)
theorem lc4_pf {S : GS} {μ : Mem} {xs : Nat → Int32} {L : Nat} {i : Int32} {N : Mem → Prop} (hc : CI S μ) (hm : MI S μ) (g : GOK S) (hi : ∀ d : Int32, 1 ≤ d → d ≤ 6 → vp_in (i + d) L) (hN : ∀ (S' : GS) (μ' : Mem), GOK S' → CI S' μ' → MI S' μ' → N μ') : lc4_wp xs L μ i N := by
  unfold lc4_wp
  obtain ⟨z1, q1, e1⟩ := J_of (xs (i + 1).toNatClampNeg)
  obtain ⟨z2, q2, e2⟩ := J_of (xs (i + 2).toNatClampNeg)
  obtain ⟨z3, q3, e3⟩ := J_of (xs (i + 3).toNatClampNeg)
  have v1 := hi 1 (by decide) (by decide)
  have v2 := hi 2 (by decide) (by decide)
  have v3 := hi 3 (by decide) (by decide)
  rw [e1, e2, e3]
  refine ⟨v1, v2, v3, ?_⟩
  refine L_setTimes_pf hc hm g q1 q2 q3 (fun k μ' hc' hm' hk => ?_)
  exact ⟨v1, v2, v3, m_setTimes hm' g q1 q2 q3 (fin_i hN (g_setTimes g) hc' hk)⟩
theorem op_mark_x {S : GS} {z v : Int} : ∀ x9, (op_mark S z v).2 = .inr x9 → x9 = (xIO, 1) := by
  unfold op_mark
  repeat' split
  all_goals (intro x9 h; first | (cases h; done) | (cases h; simp; done))
theorem L_mark_pf {S : GS} {μ : Mem} {K : Int32 → Mem → Prop} (hc : CI S μ) (hm : MI S μ) (g : GOK S) {z v : Int} (q0 : (-2147483648 ≤ z ∧ z ≤ 2147483647)) (q1 : 0 ≤ v ∧ v ≤ 1)  (hb : ∀ z9, (op_mark S z v).2 = .inl z9 → z9 = 0 ∨ z9 = 1) (hK : ∀ (k9 : Int32) (μ9 : Mem), CI (op_mark S z v).1 μ9 → MI S μ9 → Ans (op_mark S z v).2 k9 (fun z9 => μ9 5120 0 0 = J z9) → K k9 μ9) : L_mark_wp μ (J z) (J v) K := by
  unfold L_mark_wp
  refine c_mark hc g q0 q1 (cls_b (K := K) hm (fun x9 h9 => ?_) hK (fun x9 μ9 h9 hk => ?_) hb)
  · rcases op_mark_x x9 h9 with rfl <;> decide
  · rcases op_mark_x x9 h9 with rfl
    · exact ⟨rfl, hk⟩
theorem lc5_pf {S : GS} {μ : Mem} {xs : Nat → Int32} {L : Nat} {i : Int32} {N : Mem → Prop} (hc : CI S μ) (hm : MI S μ) (g : GOK S) (hi : ∀ d : Int32, 1 ≤ d → d ≤ 6 → vp_in (i + d) L) (hN : ∀ (S' : GS) (μ' : Mem), GOK S' → CI S' μ' → MI S' μ' → N μ') : lc5_wp xs L μ i N := by
  unfold lc5_wp
  obtain ⟨z1, q1, e1⟩ := J_of (xs (i + 1).toNatClampNeg)
  have v1 := hi 1 (by decide) (by decide)
  have v2 := hi 2 (by decide) (by decide)
  rw [e1]
  refine ⟨v1, v2, ?_⟩
  refine ⟨fun c9 => ?_, fun c9 => ?_⟩
  · exact L_mark_pf hc hm g (v := 0) q1 (by omega) (opb_mark g) (fun k μ' hc' hm' hk => ⟨v1, v2, fun _ => m_mark hm' g (v := 0)  q1 (by omega) (fin_b hN (g_mark g (by omega)) hc' hk (opb_mark g)), fun c8 => absurd c9 c8⟩)
  · exact L_mark_pf hc hm g (v := 1) q1 (by omega) (opb_mark g) (fun k μ' hc' hm' hk => ⟨v1, v2, fun c8 => absurd c8 c9, fun _ => m_mark hm' g (v := 1)  q1 (by omega) (fin_b hN (g_mark g (by omega)) hc' hk (opb_mark g))⟩)
theorem op_span_x {S : GS} {z k : Int} : ∀ x9, (op_span S z k).2 = .inr x9 → x9 = (xIO, 1) ∨ x9 = (xIA, 2) := by
  unfold op_span
  repeat' split
  all_goals (intro x9 h; first | (cases h; done) | (cases h; simp; done))
theorem L_span_pf {S : GS} {μ : Mem} {K : Int32 → Mem → Prop} (hc : CI S μ) (hm : MI S μ) (g : GOK S) {z k : Int} (q0 : (-2147483648 ≤ z ∧ z ≤ 2147483647)) (q1 : (-2147483648 ≤ k ∧ k ≤ 2147483647))  (hK : ∀ (k9 : Int32) (μ9 : Mem), CI (op_span S z k).1 μ9 → MI S μ9 → Ans (op_span S z k).2 k9 (fun z9 => μ9 5120 0 0 = J z9) → K k9 μ9) : L_span_wp μ (J z) (J k) K := by
  unfold L_span_wp
  refine c_span hc g q0 q1 (cls_i (K := K) hm (fun x9 h9 => ?_) hK (fun x9 μ9 h9 hk => ?_))
  · rcases op_span_x x9 h9 with rfl | rfl <;> decide
  · rcases op_span_x x9 h9 with rfl | rfl
    · exact Or.inl ⟨rfl, hk⟩
    · exact Or.inr (⟨rfl, hk⟩)
theorem gg_span {S : GS} (g : GOK S) {z k : Int} : GOK (op_span S z k).1 := by
  unfold op_span
  repeat' split
  all_goals exact g
theorem lc7_pf {S : GS} {μ : Mem} {xs : Nat → Int32} {L : Nat} {i : Int32} {N : Mem → Prop} (hc : CI S μ) (hm : MI S μ) (g : GOK S) (hi : ∀ d : Int32, 1 ≤ d → d ≤ 6 → vp_in (i + d) L) (hN : ∀ (S' : GS) (μ' : Mem), GOK S' → CI S' μ' → MI S' μ' → N μ') : lc7_wp xs L μ i N := by
  unfold lc7_wp
  obtain ⟨z1, q1, e1⟩ := J_of (xs (i + 1).toNatClampNeg)
  obtain ⟨z2, q2, e2⟩ := J_of (xs (i + 2).toNatClampNeg)
  have v1 := hi 1 (by decide) (by decide)
  have v2 := hi 2 (by decide) (by decide)
  rw [e1, e2]
  refine ⟨v1, v2, ?_⟩
  refine L_span_pf hc hm g q1 q2 (fun k μ' hc' hm' hk => ?_)
  exact ⟨v1, v2, m_span hm' g q1 q2 (fin_i hN (gg_span g) hc' hk)⟩
theorem op_offset_x {S : GS} {a : Int} : ∀ x9, (op_offset S a).2 = .inr x9 → x9 = (xIO, 1) := by
  unfold op_offset
  repeat' split
  all_goals (intro x9 h; first | (cases h; done) | (cases h; simp; done))
theorem L_offset_pf {S : GS} {μ : Mem} {K : Int32 → Mem → Prop} (hc : CI S μ) (hm : MI S μ) (g : GOK S) {a : Int} (q0 : (-2147483648 ≤ a ∧ a ≤ 2147483647))  (hK : ∀ (k9 : Int32) (μ9 : Mem), CI (op_offset S a).1 μ9 → MI S μ9 → Ans (op_offset S a).2 k9 (fun z9 => μ9 5120 0 0 = J z9) → K k9 μ9) : L_offset_wp μ (J a) K := by
  unfold L_offset_wp
  refine c_offset hc g q0 (cls_i (K := K) hm (fun x9 h9 => ?_) hK (fun x9 μ9 h9 hk => ?_))
  · rcases op_offset_x x9 h9 with rfl <;> decide
  · rcases op_offset_x x9 h9 with rfl
    · exact ⟨rfl, hk⟩
theorem gg_offset {S : GS} (g : GOK S) {a : Int} : GOK (op_offset S a).1 := by
  unfold op_offset
  repeat' split
  all_goals exact g
theorem lc8_pf {S : GS} {μ : Mem} {xs : Nat → Int32} {L : Nat} {i : Int32} {N : Mem → Prop} (hc : CI S μ) (hm : MI S μ) (g : GOK S) (hi : ∀ d : Int32, 1 ≤ d → d ≤ 6 → vp_in (i + d) L) (hN : ∀ (S' : GS) (μ' : Mem), GOK S' → CI S' μ' → MI S' μ' → N μ') : lc8_wp xs L μ i N := by
  unfold lc8_wp
  obtain ⟨z1, q1, e1⟩ := J_of (xs (i + 1).toNatClampNeg)
  have v1 := hi 1 (by decide) (by decide)
  rw [e1]
  refine ⟨v1, ?_⟩
  refine L_offset_pf hc hm g q1 (fun k μ' hc' hm' hk => ?_)
  exact ⟨v1, m_offset_op hm' g q1 (fin_i hN (gg_offset g) hc' hk)⟩
theorem op_freedom_x {S : GS} {a : Int} : ∀ x9, (op_freedom S a).2 = .inr x9 → x9 = (xIO, 1) ∨ x9 = (xNE, 2) := by
  unfold op_freedom
  repeat' split
  all_goals (intro x9 h; first | (cases h; done) | (cases h; simp; done))
theorem L_freedom_pf {S : GS} {μ : Mem} {K : Int32 → Mem → Prop} (hc : CI S μ) (hm : MI S μ) (g : GOK S) {a : Int} (q0 : (-2147483648 ≤ a ∧ a ≤ 2147483647))  (hK : ∀ (k9 : Int32) (μ9 : Mem), CI (op_freedom S a).1 μ9 → MI S μ9 → Ans (op_freedom S a).2 k9 (fun z9 => μ9 5120 0 0 = J z9) → K k9 μ9) : L_freedom_wp μ (J a) K := by
  unfold L_freedom_wp
  refine c_freedom hc g q0 (cls_i (K := K) hm (fun x9 h9 => ?_) hK (fun x9 μ9 h9 hk => ?_))
  · rcases op_freedom_x x9 h9 with rfl | rfl <;> decide
  · rcases op_freedom_x x9 h9 with rfl | rfl
    · exact Or.inl ⟨rfl, hk⟩
    · exact Or.inr (⟨rfl, hk⟩)
theorem gg_freedom {S : GS} (g : GOK S) {a : Int} : GOK (op_freedom S a).1 := by
  unfold op_freedom
  repeat' split
  all_goals exact g
theorem lc9_pf {S : GS} {μ : Mem} {xs : Nat → Int32} {L : Nat} {i : Int32} {N : Mem → Prop} (hc : CI S μ) (hm : MI S μ) (g : GOK S) (hi : ∀ d : Int32, 1 ≤ d → d ≤ 6 → vp_in (i + d) L) (hN : ∀ (S' : GS) (μ' : Mem), GOK S' → CI S' μ' → MI S' μ' → N μ') : lc9_wp xs L μ i N := by
  unfold lc9_wp
  obtain ⟨z1, q1, e1⟩ := J_of (xs (i + 1).toNatClampNeg)
  have v1 := hi 1 (by decide) (by decide)
  rw [e1]
  refine ⟨v1, ?_⟩
  refine L_freedom_pf hc hm g q1 (fun k μ' hc' hm' hk => ?_)
  exact ⟨v1, m_freedom_op hm' g q1 (fin_i hN (gg_freedom g) hc' hk)⟩
theorem op_isAccepted_x {S : GS} {z : Int} : ∀ x9, (op_isAccepted S z).2 = .inr x9 → x9 = (xIO, 1) ∨ x9 = (xNE, 2) := by
  unfold op_isAccepted
  repeat' split
  all_goals (intro x9 h; first | (cases h; done) | (cases h; simp; done))
theorem L_isAccepted_pf {S : GS} {μ : Mem} {K : Int32 → Mem → Prop} (hc : CI S μ) (hm : MI S μ) (g : GOK S) {z : Int} (q0 : (-2147483648 ≤ z ∧ z ≤ 2147483647))  (hb : ∀ z9, (op_isAccepted S z).2 = .inl z9 → z9 = 0 ∨ z9 = 1) (hK : ∀ (k9 : Int32) (μ9 : Mem), CI (op_isAccepted S z).1 μ9 → MI S μ9 → Ans (op_isAccepted S z).2 k9 (fun z9 => μ9 5120 0 0 = J z9) → K k9 μ9) : L_isAccepted_wp μ (J z) K := by
  unfold L_isAccepted_wp
  refine c_isAccepted hc g q0 (cls_b (K := K) hm (fun x9 h9 => ?_) hK (fun x9 μ9 h9 hk => ?_) hb)
  · rcases op_isAccepted_x x9 h9 with rfl | rfl <;> decide
  · rcases op_isAccepted_x x9 h9 with rfl | rfl
    · exact Or.inl ⟨rfl, hk⟩
    · exact Or.inr (⟨rfl, hk⟩)
theorem gg_isAccepted {S : GS} (g : GOK S) {z : Int} : GOK (op_isAccepted S z).1 := by
  unfold op_isAccepted
  repeat' split
  all_goals exact g
theorem lc11_pf {S : GS} {μ : Mem} {xs : Nat → Int32} {L : Nat} {i : Int32} {N : Mem → Prop} (hc : CI S μ) (hm : MI S μ) (g : GOK S) (hi : ∀ d : Int32, 1 ≤ d → d ≤ 6 → vp_in (i + d) L) (hN : ∀ (S' : GS) (μ' : Mem), GOK S' → CI S' μ' → MI S' μ' → N μ') : lc11_wp xs L μ i N := by
  unfold lc11_wp
  obtain ⟨z1, q1, e1⟩ := J_of (xs (i + 1).toNatClampNeg)
  have v1 := hi 1 (by decide) (by decide)
  rw [e1]
  refine ⟨v1, ?_⟩
  refine L_isAccepted_pf hc hm g q1 (opb_isAccepted g) (fun k μ' hc' hm' hk => ?_)
  exact ⟨v1, m_isAccepted hm' g q1 (fin_b hN (gg_isAccepted g) hc' hk (opb_isAccepted g))⟩
theorem op_isInside_x {S : GS} {z : Int} : ∀ x9, (op_isInside S z).2 = .inr x9 → x9 = (xIO, 1) ∨ x9 = (xNE, 2) := by
  unfold op_isInside
  repeat' split
  all_goals (intro x9 h; first | (cases h; done) | (cases h; simp; done))
theorem L_isInside_pf {S : GS} {μ : Mem} {K : Int32 → Mem → Prop} (hc : CI S μ) (hm : MI S μ) (g : GOK S) {z : Int} (q0 : (-2147483648 ≤ z ∧ z ≤ 2147483647))  (hb : ∀ z9, (op_isInside S z).2 = .inl z9 → z9 = 0 ∨ z9 = 1) (hK : ∀ (k9 : Int32) (μ9 : Mem), CI (op_isInside S z).1 μ9 → MI S μ9 → Ans (op_isInside S z).2 k9 (fun z9 => μ9 5120 0 0 = J z9) → K k9 μ9) : L_isInside_wp μ (J z) K := by
  unfold L_isInside_wp
  refine c_isInside hc g q0 (cls_b (K := K) hm (fun x9 h9 => ?_) hK (fun x9 μ9 h9 hk => ?_) hb)
  · rcases op_isInside_x x9 h9 with rfl | rfl <;> decide
  · rcases op_isInside_x x9 h9 with rfl | rfl
    · exact Or.inl ⟨rfl, hk⟩
    · exact Or.inr (⟨rfl, hk⟩)
theorem gg_isInside {S : GS} (g : GOK S) {z : Int} : GOK (op_isInside S z).1 := by
  unfold op_isInside
  repeat' split
  all_goals exact g
theorem lc12_pf {S : GS} {μ : Mem} {xs : Nat → Int32} {L : Nat} {i : Int32} {N : Mem → Prop} (hc : CI S μ) (hm : MI S μ) (g : GOK S) (hi : ∀ d : Int32, 1 ≤ d → d ≤ 6 → vp_in (i + d) L) (hN : ∀ (S' : GS) (μ' : Mem), GOK S' → CI S' μ' → MI S' μ' → N μ') : lc12_wp xs L μ i N := by
  unfold lc12_wp
  obtain ⟨z1, q1, e1⟩ := J_of (xs (i + 1).toNatClampNeg)
  have v1 := hi 1 (by decide) (by decide)
  rw [e1]
  refine ⟨v1, ?_⟩
  refine L_isInside_pf hc hm g q1 (opb_isInside g) (fun k μ' hc' hm' hk => ?_)
  exact ⟨v1, m_isInside hm' g q1 (fin_b hN (gg_isInside g) hc' hk (opb_isInside g))⟩
theorem op_corrected_x {S : GS} {z v : Int} : ∀ x9, (op_corrected S z v).2 = .inr x9 → x9 = (xIO, 1) := by
  unfold op_corrected
  repeat' split
  all_goals (intro x9 h; first | (cases h; done) | (cases h; simp; done))
theorem L_corrected_pf {S : GS} {μ : Mem} {K : Int32 → Mem → Prop} (hc : CI S μ) (hm : MI S μ) (g : GOK S) {z v : Int} (q0 : (-2147483648 ≤ z ∧ z ≤ 2147483647)) (q1 : 0 ≤ v ∧ v ≤ 1)  (hK : ∀ (k9 : Int32) (μ9 : Mem), CI (op_corrected S z v).1 μ9 → MI S μ9 → Ans (op_corrected S z v).2 k9 (fun z9 => μ9 5120 0 0 = J z9) → K k9 μ9) : L_corrected_wp μ (J z) (J v) K := by
  unfold L_corrected_wp
  refine c_corrected hc g q0 q1 (cls_i (K := K) hm (fun x9 h9 => ?_) hK (fun x9 μ9 h9 hk => ?_))
  · rcases op_corrected_x x9 h9 with rfl <;> decide
  · rcases op_corrected_x x9 h9 with rfl
    · exact ⟨rfl, hk⟩
theorem gg_corrected {S : GS} (g : GOK S) {z v : Int} : GOK (op_corrected S z v).1 := by
  unfold op_corrected
  repeat' split
  all_goals exact g
theorem lc13_pf {S : GS} {μ : Mem} {xs : Nat → Int32} {L : Nat} {i : Int32} {N : Mem → Prop} (hc : CI S μ) (hm : MI S μ) (g : GOK S) (hi : ∀ d : Int32, 1 ≤ d → d ≤ 6 → vp_in (i + d) L) (hN : ∀ (S' : GS) (μ' : Mem), GOK S' → CI S' μ' → MI S' μ' → N μ') : lc13_wp xs L μ i N := by
  unfold lc13_wp
  obtain ⟨z1, q1, e1⟩ := J_of (xs (i + 1).toNatClampNeg)
  have v1 := hi 1 (by decide) (by decide)
  have v2 := hi 2 (by decide) (by decide)
  rw [e1]
  refine ⟨v1, v2, ?_⟩
  refine ⟨fun c9 => ?_, fun c9 => ?_⟩
  · exact L_corrected_pf hc hm g (v := 0) q1 (by omega) (fun k μ' hc' hm' hk => ⟨v1, v2, fun _ => m_corrected hm' g (v := 0)  q1 (by omega) (fin_i hN (gg_corrected g) hc' hk), fun c8 => absurd c9 c8⟩)
  · exact L_corrected_pf hc hm g (v := 1) q1 (by omega) (fun k μ' hc' hm' hk => ⟨v1, v2, fun c8 => absurd c8 c9, fun _ => m_corrected hm' g (v := 1)  q1 (by omega) (fin_i hN (gg_corrected g) hc' hk)⟩)
theorem op_explain_x {S : GS} {z : Int} : ∀ x9, (op_explain S z).2 = .inr x9 → x9 = (xIO, 1) := by
  unfold op_explain
  repeat' split
  all_goals (intro x9 h; first | (cases h; done) | (cases h; simp; done))
theorem L_explain_pf {S : GS} {μ : Mem} {K : Int32 → Mem → Prop} (hc : CI S μ) (hm : MI S μ) (g : GOK S) {z : Int} (q0 : (-2147483648 ≤ z ∧ z ≤ 2147483647))  (hK : ∀ (k9 : Int32) (μ9 : Mem), CI (op_explain S z).1 μ9 → MI S μ9 → Ans (op_explain S z).2 k9 (fun z9 => μ9 5120 0 0 = J z9) → K k9 μ9) : L_explain_wp μ (J z) K := by
  unfold L_explain_wp
  refine c_explain hc g q0 (cls_i (K := K) hm (fun x9 h9 => ?_) hK (fun x9 μ9 h9 hk => ?_))
  · rcases op_explain_x x9 h9 with rfl <;> decide
  · rcases op_explain_x x9 h9 with rfl
    · exact ⟨rfl, hk⟩
theorem gg_explain {S : GS} (g : GOK S) {z : Int} : GOK (op_explain S z).1 := by
  unfold op_explain
  repeat' split
  all_goals exact g
theorem lc14_pf {S : GS} {μ : Mem} {xs : Nat → Int32} {L : Nat} {i : Int32} {N : Mem → Prop} (hc : CI S μ) (hm : MI S μ) (g : GOK S) (hi : ∀ d : Int32, 1 ≤ d → d ≤ 6 → vp_in (i + d) L) (hN : ∀ (S' : GS) (μ' : Mem), GOK S' → CI S' μ' → MI S' μ' → N μ') : lc14_wp xs L μ i N := by
  unfold lc14_wp
  obtain ⟨z1, q1, e1⟩ := J_of (xs (i + 1).toNatClampNeg)
  have v1 := hi 1 (by decide) (by decide)
  rw [e1]
  refine ⟨v1, ?_⟩
  refine L_explain_pf hc hm g q1 (fun k μ' hc' hm' hk => ?_)
  exact ⟨v1, m_explain hm' g q1 (fin_i hN (gg_explain g) hc' hk)⟩
theorem op_root_x {S : GS} {z : Int} : ∀ x9, (op_root S z).2 = .inr x9 → x9 = (xIO, 1) := by
  unfold op_root
  repeat' split
  all_goals (intro x9 h; first | (cases h; done) | (cases h; simp; done))
theorem L_root_pf {S : GS} {μ : Mem} {K : Int32 → Mem → Prop} (hc : CI S μ) (hm : MI S μ) (g : GOK S) {z : Int} (q0 : (-2147483648 ≤ z ∧ z ≤ 2147483647))  (hK : ∀ (k9 : Int32) (μ9 : Mem), CI (op_root S z).1 μ9 → MI S μ9 → Ans (op_root S z).2 k9 (fun z9 => μ9 5120 0 0 = J z9) → K k9 μ9) : L_root_wp μ (J z) K := by
  unfold L_root_wp
  refine c_root hc g q0 (cls_i (K := K) hm (fun x9 h9 => ?_) hK (fun x9 μ9 h9 hk => ?_))
  · rcases op_root_x x9 h9 with rfl <;> decide
  · rcases op_root_x x9 h9 with rfl
    · exact ⟨rfl, hk⟩
theorem gg_root {S : GS} (g : GOK S) {z : Int} : GOK (op_root S z).1 := by
  unfold op_root
  repeat' split
  all_goals exact g
theorem lc15_pf {S : GS} {μ : Mem} {xs : Nat → Int32} {L : Nat} {i : Int32} {N : Mem → Prop} (hc : CI S μ) (hm : MI S μ) (g : GOK S) (hi : ∀ d : Int32, 1 ≤ d → d ≤ 6 → vp_in (i + d) L) (hN : ∀ (S' : GS) (μ' : Mem), GOK S' → CI S' μ' → MI S' μ' → N μ') : lc15_wp xs L μ i N := by
  unfold lc15_wp
  obtain ⟨z1, q1, e1⟩ := J_of (xs (i + 1).toNatClampNeg)
  have v1 := hi 1 (by decide) (by decide)
  rw [e1]
  refine ⟨v1, ?_⟩
  refine L_root_pf hc hm g q1 (fun k μ' hc' hm' hk => ?_)
  exact ⟨v1, m_root hm' g q1 (fin_i hN (gg_root g) hc' hk)⟩
theorem op_depth_x {S : GS} {z : Int} : ∀ x9, (op_depth S z).2 = .inr x9 → x9 = (xIO, 1) := by
  unfold op_depth
  repeat' split
  all_goals (intro x9 h; first | (cases h; done) | (cases h; simp; done))
theorem L_depth_pf {S : GS} {μ : Mem} {K : Int32 → Mem → Prop} (hc : CI S μ) (hm : MI S μ) (g : GOK S) {z : Int} (q0 : (-2147483648 ≤ z ∧ z ≤ 2147483647))  (hK : ∀ (k9 : Int32) (μ9 : Mem), CI (op_depth S z).1 μ9 → MI S μ9 → Ans (op_depth S z).2 k9 (fun z9 => μ9 5120 0 0 = J z9) → K k9 μ9) : L_depth_wp μ (J z) K := by
  unfold L_depth_wp
  refine c_depth hc g q0 (cls_i (K := K) hm (fun x9 h9 => ?_) hK (fun x9 μ9 h9 hk => ?_))
  · rcases op_depth_x x9 h9 with rfl <;> decide
  · rcases op_depth_x x9 h9 with rfl
    · exact ⟨rfl, hk⟩
theorem gg_depth {S : GS} (g : GOK S) {z : Int} : GOK (op_depth S z).1 := by
  unfold op_depth
  repeat' split
  all_goals exact g
theorem lc16_pf {S : GS} {μ : Mem} {xs : Nat → Int32} {L : Nat} {i : Int32} {N : Mem → Prop} (hc : CI S μ) (hm : MI S μ) (g : GOK S) (hi : ∀ d : Int32, 1 ≤ d → d ≤ 6 → vp_in (i + d) L) (hN : ∀ (S' : GS) (μ' : Mem), GOK S' → CI S' μ' → MI S' μ' → N μ') : lc16_wp xs L μ i N := by
  unfold lc16_wp
  obtain ⟨z1, q1, e1⟩ := J_of (xs (i + 1).toNatClampNeg)
  have v1 := hi 1 (by decide) (by decide)
  rw [e1]
  refine ⟨v1, ?_⟩
  refine L_depth_pf hc hm g q1 (fun k μ' hc' hm' hk => ?_)
  exact ⟨v1, m_depth hm' g q1 (fin_i hN (gg_depth g) hc' hk)⟩
theorem op_below_x {S : GS} {t q : Int} : ∀ x9, (op_below S t q).2 = .inr x9 → x9 = (xIO, 1) ∨ x9 = (xNE, 2) := by
  unfold op_below
  repeat' split
  all_goals (intro x9 h; first | (cases h; done) | (cases h; simp; done))
theorem L_below_pf {S : GS} {μ : Mem} {K : Int32 → Mem → Prop} (hc : CI S μ) (hm : MI S μ) (g : GOK S) {t q : Int} (q0 : (-2147483648 ≤ t ∧ t ≤ 2147483647)) (q1 : (-2147483648 ≤ q ∧ q ≤ 2147483647))  (hK : ∀ (k9 : Int32) (μ9 : Mem), CI (op_below S t q).1 μ9 → MI S μ9 → Ans (op_below S t q).2 k9 (fun z9 => μ9 5120 0 0 = J z9) → K k9 μ9) : L_below_wp μ (J t) (J q) K := by
  unfold L_below_wp
  refine c_below hc g q0 q1 (cls_i (K := K) hm (fun x9 h9 => ?_) hK (fun x9 μ9 h9 hk => ?_))
  · rcases op_below_x x9 h9 with rfl | rfl <;> decide
  · rcases op_below_x x9 h9 with rfl | rfl
    · exact Or.inl ⟨rfl, hk⟩
    · exact Or.inr (⟨rfl, hk⟩)
theorem gg_below {S : GS} (g : GOK S) {t q : Int} : GOK (op_below S t q).1 := by
  unfold op_below
  repeat' split
  all_goals exact g
theorem lc17_pf {S : GS} {μ : Mem} {xs : Nat → Int32} {L : Nat} {i : Int32} {N : Mem → Prop} (hc : CI S μ) (hm : MI S μ) (g : GOK S) (hi : ∀ d : Int32, 1 ≤ d → d ≤ 6 → vp_in (i + d) L) (hN : ∀ (S' : GS) (μ' : Mem), GOK S' → CI S' μ' → MI S' μ' → N μ') : lc17_wp xs L μ i N := by
  unfold lc17_wp
  obtain ⟨z1, q1, e1⟩ := J_of (xs (i + 1).toNatClampNeg)
  obtain ⟨z2, q2, e2⟩ := J_of (xs (i + 2).toNatClampNeg)
  have v1 := hi 1 (by decide) (by decide)
  have v2 := hi 2 (by decide) (by decide)
  rw [e1, e2]
  refine ⟨v1, v2, ?_⟩
  refine L_below_pf hc hm g q1 q2 (fun k μ' hc' hm' hk => ?_)
  exact ⟨v1, v2, m_below hm' g q1 q2 (fin_i hN (gg_below g) hc' hk)⟩
theorem op_childCount_x {S : GS} {t q : Int} : ∀ x9, (op_childCount S t q).2 = .inr x9 → x9 = (xIO, 1) ∨ x9 = (xNE, 2) := by
  unfold op_childCount
  repeat' split
  all_goals (intro x9 h; first | (cases h; done) | (cases h; simp; done))
theorem L_childCount_pf {S : GS} {μ : Mem} {K : Int32 → Mem → Prop} (hc : CI S μ) (hm : MI S μ) (g : GOK S) {t q : Int} (q0 : (-2147483648 ≤ t ∧ t ≤ 2147483647)) (q1 : (-2147483648 ≤ q ∧ q ≤ 2147483647))  (hK : ∀ (k9 : Int32) (μ9 : Mem), CI (op_childCount S t q).1 μ9 → MI S μ9 → Ans (op_childCount S t q).2 k9 (fun z9 => μ9 5120 0 0 = J z9) → K k9 μ9) : L_childCount_wp μ (J t) (J q) K := by
  unfold L_childCount_wp
  refine c_childCount hc g q0 q1 (cls_i (K := K) hm (fun x9 h9 => ?_) hK (fun x9 μ9 h9 hk => ?_))
  · rcases op_childCount_x x9 h9 with rfl | rfl <;> decide
  · rcases op_childCount_x x9 h9 with rfl | rfl
    · exact Or.inl ⟨rfl, hk⟩
    · exact Or.inr (⟨rfl, hk⟩)
theorem gg_childCount {S : GS} (g : GOK S) {t q : Int} : GOK (op_childCount S t q).1 := by
  unfold op_childCount
  repeat' split
  all_goals exact g
theorem lc18_pf {S : GS} {μ : Mem} {xs : Nat → Int32} {L : Nat} {i : Int32} {N : Mem → Prop} (hc : CI S μ) (hm : MI S μ) (g : GOK S) (hi : ∀ d : Int32, 1 ≤ d → d ≤ 6 → vp_in (i + d) L) (hN : ∀ (S' : GS) (μ' : Mem), GOK S' → CI S' μ' → MI S' μ' → N μ') : lc18_wp xs L μ i N := by
  unfold lc18_wp
  obtain ⟨z1, q1, e1⟩ := J_of (xs (i + 1).toNatClampNeg)
  obtain ⟨z2, q2, e2⟩ := J_of (xs (i + 2).toNatClampNeg)
  have v1 := hi 1 (by decide) (by decide)
  have v2 := hi 2 (by decide) (by decide)
  rw [e1, e2]
  refine ⟨v1, v2, ?_⟩
  refine L_childCount_pf hc hm g q1 q2 (fun k μ' hc' hm' hk => ?_)
  exact ⟨v1, v2, m_childCount hm' g q1 q2 (fin_i hN (gg_childCount g) hc' hk)⟩
theorem op_child_x {S : GS} {t q a : Int} : ∀ x9, (op_child S t q a).2 = .inr x9 → x9 = (xIO, 1) ∨ x9 = (xNE, 2) := by
  unfold op_child
  repeat' split
  all_goals (intro x9 h; first | (cases h; done) | (cases h; simp; done))
theorem L_child_pf {S : GS} {μ : Mem} {K : Int32 → Mem → Prop} (hc : CI S μ) (hm : MI S μ) (g : GOK S) {t q a : Int} (q0 : (-2147483648 ≤ t ∧ t ≤ 2147483647)) (q1 : (-2147483648 ≤ q ∧ q ≤ 2147483647)) (q2 : (-2147483648 ≤ a ∧ a ≤ 2147483647))  (hK : ∀ (k9 : Int32) (μ9 : Mem), CI (op_child S t q a).1 μ9 → MI S μ9 → Ans (op_child S t q a).2 k9 (fun z9 => μ9 5120 0 0 = J z9) → K k9 μ9) : L_child_wp μ (J t) (J q) (J a) K := by
  unfold L_child_wp
  refine c_child hc g q0 q1 q2 (cls_i (K := K) hm (fun x9 h9 => ?_) hK (fun x9 μ9 h9 hk => ?_))
  · rcases op_child_x x9 h9 with rfl | rfl <;> decide
  · rcases op_child_x x9 h9 with rfl | rfl
    · exact Or.inl ⟨rfl, hk⟩
    · exact Or.inr (⟨rfl, hk⟩)
theorem gg_child {S : GS} (g : GOK S) {t q a : Int} : GOK (op_child S t q a).1 := by
  unfold op_child
  repeat' split
  all_goals exact g
theorem lc19_pf {S : GS} {μ : Mem} {xs : Nat → Int32} {L : Nat} {i : Int32} {N : Mem → Prop} (hc : CI S μ) (hm : MI S μ) (g : GOK S) (hi : ∀ d : Int32, 1 ≤ d → d ≤ 6 → vp_in (i + d) L) (hN : ∀ (S' : GS) (μ' : Mem), GOK S' → CI S' μ' → MI S' μ' → N μ') : lc19_wp xs L μ i N := by
  unfold lc19_wp
  obtain ⟨z1, q1, e1⟩ := J_of (xs (i + 1).toNatClampNeg)
  obtain ⟨z2, q2, e2⟩ := J_of (xs (i + 2).toNatClampNeg)
  obtain ⟨z3, q3, e3⟩ := J_of (xs (i + 3).toNatClampNeg)
  have v1 := hi 1 (by decide) (by decide)
  have v2 := hi 2 (by decide) (by decide)
  have v3 := hi 3 (by decide) (by decide)
  rw [e1, e2, e3]
  refine ⟨v1, v2, v3, ?_⟩
  refine L_child_pf hc hm g q1 q2 q3 (fun k μ' hc' hm' hk => ?_)
  exact ⟨v1, v2, v3, m_child hm' g q1 q2 q3 (fin_i hN (gg_child g) hc' hk)⟩
theorem op_roots_x {S : GS} {t f : Int} : ∀ x9, (op_roots S t f).2 = .inr x9 → x9 = (xIO, 1) := by
  unfold op_roots
  repeat' split
  all_goals (intro x9 h; first | (cases h; done) | (cases h; simp; done))
theorem L_roots_pf {S : GS} {μ : Mem} {K : Int32 → Mem → Prop} (hc : CI S μ) (hm : MI S μ) (g : GOK S) {t f : Int} (q0 : (-2147483648 ≤ t ∧ t ≤ 2147483647)) (q1 : 0 ≤ f ∧ f ≤ 1)  (hK : ∀ (k9 : Int32) (μ9 : Mem), CI (op_roots S t f).1 μ9 → MI S μ9 → Ans (op_roots S t f).2 k9 (fun z9 => μ9 5120 0 0 = J z9) → K k9 μ9) : L_roots_wp μ (J t) (J f) K := by
  unfold L_roots_wp
  refine c_roots hc g q0 q1 (cls_i (K := K) hm (fun x9 h9 => ?_) hK (fun x9 μ9 h9 hk => ?_))
  · rcases op_roots_x x9 h9 with rfl <;> decide
  · rcases op_roots_x x9 h9 with rfl
    · exact ⟨rfl, hk⟩
theorem gg_roots {S : GS} (g : GOK S) {t f : Int} : GOK (op_roots S t f).1 := by
  unfold op_roots
  repeat' split
  all_goals exact g
theorem lc20_pf {S : GS} {μ : Mem} {xs : Nat → Int32} {L : Nat} {i : Int32} {N : Mem → Prop} (hc : CI S μ) (hm : MI S μ) (g : GOK S) (hi : ∀ d : Int32, 1 ≤ d → d ≤ 6 → vp_in (i + d) L) (hN : ∀ (S' : GS) (μ' : Mem), GOK S' → CI S' μ' → MI S' μ' → N μ') : lc20_wp xs L μ i N := by
  unfold lc20_wp
  obtain ⟨z1, q1, e1⟩ := J_of (xs (i + 1).toNatClampNeg)
  have v1 := hi 1 (by decide) (by decide)
  have v2 := hi 2 (by decide) (by decide)
  rw [e1]
  refine ⟨v1, v2, ?_⟩
  refine ⟨fun c9 => ?_, fun c9 => ?_⟩
  · exact L_roots_pf hc hm g (f := 0) q1 (by omega) (fun k μ' hc' hm' hk => ⟨v1, v2, fun _ => m_roots hm' g (f := 0)  q1 (by omega) (fin_i hN (gg_roots g) hc' hk), fun c8 => absurd c9 c8⟩)
  · exact L_roots_pf hc hm g (f := 1) q1 (by omega) (fun k μ' hc' hm' hk => ⟨v1, v2, fun c8 => absurd c8 c9, fun _ => m_roots hm' g (f := 1)  q1 (by omega) (fin_i hN (gg_roots g) hc' hk)⟩)
theorem op_rootAt_x {S : GS} {t k : Int} : ∀ x9, (op_rootAt S t k).2 = .inr x9 → x9 = (xIO, 1) ∨ x9 = (xNE, 2) := by
  unfold op_rootAt
  repeat' split
  all_goals (intro x9 h; first | (cases h; done) | (cases h; simp; done))
theorem L_rootAt_pf {S : GS} {μ : Mem} {K : Int32 → Mem → Prop} (hc : CI S μ) (hm : MI S μ) (g : GOK S) {t k : Int} (q0 : (-2147483648 ≤ t ∧ t ≤ 2147483647)) (q1 : (-2147483648 ≤ k ∧ k ≤ 2147483647))  (hK : ∀ (k9 : Int32) (μ9 : Mem), CI (op_rootAt S t k).1 μ9 → MI S μ9 → Ans (op_rootAt S t k).2 k9 (fun z9 => μ9 5120 0 0 = J z9) → K k9 μ9) : L_rootAt_wp μ (J t) (J k) K := by
  unfold L_rootAt_wp
  refine c_rootAt hc g q0 q1 (cls_i (K := K) hm (fun x9 h9 => ?_) hK (fun x9 μ9 h9 hk => ?_))
  · rcases op_rootAt_x x9 h9 with rfl | rfl <;> decide
  · rcases op_rootAt_x x9 h9 with rfl | rfl
    · exact Or.inl ⟨rfl, hk⟩
    · exact Or.inr (⟨rfl, hk⟩)
theorem gg_rootAt {S : GS} (g : GOK S) {t k : Int} : GOK (op_rootAt S t k).1 := by
  unfold op_rootAt
  repeat' split
  all_goals exact g
theorem lc21_pf {S : GS} {μ : Mem} {xs : Nat → Int32} {L : Nat} {i : Int32} {N : Mem → Prop} (hc : CI S μ) (hm : MI S μ) (g : GOK S) (hi : ∀ d : Int32, 1 ≤ d → d ≤ 6 → vp_in (i + d) L) (hN : ∀ (S' : GS) (μ' : Mem), GOK S' → CI S' μ' → MI S' μ' → N μ') : lc21_wp xs L μ i N := by
  unfold lc21_wp
  obtain ⟨z1, q1, e1⟩ := J_of (xs (i + 1).toNatClampNeg)
  obtain ⟨z2, q2, e2⟩ := J_of (xs (i + 2).toNatClampNeg)
  have v1 := hi 1 (by decide) (by decide)
  have v2 := hi 2 (by decide) (by decide)
  rw [e1, e2]
  refine ⟨v1, v2, ?_⟩
  refine L_rootAt_pf hc hm g q1 q2 (fun k μ' hc' hm' hk => ?_)
  exact ⟨v1, v2, m_rootAt hm' g q1 q2 (fin_i hN (gg_rootAt g) hc' hk)⟩
theorem op_missing_x {S : GS} {t q v : Int} : ∀ x9, (op_missing S t q v).2 = .inr x9 → x9 = (xIO, 1) ∨ x9 = (xNE, 2) := by
  unfold op_missing
  repeat' split
  all_goals (intro x9 h; first | (cases h; done) | (cases h; simp; done))
theorem L_missing_pf {S : GS} {μ : Mem} {K : Int32 → Mem → Prop} (hc : CI S μ) (hm : MI S μ) (g : GOK S) {t q v : Int} (q0 : (-2147483648 ≤ t ∧ t ≤ 2147483647)) (q1 : (-2147483648 ≤ q ∧ q ≤ 2147483647)) (q2 : 0 ≤ v ∧ v ≤ 1)  (hK : ∀ (k9 : Int32) (μ9 : Mem), CI (op_missing S t q v).1 μ9 → MI S μ9 → Ans (op_missing S t q v).2 k9 (fun z9 => μ9 5120 0 0 = J z9) → K k9 μ9) : L_missing_wp μ (J t) (J q) (J v) K := by
  unfold L_missing_wp
  refine c_missing hc g q0 q1 q2 (cls_i (K := K) hm (fun x9 h9 => ?_) hK (fun x9 μ9 h9 hk => ?_))
  · rcases op_missing_x x9 h9 with rfl | rfl <;> decide
  · rcases op_missing_x x9 h9 with rfl | rfl
    · exact Or.inl ⟨rfl, hk⟩
    · exact Or.inr (⟨rfl, hk⟩)
theorem gg_missing {S : GS} (g : GOK S) {t q v : Int} : GOK (op_missing S t q v).1 := by
  unfold op_missing
  repeat' split
  all_goals exact g
theorem lc22_pf {S : GS} {μ : Mem} {xs : Nat → Int32} {L : Nat} {i : Int32} {N : Mem → Prop} (hc : CI S μ) (hm : MI S μ) (g : GOK S) (hi : ∀ d : Int32, 1 ≤ d → d ≤ 6 → vp_in (i + d) L) (hN : ∀ (S' : GS) (μ' : Mem), GOK S' → CI S' μ' → MI S' μ' → N μ') : lc22_wp xs L μ i N := by
  unfold lc22_wp
  obtain ⟨z1, q1, e1⟩ := J_of (xs (i + 1).toNatClampNeg)
  obtain ⟨z2, q2, e2⟩ := J_of (xs (i + 2).toNatClampNeg)
  have v1 := hi 1 (by decide) (by decide)
  have v2 := hi 2 (by decide) (by decide)
  have v3 := hi 3 (by decide) (by decide)
  rw [e1, e2]
  refine ⟨v1, v2, v3, ?_⟩
  refine ⟨fun c9 => ?_, fun c9 => ?_⟩
  · exact L_missing_pf hc hm g (v := 0) q1 q2 (by omega) (fun k μ' hc' hm' hk => ⟨v1, v2, v3, fun _ => m_missing hm' g (v := 0)  q1 q2 (by omega) (fin_i hN (gg_missing g) hc' hk), fun c8 => absurd c9 c8⟩)
  · exact L_missing_pf hc hm g (v := 1) q1 q2 (by omega) (fun k μ' hc' hm' hk => ⟨v1, v2, v3, fun c8 => absurd c8 c9, fun _ => m_missing hm' g (v := 1)  q1 q2 (by omega) (fin_i hN (gg_missing g) hc' hk)⟩)
theorem op_segments_x {S : GS} {t q : Int} : ∀ x9, (op_segments S t q).2 = .inr x9 → x9 = (xIO, 1) ∨ x9 = (xNE, 2) := by
  unfold op_segments
  repeat' split
  all_goals (intro x9 h; first | (cases h; done) | (cases h; simp; done))
theorem L_segments_pf {S : GS} {μ : Mem} {K : Int32 → Mem → Prop} (hc : CI S μ) (hm : MI S μ) (g : GOK S) {t q : Int} (q0 : (-2147483648 ≤ t ∧ t ≤ 2147483647)) (q1 : (-2147483648 ≤ q ∧ q ≤ 2147483647))  (hK : ∀ (k9 : Int32) (μ9 : Mem), CI (op_segments S t q).1 μ9 → MI S μ9 → Ans (op_segments S t q).2 k9 (fun z9 => μ9 5120 0 0 = J z9) → K k9 μ9) : L_segments_wp μ (J t) (J q) K := by
  unfold L_segments_wp
  refine c_segments hc g q0 q1 (cls_i (K := K) hm (fun x9 h9 => ?_) hK (fun x9 μ9 h9 hk => ?_))
  · rcases op_segments_x x9 h9 with rfl | rfl <;> decide
  · rcases op_segments_x x9 h9 with rfl | rfl
    · exact Or.inl ⟨rfl, hk⟩
    · exact Or.inr (⟨rfl, hk⟩)
theorem gg_segments {S : GS} (g : GOK S) {t q : Int} : GOK (op_segments S t q).1 := by
  unfold op_segments
  repeat' split
  all_goals exact g
theorem lc24_pf {S : GS} {μ : Mem} {xs : Nat → Int32} {L : Nat} {i : Int32} {N : Mem → Prop} (hc : CI S μ) (hm : MI S μ) (g : GOK S) (hi : ∀ d : Int32, 1 ≤ d → d ≤ 6 → vp_in (i + d) L) (hN : ∀ (S' : GS) (μ' : Mem), GOK S' → CI S' μ' → MI S' μ' → N μ') : lc24_wp xs L μ i N := by
  unfold lc24_wp
  obtain ⟨z1, q1, e1⟩ := J_of (xs (i + 1).toNatClampNeg)
  obtain ⟨z2, q2, e2⟩ := J_of (xs (i + 2).toNatClampNeg)
  have v1 := hi 1 (by decide) (by decide)
  have v2 := hi 2 (by decide) (by decide)
  rw [e1, e2]
  refine ⟨v1, v2, ?_⟩
  refine L_segments_pf hc hm g q1 q2 (fun k μ' hc' hm' hk => ?_)
  exact ⟨v1, v2, m_segments hm' g q1 q2 (fin_i hN (gg_segments g) hc' hk)⟩
theorem op_segment_x {S : GS} {t q a v : Int} : ∀ x9, (op_segment S t q a v).2 = .inr x9 → x9 = (xIO, 1) ∨ x9 = (xIA, 2) ∨ x9 = (xNE, 3) := by
  unfold op_segment
  repeat' split
  all_goals (intro x9 h; first | (cases h; done) | (cases h; simp; done))
theorem L_segment_pf {S : GS} {μ : Mem} {K : Int32 → Mem → Prop} (hc : CI S μ) (hm : MI S μ) (g : GOK S) {t q a v : Int} (q0 : (-2147483648 ≤ t ∧ t ≤ 2147483647)) (q1 : (-2147483648 ≤ q ∧ q ≤ 2147483647)) (q2 : (-2147483648 ≤ a ∧ a ≤ 2147483647)) (q3 : (-2147483648 ≤ v ∧ v ≤ 2147483647))  (hK : ∀ (k9 : Int32) (μ9 : Mem), CI (op_segment S t q a v).1 μ9 → MI S μ9 → Ans (op_segment S t q a v).2 k9 (fun z9 => μ9 5120 0 0 = J z9) → K k9 μ9) : L_segment_wp μ (J t) (J q) (J a) (J v) K := by
  unfold L_segment_wp
  refine c_segment hc g q0 q1 q2 q3 (cls_i (K := K) hm (fun x9 h9 => ?_) hK (fun x9 μ9 h9 hk => ?_))
  · rcases op_segment_x x9 h9 with rfl | rfl | rfl <;> decide
  · rcases op_segment_x x9 h9 with rfl | rfl | rfl
    · exact Or.inl ⟨rfl, hk⟩
    · exact Or.inr (Or.inl ⟨rfl, hk⟩)
    · exact Or.inr (Or.inr (⟨rfl, hk⟩))
theorem gg_segment {S : GS} (g : GOK S) {t q a v : Int} : GOK (op_segment S t q a v).1 := by
  unfold op_segment
  repeat' split
  all_goals exact g
theorem lc25_pf {S : GS} {μ : Mem} {xs : Nat → Int32} {L : Nat} {i : Int32} {N : Mem → Prop} (hc : CI S μ) (hm : MI S μ) (g : GOK S) (hi : ∀ d : Int32, 1 ≤ d → d ≤ 6 → vp_in (i + d) L) (hN : ∀ (S' : GS) (μ' : Mem), GOK S' → CI S' μ' → MI S' μ' → N μ') : lc25_wp xs L μ i N := by
  unfold lc25_wp
  obtain ⟨z1, q1, e1⟩ := J_of (xs (i + 1).toNatClampNeg)
  obtain ⟨z2, q2, e2⟩ := J_of (xs (i + 2).toNatClampNeg)
  obtain ⟨z3, q3, e3⟩ := J_of (xs (i + 3).toNatClampNeg)
  obtain ⟨z4, q4, e4⟩ := J_of (xs (i + 4).toNatClampNeg)
  have v1 := hi 1 (by decide) (by decide)
  have v2 := hi 2 (by decide) (by decide)
  have v3 := hi 3 (by decide) (by decide)
  have v4 := hi 4 (by decide) (by decide)
  rw [e1, e2, e3, e4]
  refine ⟨v1, v2, v3, v4, ?_⟩
  refine L_segment_pf hc hm g q1 q2 q3 q4 (fun k μ' hc' hm' hk => ?_)
  exact ⟨v1, v2, v3, v4, m_segment hm' g q1 q2 q3 q4 (fin_i hN (gg_segment g) hc' hk)⟩
theorem op_criticalTime_x {S : GS} {z : Int} : ∀ x9, (op_criticalTime S z).2 = .inr x9 → x9 = (xIO, 1) := by
  unfold op_criticalTime
  repeat' split
  all_goals (intro x9 h; first | (cases h; done) | (cases h; simp; done))
theorem L_criticalTime_pf {S : GS} {μ : Mem} {K : Int32 → Mem → Prop} (hc : CI S μ) (hm : MI S μ) (g : GOK S) {z : Int} (q0 : (-2147483648 ≤ z ∧ z ≤ 2147483647))  (hK : ∀ (k9 : Int32) (μ9 : Mem), CI (op_criticalTime S z).1 μ9 → MI S μ9 → Ans (op_criticalTime S z).2 k9 (fun z9 => μ9 5120 0 0 = J z9) → K k9 μ9) : L_criticalTime_wp μ (J z) K := by
  unfold L_criticalTime_wp
  refine c_criticalTime hc g q0 (cls_i (K := K) hm (fun x9 h9 => ?_) hK (fun x9 μ9 h9 hk => ?_))
  · rcases op_criticalTime_x x9 h9 with rfl <;> decide
  · rcases op_criticalTime_x x9 h9 with rfl
    · exact ⟨rfl, hk⟩
theorem gg_criticalTime {S : GS} (g : GOK S) {z : Int} : GOK (op_criticalTime S z).1 := by
  unfold op_criticalTime
  repeat' split
  all_goals exact g
theorem lc26_pf {S : GS} {μ : Mem} {xs : Nat → Int32} {L : Nat} {i : Int32} {N : Mem → Prop} (hc : CI S μ) (hm : MI S μ) (g : GOK S) (hi : ∀ d : Int32, 1 ≤ d → d ≤ 6 → vp_in (i + d) L) (hN : ∀ (S' : GS) (μ' : Mem), GOK S' → CI S' μ' → MI S' μ' → N μ') : lc26_wp xs L μ i N := by
  unfold lc26_wp
  obtain ⟨z1, q1, e1⟩ := J_of (xs (i + 1).toNatClampNeg)
  have v1 := hi 1 (by decide) (by decide)
  rw [e1]
  refine ⟨v1, ?_⟩
  refine L_criticalTime_pf hc hm g q1 (fun k μ' hc' hm' hk => ?_)
  exact ⟨v1, m_criticalTime hm' g q1 (fin_i hN (gg_criticalTime g) hc' hk)⟩
theorem op_criticalAt_x {S : GS} {t q m : Int} : ∀ x9, (op_criticalAt S t q m).2 = .inr x9 → x9 = (xIO, 1) ∨ x9 = (xNE, 2) := by
  unfold op_criticalAt
  repeat' split
  all_goals (intro x9 h; first | (cases h; done) | (cases h; simp; done))
theorem L_criticalAt_pf {S : GS} {μ : Mem} {K : Int32 → Mem → Prop} (hc : CI S μ) (hm : MI S μ) (g : GOK S) {t q m : Int} (q0 : (-2147483648 ≤ t ∧ t ≤ 2147483647)) (q1 : (-2147483648 ≤ q ∧ q ≤ 2147483647)) (q2 : (-2147483648 ≤ m ∧ m ≤ 2147483647))  (hK : ∀ (k9 : Int32) (μ9 : Mem), CI (op_criticalAt S t q m).1 μ9 → MI S μ9 → Ans (op_criticalAt S t q m).2 k9 (fun z9 => μ9 5120 0 0 = J z9) → K k9 μ9) : L_criticalAt_wp μ (J t) (J q) (J m) K := by
  unfold L_criticalAt_wp
  refine c_criticalAt hc g q0 q1 q2 (cls_i (K := K) hm (fun x9 h9 => ?_) hK (fun x9 μ9 h9 hk => ?_))
  · rcases op_criticalAt_x x9 h9 with rfl | rfl <;> decide
  · rcases op_criticalAt_x x9 h9 with rfl | rfl
    · exact Or.inl ⟨rfl, hk⟩
    · exact Or.inr (⟨rfl, hk⟩)
theorem gg_criticalAt {S : GS} (g : GOK S) {t q m : Int} : GOK (op_criticalAt S t q m).1 := by
  unfold op_criticalAt
  repeat' split
  all_goals exact g
theorem lc27_pf {S : GS} {μ : Mem} {xs : Nat → Int32} {L : Nat} {i : Int32} {N : Mem → Prop} (hc : CI S μ) (hm : MI S μ) (g : GOK S) (hi : ∀ d : Int32, 1 ≤ d → d ≤ 6 → vp_in (i + d) L) (hN : ∀ (S' : GS) (μ' : Mem), GOK S' → CI S' μ' → MI S' μ' → N μ') : lc27_wp xs L μ i N := by
  unfold lc27_wp
  obtain ⟨z1, q1, e1⟩ := J_of (xs (i + 1).toNatClampNeg)
  obtain ⟨z2, q2, e2⟩ := J_of (xs (i + 2).toNatClampNeg)
  obtain ⟨z3, q3, e3⟩ := J_of (xs (i + 3).toNatClampNeg)
  have v1 := hi 1 (by decide) (by decide)
  have v2 := hi 2 (by decide) (by decide)
  have v3 := hi 3 (by decide) (by decide)
  rw [e1, e2, e3]
  refine ⟨v1, v2, v3, ?_⟩
  refine L_criticalAt_pf hc hm g q1 q2 q3 (fun k μ' hc' hm' hk => ?_)
  exact ⟨v1, v2, v3, m_criticalAt hm' g q1 q2 q3 (fin_i hN (gg_criticalAt g) hc' hk)⟩
theorem op_selfTime_x {S : GS} {z : Int} : ∀ x9, (op_selfTime S z).2 = .inr x9 → x9 = (xIO, 1) := by
  unfold op_selfTime
  repeat' split
  all_goals (intro x9 h; first | (cases h; done) | (cases h; simp; done))
theorem L_selfTime_pf {S : GS} {μ : Mem} {K : Int32 → Mem → Prop} (hc : CI S μ) (hm : MI S μ) (g : GOK S) {z : Int} (q0 : (-2147483648 ≤ z ∧ z ≤ 2147483647))  (hK : ∀ (k9 : Int32) (μ9 : Mem), CI (op_selfTime S z).1 μ9 → MI S μ9 → Ans (op_selfTime S z).2 k9 (fun z9 => μ9 5120 0 0 = J z9) → K k9 μ9) : L_selfTime_wp μ (J z) K := by
  unfold L_selfTime_wp
  refine c_selfTime hc g q0 (cls_i (K := K) hm (fun x9 h9 => ?_) hK (fun x9 μ9 h9 hk => ?_))
  · rcases op_selfTime_x x9 h9 with rfl <;> decide
  · rcases op_selfTime_x x9 h9 with rfl
    · exact ⟨rfl, hk⟩
theorem gg_selfTime {S : GS} (g : GOK S) {z : Int} : GOK (op_selfTime S z).1 := by
  unfold op_selfTime
  repeat' split
  all_goals exact g
theorem lc28_pf {S : GS} {μ : Mem} {xs : Nat → Int32} {L : Nat} {i : Int32} {N : Mem → Prop} (hc : CI S μ) (hm : MI S μ) (g : GOK S) (hi : ∀ d : Int32, 1 ≤ d → d ≤ 6 → vp_in (i + d) L) (hN : ∀ (S' : GS) (μ' : Mem), GOK S' → CI S' μ' → MI S' μ' → N μ') : lc28_wp xs L μ i N := by
  unfold lc28_wp
  obtain ⟨z1, q1, e1⟩ := J_of (xs (i + 1).toNatClampNeg)
  have v1 := hi 1 (by decide) (by decide)
  rw [e1]
  refine ⟨v1, ?_⟩
  refine L_selfTime_pf hc hm g q1 (fun k μ' hc' hm' hk => ?_)
  exact ⟨v1, m_selfTime hm' g q1 (fin_i hN (gg_selfTime g) hc' hk)⟩
theorem op_parallel_x {S : GS} {z u : Int} : ∀ x9, (op_parallel S z u).2 = .inr x9 → x9 = (xIO, 1) := by
  unfold op_parallel
  repeat' split
  all_goals (intro x9 h; first | (cases h; done) | (cases h; simp; done))
theorem L_parallel_pf {S : GS} {μ : Mem} {K : Int32 → Mem → Prop} (hc : CI S μ) (hm : MI S μ) (g : GOK S) {z u : Int} (q0 : (-2147483648 ≤ z ∧ z ≤ 2147483647)) (q1 : (-2147483648 ≤ u ∧ u ≤ 2147483647))  (hK : ∀ (k9 : Int32) (μ9 : Mem), CI (op_parallel S z u).1 μ9 → MI S μ9 → Ans (op_parallel S z u).2 k9 (fun z9 => μ9 5120 0 0 = J z9) → K k9 μ9) : L_parallel_wp μ (J z) (J u) K := by
  unfold L_parallel_wp
  refine c_parallel hc g q0 q1 (cls_i (K := K) hm (fun x9 h9 => ?_) hK (fun x9 μ9 h9 hk => ?_))
  · rcases op_parallel_x x9 h9 with rfl <;> decide
  · rcases op_parallel_x x9 h9 with rfl
    · exact ⟨rfl, hk⟩
theorem gg_parallel {S : GS} (g : GOK S) {z u : Int} : GOK (op_parallel S z u).1 := by
  unfold op_parallel
  repeat' split
  all_goals exact g
theorem lc29_pf {S : GS} {μ : Mem} {xs : Nat → Int32} {L : Nat} {i : Int32} {N : Mem → Prop} (hc : CI S μ) (hm : MI S μ) (g : GOK S) (hi : ∀ d : Int32, 1 ≤ d → d ≤ 6 → vp_in (i + d) L) (hN : ∀ (S' : GS) (μ' : Mem), GOK S' → CI S' μ' → MI S' μ' → N μ') : lc29_wp xs L μ i N := by
  unfold lc29_wp
  obtain ⟨z1, q1, e1⟩ := J_of (xs (i + 1).toNatClampNeg)
  obtain ⟨z2, q2, e2⟩ := J_of (xs (i + 2).toNatClampNeg)
  have v1 := hi 1 (by decide) (by decide)
  have v2 := hi 2 (by decide) (by decide)
  rw [e1, e2]
  refine ⟨v1, v2, ?_⟩
  refine L_parallel_pf hc hm g q1 q2 (fun k μ' hc' hm' hk => ?_)
  exact ⟨v1, v2, m_parallel hm' g q1 q2 (fin_i hN (gg_parallel g) hc' hk)⟩
theorem op_isCause_x {S : GS} {z : Int} : ∀ x9, (op_isCause S z).2 = .inr x9 → x9 = (xIO, 1) := by
  unfold op_isCause
  repeat' split
  all_goals (intro x9 h; first | (cases h; done) | (cases h; simp; done))
theorem L_isCause_pf {S : GS} {μ : Mem} {K : Int32 → Mem → Prop} (hc : CI S μ) (hm : MI S μ) (g : GOK S) {z : Int} (q0 : (-2147483648 ≤ z ∧ z ≤ 2147483647))  (hb : ∀ z9, (op_isCause S z).2 = .inl z9 → z9 = 0 ∨ z9 = 1) (hK : ∀ (k9 : Int32) (μ9 : Mem), CI (op_isCause S z).1 μ9 → MI S μ9 → Ans (op_isCause S z).2 k9 (fun z9 => μ9 5120 0 0 = J z9) → K k9 μ9) : L_isCause_wp μ (J z) K := by
  unfold L_isCause_wp
  refine c_isCause hc g q0 (cls_b (K := K) hm (fun x9 h9 => ?_) hK (fun x9 μ9 h9 hk => ?_) hb)
  · rcases op_isCause_x x9 h9 with rfl <;> decide
  · rcases op_isCause_x x9 h9 with rfl
    · exact ⟨rfl, hk⟩
theorem gg_isCause {S : GS} (g : GOK S) {z : Int} : GOK (op_isCause S z).1 := by
  unfold op_isCause
  repeat' split
  all_goals exact g
theorem lc30_pf {S : GS} {μ : Mem} {xs : Nat → Int32} {L : Nat} {i : Int32} {N : Mem → Prop} (hc : CI S μ) (hm : MI S μ) (g : GOK S) (hi : ∀ d : Int32, 1 ≤ d → d ≤ 6 → vp_in (i + d) L) (hN : ∀ (S' : GS) (μ' : Mem), GOK S' → CI S' μ' → MI S' μ' → N μ') : lc30_wp xs L μ i N := by
  unfold lc30_wp
  obtain ⟨z1, q1, e1⟩ := J_of (xs (i + 1).toNatClampNeg)
  have v1 := hi 1 (by decide) (by decide)
  rw [e1]
  refine ⟨v1, ?_⟩
  refine L_isCause_pf hc hm g q1 (opb_isCause g) (fun k μ' hc' hm' hk => ?_)
  exact ⟨v1, m_isCause hm' g q1 (fin_b hN (gg_isCause g) hc' hk (opb_isCause g))⟩
theorem op_cause_x {S : GS} {t a : Int} : ∀ x9, (op_cause S t a).2 = .inr x9 → x9 = (xIO, 1) ∨ x9 = (xNE, 2) := by
  unfold op_cause
  repeat' split
  all_goals (intro x9 h; first | (cases h; done) | (cases h; simp; done))
theorem L_cause_pf {S : GS} {μ : Mem} {K : Int32 → Mem → Prop} (hc : CI S μ) (hm : MI S μ) (g : GOK S) {t a : Int} (q0 : (-2147483648 ≤ t ∧ t ≤ 2147483647)) (q1 : (-2147483648 ≤ a ∧ a ≤ 2147483647))  (hK : ∀ (k9 : Int32) (μ9 : Mem), CI (op_cause S t a).1 μ9 → MI S μ9 → Ans (op_cause S t a).2 k9 (fun z9 => μ9 5120 0 0 = J z9) → K k9 μ9) : L_cause_wp μ (J t) (J a) K := by
  unfold L_cause_wp
  refine c_cause hc g q0 q1 (cls_i (K := K) hm (fun x9 h9 => ?_) hK (fun x9 μ9 h9 hk => ?_))
  · rcases op_cause_x x9 h9 with rfl | rfl <;> decide
  · rcases op_cause_x x9 h9 with rfl | rfl
    · exact Or.inl ⟨rfl, hk⟩
    · exact Or.inr (⟨rfl, hk⟩)
theorem gg_cause {S : GS} (g : GOK S) {t a : Int} : GOK (op_cause S t a).1 := by
  unfold op_cause
  repeat' split
  all_goals exact g
theorem lc31_pf {S : GS} {μ : Mem} {xs : Nat → Int32} {L : Nat} {i : Int32} {N : Mem → Prop} (hc : CI S μ) (hm : MI S μ) (g : GOK S) (hi : ∀ d : Int32, 1 ≤ d → d ≤ 6 → vp_in (i + d) L) (hN : ∀ (S' : GS) (μ' : Mem), GOK S' → CI S' μ' → MI S' μ' → N μ') : lc31_wp xs L μ i N := by
  unfold lc31_wp
  obtain ⟨z1, q1, e1⟩ := J_of (xs (i + 1).toNatClampNeg)
  obtain ⟨z2, q2, e2⟩ := J_of (xs (i + 2).toNatClampNeg)
  have v1 := hi 1 (by decide) (by decide)
  have v2 := hi 2 (by decide) (by decide)
  rw [e1, e2]
  refine ⟨v1, v2, ?_⟩
  refine L_cause_pf hc hm g q1 q2 (fun k μ' hc' hm' hk => ?_)
  exact ⟨v1, v2, m_cause hm' g q1 q2 (fin_i hN (gg_cause g) hc' hk)⟩
theorem op_service_x {S : GS} {s v : Int} : ∀ x9, (op_service S s v).2 = .inr x9 → x9 = (xIO, 1) ∨ x9 = (xIA, 2) := by
  unfold op_service
  repeat' split
  all_goals (intro x9 h; first | (cases h; done) | (cases h; simp; done))
theorem L_service_pf {S : GS} {μ : Mem} {K : Int32 → Mem → Prop} (hc : CI S μ) (hm : MI S μ) (g : GOK S) {s v : Int} (q0 : (-2147483648 ≤ s ∧ s ≤ 2147483647)) (q1 : (-2147483648 ≤ v ∧ v ≤ 2147483647))  (hK : ∀ (k9 : Int32) (μ9 : Mem), CI (op_service S s v).1 μ9 → MI S μ9 → Ans (op_service S s v).2 k9 (fun z9 => μ9 5120 0 0 = J z9) → K k9 μ9) : L_service_wp μ (J s) (J v) K := by
  unfold L_service_wp
  refine c_service hc g q0 q1 (cls_i (K := K) hm (fun x9 h9 => ?_) hK (fun x9 μ9 h9 hk => ?_))
  · rcases op_service_x x9 h9 with rfl | rfl <;> decide
  · rcases op_service_x x9 h9 with rfl | rfl
    · exact Or.inl ⟨rfl, hk⟩
    · exact Or.inr (⟨rfl, hk⟩)
theorem gg_service {S : GS} (g : GOK S) {s v : Int} : GOK (op_service S s v).1 := by
  unfold op_service
  repeat' split
  all_goals exact g
theorem lc33_pf {S : GS} {μ : Mem} {xs : Nat → Int32} {L : Nat} {i : Int32} {N : Mem → Prop} (hc : CI S μ) (hm : MI S μ) (g : GOK S) (hi : ∀ d : Int32, 1 ≤ d → d ≤ 6 → vp_in (i + d) L) (hN : ∀ (S' : GS) (μ' : Mem), GOK S' → CI S' μ' → MI S' μ' → N μ') : lc33_wp xs L μ i N := by
  unfold lc33_wp
  obtain ⟨z1, q1, e1⟩ := J_of (xs (i + 1).toNatClampNeg)
  obtain ⟨z2, q2, e2⟩ := J_of (xs (i + 2).toNatClampNeg)
  have v1 := hi 1 (by decide) (by decide)
  have v2 := hi 2 (by decide) (by decide)
  rw [e1, e2]
  refine ⟨v1, v2, ?_⟩
  refine L_service_pf hc hm g q1 q2 (fun k μ' hc' hm' hk => ?_)
  exact ⟨v1, v2, m_service hm' g q1 q2 (fin_i hN (gg_service g) hc' hk)⟩
theorem op_quantile_x {S : GS} {s p : Int} : ∀ x9, (op_quantile S s p).2 = .inr x9 → x9 = (xIO, 1) ∨ x9 = (xIA, 2) ∨ x9 = (xNE, 3) := by
  unfold op_quantile
  repeat' split
  all_goals (intro x9 h; first | (cases h; done) | (cases h; simp; done))
theorem L_quantile_pf {S : GS} {μ : Mem} {K : Int32 → Mem → Prop} (hc : CI S μ) (hm : MI S μ) (g : GOK S) {s p : Int} (q0 : (-2147483648 ≤ s ∧ s ≤ 2147483647)) (q1 : (-2147483648 ≤ p ∧ p ≤ 2147483647))  (hK : ∀ (k9 : Int32) (μ9 : Mem), CI (op_quantile S s p).1 μ9 → MI S μ9 → Ans (op_quantile S s p).2 k9 (fun z9 => μ9 5120 0 0 = J z9) → K k9 μ9) : L_quantile_wp μ (J s) (J p) K := by
  unfold L_quantile_wp
  refine c_quantile hc g q0 q1 (cls_i (K := K) hm (fun x9 h9 => ?_) hK (fun x9 μ9 h9 hk => ?_))
  · rcases op_quantile_x x9 h9 with rfl | rfl | rfl <;> decide
  · rcases op_quantile_x x9 h9 with rfl | rfl | rfl
    · exact Or.inl ⟨rfl, hk⟩
    · exact Or.inr (Or.inl ⟨rfl, hk⟩)
    · exact Or.inr (Or.inr (⟨rfl, hk⟩))
theorem gg_quantile {S : GS} (g : GOK S) {s p : Int} : GOK (op_quantile S s p).1 := by
  unfold op_quantile
  repeat' split
  all_goals exact g
theorem lc34_pf {S : GS} {μ : Mem} {xs : Nat → Int32} {L : Nat} {i : Int32} {N : Mem → Prop} (hc : CI S μ) (hm : MI S μ) (g : GOK S) (hi : ∀ d : Int32, 1 ≤ d → d ≤ 6 → vp_in (i + d) L) (hN : ∀ (S' : GS) (μ' : Mem), GOK S' → CI S' μ' → MI S' μ' → N μ') : lc34_wp xs L μ i N := by
  unfold lc34_wp
  obtain ⟨z1, q1, e1⟩ := J_of (xs (i + 1).toNatClampNeg)
  obtain ⟨z2, q2, e2⟩ := J_of (xs (i + 2).toNatClampNeg)
  have v1 := hi 1 (by decide) (by decide)
  have v2 := hi 2 (by decide) (by decide)
  rw [e1, e2]
  refine ⟨v1, v2, ?_⟩
  refine L_quantile_pf hc hm g q1 q2 (fun k μ' hc' hm' hk => ?_)
  exact ⟨v1, v2, m_quantile hm' g q1 q2 (fin_i hN (gg_quantile g) hc' hk)⟩
theorem op_extent_x {S : GS} {t : Int} : ∀ x9, (op_extent S t).2 = .inr x9 → x9 = (xIO, 1) ∨ x9 = (xNE, 2) := by
  unfold op_extent
  repeat' split
  all_goals (intro x9 h; first | (cases h; done) | (cases h; simp; done))
theorem L_extent_pf {S : GS} {μ : Mem} {K : Int32 → Mem → Prop} (hc : CI S μ) (hm : MI S μ) (g : GOK S) {t : Int} (q0 : (-2147483648 ≤ t ∧ t ≤ 2147483647))  (hK : ∀ (k9 : Int32) (μ9 : Mem), CI (op_extent S t).1 μ9 → MI S μ9 → Ans (op_extent S t).2 k9 (fun z9 => μ9 5120 0 0 = J z9) → K k9 μ9) : L_extent_wp μ (J t) K := by
  unfold L_extent_wp
  refine c_extent hc g q0 (cls_i (K := K) hm (fun x9 h9 => ?_) hK (fun x9 μ9 h9 hk => ?_))
  · rcases op_extent_x x9 h9 with rfl | rfl <;> decide
  · rcases op_extent_x x9 h9 with rfl | rfl
    · exact Or.inl ⟨rfl, hk⟩
    · exact Or.inr (⟨rfl, hk⟩)
theorem gg_extent {S : GS} (g : GOK S) {t : Int} : GOK (op_extent S t).1 := by
  unfold op_extent
  repeat' split
  all_goals exact g
theorem lc35_pf {S : GS} {μ : Mem} {xs : Nat → Int32} {L : Nat} {i : Int32} {N : Mem → Prop} (hc : CI S μ) (hm : MI S μ) (g : GOK S) (hi : ∀ d : Int32, 1 ≤ d → d ≤ 6 → vp_in (i + d) L) (hN : ∀ (S' : GS) (μ' : Mem), GOK S' → CI S' μ' → MI S' μ' → N μ') : lc35_wp xs L μ i N := by
  unfold lc35_wp
  obtain ⟨z1, q1, e1⟩ := J_of (xs (i + 1).toNatClampNeg)
  have v1 := hi 1 (by decide) (by decide)
  rw [e1]
  refine ⟨v1, ?_⟩
  refine L_extent_pf hc hm g q1 (fun k μ' hc' hm' hk => ?_)
  exact ⟨v1, m_extent hm' g q1 (fin_i hN (gg_extent g) hc' hk)⟩
theorem op_busiest_x {S : GS} {t : Int} : ∀ x9, (op_busiest S t).2 = .inr x9 → x9 = (xIO, 1) ∨ x9 = (xNE, 2) ∨ x9 = (xAR, 3) := by
  unfold op_busiest
  repeat' split
  all_goals (intro x9 h; first | (cases h; done) | (cases h; simp; done))
theorem L_busiest_pf {S : GS} {μ : Mem} {K : Int32 → Mem → Prop} (hc : CI S μ) (hm : MI S μ) (g : GOK S) {t : Int} (q0 : (-2147483648 ≤ t ∧ t ≤ 2147483647))  (hK : ∀ (k9 : Int32) (μ9 : Mem), CI (op_busiest S t).1 μ9 → MI S μ9 → Ans (op_busiest S t).2 k9 (fun z9 => μ9 5120 0 0 = J z9) → K k9 μ9) : L_busiest_wp μ (J t) K := by
  unfold L_busiest_wp
  refine c_busiest hc g q0 (cls_i (K := K) hm (fun x9 h9 => ?_) hK (fun x9 μ9 h9 hk => ?_))
  · rcases op_busiest_x x9 h9 with rfl | rfl | rfl <;> decide
  · rcases op_busiest_x x9 h9 with rfl | rfl | rfl
    · exact Or.inl ⟨rfl, hk⟩
    · exact Or.inr (Or.inl ⟨rfl, hk⟩)
    · exact Or.inr (Or.inr (⟨rfl, hk⟩))
theorem gg_busiest {S : GS} (g : GOK S) {t : Int} : GOK (op_busiest S t).1 := by
  unfold op_busiest
  repeat' split
  all_goals exact g
theorem lc37_pf {S : GS} {μ : Mem} {xs : Nat → Int32} {L : Nat} {i : Int32} {N : Mem → Prop} (hc : CI S μ) (hm : MI S μ) (g : GOK S) (hi : ∀ d : Int32, 1 ≤ d → d ≤ 6 → vp_in (i + d) L) (hN : ∀ (S' : GS) (μ' : Mem), GOK S' → CI S' μ' → MI S' μ' → N μ') : lc37_wp xs L μ i N := by
  unfold lc37_wp
  obtain ⟨z1, q1, e1⟩ := J_of (xs (i + 1).toNatClampNeg)
  have v1 := hi 1 (by decide) (by decide)
  rw [e1]
  refine ⟨v1, ?_⟩
  refine L_busiest_pf hc hm g q1 (fun k μ' hc' hm' hk => ?_)
  exact ⟨v1, m_busiest hm' g q1 (fin_i hN (gg_busiest g) hc' hk)⟩
theorem op_link_x {S : GS} {a b : Int} : ∀ x9, (op_link S a b).2 = .inr x9 → x9 = (xIO, 1) ∨ x9 = (xIA, 2) ∨ x9 = (xIS, 3) := by
  unfold op_link
  repeat' split
  all_goals (intro x9 h; first | (cases h; done) | (cases h; simp; done))
theorem L_link_pf {S : GS} {μ : Mem} {K : Int32 → Mem → Prop} (hc : CI S μ) (hm : MI S μ) (g : GOK S) {a b : Int} (q0 : (-2147483648 ≤ a ∧ a ≤ 2147483647)) (q1 : (-2147483648 ≤ b ∧ b ≤ 2147483647))  (hK : ∀ (k9 : Int32) (μ9 : Mem), CI (op_link S a b).1 μ9 → MI S μ9 → Ans (op_link S a b).2 k9 (fun z9 => μ9 5120 0 0 = J z9) → K k9 μ9) : L_link_wp μ (J a) (J b) K := by
  unfold L_link_wp
  refine c_link hc g q0 q1 (cls_i (K := K) hm (fun x9 h9 => ?_) hK (fun x9 μ9 h9 hk => ?_))
  · rcases op_link_x x9 h9 with rfl | rfl | rfl <;> decide
  · rcases op_link_x x9 h9 with rfl | rfl | rfl
    · exact Or.inl ⟨rfl, hk⟩
    · exact Or.inr (Or.inl ⟨rfl, hk⟩)
    · exact Or.inr (Or.inr (⟨rfl, hk⟩))
theorem lc38_pf {S : GS} {μ : Mem} {xs : Nat → Int32} {L : Nat} {i : Int32} {N : Mem → Prop} (hc : CI S μ) (hm : MI S μ) (g : GOK S) (hi : ∀ d : Int32, 1 ≤ d → d ≤ 6 → vp_in (i + d) L) (hN : ∀ (S' : GS) (μ' : Mem), GOK S' → CI S' μ' → MI S' μ' → N μ') : lc38_wp xs L μ i N := by
  unfold lc38_wp
  obtain ⟨z1, q1, e1⟩ := J_of (xs (i + 1).toNatClampNeg)
  obtain ⟨z2, q2, e2⟩ := J_of (xs (i + 2).toNatClampNeg)
  have v1 := hi 1 (by decide) (by decide)
  have v2 := hi 2 (by decide) (by decide)
  rw [e1, e2]
  refine ⟨v1, v2, ?_⟩
  refine L_link_pf hc hm g q1 q2 (fun k μ' hc' hm' hk => ?_)
  exact ⟨v1, v2, m_link hm' g q1 q2 (fin_i hN (g_link g) hc' hk)⟩
theorem op_unlink_x {S : GS} {q : Int} : ∀ x9, (op_unlink S q).2 = .inr x9 → x9 = (xIO, 1) := by
  unfold op_unlink
  repeat' split
  all_goals (intro x9 h; first | (cases h; done) | (cases h; simp; done))
theorem L_unlink_pf {S : GS} {μ : Mem} {K : Int32 → Mem → Prop} (hc : CI S μ) (hm : MI S μ) (g : GOK S) {q : Int} (q0 : (-2147483648 ≤ q ∧ q ≤ 2147483647))  (hK : ∀ (k9 : Int32) (μ9 : Mem), CI (op_unlink S q).1 μ9 → MI S μ9 → Ans (op_unlink S q).2 k9 (fun z9 => μ9 5120 0 0 = J z9) → K k9 μ9) : L_unlink_wp μ (J q) K := by
  unfold L_unlink_wp
  refine c_unlink hc g q0 (cls_i (K := K) hm (fun x9 h9 => ?_) hK (fun x9 μ9 h9 hk => ?_))
  · rcases op_unlink_x x9 h9 with rfl <;> decide
  · rcases op_unlink_x x9 h9 with rfl
    · exact ⟨rfl, hk⟩
theorem lc39_pf {S : GS} {μ : Mem} {xs : Nat → Int32} {L : Nat} {i : Int32} {N : Mem → Prop} (hc : CI S μ) (hm : MI S μ) (g : GOK S) (hi : ∀ d : Int32, 1 ≤ d → d ≤ 6 → vp_in (i + d) L) (hN : ∀ (S' : GS) (μ' : Mem), GOK S' → CI S' μ' → MI S' μ' → N μ') : lc39_wp xs L μ i N := by
  unfold lc39_wp
  obtain ⟨z1, q1, e1⟩ := J_of (xs (i + 1).toNatClampNeg)
  have v1 := hi 1 (by decide) (by decide)
  rw [e1]
  refine ⟨v1, ?_⟩
  refine L_unlink_pf hc hm g q1 (fun k μ' hc' hm' hk => ?_)
  exact ⟨v1, m_unlink hm' g q1 (fin_i hN (g_unlink g) hc' hk)⟩
theorem op_linkDelay_x {S : GS} {q : Int} : ∀ x9, (op_linkDelay S q).2 = .inr x9 → x9 = (xIO, 1) := by
  unfold op_linkDelay
  repeat' split
  all_goals (intro x9 h; first | (cases h; done) | (cases h; simp; done))
theorem L_linkDelay_pf {S : GS} {μ : Mem} {K : Int32 → Mem → Prop} (hc : CI S μ) (hm : MI S μ) (g : GOK S) {q : Int} (q0 : (-2147483648 ≤ q ∧ q ≤ 2147483647))  (hK : ∀ (k9 : Int32) (μ9 : Mem), CI (op_linkDelay S q).1 μ9 → MI S μ9 → Ans (op_linkDelay S q).2 k9 (fun z9 => μ9 5120 0 0 = J z9) → K k9 μ9) : L_linkDelay_wp μ (J q) K := by
  unfold L_linkDelay_wp
  refine c_linkDelay hc g q0 (cls_i (K := K) hm (fun x9 h9 => ?_) hK (fun x9 μ9 h9 hk => ?_))
  · rcases op_linkDelay_x x9 h9 with rfl <;> decide
  · rcases op_linkDelay_x x9 h9 with rfl
    · exact ⟨rfl, hk⟩
theorem gg_linkDelay {S : GS} (g : GOK S) {q : Int} : GOK (op_linkDelay S q).1 := by
  unfold op_linkDelay
  repeat' split
  all_goals exact g
theorem lc41_pf {S : GS} {μ : Mem} {xs : Nat → Int32} {L : Nat} {i : Int32} {N : Mem → Prop} (hc : CI S μ) (hm : MI S μ) (g : GOK S) (hi : ∀ d : Int32, 1 ≤ d → d ≤ 6 → vp_in (i + d) L) (hN : ∀ (S' : GS) (μ' : Mem), GOK S' → CI S' μ' → MI S' μ' → N μ') : lc41_wp xs L μ i N := by
  unfold lc41_wp
  obtain ⟨z1, q1, e1⟩ := J_of (xs (i + 1).toNatClampNeg)
  have v1 := hi 1 (by decide) (by decide)
  rw [e1]
  refine ⟨v1, ?_⟩
  refine L_linkDelay_pf hc hm g q1 (fun k μ' hc' hm' hk => ?_)
  exact ⟨v1, m_linkDelay hm' g q1 (fin_i hN (gg_linkDelay g) hc' hk)⟩
theorem op_linkedTraces_x {S : GS} {t : Int} : ∀ x9, (op_linkedTraces S t).2 = .inr x9 → x9 = (xIO, 1) := by
  unfold op_linkedTraces
  repeat' split
  all_goals (intro x9 h; first | (cases h; done) | (cases h; simp; done))
theorem L_linkedTraces_pf {S : GS} {μ : Mem} {K : Int32 → Mem → Prop} (hc : CI S μ) (hm : MI S μ) (g : GOK S) {t : Int} (q0 : (-2147483648 ≤ t ∧ t ≤ 2147483647))  (hK : ∀ (k9 : Int32) (μ9 : Mem), CI (op_linkedTraces S t).1 μ9 → MI S μ9 → Ans (op_linkedTraces S t).2 k9 (fun z9 => μ9 5120 0 0 = J z9) → K k9 μ9) : L_linkedTraces_wp μ (J t) K := by
  unfold L_linkedTraces_wp
  refine c_linkedTraces hc g q0 (cls_i (K := K) hm (fun x9 h9 => ?_) hK (fun x9 μ9 h9 hk => ?_))
  · rcases op_linkedTraces_x x9 h9 with rfl <;> decide
  · rcases op_linkedTraces_x x9 h9 with rfl
    · exact ⟨rfl, hk⟩
theorem gg_linkedTraces {S : GS} (g : GOK S) {t : Int} : GOK (op_linkedTraces S t).1 := by
  unfold op_linkedTraces
  repeat' split
  all_goals exact g
theorem lc42_pf {S : GS} {μ : Mem} {xs : Nat → Int32} {L : Nat} {i : Int32} {N : Mem → Prop} (hc : CI S μ) (hm : MI S μ) (g : GOK S) (hi : ∀ d : Int32, 1 ≤ d → d ≤ 6 → vp_in (i + d) L) (hN : ∀ (S' : GS) (μ' : Mem), GOK S' → CI S' μ' → MI S' μ' → N μ') : lc42_wp xs L μ i N := by
  unfold lc42_wp
  obtain ⟨z1, q1, e1⟩ := J_of (xs (i + 1).toNatClampNeg)
  have v1 := hi 1 (by decide) (by decide)
  rw [e1]
  refine ⟨v1, ?_⟩
  refine L_linkedTraces_pf hc hm g q1 (fun k μ' hc' hm' hk => ?_)
  exact ⟨v1, m_linkedTraces hm' g q1 (fin_i hN (gg_linkedTraces g) hc' hk)⟩
theorem op_bookmark_x {S : GS} {k p t q : Int} : ∀ x9, (op_bookmark S k p t q).2 = .inr x9 → x9 = (xIO, 1) ∨ x9 = (xNE, 2) ∨ x9 = (xUO, 3) := by
  unfold op_bookmark
  repeat' split
  all_goals (intro x9 h; first | (cases h; done) | (cases h; simp; done))
theorem L_bookmark_pf {S : GS} {μ : Mem} {K : Int32 → Mem → Prop} (hc : CI S μ) (hm : MI S μ) (g : GOK S) {k p t q : Int} (q0 : (-2147483648 ≤ k ∧ k ≤ 2147483647)) (q1 : (-2147483648 ≤ p ∧ p ≤ 2147483647)) (q2 : (-2147483648 ≤ t ∧ t ≤ 2147483647)) (q3 : (-2147483648 ≤ q ∧ q ≤ 2147483647))  (hK : ∀ (k9 : Int32) (μ9 : Mem), CI (op_bookmark S k p t q).1 μ9 → MI S μ9 → Ans (op_bookmark S k p t q).2 k9 (fun z9 => μ9 5120 0 0 = J z9) → K k9 μ9) : L_bookmark_wp μ (J k) (J p) (J t) (J q) K := by
  unfold L_bookmark_wp
  refine c_bookmark hc g q0 q1 q2 q3 (cls_i (K := K) hm (fun x9 h9 => ?_) hK (fun x9 μ9 h9 hk => ?_))
  · rcases op_bookmark_x x9 h9 with rfl | rfl | rfl <;> decide
  · rcases op_bookmark_x x9 h9 with rfl | rfl | rfl
    · exact Or.inl ⟨rfl, hk⟩
    · exact Or.inr (Or.inl ⟨rfl, hk⟩)
    · exact Or.inr (Or.inr (⟨rfl, hk⟩))
theorem lc43_pf {S : GS} {μ : Mem} {xs : Nat → Int32} {L : Nat} {i : Int32} {N : Mem → Prop} (hc : CI S μ) (hm : MI S μ) (g : GOK S) (hi : ∀ d : Int32, 1 ≤ d → d ≤ 6 → vp_in (i + d) L) (hN : ∀ (S' : GS) (μ' : Mem), GOK S' → CI S' μ' → MI S' μ' → N μ') : lc43_wp xs L μ i N := by
  unfold lc43_wp
  obtain ⟨z1, q1, e1⟩ := J_of (xs (i + 1).toNatClampNeg)
  obtain ⟨z2, q2, e2⟩ := J_of (xs (i + 2).toNatClampNeg)
  obtain ⟨z3, q3, e3⟩ := J_of (xs (i + 3).toNatClampNeg)
  obtain ⟨z4, q4, e4⟩ := J_of (xs (i + 4).toNatClampNeg)
  have v1 := hi 1 (by decide) (by decide)
  have v2 := hi 2 (by decide) (by decide)
  have v3 := hi 3 (by decide) (by decide)
  have v4 := hi 4 (by decide) (by decide)
  rw [e1, e2, e3, e4]
  refine ⟨v1, v2, v3, v4, ?_⟩
  refine L_bookmark_pf hc hm g q1 q2 q3 q4 (fun k μ' hc' hm' hk => ?_)
  exact ⟨v1, v2, v3, v4, m_bookmark hm' g q1 q2 q3 q4 (fin_i hN (g_bookmark g) hc' hk)⟩
theorem op_bookmarked_x {S : GS} {k p : Int} : ∀ x9, (op_bookmarked S k p).2 = .inr x9 → x9 = (xIO, 1) ∨ x9 = (xNE, 2) := by
  unfold op_bookmarked
  repeat' split
  all_goals (intro x9 h; first | (cases h; done) | (cases h; simp; done))
theorem L_bookmarked_pf {S : GS} {μ : Mem} {K : Int32 → Mem → Prop} (hc : CI S μ) (hm : MI S μ) (g : GOK S) {k p : Int} (q0 : (-2147483648 ≤ k ∧ k ≤ 2147483647)) (q1 : (-2147483648 ≤ p ∧ p ≤ 2147483647))  (hK : ∀ (k9 : Int32) (μ9 : Mem), CI (op_bookmarked S k p).1 μ9 → MI S μ9 → Ans (op_bookmarked S k p).2 k9 (fun z9 => μ9 5120 0 0 = J z9) → K k9 μ9) : L_bookmarked_wp μ (J k) (J p) K := by
  unfold L_bookmarked_wp
  refine c_bookmarked hc g q0 q1 (cls_i (K := K) hm (fun x9 h9 => ?_) hK (fun x9 μ9 h9 hk => ?_))
  · rcases op_bookmarked_x x9 h9 with rfl | rfl <;> decide
  · rcases op_bookmarked_x x9 h9 with rfl | rfl
    · exact Or.inl ⟨rfl, hk⟩
    · exact Or.inr (⟨rfl, hk⟩)
theorem gg_bookmarked {S : GS} (g : GOK S) {k p : Int} : GOK (op_bookmarked S k p).1 := by
  unfold op_bookmarked
  repeat' split
  all_goals exact g
theorem lc44_pf {S : GS} {μ : Mem} {xs : Nat → Int32} {L : Nat} {i : Int32} {N : Mem → Prop} (hc : CI S μ) (hm : MI S μ) (g : GOK S) (hi : ∀ d : Int32, 1 ≤ d → d ≤ 6 → vp_in (i + d) L) (hN : ∀ (S' : GS) (μ' : Mem), GOK S' → CI S' μ' → MI S' μ' → N μ') : lc44_wp xs L μ i N := by
  unfold lc44_wp
  obtain ⟨z1, q1, e1⟩ := J_of (xs (i + 1).toNatClampNeg)
  obtain ⟨z2, q2, e2⟩ := J_of (xs (i + 2).toNatClampNeg)
  have v1 := hi 1 (by decide) (by decide)
  have v2 := hi 2 (by decide) (by decide)
  rw [e1, e2]
  refine ⟨v1, v2, ?_⟩
  refine L_bookmarked_pf hc hm g q1 q2 (fun k μ' hc' hm' hk => ?_)
  exact ⟨v1, v2, m_bookmarked hm' g q1 q2 (fin_i hN (gg_bookmarked g) hc' hk)⟩
theorem op_append_x {S : GS} {v : Int} : ∀ x9, (op_append S v).2 = .inr x9 → x9 = (xIA, 1) ∨ x9 = (xIS, 2) := by
  unfold op_append
  repeat' split
  all_goals (intro x9 h; first | (cases h; done) | (cases h; simp; done))
theorem L_append_pf {S : GS} {μ : Mem} {K : Int32 → Mem → Prop} (hc : CI S μ) (hm : MI S μ) (g : GOK S) {v : Int} (q0 : (-2147483648 ≤ v ∧ v ≤ 2147483647))  (hK : ∀ (k9 : Int32) (μ9 : Mem), CI (op_append S v).1 μ9 → MI S μ9 → Ans (op_append S v).2 k9 (fun z9 => μ9 5120 0 0 = J z9) → K k9 μ9) : L_append_wp μ (J v) K := by
  unfold L_append_wp
  refine c_append hc g q0 (cls_i (K := K) hm (fun x9 h9 => ?_) hK (fun x9 μ9 h9 hk => ?_))
  · rcases op_append_x x9 h9 with rfl | rfl <;> decide
  · rcases op_append_x x9 h9 with rfl | rfl
    · exact Or.inl ⟨rfl, hk⟩
    · exact Or.inr (⟨rfl, hk⟩)
theorem op_read_x {S : GS} : ∀ x9, (op_read S).2 = .inr x9 → x9 = (xIA, 1) ∨ x9 = (xIS, 2) := by
  unfold op_read
  repeat' split
  all_goals (intro x9 h; first | (cases h; done) | (cases h; simp; done))
theorem L_read_pf {S : GS} {μ : Mem} {K : Int32 → Mem → Prop} (hc : CI S μ) (hm : MI S μ) (g : GOK S)   (hK : ∀ (k9 : Int32) (μ9 : Mem), CI (op_read S).1 μ9 → MI S μ9 → Ans (op_read S).2 k9 (fun z9 => μ9 5120 0 0 = J z9) → K k9 μ9) : L_read_wp μ K := by
  unfold L_read_wp
  refine c_read hc g  (cls_i (K := K) hm (fun x9 h9 => ?_) hK (fun x9 μ9 h9 hk => ?_))
  · rcases op_read_x x9 h9 with rfl | rfl <;> decide
  · rcases op_read_x x9 h9 with rfl | rfl
    · exact Or.inl ⟨rfl, hk⟩
    · exact Or.inr (⟨rfl, hk⟩)
theorem lc46_pf {S : GS} {μ : Mem} {xs : Nat → Int32} {L : Nat} {i : Int32} {N : Mem → Prop} (hc : CI S μ) (hm : MI S μ) (g : GOK S) (hi : ∀ d : Int32, 1 ≤ d → d ≤ 6 → vp_in (i + d) L) (hN : ∀ (S' : GS) (μ' : Mem), GOK S' → CI S' μ' → MI S' μ' → N μ') : lc46_wp xs L μ i N := by
  unfold lc46_wp
  refine L_read_pf hc hm g  (fun k μ' hc' hm' hk => ?_)
  exact m_read hm' g  (fin_i hN (g_read g) hc' hk)
theorem op_errorPosition_x {S : GS} : ∀ x9, (op_errorPosition S).2 = .inr x9 → x9 = (xNE, 1) := by
  unfold op_errorPosition
  repeat' split
  all_goals (intro x9 h; first | (cases h; done) | (cases h; simp; done))
theorem L_errorPosition_pf {S : GS} {μ : Mem} {K : Int32 → Mem → Prop} (hc : CI S μ) (hm : MI S μ) (g : GOK S)   (hK : ∀ (k9 : Int32) (μ9 : Mem), CI (op_errorPosition S).1 μ9 → MI S μ9 → Ans (op_errorPosition S).2 k9 (fun z9 => μ9 5120 0 0 = J z9) → K k9 μ9) : L_errorPosition_wp μ K := by
  unfold L_errorPosition_wp
  refine c_errorPosition hc g  (cls_i (K := K) hm (fun x9 h9 => ?_) hK (fun x9 μ9 h9 hk => ?_))
  · rcases op_errorPosition_x x9 h9 with rfl <;> decide
  · rcases op_errorPosition_x x9 h9 with rfl
    · exact ⟨rfl, hk⟩
theorem gg_errorPosition {S : GS} (g : GOK S) : GOK (op_errorPosition S).1 := by
  unfold op_errorPosition
  repeat' split
  all_goals exact g
theorem lc47_pf {S : GS} {μ : Mem} {xs : Nat → Int32} {L : Nat} {i : Int32} {N : Mem → Prop} (hc : CI S μ) (hm : MI S μ) (g : GOK S) (hi : ∀ d : Int32, 1 ≤ d → d ≤ 6 → vp_in (i + d) L) (hN : ∀ (S' : GS) (μ' : Mem), GOK S' → CI S' μ' → MI S' μ' → N μ') : lc47_wp xs L μ i N := by
  unfold lc47_wp
  refine L_errorPosition_pf hc hm g  (fun k μ' hc' hm' hk => ?_)
  exact m_errorPosition hm' g  (fin_i hN (gg_errorPosition g) hc' hk)
theorem op_undo_x {S : GS} : ∀ x9, (op_undo S).2 = .inr x9 → x9 = (xNE, 1) := by
  unfold op_undo
  repeat' split
  all_goals (intro x9 h; first | (cases h; done) | (cases h; simp; done))
theorem L_undo_pf {S : GS} {μ : Mem} {K : Int32 → Mem → Prop} (hc : CI S μ) (hm : MI S μ) (g : GOK S)   (hK : ∀ (k9 : Int32) (μ9 : Mem), CI (op_undo S).1 μ9 → MI S μ9 → Ans (op_undo S).2 k9 (fun z9 => μ9 5120 0 0 = J z9) → K k9 μ9) : L_undo_wp μ K := by
  unfold L_undo_wp
  refine c_undo hc g  (cls_i (K := K) hm (fun x9 h9 => ?_) hK (fun x9 μ9 h9 hk => ?_))
  · rcases op_undo_x x9 h9 with rfl <;> decide
  · rcases op_undo_x x9 h9 with rfl
    · exact ⟨rfl, hk⟩
theorem lc49_pf {S : GS} {μ : Mem} {xs : Nat → Int32} {L : Nat} {i : Int32} {N : Mem → Prop} (hc : CI S μ) (hm : MI S μ) (g : GOK S) (hi : ∀ d : Int32, 1 ≤ d → d ≤ 6 → vp_in (i + d) L) (hN : ∀ (S' : GS) (μ' : Mem), GOK S' → CI S' μ' → MI S' μ' → N μ') : lc49_wp xs L μ i N := by
  unfold lc49_wp
  refine L_undo_pf hc hm g  (fun k μ' hc' hm' hk => ?_)
  exact m_undo hm' g  (fin_i hN (g_undo g) hc' hk)
theorem op_restore_x {S : GS} : ∀ x9, (op_restore S).2 = .inr x9 → x9 = (xIS, 1) := by
  unfold op_restore
  repeat' split
  all_goals (intro x9 h; first | (cases h; done) | (cases h; simp; done))
theorem L_restore_pf {S : GS} {μ : Mem} {K : Int32 → Mem → Prop} (hc : CI S μ) (hm : MI S μ) (g : GOK S)   (hK : ∀ (k9 : Int32) (μ9 : Mem), CI (op_restore S).1 μ9 → MI S μ9 → Ans (op_restore S).2 k9 (fun z9 => μ9 5120 0 0 = J z9) → K k9 μ9) : L_restore_wp μ K := by
  unfold L_restore_wp
  refine c_restore hc g  (cls_i (K := K) hm (fun x9 h9 => ?_) hK (fun x9 μ9 h9 hk => ?_))
  · rcases op_restore_x x9 h9 with rfl <;> decide
  · rcases op_restore_x x9 h9 with rfl
    · exact ⟨rfl, hk⟩
theorem lc51_pf {S : GS} {μ : Mem} {xs : Nat → Int32} {L : Nat} {i : Int32} {N : Mem → Prop} (hc : CI S μ) (hm : MI S μ) (g : GOK S) (hi : ∀ d : Int32, 1 ≤ d → d ≤ 6 → vp_in (i + d) L) (hN : ∀ (S' : GS) (μ' : Mem), GOK S' → CI S' μ' → MI S' μ' → N μ') : lc51_wp xs L μ i N := by
  unfold lc51_wp
  refine L_restore_pf hc hm g  (fun k μ' hc' hm' hk => ?_)
  exact m_restore hm' g  (fin_i hN (g_restore g) hc' hk)
