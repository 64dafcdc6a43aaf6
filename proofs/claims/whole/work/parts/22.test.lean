
theorem spansOf_spec {μ : Mem} {n : Nat} {w : View} (hv : SV μ 0 n w) (hw : WF n w) {t : Int} (ht : (-2147483648 ≤ t ∧ t ≤ 2147483647)) {P : Int32 → Mem → Prop} (h : P (J (cnt (fun i => w i 1 = t) n)) μ) : w1_spansOf_wp μ (J t) P := by
  intro R hR
  refine down (Q := fun i => R μ (J t) (J (cnt (fun i => w i 1 = t) i)) (J i)) n (fun i hi ih => ?_)
  apply hR
  have e0 : μ 1 0 0 = J n := hv.1
  have e1 : ∀ j : Nat, j < n → μ 64 0 j = J (w j 1) := fun j hj => hv.2 j hj 1 (by decide)
  have r := hw.1
  have r1 : i < n → Rg w i := fun hi => (hw.2.1 i hi).1
  unfold w1_spansOf_b4_body
  simp only [e0, lJ1, J_add]
  simp (disch := omega) only [J_le, J_in, J_clamp, Int.toNat_natCast]
  trace_state
  sorry
