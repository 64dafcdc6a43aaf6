-- cases whose calls can't be refused
theorem dir_fin {N : Mem → Prop} (hN : ∀ (S' : GS) (μ' : Mem), GOK S' → CI S' μ' → MI S' μ' → N μ') {r : OpR Int} (g : GOK r.1) {μ : Mem} (hc : CI r.1 μ) {z : Int} (hz : r.2 = .inl z) : MRes J r μ (fun (v : Int32) (μ' : Mem) => ((J z = v → (N μ')) ∧ (¬ J z = v → False))) := by
  intro v μ' f hm ans
  have n := hN _ _ g (CI_FrM hc f) hm
  rw [hz] at ans
  exact ⟨fun _ => n, fun c => absurd ans.2.symm c⟩
theorem dir_cls {S : GS} {r : OpR Int} {μ : Mem} {K : Int32 → Mem → Prop} {X : String → Mem → Prop} (hm : MI S μ) {z : Int} (hz : r.2 = .inl z) (hK : ∀ μ' : Mem, CI r.1 μ' → MI S μ' → K (J z) μ') : CRes J r μ K X := by
  intro μ' f hc
  rw [hz]
  exact hK μ' hc (MI_FrC hm f)
section Dir
variable {S : GS} {μ : Mem} {xs : Nat → Int32} {L : Nat} {i : Int32} {N : Mem → Prop}
theorem lc0_pf (hc : CI S μ) (hm : MI S μ) (g : GOK S) (hN : ∀ (S' : GS) (μ' : Mem), GOK S' → CI S' μ' → MI S' μ' → N μ') : lc0_wp xs L μ i N :=
  c_clear hc g (X := fun _ _ => False) (dir_cls hm rfl (fun _ hc' hm' => m_clear hm' g (dir_fin hN (g_clear g) hc' rfl)))
theorem lc6_pf (hc : CI S μ) (hm : MI S μ) (g : GOK S) (hN : ∀ (S' : GS) (μ' : Mem), GOK S' → CI S' μ' → MI S' μ' → N μ') : lc6_wp xs L μ i N :=
  c_spanCount hc (X := fun _ _ => False) (dir_cls hm rfl (fun _ hc' hm' => m_spanCount hm' (dir_fin hN g hc' rfl)))
theorem lc23_pf (hc : CI S μ) (hm : MI S μ) (g : GOK S) (hN : ∀ (S' : GS) (μ' : Mem), GOK S' → CI S' μ' → MI S' μ' → N μ') : lc23_wp xs L μ i N :=
  c_cutCount hc g (X := fun _ _ => False) (dir_cls hm rfl (fun _ hc' hm' => m_cutCount hm' g (dir_fin hN g hc' rfl)))
theorem lc40_pf (hc : CI S μ) (hm : MI S μ) (g : GOK S) (hN : ∀ (S' : GS) (μ' : Mem), GOK S' → CI S' μ' → MI S' μ' → N μ') : lc40_wp xs L μ i N :=
  c_linkCount hc (X := fun _ _ => False) (dir_cls hm rfl (fun _ hc' hm' => m_linkCount hm' (dir_fin hN g hc' rfl)))
theorem lc50_pf (hc : CI S μ) (hm : MI S μ) (g : GOK S) (hN : ∀ (S' : GS) (μ' : Mem), GOK S' → CI S' μ' → MI S' μ' → N μ') : lc50_wp xs L μ i N :=
  c_save hc g (X := fun _ _ => False) (dir_cls hm rfl (fun _ hc' hm' => m_save hm' g (dir_fin hN (g_save g) hc' rfl)))
theorem lc10_pf (hc : CI S μ) (hm : MI S μ) (g : GOK S) (hi : ∀ d : Int32, 1 ≤ d → d ≤ 6 → vp_in (i + d) L) (hN : ∀ (S' : GS) (μ' : Mem), GOK S' → CI S' μ' → MI S' μ' → N μ') : lc10_wp xs L μ i N := by
  have v1 := hi 1 (by decide) (by decide)
  refine ⟨v1, fun c9 => ?_, fun c9 => ?_⟩
  · exact c_pairs hc g (v := 0) (by omega) (X := fun _ _ => False) (dir_cls hm rfl (fun _ hc' hm' => ⟨v1, fun _ => m_pairs hm' g (v := 0) (by omega) (dir_fin hN g hc' rfl), fun c8 => absurd c9 c8⟩))
  · exact c_pairs hc g (v := 1) (by omega) (X := fun _ _ => False) (dir_cls hm rfl (fun _ hc' hm' => ⟨v1, fun c8 => absurd c8 c9, fun _ => m_pairs hm' g (v := 1) (by omega) (dir_fin hN g hc' rfl)⟩))
end Dir
