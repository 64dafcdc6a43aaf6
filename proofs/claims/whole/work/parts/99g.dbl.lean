-- the cases with a char, a double, a float
theorem lc45_pf {S : GS} {μ : Mem} {xs : Nat → Int32} {L : Nat} {i : Int32} {N : Mem → Prop} (hc : CI S μ) (hm : MI S μ) (g : GOK S) (hi : ∀ d : Int32, 1 ≤ d → d ≤ 6 → vp_in (i + d) L) (hN : ∀ (S' : GS) (μ' : Mem), GOK S' → CI S' μ' → MI S' μ' → N μ') : lc45_wp xs L μ i N := by
  unfold lc45_wp
  obtain ⟨z1, q1, e1⟩ := J_of (((xs (i + 1).toNatClampNeg).toUInt32 % 65536).toInt32)
  have v1 := hi 1 (by decide) (by decide)
  rw [e1]
  refine ⟨v1, ?_⟩
  refine L_append_pf hc hm g q1 (fun k μ' hc' hm' hk => ?_)
  exact ⟨v1, m_append hm' g q1 (fin_i hN (g_append g) hc' hk)⟩
theorem op_errorShare_x {S : GS} {t : Int} : ∀ x9, (op_errorShare S t).2 = .inr x9 → x9 = (xIO, 1) ∨ x9 = (xAR, 2) := by
  unfold op_errorShare
  repeat' split
  all_goals (intro x9 h; first | (cases h; done) | (cases h; simp; done))
theorem gg_errorShare {S : GS} (g : GOK S) {t : Int} : GOK (op_errorShare S t).1 := by
  unfold op_errorShare
  repeat' split
  all_goals exact g
theorem tz2 : 2 * (0 : Int32).toNatClampNeg = 0 := by decide
theorem tz3 : 2 * (0 : Int32).toNatClampNeg + 1 = 1 := by decide
theorem dput {μ : Mem} {x : UInt64} : dbl (up (up μ 5184 0 0 (dHi x)) 5184 0 1 (dLo x) 5184 0 0) (up (up μ 5184 0 0 (dHi x)) 5184 0 1 (dLo x) 5184 0 1) = x := by
  rw [up_self, up_at, if_neg (by omega), up_self, dbl_of]
theorem lc32_pf {S : GS} {μ : Mem} {xs : Nat → Int32} {L : Nat} {i : Int32} {N : Mem → Prop} (hc : CI S μ) (hm : MI S μ) (g : GOK S) (hi : ∀ d : Int32, 1 ≤ d → d ≤ 6 → vp_in (i + d) L) (hN : ∀ (S' : GS) (μ' : Mem), GOK S' → CI S' μ' → MI S' μ' → N μ') : lc32_wp xs L μ i N := by
  unfold lc32_wp
  obtain ⟨z1, q1, e1⟩ := J_of (xs (i + 1).toNatClampNeg)
  have v1 := hi 1 (by decide) (by decide)
  rw [e1]
  refine ⟨v1, ?_⟩
  unfold L_errorShare_wp
  refine c_errorShare hc g q1 ?_
  intro μ1 f hc1
  have hm1 := MI_FrC hm f
  have gg := gg_errorShare (t := z1) g
  have ox := op_errorShare_x (S := S) (t := z1)
  have fin : ∀ (μ' : Mem), CI (op_errorShare S z1).1 μ' → MI S μ' → ∀ (P : UInt64 → Mem → Prop), MRes (fun v => v) (op_errorShare S z1) μ' P → w9_errorShare_wp μ' (J z1) P := fun μ' _ hm' P h => m_errorShare hm' g q1 h
  generalize op_errorShare S z1 = r at *
  obtain ⟨S', o⟩ := r
  cases o with
  | inl x =>
    refine ⟨vin1, ?_⟩
    rintro μ2 rfl
    simp only [tz2, Nat.zero_add]
    have b : Bt [5184] μ1 (up (up μ1 5184 0 0 (dHi x)) 5184 0 1 (dLo x)) := (Bt.up (by decide)).tr (Bt.up (by decide))
    have hd := dput (μ := μ1) (x := x)
    have hc2 := hc1.bt b (by decide)
    have hm2 := hm1.bt b (by decide)
    generalize up (up μ1 5184 0 0 (dHi x)) 5184 0 1 (dLo x) = μ2 at *
    refine ⟨v1, fin μ2 hc2 hm2 _ (fun v μ3 f3 hm3 ans => ?_)⟩
    obtain ⟨a1, a2⟩ := ans
    have a2 : v = x := a2
    have n := hN _ _ gg (CI_FrM hc2 f3) hm3
    unfold w9_thrown_wp
    dsimp only
    rw [f3 5184 (Or.inr (by omega)), hd, a2]
    refine ⟨fun _ => ⟨fun c => absurd trivial c, fun _ => ⟨vin1, fun _ => n, fun c => ⟨vin1, vin1, fun c2 => absurd c2 c, fun _ => ⟨fun _ => n, fun c3 => absurd c3 c⟩⟩⟩⟩, fun c => absurd a1 c⟩
  | inr e =>
    have kk : ∀ c : Int, e.2 = c → 1 ≤ c ∧ c ≤ 3 → (vp_in (i + 1) L ∧ w9_errorShare_wp μ1 (J z1) (fun (r6 : UInt64) (μ5 : Mem) => w9_thrown_wp μ5 (fun (r8 : Int32) (μ7 : Mem) => ((r8 = J c → ((¬ J c = 0 → (N μ7)) ∧ (J c = 0 → ((vp_in (0 : Int32) 1) ∧ (((Op.cmpValue (FP.dcmp (dbl (μ7 5184 0 (2 * ((0 : Int32)).toNatClampNeg)) (μ7 5184 0 (2 * ((0 : Int32)).toNatClampNeg + 1))) r6) .l) = 0 → (N μ7)) ∧ (¬ (Op.cmpValue (FP.dcmp (dbl (μ7 5184 0 (2 * ((0 : Int32)).toNatClampNeg)) (μ7 5184 0 (2 * ((0 : Int32)).toNatClampNeg + 1))) r6) .l) = 0 → ((vp_in (0 : Int32) 1) ∧ ((vp_in (0 : Int32) 1) ∧ (((Op.cmpValue (FP.dcmp (dbl (μ7 5184 0 (2 * ((0 : Int32)).toNatClampNeg)) (μ7 5184 0 (2 * ((0 : Int32)).toNatClampNeg + 1))) (dbl (μ7 5184 0 (2 * ((0 : Int32)).toNatClampNeg)) (μ7 5184 0 (2 * ((0 : Int32)).toNatClampNeg + 1)))) .l) = 0 → False) ∧ (¬ (Op.cmpValue (FP.dcmp (dbl (μ7 5184 0 (2 * ((0 : Int32)).toNatClampNeg)) (μ7 5184 0 (2 * ((0 : Int32)).toNatClampNeg + 1))) (dbl (μ7 5184 0 (2 * ((0 : Int32)).toNatClampNeg)) (μ7 5184 0 (2 * ((0 : Int32)).toNatClampNeg + 1)))) .l) = 0 → ((¬ (Op.cmpValue (FP.dcmp r6 r6) .l) = 0 → (N μ7)) ∧ ((Op.cmpValue (FP.dcmp r6 r6) .l) = 0 → False)))))))))))) ∧ (¬ r8 = J c → False))))) := by
      intro c hec hcr
      refine ⟨v1, fin μ1 hc1 hm1 _ (fun v μ3 f3 hm3 ans => ?_)⟩
      have a1 : μ3 3201 0 0 = J e.2 := ans
      rw [hec] at a1
      have n := hN _ _ gg (CI_FrM hc1 f3) hm3
      unfold w9_thrown_wp
      refine ⟨fun _ => ⟨fun _ => n, fun z => ?_⟩, fun z => absurd a1 z⟩
      have : c = 0 := (J_eq (by omega) (by omega)).mp z
      omega
    rcases ox e rfl with rfl | rfl
    · exact Or.inl ⟨rfl, kk 1 rfl (by omega)⟩
    · exact Or.inr ⟨rfl, kk 2 rfl (by omega)⟩
