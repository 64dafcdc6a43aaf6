-- activity: floats
theorem nn_f2d {x : UInt32} (h : vf_n32 x) : FP.dIsNaN (FP.f2d x) = false := by
  have h1 : ¬ 2139095040 < x.toNat % 2 ^ 31 := by
    unfold vf_n32 at h
    rw [UInt32.le_iff_toNat_le, UInt32.toNat_and] at h
    have e : (0x7fffffff : UInt32).toNat = 2 ^ 31 - 1 := rfl
    rw [e, Nat.and_two_pow_sub_one_eq_mod] at h
    have e2 : (0x7f800000 : UInt32).toNat = 2139095040 := rfl
    rw [e2] at h
    omega
  have h2 : FP.fIsNaN x = false := by
    rw [Bool.eq_false_iff]
    exact fun z => h1 ((FP.Core.isNaN_bits32 x).mp z)
  rw [FP.f2d_nan]
  exact h2
theorem n64_f2d {x : UInt32} (h : vf_n32 x) : vf_n64 (FP.f2d x) := by
  have h3 := nn_f2d h
  have h4 : ¬ 9218868437227405312 < (FP.f2d x).toNat % 2 ^ 63 := fun z => by
    have := (FP.Core.isNaN_bits (FP.f2d x)).mpr z
    rw [show FP.Core.dIsNaN (FP.f2d x) = FP.dIsNaN (FP.f2d x) from rfl, h3] at this
    cases this
  unfold vf_n64
  rw [UInt64.le_iff_toNat_le, UInt64.toNat_and]
  have e : (0x7fffffffffffffff : UInt64).toNat = 2 ^ 63 - 1 := rfl
  rw [e, Nat.and_two_pow_sub_one_eq_mod]
  have e2 : (0x7ff0000000000000 : UInt64).toNat = 9218868437227405312 := rfl
  rw [e2]
  omega
theorem dself {x : UInt32} (h : vf_n32 x) : Op.cmpValue (FP.dcmp (FP.f2d x) (FP.f2d x)) .l = 0 := by
  have h3 := nn_f2d h
  have h4 : FP.Core.val64 (FP.f2d x) ≠ .nan := fun z => by
    have := (FP.Core.dIsNaN_iff (FP.f2d x)).mpr z
    rw [show FP.Core.dIsNaN (FP.f2d x) = FP.dIsNaN (FP.f2d x) from rfl, h3] at this
    cases this
  rw [show FP.dcmp (FP.f2d x) (FP.f2d x) = some .eq from FP.Core.dcmp_self h4]
  rfl
theorem opn_activity {S : GS} (g : GOK S) {t s : Int} : ∀ x, (op_activity S t s).2 = .inl x → vf_n32 x := by
  unfold op_activity
  split
  · split
    · split
      · intro x h; cases h
      · split
        · intro x h; cases h
        · rename_i c2 c3
          intro x h
          cases h
          have re := ext_rg g.w c2
          exact n32_div (fun z => c3 ((J_eq (by omega) (by omega)).mp z))
    · intro x h; cases h
  · intro x h; cases h
theorem op_activity_x {S : GS} {t s : Int} : ∀ x9, (op_activity S t s).2 = .inr x9 → x9 = (xIO, 1) ∨ x9 = (xNE, 2) ∨ x9 = (xAR, 3) := by
  unfold op_activity
  repeat' split
  all_goals (intro x9 h; first | (cases h; done) | (cases h; simp; done))
theorem gg_activity {S : GS} (g : GOK S) {t s : Int} : GOK (op_activity S t s).1 := by
  unfold op_activity
  repeat' split
  all_goals exact g
theorem lc36_pf {S : GS} {μ : Mem} {xs : Nat → Int32} {L : Nat} {i : Int32} {N : Mem → Prop} (hc : CI S μ) (hm : MI S μ) (g : GOK S) (hi : ∀ d : Int32, 1 ≤ d → d ≤ 6 → vp_in (i + d) L) (hN : ∀ (S' : GS) (μ' : Mem), GOK S' → CI S' μ' → MI S' μ' → N μ') : lc36_wp xs L μ i N := by
  unfold lc36_wp
  obtain ⟨z1, q1, e1⟩ := J_of (xs (i + 1).toNatClampNeg)
  obtain ⟨z2, q2, e2⟩ := J_of (xs (i + 2).toNatClampNeg)
  have v2 := hi 2 (by decide) (by decide)
  have v1 := hi 1 (by decide) (by decide)
  rw [e1, e2]
  refine ⟨v1, v2, ?_⟩
  unfold L_activity_wp
  refine c_activity hc g q1 q2 ?_
  intro μ1 f hc1
  have hm1 := MI_FrC hm f
  have gg := gg_activity (t := z1) (s := z2) g
  have ox := op_activity_x (S := S) (t := z1) (s := z2)
  have fin : ∀ (μ' : Mem), CI (op_activity S z1 z2).1 μ' → MI S μ' → ∀ (P : UInt32 → Mem → Prop), MRes (fun v => v) (op_activity S z1 z2) μ' P → w9_activity_wp μ' (J z1) (J z2) P := fun μ' _ hm' P h => m_activity hm' g q1 q2 h
  have nn := opn_activity (t := z1) (s := z2) g
  generalize op_activity S z1 z2 = r at *
  obtain ⟨S', o⟩ := r
  cases o with
  | inl x =>
    have n64 := n64_f2d (nn x rfl)
    refine ⟨n64, vin1, ?_⟩
    rintro μ2 rfl
    simp only [tz2, Nat.zero_add]
    have b : Bt [5184] μ1 (up (up μ1 5184 0 0 (dHi (FP.f2d x))) 5184 0 1 (dLo (FP.f2d x))) := (Bt.up (by decide)).tr (Bt.up (by decide))
    have hd := dput (μ := μ1) (x := FP.f2d x)
    have hc2 := hc1.bt b (by decide)
    have hm2 := hm1.bt b (by decide)
    generalize up (up μ1 5184 0 0 (dHi (FP.f2d x))) 5184 0 1 (dLo (FP.f2d x)) = μ2 at *
    refine ⟨v1, v2, fin μ2 hc2 hm2 _ (fun v μ3 f3 hm3 ans => ?_)⟩
    obtain ⟨a1, a2⟩ := ans
    have a2 : v = x := a2
    have n := hN _ _ gg (CI_FrM hc2 f3) hm3
    unfold w9_thrown_wp
    dsimp only
    rw [f3 5184 (Or.inr (by omega)), hd, a2]
    refine ⟨fun _ => ⟨fun c => absurd trivial c, fun _ => ⟨vin1, n64, fun _ => n, fun c => absurd (dself (nn x rfl)) c⟩⟩, fun c => absurd a1 c⟩
  | inr e =>
    have kk : ∀ (c : Int) (Q : UInt32 → Mem → Prop), e.2 = c → 1 ≤ c ∧ c ≤ 3 → (∀ (v : UInt32) (μ3 : Mem), μ3 3201 0 0 = J c → N μ3 → Q v μ3) → (vp_in (i + 1) L ∧ vp_in (i + 2) L ∧ w9_activity_wp μ1 (J z1) (J z2) Q) := by
      intro c Q hec hcr hQ
      refine ⟨v1, v2, fin μ1 hc1 hm1 _ (fun v μ3 f3 hm3 ans => ?_)⟩
      have a1 : μ3 3201 0 0 = J e.2 := ans
      rw [hec] at a1
      exact hQ v μ3 a1 (hN _ _ gg (CI_FrM hc1 f3) hm3)
    have c0 : ∀ c : Int, 1 ≤ c ∧ c ≤ 3 → ¬ J c = 0 := fun c hc9 z => by
      have : c = 0 := (J_eq (by omega) (by omega)).mp z
      omega
    rcases ox e rfl with rfl | rfl | rfl
    · exact Or.inl ⟨rfl, kk 1 _ rfl (by omega) (fun v μ3 a n => ⟨fun _ => ⟨fun _ => n, fun z => absurd z (c0 1 (by omega))⟩, fun z => absurd a z⟩)⟩
    · exact Or.inr (Or.inl ⟨rfl, kk 2 _ rfl (by omega) (fun v μ3 a n => ⟨fun _ => ⟨fun _ => n, fun z => absurd z (c0 2 (by omega))⟩, fun z => absurd a z⟩)⟩)
    · exact Or.inr (Or.inr ⟨rfl, kk 3 _ rfl (by omega) (fun v μ3 a n => ⟨fun _ => ⟨fun _ => n, fun z => absurd z (c0 3 (by omega))⟩, fun z => absurd a z⟩)⟩)
