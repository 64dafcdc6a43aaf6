-- the shape of a case of the law's loop
theorem vin1 : vp_in (0 : Int32) 1 := (J_in (a := 0) (by omega)).mpr (by omega)
theorem tz0 : (0 : Int32).toNatClampNeg = 0 := by decide
def Ans {α : Type} (o : α ⊕ (String × Int)) (k : Int32) (ok : α → Prop) : Prop := match o with
  | .inl z => k = 0 ∧ ok z
  | .inr e => k = J e.2 ∧ 1 ≤ e.2 ∧ e.2 ≤ 3
theorem fin_i {N : Mem → Prop} (hN : ∀ (S' : GS) (μ' : Mem), GOK S' → CI S' μ' → MI S' μ' → N μ') {r : OpR Int} (g : GOK r.1) {k : Int32} {μ : Mem} (hc : CI r.1 μ) (hk : Ans r.2 k (fun z => μ 5120 0 0 = J z)) : MRes J r μ (fun (v : Int32) (μ' : Mem) => w9_thrown_wp μ' (fun (r18 : Int32) (μ17 : Mem) => ((r18 = k → ((¬ k = 0 → (N μ17)) ∧ (k = 0 → ((vp_in (0 : Int32) 1) ∧ (((μ17 5120 0 ((0 : Int32)).toNatClampNeg) = v) ∧ (((0 : Int32) = 0 → (N μ17)) ∧ (¬ (0 : Int32) = 0 → False))))))) ∧ (¬ r18 = k → False)))) := by
  intro v μ' f hm ans
  have n := hN _ _ g (CI_FrM hc f) hm
  obtain ⟨S', o⟩ := r
  unfold w9_thrown_wp
  cases o with
  | inl z =>
    obtain ⟨rfl, h5⟩ := hk
    obtain ⟨a1, a2⟩ := ans
    refine ⟨fun _ => ⟨fun c => absurd rfl c, fun _ => ⟨vin1, ?_, fun _ => n, fun c => absurd rfl c⟩⟩, fun c => absurd a1 c⟩
    rw [tz0, f 5120 (Or.inr (by omega)), a2]
    exact h5
  | inr e =>
    obtain ⟨rfl, h5, h6⟩ := hk
    have a1 : μ' 3201 0 0 = J e.2 := ans
    refine ⟨fun _ => ⟨fun _ => n, fun c => ?_⟩, fun c => absurd a1 c⟩
    have : e.2 = 0 := (J_eq (by omega) (by omega)).mp c
    omega
theorem cls_i {S : GS} {r : OpR Int} {μ : Mem} {K : Int32 → Mem → Prop} {X : String → Mem → Prop} (hm : MI S μ) (hcode : ∀ e, r.2 = .inr e → 1 ≤ e.2 ∧ e.2 ≤ 3) (hK : ∀ (k : Int32) (μ' : Mem), CI r.1 μ' → MI S μ' → Ans r.2 k (fun z => μ' 5120 0 0 = J z) → K k μ') (hX : ∀ e μ', r.2 = .inr e → K (J e.2) μ' → X e.1 μ') : CRes J r μ (fun (r2 : Int32) (μ1 : Mem) => ((vp_in (0 : Int32) 1) ∧ (∀ μ5 : Mem, μ5 = up μ1 5120 0 ((0 : Int32)).toNatClampNeg r2 → K 0 μ5))) X := by
  intro μ' f hc
  have mi := MI_FrC hm f
  obtain ⟨S', o⟩ := r
  cases o with
  | inl z =>
    refine ⟨vin1, ?_⟩
    rintro μ5 rfl
    rw [tz0]
    have b : Bt [5120] μ' (up μ' 5120 0 0 (J z)) := Bt.up (by decide)
    exact hK 0 _ (hc.bt b (by decide)) (mi.bt b (by decide)) ⟨rfl, up_self⟩
  | inr e =>
    have hcd := hcode e rfl
    exact hX e μ' rfl (hK _ _ hc mi ⟨rfl, hcd⟩)
theorem op_add_x {S : GS} {t id pa sv b e : Int} : ∀ q, (op_add S t id pa sv b e).2 = .inr q → q = (xIA, 1) ∨ q = (xIS, 2) := by
  unfold op_add
  repeat' split
  all_goals (intro q h; first | (cases h; done) | (cases h; simp; done))
theorem L_add_pf {S : GS} {μ : Mem} {K : Int32 → Mem → Prop} (hc : CI S μ) (hm : MI S μ) (g : GOK S) {t id pa sv b e : Int} (h1 : (-2147483648 ≤ t ∧ t ≤ 2147483647)) (h2 : (-2147483648 ≤ id ∧ id ≤ 2147483647)) (h3 : (-2147483648 ≤ pa ∧ pa ≤ 2147483647)) (h4 : (-2147483648 ≤ sv ∧ sv ≤ 2147483647)) (h5 : (-2147483648 ≤ b ∧ b ≤ 2147483647)) (h6 : (-2147483648 ≤ e ∧ e ≤ 2147483647)) (hK : ∀ (k : Int32) (μ' : Mem), CI (op_add S t id pa sv b e).1 μ' → MI S μ' → Ans (op_add S t id pa sv b e).2 k (fun z => μ' 5120 0 0 = J z) → K k μ') : L_add_wp μ (J t) (J id) (J pa) (J sv) (J b) (J e) K := by
  unfold L_add_wp
  refine c_add hc g h1 h2 h3 h4 h5 h6 (cls_i (K := K) hm (fun q hq => ?_) hK (fun q μ' hq hk => ?_))
  · rcases op_add_x q hq with rfl | rfl <;> decide
  · rcases op_add_x q hq with rfl | rfl
    · exact Or.inl ⟨rfl, hk⟩
    · exact Or.inr ⟨rfl, hk⟩
theorem lc1_pf {S : GS} {μ : Mem} {xs : Nat → Int32} {L : Nat} {i : Int32} {N : Mem → Prop} (hc : CI S μ) (hm : MI S μ) (g : GOK S) (hi : ∀ d : Int32, 1 ≤ d → d ≤ 6 → vp_in (i + d) L) (hN : ∀ (S' : GS) (μ' : Mem), GOK S' → CI S' μ' → MI S' μ' → N μ') : lc1_wp xs L μ i N := by
  unfold lc1_wp
  obtain ⟨z1, q1, e1⟩ := J_of (xs (i + 1).toNatClampNeg)
  obtain ⟨z2, q2, e2⟩ := J_of (xs (i + 2).toNatClampNeg)
  obtain ⟨z3, q3, e3⟩ := J_of (xs (i + 3).toNatClampNeg)
  obtain ⟨z4, q4, e4⟩ := J_of (xs (i + 4).toNatClampNeg)
  obtain ⟨z5, q5, e5⟩ := J_of (xs (i + 5).toNatClampNeg)
  obtain ⟨z6, q6, e6⟩ := J_of (xs (i + 6).toNatClampNeg)
  have v1 := hi 1 (by decide) (by decide)
  have v2 := hi 2 (by decide) (by decide)
  have v3 := hi 3 (by decide) (by decide)
  have v4 := hi 4 (by decide) (by decide)
  have v5 := hi 5 (by decide) (by decide)
  have v6 := hi 6 (by decide) (by decide)
  rw [e1, e2, e3, e4, e5, e6]
  refine ⟨v1, v2, v3, v4, v5, v6, ?_⟩
  refine L_add_pf hc hm g q1 q2 q3 q4 q5 q6 (fun k μ' hc' hm' hk => ?_)
  exact ⟨v1, v2, v3, v4, v5, v6, m_add hm' g q1 q2 q3 q4 q5 q6 (fin_i hN (g_add g) hc' hk)⟩
