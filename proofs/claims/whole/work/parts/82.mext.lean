-- the reference on extents, activity, the busiest service
theorem m_extentOf_spec {S : GS} {μ : Mem} (k : MQ9 S μ) (g : GOK S) {t : Int} (ht : (-2147483648 ≤ t ∧ t ≤ 2147483647)) (hn : nTr S t ≠ 0) {P : Int32 → Mem → Prop} (h : P (J (ext (S.1.1) (S.1.2.1) t)) μ) : w9_extentOf_wp μ (J t) P := by
  have rn := g.1.n
  have e0 := k.n0
  intro R hR
  refine down (Q := fun i => R μ (J t) (J (mnT (S.1.1) (S.1.2.1) t 100000000 i)) (J (mxT (S.1.1) (S.1.2.1) t 100000000 i)) (J i)) (S.1.1) (fun i hi ih => ?_)
  apply hR
  unfold w9_extentOf_b9_body
  have rx := mxT_cs g.w t (F := 100000000) (by omega) i hi
  have ry := mnT_cs g.w t (F := 100000000) (by omega) i hi
  rcases Nat.lt_or_ge i (S.1.1) with c | c
  · have ih := ih c
    have ri := g.w.r i c
    have b := be_rg g.w c
    rw [mxT_succ, mnT_succ] at ih
    simp (disch := omega) only [lJ0, lJ1, lJ2, lJ3, lJ4, lJ5, lJ6, lJ7, lJ8, lJ9, lJ10, lJ30, lJ32, lJ33, lJ39, lJ40, lJ41, lJ45, lJ47, lJ48, lJ51, lJ55, lJ57, lJ58, lJ59, lJ60, lJ64, lJ80, lJ82, lJ99, lJ100, lJ101, lJ123, lJ126, lJ282, lJ342, lJ1000, lJ1100, lJ2394, lJ2736, lJ9999, lJ10000, lJ1000000, lJ100000000, J_add, J_sub, J_mul, J_neg, J_le, J_lt, J_eq, J_in, J_clamp, Int.toNat_natCast, Int.toNat_zero, e0]
    refine ⟨by omega, fun _ => by omega, fun _ => ?_⟩
    refine of_spec k.1.1.1 rn i 1 rfl rfl c (by omega) ?_
    simp (disch := omega) only [lJ0, lJ1, lJ2, lJ3, lJ4, lJ5, lJ6, lJ7, lJ8, lJ9, lJ10, lJ30, lJ32, lJ33, lJ39, lJ40, lJ41, lJ45, lJ47, lJ48, lJ51, lJ55, lJ57, lJ58, lJ59, lJ60, lJ64, lJ80, lJ82, lJ99, lJ100, lJ101, lJ123, lJ126, lJ282, lJ342, lJ1000, lJ1100, lJ2394, lJ2736, lJ9999, lJ10000, lJ1000000, lJ100000000, J_add, J_sub, J_mul, J_neg, J_le, J_lt, J_eq, J_in, J_clamp, Int.toNat_natCast]
    refine ⟨fun c3 => ?_, fun c3 => ?_⟩
    · rw [if_neg (fun z => c3 z.1), if_neg (fun z => c3 z.1)] at ih; exact ih
    · refine m_begin_spec k g c rfl (m_end_spec k g c rfl ?_)
      simp (disch := omega) only [lJ0, lJ1, lJ2, lJ3, lJ4, lJ5, lJ6, lJ7, lJ8, lJ9, lJ10, lJ30, lJ32, lJ33, lJ39, lJ40, lJ41, lJ45, lJ47, lJ48, lJ51, lJ55, lJ57, lJ58, lJ59, lJ60, lJ64, lJ80, lJ82, lJ99, lJ100, lJ101, lJ123, lJ126, lJ282, lJ342, lJ1000, lJ1100, lJ2394, lJ2736, lJ9999, lJ10000, lJ1000000, lJ100000000, J_add, J_sub, J_mul, J_neg, J_le, J_lt, J_eq, J_in, J_clamp, Int.toNat_natCast]
      have e1 : (if S.1.2.1 i 1 = t ∧ bgn (S.1.1) (S.1.2.1) i < mnT (S.1.1) (S.1.2.1) t 100000000 i then bgn (S.1.1) (S.1.2.1) i else mnT (S.1.1) (S.1.2.1) t 100000000 i) = (if bgn (S.1.1) (S.1.2.1) i < mnT (S.1.1) (S.1.2.1) t 100000000 i then bgn (S.1.1) (S.1.2.1) i else mnT (S.1.1) (S.1.2.1) t 100000000 i) := by
        by_cases d : bgn (S.1.1) (S.1.2.1) i < mnT (S.1.1) (S.1.2.1) t 100000000 i
        · rw [if_pos ⟨c3, d⟩, if_pos d]
        · rw [if_neg (fun z => d z.2), if_neg d]
      have e2 : (if S.1.2.1 i 1 = t ∧ mxT (S.1.1) (S.1.2.1) t 100000000 i < enn (S.1.1) (S.1.2.1) i then enn (S.1.1) (S.1.2.1) i else mxT (S.1.1) (S.1.2.1) t 100000000 i) = (if mxT (S.1.1) (S.1.2.1) t 100000000 i < enn (S.1.1) (S.1.2.1) i then enn (S.1.1) (S.1.2.1) i else mxT (S.1.1) (S.1.2.1) t 100000000 i) := by
        by_cases d : mxT (S.1.1) (S.1.2.1) t 100000000 i < enn (S.1.1) (S.1.2.1) i
        · rw [if_pos ⟨c3, d⟩, if_pos d]
        · rw [if_neg (fun z => d z.2), if_neg d]
      rw [e1, e2] at ih
      have f1 : ∀ (p : Prop) [Decidable p] (a b : Int), (if p then J a else J b) = J (if p then a else b) := fun p _ a b => by split <;> rfl
      rw [f1, f1]
      exact ih
  · have e9 : i = S.1.1 := by omega
    subst e9
    rcases rx with ⟨h1, -⟩ | ⟨h1, h2, h3, h4⟩
    · exact absurd h1 hn
    rcases ry with ⟨h1, -⟩ | ⟨h1, h5, h6, h7⟩
    · exact absurd h1 hn
    unfold ext at h
    rw [← h2, ← h5] at h
    simp (disch := omega) only [lJ0, lJ1, lJ2, lJ3, lJ4, lJ5, lJ6, lJ7, lJ8, lJ9, lJ10, lJ30, lJ32, lJ33, lJ39, lJ40, lJ41, lJ45, lJ47, lJ48, lJ51, lJ55, lJ57, lJ58, lJ59, lJ60, lJ64, lJ80, lJ82, lJ99, lJ100, lJ101, lJ123, lJ126, lJ282, lJ342, lJ1000, lJ1100, lJ2394, lJ2736, lJ9999, lJ10000, lJ1000000, lJ100000000, J_add, J_sub, J_mul, J_neg, J_le, J_lt, J_eq, J_in, J_clamp, Int.toNat_natCast, Int.toNat_zero, e0]
    exact ⟨by omega, fun _ => h, fun z => absurd (Int.le_refl _) z⟩
theorem m_extent {S : GS} {μ : Mem} (hm : MI S μ) (g : GOK S) {t : Int} (ht : (-2147483648 ≤ t ∧ t ≤ 2147483647)) {P : Int32 → Mem → Prop} (h : MRes J (op_extent S t) μ P) : w9_extent_wp μ (J t) P := by
  unfold op_extent at h
  unfold w9_extent_wp
  have rn := g.1.n
  refine m_kn0 hm g (fun μ1 f1 t1 k => ?_)
  refine isTrace_spec ht (fun c => ⟨fun _ => ?_, fun c => absurd c (by decide)⟩) (fun c => ⟨fun c => absurd rfl c, fun _ => by rw [if_neg c] at h; exact m_fails rfl h f1 k.1⟩)
  rw [if_pos c] at h
  refine m_inTrace_spec k.1 g ht ?_
  have r1 := cnt_le (p := fun i => S.1.2.1 i 1 = t) (n := S.1.1)
  simp (disch := omega) only [lJ0, lJ1, lJ2, lJ3, lJ4, lJ5, lJ6, lJ7, lJ8, lJ9, lJ10, lJ30, lJ32, lJ33, lJ39, lJ40, lJ41, lJ45, lJ47, lJ48, lJ51, lJ55, lJ57, lJ58, lJ59, lJ60, lJ64, lJ80, lJ82, lJ99, lJ100, lJ101, lJ123, lJ126, lJ282, lJ342, lJ1000, lJ1100, lJ2394, lJ2736, lJ9999, lJ10000, lJ1000000, lJ100000000, J_add, J_sub, J_mul, J_neg, J_le, J_lt, J_eq, J_in, J_clamp, Int.toNat_natCast]
  refine ⟨fun c2 => ?_, fun c2 => ?_⟩
  · rw [if_neg c2] at h; exact m_extentOf_spec k g ht c2 (m_ok h f1 k.1 t1 rfl)
  · rw [if_pos c2] at h; exact m_fails rfl h f1 k.1
theorem m_refusal_spec {S : GS} {μ : Mem} (hm : MI S μ) (g : GOK S) {t : Int} (ht : (-2147483648 ≤ t ∧ t ≤ 2147483647)) {x : Int32} {P : Int32 → Mem → Prop} (h1 : ¬ (0 ≤ t ∧ t < 4) ∨ x = 0 → ∀ μ', FrM μ μ' → MI S μ' → μ' 3201 0 0 = J 1 → P (J 1) μ') (h2 : 0 ≤ t ∧ t < 4 → x ≠ 0 → nTr S t = 0 → ∀ μ', FrM μ μ' → MI S μ' → μ' 3201 0 0 = J 2 → P (J 2) μ') (h3 : 0 ≤ t ∧ t < 4 → x ≠ 0 → nTr S t ≠ 0 → ext (S.1.1) (S.1.2.1) t = 0 → ∀ μ', FrM μ μ' → MI S μ' → μ' 3201 0 0 = J 3 → P (J 3) μ') (h4 : 0 ≤ t ∧ t < 4 → x ≠ 0 → nTr S t ≠ 0 → ext (S.1.1) (S.1.2.1) t ≠ 0 → ∀ μ', FrM μ μ' → MQ9 S μ' → μ' 3201 0 0 = J 0 → P (J 0) μ') : w9_activityRefusal_wp μ (J t) x P := by
  unfold w9_activityRefusal_wp
  have rn := g.1.n
  refine knows_spec2 hm g (fun μ1 f1 t1 k => ?_)
  have fin : ∀ v : Int, FrM μ (thr μ1 v) ∧ MQ9 S (thr μ1 v) ∧ thr μ1 v 3201 0 0 = J v := fun v => ⟨f1.tr thr_fr, k.bt thr_bt (by decide), thr_w⟩
  have up1 : ∀ v : Int, up μ1 3201 0 0 (J v) = thr μ1 v := fun v => rfl
  refine isTrace_spec ht (fun c => ⟨fun c => absurd c (by decide), fun _ => ⟨fun c2 => ?_, fun c2 => ?_⟩⟩) (fun c => ⟨fun _ => ?_, fun c => absurd rfl c⟩)
  · refine m_inTrace_spec k.1 g ht ?_
    have r1 := cnt_le (p := fun i => S.1.2.1 i 1 = t) (n := S.1.1)
    simp (disch := omega) only [lJ0, lJ1, lJ2, lJ3, lJ4, lJ5, lJ6, lJ7, lJ8, lJ9, lJ10, lJ30, lJ32, lJ33, lJ39, lJ40, lJ41, lJ45, lJ47, lJ48, lJ51, lJ55, lJ57, lJ58, lJ59, lJ60, lJ64, lJ80, lJ82, lJ99, lJ100, lJ101, lJ123, lJ126, lJ282, lJ342, lJ1000, lJ1100, lJ2394, lJ2736, lJ9999, lJ10000, lJ1000000, lJ100000000, J_add, J_sub, J_mul, J_neg, J_le, J_lt, J_eq, J_in, J_clamp, Int.toNat_natCast]
    refine ⟨fun c3 => ?_, fun c3 => ?_⟩
    · refine m_extentOf_spec k g ht c3 ?_
      have re := ext_rg g.w c3
      simp (disch := omega) only [lJ0, lJ1, lJ2, lJ3, lJ4, lJ5, lJ6, lJ7, lJ8, lJ9, lJ10, lJ30, lJ32, lJ33, lJ39, lJ40, lJ41, lJ45, lJ47, lJ48, lJ51, lJ55, lJ57, lJ58, lJ59, lJ60, lJ64, lJ80, lJ82, lJ99, lJ100, lJ101, lJ123, lJ126, lJ282, lJ342, lJ1000, lJ1100, lJ2394, lJ2736, lJ9999, lJ10000, lJ1000000, lJ100000000, J_add, J_sub, J_mul, J_neg, J_le, J_lt, J_eq, J_in, J_clamp, Int.toNat_natCast]
      refine ⟨fun c4 => ?_, fun c4 => ?_⟩
      · rintro μ2 rfl
        rw [up1, (fin 0).2.2]
        exact h4 c c2 c3 c4 _ (fin 0).1 (fin 0).2.1 (fin 0).2.2
      · rintro μ2 rfl
        rw [up1, (fin 3).2.2]
        exact h3 c c2 c3 c4 _ (fin 3).1 (fin 3).2.1.1 (fin 3).2.2
    · rintro μ2 rfl
      rw [up1, (fin 2).2.2]
      exact h2 c c2 c3 _ (fin 2).1 (fin 2).2.1.1 (fin 2).2.2
  · rintro μ2 rfl
    rw [show up μ1 3201 0 0 1 = thr μ1 1 from rfl, (fin 1).2.2]
    exact h1 (Or.inr c2) _ (fin 1).1 (fin 1).2.1.1 (fin 1).2.2
  · rintro μ2 rfl
    rw [show up μ1 3201 0 0 1 = thr μ1 1 from rfl, (fin 1).2.2]
    exact h1 (Or.inl c) _ (fin 1).1 (fin 1).2.1.1 (fin 1).2.2
theorem m_activity {S : GS} {μ : Mem} (hm : MI S μ) (g : GOK S) {t s : Int} (ht : (-2147483648 ≤ t ∧ t ≤ 2147483647)) (hs : (-2147483648 ≤ s ∧ s ≤ 2147483647)) {P : UInt32 → Mem → Prop} (h : MRes (fun v => v) (op_activity S t s) μ P) : w9_activity_wp μ (J t) (J s) P := by
  unfold op_activity at h
  unfold w9_activity_wp
  have key : ∀ x : Int32, (x ≠ 0 ↔ 0 ≤ s ∧ s < 8) → w9_activityRefusal_wp μ (J t) x (fun (r4 : Int32) (μ3 : Mem) => ((r4 ≤ 0 → (w9_active_wp μ3 (J t) (J s) (fun (r6 : Int32) (μ5 : Mem) => (w9_extentOf_wp μ5 (J t) (fun (r8 : Int32) (μ7 : Mem) => ((vf_n32 (FP.fdiv (FP.i2f r6) (FP.i2f r8))) ∧ (P (FP.fdiv (FP.i2f r6) (FP.i2f r8)) μ7))))))) ∧ (¬ r4 ≤ 0 → (P (0 : UInt32) μ3)))) := by
    intro x hx
    refine m_refusal_spec hm g ht (fun c μ1 f1 k1 t1 => ⟨fun z => absurd z (by decide), fun _ => ?_⟩) (fun c1 c2 c3 μ1 f1 k1 t1 => ⟨fun z => absurd z (by decide), fun _ => ?_⟩) (fun c1 c2 c3 c4 μ1 f1 k1 t1 => ⟨fun z => absurd z (by decide), fun _ => ?_⟩) (fun c1 c2 c3 c4 μ1 f1 k1 t1 => ⟨fun _ => ?_, fun z => absurd (by decide) z⟩)
    · by_cases d : 0 ≤ t ∧ t < 4
      · rw [if_pos d, if_neg (fun z => (hx.mpr z) (by rcases c with c | c; exact absurd d c; exact c))] at h; exact m_thw h f1 k1 t1
      · rw [if_neg d] at h; exact m_thw h f1 k1 t1
    · rw [if_pos c1, if_pos (hx.mp c2), if_pos c3] at h; exact m_thw h f1 k1 t1
    · rw [if_pos c1, if_pos (hx.mp c2), if_neg c3, if_pos c4] at h; exact m_thw h f1 k1 t1
    · rw [if_pos c1, if_pos (hx.mp c2), if_neg c3, if_neg c4] at h
      refine m_active_spec k1 g ht hs rfl rfl (fun μ2 b2 => ?_)
      have k2 := k1.bt b2 (by decide)
      refine m_extentOf_spec k2 g ht c3 ?_
      have re := ext_rg g.w c3
      exact ⟨n32_div (fun z => c4 ((J_eq (by omega) (by omega)).mp z)), m_ok h (f1.tr (b2.frM (by decide))) k2.1 (by rw [b2 3201 (by decide)]; exact t1) rfl⟩
  exact isService_spec hs (fun c => key 1 ⟨fun _ => c, fun _ => by decide⟩) (fun c => key 0 ⟨fun z => absurd rfl z, fun z => absurd z c⟩)
theorem m_busiest {S : GS} {μ : Mem} (hm : MI S μ) (g : GOK S) {t : Int} (ht : (-2147483648 ≤ t ∧ t ≤ 2147483647)) {P : Int32 → Mem → Prop} (h : MRes J (op_busiest S t) μ P) : w9_busiest_wp μ (J t) P := by
  unfold op_busiest at h
  unfold w9_busiest_wp
  refine m_refusal_spec hm g ht (fun c μ1 f1 k1 t1 => ⟨fun z => absurd z (by decide), fun _ => ?_⟩) (fun c1 c2 c3 μ1 f1 k1 t1 => ⟨fun z => absurd z (by decide), fun _ => ?_⟩) (fun c1 c2 c3 c4 μ1 f1 k1 t1 => ⟨fun z => absurd z (by decide), fun _ => ?_⟩) (fun c1 c2 c3 c4 μ1 f1 k1 t1 => ⟨fun _ => ?_, fun z => absurd (by decide) z⟩)
  · rcases c with c | c
    · rw [if_neg c] at h; exact m_thw h f1 k1 t1
    · exact absurd c (by decide)
  · rw [if_pos c1, if_pos c3] at h; exact m_thw h f1 k1 t1
  · rw [if_pos c1, if_neg c3, if_pos c4] at h; exact m_thw h f1 k1 t1
  · rw [if_pos c1, if_neg c3, if_neg c4] at h
    intro R hR
    suffices H : ∀ d q : Nat, q + d = 7 → ∀ μ', Bt [4416, 4480, 3229] μ1 μ' → R μ' (J t) (J (bst (S.1.1) (S.1.2.1) t q)) (J ((q : Int) + 1)) from H 7 0 rfl μ1 Bt.rf
    intro d
    induction d with
    | zero =>
      intro q hq μ' b
      have e9 : q = 7 := by omega
      subst e9
      apply hR
      unfold w9_busiest_b15_body
      simp (disch := omega) only [lJ0, lJ1, lJ2, lJ3, lJ4, lJ5, lJ6, lJ7, lJ8, lJ9, lJ10, lJ30, lJ32, lJ33, lJ39, lJ40, lJ41, lJ45, lJ47, lJ48, lJ51, lJ55, lJ57, lJ58, lJ59, lJ60, lJ64, lJ80, lJ82, lJ99, lJ100, lJ101, lJ123, lJ126, lJ282, lJ342, lJ1000, lJ1100, lJ2394, lJ2736, lJ9999, lJ10000, lJ1000000, lJ100000000, J_add, J_sub, J_mul, J_neg, J_le, J_lt, J_eq, J_in, J_clamp, Int.toNat_natCast]
      exact ⟨fun _ => m_ok h (f1.tr (b.frM (by decide))) (k1.bt b (by decide)).1 (by rw [b 3201 (by decide)]; exact t1) rfl, fun z => absurd (by omega) z⟩
    | succ d ih =>
      intro q hq μ' b
      have ih := ih (q + 1) (by omega)
      rw [bst_succ] at ih
      have r1 := bst_rg (S.1.1) (S.1.2.1) t q
      have r2 := bsy_rg (S.1.1) (S.1.2.1) t (bst (S.1.1) (S.1.2.1) t q)
      have r3 := bsy_rg (S.1.1) (S.1.2.1) t ((q : Int) + 1)
      apply hR
      unfold w9_busiest_b15_body
      simp (disch := omega) only [lJ0, lJ1, lJ2, lJ3, lJ4, lJ5, lJ6, lJ7, lJ8, lJ9, lJ10, lJ30, lJ32, lJ33, lJ39, lJ40, lJ41, lJ45, lJ47, lJ48, lJ51, lJ55, lJ57, lJ58, lJ59, lJ60, lJ64, lJ80, lJ82, lJ99, lJ100, lJ101, lJ123, lJ126, lJ282, lJ342, lJ1000, lJ1100, lJ2394, lJ2736, lJ9999, lJ10000, lJ1000000, lJ100000000, J_add, J_sub, J_mul, J_neg, J_le, J_lt, J_eq, J_in, J_clamp, Int.toNat_natCast]
      refine ⟨fun z => by omega, fun _ => ?_⟩
      refine m_active_spec (k1.bt b (by decide)) g ht (s := (q : Int) + 1) (by omega) rfl rfl (fun μ2 b2 => ?_)
      have b12 := b.tr b2
      refine m_active_spec (k1.bt b12 (by decide)) g ht (s := bst (S.1.1) (S.1.2.1) t q) (by omega) rfl rfl (fun μ3 b3 => ?_)
      have ih := ih μ3 (b12.tr b3)
      simp (disch := omega) only [lJ0, lJ1, lJ2, lJ3, lJ4, lJ5, lJ6, lJ7, lJ8, lJ9, lJ10, lJ30, lJ32, lJ33, lJ39, lJ40, lJ41, lJ45, lJ47, lJ48, lJ51, lJ55, lJ57, lJ58, lJ59, lJ60, lJ64, lJ80, lJ82, lJ99, lJ100, lJ101, lJ123, lJ126, lJ282, lJ342, lJ1000, lJ1100, lJ2394, lJ2736, lJ9999, lJ10000, lJ1000000, lJ100000000, J_add, J_sub, J_mul, J_neg, J_le, J_lt, J_eq, J_in, J_clamp, Int.toNat_natCast]
      refine ⟨fun c5 => ?_, fun c5 => ?_⟩
      · rw [if_neg (by omega)] at ih; exact ih
      · rw [if_pos (by omega)] at ih; exact ih
