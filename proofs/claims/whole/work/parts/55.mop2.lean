theorem MW.putK {μ : Mem} {s : St} (h : MW (μ 3264 0) s) (hl : s.1 ≤ 40) {i c : Nat} (hi : i < s.1) (hc : c < 7) {v : Int} {μ' : Mem} (e : μ' 3264 0 = mset (μ 3264 0) (2 + 7 * i + c) (J v)) : MW (μ' 3264 0) (s.1, wput s.2.1 i c v, s.2.2) := by
  obtain ⟨h1, h2, h3, h4⟩ := h
  have q : ∀ k, k ≠ 2 + 7 * i + c → μ' 3264 0 k = μ 3264 0 k := fun k hk => by rw [e]; exact if_neg hk
  refine ⟨by rw [q _ (by omega)]; exact h1, by rw [q _ (by omega)]; exact h2, fun j hj d hd => ?_, fun r hr => ?_⟩
  · dsimp only at hj ⊢
    rw [wput_at]
    by_cases y : j = i ∧ d = c
    · rw [if_pos y, y.1, y.2, e]; exact if_pos rfl
    · rw [if_neg y, q _ (by omega)]; exact h3 j hj d hd
  · dsimp only at hr ⊢
    rw [q _ (by omega), q _ (by omega)]
    exact h4 r hr
theorem thr_w {μ : Mem} {v : Int} : thr μ v 3201 0 0 = J v := up_self
/-- the beginning of a call on one span -/
theorem m_on {S : GS} {μ : Mem} (hm : MI S μ) (g : GOK S) {z : Int} (hz : (-2147483648 ≤ z ∧ z ≤ 2147483647)) {P : Int32 → Mem → Prop} {Q : Int32 → Mem → Prop} (h0 : (fnd S.1.1 S.1.2.1 z) = -1 → ∀ μ', FrM μ μ' → MI S μ' → (μ' 3201 0 0) = J 1 → P 0 μ') (h1 : ∀ i : Nat, i < S.1.1 → (fnd S.1.1 S.1.2.1 z) = i → S.1.2.1 i 0 = z → ∀ μ', FrM μ μ' → MI S μ' → (μ' 3201 0 0) = J 0 → Q (J i) μ') : w9_spanOr_wp μ (J z) (fun r2 μ1 => ((((μ1 3201 0 0)) ≤ 0 → Q r2 μ1) ∧ (¬ ((μ1 3201 0 0)) ≤ 0 → P 0 μ1))) := by
  refine spanOr_spec hm.1.1 g.w hz (fun c => ?_) (fun i hi e ez => ?_)
  · rw [thr_w]
    exact ⟨fun c => absurd c (by decide), fun _ => h0 c _ thr_fr hm.thr thr_v⟩
  · rw [thr_w]
    exact ⟨fun _ => h1 i hi e ez _ thr_fr hm.thr thr_v, fun c => absurd (by decide) c⟩
theorem m_setParent {S : GS} {μ : Mem} (hm : MI S μ) (g : GOK S) {z p : Int} (hz : (-2147483648 ≤ z ∧ z ≤ 2147483647)) (hp : (-2147483648 ≤ p ∧ p ≤ 2147483647)) {P : Int32 → Mem → Prop} (h : MRes J (op_setParent S z p) μ P) : w9_setParent_wp μ (J z) (J p) P := by
  unfold op_setParent at h
  unfold w9_setParent_wp
  refine m_on hm g hz (Q := fun r2 μ1 => (w9_in_wp μ1 (J p) (-1 : Int32) (99 : Int32) (fun (r4 : Int32) (μ3 : Mem) => ((¬ r4 = 0 → (w9_frames_wp μ3 (fun (μ5 : Mem) => (w9_of_wp μ5 r2 (2 : Int32) (fun (r7 : Int32) (μ6 : Mem) => (w9_put_wp μ6 r2 (2 : Int32) (J p) (fun (μ8 : Mem) => (w9_remembers_wp μ8 (fun (μ9 : Mem) => (P r7 μ9)))))))))) ∧ (r4 = 0 → (w9_fails_wp μ3 (2 : Int32) (fun (r11 : Int32) (μ10 : Mem) => (P r11 μ10)))))))) (fun c μ1 f1 k1 t1 => ?_) (fun i hi e ez μ1 f1 k1 t1 => ?_)
  · rw [if_pos c] at h; exact m_thw h f1 k1 t1
  rw [if_neg (by omega), e, Int.toNat_natCast] at h
  have rn := g.1.n
  refine in_spec p (-1) 99 rfl rfl rfl hp (by decide) (by decide) (fun c => ⟨fun _ => ?_, fun c => absurd c (by decide)⟩) (fun c => ⟨fun c => absurd rfl c, fun _ => by rw [if_neg (by omega)] at h; exact m_fails rfl h f1 k1⟩)
  rw [if_pos (by omega)] at h
  refine frames_spec' k1.1 g (fun μ2 b2 k2 mf => ?_)
  refine of_spec k2.1 rn i 2 rfl rfl hi (by omega) ?_
  refine put_spec i 2 rfl rfl (by omega) (by omega) (fun μ3 b3 e3 => ?_)
  refine remembers_spec' (k2.st b3 (k2.1.putK rn hi (by omega) e3)) (by rw [b3 3392 (by decide)]; exact mf) g (fun μ4 b4 k4 => ?_)
  refine m_ok h (((f1.tr (b2.frM (by decide))).tr (b3.frM (by decide))).tr (b4.frM (by decide))) k4 ?_ rfl
  rw [b4 3201 (by decide), b3 3201 (by decide), b2 3201 (by decide)]
  exact t1
theorem m_setTimes {S : GS} {μ : Mem} (hm : MI S μ) (g : GOK S) {z b e : Int} (hz : (-2147483648 ≤ z ∧ z ≤ 2147483647)) (hb : (-2147483648 ≤ b ∧ b ≤ 2147483647)) (he : (-2147483648 ≤ e ∧ e ≤ 2147483647)) {P : Int32 → Mem → Prop} (h : MRes J (op_setTimes S z b e) μ P) : w9_setTimes_wp μ (J z) (J b) (J e) P := by
  unfold op_setTimes at h
  unfold w9_setTimes_wp
  refine m_on hm g hz (Q := fun r2 μ1 => (w9_areTimes_wp μ1 (J b) (J e) (fun (r4 : Int32) (μ3 : Mem) => ((¬ r4 = 0 → (w9_frames_wp μ3 (fun (μ5 : Mem) => (w9_of_wp μ5 r2 (5 : Int32) (fun (r7 : Int32) (μ6 : Mem) => (w9_of_wp μ6 r2 (4 : Int32) (fun (r9 : Int32) (μ8 : Mem) => (w9_put_wp μ8 r2 (4 : Int32) (J b) (fun (μ10 : Mem) => (w9_put_wp μ10 r2 (5 : Int32) (J e) (fun (μ11 : Mem) => (w9_remembers_wp μ11 (fun (μ12 : Mem) => (P (r7 - r9) μ12)))))))))))))) ∧ (r4 = 0 → (w9_fails_wp μ3 (2 : Int32) (fun (r14 : Int32) (μ13 : Mem) => (P r14 μ13)))))))) (fun c μ1 f1 k1 t1 => ?_) (fun i hi ei ez μ1 f1 k1 t1 => ?_)
  · rw [if_pos c] at h; exact m_thw h f1 k1 t1
  rw [if_neg (by omega), ei, Int.toNat_natCast] at h
  have rn := g.1.n
  refine m_areTimes_spec hb he (fun c => ⟨fun _ => ?_, fun c => absurd c (by decide)⟩) (fun c => ⟨fun c => absurd rfl c, fun _ => by rw [if_neg (show ¬ TOq b e from c)] at h; exact m_fails rfl h f1 k1⟩)
  rw [if_pos (show TOq b e from c)] at h
  refine frames_spec' k1.1 g (fun μ2 b2 k2 mf => ?_)
  refine of_spec k2.1 rn i 5 rfl rfl hi (by omega) ?_
  refine of_spec k2.1 rn i 4 rfl rfl hi (by omega) ?_
  refine put_spec i 4 rfl rfl (by omega) (by omega) (fun μ3 b3 e3 => ?_)
  refine put_spec i 5 rfl rfl (by omega) (by omega) (fun μ3' b3' e3' => ?_)
  have w3 := k2.1.putK rn hi (by omega) e3
  have w4 := w3.putK rn hi (by omega) e3'
  refine remembers_spec' (k2.st (b3.tr b3') w4) (by rw [b3' 3392 (by decide), b3 3392 (by decide)]; exact mf) g (fun μ4 b4 k4 => ?_)
  refine m_ok h ((((f1.tr (b2.frM (by decide))).tr (b3.frM (by decide))).tr (b3'.frM (by decide))).tr (b4.frM (by decide))) k4 ?_ (J_sub _ _)
  rw [b4 3201 (by decide), b3' 3201 (by decide), b3 3201 (by decide), b2 3201 (by decide)]
  exact t1
theorem m_mark {S : GS} {μ : Mem} (hm : MI S μ) (g : GOK S) {z v : Int} (hz : (-2147483648 ≤ z ∧ z ≤ 2147483647)) (hv : 0 ≤ v ∧ v ≤ 1) {P : Int32 → Mem → Prop} (h : MRes J (op_mark S z v) μ P) : w9_mark_wp μ (J z) (J v) P := by
  unfold op_mark at h
  unfold w9_mark_wp
  refine m_on hm g hz (Q := fun r2 μ1 => (w9_frames_wp μ1 (fun (μ3 : Mem) => (w9_of_wp μ3 r2 (6 : Int32) (fun (r5 : Int32) (μ4 : Mem) => ((¬ r5 = (1 : Int32) → (w9_mark_b35 P μ4 (J v) r2 (0 : Int32))) ∧ (r5 = (1 : Int32) → (w9_mark_b35 P μ4 (J v) r2 (1 : Int32))))))))) (fun c μ1 f1 k1 t1 => ?_) (fun i hi ei ez μ1 f1 k1 t1 => ?_)
  · rw [if_pos c] at h; exact m_thw h f1 k1 t1
  rw [if_neg (by omega), ei, Int.toNat_natCast] at h
  have rn := g.1.n
  have ri := g.w.r i hi
  refine frames_spec' k1.1 g (fun μ2 b2 k2 mf => ?_)
  refine of_spec k2.1 rn i 6 rfl rfl hi (by omega) ?_
  have fin : ∀ (x y : Int32), x = J (S.1.2.1 i 6) → y = J v → w9_put_wp μ2 (J i) 6 y (fun μ6 => w9_remembers_wp μ6 (fun μ7 => (vp_nar .boolean x = x) ∧ P x μ7)) := by
    rintro x y rfl rfl
    refine put_spec i 6 rfl rfl (by omega) (by omega) (fun μ3 b3 e3 => ?_)
    refine remembers_spec' (k2.st b3 (k2.1.putK rn hi (by omega) e3)) (by rw [b3 3392 (by decide)]; exact mf) g (fun μ4 b4 k4 => ⟨nar01 (by omega), ?_⟩)
    refine m_ok h (((f1.tr (b2.frM (by decide))).tr (b3.frM (by decide))).tr (b4.frM (by decide))) k4 ?_ rfl
    rw [b4 3201 (by decide), b3 3201 (by decide), b2 3201 (by decide)]
    exact t1
  unfold w9_mark_b35
  simp (disch := omega) only [lJ0, lJ1, lJ2, lJ3, lJ4, lJ5, lJ6, lJ7, lJ8, lJ9, lJ10, lJ30, lJ32, lJ33, lJ39, lJ40, lJ41, lJ45, lJ47, lJ48, lJ51, lJ55, lJ57, lJ58, lJ59, lJ60, lJ64, lJ80, lJ82, lJ99, lJ100, lJ101, lJ123, lJ126, lJ282, lJ342, lJ1000, lJ1100, lJ2394, lJ2736, lJ9999, lJ10000, lJ1000000, lJ100000000, J_add, J_sub, J_mul, J_neg, J_le, J_lt, J_eq, J_in, J_clamp, Int.toNat_natCast]
  refine ⟨fun c => ⟨fun c2 => fin 0 0 ?_ ?_, fun c2 => fin 0 1 ?_ ?_⟩, fun c => ⟨fun c2 => fin 1 0 ?_ ?_, fun c2 => fin 1 1 ?_ ?_⟩⟩
  · rw [show S.1.2.1 i 6 = 0 by omega]; rfl
  · rw [c2]; rfl
  · rw [show S.1.2.1 i 6 = 0 by omega]; rfl
  · rw [show v = 1 by omega]; rfl
  · rw [c]; rfl
  · rw [c2]; rfl
  · rw [c]; rfl
  · rw [show v = 1 by omega]; rfl
theorem m_spanCount {S : GS} {μ : Mem} (hm : MI S μ) {P : Int32 → Mem → Prop} (h : MRes J (op_spanCount S) μ P) : w9_spanCount_wp μ P := by
  unfold w9_spanCount_wp
  rintro μ1 rfl
  refine ⟨(J_in (a := 0) (by omega)).mpr (by omega), ?_⟩
  show P (thr μ 0 3264 0 0) (thr μ 0)
  rw [thr_j (by decide)]
  refine m_ok h thr_fr hm.thr thr_w ?_
  exact hm.1.1.1
theorem m_linkCount {S : GS} {μ : Mem} (hm : MI S μ) {P : Int32 → Mem → Prop} (h : MRes J (op_linkCount S) μ P) : w9_linkCount_wp μ P := by
  unfold w9_linkCount_wp
  rintro μ1 rfl
  refine ⟨(J_in (a := 1) (by omega)).mpr (by omega), ?_⟩
  show P (thr μ 0 3264 0 1) (thr μ 0)
  rw [thr_j (by decide)]
  refine m_ok h thr_fr hm.thr thr_w ?_
  exact hm.1.1.2.1
theorem m_span {S : GS} {μ : Mem} (hm : MI S μ) (g : GOK S) {z k : Int} (hz : (-2147483648 ≤ z ∧ z ≤ 2147483647)) (hk : (-2147483648 ≤ k ∧ k ≤ 2147483647)) {P : Int32 → Mem → Prop} (h : MRes J (op_span S z k) μ P) : w9_span_wp μ (J z) (J k) P := by
  unfold op_span at h
  unfold w9_span_wp
  refine m_on hm g hz (Q := fun r2 μ1 => (w9_in_wp μ1 (J k) (0 : Int32) (5 : Int32) (fun (r4 : Int32) (μ3 : Mem) => ((¬ r4 = 0 → ((¬ (J k) = (5 : Int32) → (w9_of_wp μ3 r2 ((1 : Int32) + (J k)) (fun (r6 : Int32) (μ5 : Mem) => (P r6 μ5)))) ∧ ((J k) = (5 : Int32) → (P r2 μ3)))) ∧ (r4 = 0 → (w9_fails_wp μ3 (2 : Int32) (fun (r9 : Int32) (μ8 : Mem) => (P r9 μ8)))))))) (fun c μ1 f1 k1 t1 => ?_) (fun i hi ei ez μ1 f1 k1 t1 => ?_)
  · rw [if_pos c] at h; exact m_thw h f1 k1 t1
  rw [if_neg (by omega), ei, Int.toNat_natCast] at h
  have rn := g.1.n
  refine in_spec k 0 5 rfl rfl rfl hk (by decide) (by decide) (fun c => ⟨fun _ => ?_, fun c => absurd c (by decide)⟩) (fun c => ⟨fun c => absurd rfl c, fun _ => by rw [if_neg (by omega)] at h; exact m_fails rfl h f1 k1⟩)
  rw [if_pos (by omega)] at h
  simp (disch := omega) only [lJ0, lJ1, lJ2, lJ3, lJ4, lJ5, lJ6, lJ7, lJ8, lJ9, lJ10, lJ30, lJ32, lJ33, lJ39, lJ40, lJ41, lJ45, lJ47, lJ48, lJ51, lJ55, lJ57, lJ58, lJ59, lJ60, lJ64, lJ80, lJ82, lJ99, lJ100, lJ101, lJ123, lJ126, lJ282, lJ342, lJ1000, lJ1100, lJ2394, lJ2736, lJ9999, lJ10000, lJ1000000, lJ100000000, J_add, J_sub, J_mul, J_neg, J_le, J_lt, J_eq, J_in, J_clamp, Int.toNat_natCast]
  refine ⟨fun c2 => ?_, fun c2 => by rw [if_pos c2] at h; exact m_ok h f1 k1 t1 rfl⟩
  rw [if_neg c2] at h
  exact of_spec k1.1.1 rn i (1 + k).toNat rfl (by congr 1; omega) hi (by omega) (m_ok h f1 k1 t1 rfl)
theorem MW.lk {f : Ar} {s : St} (h : MW f s) : f 1 = J s.2.2.length := h.2.1
theorem m_link {S : GS} {μ : Mem} (hm : MI S μ) (g : GOK S) {a b : Int} (ha : (-2147483648 ≤ a ∧ a ≤ 2147483647)) (hb : (-2147483648 ≤ b ∧ b ≤ 2147483647)) {P : Int32 → Mem → Prop} (h : MRes J (op_link S a b) μ P) : w9_link_wp μ (J a) (J b) P := by
  have rn := g.1.n
  have rl := g.1.l
  unfold op_link at h
  unfold w9_link_wp
  rintro μ1 rfl
  have k1 : MI S (thr μ 0) := hm.thr
  have f1 : FrM μ (thr μ 0) := thr_fr
  have t1 : m_thrown (thr μ 0) 0 = J 0 := thr_v
  show w9_find_wp (thr μ 0) _ _
  generalize thr μ 0 = μ1 at k1 f1 t1 ⊢
  have ra := fnd_rg (S.1.1) (S.1.2.1) a
  have rb := fnd_rg (S.1.1) (S.1.2.1) b
  refine m_find_spec k1.1.1 g.w ha ?_
  simp (disch := omega) only [lJ0, lJ1, lJ2, lJ3, lJ4, lJ5, lJ6, lJ7, lJ8, lJ9, lJ10, lJ30, lJ32, lJ33, lJ39, lJ40, lJ41, lJ45, lJ47, lJ48, lJ51, lJ55, lJ57, lJ58, lJ59, lJ60, lJ64, lJ80, lJ82, lJ99, lJ100, lJ101, lJ123, lJ126, lJ282, lJ342, lJ1000, lJ1100, lJ2394, lJ2736, lJ9999, lJ10000, lJ1000000, lJ100000000, J_add, J_sub, J_mul, J_neg, J_le, J_lt, J_eq, J_in, J_clamp, Int.toNat_natCast]
  refine ⟨fun c => by rw [if_pos (Or.inl c)] at h; exact m_fails rfl h f1 k1, fun c => ?_⟩
  refine m_find_spec k1.1.1 g.w hb ?_
  have e1 : μ1 3264 0 1 = J (S.1.2.2).length := k1.1.1.lk
  simp (disch := omega) only [lJ0, lJ1, lJ2, lJ3, lJ4, lJ5, lJ6, lJ7, lJ8, lJ9, lJ10, lJ30, lJ32, lJ33, lJ39, lJ40, lJ41, lJ45, lJ47, lJ48, lJ51, lJ55, lJ57, lJ58, lJ59, lJ60, lJ64, lJ80, lJ82, lJ99, lJ100, lJ101, lJ123, lJ126, lJ282, lJ342, lJ1000, lJ1100, lJ2394, lJ2736, lJ9999, lJ10000, lJ1000000, lJ100000000, J_add, J_sub, J_mul, J_neg, J_le, J_lt, J_eq, J_in, J_clamp, Int.toNat_natCast, show (1 : Int).toNat = 1 from rfl, e1]
  refine ⟨fun c2 => ?_, fun c2 => by rw [if_pos (Or.inr c2)] at h; exact m_fails rfl h f1 k1⟩
  rw [if_neg (by omega)] at h
  refine ⟨fun c3 => ?_, fun c3 => by rw [if_pos c3] at h; exact m_fails rfl h f1 k1⟩
  rw [if_neg c3] at h
  refine ⟨by omega, fun c4 => by rw [if_pos (Or.inl (by omega))] at h; exact m_fails rfl h f1 k1, fun c4 => ?_⟩
  refine linkOf_spec k1.1.1 g.1.2.1 ha hb (fun q hq hq2 => ?_) (fun hn => ?_)
  · rw [if_pos (Or.inr ⟨q, hq, hq2⟩)] at h
    simp (disch := omega) only [lJ0, lJ1, lJ2, lJ3, lJ4, lJ5, lJ6, lJ7, lJ8, lJ9, lJ10, lJ30, lJ32, lJ33, lJ39, lJ40, lJ41, lJ45, lJ47, lJ48, lJ51, lJ55, lJ57, lJ58, lJ59, lJ60, lJ64, lJ80, lJ82, lJ99, lJ100, lJ101, lJ123, lJ126, lJ282, lJ342, lJ1000, lJ1100, lJ2394, lJ2736, lJ9999, lJ10000, lJ1000000, lJ100000000, J_add, J_sub, J_mul, J_neg, J_le, J_lt, J_eq, J_in, J_clamp, Int.toNat_natCast]
    exact ⟨fun c => by omega, fun _ => m_fails rfl h f1 k1⟩
  rw [if_neg (fun z => z.elim (fun y => by omega) hn)] at h
  simp (disch := omega) only [lJ0, lJ1, lJ2, lJ3, lJ4, lJ5, lJ6, lJ7, lJ8, lJ9, lJ10, lJ30, lJ32, lJ33, lJ39, lJ40, lJ41, lJ45, lJ47, lJ48, lJ51, lJ55, lJ57, lJ58, lJ59, lJ60, lJ64, lJ80, lJ82, lJ99, lJ100, lJ101, lJ123, lJ126, lJ282, lJ342, lJ1000, lJ1100, lJ2394, lJ2736, lJ9999, lJ10000, lJ1000000, lJ100000000, J_add, J_sub, J_mul, J_neg, J_le, J_lt, J_eq, J_in, J_clamp, Int.toNat_natCast]
  refine ⟨fun _ => ?_, fun c => absurd trivial c⟩
  refine frames_spec' k1.1 g (fun μ2 b2 k2 mf => ?_)
  have e2 : μ2 3264 0 1 = J (S.1.2.2).length := k2.1.lk
  have i1 : ((282 : Int) + 2 * ((S.1.2.2).length : Int)).toNat = 282 + 2 * (S.1.2.2).length := by omega
  have i2 : ((282 : Int) + 2 * ((S.1.2.2).length : Int) + 1).toNat = 283 + 2 * (S.1.2.2).length := by omega
  simp only [show (1 : Int).toNat = 1 from rfl, e2]
  simp (disch := omega) only [lJ0, lJ1, lJ2, lJ3, lJ4, lJ5, lJ6, lJ7, lJ8, lJ9, lJ10, lJ30, lJ32, lJ33, lJ39, lJ40, lJ41, lJ45, lJ47, lJ48, lJ51, lJ55, lJ57, lJ58, lJ59, lJ60, lJ64, lJ80, lJ82, lJ99, lJ100, lJ101, lJ123, lJ126, lJ282, lJ342, lJ1000, lJ1100, lJ2394, lJ2736, lJ9999, lJ10000, lJ1000000, lJ100000000, J_add, J_sub, J_mul, J_neg, J_le, J_lt, J_eq, J_in, J_clamp, Int.toNat_natCast, i1]
  refine ⟨by omega, by omega, ?_⟩
  rintro μ3 rfl
  have e3 : up μ2 3264 0 (282 + 2 * (S.1.2.2).length) (J a) 3264 0 1 = J (S.1.2.2).length := by rw [up_at, if_neg (by omega)]; exact e2
  simp only [show (1 : Int).toNat = 1 from rfl, e3]
  simp (disch := omega) only [lJ0, lJ1, lJ2, lJ3, lJ4, lJ5, lJ6, lJ7, lJ8, lJ9, lJ10, lJ30, lJ32, lJ33, lJ39, lJ40, lJ41, lJ45, lJ47, lJ48, lJ51, lJ55, lJ57, lJ58, lJ59, lJ60, lJ64, lJ80, lJ82, lJ99, lJ100, lJ101, lJ123, lJ126, lJ282, lJ342, lJ1000, lJ1100, lJ2394, lJ2736, lJ9999, lJ10000, lJ1000000, lJ100000000, J_add, J_sub, J_mul, J_neg, J_le, J_lt, J_eq, J_in, J_clamp, Int.toNat_natCast, i2]
  refine ⟨by omega, by omega, ?_⟩
  rintro μ4 rfl
  have e4 : up (up μ2 3264 0 (282 + 2 * (S.1.2.2).length) (J a)) 3264 0 (283 + 2 * (S.1.2.2).length) (J b) 3264 0 1 = J (S.1.2.2).length := by rw [up_at, if_neg (by omega)]; exact e3
  simp only [show (1 : Int).toNat = 1 from rfl, e4]
  simp (disch := omega) only [lJ0, lJ1, lJ2, lJ3, lJ4, lJ5, lJ6, lJ7, lJ8, lJ9, lJ10, lJ30, lJ32, lJ33, lJ39, lJ40, lJ41, lJ45, lJ47, lJ48, lJ51, lJ55, lJ57, lJ58, lJ59, lJ60, lJ64, lJ80, lJ82, lJ99, lJ100, lJ101, lJ123, lJ126, lJ282, lJ342, lJ1000, lJ1100, lJ2394, lJ2736, lJ9999, lJ10000, lJ1000000, lJ100000000, J_add, J_sub, J_mul, J_neg, J_le, J_lt, J_eq, J_in, J_clamp, Int.toNat_natCast]
  refine ⟨by omega, by omega, ?_⟩
  rintro μ5 rfl
  generalize hμ : up (up (up μ2 3264 0 (282 + 2 * (S.1.2.2).length) (J a)) 3264 0 (283 + 2 * (S.1.2.2).length) (J b)) 3264 0 1 (J (((S.1.2.2).length : Int) + 1)) = μ5
  have b5 : Bt [3264] μ2 μ5 := by rw [← hμ]; exact ((Bt.up (by decide)).tr (Bt.up (by decide))).tr (Bt.up (by decide))
  have w5 : MW (μ5 3264 0) (S.1.1, S.1.2.1, S.1.2.2 ++ [(a, b)]) := by
    have ev : ∀ k, k ≠ 1 → k ≠ 282 + 2 * (S.1.2.2).length → k ≠ 283 + 2 * (S.1.2.2).length → μ5 3264 0 k = μ2 3264 0 k := fun k a1 a2 a3 => by
      rw [← hμ, up_at, if_neg (by omega), up_at, if_neg (by omega), up_at, if_neg (by omega)]
    refine ⟨by rw [ev _ (by omega) (by omega) (by omega)]; exact k2.1.1, ?_, fun i hi c hc => ?_, fun q hq => ?_⟩
    · rw [← hμ, up_at, if_pos ⟨rfl, rfl, rfl⟩]
      dsimp only
      rw [List.length_append, List.length_singleton]
      rfl
    · dsimp only at hi ⊢
      rw [ev _ (by omega) (by omega) (by omega)]
      exact k2.1.2.2.1 i hi c hc
    · dsimp only at hq ⊢
      rw [List.length_append, List.length_singleton] at hq
      by_cases y : q = (S.1.2.2).length
      · rw [y, lf_last, lt_last, ← hμ, up_at, if_neg (by omega), up_at, if_neg (by omega), up_at, if_pos (by omega), up_at, if_neg (by omega), up_at, if_pos (by omega)]
        exact ⟨rfl, rfl⟩
      · rw [lf_app (by omega), lt_app (by omega), ev _ (by omega) (by omega) (by omega), ev _ (by omega) (by omega) (by omega)]
        exact k2.1.2.2.2 q (by omega)
  refine remembers_spec' (k2.st b5 w5) (by rw [b5 3392 (by decide)]; exact mf) g (fun μ6 b6 k6 => ?_)
  have m6 : μ6 3264 0 1 = J (((S.1.2.2).length : Int) + 1) := by
    have := k6.1.1.lk
    simp only [setT, List.length_append, List.length_singleton] at this
    rw [this]
    congr 1
  simp only [show (1 : Int).toNat = 1 from rfl, m6]
  simp (disch := omega) only [lJ0, lJ1, lJ2, lJ3, lJ4, lJ5, lJ6, lJ7, lJ8, lJ9, lJ10, lJ30, lJ32, lJ33, lJ39, lJ40, lJ41, lJ45, lJ47, lJ48, lJ51, lJ55, lJ57, lJ58, lJ59, lJ60, lJ64, lJ80, lJ82, lJ99, lJ100, lJ101, lJ123, lJ126, lJ282, lJ342, lJ1000, lJ1100, lJ2394, lJ2736, lJ9999, lJ10000, lJ1000000, lJ100000000, J_add, J_sub, J_mul, J_neg, J_le, J_lt, J_eq, J_in, J_clamp, Int.toNat_natCast]
  refine ⟨by omega, m_ok h (((f1.tr (b2.frM (by decide))).tr (b5.frM (by decide))).tr (b6.frM (by decide))) k6 ?_ (by congr 1; omega)⟩
  rw [b6 3201 (by decide), b5 3201 (by decide), b2 3201 (by decide)]
  exact t1
theorem m_unlink {S : GS} {μ : Mem} (hm : MI S μ) (g : GOK S) {q : Int} (hq : (-2147483648 ≤ q ∧ q ≤ 2147483647)) {P : Int32 → Mem → Prop} (h : MRes J (op_unlink S q) μ P) : w9_unlink_wp μ (J q) P := by
  have rn := g.1.n
  have rl := g.1.l
  unfold op_unlink at h
  unfold w9_unlink_wp
  rintro μ1 rfl
  have k1 : MI S (thr μ 0) := hm.thr
  have f1 : FrM μ (thr μ 0) := thr_fr
  have t1 : m_thrown (thr μ 0) 0 = J 0 := thr_v
  show (vp_in 1 342) ∧ w9_in_wp (thr μ 0) (J q) 0 (thr μ 0 3264 0 (1 : Int32).toNatClampNeg - 1) _
  generalize thr μ 0 = μ1 at k1 f1 t1 ⊢
  have e1 : μ1 3264 0 1 = J (S.1.2.2).length := k1.1.1.lk
  simp (disch := omega) only [lJ0, lJ1, lJ2, lJ3, lJ4, lJ5, lJ6, lJ7, lJ8, lJ9, lJ10, lJ30, lJ32, lJ33, lJ39, lJ40, lJ41, lJ45, lJ47, lJ48, lJ51, lJ55, lJ57, lJ58, lJ59, lJ60, lJ64, lJ80, lJ82, lJ99, lJ100, lJ101, lJ123, lJ126, lJ282, lJ342, lJ1000, lJ1100, lJ2394, lJ2736, lJ9999, lJ10000, lJ1000000, lJ100000000, J_add, J_sub, J_mul, J_neg, J_le, J_lt, J_eq, J_in, J_clamp, Int.toNat_natCast, show (1 : Int).toNat = 1 from rfl, e1]
  refine ⟨by omega, ?_⟩
  refine in_spec q 0 (((S.1.2.2).length : Int) - 1) rfl rfl rfl hq (by omega) (by omega) (fun c => ⟨fun _ => ?_, fun c => absurd c (by decide)⟩) (fun c => ⟨fun c => absurd rfl c, fun _ => by rw [if_neg (by omega)] at h; exact m_fails rfl h f1 k1⟩)
  rw [if_pos (by omega)] at h
  refine frames_spec' k1.1 g (fun μ2 b2 k2 mf => ?_)
  refine unlinks_spec k2.1 rn rl q.toNat (by omega) (by congr 1; omega) (fun μ3 b3 w3 => ?_)
  refine remembers_spec' (k2.st b3 w3) (by rw [b3 3392 (by decide)]; exact mf) g (fun μ4 b4 k4 => ?_)
  have m4 : μ4 3264 0 1 = J (((S.1.2.2).length : Int) - 1) := by
    have := k4.1.1.lk
    simp only [setT] at this
    rw [this, List.length_eraseIdx_of_lt (by omega)]
    congr 1
    omega
  simp only [show (1 : Int).toNat = 1 from rfl, m4]
  refine ⟨by omega, m_ok h (((f1.tr (b2.frM (by decide))).tr (b3.frM (by decide))).tr (b4.frM (by decide))) k4 ?_ rfl⟩
  rw [b4 3201 (by decide), b3 3201 (by decide), b2 3201 (by decide)]
  exact t1
