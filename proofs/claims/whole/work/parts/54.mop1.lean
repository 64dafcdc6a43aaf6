-- the reference does the calls that tell
theorem thr_bt {μ : Mem} {v : Int} : Bt [3201] μ (thr μ v) := Bt.up (by decide)
theorem MI.thr {S : GS} {μ : Mem} (h : MI S μ) {v : Int} : MI S (thr μ v) := h.bt thr_bt (by decide)
theorem thr_fr {μ : Mem} {v : Int} : FrM μ (thr μ v) := thr_bt.frM (by decide)
/-- a call that is refused -/
theorem m_thw {α β : Type} {en : α → β} {S : GS} {μ0 μ : Mem} {E : String} {c : Int} {v : β} {P : β → Mem → Prop} (h : MRes en (thw (α := α) S E c) μ0 P) (f : FrM μ0 μ) (hm : MI S μ) (e : (μ 3201 0 0) = J c) : P v μ := h v μ f hm e
theorem m_ok {α β : Type} {en : α → β} {S : GS} {z : α} {μ0 μ : Mem} {v : β} {P : β → Mem → Prop} (h : MRes en (ok S z) μ0 P) (f : FrM μ0 μ) (hm : MI S μ) (e : (μ 3201 0 0) = J 0) (ev : v = en z) : P v μ := h v μ f hm ⟨e, ev⟩
theorem m_fails {α : Type} {en : α → Int32} {S : GS} {μ0 μ : Mem} {E : String} {c : Int} {P : Int32 → Mem → Prop} {x : Int32} (ex : x = J c) (h : MRes en (thw (α := α) S E c) μ0 P) (f : FrM μ0 μ) (hm : MI S μ) : w9_fails_wp μ x P :=
  fails_spec ex (m_thw h (f.tr thr_fr) hm.thr thr_v)
theorem MB.st {S : GS} {μ μ' : Mem} {s : St} (h : MB S μ) (b : Bt [3264] μ μ') (hs : MW (μ' 3264 0) s) : MB (setT S s) μ' := by
  have q : ∀ j, j ≠ 3264 → μ' j = μ j := fun j hj => b j (by simpa using hj)
  obtain ⟨-, h2, h3, h4, h5, h6⟩ := h
  refine ⟨hs, ⟨h2.1, by rw [q _ (by decide)]; exact h2.2.1, fun j hj => by have := h2.2.2 j hj; rw [← q 3456 (by decide)] at this; exact this⟩, ?_, fun k p hk hp => by rw [q _ (by decide)]; exact h4 k p hk hp, ⟨by rw [q _ (by decide)]; exact h5.1, fun q' hq => by rw [q _ (by decide)]; exact h5.2 q' hq⟩, by rw [q _ (by decide)]; exact h6⟩
  obtain ⟨t, hs, v, r⟩ := S
  cases v with
  | none => show μ' 3206 0 0 = _; rw [q _ (by decide)]; exact h3
  | some s => exact ⟨by rw [q _ (by decide)]; exact h3.1, h3.2.ev (q _ (by decide))⟩
theorem frames_spec' {S : GS} {μ : Mem} (hm : MB S μ) (g : GOK S) {P : Mem → Prop} (h : ∀ μ', Bt [3392] μ μ' → MB S μ' → MW (μ' 3392 0) (S.1) → P μ') : w9_frames_wp μ P :=
  frames_spec (fun μ' b e => h μ' b (hm.bt b (by decide)) (hm.1.cp g.1.n g.1.l e))
theorem remembers_spec' {S : GS} {s : St} {μ : Mem} (hm : MB (setT S s) μ) (hf : MW (μ 3392 0) (S.1)) (g : GOK S) {P : Mem → Prop} (h : ∀ μ', Bt [3456, 3207, 3212] μ μ' → MI (setT (push S) s) μ' → P μ') : w9_remembers_wp μ P := by
  obtain ⟨h1, h2, h3, h4, h5, h6⟩ := hm
  refine remembers_spec h2 g.2.2.1 hf g.1 (fun μ' b mh e => h μ' b ⟨?_, Or.inl e⟩)
  have q : ∀ j, j ∉ [3456, 3207, 3212] → μ' j = μ j := fun j hj => b j hj
  refine ⟨h1.ev (q _ (by decide)), mh, ?_, fun k p hk hp => by rw [q _ (by decide)]; exact h4 k p hk hp, ⟨by rw [q _ (by decide)]; exact h5.1, fun q' hq => by rw [q _ (by decide)]; exact h5.2 q' hq⟩, by rw [q _ (by decide)]; exact h6⟩
  obtain ⟨t, hs, v, r⟩ := S
  cases v with
  | none => show μ' 3206 0 0 = _; rw [q _ (by decide)]; exact h3
  | some s => exact ⟨by rw [q _ (by decide)]; exact h3.1, h3.2.ev (q _ (by decide))⟩
theorem m_clear {S : GS} {μ : Mem} (hm : MI S μ) (g : GOK S) {P : Int32 → Mem → Prop} (h : MRes J (op_clear S) μ P) : w9_clear_wp μ P := by
  unfold w9_clear_wp
  rintro μ1 rfl
  refine ⟨(J_in (a := 0) (by omega)).mpr (by omega), (J_in (a := 0) (by omega)).mpr (by omega), ?_⟩
  rintro μ4 rfl
  refine ⟨(J_in (a := 1) (by omega)).mpr (by omega), ?_⟩
  rintro μ6 rfl μ7 rfl μ8 rfl
  obtain ⟨⟨h1, h2, h3, h4, h5, h6⟩, -⟩ := hm
  rw [show up μ 3201 0 0 0 3264 0 (0 : Int32).toNatClampNeg = J (S.1.1) by rw [up_nq (by decide)]; exact h1.1]
  generalize hμ : up (up (up (up (up μ 3201 0 0 0) 3264 0 (0 : Int32).toNatClampNeg 0) 3264 0 (1 : Int32).toNatClampNeg 0) 3207 0 0 0) 3212 0 0 0 = μ'
  have b : Bt [3201, 3264, 3207, 3212] μ μ' := by
    rw [← hμ]
    exact ((((Bt.up (by decide)).tr (Bt.up (by decide))).tr (Bt.up (by decide))).tr (Bt.up (by decide))).tr (Bt.up (by decide))
  have q : ∀ j, j ∉ [3201, 3264, 3207, 3212] → μ' j = μ j := fun j hj => b j hj
  refine m_ok h (b.frM (by decide)) ⟨⟨⟨?_, ?_, fun i hi => absurd hi (Nat.not_lt_zero _), fun q hq => absurd hq (Nat.not_lt_zero _)⟩, ⟨Nat.zero_le _, ?_, fun j hj => absurd hj (Nat.not_lt_zero _)⟩, ?_, fun k p hk hp => by rw [q _ (by decide)]; exact h4 k p hk hp, ⟨by rw [q _ (by decide)]; exact h5.1, fun q' hq => by rw [q _ (by decide)]; exact h5.2 q' hq⟩, by rw [q _ (by decide)]; exact h6⟩, Or.inl ?_⟩ ?_ rfl
  · rw [← hμ]; simp [up_at]; rfl
  · rw [← hμ]; simp [up_at]; rfl
  · rw [← hμ]; simp [up_at]; rfl
  · obtain ⟨t, hs, v, r⟩ := S
    cases v with
    | none => show μ' 3206 0 0 = _; rw [q _ (by decide)]; exact h3
    | some s => exact ⟨by rw [q _ (by decide)]; exact h3.1, h3.2.ev (q _ (by decide))⟩
  · rw [← hμ]; simp [up_at]; rfl
  · rw [← hμ]; simp [up_at]; rfl
theorem m_add {S : GS} {μ : Mem} (hm : MI S μ) (g : GOK S) {t id pa sv b e : Int} (ht : (-2147483648 ≤ t ∧ t ≤ 2147483647)) (hid : (-2147483648 ≤ id ∧ id ≤ 2147483647)) (hpa : (-2147483648 ≤ pa ∧ pa ≤ 2147483647)) (hsv : (-2147483648 ≤ sv ∧ sv ≤ 2147483647)) (hb : (-2147483648 ≤ b ∧ b ≤ 2147483647)) (he : (-2147483648 ≤ e ∧ e ≤ 2147483647)) {P : Int32 → Mem → Prop} (h : MRes J (op_add S t id pa sv b e) μ P) : w9_add_wp μ (J t) (J id) (J pa) (J sv) (J b) (J e) P := by
  have rn := g.1.n
  unfold w9_add_wp
  rintro μ1 rfl
  have hm1 : MI S (thr μ 0) := hm.thr
  have f1 : FrM μ (thr μ 0) := thr_fr
  have e1 : m_thrown (thr μ 0) 0 = J 0 := thr_v
  show w9_isTrace_wp (thr μ 0) _ _
  generalize thr μ 0 = μ1 at hm1 f1 e1 ⊢
  unfold op_add at h
  have xa : ¬ (0 ≤ t ∧ t < 4 ∧ 0 ≤ id ∧ id < 100 ∧ -1 ≤ pa ∧ pa < 100 ∧ 0 ≤ sv ∧ sv < 8 ∧ TOq b e) → w9_fails_wp μ1 1 P := fun c => by
    rw [if_neg c] at h
    exact m_fails rfl h f1 hm1
  refine isTrace_spec ht (fun c1 => ⟨fun c => absurd c (by decide), fun _ => ?_⟩) (fun c => ⟨fun _ => xa (by omega), fun c => absurd rfl c⟩)
  refine in_spec id 0 99 rfl rfl rfl hid (by decide) (by decide) (fun c2 => ⟨fun c => absurd c (by decide), fun _ => ?_⟩) (fun c => ⟨fun _ => xa (by omega), fun c => absurd rfl c⟩)
  refine in_spec pa (-1) 99 rfl rfl rfl hpa (by decide) (by decide) (fun c3 => ⟨fun c => absurd c (by decide), fun _ => ?_⟩) (fun c => ⟨fun _ => xa (by omega), fun c => absurd rfl c⟩)
  refine in_spec sv 0 7 rfl rfl rfl hsv (by decide) (by decide) (fun c4 => ⟨fun c => absurd c (by decide), fun _ => ?_⟩) (fun c => ⟨fun _ => xa (by omega), fun c => absurd rfl c⟩)
  refine m_areTimes_spec hb he (fun c5 => ⟨fun _ => ?_, fun c => absurd c (by decide)⟩) (fun c => ⟨fun c => absurd rfl c, fun _ => xa (fun z => c z.2.2.2.2.2.2.2.2)⟩)
  have cc : 0 ≤ t ∧ t < 4 ∧ 0 ≤ id ∧ id < 100 ∧ -1 ≤ pa ∧ pa < 100 ∧ 0 ≤ sv ∧ sv < 8 ∧ TOq b e := by
    refine ⟨by omega, by omega, by omega, by omega, by omega, by omega, by omega, by omega, c5⟩
  rw [if_pos cc] at h
  have m0 : μ1 3264 0 0 = J (S.1.1) := hm1.1.1.1
  simp (disch := omega) only [lJ0, lJ1, lJ2, lJ3, lJ4, lJ5, lJ6, lJ7, lJ8, lJ9, lJ10, lJ30, lJ32, lJ33, lJ39, lJ40, lJ41, lJ45, lJ47, lJ48, lJ51, lJ55, lJ57, lJ58, lJ59, lJ60, lJ64, lJ80, lJ82, lJ99, lJ100, lJ101, lJ123, lJ126, lJ282, lJ342, lJ1000, lJ1100, lJ2394, lJ2736, lJ9999, lJ10000, lJ1000000, lJ100000000, J_add, J_sub, J_mul, J_neg, J_le, J_lt, J_eq, J_in, J_clamp, Int.toNat_natCast, Int.toNat_zero, m0]
  refine ⟨by omega, fun c => by rw [if_pos (Or.inl (by omega))] at h; exact m_fails rfl h f1 hm1, fun c => ?_⟩
  refine m_find_spec hm1.1.1 g.w hid ?_
  have rf := fnd_rg (S.1.1) (S.1.2.1) id
  simp (disch := omega) only [lJ0, lJ1, lJ2, lJ3, lJ4, lJ5, lJ6, lJ7, lJ8, lJ9, lJ10, lJ30, lJ32, lJ33, lJ39, lJ40, lJ41, lJ45, lJ47, lJ48, lJ51, lJ55, lJ57, lJ58, lJ59, lJ60, lJ64, lJ80, lJ82, lJ99, lJ100, lJ101, lJ123, lJ126, lJ282, lJ342, lJ1000, lJ1100, lJ2394, lJ2736, lJ9999, lJ10000, lJ1000000, lJ100000000, J_add, J_sub, J_mul, J_neg, J_le, J_lt, J_eq, J_in, J_clamp, Int.toNat_natCast]
  refine ⟨fun c2 => ?_, fun c2 => by rw [if_pos (Or.inr c2)] at h; exact m_fails rfl h f1 hm1⟩
  rw [if_neg (by omega)] at h
  refine frames_spec' hm1.1 g (fun μ2 b2 k2 mf => ?_)
  refine appends_spec k2.1 (by omega) g.1.l (fun μ3 b3 w3 => ?_)
  refine remembers_spec' (k2.st b3 w3) (by rw [b3 3392 (by decide)]; exact mf) g (fun μ4 b4 k4 => ?_)
  have m4 : μ4 3264 0 0 = J ((S.1.1 + 1 : Nat)) := k4.1.1.1
  simp only [Int.toNat_zero, m4]
  refine ⟨by omega, ?_⟩
  refine m_ok h (((f1.tr (b2.frM (by decide))).tr (b3.frM (by decide))).tr (b4.frM (by decide))) k4 ?_ (by congr 1)
  rw [b4 3201 (by decide), b3 3201 (by decide), b2 3201 (by decide)]
  exact e1
