theorem m_segments {S : GS} {μ : Mem} (hm : MI S μ) (g : GOK S) {t q : Int} (ht : (-2147483648 ≤ t ∧ t ≤ 2147483647)) (hq : (-2147483648 ≤ q ∧ q ≤ 2147483647)) {P : Int32 → Mem → Prop} (h : MRes J (op_segments S t q) μ P) : w9_segments_wp μ (J t) (J q) P := by
  unfold op_segments at h
  unfold w9_segments_wp
  refine m_nodeOr_spec hm g ht hq (fun c μ' f k t1 => ⟨fun c => absurd c (by rw [t1]; decide), fun _ => by rw [if_neg c] at h; exact m_thw h f k t1⟩) (fun c c2 μ' f k t1 => ⟨fun c => absurd c (by rw [t1]; decide), fun _ => by rw [if_pos c, if_pos c2] at h; exact m_thw h f k t1⟩) (fun c c2 μ' f k t1 => ⟨fun _ => ?_, fun c => absurd (by rw [t1]; decide) c⟩)
  rw [if_pos c, if_neg c2] at h
  refine m_path_spec k g (nd_Nx g c2) (nd_kid g c2) (fun μ2 b2 s2 => ?_)
  rw [show μ2 3226 0 0 = _ from s2.1]
  exact m_ok h (f.tr (b2.frM (by decide))) (k.bt b2 (by decide)).1 (by rw [b2 3201 (by decide)]; exact t1) rfl
theorem m_segment {S : GS} {μ : Mem} (hm : MI S μ) (g : GOK S) {t q a v : Int} (ht : (-2147483648 ≤ t ∧ t ≤ 2147483647)) (hq : (-2147483648 ≤ q ∧ q ≤ 2147483647)) (ha : (-2147483648 ≤ a ∧ a ≤ 2147483647)) (hv : (-2147483648 ≤ v ∧ v ≤ 2147483647)) {P : Int32 → Mem → Prop} (h : MRes J (op_segment S t q a v) μ P) : w9_segment_wp μ (J t) (J q) (J a) (J v) P := by
  unfold op_segment at h
  unfold w9_segment_wp
  have rn := g.1.n
  have rd := nd_rg g.w t q
  have rlen := hl_len g
  have bad : ∀ (μ1 : Mem) (c : Int), 1 ≤ c ∧ c ≤ 3 → FrM μ μ1 → MI S μ1 → MRes J (thw (α := Int) S "" c) μ P → w9_segment_b41 P μ1 (J t) (J q) (J a) (J v) (J c) := by
    intro μ1 c hc f k h
    unfold w9_segment_b41
    rintro μ7 rfl
    have e7 : up μ1 3201 0 0 (J c) 3201 0 0 = J c := up_self
    simp (disch := omega) only [lJ0, lJ1, lJ2, lJ3, lJ4, lJ5, lJ6, lJ7, lJ8, lJ9, lJ10, lJ30, lJ32, lJ33, lJ39, lJ40, lJ41, lJ45, lJ47, lJ48, lJ51, lJ55, lJ57, lJ58, lJ59, lJ60, lJ64, lJ80, lJ82, lJ99, lJ100, lJ101, lJ123, lJ126, lJ282, lJ342, lJ1000, lJ1100, lJ2394, lJ2736, lJ9999, lJ10000, lJ1000000, lJ100000000, J_add, J_sub, J_mul, J_neg, J_le, J_lt, J_eq, J_in, J_clamp, Int.toNat_natCast, e7]
    have b : Bt [3201] μ1 (up μ1 3201 0 0 (J c)) := Bt.up (by decide)
    exact ⟨fun z => by omega, fun _ => m_thw h (f.tr (b.frM (by decide))) (k.bt b (by decide)) e7⟩
  refine isTrace_spec ht (fun c => ⟨fun _ => ?_, fun c => absurd c (by decide)⟩) (fun c => ⟨fun c => absurd rfl c, fun _ => bad μ 1 (by omega) FrM.rf hm (by rw [if_neg c] at h; exact h)⟩)
  rw [if_pos c] at h
  refine in_spec v 0 2 rfl rfl rfl hv (by decide) (by decide) (fun cv => ⟨fun _ => ?_, fun c => absurd c (by decide)⟩) (fun cv => ⟨fun c => absurd rfl c, fun _ => bad μ 2 (by omega) FrM.rf hm (by rw [if_neg (by omega)] at h; exact h)⟩)
  rw [if_pos (by omega)] at h
  refine m_node_spec hm g ht hq (fun μ1 f1 t1 k1 => ?_)
  simp (disch := omega) only [lJm1, J_eq]
  refine ⟨fun c2 => ?_, fun c2 => bad μ1 3 (by omega) f1 k1.1 (by rw [if_pos c2] at h; exact h)⟩
  rw [if_neg c2] at h
  have nx := nd_Nx g c2
  have kid := nd_kid g c2
  have pm := fun k hk => pa_mem g nx kid (k := k) hk
  have nx' := nx
  unfold Nx at nx'
  have pl := pa_len g (x := nd (S.1.1) (S.1.2.1) t q) (by clear kid; omega)
  unfold w9_segment_b41
  rintro μ7 rfl
  have b7 : Bt [3201] μ1 (up μ1 3201 0 0 0) := Bt.up (by decide)
  have e7 : up μ1 3201 0 0 0 3201 0 0 = J 0 := up_self
  have k7 := k1.1.bt b7 (by decide)
  have f7 := f1.tr (b7.frM (by decide))
  generalize up μ1 3201 0 0 0 = μ7 at e7 k7 f7 ⊢
  rw [e7]
  refine ⟨fun _ => ?_, fun z => absurd (by decide) z⟩
  refine m_node_spec k7 g ht hq (fun μ8 f8 t8 k8 => ?_)
  refine m_path_spec k8 g nx kid (fun μ9 b9 s9 => ?_)
  have k9 := k8.bt b9 (by decide)
  have f9 := (f7.tr f8).tr (b9.frM (by decide))
  have t9 : μ9 3201 0 0 = J 0 := by rw [b9 3201 (by decide)]; exact t8.trans e7
  have e0 : μ9 3226 0 0 = J ((pa S.1.1 S.1.2.1 (nd S.1.1 S.1.2.1 t q))).length := s9.1
  have sr : ∀ k, k < ((pa S.1.1 S.1.2.1 (nd S.1.1 S.1.2.1 t q))).length → μ9 4224 0 k = J (sg ((pa S.1.1 S.1.2.1 (nd S.1.1 S.1.2.1 t q))) k).1 ∧ μ9 4288 0 k = J (sg ((pa S.1.1 S.1.2.1 (nd S.1.1 S.1.2.1 t q))) k).2.1 ∧ μ9 4352 0 k = J (sg ((pa S.1.1 S.1.2.1 (nd S.1.1 S.1.2.1 t q))) k).2.2 := s9.2
  have pm : ∀ k, k < ((pa S.1.1 S.1.2.1 (nd S.1.1 S.1.2.1 t q))).length → Nx S (sg ((pa S.1.1 S.1.2.1 (nd S.1.1 S.1.2.1 t q))) k).1 ∧ Rn (sg ((pa S.1.1 S.1.2.1 (nd S.1.1 S.1.2.1 t q))) k).2.1 ∧ Rn (sg ((pa S.1.1 S.1.2.1 (nd S.1.1 S.1.2.1 t q))) k).2.2 ∧ _ := pm
  clear kid s9
  generalize (pa S.1.1 S.1.2.1 (nd S.1.1 S.1.2.1 t q)) = L at *
  rw [e0]
  have el : J (L.length : Int) - 1 = J ((L.length : Int) - 1) := J_sub _ 1
  refine in_spec a 0 ((L.length : Int) - 1) rfl rfl el ha (by omega) (by omega) (fun ca => ⟨fun _ => ?_, fun c => absurd c (by decide)⟩) (fun ca => ⟨fun c => absurd rfl c, fun _ => by rw [if_neg (by omega)] at h; exact m_fails rfl h f9 k9.1⟩)
  rw [if_pos (by omega)] at h
  obtain ⟨s1, s2, s3⟩ := sr ((L.length : Int) - 1 - a).toNat (by omega)
  obtain ⟨q1, q2, q3, -⟩ := pm ((L.length : Int) - 1 - a).toNat (by omega)
  unfold Rn at q2 q3
  simp (disch := omega) only [lJ0, lJ1, lJ2, lJ3, lJ4, lJ5, lJ6, lJ7, lJ8, lJ9, lJ10, lJ30, lJ32, lJ33, lJ39, lJ40, lJ41, lJ45, lJ47, lJ48, lJ51, lJ55, lJ57, lJ58, lJ59, lJ60, lJ64, lJ80, lJ82, lJ99, lJ100, lJ101, lJ123, lJ126, lJ282, lJ342, lJ1000, lJ1100, lJ2394, lJ2736, lJ9999, lJ10000, lJ1000000, lJ100000000, J_add, J_sub, J_mul, J_neg, J_le, J_lt, J_eq, J_in, J_clamp, Int.toNat_natCast, e0, s1, s2, s3]
  refine ⟨fun d1 => ⟨fun d2 => ⟨by omega, ?_⟩, fun d2 => ⟨by omega, ?_⟩⟩, fun d1 => ⟨by omega, ?_⟩⟩
  · rw [if_neg d1, if_neg d2] at h; exact m_ok h f9 k9.1 t9 rfl
  · rw [if_neg d1, if_pos d2] at h; exact m_ok h f9 k9.1 t9 rfl
  · rw [if_pos d1] at h; exact m_number_spec k9 g q1 (m_ok h f9 k9.1 t9 rfl)
theorem m_critical_spec {S : GS} {μ : Mem} (k : MQ9 S μ) (g : GOK S) {i : Nat} (hi : i < S.1.1) {x : Int32} (ex : x = J i) {P : Int32 → Mem → Prop} (h : ∀ μ', Bt [4224, 4288, 4352, 3226] μ μ' → P (J (ctm (S.1.1) (S.1.2.1) i)) μ') : w9_critical_wp μ x P := by
  have rn := g.1.n
  unfold w9_critical_wp
  refine m_rootOf_spec k g hi ex ?_
  have nx := rtx_Nx g hi
  have kid := rtx_kid g hi
  have pm := fun k hk => pa_mem g nx kid (k := k) hk
  have nx' := nx
  unfold Nx at nx'
  have pl := pa_len g (x := rtx (S.1.1) (S.1.2.1) i) (by clear kid; omega)
  refine m_path_spec k g nx kid (fun μ2 b2 s2 => ?_)
  have h := h μ2 b2
  unfold ctm at h
  clear kid
  generalize rtx (S.1.1) (S.1.2.1) i = x at *
  subst ex
  intro R hR
  refine down (Q := fun r => R μ2 (J i) (J (sgs (fun y => y = (i : Int)) (pa (S.1.1) (S.1.2.1) x) r)) (J r)) (pa (S.1.1) (S.1.2.1) x).length (fun r hr ih => ?_)
  apply hR
  unfold w9_critical_b13_body
  have e0 : μ2 3226 0 0 = J (pa (S.1.1) (S.1.2.1) x).length := s2.1
  have sr := sgs_rg (fun y => y = (i : Int)) (L := pa (S.1.1) (S.1.2.1) x) (fun k hk => ⟨(pm k hk).2.1, (pm k hk).2.2.1⟩) r hr
  rcases Nat.lt_or_ge r (pa (S.1.1) (S.1.2.1) x).length with c | c
  · have ih := ih c
    obtain ⟨q1, q2, q3, -⟩ := pm r c
    have pr1 : μ2 4224 0 r = _ := (s2.2 r c).1
    have pr2 : μ2 4288 0 r = _ := (s2.2 r c).2.1
    have pr3 : μ2 4352 0 r = _ := (s2.2 r c).2.2
    have rlen := hl_len g
    unfold Rn at q2 q3
    unfold Nx at q1
    rw [sgs_succ] at ih
    simp (disch := omega) only [lJ0, lJ1, lJ2, lJ3, lJ4, lJ5, lJ6, lJ7, lJ8, lJ9, lJ10, lJ30, lJ32, lJ33, lJ39, lJ40, lJ41, lJ45, lJ47, lJ48, lJ51, lJ55, lJ57, lJ58, lJ59, lJ60, lJ64, lJ80, lJ82, lJ99, lJ100, lJ101, lJ123, lJ126, lJ282, lJ342, lJ1000, lJ1100, lJ2394, lJ2736, lJ9999, lJ10000, lJ1000000, lJ100000000, J_add, J_sub, J_mul, J_neg, J_le, J_lt, J_eq, J_in, J_clamp, Int.toNat_natCast, e0, pr1, pr2, pr3, Int.add_zero]
    refine ⟨fun _ => by omega, fun _ => ⟨by omega, fun c2 => ?_, fun c2 => ⟨by omega, by omega, ?_⟩⟩⟩
    · rw [if_neg c2] at ih; exact ih
    · rw [if_pos c2] at ih; exact ih
  · have e9 : r = (pa (S.1.1) (S.1.2.1) x).length := by omega
    rw [e9]
    simp (disch := omega) only [lJ0, lJ1, lJ2, lJ3, lJ4, lJ5, lJ6, lJ7, lJ8, lJ9, lJ10, lJ30, lJ32, lJ33, lJ39, lJ40, lJ41, lJ45, lJ47, lJ48, lJ51, lJ55, lJ57, lJ58, lJ59, lJ60, lJ64, lJ80, lJ82, lJ99, lJ100, lJ101, lJ123, lJ126, lJ282, lJ342, lJ1000, lJ1100, lJ2394, lJ2736, lJ9999, lJ10000, lJ1000000, lJ100000000, J_add, J_sub, J_mul, J_neg, J_le, J_lt, J_eq, J_in, J_clamp, Int.toNat_natCast, e0]
    exact ⟨fun _ => h, fun c => absurd (Int.le_refl _) c⟩
theorem m_criticalTime {S : GS} {μ : Mem} (hm : MI S μ) (g : GOK S) {z : Int} (hz : (-2147483648 ≤ z ∧ z ≤ 2147483647)) {P : Int32 → Mem → Prop} (h : MRes J (op_criticalTime S z) μ P) : w9_criticalTime_wp μ (J z) P := by
  unfold op_criticalTime at h
  unfold w9_criticalTime_wp
  refine m_on2 hm g hz (fun c μ1 f1 k1 t1 => ⟨fun c => absurd c (by rw [t1]; decide), fun _ => by rw [if_pos c] at h; exact m_thw h f1 k1 t1⟩) (fun i hi ei ez μ1 f1 k1 t1 => ⟨fun _ => ?_, fun c => absurd (by rw [t1]; decide) c⟩)
  rw [if_neg (by omega), ei, Int.toNat_natCast] at h
  refine knows_spec2 k1 g (fun μ2 f2 t2 k2 => ?_)
  exact m_critical_spec k2 g hi rfl (fun μ3 b3 => m_ok h ((f1.tr f2).tr (b3.frM (by decide))) (k2.bt b3 (by decide)).1 (by rw [b3 3201 (by decide)]; exact t2.trans t1) rfl)
theorem m_criticalAt {S : GS} {μ : Mem} (hm : MI S μ) (g : GOK S) {t q m : Int} (ht : (-2147483648 ≤ t ∧ t ≤ 2147483647)) (hq : (-2147483648 ≤ q ∧ q ≤ 2147483647)) (hmm : (-2147483648 ≤ m ∧ m ≤ 2147483647)) {P : Int32 → Mem → Prop} (h : MRes J (op_criticalAt S t q m) μ P) : w9_criticalAt_wp μ (J t) (J q) (J m) P := by
  unfold op_criticalAt at h
  unfold w9_criticalAt_wp
  refine m_nodeOr_spec hm g ht hq (fun c μ' f k t1 => ⟨fun c => absurd c (by rw [t1]; decide), fun _ => by rw [if_neg c] at h; exact m_thw h f k t1⟩) (fun c c2 μ' f k t1 => ⟨fun c => absurd c (by rw [t1]; decide), fun _ => by rw [if_pos c, if_pos c2] at h; exact m_thw h f k t1⟩) (fun c c2 μ' f k t1 => ⟨fun _ => ?_, fun c => absurd (by rw [t1]; decide) c⟩)
  rw [if_pos c, if_neg c2] at h
  have nx := nd_Nx g c2
  have kid := nd_kid g c2
  have pm := fun k hk => pa_mem g nx kid (k := k) hk
  have nx' := nx
  unfold Nx at nx'
  have pl := pa_len g (x := nd (S.1.1) (S.1.2.1) t q) (by clear kid; omega)
  refine m_path_spec k g nx kid (fun μ2 b2 s2 => ?_)
  have f2 := f.tr (b2.frM (by decide))
  have k2 := k.bt b2 (by decide)
  have t2 : μ2 3201 0 0 = J 0 := by rw [b2 3201 (by decide)]; exact t1
  have e0 : μ2 3226 0 0 = J ((pa S.1.1 S.1.2.1 (nd S.1.1 S.1.2.1 t q))).length := s2.1
  have pr : ∀ k, k < ((pa S.1.1 S.1.2.1 (nd S.1.1 S.1.2.1 t q))).length → μ2 4224 0 k = J (sg ((pa S.1.1 S.1.2.1 (nd S.1.1 S.1.2.1 t q))) k).1 ∧ μ2 4288 0 k = J (sg ((pa S.1.1 S.1.2.1 (nd S.1.1 S.1.2.1 t q))) k).2.1 ∧ μ2 4352 0 k = J (sg ((pa S.1.1 S.1.2.1 (nd S.1.1 S.1.2.1 t q))) k).2.2 := s2.2
  have pm : ∀ k, k < ((pa S.1.1 S.1.2.1 (nd S.1.1 S.1.2.1 t q))).length → Nx S (sg ((pa S.1.1 S.1.2.1 (nd S.1.1 S.1.2.1 t q))) k).1 ∧ Rn (sg ((pa S.1.1 S.1.2.1 (nd S.1.1 S.1.2.1 t q))) k).2.1 ∧ Rn (sg ((pa S.1.1 S.1.2.1 (nd S.1.1 S.1.2.1 t q))) k).2.2 ∧ _ := pm
  have fin : (fat ((pa S.1.1 S.1.2.1 (nd S.1.1 S.1.2.1 t q))) m ((pa S.1.1 S.1.2.1 (nd S.1.1 S.1.2.1 t q))).length 0 = -1 → w9_fails_wp μ2 2 P) ∧ (fat ((pa S.1.1 S.1.2.1 (nd S.1.1 S.1.2.1 t q))) m ((pa S.1.1 S.1.2.1 (nd S.1.1 S.1.2.1 t q))).length 0 ≠ -1 → P (J (num (S.1.1) (S.1.2.1) (sg ((pa S.1.1 S.1.2.1 (nd S.1.1 S.1.2.1 t q))) (fat ((pa S.1.1 S.1.2.1 (nd S.1.1 S.1.2.1 t q))) m ((pa S.1.1 S.1.2.1 (nd S.1.1 S.1.2.1 t q))).length 0).toNat).1)) μ2) := ⟨fun z => by rw [if_pos z] at h; exact m_fails rfl h f2 k2.1, fun z => by rw [if_neg z] at h; exact m_ok h f2 k2.1 t2 rfl⟩
  clear h s2 kid
  generalize (pa S.1.1 S.1.2.1 (nd S.1.1 S.1.2.1 t q)) = L at *
  generalize hE : fat L m L.length 0 = E at fin
  intro R hR
  suffices H : ∀ d k : Nat, k + d = L.length → fat L m d k = E → R μ2 (J m) (J k) from H L.length 0 (by omega) hE
  intro d
  induction d with
  | zero =>
    intro k hk e
    apply hR
    unfold w9_criticalAt_b26_body
    have e : (-1 : Int) = E := e
    simp (disch := omega) only [lJ0, lJ1, lJ2, lJ3, lJ4, lJ5, lJ6, lJ7, lJ8, lJ9, lJ10, lJ30, lJ32, lJ33, lJ39, lJ40, lJ41, lJ45, lJ47, lJ48, lJ51, lJ55, lJ57, lJ58, lJ59, lJ60, lJ64, lJ80, lJ82, lJ99, lJ100, lJ101, lJ123, lJ126, lJ282, lJ342, lJ1000, lJ1100, lJ2394, lJ2736, lJ9999, lJ10000, lJ1000000, lJ100000000, J_add, J_sub, J_mul, J_neg, J_le, J_lt, J_eq, J_in, J_clamp, Int.toNat_natCast, e0]
    exact ⟨fun _ => fin.1 e.symm, fun z => absurd (by omega) z⟩
  | succ d ih =>
    intro k hk e
    apply hR
    unfold w9_criticalAt_b26_body
    obtain ⟨p1, p2, p3⟩ := pr k (by omega)
    obtain ⟨q1, q2, q3, -⟩ := pm k (by omega)
    unfold Rn at q2 q3
    rw [fat_step] at e
    simp (disch := omega) only [lJ0, lJ1, lJ2, lJ3, lJ4, lJ5, lJ6, lJ7, lJ8, lJ9, lJ10, lJ30, lJ32, lJ33, lJ39, lJ40, lJ41, lJ45, lJ47, lJ48, lJ51, lJ55, lJ57, lJ58, lJ59, lJ60, lJ64, lJ80, lJ82, lJ99, lJ100, lJ101, lJ123, lJ126, lJ282, lJ342, lJ1000, lJ1100, lJ2394, lJ2736, lJ9999, lJ10000, lJ1000000, lJ100000000, J_add, J_sub, J_mul, J_neg, J_le, J_lt, J_eq, J_in, J_clamp, Int.toNat_natCast, e0, p1, p2, p3]
    refine ⟨fun z => absurd z (by omega), fun _ => ⟨by omega, fun c3 => ?_, fun c3 => ⟨by omega, fun c4 => ?_, fun c4 => ⟨by omega, ?_⟩⟩⟩⟩
    · rw [if_neg (fun z => by omega)] at e; exact ih (k + 1) (by omega) e
    · rw [if_neg (fun z => by omega)] at e; exact ih (k + 1) (by omega) e
    · rw [if_pos ⟨by omega, by omega⟩] at e
      have := fin.2 (by omega)
      rw [← e, Int.toNat_natCast] at this
      exact m_number_spec k2 g q1 this
