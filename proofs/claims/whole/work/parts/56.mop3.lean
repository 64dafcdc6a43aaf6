theorem takedrop_erase {l : Lk} {m : Nat} (h : m < l.length) (r : Lk) : (l.take (m + 1) ++ r).eraseIdx m = l.take m ++ r := by
  rw [take_succ_lf h, List.append_assoc, List.eraseIdx_append_of_length_le (by rw [List.length_take]; omega)]
  rw [List.length_take, show m - min m l.length = 0 by omega]
  rfl
theorem lf_take {l r : Lk} {m : Nat} (h : m < l.length) : lf (l.take (m + 1) ++ r) m = lf l m ∧ lt (l.take (m + 1) ++ r) m = lt l m := by
  have e : (l.take (m + 1) ++ r)[m]? = l[m]? := by
    rw [List.getElem?_append_left (by rw [List.length_take]; omega), List.getElem?_take_of_lt (by omega)]
  unfold lf lt
  simp only [List.getD, e]
  exact ⟨trivial, trivial⟩
theorem drop_lf {l : Lk} {m : Nat} (h : m < l.length) : l.drop m = (lf l m, lt l m) :: l.drop (m + 1) := by
  rw [List.drop_eq_getElem_cons h]
  have e : l[m] = (lf l m, lt l m) := by simp [lf, lt, List.getD, h]
  rw [e]
theorem m_remove {S : GS} {μ : Mem} (hm : MI S μ) (g : GOK S) {z : Int} (hz : (-2147483648 ≤ z ∧ z ≤ 2147483647)) {P : Int32 → Mem → Prop} (h : MRes J (op_remove S z) μ P) : w9_remove_wp μ (J z) P := by
  have rn := g.1.n
  have rl := g.1.l
  unfold op_remove at h
  unfold w9_remove_wp
  refine m_on hm g hz (Q := fun r2 μ1 => (w9_frames_wp μ1 (fun (μ3 : Mem) => ((vp_in (0 : Int32) 342) ∧ ((vp_in (0 : Int32) 342) ∧ (∀ μ6 : Mem, μ6 = up μ3 3264 0 ((0 : Int32)).toNatClampNeg ((μ3 3264 0 ((0 : Int32)).toNatClampNeg) - (1 : Int32)) → (w9_remove_b34 P μ6 (J z) ((7 : Int32) * r2)))))))) (fun c μ1 f1 k1 t1 => ?_) (fun i hi ei ez μ1 f1 k1 t1 => ?_)
  · rw [if_pos c] at h; exact m_thw h f1 k1 t1
  rw [if_neg (by omega), ei, Int.toNat_natCast] at h
  refine frames_spec' k1.1 g (fun μ2 b2 k2 mf => ?_)
  have e2 : μ2 3264 0 0 = J (S.1.1) := k2.1.1
  simp (disch := omega) only [lJ0, lJ1, lJ2, lJ3, lJ4, lJ5, lJ6, lJ7, lJ8, lJ9, lJ10, lJ30, lJ32, lJ33, lJ39, lJ40, lJ41, lJ45, lJ47, lJ48, lJ51, lJ55, lJ57, lJ58, lJ59, lJ60, lJ64, lJ80, lJ82, lJ99, lJ100, lJ101, lJ123, lJ126, lJ282, lJ342, lJ1000, lJ1100, lJ2394, lJ2736, lJ9999, lJ10000, lJ1000000, lJ100000000, J_add, J_sub, J_mul, J_neg, J_le, J_lt, J_eq, J_in, J_clamp, Int.toNat_natCast, Int.toNat_zero, e2]
  refine ⟨by omega, by omega, ?_⟩
  rintro μ3 rfl
  -- the links
  have p2 : ∀ μ4, Bt [3264] μ2 μ4 → MW (μ4 3264 0) (S.1.1 - 1, wdel (S.1.2.1) i, S.1.2.2) → w9_remove_b81 P μ4 (J z) (J (((S.1.2.2).length : Int) - 1)) := by
    intro μ4 b4 w4 R hR
    suffices H : ∀ m : Nat, m ≤ (S.1.2.2).length → ∀ μ', Bt [3264] μ2 μ' → MW (μ' 3264 0) (S.1.1 - 1, wdel (S.1.2.1) i, (S.1.2.2).take m ++ ((S.1.2.2).drop m).filter (fun p => decide (p.1 ≠ z ∧ p.2 ≠ z))) → R μ' (J z) (J ((m : Int) - 1)) from H (S.1.2.2).length (Nat.le_refl _) μ4 b4 (by rw [List.take_length, List.drop_length]; simpa using w4)
    intro m
    induction m with
    | zero =>
      intro _ μ' b w
      apply hR
      unfold w9_remove_b81_body
      simp (disch := omega) only [lJ0, lJ1, lJ2, lJ3, lJ4, lJ5, lJ6, lJ7, lJ8, lJ9, lJ10, lJ30, lJ32, lJ33, lJ39, lJ40, lJ41, lJ45, lJ47, lJ48, lJ51, lJ55, lJ57, lJ58, lJ59, lJ60, lJ64, lJ80, lJ82, lJ99, lJ100, lJ101, lJ123, lJ126, lJ282, lJ342, lJ1000, lJ1100, lJ2394, lJ2736, lJ9999, lJ10000, lJ1000000, lJ100000000, J_add, J_sub, J_mul, J_neg, J_le, J_lt, J_eq, J_in, J_clamp, Int.toNat_natCast]
      refine ⟨fun _ => ?_, fun c => absurd (by omega) c⟩
      simp only [List.take_zero, List.drop_zero, List.nil_append] at w
      refine remembers_spec' (k2.st b w) (by rw [b 3392 (by decide)]; exact mf) g (fun μ5 b5 k5 => ?_)
      have m5 : μ5 3264 0 0 = J ((S.1.1 : Int) - 1) := by
        rw [k5.1.1.1]
        show J ((S.1.1 - 1 : Nat) : Int) = _
        congr 1
        omega
      simp only [Int.toNat_zero, m5]
      refine ⟨by omega, m_ok h (((f1.tr (b2.frM (by decide))).tr (b.frM (by decide))).tr (b5.frM (by decide))) k5 ?_ rfl⟩
      rw [b5 3201 (by decide), b 3201 (by decide), b2 3201 (by decide)]
      exact t1
    | succ m ih =>
      intro hm2 μ' b w
      apply hR
      unfold w9_remove_b81_body
      have hml : m < (S.1.2.2).length := by omega
      have len : ((S.1.2.2).take (m + 1) ++ ((S.1.2.2).drop (m + 1)).filter (fun p => decide (p.1 ≠ z ∧ p.2 ≠ z))).length ≤ (S.1.2.2).length := by
        rw [List.length_append, List.length_take]
        have := List.length_filter_le (fun p : Int × Int => decide (p.1 ≠ z ∧ p.2 ≠ z)) ((S.1.2.2).drop (m + 1))
        rw [List.length_drop] at this
        omega
      have len2 : m < ((S.1.2.2).take (m + 1) ++ ((S.1.2.2).drop (m + 1)).filter (fun p => decide (p.1 ≠ z ∧ p.2 ≠ z))).length := by
        rw [List.length_append, List.length_take]
        omega
      have lk := w.2.2.2 m len2
      dsimp only at lk
      rw [(lf_take hml).1, (lf_take hml).2] at lk
      have rq := g.1.2.1.2 m hml
      have er : ∀ b' : Mem, MW (m_s b' 0) (S.1.1 - 1, wdel (S.1.2.1) i, ((S.1.2.2).take (m + 1) ++ ((S.1.2.2).drop (m + 1)).filter (fun p => decide (p.1 ≠ z ∧ p.2 ≠ z))).eraseIdx m) → Bt [3264] μ' b' → (lf (S.1.2.2) m = z ∨ lt (S.1.2.2) m = z) → R b' (J z) (J ((m : Int) - 1)) := fun b' w' bb c => by
        rw [takedrop_erase hml] at w'
        refine ih (by omega) b' (b.tr bb) ?_
        rw [drop_lf hml, List.filter_cons, if_neg (by simp; omega)]
        exact w'
      have e3 : ((m + 1 : Nat) : Int) - 1 = (m : Int) := by omega
      rw [e3]
      have i1 : ((282 : Int) + 2 * (m : Int)).toNat = 282 + 2 * m := by omega
      have i2 : ((282 : Int) + 2 * (m : Int) + 1).toNat = 283 + 2 * m := by omega
      simp (disch := omega) only [lJ0, lJ1, lJ2, lJ3, lJ4, lJ5, lJ6, lJ7, lJ8, lJ9, lJ10, lJ30, lJ32, lJ33, lJ39, lJ40, lJ41, lJ45, lJ47, lJ48, lJ51, lJ55, lJ57, lJ58, lJ59, lJ60, lJ64, lJ80, lJ82, lJ99, lJ100, lJ101, lJ123, lJ126, lJ282, lJ342, lJ1000, lJ1100, lJ2394, lJ2736, lJ9999, lJ10000, lJ1000000, lJ100000000, J_add, J_sub, J_mul, J_neg, J_le, J_lt, J_eq, J_in, J_clamp, Int.toNat_natCast, i1, i2, lk.1, lk.2]
      refine ⟨fun c => by omega, fun _ => ⟨by omega, fun c => ?_, fun c => ⟨by omega, fun c2 => ?_, fun c2 => ?_⟩⟩⟩
      · refine unlinks_spec w (by show S.1.1 - 1 ≤ 40; omega) (Nat.le_trans len rl) m len2 rfl (fun μ5 b5 w5 => ?_)
        exact er μ5 w5 b5 (Or.inl c)
      · refine ih (by omega) μ' b ?_
        rw [drop_lf hml, List.filter_cons, if_pos (by simp; omega)]
        rw [take_succ_lf hml, List.append_assoc] at w
        exact w
      · refine unlinks_spec w (by show S.1.1 - 1 ≤ 40; omega) (Nat.le_trans len rl) m len2 rfl (fun μ5 b5 w5 => ?_)
        exact er μ5 w5 b5 (Or.inr c2)
  -- the rows
  intro R hR
  have b3 : Bt [3264] μ2 (up μ2 3264 0 0 (J ((S.1.1 : Int) - 1))) := Bt.up (by decide)
  have u3 : ∀ k, (up μ2 3264 0 0 (J ((S.1.1 : Int) - 1))) 3264 0 k = if k = 0 then J ((S.1.1 : Int) - 1) else μ2 3264 0 k := fun k => by rw [up_row]; rfl
  generalize up μ2 3264 0 0 (J ((S.1.1 : Int) - 1)) = μ3 at b3 u3 ⊢
  suffices H : ∀ d k : Nat, k + d = 7 * (S.1.1 - 1) → 7 * i ≤ k → ∀ μ', Bt [3264] μ2 μ' → μ' 3264 0 0 = J ((S.1.1 : Int) - 1) → μ' 3264 0 1 = μ2 3264 0 1 → (∀ q, q < 280 → μ' 3264 0 (2 + q) = if 7 * i ≤ q ∧ q < k then μ2 3264 0 (2 + q + 7) else μ2 3264 0 (2 + q)) → (∀ q, 282 ≤ q → μ' 3264 0 q = μ2 3264 0 q) → R μ' (J z) (J k) from by
    have := H (7 * (S.1.1 - 1) - 7 * i) (7 * i) (by omega) (Nat.le_refl _) μ3 b3 (u3 0) (u3 1) (fun q hq => by rw [u3, if_neg (by omega), if_neg (by omega)]) (fun q hq => by rw [u3, if_neg (by omega)])
    rw [show ((7 * i : Nat) : Int) = 7 * (i : Int) by omega] at this
    exact this
  intro d
  induction d with
  | zero =>
    intro k hk hik μ' b n0 n1 r1 r2
    apply hR
    unfold w9_remove_b34_body
    have e1 : μ' 3264 0 1 = J (S.1.2.2).length := by rw [n1]; exact k2.1.lk
    simp (disch := omega) only [lJ0, lJ1, lJ2, lJ3, lJ4, lJ5, lJ6, lJ7, lJ8, lJ9, lJ10, lJ30, lJ32, lJ33, lJ39, lJ40, lJ41, lJ45, lJ47, lJ48, lJ51, lJ55, lJ57, lJ58, lJ59, lJ60, lJ64, lJ80, lJ82, lJ99, lJ100, lJ101, lJ123, lJ126, lJ282, lJ342, lJ1000, lJ1100, lJ2394, lJ2736, lJ9999, lJ10000, lJ1000000, lJ100000000, J_add, J_sub, J_mul, J_neg, J_le, J_lt, J_eq, J_in, J_clamp, Int.toNat_natCast, Int.toNat_zero, show (1 : Int).toNat = 1 from rfl, n0, e1]
    refine ⟨by omega, fun _ => ⟨by omega, ?_⟩, fun c => absurd (by omega) c⟩
    refine p2 μ' b ⟨?_, e1, fun j hj c hc => ?_, fun q hq => ?_⟩
    · rw [n0]; show J _ = J ((S.1.1 - 1 : Nat) : Int); congr 1; omega
    · dsimp only at hj ⊢
      have := r1 (7 * j + c) (by omega)
      rw [show 2 + (7 * j + c) = 2 + 7 * j + c by omega] at this
      rw [this]
      unfold wdel
      by_cases y : j < i
      · rw [if_neg (by omega), if_pos y]
        exact k2.1.2.2.1 j (by omega) c hc
      · rw [if_pos (by omega), if_neg y, show 2 + 7 * j + c + 7 = 2 + 7 * (j + 1) + c by omega]
        exact k2.1.2.2.1 (j + 1) (by omega) c hc
    · dsimp only at hq ⊢
      rw [r2 _ (by omega), r2 _ (by omega)]
      exact k2.1.2.2.2 q hq
  | succ d ih =>
    intro k hk hik μ' b n0 n1 r1 r2
    apply hR
    unfold w9_remove_b34_body
    have i1 : ((2 : Int) + (k : Int) + 7).toNat = 2 + k + 7 := by omega
    have i2 : ((2 : Int) + (k : Int)).toNat = 2 + k := by omega
    simp (disch := omega) only [lJ0, lJ1, lJ2, lJ3, lJ4, lJ5, lJ6, lJ7, lJ8, lJ9, lJ10, lJ30, lJ32, lJ33, lJ39, lJ40, lJ41, lJ45, lJ47, lJ48, lJ51, lJ55, lJ57, lJ58, lJ59, lJ60, lJ64, lJ80, lJ82, lJ99, lJ100, lJ101, lJ123, lJ126, lJ282, lJ342, lJ1000, lJ1100, lJ2394, lJ2736, lJ9999, lJ10000, lJ1000000, lJ100000000, J_add, J_sub, J_mul, J_neg, J_le, J_lt, J_eq, J_in, J_clamp, Int.toNat_natCast, Int.toNat_zero, n0, i1, i2]
    refine ⟨by omega, fun c => by omega, fun _ => ⟨by omega, by omega, ?_⟩⟩
    rintro μ4 rfl
    have q7 : μ' 3264 0 (2 + k + 7) = μ2 3264 0 (2 + k + 7) := by
      have := r1 (k + 7) (by omega)
      rw [if_neg (by omega), show 2 + (k + 7) = 2 + k + 7 by omega] at this
      exact this
    refine ih (k + 1) (by omega) (by omega) _ (b.tr (Bt.up (by decide))) ?_ ?_ (fun q hq => ?_) (fun q hq => ?_)
    · rw [up_at, if_neg (by omega)]; exact n0
    · rw [up_at, if_neg (by omega)]; exact n1
    · rw [up_at]
      by_cases y : q = k
      · rw [if_pos (by omega), if_pos (by omega), q7, y]
      · rw [if_neg (by omega), r1 q hq]
        by_cases y2 : 7 * i ≤ q ∧ q < k
        · rw [if_pos y2, if_pos (by omega)]
        · rw [if_neg y2, if_neg (by omega)]
    · rw [up_at, if_neg (by omega)]; exact r2 q hq
theorem m_undo {S : GS} {μ : Mem} (hm : MI S μ) (g : GOK S) {P : Int32 → Mem → Prop} (h : MRes J (op_undo S) μ P) : w9_undo_wp μ P := by
  obtain ⟨t, Hs, v, m, i, e⟩ := S
  unfold w9_undo_wp
  rintro μ1 rfl
  have k1 := hm.thr (v := 0)
  have f1 : FrM μ (thr μ 0) := thr_fr
  have t1 : thr μ 0 3201 0 0 = J 0 := thr_w
  show (¬ (thr μ 0 3207 0 0) = 0 → ∀ μ2 : Mem, μ2 = up (thr μ 0) 3207 0 0 (thr μ 0 3207 0 0 - 1) → _) ∧ ((thr μ 0 3207 0 0) = 0 → w9_fails_wp (thr μ 0) 1 P)
  generalize thr μ 0 = μ1 at k1 f1 t1 ⊢
  have r8 : Hs.length ≤ 8 := g.2.1
  have e1 : μ1 3207 0 0 = J Hs.length := k1.1.2.1.2.1
  simp (disch := omega) only [lJ0, lJ1, lJ2, lJ3, lJ4, lJ5, lJ6, lJ7, lJ8, lJ9, lJ10, lJ30, lJ32, lJ33, lJ39, lJ40, lJ41, lJ45, lJ47, lJ48, lJ51, lJ55, lJ57, lJ58, lJ59, lJ60, lJ64, lJ80, lJ82, lJ99, lJ100, lJ101, lJ123, lJ126, lJ282, lJ342, lJ1000, lJ1100, lJ2394, lJ2736, lJ9999, lJ10000, lJ1000000, lJ100000000, J_add, J_sub, J_mul, J_neg, J_le, J_lt, J_eq, J_in, J_clamp, Int.toNat_natCast, e1]
  cases Hs with
  | nil => exact ⟨fun c => absurd rfl c, fun _ => m_fails rfl h f1 k1⟩
  | cons s Hs =>
    refine ⟨fun _ => ?_, fun c => absurd c (by rw [List.length_cons]; omega)⟩
    rw [List.length_cons] at r8 ⊢
    have oks : SOK s := g.2.2.1 0 (Nat.zero_lt_succ _)
    have er : ((Hs.length + 1 : Nat) : Int) - 1 = (Hs.length : Int) := by omega
    rw [er]
    rintro μ2 rfl R hR
    have b2 : Bt [3207] μ1 (up μ1 3207 0 0 (J Hs.length)) := Bt.up (by decide)
    have u2 : (up μ1 3207 0 0 (J Hs.length)) 3207 0 0 = J Hs.length := up_self
    generalize up μ1 3207 0 0 (J Hs.length) = μ2 at b2 u2 ⊢
    suffices H : ∀ μ', Bt [3207, 3264] μ1 μ' → μ' 3207 0 0 = J Hs.length → (∀ k, k < 0 → μ' 3264 0 k = μ1 3456 0 (342 * Hs.length + k)) → R μ' (J (0 : Nat)) from H μ2 (b2.mo (by decide)) u2 (fun k hk => absurd hk (Nat.not_lt_zero _))
    refine down (Q := fun q => ∀ μ', Bt [3207, 3264] μ1 μ' → μ' 3207 0 0 = J Hs.length → (∀ k, k < q → μ' 3264 0 k = μ1 3456 0 (342 * Hs.length + k)) → R μ' (J q)) 342 (fun q hq ih μ' b e2 cp => ?_)
    apply hR
    unfold w9_undo_b30_body
    rcases Nat.lt_or_ge q 342 with c | c
    · have ih := ih c
      have i1 : ((342 : Int) * (Hs.length : Int) + (q : Int)).toNat = 342 * Hs.length + q := by omega
      simp (disch := omega) only [lJ0, lJ1, lJ2, lJ3, lJ4, lJ5, lJ6, lJ7, lJ8, lJ9, lJ10, lJ30, lJ32, lJ33, lJ39, lJ40, lJ41, lJ45, lJ47, lJ48, lJ51, lJ55, lJ57, lJ58, lJ59, lJ60, lJ64, lJ80, lJ82, lJ99, lJ100, lJ101, lJ123, lJ126, lJ282, lJ342, lJ1000, lJ1100, lJ2394, lJ2736, lJ9999, lJ10000, lJ1000000, lJ100000000, J_add, J_sub, J_mul, J_neg, J_le, J_lt, J_eq, J_in, J_clamp, Int.toNat_natCast, e2, i1]
      refine ⟨fun _ => by omega, fun _ => ⟨by omega, by omega, ?_⟩⟩
      rintro μ3 rfl
      refine ih _ (b.tr (Bt.up (by decide))) (by rw [up_nq (by decide)]; exact e2) (fun k hk => ?_)
      rw [up_at]
      split
      · rename_i y; rw [b 3456 (by decide), y.2.2]
      · exact cp k (by omega)
    · obtain rfl : q = 342 := by omega
      simp (disch := omega) only [lJ0, lJ1, lJ2, lJ3, lJ4, lJ5, lJ6, lJ7, lJ8, lJ9, lJ10, lJ30, lJ32, lJ33, lJ39, lJ40, lJ41, lJ45, lJ47, lJ48, lJ51, lJ55, lJ57, lJ58, lJ59, lJ60, lJ64, lJ80, lJ82, lJ99, lJ100, lJ101, lJ123, lJ126, lJ282, lJ342, lJ1000, lJ1100, lJ2394, lJ2736, lJ9999, lJ10000, lJ1000000, lJ100000000, J_add, J_sub, J_mul, J_neg, J_le, J_lt, J_eq, J_in, J_clamp, Int.toNat_natCast]
      refine ⟨fun _ => ?_, fun c => absurd (by omega) c⟩
      rintro μ3 rfl
      have b3 : Bt [3207, 3264, 3212] μ1 (up μ' 3212 0 0 (J 0)) := (b.mo (by decide)).tr (Bt.up (by decide))
      have v1 : (up μ' 3212 0 0 (J 0)) 3207 0 0 = J Hs.length := by rw [up_nq (by decide)]; exact e2
      rw [v1]
      have q3 : ∀ j, j ∉ [3207, 3264, 3212] → (up μ' 3212 0 0 (J 0)) j = μ1 j := fun j hj => b3 j hj
      obtain ⟨⟨h1, h2, h3, h4, h5, h6⟩, -⟩ := k1
      refine m_ok h (f1.tr (b3.frM (by decide))) ⟨⟨?_, ⟨by show Hs.length ≤ 8; omega, v1, fun j hj => ?_⟩, ?_, fun k p hk hp => by rw [q3 _ (by decide)]; exact h4 k p hk hp, ⟨by rw [q3 _ (by decide)]; exact h5.1, fun q' hq => by rw [q3 _ (by decide)]; exact h5.2 q' hq⟩, by rw [q3 _ (by decide)]; exact h6⟩, Or.inl up_self⟩ ?_ rfl
      · have := h2.2.2 0 (Nat.zero_lt_succ _)
        refine MW.cp (f := fun k => μ1 3456 0 (342 * Hs.length + k)) this oks.n oks.l (fun k hk => ?_)
        rw [up_nq (by decide)]
        exact cp k hk
      · have := h2.2.2 (j + 1) (Nat.succ_lt_succ hj)
        have e9 : (s :: Hs).length - 1 - (j + 1) = Hs.length - 1 - j := by rw [List.length_cons]; omega
        rw [q3 3456 (by decide)]
        dsimp only at this ⊢
        rw [e9] at this
        exact this
      · cases v with
        | none => show (up μ' 3212 0 0 (J 0)) 3206 0 0 = _; rw [q3 _ (by decide)]; exact h3
        | some s => exact ⟨by rw [q3 _ (by decide)]; exact h3.1, h3.2.ev (q3 _ (by decide))⟩
      · rw [q3 3201 (by decide)]; exact t1
theorem m_save {S : GS} {μ : Mem} (hm : MI S μ) (g : GOK S) {P : Int32 → Mem → Prop} (h : MRes J (op_save S) μ P) : w9_save_wp μ P := by
  unfold w9_save_wp
  rintro μ1 rfl
  have k1 := hm.thr (v := 0)
  have f1 : FrM μ (thr μ 0) := thr_fr
  have t1 : thr μ 0 3201 0 0 = J 0 := thr_w
  show w9_save_b7 P (thr μ 0) 0
  generalize thr μ 0 = μ1 at k1 f1 t1 ⊢
  intro R hR
  suffices H : ∀ μ', Bt [3328] μ1 μ' → (∀ k, k < 0 → μ' 3328 0 k = μ1 3264 0 k) → R μ' (J (0 : Nat)) from H μ1 Bt.rf (fun k hk => absurd hk (Nat.not_lt_zero _))
  refine down (Q := fun q => ∀ μ', Bt [3328] μ1 μ' → (∀ k, k < q → μ' 3328 0 k = μ1 3264 0 k) → R μ' (J q)) 342 (fun q hq ih μ' b cp => ?_)
  apply hR
  unfold w9_save_b7_body
  rcases Nat.lt_or_ge q 342 with c | c
  · have ih := ih c
    simp (disch := omega) only [lJ0, lJ1, lJ2, lJ3, lJ4, lJ5, lJ6, lJ7, lJ8, lJ9, lJ10, lJ30, lJ32, lJ33, lJ39, lJ40, lJ41, lJ45, lJ47, lJ48, lJ51, lJ55, lJ57, lJ58, lJ59, lJ60, lJ64, lJ80, lJ82, lJ99, lJ100, lJ101, lJ123, lJ126, lJ282, lJ342, lJ1000, lJ1100, lJ2394, lJ2736, lJ9999, lJ10000, lJ1000000, lJ100000000, J_add, J_sub, J_mul, J_neg, J_le, J_lt, J_eq, J_in, J_clamp, Int.toNat_natCast]
    refine ⟨fun _ => by omega, fun _ => ⟨by omega, by omega, ?_⟩⟩
    rintro μ3 rfl
    refine ih _ (b.tr (Bt.up (by decide))) (fun k hk => ?_)
    rw [up_at]
    split
    · rename_i y; rw [b 3264 (by decide), y.2.2]
    · exact cp k (by omega)
  · obtain rfl : q = 342 := by omega
    simp (disch := omega) only [lJ0, lJ1, lJ2, lJ3, lJ4, lJ5, lJ6, lJ7, lJ8, lJ9, lJ10, lJ30, lJ32, lJ33, lJ39, lJ40, lJ41, lJ45, lJ47, lJ48, lJ51, lJ55, lJ57, lJ58, lJ59, lJ60, lJ64, lJ80, lJ82, lJ99, lJ100, lJ101, lJ123, lJ126, lJ282, lJ342, lJ1000, lJ1100, lJ2394, lJ2736, lJ9999, lJ10000, lJ1000000, lJ100000000, J_add, J_sub, J_mul, J_neg, J_le, J_lt, J_eq, J_in, J_clamp, Int.toNat_natCast]
    refine ⟨fun _ => ?_, fun c => absurd (by omega) c⟩
    rintro μ3 rfl
    have b3 : Bt [3328, 3206] μ1 (up μ' 3206 0 0 (J 1)) := (b.mo (by decide)).tr (Bt.up (by decide))
    have q3 : ∀ j, j ∉ [3328, 3206] → (up μ' 3206 0 0 (J 1)) j = μ1 j := fun j hj => b3 j hj
    obtain ⟨⟨h1, h2, h3, h4, h5, h6⟩, hk⟩ := k1
    refine ⟨by omega, m_ok h (f1.tr (b3.frM (by decide))) ⟨⟨h1.ev (q3 _ (by decide)), ⟨h2.1, by rw [q3 _ (by decide)]; exact h2.2.1, fun j hj => by have := h2.2.2 j hj; rw [← q3 3456 (by decide)] at this; exact this⟩, ⟨up_self, ?_⟩, fun k p hk hp => by rw [q3 _ (by decide)]; exact h4 k p hk hp, ⟨by rw [q3 _ (by decide)]; exact h5.1, fun q' hq => by rw [q3 _ (by decide)]; exact h5.2 q' hq⟩, by rw [q3 _ (by decide)]; exact h6⟩, ?_⟩ ?_ ?_⟩
    · refine h1.cp g.1.n g.1.l (fun k hk => ?_)
      rw [up_nq (by decide)]
      exact cp k hk
    · rcases hk with hk | ⟨w1, w2, w3⟩
      · exact Or.inl (by rw [q3 _ (by decide)]; exact hk)
      · exact Or.inr ⟨by rw [q3 _ (by decide)]; exact w1, w2.ev (q3 _ (by decide)) (q3 _ (by decide)) (q3 _ (by decide)), w3.ev (q3 _ (by decide)) (q3 _ (by decide)) (q3 _ (by decide)) (q3 _ (by decide)) (q3 _ (by decide))⟩
    · rw [q3 3201 (by decide)]; exact t1
    · rw [q3 3264 (by decide)]; exact h1.1
theorem m_restore {S : GS} {μ : Mem} (hm : MI S μ) (g : GOK S) {P : Int32 → Mem → Prop} (h : MRes J (op_restore S) μ P) : w9_restore_wp μ P := by
  obtain ⟨t, Hs, v, m, i, e⟩ := S
  unfold w9_restore_wp
  rintro μ1 rfl
  have k1 := hm.thr (v := 0)
  have f1 : FrM μ (thr μ 0) := thr_fr
  have t1 : thr μ 0 3201 0 0 = J 0 := thr_w
  show (¬ (thr μ 0 3206 0 0) = 0 → w9_restore_b20 P (thr μ 0) 0) ∧ ((thr μ 0 3206 0 0) = 0 → w9_fails_wp (thr μ 0) 1 P)
  generalize thr μ 0 = μ1 at k1 f1 t1 ⊢
  cases v with
  | none =>
    have e1 : μ1 3206 0 0 = J 0 := k1.1.2.2.1
    rw [e1]
    exact ⟨fun c => absurd rfl c, fun _ => m_fails rfl h f1 k1⟩
  | some s =>
    have oks : SOK s := g.2.2.2.1 s rfl
    have e1 : μ1 3206 0 0 = J 1 := k1.1.2.2.1.1
    rw [e1]
    refine ⟨fun _ => ?_, fun c => absurd c (by decide)⟩
    intro R hR
    suffices H : ∀ μ', Bt [3264] μ1 μ' → (∀ k, k < 0 → μ' 3264 0 k = μ1 3328 0 k) → R μ' (J (0 : Nat)) from H μ1 Bt.rf (fun k hk => absurd hk (Nat.not_lt_zero _))
    refine down (Q := fun q => ∀ μ', Bt [3264] μ1 μ' → (∀ k, k < q → μ' 3264 0 k = μ1 3328 0 k) → R μ' (J q)) 342 (fun q hq ih μ' b cp => ?_)
    apply hR
    unfold w9_restore_b20_body
    rcases Nat.lt_or_ge q 342 with c | c
    · have ih := ih c
      simp (disch := omega) only [lJ0, lJ1, lJ2, lJ3, lJ4, lJ5, lJ6, lJ7, lJ8, lJ9, lJ10, lJ30, lJ32, lJ33, lJ39, lJ40, lJ41, lJ45, lJ47, lJ48, lJ51, lJ55, lJ57, lJ58, lJ59, lJ60, lJ64, lJ80, lJ82, lJ99, lJ100, lJ101, lJ123, lJ126, lJ282, lJ342, lJ1000, lJ1100, lJ2394, lJ2736, lJ9999, lJ10000, lJ1000000, lJ100000000, J_add, J_sub, J_mul, J_neg, J_le, J_lt, J_eq, J_in, J_clamp, Int.toNat_natCast]
      refine ⟨fun _ => by omega, fun _ => ⟨by omega, by omega, ?_⟩⟩
      rintro μ3 rfl
      refine ih _ (b.tr (Bt.up (by decide))) (fun k hk => ?_)
      rw [up_at]
      split
      · rename_i y; rw [b 3328 (by decide), y.2.2]
      · exact cp k (by omega)
    · obtain rfl : q = 342 := by omega
      simp (disch := omega) only [lJ0, lJ1, lJ2, lJ3, lJ4, lJ5, lJ6, lJ7, lJ8, lJ9, lJ10, lJ30, lJ32, lJ33, lJ39, lJ40, lJ41, lJ45, lJ47, lJ48, lJ51, lJ55, lJ57, lJ58, lJ59, lJ60, lJ64, lJ80, lJ82, lJ99, lJ100, lJ101, lJ123, lJ126, lJ282, lJ342, lJ1000, lJ1100, lJ2394, lJ2736, lJ9999, lJ10000, lJ1000000, lJ100000000, J_add, J_sub, J_mul, J_neg, J_le, J_lt, J_eq, J_in, J_clamp, Int.toNat_natCast]
      refine ⟨fun _ => ?_, fun c => absurd (by omega) c⟩
      rintro μ3 rfl μ4 rfl
      have b4 : Bt [3264, 3207, 3212] μ1 (up (up μ' 3207 0 0 (J 0)) 3212 0 0 (J 0)) := ((b.mo (by decide)).tr (Bt.up (by decide))).tr (Bt.up (by decide))
      have v1 : (up (up μ' 3207 0 0 (J 0)) 3212 0 0 (J 0)) 3207 0 0 = J 0 := by rw [up_nq (by decide)]; exact up_self
      have v2 : (up (up μ' 3207 0 0 (J 0)) 3212 0 0 (J 0)) 3212 0 0 = J 0 := up_self
      have v3 : (up (up μ' 3207 0 0 (J 0)) 3212 0 0 (J 0)) 3264 = μ' 3264 := by rw [up_nq (by decide), up_nq (by decide)]
      generalize up (up μ' 3207 0 0 (J 0)) 3212 0 0 (J 0) = μ4 at b4 v1 v2 v3 ⊢
      have q3 : ∀ j, j ∉ [3264, 3207, 3212] → μ4 j = μ1 j := fun j hj => b4 j hj
      obtain ⟨⟨h1, h2, h3, h4, h5, h6⟩, hk⟩ := k1
      have w4 : MW (μ4 3264 0) s := by
        refine MW.cp h3.2 oks.n oks.l (fun k hk => ?_)
        rw [v3]
        exact cp k hk
      refine ⟨by omega, m_ok h (f1.tr (b4.frM (by decide))) ⟨⟨w4, ⟨Nat.zero_le _, v1, fun j hj => absurd hj (Nat.not_lt_zero _)⟩, ⟨by rw [q3 _ (by decide)]; exact h3.1, h3.2.ev (q3 _ (by decide))⟩, fun k p hk hp => by rw [q3 _ (by decide)]; exact h4 k p hk hp, ⟨by rw [q3 _ (by decide)]; exact h5.1, fun q' hq => by rw [q3 _ (by decide)]; exact h5.2 q' hq⟩, by rw [q3 _ (by decide)]; exact h6⟩, Or.inl v2⟩ ?_ w4.1⟩
      rw [q3 3201 (by decide)]; exact t1
