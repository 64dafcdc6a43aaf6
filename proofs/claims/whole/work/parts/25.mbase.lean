-- the reference's rows
abbrev Ar : Type := Nat → Int32
def MW (f : Ar) (s : St) : Prop := f 0 = J s.1 ∧ f 1 = J s.2.2.length ∧ (∀ i, i < s.1 → ∀ c, c < 7 → f (2 + 7 * i + c) = J (s.2.1 i c)) ∧ ∀ q, q < s.2.2.length → f (282 + 2 * q) = J (lf s.2.2 q) ∧ f (283 + 2 * q) = J (lt s.2.2 q)
theorem MW.cp {f f' : Ar} {s : St} (h : MW f s) (hn : s.1 ≤ 40) (hl : s.2.2.length ≤ 30) (hf : ∀ k, k < 342 → f' k = f k) : MW f' s :=
  ⟨by rw [hf _ (by omega)]; exact h.1, by rw [hf _ (by omega)]; exact h.2.1, fun i hi c hc => by rw [hf _ (by omega)]; exact h.2.2.1 i hi c hc, fun q hq => by rw [hf _ (by omega), hf _ (by omega)]; exact h.2.2.2 q hq⟩
theorem MW.of {f : Ar} {s : St} (h : MW f s) {z c : Int} (hz : 0 ≤ z ∧ z < s.1) (hc : 0 ≤ c ∧ c < 7) : f (2 + 7 * z + c).toNat = J (s.2.1 z.toNat c.toNat) := by
  have := h.2.2.1 z.toNat (by omega) c.toNat (by omega)
  rw [← this]
  congr 1
  omega
/-- all but the place j is as before -/
def Bt (js : List Nat) (μ μ' : Mem) : Prop := ∀ j, j ∉ js → μ' j = μ j
theorem Bt.rf {js : List Nat} {μ : Mem} : Bt js μ μ := fun _ _ => rfl
theorem Bt.tr {js : List Nat} {μ μ1 μ2 : Mem} (h : Bt js μ μ1) (h2 : Bt js μ1 μ2) : Bt js μ μ2 := fun j hj => (h2 j hj).trans (h j hj)
theorem Bt.mo {js ks : List Nat} {μ μ1 : Mem} (h : Bt js μ μ1) (hs : ∀ j, j ∈ js → j ∈ ks) : Bt ks μ μ1 := fun j hj => h j (fun c => hj (hs j c))
theorem Bt.up {js : List Nat} {μ : Mem} {j k i : Nat} {v : Int32} (h : j ∈ js) : Bt js μ (up μ j k i v) := fun j' hj => up_nq (fun c => hj (c ▸ h))
theorem up_self {μ : Mem} {j i : Nat} {v : Int32} : up μ j 0 i v j 0 i = v := by rw [up_at, if_pos ⟨rfl, rfl, rfl⟩]
theorem frames_spec {μ : Mem} {P : Mem → Prop} (h : ∀ μ', Bt [3392] μ μ' → (∀ k, k < 342 → μ' 3392 0 k = μ 3264 0 k) → P μ') : w9_frames_wp μ P := by
  intro R hR
  suffices H : ∀ μ', Bt [3392] μ μ' → (∀ k, k < 0 → μ' 3392 0 k = μ 3264 0 k) → R μ' (J (0 : Nat)) from H μ Bt.rf (fun k hk => absurd hk (by omega))
  refine down (Q := fun i => ∀ μ', Bt [3392] μ μ' → (∀ k, k < i → μ' 3392 0 k = μ 3264 0 k) → R μ' (J i)) 342 (fun i hi ih μ' b g => ?_)
  apply hR
  unfold w9_frames_b2_body
  rcases Nat.lt_or_ge i 342 with c | c
  · have ih := ih c
    simp (disch := omega) only [lJ0, lJ1, lJ2, lJ3, lJ4, lJ5, lJ6, lJ7, lJ8, lJ9, lJ10, lJ30, lJ32, lJ33, lJ39, lJ40, lJ41, lJ45, lJ47, lJ48, lJ51, lJ55, lJ57, lJ58, lJ59, lJ60, lJ64, lJ80, lJ82, lJ99, lJ100, lJ101, lJ123, lJ126, lJ282, lJ342, lJ1000, lJ1100, lJ2394, lJ2736, lJ9999, lJ10000, lJ1000000, lJ100000000, J_add, J_sub, J_mul, J_neg, J_le, J_lt, J_eq, J_in, J_clamp, Int.toNat_natCast]
    refine ⟨fun _ => by omega, fun _ => ⟨by omega, by omega, ?_⟩⟩
    rintro _ rfl
    refine ih _ (b.tr (Bt.up (by decide))) (fun k hk => ?_)
    rw [up_at]
    split
    · rename_i e; rw [e.2.2, b 3264 (by decide)]
    · exact g k (by omega)
  · obtain rfl : i = 342 := by omega
    simp (disch := omega) only [lJ0, lJ1, lJ2, lJ3, lJ4, lJ5, lJ6, lJ7, lJ8, lJ9, lJ10, lJ30, lJ32, lJ33, lJ39, lJ40, lJ41, lJ45, lJ47, lJ48, lJ51, lJ55, lJ57, lJ58, lJ59, lJ60, lJ64, lJ80, lJ82, lJ99, lJ100, lJ101, lJ123, lJ126, lJ282, lJ342, lJ1000, lJ1100, lJ2394, lJ2736, lJ9999, lJ10000, lJ1000000, lJ100000000, J_add, J_sub, J_mul, J_neg, J_le, J_lt, J_eq, J_in, J_clamp, Int.toNat_natCast]
    exact ⟨fun _ => h _ b g, fun c => absurd (by omega) c⟩
def MH (μ : Mem) (Hs : List St) : Prop := Hs.length ≤ 8 ∧ (μ 3207 0 0) = J Hs.length ∧ ∀ j, j < Hs.length → MW (fun k => μ 3456 0 (342 * (Hs.length - 1 - j) + k)) (hd Hs j)
theorem remembers_spec {μ : Mem} {Hs : List St} {s : St} (hh : MH μ Hs) (oks : ∀ j, j < Hs.length → SOK (hd Hs j)) (hf : MW (μ 3392 0) s) (ok : SOK s) {P : Mem → Prop} (h : ∀ μ', Bt [3456, 3207, 3212] μ μ' → MH μ' ((s :: Hs).take 8) → (μ' 3212 0 0) = J 0 → P μ') : w9_remembers_wp μ P := by
  obtain ⟨h8, e1, hv⟩ := hh
  have fin : ∀ (μ1 : Mem) (r : Nat), r + 1 ≤ 8 → Bt [3456, 3207, 3212] μ μ1 → (μ1 3207 0 0) = J ((r : Int) + 1) → ((s :: Hs).take 8).length = r + 1 → (∀ j, j < r → MW (fun k => μ1 3456 0 (342 * (r - 1 - j) + k)) (hd Hs j)) → w9_remembers_b55 P μ1 0 := by
    intro μ1 r hr b e hr2 hv1 R hR
    suffices H : ∀ μ', Bt [3456, 3207, 3212] μ μ' → (μ' 3207 0 0) = J ((r : Int) + 1) → (∀ k, k < 342 * r → μ' 3456 0 k = μ1 3456 0 k) → (∀ k, k < 0 → μ' 3456 0 (342 * r + k) = μ 3392 0 k) → R μ' (J (0 : Nat)) from H μ1 b e (fun _ _ => rfl) (fun k hk => absurd hk (by omega))
    refine down (Q := fun i => ∀ μ', Bt [3456, 3207, 3212] μ μ' → (μ' 3207 0 0) = J ((r : Int) + 1) → (∀ k, k < 342 * r → μ' 3456 0 k = μ1 3456 0 k) → (∀ k, k < i → μ' 3456 0 (342 * r + k) = μ 3392 0 k) → R μ' (J i)) 342 (fun i hi ih μ' b' e' old g => ?_)
    apply hR
    unfold w9_remembers_b55_body
    rcases Nat.lt_or_ge i 342 with c | c
    · have ih := ih c
      simp (disch := omega) only [e', lJ0, lJ1, lJ2, lJ3, lJ4, lJ5, lJ6, lJ7, lJ8, lJ9, lJ10, lJ30, lJ32, lJ33, lJ39, lJ40, lJ41, lJ45, lJ47, lJ48, lJ51, lJ55, lJ57, lJ58, lJ59, lJ60, lJ64, lJ80, lJ82, lJ99, lJ100, lJ101, lJ123, lJ126, lJ282, lJ342, lJ1000, lJ1100, lJ2394, lJ2736, lJ9999, lJ10000, lJ1000000, lJ100000000, J_add, J_sub, J_mul, J_neg, J_le, J_lt, J_eq, J_in, J_clamp, Int.toNat_natCast]
      refine ⟨fun _ => by omega, fun _ => ⟨by omega, by omega, ?_⟩⟩
      rintro _ rfl
      have ix : (342 * ((r : Int) + 1 - 1) + i).toNat = 342 * r + i := by omega
      rw [ix]
      refine ih _ (b'.tr (Bt.up (by decide))) ?_ (fun k hk => ?_) (fun k hk => ?_)
      · rw [up_nq (by decide)]; exact e'
      · rw [up_at, if_neg (by omega)]; exact old k hk
      · rw [up_at]
        split
        · rename_i z
          rw [b' 3392 (by decide), show k = i by omega]
        · exact g k (by omega)
    · obtain rfl : i = 342 := by omega
      simp (disch := omega) only [lJ0, lJ1, lJ2, lJ3, lJ4, lJ5, lJ6, lJ7, lJ8, lJ9, lJ10, lJ30, lJ32, lJ33, lJ39, lJ40, lJ41, lJ45, lJ47, lJ48, lJ51, lJ55, lJ57, lJ58, lJ59, lJ60, lJ64, lJ80, lJ82, lJ99, lJ100, lJ101, lJ123, lJ126, lJ282, lJ342, lJ1000, lJ1100, lJ2394, lJ2736, lJ9999, lJ10000, lJ1000000, lJ100000000, J_add, J_sub, J_mul, J_neg, J_le, J_lt, J_eq, J_in, J_clamp, Int.toNat_natCast]
      refine ⟨fun _ => ?_, fun c => absurd (by omega) c⟩
      rintro _ rfl
      refine h _ (b'.tr (Bt.up (by decide))) ⟨by omega, ?_, fun j hj => ?_⟩ up_self
      · rw [up_nq (by decide), e', hr2]
        rfl
      · rw [up_nq (by decide)]
        rw [hr2] at hj ⊢
        match j, hj with
        | 0, _ =>
          refine MW.cp (f := μ 3392 0) hf ok.1.1 ok.2.1.1 (fun k hk => ?_)
          simp only [Nat.add_sub_cancel, Nat.sub_zero]
          exact g k hk
        | j + 1, hj =>
          have hj2 : j < Hs.length := by
            rw [List.length_take, List.length_cons] at hr2; omega
          have ee : hd ((s :: Hs).take 8) (j + 1) = hd Hs j := by
            simp only [hd, List.getD]
            rw [List.getElem?_take_of_lt (by omega), List.getElem?_cons_succ]
          rw [ee]
          have okj := oks j hj2
          refine MW.cp (hv1 j (by omega)) okj.1.1 okj.2.1.1 (fun k hk => ?_)
          show μ' 3456 0 _ = μ1 3456 0 _
          rw [show r + 1 - 1 - (j + 1) = r - 1 - j by omega]
          exact old _ (by omega)
  unfold w9_remembers_wp
  simp (disch := omega) only [e1, lJ0, lJ1, lJ2, lJ3, lJ4, lJ5, lJ6, lJ7, lJ8, lJ9, lJ10, lJ30, lJ32, lJ33, lJ39, lJ40, lJ41, lJ45, lJ47, lJ48, lJ51, lJ55, lJ57, lJ58, lJ59, lJ60, lJ64, lJ80, lJ82, lJ99, lJ100, lJ101, lJ123, lJ126, lJ282, lJ342, lJ1000, lJ1100, lJ2394, lJ2736, lJ9999, lJ10000, lJ1000000, lJ100000000, J_add, J_sub, J_mul, J_neg, J_le, J_lt, J_eq, J_in, J_clamp, Int.toNat_natCast]
  refine ⟨fun c => ?_, fun c => ?_⟩
  · rintro _ rfl
    refine fin _ Hs.length (by omega) (Bt.up (by decide)) up_self (by rw [List.length_take, List.length_cons]; omega) (fun j hj => ?_)
    rw [up_nq (by decide)]
    exact hv j hj
  · have h8' : Hs.length = 8 := by omega
    intro R hR
    suffices H : ∀ μ', Bt [3456] μ μ' → (∀ k, k < 0 → μ' 3456 0 k = μ 3456 0 (k + 342)) → (∀ k, 0 ≤ k → μ' 3456 0 k = μ 3456 0 k) → R μ' (J (0 : Nat)) from H μ Bt.rf (fun k hk => absurd hk (by omega)) (fun _ _ => rfl)
    refine down (Q := fun i => ∀ μ', Bt [3456] μ μ' → (∀ k, k < i → μ' 3456 0 k = μ 3456 0 (k + 342)) → (∀ k, i ≤ k → μ' 3456 0 k = μ 3456 0 k) → R μ' (J i)) 2394 (fun i hi ih μ' b g old => ?_)
    apply hR
    unfold w9_remembers_b11_body
    rcases Nat.lt_or_ge i 2394 with c | c
    · have ih := ih c
      simp (disch := omega) only [lJ0, lJ1, lJ2, lJ3, lJ4, lJ5, lJ6, lJ7, lJ8, lJ9, lJ10, lJ30, lJ32, lJ33, lJ39, lJ40, lJ41, lJ45, lJ47, lJ48, lJ51, lJ55, lJ57, lJ58, lJ59, lJ60, lJ64, lJ80, lJ82, lJ99, lJ100, lJ101, lJ123, lJ126, lJ282, lJ342, lJ1000, lJ1100, lJ2394, lJ2736, lJ9999, lJ10000, lJ1000000, lJ100000000, J_add, J_sub, J_mul, J_neg, J_le, J_lt, J_eq, J_in, J_clamp, Int.toNat_natCast]
      refine ⟨fun _ => by omega, fun _ => ⟨by omega, by omega, ?_⟩⟩
      rintro _ rfl
      refine ih _ (b.tr (Bt.up (by decide))) (fun k hk => ?_) (fun k hk => ?_)
      · rw [up_at]
        split
        · rename_i z
          rw [z.2.2, show ((i : Int) + 342).toNat = i + 342 by omega]
          exact old _ (by omega)
        · exact g k (by omega)
      · rw [up_at, if_neg (by omega)]; exact old k (by omega)
    · obtain rfl : i = 2394 := by omega
      simp (disch := omega) only [lJ0, lJ1, lJ2, lJ3, lJ4, lJ5, lJ6, lJ7, lJ8, lJ9, lJ10, lJ30, lJ32, lJ33, lJ39, lJ40, lJ41, lJ45, lJ47, lJ48, lJ51, lJ55, lJ57, lJ58, lJ59, lJ60, lJ64, lJ80, lJ82, lJ99, lJ100, lJ101, lJ123, lJ126, lJ282, lJ342, lJ1000, lJ1100, lJ2394, lJ2736, lJ9999, lJ10000, lJ1000000, lJ100000000, J_add, J_sub, J_mul, J_neg, J_le, J_lt, J_eq, J_in, J_clamp, Int.toNat_natCast]
      refine ⟨fun _ => ?_, fun c => absurd (by omega) c⟩
      refine fin _ 7 (by omega) (b.mo (by decide)) ?_ (by rw [List.length_take, List.length_cons]; omega) (fun j hj => ?_)
      · rw [b _ (by decide), e1, h8']; rfl
      · have okj := oks j (by omega)
        refine MW.cp (hv j (by omega)) okj.1.1 okj.2.1.1 (fun k hk => ?_)
        show μ' 3456 0 _ = μ 3456 0 _
        rw [g _ (by omega)]
        congr 1
        omega
