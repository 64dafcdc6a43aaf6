-- the reference's critical path
def Rn (a : Int) : Prop := -600000 ≤ a ∧ a ≤ 600000
theorem J_mn {a b : Int} (ha : (-2147483648 ≤ a ∧ a ≤ 2147483647)) (hb : (-2147483648 ≤ b ∧ b ≤ 2147483647)) : (if J a < J b then J a else J b) = J (if a < b then a else b) := by
  rw [apply_ite J]
  by_cases c : a < b
  · rw [if_pos c, if_pos ((J_lt ha hb).mpr c)]
  · rw [if_neg c, if_neg (fun z => c ((J_lt ha hb).mp z))]
theorem J_mx {a b : Int} (ha : (-2147483648 ≤ a ∧ a ≤ 2147483647)) (hb : (-2147483648 ≤ b ∧ b ≤ 2147483647)) : (if J a < J b then J b else J a) = J (if a < b then b else a) := by
  rw [apply_ite J]
  by_cases c : a < b
  · rw [if_pos c, if_pos ((J_lt ha hb).mpr c)]
  · rw [if_neg c, if_neg (fun z => c ((J_lt ha hb).mp z))]
theorem be_Rn {n : Nat} {w : View} (hw : WF n w) {i : Nat} (hi : i < n) : Rn (bgn n w i) ∧ Rn (enn n w i) := by
  have := be_rg hw hi
  unfold Rn
  omega
theorem cb_Rn {n : Nat} {w : View} (hw : WF n w) {i : Nat} (hi : i < n) {f : Int} (hf : Rn f) : Rn (cb n w f i) := by
  have := be_Rn hw hi
  unfold Rn cb at *
  split <;> omega
theorem ce_Rn {n : Nat} {w : View} (hw : WF n w) {i : Nat} (hi : i < n) {f : Int} (hf : Rn f) : Rn (ce n w f i) := by
  have := be_Rn hw hi
  unfold Rn ce at *
  split <;> omega
theorem lss_Rn {n : Nat} {w : View} (hw : WF n w) {x f t : Int} (hf : Rn f) (ht : Rn t) {m : Nat} (hm : m ≤ n) : -1 ≤ (lss n w x f t m).1 ∧ (lss n w x f t m).1 < m ∧ Rn (lss n w x f t m).2.1 ∧ Rn (lss n w x f t m).2.2 := by
  rcases lss_inv (n := n) (w := w) (x := x) (f := f) (t := t) m with e | ⟨c, h1, h2, h3⟩
  · rw [e]
    exact ⟨by show (-1 : Int) ≤ -1; omega, by show (-1 : Int) < m; omega, by show (-600000 : Int) ≤ 0 ∧ (0 : Int) ≤ 600000; omega, by show (-600000 : Int) ≤ 0 ∧ (0 : Int) ≤ 600000; omega⟩
  · rw [h2]
    have := cb_Rn hw (i := c) (by omega) hf
    have := ce_Rn hw (i := c) (by omega) ht
    refine ⟨?_, ?_, by assumption, by assumption⟩
    · show (-1 : Int) ≤ c; omega
    · show (c : Int) < m; omega
theorem m_latest_spec {S : GS} {μ : Mem} (k : MQ9 S μ) (g : GOK S) {x f t : Int} (hx : 0 ≤ x ∧ x < 100) (hf : Rn f) (ht : Rn t) {P : Int32 → Mem → Prop} (h : P (J (lat (S.1.1) (S.1.2.1) x f t)) μ) : w9_latest_wp μ (J x) (J f) (J t) P := by
  have rn := g.1.n
  have hf' := hf
  have ht' := ht
  unfold Rn at hf' ht'
  intro R hR
  have e0 := k.n0
  refine down (Q := fun i => R μ (J x) (J f) (J t) (J (lss (S.1.1) (S.1.2.1) x f t i).1) (J (lss (S.1.1) (S.1.2.1) x f t i).2.1) (J (lss (S.1.1) (S.1.2.1) x f t i).2.2) (J i)) (S.1.1) (fun i hi ih => ?_)
  apply hR
  unfold w9_latest_b12_body
  rcases Nat.lt_or_ge i (S.1.1) with c | c
  rotate_left
  · have e9 : i = S.1.1 := by omega
    subst e9
    simp (disch := omega) only [lJ0, lJ1, lJ2, lJ3, lJ4, lJ5, lJ6, lJ7, lJ8, lJ9, lJ10, lJ30, lJ32, lJ33, lJ39, lJ40, lJ41, lJ45, lJ47, lJ48, lJ51, lJ55, lJ57, lJ58, lJ59, lJ60, lJ64, lJ80, lJ82, lJ99, lJ100, lJ101, lJ123, lJ126, lJ282, lJ342, lJ1000, lJ1100, lJ2394, lJ2736, lJ9999, lJ10000, lJ1000000, lJ100000000, J_add, J_sub, J_mul, J_neg, J_le, J_lt, J_eq, J_in, J_clamp, Int.toNat_natCast, Int.toNat_zero, e0]
    exact ⟨by omega, fun _ => h, fun c => absurd (Int.le_refl _) c⟩
  have ih := ih c
  have e := k.ab c
  have ra := ab_rg (w := S.1.2.1) c
  have rb := be_Rn g.w c
  have rc := cb_Rn g.w c hf
  have re := ce_Rn g.w c ht
  have rl := lss_Rn (x := x) g.w hf ht (Nat.le_of_lt c)
  unfold Rn at rb rc re rl
  rw [lss_succ] at ih
  generalize lss (S.1.1) (S.1.2.1) x f t i = s at ih rl ⊢
  obtain ⟨s1, s2, s3⟩ := s
  dsimp only at rl ⊢
  simp (disch := omega) only [lJ0, lJ1, lJ2, lJ3, lJ4, lJ5, lJ6, lJ7, lJ8, lJ9, lJ10, lJ30, lJ32, lJ33, lJ39, lJ40, lJ41, lJ45, lJ47, lJ48, lJ51, lJ55, lJ57, lJ58, lJ59, lJ60, lJ64, lJ80, lJ82, lJ99, lJ100, lJ101, lJ123, lJ126, lJ282, lJ342, lJ1000, lJ1100, lJ2394, lJ2736, lJ9999, lJ10000, lJ1000000, lJ100000000, J_add, J_sub, J_mul, J_neg, J_le, J_lt, J_eq, J_in, J_clamp, Int.toNat_natCast, Int.toNat_zero, e0]
  refine ⟨by omega, fun _ => by omega, fun _ => ?_⟩
  refine m_begin_spec k g c rfl (m_end_spec k g c rfl ?_)
  have j1 : (if J t < J (enn (S.1.1) (S.1.2.1) i) then J t else J (enn (S.1.1) (S.1.2.1) i)) = J (ce (S.1.1) (S.1.2.1) t i) := J_mn (by omega) (by omega)
  have j2 : (if J (bgn (S.1.1) (S.1.2.1) i) < J f then J f else J (bgn (S.1.1) (S.1.2.1) i)) = J (cb (S.1.1) (S.1.2.1) f i) := J_mx (by omega) (by omega)
  simp only [j1, j2]
  have skip : ¬ ((ab (S.1.1) (S.1.2.1) i = x ∧ cb (S.1.1) (S.1.2.1) f i < ce (S.1.1) (S.1.2.1) t i) ∧ (s1 = -1 ∨ s3 < ce (S.1.1) (S.1.2.1) t i ∨ (ce (S.1.1) (S.1.2.1) t i = s3 ∧ (cb (S.1.1) (S.1.2.1) f i < s2 ∨ (cb (S.1.1) (S.1.2.1) f i = s2 ∧ S.1.2.1 i 0 < S.1.2.1 s1.toNat 0))))) → R μ (J x) (J f) (J t) (J s1) (J s2) (J s3) (J ((i : Int) + 1)) := fun z => by
    unfold lst at ih
    by_cases z1 : ab (S.1.1) (S.1.2.1) i = x ∧ cb (S.1.1) (S.1.2.1) f i < ce (S.1.1) (S.1.2.1) t i
    · rw [if_pos z1, if_neg (fun z2 => z ⟨z1, z2⟩)] at ih
      exact ih
    · rw [if_neg z1] at ih
      exact ih
  have take : (ab (S.1.1) (S.1.2.1) i = x ∧ cb (S.1.1) (S.1.2.1) f i < ce (S.1.1) (S.1.2.1) t i) → (s1 = -1 ∨ s3 < ce (S.1.1) (S.1.2.1) t i ∨ (ce (S.1.1) (S.1.2.1) t i = s3 ∧ (cb (S.1.1) (S.1.2.1) f i < s2 ∨ (cb (S.1.1) (S.1.2.1) f i = s2 ∧ S.1.2.1 i 0 < S.1.2.1 s1.toNat 0)))) → R μ (J x) (J f) (J t) (J i) (J (cb (S.1.1) (S.1.2.1) f i)) (J (ce (S.1.1) (S.1.2.1) t i)) (J ((i : Int) + 1)) := fun z1 z2 => by
    unfold lst at ih
    rw [if_pos z1, if_pos z2] at ih
    exact ih
  generalize cb (S.1.1) (S.1.2.1) f i = b9 at skip take rc ⊢
  generalize ce (S.1.1) (S.1.2.1) t i = e9 at skip take re ⊢
  have b1 : (∀ μ', μ' = μ → R μ' (J x) (J f) (J t) (J i) (J b9) (J e9) (J i + 1)) → w9_latest_b121 P R μ (J x) (J f) (J t) (J s1) (J s2) (J s3) (J i) (J b9) (J e9) (J 1) := fun z => by
    unfold w9_latest_b121 w9_latest_b149
    exact ⟨fun c => absurd c (by decide), fun _ => ⟨fun c => absurd c (by decide), fun _ => ⟨fun c => absurd c (by decide), fun _ => z μ rfl⟩⟩⟩
  have b0 : (∀ μ', μ' = μ → R μ' (J x) (J f) (J t) (J s1) (J s2) (J s3) (J i + 1)) → w9_latest_b121 P R μ (J x) (J f) (J t) (J s1) (J s2) (J s3) (J i) (J b9) (J e9) (J 0) := fun z => by
    unfold w9_latest_b121 w9_latest_b149
    exact ⟨fun _ => ⟨fun _ => ⟨fun _ => z μ rfl, fun c => absurd rfl c⟩, fun c => absurd rfl c⟩, fun c => absurd rfl c⟩
  have B1 : _ → _ → w9_latest_b121 P R μ (J x) (J f) (J t) (J s1) (J s2) (J s3) (J i) (J b9) (J e9) (J 1) := fun z1 z2 => b1 (fun μ' e => by rw [e, lJ1, J_add]; exact take z1 z2)
  have B0 : _ → w9_latest_b121 P R μ (J x) (J f) (J t) (J s1) (J s2) (J s3) (J i) (J b9) (J e9) (J 0) := fun z1 => b0 (fun μ' e => by rw [e, lJ1, J_add]; exact skip z1)
  simp (disch := omega) only [lJ0, lJ1, lJ2, lJ3, lJ4, lJ5, lJ6, lJ7, lJ8, lJ9, lJ10, lJ30, lJ32, lJ33, lJ39, lJ40, lJ41, lJ45, lJ47, lJ48, lJ51, lJ55, lJ57, lJ58, lJ59, lJ60, lJ64, lJ80, lJ82, lJ99, lJ100, lJ101, lJ123, lJ126, lJ282, lJ342, lJ1000, lJ1100, lJ2394, lJ2736, lJ9999, lJ10000, lJ1000000, lJ100000000, J_add, J_sub, J_mul, J_neg, J_le, J_lt, J_eq, J_in, J_clamp, Int.toNat_natCast, e]
  refine ⟨by omega, fun c1 => skip (fun z => c1 z.1.1), fun c1 => ⟨fun c2 => skip (fun z => by omega), fun c2 => ⟨fun c3 => B1 ⟨c1, by omega⟩ (Or.inl c3), fun c3 => ⟨fun c4 => B1 ⟨c1, by omega⟩ (Or.inr (Or.inl c4)), fun c4 => ⟨fun c5 => B0 (fun z => by omega), fun c5 => ⟨fun c6 => B1 ⟨c1, by omega⟩ (Or.inr (Or.inr ⟨c5, Or.inl c6⟩)), fun c6 => ⟨fun c7 => B0 (fun z => by omega), fun c7 => ?_⟩⟩⟩⟩⟩⟩⟩
  have ri := g.w.r i c
  have rs := g.w.r s1.toNat (by omega)
  refine of_spec k.1.1.1 rn i 0 rfl rfl c (by omega) (of_spec k.1.1.1 rn s1.toNat 0 (by congr 1; omega) rfl (by omega) (by omega) ?_)
  simp (disch := omega) only [lJ0, lJ1, lJ2, lJ3, lJ4, lJ5, lJ6, lJ7, lJ8, lJ9, lJ10, lJ30, lJ32, lJ33, lJ39, lJ40, lJ41, lJ45, lJ47, lJ48, lJ51, lJ55, lJ57, lJ58, lJ59, lJ60, lJ64, lJ80, lJ82, lJ99, lJ100, lJ101, lJ123, lJ126, lJ282, lJ342, lJ1000, lJ1100, lJ2394, lJ2736, lJ9999, lJ10000, lJ1000000, lJ100000000, J_add, J_sub, J_mul, J_neg, J_le, J_lt, J_eq, J_in, J_clamp, Int.toNat_natCast]
  exact ⟨fun c8 => B0 (fun z => by omega), fun c8 => B1 ⟨c1, by omega⟩ (Or.inr (Or.inr ⟨c5, Or.inr ⟨c7, by omega⟩⟩))⟩
abbrev sg (L : List Sg) (k : Nat) : Sg := L.getD k (0, 0, 0)
def SgM (μ : Mem) (L : List Sg) : Prop := (μ 3226 0 0) = J L.length ∧ ∀ k, k < L.length → μ 4224 0 k = J (sg L k).1 ∧ μ 4288 0 k = J (sg L k).2.1 ∧ μ 4352 0 k = J (sg L k).2.2
theorem sg_app {L : List Sg} {y : Sg} {k : Nat} (h : k < L.length) : sg (L ++ [y]) k = sg L k := by
  simp [sg, List.getD, List.getElem?_append_left h]
theorem sg_last {L : List Sg} {y : Sg} : sg (L ++ [y]) L.length = y := by simp [sg, List.getD]
theorem m_adds_spec {μ : Mem} {L : List Sg} (hs : SgM μ L) (hl : L.length < 200) {x a b : Int} {P : Mem → Prop} (h : ∀ μ', Bt [4224, 4288, 4352, 3226] μ μ' → SgM μ' (L ++ [(x, a, b)]) → P μ') : w9_adds_wp μ (J x) (J a) (J b) P := by
  obtain ⟨h1, h2⟩ := hs
  unfold w9_adds_wp
  simp (disch := omega) only [lJ0, lJ1, lJ2, lJ3, lJ4, lJ5, lJ6, lJ7, lJ8, lJ9, lJ10, lJ30, lJ32, lJ33, lJ39, lJ40, lJ41, lJ45, lJ47, lJ48, lJ51, lJ55, lJ57, lJ58, lJ59, lJ60, lJ64, lJ80, lJ82, lJ99, lJ100, lJ101, lJ123, lJ126, lJ282, lJ342, lJ1000, lJ1100, lJ2394, lJ2736, lJ9999, lJ10000, lJ1000000, lJ100000000, J_add, J_sub, J_mul, J_neg, J_le, J_lt, J_eq, J_in, J_clamp, Int.toNat_natCast, h1]
  refine ⟨by omega, ?_⟩
  rintro μ2 rfl
  have e2 : up μ 4224 0 L.length (J x) 3226 0 0 = J L.length := by rw [up_nq (by decide)]; exact h1
  simp (disch := omega) only [lJ0, lJ1, lJ2, lJ3, lJ4, lJ5, lJ6, lJ7, lJ8, lJ9, lJ10, lJ30, lJ32, lJ33, lJ39, lJ40, lJ41, lJ45, lJ47, lJ48, lJ51, lJ55, lJ57, lJ58, lJ59, lJ60, lJ64, lJ80, lJ82, lJ99, lJ100, lJ101, lJ123, lJ126, lJ282, lJ342, lJ1000, lJ1100, lJ2394, lJ2736, lJ9999, lJ10000, lJ1000000, lJ100000000, J_add, J_sub, J_mul, J_neg, J_le, J_lt, J_eq, J_in, J_clamp, Int.toNat_natCast, e2]
  refine ⟨by omega, ?_⟩
  rintro μ4 rfl
  have e4 : up (up μ 4224 0 L.length (J x)) 4288 0 L.length (J a) 3226 0 0 = J L.length := by rw [up_nq (by decide)]; exact e2
  simp (disch := omega) only [lJ0, lJ1, lJ2, lJ3, lJ4, lJ5, lJ6, lJ7, lJ8, lJ9, lJ10, lJ30, lJ32, lJ33, lJ39, lJ40, lJ41, lJ45, lJ47, lJ48, lJ51, lJ55, lJ57, lJ58, lJ59, lJ60, lJ64, lJ80, lJ82, lJ99, lJ100, lJ101, lJ123, lJ126, lJ282, lJ342, lJ1000, lJ1100, lJ2394, lJ2736, lJ9999, lJ10000, lJ1000000, lJ100000000, J_add, J_sub, J_mul, J_neg, J_le, J_lt, J_eq, J_in, J_clamp, Int.toNat_natCast, e4]
  refine ⟨by omega, ?_⟩
  rintro μ6 rfl μ7 rfl
  have e6 : up (up (up μ 4224 0 L.length (J x)) 4288 0 L.length (J a)) 4352 0 L.length (J b) 3226 0 0 = J L.length := by rw [up_nq (by decide)]; exact e4
  simp (disch := omega) only [lJ0, lJ1, lJ2, lJ3, lJ4, lJ5, lJ6, lJ7, lJ8, lJ9, lJ10, lJ30, lJ32, lJ33, lJ39, lJ40, lJ41, lJ45, lJ47, lJ48, lJ51, lJ55, lJ57, lJ58, lJ59, lJ60, lJ64, lJ80, lJ82, lJ99, lJ100, lJ101, lJ123, lJ126, lJ282, lJ342, lJ1000, lJ1100, lJ2394, lJ2736, lJ9999, lJ10000, lJ1000000, lJ100000000, J_add, J_sub, J_mul, J_neg, J_le, J_lt, J_eq, J_in, J_clamp, Int.toNat_natCast, e6]
  refine h _ ((((Bt.up (by decide)).tr (Bt.up (by decide))).tr (Bt.up (by decide))).tr (Bt.up (by decide))) ⟨?_, fun k hk => ?_⟩
  · rw [List.length_append, List.length_singleton]
    exact up_self
  · rw [List.length_append, List.length_singleton] at hk
    rw [up_nq (j' := 4224) (by decide), up_nq (j' := 4288) (by decide), up_nq (j' := 4352) (by decide), up_nq (j' := 4224) (by decide), up_nq (j' := 4288) (by decide), up_nq (j' := 4224) (by decide), up_row, up_row, up_row]
    unfold mset
    by_cases y : k = L.length
    · subst y
      rw [if_pos rfl, if_pos rfl, if_pos rfl, sg_last]
      exact ⟨rfl, rfl, rfl⟩
    · rw [if_neg y, if_neg y, if_neg y, sg_app (by omega)]
      exact h2 k (by omega)
def WJ : List Nat := [4224, 4288, 4352, 3226]
theorem m_walks_spec {S : GS} (g : GOK S) : ∀ (d k : Nat) (x f t : Int) (μ : Mem) (L : List Sg) (P : Mem → Prop), d ≤ k → okw (S.1.1) (S.1.2.1) d x f t → 0 ≤ x ∧ x < 100 → Rn f → Rn t → MQ9 S μ → SgM μ L → L.length + (wk (S.1.1) (S.1.2.1) d x f t).length ≤ 200 → (∀ μ', Bt [4224, 4288, 4352, 3226] μ μ' → SgM μ' (L ++ wk (S.1.1) (S.1.2.1) d x f t) → P μ') → w9_walks_wp k μ (J x) (J f) (J t) P := by
  intro d
  induction d using Nat.strongRecOn with
  | ind d IH =>
    intro k x f t μ L P hdk ok hx hf ht mq sm hl hp
    cases k with
    | zero => 
      have : d = 0 := by omega
      subst this
      exact ok.elim
    | succ k =>
      show w9_walks_b3 (w9_walks_wp k) P μ (J x) (J f) (J t)
      intro R hR
      have H : ∀ (e : Nat) (t : Int) (μ : Mem) (L : List Sg), e ≤ d → okw (S.1.1) (S.1.2.1) e x f t → Rn t → MQ9 S μ → SgM μ L → L.length + (wk (S.1.1) (S.1.2.1) e x f t).length ≤ 200 → (∀ μ', Bt [4224, 4288, 4352, 3226] μ μ' → SgM μ' (L ++ wk (S.1.1) (S.1.2.1) e x f t) → P μ') → R μ (J x) (J f) (J t) := by
        intro e
        induction e with
        | zero => intro t μ L _ ok; exact ok.elim
        | succ e ih =>
          intro t μ L hed ok ht mq sm hl hp
          have hf' := hf
          have ht' := ht
          unfold Rn at hf' ht'
          have ok : f < t → lat (S.1.1) (S.1.2.1) x f t ≠ -1 → _ := ok
          unfold wk at hl hp
          apply hR
          unfold w9_walks_b3_body
          simp (disch := omega) only [lJ0, lJ1, lJ2, lJ3, lJ4, lJ5, lJ6, lJ7, lJ8, lJ9, lJ10, lJ30, lJ32, lJ33, lJ39, lJ40, lJ41, lJ45, lJ47, lJ48, lJ51, lJ55, lJ57, lJ58, lJ59, lJ60, lJ64, lJ80, lJ82, lJ99, lJ100, lJ101, lJ123, lJ126, lJ282, lJ342, lJ1000, lJ1100, lJ2394, lJ2736, lJ9999, lJ10000, lJ1000000, lJ100000000, J_add, J_sub, J_mul, J_neg, J_le, J_lt, J_eq, J_in, J_clamp, Int.toNat_natCast]
          refine ⟨fun c => ?_, fun c => ?_⟩
          · rw [if_pos c, List.append_nil] at hp
            exact hp μ Bt.rf sm
          rw [if_neg c] at hl hp
          refine m_latest_spec mq g hx hf ht ?_
          rcases lat_cs (S.1.1) (S.1.2.1) x f t with el | ⟨q, el, hq, e1, e2⟩
          · rw [if_pos el] at hl hp
            rw [el]
            simp (disch := omega) only [lJ0, lJ1, lJ2, lJ3, lJ4, lJ5, lJ6, lJ7, lJ8, lJ9, lJ10, lJ30, lJ32, lJ33, lJ39, lJ40, lJ41, lJ45, lJ47, lJ48, lJ51, lJ55, lJ57, lJ58, lJ59, lJ60, lJ64, lJ80, lJ82, lJ99, lJ100, lJ101, lJ123, lJ126, lJ282, lJ342, lJ1000, lJ1100, lJ2394, lJ2736, lJ9999, lJ10000, lJ1000000, lJ100000000, J_add, J_sub, J_mul, J_neg, J_le, J_lt, J_eq, J_in, J_clamp, Int.toNat_natCast]
            refine ⟨fun z => absurd trivial z, fun _ => ?_⟩
            refine m_adds_spec sm (by simp at hl; omega) (fun μ2 b2 sm2 => ?_)
            -- the turn that ends
            apply hR
            unfold w9_walks_b3_body
            simp (disch := omega) only [lJ0, lJ1, lJ2, lJ3, lJ4, lJ5, lJ6, lJ7, lJ8, lJ9, lJ10, lJ30, lJ32, lJ33, lJ39, lJ40, lJ41, lJ45, lJ47, lJ48, lJ51, lJ55, lJ57, lJ58, lJ59, lJ60, lJ64, lJ80, lJ82, lJ99, lJ100, lJ101, lJ123, lJ126, lJ282, lJ342, lJ1000, lJ1100, lJ2394, lJ2736, lJ9999, lJ10000, lJ1000000, lJ100000000, J_add, J_sub, J_mul, J_neg, J_le, J_lt, J_eq, J_in, J_clamp, Int.toNat_natCast]
            exact ⟨fun _ => hp μ2 b2 sm2, fun z => absurd (Int.le_refl _) z⟩
          · rw [if_neg (by omega)] at hl hp
            obtain ⟨ok1, ok2⟩ := ok (by omega) (by omega)
            rw [el, Int.toNat_natCast] at hl hp ok1 ok2
            rw [el]
            have rn := g.1.n
            have rq := be_Rn g.w hq
            have rc := cb_Rn g.w hq hf
            have re := ce_Rn g.w hq ht
            have rq' := rq
            have rc' := rc
            have re' := re
            unfold Rn at rq' rc' re'
            have rcb := cb_rg (n := S.1.1) (w := S.1.2.1) (f := f) (i := q)
            have rce := ce_rg (n := S.1.1) (w := S.1.2.1) (t := t) (i := q)
            simp (disch := omega) only [lJ0, lJ1, lJ2, lJ3, lJ4, lJ5, lJ6, lJ7, lJ8, lJ9, lJ10, lJ30, lJ32, lJ33, lJ39, lJ40, lJ41, lJ45, lJ47, lJ48, lJ51, lJ55, lJ57, lJ58, lJ59, lJ60, lJ64, lJ80, lJ82, lJ99, lJ100, lJ101, lJ123, lJ126, lJ282, lJ342, lJ1000, lJ1100, lJ2394, lJ2736, lJ9999, lJ10000, lJ1000000, lJ100000000, J_add, J_sub, J_mul, J_neg, J_le, J_lt, J_eq, J_in, J_clamp, Int.toNat_natCast]
            refine ⟨fun _ => ?_, fun z => by omega⟩
            refine m_begin_spec mq g hq rfl (m_end_spec mq g hq rfl ?_)
            have j1 : (if J t < J (enn (S.1.1) (S.1.2.1) q) then J t else J (enn (S.1.1) (S.1.2.1) q)) = J (ce (S.1.1) (S.1.2.1) t q) := J_mn (by omega) (by omega)
            have j2 : (if J (bgn (S.1.1) (S.1.2.1) q) < J f then J f else J (bgn (S.1.1) (S.1.2.1) q)) = J (cb (S.1.1) (S.1.2.1) f q) := J_mx (by omega) (by omega)
            simp only [j1, j2]
            -- the child, then the rest
            have rest : ∀ (μ3 : Mem) (L3 : List Sg), MQ9 S μ3 → SgM μ3 L3 → Bt [4224, 4288, 4352, 3226] μ μ3 → L3 = L ++ (if t ≤ ce (S.1.1) (S.1.2.1) t q then [] else [(x, ce (S.1.1) (S.1.2.1) t q, t)]) → w9_walks_wp k μ3 (J q) (J (cb (S.1.1) (S.1.2.1) f q)) (J (ce (S.1.1) (S.1.2.1) t q)) (fun μ7 => R μ7 (J x) (J f) (J (cb (S.1.1) (S.1.2.1) f q))) := by
              intro μ3 L3 mq3 sm3 b3 hL3
              rw [List.length_append, List.length_append] at hl
              have hl3 : L3.length = L.length + (if t ≤ ce (S.1.1) (S.1.2.1) t q then [] else [(x, ce (S.1.1) (S.1.2.1) t q, t)]).length := by rw [hL3, List.length_append]
              refine IH e (by omega) k q (cb (S.1.1) (S.1.2.1) f q) (ce (S.1.1) (S.1.2.1) t q) μ3 L3 _ (by omega) ok1 (by omega) rc re mq3 sm3 (by omega) (fun μ4 b4 sm4 => ?_)
              have mq4 := mq3.bt b4 (by decide)
              refine ih (cb (S.1.1) (S.1.2.1) f q) μ4 _ (by omega) ok2 rc mq4 sm4 (by rw [List.length_append]; omega) (fun μ5 b5 sm5 => ?_)
              refine hp μ5 ((b3.tr b4).tr b5) ?_
              rw [hL3] at sm5
              rw [← List.append_assoc, ← List.append_assoc]
              exact sm5
            simp (disch := omega) only [lJ0, lJ1, lJ2, lJ3, lJ4, lJ5, lJ6, lJ7, lJ8, lJ9, lJ10, lJ30, lJ32, lJ33, lJ39, lJ40, lJ41, lJ45, lJ47, lJ48, lJ51, lJ55, lJ57, lJ58, lJ59, lJ60, lJ64, lJ80, lJ82, lJ99, lJ100, lJ101, lJ123, lJ126, lJ282, lJ342, lJ1000, lJ1100, lJ2394, lJ2736, lJ9999, lJ10000, lJ1000000, lJ100000000, J_add, J_sub, J_mul, J_neg, J_le, J_lt, J_eq, J_in, J_clamp, Int.toNat_natCast]
            refine ⟨fun c2 => ?_, fun c2 => ?_⟩
            · exact rest μ L mq sm Bt.rf (by rw [if_pos c2, List.append_nil])
            · rw [if_neg c2] at hl
              refine m_adds_spec sm (by simp at hl; omega) (fun μ2 b2 sm2 => ?_)
              exact rest μ2 _ (mq.bt b2 (by decide)) sm2 b2 (by rw [if_neg c2])
      exact H d t μ L (Nat.le_refl _) ok ht mq sm hl hp
/-- the path of a node -/
def pa (n : Nat) (w : View) (x : Int) : List Sg := wk n w 42 x (nbg n w x) (nen n w x)
theorem nb_Rn {S : GS} (g : GOK S) {x : Int} (hx : Nx S x) (he : 40 ≤ x → ∃ i, i < S.1.1 ∧ ab (S.1.1) (S.1.2.1) i = x) : Rn (nbg (S.1.1) (S.1.2.1) x) ∧ Rn (nen (S.1.1) (S.1.2.1) x) := by
  have rn := g.1.n
  unfold nbg nen
  rcases hx with hx | hx
  · rw [if_pos (by omega), if_pos (by omega)]
    exact be_Rn g.w (by omega)
  · rw [if_neg (by omega), if_neg (by omega)]
    obtain ⟨i0, hi0, ha0⟩ := he hx.1
    have a := mnb_rg g.w x (S.1.1) (Nat.le_refl _)
    have b := mxe_rg g.w x (S.1.1) (Nat.le_refl _)
    have c := be_rg g.w hi0
    have a2 := a.2 i0 hi0 ha0
    have b2 := b.2 i0 hi0 ha0
    unfold Rn
    omega
theorem pa_ok {S : GS} (g : GOK S) {x f t : Int} (hx : 0 ≤ x) : okw (S.1.1) (S.1.2.1) 42 x f t := okw_of g.w 42 x f t hx (by
  have := cnt_le (p := fun i => bl (S.1.1) (S.1.2.1) x i = true ∧ bgn (S.1.1) (S.1.2.1) i < t) (n := S.1.1)
  have := g.1.n
  omega)
theorem m_path_spec {S : GS} {μ : Mem} (k : MQ9 S μ) (g : GOK S) {x : Int} (hx : Nx S x) (he : 40 ≤ x → ∃ i, i < S.1.1 ∧ ab (S.1.1) (S.1.2.1) i = x) {P : Mem → Prop} (h : ∀ μ', Bt [4224, 4288, 4352, 3226] μ μ' → SgM μ' (pa (S.1.1) (S.1.2.1) x) → P μ') : w9_path_wp μ (J x) P := by
  have rn := g.1.n
  have rl := hl_len g
  have hx' := hx
  unfold Nx at hx'
  unfold w9_path_wp
  rintro μ1 rfl
  have b1 : Bt [3226] μ (up μ 3226 0 0 0) := Bt.up (by decide)
  have k1 := k.bt b1 (by decide)
  have s1 : SgM (up μ 3226 0 0 0) [] := ⟨up_self, fun k hk => absurd hk (Nat.not_lt_zero _)⟩
  refine m_nodeBegin_spec k1 g hx he (m_nodeEnd_spec k1 g hx he ?_)
  obtain ⟨r1, r2⟩ := nb_Rn g hx he
  refine m_walks_spec g 42 60 x _ _ _ [] _ (by omega) (pa_ok g (by clear he; omega)) (by clear he; omega) r1 r2 k1 s1 ?_ (fun μ2 b2 s2 => h μ2 ((b1.mo (by decide)).tr b2) s2)
  have := wk_82 g.w 42 x (nbg (S.1.1) (S.1.2.1) x) (nen (S.1.1) (S.1.2.1) x) (by clear he; omega)
  simp only [List.length_nil]
  omega
