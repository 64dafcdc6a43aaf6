-- the class's critical path
/-- the class's name of a node stands for x -/
def Tx (S : GS) (tr x : Int) : Prop := nd (S.1.1) (S.1.2.1) tr (num (S.1.1) (S.1.2.1) x) = x ∧ 0 ≤ x
theorem Tx_ch {S : GS} (g : GOK S) {tr x : Int} (h : Tx S tr x) {i : Nat} (hi : i < S.1.1) : (nov (S.1.1) (S.1.2.1) i = num (S.1.1) (S.1.2.1) x ∧ S.1.2.1 i 1 = tr) ↔ ab (S.1.1) (S.1.2.1) i = x := by
  have := nd_ch g.w (t := tr) (q := num (S.1.1) (S.1.2.1) x) (by rw [h.1]; have := h.2; omega) hi
  rw [h.1] at this
  exact this
theorem Tx_kid {S : GS} (g : GOK S) {tr x : Int} (h : Tx S tr x) {c : Nat} (hc : c < S.1.1) (hx : ab (S.1.1) (S.1.2.1) c = x) : Tx S tr c := by
  have h2 := (Tx_ch g h hc).mpr hx
  have rc := g.w.r c hc
  have rn := g.1.n
  refine ⟨?_, by omega⟩
  have e : num (S.1.1) (S.1.2.1) (c : Int) = S.1.2.1 c 0 := by unfold num; rw [if_pos (by omega), Int.toNat_natCast]
  rw [e]
  unfold nd
  rw [if_pos (by omega), fnd_at g.w hc, if_neg (by omega), Int.toNat_natCast, if_pos h2.2]
theorem nd_Tx {S : GS} (g : GOK S) {t q : Int} (h : nd (S.1.1) (S.1.2.1) t q ≠ -1) : Tx S t (nd (S.1.1) (S.1.2.1) t q) := by
  have := nd_num g.w h
  have nx := nd_Nx g h
  unfold Nx at nx
  exact ⟨by rw [this], by omega⟩
theorem Tx_Nx {S : GS} (g : GOK S) {tr x : Int} (h : Tx S tr x) : Nx S x := by
  have := nd_Nx g (t := tr) (q := num (S.1.1) (S.1.2.1) x) (by rw [h.1]; have := h.2; omega)
  rw [h.1] at this
  exact this
/-- while a path is followed -/
def PW9 (S : GS) (tr : Int) (μ : Mem) : Prop := CK S μ ∧ (μ 1735 0 0) = J tr
theorem CK.bt {S : GS} {μ μ' : Mem} {js : List Nat} (k : CK S μ) (b : Bt js μ μ') (hj : ∀ j ∈ js, Dp j = true) : CK S μ' := by
  have q : ∀ j, Dp j = false → μ' j = μ j := fun _ z => b.ne hj z
  exact ⟨k.1.bt b hj, k.2.1.ev (q _ rfl) (q _ rfl) (q _ rfl), k.2.2.ev (fun j hj => q j (Dp_lt hj))⟩
theorem PW9.bt {S : GS} {tr : Int} {μ μ' : Mem} {js : List Nat} (k : PW9 S tr μ) (b : Bt js μ μ') (hj : ∀ j ∈ js, Dp j = true) (h1 : 1735 ∉ js) : PW9 S tr μ' := ⟨k.1.bt b hj, by rw [b _ h1]; exact k.2⟩
theorem c_latest_spec {S : GS} {tr : Int} (htr : (-2147483648 ≤ tr ∧ tr ≤ 2147483647)) {μ : Mem} (k : PW9 S tr μ) (g : GOK S) {x f t : Int} (hx : Tx S tr x) (hf : Rn f) (ht : Rn t) {P : Int32 → Mem → Prop} (h : P (J (lat (S.1.1) (S.1.2.1) x f t)) μ) : w5_latestChild_wp μ (J (num (S.1.1) (S.1.2.1) x)) (J f) (J t) P := by
  have rn := g.1.n
  have hf' := hf
  have ht' := ht
  unfold Rn at hf' ht'
  have rnum := num_rg g (Tx_Nx g hx)
  intro R hR
  have e0 : μ 1 0 0 = J (S.1.1) := k.1.1.1.1.1.1
  have s1' : SV μ 0 (S.1.1) (S.1.2.1) := k.1.1.1.1.1
  have etr := k.2
  refine down (Q := fun i => R μ (J (num (S.1.1) (S.1.2.1) x)) (J f) (J t) (J (lss (S.1.1) (S.1.2.1) x f t i).1) (J (lss (S.1.1) (S.1.2.1) x f t i).2.1) (J (lss (S.1.1) (S.1.2.1) x f t i).2.2) (J i)) (S.1.1) (fun i hi ih => ?_)
  apply hR
  unfold w5_latestChild_b12_body
  rcases Nat.lt_or_ge i (S.1.1) with c | c
  rotate_left
  · have e9 : i = S.1.1 := by omega
    subst e9
    simp (disch := omega) only [lJ0, lJ1, lJ2, lJ3, lJ4, lJ5, lJ6, lJ7, lJ8, lJ9, lJ10, lJ30, lJ32, lJ33, lJ39, lJ40, lJ41, lJ45, lJ47, lJ48, lJ51, lJ55, lJ57, lJ58, lJ59, lJ60, lJ64, lJ80, lJ82, lJ99, lJ100, lJ101, lJ123, lJ126, lJ282, lJ342, lJ1000, lJ1100, lJ2394, lJ2736, lJ9999, lJ10000, lJ1000000, lJ100000000, J_add, J_sub, J_mul, J_neg, J_le, J_lt, J_eq, J_in, J_clamp, Int.toNat_natCast, e0]
    exact ⟨fun _ => h, fun c => absurd (Int.le_refl _) c⟩
  have ih := ih c
  have eb := (k.1.2.2.1 i c).1
  have ee := (k.1.2.2.1 i c).2.1
  have rb := be_Rn g.w c
  have rc := cb_Rn g.w c hf
  have re := ce_Rn g.w c ht
  have rl := lss_Rn (x := x) g.w hf ht (Nat.le_of_lt c)
  unfold Rn at rb rc re rl
  rw [lss_succ] at ih
  generalize lss (S.1.1) (S.1.2.1) x f t i = s at ih rl ⊢
  obtain ⟨s1, s2, s3⟩ := s
  dsimp only at rl ⊢
  have j1 : (if J t < J (enn (S.1.1) (S.1.2.1) i) then J t else J (enn (S.1.1) (S.1.2.1) i)) = J (ce (S.1.1) (S.1.2.1) t i) := J_mn (by omega) (by omega)
  have j2 : (if J (bgn (S.1.1) (S.1.2.1) i) < J f then J f else J (bgn (S.1.1) (S.1.2.1) i)) = J (cb (S.1.1) (S.1.2.1) f i) := J_mx (by omega) (by omega)
  have jc : (J (i : Int)).toNatClampNeg = i := J_nat_clamp (by omega)
  simp only [jc, eb, ee, j1, j2]
  have skip : ¬ ((ab (S.1.1) (S.1.2.1) i = x ∧ cb (S.1.1) (S.1.2.1) f i < ce (S.1.1) (S.1.2.1) t i) ∧ (s1 = -1 ∨ s3 < ce (S.1.1) (S.1.2.1) t i ∨ (ce (S.1.1) (S.1.2.1) t i = s3 ∧ (cb (S.1.1) (S.1.2.1) f i < s2 ∨ (cb (S.1.1) (S.1.2.1) f i = s2 ∧ S.1.2.1 i 0 < S.1.2.1 s1.toNat 0))))) → R μ (J (num (S.1.1) (S.1.2.1) x)) (J f) (J t) (J s1) (J s2) (J s3) (J ((i : Int) + 1)) := fun z => by
    unfold lst at ih
    by_cases z1 : ab (S.1.1) (S.1.2.1) i = x ∧ cb (S.1.1) (S.1.2.1) f i < ce (S.1.1) (S.1.2.1) t i
    · rw [if_pos z1, if_neg (fun z2 => z ⟨z1, z2⟩)] at ih
      exact ih
    · rw [if_neg z1] at ih
      exact ih
  have take : (ab (S.1.1) (S.1.2.1) i = x ∧ cb (S.1.1) (S.1.2.1) f i < ce (S.1.1) (S.1.2.1) t i) → (s1 = -1 ∨ s3 < ce (S.1.1) (S.1.2.1) t i ∨ (ce (S.1.1) (S.1.2.1) t i = s3 ∧ (cb (S.1.1) (S.1.2.1) f i < s2 ∨ (cb (S.1.1) (S.1.2.1) f i = s2 ∧ S.1.2.1 i 0 < S.1.2.1 s1.toNat 0)))) → R μ (J (num (S.1.1) (S.1.2.1) x)) (J f) (J t) (J i) (J (cb (S.1.1) (S.1.2.1) f i)) (J (ce (S.1.1) (S.1.2.1) t i)) (J ((i : Int) + 1)) := fun z1 z2 => by
    unfold lst at ih
    rw [if_pos z1, if_pos z2] at ih
    exact ih
  have tch := Tx_ch g hx c
  generalize cb (S.1.1) (S.1.2.1) f i = b9 at skip take rc ⊢
  generalize ce (S.1.1) (S.1.2.1) t i = e9 at skip take re ⊢
  generalize num (S.1.1) (S.1.2.1) x = nx at skip take tch rnum ⊢
  have B1 : _ → _ → w5_latestChild_b157 P R μ (J nx) (J f) (J t) (J s1) (J s2) (J s3) (J i) (J b9) (J e9) (J 1) := fun z1 z2 => by
    unfold w5_latestChild_b157
    exact ⟨fun c => absurd c (by decide), fun _ => by rw [lJ1, J_add]; exact take z1 z2⟩
  have B0 : _ → w5_latestChild_b157 P R μ (J nx) (J f) (J t) (J s1) (J s2) (J s3) (J i) (J b9) (J e9) (J 0) := fun z1 => by
    unfold w5_latestChild_b157
    exact ⟨fun _ => by rw [lJ1, J_add]; exact skip z1, fun c => absurd rfl c⟩
  simp (disch := omega) only [lJ0, lJ1, lJ2, lJ3, lJ4, lJ5, lJ6, lJ7, lJ8, lJ9, lJ10, lJ30, lJ32, lJ33, lJ39, lJ40, lJ41, lJ45, lJ47, lJ48, lJ51, lJ55, lJ57, lJ58, lJ59, lJ60, lJ64, lJ80, lJ82, lJ99, lJ100, lJ101, lJ123, lJ126, lJ282, lJ342, lJ1000, lJ1100, lJ2394, lJ2736, lJ9999, lJ10000, lJ1000000, lJ100000000, J_add, J_sub, J_mul, J_neg, J_le, J_lt, J_eq, J_in, J_clamp, Int.toNat_natCast, e0]
  refine ⟨fun _ => by omega, fun _ => ⟨by omega, by omega, fun c2 => skip (fun z => by omega), fun c2 => ?_⟩⟩
  rw [etr]
  refine c_isChild_spec k.1 g c htr (by omega) rfl (fun c1 => ⟨fun c => absurd c (by decide), fun _ => ?_⟩) (fun c1 => ⟨fun _ => skip (fun z => c1 (tch.mpr z.1.1)), fun c => absurd rfl c⟩)
  have c1 := tch.mp c1
  -- where the ids decide
  have b107 : s1 ≠ -1 → ¬ s3 < e9 → (e9 = s3 → ¬ b9 < s2) → w5_latestChild_b111 P R μ (J nx) (J f) (J t) (J s1) (J s2) (J s3) (J i) (J b9) (J e9) := fun z1 z2 z3 => by
    have ri := g.w.r i c
    have rs := g.w.r s1.toNat (by omega)
    unfold w5_latestChild_b111
    simp (disch := omega) only [lJ0, lJ1, lJ2, lJ3, lJ4, lJ5, lJ6, lJ7, lJ8, lJ9, lJ10, lJ30, lJ32, lJ33, lJ39, lJ40, lJ41, lJ45, lJ47, lJ48, lJ51, lJ55, lJ57, lJ58, lJ59, lJ60, lJ64, lJ80, lJ82, lJ99, lJ100, lJ101, lJ123, lJ126, lJ282, lJ342, lJ1000, lJ1100, lJ2394, lJ2736, lJ9999, lJ10000, lJ1000000, lJ100000000, J_add, J_sub, J_mul, J_neg, J_le, J_lt, J_eq, J_in, J_clamp, Int.toNat_natCast, s1'.1, s1'.i0, s1'.i1, s1'.i2, s1'.i3, s1'.i4, s1'.i5, s1'.i6]
    exact ⟨fun d1 => B0 (fun z => by omega), fun d1 => ⟨fun d2 => B0 (fun z => by omega), fun d2 => ⟨by omega, by omega, fun d3 => B0 (fun z => by omega), fun d3 => B1 ⟨c1, by omega⟩ (Or.inr (Or.inr ⟨d1, Or.inr ⟨d2, by omega⟩⟩))⟩⟩⟩
  refine ⟨fun c3 => B1 ⟨c1, by omega⟩ (Or.inl c3), fun c3 => ⟨fun c4 => B1 ⟨c1, by omega⟩ (Or.inr (Or.inl c4)), fun c4 => ⟨fun c5 => b107 c3 c4 (fun z => absurd z c5), fun c5 => ⟨fun c6 => B1 ⟨c1, by omega⟩ (Or.inr (Or.inr ⟨c5, Or.inl c6⟩)), fun c6 => b107 c3 c4 (fun _ => c6)⟩⟩⟩⟩
/-- the class's rows of segments, and the windows that are open, the first one first -/
def PgM (S : GS) (μ : Mem) (L : List Sg) : Prop := (μ 1729 0 0) = J L.length ∧ ∀ k, k < L.length → μ 1792 0 k = J (num (S.1.1) (S.1.2.1) (sg L k).1) ∧ μ 1856 0 k = J (sg L k).2.1 ∧ μ 1920 0 k = J (sg L k).2.2
def StM (S : GS) (μ : Mem) (K : List Sg) : Prop := (μ 1736 0 0) = J K.length ∧ ∀ k, k < K.length → μ 1984 0 k = J (num (S.1.1) (S.1.2.1) (sg K k).1) ∧ μ 2048 0 k = J (sg K k).2.1 ∧ μ 2112 0 k = J (sg K k).2.2
theorem c_record_spec {S : GS} {μ : Mem} {L : List Sg} (hs : PgM S μ L) (hl : L.length < 82) {x a b : Int} {P : Mem → Prop} (h : ∀ μ', Bt [1792, 1856, 1920, 1729] μ μ' → PgM S μ' (L ++ [(x, a, b)]) → P μ') : w5_record_wp μ (J (num (S.1.1) (S.1.2.1) x)) (J a) (J b) P := by
  obtain ⟨h1, h2⟩ := hs
  unfold w5_record_wp
  rw [h1]
  refine isWithin_spec L.length 82 rfl rfl (by omega) (by decide) (fun _ => ⟨fun c => absurd c (by decide), fun _ => ?_⟩) (fun c => absurd (by omega) c)
  simp (disch := omega) only [lJ0, lJ1, lJ2, lJ3, lJ4, lJ5, lJ6, lJ7, lJ8, lJ9, lJ10, lJ30, lJ32, lJ33, lJ39, lJ40, lJ41, lJ45, lJ47, lJ48, lJ51, lJ55, lJ57, lJ58, lJ59, lJ60, lJ64, lJ80, lJ82, lJ99, lJ100, lJ101, lJ123, lJ126, lJ282, lJ342, lJ1000, lJ1100, lJ2394, lJ2736, lJ9999, lJ10000, lJ1000000, lJ100000000, J_add, J_sub, J_mul, J_neg, J_le, J_lt, J_eq, J_in, J_clamp, Int.toNat_natCast, h1]
  refine ⟨by omega, ?_⟩
  rintro μ2 rfl
  have e2 : up μ 1792 0 L.length (J (num (S.1.1) (S.1.2.1) x)) 1729 0 0 = J L.length := by rw [up_nq (by decide)]; exact h1
  simp (disch := omega) only [lJ0, lJ1, lJ2, lJ3, lJ4, lJ5, lJ6, lJ7, lJ8, lJ9, lJ10, lJ30, lJ32, lJ33, lJ39, lJ40, lJ41, lJ45, lJ47, lJ48, lJ51, lJ55, lJ57, lJ58, lJ59, lJ60, lJ64, lJ80, lJ82, lJ99, lJ100, lJ101, lJ123, lJ126, lJ282, lJ342, lJ1000, lJ1100, lJ2394, lJ2736, lJ9999, lJ10000, lJ1000000, lJ100000000, J_add, J_sub, J_mul, J_neg, J_le, J_lt, J_eq, J_in, J_clamp, Int.toNat_natCast, e2]
  refine ⟨by omega, ?_⟩
  rintro μ4 rfl
  have e4 : up (up μ 1792 0 L.length (J (num (S.1.1) (S.1.2.1) x))) 1856 0 L.length (J a) 1729 0 0 = J L.length := by rw [up_nq (by decide)]; exact e2
  simp (disch := omega) only [lJ0, lJ1, lJ2, lJ3, lJ4, lJ5, lJ6, lJ7, lJ8, lJ9, lJ10, lJ30, lJ32, lJ33, lJ39, lJ40, lJ41, lJ45, lJ47, lJ48, lJ51, lJ55, lJ57, lJ58, lJ59, lJ60, lJ64, lJ80, lJ82, lJ99, lJ100, lJ101, lJ123, lJ126, lJ282, lJ342, lJ1000, lJ1100, lJ2394, lJ2736, lJ9999, lJ10000, lJ1000000, lJ100000000, J_add, J_sub, J_mul, J_neg, J_le, J_lt, J_eq, J_in, J_clamp, Int.toNat_natCast, e4]
  refine ⟨by omega, ?_⟩
  rintro μ6 rfl μ7 rfl
  have e6 : up (up (up μ 1792 0 L.length (J (num (S.1.1) (S.1.2.1) x))) 1856 0 L.length (J a)) 1920 0 L.length (J b) 1729 0 0 = J L.length := by rw [up_nq (by decide)]; exact e4
  simp (disch := omega) only [lJ0, lJ1, lJ2, lJ3, lJ4, lJ5, lJ6, lJ7, lJ8, lJ9, lJ10, lJ30, lJ32, lJ33, lJ39, lJ40, lJ41, lJ45, lJ47, lJ48, lJ51, lJ55, lJ57, lJ58, lJ59, lJ60, lJ64, lJ80, lJ82, lJ99, lJ100, lJ101, lJ123, lJ126, lJ282, lJ342, lJ1000, lJ1100, lJ2394, lJ2736, lJ9999, lJ10000, lJ1000000, lJ100000000, J_add, J_sub, J_mul, J_neg, J_le, J_lt, J_eq, J_in, J_clamp, Int.toNat_natCast, e6]
  refine h _ ((((Bt.up (by decide)).tr (Bt.up (by decide))).tr (Bt.up (by decide))).tr (Bt.up (by decide))) ⟨?_, fun k hk => ?_⟩
  · rw [List.length_append, List.length_singleton]
    exact up_self
  · rw [List.length_append, List.length_singleton] at hk
    rw [up_nq (j' := 1792) (by decide), up_nq (j' := 1856) (by decide), up_nq (j' := 1920) (by decide), up_nq (j' := 1792) (by decide), up_nq (j' := 1856) (by decide), up_nq (j' := 1792) (by decide), up_row, up_row, up_row]
    unfold mset
    by_cases y : k = L.length
    · subst y
      rw [if_pos rfl, if_pos rfl, if_pos rfl, sg_last]
      exact ⟨rfl, rfl, rfl⟩
    · rw [if_neg y, if_neg y, if_neg y, sg_app (by omega)]
      exact h2 k (by omega)
theorem c_enter_spec {S : GS} {μ : Mem} {K : List Sg} (hs : StM S μ K) (hl : K.length < 41) {x a b : Int} {P : Mem → Prop} (h : ∀ μ', Bt [1984, 2048, 2112, 1736] μ μ' → StM S μ' (K ++ [(x, a, b)]) → P μ') : w5_enter_wp μ (J (num (S.1.1) (S.1.2.1) x)) (J a) (J b) P := by
  obtain ⟨h1, h2⟩ := hs
  unfold w5_enter_wp
  rw [h1]
  refine isWithin_spec K.length 41 rfl rfl (by omega) (by decide) (fun _ => ⟨fun c => absurd c (by decide), fun _ => ?_⟩) (fun c => absurd (by omega) c)
  simp (disch := omega) only [lJ0, lJ1, lJ2, lJ3, lJ4, lJ5, lJ6, lJ7, lJ8, lJ9, lJ10, lJ30, lJ32, lJ33, lJ39, lJ40, lJ41, lJ45, lJ47, lJ48, lJ51, lJ55, lJ57, lJ58, lJ59, lJ60, lJ64, lJ80, lJ82, lJ99, lJ100, lJ101, lJ123, lJ126, lJ282, lJ342, lJ1000, lJ1100, lJ2394, lJ2736, lJ9999, lJ10000, lJ1000000, lJ100000000, J_add, J_sub, J_mul, J_neg, J_le, J_lt, J_eq, J_in, J_clamp, Int.toNat_natCast, h1]
  refine ⟨by omega, ?_⟩
  rintro μ2 rfl
  have e2 : up μ 1984 0 K.length (J (num (S.1.1) (S.1.2.1) x)) 1736 0 0 = J K.length := by rw [up_nq (by decide)]; exact h1
  simp (disch := omega) only [lJ0, lJ1, lJ2, lJ3, lJ4, lJ5, lJ6, lJ7, lJ8, lJ9, lJ10, lJ30, lJ32, lJ33, lJ39, lJ40, lJ41, lJ45, lJ47, lJ48, lJ51, lJ55, lJ57, lJ58, lJ59, lJ60, lJ64, lJ80, lJ82, lJ99, lJ100, lJ101, lJ123, lJ126, lJ282, lJ342, lJ1000, lJ1100, lJ2394, lJ2736, lJ9999, lJ10000, lJ1000000, lJ100000000, J_add, J_sub, J_mul, J_neg, J_le, J_lt, J_eq, J_in, J_clamp, Int.toNat_natCast, e2]
  refine ⟨by omega, ?_⟩
  rintro μ4 rfl
  have e4 : up (up μ 1984 0 K.length (J (num (S.1.1) (S.1.2.1) x))) 2048 0 K.length (J a) 1736 0 0 = J K.length := by rw [up_nq (by decide)]; exact e2
  simp (disch := omega) only [lJ0, lJ1, lJ2, lJ3, lJ4, lJ5, lJ6, lJ7, lJ8, lJ9, lJ10, lJ30, lJ32, lJ33, lJ39, lJ40, lJ41, lJ45, lJ47, lJ48, lJ51, lJ55, lJ57, lJ58, lJ59, lJ60, lJ64, lJ80, lJ82, lJ99, lJ100, lJ101, lJ123, lJ126, lJ282, lJ342, lJ1000, lJ1100, lJ2394, lJ2736, lJ9999, lJ10000, lJ1000000, lJ100000000, J_add, J_sub, J_mul, J_neg, J_le, J_lt, J_eq, J_in, J_clamp, Int.toNat_natCast, e4]
  refine ⟨by omega, ?_⟩
  rintro μ6 rfl μ7 rfl
  have e6 : up (up (up μ 1984 0 K.length (J (num (S.1.1) (S.1.2.1) x))) 2048 0 K.length (J a)) 2112 0 K.length (J b) 1736 0 0 = J K.length := by rw [up_nq (by decide)]; exact e4
  simp (disch := omega) only [lJ0, lJ1, lJ2, lJ3, lJ4, lJ5, lJ6, lJ7, lJ8, lJ9, lJ10, lJ30, lJ32, lJ33, lJ39, lJ40, lJ41, lJ45, lJ47, lJ48, lJ51, lJ55, lJ57, lJ58, lJ59, lJ60, lJ64, lJ80, lJ82, lJ99, lJ100, lJ101, lJ123, lJ126, lJ282, lJ342, lJ1000, lJ1100, lJ2394, lJ2736, lJ9999, lJ10000, lJ1000000, lJ100000000, J_add, J_sub, J_mul, J_neg, J_le, J_lt, J_eq, J_in, J_clamp, Int.toNat_natCast, e6]
  refine h _ ((((Bt.up (by decide)).tr (Bt.up (by decide))).tr (Bt.up (by decide))).tr (Bt.up (by decide))) ⟨?_, fun k hk => ?_⟩
  · rw [List.length_append, List.length_singleton]
    exact up_self
  · rw [List.length_append, List.length_singleton] at hk
    rw [up_nq (j' := 1984) (by decide), up_nq (j' := 2048) (by decide), up_nq (j' := 2112) (by decide), up_nq (j' := 1984) (by decide), up_nq (j' := 2048) (by decide), up_nq (j' := 1984) (by decide), up_row, up_row, up_row]
    unfold mset
    by_cases y : k = K.length
    · subst y
      rw [if_pos rfl, if_pos rfl, if_pos rfl, sg_last]
      exact ⟨rfl, rfl, rfl⟩
    · rw [if_neg y, if_neg y, if_neg y, sg_app (by omega)]
      exact h2 k (by omega)
/-- the window on top -/
theorem StM.top {S : GS} {μ : Mem} {K : List Sg} {x f t : Int} (h : StM S μ (K ++ [(x, f, t)])) : μ 1736 0 0 = J ((K.length : Int) + 1) ∧ μ 1984 0 K.length = J (num (S.1.1) (S.1.2.1) x) ∧ μ 2048 0 K.length = J f ∧ μ 2112 0 K.length = J t := by
  obtain ⟨h1, h2⟩ := h
  rw [List.length_append, List.length_singleton] at h1 h2
  have := h2 K.length (by omega)
  rw [sg_last] at this
  exact ⟨h1, this⟩
theorem StM.time {S : GS} {μ : Mem} {K : List Sg} {x f t t' : Int} (h : StM S μ (K ++ [(x, f, t)])) : StM S (up μ 2112 0 K.length (J t')) (K ++ [(x, f, t')]) := by
  obtain ⟨h1, h2⟩ := h
  rw [List.length_append, List.length_singleton] at h1 h2
  refine ⟨by rw [up_nq (by decide), List.length_append, List.length_singleton]; exact h1, fun k hk => ?_⟩
  rw [List.length_append, List.length_singleton] at hk
  have := h2 k hk
  rw [up_nq (j' := 1984) (by decide), up_nq (j' := 2048) (by decide), up_row]
  unfold mset
  by_cases y : k = K.length
  · subst y
    rw [if_pos rfl, sg_last]
    rw [sg_last] at this
    exact ⟨this.1, this.2.1, rfl⟩
  · rw [if_neg y, sg_app (by omega)]
    rw [sg_app (by omega)] at this
    exact this
theorem StM.pop {S : GS} {μ : Mem} {K : List Sg} {y : Sg} (h : StM S μ (K ++ [y])) : StM S (up μ 1736 0 0 (J K.length)) K := by
  obtain ⟨h1, h2⟩ := h
  refine ⟨up_self, fun k hk => ?_⟩
  have := h2 k (by rw [List.length_append, List.length_singleton]; omega)
  rw [up_nq (j' := 1984) (by decide), up_nq (j' := 2048) (by decide), up_nq (j' := 2112) (by decide)]
  rw [sg_app hk] at this
  exact this
theorem StM.bt {S : GS} {μ μ' : Mem} {K : List Sg} {js : List Nat} (h : StM S μ K) (b : Bt js μ μ') (h1 : 1736 ∉ js) (h2 : 1984 ∉ js) (h3 : 2048 ∉ js) (h4 : 2112 ∉ js) : StM S μ' K := ⟨by rw [b _ h1]; exact h.1, fun k hk => by rw [b _ h2, b _ h3, b _ h4]; exact h.2 k hk⟩
theorem PgM.bt {S : GS} {μ μ' : Mem} {K : List Sg} {js : List Nat} (h : PgM S μ K) (b : Bt js μ μ') (h1 : 1729 ∉ js) (h2 : 1792 ∉ js) (h3 : 1856 ∉ js) (h4 : 1920 ∉ js) : PgM S μ' K := ⟨by rw [b _ h1]; exact h.1, fun k hk => by rw [b _ h2, b _ h3, b _ h4]; exact h.2 k hk⟩
