def FJ : List Nat := [1792, 1856, 1920, 1729, 1984, 2048, 2112, 1736]
theorem c_goBack_spec {S : GS} {tr : Int} (htr : (-2147483648 ≤ tr ∧ tr ≤ 2147483647)) {μ : Mem} (k : PW9 S tr μ) (g : GOK S) {K L : List Sg} {x f t : Int} (hx : Tx S tr x) (hf : Rn f) (ht : Rn t) (hft : f < t) (hs : StM S μ (K ++ [(x, f, t)])) (hp : PgM S μ L) (hK : K.length ≤ 39 ∨ (K.length ≤ 40 ∧ lat (S.1.1) (S.1.2.1) x f t = -1)) (hL : L.length < 82) {P : Mem → Prop}
    (h1 : lat (S.1.1) (S.1.2.1) x f t = -1 → ∀ μ', Bt [1792, 1856, 1920, 1729, 1984, 2048, 2112, 1736] μ μ' → StM S μ' (K ++ [(x, f, f)]) → PgM S μ' (L ++ [(x, f, t)]) → P μ')
    (h2 : ∀ c : Nat, lat (S.1.1) (S.1.2.1) x f t = c → c < S.1.1 → ab (S.1.1) (S.1.2.1) c = x → cb (S.1.1) (S.1.2.1) f c < ce (S.1.1) (S.1.2.1) t c → ∀ μ', Bt [1792, 1856, 1920, 1729, 1984, 2048, 2112, 1736] μ μ' → StM S μ' ((K ++ [(x, f, cb (S.1.1) (S.1.2.1) f c)]) ++ [((c : Int), cb (S.1.1) (S.1.2.1) f c, ce (S.1.1) (S.1.2.1) t c)]) → PgM S μ' (L ++ (if t ≤ ce (S.1.1) (S.1.2.1) t c then [] else [(x, ce (S.1.1) (S.1.2.1) t c, t)])) → P μ') : w5_goBack_wp μ (J (K.length : Int)) P := by
  have rn := g.1.n
  obtain ⟨t0, t1, t2, t3⟩ := hs.top
  have hf' := hf
  have ht' := ht
  unfold Rn at hf' ht'
  unfold w5_goBack_wp
  have jc : (J (K.length : Int)).toNatClampNeg = K.length := J_nat_clamp (by omega)
  simp only [jc, t1, t2, t3]
  have vi : vp_in (J (K.length : Int)) 41 := (J_in (by omega)).mpr (by omega)
  refine ⟨vi, vi, vi, ?_⟩
  refine c_latest_spec htr k g hx hf ht ?_
  rcases lat_cs (S.1.1) (S.1.2.1) x f t with el | ⟨c, el, hc, e1, e2⟩
  · rw [el]
    simp (disch := omega) only [lJ0, lJ1, lJ2, lJ3, lJ4, lJ5, lJ6, lJ7, lJ8, lJ9, lJ10, lJ30, lJ32, lJ33, lJ39, lJ40, lJ41, lJ45, lJ47, lJ48, lJ51, lJ55, lJ57, lJ58, lJ59, lJ60, lJ64, lJ80, lJ82, lJ99, lJ100, lJ101, lJ123, lJ126, lJ282, lJ342, lJ1000, lJ1100, lJ2394, lJ2736, lJ9999, lJ10000, lJ1000000, lJ100000000, J_add, J_sub, J_mul, J_neg, J_le, J_lt, J_eq, J_in, J_clamp, Int.toNat_natCast]
    refine ⟨fun z => absurd trivial z, fun _ => ?_⟩
    refine c_record_spec hp hL (fun μ2 b2 p2 => ?_)
    refine ⟨by omega, ?_⟩
    rintro μ3 rfl
    have s2 := hs.bt b2 (by decide) (by decide) (by decide) (by decide)
    have b3 : Bt [2112] μ2 (up μ2 2112 0 K.length (J f)) := Bt.up (by decide)
    exact h1 el _ ((b2.mo (by decide)).tr (b3.mo (by decide))) s2.time (p2.bt b3 (by decide) (by decide) (by decide) (by decide))
  · rw [el]
    have rq := be_Rn g.w hc
    have rc := cb_Rn g.w hc hf
    have re := ce_Rn g.w hc ht
    unfold Rn at rq rc re
    have eb := (k.1.2.2.1 c hc).1
    have ee := (k.1.2.2.1 c hc).2.1
    have j1 : (if J t < J (enn (S.1.1) (S.1.2.1) c) then J t else J (enn (S.1.1) (S.1.2.1) c)) = J (ce (S.1.1) (S.1.2.1) t c) := J_mn (by omega) (by omega)
    have j2 : (if J (bgn (S.1.1) (S.1.2.1) c) < J f then J f else J (bgn (S.1.1) (S.1.2.1) c)) = J (cb (S.1.1) (S.1.2.1) f c) := J_mx (by omega) (by omega)
    have jq : (J (c : Int)).toNatClampNeg = c := J_nat_clamp (by omega)
    simp only [jq, eb, ee, j1, j2]
    have hK2 : K.length ≤ 39 := by omega
    have s0 : ∀ μ2 L2, Bt [1792, 1856, 1920, 1729] μ μ2 → PgM S μ2 L2 → L2 = L ++ (if t ≤ ce (S.1.1) (S.1.2.1) t c then [] else [(x, ce (S.1.1) (S.1.2.1) t c, t)]) → w5_goBack_b115 P μ2 (J (K.length : Int)) (J (c : Int)) (J (cb (S.1.1) (S.1.2.1) f c)) (J (ce (S.1.1) (S.1.2.1) t c)) := by
      intro μ2 L2 b2 p2 hL2
      unfold w5_goBack_b115
      refine ⟨vi, ?_⟩
      rw [jc]
      rintro μ3 rfl
      have s2 := hs.bt b2 (by decide) (by decide) (by decide) (by decide)
      have b3 : Bt [2112] μ2 (up μ2 2112 0 K.length (J (cb (S.1.1) (S.1.2.1) f c))) := Bt.up (by decide)
      have s3 := s2.time (t' := cb (S.1.1) (S.1.2.1) f c)
      have p3 := p2.bt b3 (by decide) (by decide) (by decide) (by decide)
      have k3 := (k.bt b2 (by decide) (by decide)).bt b3 (by decide) (by decide)
      have i3 : up μ2 2112 0 K.length (J (cb (S.1.1) (S.1.2.1) f c)) 128 0 c = J (num (S.1.1) (S.1.2.1) (c : Int)) := by
        unfold num
        rw [if_pos (by omega), Int.toNat_natCast]
        exact SV.i0 k3.1.1.1.1.1 c hc
      rw [jq, i3]
      refine ⟨(J_in (by omega)).mpr (by omega), ?_⟩
      refine c_enter_spec s3 (by rw [List.length_append, List.length_singleton]; omega) (fun μ4 b4 s4 => ?_)
      refine h2 c el hc e1 e2 μ4 (((b2.mo (by decide)).tr (b3.mo (by decide))).tr (b4.mo (by decide))) s4 ?_
      rw [← hL2]
      exact p3.bt b4 (by decide) (by decide) (by decide) (by decide)
    simp (disch := omega) only [lJ0, lJ1, lJ2, lJ3, lJ4, lJ5, lJ6, lJ7, lJ8, lJ9, lJ10, lJ30, lJ32, lJ33, lJ39, lJ40, lJ41, lJ45, lJ47, lJ48, lJ51, lJ55, lJ57, lJ58, lJ59, lJ60, lJ64, lJ80, lJ82, lJ99, lJ100, lJ101, lJ123, lJ126, lJ282, lJ342, lJ1000, lJ1100, lJ2394, lJ2736, lJ9999, lJ10000, lJ1000000, lJ100000000, J_add, J_sub, J_mul, J_neg, J_le, J_lt, J_eq, J_in, J_clamp, Int.toNat_natCast]
    refine ⟨fun _ => ⟨by omega, by omega, fun c2 => ?_, fun c2 => ?_⟩, fun z => by omega⟩
    · exact s0 μ L Bt.rf hp (by rw [if_pos c2, List.append_nil])
    · refine c_record_spec hp hL (fun μ2 b2 p2 => ?_)
      exact s0 μ2 _ b2 p2 (by rw [if_neg c2])
/-- turns of the loop -/
def tk (n : Nat) (w : View) : Nat → Int → Int → Int → Nat
  | 0, _, _, _ => 0
  | d + 1, x, f, t => if t ≤ f then 1 else if lat n w x f t = -1 then 2 else 1 + (tk n w d (lat n w x f t) (cb n w f (lat n w x f t).toNat) (ce n w t (lat n w x f t).toNat) + tk n w d x f (cb n w f (lat n w x f t).toNat))
theorem tk_len {n : Nat} {w : View} : ∀ (d : Nat) (x f t : Int), tk n w d x f t ≤ 3 * (en n w d x f t).length + 2 := by
  intro d
  induction d with
  | zero => intro x f t; exact Nat.zero_le _
  | succ d ih =>
    intro x f t
    unfold tk en
    by_cases c1 : t ≤ f
    · rw [if_pos c1, if_pos c1]; simp
    rw [if_neg c1, if_neg c1]
    by_cases c2 : lat n w x f t = -1
    · rw [if_pos c2, if_pos c2]; simp
    rw [if_neg c2, if_neg c2]
    have a := ih (lat n w x f t) (cb n w f (lat n w x f t).toNat) (ce n w t (lat n w x f t).toNat)
    have b := ih x f (cb n w f (lat n w x f t).toNat)
    rw [List.length_cons, List.length_append]
    omega
/-- how many windows lie on a window's way -/
def dz (n : Nat) (w : View) (x : Int) : Nat := if x < 40 then dp n w x.toNat + 1 else 0
theorem dz_kid {S : GS} (g : GOK S) {x : Int} (hx : 0 ≤ x) {c : Nat} (hc : c < S.1.1) (e : ab (S.1.1) (S.1.2.1) c = x) : dz (S.1.1) (S.1.2.1) c = dz (S.1.1) (S.1.2.1) x + 1 ∧ dz (S.1.1) (S.1.2.1) c ≤ 40 := by
  have rn := g.1.n
  have r := dp_lt g.w hc
  have de := dp_eq g.w hc
  have rt := tp_rg (w := S.1.2.1) hc
  unfold dz
  rw [if_pos (by omega), Int.toNat_natCast]
  rcases ab_tp g.w hc with ⟨a1, a2, a3⟩ | ⟨a1, a2, a3⟩
  · rw [if_neg (by omega)] at de
    rw [if_pos (by omega), show x.toNat = (tp (S.1.1) (S.1.2.1) c).toNat by omega]
    omega
  · rw [if_pos (by omega)] at de
    rw [if_neg (by omega)]
    omega
theorem c_loop_spec {S : GS} (g : GOK S) {tr : Int} (htr : (-2147483648 ≤ tr ∧ tr ≤ 2147483647)) {P : Mem → Prop} {R : Mem → Int32 → Prop} (hR : ∀ (μ : Mem) (l3 : Int32), w5_follow_b40_body P R μ l3 → R μ l3) : ∀ (d : Nat) (x f t : Int) (μ : Mem) (K L : List Sg) (s : Nat), okw (S.1.1) (S.1.2.1) d x f t → Tx S tr x → Rn f → Rn t → PW9 S tr μ → StM S μ (K ++ [(x, f, t)]) → PgM S μ L → K.length ≤ dz (S.1.1) (S.1.2.1) x → dz (S.1.1) (S.1.2.1) x ≤ 40 → s + tk (S.1.1) (S.1.2.1) d x f t ≤ 122 → L.length + (wk (S.1.1) (S.1.2.1) d x f t).length ≤ 81 → (∀ μ', Bt [1792, 1856, 1920, 1729, 1984, 2048, 2112, 1736] μ μ' → StM S μ' K → PgM S μ' (L ++ wk (S.1.1) (S.1.2.1) d x f t) → R μ' (J ((s + tk (S.1.1) (S.1.2.1) d x f t : Nat) : Int))) → R μ (J (s : Int)) := by
  intro d
  induction d with
  | zero => intro x f t μ K L s ok; exact ok.elim
  | succ d ih =>
    intro x f t μ K L s ok hx hf ht k hs hp hK hdz hsl hL fin
    have rn := g.1.n
    have hf' := hf
    have ht' := ht
    unfold Rn at hf' ht'
    have ok : f < t → lat (S.1.1) (S.1.2.1) x f t ≠ -1 → _ := ok
    unfold wk at hL fin
    unfold tk at hsl fin
    -- a turn: the window on top ends, or goes back
    have turn : ∀ (μ : Mem) (t : Int) (s : Nat), s ≤ 121 → Rn t → StM S μ (K ++ [(x, f, t)]) → (t ≤ f → ∀ μ', μ' = up μ 1736 0 0 (J (K.length : Int)) → R μ' (J ((s + 1 : Nat) : Int))) → (¬ t ≤ f → w5_goBack_wp μ (J (K.length : Int)) (fun μ14 => R μ14 (J ((s + 1 : Nat) : Int)))) → R μ (J (s : Int)) := by
      intro μ t s hs1 ht hs h1 h2
      have ht' := ht
      unfold Rn at ht'
      obtain ⟨t0, t1, t2, t3⟩ := hs.top
      apply hR
      unfold w5_follow_b40_body
      have eo : ((K.length : Int) + 1) - 1 = (K.length : Int) := by omega
      simp (disch := omega) only [lJ0, lJ1, lJ2, lJ3, lJ4, lJ5, lJ6, lJ7, lJ8, lJ9, lJ10, lJ30, lJ32, lJ33, lJ39, lJ40, lJ41, lJ45, lJ47, lJ48, lJ51, lJ55, lJ57, lJ58, lJ59, lJ60, lJ64, lJ80, lJ82, lJ99, lJ100, lJ101, lJ123, lJ126, lJ282, lJ342, lJ1000, lJ1100, lJ2394, lJ2736, lJ9999, lJ10000, lJ1000000, lJ100000000, J_add, J_sub, J_mul, J_neg, J_le, J_lt, J_eq, J_in, J_clamp, Int.toNat_natCast, t0, eo]
      refine ⟨fun c => by omega, fun _ => ?_⟩
      refine isWithin_spec K.length 41 rfl rfl (by omega) (by decide) (fun _ => ⟨fun c => absurd c (by decide), fun _ => ?_⟩) (fun c => absurd (by omega) c)
      simp (disch := omega) only [lJ0, lJ1, lJ2, lJ3, lJ4, lJ5, lJ6, lJ7, lJ8, lJ9, lJ10, lJ30, lJ32, lJ33, lJ39, lJ40, lJ41, lJ45, lJ47, lJ48, lJ51, lJ55, lJ57, lJ58, lJ59, lJ60, lJ64, lJ80, lJ82, lJ99, lJ100, lJ101, lJ123, lJ126, lJ282, lJ342, lJ1000, lJ1100, lJ2394, lJ2736, lJ9999, lJ10000, lJ1000000, lJ100000000, J_add, J_sub, J_mul, J_neg, J_le, J_lt, J_eq, J_in, J_clamp, Int.toNat_natCast, t0, eo, t2, t3]
      exact ⟨by omega, by omega, fun c => h1 c, fun c => h2 c⟩
    by_cases c1 : t ≤ f
    · rw [if_pos c1] at hsl hL fin
      rw [if_pos c1] at fin
      refine turn μ t s (by omega) ht hs (fun _ μ' e => ?_) (fun z => absurd c1 z)
      subst e
      have b : Bt [1736] μ (up μ 1736 0 0 (J (K.length : Int))) := Bt.up (by decide)
      exact fin _ (b.mo (by decide)) hs.pop (by rw [List.append_nil]; exact hp.bt b (by decide) (by decide) (by decide) (by decide))
    rw [if_neg c1] at hsl hL fin
    rw [if_neg c1] at fin
    rcases lat_cs (S.1.1) (S.1.2.1) x f t with el | ⟨c, el, hc, e1, e2⟩
    · rw [if_pos el] at hsl hL fin
      rw [if_pos el] at fin
      refine turn μ t s (by omega) ht hs (fun z => absurd z c1) (fun _ => ?_)
      refine c_goBack_spec htr k g hx hf ht (by omega) hs hp (Or.inr ⟨by omega, el⟩) (by simp at hL; omega) (fun _ μ2 b2 s2 p2 => ?_) (fun c ec => absurd (el.symm.trans ec) (by omega))
      refine turn μ2 f (s + 1) (by omega) hf s2 (fun _ μ' e => ?_) (fun z => absurd (Int.le_refl _) z)
      subst e
      have b : Bt [1736] μ2 (up μ2 1736 0 0 (J (K.length : Int))) := Bt.up (by decide)
      exact fin _ (b2.tr (b.mo (by decide))) s2.pop (p2.bt b (by decide) (by decide) (by decide) (by decide))
    · have hne : ¬ lat (S.1.1) (S.1.2.1) x f t = -1 := by omega
      rw [if_neg hne] at hsl hL fin
      rw [if_neg hne] at fin
      obtain ⟨ok1, ok2⟩ := ok (by omega) (by omega)
      rw [el, Int.toNat_natCast] at hsl hL fin ok1 ok2
      have rc := cb_Rn g.w hc hf
      have re := ce_Rn g.w hc ht
      have dk := dz_kid g hx.2 hc e1
      refine turn μ t s (by omega) ht hs (fun z => absurd z c1) (fun _ => ?_)
      refine c_goBack_spec htr k g hx hf ht (by omega) hs hp (Or.inl (by omega)) ?_ (fun z => absurd (el.symm.trans z) (by omega)) (fun c' ec hc' ex' ec' μ2 b2 s2 p2 => ?_)
      · rw [List.length_append, List.length_append] at hL
        omega
      · have : c' = c := by omega
        subst this
        rw [List.length_append, List.length_append] at hL
        have k2 := k.bt b2 (by decide) (by decide)
        refine ih c' (cb (S.1.1) (S.1.2.1) f c') (ce (S.1.1) (S.1.2.1) t c') μ2 (K ++ [(x, f, cb (S.1.1) (S.1.2.1) f c')]) _ (s + 1) ok1 (Tx_kid g hx hc e1) rc re k2 s2 p2 (by rw [List.length_append, List.length_singleton]; omega) (by omega) (by omega) (by rw [List.length_append]; omega) (fun μ3 b3 s3 p3 => ?_)
        have k3 := k2.bt b3 (by decide) (by decide)
        refine ih x f (cb (S.1.1) (S.1.2.1) f c') μ3 K _ _ ok2 hx hf rc k3 s3 p3 hK hdz (by omega) (by rw [List.length_append, List.length_append]; omega) (fun μ4 b4 s4 p4 => ?_)
        have := fin μ4 ((b2.tr b3).tr b4) s4 (by rw [← List.append_assoc, ← List.append_assoc]; exact p4)
        rw [show s + (1 + (tk (S.1.1) (S.1.2.1) d c' (cb (S.1.1) (S.1.2.1) f c') (ce (S.1.1) (S.1.2.1) t c') + tk (S.1.1) (S.1.2.1) d x f (cb (S.1.1) (S.1.2.1) f c'))) = s + 1 + tk (S.1.1) (S.1.2.1) d c' (cb (S.1.1) (S.1.2.1) f c') (ce (S.1.1) (S.1.2.1) t c') + tk (S.1.1) (S.1.2.1) d x f (cb (S.1.1) (S.1.2.1) f c') by omega] at this
        exact this
theorem c_follow_spec {S : GS} {μ : Mem} (k : CK S μ) (g : GOK S) {t q : Int} (ht : (-2147483648 ≤ t ∧ t ≤ 2147483647)) (hq : (-2147483648 ≤ q ∧ q ≤ 2147483647)) (hn : nd (S.1.1) (S.1.2.1) t q ≠ -1) {P : Mem → Prop} (h : ∀ μ', FrC μ μ' → CK S μ' → PgM S μ' (pa (S.1.1) (S.1.2.1) (nd (S.1.1) (S.1.2.1) t q)) → P μ') : w5_follow_wp μ (J t) (J q) P := by
  have rn := g.1.n
  have rlen := hl_len g
  unfold w5_follow_wp
  rintro μ1 rfl μ2 rfl μ3 rfl
  have b3 : Bt [1735, 1729, 1736] μ (up (up (up μ 1735 0 0 (J t)) 1729 0 0 0) 1736 0 0 0) := ((Bt.up (by decide)).tr (Bt.up (by decide))).tr (Bt.up (by decide))
  have k3 : PW9 S t (up (up (up μ 1735 0 0 (J t)) 1729 0 0 0) 1736 0 0 0) := ⟨k.bt b3 (by decide), by rw [up_nq (j' := 1735) (by decide), up_nq (j' := 1735) (by decide)]; exact up_self⟩
  have s3 : StM S (up (up (up μ 1735 0 0 (J t)) 1729 0 0 0) 1736 0 0 0) [] := ⟨up_self, fun k hk => absurd hk (Nat.not_lt_zero _)⟩
  have p3 : PgM S (up (up (up μ 1735 0 0 (J t)) 1729 0 0 0) 1736 0 0 0) [] := ⟨by rw [up_nq (j' := 1729) (by decide)]; exact up_self, fun k hk => absurd hk (Nat.not_lt_zero _)⟩
  generalize up (up (up μ 1735 0 0 (J t)) 1729 0 0 0) 1736 0 0 0 = μ3 at b3 k3 s3 p3 ⊢
  refine c_nodeBegin_spec k3.1 g ht hq hn (c_nodeEnd_spec k3.1 g ht hq hn ?_)
  have nx := nd_Nx g hn
  have kid := nd_kid g hn
  have tx := nd_Tx g hn
  have hnum := nd_num g.w hn
  obtain ⟨r1, r2⟩ := nb_Rn g nx kid
  clear kid
  unfold pa at h
  generalize nd (S.1.1) (S.1.2.1) t q = x at *
  rw [← hnum]
  refine c_enter_spec s3 (by simp) (fun μ4 b4 s4 => ?_)
  intro R hR
  have k4 := k3.bt b4 (by decide) (by decide)
  have p4 := p3.bt b4 (by decide) (by decide) (by decide) (by decide)
  have l1 := tk_len (n := S.1.1) (w := S.1.2.1) 42 x (nbg (S.1.1) (S.1.2.1) x) (nen (S.1.1) (S.1.2.1) x)
  have l2 := en_len g.w 42 x (nbg (S.1.1) (S.1.2.1) x) (nen (S.1.1) (S.1.2.1) x) tx.2
  have l3 := wk_82 g.w 42 x (nbg (S.1.1) (S.1.2.1) x) (nen (S.1.1) (S.1.2.1) x) tx.2
  refine c_loop_spec g ht hR 42 x _ _ μ4 [] [] 0 (pa_ok g tx.2) tx r1 r2 k4 s4 p4 (Nat.zero_le _) ?_ (by omega) (by simp only [List.length_nil]; omega) (fun μ5 b5 s5 p5 => ?_)
  · unfold dz
    split
    · unfold Nx at nx
      have := dp_lt g.w (i := x.toNat) (by omega)
      omega
    · omega
  · apply hR
    unfold w5_follow_b40_body
    have e5 : μ5 1736 0 0 = J 0 := s5.1
    simp (disch := omega) only [lJ0, lJ1, lJ2, lJ3, lJ4, lJ5, lJ6, lJ7, lJ8, lJ9, lJ10, lJ30, lJ32, lJ33, lJ39, lJ40, lJ41, lJ45, lJ47, lJ48, lJ51, lJ55, lJ57, lJ58, lJ59, lJ60, lJ64, lJ80, lJ82, lJ99, lJ100, lJ101, lJ123, lJ126, lJ282, lJ342, lJ1000, lJ1100, lJ2394, lJ2736, lJ9999, lJ10000, lJ1000000, lJ100000000, J_add, J_sub, J_mul, J_neg, J_le, J_lt, J_eq, J_in, J_clamp, Int.toNat_natCast, e5]
    refine ⟨fun z => by omega, fun _ => ?_⟩
    have fr : FrC μ μ5 := ((b3.frC (by decide)).tr (b4.frC (by decide))).tr (b5.frC (by decide))
    exact isWithin_spec (0 - 1) 41 rfl rfl (by omega) (by decide) (fun c => absurd c (by omega)) (fun c => ⟨fun _ => h μ5 fr (k4.bt b5 (by decide) (by decide)).1 p5, fun c => absurd rfl c⟩)
