-- the reference's read()
theorem MB.mkI {S : GS} {μ μ' : Mem} {l : List Int} {e : Int} (h : MB S μ) (b : Bt [3210] μ μ') (hi : MIn μ' l) (he : μ 3211 0 0 = J e) : MB (setI S l e) μ' := by
  have q : ∀ j, j ≠ 3210 → μ' j = μ j := fun j hj => b j (by simpa using hj)
  obtain ⟨h1, h2, h3, h4, h5, h6⟩ := h
  refine ⟨h1.ev (q _ (by decide)), ⟨h2.1, by rw [q _ (by decide)]; exact h2.2.1, fun j hj => by have := h2.2.2 j hj; rw [← q 3456 (by decide)] at this; exact this⟩, ?_, fun k p hk hp => by rw [q _ (by decide)]; exact h4 k p hk hp, hi, by show μ' 3211 0 0 = _; rw [q _ (by decide)]; exact he⟩
  obtain ⟨t, hs, v, mm, i, e⟩ := S
  cases v with
  | none => show μ' 3206 0 0 = _; rw [q _ (by decide)]; exact h3
  | some s => exact ⟨by rw [q _ (by decide)]; exact h3.1, h3.2.ev (q _ (by decide))⟩
abbrev RDp : List Nat := [3264, 3392, 3210, 3230, 3231, 4544]
theorem MI.mkR {S : GS} {μ μ' : Mem} {l : List Int} (h : MI S μ) (b : Bt RDp μ μ') (h1' : MW (μ' 3264 0) (S.1)) (hi : MIn μ' l) : MI (setI S l (S.2.2.2.2.2)) μ' := by
  have q : ∀ j, j ∉ RDp → μ' j = μ j := fun j hj => b j hj
  obtain ⟨⟨h1, h2, h3, h4, h5, h6⟩, hw⟩ := h
  refine ⟨⟨h1', ⟨h2.1, by rw [q _ (by decide)]; exact h2.2.1, fun j hj => by have := h2.2.2 j hj; rw [← q 3456 (by decide)] at this; exact this⟩, ?_, fun k p hk hp => by rw [q _ (by decide)]; exact h4 k p hk hp, hi, by show μ' 3211 0 0 = _; rw [q _ (by decide)]; exact h6⟩, ?_⟩
  · obtain ⟨t, hs, v, mm, i, e⟩ := S
    cases v with
    | none => show μ' 3206 0 0 = _; rw [q _ (by decide)]; exact h3
    | some s => exact ⟨by rw [q _ (by decide)]; exact h3.1, h3.2.ev (q _ (by decide))⟩
  · rcases hw with hw | ⟨w1, w2, w3⟩
    · exact Or.inl (by rw [q _ (by decide)]; exact hw)
    · exact Or.inr ⟨by rw [q _ (by decide)]; exact w1, w2.ev (q _ (by decide)) (q _ (by decide)) (q _ (by decide)), w3.ev (q _ (by decide)) (q _ (by decide)) (q _ (by decide)) (q _ (by decide)) (q _ (by decide))⟩
theorem MW.rowK {f : Ar} {s : St} {r : Row} (hr : r = rw7 (r 1) (r 0) (r 2) (r 3) (r 4) (r 5) (r 6)) (h : MW f ((sadd s (rw7 (r 1) (r 0) (r 2) (r 3) (r 4) (r 5) 0)).1, wput (sadd s (rw7 (r 1) (r 0) (r 2) (r 3) (r 4) (r 5) 0)).2.1 s.1 6 (r 6), (sadd s (rw7 (r 1) (r 0) (r 2) (r 3) (r 4) (r 5) 0)).2.2)) : MW f (sadd s r) := by
  obtain ⟨h1, h2, h3, h4⟩ := h
  refine ⟨h1, h2, fun i hi c hc => ?_, h4⟩
  rw [h3 i hi c hc]
  congr 1
  dsimp only
  rw [wput_at]
  unfold sadd
  dsimp only
  unfold wset
  by_cases y : i = s.1
  · simp only [if_pos y]
    by_cases z : c = 6
    · rw [if_pos ⟨y, z⟩, z]
    · rw [if_neg (fun x => z x.2)]
      have : c = 0 ∨ c = 1 ∨ c = 2 ∨ c = 3 ∨ c = 4 ∨ c = 5 := by omega
      rcases this with rfl | rfl | rfl | rfl | rfl | rfl <;> rfl
  · rw [if_neg y, if_neg (fun x => y x.1), if_neg y]
theorem m_read {S : GS} {μ : Mem} (hm : MI S μ) (g : GOK S) {P : Int32 → Mem → Prop} (h : MRes J (op_read S) μ P) : w9_read_wp μ P := by
  unfold op_read at h
  unfold w9_read_wp
  have rn := g.1.n
  have rl := g.1.l
  have pr := prs_rg (l := S.2.2.2.2.1) 80 0 (Nat.zero_le _)
  have r80 := g.ch.1
  have ac := adl_can (prs (S.2.2.2.2.1) 80 0).2 (S.1) rn
  rintro μ1 rfl
  have k1 : MI S (thr μ 0) := hm.thr
  have t1 : thr μ 0 3201 0 0 = J 0 := thr_w
  have f1 : FrM μ (thr μ 0) := thr_fr
  rw [show up μ 3201 0 0 0 = thr μ 0 from rfl]
  generalize thr μ 0 = μ1 at *
  have i1 : MIn μ1 (S.2.2.2.2.1) := k1.1.2.2.2.2.1
  refine m_isText_spec (l := S.2.2.2.2.1) i1.1 i1.2 g.ch (fun μ2 b2 m2 => ?_)
  cases hb : (prs (S.2.2.2.2.1) 80 0).1.1 with
  | false =>
    rw [if_neg (by rw [hb]; decide)] at h
    refine ⟨fun z => absurd rfl z, fun _ => ?_⟩
    rintro μ3 rfl
    rintro μ4 rfl
    rw [m2.2.2.1]
    have eb : Bt [3210, 3584, 3211, 3201, 3230, 3231, 4544] μ1 (up (up μ2 3211 0 0 (J (prs (S.2.2.2.2.1) 80 0).1.2)) 3210 0 0 0) := ((b2.mo (by decide)).tr (Bt.up (by decide))).tr (Bt.up (by decide))
    exact m_fails rfl h (f1.tr (eb.frM (by decide))) (k1.mkI eb ⟨up_self, fun q hq => absurd hq (Nat.not_lt_zero _)⟩ (by rw [up_nq (j := 3210) (j' := 3211) (by decide), up_self]))
  | true =>
    rw [if_pos hb] at h
    refine ⟨fun _ => ?_, fun z => absurd z j10⟩
    have k2 : MI S μ2 := k1.bt b2 (by decide)
    refine frames_spec' k2.1 g (fun μ3 b3 k3 mf => ?_)
    rintro μ4 rfl
    have m4 : MT (S.2.2.2.2.1) (true, 0) (up μ3 3230 0 0 0) := by
      have m3 : MT (S.2.2.2.2.1) (prs (S.2.2.2.2.1) 80 0).1 μ3 := m2.fr (b3 _ (by decide)) (b3 _ (by decide)) (b3 _ (by decide)) (b3 _ (by decide))
      have := m3.spot (q := 0)
      rw [hb] at this
      exact this
    have k4 : MB S (up μ3 3230 0 0 0) := k3.bt (js := [3230]) (Bt.up (by decide)) (by decide)
    have f4 : MW (up μ3 3230 0 0 0 3392 0) (S.1) := by rw [up_nq (by decide)]; exact mf
    have b4 : Bt RDp μ1 (up μ3 3230 0 0 0) := ((b2.mo (by decide)).tr (b3.mo (by decide))).tr (Bt.up (by decide))
    generalize up μ3 3230 0 0 0 = μ4 at *
    clear b2 b3 k2 k3 mf m2 i1
    intro R hR
    -- all spans were added
    have good : ∀ (s : St) (μ' : Mem) (p : Nat), adl (S.1) (prs (S.2.2.2.2.1) 80 0).2 = some s → Bt RDp μ1 μ' → MB (setT S s) μ' → MW (μ' 3392 0) (S.1) → MT (S.2.2.2.2.1) (true, p) μ' → (S.2.2.2.2.1).length ≤ p → p ≤ 80 → R μ' (J (prs (S.2.2.2.2.1) 80 0).2.length) (J 1) := by
      intro s μ' p ea b kb mf m hp h80
      rw [ea] at h
      apply hR
      unfold w9_read_b44_body
      have e : w9_read_b184 P μ' (J (prs (S.2.2.2.2.1) 80 0).2.length) (J 1) := by
        unfold w9_read_b184
        rintro μ6 rfl
        refine ⟨fun z => absurd z j10, fun _ => ?_⟩
        have b6 : Bt [3210] μ' (up μ' 3210 0 0 0) := Bt.up (by decide)
        have kb2 : MB (setT (setI S [] (S.2.2.2.2.2)) s) (up μ' 3210 0 0 0) := MB.mkI (S := setT S s) kb b6 ⟨up_self, fun q hq => absurd hq (Nat.not_lt_zero _)⟩ kb.2.2.2.2.2
        refine remembers_spec' kb2 (by rw [up_nq (by decide)]; exact mf) (g.setIK g.2.2.2.2.2.2.2) (fun μ7 b7 k7 => ?_)
        have b17 : Bt [3264, 3392, 3210, 3230, 3231, 4544, 3456, 3207, 3212] μ1 μ7 := ((b.mo (by decide)).tr (b6.mo (by decide))).tr (b7.mo (by decide))
        refine m_ok h (f1.tr (b17.frM (by decide))) k7 ?_ rfl
        rw [b7 3201 (by decide), b6 3201 (by decide), b 3201 (by decide)]
        exact t1
      rw [m.1, m.2.2.1, J_le (by omega) (by show -2147483648 ≤ (p : Int) ∧ (p : Int) ≤ 2147483647; omega)]
      refine ⟨fun z => absurd z j10, fun _ => ⟨fun _ => e, fun z => absurd (show ((S.2.2.2.2.1).length : Int) ≤ (p : Int) by omega) z⟩⟩
    have bad : ∀ (μ' : Mem) (n : Int), adl (S.1) (prs (S.2.2.2.2.1) 80 0).2 = none → Bt RDp μ1 μ' → MW (μ' 3392 0) (S.1) → R μ' (J n) (J 0) := by
      intro μ' n ea b mf
      rw [ea] at h
      apply hR
      unfold w9_read_b44_body
      refine ⟨fun _ => ?_, fun z => absurd rfl z⟩
      unfold w9_read_b184
      rintro μ6 rfl
      refine ⟨fun _ => ?_, fun z => absurd rfl z⟩
      have b6 : Bt RDp μ1 (up μ' 3210 0 0 0) := b.tr (Bt.up (by decide))
      have mf6 : MW (up μ' 3210 0 0 0 3392 0) (S.1) := by rw [up_nq (by decide)]; exact mf
      have l6 : up μ' 3210 0 0 0 3210 0 0 = J 0 := up_self
      generalize up μ' 3210 0 0 0 = μ6 at *
      intro R2 hR2
      suffices H : ∀ μ', Bt [3264] μ6 μ' → (∀ k, k < 0 → μ' 3264 0 k = μ6 3392 0 k) → R2 μ' (J (0 : Nat)) from H μ6 Bt.rf (fun k hk => absurd hk (Nat.not_lt_zero _))
      refine down (Q := fun q => ∀ μ', Bt [3264] μ6 μ' → (∀ k, k < q → μ' 3264 0 k = μ6 3392 0 k) → R2 μ' (J q)) 342 (fun q hq ih μ' b' cp => ?_)
      apply hR2
      unfold w9_read_b201_body
      rcases Nat.lt_or_ge q 342 with c | c
      · have ih := ih c
        simp (disch := omega) only [lJ0, lJ1, lJ2, lJ3, lJ4, lJ5, lJ6, lJ7, lJ8, lJ9, lJ10, lJ30, lJ32, lJ33, lJ39, lJ40, lJ41, lJ45, lJ47, lJ48, lJ51, lJ55, lJ57, lJ58, lJ59, lJ60, lJ64, lJ80, lJ82, lJ99, lJ100, lJ101, lJ123, lJ126, lJ282, lJ342, lJ1000, lJ1100, lJ2394, lJ2736, lJ9999, lJ10000, lJ1000000, lJ100000000, J_add, J_sub, J_mul, J_neg, J_le, J_lt, J_eq, J_in, J_clamp, Int.toNat_natCast]
        refine ⟨fun _ => by omega, fun _ => ⟨by omega, by omega, ?_⟩⟩
        rintro μ3 rfl
        refine ih _ (b'.tr (Bt.up (by decide))) (fun k hk => ?_)
        rw [up_at]
        split
        · rename_i y; rw [b' 3392 (by decide), y.2.2]
        · exact cp k (by omega)
      · obtain rfl : q = 342 := by omega
        simp (disch := omega) only [lJ0, lJ1, lJ2, lJ3, lJ4, lJ5, lJ6, lJ7, lJ8, lJ9, lJ10, lJ30, lJ32, lJ33, lJ39, lJ40, lJ41, lJ45, lJ47, lJ48, lJ51, lJ55, lJ57, lJ58, lJ59, lJ60, lJ64, lJ80, lJ82, lJ99, lJ100, lJ101, lJ123, lJ126, lJ282, lJ342, lJ1000, lJ1100, lJ2394, lJ2736, lJ9999, lJ10000, lJ1000000, lJ100000000, J_add, J_sub, J_mul, J_neg, J_le, J_lt, J_eq, J_in, J_clamp, Int.toNat_natCast]
        refine ⟨fun _ => ?_, fun c => absurd (by omega) c⟩
        have bb : Bt RDp μ1 μ' := b6.tr (b'.mo (by decide))
        refine m_fails rfl h (f1.tr (bb.frM (by decide))) (k1.mkR bb (mf6.cp rn rl (fun k hk => cp k hk)) ⟨?_, fun q hq => absurd hq (Nat.not_lt_zero _)⟩)
        rw [b' 3210 (by decide)]
        exact l6
    clear h
    suffices H : ∀ (d i p n : Nat) (s : St) (μ' : Mem), i + d = 80 → 2 * i ≤ p → p < (S.2.2.2.2.1).length → (prs (S.2.2.2.2.1) d p).1.1 = true → adl (S.1) (prs (S.2.2.2.2.1) 80 0).2 = adl s (prs (S.2.2.2.2.1) d p).2 → n + (prs (S.2.2.2.2.1) d p).2.length = (prs (S.2.2.2.2.1) 80 0).2.length → SOK s → Bt RDp μ1 μ' → MB (setT S s) μ' → MW (μ' 3392 0) (S.1) → MT (S.2.2.2.2.1) (true, p) μ' → R μ' (J n) (J 1) from by
      refine H 80 0 0 0 (S.1) μ4 rfl (Nat.le_refl _) ?_ hb rfl (by omega) g.1 b4 k4 f4 m4
      rcases Nat.eq_zero_or_pos (S.2.2.2.2.1).length with y | y
      · exfalso
        have ef : (fE (S.2.2.2.2.1) 0).1 = (false, 0) := by
          unfold fE
          rw [fN_f (show dgt (S.2.2.2.2.1) 3 0 = -1 from if_neg (by omega))]
          rfl
        rw [prs_succ (S.2.2.2.2.1) 79 0, ef] at hb
        cases hb
      · exact y
    intro d
    induction d with
    | zero => intro i p n s μ' hi hp hl; omega
    | succ d ih =>
      intro i p n s μ' hi hp hl hs ea en hso b kb mf m
      have hll := hso.l
      have hwf := hso.1
      have fr := fE_rg (l := S.2.2.2.2.1) (p := p) (by omega)
      rw [prs_succ (S.2.2.2.2.1) d p] at hs ea en
      apply hR
      unfold w9_read_b44_body
      rw [m.1, m.2.2.1, J_le (by omega) (by show -2147483648 ≤ (p : Int) ∧ (p : Int) ≤ 2147483647; omega)]
      refine ⟨fun z => absurd z j10, fun _ => ⟨fun z => absurd (show (S.2.2.2.2.1).length ≤ p by have : ((S.2.2.2.2.1).length : Int) ≤ (p : Int) := z; omega) (by omega), fun _ => ?_⟩⟩
      refine m_entry_spec m g.ch (by omega) (fun μ3 b3 m3 t3 => ?_)
      have c1 : (fE (S.2.2.2.2.1) p).1.1 = true := by
        by_cases c : (fE (S.2.2.2.2.1) p).1.1 = true
        · exact c
        · rw [if_neg c] at hs; exact hs
      rw [if_pos c1] at hs ea en
      have fp := fr.2.2.1 c1
      have em : (fE (S.2.2.2.2.1) p).1 = (true, (fE (S.2.2.2.2.1) p).1.2) := by rw [← c1]
      rw [em] at m3
      obtain ⟨a1, a2, a3, a4, a5, a6, a7, a8, a9, a10, a11, a12, a13, a14, a15⟩ := fr.2.2.2
      have b03 : Bt RDp μ1 μ3 := b.tr (b3.mo (by decide))
      have kb3 : MB (setT S s) μ3 := kb.bt b3 (by decide)
      have mf3 : MW (μ3 3392 0) (S.1) := by rw [b3 3392 (by decide)]; exact mf
      -- what is left of the rows
      obtain ⟨rs, eaN, enN, nxt⟩ : ∃ rs : List Row, adl (S.1) (prs (S.2.2.2.2.1) 80 0).2 = adl s ((fE (S.2.2.2.2.1) p).2 :: rs) ∧ n + (rs.length + 1) = (prs (S.2.2.2.2.1) 80 0).2.length ∧ ∀ (s' : St) (μ' : Mem), adl (S.1) (prs (S.2.2.2.2.1) 80 0).2 = adl s' rs → SOK s' → Bt RDp μ1 μ' → MB (setT S s') μ' → MW (μ' 3392 0) (S.1) → MT (S.2.2.2.2.1) (true, (fE (S.2.2.2.2.1) p).1.2) μ' → R μ' (J ((n : Int) + 1)) (J 1) := by
        by_cases c2 : (fE (S.2.2.2.2.1) p).1.2 < (S.2.2.2.2.1).length
        · rw [if_pos c2] at hs ea en
          exact ⟨_, ea, en, fun s' μ' e1 e2 e4 e5 e6 e7 => ih (i + 1) (fE (S.2.2.2.2.1) p).1.2 (n + 1) s' μ' (by omega) (by omega) c2 hs e1 (by have en : n + ((prs (S.2.2.2.2.1) d (fE (S.2.2.2.2.1) p).1.2).2.length + 1) = _ := en; omega) e2 e4 e5 e6 e7⟩
        · rw [if_neg c2] at hs ea en
          refine ⟨[], ea, en, fun s' μ' e1 e2 e4 e5 e6 e7 => ?_⟩
          have := good s' μ' _ e1 e4 e5 e6 e7 (by omega) (by have := fr.1; omega)
          rw [← en] at this
          exact this
      clear ea en ih hs
      generalize (fE (S.2.2.2.2.1) p).2 = r at *
      generalize (fE (S.2.2.2.2.1) p).1.2 = q at *
      have no : ¬ okr s r → w9_read_b108 P R μ3 (J n) (0 : Int32) := by
        intro z
        have ea : adl (S.1) (prs (S.2.2.2.2.1) 80 0).2 = none := by
          rw [eaN]
          exact if_neg z
        refine ⟨fun _ => ⟨fun _ => ?_, fun y => absurd rfl y⟩, fun y => absurd rfl y⟩
        rw [show (1 : Int32) = J 1 from rfl, J_add]
        exact bad μ3 _ ea b03 mf3
      have x4 := t3 4 (by omega)
      have x5 := t3 5 (by omega)
      have x0 := t3 0 (by omega)
      have x1 := t3 1 (by omega)
      have x2 := t3 2 (by omega)
      have x3 := t3 3 (by omega)
      have x6 := t3 6 (by omega)
      have kn : μ3 3264 0 0 = J s.1 := kb3.1.1
      refine ⟨vin7 (a := 4) (by omega), vin7 (a := 5) (by omega), ?_⟩
      rw [show (4 : Int32).toNatClampNeg = 4 by decide, show (5 : Int32).toNatClampNeg = 5 by decide, show (0 : Int32).toNatClampNeg = 0 by decide, x4, x5, kn, J_lt (by omega) (by omega), show (40 : Int32) = J 40 from rfl, J_le (by omega) (by have := hwf.n; omega)]
      refine ⟨fun c5 => no (fun z => by have := z.1; omega), fun c5 => ⟨(J_in (a := 0) (by omega)).mpr (by omega), fun c6 => no (fun z => by have := z.2.1; omega), fun c6 => ⟨vin7 (a := 0) (by omega), ?_⟩⟩⟩
      rw [x0]
      refine m_find_spec kb3.1 hwf (by omega) ?_
      have rf := fnd_rg s.1 s.2.1 (r 0)
      have hn40 := hwf.n
      have ef : fnd (setT S s).1.1 (setT S s).1.2.1 (r 0) = fnd s.1 s.2.1 (r 0) := rfl
      rw [ef, show (-1 : Int32) = J (-1) from rfl, J_eq (by omega) (by omega)]
      refine ⟨fun c7 => no (fun z => c7 z.2.2), fun c7 => ?_⟩
      have ok : okr s r := ⟨by omega, by omega, c7⟩
      have ea2 : adl (S.1) (prs (S.2.2.2.2.1) 80 0).2 = adl (sadd s r) rs := by rw [eaN]; exact if_pos ok
      refine ⟨fun y => absurd y (by decide), fun _ => ?_⟩
      refine ⟨vin7 (a := 1) (by omega), vin7 (a := 0) (by omega), vin7 (a := 2) (by omega), vin7 (a := 3) (by omega), vin7 (a := 4) (by omega), vin7 (a := 5) (by omega), ?_⟩
      rw [show (1 : Int32).toNatClampNeg = 1 by decide, show (0 : Int32).toNatClampNeg = 0 by decide, show (2 : Int32).toNatClampNeg = 2 by decide, show (3 : Int32).toNatClampNeg = 3 by decide, show (4 : Int32).toNatClampNeg = 4 by decide, show (5 : Int32).toNatClampNeg = 5 by decide, x0, x1, x2, x3, x4, x5]
      refine appends_spec kb3.1 (by show s.1 < 40; omega) hll (fun μ5 b5 w5 => ?_)
      have w5 : MW (μ5 3264 0) (sadd s (rw7 (r 1) (r 0) (r 2) (r 3) (r 4) (r 5) 0)) := w5
      refine ⟨fun y => absurd y (by decide), fun _ => ?_⟩
      refine ⟨(J_in (a := 0) (by omega)).mpr (by omega), vin7 (a := 6) (by omega), ?_⟩
      have kn5 : μ5 3264 0 0 = J ((s.1 + 1 : Nat) : Int) := w5.1
      have x65 : μ5 4544 0 6 = J (r 6) := by rw [b5 4544 (by decide)]; exact x6
      rw [show (0 : Int32).toNatClampNeg = 0 by decide, show (6 : Int32).toNatClampNeg = 6 by decide, kn5, x65, show (1 : Int32) = J 1 from rfl, J_sub]
      refine put_spec s.1 6 (by congr 1; omega) rfl (by omega) (by omega) (fun μ6 b6 e6 => ?_)
      have w6 := w5.putK (by show s.1 + 1 ≤ 40; omega) (i := s.1) (c := 6) (by show s.1 < s.1 + 1; omega) (by omega) e6
      have w6 : MW (μ6 3264 0) (sadd s r) := MW.rowK a15 w6
      have b36 : Bt [3264] μ3 μ6 := b5.tr b6
      have ks : SOK (sadd s r) := by
        rw [a15]
        exact hso.saddK ok.2.1 ok.2.2 ⟨a1, a2, a3, a4, a5, a6, a7, a8, by unfold TOq; have := ok.1; omega⟩ ⟨a13, a14⟩
      rw [J_add]
      refine nxt (sadd s r) μ6 ea2 ks (b03.tr (b36.mo (by decide))) (kb3.st b36 w6) (by rw [b36 3392 (by decide)]; exact mf3) (m3.fr (b36 _ (by decide)) (b36 _ (by decide)) (b36 _ (by decide)) (b36 _ (by decide)))
