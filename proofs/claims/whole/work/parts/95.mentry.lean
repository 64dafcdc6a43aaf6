-- the reference reads an entry, and a whole text
theorem vin7 {a : Int} (h : 0 ≤ a ∧ a < 7) : vp_in (J a) 7 := (J_in (by omega)).mpr h
abbrev TSp : List Nat := [3230, 3231, 4544]
theorem MT.told {l : List Int} {s : FS} {μ : Mem} (h : MT l s μ) {c : Nat} {v : Int32} : MT l s (up μ 4544 0 c v) := h.fr (up_nq (by decide)) (up_nq (by decide)) (up_nq (by decide)) (up_nq (by decide))
theorem told_fr {μ μ' : Mem} (b : Bt [3230, 3231] μ μ') : μ' 4544 0 = μ 4544 0 := by rw [b 4544 (by decide)]
theorem m_b179_spec {l : List Int} {s : FS} {μ0 μ : Mem} {T : Ar} {er : Int} (m : MT l s μ) (hc : CH l) (b : Bt TSp μ0 μ) (eT : μ 4544 0 = T) (her : 0 ≤ er ∧ er ≤ 1) (hs : (bif decide (er = 1) then s.2 + 1 else s.2) ≤ l.length) {P : Mem → Prop} (h : ∀ μ', Bt TSp μ0 μ' → MT l (fC l 59 (s.1, bif decide (er = 1) then s.2 + 1 else s.2)) μ' → μ' 4544 0 = mset T 6 (J er) → P μ') {x : Int32} (ex : x = J er) : w9_entry_b179 P μ x (6 : Int32) := by
  subst ex
  unfold w9_entry_b179
  refine ⟨vin7 (a := 6) (by omega), ?_⟩
  rintro μ1 rfl
  have k6 : (6 : Int32).toNatClampNeg = 6 := by decide
  rw [k6]
  have m1 : MT l s (up μ 4544 0 6 (J er)) := m.told
  have b1 : Bt TSp μ0 (up μ 4544 0 6 (J er)) := b.tr (Bt.up (by decide))
  have e1 : up μ 4544 0 6 (J er) 4544 0 = mset T 6 (J er) := by rw [up_row, eT]
  have e6 : up μ 4544 0 6 (J er) 4544 0 6 = J er := up_self
  generalize up μ 4544 0 6 (J er) = μ1 at *
  refine ⟨vin7 (a := 6) (by omega), ?_⟩
  rintro μ2 rfl
  rw [e6, m1.2.2.1, J_add]
  have es : (s.2 : Int) + er = (((bif decide (er = 1) then s.2 + 1 else s.2 : Nat)) : Int) := by
    by_cases c : er = 1
    · rw [decide_eq_true c, c]; rfl
    · rw [decide_eq_false c, show er = 0 by omega]; show (s.2 : Int) + 0 = (s.2 : Int); omega
  rw [es]
  refine m_must_spec (m1.spot (q := bif decide (er = 1) then s.2 + 1 else s.2)) hc hs (c := 59) (by omega) rfl (fun μ3 b3 m3 => ?_)
  refine h μ3 ((b1.tr (Bt.up (by decide))).tr (b3.mo (by decide))) m3 ?_
  rw [told_fr b3, up_nq (by decide)]
  exact e1
theorem m_b94_spec {l : List Int} {s : FS} {μ0 μ : Mem} {T : Ar} {t id pa : Int} (m : MT l s μ) (hc : CH l) (hs : s.2 ≤ l.length) (b : Bt TSp μ0 μ) (eT : μ 4544 0 = T) (t1 : T 1 = J t) (t0 : T 0 = J id) {P : Mem → Prop} (h : ∀ μ', Bt TSp μ0 μ' → MT l (x3 l t id pa s).1 μ' → (∀ c, c < 7 → μ' 4544 0 c = J ((x3 l t id pa s).2 c)) → P μ') : w9_entry_b94 P μ (J pa) (2 : Int32) := by
  have r80 := hc.1
  have k2 : (2 : Int32).toNatClampNeg = 2 := by decide
  have k3 : (3 : Int32).toNatClampNeg = 3 := by decide
  have k4 : (4 : Int32).toNatClampNeg = 4 := by decide
  have k5 : (5 : Int32).toNatClampNeg = 5 := by decide
  unfold w9_entry_b94
  unfold x3 x4 x5 at h
  refine ⟨vin7 (a := 2) (by omega), ?_⟩
  rintro μ1 rfl
  rw [k2]
  have m1 : MT l s (up μ 4544 0 2 (J pa)) := m.told
  have b1 : Bt TSp μ0 (up μ 4544 0 2 (J pa)) := b.tr (Bt.up (by decide))
  have e1 : up μ 4544 0 2 (J pa) 4544 0 = mset T 2 (J pa) := by rw [up_row, eT]
  generalize up μ 4544 0 2 (J pa) = μ1 at *
  refine m_must_spec m1 hc hs (c := 64) (by omega) rfl (fun μ2 b2 m2 => ?_)
  have a1 := fC_rg (l := l) (c := 64) hs
  refine m_number_spec' m2 hc a1.2.1 (g := 7) (by omega) (k := 0) (by omega) rfl rfl (fun μ3 b3 m3 => ?_)
  have a2 := fN_rg (l := l) (g := 7) (by omega) (k := 0) a1.2.1
  rw [show 0 + 1 = 1 from rfl] at m3 a2 ⊢
  have e3 : μ3 4544 0 = mset T 2 (J pa) := by rw [told_fr b3, told_fr b2]; exact e1
  have b03 : Bt TSp μ0 μ3 := (b1.tr (b2.mo (by decide))).tr (b3.mo (by decide))
  generalize fN l 7 1 (fC l 64 s) = n1 at *
  refine ⟨vin7 (a := 3) (by omega), ?_⟩
  rintro μ4 rfl
  rw [k3]
  have m4 : MT l n1.1 (up μ3 4544 0 3 (J n1.2)) := m3.told
  have b4 : Bt TSp μ0 (up μ3 4544 0 3 (J n1.2)) := b03.tr (Bt.up (by decide))
  have e4 : up μ3 4544 0 3 (J n1.2) 4544 0 = mset (mset T 2 (J pa)) 3 (J n1.2) := by rw [up_row, e3]
  generalize up μ3 4544 0 3 (J n1.2) = μ4 at *
  refine m_must_spec m4 hc a2.2.1 (c := 58) (by omega) rfl (fun μ5 b5 m5 => ?_)
  have a3 := fC_rg (l := l) (c := 58) a2.2.1
  refine m_number_spec' m5 hc a3.2.1 (g := 9) (by omega) (k := 3) (by omega) rfl rfl (fun μ6 b6 m6 => ?_)
  have a4 := fN_rg (l := l) (g := 9) (by omega) (k := 3) a3.2.1
  rw [show 3 + 1 = 4 from rfl] at m6 a4 ⊢
  have e6 : μ6 4544 0 = mset (mset T 2 (J pa)) 3 (J n1.2) := by rw [told_fr b6, told_fr b5]; exact e4
  have b06 : Bt TSp μ0 μ6 := (b4.tr (b5.mo (by decide))).tr (b6.mo (by decide))
  generalize fN l 9 4 (fC l 58 n1.1) = n2 at *
  refine ⟨vin7 (a := 4) (by omega), ?_⟩
  rintro μ7 rfl
  rw [k4]
  have m7 : MT l n2.1 (up μ6 4544 0 4 (J n2.2)) := m6.told
  have b7 : Bt TSp μ0 (up μ6 4544 0 4 (J n2.2)) := b06.tr (Bt.up (by decide))
  have e7 : up μ6 4544 0 4 (J n2.2) 4544 0 = mset (mset (mset T 2 (J pa)) 3 (J n1.2)) 4 (J n2.2) := by rw [up_row, e6]
  generalize up μ6 4544 0 4 (J n2.2) = μ7 at *
  refine m_must_spec m7 hc a4.2.1 (c := 45) (by omega) rfl (fun μ8 b8 m8 => ?_)
  have a5 := fC_rg (l := l) (c := 45) a4.2.1
  refine m_number_spec' m8 hc a5.2.1 (g := 9) (by omega) (k := 3) (by omega) rfl rfl (fun μ9 b9 m9 => ?_)
  have a6 := fN_rg (l := l) (g := 9) (by omega) (k := 3) a5.2.1
  rw [show 3 + 1 = 4 from rfl] at m9 a6 ⊢
  have e9 : μ9 4544 0 = mset (mset (mset T 2 (J pa)) 3 (J n1.2)) 4 (J n2.2) := by rw [told_fr b9, told_fr b8]; exact e7
  have b09 : Bt TSp μ0 μ9 := (b7.tr (b8.mo (by decide))).tr (b9.mo (by decide))
  generalize fN l 9 4 (fC l 45 n2.1) = n3 at *
  refine ⟨vin7 (a := 5) (by omega), ?_⟩
  rintro μ10 rfl
  rw [k5]
  have mA : MT l n3.1 (up μ9 4544 0 5 (J n3.2)) := m9.told
  have bA : Bt TSp μ0 (up μ9 4544 0 5 (J n3.2)) := b09.tr (Bt.up (by decide))
  have eA : up μ9 4544 0 5 (J n3.2) 4544 0 = mset (mset (mset (mset T 2 (J pa)) 3 (J n1.2)) 4 (J n2.2)) 5 (J n3.2) := by rw [up_row, e9]
  generalize up μ9 4544 0 5 (J n3.2) = μA at *
  have hn3 := a6.2.1
  clear a1 a2 a3 a4 a5 a6 m1 m2 m3 m4 m5 m6 m7 m8 m9 b1 b2 b3 b4 b5 b6 b7 b8 b9 b03 b06 b09 e1 e3 e4 e6 e7 e9
  have fin : ∀ er : Int, 0 ≤ er ∧ er ≤ 1 → (n3.1.1 && tkn l 33 n3.1.2) = decide (er = 1) → ∀ x : Int32, x = J er → w9_entry_b179 P μA x (6 : Int32) := by
    intro er her hb x ex
    unfold xB at h
    have ev : (bif decide (er = 1) then (1 : Int) else 0) = er := by
      by_cases c : er = 1
      · rw [decide_eq_true c, c]; rfl
      · rw [decide_eq_false c, show er = 0 by omega]; rfl
    rw [hb, ev] at h
    refine m_b179_spec mA hc bA eA her ?_ (fun μ' b' m' e' => h μ' b' m' (fun c h7 => ?_)) ex
    · by_cases c : er = 1
      · have hb2 := hb
        rw [decide_eq_true c, Bool.and_eq_true] at hb2
        have := hb2.2
        unfold tkn at this
        rw [decide_eq_true_iff] at this
        rw [decide_eq_true c]
        exact this.1
      · rw [decide_eq_false c]; exact hn3
    · rw [show μ' 4544 0 c = (μ' 4544 0) c from rfl, e']
      have : c = 0 ∨ c = 1 ∨ c = 2 ∨ c = 3 ∨ c = 4 ∨ c = 5 ∨ c = 6 := by omega
      rcases this with rfl | rfl | rfl | rfl | rfl | rfl | rfl
      · simpa [mset, rw7] using t0
      · simpa [mset, rw7] using t1
      · simp [mset, rw7]
      · simp [mset, rw7]
      · simp [mset, rw7]
      · simp [mset, rw7]
      · simp [mset, rw7]
  rw [mA.2.2.2]
  cases hb : n3.1.1 with
  | false => exact ⟨fun _ => fin 0 (by omega) (by rw [hb]; rfl) _ rfl, fun z => absurd rfl z⟩
  | true =>
    refine ⟨fun z => absurd z j10, fun _ => ?_⟩
    refine m_here_spec mA hc hn3 (fun c1 => ?_) (fun c1 => ?_)
    · have rr := hc.2 _ c1
      rw [show (33 : Int32) = J 33 from rfl, J_eq (by omega) (by omega)]
      refine ⟨fun c2 => fin 0 (by omega) ?_ _ rfl, fun c2 => fin 1 (by omega) ?_ _ rfl⟩
      · rw [hb, Bool.true_and]
        exact decide_eq_false (fun z => c2 z.2)
      · rw [hb, Bool.true_and]
        exact decide_eq_true ⟨c1, c2⟩
    · rw [show (33 : Int32) = J 33 from rfl, J_eq (by omega) (by omega)]
      refine ⟨fun c2 => fin 0 (by omega) ?_ _ rfl, fun c2 => absurd c2 (by omega)⟩
      rw [hb, Bool.true_and]
      exact decide_eq_false (fun z => c1 z.1)
theorem m_entry_spec {l : List Int} {p : Nat} {μ : Mem} (m : MT l (true, p) μ) (hc : CH l) (hp : p ≤ l.length) {P : Mem → Prop} (h : ∀ μ', Bt TSp μ μ' → MT l (fE l p).1 μ' → (∀ c, c < 7 → μ' 4544 0 c = J ((fE l p).2 c)) → P μ') : w9_entry_wp μ P := by
  have r80 := hc.1
  have k1 : (1 : Int32).toNatClampNeg = 1 := by decide
  have k0 : (0 : Int32).toNatClampNeg = 0 := by decide
  unfold w9_entry_wp
  unfold fE at h
  refine m_number_spec' m hc hp (g := 3) (by omega) (k := 0) (by omega) rfl rfl (fun μ3 b3 m3 => ?_)
  have a2 := fN_rg (l := l) (g := 3) (by omega) (k := 0) (s := (true, p)) hp
  rw [show 0 + 1 = 1 from rfl] at m3 a2 ⊢
  have b03 : Bt TSp μ μ3 := b3.mo (by decide)
  generalize fN l 3 1 (true, p) = n1 at *
  unfold x1 at h
  refine ⟨vin7 (a := 1) (by omega), ?_⟩
  rintro μ4 rfl
  rw [k1]
  have m4 : MT l n1.1 (up μ3 4544 0 1 (J n1.2)) := m3.told
  have b4 : Bt TSp μ (up μ3 4544 0 1 (J n1.2)) := b03.tr (Bt.up (by decide))
  have e4 : up μ3 4544 0 1 (J n1.2) 4544 0 = mset (μ3 4544 0) 1 (J n1.2) := up_row
  generalize up μ3 4544 0 1 (J n1.2) = μ4 at *
  refine m_must_spec m4 hc a2.2.1 (c := 47) (by omega) rfl (fun μ5 b5 m5 => ?_)
  have a3 := fC_rg (l := l) (c := 47) a2.2.1
  refine m_number_spec' m5 hc a3.2.1 (g := 9) (by omega) (k := 1) (by omega) rfl rfl (fun μ6 b6 m6 => ?_)
  have a4 := fN_rg (l := l) (g := 9) (by omega) (k := 1) a3.2.1
  rw [show 1 + 1 = 2 from rfl] at m6 a4 ⊢
  have e6 : μ6 4544 0 = mset (μ3 4544 0) 1 (J n1.2) := by rw [told_fr b6, told_fr b5]; exact e4
  have b06 : Bt TSp μ μ6 := (b4.tr (b5.mo (by decide))).tr (b6.mo (by decide))
  generalize fN l 9 2 (fC l 47 n1.1) = n2 at *
  refine ⟨vin7 (a := 0) (by omega), ?_⟩
  rintro μ7 rfl
  rw [k0]
  have m7 : MT l n2.1 (up μ6 4544 0 0 (J n2.2)) := m6.told
  have b7 : Bt TSp μ (up μ6 4544 0 0 (J n2.2)) := b06.tr (Bt.up (by decide))
  have e7 : up μ6 4544 0 0 (J n2.2) 4544 0 = mset (mset (μ3 4544 0) 1 (J n1.2)) 0 (J n2.2) := by rw [up_row, e6]
  generalize up μ6 4544 0 0 (J n2.2) = μ7 at *
  refine m_must_spec m7 hc a4.2.1 (c := 60) (by omega) rfl (fun μ8 b8 m8 => ?_)
  have a5 := (fC_rg (l := l) (c := 60) a4.2.1).2.1
  have e8 : μ8 4544 0 = mset (mset (μ3 4544 0) 1 (J n1.2)) 0 (J n2.2) := by rw [told_fr b8]; exact e7
  have b08 : Bt TSp μ μ8 := b7.tr (b8.mo (by decide))
  generalize fC l 60 n2.1 = s at *
  generalize hT : mset (mset (μ3 4544 0) 1 (J n1.2)) 0 (J n2.2) = T at *
  have t1 : T 1 = J n1.2 := by rw [← hT]; simp [mset]
  have t0 : T 0 = J n2.2 := by rw [← hT]; simp [mset]
  clear a2 a3 a4 m3 m4 m5 m6 m7 b3 b4 b5 b6 b7 b8 b03 b06 e4 e6 e7 hT
  unfold x2 at h
  have no : (s.1 && tkn l 45 s.2) = false → w9_entry_b59 P μ8 (0 : Int32) := by
    intro hb
    rw [hb] at h
    refine ⟨fun _ => ⟨fun _ => ?_, fun z => absurd rfl z⟩, fun z => absurd rfl z⟩
    refine m_number_spec' m8 hc a5 (g := 9) (by omega) (k := 1) (by omega) rfl rfl (fun μ9 b9 m9 => ?_)
    have a6 := fN_rg (l := l) (g := 9) (by omega) (k := 1) a5
    exact m_b94_spec m9 hc a6.2.1 (b08.tr (b9.mo (by decide))) (by rw [told_fr b9]; exact e8) t1 t0 h
  rw [m8.2.2.2]
  cases hb : s.1 with
  | false => exact ⟨fun _ => no (by rw [hb]; rfl), fun z => absurd rfl z⟩
  | true =>
    refine ⟨fun z => absurd z j10, fun _ => ?_⟩
    refine m_here_spec m8 hc a5 (fun c1 => ?_) (fun c1 => ?_)
    · have rr := hc.2 _ c1
      rw [show (45 : Int32) = J 45 from rfl, J_eq (by omega) (by omega)]
      refine ⟨fun c2 => no ?_, fun c2 => ?_⟩
      · rw [hb, Bool.true_and]
        exact decide_eq_false (fun z => c2 z.2)
      · have hb2 : (s.1 && tkn l 45 s.2) = true := by
          rw [hb, Bool.true_and]
          exact decide_eq_true ⟨c1, c2⟩
        rw [hb2] at h
        refine ⟨fun z => absurd z (by decide), fun _ => ?_⟩
        rintro μ9 rfl
        refine ⟨fun z => absurd z (by decide), fun _ => ?_⟩
        rw [show (-1 : Int32) = J (-1) from rfl, m8.2.2.1, show (1 : Int32) = J 1 from rfl, J_add]
        exact m_b94_spec (m8.spot (q := s.2 + 1)) hc c1 (b08.tr (Bt.up (by decide))) (by rw [up_nq (by decide)]; exact e8) t1 t0 h
    · rw [show (45 : Int32) = J 45 from rfl, J_eq (by omega) (by omega)]
      refine ⟨fun c2 => no ?_, fun c2 => absurd c2 (by omega)⟩
      rw [hb, Bool.true_and]
      exact decide_eq_false (fun z => c1 z.1)
theorem m_isText_spec {l : List Int} {μ : Mem} (e1 : μ 3210 0 0 = J l.length) (e2 : ∀ q, q < l.length → μ 3584 0 q = J (gl l q)) (hc : CH l) {P : Int32 → Mem → Prop} (h : ∀ μ', Bt TSp μ μ' → MT l (prs l 80 0).1 μ' → P (J (bif (prs l 80 0).1.1 then 1 else 0)) μ') : w9_isText_wp μ P := by
  have r80 := hc.1
  unfold w9_isText_wp
  rintro μ1 rfl
  have nb : ∀ b : Bool, vp_nar .boolean (J (bif b then 1 else 0)) = J (bif b then 1 else 0) := fun b => by cases b <;> rfl
  rw [up_nq (j := 3230) (j' := 3210) (by decide), e1, show (0 : Int32) = J 0 from rfl, J_le (by omega) (by omega)]
  refine ⟨fun c => ?_, fun c => ?_⟩
  · rintro μ2 rfl
    have m2 : MT l (false, 0) (up (up μ 3230 0 0 (J 0)) 3231 0 0 (J 0)) := ⟨by rw [up_nq (by decide), up_nq (by decide)]; exact e1, fun q hq => by rw [up_nq (by decide), up_nq (by decide)]; exact e2 q hq, by rw [up_nq (by decide), up_self]; rfl, up_self⟩
    have b2 : Bt TSp μ (up (up μ 3230 0 0 (J 0)) 3231 0 0 (J 0)) := (Bt.up (by decide)).tr (Bt.up (by decide))
    generalize up (up μ 3230 0 0 (J 0)) 3231 0 0 (J 0) = μ2 at *
    have e : prs l 80 0 = ((false, 0), []) := by
      have ef : (fE l 0).1 = (false, 0) := by
        unfold fE
        rw [fN_f (show dgt l 3 0 = -1 from if_neg (by omega))]
        rfl
      rw [prs_succ l 79 0, ef]
      rfl
    rw [e] at h
    intro R hR
    apply hR
    unfold w9_isText_b21_body
    rw [m2.2.2.2]
    exact ⟨fun _ => ⟨rfl, h μ2 b2 m2⟩, fun z => absurd rfl z⟩
  · rintro μ2 rfl
    have m2 : MT l (true, 0) (up (up μ 3230 0 0 (J 0)) 3231 0 0 1) := ⟨by rw [up_nq (by decide), up_nq (by decide)]; exact e1, fun q hq => by rw [up_nq (by decide), up_nq (by decide)]; exact e2 q hq, by rw [up_nq (by decide), up_self]; rfl, up_self⟩
    have b2 : Bt TSp μ (up (up μ 3230 0 0 (J 0)) 3231 0 0 1) := (Bt.up (by decide)).tr (Bt.up (by decide))
    generalize up (up μ 3230 0 0 (J 0)) 3231 0 0 1 = μ2 at *
    intro R hR
    have ends : ∀ (s : FS) (μ' : Mem), MT l s μ' → Bt TSp μ μ' → (s.1 = false ∨ l.length ≤ s.2) → s.2 ≤ l.length → (prs l 80 0).1 = s → R μ' := by
      intro s μ' m b hs hl e
      apply hR
      unfold w9_isText_b21_body
      have h := h μ' b (by rw [e]; exact m)
      rw [e] at h
      rw [m.2.2.2, m.1, m.2.2.1, J_le (by omega) (by omega)]
      refine ⟨fun _ => ⟨nb _, h⟩, fun z => ⟨fun _ => ⟨nb _, h⟩, fun z2 => ?_⟩⟩
      rcases hs with hs | hs
      · rw [hs] at z; exact absurd rfl z
      · exact absurd (by omega) z2
    suffices H : ∀ (d i p : Nat) (μ' : Mem), i + d = 80 → 2 * i ≤ p → p < l.length → Bt TSp μ μ' → MT l (true, p) μ' → (prs l 80 0).1 = (prs l d p).1 → R μ' from H 80 0 0 μ2 rfl (Nat.le_refl _) (by omega) b2 m2 rfl
    intro d
    induction d with
    | zero => intro i p μ' hi hp hl; omega
    | succ d ih =>
      intro i p μ' hi hp hl b m e
      have fr := fE_rg (l := l) (p := p) (by omega)
      rw [prs_succ l d p] at e
      apply hR
      unfold w9_isText_b21_body
      rw [m.2.2.2, m.1, m.2.2.1, J_le (by omega) (by show -2147483648 ≤ (p : Int) ∧ (p : Int) ≤ 2147483647; omega)]
      refine ⟨fun z => absurd z j10, fun _ => ⟨fun z => absurd (show l.length ≤ p by have : (l.length : Int) ≤ (p : Int) := z; omega) (by omega), fun _ => ?_⟩⟩
      refine m_entry_spec m hc (by omega) (fun μ3 b3 m3 _ => ?_)
      by_cases c1 : (fE l p).1.1 = true
      · rw [if_pos c1] at e
        by_cases c2 : (fE l p).1.2 < l.length
        · rw [if_pos c2] at e
          have f2 := fr.2.2.1 c1
          have em : (fE l p).1 = (true, (fE l p).1.2) := by rw [← c1]
          exact ih (i + 1) (fE l p).1.2 μ3 (by omega) (by omega) c2 (b.tr b3) (by rw [← em]; exact m3) e
        · rw [if_neg c2] at e
          exact ends _ μ3 m3 (b.tr b3) (Or.inr (by omega)) fr.1 e
      · rw [if_neg c1] at e
        exact ends _ μ3 m3 (b.tr b3) (Or.inl (Bool.eq_false_iff.mpr c1)) fr.1 e
