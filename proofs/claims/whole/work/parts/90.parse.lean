-- the class reads a text into its draft
theorem fC_rg {l : List Int} {c : Int} {s : FS} (hs : s.2 ≤ l.length) : s.2 ≤ (fC l c s).2 ∧ (fC l c s).2 ≤ l.length ∧ ((fC l c s).1 = true → s.1 = true ∧ s.2 + 1 ≤ (fC l c s).2) := by
  obtain ⟨b, p⟩ := s
  cases b with
  | false => exact ⟨Nat.le_refl _, hs, fun z => (by cases z)⟩
  | true =>
    by_cases h : tkn l c p = true
    · rw [fC_t h]
      unfold tkn at h
      rw [decide_eq_true_iff] at h
      exact ⟨Nat.le_succ _, h.1, fun _ => ⟨rfl, Nat.le_refl _⟩⟩
    · rw [fC_f h]
      exact ⟨Nat.le_refl _, hs, fun z => (by cases z)⟩
theorem fN_rg {l : List Int} {g : Int} (hg : 0 ≤ g ∧ g ≤ 9) {k : Nat} {s : FS} (hs : s.2 ≤ l.length) : s.2 ≤ (fN l g (k + 1) s).1.2 ∧ (fN l g (k + 1) s).1.2 ≤ l.length ∧ 0 ≤ (fN l g (k + 1) s).2 ∧ (fN l g (k + 1) s).2 + 1 ≤ 10 ^ (k + 1) ∧ (k = 0 → (fN l g (k + 1) s).2 ≤ g) ∧ ((fN l g (k + 1) s).1.1 = true → s.1 = true ∧ s.2 + 1 ≤ (fN l g (k + 1) s).1.2) := by
  obtain ⟨b, p⟩ := s
  have t := ten1 (k + 1)
  cases b with
  | false => exact ⟨Nat.le_refl _, hs, Int.le_refl _, by show (0 : Int) + 1 ≤ _; omega, fun _ => hg.1, fun z => (by cases z)⟩
  | true =>
    by_cases h : dgt l g p = -1
    · rw [fN_f h]
      exact ⟨Nat.le_refl _, hs, Int.le_refl _, by show (0 : Int) + 1 ≤ _; omega, fun _ => hg.1, fun z => (by cases z)⟩
    · have a := nmF_1 (l := l) (p := p) hg (k := k) hs h
      rw [fN_t h]
      refine ⟨by dsimp only; omega, a.2.2.2, a.1, a.2.1, fun k0 => ?_, fun _ => ⟨rfl, a.2.2.1⟩⟩
      subst k0
      rw [nmF_v1 h]
      have r := dgt_rg (l := l) (p := p) hg.1
      dsimp only
      omega
/-- a row as the document wants it, but for the order of its times -/
def RwOK (r : Row) : Prop := 0 ≤ r 1 ∧ r 1 < 4 ∧ 0 ≤ r 0 ∧ r 0 < 100 ∧ -1 ≤ r 2 ∧ r 2 < 100 ∧ 0 ≤ r 3 ∧ r 3 < 8 ∧ 0 ≤ r 4 ∧ r 4 < 10000 ∧ 0 ≤ r 5 ∧ r 5 < 10000 ∧ 0 ≤ r 6 ∧ r 6 ≤ 1 ∧ r = rw7 (r 1) (r 0) (r 2) (r 3) (r 4) (r 5) (r 6)
theorem bif_rg (b : Bool) (p : Nat) : (bif b then p + 1 else p) = p ∨ ((bif b then p + 1 else p) = p + 1 ∧ b = true) := by cases b; exact Or.inl rfl; exact Or.inr ⟨rfl, rfl⟩
theorem xB_rg {l : List Int} {t id pa sv b e : Int} {s : FS} (hs : s.2 ≤ l.length) : (xB l t id pa sv b e s).1.2 ≤ l.length ∧ s.2 ≤ (xB l t id pa sv b e s).1.2 ∧ ((xB l t id pa sv b e s).1.1 = true → s.1 = true) ∧ ∃ er, 0 ≤ er ∧ er ≤ 1 ∧ (xB l t id pa sv b e s).2 = rw7 t id pa sv b e er := by
  unfold xB
  have u : (bif (s.1 && tkn l 33 s.2) then s.2 + 1 else s.2) ≤ l.length ∧ s.2 ≤ (bif (s.1 && tkn l 33 s.2) then s.2 + 1 else s.2) := by
    rcases bif_rg (s.1 && tkn l 33 s.2) s.2 with h | ⟨h, h2⟩
    · rw [h]; exact ⟨hs, Nat.le_refl _⟩
    · rw [h]
      rw [Bool.and_eq_true] at h2
      have h3 := h2.2
      unfold tkn at h3
      rw [decide_eq_true_iff] at h3
      exact ⟨h3.1, Nat.le_succ _⟩
  have a := fC_rg (l := l) (c := 59) (s := (s.1, bif (s.1 && tkn l 33 s.2) then s.2 + 1 else s.2)) u.1
  refine ⟨a.2.1, Nat.le_trans u.2 a.1, fun z => (a.2.2 z).1, _, ?_, ?_, rfl⟩
  · cases (s.1 && tkn l 33 s.2) <;> decide
  · cases (s.1 && tkn l 33 s.2) <;> decide
theorem x3_rg {l : List Int} {t id pa : Int} {s : FS} (hs : s.2 ≤ l.length) : (x3 l t id pa s).1.2 ≤ l.length ∧ s.2 ≤ (x3 l t id pa s).1.2 ∧ ((x3 l t id pa s).1.1 = true → s.1 = true) ∧ ∃ sv b e er, 0 ≤ sv ∧ sv < 8 ∧ 0 ≤ b ∧ b < 10000 ∧ 0 ≤ e ∧ e < 10000 ∧ 0 ≤ er ∧ er ≤ 1 ∧ (x3 l t id pa s).2 = rw7 t id pa sv b e er := by
  unfold x3 x4 x5
  have a1 := fC_rg (l := l) (c := 64) hs
  have a2 := fN_rg (l := l) (g := 7) (by omega) (k := 0) a1.2.1
  generalize fN l 7 1 (fC l 64 s) = n1 at *
  have a3 := fC_rg (l := l) (c := 58) a2.2.1
  have a4 := fN_rg (l := l) (g := 9) (by omega) (k := 3) a3.2.1
  generalize fN l 9 4 (fC l 58 n1.1) = n2 at *
  have a5 := fC_rg (l := l) (c := 45) a4.2.1
  have a6 := fN_rg (l := l) (g := 9) (by omega) (k := 3) a5.2.1
  generalize fN l 9 4 (fC l 45 n2.1) = n3 at *
  obtain ⟨b1, b2, b3, er, b4, b5, b6⟩ := xB_rg (l := l) (t := t) (id := id) (pa := pa) (sv := n1.2) (b := n2.2) (e := n3.2) a6.2.1
  have p4 : (10 : Int) ^ (3 + 1) = 10000 := by decide
  have v2 := a4.2.2.2.1
  have v3 := a6.2.2.2.1
  have v1 := a2.2.2.2.2.1 rfl
  rw [p4] at v2 v3
  refine ⟨b1, by omega, fun z => (a1.2.2 ((a2.2.2.2.2.2 ((a3.2.2 ((a4.2.2.2.2.2 ((a5.2.2 ((a6.2.2.2.2.2 (b3 z)).1)).1)).1)).1)).1)).1, n1.2, n2.2, n3.2, er, a2.2.2.1, by omega, a4.2.2.1, by omega, a6.2.2.1, by omega, b4, b5, b6⟩
theorem x2_rg {l : List Int} {t id : Int} {s : FS} (hs : s.2 ≤ l.length) : (x2 l t id s).1.2 ≤ l.length ∧ s.2 ≤ (x2 l t id s).1.2 ∧ ((x2 l t id s).1.1 = true → s.1 = true) ∧ ∃ pa sv b e er, -1 ≤ pa ∧ pa < 100 ∧ 0 ≤ sv ∧ sv < 8 ∧ 0 ≤ b ∧ b < 10000 ∧ 0 ≤ e ∧ e < 10000 ∧ 0 ≤ er ∧ er ≤ 1 ∧ (x2 l t id s).2 = rw7 t id pa sv b e er := by
  unfold x2
  cases h : (s.1 && tkn l 45 s.2) with
  | true =>
    rw [Bool.and_eq_true] at h
    have h3 := h.2
    unfold tkn at h3
    rw [decide_eq_true_iff] at h3
    obtain ⟨a1, a2, a3, sv, b, e, er, a4⟩ := x3_rg (l := l) (t := t) (id := id) (pa := -1) (s := (s.1, s.2 + 1)) h3.1
    exact ⟨a1, Nat.le_trans (Nat.le_succ _) a2, fun _ => h.1, -1, sv, b, e, er, by omega, by omega, a4⟩
  | false =>
    have a2 := fN_rg (l := l) (g := 9) (by omega) (k := 1) hs
    obtain ⟨b1, b2, b3, sv, b, e, er, b4⟩ := x3_rg (l := l) (t := t) (id := id) (pa := (fN l 9 2 s).2) (s := (fN l 9 2 s).1) a2.2.1
    have p2 : (10 : Int) ^ (1 + 1) = 100 := by decide
    have v := a2.2.2.2.1
    rw [p2] at v
    have v0 := a2.2.2.1
    refine ⟨b1, Nat.le_trans a2.1 b2, fun z => (a2.2.2.2.2.2 (b3 z)).1, (fN l 9 2 s).2, sv, b, e, er, ?_, ?_, b4⟩
    · have : 0 ≤ (fN l 9 2 s).2 := v0
      omega
    · have : (fN l 9 2 s).2 + 1 ≤ 100 := v
      omega
theorem fE_rg {l : List Int} {p : Nat} (hp : p ≤ l.length) : (fE l p).1.2 ≤ l.length ∧ p ≤ (fE l p).1.2 ∧ ((fE l p).1.1 = true → p + 2 ≤ (fE l p).1.2) ∧ RwOK (fE l p).2 := by
  unfold fE x1
  have a1 := fN_rg (l := l) (g := 3) (by omega) (k := 0) (s := (true, p)) hp
  rw [show 0 + 1 = 1 from rfl] at a1
  generalize fN l 3 1 (true, p) = n1 at *
  have a3 := fC_rg (l := l) (c := 47) a1.2.1
  have a4 := fN_rg (l := l) (g := 9) (by omega) (k := 1) a3.2.1
  rw [show 1 + 1 = 2 from rfl] at a4
  generalize fN l 9 2 (fC l 47 n1.1) = n2 at *
  have a5 := fC_rg (l := l) (c := 60) a4.2.1
  obtain ⟨b1, b2, b3, pa, sv, b, e, er, c1, c2, c3, c4, c5, c6, c7, c8, c9, c10, b4⟩ := x2_rg (l := l) (t := n1.2) (id := n2.2) a5.2.1
  have p2 : (10 : Int) ^ 2 = 100 := by decide
  have v2 := a4.2.2.2.1
  rw [p2] at v2
  have v1 := a1.2.2.2.2.1 rfl
  have a12 : p ≤ n1.1.2 := a1.1
  refine ⟨b1, by omega, fun z => ?_, ?_⟩
  · have q5 := a5.2.2 (b3 z)
    have q4 := a4.2.2.2.2.2 q5.1
    omega
  · rw [b4]
    unfold RwOK
    exact ⟨a1.2.2.1, show n1.2 < 4 by omega, a4.2.2.1, show n2.2 < 100 by omega, c1, c2, c3, c4, c5, c6, c7, c8, c9, c10, rfl⟩
def RSc (l : List Int) (m : Nat) (w : View) (P : Int32 → Mem → Prop) (μ0 : Mem) (x : FS × Row) : Prop := (x.1.1 = false → ∀ μ', FrD μ0 μ' → SV μ' 2 m w → PI l x.1.2 μ' → P 0 μ') ∧ (x.1.1 = true → ∀ μ', FrD μ0 μ' → SV μ' 2 (m + 1) (wset w m x.2) → PI l x.1.2 μ' → P 1 μ')
theorem jne {v : Int} (h : 0 ≤ v ∧ v ≤ 1000000) : ¬ J v = (-1 : Int32) := fun z => by
  have : v = -1 := (J_eq (by omega) (by omega)).mp z
  omega
theorem c_b87_spec {l : List Int} {p : Nat} {μ0 μ : Mem} (pi : PI l p μ) (hc : CH l) (hp : p ≤ l.length) (fr : FrD μ0 μ) {m : Nat} {w : View} (hv : SV μ 2 m w) (hm : m < 40) {t id pa : Int} {P : Int32 → Mem → Prop} (h : RSc l m w P μ0 (x3 l t id pa (true, p))) : w4_parseEntry_b87 2 P μ (J t) (J id) (J pa) := by
  unfold w4_parseEntry_b87
  unfold x3 at h
  refine c_take_spec pi hc hp (c := 64) (by omega) rfl (fun c1 μ1 b1 p1 => ⟨fun _ => ?_, fun z => absurd z (by decide)⟩) (fun c1 => ⟨fun z => absurd rfl z, fun _ => ?_⟩)
  rotate_left
  · rw [fC_f c1] at h; exact h.1 rfl μ fr hv pi
  rw [fC_t c1] at h
  have fr1 := fr.tr (FrD.b b1)
  have v1 := hv.bt b1 (by decide)
  have q1 : p + 1 ≤ l.length := by unfold tkn at c1; rw [decide_eq_true_iff] at c1; omega
  clear c1
  refine c_takeDigit_spec p1 hc q1 (g := 7) (by omega) rfl (fun c2 μ2 b2 p2 => ?_) (fun c2 => ?_)
  rotate_left
  · rw [fN_f c2] at h; exact ⟨fun _ => h.1 rfl _ fr1 v1 p1, fun z => absurd rfl z⟩
  rw [fN_t c2, nmF_v1 c2] at h
  have d2 := dgt_rg (l := l) (g := 7) (p := p + 1) (by omega)
  generalize dgt l 7 (p + 1) = sv at *
  refine ⟨fun z => absurd z (jne (by omega)), fun _ => ?_⟩
  have fr2 := fr1.tr (FrD.b b2)
  have v2 := v1.bt b2 (by decide)
  dsimp only at h
  unfold x4 at h
  refine c_take_spec p2 hc (by omega) (c := 58) (by omega) rfl (fun c3 μ3 b3 p3 => ⟨fun _ => ?_, fun z => absurd z (by decide)⟩) (fun c3 => ⟨fun z => absurd rfl z, fun _ => ?_⟩)
  rotate_left
  · rw [fC_f c3] at h; exact h.1 rfl _ fr2 v2 p2
  rw [fC_t c3] at h
  have fr3 := fr2.tr (FrD.b b3)
  have v3 := v2.bt b3 (by decide)
  have q3 : p + 1 + 1 + 1 ≤ l.length := by unfold tkn at c3; rw [decide_eq_true_iff] at c3; omega
  clear c3
  generalize p + 1 + 1 + 1 = q at *
  refine c_takeNumber_spec p3 hc q3 (k := 3) (by omega) rfl (fun c4 μ4 b4 p4 => ?_) (fun c4 => ?_)
  rotate_left
  · rw [fN_f c4] at h; exact ⟨fun _ => h.1 rfl _ fr3 v3 p3, fun z => absurd rfl z⟩
  rw [fN_t c4] at h
  have n4 := nmF_1 (l := l) (g := 9) (by omega) (k := 3) q3 c4
  rw [show (10 : Int) ^ (3 + 1) = 10000 from by decide] at n4
  rw [show 3 + 1 = 4 from rfl] at p4 n4
  generalize nmF l 9 4 0 q = y4 at *
  refine ⟨fun z => absurd z (jne (by omega)), fun _ => ?_⟩
  have fr4 := fr3.tr (FrD.b b4)
  have v4 := v3.bt b4 (by decide)
  dsimp only at h
  unfold x5 at h
  refine c_take_spec p4 hc (by omega) (c := 45) (by omega) rfl (fun c5 μ5 b5 p5 => ⟨fun _ => ?_, fun z => absurd z (by decide)⟩) (fun c5 => ⟨fun z => absurd rfl z, fun _ => ?_⟩)
  rotate_left
  · rw [fC_f c5] at h; exact h.1 rfl _ fr4 v4 p4
  rw [fC_t c5] at h
  have fr5 := fr4.tr (FrD.b b5)
  have v5 := v4.bt b5 (by decide)
  have q5 : y4.2 + 1 ≤ l.length := by unfold tkn at c5; rw [decide_eq_true_iff] at c5; omega
  clear c5
  refine c_takeNumber_spec p5 hc q5 (k := 3) (by omega) rfl (fun c6 μ6 b6 p6 => ?_) (fun c6 => ?_)
  rotate_left
  · rw [fN_f c6] at h; exact ⟨fun z => absurd rfl z, fun _ => h.1 rfl _ fr5 v5 p5⟩
  rw [fN_t c6] at h
  have n6 := nmF_1 (l := l) (g := 9) (by omega) (k := 3) q5 c6
  rw [show (10 : Int) ^ (3 + 1) = 10000 from by decide] at n6
  rw [show 3 + 1 = 4 from rfl] at p6 n6
  generalize nmF l 9 4 0 (y4.2 + 1) = y6 at *
  refine ⟨fun _ => ?_, fun z => absurd z (jne (by omega))⟩
  have fr6 := fr5.tr (FrD.b b6)
  have v6 := v5.bt b6 (by decide)
  dsimp only at h
  unfold xB at h
  have fin : ∀ (er : Int) (u : Nat) (μ7 : Mem), 0 ≤ er ∧ er ≤ 1 → u ≤ l.length → FrD μ0 μ7 → SV μ7 2 m w → PI l u μ7 → RSc l m w P μ0 (fC l 59 (true, u), rw7 t id pa sv y4.1 y6.1 er) → w4_take_wp μ7 (59 : Int32) (fun (r26 : Int32) (μ25 : Mem) => ((¬ r26 = 0 → (w7_keep_wp μ25 2 (J t) (J id) (J pa) (J sv) (J y4.1) (J y6.1) (J er) (fun (μ27 : Mem) => (P (1 : Int32) μ27)))) ∧ (r26 = 0 → (P (0 : Int32) μ25)))) := by
    intro er u μ7 her hu fr7 v7 p7 h
    refine c_take_spec p7 hc hu (c := 59) (by omega) rfl (fun c8 μ8 b8 p8 => ⟨fun _ => ?_, fun z => absurd z (by decide)⟩) (fun c8 => ⟨fun z => absurd rfl z, fun _ => ?_⟩)
    · rw [fC_t c8] at h
      have v8 := v7.bt b8 (by decide)
      refine keep_spec (n := m) v8.1 hm ?_
      have fk : FrS 2 μ8 (kp μ8 2 m (J t) (J id) (J pa) (J sv) (J y4.1) (J y6.1) (J er)) := kp_fr
      refine h.2 rfl _ ((fr7.tr (FrD.b b8)).tr (FrD.s fk)) (kp_SV v8 her) (p8.fr ?_ ?_ ?_)
      · funext k i; exact fk _ _ _ (by omega)
      · funext k i; exact fk _ _ _ (by omega)
      · funext k i; exact fk _ _ _ (by omega)
    · rw [fC_f c8] at h
      exact h.1 rfl _ fr7 v7 p7
  refine c_take_spec p6 hc (by omega) (c := 33) (by omega) rfl (fun c7 μ7 b7 p7 => ?_) (fun c7 => ?_)
  · rw [c7] at h
    have q7 : y6.2 + 1 ≤ l.length := by unfold tkn at c7; rw [decide_eq_true_iff] at c7; omega
    exact fin 1 (y6.2 + 1) μ7 (by omega) q7 (fr6.tr (FrD.b b7)) (v6.bt b7 (by decide)) p7 h
  · rw [Bool.eq_false_iff.mpr c7] at h
    exact fin 0 y6.2 μ6 (by omega) (by omega) fr6 v6 p6 h
theorem c_parseEntry_spec {l : List Int} {p : Nat} {μ : Mem} (pi : PI l p μ) (hc : CH l) (hp : p ≤ l.length) {m : Nat} {w : View} (hv : SV μ 2 m w) (hm : m < 40) {P : Int32 → Mem → Prop} (h : RSc l m w P μ (fE l p)) : w4_parseEntry_wp μ 2 P := by
  unfold w4_parseEntry_wp
  unfold fE at h
  refine c_takeDigit_spec pi hc hp (g := 3) (by omega) rfl (fun c2 μ2 b2 p2 => ?_) (fun c2 => ?_)
  rotate_left
  · rw [fN_f c2] at h; exact ⟨fun _ => h.1 rfl _ FrD.rf hv pi, fun z => absurd rfl z⟩
  rw [fN_t c2, nmF_v1 c2] at h
  have d2 := dgt_rg (l := l) (g := 3) (p := p) (by omega)
  generalize dgt l 3 p = t at *
  refine ⟨fun z => absurd z (jne (by omega)), fun _ => ?_⟩
  have fr2 := FrD.b b2
  have v2 := hv.bt b2 (by decide)
  dsimp only at h
  unfold x1 at h
  refine c_take_spec p2 hc (by omega) (c := 47) (by omega) rfl (fun c3 μ3 b3 p3 => ⟨fun _ => ?_, fun z => absurd z (by decide)⟩) (fun c3 => ⟨fun z => absurd rfl z, fun _ => ?_⟩)
  rotate_left
  · rw [fC_f c3] at h; exact h.1 rfl _ fr2 v2 p2
  rw [fC_t c3] at h
  have fr3 := fr2.tr (FrD.b b3)
  have v3 := v2.bt b3 (by decide)
  have q3 : p + 1 + 1 ≤ l.length := by unfold tkn at c3; rw [decide_eq_true_iff] at c3; omega
  clear c3
  generalize p + 1 + 1 = q at *
  refine c_takeNumber_spec p3 hc q3 (k := 1) (by omega) rfl (fun c4 μ4 b4 p4 => ?_) (fun c4 => ?_)
  rotate_left
  · rw [fN_f c4] at h; exact ⟨fun _ => h.1 rfl _ fr3 v3 p3, fun z => absurd rfl z⟩
  rw [fN_t c4] at h
  have n4 := nmF_1 (l := l) (g := 9) (by omega) (k := 1) q3 c4
  rw [show (10 : Int) ^ (1 + 1) = 100 from by decide] at n4
  rw [show 1 + 1 = 2 from rfl] at p4 n4
  generalize nmF l 9 2 0 q = y4 at *
  refine ⟨fun z => absurd z (jne (by omega)), fun _ => ?_⟩
  have fr4 := fr3.tr (FrD.b b4)
  have v4 := v3.bt b4 (by decide)
  dsimp only at h
  refine c_take_spec p4 hc (by omega) (c := 60) (by omega) rfl (fun c5 μ5 b5 p5 => ⟨fun _ => ?_, fun z => absurd z (by decide)⟩) (fun c5 => ⟨fun z => absurd rfl z, fun _ => ?_⟩)
  rotate_left
  · rw [fC_f c5] at h; exact h.1 rfl _ fr4 v4 p4
  rw [fC_t c5] at h
  have fr5 := fr4.tr (FrD.b b5)
  have v5 := v4.bt b5 (by decide)
  have q5 : y4.2 + 1 ≤ l.length := by unfold tkn at c5; rw [decide_eq_true_iff] at c5; omega
  clear c5
  unfold x2 at h
  refine c_take_spec p5 hc q5 (c := 45) (by omega) rfl (fun c6 μ6 b6 p6 => ?_) (fun c6 => ?_)
  · rw [c6] at h
    have q6 : y4.2 + 1 + 1 ≤ l.length := by unfold tkn at c6; rw [decide_eq_true_iff] at c6; omega
    have h : RSc l m w P μ (x3 l t y4.1 (-1) (true, y4.2 + 1 + 1)) := h
    refine ⟨fun _ => ?_, fun z => absurd z (by decide)⟩
    refine ⟨fun _ => ?_, fun z => absurd rfl z⟩
    refine ⟨fun _ => ?_, fun z => absurd rfl z⟩
    rw [show (-1 : Int32) = J (-1) from rfl]
    exact c_b87_spec p6 hc q6 (fr5.tr (FrD.b b6)) (v5.bt b6 (by decide)) hm h
  · rw [Bool.eq_false_iff.mpr c6] at h
    refine ⟨fun z => absurd rfl z, fun _ => ?_⟩
    refine ⟨fun z => absurd z (by decide), fun _ => ?_⟩
    have h : RSc l m w P μ (x3 l t y4.1 (fN l 9 2 (true, y4.2 + 1)).2 (fN l 9 2 (true, y4.2 + 1)).1) := h
    refine c_takeNumber_spec p5 hc q5 (k := 1) (by omega) rfl (fun c7 μ7 b7 p7 => ?_) (fun c7 => ?_)
    · rw [fN_t c7] at h
      have n7 := nmF_1 (l := l) (g := 9) (by omega) (k := 1) q5 c7
      rw [show (10 : Int) ^ (1 + 1) = 100 from by decide] at n7
      rw [show 1 + 1 = 2 from rfl] at p7 n7
      generalize nmF l 9 2 0 (y4.2 + 1) = y7 at *
      refine ⟨fun z => absurd z (by decide), fun _ => ⟨fun z => absurd z (jne (by omega)), fun _ => ?_⟩⟩
      exact c_b87_spec p7 hc (by omega) (fr5.tr (FrD.b b7)) (v5.bt b7 (by decide)) hm h
    · rw [fN_f c7] at h
      refine ⟨fun z => absurd z (by decide), fun _ => ⟨fun _ => h.1 rfl _ fr5 v5 p5, fun z => absurd rfl z⟩⟩
