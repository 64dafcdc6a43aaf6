-- sums over spans; the time of a service on all critical paths
def smf (p : Nat → Prop) [DecidablePred p] (f : Nat → Int) (n : Nat) : Int := it (fun i a => if p i then a + f i else a) 0 n
theorem smf_succ (p : Nat → Prop) [DecidablePred p] (f : Nat → Int) (n : Nat) : smf p f (n + 1) = if p n then smf p f n + f n else smf p f n := rfl
theorem smf_cg {p q : Nat → Prop} [DecidablePred p] [DecidablePred q] {f h : Nat → Int} : ∀ n, (∀ i, i < n → (p i ↔ q i)) → (∀ i, i < n → p i → f i = h i) → smf p f n = smf q h n := by
  intro n
  induction n with
  | zero => intro _ _; rfl
  | succ n ih =>
    intro h1 h2
    rw [smf_succ, smf_succ, ih (fun i hi => h1 i (by omega)) (fun i hi => h2 i (by omega))]
    by_cases c : p n
    · rw [if_pos c, if_pos ((h1 n (by omega)).mp c), h2 n (by omega) c]
    · rw [if_neg c, if_neg (fun z => c ((h1 n (by omega)).mpr z))]
theorem smf_add {p q r : Nat → Prop} [DecidablePred p] [DecidablePred q] [DecidablePred r] {f : Nat → Int} : ∀ n, (∀ i, i < n → (r i ↔ p i ∨ q i)) → (∀ i, i < n → ¬ (p i ∧ q i)) → smf r f n = smf p f n + smf q f n := by
  intro n
  induction n with
  | zero => intro _ _; rfl
  | succ n ih =>
    intro h1 h2
    have h3 := h1 n (by omega)
    have h4 := h2 n (by omega)
    rw [smf_succ, smf_succ, smf_succ, ih (fun i hi => h1 i (by omega)) (fun i hi => h2 i (by omega))]
    by_cases c : p n
    · rw [if_pos c, if_pos (h3.mpr (Or.inl c)), if_neg (fun z => h4 ⟨c, z⟩)]; omega
    · by_cases d : q n
      · rw [if_neg c, if_pos (h3.mpr (Or.inr d)), if_pos d]; omega
      · rw [if_neg c, if_neg d, if_neg (fun z => (h3.mp z).elim c d)]
theorem smf_none {p : Nat → Prop} [DecidablePred p] {f : Nat → Int} : ∀ n, (∀ i, i < n → ¬ p i) → smf p f n = 0 := by
  intro n
  induction n with
  | zero => intro _; rfl
  | succ n ih => intro h; rw [smf_succ, if_neg (h n (by omega)), ih (fun i hi => h i (by omega))]
theorem smf_if {p q : Nat → Prop} [DecidablePred p] [DecidablePred q] {f : Nat → Int} : ∀ n, smf p (fun i => if q i then f i else 0) n = smf (fun i => p i ∧ q i) f n := by
  intro n
  induction n with
  | zero => rfl
  | succ n ih =>
    rw [smf_succ, smf_succ, ih]
    by_cases c : p n
    · by_cases d : q n
      · rw [if_pos c, if_pos d, if_pos ⟨c, d⟩]
      · rw [if_pos c, if_neg d, if_neg (fun z => d z.2), Int.add_zero]
    · rw [if_neg c, if_neg (fun z => c z.1)]
theorem smf_upd {p : Nat → Prop} [DecidablePred p] {f : Nat → Int} {c : Nat} {v : Int} (hp : p c) : ∀ n, c < n → smf p (fun i => if i = c then f i + v else f i) n = smf p f n + v := by
  intro n
  induction n with
  | zero => intro h; omega
  | succ n ih =>
    intro h
    rw [smf_succ, smf_succ]
    by_cases y : n = c
    · subst y
      rw [if_pos hp, if_pos rfl, if_pos hp, smf_cg (q := p) (h := f) n (fun i _ => Iff.rfl) (fun i hi _ => if_neg (by omega))]
      omega
    · rw [ih (by omega)]
      by_cases d : p n
      · rw [if_pos d, if_neg y, if_pos d]; omega
      · rw [if_neg d, if_neg d]
theorem smf_rg {p : Nat → Prop} [DecidablePred p] {f : Nat → Int} {M : Int} : ∀ n, (∀ i, i < n → -M ≤ f i ∧ f i ≤ M) → 0 ≤ M → -(M * (n : Int)) ≤ smf p f n ∧ smf p f n ≤ M * (n : Int) := by
  intro n
  induction n with
  | zero => intro _ _; simp [smf, it]
  | succ n ih =>
    intro h hM
    have a := ih (fun i hi => h i (by omega)) hM
    have b := h n (by omega)
    rw [smf_succ, show M * ((n + 1 : Nat) : Int) = M * (n : Int) + M by rw [Int.natCast_add, Int.mul_add]; simp]
    split <;> omega
theorem sgs_none {p : Int → Prop} [DecidablePred p] {L : List Sg} : ∀ k, k ≤ L.length → (∀ j, j < k → ¬ p (sg L j).1) → sgs p L k = 0 := by
  intro k
  induction k with
  | zero => intro _ _; rfl
  | succ k ih => intro hk h; rw [sgs_succ, if_neg (h k (by omega)), ih (by omega) (fun j hj => h j (by omega))]
/-- a node below a root has it as its root -/
theorem bl_rtx {n : Nat} {w : View} (hw : WF n w) {x : Int} (hx : 40 ≤ x ∨ (0 ≤ x ∧ x < n ∧ ab n w x.toNat = -1)) : ∀ i, i < n → bl n w x i = true → rtx n w i = x := by
  have rn := hw.n
  refine tind hw (fun i hi ih => ?_)
  intro hb
  rw [bl_eq hw x hi] at hb
  rcases ab_tp hw hi with ⟨h1, h2, h3⟩ | ⟨h1, h2, h3⟩
  · rw [if_neg (by omega), Bool.or_eq_true, decide_eq_true_iff] at hb
    have rt := tp_rg (w := w) hi
    have e : top n w i = top n w (tp n w i).toNat := by rw [top_eq hw hi, if_neg (by omega)]
    have e2 : rtx n w i = rtx n w (tp n w i).toNat := by unfold rtx; rw [e]
    rw [e2]
    rcases hb with hb | hb
    · have hxx : 0 ≤ x ∧ x < n ∧ ab n w x.toNat = -1 := by
        rcases hx with c | c
        · omega
        · exact c
      have e3 : (tp n w i).toNat = x.toNat := by omega
      rw [e3]
      have hk : kd n w x.toNat ≠ 1 ∧ kd n w x.toNat ≠ 2 := by
        rcases ab_tp hw (i := x.toNat) (by omega) with ⟨a1, a2, a3⟩ | ⟨a1, a2, ⟨a3, a4⟩ | ⟨a3, a4⟩⟩ <;> omega
      unfold rtx
      rw [top_self hw (by omega) hk.1, if_neg hk.2]
      omega
    · exact ih h1 hb
  · rw [if_pos (by omega), decide_eq_true_iff] at hb
    have hk : kd n w i = 2 := by
      rcases h3 with ⟨a1, a2⟩ | ⟨a1, a2⟩
      · omega
      · exact a2
    unfold rtx
    rw [top_self hw hi h2, if_pos hk, hb]
theorem rtx_tq {S : GS} (g : GOK S) {t q : Int} (hn : nd (S.1.1) (S.1.2.1) t q ≠ -1) {i : Nat} (hi : i < S.1.1) (e : rtx (S.1.1) (S.1.2.1) i = nd (S.1.1) (S.1.2.1) t q) : S.1.2.1 i 1 = t ∧ rno (S.1.1) (S.1.2.1) i = q := by
  have rn := g.1.n
  refine ⟨?_, by rw [← rno_num g.w hi, e, nd_num g.w hn]⟩
  have ht := top_tr g i hi
  have hs := top_sp g.w i hi
  rw [← ht]
  unfold rtx at e
  by_cases c : kd (S.1.1) (S.1.2.1) (top (S.1.1) (S.1.2.1) i) = 2
  · rw [if_pos c] at e
    exact ((nd_ch g.w hn hs.1).mpr e).2
  · rw [if_neg c] at e
    generalize top (S.1.1) (S.1.2.1) i = r at *
    have r2 := hfn_rg (hl (S.1.1) (S.1.2.1) (S.1.1)) t (q - 1000)
    unfold nd at e
    by_cases c1 : q < 1000
    · rw [if_pos c1] at e
      by_cases c2 : fnd (S.1.1) (S.1.2.1) q = -1
      · rw [if_pos c2] at e; omega
      rw [if_neg c2] at e
      by_cases c3 : S.1.2.1 (fnd (S.1.1) (S.1.2.1) q).toNat 1 = t
      · rw [if_pos c3] at e
        rw [← e, Int.toNat_natCast] at c3
        exact c3
      · rw [if_neg c3] at e; omega
    · rw [if_neg c1] at e
      split at e
      · split at e <;> omega
      · omega
theorem svc_path {S : GS} (g : GOK S) {t : Int} {q : Nat} (hR : RQ (S.1.1) (S.1.2.1) t q) (s : Int) : sgs (fun y => y < S.1.1 ∧ S.1.2.1 y.toNat 3 = s) (pa (S.1.1) (S.1.2.1) (nd (S.1.1) (S.1.2.1) t q)) (pa (S.1.1) (S.1.2.1) (nd (S.1.1) (S.1.2.1) t q)).length = smf (fun i => S.1.2.1 i 3 = s ∧ (S.1.2.1 i 1 = t ∧ rno (S.1.1) (S.1.2.1) i = q)) (ctm (S.1.1) (S.1.2.1)) (S.1.1) := by
  have rn := g.1.n
  have nx := nd_Nx g hR.1
  have kid : 40 ≤ nd (S.1.1) (S.1.2.1) t q → ∃ i, i < S.1.1 ∧ ab (S.1.1) (S.1.2.1) i = nd (S.1.1) (S.1.2.1) t q := fun h => by
    obtain ⟨i, hi, h1, h2, h3⟩ := (RQ_iff g.w).mp hR
    have e := rno_nd g hi
    rw [h1, h3] at e
    rw [e] at h ⊢
    exact rtx_kid g hi h
  have pm := fun k hk => pa_mem g nx kid (k := k) hk
  have A : ∀ k, k ≤ (pa (S.1.1) (S.1.2.1) (nd (S.1.1) (S.1.2.1) t q)).length → sgs (fun y => y < S.1.1 ∧ S.1.2.1 y.toNat 3 = s) (pa (S.1.1) (S.1.2.1) (nd (S.1.1) (S.1.2.1) t q)) k = smf (fun i => S.1.2.1 i 3 = s) (fun i => sgs (fun y => y = (i : Int)) (pa (S.1.1) (S.1.2.1) (nd (S.1.1) (S.1.2.1) t q)) k) (S.1.1) := by
    generalize pa (S.1.1) (S.1.2.1) (nd (S.1.1) (S.1.2.1) t q) = L at *
    intro k
    induction k with
    | zero =>
      intro _
      have : ∀ m, smf (fun i => S.1.2.1 i 3 = s) (fun i => sgs (fun y => y = (i : Int)) L 0) m = 0 := by
        intro m
        induction m with
        | zero => rfl
        | succ m ihm => rw [smf_succ, ihm]; show (if _ then (0 : Int) + 0 else 0) = 0; split <;> rfl
      rw [this]
      rfl
    | succ k ih =>
      intro hk
      have hy := (pm k (by omega)).1
      unfold Nx at hy
      rw [sgs_succ, ih (by omega)]
      by_cases c : (sg L k).1 < S.1.1 ∧ S.1.2.1 (sg L k).1.toNat 3 = s
      · rw [if_pos c]
        rw [← smf_upd (p := fun i => S.1.2.1 i 3 = s) (c := (sg L k).1.toNat) c.2 (S.1.1) (by omega)]
        refine smf_cg _ (fun i _ => Iff.rfl) (fun i hi _ => ?_)
        rw [sgs_succ]
        by_cases d : i = (sg L k).1.toNat
        · rw [if_pos d, if_pos (by omega)]
        · rw [if_neg d, if_neg (by omega)]
      · rw [if_neg c]
        refine smf_cg _ (fun i _ => Iff.rfl) (fun i hi hs => ?_)
        rw [sgs_succ, if_neg (fun z => c ⟨by omega, by rw [z, Int.toNat_natCast]; exact hs⟩)]
  rw [A _ (Nat.le_refl _), ← smf_if]
  refine smf_cg _ (fun i _ => Iff.rfl) (fun i hi _ => ?_)
  by_cases c : S.1.2.1 i 1 = t ∧ rno (S.1.1) (S.1.2.1) i = q
  · rw [if_pos c]
    have e := rno_nd g hi
    rw [c.1, c.2] at e
    rw [e]
    rfl
  · rw [if_neg c]
    refine sgs_none _ (Nat.le_refl _) (fun j hj z => c (rtx_tq g hR.1 hi ?_))
    obtain ⟨h1, -, -, h4⟩ := pm j hj
    rw [z] at h4
    unfold Nx at nx
    have hx : 40 ≤ nd (S.1.1) (S.1.2.1) t q ∨ (0 ≤ nd (S.1.1) (S.1.2.1) t q ∧ nd (S.1.1) (S.1.2.1) t q < S.1.1 ∧ ab (S.1.1) (S.1.2.1) (nd (S.1.1) (S.1.2.1) t q).toNat = -1) := by
      rcases hR.2 with y | y
      · exact Or.inl y
      · rcases nx with w | w
        · exact Or.inr ⟨w.1, w.2, y⟩
        · exact Or.inl w.1
    rcases h4 with h4 | ⟨c', a1, a2, a3⟩
    · have hxx : 0 ≤ nd (S.1.1) (S.1.2.1) t q ∧ nd (S.1.1) (S.1.2.1) t q < S.1.1 ∧ ab (S.1.1) (S.1.2.1) (nd (S.1.1) (S.1.2.1) t q).toNat = -1 := by
        rcases hx with y | y
        · omega
        · exact y
      rw [← h4, Int.toNat_natCast] at hxx
      have hk : kd (S.1.1) (S.1.2.1) i ≠ 1 ∧ kd (S.1.1) (S.1.2.1) i ≠ 2 := by
        rcases ab_tp g.w hi with ⟨b1, b2, b3⟩ | ⟨b1, b2, ⟨b3, b4⟩ | ⟨b3, b4⟩⟩ <;> omega
      rw [← h4]
      unfold rtx
      rw [top_self g.w hi hk.1, if_neg hk.2]
    · have : i = c' := by omega
      subst this
      exact bl_rtx g.w hx i hi a3
