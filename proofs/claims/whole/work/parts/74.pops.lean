-- calls on critical paths
theorem wk_mem {S : GS} (g : GOK S) : ∀ (d : Nat) (x f t : Int), Nx S x → Rn f → Rn t → ∀ y, y ∈ wk (S.1.1) (S.1.2.1) d x f t → Nx S y.1 ∧ Rn y.2.1 ∧ Rn y.2.2 ∧ (y.1 = x ∨ ∃ c : Nat, c < S.1.1 ∧ y.1 = c ∧ bl (S.1.1) (S.1.2.1) x c = true) := by
  intro d
  induction d with
  | zero => intro x f t _ _ _ y hy; exact absurd hy List.not_mem_nil
  | succ d ih =>
    intro x f t hx hf ht y hy
    unfold wk at hy
    by_cases c1 : t ≤ f
    · rw [if_pos c1] at hy; exact absurd hy List.not_mem_nil
    rw [if_neg c1] at hy
    rcases lat_cs (S.1.1) (S.1.2.1) x f t with el | ⟨c, el, hc, e1, e2⟩
    · rw [if_pos el] at hy
      have := List.mem_singleton.mp hy
      subst this
      exact ⟨hx, hf, ht, Or.inl rfl⟩
    · have hne : ¬ lat (S.1.1) (S.1.2.1) x f t = -1 := by omega
      rw [if_neg hne, el, Int.toNat_natCast] at hy
      have rc := cb_Rn g.w hc hf
      have re := ce_Rn g.w hc ht
      rcases List.mem_append.mp hy with z | z
      · by_cases c2 : t ≤ ce (S.1.1) (S.1.2.1) t c
        · rw [if_pos c2] at z; exact absurd z List.not_mem_nil
        · rw [if_neg c2] at z
          have := List.mem_singleton.mp z
          subst this
          exact ⟨hx, re, ht, Or.inl rfl⟩
      · rcases List.mem_append.mp z with z | z
        · obtain ⟨h1, h2, h3, h4⟩ := ih c _ _ (Or.inl ⟨by omega, by omega⟩) rc re y z
          refine ⟨h1, h2, h3, Or.inr ?_⟩
          rcases h4 with h4 | ⟨c', a1, a2, a3⟩
          · exact ⟨c, hc, h4, bl_self g.w hc e1⟩
          · exact ⟨c', a1, a2, bl_tr g.w hc e1 c' a1 a3⟩
        · exact ih x _ _ hx hf rc y z
theorem sg_mem {L : List Sg} {k : Nat} (h : k < L.length) : sg L k ∈ L := by
  have : sg L k = L[k] := by simp [sg, List.getD, h]
  rw [this]
  exact List.getElem_mem h
theorem pa_mem {S : GS} (g : GOK S) {x : Int} (hx : Nx S x) (he : 40 ≤ x → ∃ i, i < S.1.1 ∧ ab (S.1.1) (S.1.2.1) i = x) {k : Nat} (hk : k < (pa (S.1.1) (S.1.2.1) x).length) : Nx S (sg (pa (S.1.1) (S.1.2.1) x) k).1 ∧ Rn (sg (pa (S.1.1) (S.1.2.1) x) k).2.1 ∧ Rn (sg (pa (S.1.1) (S.1.2.1) x) k).2.2 ∧ ((sg (pa (S.1.1) (S.1.2.1) x) k).1 = x ∨ ∃ c : Nat, c < S.1.1 ∧ (sg (pa (S.1.1) (S.1.2.1) x) k).1 = c ∧ bl (S.1.1) (S.1.2.1) x c = true) := by
  obtain ⟨r1, r2⟩ := nb_Rn g hx he
  exact wk_mem g 42 x _ _ hx r1 r2 _ (sg_mem hk)
theorem pa_len {S : GS} (g : GOK S) {x : Int} (hx : 0 ≤ x) : (pa (S.1.1) (S.1.2.1) x).length ≤ 81 := wk_82 g.w 42 x _ _ hx
theorem num_inj {S : GS} (g : GOK S) {x : Int} (hx : Nx S x) {i : Nat} (hi : i < S.1.1) : num (S.1.1) (S.1.2.1) x = S.1.2.1 i 0 ↔ x = i := by
  have rn := g.1.n
  have ri := g.w.r i hi
  unfold num
  rcases hx with hx | hx
  · rw [if_pos (by omega)]
    constructor
    · intro e
      have := g.w.2.2 x.toNat i (by omega) hi e
      omega
    · intro e; rw [e, Int.toNat_natCast]
  · have := hl_rg g.w (Nat.le_refl _) (x - 40).toNat (by omega)
    rw [if_neg (by omega)]
    constructor
    · intro e; omega
    · intro e; omega
theorem top_tr {S : GS} (g : GOK S) : ∀ i, i < S.1.1 → S.1.2.1 (top (S.1.1) (S.1.2.1) i) 1 = S.1.2.1 i 1 := by
  refine tind g.w (fun i hi ih => ?_)
  rw [top_eq g.w hi]
  split
  · rfl
  · rename_i c
    rw [ih (by omega)]
    have e : tp (S.1.1) (S.1.2.1) i = pp (S.1.1) (S.1.2.1) i := by
      rcases ab_tp g.w hi with ⟨a1, a2, a3⟩ | ⟨a1, a2, a3⟩
      · rw [tp_kd g.w, if_pos a3]
      · omega
    rw [e]
    exact (pp_cs (by omega)).2
theorem rno_nd {S : GS} (g : GOK S) {i : Nat} (hi : i < S.1.1) : nd (S.1.1) (S.1.2.1) (S.1.2.1 i 1) (rno (S.1.1) (S.1.2.1) i) = rtx (S.1.1) (S.1.2.1) i := by
  have rn := g.1.n
  have t := top_sp g.w i hi
  have r := g.w.r _ t.1
  have tt := top_tr g i hi
  unfold rno rtx
  by_cases c : kd (S.1.1) (S.1.2.1) (top (S.1.1) (S.1.2.1) i) = 2
  · rw [if_pos c, if_pos c]
    have k2 : S.1.2.1 (top (S.1.1) (S.1.2.1) i) 2 ≠ -1 := fun z => by unfold kd at c; rw [if_pos z] at c; omega
    have hk := (hl_inv (S.1.1) (S.1.2.1) (S.1.1)).2.2.2 _ t.1 c
    unfold nd ab
    rw [if_neg (by omega), if_pos (by omega), ← tt, show 1000 + S.1.2.1 (top (S.1.1) (S.1.2.1) i) 2 - 1000 = S.1.2.1 (top (S.1.1) (S.1.2.1) i) 2 by omega, if_neg hk, if_neg (by omega), if_pos c]
  · rw [if_neg c, if_neg c]
    unfold nd
    rw [if_pos (by omega), fnd_at g.w t.1, if_neg (by omega), Int.toNat_natCast, if_pos tt]
theorem rtx_kid {S : GS} (g : GOK S) {i : Nat} (hi : i < S.1.1) : 40 ≤ rtx (S.1.1) (S.1.2.1) i → ∃ j, j < S.1.1 ∧ ab (S.1.1) (S.1.2.1) j = rtx (S.1.1) (S.1.2.1) i := by
  intro h
  have rn := g.1.n
  have t := top_sp g.w i hi
  unfold rtx at h ⊢
  by_cases c : kd (S.1.1) (S.1.2.1) (top (S.1.1) (S.1.2.1) i) = 2
  · rw [if_pos c]; exact ⟨_, t.1, rfl⟩
  · rw [if_neg c] at h; omega
/-- a sum over the rows whose node has p -/
def sgs (p : Int → Prop) [DecidablePred p] (L : List Sg) : Nat → Int := it (fun k s => if p (sg L k).1 then s + ((sg L k).2.2 - (sg L k).2.1) else s) 0
theorem sgs_succ (p : Int → Prop) [DecidablePred p] (L : List Sg) (k : Nat) : sgs p L (k + 1) = if p (sg L k).1 then sgs p L k + ((sg L k).2.2 - (sg L k).2.1) else sgs p L k := rfl
theorem sgs_rg (p : Int → Prop) [DecidablePred p] {L : List Sg} (h : ∀ k, k < L.length → Rn (sg L k).2.1 ∧ Rn (sg L k).2.2) : ∀ k, k ≤ L.length → -(1200000 * (k : Int)) ≤ sgs p L k ∧ sgs p L k ≤ 1200000 * (k : Int) := by
  intro k
  induction k with
  | zero => intro _; exact ⟨by show -(1200000 * ((0 : Nat) : Int)) ≤ 0; omega, by show (0 : Int) ≤ _; omega⟩
  | succ k ih =>
    intro hk
    have a := ih (by omega)
    have b := h k (by omega)
    unfold Rn at b
    rw [sgs_succ]
    split <;> omega
/-- the first row at a time -/
def fat (L : List Sg) (tm : Int) : Nat → Nat → Int
  | 0, _ => -1
  | d + 1, k => if (sg L k).2.1 ≤ tm ∧ tm < (sg L k).2.2 then (k : Int) else fat L tm d (k + 1)
theorem fat_step {L : List Sg} {tm : Int} {d k : Nat} : fat L tm (d + 1) k = if (sg L k).2.1 ≤ tm ∧ tm < (sg L k).2.2 then (k : Int) else fat L tm d (k + 1) := rfl
theorem fat_cs {L : List Sg} {tm : Int} : ∀ d k, fat L tm d k = -1 ∨ (k ≤ fat L tm d k ∧ fat L tm d k < k + d) := by
  intro d
  induction d with
  | zero => intro k; exact Or.inl rfl
  | succ d ih =>
    intro k
    unfold fat
    split
    · exact Or.inr (by omega)
    · rcases ih (k + 1) with e | e
      · exact Or.inl e
      · exact Or.inr (by omega)
def op_segments (S : GS) (t q : Int) : OpR Int := if 0 ≤ t ∧ t < 4 then (if nd (S.1.1) (S.1.2.1) t q = -1 then thw S xNE 2 else ok S ((pa S.1.1 S.1.2.1 (nd S.1.1 S.1.2.1 t q))).length) else thw S xIO 1
def op_segment (S : GS) (t q k v : Int) : OpR Int := if 0 ≤ t ∧ t < 4 then (if 0 ≤ v ∧ v < 3 then (if nd (S.1.1) (S.1.2.1) t q = -1 then thw S xNE 3 else if 0 ≤ k ∧ k < ((pa S.1.1 S.1.2.1 (nd S.1.1 S.1.2.1 t q))).length then ok S (if v = 0 then num (S.1.1) (S.1.2.1) (sg ((pa S.1.1 S.1.2.1 (nd S.1.1 S.1.2.1 t q))) (((pa S.1.1 S.1.2.1 (nd S.1.1 S.1.2.1 t q))).length - 1 - k).toNat).1 else if v = 1 then (sg ((pa S.1.1 S.1.2.1 (nd S.1.1 S.1.2.1 t q))) (((pa S.1.1 S.1.2.1 (nd S.1.1 S.1.2.1 t q))).length - 1 - k).toNat).2.1 else (sg ((pa S.1.1 S.1.2.1 (nd S.1.1 S.1.2.1 t q))) (((pa S.1.1 S.1.2.1 (nd S.1.1 S.1.2.1 t q))).length - 1 - k).toNat).2.2) else thw S xNE 3) else thw S xIA 2) else thw S xIO 1
def ctm (n : Nat) (w : View) (i : Nat) : Int := sgs (fun y => y = (i : Int)) (pa n w (rtx n w i)) (pa n w (rtx n w i)).length
def op_criticalTime (S : GS) (z : Int) : OpR Int := if (fnd S.1.1 S.1.2.1 z) = -1 then thw S xIO 1 else ok S (ctm (S.1.1) (S.1.2.1) ((fnd S.1.1 S.1.2.1 z)).toNat)
def op_criticalAt (S : GS) (t q m : Int) : OpR Int := if 0 ≤ t ∧ t < 4 then (if nd (S.1.1) (S.1.2.1) t q = -1 then thw S xNE 2 else if fat ((pa S.1.1 S.1.2.1 (nd S.1.1 S.1.2.1 t q))) m ((pa S.1.1 S.1.2.1 (nd S.1.1 S.1.2.1 t q))).length 0 = -1 then thw S xNE 2 else ok S (num (S.1.1) (S.1.2.1) (sg ((pa S.1.1 S.1.2.1 (nd S.1.1 S.1.2.1 t q))) (fat ((pa S.1.1 S.1.2.1 (nd S.1.1 S.1.2.1 t q))) m ((pa S.1.1 S.1.2.1 (nd S.1.1 S.1.2.1 t q))).length 0).toNat).1)) else thw S xIO 1
theorem c_segments {S : GS} {μ : Mem} (hc : CI S μ) (g : GOK S) {t q : Int} (ht : (-2147483648 ≤ t ∧ t ≤ 2147483647)) (hq : (-2147483648 ≤ q ∧ q ≤ 2147483647)) {P : Int32 → Mem → Prop} {X : String → Mem → Prop} (h : CRes J (op_segments S t q) μ P X) : w8_segments_wp μ (J t) (J q) P X := by
  unfold op_segments at h
  unfold w8_segments_wp
  refine findNode_spec hc g ht hq (fun c => by rw [if_neg c] at h; exact h μ FrC.rf hc) (fun c c2 μ' f k => by rw [if_pos c, if_pos c2] at h; exact h μ' f k.1) (fun c c2 μ' f k => ?_)
  rw [if_pos c, if_neg c2] at h
  refine c_follow_spec k g ht hq c2 (fun μ2 f2 k2 p2 => ?_)
  rw [show μ2 1729 0 0 = _ from p2.1]
  exact h μ2 (f.tr f2) k2.1
theorem c_segment {S : GS} {μ : Mem} (hc : CI S μ) (g : GOK S) {t q a v : Int} (ht : (-2147483648 ≤ t ∧ t ≤ 2147483647)) (hq : (-2147483648 ≤ q ∧ q ≤ 2147483647)) (ha : (-2147483648 ≤ a ∧ a ≤ 2147483647)) (hv : (-2147483648 ≤ v ∧ v ≤ 2147483647)) {P : Int32 → Mem → Prop} {X : String → Mem → Prop} (h : CRes J (op_segment S t q a v) μ P X) : w8_segment_wp μ (J t) (J q) (J a) (J v) P X := by
  unfold op_segment at h
  unfold w8_segment_wp
  refine checkTrace_spec ht (fun c => ?_) (fun c => by rw [if_neg c] at h; exact h μ FrC.rf hc)
  rw [if_pos c] at h
  refine isWithin_spec v 3 rfl rfl hv (by decide) (fun cv => ⟨fun _ => ?_, fun c => absurd c (by decide)⟩) (fun cv => ⟨fun c => absurd rfl c, fun _ => by rw [if_neg (by omega)] at h; exact h μ FrC.rf hc⟩)
  rw [if_pos (by omega)] at h
  refine findNode_spec hc g ht hq (fun c9 => absurd c c9) (fun c c2 μ' f k => by rw [if_pos c2] at h; exact h μ' f k.1) (fun c c2 μ' f k => ?_)
  rw [if_neg c2] at h
  have nx := nd_Nx g c2
  have kid := nd_kid g c2
  have pm := fun k hk => pa_mem g nx kid (k := k) hk
  clear kid
  have nx' := nx
  unfold Nx at nx'
  have pl := pa_len g (x := nd (S.1.1) (S.1.2.1) t q) (by omega)
  refine c_follow_spec k g ht hq c2 (fun μ2 f2 k2 p2 => ?_)
  have h := h
  have e0 : μ2 1729 0 0 = J ((pa S.1.1 S.1.2.1 (nd S.1.1 S.1.2.1 t q))).length := p2.1
  rw [e0]
  refine isWithin_spec a ((pa S.1.1 S.1.2.1 (nd S.1.1 S.1.2.1 t q))).length rfl rfl ha (by omega) (fun ca => ⟨fun _ => ?_, fun c => absurd c (by decide)⟩) (fun ca => ⟨fun c => absurd rfl c, fun _ => by rw [if_neg (by omega)] at h; exact h μ2 (f.tr f2) k2.1⟩)
  rw [if_pos (by omega)] at h
  unfold w5_rowOf_wp
  rw [e0]
  have pr := p2.2 (((pa S.1.1 S.1.2.1 (nd S.1.1 S.1.2.1 t q))).length - 1 - a).toNat (by omega)
  have pr1 : μ2 1792 0 (((pa S.1.1 S.1.2.1 (nd S.1.1 S.1.2.1 t q))).length - 1 - a).toNat = _ := pr.1
  have pr2 : μ2 1856 0 (((pa S.1.1 S.1.2.1 (nd S.1.1 S.1.2.1 t q))).length - 1 - a).toNat = _ := pr.2.1
  have pr3 : μ2 1920 0 (((pa S.1.1 S.1.2.1 (nd S.1.1 S.1.2.1 t q))).length - 1 - a).toNat = _ := pr.2.2
  simp (disch := omega) only [lJ0, lJ1, lJ2, lJ3, lJ4, lJ5, lJ6, lJ7, lJ8, lJ9, lJ10, lJ30, lJ32, lJ33, lJ39, lJ40, lJ41, lJ45, lJ47, lJ48, lJ51, lJ55, lJ57, lJ58, lJ59, lJ60, lJ64, lJ80, lJ82, lJ99, lJ100, lJ101, lJ123, lJ126, lJ282, lJ342, lJ1000, lJ1100, lJ2394, lJ2736, lJ9999, lJ10000, lJ1000000, lJ100000000, J_add, J_sub, J_mul, J_neg, J_le, J_lt, J_eq, J_in, J_clamp, Int.toNat_natCast, pr1, pr2, pr3]
  have h := h μ2 (f.tr f2) k2.1
  dsimp only at h
  refine ⟨fun d1 => ⟨fun d2 => ⟨by omega, ?_⟩, fun d2 => ⟨by omega, ?_⟩⟩, fun d1 => ⟨by omega, ?_⟩⟩
  · rw [if_neg d1, if_neg d2] at h; exact h
  · rw [if_neg d1, if_pos d2] at h; exact h
  · rw [if_pos d1] at h; exact h
theorem c_criticalTime {S : GS} {μ : Mem} (hc : CI S μ) (g : GOK S) {z : Int} (hz : (-2147483648 ≤ z ∧ z ≤ 2147483647)) {P : Int32 → Mem → Prop} {X : String → Mem → Prop} (h : CRes J (op_criticalTime S z) μ P X) : w8_criticalTime_wp μ (J z) P X := by
  unfold op_criticalTime at h
  unfold w8_criticalTime_wp
  have rn := g.1.n
  refine placeOf_spec hc.1.1 g hz (fun c => by rw [if_pos c] at h; exact h μ FrC.rf hc) (fun i hi ei ez => ?_)
  rw [if_neg (by omega), ei, Int.toNat_natCast] at h
  refine workOut_spec2 hc g (fun μ' f k => ?_)
  have s1 : SV μ' 0 (S.1.1) (S.1.2.1) := k.1.1.1.1
  have ri := g.w.r i hi
  have rr := rno_rg g.w hi
  have nx := rtx_Nx g hi
  have kid := rtx_kid g hi
  have pm := fun k hk => pa_mem g nx kid (k := k) hk
  have nx' := nx
  unfold Nx at nx'
  clear kid
  have pl := pa_len g (x := rtx (S.1.1) (S.1.2.1) i) (by omega)
  have enr := rno_nd g hi
  refine ⟨(J_in (by omega)).mpr (by omega), ?_⟩
  refine c_rootNumber_spec k g hi rfl ?_
  rw [J_nat_clamp (by omega), s1.i1 i hi]
  refine c_follow_spec k g (by omega) (by omega) (by rw [enr]; omega) (fun μ2 f2 k2 p2 => ?_)
  rw [enr] at p2
  unfold ctm at h
  have h := h μ2 (f.tr f2) k2.1
  dsimp only at h
  generalize rtx (S.1.1) (S.1.2.1) i = x at *
  intro R hR
  refine down (Q := fun r => R μ2 (J z) (J (sgs (fun y => y = (i : Int)) (pa (S.1.1) (S.1.2.1) x) r)) (J r)) (pa (S.1.1) (S.1.2.1) x).length (fun r hr ih => ?_)
  apply hR
  unfold w5_timeOf_b4_body
  have e0 : μ2 1729 0 0 = J (pa (S.1.1) (S.1.2.1) x).length := p2.1
  have sr := sgs_rg (fun y => y = (i : Int)) (L := pa (S.1.1) (S.1.2.1) x) (fun k hk => ⟨(pm k hk).2.1, (pm k hk).2.2.1⟩) r hr
  rcases Nat.lt_or_ge r (pa (S.1.1) (S.1.2.1) x).length with c | c
  · have ih := ih c
    have q := pm r c
    have pr1 : μ2 1792 0 r = _ := (p2.2 r c).1
    have pr2 : μ2 1856 0 r = _ := (p2.2 r c).2.1
    have pr3 : μ2 1920 0 r = _ := (p2.2 r c).2.2
    have rnum := num_rg g q.1
    have inj := num_inj g q.1 hi
    obtain ⟨q1, q2, q3, -⟩ := q
    unfold Rn at q2 q3
    rw [sgs_succ] at ih
    simp (disch := omega) only [lJ0, lJ1, lJ2, lJ3, lJ4, lJ5, lJ6, lJ7, lJ8, lJ9, lJ10, lJ30, lJ32, lJ33, lJ39, lJ40, lJ41, lJ45, lJ47, lJ48, lJ51, lJ55, lJ57, lJ58, lJ59, lJ60, lJ64, lJ80, lJ82, lJ99, lJ100, lJ101, lJ123, lJ126, lJ282, lJ342, lJ1000, lJ1100, lJ2394, lJ2736, lJ9999, lJ10000, lJ1000000, lJ100000000, J_add, J_sub, J_mul, J_neg, J_le, J_lt, J_eq, J_in, J_clamp, Int.toNat_natCast, e0, pr1, pr2, pr3]
    refine ⟨fun _ => by omega, fun _ => ⟨by omega, fun c2 => ?_, fun c2 => ⟨by omega, by omega, ?_⟩⟩⟩
    · rw [if_neg (fun y => c2 (by rw [← ez]; exact inj.mpr y))] at ih; exact ih
    · rw [if_pos (inj.mp (by rw [ez]; exact c2))] at ih; exact ih
  · have e9 : r = (pa (S.1.1) (S.1.2.1) x).length := by omega
    rw [e9]
    simp (disch := omega) only [lJ0, lJ1, lJ2, lJ3, lJ4, lJ5, lJ6, lJ7, lJ8, lJ9, lJ10, lJ30, lJ32, lJ33, lJ39, lJ40, lJ41, lJ45, lJ47, lJ48, lJ51, lJ55, lJ57, lJ58, lJ59, lJ60, lJ64, lJ80, lJ82, lJ99, lJ100, lJ101, lJ123, lJ126, lJ282, lJ342, lJ1000, lJ1100, lJ2394, lJ2736, lJ9999, lJ10000, lJ1000000, lJ100000000, J_add, J_sub, J_mul, J_neg, J_le, J_lt, J_eq, J_in, J_clamp, Int.toNat_natCast, e0]
    exact ⟨fun _ => h, fun c => absurd (Int.le_refl _) c⟩
theorem c_criticalAt {S : GS} {μ : Mem} (hc : CI S μ) (g : GOK S) {t q m : Int} (ht : (-2147483648 ≤ t ∧ t ≤ 2147483647)) (hq : (-2147483648 ≤ q ∧ q ≤ 2147483647)) (hm : (-2147483648 ≤ m ∧ m ≤ 2147483647)) {P : Int32 → Mem → Prop} {X : String → Mem → Prop} (h : CRes J (op_criticalAt S t q m) μ P X) : w8_criticalAt_wp μ (J t) (J q) (J m) P X := by
  unfold op_criticalAt at h
  unfold w8_criticalAt_wp
  refine findNode_spec hc g ht hq (fun c => by rw [if_neg c] at h; exact h μ FrC.rf hc) (fun c c2 μ' f k => by rw [if_pos c, if_pos c2] at h; exact h μ' f k.1) (fun c c2 μ' f k => ?_)
  rw [if_pos c, if_neg c2] at h
  have nx := nd_Nx g c2
  have kid := nd_kid g c2
  have pm := fun k hk => pa_mem g nx kid (k := k) hk
  clear kid
  have nx' := nx
  unfold Nx at nx'
  have pl := pa_len g (x := nd (S.1.1) (S.1.2.1) t q) (by omega)
  refine c_follow_spec k g ht hq c2 (fun μ2 f2 k2 p2 => ?_)
  have e0 : μ2 1729 0 0 = J ((pa S.1.1 S.1.2.1 (nd S.1.1 S.1.2.1 t q))).length := p2.1
  have pr : ∀ k, k < ((pa S.1.1 S.1.2.1 (nd S.1.1 S.1.2.1 t q))).length → μ2 1792 0 k = J (num (S.1.1) (S.1.2.1) (sg ((pa S.1.1 S.1.2.1 (nd S.1.1 S.1.2.1 t q))) k).1) ∧ μ2 1856 0 k = J (sg ((pa S.1.1 S.1.2.1 (nd S.1.1 S.1.2.1 t q))) k).2.1 ∧ μ2 1920 0 k = J (sg ((pa S.1.1 S.1.2.1 (nd S.1.1 S.1.2.1 t q))) k).2.2 := p2.2
  have pm : ∀ k, k < ((pa S.1.1 S.1.2.1 (nd S.1.1 S.1.2.1 t q))).length → Nx S (sg ((pa S.1.1 S.1.2.1 (nd S.1.1 S.1.2.1 t q))) k).1 ∧ Rn (sg ((pa S.1.1 S.1.2.1 (nd S.1.1 S.1.2.1 t q))) k).2.1 ∧ Rn (sg ((pa S.1.1 S.1.2.1 (nd S.1.1 S.1.2.1 t q))) k).2.2 ∧ _ := pm
  have fin : (fat ((pa S.1.1 S.1.2.1 (nd S.1.1 S.1.2.1 t q))) m ((pa S.1.1 S.1.2.1 (nd S.1.1 S.1.2.1 t q))).length 0 = -1 → X xNE μ2) ∧ (fat ((pa S.1.1 S.1.2.1 (nd S.1.1 S.1.2.1 t q))) m ((pa S.1.1 S.1.2.1 (nd S.1.1 S.1.2.1 t q))).length 0 ≠ -1 → P (J (num (S.1.1) (S.1.2.1) (sg ((pa S.1.1 S.1.2.1 (nd S.1.1 S.1.2.1 t q))) (fat ((pa S.1.1 S.1.2.1 (nd S.1.1 S.1.2.1 t q))) m ((pa S.1.1 S.1.2.1 (nd S.1.1 S.1.2.1 t q))).length 0).toNat).1)) μ2) := ⟨fun z => by rw [if_pos z] at h; exact h μ2 (f.tr f2) k2.1, fun z => by rw [if_neg z] at h; exact h μ2 (f.tr f2) k2.1⟩
  clear h p2
  generalize (pa S.1.1 S.1.2.1 (nd S.1.1 S.1.2.1 t q)) = L at *
  generalize hE : fat L m L.length 0 = E at fin
  intro R hR
  suffices H : ∀ d k : Nat, k + d = L.length → fat L m d k = E → R μ2 (J m) (J k) from H L.length 0 (by omega) hE
  intro d
  induction d with
  | zero =>
    intro k hk e
    apply hR
    unfold w5_nodeAt_b2_body
    have e : (-1 : Int) = E := e
    simp (disch := omega) only [lJ0, lJ1, lJ2, lJ3, lJ4, lJ5, lJ6, lJ7, lJ8, lJ9, lJ10, lJ30, lJ32, lJ33, lJ39, lJ40, lJ41, lJ45, lJ47, lJ48, lJ51, lJ55, lJ57, lJ58, lJ59, lJ60, lJ64, lJ80, lJ82, lJ99, lJ100, lJ101, lJ123, lJ126, lJ282, lJ342, lJ1000, lJ1100, lJ2394, lJ2736, lJ9999, lJ10000, lJ1000000, lJ100000000, J_add, J_sub, J_mul, J_neg, J_le, J_lt, J_eq, J_in, J_clamp, Int.toNat_natCast, e0]
    exact ⟨fun _ => ⟨fun z => absurd trivial z, fun _ => fin.1 e.symm⟩, fun z => absurd (by omega) z⟩
  | succ d ih =>
    intro k hk e
    apply hR
    unfold w5_nodeAt_b2_body
    obtain ⟨p1, p2, p3⟩ := pr k (by omega)
    obtain ⟨q1, q2, q3, -⟩ := pm k (by omega)
    have rnum := num_rg g q1
    unfold Rn at q2 q3
    rw [fat_step] at e
    simp (disch := omega) only [lJ0, lJ1, lJ2, lJ3, lJ4, lJ5, lJ6, lJ7, lJ8, lJ9, lJ10, lJ30, lJ32, lJ33, lJ39, lJ40, lJ41, lJ45, lJ47, lJ48, lJ51, lJ55, lJ57, lJ58, lJ59, lJ60, lJ64, lJ80, lJ82, lJ99, lJ100, lJ101, lJ123, lJ126, lJ282, lJ342, lJ1000, lJ1100, lJ2394, lJ2736, lJ9999, lJ10000, lJ1000000, lJ100000000, J_add, J_sub, J_mul, J_neg, J_le, J_lt, J_eq, J_in, J_clamp, Int.toNat_natCast, e0, p1, p2, p3]
    refine ⟨fun z => absurd z (by omega), fun _ => ⟨by omega, fun c3 => ?_, fun c3 => ⟨by omega, fun c4 => ?_, fun c4 => ⟨by omega, ?_⟩⟩⟩⟩
    · rw [if_neg (fun z => by omega)] at e; exact ih (k + 1) (by omega) e
    · rw [if_neg (fun z => by omega)] at e; exact ih (k + 1) (by omega) e
    · rw [if_pos ⟨by omega, by omega⟩] at e
      have := fin.2 (by omega)
      rw [← e, Int.toNat_natCast] at this
      exact ⟨fun _ => this, fun z => by omega⟩
