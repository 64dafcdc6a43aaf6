-- the state of both, said once: what is told, what is remembered, what is saved, the shelves, the input, the kept error position
abbrev GS : Type := St × List St × Option St × (Nat → Nat → Int × Int) × List Int × Int
abbrev gl (l : List Int) (q : Nat) : Int := l.getD q 0
def GOK (S : GS) : Prop := SOK (S.1) ∧ (S.2.1).length ≤ 8 ∧ (∀ j, j < (S.2.1).length → SOK (hd (S.2.1) j)) ∧ (∀ s, S.2.2.1 = some s → SOK s) ∧
  (∀ k p, k < 2 → p < 4 → -1 ≤ (S.2.2.2.1 k p).1 ∧ (S.2.2.2.1 k p).1 < 4 ∧ 0 ≤ (S.2.2.2.1 k p).2 ∧ (S.2.2.2.1 k p).2 < 1100) ∧ (S.2.2.2.2.1).length ≤ 80 ∧ (∀ q, q < (S.2.2.2.2.1).length → 32 ≤ gl (S.2.2.2.2.1) q ∧ gl (S.2.2.2.2.1) q ≤ 126) ∧ -1 ≤ S.2.2.2.2.2 ∧ S.2.2.2.2.2 ≤ 80
/-- the class, but for what is worked out -/
def CSv (μ : Mem) (v : Option St) : Prop := match v with
  | none => (μ 2572 0 0) = J 0
  | some s => (μ 2572 0 0) = J 1 ∧ SS μ 1 s
def CMk (μ : Mem) (m : Nat → Nat → Int × Int) : Prop := ∀ k p, k < 2 → p < 4 → μ 2368 k p = J (m k p).1 ∧ ((m k p).1 ≠ -1 → μ 2368 (2 + k) p = J (m k p).2)
def CIn (μ : Mem) (l : List Int) : Prop := (μ 2433 0 0) = J l.length ∧ ∀ q, q < l.length → μ 2496 0 q = J (gl l q)
def CB (S : GS) (μ : Mem) : Prop := SS μ 0 (S.1) ∧ HV μ (S.2.1) ∧ CSv μ (S.2.2.1) ∧ CMk μ (S.2.2.2.1) ∧ CIn μ (S.2.2.2.2.1) ∧ (μ 2574 0 0) = J (S.2.2.2.2.2)
def CWk (s : St) (μ : Mem) : Prop := (μ 2573 0 0) = J 0 ∨ ((μ 2573 0 0) = J 1 ∧ Clk μ s.1 s.2.1 ∧ FV μ s.1 s.2.1)
def CI (S : GS) (μ : Mem) : Prop := CB S μ ∧ CWk (S.1) μ
/-- the reference, but for what is worked out -/
def MSv (μ : Mem) (v : Option St) : Prop := match v with
  | none => (μ 3206 0 0) = J 0
  | some s => (μ 3206 0 0) = J 1 ∧ MW (μ 3328 0) s
def MMk (μ : Mem) (m : Nat → Nat → Int × Int) : Prop := ∀ k p, k < 2 → p < 4 → μ 3520 0 (8 * k + 2 * p) = J (m k p).1 ∧ ((m k p).1 ≠ -1 → μ 3520 0 (8 * k + 2 * p + 1) = J (m k p).2)
def MIn (μ : Mem) (l : List Int) : Prop := (μ 3210 0 0) = J l.length ∧ ∀ q, q < l.length → μ 3584 0 q = J (gl l q)
def MB (S : GS) (μ : Mem) : Prop := MW (μ 3264 0) (S.1) ∧ MH μ (S.2.1) ∧ MSv μ (S.2.2.1) ∧ MMk μ (S.2.2.2.1) ∧ MIn μ (S.2.2.2.2.1) ∧ (μ 3211 0 0) = J (S.2.2.2.2.2)
def MKn (s : St) (μ : Mem) : Prop := (μ 3212 0 0) = J 0 ∨ ((μ 3212 0 0) = J 1 ∧ MClk μ s.1 s.2.1 ∧ MFo μ s.1 s.2.1)
def MI (S : GS) (μ : Mem) : Prop := MB S μ ∧ MKn (S.1) μ
/-- places of the class that say nothing of what it was told -/
def Dv (j : Nat) : Bool := (decide (832 ≤ j) && decide (j < 2368)) || j == 2573 || j == 2434 || decide (3200 ≤ j)
/-- of these, those that say nothing of what was worked out -/
def Dp (j : Nat) : Bool := (decide (1728 ≤ j) && decide (j < 2368)) || j == 2434 || decide (3200 ≤ j)
/-- places that are not the reference's words of what it was told -/
def Mv (j : Nat) : Bool := !([3264, 3328, 3456, 3206, 3207, 3520, 3584, 3210, 3211].contains j)
def Mp (j : Nat) : Bool := Mv j && !([3212, 3904, 3776, 3840, 3222, 4096, 4160, 3968, 4032].contains j)
theorem Bt.ne {js : List Nat} {μ μ' : Mem} (b : Bt js μ μ') {D : Nat → Bool} (h : ∀ j ∈ js, D j = true) {j : Nat} (hj : D j = false) : μ' j = μ j := b j (fun c => by rw [h j c] at hj; cases hj)
theorem SS.ev {μ μ' : Mem} {k : Nat} {s : St} (h : SS μ k s) (hf : ∀ j, j < 640 → μ' j = μ j) : SS μ' k s := h.at (fun j i hj => by rw [hf j hj])
theorem HV.ev {μ μ' : Mem} {Hs : List St} (h : HV μ Hs) (hf : ∀ j, j < 643 → μ' j = μ j) : HV μ' Hs := by
  obtain ⟨nx, h1, h2, h3, h4, h5⟩ := h
  exact ⟨nx, h1, h2, by rw [hf 641 (by omega)]; exact h3, by rw [hf 642 (by omega)]; exact h4, fun j hj => (h5 j hj).ev (fun i hi => hf i (by omega))⟩
theorem CSv.ev {μ μ' : Mem} {v : Option St} (h : CSv μ v) (h1 : μ' 2572 = μ 2572) (hf : ∀ j, j < 640 → μ' j = μ j) : CSv μ' v := by
  cases v with
  | none => show μ' 2572 0 0 = _; rw [h1]; exact h
  | some s => exact ⟨by rw [h1]; exact h.1, h.2.ev hf⟩
theorem CMk.ev {μ μ' : Mem} {m : Nat → Nat → Int × Int} (h : CMk μ m) (h1 : μ' 2368 = μ 2368) : CMk μ' m := fun k p hk hp => by rw [h1]; exact h k p hk hp
theorem CIn.ev {μ μ' : Mem} {l : List Int} (h : CIn μ l) (h1 : μ' 2433 = μ 2433) (h2 : μ' 2496 = μ 2496) : CIn μ' l := ⟨by rw [h1]; exact h.1, fun q hq => by rw [h2]; exact h.2 q hq⟩
theorem Dv_lt {j : Nat} (h : j < 832) : Dv j = false := by
  unfold Dv
  simp only [Bool.or_eq_false_iff, Bool.and_eq_false_iff, decide_eq_false_iff_not, beq_eq_false_iff_ne]
  omega
theorem Dp_lt {j : Nat} (h : j < 1728) : Dp j = false := by
  unfold Dp
  simp only [Bool.or_eq_false_iff, Bool.and_eq_false_iff, decide_eq_false_iff_not, beq_eq_false_iff_ne]
  omega
theorem CB.ev {S : GS} {μ μ' : Mem} (h : CB S μ) (b : ∀ j, Dv j = false → μ' j = μ j) : CB S μ' :=
  ⟨h.1.ev (fun j hj => b j (Dv_lt (by omega))), h.2.1.ev (fun j hj => b j (Dv_lt (by omega))), h.2.2.1.ev (b _ rfl) (fun j hj => b j (Dv_lt (by omega))), h.2.2.2.1.ev (b _ rfl), h.2.2.2.2.1.ev (b _ rfl) (b _ rfl), by rw [b _ rfl]; exact h.2.2.2.2.2⟩
theorem CB.bt {S : GS} {μ μ' : Mem} {js : List Nat} (h : CB S μ) (b : Bt js μ μ') (hj : ∀ j ∈ js, Dv j = true) : CB S μ' := h.ev (fun _ z => b.ne hj z)
theorem Clk.ev {μ μ' : Mem} {n : Nat} {w : View} (h : Clk μ n w) (h1 : μ' 832 = μ 832) (h2 : μ' 896 = μ 896) (h3 : μ' 960 = μ 960) : Clk μ' n w := ⟨fun i hi => by rw [h1]; exact h.1 i hi, fun i hi => by rw [h2]; exact h.2.1 i hi, fun i hi => by rw [h3]; exact h.2.2 i hi⟩
theorem FV.ev {μ μ' : Mem} {n : Nat} {w : View} (h : FV μ n w) (b : ∀ j, j < 1728 → μ' j = μ j) : FV μ' n w := by
  obtain ⟨a, c, d, e⟩ := h
  refine ⟨fun i hi => ?_, fun i hi => ?_, fun i hi => ?_, ?_⟩
  · rw [b _ (by omega), b _ (by omega), b _ (by omega)]; exact a i hi
  · rw [b _ (by omega), b _ (by omega), b _ (by omega)]; exact c i hi
  · rw [b _ (by omega)]; exact d i hi
  · rw [b _ (by omega)]; exact e
theorem CWk.ev {s : St} {μ μ' : Mem} (h : CWk s μ) (b : ∀ j, Dp j = false → μ' j = μ j) : CWk s μ' := by
  rcases h with h | ⟨h1, h2, h3⟩
  · exact Or.inl (by rw [b _ rfl]; exact h)
  · exact Or.inr ⟨by rw [b _ rfl]; exact h1, h2.ev (b _ rfl) (b _ rfl) (b _ rfl), h3.ev (fun j hj => b j (Dp_lt hj))⟩
theorem Dp_Dv {j : Nat} (h : Dv j = false) : Dp j = false := by
  unfold Dv at h
  unfold Dp
  simp only [Bool.or_eq_false_iff, Bool.and_eq_false_iff, decide_eq_false_iff_not, beq_eq_false_iff_ne] at h ⊢
  omega
/-- the class's state looks at its own places alone -/
theorem CI.ev {S : GS} {μ μ' : Mem} (h : CI S μ) (b : ∀ j, Dp j = false → μ' j = μ j) : CI S μ' := ⟨h.1.ev (fun j hj => b j (Dp_Dv hj)), h.2.ev b⟩
theorem CI.bt {S : GS} {μ μ' : Mem} {js : List Nat} (h : CI S μ) (b : Bt js μ μ') (hj : ∀ j ∈ js, Dp j = true) : CI S μ' := h.ev (fun _ z => b.ne hj z)
theorem MW.ev {μ μ' : Mem} {j : Nat} {s : St} (h : MW (μ j 0) s) (e : μ' j = μ j) : MW (μ' j 0) s := by rw [e]; exact h
theorem MB.ev {S : GS} {μ μ' : Mem} (h : MB S μ) (b : ∀ j, Mv j = false → μ' j = μ j) : MB S μ' := by
  obtain ⟨h1, h2, h3, h4, h5, h6⟩ := h
  refine ⟨h1.ev (b _ rfl), ⟨h2.1, by rw [b _ rfl]; exact h2.2.1, fun j hj => by have := h2.2.2 j hj; rw [← b 3456 rfl] at this; exact this⟩, ?_, fun k p hk hp => by rw [b _ rfl]; exact h4 k p hk hp, ⟨by rw [b _ rfl]; exact h5.1, fun q hq => by rw [b _ rfl]; exact h5.2 q hq⟩, by rw [b _ rfl]; exact h6⟩
  obtain ⟨t, hs, v, m, i, e⟩ := S
  cases v with
  | none => show μ' 3206 0 0 = _; rw [b _ rfl]; exact h3
  | some s => exact ⟨by rw [b _ rfl]; exact h3.1, h3.2.ev (b _ rfl)⟩
theorem MB.bt {S : GS} {μ μ' : Mem} {js : List Nat} (h : MB S μ) (b : Bt js μ μ') (hj : ∀ j ∈ js, Mv j = true) : MB S μ' := h.ev (fun _ z => b.ne hj z)
theorem MClk.ev {μ μ' : Mem} {n : Nat} {w : View} (h : MClk μ n w) (h1 : μ' 3904 = μ 3904) (h2 : μ' 3776 = μ 3776) (h3 : μ' 3840 = μ 3840) : MClk μ' n w := ⟨fun i hi => by rw [h1]; exact h.1 i hi, fun i hi => by rw [h2]; exact h.2.1 i hi, fun i hi => by rw [h3]; exact h.2.2 i hi⟩
theorem MFo.ev {μ μ' : Mem} {n : Nat} {w : View} (h : MFo μ n w) (h1 : μ' 3222 = μ 3222) (h2 : μ' 4096 = μ 4096) (h3 : μ' 4160 = μ 4160) (h4 : μ' 3968 = μ 3968) (h5 : μ' 4032 = μ 4032) : MFo μ' n w :=
  ⟨⟨by rw [h1]; exact h.1.1, fun i hi => by rw [h2, h3]; exact h.1.2 i hi⟩, fun i hi => by rw [h4, h5]; exact h.2 i hi⟩
theorem MKn.ev {s : St} {μ μ' : Mem} (h : MKn s μ) (b : ∀ j, Mp j = false → μ' j = μ j) : MKn s μ' := by
  rcases h with h | ⟨h1, h2, h3⟩
  · exact Or.inl (by rw [b _ rfl]; exact h)
  · exact Or.inr ⟨by rw [b _ rfl]; exact h1, h2.ev (b _ rfl) (b _ rfl) (b _ rfl), h3.ev (b _ rfl) (b _ rfl) (b _ rfl) (b _ rfl) (b _ rfl)⟩
theorem Mp_Mv {j : Nat} (h : Mv j = false) : Mp j = false := by unfold Mp; rw [h]; rfl
theorem MI.ev {S : GS} {μ μ' : Mem} (h : MI S μ) (b : ∀ j, Mp j = false → μ' j = μ j) : MI S μ' := ⟨h.1.ev (fun j hj => b j (Mp_Mv hj)), h.2.ev b⟩
theorem MI.bt {S : GS} {μ μ' : Mem} {js : List Nat} (h : MI S μ) (b : Bt js μ μ') (hj : ∀ j ∈ js, Mp j = true) : MI S μ' := h.ev (fun _ z => b.ne hj z)
/-- the other side, and the law's rows, are as before -/
def FrC (μ μ' : Mem) : Prop := ∀ j, 3200 ≤ j → μ' j = μ j
def FrM (μ μ' : Mem) : Prop := ∀ j, j < 3200 ∨ 5120 ≤ j → μ' j = μ j
theorem FrC.rf {μ : Mem} : FrC μ μ := fun _ _ => rfl
theorem FrC.tr {μ μ1 μ2 : Mem} (h : FrC μ μ1) (g : FrC μ1 μ2) : FrC μ μ2 := fun j hj => (g j hj).trans (h j hj)
theorem FrM.rf {μ : Mem} : FrM μ μ := fun _ _ => rfl
theorem FrM.tr {μ μ1 μ2 : Mem} (h : FrM μ μ1) (g : FrM μ1 μ2) : FrM μ μ2 := fun j hj => (g j hj).trans (h j hj)
theorem Bt.frC {js : List Nat} {μ μ' : Mem} (b : Bt js μ μ') (hj : ∀ j ∈ js, j < 3200) : FrC μ μ' := fun j h => b j (fun c => by have := hj j c; omega)
theorem Bt.frM {js : List Nat} {μ μ' : Mem} (b : Bt js μ μ') (hj : ∀ j ∈ js, 3200 ≤ j ∧ j < 5120) : FrM μ μ' := fun j h => b j (fun c => by have := hj j c; omega)
theorem MI_FrC {S : GS} {μ μ' : Mem} (h : MI S μ) (f : FrC μ μ') : MI S μ' := h.ev (fun j hj => f j (by
  refine Nat.le_of_not_lt (fun c => ?_)
  revert hj
  unfold Mp Mv
  have e : ∀ l : List Nat, (∀ x ∈ l, 3200 ≤ x) → l.contains j = false := fun l hl => by
    rw [List.contains_eq_mem]
    exact decide_eq_false (fun hm => by have := hl j hm; omega)
  rw [e _ (by decide), e _ (by decide)]
  simp))
theorem CI_FrM {S : GS} {μ μ' : Mem} (h : CI S μ) (f : FrM μ μ') : CI S μ' := h.ev (fun j hj => f j (by
  unfold Dp at hj
  simp only [Bool.or_eq_false_iff, decide_eq_false_iff_not] at hj
  omega))
-- what is asked of a call's two answers
abbrev OpR (α : Type) : Type := GS × (α ⊕ (String × Int))
def CRes {α β : Type} (en : α → β) (r : OpR α) (μ : Mem) (P : β → Mem → Prop) (X : String → Mem → Prop) : Prop := ∀ μ' : Mem, FrC μ μ' → CI r.1 μ' → match r.2 with
  | .inl z => P (en z) μ'
  | .inr e => X e.1 μ'
def MAns {α β : Type} (en : α → β) (o : α ⊕ (String × Int)) (v : β) (μ : Mem) : Prop := match o with
  | .inl z => (μ 3201 0 0) = J 0 ∧ v = en z
  | .inr e => (μ 3201 0 0) = J e.2
def MRes {α β : Type} (en : α → β) (r : OpR α) (μ : Mem) (P : β → Mem → Prop) : Prop := ∀ (v : β) (μ' : Mem), FrM μ μ' → MI r.1 μ' → MAns en r.2 v μ' → P v μ'
abbrev xIA : String := "java/lang/IllegalArgumentException"
abbrev xIS : String := "java/lang/IllegalStateException"
abbrev xIO : String := "java/lang/IndexOutOfBoundsException"
abbrev xNE : String := "java/util/NoSuchElementException"
abbrev xAR : String := "java/lang/ArithmeticException"
abbrev xUO : String := "java/lang/UnsupportedOperationException"
abbrev ok {α : Type} (S : GS) (z : α) : OpR α := (S, .inl z)
abbrev thw {α : Type} (S : GS) (E : String) (c : Int) : OpR α := (S, .inr (E, c))
theorem GOK.t {S : GS} (h : GOK S) : SOK (S.1) := h.1
theorem GOK.w {S : GS} (h : GOK S) : WF (S.1).1 (S.1).2.1 := h.1.1
theorem SS.v {μ : Mem} {k : Nat} {s : St} (h : SS μ k s) : SV μ k s.1 s.2.1 := h.1
/-- what follows is there after workOut -/
theorem workOut_spec {S : GS} {μ : Mem} (hc : CI S μ) (g : GOK S) {P : Mem → Prop} (h : ∀ μ', FrC μ μ' → CI S μ' → Clk μ' (S.1).1 (S.1).2.1 → FV μ' (S.1).1 (S.1).2.1 → P μ') : w8_workOut_wp μ P := by
  unfold w8_workOut_wp
  obtain ⟨hb, hw⟩ := hc
  rcases hw with hw | ⟨h1, h2, h3⟩
  · refine ⟨fun c => absurd (show μ 2573 0 0 = 0 from hw) c, fun _ => ?_⟩
    refine solve_spec hb.1.1 g.w (fun μ1 b1 k1 => ?_)
    refine build_spec (hb.1.1.bt b1 (by decide)) g.w k1.2.1 (fun μ2 b2 k2 => ?_)
    rintro μ3 rfl
    have b3 : Bt [2573] μ2 (up μ2 2573 0 0 1) := Bt.up (by decide)
    have b12 : Bt [832, 896, 960, 1088, 1216, 1280, 1344, 1408, 1472, 1536, 1600, 1664, 2573] μ (up μ2 2573 0 0 1) := ((b1.mo (by decide)).tr (b2.mo (by decide))).tr (b3.mo (by decide))
    have k3 : Clk (up μ2 2573 0 0 1) (S.1).1 (S.1).2.1 := (k1.ev (b2 _ (by decide)) (b2 _ (by decide)) (b2 _ (by decide))).ev (b3 _ (by decide)) (b3 _ (by decide)) (b3 _ (by decide))
    have f3 : FV (up μ2 2573 0 0 1) (S.1).1 (S.1).2.1 := k2.ev (fun j hj => b3 _ (by simp; omega))
    exact h _ (b12.frC (by decide)) ⟨hb.bt b12 (by decide), Or.inr ⟨up_self, k3, f3⟩⟩ k3 f3
  · have h1' : μ 2573 0 0 = J 1 := h1
    rw [h1']
    exact ⟨fun _ => h μ FrC.rf ⟨hb, Or.inr ⟨h1, h2, h3⟩⟩ h2 h3, fun c => absurd c (by decide)⟩
theorem knows_spec {S : GS} {μ : Mem} (hc : MI S μ) (g : GOK S) {P : Mem → Prop} (h : ∀ μ', FrM μ μ' → μ' 3201 = μ 3201 → MI S μ' → MClk μ' (S.1).1 (S.1).2.1 → MFo μ' (S.1).1 (S.1).2.1 → P μ') : w9_knows_wp μ P := by
  unfold w9_knows_wp
  obtain ⟨hb, hw⟩ := hc
  rcases hw with hw | ⟨h1, h2, h3⟩
  · refine ⟨fun _ => ?_, fun c => absurd (show μ 3212 0 0 = 0 from hw) c⟩
    refine m_clocks_spec hb.1 g.w (fun μ2 b1 k1 => ?_)
    refine plants_spec (s := S.1) (hb.1.bt b1 (by decide)) g.w (fun μ3 b2 k2 => ?_)
    rintro μ4 rfl
    have b3 : Bt [3212] μ3 (up μ3 3212 0 0 1) := Bt.up (by decide)
    have b12 : Bt [3648, 3712, 3904, 3776, 3840, 3222, 3968, 4032, 4096, 4160, 3212] μ (up μ3 3212 0 0 1) := ((b1.mo (by decide)).tr (b2.mo (by decide))).tr (b3.mo (by decide))
    have k3 : MClk (up μ3 3212 0 0 1) (S.1).1 (S.1).2.1 := (k1.ev (b2 _ (by decide)) (b2 _ (by decide)) (b2 _ (by decide))).ev (b3 _ (by decide)) (b3 _ (by decide)) (b3 _ (by decide))
    have f3 : MFo (up μ3 3212 0 0 1) (S.1).1 (S.1).2.1 := k2.ev (b3 _ (by decide)) (b3 _ (by decide)) (b3 _ (by decide)) (b3 _ (by decide)) (b3 _ (by decide))
    exact h _ (b12.frM (by decide)) (b12 _ (by decide)) ⟨hb.bt b12 (by decide), Or.inr ⟨up_self, k3, f3⟩⟩ k3 f3
  · have h1' : μ 3212 0 0 = J 1 := h1
    rw [h1']
    exact ⟨fun c => absurd c (by decide), fun _ => h μ FrM.rf rfl ⟨hb, Or.inr ⟨h1, h2, h3⟩⟩ h2 h3⟩
