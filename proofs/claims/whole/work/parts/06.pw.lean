-- PW: the walk of a method's body over a pure memory. Mem: what every int field and every array holds, by place, number and index
abbrev Mem : Type := Nat → Nat → Nat → Int32
def up (μ : Mem) (j k i : Nat) (v : Int32) : Mem := fun j' k' => if j' = j ∧ k' = k then upd (μ j k) i v else μ j' k'
theorem up_same (μ : Mem) (j k i : Nat) (v : Int32) : up μ j k i v j k = upd (μ j k) i v := if_pos ⟨rfl, rfl⟩
theorem up_ne (μ : Mem) {j k i j' k' : Nat} {v : Int32} (h : ¬ (j' = j ∧ k' = k)) : up μ j k i v j' k' = μ j' k' := if_neg h
abbrev PV : Type := Int32 ⊕ ((Nat × Nat) ⊕ Value)
abbrev pI (i : Int32) : PV := .inl i
abbrev pR (j k : Nat) : PV := .inr (.inl (j, k))
abbrev pW (v : Value) : PV := .inr (.inr v)
def cv (ad : Nat → Nat → Nat) (v : PV) : Value := match v with
  | .inl i => .int i
  | .inr (.inl q) => .ref (ad q.1 q.2)
  | .inr (.inr w) => w
abbrev PSp : Type := (Nat × List (Option (Nat × Nat))) ⊕ (Nat × Nat × Option (Nat → Nat × Nat))
abbrev VT : Type := (Nat → Nat → Nat) × va_G × (Nat → ClassId)
def fl (ad : Nat → Nat → Nat) (μ : Mem) (j k : Nat) : Nat → List (Option (Nat × Nat)) → List Value
  | _, [] => []
  | f, none :: r => .int (μ (64 * j + f + 1) k 0) :: fl ad μ j k (f + 1) r
  | f, some q :: r => .ref (ad q.1 q.2) :: fl ad μ j k (f + 1) r
def dbl (hi lo : Int32) : UInt64 := UInt64.ofNat (hi.toUInt32.toNat * 4294967296 + lo.toUInt32.toNat)
def dHi (x : UInt64) : Int32 := Int32.ofNat (x.toNat / 4294967296)
def dLo (x : UInt64) : Int32 := Int32.ofNat (x.toNat % 4294967296)
theorem dbl_of (x : UInt64) : dbl (dHi x) (dLo x) = x := by
  have h1 : (dHi x).toUInt32.toNat = x.toNat / 4294967296 := by
    have hx := x.toNat_lt
    show (Int32.ofNat (x.toNat / 4294967296)).toUInt32.toNat = _
    rw [show (Int32.ofNat (x.toNat / 4294967296)).toUInt32 = UInt32.ofNat (x.toNat / 4294967296) from rfl, UInt32.toNat_ofNat']
    omega
  have h2 : (dLo x).toUInt32.toNat = x.toNat % 4294967296 := by
    show (Int32.ofNat (x.toNat % 4294967296)).toUInt32.toNat = _
    rw [show (Int32.ofNat (x.toNat % 4294967296)).toUInt32 = UInt32.ofNat (x.toNat % 4294967296) from rfl, UInt32.toNat_ofNat']
    omega
  unfold dbl
  rw [h1, h2]
  have : x.toNat / 4294967296 * 4294967296 + x.toNat % 4294967296 = x.toNat := by omega
  rw [this]
  exact UInt64.ofNat_toNat
/-- what an array holds -/
def ac (ad : Nat → Nat → Nat) (f : Nat → Int32) (a : Nat) (o : Option (Nat → Nat × Nat)) : (Nat → Int32) ⊕ (Nat → Int64) ⊕ (Nat → UInt32) ⊕ (Nat → UInt64) ⊕ (Nat → Option Nat) := match o with
  | some g => .inr (.inr (.inr (.inr (fun i => some (ad (g i).1 (g i).2)))))
  | none => if a = 6 then .inr (.inl (fun i => (f i).toInt64)) else if a = 7 then .inr (.inr (.inr (.inl (fun i => dbl (f (2 * i)) (f (2 * i + 1)))))) else .inl f
def aty (a : Nat) : FieldType := match a with
  | 0 => .byte
  | 1 => .char
  | 2 => .int
  | 3 => .boolean
  | 4 => .object "TraceAssembler$Store"
  | 5 => .array .int
  | 6 => .long
  | _ => .double
def tyL (V : VT) : List (ClassId × FieldType) := [(V.2.2 0, .byte), (V.2.2 1, .char), (V.2.2 2, .int), (V.2.2 3, .boolean), (V.2.2 4, .object "TraceAssembler$Store"), (V.2.2 5, .array .int), (V.2.2 6, .long), (V.2.2 7, .double)]
theorem tyL_at (V : VT) {a : Nat} (h : a < 8) : (tyL V)[a]? = some (V.2.2 a, aty a) := by
  match a, h with
  | 0, _ => rfl
  | 1, _ => rfl
  | 2, _ => rfl
  | 3, _ => rfl
  | 4, _ => rfl
  | 5, _ => rfl
  | 6, _ => rfl
  | 7, _ => rfl
def cc1 (V : VT) (μ : Mem) (j k : Nat) : va_E := match sp j k with
  | .inl o => .inr (o.1, fl V.1 μ j k 0 o.2)
  | .inr a => .inl (V.2.2 a.1, a.2.1, ac V.1 (μ (64 * j) k) a.1 a.2.2)
theorem cc1_obj {V : VT} {μ : Mem} {j k ci : Nat} {fs : List (Option (Nat × Nat))} (h : sp j k = .inl (ci, fs)) : cc1 V μ j k = .inr (ci, fl V.1 μ j k 0 fs) := by unfold cc1; rw [h]
theorem cc1_arr {V : VT} {μ : Mem} {j k a n : Nat} {o : Option (Nat → Nat × Nat)} (h : sp j k = .inr (a, n, o)) : cc1 V μ j k = .inl (V.2.2 a, n, ac V.1 (μ (64 * j) k) a o) := by unfold cc1; rw [h]
theorem fl_int {ad : Nat → Nat → Nat} {μ : Mem} {j k : Nat} : ∀ {fs : List (Option (Nat × Nat))} {f f0 : Nat}, fs[f]? = some none → (fl ad μ j k f0 fs)[f]? = some (.int (μ (64 * j + (f0 + f) + 1) k 0))
  | none :: r, 0, f0, _ => rfl
  | some q :: r, 0, f0, h => by simp at h
  | none :: r, f + 1, f0, h => by
    have h' : r[f]? = some none := h
    have := fl_int (ad := ad) (μ := μ) (j := j) (k := k) (f0 := f0 + 1) h'
    rw [show f0 + (f + 1) = f0 + 1 + f by omega]
    exact this
  | some q :: r, f + 1, f0, h => by
    have h' : r[f]? = some none := h
    have := fl_int (ad := ad) (μ := μ) (j := j) (k := k) (f0 := f0 + 1) h'
    rw [show f0 + (f + 1) = f0 + 1 + f by omega]
    exact this
  | [], f, f0, h => by simp at h
theorem fl_ref {ad : Nat → Nat → Nat} {μ : Mem} {j k : Nat} {q : Nat × Nat} : ∀ {fs : List (Option (Nat × Nat))} {f f0 : Nat}, fs[f]? = some (some q) → (fl ad μ j k f0 fs)[f]? = some (.ref (ad q.1 q.2))
  | none :: r, 0, f0, h => by simp at h
  | some q' :: r, 0, f0, h => by
    have : q' = q := by simpa using h
    subst this
    rfl
  | none :: r, f + 1, f0, h => fl_ref (fs := r) (f := f) (f0 := f0 + 1) h
  | some q' :: r, f + 1, f0, h => fl_ref (fs := r) (f := f) (f0 := f0 + 1) h
  | [], f, f0, h => by simp at h
theorem fl_len {ad : Nat → Nat → Nat} {μ : Mem} {j k : Nat} : ∀ {fs : List (Option (Nat × Nat))} {f0 : Nat}, (fl ad μ j k f0 fs).length = fs.length
  | [], _ => rfl
  | none :: r, f0 => by show (fl ad μ j k (f0 + 1) r).length + 1 = _; rw [fl_len]; rfl
  | some q :: r, f0 => by show (fl ad μ j k (f0 + 1) r).length + 1 = _; rw [fl_len]; rfl
theorem fl_out {ad : Nat → Nat → Nat} {μ μ' : Mem} {j k : Nat} : ∀ {fs : List (Option (Nat × Nat))} {f0 : Nat}, (∀ f, f0 ≤ f → f < f0 + fs.length → μ' (64 * j + f + 1) k 0 = μ (64 * j + f + 1) k 0) → fl ad μ' j k f0 fs = fl ad μ j k f0 fs
  | [], _, _ => rfl
  | none :: r, f0, h => by
    show Value.int _ :: _ = Value.int _ :: _
    rw [h f0 (Nat.le_refl _) (by simp), fl_out (fs := r) (f0 := f0 + 1) (fun f h1 h2 => h f (by omega) (by simp; omega))]
  | some q :: r, f0, h => by
    show Value.ref _ :: _ = Value.ref _ :: _
    rw [fl_out (fs := r) (f0 := f0 + 1) (fun f h1 h2 => h f (by omega) (by simp; omega))]
theorem fl_set {ad : Nat → Nat → Nat} {μ : Mem} {j k : Nat} {v : Int32} : ∀ {fs : List (Option (Nat × Nat))} {f f0 : Nat}, fs[f]? = some none → fl ad (up μ (64 * j + (f0 + f) + 1) k 0 v) j k f0 fs = (fl ad μ j k f0 fs).set f (.int v)
  | none :: r, 0, f0, _ => by
    show Value.int _ :: _ = Value.int v :: _
    rw [show 64 * j + (f0 + 0) + 1 = 64 * j + f0 + 1 by omega, up_same, fl_out (fs := r) (f0 := f0 + 1) (fun f h1 h2 => by rw [up_ne]; omega)]
    simp [upd]
  | some q :: r, 0, f0, h => by simp at h
  | none :: r, f + 1, f0, h => by
    have h' : r[f]? = some none := h
    have := fl_set (ad := ad) (μ := μ) (j := j) (k := k) (v := v) (f0 := f0 + 1) h'
    rw [show f0 + (f + 1) = f0 + 1 + f by omega]
    show Value.int _ :: _ = Value.int _ :: _
    rw [this, up_ne (h := by omega)]
  | some q :: r, f + 1, f0, h => by
    have h' : r[f]? = some none := h
    have := fl_set (ad := ad) (μ := μ) (j := j) (k := k) (v := v) (f0 := f0 + 1) h'
    rw [show f0 + (f + 1) = f0 + 1 + f by omega]
    show Value.ref _ :: _ = Value.ref _ :: _
    rw [this]
  | [], f, f0, h => by simp at h
theorem cc1_ne {V : VT} {μ : Mem} {j k i j' k' f : Nat} {v : Int32} (hf : f < 64) (h : ¬ (j' = j ∧ k' = k)) : cc1 V (up μ (64 * j + f) k i v) j' k' = cc1 V μ j' k' := by
  rcases hs : sp j' k' with ⟨ci, fs⟩ | ⟨a, n, o⟩
  · rw [cc1_obj hs, cc1_obj hs, fl_out]
    intro f1 _ h2
    have := sp_len hs
    rw [up_ne]
    omega
  · rw [cc1_arr hs, cc1_arr hs, up_ne]
    omega
def wl (V : VT) (idx : List (Nat × Nat)) (μ : Mem) : va_W := idx.map fun q => (V.1 q.1 q.2, cc1 V μ q.1 q.2)
theorem wl_get {V : VT} {idx : List (Nat × Nat)} {μ : Mem} {tl : va_W} {j k : Nat} (h : (j, k) ∈ idx) : ∃ n : Nat, idx[n]? = some (j, k) ∧ (wl V idx μ ++ tl)[n]? = some (V.1 j k, cc1 V μ j k) := by
  obtain ⟨n, hn⟩ := List.getElem?_of_mem h
  refine ⟨n, hn, ?_⟩
  have hl : n < idx.length := (List.getElem?_eq_some_iff.mp hn).1
  rw [List.getElem?_append_left (by unfold wl; rw [List.length_map]; exact hl)]
  unfold wl
  rw [List.getElem?_map, hn]
  rfl
theorem wl_set {V : VT} {idx : List (Nat × Nat)} {μ μ' : Mem} {tl : va_W} {j k n : Nat} {e : va_E} (hn : idx[n]? = some (j, k)) (hd : idx.Nodup) (he : cc1 V μ' j k = e) (ho : ∀ j' k', ¬ (j' = j ∧ k' = k) → cc1 V μ' j' k' = cc1 V μ j' k') : (wl V idx μ ++ tl).set n (V.1 j k, e) = wl V idx μ' ++ tl := by
  have hl : n < idx.length := (List.getElem?_eq_some_iff.mp hn).1
  have hw : n < (wl V idx μ).length := by unfold wl; rw [List.length_map]; exact hl
  rw [List.set_append_left _ _ hw]
  congr 1
  apply List.ext_getElem?
  intro i
  unfold wl
  by_cases hi : i = n
  · subst hi
    rw [List.getElem?_set_self (by rw [List.length_map]; exact hl), List.getElem?_map, hn]
    simp [he]
  · rw [List.getElem?_set_ne (Ne.symm hi), List.getElem?_map, List.getElem?_map]
    cases hq : idx[i]? with
    | none => rfl
    | some q =>
      have hne : ¬ (q.1 = j ∧ q.2 = k) := by
        rintro ⟨h1, h2⟩
        have : q = (j, k) := Prod.ext h1 h2
        subst this
        have hil : i < idx.length := (List.getElem?_eq_some_iff.mp hq).1
        exact hi ((List.getElem_inj (h₀ := hil) (h₁ := hl) hd).mp (by rw [(List.getElem?_eq_some_iff.mp hq).2, (List.getElem?_eq_some_iff.mp hn).2]))
      show some (V.1 q.1 q.2, cc1 V μ q.1 q.2) = some (V.1 q.1 q.2, cc1 V μ' q.1 q.2)
      rw [ho q.1 q.2 hne]
theorem wl_addr {V : VT} {idx : List (Nat × Nat)} {μ μ' : Mem} {tl : va_W} {n : Nat} {q : Nat × va_E} (h : (wl V idx μ ++ tl)[n]? = some q) : ∃ e, (wl V idx μ' ++ tl)[n]? = some (q.1, e) := by
  by_cases hl : n < idx.length
  · rw [List.getElem?_append_left (by unfold wl; rw [List.length_map]; exact hl)] at h ⊢
    unfold wl at h ⊢
    rw [List.getElem?_map] at h ⊢
    cases hq : idx[n]? with
    | none => rw [hq] at h; cases h
    | some r => rw [hq] at h; cases h; exact ⟨_, rfl⟩
  · have e1 : (wl V idx μ).length = idx.length := by unfold wl; rw [List.length_map]
    have e2 : (wl V idx μ').length = idx.length := by unfold wl; rw [List.length_map]
    rw [List.getElem?_append_right (by omega), e1] at h
    rw [List.getElem?_append_right (by omega), e2]
    exact ⟨q.2, h⟩
theorem wl_D {V : VT} {idx : List (Nat × Nat)} {μ μ' : Mem} {tl : va_W} {A : Nat → Prop} (h : va_D A (wl V idx μ ++ tl)) : va_D A (wl V idx μ' ++ tl) := by
  refine ⟨fun i j p q hi hj hpq => ?_, fun n q hq => ?_⟩
  · obtain ⟨e1, h1⟩ := wl_addr (μ' := μ) hi
    obtain ⟨e2, h2⟩ := wl_addr (μ' := μ) hj
    exact h.1 i j _ _ h1 h2 hpq
  · obtain ⟨e1, h1⟩ := wl_addr (μ' := μ) hq
    exact h.2 n (q.1, e1) h1
def Aof (V : VT) (idx : List (Nat × Nat)) (tl : va_W) (sz : Nat) : Nat → Prop := va_A (wl V idx (fun _ _ _ => 0) ++ tl) sz
theorem Aof_in {V : VT} {idx : List (Nat × Nat)} {tl : va_W} {sz : Nat} {μ : Mem} : va_A (wl V idx μ ++ tl) sz = Aof V idx tl sz := by
  funext q
  apply propext
  constructor
  · rintro (⟨k, e, h⟩ | h)
    · obtain ⟨e1, h1⟩ := wl_addr (μ' := fun _ _ _ => 0) h
      exact Or.inl ⟨k, e1, h1⟩
    · exact Or.inr h
  · rintro (⟨k, e, h⟩ | h)
    · obtain ⟨e1, h1⟩ := wl_addr (μ' := μ) h
      exact Or.inl ⟨k, e1, h1⟩
    · exact Or.inr h
theorem Aof_mono {V : VT} {idx : List (Nat × Nat)} {tl : va_W} {sz sz' : Nat} (h : sz ≤ sz') : ∀ q, Aof V idx tl sz' q → Aof V idx tl sz q := by
  rintro q (h1 | h1)
  · exact Or.inl h1
  · exact Or.inr (Nat.le_trans h h1)
-- locals
def asc (ad : Nat → Nat → Nat) : Nat → List (Option PV) → List (Nat × Value)
  | _, [] => []
  | i, none :: r => asc ad (i + 1) r
  | i, some v :: r => (i, cv ad v) :: asc ad (i + 1) r
theorem asc_mem {ad : Nat → Nat → Nat} : ∀ {ls : List (Option PV)} {i i0 : Nat} {v : PV}, ls[i]? = some (some v) → (i0 + i, cv ad v) ∈ asc ad i0 ls
  | [], i, i0, v, h => by simp at h
  | none :: r, 0, i0, v, h => by simp at h
  | some w :: r, 0, i0, v, h => by
    have : w = v := by simpa using h
    subst this
    exact List.mem_cons_self
  | none :: r, i + 1, i0, v, h => by
    have := asc_mem (ad := ad) (ls := r) (i := i) (i0 := i0 + 1) (v := v) h
    rw [show i0 + (i + 1) = i0 + 1 + i by omega]
    exact this
  | some w :: r, i + 1, i0, v, h => by
    have := asc_mem (ad := ad) (ls := r) (i := i) (i0 := i0 + 1) (v := v) h
    rw [show i0 + (i + 1) = i0 + 1 + i by omega]
    exact List.mem_cons_of_mem _ this
theorem asc_of {ad : Nat → Nat → Nat} : ∀ {ls : List (Option PV)} {i0 : Nat} {q : Nat × Value}, q ∈ asc ad i0 ls → ∃ (i : Nat) (v : PV), ls[i]? = some (some v) ∧ q = (i0 + i, cv ad v)
  | [], i0, q, h => by cases h
  | none :: r, i0, q, h => by
    obtain ⟨i, v, h1, h2⟩ := asc_of (ls := r) (i0 := i0 + 1) h
    exact ⟨i + 1, v, h1, by rw [h2, show i0 + (i + 1) = i0 + 1 + i by omega]⟩
  | some w :: r, i0, q, h => by
    rcases List.mem_cons.mp h with h | h
    · exact ⟨0, w, rfl, h⟩
    · obtain ⟨i, v, h1, h2⟩ := asc_of (ls := r) (i0 := i0 + 1) h
      exact ⟨i + 1, v, h1, by rw [h2, show i0 + (i + 1) = i0 + 1 + i by omega]⟩
def c1 (v : PV) : Bool := match v with
  | .inr (.inr w) => w.category == 1
  | _ => true
theorem c1_cat {ad : Nat → Nat → Nat} {v : PV} (h : c1 v = true) : (cv ad v).category = 1 := by
  rcases v with i | q | w
  · rfl
  · rfl
  · exact eq_of_beq h
/-- the local ahead of place i is no first half of a long or double -/
def c1b (ls : List (Option PV)) (i : Nat) : Bool := match i with
  | 0 => true
  | i + 1 => match ls[i]? with
    | some (some v) => c1 v
    | _ => true
theorem asc_set {ad : Nat → Nat → Nat} {ls : List (Option PV)} {i : Nat} {x : PV} (hc : c1b ls i = true) : ∀ q ∈ asc ad 0 (ls.set i (some x)), q ∈ (i, cv ad x) :: (asc ad 0 ls).filter (fun q => !(q.1 == i) && !(q.1 + 1 == i && q.2.category == 2)) := by
  intro q hq
  obtain ⟨n, v, h1, h2⟩ := asc_of hq
  rw [Nat.zero_add] at h2
  subst h2
  by_cases hn : n = i
  · subst hn
    have : some v = some x := by
      have hl : n < (ls.set n (some x)).length := (List.getElem?_eq_some_iff.mp h1).1
      rw [List.length_set] at hl
      rw [List.getElem?_set_self hl] at h1
      exact (Option.some.inj h1).symm
    cases this
    exact List.mem_cons_self
  · rw [List.getElem?_set_ne (Ne.symm hn)] at h1
    refine List.mem_cons_of_mem _ (List.mem_filter.mpr ⟨?_, ?_⟩)
    · have := asc_mem (ad := ad) (i0 := 0) h1
      rwa [Nat.zero_add] at this
    · have e1 : (n == i) = false := by simpa using hn
      show (!(n == i) && !(n + 1 == i && (cv ad v).category == 2)) = true
      rw [e1]
      by_cases h3 : n + 1 = i
      · subst h3
        have h4 : c1 v = true := by
          simp only [c1b, h1] at hc
          exact hc
        rw [c1_cat h4]
        simp
      · have e2 : (n + 1 == i) = false := by simpa using h3
        rw [e2]
        rfl
def okP (idx : List (Nat × Nat)) (v : PV) : Prop := match v with
  | .inr (.inl q) => q ∈ idx ∨ q.1 = 41
  | _ => True
def okL (idx : List (Nat × Nat)) (ls : List (Option PV)) : Prop := ∀ (i : Nat) (v : PV), ls[i]? = some (some v) → okP idx v
theorem okL_set {idx : List (Nat × Nat)} {ls : List (Option PV)} {i : Nat} {x : PV} (h : okL idx ls) (hx : okP idx x) : okL idx (ls.set i (some x)) := by
  intro n v hv
  by_cases hn : n = i
  · subst hn
    have hl : n < (ls.set n (some x)).length := (List.getElem?_eq_some_iff.mp hv).1
    rw [List.length_set] at hl
    rw [List.getElem?_set_self hl] at hv
    cases hv
    exact hx
  · rw [List.getElem?_set_ne (Ne.symm hn)] at hv
    exact h n v hv
-- the walk: G bundles what stays the same in one method's body
abbrev GT : Type := Program × Launch × Env × Room × State × MethodId × Array Value × List Frame × Method × Code × (State → Prop) × (Nat → Prop) × VT × List (Nat × Nat) × va_W
def strL : List (Nat × String) := [(112, "trace, id or service out of range"), (124, "parent or times out of range"), (132, "no room, or the id is taken"), (476, "no such span"), (149, "parent out of range"), (163, "times out of range"), (192, "what is not 0 to 5"), (481, "no such service"), (208, "every integer is possible"), (217, "the span has no pair"), (222, "the parent is not present"), (479, "no such trace"), (487, "no such node"), (250, "no such child"), (265, "no such root"), (270, "no such placeholder"), (287, "what is not 0 to 2"), (289, "no such segment"), (305, "no segment at this time"), (319, "no such cause"), (326, "the trace has no spans"), (341, "percentage out of range"), (343, "no span of the service"), (495, "the extent is 0"), (365, "a link leads to another span"), (373, "no room, or there is such a link"), (483, "no such link"), (485, "no such shelf or place"), (398, "shelf 0 holds spans only"), (417, "the place is empty, or its node is not there"), (419, "character out of range"), (422, "the input is full"), (435, "the input is no text"), (441, "a span of the text cannot be added"), (447, "no error position was kept"), (455, "no such character"), (464, "no change is remembered"), (472, "nothing was saved")]
def EnvS (V : VT) (idx : List (Nat × Nat)) (tl : va_W) (A : Nat → Prop) (U : State) : Prop :=
  va_K V.2.1 vwCl (tyL V) U ∧ (∀ μ, va_D (fun _ => True) (wl V idx μ ++ tl)) ∧ vx_Zq Bundle.tN "UNASSIGNED_STACK" Bundle.steD A U U.heap ∧ vx_Zq Bundle.tN "SUPPRESSED_SENTINEL" Bundle.listD A U U.heap ∧ (∀ q ∈ strL, ∃ a, vk_R RX8 q.1 q.2 a U) ∧ (∀ w ∈ noteL, va_Nw w U) ∧ ∀ q ∈ ncL, va_Nc q.1 q.2 U
/-- idx: the cells there are; each once, and what they point at is there too -/
def IdxOK (idx : List (Nat × Nat)) : Prop := idx.Nodup ∧ ∀ q ∈ idx, (∀ (ci f : Nat) (fs : List (Option (Nat × Nat))) (r : Nat × Nat), sp q.1 q.2 = .inl (ci, fs) → fs[f]? = some (some r) → r ∈ idx ∨ r.1 = 41) ∧ ∀ (a n : Nat) (g : Nat → Nat × Nat), sp q.1 q.2 = .inr (a, n, some g) → ∀ i, i < n → g i ∈ idx
def PW (G : GT) (rc rs pc : Nat) (ls : List (Option PV)) (st : List PV) (μ : Mem) : Prop := match G with
  | (p, l, e, R, s, m, args, below, meth, c, Q, A, V, idx, tl) => ∀ (H : Heap) (locs : List Loc) (cells slots : Nat) (lsM : Array Slot), va_P V.2.1 vwCl (wl V idx μ ++ tl) H → va_S A s.heap H locs → lv_has lsM c.maxLocals (asc V.1 0 ls) → okL idx ls → (∀ v ∈ st, okP idx v) → cells + rc ≤ R.cells → slots + rs ≤ R.slots → W p l e R s m args below meth c H locs cells slots Q (F0 m pc lsM (st.map (cv V.1)))
def PCx (G : GT) (cc : ByteArray) (nL : Nat) (own : String) : Prop := match G with
  | (p, l, e, R, s, m, args, below, meth, c, Q, A, V, idx, tl) => p.tables.exec = Jvm.exec ∧ c.code = cc ∧ c.maxLocals = nL ∧ s.vm.findClass own = some m.cls ∧ (∀ w ∈ gW, w.before args s = true) ∧ EnvS V idx tl A s ∧ va_D A (wl V idx (fun _ _ _ => 0) ++ tl) ∧ IdxOK idx ∧ (∀ q, s.heap.size ≤ q → A q) ∧ A = Aof V idx tl s.heap.size ∧ meth.locks = false ∧ l.stackTraces = false
section PWr
variable {G : GT} {cc : ByteArray} {nL : Nat} {own : String} {rc rs pc : Nat} {ls : List (Option PV)} {st : List PV} {μ : Mem}
theorem px_goto {off : Int} {tgt : Nat} (C : PCx G cc nL own) (d : decode cc pc = .ok (.goto off, 3)) (ht : (pc : Int) + off = (tgt : Int)) (k : PW G rc rs tgt ls st μ) : PW G rc rs pc ls st μ := by
  obtain ⟨p, l, e, R, s, m, args, below, meth, c, Q, A, V, idx, tl⟩ := G
  intro H locs cells slots lsM hP hS hl hL hV h1 h2
  exact lv_goto C.1 C.2.1 d ht (k H locs cells slots lsM hP hS hl hL hV h1 h2)
theorem px_iconst {n : Int} {v : Int32} (C : PCx G cc nL own) (d : decode cc pc = .ok (.iconst n, 1)) (hv : Int32.ofInt n = v) (k : PW G rc rs (pc + 1) ls (pI v :: st) μ) : PW G rc rs pc ls st μ := by
  obtain ⟨p, l, e, R, s, m, args, below, meth, c, Q, A, V, idx, tl⟩ := G
  intro H locs cells slots lsM hP hS hl hL hV h1 h2
  exact lv_iconst C.1 C.2.1 d hv (k H locs cells slots lsM hP hS hl hL (List.forall_mem_cons.mpr ⟨trivial, hV⟩) h1 h2)
theorem px_bipush {n : Int} {v : Int32} (C : PCx G cc nL own) (d : decode cc pc = .ok (.bipush n, 2)) (hv : (Int8.ofInt n).toInt32 = v) (k : PW G rc rs (pc + 2) ls (pI v :: st) μ) : PW G rc rs pc ls st μ := by
  obtain ⟨p, l, e, R, s, m, args, below, meth, c, Q, A, V, idx, tl⟩ := G
  intro H locs cells slots lsM hP hS hl hL hV h1 h2
  exact lv_bipush C.1 C.2.1 d hv (k H locs cells slots lsM hP hS hl hL (List.forall_mem_cons.mpr ⟨trivial, hV⟩) h1 h2)
theorem px_sipush {n : Int} {v : Int32} (C : PCx G cc nL own) (d : decode cc pc = .ok (.sipush n, 3)) (hv : (Int16.ofInt n).toInt32 = v) (k : PW G rc rs (pc + 3) ls (pI v :: st) μ) : PW G rc rs pc ls st μ := by
  obtain ⟨p, l, e, R, s, m, args, below, meth, c, Q, A, V, idx, tl⟩ := G
  intro H locs cells slots lsM hP hS hl hL hV h1 h2
  exact lv_sipush C.1 C.2.1 d hv (k H locs cells slots lsM hP hS hl hL (List.forall_mem_cons.mpr ⟨trivial, hV⟩) h1 h2)
theorem px_ldc {i : Nat} {v : Int32} (C : PCx G cc nL own) (d : decode cc pc = .ok (.ldc i, 2)) (hw : Cond.constant own i v ∈ gW) (k : PW G rc rs (pc + 2) ls (pI v :: st) μ) : PW G rc rs pc ls st μ := by
  obtain ⟨p, l, e, R, s, m, args, below, meth, c, Q, A, V, idx, tl⟩ := G
  intro H locs cells slots lsM hP hS hl hL hV h1 h2
  exact lv_ldc C.1 C.2.1 C.2.2.2.1 (C.2.2.2.2.1 _ hw) d (k H locs cells slots lsM hP hS hl hL (List.forall_mem_cons.mpr ⟨trivial, hV⟩) h1 h2)
theorem px_ldcw {i : Nat} {v : Int32} (C : PCx G cc nL own) (d : decode cc pc = .ok (.ldc_w i, 3)) (hw : Cond.constant own i v ∈ gW) (k : PW G rc rs (pc + 3) ls (pI v :: st) μ) : PW G rc rs pc ls st μ := by
  obtain ⟨p, l, e, R, s, m, args, below, meth, c, Q, A, V, idx, tl⟩ := G
  intro H locs cells slots lsM hP hS hl hL hV h1 h2
  exact lv_ldcw C.1 C.2.1 C.2.2.2.1 (C.2.2.2.2.1 _ hw) d (k H locs cells slots lsM hP hS hl hL (List.forall_mem_cons.mpr ⟨trivial, hV⟩) h1 h2)
theorem asc_at {ad : Nat → Nat → Nat} {lsM : Array Slot} {n i : Nat} {v : PV} (hl : lv_has lsM n (asc ad 0 ls)) (h : ls[i]? = some (some v)) : lsM[i]? = some (.val (cv ad v)) := by
  have h1 := hl.2.2 _ (asc_mem (ad := ad) (i0 := 0) h)
  dsimp only at h1
  rwa [Nat.zero_add] at h1
theorem px_iload_n {n : Fin 4} {i : Nat} {x : Int32} (C : PCx G cc nL own) (d : decode cc pc = .ok (.iload_n n, 1)) (hi : (n : Nat) = i) (h : ls[i]? = some (some (pI x))) (k : PW G rc rs (pc + 1) ls (pI x :: st) μ) : PW G rc rs pc ls st μ := by
  obtain ⟨p, l, e, R, s, m, args, below, meth, c, Q, A, V, idx, tl⟩ := G
  intro H locs cells slots lsM hP hS hl hL hV h1 h2
  exact lv_iload_n C.1 C.2.1 d hi (asc_at hl h) (k H locs cells slots lsM hP hS hl hL (List.forall_mem_cons.mpr ⟨trivial, hV⟩) h1 h2)
theorem px_iload {i : Nat} {x : Int32} (C : PCx G cc nL own) (d : decode cc pc = .ok (.iload i, 2)) (h : ls[i]? = some (some (pI x))) (k : PW G rc rs (pc + 2) ls (pI x :: st) μ) : PW G rc rs pc ls st μ := by
  obtain ⟨p, l, e, R, s, m, args, below, meth, c, Q, A, V, idx, tl⟩ := G
  intro H locs cells slots lsM hP hS hl hL hV h1 h2
  exact lv_iload C.1 C.2.1 d (asc_at hl h) (k H locs cells slots lsM hP hS hl hL (List.forall_mem_cons.mpr ⟨trivial, hV⟩) h1 h2)
theorem px_aload_n {n : Fin 4} {i j q : Nat} (C : PCx G cc nL own) (d : decode cc pc = .ok (.aload_n n, 1)) (hi : (n : Nat) = i) (h : ls[i]? = some (some (pR j q))) (k : PW G rc rs (pc + 1) ls (pR j q :: st) μ) : PW G rc rs pc ls st μ := by
  obtain ⟨p, l, e, R, s, m, args, below, meth, c, Q, A, V, idx, tl⟩ := G
  intro H locs cells slots lsM hP hS hl hL hV h1 h2
  exact lv_aload_n C.1 C.2.1 d hi (asc_at hl h) (k H locs cells slots lsM hP hS hl hL (List.forall_mem_cons.mpr ⟨hL _ _ h, hV⟩) h1 h2)
theorem px_aload {i j q : Nat} (C : PCx G cc nL own) (d : decode cc pc = .ok (.aload i, 2)) (h : ls[i]? = some (some (pR j q))) (k : PW G rc rs (pc + 2) ls (pR j q :: st) μ) : PW G rc rs pc ls st μ := by
  obtain ⟨p, l, e, R, s, m, args, below, meth, c, Q, A, V, idx, tl⟩ := G
  intro H locs cells slots lsM hP hS hl hL hV h1 h2
  exact lv_aload C.1 C.2.1 d (asc_at hl h) (k H locs cells slots lsM hP hS hl hL (List.forall_mem_cons.mpr ⟨hL _ _ h, hV⟩) h1 h2)
theorem px_istore_n {n : Fin 4} {i : Nat} {x : Int32} (C : PCx G cc nL own) (d : decode cc pc = .ok (.istore_n n, 1)) (hi : (n : Nat) = i) (hn : i < nL) (hc : c1b ls i = true) (k : PW G rc rs (pc + 1) (ls.set i (some (pI x))) st μ) : PW G rc rs pc ls (pI x :: st) μ := by
  obtain ⟨p, l, e, R, s, m, args, below, meth, c, Q, A, V, idx, tl⟩ := G
  intro H locs cells slots lsM hP hS hl hL hV h1 h2
  exact lv_istore_n C.1 C.2.1 d hi hl (by rw [C.2.2.1]; exact hn) rfl fun ls' hl' => k H locs cells slots ls' hP hS ⟨hl'.1, hl'.2.1, fun q hq => hl'.2.2 q (asc_set hc q hq)⟩ (okL_set hL trivial) (List.forall_mem_cons.mp hV).2 h1 h2
theorem px_istore {i : Nat} {x : Int32} (C : PCx G cc nL own) (d : decode cc pc = .ok (.istore i, 2)) (hn : i < nL) (hc : c1b ls i = true) (k : PW G rc rs (pc + 2) (ls.set i (some (pI x))) st μ) : PW G rc rs pc ls (pI x :: st) μ := by
  obtain ⟨p, l, e, R, s, m, args, below, meth, c, Q, A, V, idx, tl⟩ := G
  intro H locs cells slots lsM hP hS hl hL hV h1 h2
  exact lv_istore C.1 C.2.1 d hl (by rw [C.2.2.1]; exact hn) rfl fun ls' hl' => k H locs cells slots ls' hP hS ⟨hl'.1, hl'.2.1, fun q hq => hl'.2.2 q (asc_set hc q hq)⟩ (okL_set hL trivial) (List.forall_mem_cons.mp hV).2 h1 h2
theorem px_astore_n {n : Fin 4} {i j q : Nat} (C : PCx G cc nL own) (d : decode cc pc = .ok (.astore_n n, 1)) (hi : (n : Nat) = i) (hn : i < nL) (hc : c1b ls i = true) (k : PW G rc rs (pc + 1) (ls.set i (some (pR j q))) st μ) : PW G rc rs pc ls (pR j q :: st) μ := by
  obtain ⟨p, l, e, R, s, m, args, below, meth, c, Q, A, V, idx, tl⟩ := G
  intro H locs cells slots lsM hP hS hl hL hV h1 h2
  exact lv_astore_n C.1 C.2.1 d hi hl (by rw [C.2.2.1]; exact hn) rfl fun ls' hl' => k H locs cells slots ls' hP hS ⟨hl'.1, hl'.2.1, fun r hr => hl'.2.2 r (asc_set hc r hr)⟩ (okL_set hL (List.forall_mem_cons.mp hV).1) (List.forall_mem_cons.mp hV).2 h1 h2
theorem px_astore {i j q : Nat} (C : PCx G cc nL own) (d : decode cc pc = .ok (.astore i, 2)) (hn : i < nL) (hc : c1b ls i = true) (k : PW G rc rs (pc + 2) (ls.set i (some (pR j q))) st μ) : PW G rc rs pc ls (pR j q :: st) μ := by
  obtain ⟨p, l, e, R, s, m, args, below, meth, c, Q, A, V, idx, tl⟩ := G
  intro H locs cells slots lsM hP hS hl hL hV h1 h2
  exact lv_astore C.1 C.2.1 d hl (by rw [C.2.2.1]; exact hn) rfl fun ls' hl' => k H locs cells slots ls' hP hS ⟨hl'.1, hl'.2.1, fun r hr => hl'.2.2 r (asc_set hc r hr)⟩ (okL_set hL (List.forall_mem_cons.mp hV).1) (List.forall_mem_cons.mp hV).2 h1 h2
theorem px_iinc {i : Nat} {n : Int} {x v : Int32} (C : PCx G cc nL own) (d : decode cc pc = .ok (.iinc i n, 3)) (h : ls[i]? = some (some (pI x))) (hv : Int32.ofInt n = v) (hn : i < nL) (hc : c1b ls i = true) (k : PW G rc rs (pc + 3) (ls.set i (some (pI (x + v)))) st μ) : PW G rc rs pc ls st μ := by
  subst hv
  obtain ⟨p, l, e, R, s, m, args, below, meth, c, Q, A, V, idx, tl⟩ := G
  intro H locs cells slots lsM hP hS hl hL hV h1 h2
  have hm := asc_mem (ad := V.1) (i0 := 0) h
  rw [Nat.zero_add] at hm
  obtain ⟨n9, hn9⟩ := List.getElem?_of_mem hm
  exact lv_iinc C.1 C.2.1 d hl hn9 rfl (by rw [C.2.2.1]; exact hn) rfl fun ls' hl' => k H locs cells slots ls' hP hS ⟨hl'.1, hl'.2.1, fun q hq => hl'.2.2 q (asc_set (x := pI _) hc q hq)⟩ (okL_set hL trivial) hV h1 h2
theorem px_iadd {x y : Int32} (C : PCx G cc nL own) (d : decode cc pc = .ok (.iadd, 1)) (k : PW G rc rs (pc + 1) ls (pI (x + y) :: st) μ) : PW G rc rs pc ls (pI y :: pI x :: st) μ := by
  obtain ⟨p, l, e, R, s, m, args, below, meth, c, Q, A, V, idx, tl⟩ := G
  intro H locs cells slots lsM hP hS hl hL hV h1 h2
  exact lv_iadd C.1 C.2.1 d (k H locs cells slots lsM hP hS hl hL (List.forall_mem_cons.mpr ⟨trivial, fun v hv => hV v (List.mem_cons_of_mem _ (List.mem_cons_of_mem _ hv))⟩) h1 h2)
theorem px_isub {x y : Int32} (C : PCx G cc nL own) (d : decode cc pc = .ok (.isub, 1)) (k : PW G rc rs (pc + 1) ls (pI (x - y) :: st) μ) : PW G rc rs pc ls (pI y :: pI x :: st) μ := by
  obtain ⟨p, l, e, R, s, m, args, below, meth, c, Q, A, V, idx, tl⟩ := G
  intro H locs cells slots lsM hP hS hl hL hV h1 h2
  exact lv_isub C.1 C.2.1 d (k H locs cells slots lsM hP hS hl hL (List.forall_mem_cons.mpr ⟨trivial, fun v hv => hV v (List.mem_cons_of_mem _ (List.mem_cons_of_mem _ hv))⟩) h1 h2)
theorem px_imul {x y : Int32} (C : PCx G cc nL own) (d : decode cc pc = .ok (.imul, 1)) (k : PW G rc rs (pc + 1) ls (pI (x * y) :: st) μ) : PW G rc rs pc ls (pI y :: pI x :: st) μ := by
  obtain ⟨p, l, e, R, s, m, args, below, meth, c, Q, A, V, idx, tl⟩ := G
  intro H locs cells slots lsM hP hS hl hL hV h1 h2
  exact lv_imul C.1 C.2.1 d (k H locs cells slots lsM hP hS hl hL (List.forall_mem_cons.mpr ⟨trivial, fun v hv => hV v (List.mem_cons_of_mem _ (List.mem_cons_of_mem _ hv))⟩) h1 h2)
theorem px_iand {x y : Int32} (C : PCx G cc nL own) (d : decode cc pc = .ok (.iand, 1)) (k : PW G rc rs (pc + 1) ls (pI (x &&& y) :: st) μ) : PW G rc rs pc ls (pI y :: pI x :: st) μ := by
  obtain ⟨p, l, e, R, s, m, args, below, meth, c, Q, A, V, idx, tl⟩ := G
  intro H locs cells slots lsM hP hS hl hL hV h1 h2
  exact lv_iand C.1 C.2.1 d (k H locs cells slots lsM hP hS hl hL (List.forall_mem_cons.mpr ⟨trivial, fun v hv => hV v (List.mem_cons_of_mem _ (List.mem_cons_of_mem _ hv))⟩) h1 h2)
theorem px_ior {x y : Int32} (C : PCx G cc nL own) (d : decode cc pc = .ok (.ior, 1)) (k : PW G rc rs (pc + 1) ls (pI (x ||| y) :: st) μ) : PW G rc rs pc ls (pI y :: pI x :: st) μ := by
  obtain ⟨p, l, e, R, s, m, args, below, meth, c, Q, A, V, idx, tl⟩ := G
  intro H locs cells slots lsM hP hS hl hL hV h1 h2
  exact lv_ior C.1 C.2.1 d (k H locs cells slots lsM hP hS hl hL (List.forall_mem_cons.mpr ⟨trivial, fun v hv => hV v (List.mem_cons_of_mem _ (List.mem_cons_of_mem _ hv))⟩) h1 h2)
theorem px_ishl {x y : Int32} (C : PCx G cc nL own) (d : decode cc pc = .ok (.ishl, 1)) (k : PW G rc rs (pc + 1) ls (pI (x <<< (y &&& 31)) :: st) μ) : PW G rc rs pc ls (pI y :: pI x :: st) μ := by
  obtain ⟨p, l, e, R, s, m, args, below, meth, c, Q, A, V, idx, tl⟩ := G
  intro H locs cells slots lsM hP hS hl hL hV h1 h2
  exact lv_ishl C.1 C.2.1 d (k H locs cells slots lsM hP hS hl hL (List.forall_mem_cons.mpr ⟨trivial, fun v hv => hV v (List.mem_cons_of_mem _ (List.mem_cons_of_mem _ hv))⟩) h1 h2)
theorem px_ishr {x y : Int32} (C : PCx G cc nL own) (d : decode cc pc = .ok (.ishr, 1)) (k : PW G rc rs (pc + 1) ls (pI (x >>> (y &&& 31)) :: st) μ) : PW G rc rs pc ls (pI y :: pI x :: st) μ := by
  obtain ⟨p, l, e, R, s, m, args, below, meth, c, Q, A, V, idx, tl⟩ := G
  intro H locs cells slots lsM hP hS hl hL hV h1 h2
  exact lv_ishr C.1 C.2.1 d (k H locs cells slots lsM hP hS hl hL (List.forall_mem_cons.mpr ⟨trivial, fun v hv => hV v (List.mem_cons_of_mem _ (List.mem_cons_of_mem _ hv))⟩) h1 h2)
theorem px_idiv {x y : Int32} (C : PCx G cc nL own) (d : decode cc pc = .ok (.idiv, 1)) (hne : ¬ y = 0) (k : PW G rc rs (pc + 1) ls (pI (x / y) :: st) μ) : PW G rc rs pc ls (pI y :: pI x :: st) μ := by
  obtain ⟨p, l, e, R, s, m, args, below, meth, c, Q, A, V, idx, tl⟩ := G
  intro H locs cells slots lsM hP hS hl hL hV h1 h2
  exact lv_idiv C.1 C.2.1 d hne (k H locs cells slots lsM hP hS hl hL (List.forall_mem_cons.mpr ⟨trivial, fun v hv => hV v (List.mem_cons_of_mem _ (List.mem_cons_of_mem _ hv))⟩) h1 h2)
theorem px_irem {x y : Int32} (C : PCx G cc nL own) (d : decode cc pc = .ok (.irem, 1)) (hne : ¬ y = 0) (k : PW G rc rs (pc + 1) ls (pI (x - x / y * y) :: st) μ) : PW G rc rs pc ls (pI y :: pI x :: st) μ := by
  obtain ⟨p, l, e, R, s, m, args, below, meth, c, Q, A, V, idx, tl⟩ := G
  intro H locs cells slots lsM hP hS hl hL hV h1 h2
  exact lv_irem C.1 C.2.1 d hne (k H locs cells slots lsM hP hS hl hL (List.forall_mem_cons.mpr ⟨trivial, fun v hv => hV v (List.mem_cons_of_mem _ (List.mem_cons_of_mem _ hv))⟩) h1 h2)
theorem px_ineg {x : Int32} (C : PCx G cc nL own) (d : decode cc pc = .ok (.ineg, 1)) (k : PW G rc rs (pc + 1) ls (pI (-x) :: st) μ) : PW G rc rs pc ls (pI x :: st) μ := by
  obtain ⟨p, l, e, R, s, m, args, below, meth, c, Q, A, V, idx, tl⟩ := G
  intro H locs cells slots lsM hP hS hl hL hV h1 h2
  exact lv_ineg C.1 C.2.1 d (k H locs cells slots lsM hP hS hl hL (List.forall_mem_cons.mpr ⟨trivial, fun v hv => hV v (List.mem_cons_of_mem _ hv)⟩) h1 h2)
theorem px_i2c {x : Int32} (C : PCx G cc nL own) (d : decode cc pc = .ok (.i2c, 1)) (k : PW G rc rs (pc + 1) ls (pI ((x.toUInt32 % 65536).toInt32) :: st) μ) : PW G rc rs pc ls (pI x :: st) μ := by
  obtain ⟨p, l, e, R, s, m, args, below, meth, c, Q, A, V, idx, tl⟩ := G
  intro H locs cells slots lsM hP hS hl hL hV h1 h2
  exact lv_i2c C.1 C.2.1 d rfl (k H locs cells slots lsM hP hS hl hL (List.forall_mem_cons.mpr ⟨trivial, fun v hv => hV v (List.mem_cons_of_mem _ hv)⟩) h1 h2)
theorem px_i2l {x : Int32} (C : PCx G cc nL own) (d : decode cc pc = .ok (.i2l, 1)) (k : PW G rc rs (pc + 1) ls (pW (.long x.toInt64) :: st) μ) : PW G rc rs pc ls (pI x :: st) μ := by
  obtain ⟨p, l, e, R, s, m, args, below, meth, c, Q, A, V, idx, tl⟩ := G
  intro H locs cells slots lsM hP hS hl hL hV h1 h2
  exact lv_i2l C.1 C.2.1 d rfl (k H locs cells slots lsM hP hS hl hL (List.forall_mem_cons.mpr ⟨trivial, fun v hv => hV v (List.mem_cons_of_mem _ hv)⟩) h1 h2)
theorem px_i2d {x : Int32} (C : PCx G cc nL own) (d : decode cc pc = .ok (.i2d, 1)) (k : PW G rc rs (pc + 1) ls (pW (.double (FP.i2d x)) :: st) μ) : PW G rc rs pc ls (pI x :: st) μ := by
  obtain ⟨p, l, e, R, s, m, args, below, meth, c, Q, A, V, idx, tl⟩ := G
  intro H locs cells slots lsM hP hS hl hL hV h1 h2
  exact lv_i2d C.1 C.2.1 d (k H locs cells slots lsM hP hS hl hL (List.forall_mem_cons.mpr ⟨trivial, fun v hv => hV v (List.mem_cons_of_mem _ hv)⟩) h1 h2)
theorem px_i2f {x : Int32} (C : PCx G cc nL own) (d : decode cc pc = .ok (.i2f, 1)) (k : PW G rc rs (pc + 1) ls (pW (.float (FP.i2f x)) :: st) μ) : PW G rc rs pc ls (pI x :: st) μ := by
  obtain ⟨p, l, e, R, s, m, args, below, meth, c, Q, A, V, idx, tl⟩ := G
  intro H locs cells slots lsM hP hS hl hL hV h1 h2
  exact lv_i2f C.1 C.2.1 d (k H locs cells slots lsM hP hS hl hL (List.forall_mem_cons.mpr ⟨trivial, fun v hv => hV v (List.mem_cons_of_mem _ hv)⟩) h1 h2)
theorem px_if_eq {x : Int32} {off : Int} {tgt : Nat} (C : PCx G cc nL own) (d : decode cc pc = .ok (.ifCond .eq off, 3)) (ht : (pc : Int) + off = (tgt : Int)) (kt : x = 0 → PW G rc rs tgt ls st μ) (kf : ¬ x = 0 → PW G rc rs (pc + 3) ls st μ) : PW G rc rs pc ls (pI x :: st) μ := by
  obtain ⟨p, l, e, R, s, m, args, below, meth, c, Q, A, V, idx, tl⟩ := G
  intro H locs cells slots lsM hP hS hl hL hV h1 h2
  exact lv_if_eq C.1 C.2.1 d ht (fun h => kt h H locs cells slots lsM hP hS hl hL (List.forall_mem_cons.mp hV).2 h1 h2) (fun h => kf h H locs cells slots lsM hP hS hl hL (List.forall_mem_cons.mp hV).2 h1 h2)
theorem px_icmp_eq {x y : Int32} {off : Int} {tgt : Nat} (C : PCx G cc nL own) (d : decode cc pc = .ok (.if_icmp .eq off, 3)) (ht : (pc : Int) + off = (tgt : Int)) (kt : x = y → PW G rc rs tgt ls st μ) (kf : ¬ x = y → PW G rc rs (pc + 3) ls st μ) : PW G rc rs pc ls (pI y :: pI x :: st) μ := by
  obtain ⟨p, l, e, R, s, m, args, below, meth, c, Q, A, V, idx, tl⟩ := G
  intro H locs cells slots lsM hP hS hl hL hV h1 h2
  exact lv_icmp_eq C.1 C.2.1 d ht (fun h => kt h H locs cells slots lsM hP hS hl hL (fun v hv => hV v (List.mem_cons_of_mem _ (List.mem_cons_of_mem _ hv))) h1 h2) (fun h => kf h H locs cells slots lsM hP hS hl hL (fun v hv => hV v (List.mem_cons_of_mem _ (List.mem_cons_of_mem _ hv))) h1 h2)
theorem px_if_ne {x : Int32} {off : Int} {tgt : Nat} (C : PCx G cc nL own) (d : decode cc pc = .ok (.ifCond .ne off, 3)) (ht : (pc : Int) + off = (tgt : Int)) (kt : ¬ x = 0 → PW G rc rs tgt ls st μ) (kf : x = 0 → PW G rc rs (pc + 3) ls st μ) : PW G rc rs pc ls (pI x :: st) μ := by
  obtain ⟨p, l, e, R, s, m, args, below, meth, c, Q, A, V, idx, tl⟩ := G
  intro H locs cells slots lsM hP hS hl hL hV h1 h2
  exact lv_if_ne C.1 C.2.1 d ht (fun h => kt h H locs cells slots lsM hP hS hl hL (List.forall_mem_cons.mp hV).2 h1 h2) (fun h => kf h H locs cells slots lsM hP hS hl hL (List.forall_mem_cons.mp hV).2 h1 h2)
theorem px_icmp_ne {x y : Int32} {off : Int} {tgt : Nat} (C : PCx G cc nL own) (d : decode cc pc = .ok (.if_icmp .ne off, 3)) (ht : (pc : Int) + off = (tgt : Int)) (kt : ¬ x = y → PW G rc rs tgt ls st μ) (kf : x = y → PW G rc rs (pc + 3) ls st μ) : PW G rc rs pc ls (pI y :: pI x :: st) μ := by
  obtain ⟨p, l, e, R, s, m, args, below, meth, c, Q, A, V, idx, tl⟩ := G
  intro H locs cells slots lsM hP hS hl hL hV h1 h2
  exact lv_icmp_ne C.1 C.2.1 d ht (fun h => kt h H locs cells slots lsM hP hS hl hL (fun v hv => hV v (List.mem_cons_of_mem _ (List.mem_cons_of_mem _ hv))) h1 h2) (fun h => kf h H locs cells slots lsM hP hS hl hL (fun v hv => hV v (List.mem_cons_of_mem _ (List.mem_cons_of_mem _ hv))) h1 h2)
theorem px_if_lt {x : Int32} {off : Int} {tgt : Nat} (C : PCx G cc nL own) (d : decode cc pc = .ok (.ifCond .lt off, 3)) (ht : (pc : Int) + off = (tgt : Int)) (kt : x < 0 → PW G rc rs tgt ls st μ) (kf : ¬ x < 0 → PW G rc rs (pc + 3) ls st μ) : PW G rc rs pc ls (pI x :: st) μ := by
  obtain ⟨p, l, e, R, s, m, args, below, meth, c, Q, A, V, idx, tl⟩ := G
  intro H locs cells slots lsM hP hS hl hL hV h1 h2
  exact lv_if_lt C.1 C.2.1 d ht (fun h => kt h H locs cells slots lsM hP hS hl hL (List.forall_mem_cons.mp hV).2 h1 h2) (fun h => kf h H locs cells slots lsM hP hS hl hL (List.forall_mem_cons.mp hV).2 h1 h2)
theorem px_icmp_lt {x y : Int32} {off : Int} {tgt : Nat} (C : PCx G cc nL own) (d : decode cc pc = .ok (.if_icmp .lt off, 3)) (ht : (pc : Int) + off = (tgt : Int)) (kt : x < y → PW G rc rs tgt ls st μ) (kf : ¬ x < y → PW G rc rs (pc + 3) ls st μ) : PW G rc rs pc ls (pI y :: pI x :: st) μ := by
  obtain ⟨p, l, e, R, s, m, args, below, meth, c, Q, A, V, idx, tl⟩ := G
  intro H locs cells slots lsM hP hS hl hL hV h1 h2
  exact lv_icmp_lt C.1 C.2.1 d ht (fun h => kt h H locs cells slots lsM hP hS hl hL (fun v hv => hV v (List.mem_cons_of_mem _ (List.mem_cons_of_mem _ hv))) h1 h2) (fun h => kf h H locs cells slots lsM hP hS hl hL (fun v hv => hV v (List.mem_cons_of_mem _ (List.mem_cons_of_mem _ hv))) h1 h2)
theorem px_if_ge {x : Int32} {off : Int} {tgt : Nat} (C : PCx G cc nL own) (d : decode cc pc = .ok (.ifCond .ge off, 3)) (ht : (pc : Int) + off = (tgt : Int)) (kt : 0 ≤ x → PW G rc rs tgt ls st μ) (kf : ¬ 0 ≤ x → PW G rc rs (pc + 3) ls st μ) : PW G rc rs pc ls (pI x :: st) μ := by
  obtain ⟨p, l, e, R, s, m, args, below, meth, c, Q, A, V, idx, tl⟩ := G
  intro H locs cells slots lsM hP hS hl hL hV h1 h2
  exact lv_if_ge C.1 C.2.1 d ht (fun h => kt h H locs cells slots lsM hP hS hl hL (List.forall_mem_cons.mp hV).2 h1 h2) (fun h => kf h H locs cells slots lsM hP hS hl hL (List.forall_mem_cons.mp hV).2 h1 h2)
theorem px_icmp_ge {x y : Int32} {off : Int} {tgt : Nat} (C : PCx G cc nL own) (d : decode cc pc = .ok (.if_icmp .ge off, 3)) (ht : (pc : Int) + off = (tgt : Int)) (kt : y ≤ x → PW G rc rs tgt ls st μ) (kf : ¬ y ≤ x → PW G rc rs (pc + 3) ls st μ) : PW G rc rs pc ls (pI y :: pI x :: st) μ := by
  obtain ⟨p, l, e, R, s, m, args, below, meth, c, Q, A, V, idx, tl⟩ := G
  intro H locs cells slots lsM hP hS hl hL hV h1 h2
  exact lv_icmp_ge C.1 C.2.1 d ht (fun h => kt h H locs cells slots lsM hP hS hl hL (fun v hv => hV v (List.mem_cons_of_mem _ (List.mem_cons_of_mem _ hv))) h1 h2) (fun h => kf h H locs cells slots lsM hP hS hl hL (fun v hv => hV v (List.mem_cons_of_mem _ (List.mem_cons_of_mem _ hv))) h1 h2)
theorem px_if_gt {x : Int32} {off : Int} {tgt : Nat} (C : PCx G cc nL own) (d : decode cc pc = .ok (.ifCond .gt off, 3)) (ht : (pc : Int) + off = (tgt : Int)) (kt : 0 < x → PW G rc rs tgt ls st μ) (kf : ¬ 0 < x → PW G rc rs (pc + 3) ls st μ) : PW G rc rs pc ls (pI x :: st) μ := by
  obtain ⟨p, l, e, R, s, m, args, below, meth, c, Q, A, V, idx, tl⟩ := G
  intro H locs cells slots lsM hP hS hl hL hV h1 h2
  exact lv_if_gt C.1 C.2.1 d ht (fun h => kt h H locs cells slots lsM hP hS hl hL (List.forall_mem_cons.mp hV).2 h1 h2) (fun h => kf h H locs cells slots lsM hP hS hl hL (List.forall_mem_cons.mp hV).2 h1 h2)
theorem px_icmp_gt {x y : Int32} {off : Int} {tgt : Nat} (C : PCx G cc nL own) (d : decode cc pc = .ok (.if_icmp .gt off, 3)) (ht : (pc : Int) + off = (tgt : Int)) (kt : y < x → PW G rc rs tgt ls st μ) (kf : ¬ y < x → PW G rc rs (pc + 3) ls st μ) : PW G rc rs pc ls (pI y :: pI x :: st) μ := by
  obtain ⟨p, l, e, R, s, m, args, below, meth, c, Q, A, V, idx, tl⟩ := G
  intro H locs cells slots lsM hP hS hl hL hV h1 h2
  exact lv_icmp_gt C.1 C.2.1 d ht (fun h => kt h H locs cells slots lsM hP hS hl hL (fun v hv => hV v (List.mem_cons_of_mem _ (List.mem_cons_of_mem _ hv))) h1 h2) (fun h => kf h H locs cells slots lsM hP hS hl hL (fun v hv => hV v (List.mem_cons_of_mem _ (List.mem_cons_of_mem _ hv))) h1 h2)
theorem px_if_le {x : Int32} {off : Int} {tgt : Nat} (C : PCx G cc nL own) (d : decode cc pc = .ok (.ifCond .le off, 3)) (ht : (pc : Int) + off = (tgt : Int)) (kt : x ≤ 0 → PW G rc rs tgt ls st μ) (kf : ¬ x ≤ 0 → PW G rc rs (pc + 3) ls st μ) : PW G rc rs pc ls (pI x :: st) μ := by
  obtain ⟨p, l, e, R, s, m, args, below, meth, c, Q, A, V, idx, tl⟩ := G
  intro H locs cells slots lsM hP hS hl hL hV h1 h2
  exact lv_if_le C.1 C.2.1 d ht (fun h => kt h H locs cells slots lsM hP hS hl hL (List.forall_mem_cons.mp hV).2 h1 h2) (fun h => kf h H locs cells slots lsM hP hS hl hL (List.forall_mem_cons.mp hV).2 h1 h2)
theorem px_icmp_le {x y : Int32} {off : Int} {tgt : Nat} (C : PCx G cc nL own) (d : decode cc pc = .ok (.if_icmp .le off, 3)) (ht : (pc : Int) + off = (tgt : Int)) (kt : x ≤ y → PW G rc rs tgt ls st μ) (kf : ¬ x ≤ y → PW G rc rs (pc + 3) ls st μ) : PW G rc rs pc ls (pI y :: pI x :: st) μ := by
  obtain ⟨p, l, e, R, s, m, args, below, meth, c, Q, A, V, idx, tl⟩ := G
  intro H locs cells slots lsM hP hS hl hL hV h1 h2
  exact lv_icmp_le C.1 C.2.1 d ht (fun h => kt h H locs cells slots lsM hP hS hl hL (fun v hv => hV v (List.mem_cons_of_mem _ (List.mem_cons_of_mem _ hv))) h1 h2) (fun h => kf h H locs cells slots lsM hP hS hl hL (fun v hv => hV v (List.mem_cons_of_mem _ (List.mem_cons_of_mem _ hv))) h1 h2)
theorem px_ifnull {off : Int} {j q : Nat} (C : PCx G cc nL own) (d : decode cc pc = .ok (.ifnull off, 3)) (k : PW G rc rs (pc + 3) ls st μ) : PW G rc rs pc ls (pR j q :: st) μ := by
  obtain ⟨p, l, e, R, s, m, args, below, meth, c, Q, A, V, idx, tl⟩ := G
  intro H locs cells slots lsM hP hS hl hL hV h1 h2
  exact lv_ifnull C.1 C.2.1 d (k H locs cells slots lsM hP hS hl hL (List.forall_mem_cons.mp hV).2 h1 h2)
theorem px_dup {v : PV} (C : PCx G cc nL own) (d : decode cc pc = .ok (.dup, 1)) (h : c1 v = true) (k : PW G rc rs (pc + 1) ls (v :: v :: st) μ) : PW G rc rs pc ls (v :: st) μ := by
  obtain ⟨p, l, e, R, s, m, args, below, meth, c, Q, A, V, idx, tl⟩ := G
  intro H locs cells slots lsM hP hS hl hL hV h1 h2
  exact lv_dup C.1 C.2.1 d (c1_cat h) (k H locs cells slots lsM hP hS hl hL (List.forall_mem_cons.mpr ⟨(List.forall_mem_cons.mp hV).1, hV⟩) h1 h2)
theorem px_pop {v : PV} (C : PCx G cc nL own) (d : decode cc pc = .ok (.pop, 1)) (h : c1 v = true) (k : PW G rc rs (pc + 1) ls st μ) : PW G rc rs pc ls (v :: st) μ := by
  obtain ⟨p, l, e, R, s, m, args, below, meth, c, Q, A, V, idx, tl⟩ := G
  intro H locs cells slots lsM hP hS hl hL hV h1 h2
  exact lv_pop C.1 C.2.1 d (c1_cat h) (k H locs cells slots lsM hP hS hl hL (List.forall_mem_cons.mp hV).2 h1 h2)
theorem px_dup_x1 {v w : PV} (C : PCx G cc nL own) (d : decode cc pc = .ok (.dup_x1, 1)) (h : c1 v = true) (h' : c1 w = true) (k : PW G rc rs (pc + 1) ls (v :: w :: v :: st) μ) : PW G rc rs pc ls (v :: w :: st) μ := by
  obtain ⟨p, l, e, R, s, m, args, below, meth, c, Q, A, V, idx, tl⟩ := G
  intro H locs cells slots lsM hP hS hl hL hV h1 h2
  have hV' := List.forall_mem_cons.mp hV
  exact lv_dup_x1 C.1 C.2.1 d (c1_cat h) (c1_cat h') (k H locs cells slots lsM hP hS hl hL (List.forall_mem_cons.mpr ⟨hV'.1, List.forall_mem_cons.mpr ⟨(List.forall_mem_cons.mp hV'.2).1, List.forall_mem_cons.mpr ⟨hV'.1, (List.forall_mem_cons.mp hV'.2).2⟩⟩⟩) h1 h2)
theorem px_dup2 {v w : PV} (C : PCx G cc nL own) (d : decode cc pc = .ok (.dup2, 1)) (h : c1 v = true) (h' : c1 w = true) (k : PW G rc rs (pc + 1) ls (v :: w :: v :: w :: st) μ) : PW G rc rs pc ls (v :: w :: st) μ := by
  obtain ⟨p, l, e, R, s, m, args, below, meth, c, Q, A, V, idx, tl⟩ := G
  intro H locs cells slots lsM hP hS hl hL hV h1 h2
  have hV' := List.forall_mem_cons.mp hV
  exact lv_dup2_11 C.1 C.2.1 d (c1_cat h) (c1_cat h') (k H locs cells slots lsM hP hS hl hL (List.forall_mem_cons.mpr ⟨hV'.1, List.forall_mem_cons.mpr ⟨(List.forall_mem_cons.mp hV'.2).1, hV⟩⟩) h1 h2)
end PWr
def va_E_l (c : ClassId) (n : Nat) (f : Nat → Int64) : va_E := .inl (c, n, .inr (.inl f))
/-- a field by its link: everything that getfield, putfield ask of it -/
def FL (own : String) (i ci f : Nat) : Prop := ∃ (C : String) (T : u_T) (N : Nat), vwCl[ci]? = some (C, T, N) ∧ f < N ∧ (∀ w ∈ u_ws C T N, w ∈ gW) ∧ (T f).1 = C ∧ Cond.fieldLink own i C (T f).2.1 (T f).2.2.1 ∈ gW
def FP (own : String) (i ci f : Nat) (ty : FieldType) : Prop := ∃ (C : String) (T : u_T) (N : Nat) (tt : Nat → FieldType), vwCl[ci]? = some (C, T, N) ∧ f < N ∧ (∀ w ∈ u_ws C T N, w ∈ gW) ∧ (T f).1 = C ∧ Cond.fieldLink own i C (T f).2.1 (T f).2.2.1 ∈ gW ∧ (∀ k, k < N → parseFieldDescriptor (T k).2.2.1 = some (tt k)) ∧ (∀ a, a < N → ∀ b, b < N → a ≠ b → (T a).2.1 ≠ (T b).2.1) ∧ (T f).2.2.2 = false ∧ parseFieldDescriptor (T f).2.2.1 = some ty
section PWm
variable {G : GT} {cc : ByteArray} {nL : Nat} {own : String} {rc rs pc : Nat} {ls : List (Option PV)} {st : List PV} {μ : Mem}
theorem px_geti {i ci f j q : Nat} {fs : List (Option (Nat × Nat))} (loc : Nat) (C : PCx G cc nL own) (d : decode cc pc = .ok (.getfield i, 3)) (hf : FL own i ci f) (hs : sp j q = .inl (ci, fs)) (hr : fs[f]? = some none) (hj : (j == 41) = false) (hl : 64 * j + f + 1 = loc) (k : PW G rc rs (pc + 3) ls (pI (μ loc q 0) :: st) μ) : PW G rc rs pc ls (pR j q :: st) μ := by
  subst hl
  obtain ⟨p, l, e, R, s, m, args, below, meth, c, Q, A, V, idx, tl⟩ := G
  obtain ⟨Cn, T, N, hc, hk, hw, hown, hlk⟩ := hf
  intro H locs cells slots lsM hP hS hl hL hV h1 h2
  have hV' := List.forall_mem_cons.mp hV
  have hin : (j, q) ∈ idx := hV'.1.resolve_right (fun h => by rw [show j = 41 from h] at hj; cases hj)
  obtain ⟨n, -, hn⟩ := wl_get (V := V) (μ := μ) (tl := tl) hin
  rw [cc1_obj hs] at hn
  exact va_get (v := .int (μ (64 * j + f + 1) q 0)) C.1 C.2.1 C.2.2.2.2.1 hw C.2.2.2.1 C.2.2.2.2.2.1.1 hP n hn hc f hk (C.2.2.2.2.1 _ hlk) (by rw [hown]; exact fun _ h => h) (by have := fl_int (ad := V.1) (μ := μ) (j := j) (k := q) (f0 := 0) hr; rwa [Nat.zero_add] at this) d (k H locs cells slots lsM hP hS hl hL (List.forall_mem_cons.mpr ⟨trivial, hV'.2⟩) h1 h2)
theorem px_getr {i ci f j q j' q' : Nat} {fs : List (Option (Nat × Nat))} (C : PCx G cc nL own) (d : decode cc pc = .ok (.getfield i, 3)) (hf : FL own i ci f) (hs : sp j q = .inl (ci, fs)) (hr : fs[f]? = some (some (j', q'))) (hj : (j == 41) = false) (k : PW G rc rs (pc + 3) ls (pR j' q' :: st) μ) : PW G rc rs pc ls (pR j q :: st) μ := by
  obtain ⟨p, l, e, R, s, m, args, below, meth, c, Q, A, V, idx, tl⟩ := G
  obtain ⟨Cn, T, N, hc, hk, hw, hown, hlk⟩ := hf
  intro H locs cells slots lsM hP hS hl hL hV h1 h2
  have hV' := List.forall_mem_cons.mp hV
  have hin : (j, q) ∈ idx := hV'.1.resolve_right (fun h => by rw [show j = 41 from h] at hj; cases hj)
  obtain ⟨n, -, hn⟩ := wl_get (V := V) (μ := μ) (tl := tl) hin
  rw [cc1_obj hs] at hn
  have hok : (j', q') ∈ idx ∨ j' = 41 := (C.2.2.2.2.2.2.2.1.2 (j, q) hin).1 ci f fs (j', q') hs hr
  exact va_get (v := .ref (V.1 j' q')) C.1 C.2.1 C.2.2.2.2.1 hw C.2.2.2.1 C.2.2.2.2.2.1.1 hP n hn hc f hk (C.2.2.2.2.1 _ hlk) (by rw [hown]; exact fun _ h => h) (fl_ref hr) d (k H locs cells slots lsM hP hS hl hL (List.forall_mem_cons.mpr ⟨hok, hV'.2⟩) h1 h2)
theorem px_puti {i ci f j q : Nat} {fs : List (Option (Nat × Nat))} {x : Int32} {ty : FieldType} (loc : Nat) (C : PCx G cc nL own) (d : decode cc pc = .ok (.putfield i, 3)) (hf : FP own i ci f ty) (hs : sp j q = .inl (ci, fs)) (hr : fs[f]? = some none) (hj : (j == 41) = false) (hl : 64 * j + f + 1 = loc) (hn1 : narrow ty (.int x) = .int x) (hn2 : fits ty (.int x) = true) (k : PW G rc rs (pc + 3) ls st (up μ loc q 0 x)) : PW G rc rs pc ls (pI x :: pR j q :: st) μ := by
  subst hl
  obtain ⟨p, l, e, R, s, m, args, below, meth, c, Q, A, V, idx, tl⟩ := G
  obtain ⟨Cn, T, N, tt, hc, hk, hw, hown, hlk, htt, hnm, hfin, hty⟩ := hf
  intro H locs cells slots lsM hP hS hl hL hV h1 h2
  have hV' := List.forall_mem_cons.mp (List.forall_mem_cons.mp hV).2
  have hin : (j, q) ∈ idx := hV'.1.resolve_right (fun h => by rw [show j = 41 from h] at hj; cases hj)
  obtain ⟨n, hni, hn⟩ := wl_get (V := V) (μ := μ) (tl := tl) hin
  rw [cc1_obj hs] at hn
  have hfl : f < fs.length := (List.getElem?_eq_some_iff.mp hr).1
  have hf62 := sp_len hs
  refine va_put (ty := ty) (v := .int x) C.1 C.2.1 C.2.2.2.2.1 hw tt htt hnm C.2.2.2.1 C.2.2.2.2.2.1.1 hP (wl_D C.2.2.2.2.2.2.1) hS n hn hc f hk (C.2.2.2.2.1 _ hlk) (by rw [hown]; exact fun _ h => h) hfin hty hn1 hn2 (by rw [fl_len]; exact hfl) d (fun H1 locs1 hP1 _ hS1 => ?_)
  rw [wl_set (μ' := up μ (64 * j + f + 1) q 0 x) hni C.2.2.2.2.2.2.2.1.1 (by rw [cc1_obj hs]; have := fl_set (ad := V.1) (μ := μ) (j := j) (k := q) (v := x) (f0 := 0) hr; rw [Nat.zero_add] at this; rw [this]) (fun j' k' h => cc1_ne (f := f + 1) (by omega) h)] at hP1
  exact k H1 locs1 cells slots lsM hP1 hS1 hl hL hV'.2 h1 h2
theorem px_iald {n a j q : Nat} {i : Int32} (loc : Nat) (C : PCx G cc nL own) (d : decode cc pc = .ok (.iaload, 1)) (hs : sp j q = .inr (a, n, none)) (ha : a = 2) (hj : (j == 41) = false) (hl : 64 * j = loc) (hin : vp_in i n) (k : PW G rc rs (pc + 1) ls (pI (μ loc q i.toNatClampNeg) :: st) μ) : PW G rc rs pc ls (pI i :: pR j q :: st) μ := by
  subst hl; subst ha
  obtain ⟨p, l, e, R, s, m, args, below, meth, c, Q, A, V, idx, tl⟩ := G
  intro H locs cells slots lsM hP hS hl hL hV h1 h2
  have hV' := List.forall_mem_cons.mp (List.forall_mem_cons.mp hV).2
  have hi : (j, q) ∈ idx := hV'.1.resolve_right (fun h => by rw [show j = 41 from h] at hj; cases hj)
  obtain ⟨n9, -, hn⟩ := wl_get (V := V) (μ := μ) (tl := tl) hi
  rw [cc1_arr hs] at hn
  exact va_iald C.1 C.2.1 C.2.2.2.2.2.1.1 hP n9 2 hn (tyL_at V (by decide)) hin d (k H locs cells slots lsM hP hS hl hL (List.forall_mem_cons.mpr ⟨trivial, hV'.2⟩) h1 h2)
theorem px_zald {n a j q : Nat} {i : Int32} (loc : Nat) (C : PCx G cc nL own) (d : decode cc pc = .ok (.baload, 1)) (hs : sp j q = .inr (a, n, none)) (ha : a = 3) (hj : (j == 41) = false) (hl : 64 * j = loc) (hin : vp_in i n) (k : PW G rc rs (pc + 1) ls (pI (μ loc q i.toNatClampNeg) :: st) μ) : PW G rc rs pc ls (pI i :: pR j q :: st) μ := by
  subst hl; subst ha
  obtain ⟨p, l, e, R, s, m, args, below, meth, c, Q, A, V, idx, tl⟩ := G
  intro H locs cells slots lsM hP hS hl hL hV h1 h2
  have hV' := List.forall_mem_cons.mp (List.forall_mem_cons.mp hV).2
  have hi : (j, q) ∈ idx := hV'.1.resolve_right (fun h => by rw [show j = 41 from h] at hj; cases hj)
  obtain ⟨n9, -, hn⟩ := wl_get (V := V) (μ := μ) (tl := tl) hi
  rw [cc1_arr hs] at hn
  exact va_zald C.1 C.2.1 C.2.2.2.2.2.1.1 hP n9 3 hn (tyL_at V (by decide)) hin d (k H locs cells slots lsM hP hS hl hL (List.forall_mem_cons.mpr ⟨trivial, hV'.2⟩) h1 h2)
theorem px_cald {n a j q : Nat} {i : Int32} (loc : Nat) (C : PCx G cc nL own) (d : decode cc pc = .ok (.caload, 1)) (hs : sp j q = .inr (a, n, none)) (ha : a = 1) (hj : (j == 41) = false) (hl : 64 * j = loc) (hin : vp_in i n) (k : PW G rc rs (pc + 1) ls (pI (μ loc q i.toNatClampNeg) :: st) μ) : PW G rc rs pc ls (pI i :: pR j q :: st) μ := by
  subst hl; subst ha
  obtain ⟨p, l, e, R, s, m, args, below, meth, c, Q, A, V, idx, tl⟩ := G
  intro H locs cells slots lsM hP hS hl hL hV h1 h2
  have hV' := List.forall_mem_cons.mp (List.forall_mem_cons.mp hV).2
  have hi : (j, q) ∈ idx := hV'.1.resolve_right (fun h => by rw [show j = 41 from h] at hj; cases hj)
  obtain ⟨n9, -, hn⟩ := wl_get (V := V) (μ := μ) (tl := tl) hi
  rw [cc1_arr hs] at hn
  exact va_cald C.1 C.2.1 C.2.2.2.2.2.1.1 hP n9 1 hn (tyL_at V (by decide)) hin d (k H locs cells slots lsM hP hS hl hL (List.forall_mem_cons.mpr ⟨trivial, hV'.2⟩) h1 h2)
theorem px_lald {n a j q : Nat} {i : Int32} (loc : Nat) (C : PCx G cc nL own) (d : decode cc pc = .ok (.laload, 1)) (hs : sp j q = .inr (a, n, none)) (ha : a = 6) (hj : (j == 41) = false) (hl : 64 * j = loc) (hin : vp_in i n) (k : PW G rc rs (pc + 1) ls (pW (.long (μ loc q i.toNatClampNeg).toInt64) :: st) μ) : PW G rc rs pc ls (pI i :: pR j q :: st) μ := by
  subst hl; subst ha
  obtain ⟨p, l, e, R, s, m, args, below, meth, c, Q, A, V, idx, tl⟩ := G
  intro H locs cells slots lsM hP hS hl hL hV h1 h2
  have hV' := List.forall_mem_cons.mp (List.forall_mem_cons.mp hV).2
  have hi : (j, q) ∈ idx := hV'.1.resolve_right (fun h => by rw [show j = 41 from h] at hj; cases hj)
  obtain ⟨n9, -, hn⟩ := wl_get (V := V) (μ := μ) (tl := tl) hi
  rw [cc1_arr hs] at hn
  exact va_lald C.1 C.2.1 C.2.2.2.2.2.1.1 hP n9 6 hn (tyL_at V (by decide)) hin d (k H locs cells slots lsM hP hS hl hL (List.forall_mem_cons.mpr ⟨trivial, hV'.2⟩) h1 h2)
theorem px_dald {n a j q : Nat} {i : Int32} (loc : Nat) (C : PCx G cc nL own) (d : decode cc pc = .ok (.daload, 1)) (hs : sp j q = .inr (a, n, none)) (ha : a = 7) (hj : (j == 41) = false) (hl : 64 * j = loc) (hin : vp_in i n) (k : PW G rc rs (pc + 1) ls (pW (.double (dbl (μ loc q (2 * i.toNatClampNeg)) (μ loc q (2 * i.toNatClampNeg + 1)))) :: st) μ) : PW G rc rs pc ls (pI i :: pR j q :: st) μ := by
  subst hl; subst ha
  obtain ⟨p, l, e, R, s, m, args, below, meth, c, Q, A, V, idx, tl⟩ := G
  intro H locs cells slots lsM hP hS hl hL hV h1 h2
  have hV' := List.forall_mem_cons.mp (List.forall_mem_cons.mp hV).2
  have hi : (j, q) ∈ idx := hV'.1.resolve_right (fun h => by rw [show j = 41 from h] at hj; cases hj)
  obtain ⟨n9, -, hn⟩ := wl_get (V := V) (μ := μ) (tl := tl) hi
  rw [cc1_arr hs] at hn
  exact va_dald C.1 C.2.1 C.2.2.2.2.2.1.1 hP n9 7 hn (tyL_at V (by decide)) hin d (k H locs cells slots lsM hP hS hl hL (List.forall_mem_cons.mpr ⟨trivial, hV'.2⟩) h1 h2)
theorem px_aald {n a j q j' q' : Nat} {g : Nat → Nat × Nat} {i : Int32} (C : PCx G cc nL own) (d : decode cc pc = .ok (.aaload, 1)) (hs : sp j q = .inr (a, n, some g)) (hr : (aty a).isReference = true) (hj : (j == 41) = false) (hin : vp_in i n) (hg : g i.toNatClampNeg = (j', q')) (k : PW G rc rs (pc + 1) ls (pR j' q' :: st) μ) : PW G rc rs pc ls (pI i :: pR j q :: st) μ := by
  obtain ⟨p, l, e, R, s, m, args, below, meth, c, Q, A, V, idx, tl⟩ := G
  intro H locs cells slots lsM hP hS hl hL hV h1 h2
  have hV' := List.forall_mem_cons.mp (List.forall_mem_cons.mp hV).2
  have hi : (j, q) ∈ idx := hV'.1.resolve_right (fun h => by rw [show j = 41 from h] at hj; cases hj)
  obtain ⟨n9, -, hn⟩ := wl_get (V := V) (μ := μ) (tl := tl) hi
  rw [cc1_arr hs] at hn
  have hlt : i.toNatClampNeg < n := Nat.not_le.mp fun z => hin (Or.inr z)
  have hok : (j', q') ∈ idx := by have := (C.2.2.2.2.2.2.2.1.2 (j, q) hi).2 a n g hs _ hlt; rwa [hg] at this
  have ha8 := (sp_acl hs).1
  exact W.aald (v := .ref (V.1 j' q')) (ty := aty a) C.1 C.2.1 (hP n9 _ hn) ((C.2.2.2.2.2.1.1.2 a _ (tyL_at V ha8)).1 n (fun z => va_rf (some (V.1 (g z).1 (g z).2)))) hr (fun z => by cases z) (by show ¬ (i < 0 ∨ (arrV _ _ _).slots.size ≤ _); rw [arrV_size]; exact hin) (by show (arrV _ _ _).slots[_]? = _; rw [arrV_read _ _ hlt]; simp only [hg]; rfl) rfl rfl d (k H locs cells slots lsM hP hS hl hL (List.forall_mem_cons.mpr ⟨Or.inl hok, hV'.2⟩) h1 h2)
theorem px_iast {n a j q : Nat} {i x : Int32} (loc : Nat) (C : PCx G cc nL own) (d : decode cc pc = .ok (.iastore, 1)) (hs : sp j q = .inr (a, n, none)) (ha : a = 2) (hj : (j == 41) = false) (hl : 64 * j = loc) (hin : vp_in i n) (k : PW G rc rs (pc + 1) ls st (up μ loc q i.toNatClampNeg x)) : PW G rc rs pc ls (pI x :: pI i :: pR j q :: st) μ := by
  subst hl; subst ha
  obtain ⟨p, l, e, R, s, m, args, below, meth, c, Q, A, V, idx, tl⟩ := G
  intro H locs cells slots lsM hP hS hl hL hV h1 h2
  have hV' := List.forall_mem_cons.mp (List.forall_mem_cons.mp (List.forall_mem_cons.mp hV).2).2
  have hi : (j, q) ∈ idx := hV'.1.resolve_right (fun h => by rw [show j = 41 from h] at hj; cases hj)
  obtain ⟨n9, hni, hn⟩ := wl_get (V := V) (μ := μ) (tl := tl) hi
  rw [cc1_arr hs] at hn
  refine va_iast C.1 C.2.1 C.2.2.2.2.2.1.1 hP (wl_D C.2.2.2.2.2.2.1) hS n9 2 hn (tyL_at V (by decide)) hin d (fun H1 locs1 hP1 _ hS1 => ?_)
  rw [wl_set (μ' := up μ (64 * j) q i.toNatClampNeg x) hni C.2.2.2.2.2.2.2.1.1 (by rw [cc1_arr hs, up_same]; rfl) (fun j' k' h => cc1_ne (f := 0) (by omega) h)] at hP1
  exact k H1 locs1 cells slots lsM hP1 hS1 hl hL hV'.2 h1 h2
theorem px_zast {n a j q : Nat} {i x : Int32} (loc : Nat) (C : PCx G cc nL own) (d : decode cc pc = .ok (.bastore, 1)) (hs : sp j q = .inr (a, n, none)) (ha : a = 3) (hj : (j == 41) = false) (hl : 64 * j = loc) (hin : vp_in i n) (k : PW G rc rs (pc + 1) ls st (up μ loc q i.toNatClampNeg (vp_nar .boolean x))) : PW G rc rs pc ls (pI x :: pI i :: pR j q :: st) μ := by
  subst hl; subst ha
  obtain ⟨p, l, e, R, s, m, args, below, meth, c, Q, A, V, idx, tl⟩ := G
  intro H locs cells slots lsM hP hS hl hL hV h1 h2
  have hV' := List.forall_mem_cons.mp (List.forall_mem_cons.mp (List.forall_mem_cons.mp hV).2).2
  have hi : (j, q) ∈ idx := hV'.1.resolve_right (fun h => by rw [show j = 41 from h] at hj; cases hj)
  obtain ⟨n9, hni, hn⟩ := wl_get (V := V) (μ := μ) (tl := tl) hi
  rw [cc1_arr hs] at hn
  refine va_zast C.1 C.2.1 C.2.2.2.2.2.1.1 hP (wl_D C.2.2.2.2.2.2.1) hS n9 3 hn (tyL_at V (by decide)) hin d (fun H1 locs1 hP1 _ hS1 => ?_)
  rw [wl_set (μ' := up μ (64 * j) q i.toNatClampNeg (vp_nar .boolean x)) hni C.2.2.2.2.2.2.2.1.1 (by rw [cc1_arr hs, up_same]; rfl) (fun j' k' h => cc1_ne (f := 0) (by omega) h)] at hP1
  exact k H1 locs1 cells slots lsM hP1 hS1 hl hL hV'.2 h1 h2
theorem px_cast {n a j q : Nat} {i x : Int32} (loc : Nat) (C : PCx G cc nL own) (d : decode cc pc = .ok (.castore, 1)) (hs : sp j q = .inr (a, n, none)) (ha : a = 1) (hj : (j == 41) = false) (hl : 64 * j = loc) (hin : vp_in i n) (k : PW G rc rs (pc + 1) ls st (up μ loc q i.toNatClampNeg (vp_nar .char x))) : PW G rc rs pc ls (pI x :: pI i :: pR j q :: st) μ := by
  subst hl; subst ha
  obtain ⟨p, l, e, R, s, m, args, below, meth, c, Q, A, V, idx, tl⟩ := G
  intro H locs cells slots lsM hP hS hl hL hV h1 h2
  have hV' := List.forall_mem_cons.mp (List.forall_mem_cons.mp (List.forall_mem_cons.mp hV).2).2
  have hi : (j, q) ∈ idx := hV'.1.resolve_right (fun h => by rw [show j = 41 from h] at hj; cases hj)
  obtain ⟨n9, hni, hn⟩ := wl_get (V := V) (μ := μ) (tl := tl) hi
  rw [cc1_arr hs] at hn
  refine va_cast C.1 C.2.1 C.2.2.2.2.2.1.1 hP (wl_D C.2.2.2.2.2.2.1) hS n9 1 hn (tyL_at V (by decide)) hin d (fun H1 locs1 hP1 _ hS1 => ?_)
  rw [wl_set (μ' := up μ (64 * j) q i.toNatClampNeg (vp_nar .char x)) hni C.2.2.2.2.2.2.2.1.1 (by rw [cc1_arr hs, up_same]; rfl) (fun j' k' h => cc1_ne (f := 0) (by omega) h)] at hP1
  exact k H1 locs1 cells slots lsM hP1 hS1 hl hL hV'.2 h1 h2
theorem px_last {n a j q : Nat} {i x : Int32} {y : Int64} (loc : Nat) (C : PCx G cc nL own) (d : decode cc pc = .ok (.lastore, 1)) (hs : sp j q = .inr (a, n, none)) (ha : a = 6) (hj : (j == 41) = false) (hl : 64 * j = loc) (hin : vp_in i n) (hy : y = x.toInt64) (k : PW G rc rs (pc + 1) ls st (up μ loc q i.toNatClampNeg x)) : PW G rc rs pc ls (pW (.long y) :: pI i :: pR j q :: st) μ := by
  subst hl; subst ha; subst hy
  obtain ⟨p, l, e, R, s, m, args, below, meth, c, Q, A, V, idx, tl⟩ := G
  intro H locs cells slots lsM hP hS hl hL hV h1 h2
  have hV' := List.forall_mem_cons.mp (List.forall_mem_cons.mp (List.forall_mem_cons.mp hV).2).2
  have hi : (j, q) ∈ idx := hV'.1.resolve_right (fun h => by rw [show j = 41 from h] at hj; cases hj)
  obtain ⟨n9, hni, hn⟩ := wl_get (V := V) (μ := μ) (tl := tl) hi
  rw [cc1_arr hs] at hn
  refine va_last C.1 C.2.1 C.2.2.2.2.2.1.1 hP (wl_D C.2.2.2.2.2.2.1) hS n9 6 hn (tyL_at V (by decide)) hin d (fun H1 locs1 hP1 _ hS1 => ?_)
  rw [wl_set (μ' := up μ (64 * j) q i.toNatClampNeg x) hni C.2.2.2.2.2.2.2.1.1 (by
    rw [cc1_arr hs, up_same]
    exact congrArg (va_E_l (V.2.2 6) n) (funext fun z => by unfold vp_updL upd; split <;> rfl)) (fun j' k' h => cc1_ne (f := 0) (by omega) h)] at hP1
  exact k H1 locs1 cells slots lsM hP1 hS1 hl hL hV'.2 h1 h2
end PWm
