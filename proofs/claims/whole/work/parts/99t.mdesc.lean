-- describe: what it says; the reference
abbrev TX : Type := Nat × (Nat → Nat)
def txN (x : TX) (v : Nat) : TX := (x.1 + sb_dg v, sb_cat x.2 x.1 (sb_dec v))
def txC (x : TX) (c : Nat) : TX := (x.1 + 1, sb_cat x.2 x.1 (fun _ => c))
def tx0 : TX := (0, fun _ => 0)
def dtx1 (w : View) (i : Nat) : TX := txC (txN (txC (txN tx0 (w i 1).toNat) 47) (w i 0).toNat) 60
def dtx2 (w : View) (i : Nat) : TX := if w i 2 = -1 then txC (dtx1 w i) 45 else txN (dtx1 w i) (w i 2).toNat
def dtx3 (w : View) (i : Nat) : TX := txN (txC (txN (txC (txN (txC (dtx2 w i) 64) (w i 3).toNat) 58) (w i 4).toNat) 45) (w i 5).toNat
def dtx (w : View) (i : Nat) : TX := txC (if w i 6 = 1 then txC (dtx3 w i) 33 else dtx3 w i) 59
def op_describe (S : GS) (z k : Int) : OpR Int := if (fnd S.1.1 S.1.2.1 z) = -1 then thw S xIO 1 else if k = -1 then ok S ((dtx (S.1.2.1) ((fnd S.1.1 S.1.2.1 z)).toNat).1 : Int) else if 0 ≤ k ∧ k < (dtx (S.1.2.1) ((fnd S.1.1 S.1.2.1 z)).toNat).1 then ok S (((dtx (S.1.2.1) ((fnd S.1.1 S.1.2.1 z)).toNat).2 k.toNat : Nat) : Int) else thw S xNE 2
theorem dg_le {v : Nat} (h : v < 10000) : 1 ≤ sb_dg v ∧ sb_dg v ≤ 4 := by
  unfold sb_dg
  (repeat' split) <;> omega
theorem dg2 {v : Nat} (h : v < 100) : sb_dg v ≤ 2 := by
  unfold sb_dg
  (repeat' split) <;> omega
theorem dg1 {v : Nat} (h : v < 10) : sb_dg v ≤ 1 := by
  unfold sb_dg
  (repeat' split) <;> omega
theorem dtx1_le {w : View} {i : Nat} (r : Rg w i) : (dtx1 w i).1 ≤ 5 := by
  have a := dg1 (v := (w i 1).toNat) (by omega)
  have b := dg2 (v := (w i 0).toNat) (by omega)
  show 0 + sb_dg (w i 1).toNat + 1 + sb_dg (w i 0).toNat + 1 ≤ 5
  omega
theorem dtx2_le {w : View} {i : Nat} (r : Rg w i) : (dtx2 w i).1 ≤ 7 := by
  have h := dtx1_le r
  unfold dtx2
  by_cases c : w i 2 = -1
  · rw [if_pos c]
    show (dtx1 w i).1 + 1 ≤ 7
    omega
  · rw [if_neg c]
    have b := dg2 (v := (w i 2).toNat) (by omega)
    show (dtx1 w i).1 + sb_dg (w i 2).toNat ≤ 7
    omega
theorem dtx3_le {w : View} {i : Nat} (r : Rg w i) : (dtx3 w i).1 ≤ 19 := by
  have h := dtx2_le r
  have a := dg1 (v := (w i 3).toNat) (by omega)
  have b := (dg_le (v := (w i 4).toNat) (by omega)).2
  have c := (dg_le (v := (w i 5).toNat) (by omega)).2
  show (dtx2 w i).1 + 1 + sb_dg (w i 3).toNat + 1 + sb_dg (w i 4).toNat + 1 + sb_dg (w i 5).toNat ≤ 19
  omega
theorem dtx_le {w : View} {i : Nat} (r : Rg w i) : (dtx w i).1 ≤ 21 := by
  have h := dtx3_le r
  unfold dtx
  by_cases c : w i 6 = 1
  · rw [if_pos c]
    show (dtx3 w i).1 + 1 + 1 ≤ 21
    omega
  · rw [if_neg c]
    show (dtx3 w i).1 + 1 ≤ 21
    omega
/-- the reference's text -/
def TXM (μ : Mem) (x : TX) : Prop := μ 3234 0 0 = nI x.1 ∧ ∀ i, i < x.1 → μ 4608 0 i = nI (x.2 i)
def FrT (μ μ' : Mem) : Prop := ∀ j, j ≠ 3234 → j ≠ 4608 → μ' j = μ j
theorem FrT.rf {μ : Mem} : FrT μ μ := fun _ _ _ => rfl
theorem FrT.tr {μ μ1 μ2 : Mem} (h1 : FrT μ μ1) (h2 : FrT μ1 μ2) : FrT μ μ2 := fun j a b => (h2 j a b).trans (h1 j a b)
theorem FrT.m {μ μ' : Mem} (h : FrT μ μ') : FrM μ μ' := fun j hj => h j (by omega) (by omega)
theorem FrT.i {S : GS} {μ μ' : Mem} (h : FrT μ μ') (hm : MI S μ) : MI S μ' := hm.ev fun j hj => by
  refine h j ?_ ?_ <;> (rintro rfl; revert hj; decide)
theorem writes_spec {μ : Mem} {x : TX} {c : Nat} (h : TXM μ x) (hx : x.1 < 80) {P : Mem → Prop} {y : Int32} (ey : y = nI c) (hP : ∀ μ', TXM μ' (txC x c) → FrT μ μ' → P μ') : w9_writes_wp μ y P := by
  subst ey
  unfold w9_writes_wp
  obtain ⟨h1, h2⟩ := h
  rw [h1]
  refine ⟨vp_in_nI hx (by decide), ?_⟩
  rintro μ2 rfl μ3 rfl
  rw [nI_clamp (by omega)]
  refine hP _ ⟨?_, fun i hi => ?_⟩ (fun j a b => by rw [up_nq a, up_nq b])
  · rw [up_at, if_pos ⟨rfl, rfl, rfl⟩, up_nq (by decide), h1]
    exact nI_1 x.1
  · rw [up_nq (by decide), up_at]
    have hi : i < x.1 + 1 := hi
    by_cases e : i = x.1
    · subst e
      rw [if_pos ⟨rfl, rfl, rfl⟩]
      show nI c = nI (sb_cat x.2 x.1 (fun _ => c) x.1)
      unfold sb_cat
      rw [if_neg (Nat.lt_irrefl _)]
    · rw [if_neg (fun z => e z.2.2), h2 i (by omega)]
      show _ = nI (sb_cat x.2 x.1 (fun _ => c) i)
      rw [sb_cat_lo (by omega)]
theorem ten_le {e : Nat} (h : e ≤ 3) : 1 ≤ 10 ^ e ∧ 10 ^ e ≤ 1000 := by
  rcases (show e = 0 ∨ e = 1 ∨ e = 2 ∨ e = 3 by omega) with rfl | rfl | rfl | rfl <;> decide
theorem wn_out {v : Nat} (hv : v < 10000) {P : Mem → Prop} : ∀ (e : Nat) (μ : Mem) (x : TX), e ≤ 3 → TXM μ x → x.1 + e < 80 → (∀ μ', (TXM μ' (x.1 + (e + 1), fun i => if i < x.1 then x.2 i else 48 + v / 10 ^ (e - (i - x.1)) % 10)) → FrT μ μ' → P μ') → w9_writesNumber_b20 P μ (nI v) (nI (10 ^ e)) := by
  intro e
  induction e with
  | zero =>
    intro μ x he h hx hP
    intro R hR
    apply hR
    unfold w9_writesNumber_b20_body
    refine ⟨fun z => absurd z (by decide), fun _ => ⟨by decide, by decide, ?_⟩⟩
    refine writes_spec (c := 48 + v % 10) h (by omega) ?_ (fun μ' h' f' => ⟨by decide, ?_⟩)
    · rw [show (10 : Int32) = nI 10 from rfl, show (48 : Int32) = nI 48 from rfl, pk_div (by omega) (by decide) (by decide), pk_div (by omega) (by decide) (by decide), Nat.pow_zero, Nat.div_one, pk_mul, pk_sub (by omega), nI_add]
      congr 1
      omega
    · apply hR
      unfold w9_writesNumber_b20_body
      refine ⟨fun _ => hP μ' ⟨h'.1, fun i hi => ?_⟩ f', fun z => absurd (by decide) z⟩
      rw [h'.2 i hi]
      show nI (sb_cat x.2 x.1 (fun _ => 48 + v % 10) i) = nI (if i < x.1 then x.2 i else 48 + v / 10 ^ (0 - (i - x.1)) % 10)
      unfold sb_cat
      by_cases c : i < x.1
      · rw [if_pos c, if_pos c]
      · rw [if_neg c, if_neg c, Nat.zero_sub, Nat.pow_zero, Nat.div_one]
  | succ e ih =>
    intro μ x he h hx hP
    intro R hR
    apply hR
    unfold w9_writesNumber_b20_body
    have t1 := ten_le (e := e + 1) he
    have t0 := ten_le (e := e) (by omega)
    refine ⟨fun z => absurd z (nI_nle (by omega) (by omega)), fun _ => ⟨nI_ne0 (by omega) (by omega), by decide, ?_⟩⟩
    refine writes_spec (c := 48 + v / 10 ^ (e + 1) % 10) h (by omega) ?_ (fun μ' h' f' => ⟨by decide, ?_⟩)
    · have hd : v / 10 ^ (e + 1) ≤ v := Nat.div_le_self _ _
      rw [show (10 : Int32) = nI 10 from rfl, show (48 : Int32) = nI 48 from rfl, pk_div (by omega) (by omega) (by omega), pk_div (by omega) (by decide) (by decide), pk_mul, pk_sub (by omega), nI_add]
      congr 1
      omega
    · rw [show (10 : Int32) = nI 10 from rfl, pk_div (by omega) (by decide) (by decide), show 10 ^ (e + 1) / 10 = 10 ^ e by rw [Nat.pow_succ, Nat.mul_div_cancel _ (by decide)]]
      refine ih μ' (txC x (48 + v / 10 ^ (e + 1) % 10)) (by omega) h' (by show x.1 + 1 + e < 80; omega) (fun μ2 h2 f2 => hP μ2 ⟨?_, fun i hi => ?_⟩ (f'.tr f2)) R hR
      · rw [h2.1]
        show nI (x.1 + 1 + (e + 1)) = nI (x.1 + (e + 1 + 1))
        congr 1
        omega
      · have hi : i < x.1 + (e + 1 + 1) := hi
        rw [h2.2 i (by show i < x.1 + 1 + (e + 1); omega)]
        show nI (if i < x.1 + 1 then sb_cat x.2 x.1 (fun _ => 48 + v / 10 ^ (e + 1) % 10) i else 48 + v / 10 ^ (e - (i - (x.1 + 1))) % 10) = nI (if i < x.1 then x.2 i else 48 + v / 10 ^ (e + 1 - (i - x.1)) % 10)
        by_cases c : i < x.1
        · rw [if_pos (by omega), if_pos c, sb_cat_lo c]
        · rw [if_neg c]
          by_cases c2 : i < x.1 + 1
          · rw [if_pos c2]
            unfold sb_cat
            rw [if_neg c, show i - x.1 = 0 by omega, Nat.sub_zero]
          · rw [if_neg c2, show e - (i - (x.1 + 1)) = e + 1 - (i - x.1) by omega]
theorem wn_unit {v : Nat} (hv : v < 10000) {P : Mem → Prop} {μ : Mem} (k : w9_writesNumber_b20 P μ (nI v) (nI (10 ^ (sb_dg v - 1)))) : ∀ (d e : Nat), e + d + 1 = sb_dg v → w9_writesNumber_b2 P μ (nI v) (nI (10 ^ e)) := by
  intro d
  induction d with
  | zero =>
    intro e he
    intro R hR
    apply hR
    unfold w9_writesNumber_b2_body
    have g := dg_le hv
    have t := ten_le (e := e) (by omega)
    rw [pk_div (by omega) (by omega) (by omega), show (10 : Int32) = nI 10 from rfl]
    have hd : v / 10 ^ e < 10 := by
      have he3 : e = 0 ∨ e = 1 ∨ e = 2 ∨ e = 3 := by omega
      clear t
      unfold sb_dg at he
      rcases he3 with rfl | rfl | rfl | rfl
      all_goals (split at he <;> try omega)
      all_goals (try (split at he <;> try omega))
      all_goals (try (split at he <;> try omega))
      all_goals (try (split at he <;> try omega))
    refine ⟨nI_ne0 (by omega) (by omega), fun _ => ?_, fun z => absurd (nI_lt hd (by decide)) z⟩
    rw [show e = sb_dg v - 1 by omega]
    exact k
  | succ d ih =>
    intro e he
    intro R hR
    apply hR
    unfold w9_writesNumber_b2_body
    have g := dg_le hv
    have t := ten_le (e := e) (by omega)
    have hl : v / 10 ^ e ≤ v := Nat.div_le_self _ _
    rw [pk_div (by omega) (by omega) (by omega), show (10 : Int32) = nI 10 from rfl]
    have hd : 10 ≤ v / 10 ^ e := by
      have he3 : e = 0 ∨ e = 1 ∨ e = 2 := by omega
      clear t hl
      unfold sb_dg at he
      rcases he3 with rfl | rfl | rfl
      all_goals (split at he <;> try omega)
      all_goals (try (split at he <;> try omega))
      all_goals (try (split at he <;> try omega))
      all_goals (try (split at he <;> try omega))
    refine ⟨nI_ne0 (by omega) (by omega), fun z => absurd z (nI_nlt hd (by omega)), fun _ => ?_⟩
    have := ih (e + 1) (by omega) R hR
    rw [Nat.pow_succ, ← pk_mul] at this
    exact this
theorem wnum_spec {μ : Mem} {x : TX} {v : Nat} (hv : v < 10000) (h : TXM μ x) (hx : x.1 + 4 < 80) {P : Mem → Prop} {y : Int32} (ey : y = nI v) (hP : ∀ μ', TXM μ' (txN x v) → FrT μ μ' → P μ') : w9_writesNumber_wp μ y P := by
  subst ey
  unfold w9_writesNumber_wp
  have g := dg_le hv
  refine wn_unit hv ?_ (sb_dg v - 1) 0 (by omega)
  refine wn_out hv (sb_dg v - 1) μ x (by omega) h (by omega) (fun μ' h' f' => hP μ' ⟨?_, fun i hi => ?_⟩ f')
  · rw [h'.1]
    show nI (x.1 + (sb_dg v - 1 + 1)) = nI (x.1 + sb_dg v)
    congr 1
    omega
  · have hi : i < x.1 + sb_dg v := hi
    rw [h'.2 i (by show i < x.1 + (sb_dg v - 1 + 1); omega)]
    rfl
def TXB (μ : Mem) (x : TX) (n : Nat) : Prop := TXM μ x ∧ x.1 ≤ n
theorem wC {μ : Mem} {x : TX} {n : Nat} (c : Nat) (h : TXB μ x n) (hn : n < 80) {P : Mem → Prop} {y : Int32} (ey : y = nI c) (hP : ∀ μ', TXB μ' (txC x c) (n + 1) → FrT μ μ' → P μ') : w9_writes_wp μ y P :=
  writes_spec h.1 (by have := h.2; omega) ey (fun μ' h' f' => hP μ' ⟨h', Nat.succ_le_succ h.2⟩ f')
theorem wN {μ : Mem} {x : TX} {n : Nat} (v : Nat) (hv : v < 10000) (h : TXB μ x n) (hn : n + 4 < 80) {P : Mem → Prop} {y : Int32} (ey : y = nI v) (hP : ∀ μ', TXB μ' (txN x v) (n + 4) → FrT μ μ' → P μ') : w9_writesNumber_wp μ y P :=
  wnum_spec hv h.1 (by have := h.2; omega) ey (fun μ' h' f' => hP μ' ⟨h', Nat.add_le_add h.2 (dg_le hv).2⟩ f')
theorem md_end {S : GS} {μ0 μ : Mem} {y : TX} {n : Nat} {k : Int} {P : Int32 → Mem → Prop} (hk : (-2147483648 ≤ k ∧ k ≤ 2147483647)) (h : MRes J (if k = -1 then ok S (((txC y 59).1 : Nat) : Int) else if 0 ≤ k ∧ k < ((txC y 59).1 : Nat) then ok S (((txC y 59).2 k.toNat : Nat) : Int) else thw S xNE 2) μ0 P) (f : FrM μ0 μ) (k1 : MI S μ) (t1 : (μ 3201 0 0) = J 0) (T : TXB μ y n) (hn : n ≤ 50) : w9_describe_b146 P μ (J k) := by
  unfold w9_describe_b146
  refine wC 59 T (by omega) rfl (fun μ1 T1 f1 => ?_)
  have f2 : FrM μ0 μ1 := f.tr f1.m
  have k2 : MI S μ1 := f1.i k1
  have t2 : (μ1 3201 0 0) = J 0 := by rw [show μ1 3201 = μ 3201 from f1 _ (by decide) (by decide)]; exact t1
  obtain ⟨⟨e1, e2⟩, e3⟩ := T1
  generalize txC y 59 = x at h e1 e2 e3
  have hx : x.1 ≤ 51 := by omega
  rw [e1]
  constructor
  · intro c
    rw [show (-1 : Int32) = J (-1) from rfl, J_eq hk (by decide)] at c
    rw [if_neg c] at h
    refine in_spec k 0 ((x.1 : Int) - 1) rfl rfl ?_ hk (by decide) (by omega) (fun c2 => ⟨fun z => absurd z (by decide), fun _ => ?_⟩) (fun c2 => ⟨fun _ => ?_, fun z => absurd rfl z⟩)
    · rw [← Jn, show (1 : Int32) = J 1 from rfl, J_sub]
    · rw [if_pos (by omega)] at h
      refine ⟨(J_in hk).mpr (by omega), ?_⟩
      rw [J_clamp hk, e2 _ (by omega)]
      exact m_ok h f2 k2 t2 (Jn _).symm
    · rw [if_neg (by omega)] at h
      exact m_fails rfl h f2 k2
  · intro c
    rw [show (-1 : Int32) = J (-1) from rfl, J_eq hk (by decide)] at c
    rw [if_pos c] at h
    exact m_ok h f2 k2 t2 (Jn _).symm
theorem m_describe {S : GS} {μ : Mem} (hm : MI S μ) (g : GOK S) {z k : Int} (hz : (-2147483648 ≤ z ∧ z ≤ 2147483647)) (hk : (-2147483648 ≤ k ∧ k ≤ 2147483647)) {P : Int32 → Mem → Prop} (h : MRes J (op_describe S z k) μ P) : w9_describe_wp μ (J z) (J k) P := by
  unfold op_describe at h
  unfold w9_describe_wp
  refine m_on hm g hz (fun c μ1 f1 k1 t1 => ?_) (fun i hi ei ez μ1 f1 k1 t1 => ?_)
  · rw [if_pos c] at h
    exact m_thw h f1 k1 t1
  rw [if_neg (by omega), ei, Int.toNat_natCast] at h
  have rn := g.1.n
  have r := (g.w.r i hi).1
  have ev : ∀ c, 0 ≤ S.1.2.1 i c → J (S.1.2.1 i c) = nI (S.1.2.1 i c).toNat := fun c h => by rw [← Jn]; congr 1; omega
  rintro μ3 rfl
  have F3 : FrT μ1 (up μ1 3234 0 0 0) := fun j a b => up_nq a
  have T3 : TXB (up μ1 3234 0 0 0) tx0 0 := ⟨⟨by rw [up_at, if_pos ⟨rfl, rfl, rfl⟩]; rfl, fun i hi => absurd hi (Nat.not_lt_zero _)⟩, Nat.le_refl _⟩
  generalize up μ1 3234 0 0 0 = μ3 at F3 T3
  refine of_spec (F3.i k1).1.1 rn i 1 rfl rfl hi (by decide) ?_
  refine wN (S.1.2.1 i 1).toNat (by omega) T3 (by decide) (ev 1 (by omega)) (fun μ4 T4 f4 => ?_)
  replace f4 := F3.tr f4
  refine wC 47 T4 (by decide) rfl (fun μ5 T5 f5 => ?_)
  replace f5 := f4.tr f5
  refine of_spec (f5.i k1).1.1 rn i 0 rfl rfl hi (by decide) ?_
  refine wN (S.1.2.1 i 0).toNat (by omega) T5 (by decide) (ev 0 (by omega)) (fun μ6 T6 f6 => ?_)
  replace f6 := f5.tr f6
  refine wC 60 T6 (by decide) rfl (fun μ7 T7 f7 => ?_)
  replace f7 := f6.tr f7
  refine of_spec (f7.i k1).1.1 rn i 2 rfl rfl hi (by decide) ?_
  -- what follows the parent
  have B : ∀ μ8, TXB μ8 (dtx2 (S.1.2.1) i) 14 → FrT μ1 μ8 → w9_describe_b81 P μ8 (J k) (J i) := by
    intro μ8 T8 f8
    unfold w9_describe_b81
    refine wC 64 T8 (by decide) rfl (fun μ9 T9 f9 => ?_)
    replace f9 := f8.tr f9
    refine of_spec (f9.i k1).1.1 rn i 3 rfl rfl hi (by decide) ?_
    refine wN (S.1.2.1 i 3).toNat (by omega) T9 (by decide) (ev 3 (by omega)) (fun μa Ta fa => ?_)
    replace fa := f9.tr fa
    refine wC 58 Ta (by decide) rfl (fun μb Tb fb => ?_)
    replace fb := fa.tr fb
    refine of_spec (fb.i k1).1.1 rn i 4 rfl rfl hi (by decide) ?_
    refine wN (S.1.2.1 i 4).toNat (by omega) Tb (by decide) (ev 4 (by omega)) (fun μc Tc fc => ?_)
    replace fc := fb.tr fc
    refine wC 45 Tc (by decide) rfl (fun μd Td fd9 => ?_)
    replace fd9 := fc.tr fd9
    refine of_spec (fd9.i k1).1.1 rn i 5 rfl rfl hi (by decide) ?_
    refine wN (S.1.2.1 i 5).toNat (by omega) Td (by decide) (ev 5 (by omega)) (fun μe Te fe => ?_)
    replace fe := fd9.tr fe
    refine of_spec (fe.i k1).1.1 rn i 6 rfl rfl hi (by decide) ?_
    have tt : ∀ μ', FrT μ1 μ' → (μ' 3201 0 0) = J 0 := fun μ' f => by rw [show μ' 3201 = μ1 3201 from f _ (by decide) (by decide)]; exact t1
    constructor
    · intro c
      rw [show (1 : Int32) = J 1 from rfl, J_eq (by omega) (by decide)] at c
      refine md_end (S := S) (y := dtx3 (S.1.2.1) i) hk ?_ (f1.tr fe.m) (fe.i k1) (tt _ fe) Te (by decide)
      unfold dtx at h
      rw [if_neg c] at h
      exact h
    · intro c
      rw [show (1 : Int32) = J 1 from rfl, J_eq (by omega) (by decide)] at c
      refine wC 33 Te (by decide) rfl (fun μf Tf ff => ?_)
      replace ff := fe.tr ff
      refine md_end (S := S) (y := txC (dtx3 (S.1.2.1) i) 33) hk ?_ (f1.tr ff.m) (ff.i k1) (tt _ ff) Tf (by decide)
      unfold dtx at h
      rw [if_pos c] at h
      exact h
  constructor
  · intro c
    rw [show (-1 : Int32) = J (-1) from rfl, J_eq (by omega) (by decide)] at c
    refine of_spec (f7.i k1).1.1 rn i 2 rfl rfl hi (by decide) ?_
    refine wN (S.1.2.1 i 2).toNat (by omega) T7 (by decide) (ev 2 (by omega)) (fun μ8 T8 f8 => ?_)
    refine B μ8 ?_ (f7.tr f8)
    unfold dtx2
    rw [if_neg c]
    exact T8
  · intro c
    rw [show (-1 : Int32) = J (-1) from rfl, J_eq (by omega) (by decide)] at c
    refine wC 45 T7 (by decide) rfl (fun μ8 T8 f8 => ?_)
    refine B μ8 ?_ (f7.tr f8)
    unfold dtx2
    rw [if_pos c]
    exact ⟨T8.1, Nat.le_trans T8.2 (by decide)⟩
/-- two cells behind the layout's: the builder, told as x -/
def SBX (V : VT) (tl : va_W) (x : TX) : Prop := ∃ (q m : Nat) (f : Nat → Int32) (ml : Int32) (rest : va_W), tl = sbW V (V.1 41 0) q m f ml (nI x.1) ++ rest ∧ x.1 ≤ m ∧ 16 ≤ m ∧ m ≤ 60 ∧ sb_Fit f ∧ sb_Lat x.2 x.1 f
/-- what a call on the builder leaves -/
def SBq (V : VT) (h : Nat) (x' : TX) (W0 W1 : va_W) : Prop := (∃ (q m : Nat) (f : Nat → Int32) (ml : Int32) (J9 : va_W), W1 = sbW V h q m f ml (nI x'.1) ++ J9 ∧ x'.1 ≤ m ∧ 16 ≤ m ∧ m ≤ 60 ∧ sb_Fit f ∧ sb_Lat x'.2 x'.1 f) ∧ ∀ a ∈ W0.map Prod.fst, a ∈ W1.map Prod.fst
