-- the law's loop (gen/mk_loop.py)
theorem setTl_self {G : GT} : setTl G (GTl G) = G := by
  obtain ⟨p, l, e, R, s, m, args, below, meth, c, Q, A, V, idx, tl⟩ := G
  rfl
theorem setTl_setTl {G : GT} {t1 t2 : va_W} : setTl (setTl G t1) t2 = setTl G t2 := by
  obtain ⟨p, l, e, R, s, m, args, below, meth, c, Q, A, V, idx, tl⟩ := G
  rfl
set_option maxHeartbeats 4000000 in
/-- one turn: the case that is read -/
theorem law_case {G : GT} {b L A B : Nat} {xs : Nat → Int32} {S : GS} {μ : Mem} {i x : Int32} (C : PCx G cL_law 9 RL) (hB : SBG G) (hX : Scr G b L xs) (hHR : HR G 68) (hx : ∃ y, SBX (GV G) (GTl G) y) (hc : CI S μ) (hm : MI S μ) (g : GOK S) (hi : ∀ d : Int32, 1 ≤ d → d ≤ 6 → vp_in (i + d) L)
    (hN : ∀ (S' : GS) (μ' : Mem), GOK S' → CI S' μ' → MI S' μ' → PW G A B 3473 [some (pW (.ref b)), some (pR 40 0), some (pR 50 0), some (pR 80 0), some (pR 81 0), some (pI i), none, none, none] [] μ')
    (hT : ∀ (tl' : va_W) (S' : GS) (μ' : Mem), (∃ y, SBX (GV G) tl' y) → TlOK (GV G) (GX G) (G.2.2.2.2.1).heap.size (GTl G) tl' → GOK S' → CI S' μ' → MI S' μ' → PW (setTl G tl') A B 3473 [some (pW (.ref b)), some (pR 40 0), some (pR 50 0), some (pR 80 0), some (pR 81 0), some (pI i), none, none, none] [] μ') : PW G (A + 20) (B + 900) 45 [some (pW (.ref b)), some (pR 40 0), some (pR 50 0), some (pR 80 0), some (pR 81 0), some (pI i), none, none, none] [pI x] μ := by
  obtain ⟨z, qz, rfl⟩ := J_of x
  by_cases hz : z < 0 ∨ 51 < z
  · refine px_tswo (vlo := 0) (vhi := 51) (tgt := 3473) C dL_law_45 (by decide) (by decide) (hz.imp (fun h => (J_lt (b := 0) qz (by decide)).mpr h) (fun h => (J_lt (a := 51) (by decide) qz).mpr h)) (by decide) ?_
    exact pw_less (Nat.le_add_right _ _) (Nat.le_add_right _ _) (hN S μ g hc hm)
  obtain ⟨n, hn, rfl⟩ : ∃ n : Nat, n < 52 ∧ z = (n : Int) := ⟨z.toNat, by omega, by omega⟩
  clear hz qz
  match n, hn with
  | 0, _ =>
    refine px_tsw (v := (0 : Int32)) (off := 223) (tgt := 268) C dL_law_45 rfl (by decide) (by decide) (by decide) (by decide) ?_
    exact pw_less (Nat.add_le_add_left (Nat.le_of_ble_eq_true rfl) _) (Nat.add_le_add_left (Nat.le_of_ble_eq_true rfl) _) (lc0_ok (A := A) (B := B) C hX (HR_le hHR (Nat.le_of_ble_eq_true rfl)) (fun μ9 h9 => h9) (lc0_pf hc hm g hN))
  | 1, _ =>
    refine px_tsw (v := (1 : Int32)) (off := 236) (tgt := 281) C dL_law_45 rfl (by decide) (by decide) (by decide) (by decide) ?_
    exact pw_less (Nat.add_le_add_left (Nat.le_of_ble_eq_true rfl) _) (Nat.add_le_add_left (Nat.le_of_ble_eq_true rfl) _) (lc1_ok (A := A) (B := B) C hX (HR_le hHR (Nat.le_of_ble_eq_true rfl)) (fun μ9 h9 => h9) (lc1_pf hc hm g hi hN))
  | 2, _ =>
    refine px_tsw (v := (2 : Int32)) (off := 354) (tgt := 399) C dL_law_45 rfl (by decide) (by decide) (by decide) (by decide) ?_
    exact pw_less (Nat.add_le_add_left (Nat.le_of_ble_eq_true rfl) _) (Nat.add_le_add_left (Nat.le_of_ble_eq_true rfl) _) (lc2_ok (A := A) (B := B) C hX (HR_le hHR (Nat.le_of_ble_eq_true rfl)) (fun μ9 h9 => h9) (lc2_pf hc hm g hi hN))
  | 3, _ =>
    refine px_tsw (v := (3 : Int32)) (off := 410) (tgt := 455) C dL_law_45 rfl (by decide) (by decide) (by decide) (by decide) ?_
    exact pw_less (Nat.add_le_add_left (Nat.le_of_ble_eq_true rfl) _) (Nat.add_le_add_left (Nat.le_of_ble_eq_true rfl) _) (lc3_ok (A := A) (B := B) C hX (HR_le hHR (Nat.le_of_ble_eq_true rfl)) (fun μ9 h9 => h9) (lc3_pf hc hm g hi hN))
  | 4, _ =>
    refine px_tsw (v := (4 : Int32)) (off := 478) (tgt := 523) C dL_law_45 rfl (by decide) (by decide) (by decide) (by decide) ?_
    exact pw_less (Nat.add_le_add_left (Nat.le_of_ble_eq_true rfl) _) (Nat.add_le_add_left (Nat.le_of_ble_eq_true rfl) _) (lc4_ok (A := A) (B := B) C hX (HR_le hHR (Nat.le_of_ble_eq_true rfl)) (fun μ9 h9 => h9) (lc4_pf hc hm g hi hN))
  | 5, _ =>
    refine px_tsw (v := (5 : Int32)) (off := 558) (tgt := 603) C dL_law_45 rfl (by decide) (by decide) (by decide) (by decide) ?_
    exact pw_less (Nat.add_le_add_left (Nat.le_of_ble_eq_true rfl) _) (Nat.add_le_add_left (Nat.le_of_ble_eq_true rfl) _) (lc5_ok (A := A) (B := B) C hX (HR_le hHR (Nat.le_of_ble_eq_true rfl)) (fun μ9 h9 => h9) (lc5_pf hc hm g hi hN))
  | 6, _ =>
    refine px_tsw (v := (6 : Int32)) (off := 649) (tgt := 694) C dL_law_45 rfl (by decide) (by decide) (by decide) (by decide) ?_
    exact pw_less (Nat.add_le_add_left (Nat.le_of_ble_eq_true rfl) _) (Nat.add_le_add_left (Nat.le_of_ble_eq_true rfl) _) (lc6_ok (A := A) (B := B) C hX (HR_le hHR (Nat.le_of_ble_eq_true rfl)) (fun μ9 h9 => h9) (lc6_pf hc hm g hN))
  | 7, _ =>
    refine px_tsw (v := (7 : Int32)) (off := 662) (tgt := 707) C dL_law_45 rfl (by decide) (by decide) (by decide) (by decide) ?_
    exact pw_less (Nat.add_le_add_left (Nat.le_of_ble_eq_true rfl) _) (Nat.add_le_add_left (Nat.le_of_ble_eq_true rfl) _) (lc7_ok (A := A) (B := B) C hX (HR_le hHR (Nat.le_of_ble_eq_true rfl)) (fun μ9 h9 => h9) (lc7_pf hc hm g hi hN))
  | 8, _ =>
    refine px_tsw (v := (8 : Int32)) (off := 730) (tgt := 775) C dL_law_45 rfl (by decide) (by decide) (by decide) (by decide) ?_
    exact pw_less (Nat.add_le_add_left (Nat.le_of_ble_eq_true rfl) _) (Nat.add_le_add_left (Nat.le_of_ble_eq_true rfl) _) (lc8_ok (A := A) (B := B) C hX (HR_le hHR (Nat.le_of_ble_eq_true rfl)) (fun μ9 h9 => h9) (lc8_pf hc hm g hi hN))
  | 9, _ =>
    refine px_tsw (v := (9 : Int32)) (off := 786) (tgt := 831) C dL_law_45 rfl (by decide) (by decide) (by decide) (by decide) ?_
    exact pw_less (Nat.add_le_add_left (Nat.le_of_ble_eq_true rfl) _) (Nat.add_le_add_left (Nat.le_of_ble_eq_true rfl) _) (lc9_ok (A := A) (B := B) C hX (HR_le hHR (Nat.le_of_ble_eq_true rfl)) (fun μ9 h9 => h9) (lc9_pf hc hm g hi hN))
  | 10, _ =>
    refine px_tsw (v := (10 : Int32)) (off := 842) (tgt := 887) C dL_law_45 rfl (by decide) (by decide) (by decide) (by decide) ?_
    exact pw_less (Nat.add_le_add_left (Nat.le_of_ble_eq_true rfl) _) (Nat.add_le_add_left (Nat.le_of_ble_eq_true rfl) _) (lc10_ok (A := A) (B := B) C hX (HR_le hHR (Nat.le_of_ble_eq_true rfl)) (fun μ9 h9 => h9) (lc10_pf hc hm g hi hN))
  | 11, _ =>
    refine px_tsw (v := (11 : Int32)) (off := 883) (tgt := 928) C dL_law_45 rfl (by decide) (by decide) (by decide) (by decide) ?_
    exact pw_less (Nat.add_le_add_left (Nat.le_of_ble_eq_true rfl) _) (Nat.add_le_add_left (Nat.le_of_ble_eq_true rfl) _) (lc11_ok (A := A) (B := B) C hX (HR_le hHR (Nat.le_of_ble_eq_true rfl)) (fun μ9 h9 => h9) (lc11_pf hc hm g hi hN))
  | 12, _ =>
    refine px_tsw (v := (12 : Int32)) (off := 946) (tgt := 991) C dL_law_45 rfl (by decide) (by decide) (by decide) (by decide) ?_
    exact pw_less (Nat.add_le_add_left (Nat.le_of_ble_eq_true rfl) _) (Nat.add_le_add_left (Nat.le_of_ble_eq_true rfl) _) (lc12_ok (A := A) (B := B) C hX (HR_le hHR (Nat.le_of_ble_eq_true rfl)) (fun μ9 h9 => h9) (lc12_pf hc hm g hi hN))
  | 13, _ =>
    refine px_tsw (v := (13 : Int32)) (off := 1009) (tgt := 1054) C dL_law_45 rfl (by decide) (by decide) (by decide) (by decide) ?_
    exact pw_less (Nat.add_le_add_left (Nat.le_of_ble_eq_true rfl) _) (Nat.add_le_add_left (Nat.le_of_ble_eq_true rfl) _) (lc13_ok (A := A) (B := B) C hX (HR_le hHR (Nat.le_of_ble_eq_true rfl)) (fun μ9 h9 => h9) (lc13_pf hc hm g hi hN))
  | 14, _ =>
    refine px_tsw (v := (14 : Int32)) (off := 1093) (tgt := 1138) C dL_law_45 rfl (by decide) (by decide) (by decide) (by decide) ?_
    exact pw_less (Nat.add_le_add_left (Nat.le_of_ble_eq_true rfl) _) (Nat.add_le_add_left (Nat.le_of_ble_eq_true rfl) _) (lc14_ok (A := A) (B := B) C hX (HR_le hHR (Nat.le_of_ble_eq_true rfl)) (fun μ9 h9 => h9) (lc14_pf hc hm g hi hN))
  | 15, _ =>
    refine px_tsw (v := (15 : Int32)) (off := 1149) (tgt := 1194) C dL_law_45 rfl (by decide) (by decide) (by decide) (by decide) ?_
    exact pw_less (Nat.add_le_add_left (Nat.le_of_ble_eq_true rfl) _) (Nat.add_le_add_left (Nat.le_of_ble_eq_true rfl) _) (lc15_ok (A := A) (B := B) C hX (HR_le hHR (Nat.le_of_ble_eq_true rfl)) (fun μ9 h9 => h9) (lc15_pf hc hm g hi hN))
  | 16, _ =>
    refine px_tsw (v := (16 : Int32)) (off := 1205) (tgt := 1250) C dL_law_45 rfl (by decide) (by decide) (by decide) (by decide) ?_
    exact pw_less (Nat.add_le_add_left (Nat.le_of_ble_eq_true rfl) _) (Nat.add_le_add_left (Nat.le_of_ble_eq_true rfl) _) (lc16_ok (A := A) (B := B) C hX (HR_le hHR (Nat.le_of_ble_eq_true rfl)) (fun μ9 h9 => h9) (lc16_pf hc hm g hi hN))
  | 17, _ =>
    refine px_tsw (v := (17 : Int32)) (off := 1261) (tgt := 1306) C dL_law_45 rfl (by decide) (by decide) (by decide) (by decide) ?_
    exact pw_less (Nat.add_le_add_left (Nat.le_of_ble_eq_true rfl) _) (Nat.add_le_add_left (Nat.le_of_ble_eq_true rfl) _) (lc17_ok (A := A) (B := B) C hX (HR_le hHR (Nat.le_of_ble_eq_true rfl)) (fun μ9 h9 => h9) (lc17_pf hc hm g hi hN))
  | 18, _ =>
    refine px_tsw (v := (18 : Int32)) (off := 1329) (tgt := 1374) C dL_law_45 rfl (by decide) (by decide) (by decide) (by decide) ?_
    exact pw_less (Nat.add_le_add_left (Nat.le_of_ble_eq_true rfl) _) (Nat.add_le_add_left (Nat.le_of_ble_eq_true rfl) _) (lc18_ok (A := A) (B := B) C hX (HR_le hHR (Nat.le_of_ble_eq_true rfl)) (fun μ9 h9 => h9) (lc18_pf hc hm g hi hN))
  | 19, _ =>
    refine px_tsw (v := (19 : Int32)) (off := 1397) (tgt := 1442) C dL_law_45 rfl (by decide) (by decide) (by decide) (by decide) ?_
    exact pw_less (Nat.add_le_add_left (Nat.le_of_ble_eq_true rfl) _) (Nat.add_le_add_left (Nat.le_of_ble_eq_true rfl) _) (lc19_ok (A := A) (B := B) C hX (HR_le hHR (Nat.le_of_ble_eq_true rfl)) (fun μ9 h9 => h9) (lc19_pf hc hm g hi hN))
  | 20, _ =>
    refine px_tsw (v := (20 : Int32)) (off := 1477) (tgt := 1522) C dL_law_45 rfl (by decide) (by decide) (by decide) (by decide) ?_
    exact pw_less (Nat.add_le_add_left (Nat.le_of_ble_eq_true rfl) _) (Nat.add_le_add_left (Nat.le_of_ble_eq_true rfl) _) (lc20_ok (A := A) (B := B) C hX (HR_le hHR (Nat.le_of_ble_eq_true rfl)) (fun μ9 h9 => h9) (lc20_pf hc hm g hi hN))
  | 21, _ =>
    refine px_tsw (v := (21 : Int32)) (off := 1561) (tgt := 1606) C dL_law_45 rfl (by decide) (by decide) (by decide) (by decide) ?_
    exact pw_less (Nat.add_le_add_left (Nat.le_of_ble_eq_true rfl) _) (Nat.add_le_add_left (Nat.le_of_ble_eq_true rfl) _) (lc21_ok (A := A) (B := B) C hX (HR_le hHR (Nat.le_of_ble_eq_true rfl)) (fun μ9 h9 => h9) (lc21_pf hc hm g hi hN))
  | 22, _ =>
    refine px_tsw (v := (22 : Int32)) (off := 1629) (tgt := 1674) C dL_law_45 rfl (by decide) (by decide) (by decide) (by decide) ?_
    exact pw_less (Nat.add_le_add_left (Nat.le_of_ble_eq_true rfl) _) (Nat.add_le_add_left (Nat.le_of_ble_eq_true rfl) _) (lc22_ok (A := A) (B := B) C hX (HR_le hHR (Nat.le_of_ble_eq_true rfl)) (fun μ9 h9 => h9) (lc22_pf hc hm g hi hN))
  | 23, _ =>
    refine px_tsw (v := (23 : Int32)) (off := 1725) (tgt := 1770) C dL_law_45 rfl (by decide) (by decide) (by decide) (by decide) ?_
    exact pw_less (Nat.add_le_add_left (Nat.le_of_ble_eq_true rfl) _) (Nat.add_le_add_left (Nat.le_of_ble_eq_true rfl) _) (lc23_ok (A := A) (B := B) C hX (HR_le hHR (Nat.le_of_ble_eq_true rfl)) (fun μ9 h9 => h9) (lc23_pf hc hm g hN))
  | 24, _ =>
    refine px_tsw (v := (24 : Int32)) (off := 1738) (tgt := 1783) C dL_law_45 rfl (by decide) (by decide) (by decide) (by decide) ?_
    exact pw_less (Nat.add_le_add_left (Nat.le_of_ble_eq_true rfl) _) (Nat.add_le_add_left (Nat.le_of_ble_eq_true rfl) _) (lc24_ok (A := A) (B := B) C hX (HR_le hHR (Nat.le_of_ble_eq_true rfl)) (fun μ9 h9 => h9) (lc24_pf hc hm g hi hN))
  | 25, _ =>
    refine px_tsw (v := (25 : Int32)) (off := 1806) (tgt := 1851) C dL_law_45 rfl (by decide) (by decide) (by decide) (by decide) ?_
    exact pw_less (Nat.add_le_add_left (Nat.le_of_ble_eq_true rfl) _) (Nat.add_le_add_left (Nat.le_of_ble_eq_true rfl) _) (lc25_ok (A := A) (B := B) C hX (HR_le hHR (Nat.le_of_ble_eq_true rfl)) (fun μ9 h9 => h9) (lc25_pf hc hm g hi hN))
  | 26, _ =>
    refine px_tsw (v := (26 : Int32)) (off := 1898) (tgt := 1943) C dL_law_45 rfl (by decide) (by decide) (by decide) (by decide) ?_
    exact pw_less (Nat.add_le_add_left (Nat.le_of_ble_eq_true rfl) _) (Nat.add_le_add_left (Nat.le_of_ble_eq_true rfl) _) (lc26_ok (A := A) (B := B) C hX (HR_le hHR (Nat.le_of_ble_eq_true rfl)) (fun μ9 h9 => h9) (lc26_pf hc hm g hi hN))
  | 27, _ =>
    refine px_tsw (v := (27 : Int32)) (off := 1954) (tgt := 1999) C dL_law_45 rfl (by decide) (by decide) (by decide) (by decide) ?_
    exact pw_less (Nat.add_le_add_left (Nat.le_of_ble_eq_true rfl) _) (Nat.add_le_add_left (Nat.le_of_ble_eq_true rfl) _) (lc27_ok (A := A) (B := B) C hX (HR_le hHR (Nat.le_of_ble_eq_true rfl)) (fun μ9 h9 => h9) (lc27_pf hc hm g hi hN))
  | 28, _ =>
    refine px_tsw (v := (28 : Int32)) (off := 2034) (tgt := 2079) C dL_law_45 rfl (by decide) (by decide) (by decide) (by decide) ?_
    exact pw_less (Nat.add_le_add_left (Nat.le_of_ble_eq_true rfl) _) (Nat.add_le_add_left (Nat.le_of_ble_eq_true rfl) _) (lc28_ok (A := A) (B := B) C hX (HR_le hHR (Nat.le_of_ble_eq_true rfl)) (fun μ9 h9 => h9) (lc28_pf hc hm g hi hN))
  | 29, _ =>
    refine px_tsw (v := (29 : Int32)) (off := 2090) (tgt := 2135) C dL_law_45 rfl (by decide) (by decide) (by decide) (by decide) ?_
    exact pw_less (Nat.add_le_add_left (Nat.le_of_ble_eq_true rfl) _) (Nat.add_le_add_left (Nat.le_of_ble_eq_true rfl) _) (lc29_ok (A := A) (B := B) C hX (HR_le hHR (Nat.le_of_ble_eq_true rfl)) (fun μ9 h9 => h9) (lc29_pf hc hm g hi hN))
  | 30, _ =>
    refine px_tsw (v := (30 : Int32)) (off := 2158) (tgt := 2203) C dL_law_45 rfl (by decide) (by decide) (by decide) (by decide) ?_
    exact pw_less (Nat.add_le_add_left (Nat.le_of_ble_eq_true rfl) _) (Nat.add_le_add_left (Nat.le_of_ble_eq_true rfl) _) (lc30_ok (A := A) (B := B) C hX (HR_le hHR (Nat.le_of_ble_eq_true rfl)) (fun μ9 h9 => h9) (lc30_pf hc hm g hi hN))
  | 31, _ =>
    refine px_tsw (v := (31 : Int32)) (off := 2221) (tgt := 2266) C dL_law_45 rfl (by decide) (by decide) (by decide) (by decide) ?_
    exact pw_less (Nat.add_le_add_left (Nat.le_of_ble_eq_true rfl) _) (Nat.add_le_add_left (Nat.le_of_ble_eq_true rfl) _) (lc31_ok (A := A) (B := B) C hX (HR_le hHR (Nat.le_of_ble_eq_true rfl)) (fun μ9 h9 => h9) (lc31_pf hc hm g hi hN))
  | 32, _ =>
    refine px_tsw (v := (32 : Int32)) (off := 2289) (tgt := 2334) C dL_law_45 rfl (by decide) (by decide) (by decide) (by decide) ?_
    exact pw_less (Nat.add_le_add_left (Nat.le_of_ble_eq_true rfl) _) (Nat.add_le_add_left (Nat.le_of_ble_eq_true rfl) _) (lc32_ok (A := A) (B := B) C hX (HR_le hHR (Nat.le_of_ble_eq_true rfl)) (fun μ9 h9 => h9) (lc32_pf hc hm g hi hN))
  | 33, _ =>
    refine px_tsw (v := (33 : Int32)) (off := 2366) (tgt := 2411) C dL_law_45 rfl (by decide) (by decide) (by decide) (by decide) ?_
    exact pw_less (Nat.add_le_add_left (Nat.le_of_ble_eq_true rfl) _) (Nat.add_le_add_left (Nat.le_of_ble_eq_true rfl) _) (lc33_ok (A := A) (B := B) C hX (HR_le hHR (Nat.le_of_ble_eq_true rfl)) (fun μ9 h9 => h9) (lc33_pf hc hm g hi hN))
  | 34, _ =>
    refine px_tsw (v := (34 : Int32)) (off := 2434) (tgt := 2479) C dL_law_45 rfl (by decide) (by decide) (by decide) (by decide) ?_
    exact pw_less (Nat.add_le_add_left (Nat.le_of_ble_eq_true rfl) _) (Nat.add_le_add_left (Nat.le_of_ble_eq_true rfl) _) (lc34_ok (A := A) (B := B) C hX (HR_le hHR (Nat.le_of_ble_eq_true rfl)) (fun μ9 h9 => h9) (lc34_pf hc hm g hi hN))
  | 35, _ =>
    refine px_tsw (v := (35 : Int32)) (off := 2502) (tgt := 2547) C dL_law_45 rfl (by decide) (by decide) (by decide) (by decide) ?_
    exact pw_less (Nat.add_le_add_left (Nat.le_of_ble_eq_true rfl) _) (Nat.add_le_add_left (Nat.le_of_ble_eq_true rfl) _) (lc35_ok (A := A) (B := B) C hX (HR_le hHR (Nat.le_of_ble_eq_true rfl)) (fun μ9 h9 => h9) (lc35_pf hc hm g hi hN))
  | 36, _ =>
    refine px_tsw (v := (36 : Int32)) (off := 2558) (tgt := 2603) C dL_law_45 rfl (by decide) (by decide) (by decide) (by decide) ?_
    exact pw_less (Nat.add_le_add_left (Nat.le_of_ble_eq_true rfl) _) (Nat.add_le_add_left (Nat.le_of_ble_eq_true rfl) _) (lc36_ok (A := A) (B := B) C hX (HR_le hHR (Nat.le_of_ble_eq_true rfl)) (fun μ9 h9 => h9) (lc36_pf hc hm g hi hN))
  | 37, _ =>
    refine px_tsw (v := (37 : Int32)) (off := 2648) (tgt := 2693) C dL_law_45 rfl (by decide) (by decide) (by decide) (by decide) ?_
    exact pw_less (Nat.add_le_add_left (Nat.le_of_ble_eq_true rfl) _) (Nat.add_le_add_left (Nat.le_of_ble_eq_true rfl) _) (lc37_ok (A := A) (B := B) C hX (HR_le hHR (Nat.le_of_ble_eq_true rfl)) (fun μ9 h9 => h9) (lc37_pf hc hm g hi hN))
  | 38, _ =>
    refine px_tsw (v := (38 : Int32)) (off := 2704) (tgt := 2749) C dL_law_45 rfl (by decide) (by decide) (by decide) (by decide) ?_
    exact pw_less (Nat.add_le_add_left (Nat.le_of_ble_eq_true rfl) _) (Nat.add_le_add_left (Nat.le_of_ble_eq_true rfl) _) (lc38_ok (A := A) (B := B) C hX (HR_le hHR (Nat.le_of_ble_eq_true rfl)) (fun μ9 h9 => h9) (lc38_pf hc hm g hi hN))
  | 39, _ =>
    refine px_tsw (v := (39 : Int32)) (off := 2772) (tgt := 2817) C dL_law_45 rfl (by decide) (by decide) (by decide) (by decide) ?_
    exact pw_less (Nat.add_le_add_left (Nat.le_of_ble_eq_true rfl) _) (Nat.add_le_add_left (Nat.le_of_ble_eq_true rfl) _) (lc39_ok (A := A) (B := B) C hX (HR_le hHR (Nat.le_of_ble_eq_true rfl)) (fun μ9 h9 => h9) (lc39_pf hc hm g hi hN))
  | 40, _ =>
    refine px_tsw (v := (40 : Int32)) (off := 2828) (tgt := 2873) C dL_law_45 rfl (by decide) (by decide) (by decide) (by decide) ?_
    exact pw_less (Nat.add_le_add_left (Nat.le_of_ble_eq_true rfl) _) (Nat.add_le_add_left (Nat.le_of_ble_eq_true rfl) _) (lc40_ok (A := A) (B := B) C hX (HR_le hHR (Nat.le_of_ble_eq_true rfl)) (fun μ9 h9 => h9) (lc40_pf hc hm g hN))
  | 41, _ =>
    refine px_tsw (v := (41 : Int32)) (off := 2841) (tgt := 2886) C dL_law_45 rfl (by decide) (by decide) (by decide) (by decide) ?_
    exact pw_less (Nat.add_le_add_left (Nat.le_of_ble_eq_true rfl) _) (Nat.add_le_add_left (Nat.le_of_ble_eq_true rfl) _) (lc41_ok (A := A) (B := B) C hX (HR_le hHR (Nat.le_of_ble_eq_true rfl)) (fun μ9 h9 => h9) (lc41_pf hc hm g hi hN))
  | 42, _ =>
    refine px_tsw (v := (42 : Int32)) (off := 2897) (tgt := 2942) C dL_law_45 rfl (by decide) (by decide) (by decide) (by decide) ?_
    exact pw_less (Nat.add_le_add_left (Nat.le_of_ble_eq_true rfl) _) (Nat.add_le_add_left (Nat.le_of_ble_eq_true rfl) _) (lc42_ok (A := A) (B := B) C hX (HR_le hHR (Nat.le_of_ble_eq_true rfl)) (fun μ9 h9 => h9) (lc42_pf hc hm g hi hN))
  | 43, _ =>
    refine px_tsw (v := (43 : Int32)) (off := 2953) (tgt := 2998) C dL_law_45 rfl (by decide) (by decide) (by decide) (by decide) ?_
    exact pw_less (Nat.add_le_add_left (Nat.le_of_ble_eq_true rfl) _) (Nat.add_le_add_left (Nat.le_of_ble_eq_true rfl) _) (lc43_ok (A := A) (B := B) C hX (HR_le hHR (Nat.le_of_ble_eq_true rfl)) (fun μ9 h9 => h9) (lc43_pf hc hm g hi hN))
  | 44, _ =>
    refine px_tsw (v := (44 : Int32)) (off := 3045) (tgt := 3090) C dL_law_45 rfl (by decide) (by decide) (by decide) (by decide) ?_
    exact pw_less (Nat.add_le_add_left (Nat.le_of_ble_eq_true rfl) _) (Nat.add_le_add_left (Nat.le_of_ble_eq_true rfl) _) (lc44_ok (A := A) (B := B) C hX (HR_le hHR (Nat.le_of_ble_eq_true rfl)) (fun μ9 h9 => h9) (lc44_pf hc hm g hi hN))
  | 45, _ =>
    refine px_tsw (v := (45 : Int32)) (off := 3113) (tgt := 3158) C dL_law_45 rfl (by decide) (by decide) (by decide) (by decide) ?_
    exact pw_less (Nat.add_le_add_left (Nat.le_of_ble_eq_true rfl) _) (Nat.add_le_add_left (Nat.le_of_ble_eq_true rfl) _) (lc45_ok (A := A) (B := B) C hX (HR_le hHR (Nat.le_of_ble_eq_true rfl)) (fun μ9 h9 => h9) (lc45_pf hc hm g hi hN))
  | 46, _ =>
    refine px_tsw (v := (46 : Int32)) (off := 3171) (tgt := 3216) C dL_law_45 rfl (by decide) (by decide) (by decide) (by decide) ?_
    exact pw_less (Nat.add_le_add_left (Nat.le_of_ble_eq_true rfl) _) (Nat.add_le_add_left (Nat.le_of_ble_eq_true rfl) _) (lc46_ok (A := A) (B := B) C hX (HR_le hHR (Nat.le_of_ble_eq_true rfl)) (fun μ9 h9 => h9) (lc46_pf hc hm g hi hN))
  | 47, _ =>
    refine px_tsw (v := (47 : Int32)) (off := 3215) (tgt := 3260) C dL_law_45 rfl (by decide) (by decide) (by decide) (by decide) ?_
    exact pw_less (Nat.add_le_add_left (Nat.le_of_ble_eq_true rfl) _) (Nat.add_le_add_left (Nat.le_of_ble_eq_true rfl) _) (lc47_ok (A := A) (B := B) C hX (HR_le hHR (Nat.le_of_ble_eq_true rfl)) (fun μ9 h9 => h9) (lc47_pf hc hm g hi hN))
  | 48, _ =>
    refine px_tsw (v := (48 : Int32)) (off := 3259) (tgt := 3304) C dL_law_45 rfl (by decide) (by decide) (by decide) (by decide) ?_
    obtain ⟨y, hy⟩ := hx
    exact lc48_ok C hB hX (HR_le hHR (Nat.le_of_ble_eq_true rfl)) hy hc hm g hi hT
  | 49, _ =>
    refine px_tsw (v := (49 : Int32)) (off := 3327) (tgt := 3372) C dL_law_45 rfl (by decide) (by decide) (by decide) (by decide) ?_
    exact pw_less (Nat.add_le_add_left (Nat.le_of_ble_eq_true rfl) _) (Nat.add_le_add_left (Nat.le_of_ble_eq_true rfl) _) (lc49_ok (A := A) (B := B) C hX (HR_le hHR (Nat.le_of_ble_eq_true rfl)) (fun μ9 h9 => h9) (lc49_pf hc hm g hi hN))
  | 50, _ =>
    refine px_tsw (v := (50 : Int32)) (off := 3371) (tgt := 3416) C dL_law_45 rfl (by decide) (by decide) (by decide) (by decide) ?_
    exact pw_less (Nat.add_le_add_left (Nat.le_of_ble_eq_true rfl) _) (Nat.add_le_add_left (Nat.le_of_ble_eq_true rfl) _) (lc50_ok (A := A) (B := B) C hX (HR_le hHR (Nat.le_of_ble_eq_true rfl)) (fun μ9 h9 => h9) (lc50_pf hc hm g hN))
  | 51, _ =>
    refine px_tsw (v := (51 : Int32)) (off := 3384) (tgt := 3429) C dL_law_45 rfl (by decide) (by decide) (by decide) (by decide) ?_
    exact pw_less (Nat.add_le_add_left (Nat.le_of_ble_eq_true rfl) _) (Nat.add_le_add_left (Nat.le_of_ble_eq_true rfl) _) (lc51_ok (A := A) (B := B) C hX (HR_le hHR (Nat.le_of_ble_eq_true rfl)) (fun μ9 h9 => h9) (lc51_pf hc hm g hi hN))
  | n + 52, h => exact absurd h (by omega)
theorem law_loop {b L : Nat} {xs : Nat → Int32} (hL : L ≤ 3584) : ∀ (n : Nat) (G : GT), PCx G cL_law 9 RL → SBG G → Scr G b L xs → HR G 68 → (∃ y, SBX (GV G) (GTl G) y) → (∀ (tl' : va_W) (rc rs : Nat) (ls : List (Option PV)) (μ : Mem), PW (setTl G tl') rc rs 3480 ls [pI 1] μ) → ∀ (j : Nat) (S : GS) (μ : Mem), j ≤ L → L ≤ j + 7 * n + 6 → GOK S → CI S μ → MI S μ → PW G (20 * n) (900 * n) 28 [some (pW (.ref b)), some (pR 40 0), some (pR 50 0), some (pR 80 0), some (pR 81 0), some (pI (nI j)), none, none, none] [] μ := by
  intro n
  induction n with
  | zero =>
    intro G C hB hX hHR hx hE j S μ hj hn g hc hm
    refine px_iload (i := 5) C dL_law_28 rfl ?_
    refine px_aload_nw (i := 0) C dL_law_30 rfl rfl ?_
    refine px_slen C hX dL_law_31 ?_
    refine px_bipush (v := (7 : Int32)) C dL_law_32 rfl ?_
    refine px_isub C dL_law_34 ?_
    refine px_icmp_gt (tgt := 3479) C dL_law_35 (by decide) (fun c => ?_) (fun c => ?_)
    · refine px_iconst (v := (1 : Int32)) C dL_law_3479 rfl ?_
      have := hE (GTl G) (20 * 0) (900 * 0) [some (pW (.ref b)), some (pR 40 0), some (pR 50 0), some (pR 80 0), some (pR 81 0), some (pI (nI j)), none, none, none] μ
      rw [setTl_self] at this
      exact this
    · refine absurd ?_ c
      rw [show Int32.ofNat L = J (L : Int) from (Jn L).symm, ← Jn j, show (7 : Int32) = J 7 from rfl, J_sub, J_lt (by omega) (by omega)]
      omega
  | succ n ih =>
    intro G C hB hX hHR hx hE j S μ hj hn g hc hm
    refine px_iload (i := 5) C dL_law_28 rfl ?_
    refine px_aload_nw (i := 0) C dL_law_30 rfl rfl ?_
    refine px_slen C hX dL_law_31 ?_
    refine px_bipush (v := (7 : Int32)) C dL_law_32 rfl ?_
    refine px_isub C dL_law_34 ?_
    refine px_icmp_gt (tgt := 3479) C dL_law_35 (by decide) (fun c => ?_) (fun c => ?_)
    · refine px_iconst (v := (1 : Int32)) C dL_law_3479 rfl ?_
      have := hE (GTl G) (20 * (n + 1)) (900 * (n + 1)) [some (pW (.ref b)), some (pR 40 0), some (pR 50 0), some (pR 80 0), some (pR 81 0), some (pI (nI j)), none, none, none] μ
      rw [setTl_self] at this
      exact this
    · rw [show Int32.ofNat L = J (L : Int) from (Jn L).symm, ← Jn j, show (7 : Int32) = J 7 from rfl, J_sub, J_lt (by omega) (by omega)] at c
      have hj7 : j + 7 ≤ L := by omega
      have v0 : vp_in (nI j) L := by
        rw [← Jn j]
        exact (J_in (by omega)).mpr (by omega)
      have hi : ∀ d : Int32, 1 ≤ d → d ≤ 6 → vp_in (nI j + d) L := by
        intro d d1 d6
        obtain ⟨z, q, rfl⟩ := J_of d
        have d1' : J 1 ≤ J z := d1
        have d6' : J z ≤ J 6 := d6
        rw [J_le (by decide) q] at d1'
        rw [J_le q (by decide)] at d6'
        rw [← Jn j, J_add]
        exact (J_in (by omega)).mpr (by omega)
      have next : ∀ (tl' : va_W) (S' : GS) (μ' : Mem), PCx (setTl G tl') cL_law 9 RL → (∃ y, SBX (GV G) tl' y) → GOK S' → CI S' μ' → MI S' μ' → PW (setTl G tl') (20 * n) (900 * n) 3473 [some (pW (.ref b)), some (pR 40 0), some (pR 50 0), some (pR 80 0), some (pR 81 0), some (pI (nI j)), none, none, none] [] μ' := by
        intro tl' S' μ' C' hy g' hc' hm'
        refine px_iinc (v := (7 : Int32)) C' dL_law_3473 rfl rfl (by decide) rfl ?_
        refine px_goto (tgt := 28) C' dL_law_3476 (by decide) ?_
        have K := ih (setTl G tl') C' (setTl_SBG hB) (setTl_Scr hX) (setTl_HR hHR) (by rw [setTl_tl, setTl_V]; exact hy) (fun t2 rc rs ls μ9 => by rw [setTl_setTl]; exact hE t2 rc rs ls μ9) (j + 7) S' μ' hj7 (by omega) g' hc' hm'
        rw [show nI (j + 7) = nI j + 7 from (nI_add j 7).symm] at K
        exact K
      refine px_aload_nw (i := 0) C dL_law_38 rfl rfl ?_
      refine px_iload (i := 5) C dL_law_39 rfl ?_
      refine px_sld C hX dL_law_41 v0 ?_
      refine px_bipush (v := (63 : Int32)) C dL_law_42 rfl ?_
      refine px_iand C dL_law_44 ?_
      rw [show 20 * (n + 1) = 20 * n + 20 by omega, show 900 * (n + 1) = 900 * n + 900 by omega]
      refine law_case C hB hX hHR hx hc hm g hi (fun S' μ' g' hc' hm' => ?_) (fun tl' S' μ' hy hTl g' hc' hm' => next tl' S' μ' (PCx_tl C hTl) hy g' hc' hm')
      have K := next (GTl G) S' μ' (by rw [setTl_self]; exact C) hx g' hc' hm'
      rw [setTl_self] at K
      exact K
