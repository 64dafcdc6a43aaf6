-- the world that the constructors leave, as cells of the layout (gen/mk_wld.py)
def saW (T B : Nat → Nat → Nat) (k : Nat) : Nat → Nat := match k with
  | 0 => T 0
  | 1 => T 1
  | 2 => T 2
  | k + 3 => B k
def adW (T B : Nat → Nat → Nat) (z : Nat → Nat) (j k : Nat) : Nat := match j with
  | 0 => saW T B k 0
  | 1 => saW T B k 1
  | 2 => saW T B k 2
  | 3 => saW T B k 3
  | 4 => saW T B k 4
  | 5 => saW T B k 5
  | 6 => saW T B k 6
  | 7 => saW T B k 7
  | 8 => saW T B k 8
  | 9 => saW T B k 9
  | 10 => T 3 0
  | 11 => T 3 1
  | 12 => T 6 0
  | 13 => T 6 1
  | 14 => T 6 2
  | 15 => T 6 3
  | 16 => T 6 4
  | 17 => T 6 4 + 1 + k
  | 18 => T 7 0
  | 19 => T 7 1
  | 20 => T 7 2
  | 21 => T 7 3
  | 22 => T 7 4
  | 23 => T 7 5
  | 24 => T 7 6
  | 25 => T 7 7
  | 26 => T 7 8
  | 27 => T 8 0
  | 28 => T 8 1
  | 29 => T 8 2
  | 30 => T 8 3
  | 31 => T 8 4
  | 32 => T 8 5
  | 33 => T 8 6
  | 34 => T 9 0
  | 35 => T 4 0
  | 36 => (match k with | 0 => T 4 1 | _ => T 4 2)
  | 37 => (match k with | 0 => T 4 1 + 1 + 0 | 1 => T 4 1 + 1 + 1 | 2 => T 4 2 + 1 + 0 | _ => T 4 2 + 1 + 1)
  | 38 => T 5 0
  | 39 => T 5 1
  | 40 => z 0
  | 41 => z 2
  | 42 => z 1
  | 50 => T 10 0
  | 51 => T 10 1
  | 52 => T 10 2
  | 53 => T 10 3
  | 54 => T 10 4
  | 55 => T 10 5
  | 56 => T 10 6
  | 57 => T 10 7
  | 58 => T 10 8
  | 59 => T 10 9
  | 60 => T 10 10
  | 61 => T 10 11
  | 62 => T 10 12
  | 63 => T 10 13
  | 64 => T 10 14
  | 65 => T 10 15
  | 66 => T 10 16
  | 67 => T 10 17
  | 68 => T 10 18
  | 69 => T 10 19
  | 70 => T 10 20
  | 71 => T 10 21
  | 72 => T 10 22
  | 80 => z 3
  | _ => z 4
def rawW (V : VT) (T B : Nat → Nat → Nat) (z : Nat → Nat) : va_W := (z 4, .inl (V.2.2 7, (1, .inr (.inr (.inr (.inl (fun _ => 0))))))) :: (z 3, .inl (V.2.2 6, (1, .inr (.inl (fun _ => 0))))) :: (modW V (T 10) ++ taW V (z 0) (T 1) (T 2) (T 3) B (T 4) (T 5) (z 1) (T 0) (T 6) (T 7) (T 8) (T 9) (z 2))
def mu0 : Mem := fun j k _ => if j = 2574 ∨ j = 3211 ∨ j = 3520 ∨ (j = 2368 ∧ k < 2) then -1 else 0
def idxA : List (Nat × Nat) := idxC ++ (idxM ++ idxL)
def idxR : List (Nat × Nat) := [(81, 0), (80, 0), (50, 0), (72, 0), (71, 0), (70, 0), (69, 0), (68, 0), (67, 0), (66, 0), (65, 0), (64, 0), (63, 0), (62, 0), (61, 0), (60, 0), (59, 0), (58, 0), (57, 0), (56, 0), (55, 0), (54, 0), (53, 0), (52, 0), (51, 0), (40, 0), (34, 0), (27, 0), (33, 0), (32, 0), (31, 0), (30, 0), (29, 0), (28, 0), (18, 0), (26, 0), (25, 0), (24, 0), (23, 0), (22, 0), (21, 0), (20, 0), (19, 0), (12, 0), (16, 0), (17, 0), (17, 1), (17, 2), (17, 3), (17, 4), (17, 5), (17, 6), (17, 7), (15, 0), (14, 0), (13, 0), (0, 0), (9, 0), (8, 0), (7, 0), (6, 0), (5, 0), (4, 0), (3, 0), (2, 0), (1, 0), (41, 0), (42, 0), (38, 0), (39, 0), (35, 0), (37, 1), (37, 0), (36, 1), (37, 2), (37, 3), (36, 0), (10, 0), (11, 0), (0, 10), (9, 10), (8, 10), (7, 10), (6, 10), (5, 10), (4, 10), (3, 10), (2, 10), (1, 10), (0, 9), (9, 9), (8, 9), (7, 9), (6, 9), (5, 9), (4, 9), (3, 9), (2, 9), (1, 9), (0, 8), (9, 8), (8, 8), (7, 8), (6, 8), (5, 8), (4, 8), (3, 8), (2, 8), (1, 8), (0, 7), (9, 7), (8, 7), (7, 7), (6, 7), (5, 7), (4, 7), (3, 7), (2, 7), (1, 7), (0, 6), (9, 6), (8, 6), (7, 6), (6, 6), (5, 6), (4, 6), (3, 6), (2, 6), (1, 6), (0, 5), (9, 5), (8, 5), (7, 5), (6, 5), (5, 5), (4, 5), (3, 5), (2, 5), (1, 5), (0, 4), (9, 4), (8, 4), (7, 4), (6, 4), (5, 4), (4, 4), (3, 4), (2, 4), (1, 4), (0, 3), (9, 3), (8, 3), (7, 3), (6, 3), (5, 3), (4, 3), (3, 3), (2, 3), (1, 3), (0, 2), (9, 2), (8, 2), (7, 2), (6, 2), (5, 2), (4, 2), (3, 2), (2, 2), (1, 2), (0, 1), (9, 1), (8, 1), (7, 1), (6, 1), (5, 1), (4, 1), (3, 1), (2, 1), (1, 1)]
theorem idxR_perm : idxR.Perm (idxA ++ [(41, 0), (42, 0)]) := by decide +kernel
def chkI (q : Nat × Nat) : Bool := match sp q.1 q.2 with
  | .inl (_, fs) => fs.all fun o => match o with
    | none => true
    | some r => idxA.contains r || r.1 == 41
  | .inr (_, n, some g) => (List.range n).all fun i => idxA.contains (g i)
  | .inr (_, _, none) => true
theorem idxA_chk : ∀ q ∈ idxA, chkI q = true := by decide +kernel
theorem idxA_ok : IdxOK idxA := by
  refine ⟨by decide +kernel, fun q hq => ⟨fun ci f fs r hs hf => ?_, fun a n g hs i hi => ?_⟩⟩
  · have h := idxA_chk q hq
    unfold chkI at h
    rw [hs] at h
    have h2 := List.all_eq_true.mp h _ (List.mem_of_getElem? hf)
    rcases Bool.or_eq_true_iff.mp h2 with h3 | h3
    · exact Or.inl (List.contains_iff_mem.mp h3)
    · exact Or.inr (eq_of_beq h3)
  · have h := idxA_chk q hq
    unfold chkI at h
    rw [hs] at h
    exact List.contains_iff_mem.mp (List.all_eq_true.mp h _ (List.mem_range.mpr hi))
theorem wl_fst {V : VT} {idx : List (Nat × Nat)} {μ : Mem} : (wl V idx μ).map Prod.fst = idx.map (fun q => V.1 q.1 q.2) := by
  unfold wl
  rw [List.map_map]
  rfl
section WLD
variable {V : VT} {T B : Nat → Nat → Nat} {z : Nat → Nat} {H : Heap}
set_option maxRecDepth 100000 in
theorem raw_fst : (rawW V T B z).map Prod.fst = idxR.map (fun q => adW T B z q.1 q.2) := rfl
theorem raw_perm (μ : Mem) : ((rawW V T B z).map Prod.fst).Perm ((wl (adW T B z, V.2) idxA μ ++ sbW V (z 2) (z 1) 16 (fun _ => 0) 0 0).map Prod.fst) := by
  rw [raw_fst, List.map_append, wl_fst]
  have h := idxR_perm.map (fun q : Nat × Nat => adW T B z q.1 q.2)
  rw [List.map_append] at h
  exact h
theorem va_P_app {D : va_G} {cl : List vw_C} {w1 w2 : va_W} : va_P D cl (w1 ++ w2) H ↔ va_P D cl w1 H ∧ va_P D cl w2 H := by
  rw [va_P_iff, va_P_iff, va_P_iff]
  exact List.forall_mem_append
theorem va_P_cons {D : va_G} {cl : List vw_C} {x : Nat × va_E} {w : va_W} : va_P D cl (x :: w) H ↔ va_at D cl x H ∧ va_P D cl w H := by
  rw [va_P_iff, va_P_iff]
  exact List.forall_mem_cons
theorem at_sto (k : Nat) (hP : va_P V.2.1 vwCl (stoW V (saW T B k)) H) : ∀ j, j < 10 → va_at V.2.1 vwCl (adW T B z j k, cc1 (adW T B z, V.2) mu0 j k) H := by
  intro j hj
  match j, hj with
  | 0, _ => exact hP 0 _ rfl
  | 1, _ => exact hP 9 _ rfl
  | 2, _ => exact hP 8 _ rfl
  | 3, _ => exact hP 7 _ rfl
  | 4, _ => exact hP 6 _ rfl
  | 5, _ => exact hP 5 _ rfl
  | 6, _ => exact hP 4 _ rfl
  | 7, _ => exact hP 3 _ rfl
  | 8, _ => exact hP 2 _ rfl
  | 9, _ => exact hP 1 _ rfl
  | j + 10, h => exact absurd h (by omega)
theorem at_fig (hP : va_P V.2.1 vwCl (figW V (T 0 0) (T 7 0) (T 8 0) (T 9)) H) : ∀ j, 34 ≤ j → j < 35 → va_at V.2.1 vwCl (adW T B z j 0, cc1 (adW T B z, V.2) mu0 j 0) H := by
  intro j h1 h2
  match j, h1, h2 with
  | 0, h, _ => exact absurd h (by decide)
  | 1, h, _ => exact absurd h (by decide)
  | 2, h, _ => exact absurd h (by decide)
  | 3, h, _ => exact absurd h (by decide)
  | 4, h, _ => exact absurd h (by decide)
  | 5, h, _ => exact absurd h (by decide)
  | 6, h, _ => exact absurd h (by decide)
  | 7, h, _ => exact absurd h (by decide)
  | 8, h, _ => exact absurd h (by decide)
  | 9, h, _ => exact absurd h (by decide)
  | 10, h, _ => exact absurd h (by decide)
  | 11, h, _ => exact absurd h (by decide)
  | 12, h, _ => exact absurd h (by decide)
  | 13, h, _ => exact absurd h (by decide)
  | 14, h, _ => exact absurd h (by decide)
  | 15, h, _ => exact absurd h (by decide)
  | 16, h, _ => exact absurd h (by decide)
  | 17, h, _ => exact absurd h (by decide)
  | 18, h, _ => exact absurd h (by decide)
  | 19, h, _ => exact absurd h (by decide)
  | 20, h, _ => exact absurd h (by decide)
  | 21, h, _ => exact absurd h (by decide)
  | 22, h, _ => exact absurd h (by decide)
  | 23, h, _ => exact absurd h (by decide)
  | 24, h, _ => exact absurd h (by decide)
  | 25, h, _ => exact absurd h (by decide)
  | 26, h, _ => exact absurd h (by decide)
  | 27, h, _ => exact absurd h (by decide)
  | 28, h, _ => exact absurd h (by decide)
  | 29, h, _ => exact absurd h (by decide)
  | 30, h, _ => exact absurd h (by decide)
  | 31, h, _ => exact absurd h (by decide)
  | 32, h, _ => exact absurd h (by decide)
  | 33, h, _ => exact absurd h (by decide)
  | 34, _, _ => exact hP 0 _ rfl
  | j + 35, _, h => exact absurd h (by omega)
theorem at_pat (hP : va_P V.2.1 vwCl (patW V (T 0 0) (T 7 0) (T 8)) H) : ∀ j, 27 ≤ j → j < 34 → va_at V.2.1 vwCl (adW T B z j 0, cc1 (adW T B z, V.2) mu0 j 0) H := by
  intro j h1 h2
  match j, h1, h2 with
  | 0, h, _ => exact absurd h (by decide)
  | 1, h, _ => exact absurd h (by decide)
  | 2, h, _ => exact absurd h (by decide)
  | 3, h, _ => exact absurd h (by decide)
  | 4, h, _ => exact absurd h (by decide)
  | 5, h, _ => exact absurd h (by decide)
  | 6, h, _ => exact absurd h (by decide)
  | 7, h, _ => exact absurd h (by decide)
  | 8, h, _ => exact absurd h (by decide)
  | 9, h, _ => exact absurd h (by decide)
  | 10, h, _ => exact absurd h (by decide)
  | 11, h, _ => exact absurd h (by decide)
  | 12, h, _ => exact absurd h (by decide)
  | 13, h, _ => exact absurd h (by decide)
  | 14, h, _ => exact absurd h (by decide)
  | 15, h, _ => exact absurd h (by decide)
  | 16, h, _ => exact absurd h (by decide)
  | 17, h, _ => exact absurd h (by decide)
  | 18, h, _ => exact absurd h (by decide)
  | 19, h, _ => exact absurd h (by decide)
  | 20, h, _ => exact absurd h (by decide)
  | 21, h, _ => exact absurd h (by decide)
  | 22, h, _ => exact absurd h (by decide)
  | 23, h, _ => exact absurd h (by decide)
  | 24, h, _ => exact absurd h (by decide)
  | 25, h, _ => exact absurd h (by decide)
  | 26, h, _ => exact absurd h (by decide)
  | 27, _, _ => exact hP 0 _ rfl
  | 28, _, _ => exact hP 6 _ rfl
  | 29, _, _ => exact hP 5 _ rfl
  | 30, _, _ => exact hP 4 _ rfl
  | 31, _, _ => exact hP 3 _ rfl
  | 32, _, _ => exact hP 2 _ rfl
  | 33, _, _ => exact hP 1 _ rfl
  | j + 34, _, h => exact absurd h (by omega)
theorem at_for (hP : va_P V.2.1 vwCl (forW V (T 0 0) (T 6 0) (T 7)) H) : ∀ j, 18 ≤ j → j < 27 → va_at V.2.1 vwCl (adW T B z j 0, cc1 (adW T B z, V.2) mu0 j 0) H := by
  intro j h1 h2
  match j, h1, h2 with
  | 0, h, _ => exact absurd h (by decide)
  | 1, h, _ => exact absurd h (by decide)
  | 2, h, _ => exact absurd h (by decide)
  | 3, h, _ => exact absurd h (by decide)
  | 4, h, _ => exact absurd h (by decide)
  | 5, h, _ => exact absurd h (by decide)
  | 6, h, _ => exact absurd h (by decide)
  | 7, h, _ => exact absurd h (by decide)
  | 8, h, _ => exact absurd h (by decide)
  | 9, h, _ => exact absurd h (by decide)
  | 10, h, _ => exact absurd h (by decide)
  | 11, h, _ => exact absurd h (by decide)
  | 12, h, _ => exact absurd h (by decide)
  | 13, h, _ => exact absurd h (by decide)
  | 14, h, _ => exact absurd h (by decide)
  | 15, h, _ => exact absurd h (by decide)
  | 16, h, _ => exact absurd h (by decide)
  | 17, h, _ => exact absurd h (by decide)
  | 18, _, _ => exact hP 0 _ rfl
  | 19, _, _ => exact hP 8 _ rfl
  | 20, _, _ => exact hP 7 _ rfl
  | 21, _, _ => exact hP 6 _ rfl
  | 22, _, _ => exact hP 5 _ rfl
  | 23, _, _ => exact hP 4 _ rfl
  | 24, _, _ => exact hP 3 _ rfl
  | 25, _, _ => exact hP 2 _ rfl
  | 26, _, _ => exact hP 1 _ rfl
  | j + 27, _, h => exact absurd h (by omega)
theorem at_clo (hP : va_P V.2.1 vwCl (cloW V (T 0 0) (T 6)) H) : ∀ j, 12 ≤ j → j < 17 → va_at V.2.1 vwCl (adW T B z j 0, cc1 (adW T B z, V.2) mu0 j 0) H := by
  intro j h1 h2
  match j, h1, h2 with
  | 0, h, _ => exact absurd h (by decide)
  | 1, h, _ => exact absurd h (by decide)
  | 2, h, _ => exact absurd h (by decide)
  | 3, h, _ => exact absurd h (by decide)
  | 4, h, _ => exact absurd h (by decide)
  | 5, h, _ => exact absurd h (by decide)
  | 6, h, _ => exact absurd h (by decide)
  | 7, h, _ => exact absurd h (by decide)
  | 8, h, _ => exact absurd h (by decide)
  | 9, h, _ => exact absurd h (by decide)
  | 10, h, _ => exact absurd h (by decide)
  | 11, h, _ => exact absurd h (by decide)
  | 12, _, _ => exact hP 0 _ rfl
  | 13, _, _ => exact hP 12 _ rfl
  | 14, _, _ => exact hP 11 _ rfl
  | 15, _, _ => exact hP 10 _ rfl
  | 16, _, _ => exact hP 1 _ rfl
  | j + 17, _, h => exact absurd h (by omega)
theorem at_row (hP : va_P V.2.1 vwCl (cloW V (T 0 0) (T 6)) H) : ∀ k, k < 8 → va_at V.2.1 vwCl (adW T B z 17 k, cc1 (adW T B z, V.2) mu0 17 k) H := by
  intro k hk
  match k, hk with
  | 0, _ => exact hP 2 _ rfl
  | 1, _ => exact hP 3 _ rfl
  | 2, _ => exact hP 4 _ rfl
  | 3, _ => exact hP 5 _ rfl
  | 4, _ => exact hP 6 _ rfl
  | 5, _ => exact hP 7 _ rfl
  | 6, _ => exact hP 8 _ rfl
  | 7, _ => exact hP 9 _ rfl
  | k + 8, h => exact absurd h (by omega)
theorem at_inp (hP : va_P V.2.1 vwCl (inpW V (T 5)) H) : ∀ j, 38 ≤ j → j < 40 → va_at V.2.1 vwCl (adW T B z j 0, cc1 (adW T B z, V.2) mu0 j 0) H := by
  intro j h1 h2
  match j, h1, h2 with
  | 0, h, _ => exact absurd h (by decide)
  | 1, h, _ => exact absurd h (by decide)
  | 2, h, _ => exact absurd h (by decide)
  | 3, h, _ => exact absurd h (by decide)
  | 4, h, _ => exact absurd h (by decide)
  | 5, h, _ => exact absurd h (by decide)
  | 6, h, _ => exact absurd h (by decide)
  | 7, h, _ => exact absurd h (by decide)
  | 8, h, _ => exact absurd h (by decide)
  | 9, h, _ => exact absurd h (by decide)
  | 10, h, _ => exact absurd h (by decide)
  | 11, h, _ => exact absurd h (by decide)
  | 12, h, _ => exact absurd h (by decide)
  | 13, h, _ => exact absurd h (by decide)
  | 14, h, _ => exact absurd h (by decide)
  | 15, h, _ => exact absurd h (by decide)
  | 16, h, _ => exact absurd h (by decide)
  | 17, h, _ => exact absurd h (by decide)
  | 18, h, _ => exact absurd h (by decide)
  | 19, h, _ => exact absurd h (by decide)
  | 20, h, _ => exact absurd h (by decide)
  | 21, h, _ => exact absurd h (by decide)
  | 22, h, _ => exact absurd h (by decide)
  | 23, h, _ => exact absurd h (by decide)
  | 24, h, _ => exact absurd h (by decide)
  | 25, h, _ => exact absurd h (by decide)
  | 26, h, _ => exact absurd h (by decide)
  | 27, h, _ => exact absurd h (by decide)
  | 28, h, _ => exact absurd h (by decide)
  | 29, h, _ => exact absurd h (by decide)
  | 30, h, _ => exact absurd h (by decide)
  | 31, h, _ => exact absurd h (by decide)
  | 32, h, _ => exact absurd h (by decide)
  | 33, h, _ => exact absurd h (by decide)
  | 34, h, _ => exact absurd h (by decide)
  | 35, h, _ => exact absurd h (by decide)
  | 36, h, _ => exact absurd h (by decide)
  | 37, h, _ => exact absurd h (by decide)
  | 38, _, _ => exact hP 0 _ rfl
  | 39, _, _ => exact hP 1 _ rfl
  | j + 40, _, h => exact absurd h (by omega)
theorem at_mod (hP : va_P V.2.1 vwCl (modW V (T 10)) H) : ∀ j, 50 ≤ j → j < 73 → va_at V.2.1 vwCl (adW T B z j 0, cc1 (adW T B z, V.2) mu0 j 0) H := by
  intro j h1 h2
  match j, h1, h2 with
  | 0, h, _ => exact absurd h (by decide)
  | 1, h, _ => exact absurd h (by decide)
  | 2, h, _ => exact absurd h (by decide)
  | 3, h, _ => exact absurd h (by decide)
  | 4, h, _ => exact absurd h (by decide)
  | 5, h, _ => exact absurd h (by decide)
  | 6, h, _ => exact absurd h (by decide)
  | 7, h, _ => exact absurd h (by decide)
  | 8, h, _ => exact absurd h (by decide)
  | 9, h, _ => exact absurd h (by decide)
  | 10, h, _ => exact absurd h (by decide)
  | 11, h, _ => exact absurd h (by decide)
  | 12, h, _ => exact absurd h (by decide)
  | 13, h, _ => exact absurd h (by decide)
  | 14, h, _ => exact absurd h (by decide)
  | 15, h, _ => exact absurd h (by decide)
  | 16, h, _ => exact absurd h (by decide)
  | 17, h, _ => exact absurd h (by decide)
  | 18, h, _ => exact absurd h (by decide)
  | 19, h, _ => exact absurd h (by decide)
  | 20, h, _ => exact absurd h (by decide)
  | 21, h, _ => exact absurd h (by decide)
  | 22, h, _ => exact absurd h (by decide)
  | 23, h, _ => exact absurd h (by decide)
  | 24, h, _ => exact absurd h (by decide)
  | 25, h, _ => exact absurd h (by decide)
  | 26, h, _ => exact absurd h (by decide)
  | 27, h, _ => exact absurd h (by decide)
  | 28, h, _ => exact absurd h (by decide)
  | 29, h, _ => exact absurd h (by decide)
  | 30, h, _ => exact absurd h (by decide)
  | 31, h, _ => exact absurd h (by decide)
  | 32, h, _ => exact absurd h (by decide)
  | 33, h, _ => exact absurd h (by decide)
  | 34, h, _ => exact absurd h (by decide)
  | 35, h, _ => exact absurd h (by decide)
  | 36, h, _ => exact absurd h (by decide)
  | 37, h, _ => exact absurd h (by decide)
  | 38, h, _ => exact absurd h (by decide)
  | 39, h, _ => exact absurd h (by decide)
  | 40, h, _ => exact absurd h (by decide)
  | 41, h, _ => exact absurd h (by decide)
  | 42, h, _ => exact absurd h (by decide)
  | 43, h, _ => exact absurd h (by decide)
  | 44, h, _ => exact absurd h (by decide)
  | 45, h, _ => exact absurd h (by decide)
  | 46, h, _ => exact absurd h (by decide)
  | 47, h, _ => exact absurd h (by decide)
  | 48, h, _ => exact absurd h (by decide)
  | 49, h, _ => exact absurd h (by decide)
  | 50, _, _ => exact hP 0 _ rfl
  | 51, _, _ => exact hP 22 _ rfl
  | 52, _, _ => exact hP 21 _ rfl
  | 53, _, _ => exact hP 20 _ rfl
  | 54, _, _ => exact hP 19 _ rfl
  | 55, _, _ => exact hP 18 _ rfl
  | 56, _, _ => exact hP 17 _ rfl
  | 57, _, _ => exact hP 16 _ rfl
  | 58, _, _ => exact hP 15 _ rfl
  | 59, _, _ => exact hP 14 _ rfl
  | 60, _, _ => exact hP 13 _ rfl
  | 61, _, _ => exact hP 12 _ rfl
  | 62, _, _ => exact hP 11 _ rfl
  | 63, _, _ => exact hP 10 _ rfl
  | 64, _, _ => exact hP 9 _ rfl
  | 65, _, _ => exact hP 8 _ rfl
  | 66, _, _ => exact hP 7 _ rfl
  | 67, _, _ => exact hP 6 _ rfl
  | 68, _, _ => exact hP 5 _ rfl
  | 69, _, _ => exact hP 4 _ rfl
  | 70, _, _ => exact hP 3 _ rfl
  | 71, _, _ => exact hP 2 _ rfl
  | 72, _, _ => exact hP 1 _ rfl
  | j + 73, _, h => exact absurd h (by omega)
theorem at_arr {q n : Nat} {cA : ClassId} {f g : Nat → Option Nat} (h : va_at V.2.1 vwCl (q, .inl (cA, n, .inr (.inr (.inr (.inr f))))) H) (e : ∀ i, i < n → f i = g i) : va_at V.2.1 vwCl (q, .inl (cA, n, .inr (.inr (.inr (.inr g))))) H := by
  show H[q]? = some (vp_cell cA _)
  rw [← vp_eqq e]
  exact h
theorem at_she (hP : va_P V.2.1 vwCl (sheW V (T 4)) H) : (va_at V.2.1 vwCl (adW T B z 35 0, cc1 (adW T B z, V.2) mu0 35 0) H) ∧ (∀ k, k < 2 → va_at V.2.1 vwCl (adW T B z 36 k, cc1 (adW T B z, V.2) mu0 36 k) H) ∧ ∀ k, k < 4 → va_at V.2.1 vwCl (adW T B z 37 k, cc1 (adW T B z, V.2) mu0 37 k) H := by
  refine ⟨hP 0 _ rfl, fun k hk => ?_, fun k hk => ?_⟩
  · match k, hk with
    | 0, _ => exact at_arr (hP 6 _ rfl) (fun i (hi : i < 2) => by match i, hi with | 0, _ => rfl | 1, _ => rfl | i + 2, h => exact absurd h (by omega))
    | 1, _ => exact at_arr (hP 3 _ rfl) (fun i (hi : i < 2) => by match i, hi with | 0, _ => rfl | 1, _ => rfl | i + 2, h => exact absurd h (by omega))
    | k + 2, h => exact absurd h (by omega)
  · match k, hk with
    | 0, _ => exact hP 2 _ rfl
    | 1, _ => exact hP 1 _ rfl
    | 2, _ => exact hP 4 _ rfl
    | 3, _ => exact hP 5 _ rfl
    | k + 4, h => exact absurd h (by omega)
theorem at_his (hP : va_P V.2.1 vwCl (hisW V (T 3) B) H) : (va_at V.2.1 vwCl (adW T B z 10 0, cc1 (adW T B z, V.2) mu0 10 0) H) ∧ (va_at V.2.1 vwCl (adW T B z 11 0, cc1 (adW T B z, V.2) mu0 11 0) H) ∧ ∀ k, k < 8 → va_P V.2.1 vwCl (stoW V (B k)) H := by
  unfold hisW at hP
  obtain ⟨h1, h2, h3⟩ : _ ∧ _ ∧ _ := ⟨(va_P_cons.mp hP).1, (va_P_cons.mp (va_P_cons.mp hP).2).1, (va_P_cons.mp (va_P_cons.mp hP).2).2⟩
  refine ⟨h1, at_arr h2 (fun i (hi : i < 8) => by match i, hi with | 0, _ => rfl | 1, _ => rfl | 2, _ => rfl | 3, _ => rfl | 4, _ => rfl | 5, _ => rfl | 6, _ => rfl | 7, _ => rfl | i + 8, h => exact absurd h (by omega)), ?_⟩
  simp only [va_P_app] at h3
  obtain ⟨s7, s6, s5, s4, s3, s2, s1, s0, -⟩ := h3
  intro k hk
  match k, hk with
  | 0, _ => exact s0
  | 1, _ => exact s1
  | 2, _ => exact s2
  | 3, _ => exact s3
  | 4, _ => exact s4
  | 5, _ => exact s5
  | 6, _ => exact s6
  | 7, _ => exact s7
  | k + 8, h => exact absurd h (by omega)
theorem idxA_shape : ∀ q ∈ idxA, (q.1 < 10 ∧ q.2 < 11) ∨ (q.1 = 17 ∧ q.2 < 8) ∨ (q.1 = 36 ∧ q.2 < 2) ∨ (q.1 = 37 ∧ q.2 < 4) ∨ (q.2 = 0 ∧ (q.1 = 10 ∨ q.1 = 11 ∨ (12 ≤ q.1 ∧ q.1 < 17) ∨ (18 ≤ q.1 ∧ q.1 < 27) ∨ (27 ≤ q.1 ∧ q.1 < 34) ∨ (34 ≤ q.1 ∧ q.1 < 35) ∨ q.1 = 35 ∨ (38 ≤ q.1 ∧ q.1 < 40) ∨ q.1 = 40 ∨ (50 ≤ q.1 ∧ q.1 < 73) ∨ q.1 = 80 ∨ q.1 = 81)) := by decide +kernel
theorem raw_wl (hP : va_P V.2.1 vwCl (rawW V T B z) H) : va_P V.2.1 vwCl (wl (adW T B z, V.2) idxA mu0 ++ sbW V (z 2) (z 1) 16 (fun _ => 0) 0 0) H := by
  unfold rawW at hP
  obtain ⟨h81, hP⟩ := va_P_cons.mp hP
  obtain ⟨h80, hP⟩ := va_P_cons.mp hP
  obtain ⟨hmod, hP⟩ := va_P_app.mp hP
  unfold taW at hP
  obtain ⟨h40, hP⟩ := va_P_cons.mp hP
  simp only [va_P_app] at hP
  obtain ⟨hfig, hpat, hfor, hclo, hs0, hsb, hinp, hshe, hhis, hs2, hs1, -⟩ := hP
  obtain ⟨he1, he2, he3⟩ := at_she (B := B) (z := z) hshe
  obtain ⟨hh1, hh2, hh3⟩ := at_his (z := z) hhis
  have hst : ∀ k, k < 11 → va_P V.2.1 vwCl (stoW V (saW T B k)) H := by
    intro k hk
    match k, hk with
    | 0, _ => exact hs0
    | 1, _ => exact hs1
    | 2, _ => exact hs2
    | k + 3, h => exact hh3 k (by omega)
  refine va_P_app.mpr ⟨va_P_iff.mpr fun q hq => ?_, hsb⟩
  obtain ⟨⟨j, k⟩, hjk, rfl⟩ := List.mem_map.mp hq
  show va_at V.2.1 vwCl (adW T B z j k, cc1 (adW T B z, V.2) mu0 j k) H
  rcases idxA_shape _ hjk with ⟨h1, h2⟩ | ⟨h1, h2⟩ | ⟨h1, h2⟩ | ⟨h1, h2⟩ | ⟨h2, h1⟩
  · exact at_sto k (hst k h2) j h1
  · obtain rfl : j = 17 := h1
    exact at_row hclo k h2
  · obtain rfl : j = 36 := h1
    exact he2 k h2
  · obtain rfl : j = 37 := h1
    exact he3 k h2
  · obtain rfl : k = 0 := h2
    rcases h1 with h1 | h1 | ⟨h1, h3⟩ | ⟨h1, h3⟩ | ⟨h1, h3⟩ | ⟨h1, h3⟩ | h1 | ⟨h1, h3⟩ | h1 | ⟨h1, h3⟩ | h1 | h1
    · obtain rfl : j = 10 := h1
      exact hh1
    · obtain rfl : j = 11 := h1
      exact hh2
    · exact at_clo hclo j h1 h3
    · exact at_for hfor j h1 h3
    · exact at_pat hpat j h1 h3
    · exact at_fig hfig j h1 h3
    · obtain rfl : j = 35 := h1
      exact he1
    · exact at_inp hinp j h1 h3
    · obtain rfl : j = 40 := h1
      exact h40
    · exact at_mod hmod j h1 h3
    · obtain rfl : j = 80 := h1
      exact h80
    · obtain rfl : j = 81 := h1
      have e : (fun i : Nat => dbl (mu0 5184 0 (2 * i)) (mu0 5184 0 (2 * i + 1))) = fun _ => 0 := by
        funext i
        show dbl 0 0 = 0
        decide
      show va_at V.2.1 vwCl (z 4, .inl (V.2.2 7, 1, .inr (.inr (.inr (.inl (fun i : Nat => dbl (mu0 5184 0 (2 * i)) (mu0 5184 0 (2 * i + 1)))))))) H
      rw [e]
      exact h81
end WLD
