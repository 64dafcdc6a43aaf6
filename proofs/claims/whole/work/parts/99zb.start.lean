-- from the law's entry to its end
theorem c_mu0 : CI S0 mu0 := by
  refine c_fresh (by decide +kernel) (by decide +kernel) (by decide +kernel) (by decide +kernel) (by decide +kernel) (fun k p hk _ => ?_) (by decide +kernel) (by decide +kernel) (by decide +kernel)
  show (if (2368 : Nat) = 2574 ∨ (2368 : Nat) = 3211 ∨ (2368 : Nat) = 3520 ∨ ((2368 : Nat) = 2368 ∧ k < 2) then (-1 : Int32) else 0) = J (-1)
  rw [if_pos (by omega)]
  rfl
theorem m_mu0 : MI S0 mu0 := by
  refine m_fresh (by decide +kernel) (by decide +kernel) (by decide +kernel) (by decide +kernel) (fun k p hk _ => ?_) (by decide +kernel) (by decide +kernel) (by decide +kernel)
  show (if (3520 : Nat) = 2574 ∨ (3520 : Nat) = 3211 ∨ (3520 : Nat) = 3520 ∨ ((3520 : Nat) = 2368 ∧ 0 < 2) then (-1 : Int32) else 0) = J (-1)
  rw [if_pos (by omega)]
  rfl
theorem law_start {p : Program} {l : Launch} {e : Env} {s : State} {m : MethodId} {below : List Frame} {meth : Method} {c : Code} {Q : State → Prop} {b L : Nat} {xs : Nat → Int32} (hL : L ≤ 3584) (hx : p.tables.exec = Jvm.exec) (hb : c.code = cL_law) (hml : c.maxLocals = 9) (hown : s.vm.findClass RL = some m.cls) (ht : ∀ w ∈ lw_tbl, w.before #[.ref b] s = true) (hs : ∀ w ∈ flatC (Jvm.Cond.and given_1 narrow_1), w.before #[.ref b] s = true) (htr : l.stackTraces = false) (hX : va_X b L xs s s.heap) (hbl : b < s.heap.size) (hlk : meth.locks = false)
    (hend : ∀ (H : Heap) (locs : List Loc) (cells slots : Nat) (lsM : Array Slot), va_S (fun q => s.heap.size ≤ q) s.heap H locs → cells ≤ 603072 → slots ≤ 7198826 → W p l e room_1 s m #[.ref b] below meth c H locs cells slots Q (F0 m 3480 lsM [.int 1])) : W p l e room_1 s m #[.ref b] below meth c s.heap [] 0 0 Q (entryFrame m ([Value.ref b] : List Value).toArray 9) := by
  obtain ⟨V, hE⟩ := law_C ht hs
  have C : CC (p, l, e, room_1, s, m, #[.ref b], below, meth, c, Q, fun q => s.heap.size ≤ q, V) cL_law 9 RL := ⟨hx, hb, hml, hown, fun w hw => ht w (gW_good _ hw).1, hE, fun q h => h, hlk⟩
  have K := law_objs (b := b) (rc := 20 * 512) (rs := 900 * 512) C ⟨Nat.le_of_ble_eq_true rfl, Nat.le_of_ble_eq_true rfl⟩ (fun T B z => law_to ht hs htr C (fun V9 tl hV hT PC => by
    have hE9 : CEnv V9 (fun q => s.heap.size ≤ q) s := by
      obtain ⟨ad, v9⟩ := V9
      have hV : v9 = V.2 := hV
      subst hV
      exact hE
    obtain ⟨q, m9, f, ml, n, t, rest, h1, h2, h3, h4, h5, h6⟩ := hT
    exact law_loop hL 512 _ PC hE9 ⟨hX, hbl, Nat.not_le.mpr hbl⟩ ⟨Nat.le_of_ble_eq_true rfl, Nat.le_of_ble_eq_true rfl⟩ ⟨(n, t), q, m9, f, ml, rest, h1, h2, h3, h4, h5, h6⟩ (fun tl' rc rs ls μ => by
      intro H locs cells slots lsM hP hS hl hL9 hV9 g1 g2
      exact hend H locs cells slots lsM hS (Nat.le_trans (Nat.le_add_right _ _) g1) (Nat.le_trans (Nat.le_add_right _ _) g2)) 0 S0 mu0 (Nat.zero_le _) (by omega) g_fresh c_mu0 m_mu0))
  have hl9 := lv_entry ([pW (.ref b)].map (cv V.1)) (n := 9) (Nat.le_of_ble_eq_true rfl)
  have K2 := K s.heap [] 0 0 _ (va_P_iff.mpr fun q hq => by cases hq) (va_D_iff.mpr ⟨List.nodup_nil, fun q hq => by cases hq⟩) va_S.rf ⟨by rw [hml]; exact hl9.1, hl9.2.1, fun q hq => hl9.2.2 q (asc_args (as := [pW (.ref b)]) (n := 8) (i := 0) rfl q hq)⟩ (Nat.le_of_ble_eq_true rfl) (Nat.le_of_ble_eq_true rfl)
  rw [lg_entry_eq]
  exact K2
