/-! Rows cleared and copied; a country begun anew; places and crows. -/
theorem ud_e {f : Nat → Int32} {k j : Nat} {x : Int32} (h : j = k) : upd f k x j = x := if_pos h
theorem va_idh {α : Type} {f : Nat → α} {k : Nat} {a : α} (h : f k = a) : va_up f k a = f := by rw [← h]; exact va_id f k
theorem p8_clearRow (w : Nat → Int32) {s : Nat} (hs : s + 479 ≤ 1960) : p_X8_clearRow w (nI s) = some (fun j => if s ≤ j ∧ j < s + 479 then 0 else w j) := by
  unfold p_X8_clearRow
  rw [z_bd_s (v := (fun j => if s ≤ j ∧ j < s + 479 then 0 else w j)) ?_]
  have h := z_for (body := (fun (s1 : Int32 × (Nat → Int32)) =>
    if ((479 : Int32) ≤ s1.1) then
    (some (.inr s1.2)) else
    (z_lt ((nI s + s1.1)) fun x5 =>
    z_gd (z_in x5 1960) <|
    z_lt ((upd s1.2 x5.toNatClampNeg (0 : Int32))) fun a7 =>
    z_lt (s1.1 + (1 : Int32)) fun x8 =>
    some (.inl (x8, a7))))) (fun i => (nI i, (fun j => if s ≤ j ∧ j < s + i then 0 else w j))) 479 (fun j => if s ≤ j ∧ j < s + 479 then 0 else w j) ?_ ?_
  · rw [show (fun j => if s ≤ j ∧ j < s + 0 then (0 : Int32) else w j) = w from funext fun j => if_neg (by omega)] at h
    exact h
  · intro i hi
    have e : ¬ (479 : Int32) ≤ nI i := fun q => absurd ((nI_leI (a := 479) (by decide) (by omega)).mp q) (by omega)
    simp (disch := omega) only [e, if_false, z_lt, nI_add, z_in_n, z_gd_tt, nI_clamp, li_1]
    congr 3
    funext j
    unfold upd
    by_cases hj : j = s + i
    · rw [if_pos hj, if_pos (by omega)]
    · rw [if_neg hj]
      show (if s ≤ j ∧ j < s + i then 0 else w j) = _
      by_cases h2 : s ≤ j ∧ j < s + i
      · rw [if_pos h2, if_pos (by omega)]
      · rw [if_neg h2, if_neg (by omega)]
  · show (if (479 : Int32) ≤ nI 479 then _ else _) = _
    rw [if_pos (by decide)]
theorem p8_copyRow (w : Nat → Int32) {x y m : Nat} (hx : x + m ≤ 1960) (hy : y + m ≤ 1960) (ho : x + m ≤ y ∨ y + m ≤ x) : p_X8_copyRow w (nI x) (nI y) (nI m) = some (va_cpy w w x y m) := by
  unfold p_X8_copyRow
  rw [z_bd_s (v := va_cpy w w x y m) ?_]
  have h := z_for (body := (fun (s1 : Int32 × (Nat → Int32)) =>
    if (nI m ≤ s1.1) then
    (some (.inr s1.2)) else
    (z_lt ((nI x + s1.1)) fun x5 =>
    z_gd (z_in x5 1960) <|
    z_lt ((s1.2 x5.toNatClampNeg)) fun x7 =>
    z_lt ((nI y + s1.1)) fun x8 =>
    z_gd (z_in x8 1960) <|
    z_lt ((upd s1.2 x8.toNatClampNeg x7)) fun a10 =>
    z_lt (s1.1 + (1 : Int32)) fun x11 =>
    some (.inl (x11, a10))))) (fun i => (nI i, va_cpy w w x y i)) m (va_cpy w w x y m) ?_ ?_
  · rw [show va_cpy w w x y 0 = w from funext fun j => pk_cpy_out (by omega)] at h
    exact h
  · intro i hi
    have e : ¬ nI m ≤ nI i := fun q => absurd ((nI_leI (by omega) (by omega)).mp q) (by omega)
    simp (disch := omega) only [e, if_false, z_lt, nI_add, z_in_n, z_gd_tt, nI_clamp, li_1, pk_cpy_out]
    congr 3
    funext j
    unfold upd
    by_cases hj : j = y + i
    · rw [if_pos hj, hj, pk_cpy_in (by omega) (by omega)]
      congr 1
      omega
    · rw [if_neg hj]
      by_cases h2 : y ≤ j ∧ j < y + i
      · rw [pk_cpy_in h2.1 h2.2, pk_cpy_in h2.1 (by omega)]
      · rw [pk_cpy_out (by omega), pk_cpy_out (by omega)]
  · show (if nI m ≤ nI m then _ else _) = _
    rw [if_pos ((nI_leI (by omega) (by omega)).mpr (Nat.le_refl m))]
theorem RD_np {w : Nat → Int32} {u nc np np' : Nat} {d : DD} (hn : np ≤ np') (h : RD w u nc np d) : RD w u nc np' d := by
  obtain ⟨nd, hh, hnd, hhh, d7, w7, d6, w6, hat, hro, hle⟩ := h
  refine ⟨nd, hh, hnd, hhh, d7, w7, d6, w6, ?_, hro, hle⟩
  intro c hc
  obtain ⟨a, t, h1, h2⟩ := hat c hc
  exact ⟨a, t, by omega, h2⟩
theorem RC_0 {w v : Nat → Int32} {f : Nat → Nat → Int32} {n : DD} {P : Nat → DD} {s : Nat} (hw : ∀ j, j < 479 → w (s + j) = 0) (h0 : v 0 = 0) (h1 : v 1 = 0) (h2 : v 2 = 0) (h3 : v 3 = 0) (h4 : v 4 = 0) (hd : n.2.2.2.2.2.2.2.1 = 0) (hh : n.2.2.2.2.2.2.2.2 = 0) : RC w s v f n P :=
  ⟨0, 0, 0, 0, 0, by omega, by omega, by omega, by omega, by omega, h0, hw 418 (by omega), h1, hw 422 (by omega), h2, hw 396 (by omega), h3, hw 447 (by omega), h4, hw 478 (by omega), fun p hp => absurd hp (by omega), fun p hp => absurd hp (by omega),
    ⟨0, 0, by omega, by omega, hd, hw 7 (by omega), hh, hw 6 (by omega), fun p hp => absurd hp (by omega), fun p hp => absurd hp (by omega), fun p hp => absurd hp (by omega)⟩, fun p hp => absurd hp (by omega), fun p hp => absurd hp (by omega), fun p hp => absurd hp (by omega)⟩
theorem mo_place {w v : Nat → Int32} {f : Nat → Nat → Int32} {n : DD} {P : Nat → DD} {s k x y np : Nat} (hs : s + 479 ≤ 1960) (h : RC w s v f n P) (hk : k < 6) (hx : x < 10) (hy : y < 10) (hv : v 0 = nI np) (hnp7 : np < 7) :
    ∃ w', p_X8_placeIn w (nI s) (nI k) (nI x) (nI y) = some (nI np, w') ∧ p_X0_addPlace (v 0) (v 2) (f 0) (f 1) (f 2) (nI k) (nI x) (nI y) = some (nI np, nI (np + 1), 0, upd (f 0) np (nI k), upd (f 1) np (nI x), upd (f 2) np (nI y)) ∧
    RC w' s (va_up (va_up v 0 (nI (np + 1))) 2 0) (va_up (va_up (va_up f 0 (upd (f 0) np (nI k))) 1 (upd (f 1) np (nI x))) 2 (upd (f 2) np (nI y))) n P ∧ ∀ j, j < s ∨ s + 479 ≤ j → w' j = w j := by
  obtain ⟨np', nc, nb, nn, nm, hnp, hnc, hnb, hnn, hnm, e0, w418, e1, w422, e2, w396, e3, w447, e4, w478, hpl, hck, hD, hPP, hno, hma⟩ := h
  have : np = np' := (nI_eq (by omega) (by omega)).mp (hv.symm.trans e0)
  subst this
  have h8 : ∃ w', p_X8_placeIn w (nI s) (nI k) (nI x) (nI y) = some (nI np, w') ∧ w' = upd (upd (upd (upd (upd w (s + 397 + 3 * np) (nI k)) (s + 397 + 3 * np + 1) (nI x)) (s + 397 + 3 * np + 2) (nI y)) (s + 418) (nI (np + 1))) (s + 396) 0 := by
    refine ⟨_, ?_, rfl⟩
    unfold p_X8_placeIn
    simp (disch := omega) only [li_397, li_418, li_396, li_1, li_2, li_3, nI_add, pk_mul, z_in_n, nI_clamp, z_gd_tt, z_lt, w418, ud_n, li_0]
  obtain ⟨w', h8, hw'⟩ := h8
  refine ⟨w', h8, ?_, ?_, ?_⟩
  · unfold p_X0_addPlace
    rw [hv, if_pos (show nI np < (7 : Int32) from (nI_ltI (b := 7) (by omega) (by decide)).mpr hnp7)]
    simp (disch := omega) only [li_1, nI_add, z_in_n, nI_clamp, z_gd_tt, z_lt, pk_sub, Nat.add_sub_cancel]
  · refine ⟨np + 1, nc, 0, nn, nm, by omega, hnc, by omega, hnn, hnm, rfl, ?_, e1, ?_, rfl, ?_, e3, ?_, e4, ?_, ?_, ?_, ?_, ?_, ?_, ?_⟩
    · rw [hw']; simp (disch := omega) only [ud_e, ud_n]
    · rw [hw']; simp (disch := omega) only [ud_e, ud_n, w422]
    · rw [hw']; simp (disch := omega) only [ud_e, ud_n]; rfl
    · rw [hw']; simp (disch := omega) only [ud_e, ud_n, w447]
    · rw [hw']; simp (disch := omega) only [ud_e, ud_n, w478]
    · intro p hp
      rcases (show p < np ∨ p = np by omega) with hp | rfl
      · obtain ⟨k', x', y', h1, h2, h3, h4, h5, h6, h7, h8, h9⟩ := hpl p hp
        refine ⟨k', x', y', h1, h2, h3, ?_, ?_, ?_, ?_, ?_, ?_⟩
        · exact (ud_n (by omega)).trans h4
        · rw [hw']; simp (disch := omega) only [ud_n, h5]
        · exact (ud_n (by omega)).trans h6
        · rw [hw']; simp (disch := omega) only [ud_n, h7]
        · exact (ud_n (by omega)).trans h8
        · rw [hw']; simp (disch := omega) only [ud_n, h9]
      · refine ⟨k, x, y, hk, hx, hy, ?_, ?_, ?_, ?_, ?_, ?_⟩
        · exact ud_s
        · rw [hw']; simp (disch := omega) only [ud_e, ud_n]
        · exact ud_s
        · rw [hw']; simp (disch := omega) only [ud_e, ud_n]
        · exact ud_s
        · rw [hw']; simp (disch := omega) only [ud_e, ud_n]
    · intro c hc
      obtain ⟨k', h1, h2, h3⟩ := hck c hc
      exact ⟨k', h1, h2, by rw [hw']; simp (disch := omega) only [ud_n, h3]⟩
    · exact RD_np (Nat.le_succ np) (RD_w hnc (fun j hj => by rw [hw']; simp (disch := omega) only [ud_n]) hD)
    · intro i hi; exact absurd hi (by omega)
    · intro i hi
      obtain ⟨h1, h2, h3, h4, h5⟩ := hno i hi
      refine ⟨h1.trans ?_, h2.trans ?_, h3.trans ?_, h4, h5.trans ?_⟩ <;> (rw [hw']; simp (disch := omega) only [ud_n])
    · intro j hj
      refine (hma j hj).trans ?_
      rw [hw']; simp (disch := omega) only [ud_n]
  · intro j hj
    rw [hw']; simp (disch := omega) only [ud_n]
theorem mo_crow {w v : Nat → Int32} {f : Nat → Nat → Int32} {n : DD} {P : Nat → DD} {s k p nc np : Nat} (hs : s + 479 ≤ 1960) (h : RC w s v f n P) (hk : k < 6) (hv0 : v 0 = nI np) (hnp7 : np ≤ 7) (hp : p < np) (hv : v 1 = nI nc) (hnc3 : nc < 3) :
    ∃ w', p_X8_crowIn w (nI s) (nI k) (nI p) = some (nI nc, w') ∧ p_X0_addCrow (v 1) (v 2) (f 3) n.2.2.2.2.1 n.2.2.2.2.2.1 (nI k) (nI p) = some (nI nc, nI (nc + 1), 0, upd (f 3) nc (nI k), upd n.2.2.2.2.1 nc (nI p), upd n.2.2.2.2.2.1 nc 0) ∧
    RC w' s (va_up (va_up v 1 (nI (nc + 1))) 2 0) (va_up f 3 (upd (f 3) nc (nI k))) (n.1, n.2.1, n.2.2.1, n.2.2.2.1, upd n.2.2.2.2.1 nc (nI p), upd n.2.2.2.2.2.1 nc 0, n.2.2.2.2.2.2.1, n.2.2.2.2.2.2.2.1, n.2.2.2.2.2.2.2.2) P ∧ ∀ j, j < s ∨ s + 479 ≤ j → w' j = w j := by
  obtain ⟨np', nc', nb, nn, nm, hnp, hnc, hnb, hnn, hnm, e0, w418, e1, w422, e2, w396, e3, w447, e4, w478, hpl, hck, ⟨nd, hh, hnd, hhh, d7, w7, d6, w6, hat, hro, hle⟩, hPP, hno, hma⟩ := h
  have : np = np' := (nI_eq (by omega) (by omega)).mp (hv0.symm.trans e0)
  subst this
  have : nc = nc' := (nI_eq (by omega) (by omega)).mp (hv.symm.trans e1)
  subst this
  have h8 : ∃ w', p_X8_crowIn w (nI s) (nI k) (nI p) = some (nI nc, w') ∧ w' = upd (upd (upd (upd (upd w (s + 419 + nc) (nI k)) (s + nc) (nI p)) (s + 3 + nc) (nI 0)) (s + 422) (nI (nc + 1))) (s + 396) (nI 0) := by
    refine ⟨_, ?_, rfl⟩
    unfold p_X8_crowIn
    simp (disch := omega) only [li_419, li_422, li_396, li_1, li_3, nI_add, pk_mul, z_in_n, nI_clamp, z_gd_tt, z_lt, w422, ud_n, li_0]
  obtain ⟨w', h8, hw'⟩ := h8
  refine ⟨w', h8, ?_, ?_, ?_⟩
  · unfold p_X0_addCrow
    rw [hv, if_pos (show nI nc < (3 : Int32) from (nI_ltI (b := 3) (by omega) (by decide)).mpr hnc3)]
    simp (disch := omega) only [li_1, nI_add, z_in_n, nI_clamp, z_gd_tt, z_lt, pk_sub, Nat.add_sub_cancel]
  · refine ⟨np, nc + 1, 0, nn, nm, by omega, by omega, by omega, hnn, hnm, e0, ?_, rfl, ?_, rfl, ?_, e3, ?_, e4, ?_, ?_, ?_, ?_, ?_, ?_, ?_⟩
    · rw [hw']; simp (disch := omega) only [ud_n, w418]
    · rw [hw']; simp (disch := omega) only [ud_e, ud_n]
    · rw [hw']; simp (disch := omega) only [ud_e, ud_n]
    · rw [hw']; simp (disch := omega) only [ud_n, w447]
    · rw [hw']; simp (disch := omega) only [ud_n, w478]
    · intro p hp
      obtain ⟨k', x', y', h1, h2, h3, h4, h5, h6, h7, h8, h9⟩ := hpl p hp
      refine ⟨k', x', y', h1, h2, h3, h4, ?_, h6, ?_, h8, ?_⟩
      · rw [hw']; simp (disch := omega) only [ud_n, h5]
      · rw [hw']; simp (disch := omega) only [ud_n, h7]
      · rw [hw']; simp (disch := omega) only [ud_n, h9]
    · intro c hc
      rcases (show c < nc ∨ c = nc by omega) with hc | rfl
      · obtain ⟨k', h1, h2, h3⟩ := hck c hc
        refine ⟨k', h1, (ud_n (by omega)).trans h2, ?_⟩
        rw [hw']; simp (disch := omega) only [ud_n, h3]
      · refine ⟨k, hk, ud_s, ?_⟩
        rw [hw']; simp (disch := omega) only [ud_e, ud_n]
    · refine ⟨nd, hh, hnd, hhh, d7, ?_, d6, ?_, ?_, ?_, ?_⟩
      · rw [hw']; simp (disch := omega) only [ud_n, w7]
      · rw [hw']; simp (disch := omega) only [ud_n, w6]
      · intro c hc
        rcases (show c < nc ∨ c = nc by omega) with hc | rfl
        · obtain ⟨a, t, h1, h2, h3, h4, h5, h6⟩ := hat c hc
          refine ⟨a, t, h1, h2, (ud_n (by omega)).trans h3, ?_, (ud_n (by omega)).trans h5, ?_⟩
          · rw [hw']; simp (disch := omega) only [ud_n, h4]
          · rw [hw']; simp (disch := omega) only [ud_n, h6]
        · refine ⟨p, 0, hp, by omega, ud_s, ?_, ud_s, ?_⟩
          · rw [hw']; simp (disch := omega) only [ud_e, ud_n]
          · rw [hw']; simp (disch := omega) only [ud_e, ud_n]
      · intro j hj
        refine (hro j hj).trans ?_
        rw [hw']; simp (disch := omega) only [ud_n]
      · intro j hj
        obtain ⟨g, h1, h2⟩ := hle j hj
        refine ⟨g, h1, ?_⟩
        rw [hw']; simp (disch := omega) only [ud_n, h2]
    · intro i hi; exact absurd hi (by omega)
    · intro i hi
      obtain ⟨h1, h2, h3, h4, h5⟩ := hno i hi
      refine ⟨h1.trans ?_, h2.trans ?_, h3.trans ?_, h4, h5.trans ?_⟩ <;> (rw [hw']; simp (disch := omega) only [ud_n])
    · intro j hj
      refine (hma j hj).trans ?_
      rw [hw']; simp (disch := omega) only [ud_n]
  · intro j hj
    rw [hw']; simp (disch := omega) only [ud_n]
