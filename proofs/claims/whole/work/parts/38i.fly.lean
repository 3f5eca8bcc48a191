/-! A flight, a rest, hours that go by. -/
theorem mo_goOn {w : Nat → Int32} {u h k : Nat} (hu : u + 44 ≤ 1960) (hw : w (u + 6) = nI h) (hh : h + k < 2 ^ 30) (hc : u = 1916 ∨ h + k ≤ 9999) : p_X8_goOn w (nI u) (nI k) = some (upd w (u + 6) (nI (h + k))) := by
  unfold p_X8_goOn
  simp (disch := omega) only [z_lt, li_6, nI_add, z_in_n, z_gd_tt, nI_clamp, hw, li_1916, li_9999, nI_eq, nI_leI]
  rcases hc with hc | hc
  · simp only [if_pos hc, z_bd_some]
  · by_cases q : u = 1916
    · simp only [if_pos q, z_bd_some]
    · simp only [if_neg q, if_pos hc, z_bd_some]
theorem mo_goOnC {w : Nat → Int32} {u h k : Nat} (hu : u + 44 < 1916) (hw : w (u + 6) = nI h) (hh : h + k < 2 ^ 30) : p_X8_goOn w (nI u) (nI k) = some (upd w (u + 6) (nI (min (h + k) 9999))) := by
  unfold p_X8_goOn
  simp (disch := omega) only [z_lt, li_6, nI_add, z_in_n, z_gd_tt, nI_clamp, hw, li_1916, li_9999, nI_eq, nI_leI, if_neg]
  by_cases q : h + k ≤ 9999
  · simp only [if_pos q, z_bd_some, Nat.min_eq_left q]
  · simp only [if_neg q, z_bd_some, Nat.min_eq_right (show 9999 ≤ h + k by omega)]
theorem mo_clock {h : Nat} (hh : h < 2 ^ 30) : p_X1_stopTheClock (nI h) = some (nI (min h 9999)) := by
  unfold p_X1_stopTheClock
  simp (disch := omega) only [z_lt, li_9999, nI_ltI]
  by_cases q : 9999 < h
  · rw [if_pos q, Nat.min_eq_right (by omega)]
  · rw [if_neg q, Nat.min_eq_left (by omega)]
theorem mo_deedShift (w : Nat → Int32) {u : Nat} (hu : u + 44 ≤ 1960) : z_lp (S := Int32 × (Nat → Int32)) (E := (Nat → Int32)) (fun s43 =>
  if ((36 : Int32) ≤ s43.1) then
  (some (.inr s43.2)) else
  (z_lt (((nI u + (8 : Int32)) + s43.1)) fun x52 =>
  z_gd (z_in x52 1960) <|
  z_lt ((s43.2 x52.toNatClampNeg)) fun x54 =>
  z_lt ((((nI u + (8 : Int32)) + s43.1) - (3 : Int32))) fun x55 =>
  z_gd (z_in x55 1960) <|
  z_lt ((upd s43.2 x55.toNatClampNeg x54)) fun a57 =>
  z_lt (s43.1 + (1 : Int32)) fun x58 =>
  some (.inl (x58, a57)))) ((3 : Int32), w) = some (va_cpy w w (u + 11) (u + 8) 33) := by
  have h0 : va_cpy w w (u + 11) (u + 8) 0 = w := funext fun j => pk_cpy_out (by omega)
  refine z_forS (fun i => (nI (i + 3), va_cpy w w (u + 11) (u + 8) i)) 33 (va_cpy w w (u + 11) (u + 8) 33) (by rw [h0]; rfl) ?_ ?_
  · intro i hi
    simp (disch := omega) only [li_36, li_8, li_3, li_1, nI_leI, if_neg, z_lt, nI_add, pk_sub, z_in_n, z_gd_tt, nI_clamp, pk_cpy_out]
    rw [show i + 3 + 1 = i + 1 + 3 by omega]
    congr 3
    funext j
    unfold upd
    by_cases hj : j = u + 8 + (i + 3) - 3
    · rw [if_pos hj, hj, pk_cpy_in (by omega) (by omega)]
      congr 1
      omega
    · rw [if_neg hj]
      by_cases h2 : u + 8 ≤ j ∧ j < u + 8 + i
      · rw [pk_cpy_in h2.1 h2.2, pk_cpy_in h2.1 (by omega)]
      · rw [pk_cpy_out (by omega), pk_cpy_out (by omega)]
  · show (if (36 : Int32) ≤ nI (33 + 3) then _ else _) = _
    rw [if_pos (by decide)]
/-- a deed written behind m others, she is there, more tired, an hour later -/
theorem mo_moved {B : Nat} {w1 at' ti rows : Nat → Int32} {u nc np c p g m a t h : Nat} (hu : u + 44 ≤ 1960) (hnp : np ≤ 7) (hnc : nc ≤ 3) (hm : m < 12) (hB : h ≤ B) (hB2 : B < 2 ^ 29) (hc : c < nc) (hp : p < np) (hg : g ≤ 2000) (ha : a < np) (ht : t ≤ 99)
    (hat : ∀ c, c < nc → ∃ a t : Nat, a < np ∧ t ≤ 99 ∧ at' c = nI a ∧ w1 (u + c) = nI a ∧ ti c = nI t ∧ w1 (u + 3 + c) = nI t) (hro : ∀ j, j < 3 * m → rows j = w1 (u + 8 + j)) (hle : ∀ k, k < m → ∃ g : Nat, g ≤ 2000 ∧ w1 (u + 8 + (3 * k + 2)) = nI g) :
    RDg (B + 1) (upd (upd (upd (upd (upd (upd (upd w1 (u + 8 + 3 * m) (nI a)) (u + 8 + 3 * m + 1) (nI p)) (u + 8 + 3 * m + 2) (nI g)) (u + 7) (nI (m + 1))) (u + c) (nI p)) (u + 3 + c) (nI (min (t + 1) 99))) (u + 6) (nI (h + 1))) u nc np (0, 0, 0, 0, upd at' c (nI p), upd ti c (nI (min (t + 1) 99)), upd (upd (upd rows (m * 3) (nI a)) (m * 3 + 1) (nI p)) (m * 3 + 2) (nI g), nI (m + 1), nI (h + 1)) := by
  refine ⟨m + 1, h + 1, by omega, by omega, rfl, ?_, rfl, ?_, ?_, ?_, ?_⟩
  · simp (disch := omega) only [ud_n, ud_s]
  · simp (disch := omega) only [ud_s]
  · intro e he
    by_cases q : e = c
    · subst q
      refine ⟨p, min (t + 1) 99, hp, by omega, ud_s, ?_, ud_s, ?_⟩
      · simp (disch := omega) only [ud_n, ud_s]
      · simp (disch := omega) only [ud_n, ud_s]
    · obtain ⟨a2, t2, h1, h2, h3, h4, h5, h6⟩ := hat e he
      refine ⟨a2, t2, h1, h2, (ud_n q).trans h3, ?_, (ud_n q).trans h5, ?_⟩
      · simp (disch := omega) only [ud_n, h4]
      · simp (disch := omega) only [ud_n, h6]
  · intro j hj
    show upd (upd (upd rows (m * 3) (nI a)) (m * 3 + 1) (nI p)) (m * 3 + 2) (nI g) j = _
    rcases (show j < 3 * m ∨ j = m * 3 ∨ j = m * 3 + 1 ∨ j = m * 3 + 2 by omega) with hj | rfl | rfl | rfl
    · simp (disch := omega) only [ud_n, hro j hj]
    all_goals simp (disch := omega) only [ud_e, ud_n]
  · intro k hk
    rcases (show k < m ∨ k = m by omega) with hk | rfl
    · obtain ⟨g2, h1, h2⟩ := hle k hk
      refine ⟨g2, h1, ?_⟩
      simp (disch := omega) only [ud_n, h2]
    · refine ⟨g, hg, ?_⟩
      simp (disch := omega) only [ud_e, ud_n]
theorem RDg_b {B C : Nat} {w : Nat → Int32} {u nc np : Nat} {d : DD} (hBC : B ≤ C) (h : RDg B w u nc np d) : RDg C w u nc np d := by
  obtain ⟨nd, hh, hnd, hhh, hr⟩ := h
  exact ⟨nd, hh, hnd, by omega, hr⟩
theorem mo_min7 {t : Nat} (ht : t ≤ 99) : (if (99 : Int32) < nI t + 1 then (99 : Int32) else nI t + 1) = nI (min (t + 1) 99) := by
  rw [nI_1, li_99]
  by_cases q : 99 < t + 1
  · rw [if_pos ((nI_ltI (a := 99) (by decide) (by omega)).mpr q), Nat.min_eq_right (by omega)]
  · rw [if_neg (fun z => q ((nI_ltI (a := 99) (by decide) (by omega)).mp z)), Nat.min_eq_left (by omega)]
theorem mo_min8 {t : Nat} (ht : t ≤ 99) : (nI t + if (99 : Int32) ≤ nI t then (0 : Int32) else 1) = nI (min (t + 1) 99) := by
  rw [li_99]
  by_cases q : 99 ≤ t
  · rw [if_pos ((nI_leI (a := 99) (by decide) (by omega)).mpr q), Nat.min_eq_right (by omega), show nI t + (0 : Int32) = nI t from nI_add t 0]
    congr 1; omega
  · rw [if_neg (fun z => q ((nI_leI (a := 99) (by decide) (by omega)).mp z)), Nat.min_eq_left (by omega)]; exact nI_1 t
theorem mo_move {at' ti rows0 rows : Nat → Int32} {nd m c p g a t h : Nat} (hc : c < 3) (hm : m < 12) (ht : t ≤ 99) (g3 : at' c = nI a) (g5 : ti c = nI t) (h7 : (if (nI nd < (12 : Int32)) then
        (some (nI nd, rows0)) else
        (z_lt ((va_cpy rows0 rows0 3 0 33)) fun a23 =>
        some ((11 : Int32), a23))) = some (nI m, rows)) :
    p_X1_move (nI nd) (nI h) at' ti rows0 (nI c) (nI p) (nI g) = some (nI (m + 1), nI (h + 1), upd at' c (nI p), upd ti c (nI (min (t + 1) 99)), upd (upd (upd rows (m * 3) (nI a)) (m * 3 + 1) (nI p)) (m * 3 + 2) (nI g)) := by
  unfold p_X1_move
  rw [z_bd_s h7]
  have ic : z_in (nI c) 3 = true := z_in_n (by omega) (by decide)
  have i0 : nI m * (3 : Int32) = nI (m * 3) := pk_mul m 3
  have i1 : nI (m * 3) + (1 : Int32) = nI (m * 3 + 1) := nI_add _ 1
  have i2 : nI (m * 3) + (2 : Int32) = nI (m * 3 + 2) := nI_add _ 2
  have j0 : z_in (nI (m * 3)) 36 = true := z_in_n (by omega) (by decide)
  have j1 : z_in (nI (m * 3 + 1)) 36 = true := z_in_n (by omega) (by decide)
  have j2 : z_in (nI (m * 3 + 2)) 36 = true := z_in_n (by omega) (by decide)
  have k0 : (nI (m * 3)).toNatClampNeg = m * 3 := nI_clamp (by omega)
  have k1 : (nI (m * 3 + 1)).toNatClampNeg = m * 3 + 1 := nI_clamp (by omega)
  have k2 : (nI (m * 3 + 2)).toNatClampNeg = m * 3 + 2 := nI_clamp (by omega)
  have cc : (nI c).toNatClampNeg = c := nI_clamp (by omega)
  simp only [z_lt, i0, i1, i2, j0, j1, j2, k0, k1, k2, ic, cc, z_gd_tt, g3, g5]
  rw [mo_min7 ht, nI_1, nI_1]
theorem z_lt_n {α β : Type} (e : α) (k : α → Option β) : z_lt e k = k e := Eq.trans rfl rfl
theorem mo_flyIn {w w1 : Nat → Int32} {u s c p nd m a t h g : Nat} (hu : u + 44 ≤ 1960) (hc : c < 3) (hm : m < 12) (ht : t ≤ 99) (hh : h < 2 ^ 29) (w7 : w (u + 7) = nI nd) (g4 : w (u + c) = nI a) (ff : p_X8_farIn w (nI u) (nI s) (nI c) (nI a) (nI p) = some (nI g)) (h8 : (if (nI nd = (12 : Int32)) then
        (z_bd (z_lp (S := Int32 × (Nat → Int32)) (E := (Nat → Int32)) (fun s43 =>
          if ((36 : Int32) ≤ s43.1) then
          (some (.inr s43.2)) else
          (z_lt (((nI u + (8 : Int32)) + s43.1)) fun x52 =>
          z_gd (z_in x52 1960) <|
          z_lt ((s43.2 x52.toNatClampNeg)) fun x54 =>
          z_lt ((((nI u + (8 : Int32)) + s43.1) - (3 : Int32))) fun x55 =>
          z_gd (z_in x55 1960) <|
          z_lt ((upd s43.2 x55.toNatClampNeg x54)) fun a57 =>
          z_lt (s43.1 + (1 : Int32)) fun x58 =>
          some (.inl (x58, a57)))) ((3 : Int32), w)) fun e44 =>
          z_lt (nI u + (7 : Int32)) fun x45 =>
          z_gd (z_in x45 1960) <|
          z_lt (((e44 x45.toNatClampNeg) - (1 : Int32))) fun x47 =>
          z_gd (z_in x45 1960) <|
          z_lt ((upd e44 x45.toNatClampNeg x47)) fun a49 =>
          some a49) else
        (some w)) = some w1) (hw7 : w1 (u + 7) = nI m) (w1c : w1 (u + c) = nI a) (w1t : w1 (u + 3 + c) = nI t) (w16 : w1 (u + 6) = nI h) (hcl : u = 1916 ∨ h + 1 ≤ 9999) :
    p_X8_flyIn w (nI u) (nI s) (nI c) (nI p) = some (nI g, upd (upd (upd (upd (upd (upd (upd w1 (u + 8 + 3 * m) (nI a)) (u + 8 + 3 * m + 1) (nI p)) (u + 8 + 3 * m + 2) (nI g)) (u + 7) (nI (m + 1))) (u + c) (nI p)) (u + 3 + c) (nI (min (t + 1) 99))) (u + 6) (nI (h + 1))) := by
  have go := mo_goOn (w := upd (upd (upd (upd (upd (upd w1 (u + 8 + 3 * m) (nI a)) (u + 8 + 3 * m + 1) (nI p)) (u + 8 + 3 * m + 2) (nI g)) (u + 7) (nI (m + 1))) (u + c) (nI p)) (u + 3 + c) (nI (min (t + 1) 99))) (u := u) (h := h) (k := 1) hu (by simp (disch := omega) only [ud_n, w16]) (by omega) hcl
  have u7 : (nI u + (7 : Int32)) = nI (u + 7) := nI_add u 7
  have uc : (nI u + nI c) = nI (u + c) := nI_add u c
  have u3 : (nI u + (3 : Int32)) + nI c = nI (u + 3 + c) := by rw [show nI u + (3 : Int32) = nI (u + 3) from nI_add u 3, nI_add]
  have i7 : z_in (nI (u + 7)) 1960 = true := z_in_n (by omega) (by decide)
  have ic : z_in (nI (u + c)) 1960 = true := z_in_n (by omega) (by decide)
  have i3 : z_in (nI (u + 3 + c)) 1960 = true := z_in_n (by omega) (by decide)
  have n7 : (nI (u + 7)).toNatClampNeg = u + 7 := nI_clamp (by omega)
  have nc' : (nI (u + c)).toNatClampNeg = u + c := nI_clamp (by omega)
  have n3 : (nI (u + 3 + c)).toNatClampNeg = u + 3 + c := nI_clamp (by omega)
  have em : (nI t + if (99 : Int32) ≤ nI t then (0 : Int32) else nI 1) = nI (min (t + 1) 99) := mo_min8 ht
  have go' : p_X8_goOn (upd (upd (upd (upd (upd (upd w1 (u + 8 + 3 * m) (nI a)) (u + 8 + 3 * m + 1) (nI p)) (u + 8 + 3 * m + 2) (nI g)) (u + 7) (nI (m + 1))) (u + c) (nI p)) (u + 3 + c) (nI (min (t + 1) 99))) (nI u) (nI 1) = _ := go
  rw [u7] at h8
  unfold p_X8_flyIn
  rw [z_lt_n, uc, z_gd_t ic, z_lt_n, nc', g4, z_bd_s ff, z_lt_n, u7, z_gd_t i7, n7, w7, z_bd_s h8]
  simp (disch := omega) only [z_lt, li_1, li_2, li_3, li_8, nI_add, pk_mul, z_in_n, z_gd_tt, nI_clamp, hw7, w1c, w1t, ud_n, ud_s, z_bd_ite]
  rw [em, go', z_bd_some]
theorem z_bd_id {α : Type} {x : Option α} {a : α} (h : z_bd x (fun y => some y) = some a) : x = some a := by
  cases x with
  | none => cases h
  | some y => exact h
theorem mo_fly {B : Nat} {w : Nat → Int32} {f : Nat → Nat → Int32} {d : DD} {s u np nc c p : Nat} (hs : s + 479 ≤ 1960) (hu : u + 44 ≤ 1960) (hnp : np ≤ 7) (hnc : nc ≤ 3) (hB : B < 2 ^ 29) (hP : RP w s np nc f) (hD : RDg B w u nc np d) (hc : c < nc) (hp : p < np) (hcl : u = 1916 ∨ ∃ h : Nat, h + 1 ≤ 9999 ∧ d.2.2.2.2.2.2.2.2 = nI h) :
    ∃ (g : Nat) (w' : Nat → Int32) (r : Int32 × Int32 × (Nat → Int32) × (Nat → Int32) × (Nat → Int32)), g ≤ 600 ∧ p_X0_fly (f 0) (f 1) (f 2) (f 3) d.2.2.2.2.2.2.2.1 d.2.2.2.2.2.2.2.2 d.2.2.2.2.1 d.2.2.2.2.2.1 d.2.2.2.2.2.2.1 (nI c) (nI p) = some (nI g, r) ∧ p_X8_flyIn w (nI u) (nI s) (nI c) (nI p) = some (nI g, w') ∧
      RDg (B + 1) w' u nc np (0, 0, 0, 0, r.2.2.1, r.2.2.2.1, r.2.2.2.2, r.1, r.2.1) ∧ (∀ h : Nat, h ≤ B → d.2.2.2.2.2.2.2.2 = nI h → r.2.1 = nI (h + 1)) ∧ ∀ j, j < u ∨ u + 44 ≤ j → w' j = w j := by
  obtain ⟨nd, h, hnd, hh, d7, w7, d6, w6, hat, hro, hle⟩ := hD
  obtain ⟨a, t, ha, ht, g3, g4, g5, g6⟩ := hat c hc
  obtain ⟨g, hg, f7, f8⟩ := mo_farAt (u := u) (h := h) hs hu hnp hnc hP hc ha hp ht g6 (by omega)
  have hcl' : u = 1916 ∨ h + 1 ≤ 9999 := by
    rcases hcl with q | ⟨h2, q1, q2⟩
    · exact Or.inl q
    · by_cases hu' : u = 1916
      · exact Or.inl hu'
      · refine Or.inr ?_
        have e0 : nI h = nI h2 := d6.symm.trans q2
        have := (nI_eq (by omega) (by omega)).mp e0
        omega
  have e24 : nI h - nI h / (24 : Int32) * (24 : Int32) = nI (h % 24) := pk_rem (d := 24) (by omega) (by decide) (by decide)
  have ff : p_X8_farIn w (nI u) (nI s) (nI c) (nI a) (nI p) = some (nI g) := by
    simp (disch := omega) only [p_X8_farIn, z_lt, li_6, nI_add, z_in_n, z_gd_tt, nI_clamp, w6]
    rw [e24, f8, z_bd_some]
  /- the row with room for one more -/
  have key : ∀ (m : Nat) (w1 rows : Nat → Int32), m < 12 → w1 (u + 7) = nI m → (∀ j, (j < u + 7 ∨ u + 44 ≤ j) → w1 j = w j) → (∀ j, j < 3 * m → rows j = w1 (u + 8 + j)) → (∀ k, k < m → ∃ g : Nat, g ≤ 2000 ∧ w1 (u + 8 + (3 * k + 2)) = nI g) →
      z_bd (α := (Nat → Int32)) (if (nI nd = (12 : Int32)) then
        (z_bd (z_lp (S := Int32 × (Nat → Int32)) (E := (Nat → Int32)) (fun s43 =>
          if ((36 : Int32) ≤ s43.1) then
          (some (.inr s43.2)) else
          (z_lt (((nI u + (8 : Int32)) + s43.1)) fun x52 =>
          z_gd (z_in x52 1960) <|
          z_lt ((s43.2 x52.toNatClampNeg)) fun x54 =>
          z_lt ((((nI u + (8 : Int32)) + s43.1) - (3 : Int32))) fun x55 =>
          z_gd (z_in x55 1960) <|
          z_lt ((upd s43.2 x55.toNatClampNeg x54)) fun a57 =>
          z_lt (s43.1 + (1 : Int32)) fun x58 =>
          some (.inl (x58, a57)))) ((3 : Int32), w)) fun e44 =>
          z_lt (nI u + (7 : Int32)) fun x45 =>
          z_gd (z_in x45 1960) <|
          z_lt (((e44 x45.toNatClampNeg) - (1 : Int32))) fun x47 =>
          z_gd (z_in x45 1960) <|
          z_lt ((upd e44 x45.toNatClampNeg x47)) fun a49 =>
          some a49) else
        (some w)) (fun x => some x) = some w1 →
      z_bd (α := Int32 × (Nat → Int32)) (if (nI nd < (12 : Int32)) then
        (some (nI nd, d.2.2.2.2.2.2.1)) else
        (z_lt ((va_cpy d.2.2.2.2.2.2.1 d.2.2.2.2.2.2.1 3 0 33)) fun a23 =>
        some ((11 : Int32), a23))) (fun x => some x) = some (nI m, rows) →
      ∃ (w' : Nat → Int32) (r : Int32 × Int32 × (Nat → Int32) × (Nat → Int32) × (Nat → Int32)), p_X0_fly (f 0) (f 1) (f 2) (f 3) d.2.2.2.2.2.2.2.1 d.2.2.2.2.2.2.2.2 d.2.2.2.2.1 d.2.2.2.2.2.1 d.2.2.2.2.2.2.1 (nI c) (nI p) = some (nI g, r) ∧ p_X8_flyIn w (nI u) (nI s) (nI c) (nI p) = some (nI g, w') ∧
      RDg (B + 1) w' u nc np (0, 0, 0, 0, r.2.2.1, r.2.2.2.1, r.2.2.2.2, r.1, r.2.1) ∧ (∀ h : Nat, h ≤ B → d.2.2.2.2.2.2.2.2 = nI h → r.2.1 = nI (h + 1)) ∧ ∀ j, j < u ∨ u + 44 ≤ j → w' j = w j := by
    intro m w1 rows hm hw7 hout hro1 hle1 h8 h7
    have h8' := z_bd_id h8
    have h7' := z_bd_id h7
    have hat1 : ∀ c, c < nc → ∃ a t : Nat, a < np ∧ t ≤ 99 ∧ d.2.2.2.2.1 c = nI a ∧ w1 (u + c) = nI a ∧ d.2.2.2.2.2.1 c = nI t ∧ w1 (u + 3 + c) = nI t := by
      intro c hc
      obtain ⟨a, t, h1, h2, h3, h4, h5, h6⟩ := hat c hc
      exact ⟨a, t, h1, h2, h3, by rw [hout _ (by omega)]; exact h4, h5, by rw [hout _ (by omega)]; exact h6⟩
    have hmv := mo_moved (B := B) hu hnp hnc hm hh hB hc hp (show g ≤ 2000 by omega) ha ht hat1 hro1 hle1
    refine ⟨_, (nI (m + 1), nI (h + 1), upd d.2.2.2.2.1 c (nI p), upd d.2.2.2.2.2.1 c (nI (min (t + 1) 99)), upd (upd (upd rows (m * 3) (nI a)) (m * 3 + 1) (nI p)) (m * 3 + 2) (nI g)), ?_, ?_, hmv, ?_, ?_⟩
    · have ic : z_in (nI c) 3 = true := z_in_n (by omega) (by decide)
      have hmv7 := mo_move (p := p) (g := g) (h := h) (show c < 3 by omega) hm ht g3 g5 h7'
      simp only [p_X0_fly, ic, z_gd_tt, nI_clamp (show c < 2 ^ 31 by omega), g3, g5, d6, d7, z_lt, f7, z_bd_some, hmv7]
    · have w1c : w1 (u + c) = nI a := by rw [hout _ (by omega)]; exact g4
      have w1t : w1 (u + 3 + c) = nI t := by rw [hout _ (by omega)]; exact g6
      have w16 : w1 (u + 6) = nI h := by rw [hout _ (by omega)]; exact w6
      exact mo_flyIn hu (show c < 3 by omega) hm ht (by omega) w7 g4 ff h8' hw7 w1c w1t w16 hcl'
    · intro h2 hh2 e2
      have e0 : nI h = nI h2 := d6.symm.trans e2
      have : h = h2 := (nI_eq (by omega) (by omega)).mp e0
      subst this
      rfl
    · intro j hj
      simp (disch := omega) only [ud_n]
      exact hout j (by omega)
  by_cases h12 : nd = 12
  · subst h12
    have e7 : va_cpy w w (u + 11) (u + 8) 33 (u + 7) = nI 12 := by rw [pk_cpy_out (by omega)]; exact w7
    obtain ⟨w', r, k1, k2, k3, k4, k5⟩ := key 11 (upd (va_cpy w w (u + 11) (u + 8) 33) (u + 7) (nI 11)) (va_cpy d.2.2.2.2.2.2.1 d.2.2.2.2.2.2.1 3 0 33) (by omega) ud_s
      (fun j hj => by
        rcases (show j = u + 7 ∨ j ≠ u + 7 by omega) with q | q
        · omega
        · rw [ud_n q, pk_cpy_out (by omega)])
      (fun j hj => by rw [ud_n (by omega), pk_cpy_in (by omega) (by omega), pk_cpy_in (by omega) (by omega), hro _ (by omega)]; congr 1; omega)
      (fun k hk => by
        obtain ⟨g, h1, h2⟩ := hle (k + 1) (by omega)
        exact ⟨g, h1, by rw [ud_n (by omega), pk_cpy_in (by omega) (by omega), ← h2]; congr 1; omega⟩)
      (by
        rw [if_pos (show nI 12 = (12 : Int32) from rfl), z_bd_s (mo_deedShift w hu)]
        simp (disch := omega) only [z_lt, li_7, li_1, nI_add, z_in_n, z_gd_tt, nI_clamp, e7, pk_sub, z_bd_some])
      (by rw [if_neg (by decide)]; rfl)
    exact ⟨g, w', r, hg, k1, k2, k3, k4, k5⟩
  · obtain ⟨w', r, k1, k2, k3, k4, k5⟩ := key nd w d.2.2.2.2.2.2.1 (by omega) w7 (fun j hj => rfl) hro hle (by rw [if_neg (show ¬ nI nd = (12 : Int32) from nI_ne (b := 12) (by omega) (by decide) h12)]; rfl) (by rw [if_pos (show nI nd < (12 : Int32) from (nI_ltI (b := 12) (by omega) (by decide)).mpr (by omega))]; rfl)
    exact ⟨g, w', r, hg, k1, k2, k3, k4, k5⟩
