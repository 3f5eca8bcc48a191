/-! What may be undone: remembered, forgotten, brought back. -/
def RDg (B : Nat) (w : Nat → Int32) (u nc np : Nat) (d : DD) : Prop :=
  ∃ nd h : Nat, nd ≤ 12 ∧ h ≤ B ∧ d.2.2.2.2.2.2.2.1 = nI nd ∧ w (u + 7) = nI nd ∧ d.2.2.2.2.2.2.2.2 = nI h ∧ w (u + 6) = nI h ∧
  (∀ c, c < nc → ∃ a t : Nat, a < np ∧ t ≤ 99 ∧ d.2.2.2.2.1 c = nI a ∧ w (u + c) = nI a ∧ d.2.2.2.2.2.1 c = nI t ∧ w (u + 3 + c) = nI t) ∧
  (∀ j, j < 3 * nd → d.2.2.2.2.2.2.1 j = w (u + 8 + j)) ∧ (∀ k, k < nd → ∃ g : Nat, g ≤ 2000 ∧ w (u + 8 + (3 * k + 2)) = nI g)
theorem RDg_of {w : Nat → Int32} {u nc np : Nat} {d : DD} (h : RD w u nc np d) : RDg 9999 w u nc np d := h
theorem RDg_to {w : Nat → Int32} {u nc np : Nat} {d : DD} (h : RDg 9999 w u nc np d) : RD w u nc np d := h
/-- doings copied, on both sides -/
theorem RDg_cp {B : Nat} {w w' : Nat → Int32} {u u' nc np : Nat} {d e : DD} (hnc : nc ≤ 3) (hw : ∀ j, j < 44 → w' (u' + j) = w (u + j)) (ea : ∀ j, j < 3 → e.2.2.2.2.1 j = d.2.2.2.2.1 j) (et : ∀ j, j < 3 → e.2.2.2.2.2.1 j = d.2.2.2.2.2.1 j) (er : ∀ j, j < 36 → e.2.2.2.2.2.2.1 j = d.2.2.2.2.2.2.1 j) (en : e.2.2.2.2.2.2.2.1 = d.2.2.2.2.2.2.2.1) (eh : e.2.2.2.2.2.2.2.2 = d.2.2.2.2.2.2.2.2) (h : RDg B w u nc np d) : RDg B w' u' nc np e := by
  obtain ⟨nd, hh, hnd, hhh, d7, w7, d6, w6, hat, hro, hle⟩ := h
  refine ⟨nd, hh, hnd, hhh, en.trans d7, (hw 7 (by omega)).trans w7, eh.trans d6, (hw 6 (by omega)).trans w6, ?_, ?_, ?_⟩
  · intro c hc
    obtain ⟨a, t, h1, h2, h3, h4, h5, h6⟩ := hat c hc
    refine ⟨a, t, h1, h2, (ea c (by omega)).trans h3, (hw c (by omega)).trans h4, (et c (by omega)).trans h5, ?_⟩
    rw [Nat.add_assoc, hw (3 + c) (by omega), ← Nat.add_assoc]; exact h6
  · intro j hj
    rw [er j (by omega), hro j hj, Nat.add_assoc, Nat.add_assoc, hw (8 + j) (by omega)]
  · intro k hk
    obtain ⟨g, h1, h2⟩ := hle k hk
    exact ⟨g, h1, by rw [Nat.add_assoc, hw (8 + (3 * k + 2)) (by omega), ← Nat.add_assoc]; exact h2⟩
theorem cp_eq {α : Type} {f g : Nat → α} {n j : Nat} (h : j < n) : va_cpy f g 0 0 n j = f j := by
  rw [pk_cpy_in (by omega) (by omega)]; congr 1; omega
theorem va_s {α : Type} {f : Nat → α} {k : Nat} {x : α} : va_up f k x k = x := if_pos rfl
theorem va_n {α : Type} {f : Nat → α} {k j : Nat} {x : α} (h : j ≠ k) : va_up f k x j = f j := if_neg h
/-- one more is remembered, where fewer than 8 are -/
theorem mo_rem1 {w v : Nat → Int32} {f : Nat → Nat → Int32} {n : DD} {P : Nat → DD} {nb : Nat} (h : RC w 0 v f n P) (hv : v 2 = nI nb) (hn8 : nb < 8) :
    w 396 = nI nb ∧ RC (upd (va_cpy w w 0 (44 + 44 * nb) 44) 396 (nI (nb + 1))) 0 (va_up v 2 (nI (nb + 1))) f n (va_up P nb (dset (P nb) (va_cpy n.2.2.2.2.1 (P nb).2.2.2.2.1 0 0 3) (va_cpy n.2.2.2.2.2.1 (P nb).2.2.2.2.2.1 0 0 3) (va_cpy n.2.2.2.2.2.2.1 (P nb).2.2.2.2.2.2.1 0 0 36) n.2.2.2.2.2.2.2.1 n.2.2.2.2.2.2.2.2)) := by
  obtain ⟨np, nc, nb', nn, nm, hnp, hnc, hnb, hnn, hnm, e0, w418, e1, w422, e2, w396, e3, w447, e4, w478, hpl, hck, hD, hPP, hno, hma⟩ := h
  have : nb' = nb := (nI_eq (by omega) (by omega)).mp (e2.symm.trans hv)
  subst this
  simp only [Nat.zero_add] at w396
  refine ⟨w396, ?_⟩
  generalize hw' : upd (va_cpy w w 0 (44 + 44 * nb') 44) 396 (nI (nb' + 1)) = w'
  have ho : ∀ j, j ≠ 396 → (j < 44 + 44 * nb' ∨ 88 + 44 * nb' ≤ j) → w' j = w j := by
    intro j h1 h2
    rw [← hw', ud_n h1, pk_cpy_out (by omega)]
  have hin : ∀ j, j < 44 → w' (44 + 44 * nb' + j) = w j := by
    intro j hj
    rw [← hw', ud_n (by omega), pk_cpy_in (by omega) (by omega)]; congr 1; omega
  refine ⟨np, nc, nb' + 1, nn, nm, hnp, hnc, by omega, hnn, hnm, e0, ?_, e1, ?_, rfl, ?_, e3, ?_, e4, ?_, ?_, ?_, ?_, ?_, ?_, ?_⟩
  · rw [Nat.zero_add, ho _ (by omega) (by omega), ← w418, Nat.zero_add]
  · rw [Nat.zero_add, ho _ (by omega) (by omega), ← w422, Nat.zero_add]
  · rw [Nat.zero_add, ← hw']; exact ud_s
  · rw [Nat.zero_add, ho _ (by omega) (by omega), ← w447, Nat.zero_add]
  · rw [Nat.zero_add, ho _ (by omega) (by omega), ← w478, Nat.zero_add]
  · exact (RP_w hnp hnc (fun j h1 h2 => ho _ (by omega) (by omega)) (⟨hpl, hck⟩ : RP w 0 np nc f)).1
  · exact (RP_w hnp hnc (fun j h1 h2 => ho _ (by omega) (by omega)) (⟨hpl, hck⟩ : RP w 0 np nc f)).2
  · exact RD_w hnc (fun j hj => ho _ (by omega) (by omega)) hD
  · intro i hi
    rcases (show i < nb' ∨ i = nb' by omega) with hi | rfl
    · rw [va_n (by omega)]
      exact RD_w hnc (fun j hj => ho _ (by omega) (by omega)) (hPP i hi)
    · rw [va_s]
      exact RDg_to (RDg_cp hnc (fun j hj => by rw [show 0 + 44 + 44 * i + j = 44 + 44 * i + j by omega, hin j hj, Nat.zero_add]) (fun j hj => cp_eq hj) (fun j hj => cp_eq hj) (fun j hj => cp_eq hj) rfl rfl (RDg_of hD))
  · exact RN_w hnn (fun j h1 h2 => ho _ (by omega) (by omega)) hno
  · exact RM_w hnm (fun j h1 h2 => ho _ (by omega) (by omega)) hma
theorem z_forS {S E : Type} {body : S → Option (S ⊕ E)} {s0 : S} (st : Nat → S) (n : Nat) (e : E) (h0 : s0 = st 0) (hs : ∀ i, i < n → body (st i) = some (.inl (st (i + 1)))) (he : body (st n) = some (.inr e)) : z_lp body s0 = some e := by
  rw [h0]; exact z_for st n e hs he
theorem va_uu {α : Type} {f : Nat → α} {k : Nat} {a b : α} : va_up (va_up f k a) k b = va_up f k b := by
  funext j
  unfold va_up
  by_cases h : j = k
  · rw [if_pos h, if_pos h]
  · rw [if_neg h, if_neg h, if_neg h]
theorem mo_shift (w : Nat → Int32) : z_lp (S := Int32 × (Nat → Int32)) (E := (Nat → Int32)) (fun s8 =>
  if ((308 : Int32) ≤ s8.1) then
  (some (.inr s8.2)) else
  (z_lt (((88 : Int32) + s8.1)) fun x14 =>
  z_gd (z_in x14 1960) <|
  z_lt ((s8.2 x14.toNatClampNeg)) fun x16 =>
  z_lt (((44 : Int32) + s8.1)) fun x17 =>
  z_gd (z_in x17 1960) <|
  z_lt ((upd s8.2 x17.toNatClampNeg x16)) fun a19 =>
  z_lt (s8.1 + (1 : Int32)) fun x20 =>
  some (.inl (x20, a19)))) ((0 : Int32), w) = some (va_cpy w w 88 44 308) := by
  have h0 : va_cpy w w 88 44 0 = w := funext fun j => pk_cpy_out (by omega)
  refine z_forS (fun i => (nI i, va_cpy w w 88 44 i)) 308 (va_cpy w w 88 44 308) (by rw [h0]; rfl) ?_ ?_
  · intro i hi
    simp (disch := omega) only [li_308, li_88, li_44, li_1, nI_leI, if_neg, z_lt, nI_add, z_in_n, z_gd_tt, nI_clamp, pk_cpy_out]
    congr 3
    funext j
    unfold upd
    by_cases hj : j = 44 + i
    · rw [if_pos hj, hj, pk_cpy_in (by omega) (by omega)]
      congr 1
      omega
    · rw [if_neg hj]
      by_cases h2 : 44 ≤ j ∧ j < 44 + i
      · rw [pk_cpy_in h2.1 h2.2, pk_cpy_in h2.1 (by omega)]
      · rw [pk_cpy_out (by omega), pk_cpy_out (by omega)]
  · show (if (308 : Int32) ≤ nI 308 then _ else _) = _
    rw [if_pos (by decide)]
/-- the first is forgotten, where 8 are -/
theorem mo_drop {w v : Nat → Int32} {f : Nat → Nat → Int32} {n : DD} {P : Nat → DD} (h : RC w 0 v f n P) (hv : v 2 = nI 8) : w 396 = nI 8 ∧ RC (upd (va_cpy w w 88 44 308) 396 (nI 7)) 0 (va_up v 2 (nI 7)) f n (drot P) := by
  obtain ⟨np, nc, nb', nn, nm, hnp, hnc, hnb, hnn, hnm, e0, w418, e1, w422, e2, w396, e3, w447, e4, w478, hpl, hck, hD, hPP, hno, hma⟩ := h
  have : nb' = 8 := (nI_eq (by omega) (by omega)).mp (e2.symm.trans hv)
  subst this
  simp only [Nat.zero_add] at w396
  refine ⟨w396, ?_⟩
  generalize hw' : upd (va_cpy w w 88 44 308) 396 (nI 7) = w'
  have ho : ∀ j, j ≠ 396 → (j < 44 ∨ 352 ≤ j) → w' j = w j := by
    intro j h1 h2
    rw [← hw', ud_n h1, pk_cpy_out (by omega)]
  have hin : ∀ j, j < 308 → w' (44 + j) = w (88 + j) := by
    intro j hj
    rw [← hw', ud_n (by omega), pk_cpy_in (by omega) (by omega)]; congr 1; omega
  refine ⟨np, nc, 7, nn, nm, hnp, hnc, by omega, hnn, hnm, e0, ?_, e1, ?_, rfl, ?_, e3, ?_, e4, ?_, ?_, ?_, ?_, ?_, ?_, ?_⟩
  · rw [Nat.zero_add, ho _ (by omega) (by omega), ← w418, Nat.zero_add]
  · rw [Nat.zero_add, ho _ (by omega) (by omega), ← w422, Nat.zero_add]
  · rw [Nat.zero_add, ← hw']; exact ud_s
  · rw [Nat.zero_add, ho _ (by omega) (by omega), ← w447, Nat.zero_add]
  · rw [Nat.zero_add, ho _ (by omega) (by omega), ← w478, Nat.zero_add]
  · exact (RP_w hnp hnc (fun j h1 h2 => ho _ (by omega) (by omega)) (⟨hpl, hck⟩ : RP w 0 np nc f)).1
  · exact (RP_w hnp hnc (fun j h1 h2 => ho _ (by omega) (by omega)) (⟨hpl, hck⟩ : RP w 0 np nc f)).2
  · exact RD_w hnc (fun j hj => ho _ (by omega) (by omega)) hD
  · intro i hi
    have e : drot P i = P (i + 1) := by unfold drot; rw [if_pos hi]
    rw [e]
    exact RDg_to (RDg_cp (u := 0 + 44 + 44 * (i + 1)) hnc (fun j hj => by rw [show 0 + 44 + 44 * i + j = 44 + (44 * i + j) by omega, hin _ (by omega)]; congr 1; omega) (fun j hj => rfl) (fun j hj => rfl) (fun j hj => rfl) rfl rfl (RDg_of (hPP (i + 1) (by omega))))
  · exact RN_w hnn (fun j h1 h2 => ho _ (by omega) (by omega)) hno
  · exact RM_w hnm (fun j h1 h2 => ho _ (by omega) (by omega)) hma
theorem mo_remember {w v : Nat → Int32} {f : Nat → Nat → Int32} {n : DD} {P : Nat → DD} (h : RC w 0 v f n P) : ∃ (w' : Nat → Int32) (b : Int32) (P' : Nat → DD), p_X8_remember w = some w' ∧ p_X0_remember (v 2) n.2.2.2.2.2.2.2.1 n.2.2.2.2.2.2.2.2 n.2.2.2.2.1 n.2.2.2.2.2.1 n.2.2.2.2.2.2.1 P = some (b, P') ∧ RC w' 0 (va_up v 2 b) f n P' ∧ ∀ j, j < 44 ∨ 397 ≤ j → w' j = w j := by
  obtain ⟨nb, hnb, e2⟩ : ∃ nb : Nat, nb ≤ 8 ∧ v 2 = nI nb := by
    obtain ⟨np, nc, nb', nn, nm, hnp, hnc, hnb, hnn, hnm, e0, w418, e1, w422, e2, -⟩ := h
    exact ⟨nb', hnb, e2⟩
  have c8 : ∀ (w : Nat → Int32) (k : Nat), k < 8 → p_X8_copyRow w (0 : Int32) (nI (44 + 44 * k)) (44 : Int32) = some (va_cpy w w 0 (44 + 44 * k) 44) := by
    intro w k hk
    exact p8_copyRow w (x := 0) (y := 44 + 44 * k) (m := 44) (by omega) (by omega) (by omega)
  by_cases h8 : nb = 8
  · subst h8
    obtain ⟨w396, hC⟩ := mo_drop h e2
    generalize hw1 : upd (va_cpy w w 88 44 308) 396 (nI 7) = w1 at hC
    obtain ⟨w1396, hC2⟩ := mo_rem1 hC (nb := 7) rfl (by omega)
    rw [va_uu] at hC2
    refine ⟨upd (va_cpy w1 w1 0 (44 + 44 * 7) 44) 396 (nI 8), nI 8, _, ?_, ?_, hC2, ?_⟩
    · unfold p_X8_remember
      simp only [w396, show nI 8 = (8 : Int32) from rfl, if_true]
      rw [z_bd_s (mo_shift w)]
      have e396 : va_cpy w w 88 44 308 396 = nI 8 := by rw [pk_cpy_out (by omega)]; exact w396
      simp only [z_lt, e396, show nI 8 - (1 : Int32) = nI 7 from by decide, hw1, z_bd_some, w1396]
      rw [show (44 : Int32) + (44 : Int32) * nI 7 = nI (44 + 44 * 7) from by decide, c8 w1 7 (by omega)]
      simp only [z_bd_some]
      have e2 : va_cpy w1 w1 0 (44 + 44 * 7) 44 396 = nI 7 := by rw [pk_cpy_out (by omega)]; exact w1396
      rw [e2]
      rfl
    · unfold p_X0_remember
      rw [e2]
      simp only [show ¬ nI 8 < (8 : Int32) from by decide, if_false, p_X0_dropFirstPast, z_bd_some, p_X1_become, z_lt]
      rfl
    · intro j hj
      by_cases q : j = 396
      · omega
      · rw [ud_n q, pk_cpy_out (by omega), ← hw1, ud_n q, pk_cpy_out (by omega)]
  · obtain ⟨w396, hC⟩ := mo_rem1 h e2 (by omega)
    refine ⟨_, nI (nb + 1), _, ?_, ?_, hC, ?_⟩
    · unfold p_X8_remember
      have g : ¬ nI nb = (8 : Int32) := nI_ne (b := 8) (by omega) (by decide) h8
      simp only [w396, g, if_false, z_bd_some, z_lt]
      rw [show (44 : Int32) + (44 : Int32) * nI nb = nI (44 + 44 * nb) by rw [li_44, pk_mul, nI_add], c8 w nb (by omega)]
      simp only [z_bd_some]
      have e2 : va_cpy w w 0 (44 + 44 * nb) 44 396 = nI nb := by rw [pk_cpy_out (by omega)]; exact w396
      rw [e2, nI_1]
    · unfold p_X0_remember
      rw [e2]
      have g : nI nb < (8 : Int32) := (nI_ltI (b := 8) (by omega) (by decide)).mpr (by omega)
      have i8 : z_in (nI nb) 8 = true := z_in_n (by omega) (by decide)
      simp only [g, if_true, z_bd_some, p_X1_become, z_lt, i8, z_gd_tt, nI_clamp (show nb < 2 ^ 31 by omega), nI_1]
    · intro j hj
      rw [ud_n (by omega), pk_cpy_out (by omega)]
