/-! Pieces of a country; notes and marks. -/
def RN (w : Nat → Int32) (s nn : Nat) (F : Nat → Int32) : Prop := ∀ k, k < nn → F (5 * k) = w (s + 423 + 4 * k) ∧ F (5 * k + 1) = w (s + 424 + 4 * k) ∧ F (5 * k + 2) = w (s + 425 + 4 * k) ∧ F (5 * k + 3) = 0 ∧ F (5 * k + 4) = w (s + 426 + 4 * k)
def RM (w : Nat → Int32) (s nm : Nat) (G : Nat → Int32) : Prop := ∀ j, j < 5 * nm → G j = w (s + 448 + j)
theorem RP_w {w w' : Nat → Int32} {s np nc : Nat} {f : Nat → Nat → Int32} (hnp : np ≤ 7) (hnc : nc ≤ 3) (hw : ∀ j, 397 ≤ j → j < 422 → w' (s + j) = w (s + j)) (h : RP w s np nc f) : RP w' s np nc f := by
  refine ⟨fun p hp => ?_, fun c hc => ?_⟩
  · obtain ⟨k, x, y, h1, h2, h3, h4, h5, h6, h7, h8, h9⟩ := h.1 p hp
    refine ⟨k, x, y, h1, h2, h3, h4, ?_, h6, ?_, h8, ?_⟩
    · rw [← h5, Nat.add_assoc, hw _ (by omega) (by omega)]
    · rw [← h7, Nat.add_assoc, hw _ (by omega) (by omega)]
    · rw [← h9, Nat.add_assoc, hw _ (by omega) (by omega)]
  · obtain ⟨k, h1, h2, h3⟩ := h.2 c hc
    exact ⟨k, h1, h2, by rw [← h3, Nat.add_assoc, hw _ (by omega) (by omega)]⟩
theorem RN_w {w w' : Nat → Int32} {s nn : Nat} {F : Nat → Int32} (hnn : nn ≤ 6) (hw : ∀ j, 423 ≤ j → j < 447 → w' (s + j) = w (s + j)) (h : RN w s nn F) : RN w' s nn F := by
  intro k hk
  obtain ⟨h1, h2, h3, h4, h5⟩ := h k hk
  refine ⟨?_, ?_, ?_, h4, ?_⟩
  · rw [h1, Nat.add_assoc, hw _ (by omega) (by omega)]
  · rw [h2, Nat.add_assoc, hw _ (by omega) (by omega)]
  · rw [h3, Nat.add_assoc, hw _ (by omega) (by omega)]
  · rw [h5, Nat.add_assoc, hw _ (by omega) (by omega)]
theorem RM_w {w w' : Nat → Int32} {s nm : Nat} {G : Nat → Int32} (hnm : nm ≤ 6) (hw : ∀ j, 448 ≤ j → j < 478 → w' (s + j) = w (s + j)) (h : RM w s nm G) : RM w' s nm G := by
  intro j hj
  rw [h j hj, Nat.add_assoc, hw _ (by omega) (by omega)]
theorem p7_isDayHour (c : Int32) : p_X7_isDayHour c = some (b2 (z_in c 24)) := by
  simp only [p_X7_isDayHour, p7_within, z_rg23, z_bd_some, b2_bz, z_gd_tt]
theorem p6_isFull {n : Nat} (hn : n ≤ 6) : p_X6_isFull (nI n) = some (b2 (decide (n = 6))) := by
  unfold p_X6_isFull
  by_cases h : n = 6
  · subst h; rfl
  · rw [if_pos (show nI n < (6 : Int32) from (nI_ltI (b := 6) (by omega) (by decide)).mpr (by omega)), decide_eq_false h]; rfl
theorem p6_add {n : Nat} (hn : n < 6) (F : Nat → Int32) (a b c d e : Int32) : p_X6_add (nI n) F a b c d e = some (nI (n + 1), nI (n + 1), upd (upd (upd (upd (upd F (n * 5) a) (n * 5 + 1) b) (n * 5 + 2) c) (n * 5 + 3) d) (n * 5 + 4) e) := by
  have h : ¬ n = 6 := by omega
  simp (disch := omega) only [p_X6_add, p6_isFull (n := n) (by omega), decide_eq_false h, z_bd_some, b2_f, if_true, z_lt, li_1, li_2, li_3, li_4, li_5, nI_add, pk_mul, z_in_n, z_gd_tt, nI_clamp]
theorem q_20 {x : Nat → Int32} {v : Nat → Int32} {f : Nat → Nat → Int32} {n : DD} {P : Nat → DD} {kf : Nat → Int32} {tf : Nat → Int32} {v0 : Nat → Int32} {f0 : Nat → Nat → Int32} {n0 : DD} {P0 : Nat → DD} {v1 : Nat → Int32} {f1 : Nat → Nat → Int32} {n1 : DD} {P1 : Nat → DD} {mv : Nat → Int32} {ma : Int64} {mb : Int64} {w : Nat → Int32} {tx : Nat → Int32} (hR : RelX x v f n P kf tf v0 f0 n0 P0 v1 f1 n1 P1 mv ma mb w tx) (c1 : Int32) (c2 : Int32) (c3 : Int32) (c4 : Int32) : ∃ (r7 : Int32 × Int32 × Int32 × Int32 × (Nat → Int32)) (r8 : Int32 × Int32 × Int32 × (Nat → Int32)), p_X7_note (x 3) (x 5) (v 0) (v 3) (f 4) c1 c2 c3 c4 = some r7 ∧ p_X8_note (mv 2) (mv 4) w c1 c2 c3 c4 = some r8 ∧ r7.1 = r8.1 ∧ RelX (va_up (va_up x 3 r7.2.1) 5 r7.2.2.1) (va_up v 3 r7.2.2.2.1) (va_up f 4 r7.2.2.2.2) n P kf tf v0 f0 n0 P0 v1 f1 n1 P1 (va_up (va_up mv 2 r8.2.1) 4 r8.2.2.1) ma mb r8.2.2.2 tx := by
  obtain ⟨hC, hRR⟩ := hR
  obtain ⟨ht, hb, hno', hfu, hrest⟩ := id hRR
  obtain ⟨np, nc, nb, nn, nm, hnp, hnc, hnb, hnn, hnm, e0, w418, e1, w422, e2, w396, e3, w447, e4, w478, hpl, hck, hD, hPP, hno, hma⟩ := id hC
  simp only [Nat.zero_add] at w418 w422 w396 w447 w478
  simp only [p_X7_note, p_X8_note, p7_isDayHour, p7_within, p8_in, z_bd_some, z_rg500, z_rg23, z_rg900, p_X7_refuseBad, p_X8_bad, p_X7_refuseFull, p_X8_full, z_lt, hb, hfu, e0, p0_hasPlace (n := np) (by omega), p8_isPlace w418 (by omega)]
  cases h1 : z_in c1 np
  · simp only [b2_f0, if_true, va_id]
    exact ⟨_, _, rfl, rfl, rfl, hC, ht, rfl, hno', rfl, hrest⟩
  cases h2 : z_in c2 501
  · simp only [b2_f0, b2_t0, if_true, if_false, va_id]
    exact ⟨_, _, rfl, rfl, rfl, hC, ht, rfl, hno', rfl, hrest⟩
  cases h3 : z_in c3 24
  · simp only [b2_f0, b2_t0, if_true, if_false, va_id]
    exact ⟨_, _, rfl, rfl, rfl, hC, ht, rfl, hno', rfl, hrest⟩
  cases h4 : z_in c4 901
  · simp only [b2_f0, b2_t0, if_true, if_false, va_id]
    exact ⟨_, _, rfl, rfl, rfl, hC, ht, rfl, hno', rfl, hrest⟩
  simp only [b2_t0, if_false]
  by_cases h7 : nn = 6
  · have g2 : w 447 = (6 : Int32) := by rw [w447, h7]; rfl
    have g1 : p_X6_isFull (v 3) = some (b2 true) := by rw [e3, p6_isFull hnn, h7]; rfl
    simp only [g1, g2, z_bd_some, b2_t0, if_false, if_true, va_id]
    exact ⟨_, _, rfl, rfl, rfl, hC, ht, rfl, hno', rfl, hrest⟩
  · have g2 : ¬ w 447 = (6 : Int32) := by rw [w447]; exact nI_ne (b := 6) (by omega) (by decide) h7
    have g1 : p_X6_isFull (v 3) = some (b2 false) := by rw [e3, p6_isFull hnn, decide_eq_false h7]
    have h8 : ∃ w', (upd (upd (upd (upd (upd w (423 + 4 * nn) c1) (423 + 4 * nn + 1) c2) (423 + 4 * nn + 2) c3) (423 + 4 * nn + 3) c4) 447 (nI (nn + 1))) = w' := ⟨_, rfl⟩
    obtain ⟨w', hw'⟩ := h8
    simp only [g1, g2, z_bd_some, b2_f0, if_true, if_false]
    simp (disch := omega) only [e3, w447, p6_add, li_1, li_2, li_3, li_4, li_423, nI_add, pk_mul, z_in_n, z_gd_tt, nI_clamp, ud_n, ud_s, z_bd_some, hw']
    refine ⟨_, _, rfl, rfl, rfl, ⟨np, nc, nb, nn + 1, nm, hnp, hnc, hnb, by omega, hnm, e0, ?_, e1, ?_, e2, ?_, rfl, ?_, e4, ?_, ?_, ?_, ?_, ?_, ?_, ?_⟩, RR_w (fun j h1 h2 => ?_) ⟨ht, rfl, hno', rfl, hrest⟩⟩
    · rw [← hw', Nat.zero_add]; simp (disch := omega) only [ud_n, w418]
    · rw [← hw', Nat.zero_add]; simp (disch := omega) only [ud_n, w422]
    · rw [← hw', Nat.zero_add]; simp (disch := omega) only [ud_n, w396]
    · rw [← hw', Nat.zero_add]; simp only [ud_s]
    · rw [← hw', Nat.zero_add]; simp (disch := omega) only [ud_n, w478]
    · exact (RP_w hnp hnc (fun j h1 h2 => by rw [← hw']; simp (disch := omega) only [ud_n]) (⟨hpl, hck⟩ : RP w 0 np nc f)).1
    · exact (RP_w hnp hnc (fun j h1 h2 => by rw [← hw']; simp (disch := omega) only [ud_n]) (⟨hpl, hck⟩ : RP w 0 np nc f)).2
    · exact RD_w hnc (fun j hj => by rw [← hw']; simp (disch := omega) only [ud_n]) hD
    · intro i hi
      exact RD_w hnc (fun j hj => by rw [← hw']; simp (disch := omega) only [ud_n]) (hPP i hi)
    · intro k hk
      rw [← hw']
      show upd (upd (upd (upd (upd (f 4) (nn * 5) c1) (nn * 5 + 1) c2) (nn * 5 + 2) c3) (nn * 5 + 3) 0) (nn * 5 + 4) c4 (5 * k) = _ ∧ upd (upd (upd (upd (upd (f 4) (nn * 5) c1) (nn * 5 + 1) c2) (nn * 5 + 2) c3) (nn * 5 + 3) 0) (nn * 5 + 4) c4 (5 * k + 1) = _ ∧ upd (upd (upd (upd (upd (f 4) (nn * 5) c1) (nn * 5 + 1) c2) (nn * 5 + 2) c3) (nn * 5 + 3) 0) (nn * 5 + 4) c4 (5 * k + 2) = _ ∧ upd (upd (upd (upd (upd (f 4) (nn * 5) c1) (nn * 5 + 1) c2) (nn * 5 + 2) c3) (nn * 5 + 3) 0) (nn * 5 + 4) c4 (5 * k + 3) = _ ∧ upd (upd (upd (upd (upd (f 4) (nn * 5) c1) (nn * 5 + 1) c2) (nn * 5 + 2) c3) (nn * 5 + 3) 0) (nn * 5 + 4) c4 (5 * k + 4) = _
      rcases (show k < nn ∨ k = nn by omega) with hk | rfl
      · obtain ⟨h1, h2, h3, h4, h5⟩ := hno k hk
        simp only [Nat.zero_add] at h1 h2 h3 h5
        refine ⟨?_, ?_, ?_, ?_, ?_⟩ <;> simp (disch := omega) only [ud_n, Nat.zero_add, h1, h2, h3, h4, h5]
      · refine ⟨?_, ?_, ?_, ?_, ?_⟩ <;> simp (disch := omega) only [ud_e, ud_n, Nat.zero_add]
    · exact RM_w hnm (fun j h1 h2 => by rw [← hw']; simp (disch := omega) only [ud_n]) hma
    · rw [← hw']; simp (disch := omega) only [ud_n]
theorem q_21 {x : Nat → Int32} {v : Nat → Int32} {f : Nat → Nat → Int32} {n : DD} {P : Nat → DD} {kf : Nat → Int32} {tf : Nat → Int32} {v0 : Nat → Int32} {f0 : Nat → Nat → Int32} {n0 : DD} {P0 : Nat → DD} {v1 : Nat → Int32} {f1 : Nat → Nat → Int32} {n1 : DD} {P1 : Nat → DD} {mv : Nat → Int32} {ma : Int64} {mb : Int64} {w : Nat → Int32} {tx : Nat → Int32} (hR : RelX x v f n P kf tf v0 f0 n0 P0 v1 f1 n1 P1 mv ma mb w tx) (c1 : Int32) (c2 : Int32) (c3 : Int32) (c4 : Int32) (c5 : Int32) : ∃ (r7 : Int32 × Int32 × Int32 × Int32 × (Nat → Int32)) (r8 : Int32 × Int32 × Int32 × (Nat → Int32)), p_X7_mark (x 3) (x 5) (v 1) (v 4) (f 5) c1 c2 c3 c4 c5 = some r7 ∧ p_X8_mark (mv 2) (mv 4) w c1 c2 c3 c4 c5 = some r8 ∧ r7.1 = r8.1 ∧ RelX (va_up (va_up x 3 r7.2.1) 5 r7.2.2.1) (va_up v 4 r7.2.2.2.1) (va_up f 5 r7.2.2.2.2) n P kf tf v0 f0 n0 P0 v1 f1 n1 P1 (va_up (va_up mv 2 r8.2.1) 4 r8.2.2.1) ma mb r8.2.2.2 tx := by
  obtain ⟨hC, hRR⟩ := hR
  obtain ⟨ht, hb, hno', hfu, hrest⟩ := id hRR
  obtain ⟨np, nc, nb, nn, nm, hnp, hnc, hnb, hnn, hnm, e0, w418, e1, w422, e2, w396, e3, w447, e4, w478, hpl, hck, hD, hPP, hno, hma⟩ := id hC
  simp only [Nat.zero_add] at w418 w422 w396 w447 w478
  simp only [p_X7_mark, p_X8_mark, p7_isDayHour, p7_within, p8_in, z_bd_some, z_rg500, z_rg23, z_rg18, z_rg99, p_X7_refuseBad, p_X8_bad, p_X7_refuseFull, p_X8_full, z_lt, hb, hfu, e1, p0_hasCrow (n := nc) (by omega), p8_isCrow w422 (by omega)]
  cases h1 : z_in c1 nc
  · simp only [b2_f0, if_true, va_id]
    exact ⟨_, _, rfl, rfl, rfl, hC, ht, rfl, hno', rfl, hrest⟩
  cases h2 : z_in c2 19
  · simp only [b2_f0, b2_t0, if_true, if_false, va_id]
    exact ⟨_, _, rfl, rfl, rfl, hC, ht, rfl, hno', rfl, hrest⟩
  cases h3 : z_in c3 24
  · simp only [b2_f0, b2_t0, if_true, if_false, va_id]
    exact ⟨_, _, rfl, rfl, rfl, hC, ht, rfl, hno', rfl, hrest⟩
  cases h4 : z_in c4 100
  · simp only [b2_f0, b2_t0, if_true, if_false, va_id]
    exact ⟨_, _, rfl, rfl, rfl, hC, ht, rfl, hno', rfl, hrest⟩
  cases h5 : z_in c5 501
  · simp only [b2_f0, b2_t0, if_true, if_false, va_id]
    exact ⟨_, _, rfl, rfl, rfl, hC, ht, rfl, hno', rfl, hrest⟩
  simp only [b2_t0, if_false]
  by_cases h7 : nm = 6
  · have g2 : w 478 = (6 : Int32) := by rw [w478, h7]; rfl
    have g1 : p_X6_isFull (v 4) = some (b2 true) := by rw [e4, p6_isFull hnm, h7]; rfl
    simp only [g1, g2, z_bd_some, b2_t0, if_false, if_true, va_id]
    exact ⟨_, _, rfl, rfl, rfl, hC, ht, rfl, hno', rfl, hrest⟩
  · have g2 : ¬ w 478 = (6 : Int32) := by rw [w478]; exact nI_ne (b := 6) (by omega) (by decide) h7
    have g1 : p_X6_isFull (v 4) = some (b2 false) := by rw [e4, p6_isFull hnm, decide_eq_false h7]
    have h8 : ∃ w', (upd (upd (upd (upd (upd (upd w (448 + 5 * nm) c1) (448 + 5 * nm + 1) c2) (448 + 5 * nm + 2) c3) (448 + 5 * nm + 3) c4) (448 + 5 * nm + 4) c5) 478 (nI (nm + 1))) = w' := ⟨_, rfl⟩
    obtain ⟨w', hw'⟩ := h8
    simp only [g1, g2, z_bd_some, b2_f0, if_true, if_false]
    simp (disch := omega) only [e4, w478, p6_add, li_1, li_2, li_3, li_4, li_5, li_448, nI_add, pk_mul, z_in_n, z_gd_tt, nI_clamp, ud_n, ud_s, z_bd_some, hw']
    refine ⟨_, _, rfl, rfl, rfl, ⟨np, nc, nb, nn, nm + 1, hnp, hnc, hnb, hnn, by omega, e0, ?_, e1, ?_, e2, ?_, e3, ?_, rfl, ?_, ?_, ?_, ?_, ?_, ?_, ?_⟩, RR_w (fun j h1 h2 => ?_) ⟨ht, rfl, hno', rfl, hrest⟩⟩
    · rw [← hw', Nat.zero_add]; simp (disch := omega) only [ud_n, w418]
    · rw [← hw', Nat.zero_add]; simp (disch := omega) only [ud_n, w422]
    · rw [← hw', Nat.zero_add]; simp (disch := omega) only [ud_n, w396]
    · rw [← hw', Nat.zero_add]; simp (disch := omega) only [ud_n, w447]
    · rw [← hw', Nat.zero_add]; simp only [ud_s]
    · exact (RP_w hnp hnc (fun j h1 h2 => by rw [← hw']; simp (disch := omega) only [ud_n]) (⟨hpl, hck⟩ : RP w 0 np nc f)).1
    · exact (RP_w hnp hnc (fun j h1 h2 => by rw [← hw']; simp (disch := omega) only [ud_n]) (⟨hpl, hck⟩ : RP w 0 np nc f)).2
    · exact RD_w hnc (fun j hj => by rw [← hw']; simp (disch := omega) only [ud_n]) hD
    · intro i hi
      exact RD_w hnc (fun j hj => by rw [← hw']; simp (disch := omega) only [ud_n]) (hPP i hi)
    · exact RN_w hnn (fun j h1 h2 => by rw [← hw']; simp (disch := omega) only [ud_n]) hno
    · intro j hj
      rw [← hw']
      show upd (upd (upd (upd (upd (f 5) (nm * 5) c1) (nm * 5 + 1) c2) (nm * 5 + 2) c3) (nm * 5 + 3) c4) (nm * 5 + 4) c5 j = _
      rcases (show j < 5 * nm ∨ j = nm * 5 ∨ j = nm * 5 + 1 ∨ j = nm * 5 + 2 ∨ j = nm * 5 + 3 ∨ j = nm * 5 + 4 by omega) with hj | rfl | rfl | rfl | rfl | rfl
      · have := hma j hj
        simp only [Nat.zero_add] at this
        simp (disch := omega) only [ud_n, Nat.zero_add, this]
      all_goals simp (disch := omega) only [ud_e, ud_n, Nat.zero_add]
    · rw [← hw']; simp (disch := omega) only [ud_n]
