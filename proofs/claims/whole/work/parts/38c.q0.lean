/-! The calls country, place, crow, type. -/
theorem p7_isKind (c : Int32) : p_X7_isKind c = some (b2 (z_in c 6)) := by
  simp only [p_X7_isKind, p7_within, z_rg5, z_bd_some, b2_bz, z_gd_tt]
theorem q_0 {x : Nat → Int32} {v : Nat → Int32} {f : Nat → Nat → Int32} {n : DD} {P : Nat → DD} {kf : Nat → Int32} {tf : Nat → Int32} {v0 : Nat → Int32} {f0 : Nat → Nat → Int32} {n0 : DD} {P0 : Nat → DD} {v1 : Nat → Int32} {f1 : Nat → Nat → Int32} {n1 : DD} {P1 : Nat → DD} {mv : Nat → Int32} {ma : Int64} {mb : Int64} {w : Nat → Int32} {tx : Nat → Int32} (hR : RelX x v f n P kf tf v0 f0 n0 P0 v1 f1 n1 P1 mv ma mb w tx) : ∃ (r7 : Int32 × Int32 × Int32 × Int32 × Int32 × Int32 × Int32 × Int32) (r8 : Int32 × (Nat → Int32)), p_X7_country (v 0) (v 1) (v 2) n.2.2.2.2.2.2.2.1 n.2.2.2.2.2.2.2.2 (v 3) (v 4) = some r7 ∧ p_X8_country w = some r8 ∧ r7.1 = r8.1 ∧ RelX x (va_up (va_up (va_up (va_up (va_up v 0 r7.2.1) 1 r7.2.2.1) 2 r7.2.2.2.1) 3 r7.2.2.2.2.2.2.1) 4 r7.2.2.2.2.2.2.2) f (n.1, n.2.1, n.2.2.1, n.2.2.2.1, n.2.2.2.2.1, n.2.2.2.2.2.1, n.2.2.2.2.2.2.1, r7.2.2.2.2.1, r7.2.2.2.2.2.1) P kf tf v0 f0 n0 P0 v1 f1 n1 P1 mv ma mb r8.2 tx := by
  obtain ⟨hC, hRR⟩ := hR
  have hv0 : v 0 = w 418 := by
    obtain ⟨np, nc, nb, nn, nm, hnp, hnc, hnb, hnn, hnm, e0, w418, e1, w422, e2, w396, e3, w447, e4, w478, hpl, hck, hD, hPP, hno, hma⟩ := hC
    rw [e0, ← w418, Nat.zero_add]
  have h8 : p_X8_country w = some (w 418, fun j => if 0 ≤ j ∧ j < 0 + 479 then 0 else w j) := by
    have := p8_clearRow w (s := 0) (by omega)
    rw [ni0] at this
    simp only [p_X8_country, z_lt, this, z_bd_some]
  refine ⟨_, _, rfl, h8, hv0, RC_0 (fun j hj => if_pos (by omega)) rfl rfl rfl rfl rfl rfl rfl, RR_w (fun j h1 h2 => if_neg (by omega)) hRR⟩
theorem q_1 {x : Nat → Int32} {v : Nat → Int32} {f : Nat → Nat → Int32} {n : DD} {P : Nat → DD} {kf : Nat → Int32} {tf : Nat → Int32} {v0 : Nat → Int32} {f0 : Nat → Nat → Int32} {n0 : DD} {P0 : Nat → DD} {v1 : Nat → Int32} {f1 : Nat → Nat → Int32} {n1 : DD} {P1 : Nat → DD} {mv : Nat → Int32} {ma : Int64} {mb : Int64} {w : Nat → Int32} {tx : Nat → Int32} (hR : RelX x v f n P kf tf v0 f0 n0 P0 v1 f1 n1 P1 mv ma mb w tx) (c1 : Int32) (c2 : Int32) (c3 : Int32) : ∃ (r7 : Int32 × Int32 × Int32 × Int32 × Int32 × (Nat → Int32) × (Nat → Int32) × (Nat → Int32)) (r8 : Int32 × Int32 × Int32 × (Nat → Int32)), p_X7_place (x 3) (x 5) (v 0) (v 2) (f 0) (f 1) (f 2) c1 c2 c3 = some r7 ∧ p_X8_place (mv 2) (mv 4) w c1 c2 c3 = some r8 ∧ r7.1 = r8.1 ∧ RelX (va_up (va_up x 3 r7.2.1) 5 r7.2.2.1) (va_up (va_up v 0 r7.2.2.2.1) 2 r7.2.2.2.2.1) (va_up (va_up (va_up f 0 r7.2.2.2.2.2.1) 1 r7.2.2.2.2.2.2.1) 2 r7.2.2.2.2.2.2.2) n P kf tf v0 f0 n0 P0 v1 f1 n1 P1 (va_up (va_up mv 2 r8.2.1) 4 r8.2.2.1) ma mb r8.2.2.2 tx := by
  obtain ⟨hC, hRR⟩ := hR
  obtain ⟨ht, hb, hno', hfu, hrest⟩ := id hRR
  obtain ⟨np, nc, hnp, hnc, e0, w418, e1, w422, hP, hD⟩ := RC_get hC
  simp only [p_X7_place, p_X8_place, p7_isKind, p7_within, p8_in, z_bd_some, z_rg5, z_rg9, p_X7_refuseBad, p_X8_bad, p_X7_refuseFull, p_X8_full, z_lt, hb, hfu]
  cases h1 : z_in c1 6
  · simp only [b2_f0, if_true, va_id]
    exact ⟨_, _, rfl, rfl, rfl, hC, ht, rfl, hno', rfl, hrest⟩
  cases h2 : z_in c2 10
  · simp only [b2_f0, b2_t0, if_true, if_false, va_id]
    exact ⟨_, _, rfl, rfl, rfl, hC, ht, rfl, hno', rfl, hrest⟩
  cases h3 : z_in c3 10
  · simp only [b2_f0, b2_t0, if_true, if_false, va_id]
    exact ⟨_, _, rfl, rfl, rfl, hC, ht, rfl, hno', rfl, hrest⟩
  obtain ⟨k, hk, rfl⟩ := (z_in_iff (by omega)).mp h1
  obtain ⟨xx, hx, rfl⟩ := (z_in_iff (by omega)).mp h2
  obtain ⟨yy, hy, rfl⟩ := (z_in_iff (by omega)).mp h3
  by_cases h7 : np = 7
  · have g1 : ¬ v 0 < (7 : Int32) := by rw [e0, h7]; decide
    have g2 : w 418 = (7 : Int32) := by rw [w418, h7]; rfl
    simp only [b2_t0, if_false, g1, g2, if_true, z_bd_some, va_id]
    exact ⟨_, _, rfl, rfl, rfl, hC, ht, rfl, hno', rfl, hrest⟩
  · have g1 : v 0 < (7 : Int32) := by rw [e0]; exact (nI_ltI (b := 7) (by omega) (by decide)).mpr (by omega)
    have g2 : ¬ w 418 = (7 : Int32) := by rw [w418]; exact nI_ne (b := 7) (by omega) (by decide) h7
    obtain ⟨w', p8, p7, hC', hfr⟩ := mo_place (s := 0) (by omega) hC hk hx hy e0 (by omega)
    rw [ni0] at p8
    simp only [b2_t0, if_false, g1, g2, if_true, z_bd_some, p8, p7]
    exact ⟨_, _, rfl, rfl, rfl, hC', RR_w (fun j h1 h2 => hfr j (Or.inr (by omega))) ⟨ht, rfl, hno', rfl, hrest⟩⟩
theorem q_2 {x : Nat → Int32} {v : Nat → Int32} {f : Nat → Nat → Int32} {n : DD} {P : Nat → DD} {kf : Nat → Int32} {tf : Nat → Int32} {v0 : Nat → Int32} {f0 : Nat → Nat → Int32} {n0 : DD} {P0 : Nat → DD} {v1 : Nat → Int32} {f1 : Nat → Nat → Int32} {n1 : DD} {P1 : Nat → DD} {mv : Nat → Int32} {ma : Int64} {mb : Int64} {w : Nat → Int32} {tx : Nat → Int32} (hR : RelX x v f n P kf tf v0 f0 n0 P0 v1 f1 n1 P1 mv ma mb w tx) (c1 : Int32) (c2 : Int32) : ∃ (r7 : Int32 × Int32 × Int32 × Int32 × Int32 × (Nat → Int32) × (Nat → Int32) × (Nat → Int32)) (r8 : Int32 × Int32 × Int32 × (Nat → Int32)), p_X7_crow (x 3) (x 5) (v 0) (v 1) (v 2) (f 3) n.2.2.2.2.1 n.2.2.2.2.2.1 c1 c2 = some r7 ∧ p_X8_crow (mv 2) (mv 4) w c1 c2 = some r8 ∧ r7.1 = r8.1 ∧ RelX (va_up (va_up x 3 r7.2.1) 5 r7.2.2.1) (va_up (va_up v 1 r7.2.2.2.1) 2 r7.2.2.2.2.1) (va_up f 3 r7.2.2.2.2.2.1) (n.1, n.2.1, n.2.2.1, n.2.2.2.1, r7.2.2.2.2.2.2.1, r7.2.2.2.2.2.2.2, n.2.2.2.2.2.2.1, n.2.2.2.2.2.2.2.1, n.2.2.2.2.2.2.2.2) P kf tf v0 f0 n0 P0 v1 f1 n1 P1 (va_up (va_up mv 2 r8.2.1) 4 r8.2.2.1) ma mb r8.2.2.2 tx := by
  obtain ⟨hC, hRR⟩ := hR
  obtain ⟨ht, hb, hno', hfu, hrest⟩ := id hRR
  obtain ⟨np, nc, hnp, hnc, e0, w418, e1, w422, hP, hD⟩ := RC_get hC
  simp only [p_X7_crow, p_X8_crow, p7_isKind, p8_in, z_bd_some, z_rg5, p_X7_refuseBad, p_X8_bad, p_X7_refuseFull, p_X8_full, z_lt, hb, hfu, e0, p0_hasPlace (n := np) (by omega), p8_isPlace w418 (by omega)]
  cases h1 : z_in c1 6
  · simp only [b2_f0, if_true, va_id]
    exact ⟨_, _, rfl, rfl, rfl, hC, ht, rfl, hno', rfl, hrest⟩
  cases h2 : z_in c2 np
  · simp only [b2_f0, b2_t0, if_true, if_false, va_id]
    exact ⟨_, _, rfl, rfl, rfl, hC, ht, rfl, hno', rfl, hrest⟩
  obtain ⟨k, hk, rfl⟩ := (z_in_iff (by omega)).mp h1
  obtain ⟨p, hp, rfl⟩ := (z_in_iff (by omega)).mp h2
  by_cases h7 : nc = 3
  · have g1 : ¬ v 1 < (3 : Int32) := by rw [e1, h7]; decide
    have g2 : w 422 = (3 : Int32) := by rw [w422, h7]; rfl
    simp only [b2_t0, if_false, g1, g2, if_true, z_bd_some, va_id]
    exact ⟨_, _, rfl, rfl, rfl, hC, ht, rfl, hno', rfl, hrest⟩
  · have g1 : v 1 < (3 : Int32) := by rw [e1]; exact (nI_ltI (b := 3) (by omega) (by decide)).mpr (by omega)
    have g2 : ¬ w 422 = (3 : Int32) := by rw [w422]; exact nI_ne (b := 3) (by omega) (by decide) h7
    obtain ⟨w', p8, p7, hC', hfr⟩ := mo_crow (s := 0) (by omega) hC hk e0 hnp hp e1 (by omega)
    rw [ni0] at p8
    simp only [b2_t0, if_false, g1, g2, if_true, z_bd_some, p8, p7]
    exact ⟨_, _, rfl, rfl, rfl, hC', RR_w (fun j h1 h2 => hfr j (Or.inr (by omega))) ⟨ht, rfl, hno', rfl, hrest⟩⟩
theorem q_3 {x : Nat → Int32} {v : Nat → Int32} {f : Nat → Nat → Int32} {n : DD} {P : Nat → DD} {kf : Nat → Int32} {tf : Nat → Int32} {v0 : Nat → Int32} {f0 : Nat → Nat → Int32} {n0 : DD} {P0 : Nat → DD} {v1 : Nat → Int32} {f1 : Nat → Nat → Int32} {n1 : DD} {P1 : Nat → DD} {mv : Nat → Int32} {ma : Int64} {mb : Int64} {w : Nat → Int32} {tx : Nat → Int32} (hR : RelX x v f n P kf tf v0 f0 n0 P0 v1 f1 n1 P1 mv ma mb w tx) (c1 : Int32) : ∃ (r7 : Int32 × Int32 × Int32 × Int32 × (Nat → Int32)) (r8 : Int32 × Int32 × Int32 × Int32 × (Nat → Int32)), p_X7_type (x 0) (x 3) (x 5) tf c1 = some r7 ∧ p_X8_type (mv 1) (mv 2) (mv 4) tx c1 = some r8 ∧ r7.1 = r8.1 ∧ RelX (va_up (va_up (va_up x 0 r7.2.1) 3 r7.2.2.1) 5 r7.2.2.2.1) v f n P kf r7.2.2.2.2 v0 f0 n0 P0 v1 f1 n1 P1 (va_up (va_up (va_up mv 1 r8.2.1) 2 r8.2.2.1) 4 r8.2.2.2.1) ma mb w r8.2.2.2.2 := by
  obtain ⟨hC, ⟨nt, hnt, hx0, hm1, htx⟩, hb, hno', hfu, hrest⟩ := hR
  simp only [p_X7_type, p_X8_type, hx0, hm1, hb, hfu, p7_within, p8_in, z_bd_some, p_X7_refuseBad, p_X8_bad, p_X7_refuseFull, p_X8_full, z_lt, z_rg127]
  cases hc : z_in c1 128
  · simp only [b2_f0, if_true]
    exact ⟨_, _, rfl, rfl, rfl, hC, ⟨nt, hnt, rfl, rfl, htx⟩, rfl, hno', rfl, hrest⟩
  obtain ⟨c, hc', rfl⟩ := (z_in_iff (by omega)).mp hc
  by_cases h7 : nt = 150
  · have g1 : ¬ nI nt < (150 : Int32) := by rw [h7]; decide
    have g2 : nI nt = (150 : Int32) := by rw [h7]; rfl
    simp only [b2_t0, if_false, g1, g2, if_true]
    exact ⟨_, _, rfl, rfl, rfl, hC, ⟨nt, hnt, g2.symm, g2.symm, htx⟩, rfl, hno', rfl, hrest⟩
  · have g1 : nI nt < (150 : Int32) := (nI_ltI (b := 150) (by omega) (by decide)).mpr (by omega)
    have g2 : ¬ nI nt = (150 : Int32) := nI_ne (b := 150) (by omega) (by decide) h7
    simp (disch := omega) only [b2_t0, if_false, g1, g2, if_true, z_in_n, z_gd_tt, nI_clamp, z_byteN, nI_1]
    refine ⟨_, _, rfl, rfl, rfl, hC, ⟨nt + 1, by omega, rfl, rfl, ?_⟩, rfl, hno', rfl, hrest⟩
    intro j hj
    rcases (show j < nt ∨ j = nt by omega) with h | rfl
    · obtain ⟨c', h1, h2, h3⟩ := htx j h
      exact ⟨c', h1, (ud_n (by omega)).trans h2, (ud_n (by omega)).trans h3⟩
    · exact ⟨c, hc', ud_s, ud_s⟩
