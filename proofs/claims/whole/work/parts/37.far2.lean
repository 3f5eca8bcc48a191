/-! The calls that tell how far, and of places. -/
theorem RC_get {w v : Nat → Int32} {f : Nat → Nat → Int32} {n : DD} {P : Nat → DD} (h : RC w 0 v f n P) : ∃ np nc : Nat, np ≤ 7 ∧ nc ≤ 3 ∧ v 0 = nI np ∧ w 418 = nI np ∧ v 1 = nI nc ∧ w 422 = nI nc ∧ RP w 0 np nc f ∧ RD w 0 nc np n := by
  obtain ⟨np, nc, nb, nn, nm, hnp, hnc, hnb, hnn, hnm, e0, w418, e1, w422, e2, w396, e3, w447, e4, w478, hpl, hck, hD, -⟩ := h
  exact ⟨np, nc, hnp, hnc, e0, by rw [Nat.zero_add] at w418; exact w418, e1, by rw [Nat.zero_add] at w422; exact w422, ⟨hpl, hck⟩, hD⟩
theorem p7_isTrip {np nc : Nat} (hnp : np ≤ 7) (hnc : nc ≤ 3) (a b c : Int32) : p_X7_isTrip (nI np) (nI nc) a b c = some (b2 (z_in a nc && (z_in b np && z_in c np))) := by
  simp only [p_X7_isTrip, p0_hasCrow (n := nc) (by omega), p0_hasPlace (n := np) (by omega), z_bd_some]
  cases z_in a nc
  · simp only [b2_f0, if_true, z_bd_some, Bool.false_and]; rfl
  · cases z_in b np
    · simp only [b2_t0, b2_f0, if_true, if_false, z_bd_some, Bool.false_and, Bool.true_and]; rfl
    · cases z_in c np
      · simp only [b2_t0, b2_f0, if_true, if_false, z_bd_some, Bool.true_and]; rfl
      · simp only [b2_t0, if_false, z_bd_some, Bool.true_and]; rfl
theorem mo_farNow {w : Nat → Int32} {f : Nat → Nat → Int32} {n : DD} {np nc c a b : Nat} (hnp : np ≤ 7) (hnc : nc ≤ 3) (hP : RP w 0 np nc f) (hD : RD w 0 nc np n) (hc : c < nc) (ha : a < np) (hb : b < np) : ∃ g : Nat, g ≤ 600 ∧ p_X0_farNow (f 0) (f 1) (f 2) (f 3) n.2.2.2.2.2.2.2.2 n.2.2.2.2.2.1 (nI c) (nI a) (nI b) = some (nI g) ∧ p_X8_farNow w (nI c) (nI a) (nI b) = some (nI g) := by
  obtain ⟨nd, h, hnd, hh, d7, w7, d6, w6, hat, -⟩ := hD
  obtain ⟨at', tt, -, htt, -, -, g5, g6⟩ := hat c hc
  obtain ⟨g, hg, f7, f8⟩ := mo_farAt (s := 0) (u := 0) (h := h) (by omega) (by omega) hnp hnc hP hc ha hb htt g6 (by omega)
  refine ⟨g, hg, ?_, ?_⟩
  · have ic : z_in (nI c) 3 = true := z_in_n (by omega) (by decide)
    simp only [p_X0_farNow, z_lt, ic, z_gd_tt, nI_clamp (show c < 2 ^ 31 by omega), g5, d6, f7, z_bd_some]
  · have a1 := mo_rd (w := w) (by decide : (0 : Int32) + (6 : Int32) = nI 6) (show 6 < 1960 by omega) (by decide)
    have w6' : w 6 = nI h := by rw [Nat.zero_add] at w6; exact w6
    have e24 : nI h - nI h / (24 : Int32) * (24 : Int32) = nI (h % 24) := pk_rem (d := 24) (by omega) (by decide) (by decide)
    rw [ni0] at f8
    simp only [p_X8_farNow, p_X8_farIn, z_lt, a1.1, a1.2, z_gd_tt, w6', e24, f8, z_bd_some]
section RX
variable {x v : Nat → Int32} {f : Nat → Nat → Int32} {n : DD} {P : Nat → DD} {kf tf v0 : Nat → Int32} {f0 : Nat → Nat → Int32} {n0 : DD} {P0 : Nat → DD} {v1 : Nat → Int32} {f1 : Nat → Nat → Int32} {n1 : DD} {P1 : Nat → DD} {mv : Nat → Int32} {ma mb : Int64} {w tx : Nat → Int32}
theorem q_13 (hR : RelX x v f n P kf tf v0 f0 n0 P0 v1 f1 n1 P1 mv ma mb w tx) (c1 : Int32) (c2 : Int32) (c3 : Int32) : ∃ (r7 : Int32 × Int32) (r8 : Int32 × Int32), p_X7_far (x 3) (v 0) (v 1) (f 0) (f 1) (f 2) (f 3) n.2.2.2.2.2.2.2.2 n.2.2.2.2.2.1 c1 c2 c3 = some r7 ∧ p_X8_far (mv 2) w c1 c2 c3 = some r8 ∧ r7.1 = r8.1 ∧ RelX (va_up x 3 r7.2) v f n P kf tf v0 f0 n0 P0 v1 f1 n1 P1 (va_up mv 2 r8.2) ma mb w tx := by
  refine RX_ro hR ?_
  obtain ⟨np, nc, hnp, hnc, e0, w418, e1, w422, hP, hD⟩ := RC_get hR.1
  have hb := hR.2.2.1
  simp only [p_X7_far, p_X8_far, e0, e1, hb, p7_isTrip hnp hnc, p8_isCrow w422 (by omega), p8_isPlace w418 (by omega), z_bd_some, p_X7_refuseBad, p_X8_bad, z_lt]
  cases hc : z_in c1 nc
  · simp only [b2_f0, if_true, z_bd_some, Bool.false_and]
    exact ⟨_, rfl, rfl⟩
  · cases h2 : z_in c2 np
    · simp only [b2_t0, b2_f0, if_true, if_false, z_bd_some, Bool.false_and, Bool.true_and]
      exact ⟨_, rfl, rfl⟩
    · cases h3 : z_in c3 np
      · simp only [b2_t0, b2_f0, if_true, if_false, z_bd_some, Bool.true_and]
        exact ⟨_, rfl, rfl⟩
      · simp only [b2_t0, if_false, Bool.true_and]
        obtain ⟨c, hc', rfl⟩ := (z_in_iff (by omega)).mp hc
        obtain ⟨a, ha, rfl⟩ := (z_in_iff (by omega)).mp h2
        obtain ⟨b, hb', rfl⟩ := (z_in_iff (by omega)).mp h3
        obtain ⟨g, hg, f7, f8⟩ := mo_farNow hnp hnc hP hD hc' ha hb'
        simp only [f7, f8, z_bd_some]
        exact ⟨_, rfl, rfl⟩
theorem q_11 (hR : RelX x v f n P kf tf v0 f0 n0 P0 v1 f1 n1 P1 mv ma mb w tx) (c1 : Int32) (c2 : Int32) : ∃ (r7 : Int32 × Int32) (r8 : Int32 × Int32), p_X7_about (x 3) (v 0) (f 0) (f 1) (f 2) c1 c2 = some r7 ∧ p_X8_about (mv 2) w c1 c2 = some r8 ∧ r7.1 = r8.1 ∧ RelX (va_up x 3 r7.2) v f n P kf tf v0 f0 n0 P0 v1 f1 n1 P1 (va_up mv 2 r8.2) ma mb w tx := by
  refine RX_ro hR ?_
  obtain ⟨np, nc, hnp, hnc, e0, w418, e1, w422, hP, hD⟩ := RC_get hR.1
  have hb := hR.2.2.1
  simp only [p_X7_about, p_X8_about, e0, hb, p0_hasPlace (n := np) (by omega), p8_isPlace w418 (by omega), z_bd_some, p7_within, p8_in, p_X7_refuseBad, p_X8_bad, z_lt, z_in2]
  cases hc : z_in c1 np
  · simp only [b2_f0, if_true, z_bd_some]
    exact ⟨_, rfl, rfl⟩
  · simp only [b2_t0, if_false]
    obtain ⟨a, ha, rfl⟩ := (z_in_iff (by omega)).mp hc
    cases hw : z_in c2 3
    · simp only [b2_f0, if_true, z_bd_some]
      exact ⟨_, rfl, rfl⟩
    · simp only [b2_t0, if_false]
      obtain ⟨j, hj, rfl⟩ := (z_in_iff (by decide)).mp hw
      obtain ⟨k, xx, yy, hk, hx, hy, g0, h0, g1, h1, g2, h2⟩ := hP.1 a ha
      have i7 : z_in (nI a) 7 = true := z_in_n (by omega) (by decide)
      have a1 := mo_rd (w := w) (show ((397 : Int32) + ((3 : Int32) * nI a)) + nI j = nI (397 + 3 * a + j) by rw [show (3 : Int32) * nI a = nI (3 * a) from pk_mul 3 a, show (397 : Int32) + nI (3 * a) = nI (397 + 3 * a) from nI_add 397 (3 * a), nI_add]) (show 397 + 3 * a + j < 1960 by omega) (by decide)
      simp only [a1.1, a1.2, z_gd_tt, z_bd_some]
      unfold p_X0_aboutPlace
      simp only [i7, z_gd_tt, nI_clamp (show a < 2 ^ 31 by omega), g0, g1, g2]
      rcases (show j = 0 ∨ j = 1 ∨ j = 2 by omega) with rfl | rfl | rfl
      · have e : w (397 + 3 * a + 0) = nI k := by rw [← h0]; congr 1 <;> omega
        rw [e, ni0, if_pos rfl]
        exact ⟨_, rfl, rfl⟩
      · have e : w (397 + 3 * a + 1) = nI xx := by rw [← h1]; congr 1 <;> omega
        rw [e, ni1, if_neg (by decide), if_pos rfl]
        exact ⟨_, rfl, rfl⟩
      · have e : w (397 + 3 * a + 2) = nI yy := by rw [← h2]; congr 1 <;> omega
        rw [e, ni2, if_neg (by decide), if_neg (by decide)]
        exact ⟨_, rfl, rfl⟩
end RX
