/-! The small calls. -/
theorem zl_a (a c : Nat) : (OfNat.ofNat a : Int32) + nI c = nI (a + c) := nI_add a c
theorem zl_b (a c : Nat) : nI c + (OfNat.ofNat a : Int32) = nI (c + a) := nI_add c a
theorem zl_m (a c : Nat) : (OfNat.ofNat a : Int32) * nI c = nI (a * c) := pk_mul a c
theorem b2_t : b2 true = 1 := rfl
theorem b2_f : b2 false = 0 := rfl
theorem b2_t0 : (b2 true = 0) = False := by simp [b2]
theorem b2_f0 : (b2 false = 0) = True := by simp [b2]
theorem z_in2 (c : Int32) : decide ((0 : Int32) ≤ c ∧ c ≤ 2) = z_in c 3 := by
  rw [Bool.eq_iff_iff, decide_eq_true_eq]
  exact z_btw c 3 (by decide)
section RX
variable {x v : Nat → Int32} {f : Nat → Nat → Int32} {n : DD} {P : Nat → DD} {kf tf v0 : Nat → Int32} {f0 : Nat → Nat → Int32} {n0 : DD} {P0 : Nat → DD} {v1 : Nat → Int32} {f1 : Nat → Nat → Int32} {n1 : DD} {P1 : Nat → DD} {mv : Nat → Int32} {ma mb : Int64} {w tx : Nat → Int32}
theorem RX_b (hR : RelX x v f n P kf tf v0 f0 n0 P0 v1 f1 n1 P1 mv ma mb w tx) {a b : Int32} (h : a = b) : RelX (va_up x 3 a) v f n P kf tf v0 f0 n0 P0 v1 f1 n1 P1 (va_up mv 2 b) ma mb w tx :=
  ⟨hR.1, hR.2.1, h, hR.2.2.2.1, hR.2.2.2.2.1, hR.2.2.2.2.2.1, hR.2.2.2.2.2.2.1, hR.2.2.2.2.2.2.2⟩
/-- a call that changes nothing but what was refused as BAD -/
theorem RX_ro (hR : RelX x v f n P kf tf v0 f0 n0 P0 v1 f1 n1 P1 mv ma mb w tx) {p q : Option (Int32 × Int32)} (h : ∃ r, p = some r ∧ q = some r) : ∃ (r7 r8 : Int32 × Int32), p = some r7 ∧ q = some r8 ∧ r7.1 = r8.1 ∧ RelX (va_up x 3 r7.2) v f n P kf tf v0 f0 n0 P0 v1 f1 n1 P1 (va_up mv 2 r8.2) ma mb w tx := by
  obtain ⟨r, h1, h2⟩ := h
  exact ⟨r, r, h1, h2, rfl, RX_b hR rfl⟩
theorem q_4 (hR : RelX x v f n P kf tf v0 f0 n0 P0 v1 f1 n1 P1 mv ma mb w tx) : ∃ (r7 : Int32 × Int32) (r8 : Int32 × Int32), p_X7_clear (x 0) = some r7 ∧ p_X8_clear (mv 1) = some r8 ∧ r7.1 = r8.1 ∧ RelX (va_up x 0 r7.2) v f n P kf tf v0 f0 n0 P0 v1 f1 n1 P1 (va_up mv 1 r8.2) ma mb w tx := by
  obtain ⟨hC, ⟨nt, h1, h2, h3, h4⟩, hr⟩ := id hR
  refine ⟨(x 0, 0), (mv 1, 0), ?_, ?_, by rw [h2, h3], hC, ⟨0, by omega, rfl, rfl, fun j h => absurd h (by omega)⟩, hr⟩
  · simp only [p_X7_clear, z_lt]
  · simp only [p_X8_clear, z_lt]
theorem q_10 (hR : RelX x v f n P kf tf v0 f0 n0 P0 v1 f1 n1 P1 mv ma mb w tx) (c1 : Int32) (c2 : Int32) : ∃ (r7 : Int32 × Int32) (r8 : Int32 × Int32), p_X7_of (x 3) (v 1) (f 3) n.2.2.2.2.1 n.2.2.2.2.2.1 c1 c2 = some r7 ∧ p_X8_of (mv 2) w c1 c2 = some r8 ∧ r7.1 = r8.1 ∧ RelX (va_up x 3 r7.2) v f n P kf tf v0 f0 n0 P0 v1 f1 n1 P1 (va_up mv 2 r8.2) ma mb w tx := by
  refine RX_ro hR ?_
  obtain ⟨⟨np, nc, nb, nn, nm, hnp, hnc, hnb, hnn, hnm, e0, w418, e1, w422, e2, w396, e3, w447, e4, w478, hpl, hck, ⟨nd, hh, hnd, hhh, d7, w7, d6, w6, hat, hro, hle⟩, hPP, hno, hma⟩, ht, hb, hrest⟩ := hR
  simp only [Nat.zero_add] at w418 w422 hck hat
  simp only [p_X7_of, p_X8_of, e1, hb, p0_hasCrow (n := nc) (by omega), p8_isCrow w422 (by omega), z_bd_some, p7_within, p8_in, p_X7_refuseBad, p_X8_bad, z_lt, z_in2]
  cases hc : z_in c1 nc
  · simp only [b2_f0, if_true]
    exact ⟨_, rfl, rfl⟩
  · simp only [b2_t0, if_false]
    obtain ⟨c, hc', rfl⟩ := (z_in_iff (by omega)).mp hc
    cases hw : z_in c2 3
    · simp only [b2_f0, if_true]
      exact ⟨_, rfl, rfl⟩
    · simp only [b2_t0, if_false]
      obtain ⟨k, hk, g1, g2⟩ := hck c hc'
      obtain ⟨a, t, ha, ht, g3, g4, g5, g6⟩ := hat c hc'
      have i3 : z_in (nI c) 3 = true := z_in_n (by omega) (by decide)
      have i4 : z_in (nI c) 1960 = true := z_in_n (by omega) (by decide)
      have i5 : z_in (nI (419 + c)) 1960 = true := z_in_n (by omega) (by decide)
      have i6 : z_in (nI (3 + c)) 1960 = true := z_in_n (by omega) (by decide)
      simp only [p_X0_aboutCrow, show (419 : Int32) + nI c = nI (419 + c) from nI_add 419 c, show (3 : Int32) + nI c = nI (3 + c) from nI_add 3 c, i3, i4, i5, i6, z_gd_tt, nI_clamp (show c < 2 ^ 31 by omega), nI_clamp (show 419 + c < 2 ^ 31 by omega), nI_clamp (show 3 + c < 2 ^ 31 by omega), g1, g2, g3, g4, g5, g6]
      by_cases h0 : c2 = 0
      · simp only [h0, if_true, z_bd_some]
        exact ⟨_, rfl, rfl⟩
      · by_cases h1 : c2 = 1
        · simp only [h0, h1, if_true, if_false, z_bd_some]
          exact ⟨_, rfl, rfl⟩
        · simp only [h0, h1, if_false, z_bd_some]
          exact ⟨_, rfl, rfl⟩
theorem q_33 (hR : RelX x v f n P kf tf v0 f0 n0 P0 v1 f1 n1 P1 mv ma mb w tx) (c1 : Int32) : ∃ (r7 : Int32 × Int32) (r8 : Int32 × Int32), p_X7_status (x 3) (x 4) (x 5) c1 = some r7 ∧ p_X8_status (mv 2) (mv 3) (mv 4) c1 = some r8 ∧ r7.1 = r8.1 ∧ RelX (va_up x 3 r7.2) v f n P kf tf v0 f0 n0 P0 v1 f1 n1 P1 (va_up mv 2 r8.2) ma mb w tx := by
  refine RX_ro hR ?_
  obtain ⟨-, -, hb, hb2, hb3, -⟩ := hR
  simp only [p_X7_status, p_X8_status, hb, hb2, hb3, z_bd_some, p8_in, p_X7_refuseBad, z_lt, z_in2]
  by_cases h0 : c1 = 0
  · subst h0
    exact ⟨_, rfl, rfl⟩
  · by_cases h1 : c1 = 1
    · subst h1
      exact ⟨_, rfl, rfl⟩
    · by_cases h2 : c1 = 2
      · subst h2
        exact ⟨_, rfl, rfl⟩
      · have hz : z_in c1 3 = false := by
          cases h : z_in c1 3
          · rfl
          · obtain ⟨k, hk, rfl⟩ := (z_in_iff (by decide)).mp h
            rcases (show k = 0 ∨ k = 1 ∨ k = 2 by omega) with rfl | rfl | rfl
            · exact absurd rfl h0
            · exact absurd rfl h1
            · exact absurd rfl h2
        simp only [h0, h1, h2, if_false, hz, b2_f0, if_true]
        exact ⟨_, rfl, rfl⟩
theorem q_30 (hR : RelX x v f n P kf tf v0 f0 n0 P0 v1 f1 n1 P1 mv ma mb w tx) (c1 : Int32) : ∃ (r7 : Int64 × Int32) (r8 : Int64 × Int32), p_X7_part (x 1) (x 2) (x 3) c1 = some r7 ∧ p_X8_part ma mb (mv 2) c1 = some r8 ∧ r7.1 = r8.1 ∧ RelX (va_up x 3 r7.2) v f n P kf tf v0 f0 n0 P0 v1 f1 n1 P1 (va_up mv 2 r8.2) ma mb w tx := by
  have h : ∃ r, p_X7_part (x 1) (x 2) (x 3) c1 = some r ∧ p_X8_part ma mb (mv 2) c1 = some r := by
    obtain ⟨-, -, hb, -, -, h5, h6, -⟩ := hR
    simp only [p_X7_part, p_X8_part, hb, ← h5, ← h6, p_X7_refuseBad, p_X8_bad, z_lt, z_bd_some]
    by_cases h0 : c1 = 0
    · simp only [h0, if_true, z_bd_some]
      exact ⟨_, rfl, rfl⟩
    · by_cases h1 : c1 = 1
      · simp only [h0, h1, if_true, if_false, z_bd_some]
        exact ⟨_, rfl, rfl⟩
      · simp only [h0, h1, if_false, z_bd_some]
        exact ⟨_, rfl, rfl⟩
  obtain ⟨r, h1, h2⟩ := h
  exact ⟨r, r, h1, h2, rfl, RX_b hR rfl⟩
end RX
