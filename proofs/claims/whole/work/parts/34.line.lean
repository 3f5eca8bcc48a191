/-! Straight lines, places, the text's bytes. -/
theorem z_neg (a : Int32) : (0 : Int32) - a = -a := by
  apply Int32.toBitVec_inj.mp
  rw [Int32.toBitVec_sub, Int32.toBitVec_neg]
  simp
/-- an index that is a sum of numbers, and the row there -/
theorem mo_rd {w : Nat → Int32} {i : Int32} {k N : Nat} (h : i = nI k) (hk : k < N) (hN : N < 2 ^ 31) : z_in i N = true ∧ w i.toNatClampNeg = w k := by
  subst h
  exact ⟨z_in_n hk hN, by rw [nI_clamp (Nat.lt_trans hk hN)]⟩
theorem i_s3 (s a c : Nat) (o : Nat) : (nI s + nI o) + (nI 3 * nI a) + nI c = nI (s + o + 3 * a + c) := by
  rw [nI_add, pk_mul, nI_add, nI_add]
theorem mo_line {w X Y : Nat → Int32} {s np a b : Nat} (hs : s + 479 ≤ 1960) (hnp : np ≤ 7) (hX : ∀ p, p < np → X p = w (s + 398 + 3 * p)) (hY : ∀ p, p < np → Y p = w (s + 399 + 3 * p)) (ha : a < np) (hb : b < np) : ∃ r, p_X0_line X Y (nI a) (nI b) = some r ∧ p_X8_straightIn w (nI s) (nI a) (nI b) = some r := by
  have ia : z_in (nI a) 7 = true := z_in_n (by omega) (by decide)
  have ib : z_in (nI b) 7 = true := z_in_n (by omega) (by decide)
  have ca : (nI a).toNatClampNeg = a := nI_clamp (by omega)
  have cb : (nI b).toNatClampNeg = b := nI_clamp (by omega)
  have a1 := mo_rd (w := w) (show (nI s + (397 : Int32)) + ((3 : Int32) * nI a) + (1 : Int32) = nI (s + 397 + 3 * a + 1) from i_s3 s a 1 397) (show s + 397 + 3 * a + 1 < 1960 by omega) (by decide)
  have b1 := mo_rd (w := w) (show (nI s + (397 : Int32)) + ((3 : Int32) * nI b) + (1 : Int32) = nI (s + 397 + 3 * b + 1) from i_s3 s b 1 397) (show s + 397 + 3 * b + 1 < 1960 by omega) (by decide)
  have a2 := mo_rd (w := w) (show (nI s + (397 : Int32)) + ((3 : Int32) * nI a) + (2 : Int32) = nI (s + 397 + 3 * a + 2) from i_s3 s a 2 397) (show s + 397 + 3 * a + 2 < 1960 by omega) (by decide)
  have b2 := mo_rd (w := w) (show (nI s + (397 : Int32)) + ((3 : Int32) * nI b) + (2 : Int32) = nI (s + 397 + 3 * b + 2) from i_s3 s b 2 397) (show s + 397 + 3 * b + 2 < 1960 by omega) (by decide)
  have x1 : X a = w (s + 397 + 3 * a + 1) := by rw [hX a ha]; congr 1; omega
  have x2 : X b = w (s + 397 + 3 * b + 1) := by rw [hX b hb]; congr 1; omega
  have y1 : Y a = w (s + 397 + 3 * a + 2) := by rw [hY a ha]; congr 1; omega
  have y2 : Y b = w (s + 397 + 3 * b + 2) := by rw [hY b hb]; congr 1; omega
  simp only [p_X0_line, p_X8_straightIn, z_lt, ia, ib, ca, cb, a1.1, b1.1, a2.1, b2.1, a1.2, b1.2, a2.2, b2.2, z_gd_tt, z_bd_ite, x1, x2, y1, y2, z_neg]
  exact ⟨_, rfl, rfl⟩
section RX
variable {x v : Nat → Int32} {f : Nat → Nat → Int32} {n : DD} {P : Nat → DD} {kf tf v0 : Nat → Int32} {f0 : Nat → Nat → Int32} {n0 : DD} {P0 : Nat → DD} {v1 : Nat → Int32} {f1 : Nat → Nat → Int32} {n1 : DD} {P1 : Nat → DD} {mv : Nat → Int32} {ma mb : Int64} {w tx : Nat → Int32}
theorem q_12 (hR : RelX x v f n P kf tf v0 f0 n0 P0 v1 f1 n1 P1 mv ma mb w tx) (c1 : Int32) (c2 : Int32) : ∃ (r7 : Int32 × Int32) (r8 : Int32 × Int32), p_X7_straight (x 3) (v 0) (f 1) (f 2) c1 c2 = some r7 ∧ p_X8_straight (mv 2) w c1 c2 = some r8 ∧ r7.1 = r8.1 ∧ RelX (va_up x 3 r7.2) v f n P kf tf v0 f0 n0 P0 v1 f1 n1 P1 (va_up mv 2 r8.2) ma mb w tx := by
  refine RX_ro hR ?_
  obtain ⟨⟨np, nc, nb, nn, nm, hnp, hnc, hnb, hnn, hnm, e0, w418, e1, w422, e2, w396, e3, w447, e4, w478, hpl, hck, hD, hPP, hno, hma⟩, ht, hb, hrest⟩ := hR
  simp only [Nat.zero_add] at w418
  simp only [p_X7_straight, p_X8_straight, e0, hb, p0_hasPlace (n := np) (by omega), p8_isPlace w418 (by omega), z_bd_some, p_X7_refuseBad, p_X8_bad, z_lt]
  cases hc : z_in c1 np
  · simp only [b2_f0, if_true, z_bd_some]
    exact ⟨_, rfl, rfl⟩
  · simp only [b2_t0, if_false]
    obtain ⟨a, ha, rfl⟩ := (z_in_iff (by omega)).mp hc
    cases hw : z_in c2 np
    · simp only [b2_f0, if_true, z_bd_some]
      exact ⟨_, rfl, rfl⟩
    · simp only [b2_t0, if_false]
      obtain ⟨b, hb2, rfl⟩ := (z_in_iff (by omega)).mp hw
      obtain ⟨r, h7, h8⟩ := mo_line (w := w) (X := f 1) (Y := f 2) (s := 0) (by omega) hnp (fun p hp => by obtain ⟨k, a, b, -, -, -, -, -, g1, g2, -⟩ := hpl p hp; rw [g1, g2]) (fun p hp => by obtain ⟨k, a, b, -, -, -, -, -, -, -, g1, g2⟩ := hpl p hp; rw [g1, g2]) ha hb2
      rw [ni0] at h8
      simp only [h7, h8, z_bd_some]
      exact ⟨_, rfl, rfl⟩
end RX
