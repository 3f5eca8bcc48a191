/-! Numbers as they stand in the programs; tests of a range. -/
theorem li_0 : (0 : Int32) = nI 0 := rfl
theorem li_1 : (1 : Int32) = nI 1 := rfl
theorem li_2 : (2 : Int32) = nI 2 := rfl
theorem li_3 : (3 : Int32) = nI 3 := rfl
theorem li_4 : (4 : Int32) = nI 4 := rfl
theorem li_5 : (5 : Int32) = nI 5 := rfl
theorem li_6 : (6 : Int32) = nI 6 := rfl
theorem li_7 : (7 : Int32) = nI 7 := rfl
theorem li_8 : (8 : Int32) = nI 8 := rfl
theorem li_9 : (9 : Int32) = nI 9 := rfl
theorem li_10 : (10 : Int32) = nI 10 := rfl
theorem li_11 : (11 : Int32) = nI 11 := rfl
theorem li_12 : (12 : Int32) = nI 12 := rfl
theorem li_16 : (16 : Int32) = nI 16 := rfl
theorem li_18 : (18 : Int32) = nI 18 := rfl
theorem li_23 : (23 : Int32) = nI 23 := rfl
theorem li_24 : (24 : Int32) = nI 24 := rfl
theorem li_32 : (32 : Int32) = nI 32 := rfl
theorem li_36 : (36 : Int32) = nI 36 := rfl
theorem li_44 : (44 : Int32) = nI 44 := rfl
theorem li_48 : (48 : Int32) = nI 48 := rfl
theorem li_49 : (49 : Int32) = nI 49 := rfl
theorem li_57 : (57 : Int32) = nI 57 := rfl
theorem li_59 : (59 : Int32) = nI 59 := rfl
theorem li_60 : (60 : Int32) = nI 60 := rfl
theorem li_63 : (63 : Int32) = nI 63 := rfl
theorem li_64 : (64 : Int32) = nI 64 := rfl
theorem li_88 : (88 : Int32) = nI 88 := rfl
theorem li_97 : (97 : Int32) = nI 97 := rfl
theorem li_99 : (99 : Int32) = nI 99 := rfl
theorem li_100 : (100 : Int32) = nI 100 := rfl
theorem li_101 : (101 : Int32) = nI 101 := rfl
theorem li_102 : (102 : Int32) = nI 102 := rfl
theorem li_104 : (104 : Int32) = nI 104 := rfl
theorem li_108 : (108 : Int32) = nI 108 := rfl
theorem li_110 : (110 : Int32) = nI 110 := rfl
theorem li_111 : (111 : Int32) = nI 111 := rfl
theorem li_112 : (112 : Int32) = nI 112 := rfl
theorem li_114 : (114 : Int32) = nI 114 := rfl
theorem li_115 : (115 : Int32) = nI 115 := rfl
theorem li_116 : (116 : Int32) = nI 116 := rfl
theorem li_117 : (117 : Int32) = nI 117 := rfl
theorem li_119 : (119 : Int32) = nI 119 := rfl
theorem li_121 : (121 : Int32) = nI 121 := rfl
theorem li_122 : (122 : Int32) = nI 122 := rfl
theorem li_127 : (127 : Int32) = nI 127 := rfl
theorem li_150 : (150 : Int32) = nI 150 := rfl
theorem li_308 : (308 : Int32) = nI 308 := rfl
theorem li_396 : (396 : Int32) = nI 396 := rfl
theorem li_397 : (397 : Int32) = nI 397 := rfl
theorem li_418 : (418 : Int32) = nI 418 := rfl
theorem li_419 : (419 : Int32) = nI 419 := rfl
theorem li_422 : (422 : Int32) = nI 422 := rfl
theorem li_423 : (423 : Int32) = nI 423 := rfl
theorem li_447 : (447 : Int32) = nI 447 := rfl
theorem li_448 : (448 : Int32) = nI 448 := rfl
theorem li_478 : (478 : Int32) = nI 478 := rfl
theorem li_479 : (479 : Int32) = nI 479 := rfl
theorem li_500 : (500 : Int32) = nI 500 := rfl
theorem li_900 : (900 : Int32) = nI 900 := rfl
theorem li_1437 : (1437 : Int32) = nI 1437 := rfl
theorem li_1916 : (1916 : Int32) = nI 1916 := rfl
theorem li_2400 : (2400 : Int32) = nI 2400 := rfl
theorem li_9999 : (9999 : Int32) = nI 9999 := rfl
theorem li_65536 : (65536 : Int32) = nI 65536 := rfl
theorem li_999999 : (999999 : Int32) = nI 999999 := rfl
theorem li_1000000 : (1000000 : Int32) = nI 1000000 := rfl
theorem li_1048576 : (1048576 : Int32) = nI 1048576 := rfl
theorem li_99999999 : (99999999 : Int32) = nI 99999999 := rfl
theorem ll_0 : (0 : Int64) = lN 0 := rfl
theorem ll_2 : (2 : Int64) = lN 2 := rfl
theorem ll_3 : (3 : Int64) = lN 3 := rfl
theorem ll_7 : (7 : Int64) = lN 7 := rfl
theorem ll_10 : (10 : Int64) = lN 10 := rfl
theorem ll_31 : (31 : Int64) = lN 31 := rfl
theorem ll_1753 : (1753 : Int64) = lN 1753 := rfl
theorem ll_12345 : (12345 : Int64) = lN 12345 := rfl
theorem ll_65536 : (65536 : Int64) = lN 65536 := rfl
theorem ll_1048576 : (1048576 : Int64) = lN 1048576 := rfl
theorem ll_1103515245 : (1103515245 : Int64) = lN 1103515245 := rfl
theorem ll_2147483648 : (2147483648 : Int64) = lN 2147483648 := rfl
theorem z_rg (K : Nat) (hK : K < 2 ^ 29) (c : Int32) : decide ((0 : Int32) ≤ c ∧ c ≤ nI K) = z_in c (K + 1) := by
  rw [Bool.eq_iff_iff, decide_eq_true_eq, z_in_ti, Int32.le_iff_toInt_le, Int32.le_iff_toInt_le, nI_toInt (by omega)]
  show (0 : Int) ≤ c.toInt ∧ c.toInt ≤ (K : Int) ↔ _
  omega
theorem z_rg1 (c : Int32) : decide ((0 : Int32) ≤ c ∧ c ≤ 1) = z_in c 2 := z_rg 1 (by decide) c
theorem z_rg5 (c : Int32) : decide ((0 : Int32) ≤ c ∧ c ≤ 5) = z_in c 6 := z_rg 5 (by decide) c
theorem z_rg8 (c : Int32) : decide ((0 : Int32) ≤ c ∧ c ≤ 8) = z_in c 9 := z_rg 8 (by decide) c
theorem z_rg9 (c : Int32) : decide ((0 : Int32) ≤ c ∧ c ≤ 9) = z_in c 10 := z_rg 9 (by decide) c
theorem z_rg10 (c : Int32) : decide ((0 : Int32) ≤ c ∧ c ≤ 10) = z_in c 11 := z_rg 10 (by decide) c
theorem z_rg18 (c : Int32) : decide ((0 : Int32) ≤ c ∧ c ≤ 18) = z_in c 19 := z_rg 18 (by decide) c
theorem z_rg23 (c : Int32) : decide ((0 : Int32) ≤ c ∧ c ≤ 23) = z_in c 24 := z_rg 23 (by decide) c
theorem z_rg60 (c : Int32) : decide ((0 : Int32) ≤ c ∧ c ≤ 60) = z_in c 61 := z_rg 60 (by decide) c
theorem z_rg99 (c : Int32) : decide ((0 : Int32) ≤ c ∧ c ≤ 99) = z_in c 100 := z_rg 99 (by decide) c
theorem z_rg127 (c : Int32) : decide ((0 : Int32) ≤ c ∧ c ≤ 127) = z_in c 128 := z_rg 127 (by decide) c
theorem z_rg500 (c : Int32) : decide ((0 : Int32) ≤ c ∧ c ≤ 500) = z_in c 501 := z_rg 500 (by decide) c
theorem z_rg900 (c : Int32) : decide ((0 : Int32) ≤ c ∧ c ≤ 900) = z_in c 901 := z_rg 900 (by decide) c
theorem z_rg999999 (c : Int32) : decide ((0 : Int32) ≤ c ∧ c ≤ 999999) = z_in c 1000000 := z_rg 999999 (by decide) c
theorem bn_t : (b2 true = nI 0) = False := by rw [← li_0]; exact b2_t0
theorem bn_f : (b2 false = nI 0) = True := by rw [← li_0]; exact b2_f0
theorem z_byte : ∀ c : Fin 128, (nI c.1).toInt8.toInt32 = nI c.1 := by decide +kernel
theorem z_byteN {c : Nat} (h : c < 128) : vp_nar .byte (nI c).toInt8.toInt32 = nI c := (pk_vb (nI c)).trans (z_byte ⟨c, h⟩)
theorem ud_s {f : Nat → Int32} {k : Nat} {x : Int32} : upd f k x k = x := if_pos rfl
theorem ud_n {f : Nat → Int32} {k j : Nat} {x : Int32} (h : j ≠ k) : upd f k x j = f j := if_neg h
theorem va_id {α : Type} (f : Nat → α) (k : Nat) : va_up f k (f k) = f := by
  funext j
  unfold va_up
  by_cases h : j = k
  · rw [if_pos h, h]
  · rw [if_neg h]
/-- the rest of what ties both: all but the country -/
def RR (x kf tf v0 : Nat → Int32) (f0 : Nat → Nat → Int32) (n0 : DD) (P0 : Nat → DD) (v1 : Nat → Int32) (f1 : Nat → Nat → Int32) (n1 : DD) (P1 : Nat → DD) (mv : Nat → Int32) (ma mb : Int64) (w tx : Nat → Int32) : Prop :=
  (∃ nt : Nat, nt ≤ 150 ∧ x 0 = nI nt ∧ mv 1 = nI nt ∧ ∀ j, j < nt → ∃ c : Nat, c < 128 ∧ tf j = nI c ∧ tx j = nI c) ∧
  x 3 = mv 2 ∧ x 4 = mv 3 ∧ x 5 = mv 4 ∧ (x 1).toInt64 = ma ∧ (x 2).toInt64 = mb ∧
  ∃ k0 k1 : Nat, k0 ≤ 1 ∧ k1 ≤ 1 ∧ kf 0 = nI k0 ∧ kf 1 = nI k1 ∧ mv 0 = nI (k0 + 2 * k1) ∧ (k0 = 1 → RC w 479 v0 f0 n0 P0) ∧ (k1 = 1 → RC w 958 v1 f1 n1 P1)
/-- a country speaks of its 479 numbers alone -/
theorem RD_w {w w' : Nat → Int32} {u nc np : Nat} {d : DD} (hnc : nc ≤ 3) (hw : ∀ j, j < 44 → w' (u + j) = w (u + j)) (h : RD w u nc np d) : RD w' u nc np d := by
  obtain ⟨nd, hh, hnd, hhh, d7, w7, d6, w6, hat, hro, hle⟩ := h
  refine ⟨nd, hh, hnd, hhh, d7, by rw [hw 7 (by omega)]; exact w7, d6, by rw [hw 6 (by omega)]; exact w6, ?_, ?_, ?_⟩
  · intro c hc
    obtain ⟨a, t, h1, h2, h3, h4, h5, h6⟩ := hat c hc
    exact ⟨a, t, h1, h2, h3, by rw [hw c (by omega)]; exact h4, h5, by rw [Nat.add_assoc, hw (3 + c) (by omega), ← Nat.add_assoc]; exact h6⟩
  · intro j hj
    rw [Nat.add_assoc, hw (8 + j) (by omega), ← Nat.add_assoc]
    exact hro j hj
  · intro k hk
    obtain ⟨g, h1, h2⟩ := hle k hk
    exact ⟨g, h1, by rw [Nat.add_assoc, hw (8 + (3 * k + 2)) (by omega), ← Nat.add_assoc]; exact h2⟩
theorem RC_w {w w' v : Nat → Int32} {f : Nat → Nat → Int32} {n : DD} {P : Nat → DD} {s : Nat} (hw : ∀ j, j < 479 → w' (s + j) = w (s + j)) (h : RC w s v f n P) : RC w' s v f n P := by
  obtain ⟨np, nc, nb, nn, nm, hnp, hnc, hnb, hnn, hnm, e0, w418, e1, w422, e2, w396, e3, w447, e4, w478, hpl, hck, hD, hPP, hno, hma⟩ := h
  refine ⟨np, nc, nb, nn, nm, hnp, hnc, hnb, hnn, hnm, e0, by rw [hw 418 (by omega)]; exact w418, e1, by rw [hw 422 (by omega)]; exact w422, e2, by rw [hw 396 (by omega)]; exact w396, e3, by rw [hw 447 (by omega)]; exact w447, e4, by rw [hw 478 (by omega)]; exact w478, ?_, ?_, RD_w hnc (fun j hj => hw j (by omega)) hD, ?_, ?_, ?_⟩
  · intro p hp
    obtain ⟨k, x, y, h1, h2, h3, h4, h5, h6, h7, h8, h9⟩ := hpl p hp
    exact ⟨k, x, y, h1, h2, h3, h4, by rw [show s + 397 + 3 * p = s + (397 + 3 * p) by omega, hw _ (by omega), ← show s + 397 + 3 * p = s + (397 + 3 * p) by omega]; exact h5, h6, by rw [show s + 398 + 3 * p = s + (398 + 3 * p) by omega, hw _ (by omega), ← show s + 398 + 3 * p = s + (398 + 3 * p) by omega]; exact h7, h8, by rw [show s + 399 + 3 * p = s + (399 + 3 * p) by omega, hw _ (by omega), ← show s + 399 + 3 * p = s + (399 + 3 * p) by omega]; exact h9⟩
  · intro c hc
    obtain ⟨k, h1, h2, h3⟩ := hck c hc
    exact ⟨k, h1, h2, by rw [show s + 419 + c = s + (419 + c) by omega, hw _ (by omega), ← show s + 419 + c = s + (419 + c) by omega]; exact h3⟩
  · intro i hi
    exact RD_w hnc (fun j hj => by rw [show s + 44 + 44 * i + j = s + (44 + 44 * i + j) by omega]; exact hw _ (by omega)) (hPP i hi)
  · intro k hk
    obtain ⟨h1, h2, h3, h4, h5⟩ := hno k hk
    refine ⟨?_, ?_, ?_, h4, ?_⟩
    · rw [h1, show s + 423 + 4 * k = s + (423 + 4 * k) by omega, hw _ (by omega)]
    · rw [h2, show s + 424 + 4 * k = s + (424 + 4 * k) by omega, hw _ (by omega)]
    · rw [h3, show s + 425 + 4 * k = s + (425 + 4 * k) by omega, hw _ (by omega)]
    · rw [h5, show s + 426 + 4 * k = s + (426 + 4 * k) by omega, hw _ (by omega)]
  · intro j hj
    rw [hma j hj, show s + 448 + j = s + (448 + j) by omega, hw _ (by omega)]
/-- the rest stays, where the row is the same behind the country -/
theorem RR_w {x kf tf v0 : Nat → Int32} {f0 : Nat → Nat → Int32} {n0 : DD} {P0 : Nat → DD} {v1 : Nat → Int32} {f1 : Nat → Nat → Int32} {n1 : DD} {P1 : Nat → DD} {mv : Nat → Int32} {ma mb : Int64} {w w' tx : Nat → Int32} (hw : ∀ j, 479 ≤ j → j < 1437 → w' j = w j) (h : RR x kf tf v0 f0 n0 P0 v1 f1 n1 P1 mv ma mb w tx) : RR x kf tf v0 f0 n0 P0 v1 f1 n1 P1 mv ma mb w' tx := by
  obtain ⟨ht, h3, h4, h5, h1, h2, k0, k1, hk0, hk1, e0, e1, em, hi0, hi1⟩ := h
  exact ⟨ht, h3, h4, h5, h1, h2, k0, k1, hk0, hk1, e0, e1, em, fun q => RC_w (fun j hj => hw _ (by omega) (by omega)) (hi0 q), fun q => RC_w (fun j hj => hw _ (by omega) (by omega)) (hi1 q)⟩
