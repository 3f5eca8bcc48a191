/-! years. -/
theorem z_in_f {c n : Nat} (h : n ≤ c) (hc : c < 2 ^ 31) : z_in (nI c) n = false := by
  cases q : z_in (nI c) n
  · rfl
  · obtain ⟨k, hk, e⟩ := (z_in_iff (by omega)).mp q
    have := (nI_eq hc (by omega)).mp e
    omega
theorem mo_sleep {ti : Nat → Int32} {c h : Nat} (hc : c < 3) : p_X1_sleep (nI h) ti (nI c) = some (nI (h + 8), upd ti c 0) := by
  have : nI h + (8 : Int32) = nI (h + 8) := nI_add h 8
  simp (disch := omega) only [p_X1_sleep, z_in_n, z_gd_tt, nI_clamp, z_lt, this]
theorem mo_year {B : Nat} {w : Nat → Int32} {f : Nat → Nat → Int32} {d : DD} {np nc X : Nat} (hnp : np ≤ 7) (hnc : nc ≤ 3) (hB : B < 2 ^ 28) (hX : X < 2 ^ 31) (w418 : w 418 = nI np) (w422 : w 422 = nI nc) (hP : RP w 0 np nc f) (hD : RDg B w 1916 nc np d) :
    ∃ (r : Int32) (w' : Nat → Int32) (d' : DD), p_X7_travel (nI np) (nI nc) (f 0) (f 1) (f 2) (f 3) d.2.2.2.2.2.2.2.1 d.2.2.2.2.2.2.2.2 d.2.2.2.2.1 d.2.2.2.2.2.1 d.2.2.2.2.2.2.1 (nI (X / 65536 % 3)) (nI (X / 1048576 % 7)) = some (r, d'.2.2.2.2.2.2.2.1, d'.2.2.2.2.2.2.2.2, d'.2.2.2.2.1, d'.2.2.2.2.2.1, d'.2.2.2.2.2.2.1) ∧
      p_X8_yearIn w (nI X) = some (r, w') ∧ RDg (B + 8) w' 1916 nc np d' ∧ ∀ j, j < 1916 → w' j = w j := by
  obtain ⟨nd, h, hnd, hh, d7, w7, d6, w6, hat, hro, hle⟩ := id hD
  have hc3 : X / 65536 % 3 < 3 := Nat.mod_lt _ (by decide)
  have hp7 : X / 1048576 % 7 < 7 := Nat.mod_lt _ (by decide)
  have b1 : X / 65536 < 2 ^ 31 := Nat.lt_of_le_of_lt (Nat.div_le_self _ _) hX
  have b2' : X / 1048576 < 2 ^ 31 := Nat.lt_of_le_of_lt (Nat.div_le_self _ _) hX
  have k1 : nI X / (65536 : Int32) = nI (X / 65536) := pk_div (d := 65536) hX (by decide) (by decide)
  have k2 : nI X / (1048576 : Int32) = nI (X / 1048576) := pk_div (d := 1048576) hX (by decide) (by decide)
  have k3 : nI (X / 65536) - nI (X / 65536) / (3 : Int32) * (3 : Int32) = nI (X / 65536 % 3) := pk_rem (d := 3) b1 (by decide) (by decide)
  have k4 : nI (X / 1048576) - nI (X / 1048576) / (7 : Int32) * (7 : Int32) = nI (X / 1048576 % 7) := pk_rem (d := 7) b2' (by decide) (by decide)
  unfold p_X7_travel p_X8_yearIn
  simp only [z_lt, k1, k2, k3, k4, p8_isCrow w422 (by omega), p8_isPlace w418 (by omega), z_bd_some]
  generalize X / 65536 % 3 = c at *
  generalize X / 1048576 % 7 = p at *
  by_cases q1 : c < nc
  case neg =>
    have g1 : ¬ nI c < nI nc := fun z => q1 ((nI_ltI (by omega) (by omega)).mp z)
    have go : p_X8_goOn w (1916 : Int32) (1 : Int32) = some (upd w (1916 + 6) (nI (h + 1))) := mo_goOn (u := 1916) (k := 1) (by omega) w6 (by omega) (Or.inl rfl)
    simp only [if_neg g1, z_in_f (show nc ≤ c by omega) (by omega), b2_f0, if_true, go, z_bd_some]
    refine ⟨0, _, _, ?_, rfl, RDg_hour (H := h + 1) hnc (by omega) hD, fun j hj => ud_n (by omega)⟩
    rw [d6, nI_1]
  have g1 : nI c < nI nc := (nI_ltI (by omega) (by omega)).mpr q1
  obtain ⟨a, t, ha, ht, g3, g4, g5, g6⟩ := hat c q1
  have rs : p_X8_restIn w (1916 : Int32) (nI c) = some (nI t, upd (upd w (1916 + 3 + c) 0) (1916 + 6) (nI (h + 8))) := mo_restIn (u := 1916) (by omega) hc3 w6 g6 (by omega) (Or.inl ⟨rfl, rfl⟩)
  have sl : p_X1_sleep d.2.2.2.2.2.2.2.2 d.2.2.2.2.2.1 (nI c) = some (nI (h + 8), upd d.2.2.2.2.2.1 c 0) := by rw [d6]; exact mo_sleep hc3
  have hrest : RDg (B + 8) (upd (upd w (1916 + 3 + c) 0) (1916 + 6) (nI (h + 8))) 1916 nc np _ := RDg_hour (H := h + 8) hnc (by omega) (RDg_slept hnc q1 hD)
  simp only [if_pos g1, z_in_n q1 (show nc < 2 ^ 31 by omega), b2_t0, if_false]
  by_cases q2 : p < np
  case neg =>
    have g2 : nI np ≤ nI p := (nI_leI (by omega) (by omega)).mpr (by omega)
    simp only [if_pos g2, z_in_f (show np ≤ p by omega) (by omega), b2_f0, if_true, rs, sl, z_bd_some]
    refine ⟨0, _, _, rfl, rfl, hrest, fun j hj => ?_⟩
    simp (disch := omega) only [ud_n]
  have g2 : ¬ nI np ≤ nI p := fun z => absurd ((nI_leI (by omega) (by omega)).mp z) (by omega)
  have ic : z_in (nI c) 3 = true := z_in_n (by omega) (by decide)
  have iw : (1916 : Int32) + nI c = nI (1916 + c) := nI_add 1916 c
  have ix : z_in (nI (1916 + c)) 1960 = true := z_in_n (by omega) (by decide)
  simp only [if_neg g2, z_in_n q2 (show np < 2 ^ 31 by omega), b2_t0, if_false, ic, iw, ix, z_gd_tt, nI_clamp (show c < 2 ^ 31 by omega), nI_clamp (show 1916 + c < 2 ^ 31 by omega), g3, g4]
  by_cases q3 : a = p
  · have g7 : nI p = nI a := by rw [q3]
    simp only [if_pos g7, if_pos g7.symm, rs, sl, z_bd_some]
    refine ⟨0, _, _, rfl, rfl, hrest, fun j hj => ?_⟩
    simp (disch := omega) only [ud_n]
  · have g7 : ¬ nI a = nI p := nI_ne (by omega) (by omega) q3
    have g8 : ¬ nI p = nI a := fun z => g7 z.symm
    obtain ⟨g, w2, r, hg, f7, f8, hD2, hhr, hw2⟩ := mo_fly (s := 0) (u := 1916) (by omega) (by omega) hnp hnc (by omega) hP hD q1 q2 (Or.inl rfl)
    have f8' : p_X8_flyIn w (1916 : Int32) (0 : Int32) (nI c) (nI p) = some (nI g, w2) := f8
    simp only [if_neg g7, if_neg g8, f7, f8', z_bd_some]
    exact ⟨nI g, w2, _, rfl, rfl, RDg_b (by omega) hD2, fun j hj => hw2 j (Or.inl hj)⟩
theorem yr_x {Y : Nat} (hY : Y < 2 ^ 31) : ∃ Z : Nat, Z < 2 ^ 31 ∧ ((lN Y * (1103515245 : Int64)) + (12345 : Int64)) - ((lN Y * (1103515245 : Int64)) + (12345 : Int64)) / (2147483648 : Int64) * (2147483648 : Int64) = lN Z := by
  have hYb : Y * 1103515245 + 12345 < 2 ^ 63 := by omega
  refine ⟨(Y * 1103515245 + 12345) % 2147483648, Nat.mod_lt _ (by decide), ?_⟩
  rw [ll_1103515245, ll_12345, ll_2147483648, lN_mul, lN_add, pk_lRem hYb (by decide) (by decide)]
theorem yr_c {Z : Nat} (hZ : Z < 2 ^ 31) : (lN Z / (65536 : Int64) - lN Z / (65536 : Int64) / (3 : Int64) * (3 : Int64)).toInt32 = nI (Z / 65536 % 3) := by
  have b1 : Z / 65536 < 2 ^ 31 := Nat.lt_of_le_of_lt (Nat.div_le_self _ _) hZ
  rw [ll_65536, ll_3, pk_lDiv (by omega) (by decide) (by decide), pk_lRem (by omega) (by decide) (by decide), lN_i]
theorem yr_p {Z : Nat} (hZ : Z < 2 ^ 31) : (lN Z / (1048576 : Int64) - lN Z / (1048576 : Int64) / (7 : Int64) * (7 : Int64)).toInt32 = nI (Z / 1048576 % 7) := by
  have b1 : Z / 1048576 < 2 ^ 31 := Nat.lt_of_le_of_lt (Nat.div_le_self _ _) hZ
  rw [ll_1048576, ll_7, pk_lDiv (by omega) (by decide) (by decide), pk_lRem (by omega) (by decide) (by decide), lN_i]
theorem yr_loop {w : Nat → Int32} {f : Nat → Nat → Int32} {n tr : DD} {np nc X m : Nat} (hnp : np ≤ 7) (hnc : nc ≤ 3) (hX : X < 2 ^ 31) (hm : m ≤ 60) (w418 : w 418 = nI np) (w422 : w 422 = nI nc) (hP : RP w 0 np nc f) (hD : RD w 0 nc np n) : Al (z_lp (S := Int32 × Int32 × Int64 × Int32 × Int32 × (Nat → Int32) × (Nat → Int32) × (Nat → Int32)) (E := Int32 × Int32 × Int32 × (Nat → Int32) × (Nat → Int32) × (Nat → Int32)) (fun s12 =>
  if (nI m ≤ s12.1) then
  (some (.inr (s12.2.1, s12.2.2.2.1, s12.2.2.2.2.1, s12.2.2.2.2.2.1, s12.2.2.2.2.2.2.1, s12.2.2.2.2.2.2.2))) else
  (z_lt (((s12.2.2.1 * (1103515245 : Int64)) + (12345 : Int64))) fun x16 =>
  z_lt ((x16 - x16 / (2147483648 : Int64) * (2147483648 : Int64))) fun x17 =>
  z_lt ((x17 / (65536 : Int64))) fun x18 =>
  z_lt ((x17 / (1048576 : Int64))) fun x19 =>
  z_lt ((((x19 - x19 / (7 : Int64) * (7 : Int64))).toInt32)) fun x20 =>
  z_lt ((((x18 - x18 / (3 : Int64) * (3 : Int64))).toInt32)) fun x21 =>
  z_bd (p_X7_travel (nI np) (nI nc) (f 0) (f 1) (f 2) (f 3) s12.2.2.2.1 s12.2.2.2.2.1 s12.2.2.2.2.2.1 s12.2.2.2.2.2.2.1 s12.2.2.2.2.2.2.2 x21 x20) fun r22 =>
  z_lt ((s12.2.1 + r22.1)) fun x24 =>
  z_lt (s12.1 + (1 : Int32)) fun x25 =>
  some (.inl (x25, x24, x17, r22.2.1, r22.2.2.1, r22.2.2.2.1, r22.2.2.2.2.1, r22.2.2.2.2.2)))) ((0 : Int32), (0 : Int32), (nI X).toInt64, n.2.2.2.2.2.2.2.1, n.2.2.2.2.2.2.2.2, va_cpy n.2.2.2.2.1 tr.2.2.2.2.1 0 0 3, va_cpy n.2.2.2.2.2.1 tr.2.2.2.2.2.1 0 0 3, va_cpy n.2.2.2.2.2.2.1 tr.2.2.2.2.2.2.1 0 0 36))
  (z_lp (S := Int32 × Int32 × Int64 × (Nat → Int32)) (E := Int32 × (Nat → Int32)) (fun s12 =>
  if (nI m ≤ s12.1) then
  (some (.inr (s12.2.1, s12.2.2.2))) else
  (z_lt (((s12.2.2.1 * (1103515245 : Int64)) + (12345 : Int64))) fun x16 =>
  z_lt ((x16 - x16 / (2147483648 : Int64) * (2147483648 : Int64))) fun x17 =>
  z_lt (((x17).toInt32)) fun x18 =>
  z_bd (p_X8_yearIn s12.2.2.2 x18) fun r19 =>
  z_lt ((s12.2.1 + r19.1)) fun x21 =>
  z_lt (s12.1 + (1 : Int32)) fun x22 =>
  some (.inl (x22, x21, x17, r19.2)))) ((0 : Int32), (0 : Int32), (nI X).toInt64, va_cpy w w 0 1916 44)) (fun e g => e.1 = g.1 ∧ ∀ j, j < 1916 → g.2 j = w j) := by
  refine Al_lp m (fun i s t => s.1 = nI i ∧ t.1 = nI i ∧ s.2.1 = t.2.1 ∧ (∃ Y : Nat, Y < 2 ^ 31 ∧ s.2.2.1 = lN Y ∧ t.2.2.1 = lN Y) ∧ RDg (9999 + 8 * i) t.2.2.2 1916 nc np (0, 0, 0, 0, s.2.2.2.2.2.1, s.2.2.2.2.2.2.1, s.2.2.2.2.2.2.2, s.2.2.2.1, s.2.2.2.2.1) ∧ ∀ j, j < 1916 → t.2.2.2 j = w j) _ ?_ ?_ _ _ ?_
  · rintro i ⟨s1, s2, s3, sd, sh, sa, st, sr⟩ ⟨t1, t2, t3, tw⟩ hi ⟨g1, g2, g3, ⟨Y, hY, g4, g5⟩, hDi, hout⟩
    simp only at g1 g2 g3 g4 g5 hDi hout
    subst g1 g2 g3 g4 g5
    obtain ⟨Z, hZ, y2⟩ := yr_x hY
    simp only [z_lt_n, y2]
    obtain ⟨r, w', d', k1, k2, k3, k4⟩ := mo_year hnp hnc (B := 9999 + 8 * i) (by omega) hZ ((hout 418 (by omega)).trans w418) ((hout 422 (by omega)).trans w422) (RP_w hnp hnc (fun j h1 h2 => hout _ (by omega)) hP) hDi
    simp (disch := omega) only [yr_c hZ, yr_p hZ, lN_i, nI_leI, if_neg, k1, k2, z_bd_some, nI_1]
    exact Lp2_l ⟨rfl, rfl, rfl, ⟨Z, hZ, rfl, rfl⟩, RDg_b (by omega) k3, fun j hj => (k4 j hj).trans (hout j hj)⟩
  · rintro ⟨s1, s2, s3, sd, sh, sa, st, sr⟩ ⟨t1, t2, t3, tw⟩ ⟨g1, g2, g3, -, -, hout⟩
    simp only at g1 g2 g3 hout
    subst g1 g2 g3
    simp (disch := omega) only [nI_leI, if_pos]
    exact Lp2_r ⟨rfl, hout⟩
  · refine ⟨rfl, rfl, rfl, ⟨X, by omega, nI_l (by omega), nI_l (by omega)⟩, RDg_cp hnc (fun j hj => ?_) (fun j hj => cp_eq hj) (fun j hj => cp_eq hj) (fun j hj => cp_eq hj) rfl rfl (RDg_b (by omega) (RDg_of hD)), fun j hj => pk_cpy_out (by omega)⟩
    dsimp only
    rw [pk_cpy_in (by omega) (by omega)]
    exact congrArg w (by omega)
theorem q_29 {x : Nat → Int32} {v : Nat → Int32} {f : Nat → Nat → Int32} {n : DD} {P : Nat → DD} {kf : Nat → Int32} {tf : Nat → Int32} {tr : DD} {v0 : Nat → Int32} {f0 : Nat → Nat → Int32} {n0 : DD} {P0 : Nat → DD} {v1 : Nat → Int32} {f1 : Nat → Nat → Int32} {n1 : DD} {P1 : Nat → DD} {mv : Nat → Int32} {ma : Int64} {mb : Int64} {w : Nat → Int32} {tx : Nat → Int32} (hR : RelX x v f n P kf tf v0 f0 n0 P0 v1 f1 n1 P1 mv ma mb w tx) (c1 : Int32) (c2 : Int32) : ∃ (r7 : Int32 × Int32 × Int32 × Int32 × (Nat → Int32) × (Nat → Int32) × (Nat → Int32)) (r8 : Int32 × Int32 × (Nat → Int32)), p_X7_years (x 3) (v 0) (v 1) (f 0) (f 1) (f 2) (f 3) n.2.2.2.2.2.2.2.1 n.2.2.2.2.2.2.2.2 n.2.2.2.2.1 n.2.2.2.2.2.1 n.2.2.2.2.2.2.1 tr.2.2.2.2.2.2.2.1 tr.2.2.2.2.2.2.2.2 tr.2.2.2.2.1 tr.2.2.2.2.2.1 tr.2.2.2.2.2.2.1 c1 c2 = some r7 ∧ p_X8_years (mv 2) w c1 c2 = some r8 ∧ r7.1 = r8.1 ∧ RelX (va_up x 3 r7.2.1) v f n P kf tf v0 f0 n0 P0 v1 f1 n1 P1 (va_up mv 2 r8.2.1) ma mb r8.2.2 tx := by
  obtain ⟨hC, hRR⟩ := hR
  obtain ⟨ht, hb, hno', hfu, hrest⟩ := id hRR
  obtain ⟨np, nc, hnp, hnc, e0, w418, e1, w422, hP, hD⟩ := RC_get hC
  have cr : p_X8_copyRow w (0 : Int32) (1916 : Int32) (44 : Int32) = some (va_cpy w w 0 1916 44) := p8_copyRow w (x := 0) (y := 1916) (m := 44) (by omega) (by omega) (by omega)
  have rb7 : ∀ b, p_X7_refuseBad b = some ((-2 : Int32), b + 1) := fun _ => rfl
  have rb8 : ∀ b, p_X8_bad b = some ((-2 : Int32), b + 1) := fun _ => rfl
  have be : p_X1_become tr.2.2.2.2.2.2.2.1 tr.2.2.2.2.2.2.2.2 tr.2.2.2.2.1 tr.2.2.2.2.2.1 tr.2.2.2.2.2.2.1 n.2.2.2.2.2.2.2.1 n.2.2.2.2.2.2.2.2 n.2.2.2.2.1 n.2.2.2.2.2.1 n.2.2.2.2.2.2.1 = some (n.2.2.2.2.2.2.2.1, n.2.2.2.2.2.2.2.2, va_cpy n.2.2.2.2.1 tr.2.2.2.2.1 0 0 3, va_cpy n.2.2.2.2.2.1 tr.2.2.2.2.2.1 0 0 3, va_cpy n.2.2.2.2.2.2.1 tr.2.2.2.2.2.2.1 0 0 36) := rfl
  unfold p_X7_years p_X8_years
  simp only [e0, e1, hb, p7_within, p8_in, z_rg999999, z_rg60, z_bd_some, rb7, rb8, be, cr]
  cases h1 : z_in c1 1000000
  · simp only [b2_f0, if_true]
    exact ⟨_, _, rfl, rfl, rfl, hC, ht, rfl, hno', hfu, hrest⟩
  cases h2 : z_in c2 61
  · simp only [b2_f0, b2_t0, if_true, if_false]
    exact ⟨_, _, rfl, rfl, rfl, hC, ht, rfl, hno', hfu, hrest⟩
  simp only [b2_t0, if_false]
  obtain ⟨X, hX, rfl⟩ := (z_in_iff (by decide)).mp h1
  obtain ⟨m, hm, rfl⟩ := (z_in_iff (by decide)).mp h2
  have key := yr_loop (tr := tr) (X := X) (m := m) hnp hnc (by omega) (by omega) w418 w422 hP hD
  obtain ⟨e, g, k1, k2, k3, k4⟩ := key
  exact ⟨_, _, z_bd_s k1, z_bd_s k2, k3, RC_w (fun j hj => k4 _ (by omega)) hC, RR_w (fun j h1 h2 => k4 j (by omega)) ⟨ht, rfl, hno', hfu, hrest⟩⟩
