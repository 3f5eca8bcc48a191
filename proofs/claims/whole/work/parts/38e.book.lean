/-! What the books say: deeds, counts. -/
section RX
variable {x v : Nat → Int32} {f : Nat → Nat → Int32} {n : DD} {P : Nat → DD} {kf tf v0 : Nat → Int32} {f0 : Nat → Nat → Int32} {n0 : DD} {P0 : Nat → DD} {v1 : Nat → Int32} {f1 : Nat → Nat → Int32} {n1 : DD} {P1 : Nat → DD} {mv : Nat → Int32} {ma mb : Int64} {w tx : Nat → Int32}
theorem RX_bn (hR : RelX x v f n P kf tf v0 f0 n0 P0 v1 f1 n1 P1 mv ma mb w tx) {p q : Option (Int32 × Int32 × Int32)} (h : ∃ r, p = some r ∧ q = some r) : ∃ (r7 r8 : Int32 × Int32 × Int32), p = some r7 ∧ q = some r8 ∧ r7.1 = r8.1 ∧ RelX (va_up (va_up x 3 r7.2.1) 4 r7.2.2) v f n P kf tf v0 f0 n0 P0 v1 f1 n1 P1 (va_up (va_up mv 2 r8.2.1) 3 r8.2.2) ma mb w tx := by
  obtain ⟨r, h1, h2⟩ := h
  exact ⟨r, r, h1, h2, rfl, hR.1, hR.2.1, rfl, rfl, hR.2.2.2.2.1, hR.2.2.2.2.2.1, hR.2.2.2.2.2.2.1, hR.2.2.2.2.2.2.2⟩
end RX
theorem q_19 {x : Nat → Int32} {v : Nat → Int32} {f : Nat → Nat → Int32} {n : DD} {P : Nat → DD} {kf : Nat → Int32} {tf : Nat → Int32} {v0 : Nat → Int32} {f0 : Nat → Nat → Int32} {n0 : DD} {P0 : Nat → DD} {v1 : Nat → Int32} {f1 : Nat → Nat → Int32} {n1 : DD} {P1 : Nat → DD} {mv : Nat → Int32} {ma : Int64} {mb : Int64} {w : Nat → Int32} {tx : Nat → Int32} (hR : RelX x v f n P kf tf v0 f0 n0 P0 v1 f1 n1 P1 mv ma mb w tx) (c1 : Int32) (c2 : Int32) : ∃ (r7 : Int32 × Int32 × Int32) (r8 : Int32 × Int32 × Int32), p_X7_book (x 3) (x 4) n.2.2.2.2.2.2.2.1 n.2.2.2.2.2.2.1 c1 c2 = some r7 ∧ p_X8_book (mv 2) (mv 3) w c1 c2 = some r8 ∧ r7.1 = r8.1 ∧ RelX (va_up (va_up x 3 r7.2.1) 4 r7.2.2) v f n P kf tf v0 f0 n0 P0 v1 f1 n1 P1 (va_up (va_up mv 2 r8.2.1) 3 r8.2.2) ma mb w tx := by
  refine RX_bn hR ?_
  have hb := hR.2.2.1
  have hn := hR.2.2.2.1
  obtain ⟨np, nc, hnp, hnc, e0, w418, e1, w422, hP, nd, h, hnd, hh, d7, w7, d6, w6, hat, hro, hle⟩ := RC_get hR.1
  rw [Nat.zero_add] at w7
  simp only [p_X7_book, p_X8_book, hb, hn, p7_within, p8_in, z_rg1, z_bd_some, p_X7_refuseBad, p_X8_bad, p_X7_refuseNo, p_X8_no, z_lt, d7, w7]
  by_cases h0 : c1 < 0
  · simp only [if_pos h0]; exact ⟨_, rfl, rfl⟩
  simp only [if_neg h0]
  cases h2 : z_in c2 2
  · simp only [b2_f0, if_true]; exact ⟨_, rfl, rfl⟩
  simp only [b2_t0, if_false]
  by_cases h3 : c1 < nI nd
  · simp only [if_pos h3]
    obtain ⟨k, hk, rfl⟩ := (z_in_iff (n := nd) (by omega)).mp ((z_btl c1 nd (by omega)).mp ⟨Int32.not_lt.mp h0, h3⟩)
    have r0 : n.2.2.2.2.2.2.1 (k * 3) = w (8 + 3 * k) := by rw [hro _ (by omega)]; congr 1; omega
    have r1 : n.2.2.2.2.2.2.1 (k * 3 + 1) = w (8 + 3 * k + 1) := by rw [hro _ (by omega)]; congr 1; omega
    have r2 : n.2.2.2.2.2.2.1 (k * 3 + 2) = w (8 + 3 * k + 2) := by rw [hro _ (by omega)]; congr 1; omega
    simp (disch := omega) only [p_X1_deedEnds, p_X1_deedLength, z_lt, li_1, li_2, li_3, li_8, nI_add, pk_mul, z_in_n, z_gd_tt, nI_clamp, r0, r1, r2, z_bd_some, z_bd_ite]
    exact ⟨_, rfl, rfl⟩
  · simp only [if_neg h3]; exact ⟨_, rfl, rfl⟩
theorem mo_lengths {w r : Nat → Int32} {nd : Nat} (hnd : nd ≤ 12) (w7 : w 7 = nI nd) (hro : ∀ j, j < 3 * nd → r j = w (8 + j)) : Al (p_X1_lengths (nI nd) r) (p_X8_lengths w) Eq := by
  unfold p_X1_lengths p_X8_lengths
  simp only [w7]
  refine Al_bd Eq (Al_lp nd (fun i s t => s.1 = nI i ∧ s = t) Eq ?_ ?_ _ _ ⟨rfl, rfl⟩) (fun a b h => Al_s h)
  · rintro i s _ hi ⟨e, rfl⟩
    have r2 : r (i * 3 + 2) = w (8 + 3 * i + 2) := by rw [hro _ (by omega)]; congr 1; omega
    simp (disch := omega) only [e, nI_leI, if_neg, p_X1_deedLength, z_lt, li_1, li_2, li_3, li_8, nI_add, pk_mul, z_in_n, z_gd_tt, nI_clamp, r2, z_bd_some]
    exact Lp2_l ⟨rfl, rfl⟩
  · rintro s _ ⟨e, rfl⟩
    simp (disch := omega) only [e, nI_leI, if_pos]
    exact Lp2_r rfl
theorem RX_amount {x v : Nat → Int32} {f : Nat → Nat → Int32} {n : DD} {P : Nat → DD} {kf tf v0 : Nat → Int32} {f0 : Nat → Nat → Int32} {n0 : DD} {P0 : Nat → DD} {v1 : Nat → Int32} {f1 : Nat → Nat → Int32} {n1 : DD} {P1 : Nat → DD} {mv : Nat → Int32} {ma mb : Int64} {w tx : Nat → Int32} (hR : RelX x v f n P kf tf v0 f0 n0 P0 v1 f1 n1 P1 mv ma mb w tx) (c1 : Int32) : Al (p_X7_amount (x 0) (v 0) (v 1) (v 2) n.2.2.2.2.2.2.2.1 n.2.2.2.2.2.2.2.2 n.2.2.2.2.2.2.1 (v 3) (v 4) c1) (p_X8_counted (mv 1) w c1) Eq := by
  obtain ⟨⟨np, nc, nb, nn, nm, hnp, hnc, hnb, hnn, hnm, e0, w418, e1, w422, e2, w396, e3, w447, e4, w478, hpl, hck, hD, hPP, hno, hma⟩, ⟨nt, hnt, hx0, hm1, htx⟩, -⟩ := hR
  obtain ⟨nd, hh, hnd, hhh, d7, w7, d6, w6, hat, hro, hle⟩ := hD
  simp only [Nat.zero_add] at w418 w422 w396 w447 w478 w7 w6 hro
  simp only [p_X7_amount, p_X8_counted, e0, e1, e2, e3, e4, w418, w422, w396, w447, w478, w7, w6, d7, d6, hx0, hm1]
  obtain ⟨a, b, h1, h2, rfl⟩ := mo_lengths hnd w7 hro
  simp only [h1, h2, z_bd_some]
  by_cases g0 : c1 = 0
  · simp only [if_pos g0]; exact Al_e
  by_cases g1 : c1 = 1
  · simp only [if_neg g0, if_pos g1]; exact Al_e
  by_cases g2 : c1 = 2
  · simp only [if_neg g0, if_neg g1, if_pos g2]; exact Al_e
  by_cases g3 : c1 = 3
  · simp only [if_neg g0, if_neg g1, if_neg g2, if_pos g3]; exact Al_e
  by_cases g4 : c1 = 4
  · simp only [if_neg g0, if_neg g1, if_neg g2, if_neg g3, if_pos g4]; exact Al_e
  by_cases g5 : c1 = 5
  · simp only [if_neg g0, if_neg g1, if_neg g2, if_neg g3, if_neg g4, if_pos g5]; exact Al_e
  by_cases g6 : c1 = 6
  · simp only [if_neg g0, if_neg g1, if_neg g2, if_neg g3, if_neg g4, if_neg g5, if_pos g6]; exact Al_e
  by_cases g7 : c1 = 7
  · simp only [if_neg g0, if_neg g1, if_neg g2, if_neg g3, if_neg g4, if_neg g5, if_neg g6, if_pos g7]; exact Al_e
  · simp only [if_neg g0, if_neg g1, if_neg g2, if_neg g3, if_neg g4, if_neg g5, if_neg g6, if_neg g7]; exact Al_e
theorem q_34 {x : Nat → Int32} {v : Nat → Int32} {f : Nat → Nat → Int32} {n : DD} {P : Nat → DD} {kf : Nat → Int32} {tf : Nat → Int32} {v0 : Nat → Int32} {f0 : Nat → Nat → Int32} {n0 : DD} {P0 : Nat → DD} {v1 : Nat → Int32} {f1 : Nat → Nat → Int32} {n1 : DD} {P1 : Nat → DD} {mv : Nat → Int32} {ma : Int64} {mb : Int64} {w : Nat → Int32} {tx : Nat → Int32} (hR : RelX x v f n P kf tf v0 f0 n0 P0 v1 f1 n1 P1 mv ma mb w tx) (c1 : Int32) : ∃ (r7 : Int32 × Int32) (r8 : Int32 × Int32), p_X7_count (x 0) (x 3) (v 0) (v 1) (v 2) n.2.2.2.2.2.2.2.1 n.2.2.2.2.2.2.2.2 n.2.2.2.2.2.2.1 (v 3) (v 4) c1 = some r7 ∧ p_X8_count (mv 1) (mv 2) w c1 = some r8 ∧ r7.1 = r8.1 ∧ RelX (va_up x 3 r7.2) v f n P kf tf v0 f0 n0 P0 v1 f1 n1 P1 (va_up mv 2 r8.2) ma mb w tx := by
  refine RX_ro hR ?_
  have hb := hR.2.2.1
  obtain ⟨a, b, h1, h2, rfl⟩ := RX_amount hR c1
  simp only [p_X7_count, p_X8_count, h1, h2, hb, p7_within, p8_in, z_bd_some, p_X7_refuseBad, p_X8_bad, z_lt, z_bd_ite]
  exact ⟨_, rfl, rfl⟩
/-- the deeds' ends -/
theorem mo_isDeed {w r : Nat → Int32} {nd k : Nat} (hnd : nd ≤ 12) (hro : ∀ j, j < 3 * nd → r j = w (8 + j)) (hk : k < nd) (a b : Int32) : ∃ q : Bool, p_X1_isDeed r (nI k) a b = some (b2 q) ∧ p_X8_isDeed w (nI k) a b = some (b2 q) := by
  have r0 : r (k * 3) = w (8 + 3 * k) := by rw [hro _ (by omega)]; congr 1; omega
  have r1 : r (k * 3 + 1) = w (8 + 3 * k + 1) := by rw [hro _ (by omega)]; congr 1; omega
  simp (disch := omega) only [p_X1_isDeed, p_X8_isDeed, z_lt, li_1, li_2, li_3, li_8, nI_add, pk_mul, z_in_n, z_gd_tt, nI_clamp, r0, r1]
  by_cases h1 : w (8 + 3 * k) = a
  · by_cases h2 : w (8 + 3 * k + 1) = b
    · refine ⟨true, ?_, ?_⟩ <;> simp only [if_pos h1, if_pos h2, z_bd_some] <;> rfl
    · refine ⟨false, ?_, ?_⟩ <;> simp only [if_pos h1, if_neg h2, z_bd_some] <;> rfl
  · refine ⟨false, ?_, ?_⟩ <;> simp only [if_neg h1, z_bd_some] <;> rfl
theorem mo_apart {w r : Nat → Int32} {nd : Nat} (hnd : nd ≤ 12) (w7 : w 7 = nI nd) (hro : ∀ j, j < 3 * nd → r j = w (8 + j)) (hle : ∀ k, k < nd → ∃ g : Nat, g ≤ 2000 ∧ w (8 + (3 * k + 2)) = nI g) (a b : Int32) {l : Nat} (hl : l ≤ 2000) : ∃ g : Nat, g ≤ 24000 ∧ p_X1_apartFrom (nI nd) r a b (nI l) = some (nI g) ∧ p_X8_apart w a b (nI l) = some (nI g) := by
  have h : Al (p_X1_apartFrom (nI nd) r a b (nI l)) (p_X8_apart w a b (nI l)) (fun s t => s = t ∧ ∃ g : Nat, g ≤ 2000 * nd ∧ s = nI g) := by
    unfold p_X1_apartFrom p_X8_apart
    simp only [w7]
    refine Al_bd _ (Al_lp nd (fun i s t => s.1 = nI i ∧ s = t ∧ ∃ g : Nat, g ≤ 2000 * i ∧ s.2 = nI g) (fun s t => s = t ∧ ∃ g : Nat, g ≤ 2000 * nd ∧ s = nI g) ?_ ?_ _ _ ⟨rfl, rfl, 0, by omega, rfl⟩) (fun a b h => Al_s h)
    · rintro i s _ hi ⟨e, rfl, g, hg, eg⟩
      obtain ⟨q, q1, q2⟩ := mo_isDeed hnd hro hi a b
      obtain ⟨m, hm, em⟩ := hle i hi
      have e1 : r (i * 3 + 2) = nI m := by rw [hro _ (by omega), ← em]; congr 1; omega
      have e2 : w (8 + 3 * i + 2) = nI m := by rw [← em]; congr 1
      simp (disch := omega) only [e, eg, nI_leI, if_neg, p_X1_deedLength, z_lt, li_1, li_2, li_3, li_8, nI_add, pk_mul, z_in_n, z_gd_tt, nI_clamp, q1, q2, e1, e2, z_bd_some]
      cases q
      · simp only [b2_f, if_true, z_bd_some]
        refine Lp2_l ⟨rfl, ?_, g, by omega, rfl⟩
        rw [show nI g + (0 : Int32) = nI g from nI_add g 0]
      · simp only [show ¬ b2 true = 0 from by decide, if_false, z_bd_ite, z_bd_some, z_neg]
        refine Lp2_l ⟨rfl, rfl, ?_⟩
        have hab : ∃ d : Nat, d ≤ 2000 ∧ (if (0 : Int32) ≤ nI m - nI l then nI m - nI l else -(nI m - nI l)) = nI d := by
          have ht := pk_sub_toInt (a := m) (b := l) (by omega) (by omega)
          by_cases h : (0 : Int32) ≤ nI m - nI l
          · rw [if_pos h]
            have h1 := Int32.le_iff_toInt_le.mp h
            rw [ht] at h1
            have h2 : (0 : Int32).toInt = 0 := rfl
            rw [h2] at h1
            exact ⟨m - l, by omega, pk_sub (by omega)⟩
          · rw [if_neg h]
            have h1 : ¬ (0 : Int) ≤ (m : Int) - l := fun z => h (Int32.le_iff_toInt_le.mpr (by rw [ht]; exact z))
            refine ⟨l - m, by omega, ?_⟩
            rw [← pk_sub (show m ≤ l by omega)]
            apply Int32.toBitVec_inj.mp
            rw [Int32.toBitVec_neg, Int32.toBitVec_sub, Int32.toBitVec_sub]
            bv_omega
        obtain ⟨d, hd, ed⟩ := hab
        exact ⟨g + d, by omega, by show nI g + _ = _; rw [ed, nI_add]⟩
    · rintro s _ ⟨e, rfl, hg⟩
      simp (disch := omega) only [e, nI_leI, if_pos]
      exact Lp2_r ⟨rfl, hg⟩
  obtain ⟨s, t, h1, h2, rfl, g, hg, rfl⟩ := h
  exact ⟨g, by omega, h1, h2⟩
