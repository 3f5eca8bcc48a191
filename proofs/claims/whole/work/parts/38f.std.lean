/-! standard and late. -/
def mn1 : Int32 := -1
theorem mn1_e : (-1 : Int32) = mn1 := rfl
theorem mn1_n {b : Nat} (h : b < 2 ^ 31) : ¬ nI b = mn1 := by
  intro e
  have h1 := congrArg Int32.toInt e
  rw [nI_toInt h] at h1
  have h2 : mn1.toInt = -1 := by decide
  rw [h2] at h1
  omega
theorem mn1_le {b : Nat} (h : b < 2 ^ 31) : ¬ nI b ≤ mn1 := by
  intro e
  have h1 := Int32.le_iff_toInt_le.mp e
  rw [nI_toInt h] at h1
  have h2 : mn1.toInt = -1 := by decide
  rw [h2] at h1
  omega
theorem q_18 {x : Nat → Int32} {v : Nat → Int32} {f : Nat → Nat → Int32} {n : DD} {P : Nat → DD} {kf : Nat → Int32} {tf : Nat → Int32} {v0 : Nat → Int32} {f0 : Nat → Nat → Int32} {n0 : DD} {P0 : Nat → DD} {v1 : Nat → Int32} {f1 : Nat → Nat → Int32} {n1 : DD} {P1 : Nat → DD} {mv : Nat → Int32} {ma : Int64} {mb : Int64} {w : Nat → Int32} {tx : Nat → Int32} (hR : RelX x v f n P kf tf v0 f0 n0 P0 v1 f1 n1 P1 mv ma mb w tx) (c1 : Int32) (c2 : Int32) : ∃ (r7 : Int32 × Int32) (r8 : Int32 × Int32), p_X7_standard (x 3) (v 0) n.2.2.2.2.2.2.2.1 n.2.2.2.2.2.2.1 c1 c2 = some r7 ∧ p_X8_standard (mv 2) w c1 c2 = some r8 ∧ r7.1 = r8.1 ∧ RelX (va_up x 3 r7.2) v f n P kf tf v0 f0 n0 P0 v1 f1 n1 P1 (va_up mv 2 r8.2) ma mb w tx := by
  refine RX_ro hR (Al_ro ?_)
  have hb := hR.2.2.1
  obtain ⟨np, nc, hnp, hnc, e0, w418, e1, w422, hP, nd, h, hnd, hh, d7, w7, d6, w6, hat, hro, hle⟩ := RC_get hR.1
  simp only [Nat.zero_add] at w7 hro hle
  simp only [p_X7_standard, p_X8_standard, e0, hb, p0_hasPlace (n := np) (by omega), p8_isPlace w418 (by omega), z_bd_some, p_X7_refuseBad, p_X8_bad, z_lt, d7, w7, p_X1_middleLength, mn1_e]
  cases hc : z_in c1 np
  · simp only [b2_f0, if_true]
    exact Al_e
  simp only [b2_t0, if_false]
  cases hc2 : z_in c2 np
  · simp only [b2_f0, if_true]
    exact Al_e
  simp only [b2_t0, if_false]
  have hL : ∀ {b : Int32 × Int32 × Int32 → Option ((Int32 × Int32 × Int32) ⊕ Int32)} {c : Int32 × Int32 × Int32 → Option ((Int32 × Int32 × Int32) ⊕ Int32)}, Al (z_lp b ((0 : Int32), (0 : Int32), mn1)) (z_lp c ((0 : Int32), (99999999 : Int32), mn1)) Eq → Al (z_bd (z_bd (z_lp b ((0 : Int32), (0 : Int32), mn1)) fun e2 => some e2) fun r9 => some (r9, mv 2)) (z_bd (z_lp c ((0 : Int32), (99999999 : Int32), mn1)) fun e10 => some (e10, mv 2)) Eq := by
    intro b c hl
    obtain ⟨a, b, h1, h2, rfl⟩ := hl
    rw [z_bd_s h1, z_bd_s h2]
    exact Al_e
  refine hL (Al_lp nd (fun i s t => s.1 = nI i ∧ t.1 = nI i ∧ s.2.2 = t.2.2 ∧ ((t.2.2 = mn1 ∧ t.2.1 = 99999999) ∨ (s.2.1 = t.2.1 ∧ (∃ b : Nat, b ≤ 2000 ∧ t.2.2 = nI b) ∧ ∃ g : Nat, g ≤ 24000 ∧ t.2.1 = nI g))) Eq ?_ ?_ _ _ ⟨rfl, rfl, rfl, Or.inl ⟨rfl, rfl⟩⟩)
  · rintro i ⟨s1, s2, s3⟩ ⟨t1, t2, t3⟩ hi ⟨e1, e2, e3, e4⟩
    simp only at e1 e2 e3 e4
    subst e1 e2 e3
    obtain ⟨q, q1, q2⟩ := mo_isDeed hnd hro hi c1 c2
    obtain ⟨m, hm, em⟩ := hle i hi
    have em1 : n.2.2.2.2.2.2.1 (i * 3 + 2) = nI m := by rw [hro _ (by omega), ← em]; congr 1; omega
    have em2 : w (8 + 3 * i + 2) = nI m := by rw [← em]; congr 1
    obtain ⟨g, hg, a1, a2⟩ := mo_apart hnd w7 hro hle c1 c2 hm
    simp (disch := omega) only [nI_leI, if_neg, p_X1_deedLength, z_lt, li_1, li_2, li_3, li_8, nI_add, pk_mul, z_in_n, z_gd_tt, nI_clamp, q1, q2, em1, em2, z_bd_some]
    cases q
    · simp only [b2_f, if_true, z_bd_some]
      exact Lp2_l ⟨rfl, rfl, rfl, e4⟩
    · simp only [show ¬ b2 true = 0 from by decide, if_false, a1, a2, z_bd_some]
      rcases e4 with ⟨e4, e5⟩ | ⟨e4, ⟨bb, hbb, e5⟩, gg, hgg, e6⟩
      · subst e4 e5
        simp (disch := omega) only [li_99999999, nI_ltI, nI_leI, nI_eq, if_pos, if_neg, z_bd_some, show ¬ nI 1 = (0 : Int32) from by decide, if_false, if_true]
        exact Lp2_l ⟨rfl, rfl, rfl, Or.inr ⟨rfl, ⟨m, hm, rfl⟩, g, hg, rfl⟩⟩
      · subst e4 e5 e6
        simp (disch := omega) only [nI_ltI, nI_leI, nI_eq, mn1_n, if_false]
        rcases Nat.lt_trichotomy g gg with q | q | q
        · simp (disch := omega) only [if_pos, if_neg, z_bd_some, show ¬ nI 1 = (0 : Int32) from by decide, if_false]
          exact Lp2_l ⟨rfl, rfl, rfl, Or.inr ⟨rfl, ⟨m, hm, rfl⟩, g, hg, rfl⟩⟩
        · subst q
          by_cases q : bb ≤ m
          · simp (disch := omega) only [if_pos, if_neg, z_bd_some, if_true]
            exact Lp2_l ⟨rfl, rfl, rfl, Or.inr ⟨rfl, ⟨bb, hbb, rfl⟩, g, hg, rfl⟩⟩
          · simp (disch := omega) only [if_pos, if_neg, z_bd_some, show ¬ nI 1 = (0 : Int32) from by decide, if_false]
            exact Lp2_l ⟨rfl, rfl, rfl, Or.inr ⟨rfl, ⟨m, hm, rfl⟩, g, hg, rfl⟩⟩
        · simp (disch := omega) only [if_pos, if_neg, z_bd_some, if_true]
          exact Lp2_l ⟨rfl, rfl, rfl, Or.inr ⟨rfl, ⟨bb, hbb, rfl⟩, gg, hgg, rfl⟩⟩
  · rintro ⟨s1, s2, s3⟩ ⟨t1, t2, t3⟩ ⟨e1, e2, e3, e4⟩
    simp only at e1 e2 e3 e4
    subst e1 e2 e3
    simp (disch := omega) only [nI_leI, if_pos]
    exact Lp2_r rfl
theorem Al_lpr {T F α : Type} {c : T → Option (T ⊕ F)} {p : Option α} {R : α → F → Prop} {t t' : T} (h : c t = some (.inl t')) (hk : Al p (z_lp c t') R) : Al p (z_lp c t) R := by
  rw [z_lp_go h]; exact hk
theorem q_17 {x : Nat → Int32} {v : Nat → Int32} {f : Nat → Nat → Int32} {n : DD} {P : Nat → DD} {kf : Nat → Int32} {tf : Nat → Int32} {v0 : Nat → Int32} {f0 : Nat → Nat → Int32} {n0 : DD} {P0 : Nat → DD} {v1 : Nat → Int32} {f1 : Nat → Nat → Int32} {n1 : DD} {P1 : Nat → DD} {mv : Nat → Int32} {ma : Int64} {mb : Int64} {w : Nat → Int32} {tx : Nat → Int32} (hR : RelX x v f n P kf tf v0 f0 n0 P0 v1 f1 n1 P1 mv ma mb w tx) (c1 : Int32) (c2 : Int32) (c3 : Int32) (c4 : Int32) : ∃ (r7 : Int32 × Int32) (r8 : Int32 × Int32), p_X7_late (x 3) (v 0) (v 1) (f 0) (f 1) (f 2) (f 3) n.2.2.2.2.2.1 c1 c2 c3 c4 = some r7 ∧ p_X8_late (mv 2) w c1 c2 c3 c4 = some r8 ∧ r7.1 = r8.1 ∧ RelX (va_up x 3 r7.2) v f n P kf tf v0 f0 n0 P0 v1 f1 n1 P1 (va_up mv 2 r8.2) ma mb w tx := by
  refine RX_ro hR (Al_ro ?_)
  have hb := hR.2.2.1
  obtain ⟨np, nc, hnp, hnc, e0, w418, e1, w422, hP, nd, h, hnd, hh, d7, w7, d6, w6, hat, hro, hle⟩ := RC_get hR.1
  simp only [p_X7_late, p_X8_late, e0, e1, hb, p7_isTrip hnp hnc, p8_isCrow w422 (by omega), p8_isPlace w418 (by omega), p7_within, p8_in, z_rg1, z_bd_some, p_X7_refuseBad, p_X8_bad, z_lt, mn1_e]
  cases hc : z_in c1 nc
  · simp only [b2_f0, if_true, Bool.false_and]
    exact Al_e
  cases h2 : z_in c2 np
  · simp only [b2_t0, b2_f0, if_true, if_false, Bool.false_and, Bool.true_and]
    exact Al_e
  cases h3 : z_in c3 np
  · simp only [b2_t0, b2_f0, if_true, if_false, Bool.true_and]
    exact Al_e
  cases h4 : z_in c4 2
  · simp only [b2_t0, b2_f0, if_true, if_false, Bool.true_and]
    exact Al_e
  simp only [b2_t0, if_false, Bool.true_and]
  obtain ⟨c, hc', rfl⟩ := (z_in_iff (by omega)).mp hc
  obtain ⟨a, ha, rfl⟩ := (z_in_iff (by omega)).mp h2
  obtain ⟨b, hb', rfl⟩ := (z_in_iff (by omega)).mp h3
  obtain ⟨at', tt, -, htt, -, -, g5, g6⟩ := hat c hc'
  have hf : ∀ t, t < 24 → ∃ g : Nat, g ≤ 600 ∧ p_X0_farAt (f 0) (f 1) (f 2) (f 3) (nI c) (nI a) (nI b) (nI tt) (nI t) = some (nI g) ∧ p_X8_farAt w (0 : Int32) (0 : Int32) (nI c) (nI a) (nI b) (nI t) = some (nI g) := by
    intro t ht
    have := mo_farAt (s := 0) (u := 0) (h := t) (by omega) (by omega) hnp hnc hP hc' ha hb' htt g6 (by omega)
    rw [Nat.mod_eq_of_lt ht, ni0] at this
    exact this
  have ic : z_in (nI c) 3 = true := z_in_n (by omega) (by decide)
  simp only [ic, z_gd_tt, nI_clamp (show c < 2 ^ 31 by omega), g5]
  obtain ⟨g0, hg0, f7, f8⟩ := hf 0 (by omega)
  rw [ni0] at f7 f8
  refine Al_bdl f7 ?_
  refine Al_bd Eq (Al_lpr (t' := ((1 : Int32), nI g0, (0 : Int32))) ?_ (Al_lp 23 (fun i s t => s.1 = nI (i + 1) ∧ s = t ∧ ∃ g : Nat, g ≤ 600 ∧ s.2.1 = nI g) Eq ?_ ?_ _ _ ⟨rfl, rfl, g0, hg0, rfl⟩)) ?_
  · have k1 : ¬ (24 : Int32) ≤ 0 := by decide
    have k2 : ¬ nI g0 ≤ mn1 := mn1_le (by omega)
    simp only [k1, k2, if_false, f8, z_bd_some]
    rfl
  · rintro i ⟨s1, s2, s3⟩ _ hi ⟨e1, rfl, g, hg, e2⟩
    simp only at e1 e2
    subst e1 e2
    obtain ⟨g', hg', f7, f8⟩ := hf (i + 1) (by omega)
    simp (disch := omega) only [li_24, nI_leI, if_neg, f7, f8, z_bd_some, z_bd_ite, nI_1]
    by_cases q : g' ≤ g
    · simp only [if_pos q, z_bd_some]
      exact Lp2_l ⟨rfl, rfl, g, hg, rfl⟩
    · simp only [if_neg q, z_bd_some]
      exact Lp2_l ⟨rfl, rfl, g', hg', rfl⟩
  · rintro ⟨s1, s2, s3⟩ _ ⟨e1, rfl, -⟩
    simp only at e1
    subst e1
    simp (disch := omega) only [li_24, nI_leI, if_pos]
    exact Lp2_r rfl
  · rintro a _ rfl
    simp only [z_bd_ite]
    exact Al_e
