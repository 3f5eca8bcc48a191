/-! flies, rests, hours, undo, forget. -/
theorem RC_now {w w' v : Nat → Int32} {f : Nat → Nat → Int32} {n n' : DD} {P : Nat → DD} {s np nc : Nat} (h : RC w s v f n P) (hw : ∀ j, 44 ≤ j → j < 479 → w' (s + j) = w (s + j)) (hnp : np ≤ 7) (hnc : nc ≤ 3) (q0 : v 0 = nI np) (q1 : v 1 = nI nc) (hD' : RD w' s nc np n') : RC w' s v f n' P := by
  obtain ⟨np', nc', nb, nn, nm, hnp', hnc', hnb, hnn, hnm, e0, w418, e1, w422, e2, w396, e3, w447, e4, w478, hpl, hck, hD, hPP, hno, hma⟩ := h
  have : np = np' := (nI_eq (by omega) (by omega)).mp (q0.symm.trans e0)
  subst this
  have : nc = nc' := (nI_eq (by omega) (by omega)).mp (q1.symm.trans e1)
  subst this
  refine ⟨np, nc, nb, nn, nm, hnp, hnc, hnb, hnn, hnm, e0, (hw _ (by omega) (by omega)).trans w418, e1, (hw _ (by omega) (by omega)).trans w422, e2, (hw _ (by omega) (by omega)).trans w396, e3, (hw _ (by omega) (by omega)).trans w447, e4, (hw _ (by omega) (by omega)).trans w478, ?_, ?_, hD', ?_, ?_, ?_⟩
  · exact (RP_w hnp hnc (fun j h1 h2 => hw _ (by omega) (by omega)) (⟨hpl, hck⟩ : RP w s np nc f)).1
  · exact (RP_w hnp hnc (fun j h1 h2 => hw _ (by omega) (by omega)) (⟨hpl, hck⟩ : RP w s np nc f)).2
  · intro i hi
    exact RD_w hnc (fun j hj => by rw [show s + 44 + 44 * i + j = s + (44 + 44 * i + j) by omega]; exact hw _ (by omega) (by omega)) (hPP i hi)
  · exact RN_w hnn (fun j h1 h2 => hw _ (by omega) (by omega)) hno
  · exact RM_w hnm (fun j h1 h2 => hw _ (by omega) (by omega)) hma
/-- the hour alone is another -/
theorem RDg_hour {B C : Nat} {w : Nat → Int32} {u nc np H : Nat} {d : DD} (hnc : nc ≤ 3) (hH : H ≤ C) (h : RDg B w u nc np d) : RDg C (upd w (u + 6) (nI H)) u nc np (d.1, d.2.1, d.2.2.1, d.2.2.2.1, d.2.2.2.2.1, d.2.2.2.2.2.1, d.2.2.2.2.2.2.1, d.2.2.2.2.2.2.2.1, nI H) := by
  obtain ⟨nd, hh, hnd, hhh, d7, w7, d6, w6, hat, hro, hle⟩ := h
  refine ⟨nd, H, hnd, hH, d7, ?_, rfl, ud_s, ?_, ?_, ?_⟩
  · rw [ud_n (by omega)]; exact w7
  · intro c hc
    obtain ⟨a, t, h1, h2, h3, h4, h5, h6⟩ := hat c hc
    exact ⟨a, t, h1, h2, h3, by rw [ud_n (by omega)]; exact h4, h5, by rw [ud_n (by omega)]; exact h6⟩
  · intro j hj
    rw [ud_n (by omega)]; exact hro j hj
  · intro k hk
    obtain ⟨g, h1, h2⟩ := hle k hk
    exact ⟨g, h1, by rw [ud_n (by omega)]; exact h2⟩
/-- one crow is tired no more -/
theorem RDg_slept {B : Nat} {w : Nat → Int32} {u nc np c : Nat} {d : DD} (hnc : nc ≤ 3) (hc' : c < nc) (h : RDg B w u nc np d) : RDg B (upd w (u + 3 + c) 0) u nc np (d.1, d.2.1, d.2.2.1, d.2.2.2.1, d.2.2.2.2.1, upd d.2.2.2.2.2.1 c 0, d.2.2.2.2.2.2.1, d.2.2.2.2.2.2.2.1, d.2.2.2.2.2.2.2.2) := by
  obtain ⟨nd, hh, hnd, hhh, d7, w7, d6, w6, hat, hro, hle⟩ := h
  refine ⟨nd, hh, hnd, hhh, d7, ?_, d6, ?_, ?_, ?_, ?_⟩
  · rw [ud_n (by omega)]; exact w7
  · rw [ud_n (by omega)]; exact w6
  · intro e hc
    obtain ⟨a, t, h1, h2, h3, h4, h5, h6⟩ := hat e hc
    by_cases q : e = c
    · subst q
      exact ⟨a, 0, h1, by omega, h3, by rw [ud_n (by omega)]; exact h4, ud_s, ud_s⟩
    · exact ⟨a, t, h1, h2, h3, by rw [ud_n (by omega)]; exact h4, (ud_n q).trans h5, by rw [ud_n (by omega)]; exact h6⟩
  · intro j hj
    rw [ud_n (by omega)]; exact hro j hj
  · intro k hk
    obtain ⟨g, h1, h2⟩ := hle k hk
    exact ⟨g, h1, by rw [ud_n (by omega)]; exact h2⟩
theorem RDg_fix {B C k : Nat} {w : Nat → Int32} {u nc np : Nat} {d : DD} (hB : B < 2 ^ 31) (hk : k ≤ C) (hk2 : k < 2 ^ 31) (e : d.2.2.2.2.2.2.2.2 = nI k) (h : RDg B w u nc np d) : RDg C w u nc np d := by
  obtain ⟨nd, hh, hnd, hhh, d7, w7, d6, w6, hat, hro, hle⟩ := h
  have : hh = k := (nI_eq (by omega) hk2).mp (d6.symm.trans e)
  exact ⟨nd, hh, hnd, by omega, d7, w7, d6, w6, hat, hro, hle⟩
/-- a rest, the hour H behind it as the reference has it -/
theorem mo_restIn {w : Nat → Int32} {u c t h H : Nat} (hu : u + 44 ≤ 1960) (hc : c < 3) (w6 : w (u + 6) = nI h) (wt : w (u + 3 + c) = nI t) (hh : h < 2 ^ 29) (hH : (u = 1916 ∧ H = h + 8) ∨ (u + 44 < 1916 ∧ H = min (h + 8) 9999)) : p_X8_restIn w (nI u) (nI c) = some (nI t, upd (upd w (u + 3 + c) 0) (u + 6) (nI H)) := by
  have go : p_X8_goOn (upd w (u + 3 + c) (nI 0)) (nI u) (nI 8) = some (upd (upd w (u + 3 + c) (nI 0)) (u + 6) (nI H)) := by
    rcases hH with ⟨q1, q2⟩ | ⟨q1, q2⟩
    · rw [q2]; exact mo_goOn hu (by rw [ud_n (by omega)]; exact w6) (by omega) (Or.inl q1)
    · rw [q2]; exact mo_goOnC q1 (by rw [ud_n (by omega)]; exact w6) (by omega)
  unfold p_X8_restIn
  simp (disch := omega) only [z_lt, li_3, li_8, li_0, nI_add, z_in_n, z_gd_tt, nI_clamp, wt, go, z_bd_some]
theorem q_6 {x : Nat → Int32} {v : Nat → Int32} {f : Nat → Nat → Int32} {n : DD} {P : Nat → DD} {kf : Nat → Int32} {tf : Nat → Int32} {v0 : Nat → Int32} {f0 : Nat → Nat → Int32} {n0 : DD} {P0 : Nat → DD} {v1 : Nat → Int32} {f1 : Nat → Nat → Int32} {n1 : DD} {P1 : Nat → DD} {mv : Nat → Int32} {ma : Int64} {mb : Int64} {w : Nat → Int32} {tx : Nat → Int32} (hR : RelX x v f n P kf tf v0 f0 n0 P0 v1 f1 n1 P1 mv ma mb w tx) (c1 : Int32) (c2 : Int32) : ∃ (r7 : Int32 × Int32 × Int32 × Int32 × Int32 × Int32 × (Nat → Int32) × (Nat → Int32) × (Nat → Int32) × (Nat → DD)) (r8 : Int32 × Int32 × Int32 × (Nat → Int32)), p_X7_flies (x 3) (x 4) (v 0) (v 1) (v 2) (f 0) (f 1) (f 2) (f 3) n.2.2.2.2.2.2.2.1 n.2.2.2.2.2.2.2.2 n.2.2.2.2.1 n.2.2.2.2.2.1 n.2.2.2.2.2.2.1 P c1 c2 = some r7 ∧ p_X8_flies (mv 2) (mv 3) w c1 c2 = some r8 ∧ r7.1 = r8.1 ∧ RelX (va_up (va_up x 3 r7.2.1) 4 r7.2.2.1) (va_up v 2 r7.2.2.2.1) f (n.1, n.2.1, n.2.2.1, n.2.2.2.1, r7.2.2.2.2.2.2.1, r7.2.2.2.2.2.2.2.1, r7.2.2.2.2.2.2.2.2.1, r7.2.2.2.2.1, r7.2.2.2.2.2.1) r7.2.2.2.2.2.2.2.2.2 kf tf v0 f0 n0 P0 v1 f1 n1 P1 (va_up (va_up mv 2 r8.2.1) 3 r8.2.2.1) ma mb r8.2.2.2 tx := by
  obtain ⟨hC, hRR⟩ := hR
  obtain ⟨ht, hb, hno', hfu, hrest⟩ := id hRR
  obtain ⟨np, nc, hnp, hnc, e0, w418, e1, w422, hP, hD⟩ := RC_get hC
  obtain ⟨nd, h, hnd, hh, d7, w7, d6, w6, hat, hro, hle⟩ := id hD
  simp only [Nat.zero_add] at w6
  simp only [p_X7_flies, p_X8_flies, e0, e1, p0_hasCrow (n := nc) (by omega), p8_isCrow w422 (by omega), p0_hasPlace (n := np) (by omega), p8_isPlace w418 (by omega), z_bd_some, p_X7_refuseBad, p_X8_bad, p_X7_refuseNo, p_X8_no, z_lt, hb, hno']
  cases h1 : z_in c1 nc
  · simp only [b2_f0, if_true]
    exact ⟨_, _, rfl, rfl, rfl, hC, ht, rfl, rfl, hfu, hrest⟩
  cases h2 : z_in c2 np
  · simp only [b2_f0, b2_t0, if_true, if_false]
    exact ⟨_, _, rfl, rfl, rfl, hC, ht, rfl, rfl, hfu, hrest⟩
  obtain ⟨c, hc, rfl⟩ := (z_in_iff (by omega)).mp h1
  obtain ⟨p, hp, rfl⟩ := (z_in_iff (by omega)).mp h2
  obtain ⟨a, t, ha, htt, g3, g4, g5, g6⟩ := hat c hc
  rw [Nat.zero_add] at g4
  have i3 : z_in (nI c) 3 = true := z_in_n (by omega) (by decide)
  have i4 : z_in (nI c) 1960 = true := z_in_n (by omega) (by decide)
  simp only [b2_t0, if_false, i3, i4, z_gd_tt, nI_clamp (show c < 2 ^ 31 by omega), g3, g4]
  by_cases hap : nI a = nI p
  · simp only [if_pos hap]
    exact ⟨_, _, rfl, rfl, rfl, hC, ht, rfl, rfl, hfu, hrest⟩
  simp only [if_neg hap]
  by_cases h99 : h = 9999
  · have k1 : ¬ n.2.2.2.2.2.2.2.2 < (9999 : Int32) := by rw [d6, h99]; decide
    have k2 : w 6 = (9999 : Int32) := by rw [w6, h99]; rfl
    simp only [if_neg k1, if_pos k2]
    exact ⟨_, _, rfl, rfl, rfl, hC, ht, rfl, rfl, hfu, hrest⟩
  have k1 : n.2.2.2.2.2.2.2.2 < (9999 : Int32) := by rw [d6]; exact (nI_ltI (b := 9999) (by omega) (by decide)).mpr (by omega)
  have k2 : ¬ w 6 = (9999 : Int32) := by rw [w6]; exact nI_ne (b := 9999) (by omega) (by decide) h99
  obtain ⟨w1, b, P', r8, r7, hC1, hw1⟩ := mo_remember hC
  obtain ⟨g, w2, r, hg, f7, f8, hD2, hhr, hw2⟩ := mo_fly (s := 0) (u := 0) (by omega) (by omega) hnp hnc (by decide) (RP_w hnp hnc (fun j h1 h2 => hw1 _ (Or.inr (by omega))) hP) (RDg_of (RD_w hnc (fun j hj => hw1 _ (Or.inl (by omega))) hD)) hc hp (Or.inr ⟨h, by omega, d6⟩)
  rw [ni0] at f8
  simp only [if_pos k1, if_neg k2, r7, r8, f7, f8, z_bd_some]
  refine ⟨_, _, rfl, rfl, rfl, RC_now (np := np) (nc := nc) hC1 (fun j h1 h2 => hw2 _ (Or.inr (by omega))) hnp hnc e0 e1 (RDg_to (RDg_fix (k := h + 1) (by decide) (by omega) (by omega) (hhr h (by omega) d6) hD2)), RR_w (fun j h1 h2 => (hw2 j (Or.inr (by omega))).trans (hw1 j (Or.inr (by omega)))) ⟨ht, rfl, rfl, hfu, hrest⟩⟩
theorem q_7 {x : Nat → Int32} {v : Nat → Int32} {f : Nat → Nat → Int32} {n : DD} {P : Nat → DD} {kf : Nat → Int32} {tf : Nat → Int32} {v0 : Nat → Int32} {f0 : Nat → Nat → Int32} {n0 : DD} {P0 : Nat → DD} {v1 : Nat → Int32} {f1 : Nat → Nat → Int32} {n1 : DD} {P1 : Nat → DD} {mv : Nat → Int32} {ma : Int64} {mb : Int64} {w : Nat → Int32} {tx : Nat → Int32} (hR : RelX x v f n P kf tf v0 f0 n0 P0 v1 f1 n1 P1 mv ma mb w tx) (c1 : Int32) : ∃ (r7 : Int32 × Int32 × Int32 × Int32 × (Nat → Int32) × (Nat → DD)) (r8 : Int32 × Int32 × (Nat → Int32)), p_X7_rests (x 3) (v 1) (v 2) n.2.2.2.2.2.2.2.1 n.2.2.2.2.2.2.2.2 n.2.2.2.2.1 n.2.2.2.2.2.1 n.2.2.2.2.2.2.1 P c1 = some r7 ∧ p_X8_rests (mv 2) w c1 = some r8 ∧ r7.1 = r8.1 ∧ RelX (va_up x 3 r7.2.1) (va_up v 2 r7.2.2.1) f (n.1, n.2.1, n.2.2.1, n.2.2.2.1, n.2.2.2.2.1, r7.2.2.2.2.1, n.2.2.2.2.2.2.1, n.2.2.2.2.2.2.2.1, r7.2.2.2.1) r7.2.2.2.2.2 kf tf v0 f0 n0 P0 v1 f1 n1 P1 (va_up mv 2 r8.2.1) ma mb r8.2.2 tx := by
  obtain ⟨hC, hRR⟩ := hR
  obtain ⟨ht, hb, hno', hfu, hrest⟩ := id hRR
  obtain ⟨np, nc, hnp, hnc, e0, w418, e1, w422, hP, hD⟩ := RC_get hC
  obtain ⟨nd, h, hnd, hh, d7, w7, d6, w6, hat, hro, hle⟩ := id hD
  simp only [p_X7_rests, p_X8_rests, e1, p0_hasCrow (n := nc) (by omega), p8_isCrow w422 (by omega), z_bd_some, p_X7_refuseBad, p_X8_bad, z_lt, hb]
  cases h1 : z_in c1 nc
  · simp only [b2_f0, if_true]
    exact ⟨_, _, rfl, rfl, rfl, hC, ht, rfl, hno', hfu, hrest⟩
  obtain ⟨c, hc, rfl⟩ := (z_in_iff (by omega)).mp h1
  obtain ⟨a, t, ha, htt, g3, g4, g5, g6⟩ := hat c hc
  have i3 : z_in (nI c) 3 = true := z_in_n (by omega) (by decide)
  obtain ⟨w1, b, P', r8, r7, hC1, hw1⟩ := mo_remember hC
  have f8 := mo_restIn (w := w1) (u := 0) (c := c) (t := t) (h := h) (H := min (h + 8) 9999) (by omega) (by omega) ((hw1 _ (Or.inl (by omega))).trans w6) ((hw1 _ (Or.inl (by omega))).trans g6) (by omega) (Or.inr ⟨by omega, rfl⟩)
  rw [ni0] at f8
  have s7 : p_X1_sleep n.2.2.2.2.2.2.2.2 n.2.2.2.2.2.1 (nI c) = some (nI (h + 8), upd n.2.2.2.2.2.1 c 0) := by
    have : nI h + (8 : Int32) = nI (h + 8) := nI_add h 8
    simp only [p_X1_sleep, i3, z_gd_tt, nI_clamp (show c < 2 ^ 31 by omega), z_lt, d6, this]
  simp only [b2_t0, if_false, r7, r8, z_bd_some, i3, z_gd_tt, nI_clamp (show c < 2 ^ 31 by omega), g5, s7, f8, mo_clock (show h + 8 < 2 ^ 30 by omega)]
  have hD1 := RDg_hour (C := 9999) (H := min (h + 8) 9999) hnc (Nat.min_le_right _ _) (RDg_slept hnc hc (RDg_of (RD_w (w' := w1) hnc (fun j hj => hw1 _ (Or.inl (by omega))) hD)))
  refine ⟨_, _, rfl, rfl, rfl, RC_now (np := np) (nc := nc) hC1 (fun j h1 h2 => ?_) hnp hnc e0 e1 (RDg_to hD1), RR_w (fun j h1 h2 => ?_) ⟨ht, rfl, hno', hfu, hrest⟩⟩
  · simp (disch := omega) only [ud_n]
  · simp (disch := omega) only [ud_n]
    exact hw1 j (Or.inr (by omega))
theorem z_1_99 {c : Int32} (h : decide ((1 : Int32) ≤ c ∧ c ≤ 99) = true) : ∃ k : Nat, 1 ≤ k ∧ k ≤ 99 ∧ c = nI k := by
  obtain ⟨h1, h2⟩ := of_decide_eq_true h
  have h3 := Int32.le_iff_toInt_le.mp h1
  have h4 := Int32.le_iff_toInt_le.mp h2
  have e1 : (1 : Int32).toInt = 1 := rfl
  have e2 : (99 : Int32).toInt = 99 := rfl
  rw [e1] at h3
  rw [e2] at h4
  obtain ⟨k, hk, rfl⟩ := (z_in_iff (i := c) (n := 100) (by decide)).mp (z_in_ti.mpr ⟨by omega, by omega⟩)
  rw [nI_toInt (by omega)] at h3
  exact ⟨k, by omega, by omega, rfl⟩
theorem q_8 {x : Nat → Int32} {v : Nat → Int32} {f : Nat → Nat → Int32} {n : DD} {P : Nat → DD} {kf : Nat → Int32} {tf : Nat → Int32} {v0 : Nat → Int32} {f0 : Nat → Nat → Int32} {n0 : DD} {P0 : Nat → DD} {v1 : Nat → Int32} {f1 : Nat → Nat → Int32} {n1 : DD} {P1 : Nat → DD} {mv : Nat → Int32} {ma : Int64} {mb : Int64} {w : Nat → Int32} {tx : Nat → Int32} (hR : RelX x v f n P kf tf v0 f0 n0 P0 v1 f1 n1 P1 mv ma mb w tx) (c1 : Int32) : ∃ (r7 : Int32 × Int32 × Int32 × Int32 × (Nat → DD)) (r8 : Int32 × Int32 × (Nat → Int32)), p_X7_hours (x 3) (v 2) n.2.2.2.2.2.2.2.1 n.2.2.2.2.2.2.2.2 n.2.2.2.2.1 n.2.2.2.2.2.1 n.2.2.2.2.2.2.1 P c1 = some r7 ∧ p_X8_hours (mv 2) w c1 = some r8 ∧ r7.1 = r8.1 ∧ RelX (va_up x 3 r7.2.1) (va_up v 2 r7.2.2.1) f (n.1, n.2.1, n.2.2.1, n.2.2.2.1, n.2.2.2.2.1, n.2.2.2.2.2.1, n.2.2.2.2.2.2.1, n.2.2.2.2.2.2.2.1, r7.2.2.2.1) r7.2.2.2.2 kf tf v0 f0 n0 P0 v1 f1 n1 P1 (va_up mv 2 r8.2.1) ma mb r8.2.2 tx := by
  obtain ⟨hC, hRR⟩ := hR
  obtain ⟨ht, hb, hno', hfu, hrest⟩ := id hRR
  obtain ⟨np, nc, hnp, hnc, e0, w418, e1, w422, hP, hD⟩ := RC_get hC
  obtain ⟨nd, h, hnd, hh, d7, w7, d6, w6, hat, hro, hle⟩ := id hD
  simp only [p_X7_hours, p_X8_hours, p7_within, p8_in, z_bd_some, p_X7_refuseBad, p_X8_bad, z_lt, hb]
  cases h1 : decide ((1 : Int32) ≤ c1 ∧ c1 ≤ 99)
  · simp only [b2_f0, if_true]
    exact ⟨_, _, rfl, rfl, rfl, hC, ht, rfl, hno', hfu, hrest⟩
  obtain ⟨k, hk1, hk, rfl⟩ := z_1_99 h1
  obtain ⟨w1, b, P', r8, r7, hC1, hw1⟩ := mo_remember hC
  have f8 := mo_goOnC (w := w1) (u := 0) (h := h) (k := k) (by omega) ((hw1 _ (Or.inl (by omega))).trans w6) (by omega)
  rw [ni0] at f8
  have ek : n.2.2.2.2.2.2.2.2 + nI k = nI (h + k) := by rw [d6, nI_add]
  simp only [b2_t0, if_false, r7, r8, z_bd_some, f8, ek, mo_clock (show h + k < 2 ^ 30 by omega)]
  have hD1 := RDg_hour (C := 9999) (H := min (h + k) 9999) hnc (Nat.min_le_right _ _) (RDg_of (RD_w (w' := w1) hnc (fun j hj => hw1 _ (Or.inl (by omega))) hD))
  refine ⟨_, _, rfl, rfl, ?_, RC_now (np := np) (nc := nc) hC1 (fun j h1 h2 => ?_) hnp hnc e0 e1 (RDg_to hD1), RR_w (fun j h1 h2 => ?_) ⟨ht, rfl, hno', hfu, hrest⟩⟩
  · exact (show nI (min (h + k) 9999) = upd w1 (0 + 6) (nI (min (h + k) 9999)) 6 from ud_s.symm)
  · simp (disch := omega) only [ud_n]
  · simp (disch := omega) only [ud_n]
    exact hw1 j (Or.inr (by omega))
/-- fewer are kept -/
theorem RC_less {w w' v v' : Nat → Int32} {f : Nat → Nat → Int32} {n : DD} {P : Nat → DD} {s b2' b3 b4 k2 k3 k4 : Nat} (h : RC w s v f n P) (q2 : v 2 = nI b2') (q3 : v 3 = nI b3) (q4 : v 4 = nI b4) (hb2 : b2' ≤ 8) (hb3 : b3 ≤ 6) (hb4 : b4 ≤ 6) (h2 : k2 ≤ b2') (h3 : k3 ≤ b3) (h4 : k4 ≤ b4) (hw : ∀ j, j < 479 → j ≠ 396 → j ≠ 447 → j ≠ 478 → w' (s + j) = w (s + j)) (a2 : w' (s + 396) = nI k2) (a3 : w' (s + 447) = nI k3) (a4 : w' (s + 478) = nI k4) (ev0 : v' 0 = v 0) (ev1 : v' 1 = v 1) (ev2 : v' 2 = nI k2) (ev3 : v' 3 = nI k3) (ev4 : v' 4 = nI k4) : RC w' s v' f n P := by
  obtain ⟨np, nc, nb, nn, nm, hnp, hnc, hnb, hnn, hnm, e0, w418, e1, w422, e2, w396, e3, w447, e4, w478, hpl, hck, hD, hPP, hno, hma⟩ := h
  have : b2' = nb := (nI_eq (by omega) (by omega)).mp (q2.symm.trans e2)
  subst this
  have : b3 = nn := (nI_eq (by omega) (by omega)).mp (q3.symm.trans e3)
  subst this
  have : b4 = nm := (nI_eq (by omega) (by omega)).mp (q4.symm.trans e4)
  subst this
  refine ⟨np, nc, k2, k3, k4, hnp, hnc, by omega, by omega, by omega, ev0.trans e0, (hw _ (by omega) (by omega) (by omega) (by omega)).trans w418, ev1.trans e1, (hw _ (by omega) (by omega) (by omega) (by omega)).trans w422, ev2, a2, ev3, a3, ev4, a4, ?_, ?_, ?_, ?_, ?_, ?_⟩
  · exact (RP_w hnp hnc (fun j h1 h2 => hw _ (by omega) (by omega) (by omega) (by omega)) (⟨hpl, hck⟩ : RP w s np nc f)).1
  · exact (RP_w hnp hnc (fun j h1 h2 => hw _ (by omega) (by omega) (by omega) (by omega)) (⟨hpl, hck⟩ : RP w s np nc f)).2
  · exact RD_w hnc (fun j hj => hw _ (by omega) (by omega) (by omega) (by omega)) hD
  · intro i hi
    exact RD_w hnc (fun j hj => by rw [show s + 44 + 44 * i + j = s + (44 + 44 * i + j) by omega]; exact hw _ (by omega) (by omega) (by omega) (by omega)) (hPP i (by omega))
  · exact RN_w (by omega) (fun j h1 h2 => hw _ (by omega) (by omega) (by omega) (by omega)) (fun k hk => hno k (by omega))
  · exact RM_w (by omega) (fun j h1 h2 => hw _ (by omega) (by omega) (by omega) (by omega)) (fun j hj => hma j (by omega))
theorem q_9 {x : Nat → Int32} {v : Nat → Int32} {f : Nat → Nat → Int32} {n : DD} {P : Nat → DD} {kf : Nat → Int32} {tf : Nat → Int32} {v0 : Nat → Int32} {f0 : Nat → Nat → Int32} {n0 : DD} {P0 : Nat → DD} {v1 : Nat → Int32} {f1 : Nat → Nat → Int32} {n1 : DD} {P1 : Nat → DD} {mv : Nat → Int32} {ma : Int64} {mb : Int64} {w : Nat → Int32} {tx : Nat → Int32} (hR : RelX x v f n P kf tf v0 f0 n0 P0 v1 f1 n1 P1 mv ma mb w tx) : ∃ (r7 : Int32 × Int32 × Int32 × Int32 × Int32 × (Nat → Int32) × (Nat → Int32) × (Nat → Int32)) (r8 : Int32 × Int32 × (Nat → Int32)), p_X7_undo (x 4) (v 2) n.2.2.2.2.2.2.2.1 n.2.2.2.2.2.2.2.2 n.2.2.2.2.1 n.2.2.2.2.2.1 n.2.2.2.2.2.2.1 P = some r7 ∧ p_X8_undo (mv 3) w = some r8 ∧ r7.1 = r8.1 ∧ RelX (va_up x 4 r7.2.1) (va_up v 2 r7.2.2.1) f (n.1, n.2.1, n.2.2.1, n.2.2.2.1, r7.2.2.2.2.2.1, r7.2.2.2.2.2.2.1, r7.2.2.2.2.2.2.2, r7.2.2.2.1, r7.2.2.2.2.1) P kf tf v0 f0 n0 P0 v1 f1 n1 P1 (va_up mv 3 r8.2.1) ma mb r8.2.2 tx := by
  obtain ⟨hC, hRR⟩ := hR
  obtain ⟨ht, hb, hno', hfu, hrest⟩ := id hRR
  obtain ⟨np, nc, nb, nn, nm, hnp, hnc, hnb, hnn, hnm, e0, w418, e1, w422, e2, w396, e3, w447, e4, w478, hpl, hck, hD, hPP, hno, hma⟩ := id hC
  simp only [Nat.zero_add] at w396
  simp only [p_X7_undo, p_X8_undo, p_X0_goBack, z_bd_some, p_X7_refuseNo, p_X8_no, z_lt, hno']
  rcases (show nb = 0 ∨ ∃ k, nb = k + 1 by cases nb with | zero => exact Or.inl rfl | succ k => exact Or.inr ⟨k, rfl⟩) with rfl | ⟨k, rfl⟩
  · have k1 : ¬ (0 : Int32) < v 2 := by rw [e2]; decide
    have k2 : w 396 = (0 : Int32) := w396
    simp only [if_neg k1, if_pos k2]
    exact ⟨_, _, rfl, rfl, rfl, hC, ht, hb, rfl, hfu, hrest⟩
  · have k1 : (0 : Int32) < v 2 := by rw [e2]; exact (nI_ltI (a := 0) (by decide) (by omega)).mpr (by omega)
    have k2 : ¬ w 396 = (0 : Int32) := by rw [w396]; exact nI_ne (b := 0) (by omega) (by decide) (by omega)
    have k3 : ¬ v 2 ≤ 0 := Int32.not_le.mpr k1
    have k4 : v 2 - (1 : Int32) = nI k := by rw [e2]; exact nI_pred k
    have k5 : w 396 - (1 : Int32) = nI k := by rw [w396]; exact nI_pred k
    have i8 : z_in (nI k) 8 = true := z_in_n (by omega) (by decide)
    have k6 : (44 : Int32) + (44 : Int32) * nI k = nI (44 + 44 * k) := by rw [li_44, pk_mul, nI_add]
    have cr : p_X8_copyRow (upd w 396 (nI k)) (nI (44 + 44 * k)) (0 : Int32) (44 : Int32) = some (va_cpy (upd w 396 (nI k)) (upd w 396 (nI k)) (44 + 44 * k) 0 44) := p8_copyRow (upd w 396 (nI k)) (x := 44 + 44 * k) (y := 0) (m := 44) (by omega) (by omega) (by omega)
    simp only [if_pos k1, if_neg k2, if_neg k3, k4, k5, i8, z_gd_tt, nI_clamp (show k < 2 ^ 31 by omega), p_X1_become, z_lt, z_bd_some, ud_s, k6, cr]
    have hPk := hPP k (by omega)
    have hin : ∀ j, j < 44 → va_cpy (upd w 396 (nI k)) (upd w 396 (nI k)) (44 + 44 * k) 0 44 (0 + j) = w (0 + 44 + 44 * k + j) := by
      intro j hj
      rw [pk_cpy_in (by omega) (by omega), ud_n (by omega)]; congr 1; omega
    have hout : ∀ j, 44 ≤ j → j ≠ 396 → va_cpy (upd w 396 (nI k)) (upd w 396 (nI k)) (44 + 44 * k) 0 44 j = w j := by
      intro j hj h2
      rw [pk_cpy_out (by omega), ud_n h2]
    have hC1 : RC (upd w 396 (nI k)) 0 (va_up v 2 (nI k)) f n P := RC_less hC e2 e3 e4 hnb hnn hnm (k2 := k) (k3 := nn) (k4 := nm) (by omega) (by omega) (by omega) (fun j h1 h2 h3 h4 => ud_n (by omega)) ud_s (by rw [ud_n (by omega)]; exact w447) (by rw [ud_n (by omega)]; exact w478) rfl rfl rfl e3 e4
    refine ⟨_, _, rfl, rfl, ?_, RC_now (np := np) (nc := nc) hC1 (fun j h1 h2 => ?_) hnp hnc e0 e1 (RDg_to (RDg_cp (e := (n.1, n.2.1, n.2.2.1, n.2.2.2.1, va_cpy (P k).2.2.2.2.1 n.2.2.2.2.1 0 0 3, va_cpy (P k).2.2.2.2.2.1 n.2.2.2.2.2.1 0 0 3, va_cpy (P k).2.2.2.2.2.2.1 n.2.2.2.2.2.2.1 0 0 36, (P k).2.2.2.2.2.2.2.1, (P k).2.2.2.2.2.2.2.2)) hnc hin (fun j hj => cp_eq hj) (fun j hj => cp_eq hj) (fun j hj => cp_eq hj) rfl rfl (RDg_of hPk))), RR_w (fun j h1 h2 => ?_) ⟨ht, hb, rfl, hfu, hrest⟩⟩
    · obtain ⟨nd, h, hnd, hh, d7, w7, d6, w6, -⟩ := hPk
      show (P k).2.2.2.2.2.2.2.2 = va_cpy (upd w 396 (nI k)) (upd w 396 (nI k)) (44 + 44 * k) 0 44 6
      have := hin 6 (by omega)
      rw [Nat.zero_add] at this
      rw [d6, this, w6]
    · dsimp only
      rw [Nat.zero_add, pk_cpy_out (by omega)]
    · exact hout j (by omega) (by omega)
theorem RDg_nodeeds {B : Nat} {w : Nat → Int32} {u nc np : Nat} {d : DD} (hnc : nc ≤ 3) (h : RDg B w u nc np d) : RDg B (upd w (u + 7) 0) u nc np (d.1, d.2.1, d.2.2.1, d.2.2.2.1, d.2.2.2.2.1, d.2.2.2.2.2.1, d.2.2.2.2.2.2.1, 0, d.2.2.2.2.2.2.2.2) := by
  obtain ⟨nd, hh, hnd, hhh, d7, w7, d6, w6, hat, hro, hle⟩ := h
  refine ⟨0, hh, by omega, hhh, rfl, ud_s, d6, ?_, ?_, ?_, ?_⟩
  · rw [ud_n (by omega)]; exact w6
  · intro c hc
    obtain ⟨a, t, h1, h2, h3, h4, h5, h6⟩ := hat c hc
    exact ⟨a, t, h1, h2, h3, by rw [ud_n (by omega)]; exact h4, h5, by rw [ud_n (by omega)]; exact h6⟩
  · intro j hj; exact absurd hj (by omega)
  · intro k hk; exact absurd hk (by omega)
theorem q_22 {x : Nat → Int32} {v : Nat → Int32} {f : Nat → Nat → Int32} {n : DD} {P : Nat → DD} {kf : Nat → Int32} {tf : Nat → Int32} {v0 : Nat → Int32} {f0 : Nat → Nat → Int32} {n0 : DD} {P0 : Nat → DD} {v1 : Nat → Int32} {f1 : Nat → Nat → Int32} {n1 : DD} {P1 : Nat → DD} {mv : Nat → Int32} {ma : Int64} {mb : Int64} {w : Nat → Int32} {tx : Nat → Int32} (hR : RelX x v f n P kf tf v0 f0 n0 P0 v1 f1 n1 P1 mv ma mb w tx) (c1 : Int32) : ∃ (r7 : Int32 × Int32 × Int32 × Int32 × (Nat → DD) × Int32 × Int32) (r8 : Int32 × Int32 × (Nat → Int32)), p_X7_forget (x 3) (v 2) n.2.2.2.2.2.2.2.1 n.2.2.2.2.2.2.2.2 n.2.2.2.2.1 n.2.2.2.2.2.1 n.2.2.2.2.2.2.1 P (v 3) (v 4) c1 = some r7 ∧ p_X8_forget (mv 2) w c1 = some r8 ∧ r7.1 = r8.1 ∧ RelX (va_up x 3 r7.2.1) (va_up (va_up (va_up v 2 r7.2.2.1) 3 r7.2.2.2.2.2.1) 4 r7.2.2.2.2.2.2) f (n.1, n.2.1, n.2.2.1, n.2.2.2.1, n.2.2.2.2.1, n.2.2.2.2.2.1, n.2.2.2.2.2.2.1, r7.2.2.2.1, n.2.2.2.2.2.2.2.2) r7.2.2.2.2.1 kf tf v0 f0 n0 P0 v1 f1 n1 P1 (va_up mv 2 r8.2.1) ma mb r8.2.2 tx := by
  obtain ⟨hC, hRR⟩ := hR
  obtain ⟨ht, hb, hno', hfu, hrest⟩ := id hRR
  obtain ⟨np, nc, nb, nn, nm, hnp, hnc, hnb, hnn, hnm, e0, w418, e1, w422, e2, w396, e3, w447, e4, w478, hpl, hck, hD, hPP, hno, hma⟩ := id hC
  simp only [Nat.zero_add] at w418 w422 w396 w447 w478
  simp only [p_X7_forget, p_X8_forget, p8_in, p_X6_drop, p_X1_dropDeeds, z_bd_some, p_X7_refuseBad, p_X8_bad, z_lt, hb, z_in2]
  cases h1 : z_in c1 3
  · have n0 : ¬ c1 = 0 := by rintro rfl; exact absurd h1 (by decide)
    have n1 : ¬ c1 = 1 := by rintro rfl; exact absurd h1 (by decide)
    have n2 : ¬ c1 = 2 := by rintro rfl; exact absurd h1 (by decide)
    simp only [b2_f0, if_true, if_neg n0, if_neg n1, if_neg n2]
    exact ⟨_, _, rfl, rfl, rfl, hC, ht, rfl, hno', hfu, hrest⟩
  obtain ⟨k, hk, rfl⟩ := (z_in_iff (by omega)).mp h1
  rcases (show k = 0 ∨ k = 1 ∨ k = 2 by omega) with rfl | rfl | rfl
  · simp only [b2_t0, if_false, show nI 0 = (0 : Int32) from rfl, if_true, show ¬ (0 : Int32) = 2 from by decide, z_bd_some, show z_in (447 : Int32) 1960 = true from by decide, z_gd_tt, show (447 : Int32).toNatClampNeg = 447 from by decide]
    refine ⟨_, _, rfl, rfl, e3.trans w447.symm, RC_less hC e2 e3 e4 hnb hnn hnm (k2 := nb) (k3 := 0) (k4 := nm) (by omega) (by omega) (by omega) (fun j h1 h2 h3 h4 => ud_n (by omega)) ?_ (by dsimp only; rw [ud_e (by omega)]; rfl) ?_ rfl rfl e2 rfl e4, RR_w (fun j h1 h2 => ud_n (by omega)) ⟨ht, rfl, hno', hfu, hrest⟩⟩
    · dsimp only; rw [ud_n (by omega)]; exact w396
    · dsimp only; rw [ud_n (by omega)]; exact w478
  · simp only [b2_t0, if_false, show nI 1 = (1 : Int32) from rfl, if_true, show ¬ (1 : Int32) = 0 from by decide, show ¬ (1 : Int32) = 2 from by decide, z_bd_some, show z_in (478 : Int32) 1960 = true from by decide, z_gd_tt, show (478 : Int32).toNatClampNeg = 478 from by decide]
    refine ⟨_, _, rfl, rfl, e4.trans w478.symm, RC_less hC e2 e3 e4 hnb hnn hnm (k2 := nb) (k3 := nn) (k4 := 0) (by omega) (by omega) (by omega) (fun j h1 h2 h3 h4 => ud_n (by omega)) ?_ ?_ (by dsimp only; rw [ud_e (by omega)]; rfl) rfl rfl e2 e3 rfl, RR_w (fun j h1 h2 => ud_n (by omega)) ⟨ht, rfl, hno', hfu, hrest⟩⟩
    · dsimp only; rw [ud_n (by omega)]; exact w396
    · dsimp only; rw [ud_n (by omega)]; exact w447
  · obtain ⟨w1, b, P', r8, r7, hC1, hw1⟩ := mo_remember hC
    obtain ⟨nd, hh, hnd, hhh, d7, w7, -⟩ := id hD
    simp only [Nat.zero_add] at w7
    simp only [b2_t0, if_false, show nI 2 = (2 : Int32) from rfl, if_true, show ¬ (2 : Int32) = 0 from by decide, show ¬ (2 : Int32) = 1 from by decide, z_bd_some, show z_in (7 : Int32) 1960 = true from by decide, z_gd_tt, show (7 : Int32).toNatClampNeg = 7 from by decide, r7, r8]
    have hD1 := RDg_nodeeds hnc (RDg_of (RD_w (w' := w1) hnc (fun j hj => hw1 _ (Or.inl (by omega))) hD))
    refine ⟨_, _, rfl, rfl, d7.trans w7.symm, RC_now (np := np) (nc := nc) hC1 (fun j h1 h2 => ?_) hnp hnc e0 e1 (RDg_to hD1), RR_w (fun j h1 h2 => ?_) ⟨ht, rfl, hno', hfu, hrest⟩⟩
    · dsimp only; rw [ud_n (by omega)]
    · dsimp only; rw [ud_n (by omega)]
      exact hw1 j (Or.inr (by omega))
