/-! The text's items, on both sides. -/
theorem fi_t : p_X8_fine (-1) = some 1 := by decide
theorem fi_f {s : Nat} (hs : s < 2 ^ 31) : p_X8_fine (nI s) = some 0 := by
  unfold p_X8_fine
  rw [if_neg (show ¬ nI s = (-1 : Int32) from mn1_n hs)]
  decide
theorem wr_t (a : Int32) : p_X8_wrong a (-1) = some a := rfl
theorem nu_bad {s : Nat} (hs : s < 2 ^ 31) (a b c d e lo hi : Int32) (tx : Nat → Int32) : p_X8_number a b c d e (nI s) tx lo hi = some (lo, b, c, d, e, nI s) := by
  unfold p_X8_number
  rw [fi_f hs, z_bd_some, if_pos rfl]
theorem st_bad {s : Nat} (hs : s < 2 ^ 31) (a b c d e : Int32) (tx : Nat → Int32) : p_X8_stop a b c d e (nI s) tx = some (b, c, d, e, nI s) := by
  unfold p_X8_stop
  rw [fi_f hs, z_bd_some, if_pos rfl]
  rfl
section TK
variable {nt : Nat} {tc : Nat → Nat} {tf tx : Nat → Int32}
theorem mo_num (h : TX nt tc tf tx) {q : Nat} (hq : q ≤ nt) (lo hi a1 a2 a3 b1 b2' b3 : Int32) : ∃ (ok : Bool) (q' s' t' : Nat) (V7 V8 R F : Int32), p_X4_takeNumber (nI nt) (nI q) a1 a2 a3 tf lo hi = some (b2 ok, nI q', nI t', nI s', V7) ∧ p_X8_number (nI nt) (nI q) b1 b2' b3 (-1) tx lo hi = some (R, nI q', nI s', nI t', V8, F) ∧ q ≤ s' ∧ s' ≤ q' ∧ q' ≤ nt ∧ (ok = true → q < q' ∧ F = -1 ∧ R = V7 ∧ ∃ vv : Nat, vv ≤ 99 ∧ V7 = nI vv ∧ lo ≤ nI vv ∧ nI vv ≤ hi) ∧ (ok = false → F = nI s') := by
  have hn := h.1
  obtain ⟨q', s', t', V7, V8, c1, c2, l1, l2, l3, l4, l5, l6, l7⟩ := mo_token h hq a1 a2 a3 b1 b2' b3
  have k10 : ¬ (1 : Int32) = 0 := by decide
  unfold p_X4_takeNumber p_X8_number
  rw [c1, fi_t, z_bd_some, z_bd_some, if_neg k10, c2, z_bd_some]
  by_cases ht : t' = 2
  · obtain ⟨e, vv, v1, v2⟩ := l6 ht
    subst e
    subst v2
    have kt : nI t' = (2 : Int32) := by rw [ht]; rfl
    simp only [if_pos kt, p8_in, z_bd_some, wr_t]
    by_cases h1 : nI vv < lo
    · have nd : decide (lo ≤ nI vv ∧ nI vv ≤ hi) = false := decide_eq_false (fun z => Int32.not_le.mpr h1 z.1)
      simp only [if_pos h1, nd, b2_f0, if_true, z_bd_some]
      exact ⟨false, q', s', t', _, _, _, _, rfl, rfl, l1, l2, l3, fun z => absurd z (by decide), fun _ => rfl⟩
    by_cases h2 : hi < nI vv
    · have nd : decide (lo ≤ nI vv ∧ nI vv ≤ hi) = false := decide_eq_false (fun z => Int32.not_le.mpr h2 z.2)
      simp only [if_neg h1, if_pos h2, nd, b2_f0, if_true, z_bd_some]
      exact ⟨false, q', s', t', _, _, _, _, rfl, rfl, l1, l2, l3, fun z => absurd z (by decide), fun _ => rfl⟩
    · have nd : decide (lo ≤ nI vv ∧ nI vv ≤ hi) = true := decide_eq_true ⟨Int32.not_lt.mp h1, Int32.not_lt.mp h2⟩
      simp only [if_neg h1, if_neg h2, nd, b2_t0, if_false, z_bd_some]
      exact ⟨true, q', s', t', _, _, _, _, rfl, rfl, l1, l2, l3, fun _ => ⟨by have := l5 (by omega); omega, rfl, rfl, vv, v1, rfl, Int32.not_lt.mp h1, Int32.not_lt.mp h2⟩, fun z => absurd z (by decide)⟩
  · have kt : ¬ nI t' = (2 : Int32) := nI_ne (b := 2) (by omega) (by decide) ht
    simp only [if_neg kt, z_bd_some, wr_t]
    exact ⟨false, q', s', t', _, _, _, _, rfl, rfl, l1, l2, l3, fun z => absurd z (by decide), fun _ => rfl⟩
theorem mo_stp (h : TX nt tc tf tx) {q : Nat} (hq : q ≤ nt) (a1 a2 a3 b1 b2' b3 : Int32) : ∃ (ok : Bool) (q' s' t' : Nat) (V7 V8 F : Int32), p_X4_takeStop (nI nt) (nI q) a1 a2 a3 tf = some (b2 ok, nI q', nI t', nI s', V7) ∧ p_X8_stop (nI nt) (nI q) b1 b2' b3 (-1) tx = some (nI q', nI s', nI t', V8, F) ∧ s' ≤ nt ∧ q' ≤ nt ∧ (ok = true → q < q' ∧ F = -1) ∧ (ok = false → F = nI s') := by
  have hn := h.1
  obtain ⟨q', s', t', V7, V8, c1, c2, l1, l2, l3, l4, l5, l6, l7⟩ := mo_token h hq a1 a2 a3 b1 b2' b3
  have k10 : ¬ (1 : Int32) = 0 := by decide
  unfold p_X4_takeStop p_X8_stop
  rw [c1, fi_t, z_bd_some, z_bd_some, if_neg k10, c2, z_bd_some]
  by_cases ht : t' = 3
  · have kt : nI t' = (3 : Int32) := by rw [ht]; rfl
    simp only [if_pos kt, z_bd_some]
    exact ⟨true, q', s', t', _, _, _, rfl, rfl, by omega, l3, fun _ => ⟨by have := l5 (by omega); omega, rfl⟩, fun z => absurd z (by decide)⟩
  · have kt : ¬ nI t' = (3 : Int32) := nI_ne (b := 3) (by omega) (by decide) ht
    simp only [if_neg kt, z_bd_some, wr_t]
    exact ⟨false, q', s', t', _, _, _, rfl, rfl, by omega, l3, fun z => absurd z (by decide), fun _ => rfl⟩
end TK
/-- what an item leaves -/
def IT (nt q hr : Nat) (w w' v : Nat → Int32) (f : Nat → Nat → Int32) (P : Nat → DD) (ok : Bool) (q' s' : Nat) (A G : Int32) (v' : Nat → Int32) (f' : Nat → Nat → Int32) (n' : DD) : Prop :=
  (∀ j, j < 1437 → w' j = w j) ∧ (ok = true → A = nI q' ∧ G = -1 ∧ q < q' ∧ q' ≤ nt ∧ RC w' 1437 v' f' n' P ∧ v' 3 = v 3 ∧ v' 4 = v 4 ∧ f' 4 = f 4 ∧ f' 5 = f 5 ∧ ∃ h' : Nat, h' ≤ hr + 99 ∧ n'.2.2.2.2.2.2.2.2 = nI h') ∧ (ok = false → G = nI s' ∧ s' ≤ nt)
theorem IT_f {nt q hr : Nat} {w w' v : Nat → Int32} {f : Nat → Nat → Int32} {P : Nat → DD} {q' s' : Nat} {A G : Int32} {v' : Nat → Int32} {f' : Nat → Nat → Int32} {n' : DD} (hw : ∀ j, j < 1437 → w' j = w j) (hG : G = nI s') (hs : s' ≤ nt) : IT nt q hr w w' v f P false q' s' A G v' f' n' := ⟨hw, fun z => absurd z (by decide), fun _ => ⟨hG, hs⟩⟩
theorem hi_lt {vv np : Nat} (hv : vv ≤ 99) (hnp : np ≤ 7) (h1 : (0 : Int32) ≤ nI vv) (h2 : nI vv ≤ nI np - 1) : vv < np := by
  have h3 := (z_btw (nI vv) np (by omega)).mp ⟨h1, h2⟩
  obtain ⟨k, hk, e⟩ := (z_in_iff (by omega)).mp h3
  have := (nI_eq (by omega) (by omega)).mp e
  omega
section TK
variable {nt : Nat} {tc : Nat → Nat} {tf tx : Nat → Int32} {w v : Nat → Int32} {f : Nat → Nat → Int32} {n : DD} {P : Nat → DD}
theorem mo_rPlace (h : TX nt tc tf tx) {q st tk hr : Nat} (hq : q ≤ nt) (hst : st ≤ nt) (hC : RC w 1437 v f n P) (hh : n.2.2.2.2.2.2.2.2 = nI hr) (a3 b2' b3 : Int32) : ∃ (ok : Bool) (q' t' s' : Nat) (V pl ps : Int32) (k x y : Nat → Int32) (A F T U G : Int32) (w' : Nat → Int32) (A2 F2 T2 U2 G2 : Int32), p_X4_takePlace (nI nt) (nI q) (nI tk) (nI st) a3 (v 0) (v 2) (f 0) (f 1) (f 2) tf = some (b2 ok, nI q', nI t', nI s', V, pl, ps, k, x, y) ∧ p_X8_readPlace (nI nt) (nI q) (nI st) b2' b3 (-1) w tx = some (A, F, T, U, G, w') ∧ p_X8_stop (nI nt) A F T U G tx = some (A2, F2, T2, U2, G2) ∧ IT nt q hr w w' v f P ok q' s' A2 G2 (va_up (va_up v 0 pl) 2 ps) (va_up (va_up (va_up f 0 k) 1 x) 2 y) n := by
  have hn := h.1
  obtain ⟨np, hnp, e0, w418⟩ : ∃ np : Nat, np ≤ 7 ∧ v 0 = nI np ∧ w 1855 = nI np := by
    obtain ⟨np, nc, nb, nn, nm, hnp, hnc, hnb, hnn, hnm, e0, w418, e1, w422, e2, w396, e3, w447, e4, w478, hpl, hck, hD, hPP, hno, hma⟩ := hC
    exact ⟨np, hnp, e0, w418⟩
  unfold p_X4_takePlace p_X8_readPlace
  by_cases h7 : np = 7
  · have g1 : (7 : Int32) ≤ v 0 := by rw [e0, h7]; decide
    have g2 : w 1855 = (7 : Int32) := by rw [w418, h7]; rfl
    simp only [if_pos g1, if_pos g2, wr_t, z_bd_some]
    exact ⟨false, q, tk, st, _, _, _, _, _, _, _, _, _, _, _, _, _, _, _, _, _, rfl, rfl, st_bad (by omega) _ _ _ _ _ _, IT_f (fun _ _ => rfl) rfl hst⟩
  have g1 : ¬ (7 : Int32) ≤ v 0 := by rw [e0]; exact fun z => absurd ((nI_leI (a := 7) (by decide) (by omega)).mp z) (by omega)
  have g2 : ¬ w 1855 = (7 : Int32) := by rw [w418]; exact nI_ne (b := 7) (by omega) (by decide) h7
  have k10 : ¬ (1 : Int32) = 0 := by decide
  simp only [if_neg g1, if_neg g2]
  obtain ⟨ok1, q1, s1, t1, V1, W1, R1, F1, c1, d1, l1, m1, p1, y1, n1⟩ := mo_num h hq 0 5 (nI tk) (nI st) a3 (nI st) b2' b3
  simp only [c1, d1, z_bd_some]
  cases ok1
  · have := n1 rfl
    subst this
    simp only [b2_f0, if_true, nu_bad (show s1 < 2 ^ 31 by omega), fi_f (show s1 < 2 ^ 31 by omega), z_bd_some]
    exact ⟨false, q1, t1, s1, _, _, _, _, _, _, _, _, _, _, _, _, _, _, _, _, _, rfl, rfl, st_bad (by omega) _ _ _ _ _ _, IT_f (fun _ _ => rfl) rfl (by omega)⟩
  obtain ⟨r1, rfl, rfl, kk, v1, rfl, lo1, hi1⟩ := y1 rfl
  simp only [b2_t0, if_false]
  obtain ⟨ok2, q2, s2, t2, V2, W2, R2, F2, c2, d2, l2, m2, p2, y2, n2⟩ := mo_num h p1 0 9 (nI t1) (nI s1) (nI kk) (nI s1) (nI t1) W1
  simp only [c2, d2, z_bd_some]
  cases ok2
  · have := n2 rfl
    subst this
    simp only [b2_f0, if_true, nu_bad (show s2 < 2 ^ 31 by omega), fi_f (show s2 < 2 ^ 31 by omega), z_bd_some]
    exact ⟨false, q2, t2, s2, _, _, _, _, _, _, _, _, _, _, _, _, _, _, _, _, _, rfl, rfl, st_bad (by omega) _ _ _ _ _ _, IT_f (fun _ _ => rfl) rfl (by omega)⟩
  obtain ⟨r2, rfl, rfl, xx, v2, rfl, lo2, hi2⟩ := y2 rfl
  simp only [b2_t0, if_false]
  obtain ⟨ok3, q3, s3, t3, V3, W3, R3, F3, c3, d3, l3, m3, p3, y3, n3⟩ := mo_num h p2 0 9 (nI t2) (nI s2) (nI xx) (nI s2) (nI t2) W2
  simp only [c3, d3, z_bd_some]
  cases ok3
  · have := n3 rfl
    subst this
    simp only [b2_f0, if_true, fi_f (show s3 < 2 ^ 31 by omega), z_bd_some]
    exact ⟨false, q3, t3, s3, _, _, _, _, _, _, _, _, _, _, _, _, _, _, _, _, _, rfl, rfl, st_bad (by omega) _ _ _ _ _ _, IT_f (fun _ _ => rfl) rfl (by omega)⟩
  obtain ⟨r3, rfl, rfl, yy, v3, rfl, lo3, hi3⟩ := y3 rfl
  simp only [b2_t0, if_false, fi_t, z_bd_some, if_neg k10]
  have hk : kk < 6 := by have := (nI_leI (b := 5) (by omega) (by decide)).mp hi1; omega
  have hx : xx < 10 := by have := (nI_leI (b := 9) (by omega) (by decide)).mp hi2; omega
  have hy : yy < 10 := by have := (nI_leI (b := 9) (by omega) (by decide)).mp hi3; omega
  obtain ⟨w', z8, z7, hC', hfr⟩ := mo_place (s := 1437) (by omega) hC hk hx hy e0 (by omega)
  have z8' : p_X8_placeIn w (1437 : Int32) (nI kk) (nI xx) (nI yy) = some (nI np, w') := z8
  obtain ⟨ok4, q4, s4, t4, V4, W4, F4, c4, d4, l4, p4, y4, n4⟩ := mo_stp h p3 (nI t3) (nI s3) (nI yy) (nI s3) (nI t3) W3
  simp only [z7, z8', z_bd_some, c4, b2_bz, z_gd_tt]
  refine ⟨ok4, q4, t4, s4, _, _, _, _, _, _, _, _, _, _, _, _, _, _, _, _, _, rfl, rfl, d4, fun j hj => hfr j (Or.inl hj), fun z => ?_, fun z => ⟨n4 z, l4⟩⟩
  obtain ⟨z1, z2⟩ := y4 z
  exact ⟨rfl, z2, by omega, p4, hC', rfl, rfl, rfl, rfl, hr, by omega, hh⟩
theorem mo_rCrow (h : TX nt tc tf tx) {q st tk hr : Nat} (hq : q ≤ nt) (hst : st ≤ nt) (hC : RC w 1437 v f n P) (hh : n.2.2.2.2.2.2.2.2 = nI hr) (a3 b2' b3 : Int32) : ∃ (ok : Bool) (q' t' s' : Nat) (V cr ps : Int32) (ck ca ct : Nat → Int32) (A F T U G : Int32) (w' : Nat → Int32) (A2 F2 T2 U2 G2 : Int32), p_X4_takeCrow (nI nt) (nI q) (nI tk) (nI st) a3 (v 0) (v 1) (v 2) (f 3) n.2.2.2.2.1 n.2.2.2.2.2.1 tf = some (b2 ok, nI q', nI t', nI s', V, cr, ps, ck, ca, ct) ∧ p_X8_readCrow (nI nt) (nI q) (nI st) b2' b3 (-1) w tx = some (A, F, T, U, G, w') ∧ p_X8_stop (nI nt) A F T U G tx = some (A2, F2, T2, U2, G2) ∧ IT nt q hr w w' v f P ok q' s' A2 G2 (va_up (va_up v 1 cr) 2 ps) (va_up f 3 ck) (n.1, n.2.1, n.2.2.1, n.2.2.2.1, ca, ct, n.2.2.2.2.2.2.1, n.2.2.2.2.2.2.2.1, n.2.2.2.2.2.2.2.2) := by
  have hn := h.1
  obtain ⟨np, nc, hnp, hnc, e0, w418, e1, w422⟩ : ∃ np nc : Nat, np ≤ 7 ∧ nc ≤ 3 ∧ v 0 = nI np ∧ w 1855 = nI np ∧ v 1 = nI nc ∧ w 1859 = nI nc := by
    obtain ⟨np, nc, nb, nn, nm, hnp, hnc, hnb, hnn, hnm, e0, w418, e1, w422, e2, w396, e3, w447, e4, w478, hpl, hck, hD, hPP, hno, hma⟩ := hC
    exact ⟨np, nc, hnp, hnc, e0, w418, e1, w422⟩
  unfold p_X4_takeCrow p_X8_readCrow
  by_cases h7 : nc = 3
  · have g1 : (3 : Int32) ≤ v 1 := by rw [e1, h7]; decide
    have g2 : w 1859 = (3 : Int32) := by rw [w422, h7]; rfl
    simp only [if_pos g1, if_pos g2, wr_t, z_bd_some]
    exact ⟨false, q, tk, st, _, _, _, _, _, _, _, _, _, _, _, _, _, _, _, _, _, rfl, rfl, st_bad (by omega) _ _ _ _ _ _, IT_f (fun _ _ => rfl) rfl hst⟩
  have g1 : ¬ (3 : Int32) ≤ v 1 := by rw [e1]; exact fun z => absurd ((nI_leI (a := 3) (by decide) (by omega)).mp z) (by omega)
  have g2 : ¬ w 1859 = (3 : Int32) := by rw [w422]; exact nI_ne (b := 3) (by omega) (by decide) h7
  have k10 : ¬ (1 : Int32) = 0 := by decide
  have ev : v 0 - (1 : Int32) = nI np - 1 := by rw [e0]
  simp only [if_neg g1, if_neg g2, z_lt_n, w418, ev]
  obtain ⟨ok1, q1, s1, t1, V1, W1, R1, F1, c1, d1, l1, m1, p1, y1, n1⟩ := mo_num h hq 0 5 (nI tk) (nI st) a3 (nI st) b2' b3
  simp only [c1, d1, z_bd_some]
  cases ok1
  · have := n1 rfl
    subst this
    simp only [b2_f0, if_true, nu_bad (show s1 < 2 ^ 31 by omega), fi_f (show s1 < 2 ^ 31 by omega), z_bd_some]
    exact ⟨false, q1, t1, s1, _, _, _, _, _, _, _, _, _, _, _, _, _, _, _, _, _, rfl, rfl, st_bad (by omega) _ _ _ _ _ _, IT_f (fun _ _ => rfl) rfl (by omega)⟩
  obtain ⟨r1, rfl, rfl, kk, v1, rfl, lo1, hi1⟩ := y1 rfl
  simp only [b2_t0, if_false]
  obtain ⟨ok2, q2, s2, t2, V2, W2, R2, F2, c2, d2, l2, m2, p2, y2, n2⟩ := mo_num h p1 0 (nI np - 1) (nI t1) (nI s1) (nI kk) (nI s1) (nI t1) W1
  simp only [c2, d2, z_bd_some]
  cases ok2
  · have := n2 rfl
    subst this
    simp only [b2_f0, if_true, fi_f (show s2 < 2 ^ 31 by omega), z_bd_some]
    exact ⟨false, q2, t2, s2, _, _, _, _, _, _, _, _, _, _, _, _, _, _, _, _, _, rfl, rfl, st_bad (by omega) _ _ _ _ _ _, IT_f (fun _ _ => rfl) rfl (by omega)⟩
  obtain ⟨r2, rfl, rfl, pp, v2, rfl, lo2, hi2⟩ := y2 rfl
  simp only [b2_t0, if_false, fi_t, z_bd_some, if_neg k10]
  have hk : kk < 6 := by have := (nI_leI (b := 5) (by omega) (by decide)).mp hi1; omega
  have hp := hi_lt v2 hnp lo2 hi2
  obtain ⟨w', z8, z7, hC', hfr⟩ := mo_crow (s := 1437) (by omega) hC hk e0 hnp hp e1 (by omega)
  have z8' : p_X8_crowIn w (1437 : Int32) (nI kk) (nI pp) = some (nI nc, w') := z8
  obtain ⟨ok4, q4, s4, t4, V4, W4, F4, c4, d4, l4, p4, y4, n4⟩ := mo_stp h p2 (nI t2) (nI s2) (nI pp) (nI s2) (nI t2) W2
  simp only [z7, z8', z_bd_some, c4, b2_bz, z_gd_tt]
  refine ⟨ok4, q4, t4, s4, _, _, _, _, _, _, _, _, _, _, _, _, _, _, _, _, _, rfl, rfl, d4, fun j hj => hfr j (Or.inl hj), fun z => ?_, fun z => ⟨n4 z, l4⟩⟩
  obtain ⟨z1, z2⟩ := y4 z
  exact ⟨rfl, z2, by omega, p4, hC', rfl, rfl, rfl, rfl, hr, by omega, hh⟩
theorem mo_rFly (h : TX nt tc tf tx) {q st tk hr : Nat} (hq : q ≤ nt) (hst : st ≤ nt) (hC : RC w 1437 v f n P) (hh : n.2.2.2.2.2.2.2.2 = nI hr) (hr9 : hr ≤ 9000) (a3 b2' b3 : Int32) : ∃ (ok : Bool) (q' t' s' : Nat) (V cd ch : Int32) (ca ct co : Nat → Int32) (A F T U G : Int32) (w' : Nat → Int32) (A2 F2 T2 U2 G2 : Int32), p_X4_takeFlight (nI nt) (nI q) (nI tk) (nI st) a3 (v 0) (v 1) (f 0) (f 1) (f 2) (f 3) n.2.2.2.2.2.2.2.1 n.2.2.2.2.2.2.2.2 n.2.2.2.2.1 n.2.2.2.2.2.1 n.2.2.2.2.2.2.1 tf = some (b2 ok, nI q', nI t', nI s', V, cd, ch, ca, ct, co) ∧ p_X8_readFly (nI nt) (nI q) (nI st) b2' b3 (-1) w tx = some (A, F, T, U, G, w') ∧ p_X8_stop (nI nt) A F T U G tx = some (A2, F2, T2, U2, G2) ∧ IT nt q hr w w' v f P ok q' s' A2 G2 v f (n.1, n.2.1, n.2.2.1, n.2.2.2.1, ca, ct, co, cd, ch) := by
  have hn := h.1
  obtain ⟨np, nc, hnp, hnc, e0, w418, e1, w422, hP, hD⟩ : ∃ np nc : Nat, np ≤ 7 ∧ nc ≤ 3 ∧ v 0 = nI np ∧ w 1855 = nI np ∧ v 1 = nI nc ∧ w 1859 = nI nc ∧ RP w 1437 np nc f ∧ RD w 1437 nc np n := by
    obtain ⟨np, nc, nb, nn, nm, hnp, hnc, hnb, hnn, hnm, e0, w418, e1, w422, e2, w396, e3, w447, e4, w478, hpl, hck, hD, hPP, hno, hma⟩ := hC
    exact ⟨np, nc, hnp, hnc, e0, w418, e1, w422, ⟨hpl, hck⟩, hD⟩
  unfold p_X4_takeFlight p_X8_readFly
  have k10 : ¬ (1 : Int32) = 0 := by decide
  have ev : v 0 - (1 : Int32) = nI np - 1 := by rw [e0]
  have ev1 : v 1 - (1 : Int32) = nI nc - 1 := by rw [e1]
  simp only [z_lt_n, w418, w422, ev, ev1]
  obtain ⟨ok1, q1, s1, t1, V1, W1, R1, F1, c1, d1, l1, m1, p1, y1, n1⟩ := mo_num h hq 0 (nI nc - 1) (nI tk) (nI st) a3 (nI st) b2' b3
  simp only [c1, d1, z_bd_some]
  cases ok1
  · have := n1 rfl
    subst this
    simp only [b2_f0, if_true, nu_bad (show s1 < 2 ^ 31 by omega), fi_f (show s1 < 2 ^ 31 by omega), z_bd_some]
    exact ⟨false, q1, t1, s1, _, _, _, _, _, _, _, _, _, _, _, _, _, _, _, _, _, rfl, rfl, st_bad (by omega) _ _ _ _ _ _, IT_f (fun _ _ => rfl) rfl (by omega)⟩
  obtain ⟨r1, rfl, rfl, cc, v1, rfl, lo1, hi1⟩ := y1 rfl
  simp only [b2_t0, if_false]
  obtain ⟨ok2, q2, s2, t2, V2, W2, R2, F2, c2, d2, l2, m2, p2, y2, n2⟩ := mo_num h p1 0 (nI np - 1) (nI t1) (nI s1) (nI cc) (nI s1) (nI t1) W1
  simp only [c2, d2, z_bd_some]
  cases ok2
  · have := n2 rfl
    subst this
    simp only [b2_f0, if_true, fi_f (show s2 < 2 ^ 31 by omega), z_bd_some]
    exact ⟨false, q2, t2, s2, _, _, _, _, _, _, _, _, _, _, _, _, _, _, _, _, _, rfl, rfl, st_bad (by omega) _ _ _ _ _ _, IT_f (fun _ _ => rfl) rfl (by omega)⟩
  obtain ⟨r2, rfl, rfl, pp, v2, rfl, lo2, hi2⟩ := y2 rfl
  have hc := hi_lt v1 (show nc ≤ 7 by omega) lo1 hi1
  have hp := hi_lt v2 hnp lo2 hi2
  obtain ⟨nd, hhh, hnd, hhb, d7, w7, d6, w6, hat, hro, hle⟩ := id hD
  obtain ⟨a, t, ha, htt, g3, g4, g5, g6⟩ := hat cc hc
  have i3 : z_in (nI cc) 3 = true := z_in_n (by omega) (by decide)
  have iw : (1437 : Int32) + nI cc = nI (1437 + cc) := nI_add 1437 cc
  have i4 : z_in (nI (1437 + cc)) 1960 = true := z_in_n (by omega) (by decide)
  simp only [b2_t0, if_false, fi_t, z_bd_some, if_neg k10, i3, iw, i4, z_gd_tt, nI_clamp (show cc < 2 ^ 31 by omega), nI_clamp (show 1437 + cc < 2 ^ 31 by omega), g3, g4]
  by_cases hap : nI a = nI pp
  · simp only [if_pos hap, wr_t, z_bd_some, fi_f (show s2 < 2 ^ 31 by omega), if_true]
    exact ⟨false, q2, t2, s2, _, _, _, _, _, _, _, _, _, _, _, _, _, _, _, _, _, rfl, rfl, st_bad (by omega) _ _ _ _ _ _, IT_f (fun _ _ => rfl) rfl (by omega)⟩
  obtain ⟨g, w2, r, hg, f7, f8, hD2, hhr, hw2⟩ := mo_fly (s := 1437) (u := 1437) (by omega) (by omega) hnp hnc (by decide) hP (RDg_of hD) hc hp (Or.inr ⟨hr, by omega, hh⟩)
  have f8' : p_X8_flyIn w (1437 : Int32) (1437 : Int32) (nI cc) (nI pp) = some (nI g, w2) := f8
  obtain ⟨ok4, q4, s4, t4, V4, W4, F4, c4, d4, l4, p4, y4, n4⟩ := mo_stp h p2 (nI t2) (nI s2) (nI pp) (nI s2) (nI t2) W2
  simp only [if_neg hap, fi_t, z_bd_some, if_neg k10, f7, f8', c4, b2_bz, z_gd_tt]
  refine ⟨ok4, q4, t4, s4, _, _, _, _, _, _, _, _, _, _, _, _, _, _, _, _, _, rfl, rfl, d4, fun j hj => hw2 j (Or.inl hj), fun z => ?_, fun z => ⟨n4 z, l4⟩⟩
  obtain ⟨z1, z2⟩ := y4 z
  have hcl := hhr hr (by omega) hh
  exact ⟨rfl, z2, by omega, p4, RC_now (np := np) (nc := nc) hC (fun j h1 h2 => hw2 _ (Or.inr (by omega))) hnp hnc e0 e1 (RDg_to (RDg_fix (k := hr + 1) (by decide) (by omega) (by omega) hcl hD2)), rfl, rfl, rfl, rfl, hr + 1, by omega, hcl⟩
theorem mo_rRest (h : TX nt tc tf tx) {q st tk hr : Nat} (hq : q ≤ nt) (hst : st ≤ nt) (hC : RC w 1437 v f n P) (hh : n.2.2.2.2.2.2.2.2 = nI hr) (hr9 : hr ≤ 9000) (a3 b2' b3 : Int32) : ∃ (ok : Bool) (q' t' s' : Nat) (V ch : Int32) (ct : Nat → Int32) (A F T U G : Int32) (w' : Nat → Int32) (A2 F2 T2 U2 G2 : Int32), p_X4_takeRest (nI nt) (nI q) (nI tk) (nI st) a3 (v 1) n.2.2.2.2.2.2.2.2 n.2.2.2.2.2.1 tf = some (b2 ok, nI q', nI t', nI s', V, ch, ct) ∧ p_X8_readRest (nI nt) (nI q) (nI st) b2' b3 (-1) w tx = some (A, F, T, U, G, w') ∧ p_X8_stop (nI nt) A F T U G tx = some (A2, F2, T2, U2, G2) ∧ IT nt q hr w w' v f P ok q' s' A2 G2 v f (n.1, n.2.1, n.2.2.1, n.2.2.2.1, n.2.2.2.2.1, ct, n.2.2.2.2.2.2.1, n.2.2.2.2.2.2.2.1, ch) := by
  have hn := h.1
  obtain ⟨np, nc, hnp, hnc, e0, w418, e1, w422, hD⟩ : ∃ np nc : Nat, np ≤ 7 ∧ nc ≤ 3 ∧ v 0 = nI np ∧ w 1855 = nI np ∧ v 1 = nI nc ∧ w 1859 = nI nc ∧ RD w 1437 nc np n := by
    obtain ⟨np, nc, nb, nn, nm, hnp, hnc, hnb, hnn, hnm, e0, w418, e1, w422, e2, w396, e3, w447, e4, w478, hpl, hck, hD, hPP, hno, hma⟩ := hC
    exact ⟨np, nc, hnp, hnc, e0, w418, e1, w422, hD⟩
  unfold p_X4_takeRest p_X8_readRest
  have k10 : ¬ (1 : Int32) = 0 := by decide
  have ev1 : v 1 - (1 : Int32) = nI nc - 1 := by rw [e1]
  simp only [z_lt_n, w422, ev1]
  obtain ⟨ok1, q1, s1, t1, V1, W1, R1, F1, c1, d1, l1, m1, p1, y1, n1⟩ := mo_num h hq 0 (nI nc - 1) (nI tk) (nI st) a3 (nI st) b2' b3
  simp only [c1, d1, z_bd_some]
  cases ok1
  · have := n1 rfl
    subst this
    simp only [b2_f0, if_true, fi_f (show s1 < 2 ^ 31 by omega), z_bd_some]
    exact ⟨false, q1, t1, s1, _, _, _, _, _, _, _, _, _, _, _, _, _, _, rfl, rfl, st_bad (by omega) _ _ _ _ _ _, IT_f (fun _ _ => rfl) rfl (by omega)⟩
  obtain ⟨r1, rfl, rfl, cc, v1, rfl, lo1, hi1⟩ := y1 rfl
  have hc := hi_lt v1 (show nc ≤ 7 by omega) lo1 hi1
  obtain ⟨nd, hhh, hnd, hhb, d7, w7, d6, w6, hat, hro, hle⟩ := id hD
  have ehh : hhh = hr := (nI_eq (by omega) (by omega)).mp (d6.symm.trans hh)
  subst ehh
  obtain ⟨a, t, ha, htt, g3, g4, g5, g6⟩ := hat cc hc
  have rs : p_X8_restIn w (1437 : Int32) (nI cc) = some (nI t, upd (upd w (1437 + 3 + cc) 0) (1437 + 6) (nI (hhh + 8))) := mo_restIn (u := 1437) (by omega) (by omega) w6 g6 (by omega) (Or.inr ⟨by omega, (Nat.min_eq_left (by omega)).symm⟩)
  have sl : p_X1_sleep n.2.2.2.2.2.2.2.2 n.2.2.2.2.2.1 (nI cc) = some (nI (hhh + 8), upd n.2.2.2.2.2.1 cc 0) := by rw [d6]; exact mo_sleep (by omega)
  obtain ⟨ok4, q4, s4, t4, V4, W4, F4, c4, d4, l4, p4, y4, n4⟩ := mo_stp h p1 (nI t1) (nI s1) (nI cc) (nI s1) (nI t1) W1
  simp only [b2_t0, if_false, fi_t, z_bd_some, if_neg k10, rs, sl, c4, b2_bz, z_gd_tt]
  have hD2 := RDg_hour (C := 9999) (H := hhh + 8) hnc (by omega) (RDg_slept hnc hc (RDg_of hD))
  refine ⟨ok4, q4, t4, s4, _, _, _, _, _, _, _, _, _, _, _, _, _, _, rfl, rfl, d4, fun j hj => ?_, fun z => ?_, fun z => ⟨n4 z, l4⟩⟩
  · simp (disch := omega) only [ud_n]
  obtain ⟨z1, z2⟩ := y4 z
  exact ⟨rfl, z2, by omega, p4, RC_now (np := np) (nc := nc) hC (fun j h1 h2 => by simp (disch := omega) only [ud_n]) hnp hnc e0 e1 (RDg_to hD2), rfl, rfl, rfl, rfl, hhh + 8, by omega, rfl⟩
theorem mo_rHours (h : TX nt tc tf tx) {q st tk hr : Nat} (hq : q ≤ nt) (hst : st ≤ nt) (hC : RC w 1437 v f n P) (hh : n.2.2.2.2.2.2.2.2 = nI hr) (hr9 : hr ≤ 9000) (a3 b2' b3 : Int32) : ∃ (ok : Bool) (q' t' s' : Nat) (V ch : Int32) (A F T U G : Int32) (w' : Nat → Int32) (A2 F2 T2 U2 G2 : Int32), p_X4_takeHours (nI nt) (nI q) (nI tk) (nI st) a3 n.2.2.2.2.2.2.2.2 tf = some (b2 ok, nI q', nI t', nI s', V, ch) ∧ p_X8_readHours (nI nt) (nI q) (nI st) b2' b3 (-1) w tx = some (A, F, T, U, G, w') ∧ p_X8_stop (nI nt) A F T U G tx = some (A2, F2, T2, U2, G2) ∧ IT nt q hr w w' v f P ok q' s' A2 G2 v f (n.1, n.2.1, n.2.2.1, n.2.2.2.1, n.2.2.2.2.1, n.2.2.2.2.2.1, n.2.2.2.2.2.2.1, n.2.2.2.2.2.2.2.1, ch) := by
  have hn := h.1
  obtain ⟨np, nc, hnp, hnc, e0, e1, hD⟩ : ∃ np nc : Nat, np ≤ 7 ∧ nc ≤ 3 ∧ v 0 = nI np ∧ v 1 = nI nc ∧ RD w 1437 nc np n := by
    obtain ⟨np, nc, nb, nn, nm, hnp, hnc, hnb, hnn, hnm, e0, w418, e1, w422, e2, w396, e3, w447, e4, w478, hpl, hck, hD, hPP, hno, hma⟩ := hC
    exact ⟨np, nc, hnp, hnc, e0, e1, hD⟩
  unfold p_X4_takeHours p_X8_readHours
  have k10 : ¬ (1 : Int32) = 0 := by decide
  obtain ⟨ok1, q1, s1, t1, V1, W1, R1, F1, c1, d1, l1, m1, p1, y1, n1⟩ := mo_num h hq 1 99 (nI tk) (nI st) a3 (nI st) b2' b3
  simp only [c1, d1, z_bd_some]
  cases ok1
  · have := n1 rfl
    subst this
    simp only [b2_f0, if_true, fi_f (show s1 < 2 ^ 31 by omega), z_bd_some]
    exact ⟨false, q1, t1, s1, _, _, _, _, _, _, _, _, _, _, _, _, _, rfl, rfl, st_bad (by omega) _ _ _ _ _ _, IT_f (fun _ _ => rfl) rfl (by omega)⟩
  obtain ⟨r1, rfl, rfl, vv, v1, rfl, lo1, hi1⟩ := y1 rfl
  obtain ⟨nd, hhh, hnd, hhb, d7, w7, d6, w6, hat, hro, hle⟩ := id hD
  have ehh : hhh = hr := (nI_eq (by omega) (by omega)).mp (d6.symm.trans hh)
  subst ehh
  have go : p_X8_goOn w (1437 : Int32) (nI vv) = some (upd w (1437 + 6) (nI (hhh + vv))) := mo_goOn (u := 1437) (by omega) w6 (by omega) (Or.inr (by omega))
  have ek : n.2.2.2.2.2.2.2.2 + nI vv = nI (hhh + vv) := by rw [d6, nI_add]
  obtain ⟨ok4, q4, s4, t4, V4, W4, F4, c4, d4, l4, p4, y4, n4⟩ := mo_stp h p1 (nI t1) (nI s1) (nI vv) (nI s1) (nI t1) W1
  simp only [b2_t0, if_false, fi_t, z_bd_some, if_neg k10, z_lt_n, ek, go, c4, b2_bz, z_gd_tt]
  have hD2 := RDg_hour (C := 9999) (H := hhh + vv) hnc (by omega) (RDg_of hD)
  refine ⟨ok4, q4, t4, s4, _, _, _, _, _, _, _, _, _, _, _, _, _, rfl, rfl, d4, fun j hj => ud_n (by omega), fun z => ?_, fun z => ⟨n4 z, l4⟩⟩
  obtain ⟨z1, z2⟩ := y4 z
  exact ⟨rfl, z2, by omega, p4, RC_now (np := np) (nc := nc) hC (fun j h1 h2 => ud_n (by omega)) hnp hnc e0 e1 (RDg_to hD2), rfl, rfl, rfl, rfl, hhh + vv, by omega, rfl⟩
end TK
