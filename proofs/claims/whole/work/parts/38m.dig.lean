/-! digest and wind. -/
def mixN (h : Int64) (g : Nat → Int32) : Nat → Int64
  | 0 => h
  | k + 1 => 31 * mixN h g k + (g k).toInt64
theorem mixN_c {h : Int64} {g g' : Nat → Int32} {k : Nat} (e : ∀ j, j < k → g j = g' j) : mixN h g k = mixN h g' k := by
  induction k with
  | zero => rfl
  | succ k ih =>
    show 31 * mixN h g k + (g k).toInt64 = 31 * mixN h g' k + (g' k).toInt64
    rw [ih (fun j hj => e j (by omega)), e k (by omega)]
theorem mixN_3 (h : Int64) (g : Nat → Int32) (k : Nat) : mixN h g (3 * (k + 1)) = 31 * (31 * (31 * mixN h g (3 * k) + (g (3 * k)).toInt64) + (g (3 * k + 1)).toInt64) + (g (3 * k + 2)).toInt64 := rfl
theorem mo_more (w : Nat → Int32) (h : Int64) {a m : Nat} (hm : a + m ≤ 1960) : p_X8_more w h (nI a) (nI m) = some (mixN h (fun j => w (a + j)) m) := by
  unfold p_X8_more
  rw [z_bd_s (v := mixN h (fun j => w (a + j)) m) ?_]
  refine z_forS (fun i => (nI i, mixN h (fun j => w (a + j)) i)) m _ rfl ?_ ?_
  · intro i hi
    simp (disch := omega) only [nI_leI, if_neg, z_lt, nI_add, z_in_n, z_gd_tt, nI_clamp, nI_1]
    rfl
  · simp (disch := omega) only [nI_leI, if_pos]
theorem mo_mixDeeds (r : Nat → Int32) (h : Int64) {nd : Nat} (hnd : nd ≤ 12) : p_X1_mixDeeds (nI nd) r h = some (mixN h r (3 * nd)) := by
  unfold p_X1_mixDeeds
  have e3 : nI nd * (3 : Int32) = nI (3 * nd) := by rw [Nat.mul_comm]; exact pk_mul nd 3
  rw [e3, z_bd_s (v := mixN h r (3 * nd)) ?_]
  refine z_forS (fun i => (nI i, mixN h r i)) (3 * nd) _ rfl ?_ ?_
  · intro i hi
    simp (disch := omega) only [nI_leI, if_neg, z_lt, z_in_n, z_gd_tt, nI_clamp, nI_1]
    rfl
  · simp (disch := omega) only [nI_leI, if_pos]
theorem mo_mixMarks (r : Nat → Int32) (h : Int64) {nd : Nat} (hnd : nd ≤ 6) : p_X6_mixInto 1 (nI nd) r h = some (mixN h r (5 * nd)) := by
  unfold p_X6_mixInto
  have e3 : nI nd * (5 : Int32) = nI (5 * nd) := by rw [Nat.mul_comm]; exact pk_mul nd 5
  rw [e3, z_bd_s (v := mixN h r (5 * nd)) ?_]
  refine z_forS (fun i => (nI i, mixN h r i)) (5 * nd) _ rfl ?_ ?_
  · intro i hi
    have k1 : ¬ (1 : Int32) = 0 := by decide
    simp (disch := omega) only [if_neg k1, nI_leI, if_neg, z_lt, z_in_n, z_gd_tt, nI_clamp, nI_1, z_bd_some]
    rfl
  · simp (disch := omega) only [nI_leI, if_pos]
theorem mo_mixNotes {w : Nat → Int32} {r : Nat → Int32} (h : Int64) {nd : Nat} (hnd : nd ≤ 6) (hr : RN w 0 nd r) : p_X6_mixInto 0 (nI nd) r h = some (mixN h (fun j => w (423 + j)) (4 * nd)) := by
  unfold p_X6_mixInto
  have e3 : nI nd * (5 : Int32) = nI (5 * nd) := by rw [Nat.mul_comm]; exact pk_mul nd 5
  rw [e3, z_bd_s (v := mixN h (fun j => w (423 + j)) (4 * nd)) ?_]
  refine z_forS (fun i => (nI i, mixN h (fun j => w (423 + j)) (i - (i + 1) / 5))) (5 * nd) _ rfl ?_ ?_
  · intro i hi
    have e5 : nI i - nI i / (5 : Int32) * (5 : Int32) = nI (i % 5) := pk_rem (d := 5) (by omega) (by decide) (by decide)
    have hm : i % 5 < 5 := Nat.mod_lt _ (by decide)
    simp (disch := omega) only [if_true, e5, li_3, nI_eq, nI_leI, if_neg, z_lt, z_in_n, z_gd_tt, nI_clamp, nI_1]
    by_cases q : i % 5 = 3
    · simp only [if_pos q, z_bd_some]
      rw [show i + 1 - (i + 1 + 1) / 5 = i - (i + 1) / 5 by omega]
    · simp only [if_neg q, z_bd_some]
      rw [show i + 1 - (i + 1 + 1) / 5 = (i - (i + 1) / 5) + 1 by omega]
      have ev : r i = w (423 + (i - (i + 1) / 5)) := by
        obtain ⟨h1, h2, h3, h4, h5⟩ := hr (i / 5) (by omega)
        rcases (show i % 5 = 0 ∨ i % 5 = 1 ∨ i % 5 = 2 ∨ i % 5 = 4 by omega) with c | c | c | c
        · rw [show i = 5 * (i / 5) by omega] ; rw [h1]; congr 1; omega
        · rw [show i = 5 * (i / 5) + 1 by omega]; rw [h2]; congr 1; omega
        · rw [show i = 5 * (i / 5) + 2 by omega]; rw [h3]; congr 1; omega
        · rw [show i = 5 * (i / 5) + 4 by omega]; rw [h5]; congr 1; omega
      rw [ev]
      rfl
  · simp (disch := omega) only [nI_leI, if_pos]
    rw [show 5 * nd - (5 * nd + 1) / 5 = 4 * nd by omega]
theorem q_35 {x : Nat → Int32} {v : Nat → Int32} {f : Nat → Nat → Int32} {n : DD} {P : Nat → DD} {kf : Nat → Int32} {tf : Nat → Int32} {v0 : Nat → Int32} {f0 : Nat → Nat → Int32} {n0 : DD} {P0 : Nat → DD} {v1 : Nat → Int32} {f1 : Nat → Nat → Int32} {n1 : DD} {P1 : Nat → DD} {mv : Nat → Int32} {ma : Int64} {mb : Int64} {w : Nat → Int32} {tx : Nat → Int32} (hR : RelX x v f n P kf tf v0 f0 n0 P0 v1 f1 n1 P1 mv ma mb w tx) : ∃ (r7 : Int64) (r8 : Int64), p_X7_digest (x 0) (x 1) (x 2) (v 0) (v 1) (v 2) (f 0) (f 1) (f 2) (f 3) n.2.2.2.2.2.2.2.1 n.2.2.2.2.2.2.2.2 n.2.2.2.2.1 n.2.2.2.2.2.1 n.2.2.2.2.2.2.1 0 (v 3) (f 4) 1 (v 4) (f 5) = some r7 ∧ p_X8_digest (mv 1) ma mb w = some r8 ∧ r7 = r8 ∧ RelX x v f n P kf tf v0 f0 n0 P0 v1 f1 n1 P1 mv ma mb w tx := by
  have main : Al (p_X7_digest (x 0) (x 1) (x 2) (v 0) (v 1) (v 2) (f 0) (f 1) (f 2) (f 3) n.2.2.2.2.2.2.2.1 n.2.2.2.2.2.2.2.2 n.2.2.2.2.1 n.2.2.2.2.2.1 n.2.2.2.2.2.2.1 0 (v 3) (f 4) 1 (v 4) (f 5)) (p_X8_digest (mv 1) ma mb w) Eq := by
    have h1' : (x 1).toInt64 = ma := hR.2.2.2.2.2.1
    have h2' : (x 2).toInt64 = mb := hR.2.2.2.2.2.2.1
    have ham := RX_amount hR
    obtain ⟨np, nc, nb, nn, nm, hnp, hnc, hnb, hnn, hnm, e0, w418, e1, w422, e2, w396, e3, w447, e4, w478, hpl, hck, hD, hPP, hno, hma⟩ := hR.1
    obtain ⟨nd, hh, hnd, hhh, d7, w7, d6, w6, hat, hro, hle⟩ := hD
    simp only [Nat.zero_add] at w418 w422 w396 w447 w478 w7 w6 hro
    unfold p_X7_digest p_X8_digest p_X0_mixInto
    refine Al_bd Eq (Al_lp 9 (fun i s t => s.1 = nI i ∧ s = t) Eq ?_ ?_ _ _ ⟨rfl, rfl⟩) ?_
    · rintro i ⟨s1, s2⟩ _ hi ⟨g1, rfl⟩
      simp only at g1
      subst g1
      obtain ⟨a, _, a1, a2, rfl⟩ := ham (nI i)
      simp (disch := omega) only [li_9, nI_leI, if_neg, a1, a2, z_bd_some, z_lt, nI_1]
      exact Lp2_l ⟨rfl, rfl⟩
    · rintro ⟨s1, s2⟩ _ ⟨g1, rfl⟩
      simp only at g1
      subst g1
      simp (disch := omega) only [li_9, nI_leI, if_pos]
      exact Lp2_r rfl
    rintro h _ rfl
    have m3 : (3 : Int32) * nI np = nI (3 * np) := pk_mul 3 np
    have m4 : (3 : Int32) * nI nd = nI (3 * nd) := pk_mul 3 nd
    have m5 : (4 : Int32) * nI nn = nI (4 * nn) := pk_mul 4 nn
    have m6 : (5 : Int32) * nI nm = nI (5 * nm) := pk_mul 5 nm
    have mo1 : p_X8_more w h (397 : Int32) (nI (3 * np)) = some (mixN h (fun j => w (397 + j)) (3 * np)) := mo_more w h (a := 397) (by omega)
    have mo2 : ∀ h, p_X8_more w h (8 : Int32) (nI (3 * nd)) = some (mixN h (fun j => w (8 + j)) (3 * nd)) := fun h => mo_more w h (a := 8) (by omega)
    have mo3 : ∀ h, p_X8_more w h (423 : Int32) (nI (4 * nn)) = some (mixN h (fun j => w (423 + j)) (4 * nn)) := fun h => mo_more w h (a := 423) (by omega)
    have mo4 : ∀ h, p_X8_more w h (448 : Int32) (nI (5 * nm)) = some (mixN h (fun j => w (448 + j)) (5 * nm)) := fun h => mo_more w h (a := 448) (by omega)
    have c2 : ∀ h, mixN h n.2.2.2.2.2.2.1 (3 * nd) = mixN h (fun j => w (8 + j)) (3 * nd) := fun h => mixN_c hro
    have c4 : ∀ h, mixN h (f 5) (5 * nm) = mixN h (fun j => w (448 + j)) (5 * nm) := fun h => mixN_c (fun j hj => by have := hma j hj; rw [Nat.zero_add] at this; exact this)
    simp only [w418, w422, w7, w447, w478, e0, e1, e3, e4, d7, z_lt, m3, m4, m5, m6, mo1, mo2, mo3, mo4, z_bd_some, mo_mixDeeds _ _ hnd, mo_mixNotes _ hnn hno, mo_mixMarks _ _ hnm, c2, c4, h1', h2', z_bd_bd]
    refine Al_bdl (a := mixN h (fun j => w (397 + j)) (3 * np)) ?_ ?_
    · refine z_forS (fun i => (nI i, mixN h (fun j => w (397 + j)) (3 * i))) np _ rfl ?_ ?_
      · intro i hi
        obtain ⟨k, xx, yy, hk, hx, hy, g0, h0, g1, h1, g2, h2⟩ := hpl i hi
        simp only [Nat.zero_add] at h0 h1 h2
        have q0 : f 0 i = w (397 + 3 * i) := g0.trans h0.symm
        have q1 : f 1 i = w (397 + (3 * i + 1)) := by rw [g1, ← h1]; congr 1; omega
        have q2 : f 2 i = w (397 + (3 * i + 2)) := by rw [g2, ← h2]; congr 1; omega
        simp (disch := omega) only [nI_leI, if_neg, z_in_n, z_gd_tt, nI_clamp, p_X0_mixThree, z_bd_some, nI_1, q0, q1, q2, mixN_3]
      · simp (disch := omega) only [nI_leI, if_pos]
    refine Al_bd Eq (Al_lp nc (fun i s t => s.1 = nI i ∧ s = t) Eq ?_ ?_ _ _ ⟨rfl, rfl⟩) ?_
    · rintro i ⟨s1, s2⟩ _ hi ⟨g1, rfl⟩
      simp only at g1
      subst g1
      obtain ⟨k, hk, g0, h0⟩ := hck i hi
      obtain ⟨a, t, -, -, g3, g4, g5, g6⟩ := hat i hi
      simp only [Nat.zero_add] at h0 g4 g6
      simp (disch := omega) only [li_419, li_3, nI_add, nI_leI, if_neg, z_in_n, z_gd_tt, nI_clamp, p_X0_mixThree, z_bd_some, nI_1, g0, h0, g3, g4, g5, g6]
      exact Lp2_l ⟨rfl, rfl⟩
    · rintro ⟨s1, s2⟩ _ ⟨g1, rfl⟩
      simp only at g1
      subst g1
      simp (disch := omega) only [nI_leI, if_pos]
      exact Lp2_r rfl
    · rintro h _ rfl
      exact Al_e
  obtain ⟨a, b, h1, h2, h3⟩ := main
  exact ⟨a, b, h1, h2, h3, hR⟩
/-- Euclid's steps on both sides -/
theorem mo_gcd {N : Nat} (hN : N < 2 ^ 30) : ∃ g : Nat, 0 < g ∧ g < 2 ^ 30 ∧ z_lp (S := Int32 × Int32 × Int32) (E := Int32) (fun s1 =>
    if ((64 : Int32) ≤ s1.1) then
    (some (.inr s1.2.2)) else
    (if (s1.2.1 = 0) then
    (some (.inr s1.2.2)) else
    (z_gd (z_nz s1.2.1) <|
    z_lt ((s1.2.2 - s1.2.2 / s1.2.1 * s1.2.1)) fun x13 =>
    z_lt (s1.1 + (1 : Int32)) fun x14 =>
    some (.inl (x14, x13, s1.2.1))))) ((0 : Int32), (10 : Int32), nI N) = some (nI g) ∧ z_lp (S := Int64 × Int64) (E := Int64) (fun s23 =>
    if ((lg_cmp s23.1 (0 : Int64)) = 0) then
    (some (.inr s23.2)) else
    (z_gd (z_nzl s23.1) <|
    z_lt ((s23.2 - s23.2 / s23.1 * s23.1)) fun x32 =>
    some (.inl (x32, s23.1)))) ((10 : Int64), lN N) = some (lN g) := by
  obtain ⟨a, b, h1, h2, g, h3, h4, rfl, rfl⟩ : Al (z_lp (S := Int32 × Int32 × Int32) (E := Int32) (fun s1 =>
    if ((64 : Int32) ≤ s1.1) then
    (some (.inr s1.2.2)) else
    (if (s1.2.1 = 0) then
    (some (.inr s1.2.2)) else
    (z_gd (z_nz s1.2.1) <|
    z_lt ((s1.2.2 - s1.2.2 / s1.2.1 * s1.2.1)) fun x13 =>
    z_lt (s1.1 + (1 : Int32)) fun x14 =>
    some (.inl (x14, x13, s1.2.1))))) ((0 : Int32), (10 : Int32), nI N)) (z_lp (S := Int64 × Int64) (E := Int64) (fun s23 =>
    if ((lg_cmp s23.1 (0 : Int64)) = 0) then
    (some (.inr s23.2)) else
    (z_gd (z_nzl s23.1) <|
    z_lt ((s23.2 - s23.2 / s23.1 * s23.1)) fun x32 =>
    some (.inl (x32, s23.1)))) ((10 : Int64), lN N)) (fun a b => ∃ g : Nat, 0 < g ∧ g < 2 ^ 30 ∧ a = nI g ∧ b = lN g) := by
    refine Al_lp 10 (fun i s t => ∃ y x : Nat, y ≤ 10 - i ∧ (0 < y ∨ 0 < x) ∧ x < 2 ^ 30 ∧ s = (nI i, nI y, nI x) ∧ t = (lN y, lN x)) _ ?_ ?_ _ _ ⟨10, N, by omega, Or.inl (by omega), hN, rfl, rfl⟩
    · rintro i _ _ hi ⟨y, x, hy, hp, hx, rfl, rfl⟩
      have k1 : ¬ (64 : Int32) ≤ nI i := fun q => absurd ((nI_leI (a := 64) (by decide) (by omega)).mp q) (by omega)
      by_cases q : y = 0
      · subst q
        have k2 : lg_cmp (lN 0) 0 = 0 := (lg_cmp_eq _ _).mpr rfl
        simp only [if_neg k1, k2, show nI 0 = (0 : Int32) from rfl, if_true]
        exact Lp2_r ⟨x, by omega, hx, rfl, rfl⟩
      · have k2 : ¬ lg_cmp (lN y) 0 = 0 := fun z => q ((lN_eq (b := 0) (by omega) (by decide)).mp ((lg_cmp_eq _ _).mp z))
        have k3 : ¬ nI y = (0 : Int32) := nI_ne (b := 0) (by omega) (by decide) q
        have k4 : ¬ lN y = (0 : Int64) := fun z => q ((lN_eq (b := 0) (by omega) (by decide)).mp z)
        have hlt : x % y < y := Nat.mod_lt _ (by omega)
        simp only [if_neg k1, if_neg k2, if_neg k3, z_nz_i k3, z_nzl_i k4, z_gd_tt, z_lt, pk_rem (show x < 2 ^ 31 by omega) (show 0 < y by omega) (show y < 2 ^ 31 by omega), pk_lRem (show x < 2 ^ 63 by omega) (show 0 < y by omega) (show y < 2 ^ 63 by omega), nI_1]
        exact Lp2_l ⟨x % y, y, by omega, Or.inr (by omega), by omega, rfl, rfl⟩
    · rintro _ _ ⟨y, x, hy, hp, hx, rfl, rfl⟩
      have q : y = 0 := by omega
      subst q
      have k1 : ¬ (64 : Int32) ≤ nI 10 := by decide
      have k2 : lg_cmp (lN 0) 0 = 0 := (lg_cmp_eq _ _).mpr rfl
      simp only [if_neg k1, k2, show nI 0 = (0 : Int32) from rfl, if_true]
      exact Lp2_r ⟨x, by omega, hx, rfl, rfl⟩
  exact ⟨g, h3, h4, h1, h2⟩
theorem q_28 {x : Nat → Int32} {v : Nat → Int32} {f : Nat → Nat → Int32} {n : DD} {P : Nat → DD} {kf : Nat → Int32} {tf : Nat → Int32} {v0 : Nat → Int32} {f0 : Nat → Nat → Int32} {n0 : DD} {P0 : Nat → DD} {v1 : Nat → Int32} {f1 : Nat → Nat → Int32} {n1 : DD} {P1 : Nat → DD} {mv : Nat → Int32} {ma : Int64} {mb : Int64} {w : Nat → Int32} {tx : Nat → Int32} (hR : RelX x v f n P kf tf v0 f0 n0 P0 v1 f1 n1 P1 mv ma mb w tx) (c1 : Int32) (c2 : Int32) (c3 : Int32) (c4 : Int32) : ∃ (r7 : Int32 × Int32 × Int32 × Int32) (r8 : Int32 × Int64 × Int64 × Int32), p_X7_wind (x 1) (x 2) (x 3) (v 0) (v 1) (f 0) (f 1) (f 2) (f 3) n.2.2.2.2.2.2.2.2 n.2.2.2.2.2.1 c1 c2 c3 c4 = some r7 ∧ p_X8_wind ma mb (mv 2) w c1 c2 c3 c4 = some r8 ∧ r7.1 = r8.1 ∧ RelX (va_up (va_up (va_up x 1 r7.2.1) 2 r7.2.2.1) 3 r7.2.2.2) v f n P kf tf v0 f0 n0 P0 v1 f1 n1 P1 (va_up mv 2 r8.2.2.2) r8.2.1 r8.2.2.1 w tx := by
  obtain ⟨hC, hRR⟩ := hR
  obtain ⟨ht, hb, hno', hfu, hx1, hx2, hrest⟩ := id hRR
  obtain ⟨np, nc, hnp, hnc, e0, w418, e1, w422, hP, hD⟩ := RC_get hC
  simp only [p_X7_wind, p_X8_wind, e0, e1, hb, p7_isTrip hnp hnc, p8_isCrow w422 (by omega), p8_isPlace w418 (by omega), p7_within, p8_in, z_rg10, z_bd_some, p_X7_refuseBad, p_X8_bad, z_lt]
  cases hc : z_in c1 nc
  · simp only [b2_f0, if_true, Bool.false_and]
    exact ⟨_, _, rfl, rfl, rfl, hC, ht, rfl, hno', hfu, hx1, hx2, hrest⟩
  cases h2 : z_in c2 np
  · simp only [b2_t0, b2_f0, if_true, if_false, Bool.false_and, Bool.true_and]
    exact ⟨_, _, rfl, rfl, rfl, hC, ht, rfl, hno', hfu, hx1, hx2, hrest⟩
  cases h3 : z_in c3 np
  · simp only [b2_t0, b2_f0, if_true, if_false, Bool.true_and]
    exact ⟨_, _, rfl, rfl, rfl, hC, ht, rfl, hno', hfu, hx1, hx2, hrest⟩
  cases h4 : z_in c4 11
  · simp only [b2_t0, b2_f0, if_true, if_false, Bool.true_and]
    exact ⟨_, _, rfl, rfl, rfl, hC, ht, rfl, hno', hfu, hx1, hx2, hrest⟩
  simp only [b2_t0, if_false, Bool.true_and]
  obtain ⟨c, hc', rfl⟩ := (z_in_iff (by omega)).mp hc
  obtain ⟨a, ha, rfl⟩ := (z_in_iff (by omega)).mp h2
  obtain ⟨b, hb', rfl⟩ := (z_in_iff (by omega)).mp h3
  obtain ⟨o, ho, rfl⟩ := (z_in_iff (by omega)).mp h4
  obtain ⟨g, hg, f7, f8⟩ := mo_farNow hnp hnc hP hD hc' ha hb'
  have hmul : o * (g / 2) ≤ 10 * 300 := Nat.mul_le_mul (by omega) (by omega)
  have ev : (nI o * (nI g + nI g / (2 : Int32))) + ((10 : Int32) - nI o) * nI g = nI (10 * g + o * (g / 2)) := by
    have k1 : nI g / (2 : Int32) = nI (g / 2) := pk_div (d := 2) (by omega) (by decide) (by decide)
    have k2 : (10 : Int32) - nI o = nI (10 - o) := pk_sub (a := 10) (by omega)
    rw [k1, k2, nI_add, pk_mul, pk_mul, nI_add, Nat.mul_add, Nat.sub_mul]
    congr 1
    have : o * g ≤ 10 * g := Nat.mul_le_mul (by omega) (Nat.le_refl _)
    omega
  have ew : (10 : Int64) * (nI g).toInt64 + (nI o).toInt64 * ((nI g).toInt64 / (2 : Int64)) = lN (10 * g + o * (g / 2)) := by
    have k1 : lN g / (2 : Int64) = lN (g / 2) := pk_lDiv (b := 2) (by omega) (by decide) (by decide)
    have k2 : (10 : Int64) * lN g = lN (10 * g) := lN_mul 10 g
    rw [nI_l (show g < 2 ^ 31 by omega), nI_l (show o < 2 ^ 31 by omega), k1, k2, lN_mul, lN_add]
  obtain ⟨d, hd, hd2, g7, g8⟩ := mo_gcd (N := 10 * g + o * (g / 2)) (by omega)
  have k3 : ¬ nI d = (0 : Int32) := nI_ne (b := 0) (by omega) (by decide) (by omega)
  have k4 : ¬ lN d = (0 : Int64) := fun z => absurd ((lN_eq (b := 0) (by omega) (by decide)).mp z) (by omega)
  have r1 : nI (10 * g + o * (g / 2)) / nI d = nI ((10 * g + o * (g / 2)) / d) := pk_div (by omega) hd (by omega)
  have r2 : (10 : Int32) / nI d = nI (10 / d) := pk_div (a := 10) (by omega) hd (by omega)
  have r3 : lN (10 * g + o * (g / 2)) / lN d = lN ((10 * g + o * (g / 2)) / d) := pk_lDiv (by omega) hd (by omega)
  have r4 : (10 : Int64) / lN d = lN (10 / d) := pk_lDiv (a := 10) (by omega) hd (by omega)
  have b1 : (10 * g + o * (g / 2)) / d < 2 ^ 31 := Nat.lt_of_le_of_lt (Nat.div_le_self _ _) (by omega)
  have b2' : 10 / d < 2 ^ 31 := Nat.lt_of_le_of_lt (Nat.div_le_self _ _) (by omega)
  simp only [f7, f8, z_bd_some, ev, ew]
  unfold p_X7_keepFraction
  rw [z_bd_s g7]
  simp only [if_neg k3, z_bd_some, z_nz_i k3, z_gd_tt, z_lt, r1, r2]
  simp only [z_lt] at g8
  rw [z_bd_s g8]
  simp only [z_nzl_i k4, z_gd_tt, r3, r4]
  exact ⟨_, _, rfl, rfl, rfl, hC, ht, rfl, hno', hfu, nI_l b1, nI_l b2', hrest⟩
