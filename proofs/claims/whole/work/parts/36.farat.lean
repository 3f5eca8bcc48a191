/-! How far it is, on both sides, over one country. -/
theorem nb_abs {p q : Nat} (hp : p < 10) (hq : q < 10) : nb 9 (if (0 : Int32) ≤ nI p - nI q then nI p - nI q else -(nI p - nI q)) := by
  have ht := pk_sub_toInt (a := p) (b := q) (by omega) (by omega)
  by_cases h : (0 : Int32) ≤ nI p - nI q
  · rw [if_pos h]
    have h1 := Int32.le_iff_toInt_le.mp h
    rw [ht] at h1
    have h2 : (0 : Int32).toInt = 0 := rfl
    rw [h2] at h1
    exact ⟨p - q, by omega, pk_sub (by omega)⟩
  · rw [if_neg h]
    have h1 : ¬ (0 : Int) ≤ (p : Int) - q := fun z => h (Int32.le_iff_toInt_le.mpr (by rw [ht]; exact z))
    refine ⟨q - p, by omega, ?_⟩
    rw [← pk_sub (show p ≤ q by omega)]
    apply Int32.toBitVec_inj.mp
    rw [Int32.toBitVec_neg, Int32.toBitVec_sub, Int32.toBitVec_sub]
    bv_omega
/-- the places and the crows' kinds of a country beside the reference's row -/
def RP (w : Nat → Int32) (s np nc : Nat) (f : Nat → Nat → Int32) : Prop :=
  (∀ p, p < np → ∃ k x y : Nat, k < 6 ∧ x < 10 ∧ y < 10 ∧ f 0 p = nI k ∧ w (s + 397 + 3 * p) = nI k ∧ f 1 p = nI x ∧ w (s + 398 + 3 * p) = nI x ∧ f 2 p = nI y ∧ w (s + 399 + 3 * p) = nI y) ∧
  (∀ c, c < nc → ∃ k : Nat, k < 6 ∧ f 3 c = nI k ∧ w (s + 419 + c) = nI k)
theorem mo_lineN {w : Nat → Int32} {f : Nat → Nat → Int32} {s np nc a b : Nat} (hs : s + 479 ≤ 1960) (hnp : np ≤ 7) (hP : RP w s np nc f) (ha : a < np) (hb : b < np) : ∃ d : Nat, d ≤ 18 ∧ p_X0_line (f 1) (f 2) (nI a) (nI b) = some (nI d) ∧ p_X8_straightIn w (nI s) (nI a) (nI b) = some (nI d) := by
  obtain ⟨r, h7, h8⟩ := mo_line (w := w) (X := f 1) (Y := f 2) hs hnp (fun p hp => by obtain ⟨k, a, b, -, -, -, -, -, g1, g2, -⟩ := hP.1 p hp; rw [g1, g2]) (fun p hp => by obtain ⟨k, a, b, -, -, -, -, -, -, -, g1, g2⟩ := hP.1 p hp; rw [g1, g2]) ha hb
  obtain ⟨ka, xa, ya, -, hxa, hya, -, -, ex, -, ey, -⟩ := hP.1 a ha
  obtain ⟨kb, xb, yb, -, hxb, hyb, -, -, fx, -, fy, -⟩ := hP.1 b hb
  have ia : z_in (nI a) 7 = true := z_in_n (by omega) (by decide)
  have ib : z_in (nI b) 7 = true := z_in_n (by omega) (by decide)
  have hr : nb 18 r := by
    unfold p_X0_line at h7
    simp only [z_lt, ia, ib, z_gd_tt, nI_clamp (show a < 2 ^ 31 by omega), nI_clamp (show b < 2 ^ 31 by omega), ex, ey, fx, fy, z_neg] at h7
    rw [← Option.some.inj h7]
    exact nb_add (nb_abs hxa hxb) (nb_abs hya hyb)
  obtain ⟨d, hd, rfl⟩ := hr
  exact ⟨d, hd, h7, h8⟩
theorem nI_ne {a b : Nat} (ha : a < 2 ^ 31) (hb : b < 2 ^ 31) (h : a ≠ b) : ¬ nI a = nI b := fun e => h ((nI_eq ha hb).mp e)
theorem mo_farAt {w : Nat → Int32} {f : Nat → Nat → Int32} {s u np nc c a b tt h : Nat} (hs : s + 479 ≤ 1960) (hu : u + 44 ≤ 1960) (hnp : np ≤ 7) (hnc : nc ≤ 3) (hP : RP w s np nc f) (hc : c < nc) (ha : a < np) (hb : b < np) (htt : tt ≤ 99) (hw : w (u + 3 + c) = nI tt) (hh : h < 2 ^ 31) : ∃ g : Nat, g ≤ 600 ∧ p_X0_farAt (f 0) (f 1) (f 2) (f 3) (nI c) (nI a) (nI b) (nI tt) (nI h) = some (nI g) ∧ p_X8_farAt w (nI u) (nI s) (nI c) (nI a) (nI b) (nI (h % 24)) = some (nI g) := by
  by_cases hab : a = b
  · subst hab
    refine ⟨0, by omega, ?_, ?_⟩
    · unfold p_X0_farAt; rw [if_pos rfl]; rfl
    · unfold p_X8_farAt; rw [if_pos rfl]; rfl
  · obtain ⟨d, hd, l7, l8⟩ := mo_lineN hs hnp hP ha hb
    obtain ⟨kc, hkc, ec, wc⟩ := hP.2 c hc
    obtain ⟨kb, xb, yb, hkb, -, -, eb, wb, -⟩ := hP.1 b hb
    have hm24 : h % 24 < 24 := Nat.mod_lt _ (by decide)
    have e24 : nI h - nI h / (24 : Int32) * (24 : Int32) = nI (h % 24) := pk_rem (d := 24) hh (by decide) (by decide)
    obtain ⟨m, m7, m8, mb⟩ := mo_madeN (t := 0) hkc hd htt (nI (h % 24))
    obtain ⟨mm, hmm, rfl⟩ := mb
    obtain ⟨r, r7, r8, rb⟩ := mo_reachN hkb hmm hm24
    obtain ⟨g, hg, rfl⟩ := rb
    have ne : ¬ nI a = nI b := nI_ne (by omega) (by omega) hab
    refine ⟨g, hg, ?_, ?_⟩
    · unfold p_X0_farAt
      rw [if_neg ne]
      have ib : z_in (nI b) 7 = true := z_in_n (by omega) (by decide)
      have ic : z_in (nI c) 3 = true := z_in_n (by omega) (by decide)
      simp only [z_lt, e24, ib, ic, z_gd_tt, nI_clamp (show c < 2 ^ 31 by omega), nI_clamp (show b < 2 ^ 31 by omega), l7, z_bd_some, ec, m7, eb, r7]
    · unfold p_X8_farAt
      rw [if_neg ne]
      have a1 := mo_rd (w := w) (show (nI s + (419 : Int32)) + nI c = nI (s + 419 + c) by rw [show nI s + (419 : Int32) = nI (s + 419) from nI_add s 419, nI_add]) (show s + 419 + c < 1960 by omega) (by decide)
      have a2 := mo_rd (w := w) (show (nI u + (3 : Int32)) + nI c = nI (u + 3 + c) by rw [show nI u + (3 : Int32) = nI (u + 3) from nI_add u 3, nI_add]) (show u + 3 + c < 1960 by omega) (by decide)
      have a3 := mo_rd (w := w) (show (nI s + (397 : Int32)) + (3 : Int32) * nI b = nI (s + 397 + 3 * b) by rw [show nI s + (397 : Int32) = nI (s + 397) from nI_add s 397, show (3 : Int32) * nI b = nI (3 * b) from pk_mul 3 b, nI_add]) (show s + 397 + 3 * b < 1960 by omega) (by decide)
      simp only [z_lt, a1.1, a1.2, a2.1, a2.2, a3.1, a3.2, z_gd_tt, l8, z_bd_some, wc, hw, m8, wb, r8]
