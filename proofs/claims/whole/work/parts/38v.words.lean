/-! The six words, on both sides. -/
def wL : List (List Nat) := [[99, 111, 117, 110, 116, 114, 121], [112, 108, 97, 99, 101], [99, 114, 111, 119], [102, 108, 121], [114, 101, 115, 116], [104, 111, 117, 114, 115]]
def wc (i k : Nat) : Nat := (wL.getD i []).getD k 0
def wn (i : Nat) : Nat := zLen.getD i 0
theorem wd_a : ∀ i : Fin 6, ∀ k : Fin 7, k.1 < wn i.1 → 97 ≤ wc i.1 k.1 ∧ wc i.1 k.1 ≤ 122 ∧ sch i.1 (nI k.1) = nI (wc i.1 k.1) := by decide +kernel
theorem wd_b : ∀ i : Fin 6, ∀ k : Fin 7, wn i.1 ≤ k.1 → wc i.1 k.1 = 0 := by decide +kernel
theorem wd_c : ∀ i : Fin 6, slen i.1 = nI (wn i.1) ∧ wn i.1 ≤ 7 ∧ 1 ≤ wn i.1 := by decide +kernel
theorem wd_d : ∀ i : Fin 6, ∀ k : Fin 7, wc i.1 k.1 ≤ 122 := by decide +kernel
def WM (tc : Nat → Nat) (st q i : Nat) : Prop := q - st = wn i ∧ ∀ k, k < wn i → tc (st + k) = wc i k
def lt8 (tc : Nat → Nat) (st q k : Nat) : Nat := if st + k < q then tc (st + k) else 0
theorem WM_iff {tc : Nat → Nat} {st q i : Nat} (hi : i < 6) (hq : st < q) (hl : ∀ j, st ≤ j → j < q → Lt tc j = true) : (¬ 8 ≤ q - st ∧ lt8 tc st q 0 = wc i 0 ∧ lt8 tc st q 1 = wc i 1 ∧ lt8 tc st q 2 = wc i 2 ∧ lt8 tc st q 3 = wc i 3 ∧ lt8 tc st q 4 = wc i 4 ∧ lt8 tc st q 5 = wc i 5 ∧ lt8 tc st q 6 = wc i 6) ↔ WM tc st q i := by
  obtain ⟨-, w7, w1⟩ := wd_c ⟨i, hi⟩
  simp only at w7 w1
  have hlt : ∀ k, k < q - st → lt8 tc st q k = tc (st + k) := fun k hk => if_pos (by omega)
  have hge : ∀ k, q - st ≤ k → lt8 tc st q k = 0 := fun k hk => if_neg (by omega)
  constructor
  · rintro ⟨h8, e0, e1, e2, e3, e4, e5, e6⟩
    have all : ∀ k, k < 7 → lt8 tc st q k = wc i k := by
      intro k hk
      rcases (show k = 0 ∨ k = 1 ∨ k = 2 ∨ k = 3 ∨ k = 4 ∨ k = 5 ∨ k = 6 by omega) with rfl | rfl | rfl | rfl | rfl | rfl | rfl <;> assumption
    have hL : q - st = wn i := by
      rcases Nat.lt_trichotomy (q - st) (wn i) with h | h | h
      · have h1 := all (q - st) (by omega)
        rw [hge _ (Nat.le_refl _)] at h1
        have h2 := (wd_a ⟨i, hi⟩ ⟨q - st, by omega⟩ h).1
        simp only at h2
        omega
      · exact h
      · by_cases z : wn i = 7
        · omega
        · have h1 := all (wn i) (by omega)
          rw [hlt _ h] at h1
          have h2 := wd_b ⟨i, hi⟩ ⟨wn i, by omega⟩ (Nat.le_refl _)
          simp only at h2
          have h3 := of_decide_eq_true (hl (st + wn i) (by omega) (by omega))
          omega
    exact ⟨hL, fun k hk => by rw [← hlt k (by omega)]; exact all k (by omega)⟩
  · rintro ⟨hL, hk⟩
    have all : ∀ k, k < 7 → lt8 tc st q k = wc i k := by
      intro k hk7
      by_cases z : k < wn i
      · rw [hlt k (by omega)]; exact hk k z
      · rw [hge k (by omega)]
        have h2 := wd_b ⟨i, hi⟩ ⟨k, hk7⟩ (by simp only; omega)
        exact h2.symm
    exact ⟨by omega, all 0 (by omega), all 1 (by omega), all 2 (by omega), all 3 (by omega), all 4 (by omega), all 5 (by omega), all 6 (by omega)⟩
theorem sp_tree (p0 p1 p2 p3 p4 p5 p6 p8 : Prop) [Decidable p0] [Decidable p1] [Decidable p2] [Decidable p3] [Decidable p4] [Decidable p5] [Decidable p6] [Decidable p8] :
    (z_bd (if p0 then (if p1 then (if p2 then (if p3 then (some (1 : Int32)) else (some (0 : Int32))) else (some (0 : Int32))) else (some (0 : Int32))) else (some (0 : Int32))) fun j3 =>
    z_bd (if p8 then (some (0 : Int32)) else (if (j3 = 0) then (some (0 : Int32)) else (if p4 then (if p5 then (if p6 then (some (1 : Int32)) else (some (0 : Int32))) else (some (0 : Int32))) else (some (0 : Int32))))) fun j4 =>
    z_gd (z_bz j4) <| some j4) = some (b2 (decide (¬ p8 ∧ p0 ∧ p1 ∧ p2 ∧ p3 ∧ p4 ∧ p5 ∧ p6))) := by
  have k0 : ¬ (1 : Int32) = 0 := by decide
  have g0 : z_gd (z_bz (0 : Int32)) (some (0 : Int32)) = some 0 := by decide
  have g1 : z_gd (z_bz (1 : Int32)) (some (1 : Int32)) = some 1 := by decide
  by_cases h8 : p8
  · have nd : ¬ (¬ p8 ∧ p0 ∧ p1 ∧ p2 ∧ p3 ∧ p4 ∧ p5 ∧ p6) := fun h => h.1 h8
    rw [decide_eq_false nd]
    by_cases h0 : p0
    · by_cases h1 : p1
      · by_cases h2 : p2
        · by_cases h3 : p3
          · simp only [if_pos h0, if_pos h1, if_pos h2, if_pos h3, if_pos h8, z_bd_some]; exact g0
          · simp only [if_pos h0, if_pos h1, if_pos h2, if_neg h3, if_pos h8, z_bd_some]; exact g0
        · simp only [if_pos h0, if_pos h1, if_neg h2, if_pos h8, z_bd_some]; exact g0
      · simp only [if_pos h0, if_neg h1, if_pos h8, z_bd_some]; exact g0
    · simp only [if_neg h0, if_pos h8, z_bd_some]; exact g0
  by_cases h0 : p0
  case neg =>
    rw [decide_eq_false (fun h => h0 h.2.1)]
    simp only [if_neg h0, if_neg h8, z_bd_some, if_true]; exact g0
  by_cases h1 : p1
  case neg =>
    rw [decide_eq_false (fun h => h1 h.2.2.1)]
    simp only [if_pos h0, if_neg h1, if_neg h8, z_bd_some, if_true]; exact g0
  by_cases h2 : p2
  case neg =>
    rw [decide_eq_false (fun h => h2 h.2.2.2.1)]
    simp only [if_pos h0, if_pos h1, if_neg h2, if_neg h8, z_bd_some, if_true]; exact g0
  by_cases h3 : p3
  case neg =>
    rw [decide_eq_false (fun h => h3 h.2.2.2.2.1)]
    simp only [if_pos h0, if_pos h1, if_pos h2, if_neg h3, if_neg h8, z_bd_some, if_true]; exact g0
  by_cases h4 : p4
  case neg =>
    rw [decide_eq_false (fun h => h4 h.2.2.2.2.2.1)]
    simp only [if_pos h0, if_pos h1, if_pos h2, if_pos h3, if_neg h4, if_neg h8, if_neg k0, z_bd_some]; exact g0
  by_cases h5 : p5
  case neg =>
    rw [decide_eq_false (fun h => h5 h.2.2.2.2.2.2.1)]
    simp only [if_pos h0, if_pos h1, if_pos h2, if_pos h3, if_pos h4, if_neg h5, if_neg h8, if_neg k0, z_bd_some]; exact g0
  by_cases h6 : p6
  case neg =>
    rw [decide_eq_false (fun h => h6 h.2.2.2.2.2.2.2)]
    simp only [if_pos h0, if_pos h1, if_pos h2, if_pos h3, if_pos h4, if_pos h5, if_neg h6, if_neg h8, if_neg k0, z_bd_some]; exact g0
  · rw [decide_eq_true ⟨h8, h0, h1, h2, h3, h4, h5, h6⟩]
    simp only [if_pos h0, if_pos h1, if_pos h2, if_pos h3, if_pos h4, if_pos h5, if_pos h6, if_neg h8, if_neg k0, z_bd_some]; exact g1
section TK
variable {nt : Nat} {tc : Nat → Nat} {tf tx : Nat → Int32}
theorem mo_letter (h : TX nt tc tf tx) {st q : Nat} (hq : st ≤ q) (hqn : q ≤ nt) (k : Nat) (hk : k < 7) : p_X8_letter (nI q) (nI st) tx (nI k) = some (nI (lt8 tc st q k)) ∧ lt8 tc st q k < 128 := by
  have hn := h.1
  unfold p_X8_letter lt8
  rw [nI_add]
  by_cases z : st + k < q
  · have hc := h.2 (st + k) (by omega)
    rw [if_pos z]
    simp (disch := omega) only [nI_leI, if_neg, z_lt_n, z_in_n, z_gd_tt, nI_clamp, hc.2.2, z_bd_some]
    exact ⟨trivial, hc.1⟩
  · rw [if_neg z, if_pos ((nI_leI (by omega) (by omega)).mpr (by omega)), z_bd_some]
    exact ⟨rfl, by decide⟩
theorem mo_spells8 (h : TX nt tc tf tx) {st q i : Nat} (hi : i < 6) (hq : st < q) (hqn : q ≤ nt) (hl : ∀ j, st ≤ j → j < q → Lt tc j = true) [Decidable (WM tc st q i)] : p_X8_spells (nI q) (nI st) (nI 1) tx (nI (wc i 0)) (nI (wc i 1)) (nI (wc i 2)) (nI (wc i 3)) (nI (wc i 4)) (nI (wc i 5)) (nI (wc i 6)) = some (b2 (decide (WM tc st q i))) := by
  have hn := h.1
  have l0 := mo_letter h (Nat.le_of_lt hq) hqn 0 (by omega)
  have l1 := mo_letter h (Nat.le_of_lt hq) hqn 1 (by omega)
  have l2 := mo_letter h (Nat.le_of_lt hq) hqn 2 (by omega)
  have l3 := mo_letter h (Nat.le_of_lt hq) hqn 3 (by omega)
  have l4 := mo_letter h (Nat.le_of_lt hq) hqn 4 (by omega)
  have l5 := mo_letter h (Nat.le_of_lt hq) hqn 5 (by omega)
  have l6 := mo_letter h (Nat.le_of_lt hq) hqn 6 (by omega)
  have hw : ∀ k, k < 7 → wc i k ≤ 122 := fun k hk => wd_d ⟨i, hi⟩ ⟨k, hk⟩
  have pe : ∀ k, k < 7 → lt8 tc st q k < 128 → (nI (lt8 tc st q k) = nI (wc i k)) = (lt8 tc st q k = wc i k) := fun k hk hb => propext (nI_eq (by omega) (by have := hw k hk; omega))
  have p8 : ((8 : Int32) ≤ nI q - nI st) = (8 ≤ q - st) := by rw [pk_sub (by omega)]; exact propext (nI_leI (a := 8) (by decide) (by omega))
  have m0 : p_X8_letter (nI q) (nI st) tx (0 : Int32) = some (nI (lt8 tc st q 0)) := l0.1
  have m1 : p_X8_letter (nI q) (nI st) tx (1 : Int32) = some (nI (lt8 tc st q 1)) := l1.1
  have m2 : p_X8_letter (nI q) (nI st) tx (2 : Int32) = some (nI (lt8 tc st q 2)) := l2.1
  have m3 : p_X8_letter (nI q) (nI st) tx (3 : Int32) = some (nI (lt8 tc st q 3)) := l3.1
  have m4 : p_X8_letter (nI q) (nI st) tx (4 : Int32) = some (nI (lt8 tc st q 4)) := l4.1
  have m5 : p_X8_letter (nI q) (nI st) tx (5 : Int32) = some (nI (lt8 tc st q 5)) := l5.1
  have m6 : p_X8_letter (nI q) (nI st) tx (6 : Int32) = some (nI (lt8 tc st q 6)) := l6.1
  unfold p_X8_spells
  simp only [m0, m1, m2, m3, m4, m5, m6, z_bd_some, pe 0 (by omega) l0.2, pe 1 (by omega) l1.2, pe 2 (by omega) l2.2, pe 3 (by omega) l3.2, pe 4 (by omega) l4.2, pe 5 (by omega) l5.2, pe 6 (by omega) l6.2, p8, show nI 1 = (1 : Int32) from rfl, if_true]
  rw [sp_tree]
  congr 2
  exact decide_eq_decide.mpr (WM_iff hi hq hl)
theorem mo_spells8n (h : TX nt tc tf tx) {st q tk : Nat} (hq : st ≤ q) (hqn : q ≤ nt) (htk : tk ≠ 1) (htb : tk ≤ 4) (c0 c1 c2 c3 c4 c5 c6 : Int32) : p_X8_spells (nI q) (nI st) (nI tk) tx c0 c1 c2 c3 c4 c5 c6 = some 0 := by
  have m0 : p_X8_letter (nI q) (nI st) tx (0 : Int32) = some (nI (lt8 tc st q 0)) := (mo_letter h hq hqn 0 (by omega)).1
  have m1 : p_X8_letter (nI q) (nI st) tx (1 : Int32) = some (nI (lt8 tc st q 1)) := (mo_letter h hq hqn 1 (by omega)).1
  have m2 : p_X8_letter (nI q) (nI st) tx (2 : Int32) = some (nI (lt8 tc st q 2)) := (mo_letter h hq hqn 2 (by omega)).1
  have m3 : p_X8_letter (nI q) (nI st) tx (3 : Int32) = some (nI (lt8 tc st q 3)) := (mo_letter h hq hqn 3 (by omega)).1
  have kt : ¬ nI tk = (1 : Int32) := nI_ne (b := 1) (by omega) (by decide) htk
  unfold p_X8_spells
  simp only [m0, m1, m2, m3, z_bd_some, if_neg kt]
  by_cases h0 : nI (lt8 tc st q 0) = c0
  · by_cases h1 : nI (lt8 tc st q 1) = c1
    · by_cases h2 : nI (lt8 tc st q 2) = c2
      · by_cases h3 : nI (lt8 tc st q 3) = c3
        · simp only [if_pos h0, if_pos h1, if_pos h2, if_pos h3, z_bd_some]; rfl
        · simp only [if_pos h0, if_pos h1, if_pos h2, if_neg h3, z_bd_some]; rfl
      · simp only [if_pos h0, if_pos h1, if_neg h2, z_bd_some]; rfl
    · simp only [if_pos h0, if_neg h1, z_bd_some]; rfl
  · simp only [if_neg h0, z_bd_some]; rfl
theorem mo_spells7 (h : TX nt tc tf tx) {st q i : Nat} (hi : i < 6) (hq : st < q) (hqn : q ≤ nt) [Decidable (WM tc st q i)] : p_X4_spells (nI q) (nI st) tf i = some (b2 (decide (WM tc st q i))) := by
  have hn := h.1
  obtain ⟨w0, w7, w1⟩ := wd_c ⟨i, hi⟩
  simp only at w0 w7 w1
  unfold p_X4_spells
  rw [w0, pk_sub (by omega)]
  by_cases hL : q - st = wn i
  case neg =>
    rw [if_neg (nI_ne (by omega) (by omega) hL), decide_eq_false (fun z => hL z.1)]; rfl
  rw [if_pos (by rw [hL])]
  obtain ⟨e, h1, h2⟩ : Ha (z_lp (S := Int32) (E := (Unit) ⊕ (Int32)) (fun s2 =>
    if (nI (wn i) ≤ s2) then
    (some (.inr (.inl ()))) else
    (z_lt ((nI st + s2)) fun x7 =>
    z_gd (z_in x7 150) <|
    z_gd (z_in s2 (zLen.getD i 0)) <|
    if ((tf x7.toNatClampNeg) = (sch i s2)) then
    (z_lt (s2 + (1 : Int32)) fun x11 =>
    some (.inl x11)) else
    (some (.inr (.inr (0 : Int32)))))) (0 : Int32)) (fun e => (e = .inl () ∧ ∀ k, k < wn i → tc (st + k) = wc i k) ∨ (e = .inr 0 ∧ ¬ ∀ k, k < wn i → tc (st + k) = wc i k)) := by
    refine Ha_lp (wn i) (fun k s => s = nI k ∧ ∀ j, j < k → tc (st + j) = wc i j) _ ?_ ?_ _ ⟨rfl, fun j hj => absurd hj (by omega)⟩
    · rintro k _ hk ⟨rfl, hj⟩
      have hc := h.2 (st + k) (by omega)
      have hs := wd_a ⟨i, hi⟩ ⟨k, by omega⟩ hk
      simp only at hs
      have kz : z_in (nI k) (zLen.getD i 0) = true := z_in_n hk (show wn i < 2 ^ 31 by omega)
      have ke : (nI (tc (st + k)) = nI (wc i k)) = (tc (st + k) = wc i k) := propext (nI_eq (by omega) (by omega))
      simp (disch := omega) only [nI_leI, if_neg, z_lt_n, nI_add, z_in_n, kz, z_gd_tt, nI_clamp, hc.2.1, hs.2.2, ke, nI_1]
      by_cases z : tc (st + k) = wc i k
      · simp only [if_pos z]
        refine Lp1_l ⟨rfl, fun j hj2 => ?_⟩
        rcases (show j < k ∨ j = k by omega) with y | rfl
        · exact hj j y
        · exact z
      · simp only [if_neg z]
        exact Lp1_r (Or.inr ⟨rfl, fun y => z (y k hk)⟩)
    · rintro _ ⟨rfl, hj⟩
      simp (disch := omega) only [nI_leI, if_pos]
      exact Lp1_r (Or.inl ⟨rfl, hj⟩)
  rw [z_bd_s h1]
  rcases h2 with ⟨rfl, hd⟩ | ⟨rfl, hd⟩
  · rw [decide_eq_true (show WM tc st q i from ⟨hL, hd⟩)]; rfl
  · rw [decide_eq_false (show ¬ WM tc st q i from fun z => hd z.2)]; rfl
end TK
