/-! is and kinds: sets of kinds. -/
theorem zb_or : ∀ m : Fin 64, ∀ i : Fin 6, (nI m.1 ||| (1 : Int32) <<< (nI i.1 &&& 31)) = nI (m.1 ||| 2 ^ i.1) := by decide +kernel
theorem zb_orb : ∀ m : Fin 64, ∀ i k : Fin 6, (m.1 ||| 2 ^ i.1) < 64 ∧ (m.1 ||| 2 ^ i.1).testBit k.1 = (m.1.testBit k.1 || decide (k.1 = i.1)) := by decide +kernel
theorem zb_63 : ∀ m : Fin 64, nI m.1 &&& (63 : Int32) = nI m.1 := by decide +kernel
theorem zb_clr : ∀ m : Fin 64, ∀ i : Fin 6, (nI m.1 &&& (((1 : Int32) <<< (nI i.1 &&& 31)) ^^^ (-1 : Int32))) = nI (if m.1.testBit i.1 then m.1 - 2 ^ i.1 else m.1) := by decide +kernel
theorem zb_clrb : ∀ m : Fin 64, ∀ i k : Fin 6, (if m.1.testBit i.1 then m.1 - 2 ^ i.1 else m.1) < 64 ∧ (if m.1.testBit i.1 then m.1 - 2 ^ i.1 else m.1).testBit k.1 = (m.1.testBit k.1 && !decide (k.1 = i.1)) := by decide +kernel
theorem zb_63b : ∀ k : Fin 6, (63 : Nat).testBit k.1 = true := by decide +kernel
theorem zb_0b : ∀ k : Fin 6, (0 : Nat).testBit k.1 = false := by decide +kernel
theorem zb_t : ∀ m : Fin 64, ∀ i : Fin 6, decide ((nI m.1 &&& ((1 : Int32) <<< (nI i.1 &&& 31))) = 0) = !m.1.testBit i.1 := by decide +kernel
theorem zb_has : ∀ m : Fin 64, ∀ i : Fin 6, p_X8_has (nI m.1) (nI i.1) = some (b2 (m.1.testBit i.1)) := by decide +kernel
theorem zb_nz : ∀ m : Fin 64, m.1 ≠ 0 → ∃ i : Fin 6, m.1.testBit i.1 = true := by decide +kernel
/-- a set of kinds -/
def SB (r : Int32) (A : Nat → Bool) : Prop := ∃ m : Nat, m < 64 ∧ r = nI m ∧ ∀ k, k < 6 → m.testBit k = A k
theorem SB_u {r s : Int32} {A : Nat → Bool} (h : SB r A) (g : SB s A) : r = s := by
  obtain ⟨m, hm, rfl, h1⟩ := h
  obtain ⟨m', hm', rfl, h2⟩ := g
  have : m = m' := by
    apply Nat.eq_of_testBit_eq
    intro i
    by_cases hi : i < 6
    · rw [h1 i hi, h2 i hi]
    · have p : 2 ^ 6 ≤ 2 ^ i := Nat.pow_le_pow_right (by decide) (by omega)
      rw [Nat.testBit_lt_two_pow (by omega), Nat.testBit_lt_two_pow (by omega)]
  rw [this]
theorem SB_c {r : Int32} {A B : Nat → Bool} (h : SB r A) (e : ∀ k, k < 6 → A k = B k) : SB r B := by
  obtain ⟨m, hm, rfl, h1⟩ := h
  exact ⟨m, hm, rfl, fun k hk => (h1 k hk).trans (e k hk)⟩
theorem SB_or {r : Int32} {A : Nat → Bool} {i : Nat} (hi : i < 6) (h : SB r A) : SB (r ||| (1 : Int32) <<< (nI i &&& 31)) (fun k => A k || decide (k = i)) := by
  obtain ⟨m, hm, rfl, h1⟩ := h
  refine ⟨m ||| 2 ^ i, (zb_orb ⟨m, hm⟩ ⟨i, hi⟩ ⟨0, by decide⟩).1, zb_or ⟨m, hm⟩ ⟨i, hi⟩, fun k hk => ?_⟩
  rw [(zb_orb ⟨m, hm⟩ ⟨i, hi⟩ ⟨k, hk⟩).2, h1 k hk]
theorem SB_63 {r : Int32} {A : Nat → Bool} (h : SB r A) : SB (r &&& 63) A := by
  obtain ⟨m, hm, rfl, h1⟩ := h
  rw [zb_63 ⟨m, hm⟩]
  exact ⟨m, hm, rfl, h1⟩
theorem SB_clr {r : Int32} {A : Nat → Bool} {i : Nat} (hi : i < 6) (h : SB r A) : SB (r &&& (((1 : Int32) <<< (nI i &&& 31)) ^^^ (-1 : Int32))) (fun k => A k && !decide (k = i)) := by
  obtain ⟨m, hm, rfl, h1⟩ := h
  refine ⟨_, (zb_clrb ⟨m, hm⟩ ⟨i, hi⟩ ⟨0, by decide⟩).1, zb_clr ⟨m, hm⟩ ⟨i, hi⟩, fun k hk => ?_⟩
  rw [(zb_clrb ⟨m, hm⟩ ⟨i, hi⟩ ⟨k, hk⟩).2, h1 k hk]
/-- does a sighting allow a kind -/
def okN (T : Nat → Int32 → Int32 → Int32 → Int32) (r : Nat → Int32) (p : Int32) (i k : Nat) : Bool := !decide (r (5 * i) = p) || decide (T k (r (5 * i + 1)) (r (5 * i + 2)) (r (5 * i + 3)) = r (5 * i + 4))
def allN (T : Nat → Int32 → Int32 → Int32 → Int32) (r : Nat → Int32) (p : Int32) (k : Nat) : Nat → Bool
  | 0 => true
  | i + 1 => allN T r p k i && okN T r p i k
theorem allN_up {T : Nat → Int32 → Int32 → Int32 → Int32} {r : Nat → Int32} {p : Int32} {k i : Nat} (h : allN T r p k i = false) : ∀ j, allN T r p k (i + j) = false := by
  intro j
  induction j with
  | zero => exact h
  | succ j ih =>
    show (allN T r p k (i + j) && _) = false
    rw [ih, Bool.false_and]
theorem mo_allow {o p : Int32} {r : Nat → Int32} {nn k : Nat} {T : Nat → Int32 → Int32 → Int32 → Int32} (hnn : nn ≤ 6) (hk : k < 6) (hT : ∀ k, k < 6 → ∀ v t n, p_X2_told o (nI k) v t n = some (T k v t n)) : p_X6_allow o (nI nn) r p (nI k) = some (b2 (allN T r p k nn)) := by
  unfold p_X6_allow
  have e5 : nI nn * (5 : Int32) = nI (5 * nn) := by rw [Nat.mul_comm]; exact pk_mul nn 5
  rw [e5]
  have h : Ha (z_lp (S := Int32) (E := (Unit) ⊕ (Int32)) (fun s1 =>
    if (nI (5 * nn) ≤ s1) then
    (some (.inr (.inl ()))) else
    (z_gd (z_in s1 30) <|
    if ((r s1.toNatClampNeg) = p) then
    (z_lt ((s1 + (1 : Int32))) fun x9 =>
    z_gd (z_in x9 30) <|
    z_lt ((s1 + (2 : Int32))) fun x11 =>
    z_gd (z_in x11 30) <|
    z_lt ((s1 + (3 : Int32))) fun x13 =>
    z_gd (z_in x13 30) <|
    z_lt ((r x13.toNatClampNeg)) fun x15 =>
    z_lt ((r x11.toNatClampNeg)) fun x16 =>
    z_lt ((r x9.toNatClampNeg)) fun x17 =>
    z_bd (p_X2_told o (nI k) x17 x16 x15) fun r18 =>
    z_lt ((s1 + (4 : Int32))) fun x20 =>
    z_gd (z_in x20 30) <|
    if (r18 = (r x20.toNatClampNeg)) then
    (z_lt (s1 + (5 : Int32)) fun x23 =>
    some (.inl x23)) else
    (some (.inr (.inr (0 : Int32))))) else
    (z_lt (s1 + (5 : Int32)) fun x8 =>
    some (.inl x8)))) (0 : Int32)) (fun e => (e = .inl () ∧ allN T r p k nn = true) ∨ (e = .inr 0 ∧ allN T r p k nn = false)) := by
    refine Ha_lp nn (fun i s => s = nI (5 * i) ∧ allN T r p k i = true) _ ?_ ?_ _ ⟨rfl, rfl⟩
    · rintro i s hi ⟨rfl, hd⟩
      have fin : allN T r p k (i + 1) = false → allN T r p k nn = false := by
        intro h1
        have h2 := allN_up h1 (nn - (i + 1))
        rwa [show i + 1 + (nn - (i + 1)) = nn by omega] at h2
      simp (disch := omega) only [nI_leI, if_neg, z_lt_n, li_1, li_2, li_3, li_4, li_5, nI_add, z_in_n, z_gd_tt, nI_clamp, hT k hk, z_bd_some]
      rw [show 5 * i + 5 = 5 * (i + 1) by omega]
      by_cases q1 : r (5 * i) = p
      · by_cases q2 : T k (r (5 * i + 1)) (r (5 * i + 2)) (r (5 * i + 3)) = r (5 * i + 4)
        · simp only [if_pos q1, if_pos q2]
          refine Lp1_l ⟨rfl, ?_⟩
          show (allN T r p k i && (_ || decide (T k (r (5 * i + 1)) (r (5 * i + 2)) (r (5 * i + 3)) = r (5 * i + 4)))) = true
          rw [hd, decide_eq_true q2, Bool.or_true]; rfl
        · simp only [if_pos q1, if_neg q2]
          refine Lp1_r (Or.inr ⟨rfl, fin ?_⟩)
          show (allN T r p k i && (!decide (r (5 * i) = p) || decide (T k (r (5 * i + 1)) (r (5 * i + 2)) (r (5 * i + 3)) = r (5 * i + 4)))) = false
          rw [decide_eq_true q1, decide_eq_false q2]; exact Bool.and_false _
      · simp only [if_neg q1]
        refine Lp1_l ⟨rfl, ?_⟩
        show (allN T r p k i && (!decide (r (5 * i) = p) || _)) = true
        rw [hd, decide_eq_false q1]; rfl
    · rintro s ⟨rfl, hd⟩
      simp (disch := omega) only [nI_leI, if_pos]
      exact Lp1_r (Or.inl ⟨rfl, hd⟩)
  obtain ⟨e, h1, h2⟩ := h
  rw [z_bd_s h1]
  rcases h2 with ⟨rfl, hd⟩ | ⟨rfl, hd⟩
  · rw [hd]; rfl
  · rw [hd]; rfl
theorem mo_kindsLeft {o p : Int32} {r : Nat → Int32} {nn : Nat} {T : Nat → Int32 → Int32 → Int32 → Int32} (hnn : nn ≤ 6) (hT : ∀ k, k < 6 → ∀ v t n, p_X2_told o (nI k) v t n = some (T k v t n)) : Ha (p_X6_kindsLeft o (nI nn) r p) (fun s => SB s (fun k => allN T r p k nn)) := by
  unfold p_X6_kindsLeft
  refine Ha_bd _ (Ha_lp 6 (fun i s => s.1 = nI i ∧ SB s.2 (fun k => decide (k < i) && allN T r p k nn)) (fun s => SB s (fun k => allN T r p k nn)) ?_ ?_ _ ⟨rfl, 0, by decide, rfl, fun k hk => ?_⟩) (fun e he => Ha_s he)
  · rintro i ⟨s1, s2⟩ hi ⟨g1, h1⟩
    simp only at g1 h1
    subst g1
    simp (disch := omega) only [li_6, nI_leI, if_neg, mo_allow hnn hi hT, z_bd_some, z_lt_n, nI_1]
    cases hd : allN T r p i nn
    · simp only [b2_f0, if_true, z_bd_some]
      refine Lp1_l ⟨rfl, SB_c h1 (fun k hk => ?_)⟩
      by_cases q : k = i
      · subst q
        rw [hd, Bool.and_false, Bool.and_false]
      · rw [show decide (k < i + 1) = decide (k < i) from by rw [decide_eq_decide]; omega]
    · simp only [b2_t0, if_false, z_bd_some]
      refine Lp1_l ⟨rfl, SB_c (SB_or hi h1) (fun k hk => ?_)⟩
      by_cases q : k = i
      · subst q
        rw [hd, decide_eq_true (show k < k + 1 by omega), decide_eq_true (show k = k from rfl), Bool.or_true]; rfl
      · rw [show decide (k < i + 1) = decide (k < i) from by rw [decide_eq_decide]; omega, decide_eq_false q, Bool.or_false]
  · rintro ⟨s1, s2⟩ ⟨g1, h1⟩
    simp only at g1 h1
    subst g1
    simp (disch := omega) only [li_6, nI_leI, if_pos]
    exact Lp1_r (SB_c h1 (fun k hk => by rw [decide_eq_true hk, Bool.true_and]))
  · rw [zb_0b ⟨k, hk⟩]
    show false = (decide (k < 0) && allN T r p k nn)
    rw [decide_eq_false (show ¬ k < 0 by omega), Bool.false_and]
def Tr (k : Nat) (v t n : Int32) : Int32 := (p_X2_reach (nI k) v t).getD 0
def Tm (k : Nat) (v t n : Int32) : Int32 := (p_X2_made (nI k) v t n).getD 0
theorem Tr7 {k : Nat} (hk : k < 6) (v t n : Int32) : p_X2_told 0 (nI k) v t n = some (Tr k v t n) := by
  obtain ⟨r, h1, h2⟩ := mo_reach hk v t
  unfold p_X2_told Tr
  simp only [if_true, h1, z_bd_some]; rfl
theorem Tr8 {k : Nat} (hk : k < 6) (v t n : Int32) : p_X8_farOf (nI k) v t = some (Tr k v t n) := by
  obtain ⟨r, h1, h2⟩ := mo_reach hk v t
  unfold Tr
  rw [h1, h2]; rfl
theorem Tm7 {k : Nat} (hk : k < 6) (v t n : Int32) : p_X2_told 1 (nI k) v t n = some (Tm k v t n) := by
  obtain ⟨r, h1, h2⟩ := mo_made hk v t n
  unfold p_X2_told Tm
  simp only [show ¬ (1 : Int32) = 0 from by decide, if_false, h1, z_bd_some]; rfl
theorem Tm8 {k : Nat} (hk : k < 6) (v t n : Int32) : p_X8_madeOf (nI k) v t n = some (Tm k v t n) := by
  obtain ⟨r, h1, h2⟩ := mo_made hk v t n
  unfold Tm
  rw [h1, h2]; rfl
theorem SB_start : SB 63 (fun _ => true) := ⟨63, by decide, rfl, fun k hk => zb_63b ⟨k, hk⟩⟩
/-- one more sighting, kind by kind -/
theorem SB_step {T : Nat → Int32 → Int32 → Int32 → Int32} {r : Nat → Int32} {p s : Int32} {i j : Nat} (hj : j < 6) (q1 : r (5 * i) = p) (h : SB s (fun k => allN T r p k i && (decide (j ≤ k) || okN T r p i k))) :
    SB (s &&& (if T j (r (5 * i + 1)) (r (5 * i + 2)) (r (5 * i + 3)) = r (5 * i + 4) then (63 : Int32) else (((1 : Int32) <<< (nI j &&& 31)) ^^^ (-1 : Int32)))) (fun k => allN T r p k i && (decide (j + 1 ≤ k) || okN T r p i k)) := by
  by_cases q2 : T j (r (5 * i + 1)) (r (5 * i + 2)) (r (5 * i + 3)) = r (5 * i + 4)
  · rw [if_pos q2]
    refine SB_c (SB_63 h) (fun k hk => ?_)
    by_cases q : k = j
    · subst q
      have : okN T r p i k = true := by unfold okN; rw [decide_eq_true q2, Bool.or_true]
      rw [this, Bool.or_true, Bool.or_true]
    · rw [show decide (j ≤ k) = decide (j + 1 ≤ k) from by rw [decide_eq_decide]; omega]
  · rw [if_neg q2]
    refine SB_c (SB_clr hj h) (fun k hk => ?_)
    by_cases q : k = j
    · subst q
      have : okN T r p i k = false := by unfold okN; rw [decide_eq_true q1, decide_eq_false q2]; rfl
      rw [this, decide_eq_false (show ¬ k + 1 ≤ k by omega), decide_eq_true (show k = k from rfl)]
      simp only [Bool.not_true, Bool.and_false, Bool.or_false]
    · rw [show decide (j ≤ k) = decide (j + 1 ≤ k) from by rw [decide_eq_decide]; omega, decide_eq_false q]
      simp only [Bool.not_false, Bool.and_true]
theorem mo_isOf {w r : Nat → Int32} {nn : Nat} {p : Int32} (hnn : nn ≤ 6) (w447 : w 447 = nI nn) (hr : RN w 0 nn r) : Ha (p_X8_isOf w p) (fun s => SB s (fun k => allN Tr r p k nn)) := by
  unfold p_X8_isOf
  rw [w447]
  refine Ha_bd _ (Ha_lp nn (fun i s => s.1 = nI i ∧ SB s.2 (fun k => allN Tr r p k i)) (fun s => SB s (fun k => allN Tr r p k nn)) ?_ ?_ _ ⟨rfl, SB_start⟩) (fun e he => Ha_s he)
  · rintro i ⟨s1, s2⟩ hi ⟨g1, h1⟩
    simp only at g1 h1
    subst g1
    obtain ⟨r0, r1, r2, r3, r4⟩ := hr i hi
    have ex : (423 : Int32) + (4 : Int32) * nI i = nI (423 + 4 * i) := by rw [li_423, li_4, pk_mul, nI_add]
    have a0 : w (423 + 4 * i) = r (5 * i) := by rw [r0]
    have a1 : w (423 + 4 * i + 1) = r (5 * i + 1) := by rw [r1]; congr 1; omega
    have a2 : w (423 + 4 * i + 2) = r (5 * i + 2) := by rw [r2]; congr 1; omega
    have a4 : w (423 + 4 * i + 3) = r (5 * i + 4) := by rw [r4]; congr 1; omega
    simp (disch := omega) only [nI_leI, if_neg, z_lt_n, ex]
    refine Ha_bd (fun s => SB s (fun k => allN Tr r p k (i + 1))) ?_ (fun e he => by simp only [nI_1]; exact Lp1_l ⟨rfl, he⟩)
    by_cases q1 : r (5 * i) = p
    · refine Ha_lp 6 (fun j s => s.1 = nI j ∧ SB s.2 (fun k => allN Tr r p k i && (decide (j ≤ k) || okN Tr r p i k))) _ ?_ ?_ _ ⟨rfl, SB_c h1 (fun k hk => by rw [decide_eq_true (Nat.zero_le k), Bool.true_or, Bool.and_true])⟩
      · rintro j ⟨t1, t2⟩ hj ⟨g1, h2⟩
        simp only at g1 h2
        subst g1
        simp (disch := omega) only [li_6, nI_leI, if_neg, z_lt_n, li_1, li_2, li_3, nI_add, z_in_n, z_gd_tt, nI_clamp, a0, a1, a2, a4, if_pos q1, Tr8 hj _ _ (r (5 * i + 3)), z_bd_some, z_bd_ite]
        exact Lp1_l ⟨rfl, SB_step hj q1 h2⟩
      · rintro ⟨t1, t2⟩ ⟨g1, h2⟩
        simp only at g1 h2
        subst g1
        simp (disch := omega) only [li_6, nI_leI, if_pos]
        exact Lp1_r (SB_c h2 (fun k hk => by rw [decide_eq_false (show ¬ 6 ≤ k by omega), Bool.false_or]; rfl))
    · refine ⟨s2, z_lp_end ?_, SB_c h1 (fun k hk => ?_)⟩
      · have k0 : ¬ (6 : Int32) ≤ 0 := by decide
        simp (disch := omega) only [if_neg k0, z_in_n, z_gd_tt, nI_clamp, a0, if_neg q1]
      · show _ = (allN Tr r p k i && (!decide (r (5 * i) = p) || _))
        rw [decide_eq_false q1]
        simp only [Bool.not_false, Bool.true_or, Bool.and_true]
  · rintro ⟨s1, s2⟩ ⟨g1, h1⟩
    simp only at g1 h1
    subst g1
    simp (disch := omega) only [nI_leI, if_pos]
    exact Lp1_r h1
theorem mo_kindsOf {w r : Nat → Int32} {nn : Nat} {p : Int32} (hnn : nn ≤ 6) (w478 : w 478 = nI nn) (hr : RM w 0 nn r) : Ha (p_X8_kindsOf w p) (fun s => SB s (fun k => allN Tm r p k nn)) := by
  unfold p_X8_kindsOf
  rw [w478]
  refine Ha_bd _ (Ha_lp nn (fun i s => s.1 = nI i ∧ SB s.2 (fun k => allN Tm r p k i)) (fun s => SB s (fun k => allN Tm r p k nn)) ?_ ?_ _ ⟨rfl, SB_start⟩) (fun e he => Ha_s he)
  · rintro i ⟨s1, s2⟩ hi ⟨g1, h1⟩
    simp only at g1 h1
    subst g1
    have ex : (448 : Int32) + (5 : Int32) * nI i = nI (448 + 5 * i) := by rw [li_448, li_5, pk_mul, nI_add]
    have hx : ∀ d, d < 5 → w (448 + 5 * i + d) = r (5 * i + d) := by
      intro d hd
      rw [hr (5 * i + d) (by omega)]; congr 1; omega
    have a0 : w (448 + 5 * i) = r (5 * i) := hx 0 (by omega)
    have a1 := hx 1 (by omega)
    have a2 := hx 2 (by omega)
    have a3 := hx 3 (by omega)
    have a4 := hx 4 (by omega)
    simp (disch := omega) only [nI_leI, if_neg, z_lt_n, ex]
    refine Ha_bd (fun s => SB s (fun k => allN Tm r p k (i + 1))) ?_ (fun e he => by simp only [nI_1]; exact Lp1_l ⟨rfl, he⟩)
    by_cases q1 : r (5 * i) = p
    · refine Ha_lp 6 (fun j s => s.1 = nI j ∧ SB s.2 (fun k => allN Tm r p k i && (decide (j ≤ k) || okN Tm r p i k))) _ ?_ ?_ _ ⟨rfl, SB_c h1 (fun k hk => by rw [decide_eq_true (Nat.zero_le k), Bool.true_or, Bool.and_true])⟩
      · rintro j ⟨t1, t2⟩ hj ⟨g1, h2⟩
        simp only at g1 h2
        subst g1
        simp (disch := omega) only [li_6, nI_leI, if_neg, z_lt_n, li_1, li_2, li_3, li_4, nI_add, z_in_n, z_gd_tt, nI_clamp, a0, a1, a2, a3, a4, if_pos q1, Tm8 hj, z_bd_some, z_bd_ite]
        exact Lp1_l ⟨rfl, SB_step hj q1 h2⟩
      · rintro ⟨t1, t2⟩ ⟨g1, h2⟩
        simp only at g1 h2
        subst g1
        simp (disch := omega) only [li_6, nI_leI, if_pos]
        exact Lp1_r (SB_c h2 (fun k hk => by rw [decide_eq_false (show ¬ 6 ≤ k by omega), Bool.false_or]; rfl))
    · refine ⟨s2, z_lp_end ?_, SB_c h1 (fun k hk => ?_)⟩
      · have k0 : ¬ (6 : Int32) ≤ 0 := by decide
        simp (disch := omega) only [if_neg k0, z_in_n, z_gd_tt, nI_clamp, a0, if_neg q1]
      · show _ = (allN Tm r p k i && (!decide (r (5 * i) = p) || _))
        rw [decide_eq_false q1]
        simp only [Bool.not_false, Bool.true_or, Bool.and_true]
  · rintro ⟨s1, s2⟩ ⟨g1, h1⟩
    simp only at g1 h1
    subst g1
    simp (disch := omega) only [nI_leI, if_pos]
    exact Lp1_r h1
/-- both tell one set -/
theorem mo_is {w r : Nat → Int32} {nn : Nat} {p : Int32} (hnn : nn ≤ 6) (w447 : w 447 = nI nn) (hr : RN w 0 nn r) : ∃ m : Nat, m < 64 ∧ p_X6_kindsLeft 0 (nI nn) r p = some (nI m) ∧ p_X8_isOf w p = some (nI m) := by
  obtain ⟨a, h1, h2⟩ := mo_kindsLeft (o := 0) (p := p) (r := r) hnn (fun k hk v t n => Tr7 hk v t n)
  obtain ⟨b, h3, h4⟩ := mo_isOf (p := p) hnn w447 hr
  have := SB_u h2 h4
  subst this
  obtain ⟨m, hm, e, -⟩ := h2
  exact ⟨m, hm, by rw [h1, e], by rw [h3, e]⟩
theorem mo_kinds {w r : Nat → Int32} {nn : Nat} {p : Int32} (hnn : nn ≤ 6) (w478 : w 478 = nI nn) (hr : RM w 0 nn r) : ∃ m : Nat, m < 64 ∧ p_X6_kindsLeft 1 (nI nn) r p = some (nI m) ∧ p_X8_kindsOf w p = some (nI m) := by
  obtain ⟨a, h1, h2⟩ := mo_kindsLeft (o := 1) (p := p) (r := r) hnn (fun k hk v t n => Tm7 hk v t n)
  obtain ⟨b, h3, h4⟩ := mo_kindsOf (p := p) hnn w478 hr
  have := SB_u h2 h4
  subst this
  obtain ⟨m, hm, e, -⟩ := h2
  exact ⟨m, hm, by rw [h1, e], by rw [h3, e]⟩
theorem q_23 {x : Nat → Int32} {v : Nat → Int32} {f : Nat → Nat → Int32} {n : DD} {P : Nat → DD} {kf : Nat → Int32} {tf : Nat → Int32} {v0 : Nat → Int32} {f0 : Nat → Nat → Int32} {n0 : DD} {P0 : Nat → DD} {v1 : Nat → Int32} {f1 : Nat → Nat → Int32} {n1 : DD} {P1 : Nat → DD} {mv : Nat → Int32} {ma : Int64} {mb : Int64} {w : Nat → Int32} {tx : Nat → Int32} (hR : RelX x v f n P kf tf v0 f0 n0 P0 v1 f1 n1 P1 mv ma mb w tx) (c1 : Int32) : ∃ (r7 : Int32 × Int32) (r8 : Int32 × Int32), p_X7_is (x 3) (v 0) 0 (v 3) (f 4) c1 = some r7 ∧ p_X8_is (mv 2) w c1 = some r8 ∧ r7.1 = r8.1 ∧ RelX (va_up x 3 r7.2) v f n P kf tf v0 f0 n0 P0 v1 f1 n1 P1 (va_up mv 2 r8.2) ma mb w tx := by
  refine RX_ro hR ?_
  have hb := hR.2.2.1
  obtain ⟨np, nc, nb, nn, nm, hnp, hnc, hnb, hnn, hnm, e0, w418, e1, w422, e2, w396, e3, w447, e4, w478, hpl, hck, hD, hPP, hno, hma⟩ := hR.1
  simp only [Nat.zero_add] at w418 w447
  obtain ⟨m, hm, h7, h8⟩ := mo_is (p := c1) hnn w447 hno
  simp only [p_X7_is, p_X8_is, e0, e3, hb, p0_hasPlace (n := np) (by omega), p8_isPlace w418 (by omega), z_bd_some, p_X7_refuseBad, p_X8_bad, z_lt, h7, h8]
  cases z_in c1 np
  · simp only [b2_f0, if_true, z_bd_some]
    exact ⟨_, rfl, rfl⟩
  · simp only [b2_t0, if_false, z_bd_some]
    exact ⟨_, rfl, rfl⟩
theorem q_25 {x : Nat → Int32} {v : Nat → Int32} {f : Nat → Nat → Int32} {n : DD} {P : Nat → DD} {kf : Nat → Int32} {tf : Nat → Int32} {v0 : Nat → Int32} {f0 : Nat → Nat → Int32} {n0 : DD} {P0 : Nat → DD} {v1 : Nat → Int32} {f1 : Nat → Nat → Int32} {n1 : DD} {P1 : Nat → DD} {mv : Nat → Int32} {ma : Int64} {mb : Int64} {w : Nat → Int32} {tx : Nat → Int32} (hR : RelX x v f n P kf tf v0 f0 n0 P0 v1 f1 n1 P1 mv ma mb w tx) (c1 : Int32) : ∃ (r7 : Int32 × Int32) (r8 : Int32 × Int32), p_X7_kinds (x 3) (v 1) 1 (v 4) (f 5) c1 = some r7 ∧ p_X8_kinds (mv 2) w c1 = some r8 ∧ r7.1 = r8.1 ∧ RelX (va_up x 3 r7.2) v f n P kf tf v0 f0 n0 P0 v1 f1 n1 P1 (va_up mv 2 r8.2) ma mb w tx := by
  refine RX_ro hR ?_
  have hb := hR.2.2.1
  obtain ⟨np, nc, nb, nn, nm, hnp, hnc, hnb, hnn, hnm, e0, w418, e1, w422, e2, w396, e3, w447, e4, w478, hpl, hck, hD, hPP, hno, hma⟩ := hR.1
  simp only [Nat.zero_add] at w422 w478
  obtain ⟨m, hm, h7, h8⟩ := mo_kinds (p := c1) hnm w478 hma
  simp only [p_X7_kinds, p_X8_kinds, e1, e4, hb, p0_hasCrow (n := nc) (by omega), p8_isCrow w422 (by omega), z_bd_some, p_X7_refuseBad, p_X8_bad, z_lt, h7, h8]
  cases z_in c1 nc
  · simp only [b2_f0, if_true, z_bd_some]
    exact ⟨_, rfl, rfl⟩
  · simp only [b2_t0, if_false, z_bd_some]
    exact ⟨_, rfl, rfl⟩
