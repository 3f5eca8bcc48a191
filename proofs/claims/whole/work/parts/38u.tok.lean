/-! The text's tokens, on both sides. -/
theorem tk_let7 : ∀ c : Fin 128, p_X4_isLetter (nI c.1) = some (b2 (decide (97 ≤ c.1 ∧ c.1 ≤ 122))) := by decide +kernel
theorem tk_fig7 : ∀ c : Fin 128, p_X4_isFigure (nI c.1) = some (b2 (decide (48 ≤ c.1 ∧ c.1 ≤ 57))) := by decide +kernel
theorem tk_let0 : ∀ c : Fin 128, p_X8_in (nI c.1) 97 122 = some (b2 (decide (97 ≤ c.1 ∧ c.1 ≤ 122))) := by decide +kernel
theorem tk_fig0 : ∀ c : Fin 128, p_X8_in (nI c.1) 48 57 = some (b2 (decide (48 ≤ c.1 ∧ c.1 ≤ 57))) := by decide +kernel
/-- the text, as numbers -/
def TX (nt : Nat) (tc : Nat → Nat) (tf tx : Nat → Int32) : Prop := nt ≤ 150 ∧ ∀ j, j < nt → tc j < 128 ∧ tf j = nI (tc j) ∧ tx j = nI (tc j)
def Lt (tc : Nat → Nat) (j : Nat) : Bool := decide (97 ≤ tc j ∧ tc j ≤ 122)
def Fg (tc : Nat → Nat) (j : Nat) : Bool := decide (48 ≤ tc j ∧ tc j ≤ 57)
section TK
variable {nt : Nat} {tc : Nat → Nat} {tf tx : Nat → Int32}
theorem tk_l7 (h : TX nt tc tf tx) {j : Nat} (hj : j < nt) : p_X4_isLetter (tf j) = some (b2 (Lt tc j)) := by
  rw [(h.2 j hj).2.1]; exact tk_let7 ⟨tc j, (h.2 j hj).1⟩
theorem tk_f7 (h : TX nt tc tf tx) {j : Nat} (hj : j < nt) : p_X4_isFigure (tf j) = some (b2 (Fg tc j)) := by
  rw [(h.2 j hj).2.1]; exact tk_fig7 ⟨tc j, (h.2 j hj).1⟩
theorem tk_l8 (h : TX nt tc tf tx) {j : Nat} (hj : j < nt) : p_X8_isLetter (nI nt) tx (nI j) = some (b2 (Lt tc j)) := by
  have hl := tk_let0 ⟨tc j, (h.2 j hj).1⟩
  have hn := h.1
  simp only at hl
  unfold p_X8_isLetter
  simp (disch := omega) only [nI_leI, if_neg, z_in_n, z_gd_tt, nI_clamp, z_lt_n, (h.2 j hj).2.2, hl, z_bd_some]
  show _ = some (b2 (decide (97 ≤ tc j ∧ tc j ≤ 122)))
  cases decide (97 ≤ tc j ∧ tc j ≤ 122) <;> rfl
theorem tk_f8 (h : TX nt tc tf tx) {j : Nat} (hj : j < nt) : p_X8_isFigure (nI nt) tx (nI j) = some (b2 (Fg tc j)) := by
  have hl := tk_fig0 ⟨tc j, (h.2 j hj).1⟩
  have hn := h.1
  simp only at hl
  unfold p_X8_isFigure
  simp (disch := omega) only [nI_leI, if_neg, z_in_n, z_gd_tt, nI_clamp, z_lt_n, (h.2 j hj).2.2, hl, z_bd_some]
  show _ = some (b2 (decide (48 ≤ tc j ∧ tc j ≤ 57)))
  cases decide (48 ≤ tc j ∧ tc j ≤ 57) <;> rfl
theorem tk_e8 (h : TX nt tc tf tx) : p_X8_isLetter (nI nt) tx (nI nt) = some (b2 false) ∧ p_X8_isFigure (nI nt) tx (nI nt) = some (b2 false) := by
  have hn := h.1
  unfold p_X8_isLetter p_X8_isFigure
  have k : nI nt ≤ nI nt := (nI_leI (by omega) (by omega)).mpr (Nat.le_refl _)
  rw [if_pos k, if_pos k]
  exact ⟨rfl, rfl⟩
/-- a run of letters -/
theorem tk_letters (h : TX nt tc tf tx) {st : Nat} (hs : st < nt) (hl : Lt tc st = true) (k : Int32) : ∃ q : Nat, st < q ∧ q ≤ nt ∧ (∀ j, st ≤ j → j < q → Lt tc j = true) ∧ p_X4_takeLetters (nI nt) (nI st) k tf = some (nI q, 1) ∧ z_lp (S := Int32) (E := Int32) (fun s17 =>
    z_bd (p_X8_isLetter (nI nt) tx s17) fun r20 =>
    if (r20 = 0) then
    (some (.inr s17)) else
    (z_lt (s17 + (1 : Int32)) fun x23 =>
    some (.inl x23))) (nI st) = some (nI q) := by
  have hn := h.1
  have key : Al (z_lp (S := Int32) (E := Int32) (fun s1 =>
    if (nI nt ≤ s1) then
    (some (.inr s1)) else
    (z_gd (z_in s1 150) <|
    z_lt ((tf s1.toNatClampNeg)) fun x6 =>
    z_bd (p_X4_isLetter x6) fun r7 =>
    if (r7 = 0) then
    (some (.inr s1)) else
    (z_lt ((s1 + (1 : Int32))) fun x10 =>
    some (.inl x10)))) (nI st)) (z_lp (S := Int32) (E := Int32) (fun s17 =>
    z_bd (p_X8_isLetter (nI nt) tx s17) fun r20 =>
    if (r20 = 0) then
    (some (.inr s17)) else
    (z_lt (s17 + (1 : Int32)) fun x23 =>
    some (.inl x23))) (nI st)) (fun a b => ∃ q : Nat, a = nI q ∧ b = nI q ∧ st < q ∧ q ≤ nt ∧ ∀ j, st ≤ j → j < q → Lt tc j = true) := by
    refine Al_lp (nt - st) (fun i a b => a = nI (st + i) ∧ b = nI (st + i) ∧ ∀ j, st ≤ j → j < st + i → Lt tc j = true) _ ?_ ?_ _ _ ⟨rfl, rfl, fun j h1 h2 => absurd h2 (by omega)⟩
    · rintro i _ _ hi ⟨rfl, rfl, hj⟩
      have kn : ¬ nI nt ≤ nI (st + i) := fun z => absurd ((nI_leI (by omega) (by omega)).mp z) (by omega)
      simp (disch := omega) only [if_neg kn, z_in_n, z_gd_tt, nI_clamp, z_lt_n, tk_l7 h (show st + i < nt by omega), tk_l8 h (show st + i < nt by omega), z_bd_some]
      cases q : Lt tc (st + i)
      · simp only [b2_f0, if_true]
        refine Lp2_r ⟨st + i, rfl, rfl, ?_, by omega, hj⟩
        rcases Nat.eq_zero_or_pos i with rfl | z
        · rw [Nat.add_zero, hl] at q; cases q
        · omega
      · simp only [b2_t0, if_false, nI_1]
        refine Lp2_l ⟨rfl, rfl, fun j h1 h2 => ?_⟩
        rcases (show j < st + i ∨ j = st + i by omega) with z | rfl
        · exact hj j h1 z
        · exact q
    · rintro _ _ ⟨rfl, rfl, hj⟩
      rw [show st + (nt - st) = nt by omega] at hj ⊢
      have kn : nI nt ≤ nI nt := (nI_leI (by omega) (by omega)).mpr (Nat.le_refl _)
      simp only [if_pos kn, (tk_e8 h).1, z_bd_some, b2_f0, if_true]
      exact Lp2_r ⟨nt, rfl, rfl, hs, Nat.le_refl _, hj⟩
  obtain ⟨_, _, k1, k2, q, rfl, rfl, q1, q2, q3⟩ := key
  refine ⟨q, q1, q2, q3, ?_, k2⟩
  unfold p_X4_takeLetters
  rw [z_bd_s k1]
/-- a run of figures -/
theorem tk_figures (h : TX nt tc tf tx) {st : Nat} (hs : st < nt) (hl : Fg tc st = true) (k k' V V' : Int32) : ∃ q vv : Nat, st < q ∧ q ≤ nt ∧ vv ≤ 99 ∧ p_X4_takeFigures (nI nt) (nI st) k (nI st) V tf = some (nI q, if 2 < q - st then 4 else 2, nI vv) ∧ p_X8_readNumber (nI nt) (nI st) (nI st) k' V' tx = some (nI q, if 2 < q - st then 4 else 2, nI vv) := by
  have hn := h.1
  unfold p_X4_takeFigures p_X8_readNumber
  have key : Al (z_lp (S := Int32 × Int32) (E := Int32 × Int32) (fun s1 =>
    if (nI nt ≤ s1.1) then
    (some (.inr (s1.1, s1.2))) else
    (z_gd (z_in s1.1 150) <|
    z_lt ((tf s1.1.toNatClampNeg)) fun x8 =>
    z_bd (p_X4_isFigure x8) fun r9 =>
    if (r9 = 0) then
    (some (.inr (s1.1, s1.2))) else
    (z_bd (α := Int32) (if ((2 : Int32) ≤ (s1.1 - nI st)) then
    (some s1.2) else
    (z_gd (z_in s1.1 150) <|
    z_lt (((((10 : Int32) * s1.2) + (tf s1.1.toNatClampNeg)) - (48 : Int32))) fun x16 =>
    some x16)) fun j12 =>
    z_lt ((s1.1 + (1 : Int32))) fun x13 =>
    some (.inl (x13, j12))))) (nI st, (0 : Int32))) (z_lp (S := Int32 × Int32) (E := Int32 × Int32) (fun s1 =>
    z_bd (p_X8_isFigure (nI nt) tx s1.1) fun r6 =>
    if (r6 = 0) then
    (some (.inr (s1.1, s1.2))) else
    (z_bd (α := Int32) (if ((2 : Int32) ≤ (s1.1 - nI st)) then
    (some s1.2) else
    (z_gd (z_in s1.1 150) <|
    some ((((10 : Int32) * s1.2) + (tx s1.1.toNatClampNeg)) - (48 : Int32)))) fun j9 =>
    z_lt ((s1.1 + (1 : Int32))) fun x10 =>
    some (.inl (x10, j9)))) (nI st, (0 : Int32))) (fun a b => ∃ q vv : Nat, a = (nI q, nI vv) ∧ b = (nI q, nI vv) ∧ st < q ∧ q ≤ nt ∧ vv ≤ 99) := by
    refine Al_lp (nt - st) (fun i a b => ∃ vv : Nat, a = (nI (st + i), nI vv) ∧ b = (nI (st + i), nI vv) ∧ vv ≤ 99 ∧ (i = 0 → vv = 0) ∧ (i = 1 → vv ≤ 9)) _ ?_ ?_ _ _ ⟨0, rfl, rfl, by omega, fun _ => rfl, fun _ => by omega⟩
    · rintro i _ _ hi ⟨vv, rfl, rfl, v1, v2, v3⟩
      have hc := h.2 (st + i) (by omega)
      have kn : ¬ nI nt ≤ nI (st + i) := fun z => absurd ((nI_leI (by omega) (by omega)).mp z) (by omega)
      have ks : nI (st + i) - nI st = nI i := by rw [pk_sub (by omega)]; congr 1; omega
      have kf7 : p_X4_isFigure (nI (tc (st + i))) = some (b2 (Fg tc (st + i))) := by rw [← hc.2.1]; exact tk_f7 h (by omega)
      have k2 : ((2 : Int32) ≤ nI i) = (2 ≤ i) := propext (nI_leI (a := 2) (by decide) (by omega))
      simp (disch := omega) only [if_neg kn, z_in_n, z_gd_tt, nI_clamp, z_lt_n, kf7, tk_f8 h (show st + i < nt by omega), z_bd_some, ks, k2, hc.2.1, hc.2.2]
      cases q : Fg tc (st + i)
      · simp only [b2_f0, if_true]
        refine Lp2_r ⟨st + i, vv, rfl, rfl, ?_, by omega, v1⟩
        rcases Nat.eq_zero_or_pos i with rfl | z
        · rw [Nat.add_zero, hl] at q; cases q
        · omega
      · simp only [b2_t0, if_false]
        have hq := of_decide_eq_true q
        by_cases q2 : 2 ≤ i
        · simp only [if_pos q2, z_bd_some, nI_1]
          exact Lp2_l ⟨vv, rfl, rfl, v1, fun z => absurd z (by omega), fun z => absurd z (by omega)⟩
        · have ev : (10 : Int32) * nI vv + nI (tc (st + i)) - (48 : Int32) = nI (10 * vv + tc (st + i) - 48) := by
            rw [li_10, li_48, pk_mul, nI_add, pk_sub (by omega)]
          simp only [if_neg q2, z_bd_some, nI_1, ev]
          refine Lp2_l ⟨10 * vv + tc (st + i) - 48, rfl, rfl, ?_, fun z => absurd z (by omega), fun z => ?_⟩
          · rcases (show i = 0 ∨ i = 1 by omega) with z | z
            · have := v2 z; omega
            · have := v3 z; omega
          · have := v2 (by omega); omega
    · rintro _ _ ⟨vv, rfl, rfl, v1, v2, v3⟩
      rw [show st + (nt - st) = nt by omega]
      have kn : nI nt ≤ nI nt := (nI_leI (by omega) (by omega)).mpr (Nat.le_refl _)
      simp only [if_pos kn, (tk_e8 h).2, z_bd_some, b2_f0, if_true]
      exact Lp2_r ⟨nt, vv, rfl, rfl, hs, Nat.le_refl _, v1⟩
  obtain ⟨_, _, k1, k2, q, vv, rfl, rfl, q1, q2, q3⟩ := key
  have ks : nI q - nI st = nI (q - st) := pk_sub (by omega)
  have ka : ((2 : Int32) < nI (q - st)) = (2 < q - st) := propext (nI_ltI (a := 2) (by decide) (by omega))
  have kb : (nI (q - st) ≤ (2 : Int32)) = (q - st ≤ 2) := propext (nI_leI (b := 2) (by omega) (by decide))
  refine ⟨q, vv, q1, q2, q3, ?_, ?_⟩
  · rw [z_bd_s k1]
    simp only [ks, ka, z_bd_ite]
  · rw [z_bd_s k2]
    simp only [ks, kb, z_bd_ite]
    by_cases z : q - st ≤ 2
    · rw [if_pos z, if_neg (by omega)]
    · rw [if_neg z, if_pos (by omega)]
/-- the next token -/
theorem mo_token (h : TX nt tc tf tx) {p : Nat} (hp : p ≤ nt) (a1 a2 a3 b1 b2' b3 : Int32) : ∃ (q st tk : Nat) (V7 V8 : Int32), p_X4_takeToken (nI nt) (nI p) a1 a2 a3 tf = some (nI q, nI tk, nI st, V7) ∧ p_X8_nextToken (nI nt) (nI p) b1 b2' b3 tx = some (nI q, nI st, nI tk, V8) ∧ p ≤ st ∧ st ≤ q ∧ q ≤ nt ∧ tk ≤ 4 ∧ (tk ≠ 0 → st < q) ∧ (tk = 2 → V7 = V8 ∧ ∃ vv : Nat, vv ≤ 99 ∧ V7 = nI vv) ∧ (tk = 1 → ∀ j, st ≤ j → j < q → Lt tc j = true) := by
  have hn := h.1
  unfold p_X4_takeToken p_X8_nextToken
  have key : Al (z_lp (S := Int32) (E := Int32) (fun s1 =>
    if (nI nt ≤ s1) then
    (some (.inr s1)) else
    (z_gd (z_in s1 150) <|
    if ((tf s1.toNatClampNeg) = (32 : Int32)) then
    (z_lt ((s1 + (1 : Int32))) fun x27 =>
    some (.inl x27)) else
    (some (.inr s1)))) (nI p)) (z_lp (S := Int32) (E := Int32) (fun s1 =>
    if (nI nt ≤ s1) then
    (some (.inr s1)) else
    (z_gd (z_in s1 150) <|
    if ((tx s1.toNatClampNeg) = (32 : Int32)) then
    (z_lt ((s1 + (1 : Int32))) fun x28 =>
    some (.inl x28)) else
    (some (.inr s1)))) (nI p)) (fun a b => ∃ st : Nat, a = nI st ∧ b = nI st ∧ p ≤ st ∧ st ≤ nt) := by
    refine Al_lp (nt - p) (fun i a b => a = nI (p + i) ∧ b = nI (p + i)) _ ?_ ?_ _ _ ⟨rfl, rfl⟩
    · rintro i _ _ hi ⟨rfl, rfl⟩
      have hc := h.2 (p + i) (by omega)
      have kn : ¬ nI nt ≤ nI (p + i) := fun z => absurd ((nI_leI (by omega) (by omega)).mp z) (by omega)
      simp (disch := omega) only [if_neg kn, z_in_n, z_gd_tt, nI_clamp, z_lt_n, hc.2.1, hc.2.2, nI_1]
      by_cases q : nI (tc (p + i)) = (32 : Int32)
      · simp only [if_pos q]
        exact Lp2_l ⟨rfl, rfl⟩
      · simp only [if_neg q]
        exact Lp2_r ⟨p + i, rfl, rfl, by omega, by omega⟩
    · rintro _ _ ⟨rfl, rfl⟩
      rw [show p + (nt - p) = nt by omega]
      have kn : nI nt ≤ nI nt := (nI_leI (by omega) (by omega)).mpr (Nat.le_refl _)
      simp only [if_pos kn]
      exact Lp2_r ⟨nt, rfl, rfl, hp, Nat.le_refl _⟩
  obtain ⟨_, _, k1, k2, st, rfl, rfl, s1, s2⟩ := key
  rw [z_bd_s k1, z_bd_s k2]
  by_cases he : st = nt
  · have c1 : ¬ nI st < nI nt := fun z => absurd ((nI_ltI (by omega) (by omega)).mp z) (by omega)
    have c2 : nI st = nI nt := by rw [he]
    rw [if_neg c1, if_pos c2, z_bd_some, z_bd_some]
    exact ⟨st, st, 0, _, _, rfl, rfl, s1, Nat.le_refl _, s2, by omega, fun z => absurd rfl z, fun z => absurd z (by decide), fun z => absurd z (by decide)⟩
  · have hs : st < nt := by omega
    have c1 : nI st < nI nt := (nI_ltI (by omega) (by omega)).mpr hs
    have c2 : ¬ nI st = nI nt := nI_ne (by omega) (by omega) he
    have i1 : z_in (nI st) 150 = true := z_in_n (by omega) (by decide)
    have hc := h.2 st hs
    simp only [if_pos c1, if_neg c2, i1, z_gd_tt, nI_clamp (show st < 2 ^ 31 by omega), z_lt_n, tk_l7 h hs, tk_l8 h hs, tk_f7 h hs, tk_f8 h hs, z_bd_some]
    cases hl : Lt tc st
    · simp only [b2_f0, if_true]
      cases hf : Fg tc st
      · simp only [b2_f0, if_true, hc.2.1, hc.2.2, z_bd_ite, nI_1]
        by_cases q : nI (tc st) = (59 : Int32)
        · simp only [if_pos q, z_bd_some]
          exact ⟨st + 1, st, 3, _, _, rfl, rfl, s1, by omega, by omega, by omega, fun _ => by omega, fun z => absurd z (by decide), fun z => absurd z (by decide)⟩
        · simp only [if_neg q, z_bd_some]
          exact ⟨st + 1, st, 4, _, _, rfl, rfl, s1, by omega, by omega, by omega, fun _ => by omega, fun z => absurd z (by decide), fun z => absurd z (by decide)⟩
      · obtain ⟨q, vv, q1, q2, q3, q4, q5⟩ := tk_figures h hs hf a1 b2' a3 b3
        simp only [b2_t0, if_false, q4, q5, z_bd_some]
        by_cases z : 2 < q - st
        · simp only [if_pos z]
          exact ⟨q, st, 4, _, _, rfl, rfl, s1, by omega, q2, by omega, fun _ => q1, fun z => absurd z (by decide), fun z => absurd z (by decide)⟩
        · simp only [if_neg z]
          exact ⟨q, st, 2, _, _, rfl, rfl, s1, by omega, q2, by omega, fun _ => q1, fun _ => ⟨rfl, vv, q3, rfl⟩, fun z => absurd z (by decide)⟩
    · obtain ⟨q, q1, q2, q3, q4, q5⟩ := tk_letters h hs hl a1
      simp only [b2_t0, if_false, q4, z_bd_some]
      simp only [z_lt_n] at q5
      rw [z_bd_s q5]
      exact ⟨q, st, 1, _, _, rfl, rfl, s1, by omega, q2, by omega, fun _ => q1, fun z => absurd z (by decide), fun _ => q3⟩
end TK
