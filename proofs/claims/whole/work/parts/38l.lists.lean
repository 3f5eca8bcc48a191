/-! clash and owner: the distances of one crow, and what is found in them. -/
theorem mo_F {w : Nat → Int32} {f : Nat → Nat → Int32} {n : DD} {np nc c : Nat} (hnp : np ≤ 7) (hnc : nc ≤ 3) (hP : RP w 0 np nc f) (hD : RD w 0 nc np n) (hc : c < nc) : ∃ F : Nat → Nat → Nat, ∀ a b, a < np → b < np → F a b ≤ 600 ∧ p_X0_farNow (f 0) (f 1) (f 2) (f 3) n.2.2.2.2.2.2.2.2 n.2.2.2.2.2.1 (nI c) (nI a) (nI b) = some (nI (F a b)) ∧ p_X8_farNow w (nI c) (nI a) (nI b) = some (nI (F a b)) := by
  have h : ∀ a b, ∃ g : Nat, a < np → b < np → g ≤ 600 ∧ p_X0_farNow (f 0) (f 1) (f 2) (f 3) n.2.2.2.2.2.2.2.2 n.2.2.2.2.2.1 (nI c) (nI a) (nI b) = some (nI g) ∧ p_X8_farNow w (nI c) (nI a) (nI b) = some (nI g) := by
    intro a b
    by_cases h : a < np ∧ b < np
    · obtain ⟨g, h1, h2, h3⟩ := mo_farNow hnp hnc hP hD hc h.1 h.2
      exact ⟨g, fun _ _ => ⟨h1, h2, h3⟩⟩
    · exact ⟨0, fun h1 h2 => absurd ⟨h1, h2⟩ h⟩
  exact ⟨fun a b => Classical.choose (h a b), fun a b => Classical.choose_spec (h a b)⟩
/-- a row of 7 by 7 holds the distances -/
def FM (np : Nat) (F : Nat → Nat → Nat) (e : Nat → Int32) : Prop := ∀ a b, a < np → b < np → e (7 * a + b) = nI (F a b)
theorem mo_measure {w : Nat → Int32} {f : Nat → Nat → Int32} {H : Int32} {ti : Nat → Int32} {np c : Nat} {F : Nat → Nat → Nat} (hnp : np ≤ 7) (hF : ∀ a b, a < np → b < np → F a b ≤ 600 ∧ p_X0_farNow (f 0) (f 1) (f 2) (f 3) H ti (nI c) (nI a) (nI b) = some (nI (F a b)) ∧ p_X8_farNow w (nI c) (nI a) (nI b) = some (nI (F a b))) (y0 y1 : Int32) (y2 : Nat → Int32) :
    ∃ e, p_X5_measure y0 y1 y2 (nI np) (f 0) (f 1) (f 2) (f 3) H ti (nI c) = some (0, nI np, e) ∧ FM np F e := by
  have h : Ha (p_X5_measure y0 y1 y2 (nI np) (f 0) (f 1) (f 2) (f 3) H ti (nI c)) (fun r => ∃ e, r = (0, nI np, e) ∧ FM np F e) := by
    unfold p_X5_measure
    refine Ha_bd _ (Ha_lp np (fun i s => s.1 = nI i ∧ ∀ a b, a < i → b < np → s.2 (7 * a + b) = nI (F a b)) (FM np F) ?_ ?_ _ ⟨rfl, fun a b h => absurd h (by omega)⟩) (fun e he => Ha_s ⟨e, rfl, he⟩)
    · rintro i ⟨s1, s2⟩ hi ⟨e1, h1⟩
      simp only at e1 h1
      subst e1
      simp (disch := omega) only [nI_leI, if_neg]
      refine Ha_bd (fun e => ∀ a b, a < i + 1 → b < np → e (7 * a + b) = nI (F a b)) (Ha_lp np (fun j s => s.1 = nI j ∧ (∀ a b, a < i → b < np → s.2 (7 * a + b) = nI (F a b)) ∧ ∀ b, b < j → s.2 (7 * i + b) = nI (F i b)) _ ?_ ?_ _ ⟨rfl, h1, fun b h => absurd h (by omega)⟩) (fun e he => ?_)
      · rintro j ⟨t1, t2⟩ hj ⟨e1, g1, g2⟩
        simp only at e1 g1 g2
        subst e1
        have hf := (hF i j hi hj).2.1
        simp (disch := omega) only [nI_leI, if_neg, hf, z_bd_some, z_lt, li_7, li_1, pk_mul, nI_add, z_in_n, z_gd_tt, nI_clamp]
        refine Lp1_l ⟨rfl, fun a b ha hb => ?_, fun b hb => ?_⟩
        · show upd t2 (i * 7 + j) (nI (F i j)) (7 * a + b) = _
          rw [ud_n (by omega)]; exact g1 a b ha hb
        · show upd t2 (i * 7 + j) (nI (F i j)) (7 * i + b) = _
          rcases (show b < j ∨ b = j by omega) with hb | rfl
          · rw [ud_n (by omega)]; exact g2 b hb
          · exact ud_e (by omega)
      · rintro ⟨t1, t2⟩ ⟨e1, g1, g2⟩
        simp only at e1 g1 g2
        subst e1
        simp (disch := omega) only [nI_leI, if_pos]
        refine Lp1_r (fun a b ha hb => ?_)
        rcases (show a < i ∨ a = i by omega) with ha | rfl
        · exact g1 a b ha hb
        · exact g2 b hb
      · simp only [z_lt, nI_1]
        exact Lp1_l ⟨rfl, he⟩
    · rintro ⟨s1, s2⟩ ⟨e1, h1⟩
      simp only at e1 h1
      subst e1
      simp (disch := omega) only [nI_leI, if_pos]
      exact Lp1_r h1
  obtain ⟨r, h1, e, h2, h3⟩ := h
  exact ⟨e, by rw [h1, h2], h3⟩
theorem mo_layFars {w : Nat → Int32} {f : Nat → Nat → Int32} {H : Int32} {ti : Nat → Int32} {np c : Nat} {F : Nat → Nat → Nat} (hnp : np ≤ 7) (w418 : w 418 = nI np) (hF : ∀ a b, a < np → b < np → F a b ≤ 600 ∧ p_X0_farNow (f 0) (f 1) (f 2) (f 3) H ti (nI c) (nI a) (nI b) = some (nI (F a b)) ∧ p_X8_farNow w (nI c) (nI a) (nI b) = some (nI (F a b))) (fr : Nat → Int32) :
    ∃ e, p_X8_layFars w fr (nI c) = some e ∧ FM np F e := by
  have h : Ha (p_X8_layFars w fr (nI c)) (FM np F) := by
    unfold p_X8_layFars
    simp only [w418]
    refine Ha_bd _ (Ha_lp np (fun i s => s.1 = nI i ∧ ∀ a b, a < i → b < np → s.2 (7 * a + b) = nI (F a b)) (FM np F) ?_ ?_ _ ⟨rfl, fun a b h => absurd h (by omega)⟩) (fun e he => Ha_s he)
    · rintro i ⟨s1, s2⟩ hi ⟨e1, h1⟩
      simp only at e1 h1
      subst e1
      simp (disch := omega) only [nI_leI, if_neg]
      refine Ha_bd (fun e => ∀ a b, a < i + 1 → b < np → e (7 * a + b) = nI (F a b)) (Ha_lp np (fun j s => s.1 = nI j ∧ (∀ a b, a < i → b < np → s.2 (7 * a + b) = nI (F a b)) ∧ ∀ b, b < j → s.2 (7 * i + b) = nI (F i b)) _ ?_ ?_ _ ⟨rfl, h1, fun b h => absurd h (by omega)⟩) (fun e he => ?_)
      · rintro j ⟨t1, t2⟩ hj ⟨e1, g1, g2⟩
        simp only at e1 g1 g2
        subst e1
        have hf := (hF i j hi hj).2.2
        simp (disch := omega) only [nI_leI, if_neg, hf, z_bd_some, z_lt, li_7, li_1, pk_mul, nI_add, z_in_n, z_gd_tt, nI_clamp]
        refine Lp1_l ⟨rfl, fun a b ha hb => ?_, fun b hb => ?_⟩
        · show upd t2 (7 * i + j) (nI (F i j)) (7 * a + b) = _
          rw [ud_n (by omega)]; exact g1 a b ha hb
        · show upd t2 (7 * i + j) (nI (F i j)) (7 * i + b) = _
          rcases (show b < j ∨ b = j by omega) with hb | rfl
          · rw [ud_n (by omega)]; exact g2 b hb
          · exact ud_e (by omega)
      · rintro ⟨t1, t2⟩ ⟨e1, g1, g2⟩
        simp only at e1 g1 g2
        subst e1
        simp (disch := omega) only [nI_leI, if_pos]
        refine Lp1_r (fun a b ha hb => ?_)
        rcases (show a < i ∨ a = i by omega) with ha | rfl
        · exact g1 a b ha hb
        · exact g2 b hb
      · simp only [z_lt, nI_1]
        exact Lp1_l ⟨rfl, he⟩
    · rintro ⟨s1, s2⟩ ⟨e1, h1⟩
      simp only at e1 h1
      subst e1
      simp (disch := omega) only [nI_leI, if_pos]
      exact Lp1_r h1
  exact h
/-- what a list answers at k, m found -/
def FA (k : Int32) (m : Nat) (fo : Nat → Int32) (t : Int32) : Prop := (∀ j, j < m → k = nI j → t = fo j) ∧ ((∀ j, j < m → ¬ k = nI j) → t = -5)
theorem FA_0 (k : Int32) (fo : Nat → Int32) : FA k 0 fo (-5) := ⟨fun j h => absurd h (by omega), fun _ => rfl⟩
theorem FA_add {k : Int32} {m : Nat} {fo : Nat → Int32} {t : Int32} (hm : m < 2 ^ 30) (h : FA k m fo t) (x : Int32) : FA k (m + 1) (upd fo m x) (if nI m = k then x else t) := by
  refine ⟨fun j hj e => ?_, fun hn => ?_⟩
  · by_cases q : j = m
    · subst q
      rw [if_pos e.symm, ud_s]
    · rw [ud_n q, if_neg (fun z => q ((nI_eq (by omega) (by omega)).mp (e.symm.trans z.symm)))]
      exact h.1 j (by omega) e
  · rw [if_neg (fun z => hn m (by omega) z.symm)]
    exact h.2 (fun j hj => hn j (by omega))
theorem FA_ans {k : Int32} {m : Nat} {fo : Nat → Int32} {t : Int32} (hm : m ≤ 49) (hk : (-1 : Int32) ≤ k) (h : FA k m fo t) (W : Int32) : p_X5_answer (nI m) fo k W = some (if k = -1 then W else t) := by
  unfold p_X5_answer
  by_cases h1 : k = -1
  · rw [if_pos h1, if_pos h1]
  · have h0 : ¬ k < 0 := by
      intro q
      have a1 := Int32.le_iff_toInt_le.mp hk
      have a2 := Int32.lt_iff_toInt_lt.mp q
      have b1 : (-1 : Int32).toInt = -1 := rfl
      have b2 : (0 : Int32).toInt = 0 := rfl
      rw [b1] at a1
      rw [b2] at a2
      exact h1 (Int32.toInt_inj.mp (by rw [b1]; omega))
    obtain ⟨j, hj, rfl⟩ := nI_of h0
    rw [if_neg h1, if_neg h1, if_neg h0]
    by_cases h2 : m ≤ j
    · rw [if_pos ((nI_leI (by omega) hj).mpr h2), h.2 (fun i hi e => absurd ((nI_eq hj (by omega)).mp e) (by omega))]
      rfl
    · rw [if_neg (fun q => h2 ((nI_leI (by omega) hj).mp q)), z_in_n (show j < 49 by omega) (by decide), z_gd_tt, nI_clamp hj, h.1 j (by omega) rfl]
      rfl
theorem mo_addFound {m : Nat} (hm : m < 49) (fo : Nat → Int32) (x : Int32) : p_X5_addFound (nI m) fo x = some (nI (m + 1), upd fo m x) := by
  unfold p_X5_addFound
  simp (disch := omega) only [li_49, nI_leI, if_neg, z_in_n, z_gd_tt, nI_clamp, z_lt, nI_1, z_bd_some]
/-- is there a way over one place that is shorter -/
def dCl (F : Nat → Nat → Nat) (a b : Nat) : Nat → Bool
  | 0 => false
  | c + 1 => dCl F a b c || (decide (c ≠ a) && decide (c ≠ b) && decide (F a c + F c b < F a b))
theorem dCl_up {F : Nat → Nat → Nat} {a b c : Nat} (h : dCl F a b c = true) : ∀ k, dCl F a b (c + k) = true := by
  intro k
  induction k with
  | zero => exact h
  | succ k ih =>
    show (dCl F a b (c + k) || _) = true
    rw [ih, Bool.true_or]
theorem mo_shortcut {e : Nat → Int32} {np a b : Nat} {F : Nat → Nat → Nat} (hnp : np ≤ 7) (hF : ∀ a b, a < np → b < np → F a b ≤ 600) (hE : FM np F e) (ha : a < np) (hb : b < np) : p_X5_hasShortcut (nI np) e (nI a) (nI b) = some (b2 (dCl F a b np)) := by
  unfold p_X5_hasShortcut
  have h : Ha (z_lp (S := Int32) (E := (Unit) ⊕ (Int32)) (fun s1 =>
    if (nI np ≤ s1) then
    (some (.inr (.inl ()))) else
    (if (s1 = nI a) then
    (z_lt (s1 + (1 : Int32)) fun x7 =>
    some (.inl x7)) else
    (if (s1 = nI b) then
    (z_lt (s1 + (1 : Int32)) fun x9 =>
    some (.inl x9)) else
    (z_lt (((nI a * (7 : Int32)) + s1)) fun x10 =>
    z_gd (z_in x10 49) <|
    z_lt (((s1 * (7 : Int32)) + nI b)) fun x12 =>
    z_gd (z_in x12 49) <|
    z_lt (((nI a * (7 : Int32)) + nI b)) fun x14 =>
    z_gd (z_in x14 49) <|
    if ((e x14.toNatClampNeg) ≤ ((e x10.toNatClampNeg) + (e x12.toNatClampNeg))) then
    (z_lt (s1 + (1 : Int32)) fun x17 =>
    some (.inl x17)) else
    (some (.inr (.inr (1 : Int32)))))))) (0 : Int32)) (fun r => (r = .inl () ∧ dCl F a b np = false) ∨ (r = .inr 1 ∧ dCl F a b np = true)) := by
    refine Ha_lp np (fun i s => s = nI i ∧ dCl F a b i = false) _ ?_ ?_ _ ⟨rfl, rfl⟩
    · rintro i s hi ⟨rfl, hd⟩
      simp (disch := omega) only [nI_leI, if_neg, nI_eq]
      by_cases q1 : i = a
      · simp only [if_pos q1, z_lt, nI_1]
        exact Lp1_l ⟨rfl, by show (dCl F a b i || _) = false; rw [hd, decide_eq_false (show ¬ i ≠ a by omega)]; rfl⟩
      by_cases q2 : i = b
      · simp only [if_neg q1, if_pos q2, z_lt, nI_1]
        exact Lp1_l ⟨rfl, by show (dCl F a b i || _) = false; rw [hd, decide_eq_false (show ¬ i ≠ b by omega), Bool.and_false]; rfl⟩
      have x1 : e (a * 7 + i) = nI (F a i) := by rw [Nat.mul_comm]; exact hE a i ha hi
      have x2 : e (i * 7 + b) = nI (F i b) := by rw [Nat.mul_comm]; exact hE i b hi hb
      have x3 : e (a * 7 + b) = nI (F a b) := by rw [Nat.mul_comm]; exact hE a b ha hb
      have y1 := hF a i ha hi
      have y2 := hF i b hi hb
      have y3 := hF a b ha hb
      simp (disch := omega) only [if_neg q1, if_neg q2, z_lt, li_7, pk_mul, nI_add, z_in_n, z_gd_tt, nI_clamp, x1, x2, x3, nI_leI, nI_1]
      by_cases q3 : F a b ≤ F a i + F i b
      · simp only [if_pos q3]
        exact Lp1_l ⟨rfl, by show (dCl F a b i || _) = false; rw [hd, decide_eq_false (show ¬ F a i + F i b < F a b by omega), Bool.and_false]; rfl⟩
      · simp only [if_neg q3]
        refine Lp1_r (Or.inr ⟨rfl, ?_⟩)
        have h1 : dCl F a b (i + 1) = true := by
          show (dCl F a b i || _) = true
          rw [decide_eq_true (show i ≠ a by omega), decide_eq_true (show i ≠ b by omega), decide_eq_true (show F a i + F i b < F a b by omega)]
          exact Bool.or_true _
        have h2 := dCl_up h1 (np - (i + 1))
        rwa [show i + 1 + (np - (i + 1)) = np by omega] at h2
    · rintro s ⟨rfl, hd⟩
      simp (disch := omega) only [nI_leI, if_pos]
      exact Lp1_r (Or.inl ⟨rfl, hd⟩)
  obtain ⟨r, h1, h2⟩ := h
  rw [z_bd_s h1]
  rcases h2 with ⟨rfl, hd⟩ | ⟨rfl, hd⟩
  · rw [hd]; rfl
  · rw [hd]; rfl
theorem mo_doesClash {w e : Nat → Int32} {np a b : Nat} {F : Nat → Nat → Nat} (hnp : np ≤ 7) (w418 : w 418 = nI np) (hF : ∀ a b, a < np → b < np → F a b ≤ 600) (hE : FM np F e) (ha : a < np) (hb : b < np) : p_X8_doesClash w e (nI a) (nI b) = some (b2 (dCl F a b np)) := by
  refine Ha_e ?_
  unfold p_X8_doesClash
  simp only [w418]
  refine Ha_bd (fun r => r = b2 (dCl F a b np)) (Ha_lp np (fun i s => s = (nI i, b2 (dCl F a b i))) _ ?_ ?_ _ rfl) (fun r hr => by rw [hr, b2_bz, z_gd_tt]; exact Ha_s rfl)
  · rintro i _ hi rfl
    have x1 : e (7 * a + i) = nI (F a i) := hE a i ha hi
    have x2 : e (7 * i + b) = nI (F i b) := hE i b hi hb
    have x3 : e (7 * a + b) = nI (F a b) := hE a b ha hb
    have y1 := hF a i ha hi
    have y2 := hF i b hi hb
    have y3 := hF a b ha hb
    simp (disch := omega) only [nI_leI, if_neg, nI_eq, z_lt, li_7, pk_mul, nI_add, z_in_n, z_gd_tt, nI_clamp, x1, x2, x3, nI_1]
    cases hd : dCl F a b i
    · simp only [b2_f0, if_true]
      by_cases q1 : i = a
      · simp only [if_pos q1, z_bd_some]
        exact Lp1_l (by show _ = (nI (i + 1), b2 (dCl F a b i || _)); rw [hd, decide_eq_false (show ¬ i ≠ a by omega)]; rfl)
      by_cases q2 : i = b
      · simp only [if_neg q1, if_pos q2, z_bd_some]
        exact Lp1_l (by show _ = (nI (i + 1), b2 (dCl F a b i || _)); rw [hd, decide_eq_false (show ¬ i ≠ b by omega), Bool.and_false]; rfl)
      by_cases q3 : F a b ≤ F a i + F i b
      · simp only [if_neg q1, if_neg q2, if_pos q3, z_bd_some]
        exact Lp1_l (by show _ = (nI (i + 1), b2 (dCl F a b i || _)); rw [hd, decide_eq_false (show ¬ F a i + F i b < F a b by omega), Bool.and_false]; rfl)
      · simp only [if_neg q1, if_neg q2, if_neg q3, z_bd_some]
        exact Lp1_l (by show _ = (nI (i + 1), b2 (dCl F a b i || _)); rw [hd, decide_eq_true (show i ≠ a by omega), decide_eq_true (show i ≠ b by omega), decide_eq_true (show F a i + F i b < F a b by omega)]; rfl)
    · simp only [b2_t0, if_false, z_bd_some]
      exact Lp1_l (by show _ = (nI (i + 1), b2 (dCl F a b i || _)); rw [hd, Bool.true_or]; rfl)
  · rintro _ rfl
    simp (disch := omega) only [nI_leI, if_pos]
    exact Lp1_r rfl
theorem z_bd_bd {α β γ : Type} (x : Option α) (k : α → Option β) (l : β → Option γ) : z_bd (z_bd x k) l = z_bd x (fun a => z_bd (k a) l) := by
  cases x <;> rfl
section RX
variable {x v : Nat → Int32} {f : Nat → Nat → Int32} {n : DD} {P : Nat → DD} {kf tf v0 : Nat → Int32} {f0 : Nat → Nat → Int32} {n0 : DD} {P0 : Nat → DD} {v1 : Nat → Int32} {f1 : Nat → Nat → Int32} {n1 : DD} {P1 : Nat → DD} {mv : Nat → Int32} {ma mb : Int64} {w tx : Nat → Int32}
theorem RX_al {α β : Type} (hR : RelX x v f n P kf tf v0 f0 n0 P0 v1 f1 n1 P1 mv ma mb w tx) {p : Option (Int32 × Int32 × α)} {q : Option (Int32 × Int32 × β)} (h : Al p q (fun r s => r.1 = s.1 ∧ r.2.1 = s.2.1)) : ∃ (r7 : Int32 × Int32 × α) (r8 : Int32 × Int32 × β), p = some r7 ∧ q = some r8 ∧ r7.1 = r8.1 ∧ RelX (va_up x 3 r7.2.1) v f n P kf tf v0 f0 n0 P0 v1 f1 n1 P1 (va_up mv 2 r8.2.1) ma mb w tx := by
  obtain ⟨r, s, h1, h2, h3, h4⟩ := h
  exact ⟨r, s, h1, h2, h3, RX_b hR h4⟩
theorem RX_al2 {α : Type} (hR : RelX x v f n P kf tf v0 f0 n0 P0 v1 f1 n1 P1 mv ma mb w tx) {p : Option (Int32 × Int32 × α)} {q : Option (Int32 × Int32)} (h : Al p q (fun r s => r.1 = s.1 ∧ r.2.1 = s.2)) : ∃ (r7 : Int32 × Int32 × α) (r8 : Int32 × Int32), p = some r7 ∧ q = some r8 ∧ r7.1 = r8.1 ∧ RelX (va_up x 3 r7.2.1) v f n P kf tf v0 f0 n0 P0 v1 f1 n1 P1 (va_up mv 2 r8.2) ma mb w tx := by
  obtain ⟨r, s, h1, h2, h3, h4⟩ := h
  exact ⟨r, s, h1, h2, h3, RX_b hR h4⟩
end RX
theorem q_16 {x : Nat → Int32} {v : Nat → Int32} {f : Nat → Nat → Int32} {n : DD} {P : Nat → DD} {kf : Nat → Int32} {tf : Nat → Int32} {rf : Nat → Nat → Int32} {rv : Nat → Int32} {v0 : Nat → Int32} {f0 : Nat → Nat → Int32} {n0 : DD} {P0 : Nat → DD} {v1 : Nat → Int32} {f1 : Nat → Nat → Int32} {n1 : DD} {P1 : Nat → DD} {mv : Nat → Int32} {ma : Int64} {mb : Int64} {w : Nat → Int32} {tx : Nat → Int32} {fr : Nat → Int32} (hR : RelX x v f n P kf tf v0 f0 n0 P0 v1 f1 n1 P1 mv ma mb w tx) (c1 : Int32) (c2 : Int32) : ∃ (r7 : Int32 × Int32 × Int32 × Int32 × (Nat → Int32) × (Nat → Int32)) (r8 : Int32 × Int32 × (Nat → Int32)), p_X7_clash (x 3) (v 0) (v 1) (f 0) (f 1) (f 2) (f 3) n.2.2.2.2.2.2.2.2 n.2.2.2.2.2.1 (rv 0) (rv 1) (rf 0) (rf 3) c1 c2 = some r7 ∧ p_X8_clash (mv 2) w fr c1 c2 = some r8 ∧ r7.1 = r8.1 ∧ RelX (va_up x 3 r7.2.1) v f n P kf tf v0 f0 n0 P0 v1 f1 n1 P1 (va_up mv 2 r8.2.1) ma mb w tx := by
  refine RX_al hR ?_
  have hb := hR.2.2.1
  obtain ⟨np, nc, hnp, hnc, e0, w418, e1, w422, hP, hD⟩ := RC_get hR.1
  simp only [p_X7_clash, p_X8_clash, e0, e1, hb, p0_hasCrow (n := nc) (by omega), p8_isCrow w422 (by omega), z_bd_some, p_X7_refuseList, p_X8_badTen, z_lt, w418]
  cases hc : z_in c1 nc
  · simp only [b2_f0, if_true]; exact Al_s ⟨rfl, rfl⟩
  simp only [b2_t0, if_false]
  by_cases hk : (-1 : Int32) ≤ c2
  case neg => simp only [if_neg hk]; exact Al_s ⟨rfl, rfl⟩
  simp only [if_pos hk]
  obtain ⟨c, hc', rfl⟩ := (z_in_iff (by omega)).mp hc
  obtain ⟨F, hF⟩ := mo_F hnp hnc hP hD hc'
  obtain ⟨e7, m7, hE7⟩ := mo_measure hnp hF (rv 0) (rv 1) (rf 0)
  obtain ⟨e8, m8, hE8⟩ := mo_layFars hnp w418 hF fr
  simp only [m7, m8, z_bd_some, p_X5_findClashes, z_bd_bd]
  have hF6 : ∀ a b, a < np → b < np → F a b ≤ 600 := fun a b ha hb => (hF a b ha hb).1
  refine Al_bd (fun e g => ∃ m : Nat, m ≤ 49 ∧ e.1 = nI m ∧ g.1 = nI m ∧ FA c2 m e.2 g.2) (Al_lp np (fun i s t => s.1 = nI i ∧ t.1 = nI i ∧ ∃ m : Nat, m ≤ 7 * i ∧ s.2.1 = nI m ∧ t.2.2 = nI m ∧ FA c2 m s.2.2 t.2.1) _ ?_ ?_ _ _ ⟨rfl, rfl, 0, by omega, rfl, rfl, FA_0 _ _⟩) ?_
  · rintro i ⟨s1, s2, s3⟩ ⟨t1, t2, t3⟩ hi ⟨g1, g2, m, hm, g3, g4, hfa⟩
    simp only at g1 g2 g3 g4 hfa
    subst g1 g2 g3 g4
    simp (disch := omega) only [nI_leI, if_neg]
    refine Al_bd (fun e g => ∃ m : Nat, m ≤ 7 * (i + 1) ∧ e.1 = nI m ∧ g.1 = nI m ∧ FA c2 m e.2 g.2) (Al_lp np (fun j s t => s.1 = nI j ∧ t.1 = nI j ∧ ∃ m : Nat, m ≤ 7 * i + j ∧ s.2.1 = nI m ∧ t.2.1 = nI m ∧ FA c2 m s.2.2 t.2.2) _ ?_ ?_ _ _ ⟨rfl, rfl, m, by omega, rfl, rfl, hfa⟩) ?_
    · rintro j ⟨s1, s2, s3⟩ ⟨t1, t2, t3⟩ hj ⟨g1, g2, m, hm, g3, g4, hfa⟩
      simp only at g1 g2 g3 g4 hfa
      subst g1 g2 g3 g4
      simp (disch := omega) only [nI_leI, if_neg, nI_eq, nI_1, z_lt]
      by_cases q : i = j
      · simp only [if_pos q, z_bd_some]
        exact Lp2_l ⟨rfl, rfl, m, by omega, rfl, rfl, hfa⟩
      simp only [if_neg q, mo_shortcut hnp hF6 hE7 hi hj, mo_doesClash hnp w418 hF6 hE8 hi hj, z_bd_some]
      cases hd : dCl F i j np
      · simp only [b2_f0, if_true, z_bd_some]
        exact Lp2_l ⟨rfl, rfl, m, by omega, rfl, rfl, hfa⟩
      · simp only [b2_t0, if_false, mo_addFound (show m < 49 by omega), z_bd_some, z_bd_ite]
        exact Lp2_l ⟨rfl, rfl, m + 1, by omega, rfl, rfl, FA_add (by omega) hfa _⟩
    · rintro ⟨s1, s2, s3⟩ ⟨t1, t2, t3⟩ ⟨g1, g2, m, hm, g3, g4, hfa⟩
      simp only at g1 g2 g3 g4 hfa
      subst g1 g2 g3 g4
      simp (disch := omega) only [nI_leI, if_pos]
      exact Lp2_r ⟨m, by omega, rfl, rfl, hfa⟩
    · rintro ⟨s2, s3⟩ ⟨t2, t3⟩ ⟨m, hm, g3, g4, hfa⟩
      simp only at g3 g4 hfa
      subst g3 g4
      simp only [nI_1]
      exact Lp2_l ⟨rfl, rfl, m, hm, rfl, rfl, hfa⟩
  · rintro ⟨s1, s2, s3⟩ ⟨t1, t2, t3⟩ ⟨g1, g2, m, hm, g3, g4, hfa⟩
    simp only at g1 g2 g3 g4 hfa
    subst g1 g2 g3 g4
    simp (disch := omega) only [nI_leI, if_pos]
    exact Lp2_r ⟨m, by omega, rfl, rfl, hfa⟩
  · rintro ⟨s2, s3⟩ ⟨t2, t3⟩ ⟨m, hm, g3, g4, hfa⟩
    simp only at g3 g4 hfa
    subst g3 g4
    simp only [z_bd_some, FA_ans hm hk hfa, z_bd_ite]
    exact Al_s ⟨rfl, rfl⟩
/-- what the surveyor and the owner get -/
def sv (F : Nat → Nat → Nat) (st a b : Nat) : Int32 := nI (F st a) / 10 - (if a = b then 6 else 0)
def ow (F : Nat → Nat → Nat) (st a b : Nat) : Int32 := (if a = b then 5 else 0) - nI (F st b) / 10
theorem mo_sv7 {e : Nat → Int32} {np st a b : Nat} {F : Nat → Nat → Nat} (hnp : np ≤ 7) (hE : FM np F e) (hs : st < np) (ha : a < np) (hb : b < np) : p_X5_surveyorGets e (nI st) (nI a) (nI b) = some (sv F st a b) := by
  have x1 : e (st * 7 + a) = nI (F st a) := by rw [Nat.mul_comm]; exact hE st a hs ha
  unfold p_X5_surveyorGets sv
  simp (disch := omega) only [z_lt, li_7, pk_mul, nI_add, z_in_n, z_gd_tt, nI_clamp, nI_eq, z_bd_ite, x1]
theorem mo_ow7 {e : Nat → Int32} {np st a b : Nat} {F : Nat → Nat → Nat} (hnp : np ≤ 7) (hE : FM np F e) (hs : st < np) (ha : a < np) (hb : b < np) : p_X5_ownerGets e (nI st) (nI a) (nI b) = some (ow F st a b) := by
  have x1 : e (st * 7 + b) = nI (F st b) := by rw [Nat.mul_comm]; exact hE st b hs hb
  unfold p_X5_ownerGets ow
  simp (disch := omega) only [z_lt, li_7, pk_mul, nI_add, z_in_n, z_gd_tt, nI_clamp, nI_eq, z_bd_ite, x1]
theorem mo_sv8 {w : Nat → Int32} {np c st a b : Nat} {F : Nat → Nat → Nat} (hnp : np ≤ 7) (hc : c < 3) (wc : w c = nI st) (hF : ∀ a b, a < np → b < np → p_X8_farNow w (nI c) (nI a) (nI b) = some (nI (F a b))) (hs : st < np) (ha : a < np) (hb : b < np) : p_X8_surveyorGets w (nI c) (nI a) (nI b) = some (sv F st a b) := by
  unfold p_X8_surveyorGets sv
  simp (disch := omega) only [z_lt, z_in_n, z_gd_tt, nI_clamp, wc, hF st a hs ha, z_bd_some, nI_eq, z_bd_ite]
theorem mo_ow8 {w : Nat → Int32} {np c st a b : Nat} {F : Nat → Nat → Nat} (hnp : np ≤ 7) (hc : c < 3) (wc : w c = nI st) (hF : ∀ a b, a < np → b < np → p_X8_farNow w (nI c) (nI a) (nI b) = some (nI (F a b))) (hs : st < np) (ha : a < np) (hb : b < np) : p_X8_ownerGets w (nI c) (nI a) (nI b) = some (ow F st a b) := by
  unfold p_X8_ownerGets ow
  simp (disch := omega) only [z_lt, z_in_n, z_gd_tt, nI_clamp, wc, hF st b hs hb, z_bd_some, nI_eq, z_bd_ite]
def dRs (F : Nat → Nat → Nat) (st i j : Nat) : Nat → Bool
  | 0 => true
  | k + 1 => dRs F st i j k && (decide (k = st) || (decide (ow F st i k ≤ ow F st i j) && decide (sv F st k j ≤ sv F st i j)))
theorem dRs_up {F : Nat → Nat → Nat} {st i j c : Nat} (h : dRs F st i j c = false) : ∀ k, dRs F st i j (c + k) = false := by
  intro k
  induction k with
  | zero => exact h
  | succ k ih =>
    show (dRs F st i j (c + k) && _) = false
    rw [ih, Bool.false_and]
theorem mo_isResting {e : Nat → Int32} {np st i j : Nat} {F : Nat → Nat → Nat} (hnp : np ≤ 7) (hE : FM np F e) (hs : st < np) (hi : i < np) (hj : j < np) : p_X5_isResting (nI np) e (nI st) (nI i) (nI j) = some (b2 (dRs F st i j np)) := by
  unfold p_X5_isResting
  have h : Ha (z_lp (S := Int32) (E := (Unit) ⊕ (Int32)) (fun s1 =>
    if (nI np ≤ s1) then
    (some (.inr (.inl ()))) else
    (if (s1 = nI st) then
    (z_lt (s1 + (1 : Int32)) fun x7 =>
    some (.inl x7)) else
    (z_bd (p_X5_surveyorGets e (nI st) s1 (nI j)) fun r8 =>
    z_bd (p_X5_surveyorGets e (nI st) (nI i) (nI j)) fun r10 =>
    if (r10 < r8) then
    (some (.inr (.inr (0 : Int32)))) else
    (z_bd (p_X5_ownerGets e (nI st) (nI i) s1) fun r13 =>
    z_bd (p_X5_ownerGets e (nI st) (nI i) (nI j)) fun r15 =>
    if (r13 ≤ r15) then
    (z_lt (s1 + (1 : Int32)) fun x18 =>
    some (.inl x18)) else
    (some (.inr (.inr (0 : Int32)))))))) (0 : Int32)) (fun r => (r = .inl () ∧ dRs F st i j np = true) ∨ (r = .inr 0 ∧ dRs F st i j np = false)) := by
    refine Ha_lp np (fun k s => s = nI k ∧ dRs F st i j k = true) _ ?_ ?_ _ ⟨rfl, rfl⟩
    · rintro k s hk ⟨rfl, hd⟩
      have fin : dRs F st i j (k + 1) = false → dRs F st i j np = false := by
        intro h1
        have h2 := dRs_up h1 (np - (k + 1))
        rwa [show k + 1 + (np - (k + 1)) = np by omega] at h2
      simp (disch := omega) only [nI_leI, if_neg, nI_eq, nI_1, z_lt]
      by_cases q1 : k = st
      · simp only [if_pos q1]
        exact Lp1_l ⟨rfl, by show (dRs F st i j k && _) = true; rw [hd, decide_eq_true q1]; rfl⟩
      simp only [if_neg q1, mo_sv7 hnp hE hs hk hj, mo_sv7 hnp hE hs hi hj, mo_ow7 hnp hE hs hi hk, mo_ow7 hnp hE hs hi hj, z_bd_some]
      by_cases q2 : sv F st i j < sv F st k j
      · simp only [if_pos q2]
        refine Lp1_r (Or.inr ⟨rfl, fin ?_⟩)
        show (dRs F st i j k && (decide (k = st) || (decide (ow F st i k ≤ ow F st i j) && decide (sv F st k j ≤ sv F st i j)))) = false
        rw [decide_eq_false q1, decide_eq_false (Int32.not_le.mpr q2), Bool.and_false]; exact Bool.and_false _
      by_cases q3 : ow F st i k ≤ ow F st i j
      · simp only [if_neg q2, if_pos q3]
        refine Lp1_l ⟨rfl, ?_⟩
        show (dRs F st i j k && (decide (k = st) || (decide (ow F st i k ≤ ow F st i j) && decide (sv F st k j ≤ sv F st i j)))) = true
        rw [hd, decide_eq_true q3, decide_eq_true (Int32.not_lt.mp q2)]; exact Bool.or_true _
      · simp only [if_neg q2, if_neg q3]
        refine Lp1_r (Or.inr ⟨rfl, fin ?_⟩)
        show (dRs F st i j k && (decide (k = st) || (decide (ow F st i k ≤ ow F st i j) && decide (sv F st k j ≤ sv F st i j)))) = false
        rw [decide_eq_false q1, decide_eq_false q3, Bool.false_and]; exact Bool.and_false _
    · rintro s ⟨rfl, hd⟩
      simp (disch := omega) only [nI_leI, if_pos]
      exact Lp1_r (Or.inl ⟨rfl, hd⟩)
  obtain ⟨r, h1, h2⟩ := h
  rw [z_bd_s h1]
  rcases h2 with ⟨rfl, hd⟩ | ⟨rfl, hd⟩
  · rw [hd]; rfl
  · rw [hd]; rfl
theorem mo_rest8 {w : Nat → Int32} {np c st i j : Nat} {F : Nat → Nat → Nat} (hnp : np ≤ 7) (w418 : w 418 = nI np) (hc : c < 3) (wc : w c = nI st) (hF : ∀ a b, a < np → b < np → p_X8_farNow w (nI c) (nI a) (nI b) = some (nI (F a b))) (hs : st < np) (hi : i < np) (hj : j < np) : p_X8_rest w (nI c) (nI i) (nI j) = some (b2 (decide (i ≠ st) && (decide (j ≠ st) && dRs F st i j np))) := by
  have loop : ∀ q : Bool, z_lp (S := Int32 × Int32) (E := Int32) (fun s3 =>
    if (nI np ≤ s3.1) then
    (some (.inr s3.2)) else
    (if (s3.2 = 0) then
    (some (.inr s3.2)) else
    (z_bd (α := Int32) (if (s3.1 = nI st) then
    (some s3.2) else
    (z_bd (p_X8_ownerGets w (nI c) (nI i) s3.1) fun r13 =>
    z_bd (p_X8_ownerGets w (nI c) (nI i) (nI j)) fun r15 =>
    z_bd (α := Int32) (if (r15 < r13) then
    (some (0 : Int32)) else
    (z_bd (p_X8_surveyorGets w (nI c) s3.1 (nI j)) fun r19 =>
    z_bd (p_X8_surveyorGets w (nI c) (nI i) (nI j)) fun r21 =>
    if (r21 < r19) then
    (some (0 : Int32)) else
    (some (1 : Int32)))) fun j17 =>
    some j17)) fun j10 =>
    some (.inl (s3.1 + (1 : Int32), j10))))) ((0 : Int32), b2 q) = some (b2 (q && dRs F st i j np)) := by
    intro q
    refine Ha_e ?_
    cases q
    · refine ⟨(0 : Int32), z_lp_end ?_, rfl⟩
      by_cases h : nI np ≤ (0 : Int32)
      · simp only [if_pos h]; rfl
      · simp only [if_neg h, b2_f0, if_true]; rfl
    refine Ha_lp np (fun k s => s = (nI k, b2 (dRs F st i j k))) _ ?_ ?_ _ rfl
    · rintro k _ hk rfl
      have fin : dRs F st i j k = false → dRs F st i j np = false := by
        intro h1
        have h2 := dRs_up h1 (np - k)
        rwa [show k + (np - k) = np by omega] at h2
      simp (disch := omega) only [nI_leI, if_neg, nI_eq, nI_1]
      cases hd : dRs F st i j k
      · simp only [b2_f0, if_true]
        exact Lp1_r (by rw [fin hd]; rfl)
      simp only [b2_t0, if_false]
      by_cases q1 : k = st
      · simp only [if_pos q1, z_bd_some]
        exact Lp1_l (by show _ = (nI (k + 1), b2 (dRs F st i j k && (decide (k = st) || _))); rw [hd, decide_eq_true q1]; rfl)
      simp only [if_neg q1, mo_sv8 hnp hc wc hF hs hk hj, mo_sv8 hnp hc wc hF hs hi hj, mo_ow8 hnp hc wc hF hs hi hk, mo_ow8 hnp hc wc hF hs hi hj, z_bd_some]
      by_cases q3 : ow F st i j < ow F st i k
      · simp only [if_pos q3, z_bd_some]
        refine Lp1_l ?_
        show _ = (nI (k + 1), b2 (dRs F st i j k && (decide (k = st) || (decide (ow F st i k ≤ ow F st i j) && decide (sv F st k j ≤ sv F st i j)))))
        rw [hd, decide_eq_false q1, decide_eq_false (Int32.not_le.mpr q3), Bool.false_and]; rfl
      by_cases q2 : sv F st i j < sv F st k j
      · simp only [if_neg q3, if_pos q2, z_bd_some]
        refine Lp1_l ?_
        show _ = (nI (k + 1), b2 (dRs F st i j k && (decide (k = st) || (decide (ow F st i k ≤ ow F st i j) && decide (sv F st k j ≤ sv F st i j)))))
        rw [hd, decide_eq_false q1, decide_eq_false (Int32.not_le.mpr q2), Bool.and_false]; rfl
      · simp only [if_neg q3, if_neg q2, z_bd_some]
        refine Lp1_l ?_
        show _ = (nI (k + 1), b2 (dRs F st i j k && (decide (k = st) || (decide (ow F st i k ≤ ow F st i j) && decide (sv F st k j ≤ sv F st i j)))))
        rw [hd, decide_eq_false q1, decide_eq_true (Int32.not_lt.mp q3), decide_eq_true (Int32.not_lt.mp q2)]; rfl
    · rintro _ rfl
      simp (disch := omega) only [nI_leI, if_pos]
      exact Lp1_r rfl
  unfold p_X8_rest
  simp (disch := omega) only [w418, z_in_n, z_gd_tt, nI_clamp, wc, nI_eq, z_lt]
  by_cases q1 : i = st
  · simp only [if_pos q1, z_bd_some, decide_eq_false (show ¬ i ≠ st by omega), Bool.false_and]
    refine (z_bd_s (v := b2 false) (loop false)).trans ?_
    rfl
  by_cases q2 : j = st
  · simp only [if_neg q1, if_pos q2, z_bd_some, decide_eq_true (show i ≠ st by omega), decide_eq_false (show ¬ j ≠ st by omega), Bool.false_and, Bool.and_false]
    refine (z_bd_s (v := b2 false) (loop false)).trans ?_
    rfl
  · simp only [if_neg q1, if_neg q2, z_bd_some, decide_eq_true (show i ≠ st by omega), decide_eq_true (show j ≠ st by omega), Bool.true_and]
    refine (z_bd_s (v := b2 (dRs F st i j np)) (loop true)).trans ?_
    rw [b2_bz, z_gd_tt]
theorem q_27 {x : Nat → Int32} {v : Nat → Int32} {f : Nat → Nat → Int32} {n : DD} {P : Nat → DD} {kf : Nat → Int32} {tf : Nat → Int32} {rf : Nat → Nat → Int32} {rv : Nat → Int32} {v0 : Nat → Int32} {f0 : Nat → Nat → Int32} {n0 : DD} {P0 : Nat → DD} {v1 : Nat → Int32} {f1 : Nat → Nat → Int32} {n1 : DD} {P1 : Nat → DD} {mv : Nat → Int32} {ma : Int64} {mb : Int64} {w : Nat → Int32} {tx : Nat → Int32} (hR : RelX x v f n P kf tf v0 f0 n0 P0 v1 f1 n1 P1 mv ma mb w tx) (c1 : Int32) (c2 : Int32) : ∃ (r7 : Int32 × Int32 × Int32 × Int32 × (Nat → Int32) × (Nat → Int32)) (r8 : Int32 × Int32), p_X7_owner (x 3) (v 0) (v 1) (f 0) (f 1) (f 2) (f 3) n.2.2.2.2.2.2.2.2 n.2.2.2.2.1 n.2.2.2.2.2.1 (rv 0) (rv 1) (rf 0) (rf 3) c1 c2 = some r7 ∧ p_X8_owner (mv 2) w c1 c2 = some r8 ∧ r7.1 = r8.1 ∧ RelX (va_up x 3 r7.2.1) v f n P kf tf v0 f0 n0 P0 v1 f1 n1 P1 (va_up mv 2 r8.2) ma mb w tx := by
  refine RX_al2 hR ?_
  have hb := hR.2.2.1
  obtain ⟨np, nc, hnp, hnc, e0, w418, e1, w422, hP, hD⟩ := RC_get hR.1
  simp only [p_X7_owner, p_X8_owner, e0, e1, hb, p0_hasCrow (n := nc) (by omega), p8_isCrow w422 (by omega), z_bd_some, p_X7_refuseList, p_X8_badTen, z_lt, w418]
  cases hc : z_in c1 nc
  · simp only [b2_f0, if_true]; exact Al_s ⟨rfl, rfl⟩
  simp only [b2_t0, if_false]
  by_cases hk : (-1 : Int32) ≤ c2
  case neg => simp only [if_neg hk]; exact Al_s ⟨rfl, rfl⟩
  simp only [if_pos hk]
  obtain ⟨c, hc', rfl⟩ := (z_in_iff (by omega)).mp hc
  obtain ⟨F, hF⟩ := mo_F hnp hnc hP hD hc'
  obtain ⟨e7, m7, hE7⟩ := mo_measure hnp hF (rv 0) (rv 1) (rf 0)
  obtain ⟨nd, h, hnd, hh, d7, w7, d6, w6, hat, -⟩ := hD
  obtain ⟨st, tt, hst, htt, g3, g4, g5, g6⟩ := hat c hc'
  rw [Nat.zero_add] at g4
  have i3 : z_in (nI c) 3 = true := z_in_n (by omega) (by decide)
  simp only [m7, z_bd_some, p_X5_findRestingPairs, z_bd_bd, i3, z_gd_tt, nI_clamp (show c < 2 ^ 31 by omega), g3]
  have hF8 : ∀ a b, a < np → b < np → p_X8_farNow w (nI c) (nI a) (nI b) = some (nI (F a b)) := fun a b ha hb => (hF a b ha hb).2.2
  refine Al_bd (fun e g => ∃ m : Nat, m ≤ 49 ∧ e.1 = nI m ∧ g.1 = nI m ∧ FA c2 m e.2 g.2) (Al_lp np (fun i s t => s.1 = nI i ∧ t.1 = nI i ∧ ∃ m : Nat, m ≤ 7 * i ∧ s.2.1 = nI m ∧ t.2.2 = nI m ∧ FA c2 m s.2.2 t.2.1) _ ?_ ?_ _ _ ⟨rfl, rfl, 0, by omega, rfl, rfl, FA_0 _ _⟩) ?_
  · rintro i ⟨s1, s2, s3⟩ ⟨t1, t2, t3⟩ hi ⟨g1, g2, m, hm, g3, g4, hfa⟩
    simp only at g1 g2 g3 g4 hfa
    subst g1 g2 g3 g4
    simp (disch := omega) only [nI_leI, if_neg]
    refine Al_bd (fun e g => ∃ m : Nat, m ≤ 7 * (i + 1) ∧ e.1 = nI m ∧ g.1 = nI m ∧ FA c2 m e.2 g.2) (Al_lp np (fun j s t => s.1 = nI j ∧ t.1 = nI j ∧ ∃ m : Nat, m ≤ 7 * i + j ∧ s.2.1 = nI m ∧ t.2.1 = nI m ∧ FA c2 m s.2.2 t.2.2) _ ?_ ?_ _ _ ⟨rfl, rfl, m, by omega, rfl, rfl, hfa⟩) ?_
    · rintro j ⟨s1, s2, s3⟩ ⟨t1, t2, t3⟩ hj ⟨g1, g2, m, hm, g3, g4', hfa⟩
      simp only at g1 g2 g3 g4' hfa
      subst g1 g2 g3 g4'
      simp (disch := omega) only [nI_leI, if_neg, nI_eq, nI_1, z_lt, mo_rest8 hnp w418 (show c < 3 by omega) g4 hF8 hst hi hj, z_bd_some]
      by_cases q1 : i = st
      · simp only [if_pos q1, z_bd_some, decide_eq_false (show ¬ i ≠ st by omega), Bool.false_and, b2_f0, if_true]
        exact Lp2_l ⟨rfl, rfl, m, by omega, rfl, rfl, hfa⟩
      by_cases q2 : j = st
      · simp only [if_neg q1, if_pos q2, z_bd_some, decide_eq_true (show i ≠ st by omega), decide_eq_false (show ¬ j ≠ st by omega), Bool.false_and, Bool.and_false, b2_f0, if_true]
        exact Lp2_l ⟨rfl, rfl, m, by omega, rfl, rfl, hfa⟩
      simp only [if_neg q1, if_neg q2, decide_eq_true (show i ≠ st by omega), decide_eq_true (show j ≠ st by omega), Bool.true_and, mo_isResting hnp hE7 hst hi hj, z_bd_some]
      cases hd : dRs F st i j np
      · simp only [b2_f0, if_true, z_bd_some]
        exact Lp2_l ⟨rfl, rfl, m, by omega, rfl, rfl, hfa⟩
      · simp only [b2_t0, if_false, mo_addFound (show m < 49 by omega), z_bd_some, z_bd_ite]
        exact Lp2_l ⟨rfl, rfl, m + 1, by omega, rfl, rfl, FA_add (by omega) hfa _⟩
    · rintro ⟨s1, s2, s3⟩ ⟨t1, t2, t3⟩ ⟨g1, g2, m, hm, g3, g4, hfa⟩
      simp only at g1 g2 g3 g4 hfa
      subst g1 g2 g3 g4
      simp (disch := omega) only [nI_leI, if_pos]
      exact Lp2_r ⟨m, by omega, rfl, rfl, hfa⟩
    · rintro ⟨s2, s3⟩ ⟨t2, t3⟩ ⟨m, hm, g3, g4, hfa⟩
      simp only at g3 g4 hfa
      subst g3 g4
      simp only [nI_1]
      exact Lp2_l ⟨rfl, rfl, m, hm, rfl, rfl, hfa⟩
  · rintro ⟨s1, s2, s3⟩ ⟨t1, t2, t3⟩ ⟨g1, g2, m, hm, g3, g4, hfa⟩
    simp only at g1 g2 g3 g4 hfa
    subst g1 g2 g3 g4
    simp (disch := omega) only [nI_leI, if_pos]
    exact Lp2_r ⟨m, by omega, rfl, rfl, hfa⟩
  · rintro ⟨s2, s3⟩ ⟨t2, t3⟩ ⟨m, hm, g3, g4, hfa⟩
    simp only at g3 g4 hfa
    subst g3 g4
    simp only [z_bd_some, FA_ans hm hk hfa, z_bd_ite]
    exact Al_s ⟨rfl, rfl⟩
