/-! look and ask: the question that parts best. -/
def cn (m : Nat) (F : Nat → Int32) (i : Nat) : Nat → Nat
  | 0 => 0
  | j + 1 => cn m F i j + (if (m.testBit i && (m.testBit j && decide (F i = F j))) = true then 1 else 0)
def al (m : Nat) (F : Nat → Int32) : Nat → Nat
  | 0 => 0
  | i + 1 => max (al m F i) (cn m F i 6)
theorem cn_le (m : Nat) (F : Nat → Int32) (i : Nat) : ∀ j, cn m F i j ≤ j := by
  intro j
  induction j with
  | zero => exact Nat.le_refl 0
  | succ j ih =>
    show cn m F i j + (if _ then 1 else 0) ≤ j + 1
    by_cases h : (m.testBit i && (m.testBit j && decide (F i = F j))) = true
    · rw [if_pos h]; omega
    · rw [if_neg h]; omega
theorem cn_mo (m : Nat) (F : Nat → Int32) (i j : Nat) : ∀ k, cn m F i j ≤ cn m F i (j + k) := by
  intro k
  induction k with
  | zero => exact Nat.le_refl _
  | succ k ih => exact Nat.le_trans ih (Nat.le_add_right _ _)
theorem cn_1 {m : Nat} {F : Nat → Int32} {i : Nat} (hi : i < 6) (h : m.testBit i = true) : 1 ≤ cn m F i 6 := by
  have h1 : 1 ≤ cn m F i (i + 1) := by
    show 1 ≤ cn m F i i + (if _ then 1 else 0)
    rw [if_pos (by rw [h, decide_eq_true rfl]; rfl)]
    omega
  have h2 := cn_mo m F i (i + 1) (6 - (i + 1))
  rw [show i + 1 + (6 - (i + 1)) = 6 by omega] at h2
  omega
theorem al_le (m : Nat) (F : Nat → Int32) : ∀ i, al m F i ≤ 6 := by
  intro i
  induction i with
  | zero => exact Nat.zero_le 6
  | succ i ih =>
    show max (al m F i) (cn m F i 6) ≤ 6
    have := cn_le m F i 6
    omega
theorem al_mo (m : Nat) (F : Nat → Int32) (i : Nat) : ∀ k, al m F i ≤ al m F (i + k) := by
  intro k
  induction k with
  | zero => exact Nat.le_refl _
  | succ k ih => exact Nat.le_trans ih (Nat.le_max_left _ _)
theorem al_1 {m : Nat} {F : Nat → Int32} (hm : m < 64) (h0 : m ≠ 0) : 1 ≤ al m F 6 := by
  obtain ⟨i, hi⟩ := zb_nz ⟨m, hm⟩ h0
  have h1 : 1 ≤ al m F (i.1 + 1) := Nat.le_trans (cn_1 (F := F) i.2 hi) (Nat.le_max_right _ _)
  have h2 := al_mo m F (i.1 + 1) (6 - (i.1 + 1))
  have := i.2
  rw [show i.1 + 1 + (6 - (i.1 + 1)) = 6 by omega] at h2
  omega
theorem cn_c {m : Nat} {F G : Nat → Int32} (h : ∀ k, k < 6 → F k = G k) {i : Nat} (hi : i < 6) : ∀ j, j ≤ 6 → cn m F i j = cn m G i j := by
  intro j
  induction j with
  | zero => intro _; rfl
  | succ j ih =>
    intro hj
    show cn m F i j + _ = cn m G i j + _
    rw [ih (by omega), h i hi, h j (by omega)]
theorem al_c {m : Nat} {F G : Nat → Int32} (h : ∀ k, k < 6 → F k = G k) : ∀ i, i ≤ 6 → al m F i = al m G i := by
  intro i
  induction i with
  | zero => intro _; rfl
  | succ i ih =>
    intro hi
    show max (al m F i) (cn m F i 6) = max (al m G i) (cn m G i 6)
    rw [ih (by omega), cn_c h (by omega) 6 (by omega)]
theorem mo_most7 {m : Nat} (hm : m < 64) (F : Nat → Int32) : p_X3_mostAlike F (nI m) = some (nI (al m F 6)) := by
  refine Ha_e ?_
  unfold p_X3_mostAlike
  refine Ha_bd (fun r => r = nI (al m F 6)) (Ha_lp 6 (fun i s => s = (nI i, nI (al m F i))) _ ?_ ?_ _ rfl) (fun r hr => Ha_s hr)
  · rintro i _ hi rfl
    simp (disch := omega) only [li_6, nI_leI, if_neg]
    refine Ha_bd (fun r => r = nI (cn m F i 6)) (Ha_lp 6 (fun j s => s = (nI j, nI (cn m F i j))) _ ?_ ?_ _ rfl) ?_
    · rintro j _ hj rfl
      have ti := zb_t ⟨m, hm⟩ ⟨i, hi⟩
      have tj := zb_t ⟨m, hm⟩ ⟨j, hj⟩
      simp only at ti tj
      simp (disch := omega) only [nI_leI, if_neg, z_in_n, z_gd_tt, nI_clamp, z_lt_n, nI_1]
      cases bi : m.testBit i
      · rw [bi] at ti
        rw [if_pos (of_decide_eq_true ti), z_bd_some]
        exact Lp1_l (by show _ = (_, nI (cn m F i j + (if (m.testBit i && _) = true then 1 else 0))); rw [bi]; rfl)
      · rw [bi] at ti
        rw [if_neg (of_decide_eq_false ti)]
        cases bj : m.testBit j
        · rw [bj] at tj
          rw [if_pos (of_decide_eq_true tj), z_bd_some]
          exact Lp1_l (by show _ = (_, nI (cn m F i j + (if (m.testBit i && (m.testBit j && _)) = true then 1 else 0))); rw [bi, bj]; rfl)
        · rw [bj] at tj
          rw [if_neg (of_decide_eq_false tj)]
          by_cases q : F i = F j
          · rw [if_pos q, z_bd_some]
            exact Lp1_l (by show _ = (_, nI (cn m F i j + (if (m.testBit i && (m.testBit j && decide (F i = F j))) = true then 1 else 0))); rw [bi, bj, decide_eq_true q]; rfl)
          · rw [if_neg q, z_bd_some]
            exact Lp1_l (by show _ = (_, nI (cn m F i j + (if (m.testBit i && (m.testBit j && decide (F i = F j))) = true then 1 else 0))); rw [bi, bj, decide_eq_false q]; rfl)
    · rintro _ rfl
      simp (disch := omega) only [nI_leI, if_pos]
      exact Lp1_r rfl
    · rintro _ rfl
      have b1 := al_le m F i
      have b2' := cn_le m F i 6
      simp (disch := omega) only [z_lt_n, nI_ltI, nI_1]
      refine Lp1_l ?_
      show _ = (_, nI (max (al m F i) (cn m F i 6)))
      by_cases q : al m F i < cn m F i 6
      · rw [if_pos q, Nat.max_eq_right (by omega)]
      · rw [if_neg q, Nat.max_eq_left (by omega)]
  · rintro _ rfl
    simp (disch := omega) only [li_6, nI_leI, if_pos]
    exact Lp1_r rfl
theorem mo_most8 {m : Nat} (hm : m < 64) (F : Nat → Int32) : p_X8_greatestPart F (nI m) = some (nI (al m F 6)) := by
  refine Ha_e ?_
  unfold p_X8_greatestPart
  refine Ha_bd (fun r => r = nI (al m F 6)) (Ha_lp 6 (fun i s => s = (nI i, nI (al m F i))) _ ?_ ?_ _ rfl) (fun r hr => Ha_s hr)
  · rintro i _ hi rfl
    simp (disch := omega) only [li_6, nI_leI, if_neg]
    refine Ha_bd (fun r => r = nI (cn m F i 6)) (Ha_lp 6 (fun j s => s = (nI j, nI (cn m F i j))) _ ?_ ?_ _ rfl) ?_
    · rintro j _ hj rfl
      have ti := zb_has ⟨m, hm⟩ ⟨i, hi⟩
      have tj := zb_has ⟨m, hm⟩ ⟨j, hj⟩
      simp only at ti tj
      simp (disch := omega) only [nI_leI, if_neg, z_in_n, z_gd_tt, nI_clamp, z_lt_n, nI_1, ti, tj, z_bd_some]
      cases bi : m.testBit i
      · simp only [b2_f0, if_true, z_bd_some]
        exact Lp1_l (by show _ = (_, nI (cn m F i j + (if (m.testBit i && _) = true then 1 else 0))); rw [bi]; exact congrArg (Prod.mk _) (nI_add _ 0))
      · simp only [b2_t0, if_false]
        cases bj : m.testBit j
        · simp only [b2_f0, if_true, z_bd_some]
          exact Lp1_l (by show _ = (_, nI (cn m F i j + (if (m.testBit i && (m.testBit j && _)) = true then 1 else 0))); rw [bi, bj]; exact congrArg (Prod.mk _) (nI_add _ 0))
        · simp only [b2_t0, if_false]
          by_cases q : F i = F j
          · rw [if_pos q, z_bd_some]
            exact Lp1_l (by show _ = (_, nI (cn m F i j + (if (m.testBit i && (m.testBit j && decide (F i = F j))) = true then 1 else 0))); rw [bi, bj, decide_eq_true q]; exact congrArg (Prod.mk _) (nI_add _ 1))
          · rw [if_neg q, z_bd_some]
            exact Lp1_l (by show _ = (_, nI (cn m F i j + (if (m.testBit i && (m.testBit j && decide (F i = F j))) = true then 1 else 0))); rw [bi, bj, decide_eq_false q]; exact congrArg (Prod.mk _) (nI_add _ 0))
    · rintro _ rfl
      simp (disch := omega) only [nI_leI, if_pos]
      exact Lp1_r rfl
    · rintro _ rfl
      have b1 := al_le m F i
      have b2' := cn_le m F i 6
      simp (disch := omega) only [z_lt_n, nI_leI, nI_1, z_bd_ite]
      refine Lp1_l ?_
      show _ = (_, nI (max (al m F i) (cn m F i 6)))
      by_cases q : cn m F i 6 ≤ al m F i
      · rw [if_pos q, Nat.max_eq_left (by omega)]
      · rw [if_neg q, Nat.max_eq_right (by omega)]
  · rintro _ rfl
    simp (disch := omega) only [li_6, nI_leI, if_pos]
    exact Lp1_r rfl
/-- the first of the least, among those that count, below N -/
def BestP (g : Nat → Nat) (M N b fw : Nat) : Prop := b < N ∧ b % 100 ≤ M ∧ g b = fw ∧ (∀ c, c < N → c % 100 ≤ M → fw ≤ g c) ∧ (∀ c, c < b → c % 100 ≤ M → fw < g c)
theorem BestP_u {g : Nat → Nat} {M N b fw b' fw' : Nat} (h : BestP g M N b fw) (h' : BestP g M N b' fw') : b = b' := by
  obtain ⟨h1, h2, h3, h4, h5⟩ := h
  obtain ⟨k1, k2, k3, k4, k5⟩ := h'
  rcases Nat.lt_trichotomy b b' with q | q | q
  · have a1 := k5 b q h2
    have a2 := h4 b' k1 k2
    omega
  · exact q
  · have a1 := h5 b' q k2
    have a2 := k4 b h1 h2
    omega
theorem BestP_ext {g : Nat → Nat} {M N N' b fw : Nat} (h : BestP g M N b fw) (hN : N ≤ N') (hc : ∀ c, N ≤ c → c < N' → c % 100 ≤ M → fw ≤ g c) : BestP g M N' b fw := by
  obtain ⟨h1, h2, h3, h4, h5⟩ := h
  refine ⟨by omega, h2, h3, fun c k1 k2 => ?_, h5⟩
  by_cases q : c < N
  · exact h4 c q k2
  · exact hc c (by omega) k1 k2
theorem BestP_new {g : Nat → Nat} {M N b fw : Nat} (h : BestP g M N b fw) (hv : N % 100 ≤ M) (hg : g N < fw) : BestP g M (N + 1) N (g N) := by
  obtain ⟨h1, h2, h3, h4, h5⟩ := h
  refine ⟨by omega, hv, rfl, fun c k1 k2 => ?_, fun c k1 k2 => ?_⟩
  · by_cases q : c < N
    · have := h4 c q k2; omega
    · have : c = N := by omega
      subst this
      exact Nat.le_refl _
  · have := h4 c k1 k2; omega
theorem BestP_1 (g : Nat → Nat) (M : Nat) : BestP g M 1 0 (g 0) := ⟨by omega, by omega, rfl, fun c k1 _ => by rw [show c = 0 by omega]; exact Nat.le_refl _, fun c k1 => absurd k1 (by omega)⟩
/-- what a question of v at t tells -/
def gQ (m : Nat) (T : Nat → Int32 → Int32 → Int32 → Int32) (n : Int32) (c : Nat) : Nat := al m (fun k => T k (nI (c % 100)) (nI (c / 100)) n) 6
theorem mo_best7 {o n : Int32} {m M : Nat} {T : Nat → Int32 → Int32 → Int32 → Int32} (vals : Nat → Int32) (hm : m < 64) (h0 : m ≠ 0) (hM : M < 99) (hT : ∀ k, k < 6 → ∀ v t n, p_X2_told o (nI k) v t n = some (T k v t n)) : Ha (p_X3_best vals o (nI m) (nI M) n) (fun r => ∃ b fw, r.1 = nI b ∧ BestP (gQ m T n) M 2400 b fw) := by
  have hg1 : ∀ c, 1 ≤ gQ m T n c := fun c => al_1 hm h0
  have hg6 : ∀ c, gQ m T n c ≤ 6 := fun c => al_le _ _ _
  have kz : ¬ nI m = (0 : Int32) := nI_ne (b := 0) (by omega) (by decide) h0
  unfold p_X3_best
  refine Ha_bd (fun e => ∃ b fw, e.1 = nI b ∧ BestP (gQ m T n) M 2400 b fw) (Ha_lp 24 (fun t s => s.1 = nI t ∧ ((t = 0 ∧ s.2.1 = nI 7 ∧ s.2.2.1 = -1) ∨ ∃ b fw, fw ≤ 6 ∧ s.2.1 = nI fw ∧ s.2.2.1 = nI b ∧ BestP (gQ m T n) M (100 * t) b fw)) _ ?_ ?_ _ ⟨rfl, Or.inl ⟨rfl, rfl, rfl⟩⟩) (fun e he => Ha_s he)
  · rintro t ⟨s1, s2, s3, s4⟩ ht ⟨g1, hs⟩
    simp only at g1 hs
    subst g1
    have kt : ¬ (24 : Int32) ≤ nI t := fun q => absurd ((nI_leI (a := 24) (by decide) (by omega)).mp q) (by omega)
    simp only [if_neg kt, if_neg kz]
    have early : s2 ≤ (1 : Int32) → ∃ b fw, s3 = nI b ∧ BestP (gQ m T n) M 2400 b fw := by
      intro hle
      rcases hs with ⟨-, rfl, -⟩ | ⟨b, fw, h6, rfl, rfl, hB⟩
      · exact absurd hle (by decide)
      · have h1 : fw ≤ 1 := (nI_leI (b := 1) (by omega) (by decide)).mp hle
        exact ⟨b, fw, rfl, BestP_ext hB (by omega) (fun c _ _ _ => by have := hg1 c; omega)⟩
    by_cases hle : s2 ≤ (1 : Int32)
    · simp only [if_pos hle]
      exact Lp1_r (early hle)
    simp only [if_neg hle]
    refine Ha_bd (fun e => ∃ b fw, fw ≤ 6 ∧ e.2.1 = nI fw ∧ e.1 = nI b ∧ BestP (gQ m T n) M (100 * (t + 1)) b fw) (Ha_lp (M + 1) (fun v s => s.1 = nI v ∧ ((t = 0 ∧ v = 0 ∧ s.2.2.1 = nI 7 ∧ s.2.1 = -1) ∨ ∃ b fw, fw ≤ 6 ∧ s.2.2.1 = nI fw ∧ s.2.1 = nI b ∧ BestP (gQ m T n) M (100 * t + v) b fw)) _ ?_ ?_ _ ⟨rfl, ?_⟩) ?_
    · rintro v ⟨a1, a2, a3, a4⟩ hv ⟨g1, ha⟩
      simp only at g1 ha
      subst g1
      have kv : ¬ nI M < nI v := fun q => absurd ((nI_ltI (by omega) (by omega)).mp q) (by omega)
      simp only [if_neg kv]
      by_cases hl2 : a3 ≤ (1 : Int32)
      · simp only [if_pos hl2]
        rcases ha with ⟨-, -, rfl, -⟩ | ⟨b, fw, h6, rfl, rfl, hB⟩
        · exact absurd hl2 (by decide)
        · have h1 : fw ≤ 1 := (nI_leI (b := 1) (by omega) (by decide)).mp hl2
          exact Lp1_r ⟨b, fw, h6, rfl, rfl, BestP_ext hB (by omega) (fun c _ _ _ => by have := hg1 c; omega)⟩
      simp only [if_neg hl2]
      refine Ha_bd (fun e => ∀ k, k < 6 → e k = T k (nI v) (nI t) n) (Ha_lp 6 (fun k s => s.1 = nI k ∧ ∀ j, j < k → s.2 j = T j (nI v) (nI t) n) _ ?_ ?_ _ ⟨rfl, fun j hj => absurd hj (by omega)⟩) ?_
      · rintro k ⟨y1, y2⟩ hk ⟨g1, hy⟩
        simp only at g1 hy
        subst g1
        simp (disch := omega) only [li_6, nI_leI, if_neg, hT k hk, z_bd_some, z_in_n, z_gd_tt, nI_clamp, z_lt_n, nI_1]
        refine Lp1_l ⟨rfl, fun j hj => ?_⟩
        rcases (show j < k ∨ j = k by omega) with q | rfl
        · exact (ud_n (by omega)).trans (hy j q)
        · exact ud_s
      · rintro ⟨y1, y2⟩ ⟨g1, hy⟩
        simp only at g1 hy
        subst g1
        simp (disch := omega) only [li_6, nI_leI, if_pos]
        exact Lp1_r hy
      · intro e he
        have eg : al m e 6 = gQ m T n (100 * t + v) := al_c (fun k hk => by show e k = T k (nI ((100 * t + v) % 100)) (nI ((100 * t + v) / 100)) n; rw [he k hk, show (100 * t + v) % 100 = v by omega, show (100 * t + v) / 100 = t by omega]) 6 (by omega)
        rw [mo_most7 hm, z_bd_some, eg]
        have ec : (100 : Int32) * nI t + nI v = nI (100 * t + v) := by rw [li_100, pk_mul, nI_add]
        have b6 := hg6 (100 * t + v)
        have hmod : (100 * t + v) % 100 ≤ M := by omega
        rcases ha with ⟨rfl, rfl, rfl, rfl⟩ | ⟨b, fw, h6, rfl, rfl, hB⟩
        · have kk : ¬ nI 7 ≤ nI (gQ m T n (100 * 0 + 0)) := fun q => absurd ((nI_leI (by omega) (by omega)).mp q) (by omega)
          simp only [if_neg kk, z_lt_n, ec, z_bd_some, nI_1]
          exact Lp1_l ⟨rfl, Or.inr ⟨0, _, b6, rfl, rfl, BestP_1 _ _⟩⟩
        · by_cases q : fw ≤ gQ m T n (100 * t + v)
          · have kk : nI fw ≤ nI (gQ m T n (100 * t + v)) := (nI_leI (by omega) (by omega)).mpr q
            simp only [if_pos kk, z_lt_n, z_bd_some, nI_1]
            exact Lp1_l ⟨rfl, Or.inr ⟨b, fw, h6, rfl, rfl, BestP_ext hB (by omega) (fun c c1 c2 _ => by rw [show c = 100 * t + v by omega]; exact q)⟩⟩
          · have kk : ¬ nI fw ≤ nI (gQ m T n (100 * t + v)) := fun z => q ((nI_leI (by omega) (by omega)).mp z)
            simp only [if_neg kk, z_lt_n, ec, z_bd_some, nI_1]
            exact Lp1_l ⟨rfl, Or.inr ⟨_, _, b6, rfl, rfl, BestP_new hB hmod (Nat.lt_of_not_le q)⟩⟩
    · rintro ⟨a1, a2, a3, a4⟩ ⟨g1, ha⟩
      simp only at g1 ha
      subst g1
      have kv : nI M < nI (M + 1) := (nI_ltI (by omega) (by omega)).mpr (by omega)
      simp only [if_pos kv]
      rcases ha with ⟨-, q, -⟩ | ⟨b, fw, h6, rfl, rfl, hB⟩
      · omega
      · exact Lp1_r ⟨b, fw, h6, rfl, rfl, BestP_ext hB (by omega) (fun c c1 c2 c3 => by omega)⟩
    · rcases hs with ⟨rfl, rfl, rfl⟩ | ⟨b, fw, h6, rfl, rfl, hB⟩
      · exact Or.inl ⟨rfl, rfl, rfl, rfl⟩
      · exact Or.inr ⟨b, fw, h6, rfl, rfl, hB⟩
    · rintro ⟨e1, e2, e3⟩ ⟨b, fw, h6, g1, g2, hB⟩
      simp only at g1 g2
      subst g1 g2
      simp only [z_lt_n, nI_1]
      exact Lp1_l ⟨rfl, Or.inr ⟨b, fw, h6, rfl, rfl, hB⟩⟩
  · rintro ⟨s1, s2, s3, s4⟩ ⟨g1, hs⟩
    simp only at g1 hs
    subst g1
    simp only [show (24 : Int32) ≤ nI 24 from by decide, if_true]
    rcases hs with ⟨q, -⟩ | ⟨b, fw, h6, rfl, rfl, hB⟩
    · omega
    · exact Lp1_r ⟨b, fw, rfl, hB⟩
theorem mo_look8 {m : Nat} (te : Nat → Int32) (n : Int32) (hm : m < 64) (h0 : m ≠ 0) : Ha (z_lp (S := Int32 × Int32 × Int32 × (Nat → Int32)) (E := Int32 × (Nat → Int32)) (fun s6 =>
    if ((2400 : Int32) ≤ s6.1) then
    (some (.inr (s6.2.2.1, s6.2.2.2))) else
    (if (nI m = 0) then
    (some (.inr (s6.2.2.1, s6.2.2.2))) else
    (z_bd (z_lp (S := Int32 × (Nat → Int32)) (E := (Nat → Int32)) (fun s11 =>
    if ((6 : Int32) ≤ s11.1) then
    (some (.inr s11.2)) else
    (z_lt ((s6.1 / (100 : Int32))) fun x24 =>
    z_lt ((s6.1 - s6.1 / (100 : Int32) * (100 : Int32))) fun x25 =>
    z_bd (p_X8_farOf s11.1 x25 x24) fun r26 =>
    z_gd (z_in s11.1 6) <|
    z_lt ((upd s11.2 s11.1.toNatClampNeg r26)) fun a29 =>
    z_lt (s11.1 + (1 : Int32)) fun x30 =>
    some (.inl (x30, a29)))) ((0 : Int32), s6.2.2.2)) fun e12 =>
    z_bd (α := Int32) (if ((60 : Int32) < (s6.1 - s6.1 / (100 : Int32) * (100 : Int32))) then
    (some (99 : Int32)) else
    (z_bd (p_X8_greatestPart e12 (nI m)) fun r20 =>
    some r20)) fun j13 =>
    z_bd (α := Int32) (if (s6.2.1 ≤ j13) then
    (some s6.2.2.1) else
    (some s6.1)) fun j14 =>
    z_bd (α := Int32) (if (s6.2.1 ≤ j13) then
    (some s6.2.1) else
    (some j13)) fun j15 =>
    z_lt (s6.1 + (1 : Int32)) fun x16 =>
    some (.inl (x16, j15, j14, e12))))) ((0 : Int32), (99 : Int32), (-1 : Int32), te)) (fun e => ∃ b fw, e.1 = nI b ∧ BestP (gQ m Tr n) 60 2400 b fw) := by
  have hg6 : ∀ c, gQ m Tr n c ≤ 6 := fun c => al_le _ _ _
  have kz : ¬ nI m = (0 : Int32) := nI_ne (b := 0) (by omega) (by decide) h0
  refine Ha_lp 2400 (fun i s => s.1 = nI i ∧ ((i = 0 ∧ s.2.1 = nI 99 ∧ s.2.2.1 = -1) ∨ ∃ b fw, fw ≤ 6 ∧ s.2.1 = nI fw ∧ s.2.2.1 = nI b ∧ BestP (gQ m Tr n) 60 i b fw)) _ ?_ ?_ _ ⟨rfl, Or.inl ⟨rfl, rfl, rfl⟩⟩
  · rintro i ⟨s1, s2, s3, s4⟩ hi ⟨g1, hs⟩
    simp only at g1 hs
    subst g1
    have kt : ¬ (2400 : Int32) ≤ nI i := fun q => absurd ((nI_leI (a := 2400) (by decide) (by omega)).mp q) (by omega)
    have hm100 : i % 100 < 100 := Nat.mod_lt _ (by decide)
    have kd : nI i / (100 : Int32) = nI (i / 100) := pk_div (d := 100) (by omega) (by decide) (by decide)
    have kr : nI i - nI (i / 100) * (100 : Int32) = nI (i % 100) := by rw [← kd]; exact pk_rem (d := 100) (by omega) (by decide) (by decide)
    simp only [if_neg kt, if_neg kz, kd, kr]
    refine Ha_bd (fun e => ∀ k, k < 6 → e k = Tr k (nI (i % 100)) (nI (i / 100)) n) (Ha_lp 6 (fun k s => s.1 = nI k ∧ ∀ j, j < k → s.2 j = Tr j (nI (i % 100)) (nI (i / 100)) n) _ ?_ ?_ _ ⟨rfl, fun j hj => absurd hj (by omega)⟩) ?_
    · rintro k ⟨y1, y2⟩ hk ⟨g1, hy⟩
      simp only at g1 hy
      subst g1
      simp (disch := omega) only [li_6, nI_leI, if_neg, Tr8 hk _ _ n, z_bd_some, z_in_n, z_gd_tt, nI_clamp, z_lt_n, nI_1]
      refine Lp1_l ⟨rfl, fun j hj => ?_⟩
      rcases (show j < k ∨ j = k by omega) with q | rfl
      · exact (ud_n (by omega)).trans (hy j q)
      · exact ud_s
    · rintro ⟨y1, y2⟩ ⟨g1, hy⟩
      simp only at g1 hy
      subst g1
      simp (disch := omega) only [li_6, nI_leI, if_pos]
      exact Lp1_r hy
    · intro e he
      have eg : al m e 6 = gQ m Tr n i := al_c (fun k hk => he k hk) 6 (by omega)
      have b6 := hg6 i
      by_cases qv : i % 100 ≤ 60
      · have kl : ¬ (60 : Int32) < nI (i % 100) := fun q => absurd ((nI_ltI (a := 60) (by decide) (by omega)).mp q) (by omega)
        simp only [if_neg kl, mo_most8 hm, z_bd_some, eg]
        rcases hs with ⟨rfl, rfl, rfl⟩ | ⟨b, fw, h6, rfl, rfl, hB⟩
        · have kk : ¬ nI 99 ≤ nI (gQ m Tr n 0) := fun q => absurd ((nI_leI (by omega) (by omega)).mp q) (by omega)
          simp only [if_neg kk, z_lt_n, z_bd_some, nI_1]
          exact Lp1_l ⟨rfl, Or.inr ⟨0, _, b6, rfl, rfl, BestP_1 _ _⟩⟩
        · by_cases q : fw ≤ gQ m Tr n i
          · have kk : nI fw ≤ nI (gQ m Tr n i) := (nI_leI (by omega) (by omega)).mpr q
            simp only [if_pos kk, z_lt_n, z_bd_some, nI_1]
            exact Lp1_l ⟨rfl, Or.inr ⟨b, fw, h6, rfl, rfl, BestP_ext hB (by omega) (fun c c1 c2 _ => by rw [show c = i by omega]; exact q)⟩⟩
          · have kk : ¬ nI fw ≤ nI (gQ m Tr n i) := fun z => q ((nI_leI (by omega) (by omega)).mp z)
            simp only [if_neg kk, z_lt_n, z_bd_some, nI_1]
            exact Lp1_l ⟨rfl, Or.inr ⟨_, _, b6, rfl, rfl, BestP_new hB qv (Nat.lt_of_not_le q)⟩⟩
      · have kl : (60 : Int32) < nI (i % 100) := (nI_ltI (a := 60) (by decide) (by omega)).mpr (by omega)
        simp only [if_pos kl, z_bd_some]
        rcases hs with ⟨rfl, -⟩ | ⟨b, fw, h6, rfl, rfl, hB⟩
        · exact absurd (Nat.zero_le 60) qv
        · have kk : nI fw ≤ (99 : Int32) := (nI_leI (b := 99) (by omega) (by decide)).mpr (by omega)
          simp only [if_pos kk, z_lt_n, z_bd_some, nI_1]
          exact Lp1_l ⟨rfl, Or.inr ⟨b, fw, h6, rfl, rfl, BestP_ext hB (by omega) (fun c c1 c2 c3 => absurd (show i % 100 ≤ 60 by rw [show i = c by omega]; exact c3) qv)⟩⟩
  · rintro ⟨s1, s2, s3, s4⟩ ⟨g1, hs⟩
    simp only at g1 hs
    subst g1
    simp only [show (2400 : Int32) ≤ nI 2400 from by decide, if_true]
    rcases hs with ⟨q, -⟩ | ⟨b, fw, h6, rfl, rfl, hB⟩
    · omega
    · exact Lp1_r ⟨b, fw, rfl, hB⟩
theorem mo_ask8 {w : Nat → Int32} {m c : Nat} {n : Int32} (te : Nat → Int32) (hc : c < 3) (wt : w (3 + c) = n) (hm : m < 64) (h0 : m ≠ 0) : Ha (z_lp (S := Int32 × Int32 × Int32 × (Nat → Int32)) (E := Int32 × (Nat → Int32)) (fun s6 =>
    if ((2400 : Int32) ≤ s6.1) then
    (some (.inr (s6.2.2.1, s6.2.2.2))) else
    (if (nI m = 0) then
    (some (.inr (s6.2.2.1, s6.2.2.2))) else
    (z_bd (z_lp (S := Int32 × (Nat → Int32)) (E := (Nat → Int32)) (fun s11 =>
    if ((6 : Int32) ≤ s11.1) then
    (some (.inr s11.2)) else
    (z_lt (((3 : Int32) + nI c)) fun x24 =>
    z_gd (z_in x24 1960) <|
    z_lt ((w x24.toNatClampNeg)) fun x26 =>
    z_lt ((s6.1 / (100 : Int32))) fun x27 =>
    z_lt ((s6.1 - s6.1 / (100 : Int32) * (100 : Int32))) fun x28 =>
    z_bd (p_X8_madeOf s11.1 x28 x27 x26) fun r26 =>
    z_gd (z_in s11.1 6) <|
    z_lt ((upd s11.2 s11.1.toNatClampNeg r26)) fun a29 =>
    z_lt (s11.1 + (1 : Int32)) fun x30 =>
    some (.inl (x30, a29)))) ((0 : Int32), s6.2.2.2)) fun e12 =>
    z_bd (α := Int32) (if ((18 : Int32) < (s6.1 - s6.1 / (100 : Int32) * (100 : Int32))) then
    (some (99 : Int32)) else
    (z_bd (p_X8_greatestPart e12 (nI m)) fun r20 =>
    some r20)) fun j13 =>
    z_bd (α := Int32) (if (s6.2.1 ≤ j13) then
    (some s6.2.2.1) else
    (some s6.1)) fun j14 =>
    z_bd (α := Int32) (if (s6.2.1 ≤ j13) then
    (some s6.2.1) else
    (some j13)) fun j15 =>
    z_lt (s6.1 + (1 : Int32)) fun x16 =>
    some (.inl (x16, j15, j14, e12))))) ((0 : Int32), (99 : Int32), (-1 : Int32), te)) (fun e => ∃ b fw, e.1 = nI b ∧ BestP (gQ m Tm n) 18 2400 b fw) := by
  have hg6 : ∀ c, gQ m Tm n c ≤ 6 := fun c => al_le _ _ _
  have kz : ¬ nI m = (0 : Int32) := nI_ne (b := 0) (by omega) (by decide) h0
  refine Ha_lp 2400 (fun i s => s.1 = nI i ∧ ((i = 0 ∧ s.2.1 = nI 99 ∧ s.2.2.1 = -1) ∨ ∃ b fw, fw ≤ 6 ∧ s.2.1 = nI fw ∧ s.2.2.1 = nI b ∧ BestP (gQ m Tm n) 18 i b fw)) _ ?_ ?_ _ ⟨rfl, Or.inl ⟨rfl, rfl, rfl⟩⟩
  · rintro i ⟨s1, s2, s3, s4⟩ hi ⟨g1, hs⟩
    simp only at g1 hs
    subst g1
    have kt : ¬ (2400 : Int32) ≤ nI i := fun q => absurd ((nI_leI (a := 2400) (by decide) (by omega)).mp q) (by omega)
    have hm100 : i % 100 < 100 := Nat.mod_lt _ (by decide)
    have kd : nI i / (100 : Int32) = nI (i / 100) := pk_div (d := 100) (by omega) (by decide) (by decide)
    have kr : nI i - nI (i / 100) * (100 : Int32) = nI (i % 100) := by rw [← kd]; exact pk_rem (d := 100) (by omega) (by decide) (by decide)
    simp only [if_neg kt, if_neg kz, kd, kr]
    refine Ha_bd (fun e => ∀ k, k < 6 → e k = Tm k (nI (i % 100)) (nI (i / 100)) n) (Ha_lp 6 (fun k s => s.1 = nI k ∧ ∀ j, j < k → s.2 j = Tm j (nI (i % 100)) (nI (i / 100)) n) _ ?_ ?_ _ ⟨rfl, fun j hj => absurd hj (by omega)⟩) ?_
    · rintro k ⟨y1, y2⟩ hk ⟨g1, hy⟩
      simp only at g1 hy
      subst g1
      simp (disch := omega) only [li_6, nI_leI, if_neg, li_3, nI_add, wt, Tm8 hk, z_bd_some, z_in_n, z_gd_tt, nI_clamp, z_lt_n, nI_1]
      refine Lp1_l ⟨rfl, fun j hj => ?_⟩
      rcases (show j < k ∨ j = k by omega) with q | rfl
      · exact (ud_n (by omega)).trans (hy j q)
      · exact ud_s
    · rintro ⟨y1, y2⟩ ⟨g1, hy⟩
      simp only at g1 hy
      subst g1
      simp (disch := omega) only [li_6, nI_leI, if_pos]
      exact Lp1_r hy
    · intro e he
      have eg : al m e 6 = gQ m Tm n i := al_c (fun k hk => he k hk) 6 (by omega)
      have b6 := hg6 i
      by_cases qv : i % 100 ≤ 18
      · have kl : ¬ (18 : Int32) < nI (i % 100) := fun q => absurd ((nI_ltI (a := 18) (by decide) (by omega)).mp q) (by omega)
        simp only [if_neg kl, mo_most8 hm, z_bd_some, eg]
        rcases hs with ⟨rfl, rfl, rfl⟩ | ⟨b, fw, h6, rfl, rfl, hB⟩
        · have kk : ¬ nI 99 ≤ nI (gQ m Tm n 0) := fun q => absurd ((nI_leI (by omega) (by omega)).mp q) (by omega)
          simp only [if_neg kk, z_lt_n, z_bd_some, nI_1]
          exact Lp1_l ⟨rfl, Or.inr ⟨0, _, b6, rfl, rfl, BestP_1 _ _⟩⟩
        · by_cases q : fw ≤ gQ m Tm n i
          · have kk : nI fw ≤ nI (gQ m Tm n i) := (nI_leI (by omega) (by omega)).mpr q
            simp only [if_pos kk, z_lt_n, z_bd_some, nI_1]
            exact Lp1_l ⟨rfl, Or.inr ⟨b, fw, h6, rfl, rfl, BestP_ext hB (by omega) (fun c c1 c2 _ => by rw [show c = i by omega]; exact q)⟩⟩
          · have kk : ¬ nI fw ≤ nI (gQ m Tm n i) := fun z => q ((nI_leI (by omega) (by omega)).mp z)
            simp only [if_neg kk, z_lt_n, z_bd_some, nI_1]
            exact Lp1_l ⟨rfl, Or.inr ⟨_, _, b6, rfl, rfl, BestP_new hB qv (Nat.lt_of_not_le q)⟩⟩
      · have kl : (18 : Int32) < nI (i % 100) := (nI_ltI (a := 18) (by decide) (by omega)).mpr (by omega)
        simp only [if_pos kl, z_bd_some]
        rcases hs with ⟨rfl, -⟩ | ⟨b, fw, h6, rfl, rfl, hB⟩
        · exact absurd (Nat.zero_le 18) qv
        · have kk : nI fw ≤ (99 : Int32) := (nI_leI (b := 99) (by omega) (by decide)).mpr (by omega)
          simp only [if_pos kk, z_lt_n, z_bd_some, nI_1]
          exact Lp1_l ⟨rfl, Or.inr ⟨b, fw, h6, rfl, rfl, BestP_ext hB (by omega) (fun c c1 c2 c3 => absurd (show i % 100 ≤ 18 by rw [show i = c by omega]; exact c3) qv)⟩⟩
  · rintro ⟨s1, s2, s3, s4⟩ ⟨g1, hs⟩
    simp only at g1 hs
    subst g1
    simp only [show (2400 : Int32) ≤ nI 2400 from by decide, if_true]
    rcases hs with ⟨q, -⟩ | ⟨b, fw, h6, rfl, rfl, hB⟩
    · omega
    · exact Lp1_r ⟨b, fw, rfl, hB⟩
theorem mo_best0 {o n M : Int32} (vals : Nat → Int32) : p_X3_best vals o (nI 0) M n = some (-1, vals) := by
  unfold p_X3_best
  rw [z_bd_s (v := ((-1 : Int32), vals)) (z_lp_end ?_)]
  have k0 : ¬ (24 : Int32) ≤ 0 := by decide
  simp only [if_neg k0, show nI 0 = (0 : Int32) from rfl, if_true]
theorem q_24 {x : Nat → Int32} {v : Nat → Int32} {f : Nat → Nat → Int32} {n : DD} {P : Nat → DD} {kf : Nat → Int32} {tf : Nat → Int32} {zf : Nat → Int32} {v0 : Nat → Int32} {f0 : Nat → Nat → Int32} {n0 : DD} {P0 : Nat → DD} {v1 : Nat → Int32} {f1 : Nat → Nat → Int32} {n1 : DD} {P1 : Nat → DD} {mv : Nat → Int32} {ma : Int64} {mb : Int64} {w : Nat → Int32} {tx : Nat → Int32} {te : Nat → Int32} (hR : RelX x v f n P kf tf v0 f0 n0 P0 v1 f1 n1 P1 mv ma mb w tx) (c1 : Int32) : ∃ (r7 : Int32 × Int32 × (Nat → Int32)) (r8 : Int32 × Int32 × (Nat → Int32)), p_X7_look (x 3) (v 0) 0 (v 3) (f 4) zf c1 = some r7 ∧ p_X8_look (mv 2) w te c1 = some r8 ∧ r7.1 = r8.1 ∧ RelX (va_up x 3 r7.2.1) v f n P kf tf v0 f0 n0 P0 v1 f1 n1 P1 (va_up mv 2 r8.2.1) ma mb w tx := by
  refine RX_al hR ?_
  have hb := hR.2.2.1
  obtain ⟨np, nc, nb, nn, nm, hnp, hnc, hnb, hnn, hnm, e0, w418, e1, w422, e2, w396, e3, w447, e4, w478, hpl, hck, hD, hPP, hno, hma⟩ := hR.1
  simp only [Nat.zero_add] at w418 w447
  obtain ⟨m, hm, h7, h8⟩ := mo_is (p := c1) hnn w447 hno
  have rb7 : ∀ b, p_X7_refuseBad b = some ((-2 : Int32), b + 1) := fun _ => rfl
  have rb8 : ∀ b, p_X8_bad b = some ((-2 : Int32), b + 1) := fun _ => rfl
  unfold p_X7_look p_X8_look
  simp only [e0, e3, hb, p0_hasPlace (n := np) (by omega), p8_isPlace w418 (by omega), z_bd_some, rb7, rb8, h7, h8]
  cases z_in c1 np
  · simp only [b2_f0, if_true]
    exact Al_s ⟨rfl, rfl⟩
  simp only [b2_t0, if_false]
  by_cases h0 : m = 0
  · subst h0
    rw [mo_best0, z_bd_some]
    refine Al_bdr (a := ((-1 : Int32), te)) (z_lp_end ?_) (Al_s ⟨rfl, rfl⟩)
    have k0 : ¬ (2400 : Int32) ≤ 0 := by decide
    simp only [if_neg k0, show nI 0 = (0 : Int32) from rfl, if_true]
  · obtain ⟨r, k1, b, fw, k2, k3⟩ := mo_best7 (o := 0) (n := 0) (M := 60) zf hm h0 (by omega) (fun k hk v t n => Tr7 hk v t n)
    obtain ⟨r', l1, b', fw', l2, l3⟩ := mo_look8 te 0 hm h0
    rw [show nI 60 = (60 : Int32) from rfl] at k1
    refine Al_bdl k1 (Al_bdr l1 (Al_s ⟨?_, rfl⟩))
    show r.1 = r'.1
    rw [k2, l2, BestP_u k3 l3]
theorem q_26 {x : Nat → Int32} {v : Nat → Int32} {f : Nat → Nat → Int32} {n : DD} {P : Nat → DD} {kf : Nat → Int32} {tf : Nat → Int32} {zf : Nat → Int32} {v0 : Nat → Int32} {f0 : Nat → Nat → Int32} {n0 : DD} {P0 : Nat → DD} {v1 : Nat → Int32} {f1 : Nat → Nat → Int32} {n1 : DD} {P1 : Nat → DD} {mv : Nat → Int32} {ma : Int64} {mb : Int64} {w : Nat → Int32} {tx : Nat → Int32} {te : Nat → Int32} (hR : RelX x v f n P kf tf v0 f0 n0 P0 v1 f1 n1 P1 mv ma mb w tx) (c1 : Int32) : ∃ (r7 : Int32 × Int32 × (Nat → Int32)) (r8 : Int32 × Int32 × (Nat → Int32)), p_X7_ask (x 3) (v 1) n.2.2.2.2.2.1 1 (v 4) (f 5) zf c1 = some r7 ∧ p_X8_ask (mv 2) w te c1 = some r8 ∧ r7.1 = r8.1 ∧ RelX (va_up x 3 r7.2.1) v f n P kf tf v0 f0 n0 P0 v1 f1 n1 P1 (va_up mv 2 r8.2.1) ma mb w tx := by
  refine RX_al hR ?_
  have hb := hR.2.2.1
  obtain ⟨np, nc, nb, nn, nm, hnp, hnc, hnb, hnn, hnm, e0, w418, e1, w422, e2, w396, e3, w447, e4, w478, hpl, hck, hD, hPP, hno, hma⟩ := hR.1
  obtain ⟨nd, hh, hnd, hhh, d7, w7, d6, w6, hat, hro, hle⟩ := hD
  simp only [Nat.zero_add] at w422 w478
  obtain ⟨m, hm, h7, h8⟩ := mo_kinds (p := c1) hnm w478 hma
  have rb7 : ∀ b, p_X7_refuseBad b = some ((-2 : Int32), b + 1) := fun _ => rfl
  have rb8 : ∀ b, p_X8_bad b = some ((-2 : Int32), b + 1) := fun _ => rfl
  unfold p_X7_ask p_X8_ask
  simp only [e1, e4, hb, p0_hasCrow (n := nc) (by omega), p8_isCrow w422 (by omega), z_bd_some, rb7, rb8, h7, h8]
  cases hc : z_in c1 nc
  · simp only [b2_f0, if_true]
    exact Al_s ⟨rfl, rfl⟩
  simp only [b2_t0, if_false]
  obtain ⟨c, hc', rfl⟩ := (z_in_iff (by omega)).mp hc
  obtain ⟨a, t, -, -, -, -, g5, g6⟩ := hat c hc'
  have i3 : z_in (nI c) 3 = true := z_in_n (by omega) (by decide)
  have g6' : w (3 + c) = nI t := by rw [← g6]
  rw [z_gd_t i3, z_lt_s, nI_clamp (show c < 2 ^ 31 by omega), g5]
  by_cases h0 : m = 0
  · subst h0
    rw [mo_best0, z_bd_some]
    refine Al_bdr (a := ((-1 : Int32), te)) (z_lp_end ?_) (Al_s ⟨rfl, rfl⟩)
    have k0 : ¬ (2400 : Int32) ≤ 0 := by decide
    simp only [if_neg k0, show nI 0 = (0 : Int32) from rfl, if_true]
  · obtain ⟨r, k1, b, fw, k2, k3⟩ := mo_best7 (o := 1) (n := nI t) (M := 18) zf hm h0 (by omega) (fun k hk v t n => Tm7 hk v t n)
    obtain ⟨r', l1, b', fw', l2, l3⟩ := mo_ask8 te (show c < 3 by omega) g6' hm h0
    rw [show nI 18 = (18 : Int32) from rfl] at k1
    refine Al_bdl k1 (Al_bdr l1 (Al_s ⟨?_, rfl⟩))
    show r.1 = r'.1
    rw [k2, l2, BestP_u k3 l3]
