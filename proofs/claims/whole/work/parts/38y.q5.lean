/-! read: both loops, and the call. -/
abbrev rdS : Type := Int32 × (Nat → Int32) × (Nat → Int32) × (Nat → Int32) × (Nat → Int32) × (Nat → Int32) × (Nat → Int32) × (Nat → Int32) × Int32 × Int32 × Int32 × Int32 × Int32 × Int32 × Int32 × Int32 × Int32
abbrev rdR : Type := Int32 × Int32 × Int32 × Int32 × Int32 × Int32 × Int32 × Int32 × Int32 × (Nat → Int32) × (Nat → Int32) × (Nat → Int32) × (Nat → Int32) × Int32 × Int32 × (Nat → Int32) × (Nat → Int32) × (Nat → Int32) × Int32 × Int32
def rdT7 (nt : Nat) (e7 : rdS ⊕ rdR) : Option rdR :=
  Sum.elim (fun v8 =>
  z_bd (α := Int32) (if (v8.1 = 0) then
  (some ((-10 : Int32) - v8.2.2.2.2.2.2.2.2.2.2.2.2.2.2.2.1)) else
  (some v8.1)) fun j9 =>
  some (j9, nI nt, v8.2.2.2.2.2.2.2.2.2.2.2.2.2.1, v8.2.2.2.2.2.2.2.2.2.2.2.2.2.2.1, v8.2.2.2.2.2.2.2.2.2.2.2.2.2.2.2.1, v8.2.2.2.2.2.2.2.2.2.2.2.2.2.2.2.2, v8.2.2.2.2.2.2.2.2.1, v8.2.2.2.2.2.2.2.2.2.1, v8.2.2.2.2.2.2.2.2.2.2.1, v8.2.1, v8.2.2.1, v8.2.2.2.1, v8.2.2.2.2.1, v8.2.2.2.2.2.2.2.2.2.2.2.1, v8.2.2.2.2.2.2.2.2.2.2.2.2.1, v8.2.2.2.2.2.1, v8.2.2.2.2.2.2.1, v8.2.2.2.2.2.2.2.1, (0 : Int32), (0 : Int32))) (fun r20 => some r20) e7
abbrev rdE8 : Type := Int32 × (Nat → Int32) × Int32 × Int32 × Int32 × Int32 × Int32
abbrev rdR8 : Type := Int32 × Int32 × Int32 × Int32 × Int32 × Int32 × (Nat → Int32)
noncomputable def rdT8 (e13 : rdE8) : Option rdR8 :=
  z_bd (p_X8_fine e13.2.2.2.2.2.2) fun r14 =>
  if (r14 = 0) then
  (some (((-10 : Int32) - e13.2.2.2.2.2.2), e13.2.2.1, e13.2.2.2.1, e13.2.2.2.2.1, e13.2.2.2.2.2.1, e13.2.2.2.2.2.2, e13.2.1)) else
  (z_bd (p_X8_copyRow e13.2.1 (1437 : Int32) (0 : Int32) (479 : Int32)) fun r17 =>
  some (e13.1, e13.2.2.1, e13.2.2.2.1, e13.2.2.2.2.1, e13.2.2.2.2.2.1, e13.2.2.2.2.2.2, r17))
/-- what the two loops end with -/
def RQ (nt : Nat) (P : Nat → DD) (g4 g5 w : Nat → Int32) (e : rdS ⊕ rdR) (g : rdE8) : Prop :=
  (∃ (j : Nat) (v' : Nat → Int32) (f' : Nat → Nat → Int32) (n' : DD) (N T S V : Int32) (w' : Nat → Int32) (A F T' U : Int32), 1 ≤ j ∧ j ≤ 150 ∧ e = .inl (nI j, f' 0, f' 1, f' 2, f' 3, n'.2.2.2.2.1, n'.2.2.2.2.2.1, n'.2.2.2.2.2.2.1, v' 0, v' 1, v' 2, n'.2.2.2.2.2.2.2.1, n'.2.2.2.2.2.2.2.2, N, T, S, V) ∧ g = (nI j, w', A, F, T', U, -1) ∧ RC w' 1437 v' f' n' P ∧ v' 3 = 0 ∧ v' 4 = 0 ∧ f' 4 = g4 ∧ f' 5 = g5 ∧ ∀ x, x < 1437 → w' x = w x) ∨
  (∃ (s' : Nat) (rest : Int32 × Int32 × Int32 × Int32 × Int32 × Int32 × Int32 × Int32 × (Nat → Int32) × (Nat → Int32) × (Nat → Int32) × (Nat → Int32) × Int32 × Int32 × (Nat → Int32) × (Nat → Int32) × (Nat → Int32) × Int32 × Int32) (J : Int32) (w' : Nat → Int32) (A F T U : Int32), s' ≤ nt ∧ e = .inr ((-10 : Int32) - nI s', rest) ∧ g = (J, w', A, F, T, U, nI s') ∧ ∀ x, x < 1437 → w' x = w x)
theorem RQ_mo {nt : Nat} {P : Nat → DD} {g4 g5 w w1 : Nat → Int32} {e : rdS ⊕ rdR} {g : rdE8} (hw : ∀ x, x < 1437 → w1 x = w x) (h : RQ nt P g4 g5 w1 e g) : RQ nt P g4 g5 w e g := by
  rcases h with ⟨j, v', f', n', N, T, S, V, w', A, F, T', U, h1, h2, h3, h4, h5, h6, h7, h8, h9, h10⟩ | ⟨s', rest, J, w', A, F, T, U, h1, h2, h3, h4⟩
  · exact Or.inl ⟨j, v', f', n', N, T, S, V, w', A, F, T', U, h1, h2, h3, h4, h5, h6, h7, h8, h9, fun x hx => (h10 x hx).trans (hw x hx)⟩
  · exact Or.inr ⟨s', rest, J, w', A, F, T, U, h1, h2, h3, fun x hx => (h4 x hx).trans (hw x hx)⟩
theorem rd_loop {nt : Nat} {tc : Nat → Nat} {tf tx : Nat → Int32} {P : Nat → DD} {g4 g5 : Nat → Int32} (h : TX nt tc tf tx) : ∀ (k q i hr : Nat) (w v : Nat → Int32) (f : Nat → Nat → Int32) (n : DD) (q1 s1 t1 : Nat) (V7 V8 b1 b2' b3 : Int32), nt - q ≤ k → q ≤ nt → 1 ≤ i → i ≤ q → RC w 1437 v f n P → v 3 = 0 → v 4 = 0 → f 4 = g4 → f 5 = g5 → n.2.2.2.2.2.2.2.2 = nI hr → 2 * hr ≤ 99 * q →
    p_X8_nextToken (nI nt) (nI q) b1 b2' b3 tx = some (nI q1, nI s1, nI t1, V8) → q ≤ s1 → s1 ≤ q1 → q1 ≤ nt → t1 ≤ 4 → (t1 ≠ 0 → s1 < q1) → (t1 = 1 → ∀ j, s1 ≤ j → j < q1 → Lt tc j = true) →
    Al (z_lp (rdB7 nt tf) (nI i, f 0, f 1, f 2, f 3, n.2.2.2.2.1, n.2.2.2.2.2.1, n.2.2.2.2.2.2.1, v 0, v 1, v 2, n.2.2.2.2.2.2.2.1, n.2.2.2.2.2.2.2.2, nI q1, nI t1, nI s1, V7)) (z_lp (rdB8 nt tx) (1, nI i, nI q, b1, b2', b3, w, -1)) (RQ nt P g4 g5 w) := by
  have hn := h.1
  have k10 : ¬ (1 : Int32) = 0 := by decide
  intro k
  induction k with
  | zero =>
    intro q i hr w v f n q1 s1 t1 V7 V8 b1 b2' b3 hk hq hi hiq hC hv3 hv4 hf4 hf5 hh hhr tok l1 l2 l3 l4 l5 l6
    have ht : t1 = 0 := by
      rcases Nat.eq_zero_or_pos t1 with z | z
      · exact z
      · have := l5 (by omega); omega
    subst ht
    have c : rdB7 nt tf (nI i, f 0, f 1, f 2, f 3, n.2.2.2.2.1, n.2.2.2.2.2.1, n.2.2.2.2.2.2.1, v 0, v 1, v 2, n.2.2.2.2.2.2.2.1, n.2.2.2.2.2.2.2.2, nI q1, nI 0, nI s1, V7) = some (.inr (.inl (nI i, f 0, f 1, f 2, f 3, n.2.2.2.2.1, n.2.2.2.2.2.1, n.2.2.2.2.2.2.1, v 0, v 1, v 2, n.2.2.2.2.2.2.2.1, n.2.2.2.2.2.2.2.2, nI q1, nI 0, nI s1, V7))) := by
      unfold rdB7
      simp only [show nI 0 = (0 : Int32) from rfl, if_true]
    have d1 : rdB8 nt tx (1, nI i, nI q, b1, b2', b3, w, -1) = some (.inl (0, nI i, nI q1, nI s1, nI 0, V8, w, -1)) := by
      unfold rdB8
      simp only [if_neg k10, tok, z_bd_some, show nI 0 = (0 : Int32) from rfl, if_true]
    have d2 : rdB8 nt tx (0, nI i, nI q1, nI s1, nI 0, V8, w, -1) = some (.inr (nI i, w, nI q1, nI s1, nI 0, V8, -1)) := by
      unfold rdB8
      simp only [if_true]
    exact ⟨_, _, z_lp_end c, (z_lp_go d1).trans (z_lp_end d2), Or.inl ⟨i, v, f, n, _, _, _, _, w, _, _, _, _, hi, by omega, rfl, rfl, hC, hv3, hv4, hf4, hf5, fun _ _ => rfl⟩⟩
  | succ k ih =>
    intro q i hr w v f n q1 s1 t1 V7 V8 b1 b2' b3 hk hq hi hiq hC hv3 hv4 hf4 hf5 hh hhr tok l1 l2 l3 l4 l5 l6
    by_cases ht : t1 = 0
    · subst ht
      have c : rdB7 nt tf (nI i, f 0, f 1, f 2, f 3, n.2.2.2.2.1, n.2.2.2.2.2.1, n.2.2.2.2.2.2.1, v 0, v 1, v 2, n.2.2.2.2.2.2.2.1, n.2.2.2.2.2.2.2.2, nI q1, nI 0, nI s1, V7) = some (.inr (.inl (nI i, f 0, f 1, f 2, f 3, n.2.2.2.2.1, n.2.2.2.2.2.1, n.2.2.2.2.2.2.1, v 0, v 1, v 2, n.2.2.2.2.2.2.2.1, n.2.2.2.2.2.2.2.2, nI q1, nI 0, nI s1, V7))) := by
        unfold rdB7
        simp only [show nI 0 = (0 : Int32) from rfl, if_true]
      have d1 : rdB8 nt tx (1, nI i, nI q, b1, b2', b3, w, -1) = some (.inl (0, nI i, nI q1, nI s1, nI 0, V8, w, -1)) := by
        unfold rdB8
        simp only [if_neg k10, tok, z_bd_some, show nI 0 = (0 : Int32) from rfl, if_true]
      have d2 : rdB8 nt tx (0, nI i, nI q1, nI s1, nI 0, V8, w, -1) = some (.inr (nI i, w, nI q1, nI s1, nI 0, V8, -1)) := by
        unfold rdB8
        simp only [if_true]
      exact ⟨_, _, z_lp_end c, (z_lp_go d1).trans (z_lp_end d2), Or.inl ⟨i, v, f, n, _, _, _, _, w, _, _, _, _, hi, by omega, rfl, rfl, hC, hv3, hv4, hf4, hf5, fun _ _ => rfl⟩⟩
    have kt : ¬ nI t1 = (0 : Int32) := nI_ne (b := 0) (by omega) (by decide) ht
    have k150 : ¬ (150 : Int32) < nI i := fun z => absurd ((nI_ltI (a := 150) (by decide) (by omega)).mp z) (by omega)
    have hs1 := l5 ht
    obtain ⟨ok, q', t', s', V, v', f', n', A2, F2, T2, U2, G2, w', c1, c2, hw', hT, hFa⟩ := mo_item h l3 l2 l4 l5 l6 hi (by omega) hC hh (by omega) V7 V8
    cases ok
    · obtain ⟨rfl, hs'⟩ := hFa rfl
      have c : rdB7 nt tf (nI i, f 0, f 1, f 2, f 3, n.2.2.2.2.1, n.2.2.2.2.2.1, n.2.2.2.2.2.2.1, v 0, v 1, v 2, n.2.2.2.2.2.2.2.1, n.2.2.2.2.2.2.2.2, nI q1, nI t1, nI s1, V7) = some (.inr (.inr ((-10 : Int32) - nI s', nI nt, nI q', nI t', nI s', V, v' 0, v' 1, v' 2, f' 0, f' 1, f' 2, f' 3, n'.2.2.2.2.2.2.2.1, n'.2.2.2.2.2.2.2.2, n'.2.2.2.2.1, n'.2.2.2.2.2.1, n'.2.2.2.2.2.2.1, 0, 0))) := by
        unfold rdB7
        simp only [if_neg kt, if_neg k150, c1, z_bd_some, b2_f0, if_true]
      have d1 : rdB8 nt tx (1, nI i, nI q, b1, b2', b3, w, -1) = some (.inl (0, nI (i + 1), A2, F2, T2, U2, w', nI s')) := by
        unfold rdB8
        simp only [if_neg k10, tok, z_bd_some, if_neg kt, c2, z_lt_n, nI_1, fi_f (show s' < 2 ^ 31 by omega)]
      have d2 : rdB8 nt tx (0, nI (i + 1), A2, F2, T2, U2, w', nI s') = some (.inr (nI (i + 1), w', A2, F2, T2, U2, nI s')) := by
        unfold rdB8
        simp only [if_true]
      exact ⟨_, _, z_lp_end c, (z_lp_go d1).trans (z_lp_end d2), Or.inr ⟨s', _, _, w', _, _, _, _, hs', rfl, rfl, hw'⟩⟩
    · obtain ⟨rfl, rfl, z1, z2, hC', z3, z4, z5, z6, h', z7, z8⟩ := hT rfl
      have hk1 : nt - q' ≤ k := by omega
      have hk2 : i + 1 ≤ q' := by omega
      have hk3 : 2 * h' ≤ 99 * q' := by omega
      obtain ⟨q2, s2, t2, W7, W8, e1, e2, m1, m2, m3, m4, m5, m6, m7⟩ := mo_token h z2 (nI t') (nI s') V F2 T2 U2
      have c : rdB7 nt tf (nI i, f 0, f 1, f 2, f 3, n.2.2.2.2.1, n.2.2.2.2.2.1, n.2.2.2.2.2.2.1, v 0, v 1, v 2, n.2.2.2.2.2.2.2.1, n.2.2.2.2.2.2.2.2, nI q1, nI t1, nI s1, V7) = some (.inl (nI (i + 1), f' 0, f' 1, f' 2, f' 3, n'.2.2.2.2.1, n'.2.2.2.2.2.1, n'.2.2.2.2.2.2.1, v' 0, v' 1, v' 2, n'.2.2.2.2.2.2.2.1, n'.2.2.2.2.2.2.2.2, nI q2, nI t2, nI s2, W7)) := by
        unfold rdB7
        simp only [if_neg kt, if_neg k150, c1, z_bd_some, b2_t0, if_false, z_lt_n, nI_1, e1]
      have d1 : rdB8 nt tx (1, nI i, nI q, b1, b2', b3, w, -1) = some (.inl (1, nI (i + 1), nI q', F2, T2, U2, w', -1)) := by
        unfold rdB8
        simp only [if_neg k10, tok, z_bd_some, if_neg kt, c2, z_lt_n, nI_1, fi_t]
      rw [z_lp_go c, z_lp_go d1]
      exact Al_mo (ih q' (i + 1) h' w' v' f' n' q2 s2 t2 W7 W8 F2 T2 U2 hk1 z2 (Nat.le_add_left 1 i) hk2 hC' (z3.trans hv3) (z4.trans hv4) (z5.trans hf4) (z6.trans hf5) z8 hk3 e2 m1 m2 m3 m4 m5 m7) (fun a b => RQ_mo hw')
/-- what both calls answer, and leave -/
def RA (nt : Nat) (P : Nat → DD) (g4 g5 w : Nat → Int32) (r1 : rdR) (r8 : rdR8) : Prop :=
  (∃ s' : Nat, s' ≤ nt ∧ r1.1 = (-10 : Int32) - nI s' ∧ r8.1 = (-10 : Int32) - nI s' ∧ ∀ x, x < 1437 → r8.2.2.2.2.2.2 x = w x) ∨
  (∃ (j : Nat) (v' : Nat → Int32) (f' : Nat → Nat → Int32) (n' : DD) (w' : Nat → Int32) (N T S V : Int32), 1 ≤ j ∧ j ≤ 150 ∧ r1 = (nI j, nI nt, N, T, S, V, v' 0, v' 1, v' 2, f' 0, f' 1, f' 2, f' 3, n'.2.2.2.2.2.2.2.1, n'.2.2.2.2.2.2.2.2, n'.2.2.2.2.1, n'.2.2.2.2.2.1, n'.2.2.2.2.2.2.1, 0, 0) ∧ r8.1 = nI j ∧ r8.2.2.2.2.2.2 = va_cpy w' w' 1437 0 479 ∧ RC w' 1437 v' f' n' P ∧ v' 3 = 0 ∧ v' 4 = 0 ∧ f' 4 = g4 ∧ f' 5 = g5 ∧ ∀ x, x < 1437 → w' x = w x)
theorem rd_fault {J : Int32} {w' : Nat → Int32} {A F T U : Int32} {s' : Nat} (hs : s' < 2 ^ 31) : rdT8 (J, w', A, F, T, U, nI s') = some ((-10 : Int32) - nI s', A, F, T, U, nI s', w') := by
  unfold rdT8
  simp only [fi_f hs, z_bd_some, if_true]
theorem rd_fin {nt : Nat} {P : Nat → DD} {g4 g5 w : Nat → Int32} {e : rdS ⊕ rdR} {g : rdE8} (hn : nt ≤ 150) (h : RQ nt P g4 g5 w e g) : Al (rdT7 nt e) (rdT8 g) (RA nt P g4 g5 w) := by
  have k10 : ¬ (1 : Int32) = 0 := by decide
  rcases h with ⟨j, v', f', n', N, T, S, V, w', A, F, T', U, h1, h2, rfl, rfl, h5, h6, h7, h8, h9, h10⟩ | ⟨s', rest, J, w', A, F, T, U, h1, rfl, rfl, h4⟩
  · have kj : ¬ nI j = (0 : Int32) := nI_ne (b := 0) (by omega) (by decide) (by omega)
    have cr : p_X8_copyRow w' (1437 : Int32) (0 : Int32) (479 : Int32) = some (va_cpy w' w' 1437 0 479) := p8_copyRow w' (x := 1437) (y := 0) (m := 479) (by omega) (by omega) (by omega)
    unfold rdT7 rdT8
    simp only [Sum.elim_inl, if_neg kj, z_bd_some, fi_t, if_neg k10, cr]
    exact Al_s (Or.inr ⟨j, v', f', n', w', N, T, S, V, h1, h2, rfl, rfl, rfl, h5, h6, h7, h8, h9, h10⟩)
  · rw [rd_fault (show s' < 2 ^ 31 by omega)]
    unfold rdT7
    simp only [Sum.elim_inr]
    exact Al_s (Or.inl ⟨s', h1, rfl, rfl, h4⟩)
theorem rd_clr {w : Nat → Int32} : ∀ x, x < 1437 → (fun j => if 1437 ≤ j ∧ j < 1437 + 479 then (0 : Int32) else w j) x = w x := fun x hx => if_neg (by omega)
theorem mo_read {nt : Nat} {tc : Nat → Nat} {tf tx : Nat → Int32} {w vd : Nat → Int32} {fd : Nat → Nat → Int32} {nd : DD} {P : Nat → DD} (h : TX nt tc tf tx) (d0 d1 d2 d3 d4 x1 x2 x3 x4 m5 m6 m7 m8 m9 : Int32) : Al (p_X4_readAll d0 d1 d2 d3 d4 (vd 0) (vd 1) (vd 2) (fd 0) (fd 1) (fd 2) (fd 3) x1 x2 nd.2.2.2.2.1 nd.2.2.2.2.2.1 nd.2.2.2.2.2.2.1 x3 x4 tf (nI nt)) (p_X8_read (nI nt) m5 m6 m7 m8 m9 w tx) (RA nt P (fd 4) (fd 5) w) := by
  have hn := h.1
  have k10 : ¬ (1 : Int32) = 0 := by decide
  have hx : (if (150 : Int32) < nI nt then (150 : Int32) else nI nt) = nI nt := if_neg (fun z => absurd ((nI_ltI (a := 150) (by decide) (by omega)).mp z) (by omega))
  have cl : p_X8_clearRow w (1437 : Int32) = some (fun j => if 1437 ≤ j ∧ j < 1437 + 479 then 0 else w j) := p8_clearRow w (s := 1437) (by omega)
  obtain ⟨q1, s1, t1, V7, V8, c1, c2, l1, l2, l3, l4, l5, l6, l7⟩ := mo_token h (p := 0) (Nat.zero_le _) d2 d3 d4 m6 m7 m8
  have c1' : p_X4_takeToken (nI nt) (0 : Int32) d2 d3 d4 tf = some (nI q1, nI t1, nI s1, V7) := c1
  have c2' : p_X8_nextToken (nI nt) (0 : Int32) m6 m7 m8 tx = some (nI q1, nI s1, nI t1, V8) := c2
  generalize hw1 : (fun j => if 1437 ≤ j ∧ j < 1437 + 479 then (0 : Int32) else w j) = w1 at cl
  have hfr : ∀ x, x < 1437 → w1 x = w x := fun x hx => by rw [← hw1]; exact rd_clr x hx
  have hC0 : RC w1 1437 (fun _ => 0) fd (nd.1, nd.2.1, nd.2.2.1, nd.2.2.2.1, nd.2.2.2.2.1, nd.2.2.2.2.2.1, nd.2.2.2.2.2.2.1, 0, 0) P := RC_0 (fun j hj => by rw [← hw1]; exact if_pos (by omega)) rfl rfl rfl rfl rfl rfl rfl
  unfold p_X4_readAll p_X8_read
  rw [z_lt_n, hx, show p_X0_empty (vd 0) (vd 1) (vd 2) x1 x2 x3 x4 = some ((0 : Int32), (0 : Int32), (0 : Int32), (0 : Int32), (0 : Int32), (0 : Int32), (0 : Int32)) from rfl, z_bd_some, c1', z_bd_some, cl, z_bd_some, c2', z_bd_some]
  have fin : ∀ (e : rdS ⊕ rdR) (g : rdE8) (j7 : Int32) (r8 : Int32 × Int32 × Int32 × Int32 × Int32) (r10 r5 : Int32), p_X8_spells (nI q1) (nI s1) (nI t1) tx (99 : Int32) (111 : Int32) (117 : Int32) (110 : Int32) (116 : Int32) (114 : Int32) (121 : Int32) = some r5 → (if (r5 = 0) then (z_bd (p_X8_wrong (nI s1) (-1 : Int32)) fun r32 => some r32) else (some (-1 : Int32))) = some j7 → p_X8_stop (nI nt) (nI q1) (nI s1) (nI t1) V8 j7 tx = some r8 → p_X8_fine r8.2.2.2.2 = some r10 →
      z_lp (rdB7 nt tf) ((0 : Int32), fd 0, fd 1, fd 2, fd 3, nd.2.2.2.2.1, nd.2.2.2.2.2.1, nd.2.2.2.2.2.2.1, (0 : Int32), (0 : Int32), (0 : Int32), (0 : Int32), (0 : Int32), nI q1, nI t1, nI s1, V7) = some e → z_lp (rdB8 nt tx) (r10, (1 : Int32), r8.1, r8.2.1, r8.2.2.1, r8.2.2.2.1, w1, r8.2.2.2.2) = some g → Al (rdT7 nt e) (rdT8 g) (RA nt P (fd 4) (fd 5) w) → Al (z_bd (z_lp (rdB7 nt tf) ((0 : Int32), fd 0, fd 1, fd 2, fd 3, nd.2.2.2.2.1, nd.2.2.2.2.2.1, nd.2.2.2.2.2.2.1, (0 : Int32), (0 : Int32), (0 : Int32), (0 : Int32), (0 : Int32), nI q1, nI t1, nI s1, V7)) (rdT7 nt)) (z_bd (p_X8_spells (nI q1) (nI s1) (nI t1) tx (99 : Int32) (111 : Int32) (117 : Int32) (110 : Int32) (116 : Int32) (114 : Int32) (121 : Int32)) fun r5 => z_bd (α := Int32) (if (r5 = 0) then (z_bd (p_X8_wrong (nI s1) (-1 : Int32)) fun r32 => some r32) else (some (-1 : Int32))) fun j7 => z_bd (p_X8_stop (nI nt) (nI q1) (nI s1) (nI t1) V8 j7 tx) fun r8 => z_bd (p_X8_fine r8.2.2.2.2) fun r10 => z_bd (z_lp (rdB8 nt tx) (r10, (1 : Int32), r8.1, r8.2.1, r8.2.2.1, r8.2.2.2.1, w1, r8.2.2.2.2)) rdT8) (RA nt P (fd 4) (fd 5) w) := by
    intro e g j7 r8 r10 r5 a1 a2 a3 a4 a5 a6 a7
    rw [z_bd_s a5, z_bd_s a1, z_bd_s a2, z_bd_s a3, z_bd_s a4, z_bd_s a6]
    exact a7
  have bad : p_X8_spells (nI q1) (nI s1) (nI t1) tx (99 : Int32) (111 : Int32) (117 : Int32) (110 : Int32) (116 : Int32) (114 : Int32) (121 : Int32) = some 0 → ∀ e, z_lp (rdB7 nt tf) ((0 : Int32), fd 0, fd 1, fd 2, fd 3, nd.2.2.2.2.1, nd.2.2.2.2.2.1, nd.2.2.2.2.2.2.1, (0 : Int32), (0 : Int32), (0 : Int32), (0 : Int32), (0 : Int32), nI q1, nI t1, nI s1, V7) = some e → (∃ r1, rdT7 nt e = some r1 ∧ r1.1 = (-10 : Int32) - nI s1) → Al (z_bd (z_lp (rdB7 nt tf) ((0 : Int32), fd 0, fd 1, fd 2, fd 3, nd.2.2.2.2.1, nd.2.2.2.2.2.1, nd.2.2.2.2.2.2.1, (0 : Int32), (0 : Int32), (0 : Int32), (0 : Int32), (0 : Int32), nI q1, nI t1, nI s1, V7)) (rdT7 nt)) (z_bd (p_X8_spells (nI q1) (nI s1) (nI t1) tx (99 : Int32) (111 : Int32) (117 : Int32) (110 : Int32) (116 : Int32) (114 : Int32) (121 : Int32)) fun r5 => z_bd (α := Int32) (if (r5 = 0) then (z_bd (p_X8_wrong (nI s1) (-1 : Int32)) fun r32 => some r32) else (some (-1 : Int32))) fun j7 => z_bd (p_X8_stop (nI nt) (nI q1) (nI s1) (nI t1) V8 j7 tx) fun r8 => z_bd (p_X8_fine r8.2.2.2.2) fun r10 => z_bd (z_lp (rdB8 nt tx) (r10, (1 : Int32), r8.1, r8.2.1, r8.2.2.1, r8.2.2.2.1, w1, r8.2.2.2.2)) rdT8) (RA nt P (fd 4) (fd 5) w) := by
    intro hsp e he ⟨r1, hr1, hr2⟩
    have d2 : rdB8 nt tx (0, (1 : Int32), nI q1, nI s1, nI t1, V8, w1, nI s1) = some (.inr ((1 : Int32), w1, nI q1, nI s1, nI t1, V8, nI s1)) := by
      unfold rdB8
      simp only [if_true]
    refine fin e ((1 : Int32), w1, nI q1, nI s1, nI t1, V8, nI s1) (nI s1) (nI q1, nI s1, nI t1, V8, nI s1) 0 0 hsp rfl (st_bad (by omega) _ _ _ _ _ _) (fi_f (by omega)) he (z_lp_end d2) ?_
    rw [rd_fault (show s1 < 2 ^ 31 by omega)]
    exact ⟨r1, _, hr1, rfl, Or.inl ⟨s1, by omega, hr2, rfl, hfr⟩⟩
  by_cases h1 : t1 = 1
  case neg =>
    have hsp := mo_spells8n h l2 l3 h1 l4 (99 : Int32) (111 : Int32) (117 : Int32) (110 : Int32) (116 : Int32) (114 : Int32) (121 : Int32)
    by_cases h0 : t1 = 0
    · subst h0
      have c : rdB7 nt tf ((0 : Int32), fd 0, fd 1, fd 2, fd 3, nd.2.2.2.2.1, nd.2.2.2.2.2.1, nd.2.2.2.2.2.2.1, (0 : Int32), (0 : Int32), (0 : Int32), (0 : Int32), (0 : Int32), nI q1, nI 0, nI s1, V7) = some (.inr (.inl ((0 : Int32), fd 0, fd 1, fd 2, fd 3, nd.2.2.2.2.1, nd.2.2.2.2.2.1, nd.2.2.2.2.2.2.1, (0 : Int32), (0 : Int32), (0 : Int32), (0 : Int32), (0 : Int32), nI q1, nI 0, nI s1, V7))) := by
        unfold rdB7
        simp only [show nI 0 = (0 : Int32) from rfl, if_true]
      exact bad hsp _ (z_lp_end c) ⟨_, rfl, rfl⟩
    · have kt : ¬ nI t1 = (0 : Int32) := nI_ne (b := 0) (by omega) (by decide) h0
      have kt1 : ¬ nI t1 = (1 : Int32) := nI_ne (b := 1) (by omega) (by decide) h1
      have c : rdB7 nt tf ((0 : Int32), fd 0, fd 1, fd 2, fd 3, nd.2.2.2.2.1, nd.2.2.2.2.2.1, nd.2.2.2.2.2.2.1, (0 : Int32), (0 : Int32), (0 : Int32), (0 : Int32), (0 : Int32), nI q1, nI t1, nI s1, V7) = some (.inr (.inr ((-10 : Int32) - nI s1, nI nt, nI q1, nI t1, nI s1, V7, (0 : Int32), (0 : Int32), (0 : Int32), fd 0, fd 1, fd 2, fd 3, (0 : Int32), (0 : Int32), nd.2.2.2.2.1, nd.2.2.2.2.2.1, nd.2.2.2.2.2.2.1, 0, 0))) := by
        unfold rdB7 p_X4_takeItem
        simp only [if_neg kt, if_neg kt1, show ¬ (150 : Int32) < 0 from by decide, if_false, z_bd_some, if_true]
      exact bad hsp _ (z_lp_end c) ⟨_, rfl, rfl⟩
  subst h1
  have hq1 : s1 < q1 := l5 (by decide)
  have a0 := sp7 h (i := 0) (by decide) hq1 l3
  have b0 : (WM tc s1 q1 0 → p_X8_spells (nI q1) (nI s1) (nI 1) tx (99 : Int32) (111 : Int32) (117 : Int32) (110 : Int32) (116 : Int32) (114 : Int32) (121 : Int32) = some 1) ∧ (¬ WM tc s1 q1 0 → p_X8_spells (nI q1) (nI s1) (nI 1) tx (99 : Int32) (111 : Int32) (117 : Int32) (110 : Int32) (116 : Int32) (114 : Int32) (121 : Int32) = some 0) := sp8 h (i := 0) (by decide) hq1 l3 (l7 rfl)
  have k150 : ¬ (150 : Int32) < 0 := by decide
  have kz0 : z_bz (0 : Int32) = true := by decide
  have kz1 : z_bz (1 : Int32) = true := by decide
  have kn1 : ¬ nI 1 = (0 : Int32) := by decide
  have kn2 : nI 1 = (1 : Int32) := rfl
  by_cases m0 : WM tc s1 q1 0
  case neg =>
    have c : rdB7 nt tf ((0 : Int32), fd 0, fd 1, fd 2, fd 3, nd.2.2.2.2.1, nd.2.2.2.2.2.1, nd.2.2.2.2.2.2.1, (0 : Int32), (0 : Int32), (0 : Int32), (0 : Int32), (0 : Int32), nI q1, nI 1, nI s1, V7) = some (.inr (.inr ((-10 : Int32) - nI s1, nI nt, nI q1, nI 1, nI s1, V7, (0 : Int32), (0 : Int32), (0 : Int32), fd 0, fd 1, fd 2, fd 3, (0 : Int32), (0 : Int32), nd.2.2.2.2.1, nd.2.2.2.2.2.1, nd.2.2.2.2.2.2.1, 0, 0))) := by
      unfold rdB7 p_X4_takeItem
      simp only [if_neg kn1, if_pos kn2, if_neg k150, if_true, a0.2 m0, z_bd_some, kz0, z_gd_tt]
    exact bad (b0.2 m0) _ (z_lp_end c) ⟨_, rfl, rfl⟩
  obtain ⟨ok4, q4, s4, t4, V4, W4, F4, c4, d4, l4', p4, y4, n4⟩ := mo_stp h l3 (nI 1) (nI s1) V7 (nI s1) (nI 1) V8
  cases ok4
  · have := n4 rfl
    subst this
    have c : rdB7 nt tf ((0 : Int32), fd 0, fd 1, fd 2, fd 3, nd.2.2.2.2.1, nd.2.2.2.2.2.1, nd.2.2.2.2.2.2.1, (0 : Int32), (0 : Int32), (0 : Int32), (0 : Int32), (0 : Int32), nI q1, nI 1, nI s1, V7) = some (.inr (.inr ((-10 : Int32) - nI s4, nI nt, nI q4, nI t4, nI s4, V4, (0 : Int32), (0 : Int32), (0 : Int32), fd 0, fd 1, fd 2, fd 3, (0 : Int32), (0 : Int32), nd.2.2.2.2.1, nd.2.2.2.2.2.1, nd.2.2.2.2.2.2.1, 0, 0))) := by
      unfold rdB7 p_X4_takeItem
      simp only [if_neg kn1, if_pos kn2, if_neg k150, if_true, a0.1 m0, z_bd_some, if_neg k10, c4, b2_f0, kz0, z_gd_tt]
    have d2 : rdB8 nt tx (0, (1 : Int32), nI q4, nI s4, nI t4, W4, w1, nI s4) = some (.inr ((1 : Int32), w1, nI q4, nI s4, nI t4, W4, nI s4)) := by
      unfold rdB8
      simp only [if_true]
    refine fin _ ((1 : Int32), w1, nI q4, nI s4, nI t4, W4, nI s4) (-1) (nI q4, nI s4, nI t4, W4, nI s4) 0 1 (b0.1 m0) rfl d4 (fi_f (by omega)) (z_lp_end c) (z_lp_end d2) ?_
    rw [rd_fault (show s4 < 2 ^ 31 by omega)]
    exact ⟨_, _, rfl, rfl, Or.inl ⟨s4, l4', rfl, rfl, hfr⟩⟩
  · obtain ⟨z1, rfl⟩ := y4 rfl
    obtain ⟨q2, s2, t2, W7, W8, e1, e2, m1, m2, m3, m4, m5', m6', m7'⟩ := mo_token h p4 (nI t4) (nI s4) V4 (nI s4) (nI t4) W4
    have c : rdB7 nt tf ((0 : Int32), fd 0, fd 1, fd 2, fd 3, nd.2.2.2.2.1, nd.2.2.2.2.2.1, nd.2.2.2.2.2.2.1, (0 : Int32), (0 : Int32), (0 : Int32), (0 : Int32), (0 : Int32), nI q1, nI 1, nI s1, V7) = some (.inl (nI 1, fd 0, fd 1, fd 2, fd 3, nd.2.2.2.2.1, nd.2.2.2.2.2.1, nd.2.2.2.2.2.2.1, (0 : Int32), (0 : Int32), (0 : Int32), (0 : Int32), (0 : Int32), nI q2, nI t2, nI s2, W7)) := by
      unfold rdB7 p_X4_takeItem
      simp only [if_neg kn1, if_pos kn2, if_neg k150, if_true, a0.1 m0, z_bd_some, if_neg k10, c4, b2_t0, if_false, kz1, z_gd_tt, z_lt_n, e1]
      rfl
    obtain ⟨e, g, k1, k2, hRQ⟩ := rd_loop (P := P) (g4 := fd 4) (g5 := fd 5) h (nt - q4) q4 1 0 w1 (fun _ => 0) fd (nd.1, nd.2.1, nd.2.2.1, nd.2.2.2.1, nd.2.2.2.2.1, nd.2.2.2.2.2.1, nd.2.2.2.2.2.2.1, 0, 0) q2 s2 t2 W7 W8 (nI s4) (nI t4) W4 (Nat.le_refl _) p4 (by omega) (by omega) hC0 rfl rfl rfl rfl rfl (by omega) e2 m1 m2 m3 m4 m5' m7'
    exact fin e g (-1) (nI q4, nI s4, nI t4, W4, -1) 1 1 (b0.1 m0) rfl d4 fi_t ((z_lp_go c).trans k1) k2 (rd_fin hn (RQ_mo hfr hRQ))
theorem q_5 {x : Nat → Int32} {v : Nat → Int32} {f : Nat → Nat → Int32} {n : DD} {P : Nat → DD} {kf : Nat → Int32} {tf : Nat → Int32} {dv : Nat → Int32} {vd : Nat → Int32} {fd : Nat → Nat → Int32} {nd : DD} {Pd : Nat → DD} {v0 : Nat → Int32} {f0 : Nat → Nat → Int32} {n0 : DD} {P0 : Nat → DD} {v1 : Nat → Int32} {f1 : Nat → Nat → Int32} {n1 : DD} {P1 : Nat → DD} {mv : Nat → Int32} {ma : Int64} {mb : Int64} {w : Nat → Int32} {tx : Nat → Int32} (hR : RelX x v f n P kf tf v0 f0 n0 P0 v1 f1 n1 P1 mv ma mb w tx) : ∃ (r7 : Int32 × Int32 × Int32 × Int32 × (Nat → Int32) × (Nat → Int32) × (Nat → Int32) × (Nat → Int32) × Int32 × Int32 × (Nat → Int32) × (Nat → Int32) × (Nat → Int32) × (Nat → DD) × Int32 × (Nat → Int32) × Int32 × (Nat → Int32) × Int32 × Int32 × Int32 × Int32 × Int32 × Int32 × Int32 × Int32 × (Nat → Int32) × (Nat → Int32) × (Nat → Int32) × (Nat → Int32) × Int32 × Int32 × (Nat → Int32) × (Nat → Int32) × (Nat → Int32) × Int32 × Int32) (r8 : Int32 × Int32 × Int32 × Int32 × Int32 × Int32 × (Nat → Int32)), p_X7_read (x 0) (v 0) (v 1) (v 2) (f 0) (f 1) (f 2) (f 3) n.2.2.2.2.2.2.2.1 n.2.2.2.2.2.2.2.2 n.2.2.2.2.1 n.2.2.2.2.2.1 n.2.2.2.2.2.2.1 P (v 3) (f 4) (v 4) (f 5) tf (dv 0) (dv 1) (dv 2) (dv 3) (dv 4) (vd 0) (vd 1) (vd 2) (fd 0) (fd 1) (fd 2) (fd 3) nd.2.2.2.2.2.2.2.1 nd.2.2.2.2.2.2.2.2 nd.2.2.2.2.1 nd.2.2.2.2.2.1 nd.2.2.2.2.2.2.1 Pd (vd 3) (fd 4) (vd 4) (fd 5) = some r7 ∧ p_X8_read (mv 1) (mv 5) (mv 6) (mv 7) (mv 8) (mv 9) w tx = some r8 ∧ r7.1 = r8.1 ∧ RelX x (va_up (va_up (va_up (va_up (va_up v 0 r7.2.1) 1 r7.2.2.1) 2 r7.2.2.2.1) 3 r7.2.2.2.2.2.2.2.2.2.2.2.2.2.2.1) 4 r7.2.2.2.2.2.2.2.2.2.2.2.2.2.2.2.2.1) (va_up (va_up (va_up (va_up (va_up (va_up f 0 r7.2.2.2.2.1) 1 r7.2.2.2.2.2.1) 2 r7.2.2.2.2.2.2.1) 3 r7.2.2.2.2.2.2.2.1) 4 r7.2.2.2.2.2.2.2.2.2.2.2.2.2.2.2.1) 5 r7.2.2.2.2.2.2.2.2.2.2.2.2.2.2.2.2.2.1) (n.1, n.2.1, n.2.2.1, n.2.2.2.1, r7.2.2.2.2.2.2.2.2.2.2.1, r7.2.2.2.2.2.2.2.2.2.2.2.1, r7.2.2.2.2.2.2.2.2.2.2.2.2.1, r7.2.2.2.2.2.2.2.2.1, r7.2.2.2.2.2.2.2.2.2.1) r7.2.2.2.2.2.2.2.2.2.2.2.2.2.1 kf tf v0 f0 n0 P0 v1 f1 n1 P1 (va_up (va_up (va_up (va_up (va_up mv 5 r8.2.1) 6 r8.2.2.1) 7 r8.2.2.2.1) 8 r8.2.2.2.2.1) 9 r8.2.2.2.2.2.1) ma mb r8.2.2.2.2.2.2 tx := by
  obtain ⟨hC, hRR⟩ := hR
  obtain ⟨⟨nt, hnt, hx0, hm1, htx⟩, hrest⟩ := id hRR
  obtain ⟨tc, htc⟩ : ∃ tc : Nat → Nat, ∀ j, j < nt → tc j < 128 ∧ tf j = nI (tc j) ∧ tx j = nI (tc j) := by
    have hex : ∀ j, ∃ c : Nat, j < nt → c < 128 ∧ tf j = nI c ∧ tx j = nI c := by
      intro j
      by_cases hj : j < nt
      · obtain ⟨c, h1, h2, h3⟩ := htx j hj
        exact ⟨c, fun _ => ⟨h1, h2, h3⟩⟩
      · exact ⟨0, fun z => absurd z hj⟩
    exact ⟨fun j => Classical.choose (hex j), fun j => Classical.choose_spec (hex j)⟩
  have hTX : TX nt tc tf tx := ⟨hnt, htc⟩
  obtain ⟨r1, r8, k1, k2, hRA⟩ := mo_read (w := w) (vd := vd) (fd := fd) (nd := nd) (P := Pd) hTX (dv 0) (dv 1) (dv 2) (dv 3) (dv 4) nd.2.2.2.2.2.2.2.1 nd.2.2.2.2.2.2.2.2 (vd 3) (vd 4) (mv 5) (mv 6) (mv 7) (mv 8) (mv 9)
  unfold p_X7_read
  rw [hx0, hm1, z_bd_s k1, k2]
  rcases hRA with ⟨s', hs', e1, e2, hfr⟩ | ⟨j, v', f', n', w', N, T, S, V, h1, h2, rfl, e2, e3, hC', g3, g4, g5, g6, hfr⟩
  · have kn : r1.1 < (0 : Int32) := by
      rw [e1]
      have h5 := pk_sneg (a := 0) (b := s' + 10) (by omega) (by omega)
      have h6 : (-10 : Int32) - nI s' = nI 0 - nI (s' + 10) := by
        rw [← nI_add s' 10]
        apply Int32.toBitVec_inj.mp
        rw [Int32.toBitVec_sub, Int32.toBitVec_sub, Int32.toBitVec_add]
        have a1 : (-10 : Int32).toBitVec = (nI 0).toBitVec - (nI 10).toBitVec := by decide
        rw [a1]
        bv_omega
      rw [h6]; exact h5
    rw [if_pos kn, z_bd_some]
    exact ⟨_, _, rfl, rfl, e1.trans e2.symm, RC_w (fun j hj => hfr _ (by omega)) hC, RR_w (fun j h1 h2 => hfr j (by omega)) hRR⟩
  · have kn : ¬ nI j < (0 : Int32) := nI_pos (by omega)
    obtain ⟨nb, hnb, e2'⟩ := RC_nb hC'
    have hb := mo_become (v := v') (v0 := v) (f := f') (f0 := f) (n := n') (n0 := n) (P := Pd) (P0 := P) hnb e2'
    rw [g3, g4, g5, g6] at hb
    dsimp only
    rw [if_neg kn, hb, z_bd_some, z_bd_some]
    have hin : ∀ x, x < 479 → r8.2.2.2.2.2.2 (0 + x) = w' (1437 + x) := by
      intro x hx
      rw [e3, pk_cpy_in (by omega) (by omega)]
      exact congrArg w' (by omega)
    refine ⟨_, _, rfl, rfl, e2.symm, RC_cp hC' hin rfl rfl rfl g3.symm g4.symm (fun j hj => cp_eq hj) (fun j hj => cp_eq hj) (fun j hj => cp_eq hj) (fun j hj => cp_eq hj) (fun j hj => ?_) (fun j hj => ?_) (fun j hj => cp_eq hj) (fun j hj => cp_eq hj) (fun j hj => cp_eq hj) rfl rfl (cpP_e hnb e2'), RR_w (fun j h1 h2 => ?_) hRR⟩
    · rw [g5]; exact cp_eq hj
    · rw [g6]; exact cp_eq hj
    · rw [e3, pk_cpy_out (by omega)]; exact hfr j (by omega)
