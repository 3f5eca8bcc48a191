/-! read: the text item by item, on both sides. -/
noncomputable def rdB7 (nt : Nat) (tf : Nat → Int32) (s6 : Int32 × (Nat → Int32) × (Nat → Int32) × (Nat → Int32) × (Nat → Int32) × (Nat → Int32) × (Nat → Int32) × (Nat → Int32) × Int32 × Int32 × Int32 × Int32 × Int32 × Int32 × Int32 × Int32 × Int32) : Option ((Int32 × (Nat → Int32) × (Nat → Int32) × (Nat → Int32) × (Nat → Int32) × (Nat → Int32) × (Nat → Int32) × (Nat → Int32) × Int32 × Int32 × Int32 × Int32 × Int32 × Int32 × Int32 × Int32 × Int32) ⊕ ((Int32 × (Nat → Int32) × (Nat → Int32) × (Nat → Int32) × (Nat → Int32) × (Nat → Int32) × (Nat → Int32) × (Nat → Int32) × Int32 × Int32 × Int32 × Int32 × Int32 × Int32 × Int32 × Int32 × Int32) ⊕ (Int32 × Int32 × Int32 × Int32 × Int32 × Int32 × Int32 × Int32 × Int32 × (Nat → Int32) × (Nat → Int32) × (Nat → Int32) × (Nat → Int32) × Int32 × Int32 × (Nat → Int32) × (Nat → Int32) × (Nat → Int32) × Int32 × Int32))) :=
  if (s6.2.2.2.2.2.2.2.2.2.2.2.2.2.2.1 = 0) then
  (some (.inr (.inl (s6.1, s6.2.1, s6.2.2.1, s6.2.2.2.1, s6.2.2.2.2.1, s6.2.2.2.2.2.1, s6.2.2.2.2.2.2.1, s6.2.2.2.2.2.2.2.1, s6.2.2.2.2.2.2.2.2.1, s6.2.2.2.2.2.2.2.2.2.1, s6.2.2.2.2.2.2.2.2.2.2.1, s6.2.2.2.2.2.2.2.2.2.2.2.1, s6.2.2.2.2.2.2.2.2.2.2.2.2.1, s6.2.2.2.2.2.2.2.2.2.2.2.2.2.1, s6.2.2.2.2.2.2.2.2.2.2.2.2.2.2.1, s6.2.2.2.2.2.2.2.2.2.2.2.2.2.2.2.1, s6.2.2.2.2.2.2.2.2.2.2.2.2.2.2.2.2)))) else
  (if ((150 : Int32) < s6.1) then
  (some (.inr (.inl (s6.1, s6.2.1, s6.2.2.1, s6.2.2.2.1, s6.2.2.2.2.1, s6.2.2.2.2.2.1, s6.2.2.2.2.2.2.1, s6.2.2.2.2.2.2.2.1, s6.2.2.2.2.2.2.2.2.1, s6.2.2.2.2.2.2.2.2.2.1, s6.2.2.2.2.2.2.2.2.2.2.1, s6.2.2.2.2.2.2.2.2.2.2.2.1, s6.2.2.2.2.2.2.2.2.2.2.2.2.1, s6.2.2.2.2.2.2.2.2.2.2.2.2.2.1, s6.2.2.2.2.2.2.2.2.2.2.2.2.2.2.1, s6.2.2.2.2.2.2.2.2.2.2.2.2.2.2.2.1, s6.2.2.2.2.2.2.2.2.2.2.2.2.2.2.2.2)))) else
  (z_bd (p_X4_takeItem (nI nt) s6.2.2.2.2.2.2.2.2.2.2.2.2.2.1 s6.2.2.2.2.2.2.2.2.2.2.2.2.2.2.1 s6.2.2.2.2.2.2.2.2.2.2.2.2.2.2.2.1 s6.2.2.2.2.2.2.2.2.2.2.2.2.2.2.2.2 s6.2.2.2.2.2.2.2.2.1 s6.2.2.2.2.2.2.2.2.2.1 s6.2.2.2.2.2.2.2.2.2.2.1 s6.2.1 s6.2.2.1 s6.2.2.2.1 s6.2.2.2.2.1 s6.2.2.2.2.2.2.2.2.2.2.2.1 s6.2.2.2.2.2.2.2.2.2.2.2.2.1 s6.2.2.2.2.2.1 s6.2.2.2.2.2.2.1 s6.2.2.2.2.2.2.2.1 tf s6.1) fun r14 =>
  if (r14.1 = 0) then
  (some (.inr (.inr (((-10 : Int32) - r14.2.2.2.1), (nI nt), r14.2.1, r14.2.2.1, r14.2.2.2.1, r14.2.2.2.2.1, r14.2.2.2.2.2.1, r14.2.2.2.2.2.2.1, r14.2.2.2.2.2.2.2.1, r14.2.2.2.2.2.2.2.2.1, r14.2.2.2.2.2.2.2.2.2.1, r14.2.2.2.2.2.2.2.2.2.2.1, r14.2.2.2.2.2.2.2.2.2.2.2.1, r14.2.2.2.2.2.2.2.2.2.2.2.2.1, r14.2.2.2.2.2.2.2.2.2.2.2.2.2.1, r14.2.2.2.2.2.2.2.2.2.2.2.2.2.2.1, r14.2.2.2.2.2.2.2.2.2.2.2.2.2.2.2.1, r14.2.2.2.2.2.2.2.2.2.2.2.2.2.2.2.2, (0 : Int32), (0 : Int32))))) else
  (z_lt (s6.1 + (1 : Int32)) fun x17 =>
  z_bd (p_X4_takeToken (nI nt) r14.2.1 r14.2.2.1 r14.2.2.2.1 r14.2.2.2.2.1 tf) fun r18 =>
  some (.inl (x17, r14.2.2.2.2.2.2.2.2.1, r14.2.2.2.2.2.2.2.2.2.1, r14.2.2.2.2.2.2.2.2.2.2.1, r14.2.2.2.2.2.2.2.2.2.2.2.1, r14.2.2.2.2.2.2.2.2.2.2.2.2.2.2.1, r14.2.2.2.2.2.2.2.2.2.2.2.2.2.2.2.1, r14.2.2.2.2.2.2.2.2.2.2.2.2.2.2.2.2, r14.2.2.2.2.2.1, r14.2.2.2.2.2.2.1, r14.2.2.2.2.2.2.2.1, r14.2.2.2.2.2.2.2.2.2.2.2.2.1, r14.2.2.2.2.2.2.2.2.2.2.2.2.2.1, r18.1, r18.2.1, r18.2.2.1, r18.2.2.2)))))
noncomputable def rdB8 (nt : Nat) (tx : Nat → Int32) (s12 : Int32 × Int32 × Int32 × Int32 × Int32 × Int32 × (Nat → Int32) × Int32) : Option ((Int32 × Int32 × Int32 × Int32 × Int32 × Int32 × (Nat → Int32) × Int32) ⊕ (Int32 × (Nat → Int32) × Int32 × Int32 × Int32 × Int32 × Int32)) :=
  if (s12.1 = 0) then
  (some (.inr (s12.2.1, s12.2.2.2.2.2.2.1, s12.2.2.1, s12.2.2.2.1, s12.2.2.2.2.1, s12.2.2.2.2.2.1, s12.2.2.2.2.2.2.2))) else
  (z_bd (p_X8_nextToken (nI nt) s12.2.2.1 s12.2.2.2.1 s12.2.2.2.2.1 s12.2.2.2.2.2.1 tx) fun r21 =>
  z_bd (α := Int32) (if (r21.2.2.1 = 0) then
  (some (0 : Int32)) else
  (some (1 : Int32))) fun j23 =>
  if (j23 = 0) then
  (some (.inl (j23, s12.2.1, r21.1, r21.2.1, r21.2.2.1, r21.2.2.2, s12.2.2.2.2.2.2.1, s12.2.2.2.2.2.2.2))) else
  (z_bd (p_X8_readItem (nI nt) r21.1 r21.2.1 r21.2.2.1 r21.2.2.2 s12.2.2.2.2.2.2.2 s12.2.2.2.2.2.2.1 tx) fun r25 =>
  z_lt (s12.2.1 + (1 : Int32)) fun x27 =>
  z_bd (p_X8_fine r25.2.2.2.2.1) fun r28 =>
  some (.inl (r28, x27, r25.1, r25.2.1, r25.2.2.1, r25.2.2.2.1, r25.2.2.2.2.2, r25.2.2.2.2.1))))
theorem sp7 {nt : Nat} {tc : Nat → Nat} {tf tx : Nat → Int32} (h : TX nt tc tf tx) {st q i : Nat} (hi : i < 6) (hq : st < q) (hqn : q ≤ nt) : (WM tc st q i → p_X4_spells (nI q) (nI st) tf i = some 1) ∧ (¬ WM tc st q i → p_X4_spells (nI q) (nI st) tf i = some 0) := by
  have e := @mo_spells7 nt tc tf tx h st q i hi hq hqn (Classical.propDecidable _)
  refine ⟨fun z => ?_, fun z => ?_⟩
  · rw [@decide_eq_true _ (Classical.propDecidable _) z] at e; exact e
  · rw [@decide_eq_false _ (Classical.propDecidable _) z] at e; exact e
theorem sp8 {nt : Nat} {tc : Nat → Nat} {tf tx : Nat → Int32} (h : TX nt tc tf tx) {st q i : Nat} (hi : i < 6) (hq : st < q) (hqn : q ≤ nt) (hl : ∀ j, st ≤ j → j < q → Lt tc j = true) : (WM tc st q i → p_X8_spells (nI q) (nI st) (nI 1) tx (nI (wc i 0)) (nI (wc i 1)) (nI (wc i 2)) (nI (wc i 3)) (nI (wc i 4)) (nI (wc i 5)) (nI (wc i 6)) = some 1) ∧ (¬ WM tc st q i → p_X8_spells (nI q) (nI st) (nI 1) tx (nI (wc i 0)) (nI (wc i 1)) (nI (wc i 2)) (nI (wc i 3)) (nI (wc i 4)) (nI (wc i 5)) (nI (wc i 6)) = some 0) := by
  have e := @mo_spells8 nt tc tf tx h st q i hi hq hqn hl (Classical.propDecidable _)
  refine ⟨fun z => ?_, fun z => ?_⟩
  · rw [@decide_eq_true _ (Classical.propDecidable _) z] at e; exact e
  · rw [@decide_eq_false _ (Classical.propDecidable _) z] at e; exact e
section TK
variable {nt : Nat} {tc : Nat → Nat} {tf tx : Nat → Int32} {w v : Nat → Int32} {f : Nat → Nat → Int32} {n : DD} {P : Nat → DD}
theorem mo_item (h : TX nt tc tf tx) {q st tk hr i : Nat} (hq : q ≤ nt) (hst : st ≤ q) (htk : tk ≤ 4) (hsq : tk ≠ 0 → st < q) (hl : tk = 1 → ∀ j, st ≤ j → j < q → Lt tc j = true) (hi : 1 ≤ i) (hi2 : i ≤ 150) (hC : RC w 1437 v f n P) (hh : n.2.2.2.2.2.2.2.2 = nI hr) (hr9 : hr ≤ 9000) (V7 V8 : Int32) :
    ∃ (ok : Bool) (q' t' s' : Nat) (V : Int32) (v' : Nat → Int32) (f' : Nat → Nat → Int32) (n' : DD) (A2 F2 T2 U2 G2 : Int32) (w' : Nat → Int32), p_X4_takeItem (nI nt) (nI q) (nI tk) (nI st) V7 (v 0) (v 1) (v 2) (f 0) (f 1) (f 2) (f 3) n.2.2.2.2.2.2.2.1 n.2.2.2.2.2.2.2.2 n.2.2.2.2.1 n.2.2.2.2.2.1 n.2.2.2.2.2.2.1 tf (nI i) = some (b2 ok, nI q', nI t', nI s', V, v' 0, v' 1, v' 2, f' 0, f' 1, f' 2, f' 3, n'.2.2.2.2.2.2.2.1, n'.2.2.2.2.2.2.2.2, n'.2.2.2.2.1, n'.2.2.2.2.2.1, n'.2.2.2.2.2.2.1) ∧ p_X8_readItem (nI nt) (nI q) (nI st) (nI tk) V8 (-1) w tx = some (A2, F2, T2, U2, G2, w') ∧ IT nt q hr w w' v f P ok q' s' A2 G2 v' f' n' := by
  have hn := h.1
  have k10 : ¬ (1 : Int32) = 0 := by decide
  have ki : ¬ nI i = (0 : Int32) := nI_ne (b := 0) (by omega) (by decide) (by omega)
  by_cases ht : tk = 1
  case neg =>
    have kt : ¬ nI tk = (1 : Int32) := nI_ne (b := 1) (by omega) (by decide) ht
    have s8 := fun c0 c1 c2 c3 c4 c5 c6 => mo_spells8n h hst hq ht htk c0 c1 c2 c3 c4 c5 c6
    unfold p_X4_takeItem p_X8_readItem
    simp only [if_neg kt, s8, z_bd_some, if_true, wr_t, st_bad (show st < 2 ^ 31 by omega)]
    exact ⟨false, q, tk, st, _, v, f, n, _, _, _, _, _, _, rfl, rfl, IT_f (fun _ _ => rfl) rfl (by omega)⟩
  subst ht
  have kt : nI 1 = (1 : Int32) := rfl
  have hq1 : st < q := hsq (by decide)
  have hl' := hl rfl
  have a1 := sp7 h (i := 1) (by decide) hq1 hq
  have a2 := sp7 h (i := 2) (by decide) hq1 hq
  have a3 := sp7 h (i := 3) (by decide) hq1 hq
  have a4 := sp7 h (i := 4) (by decide) hq1 hq
  have a5 := sp7 h (i := 5) (by decide) hq1 hq
  have b1 : (WM tc st q 1 → p_X8_spells (nI q) (nI st) (nI 1) tx (112 : Int32) (108 : Int32) (97 : Int32) (99 : Int32) (101 : Int32) (0 : Int32) (0 : Int32) = some 1) ∧ (¬ WM tc st q 1 → p_X8_spells (nI q) (nI st) (nI 1) tx (112 : Int32) (108 : Int32) (97 : Int32) (99 : Int32) (101 : Int32) (0 : Int32) (0 : Int32) = some 0) := sp8 h (i := 1) (by decide) hq1 hq hl'
  have b2' : (WM tc st q 2 → p_X8_spells (nI q) (nI st) (nI 1) tx (99 : Int32) (114 : Int32) (111 : Int32) (119 : Int32) (0 : Int32) (0 : Int32) (0 : Int32) = some 1) ∧ (¬ WM tc st q 2 → p_X8_spells (nI q) (nI st) (nI 1) tx (99 : Int32) (114 : Int32) (111 : Int32) (119 : Int32) (0 : Int32) (0 : Int32) (0 : Int32) = some 0) := sp8 h (i := 2) (by decide) hq1 hq hl'
  have b3 : (WM tc st q 3 → p_X8_spells (nI q) (nI st) (nI 1) tx (102 : Int32) (108 : Int32) (121 : Int32) (0 : Int32) (0 : Int32) (0 : Int32) (0 : Int32) = some 1) ∧ (¬ WM tc st q 3 → p_X8_spells (nI q) (nI st) (nI 1) tx (102 : Int32) (108 : Int32) (121 : Int32) (0 : Int32) (0 : Int32) (0 : Int32) (0 : Int32) = some 0) := sp8 h (i := 3) (by decide) hq1 hq hl'
  have b4 : (WM tc st q 4 → p_X8_spells (nI q) (nI st) (nI 1) tx (114 : Int32) (101 : Int32) (115 : Int32) (116 : Int32) (0 : Int32) (0 : Int32) (0 : Int32) = some 1) ∧ (¬ WM tc st q 4 → p_X8_spells (nI q) (nI st) (nI 1) tx (114 : Int32) (101 : Int32) (115 : Int32) (116 : Int32) (0 : Int32) (0 : Int32) (0 : Int32) = some 0) := sp8 h (i := 4) (by decide) hq1 hq hl'
  have b5 : (WM tc st q 5 → p_X8_spells (nI q) (nI st) (nI 1) tx (104 : Int32) (111 : Int32) (117 : Int32) (114 : Int32) (115 : Int32) (0 : Int32) (0 : Int32) = some 1) ∧ (¬ WM tc st q 5 → p_X8_spells (nI q) (nI st) (nI 1) tx (104 : Int32) (111 : Int32) (117 : Int32) (114 : Int32) (115 : Int32) (0 : Int32) (0 : Int32) = some 0) := sp8 h (i := 5) (by decide) hq1 hq hl'
  unfold p_X4_takeItem p_X8_readItem
  rw [if_pos kt, if_neg ki]
  by_cases m1 : WM tc st q 1
  · obtain ⟨ok, q', t', s', V, pl, ps, k, x, y, A, F, T, U, G, w', A2, F2, T2, U2, G2, c1, c2, c3, c4⟩ := mo_rPlace (tk := 1) h hq (show st ≤ nt by omega) hC hh V7 (nI 1) V8
    rw [a1.1 m1, b1.1 m1]
    simp only [z_bd_some, if_neg k10, c1, c2, c3, b2_bz, z_gd_tt]
    exact ⟨ok, q', t', s', V, _, _, n, _, _, _, _, _, _, rfl, rfl, c4⟩
  rw [a1.2 m1, b1.2 m1]
  simp only [z_bd_some, if_true]
  by_cases m2 : WM tc st q 2
  · obtain ⟨ok, q', t', s', V, cr, ps, ck, ca, ct, A, F, T, U, G, w', A2, F2, T2, U2, G2, c1, c2, c3, c4⟩ := mo_rCrow (tk := 1) h hq (show st ≤ nt by omega) hC hh V7 (nI 1) V8
    rw [a2.1 m2, b2'.1 m2]
    simp only [z_bd_some, if_neg k10, c1, c2, c3, b2_bz, z_gd_tt]
    exact ⟨ok, q', t', s', V, _, _, _, _, _, _, _, _, _, rfl, rfl, c4⟩
  rw [a2.2 m2, b2'.2 m2]
  simp only [z_bd_some, if_true]
  by_cases m3 : WM tc st q 3
  · obtain ⟨ok, q', t', s', V, cd, ch, ca, ct, co, A, F, T, U, G, w', A2, F2, T2, U2, G2, c1, c2, c3, c4⟩ := mo_rFly (tk := 1) h hq (show st ≤ nt by omega) hC hh hr9 V7 (nI 1) V8
    rw [a3.1 m3, b3.1 m3]
    simp only [z_bd_some, if_neg k10, c1, c2, c3, b2_bz, z_gd_tt]
    exact ⟨ok, q', t', s', V, v, f, _, _, _, _, _, _, _, rfl, rfl, c4⟩
  rw [a3.2 m3, b3.2 m3]
  simp only [z_bd_some, if_true]
  by_cases m4 : WM tc st q 4
  · obtain ⟨ok, q', t', s', V, ch, ct, A, F, T, U, G, w', A2, F2, T2, U2, G2, c1, c2, c3, c4⟩ := mo_rRest (tk := 1) h hq (show st ≤ nt by omega) hC hh hr9 V7 (nI 1) V8
    rw [a4.1 m4, b4.1 m4]
    simp only [z_bd_some, if_neg k10, c1, c2, c3, b2_bz, z_gd_tt]
    exact ⟨ok, q', t', s', V, v, f, _, _, _, _, _, _, _, rfl, rfl, c4⟩
  rw [a4.2 m4, b4.2 m4]
  simp only [z_bd_some, if_true]
  by_cases m5 : WM tc st q 5
  · obtain ⟨ok, q', t', s', V, ch, A, F, T, U, G, w', A2, F2, T2, U2, G2, c1, c2, c3, c4⟩ := mo_rHours (tk := 1) h hq (show st ≤ nt by omega) hC hh hr9 V7 (nI 1) V8
    rw [a5.1 m5, b5.1 m5]
    simp only [z_bd_some, if_neg k10, c1, c2, c3]
    cases ok
    · simp only [b2_f0, if_true, z_bd_some, show z_bz (0 : Int32) = true from by decide, z_gd_tt]
      exact ⟨false, q', t', s', V, v, f, _, _, _, _, _, _, _, rfl, rfl, c4⟩
    · simp only [b2_t0, if_false, z_bd_some, show z_bz (1 : Int32) = true from by decide, z_gd_tt]
      exact ⟨true, q', t', s', V, v, f, _, _, _, _, _, _, _, rfl, rfl, c4⟩
  rw [a5.2 m5, b5.2 m5]
  simp only [z_bd_some, if_true, wr_t, st_bad (show st < 2 ^ 31 by omega), show z_bz (0 : Int32) = true from by decide, z_gd_tt]
  exact ⟨false, q, 1, st, _, v, f, n, _, _, _, _, _, _, rfl, rfl, IT_f (fun _ _ => rfl) rfl (by omega)⟩
end TK
