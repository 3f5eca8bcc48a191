/-! image and from: a country copied. -/
theorem RC_cp {w w' v v' : Nat → Int32} {f f' : Nat → Nat → Int32} {n n' : DD} {P P' : Nat → DD} {s s' : Nat} (h : RC w s v f n P) (hw : ∀ j, j < 479 → w' (s' + j) = w (s + j)) (a0 : v' 0 = v 0) (a1 : v' 1 = v 1) (a2 : v' 2 = v 2) (a3 : v' 3 = v 3) (a4 : v' 4 = v 4)
    (h0 : ∀ j, j < 7 → f' 0 j = f 0 j) (h1 : ∀ j, j < 7 → f' 1 j = f 1 j) (h2 : ∀ j, j < 7 → f' 2 j = f 2 j) (h3 : ∀ j, j < 3 → f' 3 j = f 3 j) (h4 : ∀ j, j < 30 → f' 4 j = f 4 j) (h5 : ∀ j, j < 30 → f' 5 j = f 5 j)
    (ea : ∀ j, j < 3 → n'.2.2.2.2.1 j = n.2.2.2.2.1 j) (et : ∀ j, j < 3 → n'.2.2.2.2.2.1 j = n.2.2.2.2.2.1 j) (er : ∀ j, j < 36 → n'.2.2.2.2.2.2.1 j = n.2.2.2.2.2.2.1 j) (en : n'.2.2.2.2.2.2.2.1 = n.2.2.2.2.2.2.2.1) (eh : n'.2.2.2.2.2.2.2.2 = n.2.2.2.2.2.2.2.2)
    (hP : ∀ nb, nb ≤ 8 → v 2 = nI nb → ∀ i, i < nb → (∀ j, j < 3 → (P' i).2.2.2.2.1 j = (P i).2.2.2.2.1 j) ∧ (∀ j, j < 3 → (P' i).2.2.2.2.2.1 j = (P i).2.2.2.2.2.1 j) ∧ (∀ j, j < 36 → (P' i).2.2.2.2.2.2.1 j = (P i).2.2.2.2.2.2.1 j) ∧ (P' i).2.2.2.2.2.2.2.1 = (P i).2.2.2.2.2.2.2.1 ∧ (P' i).2.2.2.2.2.2.2.2 = (P i).2.2.2.2.2.2.2.2) : RC w' s' v' f' n' P' := by
  obtain ⟨np, nc, nb, nn, nm, hnp, hnc, hnb, hnn, hnm, e0, w418, e1, w422, e2, w396, e3, w447, e4, w478, hpl, hck, hD, hPP, hno, hma⟩ := h
  refine ⟨np, nc, nb, nn, nm, hnp, hnc, hnb, hnn, hnm, a0.trans e0, (hw _ (by omega)).trans w418, a1.trans e1, (hw _ (by omega)).trans w422, a2.trans e2, (hw _ (by omega)).trans w396, a3.trans e3, (hw _ (by omega)).trans w447, a4.trans e4, (hw _ (by omega)).trans w478, ?_, ?_, ?_, ?_, ?_, ?_⟩
  · intro p hp
    obtain ⟨k, x, y, g1, g2, g3, g4, g5, g6, g7, g8, g9⟩ := hpl p hp
    refine ⟨k, x, y, g1, g2, g3, (h0 p (by omega)).trans g4, ?_, (h1 p (by omega)).trans g6, ?_, (h2 p (by omega)).trans g8, ?_⟩
    · rw [Nat.add_assoc, hw _ (by omega), ← Nat.add_assoc]; exact g5
    · rw [Nat.add_assoc, hw _ (by omega), ← Nat.add_assoc]; exact g7
    · rw [Nat.add_assoc, hw _ (by omega), ← Nat.add_assoc]; exact g9
  · intro c hc
    obtain ⟨k, g1, g2, g3⟩ := hck c hc
    exact ⟨k, g1, (h3 c (by omega)).trans g2, by rw [Nat.add_assoc, hw _ (by omega), ← Nat.add_assoc]; exact g3⟩
  · exact RDg_to (RDg_cp hnc (fun j hj => hw j (by omega)) ea et er en eh (RDg_of hD))
  · intro i hi
    obtain ⟨g1, g2, g3, g4, g5⟩ := hP nb hnb e2 i hi
    exact RDg_to (RDg_cp hnc (fun j hj => by rw [show s' + 44 + 44 * i + j = s' + (44 + 44 * i + j) by omega, hw _ (by omega)]; congr 1; omega) g1 g2 g3 g4 g5 (RDg_of (hPP i hi)))
  · intro k hk
    obtain ⟨g1, g2, g3, g4, g5⟩ := hno k hk
    refine ⟨?_, ?_, ?_, ?_, ?_⟩
    · rw [h4 _ (by omega), g1, Nat.add_assoc, Nat.add_assoc, hw _ (by omega)]
    · rw [h4 _ (by omega), g2, Nat.add_assoc, Nat.add_assoc, hw _ (by omega)]
    · rw [h4 _ (by omega), g3, Nat.add_assoc, Nat.add_assoc, hw _ (by omega)]
    · rw [h4 _ (by omega), g4]
    · rw [h4 _ (by omega), g5, Nat.add_assoc, Nat.add_assoc, hw _ (by omega)]
  · intro j hj
    rw [h5 _ (by omega), hma j hj, Nat.add_assoc, Nat.add_assoc, hw _ (by omega)]
/-- what was done before, copied one by one -/
def cpP (P0 P : Nat → DD) (i : Nat) : Nat → DD := fun k => if k < i then dset (P0 k) (va_cpy (P k).2.2.2.2.1 (P0 k).2.2.2.2.1 0 0 3) (va_cpy (P k).2.2.2.2.2.1 (P0 k).2.2.2.2.2.1 0 0 3) (va_cpy (P k).2.2.2.2.2.2.1 (P0 k).2.2.2.2.2.2.1 0 0 36) (P k).2.2.2.2.2.2.2.1 (P k).2.2.2.2.2.2.2.2 else P0 k
theorem cpP_0 (P0 P : Nat → DD) : cpP P0 P 0 = P0 := funext fun k => if_neg (by omega)
theorem cpP_s {P0 P : Nat → DD} {i : Nat} : va_up (cpP P0 P i) i (dset (P0 i) (va_cpy (P i).2.2.2.2.1 (P0 i).2.2.2.2.1 0 0 3) (va_cpy (P i).2.2.2.2.2.1 (P0 i).2.2.2.2.2.1 0 0 3) (va_cpy (P i).2.2.2.2.2.2.1 (P0 i).2.2.2.2.2.2.1 0 0 36) (P i).2.2.2.2.2.2.2.1 (P i).2.2.2.2.2.2.2.2) = cpP P0 P (i + 1) := by
  funext k
  by_cases h : k = i
  · subst h
    rw [va_s]
    unfold cpP
    rw [if_pos (by omega)]
  · rw [va_n h]
    unfold cpP
    by_cases h2 : k < i
    · rw [if_pos h2, if_pos (by omega)]
    · rw [if_neg h2, if_neg (by omega)]
theorem mo_become {v v0 : Nat → Int32} {f f0 : Nat → Nat → Int32} {n n0 : DD} {P P0 : Nat → DD} {nb : Nat} (hnb : nb ≤ 8) (e2 : v 2 = nI nb) :
    p_X0_become (v0 0) (v0 1) (v0 2) (f0 0) (f0 1) (f0 2) (f0 3) n0.2.2.2.2.2.2.2.1 n0.2.2.2.2.2.2.2.2 n0.2.2.2.2.1 n0.2.2.2.2.2.1 n0.2.2.2.2.2.2.1 P0 (v0 3) (f0 4) (v0 4) (f0 5) (v 0) (v 1) (v 2) (f 0) (f 1) (f 2) (f 3) n.2.2.2.2.2.2.2.1 n.2.2.2.2.2.2.2.2 n.2.2.2.2.1 n.2.2.2.2.2.1 n.2.2.2.2.2.2.1 P (v 3) (f 4) (v 4) (f 5) =
    some (v 0, v 1, v 2, va_cpy (f 0) (f0 0) 0 0 7, va_cpy (f 1) (f0 1) 0 0 7, va_cpy (f 2) (f0 2) 0 0 7, va_cpy (f 3) (f0 3) 0 0 3, n.2.2.2.2.2.2.2.1, n.2.2.2.2.2.2.2.2, va_cpy n.2.2.2.2.1 n0.2.2.2.2.1 0 0 3, va_cpy n.2.2.2.2.2.1 n0.2.2.2.2.2.1 0 0 3, va_cpy n.2.2.2.2.2.2.1 n0.2.2.2.2.2.2.1 0 0 36, cpP P0 P nb, v 3, va_cpy (f 4) (f0 4) 0 0 30, v 4, va_cpy (f 5) (f0 5) 0 0 30) := by
  unfold p_X0_become
  simp only [z_lt, p_X1_become, p_X6_become, z_bd_some]
  rw [z_bd_s (v := cpP P0 P nb) ?_]
  refine z_forS (fun i => (nI i, cpP P0 P i)) nb (cpP P0 P nb) (by rw [cpP_0]; rfl) ?_ ?_
  · intro i hi
    have k1 : ¬ (8 : Int32) ≤ nI i := fun q => absurd ((nI_leI (a := 8) (by decide) (by omega)).mp q) (by omega)
    have k2 : ¬ v 2 ≤ nI i := by rw [e2]; exact fun q => absurd ((nI_leI (by omega) (by omega)).mp q) (by omega)
    have i8 : z_in (nI i) 8 = true := z_in_n (by omega) (by decide)
    have ei : cpP P0 P i i = P0 i := if_neg (by omega)
    simp only [if_neg k1, if_neg k2, i8, z_gd_tt, nI_clamp (show i < 2 ^ 31 by omega), ei, nI_1, cpP_s]
  · by_cases h8 : nb = 8
    · subst h8
      show (if (8 : Int32) ≤ nI 8 then _ else _) = _
      rw [if_pos (by decide)]
    · have k1 : ¬ (8 : Int32) ≤ nI nb := fun q => absurd ((nI_leI (a := 8) (by decide) (by omega)).mp q) (by omega)
      have k2 : v 2 ≤ nI nb := by rw [e2]; exact (nI_leI (by omega) (by omega)).mpr (Nat.le_refl nb)
      simp only [if_neg k1, if_pos k2]
theorem cpP_e {v : Nat → Int32} {P0 P : Nat → DD} {b : Nat} (hb : b ≤ 8) (e : v 2 = nI b) : ∀ nb, nb ≤ 8 → v 2 = nI nb → ∀ i, i < nb → (∀ j, j < 3 → (cpP P0 P b i).2.2.2.2.1 j = (P i).2.2.2.2.1 j) ∧ (∀ j, j < 3 → (cpP P0 P b i).2.2.2.2.2.1 j = (P i).2.2.2.2.2.1 j) ∧ (∀ j, j < 36 → (cpP P0 P b i).2.2.2.2.2.2.1 j = (P i).2.2.2.2.2.2.1 j) ∧ (cpP P0 P b i).2.2.2.2.2.2.2.1 = (P i).2.2.2.2.2.2.2.1 ∧ (cpP P0 P b i).2.2.2.2.2.2.2.2 = (P i).2.2.2.2.2.2.2.2 := by
  intro nb hnb e2 i hi
  have : b = nb := (nI_eq (by omega) (by omega)).mp (e.symm.trans e2)
  subst this
  unfold cpP
  rw [if_pos hi]
  exact ⟨fun j hj => cp_eq hj, fun j hj => cp_eq hj, fun j hj => cp_eq hj, rfl, rfl⟩
theorem RC_nb {w v : Nat → Int32} {f : Nat → Nat → Int32} {n : DD} {P : Nat → DD} {s : Nat} (h : RC w s v f n P) : ∃ nb, nb ≤ 8 ∧ v 2 = nI nb := by
  obtain ⟨np, nc, nb, nn, nm, hnp, hnc, hnb, hnn, hnm, e0, w418, e1, w422, e2, w396, e3, w447, e4, w478, hpl, hck, hD, hPP, hno, hma⟩ := h
  exact ⟨nb, hnb, e2⟩
theorem ki_or : ∀ a b : Fin 2, (nI (a.1 + 2 * b.1) ||| (1 : Int32) <<< ((0 : Int32) &&& 31)) = nI (1 + 2 * b.1) ∧ (nI (a.1 + 2 * b.1) ||| (1 : Int32) <<< ((1 : Int32) &&& 31)) = nI (a.1 + 2 * 1) := by decide +kernel
theorem ki_has : ∀ a b : Fin 2, p_X8_has (nI (a.1 + 2 * b.1)) 0 = some (nI a.1) ∧ p_X8_has (nI (a.1 + 2 * b.1)) 1 = some (nI b.1) := by decide +kernel
theorem q_31 {x : Nat → Int32} {v : Nat → Int32} {f : Nat → Nat → Int32} {n : DD} {P : Nat → DD} {kf : Nat → Int32} {tf : Nat → Int32} {v0 : Nat → Int32} {f0 : Nat → Nat → Int32} {n0 : DD} {P0 : Nat → DD} {v1 : Nat → Int32} {f1 : Nat → Nat → Int32} {n1 : DD} {P1 : Nat → DD} {mv : Nat → Int32} {ma : Int64} {mb : Int64} {w : Nat → Int32} {tx : Nat → Int32} (hR : RelX x v f n P kf tf v0 f0 n0 P0 v1 f1 n1 P1 mv ma mb w tx) (c1 : Int32) : ∃ (r7 : Int32 × Int32 × Int32 × Int32 × Int32 × (Nat → Int32) × (Nat → Int32) × (Nat → Int32) × (Nat → Int32) × Int32 × Int32 × (Nat → Int32) × (Nat → Int32) × (Nat → Int32) × (Nat → DD) × Int32 × (Nat → Int32) × Int32 × (Nat → Int32) × Int32 × Int32 × Int32 × (Nat → Int32) × (Nat → Int32) × (Nat → Int32) × (Nat → Int32) × Int32 × Int32 × (Nat → Int32) × (Nat → Int32) × (Nat → Int32) × (Nat → DD) × Int32 × (Nat → Int32) × Int32 × (Nat → Int32) × (Nat → Int32)) (r8 : Int32 × Int32 × Int32 × (Nat → Int32)), p_X7_image (x 3) (v 0) (v 1) (v 2) (f 0) (f 1) (f 2) (f 3) n.2.2.2.2.2.2.2.1 n.2.2.2.2.2.2.2.2 n.2.2.2.2.1 n.2.2.2.2.2.1 n.2.2.2.2.2.2.1 P (v 3) (f 4) (v 4) (f 5) (v0 0) (v0 1) (v0 2) (f0 0) (f0 1) (f0 2) (f0 3) n0.2.2.2.2.2.2.2.1 n0.2.2.2.2.2.2.2.2 n0.2.2.2.2.1 n0.2.2.2.2.2.1 n0.2.2.2.2.2.2.1 P0 (v0 3) (f0 4) (v0 4) (f0 5) (v1 0) (v1 1) (v1 2) (f1 0) (f1 1) (f1 2) (f1 3) n1.2.2.2.2.2.2.2.1 n1.2.2.2.2.2.2.2.2 n1.2.2.2.2.1 n1.2.2.2.2.2.1 n1.2.2.2.2.2.2.1 P1 (v1 3) (f1 4) (v1 4) (f1 5) kf c1 = some r7 ∧ p_X8_image (mv 0) (mv 2) w c1 = some r8 ∧ r7.1 = r8.1 ∧ RelX (va_up x 3 r7.2.1) v f n P r7.2.2.2.2.2.2.2.2.2.2.2.2.2.2.2.2.2.2.2.2.2.2.2.2.2.2.2.2.2.2.2.2.2.2.2.2 tf (va_up (va_up (va_up (va_up (va_up v0 0 r7.2.2.1) 1 r7.2.2.2.1) 2 r7.2.2.2.2.1) 3 r7.2.2.2.2.2.2.2.2.2.2.2.2.2.2.2.1) 4 r7.2.2.2.2.2.2.2.2.2.2.2.2.2.2.2.2.2.1) (va_up (va_up (va_up (va_up (va_up (va_up f0 0 r7.2.2.2.2.2.1) 1 r7.2.2.2.2.2.2.1) 2 r7.2.2.2.2.2.2.2.1) 3 r7.2.2.2.2.2.2.2.2.1) 4 r7.2.2.2.2.2.2.2.2.2.2.2.2.2.2.2.2.1) 5 r7.2.2.2.2.2.2.2.2.2.2.2.2.2.2.2.2.2.2.1) (n0.1, n0.2.1, n0.2.2.1, n0.2.2.2.1, r7.2.2.2.2.2.2.2.2.2.2.2.1, r7.2.2.2.2.2.2.2.2.2.2.2.2.1, r7.2.2.2.2.2.2.2.2.2.2.2.2.2.1, r7.2.2.2.2.2.2.2.2.2.1, r7.2.2.2.2.2.2.2.2.2.2.1) r7.2.2.2.2.2.2.2.2.2.2.2.2.2.2.1 (va_up (va_up (va_up (va_up (va_up v1 0 r7.2.2.2.2.2.2.2.2.2.2.2.2.2.2.2.2.2.2.2.1) 1 r7.2.2.2.2.2.2.2.2.2.2.2.2.2.2.2.2.2.2.2.2.1) 2 r7.2.2.2.2.2.2.2.2.2.2.2.2.2.2.2.2.2.2.2.2.2.1) 3 r7.2.2.2.2.2.2.2.2.2.2.2.2.2.2.2.2.2.2.2.2.2.2.2.2.2.2.2.2.2.2.2.2.1) 4 r7.2.2.2.2.2.2.2.2.2.2.2.2.2.2.2.2.2.2.2.2.2.2.2.2.2.2.2.2.2.2.2.2.2.2.1) (va_up (va_up (va_up (va_up (va_up (va_up f1 0 r7.2.2.2.2.2.2.2.2.2.2.2.2.2.2.2.2.2.2.2.2.2.2.1) 1 r7.2.2.2.2.2.2.2.2.2.2.2.2.2.2.2.2.2.2.2.2.2.2.2.1) 2 r7.2.2.2.2.2.2.2.2.2.2.2.2.2.2.2.2.2.2.2.2.2.2.2.2.1) 3 r7.2.2.2.2.2.2.2.2.2.2.2.2.2.2.2.2.2.2.2.2.2.2.2.2.2.1) 4 r7.2.2.2.2.2.2.2.2.2.2.2.2.2.2.2.2.2.2.2.2.2.2.2.2.2.2.2.2.2.2.2.2.2.1) 5 r7.2.2.2.2.2.2.2.2.2.2.2.2.2.2.2.2.2.2.2.2.2.2.2.2.2.2.2.2.2.2.2.2.2.2.2.1) (n1.1, n1.2.1, n1.2.2.1, n1.2.2.2.1, r7.2.2.2.2.2.2.2.2.2.2.2.2.2.2.2.2.2.2.2.2.2.2.2.2.2.2.2.2.1, r7.2.2.2.2.2.2.2.2.2.2.2.2.2.2.2.2.2.2.2.2.2.2.2.2.2.2.2.2.2.1, r7.2.2.2.2.2.2.2.2.2.2.2.2.2.2.2.2.2.2.2.2.2.2.2.2.2.2.2.2.2.2.1, r7.2.2.2.2.2.2.2.2.2.2.2.2.2.2.2.2.2.2.2.2.2.2.2.2.2.2.1, r7.2.2.2.2.2.2.2.2.2.2.2.2.2.2.2.2.2.2.2.2.2.2.2.2.2.2.2.1) r7.2.2.2.2.2.2.2.2.2.2.2.2.2.2.2.2.2.2.2.2.2.2.2.2.2.2.2.2.2.2.2.1 (va_up (va_up mv 0 r8.2.1) 2 r8.2.2.1) ma mb r8.2.2.2 tx := by
  obtain ⟨hC, hRR⟩ := hR
  obtain ⟨ht, hb, hno', hfu, h1', h2', k0, k1, hk0, hk1, q0, q1, qm, i0, i1⟩ := id hRR
  obtain ⟨nb, hnb, e2⟩ := RC_nb hC
  have cr : ∀ i, i < 2 → p_X8_copyRow w (0 : Int32) (nI (479 + 479 * i)) (479 : Int32) = some (va_cpy w w 0 (479 + 479 * i) 479) := fun i hi => p8_copyRow w (x := 0) (y := 479 + 479 * i) (m := 479) (by omega) (by omega) (by omega)
  simp only [p_X7_image, p_X8_image, p7_within, p8_in, z_bd_some, z_rg1, p_X7_refuseBad, p_X8_bad, z_lt, hb]
  cases h1 : z_in c1 2
  · simp only [b2_f0, if_true]
    exact ⟨_, _, rfl, rfl, rfl, hC, ht, rfl, hno', hfu, h1', h2', k0, k1, hk0, hk1, q0, q1, qm, i0, i1⟩
  obtain ⟨k, hk, rfl⟩ := (z_in_iff (by omega)).mp h1
  rcases (show k = 0 ∨ k = 1 by omega) with rfl | rfl
  · have o1 : ((479 : Int32) + (479 : Int32) * nI 0) = nI (479 + 479 * 0) := by decide
    have o2 : mv 0 ||| (1 : Int32) <<< (nI 0 &&& 31) = nI (1 + 2 * k1) := by rw [qm]; exact (ki_or ⟨k0, by omega⟩ ⟨k1, by omega⟩).1
    simp only [b2_t0, if_false, show nI 0 = (0 : Int32) from rfl, if_true, show z_in (0 : Int32) 2 = true from by decide, z_gd_tt, show (0 : Int32).toNatClampNeg = 0 from by decide, show (479 : Int32) + (479 : Int32) * 0 = nI (479 + 479 * 0) from by decide, cr 0 (by omega), z_bd_some, mo_become (n := n) (n0 := n0) hnb e2, show vp_nar .boolean (1 : Int32) = 1 from by decide]
    refine ⟨_, _, rfl, rfl, rfl, RC_w (fun j hj => pk_cpy_out (by omega)) hC, ht, rfl, hno', hfu, h1', h2', 1, k1, by omega, hk1, rfl, q1, o2, fun _ => ?_, fun q => RC_w (fun j hj => pk_cpy_out (by omega)) (i1 q)⟩
    exact RC_cp hC (fun j hj => by dsimp only; rw [pk_cpy_in (by omega) (by omega)]; exact congrArg w (by omega)) rfl rfl rfl rfl rfl (fun j hj => cp_eq hj) (fun j hj => cp_eq hj) (fun j hj => cp_eq hj) (fun j hj => cp_eq hj) (fun j hj => cp_eq hj) (fun j hj => cp_eq hj) (fun j hj => cp_eq hj) (fun j hj => cp_eq hj) (fun j hj => cp_eq hj) rfl rfl (cpP_e hnb e2)
  · have o2 : mv 0 ||| (1 : Int32) <<< (nI 1 &&& 31) = nI (k0 + 2 * 1) := by rw [qm]; exact (ki_or ⟨k0, by omega⟩ ⟨k1, by omega⟩).2
    simp only [b2_t0, if_false, show nI 1 = (1 : Int32) from rfl, if_true, show ¬ (1 : Int32) = 0 from by decide, show decide ((1 : Int32) = 1) = true from rfl, show z_in (1 : Int32) 2 = true from by decide, z_gd_tt, show (1 : Int32).toNatClampNeg = 1 from by decide, show (479 : Int32) + (479 : Int32) * 1 = nI (479 + 479 * 1) from by decide, cr 1 (by omega), z_bd_some, mo_become (n := n) (n0 := n1) hnb e2, show vp_nar .boolean (1 : Int32) = 1 from by decide]
    refine ⟨_, _, rfl, rfl, rfl, RC_w (fun j hj => pk_cpy_out (by omega)) hC, ht, rfl, hno', hfu, h1', h2', k0, 1, hk0, by omega, q0, rfl, o2, fun q => RC_w (fun j hj => pk_cpy_out (by omega)) (i0 q), fun _ => ?_⟩
    exact RC_cp hC (fun j hj => by dsimp only; rw [pk_cpy_in (by omega) (by omega)]; exact congrArg w (by omega)) rfl rfl rfl rfl rfl (fun j hj => cp_eq hj) (fun j hj => cp_eq hj) (fun j hj => cp_eq hj) (fun j hj => cp_eq hj) (fun j hj => cp_eq hj) (fun j hj => cp_eq hj) (fun j hj => cp_eq hj) (fun j hj => cp_eq hj) (fun j hj => cp_eq hj) rfl rfl (cpP_e hnb e2)
theorem q_32 {x : Nat → Int32} {v : Nat → Int32} {f : Nat → Nat → Int32} {n : DD} {P : Nat → DD} {kf : Nat → Int32} {tf : Nat → Int32} {v0 : Nat → Int32} {f0 : Nat → Nat → Int32} {n0 : DD} {P0 : Nat → DD} {v1 : Nat → Int32} {f1 : Nat → Nat → Int32} {n1 : DD} {P1 : Nat → DD} {mv : Nat → Int32} {ma : Int64} {mb : Int64} {w : Nat → Int32} {tx : Nat → Int32} (hR : RelX x v f n P kf tf v0 f0 n0 P0 v1 f1 n1 P1 mv ma mb w tx) (c1 : Int32) : ∃ (r7 : Int32 × Int32 × Int32 × Int32 × Int32 × Int32 × (Nat → Int32) × (Nat → Int32) × (Nat → Int32) × (Nat → Int32) × Int32 × Int32 × (Nat → Int32) × (Nat → Int32) × (Nat → Int32) × (Nat → DD) × Int32 × (Nat → Int32) × Int32 × (Nat → Int32)) (r8 : Int32 × Int32 × Int32 × (Nat → Int32)), p_X7_from (x 3) (x 4) (v 0) (v 1) (v 2) (f 0) (f 1) (f 2) (f 3) n.2.2.2.2.2.2.2.1 n.2.2.2.2.2.2.2.2 n.2.2.2.2.1 n.2.2.2.2.2.1 n.2.2.2.2.2.2.1 P (v 3) (f 4) (v 4) (f 5) (v0 0) (v0 1) (v0 2) (f0 0) (f0 1) (f0 2) (f0 3) n0.2.2.2.2.2.2.2.1 n0.2.2.2.2.2.2.2.2 n0.2.2.2.2.1 n0.2.2.2.2.2.1 n0.2.2.2.2.2.2.1 P0 (v0 3) (f0 4) (v0 4) (f0 5) (v1 0) (v1 1) (v1 2) (f1 0) (f1 1) (f1 2) (f1 3) n1.2.2.2.2.2.2.2.1 n1.2.2.2.2.2.2.2.2 n1.2.2.2.2.1 n1.2.2.2.2.2.1 n1.2.2.2.2.2.2.1 P1 (v1 3) (f1 4) (v1 4) (f1 5) kf c1 = some r7 ∧ p_X8_from (mv 0) (mv 2) (mv 3) w c1 = some r8 ∧ r7.1 = r8.1 ∧ RelX (va_up (va_up x 3 r7.2.1) 4 r7.2.2.1) (va_up (va_up (va_up (va_up (va_up v 0 r7.2.2.2.1) 1 r7.2.2.2.2.1) 2 r7.2.2.2.2.2.1) 3 r7.2.2.2.2.2.2.2.2.2.2.2.2.2.2.2.2.1) 4 r7.2.2.2.2.2.2.2.2.2.2.2.2.2.2.2.2.2.2.1) (va_up (va_up (va_up (va_up (va_up (va_up f 0 r7.2.2.2.2.2.2.1) 1 r7.2.2.2.2.2.2.2.1) 2 r7.2.2.2.2.2.2.2.2.1) 3 r7.2.2.2.2.2.2.2.2.2.1) 4 r7.2.2.2.2.2.2.2.2.2.2.2.2.2.2.2.2.2.1) 5 r7.2.2.2.2.2.2.2.2.2.2.2.2.2.2.2.2.2.2.2) (n.1, n.2.1, n.2.2.1, n.2.2.2.1, r7.2.2.2.2.2.2.2.2.2.2.2.2.1, r7.2.2.2.2.2.2.2.2.2.2.2.2.2.1, r7.2.2.2.2.2.2.2.2.2.2.2.2.2.2.1, r7.2.2.2.2.2.2.2.2.2.2.1, r7.2.2.2.2.2.2.2.2.2.2.2.1) r7.2.2.2.2.2.2.2.2.2.2.2.2.2.2.2.1 kf tf v0 f0 n0 P0 v1 f1 n1 P1 (va_up (va_up mv 2 r8.2.1) 3 r8.2.2.1) ma mb r8.2.2.2 tx := by
  obtain ⟨hC, hRR⟩ := hR
  obtain ⟨ht, hb, hno', hfu, h1', h2', k0, k1, hk0, hk1, q0, q1, qm, i0, i1⟩ := id hRR
  have cr : ∀ i, i < 2 → p_X8_copyRow w (nI (479 + 479 * i)) (0 : Int32) (479 : Int32) = some (va_cpy w w (479 + 479 * i) 0 479) := fun i hi => p8_copyRow w (x := 479 + 479 * i) (y := 0) (m := 479) (by omega) (by omega) (by omega)
  simp only [p_X7_from, p_X8_from, p7_within, p8_in, z_bd_some, z_rg1, p_X7_refuseBad, p_X8_bad, p_X7_refuseNo, p_X8_no, z_lt, hb, hno']
  cases h1 : z_in c1 2
  · simp only [b2_f0, if_true]
    exact ⟨_, _, rfl, rfl, rfl, hC, ht, rfl, rfl, hfu, h1', h2', k0, k1, hk0, hk1, q0, q1, qm, i0, i1⟩
  obtain ⟨k, hk, rfl⟩ := (z_in_iff (by omega)).mp h1
  have hh := ki_has ⟨k0, by omega⟩ ⟨k1, by omega⟩
  rw [← qm] at hh
  rcases (show k = 0 ∨ k = 1 by omega) with rfl | rfl
  · simp only [b2_t0, if_false, show nI 0 = (0 : Int32) from rfl, if_true, show z_in (0 : Int32) 2 = true from by decide, z_gd_tt, show (0 : Int32).toNatClampNeg = 0 from by decide, show (479 : Int32) + (479 : Int32) * 0 = nI (479 + 479 * 0) from by decide, cr 0 (by omega), z_bd_some, hh.1, q0]
    rcases (show k0 = 0 ∨ k0 = 1 by omega) with rfl | rfl
    · simp only [show nI 0 = (0 : Int32) from rfl, if_true]
      exact ⟨_, _, rfl, rfl, rfl, hC, ht, rfl, rfl, hfu, h1', h2', 0, k1, hk0, hk1, q0, q1, qm, i0, i1⟩
    · obtain ⟨nb, hnb, e2⟩ := RC_nb (i0 rfl)
      simp only [show ¬ nI 1 = (0 : Int32) from by decide, if_false, mo_become (n := n0) (n0 := n) hnb e2, z_bd_some]
      refine ⟨_, _, rfl, rfl, rfl, ?_, RR_w (fun j h1 h2 => pk_cpy_out (by omega)) ⟨ht, rfl, rfl, hfu, h1', h2', 1, k1, hk0, hk1, q0, q1, qm, i0, i1⟩⟩
      exact RC_cp (i0 rfl) (fun j hj => by dsimp only; rw [pk_cpy_in (by omega) (by omega)]; exact congrArg w (by omega)) rfl rfl rfl rfl rfl (fun j hj => cp_eq hj) (fun j hj => cp_eq hj) (fun j hj => cp_eq hj) (fun j hj => cp_eq hj) (fun j hj => cp_eq hj) (fun j hj => cp_eq hj) (fun j hj => cp_eq hj) (fun j hj => cp_eq hj) (fun j hj => cp_eq hj) rfl rfl (cpP_e hnb e2)
  · simp only [b2_t0, if_false, show nI 1 = (1 : Int32) from rfl, show ¬ (1 : Int32) = 0 from by decide, show decide ((1 : Int32) = 1) = true from rfl, show z_in (1 : Int32) 2 = true from by decide, z_gd_tt, show (1 : Int32).toNatClampNeg = 1 from by decide, show (479 : Int32) + (479 : Int32) * 1 = nI (479 + 479 * 1) from by decide, cr 1 (by omega), z_bd_some, hh.2, q1]
    rcases (show k1 = 0 ∨ k1 = 1 by omega) with rfl | rfl
    · simp only [show nI 0 = (0 : Int32) from rfl, if_true]
      exact ⟨_, _, rfl, rfl, rfl, hC, ht, rfl, rfl, hfu, h1', h2', k0, 0, hk0, hk1, q0, q1, qm, i0, i1⟩
    · obtain ⟨nb, hnb, e2⟩ := RC_nb (i1 rfl)
      simp only [show ¬ nI 1 = (0 : Int32) from by decide, if_false, mo_become (n := n1) (n0 := n) hnb e2, z_bd_some]
      refine ⟨_, _, rfl, rfl, rfl, ?_, RR_w (fun j h1 h2 => pk_cpy_out (by omega)) ⟨ht, rfl, rfl, hfu, h1', h2', k0, 1, hk0, hk1, q0, q1, qm, i0, i1⟩⟩
      exact RC_cp (i1 rfl) (fun j hj => by dsimp only; rw [pk_cpy_in (by omega) (by omega)]; exact congrArg w (by omega)) rfl rfl rfl rfl rfl (fun j hj => cp_eq hj) (fun j hj => cp_eq hj) (fun j hj => cp_eq hj) (fun j hj => cp_eq hj) (fun j hj => cp_eq hj) (fun j hj => cp_eq hj) (fun j hj => cp_eq hj) (fun j hj => cp_eq hj) (fun j hj => cp_eq hj) rfl rfl (cpP_e hnb e2)
