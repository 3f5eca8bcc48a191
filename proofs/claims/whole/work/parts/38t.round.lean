/-! round. -/
def cz (set : Nat) : Nat → Nat
  | 0 => 0
  | b + 1 => cz set b + (if set.testBit b = true then 0 else 1)
theorem cz_le (set : Nat) : ∀ n, cz set n ≤ n := by
  intro n
  induction n with
  | zero => exact Nat.le_refl 0
  | succ n ih =>
    show cz set n + (if set.testBit n = true then 0 else 1) ≤ n + 1
    by_cases q : set.testBit n = true
    · rw [if_pos q]; omega
    · rw [if_neg q]; omega
theorem cz_or : ∀ np : Fin 8, ∀ set : Fin 128, ∀ b : Fin 7, b.1 < np.1 → set.1.testBit b.1 = false → cz (set.1 ||| 2 ^ b.1) np.1 + 1 = cz set.1 np.1 := by decide +kernel
theorem cz_all : ∀ np : Fin 8, cz (2 ^ np.1 - 1) np.1 = 0 := by decide +kernel
theorem cz_ex : ∀ np : Fin 8, ∀ set : Fin 128, set.1 < 2 ^ np.1 → set.1 ≠ 2 ^ np.1 - 1 → ∃ b : Fin 7, b.1 < np.1 ∧ set.1.testBit b.1 = false := by decide +kernel
theorem al_bit : ∀ np : Fin 8, ∀ b : Fin 7, b.1 < np.1 → (2 ^ np.1 - 1).testBit b.1 = true := by decide +kernel
theorem cz_1 : ∀ np : Fin 8, 1 ≤ np.1 → cz 1 np.1 = np.1 - 1 := by decide +kernel
theorem zc_t : ∀ m : Fin 128, ∀ b : Fin 7, decide ((nI m.1 &&& ((1 : Int32) <<< (nI b.1 &&& 31))) = 0) = !m.1.testBit b.1 := by decide +kernel
theorem zc_half : ∀ m : Fin 128, nI m.1 >>> ((1 : Int32) &&& 31) = nI (m.1 / 2) := by decide +kernel
theorem zc_odd : ∀ m : Fin 128, m.1.testBit 0 = decide (m.1 % 2 = 1) := by decide +kernel
def spR (F : Nat → Nat → Nat) (np : Nat) : Nat → Nat → Option Nat := fun set a => if set = 2 ^ np - 1 then some (16 * F a 0) else none
/-- parts and length of what is least -/
theorem RY {np : Nat} {F Y : Nat → Nat → Nat} (hnp : np ≤ 7) (hn0 : 1 ≤ np) (hF : ∀ a b, a < np → b < np → F a b ≤ 600) (hY : YS np F (spR F np) Y) : ∀ k set a, 2 ^ np - set ≤ k → 1 ≤ set → set < 2 ^ np → a < np → set.testBit a = true → Y set a % 16 = cz set np ∧ Y set a ≤ 9601 * (cz set np + 1) ∧ (set ≠ 2 ^ np - 1 → ∃ b, b < np ∧ set.testBit b = false ∧ Y set a = 16 * F a b + 1 + Y (set ||| 2 ^ b) b) := by
  have hn := (zc_np ⟨np, by omega⟩).2
  simp only at hn
  intro k
  induction k with
  | zero => intro set a h1 h2 h3; omega
  | succ k ih =>
    intro set a hk c1 c2 ha hb
    obtain ⟨y1, y2, y3⟩ := hY set a c1 c2 ha
    by_cases q : set = 2 ^ np - 1
    · have h1 := y2 hb (16 * F a 0) (if_pos q)
      have h2 := cz_all ⟨np, by omega⟩
      simp only at h2
      have h3 := hF a 0 ha (by omega)
      have h4 : cz set np = 0 := by rw [q]; exact h2
      exact ⟨by omega, by omega, fun z => absurd q z⟩
    · obtain ⟨y4, y5⟩ := y3 hb (if_neg q)
      have step : ∀ b, b < np → set.testBit b = false → Y (set ||| 2 ^ b) b % 16 = cz (set ||| 2 ^ b) np ∧ Y (set ||| 2 ^ b) b ≤ 9601 * cz set np ∧ cz (set ||| 2 ^ b) np + 1 = cz set np := by
        intro b hb2 hq
        obtain ⟨o1, o2, o3, o4, o5⟩ := or_facts hnp c1 c2 hb2 hq
        obtain ⟨i1, i2, -⟩ := ih (set ||| 2 ^ b) b (by omega) o1 o2 hb2 o4
        have h1 := cz_or ⟨np, by omega⟩ ⟨set, by omega⟩ ⟨b, by omega⟩ hb2 hq
        simp only at h1
        rw [h1] at i2
        exact ⟨i1, i2, h1⟩
      have hcz := cz_le set np
      obtain ⟨b0, hb0, hq0⟩ := cz_ex ⟨np, by omega⟩ ⟨set, by omega⟩ c2 q
      simp only at hb0 hq0
      have u1 := y4 b0.1 hb0 hq0
      obtain ⟨-, u2, -⟩ := step b0.1 hb0 hq0
      have u3 := hF a b0.1 ha hb0
      rcases y5 with y5 | ⟨b, hb2, hq, y5⟩
      · omega
      · obtain ⟨v1, v2, v3⟩ := step b hb2 hq
        have v4 := hF a b ha hb2
        exact ⟨by omega, by omega, fun _ => ⟨b, hb2, hq, y5⟩⟩
/-- what is least, without the parts -/
def HS (np : Nat) (F H : Nat → Nat → Nat) : Prop := ∀ set a, 1 ≤ set → set < 2 ^ np → a < np → set.testBit a = true → H set a ≤ 5000 ∧ (set = 2 ^ np - 1 → H set a = F a 0) ∧ (set ≠ 2 ^ np - 1 → (∀ b, b < np → set.testBit b = false → H set a ≤ F a b + H (set ||| 2 ^ b) b) ∧ ∃ b, b < np ∧ set.testBit b = false ∧ H set a = F a b + H (set ||| 2 ^ b) b)
theorem RH {np : Nat} {F Y : Nat → Nat → Nat} (hnp : np ≤ 7) (hn0 : 1 ≤ np) (hF : ∀ a b, a < np → b < np → F a b ≤ 600) (hY : YS np F (spR F np) Y) : HS np F (fun set a => Y set a / 16) ∧ ∀ set a b, 1 ≤ set → set < 2 ^ np → a < np → set.testBit a = true → b < np → set.testBit b = false → (16 * F a b + 1 + Y (set ||| 2 ^ b) b = Y set a ↔ F a b + Y (set ||| 2 ^ b) b / 16 = Y set a / 16) := by
  have hn := (zc_np ⟨np, by omega⟩).2
  simp only at hn
  have step : ∀ set b, 1 ≤ set → set < 2 ^ np → b < np → set.testBit b = false → Y (set ||| 2 ^ b) b % 16 + 1 = cz set np := by
    intro set b c1 c2 hb2 hq
    obtain ⟨o1, o2, o3, o4, o5⟩ := or_facts hnp c1 c2 hb2 hq
    obtain ⟨i1, i2, -⟩ := RY hnp hn0 hF hY _ (set ||| 2 ^ b) b (Nat.le_refl _) o1 o2 hb2 o4
    have h1 := cz_or ⟨np, by omega⟩ ⟨set, by omega⟩ ⟨b, by omega⟩ hb2 hq
    simp only at h1
    omega
  refine ⟨fun set a c1 c2 ha hb => ?_, fun set a b c1 c2 ha hb hb2 hq => ?_⟩
  · obtain ⟨y1, y2, y3⟩ := hY set a c1 c2 ha
    obtain ⟨i1, i2, i3⟩ := RY hnp hn0 hF hY _ set a (Nat.le_refl _) c1 c2 ha hb
    have hcz := cz_le set np
    refine ⟨by show Y set a / 16 ≤ 5000; omega, fun q => ?_, fun q => ⟨fun b hb2 hq => ?_, ?_⟩⟩
    · have := y2 hb (16 * F a 0) (if_pos q)
      show Y set a / 16 = F a 0
      omega
    · have h1 := (y3 hb (if_neg q)).1 b hb2 hq
      have h2 := step set b c1 c2 hb2 hq
      show Y set a / 16 ≤ F a b + Y (set ||| 2 ^ b) b / 16
      omega
    · obtain ⟨b, hb2, hq, e⟩ := i3 q
      have h2 := step set b c1 c2 hb2 hq
      refine ⟨b, hb2, hq, ?_⟩
      show Y set a / 16 = F a b + Y (set ||| 2 ^ b) b / 16
      omega
  · obtain ⟨i1, i2, i3⟩ := RY hnp hn0 hF hY _ set a (Nat.le_refl _) c1 c2 ha hb
    have h2 := step set b c1 c2 hb2 hq
    have hcz := cz_le set np
    omega
/-- the first over which it is least -/
def NR (np : Nat) (F H : Nat → Nat → Nat) (nr : Nat → Nat → Nat) : Prop := ∀ set a, 1 ≤ set → set < 2 ^ np → a < np → set.testBit a = true → set ≠ 2 ^ np - 1 → nr set a < np ∧ set.testBit (nr set a) = false ∧ F a (nr set a) + H (set ||| 2 ^ nr set a) (nr set a) = H set a ∧ ∀ b, b < nr set a → set.testBit b = false → ¬ F a b + H (set ||| 2 ^ b) b = H set a
theorem NR_ex {np : Nat} {F H : Nat → Nat → Nat} (hH : HS np F H) : ∃ nr, NR np F H nr := by
  have h : ∀ set a, ∃ q, 1 ≤ set → set < 2 ^ np → a < np → set.testBit a = true → set ≠ 2 ^ np - 1 → q < np ∧ set.testBit q = false ∧ F a q + H (set ||| 2 ^ q) q = H set a ∧ ∀ b, b < q → set.testBit b = false → ¬ F a b + H (set ||| 2 ^ b) b = H set a := by
    intro set a
    by_cases hc : 1 ≤ set ∧ set < 2 ^ np ∧ a < np ∧ set.testBit a = true ∧ set ≠ 2 ^ np - 1
    · obtain ⟨c1, c2, c3, c4, c5⟩ := hc
      obtain ⟨b, hb, hq, e⟩ := ((hH set a c1 c2 c3 c4).2.2 c5).2
      obtain ⟨q, ⟨h1, h2, h3⟩, h4⟩ := pk_least (fun q => q < np ∧ set.testBit q = false ∧ F a q + H (set ||| 2 ^ q) q = H set a) ⟨b, hb, hq, e.symm⟩
      exact ⟨q, fun _ _ _ _ _ => ⟨h1, h2, h3, fun b hb hq e => h4 b hb ⟨by omega, hq, e⟩⟩⟩
    · exact ⟨0, fun h1 h2 h3 h4 h5 => absurd ⟨h1, h2, h3, h4, h5⟩ hc⟩
  exact ⟨fun set a => Classical.choose (h set a), fun set a => Classical.choose_spec (h set a)⟩
/-- the class's row of half the sets, right above s -/
def TH (np : Nat) (H : Nat → Nat → Nat) (th : Nat → Int32) (s : Nat) : Prop := ∀ set a, s < set → set < 2 ^ np → set % 2 = 1 → 1 ≤ a → a < np → set.testBit a = true → th (set / 2 * 7 + a) = nI (H set a)
theorem bit0 {set : Nat} (h : set < 128) (ho : set % 2 = 1) : set.testBit 0 = true := by
  have := zc_odd ⟨set, h⟩
  simp only at this
  rw [this]; exact decide_eq_true ho
theorem or_odd {set b : Nat} (ho : set % 2 = 1) (h : set < 128) (hb : b < 7) : (set ||| 2 ^ b) % 2 = 1 := by
  obtain ⟨h1, h3⟩ := zc_orb ⟨set, h⟩ ⟨b, hb⟩ ⟨0, by decide⟩
  simp only at h1 h3
  have h2 := zc_odd ⟨set ||| 2 ^ b, h1⟩
  simp only at h2
  have h4 := bit0 h ho
  rw [h2, h4, Bool.true_or] at h3
  exact of_decide_eq_true h3
theorem mo_homeOver {fa th : Nat → Int32} {F H : Nat → Nat → Nat} {np set a b : Nat} (hnp : np ≤ 7) (hE : FM np F fa) (c1 : 1 ≤ set) (c2 : set < 2 ^ np) (ho : set % 2 = 1) (ha : a < np) (hb : b < np) (hb1 : 1 ≤ b) (hq : set.testBit b = false) (hT : TH np H th set) : p_X5_homeOver fa th (nI set) (nI a) (nI b) = some (nI (F a b + H (set ||| 2 ^ b) b)) := by
  have hn := (zc_np ⟨np, by omega⟩).2
  simp only at hn
  obtain ⟨o1, o2, o3, o4, o5⟩ := or_facts hnp c1 c2 hb hq
  have h1 := zc_or ⟨set, by omega⟩ ⟨b, by omega⟩
  have h2 := zc_half ⟨set ||| 2 ^ b, by omega⟩
  simp only at h1 h2
  have e1 : fa (a * 7 + b) = nI (F a b) := by rw [Nat.mul_comm]; exact hE a b ha hb
  have e2 := hT (set ||| 2 ^ b) b o3 o2 (or_odd ho (by omega) (by omega)) hb1 hb o4
  unfold p_X5_homeOver
  simp (disch := omega) only [z_lt_n, h1, h2, li_7, pk_mul, nI_add, z_in_n, z_gd_tt, nI_clamp, e1, e2]
theorem mo_next {fa th : Nat → Int32} {F H nr : Nat → Nat → Nat} {np set a : Nat} (hnp : np ≤ 7) (hF : ∀ a b, a < np → b < np → F a b ≤ 600) (hE : FM np F fa) (hH : HS np F H) (hN : NR np F H nr) (c1 : 1 ≤ set) (c2 : set < 2 ^ np) (ho : set % 2 = 1) (ha : a < np) (hb : set.testBit a = true) (hT : TH np H th set) : p_X5_nextOfRound (nI np) fa th (nI set) (nI a) = some (nI (if set = 2 ^ np - 1 then 0 else nr set a)) := by
  have hn := (zc_np ⟨np, by omega⟩).2
  simp only at hn
  have hHb : ∀ b, b < np → set.testBit b = false → H (set ||| 2 ^ b) b ≤ 5000 := by
    intro b hb2 hq
    obtain ⟨o1, o2, o3, o4, o5⟩ := or_facts hnp c1 c2 hb2 hq
    exact (hH _ b o1 o2 hb2 o4).1
  have hb0 := bit0 (show set < 128 by omega) ho
  refine Ha_e ?_
  unfold p_X5_nextOfRound
  refine Ha_bd (fun r => r = nI (if set = 2 ^ np - 1 then 0 else nr set a)) (Ha_lp (np - 1) (fun i s => ∃ q : Nat, s = (nI (i + 1), nI q) ∧ ((q = 0 ∧ ∀ b, b < i + 1 → set.testBit b = true) ∨ (1 ≤ q ∧ q < i + 1 ∧ set.testBit q = false ∧ (∀ b, b < i + 1 → set.testBit b = false → F a q + H (set ||| 2 ^ q) q ≤ F a b + H (set ||| 2 ^ b) b) ∧ ∀ b, b < q → set.testBit b = false → F a q + H (set ||| 2 ^ q) q < F a b + H (set ||| 2 ^ b) b))) _ ?_ ?_ _ ⟨0, rfl, Or.inl ⟨rfl, fun b hb => by rw [show b = 0 by omega]; exact hb0⟩⟩) (fun r hr => Ha_s hr)
  · rintro i _ hi ⟨q, rfl, hq⟩
    have kt := zc_t ⟨set, by omega⟩ ⟨i + 1, by omega⟩
    simp only at kt
    have kn : ¬ nI np ≤ nI (i + 1) := fun z => absurd ((nI_leI (by omega) (by omega)).mp z) (by omega)
    cases hbit : set.testBit (i + 1)
    · rw [hbit] at kt
      have kt' := of_decide_eq_true kt
      simp only [if_neg kn, if_pos kt', z_lt_n, nI_1]
      rcases hq with ⟨rfl, hall⟩ | ⟨q1, q2, q3, q4, q5⟩
      · simp only [show nI 0 = (0 : Int32) from rfl, if_true, z_bd_some]
        refine Lp1_l ⟨i + 1, rfl, Or.inr ⟨by omega, by omega, hbit, fun b hb2 hbb => ?_, fun b hb2 hbb => ?_⟩⟩
        · rcases (show b < i + 1 ∨ b = i + 1 by omega) with h | rfl
          · rw [hall b h] at hbb; cases hbb
          · exact Nat.le_refl _
        · rw [hall b hb2] at hbb; cases hbb
      · have kq : ¬ nI q = (0 : Int32) := nI_ne (b := 0) (by omega) (by decide) (by omega)
        have f1 := hF a (i + 1) ha (by omega)
        have f2 := hF a q ha (by omega)
        have g1 := hHb (i + 1) (by omega) hbit
        have g2 := hHb q (by omega) q3
        simp (disch := omega) only [if_neg kq, mo_homeOver hnp hE c1 c2 ho ha (show i + 1 < np by omega) (show 1 ≤ i + 1 by omega) hbit hT, mo_homeOver hnp hE c1 c2 ho ha (show q < np by omega) q1 q3 hT, z_bd_some, nI_leI]
        by_cases hc : F a q + H (set ||| 2 ^ q) q ≤ F a (i + 1) + H (set ||| 2 ^ (i + 1)) (i + 1)
        · simp only [if_pos hc, z_bd_some]
          refine Lp1_l ⟨q, rfl, Or.inr ⟨q1, by omega, q3, fun b hb2 hbb => ?_, q5⟩⟩
          rcases (show b < i + 1 ∨ b = i + 1 by omega) with h | rfl
          · exact q4 b h hbb
          · exact hc
        · simp only [if_neg hc, z_bd_some]
          refine Lp1_l ⟨i + 1, rfl, Or.inr ⟨by omega, by omega, hbit, fun b hb2 hbb => ?_, fun b hb2 hbb => ?_⟩⟩
          · rcases (show b < i + 1 ∨ b = i + 1 by omega) with h | rfl
            · have := q4 b h hbb; omega
            · exact Nat.le_refl _
          · have := q4 b hb2 hbb; omega
    · rw [hbit] at kt
      have kt' := of_decide_eq_false kt
      simp only [if_neg kn, if_neg kt', z_lt_n, nI_1, z_bd_some]
      refine Lp1_l ⟨q, rfl, ?_⟩
      rcases hq with ⟨rfl, hall⟩ | ⟨q1, q2, q3, q4, q5⟩
      · refine Or.inl ⟨rfl, fun b hb2 => ?_⟩
        rcases (show b < i + 1 ∨ b = i + 1 by omega) with h | rfl
        · exact hall b h
        · exact hbit
      · refine Or.inr ⟨q1, by omega, q3, fun b hb2 hbb => ?_, q5⟩
        rcases (show b < i + 1 ∨ b = i + 1 by omega) with h | rfl
        · exact q4 b h hbb
        · rw [hbit] at hbb; cases hbb
  · rintro _ ⟨q, rfl, hq⟩
    have kn : nI np ≤ nI (np - 1 + 1) := (nI_leI (by omega) (by omega)).mpr (by omega)
    simp only [if_pos kn]
    refine Lp1_r ?_
    rcases hq with ⟨rfl, hall⟩ | ⟨q1, q2, q3, q4, q5⟩
    · by_cases hs : set = 2 ^ np - 1
      · rw [if_pos hs]
      · obtain ⟨b, h1, h2⟩ := cz_ex ⟨np, by omega⟩ ⟨set, by omega⟩ c2 hs
        simp only at h1 h2
        rw [hall b.1 (by omega)] at h2
        cases h2
    · have hs : set ≠ 2 ^ np - 1 := by
        intro z
        have := al_bit ⟨np, by omega⟩ ⟨q, by omega⟩ (show q < np by omega)
        simp only at this
        rw [z, this] at q3
        cases q3
      rw [if_neg hs]
      obtain ⟨n1, n2, n3, n4⟩ := hN set a c1 c2 ha hb hs
      obtain ⟨-, -, h3⟩ := hH set a c1 c2 ha hb
      have h4 := (h3 hs).1 q (by omega) q3
      have h5 := q4 (nr set a) (by omega) n2
      have : q = nr set a := by
        rcases Nat.lt_trichotomy q (nr set a) with h | h | h
        · exact absurd (show F a q + H (set ||| 2 ^ q) q = H set a by omega) (n4 q h q3)
        · exact h
        · have := q5 (nr set a) h n2
          omega
      rw [this]
theorem mo_leastHome {fa th : Nat → Int32} {F H nr : Nat → Nat → Nat} {np set a : Nat} (hnp : np ≤ 7) (hF : ∀ a b, a < np → b < np → F a b ≤ 600) (hE : FM np F fa) (hH : HS np F H) (hN : NR np F H nr) (c1 : 1 ≤ set) (c2 : set < 2 ^ np) (ho : set % 2 = 1) (ha : a < np) (hb : set.testBit a = true) (hT : TH np H th set) : p_X5_leastHome (nI np) fa th (nI set) (nI a) = some (nI (H set a)) := by
  have hn := (zc_np ⟨np, by omega⟩).2
  simp only at hn
  have hb0 := bit0 (show set < 128 by omega) ho
  unfold p_X5_leastHome
  rw [mo_next hnp hF hE hH hN c1 c2 ho ha hb hT, z_bd_some]
  obtain ⟨-, h2, -⟩ := hH set a c1 c2 ha hb
  by_cases hs : set = 2 ^ np - 1
  · have e0 : fa (a * 7) = nI (F a 0) := by rw [Nat.mul_comm]; exact hE a 0 ha (by omega)
    rw [if_pos hs, if_pos (show nI 0 = (0 : Int32) from rfl)]
    simp (disch := omega) only [z_lt_n, li_7, pk_mul, z_in_n, z_gd_tt, nI_clamp, e0, z_bd_some, h2 hs]
  · obtain ⟨n1, n2, n3, n4⟩ := hN set a c1 c2 ha hb hs
    have q1 : 1 ≤ nr set a := by
      rcases Nat.eq_zero_or_pos (nr set a) with z | z
      · rw [z, hb0] at n2; cases n2
      · exact z
    have kq : ¬ nI (nr set a) = (0 : Int32) := nI_ne (b := 0) (by omega) (by decide) (by omega)
    rw [if_neg hs, if_neg kq, mo_homeOver hnp hE c1 c2 ho ha n1 q1 n2 hT, n3]
    rfl
theorem nI_m2 (k : Nat) : nI (k + 2) + (-2 : Int32) = nI k := by
  rw [← nI_add k 2, Int32.add_assoc, show nI 2 + (-2 : Int32) = 0 from by decide, Int32.add_zero]
/-- all sets -/
theorem mo_toHome {fa th : Nat → Int32} {F H nr : Nat → Nat → Nat} {np B : Nat} (hnp : np ≤ 7) (hB : 2 ^ np = 2 * B) (hB1 : 1 ≤ B) (hF : ∀ a b, a < np → b < np → F a b ≤ 600) (hE : FM np F fa) (hH : HS np F H) (hN : NR np F H nr) :
    Ha (z_lp (S := Int32 × (Nat → Int32)) (E := (Nat → Int32)) (fun s2 =>
    if (s2.1 ≤ (1 : Int32)) then
    (some (.inr s2.2)) else
    (z_bd (z_lp (S := Int32 × (Nat → Int32)) (E := (Nat → Int32)) (fun s18 =>
    if (nI np ≤ s18.1) then
    (some (.inr s18.2)) else
    (z_bd (α := (Nat → Int32)) (if ((s2.1 &&& ((1 : Int32) <<< (s18.1 &&& 31))) = 0) then
    (some s18.2) else
    (z_bd (p_X5_leastHome (nI np) fa s18.2 s2.1 s18.1) fun r26 =>
    z_lt ((((s2.1 >>> ((1 : Int32) &&& 31)) * (7 : Int32)) + s18.1)) fun x28 =>
    z_gd (z_in x28 448) <|
    z_lt ((upd s18.2 x28.toNatClampNeg r26)) fun a30 =>
    some a30)) fun j23 =>
    z_lt (s18.1 + (1 : Int32)) fun x24 =>
    some (.inl (x24, j23)))) ((1 : Int32), s2.2)) fun e19 =>
    z_lt (s2.1 + (-2 : Int32)) fun x20 =>
    some (.inl (x20, e19)))) (nI (2 ^ np - 1), th)) (fun e => TH np H e 1) := by
  have hn := (zc_np ⟨np, by omega⟩).2
  simp only at hn
  refine Ha_lp (B - 1) (fun i s => s.1 = nI (2 * B - 1 - 2 * i) ∧ TH np H s.2 (2 * B - 1 - 2 * i)) _ ?_ ?_ _ ⟨by rw [hB]; rfl, fun set a h1 h2 => by omega⟩
  · rintro i ⟨s1, s2⟩ hi ⟨g1, hs⟩
    simp only at g1 hs
    subst g1
    generalize hq : 2 * B - 1 - 2 * i = s at *
    have ks : ¬ nI s ≤ (1 : Int32) := fun z => absurd ((nI_leI (b := 1) (by omega) (by decide)).mp z) (by omega)
    simp only [if_neg ks]
    have ho : s % 2 = 1 := by omega
    refine Ha_bd (fun e => TH np H e (s - 2)) (Ha_lp (np - 1) (fun j t => t.1 = nI (j + 1) ∧ TH np H t.2 s ∧ ∀ a, 1 ≤ a → a < j + 1 → s.testBit a = true → t.2 (s / 2 * 7 + a) = nI (H s a)) _ ?_ ?_ _ ⟨rfl, hs, fun a h1 h2 => absurd h2 (by omega)⟩) ?_
    · rintro j ⟨t1, t2⟩ hj ⟨g1, hT, ha⟩
      simp only at g1 hT ha
      subst g1
      have kt := zc_t ⟨s, by omega⟩ ⟨j + 1, by omega⟩
      have kh := zc_half ⟨s, by omega⟩
      simp only at kt kh
      have kn : ¬ nI np ≤ nI (j + 1) := fun z => absurd ((nI_leI (by omega) (by omega)).mp z) (by omega)
      cases hbit : s.testBit (j + 1)
      · rw [hbit] at kt
        have kt' := of_decide_eq_true kt
        simp only [if_neg kn, if_pos kt', z_bd_some, z_lt_n, nI_1]
        refine Lp1_l ⟨rfl, hT, fun a h1 h2 h3 => ?_⟩
        rcases (show a < j + 1 ∨ a = j + 1 by omega) with h | rfl
        · exact ha a h1 h h3
        · rw [hbit] at h3; cases h3
      · rw [hbit] at kt
        have kt' := of_decide_eq_false kt
        have hlh := mo_leastHome hnp hF hE hH hN (show 1 ≤ s by omega) (by omega) ho (show j + 1 < np by omega) hbit hT
        simp (disch := omega) only [if_neg kn, if_neg kt', hlh, z_bd_some, z_lt_n, kh, li_7, pk_mul, nI_add, z_in_n, z_gd_tt, nI_clamp, nI_1]
        refine Lp1_l ⟨rfl, fun set a h1 h2 h3 h4 h5 h6 => ?_, fun a h1 h2 h3 => ?_⟩
        · show upd t2 (s / 2 * 7 + (j + 1)) _ (set / 2 * 7 + a) = _
          rw [ud_n (by omega)]; exact hT set a h1 h2 h3 h4 h5 h6
        · show upd t2 (s / 2 * 7 + (j + 1)) _ (s / 2 * 7 + a) = _
          rcases (show a < j + 1 ∨ a = j + 1 by omega) with h | rfl
          · rw [ud_n (by omega)]; exact ha a h1 h h3
          · exact ud_s
    · rintro ⟨t1, t2⟩ ⟨g1, hT, ha⟩
      simp only at g1 hT ha
      subst g1
      have kn : nI np ≤ nI (np - 1 + 1) := (nI_leI (by omega) (by omega)).mpr (by omega)
      simp only [if_pos kn]
      refine Lp1_r (fun set a h1 h2 h3 h4 h5 h6 => ?_)
      rcases (show s < set ∨ set = s by omega) with h | rfl
      · exact hT set a h h2 h3 h4 h5 h6
      · exact ha a h4 (by omega) h6
    · intro e he
      have em : nI s + (-2 : Int32) = nI (s - 2) := by
        have := nI_m2 (s - 2)
        rwa [show s - 2 + 2 = s by omega] at this
      simp only [z_lt_n, em]
      have e2 : 2 * B - 1 - 2 * (i + 1) = s - 2 := by omega
      refine Lp1_l ?_
      rw [e2]
      exact ⟨rfl, he⟩
  · rintro ⟨s1, s2⟩ ⟨g1, hs⟩
    simp only at g1 hs
    subst g1
    rw [show 2 * B - 1 - 2 * (B - 1) = 1 by omega] at hs ⊢
    simp only [show nI 1 ≤ (1 : Int32) from by decide, if_true]
    exact Lp1_r hs
/-- the round itself: what is seen, and where -/
def ps (nr : Nat → Nat → Nat) : Nat → Nat × Nat
  | 0 => (1, 0)
  | i + 1 => ((ps nr i).1 ||| 2 ^ nr (ps nr i).1 (ps nr i).2, nr (ps nr i).1 (ps nr i).2)
theorem ps_ok {np : Nat} {F H nr : Nat → Nat → Nat} (hnp : np ≤ 7) (hn0 : 1 ≤ np) (hN : NR np F H nr) : ∀ i, i ≤ np - 1 → 1 ≤ (ps nr i).1 ∧ (ps nr i).1 < 2 ^ np ∧ (ps nr i).1 % 2 = 1 ∧ (ps nr i).2 < np ∧ (ps nr i).1.testBit (ps nr i).2 = true ∧ cz (ps nr i).1 np = np - 1 - i := by
  have hn := (zc_np ⟨np, by omega⟩).2
  simp only at hn
  intro i
  induction i with
  | zero =>
    intro _
    have h1 := cz_1 ⟨np, by omega⟩ hn0
    simp only at h1
    refine ⟨Nat.le_refl 1, ?_, rfl, hn0, (show (1 : Nat).testBit 0 = true from by decide), h1⟩
    show 1 < 2 ^ np
    exact Nat.one_lt_two_pow (by omega)
  | succ i ih =>
    intro hi
    obtain ⟨h1, h2, h3, h4, h5, h6⟩ := ih (by omega)
    have hs : (ps nr i).1 ≠ 2 ^ np - 1 := by
      intro z
      have := cz_all ⟨np, by omega⟩
      simp only at this
      rw [z, this] at h6
      omega
    obtain ⟨n1, n2, n3, n4⟩ := hN _ _ h1 h2 h4 h5 hs
    obtain ⟨o1, o2, o3, o4, o5⟩ := or_facts hnp h1 h2 n1 n2
    have h7 := cz_or ⟨np, by omega⟩ ⟨(ps nr i).1, by omega⟩ ⟨nr (ps nr i).1 (ps nr i).2, by omega⟩ n1 n2
    simp only at h7
    refine ⟨o1, o2, or_odd h3 (by omega) (by omega), n1, o4, ?_⟩
    show cz ((ps nr i).1 ||| 2 ^ nr (ps nr i).1 (ps nr i).2) np = np - 1 - (i + 1)
    omega
theorem ps_all {np : Nat} {F H nr : Nat → Nat → Nat} (hnp : np ≤ 7) (hn0 : 1 ≤ np) (hN : NR np F H nr) : ∀ i, i ≤ np - 1 → ((ps nr i).1 = 2 ^ np - 1 ↔ i = np - 1) := by
  have hn := (zc_np ⟨np, by omega⟩).2
  simp only at hn
  intro i hi
  obtain ⟨h1, h2, h3, h4, h5, h6⟩ := ps_ok hnp hn0 hN i hi
  constructor
  · intro z
    have := cz_all ⟨np, by omega⟩
    simp only at this
    rw [z, this] at h6
    omega
  · intro z
    by_cases q : (ps nr i).1 = 2 ^ np - 1
    · exact q
    · obtain ⟨b, hb, hq⟩ := cz_ex ⟨np, by omega⟩ ⟨(ps nr i).1, by omega⟩ h2 q
      have h7 := cz_or ⟨np, by omega⟩ ⟨(ps nr i).1, by omega⟩ b hb hq
      simp only at h7
      omega
theorem mo_findRound {fa th fo0 : Nat → Int32} {F H nr : Nat → Nat → Nat} {np : Nat} (hnp : np ≤ 7) (hn0 : 1 ≤ np) (hF : ∀ a b, a < np → b < np → F a b ≤ 600) (hE : FM np F fa) (hH : HS np F H) (hN : NR np F H nr) :
    Ha (p_X5_findRound 0 (nI np) fa th fo0) (fun r => ∃ e fo, r = (nI (H 1 0), nI (np - 1), e, fo) ∧ ∀ j, j < np - 1 → fo j = nI (ps nr (j + 1)).2) := by
  have hn := (zc_np ⟨np, by omega⟩).2
  have h1 := zc_all ⟨np, by omega⟩
  simp only at hn h1
  have h12 : 1 < 2 ^ np := Nat.one_lt_two_pow (by omega)
  have hB : 2 ^ np = 2 * 2 ^ (np - 1) := by
    rw [show np = np - 1 + 1 by omega, Nat.pow_succ, Nat.mul_comm]; rfl
  unfold p_X5_findRound
  rw [z_lt_n, h1]
  refine Ha_bd _ (mo_toHome hnp hB Nat.one_le_two_pow hF hE hH hN) (fun e hT => ?_)
  have hl := mo_leastHome hnp hF hE hH hN (set := 1) (a := 0) (by decide) h12 (by decide) hn0 (by decide) hT
  have hl' : p_X5_leastHome (nI np) fa e (1 : Int32) (0 : Int32) = some (nI (H 1 0)) := hl
  rw [hl', z_bd_some]
  refine Ha_bd (fun r => ∃ fo, r = (fo, nI (np - 1)) ∧ ∀ j, j < np - 1 → fo j = nI (ps nr (j + 1)).2) (Ha_lp (np - 1) (fun i s => ∃ fo, s = (nI (i + 1), nI (ps nr i).1, nI (ps nr i).2, fo, nI i) ∧ ∀ j, j < i → fo j = nI (ps nr (j + 1)).2) _ ?_ ?_ _ ⟨fo0, rfl, fun j hj => absurd hj (by omega)⟩) ?_
  · rintro i _ hi ⟨fo, rfl, hfo⟩
    obtain ⟨p1, p2, p3, p4, p5, p6⟩ := ps_ok hnp hn0 hN i (by omega)
    have hs : (ps nr i).1 ≠ 2 ^ np - 1 := fun z => absurd ((ps_all hnp hn0 hN i (by omega)).mp z) (by omega)
    obtain ⟨n1, n2, n3, n4⟩ := hN _ _ p1 p2 p4 p5 hs
    have hx := mo_next hnp hF hE hH hN p1 p2 p3 p4 p5 (fun set a c1 c2 c3 c4 c5 c6 => hT set a (by omega) c2 c3 c4 c5 c6)
    rw [if_neg hs] at hx
    have ho := zc_or ⟨(ps nr i).1, by omega⟩ ⟨nr (ps nr i).1 (ps nr i).2, by omega⟩
    simp only at ho
    have kn : ¬ nI np ≤ nI (i + 1) := fun z => absurd ((nI_leI (by omega) (by omega)).mp z) (by omega)
    simp only [if_neg kn, hx, z_bd_some, z_lt_n, ho, mo_addFound (show i < 49 by omega), nI_1]
    refine Lp1_l ⟨_, rfl, fun j hj => ?_⟩
    rcases (show j < i ∨ j = i by omega) with h | rfl
    · exact (ud_n (by omega)).trans (hfo j h)
    · exact ud_s
  · rintro _ ⟨fo, rfl, hfo⟩
    have kn : nI np ≤ nI (np - 1 + 1) := (nI_leI (by omega) (by omega)).mpr (by omega)
    simp only [if_pos kn]
    exact Lp1_r ⟨fo, rfl, hfo⟩
  · rintro _ ⟨fo, rfl, hfo⟩
    exact Ha_s ⟨e, fo, rfl, hfo⟩
theorem mo_kthR {w yt fr : Nat → Int32} {F Y nr : Nat → Nat → Nat} {np : Nat} {k : Int32} (hnp : np ≤ 7) (hn0 : 1 ≤ np) (w418 : w 418 = nI np) (hF : ∀ a b, a < np → b < np → F a b ≤ 600) (hE : FM np F fr) (hN : NR np F (fun set a => Y set a / 16) nr) (heq : ∀ set a b, 1 ≤ set → set < 2 ^ np → a < np → set.testBit a = true → b < np → set.testBit b = false → (16 * F a b + 1 + Y (set ||| 2 ^ b) b = Y set a ↔ F a b + Y (set ||| 2 ^ b) b / 16 = Y set a / 16)) (hyt : ∀ set a, 1 ≤ set → set < 2 ^ np → a < np → yt (7 * set + a) = nI (Y set a) ∧ Y set a ≤ 99999999) :
    Ha (p_X8_kth w yt fr (0 : Int32) (-1 : Int32) k) (fun r => (∀ j, j < np - 1 → k = nI j → r = nI (ps nr (j + 1)).2) ∧ ((∀ j, j < np - 1 → ¬ k = nI j) → r = -5)) := by
  have hn := (zc_np ⟨np, by omega⟩).2
  have h1 := zc_all ⟨np, by omega⟩
  simp only at hn h1
  have h2 : (1 : Int32) <<< ((0 : Int32) &&& 31) = nI 1 := by decide
  unfold p_X8_kth
  rw [z_lt_n, z_lt_n, w418, h1, h2]
  refine Ha_bd (fun e => (e = .inl () ∧ ∀ j, j < np - 1 → ¬ k = nI j) ∨ ∃ j, j < np - 1 ∧ k = nI j ∧ e = .inr (nI (ps nr (j + 1)).2)) (Ha_lp (np - 1) (fun i s => s = (nI i, nI (ps nr i).2, nI (ps nr i).1) ∧ ∀ j, j < i → ¬ k = nI j) _ ?_ ?_ _ ⟨rfl, fun j hj => absurd hj (by omega)⟩) ?_
  · rintro i _ hi ⟨rfl, hj⟩
    obtain ⟨p1, p2, p3, p4, p5, p6⟩ := ps_ok hnp hn0 hN i (by omega)
    have hs : (ps nr i).1 ≠ 2 ^ np - 1 := fun z => absurd ((ps_all hnp hn0 hN i (by omega)).mp z) (by omega)
    obtain ⟨n1, n2, n3, n4⟩ := hN _ _ p1 p2 p4 p5 hs
    have kne : ¬ nI (ps nr i).2 = (-1 : Int32) := mn1_n (by omega)
    have kse : ¬ nI (ps nr i).1 = nI (2 ^ np - 1) := nI_ne (by omega) (by omega) hs
    have hfind := kt_find (bs := nr (ps nr i).1 (ps nr i).2) hnp hF hE p1 p2 p4 n1 hyt n2 ((heq _ _ _ p1 p2 p4 p5 n1 n2).mpr n3) (fun b hb hq e => n4 b hb hq ((heq _ _ _ p1 p2 p4 p5 (by omega) hq).mp e))
    have ho := zc_or ⟨(ps nr i).1, by omega⟩ ⟨nr (ps nr i).1 (ps nr i).2, by omega⟩
    simp only at ho
    simp only [if_neg kne, if_neg kse]
    rw [z_bd_s hfind]
    by_cases q : nI i = k
    · rw [if_pos q]
      exact Lp1_r (Or.inr ⟨i, hi, q.symm, rfl⟩)
    · rw [if_neg q, z_lt_n, z_lt_n, ho, nI_1]
      refine Lp1_l ⟨rfl, fun j hj2 => ?_⟩
      rcases (show j < i ∨ j = i by omega) with h | rfl
      · exact hj j h
      · exact fun z => q z.symm
  · rintro _ ⟨rfl, hj⟩
    obtain ⟨p1, p2, p3, p4, p5, p6⟩ := ps_ok hnp hn0 hN (np - 1) (Nat.le_refl _)
    have hs := (ps_all hnp hn0 hN (np - 1) (Nat.le_refl _)).mpr rfl
    have kne : ¬ nI (ps nr (np - 1)).2 = (-1 : Int32) := mn1_n (by omega)
    have kse : nI (ps nr (np - 1)).1 = nI (2 ^ np - 1) := by rw [hs]
    simp only [if_neg kne, if_pos kse, if_true]
    exact Lp1_r (Or.inl ⟨rfl, hj⟩)
  · rintro e (⟨rfl, hj⟩ | ⟨j, hj, hk, rfl⟩)
    · exact Ha_s ⟨fun j h1 h2 => absurd h2 (hj j h1), fun _ => rfl⟩
    · refine Ha_s ⟨fun j' h1 h2 => ?_, fun h => absurd hk (h j hj)⟩
      have : j' = j := (nI_eq (by omega) (by omega)).mp (h2.symm.trans hk)
      rw [this]
theorem q_15 {x : Nat → Int32} {v : Nat → Int32} {f : Nat → Nat → Int32} {n : DD} {P : Nat → DD} {kf : Nat → Int32} {tf : Nat → Int32} {rf : Nat → Nat → Int32} {rv : Nat → Int32} {v0 : Nat → Int32} {f0 : Nat → Nat → Int32} {n0 : DD} {P0 : Nat → DD} {v1 : Nat → Int32} {f1 : Nat → Nat → Int32} {n1 : DD} {P1 : Nat → DD} {mv : Nat → Int32} {ma : Int64} {mb : Int64} {w : Nat → Int32} {tx : Nat → Int32} {yt : Nat → Int32} {fr : Nat → Int32} (hR : RelX x v f n P kf tf v0 f0 n0 P0 v1 f1 n1 P1 mv ma mb w tx) (c1 : Int32) (c2 : Int32) : ∃ (r7 : Int32 × Int32 × Int32 × Int32 × (Nat → Int32) × (Nat → Int32) × (Nat → Int32)) (r8 : Int32 × Int32 × (Nat → Int32) × (Nat → Int32)), p_X7_round (x 3) (v 0) (v 1) (f 0) (f 1) (f 2) (f 3) n.2.2.2.2.2.2.2.2 n.2.2.2.2.2.1 (rv 0) (rv 1) (rf 0) (rf 2) (rf 3) c1 c2 = some r7 ∧ p_X8_round (mv 2) w yt fr c1 c2 = some r8 ∧ r7.1 = r8.1 ∧ RelX (va_up x 3 r7.2.1) v f n P kf tf v0 f0 n0 P0 v1 f1 n1 P1 (va_up mv 2 r8.2.1) ma mb w tx := by
  refine RX_al hR ?_
  have hb := hR.2.2.1
  obtain ⟨np, nc, hnp, hnc, e0, w418, e1, w422, hP, hD⟩ := RC_get hR.1
  have rb7 : ∀ b, p_X7_refuseList b = some ((-10 : Int32), b + 1) := fun _ => rfl
  have rb8 : ∀ b, p_X8_badTen b = some ((-10 : Int32), b + 1) := fun _ => rfl
  unfold p_X7_round p_X8_round
  simp only [e0, e1, hb, p0_hasCrow (n := nc) (by omega), p8_isCrow w422 (by omega), z_bd_some, rb7, rb8]
  cases hc : z_in c1 nc
  · simp only [b2_f0, if_true]; exact Al_s ⟨rfl, rfl⟩
  simp only [b2_t0, if_false]
  obtain ⟨c, hc', rfl⟩ := (z_in_iff (by omega)).mp hc
  have hn0 : 1 ≤ np := by
    obtain ⟨nd, h, hnd, hh, d7, w7, d6, w6, hat, -⟩ := hD
    obtain ⟨a, t, ha, -⟩ := hat c hc'
    omega
  have kw : ¬ w 418 = (0 : Int32) := by rw [w418]; exact nI_ne (b := 0) (by omega) (by decide) (by omega)
  simp only [if_neg kw]
  by_cases hk : (-1 : Int32) ≤ c2
  case neg => simp only [if_neg hk]; exact Al_s ⟨rfl, rfl⟩
  simp only [if_pos hk]
  obtain ⟨F, hF⟩ := mo_F hnp hnc hP hD hc'
  obtain ⟨e7, m7, hE7⟩ := mo_measure hnp hF (rv 0) (rv 1) (rf 0)
  obtain ⟨e8, m8, hE8⟩ := mo_layFars hnp w418 hF fr
  have hF6 : ∀ a b, a < np → b < np → F a b ≤ 600 := fun a b ha hb => (hF a b ha hb).1
  have hn := (zc_np ⟨np, by omega⟩).2
  simp only at hn
  have hspb : ∀ set a z, a < np → spR F np set a = some z → z ≤ 99999999 := by
    intro set a z h1 h2
    unfold spR at h2
    by_cases q : set = 2 ^ np - 1
    · rw [if_pos q] at h2
      have := hF6 a 0 h1 (by omega)
      have := Option.some.inj h2
      omega
    · rw [if_neg q] at h2; cases h2
  obtain ⟨yt', Y, y1, y2⟩ := mo_yet (fr := e8) (F := F) (tI := -1) (sp := spR F np) hnp w418 hspb (fun e set a h1 h2 h3 => mo_leastR hnp w418 hF6 hE8 (by omega) h2 h3) yt
  have hY : YS np F (spR F np) Y := fun set a c1 c2 c3 => (y2 set a c1 c2 c3).2
  have hyt : ∀ set a, 1 ≤ set → set < 2 ^ np → a < np → yt' (7 * set + a) = nI (Y set a) ∧ Y set a ≤ 99999999 := fun set a c1 c2 c3 => ⟨(y2 set a c1 c2 c3).1, (y2 set a c1 c2 c3).2.1⟩
  obtain ⟨hH, heq⟩ := RH hnp hn0 hF6 hY
  obtain ⟨nr, hN⟩ := NR_ex hH
  obtain ⟨_, r7, e, fo, rfl, hfo⟩ := mo_findRound (th := rf 2) (fo0 := rf 3) hnp hn0 hF6 hE7 hH hN
  obtain ⟨rk, r8, k1, k2⟩ := mo_kthR (k := c2) hnp hn0 w418 hF6 hE8 hN heq hyt
  have hfa : FA c2 (np - 1) fo rk := ⟨fun j hj e => by rw [k1 j hj e, hfo j hj], k2⟩
  have y3 := hyt 1 0 (by decide) (Nat.one_lt_two_pow (by omega)) hn0
  have y4 : yt' 7 = nI (Y 1 0) := y3.1
  have kd : nI (Y 1 0) / (16 : Int32) = nI (Y 1 0 / 16) := pk_div (d := 16) (by omega) (by decide) (by decide)
  simp only [m7, m8, y1, z_bd_some, r7, r8, FA_ans (show np - 1 ≤ 49 by omega) hk hfa, y4, kd, z_bd_ite]
  exact Al_s ⟨rfl, rfl⟩
