/-! The reference's table of sets: what is least from a place, so many seen. -/
theorem zc_or : ∀ m : Fin 128, ∀ b : Fin 7, (nI m.1 ||| (1 : Int32) <<< (nI b.1 &&& 31)) = nI (m.1 ||| 2 ^ b.1) := by decide +kernel
theorem zc_orb : ∀ m : Fin 128, ∀ b k : Fin 7, (m.1 ||| 2 ^ b.1) < 128 ∧ (m.1 ||| 2 ^ b.1).testBit k.1 = (m.1.testBit k.1 || decide (k.1 = b.1)) := by decide +kernel
theorem zc_up : ∀ m : Fin 128, ∀ b : Fin 7, m.1.testBit b.1 = false → m.1 < (m.1 ||| 2 ^ b.1) := by decide +kernel
theorem zc_has : ∀ m : Fin 128, ∀ b : Fin 7, p_X8_has (nI m.1) (nI b.1) = some (b2 (m.1.testBit b.1)) := by decide +kernel
theorem zc_all : ∀ k : Fin 8, ((1 : Int32) <<< (nI k.1 &&& 31)) - (1 : Int32) = nI (2 ^ k.1 - 1) := by decide +kernel
theorem zc_one : ∀ k : Fin 7, ((1 : Int32) <<< (nI k.1 &&& 31)) = nI (2 ^ k.1) := by decide +kernel
theorem zc_np : ∀ k : Fin 8, 1 ≤ 2 ^ k.1 ∧ 2 ^ k.1 ≤ 128 := by decide +kernel
def mn (F : Nat → Nat → Nat) (e : Nat → Int32) (set a : Nat) : Nat → Nat
  | 0 => 99999999
  | b + 1 => if set.testBit b = true then mn F e set a b else min (mn F e set a b) (16 * F a b + 1 + (e (7 * (set ||| 2 ^ b) + b)).toNatClampNeg)
theorem mn_le (F : Nat → Nat → Nat) (e : Nat → Int32) (set a : Nat) : ∀ k, mn F e set a k ≤ 99999999 := by
  intro k
  induction k with
  | zero => exact Nat.le_refl _
  | succ b ih =>
    show (if set.testBit b = true then mn F e set a b else min (mn F e set a b) _) ≤ 99999999
    by_cases q : set.testBit b = true
    · rw [if_pos q]; exact ih
    · rw [if_neg q]; exact Nat.le_trans (Nat.min_le_left _ _) ih
theorem mn_lb (F : Nat → Nat → Nat) (e : Nat → Int32) (set a : Nat) : ∀ k b, b < k → set.testBit b = false → mn F e set a k ≤ 16 * F a b + 1 + (e (7 * (set ||| 2 ^ b) + b)).toNatClampNeg := by
  intro k
  induction k with
  | zero => intro b h; exact absurd h (by omega)
  | succ k ih =>
    intro b hb hq
    show (if set.testBit k = true then mn F e set a k else min (mn F e set a k) _) ≤ _
    rcases (show b < k ∨ b = k by omega) with h | rfl
    · have h2 := ih b h hq
      by_cases q : set.testBit k = true
      · rw [if_pos q]; exact h2
      · rw [if_neg q]; exact Nat.le_trans (Nat.min_le_left _ _) h2
    · rw [if_neg (by rw [hq]; decide)]; exact Nat.min_le_right _ _
theorem mn_or (F : Nat → Nat → Nat) (e : Nat → Int32) (set a : Nat) : ∀ k, mn F e set a k = 99999999 ∨ ∃ b, b < k ∧ set.testBit b = false ∧ mn F e set a k = 16 * F a b + 1 + (e (7 * (set ||| 2 ^ b) + b)).toNatClampNeg := by
  intro k
  induction k with
  | zero => exact Or.inl rfl
  | succ k ih =>
    have st : mn F e set a (k + 1) = if set.testBit k = true then mn F e set a k else min (mn F e set a k) (16 * F a k + 1 + (e (7 * (set ||| 2 ^ k) + k)).toNatClampNeg) := rfl
    rw [st]
    cases q : set.testBit k
    · rw [if_neg (by decide)]
      by_cases h : mn F e set a k ≤ 16 * F a k + 1 + (e (7 * (set ||| 2 ^ k) + k)).toNatClampNeg
      · rw [Nat.min_eq_left h]
        rcases ih with h1 | ⟨b, h1, h2, h3⟩
        · exact Or.inl h1
        · exact Or.inr ⟨b, by omega, h2, h3⟩
      · rw [Nat.min_eq_right (by omega)]
        exact Or.inr ⟨k, by omega, q, rfl⟩
    · rw [if_pos rfl]
      rcases ih with h1 | ⟨b, h1, h2, h3⟩
      · exact Or.inl h1
      · exact Or.inr ⟨b, by omega, h2, h3⟩
theorem mn_upd (F : Nat → Nat → Nat) (e : Nat → Int32) {set a i : Nat} {x : Int32} (hs : set < 128) (hi : i < 7 * (set + 1)) : ∀ k, k ≤ 7 → mn F (upd e i x) set a k = mn F e set a k := by
  intro k
  induction k with
  | zero => intro _; rfl
  | succ b ih =>
    intro hk
    show (if set.testBit b = true then mn F (upd e i x) set a b else min (mn F (upd e i x) set a b) (16 * F a b + 1 + (upd e i x (7 * (set ||| 2 ^ b) + b)).toNatClampNeg)) = (if set.testBit b = true then mn F e set a b else min (mn F e set a b) (16 * F a b + 1 + (e (7 * (set ||| 2 ^ b) + b)).toNatClampNeg))
    rw [ih (by omega)]
    cases q : set.testBit b
    · have := zc_up ⟨set, hs⟩ ⟨b, by omega⟩ q
      simp only at this
      rw [ud_n (by omega)]
    · rw [if_pos rfl, if_pos rfl]
theorem mo_partTo {e fr : Nat → Int32} {F : Nat → Nat → Nat} {np set a b y : Nat} (hnp : np ≤ 7) (hE : FM np F fr) (hs : set < 128) (ha : a < np) (hb : b < np) (hy : e (7 * (set ||| 2 ^ b) + b) = nI y) : p_X8_partTo e fr (nI set) (nI a) (nI b) = some (nI (16 * F a b + 1 + y)) := by
  have h1 := zc_or ⟨set, hs⟩ ⟨b, by omega⟩
  have h2 := (zc_orb ⟨set, hs⟩ ⟨b, by omega⟩ ⟨b, by omega⟩).1
  simp only at h1 h2
  unfold p_X8_partTo
  simp (disch := omega) only [z_lt_n, h1, li_7, li_16, pk_mul, nI_add, z_in_n, z_gd_tt, nI_clamp, hE a b ha hb, hy]
  rw [li_1, nI_add, nI_add]
/-- the entries that are read stand -/
def EO (np : Nat) (e : Nat → Int32) (set : Nat) : Prop := ∀ b, b < np → set.testBit b = false → ∃ y : Nat, y ≤ 99999999 ∧ e (7 * (set ||| 2 ^ b) + b) = nI y
theorem lf_loop {w e fr : Nat → Int32} {F : Nat → Nat → Nat} {np set a : Nat} (hnp : np ≤ 7) (w418 : w 418 = nI np) (hF : ∀ a b, a < np → b < np → F a b ≤ 600) (hE : FM np F fr) (hs : set < 128) (ha : a < np) (hO : EO np e set) : z_lp (S := Int32 × Int32) (E := Int32) (fun s20 =>
    if ((w 418) ≤ s20.1) then
    (some (.inr s20.2)) else
    (z_bd (p_X8_has (nI set) s20.1) fun r24 =>
    z_bd (α := Int32) (if (r24 = 0) then
    (z_bd (p_X8_partTo e fr (nI set) (nI a) s20.1) fun r29 =>
    z_bd (α := Int32) (if (s20.2 ≤ r29) then
    (some s20.2) else
    (z_bd (p_X8_partTo e fr (nI set) (nI a) s20.1) fun r33 =>
    some r33)) fun j31 =>
    some j31) else
    (some s20.2)) fun j26 =>
    z_lt (s20.1 + (1 : Int32)) fun x27 =>
    some (.inl (x27, j26)))) ((0 : Int32), (99999999 : Int32)) = some (nI (mn F e set a np)) := by
  rw [w418]
  refine z_forS (fun b => (nI b, nI (mn F e set a b))) np _ rfl ?_ ?_
  · intro b hb
    have hh := zc_has ⟨set, hs⟩ ⟨b, by omega⟩
    simp only at hh
    have kb : ¬ nI np ≤ nI b := fun q => absurd ((nI_leI (by omega) (by omega)).mp q) (by omega)
    simp only [if_neg kb, hh, z_bd_some, z_lt_n, nI_1]
    have st : mn F e set a (b + 1) = if set.testBit b = true then mn F e set a b else min (mn F e set a b) (16 * F a b + 1 + (e (7 * (set ||| 2 ^ b) + b)).toNatClampNeg) := rfl
    cases q : set.testBit b
    · obtain ⟨y, hy, ey⟩ := hO b hb q
      rw [q, ey, nI_clamp (show y < 2 ^ 31 by omega), if_neg (by decide)] at st
      have hl := mn_le F e set a b
      have hf := hF a b ha hb
      simp only [b2_f0, if_true, mo_partTo hnp hE hs ha hb ey, z_bd_some]
      rw [st]
      by_cases h : mn F e set a b ≤ 16 * F a b + 1 + y
      · rw [if_pos ((nI_leI (by omega) (by omega)).mpr h), Nat.min_eq_left h]; rfl
      · rw [if_neg (fun z => h ((nI_leI (by omega) (by omega)).mp z)), Nat.min_eq_right (by omega)]; rfl
    · rw [q, if_pos rfl] at st
      simp only [b2_t0, if_false, z_bd_some]
      rw [st]
  · simp (disch := omega) only [nI_leI, if_pos]
/-- to a place -/
theorem mo_leastW {w e fr : Nat → Int32} {F : Nat → Nat → Nat} {np set a t : Nat} (hnp : np ≤ 7) (w418 : w 418 = nI np) (hF : ∀ a b, a < np → b < np → F a b ≤ 600) (hE : FM np F fr) (hs : set < 128) (ha : a < np) (ht : t < np) (hO : EO np e set) : p_X8_leastFrom w e fr (nI set) (nI a) (nI t) = some (nI ((if a = t then some 0 else none : Option Nat).getD (mn F e set a np))) := by
  unfold p_X8_leastFrom
  rw [z_lt_n]
  by_cases q : a = t
  · rw [if_pos (by rw [q]), if_pos q]; rfl
  · rw [if_neg (nI_ne (by omega) (by omega) q), if_neg (show ¬ nI t = (-1 : Int32) from mn1_n (by omega)), if_neg q, z_bd_s (lf_loop hnp w418 hF hE hs ha hO)]; rfl
/-- a round -/
theorem mo_leastR {w e fr : Nat → Int32} {F : Nat → Nat → Nat} {np set a : Nat} (hnp : np ≤ 7) (w418 : w 418 = nI np) (hF : ∀ a b, a < np → b < np → F a b ≤ 600) (hE : FM np F fr) (hs : set < 128) (ha : a < np) (hO : EO np e set) : p_X8_leastFrom w e fr (nI set) (nI a) (-1) = some (nI ((if set = 2 ^ np - 1 then some (16 * F a 0) else none : Option Nat).getD (mn F e set a np))) := by
  have h1 := zc_all ⟨np, by omega⟩
  have h2 := zc_np ⟨np, by omega⟩
  simp only at h1 h2
  unfold p_X8_leastFrom
  rw [z_lt_n, w418, h1, if_neg (show ¬ nI a = (-1 : Int32) from mn1_n (by omega)), if_pos rfl]
  by_cases q : set = 2 ^ np - 1
  · have hf := hF a 0 ha (by omega)
    have e0 : fr (7 * a) = nI (F a 0) := hE a 0 ha (by omega)
    rw [if_pos (by rw [q]), if_pos q]
    simp (disch := omega) only [z_lt_n, li_7, li_16, pk_mul, z_in_n, z_gd_tt, nI_clamp, e0]
    rfl
  · rw [if_neg (nI_ne (by omega) (by omega) q), if_neg q]
    rw [← w418]
    rw [z_bd_s (lf_loop hnp w418 hF hE hs ha hO)]; rfl
def vlY (F : Nat → Nat → Nat) (sp : Nat → Nat → Option Nat) (np : Nat) (e : Nat → Int32) (set a : Nat) : Nat := if set.testBit a = true then (sp set a).getD (mn F e set a np) else 99999999
theorem vlY_le {F : Nat → Nat → Nat} {sp : Nat → Nat → Option Nat} {np : Nat} {e : Nat → Int32} {set a : Nat} (hsp : ∀ z, sp set a = some z → z ≤ 99999999) : vlY F sp np e set a ≤ 99999999 := by
  unfold vlY
  by_cases q : set.testBit a = true
  · rw [if_pos q]
    cases h : sp set a
    · exact mn_le _ _ _ _ _
    · exact hsp _ h
  · rw [if_neg q]; exact Nat.le_refl _
theorem vlY_upd {F : Nat → Nat → Nat} {sp : Nat → Nat → Option Nat} {np : Nat} {e : Nat → Int32} {set a i : Nat} {x : Int32} (hnp : np ≤ 7) (hs : set < 128) (hi : i < 7 * (set + 1)) : vlY F sp np (upd e i x) set a = vlY F sp np e set a := by
  unfold vlY
  rw [mn_upd F e hs hi np hnp]
theorem mo_layYet {w fr : Nat → Int32} {F : Nat → Nat → Nat} {np : Nat} {tI : Int32} {sp : Nat → Nat → Option Nat} (hnp : np ≤ 7) (w418 : w 418 = nI np) (hsp : ∀ set a z, a < np → sp set a = some z → z ≤ 99999999) (hL : ∀ (e : Nat → Int32) (set a : Nat), set < 2 ^ np → a < np → EO np e set → p_X8_leastFrom w e fr (nI set) (nI a) tI = some (nI ((sp set a).getD (mn F e set a np)))) (e0 : Nat → Int32) :
    Ha (p_X8_layYet w e0 fr tI) (fun e => ∀ set a, 1 ≤ set → set < 2 ^ np → a < np → e (7 * set + a) = nI (vlY F sp np e set a)) := by
  have h1 := zc_all ⟨np, by omega⟩
  have h2 := zc_np ⟨np, by omega⟩
  simp only at h1 h2
  have hor : ∀ set b, set < 2 ^ np → b < np → (set ||| 2 ^ b) < 2 ^ np := fun set b h1 h2 => Nat.or_lt_two_pow h1 (Nat.pow_lt_pow_right (by decide) h2)
  unfold p_X8_layYet
  rw [z_lt_n, w418, h1]
  generalize hA : 2 ^ np = A at *
  refine Ha_bd _ (Ha_lp (A - 1) (fun i s => s.1 = nI (A - 1 - i) ∧ ∀ set a, A - 1 - i < set → set < A → a < np → s.2 (7 * set + a) = nI (vlY F sp np s.2 set a)) (fun e => ∀ set a, 1 ≤ set → set < A → a < np → e (7 * set + a) = nI (vlY F sp np e set a)) ?_ ?_ _ ⟨rfl, fun set a h1 h2 => absurd h1 (by omega)⟩) (fun e he => Ha_s he)
  · rintro i ⟨s1, s2⟩ hi ⟨g1, hs⟩
    simp only at g1 hs
    subst g1
    generalize hq : A - 1 - i = s at *
    have ks : ¬ nI s ≤ (0 : Int32) := nI_nle (by omega) (by omega)
    simp only [if_neg ks]
    refine Ha_bd (fun e => ∀ set a, s - 1 < set → set < A → a < np → e (7 * set + a) = nI (vlY F sp np e set a)) (Ha_lp np (fun j t => t.1 = nI j ∧ (∀ set a, s < set → set < A → a < np → t.2 (7 * set + a) = nI (vlY F sp np t.2 set a)) ∧ ∀ a, a < j → t.2 (7 * s + a) = nI (vlY F sp np t.2 s a)) _ ?_ ?_ _ ⟨rfl, hs, fun a h => absurd h (by omega)⟩) ?_
    · rintro j ⟨t1, t2⟩ hj ⟨g1, ha, hb⟩
      simp only at g1 ha hb
      subst g1
      have hh := zc_has ⟨s, by omega⟩ ⟨j, by omega⟩
      simp only at hh
      have hO : EO np t2 s := by
        intro b hb hq2
        have hup := zc_up ⟨s, by omega⟩ ⟨b, by omega⟩ hq2
        simp only at hup
        exact ⟨_, vlY_le (fun z hz => hsp _ _ z hb hz), ha _ b hup (hor s b (by omega) hb) hb⟩
      have kj : ¬ nI np ≤ nI j := fun q => absurd ((nI_leI (by omega) (by omega)).mp q) (by omega)
      have fin : ∀ x : Int32, x = nI (vlY F sp np t2 s j) → (∀ set a, s < set → set < A → a < np → upd t2 (7 * s + j) x (7 * set + a) = nI (vlY F sp np (upd t2 (7 * s + j) x) set a)) ∧ ∀ a, a < j + 1 → upd t2 (7 * s + j) x (7 * s + a) = nI (vlY F sp np (upd t2 (7 * s + j) x) s a) := by
        intro x hx
        refine ⟨fun set a c1 c2 c3 => ?_, fun a c1 => ?_⟩
        · rw [vlY_upd hnp (by omega) (by omega), ud_n (by omega)]
          exact ha set a c1 c2 c3
        · rw [vlY_upd hnp (by omega) (by omega)]
          rcases (show a < j ∨ a = j by omega) with h | rfl
          · rw [ud_n (by omega)]; exact hb a h
          · rw [ud_s]; exact hx
      cases q : s.testBit j
      · simp (disch := omega) only [if_neg kj, hh, q, z_bd_some, b2_f0, if_true, z_lt_n, li_7, pk_mul, nI_add, z_in_n, z_gd_tt, nI_clamp, nI_1]
        exact Lp1_l ⟨rfl, fin _ (by unfold vlY; rw [if_neg (by rw [q]; decide)]; rfl)⟩
      · simp (disch := omega) only [if_neg kj, hh, q, z_bd_some, b2_t0, if_false, hL t2 s j (by omega) hj hO, z_lt_n, li_7, pk_mul, nI_add, z_in_n, z_gd_tt, nI_clamp, nI_1]
        exact Lp1_l ⟨rfl, fin _ (by unfold vlY; rw [if_pos q])⟩
    · rintro ⟨t1, t2⟩ ⟨g1, ha, hb⟩
      simp only at g1 ha hb
      subst g1
      simp (disch := omega) only [nI_leI, if_pos]
      refine Lp1_r (fun set a c1 c2 c3 => ?_)
      rcases (show s < set ∨ set = s by omega) with h | rfl
      · exact ha set a h c2 c3
      · exact hb a c3
    · intro e he
      have em : nI s + (-1 : Int32) = nI (s - 1) := by
        have := pk_m1 (s - 1)
        rwa [show s - 1 + 1 = s by omega] at this
      simp only [z_lt_n, em]
      refine Lp1_l ⟨?_, fun set a c1 c2 c3 => he set a (by omega) c2 c3⟩
      show nI (s - 1) = nI (A - 1 - (i + 1))
      rw [show A - 1 - (i + 1) = s - 1 by omega]
  · rintro ⟨s1, s2⟩ ⟨g1, hs⟩
    simp only at g1 hs
    subst g1
    rw [Nat.sub_self] at hs
    simp only [Nat.sub_self, show nI 0 ≤ (0 : Int32) from by decide, if_true]
    exact Lp1_r (fun set a c1 c2 c3 => hs set a (by omega) c2 c3)
/-- the table as numbers -/
theorem mo_yet {w fr : Nat → Int32} {F : Nat → Nat → Nat} {np : Nat} {tI : Int32} {sp : Nat → Nat → Option Nat} (hnp : np ≤ 7) (w418 : w 418 = nI np) (hsp : ∀ set a z, a < np → sp set a = some z → z ≤ 99999999) (hL : ∀ (e : Nat → Int32) (set a : Nat), set < 2 ^ np → a < np → EO np e set → p_X8_leastFrom w e fr (nI set) (nI a) tI = some (nI ((sp set a).getD (mn F e set a np)))) (e0 : Nat → Int32) :
    ∃ (e : Nat → Int32) (Y : Nat → Nat → Nat), p_X8_layYet w e0 fr tI = some e ∧ ∀ set a, 1 ≤ set → set < 2 ^ np → a < np → e (7 * set + a) = nI (Y set a) ∧ Y set a ≤ 99999999 ∧ (set.testBit a = true → ∀ z, sp set a = some z → Y set a = z) ∧ (set.testBit a = true → sp set a = none → (∀ b, b < np → set.testBit b = false → Y set a ≤ 16 * F a b + 1 + Y (set ||| 2 ^ b) b) ∧ (Y set a = 99999999 ∨ ∃ b, b < np ∧ set.testBit b = false ∧ Y set a = 16 * F a b + 1 + Y (set ||| 2 ^ b) b)) := by
  obtain ⟨e, h1, h2⟩ := mo_layYet (F := F) hnp w418 hsp hL e0
  have hn := (zc_np ⟨np, by omega⟩).2
  simp only at hn
  have hcl : ∀ set b, 1 ≤ set → set < 2 ^ np → b < np → (e (7 * (set ||| 2 ^ b) + b)).toNatClampNeg = vlY F sp np e (set ||| 2 ^ b) b := by
    intro set b c1 c2 c3
    have hlt : (set ||| 2 ^ b) < 2 ^ np := Nat.or_lt_two_pow c2 (Nat.pow_lt_pow_right (by decide) c3)
    have hge : set ≤ (set ||| 2 ^ b) := Nat.left_le_or
    rw [h2 _ b (by omega) hlt c3, nI_clamp (Nat.lt_of_le_of_lt (vlY_le (fun z hz => hsp _ _ z c3 hz)) (by decide))]
  refine ⟨e, vlY F sp np e, h1, fun set a c1 c2 c3 => ⟨h2 set a c1 c2 c3, vlY_le (fun z hz => hsp _ _ z c3 hz), fun hb z hz => ?_, fun hb hz => ?_⟩⟩
  · unfold vlY
    rw [if_pos hb, hz]; rfl
  · have ev : vlY F sp np e set a = mn F e set a np := by
      unfold vlY
      rw [if_pos hb, hz]; rfl
    rw [ev]
    refine ⟨fun b hb2 hq => ?_, ?_⟩
    · have := mn_lb F e set a np b hb2 hq
      rwa [hcl set b c1 c2 hb2] at this
    · rcases mn_or F e set a np with h | ⟨b, h3, h4, h5⟩
      · exact Or.inl h
      · rw [hcl set b c1 c2 h3] at h5
        exact Or.inr ⟨b, h3, h4, h5⟩
