/-! Tools for the pure programs. -/
theorem z_lt_s {α β : Type} (e : α) (k : α → Option β) : z_lt e k = k e := rfl
theorem z_bd_some {α β : Type} (v : α) (k : α → Option β) : z_bd (some v) k = k v := rfl
theorem z_gd_tt {α : Type} (k : Option α) : z_gd true k = k := rfl
/-- a loop told by its states -/
theorem z_for {S E : Type} {body : S → Option (S ⊕ E)} (st : Nat → S) (n : Nat) (e : E) (hs : ∀ i, i < n → body (st i) = some (.inl (st (i + 1)))) (he : body (st n) = some (.inr e)) : z_lp body (st 0) = some e := by
  have h : ∀ k, k ≤ n → z_lp body (st (n - k)) = some e := by
    intro k
    induction k with
    | zero => intro _; exact z_lp_end he
    | succ k ih =>
      intro hk
      rw [z_lp_go (hs (n - (k + 1)) (by omega)), show n - (k + 1) + 1 = n - k by omega]
      exact ih (by omega)
  have h2 := h n (Nat.le_refl n)
  rwa [Nat.sub_self] at h2
/-- a loop told by what holds at its turns: an invariant over a count -/
theorem z_forI {S E : Type} {body : S → Option (S ⊕ E)} (I : Nat → S → Prop) (n : Nat) (P : E → Prop) (hs : ∀ i s, i < n → I i s → ∃ s', body s = some (.inl s') ∧ I (i + 1) s') (he : ∀ s, I n s → ∃ e, body s = some (.inr e) ∧ P e) : ∀ (s : S), I 0 s → ∃ e, z_lp body s = some e ∧ P e := by
  have h : ∀ k, k ≤ n → ∀ s, I (n - k) s → ∃ e, z_lp body s = some e ∧ P e := by
    intro k
    induction k with
    | zero =>
      intro _ s hI
      obtain ⟨e, h1, h2⟩ := he s hI
      exact ⟨e, z_lp_end h1, h2⟩
    | succ k ih =>
      intro hk s hI
      obtain ⟨s', h1, h2⟩ := hs (n - (k + 1)) s (by omega) hI
      rw [show n - (k + 1) + 1 = n - k by omega] at h2
      obtain ⟨e, h3, h4⟩ := ih (by omega) s' h2
      exact ⟨e, by rw [z_lp_go h1]; exact h3, h4⟩
  intro s hI
  exact h n (Nat.le_refl n) s (by rw [Nat.sub_self]; exact hI)
theorem z_in_iff {i : Int32} {n : Nat} (hn : n < 2 ^ 31) : z_in i n = true ↔ ∃ k : Nat, k < n ∧ i = nI k :=
  ⟨fun h => vp_in_of (z_in_e h) hn, fun ⟨k, hk, e⟩ => by rw [e]; exact z_in_n hk hn⟩
theorem z_in_ti {i : Int32} {n : Nat} : z_in i n = true ↔ 0 ≤ i.toInt ∧ i.toInt < n := ⟨fun h => vp_in_iff.mp (z_in_e h), fun h => z_in_i (vp_in_iff.mpr h)⟩
/-- both ends told: a number between two is a place in a row -/
theorem z_btw (i : Int32) (n : Nat) (hn : n < 2 ^ 30) : (0 ≤ i ∧ i ≤ nI n - 1) ↔ z_in i n = true := by
  rw [z_in_ti, Int32.le_iff_toInt_le, Int32.le_iff_toInt_le]
  have h1 : (nI n - 1).toInt = (n : Int) - 1 := pk_sub_toInt (b := 1) hn (by decide)
  rw [h1]
  show (0 : Int) ≤ i.toInt ∧ i.toInt ≤ (n : Int) - 1 ↔ _
  omega
theorem z_btl (i : Int32) (n : Nat) (hn : n < 2 ^ 31) : (0 ≤ i ∧ i < nI n) ↔ z_in i n = true := by
  rw [z_in_ti, Int32.le_iff_toInt_le, Int32.lt_iff_toInt_lt, nI_toInt hn]
  exact Iff.rfl
def b2 (b : Bool) : Int32 := if b = true then 1 else 0
theorem p7_within (v lo hi : Int32) : p_X7_within v lo hi = some (b2 (decide (lo ≤ v ∧ v ≤ hi))) := by
  unfold p_X7_within b2
  simp only [decide_eq_true_eq]
  by_cases h1 : lo ≤ v
  · by_cases h2 : v ≤ hi
    · simp [h1, h2, z_bd, Int32.not_lt.mpr h1, Int32.not_lt.mpr h2]; rfl
    · simp [h1, h2, z_bd, Int32.not_lt.mpr h1, Int32.not_le.mp h2]; rfl
  · simp [h1, z_bd, Int32.not_le.mp h1]; rfl
theorem p8_in (v lo hi : Int32) : p_X8_in v lo hi = some (b2 (decide (lo ≤ v ∧ v ≤ hi))) := by
  unfold p_X8_in b2
  simp only [decide_eq_true_eq]
  by_cases h1 : lo ≤ v
  · by_cases h2 : v ≤ hi
    · simp [h1, h2, z_bd, Int32.not_lt.mpr h1, Int32.not_lt.mpr h2]; rfl
    · simp [h1, h2, z_bd, Int32.not_lt.mpr h1, Int32.not_le.mp h2]; rfl
  · simp [h1, z_bd, Int32.not_le.mp h1]; rfl
theorem p0_hasPlace {n : Nat} (hn : n < 2 ^ 30) (i : Int32) : p_X0_hasPlace (nI n) i = some (b2 (z_in i n)) := by
  unfold p_X0_hasPlace b2
  by_cases h1 : (0 : Int32) ≤ i
  · by_cases h2 : i < nI n
    · rw [(z_btl i n (by omega)).mp ⟨h1, h2⟩]
      simp [h1, h2, z_bd, Int32.not_lt.mpr h1, Int32.not_le.mpr h2]; rfl
    · have h3 : ¬ z_in i n = true := fun h => h2 ((z_btl i n (by omega)).mpr h).2
      simp [h1, h2, h3, z_bd, Int32.not_lt.mpr h1, Int32.not_lt.mp h2]; rfl
  · have h3 : ¬ z_in i n = true := fun h => h1 ((z_btl i n (by omega)).mpr h).1
    simp [h1, h3, z_bd, Int32.not_le.mp h1]; rfl
theorem p0_hasCrow {n : Nat} (hn : n < 2 ^ 30) (i : Int32) : p_X0_hasCrow (nI n) i = some (b2 (z_in i n)) := by
  unfold p_X0_hasCrow b2
  by_cases h1 : (0 : Int32) ≤ i
  · by_cases h2 : i < nI n
    · rw [(z_btl i n (by omega)).mp ⟨h1, h2⟩]
      simp [h1, h2, z_bd, Int32.not_lt.mpr h1, Int32.not_le.mpr h2]; rfl
    · have h3 : ¬ z_in i n = true := fun h => h2 ((z_btl i n (by omega)).mpr h).2
      simp [h1, h2, h3, z_bd, Int32.not_lt.mpr h1, Int32.not_lt.mp h2]; rfl
  · have h3 : ¬ z_in i n = true := fun h => h1 ((z_btl i n (by omega)).mpr h).1
    simp [h1, h3, z_bd, Int32.not_le.mp h1]; rfl
theorem b2_bz (b : Bool) : z_bz (b2 b) = true := by cases b <;> rfl
theorem p8_isPlace {w : Nat → Int32} {n : Nat} (hw : w 418 = nI n) (hn : n < 2 ^ 30) (i : Int32) : p_X8_isPlace w i = some (b2 (z_in i n)) := by
  have h : decide ((0 : Int32) ≤ i ∧ i ≤ nI n - 1) = z_in i n := by
    rw [Bool.eq_iff_iff, decide_eq_true_eq]; exact z_btw i n hn
  simp only [p_X8_isPlace, z_lt, hw, p8_in, z_bd_some, h, b2_bz, z_gd_tt]
theorem p8_isCrow {w : Nat → Int32} {n : Nat} (hw : w 422 = nI n) (hn : n < 2 ^ 30) (i : Int32) : p_X8_isCrow w i = some (b2 (z_in i n)) := by
  have h : decide ((0 : Int32) ≤ i ∧ i ≤ nI n - 1) = z_in i n := by
    rw [Bool.eq_iff_iff, decide_eq_true_eq]; exact z_btw i n hn
  simp only [p_X8_isCrow, z_lt, hw, p8_in, z_bd_some, h, b2_bz, z_gd_tt]
