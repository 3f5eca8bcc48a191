/-! How far: both sides' words for what a crow makes and how far it is to a place. -/
theorem ni0 : nI 0 = 0 := rfl
theorem ni1 : nI 1 = 1 := rfl
theorem ni2 : nI 2 = 2 := rfl
theorem ni3 : nI 3 = 3 := rfl
theorem ni4 : nI 4 = 4 := rfl
theorem ni5 : nI 5 = 5 := rfl
theorem id00 : ((0 : Int32) = 0) = True := eq_true rfl
theorem id01 : ((0 : Int32) = 1) = False := eq_false (by decide)
theorem id02 : ((0 : Int32) = 2) = False := eq_false (by decide)
theorem id03 : ((0 : Int32) = 3) = False := eq_false (by decide)
theorem id04 : ((0 : Int32) = 4) = False := eq_false (by decide)
theorem id05 : ((0 : Int32) = 5) = False := eq_false (by decide)
theorem id10 : ((1 : Int32) = 0) = False := eq_false (by decide)
theorem id11 : ((1 : Int32) = 1) = True := eq_true rfl
theorem id12 : ((1 : Int32) = 2) = False := eq_false (by decide)
theorem id13 : ((1 : Int32) = 3) = False := eq_false (by decide)
theorem id14 : ((1 : Int32) = 4) = False := eq_false (by decide)
theorem id15 : ((1 : Int32) = 5) = False := eq_false (by decide)
theorem id20 : ((2 : Int32) = 0) = False := eq_false (by decide)
theorem id21 : ((2 : Int32) = 1) = False := eq_false (by decide)
theorem id22 : ((2 : Int32) = 2) = True := eq_true rfl
theorem id23 : ((2 : Int32) = 3) = False := eq_false (by decide)
theorem id24 : ((2 : Int32) = 4) = False := eq_false (by decide)
theorem id25 : ((2 : Int32) = 5) = False := eq_false (by decide)
theorem id30 : ((3 : Int32) = 0) = False := eq_false (by decide)
theorem id31 : ((3 : Int32) = 1) = False := eq_false (by decide)
theorem id32 : ((3 : Int32) = 2) = False := eq_false (by decide)
theorem id33 : ((3 : Int32) = 3) = True := eq_true rfl
theorem id34 : ((3 : Int32) = 4) = False := eq_false (by decide)
theorem id35 : ((3 : Int32) = 5) = False := eq_false (by decide)
theorem id40 : ((4 : Int32) = 0) = False := eq_false (by decide)
theorem id41 : ((4 : Int32) = 1) = False := eq_false (by decide)
theorem id42 : ((4 : Int32) = 2) = False := eq_false (by decide)
theorem id43 : ((4 : Int32) = 3) = False := eq_false (by decide)
theorem id44 : ((4 : Int32) = 4) = True := eq_true rfl
theorem id45 : ((4 : Int32) = 5) = False := eq_false (by decide)
theorem id50 : ((5 : Int32) = 0) = False := eq_false (by decide)
theorem id51 : ((5 : Int32) = 1) = False := eq_false (by decide)
theorem id52 : ((5 : Int32) = 2) = False := eq_false (by decide)
theorem id53 : ((5 : Int32) = 3) = False := eq_false (by decide)
theorem id54 : ((5 : Int32) = 4) = False := eq_false (by decide)
theorem id55 : ((5 : Int32) = 5) = True := eq_true rfl
theorem k6 {k : Nat} (h : k < 6) : k = 0 ∨ k = 1 ∨ k = 2 ∨ k = 3 ∨ k = 4 ∨ k = 5 := by omega
theorem mo_most (a b : Int32) : p_X8_most a b = some (if a ≤ b then b else a) := by
  unfold p_X8_most
  by_cases h : a ≤ b
  · simp only [if_pos h, z_bd_some]
  · simp only [if_neg h, z_bd_some]
theorem z_bd_ite {α β : Type} (c : Prop) [Decidable c] (a b : α) (k : α → Option β) : z_bd (if c then some a else some b) k = k (if c then a else b) := by
  by_cases h : c
  · simp only [if_pos h, z_bd_some]
  · simp only [if_neg h, z_bd_some]
theorem mo_made0 (d t n : Int32) : ∃ r, p_X2_made (0 : Int32) d t n = some r ∧ p_X8_madeOf (0 : Int32) d t n = some r := by
  unfold p_X2_made p_X8_madeOf
  simp only [z_lt, z_bd_ite, mo_most, z_bd_some, id00, id01, id02, id03, id04, id05, id10, id11, id12, id13, id14, id15, id20, id21, id22, id23, id24, id25, id30, id31, id32, id33, id34, id35, id40, id41, id42, id43, id44, id45, id50, id51, id52, id53, id54, id55, if_true, if_false]
  exact ⟨_, rfl, rfl⟩
theorem mo_made1 (d t n : Int32) : ∃ r, p_X2_made (1 : Int32) d t n = some r ∧ p_X8_madeOf (1 : Int32) d t n = some r := by
  unfold p_X2_made p_X8_madeOf
  simp only [z_lt, z_bd_ite, mo_most, z_bd_some, id00, id01, id02, id03, id04, id05, id10, id11, id12, id13, id14, id15, id20, id21, id22, id23, id24, id25, id30, id31, id32, id33, id34, id35, id40, id41, id42, id43, id44, id45, id50, id51, id52, id53, id54, id55, if_true, if_false]
  exact ⟨_, rfl, rfl⟩
theorem mo_made2 (d t n : Int32) : ∃ r, p_X2_made (2 : Int32) d t n = some r ∧ p_X8_madeOf (2 : Int32) d t n = some r := by
  unfold p_X2_made p_X8_madeOf
  simp only [z_lt, z_bd_ite, mo_most, z_bd_some, id00, id01, id02, id03, id04, id05, id10, id11, id12, id13, id14, id15, id20, id21, id22, id23, id24, id25, id30, id31, id32, id33, id34, id35, id40, id41, id42, id43, id44, id45, id50, id51, id52, id53, id54, id55, if_true, if_false]
  exact ⟨_, rfl, rfl⟩
theorem mo_made3 (d t n : Int32) : ∃ r, p_X2_made (3 : Int32) d t n = some r ∧ p_X8_madeOf (3 : Int32) d t n = some r := by
  unfold p_X2_made p_X8_madeOf
  simp only [z_lt, z_bd_ite, mo_most, z_bd_some, id00, id01, id02, id03, id04, id05, id10, id11, id12, id13, id14, id15, id20, id21, id22, id23, id24, id25, id30, id31, id32, id33, id34, id35, id40, id41, id42, id43, id44, id45, id50, id51, id52, id53, id54, id55, if_true, if_false]
  exact ⟨_, rfl, rfl⟩
theorem mo_made4 (d t n : Int32) : ∃ r, p_X2_made (4 : Int32) d t n = some r ∧ p_X8_madeOf (4 : Int32) d t n = some r := by
  unfold p_X2_made p_X8_madeOf
  simp only [z_lt, z_bd_ite, mo_most, z_bd_some, id00, id01, id02, id03, id04, id05, id10, id11, id12, id13, id14, id15, id20, id21, id22, id23, id24, id25, id30, id31, id32, id33, id34, id35, id40, id41, id42, id43, id44, id45, id50, id51, id52, id53, id54, id55, if_true, if_false]
  exact ⟨_, rfl, rfl⟩
theorem mo_madeA (d t n : Int32) : p_X2_made (5 : Int32) d t n = some (if (1 : Int32) ≤ 10 * d - d then 10 * d - d else 1) := by
  unfold p_X2_made
  simp only [z_lt, z_bd_ite, z_bd_some, id00, id01, id02, id03, id04, id05, id10, id11, id12, id13, id14, id15, id20, id21, id22, id23, id24, id25, id30, id31, id32, id33, id34, id35, id40, id41, id42, id43, id44, id45, id50, id51, id52, id53, id54, id55, if_true, if_false]
theorem mo_madeG (k d t n : Int32) (h0 : ¬ k = 0) (h1 : ¬ k = 1) (h2 : ¬ k = 2) (h3 : ¬ k = 3) (h4 : ¬ k = 4) : p_X8_madeOf k d t n = p_X8_most 1 (10 * d - d) := by
  unfold p_X8_madeOf
  simp only [z_lt, z_bd_ite, h0, h1, h2, h3, h4, if_false]
  cases p_X8_most 1 (10 * d - d) <;> rfl
theorem mo_madeB0 (d t n : Int32) : p_X8_madeOf (5 : Int32) d t n = p_X8_most 1 (10 * d - d) := mo_madeG 5 d t n (by decide) (by decide) (by decide) (by decide) (by decide)
theorem mo_madeB (d t n : Int32) : p_X8_madeOf (5 : Int32) d t n = some (if (1 : Int32) ≤ 10 * d - d then 10 * d - d else 1) := (mo_madeB0 d t n).trans (mo_most 1 (10 * d - d))
theorem mo_made5 (d t n : Int32) : ∃ r, p_X2_made (5 : Int32) d t n = some r ∧ p_X8_madeOf (5 : Int32) d t n = some r := ⟨_, mo_madeA d t n, mo_madeB d t n⟩
theorem mo_made {k : Nat} (h : k < 6) (d t n : Int32) : ∃ r, p_X2_made (nI k) d t n = some r ∧ p_X8_madeOf (nI k) d t n = some r := by
  rcases k6 h with rfl | rfl | rfl | rfl | rfl | rfl
  · rw [ni0]; exact mo_made0 d t n
  · rw [ni1]; exact mo_made1 d t n
  · rw [ni2]; exact mo_made2 d t n
  · rw [ni3]; exact mo_made3 d t n
  · rw [ni4]; exact mo_made4 d t n
  · rw [ni5]; exact mo_made5 d t n
theorem mo_tens (m : Int32) : m - (m - m / 10 * 10) = m / 10 * 10 := by
  generalize m / 10 * 10 = a
  apply Int32.toBitVec_inj.mp
  rw [Int32.toBitVec_sub, Int32.toBitVec_sub]
  bv_omega
theorem mo_reach0 (m t : Int32) : ∃ r, p_X2_reach (0 : Int32) m t = some r ∧ p_X8_farOf (0 : Int32) m t = some r := by
  unfold p_X2_reach p_X8_farOf
  simp only [z_lt, z_bd_ite, mo_most, z_bd_some, mo_tens, id00, id01, id02, id03, id04, id05, id10, id11, id12, id13, id14, id15, id20, id21, id22, id23, id24, id25, id30, id31, id32, id33, id34, id35, id40, id41, id42, id43, id44, id45, id50, id51, id52, id53, id54, id55, if_true, if_false]
  exact ⟨_, rfl, rfl⟩
theorem mo_reach1 (m t : Int32) : ∃ r, p_X2_reach (1 : Int32) m t = some r ∧ p_X8_farOf (1 : Int32) m t = some r := by
  unfold p_X2_reach p_X8_farOf
  simp only [z_lt, z_bd_ite, mo_most, z_bd_some, mo_tens, id00, id01, id02, id03, id04, id05, id10, id11, id12, id13, id14, id15, id20, id21, id22, id23, id24, id25, id30, id31, id32, id33, id34, id35, id40, id41, id42, id43, id44, id45, id50, id51, id52, id53, id54, id55, if_true, if_false]
  exact ⟨_, rfl, rfl⟩
theorem mo_reach2 (m t : Int32) : ∃ r, p_X2_reach (2 : Int32) m t = some r ∧ p_X8_farOf (2 : Int32) m t = some r := by
  unfold p_X2_reach p_X8_farOf
  simp only [z_lt, z_bd_ite, mo_most, z_bd_some, mo_tens, id00, id01, id02, id03, id04, id05, id10, id11, id12, id13, id14, id15, id20, id21, id22, id23, id24, id25, id30, id31, id32, id33, id34, id35, id40, id41, id42, id43, id44, id45, id50, id51, id52, id53, id54, id55, if_true, if_false]
  exact ⟨_, rfl, rfl⟩
theorem mo_reach3 (m t : Int32) : ∃ r, p_X2_reach (3 : Int32) m t = some r ∧ p_X8_farOf (3 : Int32) m t = some r := by
  unfold p_X2_reach p_X8_farOf
  simp only [z_lt, z_bd_ite, mo_most, z_bd_some, mo_tens, id00, id01, id02, id03, id04, id05, id10, id11, id12, id13, id14, id15, id20, id21, id22, id23, id24, id25, id30, id31, id32, id33, id34, id35, id40, id41, id42, id43, id44, id45, id50, id51, id52, id53, id54, id55, if_true, if_false]
  exact ⟨_, rfl, rfl⟩
theorem mo_reach4 (m t : Int32) : ∃ r, p_X2_reach (4 : Int32) m t = some r ∧ p_X8_farOf (4 : Int32) m t = some r := by
  unfold p_X2_reach p_X8_farOf
  simp only [z_lt, z_bd_ite, mo_most, z_bd_some, mo_tens, id00, id01, id02, id03, id04, id05, id10, id11, id12, id13, id14, id15, id20, id21, id22, id23, id24, id25, id30, id31, id32, id33, id34, id35, id40, id41, id42, id43, id44, id45, id50, id51, id52, id53, id54, id55, if_true, if_false]
  exact ⟨_, rfl, rfl⟩
theorem mo_reachA (m t : Int32) : p_X2_reach (5 : Int32) m t = some (if (10 : Int32) ≤ m / 10 * 10 then m / 10 * 10 else 10) := by
  unfold p_X2_reach
  simp only [z_lt, z_bd_ite, z_bd_some, id00, id01, id02, id03, id04, id05, id10, id11, id12, id13, id14, id15, id20, id21, id22, id23, id24, id25, id30, id31, id32, id33, id34, id35, id40, id41, id42, id43, id44, id45, id50, id51, id52, id53, id54, id55, if_true, if_false]
theorem mo_reachG (k m t : Int32) (h0 : ¬ k = 0) (h1 : ¬ k = 1) (h2 : ¬ k = 2) (h3 : ¬ k = 3) (h4 : ¬ k = 4) : p_X8_farOf k m t = p_X8_most 10 (m / 10 * 10) := by
  unfold p_X8_farOf
  simp only [z_lt, mo_most 1 (m - 7), z_bd_some, h0, h1, h2, h3, h4, if_false, mo_tens]
  cases p_X8_most 10 (m / 10 * 10) <;> rfl
theorem mo_reachB0 (m t : Int32) : p_X8_farOf (5 : Int32) m t = p_X8_most 10 (m / 10 * 10) := mo_reachG 5 m t (by decide) (by decide) (by decide) (by decide) (by decide)
theorem mo_reachB (m t : Int32) : p_X8_farOf (5 : Int32) m t = some (if (10 : Int32) ≤ m / 10 * 10 then m / 10 * 10 else 10) := (mo_reachB0 m t).trans (mo_most 10 (m / 10 * 10))
theorem mo_reach5 (m t : Int32) : ∃ r, p_X2_reach (5 : Int32) m t = some r ∧ p_X8_farOf (5 : Int32) m t = some r := ⟨_, mo_reachA m t, mo_reachB m t⟩
theorem mo_reach {k : Nat} (h : k < 6) (m t : Int32) : ∃ r, p_X2_reach (nI k) m t = some r ∧ p_X8_farOf (nI k) m t = some r := by
  rcases k6 h with rfl | rfl | rfl | rfl | rfl | rfl
  · rw [ni0]; exact mo_reach0 m t
  · rw [ni1]; exact mo_reach1 m t
  · rw [ni2]; exact mo_reach2 m t
  · rw [ni3]; exact mo_reach3 m t
  · rw [ni4]; exact mo_reach4 m t
  · rw [ni5]; exact mo_reach5 m t
