/-! How large it can be. -/
def nb (B : Nat) (r : Int32) : Prop := ∃ g : Nat, g ≤ B ∧ r = nI g
theorem nb_n {B g : Nat} (h : g ≤ B) : nb B (nI g) := ⟨g, h, rfl⟩
theorem nb_mo {A B : Nat} {r : Int32} (h : nb A r) (hAB : A ≤ B) : nb B r := by obtain ⟨g, hg, e⟩ := h; exact ⟨g, by omega, e⟩
theorem nb_add {A B : Nat} {a b : Int32} (ha : nb A a) (hb : nb B b) : nb (A + B) (a + b) := by
  obtain ⟨g, hg, rfl⟩ := ha
  obtain ⟨k, hk, rfl⟩ := hb
  exact ⟨g + k, by omega, nI_add g k⟩
theorem nb_mul {A : Nat} (c : Nat) {a : Int32} (ha : nb A a) : nb (c * A) (nI c * a) := by
  obtain ⟨g, hg, rfl⟩ := ha
  exact ⟨c * g, Nat.mul_le_mul_left c hg, pk_mul c g⟩
theorem nb_ite {B : Nat} {c : Prop} [Decidable c] {a b : Int32} (ha : c → nb B a) (hb : ¬ c → nb B b) : nb B (if c then a else b) := by
  by_cases h : c
  · rw [if_pos h]; exact ha h
  · rw [if_neg h]; exact hb h
theorem nb_div {A c : Nat} {a : Int32} (ha : nb A a) (hA : A < 2 ^ 31) (h0 : 0 < c) (hc : c < 2 ^ 31) : nb (A / c) (a / nI c) := by
  obtain ⟨g, hg, rfl⟩ := ha
  exact ⟨g / c, Nat.div_le_div_right hg, pk_div (by omega) h0 hc⟩
theorem nb_rem {t c : Nat} (ht : t < 2 ^ 31) (h0 : 0 < c) (hc : c < 2 ^ 31) : nb (c - 1) (nI t - nI t / nI c * nI c) := ⟨t % c, by have := Nat.mod_lt t h0; omega, pk_rem ht h0 hc⟩
theorem nb_sub {m c : Nat} (hm : m < 2 ^ 30) (hc : c < 2 ^ 30) (h : (1 : Int32) ≤ nI m - nI c) : nb m (nI m - nI c) := by
  have h1 := Int32.le_iff_toInt_le.mp h
  rw [pk_sub_toInt hm hc] at h1
  have h2 : (1 : Int32).toInt = 1 := rfl
  rw [h2] at h1
  exact ⟨m - c, by omega, pk_sub (by omega)⟩
theorem mo_madeN {k d t n : Nat} (hk : k < 6) (hd : d ≤ 18) (hn : n ≤ 99) (T : Int32) : ∃ r, p_X2_made (nI k) (nI d) T (nI n) = some r ∧ p_X8_madeOf (nI k) (nI d) T (nI n) = some r ∧ nb 414 r := by
  obtain ⟨r, h1, h2⟩ := mo_made hk (nI d) T (nI n)
  refine ⟨r, h1, h2, ?_⟩
  have eP : nb 180 ((10 : Int32) * nI d) := nb_mo (nb_mul 10 (nb_n hd)) (by omega)
  have e9 : nb 9 (if (9 : Int32) ≤ nI n then (9 : Int32) else nI n) := nb_ite (fun _ => nb_n (g := 9) (by omega)) (fun h => nb_n (by
    rcases Nat.lt_or_ge n 9 with q | q
    · omega
    · exact absurd ((nI_leI (a := 9) (b := n) (by decide) (by omega)).mpr q) h))
  have eT : nb 207 ((10 : Int32) * nI d + (3 : Int32) * (if (9 : Int32) ≤ nI n then (9 : Int32) else nI n)) := nb_mo (nb_add eP (nb_mul 3 e9)) (by omega)
  have eX : (10 : Int32) * nI d - nI d = nI (9 * d) := by
    have : (10 : Int32) * nI d = nI (10 * d) := pk_mul 10 d
    rw [this, pk_sub (by omega)]
    congr 1; omega
  rcases k6 hk with rfl | rfl | rfl | rfl | rfl | rfl
  · rw [ni0] at h1
    unfold p_X2_made at h1
    simp only [z_lt, z_bd_ite, z_bd_some, id01, id02, id03, id04, id05, if_false] at h1
    rw [← Option.some.inj h1]
    exact nb_mo eP (by omega)
  · rw [ni1] at h1
    unfold p_X2_made at h1
    simp only [z_lt, z_bd_ite, z_bd_some, id11, if_true] at h1
    rw [← Option.some.inj h1]
    exact nb_ite (fun _ => nb_mo eP (by omega)) (fun _ => nb_mo (nb_add eP (nb_n (g := 5) (B := 5) (by omega))) (by omega))
  · rw [ni2] at h1
    unfold p_X2_made at h1
    simp only [z_lt, z_bd_ite, z_bd_some, id21, id22, if_true, if_false] at h1
    rw [← Option.some.inj h1]
    exact nb_mo eT (by omega)
  · rw [ni3] at h1
    unfold p_X2_made at h1
    simp only [z_lt, z_bd_ite, z_bd_some, id31, id32, id33, if_true, if_false] at h1
    rw [← Option.some.inj h1]
    exact nb_ite (fun _ => nb_mo eT (by omega)) (fun _ => nb_mo (nb_mul 2 eT) (by omega))
  · rw [ni4] at h1
    unfold p_X2_made at h1
    simp only [z_lt, z_bd_ite, z_bd_some, id41, id42, id43, id44, if_true, if_false] at h1
    rw [← Option.some.inj h1, eX]
    exact nb_n (by omega)
  · rw [ni5, mo_madeA] at h1
    rw [← Option.some.inj h1, eX]
    exact nb_ite (fun _ => nb_n (by omega)) (fun _ => nb_n (g := 1) (by omega))
theorem mo_reachN {k m t : Nat} (hk : k < 6) (hm : m ≤ 414) (ht : t < 24) : ∃ r, p_X2_reach (nI k) (nI m) (nI t) = some r ∧ p_X8_farOf (nI k) (nI m) (nI t) = some r ∧ nb 600 r := by
  obtain ⟨r, h1, h2⟩ := mo_reach hk (nI m) (nI t)
  refine ⟨r, h1, h2, ?_⟩
  have eE : nb 414 (if (1 : Int32) ≤ nI m - (7 : Int32) then nI m - (7 : Int32) else 1) := nb_ite (fun h => nb_mo (nb_sub (c := 7) (by omega) (by decide) h) hm) (fun _ => nb_n (g := 1) (by omega))
  have eS : nb 420 ((nI m + (4 : Int32)) + (nI t - nI t / (3 : Int32) * (3 : Int32))) := nb_mo (nb_add (nb_add (nb_n hm) (nb_n (g := 4) (B := 4) (by omega))) (nb_rem (c := 3) (by omega) (by decide) (by decide))) (by omega)
  have eT : nb 410 (nI m / (10 : Int32) * (10 : Int32)) := by
    have e1 : nI m / (10 : Int32) = nI (m / 10) := pk_div (d := 10) (by omega) (by decide) (by decide)
    rw [e1]
    exact ⟨m / 10 * 10, by omega, pk_mul (m / 10) 10⟩
  rcases k6 hk with rfl | rfl | rfl | rfl | rfl | rfl
  · rw [ni0] at h1
    unfold p_X2_reach at h1
    simp only [z_lt, z_bd_ite, z_bd_some, id01, id02, id03, id04, id05, if_false] at h1
    rw [← Option.some.inj h1]
    exact nb_n (by omega)
  · rw [ni1] at h1
    unfold p_X2_reach at h1
    simp only [z_lt, z_bd_ite, z_bd_some, id11, if_true] at h1
    rw [← Option.some.inj h1]
    exact nb_mo eE (by omega)
  · rw [ni2] at h1
    unfold p_X2_reach at h1
    simp only [z_lt, z_bd_ite, z_bd_some, id21, id22, if_true, if_false] at h1
    rw [← Option.some.inj h1]
    exact nb_mo eS (by omega)
  · rw [ni3] at h1
    unfold p_X2_reach at h1
    simp only [z_lt, z_bd_ite, z_bd_some, id31, id32, id33, if_true, if_false] at h1
    rw [← Option.some.inj h1]
    exact nb_mo (nb_add eS (nb_div (c := 4) eS (by decide) (by decide) (by decide))) (by omega)
  · rw [ni4] at h1
    unfold p_X2_reach at h1
    simp only [z_lt, z_bd_ite, z_bd_some, id41, id42, id43, id44, if_true, if_false] at h1
    rw [← Option.some.inj h1]
    exact nb_ite (fun _ => nb_mo (nb_div (c := 2) (nb_add eE (nb_n (g := 1) (B := 1) (by omega))) (by decide) (by decide) (by decide)) (by omega)) (fun _ => nb_mo eE (by omega))
  · rw [ni5, mo_reachA] at h1
    rw [← Option.some.inj h1]
    exact nb_ite (fun _ => nb_mo eT (by omega)) (fun _ => nb_n (g := 10) (by omega))
