/-! The shortest ways: what both tables say. -/
def Wk (c : Nat → Nat → Nat) (np t : Nat) : Nat → Nat → Nat → Prop
  | 0, v, x => v = t ∧ x = 0
  | k + 1, v, x => ∃ u x', u < np ∧ u ≠ v ∧ Wk c np t k u x' ∧ x = c v u + x'
theorem bell (c : Nat → Nat → Nat) {np t : Nat} (ht : t < np) : ∃ D : Nat → Nat, D t = 0 ∧ ∀ v, v < np → v ≠ t → (∀ u, u < np → u ≠ v → D v ≤ c v u + D u) ∧ ∃ u, u < np ∧ u ≠ v ∧ D v = c v u + D u := by
  have hex : ∀ v, ∃ d, v < np → (∃ k, Wk c np t k v d) ∧ ∀ e, (∃ k, Wk c np t k v e) → d ≤ e := by
    intro v
    by_cases hv : v < np
    · have h0 : ∃ d, ∃ k, Wk c np t k v d := by
        by_cases q : v = t
        · exact ⟨0, 0, q, rfl⟩
        · exact ⟨c v t + 0, 1, t, 0, ht, fun z => q z.symm, ⟨rfl, rfl⟩, rfl⟩
      obtain ⟨d, h1, h2⟩ := pk_least (fun d => ∃ k, Wk c np t k v d) h0
      refine ⟨d, fun _ => ⟨h1, fun e he => ?_⟩⟩
      rcases Nat.lt_or_ge e d with q | q
      · exact absurd he (h2 e q)
      · exact q
    · exact ⟨0, fun h => absurd h hv⟩
  obtain ⟨D, hD⟩ : ∃ D : Nat → Nat, ∀ v, v < np → (∃ k, Wk c np t k v (D v)) ∧ ∀ e, (∃ k, Wk c np t k v e) → D v ≤ e := ⟨fun v => Classical.choose (hex v), fun v => Classical.choose_spec (hex v)⟩
  refine ⟨D, Nat.le_zero.mp ((hD t ht).2 0 ⟨0, rfl, rfl⟩), fun v hv hvt => ?_⟩
  have hle : ∀ u, u < np → u ≠ v → D v ≤ c v u + D u := by
    intro u hu huv
    obtain ⟨k, hk⟩ := (hD u hu).1
    exact (hD v hv).2 _ ⟨k + 1, u, _, hu, huv, hk, rfl⟩
  refine ⟨hle, ?_⟩
  obtain ⟨k, hk⟩ := (hD v hv).1
  cases k with
  | zero => exact absurd hk.1 hvt
  | succ k =>
    obtain ⟨u, x', hu, huv, hw, hx⟩ := hk
    have h1 := (hD u hu).2 x' ⟨k, hw⟩
    have h2 := hle u hu huv
    exact ⟨u, hu, huv, by omega⟩
/-- how many are nearer -/
def rkD (D : Nat → Nat) (x : Nat) : Nat → Nat
  | 0 => 0
  | u + 1 => rkD D x u + (if D u < x then 1 else 0)
theorem rk_le (D : Nat → Nat) (x : Nat) : ∀ n, rkD D x n ≤ n := by
  intro n
  induction n with
  | zero => exact Nat.le_refl 0
  | succ n ih =>
    show rkD D x n + (if D n < x then 1 else 0) ≤ n + 1
    by_cases q : D n < x
    · rw [if_pos q]; omega
    · rw [if_neg q]; omega
theorem rk_lt (D : Nat → Nat) (x v : Nat) (hx : x ≤ D v) : ∀ n, v < n → rkD D x n ≤ n - 1 := by
  intro n
  induction n with
  | zero => intro h; exact absurd h (by omega)
  | succ n ih =>
    intro hv
    show rkD D x n + (if D n < x then 1 else 0) ≤ n
    rcases (show v < n ∨ v = n by omega) with h | rfl
    · have := ih h
      by_cases q : D n < x
      · rw [if_pos q]; omega
      · rw [if_neg q]; omega
    · rw [if_neg (by omega)]
      exact rk_le D x v
theorem rk_st (D : Nat → Nat) (x u : Nat) (hx : D u < x) : ∀ n, rkD D (D u) n + (if u < n then 1 else 0) ≤ rkD D x n := by
  intro n
  induction n with
  | zero => exact Nat.le_refl 0
  | succ n ih =>
    show rkD D (D u) n + (if D n < D u then 1 else 0) + (if u < n + 1 then 1 else 0) ≤ rkD D x n + (if D n < x then 1 else 0)
    rcases Nat.lt_trichotomy u n with h | h | h
    · rw [if_pos h] at ih
      rw [if_pos (show u < n + 1 by omega)]
      by_cases q : D n < D u
      · rw [if_pos q, if_pos (show D n < x by omega)]; omega
      · rw [if_neg q]; omega
    · subst h
      rw [if_neg (show ¬ u < u by omega)] at ih
      rw [if_neg (show ¬ D u < D u by omega), if_pos (show u < u + 1 by omega), if_pos hx]
      omega
    · rw [if_neg (show ¬ u < n by omega)] at ih
      rw [if_neg (show ¬ u < n + 1 by omega)]
      by_cases q : D n < D u
      · rw [if_pos q, if_pos (show D n < x by omega)]; omega
      · rw [if_neg q]; omega
def WD (np t : Nat) (F : Nat → Nat → Nat) (D : Nat → Nat) : Prop := D t = 0 ∧ (∀ v, v < np → v ≠ t → (∀ u, u < np → u ≠ v → D v ≤ 16 * F v u + 1 + D u) ∧ ∃ u, u < np ∧ u ≠ v ∧ D v = 16 * F v u + 1 + D u) ∧ ∀ v, v < np → D v % 16 ≤ np - 1
theorem wayD {np t : Nat} (F : Nat → Nat → Nat) (hnp : np ≤ 7) (ht : t < np) : ∃ D : Nat → Nat, WD np t F D := by
  obtain ⟨D, h0, h⟩ := bell (fun v u => 16 * F v u + 1) ht
  refine ⟨D, h0, h, ?_⟩
  have key : ∀ x v, v < np → D v ≤ x → D v % 16 ≤ rkD D (D v) np := by
    intro x
    induction x with
    | zero =>
      intro v hv hx
      rw [show D v = 0 by omega]
      exact Nat.zero_le _
    | succ x ih =>
      intro v hv hx
      by_cases q : v = t
      · rw [q, h0]; exact Nat.zero_le _
      · obtain ⟨-, u, hu, huv, e⟩ := h v hv q
        have h1 := ih u hu (by omega)
        have h2 := rk_st D (D v) u (by omega) np
        rw [if_pos hu] at h2
        have h3 := rk_lt D (D u) u (Nat.le_refl _) np hu
        omega
  intro v hv
  have h1 := key (D v) v hv (Nat.le_refl _)
  have h2 := rk_lt D (D v) v (Nat.le_refl _) np hv
  omega
def YS (np : Nat) (F : Nat → Nat → Nat) (sp : Nat → Nat → Option Nat) (Y : Nat → Nat → Nat) : Prop := ∀ set a, 1 ≤ set → set < 2 ^ np → a < np → Y set a ≤ 99999999 ∧ (set.testBit a = true → ∀ z, sp set a = some z → Y set a = z) ∧ (set.testBit a = true → sp set a = none → (∀ b, b < np → set.testBit b = false → Y set a ≤ 16 * F a b + 1 + Y (set ||| 2 ^ b) b) ∧ (Y set a = 99999999 ∨ ∃ b, b < np ∧ set.testBit b = false ∧ Y set a = 16 * F a b + 1 + Y (set ||| 2 ^ b) b))
theorem or_facts {np set b : Nat} (hnp : np ≤ 7) (c1 : 1 ≤ set) (c2 : set < 2 ^ np) (hb : b < np) (hq : set.testBit b = false) : 1 ≤ (set ||| 2 ^ b) ∧ (set ||| 2 ^ b) < 2 ^ np ∧ set < (set ||| 2 ^ b) ∧ (set ||| 2 ^ b).testBit b = true ∧ ∀ x, x < np → (set ||| 2 ^ b).testBit x = (set.testBit x || decide (x = b)) := by
  have hn := (zc_np ⟨np, by omega⟩).2
  simp only at hn
  have h1 := zc_up ⟨set, by omega⟩ ⟨b, by omega⟩ hq
  have h2 : ∀ x, x < np → (set ||| 2 ^ b).testBit x = (set.testBit x || decide (x = b)) := fun x hx => (zc_orb ⟨set, by omega⟩ ⟨b, by omega⟩ ⟨x, by omega⟩).2
  simp only at h1
  refine ⟨by omega, Nat.or_lt_two_pow c2 (Nat.pow_lt_pow_right (by decide) hb), h1, ?_, h2⟩
  rw [h2 b hb, decide_eq_true rfl, Bool.or_true]
theorem Y_low {np t : Nat} {F : Nat → Nat → Nat} {D : Nat → Nat} {Y : Nat → Nat → Nat} (hnp : np ≤ 7) (ht : t < np) (hF : ∀ a b, a < np → b < np → F a b ≤ 600) (hW : WD np t F D) (hY : YS np F (fun _ a => if a = t then some 0 else none) Y) : ∀ k set a, 2 ^ np - set ≤ k → 1 ≤ set → set < 2 ^ np → a < np → set.testBit a = true → D a ≤ Y set a := by
  intro k
  induction k with
  | zero => intro set a h1 h2 h3; omega
  | succ k ih =>
    intro set a hk c1 c2 ha hb
    obtain ⟨y1, y2, y3⟩ := hY set a c1 c2 ha
    by_cases q : a = t
    · rw [q, hW.1]; exact Nat.zero_le _
    · obtain ⟨-, y4⟩ := y3 hb (if_neg q)
      have hle := (hW.2.1 a ha q).1
      rcases y4 with y4 | ⟨b, hb2, hq, y4⟩
      · have := hle t ht (fun z => q z.symm)
        have := hF a t ha ht
        have := hW.1
        omega
      · obtain ⟨o1, o2, o3, o4, o5⟩ := or_facts hnp c1 c2 hb2 hq
        have h1 := ih (set ||| 2 ^ b) b (by omega) o1 o2 hb2 o4
        have h2 := hle b hb2 (by rintro rfl; rw [hb] at hq; cases hq)
        omega
theorem Y_eq {np t : Nat} {F : Nat → Nat → Nat} {D : Nat → Nat} {Y : Nat → Nat → Nat} (hnp : np ≤ 7) (ht : t < np) (hF : ∀ a b, a < np → b < np → F a b ≤ 600) (hW : WD np t F D) (hY : YS np F (fun _ a => if a = t then some 0 else none) Y) : ∀ k set a, 2 ^ np - set ≤ k → 1 ≤ set → set < 2 ^ np → a < np → set.testBit a = true → (∀ x, x < np → set.testBit x = true → x ≠ a → D a < D x) → Y set a = D a := by
  intro k
  induction k with
  | zero => intro set a h1 h2 h3; omega
  | succ k ih =>
    intro set a hk c1 c2 ha hb hx
    have hlow := Y_low hnp ht hF hW hY (k + 1) set a hk c1 c2 ha hb
    obtain ⟨y1, y2, y3⟩ := hY set a c1 c2 ha
    by_cases q : a = t
    · rw [y2 hb 0 (if_pos q), q, hW.1]
    · obtain ⟨y4, -⟩ := y3 hb (if_neg q)
      obtain ⟨-, u, hu, hua, eu⟩ := hW.2.1 a ha q
      have hq : set.testBit u = false := by
        cases h : set.testBit u
        · rfl
        · have := hx u hu h hua
          omega
      obtain ⟨o1, o2, o3, o4, o5⟩ := or_facts hnp c1 c2 hu hq
      have h1 := ih (set ||| 2 ^ u) u (by omega) o1 o2 hu o4 (by
        intro x hxn hxb hxu
        rw [o5 x hxn, decide_eq_false hxu, Bool.or_false] at hxb
        by_cases z : x = a
        · rw [z]; omega
        · have := hx x hxn hxb z
          omega)
      have h2 := y4 u hu hq
      omega
theorem nx_ex {np t : Nat} {F : Nat → Nat → Nat} {D : Nat → Nat} (hW : WD np t F D) : ∃ nx : Nat → Nat, ∀ v, v < np → v ≠ t → nx v < np ∧ nx v ≠ v ∧ D v = 16 * F v (nx v) + 1 + D (nx v) ∧ ∀ b, b < nx v → b ≠ v → ¬ D v = 16 * F v b + 1 + D b := by
  have h : ∀ v, ∃ u, v < np → v ≠ t → u < np ∧ u ≠ v ∧ D v = 16 * F v u + 1 + D u ∧ ∀ b, b < u → b ≠ v → ¬ D v = 16 * F v b + 1 + D b := by
    intro v
    by_cases hv : v < np ∧ v ≠ t
    · obtain ⟨-, u, hu, huv, e⟩ := hW.2.1 v hv.1 hv.2
      obtain ⟨u', ⟨h1, h2, h3⟩, h4⟩ := pk_least (fun u => u < np ∧ u ≠ v ∧ D v = 16 * F v u + 1 + D u) ⟨u, hu, huv, e⟩
      exact ⟨u', fun _ _ => ⟨h1, h2, h3, fun b hb hbv e => h4 b hb ⟨by omega, hbv, e⟩⟩⟩
    · exact ⟨0, fun h1 h2 => absurd ⟨h1, h2⟩ hv⟩
  exact ⟨fun v => Classical.choose (h v), fun v => Classical.choose_spec (h v)⟩
def pa (nx : Nat → Nat) (a : Nat) : Nat → Nat
  | 0 => a
  | i + 1 => nx (pa nx a i)
def NX (np t : Nat) (F : Nat → Nat → Nat) (D nx : Nat → Nat) : Prop := ∀ v, v < np → v ≠ t → nx v < np ∧ nx v ≠ v ∧ D v = 16 * F v (nx v) + 1 + D (nx v) ∧ ∀ b, b < nx v → b ≠ v → ¬ D v = 16 * F v b + 1 + D b
theorem pa_ok {np t a : Nat} {F : Nat → Nat → Nat} {D nx : Nat → Nat} (hnp : np ≤ 7) (hW : WD np t F D) (hN : NX np t F D nx) (ha : a < np) : ∀ i, i ≤ D a % 16 → pa nx a i < np ∧ D (pa nx a i) % 16 = D a % 16 - i := by
  intro i
  induction i with
  | zero => intro _; exact ⟨ha, rfl⟩
  | succ i ih =>
    intro hi
    obtain ⟨h1, h2⟩ := ih (by omega)
    have hne : pa nx a i ≠ t := by
      intro z
      rw [z, hW.1] at h2
      omega
    obtain ⟨n1, n2, n3, -⟩ := hN _ h1 hne
    have h3 := hW.2.2 _ n1
    refine ⟨n1, ?_⟩
    show D (nx (pa nx a i)) % 16 = _
    omega
theorem pa_t {np t a : Nat} {F : Nat → Nat → Nat} {D nx : Nat → Nat} (hnp : np ≤ 7) (hW : WD np t F D) (hN : NX np t F D nx) (ha : a < np) : ∀ i, i ≤ D a % 16 → (pa nx a i = t ↔ i = D a % 16) := by
  intro i hi
  obtain ⟨h1, h2⟩ := pa_ok hnp hW hN ha i hi
  constructor
  · intro z
    rw [z, hW.1] at h2
    omega
  · intro z
    by_cases q : pa nx a i = t
    · exact q
    · obtain ⟨n1, n2, n3, -⟩ := hN _ h1 q
      have h3 := hW.2.2 _ n1
      omega
/-- the reference looks for the first that is least -/
theorem kt_find {yt fr : Nat → Int32} {F : Nat → Nat → Nat} {Y : Nat → Nat → Nat} {np set here bs : Nat} (hnp : np ≤ 7) (hF : ∀ a b, a < np → b < np → F a b ≤ 600) (hE : FM np F fr) (c1 : 1 ≤ set) (c2 : set < 2 ^ np) (hh : here < np) (hb : bs < np) (hyt : ∀ set a, 1 ≤ set → set < 2 ^ np → a < np → yt (7 * set + a) = nI (Y set a) ∧ Y set a ≤ 99999999) (q1 : set.testBit bs = false) (q2 : 16 * F here bs + 1 + Y (set ||| 2 ^ bs) bs = Y set here) (q3 : ∀ b, b < bs → set.testBit b = false → ¬ 16 * F here b + 1 + Y (set ||| 2 ^ b) b = Y set here) :
    z_lp (S := Int32) (E := Int32) (fun s10 =>
    z_bd (p_X8_has (nI set) s10) fun r16 =>
    if (r16 = 0) then
    (z_bd (p_X8_partTo yt fr (nI set) (nI here) s10) fun r20 =>
    z_lt ((((7 : Int32) * nI set) + nI here)) fun x22 =>
    z_gd (z_in x22 896) <|
    if (r20 = (yt x22.toNatClampNeg)) then
    (some (.inr s10)) else
    (z_lt (s10 + (1 : Int32)) fun x25 =>
    some (.inl x25))) else
    (z_lt (s10 + (1 : Int32)) fun x19 =>
    some (.inl x19))) (0 : Int32) = some (nI bs) := by
  have hn := (zc_np ⟨np, by omega⟩).2
  simp only at hn
  have e0 := (hyt set here c1 c2 hh).1
  have e1 := (hyt set here c1 c2 hh).2
  refine z_forS (fun b => nI b) bs _ rfl ?_ ?_
  · intro b hb2
    have hs := zc_has ⟨set, by omega⟩ ⟨b, by omega⟩
    simp only at hs
    cases q : set.testBit b
    · obtain ⟨o1, o2, o3, o4, o5⟩ := or_facts hnp c1 c2 (show b < np by omega) q
      obtain ⟨y1, y2⟩ := hyt _ b o1 o2 (by omega)
      have hf := hF here b hh (by omega)
      have hne := q3 b hb2 q
      simp (disch := omega) only [hs, q, z_bd_some, b2_f0, if_true, mo_partTo hnp hE (show set < 128 by omega) hh (show b < np by omega) y1, z_lt_n, li_7, pk_mul, nI_add, z_in_n, z_gd_tt, nI_clamp, e0, nI_eq, if_neg hne, nI_1]
    · simp only [hs, q, z_bd_some, b2_t0, if_false, z_lt_n, nI_1]
  · have hs := zc_has ⟨set, by omega⟩ ⟨bs, by omega⟩
    simp only at hs
    obtain ⟨o1, o2, o3, o4, o5⟩ := or_facts hnp c1 c2 hb q1
    obtain ⟨y1, y2⟩ := hyt _ bs o1 o2 hb
    have hf := hF here bs hh hb
    simp (disch := omega) only [hs, q1, z_bd_some, b2_f0, if_true, mo_partTo hnp hE (show set < 128 by omega) hh hb y1, z_lt_n, li_7, pk_mul, nI_add, z_in_n, z_gd_tt, nI_clamp, e0, nI_eq, if_pos q2]
theorem zc_2p : ∀ a k : Fin 7, (2 ^ a.1).testBit k.1 = decide (k.1 = a.1) := by decide +kernel
theorem mo_kthW {w yt fr : Nat → Int32} {F : Nat → Nat → Nat} {Y : Nat → Nat → Nat} {D nx : Nat → Nat} {np a t : Nat} {k : Int32} (hnp : np ≤ 7) (w418 : w 418 = nI np) (ht : t < np) (ha : a < np) (hF : ∀ a b, a < np → b < np → F a b ≤ 600) (hE : FM np F fr) (hW : WD np t F D) (hN : NX np t F D nx) (hY : YS np F (fun _ a => if a = t then some 0 else none) Y) (hyt : ∀ set a, 1 ≤ set → set < 2 ^ np → a < np → yt (7 * set + a) = nI (Y set a) ∧ Y set a ≤ 99999999) :
    Ha (p_X8_kth w yt fr (nI a) (nI t) k) (fun r => (∀ j, j < D a % 16 → k = nI j → r = nI (pa nx a (j + 1))) ∧ ((∀ j, j < D a % 16 → ¬ k = nI j) → r = -5)) := by
  have hn := (zc_np ⟨np, by omega⟩).2
  have h1 := zc_all ⟨np, by omega⟩
  have h2 := zc_one ⟨a, by omega⟩
  simp only at hn h1 h2
  unfold p_X8_kth
  rw [z_lt_n, z_lt_n, w418, h1, h2]
  refine Ha_bd (fun e => (e = .inl () ∧ ∀ j, j < D a % 16 → ¬ k = nI j) ∨ ∃ j, j < D a % 16 ∧ k = nI j ∧ e = .inr (nI (pa nx a (j + 1)))) (Ha_lp (D a % 16) (fun i s => ∃ set, s = (nI i, nI (pa nx a i), nI set) ∧ 1 ≤ set ∧ set < 2 ^ np ∧ set.testBit (pa nx a i) = true ∧ (∀ x, x < np → set.testBit x = true → x ≠ pa nx a i → D (pa nx a i) < D x) ∧ ∀ j, j < i → ¬ k = nI j) _ ?_ ?_ _ ?_) ?_
  · rintro i _ hi ⟨set, rfl, c1, c2, hb, hx, hj⟩
    obtain ⟨p1, p2⟩ := pa_ok hnp hW hN ha i (by omega)
    have pt : pa nx a i ≠ t := fun z => absurd ((pa_t hnp hW hN ha i (by omega)).mp z) (by omega)
    obtain ⟨n1, n2, n3, n4⟩ := hN _ p1 pt
    have st : pa nx a (i + 1) = nx (pa nx a i) := rfl
    have hYh := Y_eq hnp ht hF hW hY _ set (pa nx a i) (Nat.le_refl _) c1 c2 p1 hb hx
    have kne : ¬ nI (pa nx a i) = nI t := nI_ne (by omega) (by omega) pt
    have km1 : ¬ nI t = (-1 : Int32) := mn1_n (by omega)
    have hnb : set.testBit (nx (pa nx a i)) = false := by
      cases h : set.testBit (nx (pa nx a i))
      · rfl
      · have := hx _ n1 h n2
        omega
    obtain ⟨o1, o2, o3, o4, o5⟩ := or_facts hnp c1 c2 n1 hnb
    have hx' : ∀ x, x < np → (set ||| 2 ^ nx (pa nx a i)).testBit x = true → x ≠ nx (pa nx a i) → D (nx (pa nx a i)) < D x := by
      intro x hxn hxb hxu
      rw [o5 x hxn, decide_eq_false hxu, Bool.or_false] at hxb
      by_cases z : x = pa nx a i
      · rw [z]; omega
      · have := hx x hxn hxb z
        omega
    have hYn := Y_eq hnp ht hF hW hY _ (set ||| 2 ^ nx (pa nx a i)) (nx (pa nx a i)) (Nat.le_refl _) o1 o2 n1 o4 hx'
    have hfind := kt_find (bs := nx (pa nx a i)) hnp hF hE c1 c2 p1 n1 hyt hnb (by rw [hYn, hYh]; omega) (by
      intro b hb2 hq e
      have hbne : b ≠ pa nx a i := by rintro rfl; rw [hb] at hq; cases hq
      obtain ⟨r1, r2, r3, r4, r5⟩ := or_facts hnp c1 c2 (show b < np by omega) hq
      have hl := Y_low hnp ht hF hW hY _ (set ||| 2 ^ b) b (Nat.le_refl _) r1 r2 (by omega) r4
      have hl2 := (hW.2.1 _ p1 pt).1 b (by omega) hbne
      rw [hYh] at e
      exact n4 b hb2 hbne (by omega))
    have hor := zc_or ⟨set, by omega⟩ ⟨nx (pa nx a i), by omega⟩
    simp only at hor
    have tail : Ha (if nI i = k then (some (.inr (.inr (nI (nx (pa nx a i)))) : (Int32 × Int32 × Int32) ⊕ (Unit ⊕ Int32))) else (some (.inl (nI i + 1, nI (nx (pa nx a i)), nI set ||| ((1 : Int32) <<< (nI (nx (pa nx a i)) &&& 31)))))) (Lp1 (fun s => ∃ set, s = (nI (i + 1), nI (pa nx a (i + 1)), nI set) ∧ 1 ≤ set ∧ set < 2 ^ np ∧ set.testBit (pa nx a (i + 1)) = true ∧ (∀ x, x < np → set.testBit x = true → x ≠ pa nx a (i + 1) → D (pa nx a (i + 1)) < D x) ∧ ∀ j, j < i + 1 → ¬ k = nI j) (fun e => (e = .inl () ∧ ∀ j, j < D a % 16 → ¬ k = nI j) ∨ ∃ j, j < D a % 16 ∧ k = nI j ∧ e = .inr (nI (pa nx a (j + 1))))) := by
      by_cases q : nI i = k
      · rw [if_pos q]
        exact Lp1_r (Or.inr ⟨i, hi, q.symm, rfl⟩)
      · rw [if_neg q]
        refine Lp1_l ⟨_, ?_, o1, o2, by rw [st]; exact o4, by rw [st]; exact hx', fun j hj2 => ?_⟩
        · rw [nI_1, hor, st]
        · rcases (show j < i ∨ j = i by omega) with h | rfl
          · exact hj j h
          · exact fun z => q z.symm
    simp only [if_neg kne, if_neg km1]
    by_cases qa : nI set = nI (2 ^ np - 1)
    · rw [if_pos qa, z_bd_s hfind]; exact tail
    · rw [if_neg qa, z_bd_s hfind]; exact tail
  · rintro _ ⟨set, rfl, c1, c2, hb, hx, hj⟩
    have pt := (pa_t hnp hW hN ha (D a % 16) (Nat.le_refl _)).mpr rfl
    have ke : nI (pa nx a (D a % 16)) = nI t := by rw [pt]
    simp only [if_pos ke]
    exact Lp1_r (Or.inl ⟨rfl, hj⟩)
  · have h2p : ∀ x, x < np → (2 ^ a).testBit x = decide (x = a) := fun x hx => zc_2p ⟨a, by omega⟩ ⟨x, by omega⟩
    refine ⟨2 ^ a, rfl, Nat.one_le_two_pow, Nat.pow_lt_pow_right (by decide) ha, ?_, fun x hx hb hne => ?_, fun j hj => absurd hj (by omega)⟩
    · show (2 ^ a).testBit a = true
      rw [h2p a ha]; exact decide_eq_true rfl
    · rw [h2p x hx] at hb
      exact absurd (of_decide_eq_true hb) hne
  · rintro e (⟨rfl, hj⟩ | ⟨j, hj, hk, rfl⟩)
    · exact Ha_s ⟨fun j h1 h2 => absurd h2 (hj j h1), fun _ => rfl⟩
    · refine Ha_s ⟨fun j' h1 h2 => ?_, fun h => absurd hk (h j hj)⟩
      have : j' = j := (nI_eq (by omega) (by omega)).mp (h2.symm.trans hk)
      rw [this]
