/-! The words of the pure programs: a guard, a name, a bind, a loop. -/
def z_gd {α : Type} (b : Bool) (k : Option α) : Option α := if b = true then k else none
theorem z_gd_e {α : Type} {b : Bool} {k : Option α} {r : α} (h : z_gd b k = some r) : b = true ∧ k = some r := by
  unfold z_gd at h
  by_cases hb : b = true
  · rw [if_pos hb] at h; exact ⟨hb, h⟩
  · rw [if_neg hb] at h; cases h
theorem z_gd_t {α : Type} {b : Bool} {k : Option α} (h : b = true) : z_gd b k = k := by
  unfold z_gd; rw [if_pos h]
def z_lt {α β : Type} (e : α) (k : α → Option β) : Option β := k e
theorem z_lt_e {α β : Type} {e : α} {k : α → Option β} {r : β} (h : z_lt e k = some r) : ∃ x, x = e ∧ k x = some r := ⟨e, rfl, h⟩
def z_bd {α β : Type} (x : Option α) (k : α → Option β) : Option β := match x with
  | none => none
  | some v => k v
theorem z_bd_e {α β : Type} {x : Option α} {k : α → Option β} {r : β} (h : z_bd x k = some r) : ∃ v, x = some v ∧ k v = some r := by
  cases x with
  | none => cases h
  | some v => exact ⟨v, rfl, h⟩
theorem z_bd_s {α β : Type} {x : Option α} {k : α → Option β} {v : α} (h : x = some v) : z_bd x k = k v := by
  subst h; rfl
theorem z_t {α : Type} {c : Prop} [Decidable c] {a b : Option α} {r : α} (hc : c) (h : (if c then a else b) = some r) : a = some r := by
  rwa [if_pos hc] at h
theorem z_f {α : Type} {c : Prop} [Decidable c] {a b : Option α} {r : α} (hc : ¬ c) (h : (if c then a else b) = some r) : b = some r := by
  rwa [if_neg hc] at h
/-- in range, as a test -/
def z_in (i : Int32) (n : Nat) : Bool := !(decide (i < 0) || decide (n ≤ i.toNatClampNeg))
theorem z_in_e {i : Int32} {n : Nat} (h : z_in i n = true) : vp_in i n := by
  intro q
  unfold z_in at h
  rcases q with q | q
  · rw [decide_eq_true q] at h; cases h
  · rw [decide_eq_true q, Bool.or_true] at h; cases h
theorem z_in_i {i : Int32} {n : Nat} (h : vp_in i n) : z_in i n = true := by
  unfold z_in
  rw [decide_eq_false (fun q => h (Or.inl q)), decide_eq_false (fun q => h (Or.inr q))]
  rfl
theorem z_in_n {k n : Nat} (h : k < n) (hn : n < 2 ^ 31) : z_in (nI k) n = true := z_in_i (vp_in_nI h hn)
/-- not 0, as a test -/
def z_nz (x : Int32) : Bool := !decide (x = 0)
theorem z_nz_e {x : Int32} (h : z_nz x = true) : ¬ x = 0 := by
  intro q
  unfold z_nz at h
  rw [decide_eq_true q] at h; cases h
theorem z_nz_i {x : Int32} (h : ¬ x = 0) : z_nz x = true := by
  unfold z_nz; rw [decide_eq_false h]; rfl
def z_nzl (x : Int64) : Bool := !decide (x = 0)
theorem z_nzl_e {x : Int64} (h : z_nzl x = true) : ¬ x = 0 := by
  intro q
  unfold z_nzl at h
  rw [decide_eq_true q] at h; cases h
theorem z_nzl_i {x : Int64} (h : ¬ x = 0) : z_nzl x = true := by
  unfold z_nzl; rw [decide_eq_false h]; rfl
/-- a truth value, as a test -/
def z_bz (x : Int32) : Bool := decide (x = 0) || decide (x = 1)
theorem z_bz_e {x : Int32} (h : z_bz x = true) : narrow .boolean (.int x) = .int x := by
  unfold z_bz at h
  rcases Bool.or_eq_true _ _ |>.mp h with q | q
  · rw [of_decide_eq_true q]; rfl
  · rw [of_decide_eq_true q]; rfl
theorem z_bz_f {x : Int32} (h : z_bz x = true) : fits .boolean (.int x) = true := by
  unfold z_bz at h
  rcases Bool.or_eq_true _ _ |>.mp h with q | q
  · rw [of_decide_eq_true q]; rfl
  · rw [of_decide_eq_true q]; rfl
/-- a loop: the body goes on with a state, or ends -/
def z_lpN {S E : Type} (body : S → Option (S ⊕ E)) : Nat → S → Option E
  | 0, _ => none
  | n + 1, s => z_bd (body s) (fun x => Sum.elim (fun s' => z_lpN body n s') some x)
theorem z_lpN_up {S E : Type} {body : S → Option (S ⊕ E)} : ∀ (n : Nat) (s : S) (e : E), z_lpN body n s = some e → z_lpN body (n + 1) s = some e := by
  intro n
  induction n with
  | zero => intro s e h; cases h
  | succ n ih =>
    intro s e h
    obtain ⟨x, hx, hk⟩ := z_bd_e (show z_bd (body s) (fun x => Sum.elim (fun s' => z_lpN body n s') some x) = some e from h)
    show z_bd (body s) (fun x => Sum.elim (fun s' => z_lpN body (n + 1) s') some x) = some e
    rw [z_bd_s hx]
    cases x with
    | inl s' => exact ih s' e hk
    | inr e' => exact hk
theorem z_lpN_mono {S E : Type} {body : S → Option (S ⊕ E)} {n k : Nat} {s : S} {e : E} (h : z_lpN body n s = some e) : z_lpN body (n + k) s = some e := by
  induction k with
  | zero => exact h
  | succ k ih => exact z_lpN_up _ _ _ ih
noncomputable def z_lp {S E : Type} (body : S → Option (S ⊕ E)) (s : S) : Option E :=
  @dite (Option E) (∃ e : E, ∃ n : Nat, z_lpN body n s = some e) (Classical.propDecidable _) (fun h => some h.choose) (fun _ => none)
theorem z_lp_e {S E : Type} {body : S → Option (S ⊕ E)} {s : S} {e : E} (h : z_lp body s = some e) : ∃ n : Nat, z_lpN body n s = some e := by
  unfold z_lp at h
  by_cases q : ∃ e : E, ∃ n : Nat, z_lpN body n s = some e
  · rw [dif_pos q] at h
    obtain ⟨n, hn⟩ := q.choose_spec
    rw [← Option.some.inj h]
    exact ⟨n, hn⟩
  · rw [dif_neg q] at h; cases h
theorem z_lp_i {S E : Type} {body : S → Option (S ⊕ E)} {s : S} {e : E} {n : Nat} (h : z_lpN body n s = some e) : z_lp body s = some e := by
  have q : ∃ e : E, ∃ n : Nat, z_lpN body n s = some e := ⟨e, n, h⟩
  unfold z_lp
  rw [dif_pos q]
  obtain ⟨k, hk⟩ := q.choose_spec
  have h1 := z_lpN_mono (k := k) h
  have h2 := z_lpN_mono (k := n) hk
  rw [Nat.add_comm] at h2
  rw [h1] at h2
  exact h2.symm
/-- from a loop's end back to its start -/
theorem z_lp_ind {S E : Type} {body : S → Option (S ⊕ E)} {P : S → Prop} {e : E} (hs : ∀ (s : S) (x : S ⊕ E), body s = some x → (∀ s', x = .inl s' → P s') → (∀ e', x = .inr e' → e' = e) → P s) : ∀ s, z_lp body s = some e → P s := by
  have aux : ∀ (n : Nat) (s : S), z_lpN body n s = some e → P s := by
    intro n
    induction n with
    | zero => intro s h; cases h
    | succ n ih =>
      intro s h
      obtain ⟨x, hx, hk⟩ := z_bd_e (show z_bd (body s) (fun x => Sum.elim (fun s' => z_lpN body n s') some x) = some e from h)
      refine hs s x hx (fun s' q => ?_) (fun e' q => ?_)
      · subst q; exact ih s' hk
      · subst q; exact Option.some.inj hk
  intro s h
  obtain ⟨n, hn⟩ := z_lp_e h
  exact aux n s hn
theorem z_lp_go {S E : Type} {body : S → Option (S ⊕ E)} {s s' : S} (h : body s = some (.inl s')) : z_lp body s = z_lp body s' := by
  cases q : z_lp body s' with
  | some e =>
    obtain ⟨n, hn⟩ := z_lp_e q
    exact z_lp_i (n := n + 1) (by show z_bd (body s) _ = some e; rw [z_bd_s h]; exact hn)
  | none =>
    cases q2 : z_lp body s with
    | none => rfl
    | some e =>
      obtain ⟨n, hn⟩ := z_lp_e q2
      cases n with
      | zero => cases hn
      | succ n =>
        have h2 : z_bd (body s) (fun x => Sum.elim (fun s' => z_lpN body n s') some x) = some e := hn
        rw [z_bd_s h] at h2
        rw [z_lp_i (show z_lpN body n s' = some e from h2)] at q
        cases q
theorem z_lp_end {S E : Type} {body : S → Option (S ⊕ E)} {s : S} {e : E} (h : body s = some (.inr e)) : z_lp body s = some e :=
  z_lp_i (n := 1) (by show z_bd (body s) _ = some e; rw [z_bd_s h]; rfl)
