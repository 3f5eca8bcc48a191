/-! Two programs side by side. -/
def Al {α β : Type} (p : Option α) (q : Option β) (R : α → β → Prop) : Prop := ∃ a b, p = some a ∧ q = some b ∧ R a b
theorem Al_s {α β : Type} {R : α → β → Prop} {a : α} {b : β} (h : R a b) : Al (some a) (some b) R := ⟨a, b, rfl, rfl, h⟩
theorem Al_e {α : Type} {a : α} : Al (some a) (some a) Eq := ⟨a, a, rfl, rfl, rfl⟩
theorem Al_ro {α : Type} {p q : Option α} (h : Al p q Eq) : ∃ r, p = some r ∧ q = some r := by
  obtain ⟨a, b, h1, h2, rfl⟩ := h
  exact ⟨a, h1, h2⟩
theorem Al_mo {α β : Type} {p : Option α} {q : Option β} {R Q : α → β → Prop} (h : Al p q R) (hm : ∀ a b, R a b → Q a b) : Al p q Q := by
  obtain ⟨a, b, h1, h2, h3⟩ := h
  exact ⟨a, b, h1, h2, hm a b h3⟩
theorem Al_bd {α β γ δ : Type} {x : Option α} {y : Option β} {k : α → Option γ} {l : β → Option δ} {R : γ → δ → Prop} (Q : α → β → Prop) (h : Al x y Q) (hk : ∀ a b, Q a b → Al (k a) (l b) R) : Al (z_bd x k) (z_bd y l) R := by
  obtain ⟨a, b, h1, h2, h3⟩ := h
  rw [z_bd_s h1, z_bd_s h2]
  exact hk a b h3
theorem Al_bdl {α γ δ : Type} {x : Option α} {k : α → Option γ} {q : Option δ} {R : γ → δ → Prop} {a : α} (h : x = some a) (hk : Al (k a) q R) : Al (z_bd x k) q R := by
  rw [z_bd_s h]; exact hk
theorem Al_bdr {α γ δ : Type} {x : Option α} {k : α → Option γ} {q : Option δ} {R : δ → γ → Prop} {a : α} (h : x = some a) (hk : Al q (k a) R) : Al q (z_bd x k) R := by
  rw [z_bd_s h]; exact hk
/-- what a turn of two loops leaves: both go on, or both end -/
def Lp2 {S T E F : Type} (R : S → T → Prop) (Q : E → F → Prop) (x : S ⊕ E) (y : T ⊕ F) : Prop := (∃ s t, x = .inl s ∧ y = .inl t ∧ R s t) ∨ (∃ e f, x = .inr e ∧ y = .inr f ∧ Q e f)
theorem Lp2_l {S T E F : Type} {R : S → T → Prop} {Q : E → F → Prop} {s : S} {t : T} (h : R s t) : Al (some (.inl s : S ⊕ E)) (some (.inl t : T ⊕ F)) (Lp2 R Q) := ⟨_, _, rfl, rfl, Or.inl ⟨s, t, rfl, rfl, h⟩⟩
theorem Lp2_r {S T E F : Type} {R : S → T → Prop} {Q : E → F → Prop} {s : E} {t : F} (h : Q s t) : Al (some (.inr s : S ⊕ E)) (some (.inr t : T ⊕ F)) (Lp2 R Q) := ⟨_, _, rfl, rfl, Or.inr ⟨s, t, rfl, rfl, h⟩⟩
theorem Al_lp {S T E F : Type} {b : S → Option (S ⊕ E)} {c : T → Option (T ⊕ F)} (n : Nat) (R : Nat → S → T → Prop) (Q : E → F → Prop) (hs : ∀ i s t, i < n → R i s t → Al (b s) (c t) (Lp2 (R (i + 1)) Q)) (he : ∀ s t, R n s t → Al (b s) (c t) (Lp2 (fun _ _ => False) Q)) (s : S) (t : T) (h0 : R 0 s t) : Al (z_lp b s) (z_lp c t) Q := by
  have h : ∀ k, k ≤ n → ∀ s t, R (n - k) s t → Al (z_lp b s) (z_lp c t) Q := by
    intro k
    induction k with
    | zero =>
      intro _ s t hR
      obtain ⟨x, y, h1, h2, h3⟩ := he s t hR
      rcases h3 with ⟨_, _, _, _, h3⟩ | ⟨e, f, rfl, rfl, h3⟩
      · exact h3.elim
      · exact ⟨e, f, z_lp_end h1, z_lp_end h2, h3⟩
    | succ k ih =>
      intro hk s t hR
      obtain ⟨x, y, h1, h2, h3⟩ := hs (n - (k + 1)) s t (by omega) hR
      rcases h3 with ⟨s', t', rfl, rfl, h3⟩ | ⟨e, f, rfl, rfl, h3⟩
      · rw [show n - (k + 1) + 1 = n - k by omega] at h3
        obtain ⟨e, f, h4, h5, h6⟩ := ih (by omega) s' t' h3
        exact ⟨e, f, by rw [z_lp_go h1]; exact h4, by rw [z_lp_go h2]; exact h5, h6⟩
      · exact ⟨e, f, z_lp_end h1, z_lp_end h2, h3⟩
  exact h n (Nat.le_refl n) s t (by rw [Nat.sub_self]; exact h0)
/-- one program -/
def Ha {α : Type} (p : Option α) (R : α → Prop) : Prop := ∃ a, p = some a ∧ R a
theorem Ha_s {α : Type} {R : α → Prop} {a : α} (h : R a) : Ha (some a) R := ⟨a, rfl, h⟩
theorem Ha_mo {α : Type} {p : Option α} {R Q : α → Prop} (h : Ha p R) (hm : ∀ a, R a → Q a) : Ha p Q := by
  obtain ⟨a, h1, h2⟩ := h
  exact ⟨a, h1, hm a h2⟩
theorem Ha_e {α : Type} {p : Option α} {a : α} (h : Ha p (fun r => r = a)) : p = some a := by
  obtain ⟨b, h1, rfl⟩ := h
  exact h1
theorem Ha_bd {α γ : Type} {x : Option α} {k : α → Option γ} {R : γ → Prop} (Q : α → Prop) (h : Ha x Q) (hk : ∀ a, Q a → Ha (k a) R) : Ha (z_bd x k) R := by
  obtain ⟨a, h1, h2⟩ := h
  rw [z_bd_s h1]
  exact hk a h2
def Lp1 {S E : Type} (R : S → Prop) (Q : E → Prop) (x : S ⊕ E) : Prop := (∃ s, x = .inl s ∧ R s) ∨ (∃ e, x = .inr e ∧ Q e)
theorem Lp1_l {S E : Type} {R : S → Prop} {Q : E → Prop} {s : S} (h : R s) : Ha (some (.inl s : S ⊕ E)) (Lp1 R Q) := ⟨_, rfl, Or.inl ⟨s, rfl, h⟩⟩
theorem Lp1_r {S E : Type} {R : S → Prop} {Q : E → Prop} {s : E} (h : Q s) : Ha (some (.inr s : S ⊕ E)) (Lp1 R Q) := ⟨_, rfl, Or.inr ⟨s, rfl, h⟩⟩
theorem Ha_lp {S E : Type} {b : S → Option (S ⊕ E)} (n : Nat) (R : Nat → S → Prop) (Q : E → Prop) (hs : ∀ i s, i < n → R i s → Ha (b s) (Lp1 (R (i + 1)) Q)) (he : ∀ s, R n s → Ha (b s) (Lp1 (fun _ => False) Q)) (s : S) (h0 : R 0 s) : Ha (z_lp b s) Q := by
  have h : ∀ k, k ≤ n → ∀ s, R (n - k) s → Ha (z_lp b s) Q := by
    intro k
    induction k with
    | zero =>
      intro _ s hR
      obtain ⟨x, h1, h3⟩ := he s hR
      rcases h3 with ⟨_, _, h3⟩ | ⟨e, rfl, h3⟩
      · exact h3.elim
      · exact ⟨e, z_lp_end h1, h3⟩
    | succ k ih =>
      intro hk s hR
      obtain ⟨x, h1, h3⟩ := hs (n - (k + 1)) s (by omega) hR
      rcases h3 with ⟨s', rfl, h3⟩ | ⟨e, rfl, h3⟩
      · rw [show n - (k + 1) + 1 = n - k by omega] at h3
        obtain ⟨e, h4, h6⟩ := ih (by omega) s' h3
        exact ⟨e, by rw [z_lp_go h1]; exact h4, h6⟩
      · exact ⟨e, z_lp_end h1, h3⟩
  exact h n (Nat.le_refl n) s (by rw [Nat.sub_self]; exact h0)
