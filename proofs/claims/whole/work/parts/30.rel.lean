/-! What ties the system's numbers to the reference's: both hold one country. -/
/-- doings d beside the reference's row w from place u on: nc crows, np places -/
def RD (w : Nat → Int32) (u nc np : Nat) (d : DD) : Prop :=
  ∃ nd h : Nat, nd ≤ 12 ∧ h ≤ 9999 ∧ d.2.2.2.2.2.2.2.1 = nI nd ∧ w (u + 7) = nI nd ∧ d.2.2.2.2.2.2.2.2 = nI h ∧ w (u + 6) = nI h ∧
  (∀ c, c < nc → ∃ a t : Nat, a < np ∧ t ≤ 99 ∧ d.2.2.2.2.1 c = nI a ∧ w (u + c) = nI a ∧ d.2.2.2.2.2.1 c = nI t ∧ w (u + 3 + c) = nI t) ∧
  (∀ j, j < 3 * nd → d.2.2.2.2.2.2.1 j = w (u + 8 + j)) ∧ (∀ k, k < nd → ∃ g : Nat, g ≤ 2000 ∧ w (u + 8 + (3 * k + 2)) = nI g)
/-- a country beside the reference's row w from place s on -/
def RC (w : Nat → Int32) (s : Nat) (v : Nat → Int32) (f : Nat → Nat → Int32) (n : DD) (P : Nat → DD) : Prop :=
  ∃ np nc nb nn nm : Nat, np ≤ 7 ∧ nc ≤ 3 ∧ nb ≤ 8 ∧ nn ≤ 6 ∧ nm ≤ 6 ∧
  v 0 = nI np ∧ w (s + 418) = nI np ∧ v 1 = nI nc ∧ w (s + 422) = nI nc ∧ v 2 = nI nb ∧ w (s + 396) = nI nb ∧ v 3 = nI nn ∧ w (s + 447) = nI nn ∧ v 4 = nI nm ∧ w (s + 478) = nI nm ∧
  (∀ p, p < np → ∃ k x y : Nat, k < 6 ∧ x < 10 ∧ y < 10 ∧ f 0 p = nI k ∧ w (s + 397 + 3 * p) = nI k ∧ f 1 p = nI x ∧ w (s + 398 + 3 * p) = nI x ∧ f 2 p = nI y ∧ w (s + 399 + 3 * p) = nI y) ∧
  (∀ c, c < nc → ∃ k : Nat, k < 6 ∧ f 3 c = nI k ∧ w (s + 419 + c) = nI k) ∧
  RD w s nc np n ∧ (∀ i, i < nb → RD w (s + 44 + 44 * i) nc np (P i)) ∧
  (∀ k, k < nn → f 4 (5 * k) = w (s + 423 + 4 * k) ∧ f 4 (5 * k + 1) = w (s + 424 + 4 * k) ∧ f 4 (5 * k + 2) = w (s + 425 + 4 * k) ∧ f 4 (5 * k + 3) = 0 ∧ f 4 (5 * k + 4) = w (s + 426 + 4 * k)) ∧
  (∀ j, j < 5 * nm → f 5 j = w (s + 448 + j))
/-- all: the country, the text, what was refused, the fraction, the images -/
def RelX (x v : Nat → Int32) (f : Nat → Nat → Int32) (n : DD) (P : Nat → DD) (kf tf v0 : Nat → Int32) (f0 : Nat → Nat → Int32) (n0 : DD) (P0 : Nat → DD) (v1 : Nat → Int32) (f1 : Nat → Nat → Int32) (n1 : DD) (P1 : Nat → DD) (mv : Nat → Int32) (ma mb : Int64) (w tx : Nat → Int32) : Prop :=
  RC w 0 v f n P ∧ (∃ nt : Nat, nt ≤ 150 ∧ x 0 = nI nt ∧ mv 1 = nI nt ∧ ∀ j, j < nt → ∃ c : Nat, c < 128 ∧ tf j = nI c ∧ tx j = nI c) ∧
  x 3 = mv 2 ∧ x 4 = mv 3 ∧ x 5 = mv 4 ∧ (x 1).toInt64 = ma ∧ (x 2).toInt64 = mb ∧
  ∃ k0 k1 : Nat, k0 ≤ 1 ∧ k1 ≤ 1 ∧ kf 0 = nI k0 ∧ kf 1 = nI k1 ∧ mv 0 = nI (k0 + 2 * k1) ∧ (k0 = 1 → RC w 479 v0 f0 n0 P0) ∧ (k1 = 1 → RC w 958 v1 f1 n1 P1)
