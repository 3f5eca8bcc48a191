/-! Doings in a row: where each lies (four places) and what it holds. -/
abbrev DD : Type := Nat × Nat × Nat × Nat × (Nat → Int32) × (Nat → Int32) × (Nat → Int32) × Int32 × Int32
abbrev dO (d : DD) : Nat × va_E := (d.1, .inr (1, [.ref d.2.1, .ref d.2.2.1, .ref d.2.2.2.1, .int d.2.2.2.2.2.2.2.1, .int d.2.2.2.2.2.2.2.2]))
abbrev dA (y : Nat → ClassId) (d : DD) : Nat × va_E := (d.2.1, .inl (y 0, 3, .inl d.2.2.2.2.1))
abbrev dB (y : Nat → ClassId) (d : DD) : Nat × va_E := (d.2.2.1, .inl (y 0, 3, .inl d.2.2.2.2.2.1))
abbrev dC (y : Nat → ClassId) (d : DD) : Nat × va_E := (d.2.2.2.1, .inl (y 0, 36, .inl d.2.2.2.2.2.2.1))
abbrev dset (d : DD) (a t r : Nat → Int32) (n h : Int32) : DD := (d.1, d.2.1, d.2.2.1, d.2.2.2.1, a, t, r, n, h)
def drot {α : Type} (P : Nat → α) : Nat → α := fun i => if i < 7 then P (i + 1) else if i = 7 then P 0 else P i
theorem drot_row (P : Nat → DD) : va_up (va_up (va_up (va_up (va_up (va_up (va_up (va_up (fun i => some (P i).1) 0 (some (P 1).1)) 1 (some (P 2).1)) 2 (some (P 3).1)) 3 (some (P 4).1)) 4 (some (P 5).1)) 5 (some (P 6).1)) 6 (some (P 7).1)) 7 (some (P 0).1) = fun i => some (drot P i).1 := by
  funext i
  match i with
  | 0 => rfl
  | 1 => rfl
  | 2 => rfl
  | 3 => rfl
  | 4 => rfl
  | 5 => rfl
  | 6 => rfl
  | 7 => rfl
  | n + 8 =>
    have h : ∀ k, k < 8 → n + 8 ≠ k := fun k hk => by omega
    have h2 : ¬ n + 8 < 7 := by omega
    simp only [va_up, drot, if_neg (h 0 (by decide)), if_neg (h 1 (by decide)), if_neg (h 2 (by decide)), if_neg (h 3 (by decide)), if_neg (h 4 (by decide)), if_neg (h 5 (by decide)), if_neg (h 6 (by decide)), if_neg (h 7 (by decide)), if_neg h2]
theorem z_lt8 {k : Nat} (h : k < 8) : k = 0 ∨ k = 1 ∨ k = 2 ∨ k = 3 ∨ k = 4 ∨ k = 5 ∨ k = 6 ∨ k = 7 := by omega
theorem z_in_lt {i : Int32} {n : Nat} (h : z_in i n = true) : i.toNatClampNeg < n := Nat.not_le.mp fun q => z_in_e h (Or.inr q)
section ZQ
variable {p : Program} {l : Launch} {e : Env} {R : Room} {s : State} {m : MethodId} {args : Array Value} {below : List Frame} {meth : Method} {c : Code} {H : Heap} {locs : List Loc} {cells slots : Nat} {Q : State → Prop}
variable {cc : ByteArray} {nL : Nat} {X : Cond} {own : String} {D : va_G} {y : Nat → ClassId} {A : Nat → Prop} {F Lc : Nat} {ws ws' : va_W} {pc : Nat} {ls : Array Slot} {rest : List Value} {a : Nat}
theorem z_aald (K : z_K p m c meth cc nL s args X own D y A R F Lc) (hH : z_H D A s.heap ws H locs) (q0 t0 : Nat) {n : Nat} {cA : ClassId} {C : String} {f : Nat → Option Nat} {i : Int32} {k q : Nat} (ha : ws[q0]? = some (a, .inl (cA, n, .inr (.inr (.inr (.inr f)))))) (ht : (zT y)[t0]? = some (cA, .object C)) (hin : z_in i n = true) (hk : i.toNatClampNeg = k) (hq : f k = some q) (hdg : decode cc pc = .ok (.aaload, 1))
    (kk : W p l e R s m args below meth c H locs cells slots Q (F0 m (pc + 1) ls (.ref q :: rest))) : W p l e R s m args below meth c H locs cells slots Q (F0 m pc ls (.int i :: .ref a :: rest)) := by
  subst hk
  refine va_aldq K.1.1 K.1.2.1 K.2.1 hH.1 q0 t0 ha ht (z_in_e hin) hdg ?_
  rw [hq]
  exact kk
theorem z_aast (K : z_K p m c meth cc nL s args X own D y A R F Lc) (hH : z_H D A s.heap ws H locs) (q0 t0 qk : Nat) {n ci k v : Nat} {cA : ClassId} {r : vw_C} {vs : List Value} {f : Nat → Option Nat} {i : Int32} (ha : ws[q0]? = some (a, .inl (cA, n, .inr (.inr (.inr (.inr f)))))) (hv : ws[qk]? = some (v, .inr (ci, vs))) (hc : vwCl[ci]? = some r) (ht : (zT y)[t0]? = some (cA, .object r.1)) (hin : z_in i n = true) (hk : i.toNatClampNeg = k) (hdg : decode cc pc = .ok (.aastore, 1)) (hw : ws.set q0 (a, .inl (cA, n, .inr (.inr (.inr (.inr (va_up f k (some v))))))) = ws')
    (kk : ∀ (H : Heap) (locs : List Loc), z_H D A s.heap ws' H locs → W p l e R s m args below meth c H locs cells slots Q (F0 m (pc + 1) ls rest)) : W p l e R s m args below meth c H locs cells slots Q (F0 m pc ls (.ref v :: .int i :: .ref a :: rest)) := by
  subst hk
  subst hw
  exact va_astq K.1.1 K.1.2.1 K.2.1 hH.1 hH.2.1 hH.2.2 q0 t0 qk ci ha ht hv hc (z_in_e hin) hdg (fun H1 locs1 h1 h2 h3 => kk H1 locs1 ⟨h1, h2, h3⟩)
end ZQ
