def pk8 {α : Type} (a b c d e f g h : α) : Nat → α
  | 0 => a
  | 1 => b
  | 2 => c
  | 3 => d
  | 4 => e
  | 5 => f
  | 6 => g
  | _ => h
def pk10 {α : Type} (a b c d e f g h i j : α) : Nat → α
  | 0 => a
  | 1 => b
  | 2 => c
  | 3 => d
  | 4 => e
  | 5 => f
  | 6 => g
  | 7 => h
  | 8 => i
  | _ => j
abbrev z0 : Nat → Int32 := fun _ => 0
abbrev kD (y : Nat → ClassId) (d : DD) : va_W := [dO d, dA y d, dB y d, dC y d]
/-- a country's cells: where they lie (a), numbers (v: places, crows, pasts, notes, marks), rows (f: kinds, x, y, crows' kinds, notes, marks), now, past -/
def kC (y : Nat → ClassId) (a : Nat → Nat) (v : Nat → Int32) (f : Nat → Nat → Int32) (n : DD) (P : Nat → DD) : va_W :=
  [(a 0, .inr (0, [.ref (a 1), .ref (a 2), .ref (a 3), .int (v 0), .ref (a 4), .int (v 1), .ref n.1, .ref (a 5), .int (v 2), .ref (a 6), .ref (a 8)])), (a 1, .inl (y 0, 7, .inl (f 0))), (a 2, .inl (y 0, 7, .inl (f 1))), (a 3, .inl (y 0, 7, .inl (f 2))), (a 4, .inl (y 0, 3, .inl (f 3))),
   dO n, dA y n, dB y n, dC y n, (a 5, .inl (y 4, 8, .inr (.inr (.inr (.inr (fun i => some (P i).1)))))),
   (a 6, .inr (5, [.int 0, .ref (a 7), .int (v 3)])), (a 7, .inl (y 0, 30, .inl (f 4))), (a 8, .inr (5, [.int 1, .ref (a 9), .int (v 4)])), (a 9, .inl (y 0, 30, .inl (f 5))),
   dO (P 0), dA y (P 0), dB y (P 0), dC y (P 0), dO (P 1), dA y (P 1), dB y (P 1), dC y (P 1), dO (P 2), dA y (P 2), dB y (P 2), dC y (P 2), dO (P 3), dA y (P 3), dB y (P 3), dC y (P 3),
   dO (P 4), dA y (P 4), dB y (P 4), dC y (P 4), dO (P 5), dA y (P 5), dB y (P 5), dC y (P 5), dO (P 6), dA y (P 6), dB y (P 6), dC y (P 6), dO (P 7), dA y (P 7), dB y (P 7), dC y (P 7)]
theorem z_rowx {D : va_G} {A : Nat → Prop} {H0 H : Heap} {ws ws' : va_W} {locs : List Loc} {a n : Nat} {cA : ClassId} {f g : Nat → Option Nat} (hH : z_H D A H0 ws H locs) (q0 : Nat) (he : ws[q0]? = some (a, .inl (cA, n, .inr (.inr (.inr (.inr f)))))) (hfg : ∀ i, i < n → f i = g i) (hw : ws.set q0 (a, .inl (cA, n, .inr (.inr (.inr (.inr g))))) = ws') : z_H D A H0 ws' H locs := by
  subst hw
  have hq := (List.getElem?_eq_some_iff.mp he).1
  have hcell : vp_cell cA (n, .inr (.inr (.inr (.inr f)))) = vp_cell cA (n, .inr (.inr (.inr (.inr g)))) := by
    rw [vp_cell_q, vp_cell_q]
    unfold arrV
    congr 1
    apply Array.ext
    · simp
    · intro i h1 h2
      simp only [Array.getElem_ofFn]
      rw [hfg i (by simpa using h1)]
  have get : ∀ (k : Nat) (q : Nat × va_E), (ws.set q0 (a, .inl (cA, n, .inr (.inr (.inr (.inr g))))))[k]? = some q → (k = q0 ∧ q = (a, .inl (cA, n, .inr (.inr (.inr (.inr g)))))) ∨ (k ≠ q0 ∧ ws[k]? = some q) := by
    intro k q h
    by_cases hk : k = q0
    · subst hk
      rw [List.getElem?_set_self hq] at h
      exact Or.inl ⟨rfl, (Option.some.inj h).symm⟩
    · rw [List.getElem?_set_ne (fun e => hk e.symm)] at h
      exact Or.inr ⟨hk, h⟩
  have adr : ∀ (k : Nat) (q : Nat × va_E), (ws.set q0 (a, .inl (cA, n, .inr (.inr (.inr (.inr g))))))[k]? = some q → ∃ q', ws[k]? = some q' ∧ q'.1 = q.1 := by
    intro k q h
    rcases get k q h with ⟨rfl, rfl⟩ | ⟨_, h2⟩
    · exact ⟨_, he, rfl⟩
    · exact ⟨q, h2, rfl⟩
  refine ⟨fun k q h => ?_, ⟨fun i j p q hi hj e => ?_, fun k q h => ?_⟩, hH.2.2⟩
  · rcases get k q h with ⟨rfl, rfl⟩ | ⟨_, h2⟩
    · have h3 := hH.1 _ _ he
      unfold va_at at h3 ⊢
      dsimp only at h3 ⊢
      rw [← hcell]
      exact h3
    · exact hH.1 k q h2
  · obtain ⟨p', hp, ep⟩ := adr i p hi
    obtain ⟨q', hq', eq⟩ := adr j q hj
    exact hH.2.1.1 i j p' q' hp hq' (by rw [ep, eq, e])
  · obtain ⟨q', hq', eq⟩ := adr k q h
    rw [← eq]
    exact hH.2.1.2 k q' hq'
theorem df_X0 : ∀ j, j < 11 → defaultValue (tyX0 j) = vp_V [.null, .null, .null, .int 0, .null, .int 0, .null, .null, .int 0, .null, .null] j := by
  intro j hj
  match j, hj with
  | 0, _ => rfl
  | 1, _ => rfl
  | 2, _ => rfl
  | 3, _ => rfl
  | 4, _ => rfl
  | 5, _ => rfl
  | 6, _ => rfl
  | 7, _ => rfl
  | 8, _ => rfl
  | 9, _ => rfl
  | 10, _ => rfl
  | _ + 11, h => exact absurd h (by omega)
theorem df_X1 : ∀ j, j < 5 → defaultValue (tyX1 j) = vp_V [.null, .null, .null, .int 0, .int 0] j := by
  intro j hj
  match j, hj with
  | 0, _ => rfl
  | 1, _ => rfl
  | 2, _ => rfl
  | 3, _ => rfl
  | 4, _ => rfl
  | _ + 5, h => exact absurd h (by omega)
theorem df_X3 : ∀ j, j < 1 → defaultValue (tyX3 j) = vp_V [.null] j := by
  intro j hj
  match j, hj with
  | 0, _ => rfl
  | _ + 1, h => exact absurd h (by omega)
theorem df_X4 : ∀ j, j < 7 → defaultValue (tyX4 j) = vp_V [.null, .null, .int 0, .int 0, .int 0, .int 0, .int 0] j := by
  intro j hj
  match j, hj with
  | 0, _ => rfl
  | 1, _ => rfl
  | 2, _ => rfl
  | 3, _ => rfl
  | 4, _ => rfl
  | 5, _ => rfl
  | 6, _ => rfl
  | _ + 7, h => exact absurd h (by omega)
theorem df_X5 : ∀ j, j < 6 → defaultValue (tyX5 j) = vp_V [.null, .null, .null, .null, .int 0, .int 0] j := by
  intro j hj
  match j, hj with
  | 0, _ => rfl
  | 1, _ => rfl
  | 2, _ => rfl
  | 3, _ => rfl
  | 4, _ => rfl
  | 5, _ => rfl
  | _ + 6, h => exact absurd h (by omega)
theorem df_X6 : ∀ j, j < 3 → defaultValue (tyX6 j) = vp_V [.int 0, .null, .int 0] j := by
  intro j hj
  match j, hj with
  | 0, _ => rfl
  | 1, _ => rfl
  | 2, _ => rfl
  | _ + 3, h => exact absurd h (by omega)
theorem df_X7 : ∀ j, j < 14 → defaultValue (tyX7 j) = vp_V [.null, .null, .null, .null, .int 0, .int 0, .int 0, .int 0, .int 0, .int 0, .null, .null, .null, .null] j := by
  intro j hj
  match j, hj with
  | 0, _ => rfl
  | 1, _ => rfl
  | 2, _ => rfl
  | 3, _ => rfl
  | 4, _ => rfl
  | 5, _ => rfl
  | 6, _ => rfl
  | 7, _ => rfl
  | 8, _ => rfl
  | 9, _ => rfl
  | 10, _ => rfl
  | 11, _ => rfl
  | 12, _ => rfl
  | 13, _ => rfl
  | _ + 14, h => exact absurd h (by omega)
theorem df_X8 : ∀ j, j < 17 → defaultValue (tyX8 j) = vp_V [.null, .int 0, .null, .int 0, .long 0, .long 0, .int 0, .int 0, .int 0, .int 0, .int 0, .int 0, .int 0, .int 0, .null, .null, .null] j := by
  intro j hj
  match j, hj with
  | 0, _ => rfl
  | 1, _ => rfl
  | 2, _ => rfl
  | 3, _ => rfl
  | 4, _ => rfl
  | 5, _ => rfl
  | 6, _ => rfl
  | 7, _ => rfl
  | 8, _ => rfl
  | 9, _ => rfl
  | 10, _ => rfl
  | 11, _ => rfl
  | 12, _ => rfl
  | 13, _ => rfl
  | 14, _ => rfl
  | 15, _ => rfl
  | 16, _ => rfl
  | _ + 17, h => exact absurd h (by omega)
theorem hd_X1_init : yX1_init.cls ≠ "java/lang/invoke/MethodHandle" ∧ yX1_init.cls ≠ "java/lang/invoke/VarHandle" ∧ (parseMethodDescriptor yX1_init.desc).map (fun d => d.parameters.length) = some 0 := by decide +kernel
set_option maxHeartbeats 4000000 in
set_option maxRecDepth 100000 in
theorem c_X1_init (l : Launch) (D : va_G) (y : Nat → ClassId) (o : Nat) : z_MC l yX1_init cX1_init 1 1 13 3 42 D y [.ref o] [(o, .inr (1, [.null, .null, .null, .int 0, .int 0]))] (fun w => ∃ a b c : Nat, w = kD y (o, a, b, c, z0, z0, z0, 0, 0)) := by
  refine z_enC (by decide) rfl (Nat.le_of_ble_eq_true rfl) ?_
  intro p e s m args below meth c A ls hr hi hN K hH hl
  have hl : lv_has ls 1 [(0, .ref o)] := hl
  refine lv_aload_n K.x K.b dX1_init_0 rfl (lv_at hl 0 rfl) ?_
  refine z_objI K hl.1 tw_1_35 (by decide) (Nat.le_of_ble_eq_true rfl) dX1_init_1 ?_
  refine lv_aload_n K.x K.b dX1_init_4 rfl (lv_at hl 0 rfl) ?_
  refine lv_iconst (v := 3) K.x K.b dX1_init_5 (by decide) ?_
  refine z_newI K hH 3 (by decide) (by decide) (by decide) (by decide) (by decide) dX1_init_6 (fun q1 H hH => ?_)
  refine z_putF K hi hH 0 (ws' := ([(o, .inr (1, [.ref q1, .null, .null, .int 0, .int 0]))] ++ [(q1, .inl (y 0, 3, .inl z0))])) rfl zin_1 rfl tyX1 tyX1_ok nmX1 0 (by decide) tw_1_36 rfl rfl rfl rfl (Nat.le_of_ble_eq_true rfl) dX1_init_8 rfl (fun H locs hH => ?_)
  refine lv_aload_n K.x K.b dX1_init_11 rfl (lv_at hl 0 rfl) ?_
  refine lv_iconst (v := 3) K.x K.b dX1_init_12 (by decide) ?_
  refine z_newI K hH 3 (by decide) (by decide) (by decide) (by decide) (by decide) dX1_init_13 (fun q2 H hH => ?_)
  refine z_putF K hi hH 0 (ws' := (([(o, .inr (1, [.ref q1, .ref q2, .null, .int 0, .int 0]))] ++ [(q1, .inl (y 0, 3, .inl z0))]) ++ [(q2, .inl (y 0, 3, .inl z0))])) rfl zin_1 rfl tyX1 tyX1_ok nmX1 1 (by decide) tw_1_40 rfl rfl rfl rfl (Nat.le_of_ble_eq_true rfl) dX1_init_15 rfl (fun H locs hH => ?_)
  refine lv_aload_n K.x K.b dX1_init_18 rfl (lv_at hl 0 rfl) ?_
  refine lv_bipush (v := 36) K.x K.b dX1_init_19 (by decide) ?_
  refine z_newI K hH 36 (by decide) (by decide) (by decide) (by decide) (by decide) dX1_init_21 (fun q3 H hH => ?_)
  refine z_putF K hi hH 0 (ws' := ((([(o, .inr (1, [.ref q1, .ref q2, .ref q3, .int 0, .int 0]))] ++ [(q1, .inl (y 0, 3, .inl z0))]) ++ [(q2, .inl (y 0, 3, .inl z0))]) ++ [(q3, .inl (y 0, 36, .inl z0))])) rfl zin_1 rfl tyX1 tyX1_ok nmX1 2 (by decide) tw_1_43 rfl rfl rfl rfl (Nat.le_of_ble_eq_true rfl) dX1_init_23 rfl (fun H locs hH => ?_)
  refine W.widen (k := 3) (n := 42) (by decide) (by decide) ?_
  exact z_retC K hr hH ⟨q1, q2, q3, rfl⟩ dX1_init_26
theorem hd_X6_init : yX6_init.cls ≠ "java/lang/invoke/MethodHandle" ∧ yX6_init.cls ≠ "java/lang/invoke/VarHandle" ∧ (parseMethodDescriptor yX6_init.desc).map (fun d => d.parameters.length) = some 1 := by decide +kernel
set_option maxHeartbeats 4000000 in
set_option maxRecDepth 100000 in
theorem c_X6_init (l : Launch) (D : va_G) (y : Nat → ClassId) (o : Nat) (p1 : Int32) (hp1 : z_bz p1 = true) : z_MC l yX6_init cX6_init 2 1 13 1 30 D y [.ref o, .int p1] [(o, .inr (5, [.int 0, .null, .int 0]))] (fun w => ∃ a : Nat, w = [(o, .inr (5, [.int p1, .ref a, .int 0])), (a, .inl (y 0, 30, .inl z0))]) := by
  refine z_enC (by decide) rfl (Nat.le_of_ble_eq_true rfl) ?_
  intro p e s m args below meth c A ls hr hi hN K hH hl
  have hl : lv_has ls 2 [(0, .ref o), (1, .int p1)] := hl
  refine lv_aload_n K.x K.b dX6_init_0 rfl (lv_at hl 0 rfl) ?_
  refine z_objI K hl.1 tw_1_69 (by decide) (Nat.le_of_ble_eq_true rfl) dX6_init_1 ?_
  refine lv_aload_n K.x K.b dX6_init_4 rfl (lv_at hl 0 rfl) ?_
  refine lv_bipush (v := 30) K.x K.b dX6_init_5 (by decide) ?_
  refine z_newI K hH 30 (by decide) (by decide) (by decide) (by decide) (by decide) dX6_init_7 (fun q1 H hH => ?_)
  refine z_putF K hi hH 0 (ws' := ([(o, .inr (5, [.int 0, .ref q1, .int 0]))] ++ [(q1, .inl (y 0, 30, .inl z0))])) rfl zin_6 rfl tyX6 tyX6_ok nmX6 1 (by decide) tw_1_71 rfl rfl rfl rfl (Nat.le_of_ble_eq_true rfl) dX6_init_9 rfl (fun H locs hH => ?_)
  refine lv_aload_n K.x K.b dX6_init_12 rfl (lv_at hl 0 rfl) ?_
  refine lv_iload_n K.x K.b dX6_init_13 rfl (lv_at hl 1 rfl) ?_
  refine z_putF K hi hH 0 (ws' := ([(o, .inr (5, [.int p1, .ref q1, .int 0]))] ++ [(q1, .inl (y 0, 30, .inl z0))])) rfl zin_6 rfl tyX6 tyX6_ok nmX6 0 (by decide) tw_1_70 rfl rfl (z_bz_e hp1) (z_bz_f hp1) (Nat.le_of_ble_eq_true rfl) dX6_init_14 rfl (fun H locs hH => ?_)
  refine W.widen (k := 1) (n := 30) (by decide) (by decide) ?_
  exact z_retC K hr hH ⟨q1, rfl⟩ dX6_init_17
theorem hd_X3_init : yX3_init.cls ≠ "java/lang/invoke/MethodHandle" ∧ yX3_init.cls ≠ "java/lang/invoke/VarHandle" ∧ (parseMethodDescriptor yX3_init.desc).map (fun d => d.parameters.length) = some 0 := by decide +kernel
set_option maxHeartbeats 4000000 in
set_option maxRecDepth 100000 in
theorem c_X3_init (l : Launch) (D : va_G) (y : Nat → ClassId) (o : Nat) : z_MC l yX3_init cX3_init 1 1 13 1 6 D y [.ref o] [(o, .inr (2, [.null]))] (fun w => ∃ a : Nat, w = [(o, .inr (2, [.ref a])), (a, .inl (y 0, 6, .inl z0))]) := by
  refine z_enC (by decide) rfl (Nat.le_of_ble_eq_true rfl) ?_
  intro p e s m args below meth c A ls hr hi hN K hH hl
  have hl : lv_has ls 1 [(0, .ref o)] := hl
  refine lv_aload_n K.x K.b dX3_init_0 rfl (lv_at hl 0 rfl) ?_
  refine z_objI K hl.1 tw_1_192 (by decide) (Nat.le_of_ble_eq_true rfl) dX3_init_1 ?_
  refine lv_aload_n K.x K.b dX3_init_4 rfl (lv_at hl 0 rfl) ?_
  refine lv_bipush (v := 6) K.x K.b dX3_init_5 (by decide) ?_
  refine z_newI K hH 6 (by decide) (by decide) (by decide) (by decide) (by decide) dX3_init_7 (fun q1 H hH => ?_)
  refine z_putF K hi hH 0 (ws' := ([(o, .inr (2, [.ref q1]))] ++ [(q1, .inl (y 0, 6, .inl z0))])) rfl zin_3 rfl tyX3 tyX3_ok nmX3 0 (by decide) tw_1_193 rfl rfl rfl rfl (Nat.le_of_ble_eq_true rfl) dX3_init_9 rfl (fun H locs hH => ?_)
  refine W.widen (k := 1) (n := 6) (by decide) (by decide) ?_
  exact z_retC K hr hH ⟨q1, rfl⟩ dX3_init_12
theorem hd_X5_init : yX5_init.cls ≠ "java/lang/invoke/MethodHandle" ∧ yX5_init.cls ≠ "java/lang/invoke/VarHandle" ∧ (parseMethodDescriptor yX5_init.desc).map (fun d => d.parameters.length) = some 0 := by decide +kernel
set_option maxHeartbeats 4000000 in
set_option maxRecDepth 100000 in
theorem c_X5_init (l : Launch) (D : va_G) (y : Nat → ClassId) (o : Nat) : z_MC l yX5_init cX5_init 1 1 13 4 553 D y [.ref o] [(o, .inr (4, [.null, .null, .null, .null, .int 0, .int 0]))] (fun w => ∃ a b c d : Nat, w = [(o, .inr (4, [.ref a, .ref b, .ref c, .ref d, .int 0, .int 0])), (a, .inl (y 0, 49, .inl z0)), (b, .inl (y 0, 7, .inl z0)), (c, .inl (y 0, 448, .inl z0)), (d, .inl (y 0, 49, .inl z0))]) := by
  refine z_enC (by decide) rfl (Nat.le_of_ble_eq_true rfl) ?_
  intro p e s m args below meth c A ls hr hi hN K hH hl
  have hl : lv_has ls 1 [(0, .ref o)] := hl
  refine lv_aload_n K.x K.b dX5_init_0 rfl (lv_at hl 0 rfl) ?_
  refine z_objI K hl.1 tw_1_132 (by decide) (Nat.le_of_ble_eq_true rfl) dX5_init_1 ?_
  refine lv_aload_n K.x K.b dX5_init_4 rfl (lv_at hl 0 rfl) ?_
  refine lv_bipush (v := 49) K.x K.b dX5_init_5 (by decide) ?_
  refine z_newI K hH 49 (by decide) (by decide) (by decide) (by decide) (by decide) dX5_init_7 (fun q1 H hH => ?_)
  refine z_putF K hi hH 0 (ws' := ([(o, .inr (4, [.ref q1, .null, .null, .null, .int 0, .int 0]))] ++ [(q1, .inl (y 0, 49, .inl z0))])) rfl zin_5 rfl tyX5 tyX5_ok nmX5 0 (by decide) tw_1_133 rfl rfl rfl rfl (Nat.le_of_ble_eq_true rfl) dX5_init_9 rfl (fun H locs hH => ?_)
  refine lv_aload_n K.x K.b dX5_init_12 rfl (lv_at hl 0 rfl) ?_
  refine lv_bipush (v := 7) K.x K.b dX5_init_13 (by decide) ?_
  refine z_newI K hH 7 (by decide) (by decide) (by decide) (by decide) (by decide) dX5_init_15 (fun q2 H hH => ?_)
  refine z_putF K hi hH 0 (ws' := (([(o, .inr (4, [.ref q1, .ref q2, .null, .null, .int 0, .int 0]))] ++ [(q1, .inl (y 0, 49, .inl z0))]) ++ [(q2, .inl (y 0, 7, .inl z0))])) rfl zin_5 rfl tyX5 tyX5_ok nmX5 1 (by decide) tw_1_134 rfl rfl rfl rfl (Nat.le_of_ble_eq_true rfl) dX5_init_17 rfl (fun H locs hH => ?_)
  refine lv_aload_n K.x K.b dX5_init_20 rfl (lv_at hl 0 rfl) ?_
  refine lv_sipush (v := 448) K.x K.b dX5_init_21 (by decide) ?_
  refine z_newI K hH 448 (by decide) (by decide) (by decide) (by decide) (by decide) dX5_init_24 (fun q3 H hH => ?_)
  refine z_putF K hi hH 0 (ws' := ((([(o, .inr (4, [.ref q1, .ref q2, .ref q3, .null, .int 0, .int 0]))] ++ [(q1, .inl (y 0, 49, .inl z0))]) ++ [(q2, .inl (y 0, 7, .inl z0))]) ++ [(q3, .inl (y 0, 448, .inl z0))])) rfl zin_5 rfl tyX5 tyX5_ok nmX5 2 (by decide) tw_1_135 rfl rfl rfl rfl (Nat.le_of_ble_eq_true rfl) dX5_init_26 rfl (fun H locs hH => ?_)
  refine lv_aload_n K.x K.b dX5_init_29 rfl (lv_at hl 0 rfl) ?_
  refine lv_bipush (v := 49) K.x K.b dX5_init_30 (by decide) ?_
  refine z_newI K hH 49 (by decide) (by decide) (by decide) (by decide) (by decide) dX5_init_32 (fun q4 H hH => ?_)
  refine z_putF K hi hH 0 (ws' := (((([(o, .inr (4, [.ref q1, .ref q2, .ref q3, .ref q4, .int 0, .int 0]))] ++ [(q1, .inl (y 0, 49, .inl z0))]) ++ [(q2, .inl (y 0, 7, .inl z0))]) ++ [(q3, .inl (y 0, 448, .inl z0))]) ++ [(q4, .inl (y 0, 49, .inl z0))])) rfl zin_5 rfl tyX5 tyX5_ok nmX5 3 (by decide) tw_1_136 rfl rfl rfl rfl (Nat.le_of_ble_eq_true rfl) dX5_init_34 rfl (fun H locs hH => ?_)
  refine W.widen (k := 4) (n := 553) (by decide) (by decide) ?_
  exact z_retC K hr hH ⟨q1, q2, q3, q4, rfl⟩ dX5_init_37
theorem hd_X8_init : yX8_init.cls ≠ "java/lang/invoke/MethodHandle" ∧ yX8_init.cls ≠ "java/lang/invoke/VarHandle" ∧ (parseMethodDescriptor yX8_init.desc).map (fun d => d.parameters.length) = some 0 := by decide +kernel
set_option maxHeartbeats 4000000 in
set_option maxRecDepth 100000 in
theorem c_X8_init (l : Launch) (D : va_G) (y : Nat → ClassId) (o : Nat) : z_MC l yX8_init cX8_init 1 1 13 5 3061 D y [.ref o] [(o, .inr (7, [.null, .int 0, .null, .int 0, .long 0, .long 0, .int 0, .int 0, .int 0, .int 0, .int 0, .int 0, .int 0, .int 0, .null, .null, .null]))] (fun w => ∃ a b c d e : Nat, w = [(o, .inr (7, [.ref a, .int 0, .ref b, .int 0, .long 0, .long 1, .int 0, .int 0, .int 0, .int 0, .int 0, .int 0, .int 0, .int 0, .ref c, .ref d, .ref e])), (a, .inl (y 0, 1960, .inl (upd z0 6 0))), (b, .inl (y 0, 150, .inl z0)), (c, .inl (y 0, 896, .inl z0)), (d, .inl (y 0, 49, .inl z0)), (e, .inl (y 0, 6, .inl z0))]) := by
  refine z_enC (by decide) rfl (Nat.le_of_ble_eq_true rfl) ?_
  intro p e s m args below meth c A ls hr hi hN K hH hl
  have hl : lv_has ls 1 [(0, .ref o)] := hl
  refine lv_aload_n K.x K.b dX8_init_0 rfl (lv_at hl 0 rfl) ?_
  refine z_objI K hl.1 tw_4_95 (by decide) (Nat.le_of_ble_eq_true rfl) dX8_init_1 ?_
  refine lv_aload_n K.x K.b dX8_init_4 rfl (lv_at hl 0 rfl) ?_
  refine lv_sipush (v := 1960) K.x K.b dX8_init_5 (by decide) ?_
  refine z_newI K hH 1960 (by decide) (by decide) (by decide) (by decide) (by decide) dX8_init_8 (fun q1 H hH => ?_)
  refine z_putF K hi hH 0 (ws' := ([(o, .inr (7, [.ref q1, .int 0, .null, .int 0, .long 0, .long 0, .int 0, .int 0, .int 0, .int 0, .int 0, .int 0, .int 0, .int 0, .null, .null, .null]))] ++ [(q1, .inl (y 0, 1960, .inl z0))])) rfl zin_8 rfl tyX8 tyX8_ok nmX8 0 (by decide) tw_4_96 rfl rfl rfl rfl (Nat.le_of_ble_eq_true rfl) dX8_init_10 rfl (fun H locs hH => ?_)
  refine lv_aload_n K.x K.b dX8_init_13 rfl (lv_at hl 0 rfl) ?_
  refine lv_sipush (v := 150) K.x K.b dX8_init_14 (by decide) ?_
  refine z_newI K hH 150 (by decide) (by decide) (by decide) (by decide) (by decide) dX8_init_17 (fun q2 H hH => ?_)
  refine z_putF K hi hH 0 (ws' := (([(o, .inr (7, [.ref q1, .int 0, .ref q2, .int 0, .long 0, .long 0, .int 0, .int 0, .int 0, .int 0, .int 0, .int 0, .int 0, .int 0, .null, .null, .null]))] ++ [(q1, .inl (y 0, 1960, .inl z0))]) ++ [(q2, .inl (y 0, 150, .inl z0))])) rfl zin_8 rfl tyX8 tyX8_ok nmX8 2 (by decide) tw_4_98 rfl rfl rfl rfl (Nat.le_of_ble_eq_true rfl) dX8_init_19 rfl (fun H locs hH => ?_)
  refine lv_aload_n K.x K.b dX8_init_22 rfl (lv_at hl 0 rfl) ?_
  refine lv_lconst (v := 1) K.x K.b dX8_init_23 (by decide) ?_
  refine z_put K hH 0 (ws' := (([(o, .inr (7, [.ref q1, .int 0, .ref q2, .int 0, .long 0, .long 1, .int 0, .int 0, .int 0, .int 0, .int 0, .int 0, .int 0, .int 0, .null, .null, .null]))] ++ [(q1, .inl (y 0, 1960, .inl z0))]) ++ [(q2, .inl (y 0, 150, .inl z0))])) rfl zin_8 rfl tyX8 tyX8_ok nmX8 5 (by decide) tw_4_101 rfl rfl rfl (Nat.le_of_ble_eq_true rfl) dX8_init_24 rfl (fun H locs hH => ?_)
  refine lv_aload_n K.x K.b dX8_init_27 rfl (lv_at hl 0 rfl) ?_
  refine lv_sipush (v := 896) K.x K.b dX8_init_28 (by decide) ?_
  refine z_newI K hH 896 (by decide) (by decide) (by decide) (by decide) (by decide) dX8_init_31 (fun q3 H hH => ?_)
  refine z_putF K hi hH 0 (ws' := ((([(o, .inr (7, [.ref q1, .int 0, .ref q2, .int 0, .long 0, .long 1, .int 0, .int 0, .int 0, .int 0, .int 0, .int 0, .int 0, .int 0, .ref q3, .null, .null]))] ++ [(q1, .inl (y 0, 1960, .inl z0))]) ++ [(q2, .inl (y 0, 150, .inl z0))]) ++ [(q3, .inl (y 0, 896, .inl z0))])) rfl zin_8 rfl tyX8 tyX8_ok nmX8 14 (by decide) tw_4_110 rfl rfl rfl rfl (Nat.le_of_ble_eq_true rfl) dX8_init_33 rfl (fun H locs hH => ?_)
  refine lv_aload_n K.x K.b dX8_init_36 rfl (lv_at hl 0 rfl) ?_
  refine lv_bipush (v := 49) K.x K.b dX8_init_37 (by decide) ?_
  refine z_newI K hH 49 (by decide) (by decide) (by decide) (by decide) (by decide) dX8_init_39 (fun q4 H hH => ?_)
  refine z_putF K hi hH 0 (ws' := (((([(o, .inr (7, [.ref q1, .int 0, .ref q2, .int 0, .long 0, .long 1, .int 0, .int 0, .int 0, .int 0, .int 0, .int 0, .int 0, .int 0, .ref q3, .ref q4, .null]))] ++ [(q1, .inl (y 0, 1960, .inl z0))]) ++ [(q2, .inl (y 0, 150, .inl z0))]) ++ [(q3, .inl (y 0, 896, .inl z0))]) ++ [(q4, .inl (y 0, 49, .inl z0))])) rfl zin_8 rfl tyX8 tyX8_ok nmX8 15 (by decide) tw_4_111 rfl rfl rfl rfl (Nat.le_of_ble_eq_true rfl) dX8_init_41 rfl (fun H locs hH => ?_)
  refine lv_aload_n K.x K.b dX8_init_44 rfl (lv_at hl 0 rfl) ?_
  refine lv_bipush (v := 6) K.x K.b dX8_init_45 (by decide) ?_
  refine z_newI K hH 6 (by decide) (by decide) (by decide) (by decide) (by decide) dX8_init_47 (fun q5 H hH => ?_)
  refine z_putF K hi hH 0 (ws' := ((((([(o, .inr (7, [.ref q1, .int 0, .ref q2, .int 0, .long 0, .long 1, .int 0, .int 0, .int 0, .int 0, .int 0, .int 0, .int 0, .int 0, .ref q3, .ref q4, .ref q5]))] ++ [(q1, .inl (y 0, 1960, .inl z0))]) ++ [(q2, .inl (y 0, 150, .inl z0))]) ++ [(q3, .inl (y 0, 896, .inl z0))]) ++ [(q4, .inl (y 0, 49, .inl z0))]) ++ [(q5, .inl (y 0, 6, .inl z0))])) rfl zin_8 rfl tyX8 tyX8_ok nmX8 16 (by decide) tw_4_112 rfl rfl rfl rfl (Nat.le_of_ble_eq_true rfl) dX8_init_49 rfl (fun H locs hH => ?_)
  refine lv_aload_n K.x K.b dX8_init_52 rfl (lv_at hl 0 rfl) ?_
  refine z_get K hH 0 rfl zin_8 rfl 0 (by decide) tw_4_96 (v := .ref q1) rfl dX8_init_53 ?_
  refine lv_bipush (v := 6) K.x K.b dX8_init_56 (by decide) ?_
  refine lv_iconst (v := 0) K.x K.b dX8_init_58 (by decide) ?_
  refine z_iast K hH 1 (k := 6) (ws' := ((((([(o, .inr (7, [.ref q1, .int 0, .ref q2, .int 0, .long 0, .long 1, .int 0, .int 0, .int 0, .int 0, .int 0, .int 0, .int 0, .int 0, .ref q3, .ref q4, .ref q5]))] ++ [(q1, .inl (y 0, 1960, .inl (upd z0 6 0)))]) ++ [(q2, .inl (y 0, 150, .inl z0))]) ++ [(q3, .inl (y 0, 896, .inl z0))]) ++ [(q4, .inl (y 0, 49, .inl z0))]) ++ [(q5, .inl (y 0, 6, .inl z0))])) rfl (by decide) rfl dX8_init_59 rfl (fun H locs hH => ?_)
  refine W.widen (k := 5) (n := 3061) (by decide) (by decide) ?_
  exact z_retC K hr hH ⟨q1, q2, q3, q4, q5, rfl⟩ dX8_init_60
