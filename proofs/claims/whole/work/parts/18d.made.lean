theorem hd_X4_init : yX4_init.cls ≠ "java/lang/invoke/MethodHandle" ∧ yX4_init.cls ≠ "java/lang/invoke/VarHandle" ∧ (parseMethodDescriptor yX4_init.desc).map (fun d => d.parameters.length) = some 0 := by decide +kernel
set_option maxHeartbeats 4000000 in
set_option maxRecDepth 100000 in
theorem c_X4_init (l : Launch) (D : va_G) (y : Nat → ClassId) (o : Nat) : z_MC l yX4_init cX4_init 1 3 55 47 532 D y [.ref o] [(o, .inr (3, [.null, .null, .int 0, .int 0, .int 0, .int 0, .int 0]))] (fun w => ∃ (a : Nat → Nat) (v : Nat → Int32) (f : Nat → Nat → Int32) (n : DD) (P : Nat → DD) (b : Nat), w = ([(o, .inr (3, [.ref (a 0), .ref b, .int 0, .int 0, .int 0, .int 0, .int 0]))] ++ kC y a v f n P) ++ [(b, .inl (y 1, 0, .inl z0))]) := by
  refine z_enC (by decide) rfl (Nat.le_of_ble_eq_true rfl) ?_
  intro p e s m args below meth c A ls hr hi hN K hH hl
  have hl : lv_has ls 1 [(0, .ref o)] := hl
  refine lv_aload_n K.x K.b dX4_init_0 rfl (lv_at hl 0 rfl) ?_
  refine z_objI K hl.1 tw_1_159 (by decide) (Nat.le_of_ble_eq_true rfl) dX4_init_1 ?_
  refine lv_aload_n K.x K.b dX4_init_4 rfl (lv_at hl 0 rfl) ?_
  refine z_new K hH zin_0 tyX0 tyX0_ok tw_1_160 tw_1_25 tw_1_2 rfl (ci := 0) df_X0 (by decide) (by decide) dX4_init_5 (fun q1 H hH => ?_)
  refine lv_dup K.x K.b dX4_init_8 rfl ?_
  refine z_I (w0 := [(o, .inr (3, [.null, .null, .int 0, .int 0, .int 0, .int 0, .int 0]))]) K hN hH hl.1 (c_X0_init l D y q1) 0 tw_1_161 tw_1_27 tw_1_2 tw_1_28 rfl hd_X0_init ⟨by decide, by decide⟩ rfl (As := []) (rest := [.ref q1, .ref o]) rfl (Nat.le_of_ble_eq_true rfl) ⟨by decide, by decide⟩ dX4_init_9 (fun w9 H locs hB9 hH9 => ?_)
  obtain ⟨a2, v3, f4, n5, P6, ha9, hvh7, hnh7, rfl⟩ := hB9
  subst ha9
  have hH := hH9
  refine z_putF K hi hH 0 (ws' := ([(o, .inr (3, [.ref (a2 0), .null, .int 0, .int 0, .int 0, .int 0, .int 0]))] ++ kC y a2 v3 f4 n5 P6)) rfl zin_4 rfl tyX4 tyX4_ok nmX4 0 (by decide) tw_1_162 rfl rfl rfl rfl (Nat.le_of_ble_eq_true rfl) dX4_init_12 rfl (fun H locs hH => ?_)
  refine lv_aload_n K.x K.b dX4_init_15 rfl (lv_at hl 0 rfl) ?_
  refine lv_iconst (v := 0) K.x K.b dX4_init_16 (by decide) ?_
  refine z_newB K hH 0 (by decide) (by decide) (by decide) (by decide) (by decide) dX4_init_17 (fun q8 H hH => ?_)
  refine z_put K hH 0 (ws' := (([(o, .inr (3, [.ref (a2 0), .ref q8, .int 0, .int 0, .int 0, .int 0, .int 0]))] ++ kC y a2 v3 f4 n5 P6) ++ [(q8, .inl (y 1, 0, .inl z0))])) rfl zin_4 rfl tyX4 tyX4_ok nmX4 1 (by decide) tw_1_164 rfl rfl rfl (Nat.le_of_ble_eq_true rfl) dX4_init_19 rfl (fun H locs hH => ?_)
  refine W.widen (k := 47) (n := 532) (by decide) (by decide) ?_
  exact z_retC K hr hH ⟨a2, v3, f4, n5, P6, q8, rfl⟩ dX4_init_22
theorem z_H.perm {D : va_G} {A : Nat → Prop} {H0 H : Heap} {ws ws' : va_W} {locs : List Loc} (h : z_H D A H0 ws H locs) (hp : List.Perm ws' ws) : z_H D A H0 ws' H locs := by
  have hmem : ∀ q, q ∈ ws' → ∃ k : Nat, ws[k]? = some q := fun q hq => List.getElem?_of_mem (hp.mem_iff.mp hq)
  have hnd : (ws.map (fun q => q.1)).Nodup := by
    rw [List.nodup_iff_pairwise_ne, List.pairwise_map]
    rw [List.pairwise_iff_getElem]
    intro i j hi hj hij e
    have := h.2.1.1 i j ws[i] ws[j] (List.getElem?_eq_getElem hi) (List.getElem?_eq_getElem hj) e
    omega
  have hnd' : (ws'.map (fun q => q.1)).Nodup := (hp.map (fun q => q.1)).nodup_iff.mpr hnd
  refine ⟨fun k q hq => ?_, ⟨fun i j x z hi hj e => ?_, fun k q hq => ?_⟩, h.2.2⟩
  · obtain ⟨k', hk'⟩ := hmem q (List.mem_of_getElem? hq)
    exact h.1 k' q hk'
  · rw [List.nodup_iff_pairwise_ne, List.pairwise_map, List.pairwise_iff_getElem] at hnd'
    obtain ⟨hi1, hi2⟩ := List.getElem?_eq_some_iff.mp hi
    obtain ⟨hj1, hj2⟩ := List.getElem?_eq_some_iff.mp hj
    rcases Nat.lt_trichotomy i j with q | q | q
    · exact absurd (by rw [hi2, hj2]; exact e) (hnd' i j hi1 hj1 q)
    · exact q
    · exact absurd (by rw [hi2, hj2]; exact e.symm) (hnd' j i hj1 hi1 q)
  · obtain ⟨k', hk'⟩ := hmem q (List.mem_of_getElem? hq)
    exact h.2.1.2 k' q hk'
theorem z_H.left {D : va_G} {A : Nat → Prop} {H0 H : Heap} {ws w2 : va_W} {locs : List Loc} (h : z_H D A H0 (ws ++ w2) H locs) : z_H D A H0 ws H locs := by
  have up : ∀ (k : Nat) (q : Nat × va_E), ws[k]? = some q → (ws ++ w2)[k]? = some q := fun k q hq => by
    rw [List.getElem?_append_left (List.getElem?_eq_some_iff.mp hq).1]; exact hq
  exact ⟨fun k q hq => h.1 k q (up k q hq), ⟨fun i j x z hi hj e => h.2.1.1 i j x z (up i x hi) (up j z hj) e, fun k q hq => h.2.1.2 k q (up k q hq)⟩, h.2.2⟩
theorem z_mid {D : va_G} {A : Nat → Prop} {H0 H : Heap} {E O C : va_W} {locs : List Loc} (h : z_H D A H0 ((E ++ O) ++ C) H locs) : z_H D A H0 ((E ++ C) ++ O) H locs := by
  refine h.perm ?_
  rw [List.append_assoc, List.append_assoc]
  exact List.Perm.append_left _ List.perm_append_comm
theorem z_asc {D : va_G} {A : Nat → Prop} {H0 H : Heap} {E O C : va_W} {locs : List Loc} (h : z_H D A H0 ((E ++ O) ++ C) H locs) : z_H D A H0 (E ++ (O ++ C)) H locs := by
  rw [← List.append_assoc]; exact h
theorem z_rd {D : va_G} {A : Nat → Prop} {H0 H : Heap} {E O C K2 B : va_W} {locs : List Loc} (h : z_H D A H0 ((E ++ O) ++ ((C ++ K2) ++ B)) H locs) : z_H D A H0 ((E ++ C) ++ (O ++ K2)) H locs := by
  rw [← List.append_assoc] at h
  have h2 := h.left
  rw [← List.append_assoc] at h2
  have h3 : List.Perm (((E ++ C) ++ O) ++ K2) (((E ++ O) ++ C) ++ K2) := by
    refine List.Perm.append_right _ ?_
    rw [List.append_assoc, List.append_assoc]
    exact List.Perm.append_left _ List.perm_append_comm
  have h4 := h2.perm h3
  rw [List.append_assoc] at h4
  exact h4
theorem z_at2 {E O K2 : va_W} {q : Nat × va_E} (h : K2[0]? = some q) : (E ++ (O ++ K2))[E.length + O.length]? = some q := by
  rw [List.getElem?_append_right (Nat.le_add_right _ _), Nat.add_sub_cancel_left, List.getElem?_append_right (Nat.le_refl _), Nat.sub_self]
  exact h
/-- the system's cells: the object (o; numbers x: text's length, above, below, bads, nos, fulls), images, kept, text, roads (places ra, rows rf, numbers rv), reader (place, bytes, numbers), traveller, questions (places, values); then the countries: its own, the draft, the images -/
def kX (y : Nat → ClassId) (o : Nat) (x : Nat → Int32) (a : Nat → Nat) (v : Nat → Int32) (f : Nat → Nat → Int32) (n : DD) (P : Nat → DD) (oi ok ot : Nat) (kf tf : Nat → Int32) (ra : Nat → Nat) (rf : Nat → Nat → Int32) (rv : Nat → Int32) (od : Nat) (g : Value) (dv : Nat → Int32) (ad : Nat → Nat) (vd : Nat → Int32) (fd : Nat → Nat → Int32) (nd : DD) (Pd : Nat → DD) (tr : DD) (oq oz : Nat) (zf : Nat → Int32) (a0 : Nat → Nat) (v0 : Nat → Int32) (f0 : Nat → Nat → Int32) (n0 : DD) (P0 : Nat → DD) (a1 : Nat → Nat) (v1 : Nat → Int32) (f1 : Nat → Nat → Int32) (n1 : DD) (P1 : Nat → DD) : va_W :=
  [(o, .inr (6, [.ref (a 0), .ref oi, .ref ok, .ref ot, .int (x 0), .int (x 1), .int (x 2), .int (x 3), .int (x 4), .int (x 5), .ref (ra 0), .ref od, .ref tr.1, .ref oq])),
    (oi, .inl (y 3, 2, .inr (.inr (.inr (.inr (fun i => if i = 0 then some (a0 0) else some (a1 0))))))), (ok, .inl (y 2, 2, .inl kf)), (ot, .inl (y 1, 150, .inl tf)),
    (ra 0, .inr (4, [.ref (ra 1), .ref (ra 2), .ref (ra 3), .ref (ra 4), .int (rv 0), .int (rv 1)])), (ra 1, .inl (y 0, 49, .inl (rf 0))), (ra 2, .inl (y 0, 7, .inl (rf 1))), (ra 3, .inl (y 0, 448, .inl (rf 2))), (ra 4, .inl (y 0, 49, .inl (rf 3))),
    (od, .inr (3, [.ref (ad 0), g, .int (dv 0), .int (dv 1), .int (dv 2), .int (dv 3), .int (dv 4)])),
    dO tr, dA y tr, dB y tr, dC y tr, (oq, .inr (2, [.ref oz])), (oz, .inl (y 0, 6, .inl zf))] ++ (((kC y a v f n P ++ kC y ad vd fd nd Pd) ++ kC y a0 v0 f0 n0 P0) ++ kC y a1 v1 f1 n1 P1)
theorem hd_X7_init : yX7_init.cls ≠ "java/lang/invoke/MethodHandle" ∧ yX7_init.cls ≠ "java/lang/invoke/VarHandle" ∧ (parseMethodDescriptor yX7_init.desc).map (fun d => d.parameters.length) = some 0 := by decide +kernel
set_option maxHeartbeats 4000000 in
set_option maxRecDepth 100000 in
theorem c_X7_init (l : Launch) (D : va_G) (y : Nat → ClassId) (o : Nat) : z_MC l yX7_init cX7_init 2 4 75 200 2902 D y [.ref o] [(o, .inr (6, [.null, .null, .null, .null, .int 0, .int 0, .int 0, .int 0, .int 0, .int 0, .null, .null, .null, .null]))] (fun w => ∃ (x : Nat → Int32) (a : Nat → Nat) (v : Nat → Int32) (f : Nat → Nat → Int32) (n : DD) (P : Nat → DD) (oi ok ot : Nat) (kf tf : Nat → Int32) (ra : Nat → Nat) (rf : Nat → Nat → Int32) (rv : Nat → Int32) (od : Nat) (g : Value) (dv : Nat → Int32) (ad : Nat → Nat) (vd : Nat → Int32) (fd : Nat → Nat → Int32) (nd : DD) (Pd : Nat → DD) (tr : DD) (oq oz : Nat) (zf : Nat → Int32) (a0 : Nat → Nat) (v0 : Nat → Int32) (f0 : Nat → Nat → Int32) (n0 : DD) (P0 : Nat → DD) (a1 : Nat → Nat) (v1 : Nat → Int32) (f1 : Nat → Nat → Int32) (n1 : DD) (P1 : Nat → DD), v = (fun _ => 0) ∧ n.2.2.2.2.2.2.2 = (0, 0) ∧ x = (fun i => if i = 2 then 1 else 0) ∧ kf = z0 ∧ w = kX y o x a v f n P oi ok ot kf tf ra rf rv od g dv ad vd fd nd Pd tr oq oz zf a0 v0 f0 n0 P0 a1 v1 f1 n1 P1) := by
  refine z_enC (by decide) rfl (Nat.le_of_ble_eq_true rfl) ?_
  intro p e s m args below meth c A ls hr hi hN K hH hl
  have hl : lv_has ls 2 [(0, .ref o)] := hl
  refine lv_aload_n K.x K.b dX7_init_0 rfl (lv_at hl 0 rfl) ?_
  refine z_objI K hl.1 tw_1_21 (by decide) (Nat.le_of_ble_eq_true rfl) dX7_init_1 ?_
  refine lv_aload_n K.x K.b dX7_init_4 rfl (lv_at hl 0 rfl) ?_
  refine z_new K hH zin_0 tyX0 tyX0_ok tw_1_24 tw_1_25 tw_1_2 rfl (ci := 0) df_X0 (by decide) (by decide) dX7_init_5 (fun q1 H hH => ?_)
  refine lv_dup K.x K.b dX7_init_8 rfl ?_
  refine z_I (w0 := [(o, .inr (6, [.null, .null, .null, .null, .int 0, .int 0, .int 0, .int 0, .int 0, .int 0, .null, .null, .null, .null]))]) K hN hH hl.1 (c_X0_init l D y q1) 0 tw_1_26 tw_1_27 tw_1_2 tw_1_28 rfl hd_X0_init ⟨by decide, by decide⟩ rfl (As := []) (rest := [.ref q1, .ref o]) rfl (Nat.le_of_ble_eq_true rfl) ⟨by decide, by decide⟩ dX7_init_9 (fun w9 H locs hB9 hH9 => ?_)
  obtain ⟨a2, v3, f4, n5, P6, ha9, hvh7, hnh7, rfl⟩ := hB9
  subst ha9
  have hH := hH9
  have hH : z_H D A s.heap ([(o, .inr (6, [.null, .null, .null, .null, .int 0, .int 0, .int 0, .int 0, .int 0, .int 0, .null, .null, .null, .null]))] ++ kC y a2 v3 f4 n5 P6) H locs := hH
  refine z_putF K hi hH 0 (ws' := ([(o, .inr (6, [.ref (a2 0), .null, .null, .null, .int 0, .int 0, .int 0, .int 0, .int 0, .int 0, .null, .null, .null, .null]))] ++ kC y a2 v3 f4 n5 P6)) rfl zin_7 rfl tyX7 tyX7_ok nmX7 0 (by decide) tw_1_197 rfl rfl rfl rfl (Nat.le_of_ble_eq_true rfl) dX7_init_12 rfl (fun H locs hH => ?_)
  refine lv_aload_n K.x K.b dX7_init_15 rfl (lv_at hl 0 rfl) ?_
  refine lv_iconst (v := 2) K.x K.b dX7_init_16 (by decide) ?_
  refine z_newQ K hH 3 rfl tw_1_24 hN.2.1 2 (by decide) (by decide) (by decide) (by decide) (by decide) dX7_init_17 (fun q8 H hH => ?_)
  have hH := z_mid hH
  have hH : z_H D A s.heap ([(o, .inr (6, [.ref (a2 0), .null, .null, .null, .int 0, .int 0, .int 0, .int 0, .int 0, .int 0, .null, .null, .null, .null])), (q8, .inl (y 3, 2, .inr (.inr (.inr (.inr (fun _ => none))))))] ++ kC y a2 v3 f4 n5 P6) H _ := hH
  refine z_putF K hi hH 0 (ws' := ([(o, .inr (6, [.ref (a2 0), .ref q8, .null, .null, .int 0, .int 0, .int 0, .int 0, .int 0, .int 0, .null, .null, .null, .null])), (q8, .inl (y 3, 2, .inr (.inr (.inr (.inr (fun _ => none))))))] ++ kC y a2 v3 f4 n5 P6)) rfl zin_7 rfl tyX7 tyX7_ok nmX7 1 (by decide) tw_1_198 rfl rfl rfl rfl (Nat.le_of_ble_eq_true rfl) dX7_init_20 rfl (fun H locs hH => ?_)
  refine lv_aload_n K.x K.b dX7_init_23 rfl (lv_at hl 0 rfl) ?_
  refine lv_iconst (v := 2) K.x K.b dX7_init_24 (by decide) ?_
  refine z_newZ K hH 2 (by decide) (by decide) (by decide) (by decide) (by decide) dX7_init_25 (fun q9 H hH => ?_)
  have hH := z_mid hH
  have hH : z_H D A s.heap ([(o, .inr (6, [.ref (a2 0), .ref q8, .null, .null, .int 0, .int 0, .int 0, .int 0, .int 0, .int 0, .null, .null, .null, .null])), (q8, .inl (y 3, 2, .inr (.inr (.inr (.inr (fun _ => none)))))), (q9, .inl (y 2, 2, .inl z0))] ++ kC y a2 v3 f4 n5 P6) H _ := hH
  refine z_putF K hi hH 0 (ws' := ([(o, .inr (6, [.ref (a2 0), .ref q8, .ref q9, .null, .int 0, .int 0, .int 0, .int 0, .int 0, .int 0, .null, .null, .null, .null])), (q8, .inl (y 3, 2, .inr (.inr (.inr (.inr (fun _ => none)))))), (q9, .inl (y 2, 2, .inl z0))] ++ kC y a2 v3 f4 n5 P6)) rfl zin_7 rfl tyX7 tyX7_ok nmX7 2 (by decide) tw_1_199 rfl rfl rfl rfl (Nat.le_of_ble_eq_true rfl) dX7_init_27 rfl (fun H locs hH => ?_)
  refine lv_aload_n K.x K.b dX7_init_30 rfl (lv_at hl 0 rfl) ?_
  refine lv_sipush (v := 150) K.x K.b dX7_init_31 (by decide) ?_
  refine z_newB K hH 150 (by decide) (by decide) (by decide) (by decide) (by decide) dX7_init_34 (fun q10 H hH => ?_)
  have hH := z_mid hH
  have hH : z_H D A s.heap ([(o, .inr (6, [.ref (a2 0), .ref q8, .ref q9, .null, .int 0, .int 0, .int 0, .int 0, .int 0, .int 0, .null, .null, .null, .null])), (q8, .inl (y 3, 2, .inr (.inr (.inr (.inr (fun _ => none)))))), (q9, .inl (y 2, 2, .inl z0)), (q10, .inl (y 1, 150, .inl z0))] ++ kC y a2 v3 f4 n5 P6) H _ := hH
  refine z_putF K hi hH 0 (ws' := ([(o, .inr (6, [.ref (a2 0), .ref q8, .ref q9, .ref q10, .int 0, .int 0, .int 0, .int 0, .int 0, .int 0, .null, .null, .null, .null])), (q8, .inl (y 3, 2, .inr (.inr (.inr (.inr (fun _ => none)))))), (q9, .inl (y 2, 2, .inl z0)), (q10, .inl (y 1, 150, .inl z0))] ++ kC y a2 v3 f4 n5 P6)) rfl zin_7 rfl tyX7 tyX7_ok nmX7 3 (by decide) tw_1_200 rfl rfl rfl rfl (Nat.le_of_ble_eq_true rfl) dX7_init_36 rfl (fun H locs hH => ?_)
  refine lv_aload_n K.x K.b dX7_init_39 rfl (lv_at hl 0 rfl) ?_
  refine lv_iconst (v := 1) K.x K.b dX7_init_40 (by decide) ?_
  refine z_put K hH 0 (ws' := ([(o, .inr (6, [.ref (a2 0), .ref q8, .ref q9, .ref q10, .int 0, .int 0, .int 1, .int 0, .int 0, .int 0, .null, .null, .null, .null])), (q8, .inl (y 3, 2, .inr (.inr (.inr (.inr (fun _ => none)))))), (q9, .inl (y 2, 2, .inl z0)), (q10, .inl (y 1, 150, .inl z0))] ++ kC y a2 v3 f4 n5 P6)) rfl zin_7 rfl tyX7 tyX7_ok nmX7 6 (by decide) tw_1_203 rfl rfl rfl (Nat.le_of_ble_eq_true rfl) dX7_init_41 rfl (fun H locs hH => ?_)
  refine lv_aload_n K.x K.b dX7_init_44 rfl (lv_at hl 0 rfl) ?_
  refine z_new K hH zin_5 tyX5 tyX5_ok tw_1_127 tw_1_128 tw_1_5 rfl (ci := 4) df_X5 (by decide) (by decide) dX7_init_45 (fun q11 H hH => ?_)
  refine lv_dup K.x K.b dX7_init_48 rfl ?_
  refine z_IN (w0 := ([(o, .inr (6, [.ref (a2 0), .ref q8, .ref q9, .ref q10, .int 0, .int 0, .int 1, .int 0, .int 0, .int 0, .null, .null, .null, .null])), (q8, .inl (y 3, 2, .inr (.inr (.inr (.inr (fun _ => none)))))), (q9, .inl (y 2, 2, .inl z0)), (q10, .inl (y 1, 150, .inl z0))] ++ kC y a2 v3 f4 n5 P6)) K hN hH hl.1 (c_X5_init l D y q11) 0 hN.2.2.2.1 tw_1_130 tw_1_5 tw_1_131 rfl hd_X5_init ⟨by decide, by decide⟩ rfl (As := []) (rest := [.ref q11, .ref o]) rfl (Nat.le_of_ble_eq_true rfl) ⟨by decide, by decide⟩ dX7_init_49 (fun w9 H locs hB9 hH9 => ?_)
  obtain ⟨a12, a13, a14, a15, rfl⟩ := hB9
  have hH := hH9
  have hH := z_mid hH
  have hH : z_H D A s.heap ([(o, .inr (6, [.ref (a2 0), .ref q8, .ref q9, .ref q10, .int 0, .int 0, .int 1, .int 0, .int 0, .int 0, .null, .null, .null, .null])), (q8, .inl (y 3, 2, .inr (.inr (.inr (.inr (fun _ => none)))))), (q9, .inl (y 2, 2, .inl z0)), (q10, .inl (y 1, 150, .inl z0)), (q11, .inr (4, [.ref a12, .ref a13, .ref a14, .ref a15, .int 0, .int 0])), (a12, .inl (y 0, 49, .inl z0)), (a13, .inl (y 0, 7, .inl z0)), (a14, .inl (y 0, 448, .inl z0)), (a15, .inl (y 0, 49, .inl z0))] ++ kC y a2 v3 f4 n5 P6) H locs := hH
  refine z_putF K hi hH 0 (ws' := ([(o, .inr (6, [.ref (a2 0), .ref q8, .ref q9, .ref q10, .int 0, .int 0, .int 1, .int 0, .int 0, .int 0, .ref q11, .null, .null, .null])), (q8, .inl (y 3, 2, .inr (.inr (.inr (.inr (fun _ => none)))))), (q9, .inl (y 2, 2, .inl z0)), (q10, .inl (y 1, 150, .inl z0)), (q11, .inr (4, [.ref a12, .ref a13, .ref a14, .ref a15, .int 0, .int 0])), (a12, .inl (y 0, 49, .inl z0)), (a13, .inl (y 0, 7, .inl z0)), (a14, .inl (y 0, 448, .inl z0)), (a15, .inl (y 0, 49, .inl z0))] ++ kC y a2 v3 f4 n5 P6)) rfl zin_7 rfl tyX7 tyX7_ok nmX7 10 (by decide) tw_1_207 rfl rfl rfl rfl (Nat.le_of_ble_eq_true rfl) dX7_init_52 rfl (fun H locs hH => ?_)
  refine lv_aload_n K.x K.b dX7_init_55 rfl (lv_at hl 0 rfl) ?_
  refine z_new K hH zin_4 tyX4 tyX4_ok tw_1_154 tw_1_155 tw_1_6 rfl (ci := 3) df_X4 (by decide) (by decide) dX7_init_56 (fun q16 H hH => ?_)
  refine lv_dup K.x K.b dX7_init_59 rfl ?_
  refine z_IN (w0 := ([(o, .inr (6, [.ref (a2 0), .ref q8, .ref q9, .ref q10, .int 0, .int 0, .int 1, .int 0, .int 0, .int 0, .ref q11, .null, .null, .null])), (q8, .inl (y 3, 2, .inr (.inr (.inr (.inr (fun _ => none)))))), (q9, .inl (y 2, 2, .inl z0)), (q10, .inl (y 1, 150, .inl z0)), (q11, .inr (4, [.ref a12, .ref a13, .ref a14, .ref a15, .int 0, .int 0])), (a12, .inl (y 0, 49, .inl z0)), (a13, .inl (y 0, 7, .inl z0)), (a14, .inl (y 0, 448, .inl z0)), (a15, .inl (y 0, 49, .inl z0))] ++ kC y a2 v3 f4 n5 P6)) K hN hH hl.1 (c_X4_init l D y q16) 0 hN.2.2.2.2.1 tw_1_157 tw_1_6 tw_1_158 rfl hd_X4_init ⟨by decide, by decide⟩ rfl (As := []) (rest := [.ref q16, .ref o]) rfl (Nat.le_of_ble_eq_true rfl) ⟨by decide, by decide⟩ dX7_init_60 (fun w9 H locs hB9 hH9 => ?_)
  obtain ⟨a17, v18, f19, n20, P21, b22, rfl⟩ := hB9
  have hH := hH9
  have hH := z_rd hH
  have hH : z_H D A s.heap ([(o, .inr (6, [.ref (a2 0), .ref q8, .ref q9, .ref q10, .int 0, .int 0, .int 1, .int 0, .int 0, .int 0, .ref q11, .null, .null, .null])), (q8, .inl (y 3, 2, .inr (.inr (.inr (.inr (fun _ => none)))))), (q9, .inl (y 2, 2, .inl z0)), (q10, .inl (y 1, 150, .inl z0)), (q11, .inr (4, [.ref a12, .ref a13, .ref a14, .ref a15, .int 0, .int 0])), (a12, .inl (y 0, 49, .inl z0)), (a13, .inl (y 0, 7, .inl z0)), (a14, .inl (y 0, 448, .inl z0)), (a15, .inl (y 0, 49, .inl z0)), (q16, .inr (3, [.ref (a17 0), .ref b22, .int 0, .int 0, .int 0, .int 0, .int 0]))] ++ (kC y a2 v3 f4 n5 P6 ++ kC y a17 v18 f19 n20 P21)) H locs := hH
  refine z_putF K hi hH 0 (ws' := ([(o, .inr (6, [.ref (a2 0), .ref q8, .ref q9, .ref q10, .int 0, .int 0, .int 1, .int 0, .int 0, .int 0, .ref q11, .ref q16, .null, .null])), (q8, .inl (y 3, 2, .inr (.inr (.inr (.inr (fun _ => none)))))), (q9, .inl (y 2, 2, .inl z0)), (q10, .inl (y 1, 150, .inl z0)), (q11, .inr (4, [.ref a12, .ref a13, .ref a14, .ref a15, .int 0, .int 0])), (a12, .inl (y 0, 49, .inl z0)), (a13, .inl (y 0, 7, .inl z0)), (a14, .inl (y 0, 448, .inl z0)), (a15, .inl (y 0, 49, .inl z0)), (q16, .inr (3, [.ref (a17 0), .ref b22, .int 0, .int 0, .int 0, .int 0, .int 0]))] ++ (kC y a2 v3 f4 n5 P6 ++ kC y a17 v18 f19 n20 P21))) rfl zin_7 rfl tyX7 tyX7_ok nmX7 11 (by decide) tw_1_208 rfl rfl rfl rfl (Nat.le_of_ble_eq_true rfl) dX7_init_63 rfl (fun H locs hH => ?_)
  refine lv_aload_n K.x K.b dX7_init_66 rfl (lv_at hl 0 rfl) ?_
  refine z_new K hH zin_1 tyX1 tyX1_ok tw_1_185 tw_1_31 tw_1_3 rfl (ci := 1) df_X1 (by decide) (by decide) dX7_init_67 (fun q23 H hH => ?_)
  refine lv_dup K.x K.b dX7_init_70 rfl ?_
  refine z_IN (w0 := ([(o, .inr (6, [.ref (a2 0), .ref q8, .ref q9, .ref q10, .int 0, .int 0, .int 1, .int 0, .int 0, .int 0, .ref q11, .ref q16, .null, .null])), (q8, .inl (y 3, 2, .inr (.inr (.inr (.inr (fun _ => none)))))), (q9, .inl (y 2, 2, .inl z0)), (q10, .inl (y 1, 150, .inl z0)), (q11, .inr (4, [.ref a12, .ref a13, .ref a14, .ref a15, .int 0, .int 0])), (a12, .inl (y 0, 49, .inl z0)), (a13, .inl (y 0, 7, .inl z0)), (a14, .inl (y 0, 448, .inl z0)), (a15, .inl (y 0, 49, .inl z0)), (q16, .inr (3, [.ref (a17 0), .ref b22, .int 0, .int 0, .int 0, .int 0, .int 0]))] ++ (kC y a2 v3 f4 n5 P6 ++ kC y a17 v18 f19 n20 P21))) K hN hH hl.1 (c_X1_init l D y q23) 0 hN.2.2.2.2.2.1 tw_1_33 tw_1_3 tw_1_34 rfl hd_X1_init ⟨by decide, by decide⟩ rfl (As := []) (rest := [.ref q23, .ref o]) rfl (Nat.le_of_ble_eq_true rfl) ⟨by decide, by decide⟩ dX7_init_71 (fun w9 H locs hB9 hH9 => ?_)
  obtain ⟨a24, a25, a26, rfl⟩ := hB9
  have hH := hH9
  have hH := z_mid hH
  have hH : z_H D A s.heap ([(o, .inr (6, [.ref (a2 0), .ref q8, .ref q9, .ref q10, .int 0, .int 0, .int 1, .int 0, .int 0, .int 0, .ref q11, .ref q16, .null, .null])), (q8, .inl (y 3, 2, .inr (.inr (.inr (.inr (fun _ => none)))))), (q9, .inl (y 2, 2, .inl z0)), (q10, .inl (y 1, 150, .inl z0)), (q11, .inr (4, [.ref a12, .ref a13, .ref a14, .ref a15, .int 0, .int 0])), (a12, .inl (y 0, 49, .inl z0)), (a13, .inl (y 0, 7, .inl z0)), (a14, .inl (y 0, 448, .inl z0)), (a15, .inl (y 0, 49, .inl z0)), (q16, .inr (3, [.ref (a17 0), .ref b22, .int 0, .int 0, .int 0, .int 0, .int 0])), dO (q23, a24, a25, a26, z0, z0, z0, 0, 0), dA y (q23, a24, a25, a26, z0, z0, z0, 0, 0), dB y (q23, a24, a25, a26, z0, z0, z0, 0, 0), dC y (q23, a24, a25, a26, z0, z0, z0, 0, 0)] ++ (kC y a2 v3 f4 n5 P6 ++ kC y a17 v18 f19 n20 P21)) H locs := hH
  refine z_putF K hi hH 0 (ws' := ([(o, .inr (6, [.ref (a2 0), .ref q8, .ref q9, .ref q10, .int 0, .int 0, .int 1, .int 0, .int 0, .int 0, .ref q11, .ref q16, .ref q23, .null])), (q8, .inl (y 3, 2, .inr (.inr (.inr (.inr (fun _ => none)))))), (q9, .inl (y 2, 2, .inl z0)), (q10, .inl (y 1, 150, .inl z0)), (q11, .inr (4, [.ref a12, .ref a13, .ref a14, .ref a15, .int 0, .int 0])), (a12, .inl (y 0, 49, .inl z0)), (a13, .inl (y 0, 7, .inl z0)), (a14, .inl (y 0, 448, .inl z0)), (a15, .inl (y 0, 49, .inl z0)), (q16, .inr (3, [.ref (a17 0), .ref b22, .int 0, .int 0, .int 0, .int 0, .int 0])), dO (q23, a24, a25, a26, z0, z0, z0, 0, 0), dA y (q23, a24, a25, a26, z0, z0, z0, 0, 0), dB y (q23, a24, a25, a26, z0, z0, z0, 0, 0), dC y (q23, a24, a25, a26, z0, z0, z0, 0, 0)] ++ (kC y a2 v3 f4 n5 P6 ++ kC y a17 v18 f19 n20 P21))) rfl zin_7 rfl tyX7 tyX7_ok nmX7 12 (by decide) tw_1_209 rfl rfl rfl rfl (Nat.le_of_ble_eq_true rfl) dX7_init_74 rfl (fun H locs hH => ?_)
  refine lv_aload_n K.x K.b dX7_init_77 rfl (lv_at hl 0 rfl) ?_
  refine z_new K hH zin_3 tyX3 tyX3_ok tw_1_187 tw_1_188 tw_1_7 rfl (ci := 2) df_X3 (by decide) (by decide) dX7_init_78 (fun q27 H hH => ?_)
  refine lv_dup K.x K.b dX7_init_81 rfl ?_
  refine z_IN (w0 := ([(o, .inr (6, [.ref (a2 0), .ref q8, .ref q9, .ref q10, .int 0, .int 0, .int 1, .int 0, .int 0, .int 0, .ref q11, .ref q16, .ref q23, .null])), (q8, .inl (y 3, 2, .inr (.inr (.inr (.inr (fun _ => none)))))), (q9, .inl (y 2, 2, .inl z0)), (q10, .inl (y 1, 150, .inl z0)), (q11, .inr (4, [.ref a12, .ref a13, .ref a14, .ref a15, .int 0, .int 0])), (a12, .inl (y 0, 49, .inl z0)), (a13, .inl (y 0, 7, .inl z0)), (a14, .inl (y 0, 448, .inl z0)), (a15, .inl (y 0, 49, .inl z0)), (q16, .inr (3, [.ref (a17 0), .ref b22, .int 0, .int 0, .int 0, .int 0, .int 0])), dO (q23, a24, a25, a26, z0, z0, z0, 0, 0), dA y (q23, a24, a25, a26, z0, z0, z0, 0, 0), dB y (q23, a24, a25, a26, z0, z0, z0, 0, 0), dC y (q23, a24, a25, a26, z0, z0, z0, 0, 0)] ++ (kC y a2 v3 f4 n5 P6 ++ kC y a17 v18 f19 n20 P21))) K hN hH hl.1 (c_X3_init l D y q27) 0 hN.2.2.2.2.2.2 tw_1_190 tw_1_7 tw_1_191 rfl hd_X3_init ⟨by decide, by decide⟩ rfl (As := []) (rest := [.ref q27, .ref o]) rfl (Nat.le_of_ble_eq_true rfl) ⟨by decide, by decide⟩ dX7_init_82 (fun w9 H locs hB9 hH9 => ?_)
  obtain ⟨a28, rfl⟩ := hB9
  have hH := hH9
  have hH := z_mid hH
  have hH : z_H D A s.heap ([(o, .inr (6, [.ref (a2 0), .ref q8, .ref q9, .ref q10, .int 0, .int 0, .int 1, .int 0, .int 0, .int 0, .ref q11, .ref q16, .ref q23, .null])), (q8, .inl (y 3, 2, .inr (.inr (.inr (.inr (fun _ => none)))))), (q9, .inl (y 2, 2, .inl z0)), (q10, .inl (y 1, 150, .inl z0)), (q11, .inr (4, [.ref a12, .ref a13, .ref a14, .ref a15, .int 0, .int 0])), (a12, .inl (y 0, 49, .inl z0)), (a13, .inl (y 0, 7, .inl z0)), (a14, .inl (y 0, 448, .inl z0)), (a15, .inl (y 0, 49, .inl z0)), (q16, .inr (3, [.ref (a17 0), .ref b22, .int 0, .int 0, .int 0, .int 0, .int 0])), dO (q23, a24, a25, a26, z0, z0, z0, 0, 0), dA y (q23, a24, a25, a26, z0, z0, z0, 0, 0), dB y (q23, a24, a25, a26, z0, z0, z0, 0, 0), dC y (q23, a24, a25, a26, z0, z0, z0, 0, 0), (q27, .inr (2, [.ref a28])), (a28, .inl (y 0, 6, .inl z0))] ++ (kC y a2 v3 f4 n5 P6 ++ kC y a17 v18 f19 n20 P21)) H locs := hH
  refine z_putF K hi hH 0 (ws' := ([(o, .inr (6, [.ref (a2 0), .ref q8, .ref q9, .ref q10, .int 0, .int 0, .int 1, .int 0, .int 0, .int 0, .ref q11, .ref q16, .ref q23, .ref q27])), (q8, .inl (y 3, 2, .inr (.inr (.inr (.inr (fun _ => none)))))), (q9, .inl (y 2, 2, .inl z0)), (q10, .inl (y 1, 150, .inl z0)), (q11, .inr (4, [.ref a12, .ref a13, .ref a14, .ref a15, .int 0, .int 0])), (a12, .inl (y 0, 49, .inl z0)), (a13, .inl (y 0, 7, .inl z0)), (a14, .inl (y 0, 448, .inl z0)), (a15, .inl (y 0, 49, .inl z0)), (q16, .inr (3, [.ref (a17 0), .ref b22, .int 0, .int 0, .int 0, .int 0, .int 0])), dO (q23, a24, a25, a26, z0, z0, z0, 0, 0), dA y (q23, a24, a25, a26, z0, z0, z0, 0, 0), dB y (q23, a24, a25, a26, z0, z0, z0, 0, 0), dC y (q23, a24, a25, a26, z0, z0, z0, 0, 0), (q27, .inr (2, [.ref a28])), (a28, .inl (y 0, 6, .inl z0))] ++ (kC y a2 v3 f4 n5 P6 ++ kC y a17 v18 f19 n20 P21))) rfl zin_7 rfl tyX7 tyX7_ok nmX7 13 (by decide) tw_1_210 rfl rfl rfl rfl (Nat.le_of_ble_eq_true rfl) dX7_init_85 rfl (fun H locs hH => ?_)
  refine lv_iconst (v := 0) K.x K.b dX7_init_88 (by decide) ?_
  refine lv_istore_n (lv' := [(1, .int 0), (0, .ref o)]) K.x K.b dX7_init_89 rfl hl (by decide) rfl (fun ls hl => ?_)
  refine lv_iload_n K.x K.b dX7_init_90 rfl (lv_at hl 0 rfl) ?_
  refine lv_iconst (v := 2) K.x K.b dX7_init_91 (by decide) ?_
  refine lv_icmp_ge (tgt := 114) K.x K.b dX7_init_92 (by decide) (fun c9 => absurd c9 (by decide)) (fun _ => ?_)
  refine lv_aload_n K.x K.b dX7_init_95 rfl (lv_at hl 1 rfl) ?_
  refine z_get K hH 0 rfl zin_7 rfl 1 (by decide) tw_1_198 (v := .ref q8) rfl dX7_init_96 ?_
  refine lv_iload_n K.x K.b dX7_init_99 rfl (lv_at hl 0 rfl) ?_
  refine z_new K hH zin_0 tyX0 tyX0_ok tw_1_24 tw_1_25 tw_1_2 rfl (ci := 0) df_X0 (by decide) (by decide) dX7_init_100 (fun q29 H hH => ?_)
  refine lv_dup K.x K.b dX7_init_103 rfl ?_
  refine z_I (w0 := ([(o, .inr (6, [.ref (a2 0), .ref q8, .ref q9, .ref q10, .int 0, .int 0, .int 1, .int 0, .int 0, .int 0, .ref q11, .ref q16, .ref q23, .ref q27])), (q8, .inl (y 3, 2, .inr (.inr (.inr (.inr (fun _ => none)))))), (q9, .inl (y 2, 2, .inl z0)), (q10, .inl (y 1, 150, .inl z0)), (q11, .inr (4, [.ref a12, .ref a13, .ref a14, .ref a15, .int 0, .int 0])), (a12, .inl (y 0, 49, .inl z0)), (a13, .inl (y 0, 7, .inl z0)), (a14, .inl (y 0, 448, .inl z0)), (a15, .inl (y 0, 49, .inl z0)), (q16, .inr (3, [.ref (a17 0), .ref b22, .int 0, .int 0, .int 0, .int 0, .int 0])), dO (q23, a24, a25, a26, z0, z0, z0, 0, 0), dA y (q23, a24, a25, a26, z0, z0, z0, 0, 0), dB y (q23, a24, a25, a26, z0, z0, z0, 0, 0), dC y (q23, a24, a25, a26, z0, z0, z0, 0, 0), (q27, .inr (2, [.ref a28])), (a28, .inl (y 0, 6, .inl z0))] ++ (kC y a2 v3 f4 n5 P6 ++ kC y a17 v18 f19 n20 P21))) K hN hH hl.1 (c_X0_init l D y q29) 0 tw_1_26 tw_1_27 tw_1_2 tw_1_28 rfl hd_X0_init ⟨by decide, by decide⟩ rfl (As := []) (rest := [.ref q29, .int 0, .ref q8]) rfl (Nat.le_of_ble_eq_true rfl) ⟨by decide, by decide⟩ dX7_init_104 (fun w9 H locs hB9 hH9 => ?_)
  obtain ⟨a30, v31, f32, n33, P34, ha9, hvh35, hnh35, rfl⟩ := hB9
  subst ha9
  have hH := hH9
  have hH := z_asc hH
  have hH : z_H D A s.heap ([(o, .inr (6, [.ref (a2 0), .ref q8, .ref q9, .ref q10, .int 0, .int 0, .int 1, .int 0, .int 0, .int 0, .ref q11, .ref q16, .ref q23, .ref q27])), (q8, .inl (y 3, 2, .inr (.inr (.inr (.inr (fun _ => none)))))), (q9, .inl (y 2, 2, .inl z0)), (q10, .inl (y 1, 150, .inl z0)), (q11, .inr (4, [.ref a12, .ref a13, .ref a14, .ref a15, .int 0, .int 0])), (a12, .inl (y 0, 49, .inl z0)), (a13, .inl (y 0, 7, .inl z0)), (a14, .inl (y 0, 448, .inl z0)), (a15, .inl (y 0, 49, .inl z0)), (q16, .inr (3, [.ref (a17 0), .ref b22, .int 0, .int 0, .int 0, .int 0, .int 0])), dO (q23, a24, a25, a26, z0, z0, z0, 0, 0), dA y (q23, a24, a25, a26, z0, z0, z0, 0, 0), dB y (q23, a24, a25, a26, z0, z0, z0, 0, 0), dC y (q23, a24, a25, a26, z0, z0, z0, 0, 0), (q27, .inr (2, [.ref a28])), (a28, .inl (y 0, 6, .inl z0))] ++ ((kC y a2 v3 f4 n5 P6 ++ kC y a17 v18 f19 n20 P21) ++ kC y a30 v31 f32 n33 P34)) H locs := hH
  refine z_aast K hH 1 3 (([(o, .inr (6, [.ref (a2 0), .ref q8, .ref q9, .ref q10, .int 0, .int 0, .int 1, .int 0, .int 0, .int 0, .ref q11, .ref q16, .ref q23, .ref q27])), (q8, .inl (y 3, 2, .inr (.inr (.inr (.inr (fun _ => none)))))), (q9, .inl (y 2, 2, .inl z0)), (q10, .inl (y 1, 150, .inl z0)), (q11, .inr (4, [.ref a12, .ref a13, .ref a14, .ref a15, .int 0, .int 0])), (a12, .inl (y 0, 49, .inl z0)), (a13, .inl (y 0, 7, .inl z0)), (a14, .inl (y 0, 448, .inl z0)), (a15, .inl (y 0, 49, .inl z0)), (q16, .inr (3, [.ref (a17 0), .ref b22, .int 0, .int 0, .int 0, .int 0, .int 0])), dO (q23, a24, a25, a26, z0, z0, z0, 0, 0), dA y (q23, a24, a25, a26, z0, z0, z0, 0, 0), dB y (q23, a24, a25, a26, z0, z0, z0, 0, 0), dC y (q23, a24, a25, a26, z0, z0, z0, 0, 0), (q27, .inr (2, [.ref a28])), (a28, .inl (y 0, 6, .inl z0))]).length + ((kC y a2 v3 f4 n5 P6 ++ kC y a17 v18 f19 n20 P21)).length) (ws' := ([(o, .inr (6, [.ref (a2 0), .ref q8, .ref q9, .ref q10, .int 0, .int 0, .int 1, .int 0, .int 0, .int 0, .ref q11, .ref q16, .ref q23, .ref q27])), (q8, .inl (y 3, 2, .inr (.inr (.inr (.inr (va_up (fun _ => none) 0 (some (a30 0)))))))), (q9, .inl (y 2, 2, .inl z0)), (q10, .inl (y 1, 150, .inl z0)), (q11, .inr (4, [.ref a12, .ref a13, .ref a14, .ref a15, .int 0, .int 0])), (a12, .inl (y 0, 49, .inl z0)), (a13, .inl (y 0, 7, .inl z0)), (a14, .inl (y 0, 448, .inl z0)), (a15, .inl (y 0, 49, .inl z0)), (q16, .inr (3, [.ref (a17 0), .ref b22, .int 0, .int 0, .int 0, .int 0, .int 0])), dO (q23, a24, a25, a26, z0, z0, z0, 0, 0), dA y (q23, a24, a25, a26, z0, z0, z0, 0, 0), dB y (q23, a24, a25, a26, z0, z0, z0, 0, 0), dC y (q23, a24, a25, a26, z0, z0, z0, 0, 0), (q27, .inr (2, [.ref a28])), (a28, .inl (y 0, 6, .inl z0))] ++ ((kC y a2 v3 f4 n5 P6 ++ kC y a17 v18 f19 n20 P21) ++ kC y a30 v31 f32 n33 P34))) (k := 0) rfl (z_at2 rfl) rfl rfl (by decide) rfl dX7_init_107 rfl (fun H locs hH => ?_)
  refine lv_iinc (v := 1) (lv' := [(1, .int 1), (0, .ref o)]) K.x K.b dX7_init_108 hl (k := 0) rfl (by decide) (by decide) rfl (fun ls hl => ?_)
  refine lv_goto (tgt := 90) K.x K.b dX7_init_111 (by decide) ?_
  refine lv_iload_n K.x K.b dX7_init_90 rfl (lv_at hl 0 rfl) ?_
  refine lv_iconst (v := 2) K.x K.b dX7_init_91 (by decide) ?_
  refine lv_icmp_ge (tgt := 114) K.x K.b dX7_init_92 (by decide) (fun c9 => absurd c9 (by decide)) (fun _ => ?_)
  refine lv_aload_n K.x K.b dX7_init_95 rfl (lv_at hl 1 rfl) ?_
  refine z_get K hH 0 rfl zin_7 rfl 1 (by decide) tw_1_198 (v := .ref q8) rfl dX7_init_96 ?_
  refine lv_iload_n K.x K.b dX7_init_99 rfl (lv_at hl 0 rfl) ?_
  refine z_new K hH zin_0 tyX0 tyX0_ok tw_1_24 tw_1_25 tw_1_2 rfl (ci := 0) df_X0 (by decide) (by decide) dX7_init_100 (fun q36 H hH => ?_)
  refine lv_dup K.x K.b dX7_init_103 rfl ?_
  refine z_I (w0 := ([(o, .inr (6, [.ref (a2 0), .ref q8, .ref q9, .ref q10, .int 0, .int 0, .int 1, .int 0, .int 0, .int 0, .ref q11, .ref q16, .ref q23, .ref q27])), (q8, .inl (y 3, 2, .inr (.inr (.inr (.inr (va_up (fun _ => none) 0 (some (a30 0)))))))), (q9, .inl (y 2, 2, .inl z0)), (q10, .inl (y 1, 150, .inl z0)), (q11, .inr (4, [.ref a12, .ref a13, .ref a14, .ref a15, .int 0, .int 0])), (a12, .inl (y 0, 49, .inl z0)), (a13, .inl (y 0, 7, .inl z0)), (a14, .inl (y 0, 448, .inl z0)), (a15, .inl (y 0, 49, .inl z0)), (q16, .inr (3, [.ref (a17 0), .ref b22, .int 0, .int 0, .int 0, .int 0, .int 0])), dO (q23, a24, a25, a26, z0, z0, z0, 0, 0), dA y (q23, a24, a25, a26, z0, z0, z0, 0, 0), dB y (q23, a24, a25, a26, z0, z0, z0, 0, 0), dC y (q23, a24, a25, a26, z0, z0, z0, 0, 0), (q27, .inr (2, [.ref a28])), (a28, .inl (y 0, 6, .inl z0))] ++ ((kC y a2 v3 f4 n5 P6 ++ kC y a17 v18 f19 n20 P21) ++ kC y a30 v31 f32 n33 P34))) K hN hH hl.1 (c_X0_init l D y q36) 0 tw_1_26 tw_1_27 tw_1_2 tw_1_28 rfl hd_X0_init ⟨by decide, by decide⟩ rfl (As := []) (rest := [.ref q36, .int 1, .ref q8]) rfl (Nat.le_of_ble_eq_true rfl) ⟨by decide, by decide⟩ dX7_init_104 (fun w9 H locs hB9 hH9 => ?_)
  obtain ⟨a37, v38, f39, n40, P41, ha9, hvh42, hnh42, rfl⟩ := hB9
  subst ha9
  have hH := hH9
  have hH := z_asc hH
  have hH : z_H D A s.heap ([(o, .inr (6, [.ref (a2 0), .ref q8, .ref q9, .ref q10, .int 0, .int 0, .int 1, .int 0, .int 0, .int 0, .ref q11, .ref q16, .ref q23, .ref q27])), (q8, .inl (y 3, 2, .inr (.inr (.inr (.inr (va_up (fun _ => none) 0 (some (a30 0)))))))), (q9, .inl (y 2, 2, .inl z0)), (q10, .inl (y 1, 150, .inl z0)), (q11, .inr (4, [.ref a12, .ref a13, .ref a14, .ref a15, .int 0, .int 0])), (a12, .inl (y 0, 49, .inl z0)), (a13, .inl (y 0, 7, .inl z0)), (a14, .inl (y 0, 448, .inl z0)), (a15, .inl (y 0, 49, .inl z0)), (q16, .inr (3, [.ref (a17 0), .ref b22, .int 0, .int 0, .int 0, .int 0, .int 0])), dO (q23, a24, a25, a26, z0, z0, z0, 0, 0), dA y (q23, a24, a25, a26, z0, z0, z0, 0, 0), dB y (q23, a24, a25, a26, z0, z0, z0, 0, 0), dC y (q23, a24, a25, a26, z0, z0, z0, 0, 0), (q27, .inr (2, [.ref a28])), (a28, .inl (y 0, 6, .inl z0))] ++ (((kC y a2 v3 f4 n5 P6 ++ kC y a17 v18 f19 n20 P21) ++ kC y a30 v31 f32 n33 P34) ++ kC y a37 v38 f39 n40 P41)) H locs := hH
  refine z_aast K hH 1 3 (([(o, .inr (6, [.ref (a2 0), .ref q8, .ref q9, .ref q10, .int 0, .int 0, .int 1, .int 0, .int 0, .int 0, .ref q11, .ref q16, .ref q23, .ref q27])), (q8, .inl (y 3, 2, .inr (.inr (.inr (.inr (va_up (fun _ => none) 0 (some (a30 0)))))))), (q9, .inl (y 2, 2, .inl z0)), (q10, .inl (y 1, 150, .inl z0)), (q11, .inr (4, [.ref a12, .ref a13, .ref a14, .ref a15, .int 0, .int 0])), (a12, .inl (y 0, 49, .inl z0)), (a13, .inl (y 0, 7, .inl z0)), (a14, .inl (y 0, 448, .inl z0)), (a15, .inl (y 0, 49, .inl z0)), (q16, .inr (3, [.ref (a17 0), .ref b22, .int 0, .int 0, .int 0, .int 0, .int 0])), dO (q23, a24, a25, a26, z0, z0, z0, 0, 0), dA y (q23, a24, a25, a26, z0, z0, z0, 0, 0), dB y (q23, a24, a25, a26, z0, z0, z0, 0, 0), dC y (q23, a24, a25, a26, z0, z0, z0, 0, 0), (q27, .inr (2, [.ref a28])), (a28, .inl (y 0, 6, .inl z0))]).length + (((kC y a2 v3 f4 n5 P6 ++ kC y a17 v18 f19 n20 P21) ++ kC y a30 v31 f32 n33 P34)).length) (ws' := ([(o, .inr (6, [.ref (a2 0), .ref q8, .ref q9, .ref q10, .int 0, .int 0, .int 1, .int 0, .int 0, .int 0, .ref q11, .ref q16, .ref q23, .ref q27])), (q8, .inl (y 3, 2, .inr (.inr (.inr (.inr (va_up (va_up (fun _ => none) 0 (some (a30 0))) 1 (some (a37 0)))))))), (q9, .inl (y 2, 2, .inl z0)), (q10, .inl (y 1, 150, .inl z0)), (q11, .inr (4, [.ref a12, .ref a13, .ref a14, .ref a15, .int 0, .int 0])), (a12, .inl (y 0, 49, .inl z0)), (a13, .inl (y 0, 7, .inl z0)), (a14, .inl (y 0, 448, .inl z0)), (a15, .inl (y 0, 49, .inl z0)), (q16, .inr (3, [.ref (a17 0), .ref b22, .int 0, .int 0, .int 0, .int 0, .int 0])), dO (q23, a24, a25, a26, z0, z0, z0, 0, 0), dA y (q23, a24, a25, a26, z0, z0, z0, 0, 0), dB y (q23, a24, a25, a26, z0, z0, z0, 0, 0), dC y (q23, a24, a25, a26, z0, z0, z0, 0, 0), (q27, .inr (2, [.ref a28])), (a28, .inl (y 0, 6, .inl z0))] ++ (((kC y a2 v3 f4 n5 P6 ++ kC y a17 v18 f19 n20 P21) ++ kC y a30 v31 f32 n33 P34) ++ kC y a37 v38 f39 n40 P41))) (k := 1) rfl (z_at2 rfl) rfl rfl (by decide) rfl dX7_init_107 rfl (fun H locs hH => ?_)
  refine lv_iinc (v := 2) (lv' := [(1, .int 2), (0, .ref o)]) K.x K.b dX7_init_108 hl (k := 0) rfl (by decide) (by decide) rfl (fun ls hl => ?_)
  refine lv_goto (tgt := 90) K.x K.b dX7_init_111 (by decide) ?_
  refine lv_iload_n K.x K.b dX7_init_90 rfl (lv_at hl 0 rfl) ?_
  refine lv_iconst (v := 2) K.x K.b dX7_init_91 (by decide) ?_
  refine lv_icmp_ge (tgt := 114) K.x K.b dX7_init_92 (by decide) (fun _ => ?_) (fun c9 => absurd (by decide) c9)
  have hH := z_rowx hH 1 (ws' := ([(o, .inr (6, [.ref (a2 0), .ref q8, .ref q9, .ref q10, .int 0, .int 0, .int 1, .int 0, .int 0, .int 0, .ref q11, .ref q16, .ref q23, .ref q27])), (q8, .inl (y 3, 2, .inr (.inr (.inr (.inr (fun i => if i = 0 then some (a30 0) else some (a37 0))))))), (q9, .inl (y 2, 2, .inl z0)), (q10, .inl (y 1, 150, .inl z0)), (q11, .inr (4, [.ref a12, .ref a13, .ref a14, .ref a15, .int 0, .int 0])), (a12, .inl (y 0, 49, .inl z0)), (a13, .inl (y 0, 7, .inl z0)), (a14, .inl (y 0, 448, .inl z0)), (a15, .inl (y 0, 49, .inl z0)), (q16, .inr (3, [.ref (a17 0), .ref b22, .int 0, .int 0, .int 0, .int 0, .int 0])), dO (q23, a24, a25, a26, z0, z0, z0, 0, 0), dA y (q23, a24, a25, a26, z0, z0, z0, 0, 0), dB y (q23, a24, a25, a26, z0, z0, z0, 0, 0), dC y (q23, a24, a25, a26, z0, z0, z0, 0, 0), (q27, .inr (2, [.ref a28])), (a28, .inl (y 0, 6, .inl z0))] ++ (((kC y a2 v3 f4 n5 P6 ++ kC y a17 v18 f19 n20 P21) ++ kC y a30 v31 f32 n33 P34) ++ kC y a37 v38 f39 n40 P41))) (g := (fun i => if i = 0 then some (a30 0) else some (a37 0))) rfl (fun i hi => by rcases (show i = 0 ∨ i = 1 by omega) with rfl | rfl <;> rfl) rfl
  have hH : z_H D A s.heap (kX y o (fun i => if i = 2 then 1 else 0) a2 v3 f4 n5 P6 q8 q9 q10 z0 z0 (pk8 (α := Nat) q11 a12 a13 a14 a15 0 0 0) (fun _ => z0) (fun _ => 0) q16 (.ref b22) (fun _ => 0) a17 v18 f19 n20 P21 (q23, a24, a25, a26, z0, z0, z0, 0, 0) q27 a28 z0 a30 v31 f32 n33 P34 a37 v38 f39 n40 P41) H locs := hH
  refine W.widen (k := 200) (n := 2902) (by decide) (by decide) ?_
  exact z_retC K hr hH ⟨(fun i => if i = 2 then 1 else 0), a2, v3, f4, n5, P6, q8, q9, q10, z0, z0, (pk8 (α := Nat) q11 a12 a13 a14 a15 0 0 0), (fun _ => z0), (fun _ => 0), q16, (.ref b22), (fun _ => 0), a17, v18, f19, n20, P21, (q23, a24, a25, a26, z0, z0, z0, 0, 0), q27, a28, z0, a30, v31, f32, n33, P34, a37, v38, f39, n40, P41, hvh7, hnh7, rfl, rfl, rfl⟩ dX7_init_114
