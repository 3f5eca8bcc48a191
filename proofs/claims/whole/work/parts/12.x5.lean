noncomputable def p_X5_measure (v_foundCount : Int32) (v_places : Int32) (f_far : (Nat → Int32)) (v_q1_places : Int32) (f_q1_placeKind : (Nat → Int32)) (f_q1_placeX : (Nat → Int32)) (f_q1_placeY : (Nat → Int32)) (f_q1_crowKind : (Nat → Int32)) (v_q1_now_hour : Int32) (f_q1_now_tired : (Nat → Int32)) (p2 : Int32) : Option (Int32 × Int32 × (Nat → Int32)) :=
  z_bd (z_lp (S := Int32 × (Nat → Int32)) (E := (Nat → Int32)) (fun s1 =>
  if (v_q1_places ≤ s1.1) then
  (some (.inr s1.2)) else
  (z_bd (z_lp (S := Int32 × (Nat → Int32)) (E := (Nat → Int32)) (fun s5 =>
  if (v_q1_places ≤ s5.1) then
  (some (.inr s5.2)) else
  (z_bd (p_X0_farNow f_q1_placeKind f_q1_placeX f_q1_placeY f_q1_crowKind v_q1_now_hour f_q1_now_tired p2 s1.1 s5.1) fun r10 =>
  z_lt (((s1.1 * (7 : Int32)) + s5.1)) fun x12 =>
  z_gd (z_in x12 49) <|
  z_lt ((upd s5.2 x12.toNatClampNeg r10)) fun a14 =>
  z_lt (s5.1 + (1 : Int32)) fun x15 =>
  some (.inl (x15, a14)))) ((0 : Int32), s1.2)) fun e6 =>
  z_lt (s1.1 + (1 : Int32)) fun x7 =>
  some (.inl (x7, e6)))) ((0 : Int32), f_far)) fun e2 =>
  some ((0 : Int32), v_q1_places, e2)
theorem hd_X5_measure : yX5_measure.cls = RX5 ∧ yX5_measure.cls ≠ "java/lang/invoke/MethodHandle" ∧ yX5_measure.cls ≠ "java/lang/invoke/VarHandle" ∧ (parseMethodDescriptor yX5_measure.desc).map (fun d => d.parameters.length) = some 2 := by decide +kernel
set_option maxHeartbeats 4000000 in
set_option maxRecDepth 100000 in
theorem c_X5_measure (l : Launch) (D : va_G) (y : Nat → ClassId) (o o_far o_q1 o_q1_placeKind o_q1_placeX o_q1_placeY o_q1_crowKind o_q1_now o_q1_now_tired : Nat) (g_toEnd g_toHome g_found g_q1_crows g_q1_past g_q1_pasts g_q1_notes g_q1_marks g_q1_now_at g_q1_now_deedRows g_q1_now_deeds : Value) (v_foundCount : Int32) (v_places : Int32) (f_far : (Nat → Int32)) (v_q1_places : Int32) (f_q1_placeKind : (Nat → Int32)) (f_q1_placeX : (Nat → Int32)) (f_q1_placeY : (Nat → Int32)) (f_q1_crowKind : (Nat → Int32)) (v_q1_now_hour : Int32) (f_q1_now_tired : (Nat → Int32)) (p2 : Int32) (r : Int32 × Int32 × (Nat → Int32)) (h : p_X5_measure v_foundCount v_places f_far v_q1_places f_q1_placeKind f_q1_placeX f_q1_placeY f_q1_crowKind v_q1_now_hour f_q1_now_tired p2 = some r) : z_MV l yX5_measure cX5_measure 5 none 4 111 D y [.ref o, .ref o_q1, .int p2] [(o, .inr (4, [.ref o_far, g_toEnd, g_toHome, g_found, .int v_foundCount, .int v_places])), (o_far, .inl (y 0, 49, .inl f_far)), (o_q1, .inr (0, [.ref o_q1_placeKind, .ref o_q1_placeX, .ref o_q1_placeY, .int v_q1_places, .ref o_q1_crowKind, g_q1_crows, .ref o_q1_now, g_q1_past, g_q1_pasts, g_q1_notes, g_q1_marks])), (o_q1_placeKind, .inl (y 0, 7, .inl f_q1_placeKind)), (o_q1_placeX, .inl (y 0, 7, .inl f_q1_placeX)), (o_q1_placeY, .inl (y 0, 7, .inl f_q1_placeY)), (o_q1_crowKind, .inl (y 0, 3, .inl f_q1_crowKind)), (o_q1_now, .inr (1, [g_q1_now_at, .ref o_q1_now_tired, g_q1_now_deedRows, g_q1_now_deeds, .int v_q1_now_hour])), (o_q1_now_tired, .inl (y 0, 3, .inl f_q1_now_tired))] [(o, .inr (4, [.ref o_far, g_toEnd, g_toHome, g_found, .int r.1, .int r.2.1])), (o_far, .inl (y 0, 49, .inl r.2.2)), (o_q1, .inr (0, [.ref o_q1_placeKind, .ref o_q1_placeX, .ref o_q1_placeY, .int v_q1_places, .ref o_q1_crowKind, g_q1_crows, .ref o_q1_now, g_q1_past, g_q1_pasts, g_q1_notes, g_q1_marks])), (o_q1_placeKind, .inl (y 0, 7, .inl f_q1_placeKind)), (o_q1_placeX, .inl (y 0, 7, .inl f_q1_placeX)), (o_q1_placeY, .inl (y 0, 7, .inl f_q1_placeY)), (o_q1_crowKind, .inl (y 0, 3, .inl f_q1_crowKind)), (o_q1_now, .inr (1, [g_q1_now_at, .ref o_q1_now_tired, g_q1_now_deedRows, g_q1_now_deeds, .int v_q1_now_hour])), (o_q1_now_tired, .inl (y 0, 3, .inl f_q1_now_tired))] := by
  unfold p_X5_measure at h
  refine z_enV (by decide) (Nat.le_of_ble_eq_true rfl) ?_
  intro p e s m args below meth c A ls hr K hH hl
  obtain ⟨Q, hQ⟩ : ∃ Q, Q = MQ below (z_Qv D y A [(o, .inr (4, [.ref o_far, g_toEnd, g_toHome, g_found, .int r.1, .int r.2.1])), (o_far, .inl (y 0, 49, .inl r.2.2)), (o_q1, .inr (0, [.ref o_q1_placeKind, .ref o_q1_placeX, .ref o_q1_placeY, .int v_q1_places, .ref o_q1_crowKind, g_q1_crows, .ref o_q1_now, g_q1_past, g_q1_pasts, g_q1_notes, g_q1_marks])), (o_q1_placeKind, .inl (y 0, 7, .inl f_q1_placeKind)), (o_q1_placeX, .inl (y 0, 7, .inl f_q1_placeX)), (o_q1_placeY, .inl (y 0, 7, .inl f_q1_placeY)), (o_q1_crowKind, .inl (y 0, 3, .inl f_q1_crowKind)), (o_q1_now, .inr (1, [g_q1_now_at, .ref o_q1_now_tired, g_q1_now_deedRows, g_q1_now_deeds, .int v_q1_now_hour])), (o_q1_now_tired, .inl (y 0, 3, .inl f_q1_now_tired))]) args s 0 0 A := ⟨_, rfl⟩
  rw [← hQ]
  have hl : lv_has ls 5 [(0, .ref o), (1, .ref o_q1), (2, .int p2)] := hl
  refine lv_aload_n K.x K.b dX5_measure_0 rfl (lv_at hl 0 rfl) ?_
  refine lv_aload_n K.x K.b dX5_measure_1 rfl (lv_at hl 1 rfl) ?_
  refine z_get K hH 2 rfl zin_0 rfl 3 (by decide) tw_1_86 (v := .int v_q1_places) rfl dX5_measure_2 ?_
  refine z_put K hH 0 (ws' := [(o, .inr (4, [.ref o_far, g_toEnd, g_toHome, g_found, .int v_foundCount, .int v_q1_places])), (o_far, .inl (y 0, 49, .inl f_far)), (o_q1, .inr (0, [.ref o_q1_placeKind, .ref o_q1_placeX, .ref o_q1_placeY, .int v_q1_places, .ref o_q1_crowKind, g_q1_crows, .ref o_q1_now, g_q1_past, g_q1_pasts, g_q1_notes, g_q1_marks])), (o_q1_placeKind, .inl (y 0, 7, .inl f_q1_placeKind)), (o_q1_placeX, .inl (y 0, 7, .inl f_q1_placeX)), (o_q1_placeY, .inl (y 0, 7, .inl f_q1_placeY)), (o_q1_crowKind, .inl (y 0, 3, .inl f_q1_crowKind)), (o_q1_now, .inr (1, [g_q1_now_at, .ref o_q1_now_tired, g_q1_now_deedRows, g_q1_now_deeds, .int v_q1_now_hour])), (o_q1_now_tired, .inl (y 0, 3, .inl f_q1_now_tired))]) rfl zin_5 rfl tyX5 tyX5_ok nmX5 5 (by decide) tw_1_138 rfl rfl rfl (Nat.le_of_ble_eq_true rfl) dX5_measure_5 rfl (fun H locs hH => ?_)
  refine lv_aload_n K.x K.b dX5_measure_8 rfl (lv_at hl 0 rfl) ?_
  refine lv_iconst (v := (0)) K.x K.b dX5_measure_9 (by decide) ?_
  refine z_put K hH 0 (ws' := [(o, .inr (4, [.ref o_far, g_toEnd, g_toHome, g_found, .int (0 : Int32), .int v_q1_places])), (o_far, .inl (y 0, 49, .inl f_far)), (o_q1, .inr (0, [.ref o_q1_placeKind, .ref o_q1_placeX, .ref o_q1_placeY, .int v_q1_places, .ref o_q1_crowKind, g_q1_crows, .ref o_q1_now, g_q1_past, g_q1_pasts, g_q1_notes, g_q1_marks])), (o_q1_placeKind, .inl (y 0, 7, .inl f_q1_placeKind)), (o_q1_placeX, .inl (y 0, 7, .inl f_q1_placeX)), (o_q1_placeY, .inl (y 0, 7, .inl f_q1_placeY)), (o_q1_crowKind, .inl (y 0, 3, .inl f_q1_crowKind)), (o_q1_now, .inr (1, [g_q1_now_at, .ref o_q1_now_tired, g_q1_now_deedRows, g_q1_now_deeds, .int v_q1_now_hour])), (o_q1_now_tired, .inl (y 0, 3, .inl f_q1_now_tired))]) rfl zin_5 rfl tyX5 tyX5_ok nmX5 4 (by decide) tw_1_137 rfl rfl rfl (Nat.le_of_ble_eq_true rfl) dX5_measure_10 rfl (fun H locs hH => ?_)
  refine lv_iconst (v := (0)) K.x K.b dX5_measure_13 (by decide) ?_
  refine lv_istore_n (lv' := [(3, .int (0 : Int32)), (0, .ref o), (1, .ref o_q1), (2, .int p2)]) K.x K.b dX5_measure_14 rfl hl (by decide) rfl (fun ls hl => ?_)
  obtain ⟨e2, hlpe2, h⟩ := z_bd_e h
  have KEe2 : ∀ (H : Heap) (locs : List Loc) (ls : Array Slot), z_H D A s.heap [(o, .inr (4, [.ref o_far, g_toEnd, g_toHome, g_found, .int (0 : Int32), .int v_q1_places])), (o_far, .inl (y 0, 49, .inl e2)), (o_q1, .inr (0, [.ref o_q1_placeKind, .ref o_q1_placeX, .ref o_q1_placeY, .int v_q1_places, .ref o_q1_crowKind, g_q1_crows, .ref o_q1_now, g_q1_past, g_q1_pasts, g_q1_notes, g_q1_marks])), (o_q1_placeKind, .inl (y 0, 7, .inl f_q1_placeKind)), (o_q1_placeX, .inl (y 0, 7, .inl f_q1_placeX)), (o_q1_placeY, .inl (y 0, 7, .inl f_q1_placeY)), (o_q1_crowKind, .inl (y 0, 3, .inl f_q1_crowKind)), (o_q1_now, .inr (1, [g_q1_now_at, .ref o_q1_now_tired, g_q1_now_deedRows, g_q1_now_deeds, .int v_q1_now_hour])), (o_q1_now_tired, .inl (y 0, 3, .inl f_q1_now_tired))] H locs → lv_has ls 5 [] → W p l e (zR 4 111) s m args below meth c H locs 0 0 Q (F0 m 67 ls []) := by
    intro H locs ls hH hl
    have hr9 := Option.some.inj h
    obtain rfl := hr9
    rw [hQ]
    exact z_retv K hr hH [0, 1, 2, 3, 4, 5, 6, 7, 8] (by decide) rfl dX5_measure_67
  refine z_lp_ind (P := fun (s1 : Int32 × (Nat → Int32)) => ∀ (H : Heap) (locs : List Loc) (ls : Array Slot), z_H D A s.heap [(o, .inr (4, [.ref o_far, g_toEnd, g_toHome, g_found, .int (0 : Int32), .int v_q1_places])), (o_far, .inl (y 0, 49, .inl s1.2)), (o_q1, .inr (0, [.ref o_q1_placeKind, .ref o_q1_placeX, .ref o_q1_placeY, .int v_q1_places, .ref o_q1_crowKind, g_q1_crows, .ref o_q1_now, g_q1_past, g_q1_pasts, g_q1_notes, g_q1_marks])), (o_q1_placeKind, .inl (y 0, 7, .inl f_q1_placeKind)), (o_q1_placeX, .inl (y 0, 7, .inl f_q1_placeX)), (o_q1_placeY, .inl (y 0, 7, .inl f_q1_placeY)), (o_q1_crowKind, .inl (y 0, 3, .inl f_q1_crowKind)), (o_q1_now, .inr (1, [g_q1_now_at, .ref o_q1_now_tired, g_q1_now_deedRows, g_q1_now_deeds, .int v_q1_now_hour])), (o_q1_now_tired, .inl (y 0, 3, .inl f_q1_now_tired))] H locs → lv_has ls 5 [(0, .ref o), (1, .ref o_q1), (2, .int p2), (3, .int s1.1)] → W p l e (zR 4 111) s m args below meth c H locs 0 0 Q (F0 m 15 ls [])) ?_ _ hlpe2 _ _ _ hH (lv_sub hl [1, 2, 3, 0] rfl)
  clear h hlpe2
  intro s1 x3 h ihe2 hee2 H locs ls hH hl
  refine lv_iload_n K.x K.b dX5_measure_15 rfl (lv_at hl 3 rfl) ?_
  refine lv_aload_n K.x K.b dX5_measure_16 rfl (lv_at hl 0 rfl) ?_
  refine z_get K hH 0 rfl zin_5 rfl 5 (by decide) tw_1_138 (v := .int v_q1_places) rfl dX5_measure_17 ?_
  refine lv_icmp_ge (tgt := 67) K.x K.b dX5_measure_20 (by decide) (fun c4 => ?_) (fun c4 => ?_)
  · replace h := z_t c4 h
    obtain rfl := hee2 _ (Option.some.inj h).symm
    exact KEe2 _ _ _ hH (lv_sub hl [] rfl)
  · replace h := z_f c4 h
    refine lv_iconst (v := (0)) K.x K.b dX5_measure_23 (by decide) ?_
    refine lv_istore (lv' := [(4, .int (0 : Int32)), (0, .ref o), (1, .ref o_q1), (2, .int p2), (3, .int s1.1)]) K.x K.b dX5_measure_24 hl (by decide) rfl (fun ls hl => ?_)
    obtain ⟨e6, hlpe6, h⟩ := z_bd_e h
    have KEe6 : ∀ (H : Heap) (locs : List Loc) (ls : Array Slot), z_H D A s.heap [(o, .inr (4, [.ref o_far, g_toEnd, g_toHome, g_found, .int (0 : Int32), .int v_q1_places])), (o_far, .inl (y 0, 49, .inl e6)), (o_q1, .inr (0, [.ref o_q1_placeKind, .ref o_q1_placeX, .ref o_q1_placeY, .int v_q1_places, .ref o_q1_crowKind, g_q1_crows, .ref o_q1_now, g_q1_past, g_q1_pasts, g_q1_notes, g_q1_marks])), (o_q1_placeKind, .inl (y 0, 7, .inl f_q1_placeKind)), (o_q1_placeX, .inl (y 0, 7, .inl f_q1_placeX)), (o_q1_placeY, .inl (y 0, 7, .inl f_q1_placeY)), (o_q1_crowKind, .inl (y 0, 3, .inl f_q1_crowKind)), (o_q1_now, .inr (1, [g_q1_now_at, .ref o_q1_now_tired, g_q1_now_deedRows, g_q1_now_deeds, .int v_q1_now_hour])), (o_q1_now_tired, .inl (y 0, 3, .inl f_q1_now_tired))] H locs → lv_has ls 5 [(0, .ref o), (1, .ref o_q1), (2, .int p2), (3, .int s1.1)] → W p l e (zR 4 111) s m args below meth c H locs 0 0 Q (F0 m 61 ls []) := by
      intro H locs ls hH hl
      obtain ⟨x7, ex7, h⟩ := z_lt_e h
      refine lv_iinc (v := x7) (lv' := [(3, .int x7), (0, .ref o), (1, .ref o_q1), (2, .int p2)]) K.x K.b dX5_measure_61 hl (k := 3) rfl (by rw [ex7]; rfl) (by decide) rfl (fun ls hl => ?_)
      refine lv_goto (tgt := 15) K.x K.b dX5_measure_64 (by decide) ?_
      exact ihe2 _ (Option.some.inj h).symm _ _ _ hH (lv_sub hl [1, 2, 3, 0] rfl)
    refine z_lp_ind (P := fun (s5 : Int32 × (Nat → Int32)) => ∀ (H : Heap) (locs : List Loc) (ls : Array Slot), z_H D A s.heap [(o, .inr (4, [.ref o_far, g_toEnd, g_toHome, g_found, .int (0 : Int32), .int v_q1_places])), (o_far, .inl (y 0, 49, .inl s5.2)), (o_q1, .inr (0, [.ref o_q1_placeKind, .ref o_q1_placeX, .ref o_q1_placeY, .int v_q1_places, .ref o_q1_crowKind, g_q1_crows, .ref o_q1_now, g_q1_past, g_q1_pasts, g_q1_notes, g_q1_marks])), (o_q1_placeKind, .inl (y 0, 7, .inl f_q1_placeKind)), (o_q1_placeX, .inl (y 0, 7, .inl f_q1_placeX)), (o_q1_placeY, .inl (y 0, 7, .inl f_q1_placeY)), (o_q1_crowKind, .inl (y 0, 3, .inl f_q1_crowKind)), (o_q1_now, .inr (1, [g_q1_now_at, .ref o_q1_now_tired, g_q1_now_deedRows, g_q1_now_deeds, .int v_q1_now_hour])), (o_q1_now_tired, .inl (y 0, 3, .inl f_q1_now_tired))] H locs → lv_has ls 5 [(0, .ref o), (1, .ref o_q1), (2, .int p2), (3, .int s1.1), (4, .int s5.1)] → W p l e (zR 4 111) s m args below meth c H locs 0 0 Q (F0 m 26 ls [])) ?_ _ hlpe6 _ _ _ hH (lv_sub hl [1, 2, 3, 4, 0] rfl)
    clear h hlpe6
    intro s5 x8 h ihe6 hee6 H locs ls hH hl
    refine lv_iload K.x K.b dX5_measure_26 (lv_at hl 4 rfl) ?_
    refine lv_aload_n K.x K.b dX5_measure_28 rfl (lv_at hl 0 rfl) ?_
    refine z_get K hH 0 rfl zin_5 rfl 5 (by decide) tw_1_138 (v := .int v_q1_places) rfl dX5_measure_29 ?_
    refine lv_icmp_ge (tgt := 61) K.x K.b dX5_measure_32 (by decide) (fun c9 => ?_) (fun c9 => ?_)
    · replace h := z_t c9 h
      obtain rfl := hee6 _ (Option.some.inj h).symm
      exact KEe6 _ _ _ hH (lv_sub hl [0, 1, 2, 3] rfl)
    · replace h := z_f c9 h
      refine lv_aload_n K.x K.b dX5_measure_35 rfl (lv_at hl 0 rfl) ?_
      refine z_get K hH 0 rfl zin_5 rfl 0 (by decide) tw_1_133 (v := .ref o_far) rfl dX5_measure_36 ?_
      refine lv_iload_n K.x K.b dX5_measure_39 rfl (lv_at hl 3 rfl) ?_
      refine lv_bipush (v := (7)) K.x K.b dX5_measure_40 (by decide) ?_
      refine lv_imul K.x K.b dX5_measure_42 ?_
      refine lv_iload K.x K.b dX5_measure_43 (lv_at hl 4 rfl) ?_
      refine lv_iadd K.x K.b dX5_measure_45 ?_
      refine lv_aload_n K.x K.b dX5_measure_46 rfl (lv_at hl 1 rfl) ?_
      refine lv_iload_n K.x K.b dX5_measure_47 rfl (lv_at hl 2 rfl) ?_
      refine lv_iload_n K.x K.b dX5_measure_48 rfl (lv_at hl 3 rfl) ?_
      refine lv_iload K.x K.b dX5_measure_49 (lv_at hl 4 rfl) ?_
      obtain ⟨r10, hr11, h⟩ := z_bd_e h
      refine z_Vi K hH hl.1 (c_X0_farNow l D y o_q1 o_q1_placeKind o_q1_placeX o_q1_placeY o_q1_crowKind o_q1_now o_q1_now_tired (.int v_q1_places) (g_q1_crows) (g_q1_past) (g_q1_pasts) (g_q1_notes) (g_q1_marks) (g_q1_now_at) (g_q1_now_deedRows) (g_q1_now_deeds) f_q1_placeKind f_q1_placeX f_q1_placeY f_q1_crowKind v_q1_now_hour f_q1_now_tired p2 s1.1 s5.1 r10 hr11) (z_cwV K 3 tw_3_66 tw_3_51 tw_3_52 tw_1_2 tw_3_53 hd_X0_farNow ⟨by decide, by decide⟩) [2, 3, 4, 5, 6, 7, 8] [0, 1] rfl (wr := [(o, .inr (4, [.ref o_far, g_toEnd, g_toHome, g_found, .int (0 : Int32), .int v_q1_places])), (o_far, .inl (y 0, 49, .inl s5.2))]) rfl rfl rfl (by decide) rfl rfl rfl (As := [.int p2, .int s1.1, .int s5.1]) (rest := [.int ((s1.1 * (7 : Int32)) + s5.1), .ref o_far]) rfl (Nat.le_of_ble_eq_true rfl) ⟨Nat.zero_le _, Nat.zero_le _⟩ dX5_measure_51 (ws' := [(o, .inr (4, [.ref o_far, g_toEnd, g_toHome, g_found, .int (0 : Int32), .int v_q1_places])), (o_far, .inl (y 0, 49, .inl s5.2)), (o_q1, .inr (0, [.ref o_q1_placeKind, .ref o_q1_placeX, .ref o_q1_placeY, .int v_q1_places, .ref o_q1_crowKind, g_q1_crows, .ref o_q1_now, g_q1_past, g_q1_pasts, g_q1_notes, g_q1_marks])), (o_q1_placeKind, .inl (y 0, 7, .inl f_q1_placeKind)), (o_q1_placeX, .inl (y 0, 7, .inl f_q1_placeX)), (o_q1_placeY, .inl (y 0, 7, .inl f_q1_placeY)), (o_q1_crowKind, .inl (y 0, 3, .inl f_q1_crowKind)), (o_q1_now, .inr (1, [g_q1_now_at, .ref o_q1_now_tired, g_q1_now_deedRows, g_q1_now_deeds, .int v_q1_now_hour])), (o_q1_now_tired, .inl (y 0, 3, .inl f_q1_now_tired))]) rfl (fun H locs hH => ?_)
      obtain ⟨x12, ex12, h⟩ := z_lt_e h
      refine z_nm2 ex12 ?_
      obtain ⟨g13, h⟩ := z_gd_e h
      obtain ⟨a14, ea14, h⟩ := z_lt_e h
      refine z_iast K hH 1 (k := x12.toNatClampNeg) (ws' := [(o, .inr (4, [.ref o_far, g_toEnd, g_toHome, g_found, .int (0 : Int32), .int v_q1_places])), (o_far, .inl (y 0, 49, .inl a14)), (o_q1, .inr (0, [.ref o_q1_placeKind, .ref o_q1_placeX, .ref o_q1_placeY, .int v_q1_places, .ref o_q1_crowKind, g_q1_crows, .ref o_q1_now, g_q1_past, g_q1_pasts, g_q1_notes, g_q1_marks])), (o_q1_placeKind, .inl (y 0, 7, .inl f_q1_placeKind)), (o_q1_placeX, .inl (y 0, 7, .inl f_q1_placeX)), (o_q1_placeY, .inl (y 0, 7, .inl f_q1_placeY)), (o_q1_crowKind, .inl (y 0, 3, .inl f_q1_crowKind)), (o_q1_now, .inr (1, [g_q1_now_at, .ref o_q1_now_tired, g_q1_now_deedRows, g_q1_now_deeds, .int v_q1_now_hour])), (o_q1_now_tired, .inl (y 0, 3, .inl f_q1_now_tired))]) rfl g13 rfl dX5_measure_54 (by rw [ea14]; rfl) (fun H locs hH => ?_)
      obtain ⟨x15, ex15, h⟩ := z_lt_e h
      refine lv_iinc (v := x15) (lv' := [(4, .int x15), (0, .ref o), (1, .ref o_q1), (2, .int p2), (3, .int s1.1)]) K.x K.b dX5_measure_55 hl (k := 4) rfl (by rw [ex15]; rfl) (by decide) rfl (fun ls hl => ?_)
      refine lv_goto (tgt := 26) K.x K.b dX5_measure_58 (by decide) ?_
      exact ihe6 _ (Option.some.inj h).symm _ _ _ hH (lv_sub hl [1, 2, 3, 4, 0] rfl)
def p_X5_answer (v_foundCount : Int32) (f_found : (Nat → Int32)) (p1 : Int32) (p2 : Int32) : Option (Int32) :=
  if (p1 = (-1 : Int32)) then
  (some p2) else
  (z_bd (α := Int32) (if (p1 < 0) then
  (some (-5 : Int32)) else
  (if (v_foundCount ≤ p1) then
  (some (-5 : Int32)) else
  (z_gd (z_in p1 49) <|
  some (f_found p1.toNatClampNeg)))) fun j2 =>
  some j2)
theorem hd_X5_answer : yX5_answer.cls = RX5 ∧ yX5_answer.cls ≠ "java/lang/invoke/MethodHandle" ∧ yX5_answer.cls ≠ "java/lang/invoke/VarHandle" ∧ (parseMethodDescriptor yX5_answer.desc).map (fun d => d.parameters.length) = some 2 := by decide +kernel
set_option maxHeartbeats 4000000 in
set_option maxRecDepth 100000 in
theorem c_X5_answer (l : Launch) (D : va_G) (y : Nat → ClassId) (o o_found : Nat) (g_far g_toEnd g_toHome g_places : Value) (v_foundCount : Int32) (f_found : (Nat → Int32)) (p1 : Int32) (p2 : Int32) (r : Int32) (h : p_X5_answer v_foundCount f_found p1 p2 = some r) : z_MI l yX5_answer cX5_answer 3 (some .int) 0 0 D y [.ref o, .int p1, .int p2] [(o, .inr (4, [g_far, g_toEnd, g_toHome, .ref o_found, .int v_foundCount, g_places])), (o_found, .inl (y 0, 49, .inl f_found))] r [(o, .inr (4, [g_far, g_toEnd, g_toHome, .ref o_found, .int v_foundCount, g_places])), (o_found, .inl (y 0, 49, .inl f_found))] := by
  unfold p_X5_answer at h
  refine z_enI (by decide) (Nat.le_of_ble_eq_true rfl) ?_
  intro p e s m args below meth c A ls hr K hH hl
  obtain ⟨Q, hQ⟩ : ∃ Q, Q = MQ below (z_Qi D y A r [(o, .inr (4, [g_far, g_toEnd, g_toHome, .ref o_found, .int v_foundCount, g_places])), (o_found, .inl (y 0, 49, .inl f_found))]) args s 0 0 A := ⟨_, rfl⟩
  rw [← hQ]
  have hl : lv_has ls 3 [(0, .ref o), (1, .int p1), (2, .int p2)] := hl
  refine lv_iload_n K.x K.b dX5_answer_0 rfl (lv_at hl 1 rfl) ?_
  refine lv_iconst (v := (-1)) K.x K.b dX5_answer_1 (by decide) ?_
  refine lv_icmp_ne (tgt := 7) K.x K.b dX5_answer_2 (by decide) (fun c1 => ?_) (fun c1 => ?_)
  · replace h := z_f c1 h
    refine lv_iload_n K.x K.b dX5_answer_7 rfl (lv_at hl 1 rfl) ?_
    obtain ⟨j2, hj2, h⟩ := z_bd_e h
    have Kj2 : ∀ (H : Heap) (locs : List Loc) (ls : Array Slot), z_H D A s.heap [(o, .inr (4, [g_far, g_toEnd, g_toHome, .ref o_found, .int v_foundCount, g_places])), (o_found, .inl (y 0, 49, .inl f_found))] H locs → lv_has ls 3 [] → W p l e (zR 0 0) s m args below meth c H locs 0 0 Q (F0 m 30 ls [.int j2]) := by
      intro H locs ls hH hl
      have hr9 := Option.some.inj h
      obtain rfl := hr9
      rw [hQ]
      exact z_reti K hr hH [0, 1] (by decide) rfl rfl rfl dX5_answer_30
    replace h := hj2
    refine lv_if_lt (tgt := 28) K.x K.b dX5_answer_8 (by decide) (fun c3 => ?_) (fun c3 => ?_)
    · replace h := z_t c3 h
      refine lv_bipush (v := (-5)) K.x K.b dX5_answer_28 (by decide) ?_
      obtain rfl := Option.some.inj h
      exact Kj2 _ _ _ hH (lv_sub hl [] rfl)
    · replace h := z_f c3 h
      refine lv_iload_n K.x K.b dX5_answer_11 rfl (lv_at hl 1 rfl) ?_
      refine lv_aload_n K.x K.b dX5_answer_12 rfl (lv_at hl 0 rfl) ?_
      refine z_get K hH 0 rfl zin_5 rfl 4 (by decide) tw_1_137 (v := .int v_foundCount) rfl dX5_answer_13 ?_
      refine lv_icmp_ge (tgt := 28) K.x K.b dX5_answer_16 (by decide) (fun c4 => ?_) (fun c4 => ?_)
      · replace h := z_t c4 h
        refine lv_bipush (v := (-5)) K.x K.b dX5_answer_28 (by decide) ?_
        obtain rfl := Option.some.inj h
        exact Kj2 _ _ _ hH (lv_sub hl [] rfl)
      · replace h := z_f c4 h
        refine lv_aload_n K.x K.b dX5_answer_19 rfl (lv_at hl 0 rfl) ?_
        refine z_get K hH 0 rfl zin_5 rfl 3 (by decide) tw_1_136 (v := .ref o_found) rfl dX5_answer_20 ?_
        refine lv_iload_n K.x K.b dX5_answer_23 rfl (lv_at hl 1 rfl) ?_
        obtain ⟨g5, h⟩ := z_gd_e h
        refine z_iald K hH 1 (k := p1.toNatClampNeg) rfl g5 rfl dX5_answer_24 ?_
        refine lv_goto (tgt := 30) K.x K.b dX5_answer_25 (by decide) ?_
        obtain rfl := Option.some.inj h
        exact Kj2 _ _ _ hH (lv_sub hl [] rfl)
  · replace h := z_t c1 h
    refine lv_iload_n K.x K.b dX5_answer_5 rfl (lv_at hl 2 rfl) ?_
    have hr9 := Option.some.inj h
    obtain rfl := hr9
    rw [hQ]
    exact z_reti K hr hH [0, 1] (by decide) rfl rfl rfl dX5_answer_6
def p_X5_addFound (v_foundCount : Int32) (f_found : (Nat → Int32)) (p1 : Int32) : Option (Int32 × (Nat → Int32)) :=
  z_bd (α := Int32 × (Nat → Int32)) (if ((49 : Int32) ≤ v_foundCount) then
  (some (v_foundCount, f_found)) else
  (z_gd (z_in v_foundCount 49) <|
  z_lt ((upd f_found v_foundCount.toNatClampNeg p1)) fun a4 =>
  z_lt ((v_foundCount + (1 : Int32))) fun x5 =>
  some (x5, a4))) fun j1 =>
  some (j1.1, j1.2)
theorem hd_X5_addFound : yX5_addFound.cls = RX5 ∧ yX5_addFound.cls ≠ "java/lang/invoke/MethodHandle" ∧ yX5_addFound.cls ≠ "java/lang/invoke/VarHandle" ∧ (parseMethodDescriptor yX5_addFound.desc).map (fun d => d.parameters.length) = some 1 := by decide +kernel
set_option maxHeartbeats 4000000 in
set_option maxRecDepth 100000 in
theorem c_X5_addFound (l : Launch) (D : va_G) (y : Nat → ClassId) (o o_found : Nat) (g_far g_toEnd g_toHome g_places : Value) (v_foundCount : Int32) (f_found : (Nat → Int32)) (p1 : Int32) (r : Int32 × (Nat → Int32)) (h : p_X5_addFound v_foundCount f_found p1 = some r) : z_MV l yX5_addFound cX5_addFound 2 none 0 0 D y [.ref o, .int p1] [(o, .inr (4, [g_far, g_toEnd, g_toHome, .ref o_found, .int v_foundCount, g_places])), (o_found, .inl (y 0, 49, .inl f_found))] [(o, .inr (4, [g_far, g_toEnd, g_toHome, .ref o_found, .int r.1, g_places])), (o_found, .inl (y 0, 49, .inl r.2))] := by
  unfold p_X5_addFound at h
  refine z_enV (by decide) (Nat.le_of_ble_eq_true rfl) ?_
  intro p e s m args below meth c A ls hr K hH hl
  obtain ⟨Q, hQ⟩ : ∃ Q, Q = MQ below (z_Qv D y A [(o, .inr (4, [g_far, g_toEnd, g_toHome, .ref o_found, .int r.1, g_places])), (o_found, .inl (y 0, 49, .inl r.2))]) args s 0 0 A := ⟨_, rfl⟩
  rw [← hQ]
  have hl : lv_has ls 2 [(0, .ref o), (1, .int p1)] := hl
  refine lv_aload_n K.x K.b dX5_addFound_0 rfl (lv_at hl 0 rfl) ?_
  refine z_get K hH 0 rfl zin_5 rfl 4 (by decide) tw_1_137 (v := .int v_foundCount) rfl dX5_addFound_1 ?_
  refine lv_bipush (v := (49)) K.x K.b dX5_addFound_4 (by decide) ?_
  obtain ⟨j1, hj1, h⟩ := z_bd_e h
  have Kj1 : ∀ (H : Heap) (locs : List Loc) (ls : Array Slot), z_H D A s.heap [(o, .inr (4, [g_far, g_toEnd, g_toHome, .ref o_found, .int j1.1, g_places])), (o_found, .inl (y 0, 49, .inl j1.2))] H locs → lv_has ls 2 [] → W p l e (zR 0 0) s m args below meth c H locs 0 0 Q (F0 m 29 ls []) := by
    intro H locs ls hH hl
    have hr9 := Option.some.inj h
    obtain rfl := hr9
    rw [hQ]
    exact z_retv K hr hH [0, 1] (by decide) rfl dX5_addFound_29
  replace h := hj1
  refine lv_icmp_ge (tgt := 29) K.x K.b dX5_addFound_6 (by decide) (fun c2 => ?_) (fun c2 => ?_)
  · replace h := z_t c2 h
    obtain rfl := Option.some.inj h
    exact Kj1 _ _ _ hH (lv_sub hl [] rfl)
  · replace h := z_f c2 h
    refine lv_aload_n K.x K.b dX5_addFound_9 rfl (lv_at hl 0 rfl) ?_
    refine z_get K hH 0 rfl zin_5 rfl 3 (by decide) tw_1_136 (v := .ref o_found) rfl dX5_addFound_10 ?_
    refine lv_aload_n K.x K.b dX5_addFound_13 rfl (lv_at hl 0 rfl) ?_
    refine z_get K hH 0 rfl zin_5 rfl 4 (by decide) tw_1_137 (v := .int v_foundCount) rfl dX5_addFound_14 ?_
    refine lv_iload_n K.x K.b dX5_addFound_17 rfl (lv_at hl 1 rfl) ?_
    obtain ⟨g3, h⟩ := z_gd_e h
    obtain ⟨a4, ea4, h⟩ := z_lt_e h
    refine z_iast K hH 1 (k := v_foundCount.toNatClampNeg) (ws' := [(o, .inr (4, [g_far, g_toEnd, g_toHome, .ref o_found, .int v_foundCount, g_places])), (o_found, .inl (y 0, 49, .inl a4))]) rfl g3 rfl dX5_addFound_18 (by rw [ea4]; rfl) (fun H locs hH => ?_)
    refine lv_aload_n K.x K.b dX5_addFound_19 rfl (lv_at hl 0 rfl) ?_
    refine lv_dup K.x K.b dX5_addFound_20 rfl ?_
    refine z_get K hH 0 rfl zin_5 rfl 4 (by decide) tw_1_137 (v := .int v_foundCount) rfl dX5_addFound_21 ?_
    refine lv_iconst (v := (1)) K.x K.b dX5_addFound_24 (by decide) ?_
    refine lv_iadd K.x K.b dX5_addFound_25 ?_
    obtain ⟨x5, ex5, h⟩ := z_lt_e h
    refine z_nm ex5 ?_
    refine z_put K hH 0 (ws' := [(o, .inr (4, [g_far, g_toEnd, g_toHome, .ref o_found, .int x5, g_places])), (o_found, .inl (y 0, 49, .inl a4))]) rfl zin_5 rfl tyX5 tyX5_ok nmX5 4 (by decide) tw_1_137 rfl rfl rfl (Nat.le_of_ble_eq_true rfl) dX5_addFound_26 rfl (fun H locs hH => ?_)
    obtain rfl := Option.some.inj h
    exact Kj1 _ _ _ hH (lv_sub hl [] rfl)
def p_X5_partCost (f_far : (Nat → Int32)) (p1 : Int32) (p2 : Int32) : Option (Int32) :=
  z_lt (((p1 * (7 : Int32)) + p2)) fun x1 =>
  z_gd (z_in x1 49) <|
  some (((f_far x1.toNatClampNeg) * (8 : Int32)) + (1 : Int32))
theorem hd_X5_partCost : yX5_partCost.cls = RX5 ∧ yX5_partCost.cls ≠ "java/lang/invoke/MethodHandle" ∧ yX5_partCost.cls ≠ "java/lang/invoke/VarHandle" ∧ (parseMethodDescriptor yX5_partCost.desc).map (fun d => d.parameters.length) = some 2 := by decide +kernel
set_option maxHeartbeats 4000000 in
set_option maxRecDepth 100000 in
theorem c_X5_partCost (l : Launch) (D : va_G) (y : Nat → ClassId) (o o_far : Nat) (g_toEnd g_toHome g_found g_foundCount g_places : Value) (f_far : (Nat → Int32)) (p1 : Int32) (p2 : Int32) (r : Int32) (h : p_X5_partCost f_far p1 p2 = some r) : z_MI l yX5_partCost cX5_partCost 3 (some .int) 0 0 D y [.ref o, .int p1, .int p2] [(o, .inr (4, [.ref o_far, g_toEnd, g_toHome, g_found, g_foundCount, g_places])), (o_far, .inl (y 0, 49, .inl f_far))] r [(o, .inr (4, [.ref o_far, g_toEnd, g_toHome, g_found, g_foundCount, g_places])), (o_far, .inl (y 0, 49, .inl f_far))] := by
  unfold p_X5_partCost at h
  refine z_enI (by decide) (Nat.le_of_ble_eq_true rfl) ?_
  intro p e s m args below meth c A ls hr K hH hl
  obtain ⟨Q, hQ⟩ : ∃ Q, Q = MQ below (z_Qi D y A r [(o, .inr (4, [.ref o_far, g_toEnd, g_toHome, g_found, g_foundCount, g_places])), (o_far, .inl (y 0, 49, .inl f_far))]) args s 0 0 A := ⟨_, rfl⟩
  rw [← hQ]
  have hl : lv_has ls 3 [(0, .ref o), (1, .int p1), (2, .int p2)] := hl
  refine lv_aload_n K.x K.b dX5_partCost_0 rfl (lv_at hl 0 rfl) ?_
  refine z_get K hH 0 rfl zin_5 rfl 0 (by decide) tw_1_133 (v := .ref o_far) rfl dX5_partCost_1 ?_
  refine lv_iload_n K.x K.b dX5_partCost_4 rfl (lv_at hl 1 rfl) ?_
  refine lv_bipush (v := (7)) K.x K.b dX5_partCost_5 (by decide) ?_
  refine lv_imul K.x K.b dX5_partCost_7 ?_
  refine lv_iload_n K.x K.b dX5_partCost_8 rfl (lv_at hl 2 rfl) ?_
  refine lv_iadd K.x K.b dX5_partCost_9 ?_
  obtain ⟨x1, ex1, h⟩ := z_lt_e h
  refine z_nm ex1 ?_
  obtain ⟨g2, h⟩ := z_gd_e h
  refine z_iald K hH 1 (k := x1.toNatClampNeg) rfl g2 rfl dX5_partCost_10 ?_
  refine lv_bipush (v := (8)) K.x K.b dX5_partCost_11 (by decide) ?_
  refine lv_imul K.x K.b dX5_partCost_13 ?_
  refine lv_iconst (v := (1)) K.x K.b dX5_partCost_14 (by decide) ?_
  refine lv_iadd K.x K.b dX5_partCost_15 ?_
  have hr9 := Option.some.inj h
  obtain rfl := hr9
  rw [hQ]
  exact z_reti K hr hH [0, 1] (by decide) rfl rfl rfl dX5_partCost_16
noncomputable def p_X5_shortenFrom (v_places : Int32) (f_far : (Nat → Int32)) (f_toEnd : (Nat → Int32)) (p1 : Int32) : Option ((Nat → Int32)) :=
  z_bd (z_lp (S := Int32 × (Nat → Int32)) (E := (Nat → Int32)) (fun s1 =>
  if (v_places ≤ s1.1) then
  (some (.inr s1.2)) else
  (z_bd (α := (Nat → Int32)) (if (s1.1 = p1) then
  (some s1.2) else
  (z_gd (z_in p1 7) <|
  z_bd (p_X5_partCost f_far p1 s1.1) fun r9 =>
  z_gd (z_in s1.1 7) <|
  z_lt ((r9 + (s1.2 s1.1.toNatClampNeg))) fun x12 =>
  z_lt ((s1.2 p1.toNatClampNeg)) fun x13 =>
  z_lt ((if x12 < x13 then x12 else x13)) fun x14 =>
  z_gd (z_in p1 7) <|
  z_lt ((upd s1.2 p1.toNatClampNeg x14)) fun a16 =>
  some a16)) fun j5 =>
  z_lt (s1.1 + (1 : Int32)) fun x6 =>
  some (.inl (x6, j5)))) ((0 : Int32), f_toEnd)) fun e2 =>
  some e2
theorem hd_X5_shortenFrom : yX5_shortenFrom.cls = RX5 ∧ yX5_shortenFrom.cls ≠ "java/lang/invoke/MethodHandle" ∧ yX5_shortenFrom.cls ≠ "java/lang/invoke/VarHandle" ∧ (parseMethodDescriptor yX5_shortenFrom.desc).map (fun d => d.parameters.length) = some 1 := by decide +kernel
set_option maxHeartbeats 4000000 in
set_option maxRecDepth 100000 in
theorem c_X5_shortenFrom (l : Launch) (D : va_G) (y : Nat → ClassId) (o o_far o_toEnd : Nat) (g_toHome g_found g_foundCount : Value) (v_places : Int32) (f_far : (Nat → Int32)) (f_toEnd : (Nat → Int32)) (p1 : Int32) (r : (Nat → Int32)) (h : p_X5_shortenFrom v_places f_far f_toEnd p1 = some r) : z_MV l yX5_shortenFrom cX5_shortenFrom 3 none 1 40 D y [.ref o, .int p1] [(o, .inr (4, [.ref o_far, .ref o_toEnd, g_toHome, g_found, g_foundCount, .int v_places])), (o_far, .inl (y 0, 49, .inl f_far)), (o_toEnd, .inl (y 0, 7, .inl f_toEnd))] [(o, .inr (4, [.ref o_far, .ref o_toEnd, g_toHome, g_found, g_foundCount, .int v_places])), (o_far, .inl (y 0, 49, .inl f_far)), (o_toEnd, .inl (y 0, 7, .inl r))] := by
  unfold p_X5_shortenFrom at h
  refine z_enV (by decide) (Nat.le_of_ble_eq_true rfl) ?_
  intro p e s m args below meth c A ls hr K hH hl
  obtain ⟨Q, hQ⟩ : ∃ Q, Q = MQ below (z_Qv D y A [(o, .inr (4, [.ref o_far, .ref o_toEnd, g_toHome, g_found, g_foundCount, .int v_places])), (o_far, .inl (y 0, 49, .inl f_far)), (o_toEnd, .inl (y 0, 7, .inl r))]) args s 0 0 A := ⟨_, rfl⟩
  rw [← hQ]
  have hl : lv_has ls 3 [(0, .ref o), (1, .int p1)] := hl
  refine lv_iconst (v := (0)) K.x K.b dX5_shortenFrom_0 (by decide) ?_
  refine lv_istore_n (lv' := [(2, .int (0 : Int32)), (0, .ref o), (1, .int p1)]) K.x K.b dX5_shortenFrom_1 rfl hl (by decide) rfl (fun ls hl => ?_)
  obtain ⟨e2, hlpe2, h⟩ := z_bd_e h
  have KEe2 : ∀ (H : Heap) (locs : List Loc) (ls : Array Slot), z_H D A s.heap [(o, .inr (4, [.ref o_far, .ref o_toEnd, g_toHome, g_found, g_foundCount, .int v_places])), (o_far, .inl (y 0, 49, .inl f_far)), (o_toEnd, .inl (y 0, 7, .inl e2))] H locs → lv_has ls 3 [] → W p l e (zR 1 40) s m args below meth c H locs 0 0 Q (F0 m 49 ls []) := by
    intro H locs ls hH hl
    have hr9 := Option.some.inj h
    obtain rfl := hr9
    rw [hQ]
    exact z_retv K hr hH [0, 1, 2] (by decide) rfl dX5_shortenFrom_49
  refine z_lp_ind (P := fun (s1 : Int32 × (Nat → Int32)) => ∀ (H : Heap) (locs : List Loc) (ls : Array Slot), z_H D A s.heap [(o, .inr (4, [.ref o_far, .ref o_toEnd, g_toHome, g_found, g_foundCount, .int v_places])), (o_far, .inl (y 0, 49, .inl f_far)), (o_toEnd, .inl (y 0, 7, .inl s1.2))] H locs → lv_has ls 3 [(0, .ref o), (1, .int p1), (2, .int s1.1)] → W p l e (zR 1 40) s m args below meth c H locs 0 0 Q (F0 m 2 ls [])) ?_ _ hlpe2 _ _ _ hH (lv_sub hl [1, 2, 0] rfl)
  clear h hlpe2
  intro s1 x3 h ihe2 hee2 H locs ls hH hl
  refine lv_iload_n K.x K.b dX5_shortenFrom_2 rfl (lv_at hl 2 rfl) ?_
  refine lv_aload_n K.x K.b dX5_shortenFrom_3 rfl (lv_at hl 0 rfl) ?_
  refine z_get K hH 0 rfl zin_5 rfl 5 (by decide) tw_1_138 (v := .int v_places) rfl dX5_shortenFrom_4 ?_
  refine lv_icmp_ge (tgt := 49) K.x K.b dX5_shortenFrom_7 (by decide) (fun c4 => ?_) (fun c4 => ?_)
  · replace h := z_t c4 h
    obtain rfl := hee2 _ (Option.some.inj h).symm
    exact KEe2 _ _ _ hH (lv_sub hl [] rfl)
  · replace h := z_f c4 h
    refine lv_iload_n K.x K.b dX5_shortenFrom_10 rfl (lv_at hl 2 rfl) ?_
    refine lv_iload_n K.x K.b dX5_shortenFrom_11 rfl (lv_at hl 1 rfl) ?_
    obtain ⟨j5, hj5, h⟩ := z_bd_e h
    have Kj5 : ∀ (H : Heap) (locs : List Loc) (ls : Array Slot), z_H D A s.heap [(o, .inr (4, [.ref o_far, .ref o_toEnd, g_toHome, g_found, g_foundCount, .int v_places])), (o_far, .inl (y 0, 49, .inl f_far)), (o_toEnd, .inl (y 0, 7, .inl j5))] H locs → lv_has ls 3 [(0, .ref o), (1, .int p1), (2, .int s1.1)] → W p l e (zR 1 40) s m args below meth c H locs 0 0 Q (F0 m 43 ls []) := by
      intro H locs ls hH hl
      obtain ⟨x6, ex6, h⟩ := z_lt_e h
      refine lv_iinc (v := x6) (lv' := [(2, .int x6), (0, .ref o), (1, .int p1)]) K.x K.b dX5_shortenFrom_43 hl (k := 2) rfl (by rw [ex6]; rfl) (by decide) rfl (fun ls hl => ?_)
      refine lv_goto (tgt := 2) K.x K.b dX5_shortenFrom_46 (by decide) ?_
      exact ihe2 _ (Option.some.inj h).symm _ _ _ hH (lv_sub hl [1, 2, 0] rfl)
    replace h := hj5
    refine lv_icmp_eq (tgt := 43) K.x K.b dX5_shortenFrom_12 (by decide) (fun c7 => ?_) (fun c7 => ?_)
    · replace h := z_t c7 h
      obtain rfl := Option.some.inj h
      exact Kj5 _ _ _ hH (lv_sub hl [0, 1, 2] rfl)
    · replace h := z_f c7 h
      refine lv_aload_n K.x K.b dX5_shortenFrom_15 rfl (lv_at hl 0 rfl) ?_
      refine z_get K hH 0 rfl zin_5 rfl 1 (by decide) tw_1_134 (v := .ref o_toEnd) rfl dX5_shortenFrom_16 ?_
      refine lv_iload_n K.x K.b dX5_shortenFrom_19 rfl (lv_at hl 1 rfl) ?_
      refine lv_aload_n K.x K.b dX5_shortenFrom_20 rfl (lv_at hl 0 rfl) ?_
      refine z_get K hH 0 rfl zin_5 rfl 1 (by decide) tw_1_134 (v := .ref o_toEnd) rfl dX5_shortenFrom_21 ?_
      refine lv_iload_n K.x K.b dX5_shortenFrom_24 rfl (lv_at hl 1 rfl) ?_
      obtain ⟨g8, h⟩ := z_gd_e h
      refine z_iald K hH 2 (k := p1.toNatClampNeg) rfl g8 rfl dX5_shortenFrom_25 ?_
      refine lv_aload_n K.x K.b dX5_shortenFrom_26 rfl (lv_at hl 0 rfl) ?_
      refine lv_iload_n K.x K.b dX5_shortenFrom_27 rfl (lv_at hl 1 rfl) ?_
      refine lv_iload_n K.x K.b dX5_shortenFrom_28 rfl (lv_at hl 2 rfl) ?_
      obtain ⟨r9, hr10, h⟩ := z_bd_e h
      refine z_Vi K hH hl.1 (c_X5_partCost l D y o o_far (.ref o_toEnd) (g_toHome) (g_found) (g_foundCount) (.int v_places) f_far p1 s1.1 r9 hr10) (z_cwV K 2 tw_3_76 tw_3_78 tw_0_19 tw_1_5 tw_3_79 hd_X5_partCost ⟨by decide, by decide⟩) [0, 1] [2] rfl (wr := [(o_toEnd, .inl (y 0, 7, .inl s1.2))]) rfl rfl rfl (by decide) rfl rfl rfl (As := [.int p1, .int s1.1]) (rest := [.int (s1.2 p1.toNatClampNeg), .int p1, .ref o_toEnd]) rfl (Nat.le_of_ble_eq_true rfl) ⟨Nat.zero_le _, Nat.zero_le _⟩ dX5_shortenFrom_29 (ws' := [(o_toEnd, .inl (y 0, 7, .inl s1.2)), (o, .inr (4, [.ref o_far, .ref o_toEnd, g_toHome, g_found, g_foundCount, .int v_places])), (o_far, .inl (y 0, 49, .inl f_far))]) rfl (fun H locs hH => ?_)
      refine lv_aload_n K.x K.b dX5_shortenFrom_32 rfl (lv_at hl 0 rfl) ?_
      refine z_get K hH 1 rfl zin_5 rfl 1 (by decide) tw_1_134 (v := .ref o_toEnd) rfl dX5_shortenFrom_33 ?_
      refine lv_iload_n K.x K.b dX5_shortenFrom_36 rfl (lv_at hl 2 rfl) ?_
      obtain ⟨g11, h⟩ := z_gd_e h
      refine z_iald K hH 0 (k := s1.1.toNatClampNeg) rfl g11 rfl dX5_shortenFrom_37 ?_
      refine lv_iadd K.x K.b dX5_shortenFrom_38 ?_
      obtain ⟨x12, ex12, h⟩ := z_lt_e h
      refine z_nm ex12 ?_
      obtain ⟨x13, ex13, h⟩ := z_lt_e h
      refine z_nm2 ex13 ?_
      refine z_mmin K hl.1 tw_3_80 tw_2_59 tw_1_9 tw_2_60 (by decide) (Nat.le_of_ble_eq_true rfl) ⟨Nat.zero_le _, Nat.zero_le _⟩ dX5_shortenFrom_39 ?_
      obtain ⟨x14, ex14, h⟩ := z_lt_e h
      refine z_nm ex14 ?_
      obtain ⟨g15, h⟩ := z_gd_e h
      obtain ⟨a16, ea16, h⟩ := z_lt_e h
      refine z_iast K hH 0 (k := p1.toNatClampNeg) (ws' := [(o_toEnd, .inl (y 0, 7, .inl a16)), (o, .inr (4, [.ref o_far, .ref o_toEnd, g_toHome, g_found, g_foundCount, .int v_places])), (o_far, .inl (y 0, 49, .inl f_far))]) rfl g15 rfl dX5_shortenFrom_42 (by rw [ea16]; rfl) (fun H locs hH => ?_)
      obtain rfl := Option.some.inj h
      exact Kj5 _ _ _ (hH.sub [1, 2, 0] (by decide) rfl) (lv_sub hl [0, 1, 2] rfl)
noncomputable def p_X5_firstStepFrom (v_places : Int32) (f_far : (Nat → Int32)) (f_toEnd : (Nat → Int32)) (p1 : Int32) : Option (Int32) :=
  z_bd (z_lp (S := Int32) (E := (Unit) ⊕ (Int32)) (fun s1 =>
  if (v_places ≤ s1) then
  (some (.inr (.inl ()))) else
  (if (s1 = p1) then
  (z_lt (s1 + (1 : Int32)) fun x7 =>
  some (.inl x7)) else
  (z_bd (p_X5_partCost f_far p1 s1) fun r8 =>
  z_gd (z_in s1 7) <|
  z_gd (z_in p1 7) <|
  if ((r8 + (f_toEnd s1.toNatClampNeg)) = (f_toEnd p1.toNatClampNeg)) then
  (some (.inr (.inr s1))) else
  (z_lt (s1 + (1 : Int32)) fun x13 =>
  some (.inl x13))))) (0 : Int32)) fun e2 =>
  Sum.elim (fun v3 =>
  some p1) (fun r14 => some r14) e2
theorem hd_X5_firstStepFrom : yX5_firstStepFrom.cls = RX5 ∧ yX5_firstStepFrom.cls ≠ "java/lang/invoke/MethodHandle" ∧ yX5_firstStepFrom.cls ≠ "java/lang/invoke/VarHandle" ∧ (parseMethodDescriptor yX5_firstStepFrom.desc).map (fun d => d.parameters.length) = some 1 := by decide +kernel
set_option maxHeartbeats 4000000 in
set_option maxRecDepth 100000 in
theorem c_X5_firstStepFrom (l : Launch) (D : va_G) (y : Nat → ClassId) (o o_far o_toEnd : Nat) (g_toHome g_found g_foundCount : Value) (v_places : Int32) (f_far : (Nat → Int32)) (f_toEnd : (Nat → Int32)) (p1 : Int32) (r : Int32) (h : p_X5_firstStepFrom v_places f_far f_toEnd p1 = some r) : z_MI l yX5_firstStepFrom cX5_firstStepFrom 3 (some .int) 1 22 D y [.ref o, .int p1] [(o, .inr (4, [.ref o_far, .ref o_toEnd, g_toHome, g_found, g_foundCount, .int v_places])), (o_far, .inl (y 0, 49, .inl f_far)), (o_toEnd, .inl (y 0, 7, .inl f_toEnd))] r [(o, .inr (4, [.ref o_far, .ref o_toEnd, g_toHome, g_found, g_foundCount, .int v_places])), (o_far, .inl (y 0, 49, .inl f_far)), (o_toEnd, .inl (y 0, 7, .inl f_toEnd))] := by
  unfold p_X5_firstStepFrom at h
  refine z_enI (by decide) (Nat.le_of_ble_eq_true rfl) ?_
  intro p e s m args below meth c A ls hr K hH hl
  obtain ⟨Q, hQ⟩ : ∃ Q, Q = MQ below (z_Qi D y A r [(o, .inr (4, [.ref o_far, .ref o_toEnd, g_toHome, g_found, g_foundCount, .int v_places])), (o_far, .inl (y 0, 49, .inl f_far)), (o_toEnd, .inl (y 0, 7, .inl f_toEnd))]) args s 0 0 A := ⟨_, rfl⟩
  rw [← hQ]
  have hl : lv_has ls 3 [(0, .ref o), (1, .int p1)] := hl
  refine lv_iconst (v := (0)) K.x K.b dX5_firstStepFrom_0 (by decide) ?_
  refine lv_istore_n (lv' := [(2, .int (0 : Int32)), (0, .ref o), (1, .int p1)]) K.x K.b dX5_firstStepFrom_1 rfl hl (by decide) rfl (fun ls hl => ?_)
  obtain ⟨e2, hlpe2, h⟩ := z_bd_e h
  have KRe2 : ∀ r14, e2 = .inr r14 → r14 = r := by
    intro r14 q9
    subst q9
    replace h := z_elr h
    have hr9 := Option.some.inj h
    exact hr9
  have KEe2 : ∀ v3, e2 = .inl v3 → ∀ (H : Heap) (locs : List Loc) (ls : Array Slot), z_H D A s.heap [(o, .inr (4, [.ref o_far, .ref o_toEnd, g_toHome, g_found, g_foundCount, .int v_places])), (o_far, .inl (y 0, 49, .inl f_far)), (o_toEnd, .inl (y 0, 7, .inl f_toEnd))] H locs → lv_has ls 3 [(1, .int p1)] → W p l e (zR 1 22) s m args below meth c H locs 0 0 Q (F0 m 45 ls []) := by
    intro v3 q9 H locs ls hH hl
    subst q9
    replace h := z_eli h
    refine lv_iload_n K.x K.b dX5_firstStepFrom_45 rfl (lv_at hl 0 rfl) ?_
    have hr9 := Option.some.inj h
    obtain rfl := hr9
    rw [hQ]
    exact z_reti K hr hH [0, 1, 2] (by decide) rfl rfl rfl dX5_firstStepFrom_46
  refine z_lp_ind (P := fun (s1 : Int32) => ∀ (H : Heap) (locs : List Loc) (ls : Array Slot), z_H D A s.heap [(o, .inr (4, [.ref o_far, .ref o_toEnd, g_toHome, g_found, g_foundCount, .int v_places])), (o_far, .inl (y 0, 49, .inl f_far)), (o_toEnd, .inl (y 0, 7, .inl f_toEnd))] H locs → lv_has ls 3 [(0, .ref o), (1, .int p1), (2, .int s1)] → W p l e (zR 1 22) s m args below meth c H locs 0 0 Q (F0 m 2 ls [])) ?_ _ hlpe2 _ _ _ hH (lv_sub hl [1, 2, 0] rfl)
  clear h hlpe2
  intro s1 x4 h ihe2 hee2 H locs ls hH hl
  refine lv_iload_n K.x K.b dX5_firstStepFrom_2 rfl (lv_at hl 2 rfl) ?_
  refine lv_aload_n K.x K.b dX5_firstStepFrom_3 rfl (lv_at hl 0 rfl) ?_
  refine z_get K hH 0 rfl zin_5 rfl 5 (by decide) tw_1_138 (v := .int v_places) rfl dX5_firstStepFrom_4 ?_
  refine lv_icmp_ge (tgt := 45) K.x K.b dX5_firstStepFrom_7 (by decide) (fun c5 => ?_) (fun c5 => ?_)
  · replace h := z_t c5 h
    exact KEe2 _ (hee2 _ (Option.some.inj h).symm).symm _ _ _ hH (lv_sub hl [1] rfl)
  · replace h := z_f c5 h
    refine lv_iload_n K.x K.b dX5_firstStepFrom_10 rfl (lv_at hl 2 rfl) ?_
    refine lv_iload_n K.x K.b dX5_firstStepFrom_11 rfl (lv_at hl 1 rfl) ?_
    refine lv_icmp_eq (tgt := 39) K.x K.b dX5_firstStepFrom_12 (by decide) (fun c6 => ?_) (fun c6 => ?_)
    · replace h := z_t c6 h
      obtain ⟨x7, ex7, h⟩ := z_lt_e h
      refine lv_iinc (v := x7) (lv' := [(2, .int x7), (0, .ref o), (1, .int p1)]) K.x K.b dX5_firstStepFrom_39 hl (k := 2) rfl (by rw [ex7]; rfl) (by decide) rfl (fun ls hl => ?_)
      refine lv_goto (tgt := 2) K.x K.b dX5_firstStepFrom_42 (by decide) ?_
      exact ihe2 _ (Option.some.inj h).symm _ _ _ hH (lv_sub hl [1, 2, 0] rfl)
    · replace h := z_f c6 h
      refine lv_aload_n K.x K.b dX5_firstStepFrom_15 rfl (lv_at hl 0 rfl) ?_
      refine lv_iload_n K.x K.b dX5_firstStepFrom_16 rfl (lv_at hl 1 rfl) ?_
      refine lv_iload_n K.x K.b dX5_firstStepFrom_17 rfl (lv_at hl 2 rfl) ?_
      obtain ⟨r8, hr9, h⟩ := z_bd_e h
      refine z_Vi K hH hl.1 (c_X5_partCost l D y o o_far (.ref o_toEnd) (g_toHome) (g_found) (g_foundCount) (.int v_places) f_far p1 s1 r8 hr9) (z_cwV K 2 tw_3_76 tw_3_78 tw_0_19 tw_1_5 tw_3_79 hd_X5_partCost ⟨by decide, by decide⟩) [0, 1] [2] rfl (wr := [(o_toEnd, .inl (y 0, 7, .inl f_toEnd))]) rfl rfl rfl (by decide) rfl rfl rfl (As := [.int p1, .int s1]) (rest := []) rfl (Nat.le_of_ble_eq_true rfl) ⟨Nat.zero_le _, Nat.zero_le _⟩ dX5_firstStepFrom_18 (ws' := [(o_toEnd, .inl (y 0, 7, .inl f_toEnd)), (o, .inr (4, [.ref o_far, .ref o_toEnd, g_toHome, g_found, g_foundCount, .int v_places])), (o_far, .inl (y 0, 49, .inl f_far))]) rfl (fun H locs hH => ?_)
      refine lv_aload_n K.x K.b dX5_firstStepFrom_21 rfl (lv_at hl 0 rfl) ?_
      refine z_get K hH 1 rfl zin_5 rfl 1 (by decide) tw_1_134 (v := .ref o_toEnd) rfl dX5_firstStepFrom_22 ?_
      refine lv_iload_n K.x K.b dX5_firstStepFrom_25 rfl (lv_at hl 2 rfl) ?_
      obtain ⟨g10, h⟩ := z_gd_e h
      refine z_iald K hH 0 (k := s1.toNatClampNeg) rfl g10 rfl dX5_firstStepFrom_26 ?_
      refine lv_iadd K.x K.b dX5_firstStepFrom_27 ?_
      refine lv_aload_n K.x K.b dX5_firstStepFrom_28 rfl (lv_at hl 0 rfl) ?_
      refine z_get K hH 1 rfl zin_5 rfl 1 (by decide) tw_1_134 (v := .ref o_toEnd) rfl dX5_firstStepFrom_29 ?_
      refine lv_iload_n K.x K.b dX5_firstStepFrom_32 rfl (lv_at hl 1 rfl) ?_
      obtain ⟨g11, h⟩ := z_gd_e h
      refine z_iald K hH 0 (k := p1.toNatClampNeg) rfl g11 rfl dX5_firstStepFrom_33 ?_
      refine lv_icmp_ne (tgt := 39) K.x K.b dX5_firstStepFrom_34 (by decide) (fun c12 => ?_) (fun c12 => ?_)
      · replace h := z_f c12 h
        obtain ⟨x13, ex13, h⟩ := z_lt_e h
        refine lv_iinc (v := x13) (lv' := [(2, .int x13), (0, .ref o), (1, .int p1)]) K.x K.b dX5_firstStepFrom_39 hl (k := 2) rfl (by rw [ex13]; rfl) (by decide) rfl (fun ls hl => ?_)
        refine lv_goto (tgt := 2) K.x K.b dX5_firstStepFrom_42 (by decide) ?_
        exact ihe2 _ (Option.some.inj h).symm _ _ _ (hH.sub [1, 2, 0] (by decide) rfl) (lv_sub hl [1, 2, 0] rfl)
      · replace h := z_t c12 h
        refine lv_iload_n K.x K.b dX5_firstStepFrom_37 rfl (lv_at hl 2 rfl) ?_
        have hr9 := KRe2 _ (hee2 _ (Option.some.inj h).symm).symm
        obtain rfl := hr9
        rw [hQ]
        exact z_reti K hr hH [1, 2, 0] (by decide) rfl rfl rfl dX5_firstStepFrom_38
noncomputable def p_X5_findWay (v_foundCount : Int32) (v_places : Int32) (f_far : (Nat → Int32)) (f_toEnd : (Nat → Int32)) (f_found : (Nat → Int32)) (p1 : Int32) (p2 : Int32) : Option (Int32 × Int32 × (Nat → Int32) × (Nat → Int32)) :=
  z_bd (z_lp (S := Int32 × (Nat → Int32)) (E := (Nat → Int32)) (fun s1 =>
  if (v_places ≤ s1.1) then
  (some (.inr s1.2)) else
  (z_bd (α := Int32) (if (s1.1 = p2) then
  (some (0 : Int32)) else
  (some (1000000 : Int32))) fun j28 =>
  z_gd (z_in s1.1 7) <|
  z_lt ((upd s1.2 s1.1.toNatClampNeg j28)) fun a30 =>
  z_lt (s1.1 + (1 : Int32)) fun x31 =>
  some (.inl (x31, a30)))) ((0 : Int32), f_toEnd)) fun e2 =>
  z_bd (z_lp (S := Int32 × (Nat → Int32)) (E := (Nat → Int32)) (fun s3 =>
  if (v_places ≤ s3.1) then
  (some (.inr s3.2)) else
  (z_bd (z_lp (S := Int32 × (Nat → Int32)) (E := (Nat → Int32)) (fun s18 =>
  if (v_places ≤ s18.1) then
  (some (.inr s18.2)) else
  (z_bd (p_X5_shortenFrom v_places f_far s18.2 s18.1) fun r23 =>
  z_lt (s18.1 + (1 : Int32)) fun x25 =>
  some (.inl (x25, r23)))) ((0 : Int32), s3.2)) fun e19 =>
  z_lt (s3.1 + (1 : Int32)) fun x20 =>
  some (.inl (x20, e19)))) ((1 : Int32), e2)) fun e4 =>
  z_bd (z_lp (S := Int32 × Int32 × Int32 × (Nat → Int32)) (E := Int32 × (Nat → Int32)) (fun s5 =>
  if (v_places ≤ s5.1) then
  (some (.inr (s5.2.2.1, s5.2.2.2))) else
  (if (s5.2.1 = p2) then
  (some (.inr (s5.2.2.1, s5.2.2.2))) else
  (z_bd (p_X5_firstStepFrom v_places f_far e4 s5.2.1) fun r11 =>
  z_bd (p_X5_addFound s5.2.2.1 s5.2.2.2 r11) fun r13 =>
  z_lt (s5.1 + (1 : Int32)) fun x15 =>
  some (.inl (x15, r11, r13.1, r13.2))))) ((0 : Int32), p1, v_foundCount, f_found)) fun e6 =>
  z_gd (z_in p1 7) <|
  some (((e4 p1.toNatClampNeg) / (8 : Int32)), e6.1, e4, e6.2)
theorem hd_X5_findWay : yX5_findWay.cls = RX5 ∧ yX5_findWay.cls ≠ "java/lang/invoke/MethodHandle" ∧ yX5_findWay.cls ≠ "java/lang/invoke/VarHandle" ∧ (parseMethodDescriptor yX5_findWay.desc).map (fun d => d.parameters.length) = some 2 := by decide +kernel
set_option maxHeartbeats 4000000 in
set_option maxRecDepth 100000 in
theorem c_X5_findWay (l : Launch) (D : va_G) (y : Nat → ClassId) (o o_far o_toEnd o_found : Nat) (g_toHome : Value) (v_foundCount : Int32) (v_places : Int32) (f_far : (Nat → Int32)) (f_toEnd : (Nat → Int32)) (f_found : (Nat → Int32)) (p1 : Int32) (p2 : Int32) (r : Int32 × Int32 × (Nat → Int32) × (Nat → Int32)) (h : p_X5_findWay v_foundCount v_places f_far f_toEnd f_found p1 p2 = some r) : z_MI l yX5_findWay cX5_findWay 5 (some .int) 2 62 D y [.ref o, .int p1, .int p2] [(o, .inr (4, [.ref o_far, .ref o_toEnd, g_toHome, .ref o_found, .int v_foundCount, .int v_places])), (o_far, .inl (y 0, 49, .inl f_far)), (o_toEnd, .inl (y 0, 7, .inl f_toEnd)), (o_found, .inl (y 0, 49, .inl f_found))] r.1 [(o, .inr (4, [.ref o_far, .ref o_toEnd, g_toHome, .ref o_found, .int r.2.1, .int v_places])), (o_far, .inl (y 0, 49, .inl f_far)), (o_toEnd, .inl (y 0, 7, .inl r.2.2.1)), (o_found, .inl (y 0, 49, .inl r.2.2.2))] := by
  unfold p_X5_findWay at h
  refine z_enI (by decide) (Nat.le_of_ble_eq_true rfl) ?_
  intro p e s m args below meth c A ls hr K hH hl
  obtain ⟨Q, hQ⟩ : ∃ Q, Q = MQ below (z_Qi D y A r.1 [(o, .inr (4, [.ref o_far, .ref o_toEnd, g_toHome, .ref o_found, .int r.2.1, .int v_places])), (o_far, .inl (y 0, 49, .inl f_far)), (o_toEnd, .inl (y 0, 7, .inl r.2.2.1)), (o_found, .inl (y 0, 49, .inl r.2.2.2))]) args s 0 0 A := ⟨_, rfl⟩
  rw [← hQ]
  have hl : lv_has ls 5 [(0, .ref o), (1, .int p1), (2, .int p2)] := hl
  refine lv_iconst (v := (0)) K.x K.b dX5_findWay_0 (by decide) ?_
  refine lv_istore_n (lv' := [(3, .int (0 : Int32)), (0, .ref o), (1, .int p1), (2, .int p2)]) K.x K.b dX5_findWay_1 rfl hl (by decide) rfl (fun ls hl => ?_)
  obtain ⟨e2, hlpe2, h⟩ := z_bd_e h
  have KEe2 : ∀ (H : Heap) (locs : List Loc) (ls : Array Slot), z_H D A s.heap [(o, .inr (4, [.ref o_far, .ref o_toEnd, g_toHome, .ref o_found, .int v_foundCount, .int v_places])), (o_far, .inl (y 0, 49, .inl f_far)), (o_toEnd, .inl (y 0, 7, .inl e2)), (o_found, .inl (y 0, 49, .inl f_found))] H locs → lv_has ls 5 [(0, .ref o), (1, .int p1), (2, .int p2)] → W p l e (zR 2 62) s m args below meth c H locs 0 0 Q (F0 m 33 ls []) := by
    intro H locs ls hH hl
    refine lv_iconst (v := (1)) K.x K.b dX5_findWay_33 (by decide) ?_
    refine lv_istore_n (lv' := [(3, .int (1 : Int32)), (0, .ref o), (1, .int p1), (2, .int p2)]) K.x K.b dX5_findWay_34 rfl hl (by decide) rfl (fun ls hl => ?_)
    obtain ⟨e4, hlpe4, h⟩ := z_bd_e h
    have KEe4 : ∀ (H : Heap) (locs : List Loc) (ls : Array Slot), z_H D A s.heap [(o, .inr (4, [.ref o_far, .ref o_toEnd, g_toHome, .ref o_found, .int v_foundCount, .int v_places])), (o_far, .inl (y 0, 49, .inl f_far)), (o_toEnd, .inl (y 0, 7, .inl e4)), (o_found, .inl (y 0, 49, .inl f_found))] H locs → lv_has ls 5 [(0, .ref o), (1, .int p1), (2, .int p2)] → W p l e (zR 2 62) s m args below meth c H locs 0 0 Q (F0 m 73 ls []) := by
      intro H locs ls hH hl
      refine lv_iload_n K.x K.b dX5_findWay_73 rfl (lv_at hl 1 rfl) ?_
      refine lv_istore_n (lv' := [(3, .int p1), (0, .ref o), (1, .int p1), (2, .int p2)]) K.x K.b dX5_findWay_74 rfl hl (by decide) rfl (fun ls hl => ?_)
      refine lv_iconst (v := (0)) K.x K.b dX5_findWay_75 (by decide) ?_
      refine lv_istore (lv' := [(4, .int (0 : Int32)), (3, .int p1), (0, .ref o), (1, .int p1), (2, .int p2)]) K.x K.b dX5_findWay_76 hl (by decide) rfl (fun ls hl => ?_)
      obtain ⟨e6, hlpe6, h⟩ := z_bd_e h
      have KEe6 : ∀ (H : Heap) (locs : List Loc) (ls : Array Slot), z_H D A s.heap [(o, .inr (4, [.ref o_far, .ref o_toEnd, g_toHome, .ref o_found, .int e6.1, .int v_places])), (o_far, .inl (y 0, 49, .inl f_far)), (o_toEnd, .inl (y 0, 7, .inl e4)), (o_found, .inl (y 0, 49, .inl e6.2))] H locs → lv_has ls 5 [(0, .ref o), (1, .int p1)] → W p l e (zR 2 62) s m args below meth c H locs 0 0 Q (F0 m 109 ls []) := by
        intro H locs ls hH hl
        refine lv_aload_n K.x K.b dX5_findWay_109 rfl (lv_at hl 0 rfl) ?_
        refine z_get K hH 0 rfl zin_5 rfl 1 (by decide) tw_1_134 (v := .ref o_toEnd) rfl dX5_findWay_110 ?_
        refine lv_iload_n K.x K.b dX5_findWay_113 rfl (lv_at hl 1 rfl) ?_
        obtain ⟨g7, h⟩ := z_gd_e h
        refine z_iald K hH 2 (k := p1.toNatClampNeg) rfl g7 rfl dX5_findWay_114 ?_
        refine lv_bipush (v := (8)) K.x K.b dX5_findWay_115 (by decide) ?_
        refine lv_idiv K.x K.b dX5_findWay_117 (by decide) ?_
        have hr9 := Option.some.inj h
        obtain rfl := hr9
        rw [hQ]
        exact z_reti K hr hH [0, 1, 2, 3] (by decide) rfl rfl rfl dX5_findWay_118
      refine z_lp_ind (P := fun (s5 : Int32 × Int32 × Int32 × (Nat → Int32)) => ∀ (H : Heap) (locs : List Loc) (ls : Array Slot), z_H D A s.heap [(o, .inr (4, [.ref o_far, .ref o_toEnd, g_toHome, .ref o_found, .int s5.2.2.1, .int v_places])), (o_far, .inl (y 0, 49, .inl f_far)), (o_toEnd, .inl (y 0, 7, .inl e4)), (o_found, .inl (y 0, 49, .inl s5.2.2.2))] H locs → lv_has ls 5 [(0, .ref o), (1, .int p1), (2, .int p2), (3, .int s5.2.1), (4, .int s5.1)] → W p l e (zR 2 62) s m args below meth c H locs 0 0 Q (F0 m 78 ls [])) ?_ _ hlpe6 _ _ _ hH (lv_sub hl [2, 3, 4, 1, 0] rfl)
      clear h hlpe6
      intro s5 x8 h ihe6 hee6 H locs ls hH hl
      refine lv_iload K.x K.b dX5_findWay_78 (lv_at hl 4 rfl) ?_
      refine lv_aload_n K.x K.b dX5_findWay_80 rfl (lv_at hl 0 rfl) ?_
      refine z_get K hH 0 rfl zin_5 rfl 5 (by decide) tw_1_138 (v := .int v_places) rfl dX5_findWay_81 ?_
      refine lv_icmp_ge (tgt := 109) K.x K.b dX5_findWay_84 (by decide) (fun c9 => ?_) (fun c9 => ?_)
      · replace h := z_t c9 h
        obtain rfl := hee6 _ (Option.some.inj h).symm
        exact KEe6 _ _ _ hH (lv_sub hl [0, 1] rfl)
      · replace h := z_f c9 h
        refine lv_iload_n K.x K.b dX5_findWay_87 rfl (lv_at hl 3 rfl) ?_
        refine lv_iload_n K.x K.b dX5_findWay_88 rfl (lv_at hl 2 rfl) ?_
        refine lv_icmp_eq (tgt := 109) K.x K.b dX5_findWay_89 (by decide) (fun c10 => ?_) (fun c10 => ?_)
        · replace h := z_t c10 h
          obtain rfl := hee6 _ (Option.some.inj h).symm
          exact KEe6 _ _ _ hH (lv_sub hl [0, 1] rfl)
        · replace h := z_f c10 h
          refine lv_aload_n K.x K.b dX5_findWay_92 rfl (lv_at hl 0 rfl) ?_
          refine lv_iload_n K.x K.b dX5_findWay_93 rfl (lv_at hl 3 rfl) ?_
          obtain ⟨r11, hr12, h⟩ := z_bd_e h
          refine z_Vi K hH hl.1 (c_X5_firstStepFrom l D y o o_far o_toEnd (g_toHome) (.ref o_found) (.int s5.2.2.1) v_places f_far e4 s5.2.1 r11 hr12) (z_cwV K 1 tw_3_81 tw_3_83 tw_0_20 tw_1_5 tw_3_84 hd_X5_firstStepFrom ⟨by decide, by decide⟩) [0, 1, 2] [3] rfl (wr := [(o_found, .inl (y 0, 49, .inl s5.2.2.2))]) rfl rfl rfl (by decide) rfl rfl rfl (As := [.int s5.2.1]) (rest := []) rfl (Nat.le_of_ble_eq_true rfl) ⟨Nat.zero_le _, Nat.zero_le _⟩ dX5_findWay_94 (ws' := [(o_found, .inl (y 0, 49, .inl s5.2.2.2)), (o, .inr (4, [.ref o_far, .ref o_toEnd, g_toHome, .ref o_found, .int s5.2.2.1, .int v_places])), (o_far, .inl (y 0, 49, .inl f_far)), (o_toEnd, .inl (y 0, 7, .inl e4))]) rfl (fun H locs hH => ?_)
          refine lv_istore_n (lv' := [(3, .int r11), (0, .ref o), (1, .int p1), (2, .int p2), (4, .int s5.1)]) K.x K.b dX5_findWay_97 rfl hl (by decide) rfl (fun ls hl => ?_)
          refine lv_aload_n K.x K.b dX5_findWay_98 rfl (lv_at hl 1 rfl) ?_
          refine lv_iload_n K.x K.b dX5_findWay_99 rfl (lv_at hl 0 rfl) ?_
          obtain ⟨r13, hr14, h⟩ := z_bd_e h
          refine z_Vv K hH hl.1 (c_X5_addFound l D y o o_found (.ref o_far) (.ref o_toEnd) (g_toHome) (.int v_places) s5.2.2.1 s5.2.2.2 r11 r13 hr14) (z_cwV K 1 tw_3_85 tw_3_87 tw_0_21 tw_1_5 tw_3_88 hd_X5_addFound ⟨by decide, by decide⟩) [1, 0] [2, 3] rfl (wr := [(o_far, .inl (y 0, 49, .inl f_far)), (o_toEnd, .inl (y 0, 7, .inl e4))]) rfl rfl rfl (by decide) rfl rfl rfl (As := [.int r11]) (rest := []) rfl (Nat.le_of_ble_eq_true rfl) ⟨Nat.zero_le _, Nat.zero_le _⟩ dX5_findWay_100 (ws' := [(o_far, .inl (y 0, 49, .inl f_far)), (o_toEnd, .inl (y 0, 7, .inl e4)), (o, .inr (4, [.ref o_far, .ref o_toEnd, g_toHome, .ref o_found, .int r13.1, .int v_places])), (o_found, .inl (y 0, 49, .inl r13.2))]) rfl (fun H locs hH => ?_)
          obtain ⟨x15, ex15, h⟩ := z_lt_e h
          refine lv_iinc (v := x15) (lv' := [(4, .int x15), (3, .int r11), (0, .ref o), (1, .int p1), (2, .int p2)]) K.x K.b dX5_findWay_103 hl (k := 4) rfl (by rw [ex15]; rfl) (by decide) rfl (fun ls hl => ?_)
          refine lv_goto (tgt := 78) K.x K.b dX5_findWay_106 (by decide) ?_
          exact ihe6 _ (Option.some.inj h).symm _ _ _ (hH.sub [2, 0, 1, 3] (by decide) rfl) (lv_sub hl [2, 3, 4, 1, 0] rfl)
    refine z_lp_ind (P := fun (s3 : Int32 × (Nat → Int32)) => ∀ (H : Heap) (locs : List Loc) (ls : Array Slot), z_H D A s.heap [(o, .inr (4, [.ref o_far, .ref o_toEnd, g_toHome, .ref o_found, .int v_foundCount, .int v_places])), (o_far, .inl (y 0, 49, .inl f_far)), (o_toEnd, .inl (y 0, 7, .inl s3.2)), (o_found, .inl (y 0, 49, .inl f_found))] H locs → lv_has ls 5 [(0, .ref o), (1, .int p1), (2, .int p2), (3, .int s3.1)] → W p l e (zR 2 62) s m args below meth c H locs 0 0 Q (F0 m 35 ls [])) ?_ _ hlpe4 _ _ _ hH (lv_sub hl [1, 2, 3, 0] rfl)
    clear h hlpe4
    intro s3 x16 h ihe4 hee4 H locs ls hH hl
    refine lv_iload_n K.x K.b dX5_findWay_35 rfl (lv_at hl 3 rfl) ?_
    refine lv_aload_n K.x K.b dX5_findWay_36 rfl (lv_at hl 0 rfl) ?_
    refine z_get K hH 0 rfl zin_5 rfl 5 (by decide) tw_1_138 (v := .int v_places) rfl dX5_findWay_37 ?_
    refine lv_icmp_ge (tgt := 73) K.x K.b dX5_findWay_40 (by decide) (fun c17 => ?_) (fun c17 => ?_)
    · replace h := z_t c17 h
      obtain rfl := hee4 _ (Option.some.inj h).symm
      exact KEe4 _ _ _ hH (lv_sub hl [0, 1, 2] rfl)
    · replace h := z_f c17 h
      refine lv_iconst (v := (0)) K.x K.b dX5_findWay_43 (by decide) ?_
      refine lv_istore (lv' := [(4, .int (0 : Int32)), (0, .ref o), (1, .int p1), (2, .int p2), (3, .int s3.1)]) K.x K.b dX5_findWay_44 hl (by decide) rfl (fun ls hl => ?_)
      obtain ⟨e19, hlpe19, h⟩ := z_bd_e h
      have KEe19 : ∀ (H : Heap) (locs : List Loc) (ls : Array Slot), z_H D A s.heap [(o, .inr (4, [.ref o_far, .ref o_toEnd, g_toHome, .ref o_found, .int v_foundCount, .int v_places])), (o_far, .inl (y 0, 49, .inl f_far)), (o_toEnd, .inl (y 0, 7, .inl e19)), (o_found, .inl (y 0, 49, .inl f_found))] H locs → lv_has ls 5 [(0, .ref o), (1, .int p1), (2, .int p2), (3, .int s3.1)] → W p l e (zR 2 62) s m args below meth c H locs 0 0 Q (F0 m 67 ls []) := by
        intro H locs ls hH hl
        obtain ⟨x20, ex20, h⟩ := z_lt_e h
        refine lv_iinc (v := x20) (lv' := [(3, .int x20), (0, .ref o), (1, .int p1), (2, .int p2)]) K.x K.b dX5_findWay_67 hl (k := 3) rfl (by rw [ex20]; rfl) (by decide) rfl (fun ls hl => ?_)
        refine lv_goto (tgt := 35) K.x K.b dX5_findWay_70 (by decide) ?_
        exact ihe4 _ (Option.some.inj h).symm _ _ _ hH (lv_sub hl [1, 2, 3, 0] rfl)
      refine z_lp_ind (P := fun (s18 : Int32 × (Nat → Int32)) => ∀ (H : Heap) (locs : List Loc) (ls : Array Slot), z_H D A s.heap [(o, .inr (4, [.ref o_far, .ref o_toEnd, g_toHome, .ref o_found, .int v_foundCount, .int v_places])), (o_far, .inl (y 0, 49, .inl f_far)), (o_toEnd, .inl (y 0, 7, .inl s18.2)), (o_found, .inl (y 0, 49, .inl f_found))] H locs → lv_has ls 5 [(0, .ref o), (1, .int p1), (2, .int p2), (3, .int s3.1), (4, .int s18.1)] → W p l e (zR 2 62) s m args below meth c H locs 0 0 Q (F0 m 46 ls [])) ?_ _ hlpe19 _ _ _ hH (lv_sub hl [1, 2, 3, 4, 0] rfl)
      clear h hlpe19
      intro s18 x21 h ihe19 hee19 H locs ls hH hl
      refine lv_iload K.x K.b dX5_findWay_46 (lv_at hl 4 rfl) ?_
      refine lv_aload_n K.x K.b dX5_findWay_48 rfl (lv_at hl 0 rfl) ?_
      refine z_get K hH 0 rfl zin_5 rfl 5 (by decide) tw_1_138 (v := .int v_places) rfl dX5_findWay_49 ?_
      refine lv_icmp_ge (tgt := 67) K.x K.b dX5_findWay_52 (by decide) (fun c22 => ?_) (fun c22 => ?_)
      · replace h := z_t c22 h
        obtain rfl := hee19 _ (Option.some.inj h).symm
        exact KEe19 _ _ _ hH (lv_sub hl [0, 1, 2, 3] rfl)
      · replace h := z_f c22 h
        refine lv_aload_n K.x K.b dX5_findWay_55 rfl (lv_at hl 0 rfl) ?_
        refine lv_iload K.x K.b dX5_findWay_56 (lv_at hl 4 rfl) ?_
        obtain ⟨r23, hr24, h⟩ := z_bd_e h
        refine z_Vv K hH hl.1 (c_X5_shortenFrom l D y o o_far o_toEnd (g_toHome) (.ref o_found) (.int v_foundCount) v_places f_far s18.2 s18.1 r23 hr24) (z_cwV K 1 tw_3_72 tw_3_74 tw_0_18 tw_1_5 tw_3_75 hd_X5_shortenFrom ⟨by decide, by decide⟩) [0, 1, 2] [3] rfl (wr := [(o_found, .inl (y 0, 49, .inl f_found))]) rfl rfl rfl (by decide) rfl rfl rfl (As := [.int s18.1]) (rest := []) rfl (Nat.le_of_ble_eq_true rfl) ⟨Nat.zero_le _, Nat.zero_le _⟩ dX5_findWay_58 (ws' := [(o_found, .inl (y 0, 49, .inl f_found)), (o, .inr (4, [.ref o_far, .ref o_toEnd, g_toHome, .ref o_found, .int v_foundCount, .int v_places])), (o_far, .inl (y 0, 49, .inl f_far)), (o_toEnd, .inl (y 0, 7, .inl r23))]) rfl (fun H locs hH => ?_)
        obtain ⟨x25, ex25, h⟩ := z_lt_e h
        refine lv_iinc (v := x25) (lv' := [(4, .int x25), (0, .ref o), (1, .int p1), (2, .int p2), (3, .int s3.1)]) K.x K.b dX5_findWay_61 hl (k := 4) rfl (by rw [ex25]; rfl) (by decide) rfl (fun ls hl => ?_)
        refine lv_goto (tgt := 46) K.x K.b dX5_findWay_64 (by decide) ?_
        exact ihe19 _ (Option.some.inj h).symm _ _ _ (hH.sub [1, 2, 3, 0] (by decide) rfl) (lv_sub hl [1, 2, 3, 4, 0] rfl)
  refine z_lp_ind (P := fun (s1 : Int32 × (Nat → Int32)) => ∀ (H : Heap) (locs : List Loc) (ls : Array Slot), z_H D A s.heap [(o, .inr (4, [.ref o_far, .ref o_toEnd, g_toHome, .ref o_found, .int v_foundCount, .int v_places])), (o_far, .inl (y 0, 49, .inl f_far)), (o_toEnd, .inl (y 0, 7, .inl s1.2)), (o_found, .inl (y 0, 49, .inl f_found))] H locs → lv_has ls 5 [(0, .ref o), (1, .int p1), (2, .int p2), (3, .int s1.1)] → W p l e (zR 2 62) s m args below meth c H locs 0 0 Q (F0 m 2 ls [])) ?_ _ hlpe2 _ _ _ hH (lv_sub hl [1, 2, 3, 0] rfl)
  clear h hlpe2
  intro s1 x26 h ihe2 hee2 H locs ls hH hl
  refine lv_iload_n K.x K.b dX5_findWay_2 rfl (lv_at hl 3 rfl) ?_
  refine lv_aload_n K.x K.b dX5_findWay_3 rfl (lv_at hl 0 rfl) ?_
  refine z_get K hH 0 rfl zin_5 rfl 5 (by decide) tw_1_138 (v := .int v_places) rfl dX5_findWay_4 ?_
  refine lv_icmp_ge (tgt := 33) K.x K.b dX5_findWay_7 (by decide) (fun c27 => ?_) (fun c27 => ?_)
  · replace h := z_t c27 h
    obtain rfl := hee2 _ (Option.some.inj h).symm
    exact KEe2 _ _ _ hH (lv_sub hl [0, 1, 2] rfl)
  · replace h := z_f c27 h
    refine lv_aload_n K.x K.b dX5_findWay_10 rfl (lv_at hl 0 rfl) ?_
    refine z_get K hH 0 rfl zin_5 rfl 1 (by decide) tw_1_134 (v := .ref o_toEnd) rfl dX5_findWay_11 ?_
    refine lv_iload_n K.x K.b dX5_findWay_14 rfl (lv_at hl 3 rfl) ?_
    refine lv_iload_n K.x K.b dX5_findWay_15 rfl (lv_at hl 3 rfl) ?_
    refine lv_iload_n K.x K.b dX5_findWay_16 rfl (lv_at hl 2 rfl) ?_
    obtain ⟨j28, hj28, h⟩ := z_bd_e h
    have Kj28 : ∀ (H : Heap) (locs : List Loc) (ls : Array Slot), z_H D A s.heap [(o, .inr (4, [.ref o_far, .ref o_toEnd, g_toHome, .ref o_found, .int v_foundCount, .int v_places])), (o_far, .inl (y 0, 49, .inl f_far)), (o_toEnd, .inl (y 0, 7, .inl s1.2)), (o_found, .inl (y 0, 49, .inl f_found))] H locs → lv_has ls 5 [(0, .ref o), (1, .int p1), (2, .int p2), (3, .int s1.1)] → W p l e (zR 2 62) s m args below meth c H locs 0 0 Q (F0 m 26 ls [.int j28, .int s1.1, .ref o_toEnd]) := by
      intro H locs ls hH hl
      obtain ⟨g29, h⟩ := z_gd_e h
      obtain ⟨a30, ea30, h⟩ := z_lt_e h
      refine z_iast K hH 2 (k := s1.1.toNatClampNeg) (ws' := [(o, .inr (4, [.ref o_far, .ref o_toEnd, g_toHome, .ref o_found, .int v_foundCount, .int v_places])), (o_far, .inl (y 0, 49, .inl f_far)), (o_toEnd, .inl (y 0, 7, .inl a30)), (o_found, .inl (y 0, 49, .inl f_found))]) rfl g29 rfl dX5_findWay_26 (by rw [ea30]; rfl) (fun H locs hH => ?_)
      obtain ⟨x31, ex31, h⟩ := z_lt_e h
      refine lv_iinc (v := x31) (lv' := [(3, .int x31), (0, .ref o), (1, .int p1), (2, .int p2)]) K.x K.b dX5_findWay_27 hl (k := 3) rfl (by rw [ex31]; rfl) (by decide) rfl (fun ls hl => ?_)
      refine lv_goto (tgt := 2) K.x K.b dX5_findWay_30 (by decide) ?_
      exact ihe2 _ (Option.some.inj h).symm _ _ _ hH (lv_sub hl [1, 2, 3, 0] rfl)
    replace h := hj28
    refine lv_icmp_ne (tgt := 24) K.x K.b dX5_findWay_17 (by decide) (fun c32 => ?_) (fun c32 => ?_)
    · replace h := z_f c32 h
      refine z_ldc K tw_3_71 dX5_findWay_24 ?_
      obtain rfl := Option.some.inj h
      exact Kj28 _ _ _ hH (lv_sub hl [0, 1, 2, 3] rfl)
    · replace h := z_t c32 h
      refine lv_iconst (v := (0)) K.x K.b dX5_findWay_20 (by decide) ?_
      refine lv_goto (tgt := 26) K.x K.b dX5_findWay_21 (by decide) ?_
      obtain rfl := Option.some.inj h
      exact Kj28 _ _ _ hH (lv_sub hl [0, 1, 2, 3] rfl)
def p_X5_homeOver (f_far : (Nat → Int32)) (f_toHome : (Nat → Int32)) (p1 : Int32) (p2 : Int32) (p3 : Int32) : Option (Int32) :=
  z_lt (((p2 * (7 : Int32)) + p3)) fun x1 =>
  z_gd (z_in x1 49) <|
  z_lt (((((p1 ||| ((1 : Int32) <<< (p3 &&& 31))) >>> ((1 : Int32) &&& 31)) * (7 : Int32)) + p3)) fun x3 =>
  z_gd (z_in x3 448) <|
  some ((f_far x1.toNatClampNeg) + (f_toHome x3.toNatClampNeg))
theorem hd_X5_homeOver : yX5_homeOver.cls = RX5 ∧ yX5_homeOver.cls ≠ "java/lang/invoke/MethodHandle" ∧ yX5_homeOver.cls ≠ "java/lang/invoke/VarHandle" ∧ (parseMethodDescriptor yX5_homeOver.desc).map (fun d => d.parameters.length) = some 3 := by decide +kernel
set_option maxHeartbeats 4000000 in
set_option maxRecDepth 100000 in
theorem c_X5_homeOver (l : Launch) (D : va_G) (y : Nat → ClassId) (o o_far o_toHome : Nat) (g_toEnd g_found g_foundCount g_places : Value) (f_far : (Nat → Int32)) (f_toHome : (Nat → Int32)) (p1 : Int32) (p2 : Int32) (p3 : Int32) (r : Int32) (h : p_X5_homeOver f_far f_toHome p1 p2 p3 = some r) : z_MI l yX5_homeOver cX5_homeOver 4 (some .int) 0 0 D y [.ref o, .int p1, .int p2, .int p3] [(o, .inr (4, [.ref o_far, g_toEnd, .ref o_toHome, g_found, g_foundCount, g_places])), (o_far, .inl (y 0, 49, .inl f_far)), (o_toHome, .inl (y 0, 448, .inl f_toHome))] r [(o, .inr (4, [.ref o_far, g_toEnd, .ref o_toHome, g_found, g_foundCount, g_places])), (o_far, .inl (y 0, 49, .inl f_far)), (o_toHome, .inl (y 0, 448, .inl f_toHome))] := by
  unfold p_X5_homeOver at h
  refine z_enI (by decide) (Nat.le_of_ble_eq_true rfl) ?_
  intro p e s m args below meth c A ls hr K hH hl
  obtain ⟨Q, hQ⟩ : ∃ Q, Q = MQ below (z_Qi D y A r [(o, .inr (4, [.ref o_far, g_toEnd, .ref o_toHome, g_found, g_foundCount, g_places])), (o_far, .inl (y 0, 49, .inl f_far)), (o_toHome, .inl (y 0, 448, .inl f_toHome))]) args s 0 0 A := ⟨_, rfl⟩
  rw [← hQ]
  have hl : lv_has ls 4 [(0, .ref o), (1, .int p1), (2, .int p2), (3, .int p3)] := hl
  refine lv_aload_n K.x K.b dX5_homeOver_0 rfl (lv_at hl 0 rfl) ?_
  refine z_get K hH 0 rfl zin_5 rfl 0 (by decide) tw_1_133 (v := .ref o_far) rfl dX5_homeOver_1 ?_
  refine lv_iload_n K.x K.b dX5_homeOver_4 rfl (lv_at hl 2 rfl) ?_
  refine lv_bipush (v := (7)) K.x K.b dX5_homeOver_5 (by decide) ?_
  refine lv_imul K.x K.b dX5_homeOver_7 ?_
  refine lv_iload_n K.x K.b dX5_homeOver_8 rfl (lv_at hl 3 rfl) ?_
  refine lv_iadd K.x K.b dX5_homeOver_9 ?_
  obtain ⟨x1, ex1, h⟩ := z_lt_e h
  refine z_nm ex1 ?_
  obtain ⟨g2, h⟩ := z_gd_e h
  refine z_iald K hH 1 (k := x1.toNatClampNeg) rfl g2 rfl dX5_homeOver_10 ?_
  refine lv_aload_n K.x K.b dX5_homeOver_11 rfl (lv_at hl 0 rfl) ?_
  refine z_get K hH 0 rfl zin_5 rfl 2 (by decide) tw_1_135 (v := .ref o_toHome) rfl dX5_homeOver_12 ?_
  refine lv_iload_n K.x K.b dX5_homeOver_15 rfl (lv_at hl 1 rfl) ?_
  refine lv_iconst (v := (1)) K.x K.b dX5_homeOver_16 (by decide) ?_
  refine lv_iload_n K.x K.b dX5_homeOver_17 rfl (lv_at hl 3 rfl) ?_
  refine lv_ishl K.x K.b dX5_homeOver_18 ?_
  refine lv_ior K.x K.b dX5_homeOver_19 ?_
  refine lv_iconst (v := (1)) K.x K.b dX5_homeOver_20 (by decide) ?_
  refine lv_ishr K.x K.b dX5_homeOver_21 ?_
  refine lv_bipush (v := (7)) K.x K.b dX5_homeOver_22 (by decide) ?_
  refine lv_imul K.x K.b dX5_homeOver_24 ?_
  refine lv_iload_n K.x K.b dX5_homeOver_25 rfl (lv_at hl 3 rfl) ?_
  refine lv_iadd K.x K.b dX5_homeOver_26 ?_
  obtain ⟨x3, ex3, h⟩ := z_lt_e h
  refine z_nm ex3 ?_
  obtain ⟨g4, h⟩ := z_gd_e h
  refine z_iald K hH 2 (k := x3.toNatClampNeg) rfl g4 rfl dX5_homeOver_27 ?_
  refine lv_iadd K.x K.b dX5_homeOver_28 ?_
  have hr9 := Option.some.inj h
  obtain rfl := hr9
  rw [hQ]
  exact z_reti K hr hH [0, 1, 2] (by decide) rfl rfl rfl dX5_homeOver_29
noncomputable def p_X5_nextOfRound (v_places : Int32) (f_far : (Nat → Int32)) (f_toHome : (Nat → Int32)) (p1 : Int32) (p2 : Int32) : Option (Int32) :=
  z_bd (z_lp (S := Int32 × Int32) (E := Int32) (fun s1 =>
  if (v_places ≤ s1.1) then
  (some (.inr s1.2)) else
  (z_bd (α := Int32) (if ((p1 &&& ((1 : Int32) <<< (s1.1 &&& 31))) = 0) then
  (if (s1.2 = 0) then
  (some s1.1) else
  (z_bd (p_X5_homeOver f_far f_toHome p1 p2 s1.1) fun r9 =>
  z_bd (p_X5_homeOver f_far f_toHome p1 p2 s1.2) fun r11 =>
  if (r11 ≤ r9) then
  (some s1.2) else
  (some s1.1))) else
  (some s1.2)) fun j5 =>
  z_lt (s1.1 + (1 : Int32)) fun x6 =>
  some (.inl (x6, j5)))) ((1 : Int32), (0 : Int32))) fun e2 =>
  some e2
theorem hd_X5_nextOfRound : yX5_nextOfRound.cls = RX5 ∧ yX5_nextOfRound.cls ≠ "java/lang/invoke/MethodHandle" ∧ yX5_nextOfRound.cls ≠ "java/lang/invoke/VarHandle" ∧ (parseMethodDescriptor yX5_nextOfRound.desc).map (fun d => d.parameters.length) = some 2 := by decide +kernel
set_option maxHeartbeats 4000000 in
set_option maxRecDepth 100000 in
theorem c_X5_nextOfRound (l : Launch) (D : va_G) (y : Nat → ClassId) (o o_far o_toHome : Nat) (g_toEnd g_found g_foundCount : Value) (v_places : Int32) (f_far : (Nat → Int32)) (f_toHome : (Nat → Int32)) (p1 : Int32) (p2 : Int32) (r : Int32) (h : p_X5_nextOfRound v_places f_far f_toHome p1 p2 = some r) : z_MI l yX5_nextOfRound cX5_nextOfRound 5 (some .int) 1 23 D y [.ref o, .int p1, .int p2] [(o, .inr (4, [.ref o_far, g_toEnd, .ref o_toHome, g_found, g_foundCount, .int v_places])), (o_far, .inl (y 0, 49, .inl f_far)), (o_toHome, .inl (y 0, 448, .inl f_toHome))] r [(o, .inr (4, [.ref o_far, g_toEnd, .ref o_toHome, g_found, g_foundCount, .int v_places])), (o_far, .inl (y 0, 49, .inl f_far)), (o_toHome, .inl (y 0, 448, .inl f_toHome))] := by
  unfold p_X5_nextOfRound at h
  refine z_enI (by decide) (Nat.le_of_ble_eq_true rfl) ?_
  intro p e s m args below meth c A ls hr K hH hl
  obtain ⟨Q, hQ⟩ : ∃ Q, Q = MQ below (z_Qi D y A r [(o, .inr (4, [.ref o_far, g_toEnd, .ref o_toHome, g_found, g_foundCount, .int v_places])), (o_far, .inl (y 0, 49, .inl f_far)), (o_toHome, .inl (y 0, 448, .inl f_toHome))]) args s 0 0 A := ⟨_, rfl⟩
  rw [← hQ]
  have hl : lv_has ls 5 [(0, .ref o), (1, .int p1), (2, .int p2)] := hl
  refine lv_iconst (v := (0)) K.x K.b dX5_nextOfRound_0 (by decide) ?_
  refine lv_istore_n (lv' := [(3, .int (0 : Int32)), (0, .ref o), (1, .int p1), (2, .int p2)]) K.x K.b dX5_nextOfRound_1 rfl hl (by decide) rfl (fun ls hl => ?_)
  refine lv_iconst (v := (1)) K.x K.b dX5_nextOfRound_2 (by decide) ?_
  refine lv_istore (lv' := [(4, .int (1 : Int32)), (3, .int (0 : Int32)), (0, .ref o), (1, .int p1), (2, .int p2)]) K.x K.b dX5_nextOfRound_3 hl (by decide) rfl (fun ls hl => ?_)
  obtain ⟨e2, hlpe2, h⟩ := z_bd_e h
  have KEe2 : ∀ (H : Heap) (locs : List Loc) (ls : Array Slot), z_H D A s.heap [(o, .inr (4, [.ref o_far, g_toEnd, .ref o_toHome, g_found, g_foundCount, .int v_places])), (o_far, .inl (y 0, 49, .inl f_far)), (o_toHome, .inl (y 0, 448, .inl f_toHome))] H locs → lv_has ls 5 [(3, .int e2)] → W p l e (zR 1 23) s m args below meth c H locs 0 0 Q (F0 m 54 ls []) := by
    intro H locs ls hH hl
    refine lv_iload_n K.x K.b dX5_nextOfRound_54 rfl (lv_at hl 0 rfl) ?_
    have hr9 := Option.some.inj h
    obtain rfl := hr9
    rw [hQ]
    exact z_reti K hr hH [0, 1, 2] (by decide) rfl rfl rfl dX5_nextOfRound_55
  refine z_lp_ind (P := fun (s1 : Int32 × Int32) => ∀ (H : Heap) (locs : List Loc) (ls : Array Slot), z_H D A s.heap [(o, .inr (4, [.ref o_far, g_toEnd, .ref o_toHome, g_found, g_foundCount, .int v_places])), (o_far, .inl (y 0, 49, .inl f_far)), (o_toHome, .inl (y 0, 448, .inl f_toHome))] H locs → lv_has ls 5 [(0, .ref o), (1, .int p1), (2, .int p2), (3, .int s1.2), (4, .int s1.1)] → W p l e (zR 1 23) s m args below meth c H locs 0 0 Q (F0 m 5 ls [])) ?_ _ hlpe2 _ _ _ hH (lv_sub hl [2, 3, 4, 1, 0] rfl)
  clear h hlpe2
  intro s1 x3 h ihe2 hee2 H locs ls hH hl
  refine lv_iload K.x K.b dX5_nextOfRound_5 (lv_at hl 4 rfl) ?_
  refine lv_aload_n K.x K.b dX5_nextOfRound_7 rfl (lv_at hl 0 rfl) ?_
  refine z_get K hH 0 rfl zin_5 rfl 5 (by decide) tw_1_138 (v := .int v_places) rfl dX5_nextOfRound_8 ?_
  refine lv_icmp_ge (tgt := 54) K.x K.b dX5_nextOfRound_11 (by decide) (fun c4 => ?_) (fun c4 => ?_)
  · replace h := z_t c4 h
    obtain rfl := hee2 _ (Option.some.inj h).symm
    exact KEe2 _ _ _ hH (lv_sub hl [3] rfl)
  · replace h := z_f c4 h
    refine lv_iload_n K.x K.b dX5_nextOfRound_14 rfl (lv_at hl 1 rfl) ?_
    refine lv_iconst (v := (1)) K.x K.b dX5_nextOfRound_15 (by decide) ?_
    refine lv_iload K.x K.b dX5_nextOfRound_16 (lv_at hl 4 rfl) ?_
    refine lv_ishl K.x K.b dX5_nextOfRound_18 ?_
    refine lv_iand K.x K.b dX5_nextOfRound_19 ?_
    obtain ⟨j5, hj5, h⟩ := z_bd_e h
    have Kj5 : ∀ (H : Heap) (locs : List Loc) (ls : Array Slot), z_H D A s.heap [(o, .inr (4, [.ref o_far, g_toEnd, .ref o_toHome, g_found, g_foundCount, .int v_places])), (o_far, .inl (y 0, 49, .inl f_far)), (o_toHome, .inl (y 0, 448, .inl f_toHome))] H locs → lv_has ls 5 [(0, .ref o), (1, .int p1), (2, .int p2), (3, .int j5), (4, .int s1.1)] → W p l e (zR 1 23) s m args below meth c H locs 0 0 Q (F0 m 48 ls []) := by
      intro H locs ls hH hl
      obtain ⟨x6, ex6, h⟩ := z_lt_e h
      refine lv_iinc (v := x6) (lv' := [(4, .int x6), (0, .ref o), (1, .int p1), (2, .int p2), (3, .int j5)]) K.x K.b dX5_nextOfRound_48 hl (k := 4) rfl (by rw [ex6]; rfl) (by decide) rfl (fun ls hl => ?_)
      refine lv_goto (tgt := 5) K.x K.b dX5_nextOfRound_51 (by decide) ?_
      exact ihe2 _ (Option.some.inj h).symm _ _ _ hH (lv_sub hl [1, 2, 3, 4, 0] rfl)
    replace h := hj5
    refine lv_if_ne (tgt := 48) K.x K.b dX5_nextOfRound_20 (by decide) (fun c7 => ?_) (fun c7 => ?_)
    · replace h := z_f c7 h
      obtain rfl := Option.some.inj h
      exact Kj5 _ _ _ hH (lv_sub hl [0, 1, 2, 3, 4] rfl)
    · replace h := z_t c7 h
      refine lv_iload_n K.x K.b dX5_nextOfRound_23 rfl (lv_at hl 3 rfl) ?_
      refine lv_if_eq (tgt := 45) K.x K.b dX5_nextOfRound_24 (by decide) (fun c8 => ?_) (fun c8 => ?_)
      · replace h := z_t c8 h
        refine lv_iload K.x K.b dX5_nextOfRound_45 (lv_at hl 4 rfl) ?_
        refine lv_istore_n (lv' := [(3, .int s1.1), (0, .ref o), (1, .int p1), (2, .int p2), (4, .int s1.1)]) K.x K.b dX5_nextOfRound_47 rfl hl (by decide) rfl (fun ls hl => ?_)
        obtain rfl := Option.some.inj h
        exact Kj5 _ _ _ hH (lv_sub hl [1, 2, 3, 0, 4] rfl)
      · replace h := z_f c8 h
        refine lv_aload_n K.x K.b dX5_nextOfRound_27 rfl (lv_at hl 0 rfl) ?_
        refine lv_iload_n K.x K.b dX5_nextOfRound_28 rfl (lv_at hl 1 rfl) ?_
        refine lv_iload_n K.x K.b dX5_nextOfRound_29 rfl (lv_at hl 2 rfl) ?_
        refine lv_iload K.x K.b dX5_nextOfRound_30 (lv_at hl 4 rfl) ?_
        obtain ⟨r9, hr10, h⟩ := z_bd_e h
        refine z_Vi K hH hl.1 (c_X5_homeOver l D y o o_far o_toHome (g_toEnd) (g_found) (g_foundCount) (.int v_places) f_far f_toHome p1 p2 s1.1 r9 hr10) (z_cwV K 3 tw_3_109 tw_3_111 tw_0_24 tw_1_5 tw_3_112 hd_X5_homeOver ⟨by decide, by decide⟩) [0, 1, 2] [] rfl (wr := []) rfl rfl rfl (by decide) rfl rfl rfl (As := [.int p1, .int p2, .int s1.1]) (rest := []) rfl (Nat.le_of_ble_eq_true rfl) ⟨Nat.zero_le _, Nat.zero_le _⟩ dX5_nextOfRound_32 (ws' := [(o, .inr (4, [.ref o_far, g_toEnd, .ref o_toHome, g_found, g_foundCount, .int v_places])), (o_far, .inl (y 0, 49, .inl f_far)), (o_toHome, .inl (y 0, 448, .inl f_toHome))]) rfl (fun H locs hH => ?_)
        refine lv_aload_n K.x K.b dX5_nextOfRound_35 rfl (lv_at hl 0 rfl) ?_
        refine lv_iload_n K.x K.b dX5_nextOfRound_36 rfl (lv_at hl 1 rfl) ?_
        refine lv_iload_n K.x K.b dX5_nextOfRound_37 rfl (lv_at hl 2 rfl) ?_
        refine lv_iload_n K.x K.b dX5_nextOfRound_38 rfl (lv_at hl 3 rfl) ?_
        obtain ⟨r11, hr12, h⟩ := z_bd_e h
        refine z_Vi K hH hl.1 (c_X5_homeOver l D y o o_far o_toHome (g_toEnd) (g_found) (g_foundCount) (.int v_places) f_far f_toHome p1 p2 s1.2 r11 hr12) (z_cwV K 3 tw_3_109 tw_3_111 tw_0_24 tw_1_5 tw_3_112 hd_X5_homeOver ⟨by decide, by decide⟩) [0, 1, 2] [] rfl (wr := []) rfl rfl rfl (by decide) rfl rfl rfl (As := [.int p1, .int p2, .int s1.2]) (rest := [.int r9]) rfl (Nat.le_of_ble_eq_true rfl) ⟨Nat.zero_le _, Nat.zero_le _⟩ dX5_nextOfRound_39 (ws' := [(o, .inr (4, [.ref o_far, g_toEnd, .ref o_toHome, g_found, g_foundCount, .int v_places])), (o_far, .inl (y 0, 49, .inl f_far)), (o_toHome, .inl (y 0, 448, .inl f_toHome))]) rfl (fun H locs hH => ?_)
        refine lv_icmp_ge (tgt := 48) K.x K.b dX5_nextOfRound_42 (by decide) (fun c13 => ?_) (fun c13 => ?_)
        · replace h := z_t c13 h
          obtain rfl := Option.some.inj h
          exact Kj5 _ _ _ hH (lv_sub hl [0, 1, 2, 3, 4] rfl)
        · replace h := z_f c13 h
          refine lv_iload K.x K.b dX5_nextOfRound_45 (lv_at hl 4 rfl) ?_
          refine lv_istore_n (lv' := [(3, .int s1.1), (0, .ref o), (1, .int p1), (2, .int p2), (4, .int s1.1)]) K.x K.b dX5_nextOfRound_47 rfl hl (by decide) rfl (fun ls hl => ?_)
          obtain rfl := Option.some.inj h
          exact Kj5 _ _ _ hH (lv_sub hl [1, 2, 3, 0, 4] rfl)
noncomputable def p_X5_leastHome (v_places : Int32) (f_far : (Nat → Int32)) (f_toHome : (Nat → Int32)) (p1 : Int32) (p2 : Int32) : Option (Int32) :=
  z_bd (p_X5_nextOfRound v_places f_far f_toHome p1 p2) fun r1 =>
  z_bd (α := Int32) (if (r1 = 0) then
  (z_lt ((p2 * (7 : Int32))) fun x7 =>
  z_gd (z_in x7 49) <|
  some (f_far x7.toNatClampNeg)) else
  (z_bd (p_X5_homeOver f_far f_toHome p1 p2 r1) fun r5 =>
  some r5)) fun j3 =>
  some j3
theorem hd_X5_leastHome : yX5_leastHome.cls = RX5 ∧ yX5_leastHome.cls ≠ "java/lang/invoke/MethodHandle" ∧ yX5_leastHome.cls ≠ "java/lang/invoke/VarHandle" ∧ (parseMethodDescriptor yX5_leastHome.desc).map (fun d => d.parameters.length) = some 2 := by decide +kernel
set_option maxHeartbeats 4000000 in
set_option maxRecDepth 100000 in
theorem c_X5_leastHome (l : Launch) (D : va_G) (y : Nat → ClassId) (o o_far o_toHome : Nat) (g_toEnd g_found g_foundCount : Value) (v_places : Int32) (f_far : (Nat → Int32)) (f_toHome : (Nat → Int32)) (p1 : Int32) (p2 : Int32) (r : Int32) (h : p_X5_leastHome v_places f_far f_toHome p1 p2 = some r) : z_MI l yX5_leastHome cX5_leastHome 4 (some .int) 2 47 D y [.ref o, .int p1, .int p2] [(o, .inr (4, [.ref o_far, g_toEnd, .ref o_toHome, g_found, g_foundCount, .int v_places])), (o_far, .inl (y 0, 49, .inl f_far)), (o_toHome, .inl (y 0, 448, .inl f_toHome))] r [(o, .inr (4, [.ref o_far, g_toEnd, .ref o_toHome, g_found, g_foundCount, .int v_places])), (o_far, .inl (y 0, 49, .inl f_far)), (o_toHome, .inl (y 0, 448, .inl f_toHome))] := by
  unfold p_X5_leastHome at h
  refine z_enI (by decide) (Nat.le_of_ble_eq_true rfl) ?_
  intro p e s m args below meth c A ls hr K hH hl
  obtain ⟨Q, hQ⟩ : ∃ Q, Q = MQ below (z_Qi D y A r [(o, .inr (4, [.ref o_far, g_toEnd, .ref o_toHome, g_found, g_foundCount, .int v_places])), (o_far, .inl (y 0, 49, .inl f_far)), (o_toHome, .inl (y 0, 448, .inl f_toHome))]) args s 0 0 A := ⟨_, rfl⟩
  rw [← hQ]
  have hl : lv_has ls 4 [(0, .ref o), (1, .int p1), (2, .int p2)] := hl
  refine lv_aload_n K.x K.b dX5_leastHome_0 rfl (lv_at hl 0 rfl) ?_
  refine lv_iload_n K.x K.b dX5_leastHome_1 rfl (lv_at hl 1 rfl) ?_
  refine lv_iload_n K.x K.b dX5_leastHome_2 rfl (lv_at hl 2 rfl) ?_
  obtain ⟨r1, hr2, h⟩ := z_bd_e h
  refine z_Vi K hH hl.1 (c_X5_nextOfRound l D y o o_far o_toHome (g_toEnd) (g_found) (g_foundCount) v_places f_far f_toHome p1 p2 r1 hr2) (z_cwV K 2 tw_3_105 tw_3_107 tw_0_23 tw_1_5 tw_3_108 hd_X5_nextOfRound ⟨by decide, by decide⟩) [0, 1, 2] [] rfl (wr := []) rfl rfl rfl (by decide) rfl rfl rfl (As := [.int p1, .int p2]) (rest := []) rfl (Nat.le_of_ble_eq_true rfl) ⟨Nat.zero_le _, Nat.zero_le _⟩ dX5_leastHome_3 (ws' := [(o, .inr (4, [.ref o_far, g_toEnd, .ref o_toHome, g_found, g_foundCount, .int v_places])), (o_far, .inl (y 0, 49, .inl f_far)), (o_toHome, .inl (y 0, 448, .inl f_toHome))]) rfl (fun H locs hH => ?_)
  refine lv_istore_n (lv' := [(3, .int r1), (0, .ref o), (1, .int p1), (2, .int p2)]) K.x K.b dX5_leastHome_6 rfl hl (by decide) rfl (fun ls hl => ?_)
  refine lv_iload_n K.x K.b dX5_leastHome_7 rfl (lv_at hl 0 rfl) ?_
  obtain ⟨j3, hj3, h⟩ := z_bd_e h
  have Kj3 : ∀ (H : Heap) (locs : List Loc) (ls : Array Slot), z_H D A s.heap [(o, .inr (4, [.ref o_far, g_toEnd, .ref o_toHome, g_found, g_foundCount, .int v_places])), (o_far, .inl (y 0, 49, .inl f_far)), (o_toHome, .inl (y 0, 448, .inl f_toHome))] H locs → lv_has ls 4 [] → W p l e (zR 2 47) s m args below meth c H locs 0 0 Q (F0 m 30 ls [.int j3]) := by
    intro H locs ls hH hl
    have hr9 := Option.some.inj h
    obtain rfl := hr9
    rw [hQ]
    exact z_reti K hr hH [0, 1, 2] (by decide) rfl rfl rfl dX5_leastHome_30
  replace h := hj3
  refine lv_if_ne (tgt := 23) K.x K.b dX5_leastHome_8 (by decide) (fun c4 => ?_) (fun c4 => ?_)
  · replace h := z_f c4 h
    refine lv_aload_n K.x K.b dX5_leastHome_23 rfl (lv_at hl 1 rfl) ?_
    refine lv_iload_n K.x K.b dX5_leastHome_24 rfl (lv_at hl 2 rfl) ?_
    refine lv_iload_n K.x K.b dX5_leastHome_25 rfl (lv_at hl 3 rfl) ?_
    refine lv_iload_n K.x K.b dX5_leastHome_26 rfl (lv_at hl 0 rfl) ?_
    obtain ⟨r5, hr6, h⟩ := z_bd_e h
    refine z_Vi K hH hl.1 (c_X5_homeOver l D y o o_far o_toHome (g_toEnd) (g_found) (g_foundCount) (.int v_places) f_far f_toHome p1 p2 r1 r5 hr6) (z_cwV K 3 tw_3_109 tw_3_111 tw_0_24 tw_1_5 tw_3_112 hd_X5_homeOver ⟨by decide, by decide⟩) [0, 1, 2] [] rfl (wr := []) rfl rfl rfl (by decide) rfl rfl rfl (As := [.int p1, .int p2, .int r1]) (rest := []) rfl (Nat.le_of_ble_eq_true rfl) ⟨Nat.zero_le _, Nat.zero_le _⟩ dX5_leastHome_27 (ws' := [(o, .inr (4, [.ref o_far, g_toEnd, .ref o_toHome, g_found, g_foundCount, .int v_places])), (o_far, .inl (y 0, 49, .inl f_far)), (o_toHome, .inl (y 0, 448, .inl f_toHome))]) rfl (fun H locs hH => ?_)
    obtain rfl := Option.some.inj h
    exact Kj3 _ _ _ hH (lv_sub hl [] rfl)
  · replace h := z_t c4 h
    refine lv_aload_n K.x K.b dX5_leastHome_11 rfl (lv_at hl 1 rfl) ?_
    refine z_get K hH 0 rfl zin_5 rfl 0 (by decide) tw_1_133 (v := .ref o_far) rfl dX5_leastHome_12 ?_
    refine lv_iload_n K.x K.b dX5_leastHome_15 rfl (lv_at hl 3 rfl) ?_
    refine lv_bipush (v := (7)) K.x K.b dX5_leastHome_16 (by decide) ?_
    refine lv_imul K.x K.b dX5_leastHome_18 ?_
    obtain ⟨x7, ex7, h⟩ := z_lt_e h
    refine z_nm ex7 ?_
    obtain ⟨g8, h⟩ := z_gd_e h
    refine z_iald K hH 1 (k := x7.toNatClampNeg) rfl g8 rfl dX5_leastHome_19 ?_
    refine lv_goto (tgt := 30) K.x K.b dX5_leastHome_20 (by decide) ?_
    obtain rfl := Option.some.inj h
    exact Kj3 _ _ _ hH (lv_sub hl [] rfl)
noncomputable def p_X5_findRound (v_foundCount : Int32) (v_places : Int32) (f_far : (Nat → Int32)) (f_toHome : (Nat → Int32)) (f_found : (Nat → Int32)) : Option (Int32 × Int32 × (Nat → Int32) × (Nat → Int32)) :=
  z_lt ((((1 : Int32) <<< (v_places &&& 31)) - (1 : Int32))) fun x1 =>
  z_bd (z_lp (S := Int32 × (Nat → Int32)) (E := (Nat → Int32)) (fun s2 =>
  if (s2.1 ≤ (1 : Int32)) then
  (some (.inr s2.2)) else
  (z_bd (z_lp (S := Int32 × (Nat → Int32)) (E := (Nat → Int32)) (fun s18 =>
  if (v_places ≤ s18.1) then
  (some (.inr s18.2)) else
  (z_bd (α := (Nat → Int32)) (if ((s2.1 &&& ((1 : Int32) <<< (s18.1 &&& 31))) = 0) then
  (some s18.2) else
  (z_bd (p_X5_leastHome v_places f_far s18.2 s2.1 s18.1) fun r26 =>
  z_lt ((((s2.1 >>> ((1 : Int32) &&& 31)) * (7 : Int32)) + s18.1)) fun x28 =>
  z_gd (z_in x28 448) <|
  z_lt ((upd s18.2 x28.toNatClampNeg r26)) fun a30 =>
  some a30)) fun j23 =>
  z_lt (s18.1 + (1 : Int32)) fun x24 =>
  some (.inl (x24, j23)))) ((1 : Int32), s2.2)) fun e19 =>
  z_lt (s2.1 + (-2 : Int32)) fun x20 =>
  some (.inl (x20, e19)))) (x1, f_toHome)) fun e3 =>
  z_bd (p_X5_leastHome v_places f_far e3 (1 : Int32) (0 : Int32)) fun r4 =>
  z_bd (z_lp (S := Int32 × Int32 × Int32 × (Nat → Int32) × Int32) (E := (Nat → Int32) × Int32) (fun s6 =>
  if (v_places ≤ s6.1) then
  (some (.inr (s6.2.2.2.1, s6.2.2.2.2))) else
  (z_bd (p_X5_nextOfRound v_places f_far e3 s6.2.1 s6.2.2.1) fun r10 =>
  z_lt ((s6.2.1 ||| ((1 : Int32) <<< (r10 &&& 31)))) fun x12 =>
  z_bd (p_X5_addFound s6.2.2.2.2 s6.2.2.2.1 r10) fun r13 =>
  z_lt (s6.1 + (1 : Int32)) fun x15 =>
  some (.inl (x15, x12, r10, r13.2, r13.1)))) ((1 : Int32), (1 : Int32), (0 : Int32), f_found, v_foundCount)) fun e7 =>
  some (r4, e7.2, e3, e7.1)
theorem hd_X5_findRound : yX5_findRound.cls = RX5 ∧ yX5_findRound.cls ≠ "java/lang/invoke/MethodHandle" ∧ yX5_findRound.cls ≠ "java/lang/invoke/VarHandle" ∧ (parseMethodDescriptor yX5_findRound.desc).map (fun d => d.parameters.length) = some 0 := by decide +kernel
set_option maxHeartbeats 4000000 in
set_option maxRecDepth 100000 in
theorem c_X5_findRound (l : Launch) (D : va_G) (y : Nat → ClassId) (o o_far o_toHome o_found : Nat) (g_toEnd : Value) (v_foundCount : Int32) (v_places : Int32) (f_far : (Nat → Int32)) (f_toHome : (Nat → Int32)) (f_found : (Nat → Int32)) (r : Int32 × Int32 × (Nat → Int32) × (Nat → Int32)) (h : p_X5_findRound v_foundCount v_places f_far f_toHome f_found = some r) : z_MI l yX5_findRound cX5_findRound 6 (some .int) 3 70 D y [.ref o] [(o, .inr (4, [.ref o_far, g_toEnd, .ref o_toHome, .ref o_found, .int v_foundCount, .int v_places])), (o_far, .inl (y 0, 49, .inl f_far)), (o_toHome, .inl (y 0, 448, .inl f_toHome)), (o_found, .inl (y 0, 49, .inl f_found))] r.1 [(o, .inr (4, [.ref o_far, g_toEnd, .ref o_toHome, .ref o_found, .int r.2.1, .int v_places])), (o_far, .inl (y 0, 49, .inl f_far)), (o_toHome, .inl (y 0, 448, .inl r.2.2.1)), (o_found, .inl (y 0, 49, .inl r.2.2.2))] := by
  unfold p_X5_findRound at h
  refine z_enI (by decide) (Nat.le_of_ble_eq_true rfl) ?_
  intro p e s m args below meth c A ls hr K hH hl
  obtain ⟨Q, hQ⟩ : ∃ Q, Q = MQ below (z_Qi D y A r.1 [(o, .inr (4, [.ref o_far, g_toEnd, .ref o_toHome, .ref o_found, .int r.2.1, .int v_places])), (o_far, .inl (y 0, 49, .inl f_far)), (o_toHome, .inl (y 0, 448, .inl r.2.2.1)), (o_found, .inl (y 0, 49, .inl r.2.2.2))]) args s 0 0 A := ⟨_, rfl⟩
  rw [← hQ]
  have hl : lv_has ls 6 [(0, .ref o)] := hl
  refine lv_iconst (v := (1)) K.x K.b dX5_findRound_0 (by decide) ?_
  refine lv_aload_n K.x K.b dX5_findRound_1 rfl (lv_at hl 0 rfl) ?_
  refine z_get K hH 0 rfl zin_5 rfl 5 (by decide) tw_1_138 (v := .int v_places) rfl dX5_findRound_2 ?_
  refine lv_ishl K.x K.b dX5_findRound_5 ?_
  refine lv_iconst (v := (1)) K.x K.b dX5_findRound_6 (by decide) ?_
  refine lv_isub K.x K.b dX5_findRound_7 ?_
  obtain ⟨x1, ex1, h⟩ := z_lt_e h
  refine z_nm ex1 ?_
  refine lv_istore_n (lv' := [(1, .int x1), (0, .ref o)]) K.x K.b dX5_findRound_8 rfl hl (by decide) rfl (fun ls hl => ?_)
  refine lv_iload_n K.x K.b dX5_findRound_9 rfl (lv_at hl 0 rfl) ?_
  refine lv_istore_n (lv' := [(2, .int x1), (1, .int x1), (0, .ref o)]) K.x K.b dX5_findRound_10 rfl hl (by decide) rfl (fun ls hl => ?_)
  obtain ⟨e3, hlpe3, h⟩ := z_bd_e h
  have KEe3 : ∀ (H : Heap) (locs : List Loc) (ls : Array Slot), z_H D A s.heap [(o, .inr (4, [.ref o_far, g_toEnd, .ref o_toHome, .ref o_found, .int v_foundCount, .int v_places])), (o_far, .inl (y 0, 49, .inl f_far)), (o_toHome, .inl (y 0, 448, .inl e3)), (o_found, .inl (y 0, 49, .inl f_found))] H locs → lv_has ls 6 [(0, .ref o)] → W p l e (zR 3 70) s m args below meth c H locs 0 0 Q (F0 m 65 ls []) := by
    intro H locs ls hH hl
    refine lv_aload_n K.x K.b dX5_findRound_65 rfl (lv_at hl 0 rfl) ?_
    refine lv_iconst (v := (1)) K.x K.b dX5_findRound_66 (by decide) ?_
    refine lv_iconst (v := (0)) K.x K.b dX5_findRound_67 (by decide) ?_
    obtain ⟨r4, hr5, h⟩ := z_bd_e h
    refine z_Vi K hH hl.1 (c_X5_leastHome l D y o o_far o_toHome (g_toEnd) (.ref o_found) (.int v_foundCount) v_places f_far e3 (1 : Int32) (0 : Int32) r4 hr5) (z_cwV K 2 tw_3_101 tw_3_103 tw_0_22 tw_1_5 tw_3_104 hd_X5_leastHome ⟨by decide, by decide⟩) [0, 1, 2] [3] rfl (wr := [(o_found, .inl (y 0, 49, .inl f_found))]) rfl rfl rfl (by decide) rfl rfl rfl (As := [.int (1 : Int32), .int (0 : Int32)]) (rest := []) rfl (Nat.le_of_ble_eq_true rfl) ⟨Nat.zero_le _, Nat.zero_le _⟩ dX5_findRound_68 (ws' := [(o_found, .inl (y 0, 49, .inl f_found)), (o, .inr (4, [.ref o_far, g_toEnd, .ref o_toHome, .ref o_found, .int v_foundCount, .int v_places])), (o_far, .inl (y 0, 49, .inl f_far)), (o_toHome, .inl (y 0, 448, .inl e3))]) rfl (fun H locs hH => ?_)
    refine lv_istore_n (lv' := [(2, .int r4), (0, .ref o)]) K.x K.b dX5_findRound_71 rfl hl (by decide) rfl (fun ls hl => ?_)
    refine lv_iconst (v := (0)) K.x K.b dX5_findRound_72 (by decide) ?_
    refine lv_istore_n (lv' := [(3, .int (0 : Int32)), (2, .int r4), (0, .ref o)]) K.x K.b dX5_findRound_73 rfl hl (by decide) rfl (fun ls hl => ?_)
    refine lv_iconst (v := (1)) K.x K.b dX5_findRound_74 (by decide) ?_
    refine lv_istore (lv' := [(4, .int (1 : Int32)), (3, .int (0 : Int32)), (2, .int r4), (0, .ref o)]) K.x K.b dX5_findRound_75 hl (by decide) rfl (fun ls hl => ?_)
    refine lv_iconst (v := (1)) K.x K.b dX5_findRound_77 (by decide) ?_
    refine lv_istore (lv' := [(5, .int (1 : Int32)), (4, .int (1 : Int32)), (3, .int (0 : Int32)), (2, .int r4), (0, .ref o)]) K.x K.b dX5_findRound_78 hl (by decide) rfl (fun ls hl => ?_)
    obtain ⟨e7, hlpe7, h⟩ := z_bd_e h
    have KEe7 : ∀ (H : Heap) (locs : List Loc) (ls : Array Slot), z_H D A s.heap [(o_found, .inl (y 0, 49, .inl e7.1)), (o, .inr (4, [.ref o_far, g_toEnd, .ref o_toHome, .ref o_found, .int e7.2, .int v_places])), (o_far, .inl (y 0, 49, .inl f_far)), (o_toHome, .inl (y 0, 448, .inl e3))] H locs → lv_has ls 6 [(2, .int r4)] → W p l e (zR 3 70) s m args below meth c H locs 0 0 Q (F0 m 116 ls []) := by
      intro H locs ls hH hl
      refine lv_iload_n K.x K.b dX5_findRound_116 rfl (lv_at hl 0 rfl) ?_
      have hr9 := Option.some.inj h
      obtain rfl := hr9
      rw [hQ]
      exact z_reti K hr hH [1, 2, 3, 0] (by decide) rfl rfl rfl dX5_findRound_117
    refine z_lp_ind (P := fun (s6 : Int32 × Int32 × Int32 × (Nat → Int32) × Int32) => ∀ (H : Heap) (locs : List Loc) (ls : Array Slot), z_H D A s.heap [(o_found, .inl (y 0, 49, .inl s6.2.2.2.1)), (o, .inr (4, [.ref o_far, g_toEnd, .ref o_toHome, .ref o_found, .int s6.2.2.2.2, .int v_places])), (o_far, .inl (y 0, 49, .inl f_far)), (o_toHome, .inl (y 0, 448, .inl e3))] H locs → lv_has ls 6 [(0, .ref o), (2, .int r4), (3, .int s6.2.2.1), (4, .int s6.2.1), (5, .int s6.1)] → W p l e (zR 3 70) s m args below meth c H locs 0 0 Q (F0 m 80 ls [])) ?_ _ hlpe7 _ _ _ hH (lv_sub hl [4, 3, 2, 1, 0] rfl)
    clear h hlpe7
    intro s6 x8 h ihe7 hee7 H locs ls hH hl
    refine lv_iload K.x K.b dX5_findRound_80 (lv_at hl 4 rfl) ?_
    refine lv_aload_n K.x K.b dX5_findRound_82 rfl (lv_at hl 0 rfl) ?_
    refine z_get K hH 1 rfl zin_5 rfl 5 (by decide) tw_1_138 (v := .int v_places) rfl dX5_findRound_83 ?_
    refine lv_icmp_ge (tgt := 116) K.x K.b dX5_findRound_86 (by decide) (fun c9 => ?_) (fun c9 => ?_)
    · replace h := z_t c9 h
      obtain rfl := hee7 _ (Option.some.inj h).symm
      exact KEe7 _ _ _ hH (lv_sub hl [1] rfl)
    · replace h := z_f c9 h
      refine lv_aload_n K.x K.b dX5_findRound_89 rfl (lv_at hl 0 rfl) ?_
      refine lv_iload K.x K.b dX5_findRound_90 (lv_at hl 3 rfl) ?_
      refine lv_iload_n K.x K.b dX5_findRound_92 rfl (lv_at hl 2 rfl) ?_
      obtain ⟨r10, hr11, h⟩ := z_bd_e h
      refine z_Vi K hH hl.1 (c_X5_nextOfRound l D y o o_far o_toHome (g_toEnd) (.ref o_found) (.int s6.2.2.2.2) v_places f_far e3 s6.2.1 s6.2.2.1 r10 hr11) (z_cwV K 2 tw_3_105 tw_3_107 tw_0_23 tw_1_5 tw_3_108 hd_X5_nextOfRound ⟨by decide, by decide⟩) [1, 2, 3] [0] rfl (wr := [(o_found, .inl (y 0, 49, .inl s6.2.2.2.1))]) rfl rfl rfl (by decide) rfl rfl rfl (As := [.int s6.2.1, .int s6.2.2.1]) (rest := []) rfl (Nat.le_of_ble_eq_true rfl) ⟨Nat.zero_le _, Nat.zero_le _⟩ dX5_findRound_93 (ws' := [(o_found, .inl (y 0, 49, .inl s6.2.2.2.1)), (o, .inr (4, [.ref o_far, g_toEnd, .ref o_toHome, .ref o_found, .int s6.2.2.2.2, .int v_places])), (o_far, .inl (y 0, 49, .inl f_far)), (o_toHome, .inl (y 0, 448, .inl e3))]) rfl (fun H locs hH => ?_)
      refine lv_istore_n (lv' := [(3, .int r10), (0, .ref o), (2, .int r4), (4, .int s6.2.1), (5, .int s6.1)]) K.x K.b dX5_findRound_96 rfl hl (by decide) rfl (fun ls hl => ?_)
      refine lv_iload K.x K.b dX5_findRound_97 (lv_at hl 3 rfl) ?_
      refine lv_iconst (v := (1)) K.x K.b dX5_findRound_99 (by decide) ?_
      refine lv_iload_n K.x K.b dX5_findRound_100 rfl (lv_at hl 0 rfl) ?_
      refine lv_ishl K.x K.b dX5_findRound_101 ?_
      refine lv_ior K.x K.b dX5_findRound_102 ?_
      obtain ⟨x12, ex12, h⟩ := z_lt_e h
      refine z_nm ex12 ?_
      refine lv_istore (lv' := [(4, .int x12), (3, .int r10), (0, .ref o), (2, .int r4), (5, .int s6.1)]) K.x K.b dX5_findRound_103 hl (by decide) rfl (fun ls hl => ?_)
      refine lv_aload_n K.x K.b dX5_findRound_105 rfl (lv_at hl 2 rfl) ?_
      refine lv_iload_n K.x K.b dX5_findRound_106 rfl (lv_at hl 1 rfl) ?_
      obtain ⟨r13, hr14, h⟩ := z_bd_e h
      refine z_Vv K hH hl.1 (c_X5_addFound l D y o o_found (.ref o_far) (g_toEnd) (.ref o_toHome) (.int v_places) s6.2.2.2.2 s6.2.2.2.1 r10 r13 hr14) (z_cwV K 1 tw_3_85 tw_3_87 tw_0_21 tw_1_5 tw_3_88 hd_X5_addFound ⟨by decide, by decide⟩) [1, 0] [2, 3] rfl (wr := [(o_far, .inl (y 0, 49, .inl f_far)), (o_toHome, .inl (y 0, 448, .inl e3))]) rfl rfl rfl (by decide) rfl rfl rfl (As := [.int r10]) (rest := []) rfl (Nat.le_of_ble_eq_true rfl) ⟨Nat.zero_le _, Nat.zero_le _⟩ dX5_findRound_107 (ws' := [(o_far, .inl (y 0, 49, .inl f_far)), (o_toHome, .inl (y 0, 448, .inl e3)), (o, .inr (4, [.ref o_far, g_toEnd, .ref o_toHome, .ref o_found, .int r13.1, .int v_places])), (o_found, .inl (y 0, 49, .inl r13.2))]) rfl (fun H locs hH => ?_)
      obtain ⟨x15, ex15, h⟩ := z_lt_e h
      refine lv_iinc (v := x15) (lv' := [(5, .int x15), (4, .int x12), (3, .int r10), (0, .ref o), (2, .int r4)]) K.x K.b dX5_findRound_110 hl (k := 4) rfl (by rw [ex15]; rfl) (by decide) rfl (fun ls hl => ?_)
      refine lv_goto (tgt := 80) K.x K.b dX5_findRound_113 (by decide) ?_
      exact ihe7 _ (Option.some.inj h).symm _ _ _ (hH.sub [3, 2, 0, 1] (by decide) rfl) (lv_sub hl [3, 4, 2, 1, 0] rfl)
  refine z_lp_ind (P := fun (s2 : Int32 × (Nat → Int32)) => ∀ (H : Heap) (locs : List Loc) (ls : Array Slot), z_H D A s.heap [(o, .inr (4, [.ref o_far, g_toEnd, .ref o_toHome, .ref o_found, .int v_foundCount, .int v_places])), (o_far, .inl (y 0, 49, .inl f_far)), (o_toHome, .inl (y 0, 448, .inl s2.2)), (o_found, .inl (y 0, 49, .inl f_found))] H locs → lv_has ls 6 [(0, .ref o), (2, .int s2.1)] → W p l e (zR 3 70) s m args below meth c H locs 0 0 Q (F0 m 11 ls [])) ?_ _ hlpe3 _ _ _ hH (lv_sub hl [2, 0] rfl)
  clear h hlpe3
  intro s2 x16 h ihe3 hee3 H locs ls hH hl
  refine lv_iload_n K.x K.b dX5_findRound_11 rfl (lv_at hl 1 rfl) ?_
  refine lv_iconst (v := (1)) K.x K.b dX5_findRound_12 (by decide) ?_
  refine lv_icmp_le (tgt := 65) K.x K.b dX5_findRound_13 (by decide) (fun c17 => ?_) (fun c17 => ?_)
  · replace h := z_t c17 h
    obtain rfl := hee3 _ (Option.some.inj h).symm
    exact KEe3 _ _ _ hH (lv_sub hl [0] rfl)
  · replace h := z_f c17 h
    refine lv_iconst (v := (1)) K.x K.b dX5_findRound_16 (by decide) ?_
    refine lv_istore_n (lv' := [(3, .int (1 : Int32)), (0, .ref o), (2, .int s2.1)]) K.x K.b dX5_findRound_17 rfl hl (by decide) rfl (fun ls hl => ?_)
    obtain ⟨e19, hlpe19, h⟩ := z_bd_e h
    have KEe19 : ∀ (H : Heap) (locs : List Loc) (ls : Array Slot), z_H D A s.heap [(o, .inr (4, [.ref o_far, g_toEnd, .ref o_toHome, .ref o_found, .int v_foundCount, .int v_places])), (o_far, .inl (y 0, 49, .inl f_far)), (o_toHome, .inl (y 0, 448, .inl e19)), (o_found, .inl (y 0, 49, .inl f_found))] H locs → lv_has ls 6 [(0, .ref o), (2, .int s2.1)] → W p l e (zR 3 70) s m args below meth c H locs 0 0 Q (F0 m 59 ls []) := by
      intro H locs ls hH hl
      obtain ⟨x20, ex20, h⟩ := z_lt_e h
      refine lv_iinc (v := x20) (lv' := [(2, .int x20), (0, .ref o)]) K.x K.b dX5_findRound_59 hl (k := 1) rfl (by rw [ex20]; rfl) (by decide) rfl (fun ls hl => ?_)
      refine lv_goto (tgt := 11) K.x K.b dX5_findRound_62 (by decide) ?_
      exact ihe3 _ (Option.some.inj h).symm _ _ _ hH (lv_sub hl [1, 0] rfl)
    refine z_lp_ind (P := fun (s18 : Int32 × (Nat → Int32)) => ∀ (H : Heap) (locs : List Loc) (ls : Array Slot), z_H D A s.heap [(o, .inr (4, [.ref o_far, g_toEnd, .ref o_toHome, .ref o_found, .int v_foundCount, .int v_places])), (o_far, .inl (y 0, 49, .inl f_far)), (o_toHome, .inl (y 0, 448, .inl s18.2)), (o_found, .inl (y 0, 49, .inl f_found))] H locs → lv_has ls 6 [(0, .ref o), (2, .int s2.1), (3, .int s18.1)] → W p l e (zR 3 70) s m args below meth c H locs 0 0 Q (F0 m 18 ls [])) ?_ _ hlpe19 _ _ _ hH (lv_sub hl [1, 2, 0] rfl)
    clear h hlpe19
    intro s18 x21 h ihe19 hee19 H locs ls hH hl
    refine lv_iload_n K.x K.b dX5_findRound_18 rfl (lv_at hl 2 rfl) ?_
    refine lv_aload_n K.x K.b dX5_findRound_19 rfl (lv_at hl 0 rfl) ?_
    refine z_get K hH 0 rfl zin_5 rfl 5 (by decide) tw_1_138 (v := .int v_places) rfl dX5_findRound_20 ?_
    refine lv_icmp_ge (tgt := 59) K.x K.b dX5_findRound_23 (by decide) (fun c22 => ?_) (fun c22 => ?_)
    · replace h := z_t c22 h
      obtain rfl := hee19 _ (Option.some.inj h).symm
      exact KEe19 _ _ _ hH (lv_sub hl [0, 1] rfl)
    · replace h := z_f c22 h
      refine lv_iload_n K.x K.b dX5_findRound_26 rfl (lv_at hl 1 rfl) ?_
      refine lv_iconst (v := (1)) K.x K.b dX5_findRound_27 (by decide) ?_
      refine lv_iload_n K.x K.b dX5_findRound_28 rfl (lv_at hl 2 rfl) ?_
      refine lv_ishl K.x K.b dX5_findRound_29 ?_
      refine lv_iand K.x K.b dX5_findRound_30 ?_
      obtain ⟨j23, hj23, h⟩ := z_bd_e h
      have Kj23 : ∀ (H : Heap) (locs : List Loc) (ls : Array Slot), z_H D A s.heap [(o, .inr (4, [.ref o_far, g_toEnd, .ref o_toHome, .ref o_found, .int v_foundCount, .int v_places])), (o_far, .inl (y 0, 49, .inl f_far)), (o_toHome, .inl (y 0, 448, .inl j23)), (o_found, .inl (y 0, 49, .inl f_found))] H locs → lv_has ls 6 [(0, .ref o), (2, .int s2.1), (3, .int s18.1)] → W p l e (zR 3 70) s m args below meth c H locs 0 0 Q (F0 m 53 ls []) := by
        intro H locs ls hH hl
        obtain ⟨x24, ex24, h⟩ := z_lt_e h
        refine lv_iinc (v := x24) (lv' := [(3, .int x24), (0, .ref o), (2, .int s2.1)]) K.x K.b dX5_findRound_53 hl (k := 2) rfl (by rw [ex24]; rfl) (by decide) rfl (fun ls hl => ?_)
        refine lv_goto (tgt := 18) K.x K.b dX5_findRound_56 (by decide) ?_
        exact ihe19 _ (Option.some.inj h).symm _ _ _ hH (lv_sub hl [1, 2, 0] rfl)
      replace h := hj23
      refine lv_if_eq (tgt := 53) K.x K.b dX5_findRound_31 (by decide) (fun c25 => ?_) (fun c25 => ?_)
      · replace h := z_t c25 h
        obtain rfl := Option.some.inj h
        exact Kj23 _ _ _ hH (lv_sub hl [0, 1, 2] rfl)
      · replace h := z_f c25 h
        refine lv_aload_n K.x K.b dX5_findRound_34 rfl (lv_at hl 0 rfl) ?_
        refine z_get K hH 0 rfl zin_5 rfl 2 (by decide) tw_1_135 (v := .ref o_toHome) rfl dX5_findRound_35 ?_
        refine lv_iload_n K.x K.b dX5_findRound_38 rfl (lv_at hl 1 rfl) ?_
        refine lv_iconst (v := (1)) K.x K.b dX5_findRound_39 (by decide) ?_
        refine lv_ishr K.x K.b dX5_findRound_40 ?_
        refine lv_bipush (v := (7)) K.x K.b dX5_findRound_41 (by decide) ?_
        refine lv_imul K.x K.b dX5_findRound_43 ?_
        refine lv_iload_n K.x K.b dX5_findRound_44 rfl (lv_at hl 2 rfl) ?_
        refine lv_iadd K.x K.b dX5_findRound_45 ?_
        refine lv_aload_n K.x K.b dX5_findRound_46 rfl (lv_at hl 0 rfl) ?_
        refine lv_iload_n K.x K.b dX5_findRound_47 rfl (lv_at hl 1 rfl) ?_
        refine lv_iload_n K.x K.b dX5_findRound_48 rfl (lv_at hl 2 rfl) ?_
        obtain ⟨r26, hr27, h⟩ := z_bd_e h
        refine z_Vi K hH hl.1 (c_X5_leastHome l D y o o_far o_toHome (g_toEnd) (.ref o_found) (.int v_foundCount) v_places f_far s18.2 s2.1 s18.1 r26 hr27) (z_cwV K 2 tw_3_101 tw_3_103 tw_0_22 tw_1_5 tw_3_104 hd_X5_leastHome ⟨by decide, by decide⟩) [0, 1, 2] [3] rfl (wr := [(o_found, .inl (y 0, 49, .inl f_found))]) rfl rfl rfl (by decide) rfl rfl rfl (As := [.int s2.1, .int s18.1]) (rest := [.int (((s2.1 >>> ((1 : Int32) &&& 31)) * (7 : Int32)) + s18.1), .ref o_toHome]) rfl (Nat.le_of_ble_eq_true rfl) ⟨Nat.zero_le _, Nat.zero_le _⟩ dX5_findRound_49 (ws' := [(o_found, .inl (y 0, 49, .inl f_found)), (o, .inr (4, [.ref o_far, g_toEnd, .ref o_toHome, .ref o_found, .int v_foundCount, .int v_places])), (o_far, .inl (y 0, 49, .inl f_far)), (o_toHome, .inl (y 0, 448, .inl s18.2))]) rfl (fun H locs hH => ?_)
        obtain ⟨x28, ex28, h⟩ := z_lt_e h
        refine z_nm2 ex28 ?_
        obtain ⟨g29, h⟩ := z_gd_e h
        obtain ⟨a30, ea30, h⟩ := z_lt_e h
        refine z_iast K hH 3 (k := x28.toNatClampNeg) (ws' := [(o_found, .inl (y 0, 49, .inl f_found)), (o, .inr (4, [.ref o_far, g_toEnd, .ref o_toHome, .ref o_found, .int v_foundCount, .int v_places])), (o_far, .inl (y 0, 49, .inl f_far)), (o_toHome, .inl (y 0, 448, .inl a30))]) rfl g29 rfl dX5_findRound_52 (by rw [ea30]; rfl) (fun H locs hH => ?_)
        obtain rfl := Option.some.inj h
        exact Kj23 _ _ _ (hH.sub [1, 2, 3, 0] (by decide) rfl) (lv_sub hl [0, 1, 2] rfl)
noncomputable def p_X5_hasShortcut (v_places : Int32) (f_far : (Nat → Int32)) (p1 : Int32) (p2 : Int32) : Option (Int32) :=
  z_bd (z_lp (S := Int32) (E := (Unit) ⊕ (Int32)) (fun s1 =>
  if (v_places ≤ s1) then
  (some (.inr (.inl ()))) else
  (if (s1 = p1) then
  (z_lt (s1 + (1 : Int32)) fun x7 =>
  some (.inl x7)) else
  (if (s1 = p2) then
  (z_lt (s1 + (1 : Int32)) fun x9 =>
  some (.inl x9)) else
  (z_lt (((p1 * (7 : Int32)) + s1)) fun x10 =>
  z_gd (z_in x10 49) <|
  z_lt (((s1 * (7 : Int32)) + p2)) fun x12 =>
  z_gd (z_in x12 49) <|
  z_lt (((p1 * (7 : Int32)) + p2)) fun x14 =>
  z_gd (z_in x14 49) <|
  if ((f_far x14.toNatClampNeg) ≤ ((f_far x10.toNatClampNeg) + (f_far x12.toNatClampNeg))) then
  (z_lt (s1 + (1 : Int32)) fun x17 =>
  some (.inl x17)) else
  (some (.inr (.inr (1 : Int32)))))))) (0 : Int32)) fun e2 =>
  Sum.elim (fun v3 =>
  some (0 : Int32)) (fun r18 => some r18) e2
theorem hd_X5_hasShortcut : yX5_hasShortcut.cls = RX5 ∧ yX5_hasShortcut.cls ≠ "java/lang/invoke/MethodHandle" ∧ yX5_hasShortcut.cls ≠ "java/lang/invoke/VarHandle" ∧ (parseMethodDescriptor yX5_hasShortcut.desc).map (fun d => d.parameters.length) = some 2 := by decide +kernel
set_option maxHeartbeats 4000000 in
set_option maxRecDepth 100000 in
theorem c_X5_hasShortcut (l : Launch) (D : va_G) (y : Nat → ClassId) (o o_far : Nat) (g_toEnd g_toHome g_found g_foundCount : Value) (v_places : Int32) (f_far : (Nat → Int32)) (p1 : Int32) (p2 : Int32) (r : Int32) (h : p_X5_hasShortcut v_places f_far p1 p2 = some r) : z_MI l yX5_hasShortcut cX5_hasShortcut 4 (some .boolean) 0 0 D y [.ref o, .int p1, .int p2] [(o, .inr (4, [.ref o_far, g_toEnd, g_toHome, g_found, g_foundCount, .int v_places])), (o_far, .inl (y 0, 49, .inl f_far))] r [(o, .inr (4, [.ref o_far, g_toEnd, g_toHome, g_found, g_foundCount, .int v_places])), (o_far, .inl (y 0, 49, .inl f_far))] := by
  unfold p_X5_hasShortcut at h
  refine z_enI (by decide) (Nat.le_of_ble_eq_true rfl) ?_
  intro p e s m args below meth c A ls hr K hH hl
  obtain ⟨Q, hQ⟩ : ∃ Q, Q = MQ below (z_Qi D y A r [(o, .inr (4, [.ref o_far, g_toEnd, g_toHome, g_found, g_foundCount, .int v_places])), (o_far, .inl (y 0, 49, .inl f_far))]) args s 0 0 A := ⟨_, rfl⟩
  rw [← hQ]
  have hl : lv_has ls 4 [(0, .ref o), (1, .int p1), (2, .int p2)] := hl
  refine lv_iconst (v := (0)) K.x K.b dX5_hasShortcut_0 (by decide) ?_
  refine lv_istore_n (lv' := [(3, .int (0 : Int32)), (0, .ref o), (1, .int p1), (2, .int p2)]) K.x K.b dX5_hasShortcut_1 rfl hl (by decide) rfl (fun ls hl => ?_)
  obtain ⟨e2, hlpe2, h⟩ := z_bd_e h
  have KRe2 : ∀ r18, e2 = .inr r18 → r18 = r := by
    intro r18 q9
    subst q9
    replace h := z_elr h
    have hr9 := Option.some.inj h
    exact hr9
  have KEe2 : ∀ v3, e2 = .inl v3 → ∀ (H : Heap) (locs : List Loc) (ls : Array Slot), z_H D A s.heap [(o, .inr (4, [.ref o_far, g_toEnd, g_toHome, g_found, g_foundCount, .int v_places])), (o_far, .inl (y 0, 49, .inl f_far))] H locs → lv_has ls 4 [] → W p l e (zR 0 0) s m args below meth c H locs 0 0 Q (F0 m 65 ls []) := by
    intro v3 q9 H locs ls hH hl
    subst q9
    replace h := z_eli h
    refine lv_iconst (v := (0)) K.x K.b dX5_hasShortcut_65 (by decide) ?_
    have hr9 := Option.some.inj h
    obtain rfl := hr9
    rw [hQ]
    exact z_reti K hr hH [0, 1] (by decide) rfl rfl rfl dX5_hasShortcut_66
  refine z_lp_ind (P := fun (s1 : Int32) => ∀ (H : Heap) (locs : List Loc) (ls : Array Slot), z_H D A s.heap [(o, .inr (4, [.ref o_far, g_toEnd, g_toHome, g_found, g_foundCount, .int v_places])), (o_far, .inl (y 0, 49, .inl f_far))] H locs → lv_has ls 4 [(0, .ref o), (1, .int p1), (2, .int p2), (3, .int s1)] → W p l e (zR 0 0) s m args below meth c H locs 0 0 Q (F0 m 2 ls [])) ?_ _ hlpe2 _ _ _ hH (lv_sub hl [1, 2, 3, 0] rfl)
  clear h hlpe2
  intro s1 x4 h ihe2 hee2 H locs ls hH hl
  refine lv_iload_n K.x K.b dX5_hasShortcut_2 rfl (lv_at hl 3 rfl) ?_
  refine lv_aload_n K.x K.b dX5_hasShortcut_3 rfl (lv_at hl 0 rfl) ?_
  refine z_get K hH 0 rfl zin_5 rfl 5 (by decide) tw_1_138 (v := .int v_places) rfl dX5_hasShortcut_4 ?_
  refine lv_icmp_ge (tgt := 65) K.x K.b dX5_hasShortcut_7 (by decide) (fun c5 => ?_) (fun c5 => ?_)
  · replace h := z_t c5 h
    exact KEe2 _ (hee2 _ (Option.some.inj h).symm).symm _ _ _ hH (lv_sub hl [] rfl)
  · replace h := z_f c5 h
    refine lv_iload_n K.x K.b dX5_hasShortcut_10 rfl (lv_at hl 3 rfl) ?_
    refine lv_iload_n K.x K.b dX5_hasShortcut_11 rfl (lv_at hl 1 rfl) ?_
    refine lv_icmp_eq (tgt := 59) K.x K.b dX5_hasShortcut_12 (by decide) (fun c6 => ?_) (fun c6 => ?_)
    · replace h := z_t c6 h
      obtain ⟨x7, ex7, h⟩ := z_lt_e h
      refine lv_iinc (v := x7) (lv' := [(3, .int x7), (0, .ref o), (1, .int p1), (2, .int p2)]) K.x K.b dX5_hasShortcut_59 hl (k := 3) rfl (by rw [ex7]; rfl) (by decide) rfl (fun ls hl => ?_)
      refine lv_goto (tgt := 2) K.x K.b dX5_hasShortcut_62 (by decide) ?_
      exact ihe2 _ (Option.some.inj h).symm _ _ _ hH (lv_sub hl [1, 2, 3, 0] rfl)
    · replace h := z_f c6 h
      refine lv_iload_n K.x K.b dX5_hasShortcut_15 rfl (lv_at hl 3 rfl) ?_
      refine lv_iload_n K.x K.b dX5_hasShortcut_16 rfl (lv_at hl 2 rfl) ?_
      refine lv_icmp_eq (tgt := 59) K.x K.b dX5_hasShortcut_17 (by decide) (fun c8 => ?_) (fun c8 => ?_)
      · replace h := z_t c8 h
        obtain ⟨x9, ex9, h⟩ := z_lt_e h
        refine lv_iinc (v := x9) (lv' := [(3, .int x9), (0, .ref o), (1, .int p1), (2, .int p2)]) K.x K.b dX5_hasShortcut_59 hl (k := 3) rfl (by rw [ex9]; rfl) (by decide) rfl (fun ls hl => ?_)
        refine lv_goto (tgt := 2) K.x K.b dX5_hasShortcut_62 (by decide) ?_
        exact ihe2 _ (Option.some.inj h).symm _ _ _ hH (lv_sub hl [1, 2, 3, 0] rfl)
      · replace h := z_f c8 h
        refine lv_aload_n K.x K.b dX5_hasShortcut_20 rfl (lv_at hl 0 rfl) ?_
        refine z_get K hH 0 rfl zin_5 rfl 0 (by decide) tw_1_133 (v := .ref o_far) rfl dX5_hasShortcut_21 ?_
        refine lv_iload_n K.x K.b dX5_hasShortcut_24 rfl (lv_at hl 1 rfl) ?_
        refine lv_bipush (v := (7)) K.x K.b dX5_hasShortcut_25 (by decide) ?_
        refine lv_imul K.x K.b dX5_hasShortcut_27 ?_
        refine lv_iload_n K.x K.b dX5_hasShortcut_28 rfl (lv_at hl 3 rfl) ?_
        refine lv_iadd K.x K.b dX5_hasShortcut_29 ?_
        obtain ⟨x10, ex10, h⟩ := z_lt_e h
        refine z_nm ex10 ?_
        obtain ⟨g11, h⟩ := z_gd_e h
        refine z_iald K hH 1 (k := x10.toNatClampNeg) rfl g11 rfl dX5_hasShortcut_30 ?_
        refine lv_aload_n K.x K.b dX5_hasShortcut_31 rfl (lv_at hl 0 rfl) ?_
        refine z_get K hH 0 rfl zin_5 rfl 0 (by decide) tw_1_133 (v := .ref o_far) rfl dX5_hasShortcut_32 ?_
        refine lv_iload_n K.x K.b dX5_hasShortcut_35 rfl (lv_at hl 3 rfl) ?_
        refine lv_bipush (v := (7)) K.x K.b dX5_hasShortcut_36 (by decide) ?_
        refine lv_imul K.x K.b dX5_hasShortcut_38 ?_
        refine lv_iload_n K.x K.b dX5_hasShortcut_39 rfl (lv_at hl 2 rfl) ?_
        refine lv_iadd K.x K.b dX5_hasShortcut_40 ?_
        obtain ⟨x12, ex12, h⟩ := z_lt_e h
        refine z_nm ex12 ?_
        obtain ⟨g13, h⟩ := z_gd_e h
        refine z_iald K hH 1 (k := x12.toNatClampNeg) rfl g13 rfl dX5_hasShortcut_41 ?_
        refine lv_iadd K.x K.b dX5_hasShortcut_42 ?_
        refine lv_aload_n K.x K.b dX5_hasShortcut_43 rfl (lv_at hl 0 rfl) ?_
        refine z_get K hH 0 rfl zin_5 rfl 0 (by decide) tw_1_133 (v := .ref o_far) rfl dX5_hasShortcut_44 ?_
        refine lv_iload_n K.x K.b dX5_hasShortcut_47 rfl (lv_at hl 1 rfl) ?_
        refine lv_bipush (v := (7)) K.x K.b dX5_hasShortcut_48 (by decide) ?_
        refine lv_imul K.x K.b dX5_hasShortcut_50 ?_
        refine lv_iload_n K.x K.b dX5_hasShortcut_51 rfl (lv_at hl 2 rfl) ?_
        refine lv_iadd K.x K.b dX5_hasShortcut_52 ?_
        obtain ⟨x14, ex14, h⟩ := z_lt_e h
        refine z_nm ex14 ?_
        obtain ⟨g15, h⟩ := z_gd_e h
        refine z_iald K hH 1 (k := x14.toNatClampNeg) rfl g15 rfl dX5_hasShortcut_53 ?_
        refine lv_icmp_ge (tgt := 59) K.x K.b dX5_hasShortcut_54 (by decide) (fun c16 => ?_) (fun c16 => ?_)
        · replace h := z_t c16 h
          obtain ⟨x17, ex17, h⟩ := z_lt_e h
          refine lv_iinc (v := x17) (lv' := [(3, .int x17), (0, .ref o), (1, .int p1), (2, .int p2)]) K.x K.b dX5_hasShortcut_59 hl (k := 3) rfl (by rw [ex17]; rfl) (by decide) rfl (fun ls hl => ?_)
          refine lv_goto (tgt := 2) K.x K.b dX5_hasShortcut_62 (by decide) ?_
          exact ihe2 _ (Option.some.inj h).symm _ _ _ hH (lv_sub hl [1, 2, 3, 0] rfl)
        · replace h := z_f c16 h
          refine lv_iconst (v := (1)) K.x K.b dX5_hasShortcut_57 (by decide) ?_
          have hr9 := KRe2 _ (hee2 _ (Option.some.inj h).symm).symm
          obtain rfl := hr9
          rw [hQ]
          exact z_reti K hr hH [0, 1] (by decide) rfl rfl rfl dX5_hasShortcut_58
noncomputable def p_X5_findClashes (v_foundCount : Int32) (v_places : Int32) (f_far : (Nat → Int32)) (f_found : (Nat → Int32)) : Option (Int32 × Int32 × (Nat → Int32)) :=
  z_bd (z_lp (S := Int32 × Int32 × (Nat → Int32)) (E := Int32 × (Nat → Int32)) (fun s1 =>
  if (v_places ≤ s1.1) then
  (some (.inr (s1.2.1, s1.2.2))) else
  (z_bd (z_lp (S := Int32 × Int32 × (Nat → Int32)) (E := Int32 × (Nat → Int32)) (fun s5 =>
  if (v_places ≤ s5.1) then
  (some (.inr (s5.2.1, s5.2.2))) else
  (z_bd (α := Int32 × (Nat → Int32)) (if (s1.1 = s5.1) then
  (some (s5.2.1, s5.2.2)) else
  (z_bd (p_X5_hasShortcut v_places f_far s1.1 s5.1) fun r13 =>
  if (r13 = 0) then
  (some (s5.2.1, s5.2.2)) else
  (z_lt ((((10 : Int32) * s1.1) + s5.1)) fun x16 =>
  z_bd (p_X5_addFound s5.2.1 s5.2.2 x16) fun r17 =>
  some (r17.1, r17.2)))) fun j10 =>
  z_lt (s5.1 + (1 : Int32)) fun x11 =>
  some (.inl (x11, j10.1, j10.2)))) ((0 : Int32), s1.2.1, s1.2.2)) fun e6 =>
  z_lt (s1.1 + (1 : Int32)) fun x7 =>
  some (.inl (x7, e6.1, e6.2)))) ((0 : Int32), v_foundCount, f_found)) fun e2 =>
  some (e2.1, e2.1, e2.2)
theorem hd_X5_findClashes : yX5_findClashes.cls = RX5 ∧ yX5_findClashes.cls ≠ "java/lang/invoke/MethodHandle" ∧ yX5_findClashes.cls ≠ "java/lang/invoke/VarHandle" ∧ (parseMethodDescriptor yX5_findClashes.desc).map (fun d => d.parameters.length) = some 0 := by decide +kernel
set_option maxHeartbeats 4000000 in
set_option maxRecDepth 100000 in
theorem c_X5_findClashes (l : Launch) (D : va_G) (y : Nat → ClassId) (o o_far o_found : Nat) (g_toEnd g_toHome : Value) (v_foundCount : Int32) (v_places : Int32) (f_far : (Nat → Int32)) (f_found : (Nat → Int32)) (r : Int32 × Int32 × (Nat → Int32)) (h : p_X5_findClashes v_foundCount v_places f_far f_found = some r) : z_MI l yX5_findClashes cX5_findClashes 3 (some .int) 1 23 D y [.ref o] [(o, .inr (4, [.ref o_far, g_toEnd, g_toHome, .ref o_found, .int v_foundCount, .int v_places])), (o_far, .inl (y 0, 49, .inl f_far)), (o_found, .inl (y 0, 49, .inl f_found))] r.1 [(o, .inr (4, [.ref o_far, g_toEnd, g_toHome, .ref o_found, .int r.2.1, .int v_places])), (o_far, .inl (y 0, 49, .inl f_far)), (o_found, .inl (y 0, 49, .inl r.2.2))] := by
  unfold p_X5_findClashes at h
  refine z_enI (by decide) (Nat.le_of_ble_eq_true rfl) ?_
  intro p e s m args below meth c A ls hr K hH hl
  obtain ⟨Q, hQ⟩ : ∃ Q, Q = MQ below (z_Qi D y A r.1 [(o, .inr (4, [.ref o_far, g_toEnd, g_toHome, .ref o_found, .int r.2.1, .int v_places])), (o_far, .inl (y 0, 49, .inl f_far)), (o_found, .inl (y 0, 49, .inl r.2.2))]) args s 0 0 A := ⟨_, rfl⟩
  rw [← hQ]
  have hl : lv_has ls 3 [(0, .ref o)] := hl
  refine lv_iconst (v := (0)) K.x K.b dX5_findClashes_0 (by decide) ?_
  refine lv_istore_n (lv' := [(1, .int (0 : Int32)), (0, .ref o)]) K.x K.b dX5_findClashes_1 rfl hl (by decide) rfl (fun ls hl => ?_)
  obtain ⟨e2, hlpe2, h⟩ := z_bd_e h
  have KEe2 : ∀ (H : Heap) (locs : List Loc) (ls : Array Slot), z_H D A s.heap [(o, .inr (4, [.ref o_far, g_toEnd, g_toHome, .ref o_found, .int e2.1, .int v_places])), (o_far, .inl (y 0, 49, .inl f_far)), (o_found, .inl (y 0, 49, .inl e2.2))] H locs → lv_has ls 3 [(0, .ref o)] → W p l e (zR 1 23) s m args below meth c H locs 0 0 Q (F0 m 56 ls []) := by
    intro H locs ls hH hl
    refine lv_aload_n K.x K.b dX5_findClashes_56 rfl (lv_at hl 0 rfl) ?_
    refine z_get K hH 0 rfl zin_5 rfl 4 (by decide) tw_1_137 (v := .int e2.1) rfl dX5_findClashes_57 ?_
    have hr9 := Option.some.inj h
    obtain rfl := hr9
    rw [hQ]
    exact z_reti K hr hH [0, 1, 2] (by decide) rfl rfl rfl dX5_findClashes_60
  refine z_lp_ind (P := fun (s1 : Int32 × Int32 × (Nat → Int32)) => ∀ (H : Heap) (locs : List Loc) (ls : Array Slot), z_H D A s.heap [(o, .inr (4, [.ref o_far, g_toEnd, g_toHome, .ref o_found, .int s1.2.1, .int v_places])), (o_far, .inl (y 0, 49, .inl f_far)), (o_found, .inl (y 0, 49, .inl s1.2.2))] H locs → lv_has ls 3 [(0, .ref o), (1, .int s1.1)] → W p l e (zR 1 23) s m args below meth c H locs 0 0 Q (F0 m 2 ls [])) ?_ _ hlpe2 _ _ _ hH (lv_sub hl [1, 0] rfl)
  clear h hlpe2
  intro s1 x3 h ihe2 hee2 H locs ls hH hl
  refine lv_iload_n K.x K.b dX5_findClashes_2 rfl (lv_at hl 1 rfl) ?_
  refine lv_aload_n K.x K.b dX5_findClashes_3 rfl (lv_at hl 0 rfl) ?_
  refine z_get K hH 0 rfl zin_5 rfl 5 (by decide) tw_1_138 (v := .int v_places) rfl dX5_findClashes_4 ?_
  refine lv_icmp_ge (tgt := 56) K.x K.b dX5_findClashes_7 (by decide) (fun c4 => ?_) (fun c4 => ?_)
  · replace h := z_t c4 h
    obtain rfl := hee2 _ (Option.some.inj h).symm
    exact KEe2 _ _ _ hH (lv_sub hl [0] rfl)
  · replace h := z_f c4 h
    refine lv_iconst (v := (0)) K.x K.b dX5_findClashes_10 (by decide) ?_
    refine lv_istore_n (lv' := [(2, .int (0 : Int32)), (0, .ref o), (1, .int s1.1)]) K.x K.b dX5_findClashes_11 rfl hl (by decide) rfl (fun ls hl => ?_)
    obtain ⟨e6, hlpe6, h⟩ := z_bd_e h
    have KEe6 : ∀ (H : Heap) (locs : List Loc) (ls : Array Slot), z_H D A s.heap [(o, .inr (4, [.ref o_far, g_toEnd, g_toHome, .ref o_found, .int e6.1, .int v_places])), (o_far, .inl (y 0, 49, .inl f_far)), (o_found, .inl (y 0, 49, .inl e6.2))] H locs → lv_has ls 3 [(0, .ref o), (1, .int s1.1)] → W p l e (zR 1 23) s m args below meth c H locs 0 0 Q (F0 m 50 ls []) := by
      intro H locs ls hH hl
      obtain ⟨x7, ex7, h⟩ := z_lt_e h
      refine lv_iinc (v := x7) (lv' := [(1, .int x7), (0, .ref o)]) K.x K.b dX5_findClashes_50 hl (k := 1) rfl (by rw [ex7]; rfl) (by decide) rfl (fun ls hl => ?_)
      refine lv_goto (tgt := 2) K.x K.b dX5_findClashes_53 (by decide) ?_
      exact ihe2 _ (Option.some.inj h).symm _ _ _ hH (lv_sub hl [1, 0] rfl)
    refine z_lp_ind (P := fun (s5 : Int32 × Int32 × (Nat → Int32)) => ∀ (H : Heap) (locs : List Loc) (ls : Array Slot), z_H D A s.heap [(o, .inr (4, [.ref o_far, g_toEnd, g_toHome, .ref o_found, .int s5.2.1, .int v_places])), (o_far, .inl (y 0, 49, .inl f_far)), (o_found, .inl (y 0, 49, .inl s5.2.2))] H locs → lv_has ls 3 [(0, .ref o), (1, .int s1.1), (2, .int s5.1)] → W p l e (zR 1 23) s m args below meth c H locs 0 0 Q (F0 m 12 ls [])) ?_ _ hlpe6 _ _ _ hH (lv_sub hl [1, 2, 0] rfl)
    clear h hlpe6
    intro s5 x8 h ihe6 hee6 H locs ls hH hl
    refine lv_iload_n K.x K.b dX5_findClashes_12 rfl (lv_at hl 2 rfl) ?_
    refine lv_aload_n K.x K.b dX5_findClashes_13 rfl (lv_at hl 0 rfl) ?_
    refine z_get K hH 0 rfl zin_5 rfl 5 (by decide) tw_1_138 (v := .int v_places) rfl dX5_findClashes_14 ?_
    refine lv_icmp_ge (tgt := 50) K.x K.b dX5_findClashes_17 (by decide) (fun c9 => ?_) (fun c9 => ?_)
    · replace h := z_t c9 h
      obtain rfl := hee6 _ (Option.some.inj h).symm
      exact KEe6 _ _ _ hH (lv_sub hl [0, 1] rfl)
    · replace h := z_f c9 h
      refine lv_iload_n K.x K.b dX5_findClashes_20 rfl (lv_at hl 1 rfl) ?_
      refine lv_iload_n K.x K.b dX5_findClashes_21 rfl (lv_at hl 2 rfl) ?_
      obtain ⟨j10, hj10, h⟩ := z_bd_e h
      have Kj10 : ∀ (H : Heap) (locs : List Loc) (ls : Array Slot), z_H D A s.heap [(o, .inr (4, [.ref o_far, g_toEnd, g_toHome, .ref o_found, .int j10.1, .int v_places])), (o_far, .inl (y 0, 49, .inl f_far)), (o_found, .inl (y 0, 49, .inl j10.2))] H locs → lv_has ls 3 [(0, .ref o), (1, .int s1.1), (2, .int s5.1)] → W p l e (zR 1 23) s m args below meth c H locs 0 0 Q (F0 m 44 ls []) := by
        intro H locs ls hH hl
        obtain ⟨x11, ex11, h⟩ := z_lt_e h
        refine lv_iinc (v := x11) (lv' := [(2, .int x11), (0, .ref o), (1, .int s1.1)]) K.x K.b dX5_findClashes_44 hl (k := 2) rfl (by rw [ex11]; rfl) (by decide) rfl (fun ls hl => ?_)
        refine lv_goto (tgt := 12) K.x K.b dX5_findClashes_47 (by decide) ?_
        exact ihe6 _ (Option.some.inj h).symm _ _ _ hH (lv_sub hl [1, 2, 0] rfl)
      replace h := hj10
      refine lv_icmp_eq (tgt := 44) K.x K.b dX5_findClashes_22 (by decide) (fun c12 => ?_) (fun c12 => ?_)
      · replace h := z_t c12 h
        obtain rfl := Option.some.inj h
        exact Kj10 _ _ _ hH (lv_sub hl [0, 1, 2] rfl)
      · replace h := z_f c12 h
        refine lv_aload_n K.x K.b dX5_findClashes_25 rfl (lv_at hl 0 rfl) ?_
        refine lv_iload_n K.x K.b dX5_findClashes_26 rfl (lv_at hl 1 rfl) ?_
        refine lv_iload_n K.x K.b dX5_findClashes_27 rfl (lv_at hl 2 rfl) ?_
        obtain ⟨r13, hr14, h⟩ := z_bd_e h
        refine z_Vi K hH hl.1 (c_X5_hasShortcut l D y o o_far (g_toEnd) (g_toHome) (.ref o_found) (.int s5.2.1) v_places f_far s1.1 s5.1 r13 hr14) (z_cwV K 2 tw_3_121 tw_3_123 tw_0_25 tw_1_5 tw_3_124 hd_X5_hasShortcut ⟨by decide, by decide⟩) [0, 1] [2] rfl (wr := [(o_found, .inl (y 0, 49, .inl s5.2.2))]) rfl rfl rfl (by decide) rfl rfl rfl (As := [.int s1.1, .int s5.1]) (rest := []) rfl (Nat.le_of_ble_eq_true rfl) ⟨Nat.zero_le _, Nat.zero_le _⟩ dX5_findClashes_28 (ws' := [(o_found, .inl (y 0, 49, .inl s5.2.2)), (o, .inr (4, [.ref o_far, g_toEnd, g_toHome, .ref o_found, .int s5.2.1, .int v_places])), (o_far, .inl (y 0, 49, .inl f_far))]) rfl (fun H locs hH => ?_)
        refine lv_if_eq (tgt := 44) K.x K.b dX5_findClashes_31 (by decide) (fun c15 => ?_) (fun c15 => ?_)
        · replace h := z_t c15 h
          obtain rfl := Option.some.inj h
          exact Kj10 _ _ _ (hH.sub [1, 2, 0] (by decide) rfl) (lv_sub hl [0, 1, 2] rfl)
        · replace h := z_f c15 h
          refine lv_aload_n K.x K.b dX5_findClashes_34 rfl (lv_at hl 0 rfl) ?_
          refine lv_bipush (v := (10)) K.x K.b dX5_findClashes_35 (by decide) ?_
          refine lv_iload_n K.x K.b dX5_findClashes_37 rfl (lv_at hl 1 rfl) ?_
          refine lv_imul K.x K.b dX5_findClashes_38 ?_
          refine lv_iload_n K.x K.b dX5_findClashes_39 rfl (lv_at hl 2 rfl) ?_
          refine lv_iadd K.x K.b dX5_findClashes_40 ?_
          obtain ⟨x16, ex16, h⟩ := z_lt_e h
          refine z_nm ex16 ?_
          obtain ⟨r17, hr18, h⟩ := z_bd_e h
          refine z_Vv K hH hl.1 (c_X5_addFound l D y o o_found (.ref o_far) (g_toEnd) (g_toHome) (.int v_places) s5.2.1 s5.2.2 x16 r17 hr18) (z_cwV K 1 tw_3_85 tw_3_87 tw_0_21 tw_1_5 tw_3_88 hd_X5_addFound ⟨by decide, by decide⟩) [1, 0] [2] rfl (wr := [(o_far, .inl (y 0, 49, .inl f_far))]) rfl rfl rfl (by decide) rfl rfl rfl (As := [.int x16]) (rest := []) rfl (Nat.le_of_ble_eq_true rfl) ⟨Nat.zero_le _, Nat.zero_le _⟩ dX5_findClashes_41 (ws' := [(o_far, .inl (y 0, 49, .inl f_far)), (o, .inr (4, [.ref o_far, g_toEnd, g_toHome, .ref o_found, .int r17.1, .int v_places])), (o_found, .inl (y 0, 49, .inl r17.2))]) rfl (fun H locs hH => ?_)
          obtain rfl := Option.some.inj h
          exact Kj10 _ _ _ (hH.sub [1, 0, 2] (by decide) rfl) (lv_sub hl [0, 1, 2] rfl)
def p_X5_surveyorGets (f_far : (Nat → Int32)) (p1 : Int32) (p2 : Int32) (p3 : Int32) : Option (Int32) :=
  z_lt (((p1 * (7 : Int32)) + p2)) fun x1 =>
  z_gd (z_in x1 49) <|
  z_bd (α := Int32) (if (p2 = p3) then
  (some (6 : Int32)) else
  (some (0 : Int32))) fun j3 =>
  some (((f_far x1.toNatClampNeg) / (10 : Int32)) - j3)
theorem hd_X5_surveyorGets : yX5_surveyorGets.cls = RX5 ∧ yX5_surveyorGets.cls ≠ "java/lang/invoke/MethodHandle" ∧ yX5_surveyorGets.cls ≠ "java/lang/invoke/VarHandle" ∧ (parseMethodDescriptor yX5_surveyorGets.desc).map (fun d => d.parameters.length) = some 3 := by decide +kernel
set_option maxHeartbeats 4000000 in
set_option maxRecDepth 100000 in
theorem c_X5_surveyorGets (l : Launch) (D : va_G) (y : Nat → ClassId) (o o_far : Nat) (g_toEnd g_toHome g_found g_foundCount g_places : Value) (f_far : (Nat → Int32)) (p1 : Int32) (p2 : Int32) (p3 : Int32) (r : Int32) (h : p_X5_surveyorGets f_far p1 p2 p3 = some r) : z_MI l yX5_surveyorGets cX5_surveyorGets 4 (some .int) 0 0 D y [.ref o, .int p1, .int p2, .int p3] [(o, .inr (4, [.ref o_far, g_toEnd, g_toHome, g_found, g_foundCount, g_places])), (o_far, .inl (y 0, 49, .inl f_far))] r [(o, .inr (4, [.ref o_far, g_toEnd, g_toHome, g_found, g_foundCount, g_places])), (o_far, .inl (y 0, 49, .inl f_far))] := by
  unfold p_X5_surveyorGets at h
  refine z_enI (by decide) (Nat.le_of_ble_eq_true rfl) ?_
  intro p e s m args below meth c A ls hr K hH hl
  obtain ⟨Q, hQ⟩ : ∃ Q, Q = MQ below (z_Qi D y A r [(o, .inr (4, [.ref o_far, g_toEnd, g_toHome, g_found, g_foundCount, g_places])), (o_far, .inl (y 0, 49, .inl f_far))]) args s 0 0 A := ⟨_, rfl⟩
  rw [← hQ]
  have hl : lv_has ls 4 [(0, .ref o), (1, .int p1), (2, .int p2), (3, .int p3)] := hl
  refine lv_aload_n K.x K.b dX5_surveyorGets_0 rfl (lv_at hl 0 rfl) ?_
  refine z_get K hH 0 rfl zin_5 rfl 0 (by decide) tw_1_133 (v := .ref o_far) rfl dX5_surveyorGets_1 ?_
  refine lv_iload_n K.x K.b dX5_surveyorGets_4 rfl (lv_at hl 1 rfl) ?_
  refine lv_bipush (v := (7)) K.x K.b dX5_surveyorGets_5 (by decide) ?_
  refine lv_imul K.x K.b dX5_surveyorGets_7 ?_
  refine lv_iload_n K.x K.b dX5_surveyorGets_8 rfl (lv_at hl 2 rfl) ?_
  refine lv_iadd K.x K.b dX5_surveyorGets_9 ?_
  obtain ⟨x1, ex1, h⟩ := z_lt_e h
  refine z_nm ex1 ?_
  obtain ⟨g2, h⟩ := z_gd_e h
  refine z_iald K hH 1 (k := x1.toNatClampNeg) rfl g2 rfl dX5_surveyorGets_10 ?_
  refine lv_bipush (v := (10)) K.x K.b dX5_surveyorGets_11 (by decide) ?_
  refine lv_idiv K.x K.b dX5_surveyorGets_13 (by decide) ?_
  refine lv_iload_n K.x K.b dX5_surveyorGets_14 rfl (lv_at hl 2 rfl) ?_
  refine lv_iload_n K.x K.b dX5_surveyorGets_15 rfl (lv_at hl 3 rfl) ?_
  obtain ⟨j3, hj3, h⟩ := z_bd_e h
  have Kj3 : ∀ (H : Heap) (locs : List Loc) (ls : Array Slot), z_H D A s.heap [(o, .inr (4, [.ref o_far, g_toEnd, g_toHome, g_found, g_foundCount, g_places])), (o_far, .inl (y 0, 49, .inl f_far))] H locs → lv_has ls 4 [] → W p l e (zR 0 0) s m args below meth c H locs 0 0 Q (F0 m 25 ls [.int j3, .int ((f_far x1.toNatClampNeg) / (10 : Int32))]) := by
    intro H locs ls hH hl
    refine lv_isub K.x K.b dX5_surveyorGets_25 ?_
    have hr9 := Option.some.inj h
    obtain rfl := hr9
    rw [hQ]
    exact z_reti K hr hH [0, 1] (by decide) rfl rfl rfl dX5_surveyorGets_26
  replace h := hj3
  refine lv_icmp_ne (tgt := 24) K.x K.b dX5_surveyorGets_16 (by decide) (fun c4 => ?_) (fun c4 => ?_)
  · replace h := z_f c4 h
    refine lv_iconst (v := (0)) K.x K.b dX5_surveyorGets_24 (by decide) ?_
    obtain rfl := Option.some.inj h
    exact Kj3 _ _ _ hH (lv_sub hl [] rfl)
  · replace h := z_t c4 h
    refine lv_bipush (v := (6)) K.x K.b dX5_surveyorGets_19 (by decide) ?_
    refine lv_goto (tgt := 25) K.x K.b dX5_surveyorGets_21 (by decide) ?_
    obtain rfl := Option.some.inj h
    exact Kj3 _ _ _ hH (lv_sub hl [] rfl)
def p_X5_ownerGets (f_far : (Nat → Int32)) (p1 : Int32) (p2 : Int32) (p3 : Int32) : Option (Int32) :=
  z_bd (α := Int32) (if (p2 = p3) then
  (some (5 : Int32)) else
  (some (0 : Int32))) fun j1 =>
  z_lt (((p1 * (7 : Int32)) + p3)) fun x2 =>
  z_gd (z_in x2 49) <|
  some (j1 - ((f_far x2.toNatClampNeg) / (10 : Int32)))
theorem hd_X5_ownerGets : yX5_ownerGets.cls = RX5 ∧ yX5_ownerGets.cls ≠ "java/lang/invoke/MethodHandle" ∧ yX5_ownerGets.cls ≠ "java/lang/invoke/VarHandle" ∧ (parseMethodDescriptor yX5_ownerGets.desc).map (fun d => d.parameters.length) = some 3 := by decide +kernel
set_option maxHeartbeats 4000000 in
set_option maxRecDepth 100000 in
theorem c_X5_ownerGets (l : Launch) (D : va_G) (y : Nat → ClassId) (o o_far : Nat) (g_toEnd g_toHome g_found g_foundCount g_places : Value) (f_far : (Nat → Int32)) (p1 : Int32) (p2 : Int32) (p3 : Int32) (r : Int32) (h : p_X5_ownerGets f_far p1 p2 p3 = some r) : z_MI l yX5_ownerGets cX5_ownerGets 4 (some .int) 0 0 D y [.ref o, .int p1, .int p2, .int p3] [(o, .inr (4, [.ref o_far, g_toEnd, g_toHome, g_found, g_foundCount, g_places])), (o_far, .inl (y 0, 49, .inl f_far))] r [(o, .inr (4, [.ref o_far, g_toEnd, g_toHome, g_found, g_foundCount, g_places])), (o_far, .inl (y 0, 49, .inl f_far))] := by
  unfold p_X5_ownerGets at h
  refine z_enI (by decide) (Nat.le_of_ble_eq_true rfl) ?_
  intro p e s m args below meth c A ls hr K hH hl
  obtain ⟨Q, hQ⟩ : ∃ Q, Q = MQ below (z_Qi D y A r [(o, .inr (4, [.ref o_far, g_toEnd, g_toHome, g_found, g_foundCount, g_places])), (o_far, .inl (y 0, 49, .inl f_far))]) args s 0 0 A := ⟨_, rfl⟩
  rw [← hQ]
  have hl : lv_has ls 4 [(0, .ref o), (1, .int p1), (2, .int p2), (3, .int p3)] := hl
  refine lv_iload_n K.x K.b dX5_ownerGets_0 rfl (lv_at hl 2 rfl) ?_
  refine lv_iload_n K.x K.b dX5_ownerGets_1 rfl (lv_at hl 3 rfl) ?_
  obtain ⟨j1, hj1, h⟩ := z_bd_e h
  have Kj1 : ∀ (H : Heap) (locs : List Loc) (ls : Array Slot), z_H D A s.heap [(o, .inr (4, [.ref o_far, g_toEnd, g_toHome, g_found, g_foundCount, g_places])), (o_far, .inl (y 0, 49, .inl f_far))] H locs → lv_has ls 4 [(0, .ref o), (1, .int p1), (3, .int p3)] → W p l e (zR 0 0) s m args below meth c H locs 0 0 Q (F0 m 10 ls [.int j1]) := by
    intro H locs ls hH hl
    refine lv_aload_n K.x K.b dX5_ownerGets_10 rfl (lv_at hl 0 rfl) ?_
    refine z_get K hH 0 rfl zin_5 rfl 0 (by decide) tw_1_133 (v := .ref o_far) rfl dX5_ownerGets_11 ?_
    refine lv_iload_n K.x K.b dX5_ownerGets_14 rfl (lv_at hl 1 rfl) ?_
    refine lv_bipush (v := (7)) K.x K.b dX5_ownerGets_15 (by decide) ?_
    refine lv_imul K.x K.b dX5_ownerGets_17 ?_
    refine lv_iload_n K.x K.b dX5_ownerGets_18 rfl (lv_at hl 2 rfl) ?_
    refine lv_iadd K.x K.b dX5_ownerGets_19 ?_
    obtain ⟨x2, ex2, h⟩ := z_lt_e h
    refine z_nm ex2 ?_
    obtain ⟨g3, h⟩ := z_gd_e h
    refine z_iald K hH 1 (k := x2.toNatClampNeg) rfl g3 rfl dX5_ownerGets_20 ?_
    refine lv_bipush (v := (10)) K.x K.b dX5_ownerGets_21 (by decide) ?_
    refine lv_idiv K.x K.b dX5_ownerGets_23 (by decide) ?_
    refine lv_isub K.x K.b dX5_ownerGets_24 ?_
    have hr9 := Option.some.inj h
    obtain rfl := hr9
    rw [hQ]
    exact z_reti K hr hH [0, 1] (by decide) rfl rfl rfl dX5_ownerGets_25
  replace h := hj1
  refine lv_icmp_ne (tgt := 9) K.x K.b dX5_ownerGets_2 (by decide) (fun c4 => ?_) (fun c4 => ?_)
  · replace h := z_f c4 h
    refine lv_iconst (v := (0)) K.x K.b dX5_ownerGets_9 (by decide) ?_
    obtain rfl := Option.some.inj h
    exact Kj1 _ _ _ hH (lv_sub hl [0, 1, 3] rfl)
  · replace h := z_t c4 h
    refine lv_iconst (v := (5)) K.x K.b dX5_ownerGets_5 (by decide) ?_
    refine lv_goto (tgt := 10) K.x K.b dX5_ownerGets_6 (by decide) ?_
    obtain rfl := Option.some.inj h
    exact Kj1 _ _ _ hH (lv_sub hl [0, 1, 3] rfl)
noncomputable def p_X5_isResting (v_places : Int32) (f_far : (Nat → Int32)) (p1 : Int32) (p2 : Int32) (p3 : Int32) : Option (Int32) :=
  z_bd (z_lp (S := Int32) (E := (Unit) ⊕ (Int32)) (fun s1 =>
  if (v_places ≤ s1) then
  (some (.inr (.inl ()))) else
  (if (s1 = p1) then
  (z_lt (s1 + (1 : Int32)) fun x7 =>
  some (.inl x7)) else
  (z_bd (p_X5_surveyorGets f_far p1 s1 p3) fun r8 =>
  z_bd (p_X5_surveyorGets f_far p1 p2 p3) fun r10 =>
  if (r10 < r8) then
  (some (.inr (.inr (0 : Int32)))) else
  (z_bd (p_X5_ownerGets f_far p1 p2 s1) fun r13 =>
  z_bd (p_X5_ownerGets f_far p1 p2 p3) fun r15 =>
  if (r13 ≤ r15) then
  (z_lt (s1 + (1 : Int32)) fun x18 =>
  some (.inl x18)) else
  (some (.inr (.inr (0 : Int32)))))))) (0 : Int32)) fun e2 =>
  Sum.elim (fun v3 =>
  some (1 : Int32)) (fun r19 => some r19) e2
theorem hd_X5_isResting : yX5_isResting.cls = RX5 ∧ yX5_isResting.cls ≠ "java/lang/invoke/MethodHandle" ∧ yX5_isResting.cls ≠ "java/lang/invoke/VarHandle" ∧ (parseMethodDescriptor yX5_isResting.desc).map (fun d => d.parameters.length) = some 3 := by decide +kernel
set_option maxHeartbeats 4000000 in
set_option maxRecDepth 100000 in
theorem c_X5_isResting (l : Launch) (D : va_G) (y : Nat → ClassId) (o o_far : Nat) (g_toEnd g_toHome g_found g_foundCount : Value) (v_places : Int32) (f_far : (Nat → Int32)) (p1 : Int32) (p2 : Int32) (p3 : Int32) (r : Int32) (h : p_X5_isResting v_places f_far p1 p2 p3 = some r) : z_MI l yX5_isResting cX5_isResting 5 (some .boolean) 1 23 D y [.ref o, .int p1, .int p2, .int p3] [(o, .inr (4, [.ref o_far, g_toEnd, g_toHome, g_found, g_foundCount, .int v_places])), (o_far, .inl (y 0, 49, .inl f_far))] r [(o, .inr (4, [.ref o_far, g_toEnd, g_toHome, g_found, g_foundCount, .int v_places])), (o_far, .inl (y 0, 49, .inl f_far))] := by
  unfold p_X5_isResting at h
  refine z_enI (by decide) (Nat.le_of_ble_eq_true rfl) ?_
  intro p e s m args below meth c A ls hr K hH hl
  obtain ⟨Q, hQ⟩ : ∃ Q, Q = MQ below (z_Qi D y A r [(o, .inr (4, [.ref o_far, g_toEnd, g_toHome, g_found, g_foundCount, .int v_places])), (o_far, .inl (y 0, 49, .inl f_far))]) args s 0 0 A := ⟨_, rfl⟩
  rw [← hQ]
  have hl : lv_has ls 5 [(0, .ref o), (1, .int p1), (2, .int p2), (3, .int p3)] := hl
  refine lv_iconst (v := (0)) K.x K.b dX5_isResting_0 (by decide) ?_
  refine lv_istore (lv' := [(4, .int (0 : Int32)), (0, .ref o), (1, .int p1), (2, .int p2), (3, .int p3)]) K.x K.b dX5_isResting_1 hl (by decide) rfl (fun ls hl => ?_)
  obtain ⟨e2, hlpe2, h⟩ := z_bd_e h
  have KRe2 : ∀ r19, e2 = .inr r19 → r19 = r := by
    intro r19 q9
    subst q9
    replace h := z_elr h
    have hr9 := Option.some.inj h
    exact hr9
  have KEe2 : ∀ v3, e2 = .inl v3 → ∀ (H : Heap) (locs : List Loc) (ls : Array Slot), z_H D A s.heap [(o, .inr (4, [.ref o_far, g_toEnd, g_toHome, g_found, g_foundCount, .int v_places])), (o_far, .inl (y 0, 49, .inl f_far))] H locs → lv_has ls 5 [] → W p l e (zR 1 23) s m args below meth c H locs 0 0 Q (F0 m 62 ls []) := by
    intro v3 q9 H locs ls hH hl
    subst q9
    replace h := z_eli h
    refine lv_iconst (v := (1)) K.x K.b dX5_isResting_62 (by decide) ?_
    have hr9 := Option.some.inj h
    obtain rfl := hr9
    rw [hQ]
    exact z_reti K hr hH [0, 1] (by decide) rfl rfl rfl dX5_isResting_63
  refine z_lp_ind (P := fun (s1 : Int32) => ∀ (H : Heap) (locs : List Loc) (ls : Array Slot), z_H D A s.heap [(o, .inr (4, [.ref o_far, g_toEnd, g_toHome, g_found, g_foundCount, .int v_places])), (o_far, .inl (y 0, 49, .inl f_far))] H locs → lv_has ls 5 [(0, .ref o), (1, .int p1), (2, .int p2), (3, .int p3), (4, .int s1)] → W p l e (zR 1 23) s m args below meth c H locs 0 0 Q (F0 m 3 ls [])) ?_ _ hlpe2 _ _ _ hH (lv_sub hl [1, 2, 3, 4, 0] rfl)
  clear h hlpe2
  intro s1 x4 h ihe2 hee2 H locs ls hH hl
  refine lv_iload K.x K.b dX5_isResting_3 (lv_at hl 4 rfl) ?_
  refine lv_aload_n K.x K.b dX5_isResting_5 rfl (lv_at hl 0 rfl) ?_
  refine z_get K hH 0 rfl zin_5 rfl 5 (by decide) tw_1_138 (v := .int v_places) rfl dX5_isResting_6 ?_
  refine lv_icmp_ge (tgt := 62) K.x K.b dX5_isResting_9 (by decide) (fun c5 => ?_) (fun c5 => ?_)
  · replace h := z_t c5 h
    exact KEe2 _ (hee2 _ (Option.some.inj h).symm).symm _ _ _ hH (lv_sub hl [] rfl)
  · replace h := z_f c5 h
    refine lv_iload K.x K.b dX5_isResting_12 (lv_at hl 4 rfl) ?_
    refine lv_iload_n K.x K.b dX5_isResting_14 rfl (lv_at hl 1 rfl) ?_
    refine lv_icmp_eq (tgt := 56) K.x K.b dX5_isResting_15 (by decide) (fun c6 => ?_) (fun c6 => ?_)
    · replace h := z_t c6 h
      obtain ⟨x7, ex7, h⟩ := z_lt_e h
      refine lv_iinc (v := x7) (lv' := [(4, .int x7), (0, .ref o), (1, .int p1), (2, .int p2), (3, .int p3)]) K.x K.b dX5_isResting_56 hl (k := 4) rfl (by rw [ex7]; rfl) (by decide) rfl (fun ls hl => ?_)
      refine lv_goto (tgt := 3) K.x K.b dX5_isResting_59 (by decide) ?_
      exact ihe2 _ (Option.some.inj h).symm _ _ _ hH (lv_sub hl [1, 2, 3, 4, 0] rfl)
    · replace h := z_f c6 h
      refine lv_aload_n K.x K.b dX5_isResting_18 rfl (lv_at hl 0 rfl) ?_
      refine lv_iload_n K.x K.b dX5_isResting_19 rfl (lv_at hl 1 rfl) ?_
      refine lv_iload K.x K.b dX5_isResting_20 (lv_at hl 4 rfl) ?_
      refine lv_iload_n K.x K.b dX5_isResting_22 rfl (lv_at hl 3 rfl) ?_
      obtain ⟨r8, hr9, h⟩ := z_bd_e h
      refine z_Vi K hH hl.1 (c_X5_surveyorGets l D y o o_far (g_toEnd) (g_toHome) (g_found) (g_foundCount) (.int v_places) f_far p1 s1 p3 r8 hr9) (z_cwV K 3 tw_4_5 tw_4_7 tw_0_31 tw_1_5 tw_4_8 hd_X5_surveyorGets ⟨by decide, by decide⟩) [0, 1] [] rfl (wr := []) rfl rfl rfl (by decide) rfl rfl rfl (As := [.int p1, .int s1, .int p3]) (rest := []) rfl (Nat.le_of_ble_eq_true rfl) ⟨Nat.zero_le _, Nat.zero_le _⟩ dX5_isResting_23 (ws' := [(o, .inr (4, [.ref o_far, g_toEnd, g_toHome, g_found, g_foundCount, .int v_places])), (o_far, .inl (y 0, 49, .inl f_far))]) rfl (fun H locs hH => ?_)
      refine lv_aload_n K.x K.b dX5_isResting_26 rfl (lv_at hl 0 rfl) ?_
      refine lv_iload_n K.x K.b dX5_isResting_27 rfl (lv_at hl 1 rfl) ?_
      refine lv_iload_n K.x K.b dX5_isResting_28 rfl (lv_at hl 2 rfl) ?_
      refine lv_iload_n K.x K.b dX5_isResting_29 rfl (lv_at hl 3 rfl) ?_
      obtain ⟨r10, hr11, h⟩ := z_bd_e h
      refine z_Vi K hH hl.1 (c_X5_surveyorGets l D y o o_far (g_toEnd) (g_toHome) (g_found) (g_foundCount) (.int v_places) f_far p1 p2 p3 r10 hr11) (z_cwV K 3 tw_4_5 tw_4_7 tw_0_31 tw_1_5 tw_4_8 hd_X5_surveyorGets ⟨by decide, by decide⟩) [0, 1] [] rfl (wr := []) rfl rfl rfl (by decide) rfl rfl rfl (As := [.int p1, .int p2, .int p3]) (rest := [.int r8]) rfl (Nat.le_of_ble_eq_true rfl) ⟨Nat.zero_le _, Nat.zero_le _⟩ dX5_isResting_30 (ws' := [(o, .inr (4, [.ref o_far, g_toEnd, g_toHome, g_found, g_foundCount, .int v_places])), (o_far, .inl (y 0, 49, .inl f_far))]) rfl (fun H locs hH => ?_)
      refine lv_icmp_gt (tgt := 54) K.x K.b dX5_isResting_33 (by decide) (fun c12 => ?_) (fun c12 => ?_)
      · replace h := z_t c12 h
        refine lv_iconst (v := (0)) K.x K.b dX5_isResting_54 (by decide) ?_
        have hr9 := KRe2 _ (hee2 _ (Option.some.inj h).symm).symm
        obtain rfl := hr9
        rw [hQ]
        exact z_reti K hr hH [0, 1] (by decide) rfl rfl rfl dX5_isResting_55
      · replace h := z_f c12 h
        refine lv_aload_n K.x K.b dX5_isResting_36 rfl (lv_at hl 0 rfl) ?_
        refine lv_iload_n K.x K.b dX5_isResting_37 rfl (lv_at hl 1 rfl) ?_
        refine lv_iload_n K.x K.b dX5_isResting_38 rfl (lv_at hl 2 rfl) ?_
        refine lv_iload K.x K.b dX5_isResting_39 (lv_at hl 4 rfl) ?_
        obtain ⟨r13, hr14, h⟩ := z_bd_e h
        refine z_Vi K hH hl.1 (c_X5_ownerGets l D y o o_far (g_toEnd) (g_toHome) (g_found) (g_foundCount) (.int v_places) f_far p1 p2 s1 r13 hr14) (z_cwV K 3 tw_4_9 tw_4_11 tw_0_32 tw_1_5 tw_4_12 hd_X5_ownerGets ⟨by decide, by decide⟩) [0, 1] [] rfl (wr := []) rfl rfl rfl (by decide) rfl rfl rfl (As := [.int p1, .int p2, .int s1]) (rest := []) rfl (Nat.le_of_ble_eq_true rfl) ⟨Nat.zero_le _, Nat.zero_le _⟩ dX5_isResting_41 (ws' := [(o, .inr (4, [.ref o_far, g_toEnd, g_toHome, g_found, g_foundCount, .int v_places])), (o_far, .inl (y 0, 49, .inl f_far))]) rfl (fun H locs hH => ?_)
        refine lv_aload_n K.x K.b dX5_isResting_44 rfl (lv_at hl 0 rfl) ?_
        refine lv_iload_n K.x K.b dX5_isResting_45 rfl (lv_at hl 1 rfl) ?_
        refine lv_iload_n K.x K.b dX5_isResting_46 rfl (lv_at hl 2 rfl) ?_
        refine lv_iload_n K.x K.b dX5_isResting_47 rfl (lv_at hl 3 rfl) ?_
        obtain ⟨r15, hr16, h⟩ := z_bd_e h
        refine z_Vi K hH hl.1 (c_X5_ownerGets l D y o o_far (g_toEnd) (g_toHome) (g_found) (g_foundCount) (.int v_places) f_far p1 p2 p3 r15 hr16) (z_cwV K 3 tw_4_9 tw_4_11 tw_0_32 tw_1_5 tw_4_12 hd_X5_ownerGets ⟨by decide, by decide⟩) [0, 1] [] rfl (wr := []) rfl rfl rfl (by decide) rfl rfl rfl (As := [.int p1, .int p2, .int p3]) (rest := [.int r13]) rfl (Nat.le_of_ble_eq_true rfl) ⟨Nat.zero_le _, Nat.zero_le _⟩ dX5_isResting_48 (ws' := [(o, .inr (4, [.ref o_far, g_toEnd, g_toHome, g_found, g_foundCount, .int v_places])), (o_far, .inl (y 0, 49, .inl f_far))]) rfl (fun H locs hH => ?_)
        refine lv_icmp_le (tgt := 56) K.x K.b dX5_isResting_51 (by decide) (fun c17 => ?_) (fun c17 => ?_)
        · replace h := z_t c17 h
          obtain ⟨x18, ex18, h⟩ := z_lt_e h
          refine lv_iinc (v := x18) (lv' := [(4, .int x18), (0, .ref o), (1, .int p1), (2, .int p2), (3, .int p3)]) K.x K.b dX5_isResting_56 hl (k := 4) rfl (by rw [ex18]; rfl) (by decide) rfl (fun ls hl => ?_)
          refine lv_goto (tgt := 3) K.x K.b dX5_isResting_59 (by decide) ?_
          exact ihe2 _ (Option.some.inj h).symm _ _ _ hH (lv_sub hl [1, 2, 3, 4, 0] rfl)
        · replace h := z_f c17 h
          refine lv_iconst (v := (0)) K.x K.b dX5_isResting_54 (by decide) ?_
          have hr9 := KRe2 _ (hee2 _ (Option.some.inj h).symm).symm
          obtain rfl := hr9
          rw [hQ]
          exact z_reti K hr hH [0, 1] (by decide) rfl rfl rfl dX5_isResting_55
noncomputable def p_X5_findRestingPairs (v_foundCount : Int32) (v_places : Int32) (f_far : (Nat → Int32)) (f_found : (Nat → Int32)) (p1 : Int32) : Option (Int32 × Int32 × (Nat → Int32)) :=
  z_bd (z_lp (S := Int32 × Int32 × (Nat → Int32)) (E := Int32 × (Nat → Int32)) (fun s1 =>
  if (v_places ≤ s1.1) then
  (some (.inr (s1.2.1, s1.2.2))) else
  (z_bd (z_lp (S := Int32 × Int32 × (Nat → Int32)) (E := Int32 × (Nat → Int32)) (fun s5 =>
  if (v_places ≤ s5.1) then
  (some (.inr (s5.2.1, s5.2.2))) else
  (z_bd (α := Int32 × (Nat → Int32)) (if (s1.1 = p1) then
  (some (s5.2.1, s5.2.2)) else
  (if (s5.1 = p1) then
  (some (s5.2.1, s5.2.2)) else
  (z_bd (p_X5_isResting v_places f_far p1 s1.1 s5.1) fun r14 =>
  if (r14 = 0) then
  (some (s5.2.1, s5.2.2)) else
  (z_lt ((((10 : Int32) * s1.1) + s5.1)) fun x17 =>
  z_bd (p_X5_addFound s5.2.1 s5.2.2 x17) fun r18 =>
  some (r18.1, r18.2))))) fun j10 =>
  z_lt (s5.1 + (1 : Int32)) fun x11 =>
  some (.inl (x11, j10.1, j10.2)))) ((0 : Int32), s1.2.1, s1.2.2)) fun e6 =>
  z_lt (s1.1 + (1 : Int32)) fun x7 =>
  some (.inl (x7, e6.1, e6.2)))) ((0 : Int32), v_foundCount, f_found)) fun e2 =>
  some (e2.1, e2.1, e2.2)
theorem hd_X5_findRestingPairs : yX5_findRestingPairs.cls = RX5 ∧ yX5_findRestingPairs.cls ≠ "java/lang/invoke/MethodHandle" ∧ yX5_findRestingPairs.cls ≠ "java/lang/invoke/VarHandle" ∧ (parseMethodDescriptor yX5_findRestingPairs.desc).map (fun d => d.parameters.length) = some 1 := by decide +kernel
set_option maxHeartbeats 4000000 in
set_option maxRecDepth 100000 in
theorem c_X5_findRestingPairs (l : Launch) (D : va_G) (y : Nat → ClassId) (o o_far o_found : Nat) (g_toEnd g_toHome : Value) (v_foundCount : Int32) (v_places : Int32) (f_far : (Nat → Int32)) (f_found : (Nat → Int32)) (p1 : Int32) (r : Int32 × Int32 × (Nat → Int32)) (h : p_X5_findRestingPairs v_foundCount v_places f_far f_found p1 = some r) : z_MI l yX5_findRestingPairs cX5_findRestingPairs 4 (some .int) 2 47 D y [.ref o, .int p1] [(o, .inr (4, [.ref o_far, g_toEnd, g_toHome, .ref o_found, .int v_foundCount, .int v_places])), (o_far, .inl (y 0, 49, .inl f_far)), (o_found, .inl (y 0, 49, .inl f_found))] r.1 [(o, .inr (4, [.ref o_far, g_toEnd, g_toHome, .ref o_found, .int r.2.1, .int v_places])), (o_far, .inl (y 0, 49, .inl f_far)), (o_found, .inl (y 0, 49, .inl r.2.2))] := by
  unfold p_X5_findRestingPairs at h
  refine z_enI (by decide) (Nat.le_of_ble_eq_true rfl) ?_
  intro p e s m args below meth c A ls hr K hH hl
  obtain ⟨Q, hQ⟩ : ∃ Q, Q = MQ below (z_Qi D y A r.1 [(o, .inr (4, [.ref o_far, g_toEnd, g_toHome, .ref o_found, .int r.2.1, .int v_places])), (o_far, .inl (y 0, 49, .inl f_far)), (o_found, .inl (y 0, 49, .inl r.2.2))]) args s 0 0 A := ⟨_, rfl⟩
  rw [← hQ]
  have hl : lv_has ls 4 [(0, .ref o), (1, .int p1)] := hl
  refine lv_iconst (v := (0)) K.x K.b dX5_findRestingPairs_0 (by decide) ?_
  refine lv_istore_n (lv' := [(2, .int (0 : Int32)), (0, .ref o), (1, .int p1)]) K.x K.b dX5_findRestingPairs_1 rfl hl (by decide) rfl (fun ls hl => ?_)
  obtain ⟨e2, hlpe2, h⟩ := z_bd_e h
  have KEe2 : ∀ (H : Heap) (locs : List Loc) (ls : Array Slot), z_H D A s.heap [(o, .inr (4, [.ref o_far, g_toEnd, g_toHome, .ref o_found, .int e2.1, .int v_places])), (o_far, .inl (y 0, 49, .inl f_far)), (o_found, .inl (y 0, 49, .inl e2.2))] H locs → lv_has ls 4 [(0, .ref o)] → W p l e (zR 2 47) s m args below meth c H locs 0 0 Q (F0 m 62 ls []) := by
    intro H locs ls hH hl
    refine lv_aload_n K.x K.b dX5_findRestingPairs_62 rfl (lv_at hl 0 rfl) ?_
    refine z_get K hH 0 rfl zin_5 rfl 4 (by decide) tw_1_137 (v := .int e2.1) rfl dX5_findRestingPairs_63 ?_
    have hr9 := Option.some.inj h
    obtain rfl := hr9
    rw [hQ]
    exact z_reti K hr hH [0, 1, 2] (by decide) rfl rfl rfl dX5_findRestingPairs_66
  refine z_lp_ind (P := fun (s1 : Int32 × Int32 × (Nat → Int32)) => ∀ (H : Heap) (locs : List Loc) (ls : Array Slot), z_H D A s.heap [(o, .inr (4, [.ref o_far, g_toEnd, g_toHome, .ref o_found, .int s1.2.1, .int v_places])), (o_far, .inl (y 0, 49, .inl f_far)), (o_found, .inl (y 0, 49, .inl s1.2.2))] H locs → lv_has ls 4 [(0, .ref o), (1, .int p1), (2, .int s1.1)] → W p l e (zR 2 47) s m args below meth c H locs 0 0 Q (F0 m 2 ls [])) ?_ _ hlpe2 _ _ _ hH (lv_sub hl [1, 2, 0] rfl)
  clear h hlpe2
  intro s1 x3 h ihe2 hee2 H locs ls hH hl
  refine lv_iload_n K.x K.b dX5_findRestingPairs_2 rfl (lv_at hl 2 rfl) ?_
  refine lv_aload_n K.x K.b dX5_findRestingPairs_3 rfl (lv_at hl 0 rfl) ?_
  refine z_get K hH 0 rfl zin_5 rfl 5 (by decide) tw_1_138 (v := .int v_places) rfl dX5_findRestingPairs_4 ?_
  refine lv_icmp_ge (tgt := 62) K.x K.b dX5_findRestingPairs_7 (by decide) (fun c4 => ?_) (fun c4 => ?_)
  · replace h := z_t c4 h
    obtain rfl := hee2 _ (Option.some.inj h).symm
    exact KEe2 _ _ _ hH (lv_sub hl [0] rfl)
  · replace h := z_f c4 h
    refine lv_iconst (v := (0)) K.x K.b dX5_findRestingPairs_10 (by decide) ?_
    refine lv_istore_n (lv' := [(3, .int (0 : Int32)), (0, .ref o), (1, .int p1), (2, .int s1.1)]) K.x K.b dX5_findRestingPairs_11 rfl hl (by decide) rfl (fun ls hl => ?_)
    obtain ⟨e6, hlpe6, h⟩ := z_bd_e h
    have KEe6 : ∀ (H : Heap) (locs : List Loc) (ls : Array Slot), z_H D A s.heap [(o, .inr (4, [.ref o_far, g_toEnd, g_toHome, .ref o_found, .int e6.1, .int v_places])), (o_far, .inl (y 0, 49, .inl f_far)), (o_found, .inl (y 0, 49, .inl e6.2))] H locs → lv_has ls 4 [(0, .ref o), (1, .int p1), (2, .int s1.1)] → W p l e (zR 2 47) s m args below meth c H locs 0 0 Q (F0 m 56 ls []) := by
      intro H locs ls hH hl
      obtain ⟨x7, ex7, h⟩ := z_lt_e h
      refine lv_iinc (v := x7) (lv' := [(2, .int x7), (0, .ref o), (1, .int p1)]) K.x K.b dX5_findRestingPairs_56 hl (k := 2) rfl (by rw [ex7]; rfl) (by decide) rfl (fun ls hl => ?_)
      refine lv_goto (tgt := 2) K.x K.b dX5_findRestingPairs_59 (by decide) ?_
      exact ihe2 _ (Option.some.inj h).symm _ _ _ hH (lv_sub hl [1, 2, 0] rfl)
    refine z_lp_ind (P := fun (s5 : Int32 × Int32 × (Nat → Int32)) => ∀ (H : Heap) (locs : List Loc) (ls : Array Slot), z_H D A s.heap [(o, .inr (4, [.ref o_far, g_toEnd, g_toHome, .ref o_found, .int s5.2.1, .int v_places])), (o_far, .inl (y 0, 49, .inl f_far)), (o_found, .inl (y 0, 49, .inl s5.2.2))] H locs → lv_has ls 4 [(0, .ref o), (1, .int p1), (2, .int s1.1), (3, .int s5.1)] → W p l e (zR 2 47) s m args below meth c H locs 0 0 Q (F0 m 12 ls [])) ?_ _ hlpe6 _ _ _ hH (lv_sub hl [1, 2, 3, 0] rfl)
    clear h hlpe6
    intro s5 x8 h ihe6 hee6 H locs ls hH hl
    refine lv_iload_n K.x K.b dX5_findRestingPairs_12 rfl (lv_at hl 3 rfl) ?_
    refine lv_aload_n K.x K.b dX5_findRestingPairs_13 rfl (lv_at hl 0 rfl) ?_
    refine z_get K hH 0 rfl zin_5 rfl 5 (by decide) tw_1_138 (v := .int v_places) rfl dX5_findRestingPairs_14 ?_
    refine lv_icmp_ge (tgt := 56) K.x K.b dX5_findRestingPairs_17 (by decide) (fun c9 => ?_) (fun c9 => ?_)
    · replace h := z_t c9 h
      obtain rfl := hee6 _ (Option.some.inj h).symm
      exact KEe6 _ _ _ hH (lv_sub hl [0, 1, 2] rfl)
    · replace h := z_f c9 h
      refine lv_iload_n K.x K.b dX5_findRestingPairs_20 rfl (lv_at hl 2 rfl) ?_
      refine lv_iload_n K.x K.b dX5_findRestingPairs_21 rfl (lv_at hl 1 rfl) ?_
      obtain ⟨j10, hj10, h⟩ := z_bd_e h
      have Kj10 : ∀ (H : Heap) (locs : List Loc) (ls : Array Slot), z_H D A s.heap [(o, .inr (4, [.ref o_far, g_toEnd, g_toHome, .ref o_found, .int j10.1, .int v_places])), (o_far, .inl (y 0, 49, .inl f_far)), (o_found, .inl (y 0, 49, .inl j10.2))] H locs → lv_has ls 4 [(0, .ref o), (1, .int p1), (2, .int s1.1), (3, .int s5.1)] → W p l e (zR 2 47) s m args below meth c H locs 0 0 Q (F0 m 50 ls []) := by
        intro H locs ls hH hl
        obtain ⟨x11, ex11, h⟩ := z_lt_e h
        refine lv_iinc (v := x11) (lv' := [(3, .int x11), (0, .ref o), (1, .int p1), (2, .int s1.1)]) K.x K.b dX5_findRestingPairs_50 hl (k := 3) rfl (by rw [ex11]; rfl) (by decide) rfl (fun ls hl => ?_)
        refine lv_goto (tgt := 12) K.x K.b dX5_findRestingPairs_53 (by decide) ?_
        exact ihe6 _ (Option.some.inj h).symm _ _ _ hH (lv_sub hl [1, 2, 3, 0] rfl)
      replace h := hj10
      refine lv_icmp_eq (tgt := 50) K.x K.b dX5_findRestingPairs_22 (by decide) (fun c12 => ?_) (fun c12 => ?_)
      · replace h := z_t c12 h
        obtain rfl := Option.some.inj h
        exact Kj10 _ _ _ hH (lv_sub hl [0, 1, 2, 3] rfl)
      · replace h := z_f c12 h
        refine lv_iload_n K.x K.b dX5_findRestingPairs_25 rfl (lv_at hl 3 rfl) ?_
        refine lv_iload_n K.x K.b dX5_findRestingPairs_26 rfl (lv_at hl 1 rfl) ?_
        refine lv_icmp_eq (tgt := 50) K.x K.b dX5_findRestingPairs_27 (by decide) (fun c13 => ?_) (fun c13 => ?_)
        · replace h := z_t c13 h
          obtain rfl := Option.some.inj h
          exact Kj10 _ _ _ hH (lv_sub hl [0, 1, 2, 3] rfl)
        · replace h := z_f c13 h
          refine lv_aload_n K.x K.b dX5_findRestingPairs_30 rfl (lv_at hl 0 rfl) ?_
          refine lv_iload_n K.x K.b dX5_findRestingPairs_31 rfl (lv_at hl 1 rfl) ?_
          refine lv_iload_n K.x K.b dX5_findRestingPairs_32 rfl (lv_at hl 2 rfl) ?_
          refine lv_iload_n K.x K.b dX5_findRestingPairs_33 rfl (lv_at hl 3 rfl) ?_
          obtain ⟨r14, hr15, h⟩ := z_bd_e h
          refine z_Vi K hH hl.1 (c_X5_isResting l D y o o_far (g_toEnd) (g_toHome) (.ref o_found) (.int s5.2.1) v_places f_far p1 s1.1 s5.1 r14 hr15) (z_cwV K 3 tw_4_1 tw_4_3 tw_0_30 tw_1_5 tw_4_4 hd_X5_isResting ⟨by decide, by decide⟩) [0, 1] [2] rfl (wr := [(o_found, .inl (y 0, 49, .inl s5.2.2))]) rfl rfl rfl (by decide) rfl rfl rfl (As := [.int p1, .int s1.1, .int s5.1]) (rest := []) rfl (Nat.le_of_ble_eq_true rfl) ⟨Nat.zero_le _, Nat.zero_le _⟩ dX5_findRestingPairs_34 (ws' := [(o_found, .inl (y 0, 49, .inl s5.2.2)), (o, .inr (4, [.ref o_far, g_toEnd, g_toHome, .ref o_found, .int s5.2.1, .int v_places])), (o_far, .inl (y 0, 49, .inl f_far))]) rfl (fun H locs hH => ?_)
          refine lv_if_eq (tgt := 50) K.x K.b dX5_findRestingPairs_37 (by decide) (fun c16 => ?_) (fun c16 => ?_)
          · replace h := z_t c16 h
            obtain rfl := Option.some.inj h
            exact Kj10 _ _ _ (hH.sub [1, 2, 0] (by decide) rfl) (lv_sub hl [0, 1, 2, 3] rfl)
          · replace h := z_f c16 h
            refine lv_aload_n K.x K.b dX5_findRestingPairs_40 rfl (lv_at hl 0 rfl) ?_
            refine lv_bipush (v := (10)) K.x K.b dX5_findRestingPairs_41 (by decide) ?_
            refine lv_iload_n K.x K.b dX5_findRestingPairs_43 rfl (lv_at hl 2 rfl) ?_
            refine lv_imul K.x K.b dX5_findRestingPairs_44 ?_
            refine lv_iload_n K.x K.b dX5_findRestingPairs_45 rfl (lv_at hl 3 rfl) ?_
            refine lv_iadd K.x K.b dX5_findRestingPairs_46 ?_
            obtain ⟨x17, ex17, h⟩ := z_lt_e h
            refine z_nm ex17 ?_
            obtain ⟨r18, hr19, h⟩ := z_bd_e h
            refine z_Vv K hH hl.1 (c_X5_addFound l D y o o_found (.ref o_far) (g_toEnd) (g_toHome) (.int v_places) s5.2.1 s5.2.2 x17 r18 hr19) (z_cwV K 1 tw_3_85 tw_3_87 tw_0_21 tw_1_5 tw_3_88 hd_X5_addFound ⟨by decide, by decide⟩) [1, 0] [2] rfl (wr := [(o_far, .inl (y 0, 49, .inl f_far))]) rfl rfl rfl (by decide) rfl rfl rfl (As := [.int x17]) (rest := []) rfl (Nat.le_of_ble_eq_true rfl) ⟨Nat.zero_le _, Nat.zero_le _⟩ dX5_findRestingPairs_47 (ws' := [(o_far, .inl (y 0, 49, .inl f_far)), (o, .inr (4, [.ref o_far, g_toEnd, g_toHome, .ref o_found, .int r18.1, .int v_places])), (o_found, .inl (y 0, 49, .inl r18.2))]) rfl (fun H locs hH => ?_)
            obtain rfl := Option.some.inj h
            exact Kj10 _ _ _ (hH.sub [1, 0, 2] (by decide) rfl) (lv_sub hl [0, 1, 2, 3] rfl)
