def p_X0_empty (v_places : Int32) (v_crows : Int32) (v_pasts : Int32) (v_now_deeds : Int32) (v_now_hour : Int32) (v_notes_size : Int32) (v_marks_size : Int32) : Option (Int32 × Int32 × Int32 × Int32 × Int32 × Int32 × Int32) :=
  some ((0 : Int32), (0 : Int32), (0 : Int32), (0 : Int32), (0 : Int32), (0 : Int32), (0 : Int32))
theorem hd_X0_empty : yX0_empty.cls = RX0 ∧ yX0_empty.cls ≠ "java/lang/invoke/MethodHandle" ∧ yX0_empty.cls ≠ "java/lang/invoke/VarHandle" ∧ (parseMethodDescriptor yX0_empty.desc).map (fun d => d.parameters.length) = some 0 := by decide +kernel
set_option maxHeartbeats 4000000 in
set_option maxRecDepth 100000 in
theorem c_X0_empty (l : Launch) (D : va_G) (y : Nat → ClassId) (o o_now o_notes o_marks : Nat) (g_placeKind g_placeX g_placeY g_crowKind g_past g_now_at g_now_tired g_now_deedRows g_notes_ofCrows g_notes_rows g_marks_ofCrows g_marks_rows : Value) (v_places : Int32) (v_crows : Int32) (v_pasts : Int32) (v_now_deeds : Int32) (v_now_hour : Int32) (v_notes_size : Int32) (v_marks_size : Int32) (r : Int32 × Int32 × Int32 × Int32 × Int32 × Int32 × Int32) (h : p_X0_empty v_places v_crows v_pasts v_now_deeds v_now_hour v_notes_size v_marks_size = some r) : z_MV l yX0_empty cX0_empty 1 none 0 0 D y [.ref o] [(o, .inr (0, [g_placeKind, g_placeX, g_placeY, .int v_places, g_crowKind, .int v_crows, .ref o_now, g_past, .int v_pasts, .ref o_notes, .ref o_marks])), (o_now, .inr (1, [g_now_at, g_now_tired, g_now_deedRows, .int v_now_deeds, .int v_now_hour])), (o_notes, .inr (5, [g_notes_ofCrows, g_notes_rows, .int v_notes_size])), (o_marks, .inr (5, [g_marks_ofCrows, g_marks_rows, .int v_marks_size]))] [(o, .inr (0, [g_placeKind, g_placeX, g_placeY, .int r.1, g_crowKind, .int r.2.1, .ref o_now, g_past, .int r.2.2.1, .ref o_notes, .ref o_marks])), (o_now, .inr (1, [g_now_at, g_now_tired, g_now_deedRows, .int r.2.2.2.1, .int r.2.2.2.2.1])), (o_notes, .inr (5, [g_notes_ofCrows, g_notes_rows, .int r.2.2.2.2.2.1])), (o_marks, .inr (5, [g_marks_ofCrows, g_marks_rows, .int r.2.2.2.2.2.2]))] := by
  unfold p_X0_empty at h
  refine z_enV (by decide) (Nat.le_of_ble_eq_true rfl) ?_
  intro p e s m args below meth c A ls hr K hH hl
  obtain ⟨Q, hQ⟩ : ∃ Q, Q = MQ below (z_Qv D y A [(o, .inr (0, [g_placeKind, g_placeX, g_placeY, .int r.1, g_crowKind, .int r.2.1, .ref o_now, g_past, .int r.2.2.1, .ref o_notes, .ref o_marks])), (o_now, .inr (1, [g_now_at, g_now_tired, g_now_deedRows, .int r.2.2.2.1, .int r.2.2.2.2.1])), (o_notes, .inr (5, [g_notes_ofCrows, g_notes_rows, .int r.2.2.2.2.2.1])), (o_marks, .inr (5, [g_marks_ofCrows, g_marks_rows, .int r.2.2.2.2.2.2]))]) args s 0 0 A := ⟨_, rfl⟩
  rw [← hQ]
  have hl : lv_has ls 1 [(0, .ref o)] := hl
  refine lv_aload_n K.x K.b dX0_empty_0 rfl (lv_at hl 0 rfl) ?_
  refine lv_iconst (v := (0)) K.x K.b dX0_empty_1 (by decide) ?_
  refine z_put K hH 0 (ws' := [(o, .inr (0, [g_placeKind, g_placeX, g_placeY, .int (0 : Int32), g_crowKind, .int v_crows, .ref o_now, g_past, .int v_pasts, .ref o_notes, .ref o_marks])), (o_now, .inr (1, [g_now_at, g_now_tired, g_now_deedRows, .int v_now_deeds, .int v_now_hour])), (o_notes, .inr (5, [g_notes_ofCrows, g_notes_rows, .int v_notes_size])), (o_marks, .inr (5, [g_marks_ofCrows, g_marks_rows, .int v_marks_size]))]) rfl zin_0 rfl tyX0 tyX0_ok nmX0 3 (by decide) tw_1_85 rfl rfl rfl (Nat.le_of_ble_eq_true rfl) dX0_empty_2 rfl (fun H locs hH => ?_)
  refine lv_aload_n K.x K.b dX0_empty_5 rfl (lv_at hl 0 rfl) ?_
  refine lv_iconst (v := (0)) K.x K.b dX0_empty_6 (by decide) ?_
  refine z_put K hH 0 (ws' := [(o, .inr (0, [g_placeKind, g_placeX, g_placeY, .int (0 : Int32), g_crowKind, .int (0 : Int32), .ref o_now, g_past, .int v_pasts, .ref o_notes, .ref o_marks])), (o_now, .inr (1, [g_now_at, g_now_tired, g_now_deedRows, .int v_now_deeds, .int v_now_hour])), (o_notes, .inr (5, [g_notes_ofCrows, g_notes_rows, .int v_notes_size])), (o_marks, .inr (5, [g_marks_ofCrows, g_marks_rows, .int v_marks_size]))]) rfl zin_0 rfl tyX0 tyX0_ok nmX0 5 (by decide) tw_1_90 rfl rfl rfl (Nat.le_of_ble_eq_true rfl) dX0_empty_7 rfl (fun H locs hH => ?_)
  refine lv_aload_n K.x K.b dX0_empty_10 rfl (lv_at hl 0 rfl) ?_
  refine z_get K hH 0 rfl zin_0 rfl 6 (by decide) tw_1_93 (v := .ref o_now) rfl dX0_empty_11 ?_
  refine lv_iconst (v := (0)) K.x K.b dX0_empty_14 (by decide) ?_
  refine z_put K hH 1 (ws' := [(o, .inr (0, [g_placeKind, g_placeX, g_placeY, .int (0 : Int32), g_crowKind, .int (0 : Int32), .ref o_now, g_past, .int v_pasts, .ref o_notes, .ref o_marks])), (o_now, .inr (1, [g_now_at, g_now_tired, g_now_deedRows, .int (0 : Int32), .int v_now_hour])), (o_notes, .inr (5, [g_notes_ofCrows, g_notes_rows, .int v_notes_size])), (o_marks, .inr (5, [g_marks_ofCrows, g_marks_rows, .int v_marks_size]))]) rfl zin_1 rfl tyX1 tyX1_ok nmX1 3 (by decide) tw_1_44 rfl rfl rfl (Nat.le_of_ble_eq_true rfl) dX0_empty_15 rfl (fun H locs hH => ?_)
  refine lv_aload_n K.x K.b dX0_empty_18 rfl (lv_at hl 0 rfl) ?_
  refine z_get K hH 0 rfl zin_0 rfl 6 (by decide) tw_1_93 (v := .ref o_now) rfl dX0_empty_19 ?_
  refine lv_iconst (v := (0)) K.x K.b dX0_empty_22 (by decide) ?_
  refine z_put K hH 1 (ws' := [(o, .inr (0, [g_placeKind, g_placeX, g_placeY, .int (0 : Int32), g_crowKind, .int (0 : Int32), .ref o_now, g_past, .int v_pasts, .ref o_notes, .ref o_marks])), (o_now, .inr (1, [g_now_at, g_now_tired, g_now_deedRows, .int (0 : Int32), .int (0 : Int32)])), (o_notes, .inr (5, [g_notes_ofCrows, g_notes_rows, .int v_notes_size])), (o_marks, .inr (5, [g_marks_ofCrows, g_marks_rows, .int v_marks_size]))]) rfl zin_1 rfl tyX1 tyX1_ok nmX1 4 (by decide) tw_1_47 rfl rfl rfl (Nat.le_of_ble_eq_true rfl) dX0_empty_23 rfl (fun H locs hH => ?_)
  refine lv_aload_n K.x K.b dX0_empty_26 rfl (lv_at hl 0 rfl) ?_
  refine lv_iconst (v := (0)) K.x K.b dX0_empty_27 (by decide) ?_
  refine z_put K hH 0 (ws' := [(o, .inr (0, [g_placeKind, g_placeX, g_placeY, .int (0 : Int32), g_crowKind, .int (0 : Int32), .ref o_now, g_past, .int (0 : Int32), .ref o_notes, .ref o_marks])), (o_now, .inr (1, [g_now_at, g_now_tired, g_now_deedRows, .int (0 : Int32), .int (0 : Int32)])), (o_notes, .inr (5, [g_notes_ofCrows, g_notes_rows, .int v_notes_size])), (o_marks, .inr (5, [g_marks_ofCrows, g_marks_rows, .int v_marks_size]))]) rfl zin_0 rfl tyX0 tyX0_ok nmX0 8 (by decide) tw_1_97 rfl rfl rfl (Nat.le_of_ble_eq_true rfl) dX0_empty_28 rfl (fun H locs hH => ?_)
  refine lv_aload_n K.x K.b dX0_empty_31 rfl (lv_at hl 0 rfl) ?_
  refine z_get K hH 0 rfl zin_0 rfl 9 (by decide) tw_1_99 (v := .ref o_notes) rfl dX0_empty_32 ?_
  refine lv_iconst (v := (0)) K.x K.b dX0_empty_35 (by decide) ?_
  refine z_put K hH 2 (ws' := [(o, .inr (0, [g_placeKind, g_placeX, g_placeY, .int (0 : Int32), g_crowKind, .int (0 : Int32), .ref o_now, g_past, .int (0 : Int32), .ref o_notes, .ref o_marks])), (o_now, .inr (1, [g_now_at, g_now_tired, g_now_deedRows, .int (0 : Int32), .int (0 : Int32)])), (o_notes, .inr (5, [g_notes_ofCrows, g_notes_rows, .int (0 : Int32)])), (o_marks, .inr (5, [g_marks_ofCrows, g_marks_rows, .int v_marks_size]))]) rfl zin_6 rfl tyX6 tyX6_ok nmX6 2 (by decide) tw_1_73 rfl rfl rfl (Nat.le_of_ble_eq_true rfl) dX0_empty_36 rfl (fun H locs hH => ?_)
  refine lv_aload_n K.x K.b dX0_empty_39 rfl (lv_at hl 0 rfl) ?_
  refine z_get K hH 0 rfl zin_0 rfl 10 (by decide) tw_1_101 (v := .ref o_marks) rfl dX0_empty_40 ?_
  refine lv_iconst (v := (0)) K.x K.b dX0_empty_43 (by decide) ?_
  refine z_put K hH 3 (ws' := [(o, .inr (0, [g_placeKind, g_placeX, g_placeY, .int (0 : Int32), g_crowKind, .int (0 : Int32), .ref o_now, g_past, .int (0 : Int32), .ref o_notes, .ref o_marks])), (o_now, .inr (1, [g_now_at, g_now_tired, g_now_deedRows, .int (0 : Int32), .int (0 : Int32)])), (o_notes, .inr (5, [g_notes_ofCrows, g_notes_rows, .int (0 : Int32)])), (o_marks, .inr (5, [g_marks_ofCrows, g_marks_rows, .int (0 : Int32)]))]) rfl zin_6 rfl tyX6 tyX6_ok nmX6 2 (by decide) tw_1_73 rfl rfl rfl (Nat.le_of_ble_eq_true rfl) dX0_empty_44 rfl (fun H locs hH => ?_)
  have hr9 := Option.some.inj h
  obtain rfl := hr9
  rw [hQ]
  exact z_retv K hr hH [0, 1, 2, 3] (by decide) rfl dX0_empty_47
def p_X6_become (v_size : Int32) (f_rows : (Nat → Int32)) (v_q1_size : Int32) (f_q1_rows : (Nat → Int32)) : Option (Int32 × (Nat → Int32)) :=
  z_lt ((va_cpy f_q1_rows f_rows 0 0 30)) fun a1 =>
  some (v_q1_size, a1)
theorem hd_X6_become : yX6_become.cls = RX6 ∧ yX6_become.cls ≠ "java/lang/invoke/MethodHandle" ∧ yX6_become.cls ≠ "java/lang/invoke/VarHandle" ∧ (parseMethodDescriptor yX6_become.desc).map (fun d => d.parameters.length) = some 1 := by decide +kernel
set_option maxHeartbeats 4000000 in
set_option maxRecDepth 100000 in
theorem c_X6_become (l : Launch) (D : va_G) (y : Nat → ClassId) (o o_rows o_q1 o_q1_rows : Nat) (g_ofCrows g_q1_ofCrows : Value) (v_size : Int32) (f_rows : (Nat → Int32)) (v_q1_size : Int32) (f_q1_rows : (Nat → Int32)) (r : Int32 × (Nat → Int32)) (h : p_X6_become v_size f_rows v_q1_size f_q1_rows = some r) : z_MV l yX6_become cX6_become 2 none 1 40 D y [.ref o, .ref o_q1] [(o, .inr (5, [g_ofCrows, .ref o_rows, .int v_size])), (o_rows, .inl (y 0, 30, .inl f_rows)), (o_q1, .inr (5, [g_q1_ofCrows, .ref o_q1_rows, .int v_q1_size])), (o_q1_rows, .inl (y 0, 30, .inl f_q1_rows))] [(o, .inr (5, [g_ofCrows, .ref o_rows, .int r.1])), (o_rows, .inl (y 0, 30, .inl r.2)), (o_q1, .inr (5, [g_q1_ofCrows, .ref o_q1_rows, .int v_q1_size])), (o_q1_rows, .inl (y 0, 30, .inl f_q1_rows))] := by
  unfold p_X6_become at h
  refine z_enV (by decide) (Nat.le_of_ble_eq_true rfl) ?_
  intro p e s m args below meth c A ls hr K hH hl
  obtain ⟨Q, hQ⟩ : ∃ Q, Q = MQ below (z_Qv D y A [(o, .inr (5, [g_ofCrows, .ref o_rows, .int r.1])), (o_rows, .inl (y 0, 30, .inl r.2)), (o_q1, .inr (5, [g_q1_ofCrows, .ref o_q1_rows, .int v_q1_size])), (o_q1_rows, .inl (y 0, 30, .inl f_q1_rows))]) args s 0 0 A := ⟨_, rfl⟩
  rw [← hQ]
  have hl : lv_has ls 2 [(0, .ref o), (1, .ref o_q1)] := hl
  refine lv_aload_n K.x K.b dX6_become_0 rfl (lv_at hl 1 rfl) ?_
  refine z_get K hH 2 rfl zin_6 rfl 1 (by decide) tw_1_71 (v := .ref o_q1_rows) rfl dX6_become_1 ?_
  refine lv_iconst (v := (0)) K.x K.b dX6_become_4 (by decide) ?_
  refine lv_aload_n K.x K.b dX6_become_5 rfl (lv_at hl 0 rfl) ?_
  refine z_get K hH 0 rfl zin_6 rfl 1 (by decide) tw_1_71 (v := .ref o_rows) rfl dX6_become_6 ?_
  refine lv_iconst (v := (0)) K.x K.b dX6_become_9 (by decide) ?_
  refine lv_bipush (v := (30)) K.x K.b dX6_become_10 (by decide) ?_
  obtain ⟨a1, ea1, h⟩ := z_lt_e h
  refine z_copy K hH (ws' := [(o, .inr (5, [g_ofCrows, .ref o_rows, .int v_size])), (o_rows, .inl (y 0, 30, .inl a1)), (o_q1, .inr (5, [g_q1_ofCrows, .ref o_q1_rows, .int v_q1_size])), (o_q1_rows, .inl (y 0, 30, .inl f_q1_rows))]) hl.1 tw_2_218 tw_2_189 tw_2_188 tw_1_15 3 1 rfl rfl (by decide) (by decide) (by decide) (by decide) (by decide) (by decide) (Nat.le_of_ble_eq_true rfl) dX6_become_12 (by rw [ea1]; rfl) (fun H locs hH => ?_)
  refine lv_aload_n K.x K.b dX6_become_15 rfl (lv_at hl 0 rfl) ?_
  refine lv_aload_n K.x K.b dX6_become_16 rfl (lv_at hl 1 rfl) ?_
  refine z_get K hH 2 rfl zin_6 rfl 2 (by decide) tw_1_72 (v := .int v_q1_size) rfl dX6_become_17 ?_
  refine z_put K hH 0 (ws' := [(o, .inr (5, [g_ofCrows, .ref o_rows, .int v_q1_size])), (o_rows, .inl (y 0, 30, .inl a1)), (o_q1, .inr (5, [g_q1_ofCrows, .ref o_q1_rows, .int v_q1_size])), (o_q1_rows, .inl (y 0, 30, .inl f_q1_rows))]) rfl zin_6 rfl tyX6 tyX6_ok nmX6 2 (by decide) tw_1_72 rfl rfl rfl (Nat.le_of_ble_eq_true rfl) dX6_become_20 rfl (fun H locs hH => ?_)
  have hr9 := Option.some.inj h
  obtain rfl := hr9
  rw [hQ]
  exact z_retv K hr hH [0, 1, 2, 3] (by decide) rfl dX6_become_23
def p_X0_hasPlace (v_places : Int32) (p1 : Int32) : Option (Int32) :=
  z_bd (α := Int32) (if (p1 < 0) then
  (some (0 : Int32)) else
  (if (v_places ≤ p1) then
  (some (0 : Int32)) else
  (some (1 : Int32)))) fun j1 =>
  z_gd (z_bz j1) <|
  some j1
theorem hd_X0_hasPlace : yX0_hasPlace.cls = RX0 ∧ yX0_hasPlace.cls ≠ "java/lang/invoke/MethodHandle" ∧ yX0_hasPlace.cls ≠ "java/lang/invoke/VarHandle" ∧ (parseMethodDescriptor yX0_hasPlace.desc).map (fun d => d.parameters.length) = some 1 := by decide +kernel
set_option maxHeartbeats 4000000 in
set_option maxRecDepth 100000 in
theorem c_X0_hasPlace (l : Launch) (D : va_G) (y : Nat → ClassId) (o : Nat) (g_placeKind g_placeX g_placeY g_crowKind g_crows g_now g_past g_pasts g_notes g_marks : Value) (v_places : Int32) (p1 : Int32) (r : Int32) (h : p_X0_hasPlace v_places p1 = some r) : z_MI l yX0_hasPlace cX0_hasPlace 2 (some .boolean) 0 0 D y [.ref o, .int p1] [(o, .inr (0, [g_placeKind, g_placeX, g_placeY, .int v_places, g_crowKind, g_crows, g_now, g_past, g_pasts, g_notes, g_marks]))] r [(o, .inr (0, [g_placeKind, g_placeX, g_placeY, .int v_places, g_crowKind, g_crows, g_now, g_past, g_pasts, g_notes, g_marks]))] := by
  unfold p_X0_hasPlace at h
  refine z_enI (by decide) (Nat.le_of_ble_eq_true rfl) ?_
  intro p e s m args below meth c A ls hr K hH hl
  obtain ⟨Q, hQ⟩ : ∃ Q, Q = MQ below (z_Qi D y A r [(o, .inr (0, [g_placeKind, g_placeX, g_placeY, .int v_places, g_crowKind, g_crows, g_now, g_past, g_pasts, g_notes, g_marks]))]) args s 0 0 A := ⟨_, rfl⟩
  rw [← hQ]
  have hl : lv_has ls 2 [(0, .ref o), (1, .int p1)] := hl
  refine lv_iload_n K.x K.b dX0_hasPlace_0 rfl (lv_at hl 1 rfl) ?_
  obtain ⟨j1, hj1, h⟩ := z_bd_e h
  have Kj1 : ∀ (H : Heap) (locs : List Loc) (ls : Array Slot), z_H D A s.heap [(o, .inr (0, [g_placeKind, g_placeX, g_placeY, .int v_places, g_crowKind, g_crows, g_now, g_past, g_pasts, g_notes, g_marks]))] H locs → lv_has ls 2 [] → W p l e (zR 0 0) s m args below meth c H locs 0 0 Q (F0 m 17 ls [.int j1]) := by
    intro H locs ls hH hl
    obtain ⟨g2, h⟩ := z_gd_e h
    have hr9 := Option.some.inj h
    obtain rfl := hr9
    rw [hQ]
    exact z_reti K hr hH [0] (by decide) rfl rfl (z_bz_e g2) dX0_hasPlace_17
  replace h := hj1
  refine lv_if_lt (tgt := 16) K.x K.b dX0_hasPlace_1 (by decide) (fun c3 => ?_) (fun c3 => ?_)
  · replace h := z_t c3 h
    refine lv_iconst (v := (0)) K.x K.b dX0_hasPlace_16 (by decide) ?_
    obtain rfl := Option.some.inj h
    exact Kj1 _ _ _ hH (lv_sub hl [] rfl)
  · replace h := z_f c3 h
    refine lv_iload_n K.x K.b dX0_hasPlace_4 rfl (lv_at hl 1 rfl) ?_
    refine lv_aload_n K.x K.b dX0_hasPlace_5 rfl (lv_at hl 0 rfl) ?_
    refine z_get K hH 0 rfl zin_0 rfl 3 (by decide) tw_1_85 (v := .int v_places) rfl dX0_hasPlace_6 ?_
    refine lv_icmp_ge (tgt := 16) K.x K.b dX0_hasPlace_9 (by decide) (fun c4 => ?_) (fun c4 => ?_)
    · replace h := z_t c4 h
      refine lv_iconst (v := (0)) K.x K.b dX0_hasPlace_16 (by decide) ?_
      obtain rfl := Option.some.inj h
      exact Kj1 _ _ _ hH (lv_sub hl [] rfl)
    · replace h := z_f c4 h
      refine lv_iconst (v := (1)) K.x K.b dX0_hasPlace_12 (by decide) ?_
      refine lv_goto (tgt := 17) K.x K.b dX0_hasPlace_13 (by decide) ?_
      obtain rfl := Option.some.inj h
      exact Kj1 _ _ _ hH (lv_sub hl [] rfl)
def p_X0_hasCrow (v_crows : Int32) (p1 : Int32) : Option (Int32) :=
  z_bd (α := Int32) (if (p1 < 0) then
  (some (0 : Int32)) else
  (if (v_crows ≤ p1) then
  (some (0 : Int32)) else
  (some (1 : Int32)))) fun j1 =>
  z_gd (z_bz j1) <|
  some j1
theorem hd_X0_hasCrow : yX0_hasCrow.cls = RX0 ∧ yX0_hasCrow.cls ≠ "java/lang/invoke/MethodHandle" ∧ yX0_hasCrow.cls ≠ "java/lang/invoke/VarHandle" ∧ (parseMethodDescriptor yX0_hasCrow.desc).map (fun d => d.parameters.length) = some 1 := by decide +kernel
set_option maxHeartbeats 4000000 in
set_option maxRecDepth 100000 in
theorem c_X0_hasCrow (l : Launch) (D : va_G) (y : Nat → ClassId) (o : Nat) (g_placeKind g_placeX g_placeY g_places g_crowKind g_now g_past g_pasts g_notes g_marks : Value) (v_crows : Int32) (p1 : Int32) (r : Int32) (h : p_X0_hasCrow v_crows p1 = some r) : z_MI l yX0_hasCrow cX0_hasCrow 2 (some .boolean) 0 0 D y [.ref o, .int p1] [(o, .inr (0, [g_placeKind, g_placeX, g_placeY, g_places, g_crowKind, .int v_crows, g_now, g_past, g_pasts, g_notes, g_marks]))] r [(o, .inr (0, [g_placeKind, g_placeX, g_placeY, g_places, g_crowKind, .int v_crows, g_now, g_past, g_pasts, g_notes, g_marks]))] := by
  unfold p_X0_hasCrow at h
  refine z_enI (by decide) (Nat.le_of_ble_eq_true rfl) ?_
  intro p e s m args below meth c A ls hr K hH hl
  obtain ⟨Q, hQ⟩ : ∃ Q, Q = MQ below (z_Qi D y A r [(o, .inr (0, [g_placeKind, g_placeX, g_placeY, g_places, g_crowKind, .int v_crows, g_now, g_past, g_pasts, g_notes, g_marks]))]) args s 0 0 A := ⟨_, rfl⟩
  rw [← hQ]
  have hl : lv_has ls 2 [(0, .ref o), (1, .int p1)] := hl
  refine lv_iload_n K.x K.b dX0_hasCrow_0 rfl (lv_at hl 1 rfl) ?_
  obtain ⟨j1, hj1, h⟩ := z_bd_e h
  have Kj1 : ∀ (H : Heap) (locs : List Loc) (ls : Array Slot), z_H D A s.heap [(o, .inr (0, [g_placeKind, g_placeX, g_placeY, g_places, g_crowKind, .int v_crows, g_now, g_past, g_pasts, g_notes, g_marks]))] H locs → lv_has ls 2 [] → W p l e (zR 0 0) s m args below meth c H locs 0 0 Q (F0 m 17 ls [.int j1]) := by
    intro H locs ls hH hl
    obtain ⟨g2, h⟩ := z_gd_e h
    have hr9 := Option.some.inj h
    obtain rfl := hr9
    rw [hQ]
    exact z_reti K hr hH [0] (by decide) rfl rfl (z_bz_e g2) dX0_hasCrow_17
  replace h := hj1
  refine lv_if_lt (tgt := 16) K.x K.b dX0_hasCrow_1 (by decide) (fun c3 => ?_) (fun c3 => ?_)
  · replace h := z_t c3 h
    refine lv_iconst (v := (0)) K.x K.b dX0_hasCrow_16 (by decide) ?_
    obtain rfl := Option.some.inj h
    exact Kj1 _ _ _ hH (lv_sub hl [] rfl)
  · replace h := z_f c3 h
    refine lv_iload_n K.x K.b dX0_hasCrow_4 rfl (lv_at hl 1 rfl) ?_
    refine lv_aload_n K.x K.b dX0_hasCrow_5 rfl (lv_at hl 0 rfl) ?_
    refine z_get K hH 0 rfl zin_0 rfl 5 (by decide) tw_1_90 (v := .int v_crows) rfl dX0_hasCrow_6 ?_
    refine lv_icmp_ge (tgt := 16) K.x K.b dX0_hasCrow_9 (by decide) (fun c4 => ?_) (fun c4 => ?_)
    · replace h := z_t c4 h
      refine lv_iconst (v := (0)) K.x K.b dX0_hasCrow_16 (by decide) ?_
      obtain rfl := Option.some.inj h
      exact Kj1 _ _ _ hH (lv_sub hl [] rfl)
    · replace h := z_f c4 h
      refine lv_iconst (v := (1)) K.x K.b dX0_hasCrow_12 (by decide) ?_
      refine lv_goto (tgt := 17) K.x K.b dX0_hasCrow_13 (by decide) ?_
      obtain rfl := Option.some.inj h
      exact Kj1 _ _ _ hH (lv_sub hl [] rfl)
def p_X0_addPlace (v_places : Int32) (v_pasts : Int32) (f_placeKind : (Nat → Int32)) (f_placeX : (Nat → Int32)) (f_placeY : (Nat → Int32)) (p1 : Int32) (p2 : Int32) (p3 : Int32) : Option (Int32 × Int32 × Int32 × (Nat → Int32) × (Nat → Int32) × (Nat → Int32)) :=
  if (v_places < (7 : Int32)) then
  (z_gd (z_in v_places 7) <|
  z_lt ((upd f_placeKind v_places.toNatClampNeg p1)) fun a3 =>
  z_gd (z_in v_places 7) <|
  z_lt ((upd f_placeX v_places.toNatClampNeg p2)) fun a5 =>
  z_gd (z_in v_places 7) <|
  z_lt ((upd f_placeY v_places.toNatClampNeg p3)) fun a7 =>
  z_lt ((v_places + (1 : Int32))) fun x8 =>
  some ((x8 - (1 : Int32)), x8, (0 : Int32), a3, a5, a7)) else
  (some ((-4 : Int32), v_places, v_pasts, f_placeKind, f_placeX, f_placeY))
theorem hd_X0_addPlace : yX0_addPlace.cls = RX0 ∧ yX0_addPlace.cls ≠ "java/lang/invoke/MethodHandle" ∧ yX0_addPlace.cls ≠ "java/lang/invoke/VarHandle" ∧ (parseMethodDescriptor yX0_addPlace.desc).map (fun d => d.parameters.length) = some 3 := by decide +kernel
set_option maxHeartbeats 4000000 in
set_option maxRecDepth 100000 in
theorem c_X0_addPlace (l : Launch) (D : va_G) (y : Nat → ClassId) (o o_placeKind o_placeX o_placeY : Nat) (g_crowKind g_crows g_now g_past g_notes g_marks : Value) (v_places : Int32) (v_pasts : Int32) (f_placeKind : (Nat → Int32)) (f_placeX : (Nat → Int32)) (f_placeY : (Nat → Int32)) (p1 : Int32) (p2 : Int32) (p3 : Int32) (r : Int32 × Int32 × Int32 × (Nat → Int32) × (Nat → Int32) × (Nat → Int32)) (h : p_X0_addPlace v_places v_pasts f_placeKind f_placeX f_placeY p1 p2 p3 = some r) : z_MI l yX0_addPlace cX0_addPlace 4 (some .int) 0 0 D y [.ref o, .int p1, .int p2, .int p3] [(o, .inr (0, [.ref o_placeKind, .ref o_placeX, .ref o_placeY, .int v_places, g_crowKind, g_crows, g_now, g_past, .int v_pasts, g_notes, g_marks])), (o_placeKind, .inl (y 0, 7, .inl f_placeKind)), (o_placeX, .inl (y 0, 7, .inl f_placeX)), (o_placeY, .inl (y 0, 7, .inl f_placeY))] r.1 [(o, .inr (0, [.ref o_placeKind, .ref o_placeX, .ref o_placeY, .int r.2.1, g_crowKind, g_crows, g_now, g_past, .int r.2.2.1, g_notes, g_marks])), (o_placeKind, .inl (y 0, 7, .inl r.2.2.2.1)), (o_placeX, .inl (y 0, 7, .inl r.2.2.2.2.1)), (o_placeY, .inl (y 0, 7, .inl r.2.2.2.2.2))] := by
  unfold p_X0_addPlace at h
  refine z_enI (by decide) (Nat.le_of_ble_eq_true rfl) ?_
  intro p e s m args below meth c A ls hr K hH hl
  obtain ⟨Q, hQ⟩ : ∃ Q, Q = MQ below (z_Qi D y A r.1 [(o, .inr (0, [.ref o_placeKind, .ref o_placeX, .ref o_placeY, .int r.2.1, g_crowKind, g_crows, g_now, g_past, .int r.2.2.1, g_notes, g_marks])), (o_placeKind, .inl (y 0, 7, .inl r.2.2.2.1)), (o_placeX, .inl (y 0, 7, .inl r.2.2.2.2.1)), (o_placeY, .inl (y 0, 7, .inl r.2.2.2.2.2))]) args s 0 0 A := ⟨_, rfl⟩
  rw [← hQ]
  have hl : lv_has ls 4 [(0, .ref o), (1, .int p1), (2, .int p2), (3, .int p3)] := hl
  refine lv_aload_n K.x K.b dX0_addPlace_0 rfl (lv_at hl 0 rfl) ?_
  refine z_get K hH 0 rfl zin_0 rfl 3 (by decide) tw_1_85 (v := .int v_places) rfl dX0_addPlace_1 ?_
  refine lv_bipush (v := (7)) K.x K.b dX0_addPlace_4 (by decide) ?_
  refine lv_icmp_lt (tgt := 12) K.x K.b dX0_addPlace_6 (by decide) (fun c1 => ?_) (fun c1 => ?_)
  · replace h := z_t c1 h
    refine lv_aload_n K.x K.b dX0_addPlace_12 rfl (lv_at hl 0 rfl) ?_
    refine z_get K hH 0 rfl zin_0 rfl 0 (by decide) tw_1_82 (v := .ref o_placeKind) rfl dX0_addPlace_13 ?_
    refine lv_aload_n K.x K.b dX0_addPlace_16 rfl (lv_at hl 0 rfl) ?_
    refine z_get K hH 0 rfl zin_0 rfl 3 (by decide) tw_1_85 (v := .int v_places) rfl dX0_addPlace_17 ?_
    refine lv_iload_n K.x K.b dX0_addPlace_20 rfl (lv_at hl 1 rfl) ?_
    obtain ⟨g2, h⟩ := z_gd_e h
    obtain ⟨a3, ea3, h⟩ := z_lt_e h
    refine z_iast K hH 1 (k := v_places.toNatClampNeg) (ws' := [(o, .inr (0, [.ref o_placeKind, .ref o_placeX, .ref o_placeY, .int v_places, g_crowKind, g_crows, g_now, g_past, .int v_pasts, g_notes, g_marks])), (o_placeKind, .inl (y 0, 7, .inl a3)), (o_placeX, .inl (y 0, 7, .inl f_placeX)), (o_placeY, .inl (y 0, 7, .inl f_placeY))]) rfl g2 rfl dX0_addPlace_21 (by rw [ea3]; rfl) (fun H locs hH => ?_)
    refine lv_aload_n K.x K.b dX0_addPlace_22 rfl (lv_at hl 0 rfl) ?_
    refine z_get K hH 0 rfl zin_0 rfl 1 (by decide) tw_1_83 (v := .ref o_placeX) rfl dX0_addPlace_23 ?_
    refine lv_aload_n K.x K.b dX0_addPlace_26 rfl (lv_at hl 0 rfl) ?_
    refine z_get K hH 0 rfl zin_0 rfl 3 (by decide) tw_1_85 (v := .int v_places) rfl dX0_addPlace_27 ?_
    refine lv_iload_n K.x K.b dX0_addPlace_30 rfl (lv_at hl 2 rfl) ?_
    obtain ⟨g4, h⟩ := z_gd_e h
    obtain ⟨a5, ea5, h⟩ := z_lt_e h
    refine z_iast K hH 2 (k := v_places.toNatClampNeg) (ws' := [(o, .inr (0, [.ref o_placeKind, .ref o_placeX, .ref o_placeY, .int v_places, g_crowKind, g_crows, g_now, g_past, .int v_pasts, g_notes, g_marks])), (o_placeKind, .inl (y 0, 7, .inl a3)), (o_placeX, .inl (y 0, 7, .inl a5)), (o_placeY, .inl (y 0, 7, .inl f_placeY))]) rfl g4 rfl dX0_addPlace_31 (by rw [ea5]; rfl) (fun H locs hH => ?_)
    refine lv_aload_n K.x K.b dX0_addPlace_32 rfl (lv_at hl 0 rfl) ?_
    refine z_get K hH 0 rfl zin_0 rfl 2 (by decide) tw_1_84 (v := .ref o_placeY) rfl dX0_addPlace_33 ?_
    refine lv_aload_n K.x K.b dX0_addPlace_36 rfl (lv_at hl 0 rfl) ?_
    refine z_get K hH 0 rfl zin_0 rfl 3 (by decide) tw_1_85 (v := .int v_places) rfl dX0_addPlace_37 ?_
    refine lv_iload_n K.x K.b dX0_addPlace_40 rfl (lv_at hl 3 rfl) ?_
    obtain ⟨g6, h⟩ := z_gd_e h
    obtain ⟨a7, ea7, h⟩ := z_lt_e h
    refine z_iast K hH 3 (k := v_places.toNatClampNeg) (ws' := [(o, .inr (0, [.ref o_placeKind, .ref o_placeX, .ref o_placeY, .int v_places, g_crowKind, g_crows, g_now, g_past, .int v_pasts, g_notes, g_marks])), (o_placeKind, .inl (y 0, 7, .inl a3)), (o_placeX, .inl (y 0, 7, .inl a5)), (o_placeY, .inl (y 0, 7, .inl a7))]) rfl g6 rfl dX0_addPlace_41 (by rw [ea7]; rfl) (fun H locs hH => ?_)
    refine lv_aload_n K.x K.b dX0_addPlace_42 rfl (lv_at hl 0 rfl) ?_
    refine lv_dup K.x K.b dX0_addPlace_43 rfl ?_
    refine z_get K hH 0 rfl zin_0 rfl 3 (by decide) tw_1_85 (v := .int v_places) rfl dX0_addPlace_44 ?_
    refine lv_iconst (v := (1)) K.x K.b dX0_addPlace_47 (by decide) ?_
    refine lv_iadd K.x K.b dX0_addPlace_48 ?_
    obtain ⟨x8, ex8, h⟩ := z_lt_e h
    refine z_nm ex8 ?_
    refine z_put K hH 0 (ws' := [(o, .inr (0, [.ref o_placeKind, .ref o_placeX, .ref o_placeY, .int x8, g_crowKind, g_crows, g_now, g_past, .int v_pasts, g_notes, g_marks])), (o_placeKind, .inl (y 0, 7, .inl a3)), (o_placeX, .inl (y 0, 7, .inl a5)), (o_placeY, .inl (y 0, 7, .inl a7))]) rfl zin_0 rfl tyX0 tyX0_ok nmX0 3 (by decide) tw_1_85 rfl rfl rfl (Nat.le_of_ble_eq_true rfl) dX0_addPlace_49 rfl (fun H locs hH => ?_)
    refine lv_aload_n K.x K.b dX0_addPlace_52 rfl (lv_at hl 0 rfl) ?_
    refine lv_iconst (v := (0)) K.x K.b dX0_addPlace_53 (by decide) ?_
    refine z_put K hH 0 (ws' := [(o, .inr (0, [.ref o_placeKind, .ref o_placeX, .ref o_placeY, .int x8, g_crowKind, g_crows, g_now, g_past, .int (0 : Int32), g_notes, g_marks])), (o_placeKind, .inl (y 0, 7, .inl a3)), (o_placeX, .inl (y 0, 7, .inl a5)), (o_placeY, .inl (y 0, 7, .inl a7))]) rfl zin_0 rfl tyX0 tyX0_ok nmX0 8 (by decide) tw_1_97 rfl rfl rfl (Nat.le_of_ble_eq_true rfl) dX0_addPlace_54 rfl (fun H locs hH => ?_)
    refine lv_aload_n K.x K.b dX0_addPlace_57 rfl (lv_at hl 0 rfl) ?_
    refine z_get K hH 0 rfl zin_0 rfl 3 (by decide) tw_1_85 (v := .int x8) rfl dX0_addPlace_58 ?_
    refine lv_iconst (v := (1)) K.x K.b dX0_addPlace_61 (by decide) ?_
    refine lv_isub K.x K.b dX0_addPlace_62 ?_
    have hr9 := Option.some.inj h
    obtain rfl := hr9
    rw [hQ]
    exact z_reti K hr hH [0, 1, 2, 3] (by decide) rfl rfl rfl dX0_addPlace_63
  · replace h := z_f c1 h
    refine lv_bipush (v := (-4)) K.x K.b dX0_addPlace_9 (by decide) ?_
    have hr9 := Option.some.inj h
    obtain rfl := hr9
    rw [hQ]
    exact z_reti K hr hH [0, 1, 2, 3] (by decide) rfl rfl rfl dX0_addPlace_11
def p_X0_addCrow (v_crows : Int32) (v_pasts : Int32) (f_crowKind : (Nat → Int32)) (f_now_at : (Nat → Int32)) (f_now_tired : (Nat → Int32)) (p1 : Int32) (p2 : Int32) : Option (Int32 × Int32 × Int32 × (Nat → Int32) × (Nat → Int32) × (Nat → Int32)) :=
  if (v_crows < (3 : Int32)) then
  (z_gd (z_in v_crows 3) <|
  z_lt ((upd f_crowKind v_crows.toNatClampNeg p1)) fun a3 =>
  z_gd (z_in v_crows 3) <|
  z_lt ((upd f_now_at v_crows.toNatClampNeg p2)) fun a5 =>
  z_gd (z_in v_crows 3) <|
  z_lt ((upd f_now_tired v_crows.toNatClampNeg (0 : Int32))) fun a7 =>
  z_lt ((v_crows + (1 : Int32))) fun x8 =>
  some ((x8 - (1 : Int32)), x8, (0 : Int32), a3, a5, a7)) else
  (some ((-4 : Int32), v_crows, v_pasts, f_crowKind, f_now_at, f_now_tired))
theorem hd_X0_addCrow : yX0_addCrow.cls = RX0 ∧ yX0_addCrow.cls ≠ "java/lang/invoke/MethodHandle" ∧ yX0_addCrow.cls ≠ "java/lang/invoke/VarHandle" ∧ (parseMethodDescriptor yX0_addCrow.desc).map (fun d => d.parameters.length) = some 2 := by decide +kernel
set_option maxHeartbeats 4000000 in
set_option maxRecDepth 100000 in
theorem c_X0_addCrow (l : Launch) (D : va_G) (y : Nat → ClassId) (o o_crowKind o_now o_now_at o_now_tired : Nat) (g_placeKind g_placeX g_placeY g_places g_past g_notes g_marks g_now_deedRows g_now_deeds g_now_hour : Value) (v_crows : Int32) (v_pasts : Int32) (f_crowKind : (Nat → Int32)) (f_now_at : (Nat → Int32)) (f_now_tired : (Nat → Int32)) (p1 : Int32) (p2 : Int32) (r : Int32 × Int32 × Int32 × (Nat → Int32) × (Nat → Int32) × (Nat → Int32)) (h : p_X0_addCrow v_crows v_pasts f_crowKind f_now_at f_now_tired p1 p2 = some r) : z_MI l yX0_addCrow cX0_addCrow 3 (some .int) 0 0 D y [.ref o, .int p1, .int p2] [(o, .inr (0, [g_placeKind, g_placeX, g_placeY, g_places, .ref o_crowKind, .int v_crows, .ref o_now, g_past, .int v_pasts, g_notes, g_marks])), (o_crowKind, .inl (y 0, 3, .inl f_crowKind)), (o_now, .inr (1, [.ref o_now_at, .ref o_now_tired, g_now_deedRows, g_now_deeds, g_now_hour])), (o_now_at, .inl (y 0, 3, .inl f_now_at)), (o_now_tired, .inl (y 0, 3, .inl f_now_tired))] r.1 [(o, .inr (0, [g_placeKind, g_placeX, g_placeY, g_places, .ref o_crowKind, .int r.2.1, .ref o_now, g_past, .int r.2.2.1, g_notes, g_marks])), (o_crowKind, .inl (y 0, 3, .inl r.2.2.2.1)), (o_now, .inr (1, [.ref o_now_at, .ref o_now_tired, g_now_deedRows, g_now_deeds, g_now_hour])), (o_now_at, .inl (y 0, 3, .inl r.2.2.2.2.1)), (o_now_tired, .inl (y 0, 3, .inl r.2.2.2.2.2))] := by
  unfold p_X0_addCrow at h
  refine z_enI (by decide) (Nat.le_of_ble_eq_true rfl) ?_
  intro p e s m args below meth c A ls hr K hH hl
  obtain ⟨Q, hQ⟩ : ∃ Q, Q = MQ below (z_Qi D y A r.1 [(o, .inr (0, [g_placeKind, g_placeX, g_placeY, g_places, .ref o_crowKind, .int r.2.1, .ref o_now, g_past, .int r.2.2.1, g_notes, g_marks])), (o_crowKind, .inl (y 0, 3, .inl r.2.2.2.1)), (o_now, .inr (1, [.ref o_now_at, .ref o_now_tired, g_now_deedRows, g_now_deeds, g_now_hour])), (o_now_at, .inl (y 0, 3, .inl r.2.2.2.2.1)), (o_now_tired, .inl (y 0, 3, .inl r.2.2.2.2.2))]) args s 0 0 A := ⟨_, rfl⟩
  rw [← hQ]
  have hl : lv_has ls 3 [(0, .ref o), (1, .int p1), (2, .int p2)] := hl
  refine lv_aload_n K.x K.b dX0_addCrow_0 rfl (lv_at hl 0 rfl) ?_
  refine z_get K hH 0 rfl zin_0 rfl 5 (by decide) tw_1_90 (v := .int v_crows) rfl dX0_addCrow_1 ?_
  refine lv_iconst (v := (3)) K.x K.b dX0_addCrow_4 (by decide) ?_
  refine lv_icmp_lt (tgt := 11) K.x K.b dX0_addCrow_5 (by decide) (fun c1 => ?_) (fun c1 => ?_)
  · replace h := z_t c1 h
    refine lv_aload_n K.x K.b dX0_addCrow_11 rfl (lv_at hl 0 rfl) ?_
    refine z_get K hH 0 rfl zin_0 rfl 4 (by decide) tw_1_89 (v := .ref o_crowKind) rfl dX0_addCrow_12 ?_
    refine lv_aload_n K.x K.b dX0_addCrow_15 rfl (lv_at hl 0 rfl) ?_
    refine z_get K hH 0 rfl zin_0 rfl 5 (by decide) tw_1_90 (v := .int v_crows) rfl dX0_addCrow_16 ?_
    refine lv_iload_n K.x K.b dX0_addCrow_19 rfl (lv_at hl 1 rfl) ?_
    obtain ⟨g2, h⟩ := z_gd_e h
    obtain ⟨a3, ea3, h⟩ := z_lt_e h
    refine z_iast K hH 1 (k := v_crows.toNatClampNeg) (ws' := [(o, .inr (0, [g_placeKind, g_placeX, g_placeY, g_places, .ref o_crowKind, .int v_crows, .ref o_now, g_past, .int v_pasts, g_notes, g_marks])), (o_crowKind, .inl (y 0, 3, .inl a3)), (o_now, .inr (1, [.ref o_now_at, .ref o_now_tired, g_now_deedRows, g_now_deeds, g_now_hour])), (o_now_at, .inl (y 0, 3, .inl f_now_at)), (o_now_tired, .inl (y 0, 3, .inl f_now_tired))]) rfl g2 rfl dX0_addCrow_20 (by rw [ea3]; rfl) (fun H locs hH => ?_)
    refine lv_aload_n K.x K.b dX0_addCrow_21 rfl (lv_at hl 0 rfl) ?_
    refine z_get K hH 0 rfl zin_0 rfl 6 (by decide) tw_1_93 (v := .ref o_now) rfl dX0_addCrow_22 ?_
    refine z_get K hH 2 rfl zin_1 rfl 0 (by decide) tw_1_38 (v := .ref o_now_at) rfl dX0_addCrow_25 ?_
    refine lv_aload_n K.x K.b dX0_addCrow_28 rfl (lv_at hl 0 rfl) ?_
    refine z_get K hH 0 rfl zin_0 rfl 5 (by decide) tw_1_90 (v := .int v_crows) rfl dX0_addCrow_29 ?_
    refine lv_iload_n K.x K.b dX0_addCrow_32 rfl (lv_at hl 2 rfl) ?_
    obtain ⟨g4, h⟩ := z_gd_e h
    obtain ⟨a5, ea5, h⟩ := z_lt_e h
    refine z_iast K hH 3 (k := v_crows.toNatClampNeg) (ws' := [(o, .inr (0, [g_placeKind, g_placeX, g_placeY, g_places, .ref o_crowKind, .int v_crows, .ref o_now, g_past, .int v_pasts, g_notes, g_marks])), (o_crowKind, .inl (y 0, 3, .inl a3)), (o_now, .inr (1, [.ref o_now_at, .ref o_now_tired, g_now_deedRows, g_now_deeds, g_now_hour])), (o_now_at, .inl (y 0, 3, .inl a5)), (o_now_tired, .inl (y 0, 3, .inl f_now_tired))]) rfl g4 rfl dX0_addCrow_33 (by rw [ea5]; rfl) (fun H locs hH => ?_)
    refine lv_aload_n K.x K.b dX0_addCrow_34 rfl (lv_at hl 0 rfl) ?_
    refine z_get K hH 0 rfl zin_0 rfl 6 (by decide) tw_1_93 (v := .ref o_now) rfl dX0_addCrow_35 ?_
    refine z_get K hH 2 rfl zin_1 rfl 1 (by decide) tw_1_41 (v := .ref o_now_tired) rfl dX0_addCrow_38 ?_
    refine lv_aload_n K.x K.b dX0_addCrow_41 rfl (lv_at hl 0 rfl) ?_
    refine z_get K hH 0 rfl zin_0 rfl 5 (by decide) tw_1_90 (v := .int v_crows) rfl dX0_addCrow_42 ?_
    refine lv_iconst (v := (0)) K.x K.b dX0_addCrow_45 (by decide) ?_
    obtain ⟨g6, h⟩ := z_gd_e h
    obtain ⟨a7, ea7, h⟩ := z_lt_e h
    refine z_iast K hH 4 (k := v_crows.toNatClampNeg) (ws' := [(o, .inr (0, [g_placeKind, g_placeX, g_placeY, g_places, .ref o_crowKind, .int v_crows, .ref o_now, g_past, .int v_pasts, g_notes, g_marks])), (o_crowKind, .inl (y 0, 3, .inl a3)), (o_now, .inr (1, [.ref o_now_at, .ref o_now_tired, g_now_deedRows, g_now_deeds, g_now_hour])), (o_now_at, .inl (y 0, 3, .inl a5)), (o_now_tired, .inl (y 0, 3, .inl a7))]) rfl g6 rfl dX0_addCrow_46 (by rw [ea7]; rfl) (fun H locs hH => ?_)
    refine lv_aload_n K.x K.b dX0_addCrow_47 rfl (lv_at hl 0 rfl) ?_
    refine lv_dup K.x K.b dX0_addCrow_48 rfl ?_
    refine z_get K hH 0 rfl zin_0 rfl 5 (by decide) tw_1_90 (v := .int v_crows) rfl dX0_addCrow_49 ?_
    refine lv_iconst (v := (1)) K.x K.b dX0_addCrow_52 (by decide) ?_
    refine lv_iadd K.x K.b dX0_addCrow_53 ?_
    obtain ⟨x8, ex8, h⟩ := z_lt_e h
    refine z_nm ex8 ?_
    refine z_put K hH 0 (ws' := [(o, .inr (0, [g_placeKind, g_placeX, g_placeY, g_places, .ref o_crowKind, .int x8, .ref o_now, g_past, .int v_pasts, g_notes, g_marks])), (o_crowKind, .inl (y 0, 3, .inl a3)), (o_now, .inr (1, [.ref o_now_at, .ref o_now_tired, g_now_deedRows, g_now_deeds, g_now_hour])), (o_now_at, .inl (y 0, 3, .inl a5)), (o_now_tired, .inl (y 0, 3, .inl a7))]) rfl zin_0 rfl tyX0 tyX0_ok nmX0 5 (by decide) tw_1_90 rfl rfl rfl (Nat.le_of_ble_eq_true rfl) dX0_addCrow_54 rfl (fun H locs hH => ?_)
    refine lv_aload_n K.x K.b dX0_addCrow_57 rfl (lv_at hl 0 rfl) ?_
    refine lv_iconst (v := (0)) K.x K.b dX0_addCrow_58 (by decide) ?_
    refine z_put K hH 0 (ws' := [(o, .inr (0, [g_placeKind, g_placeX, g_placeY, g_places, .ref o_crowKind, .int x8, .ref o_now, g_past, .int (0 : Int32), g_notes, g_marks])), (o_crowKind, .inl (y 0, 3, .inl a3)), (o_now, .inr (1, [.ref o_now_at, .ref o_now_tired, g_now_deedRows, g_now_deeds, g_now_hour])), (o_now_at, .inl (y 0, 3, .inl a5)), (o_now_tired, .inl (y 0, 3, .inl a7))]) rfl zin_0 rfl tyX0 tyX0_ok nmX0 8 (by decide) tw_1_97 rfl rfl rfl (Nat.le_of_ble_eq_true rfl) dX0_addCrow_59 rfl (fun H locs hH => ?_)
    refine lv_aload_n K.x K.b dX0_addCrow_62 rfl (lv_at hl 0 rfl) ?_
    refine z_get K hH 0 rfl zin_0 rfl 5 (by decide) tw_1_90 (v := .int x8) rfl dX0_addCrow_63 ?_
    refine lv_iconst (v := (1)) K.x K.b dX0_addCrow_66 (by decide) ?_
    refine lv_isub K.x K.b dX0_addCrow_67 ?_
    have hr9 := Option.some.inj h
    obtain rfl := hr9
    rw [hQ]
    exact z_reti K hr hH [0, 1, 2, 3, 4] (by decide) rfl rfl rfl dX0_addCrow_68
  · replace h := z_f c1 h
    refine lv_bipush (v := (-4)) K.x K.b dX0_addCrow_8 (by decide) ?_
    have hr9 := Option.some.inj h
    obtain rfl := hr9
    rw [hQ]
    exact z_reti K hr hH [0, 1, 2, 3, 4] (by decide) rfl rfl rfl dX0_addCrow_10
def p_X0_aboutPlace (f_placeKind : (Nat → Int32)) (f_placeX : (Nat → Int32)) (f_placeY : (Nat → Int32)) (p1 : Int32) (p2 : Int32) : Option (Int32) :=
  if (p2 = 0) then
  (z_gd (z_in p1 7) <|
  some (f_placeKind p1.toNatClampNeg)) else
  (z_bd (α := Int32) (if (p2 = (1 : Int32)) then
  (z_gd (z_in p1 7) <|
  some (f_placeX p1.toNatClampNeg)) else
  (z_gd (z_in p1 7) <|
  some (f_placeY p1.toNatClampNeg))) fun j2 =>
  some j2)
theorem hd_X0_aboutPlace : yX0_aboutPlace.cls = RX0 ∧ yX0_aboutPlace.cls ≠ "java/lang/invoke/MethodHandle" ∧ yX0_aboutPlace.cls ≠ "java/lang/invoke/VarHandle" ∧ (parseMethodDescriptor yX0_aboutPlace.desc).map (fun d => d.parameters.length) = some 2 := by decide +kernel
set_option maxHeartbeats 4000000 in
set_option maxRecDepth 100000 in
theorem c_X0_aboutPlace (l : Launch) (D : va_G) (y : Nat → ClassId) (o o_placeKind o_placeX o_placeY : Nat) (g_places g_crowKind g_crows g_now g_past g_pasts g_notes g_marks : Value) (f_placeKind : (Nat → Int32)) (f_placeX : (Nat → Int32)) (f_placeY : (Nat → Int32)) (p1 : Int32) (p2 : Int32) (r : Int32) (h : p_X0_aboutPlace f_placeKind f_placeX f_placeY p1 p2 = some r) : z_MI l yX0_aboutPlace cX0_aboutPlace 3 (some .int) 0 0 D y [.ref o, .int p1, .int p2] [(o, .inr (0, [.ref o_placeKind, .ref o_placeX, .ref o_placeY, g_places, g_crowKind, g_crows, g_now, g_past, g_pasts, g_notes, g_marks])), (o_placeKind, .inl (y 0, 7, .inl f_placeKind)), (o_placeX, .inl (y 0, 7, .inl f_placeX)), (o_placeY, .inl (y 0, 7, .inl f_placeY))] r [(o, .inr (0, [.ref o_placeKind, .ref o_placeX, .ref o_placeY, g_places, g_crowKind, g_crows, g_now, g_past, g_pasts, g_notes, g_marks])), (o_placeKind, .inl (y 0, 7, .inl f_placeKind)), (o_placeX, .inl (y 0, 7, .inl f_placeX)), (o_placeY, .inl (y 0, 7, .inl f_placeY))] := by
  unfold p_X0_aboutPlace at h
  refine z_enI (by decide) (Nat.le_of_ble_eq_true rfl) ?_
  intro p e s m args below meth c A ls hr K hH hl
  obtain ⟨Q, hQ⟩ : ∃ Q, Q = MQ below (z_Qi D y A r [(o, .inr (0, [.ref o_placeKind, .ref o_placeX, .ref o_placeY, g_places, g_crowKind, g_crows, g_now, g_past, g_pasts, g_notes, g_marks])), (o_placeKind, .inl (y 0, 7, .inl f_placeKind)), (o_placeX, .inl (y 0, 7, .inl f_placeX)), (o_placeY, .inl (y 0, 7, .inl f_placeY))]) args s 0 0 A := ⟨_, rfl⟩
  rw [← hQ]
  have hl : lv_has ls 3 [(0, .ref o), (1, .int p1), (2, .int p2)] := hl
  refine lv_iload_n K.x K.b dX0_aboutPlace_0 rfl (lv_at hl 2 rfl) ?_
  refine lv_if_ne (tgt := 11) K.x K.b dX0_aboutPlace_1 (by decide) (fun c1 => ?_) (fun c1 => ?_)
  · replace h := z_f c1 h
    refine lv_iload_n K.x K.b dX0_aboutPlace_11 rfl (lv_at hl 2 rfl) ?_
    refine lv_iconst (v := (1)) K.x K.b dX0_aboutPlace_12 (by decide) ?_
    obtain ⟨j2, hj2, h⟩ := z_bd_e h
    have Kj2 : ∀ (H : Heap) (locs : List Loc) (ls : Array Slot), z_H D A s.heap [(o, .inr (0, [.ref o_placeKind, .ref o_placeX, .ref o_placeY, g_places, g_crowKind, g_crows, g_now, g_past, g_pasts, g_notes, g_marks])), (o_placeKind, .inl (y 0, 7, .inl f_placeKind)), (o_placeX, .inl (y 0, 7, .inl f_placeX)), (o_placeY, .inl (y 0, 7, .inl f_placeY))] H locs → lv_has ls 3 [] → W p l e (zR 0 0) s m args below meth c H locs 0 0 Q (F0 m 31 ls [.int j2]) := by
      intro H locs ls hH hl
      have hr9 := Option.some.inj h
      obtain rfl := hr9
      rw [hQ]
      exact z_reti K hr hH [0, 1, 2, 3] (by decide) rfl rfl rfl dX0_aboutPlace_31
    replace h := hj2
    refine lv_icmp_ne (tgt := 25) K.x K.b dX0_aboutPlace_13 (by decide) (fun c3 => ?_) (fun c3 => ?_)
    · replace h := z_f c3 h
      refine lv_aload_n K.x K.b dX0_aboutPlace_25 rfl (lv_at hl 0 rfl) ?_
      refine z_get K hH 0 rfl zin_0 rfl 2 (by decide) tw_1_84 (v := .ref o_placeY) rfl dX0_aboutPlace_26 ?_
      refine lv_iload_n K.x K.b dX0_aboutPlace_29 rfl (lv_at hl 1 rfl) ?_
      obtain ⟨g4, h⟩ := z_gd_e h
      refine z_iald K hH 3 (k := p1.toNatClampNeg) rfl g4 rfl dX0_aboutPlace_30 ?_
      obtain rfl := Option.some.inj h
      exact Kj2 _ _ _ hH (lv_sub hl [] rfl)
    · replace h := z_t c3 h
      refine lv_aload_n K.x K.b dX0_aboutPlace_16 rfl (lv_at hl 0 rfl) ?_
      refine z_get K hH 0 rfl zin_0 rfl 1 (by decide) tw_1_83 (v := .ref o_placeX) rfl dX0_aboutPlace_17 ?_
      refine lv_iload_n K.x K.b dX0_aboutPlace_20 rfl (lv_at hl 1 rfl) ?_
      obtain ⟨g5, h⟩ := z_gd_e h
      refine z_iald K hH 2 (k := p1.toNatClampNeg) rfl g5 rfl dX0_aboutPlace_21 ?_
      refine lv_goto (tgt := 31) K.x K.b dX0_aboutPlace_22 (by decide) ?_
      obtain rfl := Option.some.inj h
      exact Kj2 _ _ _ hH (lv_sub hl [] rfl)
  · replace h := z_t c1 h
    refine lv_aload_n K.x K.b dX0_aboutPlace_4 rfl (lv_at hl 0 rfl) ?_
    refine z_get K hH 0 rfl zin_0 rfl 0 (by decide) tw_1_82 (v := .ref o_placeKind) rfl dX0_aboutPlace_5 ?_
    refine lv_iload_n K.x K.b dX0_aboutPlace_8 rfl (lv_at hl 1 rfl) ?_
    obtain ⟨g6, h⟩ := z_gd_e h
    refine z_iald K hH 1 (k := p1.toNatClampNeg) rfl g6 rfl dX0_aboutPlace_9 ?_
    have hr9 := Option.some.inj h
    obtain rfl := hr9
    rw [hQ]
    exact z_reti K hr hH [0, 1, 2, 3] (by decide) rfl rfl rfl dX0_aboutPlace_10
def p_X0_aboutCrow (f_crowKind : (Nat → Int32)) (f_now_at : (Nat → Int32)) (f_now_tired : (Nat → Int32)) (p1 : Int32) (p2 : Int32) : Option (Int32) :=
  if (p2 = 0) then
  (z_gd (z_in p1 3) <|
  some (f_crowKind p1.toNatClampNeg)) else
  (z_bd (α := Int32) (if (p2 = (1 : Int32)) then
  (z_gd (z_in p1 3) <|
  some (f_now_at p1.toNatClampNeg)) else
  (z_gd (z_in p1 3) <|
  some (f_now_tired p1.toNatClampNeg))) fun j2 =>
  some j2)
theorem hd_X0_aboutCrow : yX0_aboutCrow.cls = RX0 ∧ yX0_aboutCrow.cls ≠ "java/lang/invoke/MethodHandle" ∧ yX0_aboutCrow.cls ≠ "java/lang/invoke/VarHandle" ∧ (parseMethodDescriptor yX0_aboutCrow.desc).map (fun d => d.parameters.length) = some 2 := by decide +kernel
set_option maxHeartbeats 4000000 in
set_option maxRecDepth 100000 in
theorem c_X0_aboutCrow (l : Launch) (D : va_G) (y : Nat → ClassId) (o o_crowKind o_now o_now_at o_now_tired : Nat) (g_placeKind g_placeX g_placeY g_places g_crows g_past g_pasts g_notes g_marks g_now_deedRows g_now_deeds g_now_hour : Value) (f_crowKind : (Nat → Int32)) (f_now_at : (Nat → Int32)) (f_now_tired : (Nat → Int32)) (p1 : Int32) (p2 : Int32) (r : Int32) (h : p_X0_aboutCrow f_crowKind f_now_at f_now_tired p1 p2 = some r) : z_MI l yX0_aboutCrow cX0_aboutCrow 3 (some .int) 0 0 D y [.ref o, .int p1, .int p2] [(o, .inr (0, [g_placeKind, g_placeX, g_placeY, g_places, .ref o_crowKind, g_crows, .ref o_now, g_past, g_pasts, g_notes, g_marks])), (o_crowKind, .inl (y 0, 3, .inl f_crowKind)), (o_now, .inr (1, [.ref o_now_at, .ref o_now_tired, g_now_deedRows, g_now_deeds, g_now_hour])), (o_now_at, .inl (y 0, 3, .inl f_now_at)), (o_now_tired, .inl (y 0, 3, .inl f_now_tired))] r [(o, .inr (0, [g_placeKind, g_placeX, g_placeY, g_places, .ref o_crowKind, g_crows, .ref o_now, g_past, g_pasts, g_notes, g_marks])), (o_crowKind, .inl (y 0, 3, .inl f_crowKind)), (o_now, .inr (1, [.ref o_now_at, .ref o_now_tired, g_now_deedRows, g_now_deeds, g_now_hour])), (o_now_at, .inl (y 0, 3, .inl f_now_at)), (o_now_tired, .inl (y 0, 3, .inl f_now_tired))] := by
  unfold p_X0_aboutCrow at h
  refine z_enI (by decide) (Nat.le_of_ble_eq_true rfl) ?_
  intro p e s m args below meth c A ls hr K hH hl
  obtain ⟨Q, hQ⟩ : ∃ Q, Q = MQ below (z_Qi D y A r [(o, .inr (0, [g_placeKind, g_placeX, g_placeY, g_places, .ref o_crowKind, g_crows, .ref o_now, g_past, g_pasts, g_notes, g_marks])), (o_crowKind, .inl (y 0, 3, .inl f_crowKind)), (o_now, .inr (1, [.ref o_now_at, .ref o_now_tired, g_now_deedRows, g_now_deeds, g_now_hour])), (o_now_at, .inl (y 0, 3, .inl f_now_at)), (o_now_tired, .inl (y 0, 3, .inl f_now_tired))]) args s 0 0 A := ⟨_, rfl⟩
  rw [← hQ]
  have hl : lv_has ls 3 [(0, .ref o), (1, .int p1), (2, .int p2)] := hl
  refine lv_iload_n K.x K.b dX0_aboutCrow_0 rfl (lv_at hl 2 rfl) ?_
  refine lv_if_ne (tgt := 11) K.x K.b dX0_aboutCrow_1 (by decide) (fun c1 => ?_) (fun c1 => ?_)
  · replace h := z_f c1 h
    refine lv_iload_n K.x K.b dX0_aboutCrow_11 rfl (lv_at hl 2 rfl) ?_
    refine lv_iconst (v := (1)) K.x K.b dX0_aboutCrow_12 (by decide) ?_
    obtain ⟨j2, hj2, h⟩ := z_bd_e h
    have Kj2 : ∀ (H : Heap) (locs : List Loc) (ls : Array Slot), z_H D A s.heap [(o, .inr (0, [g_placeKind, g_placeX, g_placeY, g_places, .ref o_crowKind, g_crows, .ref o_now, g_past, g_pasts, g_notes, g_marks])), (o_crowKind, .inl (y 0, 3, .inl f_crowKind)), (o_now, .inr (1, [.ref o_now_at, .ref o_now_tired, g_now_deedRows, g_now_deeds, g_now_hour])), (o_now_at, .inl (y 0, 3, .inl f_now_at)), (o_now_tired, .inl (y 0, 3, .inl f_now_tired))] H locs → lv_has ls 3 [] → W p l e (zR 0 0) s m args below meth c H locs 0 0 Q (F0 m 37 ls [.int j2]) := by
      intro H locs ls hH hl
      have hr9 := Option.some.inj h
      obtain rfl := hr9
      rw [hQ]
      exact z_reti K hr hH [0, 1, 2, 3, 4] (by decide) rfl rfl rfl dX0_aboutCrow_37
    replace h := hj2
    refine lv_icmp_ne (tgt := 28) K.x K.b dX0_aboutCrow_13 (by decide) (fun c3 => ?_) (fun c3 => ?_)
    · replace h := z_f c3 h
      refine lv_aload_n K.x K.b dX0_aboutCrow_28 rfl (lv_at hl 0 rfl) ?_
      refine z_get K hH 0 rfl zin_0 rfl 6 (by decide) tw_1_93 (v := .ref o_now) rfl dX0_aboutCrow_29 ?_
      refine z_get K hH 2 rfl zin_1 rfl 1 (by decide) tw_1_41 (v := .ref o_now_tired) rfl dX0_aboutCrow_32 ?_
      refine lv_iload_n K.x K.b dX0_aboutCrow_35 rfl (lv_at hl 1 rfl) ?_
      obtain ⟨g4, h⟩ := z_gd_e h
      refine z_iald K hH 4 (k := p1.toNatClampNeg) rfl g4 rfl dX0_aboutCrow_36 ?_
      obtain rfl := Option.some.inj h
      exact Kj2 _ _ _ hH (lv_sub hl [] rfl)
    · replace h := z_t c3 h
      refine lv_aload_n K.x K.b dX0_aboutCrow_16 rfl (lv_at hl 0 rfl) ?_
      refine z_get K hH 0 rfl zin_0 rfl 6 (by decide) tw_1_93 (v := .ref o_now) rfl dX0_aboutCrow_17 ?_
      refine z_get K hH 2 rfl zin_1 rfl 0 (by decide) tw_1_38 (v := .ref o_now_at) rfl dX0_aboutCrow_20 ?_
      refine lv_iload_n K.x K.b dX0_aboutCrow_23 rfl (lv_at hl 1 rfl) ?_
      obtain ⟨g5, h⟩ := z_gd_e h
      refine z_iald K hH 3 (k := p1.toNatClampNeg) rfl g5 rfl dX0_aboutCrow_24 ?_
      refine lv_goto (tgt := 37) K.x K.b dX0_aboutCrow_25 (by decide) ?_
      obtain rfl := Option.some.inj h
      exact Kj2 _ _ _ hH (lv_sub hl [] rfl)
  · replace h := z_t c1 h
    refine lv_aload_n K.x K.b dX0_aboutCrow_4 rfl (lv_at hl 0 rfl) ?_
    refine z_get K hH 0 rfl zin_0 rfl 4 (by decide) tw_1_89 (v := .ref o_crowKind) rfl dX0_aboutCrow_5 ?_
    refine lv_iload_n K.x K.b dX0_aboutCrow_8 rfl (lv_at hl 1 rfl) ?_
    obtain ⟨g6, h⟩ := z_gd_e h
    refine z_iald K hH 1 (k := p1.toNatClampNeg) rfl g6 rfl dX0_aboutCrow_9 ?_
    have hr9 := Option.some.inj h
    obtain rfl := hr9
    rw [hQ]
    exact z_reti K hr hH [0, 1, 2, 3, 4] (by decide) rfl rfl rfl dX0_aboutCrow_10
def p_X0_line (f_placeX : (Nat → Int32)) (f_placeY : (Nat → Int32)) (p1 : Int32) (p2 : Int32) : Option (Int32) :=
  z_gd (z_in p1 7) <|
  z_gd (z_in p2 7) <|
  z_lt (((f_placeX p1.toNatClampNeg) - (f_placeX p2.toNatClampNeg))) fun x3 =>
  z_gd (z_in p1 7) <|
  z_gd (z_in p2 7) <|
  z_lt (((f_placeY p1.toNatClampNeg) - (f_placeY p2.toNatClampNeg))) fun x6 =>
  some ((if 0 ≤ x3 then x3 else 0 - x3) + (if 0 ≤ x6 then x6 else 0 - x6))
theorem hd_X0_line : yX0_line.cls = RX0 ∧ yX0_line.cls ≠ "java/lang/invoke/MethodHandle" ∧ yX0_line.cls ≠ "java/lang/invoke/VarHandle" ∧ (parseMethodDescriptor yX0_line.desc).map (fun d => d.parameters.length) = some 2 := by decide +kernel
set_option maxHeartbeats 4000000 in
set_option maxRecDepth 100000 in
theorem c_X0_line (l : Launch) (D : va_G) (y : Nat → ClassId) (o o_placeX o_placeY : Nat) (g_placeKind g_places g_crowKind g_crows g_now g_past g_pasts g_notes g_marks : Value) (f_placeX : (Nat → Int32)) (f_placeY : (Nat → Int32)) (p1 : Int32) (p2 : Int32) (r : Int32) (h : p_X0_line f_placeX f_placeY p1 p2 = some r) : z_MI l yX0_line cX0_line 3 (some .int) 1 40 D y [.ref o, .int p1, .int p2] [(o, .inr (0, [g_placeKind, .ref o_placeX, .ref o_placeY, g_places, g_crowKind, g_crows, g_now, g_past, g_pasts, g_notes, g_marks])), (o_placeX, .inl (y 0, 7, .inl f_placeX)), (o_placeY, .inl (y 0, 7, .inl f_placeY))] r [(o, .inr (0, [g_placeKind, .ref o_placeX, .ref o_placeY, g_places, g_crowKind, g_crows, g_now, g_past, g_pasts, g_notes, g_marks])), (o_placeX, .inl (y 0, 7, .inl f_placeX)), (o_placeY, .inl (y 0, 7, .inl f_placeY))] := by
  unfold p_X0_line at h
  refine z_enI (by decide) (Nat.le_of_ble_eq_true rfl) ?_
  intro p e s m args below meth c A ls hr K hH hl
  obtain ⟨Q, hQ⟩ : ∃ Q, Q = MQ below (z_Qi D y A r [(o, .inr (0, [g_placeKind, .ref o_placeX, .ref o_placeY, g_places, g_crowKind, g_crows, g_now, g_past, g_pasts, g_notes, g_marks])), (o_placeX, .inl (y 0, 7, .inl f_placeX)), (o_placeY, .inl (y 0, 7, .inl f_placeY))]) args s 0 0 A := ⟨_, rfl⟩
  rw [← hQ]
  have hl : lv_has ls 3 [(0, .ref o), (1, .int p1), (2, .int p2)] := hl
  refine lv_aload_n K.x K.b dX0_line_0 rfl (lv_at hl 0 rfl) ?_
  refine z_get K hH 0 rfl zin_0 rfl 1 (by decide) tw_1_83 (v := .ref o_placeX) rfl dX0_line_1 ?_
  refine lv_iload_n K.x K.b dX0_line_4 rfl (lv_at hl 1 rfl) ?_
  obtain ⟨g1, h⟩ := z_gd_e h
  refine z_iald K hH 1 (k := p1.toNatClampNeg) rfl g1 rfl dX0_line_5 ?_
  refine lv_aload_n K.x K.b dX0_line_6 rfl (lv_at hl 0 rfl) ?_
  refine z_get K hH 0 rfl zin_0 rfl 1 (by decide) tw_1_83 (v := .ref o_placeX) rfl dX0_line_7 ?_
  refine lv_iload_n K.x K.b dX0_line_10 rfl (lv_at hl 2 rfl) ?_
  obtain ⟨g2, h⟩ := z_gd_e h
  refine z_iald K hH 1 (k := p2.toNatClampNeg) rfl g2 rfl dX0_line_11 ?_
  refine lv_isub K.x K.b dX0_line_12 ?_
  obtain ⟨x3, ex3, h⟩ := z_lt_e h
  refine z_nm ex3 ?_
  refine z_mabs K hl.1 tw_2_174 tw_2_175 tw_1_9 tw_2_176 (by decide) (Nat.le_of_ble_eq_true rfl) ⟨Nat.zero_le _, Nat.zero_le _⟩ dX0_line_13 ?_
  refine lv_aload_n K.x K.b dX0_line_16 rfl (lv_at hl 0 rfl) ?_
  refine z_get K hH 0 rfl zin_0 rfl 2 (by decide) tw_1_84 (v := .ref o_placeY) rfl dX0_line_17 ?_
  refine lv_iload_n K.x K.b dX0_line_20 rfl (lv_at hl 1 rfl) ?_
  obtain ⟨g4, h⟩ := z_gd_e h
  refine z_iald K hH 2 (k := p1.toNatClampNeg) rfl g4 rfl dX0_line_21 ?_
  refine lv_aload_n K.x K.b dX0_line_22 rfl (lv_at hl 0 rfl) ?_
  refine z_get K hH 0 rfl zin_0 rfl 2 (by decide) tw_1_84 (v := .ref o_placeY) rfl dX0_line_23 ?_
  refine lv_iload_n K.x K.b dX0_line_26 rfl (lv_at hl 2 rfl) ?_
  obtain ⟨g5, h⟩ := z_gd_e h
  refine z_iald K hH 2 (k := p2.toNatClampNeg) rfl g5 rfl dX0_line_27 ?_
  refine lv_isub K.x K.b dX0_line_28 ?_
  obtain ⟨x6, ex6, h⟩ := z_lt_e h
  refine z_nm ex6 ?_
  refine z_mabs K hl.1 tw_2_174 tw_2_175 tw_1_9 tw_2_176 (by decide) (Nat.le_of_ble_eq_true rfl) ⟨Nat.zero_le _, Nat.zero_le _⟩ dX0_line_29 ?_
  refine lv_iadd K.x K.b dX0_line_32 ?_
  have hr9 := Option.some.inj h
  obtain rfl := hr9
  rw [hQ]
  exact z_reti K hr hH [0, 1, 2] (by decide) rfl rfl rfl dX0_line_33
def p_X0_farAt (f_placeKind : (Nat → Int32)) (f_placeX : (Nat → Int32)) (f_placeY : (Nat → Int32)) (f_crowKind : (Nat → Int32)) (p1 : Int32) (p2 : Int32) (p3 : Int32) (p4 : Int32) (p5 : Int32) : Option (Int32) :=
  if (p2 = p3) then
  (some (0 : Int32)) else
  (z_lt ((p5 - p5 / (24 : Int32) * (24 : Int32))) fun x2 =>
  z_gd (z_in p3 7) <|
  z_gd (z_in p1 3) <|
  z_bd (p_X0_line f_placeX f_placeY p2 p3) fun r5 =>
  z_bd (p_X2_made (f_crowKind p1.toNatClampNeg) r5 x2 p4) fun r7 =>
  z_lt ((f_placeKind p3.toNatClampNeg)) fun x9 =>
  z_bd (p_X2_reach x9 r7 x2) fun r10 =>
  some r10)
theorem hd_X0_farAt : yX0_farAt.cls = RX0 ∧ yX0_farAt.cls ≠ "java/lang/invoke/MethodHandle" ∧ yX0_farAt.cls ≠ "java/lang/invoke/VarHandle" ∧ (parseMethodDescriptor yX0_farAt.desc).map (fun d => d.parameters.length) = some 5 := by decide +kernel
set_option maxHeartbeats 4000000 in
set_option maxRecDepth 100000 in
theorem c_X0_farAt (l : Launch) (D : va_G) (y : Nat → ClassId) (o o_placeKind o_placeX o_placeY o_crowKind : Nat) (g_places g_crows g_now g_past g_pasts g_notes g_marks : Value) (f_placeKind : (Nat → Int32)) (f_placeX : (Nat → Int32)) (f_placeY : (Nat → Int32)) (f_crowKind : (Nat → Int32)) (p1 : Int32) (p2 : Int32) (p3 : Int32) (p4 : Int32) (p5 : Int32) (r : Int32) (h : p_X0_farAt f_placeKind f_placeX f_placeY f_crowKind p1 p2 p3 p4 p5 = some r) : z_MI l yX0_farAt cX0_farAt 7 (some .int) 2 62 D y [.ref o, .int p1, .int p2, .int p3, .int p4, .int p5] [(o, .inr (0, [.ref o_placeKind, .ref o_placeX, .ref o_placeY, g_places, .ref o_crowKind, g_crows, g_now, g_past, g_pasts, g_notes, g_marks])), (o_placeKind, .inl (y 0, 7, .inl f_placeKind)), (o_placeX, .inl (y 0, 7, .inl f_placeX)), (o_placeY, .inl (y 0, 7, .inl f_placeY)), (o_crowKind, .inl (y 0, 3, .inl f_crowKind))] r [(o, .inr (0, [.ref o_placeKind, .ref o_placeX, .ref o_placeY, g_places, .ref o_crowKind, g_crows, g_now, g_past, g_pasts, g_notes, g_marks])), (o_placeKind, .inl (y 0, 7, .inl f_placeKind)), (o_placeX, .inl (y 0, 7, .inl f_placeX)), (o_placeY, .inl (y 0, 7, .inl f_placeY)), (o_crowKind, .inl (y 0, 3, .inl f_crowKind))] := by
  unfold p_X0_farAt at h
  refine z_enI (by decide) (Nat.le_of_ble_eq_true rfl) ?_
  intro p e s m args below meth c A ls hr K hH hl
  obtain ⟨Q, hQ⟩ : ∃ Q, Q = MQ below (z_Qi D y A r [(o, .inr (0, [.ref o_placeKind, .ref o_placeX, .ref o_placeY, g_places, .ref o_crowKind, g_crows, g_now, g_past, g_pasts, g_notes, g_marks])), (o_placeKind, .inl (y 0, 7, .inl f_placeKind)), (o_placeX, .inl (y 0, 7, .inl f_placeX)), (o_placeY, .inl (y 0, 7, .inl f_placeY)), (o_crowKind, .inl (y 0, 3, .inl f_crowKind))]) args s 0 0 A := ⟨_, rfl⟩
  rw [← hQ]
  have hl : lv_has ls 7 [(0, .ref o), (1, .int p1), (2, .int p2), (3, .int p3), (4, .int p4), (5, .int p5)] := hl
  refine lv_iload_n K.x K.b dX0_farAt_0 rfl (lv_at hl 2 rfl) ?_
  refine lv_iload_n K.x K.b dX0_farAt_1 rfl (lv_at hl 3 rfl) ?_
  refine lv_icmp_ne (tgt := 7) K.x K.b dX0_farAt_2 (by decide) (fun c1 => ?_) (fun c1 => ?_)
  · replace h := z_f c1 h
    refine lv_iload K.x K.b dX0_farAt_7 (lv_at hl 5 rfl) ?_
    refine lv_bipush (v := (24)) K.x K.b dX0_farAt_9 (by decide) ?_
    refine lv_irem K.x K.b dX0_farAt_11 (by decide) ?_
    obtain ⟨x2, ex2, h⟩ := z_lt_e h
    refine z_nm ex2 ?_
    refine lv_istore (lv' := [(6, .int x2), (0, .ref o), (1, .int p1), (2, .int p2), (3, .int p3), (4, .int p4), (5, .int p5)]) K.x K.b dX0_farAt_12 hl (by decide) rfl (fun ls hl => ?_)
    refine lv_aload_n K.x K.b dX0_farAt_14 rfl (lv_at hl 1 rfl) ?_
    refine z_get K hH 0 rfl zin_0 rfl 0 (by decide) tw_1_82 (v := .ref o_placeKind) rfl dX0_farAt_15 ?_
    refine lv_iload_n K.x K.b dX0_farAt_18 rfl (lv_at hl 4 rfl) ?_
    obtain ⟨g3, h⟩ := z_gd_e h
    refine z_iald K hH 1 (k := p3.toNatClampNeg) rfl g3 rfl dX0_farAt_19 ?_
    refine lv_aload_n K.x K.b dX0_farAt_20 rfl (lv_at hl 1 rfl) ?_
    refine z_get K hH 0 rfl zin_0 rfl 4 (by decide) tw_1_89 (v := .ref o_crowKind) rfl dX0_farAt_21 ?_
    refine lv_iload_n K.x K.b dX0_farAt_24 rfl (lv_at hl 2 rfl) ?_
    obtain ⟨g4, h⟩ := z_gd_e h
    refine z_iald K hH 4 (k := p1.toNatClampNeg) rfl g4 rfl dX0_farAt_25 ?_
    refine lv_aload_n K.x K.b dX0_farAt_26 rfl (lv_at hl 1 rfl) ?_
    refine lv_iload_n K.x K.b dX0_farAt_27 rfl (lv_at hl 3 rfl) ?_
    refine lv_iload_n K.x K.b dX0_farAt_28 rfl (lv_at hl 4 rfl) ?_
    obtain ⟨r5, hr6, h⟩ := z_bd_e h
    refine z_Vi K hH hl.1 (c_X0_line l D y o o_placeX o_placeY (.ref o_placeKind) (g_places) (.ref o_crowKind) (g_crows) (g_now) (g_past) (g_pasts) (g_notes) (g_marks) f_placeX f_placeY p2 p3 r5 hr6) (z_cwV K 2 tw_2_170 tw_2_171 tw_2_172 tw_1_2 tw_2_173 hd_X0_line ⟨by decide, by decide⟩) [0, 2, 3] [1, 4] rfl (wr := [(o_placeKind, .inl (y 0, 7, .inl f_placeKind)), (o_crowKind, .inl (y 0, 3, .inl f_crowKind))]) rfl rfl rfl (by decide) rfl rfl rfl (As := [.int p2, .int p3]) (rest := [.int (f_crowKind p1.toNatClampNeg), .int (f_placeKind p3.toNatClampNeg)]) rfl (Nat.le_of_ble_eq_true rfl) ⟨Nat.zero_le _, Nat.zero_le _⟩ dX0_farAt_29 (ws' := [(o_placeKind, .inl (y 0, 7, .inl f_placeKind)), (o_crowKind, .inl (y 0, 3, .inl f_crowKind)), (o, .inr (0, [.ref o_placeKind, .ref o_placeX, .ref o_placeY, g_places, .ref o_crowKind, g_crows, g_now, g_past, g_pasts, g_notes, g_marks])), (o_placeX, .inl (y 0, 7, .inl f_placeX)), (o_placeY, .inl (y 0, 7, .inl f_placeY))]) rfl (fun H locs hH => ?_)
    refine lv_iload K.x K.b dX0_farAt_32 (lv_at hl 0 rfl) ?_
    refine lv_iload K.x K.b dX0_farAt_34 (lv_at hl 5 rfl) ?_
    obtain ⟨r7, hr8, h⟩ := z_bd_e h
    refine z_Si K hH hl.1 (c_X2_made l D y (f_crowKind p1.toNatClampNeg) r5 x2 p4 r7 hr8) (z_cwS K 4 tw_2_177 tw_2_178 tw_1_14 tw_2_179 hd_X2_made ⟨by decide, by decide⟩) rfl (As := [.int (f_crowKind p1.toNatClampNeg), .int r5, .int x2, .int p4]) (rest := [.int (f_placeKind p3.toNatClampNeg)]) rfl (Nat.le_of_ble_eq_true rfl) ⟨Nat.zero_le _, Nat.zero_le _⟩ dX0_farAt_36 (fun H locs hH => ?_)
    refine lv_iload K.x K.b dX0_farAt_39 (lv_at hl 0 rfl) ?_
    obtain ⟨x9, ex9, h⟩ := z_lt_e h
    refine z_nm3 ex9 ?_
    obtain ⟨r10, hr11, h⟩ := z_bd_e h
    refine z_Si K hH hl.1 (c_X2_reach l D y x9 r7 x2 r10 hr11) (z_cwS K 3 tw_2_180 tw_2_181 tw_1_14 tw_2_182 hd_X2_reach ⟨by decide, by decide⟩) rfl (As := [.int x9, .int r7, .int x2]) (rest := []) rfl (Nat.le_of_ble_eq_true rfl) ⟨Nat.zero_le _, Nat.zero_le _⟩ dX0_farAt_41 (fun H locs hH => ?_)
    have hr9 := Option.some.inj h
    obtain rfl := hr9
    rw [hQ]
    exact z_reti K hr hH [2, 0, 3, 4, 1] (by decide) rfl rfl rfl dX0_farAt_44
  · replace h := z_t c1 h
    refine lv_iconst (v := (0)) K.x K.b dX0_farAt_5 (by decide) ?_
    have hr9 := Option.some.inj h
    obtain rfl := hr9
    rw [hQ]
    exact z_reti K hr hH [0, 1, 2, 3, 4] (by decide) rfl rfl rfl dX0_farAt_6
def p_X0_farNow (f_placeKind : (Nat → Int32)) (f_placeX : (Nat → Int32)) (f_placeY : (Nat → Int32)) (f_crowKind : (Nat → Int32)) (v_now_hour : Int32) (f_now_tired : (Nat → Int32)) (p1 : Int32) (p2 : Int32) (p3 : Int32) : Option (Int32) :=
  z_gd (z_in p1 3) <|
  z_lt ((f_now_tired p1.toNatClampNeg)) fun x2 =>
  z_bd (p_X0_farAt f_placeKind f_placeX f_placeY f_crowKind p1 p2 p3 x2 v_now_hour) fun r3 =>
  some r3
theorem hd_X0_farNow : yX0_farNow.cls = RX0 ∧ yX0_farNow.cls ≠ "java/lang/invoke/MethodHandle" ∧ yX0_farNow.cls ≠ "java/lang/invoke/VarHandle" ∧ (parseMethodDescriptor yX0_farNow.desc).map (fun d => d.parameters.length) = some 3 := by decide +kernel
set_option maxHeartbeats 4000000 in
set_option maxRecDepth 100000 in
theorem c_X0_farNow (l : Launch) (D : va_G) (y : Nat → ClassId) (o o_placeKind o_placeX o_placeY o_crowKind o_now o_now_tired : Nat) (g_places g_crows g_past g_pasts g_notes g_marks g_now_at g_now_deedRows g_now_deeds : Value) (f_placeKind : (Nat → Int32)) (f_placeX : (Nat → Int32)) (f_placeY : (Nat → Int32)) (f_crowKind : (Nat → Int32)) (v_now_hour : Int32) (f_now_tired : (Nat → Int32)) (p1 : Int32) (p2 : Int32) (p3 : Int32) (r : Int32) (h : p_X0_farNow f_placeKind f_placeX f_placeY f_crowKind v_now_hour f_now_tired p1 p2 p3 = some r) : z_MI l yX0_farNow cX0_farNow 4 (some .int) 3 88 D y [.ref o, .int p1, .int p2, .int p3] [(o, .inr (0, [.ref o_placeKind, .ref o_placeX, .ref o_placeY, g_places, .ref o_crowKind, g_crows, .ref o_now, g_past, g_pasts, g_notes, g_marks])), (o_placeKind, .inl (y 0, 7, .inl f_placeKind)), (o_placeX, .inl (y 0, 7, .inl f_placeX)), (o_placeY, .inl (y 0, 7, .inl f_placeY)), (o_crowKind, .inl (y 0, 3, .inl f_crowKind)), (o_now, .inr (1, [g_now_at, .ref o_now_tired, g_now_deedRows, g_now_deeds, .int v_now_hour])), (o_now_tired, .inl (y 0, 3, .inl f_now_tired))] r [(o, .inr (0, [.ref o_placeKind, .ref o_placeX, .ref o_placeY, g_places, .ref o_crowKind, g_crows, .ref o_now, g_past, g_pasts, g_notes, g_marks])), (o_placeKind, .inl (y 0, 7, .inl f_placeKind)), (o_placeX, .inl (y 0, 7, .inl f_placeX)), (o_placeY, .inl (y 0, 7, .inl f_placeY)), (o_crowKind, .inl (y 0, 3, .inl f_crowKind)), (o_now, .inr (1, [g_now_at, .ref o_now_tired, g_now_deedRows, g_now_deeds, .int v_now_hour])), (o_now_tired, .inl (y 0, 3, .inl f_now_tired))] := by
  unfold p_X0_farNow at h
  refine z_enI (by decide) (Nat.le_of_ble_eq_true rfl) ?_
  intro p e s m args below meth c A ls hr K hH hl
  obtain ⟨Q, hQ⟩ : ∃ Q, Q = MQ below (z_Qi D y A r [(o, .inr (0, [.ref o_placeKind, .ref o_placeX, .ref o_placeY, g_places, .ref o_crowKind, g_crows, .ref o_now, g_past, g_pasts, g_notes, g_marks])), (o_placeKind, .inl (y 0, 7, .inl f_placeKind)), (o_placeX, .inl (y 0, 7, .inl f_placeX)), (o_placeY, .inl (y 0, 7, .inl f_placeY)), (o_crowKind, .inl (y 0, 3, .inl f_crowKind)), (o_now, .inr (1, [g_now_at, .ref o_now_tired, g_now_deedRows, g_now_deeds, .int v_now_hour])), (o_now_tired, .inl (y 0, 3, .inl f_now_tired))]) args s 0 0 A := ⟨_, rfl⟩
  rw [← hQ]
  have hl : lv_has ls 4 [(0, .ref o), (1, .int p1), (2, .int p2), (3, .int p3)] := hl
  refine lv_aload_n K.x K.b dX0_farNow_0 rfl (lv_at hl 0 rfl) ?_
  refine lv_iload_n K.x K.b dX0_farNow_1 rfl (lv_at hl 1 rfl) ?_
  refine lv_iload_n K.x K.b dX0_farNow_2 rfl (lv_at hl 2 rfl) ?_
  refine lv_iload_n K.x K.b dX0_farNow_3 rfl (lv_at hl 3 rfl) ?_
  refine lv_aload_n K.x K.b dX0_farNow_4 rfl (lv_at hl 0 rfl) ?_
  refine z_get K hH 0 rfl zin_0 rfl 6 (by decide) tw_1_93 (v := .ref o_now) rfl dX0_farNow_5 ?_
  refine z_get K hH 5 rfl zin_1 rfl 1 (by decide) tw_1_41 (v := .ref o_now_tired) rfl dX0_farNow_8 ?_
  refine lv_iload_n K.x K.b dX0_farNow_11 rfl (lv_at hl 1 rfl) ?_
  obtain ⟨g1, h⟩ := z_gd_e h
  refine z_iald K hH 6 (k := p1.toNatClampNeg) rfl g1 rfl dX0_farNow_12 ?_
  refine lv_aload_n K.x K.b dX0_farNow_13 rfl (lv_at hl 0 rfl) ?_
  refine z_get K hH 0 rfl zin_0 rfl 6 (by decide) tw_1_93 (v := .ref o_now) rfl dX0_farNow_14 ?_
  refine z_get K hH 5 rfl zin_1 rfl 4 (by decide) tw_1_47 (v := .int v_now_hour) rfl dX0_farNow_17 ?_
  obtain ⟨x2, ex2, h⟩ := z_lt_e h
  refine z_nm2 ex2 ?_
  obtain ⟨r3, hr4, h⟩ := z_bd_e h
  refine z_Vi K hH hl.1 (c_X0_farAt l D y o o_placeKind o_placeX o_placeY o_crowKind (g_places) (g_crows) (.ref o_now) (g_past) (g_pasts) (g_notes) (g_marks) f_placeKind f_placeX f_placeY f_crowKind p1 p2 p3 x2 v_now_hour r3 hr4) (z_cwV K 5 tw_2_166 tw_2_167 tw_2_168 tw_1_2 tw_2_169 hd_X0_farAt ⟨by decide, by decide⟩) [0, 1, 2, 3, 4] [5, 6] rfl (wr := [(o_now, .inr (1, [g_now_at, .ref o_now_tired, g_now_deedRows, g_now_deeds, .int v_now_hour])), (o_now_tired, .inl (y 0, 3, .inl f_now_tired))]) rfl rfl rfl (by decide) rfl rfl rfl (As := [.int p1, .int p2, .int p3, .int x2, .int v_now_hour]) (rest := []) rfl (Nat.le_of_ble_eq_true rfl) ⟨Nat.zero_le _, Nat.zero_le _⟩ dX0_farNow_20 (ws' := [(o_now, .inr (1, [g_now_at, .ref o_now_tired, g_now_deedRows, g_now_deeds, .int v_now_hour])), (o_now_tired, .inl (y 0, 3, .inl f_now_tired)), (o, .inr (0, [.ref o_placeKind, .ref o_placeX, .ref o_placeY, g_places, .ref o_crowKind, g_crows, .ref o_now, g_past, g_pasts, g_notes, g_marks])), (o_placeKind, .inl (y 0, 7, .inl f_placeKind)), (o_placeX, .inl (y 0, 7, .inl f_placeX)), (o_placeY, .inl (y 0, 7, .inl f_placeY)), (o_crowKind, .inl (y 0, 3, .inl f_crowKind))]) rfl (fun H locs hH => ?_)
  have hr9 := Option.some.inj h
  obtain rfl := hr9
  rw [hQ]
  exact z_reti K hr hH [2, 3, 4, 5, 6, 0, 1] (by decide) rfl rfl rfl dX0_farNow_23
def p_X0_fly (f_placeKind : (Nat → Int32)) (f_placeX : (Nat → Int32)) (f_placeY : (Nat → Int32)) (f_crowKind : (Nat → Int32)) (v_q1_deeds : Int32) (v_q1_hour : Int32) (f_q1_at : (Nat → Int32)) (f_q1_tired : (Nat → Int32)) (f_q1_deedRows : (Nat → Int32)) (p2 : Int32) (p3 : Int32) : Option (Int32 × Int32 × Int32 × (Nat → Int32) × (Nat → Int32) × (Nat → Int32)) :=
  z_gd (z_in p2 3) <|
  z_gd (z_in p2 3) <|
  z_lt ((f_q1_tired p2.toNatClampNeg)) fun x3 =>
  z_bd (p_X0_farAt f_placeKind f_placeX f_placeY f_crowKind p2 (f_q1_at p2.toNatClampNeg) p3 x3 v_q1_hour) fun r4 =>
  z_bd (p_X1_move v_q1_deeds v_q1_hour f_q1_at f_q1_tired f_q1_deedRows p2 p3 r4) fun r6 =>
  some (r4, r6.1, r6.2.1, r6.2.2.1, r6.2.2.2.1, r6.2.2.2.2)
theorem hd_X0_fly : yX0_fly.cls = RX0 ∧ yX0_fly.cls ≠ "java/lang/invoke/MethodHandle" ∧ yX0_fly.cls ≠ "java/lang/invoke/VarHandle" ∧ (parseMethodDescriptor yX0_fly.desc).map (fun d => d.parameters.length) = some 3 := by decide +kernel
set_option maxHeartbeats 4000000 in
set_option maxRecDepth 100000 in
theorem c_X0_fly (l : Launch) (D : va_G) (y : Nat → ClassId) (o o_placeKind o_placeX o_placeY o_crowKind o_q1 o_q1_at o_q1_tired o_q1_deedRows : Nat) (g_places g_crows g_now g_past g_pasts g_notes g_marks : Value) (f_placeKind : (Nat → Int32)) (f_placeX : (Nat → Int32)) (f_placeY : (Nat → Int32)) (f_crowKind : (Nat → Int32)) (v_q1_deeds : Int32) (v_q1_hour : Int32) (f_q1_at : (Nat → Int32)) (f_q1_tired : (Nat → Int32)) (f_q1_deedRows : (Nat → Int32)) (p2 : Int32) (p3 : Int32) (r : Int32 × Int32 × Int32 × (Nat → Int32) × (Nat → Int32) × (Nat → Int32)) (h : p_X0_fly f_placeKind f_placeX f_placeY f_crowKind v_q1_deeds v_q1_hour f_q1_at f_q1_tired f_q1_deedRows p2 p3 = some r) : z_MI l yX0_fly cX0_fly 5 (some .int) 3 88 D y [.ref o, .ref o_q1, .int p2, .int p3] [(o, .inr (0, [.ref o_placeKind, .ref o_placeX, .ref o_placeY, g_places, .ref o_crowKind, g_crows, g_now, g_past, g_pasts, g_notes, g_marks])), (o_placeKind, .inl (y 0, 7, .inl f_placeKind)), (o_placeX, .inl (y 0, 7, .inl f_placeX)), (o_placeY, .inl (y 0, 7, .inl f_placeY)), (o_crowKind, .inl (y 0, 3, .inl f_crowKind)), (o_q1, .inr (1, [.ref o_q1_at, .ref o_q1_tired, .ref o_q1_deedRows, .int v_q1_deeds, .int v_q1_hour])), (o_q1_at, .inl (y 0, 3, .inl f_q1_at)), (o_q1_tired, .inl (y 0, 3, .inl f_q1_tired)), (o_q1_deedRows, .inl (y 0, 36, .inl f_q1_deedRows))] r.1 [(o, .inr (0, [.ref o_placeKind, .ref o_placeX, .ref o_placeY, g_places, .ref o_crowKind, g_crows, g_now, g_past, g_pasts, g_notes, g_marks])), (o_placeKind, .inl (y 0, 7, .inl f_placeKind)), (o_placeX, .inl (y 0, 7, .inl f_placeX)), (o_placeY, .inl (y 0, 7, .inl f_placeY)), (o_crowKind, .inl (y 0, 3, .inl f_crowKind)), (o_q1, .inr (1, [.ref o_q1_at, .ref o_q1_tired, .ref o_q1_deedRows, .int r.2.1, .int r.2.2.1])), (o_q1_at, .inl (y 0, 3, .inl r.2.2.2.1)), (o_q1_tired, .inl (y 0, 3, .inl r.2.2.2.2.1)), (o_q1_deedRows, .inl (y 0, 36, .inl r.2.2.2.2.2))] := by
  unfold p_X0_fly at h
  refine z_enI (by decide) (Nat.le_of_ble_eq_true rfl) ?_
  intro p e s m args below meth c A ls hr K hH hl
  obtain ⟨Q, hQ⟩ : ∃ Q, Q = MQ below (z_Qi D y A r.1 [(o, .inr (0, [.ref o_placeKind, .ref o_placeX, .ref o_placeY, g_places, .ref o_crowKind, g_crows, g_now, g_past, g_pasts, g_notes, g_marks])), (o_placeKind, .inl (y 0, 7, .inl f_placeKind)), (o_placeX, .inl (y 0, 7, .inl f_placeX)), (o_placeY, .inl (y 0, 7, .inl f_placeY)), (o_crowKind, .inl (y 0, 3, .inl f_crowKind)), (o_q1, .inr (1, [.ref o_q1_at, .ref o_q1_tired, .ref o_q1_deedRows, .int r.2.1, .int r.2.2.1])), (o_q1_at, .inl (y 0, 3, .inl r.2.2.2.1)), (o_q1_tired, .inl (y 0, 3, .inl r.2.2.2.2.1)), (o_q1_deedRows, .inl (y 0, 36, .inl r.2.2.2.2.2))]) args s 0 0 A := ⟨_, rfl⟩
  rw [← hQ]
  have hl : lv_has ls 5 [(0, .ref o), (1, .ref o_q1), (2, .int p2), (3, .int p3)] := hl
  refine lv_aload_n K.x K.b dX0_fly_0 rfl (lv_at hl 0 rfl) ?_
  refine lv_iload_n K.x K.b dX0_fly_1 rfl (lv_at hl 2 rfl) ?_
  refine lv_aload_n K.x K.b dX0_fly_2 rfl (lv_at hl 1 rfl) ?_
  refine z_get K hH 5 rfl zin_1 rfl 0 (by decide) tw_1_38 (v := .ref o_q1_at) rfl dX0_fly_3 ?_
  refine lv_iload_n K.x K.b dX0_fly_6 rfl (lv_at hl 2 rfl) ?_
  obtain ⟨g1, h⟩ := z_gd_e h
  refine z_iald K hH 6 (k := p2.toNatClampNeg) rfl g1 rfl dX0_fly_7 ?_
  refine lv_iload_n K.x K.b dX0_fly_8 rfl (lv_at hl 3 rfl) ?_
  refine lv_aload_n K.x K.b dX0_fly_9 rfl (lv_at hl 1 rfl) ?_
  refine z_get K hH 5 rfl zin_1 rfl 1 (by decide) tw_1_41 (v := .ref o_q1_tired) rfl dX0_fly_10 ?_
  refine lv_iload_n K.x K.b dX0_fly_13 rfl (lv_at hl 2 rfl) ?_
  obtain ⟨g2, h⟩ := z_gd_e h
  refine z_iald K hH 7 (k := p2.toNatClampNeg) rfl g2 rfl dX0_fly_14 ?_
  refine lv_aload_n K.x K.b dX0_fly_15 rfl (lv_at hl 1 rfl) ?_
  refine z_get K hH 5 rfl zin_1 rfl 4 (by decide) tw_1_47 (v := .int v_q1_hour) rfl dX0_fly_16 ?_
  obtain ⟨x3, ex3, h⟩ := z_lt_e h
  refine z_nm2 ex3 ?_
  obtain ⟨r4, hr5, h⟩ := z_bd_e h
  refine z_Vi K hH hl.1 (c_X0_farAt l D y o o_placeKind o_placeX o_placeY o_crowKind (g_places) (g_crows) (g_now) (g_past) (g_pasts) (g_notes) (g_marks) f_placeKind f_placeX f_placeY f_crowKind p2 (f_q1_at p2.toNatClampNeg) p3 x3 v_q1_hour r4 hr5) (z_cwV K 5 tw_2_166 tw_2_167 tw_2_168 tw_1_2 tw_2_169 hd_X0_farAt ⟨by decide, by decide⟩) [0, 1, 2, 3, 4] [5, 6, 7, 8] rfl (wr := [(o_q1, .inr (1, [.ref o_q1_at, .ref o_q1_tired, .ref o_q1_deedRows, .int v_q1_deeds, .int v_q1_hour])), (o_q1_at, .inl (y 0, 3, .inl f_q1_at)), (o_q1_tired, .inl (y 0, 3, .inl f_q1_tired)), (o_q1_deedRows, .inl (y 0, 36, .inl f_q1_deedRows))]) rfl rfl rfl (by decide) rfl rfl rfl (As := [.int p2, .int (f_q1_at p2.toNatClampNeg), .int p3, .int x3, .int v_q1_hour]) (rest := []) rfl (Nat.le_of_ble_eq_true rfl) ⟨Nat.zero_le _, Nat.zero_le _⟩ dX0_fly_19 (ws' := [(o_q1, .inr (1, [.ref o_q1_at, .ref o_q1_tired, .ref o_q1_deedRows, .int v_q1_deeds, .int v_q1_hour])), (o_q1_at, .inl (y 0, 3, .inl f_q1_at)), (o_q1_tired, .inl (y 0, 3, .inl f_q1_tired)), (o_q1_deedRows, .inl (y 0, 36, .inl f_q1_deedRows)), (o, .inr (0, [.ref o_placeKind, .ref o_placeX, .ref o_placeY, g_places, .ref o_crowKind, g_crows, g_now, g_past, g_pasts, g_notes, g_marks])), (o_placeKind, .inl (y 0, 7, .inl f_placeKind)), (o_placeX, .inl (y 0, 7, .inl f_placeX)), (o_placeY, .inl (y 0, 7, .inl f_placeY)), (o_crowKind, .inl (y 0, 3, .inl f_crowKind))]) rfl (fun H locs hH => ?_)
  refine lv_istore (lv' := [(4, .int r4), (0, .ref o), (1, .ref o_q1), (2, .int p2), (3, .int p3)]) K.x K.b dX0_fly_22 hl (by decide) rfl (fun ls hl => ?_)
  refine lv_aload_n K.x K.b dX0_fly_24 rfl (lv_at hl 2 rfl) ?_
  refine lv_iload_n K.x K.b dX0_fly_25 rfl (lv_at hl 3 rfl) ?_
  refine lv_iload_n K.x K.b dX0_fly_26 rfl (lv_at hl 4 rfl) ?_
  refine lv_iload K.x K.b dX0_fly_27 (lv_at hl 0 rfl) ?_
  obtain ⟨r6, hr7, h⟩ := z_bd_e h
  refine z_Vv K hH hl.1 (c_X1_move l D y o_q1 o_q1_at o_q1_tired o_q1_deedRows v_q1_deeds v_q1_hour f_q1_at f_q1_tired f_q1_deedRows p2 p3 r4 r6 hr7) (z_cwV K 3 tw_2_183 tw_2_184 tw_2_185 tw_1_3 tw_2_186 hd_X1_move ⟨by decide, by decide⟩) [0, 1, 2, 3] [4, 5, 6, 7, 8] rfl (wr := [(o, .inr (0, [.ref o_placeKind, .ref o_placeX, .ref o_placeY, g_places, .ref o_crowKind, g_crows, g_now, g_past, g_pasts, g_notes, g_marks])), (o_placeKind, .inl (y 0, 7, .inl f_placeKind)), (o_placeX, .inl (y 0, 7, .inl f_placeX)), (o_placeY, .inl (y 0, 7, .inl f_placeY)), (o_crowKind, .inl (y 0, 3, .inl f_crowKind))]) rfl rfl rfl (by decide) rfl rfl rfl (As := [.int p2, .int p3, .int r4]) (rest := []) rfl (Nat.le_of_ble_eq_true rfl) ⟨Nat.zero_le _, Nat.zero_le _⟩ dX0_fly_29 (ws' := [(o, .inr (0, [.ref o_placeKind, .ref o_placeX, .ref o_placeY, g_places, .ref o_crowKind, g_crows, g_now, g_past, g_pasts, g_notes, g_marks])), (o_placeKind, .inl (y 0, 7, .inl f_placeKind)), (o_placeX, .inl (y 0, 7, .inl f_placeX)), (o_placeY, .inl (y 0, 7, .inl f_placeY)), (o_crowKind, .inl (y 0, 3, .inl f_crowKind)), (o_q1, .inr (1, [.ref o_q1_at, .ref o_q1_tired, .ref o_q1_deedRows, .int r6.1, .int r6.2.1])), (o_q1_at, .inl (y 0, 3, .inl r6.2.2.1)), (o_q1_tired, .inl (y 0, 3, .inl r6.2.2.2.1)), (o_q1_deedRows, .inl (y 0, 36, .inl r6.2.2.2.2))]) rfl (fun H locs hH => ?_)
  refine lv_iload K.x K.b dX0_fly_32 (lv_at hl 0 rfl) ?_
  have hr9 := Option.some.inj h
  obtain rfl := hr9
  rw [hQ]
  exact z_reti K hr hH [0, 1, 2, 3, 4, 5, 6, 7, 8] (by decide) rfl rfl rfl dX0_fly_34
def p_X0_mixThree (p1 : Int64) (p2 : Int32) (p3 : Int32) (p4 : Int32) : Option (Int64) :=
  some (((31 : Int64) * (((31 : Int64) * (((31 : Int64) * p1) + ((p2).toInt64))) + ((p3).toInt64))) + ((p4).toInt64))
theorem hd_X0_mixThree : yX0_mixThree.cls ≠ "java/lang/invoke/MethodHandle" ∧ yX0_mixThree.cls ≠ "java/lang/invoke/VarHandle" ∧ (parseMethodDescriptor yX0_mixThree.desc).map (fun d => d.parameters.length) = some 4 := by decide +kernel
set_option maxHeartbeats 4000000 in
set_option maxRecDepth 100000 in
theorem c_X0_mixThree (l : Launch) (D : va_G) (y : Nat → ClassId) (p1 : Int64) (p2 : Int32) (p3 : Int32) (p4 : Int32) (r : Int64) (h : p_X0_mixThree p1 p2 p3 p4 = some r) : z_ML l yX0_mixThree cX0_mixThree 5 (some .long) 0 0 D y [.long p1, .int p2, .int p3, .int p4] [] r [] := by
  unfold p_X0_mixThree at h
  refine z_enL (by decide) (Nat.le_of_ble_eq_true rfl) ?_
  intro p e s m args below meth c A ls hr K hH hl
  obtain ⟨Q, hQ⟩ : ∃ Q, Q = MQ below (z_Ql D y A r []) args s 0 0 A := ⟨_, rfl⟩
  rw [← hQ]
  have hl : lv_has ls 5 [(0, .long p1), (2, .int p2), (3, .int p3), (4, .int p4)] := hl
  refine z_ldc2 K tw_4_79 dX0_mixThree_0 ?_
  refine z_ldc2 K tw_4_79 dX0_mixThree_3 ?_
  refine z_ldc2 K tw_4_79 dX0_mixThree_6 ?_
  refine lv_lload_n K.x K.b dX0_mixThree_9 rfl (lv_at hl 0 rfl) ?_
  refine lv_lmul K.x K.b dX0_mixThree_10 ?_
  refine lv_iload_n K.x K.b dX0_mixThree_11 rfl (lv_at hl 1 rfl) ?_
  refine lv_i2l K.x K.b dX0_mixThree_12 rfl ?_
  refine lv_ladd K.x K.b dX0_mixThree_13 ?_
  refine lv_lmul K.x K.b dX0_mixThree_14 ?_
  refine lv_iload_n K.x K.b dX0_mixThree_15 rfl (lv_at hl 2 rfl) ?_
  refine lv_i2l K.x K.b dX0_mixThree_16 rfl ?_
  refine lv_ladd K.x K.b dX0_mixThree_17 ?_
  refine lv_lmul K.x K.b dX0_mixThree_18 ?_
  refine lv_iload K.x K.b dX0_mixThree_19 (lv_at hl 3 rfl) ?_
  refine lv_i2l K.x K.b dX0_mixThree_21 rfl ?_
  refine lv_ladd K.x K.b dX0_mixThree_22 ?_
  have hr9 := Option.some.inj h
  obtain rfl := hr9
  rw [hQ]
  exact z_retl K hr hH [] (by decide) rfl rfl dX0_mixThree_23
noncomputable def p_X6_mixInto (v_ofCrows : Int32) (v_size : Int32) (f_rows : (Nat → Int32)) (p1 : Int64) : Option (Int64) :=
  z_bd (z_lp (S := Int32 × Int64) (E := Int64) (fun s1 =>
  if ((v_size * (5 : Int32)) ≤ s1.1) then
  (some (.inr s1.2)) else
  (z_bd (α := Int64) (if (v_ofCrows = 0) then
  (if ((s1.1 - s1.1 / (5 : Int32) * (5 : Int32)) = (3 : Int32)) then
  (some s1.2) else
  (z_gd (z_in s1.1 30) <|
  z_lt ((((31 : Int64) * s1.2) + (((f_rows s1.1.toNatClampNeg)).toInt64))) fun x12 =>
  some x12)) else
  (z_gd (z_in s1.1 30) <|
  z_lt ((((31 : Int64) * s1.2) + (((f_rows s1.1.toNatClampNeg)).toInt64))) fun x9 =>
  some x9)) fun j5 =>
  z_lt (s1.1 + (1 : Int32)) fun x6 =>
  some (.inl (x6, j5)))) ((0 : Int32), p1)) fun e2 =>
  some e2
theorem hd_X6_mixInto : yX6_mixInto.cls = RX6 ∧ yX6_mixInto.cls ≠ "java/lang/invoke/MethodHandle" ∧ yX6_mixInto.cls ≠ "java/lang/invoke/VarHandle" ∧ (parseMethodDescriptor yX6_mixInto.desc).map (fun d => d.parameters.length) = some 1 := by decide +kernel
set_option maxHeartbeats 4000000 in
set_option maxRecDepth 100000 in
theorem c_X6_mixInto (l : Launch) (D : va_G) (y : Nat → ClassId) (o o_rows : Nat) (v_ofCrows : Int32) (v_size : Int32) (f_rows : (Nat → Int32)) (p1 : Int64) (r : Int64) (h : p_X6_mixInto v_ofCrows v_size f_rows p1 = some r) : z_ML l yX6_mixInto cX6_mixInto 6 (some .long) 0 0 D y [.ref o, .long p1] [(o, .inr (5, [.int v_ofCrows, .ref o_rows, .int v_size])), (o_rows, .inl (y 0, 30, .inl f_rows))] r [(o, .inr (5, [.int v_ofCrows, .ref o_rows, .int v_size])), (o_rows, .inl (y 0, 30, .inl f_rows))] := by
  unfold p_X6_mixInto at h
  refine z_enL (by decide) (Nat.le_of_ble_eq_true rfl) ?_
  intro p e s m args below meth c A ls hr K hH hl
  obtain ⟨Q, hQ⟩ : ∃ Q, Q = MQ below (z_Ql D y A r [(o, .inr (5, [.int v_ofCrows, .ref o_rows, .int v_size])), (o_rows, .inl (y 0, 30, .inl f_rows))]) args s 0 0 A := ⟨_, rfl⟩
  rw [← hQ]
  have hl : lv_has ls 6 [(0, .ref o), (1, .long p1)] := hl
  refine lv_lload_n K.x K.b dX6_mixInto_0 rfl (lv_at hl 1 rfl) ?_
  refine lv_lstore_n (lv' := [(3, .long p1), (0, .ref o), (1, .long p1)]) K.x K.b dX6_mixInto_1 rfl hl (by decide) rfl (fun ls hl => ?_)
  refine lv_iconst (v := (0)) K.x K.b dX6_mixInto_2 (by decide) ?_
  refine lv_istore (lv' := [(5, .int (0 : Int32)), (3, .long p1), (0, .ref o), (1, .long p1)]) K.x K.b dX6_mixInto_3 hl (by decide) rfl (fun ls hl => ?_)
  obtain ⟨e2, hlpe2, h⟩ := z_bd_e h
  have KEe2 : ∀ (H : Heap) (locs : List Loc) (ls : Array Slot), z_H D A s.heap [(o, .inr (5, [.int v_ofCrows, .ref o_rows, .int v_size])), (o_rows, .inl (y 0, 30, .inl f_rows))] H locs → lv_has ls 6 [(3, .long e2)] → W p l e (zR 0 0) s m args below meth c H locs 0 0 Q (F0 m 52 ls []) := by
    intro H locs ls hH hl
    refine lv_lload_n K.x K.b dX6_mixInto_52 rfl (lv_at hl 0 rfl) ?_
    have hr9 := Option.some.inj h
    obtain rfl := hr9
    rw [hQ]
    exact z_retl K hr hH [0, 1] (by decide) rfl rfl dX6_mixInto_53
  refine z_lp_ind (P := fun (s1 : Int32 × Int64) => ∀ (H : Heap) (locs : List Loc) (ls : Array Slot), z_H D A s.heap [(o, .inr (5, [.int v_ofCrows, .ref o_rows, .int v_size])), (o_rows, .inl (y 0, 30, .inl f_rows))] H locs → lv_has ls 6 [(0, .ref o), (3, .long s1.2), (5, .int s1.1)] → W p l e (zR 0 0) s m args below meth c H locs 0 0 Q (F0 m 5 ls [])) ?_ _ hlpe2 _ _ _ hH (lv_sub hl [2, 1, 0] rfl)
  clear h hlpe2
  intro s1 x3 h ihe2 hee2 H locs ls hH hl
  refine lv_iload K.x K.b dX6_mixInto_5 (lv_at hl 2 rfl) ?_
  refine lv_aload_n K.x K.b dX6_mixInto_7 rfl (lv_at hl 0 rfl) ?_
  refine z_get K hH 0 rfl zin_6 rfl 2 (by decide) tw_1_72 (v := .int v_size) rfl dX6_mixInto_8 ?_
  refine lv_iconst (v := (5)) K.x K.b dX6_mixInto_11 (by decide) ?_
  refine lv_imul K.x K.b dX6_mixInto_12 ?_
  refine lv_icmp_ge (tgt := 52) K.x K.b dX6_mixInto_13 (by decide) (fun c4 => ?_) (fun c4 => ?_)
  · replace h := z_t c4 h
    obtain rfl := hee2 _ (Option.some.inj h).symm
    exact KEe2 _ _ _ hH (lv_sub hl [1] rfl)
  · replace h := z_f c4 h
    refine lv_aload_n K.x K.b dX6_mixInto_16 rfl (lv_at hl 0 rfl) ?_
    refine z_get K hH 0 rfl zin_6 rfl 0 (by decide) tw_1_70 (v := .int v_ofCrows) rfl dX6_mixInto_17 ?_
    obtain ⟨j5, hj5, h⟩ := z_bd_e h
    have Kj5 : ∀ (H : Heap) (locs : List Loc) (ls : Array Slot), z_H D A s.heap [(o, .inr (5, [.int v_ofCrows, .ref o_rows, .int v_size])), (o_rows, .inl (y 0, 30, .inl f_rows))] H locs → lv_has ls 6 [(0, .ref o), (3, .long j5), (5, .int s1.1)] → W p l e (zR 0 0) s m args below meth c H locs 0 0 Q (F0 m 46 ls []) := by
      intro H locs ls hH hl
      obtain ⟨x6, ex6, h⟩ := z_lt_e h
      refine lv_iinc (v := x6) (lv' := [(5, .int x6), (0, .ref o), (3, .long j5)]) K.x K.b dX6_mixInto_46 hl (k := 2) rfl (by rw [ex6]; rfl) (by decide) rfl (fun ls hl => ?_)
      refine lv_goto (tgt := 5) K.x K.b dX6_mixInto_49 (by decide) ?_
      exact ihe2 _ (Option.some.inj h).symm _ _ _ hH (lv_sub hl [1, 2, 0] rfl)
    replace h := hj5
    refine lv_if_ne (tgt := 31) K.x K.b dX6_mixInto_20 (by decide) (fun c7 => ?_) (fun c7 => ?_)
    · replace h := z_f c7 h
      refine z_ldc2 K tw_4_89 dX6_mixInto_31 ?_
      refine lv_lload_n K.x K.b dX6_mixInto_34 rfl (lv_at hl 1 rfl) ?_
      refine lv_lmul K.x K.b dX6_mixInto_35 ?_
      refine lv_aload_n K.x K.b dX6_mixInto_36 rfl (lv_at hl 0 rfl) ?_
      refine z_get K hH 0 rfl zin_6 rfl 1 (by decide) tw_1_71 (v := .ref o_rows) rfl dX6_mixInto_37 ?_
      refine lv_iload K.x K.b dX6_mixInto_40 (lv_at hl 2 rfl) ?_
      obtain ⟨g8, h⟩ := z_gd_e h
      refine z_iald K hH 1 (k := s1.1.toNatClampNeg) rfl g8 rfl dX6_mixInto_42 ?_
      refine lv_i2l K.x K.b dX6_mixInto_43 rfl ?_
      refine lv_ladd K.x K.b dX6_mixInto_44 ?_
      obtain ⟨x9, ex9, h⟩ := z_lt_e h
      refine z_nml ex9 ?_
      refine lv_lstore_n (lv' := [(3, .long x9), (0, .ref o), (5, .int s1.1)]) K.x K.b dX6_mixInto_45 rfl hl (by decide) rfl (fun ls hl => ?_)
      obtain rfl := Option.some.inj h
      exact Kj5 _ _ _ hH (lv_sub hl [1, 0, 2] rfl)
    · replace h := z_t c7 h
      refine lv_iload K.x K.b dX6_mixInto_23 (lv_at hl 2 rfl) ?_
      refine lv_iconst (v := (5)) K.x K.b dX6_mixInto_25 (by decide) ?_
      refine lv_irem K.x K.b dX6_mixInto_26 (by decide) ?_
      refine lv_iconst (v := (3)) K.x K.b dX6_mixInto_27 (by decide) ?_
      refine lv_icmp_eq (tgt := 46) K.x K.b dX6_mixInto_28 (by decide) (fun c10 => ?_) (fun c10 => ?_)
      · replace h := z_t c10 h
        obtain rfl := Option.some.inj h
        exact Kj5 _ _ _ hH (lv_sub hl [0, 1, 2] rfl)
      · replace h := z_f c10 h
        refine z_ldc2 K tw_4_89 dX6_mixInto_31 ?_
        refine lv_lload_n K.x K.b dX6_mixInto_34 rfl (lv_at hl 1 rfl) ?_
        refine lv_lmul K.x K.b dX6_mixInto_35 ?_
        refine lv_aload_n K.x K.b dX6_mixInto_36 rfl (lv_at hl 0 rfl) ?_
        refine z_get K hH 0 rfl zin_6 rfl 1 (by decide) tw_1_71 (v := .ref o_rows) rfl dX6_mixInto_37 ?_
        refine lv_iload K.x K.b dX6_mixInto_40 (lv_at hl 2 rfl) ?_
        obtain ⟨g11, h⟩ := z_gd_e h
        refine z_iald K hH 1 (k := s1.1.toNatClampNeg) rfl g11 rfl dX6_mixInto_42 ?_
        refine lv_i2l K.x K.b dX6_mixInto_43 rfl ?_
        refine lv_ladd K.x K.b dX6_mixInto_44 ?_
        obtain ⟨x12, ex12, h⟩ := z_lt_e h
        refine z_nml ex12 ?_
        refine lv_lstore_n (lv' := [(3, .long x12), (0, .ref o), (5, .int s1.1)]) K.x K.b dX6_mixInto_45 rfl hl (by decide) rfl (fun ls hl => ?_)
        obtain rfl := Option.some.inj h
        exact Kj5 _ _ _ hH (lv_sub hl [1, 0, 2] rfl)
noncomputable def p_X0_mixInto (v_places : Int32) (v_crows : Int32) (f_placeKind : (Nat → Int32)) (f_placeX : (Nat → Int32)) (f_placeY : (Nat → Int32)) (f_crowKind : (Nat → Int32)) (v_now_deeds : Int32) (f_now_at : (Nat → Int32)) (f_now_tired : (Nat → Int32)) (f_now_deedRows : (Nat → Int32)) (v_notes_ofCrows : Int32) (v_notes_size : Int32) (f_notes_rows : (Nat → Int32)) (v_marks_ofCrows : Int32) (v_marks_size : Int32) (f_marks_rows : (Nat → Int32)) (p1 : Int64) : Option (Int64) :=
  z_bd (z_lp (S := Int32 × Int64) (E := Int64) (fun s1 =>
  if (v_places ≤ s1.1) then
  (some (.inr s1.2)) else
  (z_gd (z_in s1.1 7) <|
  z_gd (z_in s1.1 7) <|
  z_gd (z_in s1.1 7) <|
  z_lt ((f_placeY s1.1.toNatClampNeg)) fun x27 =>
  z_lt ((f_placeX s1.1.toNatClampNeg)) fun x28 =>
  z_lt ((f_placeKind s1.1.toNatClampNeg)) fun x29 =>
  z_bd (p_X0_mixThree s1.2 x29 x28 x27) fun r30 =>
  z_lt (s1.1 + (1 : Int32)) fun x32 =>
  some (.inl (x32, r30)))) ((0 : Int32), p1)) fun e2 =>
  z_bd (z_lp (S := Int32 × Int64) (E := Int64) (fun s3 =>
  if (v_crows ≤ s3.1) then
  (some (.inr s3.2)) else
  (z_gd (z_in s3.1 3) <|
  z_gd (z_in s3.1 3) <|
  z_gd (z_in s3.1 3) <|
  z_lt ((f_now_tired s3.1.toNatClampNeg)) fun x16 =>
  z_lt ((f_now_at s3.1.toNatClampNeg)) fun x17 =>
  z_lt ((f_crowKind s3.1.toNatClampNeg)) fun x18 =>
  z_bd (p_X0_mixThree s3.2 x18 x17 x16) fun r19 =>
  z_lt (s3.1 + (1 : Int32)) fun x21 =>
  some (.inl (x21, r19)))) ((0 : Int32), e2)) fun e4 =>
  z_bd (p_X1_mixDeeds v_now_deeds f_now_deedRows e4) fun r5 =>
  z_bd (p_X6_mixInto v_notes_ofCrows v_notes_size f_notes_rows r5) fun r7 =>
  z_bd (p_X6_mixInto v_marks_ofCrows v_marks_size f_marks_rows r7) fun r9 =>
  some r9
theorem hd_X0_mixInto : yX0_mixInto.cls = RX0 ∧ yX0_mixInto.cls ≠ "java/lang/invoke/MethodHandle" ∧ yX0_mixInto.cls ≠ "java/lang/invoke/VarHandle" ∧ (parseMethodDescriptor yX0_mixInto.desc).map (fun d => d.parameters.length) = some 1 := by decide +kernel
set_option maxHeartbeats 4000000 in
set_option maxRecDepth 100000 in
theorem c_X0_mixInto (l : Launch) (D : va_G) (y : Nat → ClassId) (o o_placeKind o_placeX o_placeY o_crowKind o_now o_now_at o_now_tired o_now_deedRows o_notes o_notes_rows o_marks o_marks_rows : Nat) (g_past g_pasts g_now_hour : Value) (v_places : Int32) (v_crows : Int32) (f_placeKind : (Nat → Int32)) (f_placeX : (Nat → Int32)) (f_placeY : (Nat → Int32)) (f_crowKind : (Nat → Int32)) (v_now_deeds : Int32) (f_now_at : (Nat → Int32)) (f_now_tired : (Nat → Int32)) (f_now_deedRows : (Nat → Int32)) (v_notes_ofCrows : Int32) (v_notes_size : Int32) (f_notes_rows : (Nat → Int32)) (v_marks_ofCrows : Int32) (v_marks_size : Int32) (f_marks_rows : (Nat → Int32)) (p1 : Int64) (r : Int64) (h : p_X0_mixInto v_places v_crows f_placeKind f_placeX f_placeY f_crowKind v_now_deeds f_now_at f_now_tired f_now_deedRows v_notes_ofCrows v_notes_size f_notes_rows v_marks_ofCrows v_marks_size f_marks_rows p1 = some r) : z_ML l yX0_mixInto cX0_mixInto 6 (some .long) 1 25 D y [.ref o, .long p1] [(o, .inr (0, [.ref o_placeKind, .ref o_placeX, .ref o_placeY, .int v_places, .ref o_crowKind, .int v_crows, .ref o_now, g_past, g_pasts, .ref o_notes, .ref o_marks])), (o_placeKind, .inl (y 0, 7, .inl f_placeKind)), (o_placeX, .inl (y 0, 7, .inl f_placeX)), (o_placeY, .inl (y 0, 7, .inl f_placeY)), (o_crowKind, .inl (y 0, 3, .inl f_crowKind)), (o_now, .inr (1, [.ref o_now_at, .ref o_now_tired, .ref o_now_deedRows, .int v_now_deeds, g_now_hour])), (o_now_at, .inl (y 0, 3, .inl f_now_at)), (o_now_tired, .inl (y 0, 3, .inl f_now_tired)), (o_now_deedRows, .inl (y 0, 36, .inl f_now_deedRows)), (o_notes, .inr (5, [.int v_notes_ofCrows, .ref o_notes_rows, .int v_notes_size])), (o_notes_rows, .inl (y 0, 30, .inl f_notes_rows)), (o_marks, .inr (5, [.int v_marks_ofCrows, .ref o_marks_rows, .int v_marks_size])), (o_marks_rows, .inl (y 0, 30, .inl f_marks_rows))] r [(o, .inr (0, [.ref o_placeKind, .ref o_placeX, .ref o_placeY, .int v_places, .ref o_crowKind, .int v_crows, .ref o_now, g_past, g_pasts, .ref o_notes, .ref o_marks])), (o_placeKind, .inl (y 0, 7, .inl f_placeKind)), (o_placeX, .inl (y 0, 7, .inl f_placeX)), (o_placeY, .inl (y 0, 7, .inl f_placeY)), (o_crowKind, .inl (y 0, 3, .inl f_crowKind)), (o_now, .inr (1, [.ref o_now_at, .ref o_now_tired, .ref o_now_deedRows, .int v_now_deeds, g_now_hour])), (o_now_at, .inl (y 0, 3, .inl f_now_at)), (o_now_tired, .inl (y 0, 3, .inl f_now_tired)), (o_now_deedRows, .inl (y 0, 36, .inl f_now_deedRows)), (o_notes, .inr (5, [.int v_notes_ofCrows, .ref o_notes_rows, .int v_notes_size])), (o_notes_rows, .inl (y 0, 30, .inl f_notes_rows)), (o_marks, .inr (5, [.int v_marks_ofCrows, .ref o_marks_rows, .int v_marks_size])), (o_marks_rows, .inl (y 0, 30, .inl f_marks_rows))] := by
  unfold p_X0_mixInto at h
  refine z_enL (by decide) (Nat.le_of_ble_eq_true rfl) ?_
  intro p e s m args below meth c A ls hr K hH hl
  obtain ⟨Q, hQ⟩ : ∃ Q, Q = MQ below (z_Ql D y A r [(o, .inr (0, [.ref o_placeKind, .ref o_placeX, .ref o_placeY, .int v_places, .ref o_crowKind, .int v_crows, .ref o_now, g_past, g_pasts, .ref o_notes, .ref o_marks])), (o_placeKind, .inl (y 0, 7, .inl f_placeKind)), (o_placeX, .inl (y 0, 7, .inl f_placeX)), (o_placeY, .inl (y 0, 7, .inl f_placeY)), (o_crowKind, .inl (y 0, 3, .inl f_crowKind)), (o_now, .inr (1, [.ref o_now_at, .ref o_now_tired, .ref o_now_deedRows, .int v_now_deeds, g_now_hour])), (o_now_at, .inl (y 0, 3, .inl f_now_at)), (o_now_tired, .inl (y 0, 3, .inl f_now_tired)), (o_now_deedRows, .inl (y 0, 36, .inl f_now_deedRows)), (o_notes, .inr (5, [.int v_notes_ofCrows, .ref o_notes_rows, .int v_notes_size])), (o_notes_rows, .inl (y 0, 30, .inl f_notes_rows)), (o_marks, .inr (5, [.int v_marks_ofCrows, .ref o_marks_rows, .int v_marks_size])), (o_marks_rows, .inl (y 0, 30, .inl f_marks_rows))]) args s 0 0 A := ⟨_, rfl⟩
  rw [← hQ]
  have hl : lv_has ls 6 [(0, .ref o), (1, .long p1)] := hl
  refine lv_lload_n K.x K.b dX0_mixInto_0 rfl (lv_at hl 1 rfl) ?_
  refine lv_lstore_n (lv' := [(3, .long p1), (0, .ref o), (1, .long p1)]) K.x K.b dX0_mixInto_1 rfl hl (by decide) rfl (fun ls hl => ?_)
  refine lv_iconst (v := (0)) K.x K.b dX0_mixInto_2 (by decide) ?_
  refine lv_istore (lv' := [(5, .int (0 : Int32)), (3, .long p1), (0, .ref o), (1, .long p1)]) K.x K.b dX0_mixInto_3 hl (by decide) rfl (fun ls hl => ?_)
  obtain ⟨e2, hlpe2, h⟩ := z_bd_e h
  have KEe2 : ∀ (H : Heap) (locs : List Loc) (ls : Array Slot), z_H D A s.heap [(o, .inr (0, [.ref o_placeKind, .ref o_placeX, .ref o_placeY, .int v_places, .ref o_crowKind, .int v_crows, .ref o_now, g_past, g_pasts, .ref o_notes, .ref o_marks])), (o_placeKind, .inl (y 0, 7, .inl f_placeKind)), (o_placeX, .inl (y 0, 7, .inl f_placeX)), (o_placeY, .inl (y 0, 7, .inl f_placeY)), (o_crowKind, .inl (y 0, 3, .inl f_crowKind)), (o_now, .inr (1, [.ref o_now_at, .ref o_now_tired, .ref o_now_deedRows, .int v_now_deeds, g_now_hour])), (o_now_at, .inl (y 0, 3, .inl f_now_at)), (o_now_tired, .inl (y 0, 3, .inl f_now_tired)), (o_now_deedRows, .inl (y 0, 36, .inl f_now_deedRows)), (o_notes, .inr (5, [.int v_notes_ofCrows, .ref o_notes_rows, .int v_notes_size])), (o_notes_rows, .inl (y 0, 30, .inl f_notes_rows)), (o_marks, .inr (5, [.int v_marks_ofCrows, .ref o_marks_rows, .int v_marks_size])), (o_marks_rows, .inl (y 0, 30, .inl f_marks_rows))] H locs → lv_has ls 6 [(0, .ref o), (3, .long e2)] → W p l e (zR 1 25) s m args below meth c H locs 0 0 Q (F0 m 46 ls []) := by
    intro H locs ls hH hl
    refine lv_iconst (v := (0)) K.x K.b dX0_mixInto_46 (by decide) ?_
    refine lv_istore (lv' := [(5, .int (0 : Int32)), (0, .ref o), (3, .long e2)]) K.x K.b dX0_mixInto_47 hl (by decide) rfl (fun ls hl => ?_)
    obtain ⟨e4, hlpe4, h⟩ := z_bd_e h
    have KEe4 : ∀ (H : Heap) (locs : List Loc) (ls : Array Slot), z_H D A s.heap [(o, .inr (0, [.ref o_placeKind, .ref o_placeX, .ref o_placeY, .int v_places, .ref o_crowKind, .int v_crows, .ref o_now, g_past, g_pasts, .ref o_notes, .ref o_marks])), (o_placeKind, .inl (y 0, 7, .inl f_placeKind)), (o_placeX, .inl (y 0, 7, .inl f_placeX)), (o_placeY, .inl (y 0, 7, .inl f_placeY)), (o_crowKind, .inl (y 0, 3, .inl f_crowKind)), (o_now, .inr (1, [.ref o_now_at, .ref o_now_tired, .ref o_now_deedRows, .int v_now_deeds, g_now_hour])), (o_now_at, .inl (y 0, 3, .inl f_now_at)), (o_now_tired, .inl (y 0, 3, .inl f_now_tired)), (o_now_deedRows, .inl (y 0, 36, .inl f_now_deedRows)), (o_notes, .inr (5, [.int v_notes_ofCrows, .ref o_notes_rows, .int v_notes_size])), (o_notes_rows, .inl (y 0, 30, .inl f_notes_rows)), (o_marks, .inr (5, [.int v_marks_ofCrows, .ref o_marks_rows, .int v_marks_size])), (o_marks_rows, .inl (y 0, 30, .inl f_marks_rows))] H locs → lv_has ls 6 [(0, .ref o), (3, .long e4)] → W p l e (zR 1 25) s m args below meth c H locs 0 0 Q (F0 m 96 ls []) := by
      intro H locs ls hH hl
      refine lv_aload_n K.x K.b dX0_mixInto_96 rfl (lv_at hl 0 rfl) ?_
      refine z_get K hH 0 rfl zin_0 rfl 6 (by decide) tw_1_93 (v := .ref o_now) rfl dX0_mixInto_97 ?_
      refine lv_lload_n K.x K.b dX0_mixInto_100 rfl (lv_at hl 1 rfl) ?_
      obtain ⟨r5, hr6, h⟩ := z_bd_e h
      refine z_Vl K hH hl.1 (c_X1_mixDeeds l D y o_now o_now_deedRows (.ref o_now_at) (.ref o_now_tired) (g_now_hour) v_now_deeds f_now_deedRows e4 r5 hr6) (z_cwV K 1 tw_4_80 tw_4_81 tw_4_82 tw_1_3 tw_4_83 hd_X1_mixDeeds ⟨by decide, by decide⟩) [5, 8] [0, 1, 2, 3, 4, 6, 7, 9, 10, 11, 12] rfl (wr := [(o, .inr (0, [.ref o_placeKind, .ref o_placeX, .ref o_placeY, .int v_places, .ref o_crowKind, .int v_crows, .ref o_now, g_past, g_pasts, .ref o_notes, .ref o_marks])), (o_placeKind, .inl (y 0, 7, .inl f_placeKind)), (o_placeX, .inl (y 0, 7, .inl f_placeX)), (o_placeY, .inl (y 0, 7, .inl f_placeY)), (o_crowKind, .inl (y 0, 3, .inl f_crowKind)), (o_now_at, .inl (y 0, 3, .inl f_now_at)), (o_now_tired, .inl (y 0, 3, .inl f_now_tired)), (o_notes, .inr (5, [.int v_notes_ofCrows, .ref o_notes_rows, .int v_notes_size])), (o_notes_rows, .inl (y 0, 30, .inl f_notes_rows)), (o_marks, .inr (5, [.int v_marks_ofCrows, .ref o_marks_rows, .int v_marks_size])), (o_marks_rows, .inl (y 0, 30, .inl f_marks_rows))]) rfl rfl rfl (by decide) rfl rfl rfl (As := [.long e4]) (rest := []) rfl (Nat.le_of_ble_eq_true rfl) ⟨Nat.zero_le _, Nat.zero_le _⟩ dX0_mixInto_101 (ws' := [(o, .inr (0, [.ref o_placeKind, .ref o_placeX, .ref o_placeY, .int v_places, .ref o_crowKind, .int v_crows, .ref o_now, g_past, g_pasts, .ref o_notes, .ref o_marks])), (o_placeKind, .inl (y 0, 7, .inl f_placeKind)), (o_placeX, .inl (y 0, 7, .inl f_placeX)), (o_placeY, .inl (y 0, 7, .inl f_placeY)), (o_crowKind, .inl (y 0, 3, .inl f_crowKind)), (o_now_at, .inl (y 0, 3, .inl f_now_at)), (o_now_tired, .inl (y 0, 3, .inl f_now_tired)), (o_notes, .inr (5, [.int v_notes_ofCrows, .ref o_notes_rows, .int v_notes_size])), (o_notes_rows, .inl (y 0, 30, .inl f_notes_rows)), (o_marks, .inr (5, [.int v_marks_ofCrows, .ref o_marks_rows, .int v_marks_size])), (o_marks_rows, .inl (y 0, 30, .inl f_marks_rows)), (o_now, .inr (1, [.ref o_now_at, .ref o_now_tired, .ref o_now_deedRows, .int v_now_deeds, g_now_hour])), (o_now_deedRows, .inl (y 0, 36, .inl f_now_deedRows))]) rfl (fun H locs hH => ?_)
      refine lv_lstore_n (lv' := [(3, .long r5), (0, .ref o)]) K.x K.b dX0_mixInto_104 rfl hl (by decide) rfl (fun ls hl => ?_)
      refine lv_aload_n K.x K.b dX0_mixInto_105 rfl (lv_at hl 1 rfl) ?_
      refine z_get K hH 0 rfl zin_0 rfl 9 (by decide) tw_1_99 (v := .ref o_notes) rfl dX0_mixInto_106 ?_
      refine lv_lload_n K.x K.b dX0_mixInto_109 rfl (lv_at hl 0 rfl) ?_
      obtain ⟨r7, hr8, h⟩ := z_bd_e h
      refine z_Vl K hH hl.1 (c_X6_mixInto l D y o_notes o_notes_rows v_notes_ofCrows v_notes_size f_notes_rows r5 r7 hr8) (z_cwV K 1 tw_4_85 tw_4_86 tw_4_87 tw_1_4 tw_4_88 hd_X6_mixInto ⟨by decide, by decide⟩) [7, 8] [0, 1, 2, 3, 4, 5, 6, 9, 10, 11, 12] rfl (wr := [(o, .inr (0, [.ref o_placeKind, .ref o_placeX, .ref o_placeY, .int v_places, .ref o_crowKind, .int v_crows, .ref o_now, g_past, g_pasts, .ref o_notes, .ref o_marks])), (o_placeKind, .inl (y 0, 7, .inl f_placeKind)), (o_placeX, .inl (y 0, 7, .inl f_placeX)), (o_placeY, .inl (y 0, 7, .inl f_placeY)), (o_crowKind, .inl (y 0, 3, .inl f_crowKind)), (o_now_at, .inl (y 0, 3, .inl f_now_at)), (o_now_tired, .inl (y 0, 3, .inl f_now_tired)), (o_marks, .inr (5, [.int v_marks_ofCrows, .ref o_marks_rows, .int v_marks_size])), (o_marks_rows, .inl (y 0, 30, .inl f_marks_rows)), (o_now, .inr (1, [.ref o_now_at, .ref o_now_tired, .ref o_now_deedRows, .int v_now_deeds, g_now_hour])), (o_now_deedRows, .inl (y 0, 36, .inl f_now_deedRows))]) rfl rfl rfl (by decide) rfl rfl rfl (As := [.long r5]) (rest := []) rfl (Nat.le_of_ble_eq_true rfl) ⟨Nat.zero_le _, Nat.zero_le _⟩ dX0_mixInto_110 (ws' := [(o, .inr (0, [.ref o_placeKind, .ref o_placeX, .ref o_placeY, .int v_places, .ref o_crowKind, .int v_crows, .ref o_now, g_past, g_pasts, .ref o_notes, .ref o_marks])), (o_placeKind, .inl (y 0, 7, .inl f_placeKind)), (o_placeX, .inl (y 0, 7, .inl f_placeX)), (o_placeY, .inl (y 0, 7, .inl f_placeY)), (o_crowKind, .inl (y 0, 3, .inl f_crowKind)), (o_now_at, .inl (y 0, 3, .inl f_now_at)), (o_now_tired, .inl (y 0, 3, .inl f_now_tired)), (o_marks, .inr (5, [.int v_marks_ofCrows, .ref o_marks_rows, .int v_marks_size])), (o_marks_rows, .inl (y 0, 30, .inl f_marks_rows)), (o_now, .inr (1, [.ref o_now_at, .ref o_now_tired, .ref o_now_deedRows, .int v_now_deeds, g_now_hour])), (o_now_deedRows, .inl (y 0, 36, .inl f_now_deedRows)), (o_notes, .inr (5, [.int v_notes_ofCrows, .ref o_notes_rows, .int v_notes_size])), (o_notes_rows, .inl (y 0, 30, .inl f_notes_rows))]) rfl (fun H locs hH => ?_)
      refine lv_lstore_n (lv' := [(3, .long r7), (0, .ref o)]) K.x K.b dX0_mixInto_113 rfl hl (by decide) rfl (fun ls hl => ?_)
      refine lv_aload_n K.x K.b dX0_mixInto_114 rfl (lv_at hl 1 rfl) ?_
      refine z_get K hH 0 rfl zin_0 rfl 10 (by decide) tw_1_101 (v := .ref o_marks) rfl dX0_mixInto_115 ?_
      refine lv_lload_n K.x K.b dX0_mixInto_118 rfl (lv_at hl 0 rfl) ?_
      obtain ⟨r9, hr10, h⟩ := z_bd_e h
      refine z_Vl K hH hl.1 (c_X6_mixInto l D y o_marks o_marks_rows v_marks_ofCrows v_marks_size f_marks_rows r7 r9 hr10) (z_cwV K 1 tw_4_85 tw_4_86 tw_4_87 tw_1_4 tw_4_88 hd_X6_mixInto ⟨by decide, by decide⟩) [7, 8] [0, 1, 2, 3, 4, 5, 6, 9, 10, 11, 12] rfl (wr := [(o, .inr (0, [.ref o_placeKind, .ref o_placeX, .ref o_placeY, .int v_places, .ref o_crowKind, .int v_crows, .ref o_now, g_past, g_pasts, .ref o_notes, .ref o_marks])), (o_placeKind, .inl (y 0, 7, .inl f_placeKind)), (o_placeX, .inl (y 0, 7, .inl f_placeX)), (o_placeY, .inl (y 0, 7, .inl f_placeY)), (o_crowKind, .inl (y 0, 3, .inl f_crowKind)), (o_now_at, .inl (y 0, 3, .inl f_now_at)), (o_now_tired, .inl (y 0, 3, .inl f_now_tired)), (o_now, .inr (1, [.ref o_now_at, .ref o_now_tired, .ref o_now_deedRows, .int v_now_deeds, g_now_hour])), (o_now_deedRows, .inl (y 0, 36, .inl f_now_deedRows)), (o_notes, .inr (5, [.int v_notes_ofCrows, .ref o_notes_rows, .int v_notes_size])), (o_notes_rows, .inl (y 0, 30, .inl f_notes_rows))]) rfl rfl rfl (by decide) rfl rfl rfl (As := [.long r7]) (rest := []) rfl (Nat.le_of_ble_eq_true rfl) ⟨Nat.zero_le _, Nat.zero_le _⟩ dX0_mixInto_119 (ws' := [(o, .inr (0, [.ref o_placeKind, .ref o_placeX, .ref o_placeY, .int v_places, .ref o_crowKind, .int v_crows, .ref o_now, g_past, g_pasts, .ref o_notes, .ref o_marks])), (o_placeKind, .inl (y 0, 7, .inl f_placeKind)), (o_placeX, .inl (y 0, 7, .inl f_placeX)), (o_placeY, .inl (y 0, 7, .inl f_placeY)), (o_crowKind, .inl (y 0, 3, .inl f_crowKind)), (o_now_at, .inl (y 0, 3, .inl f_now_at)), (o_now_tired, .inl (y 0, 3, .inl f_now_tired)), (o_now, .inr (1, [.ref o_now_at, .ref o_now_tired, .ref o_now_deedRows, .int v_now_deeds, g_now_hour])), (o_now_deedRows, .inl (y 0, 36, .inl f_now_deedRows)), (o_notes, .inr (5, [.int v_notes_ofCrows, .ref o_notes_rows, .int v_notes_size])), (o_notes_rows, .inl (y 0, 30, .inl f_notes_rows)), (o_marks, .inr (5, [.int v_marks_ofCrows, .ref o_marks_rows, .int v_marks_size])), (o_marks_rows, .inl (y 0, 30, .inl f_marks_rows))]) rfl (fun H locs hH => ?_)
      have hr9 := Option.some.inj h
      obtain rfl := hr9
      rw [hQ]
      exact z_retl K hr hH [0, 1, 2, 3, 4, 7, 5, 6, 8, 9, 10, 11, 12] (by decide) rfl rfl dX0_mixInto_122
    refine z_lp_ind (P := fun (s3 : Int32 × Int64) => ∀ (H : Heap) (locs : List Loc) (ls : Array Slot), z_H D A s.heap [(o, .inr (0, [.ref o_placeKind, .ref o_placeX, .ref o_placeY, .int v_places, .ref o_crowKind, .int v_crows, .ref o_now, g_past, g_pasts, .ref o_notes, .ref o_marks])), (o_placeKind, .inl (y 0, 7, .inl f_placeKind)), (o_placeX, .inl (y 0, 7, .inl f_placeX)), (o_placeY, .inl (y 0, 7, .inl f_placeY)), (o_crowKind, .inl (y 0, 3, .inl f_crowKind)), (o_now, .inr (1, [.ref o_now_at, .ref o_now_tired, .ref o_now_deedRows, .int v_now_deeds, g_now_hour])), (o_now_at, .inl (y 0, 3, .inl f_now_at)), (o_now_tired, .inl (y 0, 3, .inl f_now_tired)), (o_now_deedRows, .inl (y 0, 36, .inl f_now_deedRows)), (o_notes, .inr (5, [.int v_notes_ofCrows, .ref o_notes_rows, .int v_notes_size])), (o_notes_rows, .inl (y 0, 30, .inl f_notes_rows)), (o_marks, .inr (5, [.int v_marks_ofCrows, .ref o_marks_rows, .int v_marks_size])), (o_marks_rows, .inl (y 0, 30, .inl f_marks_rows))] H locs → lv_has ls 6 [(0, .ref o), (3, .long s3.2), (5, .int s3.1)] → W p l e (zR 1 25) s m args below meth c H locs 0 0 Q (F0 m 49 ls [])) ?_ _ hlpe4 _ _ _ hH (lv_sub hl [1, 2, 0] rfl)
    clear h hlpe4
    intro s3 x11 h ihe4 hee4 H locs ls hH hl
    refine lv_iload K.x K.b dX0_mixInto_49 (lv_at hl 2 rfl) ?_
    refine lv_aload_n K.x K.b dX0_mixInto_51 rfl (lv_at hl 0 rfl) ?_
    refine z_get K hH 0 rfl zin_0 rfl 5 (by decide) tw_1_90 (v := .int v_crows) rfl dX0_mixInto_52 ?_
    refine lv_icmp_ge (tgt := 96) K.x K.b dX0_mixInto_55 (by decide) (fun c12 => ?_) (fun c12 => ?_)
    · replace h := z_t c12 h
      obtain rfl := hee4 _ (Option.some.inj h).symm
      exact KEe4 _ _ _ hH (lv_sub hl [0, 1] rfl)
    · replace h := z_f c12 h
      refine lv_lload_n K.x K.b dX0_mixInto_58 rfl (lv_at hl 1 rfl) ?_
      refine lv_aload_n K.x K.b dX0_mixInto_59 rfl (lv_at hl 0 rfl) ?_
      refine z_get K hH 0 rfl zin_0 rfl 4 (by decide) tw_1_89 (v := .ref o_crowKind) rfl dX0_mixInto_60 ?_
      refine lv_iload K.x K.b dX0_mixInto_63 (lv_at hl 2 rfl) ?_
      obtain ⟨g13, h⟩ := z_gd_e h
      refine z_iald K hH 4 (k := s3.1.toNatClampNeg) rfl g13 rfl dX0_mixInto_65 ?_
      refine lv_aload_n K.x K.b dX0_mixInto_66 rfl (lv_at hl 0 rfl) ?_
      refine z_get K hH 0 rfl zin_0 rfl 6 (by decide) tw_1_93 (v := .ref o_now) rfl dX0_mixInto_67 ?_
      refine z_get K hH 5 rfl zin_1 rfl 0 (by decide) tw_1_38 (v := .ref o_now_at) rfl dX0_mixInto_70 ?_
      refine lv_iload K.x K.b dX0_mixInto_73 (lv_at hl 2 rfl) ?_
      obtain ⟨g14, h⟩ := z_gd_e h
      refine z_iald K hH 6 (k := s3.1.toNatClampNeg) rfl g14 rfl dX0_mixInto_75 ?_
      refine lv_aload_n K.x K.b dX0_mixInto_76 rfl (lv_at hl 0 rfl) ?_
      refine z_get K hH 0 rfl zin_0 rfl 6 (by decide) tw_1_93 (v := .ref o_now) rfl dX0_mixInto_77 ?_
      refine z_get K hH 5 rfl zin_1 rfl 1 (by decide) tw_1_41 (v := .ref o_now_tired) rfl dX0_mixInto_80 ?_
      refine lv_iload K.x K.b dX0_mixInto_83 (lv_at hl 2 rfl) ?_
      obtain ⟨g15, h⟩ := z_gd_e h
      refine z_iald K hH 7 (k := s3.1.toNatClampNeg) rfl g15 rfl dX0_mixInto_85 ?_
      obtain ⟨x16, ex16, h⟩ := z_lt_e h
      refine z_nm ex16 ?_
      obtain ⟨x17, ex17, h⟩ := z_lt_e h
      refine z_nm2 ex17 ?_
      obtain ⟨x18, ex18, h⟩ := z_lt_e h
      refine z_nm3 ex18 ?_
      obtain ⟨r19, hr20, h⟩ := z_bd_e h
      refine z_Sl K hH hl.1 (c_X0_mixThree l D y s3.2 x18 x17 x16 r19 hr20) (z_cwS K 4 tw_4_76 tw_4_77 tw_1_2 tw_4_78 hd_X0_mixThree ⟨by decide, by decide⟩) rfl (As := [.long s3.2, .int x18, .int x17, .int x16]) (rest := []) rfl (Nat.le_of_ble_eq_true rfl) ⟨Nat.zero_le _, Nat.zero_le _⟩ dX0_mixInto_86 (fun H locs hH => ?_)
      refine lv_lstore_n (lv' := [(3, .long r19), (0, .ref o), (5, .int s3.1)]) K.x K.b dX0_mixInto_89 rfl hl (by decide) rfl (fun ls hl => ?_)
      obtain ⟨x21, ex21, h⟩ := z_lt_e h
      refine lv_iinc (v := x21) (lv' := [(5, .int x21), (3, .long r19), (0, .ref o)]) K.x K.b dX0_mixInto_90 hl (k := 2) rfl (by rw [ex21]; rfl) (by decide) rfl (fun ls hl => ?_)
      refine lv_goto (tgt := 49) K.x K.b dX0_mixInto_93 (by decide) ?_
      exact ihe4 _ (Option.some.inj h).symm _ _ _ hH (lv_sub hl [2, 1, 0] rfl)
  refine z_lp_ind (P := fun (s1 : Int32 × Int64) => ∀ (H : Heap) (locs : List Loc) (ls : Array Slot), z_H D A s.heap [(o, .inr (0, [.ref o_placeKind, .ref o_placeX, .ref o_placeY, .int v_places, .ref o_crowKind, .int v_crows, .ref o_now, g_past, g_pasts, .ref o_notes, .ref o_marks])), (o_placeKind, .inl (y 0, 7, .inl f_placeKind)), (o_placeX, .inl (y 0, 7, .inl f_placeX)), (o_placeY, .inl (y 0, 7, .inl f_placeY)), (o_crowKind, .inl (y 0, 3, .inl f_crowKind)), (o_now, .inr (1, [.ref o_now_at, .ref o_now_tired, .ref o_now_deedRows, .int v_now_deeds, g_now_hour])), (o_now_at, .inl (y 0, 3, .inl f_now_at)), (o_now_tired, .inl (y 0, 3, .inl f_now_tired)), (o_now_deedRows, .inl (y 0, 36, .inl f_now_deedRows)), (o_notes, .inr (5, [.int v_notes_ofCrows, .ref o_notes_rows, .int v_notes_size])), (o_notes_rows, .inl (y 0, 30, .inl f_notes_rows)), (o_marks, .inr (5, [.int v_marks_ofCrows, .ref o_marks_rows, .int v_marks_size])), (o_marks_rows, .inl (y 0, 30, .inl f_marks_rows))] H locs → lv_has ls 6 [(0, .ref o), (3, .long s1.2), (5, .int s1.1)] → W p l e (zR 1 25) s m args below meth c H locs 0 0 Q (F0 m 5 ls [])) ?_ _ hlpe2 _ _ _ hH (lv_sub hl [2, 1, 0] rfl)
  clear h hlpe2
  intro s1 x22 h ihe2 hee2 H locs ls hH hl
  refine lv_iload K.x K.b dX0_mixInto_5 (lv_at hl 2 rfl) ?_
  refine lv_aload_n K.x K.b dX0_mixInto_7 rfl (lv_at hl 0 rfl) ?_
  refine z_get K hH 0 rfl zin_0 rfl 3 (by decide) tw_1_85 (v := .int v_places) rfl dX0_mixInto_8 ?_
  refine lv_icmp_ge (tgt := 46) K.x K.b dX0_mixInto_11 (by decide) (fun c23 => ?_) (fun c23 => ?_)
  · replace h := z_t c23 h
    obtain rfl := hee2 _ (Option.some.inj h).symm
    exact KEe2 _ _ _ hH (lv_sub hl [0, 1] rfl)
  · replace h := z_f c23 h
    refine lv_lload_n K.x K.b dX0_mixInto_14 rfl (lv_at hl 1 rfl) ?_
    refine lv_aload_n K.x K.b dX0_mixInto_15 rfl (lv_at hl 0 rfl) ?_
    refine z_get K hH 0 rfl zin_0 rfl 0 (by decide) tw_1_82 (v := .ref o_placeKind) rfl dX0_mixInto_16 ?_
    refine lv_iload K.x K.b dX0_mixInto_19 (lv_at hl 2 rfl) ?_
    obtain ⟨g24, h⟩ := z_gd_e h
    refine z_iald K hH 1 (k := s1.1.toNatClampNeg) rfl g24 rfl dX0_mixInto_21 ?_
    refine lv_aload_n K.x K.b dX0_mixInto_22 rfl (lv_at hl 0 rfl) ?_
    refine z_get K hH 0 rfl zin_0 rfl 1 (by decide) tw_1_83 (v := .ref o_placeX) rfl dX0_mixInto_23 ?_
    refine lv_iload K.x K.b dX0_mixInto_26 (lv_at hl 2 rfl) ?_
    obtain ⟨g25, h⟩ := z_gd_e h
    refine z_iald K hH 2 (k := s1.1.toNatClampNeg) rfl g25 rfl dX0_mixInto_28 ?_
    refine lv_aload_n K.x K.b dX0_mixInto_29 rfl (lv_at hl 0 rfl) ?_
    refine z_get K hH 0 rfl zin_0 rfl 2 (by decide) tw_1_84 (v := .ref o_placeY) rfl dX0_mixInto_30 ?_
    refine lv_iload K.x K.b dX0_mixInto_33 (lv_at hl 2 rfl) ?_
    obtain ⟨g26, h⟩ := z_gd_e h
    refine z_iald K hH 3 (k := s1.1.toNatClampNeg) rfl g26 rfl dX0_mixInto_35 ?_
    obtain ⟨x27, ex27, h⟩ := z_lt_e h
    refine z_nm ex27 ?_
    obtain ⟨x28, ex28, h⟩ := z_lt_e h
    refine z_nm2 ex28 ?_
    obtain ⟨x29, ex29, h⟩ := z_lt_e h
    refine z_nm3 ex29 ?_
    obtain ⟨r30, hr31, h⟩ := z_bd_e h
    refine z_Sl K hH hl.1 (c_X0_mixThree l D y s1.2 x29 x28 x27 r30 hr31) (z_cwS K 4 tw_4_76 tw_4_77 tw_1_2 tw_4_78 hd_X0_mixThree ⟨by decide, by decide⟩) rfl (As := [.long s1.2, .int x29, .int x28, .int x27]) (rest := []) rfl (Nat.le_of_ble_eq_true rfl) ⟨Nat.zero_le _, Nat.zero_le _⟩ dX0_mixInto_36 (fun H locs hH => ?_)
    refine lv_lstore_n (lv' := [(3, .long r30), (0, .ref o), (5, .int s1.1)]) K.x K.b dX0_mixInto_39 rfl hl (by decide) rfl (fun ls hl => ?_)
    obtain ⟨x32, ex32, h⟩ := z_lt_e h
    refine lv_iinc (v := x32) (lv' := [(5, .int x32), (3, .long r30), (0, .ref o)]) K.x K.b dX0_mixInto_40 hl (k := 2) rfl (by rw [ex32]; rfl) (by decide) rfl (fun ls hl => ?_)
    refine lv_goto (tgt := 5) K.x K.b dX0_mixInto_43 (by decide) ?_
    exact ihe2 _ (Option.some.inj h).symm _ _ _ hH (lv_sub hl [2, 1, 0] rfl)
noncomputable def p_X3_mostAlike (f_values : (Nat → Int32)) (p1 : Int32) : Option (Int32) :=
  z_bd (z_lp (S := Int32 × Int32) (E := Int32) (fun s1 =>
  if ((6 : Int32) ≤ s1.1) then
  (some (.inr s1.2)) else
  (z_bd (z_lp (S := Int32 × Int32) (E := Int32) (fun s5 =>
  if ((6 : Int32) ≤ s5.1) then
  (some (.inr s5.2)) else
  (z_bd (α := Int32) (if ((p1 &&& ((1 : Int32) <<< (s1.1 &&& 31))) = 0) then
  (some s5.2) else
  (if ((p1 &&& ((1 : Int32) <<< (s5.1 &&& 31))) = 0) then
  (some s5.2) else
  (z_gd (z_in s1.1 6) <|
  z_gd (z_in s5.1 6) <|
  if ((f_values s1.1.toNatClampNeg) = (f_values s5.1.toNatClampNeg)) then
  (z_lt (s5.2 + (1 : Int32)) fun x18 =>
  some x18) else
  (some s5.2)))) fun j11 =>
  z_lt (s5.1 + (1 : Int32)) fun x12 =>
  some (.inl (x12, j11)))) ((0 : Int32), (0 : Int32))) fun e6 =>
  z_lt ((if s1.2 < e6 then e6 else s1.2)) fun x7 =>
  z_lt (s1.1 + (1 : Int32)) fun x8 =>
  some (.inl (x8, x7)))) ((0 : Int32), (0 : Int32))) fun e2 =>
  some e2
theorem hd_X3_mostAlike : yX3_mostAlike.cls = RX3 ∧ yX3_mostAlike.cls ≠ "java/lang/invoke/MethodHandle" ∧ yX3_mostAlike.cls ≠ "java/lang/invoke/VarHandle" ∧ (parseMethodDescriptor yX3_mostAlike.desc).map (fun d => d.parameters.length) = some 1 := by decide +kernel
set_option maxHeartbeats 4000000 in
set_option maxRecDepth 100000 in
theorem c_X3_mostAlike (l : Launch) (D : va_G) (y : Nat → ClassId) (o o_values : Nat) (f_values : (Nat → Int32)) (p1 : Int32) (r : Int32) (h : p_X3_mostAlike f_values p1 = some r) : z_MI l yX3_mostAlike cX3_mostAlike 6 (some .int) 1 40 D y [.ref o, .int p1] [(o, .inr (2, [.ref o_values])), (o_values, .inl (y 0, 6, .inl f_values))] r [(o, .inr (2, [.ref o_values])), (o_values, .inl (y 0, 6, .inl f_values))] := by
  unfold p_X3_mostAlike at h
  refine z_enI (by decide) (Nat.le_of_ble_eq_true rfl) ?_
  intro p e s m args below meth c A ls hr K hH hl
  obtain ⟨Q, hQ⟩ : ∃ Q, Q = MQ below (z_Qi D y A r [(o, .inr (2, [.ref o_values])), (o_values, .inl (y 0, 6, .inl f_values))]) args s 0 0 A := ⟨_, rfl⟩
  rw [← hQ]
  have hl : lv_has ls 6 [(0, .ref o), (1, .int p1)] := hl
  refine lv_iconst (v := (0)) K.x K.b dX3_mostAlike_0 (by decide) ?_
  refine lv_istore_n (lv' := [(2, .int (0 : Int32)), (0, .ref o), (1, .int p1)]) K.x K.b dX3_mostAlike_1 rfl hl (by decide) rfl (fun ls hl => ?_)
  refine lv_iconst (v := (0)) K.x K.b dX3_mostAlike_2 (by decide) ?_
  refine lv_istore_n (lv' := [(3, .int (0 : Int32)), (2, .int (0 : Int32)), (0, .ref o), (1, .int p1)]) K.x K.b dX3_mostAlike_3 rfl hl (by decide) rfl (fun ls hl => ?_)
  obtain ⟨e2, hlpe2, h⟩ := z_bd_e h
  have KEe2 : ∀ (H : Heap) (locs : List Loc) (ls : Array Slot), z_H D A s.heap [(o, .inr (2, [.ref o_values])), (o_values, .inl (y 0, 6, .inl f_values))] H locs → lv_has ls 6 [(2, .int e2)] → W p l e (zR 1 40) s m args below meth c H locs 0 0 Q (F0 m 78 ls []) := by
    intro H locs ls hH hl
    refine lv_iload_n K.x K.b dX3_mostAlike_78 rfl (lv_at hl 0 rfl) ?_
    have hr9 := Option.some.inj h
    obtain rfl := hr9
    rw [hQ]
    exact z_reti K hr hH [0, 1] (by decide) rfl rfl rfl dX3_mostAlike_79
  refine z_lp_ind (P := fun (s1 : Int32 × Int32) => ∀ (H : Heap) (locs : List Loc) (ls : Array Slot), z_H D A s.heap [(o, .inr (2, [.ref o_values])), (o_values, .inl (y 0, 6, .inl f_values))] H locs → lv_has ls 6 [(0, .ref o), (1, .int p1), (2, .int s1.2), (3, .int s1.1)] → W p l e (zR 1 40) s m args below meth c H locs 0 0 Q (F0 m 4 ls [])) ?_ _ hlpe2 _ _ _ hH (lv_sub hl [2, 3, 1, 0] rfl)
  clear h hlpe2
  intro s1 x3 h ihe2 hee2 H locs ls hH hl
  refine lv_iload_n K.x K.b dX3_mostAlike_4 rfl (lv_at hl 3 rfl) ?_
  refine lv_bipush (v := (6)) K.x K.b dX3_mostAlike_5 (by decide) ?_
  refine lv_icmp_ge (tgt := 78) K.x K.b dX3_mostAlike_7 (by decide) (fun c4 => ?_) (fun c4 => ?_)
  · replace h := z_t c4 h
    obtain rfl := hee2 _ (Option.some.inj h).symm
    exact KEe2 _ _ _ hH (lv_sub hl [2] rfl)
  · replace h := z_f c4 h
    refine lv_iconst (v := (0)) K.x K.b dX3_mostAlike_10 (by decide) ?_
    refine lv_istore (lv' := [(4, .int (0 : Int32)), (0, .ref o), (1, .int p1), (2, .int s1.2), (3, .int s1.1)]) K.x K.b dX3_mostAlike_11 hl (by decide) rfl (fun ls hl => ?_)
    refine lv_iconst (v := (0)) K.x K.b dX3_mostAlike_13 (by decide) ?_
    refine lv_istore (lv' := [(5, .int (0 : Int32)), (4, .int (0 : Int32)), (0, .ref o), (1, .int p1), (2, .int s1.2), (3, .int s1.1)]) K.x K.b dX3_mostAlike_14 hl (by decide) rfl (fun ls hl => ?_)
    obtain ⟨e6, hlpe6, h⟩ := z_bd_e h
    have KEe6 : ∀ (H : Heap) (locs : List Loc) (ls : Array Slot), z_H D A s.heap [(o, .inr (2, [.ref o_values])), (o_values, .inl (y 0, 6, .inl f_values))] H locs → lv_has ls 6 [(0, .ref o), (1, .int p1), (2, .int s1.2), (3, .int s1.1), (4, .int e6)] → W p l e (zR 1 40) s m args below meth c H locs 0 0 Q (F0 m 65 ls []) := by
      intro H locs ls hH hl
      refine lv_iload_n K.x K.b dX3_mostAlike_65 rfl (lv_at hl 2 rfl) ?_
      refine lv_iload K.x K.b dX3_mostAlike_66 (lv_at hl 4 rfl) ?_
      refine z_mmax K hl.1 tw_3_222 tw_3_223 tw_1_9 tw_3_224 (by decide) (Nat.le_of_ble_eq_true rfl) ⟨Nat.zero_le _, Nat.zero_le _⟩ dX3_mostAlike_68 ?_
      obtain ⟨x7, ex7, h⟩ := z_lt_e h
      refine z_nm ex7 ?_
      refine lv_istore_n (lv' := [(2, .int x7), (0, .ref o), (1, .int p1), (3, .int s1.1), (4, .int e6)]) K.x K.b dX3_mostAlike_71 rfl hl (by decide) rfl (fun ls hl => ?_)
      obtain ⟨x8, ex8, h⟩ := z_lt_e h
      refine lv_iinc (v := x8) (lv' := [(3, .int x8), (2, .int x7), (0, .ref o), (1, .int p1), (4, .int e6)]) K.x K.b dX3_mostAlike_72 hl (k := 3) rfl (by rw [ex8]; rfl) (by decide) rfl (fun ls hl => ?_)
      refine lv_goto (tgt := 4) K.x K.b dX3_mostAlike_75 (by decide) ?_
      exact ihe2 _ (Option.some.inj h).symm _ _ _ hH (lv_sub hl [2, 3, 1, 0] rfl)
    refine z_lp_ind (P := fun (s5 : Int32 × Int32) => ∀ (H : Heap) (locs : List Loc) (ls : Array Slot), z_H D A s.heap [(o, .inr (2, [.ref o_values])), (o_values, .inl (y 0, 6, .inl f_values))] H locs → lv_has ls 6 [(0, .ref o), (1, .int p1), (2, .int s1.2), (3, .int s1.1), (4, .int s5.2), (5, .int s5.1)] → W p l e (zR 1 40) s m args below meth c H locs 0 0 Q (F0 m 16 ls [])) ?_ _ hlpe6 _ _ _ hH (lv_sub hl [2, 3, 4, 5, 1, 0] rfl)
    clear h hlpe6
    intro s5 x9 h ihe6 hee6 H locs ls hH hl
    refine lv_iload K.x K.b dX3_mostAlike_16 (lv_at hl 5 rfl) ?_
    refine lv_bipush (v := (6)) K.x K.b dX3_mostAlike_18 (by decide) ?_
    refine lv_icmp_ge (tgt := 65) K.x K.b dX3_mostAlike_20 (by decide) (fun c10 => ?_) (fun c10 => ?_)
    · replace h := z_t c10 h
      obtain rfl := hee6 _ (Option.some.inj h).symm
      exact KEe6 _ _ _ hH (lv_sub hl [0, 1, 2, 3, 4] rfl)
    · replace h := z_f c10 h
      refine lv_iload_n K.x K.b dX3_mostAlike_23 rfl (lv_at hl 1 rfl) ?_
      refine lv_iconst (v := (1)) K.x K.b dX3_mostAlike_24 (by decide) ?_
      refine lv_iload_n K.x K.b dX3_mostAlike_25 rfl (lv_at hl 3 rfl) ?_
      refine lv_ishl K.x K.b dX3_mostAlike_26 ?_
      refine lv_iand K.x K.b dX3_mostAlike_27 ?_
      obtain ⟨j11, hj11, h⟩ := z_bd_e h
      have Kj11 : ∀ (H : Heap) (locs : List Loc) (ls : Array Slot), z_H D A s.heap [(o, .inr (2, [.ref o_values])), (o_values, .inl (y 0, 6, .inl f_values))] H locs → lv_has ls 6 [(0, .ref o), (1, .int p1), (2, .int s1.2), (3, .int s1.1), (4, .int j11), (5, .int s5.1)] → W p l e (zR 1 40) s m args below meth c H locs 0 0 Q (F0 m 59 ls []) := by
        intro H locs ls hH hl
        obtain ⟨x12, ex12, h⟩ := z_lt_e h
        refine lv_iinc (v := x12) (lv' := [(5, .int x12), (0, .ref o), (1, .int p1), (2, .int s1.2), (3, .int s1.1), (4, .int j11)]) K.x K.b dX3_mostAlike_59 hl (k := 5) rfl (by rw [ex12]; rfl) (by decide) rfl (fun ls hl => ?_)
        refine lv_goto (tgt := 16) K.x K.b dX3_mostAlike_62 (by decide) ?_
        exact ihe6 _ (Option.some.inj h).symm _ _ _ hH (lv_sub hl [1, 2, 3, 4, 5, 0] rfl)
      replace h := hj11
      refine lv_if_eq (tgt := 59) K.x K.b dX3_mostAlike_28 (by decide) (fun c13 => ?_) (fun c13 => ?_)
      · replace h := z_t c13 h
        obtain rfl := Option.some.inj h
        exact Kj11 _ _ _ hH (lv_sub hl [0, 1, 2, 3, 4, 5] rfl)
      · replace h := z_f c13 h
        refine lv_iload_n K.x K.b dX3_mostAlike_31 rfl (lv_at hl 1 rfl) ?_
        refine lv_iconst (v := (1)) K.x K.b dX3_mostAlike_32 (by decide) ?_
        refine lv_iload K.x K.b dX3_mostAlike_33 (lv_at hl 5 rfl) ?_
        refine lv_ishl K.x K.b dX3_mostAlike_35 ?_
        refine lv_iand K.x K.b dX3_mostAlike_36 ?_
        refine lv_if_eq (tgt := 59) K.x K.b dX3_mostAlike_37 (by decide) (fun c14 => ?_) (fun c14 => ?_)
        · replace h := z_t c14 h
          obtain rfl := Option.some.inj h
          exact Kj11 _ _ _ hH (lv_sub hl [0, 1, 2, 3, 4, 5] rfl)
        · replace h := z_f c14 h
          refine lv_aload_n K.x K.b dX3_mostAlike_40 rfl (lv_at hl 0 rfl) ?_
          refine z_get K hH 0 rfl zin_3 rfl 0 (by decide) tw_1_193 (v := .ref o_values) rfl dX3_mostAlike_41 ?_
          refine lv_iload_n K.x K.b dX3_mostAlike_44 rfl (lv_at hl 3 rfl) ?_
          obtain ⟨g15, h⟩ := z_gd_e h
          refine z_iald K hH 1 (k := s1.1.toNatClampNeg) rfl g15 rfl dX3_mostAlike_45 ?_
          refine lv_aload_n K.x K.b dX3_mostAlike_46 rfl (lv_at hl 0 rfl) ?_
          refine z_get K hH 0 rfl zin_3 rfl 0 (by decide) tw_1_193 (v := .ref o_values) rfl dX3_mostAlike_47 ?_
          refine lv_iload K.x K.b dX3_mostAlike_50 (lv_at hl 5 rfl) ?_
          obtain ⟨g16, h⟩ := z_gd_e h
          refine z_iald K hH 1 (k := s5.1.toNatClampNeg) rfl g16 rfl dX3_mostAlike_52 ?_
          refine lv_icmp_ne (tgt := 59) K.x K.b dX3_mostAlike_53 (by decide) (fun c17 => ?_) (fun c17 => ?_)
          · replace h := z_f c17 h
            obtain rfl := Option.some.inj h
            exact Kj11 _ _ _ hH (lv_sub hl [0, 1, 2, 3, 4, 5] rfl)
          · replace h := z_t c17 h
            obtain ⟨x18, ex18, h⟩ := z_lt_e h
            refine lv_iinc (v := x18) (lv' := [(4, .int x18), (0, .ref o), (1, .int p1), (2, .int s1.2), (3, .int s1.1), (5, .int s5.1)]) K.x K.b dX3_mostAlike_56 hl (k := 4) rfl (by rw [ex18]; rfl) (by decide) rfl (fun ls hl => ?_)
            obtain rfl := Option.some.inj h
            exact Kj11 _ _ _ hH (lv_sub hl [1, 2, 3, 4, 0, 5] rfl)
noncomputable def p_X3_best (f_values : (Nat → Int32)) (p1 : Int32) (p2 : Int32) (p3 : Int32) (p4 : Int32) : Option (Int32 × (Nat → Int32)) :=
  z_bd (z_lp (S := Int32 × Int32 × Int32 × (Nat → Int32)) (E := Int32 × (Nat → Int32)) (fun s1 =>
  if ((24 : Int32) ≤ s1.1) then
  (some (.inr (s1.2.2.1, s1.2.2.2))) else
  (if (p2 = 0) then
  (some (.inr (s1.2.2.1, s1.2.2.2))) else
  (if (s1.2.1 ≤ (1 : Int32)) then
  (some (.inr (s1.2.2.1, s1.2.2.2))) else
  (z_bd (z_lp (S := Int32 × Int32 × Int32 × (Nat → Int32)) (E := Int32 × Int32 × (Nat → Int32)) (fun s7 =>
  if (p3 < s7.1) then
  (some (.inr (s7.2.1, s7.2.2.1, s7.2.2.2))) else
  (if (s7.2.2.1 ≤ (1 : Int32)) then
  (some (.inr (s7.2.1, s7.2.2.1, s7.2.2.2))) else
  (z_bd (z_lp (S := Int32 × (Nat → Int32)) (E := (Nat → Int32)) (fun s13 =>
  if ((6 : Int32) ≤ s13.1) then
  (some (.inr s13.2)) else
  (z_bd (p_X2_told p1 s13.1 s7.1 s1.1 p4) fun r23 =>
  z_gd (z_in s13.1 6) <|
  z_lt ((upd s13.2 s13.1.toNatClampNeg r23)) fun a26 =>
  z_lt (s13.1 + (1 : Int32)) fun x27 =>
  some (.inl (x27, a26)))) ((0 : Int32), s7.2.2.2)) fun e14 =>
  z_bd (p_X3_mostAlike e14 p2) fun r15 =>
  z_bd (α := Int32 × Int32) (if (s7.2.2.1 ≤ r15) then
  (some (s7.2.1, s7.2.2.1)) else
  (z_lt ((((100 : Int32) * s1.1) + s7.1)) fun x20 =>
  some (x20, r15))) fun j17 =>
  z_lt (s7.1 + (1 : Int32)) fun x18 =>
  some (.inl (x18, j17.1, j17.2, e14))))) ((0 : Int32), s1.2.2.1, s1.2.1, s1.2.2.2)) fun e8 =>
  z_lt (s1.1 + (1 : Int32)) fun x9 =>
  some (.inl (x9, e8.2.1, e8.1, e8.2.2)))))) ((0 : Int32), (7 : Int32), (-1 : Int32), f_values)) fun e2 =>
  some (e2.1, e2.2)
theorem hd_X3_best : yX3_best.cls = RX3 ∧ yX3_best.cls ≠ "java/lang/invoke/MethodHandle" ∧ yX3_best.cls ≠ "java/lang/invoke/VarHandle" ∧ (parseMethodDescriptor yX3_best.desc).map (fun d => d.parameters.length) = some 4 := by decide +kernel
set_option maxHeartbeats 4000000 in
set_option maxRecDepth 100000 in
theorem c_X3_best (l : Launch) (D : va_G) (y : Nat → ClassId) (o o_values : Nat) (f_values : (Nat → Int32)) (p1 : Int32) (p2 : Int32) (p3 : Int32) (p4 : Int32) (r : Int32 × (Nat → Int32)) (h : p_X3_best f_values p1 p2 p3 p4 = some r) : z_MI l yX3_best cX3_best 10 (some .int) 2 65 D y [.ref o, .int p1, .int p2, .int p3, .int p4] [(o, .inr (2, [.ref o_values])), (o_values, .inl (y 0, 6, .inl f_values))] r.1 [(o, .inr (2, [.ref o_values])), (o_values, .inl (y 0, 6, .inl r.2))] := by
  unfold p_X3_best at h
  refine z_enI (by decide) (Nat.le_of_ble_eq_true rfl) ?_
  intro p e s m args below meth c A ls hr K hH hl
  obtain ⟨Q, hQ⟩ : ∃ Q, Q = MQ below (z_Qi D y A r.1 [(o, .inr (2, [.ref o_values])), (o_values, .inl (y 0, 6, .inl r.2))]) args s 0 0 A := ⟨_, rfl⟩
  rw [← hQ]
  have hl : lv_has ls 10 [(0, .ref o), (1, .int p1), (2, .int p2), (3, .int p3), (4, .int p4)] := hl
  refine lv_iconst (v := (-1)) K.x K.b dX3_best_0 (by decide) ?_
  refine lv_istore (lv' := [(5, .int (-1 : Int32)), (0, .ref o), (1, .int p1), (2, .int p2), (3, .int p3), (4, .int p4)]) K.x K.b dX3_best_1 hl (by decide) rfl (fun ls hl => ?_)
  refine lv_bipush (v := (7)) K.x K.b dX3_best_3 (by decide) ?_
  refine lv_istore (lv' := [(6, .int (7 : Int32)), (5, .int (-1 : Int32)), (0, .ref o), (1, .int p1), (2, .int p2), (3, .int p3), (4, .int p4)]) K.x K.b dX3_best_5 hl (by decide) rfl (fun ls hl => ?_)
  refine lv_iconst (v := (0)) K.x K.b dX3_best_7 (by decide) ?_
  refine lv_istore (lv' := [(7, .int (0 : Int32)), (6, .int (7 : Int32)), (5, .int (-1 : Int32)), (0, .ref o), (1, .int p1), (2, .int p2), (3, .int p3), (4, .int p4)]) K.x K.b dX3_best_8 hl (by decide) rfl (fun ls hl => ?_)
  obtain ⟨e2, hlpe2, h⟩ := z_bd_e h
  have KEe2 : ∀ (H : Heap) (locs : List Loc) (ls : Array Slot), z_H D A s.heap [(o, .inr (2, [.ref o_values])), (o_values, .inl (y 0, 6, .inl e2.2))] H locs → lv_has ls 10 [(5, .int e2.1)] → W p l e (zR 2 65) s m args below meth c H locs 0 0 Q (F0 m 117 ls []) := by
    intro H locs ls hH hl
    refine lv_iload K.x K.b dX3_best_117 (lv_at hl 0 rfl) ?_
    have hr9 := Option.some.inj h
    obtain rfl := hr9
    rw [hQ]
    exact z_reti K hr hH [0, 1] (by decide) rfl rfl rfl dX3_best_119
  refine z_lp_ind (P := fun (s1 : Int32 × Int32 × Int32 × (Nat → Int32)) => ∀ (H : Heap) (locs : List Loc) (ls : Array Slot), z_H D A s.heap [(o, .inr (2, [.ref o_values])), (o_values, .inl (y 0, 6, .inl s1.2.2.2))] H locs → lv_has ls 10 [(0, .ref o), (1, .int p1), (2, .int p2), (3, .int p3), (4, .int p4), (5, .int s1.2.2.1), (6, .int s1.2.1), (7, .int s1.1)] → W p l e (zR 2 65) s m args below meth c H locs 0 0 Q (F0 m 10 ls [])) ?_ _ hlpe2 _ _ _ hH (lv_sub hl [3, 4, 5, 6, 7, 2, 1, 0] rfl)
  clear h hlpe2
  intro s1 x3 h ihe2 hee2 H locs ls hH hl
  refine lv_iload K.x K.b dX3_best_10 (lv_at hl 7 rfl) ?_
  refine lv_bipush (v := (24)) K.x K.b dX3_best_12 (by decide) ?_
  refine lv_icmp_ge (tgt := 117) K.x K.b dX3_best_14 (by decide) (fun c4 => ?_) (fun c4 => ?_)
  · replace h := z_t c4 h
    obtain rfl := hee2 _ (Option.some.inj h).symm
    exact KEe2 _ _ _ hH (lv_sub hl [5] rfl)
  · replace h := z_f c4 h
    refine lv_iload_n K.x K.b dX3_best_17 rfl (lv_at hl 2 rfl) ?_
    refine lv_if_eq (tgt := 117) K.x K.b dX3_best_18 (by decide) (fun c5 => ?_) (fun c5 => ?_)
    · replace h := z_t c5 h
      obtain rfl := hee2 _ (Option.some.inj h).symm
      exact KEe2 _ _ _ hH (lv_sub hl [5] rfl)
    · replace h := z_f c5 h
      refine lv_iload K.x K.b dX3_best_21 (lv_at hl 6 rfl) ?_
      refine lv_iconst (v := (1)) K.x K.b dX3_best_23 (by decide) ?_
      refine lv_icmp_le (tgt := 117) K.x K.b dX3_best_24 (by decide) (fun c6 => ?_) (fun c6 => ?_)
      · replace h := z_t c6 h
        obtain rfl := hee2 _ (Option.some.inj h).symm
        exact KEe2 _ _ _ hH (lv_sub hl [5] rfl)
      · replace h := z_f c6 h
        refine lv_iconst (v := (0)) K.x K.b dX3_best_27 (by decide) ?_
        refine lv_istore (lv' := [(8, .int (0 : Int32)), (0, .ref o), (1, .int p1), (2, .int p2), (3, .int p3), (4, .int p4), (5, .int s1.2.2.1), (6, .int s1.2.1), (7, .int s1.1)]) K.x K.b dX3_best_28 hl (by decide) rfl (fun ls hl => ?_)
        obtain ⟨e8, hlpe8, h⟩ := z_bd_e h
        have KEe8 : ∀ (H : Heap) (locs : List Loc) (ls : Array Slot), z_H D A s.heap [(o, .inr (2, [.ref o_values])), (o_values, .inl (y 0, 6, .inl e8.2.2))] H locs → lv_has ls 10 [(0, .ref o), (1, .int p1), (2, .int p2), (3, .int p3), (4, .int p4), (5, .int e8.1), (6, .int e8.2.1), (7, .int s1.1)] → W p l e (zR 2 65) s m args below meth c H locs 0 0 Q (F0 m 111 ls []) := by
          intro H locs ls hH hl
          obtain ⟨x9, ex9, h⟩ := z_lt_e h
          refine lv_iinc (v := x9) (lv' := [(7, .int x9), (0, .ref o), (1, .int p1), (2, .int p2), (3, .int p3), (4, .int p4), (5, .int e8.1), (6, .int e8.2.1)]) K.x K.b dX3_best_111 hl (k := 7) rfl (by rw [ex9]; rfl) (by decide) rfl (fun ls hl => ?_)
          refine lv_goto (tgt := 10) K.x K.b dX3_best_114 (by decide) ?_
          exact ihe2 _ (Option.some.inj h).symm _ _ _ hH (lv_sub hl [1, 2, 3, 4, 5, 6, 7, 0] rfl)
        refine z_lp_ind (P := fun (s7 : Int32 × Int32 × Int32 × (Nat → Int32)) => ∀ (H : Heap) (locs : List Loc) (ls : Array Slot), z_H D A s.heap [(o, .inr (2, [.ref o_values])), (o_values, .inl (y 0, 6, .inl s7.2.2.2))] H locs → lv_has ls 10 [(0, .ref o), (1, .int p1), (2, .int p2), (3, .int p3), (4, .int p4), (5, .int s7.2.1), (6, .int s7.2.2.1), (7, .int s1.1), (8, .int s7.1)] → W p l e (zR 2 65) s m args below meth c H locs 0 0 Q (F0 m 30 ls [])) ?_ _ hlpe8 _ _ _ hH (lv_sub hl [1, 2, 3, 4, 5, 6, 7, 8, 0] rfl)
        clear h hlpe8
        intro s7 x10 h ihe8 hee8 H locs ls hH hl
        refine lv_iload K.x K.b dX3_best_30 (lv_at hl 8 rfl) ?_
        refine lv_iload_n K.x K.b dX3_best_32 rfl (lv_at hl 3 rfl) ?_
        refine lv_icmp_gt (tgt := 111) K.x K.b dX3_best_33 (by decide) (fun c11 => ?_) (fun c11 => ?_)
        · replace h := z_t c11 h
          obtain rfl := hee8 _ (Option.some.inj h).symm
          exact KEe8 _ _ _ hH (lv_sub hl [0, 1, 2, 3, 4, 5, 6, 7] rfl)
        · replace h := z_f c11 h
          refine lv_iload K.x K.b dX3_best_36 (lv_at hl 6 rfl) ?_
          refine lv_iconst (v := (1)) K.x K.b dX3_best_38 (by decide) ?_
          refine lv_icmp_le (tgt := 111) K.x K.b dX3_best_39 (by decide) (fun c12 => ?_) (fun c12 => ?_)
          · replace h := z_t c12 h
            obtain rfl := hee8 _ (Option.some.inj h).symm
            exact KEe8 _ _ _ hH (lv_sub hl [0, 1, 2, 3, 4, 5, 6, 7] rfl)
          · replace h := z_f c12 h
            refine lv_iconst (v := (0)) K.x K.b dX3_best_42 (by decide) ?_
            refine lv_istore (lv' := [(9, .int (0 : Int32)), (0, .ref o), (1, .int p1), (2, .int p2), (3, .int p3), (4, .int p4), (5, .int s7.2.1), (6, .int s7.2.2.1), (7, .int s1.1), (8, .int s7.1)]) K.x K.b dX3_best_43 hl (by decide) rfl (fun ls hl => ?_)
            obtain ⟨e14, hlpe14, h⟩ := z_bd_e h
            have KEe14 : ∀ (H : Heap) (locs : List Loc) (ls : Array Slot), z_H D A s.heap [(o, .inr (2, [.ref o_values])), (o_values, .inl (y 0, 6, .inl e14))] H locs → lv_has ls 10 [(0, .ref o), (1, .int p1), (2, .int p2), (3, .int p3), (4, .int p4), (5, .int s7.2.1), (6, .int s7.2.2.1), (7, .int s1.1), (8, .int s7.1)] → W p l e (zR 2 65) s m args below meth c H locs 0 0 Q (F0 m 77 ls []) := by
              intro H locs ls hH hl
              refine lv_aload_n K.x K.b dX3_best_77 rfl (lv_at hl 0 rfl) ?_
              refine lv_iload_n K.x K.b dX3_best_78 rfl (lv_at hl 2 rfl) ?_
              obtain ⟨r15, hr16, h⟩ := z_bd_e h
              refine z_Vi K hH hl.1 (c_X3_mostAlike l D y o o_values e14 p2 r15 hr16) (z_cwV K 1 tw_3_218 tw_3_220 tw_0_29 tw_1_7 tw_3_221 hd_X3_mostAlike ⟨by decide, by decide⟩) [0, 1] [] rfl (wr := []) rfl rfl rfl (by decide) rfl rfl rfl (As := [.int p2]) (rest := []) rfl (Nat.le_of_ble_eq_true rfl) ⟨Nat.zero_le _, Nat.zero_le _⟩ dX3_best_79 (ws' := [(o, .inr (2, [.ref o_values])), (o_values, .inl (y 0, 6, .inl e14))]) rfl (fun H locs hH => ?_)
              refine lv_istore (lv' := [(9, .int r15), (0, .ref o), (1, .int p1), (2, .int p2), (3, .int p3), (4, .int p4), (5, .int s7.2.1), (6, .int s7.2.2.1), (7, .int s1.1), (8, .int s7.1)]) K.x K.b dX3_best_82 hl (by decide) rfl (fun ls hl => ?_)
              refine lv_iload K.x K.b dX3_best_84 (lv_at hl 0 rfl) ?_
              refine lv_iload K.x K.b dX3_best_86 (lv_at hl 7 rfl) ?_
              obtain ⟨j17, hj17, h⟩ := z_bd_e h
              have Kj17 : ∀ (H : Heap) (locs : List Loc) (ls : Array Slot), z_H D A s.heap [(o, .inr (2, [.ref o_values])), (o_values, .inl (y 0, 6, .inl e14))] H locs → lv_has ls 10 [(0, .ref o), (1, .int p1), (2, .int p2), (3, .int p3), (4, .int p4), (5, .int j17.1), (6, .int j17.2), (7, .int s1.1), (8, .int s7.1)] → W p l e (zR 2 65) s m args below meth c H locs 0 0 Q (F0 m 105 ls []) := by
                intro H locs ls hH hl
                obtain ⟨x18, ex18, h⟩ := z_lt_e h
                refine lv_iinc (v := x18) (lv' := [(8, .int x18), (0, .ref o), (1, .int p1), (2, .int p2), (3, .int p3), (4, .int p4), (5, .int j17.1), (6, .int j17.2), (7, .int s1.1)]) K.x K.b dX3_best_105 hl (k := 8) rfl (by rw [ex18]; rfl) (by decide) rfl (fun ls hl => ?_)
                refine lv_goto (tgt := 30) K.x K.b dX3_best_108 (by decide) ?_
                exact ihe8 _ (Option.some.inj h).symm _ _ _ hH (lv_sub hl [1, 2, 3, 4, 5, 6, 7, 8, 0] rfl)
              replace h := hj17
              refine lv_icmp_ge (tgt := 105) K.x K.b dX3_best_88 (by decide) (fun c19 => ?_) (fun c19 => ?_)
              · replace h := z_t c19 h
                obtain rfl := Option.some.inj h
                exact Kj17 _ _ _ hH (lv_sub hl [1, 2, 3, 4, 5, 6, 7, 8, 9] rfl)
              · replace h := z_f c19 h
                refine lv_iload K.x K.b dX3_best_91 (lv_at hl 0 rfl) ?_
                refine lv_istore (lv' := [(6, .int r15), (9, .int r15), (0, .ref o), (1, .int p1), (2, .int p2), (3, .int p3), (4, .int p4), (5, .int s7.2.1), (7, .int s1.1), (8, .int s7.1)]) K.x K.b dX3_best_93 hl (by decide) rfl (fun ls hl => ?_)
                refine lv_bipush (v := (100)) K.x K.b dX3_best_95 (by decide) ?_
                refine lv_iload K.x K.b dX3_best_97 (lv_at hl 8 rfl) ?_
                refine lv_imul K.x K.b dX3_best_99 ?_
                refine lv_iload K.x K.b dX3_best_100 (lv_at hl 9 rfl) ?_
                refine lv_iadd K.x K.b dX3_best_102 ?_
                obtain ⟨x20, ex20, h⟩ := z_lt_e h
                refine z_nm ex20 ?_
                refine lv_istore (lv' := [(5, .int x20), (6, .int r15), (9, .int r15), (0, .ref o), (1, .int p1), (2, .int p2), (3, .int p3), (4, .int p4), (7, .int s1.1), (8, .int s7.1)]) K.x K.b dX3_best_103 hl (by decide) rfl (fun ls hl => ?_)
                obtain rfl := Option.some.inj h
                exact Kj17 _ _ _ hH (lv_sub hl [3, 4, 5, 6, 7, 0, 1, 8, 9] rfl)
            refine z_lp_ind (P := fun (s13 : Int32 × (Nat → Int32)) => ∀ (H : Heap) (locs : List Loc) (ls : Array Slot), z_H D A s.heap [(o, .inr (2, [.ref o_values])), (o_values, .inl (y 0, 6, .inl s13.2))] H locs → lv_has ls 10 [(0, .ref o), (1, .int p1), (2, .int p2), (3, .int p3), (4, .int p4), (5, .int s7.2.1), (6, .int s7.2.2.1), (7, .int s1.1), (8, .int s7.1), (9, .int s13.1)] → W p l e (zR 2 65) s m args below meth c H locs 0 0 Q (F0 m 45 ls [])) ?_ _ hlpe14 _ _ _ hH (lv_sub hl [1, 2, 3, 4, 5, 6, 7, 8, 9, 0] rfl)
            clear h hlpe14
            intro s13 x21 h ihe14 hee14 H locs ls hH hl
            refine lv_iload K.x K.b dX3_best_45 (lv_at hl 9 rfl) ?_
            refine lv_bipush (v := (6)) K.x K.b dX3_best_47 (by decide) ?_
            refine lv_icmp_ge (tgt := 77) K.x K.b dX3_best_49 (by decide) (fun c22 => ?_) (fun c22 => ?_)
            · replace h := z_t c22 h
              obtain rfl := hee14 _ (Option.some.inj h).symm
              exact KEe14 _ _ _ hH (lv_sub hl [0, 1, 2, 3, 4, 5, 6, 7, 8] rfl)
            · replace h := z_f c22 h
              refine lv_aload_n K.x K.b dX3_best_52 rfl (lv_at hl 0 rfl) ?_
              refine z_get K hH 0 rfl zin_3 rfl 0 (by decide) tw_1_193 (v := .ref o_values) rfl dX3_best_53 ?_
              refine lv_iload K.x K.b dX3_best_56 (lv_at hl 9 rfl) ?_
              refine lv_iload_n K.x K.b dX3_best_58 rfl (lv_at hl 1 rfl) ?_
              refine lv_iload K.x K.b dX3_best_59 (lv_at hl 9 rfl) ?_
              refine lv_iload K.x K.b dX3_best_61 (lv_at hl 8 rfl) ?_
              refine lv_iload K.x K.b dX3_best_63 (lv_at hl 7 rfl) ?_
              refine lv_iload K.x K.b dX3_best_65 (lv_at hl 4 rfl) ?_
              obtain ⟨r23, hr24, h⟩ := z_bd_e h
              refine z_Si K hH hl.1 (c_X2_told l D y p1 s13.1 s7.1 s1.1 p4 r23 hr24) (z_cwS K 5 tw_3_217 tw_3_205 tw_1_14 tw_3_206 hd_X2_told ⟨by decide, by decide⟩) rfl (As := [.int p1, .int s13.1, .int s7.1, .int s1.1, .int p4]) (rest := [.int s13.1, .ref o_values]) rfl (Nat.le_of_ble_eq_true rfl) ⟨Nat.zero_le _, Nat.zero_le _⟩ dX3_best_67 (fun H locs hH => ?_)
              obtain ⟨g25, h⟩ := z_gd_e h
              obtain ⟨a26, ea26, h⟩ := z_lt_e h
              refine z_iast K hH 1 (k := s13.1.toNatClampNeg) (ws' := [(o, .inr (2, [.ref o_values])), (o_values, .inl (y 0, 6, .inl a26))]) rfl g25 rfl dX3_best_70 (by rw [ea26]; rfl) (fun H locs hH => ?_)
              obtain ⟨x27, ex27, h⟩ := z_lt_e h
              refine lv_iinc (v := x27) (lv' := [(9, .int x27), (0, .ref o), (1, .int p1), (2, .int p2), (3, .int p3), (4, .int p4), (5, .int s7.2.1), (6, .int s7.2.2.1), (7, .int s1.1), (8, .int s7.1)]) K.x K.b dX3_best_71 hl (k := 9) rfl (by rw [ex27]; rfl) (by decide) rfl (fun ls hl => ?_)
              refine lv_goto (tgt := 45) K.x K.b dX3_best_74 (by decide) ?_
              exact ihe14 _ (Option.some.inj h).symm _ _ _ hH (lv_sub hl [1, 2, 3, 4, 5, 6, 7, 8, 9, 0] rfl)
def p_X6_isFull (v_size : Int32) : Option (Int32) :=
  z_bd (α := Int32) (if (v_size < (6 : Int32)) then
  (some (0 : Int32)) else
  (some (1 : Int32))) fun j1 =>
  z_gd (z_bz j1) <|
  some j1
theorem hd_X6_isFull : yX6_isFull.cls = RX6 ∧ yX6_isFull.cls ≠ "java/lang/invoke/MethodHandle" ∧ yX6_isFull.cls ≠ "java/lang/invoke/VarHandle" ∧ (parseMethodDescriptor yX6_isFull.desc).map (fun d => d.parameters.length) = some 0 := by decide +kernel
set_option maxHeartbeats 4000000 in
set_option maxRecDepth 100000 in
theorem c_X6_isFull (l : Launch) (D : va_G) (y : Nat → ClassId) (o : Nat) (g_ofCrows g_rows : Value) (v_size : Int32) (r : Int32) (h : p_X6_isFull v_size = some r) : z_MI l yX6_isFull cX6_isFull 1 (some .boolean) 0 0 D y [.ref o] [(o, .inr (5, [g_ofCrows, g_rows, .int v_size]))] r [(o, .inr (5, [g_ofCrows, g_rows, .int v_size]))] := by
  unfold p_X6_isFull at h
  refine z_enI (by decide) (Nat.le_of_ble_eq_true rfl) ?_
  intro p e s m args below meth c A ls hr K hH hl
  obtain ⟨Q, hQ⟩ : ∃ Q, Q = MQ below (z_Qi D y A r [(o, .inr (5, [g_ofCrows, g_rows, .int v_size]))]) args s 0 0 A := ⟨_, rfl⟩
  rw [← hQ]
  have hl : lv_has ls 1 [(0, .ref o)] := hl
  refine lv_aload_n K.x K.b dX6_isFull_0 rfl (lv_at hl 0 rfl) ?_
  refine z_get K hH 0 rfl zin_6 rfl 2 (by decide) tw_1_72 (v := .int v_size) rfl dX6_isFull_1 ?_
  refine lv_bipush (v := (6)) K.x K.b dX6_isFull_4 (by decide) ?_
  obtain ⟨j1, hj1, h⟩ := z_bd_e h
  have Kj1 : ∀ (H : Heap) (locs : List Loc) (ls : Array Slot), z_H D A s.heap [(o, .inr (5, [g_ofCrows, g_rows, .int v_size]))] H locs → lv_has ls 1 [] → W p l e (zR 0 0) s m args below meth c H locs 0 0 Q (F0 m 14 ls [.int j1]) := by
    intro H locs ls hH hl
    obtain ⟨g2, h⟩ := z_gd_e h
    have hr9 := Option.some.inj h
    obtain rfl := hr9
    rw [hQ]
    exact z_reti K hr hH [0] (by decide) rfl rfl (z_bz_e g2) dX6_isFull_14
  replace h := hj1
  refine lv_icmp_lt (tgt := 13) K.x K.b dX6_isFull_6 (by decide) (fun c3 => ?_) (fun c3 => ?_)
  · replace h := z_t c3 h
    refine lv_iconst (v := (0)) K.x K.b dX6_isFull_13 (by decide) ?_
    obtain rfl := Option.some.inj h
    exact Kj1 _ _ _ hH (lv_sub hl [] rfl)
  · replace h := z_f c3 h
    refine lv_iconst (v := (1)) K.x K.b dX6_isFull_9 (by decide) ?_
    refine lv_goto (tgt := 14) K.x K.b dX6_isFull_10 (by decide) ?_
    obtain rfl := Option.some.inj h
    exact Kj1 _ _ _ hH (lv_sub hl [] rfl)
def p_X6_add (v_size : Int32) (f_rows : (Nat → Int32)) (p1 : Int32) (p2 : Int32) (p3 : Int32) (p4 : Int32) (p5 : Int32) : Option (Int32 × Int32 × (Nat → Int32)) :=
  z_bd (p_X6_isFull v_size) fun r1 =>
  z_bd (α := (Nat → Int32) × Int32) (if (r1 = 0) then
  (z_lt ((v_size * (5 : Int32))) fun x5 =>
  z_gd (z_in x5 30) <|
  z_lt ((upd f_rows x5.toNatClampNeg p1)) fun a7 =>
  z_lt ((x5 + (1 : Int32))) fun x8 =>
  z_gd (z_in x8 30) <|
  z_lt ((upd a7 x8.toNatClampNeg p2)) fun a10 =>
  z_lt ((x5 + (2 : Int32))) fun x11 =>
  z_gd (z_in x11 30) <|
  z_lt ((upd a10 x11.toNatClampNeg p3)) fun a13 =>
  z_lt ((x5 + (3 : Int32))) fun x14 =>
  z_gd (z_in x14 30) <|
  z_lt ((upd a13 x14.toNatClampNeg p4)) fun a16 =>
  z_lt ((x5 + (4 : Int32))) fun x17 =>
  z_gd (z_in x17 30) <|
  z_lt ((upd a16 x17.toNatClampNeg p5)) fun a19 =>
  z_lt ((v_size + (1 : Int32))) fun x20 =>
  some (a19, x20)) else
  (some (f_rows, v_size))) fun j3 =>
  some (j3.2, j3.2, j3.1)
theorem hd_X6_add : yX6_add.cls = RX6 ∧ yX6_add.cls ≠ "java/lang/invoke/MethodHandle" ∧ yX6_add.cls ≠ "java/lang/invoke/VarHandle" ∧ (parseMethodDescriptor yX6_add.desc).map (fun d => d.parameters.length) = some 5 := by decide +kernel
set_option maxHeartbeats 4000000 in
set_option maxRecDepth 100000 in
theorem c_X6_add (l : Launch) (D : va_G) (y : Nat → ClassId) (o o_rows : Nat) (g_ofCrows : Value) (v_size : Int32) (f_rows : (Nat → Int32)) (p1 : Int32) (p2 : Int32) (p3 : Int32) (p4 : Int32) (p5 : Int32) (r : Int32 × Int32 × (Nat → Int32)) (h : p_X6_add v_size f_rows p1 p2 p3 p4 p5 = some r) : z_MI l yX6_add cX6_add 7 (some .int) 1 20 D y [.ref o, .int p1, .int p2, .int p3, .int p4, .int p5] [(o, .inr (5, [g_ofCrows, .ref o_rows, .int v_size])), (o_rows, .inl (y 0, 30, .inl f_rows))] r.1 [(o, .inr (5, [g_ofCrows, .ref o_rows, .int r.2.1])), (o_rows, .inl (y 0, 30, .inl r.2.2))] := by
  unfold p_X6_add at h
  refine z_enI (by decide) (Nat.le_of_ble_eq_true rfl) ?_
  intro p e s m args below meth c A ls hr K hH hl
  obtain ⟨Q, hQ⟩ : ∃ Q, Q = MQ below (z_Qi D y A r.1 [(o, .inr (5, [g_ofCrows, .ref o_rows, .int r.2.1])), (o_rows, .inl (y 0, 30, .inl r.2.2))]) args s 0 0 A := ⟨_, rfl⟩
  rw [← hQ]
  have hl : lv_has ls 7 [(0, .ref o), (1, .int p1), (2, .int p2), (3, .int p3), (4, .int p4), (5, .int p5)] := hl
  refine lv_aload_n K.x K.b dX6_add_0 rfl (lv_at hl 0 rfl) ?_
  obtain ⟨r1, hr2, h⟩ := z_bd_e h
  refine z_Vi K hH hl.1 (c_X6_isFull l D y o (g_ofCrows) (.ref o_rows) v_size r1 hr2) (z_cwV K 0 tw_3_175 tw_3_168 tw_3_169 tw_1_4 tw_3_170 hd_X6_isFull ⟨by decide, by decide⟩) [0] [1] rfl (wr := [(o_rows, .inl (y 0, 30, .inl f_rows))]) rfl rfl rfl (by decide) rfl rfl rfl (As := []) (rest := []) rfl (Nat.le_of_ble_eq_true rfl) ⟨Nat.zero_le _, Nat.zero_le _⟩ dX6_add_1 (ws' := [(o_rows, .inl (y 0, 30, .inl f_rows)), (o, .inr (5, [g_ofCrows, .ref o_rows, .int v_size]))]) rfl (fun H locs hH => ?_)
  obtain ⟨j3, hj3, h⟩ := z_bd_e h
  have Kj3 : ∀ (H : Heap) (locs : List Loc) (ls : Array Slot), z_H D A s.heap [(o_rows, .inl (y 0, 30, .inl j3.1)), (o, .inr (5, [g_ofCrows, .ref o_rows, .int j3.2]))] H locs → lv_has ls 7 [(0, .ref o)] → W p l e (zR 1 20) s m args below meth c H locs 0 0 Q (F0 m 75 ls []) := by
    intro H locs ls hH hl
    refine lv_aload_n K.x K.b dX6_add_75 rfl (lv_at hl 0 rfl) ?_
    refine z_get K hH 1 rfl zin_6 rfl 2 (by decide) tw_1_72 (v := .int j3.2) rfl dX6_add_76 ?_
    have hr9 := Option.some.inj h
    obtain rfl := hr9
    rw [hQ]
    exact z_reti K hr hH [1, 0] (by decide) rfl rfl rfl dX6_add_79
  replace h := hj3
  refine lv_if_ne (tgt := 75) K.x K.b dX6_add_4 (by decide) (fun c4 => ?_) (fun c4 => ?_)
  · replace h := z_f c4 h
    obtain rfl := Option.some.inj h
    exact Kj3 _ _ _ hH (lv_sub hl [0] rfl)
  · replace h := z_t c4 h
    refine lv_aload_n K.x K.b dX6_add_7 rfl (lv_at hl 0 rfl) ?_
    refine z_get K hH 1 rfl zin_6 rfl 2 (by decide) tw_1_72 (v := .int v_size) rfl dX6_add_8 ?_
    refine lv_iconst (v := (5)) K.x K.b dX6_add_11 (by decide) ?_
    refine lv_imul K.x K.b dX6_add_12 ?_
    obtain ⟨x5, ex5, h⟩ := z_lt_e h
    refine z_nm ex5 ?_
    refine lv_istore (lv' := [(6, .int x5), (0, .ref o), (1, .int p1), (2, .int p2), (3, .int p3), (4, .int p4), (5, .int p5)]) K.x K.b dX6_add_13 hl (by decide) rfl (fun ls hl => ?_)
    refine lv_aload_n K.x K.b dX6_add_15 rfl (lv_at hl 1 rfl) ?_
    refine z_get K hH 1 rfl zin_6 rfl 1 (by decide) tw_1_71 (v := .ref o_rows) rfl dX6_add_16 ?_
    refine lv_iload K.x K.b dX6_add_19 (lv_at hl 0 rfl) ?_
    refine lv_iload_n K.x K.b dX6_add_21 rfl (lv_at hl 2 rfl) ?_
    obtain ⟨g6, h⟩ := z_gd_e h
    obtain ⟨a7, ea7, h⟩ := z_lt_e h
    refine z_iast K hH 0 (k := x5.toNatClampNeg) (ws' := [(o_rows, .inl (y 0, 30, .inl a7)), (o, .inr (5, [g_ofCrows, .ref o_rows, .int v_size]))]) rfl g6 rfl dX6_add_22 (by rw [ea7]; rfl) (fun H locs hH => ?_)
    refine lv_aload_n K.x K.b dX6_add_23 rfl (lv_at hl 1 rfl) ?_
    refine z_get K hH 1 rfl zin_6 rfl 1 (by decide) tw_1_71 (v := .ref o_rows) rfl dX6_add_24 ?_
    refine lv_iload K.x K.b dX6_add_27 (lv_at hl 0 rfl) ?_
    refine lv_iconst (v := (1)) K.x K.b dX6_add_29 (by decide) ?_
    refine lv_iadd K.x K.b dX6_add_30 ?_
    refine lv_iload_n K.x K.b dX6_add_31 rfl (lv_at hl 3 rfl) ?_
    obtain ⟨x8, ex8, h⟩ := z_lt_e h
    refine z_nm2 ex8 ?_
    obtain ⟨g9, h⟩ := z_gd_e h
    obtain ⟨a10, ea10, h⟩ := z_lt_e h
    refine z_iast K hH 0 (k := x8.toNatClampNeg) (ws' := [(o_rows, .inl (y 0, 30, .inl a10)), (o, .inr (5, [g_ofCrows, .ref o_rows, .int v_size]))]) rfl g9 rfl dX6_add_32 (by rw [ea10]; rfl) (fun H locs hH => ?_)
    refine lv_aload_n K.x K.b dX6_add_33 rfl (lv_at hl 1 rfl) ?_
    refine z_get K hH 1 rfl zin_6 rfl 1 (by decide) tw_1_71 (v := .ref o_rows) rfl dX6_add_34 ?_
    refine lv_iload K.x K.b dX6_add_37 (lv_at hl 0 rfl) ?_
    refine lv_iconst (v := (2)) K.x K.b dX6_add_39 (by decide) ?_
    refine lv_iadd K.x K.b dX6_add_40 ?_
    refine lv_iload_n K.x K.b dX6_add_41 rfl (lv_at hl 4 rfl) ?_
    obtain ⟨x11, ex11, h⟩ := z_lt_e h
    refine z_nm2 ex11 ?_
    obtain ⟨g12, h⟩ := z_gd_e h
    obtain ⟨a13, ea13, h⟩ := z_lt_e h
    refine z_iast K hH 0 (k := x11.toNatClampNeg) (ws' := [(o_rows, .inl (y 0, 30, .inl a13)), (o, .inr (5, [g_ofCrows, .ref o_rows, .int v_size]))]) rfl g12 rfl dX6_add_42 (by rw [ea13]; rfl) (fun H locs hH => ?_)
    refine lv_aload_n K.x K.b dX6_add_43 rfl (lv_at hl 1 rfl) ?_
    refine z_get K hH 1 rfl zin_6 rfl 1 (by decide) tw_1_71 (v := .ref o_rows) rfl dX6_add_44 ?_
    refine lv_iload K.x K.b dX6_add_47 (lv_at hl 0 rfl) ?_
    refine lv_iconst (v := (3)) K.x K.b dX6_add_49 (by decide) ?_
    refine lv_iadd K.x K.b dX6_add_50 ?_
    refine lv_iload K.x K.b dX6_add_51 (lv_at hl 5 rfl) ?_
    obtain ⟨x14, ex14, h⟩ := z_lt_e h
    refine z_nm2 ex14 ?_
    obtain ⟨g15, h⟩ := z_gd_e h
    obtain ⟨a16, ea16, h⟩ := z_lt_e h
    refine z_iast K hH 0 (k := x14.toNatClampNeg) (ws' := [(o_rows, .inl (y 0, 30, .inl a16)), (o, .inr (5, [g_ofCrows, .ref o_rows, .int v_size]))]) rfl g15 rfl dX6_add_53 (by rw [ea16]; rfl) (fun H locs hH => ?_)
    refine lv_aload_n K.x K.b dX6_add_54 rfl (lv_at hl 1 rfl) ?_
    refine z_get K hH 1 rfl zin_6 rfl 1 (by decide) tw_1_71 (v := .ref o_rows) rfl dX6_add_55 ?_
    refine lv_iload K.x K.b dX6_add_58 (lv_at hl 0 rfl) ?_
    refine lv_iconst (v := (4)) K.x K.b dX6_add_60 (by decide) ?_
    refine lv_iadd K.x K.b dX6_add_61 ?_
    refine lv_iload K.x K.b dX6_add_62 (lv_at hl 6 rfl) ?_
    obtain ⟨x17, ex17, h⟩ := z_lt_e h
    refine z_nm2 ex17 ?_
    obtain ⟨g18, h⟩ := z_gd_e h
    obtain ⟨a19, ea19, h⟩ := z_lt_e h
    refine z_iast K hH 0 (k := x17.toNatClampNeg) (ws' := [(o_rows, .inl (y 0, 30, .inl a19)), (o, .inr (5, [g_ofCrows, .ref o_rows, .int v_size]))]) rfl g18 rfl dX6_add_64 (by rw [ea19]; rfl) (fun H locs hH => ?_)
    refine lv_aload_n K.x K.b dX6_add_65 rfl (lv_at hl 1 rfl) ?_
    refine lv_dup K.x K.b dX6_add_66 rfl ?_
    refine z_get K hH 1 rfl zin_6 rfl 2 (by decide) tw_1_72 (v := .int v_size) rfl dX6_add_67 ?_
    refine lv_iconst (v := (1)) K.x K.b dX6_add_70 (by decide) ?_
    refine lv_iadd K.x K.b dX6_add_71 ?_
    obtain ⟨x20, ex20, h⟩ := z_lt_e h
    refine z_nm ex20 ?_
    refine z_put K hH 1 (ws' := [(o_rows, .inl (y 0, 30, .inl a19)), (o, .inr (5, [g_ofCrows, .ref o_rows, .int x20]))]) rfl zin_6 rfl tyX6 tyX6_ok nmX6 2 (by decide) tw_1_72 rfl rfl rfl (Nat.le_of_ble_eq_true rfl) dX6_add_72 rfl (fun H locs hH => ?_)
    obtain rfl := Option.some.inj h
    exact Kj3 _ _ _ hH (lv_sub hl [1] rfl)
def p_X6_drop (v_size : Int32) : Option (Int32 × Int32) :=
  some (v_size, (0 : Int32))
theorem hd_X6_drop : yX6_drop.cls = RX6 ∧ yX6_drop.cls ≠ "java/lang/invoke/MethodHandle" ∧ yX6_drop.cls ≠ "java/lang/invoke/VarHandle" ∧ (parseMethodDescriptor yX6_drop.desc).map (fun d => d.parameters.length) = some 0 := by decide +kernel
set_option maxHeartbeats 4000000 in
set_option maxRecDepth 100000 in
theorem c_X6_drop (l : Launch) (D : va_G) (y : Nat → ClassId) (o : Nat) (g_ofCrows g_rows : Value) (v_size : Int32) (r : Int32 × Int32) (h : p_X6_drop v_size = some r) : z_MI l yX6_drop cX6_drop 2 (some .int) 0 0 D y [.ref o] [(o, .inr (5, [g_ofCrows, g_rows, .int v_size]))] r.1 [(o, .inr (5, [g_ofCrows, g_rows, .int r.2]))] := by
  unfold p_X6_drop at h
  refine z_enI (by decide) (Nat.le_of_ble_eq_true rfl) ?_
  intro p e s m args below meth c A ls hr K hH hl
  obtain ⟨Q, hQ⟩ : ∃ Q, Q = MQ below (z_Qi D y A r.1 [(o, .inr (5, [g_ofCrows, g_rows, .int r.2]))]) args s 0 0 A := ⟨_, rfl⟩
  rw [← hQ]
  have hl : lv_has ls 2 [(0, .ref o)] := hl
  refine lv_aload_n K.x K.b dX6_drop_0 rfl (lv_at hl 0 rfl) ?_
  refine z_get K hH 0 rfl zin_6 rfl 2 (by decide) tw_1_72 (v := .int v_size) rfl dX6_drop_1 ?_
  refine lv_istore_n (lv' := [(1, .int v_size), (0, .ref o)]) K.x K.b dX6_drop_4 rfl hl (by decide) rfl (fun ls hl => ?_)
  refine lv_aload_n K.x K.b dX6_drop_5 rfl (lv_at hl 1 rfl) ?_
  refine lv_iconst (v := (0)) K.x K.b dX6_drop_6 (by decide) ?_
  refine z_put K hH 0 (ws' := [(o, .inr (5, [g_ofCrows, g_rows, .int (0 : Int32)]))]) rfl zin_6 rfl tyX6 tyX6_ok nmX6 2 (by decide) tw_1_72 rfl rfl rfl (Nat.le_of_ble_eq_true rfl) dX6_drop_7 rfl (fun H locs hH => ?_)
  refine lv_iload_n K.x K.b dX6_drop_10 rfl (lv_at hl 0 rfl) ?_
  have hr9 := Option.some.inj h
  obtain rfl := hr9
  rw [hQ]
  exact z_reti K hr hH [0] (by decide) rfl rfl rfl dX6_drop_11
noncomputable def p_X6_allow (v_ofCrows : Int32) (v_size : Int32) (f_rows : (Nat → Int32)) (p1 : Int32) (p2 : Int32) : Option (Int32) :=
  z_bd (z_lp (S := Int32) (E := (Unit) ⊕ (Int32)) (fun s1 =>
  if ((v_size * (5 : Int32)) ≤ s1) then
  (some (.inr (.inl ()))) else
  (z_gd (z_in s1 30) <|
  if ((f_rows s1.toNatClampNeg) = p1) then
  (z_lt ((s1 + (1 : Int32))) fun x9 =>
  z_gd (z_in x9 30) <|
  z_lt ((s1 + (2 : Int32))) fun x11 =>
  z_gd (z_in x11 30) <|
  z_lt ((s1 + (3 : Int32))) fun x13 =>
  z_gd (z_in x13 30) <|
  z_lt ((f_rows x13.toNatClampNeg)) fun x15 =>
  z_lt ((f_rows x11.toNatClampNeg)) fun x16 =>
  z_lt ((f_rows x9.toNatClampNeg)) fun x17 =>
  z_bd (p_X2_told v_ofCrows p2 x17 x16 x15) fun r18 =>
  z_lt ((s1 + (4 : Int32))) fun x20 =>
  z_gd (z_in x20 30) <|
  if (r18 = (f_rows x20.toNatClampNeg)) then
  (z_lt (s1 + (5 : Int32)) fun x23 =>
  some (.inl x23)) else
  (some (.inr (.inr (0 : Int32))))) else
  (z_lt (s1 + (5 : Int32)) fun x8 =>
  some (.inl x8)))) (0 : Int32)) fun e2 =>
  Sum.elim (fun v3 =>
  some (1 : Int32)) (fun r24 => some r24) e2
theorem hd_X6_allow : yX6_allow.cls = RX6 ∧ yX6_allow.cls ≠ "java/lang/invoke/MethodHandle" ∧ yX6_allow.cls ≠ "java/lang/invoke/VarHandle" ∧ (parseMethodDescriptor yX6_allow.desc).map (fun d => d.parameters.length) = some 2 := by decide +kernel
set_option maxHeartbeats 4000000 in
set_option maxRecDepth 100000 in
theorem c_X6_allow (l : Launch) (D : va_G) (y : Nat → ClassId) (o o_rows : Nat) (v_ofCrows : Int32) (v_size : Int32) (f_rows : (Nat → Int32)) (p1 : Int32) (p2 : Int32) (r : Int32) (h : p_X6_allow v_ofCrows v_size f_rows p1 p2 = some r) : z_MI l yX6_allow cX6_allow 4 (some .boolean) 2 50 D y [.ref o, .int p1, .int p2] [(o, .inr (5, [.int v_ofCrows, .ref o_rows, .int v_size])), (o_rows, .inl (y 0, 30, .inl f_rows))] r [(o, .inr (5, [.int v_ofCrows, .ref o_rows, .int v_size])), (o_rows, .inl (y 0, 30, .inl f_rows))] := by
  unfold p_X6_allow at h
  refine z_enI (by decide) (Nat.le_of_ble_eq_true rfl) ?_
  intro p e s m args below meth c A ls hr K hH hl
  obtain ⟨Q, hQ⟩ : ∃ Q, Q = MQ below (z_Qi D y A r [(o, .inr (5, [.int v_ofCrows, .ref o_rows, .int v_size])), (o_rows, .inl (y 0, 30, .inl f_rows))]) args s 0 0 A := ⟨_, rfl⟩
  rw [← hQ]
  have hl : lv_has ls 4 [(0, .ref o), (1, .int p1), (2, .int p2)] := hl
  refine lv_iconst (v := (0)) K.x K.b dX6_allow_0 (by decide) ?_
  refine lv_istore_n (lv' := [(3, .int (0 : Int32)), (0, .ref o), (1, .int p1), (2, .int p2)]) K.x K.b dX6_allow_1 rfl hl (by decide) rfl (fun ls hl => ?_)
  obtain ⟨e2, hlpe2, h⟩ := z_bd_e h
  have KRe2 : ∀ r24, e2 = .inr r24 → r24 = r := by
    intro r24 q9
    subst q9
    replace h := z_elr h
    have hr9 := Option.some.inj h
    exact hr9
  have KEe2 : ∀ v3, e2 = .inl v3 → ∀ (H : Heap) (locs : List Loc) (ls : Array Slot), z_H D A s.heap [(o, .inr (5, [.int v_ofCrows, .ref o_rows, .int v_size])), (o_rows, .inl (y 0, 30, .inl f_rows))] H locs → lv_has ls 4 [] → W p l e (zR 2 50) s m args below meth c H locs 0 0 Q (F0 m 73 ls []) := by
    intro v3 q9 H locs ls hH hl
    subst q9
    replace h := z_eli h
    refine lv_iconst (v := (1)) K.x K.b dX6_allow_73 (by decide) ?_
    have hr9 := Option.some.inj h
    obtain rfl := hr9
    rw [hQ]
    exact z_reti K hr hH [0, 1] (by decide) rfl rfl rfl dX6_allow_74
  refine z_lp_ind (P := fun (s1 : Int32) => ∀ (H : Heap) (locs : List Loc) (ls : Array Slot), z_H D A s.heap [(o, .inr (5, [.int v_ofCrows, .ref o_rows, .int v_size])), (o_rows, .inl (y 0, 30, .inl f_rows))] H locs → lv_has ls 4 [(0, .ref o), (1, .int p1), (2, .int p2), (3, .int s1)] → W p l e (zR 2 50) s m args below meth c H locs 0 0 Q (F0 m 2 ls [])) ?_ _ hlpe2 _ _ _ hH (lv_sub hl [1, 2, 3, 0] rfl)
  clear h hlpe2
  intro s1 x4 h ihe2 hee2 H locs ls hH hl
  refine lv_iload_n K.x K.b dX6_allow_2 rfl (lv_at hl 3 rfl) ?_
  refine lv_aload_n K.x K.b dX6_allow_3 rfl (lv_at hl 0 rfl) ?_
  refine z_get K hH 0 rfl zin_6 rfl 2 (by decide) tw_1_72 (v := .int v_size) rfl dX6_allow_4 ?_
  refine lv_iconst (v := (5)) K.x K.b dX6_allow_7 (by decide) ?_
  refine lv_imul K.x K.b dX6_allow_8 ?_
  refine lv_icmp_ge (tgt := 73) K.x K.b dX6_allow_9 (by decide) (fun c5 => ?_) (fun c5 => ?_)
  · replace h := z_t c5 h
    exact KEe2 _ (hee2 _ (Option.some.inj h).symm).symm _ _ _ hH (lv_sub hl [] rfl)
  · replace h := z_f c5 h
    refine lv_aload_n K.x K.b dX6_allow_12 rfl (lv_at hl 0 rfl) ?_
    refine z_get K hH 0 rfl zin_6 rfl 1 (by decide) tw_1_71 (v := .ref o_rows) rfl dX6_allow_13 ?_
    refine lv_iload_n K.x K.b dX6_allow_16 rfl (lv_at hl 3 rfl) ?_
    obtain ⟨g6, h⟩ := z_gd_e h
    refine z_iald K hH 1 (k := s1.toNatClampNeg) rfl g6 rfl dX6_allow_17 ?_
    refine lv_iload_n K.x K.b dX6_allow_18 rfl (lv_at hl 1 rfl) ?_
    refine lv_icmp_ne (tgt := 67) K.x K.b dX6_allow_19 (by decide) (fun c7 => ?_) (fun c7 => ?_)
    · replace h := z_f c7 h
      obtain ⟨x8, ex8, h⟩ := z_lt_e h
      refine lv_iinc (v := x8) (lv' := [(3, .int x8), (0, .ref o), (1, .int p1), (2, .int p2)]) K.x K.b dX6_allow_67 hl (k := 3) rfl (by rw [ex8]; rfl) (by decide) rfl (fun ls hl => ?_)
      refine lv_goto (tgt := 2) K.x K.b dX6_allow_70 (by decide) ?_
      exact ihe2 _ (Option.some.inj h).symm _ _ _ hH (lv_sub hl [1, 2, 3, 0] rfl)
    · replace h := z_t c7 h
      refine lv_aload_n K.x K.b dX6_allow_22 rfl (lv_at hl 0 rfl) ?_
      refine z_get K hH 0 rfl zin_6 rfl 0 (by decide) tw_1_70 (v := .int v_ofCrows) rfl dX6_allow_23 ?_
      refine lv_iload_n K.x K.b dX6_allow_26 rfl (lv_at hl 2 rfl) ?_
      refine lv_aload_n K.x K.b dX6_allow_27 rfl (lv_at hl 0 rfl) ?_
      refine z_get K hH 0 rfl zin_6 rfl 1 (by decide) tw_1_71 (v := .ref o_rows) rfl dX6_allow_28 ?_
      refine lv_iload_n K.x K.b dX6_allow_31 rfl (lv_at hl 3 rfl) ?_
      refine lv_iconst (v := (1)) K.x K.b dX6_allow_32 (by decide) ?_
      refine lv_iadd K.x K.b dX6_allow_33 ?_
      obtain ⟨x9, ex9, h⟩ := z_lt_e h
      refine z_nm ex9 ?_
      obtain ⟨g10, h⟩ := z_gd_e h
      refine z_iald K hH 1 (k := x9.toNatClampNeg) rfl g10 rfl dX6_allow_34 ?_
      refine lv_aload_n K.x K.b dX6_allow_35 rfl (lv_at hl 0 rfl) ?_
      refine z_get K hH 0 rfl zin_6 rfl 1 (by decide) tw_1_71 (v := .ref o_rows) rfl dX6_allow_36 ?_
      refine lv_iload_n K.x K.b dX6_allow_39 rfl (lv_at hl 3 rfl) ?_
      refine lv_iconst (v := (2)) K.x K.b dX6_allow_40 (by decide) ?_
      refine lv_iadd K.x K.b dX6_allow_41 ?_
      obtain ⟨x11, ex11, h⟩ := z_lt_e h
      refine z_nm ex11 ?_
      obtain ⟨g12, h⟩ := z_gd_e h
      refine z_iald K hH 1 (k := x11.toNatClampNeg) rfl g12 rfl dX6_allow_42 ?_
      refine lv_aload_n K.x K.b dX6_allow_43 rfl (lv_at hl 0 rfl) ?_
      refine z_get K hH 0 rfl zin_6 rfl 1 (by decide) tw_1_71 (v := .ref o_rows) rfl dX6_allow_44 ?_
      refine lv_iload_n K.x K.b dX6_allow_47 rfl (lv_at hl 3 rfl) ?_
      refine lv_iconst (v := (3)) K.x K.b dX6_allow_48 (by decide) ?_
      refine lv_iadd K.x K.b dX6_allow_49 ?_
      obtain ⟨x13, ex13, h⟩ := z_lt_e h
      refine z_nm ex13 ?_
      obtain ⟨g14, h⟩ := z_gd_e h
      refine z_iald K hH 1 (k := x13.toNatClampNeg) rfl g14 rfl dX6_allow_50 ?_
      obtain ⟨x15, ex15, h⟩ := z_lt_e h
      refine z_nm ex15 ?_
      obtain ⟨x16, ex16, h⟩ := z_lt_e h
      refine z_nm2 ex16 ?_
      obtain ⟨x17, ex17, h⟩ := z_lt_e h
      refine z_nm3 ex17 ?_
      obtain ⟨r18, hr19, h⟩ := z_bd_e h
      refine z_Si K hH hl.1 (c_X2_told l D y v_ofCrows p2 x17 x16 x15 r18 hr19) (z_cwS K 5 tw_3_204 tw_3_205 tw_1_14 tw_3_206 hd_X2_told ⟨by decide, by decide⟩) rfl (As := [.int v_ofCrows, .int p2, .int x17, .int x16, .int x15]) (rest := []) rfl (Nat.le_of_ble_eq_true rfl) ⟨Nat.zero_le _, Nat.zero_le _⟩ dX6_allow_51 (fun H locs hH => ?_)
      refine lv_aload_n K.x K.b dX6_allow_54 rfl (lv_at hl 0 rfl) ?_
      refine z_get K hH 0 rfl zin_6 rfl 1 (by decide) tw_1_71 (v := .ref o_rows) rfl dX6_allow_55 ?_
      refine lv_iload_n K.x K.b dX6_allow_58 rfl (lv_at hl 3 rfl) ?_
      refine lv_iconst (v := (4)) K.x K.b dX6_allow_59 (by decide) ?_
      refine lv_iadd K.x K.b dX6_allow_60 ?_
      obtain ⟨x20, ex20, h⟩ := z_lt_e h
      refine z_nm ex20 ?_
      obtain ⟨g21, h⟩ := z_gd_e h
      refine z_iald K hH 1 (k := x20.toNatClampNeg) rfl g21 rfl dX6_allow_61 ?_
      refine lv_icmp_eq (tgt := 67) K.x K.b dX6_allow_62 (by decide) (fun c22 => ?_) (fun c22 => ?_)
      · replace h := z_t c22 h
        obtain ⟨x23, ex23, h⟩ := z_lt_e h
        refine lv_iinc (v := x23) (lv' := [(3, .int x23), (0, .ref o), (1, .int p1), (2, .int p2)]) K.x K.b dX6_allow_67 hl (k := 3) rfl (by rw [ex23]; rfl) (by decide) rfl (fun ls hl => ?_)
        refine lv_goto (tgt := 2) K.x K.b dX6_allow_70 (by decide) ?_
        exact ihe2 _ (Option.some.inj h).symm _ _ _ hH (lv_sub hl [1, 2, 3, 0] rfl)
      · replace h := z_f c22 h
        refine lv_iconst (v := (0)) K.x K.b dX6_allow_65 (by decide) ?_
        have hr9 := KRe2 _ (hee2 _ (Option.some.inj h).symm).symm
        obtain rfl := hr9
        rw [hQ]
        exact z_reti K hr hH [0, 1] (by decide) rfl rfl rfl dX6_allow_66
noncomputable def p_X6_kindsLeft (v_ofCrows : Int32) (v_size : Int32) (f_rows : (Nat → Int32)) (p1 : Int32) : Option (Int32) :=
  z_bd (z_lp (S := Int32 × Int32) (E := Int32) (fun s1 =>
  if ((6 : Int32) ≤ s1.1) then
  (some (.inr s1.2)) else
  (z_bd (p_X6_allow v_ofCrows v_size f_rows p1 s1.1) fun r5 =>
  z_bd (α := Int32) (if (r5 = 0) then
  (some s1.2) else
  (z_lt ((s1.2 ||| ((1 : Int32) <<< (s1.1 &&& 31)))) fun x10 =>
  some x10)) fun j7 =>
  z_lt (s1.1 + (1 : Int32)) fun x8 =>
  some (.inl (x8, j7)))) ((0 : Int32), (0 : Int32))) fun e2 =>
  some e2
theorem hd_X6_kindsLeft : yX6_kindsLeft.cls = RX6 ∧ yX6_kindsLeft.cls ≠ "java/lang/invoke/MethodHandle" ∧ yX6_kindsLeft.cls ≠ "java/lang/invoke/VarHandle" ∧ (parseMethodDescriptor yX6_kindsLeft.desc).map (fun d => d.parameters.length) = some 1 := by decide +kernel
set_option maxHeartbeats 4000000 in
set_option maxRecDepth 100000 in
theorem c_X6_kindsLeft (l : Launch) (D : va_G) (y : Nat → ClassId) (o o_rows : Nat) (v_ofCrows : Int32) (v_size : Int32) (f_rows : (Nat → Int32)) (p1 : Int32) (r : Int32) (h : p_X6_kindsLeft v_ofCrows v_size f_rows p1 = some r) : z_MI l yX6_kindsLeft cX6_kindsLeft 4 (some .int) 3 73 D y [.ref o, .int p1] [(o, .inr (5, [.int v_ofCrows, .ref o_rows, .int v_size])), (o_rows, .inl (y 0, 30, .inl f_rows))] r [(o, .inr (5, [.int v_ofCrows, .ref o_rows, .int v_size])), (o_rows, .inl (y 0, 30, .inl f_rows))] := by
  unfold p_X6_kindsLeft at h
  refine z_enI (by decide) (Nat.le_of_ble_eq_true rfl) ?_
  intro p e s m args below meth c A ls hr K hH hl
  obtain ⟨Q, hQ⟩ : ∃ Q, Q = MQ below (z_Qi D y A r [(o, .inr (5, [.int v_ofCrows, .ref o_rows, .int v_size])), (o_rows, .inl (y 0, 30, .inl f_rows))]) args s 0 0 A := ⟨_, rfl⟩
  rw [← hQ]
  have hl : lv_has ls 4 [(0, .ref o), (1, .int p1)] := hl
  refine lv_iconst (v := (0)) K.x K.b dX6_kindsLeft_0 (by decide) ?_
  refine lv_istore_n (lv' := [(2, .int (0 : Int32)), (0, .ref o), (1, .int p1)]) K.x K.b dX6_kindsLeft_1 rfl hl (by decide) rfl (fun ls hl => ?_)
  refine lv_iconst (v := (0)) K.x K.b dX6_kindsLeft_2 (by decide) ?_
  refine lv_istore_n (lv' := [(3, .int (0 : Int32)), (2, .int (0 : Int32)), (0, .ref o), (1, .int p1)]) K.x K.b dX6_kindsLeft_3 rfl hl (by decide) rfl (fun ls hl => ?_)
  obtain ⟨e2, hlpe2, h⟩ := z_bd_e h
  have KEe2 : ∀ (H : Heap) (locs : List Loc) (ls : Array Slot), z_H D A s.heap [(o, .inr (5, [.int v_ofCrows, .ref o_rows, .int v_size])), (o_rows, .inl (y 0, 30, .inl f_rows))] H locs → lv_has ls 4 [(2, .int e2)] → W p l e (zR 3 73) s m args below meth c H locs 0 0 Q (F0 m 31 ls []) := by
    intro H locs ls hH hl
    refine lv_iload_n K.x K.b dX6_kindsLeft_31 rfl (lv_at hl 0 rfl) ?_
    have hr9 := Option.some.inj h
    obtain rfl := hr9
    rw [hQ]
    exact z_reti K hr hH [0, 1] (by decide) rfl rfl rfl dX6_kindsLeft_32
  refine z_lp_ind (P := fun (s1 : Int32 × Int32) => ∀ (H : Heap) (locs : List Loc) (ls : Array Slot), z_H D A s.heap [(o, .inr (5, [.int v_ofCrows, .ref o_rows, .int v_size])), (o_rows, .inl (y 0, 30, .inl f_rows))] H locs → lv_has ls 4 [(0, .ref o), (1, .int p1), (2, .int s1.2), (3, .int s1.1)] → W p l e (zR 3 73) s m args below meth c H locs 0 0 Q (F0 m 4 ls [])) ?_ _ hlpe2 _ _ _ hH (lv_sub hl [2, 3, 1, 0] rfl)
  clear h hlpe2
  intro s1 x3 h ihe2 hee2 H locs ls hH hl
  refine lv_iload_n K.x K.b dX6_kindsLeft_4 rfl (lv_at hl 3 rfl) ?_
  refine lv_bipush (v := (6)) K.x K.b dX6_kindsLeft_5 (by decide) ?_
  refine lv_icmp_ge (tgt := 31) K.x K.b dX6_kindsLeft_7 (by decide) (fun c4 => ?_) (fun c4 => ?_)
  · replace h := z_t c4 h
    obtain rfl := hee2 _ (Option.some.inj h).symm
    exact KEe2 _ _ _ hH (lv_sub hl [2] rfl)
  · replace h := z_f c4 h
    refine lv_aload_n K.x K.b dX6_kindsLeft_10 rfl (lv_at hl 0 rfl) ?_
    refine lv_iload_n K.x K.b dX6_kindsLeft_11 rfl (lv_at hl 1 rfl) ?_
    refine lv_iload_n K.x K.b dX6_kindsLeft_12 rfl (lv_at hl 3 rfl) ?_
    obtain ⟨r5, hr6, h⟩ := z_bd_e h
    refine z_Vi K hH hl.1 (c_X6_allow l D y o o_rows v_ofCrows v_size f_rows p1 s1.1 r5 hr6) (z_cwV K 2 tw_3_200 tw_3_202 tw_0_28 tw_1_4 tw_3_203 hd_X6_allow ⟨by decide, by decide⟩) [0, 1] [] rfl (wr := []) rfl rfl rfl (by decide) rfl rfl rfl (As := [.int p1, .int s1.1]) (rest := []) rfl (Nat.le_of_ble_eq_true rfl) ⟨Nat.zero_le _, Nat.zero_le _⟩ dX6_kindsLeft_13 (ws' := [(o, .inr (5, [.int v_ofCrows, .ref o_rows, .int v_size])), (o_rows, .inl (y 0, 30, .inl f_rows))]) rfl (fun H locs hH => ?_)
    obtain ⟨j7, hj7, h⟩ := z_bd_e h
    have Kj7 : ∀ (H : Heap) (locs : List Loc) (ls : Array Slot), z_H D A s.heap [(o, .inr (5, [.int v_ofCrows, .ref o_rows, .int v_size])), (o_rows, .inl (y 0, 30, .inl f_rows))] H locs → lv_has ls 4 [(0, .ref o), (1, .int p1), (2, .int j7), (3, .int s1.1)] → W p l e (zR 3 73) s m args below meth c H locs 0 0 Q (F0 m 25 ls []) := by
      intro H locs ls hH hl
      obtain ⟨x8, ex8, h⟩ := z_lt_e h
      refine lv_iinc (v := x8) (lv' := [(3, .int x8), (0, .ref o), (1, .int p1), (2, .int j7)]) K.x K.b dX6_kindsLeft_25 hl (k := 3) rfl (by rw [ex8]; rfl) (by decide) rfl (fun ls hl => ?_)
      refine lv_goto (tgt := 4) K.x K.b dX6_kindsLeft_28 (by decide) ?_
      exact ihe2 _ (Option.some.inj h).symm _ _ _ hH (lv_sub hl [1, 2, 3, 0] rfl)
    replace h := hj7
    refine lv_if_eq (tgt := 25) K.x K.b dX6_kindsLeft_16 (by decide) (fun c9 => ?_) (fun c9 => ?_)
    · replace h := z_t c9 h
      obtain rfl := Option.some.inj h
      exact Kj7 _ _ _ hH (lv_sub hl [0, 1, 2, 3] rfl)
    · replace h := z_f c9 h
      refine lv_iload_n K.x K.b dX6_kindsLeft_19 rfl (lv_at hl 2 rfl) ?_
      refine lv_iconst (v := (1)) K.x K.b dX6_kindsLeft_20 (by decide) ?_
      refine lv_iload_n K.x K.b dX6_kindsLeft_21 rfl (lv_at hl 3 rfl) ?_
      refine lv_ishl K.x K.b dX6_kindsLeft_22 ?_
      refine lv_ior K.x K.b dX6_kindsLeft_23 ?_
      obtain ⟨x10, ex10, h⟩ := z_lt_e h
      refine z_nm ex10 ?_
      refine lv_istore_n (lv' := [(2, .int x10), (0, .ref o), (1, .int p1), (3, .int s1.1)]) K.x K.b dX6_kindsLeft_24 rfl hl (by decide) rfl (fun ls hl => ?_)
      obtain rfl := Option.some.inj h
      exact Kj7 _ _ _ hH (lv_sub hl [1, 2, 0, 3] rfl)
