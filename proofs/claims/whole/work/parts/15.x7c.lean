noncomputable def p_X7_ask (v_bads : Int32) (v_land_crows : Int32) (f_land_now_tired : (Nat → Int32)) (v_land_marks_ofCrows : Int32) (v_land_marks_size : Int32) (f_land_marks_rows : (Nat → Int32)) (f_questions_values : (Nat → Int32)) (p1 : Int32) : Option (Int32 × Int32 × (Nat → Int32)) :=
  z_bd (p_X0_hasCrow v_land_crows p1) fun r1 =>
  if (r1 = 0) then
  (z_bd (p_X7_refuseBad v_bads) fun r10 =>
  some (r10.1, r10.2, f_questions_values)) else
  (z_bd (p_X6_kindsLeft v_land_marks_ofCrows v_land_marks_size f_land_marks_rows p1) fun r4 =>
  z_gd (z_in p1 3) <|
  z_lt ((f_land_now_tired p1.toNatClampNeg)) fun x7 =>
  z_bd (p_X3_best f_questions_values (1 : Int32) r4 (18 : Int32) x7) fun r8 =>
  some (r8.1, v_bads, r8.2))
theorem hd_X7_ask : yX7_ask.cls = RX7 ∧ yX7_ask.cls ≠ "java/lang/invoke/MethodHandle" ∧ yX7_ask.cls ≠ "java/lang/invoke/VarHandle" ∧ (parseMethodDescriptor yX7_ask.desc).map (fun d => d.parameters.length) = some 1 := by decide +kernel
set_option maxHeartbeats 4000000 in
set_option maxRecDepth 100000 in
theorem c_X7_ask (l : Launch) (D : va_G) (y : Nat → ClassId) (o o_land o_land_now o_land_now_tired o_land_marks o_land_marks_rows o_questions o_questions_values : Nat) (g_images g_kept g_text g_textLength g_above g_below g_nos g_fulls g_roads g_reader g_traveller g_land_placeKind g_land_placeX g_land_placeY g_land_places g_land_crowKind g_land_past g_land_pasts g_land_notes g_land_now_at g_land_now_deedRows g_land_now_deeds g_land_now_hour : Value) (v_bads : Int32) (v_land_crows : Int32) (f_land_now_tired : (Nat → Int32)) (v_land_marks_ofCrows : Int32) (v_land_marks_size : Int32) (f_land_marks_rows : (Nat → Int32)) (f_questions_values : (Nat → Int32)) (p1 : Int32) (r : Int32 × Int32 × (Nat → Int32)) (h : p_X7_ask v_bads v_land_crows f_land_now_tired v_land_marks_ofCrows v_land_marks_size f_land_marks_rows f_questions_values p1 = some r) : z_MI l yX7_ask cX7_ask 2 (some .int) 4 96 D y [.ref o, .int p1] [(o, .inr (6, [.ref o_land, g_images, g_kept, g_text, g_textLength, g_above, g_below, .int v_bads, g_nos, g_fulls, g_roads, g_reader, g_traveller, .ref o_questions])), (o_land, .inr (0, [g_land_placeKind, g_land_placeX, g_land_placeY, g_land_places, g_land_crowKind, .int v_land_crows, .ref o_land_now, g_land_past, g_land_pasts, g_land_notes, .ref o_land_marks])), (o_land_now, .inr (1, [g_land_now_at, .ref o_land_now_tired, g_land_now_deedRows, g_land_now_deeds, g_land_now_hour])), (o_land_now_tired, .inl (y 0, 3, .inl f_land_now_tired)), (o_land_marks, .inr (5, [.int v_land_marks_ofCrows, .ref o_land_marks_rows, .int v_land_marks_size])), (o_land_marks_rows, .inl (y 0, 30, .inl f_land_marks_rows)), (o_questions, .inr (2, [.ref o_questions_values])), (o_questions_values, .inl (y 0, 6, .inl f_questions_values))] r.1 [(o, .inr (6, [.ref o_land, g_images, g_kept, g_text, g_textLength, g_above, g_below, .int r.2.1, g_nos, g_fulls, g_roads, g_reader, g_traveller, .ref o_questions])), (o_land, .inr (0, [g_land_placeKind, g_land_placeX, g_land_placeY, g_land_places, g_land_crowKind, .int v_land_crows, .ref o_land_now, g_land_past, g_land_pasts, g_land_notes, .ref o_land_marks])), (o_land_now, .inr (1, [g_land_now_at, .ref o_land_now_tired, g_land_now_deedRows, g_land_now_deeds, g_land_now_hour])), (o_land_now_tired, .inl (y 0, 3, .inl f_land_now_tired)), (o_land_marks, .inr (5, [.int v_land_marks_ofCrows, .ref o_land_marks_rows, .int v_land_marks_size])), (o_land_marks_rows, .inl (y 0, 30, .inl f_land_marks_rows)), (o_questions, .inr (2, [.ref o_questions_values])), (o_questions_values, .inl (y 0, 6, .inl r.2.2))] := by
  unfold p_X7_ask at h
  refine z_enI (by decide) (Nat.le_of_ble_eq_true rfl) ?_
  intro p e s m args below meth c A ls hr K hH hl
  obtain ⟨Q, hQ⟩ : ∃ Q, Q = MQ below (z_Qi D y A r.1 [(o, .inr (6, [.ref o_land, g_images, g_kept, g_text, g_textLength, g_above, g_below, .int r.2.1, g_nos, g_fulls, g_roads, g_reader, g_traveller, .ref o_questions])), (o_land, .inr (0, [g_land_placeKind, g_land_placeX, g_land_placeY, g_land_places, g_land_crowKind, .int v_land_crows, .ref o_land_now, g_land_past, g_land_pasts, g_land_notes, .ref o_land_marks])), (o_land_now, .inr (1, [g_land_now_at, .ref o_land_now_tired, g_land_now_deedRows, g_land_now_deeds, g_land_now_hour])), (o_land_now_tired, .inl (y 0, 3, .inl f_land_now_tired)), (o_land_marks, .inr (5, [.int v_land_marks_ofCrows, .ref o_land_marks_rows, .int v_land_marks_size])), (o_land_marks_rows, .inl (y 0, 30, .inl f_land_marks_rows)), (o_questions, .inr (2, [.ref o_questions_values])), (o_questions_values, .inl (y 0, 6, .inl r.2.2))]) args s 0 0 A := ⟨_, rfl⟩
  rw [← hQ]
  have hl : lv_has ls 2 [(0, .ref o), (1, .int p1)] := hl
  refine lv_aload_n K.x K.b dX7_ask_0 rfl (lv_at hl 0 rfl) ?_
  refine z_get K hH 0 rfl zin_7 rfl 0 (by decide) tw_1_197 (v := .ref o_land) rfl dX7_ask_1 ?_
  refine lv_iload_n K.x K.b dX7_ask_4 rfl (lv_at hl 1 rfl) ?_
  obtain ⟨r1, hr2, h⟩ := z_bd_e h
  refine z_Vi K hH hl.1 (c_X0_hasCrow l D y o_land (g_land_placeKind) (g_land_placeX) (g_land_placeY) (g_land_places) (g_land_crowKind) (.ref o_land_now) (g_land_past) (g_land_pasts) (g_land_notes) (.ref o_land_marks) v_land_crows p1 r1 hr2) (z_cwV K 1 tw_2_223 tw_2_224 tw_2_225 tw_1_2 tw_2_226 hd_X0_hasCrow ⟨by decide, by decide⟩) [1] [0, 2, 3, 4, 5, 6, 7] rfl (wr := [(o, .inr (6, [.ref o_land, g_images, g_kept, g_text, g_textLength, g_above, g_below, .int v_bads, g_nos, g_fulls, g_roads, g_reader, g_traveller, .ref o_questions])), (o_land_now, .inr (1, [g_land_now_at, .ref o_land_now_tired, g_land_now_deedRows, g_land_now_deeds, g_land_now_hour])), (o_land_now_tired, .inl (y 0, 3, .inl f_land_now_tired)), (o_land_marks, .inr (5, [.int v_land_marks_ofCrows, .ref o_land_marks_rows, .int v_land_marks_size])), (o_land_marks_rows, .inl (y 0, 30, .inl f_land_marks_rows)), (o_questions, .inr (2, [.ref o_questions_values])), (o_questions_values, .inl (y 0, 6, .inl f_questions_values))]) rfl rfl rfl (by decide) rfl rfl rfl (As := [.int p1]) (rest := []) rfl (Nat.le_of_ble_eq_true rfl) ⟨Nat.zero_le _, Nat.zero_le _⟩ dX7_ask_5 (ws' := [(o, .inr (6, [.ref o_land, g_images, g_kept, g_text, g_textLength, g_above, g_below, .int v_bads, g_nos, g_fulls, g_roads, g_reader, g_traveller, .ref o_questions])), (o_land_now, .inr (1, [g_land_now_at, .ref o_land_now_tired, g_land_now_deedRows, g_land_now_deeds, g_land_now_hour])), (o_land_now_tired, .inl (y 0, 3, .inl f_land_now_tired)), (o_land_marks, .inr (5, [.int v_land_marks_ofCrows, .ref o_land_marks_rows, .int v_land_marks_size])), (o_land_marks_rows, .inl (y 0, 30, .inl f_land_marks_rows)), (o_questions, .inr (2, [.ref o_questions_values])), (o_questions_values, .inl (y 0, 6, .inl f_questions_values)), (o_land, .inr (0, [g_land_placeKind, g_land_placeX, g_land_placeY, g_land_places, g_land_crowKind, .int v_land_crows, .ref o_land_now, g_land_past, g_land_pasts, g_land_notes, .ref o_land_marks]))]) rfl (fun H locs hH => ?_)
  refine lv_if_ne (tgt := 16) K.x K.b dX7_ask_8 (by decide) (fun c3 => ?_) (fun c3 => ?_)
  · replace h := z_f c3 h
    refine lv_aload_n K.x K.b dX7_ask_16 rfl (lv_at hl 0 rfl) ?_
    refine z_get K hH 0 rfl zin_7 rfl 13 (by decide) tw_1_210 (v := .ref o_questions) rfl dX7_ask_17 ?_
    refine lv_iconst (v := (1)) K.x K.b dX7_ask_20 (by decide) ?_
    refine lv_aload_n K.x K.b dX7_ask_21 rfl (lv_at hl 0 rfl) ?_
    refine z_get K hH 0 rfl zin_7 rfl 0 (by decide) tw_1_197 (v := .ref o_land) rfl dX7_ask_22 ?_
    refine z_get K hH 7 rfl zin_0 rfl 10 (by decide) tw_1_102 (v := .ref o_land_marks) rfl dX7_ask_25 ?_
    refine lv_iload_n K.x K.b dX7_ask_28 rfl (lv_at hl 1 rfl) ?_
    obtain ⟨r4, hr5, h⟩ := z_bd_e h
    refine z_Vi K hH hl.1 (c_X6_kindsLeft l D y o_land_marks o_land_marks_rows v_land_marks_ofCrows v_land_marks_size f_land_marks_rows p1 r4 hr5) (z_cwV K 1 tw_3_196 tw_3_197 tw_3_198 tw_1_4 tw_3_199 hd_X6_kindsLeft ⟨by decide, by decide⟩) [3, 4] [0, 1, 2, 5, 6, 7] rfl (wr := [(o, .inr (6, [.ref o_land, g_images, g_kept, g_text, g_textLength, g_above, g_below, .int v_bads, g_nos, g_fulls, g_roads, g_reader, g_traveller, .ref o_questions])), (o_land_now, .inr (1, [g_land_now_at, .ref o_land_now_tired, g_land_now_deedRows, g_land_now_deeds, g_land_now_hour])), (o_land_now_tired, .inl (y 0, 3, .inl f_land_now_tired)), (o_questions, .inr (2, [.ref o_questions_values])), (o_questions_values, .inl (y 0, 6, .inl f_questions_values)), (o_land, .inr (0, [g_land_placeKind, g_land_placeX, g_land_placeY, g_land_places, g_land_crowKind, .int v_land_crows, .ref o_land_now, g_land_past, g_land_pasts, g_land_notes, .ref o_land_marks]))]) rfl rfl rfl (by decide) rfl rfl rfl (As := [.int p1]) (rest := [.int (1 : Int32), .ref o_questions]) rfl (Nat.le_of_ble_eq_true rfl) ⟨Nat.zero_le _, Nat.zero_le _⟩ dX7_ask_29 (ws' := [(o, .inr (6, [.ref o_land, g_images, g_kept, g_text, g_textLength, g_above, g_below, .int v_bads, g_nos, g_fulls, g_roads, g_reader, g_traveller, .ref o_questions])), (o_land_now, .inr (1, [g_land_now_at, .ref o_land_now_tired, g_land_now_deedRows, g_land_now_deeds, g_land_now_hour])), (o_land_now_tired, .inl (y 0, 3, .inl f_land_now_tired)), (o_questions, .inr (2, [.ref o_questions_values])), (o_questions_values, .inl (y 0, 6, .inl f_questions_values)), (o_land, .inr (0, [g_land_placeKind, g_land_placeX, g_land_placeY, g_land_places, g_land_crowKind, .int v_land_crows, .ref o_land_now, g_land_past, g_land_pasts, g_land_notes, .ref o_land_marks])), (o_land_marks, .inr (5, [.int v_land_marks_ofCrows, .ref o_land_marks_rows, .int v_land_marks_size])), (o_land_marks_rows, .inl (y 0, 30, .inl f_land_marks_rows))]) rfl (fun H locs hH => ?_)
    refine lv_bipush (v := (18)) K.x K.b dX7_ask_32 (by decide) ?_
    refine lv_aload_n K.x K.b dX7_ask_34 rfl (lv_at hl 0 rfl) ?_
    refine z_get K hH 0 rfl zin_7 rfl 0 (by decide) tw_1_197 (v := .ref o_land) rfl dX7_ask_35 ?_
    refine z_get K hH 5 rfl zin_0 rfl 6 (by decide) tw_1_95 (v := .ref o_land_now) rfl dX7_ask_38 ?_
    refine z_get K hH 1 rfl zin_1 rfl 1 (by decide) tw_1_42 (v := .ref o_land_now_tired) rfl dX7_ask_41 ?_
    refine lv_iload_n K.x K.b dX7_ask_44 rfl (lv_at hl 1 rfl) ?_
    obtain ⟨g6, h⟩ := z_gd_e h
    refine z_iald K hH 2 (k := p1.toNatClampNeg) rfl g6 rfl dX7_ask_45 ?_
    obtain ⟨x7, ex7, h⟩ := z_lt_e h
    refine z_nm ex7 ?_
    obtain ⟨r8, hr9, h⟩ := z_bd_e h
    refine z_Vi K hH hl.1 (c_X3_best l D y o_questions o_questions_values f_questions_values (1 : Int32) r4 (18 : Int32) x7 r8 hr9) (z_cwV K 4 tw_3_213 tw_3_214 tw_3_215 tw_1_7 tw_3_216 hd_X3_best ⟨by decide, by decide⟩) [3, 4] [0, 1, 2, 5, 6, 7] rfl (wr := [(o, .inr (6, [.ref o_land, g_images, g_kept, g_text, g_textLength, g_above, g_below, .int v_bads, g_nos, g_fulls, g_roads, g_reader, g_traveller, .ref o_questions])), (o_land_now, .inr (1, [g_land_now_at, .ref o_land_now_tired, g_land_now_deedRows, g_land_now_deeds, g_land_now_hour])), (o_land_now_tired, .inl (y 0, 3, .inl f_land_now_tired)), (o_land, .inr (0, [g_land_placeKind, g_land_placeX, g_land_placeY, g_land_places, g_land_crowKind, .int v_land_crows, .ref o_land_now, g_land_past, g_land_pasts, g_land_notes, .ref o_land_marks])), (o_land_marks, .inr (5, [.int v_land_marks_ofCrows, .ref o_land_marks_rows, .int v_land_marks_size])), (o_land_marks_rows, .inl (y 0, 30, .inl f_land_marks_rows))]) rfl rfl rfl (by decide) rfl rfl rfl (As := [.int (1 : Int32), .int r4, .int (18 : Int32), .int x7]) (rest := []) rfl (Nat.le_of_ble_eq_true rfl) ⟨Nat.zero_le _, Nat.zero_le _⟩ dX7_ask_46 (ws' := [(o, .inr (6, [.ref o_land, g_images, g_kept, g_text, g_textLength, g_above, g_below, .int v_bads, g_nos, g_fulls, g_roads, g_reader, g_traveller, .ref o_questions])), (o_land_now, .inr (1, [g_land_now_at, .ref o_land_now_tired, g_land_now_deedRows, g_land_now_deeds, g_land_now_hour])), (o_land_now_tired, .inl (y 0, 3, .inl f_land_now_tired)), (o_land, .inr (0, [g_land_placeKind, g_land_placeX, g_land_placeY, g_land_places, g_land_crowKind, .int v_land_crows, .ref o_land_now, g_land_past, g_land_pasts, g_land_notes, .ref o_land_marks])), (o_land_marks, .inr (5, [.int v_land_marks_ofCrows, .ref o_land_marks_rows, .int v_land_marks_size])), (o_land_marks_rows, .inl (y 0, 30, .inl f_land_marks_rows)), (o_questions, .inr (2, [.ref o_questions_values])), (o_questions_values, .inl (y 0, 6, .inl r8.2))]) rfl (fun H locs hH => ?_)
    have hr9 := Option.some.inj h
    obtain rfl := hr9
    rw [hQ]
    exact z_reti K hr hH [0, 3, 1, 2, 4, 5, 6, 7] (by decide) rfl rfl rfl dX7_ask_49
  · replace h := z_t c3 h
    refine lv_aload_n K.x K.b dX7_ask_11 rfl (lv_at hl 0 rfl) ?_
    obtain ⟨r10, hr11, h⟩ := z_bd_e h
    refine z_Vi K hH hl.1 (c_X7_refuseBad l D y o (.ref o_land) (g_images) (g_kept) (g_text) (g_textLength) (g_above) (g_below) (g_nos) (g_fulls) (g_roads) (g_reader) (g_traveller) (.ref o_questions) v_bads r10 hr11) (z_cwV K 0 tw_2_18 tw_2_20 tw_0_0 tw_1_1 tw_2_21 hd_X7_refuseBad ⟨by decide, by decide⟩) [0] [1, 2, 3, 4, 5, 6, 7] rfl (wr := [(o_land_now, .inr (1, [g_land_now_at, .ref o_land_now_tired, g_land_now_deedRows, g_land_now_deeds, g_land_now_hour])), (o_land_now_tired, .inl (y 0, 3, .inl f_land_now_tired)), (o_land_marks, .inr (5, [.int v_land_marks_ofCrows, .ref o_land_marks_rows, .int v_land_marks_size])), (o_land_marks_rows, .inl (y 0, 30, .inl f_land_marks_rows)), (o_questions, .inr (2, [.ref o_questions_values])), (o_questions_values, .inl (y 0, 6, .inl f_questions_values)), (o_land, .inr (0, [g_land_placeKind, g_land_placeX, g_land_placeY, g_land_places, g_land_crowKind, .int v_land_crows, .ref o_land_now, g_land_past, g_land_pasts, g_land_notes, .ref o_land_marks]))]) rfl rfl rfl (by decide) rfl rfl rfl (As := []) (rest := []) rfl (Nat.le_of_ble_eq_true rfl) ⟨Nat.zero_le _, Nat.zero_le _⟩ dX7_ask_12 (ws' := [(o_land_now, .inr (1, [g_land_now_at, .ref o_land_now_tired, g_land_now_deedRows, g_land_now_deeds, g_land_now_hour])), (o_land_now_tired, .inl (y 0, 3, .inl f_land_now_tired)), (o_land_marks, .inr (5, [.int v_land_marks_ofCrows, .ref o_land_marks_rows, .int v_land_marks_size])), (o_land_marks_rows, .inl (y 0, 30, .inl f_land_marks_rows)), (o_questions, .inr (2, [.ref o_questions_values])), (o_questions_values, .inl (y 0, 6, .inl f_questions_values)), (o_land, .inr (0, [g_land_placeKind, g_land_placeX, g_land_placeY, g_land_places, g_land_crowKind, .int v_land_crows, .ref o_land_now, g_land_past, g_land_pasts, g_land_notes, .ref o_land_marks])), (o, .inr (6, [.ref o_land, g_images, g_kept, g_text, g_textLength, g_above, g_below, .int r10.2, g_nos, g_fulls, g_roads, g_reader, g_traveller, .ref o_questions]))]) rfl (fun H locs hH => ?_)
    have hr9 := Option.some.inj h
    obtain rfl := hr9
    rw [hQ]
    exact z_reti K hr hH [7, 6, 0, 1, 2, 3, 4, 5] (by decide) rfl rfl rfl dX7_ask_15
noncomputable def p_X7_owner (v_bads : Int32) (v_land_places : Int32) (v_land_crows : Int32) (f_land_placeKind : (Nat → Int32)) (f_land_placeX : (Nat → Int32)) (f_land_placeY : (Nat → Int32)) (f_land_crowKind : (Nat → Int32)) (v_land_now_hour : Int32) (f_land_now_at : (Nat → Int32)) (f_land_now_tired : (Nat → Int32)) (v_roads_foundCount : Int32) (v_roads_places : Int32) (f_roads_far : (Nat → Int32)) (f_roads_found : (Nat → Int32)) (p1 : Int32) (p2 : Int32) : Option (Int32 × Int32 × Int32 × Int32 × (Nat → Int32) × (Nat → Int32)) :=
  z_bd (p_X0_hasCrow v_land_crows p1) fun r1 =>
  if (r1 = 0) then
  (z_bd (p_X7_refuseList v_bads) fun r4 =>
  some (r4.1, r4.2, v_roads_foundCount, v_roads_places, f_roads_far, f_roads_found)) else
  (if ((-1 : Int32) ≤ p2) then
  (z_bd (p_X5_measure v_roads_foundCount v_roads_places f_roads_far v_land_places f_land_placeKind f_land_placeX f_land_placeY f_land_crowKind v_land_now_hour f_land_now_tired p1) fun r7 =>
  z_gd (z_in p1 3) <|
  z_lt ((f_land_now_at p1.toNatClampNeg)) fun x10 =>
  z_bd (p_X5_findRestingPairs r7.1 r7.2.1 r7.2.2 f_roads_found x10) fun r11 =>
  z_bd (p_X5_answer r11.2.1 r11.2.2 p2 r11.1) fun r13 =>
  some (r13, v_bads, r11.2.1, r7.2.1, r7.2.2, r11.2.2)) else
  (z_bd (p_X7_refuseList v_bads) fun r15 =>
  some (r15.1, r15.2, v_roads_foundCount, v_roads_places, f_roads_far, f_roads_found)))
theorem hd_X7_owner : yX7_owner.cls = RX7 ∧ yX7_owner.cls ≠ "java/lang/invoke/MethodHandle" ∧ yX7_owner.cls ≠ "java/lang/invoke/VarHandle" ∧ (parseMethodDescriptor yX7_owner.desc).map (fun d => d.parameters.length) = some 2 := by decide +kernel
set_option maxHeartbeats 4000000 in
set_option maxRecDepth 100000 in
theorem c_X7_owner (l : Launch) (D : va_G) (y : Nat → ClassId) (o o_land o_land_placeKind o_land_placeX o_land_placeY o_land_crowKind o_land_now o_land_now_at o_land_now_tired o_roads o_roads_far o_roads_found : Nat) (g_images g_kept g_text g_textLength g_above g_below g_nos g_fulls g_reader g_traveller g_questions g_land_past g_land_pasts g_land_notes g_land_marks g_land_now_deedRows g_land_now_deeds g_roads_toEnd g_roads_toHome : Value) (v_bads : Int32) (v_land_places : Int32) (v_land_crows : Int32) (f_land_placeKind : (Nat → Int32)) (f_land_placeX : (Nat → Int32)) (f_land_placeY : (Nat → Int32)) (f_land_crowKind : (Nat → Int32)) (v_land_now_hour : Int32) (f_land_now_at : (Nat → Int32)) (f_land_now_tired : (Nat → Int32)) (v_roads_foundCount : Int32) (v_roads_places : Int32) (f_roads_far : (Nat → Int32)) (f_roads_found : (Nat → Int32)) (p1 : Int32) (p2 : Int32) (r : Int32 × Int32 × Int32 × Int32 × (Nat → Int32) × (Nat → Int32)) (h : p_X7_owner v_bads v_land_places v_land_crows f_land_placeKind f_land_placeX f_land_placeY f_land_crowKind v_land_now_hour f_land_now_at f_land_now_tired v_roads_foundCount v_roads_places f_roads_far f_roads_found p1 p2 = some r) : z_MI l yX7_owner cX7_owner 3 (some .int) 5 135 D y [.ref o, .int p1, .int p2] [(o, .inr (6, [.ref o_land, g_images, g_kept, g_text, g_textLength, g_above, g_below, .int v_bads, g_nos, g_fulls, .ref o_roads, g_reader, g_traveller, g_questions])), (o_land, .inr (0, [.ref o_land_placeKind, .ref o_land_placeX, .ref o_land_placeY, .int v_land_places, .ref o_land_crowKind, .int v_land_crows, .ref o_land_now, g_land_past, g_land_pasts, g_land_notes, g_land_marks])), (o_land_placeKind, .inl (y 0, 7, .inl f_land_placeKind)), (o_land_placeX, .inl (y 0, 7, .inl f_land_placeX)), (o_land_placeY, .inl (y 0, 7, .inl f_land_placeY)), (o_land_crowKind, .inl (y 0, 3, .inl f_land_crowKind)), (o_land_now, .inr (1, [.ref o_land_now_at, .ref o_land_now_tired, g_land_now_deedRows, g_land_now_deeds, .int v_land_now_hour])), (o_land_now_at, .inl (y 0, 3, .inl f_land_now_at)), (o_land_now_tired, .inl (y 0, 3, .inl f_land_now_tired)), (o_roads, .inr (4, [.ref o_roads_far, g_roads_toEnd, g_roads_toHome, .ref o_roads_found, .int v_roads_foundCount, .int v_roads_places])), (o_roads_far, .inl (y 0, 49, .inl f_roads_far)), (o_roads_found, .inl (y 0, 49, .inl f_roads_found))] r.1 [(o, .inr (6, [.ref o_land, g_images, g_kept, g_text, g_textLength, g_above, g_below, .int r.2.1, g_nos, g_fulls, .ref o_roads, g_reader, g_traveller, g_questions])), (o_land, .inr (0, [.ref o_land_placeKind, .ref o_land_placeX, .ref o_land_placeY, .int v_land_places, .ref o_land_crowKind, .int v_land_crows, .ref o_land_now, g_land_past, g_land_pasts, g_land_notes, g_land_marks])), (o_land_placeKind, .inl (y 0, 7, .inl f_land_placeKind)), (o_land_placeX, .inl (y 0, 7, .inl f_land_placeX)), (o_land_placeY, .inl (y 0, 7, .inl f_land_placeY)), (o_land_crowKind, .inl (y 0, 3, .inl f_land_crowKind)), (o_land_now, .inr (1, [.ref o_land_now_at, .ref o_land_now_tired, g_land_now_deedRows, g_land_now_deeds, .int v_land_now_hour])), (o_land_now_at, .inl (y 0, 3, .inl f_land_now_at)), (o_land_now_tired, .inl (y 0, 3, .inl f_land_now_tired)), (o_roads, .inr (4, [.ref o_roads_far, g_roads_toEnd, g_roads_toHome, .ref o_roads_found, .int r.2.2.1, .int r.2.2.2.1])), (o_roads_far, .inl (y 0, 49, .inl r.2.2.2.2.1)), (o_roads_found, .inl (y 0, 49, .inl r.2.2.2.2.2))] := by
  unfold p_X7_owner at h
  refine z_enI (by decide) (Nat.le_of_ble_eq_true rfl) ?_
  intro p e s m args below meth c A ls hr K hH hl
  obtain ⟨Q, hQ⟩ : ∃ Q, Q = MQ below (z_Qi D y A r.1 [(o, .inr (6, [.ref o_land, g_images, g_kept, g_text, g_textLength, g_above, g_below, .int r.2.1, g_nos, g_fulls, .ref o_roads, g_reader, g_traveller, g_questions])), (o_land, .inr (0, [.ref o_land_placeKind, .ref o_land_placeX, .ref o_land_placeY, .int v_land_places, .ref o_land_crowKind, .int v_land_crows, .ref o_land_now, g_land_past, g_land_pasts, g_land_notes, g_land_marks])), (o_land_placeKind, .inl (y 0, 7, .inl f_land_placeKind)), (o_land_placeX, .inl (y 0, 7, .inl f_land_placeX)), (o_land_placeY, .inl (y 0, 7, .inl f_land_placeY)), (o_land_crowKind, .inl (y 0, 3, .inl f_land_crowKind)), (o_land_now, .inr (1, [.ref o_land_now_at, .ref o_land_now_tired, g_land_now_deedRows, g_land_now_deeds, .int v_land_now_hour])), (o_land_now_at, .inl (y 0, 3, .inl f_land_now_at)), (o_land_now_tired, .inl (y 0, 3, .inl f_land_now_tired)), (o_roads, .inr (4, [.ref o_roads_far, g_roads_toEnd, g_roads_toHome, .ref o_roads_found, .int r.2.2.1, .int r.2.2.2.1])), (o_roads_far, .inl (y 0, 49, .inl r.2.2.2.2.1)), (o_roads_found, .inl (y 0, 49, .inl r.2.2.2.2.2))]) args s 0 0 A := ⟨_, rfl⟩
  rw [← hQ]
  have hl : lv_has ls 3 [(0, .ref o), (1, .int p1), (2, .int p2)] := hl
  refine lv_aload_n K.x K.b dX7_owner_0 rfl (lv_at hl 0 rfl) ?_
  refine z_get K hH 0 rfl zin_7 rfl 0 (by decide) tw_1_197 (v := .ref o_land) rfl dX7_owner_1 ?_
  refine lv_iload_n K.x K.b dX7_owner_4 rfl (lv_at hl 1 rfl) ?_
  obtain ⟨r1, hr2, h⟩ := z_bd_e h
  refine z_Vi K hH hl.1 (c_X0_hasCrow l D y o_land (.ref o_land_placeKind) (.ref o_land_placeX) (.ref o_land_placeY) (.int v_land_places) (.ref o_land_crowKind) (.ref o_land_now) (g_land_past) (g_land_pasts) (g_land_notes) (g_land_marks) v_land_crows p1 r1 hr2) (z_cwV K 1 tw_2_223 tw_2_224 tw_2_225 tw_1_2 tw_2_226 hd_X0_hasCrow ⟨by decide, by decide⟩) [1] [0, 2, 3, 4, 5, 6, 7, 8, 9, 10, 11] rfl (wr := [(o, .inr (6, [.ref o_land, g_images, g_kept, g_text, g_textLength, g_above, g_below, .int v_bads, g_nos, g_fulls, .ref o_roads, g_reader, g_traveller, g_questions])), (o_land_placeKind, .inl (y 0, 7, .inl f_land_placeKind)), (o_land_placeX, .inl (y 0, 7, .inl f_land_placeX)), (o_land_placeY, .inl (y 0, 7, .inl f_land_placeY)), (o_land_crowKind, .inl (y 0, 3, .inl f_land_crowKind)), (o_land_now, .inr (1, [.ref o_land_now_at, .ref o_land_now_tired, g_land_now_deedRows, g_land_now_deeds, .int v_land_now_hour])), (o_land_now_at, .inl (y 0, 3, .inl f_land_now_at)), (o_land_now_tired, .inl (y 0, 3, .inl f_land_now_tired)), (o_roads, .inr (4, [.ref o_roads_far, g_roads_toEnd, g_roads_toHome, .ref o_roads_found, .int v_roads_foundCount, .int v_roads_places])), (o_roads_far, .inl (y 0, 49, .inl f_roads_far)), (o_roads_found, .inl (y 0, 49, .inl f_roads_found))]) rfl rfl rfl (by decide) rfl rfl rfl (As := [.int p1]) (rest := []) rfl (Nat.le_of_ble_eq_true rfl) ⟨Nat.zero_le _, Nat.zero_le _⟩ dX7_owner_5 (ws' := [(o, .inr (6, [.ref o_land, g_images, g_kept, g_text, g_textLength, g_above, g_below, .int v_bads, g_nos, g_fulls, .ref o_roads, g_reader, g_traveller, g_questions])), (o_land_placeKind, .inl (y 0, 7, .inl f_land_placeKind)), (o_land_placeX, .inl (y 0, 7, .inl f_land_placeX)), (o_land_placeY, .inl (y 0, 7, .inl f_land_placeY)), (o_land_crowKind, .inl (y 0, 3, .inl f_land_crowKind)), (o_land_now, .inr (1, [.ref o_land_now_at, .ref o_land_now_tired, g_land_now_deedRows, g_land_now_deeds, .int v_land_now_hour])), (o_land_now_at, .inl (y 0, 3, .inl f_land_now_at)), (o_land_now_tired, .inl (y 0, 3, .inl f_land_now_tired)), (o_roads, .inr (4, [.ref o_roads_far, g_roads_toEnd, g_roads_toHome, .ref o_roads_found, .int v_roads_foundCount, .int v_roads_places])), (o_roads_far, .inl (y 0, 49, .inl f_roads_far)), (o_roads_found, .inl (y 0, 49, .inl f_roads_found)), (o_land, .inr (0, [.ref o_land_placeKind, .ref o_land_placeX, .ref o_land_placeY, .int v_land_places, .ref o_land_crowKind, .int v_land_crows, .ref o_land_now, g_land_past, g_land_pasts, g_land_notes, g_land_marks]))]) rfl (fun H locs hH => ?_)
  refine lv_if_eq (tgt := 16) K.x K.b dX7_owner_8 (by decide) (fun c3 => ?_) (fun c3 => ?_)
  · replace h := z_t c3 h
    refine lv_aload_n K.x K.b dX7_owner_16 rfl (lv_at hl 0 rfl) ?_
    obtain ⟨r4, hr5, h⟩ := z_bd_e h
    refine z_Vi K hH hl.1 (c_X7_refuseList l D y o (.ref o_land) (g_images) (g_kept) (g_text) (g_textLength) (g_above) (g_below) (g_nos) (g_fulls) (.ref o_roads) (g_reader) (g_traveller) (g_questions) v_bads r4 hr5) (z_cwV K 0 tw_3_58 tw_3_60 tw_0_17 tw_1_1 tw_3_61 hd_X7_refuseList ⟨by decide, by decide⟩) [0] [1, 2, 3, 4, 5, 6, 7, 8, 9, 10, 11] rfl (wr := [(o_land_placeKind, .inl (y 0, 7, .inl f_land_placeKind)), (o_land_placeX, .inl (y 0, 7, .inl f_land_placeX)), (o_land_placeY, .inl (y 0, 7, .inl f_land_placeY)), (o_land_crowKind, .inl (y 0, 3, .inl f_land_crowKind)), (o_land_now, .inr (1, [.ref o_land_now_at, .ref o_land_now_tired, g_land_now_deedRows, g_land_now_deeds, .int v_land_now_hour])), (o_land_now_at, .inl (y 0, 3, .inl f_land_now_at)), (o_land_now_tired, .inl (y 0, 3, .inl f_land_now_tired)), (o_roads, .inr (4, [.ref o_roads_far, g_roads_toEnd, g_roads_toHome, .ref o_roads_found, .int v_roads_foundCount, .int v_roads_places])), (o_roads_far, .inl (y 0, 49, .inl f_roads_far)), (o_roads_found, .inl (y 0, 49, .inl f_roads_found)), (o_land, .inr (0, [.ref o_land_placeKind, .ref o_land_placeX, .ref o_land_placeY, .int v_land_places, .ref o_land_crowKind, .int v_land_crows, .ref o_land_now, g_land_past, g_land_pasts, g_land_notes, g_land_marks]))]) rfl rfl rfl (by decide) rfl rfl rfl (As := []) (rest := []) rfl (Nat.le_of_ble_eq_true rfl) ⟨Nat.zero_le _, Nat.zero_le _⟩ dX7_owner_17 (ws' := [(o_land_placeKind, .inl (y 0, 7, .inl f_land_placeKind)), (o_land_placeX, .inl (y 0, 7, .inl f_land_placeX)), (o_land_placeY, .inl (y 0, 7, .inl f_land_placeY)), (o_land_crowKind, .inl (y 0, 3, .inl f_land_crowKind)), (o_land_now, .inr (1, [.ref o_land_now_at, .ref o_land_now_tired, g_land_now_deedRows, g_land_now_deeds, .int v_land_now_hour])), (o_land_now_at, .inl (y 0, 3, .inl f_land_now_at)), (o_land_now_tired, .inl (y 0, 3, .inl f_land_now_tired)), (o_roads, .inr (4, [.ref o_roads_far, g_roads_toEnd, g_roads_toHome, .ref o_roads_found, .int v_roads_foundCount, .int v_roads_places])), (o_roads_far, .inl (y 0, 49, .inl f_roads_far)), (o_roads_found, .inl (y 0, 49, .inl f_roads_found)), (o_land, .inr (0, [.ref o_land_placeKind, .ref o_land_placeX, .ref o_land_placeY, .int v_land_places, .ref o_land_crowKind, .int v_land_crows, .ref o_land_now, g_land_past, g_land_pasts, g_land_notes, g_land_marks])), (o, .inr (6, [.ref o_land, g_images, g_kept, g_text, g_textLength, g_above, g_below, .int r4.2, g_nos, g_fulls, .ref o_roads, g_reader, g_traveller, g_questions]))]) rfl (fun H locs hH => ?_)
    have hr9 := Option.some.inj h
    obtain rfl := hr9
    rw [hQ]
    exact z_reti K hr hH [11, 10, 0, 1, 2, 3, 4, 5, 6, 7, 8, 9] (by decide) rfl rfl rfl dX7_owner_20
  · replace h := z_f c3 h
    refine lv_iload_n K.x K.b dX7_owner_11 rfl (lv_at hl 2 rfl) ?_
    refine lv_iconst (v := (-1)) K.x K.b dX7_owner_12 (by decide) ?_
    refine lv_icmp_ge (tgt := 21) K.x K.b dX7_owner_13 (by decide) (fun c6 => ?_) (fun c6 => ?_)
    · replace h := z_t c6 h
      refine lv_aload_n K.x K.b dX7_owner_21 rfl (lv_at hl 0 rfl) ?_
      refine z_get K hH 0 rfl zin_7 rfl 10 (by decide) tw_1_207 (v := .ref o_roads) rfl dX7_owner_22 ?_
      refine lv_aload_n K.x K.b dX7_owner_25 rfl (lv_at hl 0 rfl) ?_
      refine z_get K hH 0 rfl zin_7 rfl 0 (by decide) tw_1_197 (v := .ref o_land) rfl dX7_owner_26 ?_
      refine lv_iload_n K.x K.b dX7_owner_29 rfl (lv_at hl 1 rfl) ?_
      obtain ⟨r7, hr8, h⟩ := z_bd_e h
      refine z_Vv K hH hl.1 (c_X5_measure l D y o_roads o_roads_far o_land o_land_placeKind o_land_placeX o_land_placeY o_land_crowKind o_land_now o_land_now_tired (g_roads_toEnd) (g_roads_toHome) (.ref o_roads_found) (.int v_land_crows) (g_land_past) (g_land_pasts) (g_land_notes) (g_land_marks) (.ref o_land_now_at) (g_land_now_deedRows) (g_land_now_deeds) v_roads_foundCount v_roads_places f_roads_far v_land_places f_land_placeKind f_land_placeX f_land_placeY f_land_crowKind v_land_now_hour f_land_now_tired p1 r7 hr8) (z_cwV K 2 tw_3_62 tw_3_63 tw_3_64 tw_1_5 tw_3_65 hd_X5_measure ⟨by decide, by decide⟩) [8, 9, 11, 1, 2, 3, 4, 5, 7] [0, 6, 10] rfl (wr := [(o, .inr (6, [.ref o_land, g_images, g_kept, g_text, g_textLength, g_above, g_below, .int v_bads, g_nos, g_fulls, .ref o_roads, g_reader, g_traveller, g_questions])), (o_land_now_at, .inl (y 0, 3, .inl f_land_now_at)), (o_roads_found, .inl (y 0, 49, .inl f_roads_found))]) rfl rfl rfl (by decide) rfl rfl rfl (As := [.ref o_land, .int p1]) (rest := []) rfl (Nat.le_of_ble_eq_true rfl) ⟨Nat.zero_le _, Nat.zero_le _⟩ dX7_owner_30 (ws' := [(o, .inr (6, [.ref o_land, g_images, g_kept, g_text, g_textLength, g_above, g_below, .int v_bads, g_nos, g_fulls, .ref o_roads, g_reader, g_traveller, g_questions])), (o_land_now_at, .inl (y 0, 3, .inl f_land_now_at)), (o_roads_found, .inl (y 0, 49, .inl f_roads_found)), (o_roads, .inr (4, [.ref o_roads_far, g_roads_toEnd, g_roads_toHome, .ref o_roads_found, .int r7.1, .int r7.2.1])), (o_roads_far, .inl (y 0, 49, .inl r7.2.2)), (o_land, .inr (0, [.ref o_land_placeKind, .ref o_land_placeX, .ref o_land_placeY, .int v_land_places, .ref o_land_crowKind, .int v_land_crows, .ref o_land_now, g_land_past, g_land_pasts, g_land_notes, g_land_marks])), (o_land_placeKind, .inl (y 0, 7, .inl f_land_placeKind)), (o_land_placeX, .inl (y 0, 7, .inl f_land_placeX)), (o_land_placeY, .inl (y 0, 7, .inl f_land_placeY)), (o_land_crowKind, .inl (y 0, 3, .inl f_land_crowKind)), (o_land_now, .inr (1, [.ref o_land_now_at, .ref o_land_now_tired, g_land_now_deedRows, g_land_now_deeds, .int v_land_now_hour])), (o_land_now_tired, .inl (y 0, 3, .inl f_land_now_tired))]) rfl (fun H locs hH => ?_)
      refine lv_aload_n K.x K.b dX7_owner_33 rfl (lv_at hl 0 rfl) ?_
      refine z_get K hH 0 rfl zin_7 rfl 10 (by decide) tw_1_207 (v := .ref o_roads) rfl dX7_owner_34 ?_
      refine lv_iload_n K.x K.b dX7_owner_37 rfl (lv_at hl 2 rfl) ?_
      refine lv_aload_n K.x K.b dX7_owner_38 rfl (lv_at hl 0 rfl) ?_
      refine z_get K hH 0 rfl zin_7 rfl 10 (by decide) tw_1_207 (v := .ref o_roads) rfl dX7_owner_39 ?_
      refine lv_aload_n K.x K.b dX7_owner_42 rfl (lv_at hl 0 rfl) ?_
      refine z_get K hH 0 rfl zin_7 rfl 0 (by decide) tw_1_197 (v := .ref o_land) rfl dX7_owner_43 ?_
      refine z_get K hH 5 rfl zin_0 rfl 6 (by decide) tw_1_95 (v := .ref o_land_now) rfl dX7_owner_46 ?_
      refine z_get K hH 10 rfl zin_1 rfl 0 (by decide) tw_1_39 (v := .ref o_land_now_at) rfl dX7_owner_49 ?_
      refine lv_iload_n K.x K.b dX7_owner_52 rfl (lv_at hl 1 rfl) ?_
      obtain ⟨g9, h⟩ := z_gd_e h
      refine z_iald K hH 1 (k := p1.toNatClampNeg) rfl g9 rfl dX7_owner_53 ?_
      obtain ⟨x10, ex10, h⟩ := z_lt_e h
      refine z_nm ex10 ?_
      obtain ⟨r11, hr12, h⟩ := z_bd_e h
      refine z_Vi K hH hl.1 (c_X5_findRestingPairs l D y o_roads o_roads_far o_roads_found (g_roads_toEnd) (g_roads_toHome) r7.1 r7.2.1 r7.2.2 f_roads_found x10 r11 hr12) (z_cwV K 1 tw_3_237 tw_3_238 tw_3_239 tw_1_5 tw_4_0 hd_X5_findRestingPairs ⟨by decide, by decide⟩) [3, 4, 2] [0, 1, 5, 6, 7, 8, 9, 10, 11] rfl (wr := [(o, .inr (6, [.ref o_land, g_images, g_kept, g_text, g_textLength, g_above, g_below, .int v_bads, g_nos, g_fulls, .ref o_roads, g_reader, g_traveller, g_questions])), (o_land_now_at, .inl (y 0, 3, .inl f_land_now_at)), (o_land, .inr (0, [.ref o_land_placeKind, .ref o_land_placeX, .ref o_land_placeY, .int v_land_places, .ref o_land_crowKind, .int v_land_crows, .ref o_land_now, g_land_past, g_land_pasts, g_land_notes, g_land_marks])), (o_land_placeKind, .inl (y 0, 7, .inl f_land_placeKind)), (o_land_placeX, .inl (y 0, 7, .inl f_land_placeX)), (o_land_placeY, .inl (y 0, 7, .inl f_land_placeY)), (o_land_crowKind, .inl (y 0, 3, .inl f_land_crowKind)), (o_land_now, .inr (1, [.ref o_land_now_at, .ref o_land_now_tired, g_land_now_deedRows, g_land_now_deeds, .int v_land_now_hour])), (o_land_now_tired, .inl (y 0, 3, .inl f_land_now_tired))]) rfl rfl rfl (by decide) rfl rfl rfl (As := [.int x10]) (rest := [.int p2, .ref o_roads]) rfl (Nat.le_of_ble_eq_true rfl) ⟨Nat.zero_le _, Nat.zero_le _⟩ dX7_owner_54 (ws' := [(o, .inr (6, [.ref o_land, g_images, g_kept, g_text, g_textLength, g_above, g_below, .int v_bads, g_nos, g_fulls, .ref o_roads, g_reader, g_traveller, g_questions])), (o_land_now_at, .inl (y 0, 3, .inl f_land_now_at)), (o_land, .inr (0, [.ref o_land_placeKind, .ref o_land_placeX, .ref o_land_placeY, .int v_land_places, .ref o_land_crowKind, .int v_land_crows, .ref o_land_now, g_land_past, g_land_pasts, g_land_notes, g_land_marks])), (o_land_placeKind, .inl (y 0, 7, .inl f_land_placeKind)), (o_land_placeX, .inl (y 0, 7, .inl f_land_placeX)), (o_land_placeY, .inl (y 0, 7, .inl f_land_placeY)), (o_land_crowKind, .inl (y 0, 3, .inl f_land_crowKind)), (o_land_now, .inr (1, [.ref o_land_now_at, .ref o_land_now_tired, g_land_now_deedRows, g_land_now_deeds, .int v_land_now_hour])), (o_land_now_tired, .inl (y 0, 3, .inl f_land_now_tired)), (o_roads, .inr (4, [.ref o_roads_far, g_roads_toEnd, g_roads_toHome, .ref o_roads_found, .int r11.2.1, .int r7.2.1])), (o_roads_far, .inl (y 0, 49, .inl r7.2.2)), (o_roads_found, .inl (y 0, 49, .inl r11.2.2))]) rfl (fun H locs hH => ?_)
      obtain ⟨r13, hr14, h⟩ := z_bd_e h
      refine z_Vi K hH hl.1 (c_X5_answer l D y o_roads o_roads_found (.ref o_roads_far) (g_roads_toEnd) (g_roads_toHome) (.int r7.2.1) r11.2.1 r11.2.2 p2 r11.1 r13 hr14) (z_cwV K 2 tw_3_89 tw_3_90 tw_3_91 tw_1_5 tw_3_92 hd_X5_answer ⟨by decide, by decide⟩) [9, 11] [0, 1, 2, 3, 4, 5, 6, 7, 8, 10] rfl (wr := [(o, .inr (6, [.ref o_land, g_images, g_kept, g_text, g_textLength, g_above, g_below, .int v_bads, g_nos, g_fulls, .ref o_roads, g_reader, g_traveller, g_questions])), (o_land_now_at, .inl (y 0, 3, .inl f_land_now_at)), (o_land, .inr (0, [.ref o_land_placeKind, .ref o_land_placeX, .ref o_land_placeY, .int v_land_places, .ref o_land_crowKind, .int v_land_crows, .ref o_land_now, g_land_past, g_land_pasts, g_land_notes, g_land_marks])), (o_land_placeKind, .inl (y 0, 7, .inl f_land_placeKind)), (o_land_placeX, .inl (y 0, 7, .inl f_land_placeX)), (o_land_placeY, .inl (y 0, 7, .inl f_land_placeY)), (o_land_crowKind, .inl (y 0, 3, .inl f_land_crowKind)), (o_land_now, .inr (1, [.ref o_land_now_at, .ref o_land_now_tired, g_land_now_deedRows, g_land_now_deeds, .int v_land_now_hour])), (o_land_now_tired, .inl (y 0, 3, .inl f_land_now_tired)), (o_roads_far, .inl (y 0, 49, .inl r7.2.2))]) rfl rfl rfl (by decide) rfl rfl rfl (As := [.int p2, .int r11.1]) (rest := []) rfl (Nat.le_of_ble_eq_true rfl) ⟨Nat.zero_le _, Nat.zero_le _⟩ dX7_owner_57 (ws' := [(o, .inr (6, [.ref o_land, g_images, g_kept, g_text, g_textLength, g_above, g_below, .int v_bads, g_nos, g_fulls, .ref o_roads, g_reader, g_traveller, g_questions])), (o_land_now_at, .inl (y 0, 3, .inl f_land_now_at)), (o_land, .inr (0, [.ref o_land_placeKind, .ref o_land_placeX, .ref o_land_placeY, .int v_land_places, .ref o_land_crowKind, .int v_land_crows, .ref o_land_now, g_land_past, g_land_pasts, g_land_notes, g_land_marks])), (o_land_placeKind, .inl (y 0, 7, .inl f_land_placeKind)), (o_land_placeX, .inl (y 0, 7, .inl f_land_placeX)), (o_land_placeY, .inl (y 0, 7, .inl f_land_placeY)), (o_land_crowKind, .inl (y 0, 3, .inl f_land_crowKind)), (o_land_now, .inr (1, [.ref o_land_now_at, .ref o_land_now_tired, g_land_now_deedRows, g_land_now_deeds, .int v_land_now_hour])), (o_land_now_tired, .inl (y 0, 3, .inl f_land_now_tired)), (o_roads_far, .inl (y 0, 49, .inl r7.2.2)), (o_roads, .inr (4, [.ref o_roads_far, g_roads_toEnd, g_roads_toHome, .ref o_roads_found, .int r11.2.1, .int r7.2.1])), (o_roads_found, .inl (y 0, 49, .inl r11.2.2))]) rfl (fun H locs hH => ?_)
      have hr9 := Option.some.inj h
      obtain rfl := hr9
      rw [hQ]
      exact z_reti K hr hH [0, 2, 3, 4, 5, 6, 7, 1, 8, 10, 9, 11] (by decide) rfl rfl rfl dX7_owner_60
    · replace h := z_f c6 h
      refine lv_aload_n K.x K.b dX7_owner_16 rfl (lv_at hl 0 rfl) ?_
      obtain ⟨r15, hr16, h⟩ := z_bd_e h
      refine z_Vi K hH hl.1 (c_X7_refuseList l D y o (.ref o_land) (g_images) (g_kept) (g_text) (g_textLength) (g_above) (g_below) (g_nos) (g_fulls) (.ref o_roads) (g_reader) (g_traveller) (g_questions) v_bads r15 hr16) (z_cwV K 0 tw_3_58 tw_3_60 tw_0_17 tw_1_1 tw_3_61 hd_X7_refuseList ⟨by decide, by decide⟩) [0] [1, 2, 3, 4, 5, 6, 7, 8, 9, 10, 11] rfl (wr := [(o_land_placeKind, .inl (y 0, 7, .inl f_land_placeKind)), (o_land_placeX, .inl (y 0, 7, .inl f_land_placeX)), (o_land_placeY, .inl (y 0, 7, .inl f_land_placeY)), (o_land_crowKind, .inl (y 0, 3, .inl f_land_crowKind)), (o_land_now, .inr (1, [.ref o_land_now_at, .ref o_land_now_tired, g_land_now_deedRows, g_land_now_deeds, .int v_land_now_hour])), (o_land_now_at, .inl (y 0, 3, .inl f_land_now_at)), (o_land_now_tired, .inl (y 0, 3, .inl f_land_now_tired)), (o_roads, .inr (4, [.ref o_roads_far, g_roads_toEnd, g_roads_toHome, .ref o_roads_found, .int v_roads_foundCount, .int v_roads_places])), (o_roads_far, .inl (y 0, 49, .inl f_roads_far)), (o_roads_found, .inl (y 0, 49, .inl f_roads_found)), (o_land, .inr (0, [.ref o_land_placeKind, .ref o_land_placeX, .ref o_land_placeY, .int v_land_places, .ref o_land_crowKind, .int v_land_crows, .ref o_land_now, g_land_past, g_land_pasts, g_land_notes, g_land_marks]))]) rfl rfl rfl (by decide) rfl rfl rfl (As := []) (rest := []) rfl (Nat.le_of_ble_eq_true rfl) ⟨Nat.zero_le _, Nat.zero_le _⟩ dX7_owner_17 (ws' := [(o_land_placeKind, .inl (y 0, 7, .inl f_land_placeKind)), (o_land_placeX, .inl (y 0, 7, .inl f_land_placeX)), (o_land_placeY, .inl (y 0, 7, .inl f_land_placeY)), (o_land_crowKind, .inl (y 0, 3, .inl f_land_crowKind)), (o_land_now, .inr (1, [.ref o_land_now_at, .ref o_land_now_tired, g_land_now_deedRows, g_land_now_deeds, .int v_land_now_hour])), (o_land_now_at, .inl (y 0, 3, .inl f_land_now_at)), (o_land_now_tired, .inl (y 0, 3, .inl f_land_now_tired)), (o_roads, .inr (4, [.ref o_roads_far, g_roads_toEnd, g_roads_toHome, .ref o_roads_found, .int v_roads_foundCount, .int v_roads_places])), (o_roads_far, .inl (y 0, 49, .inl f_roads_far)), (o_roads_found, .inl (y 0, 49, .inl f_roads_found)), (o_land, .inr (0, [.ref o_land_placeKind, .ref o_land_placeX, .ref o_land_placeY, .int v_land_places, .ref o_land_crowKind, .int v_land_crows, .ref o_land_now, g_land_past, g_land_pasts, g_land_notes, g_land_marks])), (o, .inr (6, [.ref o_land, g_images, g_kept, g_text, g_textLength, g_above, g_below, .int r15.2, g_nos, g_fulls, .ref o_roads, g_reader, g_traveller, g_questions]))]) rfl (fun H locs hH => ?_)
      have hr9 := Option.some.inj h
      obtain rfl := hr9
      rw [hQ]
      exact z_reti K hr hH [11, 10, 0, 1, 2, 3, 4, 5, 6, 7, 8, 9] (by decide) rfl rfl rfl dX7_owner_20
noncomputable def p_X7_keepFraction (v_above : Int32) (v_below : Int32) (p1 : Int32) (p2 : Int32) : Option (Int32 × Int32) :=
  z_bd (z_lp (S := Int32 × Int32 × Int32) (E := Int32) (fun s1 =>
  if ((64 : Int32) ≤ s1.1) then
  (some (.inr s1.2.2)) else
  (if (s1.2.1 = 0) then
  (some (.inr s1.2.2)) else
  (z_gd (z_nz s1.2.1) <|
  z_lt ((s1.2.2 - s1.2.2 / s1.2.1 * s1.2.1)) fun x13 =>
  z_lt (s1.1 + (1 : Int32)) fun x14 =>
  some (.inl (x14, x13, s1.2.1))))) ((0 : Int32), p2, p1)) fun e2 =>
  z_bd (α := Int32) (if (e2 = 0) then
  (some (1 : Int32)) else
  (some e2)) fun j3 =>
  z_gd (z_nz j3) <|
  z_lt ((p1 / j3)) fun x5 =>
  z_gd (z_nz j3) <|
  z_lt ((p2 / j3)) fun x7 =>
  some (x5, x7)
theorem hd_X7_keepFraction : yX7_keepFraction.cls = RX7 ∧ yX7_keepFraction.cls ≠ "java/lang/invoke/MethodHandle" ∧ yX7_keepFraction.cls ≠ "java/lang/invoke/VarHandle" ∧ (parseMethodDescriptor yX7_keepFraction.desc).map (fun d => d.parameters.length) = some 2 := by decide +kernel
set_option maxHeartbeats 4000000 in
set_option maxRecDepth 100000 in
theorem c_X7_keepFraction (l : Launch) (D : va_G) (y : Nat → ClassId) (o : Nat) (g_land g_images g_kept g_text g_textLength g_bads g_nos g_fulls g_roads g_reader g_traveller g_questions : Value) (v_above : Int32) (v_below : Int32) (p1 : Int32) (p2 : Int32) (r : Int32 × Int32) (h : p_X7_keepFraction v_above v_below p1 p2 = some r) : z_MV l yX7_keepFraction cX7_keepFraction 7 none 0 0 D y [.ref o, .int p1, .int p2] [(o, .inr (6, [g_land, g_images, g_kept, g_text, g_textLength, .int v_above, .int v_below, g_bads, g_nos, g_fulls, g_roads, g_reader, g_traveller, g_questions]))] [(o, .inr (6, [g_land, g_images, g_kept, g_text, g_textLength, .int r.1, .int r.2, g_bads, g_nos, g_fulls, g_roads, g_reader, g_traveller, g_questions]))] := by
  unfold p_X7_keepFraction at h
  refine z_enV (by decide) (Nat.le_of_ble_eq_true rfl) ?_
  intro p e s m args below meth c A ls hr K hH hl
  obtain ⟨Q, hQ⟩ : ∃ Q, Q = MQ below (z_Qv D y A [(o, .inr (6, [g_land, g_images, g_kept, g_text, g_textLength, .int r.1, .int r.2, g_bads, g_nos, g_fulls, g_roads, g_reader, g_traveller, g_questions]))]) args s 0 0 A := ⟨_, rfl⟩
  rw [← hQ]
  have hl : lv_has ls 7 [(0, .ref o), (1, .int p1), (2, .int p2)] := hl
  refine lv_iload_n K.x K.b dX7_keepFraction_0 rfl (lv_at hl 1 rfl) ?_
  refine lv_istore_n (lv' := [(3, .int p1), (0, .ref o), (1, .int p1), (2, .int p2)]) K.x K.b dX7_keepFraction_1 rfl hl (by decide) rfl (fun ls hl => ?_)
  refine lv_iload_n K.x K.b dX7_keepFraction_2 rfl (lv_at hl 3 rfl) ?_
  refine lv_istore (lv' := [(4, .int p2), (3, .int p1), (0, .ref o), (1, .int p1), (2, .int p2)]) K.x K.b dX7_keepFraction_3 hl (by decide) rfl (fun ls hl => ?_)
  refine lv_iconst (v := (0)) K.x K.b dX7_keepFraction_5 (by decide) ?_
  refine lv_istore (lv' := [(5, .int (0 : Int32)), (4, .int p2), (3, .int p1), (0, .ref o), (1, .int p1), (2, .int p2)]) K.x K.b dX7_keepFraction_6 hl (by decide) rfl (fun ls hl => ?_)
  obtain ⟨e2, hlpe2, h⟩ := z_bd_e h
  have KEe2 : ∀ (H : Heap) (locs : List Loc) (ls : Array Slot), z_H D A s.heap [(o, .inr (6, [g_land, g_images, g_kept, g_text, g_textLength, .int v_above, .int v_below, g_bads, g_nos, g_fulls, g_roads, g_reader, g_traveller, g_questions]))] H locs → lv_has ls 7 [(0, .ref o), (1, .int p1), (2, .int p2), (3, .int e2)] → W p l e (zR 0 0) s m args below meth c H locs 0 0 Q (F0 m 39 ls []) := by
    intro H locs ls hH hl
    refine lv_iload_n K.x K.b dX7_keepFraction_39 rfl (lv_at hl 3 rfl) ?_
    obtain ⟨j3, hj3, h⟩ := z_bd_e h
    have Kj3 : ∀ (H : Heap) (locs : List Loc) (ls : Array Slot), z_H D A s.heap [(o, .inr (6, [g_land, g_images, g_kept, g_text, g_textLength, .int v_above, .int v_below, g_bads, g_nos, g_fulls, g_roads, g_reader, g_traveller, g_questions]))] H locs → lv_has ls 7 [(0, .ref o), (1, .int p1), (2, .int p2)] → W p l e (zR 0 0) s m args below meth c H locs 0 0 Q (F0 m 48 ls [.int j3]) := by
      intro H locs ls hH hl
      refine lv_istore (lv' := [(5, .int j3), (0, .ref o), (1, .int p1), (2, .int p2)]) K.x K.b dX7_keepFraction_48 hl (by decide) rfl (fun ls hl => ?_)
      refine lv_aload_n K.x K.b dX7_keepFraction_50 rfl (lv_at hl 1 rfl) ?_
      refine lv_iload_n K.x K.b dX7_keepFraction_51 rfl (lv_at hl 2 rfl) ?_
      refine lv_iload K.x K.b dX7_keepFraction_52 (lv_at hl 0 rfl) ?_
      obtain ⟨g4, h⟩ := z_gd_e h
      refine lv_idiv K.x K.b dX7_keepFraction_54 (z_nz_e g4) ?_
      obtain ⟨x5, ex5, h⟩ := z_lt_e h
      refine z_nm ex5 ?_
      refine z_put K hH 0 (ws' := [(o, .inr (6, [g_land, g_images, g_kept, g_text, g_textLength, .int x5, .int v_below, g_bads, g_nos, g_fulls, g_roads, g_reader, g_traveller, g_questions]))]) rfl zin_7 rfl tyX7 tyX7_ok nmX7 5 (by decide) tw_1_202 rfl rfl rfl (Nat.le_of_ble_eq_true rfl) dX7_keepFraction_55 rfl (fun H locs hH => ?_)
      refine lv_aload_n K.x K.b dX7_keepFraction_58 rfl (lv_at hl 1 rfl) ?_
      refine lv_iload_n K.x K.b dX7_keepFraction_59 rfl (lv_at hl 3 rfl) ?_
      refine lv_iload K.x K.b dX7_keepFraction_60 (lv_at hl 0 rfl) ?_
      obtain ⟨g6, h⟩ := z_gd_e h
      refine lv_idiv K.x K.b dX7_keepFraction_62 (z_nz_e g6) ?_
      obtain ⟨x7, ex7, h⟩ := z_lt_e h
      refine z_nm ex7 ?_
      refine z_put K hH 0 (ws' := [(o, .inr (6, [g_land, g_images, g_kept, g_text, g_textLength, .int x5, .int x7, g_bads, g_nos, g_fulls, g_roads, g_reader, g_traveller, g_questions]))]) rfl zin_7 rfl tyX7 tyX7_ok nmX7 6 (by decide) tw_1_203 rfl rfl rfl (Nat.le_of_ble_eq_true rfl) dX7_keepFraction_63 rfl (fun H locs hH => ?_)
      have hr9 := Option.some.inj h
      obtain rfl := hr9
      rw [hQ]
      exact z_retv K hr hH [0] (by decide) rfl dX7_keepFraction_66
    replace h := hj3
    refine lv_if_ne (tgt := 47) K.x K.b dX7_keepFraction_40 (by decide) (fun c8 => ?_) (fun c8 => ?_)
    · replace h := z_f c8 h
      refine lv_iload_n K.x K.b dX7_keepFraction_47 rfl (lv_at hl 3 rfl) ?_
      obtain rfl := Option.some.inj h
      exact Kj3 _ _ _ hH (lv_sub hl [0, 1, 2] rfl)
    · replace h := z_t c8 h
      refine lv_iconst (v := (1)) K.x K.b dX7_keepFraction_43 (by decide) ?_
      refine lv_goto (tgt := 48) K.x K.b dX7_keepFraction_44 (by decide) ?_
      obtain rfl := Option.some.inj h
      exact Kj3 _ _ _ hH (lv_sub hl [0, 1, 2] rfl)
  refine z_lp_ind (P := fun (s1 : Int32 × Int32 × Int32) => ∀ (H : Heap) (locs : List Loc) (ls : Array Slot), z_H D A s.heap [(o, .inr (6, [g_land, g_images, g_kept, g_text, g_textLength, .int v_above, .int v_below, g_bads, g_nos, g_fulls, g_roads, g_reader, g_traveller, g_questions]))] H locs → lv_has ls 7 [(0, .ref o), (1, .int p1), (2, .int p2), (3, .int s1.2.2), (4, .int s1.2.1), (5, .int s1.1)] → W p l e (zR 0 0) s m args below meth c H locs 0 0 Q (F0 m 8 ls [])) ?_ _ hlpe2 _ _ _ hH (lv_sub hl [3, 4, 5, 2, 1, 0] rfl)
  clear h hlpe2
  intro s1 x9 h ihe2 hee2 H locs ls hH hl
  refine lv_iload K.x K.b dX7_keepFraction_8 (lv_at hl 5 rfl) ?_
  refine lv_bipush (v := (64)) K.x K.b dX7_keepFraction_10 (by decide) ?_
  refine lv_icmp_ge (tgt := 39) K.x K.b dX7_keepFraction_12 (by decide) (fun c10 => ?_) (fun c10 => ?_)
  · replace h := z_t c10 h
    obtain rfl := hee2 _ (Option.some.inj h).symm
    exact KEe2 _ _ _ hH (lv_sub hl [0, 1, 2, 3] rfl)
  · replace h := z_f c10 h
    refine lv_iload K.x K.b dX7_keepFraction_15 (lv_at hl 4 rfl) ?_
    refine lv_if_eq (tgt := 39) K.x K.b dX7_keepFraction_17 (by decide) (fun c11 => ?_) (fun c11 => ?_)
    · replace h := z_t c11 h
      obtain rfl := hee2 _ (Option.some.inj h).symm
      exact KEe2 _ _ _ hH (lv_sub hl [0, 1, 2, 3] rfl)
    · replace h := z_f c11 h
      refine lv_iload_n K.x K.b dX7_keepFraction_20 rfl (lv_at hl 3 rfl) ?_
      refine lv_iload K.x K.b dX7_keepFraction_21 (lv_at hl 4 rfl) ?_
      obtain ⟨g12, h⟩ := z_gd_e h
      refine lv_irem K.x K.b dX7_keepFraction_23 (z_nz_e g12) ?_
      obtain ⟨x13, ex13, h⟩ := z_lt_e h
      refine z_nm ex13 ?_
      refine lv_istore (lv' := [(6, .int x13), (0, .ref o), (1, .int p1), (2, .int p2), (3, .int s1.2.2), (4, .int s1.2.1), (5, .int s1.1)]) K.x K.b dX7_keepFraction_24 hl (by decide) rfl (fun ls hl => ?_)
      refine lv_iload K.x K.b dX7_keepFraction_26 (lv_at hl 5 rfl) ?_
      refine lv_istore_n (lv' := [(3, .int s1.2.1), (6, .int x13), (0, .ref o), (1, .int p1), (2, .int p2), (4, .int s1.2.1), (5, .int s1.1)]) K.x K.b dX7_keepFraction_28 rfl hl (by decide) rfl (fun ls hl => ?_)
      refine lv_iload K.x K.b dX7_keepFraction_29 (lv_at hl 1 rfl) ?_
      refine lv_istore (lv' := [(4, .int x13), (3, .int s1.2.1), (6, .int x13), (0, .ref o), (1, .int p1), (2, .int p2), (5, .int s1.1)]) K.x K.b dX7_keepFraction_31 hl (by decide) rfl (fun ls hl => ?_)
      obtain ⟨x14, ex14, h⟩ := z_lt_e h
      refine lv_iinc (v := x14) (lv' := [(5, .int x14), (4, .int x13), (3, .int s1.2.1), (6, .int x13), (0, .ref o), (1, .int p1), (2, .int p2)]) K.x K.b dX7_keepFraction_33 hl (k := 6) rfl (by rw [ex14]; rfl) (by decide) rfl (fun ls hl => ?_)
      refine lv_goto (tgt := 8) K.x K.b dX7_keepFraction_36 (by decide) ?_
      exact ihe2 _ (Option.some.inj h).symm _ _ _ hH (lv_sub hl [4, 5, 6, 2, 1, 0] rfl)
noncomputable def p_X7_wind (v_above : Int32) (v_below : Int32) (v_bads : Int32) (v_land_places : Int32) (v_land_crows : Int32) (f_land_placeKind : (Nat → Int32)) (f_land_placeX : (Nat → Int32)) (f_land_placeY : (Nat → Int32)) (f_land_crowKind : (Nat → Int32)) (v_land_now_hour : Int32) (f_land_now_tired : (Nat → Int32)) (p1 : Int32) (p2 : Int32) (p3 : Int32) (p4 : Int32) : Option (Int32 × Int32 × Int32 × Int32) :=
  z_bd (p_X7_isTrip v_land_places v_land_crows p1 p2 p3) fun r1 =>
  if (r1 = 0) then
  (z_bd (p_X7_refuseBad v_bads) fun r4 =>
  some (r4.1, v_above, v_below, r4.2)) else
  (z_bd (p_X7_within p4 (0 : Int32) (10 : Int32)) fun r6 =>
  if (r6 = 0) then
  (z_bd (p_X7_refuseBad v_bads) fun r15 =>
  some (r15.1, v_above, v_below, r15.2)) else
  (z_bd (p_X0_farNow f_land_placeKind f_land_placeX f_land_placeY f_land_crowKind v_land_now_hour f_land_now_tired p1 p2 p3) fun r9 =>
  z_lt ((r9 + (r9 / (2 : Int32)))) fun x11 =>
  z_lt (((p4 * x11) + (((10 : Int32) - p4) * r9))) fun x12 =>
  z_bd (p_X7_keepFraction v_above v_below x12 (10 : Int32)) fun r13 =>
  some ((1 : Int32), r13.1, r13.2, v_bads)))
theorem hd_X7_wind : yX7_wind.cls = RX7 ∧ yX7_wind.cls ≠ "java/lang/invoke/MethodHandle" ∧ yX7_wind.cls ≠ "java/lang/invoke/VarHandle" ∧ (parseMethodDescriptor yX7_wind.desc).map (fun d => d.parameters.length) = some 4 := by decide +kernel
set_option maxHeartbeats 4000000 in
set_option maxRecDepth 100000 in
theorem c_X7_wind (l : Launch) (D : va_G) (y : Nat → ClassId) (o o_land o_land_placeKind o_land_placeX o_land_placeY o_land_crowKind o_land_now o_land_now_tired : Nat) (g_images g_kept g_text g_textLength g_nos g_fulls g_roads g_reader g_traveller g_questions g_land_past g_land_pasts g_land_notes g_land_marks g_land_now_at g_land_now_deedRows g_land_now_deeds : Value) (v_above : Int32) (v_below : Int32) (v_bads : Int32) (v_land_places : Int32) (v_land_crows : Int32) (f_land_placeKind : (Nat → Int32)) (f_land_placeX : (Nat → Int32)) (f_land_placeY : (Nat → Int32)) (f_land_crowKind : (Nat → Int32)) (v_land_now_hour : Int32) (f_land_now_tired : (Nat → Int32)) (p1 : Int32) (p2 : Int32) (p3 : Int32) (p4 : Int32) (r : Int32 × Int32 × Int32 × Int32) (h : p_X7_wind v_above v_below v_bads v_land_places v_land_crows f_land_placeKind f_land_placeX f_land_placeY f_land_crowKind v_land_now_hour f_land_now_tired p1 p2 p3 p4 = some r) : z_MI l yX7_wind cX7_wind 7 (some .int) 4 111 D y [.ref o, .int p1, .int p2, .int p3, .int p4] [(o, .inr (6, [.ref o_land, g_images, g_kept, g_text, g_textLength, .int v_above, .int v_below, .int v_bads, g_nos, g_fulls, g_roads, g_reader, g_traveller, g_questions])), (o_land, .inr (0, [.ref o_land_placeKind, .ref o_land_placeX, .ref o_land_placeY, .int v_land_places, .ref o_land_crowKind, .int v_land_crows, .ref o_land_now, g_land_past, g_land_pasts, g_land_notes, g_land_marks])), (o_land_placeKind, .inl (y 0, 7, .inl f_land_placeKind)), (o_land_placeX, .inl (y 0, 7, .inl f_land_placeX)), (o_land_placeY, .inl (y 0, 7, .inl f_land_placeY)), (o_land_crowKind, .inl (y 0, 3, .inl f_land_crowKind)), (o_land_now, .inr (1, [g_land_now_at, .ref o_land_now_tired, g_land_now_deedRows, g_land_now_deeds, .int v_land_now_hour])), (o_land_now_tired, .inl (y 0, 3, .inl f_land_now_tired))] r.1 [(o, .inr (6, [.ref o_land, g_images, g_kept, g_text, g_textLength, .int r.2.1, .int r.2.2.1, .int r.2.2.2, g_nos, g_fulls, g_roads, g_reader, g_traveller, g_questions])), (o_land, .inr (0, [.ref o_land_placeKind, .ref o_land_placeX, .ref o_land_placeY, .int v_land_places, .ref o_land_crowKind, .int v_land_crows, .ref o_land_now, g_land_past, g_land_pasts, g_land_notes, g_land_marks])), (o_land_placeKind, .inl (y 0, 7, .inl f_land_placeKind)), (o_land_placeX, .inl (y 0, 7, .inl f_land_placeX)), (o_land_placeY, .inl (y 0, 7, .inl f_land_placeY)), (o_land_crowKind, .inl (y 0, 3, .inl f_land_crowKind)), (o_land_now, .inr (1, [g_land_now_at, .ref o_land_now_tired, g_land_now_deedRows, g_land_now_deeds, .int v_land_now_hour])), (o_land_now_tired, .inl (y 0, 3, .inl f_land_now_tired))] := by
  unfold p_X7_wind at h
  refine z_enI (by decide) (Nat.le_of_ble_eq_true rfl) ?_
  intro p e s m args below meth c A ls hr K hH hl
  obtain ⟨Q, hQ⟩ : ∃ Q, Q = MQ below (z_Qi D y A r.1 [(o, .inr (6, [.ref o_land, g_images, g_kept, g_text, g_textLength, .int r.2.1, .int r.2.2.1, .int r.2.2.2, g_nos, g_fulls, g_roads, g_reader, g_traveller, g_questions])), (o_land, .inr (0, [.ref o_land_placeKind, .ref o_land_placeX, .ref o_land_placeY, .int v_land_places, .ref o_land_crowKind, .int v_land_crows, .ref o_land_now, g_land_past, g_land_pasts, g_land_notes, g_land_marks])), (o_land_placeKind, .inl (y 0, 7, .inl f_land_placeKind)), (o_land_placeX, .inl (y 0, 7, .inl f_land_placeX)), (o_land_placeY, .inl (y 0, 7, .inl f_land_placeY)), (o_land_crowKind, .inl (y 0, 3, .inl f_land_crowKind)), (o_land_now, .inr (1, [g_land_now_at, .ref o_land_now_tired, g_land_now_deedRows, g_land_now_deeds, .int v_land_now_hour])), (o_land_now_tired, .inl (y 0, 3, .inl f_land_now_tired))]) args s 0 0 A := ⟨_, rfl⟩
  rw [← hQ]
  have hl : lv_has ls 7 [(0, .ref o), (1, .int p1), (2, .int p2), (3, .int p3), (4, .int p4)] := hl
  refine lv_aload_n K.x K.b dX7_wind_0 rfl (lv_at hl 0 rfl) ?_
  refine lv_iload_n K.x K.b dX7_wind_1 rfl (lv_at hl 1 rfl) ?_
  refine lv_iload_n K.x K.b dX7_wind_2 rfl (lv_at hl 2 rfl) ?_
  refine lv_iload_n K.x K.b dX7_wind_3 rfl (lv_at hl 3 rfl) ?_
  obtain ⟨r1, hr2, h⟩ := z_bd_e h
  refine z_Vi K hH hl.1 (c_X7_isTrip l D y o o_land (g_images) (g_kept) (g_text) (g_textLength) (.int v_above) (.int v_below) (.int v_bads) (g_nos) (g_fulls) (g_roads) (g_reader) (g_traveller) (g_questions) (.ref o_land_placeKind) (.ref o_land_placeX) (.ref o_land_placeY) (.ref o_land_crowKind) (.ref o_land_now) (g_land_past) (g_land_pasts) (g_land_notes) (g_land_marks) v_land_places v_land_crows p1 p2 p3 r1 hr2) (z_cwV K 3 tw_3_46 tw_3_48 tw_0_16 tw_1_1 tw_3_49 hd_X7_isTrip ⟨by decide, by decide⟩) [0, 1] [2, 3, 4, 5, 6, 7] rfl (wr := [(o_land_placeKind, .inl (y 0, 7, .inl f_land_placeKind)), (o_land_placeX, .inl (y 0, 7, .inl f_land_placeX)), (o_land_placeY, .inl (y 0, 7, .inl f_land_placeY)), (o_land_crowKind, .inl (y 0, 3, .inl f_land_crowKind)), (o_land_now, .inr (1, [g_land_now_at, .ref o_land_now_tired, g_land_now_deedRows, g_land_now_deeds, .int v_land_now_hour])), (o_land_now_tired, .inl (y 0, 3, .inl f_land_now_tired))]) rfl rfl rfl (by decide) rfl rfl rfl (As := [.int p1, .int p2, .int p3]) (rest := []) rfl (Nat.le_of_ble_eq_true rfl) ⟨Nat.zero_le _, Nat.zero_le _⟩ dX7_wind_4 (ws' := [(o_land_placeKind, .inl (y 0, 7, .inl f_land_placeKind)), (o_land_placeX, .inl (y 0, 7, .inl f_land_placeX)), (o_land_placeY, .inl (y 0, 7, .inl f_land_placeY)), (o_land_crowKind, .inl (y 0, 3, .inl f_land_crowKind)), (o_land_now, .inr (1, [g_land_now_at, .ref o_land_now_tired, g_land_now_deedRows, g_land_now_deeds, .int v_land_now_hour])), (o_land_now_tired, .inl (y 0, 3, .inl f_land_now_tired)), (o, .inr (6, [.ref o_land, g_images, g_kept, g_text, g_textLength, .int v_above, .int v_below, .int v_bads, g_nos, g_fulls, g_roads, g_reader, g_traveller, g_questions])), (o_land, .inr (0, [.ref o_land_placeKind, .ref o_land_placeX, .ref o_land_placeY, .int v_land_places, .ref o_land_crowKind, .int v_land_crows, .ref o_land_now, g_land_past, g_land_pasts, g_land_notes, g_land_marks]))]) rfl (fun H locs hH => ?_)
  refine lv_if_eq (tgt := 21) K.x K.b dX7_wind_7 (by decide) (fun c3 => ?_) (fun c3 => ?_)
  · replace h := z_t c3 h
    refine lv_aload_n K.x K.b dX7_wind_21 rfl (lv_at hl 0 rfl) ?_
    obtain ⟨r4, hr5, h⟩ := z_bd_e h
    refine z_Vi K hH hl.1 (c_X7_refuseBad l D y o (.ref o_land) (g_images) (g_kept) (g_text) (g_textLength) (.int v_above) (.int v_below) (g_nos) (g_fulls) (g_roads) (g_reader) (g_traveller) (g_questions) v_bads r4 hr5) (z_cwV K 0 tw_2_18 tw_2_20 tw_0_0 tw_1_1 tw_2_21 hd_X7_refuseBad ⟨by decide, by decide⟩) [6] [0, 1, 2, 3, 4, 5, 7] rfl (wr := [(o_land_placeKind, .inl (y 0, 7, .inl f_land_placeKind)), (o_land_placeX, .inl (y 0, 7, .inl f_land_placeX)), (o_land_placeY, .inl (y 0, 7, .inl f_land_placeY)), (o_land_crowKind, .inl (y 0, 3, .inl f_land_crowKind)), (o_land_now, .inr (1, [g_land_now_at, .ref o_land_now_tired, g_land_now_deedRows, g_land_now_deeds, .int v_land_now_hour])), (o_land_now_tired, .inl (y 0, 3, .inl f_land_now_tired)), (o_land, .inr (0, [.ref o_land_placeKind, .ref o_land_placeX, .ref o_land_placeY, .int v_land_places, .ref o_land_crowKind, .int v_land_crows, .ref o_land_now, g_land_past, g_land_pasts, g_land_notes, g_land_marks]))]) rfl rfl rfl (by decide) rfl rfl rfl (As := []) (rest := []) rfl (Nat.le_of_ble_eq_true rfl) ⟨Nat.zero_le _, Nat.zero_le _⟩ dX7_wind_22 (ws' := [(o_land_placeKind, .inl (y 0, 7, .inl f_land_placeKind)), (o_land_placeX, .inl (y 0, 7, .inl f_land_placeX)), (o_land_placeY, .inl (y 0, 7, .inl f_land_placeY)), (o_land_crowKind, .inl (y 0, 3, .inl f_land_crowKind)), (o_land_now, .inr (1, [g_land_now_at, .ref o_land_now_tired, g_land_now_deedRows, g_land_now_deeds, .int v_land_now_hour])), (o_land_now_tired, .inl (y 0, 3, .inl f_land_now_tired)), (o_land, .inr (0, [.ref o_land_placeKind, .ref o_land_placeX, .ref o_land_placeY, .int v_land_places, .ref o_land_crowKind, .int v_land_crows, .ref o_land_now, g_land_past, g_land_pasts, g_land_notes, g_land_marks])), (o, .inr (6, [.ref o_land, g_images, g_kept, g_text, g_textLength, .int v_above, .int v_below, .int r4.2, g_nos, g_fulls, g_roads, g_reader, g_traveller, g_questions]))]) rfl (fun H locs hH => ?_)
    have hr9 := Option.some.inj h
    obtain rfl := hr9
    rw [hQ]
    exact z_reti K hr hH [7, 6, 0, 1, 2, 3, 4, 5] (by decide) rfl rfl rfl dX7_wind_25
  · replace h := z_f c3 h
    refine lv_iload K.x K.b dX7_wind_10 (lv_at hl 4 rfl) ?_
    refine lv_iconst (v := (0)) K.x K.b dX7_wind_12 (by decide) ?_
    refine lv_bipush (v := (10)) K.x K.b dX7_wind_13 (by decide) ?_
    obtain ⟨r6, hr7, h⟩ := z_bd_e h
    refine z_Si K hH hl.1 (c_X7_within l D y p4 (0 : Int32) (10 : Int32) r6 hr7) (z_cwS K 3 tw_2_15 tw_2_16 tw_1_1 tw_2_17 hd_X7_within ⟨by decide, by decide⟩) rfl (As := [.int p4, .int (0 : Int32), .int (10 : Int32)]) (rest := []) rfl (Nat.le_of_ble_eq_true rfl) ⟨Nat.zero_le _, Nat.zero_le _⟩ dX7_wind_15 (fun H locs hH => ?_)
    refine lv_if_ne (tgt := 26) K.x K.b dX7_wind_18 (by decide) (fun c8 => ?_) (fun c8 => ?_)
    · replace h := z_f c8 h
      refine lv_aload_n K.x K.b dX7_wind_26 rfl (lv_at hl 0 rfl) ?_
      refine z_get K hH 6 rfl zin_7 rfl 0 (by decide) tw_1_197 (v := .ref o_land) rfl dX7_wind_27 ?_
      refine lv_iload_n K.x K.b dX7_wind_30 rfl (lv_at hl 1 rfl) ?_
      refine lv_iload_n K.x K.b dX7_wind_31 rfl (lv_at hl 2 rfl) ?_
      refine lv_iload_n K.x K.b dX7_wind_32 rfl (lv_at hl 3 rfl) ?_
      obtain ⟨r9, hr10, h⟩ := z_bd_e h
      refine z_Vi K hH hl.1 (c_X0_farNow l D y o_land o_land_placeKind o_land_placeX o_land_placeY o_land_crowKind o_land_now o_land_now_tired (.int v_land_places) (.int v_land_crows) (g_land_past) (g_land_pasts) (g_land_notes) (g_land_marks) (g_land_now_at) (g_land_now_deedRows) (g_land_now_deeds) f_land_placeKind f_land_placeX f_land_placeY f_land_crowKind v_land_now_hour f_land_now_tired p1 p2 p3 r9 hr10) (z_cwV K 3 tw_3_50 tw_3_51 tw_3_52 tw_1_2 tw_3_53 hd_X0_farNow ⟨by decide, by decide⟩) [7, 0, 1, 2, 3, 4, 5] [6] rfl (wr := [(o, .inr (6, [.ref o_land, g_images, g_kept, g_text, g_textLength, .int v_above, .int v_below, .int v_bads, g_nos, g_fulls, g_roads, g_reader, g_traveller, g_questions]))]) rfl rfl rfl (by decide) rfl rfl rfl (As := [.int p1, .int p2, .int p3]) (rest := []) rfl (Nat.le_of_ble_eq_true rfl) ⟨Nat.zero_le _, Nat.zero_le _⟩ dX7_wind_33 (ws' := [(o, .inr (6, [.ref o_land, g_images, g_kept, g_text, g_textLength, .int v_above, .int v_below, .int v_bads, g_nos, g_fulls, g_roads, g_reader, g_traveller, g_questions])), (o_land, .inr (0, [.ref o_land_placeKind, .ref o_land_placeX, .ref o_land_placeY, .int v_land_places, .ref o_land_crowKind, .int v_land_crows, .ref o_land_now, g_land_past, g_land_pasts, g_land_notes, g_land_marks])), (o_land_placeKind, .inl (y 0, 7, .inl f_land_placeKind)), (o_land_placeX, .inl (y 0, 7, .inl f_land_placeX)), (o_land_placeY, .inl (y 0, 7, .inl f_land_placeY)), (o_land_crowKind, .inl (y 0, 3, .inl f_land_crowKind)), (o_land_now, .inr (1, [g_land_now_at, .ref o_land_now_tired, g_land_now_deedRows, g_land_now_deeds, .int v_land_now_hour])), (o_land_now_tired, .inl (y 0, 3, .inl f_land_now_tired))]) rfl (fun H locs hH => ?_)
      refine lv_istore (lv' := [(5, .int r9), (0, .ref o), (1, .int p1), (2, .int p2), (3, .int p3), (4, .int p4)]) K.x K.b dX7_wind_36 hl (by decide) rfl (fun ls hl => ?_)
      refine lv_iload K.x K.b dX7_wind_38 (lv_at hl 0 rfl) ?_
      refine lv_iload K.x K.b dX7_wind_40 (lv_at hl 0 rfl) ?_
      refine lv_iconst (v := (2)) K.x K.b dX7_wind_42 (by decide) ?_
      refine lv_idiv K.x K.b dX7_wind_43 (by decide) ?_
      refine lv_iadd K.x K.b dX7_wind_44 ?_
      obtain ⟨x11, ex11, h⟩ := z_lt_e h
      refine z_nm ex11 ?_
      refine lv_istore (lv' := [(6, .int x11), (5, .int r9), (0, .ref o), (1, .int p1), (2, .int p2), (3, .int p3), (4, .int p4)]) K.x K.b dX7_wind_45 hl (by decide) rfl (fun ls hl => ?_)
      refine lv_aload_n K.x K.b dX7_wind_47 rfl (lv_at hl 2 rfl) ?_
      refine lv_iload K.x K.b dX7_wind_48 (lv_at hl 6 rfl) ?_
      refine lv_iload K.x K.b dX7_wind_50 (lv_at hl 0 rfl) ?_
      refine lv_imul K.x K.b dX7_wind_52 ?_
      refine lv_bipush (v := (10)) K.x K.b dX7_wind_53 (by decide) ?_
      refine lv_iload K.x K.b dX7_wind_55 (lv_at hl 6 rfl) ?_
      refine lv_isub K.x K.b dX7_wind_57 ?_
      refine lv_iload K.x K.b dX7_wind_58 (lv_at hl 1 rfl) ?_
      refine lv_imul K.x K.b dX7_wind_60 ?_
      refine lv_iadd K.x K.b dX7_wind_61 ?_
      refine lv_bipush (v := (10)) K.x K.b dX7_wind_62 (by decide) ?_
      obtain ⟨x12, ex12, h⟩ := z_lt_e h
      refine z_nm2 ex12 ?_
      obtain ⟨r13, hr14, h⟩ := z_bd_e h
      refine z_Vv K hH hl.1 (c_X7_keepFraction l D y o (.ref o_land) (g_images) (g_kept) (g_text) (g_textLength) (.int v_bads) (g_nos) (g_fulls) (g_roads) (g_reader) (g_traveller) (g_questions) v_above v_below x12 (10 : Int32) r13 hr14) (z_cwV K 2 tw_4_17 tw_4_19 tw_0_33 tw_1_1 tw_4_20 hd_X7_keepFraction ⟨by decide, by decide⟩) [0] [1, 2, 3, 4, 5, 6, 7] rfl (wr := [(o_land, .inr (0, [.ref o_land_placeKind, .ref o_land_placeX, .ref o_land_placeY, .int v_land_places, .ref o_land_crowKind, .int v_land_crows, .ref o_land_now, g_land_past, g_land_pasts, g_land_notes, g_land_marks])), (o_land_placeKind, .inl (y 0, 7, .inl f_land_placeKind)), (o_land_placeX, .inl (y 0, 7, .inl f_land_placeX)), (o_land_placeY, .inl (y 0, 7, .inl f_land_placeY)), (o_land_crowKind, .inl (y 0, 3, .inl f_land_crowKind)), (o_land_now, .inr (1, [g_land_now_at, .ref o_land_now_tired, g_land_now_deedRows, g_land_now_deeds, .int v_land_now_hour])), (o_land_now_tired, .inl (y 0, 3, .inl f_land_now_tired))]) rfl rfl rfl (by decide) rfl rfl rfl (As := [.int x12, .int (10 : Int32)]) (rest := []) rfl (Nat.le_of_ble_eq_true rfl) ⟨Nat.zero_le _, Nat.zero_le _⟩ dX7_wind_64 (ws' := [(o_land, .inr (0, [.ref o_land_placeKind, .ref o_land_placeX, .ref o_land_placeY, .int v_land_places, .ref o_land_crowKind, .int v_land_crows, .ref o_land_now, g_land_past, g_land_pasts, g_land_notes, g_land_marks])), (o_land_placeKind, .inl (y 0, 7, .inl f_land_placeKind)), (o_land_placeX, .inl (y 0, 7, .inl f_land_placeX)), (o_land_placeY, .inl (y 0, 7, .inl f_land_placeY)), (o_land_crowKind, .inl (y 0, 3, .inl f_land_crowKind)), (o_land_now, .inr (1, [g_land_now_at, .ref o_land_now_tired, g_land_now_deedRows, g_land_now_deeds, .int v_land_now_hour])), (o_land_now_tired, .inl (y 0, 3, .inl f_land_now_tired)), (o, .inr (6, [.ref o_land, g_images, g_kept, g_text, g_textLength, .int r13.1, .int r13.2, .int v_bads, g_nos, g_fulls, g_roads, g_reader, g_traveller, g_questions]))]) rfl (fun H locs hH => ?_)
      refine lv_iconst (v := (1)) K.x K.b dX7_wind_67 (by decide) ?_
      have hr9 := Option.some.inj h
      obtain rfl := hr9
      rw [hQ]
      exact z_reti K hr hH [7, 0, 1, 2, 3, 4, 5, 6] (by decide) rfl rfl rfl dX7_wind_68
    · replace h := z_t c8 h
      refine lv_aload_n K.x K.b dX7_wind_21 rfl (lv_at hl 0 rfl) ?_
      obtain ⟨r15, hr16, h⟩ := z_bd_e h
      refine z_Vi K hH hl.1 (c_X7_refuseBad l D y o (.ref o_land) (g_images) (g_kept) (g_text) (g_textLength) (.int v_above) (.int v_below) (g_nos) (g_fulls) (g_roads) (g_reader) (g_traveller) (g_questions) v_bads r15 hr16) (z_cwV K 0 tw_2_18 tw_2_20 tw_0_0 tw_1_1 tw_2_21 hd_X7_refuseBad ⟨by decide, by decide⟩) [6] [0, 1, 2, 3, 4, 5, 7] rfl (wr := [(o_land_placeKind, .inl (y 0, 7, .inl f_land_placeKind)), (o_land_placeX, .inl (y 0, 7, .inl f_land_placeX)), (o_land_placeY, .inl (y 0, 7, .inl f_land_placeY)), (o_land_crowKind, .inl (y 0, 3, .inl f_land_crowKind)), (o_land_now, .inr (1, [g_land_now_at, .ref o_land_now_tired, g_land_now_deedRows, g_land_now_deeds, .int v_land_now_hour])), (o_land_now_tired, .inl (y 0, 3, .inl f_land_now_tired)), (o_land, .inr (0, [.ref o_land_placeKind, .ref o_land_placeX, .ref o_land_placeY, .int v_land_places, .ref o_land_crowKind, .int v_land_crows, .ref o_land_now, g_land_past, g_land_pasts, g_land_notes, g_land_marks]))]) rfl rfl rfl (by decide) rfl rfl rfl (As := []) (rest := []) rfl (Nat.le_of_ble_eq_true rfl) ⟨Nat.zero_le _, Nat.zero_le _⟩ dX7_wind_22 (ws' := [(o_land_placeKind, .inl (y 0, 7, .inl f_land_placeKind)), (o_land_placeX, .inl (y 0, 7, .inl f_land_placeX)), (o_land_placeY, .inl (y 0, 7, .inl f_land_placeY)), (o_land_crowKind, .inl (y 0, 3, .inl f_land_crowKind)), (o_land_now, .inr (1, [g_land_now_at, .ref o_land_now_tired, g_land_now_deedRows, g_land_now_deeds, .int v_land_now_hour])), (o_land_now_tired, .inl (y 0, 3, .inl f_land_now_tired)), (o_land, .inr (0, [.ref o_land_placeKind, .ref o_land_placeX, .ref o_land_placeY, .int v_land_places, .ref o_land_crowKind, .int v_land_crows, .ref o_land_now, g_land_past, g_land_pasts, g_land_notes, g_land_marks])), (o, .inr (6, [.ref o_land, g_images, g_kept, g_text, g_textLength, .int v_above, .int v_below, .int r15.2, g_nos, g_fulls, g_roads, g_reader, g_traveller, g_questions]))]) rfl (fun H locs hH => ?_)
      have hr9 := Option.some.inj h
      obtain rfl := hr9
      rw [hQ]
      exact z_reti K hr hH [7, 6, 0, 1, 2, 3, 4, 5] (by decide) rfl rfl rfl dX7_wind_25
def p_X7_travel (v_land_places : Int32) (v_land_crows : Int32) (f_land_placeKind : (Nat → Int32)) (f_land_placeX : (Nat → Int32)) (f_land_placeY : (Nat → Int32)) (f_land_crowKind : (Nat → Int32)) (v_traveller_deeds : Int32) (v_traveller_hour : Int32) (f_traveller_at : (Nat → Int32)) (f_traveller_tired : (Nat → Int32)) (f_traveller_deedRows : (Nat → Int32)) (p1 : Int32) (p2 : Int32) : Option (Int32 × Int32 × Int32 × (Nat → Int32) × (Nat → Int32) × (Nat → Int32)) :=
  if (p1 < v_land_crows) then
  (if (v_land_places ≤ p2) then
  (z_bd (p_X1_sleep v_traveller_hour f_traveller_tired p1) fun r3 =>
  some ((0 : Int32), v_traveller_deeds, r3.1, f_traveller_at, r3.2, f_traveller_deedRows)) else
  (z_gd (z_in p1 3) <|
  if (p2 = (f_traveller_at p1.toNatClampNeg)) then
  (z_bd (p_X1_sleep v_traveller_hour f_traveller_tired p1) fun r7 =>
  some ((0 : Int32), v_traveller_deeds, r7.1, f_traveller_at, r7.2, f_traveller_deedRows)) else
  (z_bd (p_X0_fly f_land_placeKind f_land_placeX f_land_placeY f_land_crowKind v_traveller_deeds v_traveller_hour f_traveller_at f_traveller_tired f_traveller_deedRows p1 p2) fun r9 =>
  some (r9.1, r9.2.1, r9.2.2.1, r9.2.2.2.1, r9.2.2.2.2.1, r9.2.2.2.2.2)))) else
  (z_lt ((v_traveller_hour + (1 : Int32))) fun x11 =>
  some ((0 : Int32), v_traveller_deeds, x11, f_traveller_at, f_traveller_tired, f_traveller_deedRows))
theorem hd_X7_travel : yX7_travel.cls = RX7 ∧ yX7_travel.cls ≠ "java/lang/invoke/MethodHandle" ∧ yX7_travel.cls ≠ "java/lang/invoke/VarHandle" ∧ (parseMethodDescriptor yX7_travel.desc).map (fun d => d.parameters.length) = some 2 := by decide +kernel
set_option maxHeartbeats 4000000 in
set_option maxRecDepth 100000 in
theorem c_X7_travel (l : Launch) (D : va_G) (y : Nat → ClassId) (o o_land o_land_placeKind o_land_placeX o_land_placeY o_land_crowKind o_traveller o_traveller_at o_traveller_tired o_traveller_deedRows : Nat) (g_images g_kept g_text g_textLength g_above g_below g_bads g_nos g_fulls g_roads g_reader g_questions g_land_now g_land_past g_land_pasts g_land_notes g_land_marks : Value) (v_land_places : Int32) (v_land_crows : Int32) (f_land_placeKind : (Nat → Int32)) (f_land_placeX : (Nat → Int32)) (f_land_placeY : (Nat → Int32)) (f_land_crowKind : (Nat → Int32)) (v_traveller_deeds : Int32) (v_traveller_hour : Int32) (f_traveller_at : (Nat → Int32)) (f_traveller_tired : (Nat → Int32)) (f_traveller_deedRows : (Nat → Int32)) (p1 : Int32) (p2 : Int32) (r : Int32 × Int32 × Int32 × (Nat → Int32) × (Nat → Int32) × (Nat → Int32)) (h : p_X7_travel v_land_places v_land_crows f_land_placeKind f_land_placeX f_land_placeY f_land_crowKind v_traveller_deeds v_traveller_hour f_traveller_at f_traveller_tired f_traveller_deedRows p1 p2 = some r) : z_MI l yX7_travel cX7_travel 3 (some .int) 4 112 D y [.ref o, .int p1, .int p2] [(o, .inr (6, [.ref o_land, g_images, g_kept, g_text, g_textLength, g_above, g_below, g_bads, g_nos, g_fulls, g_roads, g_reader, .ref o_traveller, g_questions])), (o_land, .inr (0, [.ref o_land_placeKind, .ref o_land_placeX, .ref o_land_placeY, .int v_land_places, .ref o_land_crowKind, .int v_land_crows, g_land_now, g_land_past, g_land_pasts, g_land_notes, g_land_marks])), (o_land_placeKind, .inl (y 0, 7, .inl f_land_placeKind)), (o_land_placeX, .inl (y 0, 7, .inl f_land_placeX)), (o_land_placeY, .inl (y 0, 7, .inl f_land_placeY)), (o_land_crowKind, .inl (y 0, 3, .inl f_land_crowKind)), (o_traveller, .inr (1, [.ref o_traveller_at, .ref o_traveller_tired, .ref o_traveller_deedRows, .int v_traveller_deeds, .int v_traveller_hour])), (o_traveller_at, .inl (y 0, 3, .inl f_traveller_at)), (o_traveller_tired, .inl (y 0, 3, .inl f_traveller_tired)), (o_traveller_deedRows, .inl (y 0, 36, .inl f_traveller_deedRows))] r.1 [(o, .inr (6, [.ref o_land, g_images, g_kept, g_text, g_textLength, g_above, g_below, g_bads, g_nos, g_fulls, g_roads, g_reader, .ref o_traveller, g_questions])), (o_land, .inr (0, [.ref o_land_placeKind, .ref o_land_placeX, .ref o_land_placeY, .int v_land_places, .ref o_land_crowKind, .int v_land_crows, g_land_now, g_land_past, g_land_pasts, g_land_notes, g_land_marks])), (o_land_placeKind, .inl (y 0, 7, .inl f_land_placeKind)), (o_land_placeX, .inl (y 0, 7, .inl f_land_placeX)), (o_land_placeY, .inl (y 0, 7, .inl f_land_placeY)), (o_land_crowKind, .inl (y 0, 3, .inl f_land_crowKind)), (o_traveller, .inr (1, [.ref o_traveller_at, .ref o_traveller_tired, .ref o_traveller_deedRows, .int r.2.1, .int r.2.2.1])), (o_traveller_at, .inl (y 0, 3, .inl r.2.2.2.1)), (o_traveller_tired, .inl (y 0, 3, .inl r.2.2.2.2.1)), (o_traveller_deedRows, .inl (y 0, 36, .inl r.2.2.2.2.2))] := by
  unfold p_X7_travel at h
  refine z_enI (by decide) (Nat.le_of_ble_eq_true rfl) ?_
  intro p e s m args below meth c A ls hr K hH hl
  obtain ⟨Q, hQ⟩ : ∃ Q, Q = MQ below (z_Qi D y A r.1 [(o, .inr (6, [.ref o_land, g_images, g_kept, g_text, g_textLength, g_above, g_below, g_bads, g_nos, g_fulls, g_roads, g_reader, .ref o_traveller, g_questions])), (o_land, .inr (0, [.ref o_land_placeKind, .ref o_land_placeX, .ref o_land_placeY, .int v_land_places, .ref o_land_crowKind, .int v_land_crows, g_land_now, g_land_past, g_land_pasts, g_land_notes, g_land_marks])), (o_land_placeKind, .inl (y 0, 7, .inl f_land_placeKind)), (o_land_placeX, .inl (y 0, 7, .inl f_land_placeX)), (o_land_placeY, .inl (y 0, 7, .inl f_land_placeY)), (o_land_crowKind, .inl (y 0, 3, .inl f_land_crowKind)), (o_traveller, .inr (1, [.ref o_traveller_at, .ref o_traveller_tired, .ref o_traveller_deedRows, .int r.2.1, .int r.2.2.1])), (o_traveller_at, .inl (y 0, 3, .inl r.2.2.2.1)), (o_traveller_tired, .inl (y 0, 3, .inl r.2.2.2.2.1)), (o_traveller_deedRows, .inl (y 0, 36, .inl r.2.2.2.2.2))]) args s 0 0 A := ⟨_, rfl⟩
  rw [← hQ]
  have hl : lv_has ls 3 [(0, .ref o), (1, .int p1), (2, .int p2)] := hl
  refine lv_iload_n K.x K.b dX7_travel_0 rfl (lv_at hl 1 rfl) ?_
  refine lv_aload_n K.x K.b dX7_travel_1 rfl (lv_at hl 0 rfl) ?_
  refine z_get K hH 0 rfl zin_7 rfl 0 (by decide) tw_1_197 (v := .ref o_land) rfl dX7_travel_2 ?_
  refine z_get K hH 1 rfl zin_0 rfl 5 (by decide) tw_1_91 (v := .int v_land_crows) rfl dX7_travel_5 ?_
  refine lv_icmp_lt (tgt := 26) K.x K.b dX7_travel_8 (by decide) (fun c1 => ?_) (fun c1 => ?_)
  · replace h := z_t c1 h
    refine lv_iload_n K.x K.b dX7_travel_26 rfl (lv_at hl 2 rfl) ?_
    refine lv_aload_n K.x K.b dX7_travel_27 rfl (lv_at hl 0 rfl) ?_
    refine z_get K hH 0 rfl zin_7 rfl 0 (by decide) tw_1_197 (v := .ref o_land) rfl dX7_travel_28 ?_
    refine z_get K hH 1 rfl zin_0 rfl 3 (by decide) tw_1_87 (v := .int v_land_places) rfl dX7_travel_31 ?_
    refine lv_icmp_ge (tgt := 64) K.x K.b dX7_travel_34 (by decide) (fun c2 => ?_) (fun c2 => ?_)
    · replace h := z_t c2 h
      refine lv_aload_n K.x K.b dX7_travel_64 rfl (lv_at hl 0 rfl) ?_
      refine z_get K hH 0 rfl zin_7 rfl 12 (by decide) tw_1_209 (v := .ref o_traveller) rfl dX7_travel_65 ?_
      refine lv_iload_n K.x K.b dX7_travel_68 rfl (lv_at hl 1 rfl) ?_
      obtain ⟨r3, hr4, h⟩ := z_bd_e h
      refine z_Vv K hH hl.1 (c_X1_sleep l D y o_traveller o_traveller_tired (.ref o_traveller_at) (.ref o_traveller_deedRows) (.int v_traveller_deeds) v_traveller_hour f_traveller_tired p1 r3 hr4) (z_cwV K 1 tw_3_4 tw_2_197 tw_2_198 tw_1_3 tw_2_199 hd_X1_sleep ⟨by decide, by decide⟩) [6, 8] [0, 1, 2, 3, 4, 5, 7, 9] rfl (wr := [(o, .inr (6, [.ref o_land, g_images, g_kept, g_text, g_textLength, g_above, g_below, g_bads, g_nos, g_fulls, g_roads, g_reader, .ref o_traveller, g_questions])), (o_land, .inr (0, [.ref o_land_placeKind, .ref o_land_placeX, .ref o_land_placeY, .int v_land_places, .ref o_land_crowKind, .int v_land_crows, g_land_now, g_land_past, g_land_pasts, g_land_notes, g_land_marks])), (o_land_placeKind, .inl (y 0, 7, .inl f_land_placeKind)), (o_land_placeX, .inl (y 0, 7, .inl f_land_placeX)), (o_land_placeY, .inl (y 0, 7, .inl f_land_placeY)), (o_land_crowKind, .inl (y 0, 3, .inl f_land_crowKind)), (o_traveller_at, .inl (y 0, 3, .inl f_traveller_at)), (o_traveller_deedRows, .inl (y 0, 36, .inl f_traveller_deedRows))]) rfl rfl rfl (by decide) rfl rfl rfl (As := [.int p1]) (rest := []) rfl (Nat.le_of_ble_eq_true rfl) ⟨Nat.zero_le _, Nat.zero_le _⟩ dX7_travel_69 (ws' := [(o, .inr (6, [.ref o_land, g_images, g_kept, g_text, g_textLength, g_above, g_below, g_bads, g_nos, g_fulls, g_roads, g_reader, .ref o_traveller, g_questions])), (o_land, .inr (0, [.ref o_land_placeKind, .ref o_land_placeX, .ref o_land_placeY, .int v_land_places, .ref o_land_crowKind, .int v_land_crows, g_land_now, g_land_past, g_land_pasts, g_land_notes, g_land_marks])), (o_land_placeKind, .inl (y 0, 7, .inl f_land_placeKind)), (o_land_placeX, .inl (y 0, 7, .inl f_land_placeX)), (o_land_placeY, .inl (y 0, 7, .inl f_land_placeY)), (o_land_crowKind, .inl (y 0, 3, .inl f_land_crowKind)), (o_traveller_at, .inl (y 0, 3, .inl f_traveller_at)), (o_traveller_deedRows, .inl (y 0, 36, .inl f_traveller_deedRows)), (o_traveller, .inr (1, [.ref o_traveller_at, .ref o_traveller_tired, .ref o_traveller_deedRows, .int v_traveller_deeds, .int r3.1])), (o_traveller_tired, .inl (y 0, 3, .inl r3.2))]) rfl (fun H locs hH => ?_)
      refine lv_iconst (v := (0)) K.x K.b dX7_travel_72 (by decide) ?_
      have hr9 := Option.some.inj h
      obtain rfl := hr9
      rw [hQ]
      exact z_reti K hr hH [0, 1, 2, 3, 4, 5, 8, 6, 9, 7] (by decide) rfl rfl rfl dX7_travel_73
    · replace h := z_f c2 h
      refine lv_iload_n K.x K.b dX7_travel_37 rfl (lv_at hl 2 rfl) ?_
      refine lv_aload_n K.x K.b dX7_travel_38 rfl (lv_at hl 0 rfl) ?_
      refine z_get K hH 0 rfl zin_7 rfl 12 (by decide) tw_1_209 (v := .ref o_traveller) rfl dX7_travel_39 ?_
      refine z_get K hH 6 rfl zin_1 rfl 0 (by decide) tw_1_39 (v := .ref o_traveller_at) rfl dX7_travel_42 ?_
      refine lv_iload_n K.x K.b dX7_travel_45 rfl (lv_at hl 1 rfl) ?_
      obtain ⟨g5, h⟩ := z_gd_e h
      refine z_iald K hH 7 (k := p1.toNatClampNeg) rfl g5 rfl dX7_travel_46 ?_
      refine lv_icmp_eq (tgt := 64) K.x K.b dX7_travel_47 (by decide) (fun c6 => ?_) (fun c6 => ?_)
      · replace h := z_t c6 h
        refine lv_aload_n K.x K.b dX7_travel_64 rfl (lv_at hl 0 rfl) ?_
        refine z_get K hH 0 rfl zin_7 rfl 12 (by decide) tw_1_209 (v := .ref o_traveller) rfl dX7_travel_65 ?_
        refine lv_iload_n K.x K.b dX7_travel_68 rfl (lv_at hl 1 rfl) ?_
        obtain ⟨r7, hr8, h⟩ := z_bd_e h
        refine z_Vv K hH hl.1 (c_X1_sleep l D y o_traveller o_traveller_tired (.ref o_traveller_at) (.ref o_traveller_deedRows) (.int v_traveller_deeds) v_traveller_hour f_traveller_tired p1 r7 hr8) (z_cwV K 1 tw_3_4 tw_2_197 tw_2_198 tw_1_3 tw_2_199 hd_X1_sleep ⟨by decide, by decide⟩) [6, 8] [0, 1, 2, 3, 4, 5, 7, 9] rfl (wr := [(o, .inr (6, [.ref o_land, g_images, g_kept, g_text, g_textLength, g_above, g_below, g_bads, g_nos, g_fulls, g_roads, g_reader, .ref o_traveller, g_questions])), (o_land, .inr (0, [.ref o_land_placeKind, .ref o_land_placeX, .ref o_land_placeY, .int v_land_places, .ref o_land_crowKind, .int v_land_crows, g_land_now, g_land_past, g_land_pasts, g_land_notes, g_land_marks])), (o_land_placeKind, .inl (y 0, 7, .inl f_land_placeKind)), (o_land_placeX, .inl (y 0, 7, .inl f_land_placeX)), (o_land_placeY, .inl (y 0, 7, .inl f_land_placeY)), (o_land_crowKind, .inl (y 0, 3, .inl f_land_crowKind)), (o_traveller_at, .inl (y 0, 3, .inl f_traveller_at)), (o_traveller_deedRows, .inl (y 0, 36, .inl f_traveller_deedRows))]) rfl rfl rfl (by decide) rfl rfl rfl (As := [.int p1]) (rest := []) rfl (Nat.le_of_ble_eq_true rfl) ⟨Nat.zero_le _, Nat.zero_le _⟩ dX7_travel_69 (ws' := [(o, .inr (6, [.ref o_land, g_images, g_kept, g_text, g_textLength, g_above, g_below, g_bads, g_nos, g_fulls, g_roads, g_reader, .ref o_traveller, g_questions])), (o_land, .inr (0, [.ref o_land_placeKind, .ref o_land_placeX, .ref o_land_placeY, .int v_land_places, .ref o_land_crowKind, .int v_land_crows, g_land_now, g_land_past, g_land_pasts, g_land_notes, g_land_marks])), (o_land_placeKind, .inl (y 0, 7, .inl f_land_placeKind)), (o_land_placeX, .inl (y 0, 7, .inl f_land_placeX)), (o_land_placeY, .inl (y 0, 7, .inl f_land_placeY)), (o_land_crowKind, .inl (y 0, 3, .inl f_land_crowKind)), (o_traveller_at, .inl (y 0, 3, .inl f_traveller_at)), (o_traveller_deedRows, .inl (y 0, 36, .inl f_traveller_deedRows)), (o_traveller, .inr (1, [.ref o_traveller_at, .ref o_traveller_tired, .ref o_traveller_deedRows, .int v_traveller_deeds, .int r7.1])), (o_traveller_tired, .inl (y 0, 3, .inl r7.2))]) rfl (fun H locs hH => ?_)
        refine lv_iconst (v := (0)) K.x K.b dX7_travel_72 (by decide) ?_
        have hr9 := Option.some.inj h
        obtain rfl := hr9
        rw [hQ]
        exact z_reti K hr hH [0, 1, 2, 3, 4, 5, 8, 6, 9, 7] (by decide) rfl rfl rfl dX7_travel_73
      · replace h := z_f c6 h
        refine lv_aload_n K.x K.b dX7_travel_50 rfl (lv_at hl 0 rfl) ?_
        refine z_get K hH 0 rfl zin_7 rfl 0 (by decide) tw_1_197 (v := .ref o_land) rfl dX7_travel_51 ?_
        refine lv_aload_n K.x K.b dX7_travel_54 rfl (lv_at hl 0 rfl) ?_
        refine z_get K hH 0 rfl zin_7 rfl 12 (by decide) tw_1_209 (v := .ref o_traveller) rfl dX7_travel_55 ?_
        refine lv_iload_n K.x K.b dX7_travel_58 rfl (lv_at hl 1 rfl) ?_
        refine lv_iload_n K.x K.b dX7_travel_59 rfl (lv_at hl 2 rfl) ?_
        obtain ⟨r9, hr10, h⟩ := z_bd_e h
        refine z_Vi K hH hl.1 (c_X0_fly l D y o_land o_land_placeKind o_land_placeX o_land_placeY o_land_crowKind o_traveller o_traveller_at o_traveller_tired o_traveller_deedRows (.int v_land_places) (.int v_land_crows) (g_land_now) (g_land_past) (g_land_pasts) (g_land_notes) (g_land_marks) f_land_placeKind f_land_placeX f_land_placeY f_land_crowKind v_traveller_deeds v_traveller_hour f_traveller_at f_traveller_tired f_traveller_deedRows p1 p2 r9 hr10) (z_cwV K 3 tw_2_239 tw_2_163 tw_2_164 tw_1_2 tw_2_165 hd_X0_fly ⟨by decide, by decide⟩) [1, 2, 3, 4, 5, 6, 7, 8, 9] [0] rfl (wr := [(o, .inr (6, [.ref o_land, g_images, g_kept, g_text, g_textLength, g_above, g_below, g_bads, g_nos, g_fulls, g_roads, g_reader, .ref o_traveller, g_questions]))]) rfl rfl rfl (by decide) rfl rfl rfl (As := [.ref o_traveller, .int p1, .int p2]) (rest := []) rfl (Nat.le_of_ble_eq_true rfl) ⟨Nat.zero_le _, Nat.zero_le _⟩ dX7_travel_60 (ws' := [(o, .inr (6, [.ref o_land, g_images, g_kept, g_text, g_textLength, g_above, g_below, g_bads, g_nos, g_fulls, g_roads, g_reader, .ref o_traveller, g_questions])), (o_land, .inr (0, [.ref o_land_placeKind, .ref o_land_placeX, .ref o_land_placeY, .int v_land_places, .ref o_land_crowKind, .int v_land_crows, g_land_now, g_land_past, g_land_pasts, g_land_notes, g_land_marks])), (o_land_placeKind, .inl (y 0, 7, .inl f_land_placeKind)), (o_land_placeX, .inl (y 0, 7, .inl f_land_placeX)), (o_land_placeY, .inl (y 0, 7, .inl f_land_placeY)), (o_land_crowKind, .inl (y 0, 3, .inl f_land_crowKind)), (o_traveller, .inr (1, [.ref o_traveller_at, .ref o_traveller_tired, .ref o_traveller_deedRows, .int r9.2.1, .int r9.2.2.1])), (o_traveller_at, .inl (y 0, 3, .inl r9.2.2.2.1)), (o_traveller_tired, .inl (y 0, 3, .inl r9.2.2.2.2.1)), (o_traveller_deedRows, .inl (y 0, 36, .inl r9.2.2.2.2.2))]) rfl (fun H locs hH => ?_)
        have hr9 := Option.some.inj h
        obtain rfl := hr9
        rw [hQ]
        exact z_reti K hr hH [0, 1, 2, 3, 4, 5, 6, 7, 8, 9] (by decide) rfl rfl rfl dX7_travel_63
  · replace h := z_f c1 h
    refine lv_aload_n K.x K.b dX7_travel_11 rfl (lv_at hl 0 rfl) ?_
    refine z_get K hH 0 rfl zin_7 rfl 12 (by decide) tw_1_209 (v := .ref o_traveller) rfl dX7_travel_12 ?_
    refine lv_dup K.x K.b dX7_travel_15 rfl ?_
    refine z_get K hH 6 rfl zin_1 rfl 4 (by decide) tw_1_50 (v := .int v_traveller_hour) rfl dX7_travel_16 ?_
    refine lv_iconst (v := (1)) K.x K.b dX7_travel_19 (by decide) ?_
    refine lv_iadd K.x K.b dX7_travel_20 ?_
    obtain ⟨x11, ex11, h⟩ := z_lt_e h
    refine z_nm ex11 ?_
    refine z_put K hH 6 (ws' := [(o, .inr (6, [.ref o_land, g_images, g_kept, g_text, g_textLength, g_above, g_below, g_bads, g_nos, g_fulls, g_roads, g_reader, .ref o_traveller, g_questions])), (o_land, .inr (0, [.ref o_land_placeKind, .ref o_land_placeX, .ref o_land_placeY, .int v_land_places, .ref o_land_crowKind, .int v_land_crows, g_land_now, g_land_past, g_land_pasts, g_land_notes, g_land_marks])), (o_land_placeKind, .inl (y 0, 7, .inl f_land_placeKind)), (o_land_placeX, .inl (y 0, 7, .inl f_land_placeX)), (o_land_placeY, .inl (y 0, 7, .inl f_land_placeY)), (o_land_crowKind, .inl (y 0, 3, .inl f_land_crowKind)), (o_traveller, .inr (1, [.ref o_traveller_at, .ref o_traveller_tired, .ref o_traveller_deedRows, .int v_traveller_deeds, .int x11])), (o_traveller_at, .inl (y 0, 3, .inl f_traveller_at)), (o_traveller_tired, .inl (y 0, 3, .inl f_traveller_tired)), (o_traveller_deedRows, .inl (y 0, 36, .inl f_traveller_deedRows))]) rfl zin_1 rfl tyX1 tyX1_ok nmX1 4 (by decide) tw_1_50 rfl rfl rfl (Nat.le_of_ble_eq_true rfl) dX7_travel_21 rfl (fun H locs hH => ?_)
    refine lv_iconst (v := (0)) K.x K.b dX7_travel_24 (by decide) ?_
    have hr9 := Option.some.inj h
    obtain rfl := hr9
    rw [hQ]
    exact z_reti K hr hH [0, 1, 2, 3, 4, 5, 6, 7, 8, 9] (by decide) rfl rfl rfl dX7_travel_25
noncomputable def p_X7_years (v_bads : Int32) (v_land_places : Int32) (v_land_crows : Int32) (f_land_placeKind : (Nat → Int32)) (f_land_placeX : (Nat → Int32)) (f_land_placeY : (Nat → Int32)) (f_land_crowKind : (Nat → Int32)) (v_land_now_deeds : Int32) (v_land_now_hour : Int32) (f_land_now_at : (Nat → Int32)) (f_land_now_tired : (Nat → Int32)) (f_land_now_deedRows : (Nat → Int32)) (v_traveller_deeds : Int32) (v_traveller_hour : Int32) (f_traveller_at : (Nat → Int32)) (f_traveller_tired : (Nat → Int32)) (f_traveller_deedRows : (Nat → Int32)) (p1 : Int32) (p2 : Int32) : Option (Int32 × Int32 × Int32 × Int32 × (Nat → Int32) × (Nat → Int32) × (Nat → Int32)) :=
  z_bd (p_X7_within p1 (0 : Int32) (999999 : Int32)) fun r1 =>
  if (r1 = 0) then
  (z_bd (p_X7_refuseBad v_bads) fun r4 =>
  some (r4.1, r4.2, v_traveller_deeds, v_traveller_hour, f_traveller_at, f_traveller_tired, f_traveller_deedRows)) else
  (z_bd (p_X7_within p2 (0 : Int32) (60 : Int32)) fun r6 =>
  if (r6 = 0) then
  (z_bd (p_X7_refuseBad v_bads) fun r26 =>
  some (r26.1, r26.2, v_traveller_deeds, v_traveller_hour, f_traveller_at, f_traveller_tired, f_traveller_deedRows)) else
  (z_bd (p_X1_become v_traveller_deeds v_traveller_hour f_traveller_at f_traveller_tired f_traveller_deedRows v_land_now_deeds v_land_now_hour f_land_now_at f_land_now_tired f_land_now_deedRows) fun r9 =>
  z_lt (((p1).toInt64)) fun x11 =>
  z_bd (z_lp (S := Int32 × Int32 × Int64 × Int32 × Int32 × (Nat → Int32) × (Nat → Int32) × (Nat → Int32)) (E := Int32 × Int32 × Int32 × (Nat → Int32) × (Nat → Int32) × (Nat → Int32)) (fun s12 =>
  if (p2 ≤ s12.1) then
  (some (.inr (s12.2.1, s12.2.2.2.1, s12.2.2.2.2.1, s12.2.2.2.2.2.1, s12.2.2.2.2.2.2.1, s12.2.2.2.2.2.2.2))) else
  (z_lt (((s12.2.2.1 * (1103515245 : Int64)) + (12345 : Int64))) fun x16 =>
  z_lt ((x16 - x16 / (2147483648 : Int64) * (2147483648 : Int64))) fun x17 =>
  z_lt ((x17 / (65536 : Int64))) fun x18 =>
  z_lt ((x17 / (1048576 : Int64))) fun x19 =>
  z_lt ((((x19 - x19 / (7 : Int64) * (7 : Int64))).toInt32)) fun x20 =>
  z_lt ((((x18 - x18 / (3 : Int64) * (3 : Int64))).toInt32)) fun x21 =>
  z_bd (p_X7_travel v_land_places v_land_crows f_land_placeKind f_land_placeX f_land_placeY f_land_crowKind s12.2.2.2.1 s12.2.2.2.2.1 s12.2.2.2.2.2.1 s12.2.2.2.2.2.2.1 s12.2.2.2.2.2.2.2 x21 x20) fun r22 =>
  z_lt ((s12.2.1 + r22.1)) fun x24 =>
  z_lt (s12.1 + (1 : Int32)) fun x25 =>
  some (.inl (x25, x24, x17, r22.2.1, r22.2.2.1, r22.2.2.2.1, r22.2.2.2.2.1, r22.2.2.2.2.2)))) ((0 : Int32), (0 : Int32), x11, r9.1, r9.2.1, r9.2.2.1, r9.2.2.2.1, r9.2.2.2.2)) fun e13 =>
  some (e13.1, v_bads, e13.2.1, e13.2.2.1, e13.2.2.2.1, e13.2.2.2.2.1, e13.2.2.2.2.2)))
theorem hd_X7_years : yX7_years.cls = RX7 ∧ yX7_years.cls ≠ "java/lang/invoke/MethodHandle" ∧ yX7_years.cls ≠ "java/lang/invoke/VarHandle" ∧ (parseMethodDescriptor yX7_years.desc).map (fun d => d.parameters.length) = some 2 := by decide +kernel
set_option maxHeartbeats 4000000 in
set_option maxRecDepth 100000 in
theorem c_X7_years (l : Launch) (D : va_G) (y : Nat → ClassId) (o o_land o_land_placeKind o_land_placeX o_land_placeY o_land_crowKind o_land_now o_land_now_at o_land_now_tired o_land_now_deedRows o_traveller o_traveller_at o_traveller_tired o_traveller_deedRows : Nat) (g_images g_kept g_text g_textLength g_above g_below g_nos g_fulls g_roads g_reader g_questions g_land_past g_land_pasts g_land_notes g_land_marks : Value) (v_bads : Int32) (v_land_places : Int32) (v_land_crows : Int32) (f_land_placeKind : (Nat → Int32)) (f_land_placeX : (Nat → Int32)) (f_land_placeY : (Nat → Int32)) (f_land_crowKind : (Nat → Int32)) (v_land_now_deeds : Int32) (v_land_now_hour : Int32) (f_land_now_at : (Nat → Int32)) (f_land_now_tired : (Nat → Int32)) (f_land_now_deedRows : (Nat → Int32)) (v_traveller_deeds : Int32) (v_traveller_hour : Int32) (f_traveller_at : (Nat → Int32)) (f_traveller_tired : (Nat → Int32)) (f_traveller_deedRows : (Nat → Int32)) (p1 : Int32) (p2 : Int32) (r : Int32 × Int32 × Int32 × Int32 × (Nat → Int32) × (Nat → Int32) × (Nat → Int32)) (h : p_X7_years v_bads v_land_places v_land_crows f_land_placeKind f_land_placeX f_land_placeY f_land_crowKind v_land_now_deeds v_land_now_hour f_land_now_at f_land_now_tired f_land_now_deedRows v_traveller_deeds v_traveller_hour f_traveller_at f_traveller_tired f_traveller_deedRows p1 p2 = some r) : z_MI l yX7_years cX7_years 7 (some .int) 5 134 D y [.ref o, .int p1, .int p2] [(o, .inr (6, [.ref o_land, g_images, g_kept, g_text, g_textLength, g_above, g_below, .int v_bads, g_nos, g_fulls, g_roads, g_reader, .ref o_traveller, g_questions])), (o_land, .inr (0, [.ref o_land_placeKind, .ref o_land_placeX, .ref o_land_placeY, .int v_land_places, .ref o_land_crowKind, .int v_land_crows, .ref o_land_now, g_land_past, g_land_pasts, g_land_notes, g_land_marks])), (o_land_placeKind, .inl (y 0, 7, .inl f_land_placeKind)), (o_land_placeX, .inl (y 0, 7, .inl f_land_placeX)), (o_land_placeY, .inl (y 0, 7, .inl f_land_placeY)), (o_land_crowKind, .inl (y 0, 3, .inl f_land_crowKind)), (o_land_now, .inr (1, [.ref o_land_now_at, .ref o_land_now_tired, .ref o_land_now_deedRows, .int v_land_now_deeds, .int v_land_now_hour])), (o_land_now_at, .inl (y 0, 3, .inl f_land_now_at)), (o_land_now_tired, .inl (y 0, 3, .inl f_land_now_tired)), (o_land_now_deedRows, .inl (y 0, 36, .inl f_land_now_deedRows)), (o_traveller, .inr (1, [.ref o_traveller_at, .ref o_traveller_tired, .ref o_traveller_deedRows, .int v_traveller_deeds, .int v_traveller_hour])), (o_traveller_at, .inl (y 0, 3, .inl f_traveller_at)), (o_traveller_tired, .inl (y 0, 3, .inl f_traveller_tired)), (o_traveller_deedRows, .inl (y 0, 36, .inl f_traveller_deedRows))] r.1 [(o, .inr (6, [.ref o_land, g_images, g_kept, g_text, g_textLength, g_above, g_below, .int r.2.1, g_nos, g_fulls, g_roads, g_reader, .ref o_traveller, g_questions])), (o_land, .inr (0, [.ref o_land_placeKind, .ref o_land_placeX, .ref o_land_placeY, .int v_land_places, .ref o_land_crowKind, .int v_land_crows, .ref o_land_now, g_land_past, g_land_pasts, g_land_notes, g_land_marks])), (o_land_placeKind, .inl (y 0, 7, .inl f_land_placeKind)), (o_land_placeX, .inl (y 0, 7, .inl f_land_placeX)), (o_land_placeY, .inl (y 0, 7, .inl f_land_placeY)), (o_land_crowKind, .inl (y 0, 3, .inl f_land_crowKind)), (o_land_now, .inr (1, [.ref o_land_now_at, .ref o_land_now_tired, .ref o_land_now_deedRows, .int v_land_now_deeds, .int v_land_now_hour])), (o_land_now_at, .inl (y 0, 3, .inl f_land_now_at)), (o_land_now_tired, .inl (y 0, 3, .inl f_land_now_tired)), (o_land_now_deedRows, .inl (y 0, 36, .inl f_land_now_deedRows)), (o_traveller, .inr (1, [.ref o_traveller_at, .ref o_traveller_tired, .ref o_traveller_deedRows, .int r.2.2.1, .int r.2.2.2.1])), (o_traveller_at, .inl (y 0, 3, .inl r.2.2.2.2.1)), (o_traveller_tired, .inl (y 0, 3, .inl r.2.2.2.2.2.1)), (o_traveller_deedRows, .inl (y 0, 36, .inl r.2.2.2.2.2.2))] := by
  unfold p_X7_years at h
  refine z_enI (by decide) (Nat.le_of_ble_eq_true rfl) ?_
  intro p e s m args below meth c A ls hr K hH hl
  obtain ⟨Q, hQ⟩ : ∃ Q, Q = MQ below (z_Qi D y A r.1 [(o, .inr (6, [.ref o_land, g_images, g_kept, g_text, g_textLength, g_above, g_below, .int r.2.1, g_nos, g_fulls, g_roads, g_reader, .ref o_traveller, g_questions])), (o_land, .inr (0, [.ref o_land_placeKind, .ref o_land_placeX, .ref o_land_placeY, .int v_land_places, .ref o_land_crowKind, .int v_land_crows, .ref o_land_now, g_land_past, g_land_pasts, g_land_notes, g_land_marks])), (o_land_placeKind, .inl (y 0, 7, .inl f_land_placeKind)), (o_land_placeX, .inl (y 0, 7, .inl f_land_placeX)), (o_land_placeY, .inl (y 0, 7, .inl f_land_placeY)), (o_land_crowKind, .inl (y 0, 3, .inl f_land_crowKind)), (o_land_now, .inr (1, [.ref o_land_now_at, .ref o_land_now_tired, .ref o_land_now_deedRows, .int v_land_now_deeds, .int v_land_now_hour])), (o_land_now_at, .inl (y 0, 3, .inl f_land_now_at)), (o_land_now_tired, .inl (y 0, 3, .inl f_land_now_tired)), (o_land_now_deedRows, .inl (y 0, 36, .inl f_land_now_deedRows)), (o_traveller, .inr (1, [.ref o_traveller_at, .ref o_traveller_tired, .ref o_traveller_deedRows, .int r.2.2.1, .int r.2.2.2.1])), (o_traveller_at, .inl (y 0, 3, .inl r.2.2.2.2.1)), (o_traveller_tired, .inl (y 0, 3, .inl r.2.2.2.2.2.1)), (o_traveller_deedRows, .inl (y 0, 36, .inl r.2.2.2.2.2.2))]) args s 0 0 A := ⟨_, rfl⟩
  rw [← hQ]
  have hl : lv_has ls 7 [(0, .ref o), (1, .int p1), (2, .int p2)] := hl
  refine lv_iload_n K.x K.b dX7_years_0 rfl (lv_at hl 1 rfl) ?_
  refine lv_iconst (v := (0)) K.x K.b dX7_years_1 (by decide) ?_
  refine z_ldc K tw_4_25 dX7_years_2 ?_
  obtain ⟨r1, hr2, h⟩ := z_bd_e h
  refine z_Si K hH hl.1 (c_X7_within l D y p1 (0 : Int32) (999999 : Int32) r1 hr2) (z_cwS K 3 tw_2_15 tw_2_16 tw_1_1 tw_2_17 hd_X7_within ⟨by decide, by decide⟩) rfl (As := [.int p1, .int (0 : Int32), .int (999999 : Int32)]) (rest := []) rfl (Nat.le_of_ble_eq_true rfl) ⟨Nat.zero_le _, Nat.zero_le _⟩ dX7_years_4 (fun H locs hH => ?_)
  refine lv_if_eq (tgt := 20) K.x K.b dX7_years_7 (by decide) (fun c3 => ?_) (fun c3 => ?_)
  · replace h := z_t c3 h
    refine lv_aload_n K.x K.b dX7_years_20 rfl (lv_at hl 0 rfl) ?_
    obtain ⟨r4, hr5, h⟩ := z_bd_e h
    refine z_Vi K hH hl.1 (c_X7_refuseBad l D y o (.ref o_land) (g_images) (g_kept) (g_text) (g_textLength) (g_above) (g_below) (g_nos) (g_fulls) (g_roads) (g_reader) (.ref o_traveller) (g_questions) v_bads r4 hr5) (z_cwV K 0 tw_2_18 tw_2_20 tw_0_0 tw_1_1 tw_2_21 hd_X7_refuseBad ⟨by decide, by decide⟩) [0] [1, 2, 3, 4, 5, 6, 7, 8, 9, 10, 11, 12, 13] rfl (wr := [(o_land, .inr (0, [.ref o_land_placeKind, .ref o_land_placeX, .ref o_land_placeY, .int v_land_places, .ref o_land_crowKind, .int v_land_crows, .ref o_land_now, g_land_past, g_land_pasts, g_land_notes, g_land_marks])), (o_land_placeKind, .inl (y 0, 7, .inl f_land_placeKind)), (o_land_placeX, .inl (y 0, 7, .inl f_land_placeX)), (o_land_placeY, .inl (y 0, 7, .inl f_land_placeY)), (o_land_crowKind, .inl (y 0, 3, .inl f_land_crowKind)), (o_land_now, .inr (1, [.ref o_land_now_at, .ref o_land_now_tired, .ref o_land_now_deedRows, .int v_land_now_deeds, .int v_land_now_hour])), (o_land_now_at, .inl (y 0, 3, .inl f_land_now_at)), (o_land_now_tired, .inl (y 0, 3, .inl f_land_now_tired)), (o_land_now_deedRows, .inl (y 0, 36, .inl f_land_now_deedRows)), (o_traveller, .inr (1, [.ref o_traveller_at, .ref o_traveller_tired, .ref o_traveller_deedRows, .int v_traveller_deeds, .int v_traveller_hour])), (o_traveller_at, .inl (y 0, 3, .inl f_traveller_at)), (o_traveller_tired, .inl (y 0, 3, .inl f_traveller_tired)), (o_traveller_deedRows, .inl (y 0, 36, .inl f_traveller_deedRows))]) rfl rfl rfl (by decide) rfl rfl rfl (As := []) (rest := []) rfl (Nat.le_of_ble_eq_true rfl) ⟨Nat.zero_le _, Nat.zero_le _⟩ dX7_years_21 (ws' := [(o_land, .inr (0, [.ref o_land_placeKind, .ref o_land_placeX, .ref o_land_placeY, .int v_land_places, .ref o_land_crowKind, .int v_land_crows, .ref o_land_now, g_land_past, g_land_pasts, g_land_notes, g_land_marks])), (o_land_placeKind, .inl (y 0, 7, .inl f_land_placeKind)), (o_land_placeX, .inl (y 0, 7, .inl f_land_placeX)), (o_land_placeY, .inl (y 0, 7, .inl f_land_placeY)), (o_land_crowKind, .inl (y 0, 3, .inl f_land_crowKind)), (o_land_now, .inr (1, [.ref o_land_now_at, .ref o_land_now_tired, .ref o_land_now_deedRows, .int v_land_now_deeds, .int v_land_now_hour])), (o_land_now_at, .inl (y 0, 3, .inl f_land_now_at)), (o_land_now_tired, .inl (y 0, 3, .inl f_land_now_tired)), (o_land_now_deedRows, .inl (y 0, 36, .inl f_land_now_deedRows)), (o_traveller, .inr (1, [.ref o_traveller_at, .ref o_traveller_tired, .ref o_traveller_deedRows, .int v_traveller_deeds, .int v_traveller_hour])), (o_traveller_at, .inl (y 0, 3, .inl f_traveller_at)), (o_traveller_tired, .inl (y 0, 3, .inl f_traveller_tired)), (o_traveller_deedRows, .inl (y 0, 36, .inl f_traveller_deedRows)), (o, .inr (6, [.ref o_land, g_images, g_kept, g_text, g_textLength, g_above, g_below, .int r4.2, g_nos, g_fulls, g_roads, g_reader, .ref o_traveller, g_questions]))]) rfl (fun H locs hH => ?_)
    have hr9 := Option.some.inj h
    obtain rfl := hr9
    rw [hQ]
    exact z_reti K hr hH [13, 0, 1, 2, 3, 4, 5, 6, 7, 8, 9, 10, 11, 12] (by decide) rfl rfl rfl dX7_years_24
  · replace h := z_f c3 h
    refine lv_iload_n K.x K.b dX7_years_10 rfl (lv_at hl 2 rfl) ?_
    refine lv_iconst (v := (0)) K.x K.b dX7_years_11 (by decide) ?_
    refine lv_bipush (v := (60)) K.x K.b dX7_years_12 (by decide) ?_
    obtain ⟨r6, hr7, h⟩ := z_bd_e h
    refine z_Si K hH hl.1 (c_X7_within l D y p2 (0 : Int32) (60 : Int32) r6 hr7) (z_cwS K 3 tw_2_15 tw_2_16 tw_1_1 tw_2_17 hd_X7_within ⟨by decide, by decide⟩) rfl (As := [.int p2, .int (0 : Int32), .int (60 : Int32)]) (rest := []) rfl (Nat.le_of_ble_eq_true rfl) ⟨Nat.zero_le _, Nat.zero_le _⟩ dX7_years_14 (fun H locs hH => ?_)
    refine lv_if_ne (tgt := 25) K.x K.b dX7_years_17 (by decide) (fun c8 => ?_) (fun c8 => ?_)
    · replace h := z_f c8 h
      refine lv_aload_n K.x K.b dX7_years_25 rfl (lv_at hl 0 rfl) ?_
      refine z_get K hH 0 rfl zin_7 rfl 12 (by decide) tw_1_209 (v := .ref o_traveller) rfl dX7_years_26 ?_
      refine lv_aload_n K.x K.b dX7_years_29 rfl (lv_at hl 0 rfl) ?_
      refine z_get K hH 0 rfl zin_7 rfl 0 (by decide) tw_1_197 (v := .ref o_land) rfl dX7_years_30 ?_
      refine z_get K hH 1 rfl zin_0 rfl 6 (by decide) tw_1_95 (v := .ref o_land_now) rfl dX7_years_33 ?_
      obtain ⟨r9, hr10, h⟩ := z_bd_e h
      refine z_Vv K hH hl.1 (c_X1_become l D y o_traveller o_traveller_at o_traveller_tired o_traveller_deedRows o_land_now o_land_now_at o_land_now_tired o_land_now_deedRows v_traveller_deeds v_traveller_hour f_traveller_at f_traveller_tired f_traveller_deedRows v_land_now_deeds v_land_now_hour f_land_now_at f_land_now_tired f_land_now_deedRows r9 hr10) (z_cwV K 1 tw_4_26 tw_2_211 tw_2_212 tw_1_3 tw_2_213 hd_X1_become ⟨by decide, by decide⟩) [10, 11, 12, 13, 6, 7, 8, 9] [0, 1, 2, 3, 4, 5] rfl (wr := [(o, .inr (6, [.ref o_land, g_images, g_kept, g_text, g_textLength, g_above, g_below, .int v_bads, g_nos, g_fulls, g_roads, g_reader, .ref o_traveller, g_questions])), (o_land, .inr (0, [.ref o_land_placeKind, .ref o_land_placeX, .ref o_land_placeY, .int v_land_places, .ref o_land_crowKind, .int v_land_crows, .ref o_land_now, g_land_past, g_land_pasts, g_land_notes, g_land_marks])), (o_land_placeKind, .inl (y 0, 7, .inl f_land_placeKind)), (o_land_placeX, .inl (y 0, 7, .inl f_land_placeX)), (o_land_placeY, .inl (y 0, 7, .inl f_land_placeY)), (o_land_crowKind, .inl (y 0, 3, .inl f_land_crowKind))]) rfl rfl rfl (by decide) rfl rfl rfl (As := [.ref o_land_now]) (rest := []) rfl (Nat.le_of_ble_eq_true rfl) ⟨Nat.zero_le _, Nat.zero_le _⟩ dX7_years_36 (ws' := [(o, .inr (6, [.ref o_land, g_images, g_kept, g_text, g_textLength, g_above, g_below, .int v_bads, g_nos, g_fulls, g_roads, g_reader, .ref o_traveller, g_questions])), (o_land, .inr (0, [.ref o_land_placeKind, .ref o_land_placeX, .ref o_land_placeY, .int v_land_places, .ref o_land_crowKind, .int v_land_crows, .ref o_land_now, g_land_past, g_land_pasts, g_land_notes, g_land_marks])), (o_land_placeKind, .inl (y 0, 7, .inl f_land_placeKind)), (o_land_placeX, .inl (y 0, 7, .inl f_land_placeX)), (o_land_placeY, .inl (y 0, 7, .inl f_land_placeY)), (o_land_crowKind, .inl (y 0, 3, .inl f_land_crowKind)), (o_traveller, .inr (1, [.ref o_traveller_at, .ref o_traveller_tired, .ref o_traveller_deedRows, .int r9.1, .int r9.2.1])), (o_traveller_at, .inl (y 0, 3, .inl r9.2.2.1)), (o_traveller_tired, .inl (y 0, 3, .inl r9.2.2.2.1)), (o_traveller_deedRows, .inl (y 0, 36, .inl r9.2.2.2.2)), (o_land_now, .inr (1, [.ref o_land_now_at, .ref o_land_now_tired, .ref o_land_now_deedRows, .int v_land_now_deeds, .int v_land_now_hour])), (o_land_now_at, .inl (y 0, 3, .inl f_land_now_at)), (o_land_now_tired, .inl (y 0, 3, .inl f_land_now_tired)), (o_land_now_deedRows, .inl (y 0, 36, .inl f_land_now_deedRows))]) rfl (fun H locs hH => ?_)
      refine lv_iload_n K.x K.b dX7_years_39 rfl (lv_at hl 1 rfl) ?_
      refine lv_i2l K.x K.b dX7_years_40 rfl ?_
      obtain ⟨x11, ex11, h⟩ := z_lt_e h
      refine z_nml ex11 ?_
      refine lv_lstore_n (lv' := [(3, .long x11), (0, .ref o), (1, .int p1), (2, .int p2)]) K.x K.b dX7_years_41 rfl hl (by decide) rfl (fun ls hl => ?_)
      refine lv_iconst (v := (0)) K.x K.b dX7_years_42 (by decide) ?_
      refine lv_istore (lv' := [(5, .int (0 : Int32)), (3, .long x11), (0, .ref o), (1, .int p1), (2, .int p2)]) K.x K.b dX7_years_43 hl (by decide) rfl (fun ls hl => ?_)
      refine lv_iconst (v := (0)) K.x K.b dX7_years_45 (by decide) ?_
      refine lv_istore (lv' := [(6, .int (0 : Int32)), (5, .int (0 : Int32)), (3, .long x11), (0, .ref o), (1, .int p1), (2, .int p2)]) K.x K.b dX7_years_46 hl (by decide) rfl (fun ls hl => ?_)
      obtain ⟨e13, hlpe13, h⟩ := z_bd_e h
      have KEe13 : ∀ (H : Heap) (locs : List Loc) (ls : Array Slot), z_H D A s.heap [(o, .inr (6, [.ref o_land, g_images, g_kept, g_text, g_textLength, g_above, g_below, .int v_bads, g_nos, g_fulls, g_roads, g_reader, .ref o_traveller, g_questions])), (o_land, .inr (0, [.ref o_land_placeKind, .ref o_land_placeX, .ref o_land_placeY, .int v_land_places, .ref o_land_crowKind, .int v_land_crows, .ref o_land_now, g_land_past, g_land_pasts, g_land_notes, g_land_marks])), (o_land_placeKind, .inl (y 0, 7, .inl f_land_placeKind)), (o_land_placeX, .inl (y 0, 7, .inl f_land_placeX)), (o_land_placeY, .inl (y 0, 7, .inl f_land_placeY)), (o_land_crowKind, .inl (y 0, 3, .inl f_land_crowKind)), (o_traveller, .inr (1, [.ref o_traveller_at, .ref o_traveller_tired, .ref o_traveller_deedRows, .int e13.2.1, .int e13.2.2.1])), (o_traveller_at, .inl (y 0, 3, .inl e13.2.2.2.1)), (o_traveller_tired, .inl (y 0, 3, .inl e13.2.2.2.2.1)), (o_traveller_deedRows, .inl (y 0, 36, .inl e13.2.2.2.2.2)), (o_land_now, .inr (1, [.ref o_land_now_at, .ref o_land_now_tired, .ref o_land_now_deedRows, .int v_land_now_deeds, .int v_land_now_hour])), (o_land_now_at, .inl (y 0, 3, .inl f_land_now_at)), (o_land_now_tired, .inl (y 0, 3, .inl f_land_now_tired)), (o_land_now_deedRows, .inl (y 0, 36, .inl f_land_now_deedRows))] H locs → lv_has ls 7 [(5, .int e13.1)] → W p l e (zR 5 134) s m args below meth c H locs 0 0 Q (F0 m 103 ls []) := by
        intro H locs ls hH hl
        refine lv_iload K.x K.b dX7_years_103 (lv_at hl 0 rfl) ?_
        have hr9 := Option.some.inj h
        obtain rfl := hr9
        rw [hQ]
        exact z_reti K hr hH [0, 1, 2, 3, 4, 5, 10, 11, 12, 13, 6, 7, 8, 9] (by decide) rfl rfl rfl dX7_years_105
      refine z_lp_ind (P := fun (s12 : Int32 × Int32 × Int64 × Int32 × Int32 × (Nat → Int32) × (Nat → Int32) × (Nat → Int32)) => ∀ (H : Heap) (locs : List Loc) (ls : Array Slot), z_H D A s.heap [(o, .inr (6, [.ref o_land, g_images, g_kept, g_text, g_textLength, g_above, g_below, .int v_bads, g_nos, g_fulls, g_roads, g_reader, .ref o_traveller, g_questions])), (o_land, .inr (0, [.ref o_land_placeKind, .ref o_land_placeX, .ref o_land_placeY, .int v_land_places, .ref o_land_crowKind, .int v_land_crows, .ref o_land_now, g_land_past, g_land_pasts, g_land_notes, g_land_marks])), (o_land_placeKind, .inl (y 0, 7, .inl f_land_placeKind)), (o_land_placeX, .inl (y 0, 7, .inl f_land_placeX)), (o_land_placeY, .inl (y 0, 7, .inl f_land_placeY)), (o_land_crowKind, .inl (y 0, 3, .inl f_land_crowKind)), (o_traveller, .inr (1, [.ref o_traveller_at, .ref o_traveller_tired, .ref o_traveller_deedRows, .int s12.2.2.2.1, .int s12.2.2.2.2.1])), (o_traveller_at, .inl (y 0, 3, .inl s12.2.2.2.2.2.1)), (o_traveller_tired, .inl (y 0, 3, .inl s12.2.2.2.2.2.2.1)), (o_traveller_deedRows, .inl (y 0, 36, .inl s12.2.2.2.2.2.2.2)), (o_land_now, .inr (1, [.ref o_land_now_at, .ref o_land_now_tired, .ref o_land_now_deedRows, .int v_land_now_deeds, .int v_land_now_hour])), (o_land_now_at, .inl (y 0, 3, .inl f_land_now_at)), (o_land_now_tired, .inl (y 0, 3, .inl f_land_now_tired)), (o_land_now_deedRows, .inl (y 0, 36, .inl f_land_now_deedRows))] H locs → lv_has ls 7 [(0, .ref o), (2, .int p2), (3, .long s12.2.2.1), (5, .int s12.2.1), (6, .int s12.1)] → W p l e (zR 5 134) s m args below meth c H locs 0 0 Q (F0 m 48 ls [])) ?_ _ hlpe13 _ _ _ hH (lv_sub hl [3, 5, 2, 1, 0] rfl)
      clear h hlpe13
      intro s12 x14 h ihe13 hee13 H locs ls hH hl
      refine lv_iload K.x K.b dX7_years_48 (lv_at hl 4 rfl) ?_
      refine lv_iload_n K.x K.b dX7_years_50 rfl (lv_at hl 1 rfl) ?_
      refine lv_icmp_ge (tgt := 103) K.x K.b dX7_years_51 (by decide) (fun c15 => ?_) (fun c15 => ?_)
      · replace h := z_t c15 h
        obtain rfl := hee13 _ (Option.some.inj h).symm
        exact KEe13 _ _ _ hH (lv_sub hl [3] rfl)
      · replace h := z_f c15 h
        refine lv_lload_n K.x K.b dX7_years_54 rfl (lv_at hl 2 rfl) ?_
        refine z_ldc2 K tw_4_27 dX7_years_55 ?_
        refine lv_lmul K.x K.b dX7_years_58 ?_
        refine z_ldc2 K tw_4_28 dX7_years_59 ?_
        refine lv_ladd K.x K.b dX7_years_62 ?_
        refine z_ldc2 K tw_4_29 dX7_years_63 ?_
        obtain ⟨x16, ex16, h⟩ := z_lt_e h
        refine z_nml2 ex16 ?_
        refine lv_lrem K.x K.b dX7_years_66 (by decide) ?_
        obtain ⟨x17, ex17, h⟩ := z_lt_e h
        refine z_nml ex17 ?_
        refine lv_lstore_n (lv' := [(3, .long x17), (0, .ref o), (2, .int p2), (5, .int s12.2.1), (6, .int s12.1)]) K.x K.b dX7_years_67 rfl hl (by decide) rfl (fun ls hl => ?_)
        refine lv_iload K.x K.b dX7_years_68 (lv_at hl 3 rfl) ?_
        refine lv_aload_n K.x K.b dX7_years_70 rfl (lv_at hl 1 rfl) ?_
        refine lv_lload_n K.x K.b dX7_years_71 rfl (lv_at hl 0 rfl) ?_
        refine z_ldc2 K tw_4_30 dX7_years_72 ?_
        refine lv_ldiv K.x K.b dX7_years_75 (by decide) ?_
        refine z_ldc2 K tw_4_31 dX7_years_76 ?_
        obtain ⟨x18, ex18, h⟩ := z_lt_e h
        refine z_nml2 ex18 ?_
        refine lv_lrem K.x K.b dX7_years_79 (by decide) ?_
        refine lv_l2i K.x K.b dX7_years_80 rfl ?_
        refine lv_lload_n K.x K.b dX7_years_81 rfl (lv_at hl 0 rfl) ?_
        refine z_ldc2 K tw_4_32 dX7_years_82 ?_
        refine lv_ldiv K.x K.b dX7_years_85 (by decide) ?_
        refine z_ldc2 K tw_4_33 dX7_years_86 ?_
        obtain ⟨x19, ex19, h⟩ := z_lt_e h
        refine z_nml2 ex19 ?_
        refine lv_lrem K.x K.b dX7_years_89 (by decide) ?_
        refine lv_l2i K.x K.b dX7_years_90 rfl ?_
        obtain ⟨x20, ex20, h⟩ := z_lt_e h
        refine z_nm ex20 ?_
        obtain ⟨x21, ex21, h⟩ := z_lt_e h
        refine z_nm2 ex21 ?_
        obtain ⟨r22, hr23, h⟩ := z_bd_e h
        refine z_Vi K hH hl.1 (c_X7_travel l D y o o_land o_land_placeKind o_land_placeX o_land_placeY o_land_crowKind o_traveller o_traveller_at o_traveller_tired o_traveller_deedRows (g_images) (g_kept) (g_text) (g_textLength) (g_above) (g_below) (.int v_bads) (g_nos) (g_fulls) (g_roads) (g_reader) (g_questions) (.ref o_land_now) (g_land_past) (g_land_pasts) (g_land_notes) (g_land_marks) v_land_places v_land_crows f_land_placeKind f_land_placeX f_land_placeY f_land_crowKind s12.2.2.2.1 s12.2.2.2.2.1 s12.2.2.2.2.2.1 s12.2.2.2.2.2.2.1 s12.2.2.2.2.2.2.2 x21 x20 r22 hr23) (z_cwV K 2 tw_4_34 tw_4_36 tw_0_34 tw_1_1 tw_4_37 hd_X7_travel ⟨by decide, by decide⟩) [0, 1, 2, 3, 4, 5, 6, 7, 8, 9] [10, 11, 12, 13] rfl (wr := [(o_land_now, .inr (1, [.ref o_land_now_at, .ref o_land_now_tired, .ref o_land_now_deedRows, .int v_land_now_deeds, .int v_land_now_hour])), (o_land_now_at, .inl (y 0, 3, .inl f_land_now_at)), (o_land_now_tired, .inl (y 0, 3, .inl f_land_now_tired)), (o_land_now_deedRows, .inl (y 0, 36, .inl f_land_now_deedRows))]) rfl rfl rfl (by decide) rfl rfl rfl (As := [.int x21, .int x20]) (rest := [.int s12.2.1]) rfl (Nat.le_of_ble_eq_true rfl) ⟨Nat.zero_le _, Nat.zero_le _⟩ dX7_years_91 (ws' := [(o_land_now, .inr (1, [.ref o_land_now_at, .ref o_land_now_tired, .ref o_land_now_deedRows, .int v_land_now_deeds, .int v_land_now_hour])), (o_land_now_at, .inl (y 0, 3, .inl f_land_now_at)), (o_land_now_tired, .inl (y 0, 3, .inl f_land_now_tired)), (o_land_now_deedRows, .inl (y 0, 36, .inl f_land_now_deedRows)), (o, .inr (6, [.ref o_land, g_images, g_kept, g_text, g_textLength, g_above, g_below, .int v_bads, g_nos, g_fulls, g_roads, g_reader, .ref o_traveller, g_questions])), (o_land, .inr (0, [.ref o_land_placeKind, .ref o_land_placeX, .ref o_land_placeY, .int v_land_places, .ref o_land_crowKind, .int v_land_crows, .ref o_land_now, g_land_past, g_land_pasts, g_land_notes, g_land_marks])), (o_land_placeKind, .inl (y 0, 7, .inl f_land_placeKind)), (o_land_placeX, .inl (y 0, 7, .inl f_land_placeX)), (o_land_placeY, .inl (y 0, 7, .inl f_land_placeY)), (o_land_crowKind, .inl (y 0, 3, .inl f_land_crowKind)), (o_traveller, .inr (1, [.ref o_traveller_at, .ref o_traveller_tired, .ref o_traveller_deedRows, .int r22.2.1, .int r22.2.2.1])), (o_traveller_at, .inl (y 0, 3, .inl r22.2.2.2.1)), (o_traveller_tired, .inl (y 0, 3, .inl r22.2.2.2.2.1)), (o_traveller_deedRows, .inl (y 0, 36, .inl r22.2.2.2.2.2))]) rfl (fun H locs hH => ?_)
        refine lv_iadd K.x K.b dX7_years_94 ?_
        obtain ⟨x24, ex24, h⟩ := z_lt_e h
        refine z_nm ex24 ?_
        refine lv_istore (lv' := [(5, .int x24), (3, .long x17), (0, .ref o), (2, .int p2), (6, .int s12.1)]) K.x K.b dX7_years_95 hl (by decide) rfl (fun ls hl => ?_)
        obtain ⟨x25, ex25, h⟩ := z_lt_e h
        refine lv_iinc (v := x25) (lv' := [(6, .int x25), (5, .int x24), (3, .long x17), (0, .ref o), (2, .int p2)]) K.x K.b dX7_years_97 hl (k := 4) rfl (by rw [ex25]; rfl) (by decide) rfl (fun ls hl => ?_)
        refine lv_goto (tgt := 48) K.x K.b dX7_years_100 (by decide) ?_
        exact ihe13 _ (Option.some.inj h).symm _ _ _ (hH.sub [4, 5, 6, 7, 8, 9, 10, 11, 12, 13, 0, 1, 2, 3] (by decide) rfl) (lv_sub hl [3, 4, 2, 1, 0] rfl)
    · replace h := z_t c8 h
      refine lv_aload_n K.x K.b dX7_years_20 rfl (lv_at hl 0 rfl) ?_
      obtain ⟨r26, hr27, h⟩ := z_bd_e h
      refine z_Vi K hH hl.1 (c_X7_refuseBad l D y o (.ref o_land) (g_images) (g_kept) (g_text) (g_textLength) (g_above) (g_below) (g_nos) (g_fulls) (g_roads) (g_reader) (.ref o_traveller) (g_questions) v_bads r26 hr27) (z_cwV K 0 tw_2_18 tw_2_20 tw_0_0 tw_1_1 tw_2_21 hd_X7_refuseBad ⟨by decide, by decide⟩) [0] [1, 2, 3, 4, 5, 6, 7, 8, 9, 10, 11, 12, 13] rfl (wr := [(o_land, .inr (0, [.ref o_land_placeKind, .ref o_land_placeX, .ref o_land_placeY, .int v_land_places, .ref o_land_crowKind, .int v_land_crows, .ref o_land_now, g_land_past, g_land_pasts, g_land_notes, g_land_marks])), (o_land_placeKind, .inl (y 0, 7, .inl f_land_placeKind)), (o_land_placeX, .inl (y 0, 7, .inl f_land_placeX)), (o_land_placeY, .inl (y 0, 7, .inl f_land_placeY)), (o_land_crowKind, .inl (y 0, 3, .inl f_land_crowKind)), (o_land_now, .inr (1, [.ref o_land_now_at, .ref o_land_now_tired, .ref o_land_now_deedRows, .int v_land_now_deeds, .int v_land_now_hour])), (o_land_now_at, .inl (y 0, 3, .inl f_land_now_at)), (o_land_now_tired, .inl (y 0, 3, .inl f_land_now_tired)), (o_land_now_deedRows, .inl (y 0, 36, .inl f_land_now_deedRows)), (o_traveller, .inr (1, [.ref o_traveller_at, .ref o_traveller_tired, .ref o_traveller_deedRows, .int v_traveller_deeds, .int v_traveller_hour])), (o_traveller_at, .inl (y 0, 3, .inl f_traveller_at)), (o_traveller_tired, .inl (y 0, 3, .inl f_traveller_tired)), (o_traveller_deedRows, .inl (y 0, 36, .inl f_traveller_deedRows))]) rfl rfl rfl (by decide) rfl rfl rfl (As := []) (rest := []) rfl (Nat.le_of_ble_eq_true rfl) ⟨Nat.zero_le _, Nat.zero_le _⟩ dX7_years_21 (ws' := [(o_land, .inr (0, [.ref o_land_placeKind, .ref o_land_placeX, .ref o_land_placeY, .int v_land_places, .ref o_land_crowKind, .int v_land_crows, .ref o_land_now, g_land_past, g_land_pasts, g_land_notes, g_land_marks])), (o_land_placeKind, .inl (y 0, 7, .inl f_land_placeKind)), (o_land_placeX, .inl (y 0, 7, .inl f_land_placeX)), (o_land_placeY, .inl (y 0, 7, .inl f_land_placeY)), (o_land_crowKind, .inl (y 0, 3, .inl f_land_crowKind)), (o_land_now, .inr (1, [.ref o_land_now_at, .ref o_land_now_tired, .ref o_land_now_deedRows, .int v_land_now_deeds, .int v_land_now_hour])), (o_land_now_at, .inl (y 0, 3, .inl f_land_now_at)), (o_land_now_tired, .inl (y 0, 3, .inl f_land_now_tired)), (o_land_now_deedRows, .inl (y 0, 36, .inl f_land_now_deedRows)), (o_traveller, .inr (1, [.ref o_traveller_at, .ref o_traveller_tired, .ref o_traveller_deedRows, .int v_traveller_deeds, .int v_traveller_hour])), (o_traveller_at, .inl (y 0, 3, .inl f_traveller_at)), (o_traveller_tired, .inl (y 0, 3, .inl f_traveller_tired)), (o_traveller_deedRows, .inl (y 0, 36, .inl f_traveller_deedRows)), (o, .inr (6, [.ref o_land, g_images, g_kept, g_text, g_textLength, g_above, g_below, .int r26.2, g_nos, g_fulls, g_roads, g_reader, .ref o_traveller, g_questions]))]) rfl (fun H locs hH => ?_)
      have hr9 := Option.some.inj h
      obtain rfl := hr9
      rw [hQ]
      exact z_reti K hr hH [13, 0, 1, 2, 3, 4, 5, 6, 7, 8, 9, 10, 11, 12] (by decide) rfl rfl rfl dX7_years_24
def p_X7_part (v_above : Int32) (v_below : Int32) (v_bads : Int32) (p1 : Int32) : Option (Int64 × Int32) :=
  if (p1 = 0) then
  (some (((v_above).toInt64), v_bads)) else
  (z_bd (α := Int64 × Int32) (if (p1 = (1 : Int32)) then
  (some (((v_below).toInt64), v_bads)) else
  (z_bd (p_X7_refuseBad v_bads) fun r4 =>
  some (((r4.1).toInt64), r4.2))) fun j2 =>
  some (j2.1, j2.2))
theorem hd_X7_part : yX7_part.cls = RX7 ∧ yX7_part.cls ≠ "java/lang/invoke/MethodHandle" ∧ yX7_part.cls ≠ "java/lang/invoke/VarHandle" ∧ (parseMethodDescriptor yX7_part.desc).map (fun d => d.parameters.length) = some 1 := by decide +kernel
set_option maxHeartbeats 4000000 in
set_option maxRecDepth 100000 in
theorem c_X7_part (l : Launch) (D : va_G) (y : Nat → ClassId) (o : Nat) (g_land g_images g_kept g_text g_textLength g_nos g_fulls g_roads g_reader g_traveller g_questions : Value) (v_above : Int32) (v_below : Int32) (v_bads : Int32) (p1 : Int32) (r : Int64 × Int32) (h : p_X7_part v_above v_below v_bads p1 = some r) : z_ML l yX7_part cX7_part 2 (some .long) 1 20 D y [.ref o, .int p1] [(o, .inr (6, [g_land, g_images, g_kept, g_text, g_textLength, .int v_above, .int v_below, .int v_bads, g_nos, g_fulls, g_roads, g_reader, g_traveller, g_questions]))] r.1 [(o, .inr (6, [g_land, g_images, g_kept, g_text, g_textLength, .int v_above, .int v_below, .int r.2, g_nos, g_fulls, g_roads, g_reader, g_traveller, g_questions]))] := by
  unfold p_X7_part at h
  refine z_enL (by decide) (Nat.le_of_ble_eq_true rfl) ?_
  intro p e s m args below meth c A ls hr K hH hl
  obtain ⟨Q, hQ⟩ : ∃ Q, Q = MQ below (z_Ql D y A r.1 [(o, .inr (6, [g_land, g_images, g_kept, g_text, g_textLength, .int v_above, .int v_below, .int r.2, g_nos, g_fulls, g_roads, g_reader, g_traveller, g_questions]))]) args s 0 0 A := ⟨_, rfl⟩
  rw [← hQ]
  have hl : lv_has ls 2 [(0, .ref o), (1, .int p1)] := hl
  refine lv_iload_n K.x K.b dX7_part_0 rfl (lv_at hl 1 rfl) ?_
  refine lv_if_ne (tgt := 10) K.x K.b dX7_part_1 (by decide) (fun c1 => ?_) (fun c1 => ?_)
  · replace h := z_f c1 h
    refine lv_iload_n K.x K.b dX7_part_10 rfl (lv_at hl 1 rfl) ?_
    refine lv_iconst (v := (1)) K.x K.b dX7_part_11 (by decide) ?_
    obtain ⟨j2, hj2, h⟩ := z_bd_e h
    have Kj2 : ∀ (H : Heap) (locs : List Loc) (ls : Array Slot), z_H D A s.heap [(o, .inr (6, [g_land, g_images, g_kept, g_text, g_textLength, .int v_above, .int v_below, .int j2.2, g_nos, g_fulls, g_roads, g_reader, g_traveller, g_questions]))] H locs → lv_has ls 2 [] → W p l e (zR 1 20) s m args below meth c H locs 0 0 Q (F0 m 28 ls [.long j2.1]) := by
      intro H locs ls hH hl
      have hr9 := Option.some.inj h
      obtain rfl := hr9
      rw [hQ]
      exact z_retl K hr hH [0] (by decide) rfl rfl dX7_part_28
    replace h := hj2
    refine lv_icmp_ne (tgt := 23) K.x K.b dX7_part_12 (by decide) (fun c3 => ?_) (fun c3 => ?_)
    · replace h := z_f c3 h
      refine lv_aload_n K.x K.b dX7_part_23 rfl (lv_at hl 0 rfl) ?_
      obtain ⟨r4, hr5, h⟩ := z_bd_e h
      refine z_Vi K hH hl.1 (c_X7_refuseBad l D y o (g_land) (g_images) (g_kept) (g_text) (g_textLength) (.int v_above) (.int v_below) (g_nos) (g_fulls) (g_roads) (g_reader) (g_traveller) (g_questions) v_bads r4 hr5) (z_cwV K 0 tw_2_18 tw_2_20 tw_0_0 tw_1_1 tw_2_21 hd_X7_refuseBad ⟨by decide, by decide⟩) [0] [] rfl (wr := []) rfl rfl rfl (by decide) rfl rfl rfl (As := []) (rest := []) rfl (Nat.le_of_ble_eq_true rfl) ⟨Nat.zero_le _, Nat.zero_le _⟩ dX7_part_24 (ws' := [(o, .inr (6, [g_land, g_images, g_kept, g_text, g_textLength, .int v_above, .int v_below, .int r4.2, g_nos, g_fulls, g_roads, g_reader, g_traveller, g_questions]))]) rfl (fun H locs hH => ?_)
      refine lv_i2l K.x K.b dX7_part_27 rfl ?_
      obtain rfl := Option.some.inj h
      exact Kj2 _ _ _ hH (lv_sub hl [] rfl)
    · replace h := z_t c3 h
      refine lv_aload_n K.x K.b dX7_part_15 rfl (lv_at hl 0 rfl) ?_
      refine z_get K hH 0 rfl zin_7 rfl 6 (by decide) tw_1_203 (v := .int v_below) rfl dX7_part_16 ?_
      refine lv_i2l K.x K.b dX7_part_19 rfl ?_
      refine lv_goto (tgt := 28) K.x K.b dX7_part_20 (by decide) ?_
      obtain rfl := Option.some.inj h
      exact Kj2 _ _ _ hH (lv_sub hl [] rfl)
  · replace h := z_t c1 h
    refine lv_aload_n K.x K.b dX7_part_4 rfl (lv_at hl 0 rfl) ?_
    refine z_get K hH 0 rfl zin_7 rfl 5 (by decide) tw_1_202 (v := .int v_above) rfl dX7_part_5 ?_
    refine lv_i2l K.x K.b dX7_part_8 rfl ?_
    have hr9 := Option.some.inj h
    obtain rfl := hr9
    rw [hQ]
    exact z_retl K hr hH [0] (by decide) rfl rfl dX7_part_9
def p_X7_status (v_bads : Int32) (v_nos : Int32) (v_fulls : Int32) (p1 : Int32) : Option (Int32 × Int32) :=
  if p1 = 0 then
  (some (v_bads, v_bads)) else
  (if p1 = 1 then
  (some (v_nos, v_bads)) else
  (if p1 = 2 then
  (some (v_fulls, v_bads)) else
  (z_bd (p_X7_refuseBad v_bads) fun r4 =>
  some ((-1 : Int32), r4.2))))
theorem hd_X7_status : yX7_status.cls = RX7 ∧ yX7_status.cls ≠ "java/lang/invoke/MethodHandle" ∧ yX7_status.cls ≠ "java/lang/invoke/VarHandle" ∧ (parseMethodDescriptor yX7_status.desc).map (fun d => d.parameters.length) = some 1 := by decide +kernel
set_option maxHeartbeats 4000000 in
set_option maxRecDepth 100000 in
theorem c_X7_status (l : Launch) (D : va_G) (y : Nat → ClassId) (o : Nat) (g_land g_images g_kept g_text g_textLength g_above g_below g_roads g_reader g_traveller g_questions : Value) (v_bads : Int32) (v_nos : Int32) (v_fulls : Int32) (p1 : Int32) (r : Int32 × Int32) (h : p_X7_status v_bads v_nos v_fulls p1 = some r) : z_MI l yX7_status cX7_status 2 (some .int) 1 20 D y [.ref o, .int p1] [(o, .inr (6, [g_land, g_images, g_kept, g_text, g_textLength, g_above, g_below, .int v_bads, .int v_nos, .int v_fulls, g_roads, g_reader, g_traveller, g_questions]))] r.1 [(o, .inr (6, [g_land, g_images, g_kept, g_text, g_textLength, g_above, g_below, .int r.2, .int v_nos, .int v_fulls, g_roads, g_reader, g_traveller, g_questions]))] := by
  unfold p_X7_status at h
  refine z_enI (by decide) (Nat.le_of_ble_eq_true rfl) ?_
  intro p e s m args below meth c A ls hr K hH hl
  obtain ⟨Q, hQ⟩ : ∃ Q, Q = MQ below (z_Qi D y A r.1 [(o, .inr (6, [g_land, g_images, g_kept, g_text, g_textLength, g_above, g_below, .int r.2, .int v_nos, .int v_fulls, g_roads, g_reader, g_traveller, g_questions]))]) args s 0 0 A := ⟨_, rfl⟩
  rw [← hQ]
  have hl : lv_has ls 2 [(0, .ref o), (1, .int p1)] := hl
  refine lv_iload_n K.x K.b dX7_status_0 rfl (lv_at hl 1 rfl) ?_
  by_cases c1 : p1 = 0
  · replace h := z_t c1 h
    refine lv_tableIn (tgt := 28) K.x K.b dX7_status_1 (by rw [c1]; decide) (by rw [c1]; decide) (by rw [c1]; rfl) (by decide) ?_
    refine lv_aload_n K.x K.b dX7_status_28 rfl (lv_at hl 0 rfl) ?_
    refine z_get K hH 0 rfl zin_7 rfl 7 (by decide) tw_1_204 (v := .int v_bads) rfl dX7_status_29 ?_
    have hr9 := Option.some.inj h
    obtain rfl := hr9
    rw [hQ]
    exact z_reti K hr hH [0] (by decide) rfl rfl rfl dX7_status_32
  · replace h := z_f c1 h
    by_cases c2 : p1 = 1
    · replace h := z_t c2 h
      refine lv_tableIn (tgt := 33) K.x K.b dX7_status_1 (by rw [c2]; decide) (by rw [c2]; decide) (by rw [c2]; rfl) (by decide) ?_
      refine lv_aload_n K.x K.b dX7_status_33 rfl (lv_at hl 0 rfl) ?_
      refine z_get K hH 0 rfl zin_7 rfl 8 (by decide) tw_1_205 (v := .int v_nos) rfl dX7_status_34 ?_
      have hr9 := Option.some.inj h
      obtain rfl := hr9
      rw [hQ]
      exact z_reti K hr hH [0] (by decide) rfl rfl rfl dX7_status_37
    · replace h := z_f c2 h
      by_cases c3 : p1 = 2
      · replace h := z_t c3 h
        refine lv_tableIn (tgt := 38) K.x K.b dX7_status_1 (by rw [c3]; decide) (by rw [c3]; decide) (by rw [c3]; rfl) (by decide) ?_
        refine lv_aload_n K.x K.b dX7_status_38 rfl (lv_at hl 0 rfl) ?_
        refine z_get K hH 0 rfl zin_7 rfl 9 (by decide) tw_1_206 (v := .int v_fulls) rfl dX7_status_39 ?_
        have hr9 := Option.some.inj h
        obtain rfl := hr9
        rw [hQ]
        exact z_reti K hr hH [0] (by decide) rfl rfl rfl dX7_status_42
      · replace h := z_f c3 h
        have hsw : p1.toInt < 0 ∨ 2 < p1.toInt := by
          have ic1 : p1.toInt ≠ 0 := fun q => c1 (Int32.toInt_inj.mp (q.trans (by decide)))
          have ic2 : p1.toInt ≠ 1 := fun q => c2 (Int32.toInt_inj.mp (q.trans (by decide)))
          have ic3 : p1.toInt ≠ 2 := fun q => c3 (Int32.toInt_inj.mp (q.trans (by decide)))
          omega
        refine lv_tableOut (tgt := 43) K.x K.b dX7_status_1 hsw (by decide) ?_
        refine lv_aload_n K.x K.b dX7_status_43 rfl (lv_at hl 0 rfl) ?_
        obtain ⟨r4, hr5, h⟩ := z_bd_e h
        refine z_Vi K hH hl.1 (c_X7_refuseBad l D y o (g_land) (g_images) (g_kept) (g_text) (g_textLength) (g_above) (g_below) (.int v_nos) (.int v_fulls) (g_roads) (g_reader) (g_traveller) (g_questions) v_bads r4 hr5) (z_cwV K 0 tw_2_18 tw_2_20 tw_0_0 tw_1_1 tw_2_21 hd_X7_refuseBad ⟨by decide, by decide⟩) [0] [] rfl (wr := []) rfl rfl rfl (by decide) rfl rfl rfl (As := []) (rest := []) rfl (Nat.le_of_ble_eq_true rfl) ⟨Nat.zero_le _, Nat.zero_le _⟩ dX7_status_44 (ws' := [(o, .inr (6, [g_land, g_images, g_kept, g_text, g_textLength, g_above, g_below, .int r4.2, .int v_nos, .int v_fulls, g_roads, g_reader, g_traveller, g_questions]))]) rfl (fun H locs hH => ?_)
        refine lv_pop K.x K.b dX7_status_47 rfl ?_
        refine lv_iconst (v := (-1)) K.x K.b dX7_status_48 (by decide) ?_
        have hr9 := Option.some.inj h
        obtain rfl := hr9
        rw [hQ]
        exact z_reti K hr hH [0] (by decide) rfl rfl rfl dX7_status_49
noncomputable def p_X7_amount (v_textLength : Int32) (v_land_places : Int32) (v_land_crows : Int32) (v_land_pasts : Int32) (v_land_now_deeds : Int32) (v_land_now_hour : Int32) (f_land_now_deedRows : (Nat → Int32)) (v_land_notes_size : Int32) (v_land_marks_size : Int32) (p1 : Int32) : Option (Int32) :=
  if p1 = 0 then
  (some v_land_places) else
  (if p1 = 1 then
  (some v_land_crows) else
  (if p1 = 2 then
  (some v_land_now_hour) else
  (if p1 = 3 then
  (some v_land_now_deeds) else
  (if p1 = 4 then
  (z_bd (p_X1_lengths v_land_now_deeds f_land_now_deedRows) fun r6 =>
  some r6) else
  (if p1 = 5 then
  (some v_land_notes_size) else
  (if p1 = 6 then
  (some v_land_marks_size) else
  (if p1 = 7 then
  (some v_land_pasts) else
  (some v_textLength))))))))
theorem hd_X7_amount : yX7_amount.cls = RX7 ∧ yX7_amount.cls ≠ "java/lang/invoke/MethodHandle" ∧ yX7_amount.cls ≠ "java/lang/invoke/VarHandle" ∧ (parseMethodDescriptor yX7_amount.desc).map (fun d => d.parameters.length) = some 1 := by decide +kernel
set_option maxHeartbeats 4000000 in
set_option maxRecDepth 100000 in
theorem c_X7_amount (l : Launch) (D : va_G) (y : Nat → ClassId) (o o_land o_land_now o_land_now_deedRows o_land_notes o_land_marks : Nat) (g_images g_kept g_text g_above g_below g_bads g_nos g_fulls g_roads g_reader g_traveller g_questions g_land_placeKind g_land_placeX g_land_placeY g_land_crowKind g_land_past g_land_now_at g_land_now_tired g_land_notes_ofCrows g_land_notes_rows g_land_marks_ofCrows g_land_marks_rows : Value) (v_textLength : Int32) (v_land_places : Int32) (v_land_crows : Int32) (v_land_pasts : Int32) (v_land_now_deeds : Int32) (v_land_now_hour : Int32) (f_land_now_deedRows : (Nat → Int32)) (v_land_notes_size : Int32) (v_land_marks_size : Int32) (p1 : Int32) (r : Int32) (h : p_X7_amount v_textLength v_land_places v_land_crows v_land_pasts v_land_now_deeds v_land_now_hour f_land_now_deedRows v_land_notes_size v_land_marks_size p1 = some r) : z_MI l yX7_amount cX7_amount 2 (some .int) 2 43 D y [.ref o, .int p1] [(o, .inr (6, [.ref o_land, g_images, g_kept, g_text, .int v_textLength, g_above, g_below, g_bads, g_nos, g_fulls, g_roads, g_reader, g_traveller, g_questions])), (o_land, .inr (0, [g_land_placeKind, g_land_placeX, g_land_placeY, .int v_land_places, g_land_crowKind, .int v_land_crows, .ref o_land_now, g_land_past, .int v_land_pasts, .ref o_land_notes, .ref o_land_marks])), (o_land_now, .inr (1, [g_land_now_at, g_land_now_tired, .ref o_land_now_deedRows, .int v_land_now_deeds, .int v_land_now_hour])), (o_land_now_deedRows, .inl (y 0, 36, .inl f_land_now_deedRows)), (o_land_notes, .inr (5, [g_land_notes_ofCrows, g_land_notes_rows, .int v_land_notes_size])), (o_land_marks, .inr (5, [g_land_marks_ofCrows, g_land_marks_rows, .int v_land_marks_size]))] r [(o, .inr (6, [.ref o_land, g_images, g_kept, g_text, .int v_textLength, g_above, g_below, g_bads, g_nos, g_fulls, g_roads, g_reader, g_traveller, g_questions])), (o_land, .inr (0, [g_land_placeKind, g_land_placeX, g_land_placeY, .int v_land_places, g_land_crowKind, .int v_land_crows, .ref o_land_now, g_land_past, .int v_land_pasts, .ref o_land_notes, .ref o_land_marks])), (o_land_now, .inr (1, [g_land_now_at, g_land_now_tired, .ref o_land_now_deedRows, .int v_land_now_deeds, .int v_land_now_hour])), (o_land_now_deedRows, .inl (y 0, 36, .inl f_land_now_deedRows)), (o_land_notes, .inr (5, [g_land_notes_ofCrows, g_land_notes_rows, .int v_land_notes_size])), (o_land_marks, .inr (5, [g_land_marks_ofCrows, g_land_marks_rows, .int v_land_marks_size]))] := by
  unfold p_X7_amount at h
  refine z_enI (by decide) (Nat.le_of_ble_eq_true rfl) ?_
  intro p e s m args below meth c A ls hr K hH hl
  obtain ⟨Q, hQ⟩ : ∃ Q, Q = MQ below (z_Qi D y A r [(o, .inr (6, [.ref o_land, g_images, g_kept, g_text, .int v_textLength, g_above, g_below, g_bads, g_nos, g_fulls, g_roads, g_reader, g_traveller, g_questions])), (o_land, .inr (0, [g_land_placeKind, g_land_placeX, g_land_placeY, .int v_land_places, g_land_crowKind, .int v_land_crows, .ref o_land_now, g_land_past, .int v_land_pasts, .ref o_land_notes, .ref o_land_marks])), (o_land_now, .inr (1, [g_land_now_at, g_land_now_tired, .ref o_land_now_deedRows, .int v_land_now_deeds, .int v_land_now_hour])), (o_land_now_deedRows, .inl (y 0, 36, .inl f_land_now_deedRows)), (o_land_notes, .inr (5, [g_land_notes_ofCrows, g_land_notes_rows, .int v_land_notes_size])), (o_land_marks, .inr (5, [g_land_marks_ofCrows, g_land_marks_rows, .int v_land_marks_size]))]) args s 0 0 A := ⟨_, rfl⟩
  rw [← hQ]
  have hl : lv_has ls 2 [(0, .ref o), (1, .int p1)] := hl
  refine lv_iload_n K.x K.b dX7_amount_0 rfl (lv_at hl 1 rfl) ?_
  by_cases c1 : p1 = 0
  · replace h := z_t c1 h
    refine lv_tableIn (tgt := 48) K.x K.b dX7_amount_1 (by rw [c1]; decide) (by rw [c1]; decide) (by rw [c1]; rfl) (by decide) ?_
    refine lv_aload_n K.x K.b dX7_amount_48 rfl (lv_at hl 0 rfl) ?_
    refine z_get K hH 0 rfl zin_7 rfl 0 (by decide) tw_1_197 (v := .ref o_land) rfl dX7_amount_49 ?_
    refine z_get K hH 1 rfl zin_0 rfl 3 (by decide) tw_1_87 (v := .int v_land_places) rfl dX7_amount_52 ?_
    have hr9 := Option.some.inj h
    obtain rfl := hr9
    rw [hQ]
    exact z_reti K hr hH [0, 1, 2, 3, 4, 5] (by decide) rfl rfl rfl dX7_amount_55
  · replace h := z_f c1 h
    by_cases c2 : p1 = 1
    · replace h := z_t c2 h
      refine lv_tableIn (tgt := 56) K.x K.b dX7_amount_1 (by rw [c2]; decide) (by rw [c2]; decide) (by rw [c2]; rfl) (by decide) ?_
      refine lv_aload_n K.x K.b dX7_amount_56 rfl (lv_at hl 0 rfl) ?_
      refine z_get K hH 0 rfl zin_7 rfl 0 (by decide) tw_1_197 (v := .ref o_land) rfl dX7_amount_57 ?_
      refine z_get K hH 1 rfl zin_0 rfl 5 (by decide) tw_1_91 (v := .int v_land_crows) rfl dX7_amount_60 ?_
      have hr9 := Option.some.inj h
      obtain rfl := hr9
      rw [hQ]
      exact z_reti K hr hH [0, 1, 2, 3, 4, 5] (by decide) rfl rfl rfl dX7_amount_63
    · replace h := z_f c2 h
      by_cases c3 : p1 = 2
      · replace h := z_t c3 h
        refine lv_tableIn (tgt := 64) K.x K.b dX7_amount_1 (by rw [c3]; decide) (by rw [c3]; decide) (by rw [c3]; rfl) (by decide) ?_
        refine lv_aload_n K.x K.b dX7_amount_64 rfl (lv_at hl 0 rfl) ?_
        refine z_get K hH 0 rfl zin_7 rfl 0 (by decide) tw_1_197 (v := .ref o_land) rfl dX7_amount_65 ?_
        refine z_get K hH 1 rfl zin_0 rfl 6 (by decide) tw_1_95 (v := .ref o_land_now) rfl dX7_amount_68 ?_
        refine z_get K hH 2 rfl zin_1 rfl 4 (by decide) tw_1_50 (v := .int v_land_now_hour) rfl dX7_amount_71 ?_
        have hr9 := Option.some.inj h
        obtain rfl := hr9
        rw [hQ]
        exact z_reti K hr hH [0, 1, 2, 3, 4, 5] (by decide) rfl rfl rfl dX7_amount_74
      · replace h := z_f c3 h
        by_cases c4 : p1 = 3
        · replace h := z_t c4 h
          refine lv_tableIn (tgt := 75) K.x K.b dX7_amount_1 (by rw [c4]; decide) (by rw [c4]; decide) (by rw [c4]; rfl) (by decide) ?_
          refine lv_aload_n K.x K.b dX7_amount_75 rfl (lv_at hl 0 rfl) ?_
          refine z_get K hH 0 rfl zin_7 rfl 0 (by decide) tw_1_197 (v := .ref o_land) rfl dX7_amount_76 ?_
          refine z_get K hH 1 rfl zin_0 rfl 6 (by decide) tw_1_95 (v := .ref o_land_now) rfl dX7_amount_79 ?_
          refine z_get K hH 2 rfl zin_1 rfl 3 (by decide) tw_1_46 (v := .int v_land_now_deeds) rfl dX7_amount_82 ?_
          have hr9 := Option.some.inj h
          obtain rfl := hr9
          rw [hQ]
          exact z_reti K hr hH [0, 1, 2, 3, 4, 5] (by decide) rfl rfl rfl dX7_amount_85
        · replace h := z_f c4 h
          by_cases c5 : p1 = 4
          · replace h := z_t c5 h
            refine lv_tableIn (tgt := 86) K.x K.b dX7_amount_1 (by rw [c5]; decide) (by rw [c5]; decide) (by rw [c5]; rfl) (by decide) ?_
            refine lv_aload_n K.x K.b dX7_amount_86 rfl (lv_at hl 0 rfl) ?_
            refine z_get K hH 0 rfl zin_7 rfl 0 (by decide) tw_1_197 (v := .ref o_land) rfl dX7_amount_87 ?_
            refine z_get K hH 1 rfl zin_0 rfl 6 (by decide) tw_1_95 (v := .ref o_land_now) rfl dX7_amount_90 ?_
            obtain ⟨r6, hr7, h⟩ := z_bd_e h
            refine z_Vi K hH hl.1 (c_X1_lengths l D y o_land_now o_land_now_deedRows (g_land_now_at) (g_land_now_tired) (.int v_land_now_hour) v_land_now_deeds f_land_now_deedRows r6 hr7) (z_cwV K 0 tw_4_62 tw_4_63 tw_4_64 tw_1_3 tw_4_65 hd_X1_lengths ⟨by decide, by decide⟩) [2, 3] [0, 1, 4, 5] rfl (wr := [(o, .inr (6, [.ref o_land, g_images, g_kept, g_text, .int v_textLength, g_above, g_below, g_bads, g_nos, g_fulls, g_roads, g_reader, g_traveller, g_questions])), (o_land, .inr (0, [g_land_placeKind, g_land_placeX, g_land_placeY, .int v_land_places, g_land_crowKind, .int v_land_crows, .ref o_land_now, g_land_past, .int v_land_pasts, .ref o_land_notes, .ref o_land_marks])), (o_land_notes, .inr (5, [g_land_notes_ofCrows, g_land_notes_rows, .int v_land_notes_size])), (o_land_marks, .inr (5, [g_land_marks_ofCrows, g_land_marks_rows, .int v_land_marks_size]))]) rfl rfl rfl (by decide) rfl rfl rfl (As := []) (rest := []) rfl (Nat.le_of_ble_eq_true rfl) ⟨Nat.zero_le _, Nat.zero_le _⟩ dX7_amount_93 (ws' := [(o, .inr (6, [.ref o_land, g_images, g_kept, g_text, .int v_textLength, g_above, g_below, g_bads, g_nos, g_fulls, g_roads, g_reader, g_traveller, g_questions])), (o_land, .inr (0, [g_land_placeKind, g_land_placeX, g_land_placeY, .int v_land_places, g_land_crowKind, .int v_land_crows, .ref o_land_now, g_land_past, .int v_land_pasts, .ref o_land_notes, .ref o_land_marks])), (o_land_notes, .inr (5, [g_land_notes_ofCrows, g_land_notes_rows, .int v_land_notes_size])), (o_land_marks, .inr (5, [g_land_marks_ofCrows, g_land_marks_rows, .int v_land_marks_size])), (o_land_now, .inr (1, [g_land_now_at, g_land_now_tired, .ref o_land_now_deedRows, .int v_land_now_deeds, .int v_land_now_hour])), (o_land_now_deedRows, .inl (y 0, 36, .inl f_land_now_deedRows))]) rfl (fun H locs hH => ?_)
            have hr9 := Option.some.inj h
            obtain rfl := hr9
            rw [hQ]
            exact z_reti K hr hH [0, 1, 4, 5, 2, 3] (by decide) rfl rfl rfl dX7_amount_96
          · replace h := z_f c5 h
            by_cases c8 : p1 = 5
            · replace h := z_t c8 h
              refine lv_tableIn (tgt := 97) K.x K.b dX7_amount_1 (by rw [c8]; decide) (by rw [c8]; decide) (by rw [c8]; rfl) (by decide) ?_
              refine lv_aload_n K.x K.b dX7_amount_97 rfl (lv_at hl 0 rfl) ?_
              refine z_get K hH 0 rfl zin_7 rfl 0 (by decide) tw_1_197 (v := .ref o_land) rfl dX7_amount_98 ?_
              refine z_get K hH 1 rfl zin_0 rfl 9 (by decide) tw_1_100 (v := .ref o_land_notes) rfl dX7_amount_101 ?_
              refine z_get K hH 4 rfl zin_6 rfl 2 (by decide) tw_1_74 (v := .int v_land_notes_size) rfl dX7_amount_104 ?_
              have hr9 := Option.some.inj h
              obtain rfl := hr9
              rw [hQ]
              exact z_reti K hr hH [0, 1, 2, 3, 4, 5] (by decide) rfl rfl rfl dX7_amount_107
            · replace h := z_f c8 h
              by_cases c9 : p1 = 6
              · replace h := z_t c9 h
                refine lv_tableIn (tgt := 108) K.x K.b dX7_amount_1 (by rw [c9]; decide) (by rw [c9]; decide) (by rw [c9]; rfl) (by decide) ?_
                refine lv_aload_n K.x K.b dX7_amount_108 rfl (lv_at hl 0 rfl) ?_
                refine z_get K hH 0 rfl zin_7 rfl 0 (by decide) tw_1_197 (v := .ref o_land) rfl dX7_amount_109 ?_
                refine z_get K hH 1 rfl zin_0 rfl 10 (by decide) tw_1_102 (v := .ref o_land_marks) rfl dX7_amount_112 ?_
                refine z_get K hH 5 rfl zin_6 rfl 2 (by decide) tw_1_74 (v := .int v_land_marks_size) rfl dX7_amount_115 ?_
                have hr9 := Option.some.inj h
                obtain rfl := hr9
                rw [hQ]
                exact z_reti K hr hH [0, 1, 2, 3, 4, 5] (by decide) rfl rfl rfl dX7_amount_118
              · replace h := z_f c9 h
                by_cases c10 : p1 = 7
                · replace h := z_t c10 h
                  refine lv_tableIn (tgt := 119) K.x K.b dX7_amount_1 (by rw [c10]; decide) (by rw [c10]; decide) (by rw [c10]; rfl) (by decide) ?_
                  refine lv_aload_n K.x K.b dX7_amount_119 rfl (lv_at hl 0 rfl) ?_
                  refine z_get K hH 0 rfl zin_7 rfl 0 (by decide) tw_1_197 (v := .ref o_land) rfl dX7_amount_120 ?_
                  refine z_get K hH 1 rfl zin_0 rfl 8 (by decide) tw_1_98 (v := .int v_land_pasts) rfl dX7_amount_123 ?_
                  have hr9 := Option.some.inj h
                  obtain rfl := hr9
                  rw [hQ]
                  exact z_reti K hr hH [0, 1, 2, 3, 4, 5] (by decide) rfl rfl rfl dX7_amount_126
                · replace h := z_f c10 h
                  have hsw : p1.toInt < 0 ∨ 7 < p1.toInt := by
                    have ic1 : p1.toInt ≠ 0 := fun q => c1 (Int32.toInt_inj.mp (q.trans (by decide)))
                    have ic2 : p1.toInt ≠ 1 := fun q => c2 (Int32.toInt_inj.mp (q.trans (by decide)))
                    have ic3 : p1.toInt ≠ 2 := fun q => c3 (Int32.toInt_inj.mp (q.trans (by decide)))
                    have ic4 : p1.toInt ≠ 3 := fun q => c4 (Int32.toInt_inj.mp (q.trans (by decide)))
                    have ic5 : p1.toInt ≠ 4 := fun q => c5 (Int32.toInt_inj.mp (q.trans (by decide)))
                    have ic8 : p1.toInt ≠ 5 := fun q => c8 (Int32.toInt_inj.mp (q.trans (by decide)))
                    have ic9 : p1.toInt ≠ 6 := fun q => c9 (Int32.toInt_inj.mp (q.trans (by decide)))
                    have ic10 : p1.toInt ≠ 7 := fun q => c10 (Int32.toInt_inj.mp (q.trans (by decide)))
                    omega
                  refine lv_tableOut (tgt := 127) K.x K.b dX7_amount_1 hsw (by decide) ?_
                  refine lv_aload_n K.x K.b dX7_amount_127 rfl (lv_at hl 0 rfl) ?_
                  refine z_get K hH 0 rfl zin_7 rfl 4 (by decide) tw_1_201 (v := .int v_textLength) rfl dX7_amount_128 ?_
                  have hr9 := Option.some.inj h
                  obtain rfl := hr9
                  rw [hQ]
                  exact z_reti K hr hH [0, 1, 2, 3, 4, 5] (by decide) rfl rfl rfl dX7_amount_131
noncomputable def p_X7_count (v_textLength : Int32) (v_bads : Int32) (v_land_places : Int32) (v_land_crows : Int32) (v_land_pasts : Int32) (v_land_now_deeds : Int32) (v_land_now_hour : Int32) (f_land_now_deedRows : (Nat → Int32)) (v_land_notes_size : Int32) (v_land_marks_size : Int32) (p1 : Int32) : Option (Int32 × Int32) :=
  z_bd (p_X7_within p1 (0 : Int32) (8 : Int32)) fun r1 =>
  z_bd (α := Int32 × Int32) (if (r1 = 0) then
  (z_bd (p_X7_refuseBad v_bads) fun r5 =>
  some (r5.1, r5.2)) else
  (z_bd (p_X7_amount v_textLength v_land_places v_land_crows v_land_pasts v_land_now_deeds v_land_now_hour f_land_now_deedRows v_land_notes_size v_land_marks_size p1) fun r7 =>
  some (r7, v_bads))) fun j3 =>
  some (j3.1, j3.2)
theorem hd_X7_count : yX7_count.cls = RX7 ∧ yX7_count.cls ≠ "java/lang/invoke/MethodHandle" ∧ yX7_count.cls ≠ "java/lang/invoke/VarHandle" ∧ (parseMethodDescriptor yX7_count.desc).map (fun d => d.parameters.length) = some 1 := by decide +kernel
set_option maxHeartbeats 4000000 in
set_option maxRecDepth 100000 in
theorem c_X7_count (l : Launch) (D : va_G) (y : Nat → ClassId) (o o_land o_land_now o_land_now_deedRows o_land_notes o_land_marks : Nat) (g_images g_kept g_text g_above g_below g_nos g_fulls g_roads g_reader g_traveller g_questions g_land_placeKind g_land_placeX g_land_placeY g_land_crowKind g_land_past g_land_now_at g_land_now_tired g_land_notes_ofCrows g_land_notes_rows g_land_marks_ofCrows g_land_marks_rows : Value) (v_textLength : Int32) (v_bads : Int32) (v_land_places : Int32) (v_land_crows : Int32) (v_land_pasts : Int32) (v_land_now_deeds : Int32) (v_land_now_hour : Int32) (f_land_now_deedRows : (Nat → Int32)) (v_land_notes_size : Int32) (v_land_marks_size : Int32) (p1 : Int32) (r : Int32 × Int32) (h : p_X7_count v_textLength v_bads v_land_places v_land_crows v_land_pasts v_land_now_deeds v_land_now_hour f_land_now_deedRows v_land_notes_size v_land_marks_size p1 = some r) : z_MI l yX7_count cX7_count 2 (some .int) 3 64 D y [.ref o, .int p1] [(o, .inr (6, [.ref o_land, g_images, g_kept, g_text, .int v_textLength, g_above, g_below, .int v_bads, g_nos, g_fulls, g_roads, g_reader, g_traveller, g_questions])), (o_land, .inr (0, [g_land_placeKind, g_land_placeX, g_land_placeY, .int v_land_places, g_land_crowKind, .int v_land_crows, .ref o_land_now, g_land_past, .int v_land_pasts, .ref o_land_notes, .ref o_land_marks])), (o_land_now, .inr (1, [g_land_now_at, g_land_now_tired, .ref o_land_now_deedRows, .int v_land_now_deeds, .int v_land_now_hour])), (o_land_now_deedRows, .inl (y 0, 36, .inl f_land_now_deedRows)), (o_land_notes, .inr (5, [g_land_notes_ofCrows, g_land_notes_rows, .int v_land_notes_size])), (o_land_marks, .inr (5, [g_land_marks_ofCrows, g_land_marks_rows, .int v_land_marks_size]))] r.1 [(o, .inr (6, [.ref o_land, g_images, g_kept, g_text, .int v_textLength, g_above, g_below, .int r.2, g_nos, g_fulls, g_roads, g_reader, g_traveller, g_questions])), (o_land, .inr (0, [g_land_placeKind, g_land_placeX, g_land_placeY, .int v_land_places, g_land_crowKind, .int v_land_crows, .ref o_land_now, g_land_past, .int v_land_pasts, .ref o_land_notes, .ref o_land_marks])), (o_land_now, .inr (1, [g_land_now_at, g_land_now_tired, .ref o_land_now_deedRows, .int v_land_now_deeds, .int v_land_now_hour])), (o_land_now_deedRows, .inl (y 0, 36, .inl f_land_now_deedRows)), (o_land_notes, .inr (5, [g_land_notes_ofCrows, g_land_notes_rows, .int v_land_notes_size])), (o_land_marks, .inr (5, [g_land_marks_ofCrows, g_land_marks_rows, .int v_land_marks_size]))] := by
  unfold p_X7_count at h
  refine z_enI (by decide) (Nat.le_of_ble_eq_true rfl) ?_
  intro p e s m args below meth c A ls hr K hH hl
  obtain ⟨Q, hQ⟩ : ∃ Q, Q = MQ below (z_Qi D y A r.1 [(o, .inr (6, [.ref o_land, g_images, g_kept, g_text, .int v_textLength, g_above, g_below, .int r.2, g_nos, g_fulls, g_roads, g_reader, g_traveller, g_questions])), (o_land, .inr (0, [g_land_placeKind, g_land_placeX, g_land_placeY, .int v_land_places, g_land_crowKind, .int v_land_crows, .ref o_land_now, g_land_past, .int v_land_pasts, .ref o_land_notes, .ref o_land_marks])), (o_land_now, .inr (1, [g_land_now_at, g_land_now_tired, .ref o_land_now_deedRows, .int v_land_now_deeds, .int v_land_now_hour])), (o_land_now_deedRows, .inl (y 0, 36, .inl f_land_now_deedRows)), (o_land_notes, .inr (5, [g_land_notes_ofCrows, g_land_notes_rows, .int v_land_notes_size])), (o_land_marks, .inr (5, [g_land_marks_ofCrows, g_land_marks_rows, .int v_land_marks_size]))]) args s 0 0 A := ⟨_, rfl⟩
  rw [← hQ]
  have hl : lv_has ls 2 [(0, .ref o), (1, .int p1)] := hl
  refine lv_iload_n K.x K.b dX7_count_0 rfl (lv_at hl 1 rfl) ?_
  refine lv_iconst (v := (0)) K.x K.b dX7_count_1 (by decide) ?_
  refine lv_bipush (v := (8)) K.x K.b dX7_count_2 (by decide) ?_
  obtain ⟨r1, hr2, h⟩ := z_bd_e h
  refine z_Si K hH hl.1 (c_X7_within l D y p1 (0 : Int32) (8 : Int32) r1 hr2) (z_cwS K 3 tw_2_15 tw_2_16 tw_1_1 tw_2_17 hd_X7_within ⟨by decide, by decide⟩) rfl (As := [.int p1, .int (0 : Int32), .int (8 : Int32)]) (rest := []) rfl (Nat.le_of_ble_eq_true rfl) ⟨Nat.zero_le _, Nat.zero_le _⟩ dX7_count_4 (fun H locs hH => ?_)
  obtain ⟨j3, hj3, h⟩ := z_bd_e h
  have Kj3 : ∀ (H : Heap) (locs : List Loc) (ls : Array Slot), z_H D A s.heap [(o, .inr (6, [.ref o_land, g_images, g_kept, g_text, .int v_textLength, g_above, g_below, .int j3.2, g_nos, g_fulls, g_roads, g_reader, g_traveller, g_questions])), (o_land, .inr (0, [g_land_placeKind, g_land_placeX, g_land_placeY, .int v_land_places, g_land_crowKind, .int v_land_crows, .ref o_land_now, g_land_past, .int v_land_pasts, .ref o_land_notes, .ref o_land_marks])), (o_land_now, .inr (1, [g_land_now_at, g_land_now_tired, .ref o_land_now_deedRows, .int v_land_now_deeds, .int v_land_now_hour])), (o_land_now_deedRows, .inl (y 0, 36, .inl f_land_now_deedRows)), (o_land_notes, .inr (5, [g_land_notes_ofCrows, g_land_notes_rows, .int v_land_notes_size])), (o_land_marks, .inr (5, [g_land_marks_ofCrows, g_land_marks_rows, .int v_land_marks_size]))] H locs → lv_has ls 2 [] → W p l e (zR 3 64) s m args below meth c H locs 0 0 Q (F0 m 22 ls [.int j3.1]) := by
    intro H locs ls hH hl
    have hr9 := Option.some.inj h
    obtain rfl := hr9
    rw [hQ]
    exact z_reti K hr hH [0, 1, 2, 3, 4, 5] (by decide) rfl rfl rfl dX7_count_22
  replace h := hj3
  refine lv_if_eq (tgt := 18) K.x K.b dX7_count_7 (by decide) (fun c4 => ?_) (fun c4 => ?_)
  · replace h := z_t c4 h
    refine lv_aload_n K.x K.b dX7_count_18 rfl (lv_at hl 0 rfl) ?_
    obtain ⟨r5, hr6, h⟩ := z_bd_e h
    refine z_Vi K hH hl.1 (c_X7_refuseBad l D y o (.ref o_land) (g_images) (g_kept) (g_text) (.int v_textLength) (g_above) (g_below) (g_nos) (g_fulls) (g_roads) (g_reader) (g_traveller) (g_questions) v_bads r5 hr6) (z_cwV K 0 tw_2_18 tw_2_20 tw_0_0 tw_1_1 tw_2_21 hd_X7_refuseBad ⟨by decide, by decide⟩) [0] [1, 2, 3, 4, 5] rfl (wr := [(o_land, .inr (0, [g_land_placeKind, g_land_placeX, g_land_placeY, .int v_land_places, g_land_crowKind, .int v_land_crows, .ref o_land_now, g_land_past, .int v_land_pasts, .ref o_land_notes, .ref o_land_marks])), (o_land_now, .inr (1, [g_land_now_at, g_land_now_tired, .ref o_land_now_deedRows, .int v_land_now_deeds, .int v_land_now_hour])), (o_land_now_deedRows, .inl (y 0, 36, .inl f_land_now_deedRows)), (o_land_notes, .inr (5, [g_land_notes_ofCrows, g_land_notes_rows, .int v_land_notes_size])), (o_land_marks, .inr (5, [g_land_marks_ofCrows, g_land_marks_rows, .int v_land_marks_size]))]) rfl rfl rfl (by decide) rfl rfl rfl (As := []) (rest := []) rfl (Nat.le_of_ble_eq_true rfl) ⟨Nat.zero_le _, Nat.zero_le _⟩ dX7_count_19 (ws' := [(o_land, .inr (0, [g_land_placeKind, g_land_placeX, g_land_placeY, .int v_land_places, g_land_crowKind, .int v_land_crows, .ref o_land_now, g_land_past, .int v_land_pasts, .ref o_land_notes, .ref o_land_marks])), (o_land_now, .inr (1, [g_land_now_at, g_land_now_tired, .ref o_land_now_deedRows, .int v_land_now_deeds, .int v_land_now_hour])), (o_land_now_deedRows, .inl (y 0, 36, .inl f_land_now_deedRows)), (o_land_notes, .inr (5, [g_land_notes_ofCrows, g_land_notes_rows, .int v_land_notes_size])), (o_land_marks, .inr (5, [g_land_marks_ofCrows, g_land_marks_rows, .int v_land_marks_size])), (o, .inr (6, [.ref o_land, g_images, g_kept, g_text, .int v_textLength, g_above, g_below, .int r5.2, g_nos, g_fulls, g_roads, g_reader, g_traveller, g_questions]))]) rfl (fun H locs hH => ?_)
    obtain rfl := Option.some.inj h
    exact Kj3 _ _ _ (hH.sub [5, 0, 1, 2, 3, 4] (by decide) rfl) (lv_sub hl [] rfl)
  · replace h := z_f c4 h
    refine lv_aload_n K.x K.b dX7_count_10 rfl (lv_at hl 0 rfl) ?_
    refine lv_iload_n K.x K.b dX7_count_11 rfl (lv_at hl 1 rfl) ?_
    obtain ⟨r7, hr8, h⟩ := z_bd_e h
    refine z_Vi K hH hl.1 (c_X7_amount l D y o o_land o_land_now o_land_now_deedRows o_land_notes o_land_marks (g_images) (g_kept) (g_text) (g_above) (g_below) (.int v_bads) (g_nos) (g_fulls) (g_roads) (g_reader) (g_traveller) (g_questions) (g_land_placeKind) (g_land_placeX) (g_land_placeY) (g_land_crowKind) (g_land_past) (g_land_now_at) (g_land_now_tired) (g_land_notes_ofCrows) (g_land_notes_rows) (g_land_marks_ofCrows) (g_land_marks_rows) v_textLength v_land_places v_land_crows v_land_pasts v_land_now_deeds v_land_now_hour f_land_now_deedRows v_land_notes_size v_land_marks_size p1 r7 hr8) (z_cwV K 1 tw_4_58 tw_4_60 tw_0_35 tw_1_1 tw_4_61 hd_X7_amount ⟨by decide, by decide⟩) [0, 1, 2, 3, 4, 5] [] rfl (wr := []) rfl rfl rfl (by decide) rfl rfl rfl (As := [.int p1]) (rest := []) rfl (Nat.le_of_ble_eq_true rfl) ⟨Nat.zero_le _, Nat.zero_le _⟩ dX7_count_12 (ws' := [(o, .inr (6, [.ref o_land, g_images, g_kept, g_text, .int v_textLength, g_above, g_below, .int v_bads, g_nos, g_fulls, g_roads, g_reader, g_traveller, g_questions])), (o_land, .inr (0, [g_land_placeKind, g_land_placeX, g_land_placeY, .int v_land_places, g_land_crowKind, .int v_land_crows, .ref o_land_now, g_land_past, .int v_land_pasts, .ref o_land_notes, .ref o_land_marks])), (o_land_now, .inr (1, [g_land_now_at, g_land_now_tired, .ref o_land_now_deedRows, .int v_land_now_deeds, .int v_land_now_hour])), (o_land_now_deedRows, .inl (y 0, 36, .inl f_land_now_deedRows)), (o_land_notes, .inr (5, [g_land_notes_ofCrows, g_land_notes_rows, .int v_land_notes_size])), (o_land_marks, .inr (5, [g_land_marks_ofCrows, g_land_marks_rows, .int v_land_marks_size]))]) rfl (fun H locs hH => ?_)
    refine lv_goto (tgt := 22) K.x K.b dX7_count_15 (by decide) ?_
    obtain rfl := Option.some.inj h
    exact Kj3 _ _ _ hH (lv_sub hl [] rfl)
noncomputable def p_X7_digest (v_textLength : Int32) (v_above : Int32) (v_below : Int32) (v_land_places : Int32) (v_land_crows : Int32) (v_land_pasts : Int32) (f_land_placeKind : (Nat → Int32)) (f_land_placeX : (Nat → Int32)) (f_land_placeY : (Nat → Int32)) (f_land_crowKind : (Nat → Int32)) (v_land_now_deeds : Int32) (v_land_now_hour : Int32) (f_land_now_at : (Nat → Int32)) (f_land_now_tired : (Nat → Int32)) (f_land_now_deedRows : (Nat → Int32)) (v_land_notes_ofCrows : Int32) (v_land_notes_size : Int32) (f_land_notes_rows : (Nat → Int32)) (v_land_marks_ofCrows : Int32) (v_land_marks_size : Int32) (f_land_marks_rows : (Nat → Int32)) : Option (Int64) :=
  z_bd (z_lp (S := Int32 × Int64) (E := Int64) (fun s1 =>
  if ((9 : Int32) ≤ s1.1) then
  (some (.inr s1.2)) else
  (z_bd (p_X7_amount v_textLength v_land_places v_land_crows v_land_pasts v_land_now_deeds v_land_now_hour f_land_now_deedRows v_land_notes_size v_land_marks_size s1.1) fun r8 =>
  z_lt ((((31 : Int64) * s1.2) + ((r8).toInt64))) fun x10 =>
  z_lt (s1.1 + (1 : Int32)) fun x11 =>
  some (.inl (x11, x10)))) ((0 : Int32), (1753 : Int64))) fun e2 =>
  z_bd (p_X0_mixInto v_land_places v_land_crows f_land_placeKind f_land_placeX f_land_placeY f_land_crowKind v_land_now_deeds f_land_now_at f_land_now_tired f_land_now_deedRows v_land_notes_ofCrows v_land_notes_size f_land_notes_rows v_land_marks_ofCrows v_land_marks_size f_land_marks_rows e2) fun r3 =>
  z_lt ((((31 : Int64) * r3) + ((v_above).toInt64))) fun x5 =>
  some (((31 : Int64) * x5) + ((v_below).toInt64))
theorem hd_X7_digest : yX7_digest.cls = RX7 ∧ yX7_digest.cls ≠ "java/lang/invoke/MethodHandle" ∧ yX7_digest.cls ≠ "java/lang/invoke/VarHandle" ∧ (parseMethodDescriptor yX7_digest.desc).map (fun d => d.parameters.length) = some 0 := by decide +kernel
set_option maxHeartbeats 4000000 in
set_option maxRecDepth 100000 in
theorem c_X7_digest (l : Launch) (D : va_G) (y : Nat → ClassId) (o o_land o_land_placeKind o_land_placeX o_land_placeY o_land_crowKind o_land_now o_land_now_at o_land_now_tired o_land_now_deedRows o_land_notes o_land_notes_rows o_land_marks o_land_marks_rows : Nat) (g_images g_kept g_text g_bads g_nos g_fulls g_roads g_reader g_traveller g_questions g_land_past : Value) (v_textLength : Int32) (v_above : Int32) (v_below : Int32) (v_land_places : Int32) (v_land_crows : Int32) (v_land_pasts : Int32) (f_land_placeKind : (Nat → Int32)) (f_land_placeX : (Nat → Int32)) (f_land_placeY : (Nat → Int32)) (f_land_crowKind : (Nat → Int32)) (v_land_now_deeds : Int32) (v_land_now_hour : Int32) (f_land_now_at : (Nat → Int32)) (f_land_now_tired : (Nat → Int32)) (f_land_now_deedRows : (Nat → Int32)) (v_land_notes_ofCrows : Int32) (v_land_notes_size : Int32) (f_land_notes_rows : (Nat → Int32)) (v_land_marks_ofCrows : Int32) (v_land_marks_size : Int32) (f_land_marks_rows : (Nat → Int32)) (r : Int64) (h : p_X7_digest v_textLength v_above v_below v_land_places v_land_crows v_land_pasts f_land_placeKind f_land_placeX f_land_placeY f_land_crowKind v_land_now_deeds v_land_now_hour f_land_now_at f_land_now_tired f_land_now_deedRows v_land_notes_ofCrows v_land_notes_size f_land_notes_rows v_land_marks_ofCrows v_land_marks_size f_land_marks_rows = some r) : z_ML l yX7_digest cX7_digest 4 (some .long) 3 64 D y [.ref o] [(o, .inr (6, [.ref o_land, g_images, g_kept, g_text, .int v_textLength, .int v_above, .int v_below, g_bads, g_nos, g_fulls, g_roads, g_reader, g_traveller, g_questions])), (o_land, .inr (0, [.ref o_land_placeKind, .ref o_land_placeX, .ref o_land_placeY, .int v_land_places, .ref o_land_crowKind, .int v_land_crows, .ref o_land_now, g_land_past, .int v_land_pasts, .ref o_land_notes, .ref o_land_marks])), (o_land_placeKind, .inl (y 0, 7, .inl f_land_placeKind)), (o_land_placeX, .inl (y 0, 7, .inl f_land_placeX)), (o_land_placeY, .inl (y 0, 7, .inl f_land_placeY)), (o_land_crowKind, .inl (y 0, 3, .inl f_land_crowKind)), (o_land_now, .inr (1, [.ref o_land_now_at, .ref o_land_now_tired, .ref o_land_now_deedRows, .int v_land_now_deeds, .int v_land_now_hour])), (o_land_now_at, .inl (y 0, 3, .inl f_land_now_at)), (o_land_now_tired, .inl (y 0, 3, .inl f_land_now_tired)), (o_land_now_deedRows, .inl (y 0, 36, .inl f_land_now_deedRows)), (o_land_notes, .inr (5, [.int v_land_notes_ofCrows, .ref o_land_notes_rows, .int v_land_notes_size])), (o_land_notes_rows, .inl (y 0, 30, .inl f_land_notes_rows)), (o_land_marks, .inr (5, [.int v_land_marks_ofCrows, .ref o_land_marks_rows, .int v_land_marks_size])), (o_land_marks_rows, .inl (y 0, 30, .inl f_land_marks_rows))] r [(o, .inr (6, [.ref o_land, g_images, g_kept, g_text, .int v_textLength, .int v_above, .int v_below, g_bads, g_nos, g_fulls, g_roads, g_reader, g_traveller, g_questions])), (o_land, .inr (0, [.ref o_land_placeKind, .ref o_land_placeX, .ref o_land_placeY, .int v_land_places, .ref o_land_crowKind, .int v_land_crows, .ref o_land_now, g_land_past, .int v_land_pasts, .ref o_land_notes, .ref o_land_marks])), (o_land_placeKind, .inl (y 0, 7, .inl f_land_placeKind)), (o_land_placeX, .inl (y 0, 7, .inl f_land_placeX)), (o_land_placeY, .inl (y 0, 7, .inl f_land_placeY)), (o_land_crowKind, .inl (y 0, 3, .inl f_land_crowKind)), (o_land_now, .inr (1, [.ref o_land_now_at, .ref o_land_now_tired, .ref o_land_now_deedRows, .int v_land_now_deeds, .int v_land_now_hour])), (o_land_now_at, .inl (y 0, 3, .inl f_land_now_at)), (o_land_now_tired, .inl (y 0, 3, .inl f_land_now_tired)), (o_land_now_deedRows, .inl (y 0, 36, .inl f_land_now_deedRows)), (o_land_notes, .inr (5, [.int v_land_notes_ofCrows, .ref o_land_notes_rows, .int v_land_notes_size])), (o_land_notes_rows, .inl (y 0, 30, .inl f_land_notes_rows)), (o_land_marks, .inr (5, [.int v_land_marks_ofCrows, .ref o_land_marks_rows, .int v_land_marks_size])), (o_land_marks_rows, .inl (y 0, 30, .inl f_land_marks_rows))] := by
  unfold p_X7_digest at h
  refine z_enL (by decide) (Nat.le_of_ble_eq_true rfl) ?_
  intro p e s m args below meth c A ls hr K hH hl
  obtain ⟨Q, hQ⟩ : ∃ Q, Q = MQ below (z_Ql D y A r [(o, .inr (6, [.ref o_land, g_images, g_kept, g_text, .int v_textLength, .int v_above, .int v_below, g_bads, g_nos, g_fulls, g_roads, g_reader, g_traveller, g_questions])), (o_land, .inr (0, [.ref o_land_placeKind, .ref o_land_placeX, .ref o_land_placeY, .int v_land_places, .ref o_land_crowKind, .int v_land_crows, .ref o_land_now, g_land_past, .int v_land_pasts, .ref o_land_notes, .ref o_land_marks])), (o_land_placeKind, .inl (y 0, 7, .inl f_land_placeKind)), (o_land_placeX, .inl (y 0, 7, .inl f_land_placeX)), (o_land_placeY, .inl (y 0, 7, .inl f_land_placeY)), (o_land_crowKind, .inl (y 0, 3, .inl f_land_crowKind)), (o_land_now, .inr (1, [.ref o_land_now_at, .ref o_land_now_tired, .ref o_land_now_deedRows, .int v_land_now_deeds, .int v_land_now_hour])), (o_land_now_at, .inl (y 0, 3, .inl f_land_now_at)), (o_land_now_tired, .inl (y 0, 3, .inl f_land_now_tired)), (o_land_now_deedRows, .inl (y 0, 36, .inl f_land_now_deedRows)), (o_land_notes, .inr (5, [.int v_land_notes_ofCrows, .ref o_land_notes_rows, .int v_land_notes_size])), (o_land_notes_rows, .inl (y 0, 30, .inl f_land_notes_rows)), (o_land_marks, .inr (5, [.int v_land_marks_ofCrows, .ref o_land_marks_rows, .int v_land_marks_size])), (o_land_marks_rows, .inl (y 0, 30, .inl f_land_marks_rows))]) args s 0 0 A := ⟨_, rfl⟩
  rw [← hQ]
  have hl : lv_has ls 4 [(0, .ref o)] := hl
  refine z_ldc2 K tw_4_70 dX7_digest_0 ?_
  refine lv_lstore_n (lv' := [(1, .long (1753 : Int64)), (0, .ref o)]) K.x K.b dX7_digest_3 rfl hl (by decide) rfl (fun ls hl => ?_)
  refine lv_iconst (v := (0)) K.x K.b dX7_digest_4 (by decide) ?_
  refine lv_istore_n (lv' := [(3, .int (0 : Int32)), (1, .long (1753 : Int64)), (0, .ref o)]) K.x K.b dX7_digest_5 rfl hl (by decide) rfl (fun ls hl => ?_)
  obtain ⟨e2, hlpe2, h⟩ := z_bd_e h
  have KEe2 : ∀ (H : Heap) (locs : List Loc) (ls : Array Slot), z_H D A s.heap [(o, .inr (6, [.ref o_land, g_images, g_kept, g_text, .int v_textLength, .int v_above, .int v_below, g_bads, g_nos, g_fulls, g_roads, g_reader, g_traveller, g_questions])), (o_land, .inr (0, [.ref o_land_placeKind, .ref o_land_placeX, .ref o_land_placeY, .int v_land_places, .ref o_land_crowKind, .int v_land_crows, .ref o_land_now, g_land_past, .int v_land_pasts, .ref o_land_notes, .ref o_land_marks])), (o_land_placeKind, .inl (y 0, 7, .inl f_land_placeKind)), (o_land_placeX, .inl (y 0, 7, .inl f_land_placeX)), (o_land_placeY, .inl (y 0, 7, .inl f_land_placeY)), (o_land_crowKind, .inl (y 0, 3, .inl f_land_crowKind)), (o_land_now, .inr (1, [.ref o_land_now_at, .ref o_land_now_tired, .ref o_land_now_deedRows, .int v_land_now_deeds, .int v_land_now_hour])), (o_land_now_at, .inl (y 0, 3, .inl f_land_now_at)), (o_land_now_tired, .inl (y 0, 3, .inl f_land_now_tired)), (o_land_now_deedRows, .inl (y 0, 36, .inl f_land_now_deedRows)), (o_land_notes, .inr (5, [.int v_land_notes_ofCrows, .ref o_land_notes_rows, .int v_land_notes_size])), (o_land_notes_rows, .inl (y 0, 30, .inl f_land_notes_rows)), (o_land_marks, .inr (5, [.int v_land_marks_ofCrows, .ref o_land_marks_rows, .int v_land_marks_size])), (o_land_marks_rows, .inl (y 0, 30, .inl f_land_marks_rows))] H locs → lv_has ls 4 [(0, .ref o), (1, .long e2)] → W p l e (zR 3 64) s m args below meth c H locs 0 0 Q (F0 m 31 ls []) := by
    intro H locs ls hH hl
    refine lv_aload_n K.x K.b dX7_digest_31 rfl (lv_at hl 0 rfl) ?_
    refine z_get K hH 0 rfl zin_7 rfl 0 (by decide) tw_1_197 (v := .ref o_land) rfl dX7_digest_32 ?_
    refine lv_lload_n K.x K.b dX7_digest_35 rfl (lv_at hl 1 rfl) ?_
    obtain ⟨r3, hr4, h⟩ := z_bd_e h
    refine z_Vl K hH hl.1 (c_X0_mixInto l D y o_land o_land_placeKind o_land_placeX o_land_placeY o_land_crowKind o_land_now o_land_now_at o_land_now_tired o_land_now_deedRows o_land_notes o_land_notes_rows o_land_marks o_land_marks_rows (g_land_past) (.int v_land_pasts) (.int v_land_now_hour) v_land_places v_land_crows f_land_placeKind f_land_placeX f_land_placeY f_land_crowKind v_land_now_deeds f_land_now_at f_land_now_tired f_land_now_deedRows v_land_notes_ofCrows v_land_notes_size f_land_notes_rows v_land_marks_ofCrows v_land_marks_size f_land_marks_rows e2 r3 hr4) (z_cwV K 1 tw_4_72 tw_4_73 tw_4_74 tw_1_2 tw_4_75 hd_X0_mixInto ⟨by decide, by decide⟩) [1, 2, 3, 4, 5, 6, 7, 8, 9, 10, 11, 12, 13] [0] rfl (wr := [(o, .inr (6, [.ref o_land, g_images, g_kept, g_text, .int v_textLength, .int v_above, .int v_below, g_bads, g_nos, g_fulls, g_roads, g_reader, g_traveller, g_questions]))]) rfl rfl rfl (by decide) rfl rfl rfl (As := [.long e2]) (rest := []) rfl (Nat.le_of_ble_eq_true rfl) ⟨Nat.zero_le _, Nat.zero_le _⟩ dX7_digest_36 (ws' := [(o, .inr (6, [.ref o_land, g_images, g_kept, g_text, .int v_textLength, .int v_above, .int v_below, g_bads, g_nos, g_fulls, g_roads, g_reader, g_traveller, g_questions])), (o_land, .inr (0, [.ref o_land_placeKind, .ref o_land_placeX, .ref o_land_placeY, .int v_land_places, .ref o_land_crowKind, .int v_land_crows, .ref o_land_now, g_land_past, .int v_land_pasts, .ref o_land_notes, .ref o_land_marks])), (o_land_placeKind, .inl (y 0, 7, .inl f_land_placeKind)), (o_land_placeX, .inl (y 0, 7, .inl f_land_placeX)), (o_land_placeY, .inl (y 0, 7, .inl f_land_placeY)), (o_land_crowKind, .inl (y 0, 3, .inl f_land_crowKind)), (o_land_now, .inr (1, [.ref o_land_now_at, .ref o_land_now_tired, .ref o_land_now_deedRows, .int v_land_now_deeds, .int v_land_now_hour])), (o_land_now_at, .inl (y 0, 3, .inl f_land_now_at)), (o_land_now_tired, .inl (y 0, 3, .inl f_land_now_tired)), (o_land_now_deedRows, .inl (y 0, 36, .inl f_land_now_deedRows)), (o_land_notes, .inr (5, [.int v_land_notes_ofCrows, .ref o_land_notes_rows, .int v_land_notes_size])), (o_land_notes_rows, .inl (y 0, 30, .inl f_land_notes_rows)), (o_land_marks, .inr (5, [.int v_land_marks_ofCrows, .ref o_land_marks_rows, .int v_land_marks_size])), (o_land_marks_rows, .inl (y 0, 30, .inl f_land_marks_rows))]) rfl (fun H locs hH => ?_)
    refine lv_lstore_n (lv' := [(1, .long r3), (0, .ref o)]) K.x K.b dX7_digest_39 rfl hl (by decide) rfl (fun ls hl => ?_)
    refine z_ldc2 K tw_4_71 dX7_digest_40 ?_
    refine lv_lload_n K.x K.b dX7_digest_43 rfl (lv_at hl 0 rfl) ?_
    refine lv_lmul K.x K.b dX7_digest_44 ?_
    refine lv_aload_n K.x K.b dX7_digest_45 rfl (lv_at hl 1 rfl) ?_
    refine z_get K hH 0 rfl zin_7 rfl 5 (by decide) tw_1_202 (v := .int v_above) rfl dX7_digest_46 ?_
    refine lv_i2l K.x K.b dX7_digest_49 rfl ?_
    refine lv_ladd K.x K.b dX7_digest_50 ?_
    obtain ⟨x5, ex5, h⟩ := z_lt_e h
    refine z_nml ex5 ?_
    refine lv_lstore_n (lv' := [(1, .long x5), (0, .ref o)]) K.x K.b dX7_digest_51 rfl hl (by decide) rfl (fun ls hl => ?_)
    refine z_ldc2 K tw_4_71 dX7_digest_52 ?_
    refine lv_lload_n K.x K.b dX7_digest_55 rfl (lv_at hl 0 rfl) ?_
    refine lv_lmul K.x K.b dX7_digest_56 ?_
    refine lv_aload_n K.x K.b dX7_digest_57 rfl (lv_at hl 1 rfl) ?_
    refine z_get K hH 0 rfl zin_7 rfl 6 (by decide) tw_1_203 (v := .int v_below) rfl dX7_digest_58 ?_
    refine lv_i2l K.x K.b dX7_digest_61 rfl ?_
    refine lv_ladd K.x K.b dX7_digest_62 ?_
    have hr9 := Option.some.inj h
    obtain rfl := hr9
    rw [hQ]
    exact z_retl K hr hH [0, 1, 2, 3, 4, 5, 6, 7, 8, 9, 10, 11, 12, 13] (by decide) rfl rfl dX7_digest_63
  refine z_lp_ind (P := fun (s1 : Int32 × Int64) => ∀ (H : Heap) (locs : List Loc) (ls : Array Slot), z_H D A s.heap [(o, .inr (6, [.ref o_land, g_images, g_kept, g_text, .int v_textLength, .int v_above, .int v_below, g_bads, g_nos, g_fulls, g_roads, g_reader, g_traveller, g_questions])), (o_land, .inr (0, [.ref o_land_placeKind, .ref o_land_placeX, .ref o_land_placeY, .int v_land_places, .ref o_land_crowKind, .int v_land_crows, .ref o_land_now, g_land_past, .int v_land_pasts, .ref o_land_notes, .ref o_land_marks])), (o_land_placeKind, .inl (y 0, 7, .inl f_land_placeKind)), (o_land_placeX, .inl (y 0, 7, .inl f_land_placeX)), (o_land_placeY, .inl (y 0, 7, .inl f_land_placeY)), (o_land_crowKind, .inl (y 0, 3, .inl f_land_crowKind)), (o_land_now, .inr (1, [.ref o_land_now_at, .ref o_land_now_tired, .ref o_land_now_deedRows, .int v_land_now_deeds, .int v_land_now_hour])), (o_land_now_at, .inl (y 0, 3, .inl f_land_now_at)), (o_land_now_tired, .inl (y 0, 3, .inl f_land_now_tired)), (o_land_now_deedRows, .inl (y 0, 36, .inl f_land_now_deedRows)), (o_land_notes, .inr (5, [.int v_land_notes_ofCrows, .ref o_land_notes_rows, .int v_land_notes_size])), (o_land_notes_rows, .inl (y 0, 30, .inl f_land_notes_rows)), (o_land_marks, .inr (5, [.int v_land_marks_ofCrows, .ref o_land_marks_rows, .int v_land_marks_size])), (o_land_marks_rows, .inl (y 0, 30, .inl f_land_marks_rows))] H locs → lv_has ls 4 [(0, .ref o), (1, .long s1.2), (3, .int s1.1)] → W p l e (zR 3 64) s m args below meth c H locs 0 0 Q (F0 m 6 ls [])) ?_ _ hlpe2 _ _ _ hH (lv_sub hl [2, 1, 0] rfl)
  clear h hlpe2
  intro s1 x6 h ihe2 hee2 H locs ls hH hl
  refine lv_iload_n K.x K.b dX7_digest_6 rfl (lv_at hl 2 rfl) ?_
  refine lv_bipush (v := (9)) K.x K.b dX7_digest_7 (by decide) ?_
  refine lv_icmp_ge (tgt := 31) K.x K.b dX7_digest_9 (by decide) (fun c7 => ?_) (fun c7 => ?_)
  · replace h := z_t c7 h
    obtain rfl := hee2 _ (Option.some.inj h).symm
    exact KEe2 _ _ _ hH (lv_sub hl [0, 1] rfl)
  · replace h := z_f c7 h
    refine z_ldc2 K tw_4_71 dX7_digest_12 ?_
    refine lv_lload_n K.x K.b dX7_digest_15 rfl (lv_at hl 1 rfl) ?_
    refine lv_lmul K.x K.b dX7_digest_16 ?_
    refine lv_aload_n K.x K.b dX7_digest_17 rfl (lv_at hl 0 rfl) ?_
    refine lv_iload_n K.x K.b dX7_digest_18 rfl (lv_at hl 2 rfl) ?_
    obtain ⟨r8, hr9, h⟩ := z_bd_e h
    refine z_Vi K hH hl.1 (c_X7_amount l D y o o_land o_land_now o_land_now_deedRows o_land_notes o_land_marks (g_images) (g_kept) (g_text) (.int v_above) (.int v_below) (g_bads) (g_nos) (g_fulls) (g_roads) (g_reader) (g_traveller) (g_questions) (.ref o_land_placeKind) (.ref o_land_placeX) (.ref o_land_placeY) (.ref o_land_crowKind) (g_land_past) (.ref o_land_now_at) (.ref o_land_now_tired) (.int v_land_notes_ofCrows) (.ref o_land_notes_rows) (.int v_land_marks_ofCrows) (.ref o_land_marks_rows) v_textLength v_land_places v_land_crows v_land_pasts v_land_now_deeds v_land_now_hour f_land_now_deedRows v_land_notes_size v_land_marks_size s1.1 r8 hr9) (z_cwV K 1 tw_4_58 tw_4_60 tw_0_35 tw_1_1 tw_4_61 hd_X7_amount ⟨by decide, by decide⟩) [0, 1, 6, 9, 10, 12] [2, 3, 4, 5, 7, 8, 11, 13] rfl (wr := [(o_land_placeKind, .inl (y 0, 7, .inl f_land_placeKind)), (o_land_placeX, .inl (y 0, 7, .inl f_land_placeX)), (o_land_placeY, .inl (y 0, 7, .inl f_land_placeY)), (o_land_crowKind, .inl (y 0, 3, .inl f_land_crowKind)), (o_land_now_at, .inl (y 0, 3, .inl f_land_now_at)), (o_land_now_tired, .inl (y 0, 3, .inl f_land_now_tired)), (o_land_notes_rows, .inl (y 0, 30, .inl f_land_notes_rows)), (o_land_marks_rows, .inl (y 0, 30, .inl f_land_marks_rows))]) rfl rfl rfl (by decide) rfl rfl rfl (As := [.int s1.1]) (rest := [.long ((31 : Int64) * s1.2)]) rfl (Nat.le_of_ble_eq_true rfl) ⟨Nat.zero_le _, Nat.zero_le _⟩ dX7_digest_19 (ws' := [(o_land_placeKind, .inl (y 0, 7, .inl f_land_placeKind)), (o_land_placeX, .inl (y 0, 7, .inl f_land_placeX)), (o_land_placeY, .inl (y 0, 7, .inl f_land_placeY)), (o_land_crowKind, .inl (y 0, 3, .inl f_land_crowKind)), (o_land_now_at, .inl (y 0, 3, .inl f_land_now_at)), (o_land_now_tired, .inl (y 0, 3, .inl f_land_now_tired)), (o_land_notes_rows, .inl (y 0, 30, .inl f_land_notes_rows)), (o_land_marks_rows, .inl (y 0, 30, .inl f_land_marks_rows)), (o, .inr (6, [.ref o_land, g_images, g_kept, g_text, .int v_textLength, .int v_above, .int v_below, g_bads, g_nos, g_fulls, g_roads, g_reader, g_traveller, g_questions])), (o_land, .inr (0, [.ref o_land_placeKind, .ref o_land_placeX, .ref o_land_placeY, .int v_land_places, .ref o_land_crowKind, .int v_land_crows, .ref o_land_now, g_land_past, .int v_land_pasts, .ref o_land_notes, .ref o_land_marks])), (o_land_now, .inr (1, [.ref o_land_now_at, .ref o_land_now_tired, .ref o_land_now_deedRows, .int v_land_now_deeds, .int v_land_now_hour])), (o_land_now_deedRows, .inl (y 0, 36, .inl f_land_now_deedRows)), (o_land_notes, .inr (5, [.int v_land_notes_ofCrows, .ref o_land_notes_rows, .int v_land_notes_size])), (o_land_marks, .inr (5, [.int v_land_marks_ofCrows, .ref o_land_marks_rows, .int v_land_marks_size]))]) rfl (fun H locs hH => ?_)
    refine lv_i2l K.x K.b dX7_digest_22 rfl ?_
    refine lv_ladd K.x K.b dX7_digest_23 ?_
    obtain ⟨x10, ex10, h⟩ := z_lt_e h
    refine z_nml ex10 ?_
    refine lv_lstore_n (lv' := [(1, .long x10), (0, .ref o), (3, .int s1.1)]) K.x K.b dX7_digest_24 rfl hl (by decide) rfl (fun ls hl => ?_)
    obtain ⟨x11, ex11, h⟩ := z_lt_e h
    refine lv_iinc (v := x11) (lv' := [(3, .int x11), (1, .long x10), (0, .ref o)]) K.x K.b dX7_digest_25 hl (k := 2) rfl (by rw [ex11]; rfl) (by decide) rfl (fun ls hl => ?_)
    refine lv_goto (tgt := 6) K.x K.b dX7_digest_28 (by decide) ?_
    exact ihe2 _ (Option.some.inj h).symm _ _ _ (hH.sub [8, 9, 0, 1, 2, 3, 10, 4, 5, 11, 12, 6, 13, 7] (by decide) rfl) (lv_sub hl [2, 1, 0] rfl)
