noncomputable def p_X7_clash (v_bads : Int32) (v_land_places : Int32) (v_land_crows : Int32) (f_land_placeKind : (Nat → Int32)) (f_land_placeX : (Nat → Int32)) (f_land_placeY : (Nat → Int32)) (f_land_crowKind : (Nat → Int32)) (v_land_now_hour : Int32) (f_land_now_tired : (Nat → Int32)) (v_roads_foundCount : Int32) (v_roads_places : Int32) (f_roads_far : (Nat → Int32)) (f_roads_found : (Nat → Int32)) (p1 : Int32) (p2 : Int32) : Option (Int32 × Int32 × Int32 × Int32 × (Nat → Int32) × (Nat → Int32)) :=
  z_bd (p_X0_hasCrow v_land_crows p1) fun r1 =>
  if (r1 = 0) then
  (z_bd (p_X7_refuseList v_bads) fun r4 =>
  some (r4.1, r4.2, v_roads_foundCount, v_roads_places, f_roads_far, f_roads_found)) else
  (if ((-1 : Int32) ≤ p2) then
  (z_bd (p_X5_measure v_roads_foundCount v_roads_places f_roads_far v_land_places f_land_placeKind f_land_placeX f_land_placeY f_land_crowKind v_land_now_hour f_land_now_tired p1) fun r7 =>
  z_bd (p_X5_findClashes r7.1 r7.2.1 r7.2.2 f_roads_found) fun r9 =>
  z_bd (p_X5_answer r9.2.1 r9.2.2 p2 r9.1) fun r11 =>
  some (r11, v_bads, r9.2.1, r7.2.1, r7.2.2, r9.2.2)) else
  (z_bd (p_X7_refuseList v_bads) fun r13 =>
  some (r13.1, r13.2, v_roads_foundCount, v_roads_places, f_roads_far, f_roads_found)))
theorem hd_X7_clash : yX7_clash.cls = RX7 ∧ yX7_clash.cls ≠ "java/lang/invoke/MethodHandle" ∧ yX7_clash.cls ≠ "java/lang/invoke/VarHandle" ∧ (parseMethodDescriptor yX7_clash.desc).map (fun d => d.parameters.length) = some 2 := by decide +kernel
set_option maxHeartbeats 4000000 in
set_option maxRecDepth 100000 in
theorem c_X7_clash (l : Launch) (D : va_G) (y : Nat → ClassId) (o o_land o_land_placeKind o_land_placeX o_land_placeY o_land_crowKind o_land_now o_land_now_tired o_roads o_roads_far o_roads_found : Nat) (g_images g_kept g_text g_textLength g_above g_below g_nos g_fulls g_reader g_traveller g_questions g_land_past g_land_pasts g_land_notes g_land_marks g_land_now_at g_land_now_deedRows g_land_now_deeds g_roads_toEnd g_roads_toHome : Value) (v_bads : Int32) (v_land_places : Int32) (v_land_crows : Int32) (f_land_placeKind : (Nat → Int32)) (f_land_placeX : (Nat → Int32)) (f_land_placeY : (Nat → Int32)) (f_land_crowKind : (Nat → Int32)) (v_land_now_hour : Int32) (f_land_now_tired : (Nat → Int32)) (v_roads_foundCount : Int32) (v_roads_places : Int32) (f_roads_far : (Nat → Int32)) (f_roads_found : (Nat → Int32)) (p1 : Int32) (p2 : Int32) (r : Int32 × Int32 × Int32 × Int32 × (Nat → Int32) × (Nat → Int32)) (h : p_X7_clash v_bads v_land_places v_land_crows f_land_placeKind f_land_placeX f_land_placeY f_land_crowKind v_land_now_hour f_land_now_tired v_roads_foundCount v_roads_places f_roads_far f_roads_found p1 p2 = some r) : z_MI l yX7_clash cX7_clash 3 (some .int) 5 135 D y [.ref o, .int p1, .int p2] [(o, .inr (6, [.ref o_land, g_images, g_kept, g_text, g_textLength, g_above, g_below, .int v_bads, g_nos, g_fulls, .ref o_roads, g_reader, g_traveller, g_questions])), (o_land, .inr (0, [.ref o_land_placeKind, .ref o_land_placeX, .ref o_land_placeY, .int v_land_places, .ref o_land_crowKind, .int v_land_crows, .ref o_land_now, g_land_past, g_land_pasts, g_land_notes, g_land_marks])), (o_land_placeKind, .inl (y 0, 7, .inl f_land_placeKind)), (o_land_placeX, .inl (y 0, 7, .inl f_land_placeX)), (o_land_placeY, .inl (y 0, 7, .inl f_land_placeY)), (o_land_crowKind, .inl (y 0, 3, .inl f_land_crowKind)), (o_land_now, .inr (1, [g_land_now_at, .ref o_land_now_tired, g_land_now_deedRows, g_land_now_deeds, .int v_land_now_hour])), (o_land_now_tired, .inl (y 0, 3, .inl f_land_now_tired)), (o_roads, .inr (4, [.ref o_roads_far, g_roads_toEnd, g_roads_toHome, .ref o_roads_found, .int v_roads_foundCount, .int v_roads_places])), (o_roads_far, .inl (y 0, 49, .inl f_roads_far)), (o_roads_found, .inl (y 0, 49, .inl f_roads_found))] r.1 [(o, .inr (6, [.ref o_land, g_images, g_kept, g_text, g_textLength, g_above, g_below, .int r.2.1, g_nos, g_fulls, .ref o_roads, g_reader, g_traveller, g_questions])), (o_land, .inr (0, [.ref o_land_placeKind, .ref o_land_placeX, .ref o_land_placeY, .int v_land_places, .ref o_land_crowKind, .int v_land_crows, .ref o_land_now, g_land_past, g_land_pasts, g_land_notes, g_land_marks])), (o_land_placeKind, .inl (y 0, 7, .inl f_land_placeKind)), (o_land_placeX, .inl (y 0, 7, .inl f_land_placeX)), (o_land_placeY, .inl (y 0, 7, .inl f_land_placeY)), (o_land_crowKind, .inl (y 0, 3, .inl f_land_crowKind)), (o_land_now, .inr (1, [g_land_now_at, .ref o_land_now_tired, g_land_now_deedRows, g_land_now_deeds, .int v_land_now_hour])), (o_land_now_tired, .inl (y 0, 3, .inl f_land_now_tired)), (o_roads, .inr (4, [.ref o_roads_far, g_roads_toEnd, g_roads_toHome, .ref o_roads_found, .int r.2.2.1, .int r.2.2.2.1])), (o_roads_far, .inl (y 0, 49, .inl r.2.2.2.2.1)), (o_roads_found, .inl (y 0, 49, .inl r.2.2.2.2.2))] := by
  unfold p_X7_clash at h
  refine z_enI (by decide) (Nat.le_of_ble_eq_true rfl) ?_
  intro p e s m args below meth c A ls hr K hH hl
  obtain ⟨Q, hQ⟩ : ∃ Q, Q = MQ below (z_Qi D y A r.1 [(o, .inr (6, [.ref o_land, g_images, g_kept, g_text, g_textLength, g_above, g_below, .int r.2.1, g_nos, g_fulls, .ref o_roads, g_reader, g_traveller, g_questions])), (o_land, .inr (0, [.ref o_land_placeKind, .ref o_land_placeX, .ref o_land_placeY, .int v_land_places, .ref o_land_crowKind, .int v_land_crows, .ref o_land_now, g_land_past, g_land_pasts, g_land_notes, g_land_marks])), (o_land_placeKind, .inl (y 0, 7, .inl f_land_placeKind)), (o_land_placeX, .inl (y 0, 7, .inl f_land_placeX)), (o_land_placeY, .inl (y 0, 7, .inl f_land_placeY)), (o_land_crowKind, .inl (y 0, 3, .inl f_land_crowKind)), (o_land_now, .inr (1, [g_land_now_at, .ref o_land_now_tired, g_land_now_deedRows, g_land_now_deeds, .int v_land_now_hour])), (o_land_now_tired, .inl (y 0, 3, .inl f_land_now_tired)), (o_roads, .inr (4, [.ref o_roads_far, g_roads_toEnd, g_roads_toHome, .ref o_roads_found, .int r.2.2.1, .int r.2.2.2.1])), (o_roads_far, .inl (y 0, 49, .inl r.2.2.2.2.1)), (o_roads_found, .inl (y 0, 49, .inl r.2.2.2.2.2))]) args s 0 0 A := ⟨_, rfl⟩
  rw [← hQ]
  have hl : lv_has ls 3 [(0, .ref o), (1, .int p1), (2, .int p2)] := hl
  refine lv_aload_n K.x K.b dX7_clash_0 rfl (lv_at hl 0 rfl) ?_
  refine z_get K hH 0 rfl zin_7 rfl 0 (by decide) tw_1_197 (v := .ref o_land) rfl dX7_clash_1 ?_
  refine lv_iload_n K.x K.b dX7_clash_4 rfl (lv_at hl 1 rfl) ?_
  obtain ⟨r1, hr2, h⟩ := z_bd_e h
  refine z_Vi K hH hl.1 (c_X0_hasCrow l D y o_land (.ref o_land_placeKind) (.ref o_land_placeX) (.ref o_land_placeY) (.int v_land_places) (.ref o_land_crowKind) (.ref o_land_now) (g_land_past) (g_land_pasts) (g_land_notes) (g_land_marks) v_land_crows p1 r1 hr2) (z_cwV K 1 tw_2_223 tw_2_224 tw_2_225 tw_1_2 tw_2_226 hd_X0_hasCrow ⟨by decide, by decide⟩) [1] [0, 2, 3, 4, 5, 6, 7, 8, 9, 10] rfl (wr := [(o, .inr (6, [.ref o_land, g_images, g_kept, g_text, g_textLength, g_above, g_below, .int v_bads, g_nos, g_fulls, .ref o_roads, g_reader, g_traveller, g_questions])), (o_land_placeKind, .inl (y 0, 7, .inl f_land_placeKind)), (o_land_placeX, .inl (y 0, 7, .inl f_land_placeX)), (o_land_placeY, .inl (y 0, 7, .inl f_land_placeY)), (o_land_crowKind, .inl (y 0, 3, .inl f_land_crowKind)), (o_land_now, .inr (1, [g_land_now_at, .ref o_land_now_tired, g_land_now_deedRows, g_land_now_deeds, .int v_land_now_hour])), (o_land_now_tired, .inl (y 0, 3, .inl f_land_now_tired)), (o_roads, .inr (4, [.ref o_roads_far, g_roads_toEnd, g_roads_toHome, .ref o_roads_found, .int v_roads_foundCount, .int v_roads_places])), (o_roads_far, .inl (y 0, 49, .inl f_roads_far)), (o_roads_found, .inl (y 0, 49, .inl f_roads_found))]) rfl rfl rfl (by decide) rfl rfl rfl (As := [.int p1]) (rest := []) rfl (Nat.le_of_ble_eq_true rfl) ⟨Nat.zero_le _, Nat.zero_le _⟩ dX7_clash_5 (ws' := [(o, .inr (6, [.ref o_land, g_images, g_kept, g_text, g_textLength, g_above, g_below, .int v_bads, g_nos, g_fulls, .ref o_roads, g_reader, g_traveller, g_questions])), (o_land_placeKind, .inl (y 0, 7, .inl f_land_placeKind)), (o_land_placeX, .inl (y 0, 7, .inl f_land_placeX)), (o_land_placeY, .inl (y 0, 7, .inl f_land_placeY)), (o_land_crowKind, .inl (y 0, 3, .inl f_land_crowKind)), (o_land_now, .inr (1, [g_land_now_at, .ref o_land_now_tired, g_land_now_deedRows, g_land_now_deeds, .int v_land_now_hour])), (o_land_now_tired, .inl (y 0, 3, .inl f_land_now_tired)), (o_roads, .inr (4, [.ref o_roads_far, g_roads_toEnd, g_roads_toHome, .ref o_roads_found, .int v_roads_foundCount, .int v_roads_places])), (o_roads_far, .inl (y 0, 49, .inl f_roads_far)), (o_roads_found, .inl (y 0, 49, .inl f_roads_found)), (o_land, .inr (0, [.ref o_land_placeKind, .ref o_land_placeX, .ref o_land_placeY, .int v_land_places, .ref o_land_crowKind, .int v_land_crows, .ref o_land_now, g_land_past, g_land_pasts, g_land_notes, g_land_marks]))]) rfl (fun H locs hH => ?_)
  refine lv_if_eq (tgt := 16) K.x K.b dX7_clash_8 (by decide) (fun c3 => ?_) (fun c3 => ?_)
  · replace h := z_t c3 h
    refine lv_aload_n K.x K.b dX7_clash_16 rfl (lv_at hl 0 rfl) ?_
    obtain ⟨r4, hr5, h⟩ := z_bd_e h
    refine z_Vi K hH hl.1 (c_X7_refuseList l D y o (.ref o_land) (g_images) (g_kept) (g_text) (g_textLength) (g_above) (g_below) (g_nos) (g_fulls) (.ref o_roads) (g_reader) (g_traveller) (g_questions) v_bads r4 hr5) (z_cwV K 0 tw_3_58 tw_3_60 tw_0_17 tw_1_1 tw_3_61 hd_X7_refuseList ⟨by decide, by decide⟩) [0] [1, 2, 3, 4, 5, 6, 7, 8, 9, 10] rfl (wr := [(o_land_placeKind, .inl (y 0, 7, .inl f_land_placeKind)), (o_land_placeX, .inl (y 0, 7, .inl f_land_placeX)), (o_land_placeY, .inl (y 0, 7, .inl f_land_placeY)), (o_land_crowKind, .inl (y 0, 3, .inl f_land_crowKind)), (o_land_now, .inr (1, [g_land_now_at, .ref o_land_now_tired, g_land_now_deedRows, g_land_now_deeds, .int v_land_now_hour])), (o_land_now_tired, .inl (y 0, 3, .inl f_land_now_tired)), (o_roads, .inr (4, [.ref o_roads_far, g_roads_toEnd, g_roads_toHome, .ref o_roads_found, .int v_roads_foundCount, .int v_roads_places])), (o_roads_far, .inl (y 0, 49, .inl f_roads_far)), (o_roads_found, .inl (y 0, 49, .inl f_roads_found)), (o_land, .inr (0, [.ref o_land_placeKind, .ref o_land_placeX, .ref o_land_placeY, .int v_land_places, .ref o_land_crowKind, .int v_land_crows, .ref o_land_now, g_land_past, g_land_pasts, g_land_notes, g_land_marks]))]) rfl rfl rfl (by decide) rfl rfl rfl (As := []) (rest := []) rfl (Nat.le_of_ble_eq_true rfl) ⟨Nat.zero_le _, Nat.zero_le _⟩ dX7_clash_17 (ws' := [(o_land_placeKind, .inl (y 0, 7, .inl f_land_placeKind)), (o_land_placeX, .inl (y 0, 7, .inl f_land_placeX)), (o_land_placeY, .inl (y 0, 7, .inl f_land_placeY)), (o_land_crowKind, .inl (y 0, 3, .inl f_land_crowKind)), (o_land_now, .inr (1, [g_land_now_at, .ref o_land_now_tired, g_land_now_deedRows, g_land_now_deeds, .int v_land_now_hour])), (o_land_now_tired, .inl (y 0, 3, .inl f_land_now_tired)), (o_roads, .inr (4, [.ref o_roads_far, g_roads_toEnd, g_roads_toHome, .ref o_roads_found, .int v_roads_foundCount, .int v_roads_places])), (o_roads_far, .inl (y 0, 49, .inl f_roads_far)), (o_roads_found, .inl (y 0, 49, .inl f_roads_found)), (o_land, .inr (0, [.ref o_land_placeKind, .ref o_land_placeX, .ref o_land_placeY, .int v_land_places, .ref o_land_crowKind, .int v_land_crows, .ref o_land_now, g_land_past, g_land_pasts, g_land_notes, g_land_marks])), (o, .inr (6, [.ref o_land, g_images, g_kept, g_text, g_textLength, g_above, g_below, .int r4.2, g_nos, g_fulls, .ref o_roads, g_reader, g_traveller, g_questions]))]) rfl (fun H locs hH => ?_)
    have hr9 := Option.some.inj h
    obtain rfl := hr9
    rw [hQ]
    exact z_reti K hr hH [10, 9, 0, 1, 2, 3, 4, 5, 6, 7, 8] (by decide) rfl rfl rfl dX7_clash_20
  · replace h := z_f c3 h
    refine lv_iload_n K.x K.b dX7_clash_11 rfl (lv_at hl 2 rfl) ?_
    refine lv_iconst (v := (-1)) K.x K.b dX7_clash_12 (by decide) ?_
    refine lv_icmp_ge (tgt := 21) K.x K.b dX7_clash_13 (by decide) (fun c6 => ?_) (fun c6 => ?_)
    · replace h := z_t c6 h
      refine lv_aload_n K.x K.b dX7_clash_21 rfl (lv_at hl 0 rfl) ?_
      refine z_get K hH 0 rfl zin_7 rfl 10 (by decide) tw_1_207 (v := .ref o_roads) rfl dX7_clash_22 ?_
      refine lv_aload_n K.x K.b dX7_clash_25 rfl (lv_at hl 0 rfl) ?_
      refine z_get K hH 0 rfl zin_7 rfl 0 (by decide) tw_1_197 (v := .ref o_land) rfl dX7_clash_26 ?_
      refine lv_iload_n K.x K.b dX7_clash_29 rfl (lv_at hl 1 rfl) ?_
      obtain ⟨r7, hr8, h⟩ := z_bd_e h
      refine z_Vv K hH hl.1 (c_X5_measure l D y o_roads o_roads_far o_land o_land_placeKind o_land_placeX o_land_placeY o_land_crowKind o_land_now o_land_now_tired (g_roads_toEnd) (g_roads_toHome) (.ref o_roads_found) (.int v_land_crows) (g_land_past) (g_land_pasts) (g_land_notes) (g_land_marks) (g_land_now_at) (g_land_now_deedRows) (g_land_now_deeds) v_roads_foundCount v_roads_places f_roads_far v_land_places f_land_placeKind f_land_placeX f_land_placeY f_land_crowKind v_land_now_hour f_land_now_tired p1 r7 hr8) (z_cwV K 2 tw_3_62 tw_3_63 tw_3_64 tw_1_5 tw_3_65 hd_X5_measure ⟨by decide, by decide⟩) [7, 8, 10, 1, 2, 3, 4, 5, 6] [0, 9] rfl (wr := [(o, .inr (6, [.ref o_land, g_images, g_kept, g_text, g_textLength, g_above, g_below, .int v_bads, g_nos, g_fulls, .ref o_roads, g_reader, g_traveller, g_questions])), (o_roads_found, .inl (y 0, 49, .inl f_roads_found))]) rfl rfl rfl (by decide) rfl rfl rfl (As := [.ref o_land, .int p1]) (rest := []) rfl (Nat.le_of_ble_eq_true rfl) ⟨Nat.zero_le _, Nat.zero_le _⟩ dX7_clash_30 (ws' := [(o, .inr (6, [.ref o_land, g_images, g_kept, g_text, g_textLength, g_above, g_below, .int v_bads, g_nos, g_fulls, .ref o_roads, g_reader, g_traveller, g_questions])), (o_roads_found, .inl (y 0, 49, .inl f_roads_found)), (o_roads, .inr (4, [.ref o_roads_far, g_roads_toEnd, g_roads_toHome, .ref o_roads_found, .int r7.1, .int r7.2.1])), (o_roads_far, .inl (y 0, 49, .inl r7.2.2)), (o_land, .inr (0, [.ref o_land_placeKind, .ref o_land_placeX, .ref o_land_placeY, .int v_land_places, .ref o_land_crowKind, .int v_land_crows, .ref o_land_now, g_land_past, g_land_pasts, g_land_notes, g_land_marks])), (o_land_placeKind, .inl (y 0, 7, .inl f_land_placeKind)), (o_land_placeX, .inl (y 0, 7, .inl f_land_placeX)), (o_land_placeY, .inl (y 0, 7, .inl f_land_placeY)), (o_land_crowKind, .inl (y 0, 3, .inl f_land_crowKind)), (o_land_now, .inr (1, [g_land_now_at, .ref o_land_now_tired, g_land_now_deedRows, g_land_now_deeds, .int v_land_now_hour])), (o_land_now_tired, .inl (y 0, 3, .inl f_land_now_tired))]) rfl (fun H locs hH => ?_)
      refine lv_aload_n K.x K.b dX7_clash_33 rfl (lv_at hl 0 rfl) ?_
      refine z_get K hH 0 rfl zin_7 rfl 10 (by decide) tw_1_207 (v := .ref o_roads) rfl dX7_clash_34 ?_
      refine lv_iload_n K.x K.b dX7_clash_37 rfl (lv_at hl 2 rfl) ?_
      refine lv_aload_n K.x K.b dX7_clash_38 rfl (lv_at hl 0 rfl) ?_
      refine z_get K hH 0 rfl zin_7 rfl 10 (by decide) tw_1_207 (v := .ref o_roads) rfl dX7_clash_39 ?_
      obtain ⟨r9, hr10, h⟩ := z_bd_e h
      refine z_Vi K hH hl.1 (c_X5_findClashes l D y o_roads o_roads_far o_roads_found (g_roads_toEnd) (g_roads_toHome) r7.1 r7.2.1 r7.2.2 f_roads_found r9 hr10) (z_cwV K 0 tw_3_117 tw_3_118 tw_3_119 tw_1_5 tw_3_120 hd_X5_findClashes ⟨by decide, by decide⟩) [2, 3, 1] [0, 4, 5, 6, 7, 8, 9, 10] rfl (wr := [(o, .inr (6, [.ref o_land, g_images, g_kept, g_text, g_textLength, g_above, g_below, .int v_bads, g_nos, g_fulls, .ref o_roads, g_reader, g_traveller, g_questions])), (o_land, .inr (0, [.ref o_land_placeKind, .ref o_land_placeX, .ref o_land_placeY, .int v_land_places, .ref o_land_crowKind, .int v_land_crows, .ref o_land_now, g_land_past, g_land_pasts, g_land_notes, g_land_marks])), (o_land_placeKind, .inl (y 0, 7, .inl f_land_placeKind)), (o_land_placeX, .inl (y 0, 7, .inl f_land_placeX)), (o_land_placeY, .inl (y 0, 7, .inl f_land_placeY)), (o_land_crowKind, .inl (y 0, 3, .inl f_land_crowKind)), (o_land_now, .inr (1, [g_land_now_at, .ref o_land_now_tired, g_land_now_deedRows, g_land_now_deeds, .int v_land_now_hour])), (o_land_now_tired, .inl (y 0, 3, .inl f_land_now_tired))]) rfl rfl rfl (by decide) rfl rfl rfl (As := []) (rest := [.int p2, .ref o_roads]) rfl (Nat.le_of_ble_eq_true rfl) ⟨Nat.zero_le _, Nat.zero_le _⟩ dX7_clash_42 (ws' := [(o, .inr (6, [.ref o_land, g_images, g_kept, g_text, g_textLength, g_above, g_below, .int v_bads, g_nos, g_fulls, .ref o_roads, g_reader, g_traveller, g_questions])), (o_land, .inr (0, [.ref o_land_placeKind, .ref o_land_placeX, .ref o_land_placeY, .int v_land_places, .ref o_land_crowKind, .int v_land_crows, .ref o_land_now, g_land_past, g_land_pasts, g_land_notes, g_land_marks])), (o_land_placeKind, .inl (y 0, 7, .inl f_land_placeKind)), (o_land_placeX, .inl (y 0, 7, .inl f_land_placeX)), (o_land_placeY, .inl (y 0, 7, .inl f_land_placeY)), (o_land_crowKind, .inl (y 0, 3, .inl f_land_crowKind)), (o_land_now, .inr (1, [g_land_now_at, .ref o_land_now_tired, g_land_now_deedRows, g_land_now_deeds, .int v_land_now_hour])), (o_land_now_tired, .inl (y 0, 3, .inl f_land_now_tired)), (o_roads, .inr (4, [.ref o_roads_far, g_roads_toEnd, g_roads_toHome, .ref o_roads_found, .int r9.2.1, .int r7.2.1])), (o_roads_far, .inl (y 0, 49, .inl r7.2.2)), (o_roads_found, .inl (y 0, 49, .inl r9.2.2))]) rfl (fun H locs hH => ?_)
      obtain ⟨r11, hr12, h⟩ := z_bd_e h
      refine z_Vi K hH hl.1 (c_X5_answer l D y o_roads o_roads_found (.ref o_roads_far) (g_roads_toEnd) (g_roads_toHome) (.int r7.2.1) r9.2.1 r9.2.2 p2 r9.1 r11 hr12) (z_cwV K 2 tw_3_89 tw_3_90 tw_3_91 tw_1_5 tw_3_92 hd_X5_answer ⟨by decide, by decide⟩) [8, 10] [0, 1, 2, 3, 4, 5, 6, 7, 9] rfl (wr := [(o, .inr (6, [.ref o_land, g_images, g_kept, g_text, g_textLength, g_above, g_below, .int v_bads, g_nos, g_fulls, .ref o_roads, g_reader, g_traveller, g_questions])), (o_land, .inr (0, [.ref o_land_placeKind, .ref o_land_placeX, .ref o_land_placeY, .int v_land_places, .ref o_land_crowKind, .int v_land_crows, .ref o_land_now, g_land_past, g_land_pasts, g_land_notes, g_land_marks])), (o_land_placeKind, .inl (y 0, 7, .inl f_land_placeKind)), (o_land_placeX, .inl (y 0, 7, .inl f_land_placeX)), (o_land_placeY, .inl (y 0, 7, .inl f_land_placeY)), (o_land_crowKind, .inl (y 0, 3, .inl f_land_crowKind)), (o_land_now, .inr (1, [g_land_now_at, .ref o_land_now_tired, g_land_now_deedRows, g_land_now_deeds, .int v_land_now_hour])), (o_land_now_tired, .inl (y 0, 3, .inl f_land_now_tired)), (o_roads_far, .inl (y 0, 49, .inl r7.2.2))]) rfl rfl rfl (by decide) rfl rfl rfl (As := [.int p2, .int r9.1]) (rest := []) rfl (Nat.le_of_ble_eq_true rfl) ⟨Nat.zero_le _, Nat.zero_le _⟩ dX7_clash_45 (ws' := [(o, .inr (6, [.ref o_land, g_images, g_kept, g_text, g_textLength, g_above, g_below, .int v_bads, g_nos, g_fulls, .ref o_roads, g_reader, g_traveller, g_questions])), (o_land, .inr (0, [.ref o_land_placeKind, .ref o_land_placeX, .ref o_land_placeY, .int v_land_places, .ref o_land_crowKind, .int v_land_crows, .ref o_land_now, g_land_past, g_land_pasts, g_land_notes, g_land_marks])), (o_land_placeKind, .inl (y 0, 7, .inl f_land_placeKind)), (o_land_placeX, .inl (y 0, 7, .inl f_land_placeX)), (o_land_placeY, .inl (y 0, 7, .inl f_land_placeY)), (o_land_crowKind, .inl (y 0, 3, .inl f_land_crowKind)), (o_land_now, .inr (1, [g_land_now_at, .ref o_land_now_tired, g_land_now_deedRows, g_land_now_deeds, .int v_land_now_hour])), (o_land_now_tired, .inl (y 0, 3, .inl f_land_now_tired)), (o_roads_far, .inl (y 0, 49, .inl r7.2.2)), (o_roads, .inr (4, [.ref o_roads_far, g_roads_toEnd, g_roads_toHome, .ref o_roads_found, .int r9.2.1, .int r7.2.1])), (o_roads_found, .inl (y 0, 49, .inl r9.2.2))]) rfl (fun H locs hH => ?_)
      have hr9 := Option.some.inj h
      obtain rfl := hr9
      rw [hQ]
      exact z_reti K hr hH [0, 1, 2, 3, 4, 5, 6, 7, 9, 8, 10] (by decide) rfl rfl rfl dX7_clash_48
    · replace h := z_f c6 h
      refine lv_aload_n K.x K.b dX7_clash_16 rfl (lv_at hl 0 rfl) ?_
      obtain ⟨r13, hr14, h⟩ := z_bd_e h
      refine z_Vi K hH hl.1 (c_X7_refuseList l D y o (.ref o_land) (g_images) (g_kept) (g_text) (g_textLength) (g_above) (g_below) (g_nos) (g_fulls) (.ref o_roads) (g_reader) (g_traveller) (g_questions) v_bads r13 hr14) (z_cwV K 0 tw_3_58 tw_3_60 tw_0_17 tw_1_1 tw_3_61 hd_X7_refuseList ⟨by decide, by decide⟩) [0] [1, 2, 3, 4, 5, 6, 7, 8, 9, 10] rfl (wr := [(o_land_placeKind, .inl (y 0, 7, .inl f_land_placeKind)), (o_land_placeX, .inl (y 0, 7, .inl f_land_placeX)), (o_land_placeY, .inl (y 0, 7, .inl f_land_placeY)), (o_land_crowKind, .inl (y 0, 3, .inl f_land_crowKind)), (o_land_now, .inr (1, [g_land_now_at, .ref o_land_now_tired, g_land_now_deedRows, g_land_now_deeds, .int v_land_now_hour])), (o_land_now_tired, .inl (y 0, 3, .inl f_land_now_tired)), (o_roads, .inr (4, [.ref o_roads_far, g_roads_toEnd, g_roads_toHome, .ref o_roads_found, .int v_roads_foundCount, .int v_roads_places])), (o_roads_far, .inl (y 0, 49, .inl f_roads_far)), (o_roads_found, .inl (y 0, 49, .inl f_roads_found)), (o_land, .inr (0, [.ref o_land_placeKind, .ref o_land_placeX, .ref o_land_placeY, .int v_land_places, .ref o_land_crowKind, .int v_land_crows, .ref o_land_now, g_land_past, g_land_pasts, g_land_notes, g_land_marks]))]) rfl rfl rfl (by decide) rfl rfl rfl (As := []) (rest := []) rfl (Nat.le_of_ble_eq_true rfl) ⟨Nat.zero_le _, Nat.zero_le _⟩ dX7_clash_17 (ws' := [(o_land_placeKind, .inl (y 0, 7, .inl f_land_placeKind)), (o_land_placeX, .inl (y 0, 7, .inl f_land_placeX)), (o_land_placeY, .inl (y 0, 7, .inl f_land_placeY)), (o_land_crowKind, .inl (y 0, 3, .inl f_land_crowKind)), (o_land_now, .inr (1, [g_land_now_at, .ref o_land_now_tired, g_land_now_deedRows, g_land_now_deeds, .int v_land_now_hour])), (o_land_now_tired, .inl (y 0, 3, .inl f_land_now_tired)), (o_roads, .inr (4, [.ref o_roads_far, g_roads_toEnd, g_roads_toHome, .ref o_roads_found, .int v_roads_foundCount, .int v_roads_places])), (o_roads_far, .inl (y 0, 49, .inl f_roads_far)), (o_roads_found, .inl (y 0, 49, .inl f_roads_found)), (o_land, .inr (0, [.ref o_land_placeKind, .ref o_land_placeX, .ref o_land_placeY, .int v_land_places, .ref o_land_crowKind, .int v_land_crows, .ref o_land_now, g_land_past, g_land_pasts, g_land_notes, g_land_marks])), (o, .inr (6, [.ref o_land, g_images, g_kept, g_text, g_textLength, g_above, g_below, .int r13.2, g_nos, g_fulls, .ref o_roads, g_reader, g_traveller, g_questions]))]) rfl (fun H locs hH => ?_)
      have hr9 := Option.some.inj h
      obtain rfl := hr9
      rw [hQ]
      exact z_reti K hr hH [10, 9, 0, 1, 2, 3, 4, 5, 6, 7, 8] (by decide) rfl rfl rfl dX7_clash_20
noncomputable def p_X7_late (v_bads : Int32) (v_land_places : Int32) (v_land_crows : Int32) (f_land_placeKind : (Nat → Int32)) (f_land_placeX : (Nat → Int32)) (f_land_placeY : (Nat → Int32)) (f_land_crowKind : (Nat → Int32)) (f_land_now_tired : (Nat → Int32)) (p1 : Int32) (p2 : Int32) (p3 : Int32) (p4 : Int32) : Option (Int32 × Int32) :=
  z_bd (p_X7_isTrip v_land_places v_land_crows p1 p2 p3) fun r1 =>
  if (r1 = 0) then
  (z_bd (p_X7_refuseBad v_bads) fun r4 =>
  some (r4.1, r4.2)) else
  (z_bd (p_X7_within p4 (0 : Int32) (1 : Int32)) fun r6 =>
  if (r6 = 0) then
  (z_bd (p_X7_refuseBad v_bads) fun r26 =>
  some (r26.1, r26.2)) else
  (z_gd (z_in p1 3) <|
  z_lt ((f_land_now_tired p1.toNatClampNeg)) fun x10 =>
  z_bd (p_X0_farAt f_land_placeKind f_land_placeX f_land_placeY f_land_crowKind p1 p2 p3 x10 (0 : Int32)) fun r11 =>
  z_bd (z_lp (S := Int32 × Int32 × Int32) (E := Int32 × Int32) (fun s13 =>
  if ((24 : Int32) ≤ s13.1) then
  (some (.inr (s13.2.2, s13.2.1))) else
  (z_gd (z_in p1 3) <|
  z_lt ((f_land_now_tired p1.toNatClampNeg)) fun x20 =>
  z_bd (p_X0_farAt f_land_placeKind f_land_placeX f_land_placeY f_land_crowKind p1 p2 p3 x20 s13.1) fun r21 =>
  z_bd (α := Int32 × Int32) (if (r21 ≤ s13.2.1) then
  (some (s13.2.2, s13.2.1)) else
  (some (s13.1, r21))) fun j23 =>
  z_lt (s13.1 + (1 : Int32)) fun x24 =>
  some (.inl (x24, j23.2, j23.1)))) ((1 : Int32), r11, (0 : Int32))) fun e14 =>
  z_bd (α := Int32) (if (p4 = 0) then
  (some e14.1) else
  (some e14.2)) fun j15 =>
  some (j15, v_bads)))
theorem hd_X7_late : yX7_late.cls = RX7 ∧ yX7_late.cls ≠ "java/lang/invoke/MethodHandle" ∧ yX7_late.cls ≠ "java/lang/invoke/VarHandle" ∧ (parseMethodDescriptor yX7_late.desc).map (fun d => d.parameters.length) = some 4 := by decide +kernel
set_option maxHeartbeats 4000000 in
set_option maxRecDepth 100000 in
theorem c_X7_late (l : Launch) (D : va_G) (y : Nat → ClassId) (o o_land o_land_placeKind o_land_placeX o_land_placeY o_land_crowKind o_land_now o_land_now_tired : Nat) (g_images g_kept g_text g_textLength g_above g_below g_nos g_fulls g_roads g_reader g_traveller g_questions g_land_past g_land_pasts g_land_notes g_land_marks g_land_now_at g_land_now_deedRows g_land_now_deeds g_land_now_hour : Value) (v_bads : Int32) (v_land_places : Int32) (v_land_crows : Int32) (f_land_placeKind : (Nat → Int32)) (f_land_placeX : (Nat → Int32)) (f_land_placeY : (Nat → Int32)) (f_land_crowKind : (Nat → Int32)) (f_land_now_tired : (Nat → Int32)) (p1 : Int32) (p2 : Int32) (p3 : Int32) (p4 : Int32) (r : Int32 × Int32) (h : p_X7_late v_bads v_land_places v_land_crows f_land_placeKind f_land_placeX f_land_placeY f_land_crowKind f_land_now_tired p1 p2 p3 p4 = some r) : z_MI l yX7_late cX7_late 9 (some .int) 3 88 D y [.ref o, .int p1, .int p2, .int p3, .int p4] [(o, .inr (6, [.ref o_land, g_images, g_kept, g_text, g_textLength, g_above, g_below, .int v_bads, g_nos, g_fulls, g_roads, g_reader, g_traveller, g_questions])), (o_land, .inr (0, [.ref o_land_placeKind, .ref o_land_placeX, .ref o_land_placeY, .int v_land_places, .ref o_land_crowKind, .int v_land_crows, .ref o_land_now, g_land_past, g_land_pasts, g_land_notes, g_land_marks])), (o_land_placeKind, .inl (y 0, 7, .inl f_land_placeKind)), (o_land_placeX, .inl (y 0, 7, .inl f_land_placeX)), (o_land_placeY, .inl (y 0, 7, .inl f_land_placeY)), (o_land_crowKind, .inl (y 0, 3, .inl f_land_crowKind)), (o_land_now, .inr (1, [g_land_now_at, .ref o_land_now_tired, g_land_now_deedRows, g_land_now_deeds, g_land_now_hour])), (o_land_now_tired, .inl (y 0, 3, .inl f_land_now_tired))] r.1 [(o, .inr (6, [.ref o_land, g_images, g_kept, g_text, g_textLength, g_above, g_below, .int r.2, g_nos, g_fulls, g_roads, g_reader, g_traveller, g_questions])), (o_land, .inr (0, [.ref o_land_placeKind, .ref o_land_placeX, .ref o_land_placeY, .int v_land_places, .ref o_land_crowKind, .int v_land_crows, .ref o_land_now, g_land_past, g_land_pasts, g_land_notes, g_land_marks])), (o_land_placeKind, .inl (y 0, 7, .inl f_land_placeKind)), (o_land_placeX, .inl (y 0, 7, .inl f_land_placeX)), (o_land_placeY, .inl (y 0, 7, .inl f_land_placeY)), (o_land_crowKind, .inl (y 0, 3, .inl f_land_crowKind)), (o_land_now, .inr (1, [g_land_now_at, .ref o_land_now_tired, g_land_now_deedRows, g_land_now_deeds, g_land_now_hour])), (o_land_now_tired, .inl (y 0, 3, .inl f_land_now_tired))] := by
  unfold p_X7_late at h
  refine z_enI (by decide) (Nat.le_of_ble_eq_true rfl) ?_
  intro p e s m args below meth c A ls hr K hH hl
  obtain ⟨Q, hQ⟩ : ∃ Q, Q = MQ below (z_Qi D y A r.1 [(o, .inr (6, [.ref o_land, g_images, g_kept, g_text, g_textLength, g_above, g_below, .int r.2, g_nos, g_fulls, g_roads, g_reader, g_traveller, g_questions])), (o_land, .inr (0, [.ref o_land_placeKind, .ref o_land_placeX, .ref o_land_placeY, .int v_land_places, .ref o_land_crowKind, .int v_land_crows, .ref o_land_now, g_land_past, g_land_pasts, g_land_notes, g_land_marks])), (o_land_placeKind, .inl (y 0, 7, .inl f_land_placeKind)), (o_land_placeX, .inl (y 0, 7, .inl f_land_placeX)), (o_land_placeY, .inl (y 0, 7, .inl f_land_placeY)), (o_land_crowKind, .inl (y 0, 3, .inl f_land_crowKind)), (o_land_now, .inr (1, [g_land_now_at, .ref o_land_now_tired, g_land_now_deedRows, g_land_now_deeds, g_land_now_hour])), (o_land_now_tired, .inl (y 0, 3, .inl f_land_now_tired))]) args s 0 0 A := ⟨_, rfl⟩
  rw [← hQ]
  have hl : lv_has ls 9 [(0, .ref o), (1, .int p1), (2, .int p2), (3, .int p3), (4, .int p4)] := hl
  refine lv_aload_n K.x K.b dX7_late_0 rfl (lv_at hl 0 rfl) ?_
  refine lv_iload_n K.x K.b dX7_late_1 rfl (lv_at hl 1 rfl) ?_
  refine lv_iload_n K.x K.b dX7_late_2 rfl (lv_at hl 2 rfl) ?_
  refine lv_iload_n K.x K.b dX7_late_3 rfl (lv_at hl 3 rfl) ?_
  obtain ⟨r1, hr2, h⟩ := z_bd_e h
  refine z_Vi K hH hl.1 (c_X7_isTrip l D y o o_land (g_images) (g_kept) (g_text) (g_textLength) (g_above) (g_below) (.int v_bads) (g_nos) (g_fulls) (g_roads) (g_reader) (g_traveller) (g_questions) (.ref o_land_placeKind) (.ref o_land_placeX) (.ref o_land_placeY) (.ref o_land_crowKind) (.ref o_land_now) (g_land_past) (g_land_pasts) (g_land_notes) (g_land_marks) v_land_places v_land_crows p1 p2 p3 r1 hr2) (z_cwV K 3 tw_3_46 tw_3_48 tw_0_16 tw_1_1 tw_3_49 hd_X7_isTrip ⟨by decide, by decide⟩) [0, 1] [2, 3, 4, 5, 6, 7] rfl (wr := [(o_land_placeKind, .inl (y 0, 7, .inl f_land_placeKind)), (o_land_placeX, .inl (y 0, 7, .inl f_land_placeX)), (o_land_placeY, .inl (y 0, 7, .inl f_land_placeY)), (o_land_crowKind, .inl (y 0, 3, .inl f_land_crowKind)), (o_land_now, .inr (1, [g_land_now_at, .ref o_land_now_tired, g_land_now_deedRows, g_land_now_deeds, g_land_now_hour])), (o_land_now_tired, .inl (y 0, 3, .inl f_land_now_tired))]) rfl rfl rfl (by decide) rfl rfl rfl (As := [.int p1, .int p2, .int p3]) (rest := []) rfl (Nat.le_of_ble_eq_true rfl) ⟨Nat.zero_le _, Nat.zero_le _⟩ dX7_late_4 (ws' := [(o_land_placeKind, .inl (y 0, 7, .inl f_land_placeKind)), (o_land_placeX, .inl (y 0, 7, .inl f_land_placeX)), (o_land_placeY, .inl (y 0, 7, .inl f_land_placeY)), (o_land_crowKind, .inl (y 0, 3, .inl f_land_crowKind)), (o_land_now, .inr (1, [g_land_now_at, .ref o_land_now_tired, g_land_now_deedRows, g_land_now_deeds, g_land_now_hour])), (o_land_now_tired, .inl (y 0, 3, .inl f_land_now_tired)), (o, .inr (6, [.ref o_land, g_images, g_kept, g_text, g_textLength, g_above, g_below, .int v_bads, g_nos, g_fulls, g_roads, g_reader, g_traveller, g_questions])), (o_land, .inr (0, [.ref o_land_placeKind, .ref o_land_placeX, .ref o_land_placeY, .int v_land_places, .ref o_land_crowKind, .int v_land_crows, .ref o_land_now, g_land_past, g_land_pasts, g_land_notes, g_land_marks]))]) rfl (fun H locs hH => ?_)
  refine lv_if_eq (tgt := 20) K.x K.b dX7_late_7 (by decide) (fun c3 => ?_) (fun c3 => ?_)
  · replace h := z_t c3 h
    refine lv_aload_n K.x K.b dX7_late_20 rfl (lv_at hl 0 rfl) ?_
    obtain ⟨r4, hr5, h⟩ := z_bd_e h
    refine z_Vi K hH hl.1 (c_X7_refuseBad l D y o (.ref o_land) (g_images) (g_kept) (g_text) (g_textLength) (g_above) (g_below) (g_nos) (g_fulls) (g_roads) (g_reader) (g_traveller) (g_questions) v_bads r4 hr5) (z_cwV K 0 tw_2_18 tw_2_20 tw_0_0 tw_1_1 tw_2_21 hd_X7_refuseBad ⟨by decide, by decide⟩) [6] [0, 1, 2, 3, 4, 5, 7] rfl (wr := [(o_land_placeKind, .inl (y 0, 7, .inl f_land_placeKind)), (o_land_placeX, .inl (y 0, 7, .inl f_land_placeX)), (o_land_placeY, .inl (y 0, 7, .inl f_land_placeY)), (o_land_crowKind, .inl (y 0, 3, .inl f_land_crowKind)), (o_land_now, .inr (1, [g_land_now_at, .ref o_land_now_tired, g_land_now_deedRows, g_land_now_deeds, g_land_now_hour])), (o_land_now_tired, .inl (y 0, 3, .inl f_land_now_tired)), (o_land, .inr (0, [.ref o_land_placeKind, .ref o_land_placeX, .ref o_land_placeY, .int v_land_places, .ref o_land_crowKind, .int v_land_crows, .ref o_land_now, g_land_past, g_land_pasts, g_land_notes, g_land_marks]))]) rfl rfl rfl (by decide) rfl rfl rfl (As := []) (rest := []) rfl (Nat.le_of_ble_eq_true rfl) ⟨Nat.zero_le _, Nat.zero_le _⟩ dX7_late_21 (ws' := [(o_land_placeKind, .inl (y 0, 7, .inl f_land_placeKind)), (o_land_placeX, .inl (y 0, 7, .inl f_land_placeX)), (o_land_placeY, .inl (y 0, 7, .inl f_land_placeY)), (o_land_crowKind, .inl (y 0, 3, .inl f_land_crowKind)), (o_land_now, .inr (1, [g_land_now_at, .ref o_land_now_tired, g_land_now_deedRows, g_land_now_deeds, g_land_now_hour])), (o_land_now_tired, .inl (y 0, 3, .inl f_land_now_tired)), (o_land, .inr (0, [.ref o_land_placeKind, .ref o_land_placeX, .ref o_land_placeY, .int v_land_places, .ref o_land_crowKind, .int v_land_crows, .ref o_land_now, g_land_past, g_land_pasts, g_land_notes, g_land_marks])), (o, .inr (6, [.ref o_land, g_images, g_kept, g_text, g_textLength, g_above, g_below, .int r4.2, g_nos, g_fulls, g_roads, g_reader, g_traveller, g_questions]))]) rfl (fun H locs hH => ?_)
    have hr9 := Option.some.inj h
    obtain rfl := hr9
    rw [hQ]
    exact z_reti K hr hH [7, 6, 0, 1, 2, 3, 4, 5] (by decide) rfl rfl rfl dX7_late_24
  · replace h := z_f c3 h
    refine lv_iload K.x K.b dX7_late_10 (lv_at hl 4 rfl) ?_
    refine lv_iconst (v := (0)) K.x K.b dX7_late_12 (by decide) ?_
    refine lv_iconst (v := (1)) K.x K.b dX7_late_13 (by decide) ?_
    obtain ⟨r6, hr7, h⟩ := z_bd_e h
    refine z_Si K hH hl.1 (c_X7_within l D y p4 (0 : Int32) (1 : Int32) r6 hr7) (z_cwS K 3 tw_2_15 tw_2_16 tw_1_1 tw_2_17 hd_X7_within ⟨by decide, by decide⟩) rfl (As := [.int p4, .int (0 : Int32), .int (1 : Int32)]) (rest := []) rfl (Nat.le_of_ble_eq_true rfl) ⟨Nat.zero_le _, Nat.zero_le _⟩ dX7_late_14 (fun H locs hH => ?_)
    refine lv_if_ne (tgt := 25) K.x K.b dX7_late_17 (by decide) (fun c8 => ?_) (fun c8 => ?_)
    · replace h := z_f c8 h
      refine lv_iconst (v := (0)) K.x K.b dX7_late_25 (by decide) ?_
      refine lv_istore (lv' := [(5, .int (0 : Int32)), (0, .ref o), (1, .int p1), (2, .int p2), (3, .int p3), (4, .int p4)]) K.x K.b dX7_late_26 hl (by decide) rfl (fun ls hl => ?_)
      refine lv_aload_n K.x K.b dX7_late_28 rfl (lv_at hl 1 rfl) ?_
      refine z_get K hH 6 rfl zin_7 rfl 0 (by decide) tw_1_197 (v := .ref o_land) rfl dX7_late_29 ?_
      refine lv_iload_n K.x K.b dX7_late_32 rfl (lv_at hl 2 rfl) ?_
      refine lv_iload_n K.x K.b dX7_late_33 rfl (lv_at hl 3 rfl) ?_
      refine lv_iload_n K.x K.b dX7_late_34 rfl (lv_at hl 4 rfl) ?_
      refine lv_aload_n K.x K.b dX7_late_35 rfl (lv_at hl 1 rfl) ?_
      refine z_get K hH 6 rfl zin_7 rfl 0 (by decide) tw_1_197 (v := .ref o_land) rfl dX7_late_36 ?_
      refine z_get K hH 7 rfl zin_0 rfl 6 (by decide) tw_1_95 (v := .ref o_land_now) rfl dX7_late_39 ?_
      refine z_get K hH 4 rfl zin_1 rfl 1 (by decide) tw_1_42 (v := .ref o_land_now_tired) rfl dX7_late_42 ?_
      refine lv_iload_n K.x K.b dX7_late_45 rfl (lv_at hl 2 rfl) ?_
      obtain ⟨g9, h⟩ := z_gd_e h
      refine z_iald K hH 5 (k := p1.toNatClampNeg) rfl g9 rfl dX7_late_46 ?_
      refine lv_iconst (v := (0)) K.x K.b dX7_late_47 (by decide) ?_
      obtain ⟨x10, ex10, h⟩ := z_lt_e h
      refine z_nm2 ex10 ?_
      obtain ⟨r11, hr12, h⟩ := z_bd_e h
      refine z_Vi K hH hl.1 (c_X0_farAt l D y o_land o_land_placeKind o_land_placeX o_land_placeY o_land_crowKind (.int v_land_places) (.int v_land_crows) (.ref o_land_now) (g_land_past) (g_land_pasts) (g_land_notes) (g_land_marks) f_land_placeKind f_land_placeX f_land_placeY f_land_crowKind p1 p2 p3 x10 (0 : Int32) r11 hr12) (z_cwV K 5 tw_3_129 tw_2_167 tw_2_168 tw_1_2 tw_2_169 hd_X0_farAt ⟨by decide, by decide⟩) [7, 0, 1, 2, 3] [4, 5, 6] rfl (wr := [(o_land_now, .inr (1, [g_land_now_at, .ref o_land_now_tired, g_land_now_deedRows, g_land_now_deeds, g_land_now_hour])), (o_land_now_tired, .inl (y 0, 3, .inl f_land_now_tired)), (o, .inr (6, [.ref o_land, g_images, g_kept, g_text, g_textLength, g_above, g_below, .int v_bads, g_nos, g_fulls, g_roads, g_reader, g_traveller, g_questions]))]) rfl rfl rfl (by decide) rfl rfl rfl (As := [.int p1, .int p2, .int p3, .int x10, .int (0 : Int32)]) (rest := []) rfl (Nat.le_of_ble_eq_true rfl) ⟨Nat.zero_le _, Nat.zero_le _⟩ dX7_late_48 (ws' := [(o_land_now, .inr (1, [g_land_now_at, .ref o_land_now_tired, g_land_now_deedRows, g_land_now_deeds, g_land_now_hour])), (o_land_now_tired, .inl (y 0, 3, .inl f_land_now_tired)), (o, .inr (6, [.ref o_land, g_images, g_kept, g_text, g_textLength, g_above, g_below, .int v_bads, g_nos, g_fulls, g_roads, g_reader, g_traveller, g_questions])), (o_land, .inr (0, [.ref o_land_placeKind, .ref o_land_placeX, .ref o_land_placeY, .int v_land_places, .ref o_land_crowKind, .int v_land_crows, .ref o_land_now, g_land_past, g_land_pasts, g_land_notes, g_land_marks])), (o_land_placeKind, .inl (y 0, 7, .inl f_land_placeKind)), (o_land_placeX, .inl (y 0, 7, .inl f_land_placeX)), (o_land_placeY, .inl (y 0, 7, .inl f_land_placeY)), (o_land_crowKind, .inl (y 0, 3, .inl f_land_crowKind))]) rfl (fun H locs hH => ?_)
      refine lv_istore (lv' := [(6, .int r11), (5, .int (0 : Int32)), (0, .ref o), (1, .int p1), (2, .int p2), (3, .int p3), (4, .int p4)]) K.x K.b dX7_late_51 hl (by decide) rfl (fun ls hl => ?_)
      refine lv_iconst (v := (1)) K.x K.b dX7_late_53 (by decide) ?_
      refine lv_istore (lv' := [(7, .int (1 : Int32)), (6, .int r11), (5, .int (0 : Int32)), (0, .ref o), (1, .int p1), (2, .int p2), (3, .int p3), (4, .int p4)]) K.x K.b dX7_late_54 hl (by decide) rfl (fun ls hl => ?_)
      obtain ⟨e14, hlpe14, h⟩ := z_bd_e h
      have KEe14 : ∀ (H : Heap) (locs : List Loc) (ls : Array Slot), z_H D A s.heap [(o_land_now, .inr (1, [g_land_now_at, .ref o_land_now_tired, g_land_now_deedRows, g_land_now_deeds, g_land_now_hour])), (o_land_now_tired, .inl (y 0, 3, .inl f_land_now_tired)), (o, .inr (6, [.ref o_land, g_images, g_kept, g_text, g_textLength, g_above, g_below, .int v_bads, g_nos, g_fulls, g_roads, g_reader, g_traveller, g_questions])), (o_land, .inr (0, [.ref o_land_placeKind, .ref o_land_placeX, .ref o_land_placeY, .int v_land_places, .ref o_land_crowKind, .int v_land_crows, .ref o_land_now, g_land_past, g_land_pasts, g_land_notes, g_land_marks])), (o_land_placeKind, .inl (y 0, 7, .inl f_land_placeKind)), (o_land_placeX, .inl (y 0, 7, .inl f_land_placeX)), (o_land_placeY, .inl (y 0, 7, .inl f_land_placeY)), (o_land_crowKind, .inl (y 0, 3, .inl f_land_crowKind))] H locs → lv_has ls 9 [(4, .int p4), (5, .int e14.1), (6, .int e14.2)] → W p l e (zR 3 88) s m args below meth c H locs 0 0 Q (F0 m 110 ls []) := by
        intro H locs ls hH hl
        refine lv_iload K.x K.b dX7_late_110 (lv_at hl 0 rfl) ?_
        obtain ⟨j15, hj15, h⟩ := z_bd_e h
        have Kj15 : ∀ (H : Heap) (locs : List Loc) (ls : Array Slot), z_H D A s.heap [(o_land_now, .inr (1, [g_land_now_at, .ref o_land_now_tired, g_land_now_deedRows, g_land_now_deeds, g_land_now_hour])), (o_land_now_tired, .inl (y 0, 3, .inl f_land_now_tired)), (o, .inr (6, [.ref o_land, g_images, g_kept, g_text, g_textLength, g_above, g_below, .int v_bads, g_nos, g_fulls, g_roads, g_reader, g_traveller, g_questions])), (o_land, .inr (0, [.ref o_land_placeKind, .ref o_land_placeX, .ref o_land_placeY, .int v_land_places, .ref o_land_crowKind, .int v_land_crows, .ref o_land_now, g_land_past, g_land_pasts, g_land_notes, g_land_marks])), (o_land_placeKind, .inl (y 0, 7, .inl f_land_placeKind)), (o_land_placeX, .inl (y 0, 7, .inl f_land_placeX)), (o_land_placeY, .inl (y 0, 7, .inl f_land_placeY)), (o_land_crowKind, .inl (y 0, 3, .inl f_land_crowKind))] H locs → lv_has ls 9 [] → W p l e (zR 3 88) s m args below meth c H locs 0 0 Q (F0 m 122 ls [.int j15]) := by
          intro H locs ls hH hl
          have hr9 := Option.some.inj h
          obtain rfl := hr9
          rw [hQ]
          exact z_reti K hr hH [2, 3, 4, 5, 6, 7, 0, 1] (by decide) rfl rfl rfl dX7_late_122
        replace h := hj15
        refine lv_if_ne (tgt := 120) K.x K.b dX7_late_112 (by decide) (fun c16 => ?_) (fun c16 => ?_)
        · replace h := z_f c16 h
          refine lv_iload K.x K.b dX7_late_120 (lv_at hl 2 rfl) ?_
          obtain rfl := Option.some.inj h
          exact Kj15 _ _ _ hH (lv_sub hl [] rfl)
        · replace h := z_t c16 h
          refine lv_iload K.x K.b dX7_late_115 (lv_at hl 1 rfl) ?_
          refine lv_goto (tgt := 122) K.x K.b dX7_late_117 (by decide) ?_
          obtain rfl := Option.some.inj h
          exact Kj15 _ _ _ hH (lv_sub hl [] rfl)
      refine z_lp_ind (P := fun (s13 : Int32 × Int32 × Int32) => ∀ (H : Heap) (locs : List Loc) (ls : Array Slot), z_H D A s.heap [(o_land_now, .inr (1, [g_land_now_at, .ref o_land_now_tired, g_land_now_deedRows, g_land_now_deeds, g_land_now_hour])), (o_land_now_tired, .inl (y 0, 3, .inl f_land_now_tired)), (o, .inr (6, [.ref o_land, g_images, g_kept, g_text, g_textLength, g_above, g_below, .int v_bads, g_nos, g_fulls, g_roads, g_reader, g_traveller, g_questions])), (o_land, .inr (0, [.ref o_land_placeKind, .ref o_land_placeX, .ref o_land_placeY, .int v_land_places, .ref o_land_crowKind, .int v_land_crows, .ref o_land_now, g_land_past, g_land_pasts, g_land_notes, g_land_marks])), (o_land_placeKind, .inl (y 0, 7, .inl f_land_placeKind)), (o_land_placeX, .inl (y 0, 7, .inl f_land_placeX)), (o_land_placeY, .inl (y 0, 7, .inl f_land_placeY)), (o_land_crowKind, .inl (y 0, 3, .inl f_land_crowKind))] H locs → lv_has ls 9 [(0, .ref o), (1, .int p1), (2, .int p2), (3, .int p3), (4, .int p4), (5, .int s13.2.2), (6, .int s13.2.1), (7, .int s13.1)] → W p l e (zR 3 88) s m args below meth c H locs 0 0 Q (F0 m 56 ls [])) ?_ _ hlpe14 _ _ _ hH (lv_sub hl [3, 4, 5, 6, 7, 2, 1, 0] rfl)
      clear h hlpe14
      intro s13 x17 h ihe14 hee14 H locs ls hH hl
      refine lv_iload K.x K.b dX7_late_56 (lv_at hl 7 rfl) ?_
      refine lv_bipush (v := (24)) K.x K.b dX7_late_58 (by decide) ?_
      refine lv_icmp_ge (tgt := 110) K.x K.b dX7_late_60 (by decide) (fun c18 => ?_) (fun c18 => ?_)
      · replace h := z_t c18 h
        obtain rfl := hee14 _ (Option.some.inj h).symm
        exact KEe14 _ _ _ hH (lv_sub hl [4, 5, 6] rfl)
      · replace h := z_f c18 h
        refine lv_aload_n K.x K.b dX7_late_63 rfl (lv_at hl 0 rfl) ?_
        refine z_get K hH 2 rfl zin_7 rfl 0 (by decide) tw_1_197 (v := .ref o_land) rfl dX7_late_64 ?_
        refine lv_iload_n K.x K.b dX7_late_67 rfl (lv_at hl 1 rfl) ?_
        refine lv_iload_n K.x K.b dX7_late_68 rfl (lv_at hl 2 rfl) ?_
        refine lv_iload_n K.x K.b dX7_late_69 rfl (lv_at hl 3 rfl) ?_
        refine lv_aload_n K.x K.b dX7_late_70 rfl (lv_at hl 0 rfl) ?_
        refine z_get K hH 2 rfl zin_7 rfl 0 (by decide) tw_1_197 (v := .ref o_land) rfl dX7_late_71 ?_
        refine z_get K hH 3 rfl zin_0 rfl 6 (by decide) tw_1_95 (v := .ref o_land_now) rfl dX7_late_74 ?_
        refine z_get K hH 0 rfl zin_1 rfl 1 (by decide) tw_1_42 (v := .ref o_land_now_tired) rfl dX7_late_77 ?_
        refine lv_iload_n K.x K.b dX7_late_80 rfl (lv_at hl 1 rfl) ?_
        obtain ⟨g19, h⟩ := z_gd_e h
        refine z_iald K hH 1 (k := p1.toNatClampNeg) rfl g19 rfl dX7_late_81 ?_
        refine lv_iload K.x K.b dX7_late_82 (lv_at hl 7 rfl) ?_
        obtain ⟨x20, ex20, h⟩ := z_lt_e h
        refine z_nm2 ex20 ?_
        obtain ⟨r21, hr22, h⟩ := z_bd_e h
        refine z_Vi K hH hl.1 (c_X0_farAt l D y o_land o_land_placeKind o_land_placeX o_land_placeY o_land_crowKind (.int v_land_places) (.int v_land_crows) (.ref o_land_now) (g_land_past) (g_land_pasts) (g_land_notes) (g_land_marks) f_land_placeKind f_land_placeX f_land_placeY f_land_crowKind p1 p2 p3 x20 s13.1 r21 hr22) (z_cwV K 5 tw_3_129 tw_2_167 tw_2_168 tw_1_2 tw_2_169 hd_X0_farAt ⟨by decide, by decide⟩) [3, 4, 5, 6, 7] [0, 1, 2] rfl (wr := [(o_land_now, .inr (1, [g_land_now_at, .ref o_land_now_tired, g_land_now_deedRows, g_land_now_deeds, g_land_now_hour])), (o_land_now_tired, .inl (y 0, 3, .inl f_land_now_tired)), (o, .inr (6, [.ref o_land, g_images, g_kept, g_text, g_textLength, g_above, g_below, .int v_bads, g_nos, g_fulls, g_roads, g_reader, g_traveller, g_questions]))]) rfl rfl rfl (by decide) rfl rfl rfl (As := [.int p1, .int p2, .int p3, .int x20, .int s13.1]) (rest := []) rfl (Nat.le_of_ble_eq_true rfl) ⟨Nat.zero_le _, Nat.zero_le _⟩ dX7_late_84 (ws' := [(o_land_now, .inr (1, [g_land_now_at, .ref o_land_now_tired, g_land_now_deedRows, g_land_now_deeds, g_land_now_hour])), (o_land_now_tired, .inl (y 0, 3, .inl f_land_now_tired)), (o, .inr (6, [.ref o_land, g_images, g_kept, g_text, g_textLength, g_above, g_below, .int v_bads, g_nos, g_fulls, g_roads, g_reader, g_traveller, g_questions])), (o_land, .inr (0, [.ref o_land_placeKind, .ref o_land_placeX, .ref o_land_placeY, .int v_land_places, .ref o_land_crowKind, .int v_land_crows, .ref o_land_now, g_land_past, g_land_pasts, g_land_notes, g_land_marks])), (o_land_placeKind, .inl (y 0, 7, .inl f_land_placeKind)), (o_land_placeX, .inl (y 0, 7, .inl f_land_placeX)), (o_land_placeY, .inl (y 0, 7, .inl f_land_placeY)), (o_land_crowKind, .inl (y 0, 3, .inl f_land_crowKind))]) rfl (fun H locs hH => ?_)
        refine lv_istore (lv' := [(8, .int r21), (0, .ref o), (1, .int p1), (2, .int p2), (3, .int p3), (4, .int p4), (5, .int s13.2.2), (6, .int s13.2.1), (7, .int s13.1)]) K.x K.b dX7_late_87 hl (by decide) rfl (fun ls hl => ?_)
        refine lv_iload K.x K.b dX7_late_89 (lv_at hl 0 rfl) ?_
        refine lv_iload K.x K.b dX7_late_91 (lv_at hl 7 rfl) ?_
        obtain ⟨j23, hj23, h⟩ := z_bd_e h
        have Kj23 : ∀ (H : Heap) (locs : List Loc) (ls : Array Slot), z_H D A s.heap [(o_land_now, .inr (1, [g_land_now_at, .ref o_land_now_tired, g_land_now_deedRows, g_land_now_deeds, g_land_now_hour])), (o_land_now_tired, .inl (y 0, 3, .inl f_land_now_tired)), (o, .inr (6, [.ref o_land, g_images, g_kept, g_text, g_textLength, g_above, g_below, .int v_bads, g_nos, g_fulls, g_roads, g_reader, g_traveller, g_questions])), (o_land, .inr (0, [.ref o_land_placeKind, .ref o_land_placeX, .ref o_land_placeY, .int v_land_places, .ref o_land_crowKind, .int v_land_crows, .ref o_land_now, g_land_past, g_land_pasts, g_land_notes, g_land_marks])), (o_land_placeKind, .inl (y 0, 7, .inl f_land_placeKind)), (o_land_placeX, .inl (y 0, 7, .inl f_land_placeX)), (o_land_placeY, .inl (y 0, 7, .inl f_land_placeY)), (o_land_crowKind, .inl (y 0, 3, .inl f_land_crowKind))] H locs → lv_has ls 9 [(0, .ref o), (1, .int p1), (2, .int p2), (3, .int p3), (4, .int p4), (5, .int j23.1), (6, .int j23.2), (7, .int s13.1)] → W p l e (zR 3 88) s m args below meth c H locs 0 0 Q (F0 m 104 ls []) := by
          intro H locs ls hH hl
          obtain ⟨x24, ex24, h⟩ := z_lt_e h
          refine lv_iinc (v := x24) (lv' := [(7, .int x24), (0, .ref o), (1, .int p1), (2, .int p2), (3, .int p3), (4, .int p4), (5, .int j23.1), (6, .int j23.2)]) K.x K.b dX7_late_104 hl (k := 7) rfl (by rw [ex24]; rfl) (by decide) rfl (fun ls hl => ?_)
          refine lv_goto (tgt := 56) K.x K.b dX7_late_107 (by decide) ?_
          exact ihe14 _ (Option.some.inj h).symm _ _ _ hH (lv_sub hl [1, 2, 3, 4, 5, 6, 7, 0] rfl)
        replace h := hj23
        refine lv_icmp_le (tgt := 104) K.x K.b dX7_late_93 (by decide) (fun c25 => ?_) (fun c25 => ?_)
        · replace h := z_t c25 h
          obtain rfl := Option.some.inj h
          exact Kj23 _ _ _ hH (lv_sub hl [1, 2, 3, 4, 5, 6, 7, 8] rfl)
        · replace h := z_f c25 h
          refine lv_iload K.x K.b dX7_late_96 (lv_at hl 8 rfl) ?_
          refine lv_istore (lv' := [(5, .int s13.1), (8, .int r21), (0, .ref o), (1, .int p1), (2, .int p2), (3, .int p3), (4, .int p4), (6, .int s13.2.1), (7, .int s13.1)]) K.x K.b dX7_late_98 hl (by decide) rfl (fun ls hl => ?_)
          refine lv_iload K.x K.b dX7_late_100 (lv_at hl 1 rfl) ?_
          refine lv_istore (lv' := [(6, .int r21), (5, .int s13.1), (8, .int r21), (0, .ref o), (1, .int p1), (2, .int p2), (3, .int p3), (4, .int p4), (7, .int s13.1)]) K.x K.b dX7_late_102 hl (by decide) rfl (fun ls hl => ?_)
          obtain rfl := Option.some.inj h
          exact Kj23 _ _ _ hH (lv_sub hl [3, 4, 5, 6, 7, 1, 0, 8] rfl)
    · replace h := z_t c8 h
      refine lv_aload_n K.x K.b dX7_late_20 rfl (lv_at hl 0 rfl) ?_
      obtain ⟨r26, hr27, h⟩ := z_bd_e h
      refine z_Vi K hH hl.1 (c_X7_refuseBad l D y o (.ref o_land) (g_images) (g_kept) (g_text) (g_textLength) (g_above) (g_below) (g_nos) (g_fulls) (g_roads) (g_reader) (g_traveller) (g_questions) v_bads r26 hr27) (z_cwV K 0 tw_2_18 tw_2_20 tw_0_0 tw_1_1 tw_2_21 hd_X7_refuseBad ⟨by decide, by decide⟩) [6] [0, 1, 2, 3, 4, 5, 7] rfl (wr := [(o_land_placeKind, .inl (y 0, 7, .inl f_land_placeKind)), (o_land_placeX, .inl (y 0, 7, .inl f_land_placeX)), (o_land_placeY, .inl (y 0, 7, .inl f_land_placeY)), (o_land_crowKind, .inl (y 0, 3, .inl f_land_crowKind)), (o_land_now, .inr (1, [g_land_now_at, .ref o_land_now_tired, g_land_now_deedRows, g_land_now_deeds, g_land_now_hour])), (o_land_now_tired, .inl (y 0, 3, .inl f_land_now_tired)), (o_land, .inr (0, [.ref o_land_placeKind, .ref o_land_placeX, .ref o_land_placeY, .int v_land_places, .ref o_land_crowKind, .int v_land_crows, .ref o_land_now, g_land_past, g_land_pasts, g_land_notes, g_land_marks]))]) rfl rfl rfl (by decide) rfl rfl rfl (As := []) (rest := []) rfl (Nat.le_of_ble_eq_true rfl) ⟨Nat.zero_le _, Nat.zero_le _⟩ dX7_late_21 (ws' := [(o_land_placeKind, .inl (y 0, 7, .inl f_land_placeKind)), (o_land_placeX, .inl (y 0, 7, .inl f_land_placeX)), (o_land_placeY, .inl (y 0, 7, .inl f_land_placeY)), (o_land_crowKind, .inl (y 0, 3, .inl f_land_crowKind)), (o_land_now, .inr (1, [g_land_now_at, .ref o_land_now_tired, g_land_now_deedRows, g_land_now_deeds, g_land_now_hour])), (o_land_now_tired, .inl (y 0, 3, .inl f_land_now_tired)), (o_land, .inr (0, [.ref o_land_placeKind, .ref o_land_placeX, .ref o_land_placeY, .int v_land_places, .ref o_land_crowKind, .int v_land_crows, .ref o_land_now, g_land_past, g_land_pasts, g_land_notes, g_land_marks])), (o, .inr (6, [.ref o_land, g_images, g_kept, g_text, g_textLength, g_above, g_below, .int r26.2, g_nos, g_fulls, g_roads, g_reader, g_traveller, g_questions]))]) rfl (fun H locs hH => ?_)
      have hr9 := Option.some.inj h
      obtain rfl := hr9
      rw [hQ]
      exact z_reti K hr hH [7, 6, 0, 1, 2, 3, 4, 5] (by decide) rfl rfl rfl dX7_late_24
noncomputable def p_X7_standard (v_bads : Int32) (v_land_places : Int32) (v_land_now_deeds : Int32) (f_land_now_deedRows : (Nat → Int32)) (p1 : Int32) (p2 : Int32) : Option (Int32 × Int32) :=
  z_bd (p_X0_hasPlace v_land_places p1) fun r1 =>
  if (r1 = 0) then
  (z_bd (p_X7_refuseBad v_bads) fun r4 =>
  some (r4.1, r4.2)) else
  (z_bd (p_X0_hasPlace v_land_places p2) fun r6 =>
  if (r6 = 0) then
  (z_bd (p_X7_refuseBad v_bads) fun r11 =>
  some (r11.1, r11.2)) else
  (z_bd (p_X1_middleLength v_land_now_deeds f_land_now_deedRows p1 p2) fun r9 =>
  some (r9, v_bads)))
theorem hd_X7_standard : yX7_standard.cls = RX7 ∧ yX7_standard.cls ≠ "java/lang/invoke/MethodHandle" ∧ yX7_standard.cls ≠ "java/lang/invoke/VarHandle" ∧ (parseMethodDescriptor yX7_standard.desc).map (fun d => d.parameters.length) = some 2 := by decide +kernel
set_option maxHeartbeats 4000000 in
set_option maxRecDepth 100000 in
theorem c_X7_standard (l : Launch) (D : va_G) (y : Nat → ClassId) (o o_land o_land_now o_land_now_deedRows : Nat) (g_images g_kept g_text g_textLength g_above g_below g_nos g_fulls g_roads g_reader g_traveller g_questions g_land_placeKind g_land_placeX g_land_placeY g_land_crowKind g_land_crows g_land_past g_land_pasts g_land_notes g_land_marks g_land_now_at g_land_now_tired g_land_now_hour : Value) (v_bads : Int32) (v_land_places : Int32) (v_land_now_deeds : Int32) (f_land_now_deedRows : (Nat → Int32)) (p1 : Int32) (p2 : Int32) (r : Int32 × Int32) (h : p_X7_standard v_bads v_land_places v_land_now_deeds f_land_now_deedRows p1 p2 = some r) : z_MI l yX7_standard cX7_standard 3 (some .int) 3 92 D y [.ref o, .int p1, .int p2] [(o, .inr (6, [.ref o_land, g_images, g_kept, g_text, g_textLength, g_above, g_below, .int v_bads, g_nos, g_fulls, g_roads, g_reader, g_traveller, g_questions])), (o_land, .inr (0, [g_land_placeKind, g_land_placeX, g_land_placeY, .int v_land_places, g_land_crowKind, g_land_crows, .ref o_land_now, g_land_past, g_land_pasts, g_land_notes, g_land_marks])), (o_land_now, .inr (1, [g_land_now_at, g_land_now_tired, .ref o_land_now_deedRows, .int v_land_now_deeds, g_land_now_hour])), (o_land_now_deedRows, .inl (y 0, 36, .inl f_land_now_deedRows))] r.1 [(o, .inr (6, [.ref o_land, g_images, g_kept, g_text, g_textLength, g_above, g_below, .int r.2, g_nos, g_fulls, g_roads, g_reader, g_traveller, g_questions])), (o_land, .inr (0, [g_land_placeKind, g_land_placeX, g_land_placeY, .int v_land_places, g_land_crowKind, g_land_crows, .ref o_land_now, g_land_past, g_land_pasts, g_land_notes, g_land_marks])), (o_land_now, .inr (1, [g_land_now_at, g_land_now_tired, .ref o_land_now_deedRows, .int v_land_now_deeds, g_land_now_hour])), (o_land_now_deedRows, .inl (y 0, 36, .inl f_land_now_deedRows))] := by
  unfold p_X7_standard at h
  refine z_enI (by decide) (Nat.le_of_ble_eq_true rfl) ?_
  intro p e s m args below meth c A ls hr K hH hl
  obtain ⟨Q, hQ⟩ : ∃ Q, Q = MQ below (z_Qi D y A r.1 [(o, .inr (6, [.ref o_land, g_images, g_kept, g_text, g_textLength, g_above, g_below, .int r.2, g_nos, g_fulls, g_roads, g_reader, g_traveller, g_questions])), (o_land, .inr (0, [g_land_placeKind, g_land_placeX, g_land_placeY, .int v_land_places, g_land_crowKind, g_land_crows, .ref o_land_now, g_land_past, g_land_pasts, g_land_notes, g_land_marks])), (o_land_now, .inr (1, [g_land_now_at, g_land_now_tired, .ref o_land_now_deedRows, .int v_land_now_deeds, g_land_now_hour])), (o_land_now_deedRows, .inl (y 0, 36, .inl f_land_now_deedRows))]) args s 0 0 A := ⟨_, rfl⟩
  rw [← hQ]
  have hl : lv_has ls 3 [(0, .ref o), (1, .int p1), (2, .int p2)] := hl
  refine lv_aload_n K.x K.b dX7_standard_0 rfl (lv_at hl 0 rfl) ?_
  refine z_get K hH 0 rfl zin_7 rfl 0 (by decide) tw_1_197 (v := .ref o_land) rfl dX7_standard_1 ?_
  refine lv_iload_n K.x K.b dX7_standard_4 rfl (lv_at hl 1 rfl) ?_
  obtain ⟨r1, hr2, h⟩ := z_bd_e h
  refine z_Vi K hH hl.1 (c_X0_hasPlace l D y o_land (g_land_placeKind) (g_land_placeX) (g_land_placeY) (g_land_crowKind) (g_land_crows) (.ref o_land_now) (g_land_past) (g_land_pasts) (g_land_notes) (g_land_marks) v_land_places p1 r1 hr2) (z_cwV K 1 tw_2_34 tw_2_35 tw_2_36 tw_1_2 tw_2_37 hd_X0_hasPlace ⟨by decide, by decide⟩) [1] [0, 2, 3] rfl (wr := [(o, .inr (6, [.ref o_land, g_images, g_kept, g_text, g_textLength, g_above, g_below, .int v_bads, g_nos, g_fulls, g_roads, g_reader, g_traveller, g_questions])), (o_land_now, .inr (1, [g_land_now_at, g_land_now_tired, .ref o_land_now_deedRows, .int v_land_now_deeds, g_land_now_hour])), (o_land_now_deedRows, .inl (y 0, 36, .inl f_land_now_deedRows))]) rfl rfl rfl (by decide) rfl rfl rfl (As := [.int p1]) (rest := []) rfl (Nat.le_of_ble_eq_true rfl) ⟨Nat.zero_le _, Nat.zero_le _⟩ dX7_standard_5 (ws' := [(o, .inr (6, [.ref o_land, g_images, g_kept, g_text, g_textLength, g_above, g_below, .int v_bads, g_nos, g_fulls, g_roads, g_reader, g_traveller, g_questions])), (o_land_now, .inr (1, [g_land_now_at, g_land_now_tired, .ref o_land_now_deedRows, .int v_land_now_deeds, g_land_now_hour])), (o_land_now_deedRows, .inl (y 0, 36, .inl f_land_now_deedRows)), (o_land, .inr (0, [g_land_placeKind, g_land_placeX, g_land_placeY, .int v_land_places, g_land_crowKind, g_land_crows, .ref o_land_now, g_land_past, g_land_pasts, g_land_notes, g_land_marks]))]) rfl (fun H locs hH => ?_)
  refine lv_if_eq (tgt := 22) K.x K.b dX7_standard_8 (by decide) (fun c3 => ?_) (fun c3 => ?_)
  · replace h := z_t c3 h
    refine lv_aload_n K.x K.b dX7_standard_22 rfl (lv_at hl 0 rfl) ?_
    obtain ⟨r4, hr5, h⟩ := z_bd_e h
    refine z_Vi K hH hl.1 (c_X7_refuseBad l D y o (.ref o_land) (g_images) (g_kept) (g_text) (g_textLength) (g_above) (g_below) (g_nos) (g_fulls) (g_roads) (g_reader) (g_traveller) (g_questions) v_bads r4 hr5) (z_cwV K 0 tw_2_18 tw_2_20 tw_0_0 tw_1_1 tw_2_21 hd_X7_refuseBad ⟨by decide, by decide⟩) [0] [1, 2, 3] rfl (wr := [(o_land_now, .inr (1, [g_land_now_at, g_land_now_tired, .ref o_land_now_deedRows, .int v_land_now_deeds, g_land_now_hour])), (o_land_now_deedRows, .inl (y 0, 36, .inl f_land_now_deedRows)), (o_land, .inr (0, [g_land_placeKind, g_land_placeX, g_land_placeY, .int v_land_places, g_land_crowKind, g_land_crows, .ref o_land_now, g_land_past, g_land_pasts, g_land_notes, g_land_marks]))]) rfl rfl rfl (by decide) rfl rfl rfl (As := []) (rest := []) rfl (Nat.le_of_ble_eq_true rfl) ⟨Nat.zero_le _, Nat.zero_le _⟩ dX7_standard_23 (ws' := [(o_land_now, .inr (1, [g_land_now_at, g_land_now_tired, .ref o_land_now_deedRows, .int v_land_now_deeds, g_land_now_hour])), (o_land_now_deedRows, .inl (y 0, 36, .inl f_land_now_deedRows)), (o_land, .inr (0, [g_land_placeKind, g_land_placeX, g_land_placeY, .int v_land_places, g_land_crowKind, g_land_crows, .ref o_land_now, g_land_past, g_land_pasts, g_land_notes, g_land_marks])), (o, .inr (6, [.ref o_land, g_images, g_kept, g_text, g_textLength, g_above, g_below, .int r4.2, g_nos, g_fulls, g_roads, g_reader, g_traveller, g_questions]))]) rfl (fun H locs hH => ?_)
    have hr9 := Option.some.inj h
    obtain rfl := hr9
    rw [hQ]
    exact z_reti K hr hH [3, 2, 0, 1] (by decide) rfl rfl rfl dX7_standard_26
  · replace h := z_f c3 h
    refine lv_aload_n K.x K.b dX7_standard_11 rfl (lv_at hl 0 rfl) ?_
    refine z_get K hH 0 rfl zin_7 rfl 0 (by decide) tw_1_197 (v := .ref o_land) rfl dX7_standard_12 ?_
    refine lv_iload_n K.x K.b dX7_standard_15 rfl (lv_at hl 2 rfl) ?_
    obtain ⟨r6, hr7, h⟩ := z_bd_e h
    refine z_Vi K hH hl.1 (c_X0_hasPlace l D y o_land (g_land_placeKind) (g_land_placeX) (g_land_placeY) (g_land_crowKind) (g_land_crows) (.ref o_land_now) (g_land_past) (g_land_pasts) (g_land_notes) (g_land_marks) v_land_places p2 r6 hr7) (z_cwV K 1 tw_2_34 tw_2_35 tw_2_36 tw_1_2 tw_2_37 hd_X0_hasPlace ⟨by decide, by decide⟩) [3] [0, 1, 2] rfl (wr := [(o, .inr (6, [.ref o_land, g_images, g_kept, g_text, g_textLength, g_above, g_below, .int v_bads, g_nos, g_fulls, g_roads, g_reader, g_traveller, g_questions])), (o_land_now, .inr (1, [g_land_now_at, g_land_now_tired, .ref o_land_now_deedRows, .int v_land_now_deeds, g_land_now_hour])), (o_land_now_deedRows, .inl (y 0, 36, .inl f_land_now_deedRows))]) rfl rfl rfl (by decide) rfl rfl rfl (As := [.int p2]) (rest := []) rfl (Nat.le_of_ble_eq_true rfl) ⟨Nat.zero_le _, Nat.zero_le _⟩ dX7_standard_16 (ws' := [(o, .inr (6, [.ref o_land, g_images, g_kept, g_text, g_textLength, g_above, g_below, .int v_bads, g_nos, g_fulls, g_roads, g_reader, g_traveller, g_questions])), (o_land_now, .inr (1, [g_land_now_at, g_land_now_tired, .ref o_land_now_deedRows, .int v_land_now_deeds, g_land_now_hour])), (o_land_now_deedRows, .inl (y 0, 36, .inl f_land_now_deedRows)), (o_land, .inr (0, [g_land_placeKind, g_land_placeX, g_land_placeY, .int v_land_places, g_land_crowKind, g_land_crows, .ref o_land_now, g_land_past, g_land_pasts, g_land_notes, g_land_marks]))]) rfl (fun H locs hH => ?_)
    refine lv_if_ne (tgt := 27) K.x K.b dX7_standard_19 (by decide) (fun c8 => ?_) (fun c8 => ?_)
    · replace h := z_f c8 h
      refine lv_aload_n K.x K.b dX7_standard_27 rfl (lv_at hl 0 rfl) ?_
      refine z_get K hH 0 rfl zin_7 rfl 0 (by decide) tw_1_197 (v := .ref o_land) rfl dX7_standard_28 ?_
      refine z_get K hH 3 rfl zin_0 rfl 6 (by decide) tw_1_95 (v := .ref o_land_now) rfl dX7_standard_31 ?_
      refine lv_iload_n K.x K.b dX7_standard_34 rfl (lv_at hl 1 rfl) ?_
      refine lv_iload_n K.x K.b dX7_standard_35 rfl (lv_at hl 2 rfl) ?_
      obtain ⟨r9, hr10, h⟩ := z_bd_e h
      refine z_Vi K hH hl.1 (c_X1_middleLength l D y o_land_now o_land_now_deedRows (g_land_now_at) (g_land_now_tired) (g_land_now_hour) v_land_now_deeds f_land_now_deedRows p1 p2 r9 hr10) (z_cwV K 2 tw_3_134 tw_3_135 tw_3_136 tw_1_3 tw_3_137 hd_X1_middleLength ⟨by decide, by decide⟩) [1, 2] [0, 3] rfl (wr := [(o, .inr (6, [.ref o_land, g_images, g_kept, g_text, g_textLength, g_above, g_below, .int v_bads, g_nos, g_fulls, g_roads, g_reader, g_traveller, g_questions])), (o_land, .inr (0, [g_land_placeKind, g_land_placeX, g_land_placeY, .int v_land_places, g_land_crowKind, g_land_crows, .ref o_land_now, g_land_past, g_land_pasts, g_land_notes, g_land_marks]))]) rfl rfl rfl (by decide) rfl rfl rfl (As := [.int p1, .int p2]) (rest := []) rfl (Nat.le_of_ble_eq_true rfl) ⟨Nat.zero_le _, Nat.zero_le _⟩ dX7_standard_36 (ws' := [(o, .inr (6, [.ref o_land, g_images, g_kept, g_text, g_textLength, g_above, g_below, .int v_bads, g_nos, g_fulls, g_roads, g_reader, g_traveller, g_questions])), (o_land, .inr (0, [g_land_placeKind, g_land_placeX, g_land_placeY, .int v_land_places, g_land_crowKind, g_land_crows, .ref o_land_now, g_land_past, g_land_pasts, g_land_notes, g_land_marks])), (o_land_now, .inr (1, [g_land_now_at, g_land_now_tired, .ref o_land_now_deedRows, .int v_land_now_deeds, g_land_now_hour])), (o_land_now_deedRows, .inl (y 0, 36, .inl f_land_now_deedRows))]) rfl (fun H locs hH => ?_)
      have hr9 := Option.some.inj h
      obtain rfl := hr9
      rw [hQ]
      exact z_reti K hr hH [0, 1, 2, 3] (by decide) rfl rfl rfl dX7_standard_39
    · replace h := z_t c8 h
      refine lv_aload_n K.x K.b dX7_standard_22 rfl (lv_at hl 0 rfl) ?_
      obtain ⟨r11, hr12, h⟩ := z_bd_e h
      refine z_Vi K hH hl.1 (c_X7_refuseBad l D y o (.ref o_land) (g_images) (g_kept) (g_text) (g_textLength) (g_above) (g_below) (g_nos) (g_fulls) (g_roads) (g_reader) (g_traveller) (g_questions) v_bads r11 hr12) (z_cwV K 0 tw_2_18 tw_2_20 tw_0_0 tw_1_1 tw_2_21 hd_X7_refuseBad ⟨by decide, by decide⟩) [0] [1, 2, 3] rfl (wr := [(o_land_now, .inr (1, [g_land_now_at, g_land_now_tired, .ref o_land_now_deedRows, .int v_land_now_deeds, g_land_now_hour])), (o_land_now_deedRows, .inl (y 0, 36, .inl f_land_now_deedRows)), (o_land, .inr (0, [g_land_placeKind, g_land_placeX, g_land_placeY, .int v_land_places, g_land_crowKind, g_land_crows, .ref o_land_now, g_land_past, g_land_pasts, g_land_notes, g_land_marks]))]) rfl rfl rfl (by decide) rfl rfl rfl (As := []) (rest := []) rfl (Nat.le_of_ble_eq_true rfl) ⟨Nat.zero_le _, Nat.zero_le _⟩ dX7_standard_23 (ws' := [(o_land_now, .inr (1, [g_land_now_at, g_land_now_tired, .ref o_land_now_deedRows, .int v_land_now_deeds, g_land_now_hour])), (o_land_now_deedRows, .inl (y 0, 36, .inl f_land_now_deedRows)), (o_land, .inr (0, [g_land_placeKind, g_land_placeX, g_land_placeY, .int v_land_places, g_land_crowKind, g_land_crows, .ref o_land_now, g_land_past, g_land_pasts, g_land_notes, g_land_marks])), (o, .inr (6, [.ref o_land, g_images, g_kept, g_text, g_textLength, g_above, g_below, .int r11.2, g_nos, g_fulls, g_roads, g_reader, g_traveller, g_questions]))]) rfl (fun H locs hH => ?_)
      have hr9 := Option.some.inj h
      obtain rfl := hr9
      rw [hQ]
      exact z_reti K hr hH [3, 2, 0, 1] (by decide) rfl rfl rfl dX7_standard_26
def p_X7_book (v_bads : Int32) (v_nos : Int32) (v_land_now_deeds : Int32) (f_land_now_deedRows : (Nat → Int32)) (p1 : Int32) (p2 : Int32) : Option (Int32 × Int32 × Int32) :=
  if (p1 < 0) then
  (z_bd (p_X7_refuseBad v_bads) fun r2 =>
  some (r2.1, r2.2, v_nos)) else
  (z_bd (p_X7_within p2 (0 : Int32) (1 : Int32)) fun r4 =>
  if (r4 = 0) then
  (z_bd (p_X7_refuseBad v_bads) fun r16 =>
  some (r16.1, r16.2, v_nos)) else
  (if (p1 < v_land_now_deeds) then
  (z_bd (α := Int32) (if (p2 = 0) then
  (z_bd (p_X1_deedEnds f_land_now_deedRows p1) fun r12 =>
  some r12) else
  (z_bd (p_X1_deedLength f_land_now_deedRows p1) fun r10 =>
  some r10)) fun j8 =>
  some (j8, v_bads, v_nos)) else
  (z_bd (p_X7_refuseNo v_nos) fun r14 =>
  some (r14.1, v_bads, r14.2))))
theorem hd_X7_book : yX7_book.cls = RX7 ∧ yX7_book.cls ≠ "java/lang/invoke/MethodHandle" ∧ yX7_book.cls ≠ "java/lang/invoke/VarHandle" ∧ (parseMethodDescriptor yX7_book.desc).map (fun d => d.parameters.length) = some 2 := by decide +kernel
set_option maxHeartbeats 4000000 in
set_option maxRecDepth 100000 in
theorem c_X7_book (l : Launch) (D : va_G) (y : Nat → ClassId) (o o_land o_land_now o_land_now_deedRows : Nat) (g_images g_kept g_text g_textLength g_above g_below g_fulls g_roads g_reader g_traveller g_questions g_land_placeKind g_land_placeX g_land_placeY g_land_places g_land_crowKind g_land_crows g_land_past g_land_pasts g_land_notes g_land_marks g_land_now_at g_land_now_tired g_land_now_hour : Value) (v_bads : Int32) (v_nos : Int32) (v_land_now_deeds : Int32) (f_land_now_deedRows : (Nat → Int32)) (p1 : Int32) (p2 : Int32) (r : Int32 × Int32 × Int32) (h : p_X7_book v_bads v_nos v_land_now_deeds f_land_now_deedRows p1 p2 = some r) : z_MI l yX7_book cX7_book 3 (some .int) 1 22 D y [.ref o, .int p1, .int p2] [(o, .inr (6, [.ref o_land, g_images, g_kept, g_text, g_textLength, g_above, g_below, .int v_bads, .int v_nos, g_fulls, g_roads, g_reader, g_traveller, g_questions])), (o_land, .inr (0, [g_land_placeKind, g_land_placeX, g_land_placeY, g_land_places, g_land_crowKind, g_land_crows, .ref o_land_now, g_land_past, g_land_pasts, g_land_notes, g_land_marks])), (o_land_now, .inr (1, [g_land_now_at, g_land_now_tired, .ref o_land_now_deedRows, .int v_land_now_deeds, g_land_now_hour])), (o_land_now_deedRows, .inl (y 0, 36, .inl f_land_now_deedRows))] r.1 [(o, .inr (6, [.ref o_land, g_images, g_kept, g_text, g_textLength, g_above, g_below, .int r.2.1, .int r.2.2, g_fulls, g_roads, g_reader, g_traveller, g_questions])), (o_land, .inr (0, [g_land_placeKind, g_land_placeX, g_land_placeY, g_land_places, g_land_crowKind, g_land_crows, .ref o_land_now, g_land_past, g_land_pasts, g_land_notes, g_land_marks])), (o_land_now, .inr (1, [g_land_now_at, g_land_now_tired, .ref o_land_now_deedRows, .int v_land_now_deeds, g_land_now_hour])), (o_land_now_deedRows, .inl (y 0, 36, .inl f_land_now_deedRows))] := by
  unfold p_X7_book at h
  refine z_enI (by decide) (Nat.le_of_ble_eq_true rfl) ?_
  intro p e s m args below meth c A ls hr K hH hl
  obtain ⟨Q, hQ⟩ : ∃ Q, Q = MQ below (z_Qi D y A r.1 [(o, .inr (6, [.ref o_land, g_images, g_kept, g_text, g_textLength, g_above, g_below, .int r.2.1, .int r.2.2, g_fulls, g_roads, g_reader, g_traveller, g_questions])), (o_land, .inr (0, [g_land_placeKind, g_land_placeX, g_land_placeY, g_land_places, g_land_crowKind, g_land_crows, .ref o_land_now, g_land_past, g_land_pasts, g_land_notes, g_land_marks])), (o_land_now, .inr (1, [g_land_now_at, g_land_now_tired, .ref o_land_now_deedRows, .int v_land_now_deeds, g_land_now_hour])), (o_land_now_deedRows, .inl (y 0, 36, .inl f_land_now_deedRows))]) args s 0 0 A := ⟨_, rfl⟩
  rw [← hQ]
  have hl : lv_has ls 3 [(0, .ref o), (1, .int p1), (2, .int p2)] := hl
  refine lv_iload_n K.x K.b dX7_book_0 rfl (lv_at hl 1 rfl) ?_
  refine lv_if_lt (tgt := 13) K.x K.b dX7_book_1 (by decide) (fun c1 => ?_) (fun c1 => ?_)
  · replace h := z_t c1 h
    refine lv_aload_n K.x K.b dX7_book_13 rfl (lv_at hl 0 rfl) ?_
    obtain ⟨r2, hr3, h⟩ := z_bd_e h
    refine z_Vi K hH hl.1 (c_X7_refuseBad l D y o (.ref o_land) (g_images) (g_kept) (g_text) (g_textLength) (g_above) (g_below) (.int v_nos) (g_fulls) (g_roads) (g_reader) (g_traveller) (g_questions) v_bads r2 hr3) (z_cwV K 0 tw_2_18 tw_2_20 tw_0_0 tw_1_1 tw_2_21 hd_X7_refuseBad ⟨by decide, by decide⟩) [0] [1, 2, 3] rfl (wr := [(o_land, .inr (0, [g_land_placeKind, g_land_placeX, g_land_placeY, g_land_places, g_land_crowKind, g_land_crows, .ref o_land_now, g_land_past, g_land_pasts, g_land_notes, g_land_marks])), (o_land_now, .inr (1, [g_land_now_at, g_land_now_tired, .ref o_land_now_deedRows, .int v_land_now_deeds, g_land_now_hour])), (o_land_now_deedRows, .inl (y 0, 36, .inl f_land_now_deedRows))]) rfl rfl rfl (by decide) rfl rfl rfl (As := []) (rest := []) rfl (Nat.le_of_ble_eq_true rfl) ⟨Nat.zero_le _, Nat.zero_le _⟩ dX7_book_14 (ws' := [(o_land, .inr (0, [g_land_placeKind, g_land_placeX, g_land_placeY, g_land_places, g_land_crowKind, g_land_crows, .ref o_land_now, g_land_past, g_land_pasts, g_land_notes, g_land_marks])), (o_land_now, .inr (1, [g_land_now_at, g_land_now_tired, .ref o_land_now_deedRows, .int v_land_now_deeds, g_land_now_hour])), (o_land_now_deedRows, .inl (y 0, 36, .inl f_land_now_deedRows)), (o, .inr (6, [.ref o_land, g_images, g_kept, g_text, g_textLength, g_above, g_below, .int r2.2, .int v_nos, g_fulls, g_roads, g_reader, g_traveller, g_questions]))]) rfl (fun H locs hH => ?_)
    have hr9 := Option.some.inj h
    obtain rfl := hr9
    rw [hQ]
    exact z_reti K hr hH [3, 0, 1, 2] (by decide) rfl rfl rfl dX7_book_17
  · replace h := z_f c1 h
    refine lv_iload_n K.x K.b dX7_book_4 rfl (lv_at hl 2 rfl) ?_
    refine lv_iconst (v := (0)) K.x K.b dX7_book_5 (by decide) ?_
    refine lv_iconst (v := (1)) K.x K.b dX7_book_6 (by decide) ?_
    obtain ⟨r4, hr5, h⟩ := z_bd_e h
    refine z_Si K hH hl.1 (c_X7_within l D y p2 (0 : Int32) (1 : Int32) r4 hr5) (z_cwS K 3 tw_2_15 tw_2_16 tw_1_1 tw_2_17 hd_X7_within ⟨by decide, by decide⟩) rfl (As := [.int p2, .int (0 : Int32), .int (1 : Int32)]) (rest := []) rfl (Nat.le_of_ble_eq_true rfl) ⟨Nat.zero_le _, Nat.zero_le _⟩ dX7_book_7 (fun H locs hH => ?_)
    refine lv_if_ne (tgt := 18) K.x K.b dX7_book_10 (by decide) (fun c6 => ?_) (fun c6 => ?_)
    · replace h := z_f c6 h
      refine lv_iload_n K.x K.b dX7_book_18 rfl (lv_at hl 1 rfl) ?_
      refine lv_aload_n K.x K.b dX7_book_19 rfl (lv_at hl 0 rfl) ?_
      refine z_get K hH 0 rfl zin_7 rfl 0 (by decide) tw_1_197 (v := .ref o_land) rfl dX7_book_20 ?_
      refine z_get K hH 1 rfl zin_0 rfl 6 (by decide) tw_1_95 (v := .ref o_land_now) rfl dX7_book_23 ?_
      refine z_get K hH 2 rfl zin_1 rfl 3 (by decide) tw_1_46 (v := .int v_land_now_deeds) rfl dX7_book_26 ?_
      refine lv_icmp_lt (tgt := 37) K.x K.b dX7_book_29 (by decide) (fun c7 => ?_) (fun c7 => ?_)
      · replace h := z_t c7 h
        refine lv_iload_n K.x K.b dX7_book_37 rfl (lv_at hl 2 rfl) ?_
        obtain ⟨j8, hj8, h⟩ := z_bd_e h
        have Kj8 : ∀ (H : Heap) (locs : List Loc) (ls : Array Slot), z_H D A s.heap [(o, .inr (6, [.ref o_land, g_images, g_kept, g_text, g_textLength, g_above, g_below, .int v_bads, .int v_nos, g_fulls, g_roads, g_reader, g_traveller, g_questions])), (o_land, .inr (0, [g_land_placeKind, g_land_placeX, g_land_placeY, g_land_places, g_land_crowKind, g_land_crows, .ref o_land_now, g_land_past, g_land_pasts, g_land_notes, g_land_marks])), (o_land_now, .inr (1, [g_land_now_at, g_land_now_tired, .ref o_land_now_deedRows, .int v_land_now_deeds, g_land_now_hour])), (o_land_now_deedRows, .inl (y 0, 36, .inl f_land_now_deedRows))] H locs → lv_has ls 3 [] → W p l e (zR 1 22) s m args below meth c H locs 0 0 Q (F0 m 66 ls [.int j8]) := by
          intro H locs ls hH hl
          have hr9 := Option.some.inj h
          obtain rfl := hr9
          rw [hQ]
          exact z_reti K hr hH [0, 1, 2, 3] (by decide) rfl rfl rfl dX7_book_66
        replace h := hj8
        refine lv_if_ne (tgt := 55) K.x K.b dX7_book_38 (by decide) (fun c9 => ?_) (fun c9 => ?_)
        · replace h := z_f c9 h
          refine lv_aload_n K.x K.b dX7_book_55 rfl (lv_at hl 0 rfl) ?_
          refine z_get K hH 0 rfl zin_7 rfl 0 (by decide) tw_1_197 (v := .ref o_land) rfl dX7_book_56 ?_
          refine z_get K hH 1 rfl zin_0 rfl 6 (by decide) tw_1_95 (v := .ref o_land_now) rfl dX7_book_59 ?_
          refine lv_iload_n K.x K.b dX7_book_62 rfl (lv_at hl 1 rfl) ?_
          obtain ⟨r10, hr11, h⟩ := z_bd_e h
          refine z_Vi K hH hl.1 (c_X1_deedLength l D y o_land_now o_land_now_deedRows (g_land_now_at) (g_land_now_tired) (.int v_land_now_deeds) (g_land_now_hour) f_land_now_deedRows p1 r10 hr11) (z_cwV K 1 tw_3_159 tw_3_143 tw_3_144 tw_1_3 tw_3_145 hd_X1_deedLength ⟨by decide, by decide⟩) [2, 3] [0, 1] rfl (wr := [(o, .inr (6, [.ref o_land, g_images, g_kept, g_text, g_textLength, g_above, g_below, .int v_bads, .int v_nos, g_fulls, g_roads, g_reader, g_traveller, g_questions])), (o_land, .inr (0, [g_land_placeKind, g_land_placeX, g_land_placeY, g_land_places, g_land_crowKind, g_land_crows, .ref o_land_now, g_land_past, g_land_pasts, g_land_notes, g_land_marks]))]) rfl rfl rfl (by decide) rfl rfl rfl (As := [.int p1]) (rest := []) rfl (Nat.le_of_ble_eq_true rfl) ⟨Nat.zero_le _, Nat.zero_le _⟩ dX7_book_63 (ws' := [(o, .inr (6, [.ref o_land, g_images, g_kept, g_text, g_textLength, g_above, g_below, .int v_bads, .int v_nos, g_fulls, g_roads, g_reader, g_traveller, g_questions])), (o_land, .inr (0, [g_land_placeKind, g_land_placeX, g_land_placeY, g_land_places, g_land_crowKind, g_land_crows, .ref o_land_now, g_land_past, g_land_pasts, g_land_notes, g_land_marks])), (o_land_now, .inr (1, [g_land_now_at, g_land_now_tired, .ref o_land_now_deedRows, .int v_land_now_deeds, g_land_now_hour])), (o_land_now_deedRows, .inl (y 0, 36, .inl f_land_now_deedRows))]) rfl (fun H locs hH => ?_)
          obtain rfl := Option.some.inj h
          exact Kj8 _ _ _ hH (lv_sub hl [] rfl)
        · replace h := z_t c9 h
          refine lv_aload_n K.x K.b dX7_book_41 rfl (lv_at hl 0 rfl) ?_
          refine z_get K hH 0 rfl zin_7 rfl 0 (by decide) tw_1_197 (v := .ref o_land) rfl dX7_book_42 ?_
          refine z_get K hH 1 rfl zin_0 rfl 6 (by decide) tw_1_95 (v := .ref o_land_now) rfl dX7_book_45 ?_
          refine lv_iload_n K.x K.b dX7_book_48 rfl (lv_at hl 1 rfl) ?_
          obtain ⟨r12, hr13, h⟩ := z_bd_e h
          refine z_Vi K hH hl.1 (c_X1_deedEnds l D y o_land_now o_land_now_deedRows (g_land_now_at) (g_land_now_tired) (.int v_land_now_deeds) (g_land_now_hour) f_land_now_deedRows p1 r12 hr13) (z_cwV K 1 tw_3_155 tw_3_156 tw_3_157 tw_1_3 tw_3_158 hd_X1_deedEnds ⟨by decide, by decide⟩) [2, 3] [0, 1] rfl (wr := [(o, .inr (6, [.ref o_land, g_images, g_kept, g_text, g_textLength, g_above, g_below, .int v_bads, .int v_nos, g_fulls, g_roads, g_reader, g_traveller, g_questions])), (o_land, .inr (0, [g_land_placeKind, g_land_placeX, g_land_placeY, g_land_places, g_land_crowKind, g_land_crows, .ref o_land_now, g_land_past, g_land_pasts, g_land_notes, g_land_marks]))]) rfl rfl rfl (by decide) rfl rfl rfl (As := [.int p1]) (rest := []) rfl (Nat.le_of_ble_eq_true rfl) ⟨Nat.zero_le _, Nat.zero_le _⟩ dX7_book_49 (ws' := [(o, .inr (6, [.ref o_land, g_images, g_kept, g_text, g_textLength, g_above, g_below, .int v_bads, .int v_nos, g_fulls, g_roads, g_reader, g_traveller, g_questions])), (o_land, .inr (0, [g_land_placeKind, g_land_placeX, g_land_placeY, g_land_places, g_land_crowKind, g_land_crows, .ref o_land_now, g_land_past, g_land_pasts, g_land_notes, g_land_marks])), (o_land_now, .inr (1, [g_land_now_at, g_land_now_tired, .ref o_land_now_deedRows, .int v_land_now_deeds, g_land_now_hour])), (o_land_now_deedRows, .inl (y 0, 36, .inl f_land_now_deedRows))]) rfl (fun H locs hH => ?_)
          refine lv_goto (tgt := 66) K.x K.b dX7_book_52 (by decide) ?_
          obtain rfl := Option.some.inj h
          exact Kj8 _ _ _ hH (lv_sub hl [] rfl)
      · replace h := z_f c7 h
        refine lv_aload_n K.x K.b dX7_book_32 rfl (lv_at hl 0 rfl) ?_
        obtain ⟨r14, hr15, h⟩ := z_bd_e h
        refine z_Vi K hH hl.1 (c_X7_refuseNo l D y o (.ref o_land) (g_images) (g_kept) (g_text) (g_textLength) (g_above) (g_below) (.int v_bads) (g_fulls) (g_roads) (g_reader) (g_traveller) (g_questions) v_nos r14 hr15) (z_cwV K 0 tw_2_227 tw_2_229 tw_0_14 tw_1_1 tw_2_230 hd_X7_refuseNo ⟨by decide, by decide⟩) [0] [1, 2, 3] rfl (wr := [(o_land, .inr (0, [g_land_placeKind, g_land_placeX, g_land_placeY, g_land_places, g_land_crowKind, g_land_crows, .ref o_land_now, g_land_past, g_land_pasts, g_land_notes, g_land_marks])), (o_land_now, .inr (1, [g_land_now_at, g_land_now_tired, .ref o_land_now_deedRows, .int v_land_now_deeds, g_land_now_hour])), (o_land_now_deedRows, .inl (y 0, 36, .inl f_land_now_deedRows))]) rfl rfl rfl (by decide) rfl rfl rfl (As := []) (rest := []) rfl (Nat.le_of_ble_eq_true rfl) ⟨Nat.zero_le _, Nat.zero_le _⟩ dX7_book_33 (ws' := [(o_land, .inr (0, [g_land_placeKind, g_land_placeX, g_land_placeY, g_land_places, g_land_crowKind, g_land_crows, .ref o_land_now, g_land_past, g_land_pasts, g_land_notes, g_land_marks])), (o_land_now, .inr (1, [g_land_now_at, g_land_now_tired, .ref o_land_now_deedRows, .int v_land_now_deeds, g_land_now_hour])), (o_land_now_deedRows, .inl (y 0, 36, .inl f_land_now_deedRows)), (o, .inr (6, [.ref o_land, g_images, g_kept, g_text, g_textLength, g_above, g_below, .int v_bads, .int r14.2, g_fulls, g_roads, g_reader, g_traveller, g_questions]))]) rfl (fun H locs hH => ?_)
        have hr9 := Option.some.inj h
        obtain rfl := hr9
        rw [hQ]
        exact z_reti K hr hH [3, 0, 1, 2] (by decide) rfl rfl rfl dX7_book_36
    · replace h := z_t c6 h
      refine lv_aload_n K.x K.b dX7_book_13 rfl (lv_at hl 0 rfl) ?_
      obtain ⟨r16, hr17, h⟩ := z_bd_e h
      refine z_Vi K hH hl.1 (c_X7_refuseBad l D y o (.ref o_land) (g_images) (g_kept) (g_text) (g_textLength) (g_above) (g_below) (.int v_nos) (g_fulls) (g_roads) (g_reader) (g_traveller) (g_questions) v_bads r16 hr17) (z_cwV K 0 tw_2_18 tw_2_20 tw_0_0 tw_1_1 tw_2_21 hd_X7_refuseBad ⟨by decide, by decide⟩) [0] [1, 2, 3] rfl (wr := [(o_land, .inr (0, [g_land_placeKind, g_land_placeX, g_land_placeY, g_land_places, g_land_crowKind, g_land_crows, .ref o_land_now, g_land_past, g_land_pasts, g_land_notes, g_land_marks])), (o_land_now, .inr (1, [g_land_now_at, g_land_now_tired, .ref o_land_now_deedRows, .int v_land_now_deeds, g_land_now_hour])), (o_land_now_deedRows, .inl (y 0, 36, .inl f_land_now_deedRows))]) rfl rfl rfl (by decide) rfl rfl rfl (As := []) (rest := []) rfl (Nat.le_of_ble_eq_true rfl) ⟨Nat.zero_le _, Nat.zero_le _⟩ dX7_book_14 (ws' := [(o_land, .inr (0, [g_land_placeKind, g_land_placeX, g_land_placeY, g_land_places, g_land_crowKind, g_land_crows, .ref o_land_now, g_land_past, g_land_pasts, g_land_notes, g_land_marks])), (o_land_now, .inr (1, [g_land_now_at, g_land_now_tired, .ref o_land_now_deedRows, .int v_land_now_deeds, g_land_now_hour])), (o_land_now_deedRows, .inl (y 0, 36, .inl f_land_now_deedRows)), (o, .inr (6, [.ref o_land, g_images, g_kept, g_text, g_textLength, g_above, g_below, .int r16.2, .int v_nos, g_fulls, g_roads, g_reader, g_traveller, g_questions]))]) rfl (fun H locs hH => ?_)
      have hr9 := Option.some.inj h
      obtain rfl := hr9
      rw [hQ]
      exact z_reti K hr hH [3, 0, 1, 2] (by decide) rfl rfl rfl dX7_book_17
def p_X7_isDayHour (p1 : Int32) : Option (Int32) :=
  z_bd (p_X7_within p1 (0 : Int32) (23 : Int32)) fun r1 =>
  z_gd (z_bz r1) <|
  some r1
theorem hd_X7_isDayHour : yX7_isDayHour.cls ≠ "java/lang/invoke/MethodHandle" ∧ yX7_isDayHour.cls ≠ "java/lang/invoke/VarHandle" ∧ (parseMethodDescriptor yX7_isDayHour.desc).map (fun d => d.parameters.length) = some 1 := by decide +kernel
set_option maxHeartbeats 4000000 in
set_option maxRecDepth 100000 in
theorem c_X7_isDayHour (l : Launch) (D : va_G) (y : Nat → ClassId) (p1 : Int32) (r : Int32) (h : p_X7_isDayHour p1 = some r) : z_MI l yX7_isDayHour cX7_isDayHour 1 (some .boolean) 1 22 D y [.int p1] [] r [] := by
  unfold p_X7_isDayHour at h
  refine z_enI (by decide) (Nat.le_of_ble_eq_true rfl) ?_
  intro p e s m args below meth c A ls hr K hH hl
  obtain ⟨Q, hQ⟩ : ∃ Q, Q = MQ below (z_Qi D y A r []) args s 0 0 A := ⟨_, rfl⟩
  rw [← hQ]
  have hl : lv_has ls 1 [(0, .int p1)] := hl
  refine lv_iload_n K.x K.b dX7_isDayHour_0 rfl (lv_at hl 0 rfl) ?_
  refine lv_iconst (v := (0)) K.x K.b dX7_isDayHour_1 (by decide) ?_
  refine lv_bipush (v := (23)) K.x K.b dX7_isDayHour_2 (by decide) ?_
  obtain ⟨r1, hr2, h⟩ := z_bd_e h
  refine z_Si K hH hl.1 (c_X7_within l D y p1 (0 : Int32) (23 : Int32) r1 hr2) (z_cwS K 3 tw_2_15 tw_2_16 tw_1_1 tw_2_17 hd_X7_within ⟨by decide, by decide⟩) rfl (As := [.int p1, .int (0 : Int32), .int (23 : Int32)]) (rest := []) rfl (Nat.le_of_ble_eq_true rfl) ⟨Nat.zero_le _, Nat.zero_le _⟩ dX7_isDayHour_4 (fun H locs hH => ?_)
  obtain ⟨g3, h⟩ := z_gd_e h
  have hr9 := Option.some.inj h
  obtain rfl := hr9
  rw [hQ]
  exact z_reti K hr hH [] (by decide) rfl rfl (z_bz_e g3) dX7_isDayHour_7
def p_X7_note (v_bads : Int32) (v_fulls : Int32) (v_land_places : Int32) (v_land_notes_size : Int32) (f_land_notes_rows : (Nat → Int32)) (p1 : Int32) (p2 : Int32) (p3 : Int32) (p4 : Int32) : Option (Int32 × Int32 × Int32 × Int32 × (Nat → Int32)) :=
  z_bd (p_X0_hasPlace v_land_places p1) fun r1 =>
  if (r1 = 0) then
  (z_bd (p_X7_refuseBad v_bads) fun r4 =>
  some (r4.1, r4.2, v_fulls, v_land_notes_size, f_land_notes_rows)) else
  (z_bd (p_X7_within p2 (0 : Int32) (500 : Int32)) fun r6 =>
  if (r6 = 0) then
  (z_bd (p_X7_refuseBad v_bads) fun r9 =>
  some (r9.1, r9.2, v_fulls, v_land_notes_size, f_land_notes_rows)) else
  (z_bd (p_X7_isDayHour p3) fun r11 =>
  if (r11 = 0) then
  (z_bd (p_X7_refuseBad v_bads) fun r14 =>
  some (r14.1, r14.2, v_fulls, v_land_notes_size, f_land_notes_rows)) else
  (z_bd (p_X7_within p4 (0 : Int32) (900 : Int32)) fun r16 =>
  if (r16 = 0) then
  (z_bd (p_X7_refuseBad v_bads) fun r26 =>
  some (r26.1, r26.2, v_fulls, v_land_notes_size, f_land_notes_rows)) else
  (z_bd (p_X6_isFull v_land_notes_size) fun r19 =>
  if (r19 = 0) then
  (z_bd (p_X6_add v_land_notes_size f_land_notes_rows p1 p2 p3 (0 : Int32) p4) fun r22 =>
  some (r22.1, v_bads, v_fulls, r22.2.1, r22.2.2)) else
  (z_bd (p_X7_refuseFull v_fulls) fun r24 =>
  some (r24.1, v_bads, r24.2, v_land_notes_size, f_land_notes_rows))))))
theorem hd_X7_note : yX7_note.cls = RX7 ∧ yX7_note.cls ≠ "java/lang/invoke/MethodHandle" ∧ yX7_note.cls ≠ "java/lang/invoke/VarHandle" ∧ (parseMethodDescriptor yX7_note.desc).map (fun d => d.parameters.length) = some 4 := by decide +kernel
set_option maxHeartbeats 4000000 in
set_option maxRecDepth 100000 in
theorem c_X7_note (l : Launch) (D : va_G) (y : Nat → ClassId) (o o_land o_land_notes o_land_notes_rows : Nat) (g_images g_kept g_text g_textLength g_above g_below g_nos g_roads g_reader g_traveller g_questions g_land_placeKind g_land_placeX g_land_placeY g_land_crowKind g_land_crows g_land_now g_land_past g_land_pasts g_land_marks g_land_notes_ofCrows : Value) (v_bads : Int32) (v_fulls : Int32) (v_land_places : Int32) (v_land_notes_size : Int32) (f_land_notes_rows : (Nat → Int32)) (p1 : Int32) (p2 : Int32) (p3 : Int32) (p4 : Int32) (r : Int32 × Int32 × Int32 × Int32 × (Nat → Int32)) (h : p_X7_note v_bads v_fulls v_land_places v_land_notes_size f_land_notes_rows p1 p2 p3 p4 = some r) : z_MI l yX7_note cX7_note 5 (some .int) 2 46 D y [.ref o, .int p1, .int p2, .int p3, .int p4] [(o, .inr (6, [.ref o_land, g_images, g_kept, g_text, g_textLength, g_above, g_below, .int v_bads, g_nos, .int v_fulls, g_roads, g_reader, g_traveller, g_questions])), (o_land, .inr (0, [g_land_placeKind, g_land_placeX, g_land_placeY, .int v_land_places, g_land_crowKind, g_land_crows, g_land_now, g_land_past, g_land_pasts, .ref o_land_notes, g_land_marks])), (o_land_notes, .inr (5, [g_land_notes_ofCrows, .ref o_land_notes_rows, .int v_land_notes_size])), (o_land_notes_rows, .inl (y 0, 30, .inl f_land_notes_rows))] r.1 [(o, .inr (6, [.ref o_land, g_images, g_kept, g_text, g_textLength, g_above, g_below, .int r.2.1, g_nos, .int r.2.2.1, g_roads, g_reader, g_traveller, g_questions])), (o_land, .inr (0, [g_land_placeKind, g_land_placeX, g_land_placeY, .int v_land_places, g_land_crowKind, g_land_crows, g_land_now, g_land_past, g_land_pasts, .ref o_land_notes, g_land_marks])), (o_land_notes, .inr (5, [g_land_notes_ofCrows, .ref o_land_notes_rows, .int r.2.2.2.1])), (o_land_notes_rows, .inl (y 0, 30, .inl r.2.2.2.2))] := by
  unfold p_X7_note at h
  refine z_enI (by decide) (Nat.le_of_ble_eq_true rfl) ?_
  intro p e s m args below meth c A ls hr K hH hl
  obtain ⟨Q, hQ⟩ : ∃ Q, Q = MQ below (z_Qi D y A r.1 [(o, .inr (6, [.ref o_land, g_images, g_kept, g_text, g_textLength, g_above, g_below, .int r.2.1, g_nos, .int r.2.2.1, g_roads, g_reader, g_traveller, g_questions])), (o_land, .inr (0, [g_land_placeKind, g_land_placeX, g_land_placeY, .int v_land_places, g_land_crowKind, g_land_crows, g_land_now, g_land_past, g_land_pasts, .ref o_land_notes, g_land_marks])), (o_land_notes, .inr (5, [g_land_notes_ofCrows, .ref o_land_notes_rows, .int r.2.2.2.1])), (o_land_notes_rows, .inl (y 0, 30, .inl r.2.2.2.2))]) args s 0 0 A := ⟨_, rfl⟩
  rw [← hQ]
  have hl : lv_has ls 5 [(0, .ref o), (1, .int p1), (2, .int p2), (3, .int p3), (4, .int p4)] := hl
  refine lv_aload_n K.x K.b dX7_note_0 rfl (lv_at hl 0 rfl) ?_
  refine z_get K hH 0 rfl zin_7 rfl 0 (by decide) tw_1_197 (v := .ref o_land) rfl dX7_note_1 ?_
  refine lv_iload_n K.x K.b dX7_note_4 rfl (lv_at hl 1 rfl) ?_
  obtain ⟨r1, hr2, h⟩ := z_bd_e h
  refine z_Vi K hH hl.1 (c_X0_hasPlace l D y o_land (g_land_placeKind) (g_land_placeX) (g_land_placeY) (g_land_crowKind) (g_land_crows) (g_land_now) (g_land_past) (g_land_pasts) (.ref o_land_notes) (g_land_marks) v_land_places p1 r1 hr2) (z_cwV K 1 tw_2_34 tw_2_35 tw_2_36 tw_1_2 tw_2_37 hd_X0_hasPlace ⟨by decide, by decide⟩) [1] [0, 2, 3] rfl (wr := [(o, .inr (6, [.ref o_land, g_images, g_kept, g_text, g_textLength, g_above, g_below, .int v_bads, g_nos, .int v_fulls, g_roads, g_reader, g_traveller, g_questions])), (o_land_notes, .inr (5, [g_land_notes_ofCrows, .ref o_land_notes_rows, .int v_land_notes_size])), (o_land_notes_rows, .inl (y 0, 30, .inl f_land_notes_rows))]) rfl rfl rfl (by decide) rfl rfl rfl (As := [.int p1]) (rest := []) rfl (Nat.le_of_ble_eq_true rfl) ⟨Nat.zero_le _, Nat.zero_le _⟩ dX7_note_5 (ws' := [(o, .inr (6, [.ref o_land, g_images, g_kept, g_text, g_textLength, g_above, g_below, .int v_bads, g_nos, .int v_fulls, g_roads, g_reader, g_traveller, g_questions])), (o_land_notes, .inr (5, [g_land_notes_ofCrows, .ref o_land_notes_rows, .int v_land_notes_size])), (o_land_notes_rows, .inl (y 0, 30, .inl f_land_notes_rows)), (o_land, .inr (0, [g_land_placeKind, g_land_placeX, g_land_placeY, .int v_land_places, g_land_crowKind, g_land_crows, g_land_now, g_land_past, g_land_pasts, .ref o_land_notes, g_land_marks]))]) rfl (fun H locs hH => ?_)
  refine lv_if_eq (tgt := 41) K.x K.b dX7_note_8 (by decide) (fun c3 => ?_) (fun c3 => ?_)
  · replace h := z_t c3 h
    refine lv_aload_n K.x K.b dX7_note_41 rfl (lv_at hl 0 rfl) ?_
    obtain ⟨r4, hr5, h⟩ := z_bd_e h
    refine z_Vi K hH hl.1 (c_X7_refuseBad l D y o (.ref o_land) (g_images) (g_kept) (g_text) (g_textLength) (g_above) (g_below) (g_nos) (.int v_fulls) (g_roads) (g_reader) (g_traveller) (g_questions) v_bads r4 hr5) (z_cwV K 0 tw_2_18 tw_2_20 tw_0_0 tw_1_1 tw_2_21 hd_X7_refuseBad ⟨by decide, by decide⟩) [0] [1, 2, 3] rfl (wr := [(o_land_notes, .inr (5, [g_land_notes_ofCrows, .ref o_land_notes_rows, .int v_land_notes_size])), (o_land_notes_rows, .inl (y 0, 30, .inl f_land_notes_rows)), (o_land, .inr (0, [g_land_placeKind, g_land_placeX, g_land_placeY, .int v_land_places, g_land_crowKind, g_land_crows, g_land_now, g_land_past, g_land_pasts, .ref o_land_notes, g_land_marks]))]) rfl rfl rfl (by decide) rfl rfl rfl (As := []) (rest := []) rfl (Nat.le_of_ble_eq_true rfl) ⟨Nat.zero_le _, Nat.zero_le _⟩ dX7_note_42 (ws' := [(o_land_notes, .inr (5, [g_land_notes_ofCrows, .ref o_land_notes_rows, .int v_land_notes_size])), (o_land_notes_rows, .inl (y 0, 30, .inl f_land_notes_rows)), (o_land, .inr (0, [g_land_placeKind, g_land_placeX, g_land_placeY, .int v_land_places, g_land_crowKind, g_land_crows, g_land_now, g_land_past, g_land_pasts, .ref o_land_notes, g_land_marks])), (o, .inr (6, [.ref o_land, g_images, g_kept, g_text, g_textLength, g_above, g_below, .int r4.2, g_nos, .int v_fulls, g_roads, g_reader, g_traveller, g_questions]))]) rfl (fun H locs hH => ?_)
    have hr9 := Option.some.inj h
    obtain rfl := hr9
    rw [hQ]
    exact z_reti K hr hH [3, 2, 0, 1] (by decide) rfl rfl rfl dX7_note_45
  · replace h := z_f c3 h
    refine lv_iload_n K.x K.b dX7_note_11 rfl (lv_at hl 2 rfl) ?_
    refine lv_iconst (v := (0)) K.x K.b dX7_note_12 (by decide) ?_
    refine lv_sipush (v := (500)) K.x K.b dX7_note_13 (by decide) ?_
    obtain ⟨r6, hr7, h⟩ := z_bd_e h
    refine z_Si K hH hl.1 (c_X7_within l D y p2 (0 : Int32) (500 : Int32) r6 hr7) (z_cwS K 3 tw_2_15 tw_2_16 tw_1_1 tw_2_17 hd_X7_within ⟨by decide, by decide⟩) rfl (As := [.int p2, .int (0 : Int32), .int (500 : Int32)]) (rest := []) rfl (Nat.le_of_ble_eq_true rfl) ⟨Nat.zero_le _, Nat.zero_le _⟩ dX7_note_16 (fun H locs hH => ?_)
    refine lv_if_eq (tgt := 41) K.x K.b dX7_note_19 (by decide) (fun c8 => ?_) (fun c8 => ?_)
    · replace h := z_t c8 h
      refine lv_aload_n K.x K.b dX7_note_41 rfl (lv_at hl 0 rfl) ?_
      obtain ⟨r9, hr10, h⟩ := z_bd_e h
      refine z_Vi K hH hl.1 (c_X7_refuseBad l D y o (.ref o_land) (g_images) (g_kept) (g_text) (g_textLength) (g_above) (g_below) (g_nos) (.int v_fulls) (g_roads) (g_reader) (g_traveller) (g_questions) v_bads r9 hr10) (z_cwV K 0 tw_2_18 tw_2_20 tw_0_0 tw_1_1 tw_2_21 hd_X7_refuseBad ⟨by decide, by decide⟩) [0] [1, 2, 3] rfl (wr := [(o_land_notes, .inr (5, [g_land_notes_ofCrows, .ref o_land_notes_rows, .int v_land_notes_size])), (o_land_notes_rows, .inl (y 0, 30, .inl f_land_notes_rows)), (o_land, .inr (0, [g_land_placeKind, g_land_placeX, g_land_placeY, .int v_land_places, g_land_crowKind, g_land_crows, g_land_now, g_land_past, g_land_pasts, .ref o_land_notes, g_land_marks]))]) rfl rfl rfl (by decide) rfl rfl rfl (As := []) (rest := []) rfl (Nat.le_of_ble_eq_true rfl) ⟨Nat.zero_le _, Nat.zero_le _⟩ dX7_note_42 (ws' := [(o_land_notes, .inr (5, [g_land_notes_ofCrows, .ref o_land_notes_rows, .int v_land_notes_size])), (o_land_notes_rows, .inl (y 0, 30, .inl f_land_notes_rows)), (o_land, .inr (0, [g_land_placeKind, g_land_placeX, g_land_placeY, .int v_land_places, g_land_crowKind, g_land_crows, g_land_now, g_land_past, g_land_pasts, .ref o_land_notes, g_land_marks])), (o, .inr (6, [.ref o_land, g_images, g_kept, g_text, g_textLength, g_above, g_below, .int r9.2, g_nos, .int v_fulls, g_roads, g_reader, g_traveller, g_questions]))]) rfl (fun H locs hH => ?_)
      have hr9 := Option.some.inj h
      obtain rfl := hr9
      rw [hQ]
      exact z_reti K hr hH [3, 2, 0, 1] (by decide) rfl rfl rfl dX7_note_45
    · replace h := z_f c8 h
      refine lv_iload_n K.x K.b dX7_note_22 rfl (lv_at hl 3 rfl) ?_
      obtain ⟨r11, hr12, h⟩ := z_bd_e h
      refine z_Si K hH hl.1 (c_X7_isDayHour l D y p3 r11 hr12) (z_cwS K 1 tw_3_164 tw_3_165 tw_1_1 tw_3_166 hd_X7_isDayHour ⟨by decide, by decide⟩) rfl (As := [.int p3]) (rest := []) rfl (Nat.le_of_ble_eq_true rfl) ⟨Nat.zero_le _, Nat.zero_le _⟩ dX7_note_23 (fun H locs hH => ?_)
      refine lv_if_eq (tgt := 41) K.x K.b dX7_note_26 (by decide) (fun c13 => ?_) (fun c13 => ?_)
      · replace h := z_t c13 h
        refine lv_aload_n K.x K.b dX7_note_41 rfl (lv_at hl 0 rfl) ?_
        obtain ⟨r14, hr15, h⟩ := z_bd_e h
        refine z_Vi K hH hl.1 (c_X7_refuseBad l D y o (.ref o_land) (g_images) (g_kept) (g_text) (g_textLength) (g_above) (g_below) (g_nos) (.int v_fulls) (g_roads) (g_reader) (g_traveller) (g_questions) v_bads r14 hr15) (z_cwV K 0 tw_2_18 tw_2_20 tw_0_0 tw_1_1 tw_2_21 hd_X7_refuseBad ⟨by decide, by decide⟩) [0] [1, 2, 3] rfl (wr := [(o_land_notes, .inr (5, [g_land_notes_ofCrows, .ref o_land_notes_rows, .int v_land_notes_size])), (o_land_notes_rows, .inl (y 0, 30, .inl f_land_notes_rows)), (o_land, .inr (0, [g_land_placeKind, g_land_placeX, g_land_placeY, .int v_land_places, g_land_crowKind, g_land_crows, g_land_now, g_land_past, g_land_pasts, .ref o_land_notes, g_land_marks]))]) rfl rfl rfl (by decide) rfl rfl rfl (As := []) (rest := []) rfl (Nat.le_of_ble_eq_true rfl) ⟨Nat.zero_le _, Nat.zero_le _⟩ dX7_note_42 (ws' := [(o_land_notes, .inr (5, [g_land_notes_ofCrows, .ref o_land_notes_rows, .int v_land_notes_size])), (o_land_notes_rows, .inl (y 0, 30, .inl f_land_notes_rows)), (o_land, .inr (0, [g_land_placeKind, g_land_placeX, g_land_placeY, .int v_land_places, g_land_crowKind, g_land_crows, g_land_now, g_land_past, g_land_pasts, .ref o_land_notes, g_land_marks])), (o, .inr (6, [.ref o_land, g_images, g_kept, g_text, g_textLength, g_above, g_below, .int r14.2, g_nos, .int v_fulls, g_roads, g_reader, g_traveller, g_questions]))]) rfl (fun H locs hH => ?_)
        have hr9 := Option.some.inj h
        obtain rfl := hr9
        rw [hQ]
        exact z_reti K hr hH [3, 2, 0, 1] (by decide) rfl rfl rfl dX7_note_45
      · replace h := z_f c13 h
        refine lv_iload K.x K.b dX7_note_29 (lv_at hl 4 rfl) ?_
        refine lv_iconst (v := (0)) K.x K.b dX7_note_31 (by decide) ?_
        refine lv_sipush (v := (900)) K.x K.b dX7_note_32 (by decide) ?_
        obtain ⟨r16, hr17, h⟩ := z_bd_e h
        refine z_Si K hH hl.1 (c_X7_within l D y p4 (0 : Int32) (900 : Int32) r16 hr17) (z_cwS K 3 tw_2_15 tw_2_16 tw_1_1 tw_2_17 hd_X7_within ⟨by decide, by decide⟩) rfl (As := [.int p4, .int (0 : Int32), .int (900 : Int32)]) (rest := []) rfl (Nat.le_of_ble_eq_true rfl) ⟨Nat.zero_le _, Nat.zero_le _⟩ dX7_note_35 (fun H locs hH => ?_)
        refine lv_if_ne (tgt := 46) K.x K.b dX7_note_38 (by decide) (fun c18 => ?_) (fun c18 => ?_)
        · replace h := z_f c18 h
          refine lv_aload_n K.x K.b dX7_note_46 rfl (lv_at hl 0 rfl) ?_
          refine z_get K hH 0 rfl zin_7 rfl 0 (by decide) tw_1_197 (v := .ref o_land) rfl dX7_note_47 ?_
          refine z_get K hH 3 rfl zin_0 rfl 9 (by decide) tw_1_100 (v := .ref o_land_notes) rfl dX7_note_50 ?_
          obtain ⟨r19, hr20, h⟩ := z_bd_e h
          refine z_Vi K hH hl.1 (c_X6_isFull l D y o_land_notes (g_land_notes_ofCrows) (.ref o_land_notes_rows) v_land_notes_size r19 hr20) (z_cwV K 0 tw_3_167 tw_3_168 tw_3_169 tw_1_4 tw_3_170 hd_X6_isFull ⟨by decide, by decide⟩) [1] [0, 2, 3] rfl (wr := [(o, .inr (6, [.ref o_land, g_images, g_kept, g_text, g_textLength, g_above, g_below, .int v_bads, g_nos, .int v_fulls, g_roads, g_reader, g_traveller, g_questions])), (o_land_notes_rows, .inl (y 0, 30, .inl f_land_notes_rows)), (o_land, .inr (0, [g_land_placeKind, g_land_placeX, g_land_placeY, .int v_land_places, g_land_crowKind, g_land_crows, g_land_now, g_land_past, g_land_pasts, .ref o_land_notes, g_land_marks]))]) rfl rfl rfl (by decide) rfl rfl rfl (As := []) (rest := []) rfl (Nat.le_of_ble_eq_true rfl) ⟨Nat.zero_le _, Nat.zero_le _⟩ dX7_note_53 (ws' := [(o, .inr (6, [.ref o_land, g_images, g_kept, g_text, g_textLength, g_above, g_below, .int v_bads, g_nos, .int v_fulls, g_roads, g_reader, g_traveller, g_questions])), (o_land_notes_rows, .inl (y 0, 30, .inl f_land_notes_rows)), (o_land, .inr (0, [g_land_placeKind, g_land_placeX, g_land_placeY, .int v_land_places, g_land_crowKind, g_land_crows, g_land_now, g_land_past, g_land_pasts, .ref o_land_notes, g_land_marks])), (o_land_notes, .inr (5, [g_land_notes_ofCrows, .ref o_land_notes_rows, .int v_land_notes_size]))]) rfl (fun H locs hH => ?_)
          refine lv_if_eq (tgt := 64) K.x K.b dX7_note_56 (by decide) (fun c21 => ?_) (fun c21 => ?_)
          · replace h := z_t c21 h
            refine lv_aload_n K.x K.b dX7_note_64 rfl (lv_at hl 0 rfl) ?_
            refine z_get K hH 0 rfl zin_7 rfl 0 (by decide) tw_1_197 (v := .ref o_land) rfl dX7_note_65 ?_
            refine z_get K hH 2 rfl zin_0 rfl 9 (by decide) tw_1_100 (v := .ref o_land_notes) rfl dX7_note_68 ?_
            refine lv_iload_n K.x K.b dX7_note_71 rfl (lv_at hl 1 rfl) ?_
            refine lv_iload_n K.x K.b dX7_note_72 rfl (lv_at hl 2 rfl) ?_
            refine lv_iload_n K.x K.b dX7_note_73 rfl (lv_at hl 3 rfl) ?_
            refine lv_iconst (v := (0)) K.x K.b dX7_note_74 (by decide) ?_
            refine lv_iload K.x K.b dX7_note_75 (lv_at hl 4 rfl) ?_
            obtain ⟨r22, hr23, h⟩ := z_bd_e h
            refine z_Vi K hH hl.1 (c_X6_add l D y o_land_notes o_land_notes_rows (g_land_notes_ofCrows) v_land_notes_size f_land_notes_rows p1 p2 p3 (0 : Int32) p4 r22 hr23) (z_cwV K 5 tw_3_171 tw_3_172 tw_3_173 tw_1_4 tw_3_174 hd_X6_add ⟨by decide, by decide⟩) [3, 1] [0, 2] rfl (wr := [(o, .inr (6, [.ref o_land, g_images, g_kept, g_text, g_textLength, g_above, g_below, .int v_bads, g_nos, .int v_fulls, g_roads, g_reader, g_traveller, g_questions])), (o_land, .inr (0, [g_land_placeKind, g_land_placeX, g_land_placeY, .int v_land_places, g_land_crowKind, g_land_crows, g_land_now, g_land_past, g_land_pasts, .ref o_land_notes, g_land_marks]))]) rfl rfl rfl (by decide) rfl rfl rfl (As := [.int p1, .int p2, .int p3, .int (0 : Int32), .int p4]) (rest := []) rfl (Nat.le_of_ble_eq_true rfl) ⟨Nat.zero_le _, Nat.zero_le _⟩ dX7_note_77 (ws' := [(o, .inr (6, [.ref o_land, g_images, g_kept, g_text, g_textLength, g_above, g_below, .int v_bads, g_nos, .int v_fulls, g_roads, g_reader, g_traveller, g_questions])), (o_land, .inr (0, [g_land_placeKind, g_land_placeX, g_land_placeY, .int v_land_places, g_land_crowKind, g_land_crows, g_land_now, g_land_past, g_land_pasts, .ref o_land_notes, g_land_marks])), (o_land_notes, .inr (5, [g_land_notes_ofCrows, .ref o_land_notes_rows, .int r22.2.1])), (o_land_notes_rows, .inl (y 0, 30, .inl r22.2.2))]) rfl (fun H locs hH => ?_)
            have hr9 := Option.some.inj h
            obtain rfl := hr9
            rw [hQ]
            exact z_reti K hr hH [0, 1, 2, 3] (by decide) rfl rfl rfl dX7_note_80
          · replace h := z_f c21 h
            refine lv_aload_n K.x K.b dX7_note_59 rfl (lv_at hl 0 rfl) ?_
            obtain ⟨r24, hr25, h⟩ := z_bd_e h
            refine z_Vi K hH hl.1 (c_X7_refuseFull l D y o (.ref o_land) (g_images) (g_kept) (g_text) (g_textLength) (g_above) (g_below) (.int v_bads) (g_nos) (g_roads) (g_reader) (g_traveller) (g_questions) v_fulls r24 hr25) (z_cwV K 0 tw_2_22 tw_2_24 tw_0_1 tw_1_1 tw_2_25 hd_X7_refuseFull ⟨by decide, by decide⟩) [0] [1, 2, 3] rfl (wr := [(o_land_notes_rows, .inl (y 0, 30, .inl f_land_notes_rows)), (o_land, .inr (0, [g_land_placeKind, g_land_placeX, g_land_placeY, .int v_land_places, g_land_crowKind, g_land_crows, g_land_now, g_land_past, g_land_pasts, .ref o_land_notes, g_land_marks])), (o_land_notes, .inr (5, [g_land_notes_ofCrows, .ref o_land_notes_rows, .int v_land_notes_size]))]) rfl rfl rfl (by decide) rfl rfl rfl (As := []) (rest := []) rfl (Nat.le_of_ble_eq_true rfl) ⟨Nat.zero_le _, Nat.zero_le _⟩ dX7_note_60 (ws' := [(o_land_notes_rows, .inl (y 0, 30, .inl f_land_notes_rows)), (o_land, .inr (0, [g_land_placeKind, g_land_placeX, g_land_placeY, .int v_land_places, g_land_crowKind, g_land_crows, g_land_now, g_land_past, g_land_pasts, .ref o_land_notes, g_land_marks])), (o_land_notes, .inr (5, [g_land_notes_ofCrows, .ref o_land_notes_rows, .int v_land_notes_size])), (o, .inr (6, [.ref o_land, g_images, g_kept, g_text, g_textLength, g_above, g_below, .int v_bads, g_nos, .int r24.2, g_roads, g_reader, g_traveller, g_questions]))]) rfl (fun H locs hH => ?_)
            have hr9 := Option.some.inj h
            obtain rfl := hr9
            rw [hQ]
            exact z_reti K hr hH [3, 1, 2, 0] (by decide) rfl rfl rfl dX7_note_63
        · replace h := z_t c18 h
          refine lv_aload_n K.x K.b dX7_note_41 rfl (lv_at hl 0 rfl) ?_
          obtain ⟨r26, hr27, h⟩ := z_bd_e h
          refine z_Vi K hH hl.1 (c_X7_refuseBad l D y o (.ref o_land) (g_images) (g_kept) (g_text) (g_textLength) (g_above) (g_below) (g_nos) (.int v_fulls) (g_roads) (g_reader) (g_traveller) (g_questions) v_bads r26 hr27) (z_cwV K 0 tw_2_18 tw_2_20 tw_0_0 tw_1_1 tw_2_21 hd_X7_refuseBad ⟨by decide, by decide⟩) [0] [1, 2, 3] rfl (wr := [(o_land_notes, .inr (5, [g_land_notes_ofCrows, .ref o_land_notes_rows, .int v_land_notes_size])), (o_land_notes_rows, .inl (y 0, 30, .inl f_land_notes_rows)), (o_land, .inr (0, [g_land_placeKind, g_land_placeX, g_land_placeY, .int v_land_places, g_land_crowKind, g_land_crows, g_land_now, g_land_past, g_land_pasts, .ref o_land_notes, g_land_marks]))]) rfl rfl rfl (by decide) rfl rfl rfl (As := []) (rest := []) rfl (Nat.le_of_ble_eq_true rfl) ⟨Nat.zero_le _, Nat.zero_le _⟩ dX7_note_42 (ws' := [(o_land_notes, .inr (5, [g_land_notes_ofCrows, .ref o_land_notes_rows, .int v_land_notes_size])), (o_land_notes_rows, .inl (y 0, 30, .inl f_land_notes_rows)), (o_land, .inr (0, [g_land_placeKind, g_land_placeX, g_land_placeY, .int v_land_places, g_land_crowKind, g_land_crows, g_land_now, g_land_past, g_land_pasts, .ref o_land_notes, g_land_marks])), (o, .inr (6, [.ref o_land, g_images, g_kept, g_text, g_textLength, g_above, g_below, .int r26.2, g_nos, .int v_fulls, g_roads, g_reader, g_traveller, g_questions]))]) rfl (fun H locs hH => ?_)
          have hr9 := Option.some.inj h
          obtain rfl := hr9
          rw [hQ]
          exact z_reti K hr hH [3, 2, 0, 1] (by decide) rfl rfl rfl dX7_note_45
def p_X7_mark (v_bads : Int32) (v_fulls : Int32) (v_land_crows : Int32) (v_land_marks_size : Int32) (f_land_marks_rows : (Nat → Int32)) (p1 : Int32) (p2 : Int32) (p3 : Int32) (p4 : Int32) (p5 : Int32) : Option (Int32 × Int32 × Int32 × Int32 × (Nat → Int32)) :=
  z_bd (p_X0_hasCrow v_land_crows p1) fun r1 =>
  if (r1 = 0) then
  (z_bd (p_X7_refuseBad v_bads) fun r4 =>
  some (r4.1, r4.2, v_fulls, v_land_marks_size, f_land_marks_rows)) else
  (z_bd (p_X7_within p2 (0 : Int32) (18 : Int32)) fun r6 =>
  if (r6 = 0) then
  (z_bd (p_X7_refuseBad v_bads) fun r9 =>
  some (r9.1, r9.2, v_fulls, v_land_marks_size, f_land_marks_rows)) else
  (z_bd (p_X7_isDayHour p3) fun r11 =>
  if (r11 = 0) then
  (z_bd (p_X7_refuseBad v_bads) fun r14 =>
  some (r14.1, r14.2, v_fulls, v_land_marks_size, f_land_marks_rows)) else
  (z_bd (p_X7_within p4 (0 : Int32) (99 : Int32)) fun r16 =>
  if (r16 = 0) then
  (z_bd (p_X7_refuseBad v_bads) fun r19 =>
  some (r19.1, r19.2, v_fulls, v_land_marks_size, f_land_marks_rows)) else
  (z_bd (p_X7_within p5 (0 : Int32) (500 : Int32)) fun r21 =>
  if (r21 = 0) then
  (z_bd (p_X7_refuseBad v_bads) fun r31 =>
  some (r31.1, r31.2, v_fulls, v_land_marks_size, f_land_marks_rows)) else
  (z_bd (p_X6_isFull v_land_marks_size) fun r24 =>
  if (r24 = 0) then
  (z_bd (p_X6_add v_land_marks_size f_land_marks_rows p1 p2 p3 p4 p5) fun r27 =>
  some (r27.1, v_bads, v_fulls, r27.2.1, r27.2.2)) else
  (z_bd (p_X7_refuseFull v_fulls) fun r29 =>
  some (r29.1, v_bads, r29.2, v_land_marks_size, f_land_marks_rows)))))))
theorem hd_X7_mark : yX7_mark.cls = RX7 ∧ yX7_mark.cls ≠ "java/lang/invoke/MethodHandle" ∧ yX7_mark.cls ≠ "java/lang/invoke/VarHandle" ∧ (parseMethodDescriptor yX7_mark.desc).map (fun d => d.parameters.length) = some 5 := by decide +kernel
set_option maxHeartbeats 4000000 in
set_option maxRecDepth 100000 in
theorem c_X7_mark (l : Launch) (D : va_G) (y : Nat → ClassId) (o o_land o_land_marks o_land_marks_rows : Nat) (g_images g_kept g_text g_textLength g_above g_below g_nos g_roads g_reader g_traveller g_questions g_land_placeKind g_land_placeX g_land_placeY g_land_places g_land_crowKind g_land_now g_land_past g_land_pasts g_land_notes g_land_marks_ofCrows : Value) (v_bads : Int32) (v_fulls : Int32) (v_land_crows : Int32) (v_land_marks_size : Int32) (f_land_marks_rows : (Nat → Int32)) (p1 : Int32) (p2 : Int32) (p3 : Int32) (p4 : Int32) (p5 : Int32) (r : Int32 × Int32 × Int32 × Int32 × (Nat → Int32)) (h : p_X7_mark v_bads v_fulls v_land_crows v_land_marks_size f_land_marks_rows p1 p2 p3 p4 p5 = some r) : z_MI l yX7_mark cX7_mark 6 (some .int) 2 46 D y [.ref o, .int p1, .int p2, .int p3, .int p4, .int p5] [(o, .inr (6, [.ref o_land, g_images, g_kept, g_text, g_textLength, g_above, g_below, .int v_bads, g_nos, .int v_fulls, g_roads, g_reader, g_traveller, g_questions])), (o_land, .inr (0, [g_land_placeKind, g_land_placeX, g_land_placeY, g_land_places, g_land_crowKind, .int v_land_crows, g_land_now, g_land_past, g_land_pasts, g_land_notes, .ref o_land_marks])), (o_land_marks, .inr (5, [g_land_marks_ofCrows, .ref o_land_marks_rows, .int v_land_marks_size])), (o_land_marks_rows, .inl (y 0, 30, .inl f_land_marks_rows))] r.1 [(o, .inr (6, [.ref o_land, g_images, g_kept, g_text, g_textLength, g_above, g_below, .int r.2.1, g_nos, .int r.2.2.1, g_roads, g_reader, g_traveller, g_questions])), (o_land, .inr (0, [g_land_placeKind, g_land_placeX, g_land_placeY, g_land_places, g_land_crowKind, .int v_land_crows, g_land_now, g_land_past, g_land_pasts, g_land_notes, .ref o_land_marks])), (o_land_marks, .inr (5, [g_land_marks_ofCrows, .ref o_land_marks_rows, .int r.2.2.2.1])), (o_land_marks_rows, .inl (y 0, 30, .inl r.2.2.2.2))] := by
  unfold p_X7_mark at h
  refine z_enI (by decide) (Nat.le_of_ble_eq_true rfl) ?_
  intro p e s m args below meth c A ls hr K hH hl
  obtain ⟨Q, hQ⟩ : ∃ Q, Q = MQ below (z_Qi D y A r.1 [(o, .inr (6, [.ref o_land, g_images, g_kept, g_text, g_textLength, g_above, g_below, .int r.2.1, g_nos, .int r.2.2.1, g_roads, g_reader, g_traveller, g_questions])), (o_land, .inr (0, [g_land_placeKind, g_land_placeX, g_land_placeY, g_land_places, g_land_crowKind, .int v_land_crows, g_land_now, g_land_past, g_land_pasts, g_land_notes, .ref o_land_marks])), (o_land_marks, .inr (5, [g_land_marks_ofCrows, .ref o_land_marks_rows, .int r.2.2.2.1])), (o_land_marks_rows, .inl (y 0, 30, .inl r.2.2.2.2))]) args s 0 0 A := ⟨_, rfl⟩
  rw [← hQ]
  have hl : lv_has ls 6 [(0, .ref o), (1, .int p1), (2, .int p2), (3, .int p3), (4, .int p4), (5, .int p5)] := hl
  refine lv_aload_n K.x K.b dX7_mark_0 rfl (lv_at hl 0 rfl) ?_
  refine z_get K hH 0 rfl zin_7 rfl 0 (by decide) tw_1_197 (v := .ref o_land) rfl dX7_mark_1 ?_
  refine lv_iload_n K.x K.b dX7_mark_4 rfl (lv_at hl 1 rfl) ?_
  obtain ⟨r1, hr2, h⟩ := z_bd_e h
  refine z_Vi K hH hl.1 (c_X0_hasCrow l D y o_land (g_land_placeKind) (g_land_placeX) (g_land_placeY) (g_land_places) (g_land_crowKind) (g_land_now) (g_land_past) (g_land_pasts) (g_land_notes) (.ref o_land_marks) v_land_crows p1 r1 hr2) (z_cwV K 1 tw_2_223 tw_2_224 tw_2_225 tw_1_2 tw_2_226 hd_X0_hasCrow ⟨by decide, by decide⟩) [1] [0, 2, 3] rfl (wr := [(o, .inr (6, [.ref o_land, g_images, g_kept, g_text, g_textLength, g_above, g_below, .int v_bads, g_nos, .int v_fulls, g_roads, g_reader, g_traveller, g_questions])), (o_land_marks, .inr (5, [g_land_marks_ofCrows, .ref o_land_marks_rows, .int v_land_marks_size])), (o_land_marks_rows, .inl (y 0, 30, .inl f_land_marks_rows))]) rfl rfl rfl (by decide) rfl rfl rfl (As := [.int p1]) (rest := []) rfl (Nat.le_of_ble_eq_true rfl) ⟨Nat.zero_le _, Nat.zero_le _⟩ dX7_mark_5 (ws' := [(o, .inr (6, [.ref o_land, g_images, g_kept, g_text, g_textLength, g_above, g_below, .int v_bads, g_nos, .int v_fulls, g_roads, g_reader, g_traveller, g_questions])), (o_land_marks, .inr (5, [g_land_marks_ofCrows, .ref o_land_marks_rows, .int v_land_marks_size])), (o_land_marks_rows, .inl (y 0, 30, .inl f_land_marks_rows)), (o_land, .inr (0, [g_land_placeKind, g_land_placeX, g_land_placeY, g_land_places, g_land_crowKind, .int v_land_crows, g_land_now, g_land_past, g_land_pasts, g_land_notes, .ref o_land_marks]))]) rfl (fun H locs hH => ?_)
  refine lv_if_eq (tgt := 51) K.x K.b dX7_mark_8 (by decide) (fun c3 => ?_) (fun c3 => ?_)
  · replace h := z_t c3 h
    refine lv_aload_n K.x K.b dX7_mark_51 rfl (lv_at hl 0 rfl) ?_
    obtain ⟨r4, hr5, h⟩ := z_bd_e h
    refine z_Vi K hH hl.1 (c_X7_refuseBad l D y o (.ref o_land) (g_images) (g_kept) (g_text) (g_textLength) (g_above) (g_below) (g_nos) (.int v_fulls) (g_roads) (g_reader) (g_traveller) (g_questions) v_bads r4 hr5) (z_cwV K 0 tw_2_18 tw_2_20 tw_0_0 tw_1_1 tw_2_21 hd_X7_refuseBad ⟨by decide, by decide⟩) [0] [1, 2, 3] rfl (wr := [(o_land_marks, .inr (5, [g_land_marks_ofCrows, .ref o_land_marks_rows, .int v_land_marks_size])), (o_land_marks_rows, .inl (y 0, 30, .inl f_land_marks_rows)), (o_land, .inr (0, [g_land_placeKind, g_land_placeX, g_land_placeY, g_land_places, g_land_crowKind, .int v_land_crows, g_land_now, g_land_past, g_land_pasts, g_land_notes, .ref o_land_marks]))]) rfl rfl rfl (by decide) rfl rfl rfl (As := []) (rest := []) rfl (Nat.le_of_ble_eq_true rfl) ⟨Nat.zero_le _, Nat.zero_le _⟩ dX7_mark_52 (ws' := [(o_land_marks, .inr (5, [g_land_marks_ofCrows, .ref o_land_marks_rows, .int v_land_marks_size])), (o_land_marks_rows, .inl (y 0, 30, .inl f_land_marks_rows)), (o_land, .inr (0, [g_land_placeKind, g_land_placeX, g_land_placeY, g_land_places, g_land_crowKind, .int v_land_crows, g_land_now, g_land_past, g_land_pasts, g_land_notes, .ref o_land_marks])), (o, .inr (6, [.ref o_land, g_images, g_kept, g_text, g_textLength, g_above, g_below, .int r4.2, g_nos, .int v_fulls, g_roads, g_reader, g_traveller, g_questions]))]) rfl (fun H locs hH => ?_)
    have hr9 := Option.some.inj h
    obtain rfl := hr9
    rw [hQ]
    exact z_reti K hr hH [3, 2, 0, 1] (by decide) rfl rfl rfl dX7_mark_55
  · replace h := z_f c3 h
    refine lv_iload_n K.x K.b dX7_mark_11 rfl (lv_at hl 2 rfl) ?_
    refine lv_iconst (v := (0)) K.x K.b dX7_mark_12 (by decide) ?_
    refine lv_bipush (v := (18)) K.x K.b dX7_mark_13 (by decide) ?_
    obtain ⟨r6, hr7, h⟩ := z_bd_e h
    refine z_Si K hH hl.1 (c_X7_within l D y p2 (0 : Int32) (18 : Int32) r6 hr7) (z_cwS K 3 tw_2_15 tw_2_16 tw_1_1 tw_2_17 hd_X7_within ⟨by decide, by decide⟩) rfl (As := [.int p2, .int (0 : Int32), .int (18 : Int32)]) (rest := []) rfl (Nat.le_of_ble_eq_true rfl) ⟨Nat.zero_le _, Nat.zero_le _⟩ dX7_mark_15 (fun H locs hH => ?_)
    refine lv_if_eq (tgt := 51) K.x K.b dX7_mark_18 (by decide) (fun c8 => ?_) (fun c8 => ?_)
    · replace h := z_t c8 h
      refine lv_aload_n K.x K.b dX7_mark_51 rfl (lv_at hl 0 rfl) ?_
      obtain ⟨r9, hr10, h⟩ := z_bd_e h
      refine z_Vi K hH hl.1 (c_X7_refuseBad l D y o (.ref o_land) (g_images) (g_kept) (g_text) (g_textLength) (g_above) (g_below) (g_nos) (.int v_fulls) (g_roads) (g_reader) (g_traveller) (g_questions) v_bads r9 hr10) (z_cwV K 0 tw_2_18 tw_2_20 tw_0_0 tw_1_1 tw_2_21 hd_X7_refuseBad ⟨by decide, by decide⟩) [0] [1, 2, 3] rfl (wr := [(o_land_marks, .inr (5, [g_land_marks_ofCrows, .ref o_land_marks_rows, .int v_land_marks_size])), (o_land_marks_rows, .inl (y 0, 30, .inl f_land_marks_rows)), (o_land, .inr (0, [g_land_placeKind, g_land_placeX, g_land_placeY, g_land_places, g_land_crowKind, .int v_land_crows, g_land_now, g_land_past, g_land_pasts, g_land_notes, .ref o_land_marks]))]) rfl rfl rfl (by decide) rfl rfl rfl (As := []) (rest := []) rfl (Nat.le_of_ble_eq_true rfl) ⟨Nat.zero_le _, Nat.zero_le _⟩ dX7_mark_52 (ws' := [(o_land_marks, .inr (5, [g_land_marks_ofCrows, .ref o_land_marks_rows, .int v_land_marks_size])), (o_land_marks_rows, .inl (y 0, 30, .inl f_land_marks_rows)), (o_land, .inr (0, [g_land_placeKind, g_land_placeX, g_land_placeY, g_land_places, g_land_crowKind, .int v_land_crows, g_land_now, g_land_past, g_land_pasts, g_land_notes, .ref o_land_marks])), (o, .inr (6, [.ref o_land, g_images, g_kept, g_text, g_textLength, g_above, g_below, .int r9.2, g_nos, .int v_fulls, g_roads, g_reader, g_traveller, g_questions]))]) rfl (fun H locs hH => ?_)
      have hr9 := Option.some.inj h
      obtain rfl := hr9
      rw [hQ]
      exact z_reti K hr hH [3, 2, 0, 1] (by decide) rfl rfl rfl dX7_mark_55
    · replace h := z_f c8 h
      refine lv_iload_n K.x K.b dX7_mark_21 rfl (lv_at hl 3 rfl) ?_
      obtain ⟨r11, hr12, h⟩ := z_bd_e h
      refine z_Si K hH hl.1 (c_X7_isDayHour l D y p3 r11 hr12) (z_cwS K 1 tw_3_164 tw_3_165 tw_1_1 tw_3_166 hd_X7_isDayHour ⟨by decide, by decide⟩) rfl (As := [.int p3]) (rest := []) rfl (Nat.le_of_ble_eq_true rfl) ⟨Nat.zero_le _, Nat.zero_le _⟩ dX7_mark_22 (fun H locs hH => ?_)
      refine lv_if_eq (tgt := 51) K.x K.b dX7_mark_25 (by decide) (fun c13 => ?_) (fun c13 => ?_)
      · replace h := z_t c13 h
        refine lv_aload_n K.x K.b dX7_mark_51 rfl (lv_at hl 0 rfl) ?_
        obtain ⟨r14, hr15, h⟩ := z_bd_e h
        refine z_Vi K hH hl.1 (c_X7_refuseBad l D y o (.ref o_land) (g_images) (g_kept) (g_text) (g_textLength) (g_above) (g_below) (g_nos) (.int v_fulls) (g_roads) (g_reader) (g_traveller) (g_questions) v_bads r14 hr15) (z_cwV K 0 tw_2_18 tw_2_20 tw_0_0 tw_1_1 tw_2_21 hd_X7_refuseBad ⟨by decide, by decide⟩) [0] [1, 2, 3] rfl (wr := [(o_land_marks, .inr (5, [g_land_marks_ofCrows, .ref o_land_marks_rows, .int v_land_marks_size])), (o_land_marks_rows, .inl (y 0, 30, .inl f_land_marks_rows)), (o_land, .inr (0, [g_land_placeKind, g_land_placeX, g_land_placeY, g_land_places, g_land_crowKind, .int v_land_crows, g_land_now, g_land_past, g_land_pasts, g_land_notes, .ref o_land_marks]))]) rfl rfl rfl (by decide) rfl rfl rfl (As := []) (rest := []) rfl (Nat.le_of_ble_eq_true rfl) ⟨Nat.zero_le _, Nat.zero_le _⟩ dX7_mark_52 (ws' := [(o_land_marks, .inr (5, [g_land_marks_ofCrows, .ref o_land_marks_rows, .int v_land_marks_size])), (o_land_marks_rows, .inl (y 0, 30, .inl f_land_marks_rows)), (o_land, .inr (0, [g_land_placeKind, g_land_placeX, g_land_placeY, g_land_places, g_land_crowKind, .int v_land_crows, g_land_now, g_land_past, g_land_pasts, g_land_notes, .ref o_land_marks])), (o, .inr (6, [.ref o_land, g_images, g_kept, g_text, g_textLength, g_above, g_below, .int r14.2, g_nos, .int v_fulls, g_roads, g_reader, g_traveller, g_questions]))]) rfl (fun H locs hH => ?_)
        have hr9 := Option.some.inj h
        obtain rfl := hr9
        rw [hQ]
        exact z_reti K hr hH [3, 2, 0, 1] (by decide) rfl rfl rfl dX7_mark_55
      · replace h := z_f c13 h
        refine lv_iload K.x K.b dX7_mark_28 (lv_at hl 4 rfl) ?_
        refine lv_iconst (v := (0)) K.x K.b dX7_mark_30 (by decide) ?_
        refine lv_bipush (v := (99)) K.x K.b dX7_mark_31 (by decide) ?_
        obtain ⟨r16, hr17, h⟩ := z_bd_e h
        refine z_Si K hH hl.1 (c_X7_within l D y p4 (0 : Int32) (99 : Int32) r16 hr17) (z_cwS K 3 tw_2_15 tw_2_16 tw_1_1 tw_2_17 hd_X7_within ⟨by decide, by decide⟩) rfl (As := [.int p4, .int (0 : Int32), .int (99 : Int32)]) (rest := []) rfl (Nat.le_of_ble_eq_true rfl) ⟨Nat.zero_le _, Nat.zero_le _⟩ dX7_mark_33 (fun H locs hH => ?_)
        refine lv_if_eq (tgt := 51) K.x K.b dX7_mark_36 (by decide) (fun c18 => ?_) (fun c18 => ?_)
        · replace h := z_t c18 h
          refine lv_aload_n K.x K.b dX7_mark_51 rfl (lv_at hl 0 rfl) ?_
          obtain ⟨r19, hr20, h⟩ := z_bd_e h
          refine z_Vi K hH hl.1 (c_X7_refuseBad l D y o (.ref o_land) (g_images) (g_kept) (g_text) (g_textLength) (g_above) (g_below) (g_nos) (.int v_fulls) (g_roads) (g_reader) (g_traveller) (g_questions) v_bads r19 hr20) (z_cwV K 0 tw_2_18 tw_2_20 tw_0_0 tw_1_1 tw_2_21 hd_X7_refuseBad ⟨by decide, by decide⟩) [0] [1, 2, 3] rfl (wr := [(o_land_marks, .inr (5, [g_land_marks_ofCrows, .ref o_land_marks_rows, .int v_land_marks_size])), (o_land_marks_rows, .inl (y 0, 30, .inl f_land_marks_rows)), (o_land, .inr (0, [g_land_placeKind, g_land_placeX, g_land_placeY, g_land_places, g_land_crowKind, .int v_land_crows, g_land_now, g_land_past, g_land_pasts, g_land_notes, .ref o_land_marks]))]) rfl rfl rfl (by decide) rfl rfl rfl (As := []) (rest := []) rfl (Nat.le_of_ble_eq_true rfl) ⟨Nat.zero_le _, Nat.zero_le _⟩ dX7_mark_52 (ws' := [(o_land_marks, .inr (5, [g_land_marks_ofCrows, .ref o_land_marks_rows, .int v_land_marks_size])), (o_land_marks_rows, .inl (y 0, 30, .inl f_land_marks_rows)), (o_land, .inr (0, [g_land_placeKind, g_land_placeX, g_land_placeY, g_land_places, g_land_crowKind, .int v_land_crows, g_land_now, g_land_past, g_land_pasts, g_land_notes, .ref o_land_marks])), (o, .inr (6, [.ref o_land, g_images, g_kept, g_text, g_textLength, g_above, g_below, .int r19.2, g_nos, .int v_fulls, g_roads, g_reader, g_traveller, g_questions]))]) rfl (fun H locs hH => ?_)
          have hr9 := Option.some.inj h
          obtain rfl := hr9
          rw [hQ]
          exact z_reti K hr hH [3, 2, 0, 1] (by decide) rfl rfl rfl dX7_mark_55
        · replace h := z_f c18 h
          refine lv_iload K.x K.b dX7_mark_39 (lv_at hl 5 rfl) ?_
          refine lv_iconst (v := (0)) K.x K.b dX7_mark_41 (by decide) ?_
          refine lv_sipush (v := (500)) K.x K.b dX7_mark_42 (by decide) ?_
          obtain ⟨r21, hr22, h⟩ := z_bd_e h
          refine z_Si K hH hl.1 (c_X7_within l D y p5 (0 : Int32) (500 : Int32) r21 hr22) (z_cwS K 3 tw_2_15 tw_2_16 tw_1_1 tw_2_17 hd_X7_within ⟨by decide, by decide⟩) rfl (As := [.int p5, .int (0 : Int32), .int (500 : Int32)]) (rest := []) rfl (Nat.le_of_ble_eq_true rfl) ⟨Nat.zero_le _, Nat.zero_le _⟩ dX7_mark_45 (fun H locs hH => ?_)
          refine lv_if_ne (tgt := 56) K.x K.b dX7_mark_48 (by decide) (fun c23 => ?_) (fun c23 => ?_)
          · replace h := z_f c23 h
            refine lv_aload_n K.x K.b dX7_mark_56 rfl (lv_at hl 0 rfl) ?_
            refine z_get K hH 0 rfl zin_7 rfl 0 (by decide) tw_1_197 (v := .ref o_land) rfl dX7_mark_57 ?_
            refine z_get K hH 3 rfl zin_0 rfl 10 (by decide) tw_1_102 (v := .ref o_land_marks) rfl dX7_mark_60 ?_
            obtain ⟨r24, hr25, h⟩ := z_bd_e h
            refine z_Vi K hH hl.1 (c_X6_isFull l D y o_land_marks (g_land_marks_ofCrows) (.ref o_land_marks_rows) v_land_marks_size r24 hr25) (z_cwV K 0 tw_3_167 tw_3_168 tw_3_169 tw_1_4 tw_3_170 hd_X6_isFull ⟨by decide, by decide⟩) [1] [0, 2, 3] rfl (wr := [(o, .inr (6, [.ref o_land, g_images, g_kept, g_text, g_textLength, g_above, g_below, .int v_bads, g_nos, .int v_fulls, g_roads, g_reader, g_traveller, g_questions])), (o_land_marks_rows, .inl (y 0, 30, .inl f_land_marks_rows)), (o_land, .inr (0, [g_land_placeKind, g_land_placeX, g_land_placeY, g_land_places, g_land_crowKind, .int v_land_crows, g_land_now, g_land_past, g_land_pasts, g_land_notes, .ref o_land_marks]))]) rfl rfl rfl (by decide) rfl rfl rfl (As := []) (rest := []) rfl (Nat.le_of_ble_eq_true rfl) ⟨Nat.zero_le _, Nat.zero_le _⟩ dX7_mark_63 (ws' := [(o, .inr (6, [.ref o_land, g_images, g_kept, g_text, g_textLength, g_above, g_below, .int v_bads, g_nos, .int v_fulls, g_roads, g_reader, g_traveller, g_questions])), (o_land_marks_rows, .inl (y 0, 30, .inl f_land_marks_rows)), (o_land, .inr (0, [g_land_placeKind, g_land_placeX, g_land_placeY, g_land_places, g_land_crowKind, .int v_land_crows, g_land_now, g_land_past, g_land_pasts, g_land_notes, .ref o_land_marks])), (o_land_marks, .inr (5, [g_land_marks_ofCrows, .ref o_land_marks_rows, .int v_land_marks_size]))]) rfl (fun H locs hH => ?_)
            refine lv_if_eq (tgt := 74) K.x K.b dX7_mark_66 (by decide) (fun c26 => ?_) (fun c26 => ?_)
            · replace h := z_t c26 h
              refine lv_aload_n K.x K.b dX7_mark_74 rfl (lv_at hl 0 rfl) ?_
              refine z_get K hH 0 rfl zin_7 rfl 0 (by decide) tw_1_197 (v := .ref o_land) rfl dX7_mark_75 ?_
              refine z_get K hH 2 rfl zin_0 rfl 10 (by decide) tw_1_102 (v := .ref o_land_marks) rfl dX7_mark_78 ?_
              refine lv_iload_n K.x K.b dX7_mark_81 rfl (lv_at hl 1 rfl) ?_
              refine lv_iload_n K.x K.b dX7_mark_82 rfl (lv_at hl 2 rfl) ?_
              refine lv_iload_n K.x K.b dX7_mark_83 rfl (lv_at hl 3 rfl) ?_
              refine lv_iload K.x K.b dX7_mark_84 (lv_at hl 4 rfl) ?_
              refine lv_iload K.x K.b dX7_mark_86 (lv_at hl 5 rfl) ?_
              obtain ⟨r27, hr28, h⟩ := z_bd_e h
              refine z_Vi K hH hl.1 (c_X6_add l D y o_land_marks o_land_marks_rows (g_land_marks_ofCrows) v_land_marks_size f_land_marks_rows p1 p2 p3 p4 p5 r27 hr28) (z_cwV K 5 tw_3_171 tw_3_172 tw_3_173 tw_1_4 tw_3_174 hd_X6_add ⟨by decide, by decide⟩) [3, 1] [0, 2] rfl (wr := [(o, .inr (6, [.ref o_land, g_images, g_kept, g_text, g_textLength, g_above, g_below, .int v_bads, g_nos, .int v_fulls, g_roads, g_reader, g_traveller, g_questions])), (o_land, .inr (0, [g_land_placeKind, g_land_placeX, g_land_placeY, g_land_places, g_land_crowKind, .int v_land_crows, g_land_now, g_land_past, g_land_pasts, g_land_notes, .ref o_land_marks]))]) rfl rfl rfl (by decide) rfl rfl rfl (As := [.int p1, .int p2, .int p3, .int p4, .int p5]) (rest := []) rfl (Nat.le_of_ble_eq_true rfl) ⟨Nat.zero_le _, Nat.zero_le _⟩ dX7_mark_88 (ws' := [(o, .inr (6, [.ref o_land, g_images, g_kept, g_text, g_textLength, g_above, g_below, .int v_bads, g_nos, .int v_fulls, g_roads, g_reader, g_traveller, g_questions])), (o_land, .inr (0, [g_land_placeKind, g_land_placeX, g_land_placeY, g_land_places, g_land_crowKind, .int v_land_crows, g_land_now, g_land_past, g_land_pasts, g_land_notes, .ref o_land_marks])), (o_land_marks, .inr (5, [g_land_marks_ofCrows, .ref o_land_marks_rows, .int r27.2.1])), (o_land_marks_rows, .inl (y 0, 30, .inl r27.2.2))]) rfl (fun H locs hH => ?_)
              have hr9 := Option.some.inj h
              obtain rfl := hr9
              rw [hQ]
              exact z_reti K hr hH [0, 1, 2, 3] (by decide) rfl rfl rfl dX7_mark_91
            · replace h := z_f c26 h
              refine lv_aload_n K.x K.b dX7_mark_69 rfl (lv_at hl 0 rfl) ?_
              obtain ⟨r29, hr30, h⟩ := z_bd_e h
              refine z_Vi K hH hl.1 (c_X7_refuseFull l D y o (.ref o_land) (g_images) (g_kept) (g_text) (g_textLength) (g_above) (g_below) (.int v_bads) (g_nos) (g_roads) (g_reader) (g_traveller) (g_questions) v_fulls r29 hr30) (z_cwV K 0 tw_2_22 tw_2_24 tw_0_1 tw_1_1 tw_2_25 hd_X7_refuseFull ⟨by decide, by decide⟩) [0] [1, 2, 3] rfl (wr := [(o_land_marks_rows, .inl (y 0, 30, .inl f_land_marks_rows)), (o_land, .inr (0, [g_land_placeKind, g_land_placeX, g_land_placeY, g_land_places, g_land_crowKind, .int v_land_crows, g_land_now, g_land_past, g_land_pasts, g_land_notes, .ref o_land_marks])), (o_land_marks, .inr (5, [g_land_marks_ofCrows, .ref o_land_marks_rows, .int v_land_marks_size]))]) rfl rfl rfl (by decide) rfl rfl rfl (As := []) (rest := []) rfl (Nat.le_of_ble_eq_true rfl) ⟨Nat.zero_le _, Nat.zero_le _⟩ dX7_mark_70 (ws' := [(o_land_marks_rows, .inl (y 0, 30, .inl f_land_marks_rows)), (o_land, .inr (0, [g_land_placeKind, g_land_placeX, g_land_placeY, g_land_places, g_land_crowKind, .int v_land_crows, g_land_now, g_land_past, g_land_pasts, g_land_notes, .ref o_land_marks])), (o_land_marks, .inr (5, [g_land_marks_ofCrows, .ref o_land_marks_rows, .int v_land_marks_size])), (o, .inr (6, [.ref o_land, g_images, g_kept, g_text, g_textLength, g_above, g_below, .int v_bads, g_nos, .int r29.2, g_roads, g_reader, g_traveller, g_questions]))]) rfl (fun H locs hH => ?_)
              have hr9 := Option.some.inj h
              obtain rfl := hr9
              rw [hQ]
              exact z_reti K hr hH [3, 1, 2, 0] (by decide) rfl rfl rfl dX7_mark_73
          · replace h := z_t c23 h
            refine lv_aload_n K.x K.b dX7_mark_51 rfl (lv_at hl 0 rfl) ?_
            obtain ⟨r31, hr32, h⟩ := z_bd_e h
            refine z_Vi K hH hl.1 (c_X7_refuseBad l D y o (.ref o_land) (g_images) (g_kept) (g_text) (g_textLength) (g_above) (g_below) (g_nos) (.int v_fulls) (g_roads) (g_reader) (g_traveller) (g_questions) v_bads r31 hr32) (z_cwV K 0 tw_2_18 tw_2_20 tw_0_0 tw_1_1 tw_2_21 hd_X7_refuseBad ⟨by decide, by decide⟩) [0] [1, 2, 3] rfl (wr := [(o_land_marks, .inr (5, [g_land_marks_ofCrows, .ref o_land_marks_rows, .int v_land_marks_size])), (o_land_marks_rows, .inl (y 0, 30, .inl f_land_marks_rows)), (o_land, .inr (0, [g_land_placeKind, g_land_placeX, g_land_placeY, g_land_places, g_land_crowKind, .int v_land_crows, g_land_now, g_land_past, g_land_pasts, g_land_notes, .ref o_land_marks]))]) rfl rfl rfl (by decide) rfl rfl rfl (As := []) (rest := []) rfl (Nat.le_of_ble_eq_true rfl) ⟨Nat.zero_le _, Nat.zero_le _⟩ dX7_mark_52 (ws' := [(o_land_marks, .inr (5, [g_land_marks_ofCrows, .ref o_land_marks_rows, .int v_land_marks_size])), (o_land_marks_rows, .inl (y 0, 30, .inl f_land_marks_rows)), (o_land, .inr (0, [g_land_placeKind, g_land_placeX, g_land_placeY, g_land_places, g_land_crowKind, .int v_land_crows, g_land_now, g_land_past, g_land_pasts, g_land_notes, .ref o_land_marks])), (o, .inr (6, [.ref o_land, g_images, g_kept, g_text, g_textLength, g_above, g_below, .int r31.2, g_nos, .int v_fulls, g_roads, g_reader, g_traveller, g_questions]))]) rfl (fun H locs hH => ?_)
            have hr9 := Option.some.inj h
            obtain rfl := hr9
            rw [hQ]
            exact z_reti K hr hH [3, 2, 0, 1] (by decide) rfl rfl rfl dX7_mark_55
noncomputable def p_X7_is (v_bads : Int32) (v_land_places : Int32) (v_land_notes_ofCrows : Int32) (v_land_notes_size : Int32) (f_land_notes_rows : (Nat → Int32)) (p1 : Int32) : Option (Int32 × Int32) :=
  z_bd (p_X0_hasPlace v_land_places p1) fun r1 =>
  if (r1 = 0) then
  (z_bd (p_X7_refuseBad v_bads) fun r6 =>
  some (r6.1, r6.2)) else
  (z_bd (p_X6_kindsLeft v_land_notes_ofCrows v_land_notes_size f_land_notes_rows p1) fun r4 =>
  some (r4, v_bads))
theorem hd_X7_is : yX7_is.cls = RX7 ∧ yX7_is.cls ≠ "java/lang/invoke/MethodHandle" ∧ yX7_is.cls ≠ "java/lang/invoke/VarHandle" ∧ (parseMethodDescriptor yX7_is.desc).map (fun d => d.parameters.length) = some 1 := by decide +kernel
set_option maxHeartbeats 4000000 in
set_option maxRecDepth 100000 in
theorem c_X7_is (l : Launch) (D : va_G) (y : Nat → ClassId) (o o_land o_land_notes o_land_notes_rows : Nat) (g_images g_kept g_text g_textLength g_above g_below g_nos g_fulls g_roads g_reader g_traveller g_questions g_land_placeKind g_land_placeX g_land_placeY g_land_crowKind g_land_crows g_land_now g_land_past g_land_pasts g_land_marks : Value) (v_bads : Int32) (v_land_places : Int32) (v_land_notes_ofCrows : Int32) (v_land_notes_size : Int32) (f_land_notes_rows : (Nat → Int32)) (p1 : Int32) (r : Int32 × Int32) (h : p_X7_is v_bads v_land_places v_land_notes_ofCrows v_land_notes_size f_land_notes_rows p1 = some r) : z_MI l yX7_is cX7_is 2 (some .int) 4 96 D y [.ref o, .int p1] [(o, .inr (6, [.ref o_land, g_images, g_kept, g_text, g_textLength, g_above, g_below, .int v_bads, g_nos, g_fulls, g_roads, g_reader, g_traveller, g_questions])), (o_land, .inr (0, [g_land_placeKind, g_land_placeX, g_land_placeY, .int v_land_places, g_land_crowKind, g_land_crows, g_land_now, g_land_past, g_land_pasts, .ref o_land_notes, g_land_marks])), (o_land_notes, .inr (5, [.int v_land_notes_ofCrows, .ref o_land_notes_rows, .int v_land_notes_size])), (o_land_notes_rows, .inl (y 0, 30, .inl f_land_notes_rows))] r.1 [(o, .inr (6, [.ref o_land, g_images, g_kept, g_text, g_textLength, g_above, g_below, .int r.2, g_nos, g_fulls, g_roads, g_reader, g_traveller, g_questions])), (o_land, .inr (0, [g_land_placeKind, g_land_placeX, g_land_placeY, .int v_land_places, g_land_crowKind, g_land_crows, g_land_now, g_land_past, g_land_pasts, .ref o_land_notes, g_land_marks])), (o_land_notes, .inr (5, [.int v_land_notes_ofCrows, .ref o_land_notes_rows, .int v_land_notes_size])), (o_land_notes_rows, .inl (y 0, 30, .inl f_land_notes_rows))] := by
  unfold p_X7_is at h
  refine z_enI (by decide) (Nat.le_of_ble_eq_true rfl) ?_
  intro p e s m args below meth c A ls hr K hH hl
  obtain ⟨Q, hQ⟩ : ∃ Q, Q = MQ below (z_Qi D y A r.1 [(o, .inr (6, [.ref o_land, g_images, g_kept, g_text, g_textLength, g_above, g_below, .int r.2, g_nos, g_fulls, g_roads, g_reader, g_traveller, g_questions])), (o_land, .inr (0, [g_land_placeKind, g_land_placeX, g_land_placeY, .int v_land_places, g_land_crowKind, g_land_crows, g_land_now, g_land_past, g_land_pasts, .ref o_land_notes, g_land_marks])), (o_land_notes, .inr (5, [.int v_land_notes_ofCrows, .ref o_land_notes_rows, .int v_land_notes_size])), (o_land_notes_rows, .inl (y 0, 30, .inl f_land_notes_rows))]) args s 0 0 A := ⟨_, rfl⟩
  rw [← hQ]
  have hl : lv_has ls 2 [(0, .ref o), (1, .int p1)] := hl
  refine lv_aload_n K.x K.b dX7_is_0 rfl (lv_at hl 0 rfl) ?_
  refine z_get K hH 0 rfl zin_7 rfl 0 (by decide) tw_1_197 (v := .ref o_land) rfl dX7_is_1 ?_
  refine lv_iload_n K.x K.b dX7_is_4 rfl (lv_at hl 1 rfl) ?_
  obtain ⟨r1, hr2, h⟩ := z_bd_e h
  refine z_Vi K hH hl.1 (c_X0_hasPlace l D y o_land (g_land_placeKind) (g_land_placeX) (g_land_placeY) (g_land_crowKind) (g_land_crows) (g_land_now) (g_land_past) (g_land_pasts) (.ref o_land_notes) (g_land_marks) v_land_places p1 r1 hr2) (z_cwV K 1 tw_2_34 tw_2_35 tw_2_36 tw_1_2 tw_2_37 hd_X0_hasPlace ⟨by decide, by decide⟩) [1] [0, 2, 3] rfl (wr := [(o, .inr (6, [.ref o_land, g_images, g_kept, g_text, g_textLength, g_above, g_below, .int v_bads, g_nos, g_fulls, g_roads, g_reader, g_traveller, g_questions])), (o_land_notes, .inr (5, [.int v_land_notes_ofCrows, .ref o_land_notes_rows, .int v_land_notes_size])), (o_land_notes_rows, .inl (y 0, 30, .inl f_land_notes_rows))]) rfl rfl rfl (by decide) rfl rfl rfl (As := [.int p1]) (rest := []) rfl (Nat.le_of_ble_eq_true rfl) ⟨Nat.zero_le _, Nat.zero_le _⟩ dX7_is_5 (ws' := [(o, .inr (6, [.ref o_land, g_images, g_kept, g_text, g_textLength, g_above, g_below, .int v_bads, g_nos, g_fulls, g_roads, g_reader, g_traveller, g_questions])), (o_land_notes, .inr (5, [.int v_land_notes_ofCrows, .ref o_land_notes_rows, .int v_land_notes_size])), (o_land_notes_rows, .inl (y 0, 30, .inl f_land_notes_rows)), (o_land, .inr (0, [g_land_placeKind, g_land_placeX, g_land_placeY, .int v_land_places, g_land_crowKind, g_land_crows, g_land_now, g_land_past, g_land_pasts, .ref o_land_notes, g_land_marks]))]) rfl (fun H locs hH => ?_)
  refine lv_if_ne (tgt := 16) K.x K.b dX7_is_8 (by decide) (fun c3 => ?_) (fun c3 => ?_)
  · replace h := z_f c3 h
    refine lv_aload_n K.x K.b dX7_is_16 rfl (lv_at hl 0 rfl) ?_
    refine z_get K hH 0 rfl zin_7 rfl 0 (by decide) tw_1_197 (v := .ref o_land) rfl dX7_is_17 ?_
    refine z_get K hH 3 rfl zin_0 rfl 9 (by decide) tw_1_100 (v := .ref o_land_notes) rfl dX7_is_20 ?_
    refine lv_iload_n K.x K.b dX7_is_23 rfl (lv_at hl 1 rfl) ?_
    obtain ⟨r4, hr5, h⟩ := z_bd_e h
    refine z_Vi K hH hl.1 (c_X6_kindsLeft l D y o_land_notes o_land_notes_rows v_land_notes_ofCrows v_land_notes_size f_land_notes_rows p1 r4 hr5) (z_cwV K 1 tw_3_196 tw_3_197 tw_3_198 tw_1_4 tw_3_199 hd_X6_kindsLeft ⟨by decide, by decide⟩) [1, 2] [0, 3] rfl (wr := [(o, .inr (6, [.ref o_land, g_images, g_kept, g_text, g_textLength, g_above, g_below, .int v_bads, g_nos, g_fulls, g_roads, g_reader, g_traveller, g_questions])), (o_land, .inr (0, [g_land_placeKind, g_land_placeX, g_land_placeY, .int v_land_places, g_land_crowKind, g_land_crows, g_land_now, g_land_past, g_land_pasts, .ref o_land_notes, g_land_marks]))]) rfl rfl rfl (by decide) rfl rfl rfl (As := [.int p1]) (rest := []) rfl (Nat.le_of_ble_eq_true rfl) ⟨Nat.zero_le _, Nat.zero_le _⟩ dX7_is_24 (ws' := [(o, .inr (6, [.ref o_land, g_images, g_kept, g_text, g_textLength, g_above, g_below, .int v_bads, g_nos, g_fulls, g_roads, g_reader, g_traveller, g_questions])), (o_land, .inr (0, [g_land_placeKind, g_land_placeX, g_land_placeY, .int v_land_places, g_land_crowKind, g_land_crows, g_land_now, g_land_past, g_land_pasts, .ref o_land_notes, g_land_marks])), (o_land_notes, .inr (5, [.int v_land_notes_ofCrows, .ref o_land_notes_rows, .int v_land_notes_size])), (o_land_notes_rows, .inl (y 0, 30, .inl f_land_notes_rows))]) rfl (fun H locs hH => ?_)
    have hr9 := Option.some.inj h
    obtain rfl := hr9
    rw [hQ]
    exact z_reti K hr hH [0, 1, 2, 3] (by decide) rfl rfl rfl dX7_is_27
  · replace h := z_t c3 h
    refine lv_aload_n K.x K.b dX7_is_11 rfl (lv_at hl 0 rfl) ?_
    obtain ⟨r6, hr7, h⟩ := z_bd_e h
    refine z_Vi K hH hl.1 (c_X7_refuseBad l D y o (.ref o_land) (g_images) (g_kept) (g_text) (g_textLength) (g_above) (g_below) (g_nos) (g_fulls) (g_roads) (g_reader) (g_traveller) (g_questions) v_bads r6 hr7) (z_cwV K 0 tw_2_18 tw_2_20 tw_0_0 tw_1_1 tw_2_21 hd_X7_refuseBad ⟨by decide, by decide⟩) [0] [1, 2, 3] rfl (wr := [(o_land_notes, .inr (5, [.int v_land_notes_ofCrows, .ref o_land_notes_rows, .int v_land_notes_size])), (o_land_notes_rows, .inl (y 0, 30, .inl f_land_notes_rows)), (o_land, .inr (0, [g_land_placeKind, g_land_placeX, g_land_placeY, .int v_land_places, g_land_crowKind, g_land_crows, g_land_now, g_land_past, g_land_pasts, .ref o_land_notes, g_land_marks]))]) rfl rfl rfl (by decide) rfl rfl rfl (As := []) (rest := []) rfl (Nat.le_of_ble_eq_true rfl) ⟨Nat.zero_le _, Nat.zero_le _⟩ dX7_is_12 (ws' := [(o_land_notes, .inr (5, [.int v_land_notes_ofCrows, .ref o_land_notes_rows, .int v_land_notes_size])), (o_land_notes_rows, .inl (y 0, 30, .inl f_land_notes_rows)), (o_land, .inr (0, [g_land_placeKind, g_land_placeX, g_land_placeY, .int v_land_places, g_land_crowKind, g_land_crows, g_land_now, g_land_past, g_land_pasts, .ref o_land_notes, g_land_marks])), (o, .inr (6, [.ref o_land, g_images, g_kept, g_text, g_textLength, g_above, g_below, .int r6.2, g_nos, g_fulls, g_roads, g_reader, g_traveller, g_questions]))]) rfl (fun H locs hH => ?_)
    have hr9 := Option.some.inj h
    obtain rfl := hr9
    rw [hQ]
    exact z_reti K hr hH [3, 2, 0, 1] (by decide) rfl rfl rfl dX7_is_15
noncomputable def p_X7_look (v_bads : Int32) (v_land_places : Int32) (v_land_notes_ofCrows : Int32) (v_land_notes_size : Int32) (f_land_notes_rows : (Nat → Int32)) (f_questions_values : (Nat → Int32)) (p1 : Int32) : Option (Int32 × Int32 × (Nat → Int32)) :=
  z_bd (p_X0_hasPlace v_land_places p1) fun r1 =>
  if (r1 = 0) then
  (z_bd (p_X7_refuseBad v_bads) fun r8 =>
  some (r8.1, r8.2, f_questions_values)) else
  (z_bd (p_X6_kindsLeft v_land_notes_ofCrows v_land_notes_size f_land_notes_rows p1) fun r4 =>
  z_bd (p_X3_best f_questions_values (0 : Int32) r4 (60 : Int32) (0 : Int32)) fun r6 =>
  some (r6.1, v_bads, r6.2))
theorem hd_X7_look : yX7_look.cls = RX7 ∧ yX7_look.cls ≠ "java/lang/invoke/MethodHandle" ∧ yX7_look.cls ≠ "java/lang/invoke/VarHandle" ∧ (parseMethodDescriptor yX7_look.desc).map (fun d => d.parameters.length) = some 1 := by decide +kernel
set_option maxHeartbeats 4000000 in
set_option maxRecDepth 100000 in
theorem c_X7_look (l : Launch) (D : va_G) (y : Nat → ClassId) (o o_land o_land_notes o_land_notes_rows o_questions o_questions_values : Nat) (g_images g_kept g_text g_textLength g_above g_below g_nos g_fulls g_roads g_reader g_traveller g_land_placeKind g_land_placeX g_land_placeY g_land_crowKind g_land_crows g_land_now g_land_past g_land_pasts g_land_marks : Value) (v_bads : Int32) (v_land_places : Int32) (v_land_notes_ofCrows : Int32) (v_land_notes_size : Int32) (f_land_notes_rows : (Nat → Int32)) (f_questions_values : (Nat → Int32)) (p1 : Int32) (r : Int32 × Int32 × (Nat → Int32)) (h : p_X7_look v_bads v_land_places v_land_notes_ofCrows v_land_notes_size f_land_notes_rows f_questions_values p1 = some r) : z_MI l yX7_look cX7_look 2 (some .int) 4 96 D y [.ref o, .int p1] [(o, .inr (6, [.ref o_land, g_images, g_kept, g_text, g_textLength, g_above, g_below, .int v_bads, g_nos, g_fulls, g_roads, g_reader, g_traveller, .ref o_questions])), (o_land, .inr (0, [g_land_placeKind, g_land_placeX, g_land_placeY, .int v_land_places, g_land_crowKind, g_land_crows, g_land_now, g_land_past, g_land_pasts, .ref o_land_notes, g_land_marks])), (o_land_notes, .inr (5, [.int v_land_notes_ofCrows, .ref o_land_notes_rows, .int v_land_notes_size])), (o_land_notes_rows, .inl (y 0, 30, .inl f_land_notes_rows)), (o_questions, .inr (2, [.ref o_questions_values])), (o_questions_values, .inl (y 0, 6, .inl f_questions_values))] r.1 [(o, .inr (6, [.ref o_land, g_images, g_kept, g_text, g_textLength, g_above, g_below, .int r.2.1, g_nos, g_fulls, g_roads, g_reader, g_traveller, .ref o_questions])), (o_land, .inr (0, [g_land_placeKind, g_land_placeX, g_land_placeY, .int v_land_places, g_land_crowKind, g_land_crows, g_land_now, g_land_past, g_land_pasts, .ref o_land_notes, g_land_marks])), (o_land_notes, .inr (5, [.int v_land_notes_ofCrows, .ref o_land_notes_rows, .int v_land_notes_size])), (o_land_notes_rows, .inl (y 0, 30, .inl f_land_notes_rows)), (o_questions, .inr (2, [.ref o_questions_values])), (o_questions_values, .inl (y 0, 6, .inl r.2.2))] := by
  unfold p_X7_look at h
  refine z_enI (by decide) (Nat.le_of_ble_eq_true rfl) ?_
  intro p e s m args below meth c A ls hr K hH hl
  obtain ⟨Q, hQ⟩ : ∃ Q, Q = MQ below (z_Qi D y A r.1 [(o, .inr (6, [.ref o_land, g_images, g_kept, g_text, g_textLength, g_above, g_below, .int r.2.1, g_nos, g_fulls, g_roads, g_reader, g_traveller, .ref o_questions])), (o_land, .inr (0, [g_land_placeKind, g_land_placeX, g_land_placeY, .int v_land_places, g_land_crowKind, g_land_crows, g_land_now, g_land_past, g_land_pasts, .ref o_land_notes, g_land_marks])), (o_land_notes, .inr (5, [.int v_land_notes_ofCrows, .ref o_land_notes_rows, .int v_land_notes_size])), (o_land_notes_rows, .inl (y 0, 30, .inl f_land_notes_rows)), (o_questions, .inr (2, [.ref o_questions_values])), (o_questions_values, .inl (y 0, 6, .inl r.2.2))]) args s 0 0 A := ⟨_, rfl⟩
  rw [← hQ]
  have hl : lv_has ls 2 [(0, .ref o), (1, .int p1)] := hl
  refine lv_aload_n K.x K.b dX7_look_0 rfl (lv_at hl 0 rfl) ?_
  refine z_get K hH 0 rfl zin_7 rfl 0 (by decide) tw_1_197 (v := .ref o_land) rfl dX7_look_1 ?_
  refine lv_iload_n K.x K.b dX7_look_4 rfl (lv_at hl 1 rfl) ?_
  obtain ⟨r1, hr2, h⟩ := z_bd_e h
  refine z_Vi K hH hl.1 (c_X0_hasPlace l D y o_land (g_land_placeKind) (g_land_placeX) (g_land_placeY) (g_land_crowKind) (g_land_crows) (g_land_now) (g_land_past) (g_land_pasts) (.ref o_land_notes) (g_land_marks) v_land_places p1 r1 hr2) (z_cwV K 1 tw_2_34 tw_2_35 tw_2_36 tw_1_2 tw_2_37 hd_X0_hasPlace ⟨by decide, by decide⟩) [1] [0, 2, 3, 4, 5] rfl (wr := [(o, .inr (6, [.ref o_land, g_images, g_kept, g_text, g_textLength, g_above, g_below, .int v_bads, g_nos, g_fulls, g_roads, g_reader, g_traveller, .ref o_questions])), (o_land_notes, .inr (5, [.int v_land_notes_ofCrows, .ref o_land_notes_rows, .int v_land_notes_size])), (o_land_notes_rows, .inl (y 0, 30, .inl f_land_notes_rows)), (o_questions, .inr (2, [.ref o_questions_values])), (o_questions_values, .inl (y 0, 6, .inl f_questions_values))]) rfl rfl rfl (by decide) rfl rfl rfl (As := [.int p1]) (rest := []) rfl (Nat.le_of_ble_eq_true rfl) ⟨Nat.zero_le _, Nat.zero_le _⟩ dX7_look_5 (ws' := [(o, .inr (6, [.ref o_land, g_images, g_kept, g_text, g_textLength, g_above, g_below, .int v_bads, g_nos, g_fulls, g_roads, g_reader, g_traveller, .ref o_questions])), (o_land_notes, .inr (5, [.int v_land_notes_ofCrows, .ref o_land_notes_rows, .int v_land_notes_size])), (o_land_notes_rows, .inl (y 0, 30, .inl f_land_notes_rows)), (o_questions, .inr (2, [.ref o_questions_values])), (o_questions_values, .inl (y 0, 6, .inl f_questions_values)), (o_land, .inr (0, [g_land_placeKind, g_land_placeX, g_land_placeY, .int v_land_places, g_land_crowKind, g_land_crows, g_land_now, g_land_past, g_land_pasts, .ref o_land_notes, g_land_marks]))]) rfl (fun H locs hH => ?_)
  refine lv_if_ne (tgt := 16) K.x K.b dX7_look_8 (by decide) (fun c3 => ?_) (fun c3 => ?_)
  · replace h := z_f c3 h
    refine lv_aload_n K.x K.b dX7_look_16 rfl (lv_at hl 0 rfl) ?_
    refine z_get K hH 0 rfl zin_7 rfl 13 (by decide) tw_1_210 (v := .ref o_questions) rfl dX7_look_17 ?_
    refine lv_iconst (v := (0)) K.x K.b dX7_look_20 (by decide) ?_
    refine lv_aload_n K.x K.b dX7_look_21 rfl (lv_at hl 0 rfl) ?_
    refine z_get K hH 0 rfl zin_7 rfl 0 (by decide) tw_1_197 (v := .ref o_land) rfl dX7_look_22 ?_
    refine z_get K hH 5 rfl zin_0 rfl 9 (by decide) tw_1_100 (v := .ref o_land_notes) rfl dX7_look_25 ?_
    refine lv_iload_n K.x K.b dX7_look_28 rfl (lv_at hl 1 rfl) ?_
    obtain ⟨r4, hr5, h⟩ := z_bd_e h
    refine z_Vi K hH hl.1 (c_X6_kindsLeft l D y o_land_notes o_land_notes_rows v_land_notes_ofCrows v_land_notes_size f_land_notes_rows p1 r4 hr5) (z_cwV K 1 tw_3_196 tw_3_197 tw_3_198 tw_1_4 tw_3_199 hd_X6_kindsLeft ⟨by decide, by decide⟩) [1, 2] [0, 3, 4, 5] rfl (wr := [(o, .inr (6, [.ref o_land, g_images, g_kept, g_text, g_textLength, g_above, g_below, .int v_bads, g_nos, g_fulls, g_roads, g_reader, g_traveller, .ref o_questions])), (o_questions, .inr (2, [.ref o_questions_values])), (o_questions_values, .inl (y 0, 6, .inl f_questions_values)), (o_land, .inr (0, [g_land_placeKind, g_land_placeX, g_land_placeY, .int v_land_places, g_land_crowKind, g_land_crows, g_land_now, g_land_past, g_land_pasts, .ref o_land_notes, g_land_marks]))]) rfl rfl rfl (by decide) rfl rfl rfl (As := [.int p1]) (rest := [.int (0 : Int32), .ref o_questions]) rfl (Nat.le_of_ble_eq_true rfl) ⟨Nat.zero_le _, Nat.zero_le _⟩ dX7_look_29 (ws' := [(o, .inr (6, [.ref o_land, g_images, g_kept, g_text, g_textLength, g_above, g_below, .int v_bads, g_nos, g_fulls, g_roads, g_reader, g_traveller, .ref o_questions])), (o_questions, .inr (2, [.ref o_questions_values])), (o_questions_values, .inl (y 0, 6, .inl f_questions_values)), (o_land, .inr (0, [g_land_placeKind, g_land_placeX, g_land_placeY, .int v_land_places, g_land_crowKind, g_land_crows, g_land_now, g_land_past, g_land_pasts, .ref o_land_notes, g_land_marks])), (o_land_notes, .inr (5, [.int v_land_notes_ofCrows, .ref o_land_notes_rows, .int v_land_notes_size])), (o_land_notes_rows, .inl (y 0, 30, .inl f_land_notes_rows))]) rfl (fun H locs hH => ?_)
    refine lv_bipush (v := (60)) K.x K.b dX7_look_32 (by decide) ?_
    refine lv_iconst (v := (0)) K.x K.b dX7_look_34 (by decide) ?_
    obtain ⟨r6, hr7, h⟩ := z_bd_e h
    refine z_Vi K hH hl.1 (c_X3_best l D y o_questions o_questions_values f_questions_values (0 : Int32) r4 (60 : Int32) (0 : Int32) r6 hr7) (z_cwV K 4 tw_3_213 tw_3_214 tw_3_215 tw_1_7 tw_3_216 hd_X3_best ⟨by decide, by decide⟩) [1, 2] [0, 3, 4, 5] rfl (wr := [(o, .inr (6, [.ref o_land, g_images, g_kept, g_text, g_textLength, g_above, g_below, .int v_bads, g_nos, g_fulls, g_roads, g_reader, g_traveller, .ref o_questions])), (o_land, .inr (0, [g_land_placeKind, g_land_placeX, g_land_placeY, .int v_land_places, g_land_crowKind, g_land_crows, g_land_now, g_land_past, g_land_pasts, .ref o_land_notes, g_land_marks])), (o_land_notes, .inr (5, [.int v_land_notes_ofCrows, .ref o_land_notes_rows, .int v_land_notes_size])), (o_land_notes_rows, .inl (y 0, 30, .inl f_land_notes_rows))]) rfl rfl rfl (by decide) rfl rfl rfl (As := [.int (0 : Int32), .int r4, .int (60 : Int32), .int (0 : Int32)]) (rest := []) rfl (Nat.le_of_ble_eq_true rfl) ⟨Nat.zero_le _, Nat.zero_le _⟩ dX7_look_35 (ws' := [(o, .inr (6, [.ref o_land, g_images, g_kept, g_text, g_textLength, g_above, g_below, .int v_bads, g_nos, g_fulls, g_roads, g_reader, g_traveller, .ref o_questions])), (o_land, .inr (0, [g_land_placeKind, g_land_placeX, g_land_placeY, .int v_land_places, g_land_crowKind, g_land_crows, g_land_now, g_land_past, g_land_pasts, .ref o_land_notes, g_land_marks])), (o_land_notes, .inr (5, [.int v_land_notes_ofCrows, .ref o_land_notes_rows, .int v_land_notes_size])), (o_land_notes_rows, .inl (y 0, 30, .inl f_land_notes_rows)), (o_questions, .inr (2, [.ref o_questions_values])), (o_questions_values, .inl (y 0, 6, .inl r6.2))]) rfl (fun H locs hH => ?_)
    have hr9 := Option.some.inj h
    obtain rfl := hr9
    rw [hQ]
    exact z_reti K hr hH [0, 1, 2, 3, 4, 5] (by decide) rfl rfl rfl dX7_look_38
  · replace h := z_t c3 h
    refine lv_aload_n K.x K.b dX7_look_11 rfl (lv_at hl 0 rfl) ?_
    obtain ⟨r8, hr9, h⟩ := z_bd_e h
    refine z_Vi K hH hl.1 (c_X7_refuseBad l D y o (.ref o_land) (g_images) (g_kept) (g_text) (g_textLength) (g_above) (g_below) (g_nos) (g_fulls) (g_roads) (g_reader) (g_traveller) (.ref o_questions) v_bads r8 hr9) (z_cwV K 0 tw_2_18 tw_2_20 tw_0_0 tw_1_1 tw_2_21 hd_X7_refuseBad ⟨by decide, by decide⟩) [0] [1, 2, 3, 4, 5] rfl (wr := [(o_land_notes, .inr (5, [.int v_land_notes_ofCrows, .ref o_land_notes_rows, .int v_land_notes_size])), (o_land_notes_rows, .inl (y 0, 30, .inl f_land_notes_rows)), (o_questions, .inr (2, [.ref o_questions_values])), (o_questions_values, .inl (y 0, 6, .inl f_questions_values)), (o_land, .inr (0, [g_land_placeKind, g_land_placeX, g_land_placeY, .int v_land_places, g_land_crowKind, g_land_crows, g_land_now, g_land_past, g_land_pasts, .ref o_land_notes, g_land_marks]))]) rfl rfl rfl (by decide) rfl rfl rfl (As := []) (rest := []) rfl (Nat.le_of_ble_eq_true rfl) ⟨Nat.zero_le _, Nat.zero_le _⟩ dX7_look_12 (ws' := [(o_land_notes, .inr (5, [.int v_land_notes_ofCrows, .ref o_land_notes_rows, .int v_land_notes_size])), (o_land_notes_rows, .inl (y 0, 30, .inl f_land_notes_rows)), (o_questions, .inr (2, [.ref o_questions_values])), (o_questions_values, .inl (y 0, 6, .inl f_questions_values)), (o_land, .inr (0, [g_land_placeKind, g_land_placeX, g_land_placeY, .int v_land_places, g_land_crowKind, g_land_crows, g_land_now, g_land_past, g_land_pasts, .ref o_land_notes, g_land_marks])), (o, .inr (6, [.ref o_land, g_images, g_kept, g_text, g_textLength, g_above, g_below, .int r8.2, g_nos, g_fulls, g_roads, g_reader, g_traveller, .ref o_questions]))]) rfl (fun H locs hH => ?_)
    have hr9 := Option.some.inj h
    obtain rfl := hr9
    rw [hQ]
    exact z_reti K hr hH [5, 4, 0, 1, 2, 3] (by decide) rfl rfl rfl dX7_look_15
noncomputable def p_X7_kinds (v_bads : Int32) (v_land_crows : Int32) (v_land_marks_ofCrows : Int32) (v_land_marks_size : Int32) (f_land_marks_rows : (Nat → Int32)) (p1 : Int32) : Option (Int32 × Int32) :=
  z_bd (p_X0_hasCrow v_land_crows p1) fun r1 =>
  if (r1 = 0) then
  (z_bd (p_X7_refuseBad v_bads) fun r6 =>
  some (r6.1, r6.2)) else
  (z_bd (p_X6_kindsLeft v_land_marks_ofCrows v_land_marks_size f_land_marks_rows p1) fun r4 =>
  some (r4, v_bads))
theorem hd_X7_kinds : yX7_kinds.cls = RX7 ∧ yX7_kinds.cls ≠ "java/lang/invoke/MethodHandle" ∧ yX7_kinds.cls ≠ "java/lang/invoke/VarHandle" ∧ (parseMethodDescriptor yX7_kinds.desc).map (fun d => d.parameters.length) = some 1 := by decide +kernel
set_option maxHeartbeats 4000000 in
set_option maxRecDepth 100000 in
theorem c_X7_kinds (l : Launch) (D : va_G) (y : Nat → ClassId) (o o_land o_land_marks o_land_marks_rows : Nat) (g_images g_kept g_text g_textLength g_above g_below g_nos g_fulls g_roads g_reader g_traveller g_questions g_land_placeKind g_land_placeX g_land_placeY g_land_places g_land_crowKind g_land_now g_land_past g_land_pasts g_land_notes : Value) (v_bads : Int32) (v_land_crows : Int32) (v_land_marks_ofCrows : Int32) (v_land_marks_size : Int32) (f_land_marks_rows : (Nat → Int32)) (p1 : Int32) (r : Int32 × Int32) (h : p_X7_kinds v_bads v_land_crows v_land_marks_ofCrows v_land_marks_size f_land_marks_rows p1 = some r) : z_MI l yX7_kinds cX7_kinds 2 (some .int) 4 96 D y [.ref o, .int p1] [(o, .inr (6, [.ref o_land, g_images, g_kept, g_text, g_textLength, g_above, g_below, .int v_bads, g_nos, g_fulls, g_roads, g_reader, g_traveller, g_questions])), (o_land, .inr (0, [g_land_placeKind, g_land_placeX, g_land_placeY, g_land_places, g_land_crowKind, .int v_land_crows, g_land_now, g_land_past, g_land_pasts, g_land_notes, .ref o_land_marks])), (o_land_marks, .inr (5, [.int v_land_marks_ofCrows, .ref o_land_marks_rows, .int v_land_marks_size])), (o_land_marks_rows, .inl (y 0, 30, .inl f_land_marks_rows))] r.1 [(o, .inr (6, [.ref o_land, g_images, g_kept, g_text, g_textLength, g_above, g_below, .int r.2, g_nos, g_fulls, g_roads, g_reader, g_traveller, g_questions])), (o_land, .inr (0, [g_land_placeKind, g_land_placeX, g_land_placeY, g_land_places, g_land_crowKind, .int v_land_crows, g_land_now, g_land_past, g_land_pasts, g_land_notes, .ref o_land_marks])), (o_land_marks, .inr (5, [.int v_land_marks_ofCrows, .ref o_land_marks_rows, .int v_land_marks_size])), (o_land_marks_rows, .inl (y 0, 30, .inl f_land_marks_rows))] := by
  unfold p_X7_kinds at h
  refine z_enI (by decide) (Nat.le_of_ble_eq_true rfl) ?_
  intro p e s m args below meth c A ls hr K hH hl
  obtain ⟨Q, hQ⟩ : ∃ Q, Q = MQ below (z_Qi D y A r.1 [(o, .inr (6, [.ref o_land, g_images, g_kept, g_text, g_textLength, g_above, g_below, .int r.2, g_nos, g_fulls, g_roads, g_reader, g_traveller, g_questions])), (o_land, .inr (0, [g_land_placeKind, g_land_placeX, g_land_placeY, g_land_places, g_land_crowKind, .int v_land_crows, g_land_now, g_land_past, g_land_pasts, g_land_notes, .ref o_land_marks])), (o_land_marks, .inr (5, [.int v_land_marks_ofCrows, .ref o_land_marks_rows, .int v_land_marks_size])), (o_land_marks_rows, .inl (y 0, 30, .inl f_land_marks_rows))]) args s 0 0 A := ⟨_, rfl⟩
  rw [← hQ]
  have hl : lv_has ls 2 [(0, .ref o), (1, .int p1)] := hl
  refine lv_aload_n K.x K.b dX7_kinds_0 rfl (lv_at hl 0 rfl) ?_
  refine z_get K hH 0 rfl zin_7 rfl 0 (by decide) tw_1_197 (v := .ref o_land) rfl dX7_kinds_1 ?_
  refine lv_iload_n K.x K.b dX7_kinds_4 rfl (lv_at hl 1 rfl) ?_
  obtain ⟨r1, hr2, h⟩ := z_bd_e h
  refine z_Vi K hH hl.1 (c_X0_hasCrow l D y o_land (g_land_placeKind) (g_land_placeX) (g_land_placeY) (g_land_places) (g_land_crowKind) (g_land_now) (g_land_past) (g_land_pasts) (g_land_notes) (.ref o_land_marks) v_land_crows p1 r1 hr2) (z_cwV K 1 tw_2_223 tw_2_224 tw_2_225 tw_1_2 tw_2_226 hd_X0_hasCrow ⟨by decide, by decide⟩) [1] [0, 2, 3] rfl (wr := [(o, .inr (6, [.ref o_land, g_images, g_kept, g_text, g_textLength, g_above, g_below, .int v_bads, g_nos, g_fulls, g_roads, g_reader, g_traveller, g_questions])), (o_land_marks, .inr (5, [.int v_land_marks_ofCrows, .ref o_land_marks_rows, .int v_land_marks_size])), (o_land_marks_rows, .inl (y 0, 30, .inl f_land_marks_rows))]) rfl rfl rfl (by decide) rfl rfl rfl (As := [.int p1]) (rest := []) rfl (Nat.le_of_ble_eq_true rfl) ⟨Nat.zero_le _, Nat.zero_le _⟩ dX7_kinds_5 (ws' := [(o, .inr (6, [.ref o_land, g_images, g_kept, g_text, g_textLength, g_above, g_below, .int v_bads, g_nos, g_fulls, g_roads, g_reader, g_traveller, g_questions])), (o_land_marks, .inr (5, [.int v_land_marks_ofCrows, .ref o_land_marks_rows, .int v_land_marks_size])), (o_land_marks_rows, .inl (y 0, 30, .inl f_land_marks_rows)), (o_land, .inr (0, [g_land_placeKind, g_land_placeX, g_land_placeY, g_land_places, g_land_crowKind, .int v_land_crows, g_land_now, g_land_past, g_land_pasts, g_land_notes, .ref o_land_marks]))]) rfl (fun H locs hH => ?_)
  refine lv_if_ne (tgt := 16) K.x K.b dX7_kinds_8 (by decide) (fun c3 => ?_) (fun c3 => ?_)
  · replace h := z_f c3 h
    refine lv_aload_n K.x K.b dX7_kinds_16 rfl (lv_at hl 0 rfl) ?_
    refine z_get K hH 0 rfl zin_7 rfl 0 (by decide) tw_1_197 (v := .ref o_land) rfl dX7_kinds_17 ?_
    refine z_get K hH 3 rfl zin_0 rfl 10 (by decide) tw_1_102 (v := .ref o_land_marks) rfl dX7_kinds_20 ?_
    refine lv_iload_n K.x K.b dX7_kinds_23 rfl (lv_at hl 1 rfl) ?_
    obtain ⟨r4, hr5, h⟩ := z_bd_e h
    refine z_Vi K hH hl.1 (c_X6_kindsLeft l D y o_land_marks o_land_marks_rows v_land_marks_ofCrows v_land_marks_size f_land_marks_rows p1 r4 hr5) (z_cwV K 1 tw_3_196 tw_3_197 tw_3_198 tw_1_4 tw_3_199 hd_X6_kindsLeft ⟨by decide, by decide⟩) [1, 2] [0, 3] rfl (wr := [(o, .inr (6, [.ref o_land, g_images, g_kept, g_text, g_textLength, g_above, g_below, .int v_bads, g_nos, g_fulls, g_roads, g_reader, g_traveller, g_questions])), (o_land, .inr (0, [g_land_placeKind, g_land_placeX, g_land_placeY, g_land_places, g_land_crowKind, .int v_land_crows, g_land_now, g_land_past, g_land_pasts, g_land_notes, .ref o_land_marks]))]) rfl rfl rfl (by decide) rfl rfl rfl (As := [.int p1]) (rest := []) rfl (Nat.le_of_ble_eq_true rfl) ⟨Nat.zero_le _, Nat.zero_le _⟩ dX7_kinds_24 (ws' := [(o, .inr (6, [.ref o_land, g_images, g_kept, g_text, g_textLength, g_above, g_below, .int v_bads, g_nos, g_fulls, g_roads, g_reader, g_traveller, g_questions])), (o_land, .inr (0, [g_land_placeKind, g_land_placeX, g_land_placeY, g_land_places, g_land_crowKind, .int v_land_crows, g_land_now, g_land_past, g_land_pasts, g_land_notes, .ref o_land_marks])), (o_land_marks, .inr (5, [.int v_land_marks_ofCrows, .ref o_land_marks_rows, .int v_land_marks_size])), (o_land_marks_rows, .inl (y 0, 30, .inl f_land_marks_rows))]) rfl (fun H locs hH => ?_)
    have hr9 := Option.some.inj h
    obtain rfl := hr9
    rw [hQ]
    exact z_reti K hr hH [0, 1, 2, 3] (by decide) rfl rfl rfl dX7_kinds_27
  · replace h := z_t c3 h
    refine lv_aload_n K.x K.b dX7_kinds_11 rfl (lv_at hl 0 rfl) ?_
    obtain ⟨r6, hr7, h⟩ := z_bd_e h
    refine z_Vi K hH hl.1 (c_X7_refuseBad l D y o (.ref o_land) (g_images) (g_kept) (g_text) (g_textLength) (g_above) (g_below) (g_nos) (g_fulls) (g_roads) (g_reader) (g_traveller) (g_questions) v_bads r6 hr7) (z_cwV K 0 tw_2_18 tw_2_20 tw_0_0 tw_1_1 tw_2_21 hd_X7_refuseBad ⟨by decide, by decide⟩) [0] [1, 2, 3] rfl (wr := [(o_land_marks, .inr (5, [.int v_land_marks_ofCrows, .ref o_land_marks_rows, .int v_land_marks_size])), (o_land_marks_rows, .inl (y 0, 30, .inl f_land_marks_rows)), (o_land, .inr (0, [g_land_placeKind, g_land_placeX, g_land_placeY, g_land_places, g_land_crowKind, .int v_land_crows, g_land_now, g_land_past, g_land_pasts, g_land_notes, .ref o_land_marks]))]) rfl rfl rfl (by decide) rfl rfl rfl (As := []) (rest := []) rfl (Nat.le_of_ble_eq_true rfl) ⟨Nat.zero_le _, Nat.zero_le _⟩ dX7_kinds_12 (ws' := [(o_land_marks, .inr (5, [.int v_land_marks_ofCrows, .ref o_land_marks_rows, .int v_land_marks_size])), (o_land_marks_rows, .inl (y 0, 30, .inl f_land_marks_rows)), (o_land, .inr (0, [g_land_placeKind, g_land_placeX, g_land_placeY, g_land_places, g_land_crowKind, .int v_land_crows, g_land_now, g_land_past, g_land_pasts, g_land_notes, .ref o_land_marks])), (o, .inr (6, [.ref o_land, g_images, g_kept, g_text, g_textLength, g_above, g_below, .int r6.2, g_nos, g_fulls, g_roads, g_reader, g_traveller, g_questions]))]) rfl (fun H locs hH => ?_)
    have hr9 := Option.some.inj h
    obtain rfl := hr9
    rw [hQ]
    exact z_reti K hr hH [3, 2, 0, 1] (by decide) rfl rfl rfl dX7_kinds_15
