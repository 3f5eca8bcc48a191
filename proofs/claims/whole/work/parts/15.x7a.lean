def p_X7_country (v_land_places : Int32) (v_land_crows : Int32) (v_land_pasts : Int32) (v_land_now_deeds : Int32) (v_land_now_hour : Int32) (v_land_notes_size : Int32) (v_land_marks_size : Int32) : Option (Int32 × Int32 × Int32 × Int32 × Int32 × Int32 × Int32 × Int32) :=
  z_bd (p_X0_empty v_land_places v_land_crows v_land_pasts v_land_now_deeds v_land_now_hour v_land_notes_size v_land_marks_size) fun r1 =>
  some (v_land_places, r1.1, r1.2.1, r1.2.2.1, r1.2.2.2.1, r1.2.2.2.2.1, r1.2.2.2.2.2.1, r1.2.2.2.2.2.2)
theorem hd_X7_country : yX7_country.cls = RX7 ∧ yX7_country.cls ≠ "java/lang/invoke/MethodHandle" ∧ yX7_country.cls ≠ "java/lang/invoke/VarHandle" ∧ (parseMethodDescriptor yX7_country.desc).map (fun d => d.parameters.length) = some 0 := by decide +kernel
set_option maxHeartbeats 4000000 in
set_option maxRecDepth 100000 in
theorem c_X7_country (l : Launch) (D : va_G) (y : Nat → ClassId) (o o_land o_land_now o_land_notes o_land_marks : Nat) (g_images g_kept g_text g_textLength g_above g_below g_bads g_nos g_fulls g_roads g_reader g_traveller g_questions g_land_placeKind g_land_placeX g_land_placeY g_land_crowKind g_land_past g_land_now_at g_land_now_tired g_land_now_deedRows g_land_notes_ofCrows g_land_notes_rows g_land_marks_ofCrows g_land_marks_rows : Value) (v_land_places : Int32) (v_land_crows : Int32) (v_land_pasts : Int32) (v_land_now_deeds : Int32) (v_land_now_hour : Int32) (v_land_notes_size : Int32) (v_land_marks_size : Int32) (r : Int32 × Int32 × Int32 × Int32 × Int32 × Int32 × Int32 × Int32) (h : p_X7_country v_land_places v_land_crows v_land_pasts v_land_now_deeds v_land_now_hour v_land_notes_size v_land_marks_size = some r) : z_MI l yX7_country cX7_country 2 (some .int) 1 20 D y [.ref o] [(o, .inr (6, [.ref o_land, g_images, g_kept, g_text, g_textLength, g_above, g_below, g_bads, g_nos, g_fulls, g_roads, g_reader, g_traveller, g_questions])), (o_land, .inr (0, [g_land_placeKind, g_land_placeX, g_land_placeY, .int v_land_places, g_land_crowKind, .int v_land_crows, .ref o_land_now, g_land_past, .int v_land_pasts, .ref o_land_notes, .ref o_land_marks])), (o_land_now, .inr (1, [g_land_now_at, g_land_now_tired, g_land_now_deedRows, .int v_land_now_deeds, .int v_land_now_hour])), (o_land_notes, .inr (5, [g_land_notes_ofCrows, g_land_notes_rows, .int v_land_notes_size])), (o_land_marks, .inr (5, [g_land_marks_ofCrows, g_land_marks_rows, .int v_land_marks_size]))] r.1 [(o, .inr (6, [.ref o_land, g_images, g_kept, g_text, g_textLength, g_above, g_below, g_bads, g_nos, g_fulls, g_roads, g_reader, g_traveller, g_questions])), (o_land, .inr (0, [g_land_placeKind, g_land_placeX, g_land_placeY, .int r.2.1, g_land_crowKind, .int r.2.2.1, .ref o_land_now, g_land_past, .int r.2.2.2.1, .ref o_land_notes, .ref o_land_marks])), (o_land_now, .inr (1, [g_land_now_at, g_land_now_tired, g_land_now_deedRows, .int r.2.2.2.2.1, .int r.2.2.2.2.2.1])), (o_land_notes, .inr (5, [g_land_notes_ofCrows, g_land_notes_rows, .int r.2.2.2.2.2.2.1])), (o_land_marks, .inr (5, [g_land_marks_ofCrows, g_land_marks_rows, .int r.2.2.2.2.2.2.2]))] := by
  unfold p_X7_country at h
  refine z_enI (by decide) (Nat.le_of_ble_eq_true rfl) ?_
  intro p e s m args below meth c A ls hr K hH hl
  obtain ⟨Q, hQ⟩ : ∃ Q, Q = MQ below (z_Qi D y A r.1 [(o, .inr (6, [.ref o_land, g_images, g_kept, g_text, g_textLength, g_above, g_below, g_bads, g_nos, g_fulls, g_roads, g_reader, g_traveller, g_questions])), (o_land, .inr (0, [g_land_placeKind, g_land_placeX, g_land_placeY, .int r.2.1, g_land_crowKind, .int r.2.2.1, .ref o_land_now, g_land_past, .int r.2.2.2.1, .ref o_land_notes, .ref o_land_marks])), (o_land_now, .inr (1, [g_land_now_at, g_land_now_tired, g_land_now_deedRows, .int r.2.2.2.2.1, .int r.2.2.2.2.2.1])), (o_land_notes, .inr (5, [g_land_notes_ofCrows, g_land_notes_rows, .int r.2.2.2.2.2.2.1])), (o_land_marks, .inr (5, [g_land_marks_ofCrows, g_land_marks_rows, .int r.2.2.2.2.2.2.2]))]) args s 0 0 A := ⟨_, rfl⟩
  rw [← hQ]
  have hl : lv_has ls 2 [(0, .ref o)] := hl
  refine lv_aload_n K.x K.b dX7_country_0 rfl (lv_at hl 0 rfl) ?_
  refine z_get K hH 0 rfl zin_7 rfl 0 (by decide) tw_1_197 (v := .ref o_land) rfl dX7_country_1 ?_
  refine z_get K hH 1 rfl zin_0 rfl 3 (by decide) tw_1_87 (v := .int v_land_places) rfl dX7_country_4 ?_
  refine lv_istore_n (lv' := [(1, .int v_land_places), (0, .ref o)]) K.x K.b dX7_country_7 rfl hl (by decide) rfl (fun ls hl => ?_)
  refine lv_aload_n K.x K.b dX7_country_8 rfl (lv_at hl 1 rfl) ?_
  refine z_get K hH 0 rfl zin_7 rfl 0 (by decide) tw_1_197 (v := .ref o_land) rfl dX7_country_9 ?_
  obtain ⟨r1, hr2, h⟩ := z_bd_e h
  refine z_Vv K hH hl.1 (c_X0_empty l D y o_land o_land_now o_land_notes o_land_marks (g_land_placeKind) (g_land_placeX) (g_land_placeY) (g_land_crowKind) (g_land_past) (g_land_now_at) (g_land_now_tired) (g_land_now_deedRows) (g_land_notes_ofCrows) (g_land_notes_rows) (g_land_marks_ofCrows) (g_land_marks_rows) v_land_places v_land_crows v_land_pasts v_land_now_deeds v_land_now_hour v_land_notes_size v_land_marks_size r1 hr2) (z_cwV K 0 tw_2_4 tw_2_5 tw_2_6 tw_1_2 tw_2_7 hd_X0_empty ⟨by decide, by decide⟩) [1, 2, 3, 4] [0] rfl (wr := [(o, .inr (6, [.ref o_land, g_images, g_kept, g_text, g_textLength, g_above, g_below, g_bads, g_nos, g_fulls, g_roads, g_reader, g_traveller, g_questions]))]) rfl rfl rfl (by decide) rfl rfl rfl (As := []) (rest := []) rfl (Nat.le_of_ble_eq_true rfl) ⟨Nat.zero_le _, Nat.zero_le _⟩ dX7_country_12 (ws' := [(o, .inr (6, [.ref o_land, g_images, g_kept, g_text, g_textLength, g_above, g_below, g_bads, g_nos, g_fulls, g_roads, g_reader, g_traveller, g_questions])), (o_land, .inr (0, [g_land_placeKind, g_land_placeX, g_land_placeY, .int r1.1, g_land_crowKind, .int r1.2.1, .ref o_land_now, g_land_past, .int r1.2.2.1, .ref o_land_notes, .ref o_land_marks])), (o_land_now, .inr (1, [g_land_now_at, g_land_now_tired, g_land_now_deedRows, .int r1.2.2.2.1, .int r1.2.2.2.2.1])), (o_land_notes, .inr (5, [g_land_notes_ofCrows, g_land_notes_rows, .int r1.2.2.2.2.2.1])), (o_land_marks, .inr (5, [g_land_marks_ofCrows, g_land_marks_rows, .int r1.2.2.2.2.2.2]))]) rfl (fun H locs hH => ?_)
  refine lv_iload_n K.x K.b dX7_country_15 rfl (lv_at hl 0 rfl) ?_
  have hr9 := Option.some.inj h
  obtain rfl := hr9
  rw [hQ]
  exact z_reti K hr hH [0, 1, 2, 3, 4] (by decide) rfl rfl rfl dX7_country_16
def p_X7_within (p1 : Int32) (p2 : Int32) (p3 : Int32) : Option (Int32) :=
  z_bd (α := Int32) (if (p1 < p2) then
  (some (0 : Int32)) else
  (if (p3 < p1) then
  (some (0 : Int32)) else
  (some (1 : Int32)))) fun j1 =>
  z_gd (z_bz j1) <|
  some j1
theorem hd_X7_within : yX7_within.cls ≠ "java/lang/invoke/MethodHandle" ∧ yX7_within.cls ≠ "java/lang/invoke/VarHandle" ∧ (parseMethodDescriptor yX7_within.desc).map (fun d => d.parameters.length) = some 3 := by decide +kernel
set_option maxHeartbeats 4000000 in
set_option maxRecDepth 100000 in
theorem c_X7_within (l : Launch) (D : va_G) (y : Nat → ClassId) (p1 : Int32) (p2 : Int32) (p3 : Int32) (r : Int32) (h : p_X7_within p1 p2 p3 = some r) : z_MI l yX7_within cX7_within 3 (some .boolean) 0 0 D y [.int p1, .int p2, .int p3] [] r [] := by
  unfold p_X7_within at h
  refine z_enI (by decide) (Nat.le_of_ble_eq_true rfl) ?_
  intro p e s m args below meth c A ls hr K hH hl
  obtain ⟨Q, hQ⟩ : ∃ Q, Q = MQ below (z_Qi D y A r []) args s 0 0 A := ⟨_, rfl⟩
  rw [← hQ]
  have hl : lv_has ls 3 [(0, .int p1), (1, .int p2), (2, .int p3)] := hl
  refine lv_iload_n K.x K.b dX7_within_0 rfl (lv_at hl 0 rfl) ?_
  refine lv_iload_n K.x K.b dX7_within_1 rfl (lv_at hl 1 rfl) ?_
  obtain ⟨j1, hj1, h⟩ := z_bd_e h
  have Kj1 : ∀ (H : Heap) (locs : List Loc) (ls : Array Slot), z_H D A s.heap [] H locs → lv_has ls 3 [] → W p l e (zR 0 0) s m args below meth c H locs 0 0 Q (F0 m 15 ls [.int j1]) := by
    intro H locs ls hH hl
    obtain ⟨g2, h⟩ := z_gd_e h
    have hr9 := Option.some.inj h
    obtain rfl := hr9
    rw [hQ]
    exact z_reti K hr hH [] (by decide) rfl rfl (z_bz_e g2) dX7_within_15
  replace h := hj1
  refine lv_icmp_lt (tgt := 14) K.x K.b dX7_within_2 (by decide) (fun c3 => ?_) (fun c3 => ?_)
  · replace h := z_t c3 h
    refine lv_iconst (v := (0)) K.x K.b dX7_within_14 (by decide) ?_
    obtain rfl := Option.some.inj h
    exact Kj1 _ _ _ hH (lv_sub hl [] rfl)
  · replace h := z_f c3 h
    refine lv_iload_n K.x K.b dX7_within_5 rfl (lv_at hl 0 rfl) ?_
    refine lv_iload_n K.x K.b dX7_within_6 rfl (lv_at hl 2 rfl) ?_
    refine lv_icmp_gt (tgt := 14) K.x K.b dX7_within_7 (by decide) (fun c4 => ?_) (fun c4 => ?_)
    · replace h := z_t c4 h
      refine lv_iconst (v := (0)) K.x K.b dX7_within_14 (by decide) ?_
      obtain rfl := Option.some.inj h
      exact Kj1 _ _ _ hH (lv_sub hl [] rfl)
    · replace h := z_f c4 h
      refine lv_iconst (v := (1)) K.x K.b dX7_within_10 (by decide) ?_
      refine lv_goto (tgt := 15) K.x K.b dX7_within_11 (by decide) ?_
      obtain rfl := Option.some.inj h
      exact Kj1 _ _ _ hH (lv_sub hl [] rfl)
def p_X7_isKind (p1 : Int32) : Option (Int32) :=
  z_bd (p_X7_within p1 (0 : Int32) (5 : Int32)) fun r1 =>
  z_gd (z_bz r1) <|
  some r1
theorem hd_X7_isKind : yX7_isKind.cls ≠ "java/lang/invoke/MethodHandle" ∧ yX7_isKind.cls ≠ "java/lang/invoke/VarHandle" ∧ (parseMethodDescriptor yX7_isKind.desc).map (fun d => d.parameters.length) = some 1 := by decide +kernel
set_option maxHeartbeats 4000000 in
set_option maxRecDepth 100000 in
theorem c_X7_isKind (l : Launch) (D : va_G) (y : Nat → ClassId) (p1 : Int32) (r : Int32) (h : p_X7_isKind p1 = some r) : z_MI l yX7_isKind cX7_isKind 1 (some .boolean) 1 22 D y [.int p1] [] r [] := by
  unfold p_X7_isKind at h
  refine z_enI (by decide) (Nat.le_of_ble_eq_true rfl) ?_
  intro p e s m args below meth c A ls hr K hH hl
  obtain ⟨Q, hQ⟩ : ∃ Q, Q = MQ below (z_Qi D y A r []) args s 0 0 A := ⟨_, rfl⟩
  rw [← hQ]
  have hl : lv_has ls 1 [(0, .int p1)] := hl
  refine lv_iload_n K.x K.b dX7_isKind_0 rfl (lv_at hl 0 rfl) ?_
  refine lv_iconst (v := (0)) K.x K.b dX7_isKind_1 (by decide) ?_
  refine lv_iconst (v := (5)) K.x K.b dX7_isKind_2 (by decide) ?_
  obtain ⟨r1, hr2, h⟩ := z_bd_e h
  refine z_Si K hH hl.1 (c_X7_within l D y p1 (0 : Int32) (5 : Int32) r1 hr2) (z_cwS K 3 tw_2_15 tw_2_16 tw_1_1 tw_2_17 hd_X7_within ⟨by decide, by decide⟩) rfl (As := [.int p1, .int (0 : Int32), .int (5 : Int32)]) (rest := []) rfl (Nat.le_of_ble_eq_true rfl) ⟨Nat.zero_le _, Nat.zero_le _⟩ dX7_isKind_3 (fun H locs hH => ?_)
  obtain ⟨g3, h⟩ := z_gd_e h
  have hr9 := Option.some.inj h
  obtain rfl := hr9
  rw [hQ]
  exact z_reti K hr hH [] (by decide) rfl rfl (z_bz_e g3) dX7_isKind_6
def p_X7_refuseBad (v_bads : Int32) : Option (Int32 × Int32) :=
  z_lt ((v_bads + (1 : Int32))) fun x1 =>
  some ((-2 : Int32), x1)
theorem hd_X7_refuseBad : yX7_refuseBad.cls = RX7 ∧ yX7_refuseBad.cls ≠ "java/lang/invoke/MethodHandle" ∧ yX7_refuseBad.cls ≠ "java/lang/invoke/VarHandle" ∧ (parseMethodDescriptor yX7_refuseBad.desc).map (fun d => d.parameters.length) = some 0 := by decide +kernel
set_option maxHeartbeats 4000000 in
set_option maxRecDepth 100000 in
theorem c_X7_refuseBad (l : Launch) (D : va_G) (y : Nat → ClassId) (o : Nat) (g_land g_images g_kept g_text g_textLength g_above g_below g_nos g_fulls g_roads g_reader g_traveller g_questions : Value) (v_bads : Int32) (r : Int32 × Int32) (h : p_X7_refuseBad v_bads = some r) : z_MI l yX7_refuseBad cX7_refuseBad 1 (some .int) 0 0 D y [.ref o] [(o, .inr (6, [g_land, g_images, g_kept, g_text, g_textLength, g_above, g_below, .int v_bads, g_nos, g_fulls, g_roads, g_reader, g_traveller, g_questions]))] r.1 [(o, .inr (6, [g_land, g_images, g_kept, g_text, g_textLength, g_above, g_below, .int r.2, g_nos, g_fulls, g_roads, g_reader, g_traveller, g_questions]))] := by
  unfold p_X7_refuseBad at h
  refine z_enI (by decide) (Nat.le_of_ble_eq_true rfl) ?_
  intro p e s m args below meth c A ls hr K hH hl
  obtain ⟨Q, hQ⟩ : ∃ Q, Q = MQ below (z_Qi D y A r.1 [(o, .inr (6, [g_land, g_images, g_kept, g_text, g_textLength, g_above, g_below, .int r.2, g_nos, g_fulls, g_roads, g_reader, g_traveller, g_questions]))]) args s 0 0 A := ⟨_, rfl⟩
  rw [← hQ]
  have hl : lv_has ls 1 [(0, .ref o)] := hl
  refine lv_aload_n K.x K.b dX7_refuseBad_0 rfl (lv_at hl 0 rfl) ?_
  refine lv_dup K.x K.b dX7_refuseBad_1 rfl ?_
  refine z_get K hH 0 rfl zin_7 rfl 7 (by decide) tw_1_204 (v := .int v_bads) rfl dX7_refuseBad_2 ?_
  refine lv_iconst (v := (1)) K.x K.b dX7_refuseBad_5 (by decide) ?_
  refine lv_iadd K.x K.b dX7_refuseBad_6 ?_
  obtain ⟨x1, ex1, h⟩ := z_lt_e h
  refine z_nm ex1 ?_
  refine z_put K hH 0 (ws' := [(o, .inr (6, [g_land, g_images, g_kept, g_text, g_textLength, g_above, g_below, .int x1, g_nos, g_fulls, g_roads, g_reader, g_traveller, g_questions]))]) rfl zin_7 rfl tyX7 tyX7_ok nmX7 7 (by decide) tw_1_204 rfl rfl rfl (Nat.le_of_ble_eq_true rfl) dX7_refuseBad_7 rfl (fun H locs hH => ?_)
  refine lv_bipush (v := (-2)) K.x K.b dX7_refuseBad_10 (by decide) ?_
  have hr9 := Option.some.inj h
  obtain rfl := hr9
  rw [hQ]
  exact z_reti K hr hH [0] (by decide) rfl rfl rfl dX7_refuseBad_12
def p_X7_refuseFull (v_fulls : Int32) : Option (Int32 × Int32) :=
  z_lt ((v_fulls + (1 : Int32))) fun x1 =>
  some ((-4 : Int32), x1)
theorem hd_X7_refuseFull : yX7_refuseFull.cls = RX7 ∧ yX7_refuseFull.cls ≠ "java/lang/invoke/MethodHandle" ∧ yX7_refuseFull.cls ≠ "java/lang/invoke/VarHandle" ∧ (parseMethodDescriptor yX7_refuseFull.desc).map (fun d => d.parameters.length) = some 0 := by decide +kernel
set_option maxHeartbeats 4000000 in
set_option maxRecDepth 100000 in
theorem c_X7_refuseFull (l : Launch) (D : va_G) (y : Nat → ClassId) (o : Nat) (g_land g_images g_kept g_text g_textLength g_above g_below g_bads g_nos g_roads g_reader g_traveller g_questions : Value) (v_fulls : Int32) (r : Int32 × Int32) (h : p_X7_refuseFull v_fulls = some r) : z_MI l yX7_refuseFull cX7_refuseFull 1 (some .int) 0 0 D y [.ref o] [(o, .inr (6, [g_land, g_images, g_kept, g_text, g_textLength, g_above, g_below, g_bads, g_nos, .int v_fulls, g_roads, g_reader, g_traveller, g_questions]))] r.1 [(o, .inr (6, [g_land, g_images, g_kept, g_text, g_textLength, g_above, g_below, g_bads, g_nos, .int r.2, g_roads, g_reader, g_traveller, g_questions]))] := by
  unfold p_X7_refuseFull at h
  refine z_enI (by decide) (Nat.le_of_ble_eq_true rfl) ?_
  intro p e s m args below meth c A ls hr K hH hl
  obtain ⟨Q, hQ⟩ : ∃ Q, Q = MQ below (z_Qi D y A r.1 [(o, .inr (6, [g_land, g_images, g_kept, g_text, g_textLength, g_above, g_below, g_bads, g_nos, .int r.2, g_roads, g_reader, g_traveller, g_questions]))]) args s 0 0 A := ⟨_, rfl⟩
  rw [← hQ]
  have hl : lv_has ls 1 [(0, .ref o)] := hl
  refine lv_aload_n K.x K.b dX7_refuseFull_0 rfl (lv_at hl 0 rfl) ?_
  refine lv_dup K.x K.b dX7_refuseFull_1 rfl ?_
  refine z_get K hH 0 rfl zin_7 rfl 9 (by decide) tw_1_206 (v := .int v_fulls) rfl dX7_refuseFull_2 ?_
  refine lv_iconst (v := (1)) K.x K.b dX7_refuseFull_5 (by decide) ?_
  refine lv_iadd K.x K.b dX7_refuseFull_6 ?_
  obtain ⟨x1, ex1, h⟩ := z_lt_e h
  refine z_nm ex1 ?_
  refine z_put K hH 0 (ws' := [(o, .inr (6, [g_land, g_images, g_kept, g_text, g_textLength, g_above, g_below, g_bads, g_nos, .int x1, g_roads, g_reader, g_traveller, g_questions]))]) rfl zin_7 rfl tyX7 tyX7_ok nmX7 9 (by decide) tw_1_206 rfl rfl rfl (Nat.le_of_ble_eq_true rfl) dX7_refuseFull_7 rfl (fun H locs hH => ?_)
  refine lv_bipush (v := (-4)) K.x K.b dX7_refuseFull_10 (by decide) ?_
  have hr9 := Option.some.inj h
  obtain rfl := hr9
  rw [hQ]
  exact z_reti K hr hH [0] (by decide) rfl rfl rfl dX7_refuseFull_12
def p_X7_place (v_bads : Int32) (v_fulls : Int32) (v_land_places : Int32) (v_land_pasts : Int32) (f_land_placeKind : (Nat → Int32)) (f_land_placeX : (Nat → Int32)) (f_land_placeY : (Nat → Int32)) (p1 : Int32) (p2 : Int32) (p3 : Int32) : Option (Int32 × Int32 × Int32 × Int32 × Int32 × (Nat → Int32) × (Nat → Int32) × (Nat → Int32)) :=
  z_bd (p_X7_isKind p1) fun r1 =>
  if (r1 = 0) then
  (z_bd (p_X7_refuseBad v_bads) fun r4 =>
  some (r4.1, r4.2, v_fulls, v_land_places, v_land_pasts, f_land_placeKind, f_land_placeX, f_land_placeY)) else
  (z_bd (p_X7_within p2 (0 : Int32) (9 : Int32)) fun r6 =>
  if (r6 = 0) then
  (z_bd (p_X7_refuseBad v_bads) fun r9 =>
  some (r9.1, r9.2, v_fulls, v_land_places, v_land_pasts, f_land_placeKind, f_land_placeX, f_land_placeY)) else
  (z_bd (p_X7_within p3 (0 : Int32) (9 : Int32)) fun r11 =>
  if (r11 = 0) then
  (z_bd (p_X7_refuseBad v_bads) fun r19 =>
  some (r19.1, r19.2, v_fulls, v_land_places, v_land_pasts, f_land_placeKind, f_land_placeX, f_land_placeY)) else
  (if (v_land_places < (7 : Int32)) then
  (z_bd (p_X0_addPlace v_land_places v_land_pasts f_land_placeKind f_land_placeX f_land_placeY p1 p2 p3) fun r15 =>
  some (r15.1, v_bads, v_fulls, r15.2.1, r15.2.2.1, r15.2.2.2.1, r15.2.2.2.2.1, r15.2.2.2.2.2)) else
  (z_bd (p_X7_refuseFull v_fulls) fun r17 =>
  some (r17.1, v_bads, r17.2, v_land_places, v_land_pasts, f_land_placeKind, f_land_placeX, f_land_placeY)))))
theorem hd_X7_place : yX7_place.cls = RX7 ∧ yX7_place.cls ≠ "java/lang/invoke/MethodHandle" ∧ yX7_place.cls ≠ "java/lang/invoke/VarHandle" ∧ (parseMethodDescriptor yX7_place.desc).map (fun d => d.parameters.length) = some 3 := by decide +kernel
set_option maxHeartbeats 4000000 in
set_option maxRecDepth 100000 in
theorem c_X7_place (l : Launch) (D : va_G) (y : Nat → ClassId) (o o_land o_land_placeKind o_land_placeX o_land_placeY : Nat) (g_images g_kept g_text g_textLength g_above g_below g_nos g_roads g_reader g_traveller g_questions g_land_crowKind g_land_crows g_land_now g_land_past g_land_notes g_land_marks : Value) (v_bads : Int32) (v_fulls : Int32) (v_land_places : Int32) (v_land_pasts : Int32) (f_land_placeKind : (Nat → Int32)) (f_land_placeX : (Nat → Int32)) (f_land_placeY : (Nat → Int32)) (p1 : Int32) (p2 : Int32) (p3 : Int32) (r : Int32 × Int32 × Int32 × Int32 × Int32 × (Nat → Int32) × (Nat → Int32) × (Nat → Int32)) (h : p_X7_place v_bads v_fulls v_land_places v_land_pasts f_land_placeKind f_land_placeX f_land_placeY p1 p2 p3 = some r) : z_MI l yX7_place cX7_place 4 (some .int) 2 42 D y [.ref o, .int p1, .int p2, .int p3] [(o, .inr (6, [.ref o_land, g_images, g_kept, g_text, g_textLength, g_above, g_below, .int v_bads, g_nos, .int v_fulls, g_roads, g_reader, g_traveller, g_questions])), (o_land, .inr (0, [.ref o_land_placeKind, .ref o_land_placeX, .ref o_land_placeY, .int v_land_places, g_land_crowKind, g_land_crows, g_land_now, g_land_past, .int v_land_pasts, g_land_notes, g_land_marks])), (o_land_placeKind, .inl (y 0, 7, .inl f_land_placeKind)), (o_land_placeX, .inl (y 0, 7, .inl f_land_placeX)), (o_land_placeY, .inl (y 0, 7, .inl f_land_placeY))] r.1 [(o, .inr (6, [.ref o_land, g_images, g_kept, g_text, g_textLength, g_above, g_below, .int r.2.1, g_nos, .int r.2.2.1, g_roads, g_reader, g_traveller, g_questions])), (o_land, .inr (0, [.ref o_land_placeKind, .ref o_land_placeX, .ref o_land_placeY, .int r.2.2.2.1, g_land_crowKind, g_land_crows, g_land_now, g_land_past, .int r.2.2.2.2.1, g_land_notes, g_land_marks])), (o_land_placeKind, .inl (y 0, 7, .inl r.2.2.2.2.2.1)), (o_land_placeX, .inl (y 0, 7, .inl r.2.2.2.2.2.2.1)), (o_land_placeY, .inl (y 0, 7, .inl r.2.2.2.2.2.2.2))] := by
  unfold p_X7_place at h
  refine z_enI (by decide) (Nat.le_of_ble_eq_true rfl) ?_
  intro p e s m args below meth c A ls hr K hH hl
  obtain ⟨Q, hQ⟩ : ∃ Q, Q = MQ below (z_Qi D y A r.1 [(o, .inr (6, [.ref o_land, g_images, g_kept, g_text, g_textLength, g_above, g_below, .int r.2.1, g_nos, .int r.2.2.1, g_roads, g_reader, g_traveller, g_questions])), (o_land, .inr (0, [.ref o_land_placeKind, .ref o_land_placeX, .ref o_land_placeY, .int r.2.2.2.1, g_land_crowKind, g_land_crows, g_land_now, g_land_past, .int r.2.2.2.2.1, g_land_notes, g_land_marks])), (o_land_placeKind, .inl (y 0, 7, .inl r.2.2.2.2.2.1)), (o_land_placeX, .inl (y 0, 7, .inl r.2.2.2.2.2.2.1)), (o_land_placeY, .inl (y 0, 7, .inl r.2.2.2.2.2.2.2))]) args s 0 0 A := ⟨_, rfl⟩
  rw [← hQ]
  have hl : lv_has ls 4 [(0, .ref o), (1, .int p1), (2, .int p2), (3, .int p3)] := hl
  refine lv_iload_n K.x K.b dX7_place_0 rfl (lv_at hl 1 rfl) ?_
  obtain ⟨r1, hr2, h⟩ := z_bd_e h
  refine z_Si K hH hl.1 (c_X7_isKind l D y p1 r1 hr2) (z_cwS K 1 tw_2_12 tw_2_13 tw_1_1 tw_2_14 hd_X7_isKind ⟨by decide, by decide⟩) rfl (As := [.int p1]) (rest := []) rfl (Nat.le_of_ble_eq_true rfl) ⟨Nat.zero_le _, Nat.zero_le _⟩ dX7_place_1 (fun H locs hH => ?_)
  refine lv_if_eq (tgt := 27) K.x K.b dX7_place_4 (by decide) (fun c3 => ?_) (fun c3 => ?_)
  · replace h := z_t c3 h
    refine lv_aload_n K.x K.b dX7_place_27 rfl (lv_at hl 0 rfl) ?_
    obtain ⟨r4, hr5, h⟩ := z_bd_e h
    refine z_Vi K hH hl.1 (c_X7_refuseBad l D y o (.ref o_land) (g_images) (g_kept) (g_text) (g_textLength) (g_above) (g_below) (g_nos) (.int v_fulls) (g_roads) (g_reader) (g_traveller) (g_questions) v_bads r4 hr5) (z_cwV K 0 tw_2_18 tw_2_20 tw_0_0 tw_1_1 tw_2_21 hd_X7_refuseBad ⟨by decide, by decide⟩) [0] [1, 2, 3, 4] rfl (wr := [(o_land, .inr (0, [.ref o_land_placeKind, .ref o_land_placeX, .ref o_land_placeY, .int v_land_places, g_land_crowKind, g_land_crows, g_land_now, g_land_past, .int v_land_pasts, g_land_notes, g_land_marks])), (o_land_placeKind, .inl (y 0, 7, .inl f_land_placeKind)), (o_land_placeX, .inl (y 0, 7, .inl f_land_placeX)), (o_land_placeY, .inl (y 0, 7, .inl f_land_placeY))]) rfl rfl rfl (by decide) rfl rfl rfl (As := []) (rest := []) rfl (Nat.le_of_ble_eq_true rfl) ⟨Nat.zero_le _, Nat.zero_le _⟩ dX7_place_28 (ws' := [(o_land, .inr (0, [.ref o_land_placeKind, .ref o_land_placeX, .ref o_land_placeY, .int v_land_places, g_land_crowKind, g_land_crows, g_land_now, g_land_past, .int v_land_pasts, g_land_notes, g_land_marks])), (o_land_placeKind, .inl (y 0, 7, .inl f_land_placeKind)), (o_land_placeX, .inl (y 0, 7, .inl f_land_placeX)), (o_land_placeY, .inl (y 0, 7, .inl f_land_placeY)), (o, .inr (6, [.ref o_land, g_images, g_kept, g_text, g_textLength, g_above, g_below, .int r4.2, g_nos, .int v_fulls, g_roads, g_reader, g_traveller, g_questions]))]) rfl (fun H locs hH => ?_)
    have hr9 := Option.some.inj h
    obtain rfl := hr9
    rw [hQ]
    exact z_reti K hr hH [4, 0, 1, 2, 3] (by decide) rfl rfl rfl dX7_place_31
  · replace h := z_f c3 h
    refine lv_iload_n K.x K.b dX7_place_7 rfl (lv_at hl 2 rfl) ?_
    refine lv_iconst (v := (0)) K.x K.b dX7_place_8 (by decide) ?_
    refine lv_bipush (v := (9)) K.x K.b dX7_place_9 (by decide) ?_
    obtain ⟨r6, hr7, h⟩ := z_bd_e h
    refine z_Si K hH hl.1 (c_X7_within l D y p2 (0 : Int32) (9 : Int32) r6 hr7) (z_cwS K 3 tw_2_15 tw_2_16 tw_1_1 tw_2_17 hd_X7_within ⟨by decide, by decide⟩) rfl (As := [.int p2, .int (0 : Int32), .int (9 : Int32)]) (rest := []) rfl (Nat.le_of_ble_eq_true rfl) ⟨Nat.zero_le _, Nat.zero_le _⟩ dX7_place_11 (fun H locs hH => ?_)
    refine lv_if_eq (tgt := 27) K.x K.b dX7_place_14 (by decide) (fun c8 => ?_) (fun c8 => ?_)
    · replace h := z_t c8 h
      refine lv_aload_n K.x K.b dX7_place_27 rfl (lv_at hl 0 rfl) ?_
      obtain ⟨r9, hr10, h⟩ := z_bd_e h
      refine z_Vi K hH hl.1 (c_X7_refuseBad l D y o (.ref o_land) (g_images) (g_kept) (g_text) (g_textLength) (g_above) (g_below) (g_nos) (.int v_fulls) (g_roads) (g_reader) (g_traveller) (g_questions) v_bads r9 hr10) (z_cwV K 0 tw_2_18 tw_2_20 tw_0_0 tw_1_1 tw_2_21 hd_X7_refuseBad ⟨by decide, by decide⟩) [0] [1, 2, 3, 4] rfl (wr := [(o_land, .inr (0, [.ref o_land_placeKind, .ref o_land_placeX, .ref o_land_placeY, .int v_land_places, g_land_crowKind, g_land_crows, g_land_now, g_land_past, .int v_land_pasts, g_land_notes, g_land_marks])), (o_land_placeKind, .inl (y 0, 7, .inl f_land_placeKind)), (o_land_placeX, .inl (y 0, 7, .inl f_land_placeX)), (o_land_placeY, .inl (y 0, 7, .inl f_land_placeY))]) rfl rfl rfl (by decide) rfl rfl rfl (As := []) (rest := []) rfl (Nat.le_of_ble_eq_true rfl) ⟨Nat.zero_le _, Nat.zero_le _⟩ dX7_place_28 (ws' := [(o_land, .inr (0, [.ref o_land_placeKind, .ref o_land_placeX, .ref o_land_placeY, .int v_land_places, g_land_crowKind, g_land_crows, g_land_now, g_land_past, .int v_land_pasts, g_land_notes, g_land_marks])), (o_land_placeKind, .inl (y 0, 7, .inl f_land_placeKind)), (o_land_placeX, .inl (y 0, 7, .inl f_land_placeX)), (o_land_placeY, .inl (y 0, 7, .inl f_land_placeY)), (o, .inr (6, [.ref o_land, g_images, g_kept, g_text, g_textLength, g_above, g_below, .int r9.2, g_nos, .int v_fulls, g_roads, g_reader, g_traveller, g_questions]))]) rfl (fun H locs hH => ?_)
      have hr9 := Option.some.inj h
      obtain rfl := hr9
      rw [hQ]
      exact z_reti K hr hH [4, 0, 1, 2, 3] (by decide) rfl rfl rfl dX7_place_31
    · replace h := z_f c8 h
      refine lv_iload_n K.x K.b dX7_place_17 rfl (lv_at hl 3 rfl) ?_
      refine lv_iconst (v := (0)) K.x K.b dX7_place_18 (by decide) ?_
      refine lv_bipush (v := (9)) K.x K.b dX7_place_19 (by decide) ?_
      obtain ⟨r11, hr12, h⟩ := z_bd_e h
      refine z_Si K hH hl.1 (c_X7_within l D y p3 (0 : Int32) (9 : Int32) r11 hr12) (z_cwS K 3 tw_2_15 tw_2_16 tw_1_1 tw_2_17 hd_X7_within ⟨by decide, by decide⟩) rfl (As := [.int p3, .int (0 : Int32), .int (9 : Int32)]) (rest := []) rfl (Nat.le_of_ble_eq_true rfl) ⟨Nat.zero_le _, Nat.zero_le _⟩ dX7_place_21 (fun H locs hH => ?_)
      refine lv_if_ne (tgt := 32) K.x K.b dX7_place_24 (by decide) (fun c13 => ?_) (fun c13 => ?_)
      · replace h := z_f c13 h
        refine lv_aload_n K.x K.b dX7_place_32 rfl (lv_at hl 0 rfl) ?_
        refine z_get K hH 0 rfl zin_7 rfl 0 (by decide) tw_1_197 (v := .ref o_land) rfl dX7_place_33 ?_
        refine z_get K hH 1 rfl zin_0 rfl 3 (by decide) tw_1_87 (v := .int v_land_places) rfl dX7_place_36 ?_
        refine lv_bipush (v := (7)) K.x K.b dX7_place_39 (by decide) ?_
        refine lv_icmp_lt (tgt := 49) K.x K.b dX7_place_41 (by decide) (fun c14 => ?_) (fun c14 => ?_)
        · replace h := z_t c14 h
          refine lv_aload_n K.x K.b dX7_place_49 rfl (lv_at hl 0 rfl) ?_
          refine z_get K hH 0 rfl zin_7 rfl 0 (by decide) tw_1_197 (v := .ref o_land) rfl dX7_place_50 ?_
          refine lv_iload_n K.x K.b dX7_place_53 rfl (lv_at hl 1 rfl) ?_
          refine lv_iload_n K.x K.b dX7_place_54 rfl (lv_at hl 2 rfl) ?_
          refine lv_iload_n K.x K.b dX7_place_55 rfl (lv_at hl 3 rfl) ?_
          obtain ⟨r15, hr16, h⟩ := z_bd_e h
          refine z_Vi K hH hl.1 (c_X0_addPlace l D y o_land o_land_placeKind o_land_placeX o_land_placeY (g_land_crowKind) (g_land_crows) (g_land_now) (g_land_past) (g_land_notes) (g_land_marks) v_land_places v_land_pasts f_land_placeKind f_land_placeX f_land_placeY p1 p2 p3 r15 hr16) (z_cwV K 3 tw_2_26 tw_2_27 tw_2_28 tw_1_2 tw_2_29 hd_X0_addPlace ⟨by decide, by decide⟩) [1, 2, 3, 4] [0] rfl (wr := [(o, .inr (6, [.ref o_land, g_images, g_kept, g_text, g_textLength, g_above, g_below, .int v_bads, g_nos, .int v_fulls, g_roads, g_reader, g_traveller, g_questions]))]) rfl rfl rfl (by decide) rfl rfl rfl (As := [.int p1, .int p2, .int p3]) (rest := []) rfl (Nat.le_of_ble_eq_true rfl) ⟨Nat.zero_le _, Nat.zero_le _⟩ dX7_place_56 (ws' := [(o, .inr (6, [.ref o_land, g_images, g_kept, g_text, g_textLength, g_above, g_below, .int v_bads, g_nos, .int v_fulls, g_roads, g_reader, g_traveller, g_questions])), (o_land, .inr (0, [.ref o_land_placeKind, .ref o_land_placeX, .ref o_land_placeY, .int r15.2.1, g_land_crowKind, g_land_crows, g_land_now, g_land_past, .int r15.2.2.1, g_land_notes, g_land_marks])), (o_land_placeKind, .inl (y 0, 7, .inl r15.2.2.2.1)), (o_land_placeX, .inl (y 0, 7, .inl r15.2.2.2.2.1)), (o_land_placeY, .inl (y 0, 7, .inl r15.2.2.2.2.2))]) rfl (fun H locs hH => ?_)
          have hr9 := Option.some.inj h
          obtain rfl := hr9
          rw [hQ]
          exact z_reti K hr hH [0, 1, 2, 3, 4] (by decide) rfl rfl rfl dX7_place_59
        · replace h := z_f c14 h
          refine lv_aload_n K.x K.b dX7_place_44 rfl (lv_at hl 0 rfl) ?_
          obtain ⟨r17, hr18, h⟩ := z_bd_e h
          refine z_Vi K hH hl.1 (c_X7_refuseFull l D y o (.ref o_land) (g_images) (g_kept) (g_text) (g_textLength) (g_above) (g_below) (.int v_bads) (g_nos) (g_roads) (g_reader) (g_traveller) (g_questions) v_fulls r17 hr18) (z_cwV K 0 tw_2_22 tw_2_24 tw_0_1 tw_1_1 tw_2_25 hd_X7_refuseFull ⟨by decide, by decide⟩) [0] [1, 2, 3, 4] rfl (wr := [(o_land, .inr (0, [.ref o_land_placeKind, .ref o_land_placeX, .ref o_land_placeY, .int v_land_places, g_land_crowKind, g_land_crows, g_land_now, g_land_past, .int v_land_pasts, g_land_notes, g_land_marks])), (o_land_placeKind, .inl (y 0, 7, .inl f_land_placeKind)), (o_land_placeX, .inl (y 0, 7, .inl f_land_placeX)), (o_land_placeY, .inl (y 0, 7, .inl f_land_placeY))]) rfl rfl rfl (by decide) rfl rfl rfl (As := []) (rest := []) rfl (Nat.le_of_ble_eq_true rfl) ⟨Nat.zero_le _, Nat.zero_le _⟩ dX7_place_45 (ws' := [(o_land, .inr (0, [.ref o_land_placeKind, .ref o_land_placeX, .ref o_land_placeY, .int v_land_places, g_land_crowKind, g_land_crows, g_land_now, g_land_past, .int v_land_pasts, g_land_notes, g_land_marks])), (o_land_placeKind, .inl (y 0, 7, .inl f_land_placeKind)), (o_land_placeX, .inl (y 0, 7, .inl f_land_placeX)), (o_land_placeY, .inl (y 0, 7, .inl f_land_placeY)), (o, .inr (6, [.ref o_land, g_images, g_kept, g_text, g_textLength, g_above, g_below, .int v_bads, g_nos, .int r17.2, g_roads, g_reader, g_traveller, g_questions]))]) rfl (fun H locs hH => ?_)
          have hr9 := Option.some.inj h
          obtain rfl := hr9
          rw [hQ]
          exact z_reti K hr hH [4, 0, 1, 2, 3] (by decide) rfl rfl rfl dX7_place_48
      · replace h := z_t c13 h
        refine lv_aload_n K.x K.b dX7_place_27 rfl (lv_at hl 0 rfl) ?_
        obtain ⟨r19, hr20, h⟩ := z_bd_e h
        refine z_Vi K hH hl.1 (c_X7_refuseBad l D y o (.ref o_land) (g_images) (g_kept) (g_text) (g_textLength) (g_above) (g_below) (g_nos) (.int v_fulls) (g_roads) (g_reader) (g_traveller) (g_questions) v_bads r19 hr20) (z_cwV K 0 tw_2_18 tw_2_20 tw_0_0 tw_1_1 tw_2_21 hd_X7_refuseBad ⟨by decide, by decide⟩) [0] [1, 2, 3, 4] rfl (wr := [(o_land, .inr (0, [.ref o_land_placeKind, .ref o_land_placeX, .ref o_land_placeY, .int v_land_places, g_land_crowKind, g_land_crows, g_land_now, g_land_past, .int v_land_pasts, g_land_notes, g_land_marks])), (o_land_placeKind, .inl (y 0, 7, .inl f_land_placeKind)), (o_land_placeX, .inl (y 0, 7, .inl f_land_placeX)), (o_land_placeY, .inl (y 0, 7, .inl f_land_placeY))]) rfl rfl rfl (by decide) rfl rfl rfl (As := []) (rest := []) rfl (Nat.le_of_ble_eq_true rfl) ⟨Nat.zero_le _, Nat.zero_le _⟩ dX7_place_28 (ws' := [(o_land, .inr (0, [.ref o_land_placeKind, .ref o_land_placeX, .ref o_land_placeY, .int v_land_places, g_land_crowKind, g_land_crows, g_land_now, g_land_past, .int v_land_pasts, g_land_notes, g_land_marks])), (o_land_placeKind, .inl (y 0, 7, .inl f_land_placeKind)), (o_land_placeX, .inl (y 0, 7, .inl f_land_placeX)), (o_land_placeY, .inl (y 0, 7, .inl f_land_placeY)), (o, .inr (6, [.ref o_land, g_images, g_kept, g_text, g_textLength, g_above, g_below, .int r19.2, g_nos, .int v_fulls, g_roads, g_reader, g_traveller, g_questions]))]) rfl (fun H locs hH => ?_)
        have hr9 := Option.some.inj h
        obtain rfl := hr9
        rw [hQ]
        exact z_reti K hr hH [4, 0, 1, 2, 3] (by decide) rfl rfl rfl dX7_place_31
def p_X7_crow (v_bads : Int32) (v_fulls : Int32) (v_land_places : Int32) (v_land_crows : Int32) (v_land_pasts : Int32) (f_land_crowKind : (Nat → Int32)) (f_land_now_at : (Nat → Int32)) (f_land_now_tired : (Nat → Int32)) (p1 : Int32) (p2 : Int32) : Option (Int32 × Int32 × Int32 × Int32 × Int32 × (Nat → Int32) × (Nat → Int32) × (Nat → Int32)) :=
  z_bd (p_X7_isKind p1) fun r1 =>
  if (r1 = 0) then
  (z_bd (p_X7_refuseBad v_bads) fun r4 =>
  some (r4.1, r4.2, v_fulls, v_land_crows, v_land_pasts, f_land_crowKind, f_land_now_at, f_land_now_tired)) else
  (z_bd (p_X0_hasPlace v_land_places p2) fun r6 =>
  if (r6 = 0) then
  (z_bd (p_X7_refuseBad v_bads) fun r14 =>
  some (r14.1, r14.2, v_fulls, v_land_crows, v_land_pasts, f_land_crowKind, f_land_now_at, f_land_now_tired)) else
  (if (v_land_crows < (3 : Int32)) then
  (z_bd (p_X0_addCrow v_land_crows v_land_pasts f_land_crowKind f_land_now_at f_land_now_tired p1 p2) fun r10 =>
  some (r10.1, v_bads, v_fulls, r10.2.1, r10.2.2.1, r10.2.2.2.1, r10.2.2.2.2.1, r10.2.2.2.2.2)) else
  (z_bd (p_X7_refuseFull v_fulls) fun r12 =>
  some (r12.1, v_bads, r12.2, v_land_crows, v_land_pasts, f_land_crowKind, f_land_now_at, f_land_now_tired))))
theorem hd_X7_crow : yX7_crow.cls = RX7 ∧ yX7_crow.cls ≠ "java/lang/invoke/MethodHandle" ∧ yX7_crow.cls ≠ "java/lang/invoke/VarHandle" ∧ (parseMethodDescriptor yX7_crow.desc).map (fun d => d.parameters.length) = some 2 := by decide +kernel
set_option maxHeartbeats 4000000 in
set_option maxRecDepth 100000 in
theorem c_X7_crow (l : Launch) (D : va_G) (y : Nat → ClassId) (o o_land o_land_crowKind o_land_now o_land_now_at o_land_now_tired : Nat) (g_images g_kept g_text g_textLength g_above g_below g_nos g_roads g_reader g_traveller g_questions g_land_placeKind g_land_placeX g_land_placeY g_land_past g_land_notes g_land_marks g_land_now_deedRows g_land_now_deeds g_land_now_hour : Value) (v_bads : Int32) (v_fulls : Int32) (v_land_places : Int32) (v_land_crows : Int32) (v_land_pasts : Int32) (f_land_crowKind : (Nat → Int32)) (f_land_now_at : (Nat → Int32)) (f_land_now_tired : (Nat → Int32)) (p1 : Int32) (p2 : Int32) (r : Int32 × Int32 × Int32 × Int32 × Int32 × (Nat → Int32) × (Nat → Int32) × (Nat → Int32)) (h : p_X7_crow v_bads v_fulls v_land_places v_land_crows v_land_pasts f_land_crowKind f_land_now_at f_land_now_tired p1 p2 = some r) : z_MI l yX7_crow cX7_crow 3 (some .int) 2 42 D y [.ref o, .int p1, .int p2] [(o, .inr (6, [.ref o_land, g_images, g_kept, g_text, g_textLength, g_above, g_below, .int v_bads, g_nos, .int v_fulls, g_roads, g_reader, g_traveller, g_questions])), (o_land, .inr (0, [g_land_placeKind, g_land_placeX, g_land_placeY, .int v_land_places, .ref o_land_crowKind, .int v_land_crows, .ref o_land_now, g_land_past, .int v_land_pasts, g_land_notes, g_land_marks])), (o_land_crowKind, .inl (y 0, 3, .inl f_land_crowKind)), (o_land_now, .inr (1, [.ref o_land_now_at, .ref o_land_now_tired, g_land_now_deedRows, g_land_now_deeds, g_land_now_hour])), (o_land_now_at, .inl (y 0, 3, .inl f_land_now_at)), (o_land_now_tired, .inl (y 0, 3, .inl f_land_now_tired))] r.1 [(o, .inr (6, [.ref o_land, g_images, g_kept, g_text, g_textLength, g_above, g_below, .int r.2.1, g_nos, .int r.2.2.1, g_roads, g_reader, g_traveller, g_questions])), (o_land, .inr (0, [g_land_placeKind, g_land_placeX, g_land_placeY, .int v_land_places, .ref o_land_crowKind, .int r.2.2.2.1, .ref o_land_now, g_land_past, .int r.2.2.2.2.1, g_land_notes, g_land_marks])), (o_land_crowKind, .inl (y 0, 3, .inl r.2.2.2.2.2.1)), (o_land_now, .inr (1, [.ref o_land_now_at, .ref o_land_now_tired, g_land_now_deedRows, g_land_now_deeds, g_land_now_hour])), (o_land_now_at, .inl (y 0, 3, .inl r.2.2.2.2.2.2.1)), (o_land_now_tired, .inl (y 0, 3, .inl r.2.2.2.2.2.2.2))] := by
  unfold p_X7_crow at h
  refine z_enI (by decide) (Nat.le_of_ble_eq_true rfl) ?_
  intro p e s m args below meth c A ls hr K hH hl
  obtain ⟨Q, hQ⟩ : ∃ Q, Q = MQ below (z_Qi D y A r.1 [(o, .inr (6, [.ref o_land, g_images, g_kept, g_text, g_textLength, g_above, g_below, .int r.2.1, g_nos, .int r.2.2.1, g_roads, g_reader, g_traveller, g_questions])), (o_land, .inr (0, [g_land_placeKind, g_land_placeX, g_land_placeY, .int v_land_places, .ref o_land_crowKind, .int r.2.2.2.1, .ref o_land_now, g_land_past, .int r.2.2.2.2.1, g_land_notes, g_land_marks])), (o_land_crowKind, .inl (y 0, 3, .inl r.2.2.2.2.2.1)), (o_land_now, .inr (1, [.ref o_land_now_at, .ref o_land_now_tired, g_land_now_deedRows, g_land_now_deeds, g_land_now_hour])), (o_land_now_at, .inl (y 0, 3, .inl r.2.2.2.2.2.2.1)), (o_land_now_tired, .inl (y 0, 3, .inl r.2.2.2.2.2.2.2))]) args s 0 0 A := ⟨_, rfl⟩
  rw [← hQ]
  have hl : lv_has ls 3 [(0, .ref o), (1, .int p1), (2, .int p2)] := hl
  refine lv_iload_n K.x K.b dX7_crow_0 rfl (lv_at hl 1 rfl) ?_
  obtain ⟨r1, hr2, h⟩ := z_bd_e h
  refine z_Si K hH hl.1 (c_X7_isKind l D y p1 r1 hr2) (z_cwS K 1 tw_2_12 tw_2_13 tw_1_1 tw_2_14 hd_X7_isKind ⟨by decide, by decide⟩) rfl (As := [.int p1]) (rest := []) rfl (Nat.le_of_ble_eq_true rfl) ⟨Nat.zero_le _, Nat.zero_le _⟩ dX7_crow_1 (fun H locs hH => ?_)
  refine lv_if_eq (tgt := 18) K.x K.b dX7_crow_4 (by decide) (fun c3 => ?_) (fun c3 => ?_)
  · replace h := z_t c3 h
    refine lv_aload_n K.x K.b dX7_crow_18 rfl (lv_at hl 0 rfl) ?_
    obtain ⟨r4, hr5, h⟩ := z_bd_e h
    refine z_Vi K hH hl.1 (c_X7_refuseBad l D y o (.ref o_land) (g_images) (g_kept) (g_text) (g_textLength) (g_above) (g_below) (g_nos) (.int v_fulls) (g_roads) (g_reader) (g_traveller) (g_questions) v_bads r4 hr5) (z_cwV K 0 tw_2_18 tw_2_20 tw_0_0 tw_1_1 tw_2_21 hd_X7_refuseBad ⟨by decide, by decide⟩) [0] [1, 2, 3, 4, 5] rfl (wr := [(o_land, .inr (0, [g_land_placeKind, g_land_placeX, g_land_placeY, .int v_land_places, .ref o_land_crowKind, .int v_land_crows, .ref o_land_now, g_land_past, .int v_land_pasts, g_land_notes, g_land_marks])), (o_land_crowKind, .inl (y 0, 3, .inl f_land_crowKind)), (o_land_now, .inr (1, [.ref o_land_now_at, .ref o_land_now_tired, g_land_now_deedRows, g_land_now_deeds, g_land_now_hour])), (o_land_now_at, .inl (y 0, 3, .inl f_land_now_at)), (o_land_now_tired, .inl (y 0, 3, .inl f_land_now_tired))]) rfl rfl rfl (by decide) rfl rfl rfl (As := []) (rest := []) rfl (Nat.le_of_ble_eq_true rfl) ⟨Nat.zero_le _, Nat.zero_le _⟩ dX7_crow_19 (ws' := [(o_land, .inr (0, [g_land_placeKind, g_land_placeX, g_land_placeY, .int v_land_places, .ref o_land_crowKind, .int v_land_crows, .ref o_land_now, g_land_past, .int v_land_pasts, g_land_notes, g_land_marks])), (o_land_crowKind, .inl (y 0, 3, .inl f_land_crowKind)), (o_land_now, .inr (1, [.ref o_land_now_at, .ref o_land_now_tired, g_land_now_deedRows, g_land_now_deeds, g_land_now_hour])), (o_land_now_at, .inl (y 0, 3, .inl f_land_now_at)), (o_land_now_tired, .inl (y 0, 3, .inl f_land_now_tired)), (o, .inr (6, [.ref o_land, g_images, g_kept, g_text, g_textLength, g_above, g_below, .int r4.2, g_nos, .int v_fulls, g_roads, g_reader, g_traveller, g_questions]))]) rfl (fun H locs hH => ?_)
    have hr9 := Option.some.inj h
    obtain rfl := hr9
    rw [hQ]
    exact z_reti K hr hH [5, 0, 1, 2, 3, 4] (by decide) rfl rfl rfl dX7_crow_22
  · replace h := z_f c3 h
    refine lv_aload_n K.x K.b dX7_crow_7 rfl (lv_at hl 0 rfl) ?_
    refine z_get K hH 0 rfl zin_7 rfl 0 (by decide) tw_1_197 (v := .ref o_land) rfl dX7_crow_8 ?_
    refine lv_iload_n K.x K.b dX7_crow_11 rfl (lv_at hl 2 rfl) ?_
    obtain ⟨r6, hr7, h⟩ := z_bd_e h
    refine z_Vi K hH hl.1 (c_X0_hasPlace l D y o_land (g_land_placeKind) (g_land_placeX) (g_land_placeY) (.ref o_land_crowKind) (.int v_land_crows) (.ref o_land_now) (g_land_past) (.int v_land_pasts) (g_land_notes) (g_land_marks) v_land_places p2 r6 hr7) (z_cwV K 1 tw_2_34 tw_2_35 tw_2_36 tw_1_2 tw_2_37 hd_X0_hasPlace ⟨by decide, by decide⟩) [1] [0, 2, 3, 4, 5] rfl (wr := [(o, .inr (6, [.ref o_land, g_images, g_kept, g_text, g_textLength, g_above, g_below, .int v_bads, g_nos, .int v_fulls, g_roads, g_reader, g_traveller, g_questions])), (o_land_crowKind, .inl (y 0, 3, .inl f_land_crowKind)), (o_land_now, .inr (1, [.ref o_land_now_at, .ref o_land_now_tired, g_land_now_deedRows, g_land_now_deeds, g_land_now_hour])), (o_land_now_at, .inl (y 0, 3, .inl f_land_now_at)), (o_land_now_tired, .inl (y 0, 3, .inl f_land_now_tired))]) rfl rfl rfl (by decide) rfl rfl rfl (As := [.int p2]) (rest := []) rfl (Nat.le_of_ble_eq_true rfl) ⟨Nat.zero_le _, Nat.zero_le _⟩ dX7_crow_12 (ws' := [(o, .inr (6, [.ref o_land, g_images, g_kept, g_text, g_textLength, g_above, g_below, .int v_bads, g_nos, .int v_fulls, g_roads, g_reader, g_traveller, g_questions])), (o_land_crowKind, .inl (y 0, 3, .inl f_land_crowKind)), (o_land_now, .inr (1, [.ref o_land_now_at, .ref o_land_now_tired, g_land_now_deedRows, g_land_now_deeds, g_land_now_hour])), (o_land_now_at, .inl (y 0, 3, .inl f_land_now_at)), (o_land_now_tired, .inl (y 0, 3, .inl f_land_now_tired)), (o_land, .inr (0, [g_land_placeKind, g_land_placeX, g_land_placeY, .int v_land_places, .ref o_land_crowKind, .int v_land_crows, .ref o_land_now, g_land_past, .int v_land_pasts, g_land_notes, g_land_marks]))]) rfl (fun H locs hH => ?_)
    refine lv_if_ne (tgt := 23) K.x K.b dX7_crow_15 (by decide) (fun c8 => ?_) (fun c8 => ?_)
    · replace h := z_f c8 h
      refine lv_aload_n K.x K.b dX7_crow_23 rfl (lv_at hl 0 rfl) ?_
      refine z_get K hH 0 rfl zin_7 rfl 0 (by decide) tw_1_197 (v := .ref o_land) rfl dX7_crow_24 ?_
      refine z_get K hH 5 rfl zin_0 rfl 5 (by decide) tw_1_91 (v := .int v_land_crows) rfl dX7_crow_27 ?_
      refine lv_iconst (v := (3)) K.x K.b dX7_crow_30 (by decide) ?_
      refine lv_icmp_lt (tgt := 39) K.x K.b dX7_crow_31 (by decide) (fun c9 => ?_) (fun c9 => ?_)
      · replace h := z_t c9 h
        refine lv_aload_n K.x K.b dX7_crow_39 rfl (lv_at hl 0 rfl) ?_
        refine z_get K hH 0 rfl zin_7 rfl 0 (by decide) tw_1_197 (v := .ref o_land) rfl dX7_crow_40 ?_
        refine lv_iload_n K.x K.b dX7_crow_43 rfl (lv_at hl 1 rfl) ?_
        refine lv_iload_n K.x K.b dX7_crow_44 rfl (lv_at hl 2 rfl) ?_
        obtain ⟨r10, hr11, h⟩ := z_bd_e h
        refine z_Vi K hH hl.1 (c_X0_addCrow l D y o_land o_land_crowKind o_land_now o_land_now_at o_land_now_tired (g_land_placeKind) (g_land_placeX) (g_land_placeY) (.int v_land_places) (g_land_past) (g_land_notes) (g_land_marks) (g_land_now_deedRows) (g_land_now_deeds) (g_land_now_hour) v_land_crows v_land_pasts f_land_crowKind f_land_now_at f_land_now_tired p1 p2 r10 hr11) (z_cwV K 2 tw_2_38 tw_2_39 tw_2_40 tw_1_2 tw_2_41 hd_X0_addCrow ⟨by decide, by decide⟩) [5, 1, 2, 3, 4] [0] rfl (wr := [(o, .inr (6, [.ref o_land, g_images, g_kept, g_text, g_textLength, g_above, g_below, .int v_bads, g_nos, .int v_fulls, g_roads, g_reader, g_traveller, g_questions]))]) rfl rfl rfl (by decide) rfl rfl rfl (As := [.int p1, .int p2]) (rest := []) rfl (Nat.le_of_ble_eq_true rfl) ⟨Nat.zero_le _, Nat.zero_le _⟩ dX7_crow_45 (ws' := [(o, .inr (6, [.ref o_land, g_images, g_kept, g_text, g_textLength, g_above, g_below, .int v_bads, g_nos, .int v_fulls, g_roads, g_reader, g_traveller, g_questions])), (o_land, .inr (0, [g_land_placeKind, g_land_placeX, g_land_placeY, .int v_land_places, .ref o_land_crowKind, .int r10.2.1, .ref o_land_now, g_land_past, .int r10.2.2.1, g_land_notes, g_land_marks])), (o_land_crowKind, .inl (y 0, 3, .inl r10.2.2.2.1)), (o_land_now, .inr (1, [.ref o_land_now_at, .ref o_land_now_tired, g_land_now_deedRows, g_land_now_deeds, g_land_now_hour])), (o_land_now_at, .inl (y 0, 3, .inl r10.2.2.2.2.1)), (o_land_now_tired, .inl (y 0, 3, .inl r10.2.2.2.2.2))]) rfl (fun H locs hH => ?_)
        have hr9 := Option.some.inj h
        obtain rfl := hr9
        rw [hQ]
        exact z_reti K hr hH [0, 1, 2, 3, 4, 5] (by decide) rfl rfl rfl dX7_crow_48
      · replace h := z_f c9 h
        refine lv_aload_n K.x K.b dX7_crow_34 rfl (lv_at hl 0 rfl) ?_
        obtain ⟨r12, hr13, h⟩ := z_bd_e h
        refine z_Vi K hH hl.1 (c_X7_refuseFull l D y o (.ref o_land) (g_images) (g_kept) (g_text) (g_textLength) (g_above) (g_below) (.int v_bads) (g_nos) (g_roads) (g_reader) (g_traveller) (g_questions) v_fulls r12 hr13) (z_cwV K 0 tw_2_22 tw_2_24 tw_0_1 tw_1_1 tw_2_25 hd_X7_refuseFull ⟨by decide, by decide⟩) [0] [1, 2, 3, 4, 5] rfl (wr := [(o_land_crowKind, .inl (y 0, 3, .inl f_land_crowKind)), (o_land_now, .inr (1, [.ref o_land_now_at, .ref o_land_now_tired, g_land_now_deedRows, g_land_now_deeds, g_land_now_hour])), (o_land_now_at, .inl (y 0, 3, .inl f_land_now_at)), (o_land_now_tired, .inl (y 0, 3, .inl f_land_now_tired)), (o_land, .inr (0, [g_land_placeKind, g_land_placeX, g_land_placeY, .int v_land_places, .ref o_land_crowKind, .int v_land_crows, .ref o_land_now, g_land_past, .int v_land_pasts, g_land_notes, g_land_marks]))]) rfl rfl rfl (by decide) rfl rfl rfl (As := []) (rest := []) rfl (Nat.le_of_ble_eq_true rfl) ⟨Nat.zero_le _, Nat.zero_le _⟩ dX7_crow_35 (ws' := [(o_land_crowKind, .inl (y 0, 3, .inl f_land_crowKind)), (o_land_now, .inr (1, [.ref o_land_now_at, .ref o_land_now_tired, g_land_now_deedRows, g_land_now_deeds, g_land_now_hour])), (o_land_now_at, .inl (y 0, 3, .inl f_land_now_at)), (o_land_now_tired, .inl (y 0, 3, .inl f_land_now_tired)), (o_land, .inr (0, [g_land_placeKind, g_land_placeX, g_land_placeY, .int v_land_places, .ref o_land_crowKind, .int v_land_crows, .ref o_land_now, g_land_past, .int v_land_pasts, g_land_notes, g_land_marks])), (o, .inr (6, [.ref o_land, g_images, g_kept, g_text, g_textLength, g_above, g_below, .int v_bads, g_nos, .int r12.2, g_roads, g_reader, g_traveller, g_questions]))]) rfl (fun H locs hH => ?_)
        have hr9 := Option.some.inj h
        obtain rfl := hr9
        rw [hQ]
        exact z_reti K hr hH [5, 4, 0, 1, 2, 3] (by decide) rfl rfl rfl dX7_crow_38
    · replace h := z_t c8 h
      refine lv_aload_n K.x K.b dX7_crow_18 rfl (lv_at hl 0 rfl) ?_
      obtain ⟨r14, hr15, h⟩ := z_bd_e h
      refine z_Vi K hH hl.1 (c_X7_refuseBad l D y o (.ref o_land) (g_images) (g_kept) (g_text) (g_textLength) (g_above) (g_below) (g_nos) (.int v_fulls) (g_roads) (g_reader) (g_traveller) (g_questions) v_bads r14 hr15) (z_cwV K 0 tw_2_18 tw_2_20 tw_0_0 tw_1_1 tw_2_21 hd_X7_refuseBad ⟨by decide, by decide⟩) [0] [1, 2, 3, 4, 5] rfl (wr := [(o_land_crowKind, .inl (y 0, 3, .inl f_land_crowKind)), (o_land_now, .inr (1, [.ref o_land_now_at, .ref o_land_now_tired, g_land_now_deedRows, g_land_now_deeds, g_land_now_hour])), (o_land_now_at, .inl (y 0, 3, .inl f_land_now_at)), (o_land_now_tired, .inl (y 0, 3, .inl f_land_now_tired)), (o_land, .inr (0, [g_land_placeKind, g_land_placeX, g_land_placeY, .int v_land_places, .ref o_land_crowKind, .int v_land_crows, .ref o_land_now, g_land_past, .int v_land_pasts, g_land_notes, g_land_marks]))]) rfl rfl rfl (by decide) rfl rfl rfl (As := []) (rest := []) rfl (Nat.le_of_ble_eq_true rfl) ⟨Nat.zero_le _, Nat.zero_le _⟩ dX7_crow_19 (ws' := [(o_land_crowKind, .inl (y 0, 3, .inl f_land_crowKind)), (o_land_now, .inr (1, [.ref o_land_now_at, .ref o_land_now_tired, g_land_now_deedRows, g_land_now_deeds, g_land_now_hour])), (o_land_now_at, .inl (y 0, 3, .inl f_land_now_at)), (o_land_now_tired, .inl (y 0, 3, .inl f_land_now_tired)), (o_land, .inr (0, [g_land_placeKind, g_land_placeX, g_land_placeY, .int v_land_places, .ref o_land_crowKind, .int v_land_crows, .ref o_land_now, g_land_past, .int v_land_pasts, g_land_notes, g_land_marks])), (o, .inr (6, [.ref o_land, g_images, g_kept, g_text, g_textLength, g_above, g_below, .int r14.2, g_nos, .int v_fulls, g_roads, g_reader, g_traveller, g_questions]))]) rfl (fun H locs hH => ?_)
      have hr9 := Option.some.inj h
      obtain rfl := hr9
      rw [hQ]
      exact z_reti K hr hH [5, 4, 0, 1, 2, 3] (by decide) rfl rfl rfl dX7_crow_22
def p_X7_type (v_textLength : Int32) (v_bads : Int32) (v_fulls : Int32) (f_text : (Nat → Int32)) (p1 : Int32) : Option (Int32 × Int32 × Int32 × Int32 × (Nat → Int32)) :=
  z_bd (p_X7_within p1 (0 : Int32) (127 : Int32)) fun r1 =>
  if (r1 = 0) then
  (z_bd (p_X7_refuseBad v_bads) fun r11 =>
  some (r11.1, v_textLength, r11.2, v_fulls, f_text)) else
  (if (v_textLength < (150 : Int32)) then
  (z_lt (((p1).toInt8.toInt32)) fun x5 =>
  z_gd (z_in v_textLength 150) <|
  z_lt ((upd f_text v_textLength.toNatClampNeg (vp_nar .byte x5))) fun a7 =>
  z_lt ((v_textLength + (1 : Int32))) fun x8 =>
  some (x8, x8, v_bads, v_fulls, a7)) else
  (z_bd (p_X7_refuseFull v_fulls) fun r9 =>
  some (r9.1, v_textLength, v_bads, r9.2, f_text)))
theorem hd_X7_type : yX7_type.cls = RX7 ∧ yX7_type.cls ≠ "java/lang/invoke/MethodHandle" ∧ yX7_type.cls ≠ "java/lang/invoke/VarHandle" ∧ (parseMethodDescriptor yX7_type.desc).map (fun d => d.parameters.length) = some 1 := by decide +kernel
set_option maxHeartbeats 4000000 in
set_option maxRecDepth 100000 in
theorem c_X7_type (l : Launch) (D : va_G) (y : Nat → ClassId) (o o_text : Nat) (g_land g_images g_kept g_above g_below g_nos g_roads g_reader g_traveller g_questions : Value) (v_textLength : Int32) (v_bads : Int32) (v_fulls : Int32) (f_text : (Nat → Int32)) (p1 : Int32) (r : Int32 × Int32 × Int32 × Int32 × (Nat → Int32)) (h : p_X7_type v_textLength v_bads v_fulls f_text p1 = some r) : z_MI l yX7_type cX7_type 2 (some .int) 1 22 D y [.ref o, .int p1] [(o, .inr (6, [g_land, g_images, g_kept, .ref o_text, .int v_textLength, g_above, g_below, .int v_bads, g_nos, .int v_fulls, g_roads, g_reader, g_traveller, g_questions])), (o_text, .inl (y 1, 150, .inl f_text))] r.1 [(o, .inr (6, [g_land, g_images, g_kept, .ref o_text, .int r.2.1, g_above, g_below, .int r.2.2.1, g_nos, .int r.2.2.2.1, g_roads, g_reader, g_traveller, g_questions])), (o_text, .inl (y 1, 150, .inl r.2.2.2.2))] := by
  unfold p_X7_type at h
  refine z_enI (by decide) (Nat.le_of_ble_eq_true rfl) ?_
  intro p e s m args below meth c A ls hr K hH hl
  obtain ⟨Q, hQ⟩ : ∃ Q, Q = MQ below (z_Qi D y A r.1 [(o, .inr (6, [g_land, g_images, g_kept, .ref o_text, .int r.2.1, g_above, g_below, .int r.2.2.1, g_nos, .int r.2.2.2.1, g_roads, g_reader, g_traveller, g_questions])), (o_text, .inl (y 1, 150, .inl r.2.2.2.2))]) args s 0 0 A := ⟨_, rfl⟩
  rw [← hQ]
  have hl : lv_has ls 2 [(0, .ref o), (1, .int p1)] := hl
  refine lv_iload_n K.x K.b dX7_type_0 rfl (lv_at hl 1 rfl) ?_
  refine lv_iconst (v := (0)) K.x K.b dX7_type_1 (by decide) ?_
  refine lv_bipush (v := (127)) K.x K.b dX7_type_2 (by decide) ?_
  obtain ⟨r1, hr2, h⟩ := z_bd_e h
  refine z_Si K hH hl.1 (c_X7_within l D y p1 (0 : Int32) (127 : Int32) r1 hr2) (z_cwS K 3 tw_2_15 tw_2_16 tw_1_1 tw_2_17 hd_X7_within ⟨by decide, by decide⟩) rfl (As := [.int p1, .int (0 : Int32), .int (127 : Int32)]) (rest := []) rfl (Nat.le_of_ble_eq_true rfl) ⟨Nat.zero_le _, Nat.zero_le _⟩ dX7_type_4 (fun H locs hH => ?_)
  refine lv_if_ne (tgt := 15) K.x K.b dX7_type_7 (by decide) (fun c3 => ?_) (fun c3 => ?_)
  · replace h := z_f c3 h
    refine lv_aload_n K.x K.b dX7_type_15 rfl (lv_at hl 0 rfl) ?_
    refine z_get K hH 0 rfl zin_7 rfl 4 (by decide) tw_1_201 (v := .int v_textLength) rfl dX7_type_16 ?_
    refine lv_sipush (v := (150)) K.x K.b dX7_type_19 (by decide) ?_
    refine lv_icmp_lt (tgt := 30) K.x K.b dX7_type_22 (by decide) (fun c4 => ?_) (fun c4 => ?_)
    · replace h := z_t c4 h
      refine lv_aload_n K.x K.b dX7_type_30 rfl (lv_at hl 0 rfl) ?_
      refine z_get K hH 0 rfl zin_7 rfl 3 (by decide) tw_1_200 (v := .ref o_text) rfl dX7_type_31 ?_
      refine lv_aload_n K.x K.b dX7_type_34 rfl (lv_at hl 0 rfl) ?_
      refine z_get K hH 0 rfl zin_7 rfl 4 (by decide) tw_1_201 (v := .int v_textLength) rfl dX7_type_35 ?_
      refine lv_iload_n K.x K.b dX7_type_38 rfl (lv_at hl 1 rfl) ?_
      refine lv_i2b K.x K.b dX7_type_39 rfl ?_
      obtain ⟨x5, ex5, h⟩ := z_lt_e h
      refine z_nm ex5 ?_
      obtain ⟨g6, h⟩ := z_gd_e h
      obtain ⟨a7, ea7, h⟩ := z_lt_e h
      refine z_bast K hH 1 (k := v_textLength.toNatClampNeg) (ws' := [(o, .inr (6, [g_land, g_images, g_kept, .ref o_text, .int v_textLength, g_above, g_below, .int v_bads, g_nos, .int v_fulls, g_roads, g_reader, g_traveller, g_questions])), (o_text, .inl (y 1, 150, .inl a7))]) rfl g6 rfl dX7_type_40 (by rw [ea7]; rfl) (fun H locs hH => ?_)
      refine lv_aload_n K.x K.b dX7_type_41 rfl (lv_at hl 0 rfl) ?_
      refine lv_dup K.x K.b dX7_type_42 rfl ?_
      refine z_get K hH 0 rfl zin_7 rfl 4 (by decide) tw_1_201 (v := .int v_textLength) rfl dX7_type_43 ?_
      refine lv_iconst (v := (1)) K.x K.b dX7_type_46 (by decide) ?_
      refine lv_iadd K.x K.b dX7_type_47 ?_
      obtain ⟨x8, ex8, h⟩ := z_lt_e h
      refine z_nm ex8 ?_
      refine z_put K hH 0 (ws' := [(o, .inr (6, [g_land, g_images, g_kept, .ref o_text, .int x8, g_above, g_below, .int v_bads, g_nos, .int v_fulls, g_roads, g_reader, g_traveller, g_questions])), (o_text, .inl (y 1, 150, .inl a7))]) rfl zin_7 rfl tyX7 tyX7_ok nmX7 4 (by decide) tw_1_201 rfl rfl rfl (Nat.le_of_ble_eq_true rfl) dX7_type_48 rfl (fun H locs hH => ?_)
      refine lv_aload_n K.x K.b dX7_type_51 rfl (lv_at hl 0 rfl) ?_
      refine z_get K hH 0 rfl zin_7 rfl 4 (by decide) tw_1_201 (v := .int x8) rfl dX7_type_52 ?_
      have hr9 := Option.some.inj h
      obtain rfl := hr9
      rw [hQ]
      exact z_reti K hr hH [0, 1] (by decide) rfl rfl rfl dX7_type_55
    · replace h := z_f c4 h
      refine lv_aload_n K.x K.b dX7_type_25 rfl (lv_at hl 0 rfl) ?_
      obtain ⟨r9, hr10, h⟩ := z_bd_e h
      refine z_Vi K hH hl.1 (c_X7_refuseFull l D y o (g_land) (g_images) (g_kept) (.ref o_text) (.int v_textLength) (g_above) (g_below) (.int v_bads) (g_nos) (g_roads) (g_reader) (g_traveller) (g_questions) v_fulls r9 hr10) (z_cwV K 0 tw_2_22 tw_2_24 tw_0_1 tw_1_1 tw_2_25 hd_X7_refuseFull ⟨by decide, by decide⟩) [0] [1] rfl (wr := [(o_text, .inl (y 1, 150, .inl f_text))]) rfl rfl rfl (by decide) rfl rfl rfl (As := []) (rest := []) rfl (Nat.le_of_ble_eq_true rfl) ⟨Nat.zero_le _, Nat.zero_le _⟩ dX7_type_26 (ws' := [(o_text, .inl (y 1, 150, .inl f_text)), (o, .inr (6, [g_land, g_images, g_kept, .ref o_text, .int v_textLength, g_above, g_below, .int v_bads, g_nos, .int r9.2, g_roads, g_reader, g_traveller, g_questions]))]) rfl (fun H locs hH => ?_)
      have hr9 := Option.some.inj h
      obtain rfl := hr9
      rw [hQ]
      exact z_reti K hr hH [1, 0] (by decide) rfl rfl rfl dX7_type_29
  · replace h := z_t c3 h
    refine lv_aload_n K.x K.b dX7_type_10 rfl (lv_at hl 0 rfl) ?_
    obtain ⟨r11, hr12, h⟩ := z_bd_e h
    refine z_Vi K hH hl.1 (c_X7_refuseBad l D y o (g_land) (g_images) (g_kept) (.ref o_text) (.int v_textLength) (g_above) (g_below) (g_nos) (.int v_fulls) (g_roads) (g_reader) (g_traveller) (g_questions) v_bads r11 hr12) (z_cwV K 0 tw_2_18 tw_2_20 tw_0_0 tw_1_1 tw_2_21 hd_X7_refuseBad ⟨by decide, by decide⟩) [0] [1] rfl (wr := [(o_text, .inl (y 1, 150, .inl f_text))]) rfl rfl rfl (by decide) rfl rfl rfl (As := []) (rest := []) rfl (Nat.le_of_ble_eq_true rfl) ⟨Nat.zero_le _, Nat.zero_le _⟩ dX7_type_11 (ws' := [(o_text, .inl (y 1, 150, .inl f_text)), (o, .inr (6, [g_land, g_images, g_kept, .ref o_text, .int v_textLength, g_above, g_below, .int r11.2, g_nos, .int v_fulls, g_roads, g_reader, g_traveller, g_questions]))]) rfl (fun H locs hH => ?_)
    have hr9 := Option.some.inj h
    obtain rfl := hr9
    rw [hQ]
    exact z_reti K hr hH [1, 0] (by decide) rfl rfl rfl dX7_type_14
def p_X7_clear (v_textLength : Int32) : Option (Int32 × Int32) :=
  some (v_textLength, (0 : Int32))
theorem hd_X7_clear : yX7_clear.cls = RX7 ∧ yX7_clear.cls ≠ "java/lang/invoke/MethodHandle" ∧ yX7_clear.cls ≠ "java/lang/invoke/VarHandle" ∧ (parseMethodDescriptor yX7_clear.desc).map (fun d => d.parameters.length) = some 0 := by decide +kernel
set_option maxHeartbeats 4000000 in
set_option maxRecDepth 100000 in
theorem c_X7_clear (l : Launch) (D : va_G) (y : Nat → ClassId) (o : Nat) (g_land g_images g_kept g_text g_above g_below g_bads g_nos g_fulls g_roads g_reader g_traveller g_questions : Value) (v_textLength : Int32) (r : Int32 × Int32) (h : p_X7_clear v_textLength = some r) : z_MI l yX7_clear cX7_clear 2 (some .int) 0 0 D y [.ref o] [(o, .inr (6, [g_land, g_images, g_kept, g_text, .int v_textLength, g_above, g_below, g_bads, g_nos, g_fulls, g_roads, g_reader, g_traveller, g_questions]))] r.1 [(o, .inr (6, [g_land, g_images, g_kept, g_text, .int r.2, g_above, g_below, g_bads, g_nos, g_fulls, g_roads, g_reader, g_traveller, g_questions]))] := by
  unfold p_X7_clear at h
  refine z_enI (by decide) (Nat.le_of_ble_eq_true rfl) ?_
  intro p e s m args below meth c A ls hr K hH hl
  obtain ⟨Q, hQ⟩ : ∃ Q, Q = MQ below (z_Qi D y A r.1 [(o, .inr (6, [g_land, g_images, g_kept, g_text, .int r.2, g_above, g_below, g_bads, g_nos, g_fulls, g_roads, g_reader, g_traveller, g_questions]))]) args s 0 0 A := ⟨_, rfl⟩
  rw [← hQ]
  have hl : lv_has ls 2 [(0, .ref o)] := hl
  refine lv_aload_n K.x K.b dX7_clear_0 rfl (lv_at hl 0 rfl) ?_
  refine z_get K hH 0 rfl zin_7 rfl 4 (by decide) tw_1_201 (v := .int v_textLength) rfl dX7_clear_1 ?_
  refine lv_istore_n (lv' := [(1, .int v_textLength), (0, .ref o)]) K.x K.b dX7_clear_4 rfl hl (by decide) rfl (fun ls hl => ?_)
  refine lv_aload_n K.x K.b dX7_clear_5 rfl (lv_at hl 1 rfl) ?_
  refine lv_iconst (v := (0)) K.x K.b dX7_clear_6 (by decide) ?_
  refine z_put K hH 0 (ws' := [(o, .inr (6, [g_land, g_images, g_kept, g_text, .int (0 : Int32), g_above, g_below, g_bads, g_nos, g_fulls, g_roads, g_reader, g_traveller, g_questions]))]) rfl zin_7 rfl tyX7 tyX7_ok nmX7 4 (by decide) tw_1_201 rfl rfl rfl (Nat.le_of_ble_eq_true rfl) dX7_clear_7 rfl (fun H locs hH => ?_)
  refine lv_iload_n K.x K.b dX7_clear_10 rfl (lv_at hl 0 rfl) ?_
  have hr9 := Option.some.inj h
  obtain rfl := hr9
  rw [hQ]
  exact z_reti K hr hH [0] (by decide) rfl rfl rfl dX7_clear_11
def p_X7_refuseNo (v_nos : Int32) : Option (Int32 × Int32) :=
  z_lt ((v_nos + (1 : Int32))) fun x1 =>
  some ((-3 : Int32), x1)
theorem hd_X7_refuseNo : yX7_refuseNo.cls = RX7 ∧ yX7_refuseNo.cls ≠ "java/lang/invoke/MethodHandle" ∧ yX7_refuseNo.cls ≠ "java/lang/invoke/VarHandle" ∧ (parseMethodDescriptor yX7_refuseNo.desc).map (fun d => d.parameters.length) = some 0 := by decide +kernel
set_option maxHeartbeats 4000000 in
set_option maxRecDepth 100000 in
theorem c_X7_refuseNo (l : Launch) (D : va_G) (y : Nat → ClassId) (o : Nat) (g_land g_images g_kept g_text g_textLength g_above g_below g_bads g_fulls g_roads g_reader g_traveller g_questions : Value) (v_nos : Int32) (r : Int32 × Int32) (h : p_X7_refuseNo v_nos = some r) : z_MI l yX7_refuseNo cX7_refuseNo 1 (some .int) 0 0 D y [.ref o] [(o, .inr (6, [g_land, g_images, g_kept, g_text, g_textLength, g_above, g_below, g_bads, .int v_nos, g_fulls, g_roads, g_reader, g_traveller, g_questions]))] r.1 [(o, .inr (6, [g_land, g_images, g_kept, g_text, g_textLength, g_above, g_below, g_bads, .int r.2, g_fulls, g_roads, g_reader, g_traveller, g_questions]))] := by
  unfold p_X7_refuseNo at h
  refine z_enI (by decide) (Nat.le_of_ble_eq_true rfl) ?_
  intro p e s m args below meth c A ls hr K hH hl
  obtain ⟨Q, hQ⟩ : ∃ Q, Q = MQ below (z_Qi D y A r.1 [(o, .inr (6, [g_land, g_images, g_kept, g_text, g_textLength, g_above, g_below, g_bads, .int r.2, g_fulls, g_roads, g_reader, g_traveller, g_questions]))]) args s 0 0 A := ⟨_, rfl⟩
  rw [← hQ]
  have hl : lv_has ls 1 [(0, .ref o)] := hl
  refine lv_aload_n K.x K.b dX7_refuseNo_0 rfl (lv_at hl 0 rfl) ?_
  refine lv_dup K.x K.b dX7_refuseNo_1 rfl ?_
  refine z_get K hH 0 rfl zin_7 rfl 8 (by decide) tw_1_205 (v := .int v_nos) rfl dX7_refuseNo_2 ?_
  refine lv_iconst (v := (1)) K.x K.b dX7_refuseNo_5 (by decide) ?_
  refine lv_iadd K.x K.b dX7_refuseNo_6 ?_
  obtain ⟨x1, ex1, h⟩ := z_lt_e h
  refine z_nm ex1 ?_
  refine z_put K hH 0 (ws' := [(o, .inr (6, [g_land, g_images, g_kept, g_text, g_textLength, g_above, g_below, g_bads, .int x1, g_fulls, g_roads, g_reader, g_traveller, g_questions]))]) rfl zin_7 rfl tyX7 tyX7_ok nmX7 8 (by decide) tw_1_205 rfl rfl rfl (Nat.le_of_ble_eq_true rfl) dX7_refuseNo_7 rfl (fun H locs hH => ?_)
  refine lv_bipush (v := (-3)) K.x K.b dX7_refuseNo_10 (by decide) ?_
  have hr9 := Option.some.inj h
  obtain rfl := hr9
  rw [hQ]
  exact z_reti K hr hH [0] (by decide) rfl rfl rfl dX7_refuseNo_12
def p_X7_of (v_bads : Int32) (v_land_crows : Int32) (f_land_crowKind : (Nat → Int32)) (f_land_now_at : (Nat → Int32)) (f_land_now_tired : (Nat → Int32)) (p1 : Int32) (p2 : Int32) : Option (Int32 × Int32) :=
  z_bd (p_X0_hasCrow v_land_crows p1) fun r1 =>
  if (r1 = 0) then
  (z_bd (p_X7_refuseBad v_bads) fun r4 =>
  some (r4.1, r4.2)) else
  (z_bd (p_X7_within p2 (0 : Int32) (2 : Int32)) fun r6 =>
  if (r6 = 0) then
  (z_bd (p_X7_refuseBad v_bads) fun r11 =>
  some (r11.1, r11.2)) else
  (z_bd (p_X0_aboutCrow f_land_crowKind f_land_now_at f_land_now_tired p1 p2) fun r9 =>
  some (r9, v_bads)))
theorem hd_X7_of : yX7_of.cls = RX7 ∧ yX7_of.cls ≠ "java/lang/invoke/MethodHandle" ∧ yX7_of.cls ≠ "java/lang/invoke/VarHandle" ∧ (parseMethodDescriptor yX7_of.desc).map (fun d => d.parameters.length) = some 2 := by decide +kernel
set_option maxHeartbeats 4000000 in
set_option maxRecDepth 100000 in
theorem c_X7_of (l : Launch) (D : va_G) (y : Nat → ClassId) (o o_land o_land_crowKind o_land_now o_land_now_at o_land_now_tired : Nat) (g_images g_kept g_text g_textLength g_above g_below g_nos g_fulls g_roads g_reader g_traveller g_questions g_land_placeKind g_land_placeX g_land_placeY g_land_places g_land_past g_land_pasts g_land_notes g_land_marks g_land_now_deedRows g_land_now_deeds g_land_now_hour : Value) (v_bads : Int32) (v_land_crows : Int32) (f_land_crowKind : (Nat → Int32)) (f_land_now_at : (Nat → Int32)) (f_land_now_tired : (Nat → Int32)) (p1 : Int32) (p2 : Int32) (r : Int32 × Int32) (h : p_X7_of v_bads v_land_crows f_land_crowKind f_land_now_at f_land_now_tired p1 p2 = some r) : z_MI l yX7_of cX7_of 3 (some .int) 1 22 D y [.ref o, .int p1, .int p2] [(o, .inr (6, [.ref o_land, g_images, g_kept, g_text, g_textLength, g_above, g_below, .int v_bads, g_nos, g_fulls, g_roads, g_reader, g_traveller, g_questions])), (o_land, .inr (0, [g_land_placeKind, g_land_placeX, g_land_placeY, g_land_places, .ref o_land_crowKind, .int v_land_crows, .ref o_land_now, g_land_past, g_land_pasts, g_land_notes, g_land_marks])), (o_land_crowKind, .inl (y 0, 3, .inl f_land_crowKind)), (o_land_now, .inr (1, [.ref o_land_now_at, .ref o_land_now_tired, g_land_now_deedRows, g_land_now_deeds, g_land_now_hour])), (o_land_now_at, .inl (y 0, 3, .inl f_land_now_at)), (o_land_now_tired, .inl (y 0, 3, .inl f_land_now_tired))] r.1 [(o, .inr (6, [.ref o_land, g_images, g_kept, g_text, g_textLength, g_above, g_below, .int r.2, g_nos, g_fulls, g_roads, g_reader, g_traveller, g_questions])), (o_land, .inr (0, [g_land_placeKind, g_land_placeX, g_land_placeY, g_land_places, .ref o_land_crowKind, .int v_land_crows, .ref o_land_now, g_land_past, g_land_pasts, g_land_notes, g_land_marks])), (o_land_crowKind, .inl (y 0, 3, .inl f_land_crowKind)), (o_land_now, .inr (1, [.ref o_land_now_at, .ref o_land_now_tired, g_land_now_deedRows, g_land_now_deeds, g_land_now_hour])), (o_land_now_at, .inl (y 0, 3, .inl f_land_now_at)), (o_land_now_tired, .inl (y 0, 3, .inl f_land_now_tired))] := by
  unfold p_X7_of at h
  refine z_enI (by decide) (Nat.le_of_ble_eq_true rfl) ?_
  intro p e s m args below meth c A ls hr K hH hl
  obtain ⟨Q, hQ⟩ : ∃ Q, Q = MQ below (z_Qi D y A r.1 [(o, .inr (6, [.ref o_land, g_images, g_kept, g_text, g_textLength, g_above, g_below, .int r.2, g_nos, g_fulls, g_roads, g_reader, g_traveller, g_questions])), (o_land, .inr (0, [g_land_placeKind, g_land_placeX, g_land_placeY, g_land_places, .ref o_land_crowKind, .int v_land_crows, .ref o_land_now, g_land_past, g_land_pasts, g_land_notes, g_land_marks])), (o_land_crowKind, .inl (y 0, 3, .inl f_land_crowKind)), (o_land_now, .inr (1, [.ref o_land_now_at, .ref o_land_now_tired, g_land_now_deedRows, g_land_now_deeds, g_land_now_hour])), (o_land_now_at, .inl (y 0, 3, .inl f_land_now_at)), (o_land_now_tired, .inl (y 0, 3, .inl f_land_now_tired))]) args s 0 0 A := ⟨_, rfl⟩
  rw [← hQ]
  have hl : lv_has ls 3 [(0, .ref o), (1, .int p1), (2, .int p2)] := hl
  refine lv_aload_n K.x K.b dX7_of_0 rfl (lv_at hl 0 rfl) ?_
  refine z_get K hH 0 rfl zin_7 rfl 0 (by decide) tw_1_197 (v := .ref o_land) rfl dX7_of_1 ?_
  refine lv_iload_n K.x K.b dX7_of_4 rfl (lv_at hl 1 rfl) ?_
  obtain ⟨r1, hr2, h⟩ := z_bd_e h
  refine z_Vi K hH hl.1 (c_X0_hasCrow l D y o_land (g_land_placeKind) (g_land_placeX) (g_land_placeY) (g_land_places) (.ref o_land_crowKind) (.ref o_land_now) (g_land_past) (g_land_pasts) (g_land_notes) (g_land_marks) v_land_crows p1 r1 hr2) (z_cwV K 1 tw_2_223 tw_2_224 tw_2_225 tw_1_2 tw_2_226 hd_X0_hasCrow ⟨by decide, by decide⟩) [1] [0, 2, 3, 4, 5] rfl (wr := [(o, .inr (6, [.ref o_land, g_images, g_kept, g_text, g_textLength, g_above, g_below, .int v_bads, g_nos, g_fulls, g_roads, g_reader, g_traveller, g_questions])), (o_land_crowKind, .inl (y 0, 3, .inl f_land_crowKind)), (o_land_now, .inr (1, [.ref o_land_now_at, .ref o_land_now_tired, g_land_now_deedRows, g_land_now_deeds, g_land_now_hour])), (o_land_now_at, .inl (y 0, 3, .inl f_land_now_at)), (o_land_now_tired, .inl (y 0, 3, .inl f_land_now_tired))]) rfl rfl rfl (by decide) rfl rfl rfl (As := [.int p1]) (rest := []) rfl (Nat.le_of_ble_eq_true rfl) ⟨Nat.zero_le _, Nat.zero_le _⟩ dX7_of_5 (ws' := [(o, .inr (6, [.ref o_land, g_images, g_kept, g_text, g_textLength, g_above, g_below, .int v_bads, g_nos, g_fulls, g_roads, g_reader, g_traveller, g_questions])), (o_land_crowKind, .inl (y 0, 3, .inl f_land_crowKind)), (o_land_now, .inr (1, [.ref o_land_now_at, .ref o_land_now_tired, g_land_now_deedRows, g_land_now_deeds, g_land_now_hour])), (o_land_now_at, .inl (y 0, 3, .inl f_land_now_at)), (o_land_now_tired, .inl (y 0, 3, .inl f_land_now_tired)), (o_land, .inr (0, [g_land_placeKind, g_land_placeX, g_land_placeY, g_land_places, .ref o_land_crowKind, .int v_land_crows, .ref o_land_now, g_land_past, g_land_pasts, g_land_notes, g_land_marks]))]) rfl (fun H locs hH => ?_)
  refine lv_if_eq (tgt := 20) K.x K.b dX7_of_8 (by decide) (fun c3 => ?_) (fun c3 => ?_)
  · replace h := z_t c3 h
    refine lv_aload_n K.x K.b dX7_of_20 rfl (lv_at hl 0 rfl) ?_
    obtain ⟨r4, hr5, h⟩ := z_bd_e h
    refine z_Vi K hH hl.1 (c_X7_refuseBad l D y o (.ref o_land) (g_images) (g_kept) (g_text) (g_textLength) (g_above) (g_below) (g_nos) (g_fulls) (g_roads) (g_reader) (g_traveller) (g_questions) v_bads r4 hr5) (z_cwV K 0 tw_2_18 tw_2_20 tw_0_0 tw_1_1 tw_2_21 hd_X7_refuseBad ⟨by decide, by decide⟩) [0] [1, 2, 3, 4, 5] rfl (wr := [(o_land_crowKind, .inl (y 0, 3, .inl f_land_crowKind)), (o_land_now, .inr (1, [.ref o_land_now_at, .ref o_land_now_tired, g_land_now_deedRows, g_land_now_deeds, g_land_now_hour])), (o_land_now_at, .inl (y 0, 3, .inl f_land_now_at)), (o_land_now_tired, .inl (y 0, 3, .inl f_land_now_tired)), (o_land, .inr (0, [g_land_placeKind, g_land_placeX, g_land_placeY, g_land_places, .ref o_land_crowKind, .int v_land_crows, .ref o_land_now, g_land_past, g_land_pasts, g_land_notes, g_land_marks]))]) rfl rfl rfl (by decide) rfl rfl rfl (As := []) (rest := []) rfl (Nat.le_of_ble_eq_true rfl) ⟨Nat.zero_le _, Nat.zero_le _⟩ dX7_of_21 (ws' := [(o_land_crowKind, .inl (y 0, 3, .inl f_land_crowKind)), (o_land_now, .inr (1, [.ref o_land_now_at, .ref o_land_now_tired, g_land_now_deedRows, g_land_now_deeds, g_land_now_hour])), (o_land_now_at, .inl (y 0, 3, .inl f_land_now_at)), (o_land_now_tired, .inl (y 0, 3, .inl f_land_now_tired)), (o_land, .inr (0, [g_land_placeKind, g_land_placeX, g_land_placeY, g_land_places, .ref o_land_crowKind, .int v_land_crows, .ref o_land_now, g_land_past, g_land_pasts, g_land_notes, g_land_marks])), (o, .inr (6, [.ref o_land, g_images, g_kept, g_text, g_textLength, g_above, g_below, .int r4.2, g_nos, g_fulls, g_roads, g_reader, g_traveller, g_questions]))]) rfl (fun H locs hH => ?_)
    have hr9 := Option.some.inj h
    obtain rfl := hr9
    rw [hQ]
    exact z_reti K hr hH [5, 4, 0, 1, 2, 3] (by decide) rfl rfl rfl dX7_of_24
  · replace h := z_f c3 h
    refine lv_iload_n K.x K.b dX7_of_11 rfl (lv_at hl 2 rfl) ?_
    refine lv_iconst (v := (0)) K.x K.b dX7_of_12 (by decide) ?_
    refine lv_iconst (v := (2)) K.x K.b dX7_of_13 (by decide) ?_
    obtain ⟨r6, hr7, h⟩ := z_bd_e h
    refine z_Si K hH hl.1 (c_X7_within l D y p2 (0 : Int32) (2 : Int32) r6 hr7) (z_cwS K 3 tw_2_15 tw_2_16 tw_1_1 tw_2_17 hd_X7_within ⟨by decide, by decide⟩) rfl (As := [.int p2, .int (0 : Int32), .int (2 : Int32)]) (rest := []) rfl (Nat.le_of_ble_eq_true rfl) ⟨Nat.zero_le _, Nat.zero_le _⟩ dX7_of_14 (fun H locs hH => ?_)
    refine lv_if_ne (tgt := 25) K.x K.b dX7_of_17 (by decide) (fun c8 => ?_) (fun c8 => ?_)
    · replace h := z_f c8 h
      refine lv_aload_n K.x K.b dX7_of_25 rfl (lv_at hl 0 rfl) ?_
      refine z_get K hH 0 rfl zin_7 rfl 0 (by decide) tw_1_197 (v := .ref o_land) rfl dX7_of_26 ?_
      refine lv_iload_n K.x K.b dX7_of_29 rfl (lv_at hl 1 rfl) ?_
      refine lv_iload_n K.x K.b dX7_of_30 rfl (lv_at hl 2 rfl) ?_
      obtain ⟨r9, hr10, h⟩ := z_bd_e h
      refine z_Vi K hH hl.1 (c_X0_aboutCrow l D y o_land o_land_crowKind o_land_now o_land_now_at o_land_now_tired (g_land_placeKind) (g_land_placeX) (g_land_placeY) (g_land_places) (.int v_land_crows) (g_land_past) (g_land_pasts) (g_land_notes) (g_land_marks) (g_land_now_deedRows) (g_land_now_deeds) (g_land_now_hour) f_land_crowKind f_land_now_at f_land_now_tired p1 p2 r9 hr10) (z_cwV K 2 tw_3_25 tw_3_26 tw_3_27 tw_1_2 tw_3_28 hd_X0_aboutCrow ⟨by decide, by decide⟩) [5, 1, 2, 3, 4] [0] rfl (wr := [(o, .inr (6, [.ref o_land, g_images, g_kept, g_text, g_textLength, g_above, g_below, .int v_bads, g_nos, g_fulls, g_roads, g_reader, g_traveller, g_questions]))]) rfl rfl rfl (by decide) rfl rfl rfl (As := [.int p1, .int p2]) (rest := []) rfl (Nat.le_of_ble_eq_true rfl) ⟨Nat.zero_le _, Nat.zero_le _⟩ dX7_of_31 (ws' := [(o, .inr (6, [.ref o_land, g_images, g_kept, g_text, g_textLength, g_above, g_below, .int v_bads, g_nos, g_fulls, g_roads, g_reader, g_traveller, g_questions])), (o_land, .inr (0, [g_land_placeKind, g_land_placeX, g_land_placeY, g_land_places, .ref o_land_crowKind, .int v_land_crows, .ref o_land_now, g_land_past, g_land_pasts, g_land_notes, g_land_marks])), (o_land_crowKind, .inl (y 0, 3, .inl f_land_crowKind)), (o_land_now, .inr (1, [.ref o_land_now_at, .ref o_land_now_tired, g_land_now_deedRows, g_land_now_deeds, g_land_now_hour])), (o_land_now_at, .inl (y 0, 3, .inl f_land_now_at)), (o_land_now_tired, .inl (y 0, 3, .inl f_land_now_tired))]) rfl (fun H locs hH => ?_)
      have hr9 := Option.some.inj h
      obtain rfl := hr9
      rw [hQ]
      exact z_reti K hr hH [0, 1, 2, 3, 4, 5] (by decide) rfl rfl rfl dX7_of_34
    · replace h := z_t c8 h
      refine lv_aload_n K.x K.b dX7_of_20 rfl (lv_at hl 0 rfl) ?_
      obtain ⟨r11, hr12, h⟩ := z_bd_e h
      refine z_Vi K hH hl.1 (c_X7_refuseBad l D y o (.ref o_land) (g_images) (g_kept) (g_text) (g_textLength) (g_above) (g_below) (g_nos) (g_fulls) (g_roads) (g_reader) (g_traveller) (g_questions) v_bads r11 hr12) (z_cwV K 0 tw_2_18 tw_2_20 tw_0_0 tw_1_1 tw_2_21 hd_X7_refuseBad ⟨by decide, by decide⟩) [0] [1, 2, 3, 4, 5] rfl (wr := [(o_land_crowKind, .inl (y 0, 3, .inl f_land_crowKind)), (o_land_now, .inr (1, [.ref o_land_now_at, .ref o_land_now_tired, g_land_now_deedRows, g_land_now_deeds, g_land_now_hour])), (o_land_now_at, .inl (y 0, 3, .inl f_land_now_at)), (o_land_now_tired, .inl (y 0, 3, .inl f_land_now_tired)), (o_land, .inr (0, [g_land_placeKind, g_land_placeX, g_land_placeY, g_land_places, .ref o_land_crowKind, .int v_land_crows, .ref o_land_now, g_land_past, g_land_pasts, g_land_notes, g_land_marks]))]) rfl rfl rfl (by decide) rfl rfl rfl (As := []) (rest := []) rfl (Nat.le_of_ble_eq_true rfl) ⟨Nat.zero_le _, Nat.zero_le _⟩ dX7_of_21 (ws' := [(o_land_crowKind, .inl (y 0, 3, .inl f_land_crowKind)), (o_land_now, .inr (1, [.ref o_land_now_at, .ref o_land_now_tired, g_land_now_deedRows, g_land_now_deeds, g_land_now_hour])), (o_land_now_at, .inl (y 0, 3, .inl f_land_now_at)), (o_land_now_tired, .inl (y 0, 3, .inl f_land_now_tired)), (o_land, .inr (0, [g_land_placeKind, g_land_placeX, g_land_placeY, g_land_places, .ref o_land_crowKind, .int v_land_crows, .ref o_land_now, g_land_past, g_land_pasts, g_land_notes, g_land_marks])), (o, .inr (6, [.ref o_land, g_images, g_kept, g_text, g_textLength, g_above, g_below, .int r11.2, g_nos, g_fulls, g_roads, g_reader, g_traveller, g_questions]))]) rfl (fun H locs hH => ?_)
      have hr9 := Option.some.inj h
      obtain rfl := hr9
      rw [hQ]
      exact z_reti K hr hH [5, 4, 0, 1, 2, 3] (by decide) rfl rfl rfl dX7_of_24
def p_X7_about (v_bads : Int32) (v_land_places : Int32) (f_land_placeKind : (Nat → Int32)) (f_land_placeX : (Nat → Int32)) (f_land_placeY : (Nat → Int32)) (p1 : Int32) (p2 : Int32) : Option (Int32 × Int32) :=
  z_bd (p_X0_hasPlace v_land_places p1) fun r1 =>
  if (r1 = 0) then
  (z_bd (p_X7_refuseBad v_bads) fun r4 =>
  some (r4.1, r4.2)) else
  (z_bd (p_X7_within p2 (0 : Int32) (2 : Int32)) fun r6 =>
  if (r6 = 0) then
  (z_bd (p_X7_refuseBad v_bads) fun r11 =>
  some (r11.1, r11.2)) else
  (z_bd (p_X0_aboutPlace f_land_placeKind f_land_placeX f_land_placeY p1 p2) fun r9 =>
  some (r9, v_bads)))
theorem hd_X7_about : yX7_about.cls = RX7 ∧ yX7_about.cls ≠ "java/lang/invoke/MethodHandle" ∧ yX7_about.cls ≠ "java/lang/invoke/VarHandle" ∧ (parseMethodDescriptor yX7_about.desc).map (fun d => d.parameters.length) = some 2 := by decide +kernel
set_option maxHeartbeats 4000000 in
set_option maxRecDepth 100000 in
theorem c_X7_about (l : Launch) (D : va_G) (y : Nat → ClassId) (o o_land o_land_placeKind o_land_placeX o_land_placeY : Nat) (g_images g_kept g_text g_textLength g_above g_below g_nos g_fulls g_roads g_reader g_traveller g_questions g_land_crowKind g_land_crows g_land_now g_land_past g_land_pasts g_land_notes g_land_marks : Value) (v_bads : Int32) (v_land_places : Int32) (f_land_placeKind : (Nat → Int32)) (f_land_placeX : (Nat → Int32)) (f_land_placeY : (Nat → Int32)) (p1 : Int32) (p2 : Int32) (r : Int32 × Int32) (h : p_X7_about v_bads v_land_places f_land_placeKind f_land_placeX f_land_placeY p1 p2 = some r) : z_MI l yX7_about cX7_about 3 (some .int) 1 22 D y [.ref o, .int p1, .int p2] [(o, .inr (6, [.ref o_land, g_images, g_kept, g_text, g_textLength, g_above, g_below, .int v_bads, g_nos, g_fulls, g_roads, g_reader, g_traveller, g_questions])), (o_land, .inr (0, [.ref o_land_placeKind, .ref o_land_placeX, .ref o_land_placeY, .int v_land_places, g_land_crowKind, g_land_crows, g_land_now, g_land_past, g_land_pasts, g_land_notes, g_land_marks])), (o_land_placeKind, .inl (y 0, 7, .inl f_land_placeKind)), (o_land_placeX, .inl (y 0, 7, .inl f_land_placeX)), (o_land_placeY, .inl (y 0, 7, .inl f_land_placeY))] r.1 [(o, .inr (6, [.ref o_land, g_images, g_kept, g_text, g_textLength, g_above, g_below, .int r.2, g_nos, g_fulls, g_roads, g_reader, g_traveller, g_questions])), (o_land, .inr (0, [.ref o_land_placeKind, .ref o_land_placeX, .ref o_land_placeY, .int v_land_places, g_land_crowKind, g_land_crows, g_land_now, g_land_past, g_land_pasts, g_land_notes, g_land_marks])), (o_land_placeKind, .inl (y 0, 7, .inl f_land_placeKind)), (o_land_placeX, .inl (y 0, 7, .inl f_land_placeX)), (o_land_placeY, .inl (y 0, 7, .inl f_land_placeY))] := by
  unfold p_X7_about at h
  refine z_enI (by decide) (Nat.le_of_ble_eq_true rfl) ?_
  intro p e s m args below meth c A ls hr K hH hl
  obtain ⟨Q, hQ⟩ : ∃ Q, Q = MQ below (z_Qi D y A r.1 [(o, .inr (6, [.ref o_land, g_images, g_kept, g_text, g_textLength, g_above, g_below, .int r.2, g_nos, g_fulls, g_roads, g_reader, g_traveller, g_questions])), (o_land, .inr (0, [.ref o_land_placeKind, .ref o_land_placeX, .ref o_land_placeY, .int v_land_places, g_land_crowKind, g_land_crows, g_land_now, g_land_past, g_land_pasts, g_land_notes, g_land_marks])), (o_land_placeKind, .inl (y 0, 7, .inl f_land_placeKind)), (o_land_placeX, .inl (y 0, 7, .inl f_land_placeX)), (o_land_placeY, .inl (y 0, 7, .inl f_land_placeY))]) args s 0 0 A := ⟨_, rfl⟩
  rw [← hQ]
  have hl : lv_has ls 3 [(0, .ref o), (1, .int p1), (2, .int p2)] := hl
  refine lv_aload_n K.x K.b dX7_about_0 rfl (lv_at hl 0 rfl) ?_
  refine z_get K hH 0 rfl zin_7 rfl 0 (by decide) tw_1_197 (v := .ref o_land) rfl dX7_about_1 ?_
  refine lv_iload_n K.x K.b dX7_about_4 rfl (lv_at hl 1 rfl) ?_
  obtain ⟨r1, hr2, h⟩ := z_bd_e h
  refine z_Vi K hH hl.1 (c_X0_hasPlace l D y o_land (.ref o_land_placeKind) (.ref o_land_placeX) (.ref o_land_placeY) (g_land_crowKind) (g_land_crows) (g_land_now) (g_land_past) (g_land_pasts) (g_land_notes) (g_land_marks) v_land_places p1 r1 hr2) (z_cwV K 1 tw_2_34 tw_2_35 tw_2_36 tw_1_2 tw_2_37 hd_X0_hasPlace ⟨by decide, by decide⟩) [1] [0, 2, 3, 4] rfl (wr := [(o, .inr (6, [.ref o_land, g_images, g_kept, g_text, g_textLength, g_above, g_below, .int v_bads, g_nos, g_fulls, g_roads, g_reader, g_traveller, g_questions])), (o_land_placeKind, .inl (y 0, 7, .inl f_land_placeKind)), (o_land_placeX, .inl (y 0, 7, .inl f_land_placeX)), (o_land_placeY, .inl (y 0, 7, .inl f_land_placeY))]) rfl rfl rfl (by decide) rfl rfl rfl (As := [.int p1]) (rest := []) rfl (Nat.le_of_ble_eq_true rfl) ⟨Nat.zero_le _, Nat.zero_le _⟩ dX7_about_5 (ws' := [(o, .inr (6, [.ref o_land, g_images, g_kept, g_text, g_textLength, g_above, g_below, .int v_bads, g_nos, g_fulls, g_roads, g_reader, g_traveller, g_questions])), (o_land_placeKind, .inl (y 0, 7, .inl f_land_placeKind)), (o_land_placeX, .inl (y 0, 7, .inl f_land_placeX)), (o_land_placeY, .inl (y 0, 7, .inl f_land_placeY)), (o_land, .inr (0, [.ref o_land_placeKind, .ref o_land_placeX, .ref o_land_placeY, .int v_land_places, g_land_crowKind, g_land_crows, g_land_now, g_land_past, g_land_pasts, g_land_notes, g_land_marks]))]) rfl (fun H locs hH => ?_)
  refine lv_if_eq (tgt := 20) K.x K.b dX7_about_8 (by decide) (fun c3 => ?_) (fun c3 => ?_)
  · replace h := z_t c3 h
    refine lv_aload_n K.x K.b dX7_about_20 rfl (lv_at hl 0 rfl) ?_
    obtain ⟨r4, hr5, h⟩ := z_bd_e h
    refine z_Vi K hH hl.1 (c_X7_refuseBad l D y o (.ref o_land) (g_images) (g_kept) (g_text) (g_textLength) (g_above) (g_below) (g_nos) (g_fulls) (g_roads) (g_reader) (g_traveller) (g_questions) v_bads r4 hr5) (z_cwV K 0 tw_2_18 tw_2_20 tw_0_0 tw_1_1 tw_2_21 hd_X7_refuseBad ⟨by decide, by decide⟩) [0] [1, 2, 3, 4] rfl (wr := [(o_land_placeKind, .inl (y 0, 7, .inl f_land_placeKind)), (o_land_placeX, .inl (y 0, 7, .inl f_land_placeX)), (o_land_placeY, .inl (y 0, 7, .inl f_land_placeY)), (o_land, .inr (0, [.ref o_land_placeKind, .ref o_land_placeX, .ref o_land_placeY, .int v_land_places, g_land_crowKind, g_land_crows, g_land_now, g_land_past, g_land_pasts, g_land_notes, g_land_marks]))]) rfl rfl rfl (by decide) rfl rfl rfl (As := []) (rest := []) rfl (Nat.le_of_ble_eq_true rfl) ⟨Nat.zero_le _, Nat.zero_le _⟩ dX7_about_21 (ws' := [(o_land_placeKind, .inl (y 0, 7, .inl f_land_placeKind)), (o_land_placeX, .inl (y 0, 7, .inl f_land_placeX)), (o_land_placeY, .inl (y 0, 7, .inl f_land_placeY)), (o_land, .inr (0, [.ref o_land_placeKind, .ref o_land_placeX, .ref o_land_placeY, .int v_land_places, g_land_crowKind, g_land_crows, g_land_now, g_land_past, g_land_pasts, g_land_notes, g_land_marks])), (o, .inr (6, [.ref o_land, g_images, g_kept, g_text, g_textLength, g_above, g_below, .int r4.2, g_nos, g_fulls, g_roads, g_reader, g_traveller, g_questions]))]) rfl (fun H locs hH => ?_)
    have hr9 := Option.some.inj h
    obtain rfl := hr9
    rw [hQ]
    exact z_reti K hr hH [4, 3, 0, 1, 2] (by decide) rfl rfl rfl dX7_about_24
  · replace h := z_f c3 h
    refine lv_iload_n K.x K.b dX7_about_11 rfl (lv_at hl 2 rfl) ?_
    refine lv_iconst (v := (0)) K.x K.b dX7_about_12 (by decide) ?_
    refine lv_iconst (v := (2)) K.x K.b dX7_about_13 (by decide) ?_
    obtain ⟨r6, hr7, h⟩ := z_bd_e h
    refine z_Si K hH hl.1 (c_X7_within l D y p2 (0 : Int32) (2 : Int32) r6 hr7) (z_cwS K 3 tw_2_15 tw_2_16 tw_1_1 tw_2_17 hd_X7_within ⟨by decide, by decide⟩) rfl (As := [.int p2, .int (0 : Int32), .int (2 : Int32)]) (rest := []) rfl (Nat.le_of_ble_eq_true rfl) ⟨Nat.zero_le _, Nat.zero_le _⟩ dX7_about_14 (fun H locs hH => ?_)
    refine lv_if_ne (tgt := 25) K.x K.b dX7_about_17 (by decide) (fun c8 => ?_) (fun c8 => ?_)
    · replace h := z_f c8 h
      refine lv_aload_n K.x K.b dX7_about_25 rfl (lv_at hl 0 rfl) ?_
      refine z_get K hH 0 rfl zin_7 rfl 0 (by decide) tw_1_197 (v := .ref o_land) rfl dX7_about_26 ?_
      refine lv_iload_n K.x K.b dX7_about_29 rfl (lv_at hl 1 rfl) ?_
      refine lv_iload_n K.x K.b dX7_about_30 rfl (lv_at hl 2 rfl) ?_
      obtain ⟨r9, hr10, h⟩ := z_bd_e h
      refine z_Vi K hH hl.1 (c_X0_aboutPlace l D y o_land o_land_placeKind o_land_placeX o_land_placeY (.int v_land_places) (g_land_crowKind) (g_land_crows) (g_land_now) (g_land_past) (g_land_pasts) (g_land_notes) (g_land_marks) f_land_placeKind f_land_placeX f_land_placeY p1 p2 r9 hr10) (z_cwV K 2 tw_3_33 tw_3_34 tw_3_35 tw_1_2 tw_3_36 hd_X0_aboutPlace ⟨by decide, by decide⟩) [4, 1, 2, 3] [0] rfl (wr := [(o, .inr (6, [.ref o_land, g_images, g_kept, g_text, g_textLength, g_above, g_below, .int v_bads, g_nos, g_fulls, g_roads, g_reader, g_traveller, g_questions]))]) rfl rfl rfl (by decide) rfl rfl rfl (As := [.int p1, .int p2]) (rest := []) rfl (Nat.le_of_ble_eq_true rfl) ⟨Nat.zero_le _, Nat.zero_le _⟩ dX7_about_31 (ws' := [(o, .inr (6, [.ref o_land, g_images, g_kept, g_text, g_textLength, g_above, g_below, .int v_bads, g_nos, g_fulls, g_roads, g_reader, g_traveller, g_questions])), (o_land, .inr (0, [.ref o_land_placeKind, .ref o_land_placeX, .ref o_land_placeY, .int v_land_places, g_land_crowKind, g_land_crows, g_land_now, g_land_past, g_land_pasts, g_land_notes, g_land_marks])), (o_land_placeKind, .inl (y 0, 7, .inl f_land_placeKind)), (o_land_placeX, .inl (y 0, 7, .inl f_land_placeX)), (o_land_placeY, .inl (y 0, 7, .inl f_land_placeY))]) rfl (fun H locs hH => ?_)
      have hr9 := Option.some.inj h
      obtain rfl := hr9
      rw [hQ]
      exact z_reti K hr hH [0, 1, 2, 3, 4] (by decide) rfl rfl rfl dX7_about_34
    · replace h := z_t c8 h
      refine lv_aload_n K.x K.b dX7_about_20 rfl (lv_at hl 0 rfl) ?_
      obtain ⟨r11, hr12, h⟩ := z_bd_e h
      refine z_Vi K hH hl.1 (c_X7_refuseBad l D y o (.ref o_land) (g_images) (g_kept) (g_text) (g_textLength) (g_above) (g_below) (g_nos) (g_fulls) (g_roads) (g_reader) (g_traveller) (g_questions) v_bads r11 hr12) (z_cwV K 0 tw_2_18 tw_2_20 tw_0_0 tw_1_1 tw_2_21 hd_X7_refuseBad ⟨by decide, by decide⟩) [0] [1, 2, 3, 4] rfl (wr := [(o_land_placeKind, .inl (y 0, 7, .inl f_land_placeKind)), (o_land_placeX, .inl (y 0, 7, .inl f_land_placeX)), (o_land_placeY, .inl (y 0, 7, .inl f_land_placeY)), (o_land, .inr (0, [.ref o_land_placeKind, .ref o_land_placeX, .ref o_land_placeY, .int v_land_places, g_land_crowKind, g_land_crows, g_land_now, g_land_past, g_land_pasts, g_land_notes, g_land_marks]))]) rfl rfl rfl (by decide) rfl rfl rfl (As := []) (rest := []) rfl (Nat.le_of_ble_eq_true rfl) ⟨Nat.zero_le _, Nat.zero_le _⟩ dX7_about_21 (ws' := [(o_land_placeKind, .inl (y 0, 7, .inl f_land_placeKind)), (o_land_placeX, .inl (y 0, 7, .inl f_land_placeX)), (o_land_placeY, .inl (y 0, 7, .inl f_land_placeY)), (o_land, .inr (0, [.ref o_land_placeKind, .ref o_land_placeX, .ref o_land_placeY, .int v_land_places, g_land_crowKind, g_land_crows, g_land_now, g_land_past, g_land_pasts, g_land_notes, g_land_marks])), (o, .inr (6, [.ref o_land, g_images, g_kept, g_text, g_textLength, g_above, g_below, .int r11.2, g_nos, g_fulls, g_roads, g_reader, g_traveller, g_questions]))]) rfl (fun H locs hH => ?_)
      have hr9 := Option.some.inj h
      obtain rfl := hr9
      rw [hQ]
      exact z_reti K hr hH [4, 3, 0, 1, 2] (by decide) rfl rfl rfl dX7_about_24
def p_X7_straight (v_bads : Int32) (v_land_places : Int32) (f_land_placeX : (Nat → Int32)) (f_land_placeY : (Nat → Int32)) (p1 : Int32) (p2 : Int32) : Option (Int32 × Int32) :=
  z_bd (p_X0_hasPlace v_land_places p1) fun r1 =>
  if (r1 = 0) then
  (z_bd (p_X7_refuseBad v_bads) fun r4 =>
  some (r4.1, r4.2)) else
  (z_bd (p_X0_hasPlace v_land_places p2) fun r6 =>
  if (r6 = 0) then
  (z_bd (p_X7_refuseBad v_bads) fun r11 =>
  some (r11.1, r11.2)) else
  (z_bd (p_X0_line f_land_placeX f_land_placeY p1 p2) fun r9 =>
  some (r9, v_bads)))
theorem hd_X7_straight : yX7_straight.cls = RX7 ∧ yX7_straight.cls ≠ "java/lang/invoke/MethodHandle" ∧ yX7_straight.cls ≠ "java/lang/invoke/VarHandle" ∧ (parseMethodDescriptor yX7_straight.desc).map (fun d => d.parameters.length) = some 2 := by decide +kernel
set_option maxHeartbeats 4000000 in
set_option maxRecDepth 100000 in
theorem c_X7_straight (l : Launch) (D : va_G) (y : Nat → ClassId) (o o_land o_land_placeX o_land_placeY : Nat) (g_images g_kept g_text g_textLength g_above g_below g_nos g_fulls g_roads g_reader g_traveller g_questions g_land_placeKind g_land_crowKind g_land_crows g_land_now g_land_past g_land_pasts g_land_notes g_land_marks : Value) (v_bads : Int32) (v_land_places : Int32) (f_land_placeX : (Nat → Int32)) (f_land_placeY : (Nat → Int32)) (p1 : Int32) (p2 : Int32) (r : Int32 × Int32) (h : p_X7_straight v_bads v_land_places f_land_placeX f_land_placeY p1 p2 = some r) : z_MI l yX7_straight cX7_straight 3 (some .int) 2 62 D y [.ref o, .int p1, .int p2] [(o, .inr (6, [.ref o_land, g_images, g_kept, g_text, g_textLength, g_above, g_below, .int v_bads, g_nos, g_fulls, g_roads, g_reader, g_traveller, g_questions])), (o_land, .inr (0, [g_land_placeKind, .ref o_land_placeX, .ref o_land_placeY, .int v_land_places, g_land_crowKind, g_land_crows, g_land_now, g_land_past, g_land_pasts, g_land_notes, g_land_marks])), (o_land_placeX, .inl (y 0, 7, .inl f_land_placeX)), (o_land_placeY, .inl (y 0, 7, .inl f_land_placeY))] r.1 [(o, .inr (6, [.ref o_land, g_images, g_kept, g_text, g_textLength, g_above, g_below, .int r.2, g_nos, g_fulls, g_roads, g_reader, g_traveller, g_questions])), (o_land, .inr (0, [g_land_placeKind, .ref o_land_placeX, .ref o_land_placeY, .int v_land_places, g_land_crowKind, g_land_crows, g_land_now, g_land_past, g_land_pasts, g_land_notes, g_land_marks])), (o_land_placeX, .inl (y 0, 7, .inl f_land_placeX)), (o_land_placeY, .inl (y 0, 7, .inl f_land_placeY))] := by
  unfold p_X7_straight at h
  refine z_enI (by decide) (Nat.le_of_ble_eq_true rfl) ?_
  intro p e s m args below meth c A ls hr K hH hl
  obtain ⟨Q, hQ⟩ : ∃ Q, Q = MQ below (z_Qi D y A r.1 [(o, .inr (6, [.ref o_land, g_images, g_kept, g_text, g_textLength, g_above, g_below, .int r.2, g_nos, g_fulls, g_roads, g_reader, g_traveller, g_questions])), (o_land, .inr (0, [g_land_placeKind, .ref o_land_placeX, .ref o_land_placeY, .int v_land_places, g_land_crowKind, g_land_crows, g_land_now, g_land_past, g_land_pasts, g_land_notes, g_land_marks])), (o_land_placeX, .inl (y 0, 7, .inl f_land_placeX)), (o_land_placeY, .inl (y 0, 7, .inl f_land_placeY))]) args s 0 0 A := ⟨_, rfl⟩
  rw [← hQ]
  have hl : lv_has ls 3 [(0, .ref o), (1, .int p1), (2, .int p2)] := hl
  refine lv_aload_n K.x K.b dX7_straight_0 rfl (lv_at hl 0 rfl) ?_
  refine z_get K hH 0 rfl zin_7 rfl 0 (by decide) tw_1_197 (v := .ref o_land) rfl dX7_straight_1 ?_
  refine lv_iload_n K.x K.b dX7_straight_4 rfl (lv_at hl 1 rfl) ?_
  obtain ⟨r1, hr2, h⟩ := z_bd_e h
  refine z_Vi K hH hl.1 (c_X0_hasPlace l D y o_land (g_land_placeKind) (.ref o_land_placeX) (.ref o_land_placeY) (g_land_crowKind) (g_land_crows) (g_land_now) (g_land_past) (g_land_pasts) (g_land_notes) (g_land_marks) v_land_places p1 r1 hr2) (z_cwV K 1 tw_2_34 tw_2_35 tw_2_36 tw_1_2 tw_2_37 hd_X0_hasPlace ⟨by decide, by decide⟩) [1] [0, 2, 3] rfl (wr := [(o, .inr (6, [.ref o_land, g_images, g_kept, g_text, g_textLength, g_above, g_below, .int v_bads, g_nos, g_fulls, g_roads, g_reader, g_traveller, g_questions])), (o_land_placeX, .inl (y 0, 7, .inl f_land_placeX)), (o_land_placeY, .inl (y 0, 7, .inl f_land_placeY))]) rfl rfl rfl (by decide) rfl rfl rfl (As := [.int p1]) (rest := []) rfl (Nat.le_of_ble_eq_true rfl) ⟨Nat.zero_le _, Nat.zero_le _⟩ dX7_straight_5 (ws' := [(o, .inr (6, [.ref o_land, g_images, g_kept, g_text, g_textLength, g_above, g_below, .int v_bads, g_nos, g_fulls, g_roads, g_reader, g_traveller, g_questions])), (o_land_placeX, .inl (y 0, 7, .inl f_land_placeX)), (o_land_placeY, .inl (y 0, 7, .inl f_land_placeY)), (o_land, .inr (0, [g_land_placeKind, .ref o_land_placeX, .ref o_land_placeY, .int v_land_places, g_land_crowKind, g_land_crows, g_land_now, g_land_past, g_land_pasts, g_land_notes, g_land_marks]))]) rfl (fun H locs hH => ?_)
  refine lv_if_eq (tgt := 22) K.x K.b dX7_straight_8 (by decide) (fun c3 => ?_) (fun c3 => ?_)
  · replace h := z_t c3 h
    refine lv_aload_n K.x K.b dX7_straight_22 rfl (lv_at hl 0 rfl) ?_
    obtain ⟨r4, hr5, h⟩ := z_bd_e h
    refine z_Vi K hH hl.1 (c_X7_refuseBad l D y o (.ref o_land) (g_images) (g_kept) (g_text) (g_textLength) (g_above) (g_below) (g_nos) (g_fulls) (g_roads) (g_reader) (g_traveller) (g_questions) v_bads r4 hr5) (z_cwV K 0 tw_2_18 tw_2_20 tw_0_0 tw_1_1 tw_2_21 hd_X7_refuseBad ⟨by decide, by decide⟩) [0] [1, 2, 3] rfl (wr := [(o_land_placeX, .inl (y 0, 7, .inl f_land_placeX)), (o_land_placeY, .inl (y 0, 7, .inl f_land_placeY)), (o_land, .inr (0, [g_land_placeKind, .ref o_land_placeX, .ref o_land_placeY, .int v_land_places, g_land_crowKind, g_land_crows, g_land_now, g_land_past, g_land_pasts, g_land_notes, g_land_marks]))]) rfl rfl rfl (by decide) rfl rfl rfl (As := []) (rest := []) rfl (Nat.le_of_ble_eq_true rfl) ⟨Nat.zero_le _, Nat.zero_le _⟩ dX7_straight_23 (ws' := [(o_land_placeX, .inl (y 0, 7, .inl f_land_placeX)), (o_land_placeY, .inl (y 0, 7, .inl f_land_placeY)), (o_land, .inr (0, [g_land_placeKind, .ref o_land_placeX, .ref o_land_placeY, .int v_land_places, g_land_crowKind, g_land_crows, g_land_now, g_land_past, g_land_pasts, g_land_notes, g_land_marks])), (o, .inr (6, [.ref o_land, g_images, g_kept, g_text, g_textLength, g_above, g_below, .int r4.2, g_nos, g_fulls, g_roads, g_reader, g_traveller, g_questions]))]) rfl (fun H locs hH => ?_)
    have hr9 := Option.some.inj h
    obtain rfl := hr9
    rw [hQ]
    exact z_reti K hr hH [3, 2, 0, 1] (by decide) rfl rfl rfl dX7_straight_26
  · replace h := z_f c3 h
    refine lv_aload_n K.x K.b dX7_straight_11 rfl (lv_at hl 0 rfl) ?_
    refine z_get K hH 0 rfl zin_7 rfl 0 (by decide) tw_1_197 (v := .ref o_land) rfl dX7_straight_12 ?_
    refine lv_iload_n K.x K.b dX7_straight_15 rfl (lv_at hl 2 rfl) ?_
    obtain ⟨r6, hr7, h⟩ := z_bd_e h
    refine z_Vi K hH hl.1 (c_X0_hasPlace l D y o_land (g_land_placeKind) (.ref o_land_placeX) (.ref o_land_placeY) (g_land_crowKind) (g_land_crows) (g_land_now) (g_land_past) (g_land_pasts) (g_land_notes) (g_land_marks) v_land_places p2 r6 hr7) (z_cwV K 1 tw_2_34 tw_2_35 tw_2_36 tw_1_2 tw_2_37 hd_X0_hasPlace ⟨by decide, by decide⟩) [3] [0, 1, 2] rfl (wr := [(o, .inr (6, [.ref o_land, g_images, g_kept, g_text, g_textLength, g_above, g_below, .int v_bads, g_nos, g_fulls, g_roads, g_reader, g_traveller, g_questions])), (o_land_placeX, .inl (y 0, 7, .inl f_land_placeX)), (o_land_placeY, .inl (y 0, 7, .inl f_land_placeY))]) rfl rfl rfl (by decide) rfl rfl rfl (As := [.int p2]) (rest := []) rfl (Nat.le_of_ble_eq_true rfl) ⟨Nat.zero_le _, Nat.zero_le _⟩ dX7_straight_16 (ws' := [(o, .inr (6, [.ref o_land, g_images, g_kept, g_text, g_textLength, g_above, g_below, .int v_bads, g_nos, g_fulls, g_roads, g_reader, g_traveller, g_questions])), (o_land_placeX, .inl (y 0, 7, .inl f_land_placeX)), (o_land_placeY, .inl (y 0, 7, .inl f_land_placeY)), (o_land, .inr (0, [g_land_placeKind, .ref o_land_placeX, .ref o_land_placeY, .int v_land_places, g_land_crowKind, g_land_crows, g_land_now, g_land_past, g_land_pasts, g_land_notes, g_land_marks]))]) rfl (fun H locs hH => ?_)
    refine lv_if_ne (tgt := 27) K.x K.b dX7_straight_19 (by decide) (fun c8 => ?_) (fun c8 => ?_)
    · replace h := z_f c8 h
      refine lv_aload_n K.x K.b dX7_straight_27 rfl (lv_at hl 0 rfl) ?_
      refine z_get K hH 0 rfl zin_7 rfl 0 (by decide) tw_1_197 (v := .ref o_land) rfl dX7_straight_28 ?_
      refine lv_iload_n K.x K.b dX7_straight_31 rfl (lv_at hl 1 rfl) ?_
      refine lv_iload_n K.x K.b dX7_straight_32 rfl (lv_at hl 2 rfl) ?_
      obtain ⟨r9, hr10, h⟩ := z_bd_e h
      refine z_Vi K hH hl.1 (c_X0_line l D y o_land o_land_placeX o_land_placeY (g_land_placeKind) (.int v_land_places) (g_land_crowKind) (g_land_crows) (g_land_now) (g_land_past) (g_land_pasts) (g_land_notes) (g_land_marks) f_land_placeX f_land_placeY p1 p2 r9 hr10) (z_cwV K 2 tw_3_41 tw_2_171 tw_2_172 tw_1_2 tw_2_173 hd_X0_line ⟨by decide, by decide⟩) [3, 1, 2] [0] rfl (wr := [(o, .inr (6, [.ref o_land, g_images, g_kept, g_text, g_textLength, g_above, g_below, .int v_bads, g_nos, g_fulls, g_roads, g_reader, g_traveller, g_questions]))]) rfl rfl rfl (by decide) rfl rfl rfl (As := [.int p1, .int p2]) (rest := []) rfl (Nat.le_of_ble_eq_true rfl) ⟨Nat.zero_le _, Nat.zero_le _⟩ dX7_straight_33 (ws' := [(o, .inr (6, [.ref o_land, g_images, g_kept, g_text, g_textLength, g_above, g_below, .int v_bads, g_nos, g_fulls, g_roads, g_reader, g_traveller, g_questions])), (o_land, .inr (0, [g_land_placeKind, .ref o_land_placeX, .ref o_land_placeY, .int v_land_places, g_land_crowKind, g_land_crows, g_land_now, g_land_past, g_land_pasts, g_land_notes, g_land_marks])), (o_land_placeX, .inl (y 0, 7, .inl f_land_placeX)), (o_land_placeY, .inl (y 0, 7, .inl f_land_placeY))]) rfl (fun H locs hH => ?_)
      have hr9 := Option.some.inj h
      obtain rfl := hr9
      rw [hQ]
      exact z_reti K hr hH [0, 1, 2, 3] (by decide) rfl rfl rfl dX7_straight_36
    · replace h := z_t c8 h
      refine lv_aload_n K.x K.b dX7_straight_22 rfl (lv_at hl 0 rfl) ?_
      obtain ⟨r11, hr12, h⟩ := z_bd_e h
      refine z_Vi K hH hl.1 (c_X7_refuseBad l D y o (.ref o_land) (g_images) (g_kept) (g_text) (g_textLength) (g_above) (g_below) (g_nos) (g_fulls) (g_roads) (g_reader) (g_traveller) (g_questions) v_bads r11 hr12) (z_cwV K 0 tw_2_18 tw_2_20 tw_0_0 tw_1_1 tw_2_21 hd_X7_refuseBad ⟨by decide, by decide⟩) [0] [1, 2, 3] rfl (wr := [(o_land_placeX, .inl (y 0, 7, .inl f_land_placeX)), (o_land_placeY, .inl (y 0, 7, .inl f_land_placeY)), (o_land, .inr (0, [g_land_placeKind, .ref o_land_placeX, .ref o_land_placeY, .int v_land_places, g_land_crowKind, g_land_crows, g_land_now, g_land_past, g_land_pasts, g_land_notes, g_land_marks]))]) rfl rfl rfl (by decide) rfl rfl rfl (As := []) (rest := []) rfl (Nat.le_of_ble_eq_true rfl) ⟨Nat.zero_le _, Nat.zero_le _⟩ dX7_straight_23 (ws' := [(o_land_placeX, .inl (y 0, 7, .inl f_land_placeX)), (o_land_placeY, .inl (y 0, 7, .inl f_land_placeY)), (o_land, .inr (0, [g_land_placeKind, .ref o_land_placeX, .ref o_land_placeY, .int v_land_places, g_land_crowKind, g_land_crows, g_land_now, g_land_past, g_land_pasts, g_land_notes, g_land_marks])), (o, .inr (6, [.ref o_land, g_images, g_kept, g_text, g_textLength, g_above, g_below, .int r11.2, g_nos, g_fulls, g_roads, g_reader, g_traveller, g_questions]))]) rfl (fun H locs hH => ?_)
      have hr9 := Option.some.inj h
      obtain rfl := hr9
      rw [hQ]
      exact z_reti K hr hH [3, 2, 0, 1] (by decide) rfl rfl rfl dX7_straight_26
def p_X7_isTrip (v_land_places : Int32) (v_land_crows : Int32) (p1 : Int32) (p2 : Int32) (p3 : Int32) : Option (Int32) :=
  z_bd (p_X0_hasCrow v_land_crows p1) fun r1 =>
  z_bd (α := Int32) (if (r1 = 0) then
  (some (0 : Int32)) else
  (z_bd (p_X0_hasPlace v_land_places p2) fun r6 =>
  if (r6 = 0) then
  (some (0 : Int32)) else
  (z_bd (p_X0_hasPlace v_land_places p3) fun r9 =>
  if (r9 = 0) then
  (some (0 : Int32)) else
  (some (1 : Int32))))) fun j3 =>
  z_gd (z_bz j3) <|
  some j3
theorem hd_X7_isTrip : yX7_isTrip.cls = RX7 ∧ yX7_isTrip.cls ≠ "java/lang/invoke/MethodHandle" ∧ yX7_isTrip.cls ≠ "java/lang/invoke/VarHandle" ∧ (parseMethodDescriptor yX7_isTrip.desc).map (fun d => d.parameters.length) = some 3 := by decide +kernel
set_option maxHeartbeats 4000000 in
set_option maxRecDepth 100000 in
theorem c_X7_isTrip (l : Launch) (D : va_G) (y : Nat → ClassId) (o o_land : Nat) (g_images g_kept g_text g_textLength g_above g_below g_bads g_nos g_fulls g_roads g_reader g_traveller g_questions g_land_placeKind g_land_placeX g_land_placeY g_land_crowKind g_land_now g_land_past g_land_pasts g_land_notes g_land_marks : Value) (v_land_places : Int32) (v_land_crows : Int32) (p1 : Int32) (p2 : Int32) (p3 : Int32) (r : Int32) (h : p_X7_isTrip v_land_places v_land_crows p1 p2 p3 = some r) : z_MI l yX7_isTrip cX7_isTrip 4 (some .boolean) 1 21 D y [.ref o, .int p1, .int p2, .int p3] [(o, .inr (6, [.ref o_land, g_images, g_kept, g_text, g_textLength, g_above, g_below, g_bads, g_nos, g_fulls, g_roads, g_reader, g_traveller, g_questions])), (o_land, .inr (0, [g_land_placeKind, g_land_placeX, g_land_placeY, .int v_land_places, g_land_crowKind, .int v_land_crows, g_land_now, g_land_past, g_land_pasts, g_land_notes, g_land_marks]))] r [(o, .inr (6, [.ref o_land, g_images, g_kept, g_text, g_textLength, g_above, g_below, g_bads, g_nos, g_fulls, g_roads, g_reader, g_traveller, g_questions])), (o_land, .inr (0, [g_land_placeKind, g_land_placeX, g_land_placeY, .int v_land_places, g_land_crowKind, .int v_land_crows, g_land_now, g_land_past, g_land_pasts, g_land_notes, g_land_marks]))] := by
  unfold p_X7_isTrip at h
  refine z_enI (by decide) (Nat.le_of_ble_eq_true rfl) ?_
  intro p e s m args below meth c A ls hr K hH hl
  obtain ⟨Q, hQ⟩ : ∃ Q, Q = MQ below (z_Qi D y A r [(o, .inr (6, [.ref o_land, g_images, g_kept, g_text, g_textLength, g_above, g_below, g_bads, g_nos, g_fulls, g_roads, g_reader, g_traveller, g_questions])), (o_land, .inr (0, [g_land_placeKind, g_land_placeX, g_land_placeY, .int v_land_places, g_land_crowKind, .int v_land_crows, g_land_now, g_land_past, g_land_pasts, g_land_notes, g_land_marks]))]) args s 0 0 A := ⟨_, rfl⟩
  rw [← hQ]
  have hl : lv_has ls 4 [(0, .ref o), (1, .int p1), (2, .int p2), (3, .int p3)] := hl
  refine lv_aload_n K.x K.b dX7_isTrip_0 rfl (lv_at hl 0 rfl) ?_
  refine z_get K hH 0 rfl zin_7 rfl 0 (by decide) tw_1_197 (v := .ref o_land) rfl dX7_isTrip_1 ?_
  refine lv_iload_n K.x K.b dX7_isTrip_4 rfl (lv_at hl 1 rfl) ?_
  obtain ⟨r1, hr2, h⟩ := z_bd_e h
  refine z_Vi K hH hl.1 (c_X0_hasCrow l D y o_land (g_land_placeKind) (g_land_placeX) (g_land_placeY) (.int v_land_places) (g_land_crowKind) (g_land_now) (g_land_past) (g_land_pasts) (g_land_notes) (g_land_marks) v_land_crows p1 r1 hr2) (z_cwV K 1 tw_2_223 tw_2_224 tw_2_225 tw_1_2 tw_2_226 hd_X0_hasCrow ⟨by decide, by decide⟩) [1] [0] rfl (wr := [(o, .inr (6, [.ref o_land, g_images, g_kept, g_text, g_textLength, g_above, g_below, g_bads, g_nos, g_fulls, g_roads, g_reader, g_traveller, g_questions]))]) rfl rfl rfl (by decide) rfl rfl rfl (As := [.int p1]) (rest := []) rfl (Nat.le_of_ble_eq_true rfl) ⟨Nat.zero_le _, Nat.zero_le _⟩ dX7_isTrip_5 (ws' := [(o, .inr (6, [.ref o_land, g_images, g_kept, g_text, g_textLength, g_above, g_below, g_bads, g_nos, g_fulls, g_roads, g_reader, g_traveller, g_questions])), (o_land, .inr (0, [g_land_placeKind, g_land_placeX, g_land_placeY, .int v_land_places, g_land_crowKind, .int v_land_crows, g_land_now, g_land_past, g_land_pasts, g_land_notes, g_land_marks]))]) rfl (fun H locs hH => ?_)
  obtain ⟨j3, hj3, h⟩ := z_bd_e h
  have Kj3 : ∀ (H : Heap) (locs : List Loc) (ls : Array Slot), z_H D A s.heap [(o, .inr (6, [.ref o_land, g_images, g_kept, g_text, g_textLength, g_above, g_below, g_bads, g_nos, g_fulls, g_roads, g_reader, g_traveller, g_questions])), (o_land, .inr (0, [g_land_placeKind, g_land_placeX, g_land_placeY, .int v_land_places, g_land_crowKind, .int v_land_crows, g_land_now, g_land_past, g_land_pasts, g_land_notes, g_land_marks]))] H locs → lv_has ls 4 [] → W p l e (zR 1 21) s m args below meth c H locs 0 0 Q (F0 m 38 ls [.int j3]) := by
    intro H locs ls hH hl
    obtain ⟨g4, h⟩ := z_gd_e h
    have hr9 := Option.some.inj h
    obtain rfl := hr9
    rw [hQ]
    exact z_reti K hr hH [0, 1] (by decide) rfl rfl (z_bz_e g4) dX7_isTrip_38
  replace h := hj3
  refine lv_if_eq (tgt := 37) K.x K.b dX7_isTrip_8 (by decide) (fun c5 => ?_) (fun c5 => ?_)
  · replace h := z_t c5 h
    refine lv_iconst (v := (0)) K.x K.b dX7_isTrip_37 (by decide) ?_
    obtain rfl := Option.some.inj h
    exact Kj3 _ _ _ hH (lv_sub hl [] rfl)
  · replace h := z_f c5 h
    refine lv_aload_n K.x K.b dX7_isTrip_11 rfl (lv_at hl 0 rfl) ?_
    refine z_get K hH 0 rfl zin_7 rfl 0 (by decide) tw_1_197 (v := .ref o_land) rfl dX7_isTrip_12 ?_
    refine lv_iload_n K.x K.b dX7_isTrip_15 rfl (lv_at hl 2 rfl) ?_
    obtain ⟨r6, hr7, h⟩ := z_bd_e h
    refine z_Vi K hH hl.1 (c_X0_hasPlace l D y o_land (g_land_placeKind) (g_land_placeX) (g_land_placeY) (g_land_crowKind) (.int v_land_crows) (g_land_now) (g_land_past) (g_land_pasts) (g_land_notes) (g_land_marks) v_land_places p2 r6 hr7) (z_cwV K 1 tw_2_34 tw_2_35 tw_2_36 tw_1_2 tw_2_37 hd_X0_hasPlace ⟨by decide, by decide⟩) [1] [0] rfl (wr := [(o, .inr (6, [.ref o_land, g_images, g_kept, g_text, g_textLength, g_above, g_below, g_bads, g_nos, g_fulls, g_roads, g_reader, g_traveller, g_questions]))]) rfl rfl rfl (by decide) rfl rfl rfl (As := [.int p2]) (rest := []) rfl (Nat.le_of_ble_eq_true rfl) ⟨Nat.zero_le _, Nat.zero_le _⟩ dX7_isTrip_16 (ws' := [(o, .inr (6, [.ref o_land, g_images, g_kept, g_text, g_textLength, g_above, g_below, g_bads, g_nos, g_fulls, g_roads, g_reader, g_traveller, g_questions])), (o_land, .inr (0, [g_land_placeKind, g_land_placeX, g_land_placeY, .int v_land_places, g_land_crowKind, .int v_land_crows, g_land_now, g_land_past, g_land_pasts, g_land_notes, g_land_marks]))]) rfl (fun H locs hH => ?_)
    refine lv_if_eq (tgt := 37) K.x K.b dX7_isTrip_19 (by decide) (fun c8 => ?_) (fun c8 => ?_)
    · replace h := z_t c8 h
      refine lv_iconst (v := (0)) K.x K.b dX7_isTrip_37 (by decide) ?_
      obtain rfl := Option.some.inj h
      exact Kj3 _ _ _ hH (lv_sub hl [] rfl)
    · replace h := z_f c8 h
      refine lv_aload_n K.x K.b dX7_isTrip_22 rfl (lv_at hl 0 rfl) ?_
      refine z_get K hH 0 rfl zin_7 rfl 0 (by decide) tw_1_197 (v := .ref o_land) rfl dX7_isTrip_23 ?_
      refine lv_iload_n K.x K.b dX7_isTrip_26 rfl (lv_at hl 3 rfl) ?_
      obtain ⟨r9, hr10, h⟩ := z_bd_e h
      refine z_Vi K hH hl.1 (c_X0_hasPlace l D y o_land (g_land_placeKind) (g_land_placeX) (g_land_placeY) (g_land_crowKind) (.int v_land_crows) (g_land_now) (g_land_past) (g_land_pasts) (g_land_notes) (g_land_marks) v_land_places p3 r9 hr10) (z_cwV K 1 tw_2_34 tw_2_35 tw_2_36 tw_1_2 tw_2_37 hd_X0_hasPlace ⟨by decide, by decide⟩) [1] [0] rfl (wr := [(o, .inr (6, [.ref o_land, g_images, g_kept, g_text, g_textLength, g_above, g_below, g_bads, g_nos, g_fulls, g_roads, g_reader, g_traveller, g_questions]))]) rfl rfl rfl (by decide) rfl rfl rfl (As := [.int p3]) (rest := []) rfl (Nat.le_of_ble_eq_true rfl) ⟨Nat.zero_le _, Nat.zero_le _⟩ dX7_isTrip_27 (ws' := [(o, .inr (6, [.ref o_land, g_images, g_kept, g_text, g_textLength, g_above, g_below, g_bads, g_nos, g_fulls, g_roads, g_reader, g_traveller, g_questions])), (o_land, .inr (0, [g_land_placeKind, g_land_placeX, g_land_placeY, .int v_land_places, g_land_crowKind, .int v_land_crows, g_land_now, g_land_past, g_land_pasts, g_land_notes, g_land_marks]))]) rfl (fun H locs hH => ?_)
      refine lv_if_eq (tgt := 37) K.x K.b dX7_isTrip_30 (by decide) (fun c11 => ?_) (fun c11 => ?_)
      · replace h := z_t c11 h
        refine lv_iconst (v := (0)) K.x K.b dX7_isTrip_37 (by decide) ?_
        obtain rfl := Option.some.inj h
        exact Kj3 _ _ _ hH (lv_sub hl [] rfl)
      · replace h := z_f c11 h
        refine lv_iconst (v := (1)) K.x K.b dX7_isTrip_33 (by decide) ?_
        refine lv_goto (tgt := 38) K.x K.b dX7_isTrip_34 (by decide) ?_
        obtain rfl := Option.some.inj h
        exact Kj3 _ _ _ hH (lv_sub hl [] rfl)
def p_X7_far (v_bads : Int32) (v_land_places : Int32) (v_land_crows : Int32) (f_land_placeKind : (Nat → Int32)) (f_land_placeX : (Nat → Int32)) (f_land_placeY : (Nat → Int32)) (f_land_crowKind : (Nat → Int32)) (v_land_now_hour : Int32) (f_land_now_tired : (Nat → Int32)) (p1 : Int32) (p2 : Int32) (p3 : Int32) : Option (Int32 × Int32) :=
  z_bd (p_X7_isTrip v_land_places v_land_crows p1 p2 p3) fun r1 =>
  if (r1 = 0) then
  (z_bd (p_X7_refuseBad v_bads) fun r6 =>
  some (r6.1, r6.2)) else
  (z_bd (p_X0_farNow f_land_placeKind f_land_placeX f_land_placeY f_land_crowKind v_land_now_hour f_land_now_tired p1 p2 p3) fun r4 =>
  some (r4, v_bads))
theorem hd_X7_far : yX7_far.cls = RX7 ∧ yX7_far.cls ≠ "java/lang/invoke/MethodHandle" ∧ yX7_far.cls ≠ "java/lang/invoke/VarHandle" ∧ (parseMethodDescriptor yX7_far.desc).map (fun d => d.parameters.length) = some 3 := by decide +kernel
set_option maxHeartbeats 4000000 in
set_option maxRecDepth 100000 in
theorem c_X7_far (l : Launch) (D : va_G) (y : Nat → ClassId) (o o_land o_land_placeKind o_land_placeX o_land_placeY o_land_crowKind o_land_now o_land_now_tired : Nat) (g_images g_kept g_text g_textLength g_above g_below g_nos g_fulls g_roads g_reader g_traveller g_questions g_land_past g_land_pasts g_land_notes g_land_marks g_land_now_at g_land_now_deedRows g_land_now_deeds : Value) (v_bads : Int32) (v_land_places : Int32) (v_land_crows : Int32) (f_land_placeKind : (Nat → Int32)) (f_land_placeX : (Nat → Int32)) (f_land_placeY : (Nat → Int32)) (f_land_crowKind : (Nat → Int32)) (v_land_now_hour : Int32) (f_land_now_tired : (Nat → Int32)) (p1 : Int32) (p2 : Int32) (p3 : Int32) (r : Int32 × Int32) (h : p_X7_far v_bads v_land_places v_land_crows f_land_placeKind f_land_placeX f_land_placeY f_land_crowKind v_land_now_hour f_land_now_tired p1 p2 p3 = some r) : z_MI l yX7_far cX7_far 4 (some .int) 4 111 D y [.ref o, .int p1, .int p2, .int p3] [(o, .inr (6, [.ref o_land, g_images, g_kept, g_text, g_textLength, g_above, g_below, .int v_bads, g_nos, g_fulls, g_roads, g_reader, g_traveller, g_questions])), (o_land, .inr (0, [.ref o_land_placeKind, .ref o_land_placeX, .ref o_land_placeY, .int v_land_places, .ref o_land_crowKind, .int v_land_crows, .ref o_land_now, g_land_past, g_land_pasts, g_land_notes, g_land_marks])), (o_land_placeKind, .inl (y 0, 7, .inl f_land_placeKind)), (o_land_placeX, .inl (y 0, 7, .inl f_land_placeX)), (o_land_placeY, .inl (y 0, 7, .inl f_land_placeY)), (o_land_crowKind, .inl (y 0, 3, .inl f_land_crowKind)), (o_land_now, .inr (1, [g_land_now_at, .ref o_land_now_tired, g_land_now_deedRows, g_land_now_deeds, .int v_land_now_hour])), (o_land_now_tired, .inl (y 0, 3, .inl f_land_now_tired))] r.1 [(o, .inr (6, [.ref o_land, g_images, g_kept, g_text, g_textLength, g_above, g_below, .int r.2, g_nos, g_fulls, g_roads, g_reader, g_traveller, g_questions])), (o_land, .inr (0, [.ref o_land_placeKind, .ref o_land_placeX, .ref o_land_placeY, .int v_land_places, .ref o_land_crowKind, .int v_land_crows, .ref o_land_now, g_land_past, g_land_pasts, g_land_notes, g_land_marks])), (o_land_placeKind, .inl (y 0, 7, .inl f_land_placeKind)), (o_land_placeX, .inl (y 0, 7, .inl f_land_placeX)), (o_land_placeY, .inl (y 0, 7, .inl f_land_placeY)), (o_land_crowKind, .inl (y 0, 3, .inl f_land_crowKind)), (o_land_now, .inr (1, [g_land_now_at, .ref o_land_now_tired, g_land_now_deedRows, g_land_now_deeds, .int v_land_now_hour])), (o_land_now_tired, .inl (y 0, 3, .inl f_land_now_tired))] := by
  unfold p_X7_far at h
  refine z_enI (by decide) (Nat.le_of_ble_eq_true rfl) ?_
  intro p e s m args below meth c A ls hr K hH hl
  obtain ⟨Q, hQ⟩ : ∃ Q, Q = MQ below (z_Qi D y A r.1 [(o, .inr (6, [.ref o_land, g_images, g_kept, g_text, g_textLength, g_above, g_below, .int r.2, g_nos, g_fulls, g_roads, g_reader, g_traveller, g_questions])), (o_land, .inr (0, [.ref o_land_placeKind, .ref o_land_placeX, .ref o_land_placeY, .int v_land_places, .ref o_land_crowKind, .int v_land_crows, .ref o_land_now, g_land_past, g_land_pasts, g_land_notes, g_land_marks])), (o_land_placeKind, .inl (y 0, 7, .inl f_land_placeKind)), (o_land_placeX, .inl (y 0, 7, .inl f_land_placeX)), (o_land_placeY, .inl (y 0, 7, .inl f_land_placeY)), (o_land_crowKind, .inl (y 0, 3, .inl f_land_crowKind)), (o_land_now, .inr (1, [g_land_now_at, .ref o_land_now_tired, g_land_now_deedRows, g_land_now_deeds, .int v_land_now_hour])), (o_land_now_tired, .inl (y 0, 3, .inl f_land_now_tired))]) args s 0 0 A := ⟨_, rfl⟩
  rw [← hQ]
  have hl : lv_has ls 4 [(0, .ref o), (1, .int p1), (2, .int p2), (3, .int p3)] := hl
  refine lv_aload_n K.x K.b dX7_far_0 rfl (lv_at hl 0 rfl) ?_
  refine lv_iload_n K.x K.b dX7_far_1 rfl (lv_at hl 1 rfl) ?_
  refine lv_iload_n K.x K.b dX7_far_2 rfl (lv_at hl 2 rfl) ?_
  refine lv_iload_n K.x K.b dX7_far_3 rfl (lv_at hl 3 rfl) ?_
  obtain ⟨r1, hr2, h⟩ := z_bd_e h
  refine z_Vi K hH hl.1 (c_X7_isTrip l D y o o_land (g_images) (g_kept) (g_text) (g_textLength) (g_above) (g_below) (.int v_bads) (g_nos) (g_fulls) (g_roads) (g_reader) (g_traveller) (g_questions) (.ref o_land_placeKind) (.ref o_land_placeX) (.ref o_land_placeY) (.ref o_land_crowKind) (.ref o_land_now) (g_land_past) (g_land_pasts) (g_land_notes) (g_land_marks) v_land_places v_land_crows p1 p2 p3 r1 hr2) (z_cwV K 3 tw_3_46 tw_3_48 tw_0_16 tw_1_1 tw_3_49 hd_X7_isTrip ⟨by decide, by decide⟩) [0, 1] [2, 3, 4, 5, 6, 7] rfl (wr := [(o_land_placeKind, .inl (y 0, 7, .inl f_land_placeKind)), (o_land_placeX, .inl (y 0, 7, .inl f_land_placeX)), (o_land_placeY, .inl (y 0, 7, .inl f_land_placeY)), (o_land_crowKind, .inl (y 0, 3, .inl f_land_crowKind)), (o_land_now, .inr (1, [g_land_now_at, .ref o_land_now_tired, g_land_now_deedRows, g_land_now_deeds, .int v_land_now_hour])), (o_land_now_tired, .inl (y 0, 3, .inl f_land_now_tired))]) rfl rfl rfl (by decide) rfl rfl rfl (As := [.int p1, .int p2, .int p3]) (rest := []) rfl (Nat.le_of_ble_eq_true rfl) ⟨Nat.zero_le _, Nat.zero_le _⟩ dX7_far_4 (ws' := [(o_land_placeKind, .inl (y 0, 7, .inl f_land_placeKind)), (o_land_placeX, .inl (y 0, 7, .inl f_land_placeX)), (o_land_placeY, .inl (y 0, 7, .inl f_land_placeY)), (o_land_crowKind, .inl (y 0, 3, .inl f_land_crowKind)), (o_land_now, .inr (1, [g_land_now_at, .ref o_land_now_tired, g_land_now_deedRows, g_land_now_deeds, .int v_land_now_hour])), (o_land_now_tired, .inl (y 0, 3, .inl f_land_now_tired)), (o, .inr (6, [.ref o_land, g_images, g_kept, g_text, g_textLength, g_above, g_below, .int v_bads, g_nos, g_fulls, g_roads, g_reader, g_traveller, g_questions])), (o_land, .inr (0, [.ref o_land_placeKind, .ref o_land_placeX, .ref o_land_placeY, .int v_land_places, .ref o_land_crowKind, .int v_land_crows, .ref o_land_now, g_land_past, g_land_pasts, g_land_notes, g_land_marks]))]) rfl (fun H locs hH => ?_)
  refine lv_if_ne (tgt := 15) K.x K.b dX7_far_7 (by decide) (fun c3 => ?_) (fun c3 => ?_)
  · replace h := z_f c3 h
    refine lv_aload_n K.x K.b dX7_far_15 rfl (lv_at hl 0 rfl) ?_
    refine z_get K hH 6 rfl zin_7 rfl 0 (by decide) tw_1_197 (v := .ref o_land) rfl dX7_far_16 ?_
    refine lv_iload_n K.x K.b dX7_far_19 rfl (lv_at hl 1 rfl) ?_
    refine lv_iload_n K.x K.b dX7_far_20 rfl (lv_at hl 2 rfl) ?_
    refine lv_iload_n K.x K.b dX7_far_21 rfl (lv_at hl 3 rfl) ?_
    obtain ⟨r4, hr5, h⟩ := z_bd_e h
    refine z_Vi K hH hl.1 (c_X0_farNow l D y o_land o_land_placeKind o_land_placeX o_land_placeY o_land_crowKind o_land_now o_land_now_tired (.int v_land_places) (.int v_land_crows) (g_land_past) (g_land_pasts) (g_land_notes) (g_land_marks) (g_land_now_at) (g_land_now_deedRows) (g_land_now_deeds) f_land_placeKind f_land_placeX f_land_placeY f_land_crowKind v_land_now_hour f_land_now_tired p1 p2 p3 r4 hr5) (z_cwV K 3 tw_3_50 tw_3_51 tw_3_52 tw_1_2 tw_3_53 hd_X0_farNow ⟨by decide, by decide⟩) [7, 0, 1, 2, 3, 4, 5] [6] rfl (wr := [(o, .inr (6, [.ref o_land, g_images, g_kept, g_text, g_textLength, g_above, g_below, .int v_bads, g_nos, g_fulls, g_roads, g_reader, g_traveller, g_questions]))]) rfl rfl rfl (by decide) rfl rfl rfl (As := [.int p1, .int p2, .int p3]) (rest := []) rfl (Nat.le_of_ble_eq_true rfl) ⟨Nat.zero_le _, Nat.zero_le _⟩ dX7_far_22 (ws' := [(o, .inr (6, [.ref o_land, g_images, g_kept, g_text, g_textLength, g_above, g_below, .int v_bads, g_nos, g_fulls, g_roads, g_reader, g_traveller, g_questions])), (o_land, .inr (0, [.ref o_land_placeKind, .ref o_land_placeX, .ref o_land_placeY, .int v_land_places, .ref o_land_crowKind, .int v_land_crows, .ref o_land_now, g_land_past, g_land_pasts, g_land_notes, g_land_marks])), (o_land_placeKind, .inl (y 0, 7, .inl f_land_placeKind)), (o_land_placeX, .inl (y 0, 7, .inl f_land_placeX)), (o_land_placeY, .inl (y 0, 7, .inl f_land_placeY)), (o_land_crowKind, .inl (y 0, 3, .inl f_land_crowKind)), (o_land_now, .inr (1, [g_land_now_at, .ref o_land_now_tired, g_land_now_deedRows, g_land_now_deeds, .int v_land_now_hour])), (o_land_now_tired, .inl (y 0, 3, .inl f_land_now_tired))]) rfl (fun H locs hH => ?_)
    have hr9 := Option.some.inj h
    obtain rfl := hr9
    rw [hQ]
    exact z_reti K hr hH [0, 1, 2, 3, 4, 5, 6, 7] (by decide) rfl rfl rfl dX7_far_25
  · replace h := z_t c3 h
    refine lv_aload_n K.x K.b dX7_far_10 rfl (lv_at hl 0 rfl) ?_
    obtain ⟨r6, hr7, h⟩ := z_bd_e h
    refine z_Vi K hH hl.1 (c_X7_refuseBad l D y o (.ref o_land) (g_images) (g_kept) (g_text) (g_textLength) (g_above) (g_below) (g_nos) (g_fulls) (g_roads) (g_reader) (g_traveller) (g_questions) v_bads r6 hr7) (z_cwV K 0 tw_2_18 tw_2_20 tw_0_0 tw_1_1 tw_2_21 hd_X7_refuseBad ⟨by decide, by decide⟩) [6] [0, 1, 2, 3, 4, 5, 7] rfl (wr := [(o_land_placeKind, .inl (y 0, 7, .inl f_land_placeKind)), (o_land_placeX, .inl (y 0, 7, .inl f_land_placeX)), (o_land_placeY, .inl (y 0, 7, .inl f_land_placeY)), (o_land_crowKind, .inl (y 0, 3, .inl f_land_crowKind)), (o_land_now, .inr (1, [g_land_now_at, .ref o_land_now_tired, g_land_now_deedRows, g_land_now_deeds, .int v_land_now_hour])), (o_land_now_tired, .inl (y 0, 3, .inl f_land_now_tired)), (o_land, .inr (0, [.ref o_land_placeKind, .ref o_land_placeX, .ref o_land_placeY, .int v_land_places, .ref o_land_crowKind, .int v_land_crows, .ref o_land_now, g_land_past, g_land_pasts, g_land_notes, g_land_marks]))]) rfl rfl rfl (by decide) rfl rfl rfl (As := []) (rest := []) rfl (Nat.le_of_ble_eq_true rfl) ⟨Nat.zero_le _, Nat.zero_le _⟩ dX7_far_11 (ws' := [(o_land_placeKind, .inl (y 0, 7, .inl f_land_placeKind)), (o_land_placeX, .inl (y 0, 7, .inl f_land_placeX)), (o_land_placeY, .inl (y 0, 7, .inl f_land_placeY)), (o_land_crowKind, .inl (y 0, 3, .inl f_land_crowKind)), (o_land_now, .inr (1, [g_land_now_at, .ref o_land_now_tired, g_land_now_deedRows, g_land_now_deeds, .int v_land_now_hour])), (o_land_now_tired, .inl (y 0, 3, .inl f_land_now_tired)), (o_land, .inr (0, [.ref o_land_placeKind, .ref o_land_placeX, .ref o_land_placeY, .int v_land_places, .ref o_land_crowKind, .int v_land_crows, .ref o_land_now, g_land_past, g_land_pasts, g_land_notes, g_land_marks])), (o, .inr (6, [.ref o_land, g_images, g_kept, g_text, g_textLength, g_above, g_below, .int r6.2, g_nos, g_fulls, g_roads, g_reader, g_traveller, g_questions]))]) rfl (fun H locs hH => ?_)
    have hr9 := Option.some.inj h
    obtain rfl := hr9
    rw [hQ]
    exact z_reti K hr hH [7, 6, 0, 1, 2, 3, 4, 5] (by decide) rfl rfl rfl dX7_far_14
def p_X7_refuseList (v_bads : Int32) : Option (Int32 × Int32) :=
  z_lt ((v_bads + (1 : Int32))) fun x1 =>
  some ((-10 : Int32), x1)
theorem hd_X7_refuseList : yX7_refuseList.cls = RX7 ∧ yX7_refuseList.cls ≠ "java/lang/invoke/MethodHandle" ∧ yX7_refuseList.cls ≠ "java/lang/invoke/VarHandle" ∧ (parseMethodDescriptor yX7_refuseList.desc).map (fun d => d.parameters.length) = some 0 := by decide +kernel
set_option maxHeartbeats 4000000 in
set_option maxRecDepth 100000 in
theorem c_X7_refuseList (l : Launch) (D : va_G) (y : Nat → ClassId) (o : Nat) (g_land g_images g_kept g_text g_textLength g_above g_below g_nos g_fulls g_roads g_reader g_traveller g_questions : Value) (v_bads : Int32) (r : Int32 × Int32) (h : p_X7_refuseList v_bads = some r) : z_MI l yX7_refuseList cX7_refuseList 1 (some .int) 0 0 D y [.ref o] [(o, .inr (6, [g_land, g_images, g_kept, g_text, g_textLength, g_above, g_below, .int v_bads, g_nos, g_fulls, g_roads, g_reader, g_traveller, g_questions]))] r.1 [(o, .inr (6, [g_land, g_images, g_kept, g_text, g_textLength, g_above, g_below, .int r.2, g_nos, g_fulls, g_roads, g_reader, g_traveller, g_questions]))] := by
  unfold p_X7_refuseList at h
  refine z_enI (by decide) (Nat.le_of_ble_eq_true rfl) ?_
  intro p e s m args below meth c A ls hr K hH hl
  obtain ⟨Q, hQ⟩ : ∃ Q, Q = MQ below (z_Qi D y A r.1 [(o, .inr (6, [g_land, g_images, g_kept, g_text, g_textLength, g_above, g_below, .int r.2, g_nos, g_fulls, g_roads, g_reader, g_traveller, g_questions]))]) args s 0 0 A := ⟨_, rfl⟩
  rw [← hQ]
  have hl : lv_has ls 1 [(0, .ref o)] := hl
  refine lv_aload_n K.x K.b dX7_refuseList_0 rfl (lv_at hl 0 rfl) ?_
  refine lv_dup K.x K.b dX7_refuseList_1 rfl ?_
  refine z_get K hH 0 rfl zin_7 rfl 7 (by decide) tw_1_204 (v := .int v_bads) rfl dX7_refuseList_2 ?_
  refine lv_iconst (v := (1)) K.x K.b dX7_refuseList_5 (by decide) ?_
  refine lv_iadd K.x K.b dX7_refuseList_6 ?_
  obtain ⟨x1, ex1, h⟩ := z_lt_e h
  refine z_nm ex1 ?_
  refine z_put K hH 0 (ws' := [(o, .inr (6, [g_land, g_images, g_kept, g_text, g_textLength, g_above, g_below, .int x1, g_nos, g_fulls, g_roads, g_reader, g_traveller, g_questions]))]) rfl zin_7 rfl tyX7 tyX7_ok nmX7 7 (by decide) tw_1_204 rfl rfl rfl (Nat.le_of_ble_eq_true rfl) dX7_refuseList_7 rfl (fun H locs hH => ?_)
  refine lv_bipush (v := (-10)) K.x K.b dX7_refuseList_10 (by decide) ?_
  have hr9 := Option.some.inj h
  obtain rfl := hr9
  rw [hQ]
  exact z_reti K hr hH [0] (by decide) rfl rfl rfl dX7_refuseList_12
noncomputable def p_X7_way (v_bads : Int32) (v_land_places : Int32) (v_land_crows : Int32) (f_land_placeKind : (Nat → Int32)) (f_land_placeX : (Nat → Int32)) (f_land_placeY : (Nat → Int32)) (f_land_crowKind : (Nat → Int32)) (v_land_now_hour : Int32) (f_land_now_tired : (Nat → Int32)) (v_roads_foundCount : Int32) (v_roads_places : Int32) (f_roads_far : (Nat → Int32)) (f_roads_toEnd : (Nat → Int32)) (f_roads_found : (Nat → Int32)) (p1 : Int32) (p2 : Int32) (p3 : Int32) (p4 : Int32) : Option (Int32 × Int32 × Int32 × Int32 × (Nat → Int32) × (Nat → Int32) × (Nat → Int32)) :=
  z_bd (p_X7_isTrip v_land_places v_land_crows p1 p2 p3) fun r1 =>
  if (r1 = 0) then
  (z_bd (p_X7_refuseList v_bads) fun r4 =>
  some (r4.1, r4.2, v_roads_foundCount, v_roads_places, f_roads_far, f_roads_toEnd, f_roads_found)) else
  (if ((-1 : Int32) ≤ p4) then
  (z_bd (p_X5_measure v_roads_foundCount v_roads_places f_roads_far v_land_places f_land_placeKind f_land_placeX f_land_placeY f_land_crowKind v_land_now_hour f_land_now_tired p1) fun r7 =>
  z_bd (p_X5_findWay r7.1 r7.2.1 r7.2.2 f_roads_toEnd f_roads_found p2 p3) fun r9 =>
  z_bd (p_X5_answer r9.2.1 r9.2.2.2 p4 r9.1) fun r11 =>
  some (r11, v_bads, r9.2.1, r7.2.1, r7.2.2, r9.2.2.1, r9.2.2.2)) else
  (z_bd (p_X7_refuseList v_bads) fun r13 =>
  some (r13.1, r13.2, v_roads_foundCount, v_roads_places, f_roads_far, f_roads_toEnd, f_roads_found)))
theorem hd_X7_way : yX7_way.cls = RX7 ∧ yX7_way.cls ≠ "java/lang/invoke/MethodHandle" ∧ yX7_way.cls ≠ "java/lang/invoke/VarHandle" ∧ (parseMethodDescriptor yX7_way.desc).map (fun d => d.parameters.length) = some 4 := by decide +kernel
set_option maxHeartbeats 4000000 in
set_option maxRecDepth 100000 in
theorem c_X7_way (l : Launch) (D : va_G) (y : Nat → ClassId) (o o_land o_land_placeKind o_land_placeX o_land_placeY o_land_crowKind o_land_now o_land_now_tired o_roads o_roads_far o_roads_toEnd o_roads_found : Nat) (g_images g_kept g_text g_textLength g_above g_below g_nos g_fulls g_reader g_traveller g_questions g_land_past g_land_pasts g_land_notes g_land_marks g_land_now_at g_land_now_deedRows g_land_now_deeds g_roads_toHome : Value) (v_bads : Int32) (v_land_places : Int32) (v_land_crows : Int32) (f_land_placeKind : (Nat → Int32)) (f_land_placeX : (Nat → Int32)) (f_land_placeY : (Nat → Int32)) (f_land_crowKind : (Nat → Int32)) (v_land_now_hour : Int32) (f_land_now_tired : (Nat → Int32)) (v_roads_foundCount : Int32) (v_roads_places : Int32) (f_roads_far : (Nat → Int32)) (f_roads_toEnd : (Nat → Int32)) (f_roads_found : (Nat → Int32)) (p1 : Int32) (p2 : Int32) (p3 : Int32) (p4 : Int32) (r : Int32 × Int32 × Int32 × Int32 × (Nat → Int32) × (Nat → Int32) × (Nat → Int32)) (h : p_X7_way v_bads v_land_places v_land_crows f_land_placeKind f_land_placeX f_land_placeY f_land_crowKind v_land_now_hour f_land_now_tired v_roads_foundCount v_roads_places f_roads_far f_roads_toEnd f_roads_found p1 p2 p3 p4 = some r) : z_MI l yX7_way cX7_way 5 (some .int) 5 135 D y [.ref o, .int p1, .int p2, .int p3, .int p4] [(o, .inr (6, [.ref o_land, g_images, g_kept, g_text, g_textLength, g_above, g_below, .int v_bads, g_nos, g_fulls, .ref o_roads, g_reader, g_traveller, g_questions])), (o_land, .inr (0, [.ref o_land_placeKind, .ref o_land_placeX, .ref o_land_placeY, .int v_land_places, .ref o_land_crowKind, .int v_land_crows, .ref o_land_now, g_land_past, g_land_pasts, g_land_notes, g_land_marks])), (o_land_placeKind, .inl (y 0, 7, .inl f_land_placeKind)), (o_land_placeX, .inl (y 0, 7, .inl f_land_placeX)), (o_land_placeY, .inl (y 0, 7, .inl f_land_placeY)), (o_land_crowKind, .inl (y 0, 3, .inl f_land_crowKind)), (o_land_now, .inr (1, [g_land_now_at, .ref o_land_now_tired, g_land_now_deedRows, g_land_now_deeds, .int v_land_now_hour])), (o_land_now_tired, .inl (y 0, 3, .inl f_land_now_tired)), (o_roads, .inr (4, [.ref o_roads_far, .ref o_roads_toEnd, g_roads_toHome, .ref o_roads_found, .int v_roads_foundCount, .int v_roads_places])), (o_roads_far, .inl (y 0, 49, .inl f_roads_far)), (o_roads_toEnd, .inl (y 0, 7, .inl f_roads_toEnd)), (o_roads_found, .inl (y 0, 49, .inl f_roads_found))] r.1 [(o, .inr (6, [.ref o_land, g_images, g_kept, g_text, g_textLength, g_above, g_below, .int r.2.1, g_nos, g_fulls, .ref o_roads, g_reader, g_traveller, g_questions])), (o_land, .inr (0, [.ref o_land_placeKind, .ref o_land_placeX, .ref o_land_placeY, .int v_land_places, .ref o_land_crowKind, .int v_land_crows, .ref o_land_now, g_land_past, g_land_pasts, g_land_notes, g_land_marks])), (o_land_placeKind, .inl (y 0, 7, .inl f_land_placeKind)), (o_land_placeX, .inl (y 0, 7, .inl f_land_placeX)), (o_land_placeY, .inl (y 0, 7, .inl f_land_placeY)), (o_land_crowKind, .inl (y 0, 3, .inl f_land_crowKind)), (o_land_now, .inr (1, [g_land_now_at, .ref o_land_now_tired, g_land_now_deedRows, g_land_now_deeds, .int v_land_now_hour])), (o_land_now_tired, .inl (y 0, 3, .inl f_land_now_tired)), (o_roads, .inr (4, [.ref o_roads_far, .ref o_roads_toEnd, g_roads_toHome, .ref o_roads_found, .int r.2.2.1, .int r.2.2.2.1])), (o_roads_far, .inl (y 0, 49, .inl r.2.2.2.2.1)), (o_roads_toEnd, .inl (y 0, 7, .inl r.2.2.2.2.2.1)), (o_roads_found, .inl (y 0, 49, .inl r.2.2.2.2.2.2))] := by
  unfold p_X7_way at h
  refine z_enI (by decide) (Nat.le_of_ble_eq_true rfl) ?_
  intro p e s m args below meth c A ls hr K hH hl
  obtain ⟨Q, hQ⟩ : ∃ Q, Q = MQ below (z_Qi D y A r.1 [(o, .inr (6, [.ref o_land, g_images, g_kept, g_text, g_textLength, g_above, g_below, .int r.2.1, g_nos, g_fulls, .ref o_roads, g_reader, g_traveller, g_questions])), (o_land, .inr (0, [.ref o_land_placeKind, .ref o_land_placeX, .ref o_land_placeY, .int v_land_places, .ref o_land_crowKind, .int v_land_crows, .ref o_land_now, g_land_past, g_land_pasts, g_land_notes, g_land_marks])), (o_land_placeKind, .inl (y 0, 7, .inl f_land_placeKind)), (o_land_placeX, .inl (y 0, 7, .inl f_land_placeX)), (o_land_placeY, .inl (y 0, 7, .inl f_land_placeY)), (o_land_crowKind, .inl (y 0, 3, .inl f_land_crowKind)), (o_land_now, .inr (1, [g_land_now_at, .ref o_land_now_tired, g_land_now_deedRows, g_land_now_deeds, .int v_land_now_hour])), (o_land_now_tired, .inl (y 0, 3, .inl f_land_now_tired)), (o_roads, .inr (4, [.ref o_roads_far, .ref o_roads_toEnd, g_roads_toHome, .ref o_roads_found, .int r.2.2.1, .int r.2.2.2.1])), (o_roads_far, .inl (y 0, 49, .inl r.2.2.2.2.1)), (o_roads_toEnd, .inl (y 0, 7, .inl r.2.2.2.2.2.1)), (o_roads_found, .inl (y 0, 49, .inl r.2.2.2.2.2.2))]) args s 0 0 A := ⟨_, rfl⟩
  rw [← hQ]
  have hl : lv_has ls 5 [(0, .ref o), (1, .int p1), (2, .int p2), (3, .int p3), (4, .int p4)] := hl
  refine lv_aload_n K.x K.b dX7_way_0 rfl (lv_at hl 0 rfl) ?_
  refine lv_iload_n K.x K.b dX7_way_1 rfl (lv_at hl 1 rfl) ?_
  refine lv_iload_n K.x K.b dX7_way_2 rfl (lv_at hl 2 rfl) ?_
  refine lv_iload_n K.x K.b dX7_way_3 rfl (lv_at hl 3 rfl) ?_
  obtain ⟨r1, hr2, h⟩ := z_bd_e h
  refine z_Vi K hH hl.1 (c_X7_isTrip l D y o o_land (g_images) (g_kept) (g_text) (g_textLength) (g_above) (g_below) (.int v_bads) (g_nos) (g_fulls) (.ref o_roads) (g_reader) (g_traveller) (g_questions) (.ref o_land_placeKind) (.ref o_land_placeX) (.ref o_land_placeY) (.ref o_land_crowKind) (.ref o_land_now) (g_land_past) (g_land_pasts) (g_land_notes) (g_land_marks) v_land_places v_land_crows p1 p2 p3 r1 hr2) (z_cwV K 3 tw_3_46 tw_3_48 tw_0_16 tw_1_1 tw_3_49 hd_X7_isTrip ⟨by decide, by decide⟩) [0, 1] [2, 3, 4, 5, 6, 7, 8, 9, 10, 11] rfl (wr := [(o_land_placeKind, .inl (y 0, 7, .inl f_land_placeKind)), (o_land_placeX, .inl (y 0, 7, .inl f_land_placeX)), (o_land_placeY, .inl (y 0, 7, .inl f_land_placeY)), (o_land_crowKind, .inl (y 0, 3, .inl f_land_crowKind)), (o_land_now, .inr (1, [g_land_now_at, .ref o_land_now_tired, g_land_now_deedRows, g_land_now_deeds, .int v_land_now_hour])), (o_land_now_tired, .inl (y 0, 3, .inl f_land_now_tired)), (o_roads, .inr (4, [.ref o_roads_far, .ref o_roads_toEnd, g_roads_toHome, .ref o_roads_found, .int v_roads_foundCount, .int v_roads_places])), (o_roads_far, .inl (y 0, 49, .inl f_roads_far)), (o_roads_toEnd, .inl (y 0, 7, .inl f_roads_toEnd)), (o_roads_found, .inl (y 0, 49, .inl f_roads_found))]) rfl rfl rfl (by decide) rfl rfl rfl (As := [.int p1, .int p2, .int p3]) (rest := []) rfl (Nat.le_of_ble_eq_true rfl) ⟨Nat.zero_le _, Nat.zero_le _⟩ dX7_way_4 (ws' := [(o_land_placeKind, .inl (y 0, 7, .inl f_land_placeKind)), (o_land_placeX, .inl (y 0, 7, .inl f_land_placeX)), (o_land_placeY, .inl (y 0, 7, .inl f_land_placeY)), (o_land_crowKind, .inl (y 0, 3, .inl f_land_crowKind)), (o_land_now, .inr (1, [g_land_now_at, .ref o_land_now_tired, g_land_now_deedRows, g_land_now_deeds, .int v_land_now_hour])), (o_land_now_tired, .inl (y 0, 3, .inl f_land_now_tired)), (o_roads, .inr (4, [.ref o_roads_far, .ref o_roads_toEnd, g_roads_toHome, .ref o_roads_found, .int v_roads_foundCount, .int v_roads_places])), (o_roads_far, .inl (y 0, 49, .inl f_roads_far)), (o_roads_toEnd, .inl (y 0, 7, .inl f_roads_toEnd)), (o_roads_found, .inl (y 0, 49, .inl f_roads_found)), (o, .inr (6, [.ref o_land, g_images, g_kept, g_text, g_textLength, g_above, g_below, .int v_bads, g_nos, g_fulls, .ref o_roads, g_reader, g_traveller, g_questions])), (o_land, .inr (0, [.ref o_land_placeKind, .ref o_land_placeX, .ref o_land_placeY, .int v_land_places, .ref o_land_crowKind, .int v_land_crows, .ref o_land_now, g_land_past, g_land_pasts, g_land_notes, g_land_marks]))]) rfl (fun H locs hH => ?_)
  refine lv_if_eq (tgt := 16) K.x K.b dX7_way_7 (by decide) (fun c3 => ?_) (fun c3 => ?_)
  · replace h := z_t c3 h
    refine lv_aload_n K.x K.b dX7_way_16 rfl (lv_at hl 0 rfl) ?_
    obtain ⟨r4, hr5, h⟩ := z_bd_e h
    refine z_Vi K hH hl.1 (c_X7_refuseList l D y o (.ref o_land) (g_images) (g_kept) (g_text) (g_textLength) (g_above) (g_below) (g_nos) (g_fulls) (.ref o_roads) (g_reader) (g_traveller) (g_questions) v_bads r4 hr5) (z_cwV K 0 tw_3_58 tw_3_60 tw_0_17 tw_1_1 tw_3_61 hd_X7_refuseList ⟨by decide, by decide⟩) [10] [0, 1, 2, 3, 4, 5, 6, 7, 8, 9, 11] rfl (wr := [(o_land_placeKind, .inl (y 0, 7, .inl f_land_placeKind)), (o_land_placeX, .inl (y 0, 7, .inl f_land_placeX)), (o_land_placeY, .inl (y 0, 7, .inl f_land_placeY)), (o_land_crowKind, .inl (y 0, 3, .inl f_land_crowKind)), (o_land_now, .inr (1, [g_land_now_at, .ref o_land_now_tired, g_land_now_deedRows, g_land_now_deeds, .int v_land_now_hour])), (o_land_now_tired, .inl (y 0, 3, .inl f_land_now_tired)), (o_roads, .inr (4, [.ref o_roads_far, .ref o_roads_toEnd, g_roads_toHome, .ref o_roads_found, .int v_roads_foundCount, .int v_roads_places])), (o_roads_far, .inl (y 0, 49, .inl f_roads_far)), (o_roads_toEnd, .inl (y 0, 7, .inl f_roads_toEnd)), (o_roads_found, .inl (y 0, 49, .inl f_roads_found)), (o_land, .inr (0, [.ref o_land_placeKind, .ref o_land_placeX, .ref o_land_placeY, .int v_land_places, .ref o_land_crowKind, .int v_land_crows, .ref o_land_now, g_land_past, g_land_pasts, g_land_notes, g_land_marks]))]) rfl rfl rfl (by decide) rfl rfl rfl (As := []) (rest := []) rfl (Nat.le_of_ble_eq_true rfl) ⟨Nat.zero_le _, Nat.zero_le _⟩ dX7_way_17 (ws' := [(o_land_placeKind, .inl (y 0, 7, .inl f_land_placeKind)), (o_land_placeX, .inl (y 0, 7, .inl f_land_placeX)), (o_land_placeY, .inl (y 0, 7, .inl f_land_placeY)), (o_land_crowKind, .inl (y 0, 3, .inl f_land_crowKind)), (o_land_now, .inr (1, [g_land_now_at, .ref o_land_now_tired, g_land_now_deedRows, g_land_now_deeds, .int v_land_now_hour])), (o_land_now_tired, .inl (y 0, 3, .inl f_land_now_tired)), (o_roads, .inr (4, [.ref o_roads_far, .ref o_roads_toEnd, g_roads_toHome, .ref o_roads_found, .int v_roads_foundCount, .int v_roads_places])), (o_roads_far, .inl (y 0, 49, .inl f_roads_far)), (o_roads_toEnd, .inl (y 0, 7, .inl f_roads_toEnd)), (o_roads_found, .inl (y 0, 49, .inl f_roads_found)), (o_land, .inr (0, [.ref o_land_placeKind, .ref o_land_placeX, .ref o_land_placeY, .int v_land_places, .ref o_land_crowKind, .int v_land_crows, .ref o_land_now, g_land_past, g_land_pasts, g_land_notes, g_land_marks])), (o, .inr (6, [.ref o_land, g_images, g_kept, g_text, g_textLength, g_above, g_below, .int r4.2, g_nos, g_fulls, .ref o_roads, g_reader, g_traveller, g_questions]))]) rfl (fun H locs hH => ?_)
    have hr9 := Option.some.inj h
    obtain rfl := hr9
    rw [hQ]
    exact z_reti K hr hH [11, 10, 0, 1, 2, 3, 4, 5, 6, 7, 8, 9] (by decide) rfl rfl rfl dX7_way_20
  · replace h := z_f c3 h
    refine lv_iload K.x K.b dX7_way_10 (lv_at hl 4 rfl) ?_
    refine lv_iconst (v := (-1)) K.x K.b dX7_way_12 (by decide) ?_
    refine lv_icmp_ge (tgt := 21) K.x K.b dX7_way_13 (by decide) (fun c6 => ?_) (fun c6 => ?_)
    · replace h := z_t c6 h
      refine lv_aload_n K.x K.b dX7_way_21 rfl (lv_at hl 0 rfl) ?_
      refine z_get K hH 10 rfl zin_7 rfl 10 (by decide) tw_1_207 (v := .ref o_roads) rfl dX7_way_22 ?_
      refine lv_aload_n K.x K.b dX7_way_25 rfl (lv_at hl 0 rfl) ?_
      refine z_get K hH 10 rfl zin_7 rfl 0 (by decide) tw_1_197 (v := .ref o_land) rfl dX7_way_26 ?_
      refine lv_iload_n K.x K.b dX7_way_29 rfl (lv_at hl 1 rfl) ?_
      obtain ⟨r7, hr8, h⟩ := z_bd_e h
      refine z_Vv K hH hl.1 (c_X5_measure l D y o_roads o_roads_far o_land o_land_placeKind o_land_placeX o_land_placeY o_land_crowKind o_land_now o_land_now_tired (.ref o_roads_toEnd) (g_roads_toHome) (.ref o_roads_found) (.int v_land_crows) (g_land_past) (g_land_pasts) (g_land_notes) (g_land_marks) (g_land_now_at) (g_land_now_deedRows) (g_land_now_deeds) v_roads_foundCount v_roads_places f_roads_far v_land_places f_land_placeKind f_land_placeX f_land_placeY f_land_crowKind v_land_now_hour f_land_now_tired p1 r7 hr8) (z_cwV K 2 tw_3_62 tw_3_63 tw_3_64 tw_1_5 tw_3_65 hd_X5_measure ⟨by decide, by decide⟩) [6, 7, 11, 0, 1, 2, 3, 4, 5] [8, 9, 10] rfl (wr := [(o_roads_toEnd, .inl (y 0, 7, .inl f_roads_toEnd)), (o_roads_found, .inl (y 0, 49, .inl f_roads_found)), (o, .inr (6, [.ref o_land, g_images, g_kept, g_text, g_textLength, g_above, g_below, .int v_bads, g_nos, g_fulls, .ref o_roads, g_reader, g_traveller, g_questions]))]) rfl rfl rfl (by decide) rfl rfl rfl (As := [.ref o_land, .int p1]) (rest := []) rfl (Nat.le_of_ble_eq_true rfl) ⟨Nat.zero_le _, Nat.zero_le _⟩ dX7_way_30 (ws' := [(o_roads_toEnd, .inl (y 0, 7, .inl f_roads_toEnd)), (o_roads_found, .inl (y 0, 49, .inl f_roads_found)), (o, .inr (6, [.ref o_land, g_images, g_kept, g_text, g_textLength, g_above, g_below, .int v_bads, g_nos, g_fulls, .ref o_roads, g_reader, g_traveller, g_questions])), (o_roads, .inr (4, [.ref o_roads_far, .ref o_roads_toEnd, g_roads_toHome, .ref o_roads_found, .int r7.1, .int r7.2.1])), (o_roads_far, .inl (y 0, 49, .inl r7.2.2)), (o_land, .inr (0, [.ref o_land_placeKind, .ref o_land_placeX, .ref o_land_placeY, .int v_land_places, .ref o_land_crowKind, .int v_land_crows, .ref o_land_now, g_land_past, g_land_pasts, g_land_notes, g_land_marks])), (o_land_placeKind, .inl (y 0, 7, .inl f_land_placeKind)), (o_land_placeX, .inl (y 0, 7, .inl f_land_placeX)), (o_land_placeY, .inl (y 0, 7, .inl f_land_placeY)), (o_land_crowKind, .inl (y 0, 3, .inl f_land_crowKind)), (o_land_now, .inr (1, [g_land_now_at, .ref o_land_now_tired, g_land_now_deedRows, g_land_now_deeds, .int v_land_now_hour])), (o_land_now_tired, .inl (y 0, 3, .inl f_land_now_tired))]) rfl (fun H locs hH => ?_)
      refine lv_aload_n K.x K.b dX7_way_33 rfl (lv_at hl 0 rfl) ?_
      refine z_get K hH 2 rfl zin_7 rfl 10 (by decide) tw_1_207 (v := .ref o_roads) rfl dX7_way_34 ?_
      refine lv_iload K.x K.b dX7_way_37 (lv_at hl 4 rfl) ?_
      refine lv_aload_n K.x K.b dX7_way_39 rfl (lv_at hl 0 rfl) ?_
      refine z_get K hH 2 rfl zin_7 rfl 10 (by decide) tw_1_207 (v := .ref o_roads) rfl dX7_way_40 ?_
      refine lv_iload_n K.x K.b dX7_way_43 rfl (lv_at hl 2 rfl) ?_
      refine lv_iload_n K.x K.b dX7_way_44 rfl (lv_at hl 3 rfl) ?_
      obtain ⟨r9, hr10, h⟩ := z_bd_e h
      refine z_Vi K hH hl.1 (c_X5_findWay l D y o_roads o_roads_far o_roads_toEnd o_roads_found (g_roads_toHome) r7.1 r7.2.1 r7.2.2 f_roads_toEnd f_roads_found p2 p3 r9 hr10) (z_cwV K 2 tw_3_67 tw_3_68 tw_3_69 tw_1_5 tw_3_70 hd_X5_findWay ⟨by decide, by decide⟩) [3, 4, 0, 1] [2, 5, 6, 7, 8, 9, 10, 11] rfl (wr := [(o, .inr (6, [.ref o_land, g_images, g_kept, g_text, g_textLength, g_above, g_below, .int v_bads, g_nos, g_fulls, .ref o_roads, g_reader, g_traveller, g_questions])), (o_land, .inr (0, [.ref o_land_placeKind, .ref o_land_placeX, .ref o_land_placeY, .int v_land_places, .ref o_land_crowKind, .int v_land_crows, .ref o_land_now, g_land_past, g_land_pasts, g_land_notes, g_land_marks])), (o_land_placeKind, .inl (y 0, 7, .inl f_land_placeKind)), (o_land_placeX, .inl (y 0, 7, .inl f_land_placeX)), (o_land_placeY, .inl (y 0, 7, .inl f_land_placeY)), (o_land_crowKind, .inl (y 0, 3, .inl f_land_crowKind)), (o_land_now, .inr (1, [g_land_now_at, .ref o_land_now_tired, g_land_now_deedRows, g_land_now_deeds, .int v_land_now_hour])), (o_land_now_tired, .inl (y 0, 3, .inl f_land_now_tired))]) rfl rfl rfl (by decide) rfl rfl rfl (As := [.int p2, .int p3]) (rest := [.int p4, .ref o_roads]) rfl (Nat.le_of_ble_eq_true rfl) ⟨Nat.zero_le _, Nat.zero_le _⟩ dX7_way_45 (ws' := [(o, .inr (6, [.ref o_land, g_images, g_kept, g_text, g_textLength, g_above, g_below, .int v_bads, g_nos, g_fulls, .ref o_roads, g_reader, g_traveller, g_questions])), (o_land, .inr (0, [.ref o_land_placeKind, .ref o_land_placeX, .ref o_land_placeY, .int v_land_places, .ref o_land_crowKind, .int v_land_crows, .ref o_land_now, g_land_past, g_land_pasts, g_land_notes, g_land_marks])), (o_land_placeKind, .inl (y 0, 7, .inl f_land_placeKind)), (o_land_placeX, .inl (y 0, 7, .inl f_land_placeX)), (o_land_placeY, .inl (y 0, 7, .inl f_land_placeY)), (o_land_crowKind, .inl (y 0, 3, .inl f_land_crowKind)), (o_land_now, .inr (1, [g_land_now_at, .ref o_land_now_tired, g_land_now_deedRows, g_land_now_deeds, .int v_land_now_hour])), (o_land_now_tired, .inl (y 0, 3, .inl f_land_now_tired)), (o_roads, .inr (4, [.ref o_roads_far, .ref o_roads_toEnd, g_roads_toHome, .ref o_roads_found, .int r9.2.1, .int r7.2.1])), (o_roads_far, .inl (y 0, 49, .inl r7.2.2)), (o_roads_toEnd, .inl (y 0, 7, .inl r9.2.2.1)), (o_roads_found, .inl (y 0, 49, .inl r9.2.2.2))]) rfl (fun H locs hH => ?_)
      obtain ⟨r11, hr12, h⟩ := z_bd_e h
      refine z_Vi K hH hl.1 (c_X5_answer l D y o_roads o_roads_found (.ref o_roads_far) (.ref o_roads_toEnd) (g_roads_toHome) (.int r7.2.1) r9.2.1 r9.2.2.2 p4 r9.1 r11 hr12) (z_cwV K 2 tw_3_89 tw_3_90 tw_3_91 tw_1_5 tw_3_92 hd_X5_answer ⟨by decide, by decide⟩) [8, 11] [0, 1, 2, 3, 4, 5, 6, 7, 9, 10] rfl (wr := [(o, .inr (6, [.ref o_land, g_images, g_kept, g_text, g_textLength, g_above, g_below, .int v_bads, g_nos, g_fulls, .ref o_roads, g_reader, g_traveller, g_questions])), (o_land, .inr (0, [.ref o_land_placeKind, .ref o_land_placeX, .ref o_land_placeY, .int v_land_places, .ref o_land_crowKind, .int v_land_crows, .ref o_land_now, g_land_past, g_land_pasts, g_land_notes, g_land_marks])), (o_land_placeKind, .inl (y 0, 7, .inl f_land_placeKind)), (o_land_placeX, .inl (y 0, 7, .inl f_land_placeX)), (o_land_placeY, .inl (y 0, 7, .inl f_land_placeY)), (o_land_crowKind, .inl (y 0, 3, .inl f_land_crowKind)), (o_land_now, .inr (1, [g_land_now_at, .ref o_land_now_tired, g_land_now_deedRows, g_land_now_deeds, .int v_land_now_hour])), (o_land_now_tired, .inl (y 0, 3, .inl f_land_now_tired)), (o_roads_far, .inl (y 0, 49, .inl r7.2.2)), (o_roads_toEnd, .inl (y 0, 7, .inl r9.2.2.1))]) rfl rfl rfl (by decide) rfl rfl rfl (As := [.int p4, .int r9.1]) (rest := []) rfl (Nat.le_of_ble_eq_true rfl) ⟨Nat.zero_le _, Nat.zero_le _⟩ dX7_way_48 (ws' := [(o, .inr (6, [.ref o_land, g_images, g_kept, g_text, g_textLength, g_above, g_below, .int v_bads, g_nos, g_fulls, .ref o_roads, g_reader, g_traveller, g_questions])), (o_land, .inr (0, [.ref o_land_placeKind, .ref o_land_placeX, .ref o_land_placeY, .int v_land_places, .ref o_land_crowKind, .int v_land_crows, .ref o_land_now, g_land_past, g_land_pasts, g_land_notes, g_land_marks])), (o_land_placeKind, .inl (y 0, 7, .inl f_land_placeKind)), (o_land_placeX, .inl (y 0, 7, .inl f_land_placeX)), (o_land_placeY, .inl (y 0, 7, .inl f_land_placeY)), (o_land_crowKind, .inl (y 0, 3, .inl f_land_crowKind)), (o_land_now, .inr (1, [g_land_now_at, .ref o_land_now_tired, g_land_now_deedRows, g_land_now_deeds, .int v_land_now_hour])), (o_land_now_tired, .inl (y 0, 3, .inl f_land_now_tired)), (o_roads_far, .inl (y 0, 49, .inl r7.2.2)), (o_roads_toEnd, .inl (y 0, 7, .inl r9.2.2.1)), (o_roads, .inr (4, [.ref o_roads_far, .ref o_roads_toEnd, g_roads_toHome, .ref o_roads_found, .int r9.2.1, .int r7.2.1])), (o_roads_found, .inl (y 0, 49, .inl r9.2.2.2))]) rfl (fun H locs hH => ?_)
      have hr9 := Option.some.inj h
      obtain rfl := hr9
      rw [hQ]
      exact z_reti K hr hH [0, 1, 2, 3, 4, 5, 6, 7, 10, 8, 9, 11] (by decide) rfl rfl rfl dX7_way_51
    · replace h := z_f c6 h
      refine lv_aload_n K.x K.b dX7_way_16 rfl (lv_at hl 0 rfl) ?_
      obtain ⟨r13, hr14, h⟩ := z_bd_e h
      refine z_Vi K hH hl.1 (c_X7_refuseList l D y o (.ref o_land) (g_images) (g_kept) (g_text) (g_textLength) (g_above) (g_below) (g_nos) (g_fulls) (.ref o_roads) (g_reader) (g_traveller) (g_questions) v_bads r13 hr14) (z_cwV K 0 tw_3_58 tw_3_60 tw_0_17 tw_1_1 tw_3_61 hd_X7_refuseList ⟨by decide, by decide⟩) [10] [0, 1, 2, 3, 4, 5, 6, 7, 8, 9, 11] rfl (wr := [(o_land_placeKind, .inl (y 0, 7, .inl f_land_placeKind)), (o_land_placeX, .inl (y 0, 7, .inl f_land_placeX)), (o_land_placeY, .inl (y 0, 7, .inl f_land_placeY)), (o_land_crowKind, .inl (y 0, 3, .inl f_land_crowKind)), (o_land_now, .inr (1, [g_land_now_at, .ref o_land_now_tired, g_land_now_deedRows, g_land_now_deeds, .int v_land_now_hour])), (o_land_now_tired, .inl (y 0, 3, .inl f_land_now_tired)), (o_roads, .inr (4, [.ref o_roads_far, .ref o_roads_toEnd, g_roads_toHome, .ref o_roads_found, .int v_roads_foundCount, .int v_roads_places])), (o_roads_far, .inl (y 0, 49, .inl f_roads_far)), (o_roads_toEnd, .inl (y 0, 7, .inl f_roads_toEnd)), (o_roads_found, .inl (y 0, 49, .inl f_roads_found)), (o_land, .inr (0, [.ref o_land_placeKind, .ref o_land_placeX, .ref o_land_placeY, .int v_land_places, .ref o_land_crowKind, .int v_land_crows, .ref o_land_now, g_land_past, g_land_pasts, g_land_notes, g_land_marks]))]) rfl rfl rfl (by decide) rfl rfl rfl (As := []) (rest := []) rfl (Nat.le_of_ble_eq_true rfl) ⟨Nat.zero_le _, Nat.zero_le _⟩ dX7_way_17 (ws' := [(o_land_placeKind, .inl (y 0, 7, .inl f_land_placeKind)), (o_land_placeX, .inl (y 0, 7, .inl f_land_placeX)), (o_land_placeY, .inl (y 0, 7, .inl f_land_placeY)), (o_land_crowKind, .inl (y 0, 3, .inl f_land_crowKind)), (o_land_now, .inr (1, [g_land_now_at, .ref o_land_now_tired, g_land_now_deedRows, g_land_now_deeds, .int v_land_now_hour])), (o_land_now_tired, .inl (y 0, 3, .inl f_land_now_tired)), (o_roads, .inr (4, [.ref o_roads_far, .ref o_roads_toEnd, g_roads_toHome, .ref o_roads_found, .int v_roads_foundCount, .int v_roads_places])), (o_roads_far, .inl (y 0, 49, .inl f_roads_far)), (o_roads_toEnd, .inl (y 0, 7, .inl f_roads_toEnd)), (o_roads_found, .inl (y 0, 49, .inl f_roads_found)), (o_land, .inr (0, [.ref o_land_placeKind, .ref o_land_placeX, .ref o_land_placeY, .int v_land_places, .ref o_land_crowKind, .int v_land_crows, .ref o_land_now, g_land_past, g_land_pasts, g_land_notes, g_land_marks])), (o, .inr (6, [.ref o_land, g_images, g_kept, g_text, g_textLength, g_above, g_below, .int r13.2, g_nos, g_fulls, .ref o_roads, g_reader, g_traveller, g_questions]))]) rfl (fun H locs hH => ?_)
      have hr9 := Option.some.inj h
      obtain rfl := hr9
      rw [hQ]
      exact z_reti K hr hH [11, 10, 0, 1, 2, 3, 4, 5, 6, 7, 8, 9] (by decide) rfl rfl rfl dX7_way_20
noncomputable def p_X7_round (v_bads : Int32) (v_land_places : Int32) (v_land_crows : Int32) (f_land_placeKind : (Nat → Int32)) (f_land_placeX : (Nat → Int32)) (f_land_placeY : (Nat → Int32)) (f_land_crowKind : (Nat → Int32)) (v_land_now_hour : Int32) (f_land_now_tired : (Nat → Int32)) (v_roads_foundCount : Int32) (v_roads_places : Int32) (f_roads_far : (Nat → Int32)) (f_roads_toHome : (Nat → Int32)) (f_roads_found : (Nat → Int32)) (p1 : Int32) (p2 : Int32) : Option (Int32 × Int32 × Int32 × Int32 × (Nat → Int32) × (Nat → Int32) × (Nat → Int32)) :=
  z_bd (p_X0_hasCrow v_land_crows p1) fun r1 =>
  if (r1 = 0) then
  (z_bd (p_X7_refuseList v_bads) fun r4 =>
  some (r4.1, r4.2, v_roads_foundCount, v_roads_places, f_roads_far, f_roads_toHome, f_roads_found)) else
  (if ((-1 : Int32) ≤ p2) then
  (z_bd (p_X5_measure v_roads_foundCount v_roads_places f_roads_far v_land_places f_land_placeKind f_land_placeX f_land_placeY f_land_crowKind v_land_now_hour f_land_now_tired p1) fun r7 =>
  z_bd (p_X5_findRound r7.1 r7.2.1 r7.2.2 f_roads_toHome f_roads_found) fun r9 =>
  z_bd (p_X5_answer r9.2.1 r9.2.2.2 p2 r9.1) fun r11 =>
  some (r11, v_bads, r9.2.1, r7.2.1, r7.2.2, r9.2.2.1, r9.2.2.2)) else
  (z_bd (p_X7_refuseList v_bads) fun r13 =>
  some (r13.1, r13.2, v_roads_foundCount, v_roads_places, f_roads_far, f_roads_toHome, f_roads_found)))
theorem hd_X7_round : yX7_round.cls = RX7 ∧ yX7_round.cls ≠ "java/lang/invoke/MethodHandle" ∧ yX7_round.cls ≠ "java/lang/invoke/VarHandle" ∧ (parseMethodDescriptor yX7_round.desc).map (fun d => d.parameters.length) = some 2 := by decide +kernel
set_option maxHeartbeats 4000000 in
set_option maxRecDepth 100000 in
theorem c_X7_round (l : Launch) (D : va_G) (y : Nat → ClassId) (o o_land o_land_placeKind o_land_placeX o_land_placeY o_land_crowKind o_land_now o_land_now_tired o_roads o_roads_far o_roads_toHome o_roads_found : Nat) (g_images g_kept g_text g_textLength g_above g_below g_nos g_fulls g_reader g_traveller g_questions g_land_past g_land_pasts g_land_notes g_land_marks g_land_now_at g_land_now_deedRows g_land_now_deeds g_roads_toEnd : Value) (v_bads : Int32) (v_land_places : Int32) (v_land_crows : Int32) (f_land_placeKind : (Nat → Int32)) (f_land_placeX : (Nat → Int32)) (f_land_placeY : (Nat → Int32)) (f_land_crowKind : (Nat → Int32)) (v_land_now_hour : Int32) (f_land_now_tired : (Nat → Int32)) (v_roads_foundCount : Int32) (v_roads_places : Int32) (f_roads_far : (Nat → Int32)) (f_roads_toHome : (Nat → Int32)) (f_roads_found : (Nat → Int32)) (p1 : Int32) (p2 : Int32) (r : Int32 × Int32 × Int32 × Int32 × (Nat → Int32) × (Nat → Int32) × (Nat → Int32)) (h : p_X7_round v_bads v_land_places v_land_crows f_land_placeKind f_land_placeX f_land_placeY f_land_crowKind v_land_now_hour f_land_now_tired v_roads_foundCount v_roads_places f_roads_far f_roads_toHome f_roads_found p1 p2 = some r) : z_MI l yX7_round cX7_round 3 (some .int) 5 135 D y [.ref o, .int p1, .int p2] [(o, .inr (6, [.ref o_land, g_images, g_kept, g_text, g_textLength, g_above, g_below, .int v_bads, g_nos, g_fulls, .ref o_roads, g_reader, g_traveller, g_questions])), (o_land, .inr (0, [.ref o_land_placeKind, .ref o_land_placeX, .ref o_land_placeY, .int v_land_places, .ref o_land_crowKind, .int v_land_crows, .ref o_land_now, g_land_past, g_land_pasts, g_land_notes, g_land_marks])), (o_land_placeKind, .inl (y 0, 7, .inl f_land_placeKind)), (o_land_placeX, .inl (y 0, 7, .inl f_land_placeX)), (o_land_placeY, .inl (y 0, 7, .inl f_land_placeY)), (o_land_crowKind, .inl (y 0, 3, .inl f_land_crowKind)), (o_land_now, .inr (1, [g_land_now_at, .ref o_land_now_tired, g_land_now_deedRows, g_land_now_deeds, .int v_land_now_hour])), (o_land_now_tired, .inl (y 0, 3, .inl f_land_now_tired)), (o_roads, .inr (4, [.ref o_roads_far, g_roads_toEnd, .ref o_roads_toHome, .ref o_roads_found, .int v_roads_foundCount, .int v_roads_places])), (o_roads_far, .inl (y 0, 49, .inl f_roads_far)), (o_roads_toHome, .inl (y 0, 448, .inl f_roads_toHome)), (o_roads_found, .inl (y 0, 49, .inl f_roads_found))] r.1 [(o, .inr (6, [.ref o_land, g_images, g_kept, g_text, g_textLength, g_above, g_below, .int r.2.1, g_nos, g_fulls, .ref o_roads, g_reader, g_traveller, g_questions])), (o_land, .inr (0, [.ref o_land_placeKind, .ref o_land_placeX, .ref o_land_placeY, .int v_land_places, .ref o_land_crowKind, .int v_land_crows, .ref o_land_now, g_land_past, g_land_pasts, g_land_notes, g_land_marks])), (o_land_placeKind, .inl (y 0, 7, .inl f_land_placeKind)), (o_land_placeX, .inl (y 0, 7, .inl f_land_placeX)), (o_land_placeY, .inl (y 0, 7, .inl f_land_placeY)), (o_land_crowKind, .inl (y 0, 3, .inl f_land_crowKind)), (o_land_now, .inr (1, [g_land_now_at, .ref o_land_now_tired, g_land_now_deedRows, g_land_now_deeds, .int v_land_now_hour])), (o_land_now_tired, .inl (y 0, 3, .inl f_land_now_tired)), (o_roads, .inr (4, [.ref o_roads_far, g_roads_toEnd, .ref o_roads_toHome, .ref o_roads_found, .int r.2.2.1, .int r.2.2.2.1])), (o_roads_far, .inl (y 0, 49, .inl r.2.2.2.2.1)), (o_roads_toHome, .inl (y 0, 448, .inl r.2.2.2.2.2.1)), (o_roads_found, .inl (y 0, 49, .inl r.2.2.2.2.2.2))] := by
  unfold p_X7_round at h
  refine z_enI (by decide) (Nat.le_of_ble_eq_true rfl) ?_
  intro p e s m args below meth c A ls hr K hH hl
  obtain ⟨Q, hQ⟩ : ∃ Q, Q = MQ below (z_Qi D y A r.1 [(o, .inr (6, [.ref o_land, g_images, g_kept, g_text, g_textLength, g_above, g_below, .int r.2.1, g_nos, g_fulls, .ref o_roads, g_reader, g_traveller, g_questions])), (o_land, .inr (0, [.ref o_land_placeKind, .ref o_land_placeX, .ref o_land_placeY, .int v_land_places, .ref o_land_crowKind, .int v_land_crows, .ref o_land_now, g_land_past, g_land_pasts, g_land_notes, g_land_marks])), (o_land_placeKind, .inl (y 0, 7, .inl f_land_placeKind)), (o_land_placeX, .inl (y 0, 7, .inl f_land_placeX)), (o_land_placeY, .inl (y 0, 7, .inl f_land_placeY)), (o_land_crowKind, .inl (y 0, 3, .inl f_land_crowKind)), (o_land_now, .inr (1, [g_land_now_at, .ref o_land_now_tired, g_land_now_deedRows, g_land_now_deeds, .int v_land_now_hour])), (o_land_now_tired, .inl (y 0, 3, .inl f_land_now_tired)), (o_roads, .inr (4, [.ref o_roads_far, g_roads_toEnd, .ref o_roads_toHome, .ref o_roads_found, .int r.2.2.1, .int r.2.2.2.1])), (o_roads_far, .inl (y 0, 49, .inl r.2.2.2.2.1)), (o_roads_toHome, .inl (y 0, 448, .inl r.2.2.2.2.2.1)), (o_roads_found, .inl (y 0, 49, .inl r.2.2.2.2.2.2))]) args s 0 0 A := ⟨_, rfl⟩
  rw [← hQ]
  have hl : lv_has ls 3 [(0, .ref o), (1, .int p1), (2, .int p2)] := hl
  refine lv_aload_n K.x K.b dX7_round_0 rfl (lv_at hl 0 rfl) ?_
  refine z_get K hH 0 rfl zin_7 rfl 0 (by decide) tw_1_197 (v := .ref o_land) rfl dX7_round_1 ?_
  refine lv_iload_n K.x K.b dX7_round_4 rfl (lv_at hl 1 rfl) ?_
  obtain ⟨r1, hr2, h⟩ := z_bd_e h
  refine z_Vi K hH hl.1 (c_X0_hasCrow l D y o_land (.ref o_land_placeKind) (.ref o_land_placeX) (.ref o_land_placeY) (.int v_land_places) (.ref o_land_crowKind) (.ref o_land_now) (g_land_past) (g_land_pasts) (g_land_notes) (g_land_marks) v_land_crows p1 r1 hr2) (z_cwV K 1 tw_2_223 tw_2_224 tw_2_225 tw_1_2 tw_2_226 hd_X0_hasCrow ⟨by decide, by decide⟩) [1] [0, 2, 3, 4, 5, 6, 7, 8, 9, 10, 11] rfl (wr := [(o, .inr (6, [.ref o_land, g_images, g_kept, g_text, g_textLength, g_above, g_below, .int v_bads, g_nos, g_fulls, .ref o_roads, g_reader, g_traveller, g_questions])), (o_land_placeKind, .inl (y 0, 7, .inl f_land_placeKind)), (o_land_placeX, .inl (y 0, 7, .inl f_land_placeX)), (o_land_placeY, .inl (y 0, 7, .inl f_land_placeY)), (o_land_crowKind, .inl (y 0, 3, .inl f_land_crowKind)), (o_land_now, .inr (1, [g_land_now_at, .ref o_land_now_tired, g_land_now_deedRows, g_land_now_deeds, .int v_land_now_hour])), (o_land_now_tired, .inl (y 0, 3, .inl f_land_now_tired)), (o_roads, .inr (4, [.ref o_roads_far, g_roads_toEnd, .ref o_roads_toHome, .ref o_roads_found, .int v_roads_foundCount, .int v_roads_places])), (o_roads_far, .inl (y 0, 49, .inl f_roads_far)), (o_roads_toHome, .inl (y 0, 448, .inl f_roads_toHome)), (o_roads_found, .inl (y 0, 49, .inl f_roads_found))]) rfl rfl rfl (by decide) rfl rfl rfl (As := [.int p1]) (rest := []) rfl (Nat.le_of_ble_eq_true rfl) ⟨Nat.zero_le _, Nat.zero_le _⟩ dX7_round_5 (ws' := [(o, .inr (6, [.ref o_land, g_images, g_kept, g_text, g_textLength, g_above, g_below, .int v_bads, g_nos, g_fulls, .ref o_roads, g_reader, g_traveller, g_questions])), (o_land_placeKind, .inl (y 0, 7, .inl f_land_placeKind)), (o_land_placeX, .inl (y 0, 7, .inl f_land_placeX)), (o_land_placeY, .inl (y 0, 7, .inl f_land_placeY)), (o_land_crowKind, .inl (y 0, 3, .inl f_land_crowKind)), (o_land_now, .inr (1, [g_land_now_at, .ref o_land_now_tired, g_land_now_deedRows, g_land_now_deeds, .int v_land_now_hour])), (o_land_now_tired, .inl (y 0, 3, .inl f_land_now_tired)), (o_roads, .inr (4, [.ref o_roads_far, g_roads_toEnd, .ref o_roads_toHome, .ref o_roads_found, .int v_roads_foundCount, .int v_roads_places])), (o_roads_far, .inl (y 0, 49, .inl f_roads_far)), (o_roads_toHome, .inl (y 0, 448, .inl f_roads_toHome)), (o_roads_found, .inl (y 0, 49, .inl f_roads_found)), (o_land, .inr (0, [.ref o_land_placeKind, .ref o_land_placeX, .ref o_land_placeY, .int v_land_places, .ref o_land_crowKind, .int v_land_crows, .ref o_land_now, g_land_past, g_land_pasts, g_land_notes, g_land_marks]))]) rfl (fun H locs hH => ?_)
  refine lv_if_eq (tgt := 16) K.x K.b dX7_round_8 (by decide) (fun c3 => ?_) (fun c3 => ?_)
  · replace h := z_t c3 h
    refine lv_aload_n K.x K.b dX7_round_16 rfl (lv_at hl 0 rfl) ?_
    obtain ⟨r4, hr5, h⟩ := z_bd_e h
    refine z_Vi K hH hl.1 (c_X7_refuseList l D y o (.ref o_land) (g_images) (g_kept) (g_text) (g_textLength) (g_above) (g_below) (g_nos) (g_fulls) (.ref o_roads) (g_reader) (g_traveller) (g_questions) v_bads r4 hr5) (z_cwV K 0 tw_3_58 tw_3_60 tw_0_17 tw_1_1 tw_3_61 hd_X7_refuseList ⟨by decide, by decide⟩) [0] [1, 2, 3, 4, 5, 6, 7, 8, 9, 10, 11] rfl (wr := [(o_land_placeKind, .inl (y 0, 7, .inl f_land_placeKind)), (o_land_placeX, .inl (y 0, 7, .inl f_land_placeX)), (o_land_placeY, .inl (y 0, 7, .inl f_land_placeY)), (o_land_crowKind, .inl (y 0, 3, .inl f_land_crowKind)), (o_land_now, .inr (1, [g_land_now_at, .ref o_land_now_tired, g_land_now_deedRows, g_land_now_deeds, .int v_land_now_hour])), (o_land_now_tired, .inl (y 0, 3, .inl f_land_now_tired)), (o_roads, .inr (4, [.ref o_roads_far, g_roads_toEnd, .ref o_roads_toHome, .ref o_roads_found, .int v_roads_foundCount, .int v_roads_places])), (o_roads_far, .inl (y 0, 49, .inl f_roads_far)), (o_roads_toHome, .inl (y 0, 448, .inl f_roads_toHome)), (o_roads_found, .inl (y 0, 49, .inl f_roads_found)), (o_land, .inr (0, [.ref o_land_placeKind, .ref o_land_placeX, .ref o_land_placeY, .int v_land_places, .ref o_land_crowKind, .int v_land_crows, .ref o_land_now, g_land_past, g_land_pasts, g_land_notes, g_land_marks]))]) rfl rfl rfl (by decide) rfl rfl rfl (As := []) (rest := []) rfl (Nat.le_of_ble_eq_true rfl) ⟨Nat.zero_le _, Nat.zero_le _⟩ dX7_round_17 (ws' := [(o_land_placeKind, .inl (y 0, 7, .inl f_land_placeKind)), (o_land_placeX, .inl (y 0, 7, .inl f_land_placeX)), (o_land_placeY, .inl (y 0, 7, .inl f_land_placeY)), (o_land_crowKind, .inl (y 0, 3, .inl f_land_crowKind)), (o_land_now, .inr (1, [g_land_now_at, .ref o_land_now_tired, g_land_now_deedRows, g_land_now_deeds, .int v_land_now_hour])), (o_land_now_tired, .inl (y 0, 3, .inl f_land_now_tired)), (o_roads, .inr (4, [.ref o_roads_far, g_roads_toEnd, .ref o_roads_toHome, .ref o_roads_found, .int v_roads_foundCount, .int v_roads_places])), (o_roads_far, .inl (y 0, 49, .inl f_roads_far)), (o_roads_toHome, .inl (y 0, 448, .inl f_roads_toHome)), (o_roads_found, .inl (y 0, 49, .inl f_roads_found)), (o_land, .inr (0, [.ref o_land_placeKind, .ref o_land_placeX, .ref o_land_placeY, .int v_land_places, .ref o_land_crowKind, .int v_land_crows, .ref o_land_now, g_land_past, g_land_pasts, g_land_notes, g_land_marks])), (o, .inr (6, [.ref o_land, g_images, g_kept, g_text, g_textLength, g_above, g_below, .int r4.2, g_nos, g_fulls, .ref o_roads, g_reader, g_traveller, g_questions]))]) rfl (fun H locs hH => ?_)
    have hr9 := Option.some.inj h
    obtain rfl := hr9
    rw [hQ]
    exact z_reti K hr hH [11, 10, 0, 1, 2, 3, 4, 5, 6, 7, 8, 9] (by decide) rfl rfl rfl dX7_round_20
  · replace h := z_f c3 h
    refine lv_iload_n K.x K.b dX7_round_11 rfl (lv_at hl 2 rfl) ?_
    refine lv_iconst (v := (-1)) K.x K.b dX7_round_12 (by decide) ?_
    refine lv_icmp_ge (tgt := 21) K.x K.b dX7_round_13 (by decide) (fun c6 => ?_) (fun c6 => ?_)
    · replace h := z_t c6 h
      refine lv_aload_n K.x K.b dX7_round_21 rfl (lv_at hl 0 rfl) ?_
      refine z_get K hH 0 rfl zin_7 rfl 10 (by decide) tw_1_207 (v := .ref o_roads) rfl dX7_round_22 ?_
      refine lv_aload_n K.x K.b dX7_round_25 rfl (lv_at hl 0 rfl) ?_
      refine z_get K hH 0 rfl zin_7 rfl 0 (by decide) tw_1_197 (v := .ref o_land) rfl dX7_round_26 ?_
      refine lv_iload_n K.x K.b dX7_round_29 rfl (lv_at hl 1 rfl) ?_
      obtain ⟨r7, hr8, h⟩ := z_bd_e h
      refine z_Vv K hH hl.1 (c_X5_measure l D y o_roads o_roads_far o_land o_land_placeKind o_land_placeX o_land_placeY o_land_crowKind o_land_now o_land_now_tired (g_roads_toEnd) (.ref o_roads_toHome) (.ref o_roads_found) (.int v_land_crows) (g_land_past) (g_land_pasts) (g_land_notes) (g_land_marks) (g_land_now_at) (g_land_now_deedRows) (g_land_now_deeds) v_roads_foundCount v_roads_places f_roads_far v_land_places f_land_placeKind f_land_placeX f_land_placeY f_land_crowKind v_land_now_hour f_land_now_tired p1 r7 hr8) (z_cwV K 2 tw_3_62 tw_3_63 tw_3_64 tw_1_5 tw_3_65 hd_X5_measure ⟨by decide, by decide⟩) [7, 8, 11, 1, 2, 3, 4, 5, 6] [0, 9, 10] rfl (wr := [(o, .inr (6, [.ref o_land, g_images, g_kept, g_text, g_textLength, g_above, g_below, .int v_bads, g_nos, g_fulls, .ref o_roads, g_reader, g_traveller, g_questions])), (o_roads_toHome, .inl (y 0, 448, .inl f_roads_toHome)), (o_roads_found, .inl (y 0, 49, .inl f_roads_found))]) rfl rfl rfl (by decide) rfl rfl rfl (As := [.ref o_land, .int p1]) (rest := []) rfl (Nat.le_of_ble_eq_true rfl) ⟨Nat.zero_le _, Nat.zero_le _⟩ dX7_round_30 (ws' := [(o, .inr (6, [.ref o_land, g_images, g_kept, g_text, g_textLength, g_above, g_below, .int v_bads, g_nos, g_fulls, .ref o_roads, g_reader, g_traveller, g_questions])), (o_roads_toHome, .inl (y 0, 448, .inl f_roads_toHome)), (o_roads_found, .inl (y 0, 49, .inl f_roads_found)), (o_roads, .inr (4, [.ref o_roads_far, g_roads_toEnd, .ref o_roads_toHome, .ref o_roads_found, .int r7.1, .int r7.2.1])), (o_roads_far, .inl (y 0, 49, .inl r7.2.2)), (o_land, .inr (0, [.ref o_land_placeKind, .ref o_land_placeX, .ref o_land_placeY, .int v_land_places, .ref o_land_crowKind, .int v_land_crows, .ref o_land_now, g_land_past, g_land_pasts, g_land_notes, g_land_marks])), (o_land_placeKind, .inl (y 0, 7, .inl f_land_placeKind)), (o_land_placeX, .inl (y 0, 7, .inl f_land_placeX)), (o_land_placeY, .inl (y 0, 7, .inl f_land_placeY)), (o_land_crowKind, .inl (y 0, 3, .inl f_land_crowKind)), (o_land_now, .inr (1, [g_land_now_at, .ref o_land_now_tired, g_land_now_deedRows, g_land_now_deeds, .int v_land_now_hour])), (o_land_now_tired, .inl (y 0, 3, .inl f_land_now_tired))]) rfl (fun H locs hH => ?_)
      refine lv_aload_n K.x K.b dX7_round_33 rfl (lv_at hl 0 rfl) ?_
      refine z_get K hH 0 rfl zin_7 rfl 10 (by decide) tw_1_207 (v := .ref o_roads) rfl dX7_round_34 ?_
      refine lv_iload_n K.x K.b dX7_round_37 rfl (lv_at hl 2 rfl) ?_
      refine lv_aload_n K.x K.b dX7_round_38 rfl (lv_at hl 0 rfl) ?_
      refine z_get K hH 0 rfl zin_7 rfl 10 (by decide) tw_1_207 (v := .ref o_roads) rfl dX7_round_39 ?_
      obtain ⟨r9, hr10, h⟩ := z_bd_e h
      refine z_Vi K hH hl.1 (c_X5_findRound l D y o_roads o_roads_far o_roads_toHome o_roads_found (g_roads_toEnd) r7.1 r7.2.1 r7.2.2 f_roads_toHome f_roads_found r9 hr10) (z_cwV K 0 tw_3_97 tw_3_98 tw_3_99 tw_1_5 tw_3_100 hd_X5_findRound ⟨by decide, by decide⟩) [3, 4, 1, 2] [0, 5, 6, 7, 8, 9, 10, 11] rfl (wr := [(o, .inr (6, [.ref o_land, g_images, g_kept, g_text, g_textLength, g_above, g_below, .int v_bads, g_nos, g_fulls, .ref o_roads, g_reader, g_traveller, g_questions])), (o_land, .inr (0, [.ref o_land_placeKind, .ref o_land_placeX, .ref o_land_placeY, .int v_land_places, .ref o_land_crowKind, .int v_land_crows, .ref o_land_now, g_land_past, g_land_pasts, g_land_notes, g_land_marks])), (o_land_placeKind, .inl (y 0, 7, .inl f_land_placeKind)), (o_land_placeX, .inl (y 0, 7, .inl f_land_placeX)), (o_land_placeY, .inl (y 0, 7, .inl f_land_placeY)), (o_land_crowKind, .inl (y 0, 3, .inl f_land_crowKind)), (o_land_now, .inr (1, [g_land_now_at, .ref o_land_now_tired, g_land_now_deedRows, g_land_now_deeds, .int v_land_now_hour])), (o_land_now_tired, .inl (y 0, 3, .inl f_land_now_tired))]) rfl rfl rfl (by decide) rfl rfl rfl (As := []) (rest := [.int p2, .ref o_roads]) rfl (Nat.le_of_ble_eq_true rfl) ⟨Nat.zero_le _, Nat.zero_le _⟩ dX7_round_42 (ws' := [(o, .inr (6, [.ref o_land, g_images, g_kept, g_text, g_textLength, g_above, g_below, .int v_bads, g_nos, g_fulls, .ref o_roads, g_reader, g_traveller, g_questions])), (o_land, .inr (0, [.ref o_land_placeKind, .ref o_land_placeX, .ref o_land_placeY, .int v_land_places, .ref o_land_crowKind, .int v_land_crows, .ref o_land_now, g_land_past, g_land_pasts, g_land_notes, g_land_marks])), (o_land_placeKind, .inl (y 0, 7, .inl f_land_placeKind)), (o_land_placeX, .inl (y 0, 7, .inl f_land_placeX)), (o_land_placeY, .inl (y 0, 7, .inl f_land_placeY)), (o_land_crowKind, .inl (y 0, 3, .inl f_land_crowKind)), (o_land_now, .inr (1, [g_land_now_at, .ref o_land_now_tired, g_land_now_deedRows, g_land_now_deeds, .int v_land_now_hour])), (o_land_now_tired, .inl (y 0, 3, .inl f_land_now_tired)), (o_roads, .inr (4, [.ref o_roads_far, g_roads_toEnd, .ref o_roads_toHome, .ref o_roads_found, .int r9.2.1, .int r7.2.1])), (o_roads_far, .inl (y 0, 49, .inl r7.2.2)), (o_roads_toHome, .inl (y 0, 448, .inl r9.2.2.1)), (o_roads_found, .inl (y 0, 49, .inl r9.2.2.2))]) rfl (fun H locs hH => ?_)
      obtain ⟨r11, hr12, h⟩ := z_bd_e h
      refine z_Vi K hH hl.1 (c_X5_answer l D y o_roads o_roads_found (.ref o_roads_far) (g_roads_toEnd) (.ref o_roads_toHome) (.int r7.2.1) r9.2.1 r9.2.2.2 p2 r9.1 r11 hr12) (z_cwV K 2 tw_3_89 tw_3_90 tw_3_91 tw_1_5 tw_3_92 hd_X5_answer ⟨by decide, by decide⟩) [8, 11] [0, 1, 2, 3, 4, 5, 6, 7, 9, 10] rfl (wr := [(o, .inr (6, [.ref o_land, g_images, g_kept, g_text, g_textLength, g_above, g_below, .int v_bads, g_nos, g_fulls, .ref o_roads, g_reader, g_traveller, g_questions])), (o_land, .inr (0, [.ref o_land_placeKind, .ref o_land_placeX, .ref o_land_placeY, .int v_land_places, .ref o_land_crowKind, .int v_land_crows, .ref o_land_now, g_land_past, g_land_pasts, g_land_notes, g_land_marks])), (o_land_placeKind, .inl (y 0, 7, .inl f_land_placeKind)), (o_land_placeX, .inl (y 0, 7, .inl f_land_placeX)), (o_land_placeY, .inl (y 0, 7, .inl f_land_placeY)), (o_land_crowKind, .inl (y 0, 3, .inl f_land_crowKind)), (o_land_now, .inr (1, [g_land_now_at, .ref o_land_now_tired, g_land_now_deedRows, g_land_now_deeds, .int v_land_now_hour])), (o_land_now_tired, .inl (y 0, 3, .inl f_land_now_tired)), (o_roads_far, .inl (y 0, 49, .inl r7.2.2)), (o_roads_toHome, .inl (y 0, 448, .inl r9.2.2.1))]) rfl rfl rfl (by decide) rfl rfl rfl (As := [.int p2, .int r9.1]) (rest := []) rfl (Nat.le_of_ble_eq_true rfl) ⟨Nat.zero_le _, Nat.zero_le _⟩ dX7_round_45 (ws' := [(o, .inr (6, [.ref o_land, g_images, g_kept, g_text, g_textLength, g_above, g_below, .int v_bads, g_nos, g_fulls, .ref o_roads, g_reader, g_traveller, g_questions])), (o_land, .inr (0, [.ref o_land_placeKind, .ref o_land_placeX, .ref o_land_placeY, .int v_land_places, .ref o_land_crowKind, .int v_land_crows, .ref o_land_now, g_land_past, g_land_pasts, g_land_notes, g_land_marks])), (o_land_placeKind, .inl (y 0, 7, .inl f_land_placeKind)), (o_land_placeX, .inl (y 0, 7, .inl f_land_placeX)), (o_land_placeY, .inl (y 0, 7, .inl f_land_placeY)), (o_land_crowKind, .inl (y 0, 3, .inl f_land_crowKind)), (o_land_now, .inr (1, [g_land_now_at, .ref o_land_now_tired, g_land_now_deedRows, g_land_now_deeds, .int v_land_now_hour])), (o_land_now_tired, .inl (y 0, 3, .inl f_land_now_tired)), (o_roads_far, .inl (y 0, 49, .inl r7.2.2)), (o_roads_toHome, .inl (y 0, 448, .inl r9.2.2.1)), (o_roads, .inr (4, [.ref o_roads_far, g_roads_toEnd, .ref o_roads_toHome, .ref o_roads_found, .int r9.2.1, .int r7.2.1])), (o_roads_found, .inl (y 0, 49, .inl r9.2.2.2))]) rfl (fun H locs hH => ?_)
      have hr9 := Option.some.inj h
      obtain rfl := hr9
      rw [hQ]
      exact z_reti K hr hH [0, 1, 2, 3, 4, 5, 6, 7, 10, 8, 9, 11] (by decide) rfl rfl rfl dX7_round_48
    · replace h := z_f c6 h
      refine lv_aload_n K.x K.b dX7_round_16 rfl (lv_at hl 0 rfl) ?_
      obtain ⟨r13, hr14, h⟩ := z_bd_e h
      refine z_Vi K hH hl.1 (c_X7_refuseList l D y o (.ref o_land) (g_images) (g_kept) (g_text) (g_textLength) (g_above) (g_below) (g_nos) (g_fulls) (.ref o_roads) (g_reader) (g_traveller) (g_questions) v_bads r13 hr14) (z_cwV K 0 tw_3_58 tw_3_60 tw_0_17 tw_1_1 tw_3_61 hd_X7_refuseList ⟨by decide, by decide⟩) [0] [1, 2, 3, 4, 5, 6, 7, 8, 9, 10, 11] rfl (wr := [(o_land_placeKind, .inl (y 0, 7, .inl f_land_placeKind)), (o_land_placeX, .inl (y 0, 7, .inl f_land_placeX)), (o_land_placeY, .inl (y 0, 7, .inl f_land_placeY)), (o_land_crowKind, .inl (y 0, 3, .inl f_land_crowKind)), (o_land_now, .inr (1, [g_land_now_at, .ref o_land_now_tired, g_land_now_deedRows, g_land_now_deeds, .int v_land_now_hour])), (o_land_now_tired, .inl (y 0, 3, .inl f_land_now_tired)), (o_roads, .inr (4, [.ref o_roads_far, g_roads_toEnd, .ref o_roads_toHome, .ref o_roads_found, .int v_roads_foundCount, .int v_roads_places])), (o_roads_far, .inl (y 0, 49, .inl f_roads_far)), (o_roads_toHome, .inl (y 0, 448, .inl f_roads_toHome)), (o_roads_found, .inl (y 0, 49, .inl f_roads_found)), (o_land, .inr (0, [.ref o_land_placeKind, .ref o_land_placeX, .ref o_land_placeY, .int v_land_places, .ref o_land_crowKind, .int v_land_crows, .ref o_land_now, g_land_past, g_land_pasts, g_land_notes, g_land_marks]))]) rfl rfl rfl (by decide) rfl rfl rfl (As := []) (rest := []) rfl (Nat.le_of_ble_eq_true rfl) ⟨Nat.zero_le _, Nat.zero_le _⟩ dX7_round_17 (ws' := [(o_land_placeKind, .inl (y 0, 7, .inl f_land_placeKind)), (o_land_placeX, .inl (y 0, 7, .inl f_land_placeX)), (o_land_placeY, .inl (y 0, 7, .inl f_land_placeY)), (o_land_crowKind, .inl (y 0, 3, .inl f_land_crowKind)), (o_land_now, .inr (1, [g_land_now_at, .ref o_land_now_tired, g_land_now_deedRows, g_land_now_deeds, .int v_land_now_hour])), (o_land_now_tired, .inl (y 0, 3, .inl f_land_now_tired)), (o_roads, .inr (4, [.ref o_roads_far, g_roads_toEnd, .ref o_roads_toHome, .ref o_roads_found, .int v_roads_foundCount, .int v_roads_places])), (o_roads_far, .inl (y 0, 49, .inl f_roads_far)), (o_roads_toHome, .inl (y 0, 448, .inl f_roads_toHome)), (o_roads_found, .inl (y 0, 49, .inl f_roads_found)), (o_land, .inr (0, [.ref o_land_placeKind, .ref o_land_placeX, .ref o_land_placeY, .int v_land_places, .ref o_land_crowKind, .int v_land_crows, .ref o_land_now, g_land_past, g_land_pasts, g_land_notes, g_land_marks])), (o, .inr (6, [.ref o_land, g_images, g_kept, g_text, g_textLength, g_above, g_below, .int r13.2, g_nos, g_fulls, .ref o_roads, g_reader, g_traveller, g_questions]))]) rfl (fun H locs hH => ?_)
      have hr9 := Option.some.inj h
      obtain rfl := hr9
      rw [hQ]
      exact z_reti K hr hH [11, 10, 0, 1, 2, 3, 4, 5, 6, 7, 8, 9] (by decide) rfl rfl rfl dX7_round_20
