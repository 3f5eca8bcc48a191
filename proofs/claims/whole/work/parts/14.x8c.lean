noncomputable def p_X8_readItem (v_size : Int32) (v_at : Int32) (v_from : Int32) (v_token : Int32) (v_value : Int32) (v_readFault : Int32) (f_w : (Nat → Int32)) (f_text : (Nat → Int32)) : Option (Int32 × Int32 × Int32 × Int32 × Int32 × (Nat → Int32)) :=
  z_bd (p_X8_spells v_at v_from v_token f_text (112 : Int32) (108 : Int32) (97 : Int32) (99 : Int32) (101 : Int32) (0 : Int32) (0 : Int32)) fun r1 =>
  z_bd (α := (Nat → Int32) × Int32 × Int32 × Int32 × Int32 × Int32) (if (r1 = 0) then
  (z_bd (p_X8_spells v_at v_from v_token f_text (99 : Int32) (114 : Int32) (111 : Int32) (119 : Int32) (0 : Int32) (0 : Int32) (0 : Int32)) fun r7 =>
  if (r7 = 0) then
  (z_bd (p_X8_spells v_at v_from v_token f_text (102 : Int32) (108 : Int32) (121 : Int32) (0 : Int32) (0 : Int32) (0 : Int32) (0 : Int32)) fun r10 =>
  if (r10 = 0) then
  (z_bd (p_X8_spells v_at v_from v_token f_text (114 : Int32) (101 : Int32) (115 : Int32) (116 : Int32) (0 : Int32) (0 : Int32) (0 : Int32)) fun r13 =>
  if (r13 = 0) then
  (z_bd (p_X8_spells v_at v_from v_token f_text (104 : Int32) (111 : Int32) (117 : Int32) (114 : Int32) (115 : Int32) (0 : Int32) (0 : Int32)) fun r16 =>
  if (r16 = 0) then
  (z_bd (p_X8_wrong v_from v_readFault) fun r19 =>
  some (f_w, v_at, v_from, v_token, v_value, r19)) else
  (z_bd (p_X8_readHours v_size v_at v_from v_token v_value v_readFault f_w f_text) fun r21 =>
  some (r21.2.2.2.2.2, r21.1, r21.2.1, r21.2.2.1, r21.2.2.2.1, r21.2.2.2.2.1))) else
  (z_bd (p_X8_readRest v_size v_at v_from v_token v_value v_readFault f_w f_text) fun r23 =>
  some (r23.2.2.2.2.2, r23.1, r23.2.1, r23.2.2.1, r23.2.2.2.1, r23.2.2.2.2.1))) else
  (z_bd (p_X8_readFly v_size v_at v_from v_token v_value v_readFault f_w f_text) fun r25 =>
  some (r25.2.2.2.2.2, r25.1, r25.2.1, r25.2.2.1, r25.2.2.2.1, r25.2.2.2.2.1))) else
  (z_bd (p_X8_readCrow v_size v_at v_from v_token v_value v_readFault f_w f_text) fun r27 =>
  some (r27.2.2.2.2.2, r27.1, r27.2.1, r27.2.2.1, r27.2.2.2.1, r27.2.2.2.2.1))) else
  (z_bd (p_X8_readPlace v_size v_at v_from v_token v_value v_readFault f_w f_text) fun r29 =>
  some (r29.2.2.2.2.2, r29.1, r29.2.1, r29.2.2.1, r29.2.2.2.1, r29.2.2.2.2.1))) fun j3 =>
  z_bd (p_X8_stop v_size j3.2.1 j3.2.2.1 j3.2.2.2.1 j3.2.2.2.2.1 j3.2.2.2.2.2 f_text) fun r4 =>
  some (r4.1, r4.2.1, r4.2.2.1, r4.2.2.2.1, r4.2.2.2.2, j3.1)
theorem hd_X8_readItem : yX8_readItem.cls = RX8 ∧ yX8_readItem.cls ≠ "java/lang/invoke/MethodHandle" ∧ yX8_readItem.cls ≠ "java/lang/invoke/VarHandle" ∧ (parseMethodDescriptor yX8_readItem.desc).map (fun d => d.parameters.length) = some 0 := by decide +kernel
set_option maxHeartbeats 4000000 in
set_option maxRecDepth 100000 in
theorem c_X8_readItem (l : Launch) (D : va_G) (y : Nat → ClassId) (o o_w o_text : Nat) (g_kept g_above g_below g_bads g_noes g_fulls g_yet g_fars g_tells : Value) (v_size : Int32) (v_at : Int32) (v_from : Int32) (v_token : Int32) (v_value : Int32) (v_readFault : Int32) (f_w : (Nat → Int32)) (f_text : (Nat → Int32)) (r : Int32 × Int32 × Int32 × Int32 × Int32 × (Nat → Int32)) (h : p_X8_readItem v_size v_at v_from v_token v_value v_readFault f_w f_text = some r) : z_MV l yX8_readItem cX8_readItem 1 none 6 147 D y [.ref o] [(o, .inr (7, [.ref o_w, g_kept, .ref o_text, .int v_size, g_above, g_below, g_bads, g_noes, g_fulls, .int v_at, .int v_from, .int v_token, .int v_value, .int v_readFault, g_yet, g_fars, g_tells])), (o_w, .inl (y 0, 1960, .inl f_w)), (o_text, .inl (y 0, 150, .inl f_text))] [(o, .inr (7, [.ref o_w, g_kept, .ref o_text, .int v_size, g_above, g_below, g_bads, g_noes, g_fulls, .int r.1, .int r.2.1, .int r.2.2.1, .int r.2.2.2.1, .int r.2.2.2.2.1, g_yet, g_fars, g_tells])), (o_w, .inl (y 0, 1960, .inl r.2.2.2.2.2)), (o_text, .inl (y 0, 150, .inl f_text))] := by
  unfold p_X8_readItem at h
  refine z_enV (by decide) (Nat.le_of_ble_eq_true rfl) ?_
  intro p e s m args below meth c A ls hr K hH hl
  obtain ⟨Q, hQ⟩ : ∃ Q, Q = MQ below (z_Qv D y A [(o, .inr (7, [.ref o_w, g_kept, .ref o_text, .int v_size, g_above, g_below, g_bads, g_noes, g_fulls, .int r.1, .int r.2.1, .int r.2.2.1, .int r.2.2.2.1, .int r.2.2.2.2.1, g_yet, g_fars, g_tells])), (o_w, .inl (y 0, 1960, .inl r.2.2.2.2.2)), (o_text, .inl (y 0, 150, .inl f_text))]) args s 0 0 A := ⟨_, rfl⟩
  rw [← hQ]
  have hl : lv_has ls 1 [(0, .ref o)] := hl
  refine lv_aload_n K.x K.b dX8_readItem_0 rfl (lv_at hl 0 rfl) ?_
  refine lv_bipush (v := (112)) K.x K.b dX8_readItem_1 (by decide) ?_
  refine lv_bipush (v := (108)) K.x K.b dX8_readItem_3 (by decide) ?_
  refine lv_bipush (v := (97)) K.x K.b dX8_readItem_5 (by decide) ?_
  refine lv_bipush (v := (99)) K.x K.b dX8_readItem_7 (by decide) ?_
  refine lv_bipush (v := (101)) K.x K.b dX8_readItem_9 (by decide) ?_
  refine lv_iconst (v := (0)) K.x K.b dX8_readItem_11 (by decide) ?_
  refine lv_iconst (v := (0)) K.x K.b dX8_readItem_12 (by decide) ?_
  obtain ⟨r1, hr2, h⟩ := z_bd_e h
  refine z_Vi K hH hl.1 (c_X8_spells l D y o o_text (.ref o_w) (g_kept) (.int v_size) (g_above) (g_below) (g_bads) (g_noes) (g_fulls) (.int v_value) (.int v_readFault) (g_yet) (g_fars) (g_tells) v_at v_from v_token f_text (112 : Int32) (108 : Int32) (97 : Int32) (99 : Int32) (101 : Int32) (0 : Int32) (0 : Int32) r1 hr2) (z_cwV K 7 tw_4_215 tw_4_217 tw_0_46 tw_1_8 tw_4_218 hd_X8_spells ⟨by decide, by decide⟩) [0, 2] [1] rfl (wr := [(o_w, .inl (y 0, 1960, .inl f_w))]) rfl rfl rfl (by decide) rfl rfl rfl (As := [.int (112 : Int32), .int (108 : Int32), .int (97 : Int32), .int (99 : Int32), .int (101 : Int32), .int (0 : Int32), .int (0 : Int32)]) (rest := []) rfl (Nat.le_of_ble_eq_true rfl) ⟨Nat.zero_le _, Nat.zero_le _⟩ dX8_readItem_13 (ws' := [(o_w, .inl (y 0, 1960, .inl f_w)), (o, .inr (7, [.ref o_w, g_kept, .ref o_text, .int v_size, g_above, g_below, g_bads, g_noes, g_fulls, .int v_at, .int v_from, .int v_token, .int v_value, .int v_readFault, g_yet, g_fars, g_tells])), (o_text, .inl (y 0, 150, .inl f_text))]) rfl (fun H locs hH => ?_)
  obtain ⟨j3, hj3, h⟩ := z_bd_e h
  have Kj3 : ∀ (H : Heap) (locs : List Loc) (ls : Array Slot), z_H D A s.heap [(o_w, .inl (y 0, 1960, .inl j3.1)), (o, .inr (7, [.ref o_w, g_kept, .ref o_text, .int v_size, g_above, g_below, g_bads, g_noes, g_fulls, .int j3.2.1, .int j3.2.2.1, .int j3.2.2.2.1, .int j3.2.2.2.2.1, .int j3.2.2.2.2.2, g_yet, g_fars, g_tells])), (o_text, .inl (y 0, 150, .inl f_text))] H locs → lv_has ls 1 [(0, .ref o)] → W p l e (zR 6 147) s m args below meth c H locs 0 0 Q (F0 m 130 ls []) := by
    intro H locs ls hH hl
    refine lv_aload_n K.x K.b dX8_readItem_130 rfl (lv_at hl 0 rfl) ?_
    obtain ⟨r4, hr5, h⟩ := z_bd_e h
    refine z_Vv K hH hl.1 (c_X8_stop l D y o o_text (.ref o_w) (g_kept) (g_above) (g_below) (g_bads) (g_noes) (g_fulls) (g_yet) (g_fars) (g_tells) v_size j3.2.1 j3.2.2.1 j3.2.2.2.1 j3.2.2.2.2.1 j3.2.2.2.2.2 f_text r4 hr5) (z_cwV K 0 tw_4_227 tw_4_229 tw_0_49 tw_1_8 tw_4_230 hd_X8_stop ⟨by decide, by decide⟩) [1, 2] [0] rfl (wr := [(o_w, .inl (y 0, 1960, .inl j3.1))]) rfl rfl rfl (by decide) rfl rfl rfl (As := []) (rest := []) rfl (Nat.le_of_ble_eq_true rfl) ⟨Nat.zero_le _, Nat.zero_le _⟩ dX8_readItem_131 (ws' := [(o_w, .inl (y 0, 1960, .inl j3.1)), (o, .inr (7, [.ref o_w, g_kept, .ref o_text, .int v_size, g_above, g_below, g_bads, g_noes, g_fulls, .int r4.1, .int r4.2.1, .int r4.2.2.1, .int r4.2.2.2.1, .int r4.2.2.2.2, g_yet, g_fars, g_tells])), (o_text, .inl (y 0, 150, .inl f_text))]) rfl (fun H locs hH => ?_)
    have hr9 := Option.some.inj h
    obtain rfl := hr9
    rw [hQ]
    exact z_retv K hr hH [1, 0, 2] (by decide) rfl dX8_readItem_134
  replace h := hj3
  refine lv_if_eq (tgt := 26) K.x K.b dX8_readItem_16 (by decide) (fun c6 => ?_) (fun c6 => ?_)
  · replace h := z_t c6 h
    refine lv_aload_n K.x K.b dX8_readItem_26 rfl (lv_at hl 0 rfl) ?_
    refine lv_bipush (v := (99)) K.x K.b dX8_readItem_27 (by decide) ?_
    refine lv_bipush (v := (114)) K.x K.b dX8_readItem_29 (by decide) ?_
    refine lv_bipush (v := (111)) K.x K.b dX8_readItem_31 (by decide) ?_
    refine lv_bipush (v := (119)) K.x K.b dX8_readItem_33 (by decide) ?_
    refine lv_iconst (v := (0)) K.x K.b dX8_readItem_35 (by decide) ?_
    refine lv_iconst (v := (0)) K.x K.b dX8_readItem_36 (by decide) ?_
    refine lv_iconst (v := (0)) K.x K.b dX8_readItem_37 (by decide) ?_
    obtain ⟨r7, hr8, h⟩ := z_bd_e h
    refine z_Vi K hH hl.1 (c_X8_spells l D y o o_text (.ref o_w) (g_kept) (.int v_size) (g_above) (g_below) (g_bads) (g_noes) (g_fulls) (.int v_value) (.int v_readFault) (g_yet) (g_fars) (g_tells) v_at v_from v_token f_text (99 : Int32) (114 : Int32) (111 : Int32) (119 : Int32) (0 : Int32) (0 : Int32) (0 : Int32) r7 hr8) (z_cwV K 7 tw_4_215 tw_4_217 tw_0_46 tw_1_8 tw_4_218 hd_X8_spells ⟨by decide, by decide⟩) [1, 2] [0] rfl (wr := [(o_w, .inl (y 0, 1960, .inl f_w))]) rfl rfl rfl (by decide) rfl rfl rfl (As := [.int (99 : Int32), .int (114 : Int32), .int (111 : Int32), .int (119 : Int32), .int (0 : Int32), .int (0 : Int32), .int (0 : Int32)]) (rest := []) rfl (Nat.le_of_ble_eq_true rfl) ⟨Nat.zero_le _, Nat.zero_le _⟩ dX8_readItem_38 (ws' := [(o_w, .inl (y 0, 1960, .inl f_w)), (o, .inr (7, [.ref o_w, g_kept, .ref o_text, .int v_size, g_above, g_below, g_bads, g_noes, g_fulls, .int v_at, .int v_from, .int v_token, .int v_value, .int v_readFault, g_yet, g_fars, g_tells])), (o_text, .inl (y 0, 150, .inl f_text))]) rfl (fun H locs hH => ?_)
    refine lv_if_eq (tgt := 51) K.x K.b dX8_readItem_41 (by decide) (fun c9 => ?_) (fun c9 => ?_)
    · replace h := z_t c9 h
      refine lv_aload_n K.x K.b dX8_readItem_51 rfl (lv_at hl 0 rfl) ?_
      refine lv_bipush (v := (102)) K.x K.b dX8_readItem_52 (by decide) ?_
      refine lv_bipush (v := (108)) K.x K.b dX8_readItem_54 (by decide) ?_
      refine lv_bipush (v := (121)) K.x K.b dX8_readItem_56 (by decide) ?_
      refine lv_iconst (v := (0)) K.x K.b dX8_readItem_58 (by decide) ?_
      refine lv_iconst (v := (0)) K.x K.b dX8_readItem_59 (by decide) ?_
      refine lv_iconst (v := (0)) K.x K.b dX8_readItem_60 (by decide) ?_
      refine lv_iconst (v := (0)) K.x K.b dX8_readItem_61 (by decide) ?_
      obtain ⟨r10, hr11, h⟩ := z_bd_e h
      refine z_Vi K hH hl.1 (c_X8_spells l D y o o_text (.ref o_w) (g_kept) (.int v_size) (g_above) (g_below) (g_bads) (g_noes) (g_fulls) (.int v_value) (.int v_readFault) (g_yet) (g_fars) (g_tells) v_at v_from v_token f_text (102 : Int32) (108 : Int32) (121 : Int32) (0 : Int32) (0 : Int32) (0 : Int32) (0 : Int32) r10 hr11) (z_cwV K 7 tw_4_215 tw_4_217 tw_0_46 tw_1_8 tw_4_218 hd_X8_spells ⟨by decide, by decide⟩) [1, 2] [0] rfl (wr := [(o_w, .inl (y 0, 1960, .inl f_w))]) rfl rfl rfl (by decide) rfl rfl rfl (As := [.int (102 : Int32), .int (108 : Int32), .int (121 : Int32), .int (0 : Int32), .int (0 : Int32), .int (0 : Int32), .int (0 : Int32)]) (rest := []) rfl (Nat.le_of_ble_eq_true rfl) ⟨Nat.zero_le _, Nat.zero_le _⟩ dX8_readItem_62 (ws' := [(o_w, .inl (y 0, 1960, .inl f_w)), (o, .inr (7, [.ref o_w, g_kept, .ref o_text, .int v_size, g_above, g_below, g_bads, g_noes, g_fulls, .int v_at, .int v_from, .int v_token, .int v_value, .int v_readFault, g_yet, g_fars, g_tells])), (o_text, .inl (y 0, 150, .inl f_text))]) rfl (fun H locs hH => ?_)
      refine lv_if_eq (tgt := 75) K.x K.b dX8_readItem_65 (by decide) (fun c12 => ?_) (fun c12 => ?_)
      · replace h := z_t c12 h
        refine lv_aload_n K.x K.b dX8_readItem_75 rfl (lv_at hl 0 rfl) ?_
        refine lv_bipush (v := (114)) K.x K.b dX8_readItem_76 (by decide) ?_
        refine lv_bipush (v := (101)) K.x K.b dX8_readItem_78 (by decide) ?_
        refine lv_bipush (v := (115)) K.x K.b dX8_readItem_80 (by decide) ?_
        refine lv_bipush (v := (116)) K.x K.b dX8_readItem_82 (by decide) ?_
        refine lv_iconst (v := (0)) K.x K.b dX8_readItem_84 (by decide) ?_
        refine lv_iconst (v := (0)) K.x K.b dX8_readItem_85 (by decide) ?_
        refine lv_iconst (v := (0)) K.x K.b dX8_readItem_86 (by decide) ?_
        obtain ⟨r13, hr14, h⟩ := z_bd_e h
        refine z_Vi K hH hl.1 (c_X8_spells l D y o o_text (.ref o_w) (g_kept) (.int v_size) (g_above) (g_below) (g_bads) (g_noes) (g_fulls) (.int v_value) (.int v_readFault) (g_yet) (g_fars) (g_tells) v_at v_from v_token f_text (114 : Int32) (101 : Int32) (115 : Int32) (116 : Int32) (0 : Int32) (0 : Int32) (0 : Int32) r13 hr14) (z_cwV K 7 tw_4_215 tw_4_217 tw_0_46 tw_1_8 tw_4_218 hd_X8_spells ⟨by decide, by decide⟩) [1, 2] [0] rfl (wr := [(o_w, .inl (y 0, 1960, .inl f_w))]) rfl rfl rfl (by decide) rfl rfl rfl (As := [.int (114 : Int32), .int (101 : Int32), .int (115 : Int32), .int (116 : Int32), .int (0 : Int32), .int (0 : Int32), .int (0 : Int32)]) (rest := []) rfl (Nat.le_of_ble_eq_true rfl) ⟨Nat.zero_le _, Nat.zero_le _⟩ dX8_readItem_87 (ws' := [(o_w, .inl (y 0, 1960, .inl f_w)), (o, .inr (7, [.ref o_w, g_kept, .ref o_text, .int v_size, g_above, g_below, g_bads, g_noes, g_fulls, .int v_at, .int v_from, .int v_token, .int v_value, .int v_readFault, g_yet, g_fars, g_tells])), (o_text, .inl (y 0, 150, .inl f_text))]) rfl (fun H locs hH => ?_)
        refine lv_if_eq (tgt := 100) K.x K.b dX8_readItem_90 (by decide) (fun c15 => ?_) (fun c15 => ?_)
        · replace h := z_t c15 h
          refine lv_aload_n K.x K.b dX8_readItem_100 rfl (lv_at hl 0 rfl) ?_
          refine lv_bipush (v := (104)) K.x K.b dX8_readItem_101 (by decide) ?_
          refine lv_bipush (v := (111)) K.x K.b dX8_readItem_103 (by decide) ?_
          refine lv_bipush (v := (117)) K.x K.b dX8_readItem_105 (by decide) ?_
          refine lv_bipush (v := (114)) K.x K.b dX8_readItem_107 (by decide) ?_
          refine lv_bipush (v := (115)) K.x K.b dX8_readItem_109 (by decide) ?_
          refine lv_iconst (v := (0)) K.x K.b dX8_readItem_111 (by decide) ?_
          refine lv_iconst (v := (0)) K.x K.b dX8_readItem_112 (by decide) ?_
          obtain ⟨r16, hr17, h⟩ := z_bd_e h
          refine z_Vi K hH hl.1 (c_X8_spells l D y o o_text (.ref o_w) (g_kept) (.int v_size) (g_above) (g_below) (g_bads) (g_noes) (g_fulls) (.int v_value) (.int v_readFault) (g_yet) (g_fars) (g_tells) v_at v_from v_token f_text (104 : Int32) (111 : Int32) (117 : Int32) (114 : Int32) (115 : Int32) (0 : Int32) (0 : Int32) r16 hr17) (z_cwV K 7 tw_4_215 tw_4_217 tw_0_46 tw_1_8 tw_4_218 hd_X8_spells ⟨by decide, by decide⟩) [1, 2] [0] rfl (wr := [(o_w, .inl (y 0, 1960, .inl f_w))]) rfl rfl rfl (by decide) rfl rfl rfl (As := [.int (104 : Int32), .int (111 : Int32), .int (117 : Int32), .int (114 : Int32), .int (115 : Int32), .int (0 : Int32), .int (0 : Int32)]) (rest := []) rfl (Nat.le_of_ble_eq_true rfl) ⟨Nat.zero_le _, Nat.zero_le _⟩ dX8_readItem_113 (ws' := [(o_w, .inl (y 0, 1960, .inl f_w)), (o, .inr (7, [.ref o_w, g_kept, .ref o_text, .int v_size, g_above, g_below, g_bads, g_noes, g_fulls, .int v_at, .int v_from, .int v_token, .int v_value, .int v_readFault, g_yet, g_fars, g_tells])), (o_text, .inl (y 0, 150, .inl f_text))]) rfl (fun H locs hH => ?_)
          refine lv_if_eq (tgt := 126) K.x K.b dX8_readItem_116 (by decide) (fun c18 => ?_) (fun c18 => ?_)
          · replace h := z_t c18 h
            refine lv_aload_n K.x K.b dX8_readItem_126 rfl (lv_at hl 0 rfl) ?_
            obtain ⟨r19, hr20, h⟩ := z_bd_e h
            refine z_Vv K hH hl.1 (c_X8_wrong l D y o (.ref o_w) (g_kept) (.ref o_text) (.int v_size) (g_above) (g_below) (g_bads) (g_noes) (g_fulls) (.int v_at) (.int v_token) (.int v_value) (g_yet) (g_fars) (g_tells) v_from v_readFault r19 hr20) (z_cwV K 0 tw_4_223 tw_4_225 tw_0_48 tw_1_8 tw_4_226 hd_X8_wrong ⟨by decide, by decide⟩) [1] [0, 2] rfl (wr := [(o_w, .inl (y 0, 1960, .inl f_w)), (o_text, .inl (y 0, 150, .inl f_text))]) rfl rfl rfl (by decide) rfl rfl rfl (As := []) (rest := []) rfl (Nat.le_of_ble_eq_true rfl) ⟨Nat.zero_le _, Nat.zero_le _⟩ dX8_readItem_127 (ws' := [(o_w, .inl (y 0, 1960, .inl f_w)), (o_text, .inl (y 0, 150, .inl f_text)), (o, .inr (7, [.ref o_w, g_kept, .ref o_text, .int v_size, g_above, g_below, g_bads, g_noes, g_fulls, .int v_at, .int v_from, .int v_token, .int v_value, .int r19, g_yet, g_fars, g_tells]))]) rfl (fun H locs hH => ?_)
            obtain rfl := Option.some.inj h
            exact Kj3 _ _ _ (hH.sub [0, 2, 1] (by decide) rfl) (lv_sub hl [0] rfl)
          · replace h := z_f c18 h
            refine lv_aload_n K.x K.b dX8_readItem_119 rfl (lv_at hl 0 rfl) ?_
            obtain ⟨r21, hr22, h⟩ := z_bd_e h
            refine z_Vv K hH hl.1 (c_X8_readHours l D y o o_w o_text (g_kept) (g_above) (g_below) (g_bads) (g_noes) (g_fulls) (g_yet) (g_fars) (g_tells) v_size v_at v_from v_token v_value v_readFault f_w f_text r21 hr22) (z_cwV K 0 tw_5_52 tw_5_54 tw_0_63 tw_1_8 tw_5_55 hd_X8_readHours ⟨by decide, by decide⟩) [1, 0, 2] [] rfl (wr := []) rfl rfl rfl (by decide) rfl rfl rfl (As := []) (rest := []) rfl (Nat.le_of_ble_eq_true rfl) ⟨Nat.zero_le _, Nat.zero_le _⟩ dX8_readItem_120 (ws' := [(o, .inr (7, [.ref o_w, g_kept, .ref o_text, .int v_size, g_above, g_below, g_bads, g_noes, g_fulls, .int r21.1, .int r21.2.1, .int r21.2.2.1, .int r21.2.2.2.1, .int r21.2.2.2.2.1, g_yet, g_fars, g_tells])), (o_w, .inl (y 0, 1960, .inl r21.2.2.2.2.2)), (o_text, .inl (y 0, 150, .inl f_text))]) rfl (fun H locs hH => ?_)
            refine lv_goto (tgt := 130) K.x K.b dX8_readItem_123 (by decide) ?_
            obtain rfl := Option.some.inj h
            exact Kj3 _ _ _ (hH.sub [1, 0, 2] (by decide) rfl) (lv_sub hl [0] rfl)
        · replace h := z_f c15 h
          refine lv_aload_n K.x K.b dX8_readItem_93 rfl (lv_at hl 0 rfl) ?_
          obtain ⟨r23, hr24, h⟩ := z_bd_e h
          refine z_Vv K hH hl.1 (c_X8_readRest l D y o o_w o_text (g_kept) (g_above) (g_below) (g_bads) (g_noes) (g_fulls) (g_yet) (g_fars) (g_tells) v_size v_at v_from v_token v_value v_readFault f_w f_text r23 hr24) (z_cwV K 0 tw_5_44 tw_5_46 tw_0_61 tw_1_8 tw_5_47 hd_X8_readRest ⟨by decide, by decide⟩) [1, 0, 2] [] rfl (wr := []) rfl rfl rfl (by decide) rfl rfl rfl (As := []) (rest := []) rfl (Nat.le_of_ble_eq_true rfl) ⟨Nat.zero_le _, Nat.zero_le _⟩ dX8_readItem_94 (ws' := [(o, .inr (7, [.ref o_w, g_kept, .ref o_text, .int v_size, g_above, g_below, g_bads, g_noes, g_fulls, .int r23.1, .int r23.2.1, .int r23.2.2.1, .int r23.2.2.2.1, .int r23.2.2.2.2.1, g_yet, g_fars, g_tells])), (o_w, .inl (y 0, 1960, .inl r23.2.2.2.2.2)), (o_text, .inl (y 0, 150, .inl f_text))]) rfl (fun H locs hH => ?_)
          refine lv_goto (tgt := 130) K.x K.b dX8_readItem_97 (by decide) ?_
          obtain rfl := Option.some.inj h
          exact Kj3 _ _ _ (hH.sub [1, 0, 2] (by decide) rfl) (lv_sub hl [0] rfl)
      · replace h := z_f c12 h
        refine lv_aload_n K.x K.b dX8_readItem_68 rfl (lv_at hl 0 rfl) ?_
        obtain ⟨r25, hr26, h⟩ := z_bd_e h
        refine z_Vv K hH hl.1 (c_X8_readFly l D y o o_w o_text (g_kept) (g_above) (g_below) (g_bads) (g_noes) (g_fulls) (g_yet) (g_fars) (g_tells) v_size v_at v_from v_token v_value v_readFault f_w f_text r25 hr26) (z_cwV K 0 tw_5_11 tw_5_13 tw_0_55 tw_1_8 tw_5_14 hd_X8_readFly ⟨by decide, by decide⟩) [1, 0, 2] [] rfl (wr := []) rfl rfl rfl (by decide) rfl rfl rfl (As := []) (rest := []) rfl (Nat.le_of_ble_eq_true rfl) ⟨Nat.zero_le _, Nat.zero_le _⟩ dX8_readItem_69 (ws' := [(o, .inr (7, [.ref o_w, g_kept, .ref o_text, .int v_size, g_above, g_below, g_bads, g_noes, g_fulls, .int r25.1, .int r25.2.1, .int r25.2.2.1, .int r25.2.2.2.1, .int r25.2.2.2.2.1, g_yet, g_fars, g_tells])), (o_w, .inl (y 0, 1960, .inl r25.2.2.2.2.2)), (o_text, .inl (y 0, 150, .inl f_text))]) rfl (fun H locs hH => ?_)
        refine lv_goto (tgt := 130) K.x K.b dX8_readItem_72 (by decide) ?_
        obtain rfl := Option.some.inj h
        exact Kj3 _ _ _ (hH.sub [1, 0, 2] (by decide) rfl) (lv_sub hl [0] rfl)
    · replace h := z_f c9 h
      refine lv_aload_n K.x K.b dX8_readItem_44 rfl (lv_at hl 0 rfl) ?_
      obtain ⟨r27, hr28, h⟩ := z_bd_e h
      refine z_Vv K hH hl.1 (c_X8_readCrow l D y o o_w o_text (g_kept) (g_above) (g_below) (g_bads) (g_noes) (g_fulls) (g_yet) (g_fars) (g_tells) v_size v_at v_from v_token v_value v_readFault f_w f_text r27 hr28) (z_cwV K 0 tw_5_7 tw_5_9 tw_0_54 tw_1_8 tw_5_10 hd_X8_readCrow ⟨by decide, by decide⟩) [1, 0, 2] [] rfl (wr := []) rfl rfl rfl (by decide) rfl rfl rfl (As := []) (rest := []) rfl (Nat.le_of_ble_eq_true rfl) ⟨Nat.zero_le _, Nat.zero_le _⟩ dX8_readItem_45 (ws' := [(o, .inr (7, [.ref o_w, g_kept, .ref o_text, .int v_size, g_above, g_below, g_bads, g_noes, g_fulls, .int r27.1, .int r27.2.1, .int r27.2.2.1, .int r27.2.2.2.1, .int r27.2.2.2.2.1, g_yet, g_fars, g_tells])), (o_w, .inl (y 0, 1960, .inl r27.2.2.2.2.2)), (o_text, .inl (y 0, 150, .inl f_text))]) rfl (fun H locs hH => ?_)
      refine lv_goto (tgt := 130) K.x K.b dX8_readItem_48 (by decide) ?_
      obtain rfl := Option.some.inj h
      exact Kj3 _ _ _ (hH.sub [1, 0, 2] (by decide) rfl) (lv_sub hl [0] rfl)
  · replace h := z_f c6 h
    refine lv_aload_n K.x K.b dX8_readItem_19 rfl (lv_at hl 0 rfl) ?_
    obtain ⟨r29, hr30, h⟩ := z_bd_e h
    refine z_Vv K hH hl.1 (c_X8_readPlace l D y o o_w o_text (g_kept) (g_above) (g_below) (g_bads) (g_noes) (g_fulls) (g_yet) (g_fars) (g_tells) v_size v_at v_from v_token v_value v_readFault f_w f_text r29 hr30) (z_cwV K 0 tw_4_239 tw_5_1 tw_0_52 tw_1_8 tw_5_2 hd_X8_readPlace ⟨by decide, by decide⟩) [1, 0, 2] [] rfl (wr := []) rfl rfl rfl (by decide) rfl rfl rfl (As := []) (rest := []) rfl (Nat.le_of_ble_eq_true rfl) ⟨Nat.zero_le _, Nat.zero_le _⟩ dX8_readItem_20 (ws' := [(o, .inr (7, [.ref o_w, g_kept, .ref o_text, .int v_size, g_above, g_below, g_bads, g_noes, g_fulls, .int r29.1, .int r29.2.1, .int r29.2.2.1, .int r29.2.2.2.1, .int r29.2.2.2.2.1, g_yet, g_fars, g_tells])), (o_w, .inl (y 0, 1960, .inl r29.2.2.2.2.2)), (o_text, .inl (y 0, 150, .inl f_text))]) rfl (fun H locs hH => ?_)
    refine lv_goto (tgt := 130) K.x K.b dX8_readItem_23 (by decide) ?_
    obtain rfl := Option.some.inj h
    exact Kj3 _ _ _ (hH.sub [1, 0, 2] (by decide) rfl) (lv_sub hl [0] rfl)
noncomputable def p_X8_read (v_size : Int32) (v_at : Int32) (v_from : Int32) (v_token : Int32) (v_value : Int32) (v_readFault : Int32) (f_w : (Nat → Int32)) (f_text : (Nat → Int32)) : Option (Int32 × Int32 × Int32 × Int32 × Int32 × Int32 × (Nat → Int32)) :=
  z_bd (p_X8_clearRow f_w (1437 : Int32)) fun r1 =>
  z_bd (p_X8_nextToken v_size (0 : Int32) v_from v_token v_value f_text) fun r3 =>
  z_bd (p_X8_spells r3.1 r3.2.1 r3.2.2.1 f_text (99 : Int32) (111 : Int32) (117 : Int32) (110 : Int32) (116 : Int32) (114 : Int32) (121 : Int32)) fun r5 =>
  z_bd (α := Int32) (if (r5 = 0) then
  (z_bd (p_X8_wrong r3.2.1 (-1 : Int32)) fun r32 =>
  some r32) else
  (some (-1 : Int32))) fun j7 =>
  z_bd (p_X8_stop v_size r3.1 r3.2.1 r3.2.2.1 r3.2.2.2 j7 f_text) fun r8 =>
  z_bd (p_X8_fine r8.2.2.2.2) fun r10 =>
  z_bd (z_lp (S := Int32 × Int32 × Int32 × Int32 × Int32 × Int32 × (Nat → Int32) × Int32) (E := Int32 × (Nat → Int32) × Int32 × Int32 × Int32 × Int32 × Int32) (fun s12 =>
  if (s12.1 = 0) then
  (some (.inr (s12.2.1, s12.2.2.2.2.2.2.1, s12.2.2.1, s12.2.2.2.1, s12.2.2.2.2.1, s12.2.2.2.2.2.1, s12.2.2.2.2.2.2.2))) else
  (z_bd (p_X8_nextToken v_size s12.2.2.1 s12.2.2.2.1 s12.2.2.2.2.1 s12.2.2.2.2.2.1 f_text) fun r21 =>
  z_bd (α := Int32) (if (r21.2.2.1 = 0) then
  (some (0 : Int32)) else
  (some (1 : Int32))) fun j23 =>
  if (j23 = 0) then
  (some (.inl (j23, s12.2.1, r21.1, r21.2.1, r21.2.2.1, r21.2.2.2, s12.2.2.2.2.2.2.1, s12.2.2.2.2.2.2.2))) else
  (z_bd (p_X8_readItem v_size r21.1 r21.2.1 r21.2.2.1 r21.2.2.2 s12.2.2.2.2.2.2.2 s12.2.2.2.2.2.2.1 f_text) fun r25 =>
  z_lt (s12.2.1 + (1 : Int32)) fun x27 =>
  z_bd (p_X8_fine r25.2.2.2.2.1) fun r28 =>
  some (.inl (r28, x27, r25.1, r25.2.1, r25.2.2.1, r25.2.2.2.1, r25.2.2.2.2.2, r25.2.2.2.2.1))))) (r10, (1 : Int32), r8.1, r8.2.1, r8.2.2.1, r8.2.2.2.1, r1, r8.2.2.2.2)) fun e13 =>
  z_bd (p_X8_fine e13.2.2.2.2.2.2) fun r14 =>
  if (r14 = 0) then
  (some (((-10 : Int32) - e13.2.2.2.2.2.2), e13.2.2.1, e13.2.2.2.1, e13.2.2.2.2.1, e13.2.2.2.2.2.1, e13.2.2.2.2.2.2, e13.2.1)) else
  (z_bd (p_X8_copyRow e13.2.1 (1437 : Int32) (0 : Int32) (479 : Int32)) fun r17 =>
  some (e13.1, e13.2.2.1, e13.2.2.2.1, e13.2.2.2.2.1, e13.2.2.2.2.2.1, e13.2.2.2.2.2.2, r17))
theorem hd_X8_read : yX8_read.cls = RX8 ∧ yX8_read.cls ≠ "java/lang/invoke/MethodHandle" ∧ yX8_read.cls ≠ "java/lang/invoke/VarHandle" ∧ (parseMethodDescriptor yX8_read.desc).map (fun d => d.parameters.length) = some 0 := by decide +kernel
set_option maxHeartbeats 4000000 in
set_option maxRecDepth 100000 in
theorem c_X8_read (l : Launch) (D : va_G) (y : Nat → ClassId) (o o_w o_text : Nat) (g_kept g_above g_below g_bads g_noes g_fulls g_yet g_fars g_tells : Value) (v_size : Int32) (v_at : Int32) (v_from : Int32) (v_token : Int32) (v_value : Int32) (v_readFault : Int32) (f_w : (Nat → Int32)) (f_text : (Nat → Int32)) (r : Int32 × Int32 × Int32 × Int32 × Int32 × Int32 × (Nat → Int32)) (h : p_X8_read v_size v_at v_from v_token v_value v_readFault f_w f_text = some r) : z_MI l yX8_read cX8_read 3 (some .int) 7 167 D y [.ref o] [(o, .inr (7, [.ref o_w, g_kept, .ref o_text, .int v_size, g_above, g_below, g_bads, g_noes, g_fulls, .int v_at, .int v_from, .int v_token, .int v_value, .int v_readFault, g_yet, g_fars, g_tells])), (o_w, .inl (y 0, 1960, .inl f_w)), (o_text, .inl (y 0, 150, .inl f_text))] r.1 [(o, .inr (7, [.ref o_w, g_kept, .ref o_text, .int v_size, g_above, g_below, g_bads, g_noes, g_fulls, .int r.2.1, .int r.2.2.1, .int r.2.2.2.1, .int r.2.2.2.2.1, .int r.2.2.2.2.2.1, g_yet, g_fars, g_tells])), (o_w, .inl (y 0, 1960, .inl r.2.2.2.2.2.2)), (o_text, .inl (y 0, 150, .inl f_text))] := by
  unfold p_X8_read at h
  refine z_enI (by decide) (Nat.le_of_ble_eq_true rfl) ?_
  intro p e s m args below meth c A ls hr K hH hl
  obtain ⟨Q, hQ⟩ : ∃ Q, Q = MQ below (z_Qi D y A r.1 [(o, .inr (7, [.ref o_w, g_kept, .ref o_text, .int v_size, g_above, g_below, g_bads, g_noes, g_fulls, .int r.2.1, .int r.2.2.1, .int r.2.2.2.1, .int r.2.2.2.2.1, .int r.2.2.2.2.2.1, g_yet, g_fars, g_tells])), (o_w, .inl (y 0, 1960, .inl r.2.2.2.2.2.2)), (o_text, .inl (y 0, 150, .inl f_text))]) args s 0 0 A := ⟨_, rfl⟩
  rw [← hQ]
  have hl : lv_has ls 3 [(0, .ref o)] := hl
  refine lv_aload_n K.x K.b dX8_read_0 rfl (lv_at hl 0 rfl) ?_
  refine lv_iconst (v := (0)) K.x K.b dX8_read_1 (by decide) ?_
  refine z_put K hH 0 (ws' := [(o, .inr (7, [.ref o_w, g_kept, .ref o_text, .int v_size, g_above, g_below, g_bads, g_noes, g_fulls, .int (0 : Int32), .int v_from, .int v_token, .int v_value, .int v_readFault, g_yet, g_fars, g_tells])), (o_w, .inl (y 0, 1960, .inl f_w)), (o_text, .inl (y 0, 150, .inl f_text))]) rfl zin_8 rfl tyX8 tyX8_ok nmX8 9 (by decide) tw_4_105 rfl rfl rfl (Nat.le_of_ble_eq_true rfl) dX8_read_2 rfl (fun H locs hH => ?_)
  refine lv_aload_n K.x K.b dX8_read_5 rfl (lv_at hl 0 rfl) ?_
  refine lv_iconst (v := (-1)) K.x K.b dX8_read_6 (by decide) ?_
  refine z_put K hH 0 (ws' := [(o, .inr (7, [.ref o_w, g_kept, .ref o_text, .int v_size, g_above, g_below, g_bads, g_noes, g_fulls, .int (0 : Int32), .int v_from, .int v_token, .int v_value, .int (-1 : Int32), g_yet, g_fars, g_tells])), (o_w, .inl (y 0, 1960, .inl f_w)), (o_text, .inl (y 0, 150, .inl f_text))]) rfl zin_8 rfl tyX8 tyX8_ok nmX8 13 (by decide) tw_4_109 rfl rfl rfl (Nat.le_of_ble_eq_true rfl) dX8_read_7 rfl (fun H locs hH => ?_)
  refine lv_aload_n K.x K.b dX8_read_10 rfl (lv_at hl 0 rfl) ?_
  refine lv_sipush (v := (1437)) K.x K.b dX8_read_11 (by decide) ?_
  obtain ⟨r1, hr2, h⟩ := z_bd_e h
  refine z_Vv K hH hl.1 (c_X8_clearRow l D y o o_w (g_kept) (.ref o_text) (.int v_size) (g_above) (g_below) (g_bads) (g_noes) (g_fulls) (.int (0 : Int32)) (.int v_from) (.int v_token) (.int v_value) (.int (-1 : Int32)) (g_yet) (g_fars) (g_tells) f_w (1437 : Int32) r1 hr2) (z_cwV K 1 tw_4_152 tw_4_154 tw_0_36 tw_1_8 tw_4_155 hd_X8_clearRow ⟨by decide, by decide⟩) [0, 1] [2] rfl (wr := [(o_text, .inl (y 0, 150, .inl f_text))]) rfl rfl rfl (by decide) rfl rfl rfl (As := [.int (1437 : Int32)]) (rest := []) rfl (Nat.le_of_ble_eq_true rfl) ⟨Nat.zero_le _, Nat.zero_le _⟩ dX8_read_14 (ws' := [(o_text, .inl (y 0, 150, .inl f_text)), (o, .inr (7, [.ref o_w, g_kept, .ref o_text, .int v_size, g_above, g_below, g_bads, g_noes, g_fulls, .int (0 : Int32), .int v_from, .int v_token, .int v_value, .int (-1 : Int32), g_yet, g_fars, g_tells])), (o_w, .inl (y 0, 1960, .inl r1))]) rfl (fun H locs hH => ?_)
  refine lv_aload_n K.x K.b dX8_read_17 rfl (lv_at hl 0 rfl) ?_
  obtain ⟨r3, hr4, h⟩ := z_bd_e h
  refine z_Vv K hH hl.1 (c_X8_nextToken l D y o o_text (.ref o_w) (g_kept) (g_above) (g_below) (g_bads) (g_noes) (g_fulls) (.int (-1 : Int32)) (g_yet) (g_fars) (g_tells) v_size (0 : Int32) v_from v_token v_value f_text r3 hr4) (z_cwV K 0 tw_4_199 tw_4_201 tw_0_42 tw_1_8 tw_4_202 hd_X8_nextToken ⟨by decide, by decide⟩) [1, 0] [2] rfl (wr := [(o_w, .inl (y 0, 1960, .inl r1))]) rfl rfl rfl (by decide) rfl rfl rfl (As := []) (rest := []) rfl (Nat.le_of_ble_eq_true rfl) ⟨Nat.zero_le _, Nat.zero_le _⟩ dX8_read_18 (ws' := [(o_w, .inl (y 0, 1960, .inl r1)), (o, .inr (7, [.ref o_w, g_kept, .ref o_text, .int v_size, g_above, g_below, g_bads, g_noes, g_fulls, .int r3.1, .int r3.2.1, .int r3.2.2.1, .int r3.2.2.2, .int (-1 : Int32), g_yet, g_fars, g_tells])), (o_text, .inl (y 0, 150, .inl f_text))]) rfl (fun H locs hH => ?_)
  refine lv_aload_n K.x K.b dX8_read_21 rfl (lv_at hl 0 rfl) ?_
  refine lv_bipush (v := (99)) K.x K.b dX8_read_22 (by decide) ?_
  refine lv_bipush (v := (111)) K.x K.b dX8_read_24 (by decide) ?_
  refine lv_bipush (v := (117)) K.x K.b dX8_read_26 (by decide) ?_
  refine lv_bipush (v := (110)) K.x K.b dX8_read_28 (by decide) ?_
  refine lv_bipush (v := (116)) K.x K.b dX8_read_30 (by decide) ?_
  refine lv_bipush (v := (114)) K.x K.b dX8_read_32 (by decide) ?_
  refine lv_bipush (v := (121)) K.x K.b dX8_read_34 (by decide) ?_
  obtain ⟨r5, hr6, h⟩ := z_bd_e h
  refine z_Vi K hH hl.1 (c_X8_spells l D y o o_text (.ref o_w) (g_kept) (.int v_size) (g_above) (g_below) (g_bads) (g_noes) (g_fulls) (.int r3.2.2.2) (.int (-1 : Int32)) (g_yet) (g_fars) (g_tells) r3.1 r3.2.1 r3.2.2.1 f_text (99 : Int32) (111 : Int32) (117 : Int32) (110 : Int32) (116 : Int32) (114 : Int32) (121 : Int32) r5 hr6) (z_cwV K 7 tw_4_215 tw_4_217 tw_0_46 tw_1_8 tw_4_218 hd_X8_spells ⟨by decide, by decide⟩) [1, 2] [0] rfl (wr := [(o_w, .inl (y 0, 1960, .inl r1))]) rfl rfl rfl (by decide) rfl rfl rfl (As := [.int (99 : Int32), .int (111 : Int32), .int (117 : Int32), .int (110 : Int32), .int (116 : Int32), .int (114 : Int32), .int (121 : Int32)]) (rest := []) rfl (Nat.le_of_ble_eq_true rfl) ⟨Nat.zero_le _, Nat.zero_le _⟩ dX8_read_36 (ws' := [(o_w, .inl (y 0, 1960, .inl r1)), (o, .inr (7, [.ref o_w, g_kept, .ref o_text, .int v_size, g_above, g_below, g_bads, g_noes, g_fulls, .int r3.1, .int r3.2.1, .int r3.2.2.1, .int r3.2.2.2, .int (-1 : Int32), g_yet, g_fars, g_tells])), (o_text, .inl (y 0, 150, .inl f_text))]) rfl (fun H locs hH => ?_)
  obtain ⟨j7, hj7, h⟩ := z_bd_e h
  have Kj7 : ∀ (H : Heap) (locs : List Loc) (ls : Array Slot), z_H D A s.heap [(o_w, .inl (y 0, 1960, .inl r1)), (o, .inr (7, [.ref o_w, g_kept, .ref o_text, .int v_size, g_above, g_below, g_bads, g_noes, g_fulls, .int r3.1, .int r3.2.1, .int r3.2.2.1, .int r3.2.2.2, .int j7, g_yet, g_fars, g_tells])), (o_text, .inl (y 0, 150, .inl f_text))] H locs → lv_has ls 3 [(0, .ref o)] → W p l e (zR 7 167) s m args below meth c H locs 0 0 Q (F0 m 46 ls []) := by
    intro H locs ls hH hl
    refine lv_aload_n K.x K.b dX8_read_46 rfl (lv_at hl 0 rfl) ?_
    obtain ⟨r8, hr9, h⟩ := z_bd_e h
    refine z_Vv K hH hl.1 (c_X8_stop l D y o o_text (.ref o_w) (g_kept) (g_above) (g_below) (g_bads) (g_noes) (g_fulls) (g_yet) (g_fars) (g_tells) v_size r3.1 r3.2.1 r3.2.2.1 r3.2.2.2 j7 f_text r8 hr9) (z_cwV K 0 tw_4_227 tw_4_229 tw_0_49 tw_1_8 tw_4_230 hd_X8_stop ⟨by decide, by decide⟩) [1, 2] [0] rfl (wr := [(o_w, .inl (y 0, 1960, .inl r1))]) rfl rfl rfl (by decide) rfl rfl rfl (As := []) (rest := []) rfl (Nat.le_of_ble_eq_true rfl) ⟨Nat.zero_le _, Nat.zero_le _⟩ dX8_read_47 (ws' := [(o_w, .inl (y 0, 1960, .inl r1)), (o, .inr (7, [.ref o_w, g_kept, .ref o_text, .int v_size, g_above, g_below, g_bads, g_noes, g_fulls, .int r8.1, .int r8.2.1, .int r8.2.2.1, .int r8.2.2.2.1, .int r8.2.2.2.2, g_yet, g_fars, g_tells])), (o_text, .inl (y 0, 150, .inl f_text))]) rfl (fun H locs hH => ?_)
    refine lv_iconst (v := (1)) K.x K.b dX8_read_50 (by decide) ?_
    refine lv_istore_n (lv' := [(1, .int (1 : Int32)), (0, .ref o)]) K.x K.b dX8_read_51 rfl hl (by decide) rfl (fun ls hl => ?_)
    refine lv_aload_n K.x K.b dX8_read_52 rfl (lv_at hl 1 rfl) ?_
    obtain ⟨r10, hr11, h⟩ := z_bd_e h
    refine z_Vi K hH hl.1 (c_X8_fine l D y o (.ref o_w) (g_kept) (.ref o_text) (.int v_size) (g_above) (g_below) (g_bads) (g_noes) (g_fulls) (.int r8.1) (.int r8.2.1) (.int r8.2.2.1) (.int r8.2.2.2.1) (g_yet) (g_fars) (g_tells) r8.2.2.2.2 r10 hr11) (z_cwV K 0 tw_4_231 tw_4_233 tw_0_50 tw_1_8 tw_4_234 hd_X8_fine ⟨by decide, by decide⟩) [1] [0, 2] rfl (wr := [(o_w, .inl (y 0, 1960, .inl r1)), (o_text, .inl (y 0, 150, .inl f_text))]) rfl rfl rfl (by decide) rfl rfl rfl (As := []) (rest := []) rfl (Nat.le_of_ble_eq_true rfl) ⟨Nat.zero_le _, Nat.zero_le _⟩ dX8_read_53 (ws' := [(o_w, .inl (y 0, 1960, .inl r1)), (o_text, .inl (y 0, 150, .inl f_text)), (o, .inr (7, [.ref o_w, g_kept, .ref o_text, .int v_size, g_above, g_below, g_bads, g_noes, g_fulls, .int r8.1, .int r8.2.1, .int r8.2.2.1, .int r8.2.2.2.1, .int r8.2.2.2.2, g_yet, g_fars, g_tells]))]) rfl (fun H locs hH => ?_)
    refine lv_istore_n (lv' := [(2, .int r10), (1, .int (1 : Int32)), (0, .ref o)]) K.x K.b dX8_read_56 rfl hl (by decide) rfl (fun ls hl => ?_)
    obtain ⟨e13, hlpe13, h⟩ := z_bd_e h
    have KEe13 : ∀ (H : Heap) (locs : List Loc) (ls : Array Slot), z_H D A s.heap [(o_w, .inl (y 0, 1960, .inl e13.2.1)), (o_text, .inl (y 0, 150, .inl f_text)), (o, .inr (7, [.ref o_w, g_kept, .ref o_text, .int v_size, g_above, g_below, g_bads, g_noes, g_fulls, .int e13.2.2.1, .int e13.2.2.2.1, .int e13.2.2.2.2.1, .int e13.2.2.2.2.2.1, .int e13.2.2.2.2.2.2, g_yet, g_fars, g_tells]))] H locs → lv_has ls 3 [(0, .ref o), (1, .int e13.1)] → W p l e (zR 7 167) s m args below meth c H locs 0 0 Q (F0 m 97 ls []) := by
      intro H locs ls hH hl
      refine lv_aload_n K.x K.b dX8_read_97 rfl (lv_at hl 0 rfl) ?_
      obtain ⟨r14, hr15, h⟩ := z_bd_e h
      refine z_Vi K hH hl.1 (c_X8_fine l D y o (.ref o_w) (g_kept) (.ref o_text) (.int v_size) (g_above) (g_below) (g_bads) (g_noes) (g_fulls) (.int e13.2.2.1) (.int e13.2.2.2.1) (.int e13.2.2.2.2.1) (.int e13.2.2.2.2.2.1) (g_yet) (g_fars) (g_tells) e13.2.2.2.2.2.2 r14 hr15) (z_cwV K 0 tw_4_231 tw_4_233 tw_0_50 tw_1_8 tw_4_234 hd_X8_fine ⟨by decide, by decide⟩) [2] [0, 1] rfl (wr := [(o_w, .inl (y 0, 1960, .inl e13.2.1)), (o_text, .inl (y 0, 150, .inl f_text))]) rfl rfl rfl (by decide) rfl rfl rfl (As := []) (rest := []) rfl (Nat.le_of_ble_eq_true rfl) ⟨Nat.zero_le _, Nat.zero_le _⟩ dX8_read_98 (ws' := [(o_w, .inl (y 0, 1960, .inl e13.2.1)), (o_text, .inl (y 0, 150, .inl f_text)), (o, .inr (7, [.ref o_w, g_kept, .ref o_text, .int v_size, g_above, g_below, g_bads, g_noes, g_fulls, .int e13.2.2.1, .int e13.2.2.2.1, .int e13.2.2.2.2.1, .int e13.2.2.2.2.2.1, .int e13.2.2.2.2.2.2, g_yet, g_fars, g_tells]))]) rfl (fun H locs hH => ?_)
      refine lv_if_ne (tgt := 112) K.x K.b dX8_read_101 (by decide) (fun c16 => ?_) (fun c16 => ?_)
      · replace h := z_f c16 h
        refine lv_aload_n K.x K.b dX8_read_112 rfl (lv_at hl 0 rfl) ?_
        refine lv_sipush (v := (1437)) K.x K.b dX8_read_113 (by decide) ?_
        refine lv_iconst (v := (0)) K.x K.b dX8_read_116 (by decide) ?_
        refine lv_sipush (v := (479)) K.x K.b dX8_read_117 (by decide) ?_
        obtain ⟨r17, hr18, h⟩ := z_bd_e h
        refine z_Vv K hH hl.1 (c_X8_copyRow l D y o o_w (g_kept) (.ref o_text) (.int v_size) (g_above) (g_below) (g_bads) (g_noes) (g_fulls) (.int e13.2.2.1) (.int e13.2.2.2.1) (.int e13.2.2.2.2.1) (.int e13.2.2.2.2.2.1) (.int e13.2.2.2.2.2.2) (g_yet) (g_fars) (g_tells) e13.2.1 (1437 : Int32) (0 : Int32) (479 : Int32) r17 hr18) (z_cwV K 3 tw_5_56 tw_5_58 tw_0_64 tw_1_8 tw_5_59 hd_X8_copyRow ⟨by decide, by decide⟩) [2, 0] [1] rfl (wr := [(o_text, .inl (y 0, 150, .inl f_text))]) rfl rfl rfl (by decide) rfl rfl rfl (As := [.int (1437 : Int32), .int (0 : Int32), .int (479 : Int32)]) (rest := []) rfl (Nat.le_of_ble_eq_true rfl) ⟨Nat.zero_le _, Nat.zero_le _⟩ dX8_read_120 (ws' := [(o_text, .inl (y 0, 150, .inl f_text)), (o, .inr (7, [.ref o_w, g_kept, .ref o_text, .int v_size, g_above, g_below, g_bads, g_noes, g_fulls, .int e13.2.2.1, .int e13.2.2.2.1, .int e13.2.2.2.2.1, .int e13.2.2.2.2.2.1, .int e13.2.2.2.2.2.2, g_yet, g_fars, g_tells])), (o_w, .inl (y 0, 1960, .inl r17))]) rfl (fun H locs hH => ?_)
        refine lv_iload_n K.x K.b dX8_read_123 rfl (lv_at hl 1 rfl) ?_
        have hr9 := Option.some.inj h
        obtain rfl := hr9
        rw [hQ]
        exact z_reti K hr hH [1, 2, 0] (by decide) rfl rfl rfl dX8_read_124
      · replace h := z_t c16 h
        refine lv_bipush (v := (-10)) K.x K.b dX8_read_104 (by decide) ?_
        refine lv_aload_n K.x K.b dX8_read_106 rfl (lv_at hl 0 rfl) ?_
        refine z_get K hH 2 rfl zin_8 rfl 13 (by decide) tw_4_109 (v := .int e13.2.2.2.2.2.2) rfl dX8_read_107 ?_
        refine lv_isub K.x K.b dX8_read_110 ?_
        have hr9 := Option.some.inj h
        obtain rfl := hr9
        rw [hQ]
        exact z_reti K hr hH [2, 0, 1] (by decide) rfl rfl rfl dX8_read_111
    refine z_lp_ind (P := fun (s12 : Int32 × Int32 × Int32 × Int32 × Int32 × Int32 × (Nat → Int32) × Int32) => ∀ (H : Heap) (locs : List Loc) (ls : Array Slot), z_H D A s.heap [(o_w, .inl (y 0, 1960, .inl s12.2.2.2.2.2.2.1)), (o_text, .inl (y 0, 150, .inl f_text)), (o, .inr (7, [.ref o_w, g_kept, .ref o_text, .int v_size, g_above, g_below, g_bads, g_noes, g_fulls, .int s12.2.2.1, .int s12.2.2.2.1, .int s12.2.2.2.2.1, .int s12.2.2.2.2.2.1, .int s12.2.2.2.2.2.2.2, g_yet, g_fars, g_tells]))] H locs → lv_has ls 3 [(0, .ref o), (1, .int s12.2.1), (2, .int s12.1)] → W p l e (zR 7 167) s m args below meth c H locs 0 0 Q (F0 m 57 ls [])) ?_ _ hlpe13 _ _ _ hH (lv_sub hl [2, 1, 0] rfl)
    clear h hlpe13
    intro s12 x19 h ihe13 hee13 H locs ls hH hl
    refine lv_iload_n K.x K.b dX8_read_57 rfl (lv_at hl 2 rfl) ?_
    refine lv_if_eq (tgt := 97) K.x K.b dX8_read_58 (by decide) (fun c20 => ?_) (fun c20 => ?_)
    · replace h := z_t c20 h
      obtain rfl := hee13 _ (Option.some.inj h).symm
      exact KEe13 _ _ _ hH (lv_sub hl [0, 1] rfl)
    · replace h := z_f c20 h
      refine lv_aload_n K.x K.b dX8_read_61 rfl (lv_at hl 0 rfl) ?_
      obtain ⟨r21, hr22, h⟩ := z_bd_e h
      refine z_Vv K hH hl.1 (c_X8_nextToken l D y o o_text (.ref o_w) (g_kept) (g_above) (g_below) (g_bads) (g_noes) (g_fulls) (.int s12.2.2.2.2.2.2.2) (g_yet) (g_fars) (g_tells) v_size s12.2.2.1 s12.2.2.2.1 s12.2.2.2.2.1 s12.2.2.2.2.2.1 f_text r21 hr22) (z_cwV K 0 tw_4_199 tw_4_201 tw_0_42 tw_1_8 tw_4_202 hd_X8_nextToken ⟨by decide, by decide⟩) [2, 1] [0] rfl (wr := [(o_w, .inl (y 0, 1960, .inl s12.2.2.2.2.2.2.1))]) rfl rfl rfl (by decide) rfl rfl rfl (As := []) (rest := []) rfl (Nat.le_of_ble_eq_true rfl) ⟨Nat.zero_le _, Nat.zero_le _⟩ dX8_read_62 (ws' := [(o_w, .inl (y 0, 1960, .inl s12.2.2.2.2.2.2.1)), (o, .inr (7, [.ref o_w, g_kept, .ref o_text, .int v_size, g_above, g_below, g_bads, g_noes, g_fulls, .int r21.1, .int r21.2.1, .int r21.2.2.1, .int r21.2.2.2, .int s12.2.2.2.2.2.2.2, g_yet, g_fars, g_tells])), (o_text, .inl (y 0, 150, .inl f_text))]) rfl (fun H locs hH => ?_)
      refine lv_aload_n K.x K.b dX8_read_65 rfl (lv_at hl 0 rfl) ?_
      refine z_get K hH 1 rfl zin_8 rfl 11 (by decide) tw_4_107 (v := .int r21.2.2.1) rfl dX8_read_66 ?_
      obtain ⟨j23, hj23, h⟩ := z_bd_e h
      have Kj23 : ∀ (H : Heap) (locs : List Loc) (ls : Array Slot), z_H D A s.heap [(o_w, .inl (y 0, 1960, .inl s12.2.2.2.2.2.2.1)), (o, .inr (7, [.ref o_w, g_kept, .ref o_text, .int v_size, g_above, g_below, g_bads, g_noes, g_fulls, .int r21.1, .int r21.2.1, .int r21.2.2.1, .int r21.2.2.2, .int s12.2.2.2.2.2.2.2, g_yet, g_fars, g_tells])), (o_text, .inl (y 0, 150, .inl f_text))] H locs → lv_has ls 3 [(0, .ref o), (1, .int s12.2.1)] → W p l e (zR 7 167) s m args below meth c H locs 0 0 Q (F0 m 77 ls [.int j23]) := by
        intro H locs ls hH hl
        refine lv_istore_n (lv' := [(2, .int j23), (0, .ref o), (1, .int s12.2.1)]) K.x K.b dX8_read_77 rfl hl (by decide) rfl (fun ls hl => ?_)
        refine lv_iload_n K.x K.b dX8_read_78 rfl (lv_at hl 0 rfl) ?_
        refine lv_if_eq (tgt := 57) K.x K.b dX8_read_79 (by decide) (fun c24 => ?_) (fun c24 => ?_)
        · replace h := z_t c24 h
          exact ihe13 _ (Option.some.inj h).symm _ _ _ (hH.sub [0, 2, 1] (by decide) rfl) (lv_sub hl [1, 2, 0] rfl)
        · replace h := z_f c24 h
          refine lv_aload_n K.x K.b dX8_read_82 rfl (lv_at hl 1 rfl) ?_
          obtain ⟨r25, hr26, h⟩ := z_bd_e h
          refine z_Vv K hH hl.1 (c_X8_readItem l D y o o_w o_text (g_kept) (g_above) (g_below) (g_bads) (g_noes) (g_fulls) (g_yet) (g_fars) (g_tells) v_size r21.1 r21.2.1 r21.2.2.1 r21.2.2.2 s12.2.2.2.2.2.2.2 s12.2.2.2.2.2.2.1 f_text r25 hr26) (z_cwV K 0 tw_4_235 tw_4_237 tw_0_51 tw_1_8 tw_4_238 hd_X8_readItem ⟨by decide, by decide⟩) [1, 0, 2] [] rfl (wr := []) rfl rfl rfl (by decide) rfl rfl rfl (As := []) (rest := []) rfl (Nat.le_of_ble_eq_true rfl) ⟨Nat.zero_le _, Nat.zero_le _⟩ dX8_read_83 (ws' := [(o, .inr (7, [.ref o_w, g_kept, .ref o_text, .int v_size, g_above, g_below, g_bads, g_noes, g_fulls, .int r25.1, .int r25.2.1, .int r25.2.2.1, .int r25.2.2.2.1, .int r25.2.2.2.2.1, g_yet, g_fars, g_tells])), (o_w, .inl (y 0, 1960, .inl r25.2.2.2.2.2)), (o_text, .inl (y 0, 150, .inl f_text))]) rfl (fun H locs hH => ?_)
          obtain ⟨x27, ex27, h⟩ := z_lt_e h
          refine lv_iinc (v := x27) (lv' := [(1, .int x27), (2, .int j23), (0, .ref o)]) K.x K.b dX8_read_86 hl (k := 2) rfl (by rw [ex27]; rfl) (by decide) rfl (fun ls hl => ?_)
          refine lv_aload_n K.x K.b dX8_read_89 rfl (lv_at hl 2 rfl) ?_
          obtain ⟨r28, hr29, h⟩ := z_bd_e h
          refine z_Vi K hH hl.1 (c_X8_fine l D y o (.ref o_w) (g_kept) (.ref o_text) (.int v_size) (g_above) (g_below) (g_bads) (g_noes) (g_fulls) (.int r25.1) (.int r25.2.1) (.int r25.2.2.1) (.int r25.2.2.2.1) (g_yet) (g_fars) (g_tells) r25.2.2.2.2.1 r28 hr29) (z_cwV K 0 tw_4_231 tw_4_233 tw_0_50 tw_1_8 tw_4_234 hd_X8_fine ⟨by decide, by decide⟩) [0] [1, 2] rfl (wr := [(o_w, .inl (y 0, 1960, .inl r25.2.2.2.2.2)), (o_text, .inl (y 0, 150, .inl f_text))]) rfl rfl rfl (by decide) rfl rfl rfl (As := []) (rest := []) rfl (Nat.le_of_ble_eq_true rfl) ⟨Nat.zero_le _, Nat.zero_le _⟩ dX8_read_90 (ws' := [(o_w, .inl (y 0, 1960, .inl r25.2.2.2.2.2)), (o_text, .inl (y 0, 150, .inl f_text)), (o, .inr (7, [.ref o_w, g_kept, .ref o_text, .int v_size, g_above, g_below, g_bads, g_noes, g_fulls, .int r25.1, .int r25.2.1, .int r25.2.2.1, .int r25.2.2.2.1, .int r25.2.2.2.2.1, g_yet, g_fars, g_tells]))]) rfl (fun H locs hH => ?_)
          refine lv_istore_n (lv' := [(2, .int r28), (1, .int x27), (0, .ref o)]) K.x K.b dX8_read_93 rfl hl (by decide) rfl (fun ls hl => ?_)
          refine lv_goto (tgt := 57) K.x K.b dX8_read_94 (by decide) ?_
          exact ihe13 _ (Option.some.inj h).symm _ _ _ hH (lv_sub hl [2, 1, 0] rfl)
      replace h := hj23
      refine lv_if_eq (tgt := 76) K.x K.b dX8_read_69 (by decide) (fun c30 => ?_) (fun c30 => ?_)
      · replace h := z_t c30 h
        refine lv_iconst (v := (0)) K.x K.b dX8_read_76 (by decide) ?_
        obtain rfl := Option.some.inj h
        exact Kj23 _ _ _ hH (lv_sub hl [0, 1] rfl)
      · replace h := z_f c30 h
        refine lv_iconst (v := (1)) K.x K.b dX8_read_72 (by decide) ?_
        refine lv_goto (tgt := 77) K.x K.b dX8_read_73 (by decide) ?_
        obtain rfl := Option.some.inj h
        exact Kj23 _ _ _ hH (lv_sub hl [0, 1] rfl)
  replace h := hj7
  refine lv_if_ne (tgt := 46) K.x K.b dX8_read_39 (by decide) (fun c31 => ?_) (fun c31 => ?_)
  · replace h := z_f c31 h
    obtain rfl := Option.some.inj h
    exact Kj7 _ _ _ hH (lv_sub hl [0] rfl)
  · replace h := z_t c31 h
    refine lv_aload_n K.x K.b dX8_read_42 rfl (lv_at hl 0 rfl) ?_
    obtain ⟨r32, hr33, h⟩ := z_bd_e h
    refine z_Vv K hH hl.1 (c_X8_wrong l D y o (.ref o_w) (g_kept) (.ref o_text) (.int v_size) (g_above) (g_below) (g_bads) (g_noes) (g_fulls) (.int r3.1) (.int r3.2.2.1) (.int r3.2.2.2) (g_yet) (g_fars) (g_tells) r3.2.1 (-1 : Int32) r32 hr33) (z_cwV K 0 tw_4_223 tw_4_225 tw_0_48 tw_1_8 tw_4_226 hd_X8_wrong ⟨by decide, by decide⟩) [1] [0, 2] rfl (wr := [(o_w, .inl (y 0, 1960, .inl r1)), (o_text, .inl (y 0, 150, .inl f_text))]) rfl rfl rfl (by decide) rfl rfl rfl (As := []) (rest := []) rfl (Nat.le_of_ble_eq_true rfl) ⟨Nat.zero_le _, Nat.zero_le _⟩ dX8_read_43 (ws' := [(o_w, .inl (y 0, 1960, .inl r1)), (o_text, .inl (y 0, 150, .inl f_text)), (o, .inr (7, [.ref o_w, g_kept, .ref o_text, .int v_size, g_above, g_below, g_bads, g_noes, g_fulls, .int r3.1, .int r3.2.1, .int r3.2.2.1, .int r3.2.2.2, .int r32, g_yet, g_fars, g_tells]))]) rfl (fun H locs hH => ?_)
    obtain rfl := Option.some.inj h
    exact Kj7 _ _ _ (hH.sub [0, 2, 1] (by decide) rfl) (lv_sub hl [0] rfl)
noncomputable def p_X8_flies (v_bads : Int32) (v_noes : Int32) (f_w : (Nat → Int32)) (p1 : Int32) (p2 : Int32) : Option (Int32 × Int32 × Int32 × (Nat → Int32)) :=
  z_bd (p_X8_isCrow f_w p1) fun r1 =>
  if (r1 = 0) then
  (z_bd (p_X8_bad v_bads) fun r4 =>
  some (r4.1, r4.2, v_noes, f_w)) else
  (z_bd (p_X8_isPlace f_w p2) fun r6 =>
  if (r6 = 0) then
  (z_bd (p_X8_bad v_bads) fun r20 =>
  some (r20.1, r20.2, v_noes, f_w)) else
  (z_gd (z_in p1 1960) <|
  if ((f_w p1.toNatClampNeg) = p2) then
  (z_bd (p_X8_no v_noes) fun r11 =>
  some (r11.1, v_bads, r11.2, f_w)) else
  (if ((f_w 6) = (9999 : Int32)) then
  (z_bd (p_X8_no v_noes) fun r18 =>
  some (r18.1, v_bads, r18.2, f_w)) else
  (z_bd (p_X8_remember f_w) fun r14 =>
  z_bd (p_X8_flyIn r14 (0 : Int32) (0 : Int32) p1 p2) fun r16 =>
  some (r16.1, v_bads, v_noes, r16.2)))))
theorem hd_X8_flies : yX8_flies.cls = RX8 ∧ yX8_flies.cls ≠ "java/lang/invoke/MethodHandle" ∧ yX8_flies.cls ≠ "java/lang/invoke/VarHandle" ∧ (parseMethodDescriptor yX8_flies.desc).map (fun d => d.parameters.length) = some 2 := by decide +kernel
set_option maxHeartbeats 4000000 in
set_option maxRecDepth 100000 in
theorem c_X8_flies (l : Launch) (D : va_G) (y : Nat → ClassId) (o o_w : Nat) (g_kept g_text g_size g_above g_below g_fulls g_at g_from g_token g_value g_readFault g_yet g_fars g_tells : Value) (v_bads : Int32) (v_noes : Int32) (f_w : (Nat → Int32)) (p1 : Int32) (p2 : Int32) (r : Int32 × Int32 × Int32 × (Nat → Int32)) (h : p_X8_flies v_bads v_noes f_w p1 p2 = some r) : z_MI l yX8_flies cX8_flies 3 (some .int) 5 124 D y [.ref o, .int p1, .int p2] [(o, .inr (7, [.ref o_w, g_kept, g_text, g_size, g_above, g_below, .int v_bads, .int v_noes, g_fulls, g_at, g_from, g_token, g_value, g_readFault, g_yet, g_fars, g_tells])), (o_w, .inl (y 0, 1960, .inl f_w))] r.1 [(o, .inr (7, [.ref o_w, g_kept, g_text, g_size, g_above, g_below, .int r.2.1, .int r.2.2.1, g_fulls, g_at, g_from, g_token, g_value, g_readFault, g_yet, g_fars, g_tells])), (o_w, .inl (y 0, 1960, .inl r.2.2.2))] := by
  unfold p_X8_flies at h
  refine z_enI (by decide) (Nat.le_of_ble_eq_true rfl) ?_
  intro p e s m args below meth c A ls hr K hH hl
  obtain ⟨Q, hQ⟩ : ∃ Q, Q = MQ below (z_Qi D y A r.1 [(o, .inr (7, [.ref o_w, g_kept, g_text, g_size, g_above, g_below, .int r.2.1, .int r.2.2.1, g_fulls, g_at, g_from, g_token, g_value, g_readFault, g_yet, g_fars, g_tells])), (o_w, .inl (y 0, 1960, .inl r.2.2.2))]) args s 0 0 A := ⟨_, rfl⟩
  rw [← hQ]
  have hl : lv_has ls 3 [(0, .ref o), (1, .int p1), (2, .int p2)] := hl
  refine lv_aload_n K.x K.b dX8_flies_0 rfl (lv_at hl 0 rfl) ?_
  refine lv_iload_n K.x K.b dX8_flies_1 rfl (lv_at hl 1 rfl) ?_
  obtain ⟨r1, hr2, h⟩ := z_bd_e h
  refine z_Vi K hH hl.1 (c_X8_isCrow l D y o o_w (g_kept) (g_text) (g_size) (g_above) (g_below) (.int v_bads) (.int v_noes) (g_fulls) (g_at) (g_from) (g_token) (g_value) (g_readFault) (g_yet) (g_fars) (g_tells) f_w p1 r1 hr2) (z_cwV K 1 tw_5_64 tw_5_66 tw_0_65 tw_1_8 tw_5_67 hd_X8_isCrow ⟨by decide, by decide⟩) [0, 1] [] rfl (wr := []) rfl rfl rfl (by decide) rfl rfl rfl (As := [.int p1]) (rest := []) rfl (Nat.le_of_ble_eq_true rfl) ⟨Nat.zero_le _, Nat.zero_le _⟩ dX8_flies_2 (ws' := [(o, .inr (7, [.ref o_w, g_kept, g_text, g_size, g_above, g_below, .int v_bads, .int v_noes, g_fulls, g_at, g_from, g_token, g_value, g_readFault, g_yet, g_fars, g_tells])), (o_w, .inl (y 0, 1960, .inl f_w))]) rfl (fun H locs hH => ?_)
  refine lv_if_eq (tgt := 16) K.x K.b dX8_flies_5 (by decide) (fun c3 => ?_) (fun c3 => ?_)
  · replace h := z_t c3 h
    refine lv_aload_n K.x K.b dX8_flies_16 rfl (lv_at hl 0 rfl) ?_
    obtain ⟨r4, hr5, h⟩ := z_bd_e h
    refine z_Vi K hH hl.1 (c_X8_bad l D y o (.ref o_w) (g_kept) (g_text) (g_size) (g_above) (g_below) (.int v_noes) (g_fulls) (g_at) (g_from) (g_token) (g_value) (g_readFault) (g_yet) (g_fars) (g_tells) v_bads r4 hr5) (z_cwV K 0 tw_4_163 tw_4_165 tw_0_37 tw_1_8 tw_4_166 hd_X8_bad ⟨by decide, by decide⟩) [0] [1] rfl (wr := [(o_w, .inl (y 0, 1960, .inl f_w))]) rfl rfl rfl (by decide) rfl rfl rfl (As := []) (rest := []) rfl (Nat.le_of_ble_eq_true rfl) ⟨Nat.zero_le _, Nat.zero_le _⟩ dX8_flies_17 (ws' := [(o_w, .inl (y 0, 1960, .inl f_w)), (o, .inr (7, [.ref o_w, g_kept, g_text, g_size, g_above, g_below, .int r4.2, .int v_noes, g_fulls, g_at, g_from, g_token, g_value, g_readFault, g_yet, g_fars, g_tells]))]) rfl (fun H locs hH => ?_)
    have hr9 := Option.some.inj h
    obtain rfl := hr9
    rw [hQ]
    exact z_reti K hr hH [1, 0] (by decide) rfl rfl rfl dX8_flies_20
  · replace h := z_f c3 h
    refine lv_aload_n K.x K.b dX8_flies_8 rfl (lv_at hl 0 rfl) ?_
    refine lv_iload_n K.x K.b dX8_flies_9 rfl (lv_at hl 2 rfl) ?_
    obtain ⟨r6, hr7, h⟩ := z_bd_e h
    refine z_Vi K hH hl.1 (c_X8_isPlace l D y o o_w (g_kept) (g_text) (g_size) (g_above) (g_below) (.int v_bads) (.int v_noes) (g_fulls) (g_at) (g_from) (g_token) (g_value) (g_readFault) (g_yet) (g_fars) (g_tells) f_w p2 r6 hr7) (z_cwV K 1 tw_4_179 tw_4_181 tw_0_40 tw_1_8 tw_4_182 hd_X8_isPlace ⟨by decide, by decide⟩) [0, 1] [] rfl (wr := []) rfl rfl rfl (by decide) rfl rfl rfl (As := [.int p2]) (rest := []) rfl (Nat.le_of_ble_eq_true rfl) ⟨Nat.zero_le _, Nat.zero_le _⟩ dX8_flies_10 (ws' := [(o, .inr (7, [.ref o_w, g_kept, g_text, g_size, g_above, g_below, .int v_bads, .int v_noes, g_fulls, g_at, g_from, g_token, g_value, g_readFault, g_yet, g_fars, g_tells])), (o_w, .inl (y 0, 1960, .inl f_w))]) rfl (fun H locs hH => ?_)
    refine lv_if_ne (tgt := 21) K.x K.b dX8_flies_13 (by decide) (fun c8 => ?_) (fun c8 => ?_)
    · replace h := z_f c8 h
      refine lv_aload_n K.x K.b dX8_flies_21 rfl (lv_at hl 0 rfl) ?_
      refine z_get K hH 0 rfl zin_8 rfl 0 (by decide) tw_4_96 (v := .ref o_w) rfl dX8_flies_22 ?_
      refine lv_iload_n K.x K.b dX8_flies_25 rfl (lv_at hl 1 rfl) ?_
      obtain ⟨g9, h⟩ := z_gd_e h
      refine z_iald K hH 1 (k := p1.toNatClampNeg) rfl g9 rfl dX8_flies_26 ?_
      refine lv_iload_n K.x K.b dX8_flies_27 rfl (lv_at hl 2 rfl) ?_
      refine lv_icmp_eq (tgt := 44) K.x K.b dX8_flies_28 (by decide) (fun c10 => ?_) (fun c10 => ?_)
      · replace h := z_t c10 h
        refine lv_aload_n K.x K.b dX8_flies_44 rfl (lv_at hl 0 rfl) ?_
        obtain ⟨r11, hr12, h⟩ := z_bd_e h
        refine z_Vi K hH hl.1 (c_X8_no l D y o (.ref o_w) (g_kept) (g_text) (g_size) (g_above) (g_below) (.int v_bads) (g_fulls) (g_at) (g_from) (g_token) (g_value) (g_readFault) (g_yet) (g_fars) (g_tells) v_noes r11 hr12) (z_cwV K 0 tw_5_68 tw_5_70 tw_0_66 tw_1_8 tw_5_71 hd_X8_no ⟨by decide, by decide⟩) [0] [1] rfl (wr := [(o_w, .inl (y 0, 1960, .inl f_w))]) rfl rfl rfl (by decide) rfl rfl rfl (As := []) (rest := []) rfl (Nat.le_of_ble_eq_true rfl) ⟨Nat.zero_le _, Nat.zero_le _⟩ dX8_flies_45 (ws' := [(o_w, .inl (y 0, 1960, .inl f_w)), (o, .inr (7, [.ref o_w, g_kept, g_text, g_size, g_above, g_below, .int v_bads, .int r11.2, g_fulls, g_at, g_from, g_token, g_value, g_readFault, g_yet, g_fars, g_tells]))]) rfl (fun H locs hH => ?_)
        have hr9 := Option.some.inj h
        obtain rfl := hr9
        rw [hQ]
        exact z_reti K hr hH [1, 0] (by decide) rfl rfl rfl dX8_flies_48
      · replace h := z_f c10 h
        refine lv_aload_n K.x K.b dX8_flies_31 rfl (lv_at hl 0 rfl) ?_
        refine z_get K hH 0 rfl zin_8 rfl 0 (by decide) tw_4_96 (v := .ref o_w) rfl dX8_flies_32 ?_
        refine lv_bipush (v := (6)) K.x K.b dX8_flies_35 (by decide) ?_
        refine z_iald K hH 1 (k := 6) rfl (by decide) rfl dX8_flies_37 ?_
        refine lv_sipush (v := (9999)) K.x K.b dX8_flies_38 (by decide) ?_
        refine lv_icmp_ne (tgt := 49) K.x K.b dX8_flies_41 (by decide) (fun c13 => ?_) (fun c13 => ?_)
        · replace h := z_f c13 h
          refine lv_aload_n K.x K.b dX8_flies_49 rfl (lv_at hl 0 rfl) ?_
          obtain ⟨r14, hr15, h⟩ := z_bd_e h
          refine z_Vv K hH hl.1 (c_X8_remember l D y o o_w (g_kept) (g_text) (g_size) (g_above) (g_below) (.int v_bads) (.int v_noes) (g_fulls) (g_at) (g_from) (g_token) (g_value) (g_readFault) (g_yet) (g_fars) (g_tells) f_w r14 hr15) (z_cwV K 0 tw_5_72 tw_5_74 tw_0_67 tw_1_8 tw_5_75 hd_X8_remember ⟨by decide, by decide⟩) [0, 1] [] rfl (wr := []) rfl rfl rfl (by decide) rfl rfl rfl (As := []) (rest := []) rfl (Nat.le_of_ble_eq_true rfl) ⟨Nat.zero_le _, Nat.zero_le _⟩ dX8_flies_50 (ws' := [(o, .inr (7, [.ref o_w, g_kept, g_text, g_size, g_above, g_below, .int v_bads, .int v_noes, g_fulls, g_at, g_from, g_token, g_value, g_readFault, g_yet, g_fars, g_tells])), (o_w, .inl (y 0, 1960, .inl r14))]) rfl (fun H locs hH => ?_)
          refine lv_aload_n K.x K.b dX8_flies_53 rfl (lv_at hl 0 rfl) ?_
          refine lv_iconst (v := (0)) K.x K.b dX8_flies_54 (by decide) ?_
          refine lv_iconst (v := (0)) K.x K.b dX8_flies_55 (by decide) ?_
          refine lv_iload_n K.x K.b dX8_flies_56 rfl (lv_at hl 1 rfl) ?_
          refine lv_iload_n K.x K.b dX8_flies_57 rfl (lv_at hl 2 rfl) ?_
          obtain ⟨r16, hr17, h⟩ := z_bd_e h
          refine z_Vi K hH hl.1 (c_X8_flyIn l D y o o_w (g_kept) (g_text) (g_size) (g_above) (g_below) (.int v_bads) (.int v_noes) (g_fulls) (g_at) (g_from) (g_token) (g_value) (g_readFault) (g_yet) (g_fars) (g_tells) r14 (0 : Int32) (0 : Int32) p1 p2 r16 hr17) (z_cwV K 4 tw_5_15 tw_5_17 tw_0_56 tw_1_8 tw_5_18 hd_X8_flyIn ⟨by decide, by decide⟩) [0, 1] [] rfl (wr := []) rfl rfl rfl (by decide) rfl rfl rfl (As := [.int (0 : Int32), .int (0 : Int32), .int p1, .int p2]) (rest := []) rfl (Nat.le_of_ble_eq_true rfl) ⟨Nat.zero_le _, Nat.zero_le _⟩ dX8_flies_58 (ws' := [(o, .inr (7, [.ref o_w, g_kept, g_text, g_size, g_above, g_below, .int v_bads, .int v_noes, g_fulls, g_at, g_from, g_token, g_value, g_readFault, g_yet, g_fars, g_tells])), (o_w, .inl (y 0, 1960, .inl r16.2))]) rfl (fun H locs hH => ?_)
          have hr9 := Option.some.inj h
          obtain rfl := hr9
          rw [hQ]
          exact z_reti K hr hH [0, 1] (by decide) rfl rfl rfl dX8_flies_61
        · replace h := z_t c13 h
          refine lv_aload_n K.x K.b dX8_flies_44 rfl (lv_at hl 0 rfl) ?_
          obtain ⟨r18, hr19, h⟩ := z_bd_e h
          refine z_Vi K hH hl.1 (c_X8_no l D y o (.ref o_w) (g_kept) (g_text) (g_size) (g_above) (g_below) (.int v_bads) (g_fulls) (g_at) (g_from) (g_token) (g_value) (g_readFault) (g_yet) (g_fars) (g_tells) v_noes r18 hr19) (z_cwV K 0 tw_5_68 tw_5_70 tw_0_66 tw_1_8 tw_5_71 hd_X8_no ⟨by decide, by decide⟩) [0] [1] rfl (wr := [(o_w, .inl (y 0, 1960, .inl f_w))]) rfl rfl rfl (by decide) rfl rfl rfl (As := []) (rest := []) rfl (Nat.le_of_ble_eq_true rfl) ⟨Nat.zero_le _, Nat.zero_le _⟩ dX8_flies_45 (ws' := [(o_w, .inl (y 0, 1960, .inl f_w)), (o, .inr (7, [.ref o_w, g_kept, g_text, g_size, g_above, g_below, .int v_bads, .int r18.2, g_fulls, g_at, g_from, g_token, g_value, g_readFault, g_yet, g_fars, g_tells]))]) rfl (fun H locs hH => ?_)
          have hr9 := Option.some.inj h
          obtain rfl := hr9
          rw [hQ]
          exact z_reti K hr hH [1, 0] (by decide) rfl rfl rfl dX8_flies_48
    · replace h := z_t c8 h
      refine lv_aload_n K.x K.b dX8_flies_16 rfl (lv_at hl 0 rfl) ?_
      obtain ⟨r20, hr21, h⟩ := z_bd_e h
      refine z_Vi K hH hl.1 (c_X8_bad l D y o (.ref o_w) (g_kept) (g_text) (g_size) (g_above) (g_below) (.int v_noes) (g_fulls) (g_at) (g_from) (g_token) (g_value) (g_readFault) (g_yet) (g_fars) (g_tells) v_bads r20 hr21) (z_cwV K 0 tw_4_163 tw_4_165 tw_0_37 tw_1_8 tw_4_166 hd_X8_bad ⟨by decide, by decide⟩) [0] [1] rfl (wr := [(o_w, .inl (y 0, 1960, .inl f_w))]) rfl rfl rfl (by decide) rfl rfl rfl (As := []) (rest := []) rfl (Nat.le_of_ble_eq_true rfl) ⟨Nat.zero_le _, Nat.zero_le _⟩ dX8_flies_17 (ws' := [(o_w, .inl (y 0, 1960, .inl f_w)), (o, .inr (7, [.ref o_w, g_kept, g_text, g_size, g_above, g_below, .int r20.2, .int v_noes, g_fulls, g_at, g_from, g_token, g_value, g_readFault, g_yet, g_fars, g_tells]))]) rfl (fun H locs hH => ?_)
      have hr9 := Option.some.inj h
      obtain rfl := hr9
      rw [hQ]
      exact z_reti K hr hH [1, 0] (by decide) rfl rfl rfl dX8_flies_20
noncomputable def p_X8_rests (v_bads : Int32) (f_w : (Nat → Int32)) (p1 : Int32) : Option (Int32 × Int32 × (Nat → Int32)) :=
  z_bd (p_X8_isCrow f_w p1) fun r1 =>
  if (r1 = 0) then
  (z_bd (p_X8_bad v_bads) fun r8 =>
  some (r8.1, r8.2, f_w)) else
  (z_bd (p_X8_remember f_w) fun r4 =>
  z_bd (p_X8_restIn r4 (0 : Int32) p1) fun r6 =>
  some (r6.1, v_bads, r6.2))
theorem hd_X8_rests : yX8_rests.cls = RX8 ∧ yX8_rests.cls ≠ "java/lang/invoke/MethodHandle" ∧ yX8_rests.cls ≠ "java/lang/invoke/VarHandle" ∧ (parseMethodDescriptor yX8_rests.desc).map (fun d => d.parameters.length) = some 1 := by decide +kernel
set_option maxHeartbeats 4000000 in
set_option maxRecDepth 100000 in
theorem c_X8_rests (l : Launch) (D : va_G) (y : Nat → ClassId) (o o_w : Nat) (g_kept g_text g_size g_above g_below g_noes g_fulls g_at g_from g_token g_value g_readFault g_yet g_fars g_tells : Value) (v_bads : Int32) (f_w : (Nat → Int32)) (p1 : Int32) (r : Int32 × Int32 × (Nat → Int32)) (h : p_X8_rests v_bads f_w p1 = some r) : z_MI l yX8_rests cX8_rests 2 (some .int) 2 46 D y [.ref o, .int p1] [(o, .inr (7, [.ref o_w, g_kept, g_text, g_size, g_above, g_below, .int v_bads, g_noes, g_fulls, g_at, g_from, g_token, g_value, g_readFault, g_yet, g_fars, g_tells])), (o_w, .inl (y 0, 1960, .inl f_w))] r.1 [(o, .inr (7, [.ref o_w, g_kept, g_text, g_size, g_above, g_below, .int r.2.1, g_noes, g_fulls, g_at, g_from, g_token, g_value, g_readFault, g_yet, g_fars, g_tells])), (o_w, .inl (y 0, 1960, .inl r.2.2))] := by
  unfold p_X8_rests at h
  refine z_enI (by decide) (Nat.le_of_ble_eq_true rfl) ?_
  intro p e s m args below meth c A ls hr K hH hl
  obtain ⟨Q, hQ⟩ : ∃ Q, Q = MQ below (z_Qi D y A r.1 [(o, .inr (7, [.ref o_w, g_kept, g_text, g_size, g_above, g_below, .int r.2.1, g_noes, g_fulls, g_at, g_from, g_token, g_value, g_readFault, g_yet, g_fars, g_tells])), (o_w, .inl (y 0, 1960, .inl r.2.2))]) args s 0 0 A := ⟨_, rfl⟩
  rw [← hQ]
  have hl : lv_has ls 2 [(0, .ref o), (1, .int p1)] := hl
  refine lv_aload_n K.x K.b dX8_rests_0 rfl (lv_at hl 0 rfl) ?_
  refine lv_iload_n K.x K.b dX8_rests_1 rfl (lv_at hl 1 rfl) ?_
  obtain ⟨r1, hr2, h⟩ := z_bd_e h
  refine z_Vi K hH hl.1 (c_X8_isCrow l D y o o_w (g_kept) (g_text) (g_size) (g_above) (g_below) (.int v_bads) (g_noes) (g_fulls) (g_at) (g_from) (g_token) (g_value) (g_readFault) (g_yet) (g_fars) (g_tells) f_w p1 r1 hr2) (z_cwV K 1 tw_5_64 tw_5_66 tw_0_65 tw_1_8 tw_5_67 hd_X8_isCrow ⟨by decide, by decide⟩) [0, 1] [] rfl (wr := []) rfl rfl rfl (by decide) rfl rfl rfl (As := [.int p1]) (rest := []) rfl (Nat.le_of_ble_eq_true rfl) ⟨Nat.zero_le _, Nat.zero_le _⟩ dX8_rests_2 (ws' := [(o, .inr (7, [.ref o_w, g_kept, g_text, g_size, g_above, g_below, .int v_bads, g_noes, g_fulls, g_at, g_from, g_token, g_value, g_readFault, g_yet, g_fars, g_tells])), (o_w, .inl (y 0, 1960, .inl f_w))]) rfl (fun H locs hH => ?_)
  refine lv_if_ne (tgt := 13) K.x K.b dX8_rests_5 (by decide) (fun c3 => ?_) (fun c3 => ?_)
  · replace h := z_f c3 h
    refine lv_aload_n K.x K.b dX8_rests_13 rfl (lv_at hl 0 rfl) ?_
    obtain ⟨r4, hr5, h⟩ := z_bd_e h
    refine z_Vv K hH hl.1 (c_X8_remember l D y o o_w (g_kept) (g_text) (g_size) (g_above) (g_below) (.int v_bads) (g_noes) (g_fulls) (g_at) (g_from) (g_token) (g_value) (g_readFault) (g_yet) (g_fars) (g_tells) f_w r4 hr5) (z_cwV K 0 tw_5_72 tw_5_74 tw_0_67 tw_1_8 tw_5_75 hd_X8_remember ⟨by decide, by decide⟩) [0, 1] [] rfl (wr := []) rfl rfl rfl (by decide) rfl rfl rfl (As := []) (rest := []) rfl (Nat.le_of_ble_eq_true rfl) ⟨Nat.zero_le _, Nat.zero_le _⟩ dX8_rests_14 (ws' := [(o, .inr (7, [.ref o_w, g_kept, g_text, g_size, g_above, g_below, .int v_bads, g_noes, g_fulls, g_at, g_from, g_token, g_value, g_readFault, g_yet, g_fars, g_tells])), (o_w, .inl (y 0, 1960, .inl r4))]) rfl (fun H locs hH => ?_)
    refine lv_aload_n K.x K.b dX8_rests_17 rfl (lv_at hl 0 rfl) ?_
    refine lv_iconst (v := (0)) K.x K.b dX8_rests_18 (by decide) ?_
    refine lv_iload_n K.x K.b dX8_rests_19 rfl (lv_at hl 1 rfl) ?_
    obtain ⟨r6, hr7, h⟩ := z_bd_e h
    refine z_Vi K hH hl.1 (c_X8_restIn l D y o o_w (g_kept) (g_text) (g_size) (g_above) (g_below) (.int v_bads) (g_noes) (g_fulls) (g_at) (g_from) (g_token) (g_value) (g_readFault) (g_yet) (g_fars) (g_tells) r4 (0 : Int32) p1 r6 hr7) (z_cwV K 2 tw_5_48 tw_5_50 tw_0_62 tw_1_8 tw_5_51 hd_X8_restIn ⟨by decide, by decide⟩) [0, 1] [] rfl (wr := []) rfl rfl rfl (by decide) rfl rfl rfl (As := [.int (0 : Int32), .int p1]) (rest := []) rfl (Nat.le_of_ble_eq_true rfl) ⟨Nat.zero_le _, Nat.zero_le _⟩ dX8_rests_20 (ws' := [(o, .inr (7, [.ref o_w, g_kept, g_text, g_size, g_above, g_below, .int v_bads, g_noes, g_fulls, g_at, g_from, g_token, g_value, g_readFault, g_yet, g_fars, g_tells])), (o_w, .inl (y 0, 1960, .inl r6.2))]) rfl (fun H locs hH => ?_)
    have hr9 := Option.some.inj h
    obtain rfl := hr9
    rw [hQ]
    exact z_reti K hr hH [0, 1] (by decide) rfl rfl rfl dX8_rests_23
  · replace h := z_t c3 h
    refine lv_aload_n K.x K.b dX8_rests_8 rfl (lv_at hl 0 rfl) ?_
    obtain ⟨r8, hr9, h⟩ := z_bd_e h
    refine z_Vi K hH hl.1 (c_X8_bad l D y o (.ref o_w) (g_kept) (g_text) (g_size) (g_above) (g_below) (g_noes) (g_fulls) (g_at) (g_from) (g_token) (g_value) (g_readFault) (g_yet) (g_fars) (g_tells) v_bads r8 hr9) (z_cwV K 0 tw_4_163 tw_4_165 tw_0_37 tw_1_8 tw_4_166 hd_X8_bad ⟨by decide, by decide⟩) [0] [1] rfl (wr := [(o_w, .inl (y 0, 1960, .inl f_w))]) rfl rfl rfl (by decide) rfl rfl rfl (As := []) (rest := []) rfl (Nat.le_of_ble_eq_true rfl) ⟨Nat.zero_le _, Nat.zero_le _⟩ dX8_rests_9 (ws' := [(o_w, .inl (y 0, 1960, .inl f_w)), (o, .inr (7, [.ref o_w, g_kept, g_text, g_size, g_above, g_below, .int r8.2, g_noes, g_fulls, g_at, g_from, g_token, g_value, g_readFault, g_yet, g_fars, g_tells]))]) rfl (fun H locs hH => ?_)
    have hr9 := Option.some.inj h
    obtain rfl := hr9
    rw [hQ]
    exact z_reti K hr hH [1, 0] (by decide) rfl rfl rfl dX8_rests_12
noncomputable def p_X8_hours (v_bads : Int32) (f_w : (Nat → Int32)) (p1 : Int32) : Option (Int32 × Int32 × (Nat → Int32)) :=
  z_bd (p_X8_in p1 (1 : Int32) (99 : Int32)) fun r1 =>
  if (r1 = 0) then
  (z_bd (p_X8_bad v_bads) fun r8 =>
  some (r8.1, r8.2, f_w)) else
  (z_bd (p_X8_remember f_w) fun r4 =>
  z_bd (p_X8_goOn r4 (0 : Int32) p1) fun r6 =>
  some ((r6 6), v_bads, r6))
theorem hd_X8_hours : yX8_hours.cls = RX8 ∧ yX8_hours.cls ≠ "java/lang/invoke/MethodHandle" ∧ yX8_hours.cls ≠ "java/lang/invoke/VarHandle" ∧ (parseMethodDescriptor yX8_hours.desc).map (fun d => d.parameters.length) = some 1 := by decide +kernel
set_option maxHeartbeats 4000000 in
set_option maxRecDepth 100000 in
theorem c_X8_hours (l : Launch) (D : va_G) (y : Nat → ClassId) (o o_w : Nat) (g_kept g_text g_size g_above g_below g_noes g_fulls g_at g_from g_token g_value g_readFault g_yet g_fars g_tells : Value) (v_bads : Int32) (f_w : (Nat → Int32)) (p1 : Int32) (r : Int32 × Int32 × (Nat → Int32)) (h : p_X8_hours v_bads f_w p1 = some r) : z_MI l yX8_hours cX8_hours 2 (some .int) 2 45 D y [.ref o, .int p1] [(o, .inr (7, [.ref o_w, g_kept, g_text, g_size, g_above, g_below, .int v_bads, g_noes, g_fulls, g_at, g_from, g_token, g_value, g_readFault, g_yet, g_fars, g_tells])), (o_w, .inl (y 0, 1960, .inl f_w))] r.1 [(o, .inr (7, [.ref o_w, g_kept, g_text, g_size, g_above, g_below, .int r.2.1, g_noes, g_fulls, g_at, g_from, g_token, g_value, g_readFault, g_yet, g_fars, g_tells])), (o_w, .inl (y 0, 1960, .inl r.2.2))] := by
  unfold p_X8_hours at h
  refine z_enI (by decide) (Nat.le_of_ble_eq_true rfl) ?_
  intro p e s m args below meth c A ls hr K hH hl
  obtain ⟨Q, hQ⟩ : ∃ Q, Q = MQ below (z_Qi D y A r.1 [(o, .inr (7, [.ref o_w, g_kept, g_text, g_size, g_above, g_below, .int r.2.1, g_noes, g_fulls, g_at, g_from, g_token, g_value, g_readFault, g_yet, g_fars, g_tells])), (o_w, .inl (y 0, 1960, .inl r.2.2))]) args s 0 0 A := ⟨_, rfl⟩
  rw [← hQ]
  have hl : lv_has ls 2 [(0, .ref o), (1, .int p1)] := hl
  refine lv_iload_n K.x K.b dX8_hours_0 rfl (lv_at hl 1 rfl) ?_
  refine lv_iconst (v := (1)) K.x K.b dX8_hours_1 (by decide) ?_
  refine lv_bipush (v := (99)) K.x K.b dX8_hours_2 (by decide) ?_
  obtain ⟨r1, hr2, h⟩ := z_bd_e h
  refine z_Si K hH hl.1 (c_X8_in l D y p1 (1 : Int32) (99 : Int32) r1 hr2) (z_cwS K 3 tw_4_160 tw_4_161 tw_1_8 tw_4_162 hd_X8_in ⟨by decide, by decide⟩) rfl (As := [.int p1, .int (1 : Int32), .int (99 : Int32)]) (rest := []) rfl (Nat.le_of_ble_eq_true rfl) ⟨Nat.zero_le _, Nat.zero_le _⟩ dX8_hours_4 (fun H locs hH => ?_)
  refine lv_if_ne (tgt := 15) K.x K.b dX8_hours_7 (by decide) (fun c3 => ?_) (fun c3 => ?_)
  · replace h := z_f c3 h
    refine lv_aload_n K.x K.b dX8_hours_15 rfl (lv_at hl 0 rfl) ?_
    obtain ⟨r4, hr5, h⟩ := z_bd_e h
    refine z_Vv K hH hl.1 (c_X8_remember l D y o o_w (g_kept) (g_text) (g_size) (g_above) (g_below) (.int v_bads) (g_noes) (g_fulls) (g_at) (g_from) (g_token) (g_value) (g_readFault) (g_yet) (g_fars) (g_tells) f_w r4 hr5) (z_cwV K 0 tw_5_72 tw_5_74 tw_0_67 tw_1_8 tw_5_75 hd_X8_remember ⟨by decide, by decide⟩) [0, 1] [] rfl (wr := []) rfl rfl rfl (by decide) rfl rfl rfl (As := []) (rest := []) rfl (Nat.le_of_ble_eq_true rfl) ⟨Nat.zero_le _, Nat.zero_le _⟩ dX8_hours_16 (ws' := [(o, .inr (7, [.ref o_w, g_kept, g_text, g_size, g_above, g_below, .int v_bads, g_noes, g_fulls, g_at, g_from, g_token, g_value, g_readFault, g_yet, g_fars, g_tells])), (o_w, .inl (y 0, 1960, .inl r4))]) rfl (fun H locs hH => ?_)
    refine lv_aload_n K.x K.b dX8_hours_19 rfl (lv_at hl 0 rfl) ?_
    refine lv_iconst (v := (0)) K.x K.b dX8_hours_20 (by decide) ?_
    refine lv_iload_n K.x K.b dX8_hours_21 rfl (lv_at hl 1 rfl) ?_
    obtain ⟨r6, hr7, h⟩ := z_bd_e h
    refine z_Vv K hH hl.1 (c_X8_goOn l D y o o_w (g_kept) (g_text) (g_size) (g_above) (g_below) (.int v_bads) (g_noes) (g_fulls) (g_at) (g_from) (g_token) (g_value) (g_readFault) (g_yet) (g_fars) (g_tells) r4 (0 : Int32) p1 r6 hr7) (z_cwV K 2 tw_5_40 tw_5_42 tw_0_60 tw_1_8 tw_5_43 hd_X8_goOn ⟨by decide, by decide⟩) [0, 1] [] rfl (wr := []) rfl rfl rfl (by decide) rfl rfl rfl (As := [.int (0 : Int32), .int p1]) (rest := []) rfl (Nat.le_of_ble_eq_true rfl) ⟨Nat.zero_le _, Nat.zero_le _⟩ dX8_hours_22 (ws' := [(o, .inr (7, [.ref o_w, g_kept, g_text, g_size, g_above, g_below, .int v_bads, g_noes, g_fulls, g_at, g_from, g_token, g_value, g_readFault, g_yet, g_fars, g_tells])), (o_w, .inl (y 0, 1960, .inl r6))]) rfl (fun H locs hH => ?_)
    refine lv_aload_n K.x K.b dX8_hours_25 rfl (lv_at hl 0 rfl) ?_
    refine z_get K hH 0 rfl zin_8 rfl 0 (by decide) tw_4_96 (v := .ref o_w) rfl dX8_hours_26 ?_
    refine lv_bipush (v := (6)) K.x K.b dX8_hours_29 (by decide) ?_
    refine z_iald K hH 1 (k := 6) rfl (by decide) rfl dX8_hours_31 ?_
    have hr9 := Option.some.inj h
    obtain rfl := hr9
    rw [hQ]
    exact z_reti K hr hH [0, 1] (by decide) rfl rfl rfl dX8_hours_32
  · replace h := z_t c3 h
    refine lv_aload_n K.x K.b dX8_hours_10 rfl (lv_at hl 0 rfl) ?_
    obtain ⟨r8, hr9, h⟩ := z_bd_e h
    refine z_Vi K hH hl.1 (c_X8_bad l D y o (.ref o_w) (g_kept) (g_text) (g_size) (g_above) (g_below) (g_noes) (g_fulls) (g_at) (g_from) (g_token) (g_value) (g_readFault) (g_yet) (g_fars) (g_tells) v_bads r8 hr9) (z_cwV K 0 tw_4_163 tw_4_165 tw_0_37 tw_1_8 tw_4_166 hd_X8_bad ⟨by decide, by decide⟩) [0] [1] rfl (wr := [(o_w, .inl (y 0, 1960, .inl f_w))]) rfl rfl rfl (by decide) rfl rfl rfl (As := []) (rest := []) rfl (Nat.le_of_ble_eq_true rfl) ⟨Nat.zero_le _, Nat.zero_le _⟩ dX8_hours_11 (ws' := [(o_w, .inl (y 0, 1960, .inl f_w)), (o, .inr (7, [.ref o_w, g_kept, g_text, g_size, g_above, g_below, .int r8.2, g_noes, g_fulls, g_at, g_from, g_token, g_value, g_readFault, g_yet, g_fars, g_tells]))]) rfl (fun H locs hH => ?_)
    have hr9 := Option.some.inj h
    obtain rfl := hr9
    rw [hQ]
    exact z_reti K hr hH [1, 0] (by decide) rfl rfl rfl dX8_hours_14
noncomputable def p_X8_undo (v_noes : Int32) (f_w : (Nat → Int32)) : Option (Int32 × Int32 × (Nat → Int32)) :=
  if ((f_w 396) = 0) then
  (z_bd (p_X8_no v_noes) fun r7 =>
  some (r7.1, r7.2, f_w)) else
  (z_lt (((f_w 396) - (1 : Int32))) fun x2 =>
  z_lt ((upd f_w 396 x2)) fun a3 =>
  z_lt (((44 : Int32) + ((44 : Int32) * (a3 396)))) fun x4 =>
  z_bd (p_X8_copyRow a3 x4 (0 : Int32) (44 : Int32)) fun r5 =>
  some ((r5 6), v_noes, r5))
theorem hd_X8_undo : yX8_undo.cls = RX8 ∧ yX8_undo.cls ≠ "java/lang/invoke/MethodHandle" ∧ yX8_undo.cls ≠ "java/lang/invoke/VarHandle" ∧ (parseMethodDescriptor yX8_undo.desc).map (fun d => d.parameters.length) = some 0 := by decide +kernel
set_option maxHeartbeats 4000000 in
set_option maxRecDepth 100000 in
theorem c_X8_undo (l : Launch) (D : va_G) (y : Nat → ClassId) (o o_w : Nat) (g_kept g_text g_size g_above g_below g_bads g_fulls g_at g_from g_token g_value g_readFault g_yet g_fars g_tells : Value) (v_noes : Int32) (f_w : (Nat → Int32)) (r : Int32 × Int32 × (Nat → Int32)) (h : p_X8_undo v_noes f_w = some r) : z_MI l yX8_undo cX8_undo 1 (some .int) 1 24 D y [.ref o] [(o, .inr (7, [.ref o_w, g_kept, g_text, g_size, g_above, g_below, g_bads, .int v_noes, g_fulls, g_at, g_from, g_token, g_value, g_readFault, g_yet, g_fars, g_tells])), (o_w, .inl (y 0, 1960, .inl f_w))] r.1 [(o, .inr (7, [.ref o_w, g_kept, g_text, g_size, g_above, g_below, g_bads, .int r.2.1, g_fulls, g_at, g_from, g_token, g_value, g_readFault, g_yet, g_fars, g_tells])), (o_w, .inl (y 0, 1960, .inl r.2.2))] := by
  unfold p_X8_undo at h
  refine z_enI (by decide) (Nat.le_of_ble_eq_true rfl) ?_
  intro p e s m args below meth c A ls hr K hH hl
  obtain ⟨Q, hQ⟩ : ∃ Q, Q = MQ below (z_Qi D y A r.1 [(o, .inr (7, [.ref o_w, g_kept, g_text, g_size, g_above, g_below, g_bads, .int r.2.1, g_fulls, g_at, g_from, g_token, g_value, g_readFault, g_yet, g_fars, g_tells])), (o_w, .inl (y 0, 1960, .inl r.2.2))]) args s 0 0 A := ⟨_, rfl⟩
  rw [← hQ]
  have hl : lv_has ls 1 [(0, .ref o)] := hl
  refine lv_aload_n K.x K.b dX8_undo_0 rfl (lv_at hl 0 rfl) ?_
  refine z_get K hH 0 rfl zin_8 rfl 0 (by decide) tw_4_96 (v := .ref o_w) rfl dX8_undo_1 ?_
  refine lv_sipush (v := (396)) K.x K.b dX8_undo_4 (by decide) ?_
  refine z_iald K hH 1 (k := 396) rfl (by decide) rfl dX8_undo_7 ?_
  refine lv_if_ne (tgt := 16) K.x K.b dX8_undo_8 (by decide) (fun c1 => ?_) (fun c1 => ?_)
  · replace h := z_f c1 h
    refine lv_aload_n K.x K.b dX8_undo_16 rfl (lv_at hl 0 rfl) ?_
    refine z_get K hH 0 rfl zin_8 rfl 0 (by decide) tw_4_96 (v := .ref o_w) rfl dX8_undo_17 ?_
    refine lv_sipush (v := (396)) K.x K.b dX8_undo_20 (by decide) ?_
    refine lv_dup2_11 K.x K.b dX8_undo_23 rfl rfl ?_
    refine z_iald K hH 1 (k := 396) rfl (by decide) rfl dX8_undo_24 ?_
    refine lv_iconst (v := (1)) K.x K.b dX8_undo_25 (by decide) ?_
    refine lv_isub K.x K.b dX8_undo_26 ?_
    obtain ⟨x2, ex2, h⟩ := z_lt_e h
    refine z_nm ex2 ?_
    obtain ⟨a3, ea3, h⟩ := z_lt_e h
    refine z_iast K hH 1 (k := 396) (ws' := [(o, .inr (7, [.ref o_w, g_kept, g_text, g_size, g_above, g_below, g_bads, .int v_noes, g_fulls, g_at, g_from, g_token, g_value, g_readFault, g_yet, g_fars, g_tells])), (o_w, .inl (y 0, 1960, .inl a3))]) rfl (by decide) rfl dX8_undo_27 (by rw [ea3]; rfl) (fun H locs hH => ?_)
    refine lv_aload_n K.x K.b dX8_undo_28 rfl (lv_at hl 0 rfl) ?_
    refine lv_bipush (v := (44)) K.x K.b dX8_undo_29 (by decide) ?_
    refine lv_bipush (v := (44)) K.x K.b dX8_undo_31 (by decide) ?_
    refine lv_aload_n K.x K.b dX8_undo_33 rfl (lv_at hl 0 rfl) ?_
    refine z_get K hH 0 rfl zin_8 rfl 0 (by decide) tw_4_96 (v := .ref o_w) rfl dX8_undo_34 ?_
    refine lv_sipush (v := (396)) K.x K.b dX8_undo_37 (by decide) ?_
    refine z_iald K hH 1 (k := 396) rfl (by decide) rfl dX8_undo_40 ?_
    refine lv_imul K.x K.b dX8_undo_41 ?_
    refine lv_iadd K.x K.b dX8_undo_42 ?_
    refine lv_iconst (v := (0)) K.x K.b dX8_undo_43 (by decide) ?_
    refine lv_bipush (v := (44)) K.x K.b dX8_undo_44 (by decide) ?_
    obtain ⟨x4, ex4, h⟩ := z_lt_e h
    refine z_nm3 ex4 ?_
    obtain ⟨r5, hr6, h⟩ := z_bd_e h
    refine z_Vv K hH hl.1 (c_X8_copyRow l D y o o_w (g_kept) (g_text) (g_size) (g_above) (g_below) (g_bads) (.int v_noes) (g_fulls) (g_at) (g_from) (g_token) (g_value) (g_readFault) (g_yet) (g_fars) (g_tells) a3 x4 (0 : Int32) (44 : Int32) r5 hr6) (z_cwV K 3 tw_5_56 tw_5_58 tw_0_64 tw_1_8 tw_5_59 hd_X8_copyRow ⟨by decide, by decide⟩) [0, 1] [] rfl (wr := []) rfl rfl rfl (by decide) rfl rfl rfl (As := [.int x4, .int (0 : Int32), .int (44 : Int32)]) (rest := []) rfl (Nat.le_of_ble_eq_true rfl) ⟨Nat.zero_le _, Nat.zero_le _⟩ dX8_undo_46 (ws' := [(o, .inr (7, [.ref o_w, g_kept, g_text, g_size, g_above, g_below, g_bads, .int v_noes, g_fulls, g_at, g_from, g_token, g_value, g_readFault, g_yet, g_fars, g_tells])), (o_w, .inl (y 0, 1960, .inl r5))]) rfl (fun H locs hH => ?_)
    refine lv_aload_n K.x K.b dX8_undo_49 rfl (lv_at hl 0 rfl) ?_
    refine z_get K hH 0 rfl zin_8 rfl 0 (by decide) tw_4_96 (v := .ref o_w) rfl dX8_undo_50 ?_
    refine lv_bipush (v := (6)) K.x K.b dX8_undo_53 (by decide) ?_
    refine z_iald K hH 1 (k := 6) rfl (by decide) rfl dX8_undo_55 ?_
    have hr9 := Option.some.inj h
    obtain rfl := hr9
    rw [hQ]
    exact z_reti K hr hH [0, 1] (by decide) rfl rfl rfl dX8_undo_56
  · replace h := z_t c1 h
    refine lv_aload_n K.x K.b dX8_undo_11 rfl (lv_at hl 0 rfl) ?_
    obtain ⟨r7, hr8, h⟩ := z_bd_e h
    refine z_Vi K hH hl.1 (c_X8_no l D y o (.ref o_w) (g_kept) (g_text) (g_size) (g_above) (g_below) (g_bads) (g_fulls) (g_at) (g_from) (g_token) (g_value) (g_readFault) (g_yet) (g_fars) (g_tells) v_noes r7 hr8) (z_cwV K 0 tw_5_68 tw_5_70 tw_0_66 tw_1_8 tw_5_71 hd_X8_no ⟨by decide, by decide⟩) [0] [1] rfl (wr := [(o_w, .inl (y 0, 1960, .inl f_w))]) rfl rfl rfl (by decide) rfl rfl rfl (As := []) (rest := []) rfl (Nat.le_of_ble_eq_true rfl) ⟨Nat.zero_le _, Nat.zero_le _⟩ dX8_undo_12 (ws' := [(o_w, .inl (y 0, 1960, .inl f_w)), (o, .inr (7, [.ref o_w, g_kept, g_text, g_size, g_above, g_below, g_bads, .int r7.2, g_fulls, g_at, g_from, g_token, g_value, g_readFault, g_yet, g_fars, g_tells]))]) rfl (fun H locs hH => ?_)
    have hr9 := Option.some.inj h
    obtain rfl := hr9
    rw [hQ]
    exact z_reti K hr hH [1, 0] (by decide) rfl rfl rfl dX8_undo_15
def p_X8_of (v_bads : Int32) (f_w : (Nat → Int32)) (p1 : Int32) (p2 : Int32) : Option (Int32 × Int32) :=
  z_bd (p_X8_isCrow f_w p1) fun r1 =>
  if (r1 = 0) then
  (z_bd (p_X8_bad v_bads) fun r4 =>
  some (r4.1, r4.2)) else
  (z_bd (p_X8_in p2 (0 : Int32) (2 : Int32)) fun r6 =>
  if (r6 = 0) then
  (z_bd (p_X8_bad v_bads) fun r17 =>
  some (r17.1, r17.2)) else
  (z_bd (α := Int32) (if (p2 = 0) then
  (z_lt (((419 : Int32) + p1)) fun x15 =>
  z_gd (z_in x15 1960) <|
  some (f_w x15.toNatClampNeg)) else
  (if (p2 = (1 : Int32)) then
  (z_gd (z_in p1 1960) <|
  some (f_w p1.toNatClampNeg)) else
  (z_lt (((3 : Int32) + p1)) fun x12 =>
  z_gd (z_in x12 1960) <|
  some (f_w x12.toNatClampNeg)))) fun j9 =>
  some (j9, v_bads)))
theorem hd_X8_of : yX8_of.cls = RX8 ∧ yX8_of.cls ≠ "java/lang/invoke/MethodHandle" ∧ yX8_of.cls ≠ "java/lang/invoke/VarHandle" ∧ (parseMethodDescriptor yX8_of.desc).map (fun d => d.parameters.length) = some 2 := by decide +kernel
set_option maxHeartbeats 4000000 in
set_option maxRecDepth 100000 in
theorem c_X8_of (l : Launch) (D : va_G) (y : Nat → ClassId) (o o_w : Nat) (g_kept g_text g_size g_above g_below g_noes g_fulls g_at g_from g_token g_value g_readFault g_yet g_fars g_tells : Value) (v_bads : Int32) (f_w : (Nat → Int32)) (p1 : Int32) (p2 : Int32) (r : Int32 × Int32) (h : p_X8_of v_bads f_w p1 p2 = some r) : z_MI l yX8_of cX8_of 3 (some .int) 2 43 D y [.ref o, .int p1, .int p2] [(o, .inr (7, [.ref o_w, g_kept, g_text, g_size, g_above, g_below, .int v_bads, g_noes, g_fulls, g_at, g_from, g_token, g_value, g_readFault, g_yet, g_fars, g_tells])), (o_w, .inl (y 0, 1960, .inl f_w))] r.1 [(o, .inr (7, [.ref o_w, g_kept, g_text, g_size, g_above, g_below, .int r.2, g_noes, g_fulls, g_at, g_from, g_token, g_value, g_readFault, g_yet, g_fars, g_tells])), (o_w, .inl (y 0, 1960, .inl f_w))] := by
  unfold p_X8_of at h
  refine z_enI (by decide) (Nat.le_of_ble_eq_true rfl) ?_
  intro p e s m args below meth c A ls hr K hH hl
  obtain ⟨Q, hQ⟩ : ∃ Q, Q = MQ below (z_Qi D y A r.1 [(o, .inr (7, [.ref o_w, g_kept, g_text, g_size, g_above, g_below, .int r.2, g_noes, g_fulls, g_at, g_from, g_token, g_value, g_readFault, g_yet, g_fars, g_tells])), (o_w, .inl (y 0, 1960, .inl f_w))]) args s 0 0 A := ⟨_, rfl⟩
  rw [← hQ]
  have hl : lv_has ls 3 [(0, .ref o), (1, .int p1), (2, .int p2)] := hl
  refine lv_aload_n K.x K.b dX8_of_0 rfl (lv_at hl 0 rfl) ?_
  refine lv_iload_n K.x K.b dX8_of_1 rfl (lv_at hl 1 rfl) ?_
  obtain ⟨r1, hr2, h⟩ := z_bd_e h
  refine z_Vi K hH hl.1 (c_X8_isCrow l D y o o_w (g_kept) (g_text) (g_size) (g_above) (g_below) (.int v_bads) (g_noes) (g_fulls) (g_at) (g_from) (g_token) (g_value) (g_readFault) (g_yet) (g_fars) (g_tells) f_w p1 r1 hr2) (z_cwV K 1 tw_5_64 tw_5_66 tw_0_65 tw_1_8 tw_5_67 hd_X8_isCrow ⟨by decide, by decide⟩) [0, 1] [] rfl (wr := []) rfl rfl rfl (by decide) rfl rfl rfl (As := [.int p1]) (rest := []) rfl (Nat.le_of_ble_eq_true rfl) ⟨Nat.zero_le _, Nat.zero_le _⟩ dX8_of_2 (ws' := [(o, .inr (7, [.ref o_w, g_kept, g_text, g_size, g_above, g_below, .int v_bads, g_noes, g_fulls, g_at, g_from, g_token, g_value, g_readFault, g_yet, g_fars, g_tells])), (o_w, .inl (y 0, 1960, .inl f_w))]) rfl (fun H locs hH => ?_)
  refine lv_if_eq (tgt := 17) K.x K.b dX8_of_5 (by decide) (fun c3 => ?_) (fun c3 => ?_)
  · replace h := z_t c3 h
    refine lv_aload_n K.x K.b dX8_of_17 rfl (lv_at hl 0 rfl) ?_
    obtain ⟨r4, hr5, h⟩ := z_bd_e h
    refine z_Vi K hH hl.1 (c_X8_bad l D y o (.ref o_w) (g_kept) (g_text) (g_size) (g_above) (g_below) (g_noes) (g_fulls) (g_at) (g_from) (g_token) (g_value) (g_readFault) (g_yet) (g_fars) (g_tells) v_bads r4 hr5) (z_cwV K 0 tw_4_163 tw_4_165 tw_0_37 tw_1_8 tw_4_166 hd_X8_bad ⟨by decide, by decide⟩) [0] [1] rfl (wr := [(o_w, .inl (y 0, 1960, .inl f_w))]) rfl rfl rfl (by decide) rfl rfl rfl (As := []) (rest := []) rfl (Nat.le_of_ble_eq_true rfl) ⟨Nat.zero_le _, Nat.zero_le _⟩ dX8_of_18 (ws' := [(o_w, .inl (y 0, 1960, .inl f_w)), (o, .inr (7, [.ref o_w, g_kept, g_text, g_size, g_above, g_below, .int r4.2, g_noes, g_fulls, g_at, g_from, g_token, g_value, g_readFault, g_yet, g_fars, g_tells]))]) rfl (fun H locs hH => ?_)
    have hr9 := Option.some.inj h
    obtain rfl := hr9
    rw [hQ]
    exact z_reti K hr hH [1, 0] (by decide) rfl rfl rfl dX8_of_21
  · replace h := z_f c3 h
    refine lv_iload_n K.x K.b dX8_of_8 rfl (lv_at hl 2 rfl) ?_
    refine lv_iconst (v := (0)) K.x K.b dX8_of_9 (by decide) ?_
    refine lv_iconst (v := (2)) K.x K.b dX8_of_10 (by decide) ?_
    obtain ⟨r6, hr7, h⟩ := z_bd_e h
    refine z_Si K hH hl.1 (c_X8_in l D y p2 (0 : Int32) (2 : Int32) r6 hr7) (z_cwS K 3 tw_4_160 tw_4_161 tw_1_8 tw_4_162 hd_X8_in ⟨by decide, by decide⟩) rfl (As := [.int p2, .int (0 : Int32), .int (2 : Int32)]) (rest := []) rfl (Nat.le_of_ble_eq_true rfl) ⟨Nat.zero_le _, Nat.zero_le _⟩ dX8_of_11 (fun H locs hH => ?_)
    refine lv_if_ne (tgt := 22) K.x K.b dX8_of_14 (by decide) (fun c8 => ?_) (fun c8 => ?_)
    · replace h := z_f c8 h
      refine lv_iload_n K.x K.b dX8_of_22 rfl (lv_at hl 2 rfl) ?_
      obtain ⟨j9, hj9, h⟩ := z_bd_e h
      have Kj9 : ∀ (H : Heap) (locs : List Loc) (ls : Array Slot), z_H D A s.heap [(o, .inr (7, [.ref o_w, g_kept, g_text, g_size, g_above, g_below, .int v_bads, g_noes, g_fulls, g_at, g_from, g_token, g_value, g_readFault, g_yet, g_fars, g_tells])), (o_w, .inl (y 0, 1960, .inl f_w))] H locs → lv_has ls 3 [] → W p l e (zR 2 43) s m args below meth c H locs 0 0 Q (F0 m 61 ls [.int j9]) := by
        intro H locs ls hH hl
        have hr9 := Option.some.inj h
        obtain rfl := hr9
        rw [hQ]
        exact z_reti K hr hH [0, 1] (by decide) rfl rfl rfl dX8_of_61
      replace h := hj9
      refine lv_if_ne (tgt := 39) K.x K.b dX8_of_23 (by decide) (fun c10 => ?_) (fun c10 => ?_)
      · replace h := z_f c10 h
        refine lv_iload_n K.x K.b dX8_of_39 rfl (lv_at hl 2 rfl) ?_
        refine lv_iconst (v := (1)) K.x K.b dX8_of_40 (by decide) ?_
        refine lv_icmp_ne (tgt := 53) K.x K.b dX8_of_41 (by decide) (fun c11 => ?_) (fun c11 => ?_)
        · replace h := z_f c11 h
          refine lv_aload_n K.x K.b dX8_of_53 rfl (lv_at hl 0 rfl) ?_
          refine z_get K hH 0 rfl zin_8 rfl 0 (by decide) tw_4_96 (v := .ref o_w) rfl dX8_of_54 ?_
          refine lv_iconst (v := (3)) K.x K.b dX8_of_57 (by decide) ?_
          refine lv_iload_n K.x K.b dX8_of_58 rfl (lv_at hl 1 rfl) ?_
          refine lv_iadd K.x K.b dX8_of_59 ?_
          obtain ⟨x12, ex12, h⟩ := z_lt_e h
          refine z_nm ex12 ?_
          obtain ⟨g13, h⟩ := z_gd_e h
          refine z_iald K hH 1 (k := x12.toNatClampNeg) rfl g13 rfl dX8_of_60 ?_
          obtain rfl := Option.some.inj h
          exact Kj9 _ _ _ hH (lv_sub hl [] rfl)
        · replace h := z_t c11 h
          refine lv_aload_n K.x K.b dX8_of_44 rfl (lv_at hl 0 rfl) ?_
          refine z_get K hH 0 rfl zin_8 rfl 0 (by decide) tw_4_96 (v := .ref o_w) rfl dX8_of_45 ?_
          refine lv_iload_n K.x K.b dX8_of_48 rfl (lv_at hl 1 rfl) ?_
          obtain ⟨g14, h⟩ := z_gd_e h
          refine z_iald K hH 1 (k := p1.toNatClampNeg) rfl g14 rfl dX8_of_49 ?_
          refine lv_goto (tgt := 61) K.x K.b dX8_of_50 (by decide) ?_
          obtain rfl := Option.some.inj h
          exact Kj9 _ _ _ hH (lv_sub hl [] rfl)
      · replace h := z_t c10 h
        refine lv_aload_n K.x K.b dX8_of_26 rfl (lv_at hl 0 rfl) ?_
        refine z_get K hH 0 rfl zin_8 rfl 0 (by decide) tw_4_96 (v := .ref o_w) rfl dX8_of_27 ?_
        refine lv_sipush (v := (419)) K.x K.b dX8_of_30 (by decide) ?_
        refine lv_iload_n K.x K.b dX8_of_33 rfl (lv_at hl 1 rfl) ?_
        refine lv_iadd K.x K.b dX8_of_34 ?_
        obtain ⟨x15, ex15, h⟩ := z_lt_e h
        refine z_nm ex15 ?_
        obtain ⟨g16, h⟩ := z_gd_e h
        refine z_iald K hH 1 (k := x15.toNatClampNeg) rfl g16 rfl dX8_of_35 ?_
        refine lv_goto (tgt := 61) K.x K.b dX8_of_36 (by decide) ?_
        obtain rfl := Option.some.inj h
        exact Kj9 _ _ _ hH (lv_sub hl [] rfl)
    · replace h := z_t c8 h
      refine lv_aload_n K.x K.b dX8_of_17 rfl (lv_at hl 0 rfl) ?_
      obtain ⟨r17, hr18, h⟩ := z_bd_e h
      refine z_Vi K hH hl.1 (c_X8_bad l D y o (.ref o_w) (g_kept) (g_text) (g_size) (g_above) (g_below) (g_noes) (g_fulls) (g_at) (g_from) (g_token) (g_value) (g_readFault) (g_yet) (g_fars) (g_tells) v_bads r17 hr18) (z_cwV K 0 tw_4_163 tw_4_165 tw_0_37 tw_1_8 tw_4_166 hd_X8_bad ⟨by decide, by decide⟩) [0] [1] rfl (wr := [(o_w, .inl (y 0, 1960, .inl f_w))]) rfl rfl rfl (by decide) rfl rfl rfl (As := []) (rest := []) rfl (Nat.le_of_ble_eq_true rfl) ⟨Nat.zero_le _, Nat.zero_le _⟩ dX8_of_18 (ws' := [(o_w, .inl (y 0, 1960, .inl f_w)), (o, .inr (7, [.ref o_w, g_kept, g_text, g_size, g_above, g_below, .int r17.2, g_noes, g_fulls, g_at, g_from, g_token, g_value, g_readFault, g_yet, g_fars, g_tells]))]) rfl (fun H locs hH => ?_)
      have hr9 := Option.some.inj h
      obtain rfl := hr9
      rw [hQ]
      exact z_reti K hr hH [1, 0] (by decide) rfl rfl rfl dX8_of_21
def p_X8_about (v_bads : Int32) (f_w : (Nat → Int32)) (p1 : Int32) (p2 : Int32) : Option (Int32 × Int32) :=
  z_bd (p_X8_isPlace f_w p1) fun r1 =>
  z_bd (α := Int32 × Int32) (if (r1 = 0) then
  (z_bd (p_X8_bad v_bads) fun r5 =>
  some (r5.1, r5.2)) else
  (z_bd (p_X8_in p2 (0 : Int32) (2 : Int32)) fun r7 =>
  if (r7 = 0) then
  (z_bd (p_X8_bad v_bads) fun r10 =>
  some (r10.1, r10.2)) else
  (z_lt ((((397 : Int32) + ((3 : Int32) * p1)) + p2)) fun x12 =>
  z_gd (z_in x12 1960) <|
  some ((f_w x12.toNatClampNeg), v_bads)))) fun j3 =>
  some (j3.1, j3.2)
theorem hd_X8_about : yX8_about.cls = RX8 ∧ yX8_about.cls ≠ "java/lang/invoke/MethodHandle" ∧ yX8_about.cls ≠ "java/lang/invoke/VarHandle" ∧ (parseMethodDescriptor yX8_about.desc).map (fun d => d.parameters.length) = some 2 := by decide +kernel
set_option maxHeartbeats 4000000 in
set_option maxRecDepth 100000 in
theorem c_X8_about (l : Launch) (D : va_G) (y : Nat → ClassId) (o o_w : Nat) (g_kept g_text g_size g_above g_below g_noes g_fulls g_at g_from g_token g_value g_readFault g_yet g_fars g_tells : Value) (v_bads : Int32) (f_w : (Nat → Int32)) (p1 : Int32) (p2 : Int32) (r : Int32 × Int32) (h : p_X8_about v_bads f_w p1 p2 = some r) : z_MI l yX8_about cX8_about 3 (some .int) 2 43 D y [.ref o, .int p1, .int p2] [(o, .inr (7, [.ref o_w, g_kept, g_text, g_size, g_above, g_below, .int v_bads, g_noes, g_fulls, g_at, g_from, g_token, g_value, g_readFault, g_yet, g_fars, g_tells])), (o_w, .inl (y 0, 1960, .inl f_w))] r.1 [(o, .inr (7, [.ref o_w, g_kept, g_text, g_size, g_above, g_below, .int r.2, g_noes, g_fulls, g_at, g_from, g_token, g_value, g_readFault, g_yet, g_fars, g_tells])), (o_w, .inl (y 0, 1960, .inl f_w))] := by
  unfold p_X8_about at h
  refine z_enI (by decide) (Nat.le_of_ble_eq_true rfl) ?_
  intro p e s m args below meth c A ls hr K hH hl
  obtain ⟨Q, hQ⟩ : ∃ Q, Q = MQ below (z_Qi D y A r.1 [(o, .inr (7, [.ref o_w, g_kept, g_text, g_size, g_above, g_below, .int r.2, g_noes, g_fulls, g_at, g_from, g_token, g_value, g_readFault, g_yet, g_fars, g_tells])), (o_w, .inl (y 0, 1960, .inl f_w))]) args s 0 0 A := ⟨_, rfl⟩
  rw [← hQ]
  have hl : lv_has ls 3 [(0, .ref o), (1, .int p1), (2, .int p2)] := hl
  refine lv_aload_n K.x K.b dX8_about_0 rfl (lv_at hl 0 rfl) ?_
  refine lv_iload_n K.x K.b dX8_about_1 rfl (lv_at hl 1 rfl) ?_
  obtain ⟨r1, hr2, h⟩ := z_bd_e h
  refine z_Vi K hH hl.1 (c_X8_isPlace l D y o o_w (g_kept) (g_text) (g_size) (g_above) (g_below) (.int v_bads) (g_noes) (g_fulls) (g_at) (g_from) (g_token) (g_value) (g_readFault) (g_yet) (g_fars) (g_tells) f_w p1 r1 hr2) (z_cwV K 1 tw_4_179 tw_4_181 tw_0_40 tw_1_8 tw_4_182 hd_X8_isPlace ⟨by decide, by decide⟩) [0, 1] [] rfl (wr := []) rfl rfl rfl (by decide) rfl rfl rfl (As := [.int p1]) (rest := []) rfl (Nat.le_of_ble_eq_true rfl) ⟨Nat.zero_le _, Nat.zero_le _⟩ dX8_about_2 (ws' := [(o, .inr (7, [.ref o_w, g_kept, g_text, g_size, g_above, g_below, .int v_bads, g_noes, g_fulls, g_at, g_from, g_token, g_value, g_readFault, g_yet, g_fars, g_tells])), (o_w, .inl (y 0, 1960, .inl f_w))]) rfl (fun H locs hH => ?_)
  obtain ⟨j3, hj3, h⟩ := z_bd_e h
  have Kj3 : ∀ (H : Heap) (locs : List Loc) (ls : Array Slot), z_H D A s.heap [(o, .inr (7, [.ref o_w, g_kept, g_text, g_size, g_above, g_below, .int j3.2, g_noes, g_fulls, g_at, g_from, g_token, g_value, g_readFault, g_yet, g_fars, g_tells])), (o_w, .inl (y 0, 1960, .inl f_w))] H locs → lv_has ls 3 [] → W p l e (zR 2 43) s m args below meth c H locs 0 0 Q (F0 m 38 ls [.int j3.1]) := by
    intro H locs ls hH hl
    have hr9 := Option.some.inj h
    obtain rfl := hr9
    rw [hQ]
    exact z_reti K hr hH [0, 1] (by decide) rfl rfl rfl dX8_about_38
  replace h := hj3
  refine lv_if_eq (tgt := 34) K.x K.b dX8_about_5 (by decide) (fun c4 => ?_) (fun c4 => ?_)
  · replace h := z_t c4 h
    refine lv_aload_n K.x K.b dX8_about_34 rfl (lv_at hl 0 rfl) ?_
    obtain ⟨r5, hr6, h⟩ := z_bd_e h
    refine z_Vi K hH hl.1 (c_X8_bad l D y o (.ref o_w) (g_kept) (g_text) (g_size) (g_above) (g_below) (g_noes) (g_fulls) (g_at) (g_from) (g_token) (g_value) (g_readFault) (g_yet) (g_fars) (g_tells) v_bads r5 hr6) (z_cwV K 0 tw_4_163 tw_4_165 tw_0_37 tw_1_8 tw_4_166 hd_X8_bad ⟨by decide, by decide⟩) [0] [1] rfl (wr := [(o_w, .inl (y 0, 1960, .inl f_w))]) rfl rfl rfl (by decide) rfl rfl rfl (As := []) (rest := []) rfl (Nat.le_of_ble_eq_true rfl) ⟨Nat.zero_le _, Nat.zero_le _⟩ dX8_about_35 (ws' := [(o_w, .inl (y 0, 1960, .inl f_w)), (o, .inr (7, [.ref o_w, g_kept, g_text, g_size, g_above, g_below, .int r5.2, g_noes, g_fulls, g_at, g_from, g_token, g_value, g_readFault, g_yet, g_fars, g_tells]))]) rfl (fun H locs hH => ?_)
    obtain rfl := Option.some.inj h
    exact Kj3 _ _ _ (hH.sub [1, 0] (by decide) rfl) (lv_sub hl [] rfl)
  · replace h := z_f c4 h
    refine lv_iload_n K.x K.b dX8_about_8 rfl (lv_at hl 2 rfl) ?_
    refine lv_iconst (v := (0)) K.x K.b dX8_about_9 (by decide) ?_
    refine lv_iconst (v := (2)) K.x K.b dX8_about_10 (by decide) ?_
    obtain ⟨r7, hr8, h⟩ := z_bd_e h
    refine z_Si K hH hl.1 (c_X8_in l D y p2 (0 : Int32) (2 : Int32) r7 hr8) (z_cwS K 3 tw_4_160 tw_4_161 tw_1_8 tw_4_162 hd_X8_in ⟨by decide, by decide⟩) rfl (As := [.int p2, .int (0 : Int32), .int (2 : Int32)]) (rest := []) rfl (Nat.le_of_ble_eq_true rfl) ⟨Nat.zero_le _, Nat.zero_le _⟩ dX8_about_11 (fun H locs hH => ?_)
    refine lv_if_eq (tgt := 34) K.x K.b dX8_about_14 (by decide) (fun c9 => ?_) (fun c9 => ?_)
    · replace h := z_t c9 h
      refine lv_aload_n K.x K.b dX8_about_34 rfl (lv_at hl 0 rfl) ?_
      obtain ⟨r10, hr11, h⟩ := z_bd_e h
      refine z_Vi K hH hl.1 (c_X8_bad l D y o (.ref o_w) (g_kept) (g_text) (g_size) (g_above) (g_below) (g_noes) (g_fulls) (g_at) (g_from) (g_token) (g_value) (g_readFault) (g_yet) (g_fars) (g_tells) v_bads r10 hr11) (z_cwV K 0 tw_4_163 tw_4_165 tw_0_37 tw_1_8 tw_4_166 hd_X8_bad ⟨by decide, by decide⟩) [0] [1] rfl (wr := [(o_w, .inl (y 0, 1960, .inl f_w))]) rfl rfl rfl (by decide) rfl rfl rfl (As := []) (rest := []) rfl (Nat.le_of_ble_eq_true rfl) ⟨Nat.zero_le _, Nat.zero_le _⟩ dX8_about_35 (ws' := [(o_w, .inl (y 0, 1960, .inl f_w)), (o, .inr (7, [.ref o_w, g_kept, g_text, g_size, g_above, g_below, .int r10.2, g_noes, g_fulls, g_at, g_from, g_token, g_value, g_readFault, g_yet, g_fars, g_tells]))]) rfl (fun H locs hH => ?_)
      obtain rfl := Option.some.inj h
      exact Kj3 _ _ _ (hH.sub [1, 0] (by decide) rfl) (lv_sub hl [] rfl)
    · replace h := z_f c9 h
      refine lv_aload_n K.x K.b dX8_about_17 rfl (lv_at hl 0 rfl) ?_
      refine z_get K hH 0 rfl zin_8 rfl 0 (by decide) tw_4_96 (v := .ref o_w) rfl dX8_about_18 ?_
      refine lv_sipush (v := (397)) K.x K.b dX8_about_21 (by decide) ?_
      refine lv_iconst (v := (3)) K.x K.b dX8_about_24 (by decide) ?_
      refine lv_iload_n K.x K.b dX8_about_25 rfl (lv_at hl 1 rfl) ?_
      refine lv_imul K.x K.b dX8_about_26 ?_
      refine lv_iadd K.x K.b dX8_about_27 ?_
      refine lv_iload_n K.x K.b dX8_about_28 rfl (lv_at hl 2 rfl) ?_
      refine lv_iadd K.x K.b dX8_about_29 ?_
      obtain ⟨x12, ex12, h⟩ := z_lt_e h
      refine z_nm ex12 ?_
      obtain ⟨g13, h⟩ := z_gd_e h
      refine z_iald K hH 1 (k := x12.toNatClampNeg) rfl g13 rfl dX8_about_30 ?_
      refine lv_goto (tgt := 38) K.x K.b dX8_about_31 (by decide) ?_
      obtain rfl := Option.some.inj h
      exact Kj3 _ _ _ hH (lv_sub hl [] rfl)
def p_X8_straight (v_bads : Int32) (f_w : (Nat → Int32)) (p1 : Int32) (p2 : Int32) : Option (Int32 × Int32) :=
  z_bd (p_X8_isPlace f_w p1) fun r1 =>
  z_bd (α := Int32 × Int32) (if (r1 = 0) then
  (z_bd (p_X8_bad v_bads) fun r5 =>
  some (r5.1, r5.2)) else
  (z_bd (p_X8_isPlace f_w p2) fun r7 =>
  if (r7 = 0) then
  (z_bd (p_X8_bad v_bads) fun r10 =>
  some (r10.1, r10.2)) else
  (z_bd (p_X8_straightIn f_w (0 : Int32) p1 p2) fun r12 =>
  some (r12, v_bads)))) fun j3 =>
  some (j3.1, j3.2)
theorem hd_X8_straight : yX8_straight.cls = RX8 ∧ yX8_straight.cls ≠ "java/lang/invoke/MethodHandle" ∧ yX8_straight.cls ≠ "java/lang/invoke/VarHandle" ∧ (parseMethodDescriptor yX8_straight.desc).map (fun d => d.parameters.length) = some 2 := by decide +kernel
set_option maxHeartbeats 4000000 in
set_option maxRecDepth 100000 in
theorem c_X8_straight (l : Launch) (D : va_G) (y : Nat → ClassId) (o o_w : Nat) (g_kept g_text g_size g_above g_below g_noes g_fulls g_at g_from g_token g_value g_readFault g_yet g_fars g_tells : Value) (v_bads : Int32) (f_w : (Nat → Int32)) (p1 : Int32) (p2 : Int32) (r : Int32 × Int32) (h : p_X8_straight v_bads f_w p1 p2 = some r) : z_MI l yX8_straight cX8_straight 3 (some .int) 2 43 D y [.ref o, .int p1, .int p2] [(o, .inr (7, [.ref o_w, g_kept, g_text, g_size, g_above, g_below, .int v_bads, g_noes, g_fulls, g_at, g_from, g_token, g_value, g_readFault, g_yet, g_fars, g_tells])), (o_w, .inl (y 0, 1960, .inl f_w))] r.1 [(o, .inr (7, [.ref o_w, g_kept, g_text, g_size, g_above, g_below, .int r.2, g_noes, g_fulls, g_at, g_from, g_token, g_value, g_readFault, g_yet, g_fars, g_tells])), (o_w, .inl (y 0, 1960, .inl f_w))] := by
  unfold p_X8_straight at h
  refine z_enI (by decide) (Nat.le_of_ble_eq_true rfl) ?_
  intro p e s m args below meth c A ls hr K hH hl
  obtain ⟨Q, hQ⟩ : ∃ Q, Q = MQ below (z_Qi D y A r.1 [(o, .inr (7, [.ref o_w, g_kept, g_text, g_size, g_above, g_below, .int r.2, g_noes, g_fulls, g_at, g_from, g_token, g_value, g_readFault, g_yet, g_fars, g_tells])), (o_w, .inl (y 0, 1960, .inl f_w))]) args s 0 0 A := ⟨_, rfl⟩
  rw [← hQ]
  have hl : lv_has ls 3 [(0, .ref o), (1, .int p1), (2, .int p2)] := hl
  refine lv_aload_n K.x K.b dX8_straight_0 rfl (lv_at hl 0 rfl) ?_
  refine lv_iload_n K.x K.b dX8_straight_1 rfl (lv_at hl 1 rfl) ?_
  obtain ⟨r1, hr2, h⟩ := z_bd_e h
  refine z_Vi K hH hl.1 (c_X8_isPlace l D y o o_w (g_kept) (g_text) (g_size) (g_above) (g_below) (.int v_bads) (g_noes) (g_fulls) (g_at) (g_from) (g_token) (g_value) (g_readFault) (g_yet) (g_fars) (g_tells) f_w p1 r1 hr2) (z_cwV K 1 tw_4_179 tw_4_181 tw_0_40 tw_1_8 tw_4_182 hd_X8_isPlace ⟨by decide, by decide⟩) [0, 1] [] rfl (wr := []) rfl rfl rfl (by decide) rfl rfl rfl (As := [.int p1]) (rest := []) rfl (Nat.le_of_ble_eq_true rfl) ⟨Nat.zero_le _, Nat.zero_le _⟩ dX8_straight_2 (ws' := [(o, .inr (7, [.ref o_w, g_kept, g_text, g_size, g_above, g_below, .int v_bads, g_noes, g_fulls, g_at, g_from, g_token, g_value, g_readFault, g_yet, g_fars, g_tells])), (o_w, .inl (y 0, 1960, .inl f_w))]) rfl (fun H locs hH => ?_)
  obtain ⟨j3, hj3, h⟩ := z_bd_e h
  have Kj3 : ∀ (H : Heap) (locs : List Loc) (ls : Array Slot), z_H D A s.heap [(o, .inr (7, [.ref o_w, g_kept, g_text, g_size, g_above, g_below, .int j3.2, g_noes, g_fulls, g_at, g_from, g_token, g_value, g_readFault, g_yet, g_fars, g_tells])), (o_w, .inl (y 0, 1960, .inl f_w))] H locs → lv_has ls 3 [] → W p l e (zR 2 43) s m args below meth c H locs 0 0 Q (F0 m 30 ls [.int j3.1]) := by
    intro H locs ls hH hl
    have hr9 := Option.some.inj h
    obtain rfl := hr9
    rw [hQ]
    exact z_reti K hr hH [0, 1] (by decide) rfl rfl rfl dX8_straight_30
  replace h := hj3
  refine lv_if_eq (tgt := 26) K.x K.b dX8_straight_5 (by decide) (fun c4 => ?_) (fun c4 => ?_)
  · replace h := z_t c4 h
    refine lv_aload_n K.x K.b dX8_straight_26 rfl (lv_at hl 0 rfl) ?_
    obtain ⟨r5, hr6, h⟩ := z_bd_e h
    refine z_Vi K hH hl.1 (c_X8_bad l D y o (.ref o_w) (g_kept) (g_text) (g_size) (g_above) (g_below) (g_noes) (g_fulls) (g_at) (g_from) (g_token) (g_value) (g_readFault) (g_yet) (g_fars) (g_tells) v_bads r5 hr6) (z_cwV K 0 tw_4_163 tw_4_165 tw_0_37 tw_1_8 tw_4_166 hd_X8_bad ⟨by decide, by decide⟩) [0] [1] rfl (wr := [(o_w, .inl (y 0, 1960, .inl f_w))]) rfl rfl rfl (by decide) rfl rfl rfl (As := []) (rest := []) rfl (Nat.le_of_ble_eq_true rfl) ⟨Nat.zero_le _, Nat.zero_le _⟩ dX8_straight_27 (ws' := [(o_w, .inl (y 0, 1960, .inl f_w)), (o, .inr (7, [.ref o_w, g_kept, g_text, g_size, g_above, g_below, .int r5.2, g_noes, g_fulls, g_at, g_from, g_token, g_value, g_readFault, g_yet, g_fars, g_tells]))]) rfl (fun H locs hH => ?_)
    obtain rfl := Option.some.inj h
    exact Kj3 _ _ _ (hH.sub [1, 0] (by decide) rfl) (lv_sub hl [] rfl)
  · replace h := z_f c4 h
    refine lv_aload_n K.x K.b dX8_straight_8 rfl (lv_at hl 0 rfl) ?_
    refine lv_iload_n K.x K.b dX8_straight_9 rfl (lv_at hl 2 rfl) ?_
    obtain ⟨r7, hr8, h⟩ := z_bd_e h
    refine z_Vi K hH hl.1 (c_X8_isPlace l D y o o_w (g_kept) (g_text) (g_size) (g_above) (g_below) (.int v_bads) (g_noes) (g_fulls) (g_at) (g_from) (g_token) (g_value) (g_readFault) (g_yet) (g_fars) (g_tells) f_w p2 r7 hr8) (z_cwV K 1 tw_4_179 tw_4_181 tw_0_40 tw_1_8 tw_4_182 hd_X8_isPlace ⟨by decide, by decide⟩) [0, 1] [] rfl (wr := []) rfl rfl rfl (by decide) rfl rfl rfl (As := [.int p2]) (rest := []) rfl (Nat.le_of_ble_eq_true rfl) ⟨Nat.zero_le _, Nat.zero_le _⟩ dX8_straight_10 (ws' := [(o, .inr (7, [.ref o_w, g_kept, g_text, g_size, g_above, g_below, .int v_bads, g_noes, g_fulls, g_at, g_from, g_token, g_value, g_readFault, g_yet, g_fars, g_tells])), (o_w, .inl (y 0, 1960, .inl f_w))]) rfl (fun H locs hH => ?_)
    refine lv_if_eq (tgt := 26) K.x K.b dX8_straight_13 (by decide) (fun c9 => ?_) (fun c9 => ?_)
    · replace h := z_t c9 h
      refine lv_aload_n K.x K.b dX8_straight_26 rfl (lv_at hl 0 rfl) ?_
      obtain ⟨r10, hr11, h⟩ := z_bd_e h
      refine z_Vi K hH hl.1 (c_X8_bad l D y o (.ref o_w) (g_kept) (g_text) (g_size) (g_above) (g_below) (g_noes) (g_fulls) (g_at) (g_from) (g_token) (g_value) (g_readFault) (g_yet) (g_fars) (g_tells) v_bads r10 hr11) (z_cwV K 0 tw_4_163 tw_4_165 tw_0_37 tw_1_8 tw_4_166 hd_X8_bad ⟨by decide, by decide⟩) [0] [1] rfl (wr := [(o_w, .inl (y 0, 1960, .inl f_w))]) rfl rfl rfl (by decide) rfl rfl rfl (As := []) (rest := []) rfl (Nat.le_of_ble_eq_true rfl) ⟨Nat.zero_le _, Nat.zero_le _⟩ dX8_straight_27 (ws' := [(o_w, .inl (y 0, 1960, .inl f_w)), (o, .inr (7, [.ref o_w, g_kept, g_text, g_size, g_above, g_below, .int r10.2, g_noes, g_fulls, g_at, g_from, g_token, g_value, g_readFault, g_yet, g_fars, g_tells]))]) rfl (fun H locs hH => ?_)
      obtain rfl := Option.some.inj h
      exact Kj3 _ _ _ (hH.sub [1, 0] (by decide) rfl) (lv_sub hl [] rfl)
    · replace h := z_f c9 h
      refine lv_aload_n K.x K.b dX8_straight_16 rfl (lv_at hl 0 rfl) ?_
      refine lv_iconst (v := (0)) K.x K.b dX8_straight_17 (by decide) ?_
      refine lv_iload_n K.x K.b dX8_straight_18 rfl (lv_at hl 1 rfl) ?_
      refine lv_iload_n K.x K.b dX8_straight_19 rfl (lv_at hl 2 rfl) ?_
      obtain ⟨r12, hr13, h⟩ := z_bd_e h
      refine z_Vi K hH hl.1 (c_X8_straightIn l D y o o_w (g_kept) (g_text) (g_size) (g_above) (g_below) (.int v_bads) (g_noes) (g_fulls) (g_at) (g_from) (g_token) (g_value) (g_readFault) (g_yet) (g_fars) (g_tells) f_w (0 : Int32) p1 p2 r12 hr13) (z_cwV K 3 tw_5_27 tw_5_29 tw_0_59 tw_1_8 tw_5_30 hd_X8_straightIn ⟨by decide, by decide⟩) [0, 1] [] rfl (wr := []) rfl rfl rfl (by decide) rfl rfl rfl (As := [.int (0 : Int32), .int p1, .int p2]) (rest := []) rfl (Nat.le_of_ble_eq_true rfl) ⟨Nat.zero_le _, Nat.zero_le _⟩ dX8_straight_20 (ws' := [(o, .inr (7, [.ref o_w, g_kept, g_text, g_size, g_above, g_below, .int v_bads, g_noes, g_fulls, g_at, g_from, g_token, g_value, g_readFault, g_yet, g_fars, g_tells])), (o_w, .inl (y 0, 1960, .inl f_w))]) rfl (fun H locs hH => ?_)
      refine lv_goto (tgt := 30) K.x K.b dX8_straight_23 (by decide) ?_
      obtain rfl := Option.some.inj h
      exact Kj3 _ _ _ hH (lv_sub hl [] rfl)
def p_X8_far (v_bads : Int32) (f_w : (Nat → Int32)) (p1 : Int32) (p2 : Int32) (p3 : Int32) : Option (Int32 × Int32) :=
  z_bd (p_X8_isCrow f_w p1) fun r1 =>
  z_bd (α := Int32 × Int32) (if (r1 = 0) then
  (z_bd (p_X8_bad v_bads) fun r5 =>
  some (r5.1, r5.2)) else
  (z_bd (p_X8_isPlace f_w p2) fun r7 =>
  if (r7 = 0) then
  (z_bd (p_X8_bad v_bads) fun r10 =>
  some (r10.1, r10.2)) else
  (z_bd (p_X8_isPlace f_w p3) fun r12 =>
  if (r12 = 0) then
  (z_bd (p_X8_bad v_bads) fun r15 =>
  some (r15.1, r15.2)) else
  (z_bd (p_X8_farNow f_w p1 p2 p3) fun r17 =>
  some (r17, v_bads))))) fun j3 =>
  some (j3.1, j3.2)
theorem hd_X8_far : yX8_far.cls = RX8 ∧ yX8_far.cls ≠ "java/lang/invoke/MethodHandle" ∧ yX8_far.cls ≠ "java/lang/invoke/VarHandle" ∧ (parseMethodDescriptor yX8_far.desc).map (fun d => d.parameters.length) = some 3 := by decide +kernel
set_option maxHeartbeats 4000000 in
set_option maxRecDepth 100000 in
theorem c_X8_far (l : Launch) (D : va_G) (y : Nat → ClassId) (o o_w : Nat) (g_kept g_text g_size g_above g_below g_noes g_fulls g_at g_from g_token g_value g_readFault g_yet g_fars g_tells : Value) (v_bads : Int32) (f_w : (Nat → Int32)) (p1 : Int32) (p2 : Int32) (p3 : Int32) (r : Int32 × Int32) (h : p_X8_far v_bads f_w p1 p2 p3 = some r) : z_MI l yX8_far cX8_far 4 (some .int) 5 121 D y [.ref o, .int p1, .int p2, .int p3] [(o, .inr (7, [.ref o_w, g_kept, g_text, g_size, g_above, g_below, .int v_bads, g_noes, g_fulls, g_at, g_from, g_token, g_value, g_readFault, g_yet, g_fars, g_tells])), (o_w, .inl (y 0, 1960, .inl f_w))] r.1 [(o, .inr (7, [.ref o_w, g_kept, g_text, g_size, g_above, g_below, .int r.2, g_noes, g_fulls, g_at, g_from, g_token, g_value, g_readFault, g_yet, g_fars, g_tells])), (o_w, .inl (y 0, 1960, .inl f_w))] := by
  unfold p_X8_far at h
  refine z_enI (by decide) (Nat.le_of_ble_eq_true rfl) ?_
  intro p e s m args below meth c A ls hr K hH hl
  obtain ⟨Q, hQ⟩ : ∃ Q, Q = MQ below (z_Qi D y A r.1 [(o, .inr (7, [.ref o_w, g_kept, g_text, g_size, g_above, g_below, .int r.2, g_noes, g_fulls, g_at, g_from, g_token, g_value, g_readFault, g_yet, g_fars, g_tells])), (o_w, .inl (y 0, 1960, .inl f_w))]) args s 0 0 A := ⟨_, rfl⟩
  rw [← hQ]
  have hl : lv_has ls 4 [(0, .ref o), (1, .int p1), (2, .int p2), (3, .int p3)] := hl
  refine lv_aload_n K.x K.b dX8_far_0 rfl (lv_at hl 0 rfl) ?_
  refine lv_iload_n K.x K.b dX8_far_1 rfl (lv_at hl 1 rfl) ?_
  obtain ⟨r1, hr2, h⟩ := z_bd_e h
  refine z_Vi K hH hl.1 (c_X8_isCrow l D y o o_w (g_kept) (g_text) (g_size) (g_above) (g_below) (.int v_bads) (g_noes) (g_fulls) (g_at) (g_from) (g_token) (g_value) (g_readFault) (g_yet) (g_fars) (g_tells) f_w p1 r1 hr2) (z_cwV K 1 tw_5_64 tw_5_66 tw_0_65 tw_1_8 tw_5_67 hd_X8_isCrow ⟨by decide, by decide⟩) [0, 1] [] rfl (wr := []) rfl rfl rfl (by decide) rfl rfl rfl (As := [.int p1]) (rest := []) rfl (Nat.le_of_ble_eq_true rfl) ⟨Nat.zero_le _, Nat.zero_le _⟩ dX8_far_2 (ws' := [(o, .inr (7, [.ref o_w, g_kept, g_text, g_size, g_above, g_below, .int v_bads, g_noes, g_fulls, g_at, g_from, g_token, g_value, g_readFault, g_yet, g_fars, g_tells])), (o_w, .inl (y 0, 1960, .inl f_w))]) rfl (fun H locs hH => ?_)
  obtain ⟨j3, hj3, h⟩ := z_bd_e h
  have Kj3 : ∀ (H : Heap) (locs : List Loc) (ls : Array Slot), z_H D A s.heap [(o, .inr (7, [.ref o_w, g_kept, g_text, g_size, g_above, g_below, .int j3.2, g_noes, g_fulls, g_at, g_from, g_token, g_value, g_readFault, g_yet, g_fars, g_tells])), (o_w, .inl (y 0, 1960, .inl f_w))] H locs → lv_has ls 4 [] → W p l e (zR 5 121) s m args below meth c H locs 0 0 Q (F0 m 38 ls [.int j3.1]) := by
    intro H locs ls hH hl
    have hr9 := Option.some.inj h
    obtain rfl := hr9
    rw [hQ]
    exact z_reti K hr hH [0, 1] (by decide) rfl rfl rfl dX8_far_38
  replace h := hj3
  refine lv_if_eq (tgt := 34) K.x K.b dX8_far_5 (by decide) (fun c4 => ?_) (fun c4 => ?_)
  · replace h := z_t c4 h
    refine lv_aload_n K.x K.b dX8_far_34 rfl (lv_at hl 0 rfl) ?_
    obtain ⟨r5, hr6, h⟩ := z_bd_e h
    refine z_Vi K hH hl.1 (c_X8_bad l D y o (.ref o_w) (g_kept) (g_text) (g_size) (g_above) (g_below) (g_noes) (g_fulls) (g_at) (g_from) (g_token) (g_value) (g_readFault) (g_yet) (g_fars) (g_tells) v_bads r5 hr6) (z_cwV K 0 tw_4_163 tw_4_165 tw_0_37 tw_1_8 tw_4_166 hd_X8_bad ⟨by decide, by decide⟩) [0] [1] rfl (wr := [(o_w, .inl (y 0, 1960, .inl f_w))]) rfl rfl rfl (by decide) rfl rfl rfl (As := []) (rest := []) rfl (Nat.le_of_ble_eq_true rfl) ⟨Nat.zero_le _, Nat.zero_le _⟩ dX8_far_35 (ws' := [(o_w, .inl (y 0, 1960, .inl f_w)), (o, .inr (7, [.ref o_w, g_kept, g_text, g_size, g_above, g_below, .int r5.2, g_noes, g_fulls, g_at, g_from, g_token, g_value, g_readFault, g_yet, g_fars, g_tells]))]) rfl (fun H locs hH => ?_)
    obtain rfl := Option.some.inj h
    exact Kj3 _ _ _ (hH.sub [1, 0] (by decide) rfl) (lv_sub hl [] rfl)
  · replace h := z_f c4 h
    refine lv_aload_n K.x K.b dX8_far_8 rfl (lv_at hl 0 rfl) ?_
    refine lv_iload_n K.x K.b dX8_far_9 rfl (lv_at hl 2 rfl) ?_
    obtain ⟨r7, hr8, h⟩ := z_bd_e h
    refine z_Vi K hH hl.1 (c_X8_isPlace l D y o o_w (g_kept) (g_text) (g_size) (g_above) (g_below) (.int v_bads) (g_noes) (g_fulls) (g_at) (g_from) (g_token) (g_value) (g_readFault) (g_yet) (g_fars) (g_tells) f_w p2 r7 hr8) (z_cwV K 1 tw_4_179 tw_4_181 tw_0_40 tw_1_8 tw_4_182 hd_X8_isPlace ⟨by decide, by decide⟩) [0, 1] [] rfl (wr := []) rfl rfl rfl (by decide) rfl rfl rfl (As := [.int p2]) (rest := []) rfl (Nat.le_of_ble_eq_true rfl) ⟨Nat.zero_le _, Nat.zero_le _⟩ dX8_far_10 (ws' := [(o, .inr (7, [.ref o_w, g_kept, g_text, g_size, g_above, g_below, .int v_bads, g_noes, g_fulls, g_at, g_from, g_token, g_value, g_readFault, g_yet, g_fars, g_tells])), (o_w, .inl (y 0, 1960, .inl f_w))]) rfl (fun H locs hH => ?_)
    refine lv_if_eq (tgt := 34) K.x K.b dX8_far_13 (by decide) (fun c9 => ?_) (fun c9 => ?_)
    · replace h := z_t c9 h
      refine lv_aload_n K.x K.b dX8_far_34 rfl (lv_at hl 0 rfl) ?_
      obtain ⟨r10, hr11, h⟩ := z_bd_e h
      refine z_Vi K hH hl.1 (c_X8_bad l D y o (.ref o_w) (g_kept) (g_text) (g_size) (g_above) (g_below) (g_noes) (g_fulls) (g_at) (g_from) (g_token) (g_value) (g_readFault) (g_yet) (g_fars) (g_tells) v_bads r10 hr11) (z_cwV K 0 tw_4_163 tw_4_165 tw_0_37 tw_1_8 tw_4_166 hd_X8_bad ⟨by decide, by decide⟩) [0] [1] rfl (wr := [(o_w, .inl (y 0, 1960, .inl f_w))]) rfl rfl rfl (by decide) rfl rfl rfl (As := []) (rest := []) rfl (Nat.le_of_ble_eq_true rfl) ⟨Nat.zero_le _, Nat.zero_le _⟩ dX8_far_35 (ws' := [(o_w, .inl (y 0, 1960, .inl f_w)), (o, .inr (7, [.ref o_w, g_kept, g_text, g_size, g_above, g_below, .int r10.2, g_noes, g_fulls, g_at, g_from, g_token, g_value, g_readFault, g_yet, g_fars, g_tells]))]) rfl (fun H locs hH => ?_)
      obtain rfl := Option.some.inj h
      exact Kj3 _ _ _ (hH.sub [1, 0] (by decide) rfl) (lv_sub hl [] rfl)
    · replace h := z_f c9 h
      refine lv_aload_n K.x K.b dX8_far_16 rfl (lv_at hl 0 rfl) ?_
      refine lv_iload_n K.x K.b dX8_far_17 rfl (lv_at hl 3 rfl) ?_
      obtain ⟨r12, hr13, h⟩ := z_bd_e h
      refine z_Vi K hH hl.1 (c_X8_isPlace l D y o o_w (g_kept) (g_text) (g_size) (g_above) (g_below) (.int v_bads) (g_noes) (g_fulls) (g_at) (g_from) (g_token) (g_value) (g_readFault) (g_yet) (g_fars) (g_tells) f_w p3 r12 hr13) (z_cwV K 1 tw_4_179 tw_4_181 tw_0_40 tw_1_8 tw_4_182 hd_X8_isPlace ⟨by decide, by decide⟩) [0, 1] [] rfl (wr := []) rfl rfl rfl (by decide) rfl rfl rfl (As := [.int p3]) (rest := []) rfl (Nat.le_of_ble_eq_true rfl) ⟨Nat.zero_le _, Nat.zero_le _⟩ dX8_far_18 (ws' := [(o, .inr (7, [.ref o_w, g_kept, g_text, g_size, g_above, g_below, .int v_bads, g_noes, g_fulls, g_at, g_from, g_token, g_value, g_readFault, g_yet, g_fars, g_tells])), (o_w, .inl (y 0, 1960, .inl f_w))]) rfl (fun H locs hH => ?_)
      refine lv_if_eq (tgt := 34) K.x K.b dX8_far_21 (by decide) (fun c14 => ?_) (fun c14 => ?_)
      · replace h := z_t c14 h
        refine lv_aload_n K.x K.b dX8_far_34 rfl (lv_at hl 0 rfl) ?_
        obtain ⟨r15, hr16, h⟩ := z_bd_e h
        refine z_Vi K hH hl.1 (c_X8_bad l D y o (.ref o_w) (g_kept) (g_text) (g_size) (g_above) (g_below) (g_noes) (g_fulls) (g_at) (g_from) (g_token) (g_value) (g_readFault) (g_yet) (g_fars) (g_tells) v_bads r15 hr16) (z_cwV K 0 tw_4_163 tw_4_165 tw_0_37 tw_1_8 tw_4_166 hd_X8_bad ⟨by decide, by decide⟩) [0] [1] rfl (wr := [(o_w, .inl (y 0, 1960, .inl f_w))]) rfl rfl rfl (by decide) rfl rfl rfl (As := []) (rest := []) rfl (Nat.le_of_ble_eq_true rfl) ⟨Nat.zero_le _, Nat.zero_le _⟩ dX8_far_35 (ws' := [(o_w, .inl (y 0, 1960, .inl f_w)), (o, .inr (7, [.ref o_w, g_kept, g_text, g_size, g_above, g_below, .int r15.2, g_noes, g_fulls, g_at, g_from, g_token, g_value, g_readFault, g_yet, g_fars, g_tells]))]) rfl (fun H locs hH => ?_)
        obtain rfl := Option.some.inj h
        exact Kj3 _ _ _ (hH.sub [1, 0] (by decide) rfl) (lv_sub hl [] rfl)
      · replace h := z_f c14 h
        refine lv_aload_n K.x K.b dX8_far_24 rfl (lv_at hl 0 rfl) ?_
        refine lv_iload_n K.x K.b dX8_far_25 rfl (lv_at hl 1 rfl) ?_
        refine lv_iload_n K.x K.b dX8_far_26 rfl (lv_at hl 2 rfl) ?_
        refine lv_iload_n K.x K.b dX8_far_27 rfl (lv_at hl 3 rfl) ?_
        obtain ⟨r17, hr18, h⟩ := z_bd_e h
        refine z_Vi K hH hl.1 (c_X8_farNow l D y o o_w (g_kept) (g_text) (g_size) (g_above) (g_below) (.int v_bads) (g_noes) (g_fulls) (g_at) (g_from) (g_token) (g_value) (g_readFault) (g_yet) (g_fars) (g_tells) f_w p1 p2 p3 r17 hr18) (z_cwV K 3 tw_5_104 tw_5_106 tw_0_68 tw_1_8 tw_5_107 hd_X8_farNow ⟨by decide, by decide⟩) [0, 1] [] rfl (wr := []) rfl rfl rfl (by decide) rfl rfl rfl (As := [.int p1, .int p2, .int p3]) (rest := []) rfl (Nat.le_of_ble_eq_true rfl) ⟨Nat.zero_le _, Nat.zero_le _⟩ dX8_far_28 (ws' := [(o, .inr (7, [.ref o_w, g_kept, g_text, g_size, g_above, g_below, .int v_bads, g_noes, g_fulls, g_at, g_from, g_token, g_value, g_readFault, g_yet, g_fars, g_tells])), (o_w, .inl (y 0, 1960, .inl f_w))]) rfl (fun H locs hH => ?_)
        refine lv_goto (tgt := 38) K.x K.b dX8_far_31 (by decide) ?_
        obtain rfl := Option.some.inj h
        exact Kj3 _ _ _ hH (lv_sub hl [] rfl)
noncomputable def p_X8_layFars (f_w : (Nat → Int32)) (f_fars : (Nat → Int32)) (p1 : Int32) : Option ((Nat → Int32)) :=
  z_bd (z_lp (S := Int32 × (Nat → Int32)) (E := (Nat → Int32)) (fun s1 =>
  if ((f_w 418) ≤ s1.1) then
  (some (.inr s1.2)) else
  (z_bd (z_lp (S := Int32 × (Nat → Int32)) (E := (Nat → Int32)) (fun s5 =>
  if ((f_w 418) ≤ s5.1) then
  (some (.inr s5.2)) else
  (z_bd (p_X8_farNow f_w p1 s1.1 s5.1) fun r10 =>
  z_lt ((((7 : Int32) * s1.1) + s5.1)) fun x12 =>
  z_gd (z_in x12 49) <|
  z_lt ((upd s5.2 x12.toNatClampNeg r10)) fun a14 =>
  z_lt (s5.1 + (1 : Int32)) fun x15 =>
  some (.inl (x15, a14)))) ((0 : Int32), s1.2)) fun e6 =>
  z_lt (s1.1 + (1 : Int32)) fun x7 =>
  some (.inl (x7, e6)))) ((0 : Int32), f_fars)) fun e2 =>
  some e2
theorem hd_X8_layFars : yX8_layFars.cls = RX8 ∧ yX8_layFars.cls ≠ "java/lang/invoke/MethodHandle" ∧ yX8_layFars.cls ≠ "java/lang/invoke/VarHandle" ∧ (parseMethodDescriptor yX8_layFars.desc).map (fun d => d.parameters.length) = some 1 := by decide +kernel
set_option maxHeartbeats 4000000 in
set_option maxRecDepth 100000 in
theorem c_X8_layFars (l : Launch) (D : va_G) (y : Nat → ClassId) (o o_w o_fars : Nat) (g_kept g_text g_size g_above g_below g_bads g_noes g_fulls g_at g_from g_token g_value g_readFault g_yet g_tells : Value) (f_w : (Nat → Int32)) (f_fars : (Nat → Int32)) (p1 : Int32) (r : (Nat → Int32)) (h : p_X8_layFars f_w f_fars p1 = some r) : z_MV l yX8_layFars cX8_layFars 4 none 5 121 D y [.ref o, .int p1] [(o, .inr (7, [.ref o_w, g_kept, g_text, g_size, g_above, g_below, g_bads, g_noes, g_fulls, g_at, g_from, g_token, g_value, g_readFault, g_yet, .ref o_fars, g_tells])), (o_w, .inl (y 0, 1960, .inl f_w)), (o_fars, .inl (y 0, 49, .inl f_fars))] [(o, .inr (7, [.ref o_w, g_kept, g_text, g_size, g_above, g_below, g_bads, g_noes, g_fulls, g_at, g_from, g_token, g_value, g_readFault, g_yet, .ref o_fars, g_tells])), (o_w, .inl (y 0, 1960, .inl f_w)), (o_fars, .inl (y 0, 49, .inl r))] := by
  unfold p_X8_layFars at h
  refine z_enV (by decide) (Nat.le_of_ble_eq_true rfl) ?_
  intro p e s m args below meth c A ls hr K hH hl
  obtain ⟨Q, hQ⟩ : ∃ Q, Q = MQ below (z_Qv D y A [(o, .inr (7, [.ref o_w, g_kept, g_text, g_size, g_above, g_below, g_bads, g_noes, g_fulls, g_at, g_from, g_token, g_value, g_readFault, g_yet, .ref o_fars, g_tells])), (o_w, .inl (y 0, 1960, .inl f_w)), (o_fars, .inl (y 0, 49, .inl r))]) args s 0 0 A := ⟨_, rfl⟩
  rw [← hQ]
  have hl : lv_has ls 4 [(0, .ref o), (1, .int p1)] := hl
  refine lv_iconst (v := (0)) K.x K.b dX8_layFars_0 (by decide) ?_
  refine lv_istore_n (lv' := [(2, .int (0 : Int32)), (0, .ref o), (1, .int p1)]) K.x K.b dX8_layFars_1 rfl hl (by decide) rfl (fun ls hl => ?_)
  obtain ⟨e2, hlpe2, h⟩ := z_bd_e h
  have KEe2 : ∀ (H : Heap) (locs : List Loc) (ls : Array Slot), z_H D A s.heap [(o, .inr (7, [.ref o_w, g_kept, g_text, g_size, g_above, g_below, g_bads, g_noes, g_fulls, g_at, g_from, g_token, g_value, g_readFault, g_yet, .ref o_fars, g_tells])), (o_w, .inl (y 0, 1960, .inl f_w)), (o_fars, .inl (y 0, 49, .inl e2))] H locs → lv_has ls 4 [] → W p l e (zR 5 121) s m args below meth c H locs 0 0 Q (F0 m 58 ls []) := by
    intro H locs ls hH hl
    have hr9 := Option.some.inj h
    obtain rfl := hr9
    rw [hQ]
    exact z_retv K hr hH [0, 1, 2] (by decide) rfl dX8_layFars_58
  refine z_lp_ind (P := fun (s1 : Int32 × (Nat → Int32)) => ∀ (H : Heap) (locs : List Loc) (ls : Array Slot), z_H D A s.heap [(o, .inr (7, [.ref o_w, g_kept, g_text, g_size, g_above, g_below, g_bads, g_noes, g_fulls, g_at, g_from, g_token, g_value, g_readFault, g_yet, .ref o_fars, g_tells])), (o_w, .inl (y 0, 1960, .inl f_w)), (o_fars, .inl (y 0, 49, .inl s1.2))] H locs → lv_has ls 4 [(0, .ref o), (1, .int p1), (2, .int s1.1)] → W p l e (zR 5 121) s m args below meth c H locs 0 0 Q (F0 m 2 ls [])) ?_ _ hlpe2 _ _ _ hH (lv_sub hl [1, 2, 0] rfl)
  clear h hlpe2
  intro s1 x3 h ihe2 hee2 H locs ls hH hl
  refine lv_iload_n K.x K.b dX8_layFars_2 rfl (lv_at hl 2 rfl) ?_
  refine lv_aload_n K.x K.b dX8_layFars_3 rfl (lv_at hl 0 rfl) ?_
  refine z_get K hH 0 rfl zin_8 rfl 0 (by decide) tw_4_96 (v := .ref o_w) rfl dX8_layFars_4 ?_
  refine lv_sipush (v := (418)) K.x K.b dX8_layFars_7 (by decide) ?_
  refine z_iald K hH 1 (k := 418) rfl (by decide) rfl dX8_layFars_10 ?_
  refine lv_icmp_ge (tgt := 58) K.x K.b dX8_layFars_11 (by decide) (fun c4 => ?_) (fun c4 => ?_)
  · replace h := z_t c4 h
    obtain rfl := hee2 _ (Option.some.inj h).symm
    exact KEe2 _ _ _ hH (lv_sub hl [] rfl)
  · replace h := z_f c4 h
    refine lv_iconst (v := (0)) K.x K.b dX8_layFars_14 (by decide) ?_
    refine lv_istore_n (lv' := [(3, .int (0 : Int32)), (0, .ref o), (1, .int p1), (2, .int s1.1)]) K.x K.b dX8_layFars_15 rfl hl (by decide) rfl (fun ls hl => ?_)
    obtain ⟨e6, hlpe6, h⟩ := z_bd_e h
    have KEe6 : ∀ (H : Heap) (locs : List Loc) (ls : Array Slot), z_H D A s.heap [(o, .inr (7, [.ref o_w, g_kept, g_text, g_size, g_above, g_below, g_bads, g_noes, g_fulls, g_at, g_from, g_token, g_value, g_readFault, g_yet, .ref o_fars, g_tells])), (o_w, .inl (y 0, 1960, .inl f_w)), (o_fars, .inl (y 0, 49, .inl e6))] H locs → lv_has ls 4 [(0, .ref o), (1, .int p1), (2, .int s1.1)] → W p l e (zR 5 121) s m args below meth c H locs 0 0 Q (F0 m 52 ls []) := by
      intro H locs ls hH hl
      obtain ⟨x7, ex7, h⟩ := z_lt_e h
      refine lv_iinc (v := x7) (lv' := [(2, .int x7), (0, .ref o), (1, .int p1)]) K.x K.b dX8_layFars_52 hl (k := 2) rfl (by rw [ex7]; rfl) (by decide) rfl (fun ls hl => ?_)
      refine lv_goto (tgt := 2) K.x K.b dX8_layFars_55 (by decide) ?_
      exact ihe2 _ (Option.some.inj h).symm _ _ _ hH (lv_sub hl [1, 2, 0] rfl)
    refine z_lp_ind (P := fun (s5 : Int32 × (Nat → Int32)) => ∀ (H : Heap) (locs : List Loc) (ls : Array Slot), z_H D A s.heap [(o, .inr (7, [.ref o_w, g_kept, g_text, g_size, g_above, g_below, g_bads, g_noes, g_fulls, g_at, g_from, g_token, g_value, g_readFault, g_yet, .ref o_fars, g_tells])), (o_w, .inl (y 0, 1960, .inl f_w)), (o_fars, .inl (y 0, 49, .inl s5.2))] H locs → lv_has ls 4 [(0, .ref o), (1, .int p1), (2, .int s1.1), (3, .int s5.1)] → W p l e (zR 5 121) s m args below meth c H locs 0 0 Q (F0 m 16 ls [])) ?_ _ hlpe6 _ _ _ hH (lv_sub hl [1, 2, 3, 0] rfl)
    clear h hlpe6
    intro s5 x8 h ihe6 hee6 H locs ls hH hl
    refine lv_iload_n K.x K.b dX8_layFars_16 rfl (lv_at hl 3 rfl) ?_
    refine lv_aload_n K.x K.b dX8_layFars_17 rfl (lv_at hl 0 rfl) ?_
    refine z_get K hH 0 rfl zin_8 rfl 0 (by decide) tw_4_96 (v := .ref o_w) rfl dX8_layFars_18 ?_
    refine lv_sipush (v := (418)) K.x K.b dX8_layFars_21 (by decide) ?_
    refine z_iald K hH 1 (k := 418) rfl (by decide) rfl dX8_layFars_24 ?_
    refine lv_icmp_ge (tgt := 52) K.x K.b dX8_layFars_25 (by decide) (fun c9 => ?_) (fun c9 => ?_)
    · replace h := z_t c9 h
      obtain rfl := hee6 _ (Option.some.inj h).symm
      exact KEe6 _ _ _ hH (lv_sub hl [0, 1, 2] rfl)
    · replace h := z_f c9 h
      refine lv_aload_n K.x K.b dX8_layFars_28 rfl (lv_at hl 0 rfl) ?_
      refine z_get K hH 0 rfl zin_8 rfl 15 (by decide) tw_4_111 (v := .ref o_fars) rfl dX8_layFars_29 ?_
      refine lv_bipush (v := (7)) K.x K.b dX8_layFars_32 (by decide) ?_
      refine lv_iload_n K.x K.b dX8_layFars_34 rfl (lv_at hl 2 rfl) ?_
      refine lv_imul K.x K.b dX8_layFars_35 ?_
      refine lv_iload_n K.x K.b dX8_layFars_36 rfl (lv_at hl 3 rfl) ?_
      refine lv_iadd K.x K.b dX8_layFars_37 ?_
      refine lv_aload_n K.x K.b dX8_layFars_38 rfl (lv_at hl 0 rfl) ?_
      refine lv_iload_n K.x K.b dX8_layFars_39 rfl (lv_at hl 1 rfl) ?_
      refine lv_iload_n K.x K.b dX8_layFars_40 rfl (lv_at hl 2 rfl) ?_
      refine lv_iload_n K.x K.b dX8_layFars_41 rfl (lv_at hl 3 rfl) ?_
      obtain ⟨r10, hr11, h⟩ := z_bd_e h
      refine z_Vi K hH hl.1 (c_X8_farNow l D y o o_w (g_kept) (g_text) (g_size) (g_above) (g_below) (g_bads) (g_noes) (g_fulls) (g_at) (g_from) (g_token) (g_value) (g_readFault) (g_yet) (.ref o_fars) (g_tells) f_w p1 s1.1 s5.1 r10 hr11) (z_cwV K 3 tw_5_104 tw_5_106 tw_0_68 tw_1_8 tw_5_107 hd_X8_farNow ⟨by decide, by decide⟩) [0, 1] [2] rfl (wr := [(o_fars, .inl (y 0, 49, .inl s5.2))]) rfl rfl rfl (by decide) rfl rfl rfl (As := [.int p1, .int s1.1, .int s5.1]) (rest := [.int (((7 : Int32) * s1.1) + s5.1), .ref o_fars]) rfl (Nat.le_of_ble_eq_true rfl) ⟨Nat.zero_le _, Nat.zero_le _⟩ dX8_layFars_42 (ws' := [(o_fars, .inl (y 0, 49, .inl s5.2)), (o, .inr (7, [.ref o_w, g_kept, g_text, g_size, g_above, g_below, g_bads, g_noes, g_fulls, g_at, g_from, g_token, g_value, g_readFault, g_yet, .ref o_fars, g_tells])), (o_w, .inl (y 0, 1960, .inl f_w))]) rfl (fun H locs hH => ?_)
      obtain ⟨x12, ex12, h⟩ := z_lt_e h
      refine z_nm2 ex12 ?_
      obtain ⟨g13, h⟩ := z_gd_e h
      obtain ⟨a14, ea14, h⟩ := z_lt_e h
      refine z_iast K hH 0 (k := x12.toNatClampNeg) (ws' := [(o_fars, .inl (y 0, 49, .inl a14)), (o, .inr (7, [.ref o_w, g_kept, g_text, g_size, g_above, g_below, g_bads, g_noes, g_fulls, g_at, g_from, g_token, g_value, g_readFault, g_yet, .ref o_fars, g_tells])), (o_w, .inl (y 0, 1960, .inl f_w))]) rfl g13 rfl dX8_layFars_45 (by rw [ea14]; rfl) (fun H locs hH => ?_)
      obtain ⟨x15, ex15, h⟩ := z_lt_e h
      refine lv_iinc (v := x15) (lv' := [(3, .int x15), (0, .ref o), (1, .int p1), (2, .int s1.1)]) K.x K.b dX8_layFars_46 hl (k := 3) rfl (by rw [ex15]; rfl) (by decide) rfl (fun ls hl => ?_)
      refine lv_goto (tgt := 16) K.x K.b dX8_layFars_49 (by decide) ?_
      exact ihe6 _ (Option.some.inj h).symm _ _ _ (hH.sub [1, 2, 0] (by decide) rfl) (lv_sub hl [1, 2, 3, 0] rfl)
def p_X8_partTo (f_yet : (Nat → Int32)) (f_fars : (Nat → Int32)) (p1 : Int32) (p2 : Int32) (p3 : Int32) : Option (Int32) :=
  z_lt ((((7 : Int32) * p2) + p3)) fun x1 =>
  z_gd (z_in x1 49) <|
  z_lt ((((7 : Int32) * (p1 ||| ((1 : Int32) <<< (p3 &&& 31)))) + p3)) fun x3 =>
  z_gd (z_in x3 896) <|
  some ((((16 : Int32) * (f_fars x1.toNatClampNeg)) + (1 : Int32)) + (f_yet x3.toNatClampNeg))
theorem hd_X8_partTo : yX8_partTo.cls = RX8 ∧ yX8_partTo.cls ≠ "java/lang/invoke/MethodHandle" ∧ yX8_partTo.cls ≠ "java/lang/invoke/VarHandle" ∧ (parseMethodDescriptor yX8_partTo.desc).map (fun d => d.parameters.length) = some 3 := by decide +kernel
set_option maxHeartbeats 4000000 in
set_option maxRecDepth 100000 in
theorem c_X8_partTo (l : Launch) (D : va_G) (y : Nat → ClassId) (o o_yet o_fars : Nat) (g_w g_kept g_text g_size g_above g_below g_bads g_noes g_fulls g_at g_from g_token g_value g_readFault g_tells : Value) (f_yet : (Nat → Int32)) (f_fars : (Nat → Int32)) (p1 : Int32) (p2 : Int32) (p3 : Int32) (r : Int32) (h : p_X8_partTo f_yet f_fars p1 p2 p3 = some r) : z_MI l yX8_partTo cX8_partTo 4 (some .int) 0 0 D y [.ref o, .int p1, .int p2, .int p3] [(o, .inr (7, [g_w, g_kept, g_text, g_size, g_above, g_below, g_bads, g_noes, g_fulls, g_at, g_from, g_token, g_value, g_readFault, .ref o_yet, .ref o_fars, g_tells])), (o_yet, .inl (y 0, 896, .inl f_yet)), (o_fars, .inl (y 0, 49, .inl f_fars))] r [(o, .inr (7, [g_w, g_kept, g_text, g_size, g_above, g_below, g_bads, g_noes, g_fulls, g_at, g_from, g_token, g_value, g_readFault, .ref o_yet, .ref o_fars, g_tells])), (o_yet, .inl (y 0, 896, .inl f_yet)), (o_fars, .inl (y 0, 49, .inl f_fars))] := by
  unfold p_X8_partTo at h
  refine z_enI (by decide) (Nat.le_of_ble_eq_true rfl) ?_
  intro p e s m args below meth c A ls hr K hH hl
  obtain ⟨Q, hQ⟩ : ∃ Q, Q = MQ below (z_Qi D y A r [(o, .inr (7, [g_w, g_kept, g_text, g_size, g_above, g_below, g_bads, g_noes, g_fulls, g_at, g_from, g_token, g_value, g_readFault, .ref o_yet, .ref o_fars, g_tells])), (o_yet, .inl (y 0, 896, .inl f_yet)), (o_fars, .inl (y 0, 49, .inl f_fars))]) args s 0 0 A := ⟨_, rfl⟩
  rw [← hQ]
  have hl : lv_has ls 4 [(0, .ref o), (1, .int p1), (2, .int p2), (3, .int p3)] := hl
  refine lv_bipush (v := (16)) K.x K.b dX8_partTo_0 (by decide) ?_
  refine lv_aload_n K.x K.b dX8_partTo_2 rfl (lv_at hl 0 rfl) ?_
  refine z_get K hH 0 rfl zin_8 rfl 15 (by decide) tw_4_111 (v := .ref o_fars) rfl dX8_partTo_3 ?_
  refine lv_bipush (v := (7)) K.x K.b dX8_partTo_6 (by decide) ?_
  refine lv_iload_n K.x K.b dX8_partTo_8 rfl (lv_at hl 2 rfl) ?_
  refine lv_imul K.x K.b dX8_partTo_9 ?_
  refine lv_iload_n K.x K.b dX8_partTo_10 rfl (lv_at hl 3 rfl) ?_
  refine lv_iadd K.x K.b dX8_partTo_11 ?_
  obtain ⟨x1, ex1, h⟩ := z_lt_e h
  refine z_nm ex1 ?_
  obtain ⟨g2, h⟩ := z_gd_e h
  refine z_iald K hH 2 (k := x1.toNatClampNeg) rfl g2 rfl dX8_partTo_12 ?_
  refine lv_imul K.x K.b dX8_partTo_13 ?_
  refine lv_iconst (v := (1)) K.x K.b dX8_partTo_14 (by decide) ?_
  refine lv_iadd K.x K.b dX8_partTo_15 ?_
  refine lv_aload_n K.x K.b dX8_partTo_16 rfl (lv_at hl 0 rfl) ?_
  refine z_get K hH 0 rfl zin_8 rfl 14 (by decide) tw_4_110 (v := .ref o_yet) rfl dX8_partTo_17 ?_
  refine lv_bipush (v := (7)) K.x K.b dX8_partTo_20 (by decide) ?_
  refine lv_iload_n K.x K.b dX8_partTo_22 rfl (lv_at hl 1 rfl) ?_
  refine lv_iconst (v := (1)) K.x K.b dX8_partTo_23 (by decide) ?_
  refine lv_iload_n K.x K.b dX8_partTo_24 rfl (lv_at hl 3 rfl) ?_
  refine lv_ishl K.x K.b dX8_partTo_25 ?_
  refine lv_ior K.x K.b dX8_partTo_26 ?_
  refine lv_imul K.x K.b dX8_partTo_27 ?_
  refine lv_iload_n K.x K.b dX8_partTo_28 rfl (lv_at hl 3 rfl) ?_
  refine lv_iadd K.x K.b dX8_partTo_29 ?_
  obtain ⟨x3, ex3, h⟩ := z_lt_e h
  refine z_nm ex3 ?_
  obtain ⟨g4, h⟩ := z_gd_e h
  refine z_iald K hH 1 (k := x3.toNatClampNeg) rfl g4 rfl dX8_partTo_30 ?_
  refine lv_iadd K.x K.b dX8_partTo_31 ?_
  have hr9 := Option.some.inj h
  obtain rfl := hr9
  rw [hQ]
  exact z_reti K hr hH [0, 1, 2] (by decide) rfl rfl rfl dX8_partTo_32
noncomputable def p_X8_leastFrom (f_w : (Nat → Int32)) (f_yet : (Nat → Int32)) (f_fars : (Nat → Int32)) (p1 : Int32) (p2 : Int32) (p3 : Int32) : Option (Int32) :=
  z_lt ((((1 : Int32) <<< ((f_w 418) &&& 31)) - (1 : Int32))) fun x1 =>
  if (p2 = p3) then
  (some (0 : Int32)) else
  (if (p3 = (-1 : Int32)) then
  (if (p1 = x1) then
  (z_lt (((7 : Int32) * p2)) fun x35 =>
  z_gd (z_in x35 49) <|
  some ((16 : Int32) * (f_fars x35.toNatClampNeg))) else
  (z_bd (z_lp (S := Int32 × Int32) (E := Int32) (fun s20 =>
  if ((f_w 418) ≤ s20.1) then
  (some (.inr s20.2)) else
  (z_bd (p_X8_has p1 s20.1) fun r24 =>
  z_bd (α := Int32) (if (r24 = 0) then
  (z_bd (p_X8_partTo f_yet f_fars p1 p2 s20.1) fun r29 =>
  z_bd (α := Int32) (if (s20.2 ≤ r29) then
  (some s20.2) else
  (z_bd (p_X8_partTo f_yet f_fars p1 p2 s20.1) fun r33 =>
  some r33)) fun j31 =>
  some j31) else
  (some s20.2)) fun j26 =>
  z_lt (s20.1 + (1 : Int32)) fun x27 =>
  some (.inl (x27, j26)))) ((0 : Int32), (99999999 : Int32))) fun e21 =>
  some e21)) else
  (z_bd (z_lp (S := Int32 × Int32) (E := Int32) (fun s4 =>
  if ((f_w 418) ≤ s4.1) then
  (some (.inr s4.2)) else
  (z_bd (p_X8_has p1 s4.1) fun r8 =>
  z_bd (α := Int32) (if (r8 = 0) then
  (z_bd (p_X8_partTo f_yet f_fars p1 p2 s4.1) fun r13 =>
  z_bd (α := Int32) (if (s4.2 ≤ r13) then
  (some s4.2) else
  (z_bd (p_X8_partTo f_yet f_fars p1 p2 s4.1) fun r17 =>
  some r17)) fun j15 =>
  some j15) else
  (some s4.2)) fun j10 =>
  z_lt (s4.1 + (1 : Int32)) fun x11 =>
  some (.inl (x11, j10)))) ((0 : Int32), (99999999 : Int32))) fun e5 =>
  some e5))
theorem hd_X8_leastFrom : yX8_leastFrom.cls = RX8 ∧ yX8_leastFrom.cls ≠ "java/lang/invoke/MethodHandle" ∧ yX8_leastFrom.cls ≠ "java/lang/invoke/VarHandle" ∧ (parseMethodDescriptor yX8_leastFrom.desc).map (fun d => d.parameters.length) = some 3 := by decide +kernel
set_option maxHeartbeats 4000000 in
set_option maxRecDepth 100000 in
theorem c_X8_leastFrom (l : Launch) (D : va_G) (y : Nat → ClassId) (o o_w o_yet o_fars : Nat) (g_kept g_text g_size g_above g_below g_bads g_noes g_fulls g_at g_from g_token g_value g_readFault g_tells : Value) (f_w : (Nat → Int32)) (f_yet : (Nat → Int32)) (f_fars : (Nat → Int32)) (p1 : Int32) (p2 : Int32) (p3 : Int32) (r : Int32) (h : p_X8_leastFrom f_w f_yet f_fars p1 p2 p3 = some r) : z_MI l yX8_leastFrom cX8_leastFrom 7 (some .int) 1 23 D y [.ref o, .int p1, .int p2, .int p3] [(o, .inr (7, [.ref o_w, g_kept, g_text, g_size, g_above, g_below, g_bads, g_noes, g_fulls, g_at, g_from, g_token, g_value, g_readFault, .ref o_yet, .ref o_fars, g_tells])), (o_w, .inl (y 0, 1960, .inl f_w)), (o_yet, .inl (y 0, 896, .inl f_yet)), (o_fars, .inl (y 0, 49, .inl f_fars))] r [(o, .inr (7, [.ref o_w, g_kept, g_text, g_size, g_above, g_below, g_bads, g_noes, g_fulls, g_at, g_from, g_token, g_value, g_readFault, .ref o_yet, .ref o_fars, g_tells])), (o_w, .inl (y 0, 1960, .inl f_w)), (o_yet, .inl (y 0, 896, .inl f_yet)), (o_fars, .inl (y 0, 49, .inl f_fars))] := by
  unfold p_X8_leastFrom at h
  refine z_enI (by decide) (Nat.le_of_ble_eq_true rfl) ?_
  intro p e s m args below meth c A ls hr K hH hl
  obtain ⟨Q, hQ⟩ : ∃ Q, Q = MQ below (z_Qi D y A r [(o, .inr (7, [.ref o_w, g_kept, g_text, g_size, g_above, g_below, g_bads, g_noes, g_fulls, g_at, g_from, g_token, g_value, g_readFault, .ref o_yet, .ref o_fars, g_tells])), (o_w, .inl (y 0, 1960, .inl f_w)), (o_yet, .inl (y 0, 896, .inl f_yet)), (o_fars, .inl (y 0, 49, .inl f_fars))]) args s 0 0 A := ⟨_, rfl⟩
  rw [← hQ]
  have hl : lv_has ls 7 [(0, .ref o), (1, .int p1), (2, .int p2), (3, .int p3)] := hl
  refine lv_iconst (v := (1)) K.x K.b dX8_leastFrom_0 (by decide) ?_
  refine lv_aload_n K.x K.b dX8_leastFrom_1 rfl (lv_at hl 0 rfl) ?_
  refine z_get K hH 0 rfl zin_8 rfl 0 (by decide) tw_4_96 (v := .ref o_w) rfl dX8_leastFrom_2 ?_
  refine lv_sipush (v := (418)) K.x K.b dX8_leastFrom_5 (by decide) ?_
  refine z_iald K hH 1 (k := 418) rfl (by decide) rfl dX8_leastFrom_8 ?_
  refine lv_ishl K.x K.b dX8_leastFrom_9 ?_
  refine lv_iconst (v := (1)) K.x K.b dX8_leastFrom_10 (by decide) ?_
  refine lv_isub K.x K.b dX8_leastFrom_11 ?_
  obtain ⟨x1, ex1, h⟩ := z_lt_e h
  refine z_nm ex1 ?_
  refine lv_istore (lv' := [(4, .int x1), (0, .ref o), (1, .int p1), (2, .int p2), (3, .int p3)]) K.x K.b dX8_leastFrom_12 hl (by decide) rfl (fun ls hl => ?_)
  refine lv_iload_n K.x K.b dX8_leastFrom_14 rfl (lv_at hl 3 rfl) ?_
  refine lv_iload_n K.x K.b dX8_leastFrom_15 rfl (lv_at hl 4 rfl) ?_
  refine lv_icmp_ne (tgt := 21) K.x K.b dX8_leastFrom_16 (by decide) (fun c2 => ?_) (fun c2 => ?_)
  · replace h := z_f c2 h
    refine lv_iload_n K.x K.b dX8_leastFrom_21 rfl (lv_at hl 4 rfl) ?_
    refine lv_iconst (v := (-1)) K.x K.b dX8_leastFrom_22 (by decide) ?_
    refine lv_icmp_ne (tgt := 45) K.x K.b dX8_leastFrom_23 (by decide) (fun c3 => ?_) (fun c3 => ?_)
    · replace h := z_f c3 h
      refine z_ldc K tw_5_131 dX8_leastFrom_45 ?_
      refine lv_istore (lv' := [(5, .int (99999999 : Int32)), (4, .int x1), (0, .ref o), (1, .int p1), (2, .int p2), (3, .int p3)]) K.x K.b dX8_leastFrom_47 hl (by decide) rfl (fun ls hl => ?_)
      refine lv_iconst (v := (0)) K.x K.b dX8_leastFrom_49 (by decide) ?_
      refine lv_istore (lv' := [(6, .int (0 : Int32)), (5, .int (99999999 : Int32)), (4, .int x1), (0, .ref o), (1, .int p1), (2, .int p2), (3, .int p3)]) K.x K.b dX8_leastFrom_50 hl (by decide) rfl (fun ls hl => ?_)
      obtain ⟨e5, hlpe5, h⟩ := z_bd_e h
      have KEe5 : ∀ (H : Heap) (locs : List Loc) (ls : Array Slot), z_H D A s.heap [(o, .inr (7, [.ref o_w, g_kept, g_text, g_size, g_above, g_below, g_bads, g_noes, g_fulls, g_at, g_from, g_token, g_value, g_readFault, .ref o_yet, .ref o_fars, g_tells])), (o_w, .inl (y 0, 1960, .inl f_w)), (o_yet, .inl (y 0, 896, .inl f_yet)), (o_fars, .inl (y 0, 49, .inl f_fars))] H locs → lv_has ls 7 [(5, .int e5)] → W p l e (zR 1 23) s m args below meth c H locs 0 0 Q (F0 m 108 ls []) := by
        intro H locs ls hH hl
        refine lv_iload K.x K.b dX8_leastFrom_108 (lv_at hl 0 rfl) ?_
        have hr9 := Option.some.inj h
        obtain rfl := hr9
        rw [hQ]
        exact z_reti K hr hH [0, 1, 2, 3] (by decide) rfl rfl rfl dX8_leastFrom_110
      refine z_lp_ind (P := fun (s4 : Int32 × Int32) => ∀ (H : Heap) (locs : List Loc) (ls : Array Slot), z_H D A s.heap [(o, .inr (7, [.ref o_w, g_kept, g_text, g_size, g_above, g_below, g_bads, g_noes, g_fulls, g_at, g_from, g_token, g_value, g_readFault, .ref o_yet, .ref o_fars, g_tells])), (o_w, .inl (y 0, 1960, .inl f_w)), (o_yet, .inl (y 0, 896, .inl f_yet)), (o_fars, .inl (y 0, 49, .inl f_fars))] H locs → lv_has ls 7 [(0, .ref o), (1, .int p1), (2, .int p2), (5, .int s4.2), (6, .int s4.1)] → W p l e (zR 1 23) s m args below meth c H locs 0 0 Q (F0 m 52 ls [])) ?_ _ hlpe5 _ _ _ hH (lv_sub hl [3, 4, 5, 1, 0] rfl)
      clear h hlpe5
      intro s4 x6 h ihe5 hee5 H locs ls hH hl
      refine lv_iload K.x K.b dX8_leastFrom_52 (lv_at hl 4 rfl) ?_
      refine lv_aload_n K.x K.b dX8_leastFrom_54 rfl (lv_at hl 0 rfl) ?_
      refine z_get K hH 0 rfl zin_8 rfl 0 (by decide) tw_4_96 (v := .ref o_w) rfl dX8_leastFrom_55 ?_
      refine lv_sipush (v := (418)) K.x K.b dX8_leastFrom_58 (by decide) ?_
      refine z_iald K hH 1 (k := 418) rfl (by decide) rfl dX8_leastFrom_61 ?_
      refine lv_icmp_ge (tgt := 108) K.x K.b dX8_leastFrom_62 (by decide) (fun c7 => ?_) (fun c7 => ?_)
      · replace h := z_t c7 h
        obtain rfl := hee5 _ (Option.some.inj h).symm
        exact KEe5 _ _ _ hH (lv_sub hl [3] rfl)
      · replace h := z_f c7 h
        refine lv_iload_n K.x K.b dX8_leastFrom_65 rfl (lv_at hl 1 rfl) ?_
        refine lv_iload K.x K.b dX8_leastFrom_66 (lv_at hl 4 rfl) ?_
        obtain ⟨r8, hr9, h⟩ := z_bd_e h
        refine z_Si K hH hl.1 (c_X8_has l D y p1 s4.1 r8 hr9) (z_cwS K 2 tw_5_124 tw_5_125 tw_1_8 tw_5_126 hd_X8_has ⟨by decide, by decide⟩) rfl (As := [.int p1, .int s4.1]) (rest := []) rfl (Nat.le_of_ble_eq_true rfl) ⟨Nat.zero_le _, Nat.zero_le _⟩ dX8_leastFrom_68 (fun H locs hH => ?_)
        obtain ⟨j10, hj10, h⟩ := z_bd_e h
        have Kj10 : ∀ (H : Heap) (locs : List Loc) (ls : Array Slot), z_H D A s.heap [(o, .inr (7, [.ref o_w, g_kept, g_text, g_size, g_above, g_below, g_bads, g_noes, g_fulls, g_at, g_from, g_token, g_value, g_readFault, .ref o_yet, .ref o_fars, g_tells])), (o_w, .inl (y 0, 1960, .inl f_w)), (o_yet, .inl (y 0, 896, .inl f_yet)), (o_fars, .inl (y 0, 49, .inl f_fars))] H locs → lv_has ls 7 [(0, .ref o), (1, .int p1), (2, .int p2), (5, .int j10), (6, .int s4.1)] → W p l e (zR 1 23) s m args below meth c H locs 0 0 Q (F0 m 102 ls []) := by
          intro H locs ls hH hl
          obtain ⟨x11, ex11, h⟩ := z_lt_e h
          refine lv_iinc (v := x11) (lv' := [(6, .int x11), (0, .ref o), (1, .int p1), (2, .int p2), (5, .int j10)]) K.x K.b dX8_leastFrom_102 hl (k := 4) rfl (by rw [ex11]; rfl) (by decide) rfl (fun ls hl => ?_)
          refine lv_goto (tgt := 52) K.x K.b dX8_leastFrom_105 (by decide) ?_
          exact ihe5 _ (Option.some.inj h).symm _ _ _ hH (lv_sub hl [1, 2, 3, 4, 0] rfl)
        replace h := hj10
        refine lv_if_ne (tgt := 102) K.x K.b dX8_leastFrom_71 (by decide) (fun c12 => ?_) (fun c12 => ?_)
        · replace h := z_f c12 h
          obtain rfl := Option.some.inj h
          exact Kj10 _ _ _ hH (lv_sub hl [0, 1, 2, 3, 4] rfl)
        · replace h := z_t c12 h
          refine lv_aload_n K.x K.b dX8_leastFrom_74 rfl (lv_at hl 0 rfl) ?_
          refine lv_iload_n K.x K.b dX8_leastFrom_75 rfl (lv_at hl 1 rfl) ?_
          refine lv_iload_n K.x K.b dX8_leastFrom_76 rfl (lv_at hl 2 rfl) ?_
          refine lv_iload K.x K.b dX8_leastFrom_77 (lv_at hl 4 rfl) ?_
          obtain ⟨r13, hr14, h⟩ := z_bd_e h
          refine z_Vi K hH hl.1 (c_X8_partTo l D y o o_yet o_fars (.ref o_w) (g_kept) (g_text) (g_size) (g_above) (g_below) (g_bads) (g_noes) (g_fulls) (g_at) (g_from) (g_token) (g_value) (g_readFault) (g_tells) f_yet f_fars p1 p2 s4.1 r13 hr14) (z_cwV K 3 tw_5_132 tw_5_134 tw_0_73 tw_1_8 tw_5_135 hd_X8_partTo ⟨by decide, by decide⟩) [0, 2, 3] [1] rfl (wr := [(o_w, .inl (y 0, 1960, .inl f_w))]) rfl rfl rfl (by decide) rfl rfl rfl (As := [.int p1, .int p2, .int s4.1]) (rest := []) rfl (Nat.le_of_ble_eq_true rfl) ⟨Nat.zero_le _, Nat.zero_le _⟩ dX8_leastFrom_79 (ws' := [(o_w, .inl (y 0, 1960, .inl f_w)), (o, .inr (7, [.ref o_w, g_kept, g_text, g_size, g_above, g_below, g_bads, g_noes, g_fulls, g_at, g_from, g_token, g_value, g_readFault, .ref o_yet, .ref o_fars, g_tells])), (o_yet, .inl (y 0, 896, .inl f_yet)), (o_fars, .inl (y 0, 49, .inl f_fars))]) rfl (fun H locs hH => ?_)
          refine lv_iload K.x K.b dX8_leastFrom_82 (lv_at hl 3 rfl) ?_
          obtain ⟨j15, hj15, h⟩ := z_bd_e h
          have Kj15 : ∀ (H : Heap) (locs : List Loc) (ls : Array Slot), z_H D A s.heap [(o_w, .inl (y 0, 1960, .inl f_w)), (o, .inr (7, [.ref o_w, g_kept, g_text, g_size, g_above, g_below, g_bads, g_noes, g_fulls, g_at, g_from, g_token, g_value, g_readFault, .ref o_yet, .ref o_fars, g_tells])), (o_yet, .inl (y 0, 896, .inl f_yet)), (o_fars, .inl (y 0, 49, .inl f_fars))] H locs → lv_has ls 7 [(0, .ref o), (1, .int p1), (2, .int p2), (6, .int s4.1)] → W p l e (zR 1 23) s m args below meth c H locs 0 0 Q (F0 m 100 ls [.int j15]) := by
            intro H locs ls hH hl
            refine lv_istore (lv' := [(5, .int j15), (0, .ref o), (1, .int p1), (2, .int p2), (6, .int s4.1)]) K.x K.b dX8_leastFrom_100 hl (by decide) rfl (fun ls hl => ?_)
            obtain rfl := Option.some.inj h
            exact Kj10 _ _ _ (hH.sub [1, 0, 2, 3] (by decide) rfl) (lv_sub hl [1, 2, 3, 0, 4] rfl)
          replace h := hj15
          refine lv_icmp_ge (tgt := 98) K.x K.b dX8_leastFrom_84 (by decide) (fun c16 => ?_) (fun c16 => ?_)
          · replace h := z_t c16 h
            refine lv_iload K.x K.b dX8_leastFrom_98 (lv_at hl 3 rfl) ?_
            obtain rfl := Option.some.inj h
            exact Kj15 _ _ _ hH (lv_sub hl [0, 1, 2, 4] rfl)
          · replace h := z_f c16 h
            refine lv_aload_n K.x K.b dX8_leastFrom_87 rfl (lv_at hl 0 rfl) ?_
            refine lv_iload_n K.x K.b dX8_leastFrom_88 rfl (lv_at hl 1 rfl) ?_
            refine lv_iload_n K.x K.b dX8_leastFrom_89 rfl (lv_at hl 2 rfl) ?_
            refine lv_iload K.x K.b dX8_leastFrom_90 (lv_at hl 4 rfl) ?_
            obtain ⟨r17, hr18, h⟩ := z_bd_e h
            refine z_Vi K hH hl.1 (c_X8_partTo l D y o o_yet o_fars (.ref o_w) (g_kept) (g_text) (g_size) (g_above) (g_below) (g_bads) (g_noes) (g_fulls) (g_at) (g_from) (g_token) (g_value) (g_readFault) (g_tells) f_yet f_fars p1 p2 s4.1 r17 hr18) (z_cwV K 3 tw_5_132 tw_5_134 tw_0_73 tw_1_8 tw_5_135 hd_X8_partTo ⟨by decide, by decide⟩) [1, 2, 3] [0] rfl (wr := [(o_w, .inl (y 0, 1960, .inl f_w))]) rfl rfl rfl (by decide) rfl rfl rfl (As := [.int p1, .int p2, .int s4.1]) (rest := []) rfl (Nat.le_of_ble_eq_true rfl) ⟨Nat.zero_le _, Nat.zero_le _⟩ dX8_leastFrom_92 (ws' := [(o_w, .inl (y 0, 1960, .inl f_w)), (o, .inr (7, [.ref o_w, g_kept, g_text, g_size, g_above, g_below, g_bads, g_noes, g_fulls, g_at, g_from, g_token, g_value, g_readFault, .ref o_yet, .ref o_fars, g_tells])), (o_yet, .inl (y 0, 896, .inl f_yet)), (o_fars, .inl (y 0, 49, .inl f_fars))]) rfl (fun H locs hH => ?_)
            refine lv_goto (tgt := 100) K.x K.b dX8_leastFrom_95 (by decide) ?_
            obtain rfl := Option.some.inj h
            exact Kj15 _ _ _ hH (lv_sub hl [0, 1, 2, 4] rfl)
    · replace h := z_t c3 h
      refine lv_iload_n K.x K.b dX8_leastFrom_26 rfl (lv_at hl 2 rfl) ?_
      refine lv_iload K.x K.b dX8_leastFrom_27 (lv_at hl 0 rfl) ?_
      refine lv_icmp_ne (tgt := 45) K.x K.b dX8_leastFrom_29 (by decide) (fun c19 => ?_) (fun c19 => ?_)
      · replace h := z_f c19 h
        refine z_ldc K tw_5_131 dX8_leastFrom_45 ?_
        refine lv_istore (lv' := [(5, .int (99999999 : Int32)), (4, .int x1), (0, .ref o), (1, .int p1), (2, .int p2), (3, .int p3)]) K.x K.b dX8_leastFrom_47 hl (by decide) rfl (fun ls hl => ?_)
        refine lv_iconst (v := (0)) K.x K.b dX8_leastFrom_49 (by decide) ?_
        refine lv_istore (lv' := [(6, .int (0 : Int32)), (5, .int (99999999 : Int32)), (4, .int x1), (0, .ref o), (1, .int p1), (2, .int p2), (3, .int p3)]) K.x K.b dX8_leastFrom_50 hl (by decide) rfl (fun ls hl => ?_)
        obtain ⟨e21, hlpe21, h⟩ := z_bd_e h
        have KEe21 : ∀ (H : Heap) (locs : List Loc) (ls : Array Slot), z_H D A s.heap [(o, .inr (7, [.ref o_w, g_kept, g_text, g_size, g_above, g_below, g_bads, g_noes, g_fulls, g_at, g_from, g_token, g_value, g_readFault, .ref o_yet, .ref o_fars, g_tells])), (o_w, .inl (y 0, 1960, .inl f_w)), (o_yet, .inl (y 0, 896, .inl f_yet)), (o_fars, .inl (y 0, 49, .inl f_fars))] H locs → lv_has ls 7 [(5, .int e21)] → W p l e (zR 1 23) s m args below meth c H locs 0 0 Q (F0 m 108 ls []) := by
          intro H locs ls hH hl
          refine lv_iload K.x K.b dX8_leastFrom_108 (lv_at hl 0 rfl) ?_
          have hr9 := Option.some.inj h
          obtain rfl := hr9
          rw [hQ]
          exact z_reti K hr hH [0, 1, 2, 3] (by decide) rfl rfl rfl dX8_leastFrom_110
        refine z_lp_ind (P := fun (s20 : Int32 × Int32) => ∀ (H : Heap) (locs : List Loc) (ls : Array Slot), z_H D A s.heap [(o, .inr (7, [.ref o_w, g_kept, g_text, g_size, g_above, g_below, g_bads, g_noes, g_fulls, g_at, g_from, g_token, g_value, g_readFault, .ref o_yet, .ref o_fars, g_tells])), (o_w, .inl (y 0, 1960, .inl f_w)), (o_yet, .inl (y 0, 896, .inl f_yet)), (o_fars, .inl (y 0, 49, .inl f_fars))] H locs → lv_has ls 7 [(0, .ref o), (1, .int p1), (2, .int p2), (5, .int s20.2), (6, .int s20.1)] → W p l e (zR 1 23) s m args below meth c H locs 0 0 Q (F0 m 52 ls [])) ?_ _ hlpe21 _ _ _ hH (lv_sub hl [3, 4, 5, 1, 0] rfl)
        clear h hlpe21
        intro s20 x22 h ihe21 hee21 H locs ls hH hl
        refine lv_iload K.x K.b dX8_leastFrom_52 (lv_at hl 4 rfl) ?_
        refine lv_aload_n K.x K.b dX8_leastFrom_54 rfl (lv_at hl 0 rfl) ?_
        refine z_get K hH 0 rfl zin_8 rfl 0 (by decide) tw_4_96 (v := .ref o_w) rfl dX8_leastFrom_55 ?_
        refine lv_sipush (v := (418)) K.x K.b dX8_leastFrom_58 (by decide) ?_
        refine z_iald K hH 1 (k := 418) rfl (by decide) rfl dX8_leastFrom_61 ?_
        refine lv_icmp_ge (tgt := 108) K.x K.b dX8_leastFrom_62 (by decide) (fun c23 => ?_) (fun c23 => ?_)
        · replace h := z_t c23 h
          obtain rfl := hee21 _ (Option.some.inj h).symm
          exact KEe21 _ _ _ hH (lv_sub hl [3] rfl)
        · replace h := z_f c23 h
          refine lv_iload_n K.x K.b dX8_leastFrom_65 rfl (lv_at hl 1 rfl) ?_
          refine lv_iload K.x K.b dX8_leastFrom_66 (lv_at hl 4 rfl) ?_
          obtain ⟨r24, hr25, h⟩ := z_bd_e h
          refine z_Si K hH hl.1 (c_X8_has l D y p1 s20.1 r24 hr25) (z_cwS K 2 tw_5_124 tw_5_125 tw_1_8 tw_5_126 hd_X8_has ⟨by decide, by decide⟩) rfl (As := [.int p1, .int s20.1]) (rest := []) rfl (Nat.le_of_ble_eq_true rfl) ⟨Nat.zero_le _, Nat.zero_le _⟩ dX8_leastFrom_68 (fun H locs hH => ?_)
          obtain ⟨j26, hj26, h⟩ := z_bd_e h
          have Kj26 : ∀ (H : Heap) (locs : List Loc) (ls : Array Slot), z_H D A s.heap [(o, .inr (7, [.ref o_w, g_kept, g_text, g_size, g_above, g_below, g_bads, g_noes, g_fulls, g_at, g_from, g_token, g_value, g_readFault, .ref o_yet, .ref o_fars, g_tells])), (o_w, .inl (y 0, 1960, .inl f_w)), (o_yet, .inl (y 0, 896, .inl f_yet)), (o_fars, .inl (y 0, 49, .inl f_fars))] H locs → lv_has ls 7 [(0, .ref o), (1, .int p1), (2, .int p2), (5, .int j26), (6, .int s20.1)] → W p l e (zR 1 23) s m args below meth c H locs 0 0 Q (F0 m 102 ls []) := by
            intro H locs ls hH hl
            obtain ⟨x27, ex27, h⟩ := z_lt_e h
            refine lv_iinc (v := x27) (lv' := [(6, .int x27), (0, .ref o), (1, .int p1), (2, .int p2), (5, .int j26)]) K.x K.b dX8_leastFrom_102 hl (k := 4) rfl (by rw [ex27]; rfl) (by decide) rfl (fun ls hl => ?_)
            refine lv_goto (tgt := 52) K.x K.b dX8_leastFrom_105 (by decide) ?_
            exact ihe21 _ (Option.some.inj h).symm _ _ _ hH (lv_sub hl [1, 2, 3, 4, 0] rfl)
          replace h := hj26
          refine lv_if_ne (tgt := 102) K.x K.b dX8_leastFrom_71 (by decide) (fun c28 => ?_) (fun c28 => ?_)
          · replace h := z_f c28 h
            obtain rfl := Option.some.inj h
            exact Kj26 _ _ _ hH (lv_sub hl [0, 1, 2, 3, 4] rfl)
          · replace h := z_t c28 h
            refine lv_aload_n K.x K.b dX8_leastFrom_74 rfl (lv_at hl 0 rfl) ?_
            refine lv_iload_n K.x K.b dX8_leastFrom_75 rfl (lv_at hl 1 rfl) ?_
            refine lv_iload_n K.x K.b dX8_leastFrom_76 rfl (lv_at hl 2 rfl) ?_
            refine lv_iload K.x K.b dX8_leastFrom_77 (lv_at hl 4 rfl) ?_
            obtain ⟨r29, hr30, h⟩ := z_bd_e h
            refine z_Vi K hH hl.1 (c_X8_partTo l D y o o_yet o_fars (.ref o_w) (g_kept) (g_text) (g_size) (g_above) (g_below) (g_bads) (g_noes) (g_fulls) (g_at) (g_from) (g_token) (g_value) (g_readFault) (g_tells) f_yet f_fars p1 p2 s20.1 r29 hr30) (z_cwV K 3 tw_5_132 tw_5_134 tw_0_73 tw_1_8 tw_5_135 hd_X8_partTo ⟨by decide, by decide⟩) [0, 2, 3] [1] rfl (wr := [(o_w, .inl (y 0, 1960, .inl f_w))]) rfl rfl rfl (by decide) rfl rfl rfl (As := [.int p1, .int p2, .int s20.1]) (rest := []) rfl (Nat.le_of_ble_eq_true rfl) ⟨Nat.zero_le _, Nat.zero_le _⟩ dX8_leastFrom_79 (ws' := [(o_w, .inl (y 0, 1960, .inl f_w)), (o, .inr (7, [.ref o_w, g_kept, g_text, g_size, g_above, g_below, g_bads, g_noes, g_fulls, g_at, g_from, g_token, g_value, g_readFault, .ref o_yet, .ref o_fars, g_tells])), (o_yet, .inl (y 0, 896, .inl f_yet)), (o_fars, .inl (y 0, 49, .inl f_fars))]) rfl (fun H locs hH => ?_)
            refine lv_iload K.x K.b dX8_leastFrom_82 (lv_at hl 3 rfl) ?_
            obtain ⟨j31, hj31, h⟩ := z_bd_e h
            have Kj31 : ∀ (H : Heap) (locs : List Loc) (ls : Array Slot), z_H D A s.heap [(o_w, .inl (y 0, 1960, .inl f_w)), (o, .inr (7, [.ref o_w, g_kept, g_text, g_size, g_above, g_below, g_bads, g_noes, g_fulls, g_at, g_from, g_token, g_value, g_readFault, .ref o_yet, .ref o_fars, g_tells])), (o_yet, .inl (y 0, 896, .inl f_yet)), (o_fars, .inl (y 0, 49, .inl f_fars))] H locs → lv_has ls 7 [(0, .ref o), (1, .int p1), (2, .int p2), (6, .int s20.1)] → W p l e (zR 1 23) s m args below meth c H locs 0 0 Q (F0 m 100 ls [.int j31]) := by
              intro H locs ls hH hl
              refine lv_istore (lv' := [(5, .int j31), (0, .ref o), (1, .int p1), (2, .int p2), (6, .int s20.1)]) K.x K.b dX8_leastFrom_100 hl (by decide) rfl (fun ls hl => ?_)
              obtain rfl := Option.some.inj h
              exact Kj26 _ _ _ (hH.sub [1, 0, 2, 3] (by decide) rfl) (lv_sub hl [1, 2, 3, 0, 4] rfl)
            replace h := hj31
            refine lv_icmp_ge (tgt := 98) K.x K.b dX8_leastFrom_84 (by decide) (fun c32 => ?_) (fun c32 => ?_)
            · replace h := z_t c32 h
              refine lv_iload K.x K.b dX8_leastFrom_98 (lv_at hl 3 rfl) ?_
              obtain rfl := Option.some.inj h
              exact Kj31 _ _ _ hH (lv_sub hl [0, 1, 2, 4] rfl)
            · replace h := z_f c32 h
              refine lv_aload_n K.x K.b dX8_leastFrom_87 rfl (lv_at hl 0 rfl) ?_
              refine lv_iload_n K.x K.b dX8_leastFrom_88 rfl (lv_at hl 1 rfl) ?_
              refine lv_iload_n K.x K.b dX8_leastFrom_89 rfl (lv_at hl 2 rfl) ?_
              refine lv_iload K.x K.b dX8_leastFrom_90 (lv_at hl 4 rfl) ?_
              obtain ⟨r33, hr34, h⟩ := z_bd_e h
              refine z_Vi K hH hl.1 (c_X8_partTo l D y o o_yet o_fars (.ref o_w) (g_kept) (g_text) (g_size) (g_above) (g_below) (g_bads) (g_noes) (g_fulls) (g_at) (g_from) (g_token) (g_value) (g_readFault) (g_tells) f_yet f_fars p1 p2 s20.1 r33 hr34) (z_cwV K 3 tw_5_132 tw_5_134 tw_0_73 tw_1_8 tw_5_135 hd_X8_partTo ⟨by decide, by decide⟩) [1, 2, 3] [0] rfl (wr := [(o_w, .inl (y 0, 1960, .inl f_w))]) rfl rfl rfl (by decide) rfl rfl rfl (As := [.int p1, .int p2, .int s20.1]) (rest := []) rfl (Nat.le_of_ble_eq_true rfl) ⟨Nat.zero_le _, Nat.zero_le _⟩ dX8_leastFrom_92 (ws' := [(o_w, .inl (y 0, 1960, .inl f_w)), (o, .inr (7, [.ref o_w, g_kept, g_text, g_size, g_above, g_below, g_bads, g_noes, g_fulls, g_at, g_from, g_token, g_value, g_readFault, .ref o_yet, .ref o_fars, g_tells])), (o_yet, .inl (y 0, 896, .inl f_yet)), (o_fars, .inl (y 0, 49, .inl f_fars))]) rfl (fun H locs hH => ?_)
              refine lv_goto (tgt := 100) K.x K.b dX8_leastFrom_95 (by decide) ?_
              obtain rfl := Option.some.inj h
              exact Kj31 _ _ _ hH (lv_sub hl [0, 1, 2, 4] rfl)
      · replace h := z_t c19 h
        refine lv_bipush (v := (16)) K.x K.b dX8_leastFrom_32 (by decide) ?_
        refine lv_aload_n K.x K.b dX8_leastFrom_34 rfl (lv_at hl 1 rfl) ?_
        refine z_get K hH 0 rfl zin_8 rfl 15 (by decide) tw_4_111 (v := .ref o_fars) rfl dX8_leastFrom_35 ?_
        refine lv_bipush (v := (7)) K.x K.b dX8_leastFrom_38 (by decide) ?_
        refine lv_iload_n K.x K.b dX8_leastFrom_40 rfl (lv_at hl 3 rfl) ?_
        refine lv_imul K.x K.b dX8_leastFrom_41 ?_
        obtain ⟨x35, ex35, h⟩ := z_lt_e h
        refine z_nm ex35 ?_
        obtain ⟨g36, h⟩ := z_gd_e h
        refine z_iald K hH 3 (k := x35.toNatClampNeg) rfl g36 rfl dX8_leastFrom_42 ?_
        refine lv_imul K.x K.b dX8_leastFrom_43 ?_
        have hr9 := Option.some.inj h
        obtain rfl := hr9
        rw [hQ]
        exact z_reti K hr hH [0, 1, 2, 3] (by decide) rfl rfl rfl dX8_leastFrom_44
  · replace h := z_t c2 h
    refine lv_iconst (v := (0)) K.x K.b dX8_leastFrom_19 (by decide) ?_
    have hr9 := Option.some.inj h
    obtain rfl := hr9
    rw [hQ]
    exact z_reti K hr hH [0, 1, 2, 3] (by decide) rfl rfl rfl dX8_leastFrom_20
noncomputable def p_X8_layYet (f_w : (Nat → Int32)) (f_yet : (Nat → Int32)) (f_fars : (Nat → Int32)) (p1 : Int32) : Option ((Nat → Int32)) :=
  z_lt ((((1 : Int32) <<< ((f_w 418) &&& 31)) - (1 : Int32))) fun x1 =>
  z_bd (z_lp (S := Int32 × (Nat → Int32)) (E := (Nat → Int32)) (fun s2 =>
  if (s2.1 ≤ 0) then
  (some (.inr s2.2)) else
  (z_bd (z_lp (S := Int32 × (Nat → Int32)) (E := (Nat → Int32)) (fun s6 =>
  if ((f_w 418) ≤ s6.1) then
  (some (.inr s6.2)) else
  (z_bd (p_X8_has s2.1 s6.1) fun r11 =>
  z_bd (α := Int32) (if (r11 = 0) then
  (some (99999999 : Int32)) else
  (z_bd (p_X8_leastFrom f_w s6.2 f_fars s2.1 s6.1 p1) fun r19 =>
  some r19)) fun j13 =>
  z_lt ((((7 : Int32) * s2.1) + s6.1)) fun x14 =>
  z_gd (z_in x14 896) <|
  z_lt ((upd s6.2 x14.toNatClampNeg j13)) fun a16 =>
  z_lt (s6.1 + (1 : Int32)) fun x17 =>
  some (.inl (x17, a16)))) ((0 : Int32), s2.2)) fun e7 =>
  z_lt (s2.1 + (-1 : Int32)) fun x8 =>
  some (.inl (x8, e7)))) (x1, f_yet)) fun e3 =>
  some e3
theorem hd_X8_layYet : yX8_layYet.cls = RX8 ∧ yX8_layYet.cls ≠ "java/lang/invoke/MethodHandle" ∧ yX8_layYet.cls ≠ "java/lang/invoke/VarHandle" ∧ (parseMethodDescriptor yX8_layYet.desc).map (fun d => d.parameters.length) = some 1 := by decide +kernel
set_option maxHeartbeats 4000000 in
set_option maxRecDepth 100000 in
theorem c_X8_layYet (l : Launch) (D : va_G) (y : Nat → ClassId) (o o_w o_yet o_fars : Nat) (g_kept g_text g_size g_above g_below g_bads g_noes g_fulls g_at g_from g_token g_value g_readFault g_tells : Value) (f_w : (Nat → Int32)) (f_yet : (Nat → Int32)) (f_fars : (Nat → Int32)) (p1 : Int32) (r : (Nat → Int32)) (h : p_X8_layYet f_w f_yet f_fars p1 = some r) : z_MV l yX8_layYet cX8_layYet 4 none 2 49 D y [.ref o, .int p1] [(o, .inr (7, [.ref o_w, g_kept, g_text, g_size, g_above, g_below, g_bads, g_noes, g_fulls, g_at, g_from, g_token, g_value, g_readFault, .ref o_yet, .ref o_fars, g_tells])), (o_w, .inl (y 0, 1960, .inl f_w)), (o_yet, .inl (y 0, 896, .inl f_yet)), (o_fars, .inl (y 0, 49, .inl f_fars))] [(o, .inr (7, [.ref o_w, g_kept, g_text, g_size, g_above, g_below, g_bads, g_noes, g_fulls, g_at, g_from, g_token, g_value, g_readFault, .ref o_yet, .ref o_fars, g_tells])), (o_w, .inl (y 0, 1960, .inl f_w)), (o_yet, .inl (y 0, 896, .inl r)), (o_fars, .inl (y 0, 49, .inl f_fars))] := by
  unfold p_X8_layYet at h
  refine z_enV (by decide) (Nat.le_of_ble_eq_true rfl) ?_
  intro p e s m args below meth c A ls hr K hH hl
  obtain ⟨Q, hQ⟩ : ∃ Q, Q = MQ below (z_Qv D y A [(o, .inr (7, [.ref o_w, g_kept, g_text, g_size, g_above, g_below, g_bads, g_noes, g_fulls, g_at, g_from, g_token, g_value, g_readFault, .ref o_yet, .ref o_fars, g_tells])), (o_w, .inl (y 0, 1960, .inl f_w)), (o_yet, .inl (y 0, 896, .inl r)), (o_fars, .inl (y 0, 49, .inl f_fars))]) args s 0 0 A := ⟨_, rfl⟩
  rw [← hQ]
  have hl : lv_has ls 4 [(0, .ref o), (1, .int p1)] := hl
  refine lv_iconst (v := (1)) K.x K.b dX8_layYet_0 (by decide) ?_
  refine lv_aload_n K.x K.b dX8_layYet_1 rfl (lv_at hl 0 rfl) ?_
  refine z_get K hH 0 rfl zin_8 rfl 0 (by decide) tw_4_96 (v := .ref o_w) rfl dX8_layYet_2 ?_
  refine lv_sipush (v := (418)) K.x K.b dX8_layYet_5 (by decide) ?_
  refine z_iald K hH 1 (k := 418) rfl (by decide) rfl dX8_layYet_8 ?_
  refine lv_ishl K.x K.b dX8_layYet_9 ?_
  refine lv_iconst (v := (1)) K.x K.b dX8_layYet_10 (by decide) ?_
  refine lv_isub K.x K.b dX8_layYet_11 ?_
  obtain ⟨x1, ex1, h⟩ := z_lt_e h
  refine z_nm ex1 ?_
  refine lv_istore_n (lv' := [(2, .int x1), (0, .ref o), (1, .int p1)]) K.x K.b dX8_layYet_12 rfl hl (by decide) rfl (fun ls hl => ?_)
  obtain ⟨e3, hlpe3, h⟩ := z_bd_e h
  have KEe3 : ∀ (H : Heap) (locs : List Loc) (ls : Array Slot), z_H D A s.heap [(o, .inr (7, [.ref o_w, g_kept, g_text, g_size, g_above, g_below, g_bads, g_noes, g_fulls, g_at, g_from, g_token, g_value, g_readFault, .ref o_yet, .ref o_fars, g_tells])), (o_w, .inl (y 0, 1960, .inl f_w)), (o_yet, .inl (y 0, 896, .inl e3)), (o_fars, .inl (y 0, 49, .inl f_fars))] H locs → lv_has ls 4 [] → W p l e (zR 2 49) s m args below meth c H locs 0 0 Q (F0 m 74 ls []) := by
    intro H locs ls hH hl
    have hr9 := Option.some.inj h
    obtain rfl := hr9
    rw [hQ]
    exact z_retv K hr hH [0, 1, 2, 3] (by decide) rfl dX8_layYet_74
  refine z_lp_ind (P := fun (s2 : Int32 × (Nat → Int32)) => ∀ (H : Heap) (locs : List Loc) (ls : Array Slot), z_H D A s.heap [(o, .inr (7, [.ref o_w, g_kept, g_text, g_size, g_above, g_below, g_bads, g_noes, g_fulls, g_at, g_from, g_token, g_value, g_readFault, .ref o_yet, .ref o_fars, g_tells])), (o_w, .inl (y 0, 1960, .inl f_w)), (o_yet, .inl (y 0, 896, .inl s2.2)), (o_fars, .inl (y 0, 49, .inl f_fars))] H locs → lv_has ls 4 [(0, .ref o), (1, .int p1), (2, .int s2.1)] → W p l e (zR 2 49) s m args below meth c H locs 0 0 Q (F0 m 13 ls [])) ?_ _ hlpe3 _ _ _ hH (lv_sub hl [1, 2, 0] rfl)
  clear h hlpe3
  intro s2 x4 h ihe3 hee3 H locs ls hH hl
  refine lv_iload_n K.x K.b dX8_layYet_13 rfl (lv_at hl 2 rfl) ?_
  refine lv_if_le (tgt := 74) K.x K.b dX8_layYet_14 (by decide) (fun c5 => ?_) (fun c5 => ?_)
  · replace h := z_t c5 h
    obtain rfl := hee3 _ (Option.some.inj h).symm
    exact KEe3 _ _ _ hH (lv_sub hl [] rfl)
  · replace h := z_f c5 h
    refine lv_iconst (v := (0)) K.x K.b dX8_layYet_17 (by decide) ?_
    refine lv_istore_n (lv' := [(3, .int (0 : Int32)), (0, .ref o), (1, .int p1), (2, .int s2.1)]) K.x K.b dX8_layYet_18 rfl hl (by decide) rfl (fun ls hl => ?_)
    obtain ⟨e7, hlpe7, h⟩ := z_bd_e h
    have KEe7 : ∀ (H : Heap) (locs : List Loc) (ls : Array Slot), z_H D A s.heap [(o, .inr (7, [.ref o_w, g_kept, g_text, g_size, g_above, g_below, g_bads, g_noes, g_fulls, g_at, g_from, g_token, g_value, g_readFault, .ref o_yet, .ref o_fars, g_tells])), (o_w, .inl (y 0, 1960, .inl f_w)), (o_yet, .inl (y 0, 896, .inl e7)), (o_fars, .inl (y 0, 49, .inl f_fars))] H locs → lv_has ls 4 [(0, .ref o), (1, .int p1), (2, .int s2.1)] → W p l e (zR 2 49) s m args below meth c H locs 0 0 Q (F0 m 68 ls []) := by
      intro H locs ls hH hl
      obtain ⟨x8, ex8, h⟩ := z_lt_e h
      refine lv_iinc (v := x8) (lv' := [(2, .int x8), (0, .ref o), (1, .int p1)]) K.x K.b dX8_layYet_68 hl (k := 2) rfl (by rw [ex8]; rfl) (by decide) rfl (fun ls hl => ?_)
      refine lv_goto (tgt := 13) K.x K.b dX8_layYet_71 (by decide) ?_
      exact ihe3 _ (Option.some.inj h).symm _ _ _ hH (lv_sub hl [1, 2, 0] rfl)
    refine z_lp_ind (P := fun (s6 : Int32 × (Nat → Int32)) => ∀ (H : Heap) (locs : List Loc) (ls : Array Slot), z_H D A s.heap [(o, .inr (7, [.ref o_w, g_kept, g_text, g_size, g_above, g_below, g_bads, g_noes, g_fulls, g_at, g_from, g_token, g_value, g_readFault, .ref o_yet, .ref o_fars, g_tells])), (o_w, .inl (y 0, 1960, .inl f_w)), (o_yet, .inl (y 0, 896, .inl s6.2)), (o_fars, .inl (y 0, 49, .inl f_fars))] H locs → lv_has ls 4 [(0, .ref o), (1, .int p1), (2, .int s2.1), (3, .int s6.1)] → W p l e (zR 2 49) s m args below meth c H locs 0 0 Q (F0 m 19 ls [])) ?_ _ hlpe7 _ _ _ hH (lv_sub hl [1, 2, 3, 0] rfl)
    clear h hlpe7
    intro s6 x9 h ihe7 hee7 H locs ls hH hl
    refine lv_iload_n K.x K.b dX8_layYet_19 rfl (lv_at hl 3 rfl) ?_
    refine lv_aload_n K.x K.b dX8_layYet_20 rfl (lv_at hl 0 rfl) ?_
    refine z_get K hH 0 rfl zin_8 rfl 0 (by decide) tw_4_96 (v := .ref o_w) rfl dX8_layYet_21 ?_
    refine lv_sipush (v := (418)) K.x K.b dX8_layYet_24 (by decide) ?_
    refine z_iald K hH 1 (k := 418) rfl (by decide) rfl dX8_layYet_27 ?_
    refine lv_icmp_ge (tgt := 68) K.x K.b dX8_layYet_28 (by decide) (fun c10 => ?_) (fun c10 => ?_)
    · replace h := z_t c10 h
      obtain rfl := hee7 _ (Option.some.inj h).symm
      exact KEe7 _ _ _ hH (lv_sub hl [0, 1, 2] rfl)
    · replace h := z_f c10 h
      refine lv_aload_n K.x K.b dX8_layYet_31 rfl (lv_at hl 0 rfl) ?_
      refine z_get K hH 0 rfl zin_8 rfl 14 (by decide) tw_4_110 (v := .ref o_yet) rfl dX8_layYet_32 ?_
      refine lv_bipush (v := (7)) K.x K.b dX8_layYet_35 (by decide) ?_
      refine lv_iload_n K.x K.b dX8_layYet_37 rfl (lv_at hl 2 rfl) ?_
      refine lv_imul K.x K.b dX8_layYet_38 ?_
      refine lv_iload_n K.x K.b dX8_layYet_39 rfl (lv_at hl 3 rfl) ?_
      refine lv_iadd K.x K.b dX8_layYet_40 ?_
      refine lv_iload_n K.x K.b dX8_layYet_41 rfl (lv_at hl 2 rfl) ?_
      refine lv_iload_n K.x K.b dX8_layYet_42 rfl (lv_at hl 3 rfl) ?_
      obtain ⟨r11, hr12, h⟩ := z_bd_e h
      refine z_Si K hH hl.1 (c_X8_has l D y s2.1 s6.1 r11 hr12) (z_cwS K 2 tw_5_124 tw_5_125 tw_1_8 tw_5_126 hd_X8_has ⟨by decide, by decide⟩) rfl (As := [.int s2.1, .int s6.1]) (rest := [.int (((7 : Int32) * s2.1) + s6.1), .ref o_yet]) rfl (Nat.le_of_ble_eq_true rfl) ⟨Nat.zero_le _, Nat.zero_le _⟩ dX8_layYet_43 (fun H locs hH => ?_)
      obtain ⟨j13, hj13, h⟩ := z_bd_e h
      have Kj13 : ∀ (H : Heap) (locs : List Loc) (ls : Array Slot), z_H D A s.heap [(o, .inr (7, [.ref o_w, g_kept, g_text, g_size, g_above, g_below, g_bads, g_noes, g_fulls, g_at, g_from, g_token, g_value, g_readFault, .ref o_yet, .ref o_fars, g_tells])), (o_w, .inl (y 0, 1960, .inl f_w)), (o_yet, .inl (y 0, 896, .inl s6.2)), (o_fars, .inl (y 0, 49, .inl f_fars))] H locs → lv_has ls 4 [(0, .ref o), (1, .int p1), (2, .int s2.1), (3, .int s6.1)] → W p l e (zR 2 49) s m args below meth c H locs 0 0 Q (F0 m 61 ls [.int j13, .int (((7 : Int32) * s2.1) + s6.1), .ref o_yet]) := by
        intro H locs ls hH hl
        obtain ⟨x14, ex14, h⟩ := z_lt_e h
        refine z_nm2 ex14 ?_
        obtain ⟨g15, h⟩ := z_gd_e h
        obtain ⟨a16, ea16, h⟩ := z_lt_e h
        refine z_iast K hH 2 (k := x14.toNatClampNeg) (ws' := [(o, .inr (7, [.ref o_w, g_kept, g_text, g_size, g_above, g_below, g_bads, g_noes, g_fulls, g_at, g_from, g_token, g_value, g_readFault, .ref o_yet, .ref o_fars, g_tells])), (o_w, .inl (y 0, 1960, .inl f_w)), (o_yet, .inl (y 0, 896, .inl a16)), (o_fars, .inl (y 0, 49, .inl f_fars))]) rfl g15 rfl dX8_layYet_61 (by rw [ea16]; rfl) (fun H locs hH => ?_)
        obtain ⟨x17, ex17, h⟩ := z_lt_e h
        refine lv_iinc (v := x17) (lv' := [(3, .int x17), (0, .ref o), (1, .int p1), (2, .int s2.1)]) K.x K.b dX8_layYet_62 hl (k := 3) rfl (by rw [ex17]; rfl) (by decide) rfl (fun ls hl => ?_)
        refine lv_goto (tgt := 19) K.x K.b dX8_layYet_65 (by decide) ?_
        exact ihe7 _ (Option.some.inj h).symm _ _ _ hH (lv_sub hl [1, 2, 3, 0] rfl)
      replace h := hj13
      refine lv_if_eq (tgt := 59) K.x K.b dX8_layYet_46 (by decide) (fun c18 => ?_) (fun c18 => ?_)
      · replace h := z_t c18 h
        refine z_ldc K tw_5_131 dX8_layYet_59 ?_
        obtain rfl := Option.some.inj h
        exact Kj13 _ _ _ hH (lv_sub hl [0, 1, 2, 3] rfl)
      · replace h := z_f c18 h
        refine lv_aload_n K.x K.b dX8_layYet_49 rfl (lv_at hl 0 rfl) ?_
        refine lv_iload_n K.x K.b dX8_layYet_50 rfl (lv_at hl 2 rfl) ?_
        refine lv_iload_n K.x K.b dX8_layYet_51 rfl (lv_at hl 3 rfl) ?_
        refine lv_iload_n K.x K.b dX8_layYet_52 rfl (lv_at hl 1 rfl) ?_
        obtain ⟨r19, hr20, h⟩ := z_bd_e h
        refine z_Vi K hH hl.1 (c_X8_leastFrom l D y o o_w o_yet o_fars (g_kept) (g_text) (g_size) (g_above) (g_below) (g_bads) (g_noes) (g_fulls) (g_at) (g_from) (g_token) (g_value) (g_readFault) (g_tells) f_w s6.2 f_fars s2.1 s6.1 p1 r19 hr20) (z_cwV K 3 tw_5_127 tw_5_129 tw_0_72 tw_1_8 tw_5_130 hd_X8_leastFrom ⟨by decide, by decide⟩) [0, 1, 2, 3] [] rfl (wr := []) rfl rfl rfl (by decide) rfl rfl rfl (As := [.int s2.1, .int s6.1, .int p1]) (rest := [.int (((7 : Int32) * s2.1) + s6.1), .ref o_yet]) rfl (Nat.le_of_ble_eq_true rfl) ⟨Nat.zero_le _, Nat.zero_le _⟩ dX8_layYet_53 (ws' := [(o, .inr (7, [.ref o_w, g_kept, g_text, g_size, g_above, g_below, g_bads, g_noes, g_fulls, g_at, g_from, g_token, g_value, g_readFault, .ref o_yet, .ref o_fars, g_tells])), (o_w, .inl (y 0, 1960, .inl f_w)), (o_yet, .inl (y 0, 896, .inl s6.2)), (o_fars, .inl (y 0, 49, .inl f_fars))]) rfl (fun H locs hH => ?_)
        refine lv_goto (tgt := 61) K.x K.b dX8_layYet_56 (by decide) ?_
        obtain rfl := Option.some.inj h
        exact Kj13 _ _ _ hH (lv_sub hl [0, 1, 2, 3] rfl)
