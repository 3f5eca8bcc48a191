def p_X8_crow (v_bads : Int32) (v_fulls : Int32) (f_w : (Nat → Int32)) (p1 : Int32) (p2 : Int32) : Option (Int32 × Int32 × Int32 × (Nat → Int32)) :=
  z_bd (p_X8_in p1 (0 : Int32) (5 : Int32)) fun r1 =>
  if (r1 = 0) then
  (z_bd (p_X8_bad v_bads) fun r4 =>
  some (r4.1, r4.2, v_fulls, f_w)) else
  (z_bd (p_X8_isPlace f_w p2) fun r6 =>
  if (r6 = 0) then
  (z_bd (p_X8_bad v_bads) fun r15 =>
  some (r15.1, r15.2, v_fulls, f_w)) else
  (z_bd (α := Int32 × Int32 × (Nat → Int32)) (if ((f_w 422) = (3 : Int32)) then
  (z_bd (p_X8_full v_fulls) fun r13 =>
  some (r13.1, r13.2, f_w)) else
  (z_bd (p_X8_crowIn f_w (0 : Int32) p1 p2) fun r11 =>
  some (r11.1, v_fulls, r11.2))) fun j9 =>
  some (j9.1, v_bads, j9.2.1, j9.2.2)))
theorem hd_X8_crow : yX8_crow.cls = RX8 ∧ yX8_crow.cls ≠ "java/lang/invoke/MethodHandle" ∧ yX8_crow.cls ≠ "java/lang/invoke/VarHandle" ∧ (parseMethodDescriptor yX8_crow.desc).map (fun d => d.parameters.length) = some 2 := by decide +kernel
set_option maxHeartbeats 4000000 in
set_option maxRecDepth 100000 in
theorem c_X8_crow (l : Launch) (D : va_G) (y : Nat → ClassId) (o o_w : Nat) (g_kept g_text g_size g_above g_below g_noes g_at g_from g_token g_value g_readFault g_yet g_fars g_tells : Value) (v_bads : Int32) (v_fulls : Int32) (f_w : (Nat → Int32)) (p1 : Int32) (p2 : Int32) (r : Int32 × Int32 × Int32 × (Nat → Int32)) (h : p_X8_crow v_bads v_fulls f_w p1 p2 = some r) : z_MI l yX8_crow cX8_crow 3 (some .int) 2 43 D y [.ref o, .int p1, .int p2] [(o, .inr (7, [.ref o_w, g_kept, g_text, g_size, g_above, g_below, .int v_bads, g_noes, .int v_fulls, g_at, g_from, g_token, g_value, g_readFault, g_yet, g_fars, g_tells])), (o_w, .inl (y 0, 1960, .inl f_w))] r.1 [(o, .inr (7, [.ref o_w, g_kept, g_text, g_size, g_above, g_below, .int r.2.1, g_noes, .int r.2.2.1, g_at, g_from, g_token, g_value, g_readFault, g_yet, g_fars, g_tells])), (o_w, .inl (y 0, 1960, .inl r.2.2.2))] := by
  unfold p_X8_crow at h
  refine z_enI (by decide) (Nat.le_of_ble_eq_true rfl) ?_
  intro p e s m args below meth c A ls hr K hH hl
  obtain ⟨Q, hQ⟩ : ∃ Q, Q = MQ below (z_Qi D y A r.1 [(o, .inr (7, [.ref o_w, g_kept, g_text, g_size, g_above, g_below, .int r.2.1, g_noes, .int r.2.2.1, g_at, g_from, g_token, g_value, g_readFault, g_yet, g_fars, g_tells])), (o_w, .inl (y 0, 1960, .inl r.2.2.2))]) args s 0 0 A := ⟨_, rfl⟩
  rw [← hQ]
  have hl : lv_has ls 3 [(0, .ref o), (1, .int p1), (2, .int p2)] := hl
  refine lv_iload_n K.x K.b dX8_crow_0 rfl (lv_at hl 1 rfl) ?_
  refine lv_iconst (v := (0)) K.x K.b dX8_crow_1 (by decide) ?_
  refine lv_iconst (v := (5)) K.x K.b dX8_crow_2 (by decide) ?_
  obtain ⟨r1, hr2, h⟩ := z_bd_e h
  refine z_Si K hH hl.1 (c_X8_in l D y p1 (0 : Int32) (5 : Int32) r1 hr2) (z_cwS K 3 tw_4_160 tw_4_161 tw_1_8 tw_4_162 hd_X8_in ⟨by decide, by decide⟩) rfl (As := [.int p1, .int (0 : Int32), .int (5 : Int32)]) (rest := []) rfl (Nat.le_of_ble_eq_true rfl) ⟨Nat.zero_le _, Nat.zero_le _⟩ dX8_crow_3 (fun H locs hH => ?_)
  refine lv_if_eq (tgt := 17) K.x K.b dX8_crow_6 (by decide) (fun c3 => ?_) (fun c3 => ?_)
  · replace h := z_t c3 h
    refine lv_aload_n K.x K.b dX8_crow_17 rfl (lv_at hl 0 rfl) ?_
    obtain ⟨r4, hr5, h⟩ := z_bd_e h
    refine z_Vi K hH hl.1 (c_X8_bad l D y o (.ref o_w) (g_kept) (g_text) (g_size) (g_above) (g_below) (g_noes) (.int v_fulls) (g_at) (g_from) (g_token) (g_value) (g_readFault) (g_yet) (g_fars) (g_tells) v_bads r4 hr5) (z_cwV K 0 tw_4_163 tw_4_165 tw_0_37 tw_1_8 tw_4_166 hd_X8_bad ⟨by decide, by decide⟩) [0] [1] rfl (wr := [(o_w, .inl (y 0, 1960, .inl f_w))]) rfl rfl rfl (by decide) rfl rfl rfl (As := []) (rest := []) rfl (Nat.le_of_ble_eq_true rfl) ⟨Nat.zero_le _, Nat.zero_le _⟩ dX8_crow_18 (ws' := [(o_w, .inl (y 0, 1960, .inl f_w)), (o, .inr (7, [.ref o_w, g_kept, g_text, g_size, g_above, g_below, .int r4.2, g_noes, .int v_fulls, g_at, g_from, g_token, g_value, g_readFault, g_yet, g_fars, g_tells]))]) rfl (fun H locs hH => ?_)
    have hr9 := Option.some.inj h
    obtain rfl := hr9
    rw [hQ]
    exact z_reti K hr hH [1, 0] (by decide) rfl rfl rfl dX8_crow_21
  · replace h := z_f c3 h
    refine lv_aload_n K.x K.b dX8_crow_9 rfl (lv_at hl 0 rfl) ?_
    refine lv_iload_n K.x K.b dX8_crow_10 rfl (lv_at hl 2 rfl) ?_
    obtain ⟨r6, hr7, h⟩ := z_bd_e h
    refine z_Vi K hH hl.1 (c_X8_isPlace l D y o o_w (g_kept) (g_text) (g_size) (g_above) (g_below) (.int v_bads) (g_noes) (.int v_fulls) (g_at) (g_from) (g_token) (g_value) (g_readFault) (g_yet) (g_fars) (g_tells) f_w p2 r6 hr7) (z_cwV K 1 tw_4_179 tw_4_181 tw_0_40 tw_1_8 tw_4_182 hd_X8_isPlace ⟨by decide, by decide⟩) [0, 1] [] rfl (wr := []) rfl rfl rfl (by decide) rfl rfl rfl (As := [.int p2]) (rest := []) rfl (Nat.le_of_ble_eq_true rfl) ⟨Nat.zero_le _, Nat.zero_le _⟩ dX8_crow_11 (ws' := [(o, .inr (7, [.ref o_w, g_kept, g_text, g_size, g_above, g_below, .int v_bads, g_noes, .int v_fulls, g_at, g_from, g_token, g_value, g_readFault, g_yet, g_fars, g_tells])), (o_w, .inl (y 0, 1960, .inl f_w))]) rfl (fun H locs hH => ?_)
    refine lv_if_ne (tgt := 22) K.x K.b dX8_crow_14 (by decide) (fun c8 => ?_) (fun c8 => ?_)
    · replace h := z_f c8 h
      refine lv_aload_n K.x K.b dX8_crow_22 rfl (lv_at hl 0 rfl) ?_
      refine z_get K hH 0 rfl zin_8 rfl 0 (by decide) tw_4_96 (v := .ref o_w) rfl dX8_crow_23 ?_
      refine lv_sipush (v := (422)) K.x K.b dX8_crow_26 (by decide) ?_
      refine z_iald K hH 1 (k := 422) rfl (by decide) rfl dX8_crow_29 ?_
      refine lv_iconst (v := (3)) K.x K.b dX8_crow_30 (by decide) ?_
      obtain ⟨j9, hj9, h⟩ := z_bd_e h
      have Kj9 : ∀ (H : Heap) (locs : List Loc) (ls : Array Slot), z_H D A s.heap [(o, .inr (7, [.ref o_w, g_kept, g_text, g_size, g_above, g_below, .int v_bads, g_noes, .int j9.2.1, g_at, g_from, g_token, g_value, g_readFault, g_yet, g_fars, g_tells])), (o_w, .inl (y 0, 1960, .inl j9.2.2))] H locs → lv_has ls 3 [] → W p l e (zR 2 43) s m args below meth c H locs 0 0 Q (F0 m 48 ls [.int j9.1]) := by
        intro H locs ls hH hl
        have hr9 := Option.some.inj h
        obtain rfl := hr9
        rw [hQ]
        exact z_reti K hr hH [0, 1] (by decide) rfl rfl rfl dX8_crow_48
      replace h := hj9
      refine lv_icmp_ne (tgt := 41) K.x K.b dX8_crow_31 (by decide) (fun c10 => ?_) (fun c10 => ?_)
      · replace h := z_f c10 h
        refine lv_aload_n K.x K.b dX8_crow_41 rfl (lv_at hl 0 rfl) ?_
        refine lv_iconst (v := (0)) K.x K.b dX8_crow_42 (by decide) ?_
        refine lv_iload_n K.x K.b dX8_crow_43 rfl (lv_at hl 1 rfl) ?_
        refine lv_iload_n K.x K.b dX8_crow_44 rfl (lv_at hl 2 rfl) ?_
        obtain ⟨r11, hr12, h⟩ := z_bd_e h
        refine z_Vi K hH hl.1 (c_X8_crowIn l D y o o_w (g_kept) (g_text) (g_size) (g_above) (g_below) (.int v_bads) (g_noes) (.int v_fulls) (g_at) (g_from) (g_token) (g_value) (g_readFault) (g_yet) (g_fars) (g_tells) f_w (0 : Int32) p1 p2 r11 hr12) (z_cwV K 3 tw_4_183 tw_4_185 tw_0_41 tw_1_8 tw_4_186 hd_X8_crowIn ⟨by decide, by decide⟩) [0, 1] [] rfl (wr := []) rfl rfl rfl (by decide) rfl rfl rfl (As := [.int (0 : Int32), .int p1, .int p2]) (rest := []) rfl (Nat.le_of_ble_eq_true rfl) ⟨Nat.zero_le _, Nat.zero_le _⟩ dX8_crow_45 (ws' := [(o, .inr (7, [.ref o_w, g_kept, g_text, g_size, g_above, g_below, .int v_bads, g_noes, .int v_fulls, g_at, g_from, g_token, g_value, g_readFault, g_yet, g_fars, g_tells])), (o_w, .inl (y 0, 1960, .inl r11.2))]) rfl (fun H locs hH => ?_)
        obtain rfl := Option.some.inj h
        exact Kj9 _ _ _ hH (lv_sub hl [] rfl)
      · replace h := z_t c10 h
        refine lv_aload_n K.x K.b dX8_crow_34 rfl (lv_at hl 0 rfl) ?_
        obtain ⟨r13, hr14, h⟩ := z_bd_e h
        refine z_Vi K hH hl.1 (c_X8_full l D y o (.ref o_w) (g_kept) (g_text) (g_size) (g_above) (g_below) (.int v_bads) (g_noes) (g_at) (g_from) (g_token) (g_value) (g_readFault) (g_yet) (g_fars) (g_tells) v_fulls r13 hr14) (z_cwV K 0 tw_4_167 tw_4_169 tw_0_38 tw_1_8 tw_4_170 hd_X8_full ⟨by decide, by decide⟩) [0] [1] rfl (wr := [(o_w, .inl (y 0, 1960, .inl f_w))]) rfl rfl rfl (by decide) rfl rfl rfl (As := []) (rest := []) rfl (Nat.le_of_ble_eq_true rfl) ⟨Nat.zero_le _, Nat.zero_le _⟩ dX8_crow_35 (ws' := [(o_w, .inl (y 0, 1960, .inl f_w)), (o, .inr (7, [.ref o_w, g_kept, g_text, g_size, g_above, g_below, .int v_bads, g_noes, .int r13.2, g_at, g_from, g_token, g_value, g_readFault, g_yet, g_fars, g_tells]))]) rfl (fun H locs hH => ?_)
        refine lv_goto (tgt := 48) K.x K.b dX8_crow_38 (by decide) ?_
        obtain rfl := Option.some.inj h
        exact Kj9 _ _ _ (hH.sub [1, 0] (by decide) rfl) (lv_sub hl [] rfl)
    · replace h := z_t c8 h
      refine lv_aload_n K.x K.b dX8_crow_17 rfl (lv_at hl 0 rfl) ?_
      obtain ⟨r15, hr16, h⟩ := z_bd_e h
      refine z_Vi K hH hl.1 (c_X8_bad l D y o (.ref o_w) (g_kept) (g_text) (g_size) (g_above) (g_below) (g_noes) (.int v_fulls) (g_at) (g_from) (g_token) (g_value) (g_readFault) (g_yet) (g_fars) (g_tells) v_bads r15 hr16) (z_cwV K 0 tw_4_163 tw_4_165 tw_0_37 tw_1_8 tw_4_166 hd_X8_bad ⟨by decide, by decide⟩) [0] [1] rfl (wr := [(o_w, .inl (y 0, 1960, .inl f_w))]) rfl rfl rfl (by decide) rfl rfl rfl (As := []) (rest := []) rfl (Nat.le_of_ble_eq_true rfl) ⟨Nat.zero_le _, Nat.zero_le _⟩ dX8_crow_18 (ws' := [(o_w, .inl (y 0, 1960, .inl f_w)), (o, .inr (7, [.ref o_w, g_kept, g_text, g_size, g_above, g_below, .int r15.2, g_noes, .int v_fulls, g_at, g_from, g_token, g_value, g_readFault, g_yet, g_fars, g_tells]))]) rfl (fun H locs hH => ?_)
      have hr9 := Option.some.inj h
      obtain rfl := hr9
      rw [hQ]
      exact z_reti K hr hH [1, 0] (by decide) rfl rfl rfl dX8_crow_21
def p_X8_type (v_size : Int32) (v_bads : Int32) (v_fulls : Int32) (f_text : (Nat → Int32)) (p1 : Int32) : Option (Int32 × Int32 × Int32 × Int32 × (Nat → Int32)) :=
  z_bd (p_X8_in p1 (0 : Int32) (127 : Int32)) fun r1 =>
  if (r1 = 0) then
  (z_bd (p_X8_bad v_bads) fun r10 =>
  some (r10.1, v_size, r10.2, v_fulls, f_text)) else
  (if (v_size = (150 : Int32)) then
  (z_bd (p_X8_full v_fulls) fun r8 =>
  some (r8.1, v_size, v_bads, r8.2, f_text)) else
  (z_gd (z_in v_size 150) <|
  z_lt ((upd f_text v_size.toNatClampNeg p1)) fun a6 =>
  z_lt ((v_size + (1 : Int32))) fun x7 =>
  some (x7, x7, v_bads, v_fulls, a6)))
theorem hd_X8_type : yX8_type.cls = RX8 ∧ yX8_type.cls ≠ "java/lang/invoke/MethodHandle" ∧ yX8_type.cls ≠ "java/lang/invoke/VarHandle" ∧ (parseMethodDescriptor yX8_type.desc).map (fun d => d.parameters.length) = some 1 := by decide +kernel
set_option maxHeartbeats 4000000 in
set_option maxRecDepth 100000 in
theorem c_X8_type (l : Launch) (D : va_G) (y : Nat → ClassId) (o o_text : Nat) (g_w g_kept g_above g_below g_noes g_at g_from g_token g_value g_readFault g_yet g_fars g_tells : Value) (v_size : Int32) (v_bads : Int32) (v_fulls : Int32) (f_text : (Nat → Int32)) (p1 : Int32) (r : Int32 × Int32 × Int32 × Int32 × (Nat → Int32)) (h : p_X8_type v_size v_bads v_fulls f_text p1 = some r) : z_MI l yX8_type cX8_type 2 (some .int) 1 22 D y [.ref o, .int p1] [(o, .inr (7, [g_w, g_kept, .ref o_text, .int v_size, g_above, g_below, .int v_bads, g_noes, .int v_fulls, g_at, g_from, g_token, g_value, g_readFault, g_yet, g_fars, g_tells])), (o_text, .inl (y 0, 150, .inl f_text))] r.1 [(o, .inr (7, [g_w, g_kept, .ref o_text, .int r.2.1, g_above, g_below, .int r.2.2.1, g_noes, .int r.2.2.2.1, g_at, g_from, g_token, g_value, g_readFault, g_yet, g_fars, g_tells])), (o_text, .inl (y 0, 150, .inl r.2.2.2.2))] := by
  unfold p_X8_type at h
  refine z_enI (by decide) (Nat.le_of_ble_eq_true rfl) ?_
  intro p e s m args below meth c A ls hr K hH hl
  obtain ⟨Q, hQ⟩ : ∃ Q, Q = MQ below (z_Qi D y A r.1 [(o, .inr (7, [g_w, g_kept, .ref o_text, .int r.2.1, g_above, g_below, .int r.2.2.1, g_noes, .int r.2.2.2.1, g_at, g_from, g_token, g_value, g_readFault, g_yet, g_fars, g_tells])), (o_text, .inl (y 0, 150, .inl r.2.2.2.2))]) args s 0 0 A := ⟨_, rfl⟩
  rw [← hQ]
  have hl : lv_has ls 2 [(0, .ref o), (1, .int p1)] := hl
  refine lv_iload_n K.x K.b dX8_type_0 rfl (lv_at hl 1 rfl) ?_
  refine lv_iconst (v := (0)) K.x K.b dX8_type_1 (by decide) ?_
  refine lv_bipush (v := (127)) K.x K.b dX8_type_2 (by decide) ?_
  obtain ⟨r1, hr2, h⟩ := z_bd_e h
  refine z_Si K hH hl.1 (c_X8_in l D y p1 (0 : Int32) (127 : Int32) r1 hr2) (z_cwS K 3 tw_4_160 tw_4_161 tw_1_8 tw_4_162 hd_X8_in ⟨by decide, by decide⟩) rfl (As := [.int p1, .int (0 : Int32), .int (127 : Int32)]) (rest := []) rfl (Nat.le_of_ble_eq_true rfl) ⟨Nat.zero_le _, Nat.zero_le _⟩ dX8_type_4 (fun H locs hH => ?_)
  refine lv_if_ne (tgt := 15) K.x K.b dX8_type_7 (by decide) (fun c3 => ?_) (fun c3 => ?_)
  · replace h := z_f c3 h
    refine lv_aload_n K.x K.b dX8_type_15 rfl (lv_at hl 0 rfl) ?_
    refine z_get K hH 0 rfl zin_8 rfl 3 (by decide) tw_4_99 (v := .int v_size) rfl dX8_type_16 ?_
    refine lv_sipush (v := (150)) K.x K.b dX8_type_19 (by decide) ?_
    refine lv_icmp_ne (tgt := 30) K.x K.b dX8_type_22 (by decide) (fun c4 => ?_) (fun c4 => ?_)
    · replace h := z_f c4 h
      refine lv_aload_n K.x K.b dX8_type_30 rfl (lv_at hl 0 rfl) ?_
      refine z_get K hH 0 rfl zin_8 rfl 2 (by decide) tw_4_98 (v := .ref o_text) rfl dX8_type_31 ?_
      refine lv_aload_n K.x K.b dX8_type_34 rfl (lv_at hl 0 rfl) ?_
      refine z_get K hH 0 rfl zin_8 rfl 3 (by decide) tw_4_99 (v := .int v_size) rfl dX8_type_35 ?_
      refine lv_iload_n K.x K.b dX8_type_38 rfl (lv_at hl 1 rfl) ?_
      obtain ⟨g5, h⟩ := z_gd_e h
      obtain ⟨a6, ea6, h⟩ := z_lt_e h
      refine z_iast K hH 1 (k := v_size.toNatClampNeg) (ws' := [(o, .inr (7, [g_w, g_kept, .ref o_text, .int v_size, g_above, g_below, .int v_bads, g_noes, .int v_fulls, g_at, g_from, g_token, g_value, g_readFault, g_yet, g_fars, g_tells])), (o_text, .inl (y 0, 150, .inl a6))]) rfl g5 rfl dX8_type_39 (by rw [ea6]; rfl) (fun H locs hH => ?_)
      refine lv_aload_n K.x K.b dX8_type_40 rfl (lv_at hl 0 rfl) ?_
      refine lv_dup K.x K.b dX8_type_41 rfl ?_
      refine z_get K hH 0 rfl zin_8 rfl 3 (by decide) tw_4_99 (v := .int v_size) rfl dX8_type_42 ?_
      refine lv_iconst (v := (1)) K.x K.b dX8_type_45 (by decide) ?_
      refine lv_iadd K.x K.b dX8_type_46 ?_
      obtain ⟨x7, ex7, h⟩ := z_lt_e h
      refine z_nm ex7 ?_
      refine z_put K hH 0 (ws' := [(o, .inr (7, [g_w, g_kept, .ref o_text, .int x7, g_above, g_below, .int v_bads, g_noes, .int v_fulls, g_at, g_from, g_token, g_value, g_readFault, g_yet, g_fars, g_tells])), (o_text, .inl (y 0, 150, .inl a6))]) rfl zin_8 rfl tyX8 tyX8_ok nmX8 3 (by decide) tw_4_99 rfl rfl rfl (Nat.le_of_ble_eq_true rfl) dX8_type_47 rfl (fun H locs hH => ?_)
      refine lv_aload_n K.x K.b dX8_type_50 rfl (lv_at hl 0 rfl) ?_
      refine z_get K hH 0 rfl zin_8 rfl 3 (by decide) tw_4_99 (v := .int x7) rfl dX8_type_51 ?_
      have hr9 := Option.some.inj h
      obtain rfl := hr9
      rw [hQ]
      exact z_reti K hr hH [0, 1] (by decide) rfl rfl rfl dX8_type_54
    · replace h := z_t c4 h
      refine lv_aload_n K.x K.b dX8_type_25 rfl (lv_at hl 0 rfl) ?_
      obtain ⟨r8, hr9, h⟩ := z_bd_e h
      refine z_Vi K hH hl.1 (c_X8_full l D y o (g_w) (g_kept) (.ref o_text) (.int v_size) (g_above) (g_below) (.int v_bads) (g_noes) (g_at) (g_from) (g_token) (g_value) (g_readFault) (g_yet) (g_fars) (g_tells) v_fulls r8 hr9) (z_cwV K 0 tw_4_167 tw_4_169 tw_0_38 tw_1_8 tw_4_170 hd_X8_full ⟨by decide, by decide⟩) [0] [1] rfl (wr := [(o_text, .inl (y 0, 150, .inl f_text))]) rfl rfl rfl (by decide) rfl rfl rfl (As := []) (rest := []) rfl (Nat.le_of_ble_eq_true rfl) ⟨Nat.zero_le _, Nat.zero_le _⟩ dX8_type_26 (ws' := [(o_text, .inl (y 0, 150, .inl f_text)), (o, .inr (7, [g_w, g_kept, .ref o_text, .int v_size, g_above, g_below, .int v_bads, g_noes, .int r8.2, g_at, g_from, g_token, g_value, g_readFault, g_yet, g_fars, g_tells]))]) rfl (fun H locs hH => ?_)
      have hr9 := Option.some.inj h
      obtain rfl := hr9
      rw [hQ]
      exact z_reti K hr hH [1, 0] (by decide) rfl rfl rfl dX8_type_29
  · replace h := z_t c3 h
    refine lv_aload_n K.x K.b dX8_type_10 rfl (lv_at hl 0 rfl) ?_
    obtain ⟨r10, hr11, h⟩ := z_bd_e h
    refine z_Vi K hH hl.1 (c_X8_bad l D y o (g_w) (g_kept) (.ref o_text) (.int v_size) (g_above) (g_below) (g_noes) (.int v_fulls) (g_at) (g_from) (g_token) (g_value) (g_readFault) (g_yet) (g_fars) (g_tells) v_bads r10 hr11) (z_cwV K 0 tw_4_163 tw_4_165 tw_0_37 tw_1_8 tw_4_166 hd_X8_bad ⟨by decide, by decide⟩) [0] [1] rfl (wr := [(o_text, .inl (y 0, 150, .inl f_text))]) rfl rfl rfl (by decide) rfl rfl rfl (As := []) (rest := []) rfl (Nat.le_of_ble_eq_true rfl) ⟨Nat.zero_le _, Nat.zero_le _⟩ dX8_type_11 (ws' := [(o_text, .inl (y 0, 150, .inl f_text)), (o, .inr (7, [g_w, g_kept, .ref o_text, .int v_size, g_above, g_below, .int r10.2, g_noes, .int v_fulls, g_at, g_from, g_token, g_value, g_readFault, g_yet, g_fars, g_tells]))]) rfl (fun H locs hH => ?_)
    have hr9 := Option.some.inj h
    obtain rfl := hr9
    rw [hQ]
    exact z_reti K hr hH [1, 0] (by decide) rfl rfl rfl dX8_type_14
def p_X8_clear (v_size : Int32) : Option (Int32 × Int32) :=
  some (v_size, (0 : Int32))
theorem hd_X8_clear : yX8_clear.cls = RX8 ∧ yX8_clear.cls ≠ "java/lang/invoke/MethodHandle" ∧ yX8_clear.cls ≠ "java/lang/invoke/VarHandle" ∧ (parseMethodDescriptor yX8_clear.desc).map (fun d => d.parameters.length) = some 0 := by decide +kernel
set_option maxHeartbeats 4000000 in
set_option maxRecDepth 100000 in
theorem c_X8_clear (l : Launch) (D : va_G) (y : Nat → ClassId) (o : Nat) (g_w g_kept g_text g_above g_below g_bads g_noes g_fulls g_at g_from g_token g_value g_readFault g_yet g_fars g_tells : Value) (v_size : Int32) (r : Int32 × Int32) (h : p_X8_clear v_size = some r) : z_MI l yX8_clear cX8_clear 2 (some .int) 0 0 D y [.ref o] [(o, .inr (7, [g_w, g_kept, g_text, .int v_size, g_above, g_below, g_bads, g_noes, g_fulls, g_at, g_from, g_token, g_value, g_readFault, g_yet, g_fars, g_tells]))] r.1 [(o, .inr (7, [g_w, g_kept, g_text, .int r.2, g_above, g_below, g_bads, g_noes, g_fulls, g_at, g_from, g_token, g_value, g_readFault, g_yet, g_fars, g_tells]))] := by
  unfold p_X8_clear at h
  refine z_enI (by decide) (Nat.le_of_ble_eq_true rfl) ?_
  intro p e s m args below meth c A ls hr K hH hl
  obtain ⟨Q, hQ⟩ : ∃ Q, Q = MQ below (z_Qi D y A r.1 [(o, .inr (7, [g_w, g_kept, g_text, .int r.2, g_above, g_below, g_bads, g_noes, g_fulls, g_at, g_from, g_token, g_value, g_readFault, g_yet, g_fars, g_tells]))]) args s 0 0 A := ⟨_, rfl⟩
  rw [← hQ]
  have hl : lv_has ls 2 [(0, .ref o)] := hl
  refine lv_aload_n K.x K.b dX8_clear_0 rfl (lv_at hl 0 rfl) ?_
  refine z_get K hH 0 rfl zin_8 rfl 3 (by decide) tw_4_99 (v := .int v_size) rfl dX8_clear_1 ?_
  refine lv_istore_n (lv' := [(1, .int v_size), (0, .ref o)]) K.x K.b dX8_clear_4 rfl hl (by decide) rfl (fun ls hl => ?_)
  refine lv_aload_n K.x K.b dX8_clear_5 rfl (lv_at hl 1 rfl) ?_
  refine lv_iconst (v := (0)) K.x K.b dX8_clear_6 (by decide) ?_
  refine z_put K hH 0 (ws' := [(o, .inr (7, [g_w, g_kept, g_text, .int (0 : Int32), g_above, g_below, g_bads, g_noes, g_fulls, g_at, g_from, g_token, g_value, g_readFault, g_yet, g_fars, g_tells]))]) rfl zin_8 rfl tyX8 tyX8_ok nmX8 3 (by decide) tw_4_99 rfl rfl rfl (Nat.le_of_ble_eq_true rfl) dX8_clear_7 rfl (fun H locs hH => ?_)
  refine lv_iload_n K.x K.b dX8_clear_10 rfl (lv_at hl 0 rfl) ?_
  have hr9 := Option.some.inj h
  obtain rfl := hr9
  rw [hQ]
  exact z_reti K hr hH [0] (by decide) rfl rfl rfl dX8_clear_11
def p_X8_isLetter (v_size : Int32) (f_text : (Nat → Int32)) (p1 : Int32) : Option (Int32) :=
  z_bd (α := Int32) (if (v_size ≤ p1) then
  (some (0 : Int32)) else
  (z_gd (z_in p1 150) <|
  z_lt ((f_text p1.toNatClampNeg)) fun x5 =>
  z_bd (p_X8_in x5 (97 : Int32) (122 : Int32)) fun r6 =>
  if (r6 = 0) then
  (some (0 : Int32)) else
  (some (1 : Int32)))) fun j1 =>
  z_gd (z_bz j1) <|
  some j1
theorem hd_X8_isLetter : yX8_isLetter.cls = RX8 ∧ yX8_isLetter.cls ≠ "java/lang/invoke/MethodHandle" ∧ yX8_isLetter.cls ≠ "java/lang/invoke/VarHandle" ∧ (parseMethodDescriptor yX8_isLetter.desc).map (fun d => d.parameters.length) = some 1 := by decide +kernel
set_option maxHeartbeats 4000000 in
set_option maxRecDepth 100000 in
theorem c_X8_isLetter (l : Launch) (D : va_G) (y : Nat → ClassId) (o o_text : Nat) (g_w g_kept g_above g_below g_bads g_noes g_fulls g_at g_from g_token g_value g_readFault g_yet g_fars g_tells : Value) (v_size : Int32) (f_text : (Nat → Int32)) (p1 : Int32) (r : Int32) (h : p_X8_isLetter v_size f_text p1 = some r) : z_MI l yX8_isLetter cX8_isLetter 2 (some .boolean) 1 22 D y [.ref o, .int p1] [(o, .inr (7, [g_w, g_kept, .ref o_text, .int v_size, g_above, g_below, g_bads, g_noes, g_fulls, g_at, g_from, g_token, g_value, g_readFault, g_yet, g_fars, g_tells])), (o_text, .inl (y 0, 150, .inl f_text))] r [(o, .inr (7, [g_w, g_kept, .ref o_text, .int v_size, g_above, g_below, g_bads, g_noes, g_fulls, g_at, g_from, g_token, g_value, g_readFault, g_yet, g_fars, g_tells])), (o_text, .inl (y 0, 150, .inl f_text))] := by
  unfold p_X8_isLetter at h
  refine z_enI (by decide) (Nat.le_of_ble_eq_true rfl) ?_
  intro p e s m args below meth c A ls hr K hH hl
  obtain ⟨Q, hQ⟩ : ∃ Q, Q = MQ below (z_Qi D y A r [(o, .inr (7, [g_w, g_kept, .ref o_text, .int v_size, g_above, g_below, g_bads, g_noes, g_fulls, g_at, g_from, g_token, g_value, g_readFault, g_yet, g_fars, g_tells])), (o_text, .inl (y 0, 150, .inl f_text))]) args s 0 0 A := ⟨_, rfl⟩
  rw [← hQ]
  have hl : lv_has ls 2 [(0, .ref o), (1, .int p1)] := hl
  refine lv_iload_n K.x K.b dX8_isLetter_0 rfl (lv_at hl 1 rfl) ?_
  refine lv_aload_n K.x K.b dX8_isLetter_1 rfl (lv_at hl 0 rfl) ?_
  refine z_get K hH 0 rfl zin_8 rfl 3 (by decide) tw_4_99 (v := .int v_size) rfl dX8_isLetter_2 ?_
  obtain ⟨j1, hj1, h⟩ := z_bd_e h
  have Kj1 : ∀ (H : Heap) (locs : List Loc) (ls : Array Slot), z_H D A s.heap [(o, .inr (7, [g_w, g_kept, .ref o_text, .int v_size, g_above, g_below, g_bads, g_noes, g_fulls, g_at, g_from, g_token, g_value, g_readFault, g_yet, g_fars, g_tells])), (o_text, .inl (y 0, 150, .inl f_text))] H locs → lv_has ls 2 [] → W p l e (zR 1 22) s m args below meth c H locs 0 0 Q (F0 m 29 ls [.int j1]) := by
    intro H locs ls hH hl
    obtain ⟨g2, h⟩ := z_gd_e h
    have hr9 := Option.some.inj h
    obtain rfl := hr9
    rw [hQ]
    exact z_reti K hr hH [0, 1] (by decide) rfl rfl (z_bz_e g2) dX8_isLetter_29
  replace h := hj1
  refine lv_icmp_ge (tgt := 28) K.x K.b dX8_isLetter_5 (by decide) (fun c3 => ?_) (fun c3 => ?_)
  · replace h := z_t c3 h
    refine lv_iconst (v := (0)) K.x K.b dX8_isLetter_28 (by decide) ?_
    obtain rfl := Option.some.inj h
    exact Kj1 _ _ _ hH (lv_sub hl [] rfl)
  · replace h := z_f c3 h
    refine lv_aload_n K.x K.b dX8_isLetter_8 rfl (lv_at hl 0 rfl) ?_
    refine z_get K hH 0 rfl zin_8 rfl 2 (by decide) tw_4_98 (v := .ref o_text) rfl dX8_isLetter_9 ?_
    refine lv_iload_n K.x K.b dX8_isLetter_12 rfl (lv_at hl 1 rfl) ?_
    obtain ⟨g4, h⟩ := z_gd_e h
    refine z_iald K hH 1 (k := p1.toNatClampNeg) rfl g4 rfl dX8_isLetter_13 ?_
    refine lv_bipush (v := (97)) K.x K.b dX8_isLetter_14 (by decide) ?_
    refine lv_bipush (v := (122)) K.x K.b dX8_isLetter_16 (by decide) ?_
    obtain ⟨x5, ex5, h⟩ := z_lt_e h
    refine z_nm3 ex5 ?_
    obtain ⟨r6, hr7, h⟩ := z_bd_e h
    refine z_Si K hH hl.1 (c_X8_in l D y x5 (97 : Int32) (122 : Int32) r6 hr7) (z_cwS K 3 tw_4_160 tw_4_161 tw_1_8 tw_4_162 hd_X8_in ⟨by decide, by decide⟩) rfl (As := [.int x5, .int (97 : Int32), .int (122 : Int32)]) (rest := []) rfl (Nat.le_of_ble_eq_true rfl) ⟨Nat.zero_le _, Nat.zero_le _⟩ dX8_isLetter_18 (fun H locs hH => ?_)
    refine lv_if_eq (tgt := 28) K.x K.b dX8_isLetter_21 (by decide) (fun c8 => ?_) (fun c8 => ?_)
    · replace h := z_t c8 h
      refine lv_iconst (v := (0)) K.x K.b dX8_isLetter_28 (by decide) ?_
      obtain rfl := Option.some.inj h
      exact Kj1 _ _ _ hH (lv_sub hl [] rfl)
    · replace h := z_f c8 h
      refine lv_iconst (v := (1)) K.x K.b dX8_isLetter_24 (by decide) ?_
      refine lv_goto (tgt := 29) K.x K.b dX8_isLetter_25 (by decide) ?_
      obtain rfl := Option.some.inj h
      exact Kj1 _ _ _ hH (lv_sub hl [] rfl)
def p_X8_isFigure (v_size : Int32) (f_text : (Nat → Int32)) (p1 : Int32) : Option (Int32) :=
  z_bd (α := Int32) (if (v_size ≤ p1) then
  (some (0 : Int32)) else
  (z_gd (z_in p1 150) <|
  z_lt ((f_text p1.toNatClampNeg)) fun x5 =>
  z_bd (p_X8_in x5 (48 : Int32) (57 : Int32)) fun r6 =>
  if (r6 = 0) then
  (some (0 : Int32)) else
  (some (1 : Int32)))) fun j1 =>
  z_gd (z_bz j1) <|
  some j1
theorem hd_X8_isFigure : yX8_isFigure.cls = RX8 ∧ yX8_isFigure.cls ≠ "java/lang/invoke/MethodHandle" ∧ yX8_isFigure.cls ≠ "java/lang/invoke/VarHandle" ∧ (parseMethodDescriptor yX8_isFigure.desc).map (fun d => d.parameters.length) = some 1 := by decide +kernel
set_option maxHeartbeats 4000000 in
set_option maxRecDepth 100000 in
theorem c_X8_isFigure (l : Launch) (D : va_G) (y : Nat → ClassId) (o o_text : Nat) (g_w g_kept g_above g_below g_bads g_noes g_fulls g_at g_from g_token g_value g_readFault g_yet g_fars g_tells : Value) (v_size : Int32) (f_text : (Nat → Int32)) (p1 : Int32) (r : Int32) (h : p_X8_isFigure v_size f_text p1 = some r) : z_MI l yX8_isFigure cX8_isFigure 2 (some .boolean) 1 22 D y [.ref o, .int p1] [(o, .inr (7, [g_w, g_kept, .ref o_text, .int v_size, g_above, g_below, g_bads, g_noes, g_fulls, g_at, g_from, g_token, g_value, g_readFault, g_yet, g_fars, g_tells])), (o_text, .inl (y 0, 150, .inl f_text))] r [(o, .inr (7, [g_w, g_kept, .ref o_text, .int v_size, g_above, g_below, g_bads, g_noes, g_fulls, g_at, g_from, g_token, g_value, g_readFault, g_yet, g_fars, g_tells])), (o_text, .inl (y 0, 150, .inl f_text))] := by
  unfold p_X8_isFigure at h
  refine z_enI (by decide) (Nat.le_of_ble_eq_true rfl) ?_
  intro p e s m args below meth c A ls hr K hH hl
  obtain ⟨Q, hQ⟩ : ∃ Q, Q = MQ below (z_Qi D y A r [(o, .inr (7, [g_w, g_kept, .ref o_text, .int v_size, g_above, g_below, g_bads, g_noes, g_fulls, g_at, g_from, g_token, g_value, g_readFault, g_yet, g_fars, g_tells])), (o_text, .inl (y 0, 150, .inl f_text))]) args s 0 0 A := ⟨_, rfl⟩
  rw [← hQ]
  have hl : lv_has ls 2 [(0, .ref o), (1, .int p1)] := hl
  refine lv_iload_n K.x K.b dX8_isFigure_0 rfl (lv_at hl 1 rfl) ?_
  refine lv_aload_n K.x K.b dX8_isFigure_1 rfl (lv_at hl 0 rfl) ?_
  refine z_get K hH 0 rfl zin_8 rfl 3 (by decide) tw_4_99 (v := .int v_size) rfl dX8_isFigure_2 ?_
  obtain ⟨j1, hj1, h⟩ := z_bd_e h
  have Kj1 : ∀ (H : Heap) (locs : List Loc) (ls : Array Slot), z_H D A s.heap [(o, .inr (7, [g_w, g_kept, .ref o_text, .int v_size, g_above, g_below, g_bads, g_noes, g_fulls, g_at, g_from, g_token, g_value, g_readFault, g_yet, g_fars, g_tells])), (o_text, .inl (y 0, 150, .inl f_text))] H locs → lv_has ls 2 [] → W p l e (zR 1 22) s m args below meth c H locs 0 0 Q (F0 m 29 ls [.int j1]) := by
    intro H locs ls hH hl
    obtain ⟨g2, h⟩ := z_gd_e h
    have hr9 := Option.some.inj h
    obtain rfl := hr9
    rw [hQ]
    exact z_reti K hr hH [0, 1] (by decide) rfl rfl (z_bz_e g2) dX8_isFigure_29
  replace h := hj1
  refine lv_icmp_ge (tgt := 28) K.x K.b dX8_isFigure_5 (by decide) (fun c3 => ?_) (fun c3 => ?_)
  · replace h := z_t c3 h
    refine lv_iconst (v := (0)) K.x K.b dX8_isFigure_28 (by decide) ?_
    obtain rfl := Option.some.inj h
    exact Kj1 _ _ _ hH (lv_sub hl [] rfl)
  · replace h := z_f c3 h
    refine lv_aload_n K.x K.b dX8_isFigure_8 rfl (lv_at hl 0 rfl) ?_
    refine z_get K hH 0 rfl zin_8 rfl 2 (by decide) tw_4_98 (v := .ref o_text) rfl dX8_isFigure_9 ?_
    refine lv_iload_n K.x K.b dX8_isFigure_12 rfl (lv_at hl 1 rfl) ?_
    obtain ⟨g4, h⟩ := z_gd_e h
    refine z_iald K hH 1 (k := p1.toNatClampNeg) rfl g4 rfl dX8_isFigure_13 ?_
    refine lv_bipush (v := (48)) K.x K.b dX8_isFigure_14 (by decide) ?_
    refine lv_bipush (v := (57)) K.x K.b dX8_isFigure_16 (by decide) ?_
    obtain ⟨x5, ex5, h⟩ := z_lt_e h
    refine z_nm3 ex5 ?_
    obtain ⟨r6, hr7, h⟩ := z_bd_e h
    refine z_Si K hH hl.1 (c_X8_in l D y x5 (48 : Int32) (57 : Int32) r6 hr7) (z_cwS K 3 tw_4_160 tw_4_161 tw_1_8 tw_4_162 hd_X8_in ⟨by decide, by decide⟩) rfl (As := [.int x5, .int (48 : Int32), .int (57 : Int32)]) (rest := []) rfl (Nat.le_of_ble_eq_true rfl) ⟨Nat.zero_le _, Nat.zero_le _⟩ dX8_isFigure_18 (fun H locs hH => ?_)
    refine lv_if_eq (tgt := 28) K.x K.b dX8_isFigure_21 (by decide) (fun c8 => ?_) (fun c8 => ?_)
    · replace h := z_t c8 h
      refine lv_iconst (v := (0)) K.x K.b dX8_isFigure_28 (by decide) ?_
      obtain rfl := Option.some.inj h
      exact Kj1 _ _ _ hH (lv_sub hl [] rfl)
    · replace h := z_f c8 h
      refine lv_iconst (v := (1)) K.x K.b dX8_isFigure_24 (by decide) ?_
      refine lv_goto (tgt := 29) K.x K.b dX8_isFigure_25 (by decide) ?_
      obtain rfl := Option.some.inj h
      exact Kj1 _ _ _ hH (lv_sub hl [] rfl)
noncomputable def p_X8_readNumber (v_size : Int32) (v_at : Int32) (v_from : Int32) (v_token : Int32) (v_value : Int32) (f_text : (Nat → Int32)) : Option (Int32 × Int32 × Int32) :=
  z_bd (z_lp (S := Int32 × Int32) (E := Int32 × Int32) (fun s1 =>
  z_bd (p_X8_isFigure v_size f_text s1.1) fun r6 =>
  if (r6 = 0) then
  (some (.inr (s1.1, s1.2))) else
  (z_bd (α := Int32) (if ((2 : Int32) ≤ (s1.1 - v_from)) then
  (some s1.2) else
  (z_gd (z_in s1.1 150) <|
  some ((((10 : Int32) * s1.2) + (f_text s1.1.toNatClampNeg)) - (48 : Int32)))) fun j9 =>
  z_lt ((s1.1 + (1 : Int32))) fun x10 =>
  some (.inl (x10, j9)))) (v_at, (0 : Int32))) fun e2 =>
  z_bd (α := Int32) (if ((e2.1 - v_from) ≤ (2 : Int32)) then
  (some (2 : Int32)) else
  (some (4 : Int32))) fun j3 =>
  some (e2.1, j3, e2.2)
theorem hd_X8_readNumber : yX8_readNumber.cls = RX8 ∧ yX8_readNumber.cls ≠ "java/lang/invoke/MethodHandle" ∧ yX8_readNumber.cls ≠ "java/lang/invoke/VarHandle" ∧ (parseMethodDescriptor yX8_readNumber.desc).map (fun d => d.parameters.length) = some 0 := by decide +kernel
set_option maxHeartbeats 4000000 in
set_option maxRecDepth 100000 in
theorem c_X8_readNumber (l : Launch) (D : va_G) (y : Nat → ClassId) (o o_text : Nat) (g_w g_kept g_above g_below g_bads g_noes g_fulls g_readFault g_yet g_fars g_tells : Value) (v_size : Int32) (v_at : Int32) (v_from : Int32) (v_token : Int32) (v_value : Int32) (f_text : (Nat → Int32)) (r : Int32 × Int32 × Int32) (h : p_X8_readNumber v_size v_at v_from v_token v_value f_text = some r) : z_MV l yX8_readNumber cX8_readNumber 1 none 2 43 D y [.ref o] [(o, .inr (7, [g_w, g_kept, .ref o_text, .int v_size, g_above, g_below, g_bads, g_noes, g_fulls, .int v_at, .int v_from, .int v_token, .int v_value, g_readFault, g_yet, g_fars, g_tells])), (o_text, .inl (y 0, 150, .inl f_text))] [(o, .inr (7, [g_w, g_kept, .ref o_text, .int v_size, g_above, g_below, g_bads, g_noes, g_fulls, .int r.1, .int v_from, .int r.2.1, .int r.2.2, g_readFault, g_yet, g_fars, g_tells])), (o_text, .inl (y 0, 150, .inl f_text))] := by
  unfold p_X8_readNumber at h
  refine z_enV (by decide) (Nat.le_of_ble_eq_true rfl) ?_
  intro p e s m args below meth c A ls hr K hH hl
  obtain ⟨Q, hQ⟩ : ∃ Q, Q = MQ below (z_Qv D y A [(o, .inr (7, [g_w, g_kept, .ref o_text, .int v_size, g_above, g_below, g_bads, g_noes, g_fulls, .int r.1, .int v_from, .int r.2.1, .int r.2.2, g_readFault, g_yet, g_fars, g_tells])), (o_text, .inl (y 0, 150, .inl f_text))]) args s 0 0 A := ⟨_, rfl⟩
  rw [← hQ]
  have hl : lv_has ls 1 [(0, .ref o)] := hl
  refine lv_aload_n K.x K.b dX8_readNumber_0 rfl (lv_at hl 0 rfl) ?_
  refine lv_iconst (v := (0)) K.x K.b dX8_readNumber_1 (by decide) ?_
  refine z_put K hH 0 (ws' := [(o, .inr (7, [g_w, g_kept, .ref o_text, .int v_size, g_above, g_below, g_bads, g_noes, g_fulls, .int v_at, .int v_from, .int v_token, .int (0 : Int32), g_readFault, g_yet, g_fars, g_tells])), (o_text, .inl (y 0, 150, .inl f_text))]) rfl zin_8 rfl tyX8 tyX8_ok nmX8 12 (by decide) tw_4_108 rfl rfl rfl (Nat.le_of_ble_eq_true rfl) dX8_readNumber_2 rfl (fun H locs hH => ?_)
  obtain ⟨e2, hlpe2, h⟩ := z_bd_e h
  have KEe2 : ∀ (H : Heap) (locs : List Loc) (ls : Array Slot), z_H D A s.heap [(o, .inr (7, [g_w, g_kept, .ref o_text, .int v_size, g_above, g_below, g_bads, g_noes, g_fulls, .int e2.1, .int v_from, .int v_token, .int e2.2, g_readFault, g_yet, g_fars, g_tells])), (o_text, .inl (y 0, 150, .inl f_text))] H locs → lv_has ls 1 [(0, .ref o)] → W p l e (zR 2 43) s m args below meth c H locs 0 0 Q (F0 m 73 ls []) := by
    intro H locs ls hH hl
    refine lv_aload_n K.x K.b dX8_readNumber_73 rfl (lv_at hl 0 rfl) ?_
    refine lv_aload_n K.x K.b dX8_readNumber_74 rfl (lv_at hl 0 rfl) ?_
    refine z_get K hH 0 rfl zin_8 rfl 9 (by decide) tw_4_105 (v := .int e2.1) rfl dX8_readNumber_75 ?_
    refine lv_aload_n K.x K.b dX8_readNumber_78 rfl (lv_at hl 0 rfl) ?_
    refine z_get K hH 0 rfl zin_8 rfl 10 (by decide) tw_4_106 (v := .int v_from) rfl dX8_readNumber_79 ?_
    refine lv_isub K.x K.b dX8_readNumber_82 ?_
    refine lv_iconst (v := (2)) K.x K.b dX8_readNumber_83 (by decide) ?_
    obtain ⟨j3, hj3, h⟩ := z_bd_e h
    have Kj3 : ∀ (H : Heap) (locs : List Loc) (ls : Array Slot), z_H D A s.heap [(o, .inr (7, [g_w, g_kept, .ref o_text, .int v_size, g_above, g_below, g_bads, g_noes, g_fulls, .int e2.1, .int v_from, .int v_token, .int e2.2, g_readFault, g_yet, g_fars, g_tells])), (o_text, .inl (y 0, 150, .inl f_text))] H locs → lv_has ls 1 [] → W p l e (zR 2 43) s m args below meth c H locs 0 0 Q (F0 m 92 ls [.int j3, .ref o]) := by
      intro H locs ls hH hl
      refine z_put K hH 0 (ws' := [(o, .inr (7, [g_w, g_kept, .ref o_text, .int v_size, g_above, g_below, g_bads, g_noes, g_fulls, .int e2.1, .int v_from, .int j3, .int e2.2, g_readFault, g_yet, g_fars, g_tells])), (o_text, .inl (y 0, 150, .inl f_text))]) rfl zin_8 rfl tyX8 tyX8_ok nmX8 11 (by decide) tw_4_107 rfl rfl rfl (Nat.le_of_ble_eq_true rfl) dX8_readNumber_92 rfl (fun H locs hH => ?_)
      have hr9 := Option.some.inj h
      obtain rfl := hr9
      rw [hQ]
      exact z_retv K hr hH [0, 1] (by decide) rfl dX8_readNumber_95
    replace h := hj3
    refine lv_icmp_le (tgt := 91) K.x K.b dX8_readNumber_84 (by decide) (fun c4 => ?_) (fun c4 => ?_)
    · replace h := z_t c4 h
      refine lv_iconst (v := (2)) K.x K.b dX8_readNumber_91 (by decide) ?_
      obtain rfl := Option.some.inj h
      exact Kj3 _ _ _ hH (lv_sub hl [] rfl)
    · replace h := z_f c4 h
      refine lv_iconst (v := (4)) K.x K.b dX8_readNumber_87 (by decide) ?_
      refine lv_goto (tgt := 92) K.x K.b dX8_readNumber_88 (by decide) ?_
      obtain rfl := Option.some.inj h
      exact Kj3 _ _ _ hH (lv_sub hl [] rfl)
  refine z_lp_ind (P := fun (s1 : Int32 × Int32) => ∀ (H : Heap) (locs : List Loc) (ls : Array Slot), z_H D A s.heap [(o, .inr (7, [g_w, g_kept, .ref o_text, .int v_size, g_above, g_below, g_bads, g_noes, g_fulls, .int s1.1, .int v_from, .int v_token, .int s1.2, g_readFault, g_yet, g_fars, g_tells])), (o_text, .inl (y 0, 150, .inl f_text))] H locs → lv_has ls 1 [(0, .ref o)] → W p l e (zR 2 43) s m args below meth c H locs 0 0 Q (F0 m 5 ls [])) ?_ _ hlpe2 _ _ _ hH (lv_sub hl [0] rfl)
  clear h hlpe2
  intro s1 x5 h ihe2 hee2 H locs ls hH hl
  refine lv_aload_n K.x K.b dX8_readNumber_5 rfl (lv_at hl 0 rfl) ?_
  refine lv_aload_n K.x K.b dX8_readNumber_6 rfl (lv_at hl 0 rfl) ?_
  refine z_get K hH 0 rfl zin_8 rfl 9 (by decide) tw_4_105 (v := .int s1.1) rfl dX8_readNumber_7 ?_
  obtain ⟨r6, hr7, h⟩ := z_bd_e h
  refine z_Vi K hH hl.1 (c_X8_isFigure l D y o o_text (g_w) (g_kept) (g_above) (g_below) (g_bads) (g_noes) (g_fulls) (.int s1.1) (.int v_from) (.int v_token) (.int s1.2) (g_readFault) (g_yet) (g_fars) (g_tells) v_size f_text s1.1 r6 hr7) (z_cwV K 1 tw_4_207 tw_4_209 tw_0_44 tw_1_8 tw_4_210 hd_X8_isFigure ⟨by decide, by decide⟩) [0, 1] [] rfl (wr := []) rfl rfl rfl (by decide) rfl rfl rfl (As := [.int s1.1]) (rest := []) rfl (Nat.le_of_ble_eq_true rfl) ⟨Nat.zero_le _, Nat.zero_le _⟩ dX8_readNumber_10 (ws' := [(o, .inr (7, [g_w, g_kept, .ref o_text, .int v_size, g_above, g_below, g_bads, g_noes, g_fulls, .int s1.1, .int v_from, .int v_token, .int s1.2, g_readFault, g_yet, g_fars, g_tells])), (o_text, .inl (y 0, 150, .inl f_text))]) rfl (fun H locs hH => ?_)
  refine lv_if_eq (tgt := 73) K.x K.b dX8_readNumber_13 (by decide) (fun c8 => ?_) (fun c8 => ?_)
  · replace h := z_t c8 h
    obtain rfl := hee2 _ (Option.some.inj h).symm
    exact KEe2 _ _ _ hH (lv_sub hl [0] rfl)
  · replace h := z_f c8 h
    refine lv_aload_n K.x K.b dX8_readNumber_16 rfl (lv_at hl 0 rfl) ?_
    refine lv_aload_n K.x K.b dX8_readNumber_17 rfl (lv_at hl 0 rfl) ?_
    refine z_get K hH 0 rfl zin_8 rfl 9 (by decide) tw_4_105 (v := .int s1.1) rfl dX8_readNumber_18 ?_
    refine lv_aload_n K.x K.b dX8_readNumber_21 rfl (lv_at hl 0 rfl) ?_
    refine z_get K hH 0 rfl zin_8 rfl 10 (by decide) tw_4_106 (v := .int v_from) rfl dX8_readNumber_22 ?_
    refine lv_isub K.x K.b dX8_readNumber_25 ?_
    refine lv_iconst (v := (2)) K.x K.b dX8_readNumber_26 (by decide) ?_
    obtain ⟨j9, hj9, h⟩ := z_bd_e h
    have Kj9 : ∀ (H : Heap) (locs : List Loc) (ls : Array Slot), z_H D A s.heap [(o, .inr (7, [g_w, g_kept, .ref o_text, .int v_size, g_above, g_below, g_bads, g_noes, g_fulls, .int s1.1, .int v_from, .int v_token, .int s1.2, g_readFault, g_yet, g_fars, g_tells])), (o_text, .inl (y 0, 150, .inl f_text))] H locs → lv_has ls 1 [(0, .ref o)] → W p l e (zR 2 43) s m args below meth c H locs 0 0 Q (F0 m 57 ls [.int j9, .ref o]) := by
      intro H locs ls hH hl
      refine z_put K hH 0 (ws' := [(o, .inr (7, [g_w, g_kept, .ref o_text, .int v_size, g_above, g_below, g_bads, g_noes, g_fulls, .int s1.1, .int v_from, .int v_token, .int j9, g_readFault, g_yet, g_fars, g_tells])), (o_text, .inl (y 0, 150, .inl f_text))]) rfl zin_8 rfl tyX8 tyX8_ok nmX8 12 (by decide) tw_4_108 rfl rfl rfl (Nat.le_of_ble_eq_true rfl) dX8_readNumber_57 rfl (fun H locs hH => ?_)
      refine lv_aload_n K.x K.b dX8_readNumber_60 rfl (lv_at hl 0 rfl) ?_
      refine lv_dup K.x K.b dX8_readNumber_61 rfl ?_
      refine z_get K hH 0 rfl zin_8 rfl 9 (by decide) tw_4_105 (v := .int s1.1) rfl dX8_readNumber_62 ?_
      refine lv_iconst (v := (1)) K.x K.b dX8_readNumber_65 (by decide) ?_
      refine lv_iadd K.x K.b dX8_readNumber_66 ?_
      obtain ⟨x10, ex10, h⟩ := z_lt_e h
      refine z_nm ex10 ?_
      refine z_put K hH 0 (ws' := [(o, .inr (7, [g_w, g_kept, .ref o_text, .int v_size, g_above, g_below, g_bads, g_noes, g_fulls, .int x10, .int v_from, .int v_token, .int j9, g_readFault, g_yet, g_fars, g_tells])), (o_text, .inl (y 0, 150, .inl f_text))]) rfl zin_8 rfl tyX8 tyX8_ok nmX8 9 (by decide) tw_4_105 rfl rfl rfl (Nat.le_of_ble_eq_true rfl) dX8_readNumber_67 rfl (fun H locs hH => ?_)
      refine lv_goto (tgt := 5) K.x K.b dX8_readNumber_70 (by decide) ?_
      exact ihe2 _ (Option.some.inj h).symm _ _ _ hH (lv_sub hl [0] rfl)
    replace h := hj9
    refine lv_icmp_ge (tgt := 53) K.x K.b dX8_readNumber_27 (by decide) (fun c11 => ?_) (fun c11 => ?_)
    · replace h := z_t c11 h
      refine lv_aload_n K.x K.b dX8_readNumber_53 rfl (lv_at hl 0 rfl) ?_
      refine z_get K hH 0 rfl zin_8 rfl 12 (by decide) tw_4_108 (v := .int s1.2) rfl dX8_readNumber_54 ?_
      obtain rfl := Option.some.inj h
      exact Kj9 _ _ _ hH (lv_sub hl [0] rfl)
    · replace h := z_f c11 h
      refine lv_bipush (v := (10)) K.x K.b dX8_readNumber_30 (by decide) ?_
      refine lv_aload_n K.x K.b dX8_readNumber_32 rfl (lv_at hl 0 rfl) ?_
      refine z_get K hH 0 rfl zin_8 rfl 12 (by decide) tw_4_108 (v := .int s1.2) rfl dX8_readNumber_33 ?_
      refine lv_imul K.x K.b dX8_readNumber_36 ?_
      refine lv_aload_n K.x K.b dX8_readNumber_37 rfl (lv_at hl 0 rfl) ?_
      refine z_get K hH 0 rfl zin_8 rfl 2 (by decide) tw_4_98 (v := .ref o_text) rfl dX8_readNumber_38 ?_
      refine lv_aload_n K.x K.b dX8_readNumber_41 rfl (lv_at hl 0 rfl) ?_
      refine z_get K hH 0 rfl zin_8 rfl 9 (by decide) tw_4_105 (v := .int s1.1) rfl dX8_readNumber_42 ?_
      obtain ⟨g12, h⟩ := z_gd_e h
      refine z_iald K hH 1 (k := s1.1.toNatClampNeg) rfl g12 rfl dX8_readNumber_45 ?_
      refine lv_iadd K.x K.b dX8_readNumber_46 ?_
      refine lv_bipush (v := (48)) K.x K.b dX8_readNumber_47 (by decide) ?_
      refine lv_isub K.x K.b dX8_readNumber_49 ?_
      refine lv_goto (tgt := 57) K.x K.b dX8_readNumber_50 (by decide) ?_
      obtain rfl := Option.some.inj h
      exact Kj9 _ _ _ hH (lv_sub hl [0] rfl)
noncomputable def p_X8_nextToken (v_size : Int32) (v_at : Int32) (v_from : Int32) (v_token : Int32) (v_value : Int32) (f_text : (Nat → Int32)) : Option (Int32 × Int32 × Int32 × Int32) :=
  z_bd (z_lp (S := Int32) (E := Int32) (fun s1 =>
  if (v_size ≤ s1) then
  (some (.inr s1)) else
  (z_gd (z_in s1 150) <|
  if ((f_text s1.toNatClampNeg) = (32 : Int32)) then
  (z_lt ((s1 + (1 : Int32))) fun x28 =>
  some (.inl x28)) else
  (some (.inr s1)))) v_at) fun e2 =>
  z_bd (α := Int32 × Int32 × Int32) (if (e2 = v_size) then
  (some (e2, (0 : Int32), v_value)) else
  (z_bd (p_X8_isLetter v_size f_text e2) fun r5 =>
  if (r5 = 0) then
  (z_bd (p_X8_isFigure v_size f_text e2) fun r8 =>
  if (r8 = 0) then
  (z_gd (z_in e2 150) <|
  z_bd (α := Int32) (if ((f_text e2.toNatClampNeg) = (59 : Int32)) then
  (some (3 : Int32)) else
  (some (4 : Int32))) fun j12 =>
  z_lt ((e2 + (1 : Int32))) fun x13 =>
  some (x13, j12, v_value)) else
  (z_bd (p_X8_readNumber v_size e2 e2 v_token v_value f_text) fun r15 =>
  some (r15.1, r15.2.1, r15.2.2))) else
  (z_bd (z_lp (S := Int32) (E := Int32) (fun s17 =>
  z_bd (p_X8_isLetter v_size f_text s17) fun r20 =>
  if (r20 = 0) then
  (some (.inr s17)) else
  (z_lt ((s17 + (1 : Int32))) fun x23 =>
  some (.inl x23))) e2) fun e18 =>
  some (e18, (1 : Int32), v_value)))) fun j3 =>
  some (j3.1, e2, j3.2.1, j3.2.2)
theorem hd_X8_nextToken : yX8_nextToken.cls = RX8 ∧ yX8_nextToken.cls ≠ "java/lang/invoke/MethodHandle" ∧ yX8_nextToken.cls ≠ "java/lang/invoke/VarHandle" ∧ (parseMethodDescriptor yX8_nextToken.desc).map (fun d => d.parameters.length) = some 0 := by decide +kernel
set_option maxHeartbeats 4000000 in
set_option maxRecDepth 100000 in
theorem c_X8_nextToken (l : Launch) (D : va_G) (y : Nat → ClassId) (o o_text : Nat) (g_w g_kept g_above g_below g_bads g_noes g_fulls g_readFault g_yet g_fars g_tells : Value) (v_size : Int32) (v_at : Int32) (v_from : Int32) (v_token : Int32) (v_value : Int32) (f_text : (Nat → Int32)) (r : Int32 × Int32 × Int32 × Int32) (h : p_X8_nextToken v_size v_at v_from v_token v_value f_text = some r) : z_MV l yX8_nextToken cX8_nextToken 1 none 3 63 D y [.ref o] [(o, .inr (7, [g_w, g_kept, .ref o_text, .int v_size, g_above, g_below, g_bads, g_noes, g_fulls, .int v_at, .int v_from, .int v_token, .int v_value, g_readFault, g_yet, g_fars, g_tells])), (o_text, .inl (y 0, 150, .inl f_text))] [(o, .inr (7, [g_w, g_kept, .ref o_text, .int v_size, g_above, g_below, g_bads, g_noes, g_fulls, .int r.1, .int r.2.1, .int r.2.2.1, .int r.2.2.2, g_readFault, g_yet, g_fars, g_tells])), (o_text, .inl (y 0, 150, .inl f_text))] := by
  unfold p_X8_nextToken at h
  refine z_enV (by decide) (Nat.le_of_ble_eq_true rfl) ?_
  intro p e s m args below meth c A ls hr K hH hl
  obtain ⟨Q, hQ⟩ : ∃ Q, Q = MQ below (z_Qv D y A [(o, .inr (7, [g_w, g_kept, .ref o_text, .int v_size, g_above, g_below, g_bads, g_noes, g_fulls, .int r.1, .int r.2.1, .int r.2.2.1, .int r.2.2.2, g_readFault, g_yet, g_fars, g_tells])), (o_text, .inl (y 0, 150, .inl f_text))]) args s 0 0 A := ⟨_, rfl⟩
  rw [← hQ]
  have hl : lv_has ls 1 [(0, .ref o)] := hl
  obtain ⟨e2, hlpe2, h⟩ := z_bd_e h
  have KEe2 : ∀ (H : Heap) (locs : List Loc) (ls : Array Slot), z_H D A s.heap [(o, .inr (7, [g_w, g_kept, .ref o_text, .int v_size, g_above, g_below, g_bads, g_noes, g_fulls, .int e2, .int v_from, .int v_token, .int v_value, g_readFault, g_yet, g_fars, g_tells])), (o_text, .inl (y 0, 150, .inl f_text))] H locs → lv_has ls 1 [(0, .ref o)] → W p l e (zR 3 63) s m args below meth c H locs 0 0 Q (F0 m 38 ls []) := by
    intro H locs ls hH hl
    refine lv_aload_n K.x K.b dX8_nextToken_38 rfl (lv_at hl 0 rfl) ?_
    refine lv_aload_n K.x K.b dX8_nextToken_39 rfl (lv_at hl 0 rfl) ?_
    refine z_get K hH 0 rfl zin_8 rfl 9 (by decide) tw_4_105 (v := .int e2) rfl dX8_nextToken_40 ?_
    refine z_put K hH 0 (ws' := [(o, .inr (7, [g_w, g_kept, .ref o_text, .int v_size, g_above, g_below, g_bads, g_noes, g_fulls, .int e2, .int e2, .int v_token, .int v_value, g_readFault, g_yet, g_fars, g_tells])), (o_text, .inl (y 0, 150, .inl f_text))]) rfl zin_8 rfl tyX8 tyX8_ok nmX8 10 (by decide) tw_4_106 rfl rfl rfl (Nat.le_of_ble_eq_true rfl) dX8_nextToken_43 rfl (fun H locs hH => ?_)
    refine lv_aload_n K.x K.b dX8_nextToken_46 rfl (lv_at hl 0 rfl) ?_
    refine z_get K hH 0 rfl zin_8 rfl 9 (by decide) tw_4_105 (v := .int e2) rfl dX8_nextToken_47 ?_
    refine lv_aload_n K.x K.b dX8_nextToken_50 rfl (lv_at hl 0 rfl) ?_
    refine z_get K hH 0 rfl zin_8 rfl 3 (by decide) tw_4_99 (v := .int v_size) rfl dX8_nextToken_51 ?_
    obtain ⟨j3, hj3, h⟩ := z_bd_e h
    have Kj3 : ∀ (H : Heap) (locs : List Loc) (ls : Array Slot), z_H D A s.heap [(o, .inr (7, [g_w, g_kept, .ref o_text, .int v_size, g_above, g_below, g_bads, g_noes, g_fulls, .int j3.1, .int e2, .int j3.2.1, .int j3.2.2, g_readFault, g_yet, g_fars, g_tells])), (o_text, .inl (y 0, 150, .inl f_text))] H locs → lv_has ls 1 [] → W p l e (zR 3 63) s m args below meth c H locs 0 0 Q (F0 m 156 ls []) := by
      intro H locs ls hH hl
      have hr9 := Option.some.inj h
      obtain rfl := hr9
      rw [hQ]
      exact z_retv K hr hH [0, 1] (by decide) rfl dX8_nextToken_156
    replace h := hj3
    refine lv_icmp_ne (tgt := 65) K.x K.b dX8_nextToken_54 (by decide) (fun c4 => ?_) (fun c4 => ?_)
    · replace h := z_f c4 h
      refine lv_aload_n K.x K.b dX8_nextToken_65 rfl (lv_at hl 0 rfl) ?_
      refine lv_aload_n K.x K.b dX8_nextToken_66 rfl (lv_at hl 0 rfl) ?_
      refine z_get K hH 0 rfl zin_8 rfl 9 (by decide) tw_4_105 (v := .int e2) rfl dX8_nextToken_67 ?_
      obtain ⟨r5, hr6, h⟩ := z_bd_e h
      refine z_Vi K hH hl.1 (c_X8_isLetter l D y o o_text (g_w) (g_kept) (g_above) (g_below) (g_bads) (g_noes) (g_fulls) (.int e2) (.int e2) (.int v_token) (.int v_value) (g_readFault) (g_yet) (g_fars) (g_tells) v_size f_text e2 r5 hr6) (z_cwV K 1 tw_4_203 tw_4_205 tw_0_43 tw_1_8 tw_4_206 hd_X8_isLetter ⟨by decide, by decide⟩) [0, 1] [] rfl (wr := []) rfl rfl rfl (by decide) rfl rfl rfl (As := [.int e2]) (rest := []) rfl (Nat.le_of_ble_eq_true rfl) ⟨Nat.zero_le _, Nat.zero_le _⟩ dX8_nextToken_70 (ws' := [(o, .inr (7, [g_w, g_kept, .ref o_text, .int v_size, g_above, g_below, g_bads, g_noes, g_fulls, .int e2, .int e2, .int v_token, .int v_value, g_readFault, g_yet, g_fars, g_tells])), (o_text, .inl (y 0, 150, .inl f_text))]) rfl (fun H locs hH => ?_)
      refine lv_if_eq (tgt := 105) K.x K.b dX8_nextToken_73 (by decide) (fun c7 => ?_) (fun c7 => ?_)
      · replace h := z_t c7 h
        refine lv_aload_n K.x K.b dX8_nextToken_105 rfl (lv_at hl 0 rfl) ?_
        refine lv_aload_n K.x K.b dX8_nextToken_106 rfl (lv_at hl 0 rfl) ?_
        refine z_get K hH 0 rfl zin_8 rfl 9 (by decide) tw_4_105 (v := .int e2) rfl dX8_nextToken_107 ?_
        obtain ⟨r8, hr9, h⟩ := z_bd_e h
        refine z_Vi K hH hl.1 (c_X8_isFigure l D y o o_text (g_w) (g_kept) (g_above) (g_below) (g_bads) (g_noes) (g_fulls) (.int e2) (.int e2) (.int v_token) (.int v_value) (g_readFault) (g_yet) (g_fars) (g_tells) v_size f_text e2 r8 hr9) (z_cwV K 1 tw_4_207 tw_4_209 tw_0_44 tw_1_8 tw_4_210 hd_X8_isFigure ⟨by decide, by decide⟩) [0, 1] [] rfl (wr := []) rfl rfl rfl (by decide) rfl rfl rfl (As := [.int e2]) (rest := []) rfl (Nat.le_of_ble_eq_true rfl) ⟨Nat.zero_le _, Nat.zero_le _⟩ dX8_nextToken_110 (ws' := [(o, .inr (7, [g_w, g_kept, .ref o_text, .int v_size, g_above, g_below, g_bads, g_noes, g_fulls, .int e2, .int e2, .int v_token, .int v_value, g_readFault, g_yet, g_fars, g_tells])), (o_text, .inl (y 0, 150, .inl f_text))]) rfl (fun H locs hH => ?_)
        refine lv_if_eq (tgt := 123) K.x K.b dX8_nextToken_113 (by decide) (fun c10 => ?_) (fun c10 => ?_)
        · replace h := z_t c10 h
          refine lv_aload_n K.x K.b dX8_nextToken_123 rfl (lv_at hl 0 rfl) ?_
          refine lv_aload_n K.x K.b dX8_nextToken_124 rfl (lv_at hl 0 rfl) ?_
          refine z_get K hH 0 rfl zin_8 rfl 2 (by decide) tw_4_98 (v := .ref o_text) rfl dX8_nextToken_125 ?_
          refine lv_aload_n K.x K.b dX8_nextToken_128 rfl (lv_at hl 0 rfl) ?_
          refine z_get K hH 0 rfl zin_8 rfl 9 (by decide) tw_4_105 (v := .int e2) rfl dX8_nextToken_129 ?_
          obtain ⟨g11, h⟩ := z_gd_e h
          refine z_iald K hH 1 (k := e2.toNatClampNeg) rfl g11 rfl dX8_nextToken_132 ?_
          refine lv_bipush (v := (59)) K.x K.b dX8_nextToken_133 (by decide) ?_
          obtain ⟨j12, hj12, h⟩ := z_bd_e h
          have Kj12 : ∀ (H : Heap) (locs : List Loc) (ls : Array Slot), z_H D A s.heap [(o, .inr (7, [g_w, g_kept, .ref o_text, .int v_size, g_above, g_below, g_bads, g_noes, g_fulls, .int e2, .int e2, .int v_token, .int v_value, g_readFault, g_yet, g_fars, g_tells])), (o_text, .inl (y 0, 150, .inl f_text))] H locs → lv_has ls 1 [(0, .ref o)] → W p l e (zR 3 63) s m args below meth c H locs 0 0 Q (F0 m 143 ls [.int j12, .ref o]) := by
            intro H locs ls hH hl
            refine z_put K hH 0 (ws' := [(o, .inr (7, [g_w, g_kept, .ref o_text, .int v_size, g_above, g_below, g_bads, g_noes, g_fulls, .int e2, .int e2, .int j12, .int v_value, g_readFault, g_yet, g_fars, g_tells])), (o_text, .inl (y 0, 150, .inl f_text))]) rfl zin_8 rfl tyX8 tyX8_ok nmX8 11 (by decide) tw_4_107 rfl rfl rfl (Nat.le_of_ble_eq_true rfl) dX8_nextToken_143 rfl (fun H locs hH => ?_)
            refine lv_aload_n K.x K.b dX8_nextToken_146 rfl (lv_at hl 0 rfl) ?_
            refine lv_dup K.x K.b dX8_nextToken_147 rfl ?_
            refine z_get K hH 0 rfl zin_8 rfl 9 (by decide) tw_4_105 (v := .int e2) rfl dX8_nextToken_148 ?_
            refine lv_iconst (v := (1)) K.x K.b dX8_nextToken_151 (by decide) ?_
            refine lv_iadd K.x K.b dX8_nextToken_152 ?_
            obtain ⟨x13, ex13, h⟩ := z_lt_e h
            refine z_nm ex13 ?_
            refine z_put K hH 0 (ws' := [(o, .inr (7, [g_w, g_kept, .ref o_text, .int v_size, g_above, g_below, g_bads, g_noes, g_fulls, .int x13, .int e2, .int j12, .int v_value, g_readFault, g_yet, g_fars, g_tells])), (o_text, .inl (y 0, 150, .inl f_text))]) rfl zin_8 rfl tyX8 tyX8_ok nmX8 9 (by decide) tw_4_105 rfl rfl rfl (Nat.le_of_ble_eq_true rfl) dX8_nextToken_153 rfl (fun H locs hH => ?_)
            obtain rfl := Option.some.inj h
            exact Kj3 _ _ _ hH (lv_sub hl [] rfl)
          replace h := hj12
          refine lv_icmp_ne (tgt := 142) K.x K.b dX8_nextToken_135 (by decide) (fun c14 => ?_) (fun c14 => ?_)
          · replace h := z_f c14 h
            refine lv_iconst (v := (4)) K.x K.b dX8_nextToken_142 (by decide) ?_
            obtain rfl := Option.some.inj h
            exact Kj12 _ _ _ hH (lv_sub hl [0] rfl)
          · replace h := z_t c14 h
            refine lv_iconst (v := (3)) K.x K.b dX8_nextToken_138 (by decide) ?_
            refine lv_goto (tgt := 143) K.x K.b dX8_nextToken_139 (by decide) ?_
            obtain rfl := Option.some.inj h
            exact Kj12 _ _ _ hH (lv_sub hl [0] rfl)
        · replace h := z_f c10 h
          refine lv_aload_n K.x K.b dX8_nextToken_116 rfl (lv_at hl 0 rfl) ?_
          obtain ⟨r15, hr16, h⟩ := z_bd_e h
          refine z_Vv K hH hl.1 (c_X8_readNumber l D y o o_text (g_w) (g_kept) (g_above) (g_below) (g_bads) (g_noes) (g_fulls) (g_readFault) (g_yet) (g_fars) (g_tells) v_size e2 e2 v_token v_value f_text r15 hr16) (z_cwV K 0 tw_4_211 tw_4_213 tw_0_45 tw_1_8 tw_4_214 hd_X8_readNumber ⟨by decide, by decide⟩) [0, 1] [] rfl (wr := []) rfl rfl rfl (by decide) rfl rfl rfl (As := []) (rest := []) rfl (Nat.le_of_ble_eq_true rfl) ⟨Nat.zero_le _, Nat.zero_le _⟩ dX8_nextToken_117 (ws' := [(o, .inr (7, [g_w, g_kept, .ref o_text, .int v_size, g_above, g_below, g_bads, g_noes, g_fulls, .int r15.1, .int e2, .int r15.2.1, .int r15.2.2, g_readFault, g_yet, g_fars, g_tells])), (o_text, .inl (y 0, 150, .inl f_text))]) rfl (fun H locs hH => ?_)
          refine lv_goto (tgt := 156) K.x K.b dX8_nextToken_120 (by decide) ?_
          obtain rfl := Option.some.inj h
          exact Kj3 _ _ _ hH (lv_sub hl [] rfl)
      · replace h := z_f c7 h
        refine lv_aload_n K.x K.b dX8_nextToken_76 rfl (lv_at hl 0 rfl) ?_
        refine lv_iconst (v := (1)) K.x K.b dX8_nextToken_77 (by decide) ?_
        refine z_put K hH 0 (ws' := [(o, .inr (7, [g_w, g_kept, .ref o_text, .int v_size, g_above, g_below, g_bads, g_noes, g_fulls, .int e2, .int e2, .int (1 : Int32), .int v_value, g_readFault, g_yet, g_fars, g_tells])), (o_text, .inl (y 0, 150, .inl f_text))]) rfl zin_8 rfl tyX8 tyX8_ok nmX8 11 (by decide) tw_4_107 rfl rfl rfl (Nat.le_of_ble_eq_true rfl) dX8_nextToken_78 rfl (fun H locs hH => ?_)
        obtain ⟨e18, hlpe18, h⟩ := z_bd_e h
        have KEe18 : ∀ (H : Heap) (locs : List Loc) (ls : Array Slot), z_H D A s.heap [(o, .inr (7, [g_w, g_kept, .ref o_text, .int v_size, g_above, g_below, g_bads, g_noes, g_fulls, .int e18, .int e2, .int (1 : Int32), .int v_value, g_readFault, g_yet, g_fars, g_tells])), (o_text, .inl (y 0, 150, .inl f_text))] H locs → lv_has ls 1 [] → W p l e (zR 3 63) s m args below meth c H locs 0 0 Q (F0 m 156 ls []) := by
          intro H locs ls hH hl
          obtain rfl := Option.some.inj h
          exact Kj3 _ _ _ hH (lv_sub hl [] rfl)
        refine z_lp_ind (P := fun (s17 : Int32) => ∀ (H : Heap) (locs : List Loc) (ls : Array Slot), z_H D A s.heap [(o, .inr (7, [g_w, g_kept, .ref o_text, .int v_size, g_above, g_below, g_bads, g_noes, g_fulls, .int s17, .int e2, .int (1 : Int32), .int v_value, g_readFault, g_yet, g_fars, g_tells])), (o_text, .inl (y 0, 150, .inl f_text))] H locs → lv_has ls 1 [(0, .ref o)] → W p l e (zR 3 63) s m args below meth c H locs 0 0 Q (F0 m 81 ls [])) ?_ _ hlpe18 _ _ _ hH (lv_sub hl [0] rfl)
        clear h hlpe18
        intro s17 x19 h ihe18 hee18 H locs ls hH hl
        refine lv_aload_n K.x K.b dX8_nextToken_81 rfl (lv_at hl 0 rfl) ?_
        refine lv_aload_n K.x K.b dX8_nextToken_82 rfl (lv_at hl 0 rfl) ?_
        refine z_get K hH 0 rfl zin_8 rfl 9 (by decide) tw_4_105 (v := .int s17) rfl dX8_nextToken_83 ?_
        obtain ⟨r20, hr21, h⟩ := z_bd_e h
        refine z_Vi K hH hl.1 (c_X8_isLetter l D y o o_text (g_w) (g_kept) (g_above) (g_below) (g_bads) (g_noes) (g_fulls) (.int s17) (.int e2) (.int (1 : Int32)) (.int v_value) (g_readFault) (g_yet) (g_fars) (g_tells) v_size f_text s17 r20 hr21) (z_cwV K 1 tw_4_203 tw_4_205 tw_0_43 tw_1_8 tw_4_206 hd_X8_isLetter ⟨by decide, by decide⟩) [0, 1] [] rfl (wr := []) rfl rfl rfl (by decide) rfl rfl rfl (As := [.int s17]) (rest := []) rfl (Nat.le_of_ble_eq_true rfl) ⟨Nat.zero_le _, Nat.zero_le _⟩ dX8_nextToken_86 (ws' := [(o, .inr (7, [g_w, g_kept, .ref o_text, .int v_size, g_above, g_below, g_bads, g_noes, g_fulls, .int s17, .int e2, .int (1 : Int32), .int v_value, g_readFault, g_yet, g_fars, g_tells])), (o_text, .inl (y 0, 150, .inl f_text))]) rfl (fun H locs hH => ?_)
        refine lv_if_eq (tgt := 156) K.x K.b dX8_nextToken_89 (by decide) (fun c22 => ?_) (fun c22 => ?_)
        · replace h := z_t c22 h
          obtain rfl := hee18 _ (Option.some.inj h).symm
          exact KEe18 _ _ _ hH (lv_sub hl [] rfl)
        · replace h := z_f c22 h
          refine lv_aload_n K.x K.b dX8_nextToken_92 rfl (lv_at hl 0 rfl) ?_
          refine lv_dup K.x K.b dX8_nextToken_93 rfl ?_
          refine z_get K hH 0 rfl zin_8 rfl 9 (by decide) tw_4_105 (v := .int s17) rfl dX8_nextToken_94 ?_
          refine lv_iconst (v := (1)) K.x K.b dX8_nextToken_97 (by decide) ?_
          refine lv_iadd K.x K.b dX8_nextToken_98 ?_
          obtain ⟨x23, ex23, h⟩ := z_lt_e h
          refine z_nm ex23 ?_
          refine z_put K hH 0 (ws' := [(o, .inr (7, [g_w, g_kept, .ref o_text, .int v_size, g_above, g_below, g_bads, g_noes, g_fulls, .int x23, .int e2, .int (1 : Int32), .int v_value, g_readFault, g_yet, g_fars, g_tells])), (o_text, .inl (y 0, 150, .inl f_text))]) rfl zin_8 rfl tyX8 tyX8_ok nmX8 9 (by decide) tw_4_105 rfl rfl rfl (Nat.le_of_ble_eq_true rfl) dX8_nextToken_99 rfl (fun H locs hH => ?_)
          refine lv_goto (tgt := 81) K.x K.b dX8_nextToken_102 (by decide) ?_
          exact ihe18 _ (Option.some.inj h).symm _ _ _ hH (lv_sub hl [0] rfl)
    · replace h := z_t c4 h
      refine lv_aload_n K.x K.b dX8_nextToken_57 rfl (lv_at hl 0 rfl) ?_
      refine lv_iconst (v := (0)) K.x K.b dX8_nextToken_58 (by decide) ?_
      refine z_put K hH 0 (ws' := [(o, .inr (7, [g_w, g_kept, .ref o_text, .int v_size, g_above, g_below, g_bads, g_noes, g_fulls, .int e2, .int e2, .int (0 : Int32), .int v_value, g_readFault, g_yet, g_fars, g_tells])), (o_text, .inl (y 0, 150, .inl f_text))]) rfl zin_8 rfl tyX8 tyX8_ok nmX8 11 (by decide) tw_4_107 rfl rfl rfl (Nat.le_of_ble_eq_true rfl) dX8_nextToken_59 rfl (fun H locs hH => ?_)
      refine lv_goto (tgt := 156) K.x K.b dX8_nextToken_62 (by decide) ?_
      obtain rfl := Option.some.inj h
      exact Kj3 _ _ _ hH (lv_sub hl [] rfl)
  refine z_lp_ind (P := fun (s1 : Int32) => ∀ (H : Heap) (locs : List Loc) (ls : Array Slot), z_H D A s.heap [(o, .inr (7, [g_w, g_kept, .ref o_text, .int v_size, g_above, g_below, g_bads, g_noes, g_fulls, .int s1, .int v_from, .int v_token, .int v_value, g_readFault, g_yet, g_fars, g_tells])), (o_text, .inl (y 0, 150, .inl f_text))] H locs → lv_has ls 1 [(0, .ref o)] → W p l e (zR 3 63) s m args below meth c H locs 0 0 Q (F0 m 0 ls [])) ?_ _ hlpe2 _ _ _ hH (lv_sub hl [0] rfl)
  clear h hlpe2
  intro s1 x24 h ihe2 hee2 H locs ls hH hl
  refine lv_aload_n K.x K.b dX8_nextToken_0 rfl (lv_at hl 0 rfl) ?_
  refine z_get K hH 0 rfl zin_8 rfl 9 (by decide) tw_4_105 (v := .int s1) rfl dX8_nextToken_1 ?_
  refine lv_aload_n K.x K.b dX8_nextToken_4 rfl (lv_at hl 0 rfl) ?_
  refine z_get K hH 0 rfl zin_8 rfl 3 (by decide) tw_4_99 (v := .int v_size) rfl dX8_nextToken_5 ?_
  refine lv_icmp_ge (tgt := 38) K.x K.b dX8_nextToken_8 (by decide) (fun c25 => ?_) (fun c25 => ?_)
  · replace h := z_t c25 h
    obtain rfl := hee2 _ (Option.some.inj h).symm
    exact KEe2 _ _ _ hH (lv_sub hl [0] rfl)
  · replace h := z_f c25 h
    refine lv_aload_n K.x K.b dX8_nextToken_11 rfl (lv_at hl 0 rfl) ?_
    refine z_get K hH 0 rfl zin_8 rfl 2 (by decide) tw_4_98 (v := .ref o_text) rfl dX8_nextToken_12 ?_
    refine lv_aload_n K.x K.b dX8_nextToken_15 rfl (lv_at hl 0 rfl) ?_
    refine z_get K hH 0 rfl zin_8 rfl 9 (by decide) tw_4_105 (v := .int s1) rfl dX8_nextToken_16 ?_
    obtain ⟨g26, h⟩ := z_gd_e h
    refine z_iald K hH 1 (k := s1.toNatClampNeg) rfl g26 rfl dX8_nextToken_19 ?_
    refine lv_bipush (v := (32)) K.x K.b dX8_nextToken_20 (by decide) ?_
    refine lv_icmp_ne (tgt := 38) K.x K.b dX8_nextToken_22 (by decide) (fun c27 => ?_) (fun c27 => ?_)
    · replace h := z_f c27 h
      obtain rfl := hee2 _ (Option.some.inj h).symm
      exact KEe2 _ _ _ hH (lv_sub hl [0] rfl)
    · replace h := z_t c27 h
      refine lv_aload_n K.x K.b dX8_nextToken_25 rfl (lv_at hl 0 rfl) ?_
      refine lv_dup K.x K.b dX8_nextToken_26 rfl ?_
      refine z_get K hH 0 rfl zin_8 rfl 9 (by decide) tw_4_105 (v := .int s1) rfl dX8_nextToken_27 ?_
      refine lv_iconst (v := (1)) K.x K.b dX8_nextToken_30 (by decide) ?_
      refine lv_iadd K.x K.b dX8_nextToken_31 ?_
      obtain ⟨x28, ex28, h⟩ := z_lt_e h
      refine z_nm ex28 ?_
      refine z_put K hH 0 (ws' := [(o, .inr (7, [g_w, g_kept, .ref o_text, .int v_size, g_above, g_below, g_bads, g_noes, g_fulls, .int x28, .int v_from, .int v_token, .int v_value, g_readFault, g_yet, g_fars, g_tells])), (o_text, .inl (y 0, 150, .inl f_text))]) rfl zin_8 rfl tyX8 tyX8_ok nmX8 9 (by decide) tw_4_105 rfl rfl rfl (Nat.le_of_ble_eq_true rfl) dX8_nextToken_32 rfl (fun H locs hH => ?_)
      refine lv_goto (tgt := 0) K.x K.b dX8_nextToken_35 (by decide) ?_
      exact ihe2 _ (Option.some.inj h).symm _ _ _ hH (lv_sub hl [0] rfl)
def p_X8_wrong (v_from : Int32) (v_readFault : Int32) : Option (Int32) :=
  z_bd (α := Int32) (if (v_readFault = (-1 : Int32)) then
  (some v_from) else
  (some v_readFault)) fun j1 =>
  some j1
theorem hd_X8_wrong : yX8_wrong.cls = RX8 ∧ yX8_wrong.cls ≠ "java/lang/invoke/MethodHandle" ∧ yX8_wrong.cls ≠ "java/lang/invoke/VarHandle" ∧ (parseMethodDescriptor yX8_wrong.desc).map (fun d => d.parameters.length) = some 0 := by decide +kernel
set_option maxHeartbeats 4000000 in
set_option maxRecDepth 100000 in
theorem c_X8_wrong (l : Launch) (D : va_G) (y : Nat → ClassId) (o : Nat) (g_w g_kept g_text g_size g_above g_below g_bads g_noes g_fulls g_at g_token g_value g_yet g_fars g_tells : Value) (v_from : Int32) (v_readFault : Int32) (r : Int32) (h : p_X8_wrong v_from v_readFault = some r) : z_MV l yX8_wrong cX8_wrong 1 none 0 0 D y [.ref o] [(o, .inr (7, [g_w, g_kept, g_text, g_size, g_above, g_below, g_bads, g_noes, g_fulls, g_at, .int v_from, g_token, g_value, .int v_readFault, g_yet, g_fars, g_tells]))] [(o, .inr (7, [g_w, g_kept, g_text, g_size, g_above, g_below, g_bads, g_noes, g_fulls, g_at, .int v_from, g_token, g_value, .int r, g_yet, g_fars, g_tells]))] := by
  unfold p_X8_wrong at h
  refine z_enV (by decide) (Nat.le_of_ble_eq_true rfl) ?_
  intro p e s m args below meth c A ls hr K hH hl
  obtain ⟨Q, hQ⟩ : ∃ Q, Q = MQ below (z_Qv D y A [(o, .inr (7, [g_w, g_kept, g_text, g_size, g_above, g_below, g_bads, g_noes, g_fulls, g_at, .int v_from, g_token, g_value, .int r, g_yet, g_fars, g_tells]))]) args s 0 0 A := ⟨_, rfl⟩
  rw [← hQ]
  have hl : lv_has ls 1 [(0, .ref o)] := hl
  refine lv_aload_n K.x K.b dX8_wrong_0 rfl (lv_at hl 0 rfl) ?_
  refine z_get K hH 0 rfl zin_8 rfl 13 (by decide) tw_4_109 (v := .int v_readFault) rfl dX8_wrong_1 ?_
  refine lv_iconst (v := (-1)) K.x K.b dX8_wrong_4 (by decide) ?_
  obtain ⟨j1, hj1, h⟩ := z_bd_e h
  have Kj1 : ∀ (H : Heap) (locs : List Loc) (ls : Array Slot), z_H D A s.heap [(o, .inr (7, [g_w, g_kept, g_text, g_size, g_above, g_below, g_bads, g_noes, g_fulls, g_at, .int v_from, g_token, g_value, .int j1, g_yet, g_fars, g_tells]))] H locs → lv_has ls 1 [] → W p l e (zR 0 0) s m args below meth c H locs 0 0 Q (F0 m 16 ls []) := by
    intro H locs ls hH hl
    have hr9 := Option.some.inj h
    obtain rfl := hr9
    rw [hQ]
    exact z_retv K hr hH [0] (by decide) rfl dX8_wrong_16
  replace h := hj1
  refine lv_icmp_ne (tgt := 16) K.x K.b dX8_wrong_5 (by decide) (fun c2 => ?_) (fun c2 => ?_)
  · replace h := z_f c2 h
    obtain rfl := Option.some.inj h
    exact Kj1 _ _ _ hH (lv_sub hl [] rfl)
  · replace h := z_t c2 h
    refine lv_aload_n K.x K.b dX8_wrong_8 rfl (lv_at hl 0 rfl) ?_
    refine lv_aload_n K.x K.b dX8_wrong_9 rfl (lv_at hl 0 rfl) ?_
    refine z_get K hH 0 rfl zin_8 rfl 10 (by decide) tw_4_106 (v := .int v_from) rfl dX8_wrong_10 ?_
    refine z_put K hH 0 (ws' := [(o, .inr (7, [g_w, g_kept, g_text, g_size, g_above, g_below, g_bads, g_noes, g_fulls, g_at, .int v_from, g_token, g_value, .int v_from, g_yet, g_fars, g_tells]))]) rfl zin_8 rfl tyX8 tyX8_ok nmX8 13 (by decide) tw_4_109 rfl rfl rfl (Nat.le_of_ble_eq_true rfl) dX8_wrong_13 rfl (fun H locs hH => ?_)
    obtain rfl := Option.some.inj h
    exact Kj1 _ _ _ hH (lv_sub hl [] rfl)
def p_X8_fine (v_readFault : Int32) : Option (Int32) :=
  z_bd (α := Int32) (if (v_readFault = (-1 : Int32)) then
  (some (1 : Int32)) else
  (some (0 : Int32))) fun j1 =>
  z_gd (z_bz j1) <|
  some j1
theorem hd_X8_fine : yX8_fine.cls = RX8 ∧ yX8_fine.cls ≠ "java/lang/invoke/MethodHandle" ∧ yX8_fine.cls ≠ "java/lang/invoke/VarHandle" ∧ (parseMethodDescriptor yX8_fine.desc).map (fun d => d.parameters.length) = some 0 := by decide +kernel
set_option maxHeartbeats 4000000 in
set_option maxRecDepth 100000 in
theorem c_X8_fine (l : Launch) (D : va_G) (y : Nat → ClassId) (o : Nat) (g_w g_kept g_text g_size g_above g_below g_bads g_noes g_fulls g_at g_from g_token g_value g_yet g_fars g_tells : Value) (v_readFault : Int32) (r : Int32) (h : p_X8_fine v_readFault = some r) : z_MI l yX8_fine cX8_fine 1 (some .boolean) 0 0 D y [.ref o] [(o, .inr (7, [g_w, g_kept, g_text, g_size, g_above, g_below, g_bads, g_noes, g_fulls, g_at, g_from, g_token, g_value, .int v_readFault, g_yet, g_fars, g_tells]))] r [(o, .inr (7, [g_w, g_kept, g_text, g_size, g_above, g_below, g_bads, g_noes, g_fulls, g_at, g_from, g_token, g_value, .int v_readFault, g_yet, g_fars, g_tells]))] := by
  unfold p_X8_fine at h
  refine z_enI (by decide) (Nat.le_of_ble_eq_true rfl) ?_
  intro p e s m args below meth c A ls hr K hH hl
  obtain ⟨Q, hQ⟩ : ∃ Q, Q = MQ below (z_Qi D y A r [(o, .inr (7, [g_w, g_kept, g_text, g_size, g_above, g_below, g_bads, g_noes, g_fulls, g_at, g_from, g_token, g_value, .int v_readFault, g_yet, g_fars, g_tells]))]) args s 0 0 A := ⟨_, rfl⟩
  rw [← hQ]
  have hl : lv_has ls 1 [(0, .ref o)] := hl
  refine lv_aload_n K.x K.b dX8_fine_0 rfl (lv_at hl 0 rfl) ?_
  refine z_get K hH 0 rfl zin_8 rfl 13 (by decide) tw_4_109 (v := .int v_readFault) rfl dX8_fine_1 ?_
  refine lv_iconst (v := (-1)) K.x K.b dX8_fine_4 (by decide) ?_
  obtain ⟨j1, hj1, h⟩ := z_bd_e h
  have Kj1 : ∀ (H : Heap) (locs : List Loc) (ls : Array Slot), z_H D A s.heap [(o, .inr (7, [g_w, g_kept, g_text, g_size, g_above, g_below, g_bads, g_noes, g_fulls, g_at, g_from, g_token, g_value, .int v_readFault, g_yet, g_fars, g_tells]))] H locs → lv_has ls 1 [] → W p l e (zR 0 0) s m args below meth c H locs 0 0 Q (F0 m 13 ls [.int j1]) := by
    intro H locs ls hH hl
    obtain ⟨g2, h⟩ := z_gd_e h
    have hr9 := Option.some.inj h
    obtain rfl := hr9
    rw [hQ]
    exact z_reti K hr hH [0] (by decide) rfl rfl (z_bz_e g2) dX8_fine_13
  replace h := hj1
  refine lv_icmp_ne (tgt := 12) K.x K.b dX8_fine_5 (by decide) (fun c3 => ?_) (fun c3 => ?_)
  · replace h := z_f c3 h
    refine lv_iconst (v := (0)) K.x K.b dX8_fine_12 (by decide) ?_
    obtain rfl := Option.some.inj h
    exact Kj1 _ _ _ hH (lv_sub hl [] rfl)
  · replace h := z_t c3 h
    refine lv_iconst (v := (1)) K.x K.b dX8_fine_8 (by decide) ?_
    refine lv_goto (tgt := 13) K.x K.b dX8_fine_9 (by decide) ?_
    obtain rfl := Option.some.inj h
    exact Kj1 _ _ _ hH (lv_sub hl [] rfl)
def p_X8_letter (v_at : Int32) (v_from : Int32) (f_text : (Nat → Int32)) (p1 : Int32) : Option (Int32) :=
  z_bd (α := Int32) (if (v_at ≤ (v_from + p1)) then
  (some (0 : Int32)) else
  (z_lt ((v_from + p1)) fun x3 =>
  z_gd (z_in x3 150) <|
  some (f_text x3.toNatClampNeg))) fun j1 =>
  some j1
theorem hd_X8_letter : yX8_letter.cls = RX8 ∧ yX8_letter.cls ≠ "java/lang/invoke/MethodHandle" ∧ yX8_letter.cls ≠ "java/lang/invoke/VarHandle" ∧ (parseMethodDescriptor yX8_letter.desc).map (fun d => d.parameters.length) = some 1 := by decide +kernel
set_option maxHeartbeats 4000000 in
set_option maxRecDepth 100000 in
theorem c_X8_letter (l : Launch) (D : va_G) (y : Nat → ClassId) (o o_text : Nat) (g_w g_kept g_size g_above g_below g_bads g_noes g_fulls g_token g_value g_readFault g_yet g_fars g_tells : Value) (v_at : Int32) (v_from : Int32) (f_text : (Nat → Int32)) (p1 : Int32) (r : Int32) (h : p_X8_letter v_at v_from f_text p1 = some r) : z_MI l yX8_letter cX8_letter 2 (some .int) 0 0 D y [.ref o, .int p1] [(o, .inr (7, [g_w, g_kept, .ref o_text, g_size, g_above, g_below, g_bads, g_noes, g_fulls, .int v_at, .int v_from, g_token, g_value, g_readFault, g_yet, g_fars, g_tells])), (o_text, .inl (y 0, 150, .inl f_text))] r [(o, .inr (7, [g_w, g_kept, .ref o_text, g_size, g_above, g_below, g_bads, g_noes, g_fulls, .int v_at, .int v_from, g_token, g_value, g_readFault, g_yet, g_fars, g_tells])), (o_text, .inl (y 0, 150, .inl f_text))] := by
  unfold p_X8_letter at h
  refine z_enI (by decide) (Nat.le_of_ble_eq_true rfl) ?_
  intro p e s m args below meth c A ls hr K hH hl
  obtain ⟨Q, hQ⟩ : ∃ Q, Q = MQ below (z_Qi D y A r [(o, .inr (7, [g_w, g_kept, .ref o_text, g_size, g_above, g_below, g_bads, g_noes, g_fulls, .int v_at, .int v_from, g_token, g_value, g_readFault, g_yet, g_fars, g_tells])), (o_text, .inl (y 0, 150, .inl f_text))]) args s 0 0 A := ⟨_, rfl⟩
  rw [← hQ]
  have hl : lv_has ls 2 [(0, .ref o), (1, .int p1)] := hl
  refine lv_aload_n K.x K.b dX8_letter_0 rfl (lv_at hl 0 rfl) ?_
  refine z_get K hH 0 rfl zin_8 rfl 10 (by decide) tw_4_106 (v := .int v_from) rfl dX8_letter_1 ?_
  refine lv_iload_n K.x K.b dX8_letter_4 rfl (lv_at hl 1 rfl) ?_
  refine lv_iadd K.x K.b dX8_letter_5 ?_
  refine lv_aload_n K.x K.b dX8_letter_6 rfl (lv_at hl 0 rfl) ?_
  refine z_get K hH 0 rfl zin_8 rfl 9 (by decide) tw_4_105 (v := .int v_at) rfl dX8_letter_7 ?_
  obtain ⟨j1, hj1, h⟩ := z_bd_e h
  have Kj1 : ∀ (H : Heap) (locs : List Loc) (ls : Array Slot), z_H D A s.heap [(o, .inr (7, [g_w, g_kept, .ref o_text, g_size, g_above, g_below, g_bads, g_noes, g_fulls, .int v_at, .int v_from, g_token, g_value, g_readFault, g_yet, g_fars, g_tells])), (o_text, .inl (y 0, 150, .inl f_text))] H locs → lv_has ls 2 [] → W p l e (zR 0 0) s m args below meth c H locs 0 0 Q (F0 m 28 ls [.int j1]) := by
    intro H locs ls hH hl
    have hr9 := Option.some.inj h
    obtain rfl := hr9
    rw [hQ]
    exact z_reti K hr hH [0, 1] (by decide) rfl rfl rfl dX8_letter_28
  replace h := hj1
  refine lv_icmp_ge (tgt := 27) K.x K.b dX8_letter_10 (by decide) (fun c2 => ?_) (fun c2 => ?_)
  · replace h := z_t c2 h
    refine lv_iconst (v := (0)) K.x K.b dX8_letter_27 (by decide) ?_
    obtain rfl := Option.some.inj h
    exact Kj1 _ _ _ hH (lv_sub hl [] rfl)
  · replace h := z_f c2 h
    refine lv_aload_n K.x K.b dX8_letter_13 rfl (lv_at hl 0 rfl) ?_
    refine z_get K hH 0 rfl zin_8 rfl 2 (by decide) tw_4_98 (v := .ref o_text) rfl dX8_letter_14 ?_
    refine lv_aload_n K.x K.b dX8_letter_17 rfl (lv_at hl 0 rfl) ?_
    refine z_get K hH 0 rfl zin_8 rfl 10 (by decide) tw_4_106 (v := .int v_from) rfl dX8_letter_18 ?_
    refine lv_iload_n K.x K.b dX8_letter_21 rfl (lv_at hl 1 rfl) ?_
    refine lv_iadd K.x K.b dX8_letter_22 ?_
    obtain ⟨x3, ex3, h⟩ := z_lt_e h
    refine z_nm ex3 ?_
    obtain ⟨g4, h⟩ := z_gd_e h
    refine z_iald K hH 1 (k := x3.toNatClampNeg) rfl g4 rfl dX8_letter_23 ?_
    refine lv_goto (tgt := 28) K.x K.b dX8_letter_24 (by decide) ?_
    obtain rfl := Option.some.inj h
    exact Kj1 _ _ _ hH (lv_sub hl [] rfl)
def p_X8_spells (v_at : Int32) (v_from : Int32) (v_token : Int32) (f_text : (Nat → Int32)) (p1 : Int32) (p2 : Int32) (p3 : Int32) (p4 : Int32) (p5 : Int32) (p6 : Int32) (p7 : Int32) : Option (Int32) :=
  z_bd (p_X8_letter v_at v_from f_text (0 : Int32)) fun r1 =>
  z_bd (α := Int32) (if (r1 = p1) then
  (z_bd (p_X8_letter v_at v_from f_text (1 : Int32)) fun r19 =>
  if (r19 = p2) then
  (z_bd (p_X8_letter v_at v_from f_text (2 : Int32)) fun r22 =>
  if (r22 = p3) then
  (z_bd (p_X8_letter v_at v_from f_text (3 : Int32)) fun r25 =>
  if (r25 = p4) then
  (some (1 : Int32)) else
  (some (0 : Int32))) else
  (some (0 : Int32))) else
  (some (0 : Int32))) else
  (some (0 : Int32))) fun j3 =>
  z_bd (α := Int32) (if (v_token = (1 : Int32)) then
  (if ((8 : Int32) ≤ (v_at - v_from)) then
  (some (0 : Int32)) else
  (if (j3 = 0) then
  (some (0 : Int32)) else
  (z_bd (p_X8_letter v_at v_from f_text (4 : Int32)) fun r9 =>
  if (r9 = p5) then
  (z_bd (p_X8_letter v_at v_from f_text (5 : Int32)) fun r12 =>
  if (r12 = p6) then
  (z_bd (p_X8_letter v_at v_from f_text (6 : Int32)) fun r15 =>
  if (r15 = p7) then
  (some (1 : Int32)) else
  (some (0 : Int32))) else
  (some (0 : Int32))) else
  (some (0 : Int32))))) else
  (some (0 : Int32))) fun j4 =>
  z_gd (z_bz j4) <|
  some j4
theorem hd_X8_spells : yX8_spells.cls = RX8 ∧ yX8_spells.cls ≠ "java/lang/invoke/MethodHandle" ∧ yX8_spells.cls ≠ "java/lang/invoke/VarHandle" ∧ (parseMethodDescriptor yX8_spells.desc).map (fun d => d.parameters.length) = some 7 := by decide +kernel
set_option maxHeartbeats 4000000 in
set_option maxRecDepth 100000 in
theorem c_X8_spells (l : Launch) (D : va_G) (y : Nat → ClassId) (o o_text : Nat) (g_w g_kept g_size g_above g_below g_bads g_noes g_fulls g_value g_readFault g_yet g_fars g_tells : Value) (v_at : Int32) (v_from : Int32) (v_token : Int32) (f_text : (Nat → Int32)) (p1 : Int32) (p2 : Int32) (p3 : Int32) (p4 : Int32) (p5 : Int32) (p6 : Int32) (p7 : Int32) (r : Int32) (h : p_X8_spells v_at v_from v_token f_text p1 p2 p3 p4 p5 p6 p7 = some r) : z_MI l yX8_spells cX8_spells 9 (some .boolean) 1 21 D y [.ref o, .int p1, .int p2, .int p3, .int p4, .int p5, .int p6, .int p7] [(o, .inr (7, [g_w, g_kept, .ref o_text, g_size, g_above, g_below, g_bads, g_noes, g_fulls, .int v_at, .int v_from, .int v_token, g_value, g_readFault, g_yet, g_fars, g_tells])), (o_text, .inl (y 0, 150, .inl f_text))] r [(o, .inr (7, [g_w, g_kept, .ref o_text, g_size, g_above, g_below, g_bads, g_noes, g_fulls, .int v_at, .int v_from, .int v_token, g_value, g_readFault, g_yet, g_fars, g_tells])), (o_text, .inl (y 0, 150, .inl f_text))] := by
  unfold p_X8_spells at h
  refine z_enI (by decide) (Nat.le_of_ble_eq_true rfl) ?_
  intro p e s m args below meth c A ls hr K hH hl
  obtain ⟨Q, hQ⟩ : ∃ Q, Q = MQ below (z_Qi D y A r [(o, .inr (7, [g_w, g_kept, .ref o_text, g_size, g_above, g_below, g_bads, g_noes, g_fulls, .int v_at, .int v_from, .int v_token, g_value, g_readFault, g_yet, g_fars, g_tells])), (o_text, .inl (y 0, 150, .inl f_text))]) args s 0 0 A := ⟨_, rfl⟩
  rw [← hQ]
  have hl : lv_has ls 9 [(0, .ref o), (1, .int p1), (2, .int p2), (3, .int p3), (4, .int p4), (5, .int p5), (6, .int p6), (7, .int p7)] := hl
  refine lv_aload_n K.x K.b dX8_spells_0 rfl (lv_at hl 0 rfl) ?_
  refine lv_iconst (v := (0)) K.x K.b dX8_spells_1 (by decide) ?_
  obtain ⟨r1, hr2, h⟩ := z_bd_e h
  refine z_Vi K hH hl.1 (c_X8_letter l D y o o_text (g_w) (g_kept) (g_size) (g_above) (g_below) (g_bads) (g_noes) (g_fulls) (.int v_token) (g_value) (g_readFault) (g_yet) (g_fars) (g_tells) v_at v_from f_text (0 : Int32) r1 hr2) (z_cwV K 1 tw_4_219 tw_4_221 tw_0_47 tw_1_8 tw_4_222 hd_X8_letter ⟨by decide, by decide⟩) [0, 1] [] rfl (wr := []) rfl rfl rfl (by decide) rfl rfl rfl (As := [.int (0 : Int32)]) (rest := []) rfl (Nat.le_of_ble_eq_true rfl) ⟨Nat.zero_le _, Nat.zero_le _⟩ dX8_spells_2 (ws' := [(o, .inr (7, [g_w, g_kept, .ref o_text, g_size, g_above, g_below, g_bads, g_noes, g_fulls, .int v_at, .int v_from, .int v_token, g_value, g_readFault, g_yet, g_fars, g_tells])), (o_text, .inl (y 0, 150, .inl f_text))]) rfl (fun H locs hH => ?_)
  refine lv_iload_n K.x K.b dX8_spells_5 rfl (lv_at hl 1 rfl) ?_
  obtain ⟨j3, hj3, h⟩ := z_bd_e h
  have Kj3 : ∀ (H : Heap) (locs : List Loc) (ls : Array Slot), z_H D A s.heap [(o, .inr (7, [g_w, g_kept, .ref o_text, g_size, g_above, g_below, g_bads, g_noes, g_fulls, .int v_at, .int v_from, .int v_token, g_value, g_readFault, g_yet, g_fars, g_tells])), (o_text, .inl (y 0, 150, .inl f_text))] H locs → lv_has ls 9 [(0, .ref o), (5, .int p5), (6, .int p6), (7, .int p7)] → W p l e (zR 1 21) s m args below meth c H locs 0 0 Q (F0 m 42 ls [.int j3]) := by
    intro H locs ls hH hl
    refine lv_istore (lv' := [(8, .int j3), (0, .ref o), (5, .int p5), (6, .int p6), (7, .int p7)]) K.x K.b dX8_spells_42 hl (by decide) rfl (fun ls hl => ?_)
    refine lv_aload_n K.x K.b dX8_spells_44 rfl (lv_at hl 1 rfl) ?_
    refine z_get K hH 0 rfl zin_8 rfl 11 (by decide) tw_4_107 (v := .int v_token) rfl dX8_spells_45 ?_
    refine lv_iconst (v := (1)) K.x K.b dX8_spells_48 (by decide) ?_
    obtain ⟨j4, hj4, h⟩ := z_bd_e h
    have Kj4 : ∀ (H : Heap) (locs : List Loc) (ls : Array Slot), z_H D A s.heap [(o, .inr (7, [g_w, g_kept, .ref o_text, g_size, g_above, g_below, g_bads, g_noes, g_fulls, .int v_at, .int v_from, .int v_token, g_value, g_readFault, g_yet, g_fars, g_tells])), (o_text, .inl (y 0, 150, .inl f_text))] H locs → lv_has ls 9 [] → W p l e (zR 1 21) s m args below meth c H locs 0 0 Q (F0 m 107 ls [.int j4]) := by
      intro H locs ls hH hl
      obtain ⟨g5, h⟩ := z_gd_e h
      have hr9 := Option.some.inj h
      obtain rfl := hr9
      rw [hQ]
      exact z_reti K hr hH [0, 1] (by decide) rfl rfl (z_bz_e g5) dX8_spells_107
    replace h := hj4
    refine lv_icmp_ne (tgt := 106) K.x K.b dX8_spells_49 (by decide) (fun c6 => ?_) (fun c6 => ?_)
    · replace h := z_f c6 h
      refine lv_iconst (v := (0)) K.x K.b dX8_spells_106 (by decide) ?_
      obtain rfl := Option.some.inj h
      exact Kj4 _ _ _ hH (lv_sub hl [] rfl)
    · replace h := z_t c6 h
      refine lv_aload_n K.x K.b dX8_spells_52 rfl (lv_at hl 1 rfl) ?_
      refine z_get K hH 0 rfl zin_8 rfl 9 (by decide) tw_4_105 (v := .int v_at) rfl dX8_spells_53 ?_
      refine lv_aload_n K.x K.b dX8_spells_56 rfl (lv_at hl 1 rfl) ?_
      refine z_get K hH 0 rfl zin_8 rfl 10 (by decide) tw_4_106 (v := .int v_from) rfl dX8_spells_57 ?_
      refine lv_isub K.x K.b dX8_spells_60 ?_
      refine lv_bipush (v := (8)) K.x K.b dX8_spells_61 (by decide) ?_
      refine lv_icmp_ge (tgt := 106) K.x K.b dX8_spells_63 (by decide) (fun c7 => ?_) (fun c7 => ?_)
      · replace h := z_t c7 h
        refine lv_iconst (v := (0)) K.x K.b dX8_spells_106 (by decide) ?_
        obtain rfl := Option.some.inj h
        exact Kj4 _ _ _ hH (lv_sub hl [] rfl)
      · replace h := z_f c7 h
        refine lv_iload K.x K.b dX8_spells_66 (lv_at hl 0 rfl) ?_
        refine lv_if_eq (tgt := 106) K.x K.b dX8_spells_68 (by decide) (fun c8 => ?_) (fun c8 => ?_)
        · replace h := z_t c8 h
          refine lv_iconst (v := (0)) K.x K.b dX8_spells_106 (by decide) ?_
          obtain rfl := Option.some.inj h
          exact Kj4 _ _ _ hH (lv_sub hl [] rfl)
        · replace h := z_f c8 h
          refine lv_aload_n K.x K.b dX8_spells_71 rfl (lv_at hl 1 rfl) ?_
          refine lv_iconst (v := (4)) K.x K.b dX8_spells_72 (by decide) ?_
          obtain ⟨r9, hr10, h⟩ := z_bd_e h
          refine z_Vi K hH hl.1 (c_X8_letter l D y o o_text (g_w) (g_kept) (g_size) (g_above) (g_below) (g_bads) (g_noes) (g_fulls) (.int v_token) (g_value) (g_readFault) (g_yet) (g_fars) (g_tells) v_at v_from f_text (4 : Int32) r9 hr10) (z_cwV K 1 tw_4_219 tw_4_221 tw_0_47 tw_1_8 tw_4_222 hd_X8_letter ⟨by decide, by decide⟩) [0, 1] [] rfl (wr := []) rfl rfl rfl (by decide) rfl rfl rfl (As := [.int (4 : Int32)]) (rest := []) rfl (Nat.le_of_ble_eq_true rfl) ⟨Nat.zero_le _, Nat.zero_le _⟩ dX8_spells_73 (ws' := [(o, .inr (7, [g_w, g_kept, .ref o_text, g_size, g_above, g_below, g_bads, g_noes, g_fulls, .int v_at, .int v_from, .int v_token, g_value, g_readFault, g_yet, g_fars, g_tells])), (o_text, .inl (y 0, 150, .inl f_text))]) rfl (fun H locs hH => ?_)
          refine lv_iload K.x K.b dX8_spells_76 (lv_at hl 2 rfl) ?_
          refine lv_icmp_ne (tgt := 106) K.x K.b dX8_spells_78 (by decide) (fun c11 => ?_) (fun c11 => ?_)
          · replace h := z_f c11 h
            refine lv_iconst (v := (0)) K.x K.b dX8_spells_106 (by decide) ?_
            obtain rfl := Option.some.inj h
            exact Kj4 _ _ _ hH (lv_sub hl [] rfl)
          · replace h := z_t c11 h
            refine lv_aload_n K.x K.b dX8_spells_81 rfl (lv_at hl 1 rfl) ?_
            refine lv_iconst (v := (5)) K.x K.b dX8_spells_82 (by decide) ?_
            obtain ⟨r12, hr13, h⟩ := z_bd_e h
            refine z_Vi K hH hl.1 (c_X8_letter l D y o o_text (g_w) (g_kept) (g_size) (g_above) (g_below) (g_bads) (g_noes) (g_fulls) (.int v_token) (g_value) (g_readFault) (g_yet) (g_fars) (g_tells) v_at v_from f_text (5 : Int32) r12 hr13) (z_cwV K 1 tw_4_219 tw_4_221 tw_0_47 tw_1_8 tw_4_222 hd_X8_letter ⟨by decide, by decide⟩) [0, 1] [] rfl (wr := []) rfl rfl rfl (by decide) rfl rfl rfl (As := [.int (5 : Int32)]) (rest := []) rfl (Nat.le_of_ble_eq_true rfl) ⟨Nat.zero_le _, Nat.zero_le _⟩ dX8_spells_83 (ws' := [(o, .inr (7, [g_w, g_kept, .ref o_text, g_size, g_above, g_below, g_bads, g_noes, g_fulls, .int v_at, .int v_from, .int v_token, g_value, g_readFault, g_yet, g_fars, g_tells])), (o_text, .inl (y 0, 150, .inl f_text))]) rfl (fun H locs hH => ?_)
            refine lv_iload K.x K.b dX8_spells_86 (lv_at hl 3 rfl) ?_
            refine lv_icmp_ne (tgt := 106) K.x K.b dX8_spells_88 (by decide) (fun c14 => ?_) (fun c14 => ?_)
            · replace h := z_f c14 h
              refine lv_iconst (v := (0)) K.x K.b dX8_spells_106 (by decide) ?_
              obtain rfl := Option.some.inj h
              exact Kj4 _ _ _ hH (lv_sub hl [] rfl)
            · replace h := z_t c14 h
              refine lv_aload_n K.x K.b dX8_spells_91 rfl (lv_at hl 1 rfl) ?_
              refine lv_bipush (v := (6)) K.x K.b dX8_spells_92 (by decide) ?_
              obtain ⟨r15, hr16, h⟩ := z_bd_e h
              refine z_Vi K hH hl.1 (c_X8_letter l D y o o_text (g_w) (g_kept) (g_size) (g_above) (g_below) (g_bads) (g_noes) (g_fulls) (.int v_token) (g_value) (g_readFault) (g_yet) (g_fars) (g_tells) v_at v_from f_text (6 : Int32) r15 hr16) (z_cwV K 1 tw_4_219 tw_4_221 tw_0_47 tw_1_8 tw_4_222 hd_X8_letter ⟨by decide, by decide⟩) [0, 1] [] rfl (wr := []) rfl rfl rfl (by decide) rfl rfl rfl (As := [.int (6 : Int32)]) (rest := []) rfl (Nat.le_of_ble_eq_true rfl) ⟨Nat.zero_le _, Nat.zero_le _⟩ dX8_spells_94 (ws' := [(o, .inr (7, [g_w, g_kept, .ref o_text, g_size, g_above, g_below, g_bads, g_noes, g_fulls, .int v_at, .int v_from, .int v_token, g_value, g_readFault, g_yet, g_fars, g_tells])), (o_text, .inl (y 0, 150, .inl f_text))]) rfl (fun H locs hH => ?_)
              refine lv_iload K.x K.b dX8_spells_97 (lv_at hl 4 rfl) ?_
              refine lv_icmp_ne (tgt := 106) K.x K.b dX8_spells_99 (by decide) (fun c17 => ?_) (fun c17 => ?_)
              · replace h := z_f c17 h
                refine lv_iconst (v := (0)) K.x K.b dX8_spells_106 (by decide) ?_
                obtain rfl := Option.some.inj h
                exact Kj4 _ _ _ hH (lv_sub hl [] rfl)
              · replace h := z_t c17 h
                refine lv_iconst (v := (1)) K.x K.b dX8_spells_102 (by decide) ?_
                refine lv_goto (tgt := 107) K.x K.b dX8_spells_103 (by decide) ?_
                obtain rfl := Option.some.inj h
                exact Kj4 _ _ _ hH (lv_sub hl [] rfl)
  replace h := hj3
  refine lv_icmp_ne (tgt := 41) K.x K.b dX8_spells_6 (by decide) (fun c18 => ?_) (fun c18 => ?_)
  · replace h := z_f c18 h
    refine lv_iconst (v := (0)) K.x K.b dX8_spells_41 (by decide) ?_
    obtain rfl := Option.some.inj h
    exact Kj3 _ _ _ hH (lv_sub hl [0, 5, 6, 7] rfl)
  · replace h := z_t c18 h
    refine lv_aload_n K.x K.b dX8_spells_9 rfl (lv_at hl 0 rfl) ?_
    refine lv_iconst (v := (1)) K.x K.b dX8_spells_10 (by decide) ?_
    obtain ⟨r19, hr20, h⟩ := z_bd_e h
    refine z_Vi K hH hl.1 (c_X8_letter l D y o o_text (g_w) (g_kept) (g_size) (g_above) (g_below) (g_bads) (g_noes) (g_fulls) (.int v_token) (g_value) (g_readFault) (g_yet) (g_fars) (g_tells) v_at v_from f_text (1 : Int32) r19 hr20) (z_cwV K 1 tw_4_219 tw_4_221 tw_0_47 tw_1_8 tw_4_222 hd_X8_letter ⟨by decide, by decide⟩) [0, 1] [] rfl (wr := []) rfl rfl rfl (by decide) rfl rfl rfl (As := [.int (1 : Int32)]) (rest := []) rfl (Nat.le_of_ble_eq_true rfl) ⟨Nat.zero_le _, Nat.zero_le _⟩ dX8_spells_11 (ws' := [(o, .inr (7, [g_w, g_kept, .ref o_text, g_size, g_above, g_below, g_bads, g_noes, g_fulls, .int v_at, .int v_from, .int v_token, g_value, g_readFault, g_yet, g_fars, g_tells])), (o_text, .inl (y 0, 150, .inl f_text))]) rfl (fun H locs hH => ?_)
    refine lv_iload_n K.x K.b dX8_spells_14 rfl (lv_at hl 2 rfl) ?_
    refine lv_icmp_ne (tgt := 41) K.x K.b dX8_spells_15 (by decide) (fun c21 => ?_) (fun c21 => ?_)
    · replace h := z_f c21 h
      refine lv_iconst (v := (0)) K.x K.b dX8_spells_41 (by decide) ?_
      obtain rfl := Option.some.inj h
      exact Kj3 _ _ _ hH (lv_sub hl [0, 5, 6, 7] rfl)
    · replace h := z_t c21 h
      refine lv_aload_n K.x K.b dX8_spells_18 rfl (lv_at hl 0 rfl) ?_
      refine lv_iconst (v := (2)) K.x K.b dX8_spells_19 (by decide) ?_
      obtain ⟨r22, hr23, h⟩ := z_bd_e h
      refine z_Vi K hH hl.1 (c_X8_letter l D y o o_text (g_w) (g_kept) (g_size) (g_above) (g_below) (g_bads) (g_noes) (g_fulls) (.int v_token) (g_value) (g_readFault) (g_yet) (g_fars) (g_tells) v_at v_from f_text (2 : Int32) r22 hr23) (z_cwV K 1 tw_4_219 tw_4_221 tw_0_47 tw_1_8 tw_4_222 hd_X8_letter ⟨by decide, by decide⟩) [0, 1] [] rfl (wr := []) rfl rfl rfl (by decide) rfl rfl rfl (As := [.int (2 : Int32)]) (rest := []) rfl (Nat.le_of_ble_eq_true rfl) ⟨Nat.zero_le _, Nat.zero_le _⟩ dX8_spells_20 (ws' := [(o, .inr (7, [g_w, g_kept, .ref o_text, g_size, g_above, g_below, g_bads, g_noes, g_fulls, .int v_at, .int v_from, .int v_token, g_value, g_readFault, g_yet, g_fars, g_tells])), (o_text, .inl (y 0, 150, .inl f_text))]) rfl (fun H locs hH => ?_)
      refine lv_iload_n K.x K.b dX8_spells_23 rfl (lv_at hl 3 rfl) ?_
      refine lv_icmp_ne (tgt := 41) K.x K.b dX8_spells_24 (by decide) (fun c24 => ?_) (fun c24 => ?_)
      · replace h := z_f c24 h
        refine lv_iconst (v := (0)) K.x K.b dX8_spells_41 (by decide) ?_
        obtain rfl := Option.some.inj h
        exact Kj3 _ _ _ hH (lv_sub hl [0, 5, 6, 7] rfl)
      · replace h := z_t c24 h
        refine lv_aload_n K.x K.b dX8_spells_27 rfl (lv_at hl 0 rfl) ?_
        refine lv_iconst (v := (3)) K.x K.b dX8_spells_28 (by decide) ?_
        obtain ⟨r25, hr26, h⟩ := z_bd_e h
        refine z_Vi K hH hl.1 (c_X8_letter l D y o o_text (g_w) (g_kept) (g_size) (g_above) (g_below) (g_bads) (g_noes) (g_fulls) (.int v_token) (g_value) (g_readFault) (g_yet) (g_fars) (g_tells) v_at v_from f_text (3 : Int32) r25 hr26) (z_cwV K 1 tw_4_219 tw_4_221 tw_0_47 tw_1_8 tw_4_222 hd_X8_letter ⟨by decide, by decide⟩) [0, 1] [] rfl (wr := []) rfl rfl rfl (by decide) rfl rfl rfl (As := [.int (3 : Int32)]) (rest := []) rfl (Nat.le_of_ble_eq_true rfl) ⟨Nat.zero_le _, Nat.zero_le _⟩ dX8_spells_29 (ws' := [(o, .inr (7, [g_w, g_kept, .ref o_text, g_size, g_above, g_below, g_bads, g_noes, g_fulls, .int v_at, .int v_from, .int v_token, g_value, g_readFault, g_yet, g_fars, g_tells])), (o_text, .inl (y 0, 150, .inl f_text))]) rfl (fun H locs hH => ?_)
        refine lv_iload K.x K.b dX8_spells_32 (lv_at hl 4 rfl) ?_
        refine lv_icmp_ne (tgt := 41) K.x K.b dX8_spells_34 (by decide) (fun c27 => ?_) (fun c27 => ?_)
        · replace h := z_f c27 h
          refine lv_iconst (v := (0)) K.x K.b dX8_spells_41 (by decide) ?_
          obtain rfl := Option.some.inj h
          exact Kj3 _ _ _ hH (lv_sub hl [0, 5, 6, 7] rfl)
        · replace h := z_t c27 h
          refine lv_iconst (v := (1)) K.x K.b dX8_spells_37 (by decide) ?_
          refine lv_goto (tgt := 42) K.x K.b dX8_spells_38 (by decide) ?_
          obtain rfl := Option.some.inj h
          exact Kj3 _ _ _ hH (lv_sub hl [0, 5, 6, 7] rfl)
noncomputable def p_X8_number (v_size : Int32) (v_at : Int32) (v_from : Int32) (v_token : Int32) (v_value : Int32) (v_readFault : Int32) (f_text : (Nat → Int32)) (p1 : Int32) (p2 : Int32) : Option (Int32 × Int32 × Int32 × Int32 × Int32 × Int32) :=
  z_bd (p_X8_fine v_readFault) fun r1 =>
  if (r1 = 0) then
  (some (p1, v_at, v_from, v_token, v_value, v_readFault)) else
  (z_bd (p_X8_nextToken v_size v_at v_from v_token v_value f_text) fun r4 =>
  if (r4.2.2.1 = (2 : Int32)) then
  (z_bd (p_X8_in r4.2.2.2 p1 p2) fun r9 =>
  if (r9 = 0) then
  (z_bd (p_X8_wrong r4.2.1 v_readFault) fun r12 =>
  some (p1, r4.1, r4.2.1, r4.2.2.1, r4.2.2.2, r12)) else
  (some (r4.2.2.2, r4.1, r4.2.1, r4.2.2.1, r4.2.2.2, v_readFault))) else
  (z_bd (p_X8_wrong r4.2.1 v_readFault) fun r7 =>
  some (p1, r4.1, r4.2.1, r4.2.2.1, r4.2.2.2, r7)))
theorem hd_X8_number : yX8_number.cls = RX8 ∧ yX8_number.cls ≠ "java/lang/invoke/MethodHandle" ∧ yX8_number.cls ≠ "java/lang/invoke/VarHandle" ∧ (parseMethodDescriptor yX8_number.desc).map (fun d => d.parameters.length) = some 2 := by decide +kernel
set_option maxHeartbeats 4000000 in
set_option maxRecDepth 100000 in
theorem c_X8_number (l : Launch) (D : va_G) (y : Nat → ClassId) (o o_text : Nat) (g_w g_kept g_above g_below g_bads g_noes g_fulls g_yet g_fars g_tells : Value) (v_size : Int32) (v_at : Int32) (v_from : Int32) (v_token : Int32) (v_value : Int32) (v_readFault : Int32) (f_text : (Nat → Int32)) (p1 : Int32) (p2 : Int32) (r : Int32 × Int32 × Int32 × Int32 × Int32 × Int32) (h : p_X8_number v_size v_at v_from v_token v_value v_readFault f_text p1 p2 = some r) : z_MI l yX8_number cX8_number 3 (some .int) 4 83 D y [.ref o, .int p1, .int p2] [(o, .inr (7, [g_w, g_kept, .ref o_text, .int v_size, g_above, g_below, g_bads, g_noes, g_fulls, .int v_at, .int v_from, .int v_token, .int v_value, .int v_readFault, g_yet, g_fars, g_tells])), (o_text, .inl (y 0, 150, .inl f_text))] r.1 [(o, .inr (7, [g_w, g_kept, .ref o_text, .int v_size, g_above, g_below, g_bads, g_noes, g_fulls, .int r.2.1, .int r.2.2.1, .int r.2.2.2.1, .int r.2.2.2.2.1, .int r.2.2.2.2.2, g_yet, g_fars, g_tells])), (o_text, .inl (y 0, 150, .inl f_text))] := by
  unfold p_X8_number at h
  refine z_enI (by decide) (Nat.le_of_ble_eq_true rfl) ?_
  intro p e s m args below meth c A ls hr K hH hl
  obtain ⟨Q, hQ⟩ : ∃ Q, Q = MQ below (z_Qi D y A r.1 [(o, .inr (7, [g_w, g_kept, .ref o_text, .int v_size, g_above, g_below, g_bads, g_noes, g_fulls, .int r.2.1, .int r.2.2.1, .int r.2.2.2.1, .int r.2.2.2.2.1, .int r.2.2.2.2.2, g_yet, g_fars, g_tells])), (o_text, .inl (y 0, 150, .inl f_text))]) args s 0 0 A := ⟨_, rfl⟩
  rw [← hQ]
  have hl : lv_has ls 3 [(0, .ref o), (1, .int p1), (2, .int p2)] := hl
  refine lv_aload_n K.x K.b dX8_number_0 rfl (lv_at hl 0 rfl) ?_
  obtain ⟨r1, hr2, h⟩ := z_bd_e h
  refine z_Vi K hH hl.1 (c_X8_fine l D y o (g_w) (g_kept) (.ref o_text) (.int v_size) (g_above) (g_below) (g_bads) (g_noes) (g_fulls) (.int v_at) (.int v_from) (.int v_token) (.int v_value) (g_yet) (g_fars) (g_tells) v_readFault r1 hr2) (z_cwV K 0 tw_4_231 tw_4_233 tw_0_50 tw_1_8 tw_4_234 hd_X8_fine ⟨by decide, by decide⟩) [0] [1] rfl (wr := [(o_text, .inl (y 0, 150, .inl f_text))]) rfl rfl rfl (by decide) rfl rfl rfl (As := []) (rest := []) rfl (Nat.le_of_ble_eq_true rfl) ⟨Nat.zero_le _, Nat.zero_le _⟩ dX8_number_1 (ws' := [(o_text, .inl (y 0, 150, .inl f_text)), (o, .inr (7, [g_w, g_kept, .ref o_text, .int v_size, g_above, g_below, g_bads, g_noes, g_fulls, .int v_at, .int v_from, .int v_token, .int v_value, .int v_readFault, g_yet, g_fars, g_tells]))]) rfl (fun H locs hH => ?_)
  refine lv_if_ne (tgt := 9) K.x K.b dX8_number_4 (by decide) (fun c3 => ?_) (fun c3 => ?_)
  · replace h := z_f c3 h
    refine lv_aload_n K.x K.b dX8_number_9 rfl (lv_at hl 0 rfl) ?_
    obtain ⟨r4, hr5, h⟩ := z_bd_e h
    refine z_Vv K hH hl.1 (c_X8_nextToken l D y o o_text (g_w) (g_kept) (g_above) (g_below) (g_bads) (g_noes) (g_fulls) (.int v_readFault) (g_yet) (g_fars) (g_tells) v_size v_at v_from v_token v_value f_text r4 hr5) (z_cwV K 0 tw_4_199 tw_4_201 tw_0_42 tw_1_8 tw_4_202 hd_X8_nextToken ⟨by decide, by decide⟩) [1, 0] [] rfl (wr := []) rfl rfl rfl (by decide) rfl rfl rfl (As := []) (rest := []) rfl (Nat.le_of_ble_eq_true rfl) ⟨Nat.zero_le _, Nat.zero_le _⟩ dX8_number_10 (ws' := [(o, .inr (7, [g_w, g_kept, .ref o_text, .int v_size, g_above, g_below, g_bads, g_noes, g_fulls, .int r4.1, .int r4.2.1, .int r4.2.2.1, .int r4.2.2.2, .int v_readFault, g_yet, g_fars, g_tells])), (o_text, .inl (y 0, 150, .inl f_text))]) rfl (fun H locs hH => ?_)
    refine lv_aload_n K.x K.b dX8_number_13 rfl (lv_at hl 0 rfl) ?_
    refine z_get K hH 0 rfl zin_8 rfl 11 (by decide) tw_4_107 (v := .int r4.2.2.1) rfl dX8_number_14 ?_
    refine lv_iconst (v := (2)) K.x K.b dX8_number_17 (by decide) ?_
    refine lv_icmp_ne (tgt := 33) K.x K.b dX8_number_18 (by decide) (fun c6 => ?_) (fun c6 => ?_)
    · replace h := z_f c6 h
      refine lv_aload_n K.x K.b dX8_number_33 rfl (lv_at hl 0 rfl) ?_
      obtain ⟨r7, hr8, h⟩ := z_bd_e h
      refine z_Vv K hH hl.1 (c_X8_wrong l D y o (g_w) (g_kept) (.ref o_text) (.int v_size) (g_above) (g_below) (g_bads) (g_noes) (g_fulls) (.int r4.1) (.int r4.2.2.1) (.int r4.2.2.2) (g_yet) (g_fars) (g_tells) r4.2.1 v_readFault r7 hr8) (z_cwV K 0 tw_4_223 tw_4_225 tw_0_48 tw_1_8 tw_4_226 hd_X8_wrong ⟨by decide, by decide⟩) [0] [1] rfl (wr := [(o_text, .inl (y 0, 150, .inl f_text))]) rfl rfl rfl (by decide) rfl rfl rfl (As := []) (rest := []) rfl (Nat.le_of_ble_eq_true rfl) ⟨Nat.zero_le _, Nat.zero_le _⟩ dX8_number_34 (ws' := [(o_text, .inl (y 0, 150, .inl f_text)), (o, .inr (7, [g_w, g_kept, .ref o_text, .int v_size, g_above, g_below, g_bads, g_noes, g_fulls, .int r4.1, .int r4.2.1, .int r4.2.2.1, .int r4.2.2.2, .int r7, g_yet, g_fars, g_tells]))]) rfl (fun H locs hH => ?_)
      refine lv_iload_n K.x K.b dX8_number_37 rfl (lv_at hl 1 rfl) ?_
      have hr9 := Option.some.inj h
      obtain rfl := hr9
      rw [hQ]
      exact z_reti K hr hH [1, 0] (by decide) rfl rfl rfl dX8_number_38
    · replace h := z_t c6 h
      refine lv_aload_n K.x K.b dX8_number_21 rfl (lv_at hl 0 rfl) ?_
      refine z_get K hH 0 rfl zin_8 rfl 12 (by decide) tw_4_108 (v := .int r4.2.2.2) rfl dX8_number_22 ?_
      refine lv_iload_n K.x K.b dX8_number_25 rfl (lv_at hl 1 rfl) ?_
      refine lv_iload_n K.x K.b dX8_number_26 rfl (lv_at hl 2 rfl) ?_
      obtain ⟨r9, hr10, h⟩ := z_bd_e h
      refine z_Si K hH hl.1 (c_X8_in l D y r4.2.2.2 p1 p2 r9 hr10) (z_cwS K 3 tw_4_160 tw_4_161 tw_1_8 tw_4_162 hd_X8_in ⟨by decide, by decide⟩) rfl (As := [.int r4.2.2.2, .int p1, .int p2]) (rest := []) rfl (Nat.le_of_ble_eq_true rfl) ⟨Nat.zero_le _, Nat.zero_le _⟩ dX8_number_27 (fun H locs hH => ?_)
      refine lv_if_ne (tgt := 39) K.x K.b dX8_number_30 (by decide) (fun c11 => ?_) (fun c11 => ?_)
      · replace h := z_f c11 h
        refine lv_aload_n K.x K.b dX8_number_39 rfl (lv_at hl 0 rfl) ?_
        refine z_get K hH 0 rfl zin_8 rfl 12 (by decide) tw_4_108 (v := .int r4.2.2.2) rfl dX8_number_40 ?_
        have hr9 := Option.some.inj h
        obtain rfl := hr9
        rw [hQ]
        exact z_reti K hr hH [0, 1] (by decide) rfl rfl rfl dX8_number_43
      · replace h := z_t c11 h
        refine lv_aload_n K.x K.b dX8_number_33 rfl (lv_at hl 0 rfl) ?_
        obtain ⟨r12, hr13, h⟩ := z_bd_e h
        refine z_Vv K hH hl.1 (c_X8_wrong l D y o (g_w) (g_kept) (.ref o_text) (.int v_size) (g_above) (g_below) (g_bads) (g_noes) (g_fulls) (.int r4.1) (.int r4.2.2.1) (.int r4.2.2.2) (g_yet) (g_fars) (g_tells) r4.2.1 v_readFault r12 hr13) (z_cwV K 0 tw_4_223 tw_4_225 tw_0_48 tw_1_8 tw_4_226 hd_X8_wrong ⟨by decide, by decide⟩) [0] [1] rfl (wr := [(o_text, .inl (y 0, 150, .inl f_text))]) rfl rfl rfl (by decide) rfl rfl rfl (As := []) (rest := []) rfl (Nat.le_of_ble_eq_true rfl) ⟨Nat.zero_le _, Nat.zero_le _⟩ dX8_number_34 (ws' := [(o_text, .inl (y 0, 150, .inl f_text)), (o, .inr (7, [g_w, g_kept, .ref o_text, .int v_size, g_above, g_below, g_bads, g_noes, g_fulls, .int r4.1, .int r4.2.1, .int r4.2.2.1, .int r4.2.2.2, .int r12, g_yet, g_fars, g_tells]))]) rfl (fun H locs hH => ?_)
        refine lv_iload_n K.x K.b dX8_number_37 rfl (lv_at hl 1 rfl) ?_
        have hr9 := Option.some.inj h
        obtain rfl := hr9
        rw [hQ]
        exact z_reti K hr hH [1, 0] (by decide) rfl rfl rfl dX8_number_38
  · replace h := z_t c3 h
    refine lv_iload_n K.x K.b dX8_number_7 rfl (lv_at hl 1 rfl) ?_
    have hr9 := Option.some.inj h
    obtain rfl := hr9
    rw [hQ]
    exact z_reti K hr hH [1, 0] (by decide) rfl rfl rfl dX8_number_8
noncomputable def p_X8_stop (v_size : Int32) (v_at : Int32) (v_from : Int32) (v_token : Int32) (v_value : Int32) (v_readFault : Int32) (f_text : (Nat → Int32)) : Option (Int32 × Int32 × Int32 × Int32 × Int32) :=
  z_bd (p_X8_fine v_readFault) fun r1 =>
  z_bd (α := Int32 × Int32 × Int32 × Int32 × Int32) (if (r1 = 0) then
  (some (v_at, v_from, v_token, v_value, v_readFault)) else
  (z_bd (p_X8_nextToken v_size v_at v_from v_token v_value f_text) fun r5 =>
  if (r5.2.2.1 = (3 : Int32)) then
  (some (r5.1, r5.2.1, r5.2.2.1, r5.2.2.2, v_readFault)) else
  (z_bd (p_X8_wrong r5.2.1 v_readFault) fun r8 =>
  some (r5.1, r5.2.1, r5.2.2.1, r5.2.2.2, r8)))) fun j3 =>
  some (j3.1, j3.2.1, j3.2.2.1, j3.2.2.2.1, j3.2.2.2.2)
theorem hd_X8_stop : yX8_stop.cls = RX8 ∧ yX8_stop.cls ≠ "java/lang/invoke/MethodHandle" ∧ yX8_stop.cls ≠ "java/lang/invoke/VarHandle" ∧ (parseMethodDescriptor yX8_stop.desc).map (fun d => d.parameters.length) = some 0 := by decide +kernel
set_option maxHeartbeats 4000000 in
set_option maxRecDepth 100000 in
theorem c_X8_stop (l : Launch) (D : va_G) (y : Nat → ClassId) (o o_text : Nat) (g_w g_kept g_above g_below g_bads g_noes g_fulls g_yet g_fars g_tells : Value) (v_size : Int32) (v_at : Int32) (v_from : Int32) (v_token : Int32) (v_value : Int32) (v_readFault : Int32) (f_text : (Nat → Int32)) (r : Int32 × Int32 × Int32 × Int32 × Int32) (h : p_X8_stop v_size v_at v_from v_token v_value v_readFault f_text = some r) : z_MV l yX8_stop cX8_stop 1 none 4 83 D y [.ref o] [(o, .inr (7, [g_w, g_kept, .ref o_text, .int v_size, g_above, g_below, g_bads, g_noes, g_fulls, .int v_at, .int v_from, .int v_token, .int v_value, .int v_readFault, g_yet, g_fars, g_tells])), (o_text, .inl (y 0, 150, .inl f_text))] [(o, .inr (7, [g_w, g_kept, .ref o_text, .int v_size, g_above, g_below, g_bads, g_noes, g_fulls, .int r.1, .int r.2.1, .int r.2.2.1, .int r.2.2.2.1, .int r.2.2.2.2, g_yet, g_fars, g_tells])), (o_text, .inl (y 0, 150, .inl f_text))] := by
  unfold p_X8_stop at h
  refine z_enV (by decide) (Nat.le_of_ble_eq_true rfl) ?_
  intro p e s m args below meth c A ls hr K hH hl
  obtain ⟨Q, hQ⟩ : ∃ Q, Q = MQ below (z_Qv D y A [(o, .inr (7, [g_w, g_kept, .ref o_text, .int v_size, g_above, g_below, g_bads, g_noes, g_fulls, .int r.1, .int r.2.1, .int r.2.2.1, .int r.2.2.2.1, .int r.2.2.2.2, g_yet, g_fars, g_tells])), (o_text, .inl (y 0, 150, .inl f_text))]) args s 0 0 A := ⟨_, rfl⟩
  rw [← hQ]
  have hl : lv_has ls 1 [(0, .ref o)] := hl
  refine lv_aload_n K.x K.b dX8_stop_0 rfl (lv_at hl 0 rfl) ?_
  obtain ⟨r1, hr2, h⟩ := z_bd_e h
  refine z_Vi K hH hl.1 (c_X8_fine l D y o (g_w) (g_kept) (.ref o_text) (.int v_size) (g_above) (g_below) (g_bads) (g_noes) (g_fulls) (.int v_at) (.int v_from) (.int v_token) (.int v_value) (g_yet) (g_fars) (g_tells) v_readFault r1 hr2) (z_cwV K 0 tw_4_231 tw_4_233 tw_0_50 tw_1_8 tw_4_234 hd_X8_fine ⟨by decide, by decide⟩) [0] [1] rfl (wr := [(o_text, .inl (y 0, 150, .inl f_text))]) rfl rfl rfl (by decide) rfl rfl rfl (As := []) (rest := []) rfl (Nat.le_of_ble_eq_true rfl) ⟨Nat.zero_le _, Nat.zero_le _⟩ dX8_stop_1 (ws' := [(o_text, .inl (y 0, 150, .inl f_text)), (o, .inr (7, [g_w, g_kept, .ref o_text, .int v_size, g_above, g_below, g_bads, g_noes, g_fulls, .int v_at, .int v_from, .int v_token, .int v_value, .int v_readFault, g_yet, g_fars, g_tells]))]) rfl (fun H locs hH => ?_)
  obtain ⟨j3, hj3, h⟩ := z_bd_e h
  have Kj3 : ∀ (H : Heap) (locs : List Loc) (ls : Array Slot), z_H D A s.heap [(o_text, .inl (y 0, 150, .inl f_text)), (o, .inr (7, [g_w, g_kept, .ref o_text, .int v_size, g_above, g_below, g_bads, g_noes, g_fulls, .int j3.1, .int j3.2.1, .int j3.2.2.1, .int j3.2.2.2.1, .int j3.2.2.2.2, g_yet, g_fars, g_tells]))] H locs → lv_has ls 1 [] → W p l e (zR 4 83) s m args below meth c H locs 0 0 Q (F0 m 23 ls []) := by
    intro H locs ls hH hl
    have hr9 := Option.some.inj h
    obtain rfl := hr9
    rw [hQ]
    exact z_retv K hr hH [1, 0] (by decide) rfl dX8_stop_23
  replace h := hj3
  refine lv_if_eq (tgt := 23) K.x K.b dX8_stop_4 (by decide) (fun c4 => ?_) (fun c4 => ?_)
  · replace h := z_t c4 h
    obtain rfl := Option.some.inj h
    exact Kj3 _ _ _ hH (lv_sub hl [] rfl)
  · replace h := z_f c4 h
    refine lv_aload_n K.x K.b dX8_stop_7 rfl (lv_at hl 0 rfl) ?_
    obtain ⟨r5, hr6, h⟩ := z_bd_e h
    refine z_Vv K hH hl.1 (c_X8_nextToken l D y o o_text (g_w) (g_kept) (g_above) (g_below) (g_bads) (g_noes) (g_fulls) (.int v_readFault) (g_yet) (g_fars) (g_tells) v_size v_at v_from v_token v_value f_text r5 hr6) (z_cwV K 0 tw_4_199 tw_4_201 tw_0_42 tw_1_8 tw_4_202 hd_X8_nextToken ⟨by decide, by decide⟩) [1, 0] [] rfl (wr := []) rfl rfl rfl (by decide) rfl rfl rfl (As := []) (rest := []) rfl (Nat.le_of_ble_eq_true rfl) ⟨Nat.zero_le _, Nat.zero_le _⟩ dX8_stop_8 (ws' := [(o, .inr (7, [g_w, g_kept, .ref o_text, .int v_size, g_above, g_below, g_bads, g_noes, g_fulls, .int r5.1, .int r5.2.1, .int r5.2.2.1, .int r5.2.2.2, .int v_readFault, g_yet, g_fars, g_tells])), (o_text, .inl (y 0, 150, .inl f_text))]) rfl (fun H locs hH => ?_)
    refine lv_aload_n K.x K.b dX8_stop_11 rfl (lv_at hl 0 rfl) ?_
    refine z_get K hH 0 rfl zin_8 rfl 11 (by decide) tw_4_107 (v := .int r5.2.2.1) rfl dX8_stop_12 ?_
    refine lv_iconst (v := (3)) K.x K.b dX8_stop_15 (by decide) ?_
    refine lv_icmp_eq (tgt := 23) K.x K.b dX8_stop_16 (by decide) (fun c7 => ?_) (fun c7 => ?_)
    · replace h := z_t c7 h
      obtain rfl := Option.some.inj h
      exact Kj3 _ _ _ (hH.sub [1, 0] (by decide) rfl) (lv_sub hl [] rfl)
    · replace h := z_f c7 h
      refine lv_aload_n K.x K.b dX8_stop_19 rfl (lv_at hl 0 rfl) ?_
      obtain ⟨r8, hr9, h⟩ := z_bd_e h
      refine z_Vv K hH hl.1 (c_X8_wrong l D y o (g_w) (g_kept) (.ref o_text) (.int v_size) (g_above) (g_below) (g_bads) (g_noes) (g_fulls) (.int r5.1) (.int r5.2.2.1) (.int r5.2.2.2) (g_yet) (g_fars) (g_tells) r5.2.1 v_readFault r8 hr9) (z_cwV K 0 tw_4_223 tw_4_225 tw_0_48 tw_1_8 tw_4_226 hd_X8_wrong ⟨by decide, by decide⟩) [0] [1] rfl (wr := [(o_text, .inl (y 0, 150, .inl f_text))]) rfl rfl rfl (by decide) rfl rfl rfl (As := []) (rest := []) rfl (Nat.le_of_ble_eq_true rfl) ⟨Nat.zero_le _, Nat.zero_le _⟩ dX8_stop_20 (ws' := [(o_text, .inl (y 0, 150, .inl f_text)), (o, .inr (7, [g_w, g_kept, .ref o_text, .int v_size, g_above, g_below, g_bads, g_noes, g_fulls, .int r5.1, .int r5.2.1, .int r5.2.2.1, .int r5.2.2.2, .int r8, g_yet, g_fars, g_tells]))]) rfl (fun H locs hH => ?_)
      obtain rfl := Option.some.inj h
      exact Kj3 _ _ _ hH (lv_sub hl [] rfl)
noncomputable def p_X8_readPlace (v_size : Int32) (v_at : Int32) (v_from : Int32) (v_token : Int32) (v_value : Int32) (v_readFault : Int32) (f_w : (Nat → Int32)) (f_text : (Nat → Int32)) : Option (Int32 × Int32 × Int32 × Int32 × Int32 × (Nat → Int32)) :=
  if ((f_w 1855) = (7 : Int32)) then
  (z_bd (p_X8_wrong v_from v_readFault) fun r14 =>
  some (v_at, v_from, v_token, v_value, r14, f_w)) else
  (z_bd (p_X8_number v_size v_at v_from v_token v_value v_readFault f_text (0 : Int32) (5 : Int32)) fun r2 =>
  z_bd (p_X8_number v_size r2.2.1 r2.2.2.1 r2.2.2.2.1 r2.2.2.2.2.1 r2.2.2.2.2.2 f_text (0 : Int32) (9 : Int32)) fun r4 =>
  z_bd (p_X8_number v_size r4.2.1 r4.2.2.1 r4.2.2.2.1 r4.2.2.2.2.1 r4.2.2.2.2.2 f_text (0 : Int32) (9 : Int32)) fun r6 =>
  z_bd (p_X8_fine r6.2.2.2.2.2) fun r8 =>
  z_bd (α := (Nat → Int32)) (if (r8 = 0) then
  (some f_w) else
  (z_bd (p_X8_placeIn f_w (1437 : Int32) r2.1 r4.1 r6.1) fun r12 =>
  some r12.2)) fun j10 =>
  some (r6.2.1, r6.2.2.1, r6.2.2.2.1, r6.2.2.2.2.1, r6.2.2.2.2.2, j10))
theorem hd_X8_readPlace : yX8_readPlace.cls = RX8 ∧ yX8_readPlace.cls ≠ "java/lang/invoke/MethodHandle" ∧ yX8_readPlace.cls ≠ "java/lang/invoke/VarHandle" ∧ (parseMethodDescriptor yX8_readPlace.desc).map (fun d => d.parameters.length) = some 0 := by decide +kernel
set_option maxHeartbeats 4000000 in
set_option maxRecDepth 100000 in
theorem c_X8_readPlace (l : Launch) (D : va_G) (y : Nat → ClassId) (o o_w o_text : Nat) (g_kept g_above g_below g_bads g_noes g_fulls g_yet g_fars g_tells : Value) (v_size : Int32) (v_at : Int32) (v_from : Int32) (v_token : Int32) (v_value : Int32) (v_readFault : Int32) (f_w : (Nat → Int32)) (f_text : (Nat → Int32)) (r : Int32 × Int32 × Int32 × Int32 × Int32 × (Nat → Int32)) (h : p_X8_readPlace v_size v_at v_from v_token v_value v_readFault f_w f_text = some r) : z_MV l yX8_readPlace cX8_readPlace 5 none 5 105 D y [.ref o] [(o, .inr (7, [.ref o_w, g_kept, .ref o_text, .int v_size, g_above, g_below, g_bads, g_noes, g_fulls, .int v_at, .int v_from, .int v_token, .int v_value, .int v_readFault, g_yet, g_fars, g_tells])), (o_w, .inl (y 0, 1960, .inl f_w)), (o_text, .inl (y 0, 150, .inl f_text))] [(o, .inr (7, [.ref o_w, g_kept, .ref o_text, .int v_size, g_above, g_below, g_bads, g_noes, g_fulls, .int r.1, .int r.2.1, .int r.2.2.1, .int r.2.2.2.1, .int r.2.2.2.2.1, g_yet, g_fars, g_tells])), (o_w, .inl (y 0, 1960, .inl r.2.2.2.2.2)), (o_text, .inl (y 0, 150, .inl f_text))] := by
  unfold p_X8_readPlace at h
  refine z_enV (by decide) (Nat.le_of_ble_eq_true rfl) ?_
  intro p e s m args below meth c A ls hr K hH hl
  obtain ⟨Q, hQ⟩ : ∃ Q, Q = MQ below (z_Qv D y A [(o, .inr (7, [.ref o_w, g_kept, .ref o_text, .int v_size, g_above, g_below, g_bads, g_noes, g_fulls, .int r.1, .int r.2.1, .int r.2.2.1, .int r.2.2.2.1, .int r.2.2.2.2.1, g_yet, g_fars, g_tells])), (o_w, .inl (y 0, 1960, .inl r.2.2.2.2.2)), (o_text, .inl (y 0, 150, .inl f_text))]) args s 0 0 A := ⟨_, rfl⟩
  rw [← hQ]
  have hl : lv_has ls 5 [(0, .ref o)] := hl
  refine lv_aload_n K.x K.b dX8_readPlace_0 rfl (lv_at hl 0 rfl) ?_
  refine z_get K hH 0 rfl zin_8 rfl 0 (by decide) tw_4_96 (v := .ref o_w) rfl dX8_readPlace_1 ?_
  refine lv_sipush (v := (1855)) K.x K.b dX8_readPlace_4 (by decide) ?_
  refine z_iald K hH 1 (k := 1855) rfl (by decide) rfl dX8_readPlace_7 ?_
  refine lv_bipush (v := (7)) K.x K.b dX8_readPlace_8 (by decide) ?_
  refine lv_icmp_ne (tgt := 18) K.x K.b dX8_readPlace_10 (by decide) (fun c1 => ?_) (fun c1 => ?_)
  · replace h := z_f c1 h
    refine lv_aload_n K.x K.b dX8_readPlace_18 rfl (lv_at hl 0 rfl) ?_
    refine lv_iconst (v := (0)) K.x K.b dX8_readPlace_19 (by decide) ?_
    refine lv_iconst (v := (5)) K.x K.b dX8_readPlace_20 (by decide) ?_
    obtain ⟨r2, hr3, h⟩ := z_bd_e h
    refine z_Vi K hH hl.1 (c_X8_number l D y o o_text (.ref o_w) (g_kept) (g_above) (g_below) (g_bads) (g_noes) (g_fulls) (g_yet) (g_fars) (g_tells) v_size v_at v_from v_token v_value v_readFault f_text (0 : Int32) (5 : Int32) r2 hr3) (z_cwV K 2 tw_5_3 tw_5_5 tw_0_53 tw_1_8 tw_5_6 hd_X8_number ⟨by decide, by decide⟩) [0, 2] [1] rfl (wr := [(o_w, .inl (y 0, 1960, .inl f_w))]) rfl rfl rfl (by decide) rfl rfl rfl (As := [.int (0 : Int32), .int (5 : Int32)]) (rest := []) rfl (Nat.le_of_ble_eq_true rfl) ⟨Nat.zero_le _, Nat.zero_le _⟩ dX8_readPlace_21 (ws' := [(o_w, .inl (y 0, 1960, .inl f_w)), (o, .inr (7, [.ref o_w, g_kept, .ref o_text, .int v_size, g_above, g_below, g_bads, g_noes, g_fulls, .int r2.2.1, .int r2.2.2.1, .int r2.2.2.2.1, .int r2.2.2.2.2.1, .int r2.2.2.2.2.2, g_yet, g_fars, g_tells])), (o_text, .inl (y 0, 150, .inl f_text))]) rfl (fun H locs hH => ?_)
    refine lv_istore_n (lv' := [(1, .int r2.1), (0, .ref o)]) K.x K.b dX8_readPlace_24 rfl hl (by decide) rfl (fun ls hl => ?_)
    refine lv_aload_n K.x K.b dX8_readPlace_25 rfl (lv_at hl 1 rfl) ?_
    refine lv_iconst (v := (0)) K.x K.b dX8_readPlace_26 (by decide) ?_
    refine lv_bipush (v := (9)) K.x K.b dX8_readPlace_27 (by decide) ?_
    obtain ⟨r4, hr5, h⟩ := z_bd_e h
    refine z_Vi K hH hl.1 (c_X8_number l D y o o_text (.ref o_w) (g_kept) (g_above) (g_below) (g_bads) (g_noes) (g_fulls) (g_yet) (g_fars) (g_tells) v_size r2.2.1 r2.2.2.1 r2.2.2.2.1 r2.2.2.2.2.1 r2.2.2.2.2.2 f_text (0 : Int32) (9 : Int32) r4 hr5) (z_cwV K 2 tw_5_3 tw_5_5 tw_0_53 tw_1_8 tw_5_6 hd_X8_number ⟨by decide, by decide⟩) [1, 2] [0] rfl (wr := [(o_w, .inl (y 0, 1960, .inl f_w))]) rfl rfl rfl (by decide) rfl rfl rfl (As := [.int (0 : Int32), .int (9 : Int32)]) (rest := []) rfl (Nat.le_of_ble_eq_true rfl) ⟨Nat.zero_le _, Nat.zero_le _⟩ dX8_readPlace_29 (ws' := [(o_w, .inl (y 0, 1960, .inl f_w)), (o, .inr (7, [.ref o_w, g_kept, .ref o_text, .int v_size, g_above, g_below, g_bads, g_noes, g_fulls, .int r4.2.1, .int r4.2.2.1, .int r4.2.2.2.1, .int r4.2.2.2.2.1, .int r4.2.2.2.2.2, g_yet, g_fars, g_tells])), (o_text, .inl (y 0, 150, .inl f_text))]) rfl (fun H locs hH => ?_)
    refine lv_istore_n (lv' := [(2, .int r4.1), (1, .int r2.1), (0, .ref o)]) K.x K.b dX8_readPlace_32 rfl hl (by decide) rfl (fun ls hl => ?_)
    refine lv_aload_n K.x K.b dX8_readPlace_33 rfl (lv_at hl 2 rfl) ?_
    refine lv_iconst (v := (0)) K.x K.b dX8_readPlace_34 (by decide) ?_
    refine lv_bipush (v := (9)) K.x K.b dX8_readPlace_35 (by decide) ?_
    obtain ⟨r6, hr7, h⟩ := z_bd_e h
    refine z_Vi K hH hl.1 (c_X8_number l D y o o_text (.ref o_w) (g_kept) (g_above) (g_below) (g_bads) (g_noes) (g_fulls) (g_yet) (g_fars) (g_tells) v_size r4.2.1 r4.2.2.1 r4.2.2.2.1 r4.2.2.2.2.1 r4.2.2.2.2.2 f_text (0 : Int32) (9 : Int32) r6 hr7) (z_cwV K 2 tw_5_3 tw_5_5 tw_0_53 tw_1_8 tw_5_6 hd_X8_number ⟨by decide, by decide⟩) [1, 2] [0] rfl (wr := [(o_w, .inl (y 0, 1960, .inl f_w))]) rfl rfl rfl (by decide) rfl rfl rfl (As := [.int (0 : Int32), .int (9 : Int32)]) (rest := []) rfl (Nat.le_of_ble_eq_true rfl) ⟨Nat.zero_le _, Nat.zero_le _⟩ dX8_readPlace_37 (ws' := [(o_w, .inl (y 0, 1960, .inl f_w)), (o, .inr (7, [.ref o_w, g_kept, .ref o_text, .int v_size, g_above, g_below, g_bads, g_noes, g_fulls, .int r6.2.1, .int r6.2.2.1, .int r6.2.2.2.1, .int r6.2.2.2.2.1, .int r6.2.2.2.2.2, g_yet, g_fars, g_tells])), (o_text, .inl (y 0, 150, .inl f_text))]) rfl (fun H locs hH => ?_)
    refine lv_istore_n (lv' := [(3, .int r6.1), (2, .int r4.1), (1, .int r2.1), (0, .ref o)]) K.x K.b dX8_readPlace_40 rfl hl (by decide) rfl (fun ls hl => ?_)
    refine lv_aload_n K.x K.b dX8_readPlace_41 rfl (lv_at hl 3 rfl) ?_
    obtain ⟨r8, hr9, h⟩ := z_bd_e h
    refine z_Vi K hH hl.1 (c_X8_fine l D y o (.ref o_w) (g_kept) (.ref o_text) (.int v_size) (g_above) (g_below) (g_bads) (g_noes) (g_fulls) (.int r6.2.1) (.int r6.2.2.1) (.int r6.2.2.2.1) (.int r6.2.2.2.2.1) (g_yet) (g_fars) (g_tells) r6.2.2.2.2.2 r8 hr9) (z_cwV K 0 tw_4_231 tw_4_233 tw_0_50 tw_1_8 tw_4_234 hd_X8_fine ⟨by decide, by decide⟩) [1] [0, 2] rfl (wr := [(o_w, .inl (y 0, 1960, .inl f_w)), (o_text, .inl (y 0, 150, .inl f_text))]) rfl rfl rfl (by decide) rfl rfl rfl (As := []) (rest := []) rfl (Nat.le_of_ble_eq_true rfl) ⟨Nat.zero_le _, Nat.zero_le _⟩ dX8_readPlace_42 (ws' := [(o_w, .inl (y 0, 1960, .inl f_w)), (o_text, .inl (y 0, 150, .inl f_text)), (o, .inr (7, [.ref o_w, g_kept, .ref o_text, .int v_size, g_above, g_below, g_bads, g_noes, g_fulls, .int r6.2.1, .int r6.2.2.1, .int r6.2.2.2.1, .int r6.2.2.2.2.1, .int r6.2.2.2.2.2, g_yet, g_fars, g_tells]))]) rfl (fun H locs hH => ?_)
    obtain ⟨j10, hj10, h⟩ := z_bd_e h
    have Kj10 : ∀ (H : Heap) (locs : List Loc) (ls : Array Slot), z_H D A s.heap [(o_w, .inl (y 0, 1960, .inl j10)), (o_text, .inl (y 0, 150, .inl f_text)), (o, .inr (7, [.ref o_w, g_kept, .ref o_text, .int v_size, g_above, g_below, g_bads, g_noes, g_fulls, .int r6.2.1, .int r6.2.2.1, .int r6.2.2.2.1, .int r6.2.2.2.2.1, .int r6.2.2.2.2.2, g_yet, g_fars, g_tells]))] H locs → lv_has ls 5 [] → W p l e (zR 5 105) s m args below meth c H locs 0 0 Q (F0 m 60 ls []) := by
      intro H locs ls hH hl
      have hr9 := Option.some.inj h
      obtain rfl := hr9
      rw [hQ]
      exact z_retv K hr hH [2, 0, 1] (by decide) rfl dX8_readPlace_60
    replace h := hj10
    refine lv_if_eq (tgt := 60) K.x K.b dX8_readPlace_45 (by decide) (fun c11 => ?_) (fun c11 => ?_)
    · replace h := z_t c11 h
      obtain rfl := Option.some.inj h
      exact Kj10 _ _ _ hH (lv_sub hl [] rfl)
    · replace h := z_f c11 h
      refine lv_aload_n K.x K.b dX8_readPlace_48 rfl (lv_at hl 3 rfl) ?_
      refine lv_sipush (v := (1437)) K.x K.b dX8_readPlace_49 (by decide) ?_
      refine lv_iload_n K.x K.b dX8_readPlace_52 rfl (lv_at hl 2 rfl) ?_
      refine lv_iload_n K.x K.b dX8_readPlace_53 rfl (lv_at hl 1 rfl) ?_
      refine lv_iload_n K.x K.b dX8_readPlace_54 rfl (lv_at hl 0 rfl) ?_
      obtain ⟨r12, hr13, h⟩ := z_bd_e h
      refine z_Vi K hH hl.1 (c_X8_placeIn l D y o o_w (g_kept) (.ref o_text) (.int v_size) (g_above) (g_below) (g_bads) (g_noes) (g_fulls) (.int r6.2.1) (.int r6.2.2.1) (.int r6.2.2.2.1) (.int r6.2.2.2.2.1) (.int r6.2.2.2.2.2) (g_yet) (g_fars) (g_tells) f_w (1437 : Int32) r2.1 r4.1 r6.1 r12 hr13) (z_cwV K 4 tw_4_171 tw_4_173 tw_0_39 tw_1_8 tw_4_174 hd_X8_placeIn ⟨by decide, by decide⟩) [2, 0] [1] rfl (wr := [(o_text, .inl (y 0, 150, .inl f_text))]) rfl rfl rfl (by decide) rfl rfl rfl (As := [.int (1437 : Int32), .int r2.1, .int r4.1, .int r6.1]) (rest := []) rfl (Nat.le_of_ble_eq_true rfl) ⟨Nat.zero_le _, Nat.zero_le _⟩ dX8_readPlace_55 (ws' := [(o_text, .inl (y 0, 150, .inl f_text)), (o, .inr (7, [.ref o_w, g_kept, .ref o_text, .int v_size, g_above, g_below, g_bads, g_noes, g_fulls, .int r6.2.1, .int r6.2.2.1, .int r6.2.2.2.1, .int r6.2.2.2.2.1, .int r6.2.2.2.2.2, g_yet, g_fars, g_tells])), (o_w, .inl (y 0, 1960, .inl r12.2))]) rfl (fun H locs hH => ?_)
      refine lv_istore (lv' := [(4, .int r12.1), (3, .int r6.1), (2, .int r4.1), (1, .int r2.1), (0, .ref o)]) K.x K.b dX8_readPlace_58 hl (by decide) rfl (fun ls hl => ?_)
      obtain rfl := Option.some.inj h
      exact Kj10 _ _ _ (hH.sub [2, 0, 1] (by decide) rfl) (lv_sub hl [] rfl)
  · replace h := z_t c1 h
    refine lv_aload_n K.x K.b dX8_readPlace_13 rfl (lv_at hl 0 rfl) ?_
    obtain ⟨r14, hr15, h⟩ := z_bd_e h
    refine z_Vv K hH hl.1 (c_X8_wrong l D y o (.ref o_w) (g_kept) (.ref o_text) (.int v_size) (g_above) (g_below) (g_bads) (g_noes) (g_fulls) (.int v_at) (.int v_token) (.int v_value) (g_yet) (g_fars) (g_tells) v_from v_readFault r14 hr15) (z_cwV K 0 tw_4_223 tw_4_225 tw_0_48 tw_1_8 tw_4_226 hd_X8_wrong ⟨by decide, by decide⟩) [0] [1, 2] rfl (wr := [(o_w, .inl (y 0, 1960, .inl f_w)), (o_text, .inl (y 0, 150, .inl f_text))]) rfl rfl rfl (by decide) rfl rfl rfl (As := []) (rest := []) rfl (Nat.le_of_ble_eq_true rfl) ⟨Nat.zero_le _, Nat.zero_le _⟩ dX8_readPlace_14 (ws' := [(o_w, .inl (y 0, 1960, .inl f_w)), (o_text, .inl (y 0, 150, .inl f_text)), (o, .inr (7, [.ref o_w, g_kept, .ref o_text, .int v_size, g_above, g_below, g_bads, g_noes, g_fulls, .int v_at, .int v_from, .int v_token, .int v_value, .int r14, g_yet, g_fars, g_tells]))]) rfl (fun H locs hH => ?_)
    have hr9 := Option.some.inj h
    obtain rfl := hr9
    rw [hQ]
    exact z_retv K hr hH [2, 0, 1] (by decide) rfl dX8_readPlace_17
noncomputable def p_X8_readCrow (v_size : Int32) (v_at : Int32) (v_from : Int32) (v_token : Int32) (v_value : Int32) (v_readFault : Int32) (f_w : (Nat → Int32)) (f_text : (Nat → Int32)) : Option (Int32 × Int32 × Int32 × Int32 × Int32 × (Nat → Int32)) :=
  if ((f_w 1859) = (3 : Int32)) then
  (z_bd (p_X8_wrong v_from v_readFault) fun r13 =>
  some (v_at, v_from, v_token, v_value, r13, f_w)) else
  (z_bd (p_X8_number v_size v_at v_from v_token v_value v_readFault f_text (0 : Int32) (5 : Int32)) fun r2 =>
  z_lt (((f_w 1855) - (1 : Int32))) fun x4 =>
  z_bd (p_X8_number v_size r2.2.1 r2.2.2.1 r2.2.2.2.1 r2.2.2.2.2.1 r2.2.2.2.2.2 f_text (0 : Int32) x4) fun r5 =>
  z_bd (p_X8_fine r5.2.2.2.2.2) fun r7 =>
  z_bd (α := (Nat → Int32)) (if (r7 = 0) then
  (some f_w) else
  (z_bd (p_X8_crowIn f_w (1437 : Int32) r2.1 r5.1) fun r11 =>
  some r11.2)) fun j9 =>
  some (r5.2.1, r5.2.2.1, r5.2.2.2.1, r5.2.2.2.2.1, r5.2.2.2.2.2, j9))
theorem hd_X8_readCrow : yX8_readCrow.cls = RX8 ∧ yX8_readCrow.cls ≠ "java/lang/invoke/MethodHandle" ∧ yX8_readCrow.cls ≠ "java/lang/invoke/VarHandle" ∧ (parseMethodDescriptor yX8_readCrow.desc).map (fun d => d.parameters.length) = some 0 := by decide +kernel
set_option maxHeartbeats 4000000 in
set_option maxRecDepth 100000 in
theorem c_X8_readCrow (l : Launch) (D : va_G) (y : Nat → ClassId) (o o_w o_text : Nat) (g_kept g_above g_below g_bads g_noes g_fulls g_yet g_fars g_tells : Value) (v_size : Int32) (v_at : Int32) (v_from : Int32) (v_token : Int32) (v_value : Int32) (v_readFault : Int32) (f_w : (Nat → Int32)) (f_text : (Nat → Int32)) (r : Int32 × Int32 × Int32 × Int32 × Int32 × (Nat → Int32)) (h : p_X8_readCrow v_size v_at v_from v_token v_value v_readFault f_w f_text = some r) : z_MV l yX8_readCrow cX8_readCrow 4 none 5 105 D y [.ref o] [(o, .inr (7, [.ref o_w, g_kept, .ref o_text, .int v_size, g_above, g_below, g_bads, g_noes, g_fulls, .int v_at, .int v_from, .int v_token, .int v_value, .int v_readFault, g_yet, g_fars, g_tells])), (o_w, .inl (y 0, 1960, .inl f_w)), (o_text, .inl (y 0, 150, .inl f_text))] [(o, .inr (7, [.ref o_w, g_kept, .ref o_text, .int v_size, g_above, g_below, g_bads, g_noes, g_fulls, .int r.1, .int r.2.1, .int r.2.2.1, .int r.2.2.2.1, .int r.2.2.2.2.1, g_yet, g_fars, g_tells])), (o_w, .inl (y 0, 1960, .inl r.2.2.2.2.2)), (o_text, .inl (y 0, 150, .inl f_text))] := by
  unfold p_X8_readCrow at h
  refine z_enV (by decide) (Nat.le_of_ble_eq_true rfl) ?_
  intro p e s m args below meth c A ls hr K hH hl
  obtain ⟨Q, hQ⟩ : ∃ Q, Q = MQ below (z_Qv D y A [(o, .inr (7, [.ref o_w, g_kept, .ref o_text, .int v_size, g_above, g_below, g_bads, g_noes, g_fulls, .int r.1, .int r.2.1, .int r.2.2.1, .int r.2.2.2.1, .int r.2.2.2.2.1, g_yet, g_fars, g_tells])), (o_w, .inl (y 0, 1960, .inl r.2.2.2.2.2)), (o_text, .inl (y 0, 150, .inl f_text))]) args s 0 0 A := ⟨_, rfl⟩
  rw [← hQ]
  have hl : lv_has ls 4 [(0, .ref o)] := hl
  refine lv_aload_n K.x K.b dX8_readCrow_0 rfl (lv_at hl 0 rfl) ?_
  refine z_get K hH 0 rfl zin_8 rfl 0 (by decide) tw_4_96 (v := .ref o_w) rfl dX8_readCrow_1 ?_
  refine lv_sipush (v := (1859)) K.x K.b dX8_readCrow_4 (by decide) ?_
  refine z_iald K hH 1 (k := 1859) rfl (by decide) rfl dX8_readCrow_7 ?_
  refine lv_iconst (v := (3)) K.x K.b dX8_readCrow_8 (by decide) ?_
  refine lv_icmp_ne (tgt := 17) K.x K.b dX8_readCrow_9 (by decide) (fun c1 => ?_) (fun c1 => ?_)
  · replace h := z_f c1 h
    refine lv_aload_n K.x K.b dX8_readCrow_17 rfl (lv_at hl 0 rfl) ?_
    refine lv_iconst (v := (0)) K.x K.b dX8_readCrow_18 (by decide) ?_
    refine lv_iconst (v := (5)) K.x K.b dX8_readCrow_19 (by decide) ?_
    obtain ⟨r2, hr3, h⟩ := z_bd_e h
    refine z_Vi K hH hl.1 (c_X8_number l D y o o_text (.ref o_w) (g_kept) (g_above) (g_below) (g_bads) (g_noes) (g_fulls) (g_yet) (g_fars) (g_tells) v_size v_at v_from v_token v_value v_readFault f_text (0 : Int32) (5 : Int32) r2 hr3) (z_cwV K 2 tw_5_3 tw_5_5 tw_0_53 tw_1_8 tw_5_6 hd_X8_number ⟨by decide, by decide⟩) [0, 2] [1] rfl (wr := [(o_w, .inl (y 0, 1960, .inl f_w))]) rfl rfl rfl (by decide) rfl rfl rfl (As := [.int (0 : Int32), .int (5 : Int32)]) (rest := []) rfl (Nat.le_of_ble_eq_true rfl) ⟨Nat.zero_le _, Nat.zero_le _⟩ dX8_readCrow_20 (ws' := [(o_w, .inl (y 0, 1960, .inl f_w)), (o, .inr (7, [.ref o_w, g_kept, .ref o_text, .int v_size, g_above, g_below, g_bads, g_noes, g_fulls, .int r2.2.1, .int r2.2.2.1, .int r2.2.2.2.1, .int r2.2.2.2.2.1, .int r2.2.2.2.2.2, g_yet, g_fars, g_tells])), (o_text, .inl (y 0, 150, .inl f_text))]) rfl (fun H locs hH => ?_)
    refine lv_istore_n (lv' := [(1, .int r2.1), (0, .ref o)]) K.x K.b dX8_readCrow_23 rfl hl (by decide) rfl (fun ls hl => ?_)
    refine lv_aload_n K.x K.b dX8_readCrow_24 rfl (lv_at hl 1 rfl) ?_
    refine lv_iconst (v := (0)) K.x K.b dX8_readCrow_25 (by decide) ?_
    refine lv_aload_n K.x K.b dX8_readCrow_26 rfl (lv_at hl 1 rfl) ?_
    refine z_get K hH 1 rfl zin_8 rfl 0 (by decide) tw_4_96 (v := .ref o_w) rfl dX8_readCrow_27 ?_
    refine lv_sipush (v := (1855)) K.x K.b dX8_readCrow_30 (by decide) ?_
    refine z_iald K hH 0 (k := 1855) rfl (by decide) rfl dX8_readCrow_33 ?_
    refine lv_iconst (v := (1)) K.x K.b dX8_readCrow_34 (by decide) ?_
    refine lv_isub K.x K.b dX8_readCrow_35 ?_
    obtain ⟨x4, ex4, h⟩ := z_lt_e h
    refine z_nm ex4 ?_
    obtain ⟨r5, hr6, h⟩ := z_bd_e h
    refine z_Vi K hH hl.1 (c_X8_number l D y o o_text (.ref o_w) (g_kept) (g_above) (g_below) (g_bads) (g_noes) (g_fulls) (g_yet) (g_fars) (g_tells) v_size r2.2.1 r2.2.2.1 r2.2.2.2.1 r2.2.2.2.2.1 r2.2.2.2.2.2 f_text (0 : Int32) x4 r5 hr6) (z_cwV K 2 tw_5_3 tw_5_5 tw_0_53 tw_1_8 tw_5_6 hd_X8_number ⟨by decide, by decide⟩) [1, 2] [0] rfl (wr := [(o_w, .inl (y 0, 1960, .inl f_w))]) rfl rfl rfl (by decide) rfl rfl rfl (As := [.int (0 : Int32), .int x4]) (rest := []) rfl (Nat.le_of_ble_eq_true rfl) ⟨Nat.zero_le _, Nat.zero_le _⟩ dX8_readCrow_36 (ws' := [(o_w, .inl (y 0, 1960, .inl f_w)), (o, .inr (7, [.ref o_w, g_kept, .ref o_text, .int v_size, g_above, g_below, g_bads, g_noes, g_fulls, .int r5.2.1, .int r5.2.2.1, .int r5.2.2.2.1, .int r5.2.2.2.2.1, .int r5.2.2.2.2.2, g_yet, g_fars, g_tells])), (o_text, .inl (y 0, 150, .inl f_text))]) rfl (fun H locs hH => ?_)
    refine lv_istore_n (lv' := [(2, .int r5.1), (1, .int r2.1), (0, .ref o)]) K.x K.b dX8_readCrow_39 rfl hl (by decide) rfl (fun ls hl => ?_)
    refine lv_aload_n K.x K.b dX8_readCrow_40 rfl (lv_at hl 2 rfl) ?_
    obtain ⟨r7, hr8, h⟩ := z_bd_e h
    refine z_Vi K hH hl.1 (c_X8_fine l D y o (.ref o_w) (g_kept) (.ref o_text) (.int v_size) (g_above) (g_below) (g_bads) (g_noes) (g_fulls) (.int r5.2.1) (.int r5.2.2.1) (.int r5.2.2.2.1) (.int r5.2.2.2.2.1) (g_yet) (g_fars) (g_tells) r5.2.2.2.2.2 r7 hr8) (z_cwV K 0 tw_4_231 tw_4_233 tw_0_50 tw_1_8 tw_4_234 hd_X8_fine ⟨by decide, by decide⟩) [1] [0, 2] rfl (wr := [(o_w, .inl (y 0, 1960, .inl f_w)), (o_text, .inl (y 0, 150, .inl f_text))]) rfl rfl rfl (by decide) rfl rfl rfl (As := []) (rest := []) rfl (Nat.le_of_ble_eq_true rfl) ⟨Nat.zero_le _, Nat.zero_le _⟩ dX8_readCrow_41 (ws' := [(o_w, .inl (y 0, 1960, .inl f_w)), (o_text, .inl (y 0, 150, .inl f_text)), (o, .inr (7, [.ref o_w, g_kept, .ref o_text, .int v_size, g_above, g_below, g_bads, g_noes, g_fulls, .int r5.2.1, .int r5.2.2.1, .int r5.2.2.2.1, .int r5.2.2.2.2.1, .int r5.2.2.2.2.2, g_yet, g_fars, g_tells]))]) rfl (fun H locs hH => ?_)
    obtain ⟨j9, hj9, h⟩ := z_bd_e h
    have Kj9 : ∀ (H : Heap) (locs : List Loc) (ls : Array Slot), z_H D A s.heap [(o_w, .inl (y 0, 1960, .inl j9)), (o_text, .inl (y 0, 150, .inl f_text)), (o, .inr (7, [.ref o_w, g_kept, .ref o_text, .int v_size, g_above, g_below, g_bads, g_noes, g_fulls, .int r5.2.1, .int r5.2.2.1, .int r5.2.2.2.1, .int r5.2.2.2.2.1, .int r5.2.2.2.2.2, g_yet, g_fars, g_tells]))] H locs → lv_has ls 4 [] → W p l e (zR 5 105) s m args below meth c H locs 0 0 Q (F0 m 57 ls []) := by
      intro H locs ls hH hl
      have hr9 := Option.some.inj h
      obtain rfl := hr9
      rw [hQ]
      exact z_retv K hr hH [2, 0, 1] (by decide) rfl dX8_readCrow_57
    replace h := hj9
    refine lv_if_eq (tgt := 57) K.x K.b dX8_readCrow_44 (by decide) (fun c10 => ?_) (fun c10 => ?_)
    · replace h := z_t c10 h
      obtain rfl := Option.some.inj h
      exact Kj9 _ _ _ hH (lv_sub hl [] rfl)
    · replace h := z_f c10 h
      refine lv_aload_n K.x K.b dX8_readCrow_47 rfl (lv_at hl 2 rfl) ?_
      refine lv_sipush (v := (1437)) K.x K.b dX8_readCrow_48 (by decide) ?_
      refine lv_iload_n K.x K.b dX8_readCrow_51 rfl (lv_at hl 1 rfl) ?_
      refine lv_iload_n K.x K.b dX8_readCrow_52 rfl (lv_at hl 0 rfl) ?_
      obtain ⟨r11, hr12, h⟩ := z_bd_e h
      refine z_Vi K hH hl.1 (c_X8_crowIn l D y o o_w (g_kept) (.ref o_text) (.int v_size) (g_above) (g_below) (g_bads) (g_noes) (g_fulls) (.int r5.2.1) (.int r5.2.2.1) (.int r5.2.2.2.1) (.int r5.2.2.2.2.1) (.int r5.2.2.2.2.2) (g_yet) (g_fars) (g_tells) f_w (1437 : Int32) r2.1 r5.1 r11 hr12) (z_cwV K 3 tw_4_183 tw_4_185 tw_0_41 tw_1_8 tw_4_186 hd_X8_crowIn ⟨by decide, by decide⟩) [2, 0] [1] rfl (wr := [(o_text, .inl (y 0, 150, .inl f_text))]) rfl rfl rfl (by decide) rfl rfl rfl (As := [.int (1437 : Int32), .int r2.1, .int r5.1]) (rest := []) rfl (Nat.le_of_ble_eq_true rfl) ⟨Nat.zero_le _, Nat.zero_le _⟩ dX8_readCrow_53 (ws' := [(o_text, .inl (y 0, 150, .inl f_text)), (o, .inr (7, [.ref o_w, g_kept, .ref o_text, .int v_size, g_above, g_below, g_bads, g_noes, g_fulls, .int r5.2.1, .int r5.2.2.1, .int r5.2.2.2.1, .int r5.2.2.2.2.1, .int r5.2.2.2.2.2, g_yet, g_fars, g_tells])), (o_w, .inl (y 0, 1960, .inl r11.2))]) rfl (fun H locs hH => ?_)
      refine lv_istore_n (lv' := [(3, .int r11.1), (2, .int r5.1), (1, .int r2.1), (0, .ref o)]) K.x K.b dX8_readCrow_56 rfl hl (by decide) rfl (fun ls hl => ?_)
      obtain rfl := Option.some.inj h
      exact Kj9 _ _ _ (hH.sub [2, 0, 1] (by decide) rfl) (lv_sub hl [] rfl)
  · replace h := z_t c1 h
    refine lv_aload_n K.x K.b dX8_readCrow_12 rfl (lv_at hl 0 rfl) ?_
    obtain ⟨r13, hr14, h⟩ := z_bd_e h
    refine z_Vv K hH hl.1 (c_X8_wrong l D y o (.ref o_w) (g_kept) (.ref o_text) (.int v_size) (g_above) (g_below) (g_bads) (g_noes) (g_fulls) (.int v_at) (.int v_token) (.int v_value) (g_yet) (g_fars) (g_tells) v_from v_readFault r13 hr14) (z_cwV K 0 tw_4_223 tw_4_225 tw_0_48 tw_1_8 tw_4_226 hd_X8_wrong ⟨by decide, by decide⟩) [0] [1, 2] rfl (wr := [(o_w, .inl (y 0, 1960, .inl f_w)), (o_text, .inl (y 0, 150, .inl f_text))]) rfl rfl rfl (by decide) rfl rfl rfl (As := []) (rest := []) rfl (Nat.le_of_ble_eq_true rfl) ⟨Nat.zero_le _, Nat.zero_le _⟩ dX8_readCrow_13 (ws' := [(o_w, .inl (y 0, 1960, .inl f_w)), (o_text, .inl (y 0, 150, .inl f_text)), (o, .inr (7, [.ref o_w, g_kept, .ref o_text, .int v_size, g_above, g_below, g_bads, g_noes, g_fulls, .int v_at, .int v_from, .int v_token, .int v_value, .int r13, g_yet, g_fars, g_tells]))]) rfl (fun H locs hH => ?_)
    have hr9 := Option.some.inj h
    obtain rfl := hr9
    rw [hQ]
    exact z_retv K hr hH [2, 0, 1] (by decide) rfl dX8_readCrow_16
noncomputable def p_X8_readFly (v_size : Int32) (v_at : Int32) (v_from : Int32) (v_token : Int32) (v_value : Int32) (v_readFault : Int32) (f_w : (Nat → Int32)) (f_text : (Nat → Int32)) : Option (Int32 × Int32 × Int32 × Int32 × Int32 × (Nat → Int32)) :=
  z_lt (((f_w 1859) - (1 : Int32))) fun x1 =>
  z_bd (p_X8_number v_size v_at v_from v_token v_value v_readFault f_text (0 : Int32) x1) fun r2 =>
  z_lt (((f_w 1855) - (1 : Int32))) fun x4 =>
  z_bd (p_X8_number v_size r2.2.1 r2.2.2.1 r2.2.2.2.1 r2.2.2.2.2.1 r2.2.2.2.2.2 f_text (0 : Int32) x4) fun r5 =>
  z_bd (p_X8_fine r5.2.2.2.2.2) fun r7 =>
  z_bd (α := Int32) (if (r7 = 0) then
  (some r5.2.2.2.2.2) else
  (z_lt (((1437 : Int32) + r2.1)) fun x17 =>
  z_gd (z_in x17 1960) <|
  if ((f_w x17.toNatClampNeg) = r5.1) then
  (z_bd (p_X8_wrong r5.2.2.1 r5.2.2.2.2.2) fun r20 =>
  some r20) else
  (some r5.2.2.2.2.2))) fun j9 =>
  z_bd (p_X8_fine j9) fun r10 =>
  z_bd (α := (Nat → Int32)) (if (r10 = 0) then
  (some f_w) else
  (z_bd (p_X8_flyIn f_w (1437 : Int32) (1437 : Int32) r2.1 r5.1) fun r14 =>
  some r14.2)) fun j12 =>
  some (r5.2.1, r5.2.2.1, r5.2.2.2.1, r5.2.2.2.2.1, j9, j12)
theorem hd_X8_readFly : yX8_readFly.cls = RX8 ∧ yX8_readFly.cls ≠ "java/lang/invoke/MethodHandle" ∧ yX8_readFly.cls ≠ "java/lang/invoke/VarHandle" ∧ (parseMethodDescriptor yX8_readFly.desc).map (fun d => d.parameters.length) = some 0 := by decide +kernel
set_option maxHeartbeats 4000000 in
set_option maxRecDepth 100000 in
theorem c_X8_readFly (l : Launch) (D : va_G) (y : Nat → ClassId) (o o_w o_text : Nat) (g_kept g_above g_below g_bads g_noes g_fulls g_yet g_fars g_tells : Value) (v_size : Int32) (v_at : Int32) (v_from : Int32) (v_token : Int32) (v_value : Int32) (v_readFault : Int32) (f_w : (Nat → Int32)) (f_text : (Nat → Int32)) (r : Int32 × Int32 × Int32 × Int32 × Int32 × (Nat → Int32)) (h : p_X8_readFly v_size v_at v_from v_token v_value v_readFault f_w f_text = some r) : z_MV l yX8_readFly cX8_readFly 4 none 5 124 D y [.ref o] [(o, .inr (7, [.ref o_w, g_kept, .ref o_text, .int v_size, g_above, g_below, g_bads, g_noes, g_fulls, .int v_at, .int v_from, .int v_token, .int v_value, .int v_readFault, g_yet, g_fars, g_tells])), (o_w, .inl (y 0, 1960, .inl f_w)), (o_text, .inl (y 0, 150, .inl f_text))] [(o, .inr (7, [.ref o_w, g_kept, .ref o_text, .int v_size, g_above, g_below, g_bads, g_noes, g_fulls, .int r.1, .int r.2.1, .int r.2.2.1, .int r.2.2.2.1, .int r.2.2.2.2.1, g_yet, g_fars, g_tells])), (o_w, .inl (y 0, 1960, .inl r.2.2.2.2.2)), (o_text, .inl (y 0, 150, .inl f_text))] := by
  unfold p_X8_readFly at h
  refine z_enV (by decide) (Nat.le_of_ble_eq_true rfl) ?_
  intro p e s m args below meth c A ls hr K hH hl
  obtain ⟨Q, hQ⟩ : ∃ Q, Q = MQ below (z_Qv D y A [(o, .inr (7, [.ref o_w, g_kept, .ref o_text, .int v_size, g_above, g_below, g_bads, g_noes, g_fulls, .int r.1, .int r.2.1, .int r.2.2.1, .int r.2.2.2.1, .int r.2.2.2.2.1, g_yet, g_fars, g_tells])), (o_w, .inl (y 0, 1960, .inl r.2.2.2.2.2)), (o_text, .inl (y 0, 150, .inl f_text))]) args s 0 0 A := ⟨_, rfl⟩
  rw [← hQ]
  have hl : lv_has ls 4 [(0, .ref o)] := hl
  refine lv_aload_n K.x K.b dX8_readFly_0 rfl (lv_at hl 0 rfl) ?_
  refine lv_iconst (v := (0)) K.x K.b dX8_readFly_1 (by decide) ?_
  refine lv_aload_n K.x K.b dX8_readFly_2 rfl (lv_at hl 0 rfl) ?_
  refine z_get K hH 0 rfl zin_8 rfl 0 (by decide) tw_4_96 (v := .ref o_w) rfl dX8_readFly_3 ?_
  refine lv_sipush (v := (1859)) K.x K.b dX8_readFly_6 (by decide) ?_
  refine z_iald K hH 1 (k := 1859) rfl (by decide) rfl dX8_readFly_9 ?_
  refine lv_iconst (v := (1)) K.x K.b dX8_readFly_10 (by decide) ?_
  refine lv_isub K.x K.b dX8_readFly_11 ?_
  obtain ⟨x1, ex1, h⟩ := z_lt_e h
  refine z_nm ex1 ?_
  obtain ⟨r2, hr3, h⟩ := z_bd_e h
  refine z_Vi K hH hl.1 (c_X8_number l D y o o_text (.ref o_w) (g_kept) (g_above) (g_below) (g_bads) (g_noes) (g_fulls) (g_yet) (g_fars) (g_tells) v_size v_at v_from v_token v_value v_readFault f_text (0 : Int32) x1 r2 hr3) (z_cwV K 2 tw_5_3 tw_5_5 tw_0_53 tw_1_8 tw_5_6 hd_X8_number ⟨by decide, by decide⟩) [0, 2] [1] rfl (wr := [(o_w, .inl (y 0, 1960, .inl f_w))]) rfl rfl rfl (by decide) rfl rfl rfl (As := [.int (0 : Int32), .int x1]) (rest := []) rfl (Nat.le_of_ble_eq_true rfl) ⟨Nat.zero_le _, Nat.zero_le _⟩ dX8_readFly_12 (ws' := [(o_w, .inl (y 0, 1960, .inl f_w)), (o, .inr (7, [.ref o_w, g_kept, .ref o_text, .int v_size, g_above, g_below, g_bads, g_noes, g_fulls, .int r2.2.1, .int r2.2.2.1, .int r2.2.2.2.1, .int r2.2.2.2.2.1, .int r2.2.2.2.2.2, g_yet, g_fars, g_tells])), (o_text, .inl (y 0, 150, .inl f_text))]) rfl (fun H locs hH => ?_)
  refine lv_istore_n (lv' := [(1, .int r2.1), (0, .ref o)]) K.x K.b dX8_readFly_15 rfl hl (by decide) rfl (fun ls hl => ?_)
  refine lv_aload_n K.x K.b dX8_readFly_16 rfl (lv_at hl 1 rfl) ?_
  refine lv_iconst (v := (0)) K.x K.b dX8_readFly_17 (by decide) ?_
  refine lv_aload_n K.x K.b dX8_readFly_18 rfl (lv_at hl 1 rfl) ?_
  refine z_get K hH 1 rfl zin_8 rfl 0 (by decide) tw_4_96 (v := .ref o_w) rfl dX8_readFly_19 ?_
  refine lv_sipush (v := (1855)) K.x K.b dX8_readFly_22 (by decide) ?_
  refine z_iald K hH 0 (k := 1855) rfl (by decide) rfl dX8_readFly_25 ?_
  refine lv_iconst (v := (1)) K.x K.b dX8_readFly_26 (by decide) ?_
  refine lv_isub K.x K.b dX8_readFly_27 ?_
  obtain ⟨x4, ex4, h⟩ := z_lt_e h
  refine z_nm ex4 ?_
  obtain ⟨r5, hr6, h⟩ := z_bd_e h
  refine z_Vi K hH hl.1 (c_X8_number l D y o o_text (.ref o_w) (g_kept) (g_above) (g_below) (g_bads) (g_noes) (g_fulls) (g_yet) (g_fars) (g_tells) v_size r2.2.1 r2.2.2.1 r2.2.2.2.1 r2.2.2.2.2.1 r2.2.2.2.2.2 f_text (0 : Int32) x4 r5 hr6) (z_cwV K 2 tw_5_3 tw_5_5 tw_0_53 tw_1_8 tw_5_6 hd_X8_number ⟨by decide, by decide⟩) [1, 2] [0] rfl (wr := [(o_w, .inl (y 0, 1960, .inl f_w))]) rfl rfl rfl (by decide) rfl rfl rfl (As := [.int (0 : Int32), .int x4]) (rest := []) rfl (Nat.le_of_ble_eq_true rfl) ⟨Nat.zero_le _, Nat.zero_le _⟩ dX8_readFly_28 (ws' := [(o_w, .inl (y 0, 1960, .inl f_w)), (o, .inr (7, [.ref o_w, g_kept, .ref o_text, .int v_size, g_above, g_below, g_bads, g_noes, g_fulls, .int r5.2.1, .int r5.2.2.1, .int r5.2.2.2.1, .int r5.2.2.2.2.1, .int r5.2.2.2.2.2, g_yet, g_fars, g_tells])), (o_text, .inl (y 0, 150, .inl f_text))]) rfl (fun H locs hH => ?_)
  refine lv_istore_n (lv' := [(2, .int r5.1), (1, .int r2.1), (0, .ref o)]) K.x K.b dX8_readFly_31 rfl hl (by decide) rfl (fun ls hl => ?_)
  refine lv_aload_n K.x K.b dX8_readFly_32 rfl (lv_at hl 2 rfl) ?_
  obtain ⟨r7, hr8, h⟩ := z_bd_e h
  refine z_Vi K hH hl.1 (c_X8_fine l D y o (.ref o_w) (g_kept) (.ref o_text) (.int v_size) (g_above) (g_below) (g_bads) (g_noes) (g_fulls) (.int r5.2.1) (.int r5.2.2.1) (.int r5.2.2.2.1) (.int r5.2.2.2.2.1) (g_yet) (g_fars) (g_tells) r5.2.2.2.2.2 r7 hr8) (z_cwV K 0 tw_4_231 tw_4_233 tw_0_50 tw_1_8 tw_4_234 hd_X8_fine ⟨by decide, by decide⟩) [1] [0, 2] rfl (wr := [(o_w, .inl (y 0, 1960, .inl f_w)), (o_text, .inl (y 0, 150, .inl f_text))]) rfl rfl rfl (by decide) rfl rfl rfl (As := []) (rest := []) rfl (Nat.le_of_ble_eq_true rfl) ⟨Nat.zero_le _, Nat.zero_le _⟩ dX8_readFly_33 (ws' := [(o_w, .inl (y 0, 1960, .inl f_w)), (o_text, .inl (y 0, 150, .inl f_text)), (o, .inr (7, [.ref o_w, g_kept, .ref o_text, .int v_size, g_above, g_below, g_bads, g_noes, g_fulls, .int r5.2.1, .int r5.2.2.1, .int r5.2.2.2.1, .int r5.2.2.2.2.1, .int r5.2.2.2.2.2, g_yet, g_fars, g_tells]))]) rfl (fun H locs hH => ?_)
  obtain ⟨j9, hj9, h⟩ := z_bd_e h
  have Kj9 : ∀ (H : Heap) (locs : List Loc) (ls : Array Slot), z_H D A s.heap [(o_w, .inl (y 0, 1960, .inl f_w)), (o_text, .inl (y 0, 150, .inl f_text)), (o, .inr (7, [.ref o_w, g_kept, .ref o_text, .int v_size, g_above, g_below, g_bads, g_noes, g_fulls, .int r5.2.1, .int r5.2.2.1, .int r5.2.2.2.1, .int r5.2.2.2.2.1, .int j9, g_yet, g_fars, g_tells]))] H locs → lv_has ls 4 [(0, .ref o), (1, .int r2.1), (2, .int r5.1)] → W p l e (zR 5 124) s m args below meth c H locs 0 0 Q (F0 m 57 ls []) := by
    intro H locs ls hH hl
    refine lv_aload_n K.x K.b dX8_readFly_57 rfl (lv_at hl 0 rfl) ?_
    obtain ⟨r10, hr11, h⟩ := z_bd_e h
    refine z_Vi K hH hl.1 (c_X8_fine l D y o (.ref o_w) (g_kept) (.ref o_text) (.int v_size) (g_above) (g_below) (g_bads) (g_noes) (g_fulls) (.int r5.2.1) (.int r5.2.2.1) (.int r5.2.2.2.1) (.int r5.2.2.2.2.1) (g_yet) (g_fars) (g_tells) j9 r10 hr11) (z_cwV K 0 tw_4_231 tw_4_233 tw_0_50 tw_1_8 tw_4_234 hd_X8_fine ⟨by decide, by decide⟩) [2] [0, 1] rfl (wr := [(o_w, .inl (y 0, 1960, .inl f_w)), (o_text, .inl (y 0, 150, .inl f_text))]) rfl rfl rfl (by decide) rfl rfl rfl (As := []) (rest := []) rfl (Nat.le_of_ble_eq_true rfl) ⟨Nat.zero_le _, Nat.zero_le _⟩ dX8_readFly_58 (ws' := [(o_w, .inl (y 0, 1960, .inl f_w)), (o_text, .inl (y 0, 150, .inl f_text)), (o, .inr (7, [.ref o_w, g_kept, .ref o_text, .int v_size, g_above, g_below, g_bads, g_noes, g_fulls, .int r5.2.1, .int r5.2.2.1, .int r5.2.2.2.1, .int r5.2.2.2.2.1, .int j9, g_yet, g_fars, g_tells]))]) rfl (fun H locs hH => ?_)
    obtain ⟨j12, hj12, h⟩ := z_bd_e h
    have Kj12 : ∀ (H : Heap) (locs : List Loc) (ls : Array Slot), z_H D A s.heap [(o_w, .inl (y 0, 1960, .inl j12)), (o_text, .inl (y 0, 150, .inl f_text)), (o, .inr (7, [.ref o_w, g_kept, .ref o_text, .int v_size, g_above, g_below, g_bads, g_noes, g_fulls, .int r5.2.1, .int r5.2.2.1, .int r5.2.2.2.1, .int r5.2.2.2.2.1, .int j9, g_yet, g_fars, g_tells]))] H locs → lv_has ls 4 [] → W p l e (zR 5 124) s m args below meth c H locs 0 0 Q (F0 m 77 ls []) := by
      intro H locs ls hH hl
      have hr9 := Option.some.inj h
      obtain rfl := hr9
      rw [hQ]
      exact z_retv K hr hH [2, 0, 1] (by decide) rfl dX8_readFly_77
    replace h := hj12
    refine lv_if_eq (tgt := 77) K.x K.b dX8_readFly_61 (by decide) (fun c13 => ?_) (fun c13 => ?_)
    · replace h := z_t c13 h
      obtain rfl := Option.some.inj h
      exact Kj12 _ _ _ hH (lv_sub hl [] rfl)
    · replace h := z_f c13 h
      refine lv_aload_n K.x K.b dX8_readFly_64 rfl (lv_at hl 0 rfl) ?_
      refine lv_sipush (v := (1437)) K.x K.b dX8_readFly_65 (by decide) ?_
      refine lv_sipush (v := (1437)) K.x K.b dX8_readFly_68 (by decide) ?_
      refine lv_iload_n K.x K.b dX8_readFly_71 rfl (lv_at hl 1 rfl) ?_
      refine lv_iload_n K.x K.b dX8_readFly_72 rfl (lv_at hl 2 rfl) ?_
      obtain ⟨r14, hr15, h⟩ := z_bd_e h
      refine z_Vi K hH hl.1 (c_X8_flyIn l D y o o_w (g_kept) (.ref o_text) (.int v_size) (g_above) (g_below) (g_bads) (g_noes) (g_fulls) (.int r5.2.1) (.int r5.2.2.1) (.int r5.2.2.2.1) (.int r5.2.2.2.2.1) (.int j9) (g_yet) (g_fars) (g_tells) f_w (1437 : Int32) (1437 : Int32) r2.1 r5.1 r14 hr15) (z_cwV K 4 tw_5_15 tw_5_17 tw_0_56 tw_1_8 tw_5_18 hd_X8_flyIn ⟨by decide, by decide⟩) [2, 0] [1] rfl (wr := [(o_text, .inl (y 0, 150, .inl f_text))]) rfl rfl rfl (by decide) rfl rfl rfl (As := [.int (1437 : Int32), .int (1437 : Int32), .int r2.1, .int r5.1]) (rest := []) rfl (Nat.le_of_ble_eq_true rfl) ⟨Nat.zero_le _, Nat.zero_le _⟩ dX8_readFly_73 (ws' := [(o_text, .inl (y 0, 150, .inl f_text)), (o, .inr (7, [.ref o_w, g_kept, .ref o_text, .int v_size, g_above, g_below, g_bads, g_noes, g_fulls, .int r5.2.1, .int r5.2.2.1, .int r5.2.2.2.1, .int r5.2.2.2.2.1, .int j9, g_yet, g_fars, g_tells])), (o_w, .inl (y 0, 1960, .inl r14.2))]) rfl (fun H locs hH => ?_)
      refine lv_istore_n (lv' := [(3, .int r14.1), (0, .ref o), (1, .int r2.1), (2, .int r5.1)]) K.x K.b dX8_readFly_76 rfl hl (by decide) rfl (fun ls hl => ?_)
      obtain rfl := Option.some.inj h
      exact Kj12 _ _ _ (hH.sub [2, 0, 1] (by decide) rfl) (lv_sub hl [] rfl)
  replace h := hj9
  refine lv_if_eq (tgt := 57) K.x K.b dX8_readFly_36 (by decide) (fun c16 => ?_) (fun c16 => ?_)
  · replace h := z_t c16 h
    obtain rfl := Option.some.inj h
    exact Kj9 _ _ _ hH (lv_sub hl [2, 1, 0] rfl)
  · replace h := z_f c16 h
    refine lv_aload_n K.x K.b dX8_readFly_39 rfl (lv_at hl 2 rfl) ?_
    refine z_get K hH 2 rfl zin_8 rfl 0 (by decide) tw_4_96 (v := .ref o_w) rfl dX8_readFly_40 ?_
    refine lv_sipush (v := (1437)) K.x K.b dX8_readFly_43 (by decide) ?_
    refine lv_iload_n K.x K.b dX8_readFly_46 rfl (lv_at hl 1 rfl) ?_
    refine lv_iadd K.x K.b dX8_readFly_47 ?_
    obtain ⟨x17, ex17, h⟩ := z_lt_e h
    refine z_nm ex17 ?_
    obtain ⟨g18, h⟩ := z_gd_e h
    refine z_iald K hH 0 (k := x17.toNatClampNeg) rfl g18 rfl dX8_readFly_48 ?_
    refine lv_iload_n K.x K.b dX8_readFly_49 rfl (lv_at hl 0 rfl) ?_
    refine lv_icmp_ne (tgt := 57) K.x K.b dX8_readFly_50 (by decide) (fun c19 => ?_) (fun c19 => ?_)
    · replace h := z_f c19 h
      obtain rfl := Option.some.inj h
      exact Kj9 _ _ _ hH (lv_sub hl [2, 1, 0] rfl)
    · replace h := z_t c19 h
      refine lv_aload_n K.x K.b dX8_readFly_53 rfl (lv_at hl 2 rfl) ?_
      obtain ⟨r20, hr21, h⟩ := z_bd_e h
      refine z_Vv K hH hl.1 (c_X8_wrong l D y o (.ref o_w) (g_kept) (.ref o_text) (.int v_size) (g_above) (g_below) (g_bads) (g_noes) (g_fulls) (.int r5.2.1) (.int r5.2.2.2.1) (.int r5.2.2.2.2.1) (g_yet) (g_fars) (g_tells) r5.2.2.1 r5.2.2.2.2.2 r20 hr21) (z_cwV K 0 tw_4_223 tw_4_225 tw_0_48 tw_1_8 tw_4_226 hd_X8_wrong ⟨by decide, by decide⟩) [2] [0, 1] rfl (wr := [(o_w, .inl (y 0, 1960, .inl f_w)), (o_text, .inl (y 0, 150, .inl f_text))]) rfl rfl rfl (by decide) rfl rfl rfl (As := []) (rest := []) rfl (Nat.le_of_ble_eq_true rfl) ⟨Nat.zero_le _, Nat.zero_le _⟩ dX8_readFly_54 (ws' := [(o_w, .inl (y 0, 1960, .inl f_w)), (o_text, .inl (y 0, 150, .inl f_text)), (o, .inr (7, [.ref o_w, g_kept, .ref o_text, .int v_size, g_above, g_below, g_bads, g_noes, g_fulls, .int r5.2.1, .int r5.2.2.1, .int r5.2.2.2.1, .int r5.2.2.2.2.1, .int r20, g_yet, g_fars, g_tells]))]) rfl (fun H locs hH => ?_)
      obtain rfl := Option.some.inj h
      exact Kj9 _ _ _ hH (lv_sub hl [2, 1, 0] rfl)
noncomputable def p_X8_readRest (v_size : Int32) (v_at : Int32) (v_from : Int32) (v_token : Int32) (v_value : Int32) (v_readFault : Int32) (f_w : (Nat → Int32)) (f_text : (Nat → Int32)) : Option (Int32 × Int32 × Int32 × Int32 × Int32 × (Nat → Int32)) :=
  z_lt (((f_w 1859) - (1 : Int32))) fun x1 =>
  z_bd (p_X8_number v_size v_at v_from v_token v_value v_readFault f_text (0 : Int32) x1) fun r2 =>
  z_bd (p_X8_fine r2.2.2.2.2.2) fun r4 =>
  z_bd (α := (Nat → Int32)) (if (r4 = 0) then
  (some f_w) else
  (z_bd (p_X8_restIn f_w (1437 : Int32) r2.1) fun r8 =>
  some r8.2)) fun j6 =>
  some (r2.2.1, r2.2.2.1, r2.2.2.2.1, r2.2.2.2.2.1, r2.2.2.2.2.2, j6)
theorem hd_X8_readRest : yX8_readRest.cls = RX8 ∧ yX8_readRest.cls ≠ "java/lang/invoke/MethodHandle" ∧ yX8_readRest.cls ≠ "java/lang/invoke/VarHandle" ∧ (parseMethodDescriptor yX8_readRest.desc).map (fun d => d.parameters.length) = some 0 := by decide +kernel
set_option maxHeartbeats 4000000 in
set_option maxRecDepth 100000 in
theorem c_X8_readRest (l : Launch) (D : va_G) (y : Nat → ClassId) (o o_w o_text : Nat) (g_kept g_above g_below g_bads g_noes g_fulls g_yet g_fars g_tells : Value) (v_size : Int32) (v_at : Int32) (v_from : Int32) (v_token : Int32) (v_value : Int32) (v_readFault : Int32) (f_w : (Nat → Int32)) (f_text : (Nat → Int32)) (r : Int32 × Int32 × Int32 × Int32 × Int32 × (Nat → Int32)) (h : p_X8_readRest v_size v_at v_from v_token v_value v_readFault f_w f_text = some r) : z_MV l yX8_readRest cX8_readRest 3 none 5 105 D y [.ref o] [(o, .inr (7, [.ref o_w, g_kept, .ref o_text, .int v_size, g_above, g_below, g_bads, g_noes, g_fulls, .int v_at, .int v_from, .int v_token, .int v_value, .int v_readFault, g_yet, g_fars, g_tells])), (o_w, .inl (y 0, 1960, .inl f_w)), (o_text, .inl (y 0, 150, .inl f_text))] [(o, .inr (7, [.ref o_w, g_kept, .ref o_text, .int v_size, g_above, g_below, g_bads, g_noes, g_fulls, .int r.1, .int r.2.1, .int r.2.2.1, .int r.2.2.2.1, .int r.2.2.2.2.1, g_yet, g_fars, g_tells])), (o_w, .inl (y 0, 1960, .inl r.2.2.2.2.2)), (o_text, .inl (y 0, 150, .inl f_text))] := by
  unfold p_X8_readRest at h
  refine z_enV (by decide) (Nat.le_of_ble_eq_true rfl) ?_
  intro p e s m args below meth c A ls hr K hH hl
  obtain ⟨Q, hQ⟩ : ∃ Q, Q = MQ below (z_Qv D y A [(o, .inr (7, [.ref o_w, g_kept, .ref o_text, .int v_size, g_above, g_below, g_bads, g_noes, g_fulls, .int r.1, .int r.2.1, .int r.2.2.1, .int r.2.2.2.1, .int r.2.2.2.2.1, g_yet, g_fars, g_tells])), (o_w, .inl (y 0, 1960, .inl r.2.2.2.2.2)), (o_text, .inl (y 0, 150, .inl f_text))]) args s 0 0 A := ⟨_, rfl⟩
  rw [← hQ]
  have hl : lv_has ls 3 [(0, .ref o)] := hl
  refine lv_aload_n K.x K.b dX8_readRest_0 rfl (lv_at hl 0 rfl) ?_
  refine lv_iconst (v := (0)) K.x K.b dX8_readRest_1 (by decide) ?_
  refine lv_aload_n K.x K.b dX8_readRest_2 rfl (lv_at hl 0 rfl) ?_
  refine z_get K hH 0 rfl zin_8 rfl 0 (by decide) tw_4_96 (v := .ref o_w) rfl dX8_readRest_3 ?_
  refine lv_sipush (v := (1859)) K.x K.b dX8_readRest_6 (by decide) ?_
  refine z_iald K hH 1 (k := 1859) rfl (by decide) rfl dX8_readRest_9 ?_
  refine lv_iconst (v := (1)) K.x K.b dX8_readRest_10 (by decide) ?_
  refine lv_isub K.x K.b dX8_readRest_11 ?_
  obtain ⟨x1, ex1, h⟩ := z_lt_e h
  refine z_nm ex1 ?_
  obtain ⟨r2, hr3, h⟩ := z_bd_e h
  refine z_Vi K hH hl.1 (c_X8_number l D y o o_text (.ref o_w) (g_kept) (g_above) (g_below) (g_bads) (g_noes) (g_fulls) (g_yet) (g_fars) (g_tells) v_size v_at v_from v_token v_value v_readFault f_text (0 : Int32) x1 r2 hr3) (z_cwV K 2 tw_5_3 tw_5_5 tw_0_53 tw_1_8 tw_5_6 hd_X8_number ⟨by decide, by decide⟩) [0, 2] [1] rfl (wr := [(o_w, .inl (y 0, 1960, .inl f_w))]) rfl rfl rfl (by decide) rfl rfl rfl (As := [.int (0 : Int32), .int x1]) (rest := []) rfl (Nat.le_of_ble_eq_true rfl) ⟨Nat.zero_le _, Nat.zero_le _⟩ dX8_readRest_12 (ws' := [(o_w, .inl (y 0, 1960, .inl f_w)), (o, .inr (7, [.ref o_w, g_kept, .ref o_text, .int v_size, g_above, g_below, g_bads, g_noes, g_fulls, .int r2.2.1, .int r2.2.2.1, .int r2.2.2.2.1, .int r2.2.2.2.2.1, .int r2.2.2.2.2.2, g_yet, g_fars, g_tells])), (o_text, .inl (y 0, 150, .inl f_text))]) rfl (fun H locs hH => ?_)
  refine lv_istore_n (lv' := [(1, .int r2.1), (0, .ref o)]) K.x K.b dX8_readRest_15 rfl hl (by decide) rfl (fun ls hl => ?_)
  refine lv_aload_n K.x K.b dX8_readRest_16 rfl (lv_at hl 1 rfl) ?_
  obtain ⟨r4, hr5, h⟩ := z_bd_e h
  refine z_Vi K hH hl.1 (c_X8_fine l D y o (.ref o_w) (g_kept) (.ref o_text) (.int v_size) (g_above) (g_below) (g_bads) (g_noes) (g_fulls) (.int r2.2.1) (.int r2.2.2.1) (.int r2.2.2.2.1) (.int r2.2.2.2.2.1) (g_yet) (g_fars) (g_tells) r2.2.2.2.2.2 r4 hr5) (z_cwV K 0 tw_4_231 tw_4_233 tw_0_50 tw_1_8 tw_4_234 hd_X8_fine ⟨by decide, by decide⟩) [1] [0, 2] rfl (wr := [(o_w, .inl (y 0, 1960, .inl f_w)), (o_text, .inl (y 0, 150, .inl f_text))]) rfl rfl rfl (by decide) rfl rfl rfl (As := []) (rest := []) rfl (Nat.le_of_ble_eq_true rfl) ⟨Nat.zero_le _, Nat.zero_le _⟩ dX8_readRest_17 (ws' := [(o_w, .inl (y 0, 1960, .inl f_w)), (o_text, .inl (y 0, 150, .inl f_text)), (o, .inr (7, [.ref o_w, g_kept, .ref o_text, .int v_size, g_above, g_below, g_bads, g_noes, g_fulls, .int r2.2.1, .int r2.2.2.1, .int r2.2.2.2.1, .int r2.2.2.2.2.1, .int r2.2.2.2.2.2, g_yet, g_fars, g_tells]))]) rfl (fun H locs hH => ?_)
  obtain ⟨j6, hj6, h⟩ := z_bd_e h
  have Kj6 : ∀ (H : Heap) (locs : List Loc) (ls : Array Slot), z_H D A s.heap [(o_w, .inl (y 0, 1960, .inl j6)), (o_text, .inl (y 0, 150, .inl f_text)), (o, .inr (7, [.ref o_w, g_kept, .ref o_text, .int v_size, g_above, g_below, g_bads, g_noes, g_fulls, .int r2.2.1, .int r2.2.2.1, .int r2.2.2.2.1, .int r2.2.2.2.2.1, .int r2.2.2.2.2.2, g_yet, g_fars, g_tells]))] H locs → lv_has ls 3 [] → W p l e (zR 5 105) s m args below meth c H locs 0 0 Q (F0 m 32 ls []) := by
    intro H locs ls hH hl
    have hr9 := Option.some.inj h
    obtain rfl := hr9
    rw [hQ]
    exact z_retv K hr hH [2, 0, 1] (by decide) rfl dX8_readRest_32
  replace h := hj6
  refine lv_if_eq (tgt := 32) K.x K.b dX8_readRest_20 (by decide) (fun c7 => ?_) (fun c7 => ?_)
  · replace h := z_t c7 h
    obtain rfl := Option.some.inj h
    exact Kj6 _ _ _ hH (lv_sub hl [] rfl)
  · replace h := z_f c7 h
    refine lv_aload_n K.x K.b dX8_readRest_23 rfl (lv_at hl 1 rfl) ?_
    refine lv_sipush (v := (1437)) K.x K.b dX8_readRest_24 (by decide) ?_
    refine lv_iload_n K.x K.b dX8_readRest_27 rfl (lv_at hl 0 rfl) ?_
    obtain ⟨r8, hr9, h⟩ := z_bd_e h
    refine z_Vi K hH hl.1 (c_X8_restIn l D y o o_w (g_kept) (.ref o_text) (.int v_size) (g_above) (g_below) (g_bads) (g_noes) (g_fulls) (.int r2.2.1) (.int r2.2.2.1) (.int r2.2.2.2.1) (.int r2.2.2.2.2.1) (.int r2.2.2.2.2.2) (g_yet) (g_fars) (g_tells) f_w (1437 : Int32) r2.1 r8 hr9) (z_cwV K 2 tw_5_48 tw_5_50 tw_0_62 tw_1_8 tw_5_51 hd_X8_restIn ⟨by decide, by decide⟩) [2, 0] [1] rfl (wr := [(o_text, .inl (y 0, 150, .inl f_text))]) rfl rfl rfl (by decide) rfl rfl rfl (As := [.int (1437 : Int32), .int r2.1]) (rest := []) rfl (Nat.le_of_ble_eq_true rfl) ⟨Nat.zero_le _, Nat.zero_le _⟩ dX8_readRest_28 (ws' := [(o_text, .inl (y 0, 150, .inl f_text)), (o, .inr (7, [.ref o_w, g_kept, .ref o_text, .int v_size, g_above, g_below, g_bads, g_noes, g_fulls, .int r2.2.1, .int r2.2.2.1, .int r2.2.2.2.1, .int r2.2.2.2.2.1, .int r2.2.2.2.2.2, g_yet, g_fars, g_tells])), (o_w, .inl (y 0, 1960, .inl r8.2))]) rfl (fun H locs hH => ?_)
    refine lv_istore_n (lv' := [(2, .int r8.1), (1, .int r2.1), (0, .ref o)]) K.x K.b dX8_readRest_31 rfl hl (by decide) rfl (fun ls hl => ?_)
    obtain rfl := Option.some.inj h
    exact Kj6 _ _ _ (hH.sub [2, 0, 1] (by decide) rfl) (lv_sub hl [] rfl)
noncomputable def p_X8_readHours (v_size : Int32) (v_at : Int32) (v_from : Int32) (v_token : Int32) (v_value : Int32) (v_readFault : Int32) (f_w : (Nat → Int32)) (f_text : (Nat → Int32)) : Option (Int32 × Int32 × Int32 × Int32 × Int32 × (Nat → Int32)) :=
  z_bd (p_X8_number v_size v_at v_from v_token v_value v_readFault f_text (1 : Int32) (99 : Int32)) fun r1 =>
  z_bd (p_X8_fine r1.2.2.2.2.2) fun r3 =>
  z_bd (α := (Nat → Int32)) (if (r3 = 0) then
  (some f_w) else
  (z_bd (p_X8_goOn f_w (1437 : Int32) r1.1) fun r7 =>
  some r7)) fun j5 =>
  some (r1.2.1, r1.2.2.1, r1.2.2.2.1, r1.2.2.2.2.1, r1.2.2.2.2.2, j5)
theorem hd_X8_readHours : yX8_readHours.cls = RX8 ∧ yX8_readHours.cls ≠ "java/lang/invoke/MethodHandle" ∧ yX8_readHours.cls ≠ "java/lang/invoke/VarHandle" ∧ (parseMethodDescriptor yX8_readHours.desc).map (fun d => d.parameters.length) = some 0 := by decide +kernel
set_option maxHeartbeats 4000000 in
set_option maxRecDepth 100000 in
theorem c_X8_readHours (l : Launch) (D : va_G) (y : Nat → ClassId) (o o_w o_text : Nat) (g_kept g_above g_below g_bads g_noes g_fulls g_yet g_fars g_tells : Value) (v_size : Int32) (v_at : Int32) (v_from : Int32) (v_token : Int32) (v_value : Int32) (v_readFault : Int32) (f_w : (Nat → Int32)) (f_text : (Nat → Int32)) (r : Int32 × Int32 × Int32 × Int32 × Int32 × (Nat → Int32)) (h : p_X8_readHours v_size v_at v_from v_token v_value v_readFault f_w f_text = some r) : z_MV l yX8_readHours cX8_readHours 2 none 5 105 D y [.ref o] [(o, .inr (7, [.ref o_w, g_kept, .ref o_text, .int v_size, g_above, g_below, g_bads, g_noes, g_fulls, .int v_at, .int v_from, .int v_token, .int v_value, .int v_readFault, g_yet, g_fars, g_tells])), (o_w, .inl (y 0, 1960, .inl f_w)), (o_text, .inl (y 0, 150, .inl f_text))] [(o, .inr (7, [.ref o_w, g_kept, .ref o_text, .int v_size, g_above, g_below, g_bads, g_noes, g_fulls, .int r.1, .int r.2.1, .int r.2.2.1, .int r.2.2.2.1, .int r.2.2.2.2.1, g_yet, g_fars, g_tells])), (o_w, .inl (y 0, 1960, .inl r.2.2.2.2.2)), (o_text, .inl (y 0, 150, .inl f_text))] := by
  unfold p_X8_readHours at h
  refine z_enV (by decide) (Nat.le_of_ble_eq_true rfl) ?_
  intro p e s m args below meth c A ls hr K hH hl
  obtain ⟨Q, hQ⟩ : ∃ Q, Q = MQ below (z_Qv D y A [(o, .inr (7, [.ref o_w, g_kept, .ref o_text, .int v_size, g_above, g_below, g_bads, g_noes, g_fulls, .int r.1, .int r.2.1, .int r.2.2.1, .int r.2.2.2.1, .int r.2.2.2.2.1, g_yet, g_fars, g_tells])), (o_w, .inl (y 0, 1960, .inl r.2.2.2.2.2)), (o_text, .inl (y 0, 150, .inl f_text))]) args s 0 0 A := ⟨_, rfl⟩
  rw [← hQ]
  have hl : lv_has ls 2 [(0, .ref o)] := hl
  refine lv_aload_n K.x K.b dX8_readHours_0 rfl (lv_at hl 0 rfl) ?_
  refine lv_iconst (v := (1)) K.x K.b dX8_readHours_1 (by decide) ?_
  refine lv_bipush (v := (99)) K.x K.b dX8_readHours_2 (by decide) ?_
  obtain ⟨r1, hr2, h⟩ := z_bd_e h
  refine z_Vi K hH hl.1 (c_X8_number l D y o o_text (.ref o_w) (g_kept) (g_above) (g_below) (g_bads) (g_noes) (g_fulls) (g_yet) (g_fars) (g_tells) v_size v_at v_from v_token v_value v_readFault f_text (1 : Int32) (99 : Int32) r1 hr2) (z_cwV K 2 tw_5_3 tw_5_5 tw_0_53 tw_1_8 tw_5_6 hd_X8_number ⟨by decide, by decide⟩) [0, 2] [1] rfl (wr := [(o_w, .inl (y 0, 1960, .inl f_w))]) rfl rfl rfl (by decide) rfl rfl rfl (As := [.int (1 : Int32), .int (99 : Int32)]) (rest := []) rfl (Nat.le_of_ble_eq_true rfl) ⟨Nat.zero_le _, Nat.zero_le _⟩ dX8_readHours_4 (ws' := [(o_w, .inl (y 0, 1960, .inl f_w)), (o, .inr (7, [.ref o_w, g_kept, .ref o_text, .int v_size, g_above, g_below, g_bads, g_noes, g_fulls, .int r1.2.1, .int r1.2.2.1, .int r1.2.2.2.1, .int r1.2.2.2.2.1, .int r1.2.2.2.2.2, g_yet, g_fars, g_tells])), (o_text, .inl (y 0, 150, .inl f_text))]) rfl (fun H locs hH => ?_)
  refine lv_istore_n (lv' := [(1, .int r1.1), (0, .ref o)]) K.x K.b dX8_readHours_7 rfl hl (by decide) rfl (fun ls hl => ?_)
  refine lv_aload_n K.x K.b dX8_readHours_8 rfl (lv_at hl 1 rfl) ?_
  obtain ⟨r3, hr4, h⟩ := z_bd_e h
  refine z_Vi K hH hl.1 (c_X8_fine l D y o (.ref o_w) (g_kept) (.ref o_text) (.int v_size) (g_above) (g_below) (g_bads) (g_noes) (g_fulls) (.int r1.2.1) (.int r1.2.2.1) (.int r1.2.2.2.1) (.int r1.2.2.2.2.1) (g_yet) (g_fars) (g_tells) r1.2.2.2.2.2 r3 hr4) (z_cwV K 0 tw_4_231 tw_4_233 tw_0_50 tw_1_8 tw_4_234 hd_X8_fine ⟨by decide, by decide⟩) [1] [0, 2] rfl (wr := [(o_w, .inl (y 0, 1960, .inl f_w)), (o_text, .inl (y 0, 150, .inl f_text))]) rfl rfl rfl (by decide) rfl rfl rfl (As := []) (rest := []) rfl (Nat.le_of_ble_eq_true rfl) ⟨Nat.zero_le _, Nat.zero_le _⟩ dX8_readHours_9 (ws' := [(o_w, .inl (y 0, 1960, .inl f_w)), (o_text, .inl (y 0, 150, .inl f_text)), (o, .inr (7, [.ref o_w, g_kept, .ref o_text, .int v_size, g_above, g_below, g_bads, g_noes, g_fulls, .int r1.2.1, .int r1.2.2.1, .int r1.2.2.2.1, .int r1.2.2.2.2.1, .int r1.2.2.2.2.2, g_yet, g_fars, g_tells]))]) rfl (fun H locs hH => ?_)
  obtain ⟨j5, hj5, h⟩ := z_bd_e h
  have Kj5 : ∀ (H : Heap) (locs : List Loc) (ls : Array Slot), z_H D A s.heap [(o_w, .inl (y 0, 1960, .inl j5)), (o_text, .inl (y 0, 150, .inl f_text)), (o, .inr (7, [.ref o_w, g_kept, .ref o_text, .int v_size, g_above, g_below, g_bads, g_noes, g_fulls, .int r1.2.1, .int r1.2.2.1, .int r1.2.2.2.1, .int r1.2.2.2.2.1, .int r1.2.2.2.2.2, g_yet, g_fars, g_tells]))] H locs → lv_has ls 2 [] → W p l e (zR 5 105) s m args below meth c H locs 0 0 Q (F0 m 23 ls []) := by
    intro H locs ls hH hl
    have hr9 := Option.some.inj h
    obtain rfl := hr9
    rw [hQ]
    exact z_retv K hr hH [2, 0, 1] (by decide) rfl dX8_readHours_23
  replace h := hj5
  refine lv_if_eq (tgt := 23) K.x K.b dX8_readHours_12 (by decide) (fun c6 => ?_) (fun c6 => ?_)
  · replace h := z_t c6 h
    obtain rfl := Option.some.inj h
    exact Kj5 _ _ _ hH (lv_sub hl [] rfl)
  · replace h := z_f c6 h
    refine lv_aload_n K.x K.b dX8_readHours_15 rfl (lv_at hl 1 rfl) ?_
    refine lv_sipush (v := (1437)) K.x K.b dX8_readHours_16 (by decide) ?_
    refine lv_iload_n K.x K.b dX8_readHours_19 rfl (lv_at hl 0 rfl) ?_
    obtain ⟨r7, hr8, h⟩ := z_bd_e h
    refine z_Vv K hH hl.1 (c_X8_goOn l D y o o_w (g_kept) (.ref o_text) (.int v_size) (g_above) (g_below) (g_bads) (g_noes) (g_fulls) (.int r1.2.1) (.int r1.2.2.1) (.int r1.2.2.2.1) (.int r1.2.2.2.2.1) (.int r1.2.2.2.2.2) (g_yet) (g_fars) (g_tells) f_w (1437 : Int32) r1.1 r7 hr8) (z_cwV K 2 tw_5_40 tw_5_42 tw_0_60 tw_1_8 tw_5_43 hd_X8_goOn ⟨by decide, by decide⟩) [2, 0] [1] rfl (wr := [(o_text, .inl (y 0, 150, .inl f_text))]) rfl rfl rfl (by decide) rfl rfl rfl (As := [.int (1437 : Int32), .int r1.1]) (rest := []) rfl (Nat.le_of_ble_eq_true rfl) ⟨Nat.zero_le _, Nat.zero_le _⟩ dX8_readHours_20 (ws' := [(o_text, .inl (y 0, 150, .inl f_text)), (o, .inr (7, [.ref o_w, g_kept, .ref o_text, .int v_size, g_above, g_below, g_bads, g_noes, g_fulls, .int r1.2.1, .int r1.2.2.1, .int r1.2.2.2.1, .int r1.2.2.2.2.1, .int r1.2.2.2.2.2, g_yet, g_fars, g_tells])), (o_w, .inl (y 0, 1960, .inl r7))]) rfl (fun H locs hH => ?_)
    obtain rfl := Option.some.inj h
    exact Kj5 _ _ _ (hH.sub [2, 0, 1] (by decide) rfl) (lv_sub hl [] rfl)
