def p_X8_note (v_bads : Int32) (v_fulls : Int32) (f_w : (Nat → Int32)) (p1 : Int32) (p2 : Int32) (p3 : Int32) (p4 : Int32) : Option (Int32 × Int32 × Int32 × (Nat → Int32)) :=
  z_bd (p_X8_isPlace f_w p1) fun r1 =>
  if (r1 = 0) then
  (z_bd (p_X8_bad v_bads) fun r4 =>
  some (r4.1, r4.2, v_fulls, f_w)) else
  (z_bd (p_X8_in p2 (0 : Int32) (500 : Int32)) fun r6 =>
  if (r6 = 0) then
  (z_bd (p_X8_bad v_bads) fun r9 =>
  some (r9.1, r9.2, v_fulls, f_w)) else
  (z_bd (p_X8_in p3 (0 : Int32) (23 : Int32)) fun r11 =>
  if (r11 = 0) then
  (z_bd (p_X8_bad v_bads) fun r14 =>
  some (r14.1, r14.2, v_fulls, f_w)) else
  (z_bd (p_X8_in p4 (0 : Int32) (900 : Int32)) fun r16 =>
  if (r16 = 0) then
  (z_bd (p_X8_bad v_bads) fun r36 =>
  some (r36.1, r36.2, v_fulls, f_w)) else
  (if ((f_w 447) = (6 : Int32)) then
  (z_bd (p_X8_full v_fulls) fun r34 =>
  some (r34.1, v_bads, r34.2, f_w)) else
  (z_lt (((423 : Int32) + ((4 : Int32) * (f_w 447)))) fun x20 =>
  z_gd (z_in x20 1960) <|
  z_lt ((upd f_w x20.toNatClampNeg p1)) fun a22 =>
  z_lt ((x20 + (1 : Int32))) fun x23 =>
  z_gd (z_in x23 1960) <|
  z_lt ((upd a22 x23.toNatClampNeg p2)) fun a25 =>
  z_lt ((x20 + (2 : Int32))) fun x26 =>
  z_gd (z_in x26 1960) <|
  z_lt ((upd a25 x26.toNatClampNeg p3)) fun a28 =>
  z_lt ((x20 + (3 : Int32))) fun x29 =>
  z_gd (z_in x29 1960) <|
  z_lt ((upd a28 x29.toNatClampNeg p4)) fun a31 =>
  z_lt (((a31 447) + (1 : Int32))) fun x32 =>
  z_lt ((upd a31 447 x32)) fun a33 =>
  some ((a33 447), v_bads, v_fulls, a33))))))
theorem hd_X8_note : yX8_note.cls = RX8 ∧ yX8_note.cls ≠ "java/lang/invoke/MethodHandle" ∧ yX8_note.cls ≠ "java/lang/invoke/VarHandle" ∧ (parseMethodDescriptor yX8_note.desc).map (fun d => d.parameters.length) = some 4 := by decide +kernel
set_option maxHeartbeats 4000000 in
set_option maxRecDepth 100000 in
theorem c_X8_note (l : Launch) (D : va_G) (y : Nat → ClassId) (o o_w : Nat) (g_kept g_text g_size g_above g_below g_noes g_at g_from g_token g_value g_readFault g_yet g_fars g_tells : Value) (v_bads : Int32) (v_fulls : Int32) (f_w : (Nat → Int32)) (p1 : Int32) (p2 : Int32) (p3 : Int32) (p4 : Int32) (r : Int32 × Int32 × Int32 × (Nat → Int32)) (h : p_X8_note v_bads v_fulls f_w p1 p2 p3 p4 = some r) : z_MI l yX8_note cX8_note 6 (some .int) 2 43 D y [.ref o, .int p1, .int p2, .int p3, .int p4] [(o, .inr (7, [.ref o_w, g_kept, g_text, g_size, g_above, g_below, .int v_bads, g_noes, .int v_fulls, g_at, g_from, g_token, g_value, g_readFault, g_yet, g_fars, g_tells])), (o_w, .inl (y 0, 1960, .inl f_w))] r.1 [(o, .inr (7, [.ref o_w, g_kept, g_text, g_size, g_above, g_below, .int r.2.1, g_noes, .int r.2.2.1, g_at, g_from, g_token, g_value, g_readFault, g_yet, g_fars, g_tells])), (o_w, .inl (y 0, 1960, .inl r.2.2.2))] := by
  unfold p_X8_note at h
  refine z_enI (by decide) (Nat.le_of_ble_eq_true rfl) ?_
  intro p e s m args below meth c A ls hr K hH hl
  obtain ⟨Q, hQ⟩ : ∃ Q, Q = MQ below (z_Qi D y A r.1 [(o, .inr (7, [.ref o_w, g_kept, g_text, g_size, g_above, g_below, .int r.2.1, g_noes, .int r.2.2.1, g_at, g_from, g_token, g_value, g_readFault, g_yet, g_fars, g_tells])), (o_w, .inl (y 0, 1960, .inl r.2.2.2))]) args s 0 0 A := ⟨_, rfl⟩
  rw [← hQ]
  have hl : lv_has ls 6 [(0, .ref o), (1, .int p1), (2, .int p2), (3, .int p3), (4, .int p4)] := hl
  refine lv_aload_n K.x K.b dX8_note_0 rfl (lv_at hl 0 rfl) ?_
  refine lv_iload_n K.x K.b dX8_note_1 rfl (lv_at hl 1 rfl) ?_
  obtain ⟨r1, hr2, h⟩ := z_bd_e h
  refine z_Vi K hH hl.1 (c_X8_isPlace l D y o o_w (g_kept) (g_text) (g_size) (g_above) (g_below) (.int v_bads) (g_noes) (.int v_fulls) (g_at) (g_from) (g_token) (g_value) (g_readFault) (g_yet) (g_fars) (g_tells) f_w p1 r1 hr2) (z_cwV K 1 tw_4_179 tw_4_181 tw_0_40 tw_1_8 tw_4_182 hd_X8_isPlace ⟨by decide, by decide⟩) [0, 1] [] rfl (wr := []) rfl rfl rfl (by decide) rfl rfl rfl (As := [.int p1]) (rest := []) rfl (Nat.le_of_ble_eq_true rfl) ⟨Nat.zero_le _, Nat.zero_le _⟩ dX8_note_2 (ws' := [(o, .inr (7, [.ref o_w, g_kept, g_text, g_size, g_above, g_below, .int v_bads, g_noes, .int v_fulls, g_at, g_from, g_token, g_value, g_readFault, g_yet, g_fars, g_tells])), (o_w, .inl (y 0, 1960, .inl f_w))]) rfl (fun H locs hH => ?_)
  refine lv_if_eq (tgt := 41) K.x K.b dX8_note_5 (by decide) (fun c3 => ?_) (fun c3 => ?_)
  · replace h := z_t c3 h
    refine lv_aload_n K.x K.b dX8_note_41 rfl (lv_at hl 0 rfl) ?_
    obtain ⟨r4, hr5, h⟩ := z_bd_e h
    refine z_Vi K hH hl.1 (c_X8_bad l D y o (.ref o_w) (g_kept) (g_text) (g_size) (g_above) (g_below) (g_noes) (.int v_fulls) (g_at) (g_from) (g_token) (g_value) (g_readFault) (g_yet) (g_fars) (g_tells) v_bads r4 hr5) (z_cwV K 0 tw_4_163 tw_4_165 tw_0_37 tw_1_8 tw_4_166 hd_X8_bad ⟨by decide, by decide⟩) [0] [1] rfl (wr := [(o_w, .inl (y 0, 1960, .inl f_w))]) rfl rfl rfl (by decide) rfl rfl rfl (As := []) (rest := []) rfl (Nat.le_of_ble_eq_true rfl) ⟨Nat.zero_le _, Nat.zero_le _⟩ dX8_note_42 (ws' := [(o_w, .inl (y 0, 1960, .inl f_w)), (o, .inr (7, [.ref o_w, g_kept, g_text, g_size, g_above, g_below, .int r4.2, g_noes, .int v_fulls, g_at, g_from, g_token, g_value, g_readFault, g_yet, g_fars, g_tells]))]) rfl (fun H locs hH => ?_)
    have hr9 := Option.some.inj h
    obtain rfl := hr9
    rw [hQ]
    exact z_reti K hr hH [1, 0] (by decide) rfl rfl rfl dX8_note_45
  · replace h := z_f c3 h
    refine lv_iload_n K.x K.b dX8_note_8 rfl (lv_at hl 2 rfl) ?_
    refine lv_iconst (v := (0)) K.x K.b dX8_note_9 (by decide) ?_
    refine lv_sipush (v := (500)) K.x K.b dX8_note_10 (by decide) ?_
    obtain ⟨r6, hr7, h⟩ := z_bd_e h
    refine z_Si K hH hl.1 (c_X8_in l D y p2 (0 : Int32) (500 : Int32) r6 hr7) (z_cwS K 3 tw_4_160 tw_4_161 tw_1_8 tw_4_162 hd_X8_in ⟨by decide, by decide⟩) rfl (As := [.int p2, .int (0 : Int32), .int (500 : Int32)]) (rest := []) rfl (Nat.le_of_ble_eq_true rfl) ⟨Nat.zero_le _, Nat.zero_le _⟩ dX8_note_13 (fun H locs hH => ?_)
    refine lv_if_eq (tgt := 41) K.x K.b dX8_note_16 (by decide) (fun c8 => ?_) (fun c8 => ?_)
    · replace h := z_t c8 h
      refine lv_aload_n K.x K.b dX8_note_41 rfl (lv_at hl 0 rfl) ?_
      obtain ⟨r9, hr10, h⟩ := z_bd_e h
      refine z_Vi K hH hl.1 (c_X8_bad l D y o (.ref o_w) (g_kept) (g_text) (g_size) (g_above) (g_below) (g_noes) (.int v_fulls) (g_at) (g_from) (g_token) (g_value) (g_readFault) (g_yet) (g_fars) (g_tells) v_bads r9 hr10) (z_cwV K 0 tw_4_163 tw_4_165 tw_0_37 tw_1_8 tw_4_166 hd_X8_bad ⟨by decide, by decide⟩) [0] [1] rfl (wr := [(o_w, .inl (y 0, 1960, .inl f_w))]) rfl rfl rfl (by decide) rfl rfl rfl (As := []) (rest := []) rfl (Nat.le_of_ble_eq_true rfl) ⟨Nat.zero_le _, Nat.zero_le _⟩ dX8_note_42 (ws' := [(o_w, .inl (y 0, 1960, .inl f_w)), (o, .inr (7, [.ref o_w, g_kept, g_text, g_size, g_above, g_below, .int r9.2, g_noes, .int v_fulls, g_at, g_from, g_token, g_value, g_readFault, g_yet, g_fars, g_tells]))]) rfl (fun H locs hH => ?_)
      have hr9 := Option.some.inj h
      obtain rfl := hr9
      rw [hQ]
      exact z_reti K hr hH [1, 0] (by decide) rfl rfl rfl dX8_note_45
    · replace h := z_f c8 h
      refine lv_iload_n K.x K.b dX8_note_19 rfl (lv_at hl 3 rfl) ?_
      refine lv_iconst (v := (0)) K.x K.b dX8_note_20 (by decide) ?_
      refine lv_bipush (v := (23)) K.x K.b dX8_note_21 (by decide) ?_
      obtain ⟨r11, hr12, h⟩ := z_bd_e h
      refine z_Si K hH hl.1 (c_X8_in l D y p3 (0 : Int32) (23 : Int32) r11 hr12) (z_cwS K 3 tw_4_160 tw_4_161 tw_1_8 tw_4_162 hd_X8_in ⟨by decide, by decide⟩) rfl (As := [.int p3, .int (0 : Int32), .int (23 : Int32)]) (rest := []) rfl (Nat.le_of_ble_eq_true rfl) ⟨Nat.zero_le _, Nat.zero_le _⟩ dX8_note_23 (fun H locs hH => ?_)
      refine lv_if_eq (tgt := 41) K.x K.b dX8_note_26 (by decide) (fun c13 => ?_) (fun c13 => ?_)
      · replace h := z_t c13 h
        refine lv_aload_n K.x K.b dX8_note_41 rfl (lv_at hl 0 rfl) ?_
        obtain ⟨r14, hr15, h⟩ := z_bd_e h
        refine z_Vi K hH hl.1 (c_X8_bad l D y o (.ref o_w) (g_kept) (g_text) (g_size) (g_above) (g_below) (g_noes) (.int v_fulls) (g_at) (g_from) (g_token) (g_value) (g_readFault) (g_yet) (g_fars) (g_tells) v_bads r14 hr15) (z_cwV K 0 tw_4_163 tw_4_165 tw_0_37 tw_1_8 tw_4_166 hd_X8_bad ⟨by decide, by decide⟩) [0] [1] rfl (wr := [(o_w, .inl (y 0, 1960, .inl f_w))]) rfl rfl rfl (by decide) rfl rfl rfl (As := []) (rest := []) rfl (Nat.le_of_ble_eq_true rfl) ⟨Nat.zero_le _, Nat.zero_le _⟩ dX8_note_42 (ws' := [(o_w, .inl (y 0, 1960, .inl f_w)), (o, .inr (7, [.ref o_w, g_kept, g_text, g_size, g_above, g_below, .int r14.2, g_noes, .int v_fulls, g_at, g_from, g_token, g_value, g_readFault, g_yet, g_fars, g_tells]))]) rfl (fun H locs hH => ?_)
        have hr9 := Option.some.inj h
        obtain rfl := hr9
        rw [hQ]
        exact z_reti K hr hH [1, 0] (by decide) rfl rfl rfl dX8_note_45
      · replace h := z_f c13 h
        refine lv_iload K.x K.b dX8_note_29 (lv_at hl 4 rfl) ?_
        refine lv_iconst (v := (0)) K.x K.b dX8_note_31 (by decide) ?_
        refine lv_sipush (v := (900)) K.x K.b dX8_note_32 (by decide) ?_
        obtain ⟨r16, hr17, h⟩ := z_bd_e h
        refine z_Si K hH hl.1 (c_X8_in l D y p4 (0 : Int32) (900 : Int32) r16 hr17) (z_cwS K 3 tw_4_160 tw_4_161 tw_1_8 tw_4_162 hd_X8_in ⟨by decide, by decide⟩) rfl (As := [.int p4, .int (0 : Int32), .int (900 : Int32)]) (rest := []) rfl (Nat.le_of_ble_eq_true rfl) ⟨Nat.zero_le _, Nat.zero_le _⟩ dX8_note_35 (fun H locs hH => ?_)
        refine lv_if_ne (tgt := 46) K.x K.b dX8_note_38 (by decide) (fun c18 => ?_) (fun c18 => ?_)
        · replace h := z_f c18 h
          refine lv_aload_n K.x K.b dX8_note_46 rfl (lv_at hl 0 rfl) ?_
          refine z_get K hH 0 rfl zin_8 rfl 0 (by decide) tw_4_96 (v := .ref o_w) rfl dX8_note_47 ?_
          refine lv_sipush (v := (447)) K.x K.b dX8_note_50 (by decide) ?_
          refine z_iald K hH 1 (k := 447) rfl (by decide) rfl dX8_note_53 ?_
          refine lv_bipush (v := (6)) K.x K.b dX8_note_54 (by decide) ?_
          refine lv_icmp_ne (tgt := 64) K.x K.b dX8_note_56 (by decide) (fun c19 => ?_) (fun c19 => ?_)
          · replace h := z_f c19 h
            refine lv_sipush (v := (423)) K.x K.b dX8_note_64 (by decide) ?_
            refine lv_iconst (v := (4)) K.x K.b dX8_note_67 (by decide) ?_
            refine lv_aload_n K.x K.b dX8_note_68 rfl (lv_at hl 0 rfl) ?_
            refine z_get K hH 0 rfl zin_8 rfl 0 (by decide) tw_4_96 (v := .ref o_w) rfl dX8_note_69 ?_
            refine lv_sipush (v := (447)) K.x K.b dX8_note_72 (by decide) ?_
            refine z_iald K hH 1 (k := 447) rfl (by decide) rfl dX8_note_75 ?_
            refine lv_imul K.x K.b dX8_note_76 ?_
            refine lv_iadd K.x K.b dX8_note_77 ?_
            obtain ⟨x20, ex20, h⟩ := z_lt_e h
            refine z_nm ex20 ?_
            refine lv_istore (lv' := [(5, .int x20), (0, .ref o), (1, .int p1), (2, .int p2), (3, .int p3), (4, .int p4)]) K.x K.b dX8_note_78 hl (by decide) rfl (fun ls hl => ?_)
            refine lv_aload_n K.x K.b dX8_note_80 rfl (lv_at hl 1 rfl) ?_
            refine z_get K hH 0 rfl zin_8 rfl 0 (by decide) tw_4_96 (v := .ref o_w) rfl dX8_note_81 ?_
            refine lv_iload K.x K.b dX8_note_84 (lv_at hl 0 rfl) ?_
            refine lv_iload_n K.x K.b dX8_note_86 rfl (lv_at hl 2 rfl) ?_
            obtain ⟨g21, h⟩ := z_gd_e h
            obtain ⟨a22, ea22, h⟩ := z_lt_e h
            refine z_iast K hH 1 (k := x20.toNatClampNeg) (ws' := [(o, .inr (7, [.ref o_w, g_kept, g_text, g_size, g_above, g_below, .int v_bads, g_noes, .int v_fulls, g_at, g_from, g_token, g_value, g_readFault, g_yet, g_fars, g_tells])), (o_w, .inl (y 0, 1960, .inl a22))]) rfl g21 rfl dX8_note_87 (by rw [ea22]; rfl) (fun H locs hH => ?_)
            refine lv_aload_n K.x K.b dX8_note_88 rfl (lv_at hl 1 rfl) ?_
            refine z_get K hH 0 rfl zin_8 rfl 0 (by decide) tw_4_96 (v := .ref o_w) rfl dX8_note_89 ?_
            refine lv_iload K.x K.b dX8_note_92 (lv_at hl 0 rfl) ?_
            refine lv_iconst (v := (1)) K.x K.b dX8_note_94 (by decide) ?_
            refine lv_iadd K.x K.b dX8_note_95 ?_
            refine lv_iload_n K.x K.b dX8_note_96 rfl (lv_at hl 3 rfl) ?_
            obtain ⟨x23, ex23, h⟩ := z_lt_e h
            refine z_nm2 ex23 ?_
            obtain ⟨g24, h⟩ := z_gd_e h
            obtain ⟨a25, ea25, h⟩ := z_lt_e h
            refine z_iast K hH 1 (k := x23.toNatClampNeg) (ws' := [(o, .inr (7, [.ref o_w, g_kept, g_text, g_size, g_above, g_below, .int v_bads, g_noes, .int v_fulls, g_at, g_from, g_token, g_value, g_readFault, g_yet, g_fars, g_tells])), (o_w, .inl (y 0, 1960, .inl a25))]) rfl g24 rfl dX8_note_97 (by rw [ea25]; rfl) (fun H locs hH => ?_)
            refine lv_aload_n K.x K.b dX8_note_98 rfl (lv_at hl 1 rfl) ?_
            refine z_get K hH 0 rfl zin_8 rfl 0 (by decide) tw_4_96 (v := .ref o_w) rfl dX8_note_99 ?_
            refine lv_iload K.x K.b dX8_note_102 (lv_at hl 0 rfl) ?_
            refine lv_iconst (v := (2)) K.x K.b dX8_note_104 (by decide) ?_
            refine lv_iadd K.x K.b dX8_note_105 ?_
            refine lv_iload_n K.x K.b dX8_note_106 rfl (lv_at hl 4 rfl) ?_
            obtain ⟨x26, ex26, h⟩ := z_lt_e h
            refine z_nm2 ex26 ?_
            obtain ⟨g27, h⟩ := z_gd_e h
            obtain ⟨a28, ea28, h⟩ := z_lt_e h
            refine z_iast K hH 1 (k := x26.toNatClampNeg) (ws' := [(o, .inr (7, [.ref o_w, g_kept, g_text, g_size, g_above, g_below, .int v_bads, g_noes, .int v_fulls, g_at, g_from, g_token, g_value, g_readFault, g_yet, g_fars, g_tells])), (o_w, .inl (y 0, 1960, .inl a28))]) rfl g27 rfl dX8_note_107 (by rw [ea28]; rfl) (fun H locs hH => ?_)
            refine lv_aload_n K.x K.b dX8_note_108 rfl (lv_at hl 1 rfl) ?_
            refine z_get K hH 0 rfl zin_8 rfl 0 (by decide) tw_4_96 (v := .ref o_w) rfl dX8_note_109 ?_
            refine lv_iload K.x K.b dX8_note_112 (lv_at hl 0 rfl) ?_
            refine lv_iconst (v := (3)) K.x K.b dX8_note_114 (by decide) ?_
            refine lv_iadd K.x K.b dX8_note_115 ?_
            refine lv_iload K.x K.b dX8_note_116 (lv_at hl 5 rfl) ?_
            obtain ⟨x29, ex29, h⟩ := z_lt_e h
            refine z_nm2 ex29 ?_
            obtain ⟨g30, h⟩ := z_gd_e h
            obtain ⟨a31, ea31, h⟩ := z_lt_e h
            refine z_iast K hH 1 (k := x29.toNatClampNeg) (ws' := [(o, .inr (7, [.ref o_w, g_kept, g_text, g_size, g_above, g_below, .int v_bads, g_noes, .int v_fulls, g_at, g_from, g_token, g_value, g_readFault, g_yet, g_fars, g_tells])), (o_w, .inl (y 0, 1960, .inl a31))]) rfl g30 rfl dX8_note_118 (by rw [ea31]; rfl) (fun H locs hH => ?_)
            refine lv_aload_n K.x K.b dX8_note_119 rfl (lv_at hl 1 rfl) ?_
            refine z_get K hH 0 rfl zin_8 rfl 0 (by decide) tw_4_96 (v := .ref o_w) rfl dX8_note_120 ?_
            refine lv_sipush (v := (447)) K.x K.b dX8_note_123 (by decide) ?_
            refine lv_dup2_11 K.x K.b dX8_note_126 rfl rfl ?_
            refine z_iald K hH 1 (k := 447) rfl (by decide) rfl dX8_note_127 ?_
            refine lv_iconst (v := (1)) K.x K.b dX8_note_128 (by decide) ?_
            refine lv_iadd K.x K.b dX8_note_129 ?_
            obtain ⟨x32, ex32, h⟩ := z_lt_e h
            refine z_nm ex32 ?_
            obtain ⟨a33, ea33, h⟩ := z_lt_e h
            refine z_iast K hH 1 (k := 447) (ws' := [(o, .inr (7, [.ref o_w, g_kept, g_text, g_size, g_above, g_below, .int v_bads, g_noes, .int v_fulls, g_at, g_from, g_token, g_value, g_readFault, g_yet, g_fars, g_tells])), (o_w, .inl (y 0, 1960, .inl a33))]) rfl (by decide) rfl dX8_note_130 (by rw [ea33]; rfl) (fun H locs hH => ?_)
            refine lv_aload_n K.x K.b dX8_note_131 rfl (lv_at hl 1 rfl) ?_
            refine z_get K hH 0 rfl zin_8 rfl 0 (by decide) tw_4_96 (v := .ref o_w) rfl dX8_note_132 ?_
            refine lv_sipush (v := (447)) K.x K.b dX8_note_135 (by decide) ?_
            refine z_iald K hH 1 (k := 447) rfl (by decide) rfl dX8_note_138 ?_
            have hr9 := Option.some.inj h
            obtain rfl := hr9
            rw [hQ]
            exact z_reti K hr hH [0, 1] (by decide) rfl rfl rfl dX8_note_139
          · replace h := z_t c19 h
            refine lv_aload_n K.x K.b dX8_note_59 rfl (lv_at hl 0 rfl) ?_
            obtain ⟨r34, hr35, h⟩ := z_bd_e h
            refine z_Vi K hH hl.1 (c_X8_full l D y o (.ref o_w) (g_kept) (g_text) (g_size) (g_above) (g_below) (.int v_bads) (g_noes) (g_at) (g_from) (g_token) (g_value) (g_readFault) (g_yet) (g_fars) (g_tells) v_fulls r34 hr35) (z_cwV K 0 tw_4_167 tw_4_169 tw_0_38 tw_1_8 tw_4_170 hd_X8_full ⟨by decide, by decide⟩) [0] [1] rfl (wr := [(o_w, .inl (y 0, 1960, .inl f_w))]) rfl rfl rfl (by decide) rfl rfl rfl (As := []) (rest := []) rfl (Nat.le_of_ble_eq_true rfl) ⟨Nat.zero_le _, Nat.zero_le _⟩ dX8_note_60 (ws' := [(o_w, .inl (y 0, 1960, .inl f_w)), (o, .inr (7, [.ref o_w, g_kept, g_text, g_size, g_above, g_below, .int v_bads, g_noes, .int r34.2, g_at, g_from, g_token, g_value, g_readFault, g_yet, g_fars, g_tells]))]) rfl (fun H locs hH => ?_)
            have hr9 := Option.some.inj h
            obtain rfl := hr9
            rw [hQ]
            exact z_reti K hr hH [1, 0] (by decide) rfl rfl rfl dX8_note_63
        · replace h := z_t c18 h
          refine lv_aload_n K.x K.b dX8_note_41 rfl (lv_at hl 0 rfl) ?_
          obtain ⟨r36, hr37, h⟩ := z_bd_e h
          refine z_Vi K hH hl.1 (c_X8_bad l D y o (.ref o_w) (g_kept) (g_text) (g_size) (g_above) (g_below) (g_noes) (.int v_fulls) (g_at) (g_from) (g_token) (g_value) (g_readFault) (g_yet) (g_fars) (g_tells) v_bads r36 hr37) (z_cwV K 0 tw_4_163 tw_4_165 tw_0_37 tw_1_8 tw_4_166 hd_X8_bad ⟨by decide, by decide⟩) [0] [1] rfl (wr := [(o_w, .inl (y 0, 1960, .inl f_w))]) rfl rfl rfl (by decide) rfl rfl rfl (As := []) (rest := []) rfl (Nat.le_of_ble_eq_true rfl) ⟨Nat.zero_le _, Nat.zero_le _⟩ dX8_note_42 (ws' := [(o_w, .inl (y 0, 1960, .inl f_w)), (o, .inr (7, [.ref o_w, g_kept, g_text, g_size, g_above, g_below, .int r36.2, g_noes, .int v_fulls, g_at, g_from, g_token, g_value, g_readFault, g_yet, g_fars, g_tells]))]) rfl (fun H locs hH => ?_)
          have hr9 := Option.some.inj h
          obtain rfl := hr9
          rw [hQ]
          exact z_reti K hr hH [1, 0] (by decide) rfl rfl rfl dX8_note_45
def p_X8_mark (v_bads : Int32) (v_fulls : Int32) (f_w : (Nat → Int32)) (p1 : Int32) (p2 : Int32) (p3 : Int32) (p4 : Int32) (p5 : Int32) : Option (Int32 × Int32 × Int32 × (Nat → Int32)) :=
  z_bd (p_X8_isCrow f_w p1) fun r1 =>
  if (r1 = 0) then
  (z_bd (p_X8_bad v_bads) fun r4 =>
  some (r4.1, r4.2, v_fulls, f_w)) else
  (z_bd (p_X8_in p2 (0 : Int32) (18 : Int32)) fun r6 =>
  if (r6 = 0) then
  (z_bd (p_X8_bad v_bads) fun r9 =>
  some (r9.1, r9.2, v_fulls, f_w)) else
  (z_bd (p_X8_in p3 (0 : Int32) (23 : Int32)) fun r11 =>
  if (r11 = 0) then
  (z_bd (p_X8_bad v_bads) fun r14 =>
  some (r14.1, r14.2, v_fulls, f_w)) else
  (z_bd (p_X8_in p4 (0 : Int32) (99 : Int32)) fun r16 =>
  if (r16 = 0) then
  (z_bd (p_X8_bad v_bads) fun r19 =>
  some (r19.1, r19.2, v_fulls, f_w)) else
  (z_bd (p_X8_in p5 (0 : Int32) (500 : Int32)) fun r21 =>
  if (r21 = 0) then
  (z_bd (p_X8_bad v_bads) fun r44 =>
  some (r44.1, r44.2, v_fulls, f_w)) else
  (if ((f_w 478) = (6 : Int32)) then
  (z_bd (p_X8_full v_fulls) fun r42 =>
  some (r42.1, v_bads, r42.2, f_w)) else
  (z_lt (((448 : Int32) + ((5 : Int32) * (f_w 478)))) fun x25 =>
  z_gd (z_in x25 1960) <|
  z_lt ((upd f_w x25.toNatClampNeg p1)) fun a27 =>
  z_lt ((x25 + (1 : Int32))) fun x28 =>
  z_gd (z_in x28 1960) <|
  z_lt ((upd a27 x28.toNatClampNeg p2)) fun a30 =>
  z_lt ((x25 + (2 : Int32))) fun x31 =>
  z_gd (z_in x31 1960) <|
  z_lt ((upd a30 x31.toNatClampNeg p3)) fun a33 =>
  z_lt ((x25 + (3 : Int32))) fun x34 =>
  z_gd (z_in x34 1960) <|
  z_lt ((upd a33 x34.toNatClampNeg p4)) fun a36 =>
  z_lt ((x25 + (4 : Int32))) fun x37 =>
  z_gd (z_in x37 1960) <|
  z_lt ((upd a36 x37.toNatClampNeg p5)) fun a39 =>
  z_lt (((a39 478) + (1 : Int32))) fun x40 =>
  z_lt ((upd a39 478 x40)) fun a41 =>
  some ((a41 478), v_bads, v_fulls, a41)))))))
theorem hd_X8_mark : yX8_mark.cls = RX8 ∧ yX8_mark.cls ≠ "java/lang/invoke/MethodHandle" ∧ yX8_mark.cls ≠ "java/lang/invoke/VarHandle" ∧ (parseMethodDescriptor yX8_mark.desc).map (fun d => d.parameters.length) = some 5 := by decide +kernel
set_option maxHeartbeats 4000000 in
set_option maxRecDepth 100000 in
theorem c_X8_mark (l : Launch) (D : va_G) (y : Nat → ClassId) (o o_w : Nat) (g_kept g_text g_size g_above g_below g_noes g_at g_from g_token g_value g_readFault g_yet g_fars g_tells : Value) (v_bads : Int32) (v_fulls : Int32) (f_w : (Nat → Int32)) (p1 : Int32) (p2 : Int32) (p3 : Int32) (p4 : Int32) (p5 : Int32) (r : Int32 × Int32 × Int32 × (Nat → Int32)) (h : p_X8_mark v_bads v_fulls f_w p1 p2 p3 p4 p5 = some r) : z_MI l yX8_mark cX8_mark 7 (some .int) 2 43 D y [.ref o, .int p1, .int p2, .int p3, .int p4, .int p5] [(o, .inr (7, [.ref o_w, g_kept, g_text, g_size, g_above, g_below, .int v_bads, g_noes, .int v_fulls, g_at, g_from, g_token, g_value, g_readFault, g_yet, g_fars, g_tells])), (o_w, .inl (y 0, 1960, .inl f_w))] r.1 [(o, .inr (7, [.ref o_w, g_kept, g_text, g_size, g_above, g_below, .int r.2.1, g_noes, .int r.2.2.1, g_at, g_from, g_token, g_value, g_readFault, g_yet, g_fars, g_tells])), (o_w, .inl (y 0, 1960, .inl r.2.2.2))] := by
  unfold p_X8_mark at h
  refine z_enI (by decide) (Nat.le_of_ble_eq_true rfl) ?_
  intro p e s m args below meth c A ls hr K hH hl
  obtain ⟨Q, hQ⟩ : ∃ Q, Q = MQ below (z_Qi D y A r.1 [(o, .inr (7, [.ref o_w, g_kept, g_text, g_size, g_above, g_below, .int r.2.1, g_noes, .int r.2.2.1, g_at, g_from, g_token, g_value, g_readFault, g_yet, g_fars, g_tells])), (o_w, .inl (y 0, 1960, .inl r.2.2.2))]) args s 0 0 A := ⟨_, rfl⟩
  rw [← hQ]
  have hl : lv_has ls 7 [(0, .ref o), (1, .int p1), (2, .int p2), (3, .int p3), (4, .int p4), (5, .int p5)] := hl
  refine lv_aload_n K.x K.b dX8_mark_0 rfl (lv_at hl 0 rfl) ?_
  refine lv_iload_n K.x K.b dX8_mark_1 rfl (lv_at hl 1 rfl) ?_
  obtain ⟨r1, hr2, h⟩ := z_bd_e h
  refine z_Vi K hH hl.1 (c_X8_isCrow l D y o o_w (g_kept) (g_text) (g_size) (g_above) (g_below) (.int v_bads) (g_noes) (.int v_fulls) (g_at) (g_from) (g_token) (g_value) (g_readFault) (g_yet) (g_fars) (g_tells) f_w p1 r1 hr2) (z_cwV K 1 tw_5_64 tw_5_66 tw_0_65 tw_1_8 tw_5_67 hd_X8_isCrow ⟨by decide, by decide⟩) [0, 1] [] rfl (wr := []) rfl rfl rfl (by decide) rfl rfl rfl (As := [.int p1]) (rest := []) rfl (Nat.le_of_ble_eq_true rfl) ⟨Nat.zero_le _, Nat.zero_le _⟩ dX8_mark_2 (ws' := [(o, .inr (7, [.ref o_w, g_kept, g_text, g_size, g_above, g_below, .int v_bads, g_noes, .int v_fulls, g_at, g_from, g_token, g_value, g_readFault, g_yet, g_fars, g_tells])), (o_w, .inl (y 0, 1960, .inl f_w))]) rfl (fun H locs hH => ?_)
  refine lv_if_eq (tgt := 51) K.x K.b dX8_mark_5 (by decide) (fun c3 => ?_) (fun c3 => ?_)
  · replace h := z_t c3 h
    refine lv_aload_n K.x K.b dX8_mark_51 rfl (lv_at hl 0 rfl) ?_
    obtain ⟨r4, hr5, h⟩ := z_bd_e h
    refine z_Vi K hH hl.1 (c_X8_bad l D y o (.ref o_w) (g_kept) (g_text) (g_size) (g_above) (g_below) (g_noes) (.int v_fulls) (g_at) (g_from) (g_token) (g_value) (g_readFault) (g_yet) (g_fars) (g_tells) v_bads r4 hr5) (z_cwV K 0 tw_4_163 tw_4_165 tw_0_37 tw_1_8 tw_4_166 hd_X8_bad ⟨by decide, by decide⟩) [0] [1] rfl (wr := [(o_w, .inl (y 0, 1960, .inl f_w))]) rfl rfl rfl (by decide) rfl rfl rfl (As := []) (rest := []) rfl (Nat.le_of_ble_eq_true rfl) ⟨Nat.zero_le _, Nat.zero_le _⟩ dX8_mark_52 (ws' := [(o_w, .inl (y 0, 1960, .inl f_w)), (o, .inr (7, [.ref o_w, g_kept, g_text, g_size, g_above, g_below, .int r4.2, g_noes, .int v_fulls, g_at, g_from, g_token, g_value, g_readFault, g_yet, g_fars, g_tells]))]) rfl (fun H locs hH => ?_)
    have hr9 := Option.some.inj h
    obtain rfl := hr9
    rw [hQ]
    exact z_reti K hr hH [1, 0] (by decide) rfl rfl rfl dX8_mark_55
  · replace h := z_f c3 h
    refine lv_iload_n K.x K.b dX8_mark_8 rfl (lv_at hl 2 rfl) ?_
    refine lv_iconst (v := (0)) K.x K.b dX8_mark_9 (by decide) ?_
    refine lv_bipush (v := (18)) K.x K.b dX8_mark_10 (by decide) ?_
    obtain ⟨r6, hr7, h⟩ := z_bd_e h
    refine z_Si K hH hl.1 (c_X8_in l D y p2 (0 : Int32) (18 : Int32) r6 hr7) (z_cwS K 3 tw_4_160 tw_4_161 tw_1_8 tw_4_162 hd_X8_in ⟨by decide, by decide⟩) rfl (As := [.int p2, .int (0 : Int32), .int (18 : Int32)]) (rest := []) rfl (Nat.le_of_ble_eq_true rfl) ⟨Nat.zero_le _, Nat.zero_le _⟩ dX8_mark_12 (fun H locs hH => ?_)
    refine lv_if_eq (tgt := 51) K.x K.b dX8_mark_15 (by decide) (fun c8 => ?_) (fun c8 => ?_)
    · replace h := z_t c8 h
      refine lv_aload_n K.x K.b dX8_mark_51 rfl (lv_at hl 0 rfl) ?_
      obtain ⟨r9, hr10, h⟩ := z_bd_e h
      refine z_Vi K hH hl.1 (c_X8_bad l D y o (.ref o_w) (g_kept) (g_text) (g_size) (g_above) (g_below) (g_noes) (.int v_fulls) (g_at) (g_from) (g_token) (g_value) (g_readFault) (g_yet) (g_fars) (g_tells) v_bads r9 hr10) (z_cwV K 0 tw_4_163 tw_4_165 tw_0_37 tw_1_8 tw_4_166 hd_X8_bad ⟨by decide, by decide⟩) [0] [1] rfl (wr := [(o_w, .inl (y 0, 1960, .inl f_w))]) rfl rfl rfl (by decide) rfl rfl rfl (As := []) (rest := []) rfl (Nat.le_of_ble_eq_true rfl) ⟨Nat.zero_le _, Nat.zero_le _⟩ dX8_mark_52 (ws' := [(o_w, .inl (y 0, 1960, .inl f_w)), (o, .inr (7, [.ref o_w, g_kept, g_text, g_size, g_above, g_below, .int r9.2, g_noes, .int v_fulls, g_at, g_from, g_token, g_value, g_readFault, g_yet, g_fars, g_tells]))]) rfl (fun H locs hH => ?_)
      have hr9 := Option.some.inj h
      obtain rfl := hr9
      rw [hQ]
      exact z_reti K hr hH [1, 0] (by decide) rfl rfl rfl dX8_mark_55
    · replace h := z_f c8 h
      refine lv_iload_n K.x K.b dX8_mark_18 rfl (lv_at hl 3 rfl) ?_
      refine lv_iconst (v := (0)) K.x K.b dX8_mark_19 (by decide) ?_
      refine lv_bipush (v := (23)) K.x K.b dX8_mark_20 (by decide) ?_
      obtain ⟨r11, hr12, h⟩ := z_bd_e h
      refine z_Si K hH hl.1 (c_X8_in l D y p3 (0 : Int32) (23 : Int32) r11 hr12) (z_cwS K 3 tw_4_160 tw_4_161 tw_1_8 tw_4_162 hd_X8_in ⟨by decide, by decide⟩) rfl (As := [.int p3, .int (0 : Int32), .int (23 : Int32)]) (rest := []) rfl (Nat.le_of_ble_eq_true rfl) ⟨Nat.zero_le _, Nat.zero_le _⟩ dX8_mark_22 (fun H locs hH => ?_)
      refine lv_if_eq (tgt := 51) K.x K.b dX8_mark_25 (by decide) (fun c13 => ?_) (fun c13 => ?_)
      · replace h := z_t c13 h
        refine lv_aload_n K.x K.b dX8_mark_51 rfl (lv_at hl 0 rfl) ?_
        obtain ⟨r14, hr15, h⟩ := z_bd_e h
        refine z_Vi K hH hl.1 (c_X8_bad l D y o (.ref o_w) (g_kept) (g_text) (g_size) (g_above) (g_below) (g_noes) (.int v_fulls) (g_at) (g_from) (g_token) (g_value) (g_readFault) (g_yet) (g_fars) (g_tells) v_bads r14 hr15) (z_cwV K 0 tw_4_163 tw_4_165 tw_0_37 tw_1_8 tw_4_166 hd_X8_bad ⟨by decide, by decide⟩) [0] [1] rfl (wr := [(o_w, .inl (y 0, 1960, .inl f_w))]) rfl rfl rfl (by decide) rfl rfl rfl (As := []) (rest := []) rfl (Nat.le_of_ble_eq_true rfl) ⟨Nat.zero_le _, Nat.zero_le _⟩ dX8_mark_52 (ws' := [(o_w, .inl (y 0, 1960, .inl f_w)), (o, .inr (7, [.ref o_w, g_kept, g_text, g_size, g_above, g_below, .int r14.2, g_noes, .int v_fulls, g_at, g_from, g_token, g_value, g_readFault, g_yet, g_fars, g_tells]))]) rfl (fun H locs hH => ?_)
        have hr9 := Option.some.inj h
        obtain rfl := hr9
        rw [hQ]
        exact z_reti K hr hH [1, 0] (by decide) rfl rfl rfl dX8_mark_55
      · replace h := z_f c13 h
        refine lv_iload K.x K.b dX8_mark_28 (lv_at hl 4 rfl) ?_
        refine lv_iconst (v := (0)) K.x K.b dX8_mark_30 (by decide) ?_
        refine lv_bipush (v := (99)) K.x K.b dX8_mark_31 (by decide) ?_
        obtain ⟨r16, hr17, h⟩ := z_bd_e h
        refine z_Si K hH hl.1 (c_X8_in l D y p4 (0 : Int32) (99 : Int32) r16 hr17) (z_cwS K 3 tw_4_160 tw_4_161 tw_1_8 tw_4_162 hd_X8_in ⟨by decide, by decide⟩) rfl (As := [.int p4, .int (0 : Int32), .int (99 : Int32)]) (rest := []) rfl (Nat.le_of_ble_eq_true rfl) ⟨Nat.zero_le _, Nat.zero_le _⟩ dX8_mark_33 (fun H locs hH => ?_)
        refine lv_if_eq (tgt := 51) K.x K.b dX8_mark_36 (by decide) (fun c18 => ?_) (fun c18 => ?_)
        · replace h := z_t c18 h
          refine lv_aload_n K.x K.b dX8_mark_51 rfl (lv_at hl 0 rfl) ?_
          obtain ⟨r19, hr20, h⟩ := z_bd_e h
          refine z_Vi K hH hl.1 (c_X8_bad l D y o (.ref o_w) (g_kept) (g_text) (g_size) (g_above) (g_below) (g_noes) (.int v_fulls) (g_at) (g_from) (g_token) (g_value) (g_readFault) (g_yet) (g_fars) (g_tells) v_bads r19 hr20) (z_cwV K 0 tw_4_163 tw_4_165 tw_0_37 tw_1_8 tw_4_166 hd_X8_bad ⟨by decide, by decide⟩) [0] [1] rfl (wr := [(o_w, .inl (y 0, 1960, .inl f_w))]) rfl rfl rfl (by decide) rfl rfl rfl (As := []) (rest := []) rfl (Nat.le_of_ble_eq_true rfl) ⟨Nat.zero_le _, Nat.zero_le _⟩ dX8_mark_52 (ws' := [(o_w, .inl (y 0, 1960, .inl f_w)), (o, .inr (7, [.ref o_w, g_kept, g_text, g_size, g_above, g_below, .int r19.2, g_noes, .int v_fulls, g_at, g_from, g_token, g_value, g_readFault, g_yet, g_fars, g_tells]))]) rfl (fun H locs hH => ?_)
          have hr9 := Option.some.inj h
          obtain rfl := hr9
          rw [hQ]
          exact z_reti K hr hH [1, 0] (by decide) rfl rfl rfl dX8_mark_55
        · replace h := z_f c18 h
          refine lv_iload K.x K.b dX8_mark_39 (lv_at hl 5 rfl) ?_
          refine lv_iconst (v := (0)) K.x K.b dX8_mark_41 (by decide) ?_
          refine lv_sipush (v := (500)) K.x K.b dX8_mark_42 (by decide) ?_
          obtain ⟨r21, hr22, h⟩ := z_bd_e h
          refine z_Si K hH hl.1 (c_X8_in l D y p5 (0 : Int32) (500 : Int32) r21 hr22) (z_cwS K 3 tw_4_160 tw_4_161 tw_1_8 tw_4_162 hd_X8_in ⟨by decide, by decide⟩) rfl (As := [.int p5, .int (0 : Int32), .int (500 : Int32)]) (rest := []) rfl (Nat.le_of_ble_eq_true rfl) ⟨Nat.zero_le _, Nat.zero_le _⟩ dX8_mark_45 (fun H locs hH => ?_)
          refine lv_if_ne (tgt := 56) K.x K.b dX8_mark_48 (by decide) (fun c23 => ?_) (fun c23 => ?_)
          · replace h := z_f c23 h
            refine lv_aload_n K.x K.b dX8_mark_56 rfl (lv_at hl 0 rfl) ?_
            refine z_get K hH 0 rfl zin_8 rfl 0 (by decide) tw_4_96 (v := .ref o_w) rfl dX8_mark_57 ?_
            refine lv_sipush (v := (478)) K.x K.b dX8_mark_60 (by decide) ?_
            refine z_iald K hH 1 (k := 478) rfl (by decide) rfl dX8_mark_63 ?_
            refine lv_bipush (v := (6)) K.x K.b dX8_mark_64 (by decide) ?_
            refine lv_icmp_ne (tgt := 74) K.x K.b dX8_mark_66 (by decide) (fun c24 => ?_) (fun c24 => ?_)
            · replace h := z_f c24 h
              refine lv_sipush (v := (448)) K.x K.b dX8_mark_74 (by decide) ?_
              refine lv_iconst (v := (5)) K.x K.b dX8_mark_77 (by decide) ?_
              refine lv_aload_n K.x K.b dX8_mark_78 rfl (lv_at hl 0 rfl) ?_
              refine z_get K hH 0 rfl zin_8 rfl 0 (by decide) tw_4_96 (v := .ref o_w) rfl dX8_mark_79 ?_
              refine lv_sipush (v := (478)) K.x K.b dX8_mark_82 (by decide) ?_
              refine z_iald K hH 1 (k := 478) rfl (by decide) rfl dX8_mark_85 ?_
              refine lv_imul K.x K.b dX8_mark_86 ?_
              refine lv_iadd K.x K.b dX8_mark_87 ?_
              obtain ⟨x25, ex25, h⟩ := z_lt_e h
              refine z_nm ex25 ?_
              refine lv_istore (lv' := [(6, .int x25), (0, .ref o), (1, .int p1), (2, .int p2), (3, .int p3), (4, .int p4), (5, .int p5)]) K.x K.b dX8_mark_88 hl (by decide) rfl (fun ls hl => ?_)
              refine lv_aload_n K.x K.b dX8_mark_90 rfl (lv_at hl 1 rfl) ?_
              refine z_get K hH 0 rfl zin_8 rfl 0 (by decide) tw_4_96 (v := .ref o_w) rfl dX8_mark_91 ?_
              refine lv_iload K.x K.b dX8_mark_94 (lv_at hl 0 rfl) ?_
              refine lv_iload_n K.x K.b dX8_mark_96 rfl (lv_at hl 2 rfl) ?_
              obtain ⟨g26, h⟩ := z_gd_e h
              obtain ⟨a27, ea27, h⟩ := z_lt_e h
              refine z_iast K hH 1 (k := x25.toNatClampNeg) (ws' := [(o, .inr (7, [.ref o_w, g_kept, g_text, g_size, g_above, g_below, .int v_bads, g_noes, .int v_fulls, g_at, g_from, g_token, g_value, g_readFault, g_yet, g_fars, g_tells])), (o_w, .inl (y 0, 1960, .inl a27))]) rfl g26 rfl dX8_mark_97 (by rw [ea27]; rfl) (fun H locs hH => ?_)
              refine lv_aload_n K.x K.b dX8_mark_98 rfl (lv_at hl 1 rfl) ?_
              refine z_get K hH 0 rfl zin_8 rfl 0 (by decide) tw_4_96 (v := .ref o_w) rfl dX8_mark_99 ?_
              refine lv_iload K.x K.b dX8_mark_102 (lv_at hl 0 rfl) ?_
              refine lv_iconst (v := (1)) K.x K.b dX8_mark_104 (by decide) ?_
              refine lv_iadd K.x K.b dX8_mark_105 ?_
              refine lv_iload_n K.x K.b dX8_mark_106 rfl (lv_at hl 3 rfl) ?_
              obtain ⟨x28, ex28, h⟩ := z_lt_e h
              refine z_nm2 ex28 ?_
              obtain ⟨g29, h⟩ := z_gd_e h
              obtain ⟨a30, ea30, h⟩ := z_lt_e h
              refine z_iast K hH 1 (k := x28.toNatClampNeg) (ws' := [(o, .inr (7, [.ref o_w, g_kept, g_text, g_size, g_above, g_below, .int v_bads, g_noes, .int v_fulls, g_at, g_from, g_token, g_value, g_readFault, g_yet, g_fars, g_tells])), (o_w, .inl (y 0, 1960, .inl a30))]) rfl g29 rfl dX8_mark_107 (by rw [ea30]; rfl) (fun H locs hH => ?_)
              refine lv_aload_n K.x K.b dX8_mark_108 rfl (lv_at hl 1 rfl) ?_
              refine z_get K hH 0 rfl zin_8 rfl 0 (by decide) tw_4_96 (v := .ref o_w) rfl dX8_mark_109 ?_
              refine lv_iload K.x K.b dX8_mark_112 (lv_at hl 0 rfl) ?_
              refine lv_iconst (v := (2)) K.x K.b dX8_mark_114 (by decide) ?_
              refine lv_iadd K.x K.b dX8_mark_115 ?_
              refine lv_iload_n K.x K.b dX8_mark_116 rfl (lv_at hl 4 rfl) ?_
              obtain ⟨x31, ex31, h⟩ := z_lt_e h
              refine z_nm2 ex31 ?_
              obtain ⟨g32, h⟩ := z_gd_e h
              obtain ⟨a33, ea33, h⟩ := z_lt_e h
              refine z_iast K hH 1 (k := x31.toNatClampNeg) (ws' := [(o, .inr (7, [.ref o_w, g_kept, g_text, g_size, g_above, g_below, .int v_bads, g_noes, .int v_fulls, g_at, g_from, g_token, g_value, g_readFault, g_yet, g_fars, g_tells])), (o_w, .inl (y 0, 1960, .inl a33))]) rfl g32 rfl dX8_mark_117 (by rw [ea33]; rfl) (fun H locs hH => ?_)
              refine lv_aload_n K.x K.b dX8_mark_118 rfl (lv_at hl 1 rfl) ?_
              refine z_get K hH 0 rfl zin_8 rfl 0 (by decide) tw_4_96 (v := .ref o_w) rfl dX8_mark_119 ?_
              refine lv_iload K.x K.b dX8_mark_122 (lv_at hl 0 rfl) ?_
              refine lv_iconst (v := (3)) K.x K.b dX8_mark_124 (by decide) ?_
              refine lv_iadd K.x K.b dX8_mark_125 ?_
              refine lv_iload K.x K.b dX8_mark_126 (lv_at hl 5 rfl) ?_
              obtain ⟨x34, ex34, h⟩ := z_lt_e h
              refine z_nm2 ex34 ?_
              obtain ⟨g35, h⟩ := z_gd_e h
              obtain ⟨a36, ea36, h⟩ := z_lt_e h
              refine z_iast K hH 1 (k := x34.toNatClampNeg) (ws' := [(o, .inr (7, [.ref o_w, g_kept, g_text, g_size, g_above, g_below, .int v_bads, g_noes, .int v_fulls, g_at, g_from, g_token, g_value, g_readFault, g_yet, g_fars, g_tells])), (o_w, .inl (y 0, 1960, .inl a36))]) rfl g35 rfl dX8_mark_128 (by rw [ea36]; rfl) (fun H locs hH => ?_)
              refine lv_aload_n K.x K.b dX8_mark_129 rfl (lv_at hl 1 rfl) ?_
              refine z_get K hH 0 rfl zin_8 rfl 0 (by decide) tw_4_96 (v := .ref o_w) rfl dX8_mark_130 ?_
              refine lv_iload K.x K.b dX8_mark_133 (lv_at hl 0 rfl) ?_
              refine lv_iconst (v := (4)) K.x K.b dX8_mark_135 (by decide) ?_
              refine lv_iadd K.x K.b dX8_mark_136 ?_
              refine lv_iload K.x K.b dX8_mark_137 (lv_at hl 6 rfl) ?_
              obtain ⟨x37, ex37, h⟩ := z_lt_e h
              refine z_nm2 ex37 ?_
              obtain ⟨g38, h⟩ := z_gd_e h
              obtain ⟨a39, ea39, h⟩ := z_lt_e h
              refine z_iast K hH 1 (k := x37.toNatClampNeg) (ws' := [(o, .inr (7, [.ref o_w, g_kept, g_text, g_size, g_above, g_below, .int v_bads, g_noes, .int v_fulls, g_at, g_from, g_token, g_value, g_readFault, g_yet, g_fars, g_tells])), (o_w, .inl (y 0, 1960, .inl a39))]) rfl g38 rfl dX8_mark_139 (by rw [ea39]; rfl) (fun H locs hH => ?_)
              refine lv_aload_n K.x K.b dX8_mark_140 rfl (lv_at hl 1 rfl) ?_
              refine z_get K hH 0 rfl zin_8 rfl 0 (by decide) tw_4_96 (v := .ref o_w) rfl dX8_mark_141 ?_
              refine lv_sipush (v := (478)) K.x K.b dX8_mark_144 (by decide) ?_
              refine lv_dup2_11 K.x K.b dX8_mark_147 rfl rfl ?_
              refine z_iald K hH 1 (k := 478) rfl (by decide) rfl dX8_mark_148 ?_
              refine lv_iconst (v := (1)) K.x K.b dX8_mark_149 (by decide) ?_
              refine lv_iadd K.x K.b dX8_mark_150 ?_
              obtain ⟨x40, ex40, h⟩ := z_lt_e h
              refine z_nm ex40 ?_
              obtain ⟨a41, ea41, h⟩ := z_lt_e h
              refine z_iast K hH 1 (k := 478) (ws' := [(o, .inr (7, [.ref o_w, g_kept, g_text, g_size, g_above, g_below, .int v_bads, g_noes, .int v_fulls, g_at, g_from, g_token, g_value, g_readFault, g_yet, g_fars, g_tells])), (o_w, .inl (y 0, 1960, .inl a41))]) rfl (by decide) rfl dX8_mark_151 (by rw [ea41]; rfl) (fun H locs hH => ?_)
              refine lv_aload_n K.x K.b dX8_mark_152 rfl (lv_at hl 1 rfl) ?_
              refine z_get K hH 0 rfl zin_8 rfl 0 (by decide) tw_4_96 (v := .ref o_w) rfl dX8_mark_153 ?_
              refine lv_sipush (v := (478)) K.x K.b dX8_mark_156 (by decide) ?_
              refine z_iald K hH 1 (k := 478) rfl (by decide) rfl dX8_mark_159 ?_
              have hr9 := Option.some.inj h
              obtain rfl := hr9
              rw [hQ]
              exact z_reti K hr hH [0, 1] (by decide) rfl rfl rfl dX8_mark_160
            · replace h := z_t c24 h
              refine lv_aload_n K.x K.b dX8_mark_69 rfl (lv_at hl 0 rfl) ?_
              obtain ⟨r42, hr43, h⟩ := z_bd_e h
              refine z_Vi K hH hl.1 (c_X8_full l D y o (.ref o_w) (g_kept) (g_text) (g_size) (g_above) (g_below) (.int v_bads) (g_noes) (g_at) (g_from) (g_token) (g_value) (g_readFault) (g_yet) (g_fars) (g_tells) v_fulls r42 hr43) (z_cwV K 0 tw_4_167 tw_4_169 tw_0_38 tw_1_8 tw_4_170 hd_X8_full ⟨by decide, by decide⟩) [0] [1] rfl (wr := [(o_w, .inl (y 0, 1960, .inl f_w))]) rfl rfl rfl (by decide) rfl rfl rfl (As := []) (rest := []) rfl (Nat.le_of_ble_eq_true rfl) ⟨Nat.zero_le _, Nat.zero_le _⟩ dX8_mark_70 (ws' := [(o_w, .inl (y 0, 1960, .inl f_w)), (o, .inr (7, [.ref o_w, g_kept, g_text, g_size, g_above, g_below, .int v_bads, g_noes, .int r42.2, g_at, g_from, g_token, g_value, g_readFault, g_yet, g_fars, g_tells]))]) rfl (fun H locs hH => ?_)
              have hr9 := Option.some.inj h
              obtain rfl := hr9
              rw [hQ]
              exact z_reti K hr hH [1, 0] (by decide) rfl rfl rfl dX8_mark_73
          · replace h := z_t c23 h
            refine lv_aload_n K.x K.b dX8_mark_51 rfl (lv_at hl 0 rfl) ?_
            obtain ⟨r44, hr45, h⟩ := z_bd_e h
            refine z_Vi K hH hl.1 (c_X8_bad l D y o (.ref o_w) (g_kept) (g_text) (g_size) (g_above) (g_below) (g_noes) (.int v_fulls) (g_at) (g_from) (g_token) (g_value) (g_readFault) (g_yet) (g_fars) (g_tells) v_bads r44 hr45) (z_cwV K 0 tw_4_163 tw_4_165 tw_0_37 tw_1_8 tw_4_166 hd_X8_bad ⟨by decide, by decide⟩) [0] [1] rfl (wr := [(o_w, .inl (y 0, 1960, .inl f_w))]) rfl rfl rfl (by decide) rfl rfl rfl (As := []) (rest := []) rfl (Nat.le_of_ble_eq_true rfl) ⟨Nat.zero_le _, Nat.zero_le _⟩ dX8_mark_52 (ws' := [(o_w, .inl (y 0, 1960, .inl f_w)), (o, .inr (7, [.ref o_w, g_kept, g_text, g_size, g_above, g_below, .int r44.2, g_noes, .int v_fulls, g_at, g_from, g_token, g_value, g_readFault, g_yet, g_fars, g_tells]))]) rfl (fun H locs hH => ?_)
            have hr9 := Option.some.inj h
            obtain rfl := hr9
            rw [hQ]
            exact z_reti K hr hH [1, 0] (by decide) rfl rfl rfl dX8_mark_55
noncomputable def p_X8_forget (v_bads : Int32) (f_w : (Nat → Int32)) (p1 : Int32) : Option (Int32 × Int32 × (Nat → Int32)) :=
  z_bd (p_X8_in p1 (0 : Int32) (2 : Int32)) fun r1 =>
  if (r1 = 0) then
  (z_bd (p_X8_bad v_bads) fun r15 =>
  some (r15.1, r15.2, f_w)) else
  (z_bd (α := Int32) (if (p1 = 0) then
  (some (447 : Int32)) else
  (if (p1 = (1 : Int32)) then
  (some (478 : Int32)) else
  (some (7 : Int32)))) fun j4 =>
  z_gd (z_in j4 1960) <|
  z_lt ((f_w j4.toNatClampNeg)) fun x6 =>
  z_bd (α := (Nat → Int32)) (if (p1 = (2 : Int32)) then
  (z_bd (p_X8_remember f_w) fun r11 =>
  some r11) else
  (some f_w)) fun j7 =>
  z_gd (z_in j4 1960) <|
  z_lt ((upd j7 j4.toNatClampNeg (0 : Int32))) fun a9 =>
  some (x6, v_bads, a9))
theorem hd_X8_forget : yX8_forget.cls = RX8 ∧ yX8_forget.cls ≠ "java/lang/invoke/MethodHandle" ∧ yX8_forget.cls ≠ "java/lang/invoke/VarHandle" ∧ (parseMethodDescriptor yX8_forget.desc).map (fun d => d.parameters.length) = some 1 := by decide +kernel
set_option maxHeartbeats 4000000 in
set_option maxRecDepth 100000 in
theorem c_X8_forget (l : Launch) (D : va_G) (y : Nat → ClassId) (o o_w : Nat) (g_kept g_text g_size g_above g_below g_noes g_fulls g_at g_from g_token g_value g_readFault g_yet g_fars g_tells : Value) (v_bads : Int32) (f_w : (Nat → Int32)) (p1 : Int32) (r : Int32 × Int32 × (Nat → Int32)) (h : p_X8_forget v_bads f_w p1 = some r) : z_MI l yX8_forget cX8_forget 4 (some .int) 2 45 D y [.ref o, .int p1] [(o, .inr (7, [.ref o_w, g_kept, g_text, g_size, g_above, g_below, .int v_bads, g_noes, g_fulls, g_at, g_from, g_token, g_value, g_readFault, g_yet, g_fars, g_tells])), (o_w, .inl (y 0, 1960, .inl f_w))] r.1 [(o, .inr (7, [.ref o_w, g_kept, g_text, g_size, g_above, g_below, .int r.2.1, g_noes, g_fulls, g_at, g_from, g_token, g_value, g_readFault, g_yet, g_fars, g_tells])), (o_w, .inl (y 0, 1960, .inl r.2.2))] := by
  unfold p_X8_forget at h
  refine z_enI (by decide) (Nat.le_of_ble_eq_true rfl) ?_
  intro p e s m args below meth c A ls hr K hH hl
  obtain ⟨Q, hQ⟩ : ∃ Q, Q = MQ below (z_Qi D y A r.1 [(o, .inr (7, [.ref o_w, g_kept, g_text, g_size, g_above, g_below, .int r.2.1, g_noes, g_fulls, g_at, g_from, g_token, g_value, g_readFault, g_yet, g_fars, g_tells])), (o_w, .inl (y 0, 1960, .inl r.2.2))]) args s 0 0 A := ⟨_, rfl⟩
  rw [← hQ]
  have hl : lv_has ls 4 [(0, .ref o), (1, .int p1)] := hl
  refine lv_iload_n K.x K.b dX8_forget_0 rfl (lv_at hl 1 rfl) ?_
  refine lv_iconst (v := (0)) K.x K.b dX8_forget_1 (by decide) ?_
  refine lv_iconst (v := (2)) K.x K.b dX8_forget_2 (by decide) ?_
  obtain ⟨r1, hr2, h⟩ := z_bd_e h
  refine z_Si K hH hl.1 (c_X8_in l D y p1 (0 : Int32) (2 : Int32) r1 hr2) (z_cwS K 3 tw_4_160 tw_4_161 tw_1_8 tw_4_162 hd_X8_in ⟨by decide, by decide⟩) rfl (As := [.int p1, .int (0 : Int32), .int (2 : Int32)]) (rest := []) rfl (Nat.le_of_ble_eq_true rfl) ⟨Nat.zero_le _, Nat.zero_le _⟩ dX8_forget_3 (fun H locs hH => ?_)
  refine lv_if_ne (tgt := 14) K.x K.b dX8_forget_6 (by decide) (fun c3 => ?_) (fun c3 => ?_)
  · replace h := z_f c3 h
    refine lv_iload_n K.x K.b dX8_forget_14 rfl (lv_at hl 1 rfl) ?_
    obtain ⟨j4, hj4, h⟩ := z_bd_e h
    have Kj4 : ∀ (H : Heap) (locs : List Loc) (ls : Array Slot), z_H D A s.heap [(o, .inr (7, [.ref o_w, g_kept, g_text, g_size, g_above, g_below, .int v_bads, g_noes, g_fulls, g_at, g_from, g_token, g_value, g_readFault, g_yet, g_fars, g_tells])), (o_w, .inl (y 0, 1960, .inl f_w))] H locs → lv_has ls 4 [(0, .ref o), (1, .int p1)] → W p l e (zR 2 45) s m args below meth c H locs 0 0 Q (F0 m 37 ls [.int j4]) := by
      intro H locs ls hH hl
      refine lv_istore_n (lv' := [(2, .int j4), (0, .ref o), (1, .int p1)]) K.x K.b dX8_forget_37 rfl hl (by decide) rfl (fun ls hl => ?_)
      refine lv_aload_n K.x K.b dX8_forget_38 rfl (lv_at hl 1 rfl) ?_
      refine z_get K hH 0 rfl zin_8 rfl 0 (by decide) tw_4_96 (v := .ref o_w) rfl dX8_forget_39 ?_
      refine lv_iload_n K.x K.b dX8_forget_42 rfl (lv_at hl 0 rfl) ?_
      obtain ⟨g5, h⟩ := z_gd_e h
      refine z_iald K hH 1 (k := j4.toNatClampNeg) rfl g5 rfl dX8_forget_43 ?_
      obtain ⟨x6, ex6, h⟩ := z_lt_e h
      refine z_nm ex6 ?_
      refine lv_istore_n (lv' := [(3, .int x6), (2, .int j4), (0, .ref o), (1, .int p1)]) K.x K.b dX8_forget_44 rfl hl (by decide) rfl (fun ls hl => ?_)
      refine lv_iload_n K.x K.b dX8_forget_45 rfl (lv_at hl 3 rfl) ?_
      refine lv_iconst (v := (2)) K.x K.b dX8_forget_46 (by decide) ?_
      obtain ⟨j7, hj7, h⟩ := z_bd_e h
      have Kj7 : ∀ (H : Heap) (locs : List Loc) (ls : Array Slot), z_H D A s.heap [(o, .inr (7, [.ref o_w, g_kept, g_text, g_size, g_above, g_below, .int v_bads, g_noes, g_fulls, g_at, g_from, g_token, g_value, g_readFault, g_yet, g_fars, g_tells])), (o_w, .inl (y 0, 1960, .inl j7))] H locs → lv_has ls 4 [(0, .ref o), (2, .int j4), (3, .int x6)] → W p l e (zR 2 45) s m args below meth c H locs 0 0 Q (F0 m 54 ls []) := by
        intro H locs ls hH hl
        refine lv_aload_n K.x K.b dX8_forget_54 rfl (lv_at hl 0 rfl) ?_
        refine z_get K hH 0 rfl zin_8 rfl 0 (by decide) tw_4_96 (v := .ref o_w) rfl dX8_forget_55 ?_
        refine lv_iload_n K.x K.b dX8_forget_58 rfl (lv_at hl 1 rfl) ?_
        refine lv_iconst (v := (0)) K.x K.b dX8_forget_59 (by decide) ?_
        obtain ⟨g8, h⟩ := z_gd_e h
        obtain ⟨a9, ea9, h⟩ := z_lt_e h
        refine z_iast K hH 1 (k := j4.toNatClampNeg) (ws' := [(o, .inr (7, [.ref o_w, g_kept, g_text, g_size, g_above, g_below, .int v_bads, g_noes, g_fulls, g_at, g_from, g_token, g_value, g_readFault, g_yet, g_fars, g_tells])), (o_w, .inl (y 0, 1960, .inl a9))]) rfl g8 rfl dX8_forget_60 (by rw [ea9]; rfl) (fun H locs hH => ?_)
        refine lv_iload_n K.x K.b dX8_forget_61 rfl (lv_at hl 2 rfl) ?_
        have hr9 := Option.some.inj h
        obtain rfl := hr9
        rw [hQ]
        exact z_reti K hr hH [0, 1] (by decide) rfl rfl rfl dX8_forget_62
      replace h := hj7
      refine lv_icmp_ne (tgt := 54) K.x K.b dX8_forget_47 (by decide) (fun c10 => ?_) (fun c10 => ?_)
      · replace h := z_f c10 h
        obtain rfl := Option.some.inj h
        exact Kj7 _ _ _ hH (lv_sub hl [2, 1, 0] rfl)
      · replace h := z_t c10 h
        refine lv_aload_n K.x K.b dX8_forget_50 rfl (lv_at hl 2 rfl) ?_
        obtain ⟨r11, hr12, h⟩ := z_bd_e h
        refine z_Vv K hH hl.1 (c_X8_remember l D y o o_w (g_kept) (g_text) (g_size) (g_above) (g_below) (.int v_bads) (g_noes) (g_fulls) (g_at) (g_from) (g_token) (g_value) (g_readFault) (g_yet) (g_fars) (g_tells) f_w r11 hr12) (z_cwV K 0 tw_5_72 tw_5_74 tw_0_67 tw_1_8 tw_5_75 hd_X8_remember ⟨by decide, by decide⟩) [0, 1] [] rfl (wr := []) rfl rfl rfl (by decide) rfl rfl rfl (As := []) (rest := []) rfl (Nat.le_of_ble_eq_true rfl) ⟨Nat.zero_le _, Nat.zero_le _⟩ dX8_forget_51 (ws' := [(o, .inr (7, [.ref o_w, g_kept, g_text, g_size, g_above, g_below, .int v_bads, g_noes, g_fulls, g_at, g_from, g_token, g_value, g_readFault, g_yet, g_fars, g_tells])), (o_w, .inl (y 0, 1960, .inl r11))]) rfl (fun H locs hH => ?_)
        obtain rfl := Option.some.inj h
        exact Kj7 _ _ _ hH (lv_sub hl [2, 1, 0] rfl)
    replace h := hj4
    refine lv_if_ne (tgt := 24) K.x K.b dX8_forget_15 (by decide) (fun c13 => ?_) (fun c13 => ?_)
    · replace h := z_f c13 h
      refine lv_iload_n K.x K.b dX8_forget_24 rfl (lv_at hl 1 rfl) ?_
      refine lv_iconst (v := (1)) K.x K.b dX8_forget_25 (by decide) ?_
      refine lv_icmp_ne (tgt := 35) K.x K.b dX8_forget_26 (by decide) (fun c14 => ?_) (fun c14 => ?_)
      · replace h := z_f c14 h
        refine lv_bipush (v := (7)) K.x K.b dX8_forget_35 (by decide) ?_
        obtain rfl := Option.some.inj h
        exact Kj4 _ _ _ hH (lv_sub hl [0, 1] rfl)
      · replace h := z_t c14 h
        refine lv_sipush (v := (478)) K.x K.b dX8_forget_29 (by decide) ?_
        refine lv_goto (tgt := 37) K.x K.b dX8_forget_32 (by decide) ?_
        obtain rfl := Option.some.inj h
        exact Kj4 _ _ _ hH (lv_sub hl [0, 1] rfl)
    · replace h := z_t c13 h
      refine lv_sipush (v := (447)) K.x K.b dX8_forget_18 (by decide) ?_
      refine lv_goto (tgt := 37) K.x K.b dX8_forget_21 (by decide) ?_
      obtain rfl := Option.some.inj h
      exact Kj4 _ _ _ hH (lv_sub hl [0, 1] rfl)
  · replace h := z_t c3 h
    refine lv_aload_n K.x K.b dX8_forget_9 rfl (lv_at hl 0 rfl) ?_
    obtain ⟨r15, hr16, h⟩ := z_bd_e h
    refine z_Vi K hH hl.1 (c_X8_bad l D y o (.ref o_w) (g_kept) (g_text) (g_size) (g_above) (g_below) (g_noes) (g_fulls) (g_at) (g_from) (g_token) (g_value) (g_readFault) (g_yet) (g_fars) (g_tells) v_bads r15 hr16) (z_cwV K 0 tw_4_163 tw_4_165 tw_0_37 tw_1_8 tw_4_166 hd_X8_bad ⟨by decide, by decide⟩) [0] [1] rfl (wr := [(o_w, .inl (y 0, 1960, .inl f_w))]) rfl rfl rfl (by decide) rfl rfl rfl (As := []) (rest := []) rfl (Nat.le_of_ble_eq_true rfl) ⟨Nat.zero_le _, Nat.zero_le _⟩ dX8_forget_10 (ws' := [(o_w, .inl (y 0, 1960, .inl f_w)), (o, .inr (7, [.ref o_w, g_kept, g_text, g_size, g_above, g_below, .int r15.2, g_noes, g_fulls, g_at, g_from, g_token, g_value, g_readFault, g_yet, g_fars, g_tells]))]) rfl (fun H locs hH => ?_)
    have hr9 := Option.some.inj h
    obtain rfl := hr9
    rw [hQ]
    exact z_reti K hr hH [1, 0] (by decide) rfl rfl rfl dX8_forget_13
noncomputable def p_X8_isOf (f_w : (Nat → Int32)) (p1 : Int32) : Option (Int32) :=
  z_bd (z_lp (S := Int32 × Int32) (E := Int32) (fun s1 =>
  if ((f_w 447) ≤ s1.1) then
  (some (.inr s1.2)) else
  (z_lt (((423 : Int32) + ((4 : Int32) * s1.1))) fun x5 =>
  z_bd (z_lp (S := Int32 × Int32) (E := Int32) (fun s6 =>
  if ((6 : Int32) ≤ s6.1) then
  (some (.inr s6.2)) else
  (z_gd (z_in x5 1960) <|
  if ((f_w x5.toNatClampNeg) = p1) then
  (z_lt ((x5 + (1 : Int32))) fun x13 =>
  z_gd (z_in x13 1960) <|
  z_lt ((x5 + (2 : Int32))) fun x15 =>
  z_gd (z_in x15 1960) <|
  z_lt ((f_w x15.toNatClampNeg)) fun x17 =>
  z_lt ((f_w x13.toNatClampNeg)) fun x18 =>
  z_bd (p_X8_farOf s6.1 x18 x17) fun r19 =>
  z_lt ((x5 + (3 : Int32))) fun x21 =>
  z_gd (z_in x21 1960) <|
  z_bd (α := Int32) (if (r19 = (f_w x21.toNatClampNeg)) then
  (some (63 : Int32)) else
  (some (((1 : Int32) <<< (s6.1 &&& 31)) ^^^ (-1 : Int32)))) fun j23 =>
  z_lt ((s6.2 &&& j23)) fun x24 =>
  z_lt (s6.1 + (1 : Int32)) fun x25 =>
  some (.inl (x25, x24))) else
  (some (.inr s6.2)))) ((0 : Int32), s1.2)) fun e7 =>
  z_lt (s1.1 + (1 : Int32)) fun x8 =>
  some (.inl (x8, e7)))) ((0 : Int32), (63 : Int32))) fun e2 =>
  some e2
theorem hd_X8_isOf : yX8_isOf.cls = RX8 ∧ yX8_isOf.cls ≠ "java/lang/invoke/MethodHandle" ∧ yX8_isOf.cls ≠ "java/lang/invoke/VarHandle" ∧ (parseMethodDescriptor yX8_isOf.desc).map (fun d => d.parameters.length) = some 1 := by decide +kernel
set_option maxHeartbeats 4000000 in
set_option maxRecDepth 100000 in
theorem c_X8_isOf (l : Launch) (D : va_G) (y : Nat → ClassId) (o o_w : Nat) (g_kept g_text g_size g_above g_below g_bads g_noes g_fulls g_at g_from g_token g_value g_readFault g_yet g_fars g_tells : Value) (f_w : (Nat → Int32)) (p1 : Int32) (r : Int32) (h : p_X8_isOf f_w p1 = some r) : z_MI l yX8_isOf cX8_isOf 6 (some .int) 2 45 D y [.ref o, .int p1] [(o, .inr (7, [.ref o_w, g_kept, g_text, g_size, g_above, g_below, g_bads, g_noes, g_fulls, g_at, g_from, g_token, g_value, g_readFault, g_yet, g_fars, g_tells])), (o_w, .inl (y 0, 1960, .inl f_w))] r [(o, .inr (7, [.ref o_w, g_kept, g_text, g_size, g_above, g_below, g_bads, g_noes, g_fulls, g_at, g_from, g_token, g_value, g_readFault, g_yet, g_fars, g_tells])), (o_w, .inl (y 0, 1960, .inl f_w))] := by
  unfold p_X8_isOf at h
  refine z_enI (by decide) (Nat.le_of_ble_eq_true rfl) ?_
  intro p e s m args below meth c A ls hr K hH hl
  obtain ⟨Q, hQ⟩ : ∃ Q, Q = MQ below (z_Qi D y A r [(o, .inr (7, [.ref o_w, g_kept, g_text, g_size, g_above, g_below, g_bads, g_noes, g_fulls, g_at, g_from, g_token, g_value, g_readFault, g_yet, g_fars, g_tells])), (o_w, .inl (y 0, 1960, .inl f_w))]) args s 0 0 A := ⟨_, rfl⟩
  rw [← hQ]
  have hl : lv_has ls 6 [(0, .ref o), (1, .int p1)] := hl
  refine lv_bipush (v := (63)) K.x K.b dX8_isOf_0 (by decide) ?_
  refine lv_istore_n (lv' := [(2, .int (63 : Int32)), (0, .ref o), (1, .int p1)]) K.x K.b dX8_isOf_2 rfl hl (by decide) rfl (fun ls hl => ?_)
  refine lv_iconst (v := (0)) K.x K.b dX8_isOf_3 (by decide) ?_
  refine lv_istore_n (lv' := [(3, .int (0 : Int32)), (2, .int (63 : Int32)), (0, .ref o), (1, .int p1)]) K.x K.b dX8_isOf_4 rfl hl (by decide) rfl (fun ls hl => ?_)
  obtain ⟨e2, hlpe2, h⟩ := z_bd_e h
  have KEe2 : ∀ (H : Heap) (locs : List Loc) (ls : Array Slot), z_H D A s.heap [(o, .inr (7, [.ref o_w, g_kept, g_text, g_size, g_above, g_below, g_bads, g_noes, g_fulls, g_at, g_from, g_token, g_value, g_readFault, g_yet, g_fars, g_tells])), (o_w, .inl (y 0, 1960, .inl f_w))] H locs → lv_has ls 6 [(2, .int e2)] → W p l e (zR 2 45) s m args below meth c H locs 0 0 Q (F0 m 108 ls []) := by
    intro H locs ls hH hl
    refine lv_iload_n K.x K.b dX8_isOf_108 rfl (lv_at hl 0 rfl) ?_
    have hr9 := Option.some.inj h
    obtain rfl := hr9
    rw [hQ]
    exact z_reti K hr hH [0, 1] (by decide) rfl rfl rfl dX8_isOf_109
  refine z_lp_ind (P := fun (s1 : Int32 × Int32) => ∀ (H : Heap) (locs : List Loc) (ls : Array Slot), z_H D A s.heap [(o, .inr (7, [.ref o_w, g_kept, g_text, g_size, g_above, g_below, g_bads, g_noes, g_fulls, g_at, g_from, g_token, g_value, g_readFault, g_yet, g_fars, g_tells])), (o_w, .inl (y 0, 1960, .inl f_w))] H locs → lv_has ls 6 [(0, .ref o), (1, .int p1), (2, .int s1.2), (3, .int s1.1)] → W p l e (zR 2 45) s m args below meth c H locs 0 0 Q (F0 m 5 ls [])) ?_ _ hlpe2 _ _ _ hH (lv_sub hl [2, 3, 1, 0] rfl)
  clear h hlpe2
  intro s1 x3 h ihe2 hee2 H locs ls hH hl
  refine lv_iload_n K.x K.b dX8_isOf_5 rfl (lv_at hl 3 rfl) ?_
  refine lv_aload_n K.x K.b dX8_isOf_6 rfl (lv_at hl 0 rfl) ?_
  refine z_get K hH 0 rfl zin_8 rfl 0 (by decide) tw_4_96 (v := .ref o_w) rfl dX8_isOf_7 ?_
  refine lv_sipush (v := (447)) K.x K.b dX8_isOf_10 (by decide) ?_
  refine z_iald K hH 1 (k := 447) rfl (by decide) rfl dX8_isOf_13 ?_
  refine lv_icmp_ge (tgt := 108) K.x K.b dX8_isOf_14 (by decide) (fun c4 => ?_) (fun c4 => ?_)
  · replace h := z_t c4 h
    obtain rfl := hee2 _ (Option.some.inj h).symm
    exact KEe2 _ _ _ hH (lv_sub hl [2] rfl)
  · replace h := z_f c4 h
    refine lv_sipush (v := (423)) K.x K.b dX8_isOf_17 (by decide) ?_
    refine lv_iconst (v := (4)) K.x K.b dX8_isOf_20 (by decide) ?_
    refine lv_iload_n K.x K.b dX8_isOf_21 rfl (lv_at hl 3 rfl) ?_
    refine lv_imul K.x K.b dX8_isOf_22 ?_
    refine lv_iadd K.x K.b dX8_isOf_23 ?_
    obtain ⟨x5, ex5, h⟩ := z_lt_e h
    refine z_nm ex5 ?_
    refine lv_istore (lv' := [(4, .int x5), (0, .ref o), (1, .int p1), (2, .int s1.2), (3, .int s1.1)]) K.x K.b dX8_isOf_24 hl (by decide) rfl (fun ls hl => ?_)
    refine lv_iconst (v := (0)) K.x K.b dX8_isOf_26 (by decide) ?_
    refine lv_istore (lv' := [(5, .int (0 : Int32)), (4, .int x5), (0, .ref o), (1, .int p1), (2, .int s1.2), (3, .int s1.1)]) K.x K.b dX8_isOf_27 hl (by decide) rfl (fun ls hl => ?_)
    obtain ⟨e7, hlpe7, h⟩ := z_bd_e h
    have KEe7 : ∀ (H : Heap) (locs : List Loc) (ls : Array Slot), z_H D A s.heap [(o, .inr (7, [.ref o_w, g_kept, g_text, g_size, g_above, g_below, g_bads, g_noes, g_fulls, g_at, g_from, g_token, g_value, g_readFault, g_yet, g_fars, g_tells])), (o_w, .inl (y 0, 1960, .inl f_w))] H locs → lv_has ls 6 [(0, .ref o), (1, .int p1), (2, .int e7), (3, .int s1.1)] → W p l e (zR 2 45) s m args below meth c H locs 0 0 Q (F0 m 102 ls []) := by
      intro H locs ls hH hl
      obtain ⟨x8, ex8, h⟩ := z_lt_e h
      refine lv_iinc (v := x8) (lv' := [(3, .int x8), (0, .ref o), (1, .int p1), (2, .int e7)]) K.x K.b dX8_isOf_102 hl (k := 3) rfl (by rw [ex8]; rfl) (by decide) rfl (fun ls hl => ?_)
      refine lv_goto (tgt := 5) K.x K.b dX8_isOf_105 (by decide) ?_
      exact ihe2 _ (Option.some.inj h).symm _ _ _ hH (lv_sub hl [1, 2, 3, 0] rfl)
    refine z_lp_ind (P := fun (s6 : Int32 × Int32) => ∀ (H : Heap) (locs : List Loc) (ls : Array Slot), z_H D A s.heap [(o, .inr (7, [.ref o_w, g_kept, g_text, g_size, g_above, g_below, g_bads, g_noes, g_fulls, g_at, g_from, g_token, g_value, g_readFault, g_yet, g_fars, g_tells])), (o_w, .inl (y 0, 1960, .inl f_w))] H locs → lv_has ls 6 [(0, .ref o), (1, .int p1), (2, .int s6.2), (3, .int s1.1), (4, .int x5), (5, .int s6.1)] → W p l e (zR 2 45) s m args below meth c H locs 0 0 Q (F0 m 29 ls [])) ?_ _ hlpe7 _ _ _ hH (lv_sub hl [2, 3, 4, 5, 1, 0] rfl)
    clear h hlpe7
    intro s6 x9 h ihe7 hee7 H locs ls hH hl
    refine lv_iload K.x K.b dX8_isOf_29 (lv_at hl 5 rfl) ?_
    refine lv_bipush (v := (6)) K.x K.b dX8_isOf_31 (by decide) ?_
    refine lv_icmp_ge (tgt := 102) K.x K.b dX8_isOf_33 (by decide) (fun c10 => ?_) (fun c10 => ?_)
    · replace h := z_t c10 h
      obtain rfl := hee7 _ (Option.some.inj h).symm
      exact KEe7 _ _ _ hH (lv_sub hl [0, 1, 2, 3] rfl)
    · replace h := z_f c10 h
      refine lv_aload_n K.x K.b dX8_isOf_36 rfl (lv_at hl 0 rfl) ?_
      refine z_get K hH 0 rfl zin_8 rfl 0 (by decide) tw_4_96 (v := .ref o_w) rfl dX8_isOf_37 ?_
      refine lv_iload K.x K.b dX8_isOf_40 (lv_at hl 4 rfl) ?_
      obtain ⟨g11, h⟩ := z_gd_e h
      refine z_iald K hH 1 (k := x5.toNatClampNeg) rfl g11 rfl dX8_isOf_42 ?_
      refine lv_iload_n K.x K.b dX8_isOf_43 rfl (lv_at hl 1 rfl) ?_
      refine lv_icmp_ne (tgt := 102) K.x K.b dX8_isOf_44 (by decide) (fun c12 => ?_) (fun c12 => ?_)
      · replace h := z_f c12 h
        obtain rfl := hee7 _ (Option.some.inj h).symm
        exact KEe7 _ _ _ hH (lv_sub hl [0, 1, 2, 3] rfl)
      · replace h := z_t c12 h
        refine lv_iload_n K.x K.b dX8_isOf_47 rfl (lv_at hl 2 rfl) ?_
        refine lv_iload K.x K.b dX8_isOf_48 (lv_at hl 5 rfl) ?_
        refine lv_aload_n K.x K.b dX8_isOf_50 rfl (lv_at hl 0 rfl) ?_
        refine z_get K hH 0 rfl zin_8 rfl 0 (by decide) tw_4_96 (v := .ref o_w) rfl dX8_isOf_51 ?_
        refine lv_iload K.x K.b dX8_isOf_54 (lv_at hl 4 rfl) ?_
        refine lv_iconst (v := (1)) K.x K.b dX8_isOf_56 (by decide) ?_
        refine lv_iadd K.x K.b dX8_isOf_57 ?_
        obtain ⟨x13, ex13, h⟩ := z_lt_e h
        refine z_nm ex13 ?_
        obtain ⟨g14, h⟩ := z_gd_e h
        refine z_iald K hH 1 (k := x13.toNatClampNeg) rfl g14 rfl dX8_isOf_58 ?_
        refine lv_aload_n K.x K.b dX8_isOf_59 rfl (lv_at hl 0 rfl) ?_
        refine z_get K hH 0 rfl zin_8 rfl 0 (by decide) tw_4_96 (v := .ref o_w) rfl dX8_isOf_60 ?_
        refine lv_iload K.x K.b dX8_isOf_63 (lv_at hl 4 rfl) ?_
        refine lv_iconst (v := (2)) K.x K.b dX8_isOf_65 (by decide) ?_
        refine lv_iadd K.x K.b dX8_isOf_66 ?_
        obtain ⟨x15, ex15, h⟩ := z_lt_e h
        refine z_nm ex15 ?_
        obtain ⟨g16, h⟩ := z_gd_e h
        refine z_iald K hH 1 (k := x15.toNatClampNeg) rfl g16 rfl dX8_isOf_67 ?_
        obtain ⟨x17, ex17, h⟩ := z_lt_e h
        refine z_nm ex17 ?_
        obtain ⟨x18, ex18, h⟩ := z_lt_e h
        refine z_nm2 ex18 ?_
        obtain ⟨r19, hr20, h⟩ := z_bd_e h
        refine z_Si K hH hl.1 (c_X8_farOf l D y s6.1 x18 x17 r19 hr20) (z_cwS K 3 tw_5_37 tw_5_38 tw_1_8 tw_5_39 hd_X8_farOf ⟨by decide, by decide⟩) rfl (As := [.int s6.1, .int x18, .int x17]) (rest := [.int s6.2]) rfl (Nat.le_of_ble_eq_true rfl) ⟨Nat.zero_le _, Nat.zero_le _⟩ dX8_isOf_68 (fun H locs hH => ?_)
        refine lv_aload_n K.x K.b dX8_isOf_71 rfl (lv_at hl 0 rfl) ?_
        refine z_get K hH 0 rfl zin_8 rfl 0 (by decide) tw_4_96 (v := .ref o_w) rfl dX8_isOf_72 ?_
        refine lv_iload K.x K.b dX8_isOf_75 (lv_at hl 4 rfl) ?_
        refine lv_iconst (v := (3)) K.x K.b dX8_isOf_77 (by decide) ?_
        refine lv_iadd K.x K.b dX8_isOf_78 ?_
        obtain ⟨x21, ex21, h⟩ := z_lt_e h
        refine z_nm ex21 ?_
        obtain ⟨g22, h⟩ := z_gd_e h
        refine z_iald K hH 1 (k := x21.toNatClampNeg) rfl g22 rfl dX8_isOf_79 ?_
        obtain ⟨j23, hj23, h⟩ := z_bd_e h
        have Kj23 : ∀ (H : Heap) (locs : List Loc) (ls : Array Slot), z_H D A s.heap [(o, .inr (7, [.ref o_w, g_kept, g_text, g_size, g_above, g_below, g_bads, g_noes, g_fulls, g_at, g_from, g_token, g_value, g_readFault, g_yet, g_fars, g_tells])), (o_w, .inl (y 0, 1960, .inl f_w))] H locs → lv_has ls 6 [(0, .ref o), (1, .int p1), (3, .int s1.1), (4, .int x5), (5, .int s6.1)] → W p l e (zR 2 45) s m args below meth c H locs 0 0 Q (F0 m 94 ls [.int j23, .int s6.2]) := by
          intro H locs ls hH hl
          refine lv_iand K.x K.b dX8_isOf_94 ?_
          obtain ⟨x24, ex24, h⟩ := z_lt_e h
          refine z_nm ex24 ?_
          refine lv_istore_n (lv' := [(2, .int x24), (0, .ref o), (1, .int p1), (3, .int s1.1), (4, .int x5), (5, .int s6.1)]) K.x K.b dX8_isOf_95 rfl hl (by decide) rfl (fun ls hl => ?_)
          obtain ⟨x25, ex25, h⟩ := z_lt_e h
          refine lv_iinc (v := x25) (lv' := [(5, .int x25), (2, .int x24), (0, .ref o), (1, .int p1), (3, .int s1.1), (4, .int x5)]) K.x K.b dX8_isOf_96 hl (k := 5) rfl (by rw [ex25]; rfl) (by decide) rfl (fun ls hl => ?_)
          refine lv_goto (tgt := 29) K.x K.b dX8_isOf_99 (by decide) ?_
          exact ihe7 _ (Option.some.inj h).symm _ _ _ hH (lv_sub hl [2, 3, 1, 4, 5, 0] rfl)
        replace h := hj23
        refine lv_icmp_ne (tgt := 88) K.x K.b dX8_isOf_80 (by decide) (fun c26 => ?_) (fun c26 => ?_)
        · replace h := z_f c26 h
          refine lv_iconst (v := (1)) K.x K.b dX8_isOf_88 (by decide) ?_
          refine lv_iload K.x K.b dX8_isOf_89 (lv_at hl 5 rfl) ?_
          refine lv_ishl K.x K.b dX8_isOf_91 ?_
          refine lv_iconst (v := (-1)) K.x K.b dX8_isOf_92 (by decide) ?_
          refine lv_ixor K.x K.b dX8_isOf_93 ?_
          obtain rfl := Option.some.inj h
          exact Kj23 _ _ _ hH (lv_sub hl [0, 1, 3, 4, 5] rfl)
        · replace h := z_t c26 h
          refine lv_bipush (v := (63)) K.x K.b dX8_isOf_83 (by decide) ?_
          refine lv_goto (tgt := 94) K.x K.b dX8_isOf_85 (by decide) ?_
          obtain rfl := Option.some.inj h
          exact Kj23 _ _ _ hH (lv_sub hl [0, 1, 3, 4, 5] rfl)
noncomputable def p_X8_kindsOf (f_w : (Nat → Int32)) (p1 : Int32) : Option (Int32) :=
  z_bd (z_lp (S := Int32 × Int32) (E := Int32) (fun s1 =>
  if ((f_w 478) ≤ s1.1) then
  (some (.inr s1.2)) else
  (z_lt (((448 : Int32) + ((5 : Int32) * s1.1))) fun x5 =>
  z_bd (z_lp (S := Int32 × Int32) (E := Int32) (fun s6 =>
  if ((6 : Int32) ≤ s6.1) then
  (some (.inr s6.2)) else
  (z_gd (z_in x5 1960) <|
  if ((f_w x5.toNatClampNeg) = p1) then
  (z_lt ((x5 + (1 : Int32))) fun x13 =>
  z_gd (z_in x13 1960) <|
  z_lt ((x5 + (2 : Int32))) fun x15 =>
  z_gd (z_in x15 1960) <|
  z_lt ((x5 + (3 : Int32))) fun x17 =>
  z_gd (z_in x17 1960) <|
  z_lt ((f_w x17.toNatClampNeg)) fun x19 =>
  z_lt ((f_w x15.toNatClampNeg)) fun x20 =>
  z_lt ((f_w x13.toNatClampNeg)) fun x21 =>
  z_bd (p_X8_madeOf s6.1 x21 x20 x19) fun r22 =>
  z_lt ((x5 + (4 : Int32))) fun x24 =>
  z_gd (z_in x24 1960) <|
  z_bd (α := Int32) (if (r22 = (f_w x24.toNatClampNeg)) then
  (some (63 : Int32)) else
  (some (((1 : Int32) <<< (s6.1 &&& 31)) ^^^ (-1 : Int32)))) fun j26 =>
  z_lt ((s6.2 &&& j26)) fun x27 =>
  z_lt (s6.1 + (1 : Int32)) fun x28 =>
  some (.inl (x28, x27))) else
  (some (.inr s6.2)))) ((0 : Int32), s1.2)) fun e7 =>
  z_lt (s1.1 + (1 : Int32)) fun x8 =>
  some (.inl (x8, e7)))) ((0 : Int32), (63 : Int32))) fun e2 =>
  some e2
theorem hd_X8_kindsOf : yX8_kindsOf.cls = RX8 ∧ yX8_kindsOf.cls ≠ "java/lang/invoke/MethodHandle" ∧ yX8_kindsOf.cls ≠ "java/lang/invoke/VarHandle" ∧ (parseMethodDescriptor yX8_kindsOf.desc).map (fun d => d.parameters.length) = some 1 := by decide +kernel
set_option maxHeartbeats 4000000 in
set_option maxRecDepth 100000 in
theorem c_X8_kindsOf (l : Launch) (D : va_G) (y : Nat → ClassId) (o o_w : Nat) (g_kept g_text g_size g_above g_below g_bads g_noes g_fulls g_at g_from g_token g_value g_readFault g_yet g_fars g_tells : Value) (f_w : (Nat → Int32)) (p1 : Int32) (r : Int32) (h : p_X8_kindsOf f_w p1 = some r) : z_MI l yX8_kindsOf cX8_kindsOf 6 (some .int) 2 46 D y [.ref o, .int p1] [(o, .inr (7, [.ref o_w, g_kept, g_text, g_size, g_above, g_below, g_bads, g_noes, g_fulls, g_at, g_from, g_token, g_value, g_readFault, g_yet, g_fars, g_tells])), (o_w, .inl (y 0, 1960, .inl f_w))] r [(o, .inr (7, [.ref o_w, g_kept, g_text, g_size, g_above, g_below, g_bads, g_noes, g_fulls, g_at, g_from, g_token, g_value, g_readFault, g_yet, g_fars, g_tells])), (o_w, .inl (y 0, 1960, .inl f_w))] := by
  unfold p_X8_kindsOf at h
  refine z_enI (by decide) (Nat.le_of_ble_eq_true rfl) ?_
  intro p e s m args below meth c A ls hr K hH hl
  obtain ⟨Q, hQ⟩ : ∃ Q, Q = MQ below (z_Qi D y A r [(o, .inr (7, [.ref o_w, g_kept, g_text, g_size, g_above, g_below, g_bads, g_noes, g_fulls, g_at, g_from, g_token, g_value, g_readFault, g_yet, g_fars, g_tells])), (o_w, .inl (y 0, 1960, .inl f_w))]) args s 0 0 A := ⟨_, rfl⟩
  rw [← hQ]
  have hl : lv_has ls 6 [(0, .ref o), (1, .int p1)] := hl
  refine lv_bipush (v := (63)) K.x K.b dX8_kindsOf_0 (by decide) ?_
  refine lv_istore_n (lv' := [(2, .int (63 : Int32)), (0, .ref o), (1, .int p1)]) K.x K.b dX8_kindsOf_2 rfl hl (by decide) rfl (fun ls hl => ?_)
  refine lv_iconst (v := (0)) K.x K.b dX8_kindsOf_3 (by decide) ?_
  refine lv_istore_n (lv' := [(3, .int (0 : Int32)), (2, .int (63 : Int32)), (0, .ref o), (1, .int p1)]) K.x K.b dX8_kindsOf_4 rfl hl (by decide) rfl (fun ls hl => ?_)
  obtain ⟨e2, hlpe2, h⟩ := z_bd_e h
  have KEe2 : ∀ (H : Heap) (locs : List Loc) (ls : Array Slot), z_H D A s.heap [(o, .inr (7, [.ref o_w, g_kept, g_text, g_size, g_above, g_below, g_bads, g_noes, g_fulls, g_at, g_from, g_token, g_value, g_readFault, g_yet, g_fars, g_tells])), (o_w, .inl (y 0, 1960, .inl f_w))] H locs → lv_has ls 6 [(2, .int e2)] → W p l e (zR 2 46) s m args below meth c H locs 0 0 Q (F0 m 117 ls []) := by
    intro H locs ls hH hl
    refine lv_iload_n K.x K.b dX8_kindsOf_117 rfl (lv_at hl 0 rfl) ?_
    have hr9 := Option.some.inj h
    obtain rfl := hr9
    rw [hQ]
    exact z_reti K hr hH [0, 1] (by decide) rfl rfl rfl dX8_kindsOf_118
  refine z_lp_ind (P := fun (s1 : Int32 × Int32) => ∀ (H : Heap) (locs : List Loc) (ls : Array Slot), z_H D A s.heap [(o, .inr (7, [.ref o_w, g_kept, g_text, g_size, g_above, g_below, g_bads, g_noes, g_fulls, g_at, g_from, g_token, g_value, g_readFault, g_yet, g_fars, g_tells])), (o_w, .inl (y 0, 1960, .inl f_w))] H locs → lv_has ls 6 [(0, .ref o), (1, .int p1), (2, .int s1.2), (3, .int s1.1)] → W p l e (zR 2 46) s m args below meth c H locs 0 0 Q (F0 m 5 ls [])) ?_ _ hlpe2 _ _ _ hH (lv_sub hl [2, 3, 1, 0] rfl)
  clear h hlpe2
  intro s1 x3 h ihe2 hee2 H locs ls hH hl
  refine lv_iload_n K.x K.b dX8_kindsOf_5 rfl (lv_at hl 3 rfl) ?_
  refine lv_aload_n K.x K.b dX8_kindsOf_6 rfl (lv_at hl 0 rfl) ?_
  refine z_get K hH 0 rfl zin_8 rfl 0 (by decide) tw_4_96 (v := .ref o_w) rfl dX8_kindsOf_7 ?_
  refine lv_sipush (v := (478)) K.x K.b dX8_kindsOf_10 (by decide) ?_
  refine z_iald K hH 1 (k := 478) rfl (by decide) rfl dX8_kindsOf_13 ?_
  refine lv_icmp_ge (tgt := 117) K.x K.b dX8_kindsOf_14 (by decide) (fun c4 => ?_) (fun c4 => ?_)
  · replace h := z_t c4 h
    obtain rfl := hee2 _ (Option.some.inj h).symm
    exact KEe2 _ _ _ hH (lv_sub hl [2] rfl)
  · replace h := z_f c4 h
    refine lv_sipush (v := (448)) K.x K.b dX8_kindsOf_17 (by decide) ?_
    refine lv_iconst (v := (5)) K.x K.b dX8_kindsOf_20 (by decide) ?_
    refine lv_iload_n K.x K.b dX8_kindsOf_21 rfl (lv_at hl 3 rfl) ?_
    refine lv_imul K.x K.b dX8_kindsOf_22 ?_
    refine lv_iadd K.x K.b dX8_kindsOf_23 ?_
    obtain ⟨x5, ex5, h⟩ := z_lt_e h
    refine z_nm ex5 ?_
    refine lv_istore (lv' := [(4, .int x5), (0, .ref o), (1, .int p1), (2, .int s1.2), (3, .int s1.1)]) K.x K.b dX8_kindsOf_24 hl (by decide) rfl (fun ls hl => ?_)
    refine lv_iconst (v := (0)) K.x K.b dX8_kindsOf_26 (by decide) ?_
    refine lv_istore (lv' := [(5, .int (0 : Int32)), (4, .int x5), (0, .ref o), (1, .int p1), (2, .int s1.2), (3, .int s1.1)]) K.x K.b dX8_kindsOf_27 hl (by decide) rfl (fun ls hl => ?_)
    obtain ⟨e7, hlpe7, h⟩ := z_bd_e h
    have KEe7 : ∀ (H : Heap) (locs : List Loc) (ls : Array Slot), z_H D A s.heap [(o, .inr (7, [.ref o_w, g_kept, g_text, g_size, g_above, g_below, g_bads, g_noes, g_fulls, g_at, g_from, g_token, g_value, g_readFault, g_yet, g_fars, g_tells])), (o_w, .inl (y 0, 1960, .inl f_w))] H locs → lv_has ls 6 [(0, .ref o), (1, .int p1), (2, .int e7), (3, .int s1.1)] → W p l e (zR 2 46) s m args below meth c H locs 0 0 Q (F0 m 111 ls []) := by
      intro H locs ls hH hl
      obtain ⟨x8, ex8, h⟩ := z_lt_e h
      refine lv_iinc (v := x8) (lv' := [(3, .int x8), (0, .ref o), (1, .int p1), (2, .int e7)]) K.x K.b dX8_kindsOf_111 hl (k := 3) rfl (by rw [ex8]; rfl) (by decide) rfl (fun ls hl => ?_)
      refine lv_goto (tgt := 5) K.x K.b dX8_kindsOf_114 (by decide) ?_
      exact ihe2 _ (Option.some.inj h).symm _ _ _ hH (lv_sub hl [1, 2, 3, 0] rfl)
    refine z_lp_ind (P := fun (s6 : Int32 × Int32) => ∀ (H : Heap) (locs : List Loc) (ls : Array Slot), z_H D A s.heap [(o, .inr (7, [.ref o_w, g_kept, g_text, g_size, g_above, g_below, g_bads, g_noes, g_fulls, g_at, g_from, g_token, g_value, g_readFault, g_yet, g_fars, g_tells])), (o_w, .inl (y 0, 1960, .inl f_w))] H locs → lv_has ls 6 [(0, .ref o), (1, .int p1), (2, .int s6.2), (3, .int s1.1), (4, .int x5), (5, .int s6.1)] → W p l e (zR 2 46) s m args below meth c H locs 0 0 Q (F0 m 29 ls [])) ?_ _ hlpe7 _ _ _ hH (lv_sub hl [2, 3, 4, 5, 1, 0] rfl)
    clear h hlpe7
    intro s6 x9 h ihe7 hee7 H locs ls hH hl
    refine lv_iload K.x K.b dX8_kindsOf_29 (lv_at hl 5 rfl) ?_
    refine lv_bipush (v := (6)) K.x K.b dX8_kindsOf_31 (by decide) ?_
    refine lv_icmp_ge (tgt := 111) K.x K.b dX8_kindsOf_33 (by decide) (fun c10 => ?_) (fun c10 => ?_)
    · replace h := z_t c10 h
      obtain rfl := hee7 _ (Option.some.inj h).symm
      exact KEe7 _ _ _ hH (lv_sub hl [0, 1, 2, 3] rfl)
    · replace h := z_f c10 h
      refine lv_aload_n K.x K.b dX8_kindsOf_36 rfl (lv_at hl 0 rfl) ?_
      refine z_get K hH 0 rfl zin_8 rfl 0 (by decide) tw_4_96 (v := .ref o_w) rfl dX8_kindsOf_37 ?_
      refine lv_iload K.x K.b dX8_kindsOf_40 (lv_at hl 4 rfl) ?_
      obtain ⟨g11, h⟩ := z_gd_e h
      refine z_iald K hH 1 (k := x5.toNatClampNeg) rfl g11 rfl dX8_kindsOf_42 ?_
      refine lv_iload_n K.x K.b dX8_kindsOf_43 rfl (lv_at hl 1 rfl) ?_
      refine lv_icmp_ne (tgt := 111) K.x K.b dX8_kindsOf_44 (by decide) (fun c12 => ?_) (fun c12 => ?_)
      · replace h := z_f c12 h
        obtain rfl := hee7 _ (Option.some.inj h).symm
        exact KEe7 _ _ _ hH (lv_sub hl [0, 1, 2, 3] rfl)
      · replace h := z_t c12 h
        refine lv_iload_n K.x K.b dX8_kindsOf_47 rfl (lv_at hl 2 rfl) ?_
        refine lv_iload K.x K.b dX8_kindsOf_48 (lv_at hl 5 rfl) ?_
        refine lv_aload_n K.x K.b dX8_kindsOf_50 rfl (lv_at hl 0 rfl) ?_
        refine z_get K hH 0 rfl zin_8 rfl 0 (by decide) tw_4_96 (v := .ref o_w) rfl dX8_kindsOf_51 ?_
        refine lv_iload K.x K.b dX8_kindsOf_54 (lv_at hl 4 rfl) ?_
        refine lv_iconst (v := (1)) K.x K.b dX8_kindsOf_56 (by decide) ?_
        refine lv_iadd K.x K.b dX8_kindsOf_57 ?_
        obtain ⟨x13, ex13, h⟩ := z_lt_e h
        refine z_nm ex13 ?_
        obtain ⟨g14, h⟩ := z_gd_e h
        refine z_iald K hH 1 (k := x13.toNatClampNeg) rfl g14 rfl dX8_kindsOf_58 ?_
        refine lv_aload_n K.x K.b dX8_kindsOf_59 rfl (lv_at hl 0 rfl) ?_
        refine z_get K hH 0 rfl zin_8 rfl 0 (by decide) tw_4_96 (v := .ref o_w) rfl dX8_kindsOf_60 ?_
        refine lv_iload K.x K.b dX8_kindsOf_63 (lv_at hl 4 rfl) ?_
        refine lv_iconst (v := (2)) K.x K.b dX8_kindsOf_65 (by decide) ?_
        refine lv_iadd K.x K.b dX8_kindsOf_66 ?_
        obtain ⟨x15, ex15, h⟩ := z_lt_e h
        refine z_nm ex15 ?_
        obtain ⟨g16, h⟩ := z_gd_e h
        refine z_iald K hH 1 (k := x15.toNatClampNeg) rfl g16 rfl dX8_kindsOf_67 ?_
        refine lv_aload_n K.x K.b dX8_kindsOf_68 rfl (lv_at hl 0 rfl) ?_
        refine z_get K hH 0 rfl zin_8 rfl 0 (by decide) tw_4_96 (v := .ref o_w) rfl dX8_kindsOf_69 ?_
        refine lv_iload K.x K.b dX8_kindsOf_72 (lv_at hl 4 rfl) ?_
        refine lv_iconst (v := (3)) K.x K.b dX8_kindsOf_74 (by decide) ?_
        refine lv_iadd K.x K.b dX8_kindsOf_75 ?_
        obtain ⟨x17, ex17, h⟩ := z_lt_e h
        refine z_nm ex17 ?_
        obtain ⟨g18, h⟩ := z_gd_e h
        refine z_iald K hH 1 (k := x17.toNatClampNeg) rfl g18 rfl dX8_kindsOf_76 ?_
        obtain ⟨x19, ex19, h⟩ := z_lt_e h
        refine z_nm ex19 ?_
        obtain ⟨x20, ex20, h⟩ := z_lt_e h
        refine z_nm2 ex20 ?_
        obtain ⟨x21, ex21, h⟩ := z_lt_e h
        refine z_nm3 ex21 ?_
        obtain ⟨r22, hr23, h⟩ := z_bd_e h
        refine z_Si K hH hl.1 (c_X8_madeOf l D y s6.1 x21 x20 x19 r22 hr23) (z_cwS K 4 tw_5_31 tw_5_32 tw_1_8 tw_5_33 hd_X8_madeOf ⟨by decide, by decide⟩) rfl (As := [.int s6.1, .int x21, .int x20, .int x19]) (rest := [.int s6.2]) rfl (Nat.le_of_ble_eq_true rfl) ⟨Nat.zero_le _, Nat.zero_le _⟩ dX8_kindsOf_77 (fun H locs hH => ?_)
        refine lv_aload_n K.x K.b dX8_kindsOf_80 rfl (lv_at hl 0 rfl) ?_
        refine z_get K hH 0 rfl zin_8 rfl 0 (by decide) tw_4_96 (v := .ref o_w) rfl dX8_kindsOf_81 ?_
        refine lv_iload K.x K.b dX8_kindsOf_84 (lv_at hl 4 rfl) ?_
        refine lv_iconst (v := (4)) K.x K.b dX8_kindsOf_86 (by decide) ?_
        refine lv_iadd K.x K.b dX8_kindsOf_87 ?_
        obtain ⟨x24, ex24, h⟩ := z_lt_e h
        refine z_nm ex24 ?_
        obtain ⟨g25, h⟩ := z_gd_e h
        refine z_iald K hH 1 (k := x24.toNatClampNeg) rfl g25 rfl dX8_kindsOf_88 ?_
        obtain ⟨j26, hj26, h⟩ := z_bd_e h
        have Kj26 : ∀ (H : Heap) (locs : List Loc) (ls : Array Slot), z_H D A s.heap [(o, .inr (7, [.ref o_w, g_kept, g_text, g_size, g_above, g_below, g_bads, g_noes, g_fulls, g_at, g_from, g_token, g_value, g_readFault, g_yet, g_fars, g_tells])), (o_w, .inl (y 0, 1960, .inl f_w))] H locs → lv_has ls 6 [(0, .ref o), (1, .int p1), (3, .int s1.1), (4, .int x5), (5, .int s6.1)] → W p l e (zR 2 46) s m args below meth c H locs 0 0 Q (F0 m 103 ls [.int j26, .int s6.2]) := by
          intro H locs ls hH hl
          refine lv_iand K.x K.b dX8_kindsOf_103 ?_
          obtain ⟨x27, ex27, h⟩ := z_lt_e h
          refine z_nm ex27 ?_
          refine lv_istore_n (lv' := [(2, .int x27), (0, .ref o), (1, .int p1), (3, .int s1.1), (4, .int x5), (5, .int s6.1)]) K.x K.b dX8_kindsOf_104 rfl hl (by decide) rfl (fun ls hl => ?_)
          obtain ⟨x28, ex28, h⟩ := z_lt_e h
          refine lv_iinc (v := x28) (lv' := [(5, .int x28), (2, .int x27), (0, .ref o), (1, .int p1), (3, .int s1.1), (4, .int x5)]) K.x K.b dX8_kindsOf_105 hl (k := 5) rfl (by rw [ex28]; rfl) (by decide) rfl (fun ls hl => ?_)
          refine lv_goto (tgt := 29) K.x K.b dX8_kindsOf_108 (by decide) ?_
          exact ihe7 _ (Option.some.inj h).symm _ _ _ hH (lv_sub hl [2, 3, 1, 4, 5, 0] rfl)
        replace h := hj26
        refine lv_icmp_ne (tgt := 97) K.x K.b dX8_kindsOf_89 (by decide) (fun c29 => ?_) (fun c29 => ?_)
        · replace h := z_f c29 h
          refine lv_iconst (v := (1)) K.x K.b dX8_kindsOf_97 (by decide) ?_
          refine lv_iload K.x K.b dX8_kindsOf_98 (lv_at hl 5 rfl) ?_
          refine lv_ishl K.x K.b dX8_kindsOf_100 ?_
          refine lv_iconst (v := (-1)) K.x K.b dX8_kindsOf_101 (by decide) ?_
          refine lv_ixor K.x K.b dX8_kindsOf_102 ?_
          obtain rfl := Option.some.inj h
          exact Kj26 _ _ _ hH (lv_sub hl [0, 1, 3, 4, 5] rfl)
        · replace h := z_t c29 h
          refine lv_bipush (v := (63)) K.x K.b dX8_kindsOf_92 (by decide) ?_
          refine lv_goto (tgt := 103) K.x K.b dX8_kindsOf_94 (by decide) ?_
          obtain rfl := Option.some.inj h
          exact Kj26 _ _ _ hH (lv_sub hl [0, 1, 3, 4, 5] rfl)
noncomputable def p_X8_is (v_bads : Int32) (f_w : (Nat → Int32)) (p1 : Int32) : Option (Int32 × Int32) :=
  z_bd (p_X8_isPlace f_w p1) fun r1 =>
  z_bd (α := Int32 × Int32) (if (r1 = 0) then
  (z_bd (p_X8_bad v_bads) fun r5 =>
  some (r5.1, r5.2)) else
  (z_bd (p_X8_isOf f_w p1) fun r7 =>
  some (r7, v_bads))) fun j3 =>
  some (j3.1, j3.2)
theorem hd_X8_is : yX8_is.cls = RX8 ∧ yX8_is.cls ≠ "java/lang/invoke/MethodHandle" ∧ yX8_is.cls ≠ "java/lang/invoke/VarHandle" ∧ (parseMethodDescriptor yX8_is.desc).map (fun d => d.parameters.length) = some 1 := by decide +kernel
set_option maxHeartbeats 4000000 in
set_option maxRecDepth 100000 in
theorem c_X8_is (l : Launch) (D : va_G) (y : Nat → ClassId) (o o_w : Nat) (g_kept g_text g_size g_above g_below g_noes g_fulls g_at g_from g_token g_value g_readFault g_yet g_fars g_tells : Value) (v_bads : Int32) (f_w : (Nat → Int32)) (p1 : Int32) (r : Int32 × Int32) (h : p_X8_is v_bads f_w p1 = some r) : z_MI l yX8_is cX8_is 2 (some .int) 3 70 D y [.ref o, .int p1] [(o, .inr (7, [.ref o_w, g_kept, g_text, g_size, g_above, g_below, .int v_bads, g_noes, g_fulls, g_at, g_from, g_token, g_value, g_readFault, g_yet, g_fars, g_tells])), (o_w, .inl (y 0, 1960, .inl f_w))] r.1 [(o, .inr (7, [.ref o_w, g_kept, g_text, g_size, g_above, g_below, .int r.2, g_noes, g_fulls, g_at, g_from, g_token, g_value, g_readFault, g_yet, g_fars, g_tells])), (o_w, .inl (y 0, 1960, .inl f_w))] := by
  unfold p_X8_is at h
  refine z_enI (by decide) (Nat.le_of_ble_eq_true rfl) ?_
  intro p e s m args below meth c A ls hr K hH hl
  obtain ⟨Q, hQ⟩ : ∃ Q, Q = MQ below (z_Qi D y A r.1 [(o, .inr (7, [.ref o_w, g_kept, g_text, g_size, g_above, g_below, .int r.2, g_noes, g_fulls, g_at, g_from, g_token, g_value, g_readFault, g_yet, g_fars, g_tells])), (o_w, .inl (y 0, 1960, .inl f_w))]) args s 0 0 A := ⟨_, rfl⟩
  rw [← hQ]
  have hl : lv_has ls 2 [(0, .ref o), (1, .int p1)] := hl
  refine lv_aload_n K.x K.b dX8_is_0 rfl (lv_at hl 0 rfl) ?_
  refine lv_iload_n K.x K.b dX8_is_1 rfl (lv_at hl 1 rfl) ?_
  obtain ⟨r1, hr2, h⟩ := z_bd_e h
  refine z_Vi K hH hl.1 (c_X8_isPlace l D y o o_w (g_kept) (g_text) (g_size) (g_above) (g_below) (.int v_bads) (g_noes) (g_fulls) (g_at) (g_from) (g_token) (g_value) (g_readFault) (g_yet) (g_fars) (g_tells) f_w p1 r1 hr2) (z_cwV K 1 tw_4_179 tw_4_181 tw_0_40 tw_1_8 tw_4_182 hd_X8_isPlace ⟨by decide, by decide⟩) [0, 1] [] rfl (wr := []) rfl rfl rfl (by decide) rfl rfl rfl (As := [.int p1]) (rest := []) rfl (Nat.le_of_ble_eq_true rfl) ⟨Nat.zero_le _, Nat.zero_le _⟩ dX8_is_2 (ws' := [(o, .inr (7, [.ref o_w, g_kept, g_text, g_size, g_above, g_below, .int v_bads, g_noes, g_fulls, g_at, g_from, g_token, g_value, g_readFault, g_yet, g_fars, g_tells])), (o_w, .inl (y 0, 1960, .inl f_w))]) rfl (fun H locs hH => ?_)
  obtain ⟨j3, hj3, h⟩ := z_bd_e h
  have Kj3 : ∀ (H : Heap) (locs : List Loc) (ls : Array Slot), z_H D A s.heap [(o, .inr (7, [.ref o_w, g_kept, g_text, g_size, g_above, g_below, .int j3.2, g_noes, g_fulls, g_at, g_from, g_token, g_value, g_readFault, g_yet, g_fars, g_tells])), (o_w, .inl (y 0, 1960, .inl f_w))] H locs → lv_has ls 2 [] → W p l e (zR 3 70) s m args below meth c H locs 0 0 Q (F0 m 20 ls [.int j3.1]) := by
    intro H locs ls hH hl
    have hr9 := Option.some.inj h
    obtain rfl := hr9
    rw [hQ]
    exact z_reti K hr hH [0, 1] (by decide) rfl rfl rfl dX8_is_20
  replace h := hj3
  refine lv_if_eq (tgt := 16) K.x K.b dX8_is_5 (by decide) (fun c4 => ?_) (fun c4 => ?_)
  · replace h := z_t c4 h
    refine lv_aload_n K.x K.b dX8_is_16 rfl (lv_at hl 0 rfl) ?_
    obtain ⟨r5, hr6, h⟩ := z_bd_e h
    refine z_Vi K hH hl.1 (c_X8_bad l D y o (.ref o_w) (g_kept) (g_text) (g_size) (g_above) (g_below) (g_noes) (g_fulls) (g_at) (g_from) (g_token) (g_value) (g_readFault) (g_yet) (g_fars) (g_tells) v_bads r5 hr6) (z_cwV K 0 tw_4_163 tw_4_165 tw_0_37 tw_1_8 tw_4_166 hd_X8_bad ⟨by decide, by decide⟩) [0] [1] rfl (wr := [(o_w, .inl (y 0, 1960, .inl f_w))]) rfl rfl rfl (by decide) rfl rfl rfl (As := []) (rest := []) rfl (Nat.le_of_ble_eq_true rfl) ⟨Nat.zero_le _, Nat.zero_le _⟩ dX8_is_17 (ws' := [(o_w, .inl (y 0, 1960, .inl f_w)), (o, .inr (7, [.ref o_w, g_kept, g_text, g_size, g_above, g_below, .int r5.2, g_noes, g_fulls, g_at, g_from, g_token, g_value, g_readFault, g_yet, g_fars, g_tells]))]) rfl (fun H locs hH => ?_)
    obtain rfl := Option.some.inj h
    exact Kj3 _ _ _ (hH.sub [1, 0] (by decide) rfl) (lv_sub hl [] rfl)
  · replace h := z_f c4 h
    refine lv_aload_n K.x K.b dX8_is_8 rfl (lv_at hl 0 rfl) ?_
    refine lv_iload_n K.x K.b dX8_is_9 rfl (lv_at hl 1 rfl) ?_
    obtain ⟨r7, hr8, h⟩ := z_bd_e h
    refine z_Vi K hH hl.1 (c_X8_isOf l D y o o_w (g_kept) (g_text) (g_size) (g_above) (g_below) (.int v_bads) (g_noes) (g_fulls) (g_at) (g_from) (g_token) (g_value) (g_readFault) (g_yet) (g_fars) (g_tells) f_w p1 r7 hr8) (z_cwV K 1 tw_5_188 tw_5_190 tw_0_78 tw_1_8 tw_5_191 hd_X8_isOf ⟨by decide, by decide⟩) [0, 1] [] rfl (wr := []) rfl rfl rfl (by decide) rfl rfl rfl (As := [.int p1]) (rest := []) rfl (Nat.le_of_ble_eq_true rfl) ⟨Nat.zero_le _, Nat.zero_le _⟩ dX8_is_10 (ws' := [(o, .inr (7, [.ref o_w, g_kept, g_text, g_size, g_above, g_below, .int v_bads, g_noes, g_fulls, g_at, g_from, g_token, g_value, g_readFault, g_yet, g_fars, g_tells])), (o_w, .inl (y 0, 1960, .inl f_w))]) rfl (fun H locs hH => ?_)
    refine lv_goto (tgt := 20) K.x K.b dX8_is_13 (by decide) ?_
    obtain rfl := Option.some.inj h
    exact Kj3 _ _ _ hH (lv_sub hl [] rfl)
noncomputable def p_X8_kinds (v_bads : Int32) (f_w : (Nat → Int32)) (p1 : Int32) : Option (Int32 × Int32) :=
  z_bd (p_X8_isCrow f_w p1) fun r1 =>
  z_bd (α := Int32 × Int32) (if (r1 = 0) then
  (z_bd (p_X8_bad v_bads) fun r5 =>
  some (r5.1, r5.2)) else
  (z_bd (p_X8_kindsOf f_w p1) fun r7 =>
  some (r7, v_bads))) fun j3 =>
  some (j3.1, j3.2)
theorem hd_X8_kinds : yX8_kinds.cls = RX8 ∧ yX8_kinds.cls ≠ "java/lang/invoke/MethodHandle" ∧ yX8_kinds.cls ≠ "java/lang/invoke/VarHandle" ∧ (parseMethodDescriptor yX8_kinds.desc).map (fun d => d.parameters.length) = some 1 := by decide +kernel
set_option maxHeartbeats 4000000 in
set_option maxRecDepth 100000 in
theorem c_X8_kinds (l : Launch) (D : va_G) (y : Nat → ClassId) (o o_w : Nat) (g_kept g_text g_size g_above g_below g_noes g_fulls g_at g_from g_token g_value g_readFault g_yet g_fars g_tells : Value) (v_bads : Int32) (f_w : (Nat → Int32)) (p1 : Int32) (r : Int32 × Int32) (h : p_X8_kinds v_bads f_w p1 = some r) : z_MI l yX8_kinds cX8_kinds 2 (some .int) 3 71 D y [.ref o, .int p1] [(o, .inr (7, [.ref o_w, g_kept, g_text, g_size, g_above, g_below, .int v_bads, g_noes, g_fulls, g_at, g_from, g_token, g_value, g_readFault, g_yet, g_fars, g_tells])), (o_w, .inl (y 0, 1960, .inl f_w))] r.1 [(o, .inr (7, [.ref o_w, g_kept, g_text, g_size, g_above, g_below, .int r.2, g_noes, g_fulls, g_at, g_from, g_token, g_value, g_readFault, g_yet, g_fars, g_tells])), (o_w, .inl (y 0, 1960, .inl f_w))] := by
  unfold p_X8_kinds at h
  refine z_enI (by decide) (Nat.le_of_ble_eq_true rfl) ?_
  intro p e s m args below meth c A ls hr K hH hl
  obtain ⟨Q, hQ⟩ : ∃ Q, Q = MQ below (z_Qi D y A r.1 [(o, .inr (7, [.ref o_w, g_kept, g_text, g_size, g_above, g_below, .int r.2, g_noes, g_fulls, g_at, g_from, g_token, g_value, g_readFault, g_yet, g_fars, g_tells])), (o_w, .inl (y 0, 1960, .inl f_w))]) args s 0 0 A := ⟨_, rfl⟩
  rw [← hQ]
  have hl : lv_has ls 2 [(0, .ref o), (1, .int p1)] := hl
  refine lv_aload_n K.x K.b dX8_kinds_0 rfl (lv_at hl 0 rfl) ?_
  refine lv_iload_n K.x K.b dX8_kinds_1 rfl (lv_at hl 1 rfl) ?_
  obtain ⟨r1, hr2, h⟩ := z_bd_e h
  refine z_Vi K hH hl.1 (c_X8_isCrow l D y o o_w (g_kept) (g_text) (g_size) (g_above) (g_below) (.int v_bads) (g_noes) (g_fulls) (g_at) (g_from) (g_token) (g_value) (g_readFault) (g_yet) (g_fars) (g_tells) f_w p1 r1 hr2) (z_cwV K 1 tw_5_64 tw_5_66 tw_0_65 tw_1_8 tw_5_67 hd_X8_isCrow ⟨by decide, by decide⟩) [0, 1] [] rfl (wr := []) rfl rfl rfl (by decide) rfl rfl rfl (As := [.int p1]) (rest := []) rfl (Nat.le_of_ble_eq_true rfl) ⟨Nat.zero_le _, Nat.zero_le _⟩ dX8_kinds_2 (ws' := [(o, .inr (7, [.ref o_w, g_kept, g_text, g_size, g_above, g_below, .int v_bads, g_noes, g_fulls, g_at, g_from, g_token, g_value, g_readFault, g_yet, g_fars, g_tells])), (o_w, .inl (y 0, 1960, .inl f_w))]) rfl (fun H locs hH => ?_)
  obtain ⟨j3, hj3, h⟩ := z_bd_e h
  have Kj3 : ∀ (H : Heap) (locs : List Loc) (ls : Array Slot), z_H D A s.heap [(o, .inr (7, [.ref o_w, g_kept, g_text, g_size, g_above, g_below, .int j3.2, g_noes, g_fulls, g_at, g_from, g_token, g_value, g_readFault, g_yet, g_fars, g_tells])), (o_w, .inl (y 0, 1960, .inl f_w))] H locs → lv_has ls 2 [] → W p l e (zR 3 71) s m args below meth c H locs 0 0 Q (F0 m 20 ls [.int j3.1]) := by
    intro H locs ls hH hl
    have hr9 := Option.some.inj h
    obtain rfl := hr9
    rw [hQ]
    exact z_reti K hr hH [0, 1] (by decide) rfl rfl rfl dX8_kinds_20
  replace h := hj3
  refine lv_if_eq (tgt := 16) K.x K.b dX8_kinds_5 (by decide) (fun c4 => ?_) (fun c4 => ?_)
  · replace h := z_t c4 h
    refine lv_aload_n K.x K.b dX8_kinds_16 rfl (lv_at hl 0 rfl) ?_
    obtain ⟨r5, hr6, h⟩ := z_bd_e h
    refine z_Vi K hH hl.1 (c_X8_bad l D y o (.ref o_w) (g_kept) (g_text) (g_size) (g_above) (g_below) (g_noes) (g_fulls) (g_at) (g_from) (g_token) (g_value) (g_readFault) (g_yet) (g_fars) (g_tells) v_bads r5 hr6) (z_cwV K 0 tw_4_163 tw_4_165 tw_0_37 tw_1_8 tw_4_166 hd_X8_bad ⟨by decide, by decide⟩) [0] [1] rfl (wr := [(o_w, .inl (y 0, 1960, .inl f_w))]) rfl rfl rfl (by decide) rfl rfl rfl (As := []) (rest := []) rfl (Nat.le_of_ble_eq_true rfl) ⟨Nat.zero_le _, Nat.zero_le _⟩ dX8_kinds_17 (ws' := [(o_w, .inl (y 0, 1960, .inl f_w)), (o, .inr (7, [.ref o_w, g_kept, g_text, g_size, g_above, g_below, .int r5.2, g_noes, g_fulls, g_at, g_from, g_token, g_value, g_readFault, g_yet, g_fars, g_tells]))]) rfl (fun H locs hH => ?_)
    obtain rfl := Option.some.inj h
    exact Kj3 _ _ _ (hH.sub [1, 0] (by decide) rfl) (lv_sub hl [] rfl)
  · replace h := z_f c4 h
    refine lv_aload_n K.x K.b dX8_kinds_8 rfl (lv_at hl 0 rfl) ?_
    refine lv_iload_n K.x K.b dX8_kinds_9 rfl (lv_at hl 1 rfl) ?_
    obtain ⟨r7, hr8, h⟩ := z_bd_e h
    refine z_Vi K hH hl.1 (c_X8_kindsOf l D y o o_w (g_kept) (g_text) (g_size) (g_above) (g_below) (.int v_bads) (g_noes) (g_fulls) (g_at) (g_from) (g_token) (g_value) (g_readFault) (g_yet) (g_fars) (g_tells) f_w p1 r7 hr8) (z_cwV K 1 tw_5_196 tw_5_198 tw_0_79 tw_1_8 tw_5_199 hd_X8_kindsOf ⟨by decide, by decide⟩) [0, 1] [] rfl (wr := []) rfl rfl rfl (by decide) rfl rfl rfl (As := [.int p1]) (rest := []) rfl (Nat.le_of_ble_eq_true rfl) ⟨Nat.zero_le _, Nat.zero_le _⟩ dX8_kinds_10 (ws' := [(o, .inr (7, [.ref o_w, g_kept, g_text, g_size, g_above, g_below, .int v_bads, g_noes, g_fulls, g_at, g_from, g_token, g_value, g_readFault, g_yet, g_fars, g_tells])), (o_w, .inl (y 0, 1960, .inl f_w))]) rfl (fun H locs hH => ?_)
    refine lv_goto (tgt := 20) K.x K.b dX8_kinds_13 (by decide) ?_
    obtain rfl := Option.some.inj h
    exact Kj3 _ _ _ hH (lv_sub hl [] rfl)
noncomputable def p_X8_greatestPart (f_tells : (Nat → Int32)) (p1 : Int32) : Option (Int32) :=
  z_bd (z_lp (S := Int32 × Int32) (E := Int32) (fun s1 =>
  if ((6 : Int32) ≤ s1.1) then
  (some (.inr s1.2)) else
  (z_bd (z_lp (S := Int32 × Int32) (E := Int32) (fun s5 =>
  if ((6 : Int32) ≤ s5.1) then
  (some (.inr s5.2)) else
  (z_bd (p_X8_has p1 s1.1) fun r12 =>
  z_bd (α := Int32) (if (r12 = 0) then
  (some (0 : Int32)) else
  (z_bd (p_X8_has p1 s5.1) fun r18 =>
  if (r18 = 0) then
  (some (0 : Int32)) else
  (z_gd (z_in s1.1 6) <|
  z_gd (z_in s5.1 6) <|
  if ((f_tells s1.1.toNatClampNeg) = (f_tells s5.1.toNatClampNeg)) then
  (some (1 : Int32)) else
  (some (0 : Int32))))) fun j14 =>
  z_lt ((s5.2 + j14)) fun x15 =>
  z_lt (s5.1 + (1 : Int32)) fun x16 =>
  some (.inl (x16, x15)))) ((0 : Int32), (0 : Int32))) fun e6 =>
  z_bd (α := Int32) (if (e6 ≤ s1.2) then
  (some s1.2) else
  (some e6)) fun j7 =>
  z_lt (s1.1 + (1 : Int32)) fun x8 =>
  some (.inl (x8, j7)))) ((0 : Int32), (0 : Int32))) fun e2 =>
  some e2
theorem hd_X8_greatestPart : yX8_greatestPart.cls = RX8 ∧ yX8_greatestPart.cls ≠ "java/lang/invoke/MethodHandle" ∧ yX8_greatestPart.cls ≠ "java/lang/invoke/VarHandle" ∧ (parseMethodDescriptor yX8_greatestPart.desc).map (fun d => d.parameters.length) = some 1 := by decide +kernel
set_option maxHeartbeats 4000000 in
set_option maxRecDepth 100000 in
theorem c_X8_greatestPart (l : Launch) (D : va_G) (y : Nat → ClassId) (o o_tells : Nat) (g_w g_kept g_text g_size g_above g_below g_bads g_noes g_fulls g_at g_from g_token g_value g_readFault g_yet g_fars : Value) (f_tells : (Nat → Int32)) (p1 : Int32) (r : Int32) (h : p_X8_greatestPart f_tells p1 = some r) : z_MI l yX8_greatestPart cX8_greatestPart 6 (some .int) 1 21 D y [.ref o, .int p1] [(o, .inr (7, [g_w, g_kept, g_text, g_size, g_above, g_below, g_bads, g_noes, g_fulls, g_at, g_from, g_token, g_value, g_readFault, g_yet, g_fars, .ref o_tells])), (o_tells, .inl (y 0, 6, .inl f_tells))] r [(o, .inr (7, [g_w, g_kept, g_text, g_size, g_above, g_below, g_bads, g_noes, g_fulls, g_at, g_from, g_token, g_value, g_readFault, g_yet, g_fars, .ref o_tells])), (o_tells, .inl (y 0, 6, .inl f_tells))] := by
  unfold p_X8_greatestPart at h
  refine z_enI (by decide) (Nat.le_of_ble_eq_true rfl) ?_
  intro p e s m args below meth c A ls hr K hH hl
  obtain ⟨Q, hQ⟩ : ∃ Q, Q = MQ below (z_Qi D y A r [(o, .inr (7, [g_w, g_kept, g_text, g_size, g_above, g_below, g_bads, g_noes, g_fulls, g_at, g_from, g_token, g_value, g_readFault, g_yet, g_fars, .ref o_tells])), (o_tells, .inl (y 0, 6, .inl f_tells))]) args s 0 0 A := ⟨_, rfl⟩
  rw [← hQ]
  have hl : lv_has ls 6 [(0, .ref o), (1, .int p1)] := hl
  refine lv_iconst (v := (0)) K.x K.b dX8_greatestPart_0 (by decide) ?_
  refine lv_istore_n (lv' := [(2, .int (0 : Int32)), (0, .ref o), (1, .int p1)]) K.x K.b dX8_greatestPart_1 rfl hl (by decide) rfl (fun ls hl => ?_)
  refine lv_iconst (v := (0)) K.x K.b dX8_greatestPart_2 (by decide) ?_
  refine lv_istore_n (lv' := [(3, .int (0 : Int32)), (2, .int (0 : Int32)), (0, .ref o), (1, .int p1)]) K.x K.b dX8_greatestPart_3 rfl hl (by decide) rfl (fun ls hl => ?_)
  obtain ⟨e2, hlpe2, h⟩ := z_bd_e h
  have KEe2 : ∀ (H : Heap) (locs : List Loc) (ls : Array Slot), z_H D A s.heap [(o, .inr (7, [g_w, g_kept, g_text, g_size, g_above, g_below, g_bads, g_noes, g_fulls, g_at, g_from, g_token, g_value, g_readFault, g_yet, g_fars, .ref o_tells])), (o_tells, .inl (y 0, 6, .inl f_tells))] H locs → lv_has ls 6 [(2, .int e2)] → W p l e (zR 1 21) s m args below meth c H locs 0 0 Q (F0 m 91 ls []) := by
    intro H locs ls hH hl
    refine lv_iload_n K.x K.b dX8_greatestPart_91 rfl (lv_at hl 0 rfl) ?_
    have hr9 := Option.some.inj h
    obtain rfl := hr9
    rw [hQ]
    exact z_reti K hr hH [0, 1] (by decide) rfl rfl rfl dX8_greatestPart_92
  refine z_lp_ind (P := fun (s1 : Int32 × Int32) => ∀ (H : Heap) (locs : List Loc) (ls : Array Slot), z_H D A s.heap [(o, .inr (7, [g_w, g_kept, g_text, g_size, g_above, g_below, g_bads, g_noes, g_fulls, g_at, g_from, g_token, g_value, g_readFault, g_yet, g_fars, .ref o_tells])), (o_tells, .inl (y 0, 6, .inl f_tells))] H locs → lv_has ls 6 [(0, .ref o), (1, .int p1), (2, .int s1.2), (3, .int s1.1)] → W p l e (zR 1 21) s m args below meth c H locs 0 0 Q (F0 m 4 ls [])) ?_ _ hlpe2 _ _ _ hH (lv_sub hl [2, 3, 1, 0] rfl)
  clear h hlpe2
  intro s1 x3 h ihe2 hee2 H locs ls hH hl
  refine lv_iload_n K.x K.b dX8_greatestPart_4 rfl (lv_at hl 3 rfl) ?_
  refine lv_bipush (v := (6)) K.x K.b dX8_greatestPart_5 (by decide) ?_
  refine lv_icmp_ge (tgt := 91) K.x K.b dX8_greatestPart_7 (by decide) (fun c4 => ?_) (fun c4 => ?_)
  · replace h := z_t c4 h
    obtain rfl := hee2 _ (Option.some.inj h).symm
    exact KEe2 _ _ _ hH (lv_sub hl [2] rfl)
  · replace h := z_f c4 h
    refine lv_iconst (v := (0)) K.x K.b dX8_greatestPart_10 (by decide) ?_
    refine lv_istore (lv' := [(4, .int (0 : Int32)), (0, .ref o), (1, .int p1), (2, .int s1.2), (3, .int s1.1)]) K.x K.b dX8_greatestPart_11 hl (by decide) rfl (fun ls hl => ?_)
    refine lv_iconst (v := (0)) K.x K.b dX8_greatestPart_13 (by decide) ?_
    refine lv_istore (lv' := [(5, .int (0 : Int32)), (4, .int (0 : Int32)), (0, .ref o), (1, .int p1), (2, .int s1.2), (3, .int s1.1)]) K.x K.b dX8_greatestPart_14 hl (by decide) rfl (fun ls hl => ?_)
    obtain ⟨e6, hlpe6, h⟩ := z_bd_e h
    have KEe6 : ∀ (H : Heap) (locs : List Loc) (ls : Array Slot), z_H D A s.heap [(o, .inr (7, [g_w, g_kept, g_text, g_size, g_above, g_below, g_bads, g_noes, g_fulls, g_at, g_from, g_token, g_value, g_readFault, g_yet, g_fars, .ref o_tells])), (o_tells, .inl (y 0, 6, .inl f_tells))] H locs → lv_has ls 6 [(0, .ref o), (1, .int p1), (2, .int s1.2), (3, .int s1.1), (4, .int e6)] → W p l e (zR 1 21) s m args below meth c H locs 0 0 Q (F0 m 72 ls []) := by
      intro H locs ls hH hl
      refine lv_iload K.x K.b dX8_greatestPart_72 (lv_at hl 4 rfl) ?_
      refine lv_iload_n K.x K.b dX8_greatestPart_74 rfl (lv_at hl 2 rfl) ?_
      obtain ⟨j7, hj7, h⟩ := z_bd_e h
      have Kj7 : ∀ (H : Heap) (locs : List Loc) (ls : Array Slot), z_H D A s.heap [(o, .inr (7, [g_w, g_kept, g_text, g_size, g_above, g_below, g_bads, g_noes, g_fulls, g_at, g_from, g_token, g_value, g_readFault, g_yet, g_fars, .ref o_tells])), (o_tells, .inl (y 0, 6, .inl f_tells))] H locs → lv_has ls 6 [(0, .ref o), (1, .int p1), (3, .int s1.1)] → W p l e (zR 1 21) s m args below meth c H locs 0 0 Q (F0 m 84 ls [.int j7]) := by
        intro H locs ls hH hl
        refine lv_istore_n (lv' := [(2, .int j7), (0, .ref o), (1, .int p1), (3, .int s1.1)]) K.x K.b dX8_greatestPart_84 rfl hl (by decide) rfl (fun ls hl => ?_)
        obtain ⟨x8, ex8, h⟩ := z_lt_e h
        refine lv_iinc (v := x8) (lv' := [(3, .int x8), (2, .int j7), (0, .ref o), (1, .int p1)]) K.x K.b dX8_greatestPart_85 hl (k := 3) rfl (by rw [ex8]; rfl) (by decide) rfl (fun ls hl => ?_)
        refine lv_goto (tgt := 4) K.x K.b dX8_greatestPart_88 (by decide) ?_
        exact ihe2 _ (Option.some.inj h).symm _ _ _ hH (lv_sub hl [2, 3, 1, 0] rfl)
      replace h := hj7
      refine lv_icmp_le (tgt := 83) K.x K.b dX8_greatestPart_75 (by decide) (fun c9 => ?_) (fun c9 => ?_)
      · replace h := z_t c9 h
        refine lv_iload_n K.x K.b dX8_greatestPart_83 rfl (lv_at hl 2 rfl) ?_
        obtain rfl := Option.some.inj h
        exact Kj7 _ _ _ hH (lv_sub hl [0, 1, 3] rfl)
      · replace h := z_f c9 h
        refine lv_iload K.x K.b dX8_greatestPart_78 (lv_at hl 4 rfl) ?_
        refine lv_goto (tgt := 84) K.x K.b dX8_greatestPart_80 (by decide) ?_
        obtain rfl := Option.some.inj h
        exact Kj7 _ _ _ hH (lv_sub hl [0, 1, 3] rfl)
    refine z_lp_ind (P := fun (s5 : Int32 × Int32) => ∀ (H : Heap) (locs : List Loc) (ls : Array Slot), z_H D A s.heap [(o, .inr (7, [g_w, g_kept, g_text, g_size, g_above, g_below, g_bads, g_noes, g_fulls, g_at, g_from, g_token, g_value, g_readFault, g_yet, g_fars, .ref o_tells])), (o_tells, .inl (y 0, 6, .inl f_tells))] H locs → lv_has ls 6 [(0, .ref o), (1, .int p1), (2, .int s1.2), (3, .int s1.1), (4, .int s5.2), (5, .int s5.1)] → W p l e (zR 1 21) s m args below meth c H locs 0 0 Q (F0 m 16 ls [])) ?_ _ hlpe6 _ _ _ hH (lv_sub hl [2, 3, 4, 5, 1, 0] rfl)
    clear h hlpe6
    intro s5 x10 h ihe6 hee6 H locs ls hH hl
    refine lv_iload K.x K.b dX8_greatestPart_16 (lv_at hl 5 rfl) ?_
    refine lv_bipush (v := (6)) K.x K.b dX8_greatestPart_18 (by decide) ?_
    refine lv_icmp_ge (tgt := 72) K.x K.b dX8_greatestPart_20 (by decide) (fun c11 => ?_) (fun c11 => ?_)
    · replace h := z_t c11 h
      obtain rfl := hee6 _ (Option.some.inj h).symm
      exact KEe6 _ _ _ hH (lv_sub hl [0, 1, 2, 3, 4] rfl)
    · replace h := z_f c11 h
      refine lv_iload K.x K.b dX8_greatestPart_23 (lv_at hl 4 rfl) ?_
      refine lv_iload_n K.x K.b dX8_greatestPart_25 rfl (lv_at hl 1 rfl) ?_
      refine lv_iload_n K.x K.b dX8_greatestPart_26 rfl (lv_at hl 3 rfl) ?_
      obtain ⟨r12, hr13, h⟩ := z_bd_e h
      refine z_Si K hH hl.1 (c_X8_has l D y p1 s1.1 r12 hr13) (z_cwS K 2 tw_5_124 tw_5_125 tw_1_8 tw_5_126 hd_X8_has ⟨by decide, by decide⟩) rfl (As := [.int p1, .int s1.1]) (rest := [.int s5.2]) rfl (Nat.le_of_ble_eq_true rfl) ⟨Nat.zero_le _, Nat.zero_le _⟩ dX8_greatestPart_27 (fun H locs hH => ?_)
      obtain ⟨j14, hj14, h⟩ := z_bd_e h
      have Kj14 : ∀ (H : Heap) (locs : List Loc) (ls : Array Slot), z_H D A s.heap [(o, .inr (7, [g_w, g_kept, g_text, g_size, g_above, g_below, g_bads, g_noes, g_fulls, g_at, g_from, g_token, g_value, g_readFault, g_yet, g_fars, .ref o_tells])), (o_tells, .inl (y 0, 6, .inl f_tells))] H locs → lv_has ls 6 [(0, .ref o), (1, .int p1), (2, .int s1.2), (3, .int s1.1), (5, .int s5.1)] → W p l e (zR 1 21) s m args below meth c H locs 0 0 Q (F0 m 63 ls [.int j14, .int s5.2]) := by
        intro H locs ls hH hl
        refine lv_iadd K.x K.b dX8_greatestPart_63 ?_
        obtain ⟨x15, ex15, h⟩ := z_lt_e h
        refine z_nm ex15 ?_
        refine lv_istore (lv' := [(4, .int x15), (0, .ref o), (1, .int p1), (2, .int s1.2), (3, .int s1.1), (5, .int s5.1)]) K.x K.b dX8_greatestPart_64 hl (by decide) rfl (fun ls hl => ?_)
        obtain ⟨x16, ex16, h⟩ := z_lt_e h
        refine lv_iinc (v := x16) (lv' := [(5, .int x16), (4, .int x15), (0, .ref o), (1, .int p1), (2, .int s1.2), (3, .int s1.1)]) K.x K.b dX8_greatestPart_66 hl (k := 5) rfl (by rw [ex16]; rfl) (by decide) rfl (fun ls hl => ?_)
        refine lv_goto (tgt := 16) K.x K.b dX8_greatestPart_69 (by decide) ?_
        exact ihe6 _ (Option.some.inj h).symm _ _ _ hH (lv_sub hl [2, 3, 4, 5, 1, 0] rfl)
      replace h := hj14
      refine lv_if_eq (tgt := 62) K.x K.b dX8_greatestPart_30 (by decide) (fun c17 => ?_) (fun c17 => ?_)
      · replace h := z_t c17 h
        refine lv_iconst (v := (0)) K.x K.b dX8_greatestPart_62 (by decide) ?_
        obtain rfl := Option.some.inj h
        exact Kj14 _ _ _ hH (lv_sub hl [0, 1, 2, 3, 5] rfl)
      · replace h := z_f c17 h
        refine lv_iload_n K.x K.b dX8_greatestPart_33 rfl (lv_at hl 1 rfl) ?_
        refine lv_iload K.x K.b dX8_greatestPart_34 (lv_at hl 5 rfl) ?_
        obtain ⟨r18, hr19, h⟩ := z_bd_e h
        refine z_Si K hH hl.1 (c_X8_has l D y p1 s5.1 r18 hr19) (z_cwS K 2 tw_5_124 tw_5_125 tw_1_8 tw_5_126 hd_X8_has ⟨by decide, by decide⟩) rfl (As := [.int p1, .int s5.1]) (rest := [.int s5.2]) rfl (Nat.le_of_ble_eq_true rfl) ⟨Nat.zero_le _, Nat.zero_le _⟩ dX8_greatestPart_36 (fun H locs hH => ?_)
        refine lv_if_eq (tgt := 62) K.x K.b dX8_greatestPart_39 (by decide) (fun c20 => ?_) (fun c20 => ?_)
        · replace h := z_t c20 h
          refine lv_iconst (v := (0)) K.x K.b dX8_greatestPart_62 (by decide) ?_
          obtain rfl := Option.some.inj h
          exact Kj14 _ _ _ hH (lv_sub hl [0, 1, 2, 3, 5] rfl)
        · replace h := z_f c20 h
          refine lv_aload_n K.x K.b dX8_greatestPart_42 rfl (lv_at hl 0 rfl) ?_
          refine z_get K hH 0 rfl zin_8 rfl 16 (by decide) tw_4_112 (v := .ref o_tells) rfl dX8_greatestPart_43 ?_
          refine lv_iload_n K.x K.b dX8_greatestPart_46 rfl (lv_at hl 3 rfl) ?_
          obtain ⟨g21, h⟩ := z_gd_e h
          refine z_iald K hH 1 (k := s1.1.toNatClampNeg) rfl g21 rfl dX8_greatestPart_47 ?_
          refine lv_aload_n K.x K.b dX8_greatestPart_48 rfl (lv_at hl 0 rfl) ?_
          refine z_get K hH 0 rfl zin_8 rfl 16 (by decide) tw_4_112 (v := .ref o_tells) rfl dX8_greatestPart_49 ?_
          refine lv_iload K.x K.b dX8_greatestPart_52 (lv_at hl 5 rfl) ?_
          obtain ⟨g22, h⟩ := z_gd_e h
          refine z_iald K hH 1 (k := s5.1.toNatClampNeg) rfl g22 rfl dX8_greatestPart_54 ?_
          refine lv_icmp_ne (tgt := 62) K.x K.b dX8_greatestPart_55 (by decide) (fun c23 => ?_) (fun c23 => ?_)
          · replace h := z_f c23 h
            refine lv_iconst (v := (0)) K.x K.b dX8_greatestPart_62 (by decide) ?_
            obtain rfl := Option.some.inj h
            exact Kj14 _ _ _ hH (lv_sub hl [0, 1, 2, 3, 5] rfl)
          · replace h := z_t c23 h
            refine lv_iconst (v := (1)) K.x K.b dX8_greatestPart_58 (by decide) ?_
            refine lv_goto (tgt := 63) K.x K.b dX8_greatestPart_59 (by decide) ?_
            obtain rfl := Option.some.inj h
            exact Kj14 _ _ _ hH (lv_sub hl [0, 1, 2, 3, 5] rfl)
noncomputable def p_X8_look (v_bads : Int32) (f_w : (Nat → Int32)) (f_tells : (Nat → Int32)) (p1 : Int32) : Option (Int32 × Int32 × (Nat → Int32)) :=
  z_bd (p_X8_isPlace f_w p1) fun r1 =>
  if (r1 = 0) then
  (z_bd (p_X8_bad v_bads) fun r31 =>
  some (r31.1, r31.2, f_tells)) else
  (z_bd (p_X8_isOf f_w p1) fun r4 =>
  z_bd (z_lp (S := Int32 × Int32 × Int32 × (Nat → Int32)) (E := Int32 × (Nat → Int32)) (fun s6 =>
  if ((2400 : Int32) ≤ s6.1) then
  (some (.inr (s6.2.2.1, s6.2.2.2))) else
  (if (r4 = 0) then
  (some (.inr (s6.2.2.1, s6.2.2.2))) else
  (z_bd (z_lp (S := Int32 × (Nat → Int32)) (E := (Nat → Int32)) (fun s11 =>
  if ((6 : Int32) ≤ s11.1) then
  (some (.inr s11.2)) else
  (z_lt ((s6.1 / (100 : Int32))) fun x24 =>
  z_lt ((s6.1 - s6.1 / (100 : Int32) * (100 : Int32))) fun x25 =>
  z_bd (p_X8_farOf s11.1 x25 x24) fun r26 =>
  z_gd (z_in s11.1 6) <|
  z_lt ((upd s11.2 s11.1.toNatClampNeg r26)) fun a29 =>
  z_lt (s11.1 + (1 : Int32)) fun x30 =>
  some (.inl (x30, a29)))) ((0 : Int32), s6.2.2.2)) fun e12 =>
  z_bd (α := Int32) (if ((60 : Int32) < (s6.1 - s6.1 / (100 : Int32) * (100 : Int32))) then
  (some (99 : Int32)) else
  (z_bd (p_X8_greatestPart e12 r4) fun r20 =>
  some r20)) fun j13 =>
  z_bd (α := Int32) (if (s6.2.1 ≤ j13) then
  (some s6.2.2.1) else
  (some s6.1)) fun j14 =>
  z_bd (α := Int32) (if (s6.2.1 ≤ j13) then
  (some s6.2.1) else
  (some j13)) fun j15 =>
  z_lt (s6.1 + (1 : Int32)) fun x16 =>
  some (.inl (x16, j15, j14, e12))))) ((0 : Int32), (99 : Int32), (-1 : Int32), f_tells)) fun e7 =>
  some (e7.1, v_bads, e7.2))
theorem hd_X8_look : yX8_look.cls = RX8 ∧ yX8_look.cls ≠ "java/lang/invoke/MethodHandle" ∧ yX8_look.cls ≠ "java/lang/invoke/VarHandle" ∧ (parseMethodDescriptor yX8_look.desc).map (fun d => d.parameters.length) = some 1 := by decide +kernel
set_option maxHeartbeats 4000000 in
set_option maxRecDepth 100000 in
theorem c_X8_look (l : Launch) (D : va_G) (y : Nat → ClassId) (o o_w o_tells : Nat) (g_kept g_text g_size g_above g_below g_noes g_fulls g_at g_from g_token g_value g_readFault g_yet g_fars : Value) (v_bads : Int32) (f_w : (Nat → Int32)) (f_tells : (Nat → Int32)) (p1 : Int32) (r : Int32 × Int32 × (Nat → Int32)) (h : p_X8_look v_bads f_w f_tells p1 = some r) : z_MI l yX8_look cX8_look 7 (some .int) 3 70 D y [.ref o, .int p1] [(o, .inr (7, [.ref o_w, g_kept, g_text, g_size, g_above, g_below, .int v_bads, g_noes, g_fulls, g_at, g_from, g_token, g_value, g_readFault, g_yet, g_fars, .ref o_tells])), (o_w, .inl (y 0, 1960, .inl f_w)), (o_tells, .inl (y 0, 6, .inl f_tells))] r.1 [(o, .inr (7, [.ref o_w, g_kept, g_text, g_size, g_above, g_below, .int r.2.1, g_noes, g_fulls, g_at, g_from, g_token, g_value, g_readFault, g_yet, g_fars, .ref o_tells])), (o_w, .inl (y 0, 1960, .inl f_w)), (o_tells, .inl (y 0, 6, .inl r.2.2))] := by
  unfold p_X8_look at h
  refine z_enI (by decide) (Nat.le_of_ble_eq_true rfl) ?_
  intro p e s m args below meth c A ls hr K hH hl
  obtain ⟨Q, hQ⟩ : ∃ Q, Q = MQ below (z_Qi D y A r.1 [(o, .inr (7, [.ref o_w, g_kept, g_text, g_size, g_above, g_below, .int r.2.1, g_noes, g_fulls, g_at, g_from, g_token, g_value, g_readFault, g_yet, g_fars, .ref o_tells])), (o_w, .inl (y 0, 1960, .inl f_w)), (o_tells, .inl (y 0, 6, .inl r.2.2))]) args s 0 0 A := ⟨_, rfl⟩
  rw [← hQ]
  have hl : lv_has ls 7 [(0, .ref o), (1, .int p1)] := hl
  refine lv_aload_n K.x K.b dX8_look_0 rfl (lv_at hl 0 rfl) ?_
  refine lv_iload_n K.x K.b dX8_look_1 rfl (lv_at hl 1 rfl) ?_
  obtain ⟨r1, hr2, h⟩ := z_bd_e h
  refine z_Vi K hH hl.1 (c_X8_isPlace l D y o o_w (g_kept) (g_text) (g_size) (g_above) (g_below) (.int v_bads) (g_noes) (g_fulls) (g_at) (g_from) (g_token) (g_value) (g_readFault) (g_yet) (g_fars) (.ref o_tells) f_w p1 r1 hr2) (z_cwV K 1 tw_4_179 tw_4_181 tw_0_40 tw_1_8 tw_4_182 hd_X8_isPlace ⟨by decide, by decide⟩) [0, 1] [2] rfl (wr := [(o_tells, .inl (y 0, 6, .inl f_tells))]) rfl rfl rfl (by decide) rfl rfl rfl (As := [.int p1]) (rest := []) rfl (Nat.le_of_ble_eq_true rfl) ⟨Nat.zero_le _, Nat.zero_le _⟩ dX8_look_2 (ws' := [(o_tells, .inl (y 0, 6, .inl f_tells)), (o, .inr (7, [.ref o_w, g_kept, g_text, g_size, g_above, g_below, .int v_bads, g_noes, g_fulls, g_at, g_from, g_token, g_value, g_readFault, g_yet, g_fars, .ref o_tells])), (o_w, .inl (y 0, 1960, .inl f_w))]) rfl (fun H locs hH => ?_)
  refine lv_if_ne (tgt := 13) K.x K.b dX8_look_5 (by decide) (fun c3 => ?_) (fun c3 => ?_)
  · replace h := z_f c3 h
    refine lv_aload_n K.x K.b dX8_look_13 rfl (lv_at hl 0 rfl) ?_
    refine lv_iload_n K.x K.b dX8_look_14 rfl (lv_at hl 1 rfl) ?_
    obtain ⟨r4, hr5, h⟩ := z_bd_e h
    refine z_Vi K hH hl.1 (c_X8_isOf l D y o o_w (g_kept) (g_text) (g_size) (g_above) (g_below) (.int v_bads) (g_noes) (g_fulls) (g_at) (g_from) (g_token) (g_value) (g_readFault) (g_yet) (g_fars) (.ref o_tells) f_w p1 r4 hr5) (z_cwV K 1 tw_5_188 tw_5_190 tw_0_78 tw_1_8 tw_5_191 hd_X8_isOf ⟨by decide, by decide⟩) [1, 2] [0] rfl (wr := [(o_tells, .inl (y 0, 6, .inl f_tells))]) rfl rfl rfl (by decide) rfl rfl rfl (As := [.int p1]) (rest := []) rfl (Nat.le_of_ble_eq_true rfl) ⟨Nat.zero_le _, Nat.zero_le _⟩ dX8_look_15 (ws' := [(o_tells, .inl (y 0, 6, .inl f_tells)), (o, .inr (7, [.ref o_w, g_kept, g_text, g_size, g_above, g_below, .int v_bads, g_noes, g_fulls, g_at, g_from, g_token, g_value, g_readFault, g_yet, g_fars, .ref o_tells])), (o_w, .inl (y 0, 1960, .inl f_w))]) rfl (fun H locs hH => ?_)
    refine lv_istore_n (lv' := [(2, .int r4), (0, .ref o), (1, .int p1)]) K.x K.b dX8_look_18 rfl hl (by decide) rfl (fun ls hl => ?_)
    refine lv_iconst (v := (-1)) K.x K.b dX8_look_19 (by decide) ?_
    refine lv_istore_n (lv' := [(3, .int (-1 : Int32)), (2, .int r4), (0, .ref o), (1, .int p1)]) K.x K.b dX8_look_20 rfl hl (by decide) rfl (fun ls hl => ?_)
    refine lv_bipush (v := (99)) K.x K.b dX8_look_21 (by decide) ?_
    refine lv_istore (lv' := [(4, .int (99 : Int32)), (3, .int (-1 : Int32)), (2, .int r4), (0, .ref o), (1, .int p1)]) K.x K.b dX8_look_23 hl (by decide) rfl (fun ls hl => ?_)
    refine lv_iconst (v := (0)) K.x K.b dX8_look_25 (by decide) ?_
    refine lv_istore (lv' := [(5, .int (0 : Int32)), (4, .int (99 : Int32)), (3, .int (-1 : Int32)), (2, .int r4), (0, .ref o), (1, .int p1)]) K.x K.b dX8_look_26 hl (by decide) rfl (fun ls hl => ?_)
    obtain ⟨e7, hlpe7, h⟩ := z_bd_e h
    have KEe7 : ∀ (H : Heap) (locs : List Loc) (ls : Array Slot), z_H D A s.heap [(o_tells, .inl (y 0, 6, .inl e7.2)), (o, .inr (7, [.ref o_w, g_kept, g_text, g_size, g_above, g_below, .int v_bads, g_noes, g_fulls, g_at, g_from, g_token, g_value, g_readFault, g_yet, g_fars, .ref o_tells])), (o_w, .inl (y 0, 1960, .inl f_w))] H locs → lv_has ls 7 [(3, .int e7.1)] → W p l e (zR 3 70) s m args below meth c H locs 0 0 Q (F0 m 136 ls []) := by
      intro H locs ls hH hl
      refine lv_iload_n K.x K.b dX8_look_136 rfl (lv_at hl 0 rfl) ?_
      have hr9 := Option.some.inj h
      obtain rfl := hr9
      rw [hQ]
      exact z_reti K hr hH [1, 2, 0] (by decide) rfl rfl rfl dX8_look_137
    refine z_lp_ind (P := fun (s6 : Int32 × Int32 × Int32 × (Nat → Int32)) => ∀ (H : Heap) (locs : List Loc) (ls : Array Slot), z_H D A s.heap [(o_tells, .inl (y 0, 6, .inl s6.2.2.2)), (o, .inr (7, [.ref o_w, g_kept, g_text, g_size, g_above, g_below, .int v_bads, g_noes, g_fulls, g_at, g_from, g_token, g_value, g_readFault, g_yet, g_fars, .ref o_tells])), (o_w, .inl (y 0, 1960, .inl f_w))] H locs → lv_has ls 7 [(0, .ref o), (2, .int r4), (3, .int s6.2.2.1), (4, .int s6.2.1), (5, .int s6.1)] → W p l e (zR 3 70) s m args below meth c H locs 0 0 Q (F0 m 28 ls [])) ?_ _ hlpe7 _ _ _ hH (lv_sub hl [4, 3, 2, 1, 0] rfl)
    clear h hlpe7
    intro s6 x8 h ihe7 hee7 H locs ls hH hl
    refine lv_iload K.x K.b dX8_look_28 (lv_at hl 4 rfl) ?_
    refine lv_sipush (v := (2400)) K.x K.b dX8_look_30 (by decide) ?_
    refine lv_icmp_ge (tgt := 136) K.x K.b dX8_look_33 (by decide) (fun c9 => ?_) (fun c9 => ?_)
    · replace h := z_t c9 h
      obtain rfl := hee7 _ (Option.some.inj h).symm
      exact KEe7 _ _ _ hH (lv_sub hl [2] rfl)
    · replace h := z_f c9 h
      refine lv_iload_n K.x K.b dX8_look_36 rfl (lv_at hl 1 rfl) ?_
      refine lv_if_eq (tgt := 136) K.x K.b dX8_look_37 (by decide) (fun c10 => ?_) (fun c10 => ?_)
      · replace h := z_t c10 h
        obtain rfl := hee7 _ (Option.some.inj h).symm
        exact KEe7 _ _ _ hH (lv_sub hl [2] rfl)
      · replace h := z_f c10 h
        refine lv_iconst (v := (0)) K.x K.b dX8_look_40 (by decide) ?_
        refine lv_istore (lv' := [(6, .int (0 : Int32)), (0, .ref o), (2, .int r4), (3, .int s6.2.2.1), (4, .int s6.2.1), (5, .int s6.1)]) K.x K.b dX8_look_41 hl (by decide) rfl (fun ls hl => ?_)
        obtain ⟨e12, hlpe12, h⟩ := z_bd_e h
        have KEe12 : ∀ (H : Heap) (locs : List Loc) (ls : Array Slot), z_H D A s.heap [(o_tells, .inl (y 0, 6, .inl e12)), (o, .inr (7, [.ref o_w, g_kept, g_text, g_size, g_above, g_below, .int v_bads, g_noes, g_fulls, g_at, g_from, g_token, g_value, g_readFault, g_yet, g_fars, .ref o_tells])), (o_w, .inl (y 0, 1960, .inl f_w))] H locs → lv_has ls 7 [(0, .ref o), (2, .int r4), (3, .int s6.2.2.1), (4, .int s6.2.1), (5, .int s6.1)] → W p l e (zR 3 70) s m args below meth c H locs 0 0 Q (F0 m 78 ls []) := by
          intro H locs ls hH hl
          refine lv_iload K.x K.b dX8_look_78 (lv_at hl 4 rfl) ?_
          refine lv_bipush (v := (100)) K.x K.b dX8_look_80 (by decide) ?_
          refine lv_irem K.x K.b dX8_look_82 (by decide) ?_
          refine lv_bipush (v := (60)) K.x K.b dX8_look_83 (by decide) ?_
          obtain ⟨j13, hj13, h⟩ := z_bd_e h
          have Kj13 : ∀ (H : Heap) (locs : List Loc) (ls : Array Slot), z_H D A s.heap [(o_tells, .inl (y 0, 6, .inl e12)), (o, .inr (7, [.ref o_w, g_kept, g_text, g_size, g_above, g_below, .int v_bads, g_noes, g_fulls, g_at, g_from, g_token, g_value, g_readFault, g_yet, g_fars, .ref o_tells])), (o_w, .inl (y 0, 1960, .inl f_w))] H locs → lv_has ls 7 [(0, .ref o), (2, .int r4), (3, .int s6.2.2.1), (4, .int s6.2.1), (5, .int s6.1)] → W p l e (zR 3 70) s m args below meth c H locs 0 0 Q (F0 m 98 ls [.int j13]) := by
            intro H locs ls hH hl
            refine lv_istore (lv' := [(6, .int j13), (0, .ref o), (2, .int r4), (3, .int s6.2.2.1), (4, .int s6.2.1), (5, .int s6.1)]) K.x K.b dX8_look_98 hl (by decide) rfl (fun ls hl => ?_)
            refine lv_iload K.x K.b dX8_look_100 (lv_at hl 0 rfl) ?_
            refine lv_iload K.x K.b dX8_look_102 (lv_at hl 4 rfl) ?_
            obtain ⟨j14, hj14, h⟩ := z_bd_e h
            have Kj14 : ∀ (H : Heap) (locs : List Loc) (ls : Array Slot), z_H D A s.heap [(o_tells, .inl (y 0, 6, .inl e12)), (o, .inr (7, [.ref o_w, g_kept, g_text, g_size, g_above, g_below, .int v_bads, g_noes, g_fulls, g_at, g_from, g_token, g_value, g_readFault, g_yet, g_fars, .ref o_tells])), (o_w, .inl (y 0, 1960, .inl f_w))] H locs → lv_has ls 7 [(0, .ref o), (2, .int r4), (4, .int s6.2.1), (5, .int s6.1), (6, .int j13)] → W p l e (zR 3 70) s m args below meth c H locs 0 0 Q (F0 m 113 ls [.int j14]) := by
              intro H locs ls hH hl
              refine lv_istore_n (lv' := [(3, .int j14), (0, .ref o), (2, .int r4), (4, .int s6.2.1), (5, .int s6.1), (6, .int j13)]) K.x K.b dX8_look_113 rfl hl (by decide) rfl (fun ls hl => ?_)
              refine lv_iload K.x K.b dX8_look_114 (lv_at hl 5 rfl) ?_
              refine lv_iload K.x K.b dX8_look_116 (lv_at hl 3 rfl) ?_
              obtain ⟨j15, hj15, h⟩ := z_bd_e h
              have Kj15 : ∀ (H : Heap) (locs : List Loc) (ls : Array Slot), z_H D A s.heap [(o_tells, .inl (y 0, 6, .inl e12)), (o, .inr (7, [.ref o_w, g_kept, g_text, g_size, g_above, g_below, .int v_bads, g_noes, g_fulls, g_at, g_from, g_token, g_value, g_readFault, g_yet, g_fars, .ref o_tells])), (o_w, .inl (y 0, 1960, .inl f_w))] H locs → lv_has ls 7 [(0, .ref o), (2, .int r4), (3, .int j14), (5, .int s6.1)] → W p l e (zR 3 70) s m args below meth c H locs 0 0 Q (F0 m 128 ls [.int j15]) := by
                intro H locs ls hH hl
                refine lv_istore (lv' := [(4, .int j15), (0, .ref o), (2, .int r4), (3, .int j14), (5, .int s6.1)]) K.x K.b dX8_look_128 hl (by decide) rfl (fun ls hl => ?_)
                obtain ⟨x16, ex16, h⟩ := z_lt_e h
                refine lv_iinc (v := x16) (lv' := [(5, .int x16), (4, .int j15), (0, .ref o), (2, .int r4), (3, .int j14)]) K.x K.b dX8_look_130 hl (k := 4) rfl (by rw [ex16]; rfl) (by decide) rfl (fun ls hl => ?_)
                refine lv_goto (tgt := 28) K.x K.b dX8_look_133 (by decide) ?_
                exact ihe7 _ (Option.some.inj h).symm _ _ _ hH (lv_sub hl [2, 3, 4, 1, 0] rfl)
              replace h := hj15
              refine lv_icmp_ge (tgt := 126) K.x K.b dX8_look_118 (by decide) (fun c17 => ?_) (fun c17 => ?_)
              · replace h := z_t c17 h
                refine lv_iload K.x K.b dX8_look_126 (lv_at hl 3 rfl) ?_
                obtain rfl := Option.some.inj h
                exact Kj15 _ _ _ hH (lv_sub hl [1, 2, 0, 4] rfl)
              · replace h := z_f c17 h
                refine lv_iload K.x K.b dX8_look_121 (lv_at hl 5 rfl) ?_
                refine lv_goto (tgt := 128) K.x K.b dX8_look_123 (by decide) ?_
                obtain rfl := Option.some.inj h
                exact Kj15 _ _ _ hH (lv_sub hl [1, 2, 0, 4] rfl)
            replace h := hj14
            refine lv_icmp_ge (tgt := 112) K.x K.b dX8_look_104 (by decide) (fun c18 => ?_) (fun c18 => ?_)
            · replace h := z_t c18 h
              refine lv_iload_n K.x K.b dX8_look_112 rfl (lv_at hl 3 rfl) ?_
              obtain rfl := Option.some.inj h
              exact Kj14 _ _ _ hH (lv_sub hl [1, 2, 4, 5, 0] rfl)
            · replace h := z_f c18 h
              refine lv_iload K.x K.b dX8_look_107 (lv_at hl 5 rfl) ?_
              refine lv_goto (tgt := 113) K.x K.b dX8_look_109 (by decide) ?_
              obtain rfl := Option.some.inj h
              exact Kj14 _ _ _ hH (lv_sub hl [1, 2, 4, 5, 0] rfl)
          replace h := hj13
          refine lv_icmp_gt (tgt := 96) K.x K.b dX8_look_85 (by decide) (fun c19 => ?_) (fun c19 => ?_)
          · replace h := z_t c19 h
            refine lv_bipush (v := (99)) K.x K.b dX8_look_96 (by decide) ?_
            obtain rfl := Option.some.inj h
            exact Kj13 _ _ _ hH (lv_sub hl [0, 1, 2, 3, 4] rfl)
          · replace h := z_f c19 h
            refine lv_aload_n K.x K.b dX8_look_88 rfl (lv_at hl 0 rfl) ?_
            refine lv_iload_n K.x K.b dX8_look_89 rfl (lv_at hl 1 rfl) ?_
            obtain ⟨r20, hr21, h⟩ := z_bd_e h
            refine z_Vi K hH hl.1 (c_X8_greatestPart l D y o o_tells (.ref o_w) (g_kept) (g_text) (g_size) (g_above) (g_below) (.int v_bads) (g_noes) (g_fulls) (g_at) (g_from) (g_token) (g_value) (g_readFault) (g_yet) (g_fars) e12 r4 r20 hr21) (z_cwV K 1 tw_5_204 tw_5_206 tw_0_80 tw_1_8 tw_5_207 hd_X8_greatestPart ⟨by decide, by decide⟩) [1, 0] [2] rfl (wr := [(o_w, .inl (y 0, 1960, .inl f_w))]) rfl rfl rfl (by decide) rfl rfl rfl (As := [.int r4]) (rest := []) rfl (Nat.le_of_ble_eq_true rfl) ⟨Nat.zero_le _, Nat.zero_le _⟩ dX8_look_90 (ws' := [(o_w, .inl (y 0, 1960, .inl f_w)), (o, .inr (7, [.ref o_w, g_kept, g_text, g_size, g_above, g_below, .int v_bads, g_noes, g_fulls, g_at, g_from, g_token, g_value, g_readFault, g_yet, g_fars, .ref o_tells])), (o_tells, .inl (y 0, 6, .inl e12))]) rfl (fun H locs hH => ?_)
            refine lv_goto (tgt := 98) K.x K.b dX8_look_93 (by decide) ?_
            obtain rfl := Option.some.inj h
            exact Kj13 _ _ _ (hH.sub [2, 1, 0] (by decide) rfl) (lv_sub hl [0, 1, 2, 3, 4] rfl)
        refine z_lp_ind (P := fun (s11 : Int32 × (Nat → Int32)) => ∀ (H : Heap) (locs : List Loc) (ls : Array Slot), z_H D A s.heap [(o_tells, .inl (y 0, 6, .inl s11.2)), (o, .inr (7, [.ref o_w, g_kept, g_text, g_size, g_above, g_below, .int v_bads, g_noes, g_fulls, g_at, g_from, g_token, g_value, g_readFault, g_yet, g_fars, .ref o_tells])), (o_w, .inl (y 0, 1960, .inl f_w))] H locs → lv_has ls 7 [(0, .ref o), (2, .int r4), (3, .int s6.2.2.1), (4, .int s6.2.1), (5, .int s6.1), (6, .int s11.1)] → W p l e (zR 3 70) s m args below meth c H locs 0 0 Q (F0 m 43 ls [])) ?_ _ hlpe12 _ _ _ hH (lv_sub hl [1, 2, 3, 4, 5, 0] rfl)
        clear h hlpe12
        intro s11 x22 h ihe12 hee12 H locs ls hH hl
        refine lv_iload K.x K.b dX8_look_43 (lv_at hl 5 rfl) ?_
        refine lv_bipush (v := (6)) K.x K.b dX8_look_45 (by decide) ?_
        refine lv_icmp_ge (tgt := 78) K.x K.b dX8_look_47 (by decide) (fun c23 => ?_) (fun c23 => ?_)
        · replace h := z_t c23 h
          obtain rfl := hee12 _ (Option.some.inj h).symm
          exact KEe12 _ _ _ hH (lv_sub hl [0, 1, 2, 3, 4] rfl)
        · replace h := z_f c23 h
          refine lv_aload_n K.x K.b dX8_look_50 rfl (lv_at hl 0 rfl) ?_
          refine z_get K hH 1 rfl zin_8 rfl 16 (by decide) tw_4_112 (v := .ref o_tells) rfl dX8_look_51 ?_
          refine lv_iload K.x K.b dX8_look_54 (lv_at hl 5 rfl) ?_
          refine lv_iload K.x K.b dX8_look_56 (lv_at hl 5 rfl) ?_
          refine lv_iload K.x K.b dX8_look_58 (lv_at hl 4 rfl) ?_
          refine lv_bipush (v := (100)) K.x K.b dX8_look_60 (by decide) ?_
          refine lv_irem K.x K.b dX8_look_62 (by decide) ?_
          refine lv_iload K.x K.b dX8_look_63 (lv_at hl 4 rfl) ?_
          refine lv_bipush (v := (100)) K.x K.b dX8_look_65 (by decide) ?_
          refine lv_idiv K.x K.b dX8_look_67 (by decide) ?_
          obtain ⟨x24, ex24, h⟩ := z_lt_e h
          refine z_nm ex24 ?_
          obtain ⟨x25, ex25, h⟩ := z_lt_e h
          refine z_nm2 ex25 ?_
          obtain ⟨r26, hr27, h⟩ := z_bd_e h
          refine z_Si K hH hl.1 (c_X8_farOf l D y s11.1 x25 x24 r26 hr27) (z_cwS K 3 tw_5_37 tw_5_38 tw_1_8 tw_5_39 hd_X8_farOf ⟨by decide, by decide⟩) rfl (As := [.int s11.1, .int x25, .int x24]) (rest := [.int s11.1, .ref o_tells]) rfl (Nat.le_of_ble_eq_true rfl) ⟨Nat.zero_le _, Nat.zero_le _⟩ dX8_look_68 (fun H locs hH => ?_)
          obtain ⟨g28, h⟩ := z_gd_e h
          obtain ⟨a29, ea29, h⟩ := z_lt_e h
          refine z_iast K hH 0 (k := s11.1.toNatClampNeg) (ws' := [(o_tells, .inl (y 0, 6, .inl a29)), (o, .inr (7, [.ref o_w, g_kept, g_text, g_size, g_above, g_below, .int v_bads, g_noes, g_fulls, g_at, g_from, g_token, g_value, g_readFault, g_yet, g_fars, .ref o_tells])), (o_w, .inl (y 0, 1960, .inl f_w))]) rfl g28 rfl dX8_look_71 (by rw [ea29]; rfl) (fun H locs hH => ?_)
          obtain ⟨x30, ex30, h⟩ := z_lt_e h
          refine lv_iinc (v := x30) (lv' := [(6, .int x30), (0, .ref o), (2, .int r4), (3, .int s6.2.2.1), (4, .int s6.2.1), (5, .int s6.1)]) K.x K.b dX8_look_72 hl (k := 5) rfl (by rw [ex30]; rfl) (by decide) rfl (fun ls hl => ?_)
          refine lv_goto (tgt := 43) K.x K.b dX8_look_75 (by decide) ?_
          exact ihe12 _ (Option.some.inj h).symm _ _ _ hH (lv_sub hl [1, 2, 3, 4, 5, 0] rfl)
  · replace h := z_t c3 h
    refine lv_aload_n K.x K.b dX8_look_8 rfl (lv_at hl 0 rfl) ?_
    obtain ⟨r31, hr32, h⟩ := z_bd_e h
    refine z_Vi K hH hl.1 (c_X8_bad l D y o (.ref o_w) (g_kept) (g_text) (g_size) (g_above) (g_below) (g_noes) (g_fulls) (g_at) (g_from) (g_token) (g_value) (g_readFault) (g_yet) (g_fars) (.ref o_tells) v_bads r31 hr32) (z_cwV K 0 tw_4_163 tw_4_165 tw_0_37 tw_1_8 tw_4_166 hd_X8_bad ⟨by decide, by decide⟩) [1] [0, 2] rfl (wr := [(o_tells, .inl (y 0, 6, .inl f_tells)), (o_w, .inl (y 0, 1960, .inl f_w))]) rfl rfl rfl (by decide) rfl rfl rfl (As := []) (rest := []) rfl (Nat.le_of_ble_eq_true rfl) ⟨Nat.zero_le _, Nat.zero_le _⟩ dX8_look_9 (ws' := [(o_tells, .inl (y 0, 6, .inl f_tells)), (o_w, .inl (y 0, 1960, .inl f_w)), (o, .inr (7, [.ref o_w, g_kept, g_text, g_size, g_above, g_below, .int r31.2, g_noes, g_fulls, g_at, g_from, g_token, g_value, g_readFault, g_yet, g_fars, .ref o_tells]))]) rfl (fun H locs hH => ?_)
    have hr9 := Option.some.inj h
    obtain rfl := hr9
    rw [hQ]
    exact z_reti K hr hH [2, 1, 0] (by decide) rfl rfl rfl dX8_look_12
noncomputable def p_X8_ask (v_bads : Int32) (f_w : (Nat → Int32)) (f_tells : (Nat → Int32)) (p1 : Int32) : Option (Int32 × Int32 × (Nat → Int32)) :=
  z_bd (p_X8_isCrow f_w p1) fun r1 =>
  if (r1 = 0) then
  (z_bd (p_X8_bad v_bads) fun r34 =>
  some (r34.1, r34.2, f_tells)) else
  (z_bd (p_X8_kindsOf f_w p1) fun r4 =>
  z_bd (z_lp (S := Int32 × Int32 × Int32 × (Nat → Int32)) (E := Int32 × (Nat → Int32)) (fun s6 =>
  if ((2400 : Int32) ≤ s6.1) then
  (some (.inr (s6.2.2.1, s6.2.2.2))) else
  (if (r4 = 0) then
  (some (.inr (s6.2.2.1, s6.2.2.2))) else
  (z_bd (z_lp (S := Int32 × (Nat → Int32)) (E := (Nat → Int32)) (fun s11 =>
  if ((6 : Int32) ≤ s11.1) then
  (some (.inr s11.2)) else
  (z_lt (((3 : Int32) + p1)) fun x24 =>
  z_gd (z_in x24 1960) <|
  z_lt ((f_w x24.toNatClampNeg)) fun x26 =>
  z_lt ((s6.1 / (100 : Int32))) fun x27 =>
  z_lt ((s6.1 - s6.1 / (100 : Int32) * (100 : Int32))) fun x28 =>
  z_bd (p_X8_madeOf s11.1 x28 x27 x26) fun r29 =>
  z_gd (z_in s11.1 6) <|
  z_lt ((upd s11.2 s11.1.toNatClampNeg r29)) fun a32 =>
  z_lt (s11.1 + (1 : Int32)) fun x33 =>
  some (.inl (x33, a32)))) ((0 : Int32), s6.2.2.2)) fun e12 =>
  z_bd (α := Int32) (if ((18 : Int32) < (s6.1 - s6.1 / (100 : Int32) * (100 : Int32))) then
  (some (99 : Int32)) else
  (z_bd (p_X8_greatestPart e12 r4) fun r20 =>
  some r20)) fun j13 =>
  z_bd (α := Int32) (if (s6.2.1 ≤ j13) then
  (some s6.2.2.1) else
  (some s6.1)) fun j14 =>
  z_bd (α := Int32) (if (s6.2.1 ≤ j13) then
  (some s6.2.1) else
  (some j13)) fun j15 =>
  z_lt (s6.1 + (1 : Int32)) fun x16 =>
  some (.inl (x16, j15, j14, e12))))) ((0 : Int32), (99 : Int32), (-1 : Int32), f_tells)) fun e7 =>
  some (e7.1, v_bads, e7.2))
theorem hd_X8_ask : yX8_ask.cls = RX8 ∧ yX8_ask.cls ≠ "java/lang/invoke/MethodHandle" ∧ yX8_ask.cls ≠ "java/lang/invoke/VarHandle" ∧ (parseMethodDescriptor yX8_ask.desc).map (fun d => d.parameters.length) = some 1 := by decide +kernel
set_option maxHeartbeats 4000000 in
set_option maxRecDepth 100000 in
theorem c_X8_ask (l : Launch) (D : va_G) (y : Nat → ClassId) (o o_w o_tells : Nat) (g_kept g_text g_size g_above g_below g_noes g_fulls g_at g_from g_token g_value g_readFault g_yet g_fars : Value) (v_bads : Int32) (f_w : (Nat → Int32)) (f_tells : (Nat → Int32)) (p1 : Int32) (r : Int32 × Int32 × (Nat → Int32)) (h : p_X8_ask v_bads f_w f_tells p1 = some r) : z_MI l yX8_ask cX8_ask 7 (some .int) 3 71 D y [.ref o, .int p1] [(o, .inr (7, [.ref o_w, g_kept, g_text, g_size, g_above, g_below, .int v_bads, g_noes, g_fulls, g_at, g_from, g_token, g_value, g_readFault, g_yet, g_fars, .ref o_tells])), (o_w, .inl (y 0, 1960, .inl f_w)), (o_tells, .inl (y 0, 6, .inl f_tells))] r.1 [(o, .inr (7, [.ref o_w, g_kept, g_text, g_size, g_above, g_below, .int r.2.1, g_noes, g_fulls, g_at, g_from, g_token, g_value, g_readFault, g_yet, g_fars, .ref o_tells])), (o_w, .inl (y 0, 1960, .inl f_w)), (o_tells, .inl (y 0, 6, .inl r.2.2))] := by
  unfold p_X8_ask at h
  refine z_enI (by decide) (Nat.le_of_ble_eq_true rfl) ?_
  intro p e s m args below meth c A ls hr K hH hl
  obtain ⟨Q, hQ⟩ : ∃ Q, Q = MQ below (z_Qi D y A r.1 [(o, .inr (7, [.ref o_w, g_kept, g_text, g_size, g_above, g_below, .int r.2.1, g_noes, g_fulls, g_at, g_from, g_token, g_value, g_readFault, g_yet, g_fars, .ref o_tells])), (o_w, .inl (y 0, 1960, .inl f_w)), (o_tells, .inl (y 0, 6, .inl r.2.2))]) args s 0 0 A := ⟨_, rfl⟩
  rw [← hQ]
  have hl : lv_has ls 7 [(0, .ref o), (1, .int p1)] := hl
  refine lv_aload_n K.x K.b dX8_ask_0 rfl (lv_at hl 0 rfl) ?_
  refine lv_iload_n K.x K.b dX8_ask_1 rfl (lv_at hl 1 rfl) ?_
  obtain ⟨r1, hr2, h⟩ := z_bd_e h
  refine z_Vi K hH hl.1 (c_X8_isCrow l D y o o_w (g_kept) (g_text) (g_size) (g_above) (g_below) (.int v_bads) (g_noes) (g_fulls) (g_at) (g_from) (g_token) (g_value) (g_readFault) (g_yet) (g_fars) (.ref o_tells) f_w p1 r1 hr2) (z_cwV K 1 tw_5_64 tw_5_66 tw_0_65 tw_1_8 tw_5_67 hd_X8_isCrow ⟨by decide, by decide⟩) [0, 1] [2] rfl (wr := [(o_tells, .inl (y 0, 6, .inl f_tells))]) rfl rfl rfl (by decide) rfl rfl rfl (As := [.int p1]) (rest := []) rfl (Nat.le_of_ble_eq_true rfl) ⟨Nat.zero_le _, Nat.zero_le _⟩ dX8_ask_2 (ws' := [(o_tells, .inl (y 0, 6, .inl f_tells)), (o, .inr (7, [.ref o_w, g_kept, g_text, g_size, g_above, g_below, .int v_bads, g_noes, g_fulls, g_at, g_from, g_token, g_value, g_readFault, g_yet, g_fars, .ref o_tells])), (o_w, .inl (y 0, 1960, .inl f_w))]) rfl (fun H locs hH => ?_)
  refine lv_if_ne (tgt := 13) K.x K.b dX8_ask_5 (by decide) (fun c3 => ?_) (fun c3 => ?_)
  · replace h := z_f c3 h
    refine lv_aload_n K.x K.b dX8_ask_13 rfl (lv_at hl 0 rfl) ?_
    refine lv_iload_n K.x K.b dX8_ask_14 rfl (lv_at hl 1 rfl) ?_
    obtain ⟨r4, hr5, h⟩ := z_bd_e h
    refine z_Vi K hH hl.1 (c_X8_kindsOf l D y o o_w (g_kept) (g_text) (g_size) (g_above) (g_below) (.int v_bads) (g_noes) (g_fulls) (g_at) (g_from) (g_token) (g_value) (g_readFault) (g_yet) (g_fars) (.ref o_tells) f_w p1 r4 hr5) (z_cwV K 1 tw_5_196 tw_5_198 tw_0_79 tw_1_8 tw_5_199 hd_X8_kindsOf ⟨by decide, by decide⟩) [1, 2] [0] rfl (wr := [(o_tells, .inl (y 0, 6, .inl f_tells))]) rfl rfl rfl (by decide) rfl rfl rfl (As := [.int p1]) (rest := []) rfl (Nat.le_of_ble_eq_true rfl) ⟨Nat.zero_le _, Nat.zero_le _⟩ dX8_ask_15 (ws' := [(o_tells, .inl (y 0, 6, .inl f_tells)), (o, .inr (7, [.ref o_w, g_kept, g_text, g_size, g_above, g_below, .int v_bads, g_noes, g_fulls, g_at, g_from, g_token, g_value, g_readFault, g_yet, g_fars, .ref o_tells])), (o_w, .inl (y 0, 1960, .inl f_w))]) rfl (fun H locs hH => ?_)
    refine lv_istore_n (lv' := [(2, .int r4), (0, .ref o), (1, .int p1)]) K.x K.b dX8_ask_18 rfl hl (by decide) rfl (fun ls hl => ?_)
    refine lv_iconst (v := (-1)) K.x K.b dX8_ask_19 (by decide) ?_
    refine lv_istore_n (lv' := [(3, .int (-1 : Int32)), (2, .int r4), (0, .ref o), (1, .int p1)]) K.x K.b dX8_ask_20 rfl hl (by decide) rfl (fun ls hl => ?_)
    refine lv_bipush (v := (99)) K.x K.b dX8_ask_21 (by decide) ?_
    refine lv_istore (lv' := [(4, .int (99 : Int32)), (3, .int (-1 : Int32)), (2, .int r4), (0, .ref o), (1, .int p1)]) K.x K.b dX8_ask_23 hl (by decide) rfl (fun ls hl => ?_)
    refine lv_iconst (v := (0)) K.x K.b dX8_ask_25 (by decide) ?_
    refine lv_istore (lv' := [(5, .int (0 : Int32)), (4, .int (99 : Int32)), (3, .int (-1 : Int32)), (2, .int r4), (0, .ref o), (1, .int p1)]) K.x K.b dX8_ask_26 hl (by decide) rfl (fun ls hl => ?_)
    obtain ⟨e7, hlpe7, h⟩ := z_bd_e h
    have KEe7 : ∀ (H : Heap) (locs : List Loc) (ls : Array Slot), z_H D A s.heap [(o_tells, .inl (y 0, 6, .inl e7.2)), (o, .inr (7, [.ref o_w, g_kept, g_text, g_size, g_above, g_below, .int v_bads, g_noes, g_fulls, g_at, g_from, g_token, g_value, g_readFault, g_yet, g_fars, .ref o_tells])), (o_w, .inl (y 0, 1960, .inl f_w))] H locs → lv_has ls 7 [(3, .int e7.1)] → W p l e (zR 3 71) s m args below meth c H locs 0 0 Q (F0 m 144 ls []) := by
      intro H locs ls hH hl
      refine lv_iload_n K.x K.b dX8_ask_144 rfl (lv_at hl 0 rfl) ?_
      have hr9 := Option.some.inj h
      obtain rfl := hr9
      rw [hQ]
      exact z_reti K hr hH [1, 2, 0] (by decide) rfl rfl rfl dX8_ask_145
    refine z_lp_ind (P := fun (s6 : Int32 × Int32 × Int32 × (Nat → Int32)) => ∀ (H : Heap) (locs : List Loc) (ls : Array Slot), z_H D A s.heap [(o_tells, .inl (y 0, 6, .inl s6.2.2.2)), (o, .inr (7, [.ref o_w, g_kept, g_text, g_size, g_above, g_below, .int v_bads, g_noes, g_fulls, g_at, g_from, g_token, g_value, g_readFault, g_yet, g_fars, .ref o_tells])), (o_w, .inl (y 0, 1960, .inl f_w))] H locs → lv_has ls 7 [(0, .ref o), (1, .int p1), (2, .int r4), (3, .int s6.2.2.1), (4, .int s6.2.1), (5, .int s6.1)] → W p l e (zR 3 71) s m args below meth c H locs 0 0 Q (F0 m 28 ls [])) ?_ _ hlpe7 _ _ _ hH (lv_sub hl [4, 5, 3, 2, 1, 0] rfl)
    clear h hlpe7
    intro s6 x8 h ihe7 hee7 H locs ls hH hl
    refine lv_iload K.x K.b dX8_ask_28 (lv_at hl 5 rfl) ?_
    refine lv_sipush (v := (2400)) K.x K.b dX8_ask_30 (by decide) ?_
    refine lv_icmp_ge (tgt := 144) K.x K.b dX8_ask_33 (by decide) (fun c9 => ?_) (fun c9 => ?_)
    · replace h := z_t c9 h
      obtain rfl := hee7 _ (Option.some.inj h).symm
      exact KEe7 _ _ _ hH (lv_sub hl [3] rfl)
    · replace h := z_f c9 h
      refine lv_iload_n K.x K.b dX8_ask_36 rfl (lv_at hl 2 rfl) ?_
      refine lv_if_eq (tgt := 144) K.x K.b dX8_ask_37 (by decide) (fun c10 => ?_) (fun c10 => ?_)
      · replace h := z_t c10 h
        obtain rfl := hee7 _ (Option.some.inj h).symm
        exact KEe7 _ _ _ hH (lv_sub hl [3] rfl)
      · replace h := z_f c10 h
        refine lv_iconst (v := (0)) K.x K.b dX8_ask_40 (by decide) ?_
        refine lv_istore (lv' := [(6, .int (0 : Int32)), (0, .ref o), (1, .int p1), (2, .int r4), (3, .int s6.2.2.1), (4, .int s6.2.1), (5, .int s6.1)]) K.x K.b dX8_ask_41 hl (by decide) rfl (fun ls hl => ?_)
        obtain ⟨e12, hlpe12, h⟩ := z_bd_e h
        have KEe12 : ∀ (H : Heap) (locs : List Loc) (ls : Array Slot), z_H D A s.heap [(o_tells, .inl (y 0, 6, .inl e12)), (o, .inr (7, [.ref o_w, g_kept, g_text, g_size, g_above, g_below, .int v_bads, g_noes, g_fulls, g_at, g_from, g_token, g_value, g_readFault, g_yet, g_fars, .ref o_tells])), (o_w, .inl (y 0, 1960, .inl f_w))] H locs → lv_has ls 7 [(0, .ref o), (1, .int p1), (2, .int r4), (3, .int s6.2.2.1), (4, .int s6.2.1), (5, .int s6.1)] → W p l e (zR 3 71) s m args below meth c H locs 0 0 Q (F0 m 86 ls []) := by
          intro H locs ls hH hl
          refine lv_iload K.x K.b dX8_ask_86 (lv_at hl 5 rfl) ?_
          refine lv_bipush (v := (100)) K.x K.b dX8_ask_88 (by decide) ?_
          refine lv_irem K.x K.b dX8_ask_90 (by decide) ?_
          refine lv_bipush (v := (18)) K.x K.b dX8_ask_91 (by decide) ?_
          obtain ⟨j13, hj13, h⟩ := z_bd_e h
          have Kj13 : ∀ (H : Heap) (locs : List Loc) (ls : Array Slot), z_H D A s.heap [(o_tells, .inl (y 0, 6, .inl e12)), (o, .inr (7, [.ref o_w, g_kept, g_text, g_size, g_above, g_below, .int v_bads, g_noes, g_fulls, g_at, g_from, g_token, g_value, g_readFault, g_yet, g_fars, .ref o_tells])), (o_w, .inl (y 0, 1960, .inl f_w))] H locs → lv_has ls 7 [(0, .ref o), (1, .int p1), (2, .int r4), (3, .int s6.2.2.1), (4, .int s6.2.1), (5, .int s6.1)] → W p l e (zR 3 71) s m args below meth c H locs 0 0 Q (F0 m 106 ls [.int j13]) := by
            intro H locs ls hH hl
            refine lv_istore (lv' := [(6, .int j13), (0, .ref o), (1, .int p1), (2, .int r4), (3, .int s6.2.2.1), (4, .int s6.2.1), (5, .int s6.1)]) K.x K.b dX8_ask_106 hl (by decide) rfl (fun ls hl => ?_)
            refine lv_iload K.x K.b dX8_ask_108 (lv_at hl 0 rfl) ?_
            refine lv_iload K.x K.b dX8_ask_110 (lv_at hl 5 rfl) ?_
            obtain ⟨j14, hj14, h⟩ := z_bd_e h
            have Kj14 : ∀ (H : Heap) (locs : List Loc) (ls : Array Slot), z_H D A s.heap [(o_tells, .inl (y 0, 6, .inl e12)), (o, .inr (7, [.ref o_w, g_kept, g_text, g_size, g_above, g_below, .int v_bads, g_noes, g_fulls, g_at, g_from, g_token, g_value, g_readFault, g_yet, g_fars, .ref o_tells])), (o_w, .inl (y 0, 1960, .inl f_w))] H locs → lv_has ls 7 [(0, .ref o), (1, .int p1), (2, .int r4), (4, .int s6.2.1), (5, .int s6.1), (6, .int j13)] → W p l e (zR 3 71) s m args below meth c H locs 0 0 Q (F0 m 121 ls [.int j14]) := by
              intro H locs ls hH hl
              refine lv_istore_n (lv' := [(3, .int j14), (0, .ref o), (1, .int p1), (2, .int r4), (4, .int s6.2.1), (5, .int s6.1), (6, .int j13)]) K.x K.b dX8_ask_121 rfl hl (by decide) rfl (fun ls hl => ?_)
              refine lv_iload K.x K.b dX8_ask_122 (lv_at hl 6 rfl) ?_
              refine lv_iload K.x K.b dX8_ask_124 (lv_at hl 4 rfl) ?_
              obtain ⟨j15, hj15, h⟩ := z_bd_e h
              have Kj15 : ∀ (H : Heap) (locs : List Loc) (ls : Array Slot), z_H D A s.heap [(o_tells, .inl (y 0, 6, .inl e12)), (o, .inr (7, [.ref o_w, g_kept, g_text, g_size, g_above, g_below, .int v_bads, g_noes, g_fulls, g_at, g_from, g_token, g_value, g_readFault, g_yet, g_fars, .ref o_tells])), (o_w, .inl (y 0, 1960, .inl f_w))] H locs → lv_has ls 7 [(0, .ref o), (1, .int p1), (2, .int r4), (3, .int j14), (5, .int s6.1)] → W p l e (zR 3 71) s m args below meth c H locs 0 0 Q (F0 m 136 ls [.int j15]) := by
                intro H locs ls hH hl
                refine lv_istore (lv' := [(4, .int j15), (0, .ref o), (1, .int p1), (2, .int r4), (3, .int j14), (5, .int s6.1)]) K.x K.b dX8_ask_136 hl (by decide) rfl (fun ls hl => ?_)
                obtain ⟨x16, ex16, h⟩ := z_lt_e h
                refine lv_iinc (v := x16) (lv' := [(5, .int x16), (4, .int j15), (0, .ref o), (1, .int p1), (2, .int r4), (3, .int j14)]) K.x K.b dX8_ask_138 hl (k := 5) rfl (by rw [ex16]; rfl) (by decide) rfl (fun ls hl => ?_)
                refine lv_goto (tgt := 28) K.x K.b dX8_ask_141 (by decide) ?_
                exact ihe7 _ (Option.some.inj h).symm _ _ _ hH (lv_sub hl [2, 3, 4, 5, 1, 0] rfl)
              replace h := hj15
              refine lv_icmp_ge (tgt := 134) K.x K.b dX8_ask_126 (by decide) (fun c17 => ?_) (fun c17 => ?_)
              · replace h := z_t c17 h
                refine lv_iload K.x K.b dX8_ask_134 (lv_at hl 4 rfl) ?_
                obtain rfl := Option.some.inj h
                exact Kj15 _ _ _ hH (lv_sub hl [1, 2, 3, 0, 5] rfl)
              · replace h := z_f c17 h
                refine lv_iload K.x K.b dX8_ask_129 (lv_at hl 6 rfl) ?_
                refine lv_goto (tgt := 136) K.x K.b dX8_ask_131 (by decide) ?_
                obtain rfl := Option.some.inj h
                exact Kj15 _ _ _ hH (lv_sub hl [1, 2, 3, 0, 5] rfl)
            replace h := hj14
            refine lv_icmp_ge (tgt := 120) K.x K.b dX8_ask_112 (by decide) (fun c18 => ?_) (fun c18 => ?_)
            · replace h := z_t c18 h
              refine lv_iload_n K.x K.b dX8_ask_120 rfl (lv_at hl 4 rfl) ?_
              obtain rfl := Option.some.inj h
              exact Kj14 _ _ _ hH (lv_sub hl [1, 2, 3, 5, 6, 0] rfl)
            · replace h := z_f c18 h
              refine lv_iload K.x K.b dX8_ask_115 (lv_at hl 6 rfl) ?_
              refine lv_goto (tgt := 121) K.x K.b dX8_ask_117 (by decide) ?_
              obtain rfl := Option.some.inj h
              exact Kj14 _ _ _ hH (lv_sub hl [1, 2, 3, 5, 6, 0] rfl)
          replace h := hj13
          refine lv_icmp_gt (tgt := 104) K.x K.b dX8_ask_93 (by decide) (fun c19 => ?_) (fun c19 => ?_)
          · replace h := z_t c19 h
            refine lv_bipush (v := (99)) K.x K.b dX8_ask_104 (by decide) ?_
            obtain rfl := Option.some.inj h
            exact Kj13 _ _ _ hH (lv_sub hl [0, 1, 2, 3, 4, 5] rfl)
          · replace h := z_f c19 h
            refine lv_aload_n K.x K.b dX8_ask_96 rfl (lv_at hl 0 rfl) ?_
            refine lv_iload_n K.x K.b dX8_ask_97 rfl (lv_at hl 2 rfl) ?_
            obtain ⟨r20, hr21, h⟩ := z_bd_e h
            refine z_Vi K hH hl.1 (c_X8_greatestPart l D y o o_tells (.ref o_w) (g_kept) (g_text) (g_size) (g_above) (g_below) (.int v_bads) (g_noes) (g_fulls) (g_at) (g_from) (g_token) (g_value) (g_readFault) (g_yet) (g_fars) e12 r4 r20 hr21) (z_cwV K 1 tw_5_204 tw_5_206 tw_0_80 tw_1_8 tw_5_207 hd_X8_greatestPart ⟨by decide, by decide⟩) [1, 0] [2] rfl (wr := [(o_w, .inl (y 0, 1960, .inl f_w))]) rfl rfl rfl (by decide) rfl rfl rfl (As := [.int r4]) (rest := []) rfl (Nat.le_of_ble_eq_true rfl) ⟨Nat.zero_le _, Nat.zero_le _⟩ dX8_ask_98 (ws' := [(o_w, .inl (y 0, 1960, .inl f_w)), (o, .inr (7, [.ref o_w, g_kept, g_text, g_size, g_above, g_below, .int v_bads, g_noes, g_fulls, g_at, g_from, g_token, g_value, g_readFault, g_yet, g_fars, .ref o_tells])), (o_tells, .inl (y 0, 6, .inl e12))]) rfl (fun H locs hH => ?_)
            refine lv_goto (tgt := 106) K.x K.b dX8_ask_101 (by decide) ?_
            obtain rfl := Option.some.inj h
            exact Kj13 _ _ _ (hH.sub [2, 1, 0] (by decide) rfl) (lv_sub hl [0, 1, 2, 3, 4, 5] rfl)
        refine z_lp_ind (P := fun (s11 : Int32 × (Nat → Int32)) => ∀ (H : Heap) (locs : List Loc) (ls : Array Slot), z_H D A s.heap [(o_tells, .inl (y 0, 6, .inl s11.2)), (o, .inr (7, [.ref o_w, g_kept, g_text, g_size, g_above, g_below, .int v_bads, g_noes, g_fulls, g_at, g_from, g_token, g_value, g_readFault, g_yet, g_fars, .ref o_tells])), (o_w, .inl (y 0, 1960, .inl f_w))] H locs → lv_has ls 7 [(0, .ref o), (1, .int p1), (2, .int r4), (3, .int s6.2.2.1), (4, .int s6.2.1), (5, .int s6.1), (6, .int s11.1)] → W p l e (zR 3 71) s m args below meth c H locs 0 0 Q (F0 m 43 ls [])) ?_ _ hlpe12 _ _ _ hH (lv_sub hl [1, 2, 3, 4, 5, 6, 0] rfl)
        clear h hlpe12
        intro s11 x22 h ihe12 hee12 H locs ls hH hl
        refine lv_iload K.x K.b dX8_ask_43 (lv_at hl 6 rfl) ?_
        refine lv_bipush (v := (6)) K.x K.b dX8_ask_45 (by decide) ?_
        refine lv_icmp_ge (tgt := 86) K.x K.b dX8_ask_47 (by decide) (fun c23 => ?_) (fun c23 => ?_)
        · replace h := z_t c23 h
          obtain rfl := hee12 _ (Option.some.inj h).symm
          exact KEe12 _ _ _ hH (lv_sub hl [0, 1, 2, 3, 4, 5] rfl)
        · replace h := z_f c23 h
          refine lv_aload_n K.x K.b dX8_ask_50 rfl (lv_at hl 0 rfl) ?_
          refine z_get K hH 1 rfl zin_8 rfl 16 (by decide) tw_4_112 (v := .ref o_tells) rfl dX8_ask_51 ?_
          refine lv_iload K.x K.b dX8_ask_54 (lv_at hl 6 rfl) ?_
          refine lv_iload K.x K.b dX8_ask_56 (lv_at hl 6 rfl) ?_
          refine lv_iload K.x K.b dX8_ask_58 (lv_at hl 5 rfl) ?_
          refine lv_bipush (v := (100)) K.x K.b dX8_ask_60 (by decide) ?_
          refine lv_irem K.x K.b dX8_ask_62 (by decide) ?_
          refine lv_iload K.x K.b dX8_ask_63 (lv_at hl 5 rfl) ?_
          refine lv_bipush (v := (100)) K.x K.b dX8_ask_65 (by decide) ?_
          refine lv_idiv K.x K.b dX8_ask_67 (by decide) ?_
          refine lv_aload_n K.x K.b dX8_ask_68 rfl (lv_at hl 0 rfl) ?_
          refine z_get K hH 1 rfl zin_8 rfl 0 (by decide) tw_4_96 (v := .ref o_w) rfl dX8_ask_69 ?_
          refine lv_iconst (v := (3)) K.x K.b dX8_ask_72 (by decide) ?_
          refine lv_iload_n K.x K.b dX8_ask_73 rfl (lv_at hl 1 rfl) ?_
          refine lv_iadd K.x K.b dX8_ask_74 ?_
          obtain ⟨x24, ex24, h⟩ := z_lt_e h
          refine z_nm ex24 ?_
          obtain ⟨g25, h⟩ := z_gd_e h
          refine z_iald K hH 2 (k := x24.toNatClampNeg) rfl g25 rfl dX8_ask_75 ?_
          obtain ⟨x26, ex26, h⟩ := z_lt_e h
          refine z_nm ex26 ?_
          obtain ⟨x27, ex27, h⟩ := z_lt_e h
          refine z_nm2 ex27 ?_
          obtain ⟨x28, ex28, h⟩ := z_lt_e h
          refine z_nm3 ex28 ?_
          obtain ⟨r29, hr30, h⟩ := z_bd_e h
          refine z_Si K hH hl.1 (c_X8_madeOf l D y s11.1 x28 x27 x26 r29 hr30) (z_cwS K 4 tw_5_31 tw_5_32 tw_1_8 tw_5_33 hd_X8_madeOf ⟨by decide, by decide⟩) rfl (As := [.int s11.1, .int x28, .int x27, .int x26]) (rest := [.int s11.1, .ref o_tells]) rfl (Nat.le_of_ble_eq_true rfl) ⟨Nat.zero_le _, Nat.zero_le _⟩ dX8_ask_76 (fun H locs hH => ?_)
          obtain ⟨g31, h⟩ := z_gd_e h
          obtain ⟨a32, ea32, h⟩ := z_lt_e h
          refine z_iast K hH 0 (k := s11.1.toNatClampNeg) (ws' := [(o_tells, .inl (y 0, 6, .inl a32)), (o, .inr (7, [.ref o_w, g_kept, g_text, g_size, g_above, g_below, .int v_bads, g_noes, g_fulls, g_at, g_from, g_token, g_value, g_readFault, g_yet, g_fars, .ref o_tells])), (o_w, .inl (y 0, 1960, .inl f_w))]) rfl g31 rfl dX8_ask_79 (by rw [ea32]; rfl) (fun H locs hH => ?_)
          obtain ⟨x33, ex33, h⟩ := z_lt_e h
          refine lv_iinc (v := x33) (lv' := [(6, .int x33), (0, .ref o), (1, .int p1), (2, .int r4), (3, .int s6.2.2.1), (4, .int s6.2.1), (5, .int s6.1)]) K.x K.b dX8_ask_80 hl (k := 6) rfl (by rw [ex33]; rfl) (by decide) rfl (fun ls hl => ?_)
          refine lv_goto (tgt := 43) K.x K.b dX8_ask_83 (by decide) ?_
          exact ihe12 _ (Option.some.inj h).symm _ _ _ hH (lv_sub hl [1, 2, 3, 4, 5, 6, 0] rfl)
  · replace h := z_t c3 h
    refine lv_aload_n K.x K.b dX8_ask_8 rfl (lv_at hl 0 rfl) ?_
    obtain ⟨r34, hr35, h⟩ := z_bd_e h
    refine z_Vi K hH hl.1 (c_X8_bad l D y o (.ref o_w) (g_kept) (g_text) (g_size) (g_above) (g_below) (g_noes) (g_fulls) (g_at) (g_from) (g_token) (g_value) (g_readFault) (g_yet) (g_fars) (.ref o_tells) v_bads r34 hr35) (z_cwV K 0 tw_4_163 tw_4_165 tw_0_37 tw_1_8 tw_4_166 hd_X8_bad ⟨by decide, by decide⟩) [1] [0, 2] rfl (wr := [(o_tells, .inl (y 0, 6, .inl f_tells)), (o_w, .inl (y 0, 1960, .inl f_w))]) rfl rfl rfl (by decide) rfl rfl rfl (As := []) (rest := []) rfl (Nat.le_of_ble_eq_true rfl) ⟨Nat.zero_le _, Nat.zero_le _⟩ dX8_ask_9 (ws' := [(o_tells, .inl (y 0, 6, .inl f_tells)), (o_w, .inl (y 0, 1960, .inl f_w)), (o, .inr (7, [.ref o_w, g_kept, g_text, g_size, g_above, g_below, .int r34.2, g_noes, g_fulls, g_at, g_from, g_token, g_value, g_readFault, g_yet, g_fars, .ref o_tells]))]) rfl (fun H locs hH => ?_)
    have hr9 := Option.some.inj h
    obtain rfl := hr9
    rw [hQ]
    exact z_reti K hr hH [2, 1, 0] (by decide) rfl rfl rfl dX8_ask_12
def p_X8_ownerGets (f_w : (Nat → Int32)) (p1 : Int32) (p2 : Int32) (p3 : Int32) : Option (Int32) :=
  z_bd (α := Int32) (if (p2 = p3) then
  (some (5 : Int32)) else
  (some (0 : Int32))) fun j1 =>
  z_gd (z_in p1 1960) <|
  z_lt ((f_w p1.toNatClampNeg)) fun x3 =>
  z_bd (p_X8_farNow f_w p1 x3 p3) fun r4 =>
  some (j1 - (r4 / (10 : Int32)))
theorem hd_X8_ownerGets : yX8_ownerGets.cls = RX8 ∧ yX8_ownerGets.cls ≠ "java/lang/invoke/MethodHandle" ∧ yX8_ownerGets.cls ≠ "java/lang/invoke/VarHandle" ∧ (parseMethodDescriptor yX8_ownerGets.desc).map (fun d => d.parameters.length) = some 3 := by decide +kernel
set_option maxHeartbeats 4000000 in
set_option maxRecDepth 100000 in
theorem c_X8_ownerGets (l : Launch) (D : va_G) (y : Nat → ClassId) (o o_w : Nat) (g_kept g_text g_size g_above g_below g_bads g_noes g_fulls g_at g_from g_token g_value g_readFault g_yet g_fars g_tells : Value) (f_w : (Nat → Int32)) (p1 : Int32) (p2 : Int32) (p3 : Int32) (r : Int32) (h : p_X8_ownerGets f_w p1 p2 p3 = some r) : z_MI l yX8_ownerGets cX8_ownerGets 4 (some .int) 5 121 D y [.ref o, .int p1, .int p2, .int p3] [(o, .inr (7, [.ref o_w, g_kept, g_text, g_size, g_above, g_below, g_bads, g_noes, g_fulls, g_at, g_from, g_token, g_value, g_readFault, g_yet, g_fars, g_tells])), (o_w, .inl (y 0, 1960, .inl f_w))] r [(o, .inr (7, [.ref o_w, g_kept, g_text, g_size, g_above, g_below, g_bads, g_noes, g_fulls, g_at, g_from, g_token, g_value, g_readFault, g_yet, g_fars, g_tells])), (o_w, .inl (y 0, 1960, .inl f_w))] := by
  unfold p_X8_ownerGets at h
  refine z_enI (by decide) (Nat.le_of_ble_eq_true rfl) ?_
  intro p e s m args below meth c A ls hr K hH hl
  obtain ⟨Q, hQ⟩ : ∃ Q, Q = MQ below (z_Qi D y A r [(o, .inr (7, [.ref o_w, g_kept, g_text, g_size, g_above, g_below, g_bads, g_noes, g_fulls, g_at, g_from, g_token, g_value, g_readFault, g_yet, g_fars, g_tells])), (o_w, .inl (y 0, 1960, .inl f_w))]) args s 0 0 A := ⟨_, rfl⟩
  rw [← hQ]
  have hl : lv_has ls 4 [(0, .ref o), (1, .int p1), (2, .int p2), (3, .int p3)] := hl
  refine lv_iload_n K.x K.b dX8_ownerGets_0 rfl (lv_at hl 2 rfl) ?_
  refine lv_iload_n K.x K.b dX8_ownerGets_1 rfl (lv_at hl 3 rfl) ?_
  obtain ⟨j1, hj1, h⟩ := z_bd_e h
  have Kj1 : ∀ (H : Heap) (locs : List Loc) (ls : Array Slot), z_H D A s.heap [(o, .inr (7, [.ref o_w, g_kept, g_text, g_size, g_above, g_below, g_bads, g_noes, g_fulls, g_at, g_from, g_token, g_value, g_readFault, g_yet, g_fars, g_tells])), (o_w, .inl (y 0, 1960, .inl f_w))] H locs → lv_has ls 4 [(0, .ref o), (1, .int p1), (3, .int p3)] → W p l e (zR 5 121) s m args below meth c H locs 0 0 Q (F0 m 10 ls [.int j1]) := by
    intro H locs ls hH hl
    refine lv_aload_n K.x K.b dX8_ownerGets_10 rfl (lv_at hl 0 rfl) ?_
    refine lv_iload_n K.x K.b dX8_ownerGets_11 rfl (lv_at hl 1 rfl) ?_
    refine lv_aload_n K.x K.b dX8_ownerGets_12 rfl (lv_at hl 0 rfl) ?_
    refine z_get K hH 0 rfl zin_8 rfl 0 (by decide) tw_4_96 (v := .ref o_w) rfl dX8_ownerGets_13 ?_
    refine lv_iload_n K.x K.b dX8_ownerGets_16 rfl (lv_at hl 1 rfl) ?_
    obtain ⟨g2, h⟩ := z_gd_e h
    refine z_iald K hH 1 (k := p1.toNatClampNeg) rfl g2 rfl dX8_ownerGets_17 ?_
    refine lv_iload_n K.x K.b dX8_ownerGets_18 rfl (lv_at hl 2 rfl) ?_
    obtain ⟨x3, ex3, h⟩ := z_lt_e h
    refine z_nm2 ex3 ?_
    obtain ⟨r4, hr5, h⟩ := z_bd_e h
    refine z_Vi K hH hl.1 (c_X8_farNow l D y o o_w (g_kept) (g_text) (g_size) (g_above) (g_below) (g_bads) (g_noes) (g_fulls) (g_at) (g_from) (g_token) (g_value) (g_readFault) (g_yet) (g_fars) (g_tells) f_w p1 x3 p3 r4 hr5) (z_cwV K 3 tw_5_104 tw_5_106 tw_0_68 tw_1_8 tw_5_107 hd_X8_farNow ⟨by decide, by decide⟩) [0, 1] [] rfl (wr := []) rfl rfl rfl (by decide) rfl rfl rfl (As := [.int p1, .int x3, .int p3]) (rest := [.int j1]) rfl (Nat.le_of_ble_eq_true rfl) ⟨Nat.zero_le _, Nat.zero_le _⟩ dX8_ownerGets_19 (ws' := [(o, .inr (7, [.ref o_w, g_kept, g_text, g_size, g_above, g_below, g_bads, g_noes, g_fulls, g_at, g_from, g_token, g_value, g_readFault, g_yet, g_fars, g_tells])), (o_w, .inl (y 0, 1960, .inl f_w))]) rfl (fun H locs hH => ?_)
    refine lv_bipush (v := (10)) K.x K.b dX8_ownerGets_22 (by decide) ?_
    refine lv_idiv K.x K.b dX8_ownerGets_24 (by decide) ?_
    refine lv_isub K.x K.b dX8_ownerGets_25 ?_
    have hr9 := Option.some.inj h
    obtain rfl := hr9
    rw [hQ]
    exact z_reti K hr hH [0, 1] (by decide) rfl rfl rfl dX8_ownerGets_26
  replace h := hj1
  refine lv_icmp_ne (tgt := 9) K.x K.b dX8_ownerGets_2 (by decide) (fun c6 => ?_) (fun c6 => ?_)
  · replace h := z_f c6 h
    refine lv_iconst (v := (0)) K.x K.b dX8_ownerGets_9 (by decide) ?_
    obtain rfl := Option.some.inj h
    exact Kj1 _ _ _ hH (lv_sub hl [0, 1, 3] rfl)
  · replace h := z_t c6 h
    refine lv_iconst (v := (5)) K.x K.b dX8_ownerGets_5 (by decide) ?_
    refine lv_goto (tgt := 10) K.x K.b dX8_ownerGets_6 (by decide) ?_
    obtain rfl := Option.some.inj h
    exact Kj1 _ _ _ hH (lv_sub hl [0, 1, 3] rfl)
def p_X8_surveyorGets (f_w : (Nat → Int32)) (p1 : Int32) (p2 : Int32) (p3 : Int32) : Option (Int32) :=
  z_gd (z_in p1 1960) <|
  z_lt ((f_w p1.toNatClampNeg)) fun x2 =>
  z_bd (p_X8_farNow f_w p1 x2 p2) fun r3 =>
  z_bd (α := Int32) (if (p2 = p3) then
  (some (6 : Int32)) else
  (some (0 : Int32))) fun j5 =>
  some ((r3 / (10 : Int32)) - j5)
theorem hd_X8_surveyorGets : yX8_surveyorGets.cls = RX8 ∧ yX8_surveyorGets.cls ≠ "java/lang/invoke/MethodHandle" ∧ yX8_surveyorGets.cls ≠ "java/lang/invoke/VarHandle" ∧ (parseMethodDescriptor yX8_surveyorGets.desc).map (fun d => d.parameters.length) = some 3 := by decide +kernel
set_option maxHeartbeats 4000000 in
set_option maxRecDepth 100000 in
theorem c_X8_surveyorGets (l : Launch) (D : va_G) (y : Nat → ClassId) (o o_w : Nat) (g_kept g_text g_size g_above g_below g_bads g_noes g_fulls g_at g_from g_token g_value g_readFault g_yet g_fars g_tells : Value) (f_w : (Nat → Int32)) (p1 : Int32) (p2 : Int32) (p3 : Int32) (r : Int32) (h : p_X8_surveyorGets f_w p1 p2 p3 = some r) : z_MI l yX8_surveyorGets cX8_surveyorGets 4 (some .int) 5 121 D y [.ref o, .int p1, .int p2, .int p3] [(o, .inr (7, [.ref o_w, g_kept, g_text, g_size, g_above, g_below, g_bads, g_noes, g_fulls, g_at, g_from, g_token, g_value, g_readFault, g_yet, g_fars, g_tells])), (o_w, .inl (y 0, 1960, .inl f_w))] r [(o, .inr (7, [.ref o_w, g_kept, g_text, g_size, g_above, g_below, g_bads, g_noes, g_fulls, g_at, g_from, g_token, g_value, g_readFault, g_yet, g_fars, g_tells])), (o_w, .inl (y 0, 1960, .inl f_w))] := by
  unfold p_X8_surveyorGets at h
  refine z_enI (by decide) (Nat.le_of_ble_eq_true rfl) ?_
  intro p e s m args below meth c A ls hr K hH hl
  obtain ⟨Q, hQ⟩ : ∃ Q, Q = MQ below (z_Qi D y A r [(o, .inr (7, [.ref o_w, g_kept, g_text, g_size, g_above, g_below, g_bads, g_noes, g_fulls, g_at, g_from, g_token, g_value, g_readFault, g_yet, g_fars, g_tells])), (o_w, .inl (y 0, 1960, .inl f_w))]) args s 0 0 A := ⟨_, rfl⟩
  rw [← hQ]
  have hl : lv_has ls 4 [(0, .ref o), (1, .int p1), (2, .int p2), (3, .int p3)] := hl
  refine lv_aload_n K.x K.b dX8_surveyorGets_0 rfl (lv_at hl 0 rfl) ?_
  refine lv_iload_n K.x K.b dX8_surveyorGets_1 rfl (lv_at hl 1 rfl) ?_
  refine lv_aload_n K.x K.b dX8_surveyorGets_2 rfl (lv_at hl 0 rfl) ?_
  refine z_get K hH 0 rfl zin_8 rfl 0 (by decide) tw_4_96 (v := .ref o_w) rfl dX8_surveyorGets_3 ?_
  refine lv_iload_n K.x K.b dX8_surveyorGets_6 rfl (lv_at hl 1 rfl) ?_
  obtain ⟨g1, h⟩ := z_gd_e h
  refine z_iald K hH 1 (k := p1.toNatClampNeg) rfl g1 rfl dX8_surveyorGets_7 ?_
  refine lv_iload_n K.x K.b dX8_surveyorGets_8 rfl (lv_at hl 2 rfl) ?_
  obtain ⟨x2, ex2, h⟩ := z_lt_e h
  refine z_nm2 ex2 ?_
  obtain ⟨r3, hr4, h⟩ := z_bd_e h
  refine z_Vi K hH hl.1 (c_X8_farNow l D y o o_w (g_kept) (g_text) (g_size) (g_above) (g_below) (g_bads) (g_noes) (g_fulls) (g_at) (g_from) (g_token) (g_value) (g_readFault) (g_yet) (g_fars) (g_tells) f_w p1 x2 p2 r3 hr4) (z_cwV K 3 tw_5_104 tw_5_106 tw_0_68 tw_1_8 tw_5_107 hd_X8_farNow ⟨by decide, by decide⟩) [0, 1] [] rfl (wr := []) rfl rfl rfl (by decide) rfl rfl rfl (As := [.int p1, .int x2, .int p2]) (rest := []) rfl (Nat.le_of_ble_eq_true rfl) ⟨Nat.zero_le _, Nat.zero_le _⟩ dX8_surveyorGets_9 (ws' := [(o, .inr (7, [.ref o_w, g_kept, g_text, g_size, g_above, g_below, g_bads, g_noes, g_fulls, g_at, g_from, g_token, g_value, g_readFault, g_yet, g_fars, g_tells])), (o_w, .inl (y 0, 1960, .inl f_w))]) rfl (fun H locs hH => ?_)
  refine lv_bipush (v := (10)) K.x K.b dX8_surveyorGets_12 (by decide) ?_
  refine lv_idiv K.x K.b dX8_surveyorGets_14 (by decide) ?_
  refine lv_iload_n K.x K.b dX8_surveyorGets_15 rfl (lv_at hl 2 rfl) ?_
  refine lv_iload_n K.x K.b dX8_surveyorGets_16 rfl (lv_at hl 3 rfl) ?_
  obtain ⟨j5, hj5, h⟩ := z_bd_e h
  have Kj5 : ∀ (H : Heap) (locs : List Loc) (ls : Array Slot), z_H D A s.heap [(o, .inr (7, [.ref o_w, g_kept, g_text, g_size, g_above, g_below, g_bads, g_noes, g_fulls, g_at, g_from, g_token, g_value, g_readFault, g_yet, g_fars, g_tells])), (o_w, .inl (y 0, 1960, .inl f_w))] H locs → lv_has ls 4 [] → W p l e (zR 5 121) s m args below meth c H locs 0 0 Q (F0 m 26 ls [.int j5, .int (r3 / (10 : Int32))]) := by
    intro H locs ls hH hl
    refine lv_isub K.x K.b dX8_surveyorGets_26 ?_
    have hr9 := Option.some.inj h
    obtain rfl := hr9
    rw [hQ]
    exact z_reti K hr hH [0, 1] (by decide) rfl rfl rfl dX8_surveyorGets_27
  replace h := hj5
  refine lv_icmp_ne (tgt := 25) K.x K.b dX8_surveyorGets_17 (by decide) (fun c6 => ?_) (fun c6 => ?_)
  · replace h := z_f c6 h
    refine lv_iconst (v := (0)) K.x K.b dX8_surveyorGets_25 (by decide) ?_
    obtain rfl := Option.some.inj h
    exact Kj5 _ _ _ hH (lv_sub hl [] rfl)
  · replace h := z_t c6 h
    refine lv_bipush (v := (6)) K.x K.b dX8_surveyorGets_20 (by decide) ?_
    refine lv_goto (tgt := 26) K.x K.b dX8_surveyorGets_22 (by decide) ?_
    obtain rfl := Option.some.inj h
    exact Kj5 _ _ _ hH (lv_sub hl [] rfl)
noncomputable def p_X8_rest (f_w : (Nat → Int32)) (p1 : Int32) (p2 : Int32) (p3 : Int32) : Option (Int32) :=
  z_gd (z_in p1 1960) <|
  z_bd (α := Int32) (if (p2 = (f_w p1.toNatClampNeg)) then
  (some (0 : Int32)) else
  (z_gd (z_in p1 1960) <|
  if (p3 = (f_w p1.toNatClampNeg)) then
  (some (0 : Int32)) else
  (some (1 : Int32)))) fun j2 =>
  z_bd (z_lp (S := Int32 × Int32) (E := Int32) (fun s3 =>
  if ((f_w 418) ≤ s3.1) then
  (some (.inr s3.2)) else
  (if (s3.2 = 0) then
  (some (.inr s3.2)) else
  (z_gd (z_in p1 1960) <|
  z_bd (α := Int32) (if (s3.1 = (f_w p1.toNatClampNeg)) then
  (some s3.2) else
  (z_bd (p_X8_ownerGets f_w p1 p2 s3.1) fun r13 =>
  z_bd (p_X8_ownerGets f_w p1 p2 p3) fun r15 =>
  z_bd (α := Int32) (if (r15 < r13) then
  (some (0 : Int32)) else
  (z_bd (p_X8_surveyorGets f_w p1 s3.1 p3) fun r19 =>
  z_bd (p_X8_surveyorGets f_w p1 p2 p3) fun r21 =>
  if (r21 < r19) then
  (some (0 : Int32)) else
  (some (1 : Int32)))) fun j17 =>
  some j17)) fun j10 =>
  z_lt (s3.1 + (1 : Int32)) fun x11 =>
  some (.inl (x11, j10))))) ((0 : Int32), j2)) fun e4 =>
  z_gd (z_bz e4) <|
  some e4
theorem hd_X8_rest : yX8_rest.cls = RX8 ∧ yX8_rest.cls ≠ "java/lang/invoke/MethodHandle" ∧ yX8_rest.cls ≠ "java/lang/invoke/VarHandle" ∧ (parseMethodDescriptor yX8_rest.desc).map (fun d => d.parameters.length) = some 3 := by decide +kernel
set_option maxHeartbeats 4000000 in
set_option maxRecDepth 100000 in
theorem c_X8_rest (l : Launch) (D : va_G) (y : Nat → ClassId) (o o_w : Nat) (g_kept g_text g_size g_above g_below g_bads g_noes g_fulls g_at g_from g_token g_value g_readFault g_yet g_fars g_tells : Value) (f_w : (Nat → Int32)) (p1 : Int32) (p2 : Int32) (p3 : Int32) (r : Int32) (h : p_X8_rest f_w p1 p2 p3 = some r) : z_MI l yX8_rest cX8_rest 6 (some .boolean) 6 144 D y [.ref o, .int p1, .int p2, .int p3] [(o, .inr (7, [.ref o_w, g_kept, g_text, g_size, g_above, g_below, g_bads, g_noes, g_fulls, g_at, g_from, g_token, g_value, g_readFault, g_yet, g_fars, g_tells])), (o_w, .inl (y 0, 1960, .inl f_w))] r [(o, .inr (7, [.ref o_w, g_kept, g_text, g_size, g_above, g_below, g_bads, g_noes, g_fulls, g_at, g_from, g_token, g_value, g_readFault, g_yet, g_fars, g_tells])), (o_w, .inl (y 0, 1960, .inl f_w))] := by
  unfold p_X8_rest at h
  refine z_enI (by decide) (Nat.le_of_ble_eq_true rfl) ?_
  intro p e s m args below meth c A ls hr K hH hl
  obtain ⟨Q, hQ⟩ : ∃ Q, Q = MQ below (z_Qi D y A r [(o, .inr (7, [.ref o_w, g_kept, g_text, g_size, g_above, g_below, g_bads, g_noes, g_fulls, g_at, g_from, g_token, g_value, g_readFault, g_yet, g_fars, g_tells])), (o_w, .inl (y 0, 1960, .inl f_w))]) args s 0 0 A := ⟨_, rfl⟩
  rw [← hQ]
  have hl : lv_has ls 6 [(0, .ref o), (1, .int p1), (2, .int p2), (3, .int p3)] := hl
  refine lv_iload_n K.x K.b dX8_rest_0 rfl (lv_at hl 2 rfl) ?_
  refine lv_aload_n K.x K.b dX8_rest_1 rfl (lv_at hl 0 rfl) ?_
  refine z_get K hH 0 rfl zin_8 rfl 0 (by decide) tw_4_96 (v := .ref o_w) rfl dX8_rest_2 ?_
  refine lv_iload_n K.x K.b dX8_rest_5 rfl (lv_at hl 1 rfl) ?_
  obtain ⟨g1, h⟩ := z_gd_e h
  refine z_iald K hH 1 (k := p1.toNatClampNeg) rfl g1 rfl dX8_rest_6 ?_
  obtain ⟨j2, hj2, h⟩ := z_bd_e h
  have Kj2 : ∀ (H : Heap) (locs : List Loc) (ls : Array Slot), z_H D A s.heap [(o, .inr (7, [.ref o_w, g_kept, g_text, g_size, g_above, g_below, g_bads, g_noes, g_fulls, g_at, g_from, g_token, g_value, g_readFault, g_yet, g_fars, g_tells])), (o_w, .inl (y 0, 1960, .inl f_w))] H locs → lv_has ls 6 [(0, .ref o), (1, .int p1), (2, .int p2), (3, .int p3)] → W p l e (zR 6 144) s m args below meth c H locs 0 0 Q (F0 m 25 ls [.int j2]) := by
    intro H locs ls hH hl
    refine lv_istore (lv' := [(4, .int j2), (0, .ref o), (1, .int p1), (2, .int p2), (3, .int p3)]) K.x K.b dX8_rest_25 hl (by decide) rfl (fun ls hl => ?_)
    refine lv_iconst (v := (0)) K.x K.b dX8_rest_27 (by decide) ?_
    refine lv_istore (lv' := [(5, .int (0 : Int32)), (4, .int j2), (0, .ref o), (1, .int p1), (2, .int p2), (3, .int p3)]) K.x K.b dX8_rest_28 hl (by decide) rfl (fun ls hl => ?_)
    obtain ⟨e4, hlpe4, h⟩ := z_bd_e h
    have KEe4 : ∀ (H : Heap) (locs : List Loc) (ls : Array Slot), z_H D A s.heap [(o, .inr (7, [.ref o_w, g_kept, g_text, g_size, g_above, g_below, g_bads, g_noes, g_fulls, g_at, g_from, g_token, g_value, g_readFault, g_yet, g_fars, g_tells])), (o_w, .inl (y 0, 1960, .inl f_w))] H locs → lv_has ls 6 [(4, .int e4)] → W p l e (zR 6 144) s m args below meth c H locs 0 0 Q (F0 m 108 ls []) := by
      intro H locs ls hH hl
      refine lv_iload K.x K.b dX8_rest_108 (lv_at hl 0 rfl) ?_
      obtain ⟨g5, h⟩ := z_gd_e h
      have hr9 := Option.some.inj h
      obtain rfl := hr9
      rw [hQ]
      exact z_reti K hr hH [0, 1] (by decide) rfl rfl (z_bz_e g5) dX8_rest_110
    refine z_lp_ind (P := fun (s3 : Int32 × Int32) => ∀ (H : Heap) (locs : List Loc) (ls : Array Slot), z_H D A s.heap [(o, .inr (7, [.ref o_w, g_kept, g_text, g_size, g_above, g_below, g_bads, g_noes, g_fulls, g_at, g_from, g_token, g_value, g_readFault, g_yet, g_fars, g_tells])), (o_w, .inl (y 0, 1960, .inl f_w))] H locs → lv_has ls 6 [(0, .ref o), (1, .int p1), (2, .int p2), (3, .int p3), (4, .int s3.2), (5, .int s3.1)] → W p l e (zR 6 144) s m args below meth c H locs 0 0 Q (F0 m 30 ls [])) ?_ _ hlpe4 _ _ _ hH (lv_sub hl [2, 3, 4, 5, 1, 0] rfl)
    clear h hlpe4
    intro s3 x6 h ihe4 hee4 H locs ls hH hl
    refine lv_iload K.x K.b dX8_rest_30 (lv_at hl 5 rfl) ?_
    refine lv_aload_n K.x K.b dX8_rest_32 rfl (lv_at hl 0 rfl) ?_
    refine z_get K hH 0 rfl zin_8 rfl 0 (by decide) tw_4_96 (v := .ref o_w) rfl dX8_rest_33 ?_
    refine lv_sipush (v := (418)) K.x K.b dX8_rest_36 (by decide) ?_
    refine z_iald K hH 1 (k := 418) rfl (by decide) rfl dX8_rest_39 ?_
    refine lv_icmp_ge (tgt := 108) K.x K.b dX8_rest_40 (by decide) (fun c7 => ?_) (fun c7 => ?_)
    · replace h := z_t c7 h
      obtain rfl := hee4 _ (Option.some.inj h).symm
      exact KEe4 _ _ _ hH (lv_sub hl [4] rfl)
    · replace h := z_f c7 h
      refine lv_iload K.x K.b dX8_rest_43 (lv_at hl 4 rfl) ?_
      refine lv_if_eq (tgt := 108) K.x K.b dX8_rest_45 (by decide) (fun c8 => ?_) (fun c8 => ?_)
      · replace h := z_t c8 h
        obtain rfl := hee4 _ (Option.some.inj h).symm
        exact KEe4 _ _ _ hH (lv_sub hl [4] rfl)
      · replace h := z_f c8 h
        refine lv_iload K.x K.b dX8_rest_48 (lv_at hl 5 rfl) ?_
        refine lv_aload_n K.x K.b dX8_rest_50 rfl (lv_at hl 0 rfl) ?_
        refine z_get K hH 0 rfl zin_8 rfl 0 (by decide) tw_4_96 (v := .ref o_w) rfl dX8_rest_51 ?_
        refine lv_iload_n K.x K.b dX8_rest_54 rfl (lv_at hl 1 rfl) ?_
        obtain ⟨g9, h⟩ := z_gd_e h
        refine z_iald K hH 1 (k := p1.toNatClampNeg) rfl g9 rfl dX8_rest_55 ?_
        obtain ⟨j10, hj10, h⟩ := z_bd_e h
        have Kj10 : ∀ (H : Heap) (locs : List Loc) (ls : Array Slot), z_H D A s.heap [(o, .inr (7, [.ref o_w, g_kept, g_text, g_size, g_above, g_below, g_bads, g_noes, g_fulls, g_at, g_from, g_token, g_value, g_readFault, g_yet, g_fars, g_tells])), (o_w, .inl (y 0, 1960, .inl f_w))] H locs → lv_has ls 6 [(0, .ref o), (1, .int p1), (2, .int p2), (3, .int p3), (4, .int j10), (5, .int s3.1)] → W p l e (zR 6 144) s m args below meth c H locs 0 0 Q (F0 m 102 ls []) := by
          intro H locs ls hH hl
          obtain ⟨x11, ex11, h⟩ := z_lt_e h
          refine lv_iinc (v := x11) (lv' := [(5, .int x11), (0, .ref o), (1, .int p1), (2, .int p2), (3, .int p3), (4, .int j10)]) K.x K.b dX8_rest_102 hl (k := 5) rfl (by rw [ex11]; rfl) (by decide) rfl (fun ls hl => ?_)
          refine lv_goto (tgt := 30) K.x K.b dX8_rest_105 (by decide) ?_
          exact ihe4 _ (Option.some.inj h).symm _ _ _ hH (lv_sub hl [1, 2, 3, 4, 5, 0] rfl)
        replace h := hj10
        refine lv_icmp_eq (tgt := 102) K.x K.b dX8_rest_56 (by decide) (fun c12 => ?_) (fun c12 => ?_)
        · replace h := z_t c12 h
          obtain rfl := Option.some.inj h
          exact Kj10 _ _ _ hH (lv_sub hl [0, 1, 2, 3, 4, 5] rfl)
        · replace h := z_f c12 h
          refine lv_aload_n K.x K.b dX8_rest_59 rfl (lv_at hl 0 rfl) ?_
          refine lv_iload_n K.x K.b dX8_rest_60 rfl (lv_at hl 1 rfl) ?_
          refine lv_iload_n K.x K.b dX8_rest_61 rfl (lv_at hl 2 rfl) ?_
          refine lv_iload K.x K.b dX8_rest_62 (lv_at hl 5 rfl) ?_
          obtain ⟨r13, hr14, h⟩ := z_bd_e h
          refine z_Vi K hH hl.1 (c_X8_ownerGets l D y o o_w (g_kept) (g_text) (g_size) (g_above) (g_below) (g_bads) (g_noes) (g_fulls) (g_at) (g_from) (g_token) (g_value) (g_readFault) (g_yet) (g_fars) (g_tells) f_w p1 p2 s3.1 r13 hr14) (z_cwV K 3 tw_5_220 tw_5_222 tw_0_82 tw_1_8 tw_5_223 hd_X8_ownerGets ⟨by decide, by decide⟩) [0, 1] [] rfl (wr := []) rfl rfl rfl (by decide) rfl rfl rfl (As := [.int p1, .int p2, .int s3.1]) (rest := []) rfl (Nat.le_of_ble_eq_true rfl) ⟨Nat.zero_le _, Nat.zero_le _⟩ dX8_rest_64 (ws' := [(o, .inr (7, [.ref o_w, g_kept, g_text, g_size, g_above, g_below, g_bads, g_noes, g_fulls, g_at, g_from, g_token, g_value, g_readFault, g_yet, g_fars, g_tells])), (o_w, .inl (y 0, 1960, .inl f_w))]) rfl (fun H locs hH => ?_)
          refine lv_aload_n K.x K.b dX8_rest_67 rfl (lv_at hl 0 rfl) ?_
          refine lv_iload_n K.x K.b dX8_rest_68 rfl (lv_at hl 1 rfl) ?_
          refine lv_iload_n K.x K.b dX8_rest_69 rfl (lv_at hl 2 rfl) ?_
          refine lv_iload_n K.x K.b dX8_rest_70 rfl (lv_at hl 3 rfl) ?_
          obtain ⟨r15, hr16, h⟩ := z_bd_e h
          refine z_Vi K hH hl.1 (c_X8_ownerGets l D y o o_w (g_kept) (g_text) (g_size) (g_above) (g_below) (g_bads) (g_noes) (g_fulls) (g_at) (g_from) (g_token) (g_value) (g_readFault) (g_yet) (g_fars) (g_tells) f_w p1 p2 p3 r15 hr16) (z_cwV K 3 tw_5_220 tw_5_222 tw_0_82 tw_1_8 tw_5_223 hd_X8_ownerGets ⟨by decide, by decide⟩) [0, 1] [] rfl (wr := []) rfl rfl rfl (by decide) rfl rfl rfl (As := [.int p1, .int p2, .int p3]) (rest := [.int r13]) rfl (Nat.le_of_ble_eq_true rfl) ⟨Nat.zero_le _, Nat.zero_le _⟩ dX8_rest_71 (ws' := [(o, .inr (7, [.ref o_w, g_kept, g_text, g_size, g_above, g_below, g_bads, g_noes, g_fulls, g_at, g_from, g_token, g_value, g_readFault, g_yet, g_fars, g_tells])), (o_w, .inl (y 0, 1960, .inl f_w))]) rfl (fun H locs hH => ?_)
          obtain ⟨j17, hj17, h⟩ := z_bd_e h
          have Kj17 : ∀ (H : Heap) (locs : List Loc) (ls : Array Slot), z_H D A s.heap [(o, .inr (7, [.ref o_w, g_kept, g_text, g_size, g_above, g_below, g_bads, g_noes, g_fulls, g_at, g_from, g_token, g_value, g_readFault, g_yet, g_fars, g_tells])), (o_w, .inl (y 0, 1960, .inl f_w))] H locs → lv_has ls 6 [(0, .ref o), (1, .int p1), (2, .int p2), (3, .int p3), (5, .int s3.1)] → W p l e (zR 6 144) s m args below meth c H locs 0 0 Q (F0 m 100 ls [.int j17]) := by
            intro H locs ls hH hl
            refine lv_istore (lv' := [(4, .int j17), (0, .ref o), (1, .int p1), (2, .int p2), (3, .int p3), (5, .int s3.1)]) K.x K.b dX8_rest_100 hl (by decide) rfl (fun ls hl => ?_)
            obtain rfl := Option.some.inj h
            exact Kj10 _ _ _ hH (lv_sub hl [1, 2, 3, 4, 0, 5] rfl)
          replace h := hj17
          refine lv_icmp_gt (tgt := 99) K.x K.b dX8_rest_74 (by decide) (fun c18 => ?_) (fun c18 => ?_)
          · replace h := z_t c18 h
            refine lv_iconst (v := (0)) K.x K.b dX8_rest_99 (by decide) ?_
            obtain rfl := Option.some.inj h
            exact Kj17 _ _ _ hH (lv_sub hl [0, 1, 2, 3, 5] rfl)
          · replace h := z_f c18 h
            refine lv_aload_n K.x K.b dX8_rest_77 rfl (lv_at hl 0 rfl) ?_
            refine lv_iload_n K.x K.b dX8_rest_78 rfl (lv_at hl 1 rfl) ?_
            refine lv_iload K.x K.b dX8_rest_79 (lv_at hl 5 rfl) ?_
            refine lv_iload_n K.x K.b dX8_rest_81 rfl (lv_at hl 3 rfl) ?_
            obtain ⟨r19, hr20, h⟩ := z_bd_e h
            refine z_Vi K hH hl.1 (c_X8_surveyorGets l D y o o_w (g_kept) (g_text) (g_size) (g_above) (g_below) (g_bads) (g_noes) (g_fulls) (g_at) (g_from) (g_token) (g_value) (g_readFault) (g_yet) (g_fars) (g_tells) f_w p1 s3.1 p3 r19 hr20) (z_cwV K 3 tw_5_224 tw_5_226 tw_0_83 tw_1_8 tw_5_227 hd_X8_surveyorGets ⟨by decide, by decide⟩) [0, 1] [] rfl (wr := []) rfl rfl rfl (by decide) rfl rfl rfl (As := [.int p1, .int s3.1, .int p3]) (rest := []) rfl (Nat.le_of_ble_eq_true rfl) ⟨Nat.zero_le _, Nat.zero_le _⟩ dX8_rest_82 (ws' := [(o, .inr (7, [.ref o_w, g_kept, g_text, g_size, g_above, g_below, g_bads, g_noes, g_fulls, g_at, g_from, g_token, g_value, g_readFault, g_yet, g_fars, g_tells])), (o_w, .inl (y 0, 1960, .inl f_w))]) rfl (fun H locs hH => ?_)
            refine lv_aload_n K.x K.b dX8_rest_85 rfl (lv_at hl 0 rfl) ?_
            refine lv_iload_n K.x K.b dX8_rest_86 rfl (lv_at hl 1 rfl) ?_
            refine lv_iload_n K.x K.b dX8_rest_87 rfl (lv_at hl 2 rfl) ?_
            refine lv_iload_n K.x K.b dX8_rest_88 rfl (lv_at hl 3 rfl) ?_
            obtain ⟨r21, hr22, h⟩ := z_bd_e h
            refine z_Vi K hH hl.1 (c_X8_surveyorGets l D y o o_w (g_kept) (g_text) (g_size) (g_above) (g_below) (g_bads) (g_noes) (g_fulls) (g_at) (g_from) (g_token) (g_value) (g_readFault) (g_yet) (g_fars) (g_tells) f_w p1 p2 p3 r21 hr22) (z_cwV K 3 tw_5_224 tw_5_226 tw_0_83 tw_1_8 tw_5_227 hd_X8_surveyorGets ⟨by decide, by decide⟩) [0, 1] [] rfl (wr := []) rfl rfl rfl (by decide) rfl rfl rfl (As := [.int p1, .int p2, .int p3]) (rest := [.int r19]) rfl (Nat.le_of_ble_eq_true rfl) ⟨Nat.zero_le _, Nat.zero_le _⟩ dX8_rest_89 (ws' := [(o, .inr (7, [.ref o_w, g_kept, g_text, g_size, g_above, g_below, g_bads, g_noes, g_fulls, g_at, g_from, g_token, g_value, g_readFault, g_yet, g_fars, g_tells])), (o_w, .inl (y 0, 1960, .inl f_w))]) rfl (fun H locs hH => ?_)
            refine lv_icmp_gt (tgt := 99) K.x K.b dX8_rest_92 (by decide) (fun c23 => ?_) (fun c23 => ?_)
            · replace h := z_t c23 h
              refine lv_iconst (v := (0)) K.x K.b dX8_rest_99 (by decide) ?_
              obtain rfl := Option.some.inj h
              exact Kj17 _ _ _ hH (lv_sub hl [0, 1, 2, 3, 5] rfl)
            · replace h := z_f c23 h
              refine lv_iconst (v := (1)) K.x K.b dX8_rest_95 (by decide) ?_
              refine lv_goto (tgt := 100) K.x K.b dX8_rest_96 (by decide) ?_
              obtain rfl := Option.some.inj h
              exact Kj17 _ _ _ hH (lv_sub hl [0, 1, 2, 3, 5] rfl)
  replace h := hj2
  refine lv_icmp_eq (tgt := 24) K.x K.b dX8_rest_7 (by decide) (fun c24 => ?_) (fun c24 => ?_)
  · replace h := z_t c24 h
    refine lv_iconst (v := (0)) K.x K.b dX8_rest_24 (by decide) ?_
    obtain rfl := Option.some.inj h
    exact Kj2 _ _ _ hH (lv_sub hl [0, 1, 2, 3] rfl)
  · replace h := z_f c24 h
    refine lv_iload_n K.x K.b dX8_rest_10 rfl (lv_at hl 3 rfl) ?_
    refine lv_aload_n K.x K.b dX8_rest_11 rfl (lv_at hl 0 rfl) ?_
    refine z_get K hH 0 rfl zin_8 rfl 0 (by decide) tw_4_96 (v := .ref o_w) rfl dX8_rest_12 ?_
    refine lv_iload_n K.x K.b dX8_rest_15 rfl (lv_at hl 1 rfl) ?_
    obtain ⟨g25, h⟩ := z_gd_e h
    refine z_iald K hH 1 (k := p1.toNatClampNeg) rfl g25 rfl dX8_rest_16 ?_
    refine lv_icmp_eq (tgt := 24) K.x K.b dX8_rest_17 (by decide) (fun c26 => ?_) (fun c26 => ?_)
    · replace h := z_t c26 h
      refine lv_iconst (v := (0)) K.x K.b dX8_rest_24 (by decide) ?_
      obtain rfl := Option.some.inj h
      exact Kj2 _ _ _ hH (lv_sub hl [0, 1, 2, 3] rfl)
    · replace h := z_f c26 h
      refine lv_iconst (v := (1)) K.x K.b dX8_rest_20 (by decide) ?_
      refine lv_goto (tgt := 25) K.x K.b dX8_rest_21 (by decide) ?_
      obtain rfl := Option.some.inj h
      exact Kj2 _ _ _ hH (lv_sub hl [0, 1, 2, 3] rfl)
