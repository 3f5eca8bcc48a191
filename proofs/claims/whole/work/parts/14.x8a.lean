def p_X8_in (p1 : Int32) (p2 : Int32) (p3 : Int32) : Option (Int32) :=
  z_bd (α := Int32) (if (p1 < p2) then
  (some (0 : Int32)) else
  (if (p3 < p1) then
  (some (0 : Int32)) else
  (some (1 : Int32)))) fun j1 =>
  z_gd (z_bz j1) <|
  some j1
theorem hd_X8_in : yX8_in.cls ≠ "java/lang/invoke/MethodHandle" ∧ yX8_in.cls ≠ "java/lang/invoke/VarHandle" ∧ (parseMethodDescriptor yX8_in.desc).map (fun d => d.parameters.length) = some 3 := by decide +kernel
set_option maxHeartbeats 4000000 in
set_option maxRecDepth 100000 in
theorem c_X8_in (l : Launch) (D : va_G) (y : Nat → ClassId) (p1 : Int32) (p2 : Int32) (p3 : Int32) (r : Int32) (h : p_X8_in p1 p2 p3 = some r) : z_MI l yX8_in cX8_in 3 (some .boolean) 0 0 D y [.int p1, .int p2, .int p3] [] r [] := by
  unfold p_X8_in at h
  refine z_enI (by decide) (Nat.le_of_ble_eq_true rfl) ?_
  intro p e s m args below meth c A ls hr K hH hl
  obtain ⟨Q, hQ⟩ : ∃ Q, Q = MQ below (z_Qi D y A r []) args s 0 0 A := ⟨_, rfl⟩
  rw [← hQ]
  have hl : lv_has ls 3 [(0, .int p1), (1, .int p2), (2, .int p3)] := hl
  refine lv_iload_n K.x K.b dX8_in_0 rfl (lv_at hl 0 rfl) ?_
  refine lv_iload_n K.x K.b dX8_in_1 rfl (lv_at hl 1 rfl) ?_
  obtain ⟨j1, hj1, h⟩ := z_bd_e h
  have Kj1 : ∀ (H : Heap) (locs : List Loc) (ls : Array Slot), z_H D A s.heap [] H locs → lv_has ls 3 [] → W p l e (zR 0 0) s m args below meth c H locs 0 0 Q (F0 m 15 ls [.int j1]) := by
    intro H locs ls hH hl
    obtain ⟨g2, h⟩ := z_gd_e h
    have hr9 := Option.some.inj h
    obtain rfl := hr9
    rw [hQ]
    exact z_reti K hr hH [] (by decide) rfl rfl (z_bz_e g2) dX8_in_15
  replace h := hj1
  refine lv_icmp_lt (tgt := 14) K.x K.b dX8_in_2 (by decide) (fun c3 => ?_) (fun c3 => ?_)
  · replace h := z_t c3 h
    refine lv_iconst (v := (0)) K.x K.b dX8_in_14 (by decide) ?_
    obtain rfl := Option.some.inj h
    exact Kj1 _ _ _ hH (lv_sub hl [] rfl)
  · replace h := z_f c3 h
    refine lv_iload_n K.x K.b dX8_in_5 rfl (lv_at hl 0 rfl) ?_
    refine lv_iload_n K.x K.b dX8_in_6 rfl (lv_at hl 2 rfl) ?_
    refine lv_icmp_gt (tgt := 14) K.x K.b dX8_in_7 (by decide) (fun c4 => ?_) (fun c4 => ?_)
    · replace h := z_t c4 h
      refine lv_iconst (v := (0)) K.x K.b dX8_in_14 (by decide) ?_
      obtain rfl := Option.some.inj h
      exact Kj1 _ _ _ hH (lv_sub hl [] rfl)
    · replace h := z_f c4 h
      refine lv_iconst (v := (1)) K.x K.b dX8_in_10 (by decide) ?_
      refine lv_goto (tgt := 15) K.x K.b dX8_in_11 (by decide) ?_
      obtain rfl := Option.some.inj h
      exact Kj1 _ _ _ hH (lv_sub hl [] rfl)
def p_X8_has (p1 : Int32) (p2 : Int32) : Option (Int32) :=
  z_bd (α := Int32) (if (((p1 >>> (p2 &&& 31)) &&& (1 : Int32)) = (1 : Int32)) then
  (some (1 : Int32)) else
  (some (0 : Int32))) fun j1 =>
  z_gd (z_bz j1) <|
  some j1
theorem hd_X8_has : yX8_has.cls ≠ "java/lang/invoke/MethodHandle" ∧ yX8_has.cls ≠ "java/lang/invoke/VarHandle" ∧ (parseMethodDescriptor yX8_has.desc).map (fun d => d.parameters.length) = some 2 := by decide +kernel
set_option maxHeartbeats 4000000 in
set_option maxRecDepth 100000 in
theorem c_X8_has (l : Launch) (D : va_G) (y : Nat → ClassId) (p1 : Int32) (p2 : Int32) (r : Int32) (h : p_X8_has p1 p2 = some r) : z_MI l yX8_has cX8_has 2 (some .boolean) 0 0 D y [.int p1, .int p2] [] r [] := by
  unfold p_X8_has at h
  refine z_enI (by decide) (Nat.le_of_ble_eq_true rfl) ?_
  intro p e s m args below meth c A ls hr K hH hl
  obtain ⟨Q, hQ⟩ : ∃ Q, Q = MQ below (z_Qi D y A r []) args s 0 0 A := ⟨_, rfl⟩
  rw [← hQ]
  have hl : lv_has ls 2 [(0, .int p1), (1, .int p2)] := hl
  refine lv_iload_n K.x K.b dX8_has_0 rfl (lv_at hl 0 rfl) ?_
  refine lv_iload_n K.x K.b dX8_has_1 rfl (lv_at hl 1 rfl) ?_
  refine lv_ishr K.x K.b dX8_has_2 ?_
  refine lv_iconst (v := (1)) K.x K.b dX8_has_3 (by decide) ?_
  refine lv_iand K.x K.b dX8_has_4 ?_
  refine lv_iconst (v := (1)) K.x K.b dX8_has_5 (by decide) ?_
  obtain ⟨j1, hj1, h⟩ := z_bd_e h
  have Kj1 : ∀ (H : Heap) (locs : List Loc) (ls : Array Slot), z_H D A s.heap [] H locs → lv_has ls 2 [] → W p l e (zR 0 0) s m args below meth c H locs 0 0 Q (F0 m 14 ls [.int j1]) := by
    intro H locs ls hH hl
    obtain ⟨g2, h⟩ := z_gd_e h
    have hr9 := Option.some.inj h
    obtain rfl := hr9
    rw [hQ]
    exact z_reti K hr hH [] (by decide) rfl rfl (z_bz_e g2) dX8_has_14
  replace h := hj1
  refine lv_icmp_ne (tgt := 13) K.x K.b dX8_has_6 (by decide) (fun c3 => ?_) (fun c3 => ?_)
  · replace h := z_f c3 h
    refine lv_iconst (v := (0)) K.x K.b dX8_has_13 (by decide) ?_
    obtain rfl := Option.some.inj h
    exact Kj1 _ _ _ hH (lv_sub hl [] rfl)
  · replace h := z_t c3 h
    refine lv_iconst (v := (1)) K.x K.b dX8_has_9 (by decide) ?_
    refine lv_goto (tgt := 14) K.x K.b dX8_has_10 (by decide) ?_
    obtain rfl := Option.some.inj h
    exact Kj1 _ _ _ hH (lv_sub hl [] rfl)
def p_X8_bad (v_bads : Int32) : Option (Int32 × Int32) :=
  z_lt ((v_bads + (1 : Int32))) fun x1 =>
  some ((-2 : Int32), x1)
theorem hd_X8_bad : yX8_bad.cls = RX8 ∧ yX8_bad.cls ≠ "java/lang/invoke/MethodHandle" ∧ yX8_bad.cls ≠ "java/lang/invoke/VarHandle" ∧ (parseMethodDescriptor yX8_bad.desc).map (fun d => d.parameters.length) = some 0 := by decide +kernel
set_option maxHeartbeats 4000000 in
set_option maxRecDepth 100000 in
theorem c_X8_bad (l : Launch) (D : va_G) (y : Nat → ClassId) (o : Nat) (g_w g_kept g_text g_size g_above g_below g_noes g_fulls g_at g_from g_token g_value g_readFault g_yet g_fars g_tells : Value) (v_bads : Int32) (r : Int32 × Int32) (h : p_X8_bad v_bads = some r) : z_MI l yX8_bad cX8_bad 1 (some .int) 0 0 D y [.ref o] [(o, .inr (7, [g_w, g_kept, g_text, g_size, g_above, g_below, .int v_bads, g_noes, g_fulls, g_at, g_from, g_token, g_value, g_readFault, g_yet, g_fars, g_tells]))] r.1 [(o, .inr (7, [g_w, g_kept, g_text, g_size, g_above, g_below, .int r.2, g_noes, g_fulls, g_at, g_from, g_token, g_value, g_readFault, g_yet, g_fars, g_tells]))] := by
  unfold p_X8_bad at h
  refine z_enI (by decide) (Nat.le_of_ble_eq_true rfl) ?_
  intro p e s m args below meth c A ls hr K hH hl
  obtain ⟨Q, hQ⟩ : ∃ Q, Q = MQ below (z_Qi D y A r.1 [(o, .inr (7, [g_w, g_kept, g_text, g_size, g_above, g_below, .int r.2, g_noes, g_fulls, g_at, g_from, g_token, g_value, g_readFault, g_yet, g_fars, g_tells]))]) args s 0 0 A := ⟨_, rfl⟩
  rw [← hQ]
  have hl : lv_has ls 1 [(0, .ref o)] := hl
  refine lv_aload_n K.x K.b dX8_bad_0 rfl (lv_at hl 0 rfl) ?_
  refine lv_dup K.x K.b dX8_bad_1 rfl ?_
  refine z_get K hH 0 rfl zin_8 rfl 6 (by decide) tw_4_102 (v := .int v_bads) rfl dX8_bad_2 ?_
  refine lv_iconst (v := (1)) K.x K.b dX8_bad_5 (by decide) ?_
  refine lv_iadd K.x K.b dX8_bad_6 ?_
  obtain ⟨x1, ex1, h⟩ := z_lt_e h
  refine z_nm ex1 ?_
  refine z_put K hH 0 (ws' := [(o, .inr (7, [g_w, g_kept, g_text, g_size, g_above, g_below, .int x1, g_noes, g_fulls, g_at, g_from, g_token, g_value, g_readFault, g_yet, g_fars, g_tells]))]) rfl zin_8 rfl tyX8 tyX8_ok nmX8 6 (by decide) tw_4_102 rfl rfl rfl (Nat.le_of_ble_eq_true rfl) dX8_bad_7 rfl (fun H locs hH => ?_)
  refine lv_bipush (v := (-2)) K.x K.b dX8_bad_10 (by decide) ?_
  have hr9 := Option.some.inj h
  obtain rfl := hr9
  rw [hQ]
  exact z_reti K hr hH [0] (by decide) rfl rfl rfl dX8_bad_12
def p_X8_badTen (v_bads : Int32) : Option (Int32 × Int32) :=
  z_lt ((v_bads + (1 : Int32))) fun x1 =>
  some ((-10 : Int32), x1)
theorem hd_X8_badTen : yX8_badTen.cls = RX8 ∧ yX8_badTen.cls ≠ "java/lang/invoke/MethodHandle" ∧ yX8_badTen.cls ≠ "java/lang/invoke/VarHandle" ∧ (parseMethodDescriptor yX8_badTen.desc).map (fun d => d.parameters.length) = some 0 := by decide +kernel
set_option maxHeartbeats 4000000 in
set_option maxRecDepth 100000 in
theorem c_X8_badTen (l : Launch) (D : va_G) (y : Nat → ClassId) (o : Nat) (g_w g_kept g_text g_size g_above g_below g_noes g_fulls g_at g_from g_token g_value g_readFault g_yet g_fars g_tells : Value) (v_bads : Int32) (r : Int32 × Int32) (h : p_X8_badTen v_bads = some r) : z_MI l yX8_badTen cX8_badTen 1 (some .int) 0 0 D y [.ref o] [(o, .inr (7, [g_w, g_kept, g_text, g_size, g_above, g_below, .int v_bads, g_noes, g_fulls, g_at, g_from, g_token, g_value, g_readFault, g_yet, g_fars, g_tells]))] r.1 [(o, .inr (7, [g_w, g_kept, g_text, g_size, g_above, g_below, .int r.2, g_noes, g_fulls, g_at, g_from, g_token, g_value, g_readFault, g_yet, g_fars, g_tells]))] := by
  unfold p_X8_badTen at h
  refine z_enI (by decide) (Nat.le_of_ble_eq_true rfl) ?_
  intro p e s m args below meth c A ls hr K hH hl
  obtain ⟨Q, hQ⟩ : ∃ Q, Q = MQ below (z_Qi D y A r.1 [(o, .inr (7, [g_w, g_kept, g_text, g_size, g_above, g_below, .int r.2, g_noes, g_fulls, g_at, g_from, g_token, g_value, g_readFault, g_yet, g_fars, g_tells]))]) args s 0 0 A := ⟨_, rfl⟩
  rw [← hQ]
  have hl : lv_has ls 1 [(0, .ref o)] := hl
  refine lv_aload_n K.x K.b dX8_badTen_0 rfl (lv_at hl 0 rfl) ?_
  refine lv_dup K.x K.b dX8_badTen_1 rfl ?_
  refine z_get K hH 0 rfl zin_8 rfl 6 (by decide) tw_4_102 (v := .int v_bads) rfl dX8_badTen_2 ?_
  refine lv_iconst (v := (1)) K.x K.b dX8_badTen_5 (by decide) ?_
  refine lv_iadd K.x K.b dX8_badTen_6 ?_
  obtain ⟨x1, ex1, h⟩ := z_lt_e h
  refine z_nm ex1 ?_
  refine z_put K hH 0 (ws' := [(o, .inr (7, [g_w, g_kept, g_text, g_size, g_above, g_below, .int x1, g_noes, g_fulls, g_at, g_from, g_token, g_value, g_readFault, g_yet, g_fars, g_tells]))]) rfl zin_8 rfl tyX8 tyX8_ok nmX8 6 (by decide) tw_4_102 rfl rfl rfl (Nat.le_of_ble_eq_true rfl) dX8_badTen_7 rfl (fun H locs hH => ?_)
  refine lv_bipush (v := (-10)) K.x K.b dX8_badTen_10 (by decide) ?_
  have hr9 := Option.some.inj h
  obtain rfl := hr9
  rw [hQ]
  exact z_reti K hr hH [0] (by decide) rfl rfl rfl dX8_badTen_12
def p_X8_no (v_noes : Int32) : Option (Int32 × Int32) :=
  z_lt ((v_noes + (1 : Int32))) fun x1 =>
  some ((-3 : Int32), x1)
theorem hd_X8_no : yX8_no.cls = RX8 ∧ yX8_no.cls ≠ "java/lang/invoke/MethodHandle" ∧ yX8_no.cls ≠ "java/lang/invoke/VarHandle" ∧ (parseMethodDescriptor yX8_no.desc).map (fun d => d.parameters.length) = some 0 := by decide +kernel
set_option maxHeartbeats 4000000 in
set_option maxRecDepth 100000 in
theorem c_X8_no (l : Launch) (D : va_G) (y : Nat → ClassId) (o : Nat) (g_w g_kept g_text g_size g_above g_below g_bads g_fulls g_at g_from g_token g_value g_readFault g_yet g_fars g_tells : Value) (v_noes : Int32) (r : Int32 × Int32) (h : p_X8_no v_noes = some r) : z_MI l yX8_no cX8_no 1 (some .int) 0 0 D y [.ref o] [(o, .inr (7, [g_w, g_kept, g_text, g_size, g_above, g_below, g_bads, .int v_noes, g_fulls, g_at, g_from, g_token, g_value, g_readFault, g_yet, g_fars, g_tells]))] r.1 [(o, .inr (7, [g_w, g_kept, g_text, g_size, g_above, g_below, g_bads, .int r.2, g_fulls, g_at, g_from, g_token, g_value, g_readFault, g_yet, g_fars, g_tells]))] := by
  unfold p_X8_no at h
  refine z_enI (by decide) (Nat.le_of_ble_eq_true rfl) ?_
  intro p e s m args below meth c A ls hr K hH hl
  obtain ⟨Q, hQ⟩ : ∃ Q, Q = MQ below (z_Qi D y A r.1 [(o, .inr (7, [g_w, g_kept, g_text, g_size, g_above, g_below, g_bads, .int r.2, g_fulls, g_at, g_from, g_token, g_value, g_readFault, g_yet, g_fars, g_tells]))]) args s 0 0 A := ⟨_, rfl⟩
  rw [← hQ]
  have hl : lv_has ls 1 [(0, .ref o)] := hl
  refine lv_aload_n K.x K.b dX8_no_0 rfl (lv_at hl 0 rfl) ?_
  refine lv_dup K.x K.b dX8_no_1 rfl ?_
  refine z_get K hH 0 rfl zin_8 rfl 7 (by decide) tw_4_103 (v := .int v_noes) rfl dX8_no_2 ?_
  refine lv_iconst (v := (1)) K.x K.b dX8_no_5 (by decide) ?_
  refine lv_iadd K.x K.b dX8_no_6 ?_
  obtain ⟨x1, ex1, h⟩ := z_lt_e h
  refine z_nm ex1 ?_
  refine z_put K hH 0 (ws' := [(o, .inr (7, [g_w, g_kept, g_text, g_size, g_above, g_below, g_bads, .int x1, g_fulls, g_at, g_from, g_token, g_value, g_readFault, g_yet, g_fars, g_tells]))]) rfl zin_8 rfl tyX8 tyX8_ok nmX8 7 (by decide) tw_4_103 rfl rfl rfl (Nat.le_of_ble_eq_true rfl) dX8_no_7 rfl (fun H locs hH => ?_)
  refine lv_bipush (v := (-3)) K.x K.b dX8_no_10 (by decide) ?_
  have hr9 := Option.some.inj h
  obtain rfl := hr9
  rw [hQ]
  exact z_reti K hr hH [0] (by decide) rfl rfl rfl dX8_no_12
def p_X8_full (v_fulls : Int32) : Option (Int32 × Int32) :=
  z_lt ((v_fulls + (1 : Int32))) fun x1 =>
  some ((-4 : Int32), x1)
theorem hd_X8_full : yX8_full.cls = RX8 ∧ yX8_full.cls ≠ "java/lang/invoke/MethodHandle" ∧ yX8_full.cls ≠ "java/lang/invoke/VarHandle" ∧ (parseMethodDescriptor yX8_full.desc).map (fun d => d.parameters.length) = some 0 := by decide +kernel
set_option maxHeartbeats 4000000 in
set_option maxRecDepth 100000 in
theorem c_X8_full (l : Launch) (D : va_G) (y : Nat → ClassId) (o : Nat) (g_w g_kept g_text g_size g_above g_below g_bads g_noes g_at g_from g_token g_value g_readFault g_yet g_fars g_tells : Value) (v_fulls : Int32) (r : Int32 × Int32) (h : p_X8_full v_fulls = some r) : z_MI l yX8_full cX8_full 1 (some .int) 0 0 D y [.ref o] [(o, .inr (7, [g_w, g_kept, g_text, g_size, g_above, g_below, g_bads, g_noes, .int v_fulls, g_at, g_from, g_token, g_value, g_readFault, g_yet, g_fars, g_tells]))] r.1 [(o, .inr (7, [g_w, g_kept, g_text, g_size, g_above, g_below, g_bads, g_noes, .int r.2, g_at, g_from, g_token, g_value, g_readFault, g_yet, g_fars, g_tells]))] := by
  unfold p_X8_full at h
  refine z_enI (by decide) (Nat.le_of_ble_eq_true rfl) ?_
  intro p e s m args below meth c A ls hr K hH hl
  obtain ⟨Q, hQ⟩ : ∃ Q, Q = MQ below (z_Qi D y A r.1 [(o, .inr (7, [g_w, g_kept, g_text, g_size, g_above, g_below, g_bads, g_noes, .int r.2, g_at, g_from, g_token, g_value, g_readFault, g_yet, g_fars, g_tells]))]) args s 0 0 A := ⟨_, rfl⟩
  rw [← hQ]
  have hl : lv_has ls 1 [(0, .ref o)] := hl
  refine lv_aload_n K.x K.b dX8_full_0 rfl (lv_at hl 0 rfl) ?_
  refine lv_dup K.x K.b dX8_full_1 rfl ?_
  refine z_get K hH 0 rfl zin_8 rfl 8 (by decide) tw_4_104 (v := .int v_fulls) rfl dX8_full_2 ?_
  refine lv_iconst (v := (1)) K.x K.b dX8_full_5 (by decide) ?_
  refine lv_iadd K.x K.b dX8_full_6 ?_
  obtain ⟨x1, ex1, h⟩ := z_lt_e h
  refine z_nm ex1 ?_
  refine z_put K hH 0 (ws' := [(o, .inr (7, [g_w, g_kept, g_text, g_size, g_above, g_below, g_bads, g_noes, .int x1, g_at, g_from, g_token, g_value, g_readFault, g_yet, g_fars, g_tells]))]) rfl zin_8 rfl tyX8 tyX8_ok nmX8 8 (by decide) tw_4_104 rfl rfl rfl (Nat.le_of_ble_eq_true rfl) dX8_full_7 rfl (fun H locs hH => ?_)
  refine lv_bipush (v := (-4)) K.x K.b dX8_full_10 (by decide) ?_
  have hr9 := Option.some.inj h
  obtain rfl := hr9
  rw [hQ]
  exact z_reti K hr hH [0] (by decide) rfl rfl rfl dX8_full_12
noncomputable def p_X8_copyRow (f_w : (Nat → Int32)) (p1 : Int32) (p2 : Int32) (p3 : Int32) : Option ((Nat → Int32)) :=
  z_bd (z_lp (S := Int32 × (Nat → Int32)) (E := (Nat → Int32)) (fun s1 =>
  if (p3 ≤ s1.1) then
  (some (.inr s1.2)) else
  (z_lt ((p1 + s1.1)) fun x5 =>
  z_gd (z_in x5 1960) <|
  z_lt ((s1.2 x5.toNatClampNeg)) fun x7 =>
  z_lt ((p2 + s1.1)) fun x8 =>
  z_gd (z_in x8 1960) <|
  z_lt ((upd s1.2 x8.toNatClampNeg x7)) fun a10 =>
  z_lt (s1.1 + (1 : Int32)) fun x11 =>
  some (.inl (x11, a10)))) ((0 : Int32), f_w)) fun e2 =>
  some e2
theorem hd_X8_copyRow : yX8_copyRow.cls = RX8 ∧ yX8_copyRow.cls ≠ "java/lang/invoke/MethodHandle" ∧ yX8_copyRow.cls ≠ "java/lang/invoke/VarHandle" ∧ (parseMethodDescriptor yX8_copyRow.desc).map (fun d => d.parameters.length) = some 3 := by decide +kernel
set_option maxHeartbeats 4000000 in
set_option maxRecDepth 100000 in
theorem c_X8_copyRow (l : Launch) (D : va_G) (y : Nat → ClassId) (o o_w : Nat) (g_kept g_text g_size g_above g_below g_bads g_noes g_fulls g_at g_from g_token g_value g_readFault g_yet g_fars g_tells : Value) (f_w : (Nat → Int32)) (p1 : Int32) (p2 : Int32) (p3 : Int32) (r : (Nat → Int32)) (h : p_X8_copyRow f_w p1 p2 p3 = some r) : z_MV l yX8_copyRow cX8_copyRow 5 none 0 0 D y [.ref o, .int p1, .int p2, .int p3] [(o, .inr (7, [.ref o_w, g_kept, g_text, g_size, g_above, g_below, g_bads, g_noes, g_fulls, g_at, g_from, g_token, g_value, g_readFault, g_yet, g_fars, g_tells])), (o_w, .inl (y 0, 1960, .inl f_w))] [(o, .inr (7, [.ref o_w, g_kept, g_text, g_size, g_above, g_below, g_bads, g_noes, g_fulls, g_at, g_from, g_token, g_value, g_readFault, g_yet, g_fars, g_tells])), (o_w, .inl (y 0, 1960, .inl r))] := by
  unfold p_X8_copyRow at h
  refine z_enV (by decide) (Nat.le_of_ble_eq_true rfl) ?_
  intro p e s m args below meth c A ls hr K hH hl
  obtain ⟨Q, hQ⟩ : ∃ Q, Q = MQ below (z_Qv D y A [(o, .inr (7, [.ref o_w, g_kept, g_text, g_size, g_above, g_below, g_bads, g_noes, g_fulls, g_at, g_from, g_token, g_value, g_readFault, g_yet, g_fars, g_tells])), (o_w, .inl (y 0, 1960, .inl r))]) args s 0 0 A := ⟨_, rfl⟩
  rw [← hQ]
  have hl : lv_has ls 5 [(0, .ref o), (1, .int p1), (2, .int p2), (3, .int p3)] := hl
  refine lv_iconst (v := (0)) K.x K.b dX8_copyRow_0 (by decide) ?_
  refine lv_istore (lv' := [(4, .int (0 : Int32)), (0, .ref o), (1, .int p1), (2, .int p2), (3, .int p3)]) K.x K.b dX8_copyRow_1 hl (by decide) rfl (fun ls hl => ?_)
  obtain ⟨e2, hlpe2, h⟩ := z_bd_e h
  have KEe2 : ∀ (H : Heap) (locs : List Loc) (ls : Array Slot), z_H D A s.heap [(o, .inr (7, [.ref o_w, g_kept, g_text, g_size, g_above, g_below, g_bads, g_noes, g_fulls, g_at, g_from, g_token, g_value, g_readFault, g_yet, g_fars, g_tells])), (o_w, .inl (y 0, 1960, .inl e2))] H locs → lv_has ls 5 [] → W p l e (zR 0 0) s m args below meth c H locs 0 0 Q (F0 m 33 ls []) := by
    intro H locs ls hH hl
    have hr9 := Option.some.inj h
    obtain rfl := hr9
    rw [hQ]
    exact z_retv K hr hH [0, 1] (by decide) rfl dX8_copyRow_33
  refine z_lp_ind (P := fun (s1 : Int32 × (Nat → Int32)) => ∀ (H : Heap) (locs : List Loc) (ls : Array Slot), z_H D A s.heap [(o, .inr (7, [.ref o_w, g_kept, g_text, g_size, g_above, g_below, g_bads, g_noes, g_fulls, g_at, g_from, g_token, g_value, g_readFault, g_yet, g_fars, g_tells])), (o_w, .inl (y 0, 1960, .inl s1.2))] H locs → lv_has ls 5 [(0, .ref o), (1, .int p1), (2, .int p2), (3, .int p3), (4, .int s1.1)] → W p l e (zR 0 0) s m args below meth c H locs 0 0 Q (F0 m 3 ls [])) ?_ _ hlpe2 _ _ _ hH (lv_sub hl [1, 2, 3, 4, 0] rfl)
  clear h hlpe2
  intro s1 x3 h ihe2 hee2 H locs ls hH hl
  refine lv_iload K.x K.b dX8_copyRow_3 (lv_at hl 4 rfl) ?_
  refine lv_iload_n K.x K.b dX8_copyRow_5 rfl (lv_at hl 3 rfl) ?_
  refine lv_icmp_ge (tgt := 33) K.x K.b dX8_copyRow_6 (by decide) (fun c4 => ?_) (fun c4 => ?_)
  · replace h := z_t c4 h
    obtain rfl := hee2 _ (Option.some.inj h).symm
    exact KEe2 _ _ _ hH (lv_sub hl [] rfl)
  · replace h := z_f c4 h
    refine lv_aload_n K.x K.b dX8_copyRow_9 rfl (lv_at hl 0 rfl) ?_
    refine z_get K hH 0 rfl zin_8 rfl 0 (by decide) tw_4_96 (v := .ref o_w) rfl dX8_copyRow_10 ?_
    refine lv_iload_n K.x K.b dX8_copyRow_13 rfl (lv_at hl 2 rfl) ?_
    refine lv_iload K.x K.b dX8_copyRow_14 (lv_at hl 4 rfl) ?_
    refine lv_iadd K.x K.b dX8_copyRow_16 ?_
    refine lv_aload_n K.x K.b dX8_copyRow_17 rfl (lv_at hl 0 rfl) ?_
    refine z_get K hH 0 rfl zin_8 rfl 0 (by decide) tw_4_96 (v := .ref o_w) rfl dX8_copyRow_18 ?_
    refine lv_iload_n K.x K.b dX8_copyRow_21 rfl (lv_at hl 1 rfl) ?_
    refine lv_iload K.x K.b dX8_copyRow_22 (lv_at hl 4 rfl) ?_
    refine lv_iadd K.x K.b dX8_copyRow_24 ?_
    obtain ⟨x5, ex5, h⟩ := z_lt_e h
    refine z_nm ex5 ?_
    obtain ⟨g6, h⟩ := z_gd_e h
    refine z_iald K hH 1 (k := x5.toNatClampNeg) rfl g6 rfl dX8_copyRow_25 ?_
    obtain ⟨x7, ex7, h⟩ := z_lt_e h
    refine z_nm ex7 ?_
    obtain ⟨x8, ex8, h⟩ := z_lt_e h
    refine z_nm2 ex8 ?_
    obtain ⟨g9, h⟩ := z_gd_e h
    obtain ⟨a10, ea10, h⟩ := z_lt_e h
    refine z_iast K hH 1 (k := x8.toNatClampNeg) (ws' := [(o, .inr (7, [.ref o_w, g_kept, g_text, g_size, g_above, g_below, g_bads, g_noes, g_fulls, g_at, g_from, g_token, g_value, g_readFault, g_yet, g_fars, g_tells])), (o_w, .inl (y 0, 1960, .inl a10))]) rfl g9 rfl dX8_copyRow_26 (by rw [ea10]; rfl) (fun H locs hH => ?_)
    obtain ⟨x11, ex11, h⟩ := z_lt_e h
    refine lv_iinc (v := x11) (lv' := [(4, .int x11), (0, .ref o), (1, .int p1), (2, .int p2), (3, .int p3)]) K.x K.b dX8_copyRow_27 hl (k := 4) rfl (by rw [ex11]; rfl) (by decide) rfl (fun ls hl => ?_)
    refine lv_goto (tgt := 3) K.x K.b dX8_copyRow_30 (by decide) ?_
    exact ihe2 _ (Option.some.inj h).symm _ _ _ hH (lv_sub hl [1, 2, 3, 4, 0] rfl)
noncomputable def p_X8_clearRow (f_w : (Nat → Int32)) (p1 : Int32) : Option ((Nat → Int32)) :=
  z_bd (z_lp (S := Int32 × (Nat → Int32)) (E := (Nat → Int32)) (fun s1 =>
  if ((479 : Int32) ≤ s1.1) then
  (some (.inr s1.2)) else
  (z_lt ((p1 + s1.1)) fun x5 =>
  z_gd (z_in x5 1960) <|
  z_lt ((upd s1.2 x5.toNatClampNeg (0 : Int32))) fun a7 =>
  z_lt (s1.1 + (1 : Int32)) fun x8 =>
  some (.inl (x8, a7)))) ((0 : Int32), f_w)) fun e2 =>
  some e2
theorem hd_X8_clearRow : yX8_clearRow.cls = RX8 ∧ yX8_clearRow.cls ≠ "java/lang/invoke/MethodHandle" ∧ yX8_clearRow.cls ≠ "java/lang/invoke/VarHandle" ∧ (parseMethodDescriptor yX8_clearRow.desc).map (fun d => d.parameters.length) = some 1 := by decide +kernel
set_option maxHeartbeats 4000000 in
set_option maxRecDepth 100000 in
theorem c_X8_clearRow (l : Launch) (D : va_G) (y : Nat → ClassId) (o o_w : Nat) (g_kept g_text g_size g_above g_below g_bads g_noes g_fulls g_at g_from g_token g_value g_readFault g_yet g_fars g_tells : Value) (f_w : (Nat → Int32)) (p1 : Int32) (r : (Nat → Int32)) (h : p_X8_clearRow f_w p1 = some r) : z_MV l yX8_clearRow cX8_clearRow 3 none 0 0 D y [.ref o, .int p1] [(o, .inr (7, [.ref o_w, g_kept, g_text, g_size, g_above, g_below, g_bads, g_noes, g_fulls, g_at, g_from, g_token, g_value, g_readFault, g_yet, g_fars, g_tells])), (o_w, .inl (y 0, 1960, .inl f_w))] [(o, .inr (7, [.ref o_w, g_kept, g_text, g_size, g_above, g_below, g_bads, g_noes, g_fulls, g_at, g_from, g_token, g_value, g_readFault, g_yet, g_fars, g_tells])), (o_w, .inl (y 0, 1960, .inl r))] := by
  unfold p_X8_clearRow at h
  refine z_enV (by decide) (Nat.le_of_ble_eq_true rfl) ?_
  intro p e s m args below meth c A ls hr K hH hl
  obtain ⟨Q, hQ⟩ : ∃ Q, Q = MQ below (z_Qv D y A [(o, .inr (7, [.ref o_w, g_kept, g_text, g_size, g_above, g_below, g_bads, g_noes, g_fulls, g_at, g_from, g_token, g_value, g_readFault, g_yet, g_fars, g_tells])), (o_w, .inl (y 0, 1960, .inl r))]) args s 0 0 A := ⟨_, rfl⟩
  rw [← hQ]
  have hl : lv_has ls 3 [(0, .ref o), (1, .int p1)] := hl
  refine lv_iconst (v := (0)) K.x K.b dX8_clearRow_0 (by decide) ?_
  refine lv_istore_n (lv' := [(2, .int (0 : Int32)), (0, .ref o), (1, .int p1)]) K.x K.b dX8_clearRow_1 rfl hl (by decide) rfl (fun ls hl => ?_)
  obtain ⟨e2, hlpe2, h⟩ := z_bd_e h
  have KEe2 : ∀ (H : Heap) (locs : List Loc) (ls : Array Slot), z_H D A s.heap [(o, .inr (7, [.ref o_w, g_kept, g_text, g_size, g_above, g_below, g_bads, g_noes, g_fulls, g_at, g_from, g_token, g_value, g_readFault, g_yet, g_fars, g_tells])), (o_w, .inl (y 0, 1960, .inl e2))] H locs → lv_has ls 3 [] → W p l e (zR 0 0) s m args below meth c H locs 0 0 Q (F0 m 24 ls []) := by
    intro H locs ls hH hl
    have hr9 := Option.some.inj h
    obtain rfl := hr9
    rw [hQ]
    exact z_retv K hr hH [0, 1] (by decide) rfl dX8_clearRow_24
  refine z_lp_ind (P := fun (s1 : Int32 × (Nat → Int32)) => ∀ (H : Heap) (locs : List Loc) (ls : Array Slot), z_H D A s.heap [(o, .inr (7, [.ref o_w, g_kept, g_text, g_size, g_above, g_below, g_bads, g_noes, g_fulls, g_at, g_from, g_token, g_value, g_readFault, g_yet, g_fars, g_tells])), (o_w, .inl (y 0, 1960, .inl s1.2))] H locs → lv_has ls 3 [(0, .ref o), (1, .int p1), (2, .int s1.1)] → W p l e (zR 0 0) s m args below meth c H locs 0 0 Q (F0 m 2 ls [])) ?_ _ hlpe2 _ _ _ hH (lv_sub hl [1, 2, 0] rfl)
  clear h hlpe2
  intro s1 x3 h ihe2 hee2 H locs ls hH hl
  refine lv_iload_n K.x K.b dX8_clearRow_2 rfl (lv_at hl 2 rfl) ?_
  refine lv_sipush (v := (479)) K.x K.b dX8_clearRow_3 (by decide) ?_
  refine lv_icmp_ge (tgt := 24) K.x K.b dX8_clearRow_6 (by decide) (fun c4 => ?_) (fun c4 => ?_)
  · replace h := z_t c4 h
    obtain rfl := hee2 _ (Option.some.inj h).symm
    exact KEe2 _ _ _ hH (lv_sub hl [] rfl)
  · replace h := z_f c4 h
    refine lv_aload_n K.x K.b dX8_clearRow_9 rfl (lv_at hl 0 rfl) ?_
    refine z_get K hH 0 rfl zin_8 rfl 0 (by decide) tw_4_96 (v := .ref o_w) rfl dX8_clearRow_10 ?_
    refine lv_iload_n K.x K.b dX8_clearRow_13 rfl (lv_at hl 1 rfl) ?_
    refine lv_iload_n K.x K.b dX8_clearRow_14 rfl (lv_at hl 2 rfl) ?_
    refine lv_iadd K.x K.b dX8_clearRow_15 ?_
    refine lv_iconst (v := (0)) K.x K.b dX8_clearRow_16 (by decide) ?_
    obtain ⟨x5, ex5, h⟩ := z_lt_e h
    refine z_nm2 ex5 ?_
    obtain ⟨g6, h⟩ := z_gd_e h
    obtain ⟨a7, ea7, h⟩ := z_lt_e h
    refine z_iast K hH 1 (k := x5.toNatClampNeg) (ws' := [(o, .inr (7, [.ref o_w, g_kept, g_text, g_size, g_above, g_below, g_bads, g_noes, g_fulls, g_at, g_from, g_token, g_value, g_readFault, g_yet, g_fars, g_tells])), (o_w, .inl (y 0, 1960, .inl a7))]) rfl g6 rfl dX8_clearRow_17 (by rw [ea7]; rfl) (fun H locs hH => ?_)
    obtain ⟨x8, ex8, h⟩ := z_lt_e h
    refine lv_iinc (v := x8) (lv' := [(2, .int x8), (0, .ref o), (1, .int p1)]) K.x K.b dX8_clearRow_18 hl (k := 2) rfl (by rw [ex8]; rfl) (by decide) rfl (fun ls hl => ?_)
    refine lv_goto (tgt := 2) K.x K.b dX8_clearRow_21 (by decide) ?_
    exact ihe2 _ (Option.some.inj h).symm _ _ _ hH (lv_sub hl [1, 2, 0] rfl)
def p_X8_isPlace (f_w : (Nat → Int32)) (p1 : Int32) : Option (Int32) :=
  z_lt (((f_w 418) - (1 : Int32))) fun x1 =>
  z_bd (p_X8_in p1 (0 : Int32) x1) fun r2 =>
  z_gd (z_bz r2) <|
  some r2
theorem hd_X8_isPlace : yX8_isPlace.cls = RX8 ∧ yX8_isPlace.cls ≠ "java/lang/invoke/MethodHandle" ∧ yX8_isPlace.cls ≠ "java/lang/invoke/VarHandle" ∧ (parseMethodDescriptor yX8_isPlace.desc).map (fun d => d.parameters.length) = some 1 := by decide +kernel
set_option maxHeartbeats 4000000 in
set_option maxRecDepth 100000 in
theorem c_X8_isPlace (l : Launch) (D : va_G) (y : Nat → ClassId) (o o_w : Nat) (g_kept g_text g_size g_above g_below g_bads g_noes g_fulls g_at g_from g_token g_value g_readFault g_yet g_fars g_tells : Value) (f_w : (Nat → Int32)) (p1 : Int32) (r : Int32) (h : p_X8_isPlace f_w p1 = some r) : z_MI l yX8_isPlace cX8_isPlace 2 (some .boolean) 1 22 D y [.ref o, .int p1] [(o, .inr (7, [.ref o_w, g_kept, g_text, g_size, g_above, g_below, g_bads, g_noes, g_fulls, g_at, g_from, g_token, g_value, g_readFault, g_yet, g_fars, g_tells])), (o_w, .inl (y 0, 1960, .inl f_w))] r [(o, .inr (7, [.ref o_w, g_kept, g_text, g_size, g_above, g_below, g_bads, g_noes, g_fulls, g_at, g_from, g_token, g_value, g_readFault, g_yet, g_fars, g_tells])), (o_w, .inl (y 0, 1960, .inl f_w))] := by
  unfold p_X8_isPlace at h
  refine z_enI (by decide) (Nat.le_of_ble_eq_true rfl) ?_
  intro p e s m args below meth c A ls hr K hH hl
  obtain ⟨Q, hQ⟩ : ∃ Q, Q = MQ below (z_Qi D y A r [(o, .inr (7, [.ref o_w, g_kept, g_text, g_size, g_above, g_below, g_bads, g_noes, g_fulls, g_at, g_from, g_token, g_value, g_readFault, g_yet, g_fars, g_tells])), (o_w, .inl (y 0, 1960, .inl f_w))]) args s 0 0 A := ⟨_, rfl⟩
  rw [← hQ]
  have hl : lv_has ls 2 [(0, .ref o), (1, .int p1)] := hl
  refine lv_iload_n K.x K.b dX8_isPlace_0 rfl (lv_at hl 1 rfl) ?_
  refine lv_iconst (v := (0)) K.x K.b dX8_isPlace_1 (by decide) ?_
  refine lv_aload_n K.x K.b dX8_isPlace_2 rfl (lv_at hl 0 rfl) ?_
  refine z_get K hH 0 rfl zin_8 rfl 0 (by decide) tw_4_96 (v := .ref o_w) rfl dX8_isPlace_3 ?_
  refine lv_sipush (v := (418)) K.x K.b dX8_isPlace_6 (by decide) ?_
  refine z_iald K hH 1 (k := 418) rfl (by decide) rfl dX8_isPlace_9 ?_
  refine lv_iconst (v := (1)) K.x K.b dX8_isPlace_10 (by decide) ?_
  refine lv_isub K.x K.b dX8_isPlace_11 ?_
  obtain ⟨x1, ex1, h⟩ := z_lt_e h
  refine z_nm ex1 ?_
  obtain ⟨r2, hr3, h⟩ := z_bd_e h
  refine z_Si K hH hl.1 (c_X8_in l D y p1 (0 : Int32) x1 r2 hr3) (z_cwS K 3 tw_4_160 tw_4_161 tw_1_8 tw_4_162 hd_X8_in ⟨by decide, by decide⟩) rfl (As := [.int p1, .int (0 : Int32), .int x1]) (rest := []) rfl (Nat.le_of_ble_eq_true rfl) ⟨Nat.zero_le _, Nat.zero_le _⟩ dX8_isPlace_12 (fun H locs hH => ?_)
  obtain ⟨g4, h⟩ := z_gd_e h
  have hr9 := Option.some.inj h
  obtain rfl := hr9
  rw [hQ]
  exact z_reti K hr hH [0, 1] (by decide) rfl rfl (z_bz_e g4) dX8_isPlace_15
def p_X8_isCrow (f_w : (Nat → Int32)) (p1 : Int32) : Option (Int32) :=
  z_lt (((f_w 422) - (1 : Int32))) fun x1 =>
  z_bd (p_X8_in p1 (0 : Int32) x1) fun r2 =>
  z_gd (z_bz r2) <|
  some r2
theorem hd_X8_isCrow : yX8_isCrow.cls = RX8 ∧ yX8_isCrow.cls ≠ "java/lang/invoke/MethodHandle" ∧ yX8_isCrow.cls ≠ "java/lang/invoke/VarHandle" ∧ (parseMethodDescriptor yX8_isCrow.desc).map (fun d => d.parameters.length) = some 1 := by decide +kernel
set_option maxHeartbeats 4000000 in
set_option maxRecDepth 100000 in
theorem c_X8_isCrow (l : Launch) (D : va_G) (y : Nat → ClassId) (o o_w : Nat) (g_kept g_text g_size g_above g_below g_bads g_noes g_fulls g_at g_from g_token g_value g_readFault g_yet g_fars g_tells : Value) (f_w : (Nat → Int32)) (p1 : Int32) (r : Int32) (h : p_X8_isCrow f_w p1 = some r) : z_MI l yX8_isCrow cX8_isCrow 2 (some .boolean) 1 22 D y [.ref o, .int p1] [(o, .inr (7, [.ref o_w, g_kept, g_text, g_size, g_above, g_below, g_bads, g_noes, g_fulls, g_at, g_from, g_token, g_value, g_readFault, g_yet, g_fars, g_tells])), (o_w, .inl (y 0, 1960, .inl f_w))] r [(o, .inr (7, [.ref o_w, g_kept, g_text, g_size, g_above, g_below, g_bads, g_noes, g_fulls, g_at, g_from, g_token, g_value, g_readFault, g_yet, g_fars, g_tells])), (o_w, .inl (y 0, 1960, .inl f_w))] := by
  unfold p_X8_isCrow at h
  refine z_enI (by decide) (Nat.le_of_ble_eq_true rfl) ?_
  intro p e s m args below meth c A ls hr K hH hl
  obtain ⟨Q, hQ⟩ : ∃ Q, Q = MQ below (z_Qi D y A r [(o, .inr (7, [.ref o_w, g_kept, g_text, g_size, g_above, g_below, g_bads, g_noes, g_fulls, g_at, g_from, g_token, g_value, g_readFault, g_yet, g_fars, g_tells])), (o_w, .inl (y 0, 1960, .inl f_w))]) args s 0 0 A := ⟨_, rfl⟩
  rw [← hQ]
  have hl : lv_has ls 2 [(0, .ref o), (1, .int p1)] := hl
  refine lv_iload_n K.x K.b dX8_isCrow_0 rfl (lv_at hl 1 rfl) ?_
  refine lv_iconst (v := (0)) K.x K.b dX8_isCrow_1 (by decide) ?_
  refine lv_aload_n K.x K.b dX8_isCrow_2 rfl (lv_at hl 0 rfl) ?_
  refine z_get K hH 0 rfl zin_8 rfl 0 (by decide) tw_4_96 (v := .ref o_w) rfl dX8_isCrow_3 ?_
  refine lv_sipush (v := (422)) K.x K.b dX8_isCrow_6 (by decide) ?_
  refine z_iald K hH 1 (k := 422) rfl (by decide) rfl dX8_isCrow_9 ?_
  refine lv_iconst (v := (1)) K.x K.b dX8_isCrow_10 (by decide) ?_
  refine lv_isub K.x K.b dX8_isCrow_11 ?_
  obtain ⟨x1, ex1, h⟩ := z_lt_e h
  refine z_nm ex1 ?_
  obtain ⟨r2, hr3, h⟩ := z_bd_e h
  refine z_Si K hH hl.1 (c_X8_in l D y p1 (0 : Int32) x1 r2 hr3) (z_cwS K 3 tw_4_160 tw_4_161 tw_1_8 tw_4_162 hd_X8_in ⟨by decide, by decide⟩) rfl (As := [.int p1, .int (0 : Int32), .int x1]) (rest := []) rfl (Nat.le_of_ble_eq_true rfl) ⟨Nat.zero_le _, Nat.zero_le _⟩ dX8_isCrow_12 (fun H locs hH => ?_)
  obtain ⟨g4, h⟩ := z_gd_e h
  have hr9 := Option.some.inj h
  obtain rfl := hr9
  rw [hQ]
  exact z_reti K hr hH [0, 1] (by decide) rfl rfl (z_bz_e g4) dX8_isCrow_15
def p_X8_most (p1 : Int32) (p2 : Int32) : Option (Int32) :=
  z_bd (α := Int32) (if (p1 ≤ p2) then
  (some p2) else
  (some p1)) fun j1 =>
  some j1
theorem hd_X8_most : yX8_most.cls ≠ "java/lang/invoke/MethodHandle" ∧ yX8_most.cls ≠ "java/lang/invoke/VarHandle" ∧ (parseMethodDescriptor yX8_most.desc).map (fun d => d.parameters.length) = some 2 := by decide +kernel
set_option maxHeartbeats 4000000 in
set_option maxRecDepth 100000 in
theorem c_X8_most (l : Launch) (D : va_G) (y : Nat → ClassId) (p1 : Int32) (p2 : Int32) (r : Int32) (h : p_X8_most p1 p2 = some r) : z_MI l yX8_most cX8_most 2 (some .int) 0 0 D y [.int p1, .int p2] [] r [] := by
  unfold p_X8_most at h
  refine z_enI (by decide) (Nat.le_of_ble_eq_true rfl) ?_
  intro p e s m args below meth c A ls hr K hH hl
  obtain ⟨Q, hQ⟩ : ∃ Q, Q = MQ below (z_Qi D y A r []) args s 0 0 A := ⟨_, rfl⟩
  rw [← hQ]
  have hl : lv_has ls 2 [(0, .int p1), (1, .int p2)] := hl
  refine lv_iload_n K.x K.b dX8_most_0 rfl (lv_at hl 0 rfl) ?_
  refine lv_iload_n K.x K.b dX8_most_1 rfl (lv_at hl 1 rfl) ?_
  obtain ⟨j1, hj1, h⟩ := z_bd_e h
  have Kj1 : ∀ (H : Heap) (locs : List Loc) (ls : Array Slot), z_H D A s.heap [] H locs → lv_has ls 2 [] → W p l e (zR 0 0) s m args below meth c H locs 0 0 Q (F0 m 10 ls [.int j1]) := by
    intro H locs ls hH hl
    have hr9 := Option.some.inj h
    obtain rfl := hr9
    rw [hQ]
    exact z_reti K hr hH [] (by decide) rfl rfl rfl dX8_most_10
  replace h := hj1
  refine lv_icmp_le (tgt := 9) K.x K.b dX8_most_2 (by decide) (fun c2 => ?_) (fun c2 => ?_)
  · replace h := z_t c2 h
    refine lv_iload_n K.x K.b dX8_most_9 rfl (lv_at hl 1 rfl) ?_
    obtain rfl := Option.some.inj h
    exact Kj1 _ _ _ hH (lv_sub hl [] rfl)
  · replace h := z_f c2 h
    refine lv_iload_n K.x K.b dX8_most_5 rfl (lv_at hl 0 rfl) ?_
    refine lv_goto (tgt := 10) K.x K.b dX8_most_6 (by decide) ?_
    obtain rfl := Option.some.inj h
    exact Kj1 _ _ _ hH (lv_sub hl [] rfl)
def p_X8_madeOf (p1 : Int32) (p2 : Int32) (p3 : Int32) (p4 : Int32) : Option (Int32) :=
  z_lt (((10 : Int32) * p2)) fun x1 =>
  z_bd (α := Int32) (if ((9 : Int32) ≤ p4) then
  (some (9 : Int32)) else
  (some p4)) fun j2 =>
  z_lt ((x1 + ((3 : Int32) * j2))) fun x3 =>
  if p1 = 0 then
  (some x1) else
  (if p1 = 1 then
  (z_bd (α := Int32) (if (p3 < (12 : Int32)) then
  (some x1) else
  (some (x1 + (5 : Int32)))) fun j6 =>
  some j6) else
  (if p1 = 2 then
  (some x3) else
  (if p1 = 3 then
  (z_bd (α := Int32) (if (p4 < (3 : Int32)) then
  (some x3) else
  (some ((2 : Int32) * x3))) fun j10 =>
  some j10) else
  (if p1 = 4 then
  (some (x1 - p2)) else
  (z_lt ((x1 - p2)) fun x13 =>
  z_bd (p_X8_most (1 : Int32) x13) fun r14 =>
  some r14)))))
theorem hd_X8_madeOf : yX8_madeOf.cls ≠ "java/lang/invoke/MethodHandle" ∧ yX8_madeOf.cls ≠ "java/lang/invoke/VarHandle" ∧ (parseMethodDescriptor yX8_madeOf.desc).map (fun d => d.parameters.length) = some 4 := by decide +kernel
set_option maxHeartbeats 4000000 in
set_option maxRecDepth 100000 in
theorem c_X8_madeOf (l : Launch) (D : va_G) (y : Nat → ClassId) (p1 : Int32) (p2 : Int32) (p3 : Int32) (p4 : Int32) (r : Int32) (h : p_X8_madeOf p1 p2 p3 p4 = some r) : z_MI l yX8_madeOf cX8_madeOf 6 (some .int) 1 21 D y [.int p1, .int p2, .int p3, .int p4] [] r [] := by
  unfold p_X8_madeOf at h
  refine z_enI (by decide) (Nat.le_of_ble_eq_true rfl) ?_
  intro p e s m args below meth c A ls hr K hH hl
  obtain ⟨Q, hQ⟩ : ∃ Q, Q = MQ below (z_Qi D y A r []) args s 0 0 A := ⟨_, rfl⟩
  rw [← hQ]
  have hl : lv_has ls 6 [(0, .int p1), (1, .int p2), (2, .int p3), (3, .int p4)] := hl
  refine lv_bipush (v := (10)) K.x K.b dX8_madeOf_0 (by decide) ?_
  refine lv_iload_n K.x K.b dX8_madeOf_2 rfl (lv_at hl 1 rfl) ?_
  refine lv_imul K.x K.b dX8_madeOf_3 ?_
  obtain ⟨x1, ex1, h⟩ := z_lt_e h
  refine z_nm ex1 ?_
  refine lv_istore (lv' := [(4, .int x1), (0, .int p1), (1, .int p2), (2, .int p3), (3, .int p4)]) K.x K.b dX8_madeOf_4 hl (by decide) rfl (fun ls hl => ?_)
  refine lv_iload K.x K.b dX8_madeOf_6 (lv_at hl 0 rfl) ?_
  refine lv_iconst (v := (3)) K.x K.b dX8_madeOf_8 (by decide) ?_
  refine lv_iload_n K.x K.b dX8_madeOf_9 rfl (lv_at hl 4 rfl) ?_
  refine lv_bipush (v := (9)) K.x K.b dX8_madeOf_10 (by decide) ?_
  obtain ⟨j2, hj2, h⟩ := z_bd_e h
  have Kj2 : ∀ (H : Heap) (locs : List Loc) (ls : Array Slot), z_H D A s.heap [] H locs → lv_has ls 6 [(0, .int p1), (1, .int p2), (2, .int p3), (3, .int p4), (4, .int x1)] → W p l e (zR 1 21) s m args below meth c H locs 0 0 Q (F0 m 21 ls [.int j2, .int (3 : Int32), .int x1]) := by
    intro H locs ls hH hl
    refine lv_imul K.x K.b dX8_madeOf_21 ?_
    refine lv_iadd K.x K.b dX8_madeOf_22 ?_
    obtain ⟨x3, ex3, h⟩ := z_lt_e h
    refine z_nm ex3 ?_
    refine lv_istore (lv' := [(5, .int x3), (0, .int p1), (1, .int p2), (2, .int p3), (3, .int p4), (4, .int x1)]) K.x K.b dX8_madeOf_23 hl (by decide) rfl (fun ls hl => ?_)
    refine lv_iload_n K.x K.b dX8_madeOf_25 rfl (lv_at hl 1 rfl) ?_
    by_cases c4 : p1 = 0
    · replace h := z_t c4 h
      refine lv_tableIn (tgt := 60) K.x K.b dX8_madeOf_26 (by rw [c4]; decide) (by rw [c4]; decide) (by rw [c4]; rfl) (by decide) ?_
      refine lv_iload K.x K.b dX8_madeOf_60 (lv_at hl 5 rfl) ?_
      have hr9 := Option.some.inj h
      obtain rfl := hr9
      rw [hQ]
      exact z_reti K hr hH [] (by decide) rfl rfl rfl dX8_madeOf_62
    · replace h := z_f c4 h
      by_cases c5 : p1 = 1
      · replace h := z_t c5 h
        refine lv_tableIn (tgt := 63) K.x K.b dX8_madeOf_26 (by rw [c5]; decide) (by rw [c5]; decide) (by rw [c5]; rfl) (by decide) ?_
        refine lv_iload_n K.x K.b dX8_madeOf_63 rfl (lv_at hl 3 rfl) ?_
        refine lv_bipush (v := (12)) K.x K.b dX8_madeOf_64 (by decide) ?_
        obtain ⟨j6, hj6, h⟩ := z_bd_e h
        have Kj6 : ∀ (H : Heap) (locs : List Loc) (ls : Array Slot), z_H D A s.heap [] H locs → lv_has ls 6 [] → W p l e (zR 1 21) s m args below meth c H locs 0 0 Q (F0 m 78 ls [.int j6]) := by
          intro H locs ls hH hl
          have hr9 := Option.some.inj h
          obtain rfl := hr9
          rw [hQ]
          exact z_reti K hr hH [] (by decide) rfl rfl rfl dX8_madeOf_78
        replace h := hj6
        refine lv_icmp_lt (tgt := 76) K.x K.b dX8_madeOf_66 (by decide) (fun c7 => ?_) (fun c7 => ?_)
        · replace h := z_t c7 h
          refine lv_iload K.x K.b dX8_madeOf_76 (lv_at hl 5 rfl) ?_
          obtain rfl := Option.some.inj h
          exact Kj6 _ _ _ hH (lv_sub hl [] rfl)
        · replace h := z_f c7 h
          refine lv_iload K.x K.b dX8_madeOf_69 (lv_at hl 5 rfl) ?_
          refine lv_iconst (v := (5)) K.x K.b dX8_madeOf_71 (by decide) ?_
          refine lv_iadd K.x K.b dX8_madeOf_72 ?_
          refine lv_goto (tgt := 78) K.x K.b dX8_madeOf_73 (by decide) ?_
          obtain rfl := Option.some.inj h
          exact Kj6 _ _ _ hH (lv_sub hl [] rfl)
      · replace h := z_f c5 h
        by_cases c8 : p1 = 2
        · replace h := z_t c8 h
          refine lv_tableIn (tgt := 79) K.x K.b dX8_madeOf_26 (by rw [c8]; decide) (by rw [c8]; decide) (by rw [c8]; rfl) (by decide) ?_
          refine lv_iload K.x K.b dX8_madeOf_79 (lv_at hl 0 rfl) ?_
          have hr9 := Option.some.inj h
          obtain rfl := hr9
          rw [hQ]
          exact z_reti K hr hH [] (by decide) rfl rfl rfl dX8_madeOf_81
        · replace h := z_f c8 h
          by_cases c9 : p1 = 3
          · replace h := z_t c9 h
            refine lv_tableIn (tgt := 82) K.x K.b dX8_madeOf_26 (by rw [c9]; decide) (by rw [c9]; decide) (by rw [c9]; rfl) (by decide) ?_
            refine lv_iload_n K.x K.b dX8_madeOf_82 rfl (lv_at hl 4 rfl) ?_
            refine lv_iconst (v := (3)) K.x K.b dX8_madeOf_83 (by decide) ?_
            obtain ⟨j10, hj10, h⟩ := z_bd_e h
            have Kj10 : ∀ (H : Heap) (locs : List Loc) (ls : Array Slot), z_H D A s.heap [] H locs → lv_has ls 6 [] → W p l e (zR 1 21) s m args below meth c H locs 0 0 Q (F0 m 96 ls [.int j10]) := by
              intro H locs ls hH hl
              have hr9 := Option.some.inj h
              obtain rfl := hr9
              rw [hQ]
              exact z_reti K hr hH [] (by decide) rfl rfl rfl dX8_madeOf_96
            replace h := hj10
            refine lv_icmp_lt (tgt := 94) K.x K.b dX8_madeOf_84 (by decide) (fun c11 => ?_) (fun c11 => ?_)
            · replace h := z_t c11 h
              refine lv_iload K.x K.b dX8_madeOf_94 (lv_at hl 0 rfl) ?_
              obtain rfl := Option.some.inj h
              exact Kj10 _ _ _ hH (lv_sub hl [] rfl)
            · replace h := z_f c11 h
              refine lv_iconst (v := (2)) K.x K.b dX8_madeOf_87 (by decide) ?_
              refine lv_iload K.x K.b dX8_madeOf_88 (lv_at hl 0 rfl) ?_
              refine lv_imul K.x K.b dX8_madeOf_90 ?_
              refine lv_goto (tgt := 96) K.x K.b dX8_madeOf_91 (by decide) ?_
              obtain rfl := Option.some.inj h
              exact Kj10 _ _ _ hH (lv_sub hl [] rfl)
          · replace h := z_f c9 h
            by_cases c12 : p1 = 4
            · replace h := z_t c12 h
              refine lv_tableIn (tgt := 97) K.x K.b dX8_madeOf_26 (by rw [c12]; decide) (by rw [c12]; decide) (by rw [c12]; rfl) (by decide) ?_
              refine lv_iload K.x K.b dX8_madeOf_97 (lv_at hl 5 rfl) ?_
              refine lv_iload_n K.x K.b dX8_madeOf_99 rfl (lv_at hl 2 rfl) ?_
              refine lv_isub K.x K.b dX8_madeOf_100 ?_
              have hr9 := Option.some.inj h
              obtain rfl := hr9
              rw [hQ]
              exact z_reti K hr hH [] (by decide) rfl rfl rfl dX8_madeOf_101
            · replace h := z_f c12 h
              have hsw : p1.toInt < 0 ∨ 4 < p1.toInt := by
                have ic4 : p1.toInt ≠ 0 := fun q => c4 (Int32.toInt_inj.mp (q.trans (by decide)))
                have ic5 : p1.toInt ≠ 1 := fun q => c5 (Int32.toInt_inj.mp (q.trans (by decide)))
                have ic8 : p1.toInt ≠ 2 := fun q => c8 (Int32.toInt_inj.mp (q.trans (by decide)))
                have ic9 : p1.toInt ≠ 3 := fun q => c9 (Int32.toInt_inj.mp (q.trans (by decide)))
                have ic12 : p1.toInt ≠ 4 := fun q => c12 (Int32.toInt_inj.mp (q.trans (by decide)))
                omega
              refine lv_tableOut (tgt := 102) K.x K.b dX8_madeOf_26 hsw (by decide) ?_
              refine lv_iconst (v := (1)) K.x K.b dX8_madeOf_102 (by decide) ?_
              refine lv_iload K.x K.b dX8_madeOf_103 (lv_at hl 5 rfl) ?_
              refine lv_iload_n K.x K.b dX8_madeOf_105 rfl (lv_at hl 2 rfl) ?_
              refine lv_isub K.x K.b dX8_madeOf_106 ?_
              obtain ⟨x13, ex13, h⟩ := z_lt_e h
              refine z_nm ex13 ?_
              obtain ⟨r14, hr15, h⟩ := z_bd_e h
              refine z_Si K hH hl.1 (c_X8_most l D y (1 : Int32) x13 r14 hr15) (z_cwS K 2 tw_5_34 tw_5_35 tw_1_8 tw_5_36 hd_X8_most ⟨by decide, by decide⟩) rfl (As := [.int (1 : Int32), .int x13]) (rest := []) rfl (Nat.le_of_ble_eq_true rfl) ⟨Nat.zero_le _, Nat.zero_le _⟩ dX8_madeOf_107 (fun H locs hH => ?_)
              have hr9 := Option.some.inj h
              obtain rfl := hr9
              rw [hQ]
              exact z_reti K hr hH [] (by decide) rfl rfl rfl dX8_madeOf_110
  replace h := hj2
  refine lv_icmp_ge (tgt := 19) K.x K.b dX8_madeOf_12 (by decide) (fun c16 => ?_) (fun c16 => ?_)
  · replace h := z_t c16 h
    refine lv_bipush (v := (9)) K.x K.b dX8_madeOf_19 (by decide) ?_
    obtain rfl := Option.some.inj h
    exact Kj2 _ _ _ hH (lv_sub hl [1, 2, 3, 4, 0] rfl)
  · replace h := z_f c16 h
    refine lv_iload_n K.x K.b dX8_madeOf_15 rfl (lv_at hl 4 rfl) ?_
    refine lv_goto (tgt := 21) K.x K.b dX8_madeOf_16 (by decide) ?_
    obtain rfl := Option.some.inj h
    exact Kj2 _ _ _ hH (lv_sub hl [1, 2, 3, 4, 0] rfl)
def p_X8_farOf (p1 : Int32) (p2 : Int32) (p3 : Int32) : Option (Int32) :=
  z_lt ((p2 - (7 : Int32))) fun x1 =>
  z_bd (p_X8_most (1 : Int32) x1) fun r2 =>
  z_lt (((p2 + (4 : Int32)) + (p3 - p3 / (3 : Int32) * (3 : Int32)))) fun x4 =>
  if p1 = 0 then
  (some p2) else
  (if p1 = 1 then
  (some r2) else
  (if p1 = 2 then
  (some x4) else
  (if p1 = 3 then
  (some (x4 + (x4 / (4 : Int32)))) else
  (if p1 = 4 then
  (z_bd (α := Int32) (if ((p3 - p3 / (2 : Int32) * (2 : Int32)) = 0) then
  (some ((r2 + (1 : Int32)) / (2 : Int32))) else
  (some r2)) fun j10 =>
  some j10) else
  (z_lt ((p2 - (p2 - p2 / (10 : Int32) * (10 : Int32)))) fun x12 =>
  z_bd (p_X8_most (10 : Int32) x12) fun r13 =>
  some r13)))))
theorem hd_X8_farOf : yX8_farOf.cls ≠ "java/lang/invoke/MethodHandle" ∧ yX8_farOf.cls ≠ "java/lang/invoke/VarHandle" ∧ (parseMethodDescriptor yX8_farOf.desc).map (fun d => d.parameters.length) = some 3 := by decide +kernel
set_option maxHeartbeats 4000000 in
set_option maxRecDepth 100000 in
theorem c_X8_farOf (l : Launch) (D : va_G) (y : Nat → ClassId) (p1 : Int32) (p2 : Int32) (p3 : Int32) (r : Int32) (h : p_X8_farOf p1 p2 p3 = some r) : z_MI l yX8_farOf cX8_farOf 5 (some .int) 1 21 D y [.int p1, .int p2, .int p3] [] r [] := by
  unfold p_X8_farOf at h
  refine z_enI (by decide) (Nat.le_of_ble_eq_true rfl) ?_
  intro p e s m args below meth c A ls hr K hH hl
  obtain ⟨Q, hQ⟩ : ∃ Q, Q = MQ below (z_Qi D y A r []) args s 0 0 A := ⟨_, rfl⟩
  rw [← hQ]
  have hl : lv_has ls 5 [(0, .int p1), (1, .int p2), (2, .int p3)] := hl
  refine lv_iconst (v := (1)) K.x K.b dX8_farOf_0 (by decide) ?_
  refine lv_iload_n K.x K.b dX8_farOf_1 rfl (lv_at hl 1 rfl) ?_
  refine lv_bipush (v := (7)) K.x K.b dX8_farOf_2 (by decide) ?_
  refine lv_isub K.x K.b dX8_farOf_4 ?_
  obtain ⟨x1, ex1, h⟩ := z_lt_e h
  refine z_nm ex1 ?_
  obtain ⟨r2, hr3, h⟩ := z_bd_e h
  refine z_Si K hH hl.1 (c_X8_most l D y (1 : Int32) x1 r2 hr3) (z_cwS K 2 tw_5_34 tw_5_35 tw_1_8 tw_5_36 hd_X8_most ⟨by decide, by decide⟩) rfl (As := [.int (1 : Int32), .int x1]) (rest := []) rfl (Nat.le_of_ble_eq_true rfl) ⟨Nat.zero_le _, Nat.zero_le _⟩ dX8_farOf_5 (fun H locs hH => ?_)
  refine lv_istore_n (lv' := [(3, .int r2), (0, .int p1), (1, .int p2), (2, .int p3)]) K.x K.b dX8_farOf_8 rfl hl (by decide) rfl (fun ls hl => ?_)
  refine lv_iload_n K.x K.b dX8_farOf_9 rfl (lv_at hl 2 rfl) ?_
  refine lv_iconst (v := (4)) K.x K.b dX8_farOf_10 (by decide) ?_
  refine lv_iadd K.x K.b dX8_farOf_11 ?_
  refine lv_iload_n K.x K.b dX8_farOf_12 rfl (lv_at hl 3 rfl) ?_
  refine lv_iconst (v := (3)) K.x K.b dX8_farOf_13 (by decide) ?_
  refine lv_irem K.x K.b dX8_farOf_14 (by decide) ?_
  refine lv_iadd K.x K.b dX8_farOf_15 ?_
  obtain ⟨x4, ex4, h⟩ := z_lt_e h
  refine z_nm ex4 ?_
  refine lv_istore (lv' := [(4, .int x4), (3, .int r2), (0, .int p1), (1, .int p2), (2, .int p3)]) K.x K.b dX8_farOf_16 hl (by decide) rfl (fun ls hl => ?_)
  refine lv_iload_n K.x K.b dX8_farOf_18 rfl (lv_at hl 2 rfl) ?_
  by_cases c5 : p1 = 0
  · replace h := z_t c5 h
    refine lv_tableIn (tgt := 52) K.x K.b dX8_farOf_19 (by rw [c5]; decide) (by rw [c5]; decide) (by rw [c5]; rfl) (by decide) ?_
    refine lv_iload_n K.x K.b dX8_farOf_52 rfl (lv_at hl 3 rfl) ?_
    have hr9 := Option.some.inj h
    obtain rfl := hr9
    rw [hQ]
    exact z_reti K hr hH [] (by decide) rfl rfl rfl dX8_farOf_53
  · replace h := z_f c5 h
    by_cases c6 : p1 = 1
    · replace h := z_t c6 h
      refine lv_tableIn (tgt := 54) K.x K.b dX8_farOf_19 (by rw [c6]; decide) (by rw [c6]; decide) (by rw [c6]; rfl) (by decide) ?_
      refine lv_iload_n K.x K.b dX8_farOf_54 rfl (lv_at hl 1 rfl) ?_
      have hr9 := Option.some.inj h
      obtain rfl := hr9
      rw [hQ]
      exact z_reti K hr hH [] (by decide) rfl rfl rfl dX8_farOf_55
    · replace h := z_f c6 h
      by_cases c7 : p1 = 2
      · replace h := z_t c7 h
        refine lv_tableIn (tgt := 56) K.x K.b dX8_farOf_19 (by rw [c7]; decide) (by rw [c7]; decide) (by rw [c7]; rfl) (by decide) ?_
        refine lv_iload K.x K.b dX8_farOf_56 (lv_at hl 0 rfl) ?_
        have hr9 := Option.some.inj h
        obtain rfl := hr9
        rw [hQ]
        exact z_reti K hr hH [] (by decide) rfl rfl rfl dX8_farOf_58
      · replace h := z_f c7 h
        by_cases c8 : p1 = 3
        · replace h := z_t c8 h
          refine lv_tableIn (tgt := 59) K.x K.b dX8_farOf_19 (by rw [c8]; decide) (by rw [c8]; decide) (by rw [c8]; rfl) (by decide) ?_
          refine lv_iload K.x K.b dX8_farOf_59 (lv_at hl 0 rfl) ?_
          refine lv_iload K.x K.b dX8_farOf_61 (lv_at hl 0 rfl) ?_
          refine lv_iconst (v := (4)) K.x K.b dX8_farOf_63 (by decide) ?_
          refine lv_idiv K.x K.b dX8_farOf_64 (by decide) ?_
          refine lv_iadd K.x K.b dX8_farOf_65 ?_
          have hr9 := Option.some.inj h
          obtain rfl := hr9
          rw [hQ]
          exact z_reti K hr hH [] (by decide) rfl rfl rfl dX8_farOf_66
        · replace h := z_f c8 h
          by_cases c9 : p1 = 4
          · replace h := z_t c9 h
            refine lv_tableIn (tgt := 67) K.x K.b dX8_farOf_19 (by rw [c9]; decide) (by rw [c9]; decide) (by rw [c9]; rfl) (by decide) ?_
            refine lv_iload_n K.x K.b dX8_farOf_67 rfl (lv_at hl 4 rfl) ?_
            refine lv_iconst (v := (2)) K.x K.b dX8_farOf_68 (by decide) ?_
            refine lv_irem K.x K.b dX8_farOf_69 (by decide) ?_
            obtain ⟨j10, hj10, h⟩ := z_bd_e h
            have Kj10 : ∀ (H : Heap) (locs : List Loc) (ls : Array Slot), z_H D A s.heap [] H locs → lv_has ls 5 [] → W p l e (zR 1 21) s m args below meth c H locs 0 0 Q (F0 m 82 ls [.int j10]) := by
              intro H locs ls hH hl
              have hr9 := Option.some.inj h
              obtain rfl := hr9
              rw [hQ]
              exact z_reti K hr hH [] (by decide) rfl rfl rfl dX8_farOf_82
            replace h := hj10
            refine lv_if_ne (tgt := 81) K.x K.b dX8_farOf_70 (by decide) (fun c11 => ?_) (fun c11 => ?_)
            · replace h := z_f c11 h
              refine lv_iload_n K.x K.b dX8_farOf_81 rfl (lv_at hl 1 rfl) ?_
              obtain rfl := Option.some.inj h
              exact Kj10 _ _ _ hH (lv_sub hl [] rfl)
            · replace h := z_t c11 h
              refine lv_iload_n K.x K.b dX8_farOf_73 rfl (lv_at hl 1 rfl) ?_
              refine lv_iconst (v := (1)) K.x K.b dX8_farOf_74 (by decide) ?_
              refine lv_iadd K.x K.b dX8_farOf_75 ?_
              refine lv_iconst (v := (2)) K.x K.b dX8_farOf_76 (by decide) ?_
              refine lv_idiv K.x K.b dX8_farOf_77 (by decide) ?_
              refine lv_goto (tgt := 82) K.x K.b dX8_farOf_78 (by decide) ?_
              obtain rfl := Option.some.inj h
              exact Kj10 _ _ _ hH (lv_sub hl [] rfl)
          · replace h := z_f c9 h
            have hsw : p1.toInt < 0 ∨ 4 < p1.toInt := by
              have ic5 : p1.toInt ≠ 0 := fun q => c5 (Int32.toInt_inj.mp (q.trans (by decide)))
              have ic6 : p1.toInt ≠ 1 := fun q => c6 (Int32.toInt_inj.mp (q.trans (by decide)))
              have ic7 : p1.toInt ≠ 2 := fun q => c7 (Int32.toInt_inj.mp (q.trans (by decide)))
              have ic8 : p1.toInt ≠ 3 := fun q => c8 (Int32.toInt_inj.mp (q.trans (by decide)))
              have ic9 : p1.toInt ≠ 4 := fun q => c9 (Int32.toInt_inj.mp (q.trans (by decide)))
              omega
            refine lv_tableOut (tgt := 83) K.x K.b dX8_farOf_19 hsw (by decide) ?_
            refine lv_bipush (v := (10)) K.x K.b dX8_farOf_83 (by decide) ?_
            refine lv_iload_n K.x K.b dX8_farOf_85 rfl (lv_at hl 3 rfl) ?_
            refine lv_iload_n K.x K.b dX8_farOf_86 rfl (lv_at hl 3 rfl) ?_
            refine lv_bipush (v := (10)) K.x K.b dX8_farOf_87 (by decide) ?_
            refine lv_irem K.x K.b dX8_farOf_89 (by decide) ?_
            refine lv_isub K.x K.b dX8_farOf_90 ?_
            obtain ⟨x12, ex12, h⟩ := z_lt_e h
            refine z_nm ex12 ?_
            obtain ⟨r13, hr14, h⟩ := z_bd_e h
            refine z_Si K hH hl.1 (c_X8_most l D y (10 : Int32) x12 r13 hr14) (z_cwS K 2 tw_5_34 tw_5_35 tw_1_8 tw_5_36 hd_X8_most ⟨by decide, by decide⟩) rfl (As := [.int (10 : Int32), .int x12]) (rest := []) rfl (Nat.le_of_ble_eq_true rfl) ⟨Nat.zero_le _, Nat.zero_le _⟩ dX8_farOf_91 (fun H locs hH => ?_)
            have hr9 := Option.some.inj h
            obtain rfl := hr9
            rw [hQ]
            exact z_reti K hr hH [] (by decide) rfl rfl rfl dX8_farOf_94
def p_X8_straightIn (f_w : (Nat → Int32)) (p1 : Int32) (p2 : Int32) (p3 : Int32) : Option (Int32) :=
  z_lt ((((p1 + (397 : Int32)) + ((3 : Int32) * p2)) + (1 : Int32))) fun x1 =>
  z_gd (z_in x1 1960) <|
  z_lt ((((p1 + (397 : Int32)) + ((3 : Int32) * p3)) + (1 : Int32))) fun x3 =>
  z_gd (z_in x3 1960) <|
  z_lt (((f_w x1.toNatClampNeg) - (f_w x3.toNatClampNeg))) fun x5 =>
  z_lt ((((p1 + (397 : Int32)) + ((3 : Int32) * p2)) + (2 : Int32))) fun x6 =>
  z_gd (z_in x6 1960) <|
  z_lt ((((p1 + (397 : Int32)) + ((3 : Int32) * p3)) + (2 : Int32))) fun x8 =>
  z_gd (z_in x8 1960) <|
  z_lt (((f_w x6.toNatClampNeg) - (f_w x8.toNatClampNeg))) fun x10 =>
  z_bd (α := Int32) (if (0 ≤ x5) then
  (some x5) else
  (some (-x5))) fun j11 =>
  z_bd (α := Int32) (if (0 ≤ x10) then
  (some x10) else
  (some (-x10))) fun j12 =>
  some (j11 + j12)
theorem hd_X8_straightIn : yX8_straightIn.cls = RX8 ∧ yX8_straightIn.cls ≠ "java/lang/invoke/MethodHandle" ∧ yX8_straightIn.cls ≠ "java/lang/invoke/VarHandle" ∧ (parseMethodDescriptor yX8_straightIn.desc).map (fun d => d.parameters.length) = some 3 := by decide +kernel
set_option maxHeartbeats 4000000 in
set_option maxRecDepth 100000 in
theorem c_X8_straightIn (l : Launch) (D : va_G) (y : Nat → ClassId) (o o_w : Nat) (g_kept g_text g_size g_above g_below g_bads g_noes g_fulls g_at g_from g_token g_value g_readFault g_yet g_fars g_tells : Value) (f_w : (Nat → Int32)) (p1 : Int32) (p2 : Int32) (p3 : Int32) (r : Int32) (h : p_X8_straightIn f_w p1 p2 p3 = some r) : z_MI l yX8_straightIn cX8_straightIn 6 (some .int) 0 0 D y [.ref o, .int p1, .int p2, .int p3] [(o, .inr (7, [.ref o_w, g_kept, g_text, g_size, g_above, g_below, g_bads, g_noes, g_fulls, g_at, g_from, g_token, g_value, g_readFault, g_yet, g_fars, g_tells])), (o_w, .inl (y 0, 1960, .inl f_w))] r [(o, .inr (7, [.ref o_w, g_kept, g_text, g_size, g_above, g_below, g_bads, g_noes, g_fulls, g_at, g_from, g_token, g_value, g_readFault, g_yet, g_fars, g_tells])), (o_w, .inl (y 0, 1960, .inl f_w))] := by
  unfold p_X8_straightIn at h
  refine z_enI (by decide) (Nat.le_of_ble_eq_true rfl) ?_
  intro p e s m args below meth c A ls hr K hH hl
  obtain ⟨Q, hQ⟩ : ∃ Q, Q = MQ below (z_Qi D y A r [(o, .inr (7, [.ref o_w, g_kept, g_text, g_size, g_above, g_below, g_bads, g_noes, g_fulls, g_at, g_from, g_token, g_value, g_readFault, g_yet, g_fars, g_tells])), (o_w, .inl (y 0, 1960, .inl f_w))]) args s 0 0 A := ⟨_, rfl⟩
  rw [← hQ]
  have hl : lv_has ls 6 [(0, .ref o), (1, .int p1), (2, .int p2), (3, .int p3)] := hl
  refine lv_aload_n K.x K.b dX8_straightIn_0 rfl (lv_at hl 0 rfl) ?_
  refine z_get K hH 0 rfl zin_8 rfl 0 (by decide) tw_4_96 (v := .ref o_w) rfl dX8_straightIn_1 ?_
  refine lv_iload_n K.x K.b dX8_straightIn_4 rfl (lv_at hl 1 rfl) ?_
  refine lv_sipush (v := (397)) K.x K.b dX8_straightIn_5 (by decide) ?_
  refine lv_iadd K.x K.b dX8_straightIn_8 ?_
  refine lv_iconst (v := (3)) K.x K.b dX8_straightIn_9 (by decide) ?_
  refine lv_iload_n K.x K.b dX8_straightIn_10 rfl (lv_at hl 2 rfl) ?_
  refine lv_imul K.x K.b dX8_straightIn_11 ?_
  refine lv_iadd K.x K.b dX8_straightIn_12 ?_
  refine lv_iconst (v := (1)) K.x K.b dX8_straightIn_13 (by decide) ?_
  refine lv_iadd K.x K.b dX8_straightIn_14 ?_
  obtain ⟨x1, ex1, h⟩ := z_lt_e h
  refine z_nm ex1 ?_
  obtain ⟨g2, h⟩ := z_gd_e h
  refine z_iald K hH 1 (k := x1.toNatClampNeg) rfl g2 rfl dX8_straightIn_15 ?_
  refine lv_aload_n K.x K.b dX8_straightIn_16 rfl (lv_at hl 0 rfl) ?_
  refine z_get K hH 0 rfl zin_8 rfl 0 (by decide) tw_4_96 (v := .ref o_w) rfl dX8_straightIn_17 ?_
  refine lv_iload_n K.x K.b dX8_straightIn_20 rfl (lv_at hl 1 rfl) ?_
  refine lv_sipush (v := (397)) K.x K.b dX8_straightIn_21 (by decide) ?_
  refine lv_iadd K.x K.b dX8_straightIn_24 ?_
  refine lv_iconst (v := (3)) K.x K.b dX8_straightIn_25 (by decide) ?_
  refine lv_iload_n K.x K.b dX8_straightIn_26 rfl (lv_at hl 3 rfl) ?_
  refine lv_imul K.x K.b dX8_straightIn_27 ?_
  refine lv_iadd K.x K.b dX8_straightIn_28 ?_
  refine lv_iconst (v := (1)) K.x K.b dX8_straightIn_29 (by decide) ?_
  refine lv_iadd K.x K.b dX8_straightIn_30 ?_
  obtain ⟨x3, ex3, h⟩ := z_lt_e h
  refine z_nm ex3 ?_
  obtain ⟨g4, h⟩ := z_gd_e h
  refine z_iald K hH 1 (k := x3.toNatClampNeg) rfl g4 rfl dX8_straightIn_31 ?_
  refine lv_isub K.x K.b dX8_straightIn_32 ?_
  obtain ⟨x5, ex5, h⟩ := z_lt_e h
  refine z_nm ex5 ?_
  refine lv_istore (lv' := [(4, .int x5), (0, .ref o), (1, .int p1), (2, .int p2), (3, .int p3)]) K.x K.b dX8_straightIn_33 hl (by decide) rfl (fun ls hl => ?_)
  refine lv_aload_n K.x K.b dX8_straightIn_35 rfl (lv_at hl 1 rfl) ?_
  refine z_get K hH 0 rfl zin_8 rfl 0 (by decide) tw_4_96 (v := .ref o_w) rfl dX8_straightIn_36 ?_
  refine lv_iload_n K.x K.b dX8_straightIn_39 rfl (lv_at hl 2 rfl) ?_
  refine lv_sipush (v := (397)) K.x K.b dX8_straightIn_40 (by decide) ?_
  refine lv_iadd K.x K.b dX8_straightIn_43 ?_
  refine lv_iconst (v := (3)) K.x K.b dX8_straightIn_44 (by decide) ?_
  refine lv_iload_n K.x K.b dX8_straightIn_45 rfl (lv_at hl 3 rfl) ?_
  refine lv_imul K.x K.b dX8_straightIn_46 ?_
  refine lv_iadd K.x K.b dX8_straightIn_47 ?_
  refine lv_iconst (v := (2)) K.x K.b dX8_straightIn_48 (by decide) ?_
  refine lv_iadd K.x K.b dX8_straightIn_49 ?_
  obtain ⟨x6, ex6, h⟩ := z_lt_e h
  refine z_nm ex6 ?_
  obtain ⟨g7, h⟩ := z_gd_e h
  refine z_iald K hH 1 (k := x6.toNatClampNeg) rfl g7 rfl dX8_straightIn_50 ?_
  refine lv_aload_n K.x K.b dX8_straightIn_51 rfl (lv_at hl 1 rfl) ?_
  refine z_get K hH 0 rfl zin_8 rfl 0 (by decide) tw_4_96 (v := .ref o_w) rfl dX8_straightIn_52 ?_
  refine lv_iload_n K.x K.b dX8_straightIn_55 rfl (lv_at hl 2 rfl) ?_
  refine lv_sipush (v := (397)) K.x K.b dX8_straightIn_56 (by decide) ?_
  refine lv_iadd K.x K.b dX8_straightIn_59 ?_
  refine lv_iconst (v := (3)) K.x K.b dX8_straightIn_60 (by decide) ?_
  refine lv_iload_n K.x K.b dX8_straightIn_61 rfl (lv_at hl 4 rfl) ?_
  refine lv_imul K.x K.b dX8_straightIn_62 ?_
  refine lv_iadd K.x K.b dX8_straightIn_63 ?_
  refine lv_iconst (v := (2)) K.x K.b dX8_straightIn_64 (by decide) ?_
  refine lv_iadd K.x K.b dX8_straightIn_65 ?_
  obtain ⟨x8, ex8, h⟩ := z_lt_e h
  refine z_nm ex8 ?_
  obtain ⟨g9, h⟩ := z_gd_e h
  refine z_iald K hH 1 (k := x8.toNatClampNeg) rfl g9 rfl dX8_straightIn_66 ?_
  refine lv_isub K.x K.b dX8_straightIn_67 ?_
  obtain ⟨x10, ex10, h⟩ := z_lt_e h
  refine z_nm ex10 ?_
  refine lv_istore (lv' := [(5, .int x10), (4, .int x5), (0, .ref o), (1, .int p1), (2, .int p2), (3, .int p3)]) K.x K.b dX8_straightIn_68 hl (by decide) rfl (fun ls hl => ?_)
  refine lv_iload K.x K.b dX8_straightIn_70 (lv_at hl 1 rfl) ?_
  obtain ⟨j11, hj11, h⟩ := z_bd_e h
  have Kj11 : ∀ (H : Heap) (locs : List Loc) (ls : Array Slot), z_H D A s.heap [(o, .inr (7, [.ref o_w, g_kept, g_text, g_size, g_above, g_below, g_bads, g_noes, g_fulls, g_at, g_from, g_token, g_value, g_readFault, g_yet, g_fars, g_tells])), (o_w, .inl (y 0, 1960, .inl f_w))] H locs → lv_has ls 6 [(5, .int x10)] → W p l e (zR 0 0) s m args below meth c H locs 0 0 Q (F0 m 83 ls [.int j11]) := by
    intro H locs ls hH hl
    refine lv_iload K.x K.b dX8_straightIn_83 (lv_at hl 0 rfl) ?_
    obtain ⟨j12, hj12, h⟩ := z_bd_e h
    have Kj12 : ∀ (H : Heap) (locs : List Loc) (ls : Array Slot), z_H D A s.heap [(o, .inr (7, [.ref o_w, g_kept, g_text, g_size, g_above, g_below, g_bads, g_noes, g_fulls, g_at, g_from, g_token, g_value, g_readFault, g_yet, g_fars, g_tells])), (o_w, .inl (y 0, 1960, .inl f_w))] H locs → lv_has ls 6 [] → W p l e (zR 0 0) s m args below meth c H locs 0 0 Q (F0 m 96 ls [.int j12, .int j11]) := by
      intro H locs ls hH hl
      refine lv_iadd K.x K.b dX8_straightIn_96 ?_
      have hr9 := Option.some.inj h
      obtain rfl := hr9
      rw [hQ]
      exact z_reti K hr hH [0, 1] (by decide) rfl rfl rfl dX8_straightIn_97
    replace h := hj12
    refine lv_if_ge (tgt := 94) K.x K.b dX8_straightIn_85 (by decide) (fun c13 => ?_) (fun c13 => ?_)
    · replace h := z_t c13 h
      refine lv_iload K.x K.b dX8_straightIn_94 (lv_at hl 0 rfl) ?_
      obtain rfl := Option.some.inj h
      exact Kj12 _ _ _ hH (lv_sub hl [] rfl)
    · replace h := z_f c13 h
      refine lv_iload K.x K.b dX8_straightIn_88 (lv_at hl 0 rfl) ?_
      refine lv_ineg K.x K.b dX8_straightIn_90 ?_
      refine lv_goto (tgt := 96) K.x K.b dX8_straightIn_91 (by decide) ?_
      obtain rfl := Option.some.inj h
      exact Kj12 _ _ _ hH (lv_sub hl [] rfl)
  replace h := hj11
  refine lv_if_ge (tgt := 81) K.x K.b dX8_straightIn_72 (by decide) (fun c14 => ?_) (fun c14 => ?_)
  · replace h := z_t c14 h
    refine lv_iload K.x K.b dX8_straightIn_81 (lv_at hl 1 rfl) ?_
    obtain rfl := Option.some.inj h
    exact Kj11 _ _ _ hH (lv_sub hl [0] rfl)
  · replace h := z_f c14 h
    refine lv_iload K.x K.b dX8_straightIn_75 (lv_at hl 1 rfl) ?_
    refine lv_ineg K.x K.b dX8_straightIn_77 ?_
    refine lv_goto (tgt := 83) K.x K.b dX8_straightIn_78 (by decide) ?_
    obtain rfl := Option.some.inj h
    exact Kj11 _ _ _ hH (lv_sub hl [0] rfl)
def p_X8_farAt (f_w : (Nat → Int32)) (p1 : Int32) (p2 : Int32) (p3 : Int32) (p4 : Int32) (p5 : Int32) (p6 : Int32) : Option (Int32) :=
  if (p4 = p5) then
  (some (0 : Int32)) else
  (z_lt (((p2 + (419 : Int32)) + p3)) fun x2 =>
  z_gd (z_in x2 1960) <|
  z_bd (p_X8_straightIn f_w p2 p4 p5) fun r4 =>
  z_lt (((p1 + (3 : Int32)) + p3)) fun x6 =>
  z_gd (z_in x6 1960) <|
  z_lt ((f_w x6.toNatClampNeg)) fun x8 =>
  z_bd (p_X8_madeOf (f_w x2.toNatClampNeg) r4 p6 x8) fun r9 =>
  z_lt (((p2 + (397 : Int32)) + ((3 : Int32) * p5))) fun x11 =>
  z_gd (z_in x11 1960) <|
  z_lt ((f_w x11.toNatClampNeg)) fun x13 =>
  z_bd (p_X8_farOf x13 r9 p6) fun r14 =>
  some r14)
theorem hd_X8_farAt : yX8_farAt.cls = RX8 ∧ yX8_farAt.cls ≠ "java/lang/invoke/MethodHandle" ∧ yX8_farAt.cls ≠ "java/lang/invoke/VarHandle" ∧ (parseMethodDescriptor yX8_farAt.desc).map (fun d => d.parameters.length) = some 6 := by decide +kernel
set_option maxHeartbeats 4000000 in
set_option maxRecDepth 100000 in
theorem c_X8_farAt (l : Launch) (D : va_G) (y : Nat → ClassId) (o o_w : Nat) (g_kept g_text g_size g_above g_below g_bads g_noes g_fulls g_at g_from g_token g_value g_readFault g_yet g_fars g_tells : Value) (f_w : (Nat → Int32)) (p1 : Int32) (p2 : Int32) (p3 : Int32) (p4 : Int32) (p5 : Int32) (p6 : Int32) (r : Int32) (h : p_X8_farAt f_w p1 p2 p3 p4 p5 p6 = some r) : z_MI l yX8_farAt cX8_farAt 8 (some .int) 2 46 D y [.ref o, .int p1, .int p2, .int p3, .int p4, .int p5, .int p6] [(o, .inr (7, [.ref o_w, g_kept, g_text, g_size, g_above, g_below, g_bads, g_noes, g_fulls, g_at, g_from, g_token, g_value, g_readFault, g_yet, g_fars, g_tells])), (o_w, .inl (y 0, 1960, .inl f_w))] r [(o, .inr (7, [.ref o_w, g_kept, g_text, g_size, g_above, g_below, g_bads, g_noes, g_fulls, g_at, g_from, g_token, g_value, g_readFault, g_yet, g_fars, g_tells])), (o_w, .inl (y 0, 1960, .inl f_w))] := by
  unfold p_X8_farAt at h
  refine z_enI (by decide) (Nat.le_of_ble_eq_true rfl) ?_
  intro p e s m args below meth c A ls hr K hH hl
  obtain ⟨Q, hQ⟩ : ∃ Q, Q = MQ below (z_Qi D y A r [(o, .inr (7, [.ref o_w, g_kept, g_text, g_size, g_above, g_below, g_bads, g_noes, g_fulls, g_at, g_from, g_token, g_value, g_readFault, g_yet, g_fars, g_tells])), (o_w, .inl (y 0, 1960, .inl f_w))]) args s 0 0 A := ⟨_, rfl⟩
  rw [← hQ]
  have hl : lv_has ls 8 [(0, .ref o), (1, .int p1), (2, .int p2), (3, .int p3), (4, .int p4), (5, .int p5), (6, .int p6)] := hl
  refine lv_iload K.x K.b dX8_farAt_0 (lv_at hl 4 rfl) ?_
  refine lv_iload K.x K.b dX8_farAt_2 (lv_at hl 5 rfl) ?_
  refine lv_icmp_ne (tgt := 9) K.x K.b dX8_farAt_4 (by decide) (fun c1 => ?_) (fun c1 => ?_)
  · replace h := z_f c1 h
    refine lv_aload_n K.x K.b dX8_farAt_9 rfl (lv_at hl 0 rfl) ?_
    refine z_get K hH 0 rfl zin_8 rfl 0 (by decide) tw_4_96 (v := .ref o_w) rfl dX8_farAt_10 ?_
    refine lv_iload_n K.x K.b dX8_farAt_13 rfl (lv_at hl 2 rfl) ?_
    refine lv_sipush (v := (419)) K.x K.b dX8_farAt_14 (by decide) ?_
    refine lv_iadd K.x K.b dX8_farAt_17 ?_
    refine lv_iload_n K.x K.b dX8_farAt_18 rfl (lv_at hl 3 rfl) ?_
    refine lv_iadd K.x K.b dX8_farAt_19 ?_
    obtain ⟨x2, ex2, h⟩ := z_lt_e h
    refine z_nm ex2 ?_
    obtain ⟨g3, h⟩ := z_gd_e h
    refine z_iald K hH 1 (k := x2.toNatClampNeg) rfl g3 rfl dX8_farAt_20 ?_
    refine lv_aload_n K.x K.b dX8_farAt_21 rfl (lv_at hl 0 rfl) ?_
    refine lv_iload_n K.x K.b dX8_farAt_22 rfl (lv_at hl 2 rfl) ?_
    refine lv_iload K.x K.b dX8_farAt_23 (lv_at hl 4 rfl) ?_
    refine lv_iload K.x K.b dX8_farAt_25 (lv_at hl 5 rfl) ?_
    obtain ⟨r4, hr5, h⟩ := z_bd_e h
    refine z_Vi K hH hl.1 (c_X8_straightIn l D y o o_w (g_kept) (g_text) (g_size) (g_above) (g_below) (g_bads) (g_noes) (g_fulls) (g_at) (g_from) (g_token) (g_value) (g_readFault) (g_yet) (g_fars) (g_tells) f_w p2 p4 p5 r4 hr5) (z_cwV K 3 tw_5_27 tw_5_29 tw_0_59 tw_1_8 tw_5_30 hd_X8_straightIn ⟨by decide, by decide⟩) [0, 1] [] rfl (wr := []) rfl rfl rfl (by decide) rfl rfl rfl (As := [.int p2, .int p4, .int p5]) (rest := [.int (f_w x2.toNatClampNeg)]) rfl (Nat.le_of_ble_eq_true rfl) ⟨Nat.zero_le _, Nat.zero_le _⟩ dX8_farAt_27 (ws' := [(o, .inr (7, [.ref o_w, g_kept, g_text, g_size, g_above, g_below, g_bads, g_noes, g_fulls, g_at, g_from, g_token, g_value, g_readFault, g_yet, g_fars, g_tells])), (o_w, .inl (y 0, 1960, .inl f_w))]) rfl (fun H locs hH => ?_)
    refine lv_iload K.x K.b dX8_farAt_30 (lv_at hl 6 rfl) ?_
    refine lv_aload_n K.x K.b dX8_farAt_32 rfl (lv_at hl 0 rfl) ?_
    refine z_get K hH 0 rfl zin_8 rfl 0 (by decide) tw_4_96 (v := .ref o_w) rfl dX8_farAt_33 ?_
    refine lv_iload_n K.x K.b dX8_farAt_36 rfl (lv_at hl 1 rfl) ?_
    refine lv_iconst (v := (3)) K.x K.b dX8_farAt_37 (by decide) ?_
    refine lv_iadd K.x K.b dX8_farAt_38 ?_
    refine lv_iload_n K.x K.b dX8_farAt_39 rfl (lv_at hl 3 rfl) ?_
    refine lv_iadd K.x K.b dX8_farAt_40 ?_
    obtain ⟨x6, ex6, h⟩ := z_lt_e h
    refine z_nm ex6 ?_
    obtain ⟨g7, h⟩ := z_gd_e h
    refine z_iald K hH 1 (k := x6.toNatClampNeg) rfl g7 rfl dX8_farAt_41 ?_
    obtain ⟨x8, ex8, h⟩ := z_lt_e h
    refine z_nm ex8 ?_
    obtain ⟨r9, hr10, h⟩ := z_bd_e h
    refine z_Si K hH hl.1 (c_X8_madeOf l D y (f_w x2.toNatClampNeg) r4 p6 x8 r9 hr10) (z_cwS K 4 tw_5_31 tw_5_32 tw_1_8 tw_5_33 hd_X8_madeOf ⟨by decide, by decide⟩) rfl (As := [.int (f_w x2.toNatClampNeg), .int r4, .int p6, .int x8]) (rest := []) rfl (Nat.le_of_ble_eq_true rfl) ⟨Nat.zero_le _, Nat.zero_le _⟩ dX8_farAt_42 (fun H locs hH => ?_)
    refine lv_istore (lv' := [(7, .int r9), (0, .ref o), (1, .int p1), (2, .int p2), (3, .int p3), (4, .int p4), (5, .int p5), (6, .int p6)]) K.x K.b dX8_farAt_45 hl (by decide) rfl (fun ls hl => ?_)
    refine lv_aload_n K.x K.b dX8_farAt_47 rfl (lv_at hl 1 rfl) ?_
    refine z_get K hH 0 rfl zin_8 rfl 0 (by decide) tw_4_96 (v := .ref o_w) rfl dX8_farAt_48 ?_
    refine lv_iload_n K.x K.b dX8_farAt_51 rfl (lv_at hl 3 rfl) ?_
    refine lv_sipush (v := (397)) K.x K.b dX8_farAt_52 (by decide) ?_
    refine lv_iadd K.x K.b dX8_farAt_55 ?_
    refine lv_iconst (v := (3)) K.x K.b dX8_farAt_56 (by decide) ?_
    refine lv_iload K.x K.b dX8_farAt_57 (lv_at hl 6 rfl) ?_
    refine lv_imul K.x K.b dX8_farAt_59 ?_
    refine lv_iadd K.x K.b dX8_farAt_60 ?_
    obtain ⟨x11, ex11, h⟩ := z_lt_e h
    refine z_nm ex11 ?_
    obtain ⟨g12, h⟩ := z_gd_e h
    refine z_iald K hH 1 (k := x11.toNatClampNeg) rfl g12 rfl dX8_farAt_61 ?_
    refine lv_iload K.x K.b dX8_farAt_62 (lv_at hl 0 rfl) ?_
    refine lv_iload K.x K.b dX8_farAt_64 (lv_at hl 7 rfl) ?_
    obtain ⟨x13, ex13, h⟩ := z_lt_e h
    refine z_nm3 ex13 ?_
    obtain ⟨r14, hr15, h⟩ := z_bd_e h
    refine z_Si K hH hl.1 (c_X8_farOf l D y x13 r9 p6 r14 hr15) (z_cwS K 3 tw_5_37 tw_5_38 tw_1_8 tw_5_39 hd_X8_farOf ⟨by decide, by decide⟩) rfl (As := [.int x13, .int r9, .int p6]) (rest := []) rfl (Nat.le_of_ble_eq_true rfl) ⟨Nat.zero_le _, Nat.zero_le _⟩ dX8_farAt_66 (fun H locs hH => ?_)
    have hr9 := Option.some.inj h
    obtain rfl := hr9
    rw [hQ]
    exact z_reti K hr hH [0, 1] (by decide) rfl rfl rfl dX8_farAt_69
  · replace h := z_t c1 h
    refine lv_iconst (v := (0)) K.x K.b dX8_farAt_7 (by decide) ?_
    have hr9 := Option.some.inj h
    obtain rfl := hr9
    rw [hQ]
    exact z_reti K hr hH [0, 1] (by decide) rfl rfl rfl dX8_farAt_8
def p_X8_farIn (f_w : (Nat → Int32)) (p1 : Int32) (p2 : Int32) (p3 : Int32) (p4 : Int32) (p5 : Int32) : Option (Int32) :=
  z_lt ((p1 + (6 : Int32))) fun x1 =>
  z_gd (z_in x1 1960) <|
  z_lt ((f_w x1.toNatClampNeg)) fun x3 =>
  z_lt ((x3 - x3 / (24 : Int32) * (24 : Int32))) fun x4 =>
  z_bd (p_X8_farAt f_w p1 p2 p3 p4 p5 x4) fun r5 =>
  some r5
theorem hd_X8_farIn : yX8_farIn.cls = RX8 ∧ yX8_farIn.cls ≠ "java/lang/invoke/MethodHandle" ∧ yX8_farIn.cls ≠ "java/lang/invoke/VarHandle" ∧ (parseMethodDescriptor yX8_farIn.desc).map (fun d => d.parameters.length) = some 5 := by decide +kernel
set_option maxHeartbeats 4000000 in
set_option maxRecDepth 100000 in
theorem c_X8_farIn (l : Launch) (D : va_G) (y : Nat → ClassId) (o o_w : Nat) (g_kept g_text g_size g_above g_below g_bads g_noes g_fulls g_at g_from g_token g_value g_readFault g_yet g_fars g_tells : Value) (f_w : (Nat → Int32)) (p1 : Int32) (p2 : Int32) (p3 : Int32) (p4 : Int32) (p5 : Int32) (r : Int32) (h : p_X8_farIn f_w p1 p2 p3 p4 p5 = some r) : z_MI l yX8_farIn cX8_farIn 6 (some .int) 3 73 D y [.ref o, .int p1, .int p2, .int p3, .int p4, .int p5] [(o, .inr (7, [.ref o_w, g_kept, g_text, g_size, g_above, g_below, g_bads, g_noes, g_fulls, g_at, g_from, g_token, g_value, g_readFault, g_yet, g_fars, g_tells])), (o_w, .inl (y 0, 1960, .inl f_w))] r [(o, .inr (7, [.ref o_w, g_kept, g_text, g_size, g_above, g_below, g_bads, g_noes, g_fulls, g_at, g_from, g_token, g_value, g_readFault, g_yet, g_fars, g_tells])), (o_w, .inl (y 0, 1960, .inl f_w))] := by
  unfold p_X8_farIn at h
  refine z_enI (by decide) (Nat.le_of_ble_eq_true rfl) ?_
  intro p e s m args below meth c A ls hr K hH hl
  obtain ⟨Q, hQ⟩ : ∃ Q, Q = MQ below (z_Qi D y A r [(o, .inr (7, [.ref o_w, g_kept, g_text, g_size, g_above, g_below, g_bads, g_noes, g_fulls, g_at, g_from, g_token, g_value, g_readFault, g_yet, g_fars, g_tells])), (o_w, .inl (y 0, 1960, .inl f_w))]) args s 0 0 A := ⟨_, rfl⟩
  rw [← hQ]
  have hl : lv_has ls 6 [(0, .ref o), (1, .int p1), (2, .int p2), (3, .int p3), (4, .int p4), (5, .int p5)] := hl
  refine lv_aload_n K.x K.b dX8_farIn_0 rfl (lv_at hl 0 rfl) ?_
  refine lv_iload_n K.x K.b dX8_farIn_1 rfl (lv_at hl 1 rfl) ?_
  refine lv_iload_n K.x K.b dX8_farIn_2 rfl (lv_at hl 2 rfl) ?_
  refine lv_iload_n K.x K.b dX8_farIn_3 rfl (lv_at hl 3 rfl) ?_
  refine lv_iload K.x K.b dX8_farIn_4 (lv_at hl 4 rfl) ?_
  refine lv_iload K.x K.b dX8_farIn_6 (lv_at hl 5 rfl) ?_
  refine lv_aload_n K.x K.b dX8_farIn_8 rfl (lv_at hl 0 rfl) ?_
  refine z_get K hH 0 rfl zin_8 rfl 0 (by decide) tw_4_96 (v := .ref o_w) rfl dX8_farIn_9 ?_
  refine lv_iload_n K.x K.b dX8_farIn_12 rfl (lv_at hl 1 rfl) ?_
  refine lv_bipush (v := (6)) K.x K.b dX8_farIn_13 (by decide) ?_
  refine lv_iadd K.x K.b dX8_farIn_15 ?_
  obtain ⟨x1, ex1, h⟩ := z_lt_e h
  refine z_nm ex1 ?_
  obtain ⟨g2, h⟩ := z_gd_e h
  refine z_iald K hH 1 (k := x1.toNatClampNeg) rfl g2 rfl dX8_farIn_16 ?_
  refine lv_bipush (v := (24)) K.x K.b dX8_farIn_17 (by decide) ?_
  obtain ⟨x3, ex3, h⟩ := z_lt_e h
  refine z_nm2 ex3 ?_
  refine lv_irem K.x K.b dX8_farIn_19 (by decide) ?_
  obtain ⟨x4, ex4, h⟩ := z_lt_e h
  refine z_nm ex4 ?_
  obtain ⟨r5, hr6, h⟩ := z_bd_e h
  refine z_Vi K hH hl.1 (c_X8_farAt l D y o o_w (g_kept) (g_text) (g_size) (g_above) (g_below) (g_bads) (g_noes) (g_fulls) (g_at) (g_from) (g_token) (g_value) (g_readFault) (g_yet) (g_fars) (g_tells) f_w p1 p2 p3 p4 p5 x4 r5 hr6) (z_cwV K 6 tw_5_23 tw_5_25 tw_0_58 tw_1_8 tw_5_26 hd_X8_farAt ⟨by decide, by decide⟩) [0, 1] [] rfl (wr := []) rfl rfl rfl (by decide) rfl rfl rfl (As := [.int p1, .int p2, .int p3, .int p4, .int p5, .int x4]) (rest := []) rfl (Nat.le_of_ble_eq_true rfl) ⟨Nat.zero_le _, Nat.zero_le _⟩ dX8_farIn_20 (ws' := [(o, .inr (7, [.ref o_w, g_kept, g_text, g_size, g_above, g_below, g_bads, g_noes, g_fulls, g_at, g_from, g_token, g_value, g_readFault, g_yet, g_fars, g_tells])), (o_w, .inl (y 0, 1960, .inl f_w))]) rfl (fun H locs hH => ?_)
  have hr9 := Option.some.inj h
  obtain rfl := hr9
  rw [hQ]
  exact z_reti K hr hH [0, 1] (by decide) rfl rfl rfl dX8_farIn_23
def p_X8_farNow (f_w : (Nat → Int32)) (p1 : Int32) (p2 : Int32) (p3 : Int32) : Option (Int32) :=
  z_bd (p_X8_farIn f_w (0 : Int32) (0 : Int32) p1 p2 p3) fun r1 =>
  some r1
theorem hd_X8_farNow : yX8_farNow.cls = RX8 ∧ yX8_farNow.cls ≠ "java/lang/invoke/MethodHandle" ∧ yX8_farNow.cls ≠ "java/lang/invoke/VarHandle" ∧ (parseMethodDescriptor yX8_farNow.desc).map (fun d => d.parameters.length) = some 3 := by decide +kernel
set_option maxHeartbeats 4000000 in
set_option maxRecDepth 100000 in
theorem c_X8_farNow (l : Launch) (D : va_G) (y : Nat → ClassId) (o o_w : Nat) (g_kept g_text g_size g_above g_below g_bads g_noes g_fulls g_at g_from g_token g_value g_readFault g_yet g_fars g_tells : Value) (f_w : (Nat → Int32)) (p1 : Int32) (p2 : Int32) (p3 : Int32) (r : Int32) (h : p_X8_farNow f_w p1 p2 p3 = some r) : z_MI l yX8_farNow cX8_farNow 4 (some .int) 4 98 D y [.ref o, .int p1, .int p2, .int p3] [(o, .inr (7, [.ref o_w, g_kept, g_text, g_size, g_above, g_below, g_bads, g_noes, g_fulls, g_at, g_from, g_token, g_value, g_readFault, g_yet, g_fars, g_tells])), (o_w, .inl (y 0, 1960, .inl f_w))] r [(o, .inr (7, [.ref o_w, g_kept, g_text, g_size, g_above, g_below, g_bads, g_noes, g_fulls, g_at, g_from, g_token, g_value, g_readFault, g_yet, g_fars, g_tells])), (o_w, .inl (y 0, 1960, .inl f_w))] := by
  unfold p_X8_farNow at h
  refine z_enI (by decide) (Nat.le_of_ble_eq_true rfl) ?_
  intro p e s m args below meth c A ls hr K hH hl
  obtain ⟨Q, hQ⟩ : ∃ Q, Q = MQ below (z_Qi D y A r [(o, .inr (7, [.ref o_w, g_kept, g_text, g_size, g_above, g_below, g_bads, g_noes, g_fulls, g_at, g_from, g_token, g_value, g_readFault, g_yet, g_fars, g_tells])), (o_w, .inl (y 0, 1960, .inl f_w))]) args s 0 0 A := ⟨_, rfl⟩
  rw [← hQ]
  have hl : lv_has ls 4 [(0, .ref o), (1, .int p1), (2, .int p2), (3, .int p3)] := hl
  refine lv_aload_n K.x K.b dX8_farNow_0 rfl (lv_at hl 0 rfl) ?_
  refine lv_iconst (v := (0)) K.x K.b dX8_farNow_1 (by decide) ?_
  refine lv_iconst (v := (0)) K.x K.b dX8_farNow_2 (by decide) ?_
  refine lv_iload_n K.x K.b dX8_farNow_3 rfl (lv_at hl 1 rfl) ?_
  refine lv_iload_n K.x K.b dX8_farNow_4 rfl (lv_at hl 2 rfl) ?_
  refine lv_iload_n K.x K.b dX8_farNow_5 rfl (lv_at hl 3 rfl) ?_
  obtain ⟨r1, hr2, h⟩ := z_bd_e h
  refine z_Vi K hH hl.1 (c_X8_farIn l D y o o_w (g_kept) (g_text) (g_size) (g_above) (g_below) (g_bads) (g_noes) (g_fulls) (g_at) (g_from) (g_token) (g_value) (g_readFault) (g_yet) (g_fars) (g_tells) f_w (0 : Int32) (0 : Int32) p1 p2 p3 r1 hr2) (z_cwV K 5 tw_5_19 tw_5_21 tw_0_57 tw_1_8 tw_5_22 hd_X8_farIn ⟨by decide, by decide⟩) [0, 1] [] rfl (wr := []) rfl rfl rfl (by decide) rfl rfl rfl (As := [.int (0 : Int32), .int (0 : Int32), .int p1, .int p2, .int p3]) (rest := []) rfl (Nat.le_of_ble_eq_true rfl) ⟨Nat.zero_le _, Nat.zero_le _⟩ dX8_farNow_6 (ws' := [(o, .inr (7, [.ref o_w, g_kept, g_text, g_size, g_above, g_below, g_bads, g_noes, g_fulls, g_at, g_from, g_token, g_value, g_readFault, g_yet, g_fars, g_tells])), (o_w, .inl (y 0, 1960, .inl f_w))]) rfl (fun H locs hH => ?_)
  have hr9 := Option.some.inj h
  obtain rfl := hr9
  rw [hQ]
  exact z_reti K hr hH [0, 1] (by decide) rfl rfl rfl dX8_farNow_9
def p_X8_goOn (f_w : (Nat → Int32)) (p1 : Int32) (p2 : Int32) : Option ((Nat → Int32)) :=
  z_lt ((p1 + (6 : Int32))) fun x1 =>
  z_gd (z_in x1 1960) <|
  z_lt (((f_w x1.toNatClampNeg) + p2)) fun x3 =>
  z_bd (α := Int32) (if (p1 = (1916 : Int32)) then
  (some x3) else
  (if (x3 ≤ (9999 : Int32)) then
  (some x3) else
  (some (9999 : Int32)))) fun j4 =>
  z_lt ((p1 + (6 : Int32))) fun x5 =>
  z_gd (z_in x5 1960) <|
  z_lt ((upd f_w x5.toNatClampNeg j4)) fun a7 =>
  some a7
theorem hd_X8_goOn : yX8_goOn.cls = RX8 ∧ yX8_goOn.cls ≠ "java/lang/invoke/MethodHandle" ∧ yX8_goOn.cls ≠ "java/lang/invoke/VarHandle" ∧ (parseMethodDescriptor yX8_goOn.desc).map (fun d => d.parameters.length) = some 2 := by decide +kernel
set_option maxHeartbeats 4000000 in
set_option maxRecDepth 100000 in
theorem c_X8_goOn (l : Launch) (D : va_G) (y : Nat → ClassId) (o o_w : Nat) (g_kept g_text g_size g_above g_below g_bads g_noes g_fulls g_at g_from g_token g_value g_readFault g_yet g_fars g_tells : Value) (f_w : (Nat → Int32)) (p1 : Int32) (p2 : Int32) (r : (Nat → Int32)) (h : p_X8_goOn f_w p1 p2 = some r) : z_MV l yX8_goOn cX8_goOn 4 none 0 0 D y [.ref o, .int p1, .int p2] [(o, .inr (7, [.ref o_w, g_kept, g_text, g_size, g_above, g_below, g_bads, g_noes, g_fulls, g_at, g_from, g_token, g_value, g_readFault, g_yet, g_fars, g_tells])), (o_w, .inl (y 0, 1960, .inl f_w))] [(o, .inr (7, [.ref o_w, g_kept, g_text, g_size, g_above, g_below, g_bads, g_noes, g_fulls, g_at, g_from, g_token, g_value, g_readFault, g_yet, g_fars, g_tells])), (o_w, .inl (y 0, 1960, .inl r))] := by
  unfold p_X8_goOn at h
  refine z_enV (by decide) (Nat.le_of_ble_eq_true rfl) ?_
  intro p e s m args below meth c A ls hr K hH hl
  obtain ⟨Q, hQ⟩ : ∃ Q, Q = MQ below (z_Qv D y A [(o, .inr (7, [.ref o_w, g_kept, g_text, g_size, g_above, g_below, g_bads, g_noes, g_fulls, g_at, g_from, g_token, g_value, g_readFault, g_yet, g_fars, g_tells])), (o_w, .inl (y 0, 1960, .inl r))]) args s 0 0 A := ⟨_, rfl⟩
  rw [← hQ]
  have hl : lv_has ls 4 [(0, .ref o), (1, .int p1), (2, .int p2)] := hl
  refine lv_aload_n K.x K.b dX8_goOn_0 rfl (lv_at hl 0 rfl) ?_
  refine z_get K hH 0 rfl zin_8 rfl 0 (by decide) tw_4_96 (v := .ref o_w) rfl dX8_goOn_1 ?_
  refine lv_iload_n K.x K.b dX8_goOn_4 rfl (lv_at hl 1 rfl) ?_
  refine lv_bipush (v := (6)) K.x K.b dX8_goOn_5 (by decide) ?_
  refine lv_iadd K.x K.b dX8_goOn_7 ?_
  obtain ⟨x1, ex1, h⟩ := z_lt_e h
  refine z_nm ex1 ?_
  obtain ⟨g2, h⟩ := z_gd_e h
  refine z_iald K hH 1 (k := x1.toNatClampNeg) rfl g2 rfl dX8_goOn_8 ?_
  refine lv_iload_n K.x K.b dX8_goOn_9 rfl (lv_at hl 2 rfl) ?_
  refine lv_iadd K.x K.b dX8_goOn_10 ?_
  obtain ⟨x3, ex3, h⟩ := z_lt_e h
  refine z_nm ex3 ?_
  refine lv_istore_n (lv' := [(3, .int x3), (0, .ref o), (1, .int p1), (2, .int p2)]) K.x K.b dX8_goOn_11 rfl hl (by decide) rfl (fun ls hl => ?_)
  refine lv_aload_n K.x K.b dX8_goOn_12 rfl (lv_at hl 1 rfl) ?_
  refine z_get K hH 0 rfl zin_8 rfl 0 (by decide) tw_4_96 (v := .ref o_w) rfl dX8_goOn_13 ?_
  refine lv_iload_n K.x K.b dX8_goOn_16 rfl (lv_at hl 2 rfl) ?_
  refine lv_bipush (v := (6)) K.x K.b dX8_goOn_17 (by decide) ?_
  refine lv_iadd K.x K.b dX8_goOn_19 ?_
  refine lv_iload_n K.x K.b dX8_goOn_20 rfl (lv_at hl 2 rfl) ?_
  refine lv_sipush (v := (1916)) K.x K.b dX8_goOn_21 (by decide) ?_
  obtain ⟨j4, hj4, h⟩ := z_bd_e h
  have Kj4 : ∀ (H : Heap) (locs : List Loc) (ls : Array Slot), z_H D A s.heap [(o, .inr (7, [.ref o_w, g_kept, g_text, g_size, g_above, g_below, g_bads, g_noes, g_fulls, g_at, g_from, g_token, g_value, g_readFault, g_yet, g_fars, g_tells])), (o_w, .inl (y 0, 1960, .inl f_w))] H locs → lv_has ls 4 [] → W p l e (zR 0 0) s m args below meth c H locs 0 0 Q (F0 m 41 ls [.int j4, .int (p1 + (6 : Int32)), .ref o_w]) := by
    intro H locs ls hH hl
    obtain ⟨x5, ex5, h⟩ := z_lt_e h
    refine z_nm2 ex5 ?_
    obtain ⟨g6, h⟩ := z_gd_e h
    obtain ⟨a7, ea7, h⟩ := z_lt_e h
    refine z_iast K hH 1 (k := x5.toNatClampNeg) (ws' := [(o, .inr (7, [.ref o_w, g_kept, g_text, g_size, g_above, g_below, g_bads, g_noes, g_fulls, g_at, g_from, g_token, g_value, g_readFault, g_yet, g_fars, g_tells])), (o_w, .inl (y 0, 1960, .inl a7))]) rfl g6 rfl dX8_goOn_41 (by rw [ea7]; rfl) (fun H locs hH => ?_)
    have hr9 := Option.some.inj h
    obtain rfl := hr9
    rw [hQ]
    exact z_retv K hr hH [0, 1] (by decide) rfl dX8_goOn_42
  replace h := hj4
  refine lv_icmp_eq (tgt := 40) K.x K.b dX8_goOn_24 (by decide) (fun c8 => ?_) (fun c8 => ?_)
  · replace h := z_t c8 h
    refine lv_iload_n K.x K.b dX8_goOn_40 rfl (lv_at hl 0 rfl) ?_
    obtain rfl := Option.some.inj h
    exact Kj4 _ _ _ hH (lv_sub hl [] rfl)
  · replace h := z_f c8 h
    refine lv_iload_n K.x K.b dX8_goOn_27 rfl (lv_at hl 0 rfl) ?_
    refine lv_sipush (v := (9999)) K.x K.b dX8_goOn_28 (by decide) ?_
    refine lv_icmp_le (tgt := 40) K.x K.b dX8_goOn_31 (by decide) (fun c9 => ?_) (fun c9 => ?_)
    · replace h := z_t c9 h
      refine lv_iload_n K.x K.b dX8_goOn_40 rfl (lv_at hl 0 rfl) ?_
      obtain rfl := Option.some.inj h
      exact Kj4 _ _ _ hH (lv_sub hl [] rfl)
    · replace h := z_f c9 h
      refine lv_sipush (v := (9999)) K.x K.b dX8_goOn_34 (by decide) ?_
      refine lv_goto (tgt := 41) K.x K.b dX8_goOn_37 (by decide) ?_
      obtain rfl := Option.some.inj h
      exact Kj4 _ _ _ hH (lv_sub hl [] rfl)
noncomputable def p_X8_flyIn (f_w : (Nat → Int32)) (p1 : Int32) (p2 : Int32) (p3 : Int32) (p4 : Int32) : Option (Int32 × (Nat → Int32)) :=
  z_lt ((p1 + p3)) fun x1 =>
  z_gd (z_in x1 1960) <|
  z_lt ((f_w x1.toNatClampNeg)) fun x3 =>
  z_bd (p_X8_farIn f_w p1 p2 p3 x3 p4) fun r4 =>
  z_lt ((p1 + (7 : Int32))) fun x6 =>
  z_gd (z_in x6 1960) <|
  z_bd (α := (Nat → Int32)) (if ((f_w x6.toNatClampNeg) = (12 : Int32)) then
  (z_bd (z_lp (S := Int32 × (Nat → Int32)) (E := (Nat → Int32)) (fun s43 =>
  if ((36 : Int32) ≤ s43.1) then
  (some (.inr s43.2)) else
  (z_lt (((p1 + (8 : Int32)) + s43.1)) fun x52 =>
  z_gd (z_in x52 1960) <|
  z_lt ((s43.2 x52.toNatClampNeg)) fun x54 =>
  z_lt ((((p1 + (8 : Int32)) + s43.1) - (3 : Int32))) fun x55 =>
  z_gd (z_in x55 1960) <|
  z_lt ((upd s43.2 x55.toNatClampNeg x54)) fun a57 =>
  z_lt (s43.1 + (1 : Int32)) fun x58 =>
  some (.inl (x58, a57)))) ((3 : Int32), f_w)) fun e44 =>
  z_lt ((p1 + (7 : Int32))) fun x45 =>
  z_gd (z_in x45 1960) <|
  z_lt (((e44 x45.toNatClampNeg) - (1 : Int32))) fun x47 =>
  z_gd (z_in x45 1960) <|
  z_lt ((upd e44 x45.toNatClampNeg x47)) fun a49 =>
  some a49) else
  (some f_w)) fun j8 =>
  z_lt ((p1 + (7 : Int32))) fun x9 =>
  z_gd (z_in x9 1960) <|
  z_lt (((p1 + (8 : Int32)) + ((3 : Int32) * (j8 x9.toNatClampNeg)))) fun x11 =>
  z_lt ((p1 + p3)) fun x12 =>
  z_gd (z_in x12 1960) <|
  z_lt ((j8 x12.toNatClampNeg)) fun x14 =>
  z_gd (z_in x11 1960) <|
  z_lt ((upd j8 x11.toNatClampNeg x14)) fun a16 =>
  z_lt ((x11 + (1 : Int32))) fun x17 =>
  z_gd (z_in x17 1960) <|
  z_lt ((upd a16 x17.toNatClampNeg p4)) fun a19 =>
  z_lt ((x11 + (2 : Int32))) fun x20 =>
  z_gd (z_in x20 1960) <|
  z_lt ((upd a19 x20.toNatClampNeg r4)) fun a22 =>
  z_lt ((p1 + (7 : Int32))) fun x23 =>
  z_gd (z_in x23 1960) <|
  z_lt (((a22 x23.toNatClampNeg) + (1 : Int32))) fun x25 =>
  z_gd (z_in x23 1960) <|
  z_lt ((upd a22 x23.toNatClampNeg x25)) fun a27 =>
  z_lt ((p1 + p3)) fun x28 =>
  z_gd (z_in x28 1960) <|
  z_lt ((upd a27 x28.toNatClampNeg p4)) fun a30 =>
  z_lt (((p1 + (3 : Int32)) + p3)) fun x31 =>
  z_gd (z_in x31 1960) <|
  z_lt (((p1 + (3 : Int32)) + p3)) fun x33 =>
  z_gd (z_in x33 1960) <|
  z_bd (α := Int32) (if ((99 : Int32) ≤ (a30 x33.toNatClampNeg)) then
  (some (0 : Int32)) else
  (some (1 : Int32))) fun j35 =>
  z_lt (((a30 x31.toNatClampNeg) + j35)) fun x36 =>
  z_gd (z_in x31 1960) <|
  z_lt ((upd a30 x31.toNatClampNeg x36)) fun a38 =>
  z_bd (p_X8_goOn a38 p1 (1 : Int32)) fun r39 =>
  some (r4, r39)
theorem hd_X8_flyIn : yX8_flyIn.cls = RX8 ∧ yX8_flyIn.cls ≠ "java/lang/invoke/MethodHandle" ∧ yX8_flyIn.cls ≠ "java/lang/invoke/VarHandle" ∧ (parseMethodDescriptor yX8_flyIn.desc).map (fun d => d.parameters.length) = some 4 := by decide +kernel
set_option maxHeartbeats 4000000 in
set_option maxRecDepth 100000 in
theorem c_X8_flyIn (l : Launch) (D : va_G) (y : Nat → ClassId) (o o_w : Nat) (g_kept g_text g_size g_above g_below g_bads g_noes g_fulls g_at g_from g_token g_value g_readFault g_yet g_fars g_tells : Value) (f_w : (Nat → Int32)) (p1 : Int32) (p2 : Int32) (p3 : Int32) (p4 : Int32) (r : Int32 × (Nat → Int32)) (h : p_X8_flyIn f_w p1 p2 p3 p4 = some r) : z_MI l yX8_flyIn cX8_flyIn 7 (some .int) 4 98 D y [.ref o, .int p1, .int p2, .int p3, .int p4] [(o, .inr (7, [.ref o_w, g_kept, g_text, g_size, g_above, g_below, g_bads, g_noes, g_fulls, g_at, g_from, g_token, g_value, g_readFault, g_yet, g_fars, g_tells])), (o_w, .inl (y 0, 1960, .inl f_w))] r.1 [(o, .inr (7, [.ref o_w, g_kept, g_text, g_size, g_above, g_below, g_bads, g_noes, g_fulls, g_at, g_from, g_token, g_value, g_readFault, g_yet, g_fars, g_tells])), (o_w, .inl (y 0, 1960, .inl r.2))] := by
  unfold p_X8_flyIn at h
  refine z_enI (by decide) (Nat.le_of_ble_eq_true rfl) ?_
  intro p e s m args below meth c A ls hr K hH hl
  obtain ⟨Q, hQ⟩ : ∃ Q, Q = MQ below (z_Qi D y A r.1 [(o, .inr (7, [.ref o_w, g_kept, g_text, g_size, g_above, g_below, g_bads, g_noes, g_fulls, g_at, g_from, g_token, g_value, g_readFault, g_yet, g_fars, g_tells])), (o_w, .inl (y 0, 1960, .inl r.2))]) args s 0 0 A := ⟨_, rfl⟩
  rw [← hQ]
  have hl : lv_has ls 7 [(0, .ref o), (1, .int p1), (2, .int p2), (3, .int p3), (4, .int p4)] := hl
  refine lv_aload_n K.x K.b dX8_flyIn_0 rfl (lv_at hl 0 rfl) ?_
  refine lv_iload_n K.x K.b dX8_flyIn_1 rfl (lv_at hl 1 rfl) ?_
  refine lv_iload_n K.x K.b dX8_flyIn_2 rfl (lv_at hl 2 rfl) ?_
  refine lv_iload_n K.x K.b dX8_flyIn_3 rfl (lv_at hl 3 rfl) ?_
  refine lv_aload_n K.x K.b dX8_flyIn_4 rfl (lv_at hl 0 rfl) ?_
  refine z_get K hH 0 rfl zin_8 rfl 0 (by decide) tw_4_96 (v := .ref o_w) rfl dX8_flyIn_5 ?_
  refine lv_iload_n K.x K.b dX8_flyIn_8 rfl (lv_at hl 1 rfl) ?_
  refine lv_iload_n K.x K.b dX8_flyIn_9 rfl (lv_at hl 3 rfl) ?_
  refine lv_iadd K.x K.b dX8_flyIn_10 ?_
  obtain ⟨x1, ex1, h⟩ := z_lt_e h
  refine z_nm ex1 ?_
  obtain ⟨g2, h⟩ := z_gd_e h
  refine z_iald K hH 1 (k := x1.toNatClampNeg) rfl g2 rfl dX8_flyIn_11 ?_
  refine lv_iload K.x K.b dX8_flyIn_12 (lv_at hl 4 rfl) ?_
  obtain ⟨x3, ex3, h⟩ := z_lt_e h
  refine z_nm2 ex3 ?_
  obtain ⟨r4, hr5, h⟩ := z_bd_e h
  refine z_Vi K hH hl.1 (c_X8_farIn l D y o o_w (g_kept) (g_text) (g_size) (g_above) (g_below) (g_bads) (g_noes) (g_fulls) (g_at) (g_from) (g_token) (g_value) (g_readFault) (g_yet) (g_fars) (g_tells) f_w p1 p2 p3 x3 p4 r4 hr5) (z_cwV K 5 tw_5_19 tw_5_21 tw_0_57 tw_1_8 tw_5_22 hd_X8_farIn ⟨by decide, by decide⟩) [0, 1] [] rfl (wr := []) rfl rfl rfl (by decide) rfl rfl rfl (As := [.int p1, .int p2, .int p3, .int x3, .int p4]) (rest := []) rfl (Nat.le_of_ble_eq_true rfl) ⟨Nat.zero_le _, Nat.zero_le _⟩ dX8_flyIn_14 (ws' := [(o, .inr (7, [.ref o_w, g_kept, g_text, g_size, g_above, g_below, g_bads, g_noes, g_fulls, g_at, g_from, g_token, g_value, g_readFault, g_yet, g_fars, g_tells])), (o_w, .inl (y 0, 1960, .inl f_w))]) rfl (fun H locs hH => ?_)
  refine lv_istore (lv' := [(5, .int r4), (0, .ref o), (1, .int p1), (2, .int p2), (3, .int p3), (4, .int p4)]) K.x K.b dX8_flyIn_17 hl (by decide) rfl (fun ls hl => ?_)
  refine lv_aload_n K.x K.b dX8_flyIn_19 rfl (lv_at hl 1 rfl) ?_
  refine z_get K hH 0 rfl zin_8 rfl 0 (by decide) tw_4_96 (v := .ref o_w) rfl dX8_flyIn_20 ?_
  refine lv_iload_n K.x K.b dX8_flyIn_23 rfl (lv_at hl 2 rfl) ?_
  refine lv_bipush (v := (7)) K.x K.b dX8_flyIn_24 (by decide) ?_
  refine lv_iadd K.x K.b dX8_flyIn_26 ?_
  obtain ⟨x6, ex6, h⟩ := z_lt_e h
  refine z_nm ex6 ?_
  obtain ⟨g7, h⟩ := z_gd_e h
  refine z_iald K hH 1 (k := x6.toNatClampNeg) rfl g7 rfl dX8_flyIn_27 ?_
  refine lv_bipush (v := (12)) K.x K.b dX8_flyIn_28 (by decide) ?_
  obtain ⟨j8, hj8, h⟩ := z_bd_e h
  have Kj8 : ∀ (H : Heap) (locs : List Loc) (ls : Array Slot), z_H D A s.heap [(o, .inr (7, [.ref o_w, g_kept, g_text, g_size, g_above, g_below, g_bads, g_noes, g_fulls, g_at, g_from, g_token, g_value, g_readFault, g_yet, g_fars, g_tells])), (o_w, .inl (y 0, 1960, .inl j8))] H locs → lv_has ls 7 [(0, .ref o), (1, .int p1), (3, .int p3), (4, .int p4), (5, .int r4)] → W p l e (zR 4 98) s m args below meth c H locs 0 0 Q (F0 m 88 ls []) := by
    intro H locs ls hH hl
    refine lv_iload_n K.x K.b dX8_flyIn_88 rfl (lv_at hl 1 rfl) ?_
    refine lv_bipush (v := (8)) K.x K.b dX8_flyIn_89 (by decide) ?_
    refine lv_iadd K.x K.b dX8_flyIn_91 ?_
    refine lv_iconst (v := (3)) K.x K.b dX8_flyIn_92 (by decide) ?_
    refine lv_aload_n K.x K.b dX8_flyIn_93 rfl (lv_at hl 0 rfl) ?_
    refine z_get K hH 0 rfl zin_8 rfl 0 (by decide) tw_4_96 (v := .ref o_w) rfl dX8_flyIn_94 ?_
    refine lv_iload_n K.x K.b dX8_flyIn_97 rfl (lv_at hl 1 rfl) ?_
    refine lv_bipush (v := (7)) K.x K.b dX8_flyIn_98 (by decide) ?_
    refine lv_iadd K.x K.b dX8_flyIn_100 ?_
    obtain ⟨x9, ex9, h⟩ := z_lt_e h
    refine z_nm ex9 ?_
    obtain ⟨g10, h⟩ := z_gd_e h
    refine z_iald K hH 1 (k := x9.toNatClampNeg) rfl g10 rfl dX8_flyIn_101 ?_
    refine lv_imul K.x K.b dX8_flyIn_102 ?_
    refine lv_iadd K.x K.b dX8_flyIn_103 ?_
    obtain ⟨x11, ex11, h⟩ := z_lt_e h
    refine z_nm ex11 ?_
    refine lv_istore (lv' := [(6, .int x11), (0, .ref o), (1, .int p1), (3, .int p3), (4, .int p4), (5, .int r4)]) K.x K.b dX8_flyIn_104 hl (by decide) rfl (fun ls hl => ?_)
    refine lv_aload_n K.x K.b dX8_flyIn_106 rfl (lv_at hl 1 rfl) ?_
    refine z_get K hH 0 rfl zin_8 rfl 0 (by decide) tw_4_96 (v := .ref o_w) rfl dX8_flyIn_107 ?_
    refine lv_iload K.x K.b dX8_flyIn_110 (lv_at hl 0 rfl) ?_
    refine lv_aload_n K.x K.b dX8_flyIn_112 rfl (lv_at hl 1 rfl) ?_
    refine z_get K hH 0 rfl zin_8 rfl 0 (by decide) tw_4_96 (v := .ref o_w) rfl dX8_flyIn_113 ?_
    refine lv_iload_n K.x K.b dX8_flyIn_116 rfl (lv_at hl 2 rfl) ?_
    refine lv_iload_n K.x K.b dX8_flyIn_117 rfl (lv_at hl 3 rfl) ?_
    refine lv_iadd K.x K.b dX8_flyIn_118 ?_
    obtain ⟨x12, ex12, h⟩ := z_lt_e h
    refine z_nm ex12 ?_
    obtain ⟨g13, h⟩ := z_gd_e h
    refine z_iald K hH 1 (k := x12.toNatClampNeg) rfl g13 rfl dX8_flyIn_119 ?_
    obtain ⟨x14, ex14, h⟩ := z_lt_e h
    refine z_nm ex14 ?_
    obtain ⟨g15, h⟩ := z_gd_e h
    obtain ⟨a16, ea16, h⟩ := z_lt_e h
    refine z_iast K hH 1 (k := x11.toNatClampNeg) (ws' := [(o, .inr (7, [.ref o_w, g_kept, g_text, g_size, g_above, g_below, g_bads, g_noes, g_fulls, g_at, g_from, g_token, g_value, g_readFault, g_yet, g_fars, g_tells])), (o_w, .inl (y 0, 1960, .inl a16))]) rfl g15 rfl dX8_flyIn_120 (by rw [ea16]; rfl) (fun H locs hH => ?_)
    refine lv_aload_n K.x K.b dX8_flyIn_121 rfl (lv_at hl 1 rfl) ?_
    refine z_get K hH 0 rfl zin_8 rfl 0 (by decide) tw_4_96 (v := .ref o_w) rfl dX8_flyIn_122 ?_
    refine lv_iload K.x K.b dX8_flyIn_125 (lv_at hl 0 rfl) ?_
    refine lv_iconst (v := (1)) K.x K.b dX8_flyIn_127 (by decide) ?_
    refine lv_iadd K.x K.b dX8_flyIn_128 ?_
    refine lv_iload K.x K.b dX8_flyIn_129 (lv_at hl 4 rfl) ?_
    obtain ⟨x17, ex17, h⟩ := z_lt_e h
    refine z_nm2 ex17 ?_
    obtain ⟨g18, h⟩ := z_gd_e h
    obtain ⟨a19, ea19, h⟩ := z_lt_e h
    refine z_iast K hH 1 (k := x17.toNatClampNeg) (ws' := [(o, .inr (7, [.ref o_w, g_kept, g_text, g_size, g_above, g_below, g_bads, g_noes, g_fulls, g_at, g_from, g_token, g_value, g_readFault, g_yet, g_fars, g_tells])), (o_w, .inl (y 0, 1960, .inl a19))]) rfl g18 rfl dX8_flyIn_131 (by rw [ea19]; rfl) (fun H locs hH => ?_)
    refine lv_aload_n K.x K.b dX8_flyIn_132 rfl (lv_at hl 1 rfl) ?_
    refine z_get K hH 0 rfl zin_8 rfl 0 (by decide) tw_4_96 (v := .ref o_w) rfl dX8_flyIn_133 ?_
    refine lv_iload K.x K.b dX8_flyIn_136 (lv_at hl 0 rfl) ?_
    refine lv_iconst (v := (2)) K.x K.b dX8_flyIn_138 (by decide) ?_
    refine lv_iadd K.x K.b dX8_flyIn_139 ?_
    refine lv_iload K.x K.b dX8_flyIn_140 (lv_at hl 5 rfl) ?_
    obtain ⟨x20, ex20, h⟩ := z_lt_e h
    refine z_nm2 ex20 ?_
    obtain ⟨g21, h⟩ := z_gd_e h
    obtain ⟨a22, ea22, h⟩ := z_lt_e h
    refine z_iast K hH 1 (k := x20.toNatClampNeg) (ws' := [(o, .inr (7, [.ref o_w, g_kept, g_text, g_size, g_above, g_below, g_bads, g_noes, g_fulls, g_at, g_from, g_token, g_value, g_readFault, g_yet, g_fars, g_tells])), (o_w, .inl (y 0, 1960, .inl a22))]) rfl g21 rfl dX8_flyIn_142 (by rw [ea22]; rfl) (fun H locs hH => ?_)
    refine lv_aload_n K.x K.b dX8_flyIn_143 rfl (lv_at hl 1 rfl) ?_
    refine z_get K hH 0 rfl zin_8 rfl 0 (by decide) tw_4_96 (v := .ref o_w) rfl dX8_flyIn_144 ?_
    refine lv_iload_n K.x K.b dX8_flyIn_147 rfl (lv_at hl 2 rfl) ?_
    refine lv_bipush (v := (7)) K.x K.b dX8_flyIn_148 (by decide) ?_
    refine lv_iadd K.x K.b dX8_flyIn_150 ?_
    obtain ⟨x23, ex23, h⟩ := z_lt_e h
    refine z_nm ex23 ?_
    refine lv_dup2_11 K.x K.b dX8_flyIn_151 rfl rfl ?_
    obtain ⟨g24, h⟩ := z_gd_e h
    refine z_iald K hH 1 (k := x23.toNatClampNeg) rfl g24 rfl dX8_flyIn_152 ?_
    refine lv_iconst (v := (1)) K.x K.b dX8_flyIn_153 (by decide) ?_
    refine lv_iadd K.x K.b dX8_flyIn_154 ?_
    obtain ⟨x25, ex25, h⟩ := z_lt_e h
    refine z_nm ex25 ?_
    obtain ⟨g26, h⟩ := z_gd_e h
    obtain ⟨a27, ea27, h⟩ := z_lt_e h
    refine z_iast K hH 1 (k := x23.toNatClampNeg) (ws' := [(o, .inr (7, [.ref o_w, g_kept, g_text, g_size, g_above, g_below, g_bads, g_noes, g_fulls, g_at, g_from, g_token, g_value, g_readFault, g_yet, g_fars, g_tells])), (o_w, .inl (y 0, 1960, .inl a27))]) rfl g26 rfl dX8_flyIn_155 (by rw [ea27]; rfl) (fun H locs hH => ?_)
    refine lv_aload_n K.x K.b dX8_flyIn_156 rfl (lv_at hl 1 rfl) ?_
    refine z_get K hH 0 rfl zin_8 rfl 0 (by decide) tw_4_96 (v := .ref o_w) rfl dX8_flyIn_157 ?_
    refine lv_iload_n K.x K.b dX8_flyIn_160 rfl (lv_at hl 2 rfl) ?_
    refine lv_iload_n K.x K.b dX8_flyIn_161 rfl (lv_at hl 3 rfl) ?_
    refine lv_iadd K.x K.b dX8_flyIn_162 ?_
    refine lv_iload K.x K.b dX8_flyIn_163 (lv_at hl 4 rfl) ?_
    obtain ⟨x28, ex28, h⟩ := z_lt_e h
    refine z_nm2 ex28 ?_
    obtain ⟨g29, h⟩ := z_gd_e h
    obtain ⟨a30, ea30, h⟩ := z_lt_e h
    refine z_iast K hH 1 (k := x28.toNatClampNeg) (ws' := [(o, .inr (7, [.ref o_w, g_kept, g_text, g_size, g_above, g_below, g_bads, g_noes, g_fulls, g_at, g_from, g_token, g_value, g_readFault, g_yet, g_fars, g_tells])), (o_w, .inl (y 0, 1960, .inl a30))]) rfl g29 rfl dX8_flyIn_165 (by rw [ea30]; rfl) (fun H locs hH => ?_)
    refine lv_aload_n K.x K.b dX8_flyIn_166 rfl (lv_at hl 1 rfl) ?_
    refine z_get K hH 0 rfl zin_8 rfl 0 (by decide) tw_4_96 (v := .ref o_w) rfl dX8_flyIn_167 ?_
    refine lv_iload_n K.x K.b dX8_flyIn_170 rfl (lv_at hl 2 rfl) ?_
    refine lv_iconst (v := (3)) K.x K.b dX8_flyIn_171 (by decide) ?_
    refine lv_iadd K.x K.b dX8_flyIn_172 ?_
    refine lv_iload_n K.x K.b dX8_flyIn_173 rfl (lv_at hl 3 rfl) ?_
    refine lv_iadd K.x K.b dX8_flyIn_174 ?_
    obtain ⟨x31, ex31, h⟩ := z_lt_e h
    refine z_nm ex31 ?_
    refine lv_dup2_11 K.x K.b dX8_flyIn_175 rfl rfl ?_
    obtain ⟨g32, h⟩ := z_gd_e h
    refine z_iald K hH 1 (k := x31.toNatClampNeg) rfl g32 rfl dX8_flyIn_176 ?_
    refine lv_aload_n K.x K.b dX8_flyIn_177 rfl (lv_at hl 1 rfl) ?_
    refine z_get K hH 0 rfl zin_8 rfl 0 (by decide) tw_4_96 (v := .ref o_w) rfl dX8_flyIn_178 ?_
    refine lv_iload_n K.x K.b dX8_flyIn_181 rfl (lv_at hl 2 rfl) ?_
    refine lv_iconst (v := (3)) K.x K.b dX8_flyIn_182 (by decide) ?_
    refine lv_iadd K.x K.b dX8_flyIn_183 ?_
    refine lv_iload_n K.x K.b dX8_flyIn_184 rfl (lv_at hl 3 rfl) ?_
    refine lv_iadd K.x K.b dX8_flyIn_185 ?_
    obtain ⟨x33, ex33, h⟩ := z_lt_e h
    refine z_nm ex33 ?_
    obtain ⟨g34, h⟩ := z_gd_e h
    refine z_iald K hH 1 (k := x33.toNatClampNeg) rfl g34 rfl dX8_flyIn_186 ?_
    refine lv_bipush (v := (99)) K.x K.b dX8_flyIn_187 (by decide) ?_
    obtain ⟨j35, hj35, h⟩ := z_bd_e h
    have Kj35 : ∀ (H : Heap) (locs : List Loc) (ls : Array Slot), z_H D A s.heap [(o, .inr (7, [.ref o_w, g_kept, g_text, g_size, g_above, g_below, g_bads, g_noes, g_fulls, g_at, g_from, g_token, g_value, g_readFault, g_yet, g_fars, g_tells])), (o_w, .inl (y 0, 1960, .inl a30))] H locs → lv_has ls 7 [(0, .ref o), (1, .int p1), (5, .int r4)] → W p l e (zR 4 98) s m args below meth c H locs 0 0 Q (F0 m 197 ls [.int j35, .int (a30 x31.toNatClampNeg), .int x31, .ref o_w]) := by
      intro H locs ls hH hl
      refine lv_iadd K.x K.b dX8_flyIn_197 ?_
      obtain ⟨x36, ex36, h⟩ := z_lt_e h
      refine z_nm ex36 ?_
      obtain ⟨g37, h⟩ := z_gd_e h
      obtain ⟨a38, ea38, h⟩ := z_lt_e h
      refine z_iast K hH 1 (k := x31.toNatClampNeg) (ws' := [(o, .inr (7, [.ref o_w, g_kept, g_text, g_size, g_above, g_below, g_bads, g_noes, g_fulls, g_at, g_from, g_token, g_value, g_readFault, g_yet, g_fars, g_tells])), (o_w, .inl (y 0, 1960, .inl a38))]) rfl g37 rfl dX8_flyIn_198 (by rw [ea38]; rfl) (fun H locs hH => ?_)
      refine lv_aload_n K.x K.b dX8_flyIn_199 rfl (lv_at hl 0 rfl) ?_
      refine lv_iload_n K.x K.b dX8_flyIn_200 rfl (lv_at hl 1 rfl) ?_
      refine lv_iconst (v := (1)) K.x K.b dX8_flyIn_201 (by decide) ?_
      obtain ⟨r39, hr40, h⟩ := z_bd_e h
      refine z_Vv K hH hl.1 (c_X8_goOn l D y o o_w (g_kept) (g_text) (g_size) (g_above) (g_below) (g_bads) (g_noes) (g_fulls) (g_at) (g_from) (g_token) (g_value) (g_readFault) (g_yet) (g_fars) (g_tells) a38 p1 (1 : Int32) r39 hr40) (z_cwV K 2 tw_5_40 tw_5_42 tw_0_60 tw_1_8 tw_5_43 hd_X8_goOn ⟨by decide, by decide⟩) [0, 1] [] rfl (wr := []) rfl rfl rfl (by decide) rfl rfl rfl (As := [.int p1, .int (1 : Int32)]) (rest := []) rfl (Nat.le_of_ble_eq_true rfl) ⟨Nat.zero_le _, Nat.zero_le _⟩ dX8_flyIn_202 (ws' := [(o, .inr (7, [.ref o_w, g_kept, g_text, g_size, g_above, g_below, g_bads, g_noes, g_fulls, g_at, g_from, g_token, g_value, g_readFault, g_yet, g_fars, g_tells])), (o_w, .inl (y 0, 1960, .inl r39))]) rfl (fun H locs hH => ?_)
      refine lv_iload K.x K.b dX8_flyIn_205 (lv_at hl 2 rfl) ?_
      have hr9 := Option.some.inj h
      obtain rfl := hr9
      rw [hQ]
      exact z_reti K hr hH [0, 1] (by decide) rfl rfl rfl dX8_flyIn_207
    replace h := hj35
    refine lv_icmp_ge (tgt := 196) K.x K.b dX8_flyIn_189 (by decide) (fun c41 => ?_) (fun c41 => ?_)
    · replace h := z_t c41 h
      refine lv_iconst (v := (0)) K.x K.b dX8_flyIn_196 (by decide) ?_
      obtain rfl := Option.some.inj h
      exact Kj35 _ _ _ hH (lv_sub hl [1, 2, 5] rfl)
    · replace h := z_f c41 h
      refine lv_iconst (v := (1)) K.x K.b dX8_flyIn_192 (by decide) ?_
      refine lv_goto (tgt := 197) K.x K.b dX8_flyIn_193 (by decide) ?_
      obtain rfl := Option.some.inj h
      exact Kj35 _ _ _ hH (lv_sub hl [1, 2, 5] rfl)
  replace h := hj8
  refine lv_icmp_ne (tgt := 88) K.x K.b dX8_flyIn_30 (by decide) (fun c42 => ?_) (fun c42 => ?_)
  · replace h := z_f c42 h
    obtain rfl := Option.some.inj h
    exact Kj8 _ _ _ hH (lv_sub hl [1, 2, 4, 5, 0] rfl)
  · replace h := z_t c42 h
    refine lv_iconst (v := (3)) K.x K.b dX8_flyIn_33 (by decide) ?_
    refine lv_istore (lv' := [(6, .int (3 : Int32)), (5, .int r4), (0, .ref o), (1, .int p1), (2, .int p2), (3, .int p3), (4, .int p4)]) K.x K.b dX8_flyIn_34 hl (by decide) rfl (fun ls hl => ?_)
    obtain ⟨e44, hlpe44, h⟩ := z_bd_e h
    have KEe44 : ∀ (H : Heap) (locs : List Loc) (ls : Array Slot), z_H D A s.heap [(o, .inr (7, [.ref o_w, g_kept, g_text, g_size, g_above, g_below, g_bads, g_noes, g_fulls, g_at, g_from, g_token, g_value, g_readFault, g_yet, g_fars, g_tells])), (o_w, .inl (y 0, 1960, .inl e44))] H locs → lv_has ls 7 [(0, .ref o), (1, .int p1), (3, .int p3), (4, .int p4), (5, .int r4)] → W p l e (zR 4 98) s m args below meth c H locs 0 0 Q (F0 m 75 ls []) := by
      intro H locs ls hH hl
      refine lv_aload_n K.x K.b dX8_flyIn_75 rfl (lv_at hl 0 rfl) ?_
      refine z_get K hH 0 rfl zin_8 rfl 0 (by decide) tw_4_96 (v := .ref o_w) rfl dX8_flyIn_76 ?_
      refine lv_iload_n K.x K.b dX8_flyIn_79 rfl (lv_at hl 1 rfl) ?_
      refine lv_bipush (v := (7)) K.x K.b dX8_flyIn_80 (by decide) ?_
      refine lv_iadd K.x K.b dX8_flyIn_82 ?_
      obtain ⟨x45, ex45, h⟩ := z_lt_e h
      refine z_nm ex45 ?_
      refine lv_dup2_11 K.x K.b dX8_flyIn_83 rfl rfl ?_
      obtain ⟨g46, h⟩ := z_gd_e h
      refine z_iald K hH 1 (k := x45.toNatClampNeg) rfl g46 rfl dX8_flyIn_84 ?_
      refine lv_iconst (v := (1)) K.x K.b dX8_flyIn_85 (by decide) ?_
      refine lv_isub K.x K.b dX8_flyIn_86 ?_
      obtain ⟨x47, ex47, h⟩ := z_lt_e h
      refine z_nm ex47 ?_
      obtain ⟨g48, h⟩ := z_gd_e h
      obtain ⟨a49, ea49, h⟩ := z_lt_e h
      refine z_iast K hH 1 (k := x45.toNatClampNeg) (ws' := [(o, .inr (7, [.ref o_w, g_kept, g_text, g_size, g_above, g_below, g_bads, g_noes, g_fulls, g_at, g_from, g_token, g_value, g_readFault, g_yet, g_fars, g_tells])), (o_w, .inl (y 0, 1960, .inl a49))]) rfl g48 rfl dX8_flyIn_87 (by rw [ea49]; rfl) (fun H locs hH => ?_)
      obtain rfl := Option.some.inj h
      exact Kj8 _ _ _ hH (lv_sub hl [0, 1, 2, 3, 4] rfl)
    refine z_lp_ind (P := fun (s43 : Int32 × (Nat → Int32)) => ∀ (H : Heap) (locs : List Loc) (ls : Array Slot), z_H D A s.heap [(o, .inr (7, [.ref o_w, g_kept, g_text, g_size, g_above, g_below, g_bads, g_noes, g_fulls, g_at, g_from, g_token, g_value, g_readFault, g_yet, g_fars, g_tells])), (o_w, .inl (y 0, 1960, .inl s43.2))] H locs → lv_has ls 7 [(0, .ref o), (1, .int p1), (3, .int p3), (4, .int p4), (5, .int r4), (6, .int s43.1)] → W p l e (zR 4 98) s m args below meth c H locs 0 0 Q (F0 m 36 ls [])) ?_ _ hlpe44 _ _ _ hH (lv_sub hl [2, 3, 5, 6, 1, 0] rfl)
    clear h hlpe44
    intro s43 x50 h ihe44 hee44 H locs ls hH hl
    refine lv_iload K.x K.b dX8_flyIn_36 (lv_at hl 5 rfl) ?_
    refine lv_bipush (v := (36)) K.x K.b dX8_flyIn_38 (by decide) ?_
    refine lv_icmp_ge (tgt := 75) K.x K.b dX8_flyIn_40 (by decide) (fun c51 => ?_) (fun c51 => ?_)
    · replace h := z_t c51 h
      obtain rfl := hee44 _ (Option.some.inj h).symm
      exact KEe44 _ _ _ hH (lv_sub hl [0, 1, 2, 3, 4] rfl)
    · replace h := z_f c51 h
      refine lv_aload_n K.x K.b dX8_flyIn_43 rfl (lv_at hl 0 rfl) ?_
      refine z_get K hH 0 rfl zin_8 rfl 0 (by decide) tw_4_96 (v := .ref o_w) rfl dX8_flyIn_44 ?_
      refine lv_iload_n K.x K.b dX8_flyIn_47 rfl (lv_at hl 1 rfl) ?_
      refine lv_bipush (v := (8)) K.x K.b dX8_flyIn_48 (by decide) ?_
      refine lv_iadd K.x K.b dX8_flyIn_50 ?_
      refine lv_iload K.x K.b dX8_flyIn_51 (lv_at hl 5 rfl) ?_
      refine lv_iadd K.x K.b dX8_flyIn_53 ?_
      refine lv_iconst (v := (3)) K.x K.b dX8_flyIn_54 (by decide) ?_
      refine lv_isub K.x K.b dX8_flyIn_55 ?_
      refine lv_aload_n K.x K.b dX8_flyIn_56 rfl (lv_at hl 0 rfl) ?_
      refine z_get K hH 0 rfl zin_8 rfl 0 (by decide) tw_4_96 (v := .ref o_w) rfl dX8_flyIn_57 ?_
      refine lv_iload_n K.x K.b dX8_flyIn_60 rfl (lv_at hl 1 rfl) ?_
      refine lv_bipush (v := (8)) K.x K.b dX8_flyIn_61 (by decide) ?_
      refine lv_iadd K.x K.b dX8_flyIn_63 ?_
      refine lv_iload K.x K.b dX8_flyIn_64 (lv_at hl 5 rfl) ?_
      refine lv_iadd K.x K.b dX8_flyIn_66 ?_
      obtain ⟨x52, ex52, h⟩ := z_lt_e h
      refine z_nm ex52 ?_
      obtain ⟨g53, h⟩ := z_gd_e h
      refine z_iald K hH 1 (k := x52.toNatClampNeg) rfl g53 rfl dX8_flyIn_67 ?_
      obtain ⟨x54, ex54, h⟩ := z_lt_e h
      refine z_nm ex54 ?_
      obtain ⟨x55, ex55, h⟩ := z_lt_e h
      refine z_nm2 ex55 ?_
      obtain ⟨g56, h⟩ := z_gd_e h
      obtain ⟨a57, ea57, h⟩ := z_lt_e h
      refine z_iast K hH 1 (k := x55.toNatClampNeg) (ws' := [(o, .inr (7, [.ref o_w, g_kept, g_text, g_size, g_above, g_below, g_bads, g_noes, g_fulls, g_at, g_from, g_token, g_value, g_readFault, g_yet, g_fars, g_tells])), (o_w, .inl (y 0, 1960, .inl a57))]) rfl g56 rfl dX8_flyIn_68 (by rw [ea57]; rfl) (fun H locs hH => ?_)
      obtain ⟨x58, ex58, h⟩ := z_lt_e h
      refine lv_iinc (v := x58) (lv' := [(6, .int x58), (0, .ref o), (1, .int p1), (3, .int p3), (4, .int p4), (5, .int r4)]) K.x K.b dX8_flyIn_69 hl (k := 5) rfl (by rw [ex58]; rfl) (by decide) rfl (fun ls hl => ?_)
      refine lv_goto (tgt := 36) K.x K.b dX8_flyIn_72 (by decide) ?_
      exact ihe44 _ (Option.some.inj h).symm _ _ _ hH (lv_sub hl [1, 2, 3, 4, 5, 0] rfl)
def p_X8_restIn (f_w : (Nat → Int32)) (p1 : Int32) (p2 : Int32) : Option (Int32 × (Nat → Int32)) :=
  z_lt (((p1 + (3 : Int32)) + p2)) fun x1 =>
  z_gd (z_in x1 1960) <|
  z_lt ((f_w x1.toNatClampNeg)) fun x3 =>
  z_lt (((p1 + (3 : Int32)) + p2)) fun x4 =>
  z_gd (z_in x4 1960) <|
  z_lt ((upd f_w x4.toNatClampNeg (0 : Int32))) fun a6 =>
  z_bd (p_X8_goOn a6 p1 (8 : Int32)) fun r7 =>
  some (x3, r7)
theorem hd_X8_restIn : yX8_restIn.cls = RX8 ∧ yX8_restIn.cls ≠ "java/lang/invoke/MethodHandle" ∧ yX8_restIn.cls ≠ "java/lang/invoke/VarHandle" ∧ (parseMethodDescriptor yX8_restIn.desc).map (fun d => d.parameters.length) = some 2 := by decide +kernel
set_option maxHeartbeats 4000000 in
set_option maxRecDepth 100000 in
theorem c_X8_restIn (l : Launch) (D : va_G) (y : Nat → ClassId) (o o_w : Nat) (g_kept g_text g_size g_above g_below g_bads g_noes g_fulls g_at g_from g_token g_value g_readFault g_yet g_fars g_tells : Value) (f_w : (Nat → Int32)) (p1 : Int32) (p2 : Int32) (r : Int32 × (Nat → Int32)) (h : p_X8_restIn f_w p1 p2 = some r) : z_MI l yX8_restIn cX8_restIn 4 (some .int) 1 23 D y [.ref o, .int p1, .int p2] [(o, .inr (7, [.ref o_w, g_kept, g_text, g_size, g_above, g_below, g_bads, g_noes, g_fulls, g_at, g_from, g_token, g_value, g_readFault, g_yet, g_fars, g_tells])), (o_w, .inl (y 0, 1960, .inl f_w))] r.1 [(o, .inr (7, [.ref o_w, g_kept, g_text, g_size, g_above, g_below, g_bads, g_noes, g_fulls, g_at, g_from, g_token, g_value, g_readFault, g_yet, g_fars, g_tells])), (o_w, .inl (y 0, 1960, .inl r.2))] := by
  unfold p_X8_restIn at h
  refine z_enI (by decide) (Nat.le_of_ble_eq_true rfl) ?_
  intro p e s m args below meth c A ls hr K hH hl
  obtain ⟨Q, hQ⟩ : ∃ Q, Q = MQ below (z_Qi D y A r.1 [(o, .inr (7, [.ref o_w, g_kept, g_text, g_size, g_above, g_below, g_bads, g_noes, g_fulls, g_at, g_from, g_token, g_value, g_readFault, g_yet, g_fars, g_tells])), (o_w, .inl (y 0, 1960, .inl r.2))]) args s 0 0 A := ⟨_, rfl⟩
  rw [← hQ]
  have hl : lv_has ls 4 [(0, .ref o), (1, .int p1), (2, .int p2)] := hl
  refine lv_aload_n K.x K.b dX8_restIn_0 rfl (lv_at hl 0 rfl) ?_
  refine z_get K hH 0 rfl zin_8 rfl 0 (by decide) tw_4_96 (v := .ref o_w) rfl dX8_restIn_1 ?_
  refine lv_iload_n K.x K.b dX8_restIn_4 rfl (lv_at hl 1 rfl) ?_
  refine lv_iconst (v := (3)) K.x K.b dX8_restIn_5 (by decide) ?_
  refine lv_iadd K.x K.b dX8_restIn_6 ?_
  refine lv_iload_n K.x K.b dX8_restIn_7 rfl (lv_at hl 2 rfl) ?_
  refine lv_iadd K.x K.b dX8_restIn_8 ?_
  obtain ⟨x1, ex1, h⟩ := z_lt_e h
  refine z_nm ex1 ?_
  obtain ⟨g2, h⟩ := z_gd_e h
  refine z_iald K hH 1 (k := x1.toNatClampNeg) rfl g2 rfl dX8_restIn_9 ?_
  obtain ⟨x3, ex3, h⟩ := z_lt_e h
  refine z_nm ex3 ?_
  refine lv_istore_n (lv' := [(3, .int x3), (0, .ref o), (1, .int p1), (2, .int p2)]) K.x K.b dX8_restIn_10 rfl hl (by decide) rfl (fun ls hl => ?_)
  refine lv_aload_n K.x K.b dX8_restIn_11 rfl (lv_at hl 1 rfl) ?_
  refine z_get K hH 0 rfl zin_8 rfl 0 (by decide) tw_4_96 (v := .ref o_w) rfl dX8_restIn_12 ?_
  refine lv_iload_n K.x K.b dX8_restIn_15 rfl (lv_at hl 2 rfl) ?_
  refine lv_iconst (v := (3)) K.x K.b dX8_restIn_16 (by decide) ?_
  refine lv_iadd K.x K.b dX8_restIn_17 ?_
  refine lv_iload_n K.x K.b dX8_restIn_18 rfl (lv_at hl 3 rfl) ?_
  refine lv_iadd K.x K.b dX8_restIn_19 ?_
  refine lv_iconst (v := (0)) K.x K.b dX8_restIn_20 (by decide) ?_
  obtain ⟨x4, ex4, h⟩ := z_lt_e h
  refine z_nm2 ex4 ?_
  obtain ⟨g5, h⟩ := z_gd_e h
  obtain ⟨a6, ea6, h⟩ := z_lt_e h
  refine z_iast K hH 1 (k := x4.toNatClampNeg) (ws' := [(o, .inr (7, [.ref o_w, g_kept, g_text, g_size, g_above, g_below, g_bads, g_noes, g_fulls, g_at, g_from, g_token, g_value, g_readFault, g_yet, g_fars, g_tells])), (o_w, .inl (y 0, 1960, .inl a6))]) rfl g5 rfl dX8_restIn_21 (by rw [ea6]; rfl) (fun H locs hH => ?_)
  refine lv_aload_n K.x K.b dX8_restIn_22 rfl (lv_at hl 1 rfl) ?_
  refine lv_iload_n K.x K.b dX8_restIn_23 rfl (lv_at hl 2 rfl) ?_
  refine lv_bipush (v := (8)) K.x K.b dX8_restIn_24 (by decide) ?_
  obtain ⟨r7, hr8, h⟩ := z_bd_e h
  refine z_Vv K hH hl.1 (c_X8_goOn l D y o o_w (g_kept) (g_text) (g_size) (g_above) (g_below) (g_bads) (g_noes) (g_fulls) (g_at) (g_from) (g_token) (g_value) (g_readFault) (g_yet) (g_fars) (g_tells) a6 p1 (8 : Int32) r7 hr8) (z_cwV K 2 tw_5_40 tw_5_42 tw_0_60 tw_1_8 tw_5_43 hd_X8_goOn ⟨by decide, by decide⟩) [0, 1] [] rfl (wr := []) rfl rfl rfl (by decide) rfl rfl rfl (As := [.int p1, .int (8 : Int32)]) (rest := []) rfl (Nat.le_of_ble_eq_true rfl) ⟨Nat.zero_le _, Nat.zero_le _⟩ dX8_restIn_26 (ws' := [(o, .inr (7, [.ref o_w, g_kept, g_text, g_size, g_above, g_below, g_bads, g_noes, g_fulls, g_at, g_from, g_token, g_value, g_readFault, g_yet, g_fars, g_tells])), (o_w, .inl (y 0, 1960, .inl r7))]) rfl (fun H locs hH => ?_)
  refine lv_iload_n K.x K.b dX8_restIn_29 rfl (lv_at hl 0 rfl) ?_
  have hr9 := Option.some.inj h
  obtain rfl := hr9
  rw [hQ]
  exact z_reti K hr hH [0, 1] (by decide) rfl rfl rfl dX8_restIn_30
noncomputable def p_X8_remember (f_w : (Nat → Int32)) : Option ((Nat → Int32)) :=
  z_bd (α := (Nat → Int32)) (if ((f_w 396) = (8 : Int32)) then
  (z_bd (z_lp (S := Int32 × (Nat → Int32)) (E := (Nat → Int32)) (fun s8 =>
  if ((308 : Int32) ≤ s8.1) then
  (some (.inr s8.2)) else
  (z_lt (((88 : Int32) + s8.1)) fun x14 =>
  z_gd (z_in x14 1960) <|
  z_lt ((s8.2 x14.toNatClampNeg)) fun x16 =>
  z_lt (((44 : Int32) + s8.1)) fun x17 =>
  z_gd (z_in x17 1960) <|
  z_lt ((upd s8.2 x17.toNatClampNeg x16)) fun a19 =>
  z_lt (s8.1 + (1 : Int32)) fun x20 =>
  some (.inl (x20, a19)))) ((0 : Int32), f_w)) fun e9 =>
  z_lt (((e9 396) - (1 : Int32))) fun x10 =>
  z_lt ((upd e9 396 x10)) fun a11 =>
  some a11) else
  (some f_w)) fun j1 =>
  z_lt (((44 : Int32) + ((44 : Int32) * (j1 396)))) fun x2 =>
  z_bd (p_X8_copyRow j1 (0 : Int32) x2 (44 : Int32)) fun r3 =>
  z_lt (((r3 396) + (1 : Int32))) fun x5 =>
  z_lt ((upd r3 396 x5)) fun a6 =>
  some a6
theorem hd_X8_remember : yX8_remember.cls = RX8 ∧ yX8_remember.cls ≠ "java/lang/invoke/MethodHandle" ∧ yX8_remember.cls ≠ "java/lang/invoke/VarHandle" ∧ (parseMethodDescriptor yX8_remember.desc).map (fun d => d.parameters.length) = some 0 := by decide +kernel
set_option maxHeartbeats 4000000 in
set_option maxRecDepth 100000 in
theorem c_X8_remember (l : Launch) (D : va_G) (y : Nat → ClassId) (o o_w : Nat) (g_kept g_text g_size g_above g_below g_bads g_noes g_fulls g_at g_from g_token g_value g_readFault g_yet g_fars g_tells : Value) (f_w : (Nat → Int32)) (r : (Nat → Int32)) (h : p_X8_remember f_w = some r) : z_MV l yX8_remember cX8_remember 2 none 1 24 D y [.ref o] [(o, .inr (7, [.ref o_w, g_kept, g_text, g_size, g_above, g_below, g_bads, g_noes, g_fulls, g_at, g_from, g_token, g_value, g_readFault, g_yet, g_fars, g_tells])), (o_w, .inl (y 0, 1960, .inl f_w))] [(o, .inr (7, [.ref o_w, g_kept, g_text, g_size, g_above, g_below, g_bads, g_noes, g_fulls, g_at, g_from, g_token, g_value, g_readFault, g_yet, g_fars, g_tells])), (o_w, .inl (y 0, 1960, .inl r))] := by
  unfold p_X8_remember at h
  refine z_enV (by decide) (Nat.le_of_ble_eq_true rfl) ?_
  intro p e s m args below meth c A ls hr K hH hl
  obtain ⟨Q, hQ⟩ : ∃ Q, Q = MQ below (z_Qv D y A [(o, .inr (7, [.ref o_w, g_kept, g_text, g_size, g_above, g_below, g_bads, g_noes, g_fulls, g_at, g_from, g_token, g_value, g_readFault, g_yet, g_fars, g_tells])), (o_w, .inl (y 0, 1960, .inl r))]) args s 0 0 A := ⟨_, rfl⟩
  rw [← hQ]
  have hl : lv_has ls 2 [(0, .ref o)] := hl
  refine lv_aload_n K.x K.b dX8_remember_0 rfl (lv_at hl 0 rfl) ?_
  refine z_get K hH 0 rfl zin_8 rfl 0 (by decide) tw_4_96 (v := .ref o_w) rfl dX8_remember_1 ?_
  refine lv_sipush (v := (396)) K.x K.b dX8_remember_4 (by decide) ?_
  refine z_iald K hH 1 (k := 396) rfl (by decide) rfl dX8_remember_7 ?_
  refine lv_bipush (v := (8)) K.x K.b dX8_remember_8 (by decide) ?_
  obtain ⟨j1, hj1, h⟩ := z_bd_e h
  have Kj1 : ∀ (H : Heap) (locs : List Loc) (ls : Array Slot), z_H D A s.heap [(o, .inr (7, [.ref o_w, g_kept, g_text, g_size, g_above, g_below, g_bads, g_noes, g_fulls, g_at, g_from, g_token, g_value, g_readFault, g_yet, g_fars, g_tells])), (o_w, .inl (y 0, 1960, .inl j1))] H locs → lv_has ls 2 [(0, .ref o)] → W p l e (zR 1 24) s m args below meth c H locs 0 0 Q (F0 m 58 ls []) := by
    intro H locs ls hH hl
    refine lv_aload_n K.x K.b dX8_remember_58 rfl (lv_at hl 0 rfl) ?_
    refine lv_iconst (v := (0)) K.x K.b dX8_remember_59 (by decide) ?_
    refine lv_bipush (v := (44)) K.x K.b dX8_remember_60 (by decide) ?_
    refine lv_bipush (v := (44)) K.x K.b dX8_remember_62 (by decide) ?_
    refine lv_aload_n K.x K.b dX8_remember_64 rfl (lv_at hl 0 rfl) ?_
    refine z_get K hH 0 rfl zin_8 rfl 0 (by decide) tw_4_96 (v := .ref o_w) rfl dX8_remember_65 ?_
    refine lv_sipush (v := (396)) K.x K.b dX8_remember_68 (by decide) ?_
    refine z_iald K hH 1 (k := 396) rfl (by decide) rfl dX8_remember_71 ?_
    refine lv_imul K.x K.b dX8_remember_72 ?_
    refine lv_iadd K.x K.b dX8_remember_73 ?_
    refine lv_bipush (v := (44)) K.x K.b dX8_remember_74 (by decide) ?_
    obtain ⟨x2, ex2, h⟩ := z_lt_e h
    refine z_nm2 ex2 ?_
    obtain ⟨r3, hr4, h⟩ := z_bd_e h
    refine z_Vv K hH hl.1 (c_X8_copyRow l D y o o_w (g_kept) (g_text) (g_size) (g_above) (g_below) (g_bads) (g_noes) (g_fulls) (g_at) (g_from) (g_token) (g_value) (g_readFault) (g_yet) (g_fars) (g_tells) j1 (0 : Int32) x2 (44 : Int32) r3 hr4) (z_cwV K 3 tw_5_56 tw_5_58 tw_0_64 tw_1_8 tw_5_59 hd_X8_copyRow ⟨by decide, by decide⟩) [0, 1] [] rfl (wr := []) rfl rfl rfl (by decide) rfl rfl rfl (As := [.int (0 : Int32), .int x2, .int (44 : Int32)]) (rest := []) rfl (Nat.le_of_ble_eq_true rfl) ⟨Nat.zero_le _, Nat.zero_le _⟩ dX8_remember_76 (ws' := [(o, .inr (7, [.ref o_w, g_kept, g_text, g_size, g_above, g_below, g_bads, g_noes, g_fulls, g_at, g_from, g_token, g_value, g_readFault, g_yet, g_fars, g_tells])), (o_w, .inl (y 0, 1960, .inl r3))]) rfl (fun H locs hH => ?_)
    refine lv_aload_n K.x K.b dX8_remember_79 rfl (lv_at hl 0 rfl) ?_
    refine z_get K hH 0 rfl zin_8 rfl 0 (by decide) tw_4_96 (v := .ref o_w) rfl dX8_remember_80 ?_
    refine lv_sipush (v := (396)) K.x K.b dX8_remember_83 (by decide) ?_
    refine lv_dup2_11 K.x K.b dX8_remember_86 rfl rfl ?_
    refine z_iald K hH 1 (k := 396) rfl (by decide) rfl dX8_remember_87 ?_
    refine lv_iconst (v := (1)) K.x K.b dX8_remember_88 (by decide) ?_
    refine lv_iadd K.x K.b dX8_remember_89 ?_
    obtain ⟨x5, ex5, h⟩ := z_lt_e h
    refine z_nm ex5 ?_
    obtain ⟨a6, ea6, h⟩ := z_lt_e h
    refine z_iast K hH 1 (k := 396) (ws' := [(o, .inr (7, [.ref o_w, g_kept, g_text, g_size, g_above, g_below, g_bads, g_noes, g_fulls, g_at, g_from, g_token, g_value, g_readFault, g_yet, g_fars, g_tells])), (o_w, .inl (y 0, 1960, .inl a6))]) rfl (by decide) rfl dX8_remember_90 (by rw [ea6]; rfl) (fun H locs hH => ?_)
    have hr9 := Option.some.inj h
    obtain rfl := hr9
    rw [hQ]
    exact z_retv K hr hH [0, 1] (by decide) rfl dX8_remember_91
  replace h := hj1
  refine lv_icmp_ne (tgt := 58) K.x K.b dX8_remember_10 (by decide) (fun c7 => ?_) (fun c7 => ?_)
  · replace h := z_f c7 h
    obtain rfl := Option.some.inj h
    exact Kj1 _ _ _ hH (lv_sub hl [0] rfl)
  · replace h := z_t c7 h
    refine lv_iconst (v := (0)) K.x K.b dX8_remember_13 (by decide) ?_
    refine lv_istore_n (lv' := [(1, .int (0 : Int32)), (0, .ref o)]) K.x K.b dX8_remember_14 rfl hl (by decide) rfl (fun ls hl => ?_)
    obtain ⟨e9, hlpe9, h⟩ := z_bd_e h
    have KEe9 : ∀ (H : Heap) (locs : List Loc) (ls : Array Slot), z_H D A s.heap [(o, .inr (7, [.ref o_w, g_kept, g_text, g_size, g_above, g_below, g_bads, g_noes, g_fulls, g_at, g_from, g_token, g_value, g_readFault, g_yet, g_fars, g_tells])), (o_w, .inl (y 0, 1960, .inl e9))] H locs → lv_has ls 2 [(0, .ref o)] → W p l e (zR 1 24) s m args below meth c H locs 0 0 Q (F0 m 46 ls []) := by
      intro H locs ls hH hl
      refine lv_aload_n K.x K.b dX8_remember_46 rfl (lv_at hl 0 rfl) ?_
      refine z_get K hH 0 rfl zin_8 rfl 0 (by decide) tw_4_96 (v := .ref o_w) rfl dX8_remember_47 ?_
      refine lv_sipush (v := (396)) K.x K.b dX8_remember_50 (by decide) ?_
      refine lv_dup2_11 K.x K.b dX8_remember_53 rfl rfl ?_
      refine z_iald K hH 1 (k := 396) rfl (by decide) rfl dX8_remember_54 ?_
      refine lv_iconst (v := (1)) K.x K.b dX8_remember_55 (by decide) ?_
      refine lv_isub K.x K.b dX8_remember_56 ?_
      obtain ⟨x10, ex10, h⟩ := z_lt_e h
      refine z_nm ex10 ?_
      obtain ⟨a11, ea11, h⟩ := z_lt_e h
      refine z_iast K hH 1 (k := 396) (ws' := [(o, .inr (7, [.ref o_w, g_kept, g_text, g_size, g_above, g_below, g_bads, g_noes, g_fulls, g_at, g_from, g_token, g_value, g_readFault, g_yet, g_fars, g_tells])), (o_w, .inl (y 0, 1960, .inl a11))]) rfl (by decide) rfl dX8_remember_57 (by rw [ea11]; rfl) (fun H locs hH => ?_)
      obtain rfl := Option.some.inj h
      exact Kj1 _ _ _ hH (lv_sub hl [0] rfl)
    refine z_lp_ind (P := fun (s8 : Int32 × (Nat → Int32)) => ∀ (H : Heap) (locs : List Loc) (ls : Array Slot), z_H D A s.heap [(o, .inr (7, [.ref o_w, g_kept, g_text, g_size, g_above, g_below, g_bads, g_noes, g_fulls, g_at, g_from, g_token, g_value, g_readFault, g_yet, g_fars, g_tells])), (o_w, .inl (y 0, 1960, .inl s8.2))] H locs → lv_has ls 2 [(0, .ref o), (1, .int s8.1)] → W p l e (zR 1 24) s m args below meth c H locs 0 0 Q (F0 m 15 ls [])) ?_ _ hlpe9 _ _ _ hH (lv_sub hl [1, 0] rfl)
    clear h hlpe9
    intro s8 x12 h ihe9 hee9 H locs ls hH hl
    refine lv_iload_n K.x K.b dX8_remember_15 rfl (lv_at hl 1 rfl) ?_
    refine lv_sipush (v := (308)) K.x K.b dX8_remember_16 (by decide) ?_
    refine lv_icmp_ge (tgt := 46) K.x K.b dX8_remember_19 (by decide) (fun c13 => ?_) (fun c13 => ?_)
    · replace h := z_t c13 h
      obtain rfl := hee9 _ (Option.some.inj h).symm
      exact KEe9 _ _ _ hH (lv_sub hl [0] rfl)
    · replace h := z_f c13 h
      refine lv_aload_n K.x K.b dX8_remember_22 rfl (lv_at hl 0 rfl) ?_
      refine z_get K hH 0 rfl zin_8 rfl 0 (by decide) tw_4_96 (v := .ref o_w) rfl dX8_remember_23 ?_
      refine lv_bipush (v := (44)) K.x K.b dX8_remember_26 (by decide) ?_
      refine lv_iload_n K.x K.b dX8_remember_28 rfl (lv_at hl 1 rfl) ?_
      refine lv_iadd K.x K.b dX8_remember_29 ?_
      refine lv_aload_n K.x K.b dX8_remember_30 rfl (lv_at hl 0 rfl) ?_
      refine z_get K hH 0 rfl zin_8 rfl 0 (by decide) tw_4_96 (v := .ref o_w) rfl dX8_remember_31 ?_
      refine lv_bipush (v := (88)) K.x K.b dX8_remember_34 (by decide) ?_
      refine lv_iload_n K.x K.b dX8_remember_36 rfl (lv_at hl 1 rfl) ?_
      refine lv_iadd K.x K.b dX8_remember_37 ?_
      obtain ⟨x14, ex14, h⟩ := z_lt_e h
      refine z_nm ex14 ?_
      obtain ⟨g15, h⟩ := z_gd_e h
      refine z_iald K hH 1 (k := x14.toNatClampNeg) rfl g15 rfl dX8_remember_38 ?_
      obtain ⟨x16, ex16, h⟩ := z_lt_e h
      refine z_nm ex16 ?_
      obtain ⟨x17, ex17, h⟩ := z_lt_e h
      refine z_nm2 ex17 ?_
      obtain ⟨g18, h⟩ := z_gd_e h
      obtain ⟨a19, ea19, h⟩ := z_lt_e h
      refine z_iast K hH 1 (k := x17.toNatClampNeg) (ws' := [(o, .inr (7, [.ref o_w, g_kept, g_text, g_size, g_above, g_below, g_bads, g_noes, g_fulls, g_at, g_from, g_token, g_value, g_readFault, g_yet, g_fars, g_tells])), (o_w, .inl (y 0, 1960, .inl a19))]) rfl g18 rfl dX8_remember_39 (by rw [ea19]; rfl) (fun H locs hH => ?_)
      obtain ⟨x20, ex20, h⟩ := z_lt_e h
      refine lv_iinc (v := x20) (lv' := [(1, .int x20), (0, .ref o)]) K.x K.b dX8_remember_40 hl (k := 1) rfl (by rw [ex20]; rfl) (by decide) rfl (fun ls hl => ?_)
      refine lv_goto (tgt := 15) K.x K.b dX8_remember_43 (by decide) ?_
      exact ihe9 _ (Option.some.inj h).symm _ _ _ hH (lv_sub hl [1, 0] rfl)
noncomputable def p_X8_country (f_w : (Nat → Int32)) : Option (Int32 × (Nat → Int32)) :=
  z_lt ((f_w 418)) fun x1 =>
  z_bd (p_X8_clearRow f_w (0 : Int32)) fun r2 =>
  some (x1, r2)
theorem hd_X8_country : yX8_country.cls = RX8 ∧ yX8_country.cls ≠ "java/lang/invoke/MethodHandle" ∧ yX8_country.cls ≠ "java/lang/invoke/VarHandle" ∧ (parseMethodDescriptor yX8_country.desc).map (fun d => d.parameters.length) = some 0 := by decide +kernel
set_option maxHeartbeats 4000000 in
set_option maxRecDepth 100000 in
theorem c_X8_country (l : Launch) (D : va_G) (y : Nat → ClassId) (o o_w : Nat) (g_kept g_text g_size g_above g_below g_bads g_noes g_fulls g_at g_from g_token g_value g_readFault g_yet g_fars g_tells : Value) (f_w : (Nat → Int32)) (r : Int32 × (Nat → Int32)) (h : p_X8_country f_w = some r) : z_MI l yX8_country cX8_country 2 (some .int) 1 22 D y [.ref o] [(o, .inr (7, [.ref o_w, g_kept, g_text, g_size, g_above, g_below, g_bads, g_noes, g_fulls, g_at, g_from, g_token, g_value, g_readFault, g_yet, g_fars, g_tells])), (o_w, .inl (y 0, 1960, .inl f_w))] r.1 [(o, .inr (7, [.ref o_w, g_kept, g_text, g_size, g_above, g_below, g_bads, g_noes, g_fulls, g_at, g_from, g_token, g_value, g_readFault, g_yet, g_fars, g_tells])), (o_w, .inl (y 0, 1960, .inl r.2))] := by
  unfold p_X8_country at h
  refine z_enI (by decide) (Nat.le_of_ble_eq_true rfl) ?_
  intro p e s m args below meth c A ls hr K hH hl
  obtain ⟨Q, hQ⟩ : ∃ Q, Q = MQ below (z_Qi D y A r.1 [(o, .inr (7, [.ref o_w, g_kept, g_text, g_size, g_above, g_below, g_bads, g_noes, g_fulls, g_at, g_from, g_token, g_value, g_readFault, g_yet, g_fars, g_tells])), (o_w, .inl (y 0, 1960, .inl r.2))]) args s 0 0 A := ⟨_, rfl⟩
  rw [← hQ]
  have hl : lv_has ls 2 [(0, .ref o)] := hl
  refine lv_aload_n K.x K.b dX8_country_0 rfl (lv_at hl 0 rfl) ?_
  refine z_get K hH 0 rfl zin_8 rfl 0 (by decide) tw_4_96 (v := .ref o_w) rfl dX8_country_1 ?_
  refine lv_sipush (v := (418)) K.x K.b dX8_country_4 (by decide) ?_
  refine z_iald K hH 1 (k := 418) rfl (by decide) rfl dX8_country_7 ?_
  obtain ⟨x1, ex1, h⟩ := z_lt_e h
  refine z_nm ex1 ?_
  refine lv_istore_n (lv' := [(1, .int x1), (0, .ref o)]) K.x K.b dX8_country_8 rfl hl (by decide) rfl (fun ls hl => ?_)
  refine lv_aload_n K.x K.b dX8_country_9 rfl (lv_at hl 1 rfl) ?_
  refine lv_iconst (v := (0)) K.x K.b dX8_country_10 (by decide) ?_
  obtain ⟨r2, hr3, h⟩ := z_bd_e h
  refine z_Vv K hH hl.1 (c_X8_clearRow l D y o o_w (g_kept) (g_text) (g_size) (g_above) (g_below) (g_bads) (g_noes) (g_fulls) (g_at) (g_from) (g_token) (g_value) (g_readFault) (g_yet) (g_fars) (g_tells) f_w (0 : Int32) r2 hr3) (z_cwV K 1 tw_4_152 tw_4_154 tw_0_36 tw_1_8 tw_4_155 hd_X8_clearRow ⟨by decide, by decide⟩) [0, 1] [] rfl (wr := []) rfl rfl rfl (by decide) rfl rfl rfl (As := [.int (0 : Int32)]) (rest := []) rfl (Nat.le_of_ble_eq_true rfl) ⟨Nat.zero_le _, Nat.zero_le _⟩ dX8_country_11 (ws' := [(o, .inr (7, [.ref o_w, g_kept, g_text, g_size, g_above, g_below, g_bads, g_noes, g_fulls, g_at, g_from, g_token, g_value, g_readFault, g_yet, g_fars, g_tells])), (o_w, .inl (y 0, 1960, .inl r2))]) rfl (fun H locs hH => ?_)
  refine lv_iload_n K.x K.b dX8_country_14 rfl (lv_at hl 0 rfl) ?_
  have hr9 := Option.some.inj h
  obtain rfl := hr9
  rw [hQ]
  exact z_reti K hr hH [0, 1] (by decide) rfl rfl rfl dX8_country_15
def p_X8_placeIn (f_w : (Nat → Int32)) (p1 : Int32) (p2 : Int32) (p3 : Int32) (p4 : Int32) : Option (Int32 × (Nat → Int32)) :=
  z_lt ((p1 + (418 : Int32))) fun x1 =>
  z_gd (z_in x1 1960) <|
  z_lt ((f_w x1.toNatClampNeg)) fun x3 =>
  z_lt (((p1 + (397 : Int32)) + ((3 : Int32) * x3))) fun x4 =>
  z_gd (z_in x4 1960) <|
  z_lt ((upd f_w x4.toNatClampNeg p2)) fun a6 =>
  z_lt ((((p1 + (397 : Int32)) + ((3 : Int32) * x3)) + (1 : Int32))) fun x7 =>
  z_gd (z_in x7 1960) <|
  z_lt ((upd a6 x7.toNatClampNeg p3)) fun a9 =>
  z_lt ((((p1 + (397 : Int32)) + ((3 : Int32) * x3)) + (2 : Int32))) fun x10 =>
  z_gd (z_in x10 1960) <|
  z_lt ((upd a9 x10.toNatClampNeg p4)) fun a12 =>
  z_lt ((p1 + (418 : Int32))) fun x13 =>
  z_gd (z_in x13 1960) <|
  z_lt (((a12 x13.toNatClampNeg) + (1 : Int32))) fun x15 =>
  z_gd (z_in x13 1960) <|
  z_lt ((upd a12 x13.toNatClampNeg x15)) fun a17 =>
  z_lt ((p1 + (396 : Int32))) fun x18 =>
  z_gd (z_in x18 1960) <|
  z_lt ((upd a17 x18.toNatClampNeg (0 : Int32))) fun a20 =>
  some (x3, a20)
theorem hd_X8_placeIn : yX8_placeIn.cls = RX8 ∧ yX8_placeIn.cls ≠ "java/lang/invoke/MethodHandle" ∧ yX8_placeIn.cls ≠ "java/lang/invoke/VarHandle" ∧ (parseMethodDescriptor yX8_placeIn.desc).map (fun d => d.parameters.length) = some 4 := by decide +kernel
set_option maxHeartbeats 4000000 in
set_option maxRecDepth 100000 in
theorem c_X8_placeIn (l : Launch) (D : va_G) (y : Nat → ClassId) (o o_w : Nat) (g_kept g_text g_size g_above g_below g_bads g_noes g_fulls g_at g_from g_token g_value g_readFault g_yet g_fars g_tells : Value) (f_w : (Nat → Int32)) (p1 : Int32) (p2 : Int32) (p3 : Int32) (p4 : Int32) (r : Int32 × (Nat → Int32)) (h : p_X8_placeIn f_w p1 p2 p3 p4 = some r) : z_MI l yX8_placeIn cX8_placeIn 6 (some .int) 0 0 D y [.ref o, .int p1, .int p2, .int p3, .int p4] [(o, .inr (7, [.ref o_w, g_kept, g_text, g_size, g_above, g_below, g_bads, g_noes, g_fulls, g_at, g_from, g_token, g_value, g_readFault, g_yet, g_fars, g_tells])), (o_w, .inl (y 0, 1960, .inl f_w))] r.1 [(o, .inr (7, [.ref o_w, g_kept, g_text, g_size, g_above, g_below, g_bads, g_noes, g_fulls, g_at, g_from, g_token, g_value, g_readFault, g_yet, g_fars, g_tells])), (o_w, .inl (y 0, 1960, .inl r.2))] := by
  unfold p_X8_placeIn at h
  refine z_enI (by decide) (Nat.le_of_ble_eq_true rfl) ?_
  intro p e s m args below meth c A ls hr K hH hl
  obtain ⟨Q, hQ⟩ : ∃ Q, Q = MQ below (z_Qi D y A r.1 [(o, .inr (7, [.ref o_w, g_kept, g_text, g_size, g_above, g_below, g_bads, g_noes, g_fulls, g_at, g_from, g_token, g_value, g_readFault, g_yet, g_fars, g_tells])), (o_w, .inl (y 0, 1960, .inl r.2))]) args s 0 0 A := ⟨_, rfl⟩
  rw [← hQ]
  have hl : lv_has ls 6 [(0, .ref o), (1, .int p1), (2, .int p2), (3, .int p3), (4, .int p4)] := hl
  refine lv_aload_n K.x K.b dX8_placeIn_0 rfl (lv_at hl 0 rfl) ?_
  refine z_get K hH 0 rfl zin_8 rfl 0 (by decide) tw_4_96 (v := .ref o_w) rfl dX8_placeIn_1 ?_
  refine lv_iload_n K.x K.b dX8_placeIn_4 rfl (lv_at hl 1 rfl) ?_
  refine lv_sipush (v := (418)) K.x K.b dX8_placeIn_5 (by decide) ?_
  refine lv_iadd K.x K.b dX8_placeIn_8 ?_
  obtain ⟨x1, ex1, h⟩ := z_lt_e h
  refine z_nm ex1 ?_
  obtain ⟨g2, h⟩ := z_gd_e h
  refine z_iald K hH 1 (k := x1.toNatClampNeg) rfl g2 rfl dX8_placeIn_9 ?_
  obtain ⟨x3, ex3, h⟩ := z_lt_e h
  refine z_nm ex3 ?_
  refine lv_istore (lv' := [(5, .int x3), (0, .ref o), (1, .int p1), (2, .int p2), (3, .int p3), (4, .int p4)]) K.x K.b dX8_placeIn_10 hl (by decide) rfl (fun ls hl => ?_)
  refine lv_aload_n K.x K.b dX8_placeIn_12 rfl (lv_at hl 1 rfl) ?_
  refine z_get K hH 0 rfl zin_8 rfl 0 (by decide) tw_4_96 (v := .ref o_w) rfl dX8_placeIn_13 ?_
  refine lv_iload_n K.x K.b dX8_placeIn_16 rfl (lv_at hl 2 rfl) ?_
  refine lv_sipush (v := (397)) K.x K.b dX8_placeIn_17 (by decide) ?_
  refine lv_iadd K.x K.b dX8_placeIn_20 ?_
  refine lv_iconst (v := (3)) K.x K.b dX8_placeIn_21 (by decide) ?_
  refine lv_iload K.x K.b dX8_placeIn_22 (lv_at hl 0 rfl) ?_
  refine lv_imul K.x K.b dX8_placeIn_24 ?_
  refine lv_iadd K.x K.b dX8_placeIn_25 ?_
  refine lv_iload_n K.x K.b dX8_placeIn_26 rfl (lv_at hl 3 rfl) ?_
  obtain ⟨x4, ex4, h⟩ := z_lt_e h
  refine z_nm2 ex4 ?_
  obtain ⟨g5, h⟩ := z_gd_e h
  obtain ⟨a6, ea6, h⟩ := z_lt_e h
  refine z_iast K hH 1 (k := x4.toNatClampNeg) (ws' := [(o, .inr (7, [.ref o_w, g_kept, g_text, g_size, g_above, g_below, g_bads, g_noes, g_fulls, g_at, g_from, g_token, g_value, g_readFault, g_yet, g_fars, g_tells])), (o_w, .inl (y 0, 1960, .inl a6))]) rfl g5 rfl dX8_placeIn_27 (by rw [ea6]; rfl) (fun H locs hH => ?_)
  refine lv_aload_n K.x K.b dX8_placeIn_28 rfl (lv_at hl 1 rfl) ?_
  refine z_get K hH 0 rfl zin_8 rfl 0 (by decide) tw_4_96 (v := .ref o_w) rfl dX8_placeIn_29 ?_
  refine lv_iload_n K.x K.b dX8_placeIn_32 rfl (lv_at hl 2 rfl) ?_
  refine lv_sipush (v := (397)) K.x K.b dX8_placeIn_33 (by decide) ?_
  refine lv_iadd K.x K.b dX8_placeIn_36 ?_
  refine lv_iconst (v := (3)) K.x K.b dX8_placeIn_37 (by decide) ?_
  refine lv_iload K.x K.b dX8_placeIn_38 (lv_at hl 0 rfl) ?_
  refine lv_imul K.x K.b dX8_placeIn_40 ?_
  refine lv_iadd K.x K.b dX8_placeIn_41 ?_
  refine lv_iconst (v := (1)) K.x K.b dX8_placeIn_42 (by decide) ?_
  refine lv_iadd K.x K.b dX8_placeIn_43 ?_
  refine lv_iload_n K.x K.b dX8_placeIn_44 rfl (lv_at hl 4 rfl) ?_
  obtain ⟨x7, ex7, h⟩ := z_lt_e h
  refine z_nm2 ex7 ?_
  obtain ⟨g8, h⟩ := z_gd_e h
  obtain ⟨a9, ea9, h⟩ := z_lt_e h
  refine z_iast K hH 1 (k := x7.toNatClampNeg) (ws' := [(o, .inr (7, [.ref o_w, g_kept, g_text, g_size, g_above, g_below, g_bads, g_noes, g_fulls, g_at, g_from, g_token, g_value, g_readFault, g_yet, g_fars, g_tells])), (o_w, .inl (y 0, 1960, .inl a9))]) rfl g8 rfl dX8_placeIn_45 (by rw [ea9]; rfl) (fun H locs hH => ?_)
  refine lv_aload_n K.x K.b dX8_placeIn_46 rfl (lv_at hl 1 rfl) ?_
  refine z_get K hH 0 rfl zin_8 rfl 0 (by decide) tw_4_96 (v := .ref o_w) rfl dX8_placeIn_47 ?_
  refine lv_iload_n K.x K.b dX8_placeIn_50 rfl (lv_at hl 2 rfl) ?_
  refine lv_sipush (v := (397)) K.x K.b dX8_placeIn_51 (by decide) ?_
  refine lv_iadd K.x K.b dX8_placeIn_54 ?_
  refine lv_iconst (v := (3)) K.x K.b dX8_placeIn_55 (by decide) ?_
  refine lv_iload K.x K.b dX8_placeIn_56 (lv_at hl 0 rfl) ?_
  refine lv_imul K.x K.b dX8_placeIn_58 ?_
  refine lv_iadd K.x K.b dX8_placeIn_59 ?_
  refine lv_iconst (v := (2)) K.x K.b dX8_placeIn_60 (by decide) ?_
  refine lv_iadd K.x K.b dX8_placeIn_61 ?_
  refine lv_iload K.x K.b dX8_placeIn_62 (lv_at hl 5 rfl) ?_
  obtain ⟨x10, ex10, h⟩ := z_lt_e h
  refine z_nm2 ex10 ?_
  obtain ⟨g11, h⟩ := z_gd_e h
  obtain ⟨a12, ea12, h⟩ := z_lt_e h
  refine z_iast K hH 1 (k := x10.toNatClampNeg) (ws' := [(o, .inr (7, [.ref o_w, g_kept, g_text, g_size, g_above, g_below, g_bads, g_noes, g_fulls, g_at, g_from, g_token, g_value, g_readFault, g_yet, g_fars, g_tells])), (o_w, .inl (y 0, 1960, .inl a12))]) rfl g11 rfl dX8_placeIn_64 (by rw [ea12]; rfl) (fun H locs hH => ?_)
  refine lv_aload_n K.x K.b dX8_placeIn_65 rfl (lv_at hl 1 rfl) ?_
  refine z_get K hH 0 rfl zin_8 rfl 0 (by decide) tw_4_96 (v := .ref o_w) rfl dX8_placeIn_66 ?_
  refine lv_iload_n K.x K.b dX8_placeIn_69 rfl (lv_at hl 2 rfl) ?_
  refine lv_sipush (v := (418)) K.x K.b dX8_placeIn_70 (by decide) ?_
  refine lv_iadd K.x K.b dX8_placeIn_73 ?_
  obtain ⟨x13, ex13, h⟩ := z_lt_e h
  refine z_nm ex13 ?_
  refine lv_dup2_11 K.x K.b dX8_placeIn_74 rfl rfl ?_
  obtain ⟨g14, h⟩ := z_gd_e h
  refine z_iald K hH 1 (k := x13.toNatClampNeg) rfl g14 rfl dX8_placeIn_75 ?_
  refine lv_iconst (v := (1)) K.x K.b dX8_placeIn_76 (by decide) ?_
  refine lv_iadd K.x K.b dX8_placeIn_77 ?_
  obtain ⟨x15, ex15, h⟩ := z_lt_e h
  refine z_nm ex15 ?_
  obtain ⟨g16, h⟩ := z_gd_e h
  obtain ⟨a17, ea17, h⟩ := z_lt_e h
  refine z_iast K hH 1 (k := x13.toNatClampNeg) (ws' := [(o, .inr (7, [.ref o_w, g_kept, g_text, g_size, g_above, g_below, g_bads, g_noes, g_fulls, g_at, g_from, g_token, g_value, g_readFault, g_yet, g_fars, g_tells])), (o_w, .inl (y 0, 1960, .inl a17))]) rfl g16 rfl dX8_placeIn_78 (by rw [ea17]; rfl) (fun H locs hH => ?_)
  refine lv_aload_n K.x K.b dX8_placeIn_79 rfl (lv_at hl 1 rfl) ?_
  refine z_get K hH 0 rfl zin_8 rfl 0 (by decide) tw_4_96 (v := .ref o_w) rfl dX8_placeIn_80 ?_
  refine lv_iload_n K.x K.b dX8_placeIn_83 rfl (lv_at hl 2 rfl) ?_
  refine lv_sipush (v := (396)) K.x K.b dX8_placeIn_84 (by decide) ?_
  refine lv_iadd K.x K.b dX8_placeIn_87 ?_
  refine lv_iconst (v := (0)) K.x K.b dX8_placeIn_88 (by decide) ?_
  obtain ⟨x18, ex18, h⟩ := z_lt_e h
  refine z_nm2 ex18 ?_
  obtain ⟨g19, h⟩ := z_gd_e h
  obtain ⟨a20, ea20, h⟩ := z_lt_e h
  refine z_iast K hH 1 (k := x18.toNatClampNeg) (ws' := [(o, .inr (7, [.ref o_w, g_kept, g_text, g_size, g_above, g_below, g_bads, g_noes, g_fulls, g_at, g_from, g_token, g_value, g_readFault, g_yet, g_fars, g_tells])), (o_w, .inl (y 0, 1960, .inl a20))]) rfl g19 rfl dX8_placeIn_89 (by rw [ea20]; rfl) (fun H locs hH => ?_)
  refine lv_iload K.x K.b dX8_placeIn_90 (lv_at hl 0 rfl) ?_
  have hr9 := Option.some.inj h
  obtain rfl := hr9
  rw [hQ]
  exact z_reti K hr hH [0, 1] (by decide) rfl rfl rfl dX8_placeIn_92
def p_X8_crowIn (f_w : (Nat → Int32)) (p1 : Int32) (p2 : Int32) (p3 : Int32) : Option (Int32 × (Nat → Int32)) :=
  z_lt ((p1 + (422 : Int32))) fun x1 =>
  z_gd (z_in x1 1960) <|
  z_lt ((f_w x1.toNatClampNeg)) fun x3 =>
  z_lt (((p1 + (419 : Int32)) + x3)) fun x4 =>
  z_gd (z_in x4 1960) <|
  z_lt ((upd f_w x4.toNatClampNeg p2)) fun a6 =>
  z_lt ((p1 + x3)) fun x7 =>
  z_gd (z_in x7 1960) <|
  z_lt ((upd a6 x7.toNatClampNeg p3)) fun a9 =>
  z_lt (((p1 + (3 : Int32)) + x3)) fun x10 =>
  z_gd (z_in x10 1960) <|
  z_lt ((upd a9 x10.toNatClampNeg (0 : Int32))) fun a12 =>
  z_lt ((p1 + (422 : Int32))) fun x13 =>
  z_gd (z_in x13 1960) <|
  z_lt (((a12 x13.toNatClampNeg) + (1 : Int32))) fun x15 =>
  z_gd (z_in x13 1960) <|
  z_lt ((upd a12 x13.toNatClampNeg x15)) fun a17 =>
  z_lt ((p1 + (396 : Int32))) fun x18 =>
  z_gd (z_in x18 1960) <|
  z_lt ((upd a17 x18.toNatClampNeg (0 : Int32))) fun a20 =>
  some (x3, a20)
theorem hd_X8_crowIn : yX8_crowIn.cls = RX8 ∧ yX8_crowIn.cls ≠ "java/lang/invoke/MethodHandle" ∧ yX8_crowIn.cls ≠ "java/lang/invoke/VarHandle" ∧ (parseMethodDescriptor yX8_crowIn.desc).map (fun d => d.parameters.length) = some 3 := by decide +kernel
set_option maxHeartbeats 4000000 in
set_option maxRecDepth 100000 in
theorem c_X8_crowIn (l : Launch) (D : va_G) (y : Nat → ClassId) (o o_w : Nat) (g_kept g_text g_size g_above g_below g_bads g_noes g_fulls g_at g_from g_token g_value g_readFault g_yet g_fars g_tells : Value) (f_w : (Nat → Int32)) (p1 : Int32) (p2 : Int32) (p3 : Int32) (r : Int32 × (Nat → Int32)) (h : p_X8_crowIn f_w p1 p2 p3 = some r) : z_MI l yX8_crowIn cX8_crowIn 5 (some .int) 0 0 D y [.ref o, .int p1, .int p2, .int p3] [(o, .inr (7, [.ref o_w, g_kept, g_text, g_size, g_above, g_below, g_bads, g_noes, g_fulls, g_at, g_from, g_token, g_value, g_readFault, g_yet, g_fars, g_tells])), (o_w, .inl (y 0, 1960, .inl f_w))] r.1 [(o, .inr (7, [.ref o_w, g_kept, g_text, g_size, g_above, g_below, g_bads, g_noes, g_fulls, g_at, g_from, g_token, g_value, g_readFault, g_yet, g_fars, g_tells])), (o_w, .inl (y 0, 1960, .inl r.2))] := by
  unfold p_X8_crowIn at h
  refine z_enI (by decide) (Nat.le_of_ble_eq_true rfl) ?_
  intro p e s m args below meth c A ls hr K hH hl
  obtain ⟨Q, hQ⟩ : ∃ Q, Q = MQ below (z_Qi D y A r.1 [(o, .inr (7, [.ref o_w, g_kept, g_text, g_size, g_above, g_below, g_bads, g_noes, g_fulls, g_at, g_from, g_token, g_value, g_readFault, g_yet, g_fars, g_tells])), (o_w, .inl (y 0, 1960, .inl r.2))]) args s 0 0 A := ⟨_, rfl⟩
  rw [← hQ]
  have hl : lv_has ls 5 [(0, .ref o), (1, .int p1), (2, .int p2), (3, .int p3)] := hl
  refine lv_aload_n K.x K.b dX8_crowIn_0 rfl (lv_at hl 0 rfl) ?_
  refine z_get K hH 0 rfl zin_8 rfl 0 (by decide) tw_4_96 (v := .ref o_w) rfl dX8_crowIn_1 ?_
  refine lv_iload_n K.x K.b dX8_crowIn_4 rfl (lv_at hl 1 rfl) ?_
  refine lv_sipush (v := (422)) K.x K.b dX8_crowIn_5 (by decide) ?_
  refine lv_iadd K.x K.b dX8_crowIn_8 ?_
  obtain ⟨x1, ex1, h⟩ := z_lt_e h
  refine z_nm ex1 ?_
  obtain ⟨g2, h⟩ := z_gd_e h
  refine z_iald K hH 1 (k := x1.toNatClampNeg) rfl g2 rfl dX8_crowIn_9 ?_
  obtain ⟨x3, ex3, h⟩ := z_lt_e h
  refine z_nm ex3 ?_
  refine lv_istore (lv' := [(4, .int x3), (0, .ref o), (1, .int p1), (2, .int p2), (3, .int p3)]) K.x K.b dX8_crowIn_10 hl (by decide) rfl (fun ls hl => ?_)
  refine lv_aload_n K.x K.b dX8_crowIn_12 rfl (lv_at hl 1 rfl) ?_
  refine z_get K hH 0 rfl zin_8 rfl 0 (by decide) tw_4_96 (v := .ref o_w) rfl dX8_crowIn_13 ?_
  refine lv_iload_n K.x K.b dX8_crowIn_16 rfl (lv_at hl 2 rfl) ?_
  refine lv_sipush (v := (419)) K.x K.b dX8_crowIn_17 (by decide) ?_
  refine lv_iadd K.x K.b dX8_crowIn_20 ?_
  refine lv_iload K.x K.b dX8_crowIn_21 (lv_at hl 0 rfl) ?_
  refine lv_iadd K.x K.b dX8_crowIn_23 ?_
  refine lv_iload_n K.x K.b dX8_crowIn_24 rfl (lv_at hl 3 rfl) ?_
  obtain ⟨x4, ex4, h⟩ := z_lt_e h
  refine z_nm2 ex4 ?_
  obtain ⟨g5, h⟩ := z_gd_e h
  obtain ⟨a6, ea6, h⟩ := z_lt_e h
  refine z_iast K hH 1 (k := x4.toNatClampNeg) (ws' := [(o, .inr (7, [.ref o_w, g_kept, g_text, g_size, g_above, g_below, g_bads, g_noes, g_fulls, g_at, g_from, g_token, g_value, g_readFault, g_yet, g_fars, g_tells])), (o_w, .inl (y 0, 1960, .inl a6))]) rfl g5 rfl dX8_crowIn_25 (by rw [ea6]; rfl) (fun H locs hH => ?_)
  refine lv_aload_n K.x K.b dX8_crowIn_26 rfl (lv_at hl 1 rfl) ?_
  refine z_get K hH 0 rfl zin_8 rfl 0 (by decide) tw_4_96 (v := .ref o_w) rfl dX8_crowIn_27 ?_
  refine lv_iload_n K.x K.b dX8_crowIn_30 rfl (lv_at hl 2 rfl) ?_
  refine lv_iload K.x K.b dX8_crowIn_31 (lv_at hl 0 rfl) ?_
  refine lv_iadd K.x K.b dX8_crowIn_33 ?_
  refine lv_iload_n K.x K.b dX8_crowIn_34 rfl (lv_at hl 4 rfl) ?_
  obtain ⟨x7, ex7, h⟩ := z_lt_e h
  refine z_nm2 ex7 ?_
  obtain ⟨g8, h⟩ := z_gd_e h
  obtain ⟨a9, ea9, h⟩ := z_lt_e h
  refine z_iast K hH 1 (k := x7.toNatClampNeg) (ws' := [(o, .inr (7, [.ref o_w, g_kept, g_text, g_size, g_above, g_below, g_bads, g_noes, g_fulls, g_at, g_from, g_token, g_value, g_readFault, g_yet, g_fars, g_tells])), (o_w, .inl (y 0, 1960, .inl a9))]) rfl g8 rfl dX8_crowIn_35 (by rw [ea9]; rfl) (fun H locs hH => ?_)
  refine lv_aload_n K.x K.b dX8_crowIn_36 rfl (lv_at hl 1 rfl) ?_
  refine z_get K hH 0 rfl zin_8 rfl 0 (by decide) tw_4_96 (v := .ref o_w) rfl dX8_crowIn_37 ?_
  refine lv_iload_n K.x K.b dX8_crowIn_40 rfl (lv_at hl 2 rfl) ?_
  refine lv_iconst (v := (3)) K.x K.b dX8_crowIn_41 (by decide) ?_
  refine lv_iadd K.x K.b dX8_crowIn_42 ?_
  refine lv_iload K.x K.b dX8_crowIn_43 (lv_at hl 0 rfl) ?_
  refine lv_iadd K.x K.b dX8_crowIn_45 ?_
  refine lv_iconst (v := (0)) K.x K.b dX8_crowIn_46 (by decide) ?_
  obtain ⟨x10, ex10, h⟩ := z_lt_e h
  refine z_nm2 ex10 ?_
  obtain ⟨g11, h⟩ := z_gd_e h
  obtain ⟨a12, ea12, h⟩ := z_lt_e h
  refine z_iast K hH 1 (k := x10.toNatClampNeg) (ws' := [(o, .inr (7, [.ref o_w, g_kept, g_text, g_size, g_above, g_below, g_bads, g_noes, g_fulls, g_at, g_from, g_token, g_value, g_readFault, g_yet, g_fars, g_tells])), (o_w, .inl (y 0, 1960, .inl a12))]) rfl g11 rfl dX8_crowIn_47 (by rw [ea12]; rfl) (fun H locs hH => ?_)
  refine lv_aload_n K.x K.b dX8_crowIn_48 rfl (lv_at hl 1 rfl) ?_
  refine z_get K hH 0 rfl zin_8 rfl 0 (by decide) tw_4_96 (v := .ref o_w) rfl dX8_crowIn_49 ?_
  refine lv_iload_n K.x K.b dX8_crowIn_52 rfl (lv_at hl 2 rfl) ?_
  refine lv_sipush (v := (422)) K.x K.b dX8_crowIn_53 (by decide) ?_
  refine lv_iadd K.x K.b dX8_crowIn_56 ?_
  obtain ⟨x13, ex13, h⟩ := z_lt_e h
  refine z_nm ex13 ?_
  refine lv_dup2_11 K.x K.b dX8_crowIn_57 rfl rfl ?_
  obtain ⟨g14, h⟩ := z_gd_e h
  refine z_iald K hH 1 (k := x13.toNatClampNeg) rfl g14 rfl dX8_crowIn_58 ?_
  refine lv_iconst (v := (1)) K.x K.b dX8_crowIn_59 (by decide) ?_
  refine lv_iadd K.x K.b dX8_crowIn_60 ?_
  obtain ⟨x15, ex15, h⟩ := z_lt_e h
  refine z_nm ex15 ?_
  obtain ⟨g16, h⟩ := z_gd_e h
  obtain ⟨a17, ea17, h⟩ := z_lt_e h
  refine z_iast K hH 1 (k := x13.toNatClampNeg) (ws' := [(o, .inr (7, [.ref o_w, g_kept, g_text, g_size, g_above, g_below, g_bads, g_noes, g_fulls, g_at, g_from, g_token, g_value, g_readFault, g_yet, g_fars, g_tells])), (o_w, .inl (y 0, 1960, .inl a17))]) rfl g16 rfl dX8_crowIn_61 (by rw [ea17]; rfl) (fun H locs hH => ?_)
  refine lv_aload_n K.x K.b dX8_crowIn_62 rfl (lv_at hl 1 rfl) ?_
  refine z_get K hH 0 rfl zin_8 rfl 0 (by decide) tw_4_96 (v := .ref o_w) rfl dX8_crowIn_63 ?_
  refine lv_iload_n K.x K.b dX8_crowIn_66 rfl (lv_at hl 2 rfl) ?_
  refine lv_sipush (v := (396)) K.x K.b dX8_crowIn_67 (by decide) ?_
  refine lv_iadd K.x K.b dX8_crowIn_70 ?_
  refine lv_iconst (v := (0)) K.x K.b dX8_crowIn_71 (by decide) ?_
  obtain ⟨x18, ex18, h⟩ := z_lt_e h
  refine z_nm2 ex18 ?_
  obtain ⟨g19, h⟩ := z_gd_e h
  obtain ⟨a20, ea20, h⟩ := z_lt_e h
  refine z_iast K hH 1 (k := x18.toNatClampNeg) (ws' := [(o, .inr (7, [.ref o_w, g_kept, g_text, g_size, g_above, g_below, g_bads, g_noes, g_fulls, g_at, g_from, g_token, g_value, g_readFault, g_yet, g_fars, g_tells])), (o_w, .inl (y 0, 1960, .inl a20))]) rfl g19 rfl dX8_crowIn_72 (by rw [ea20]; rfl) (fun H locs hH => ?_)
  refine lv_iload K.x K.b dX8_crowIn_73 (lv_at hl 0 rfl) ?_
  have hr9 := Option.some.inj h
  obtain rfl := hr9
  rw [hQ]
  exact z_reti K hr hH [0, 1] (by decide) rfl rfl rfl dX8_crowIn_75
def p_X8_place (v_bads : Int32) (v_fulls : Int32) (f_w : (Nat → Int32)) (p1 : Int32) (p2 : Int32) (p3 : Int32) : Option (Int32 × Int32 × Int32 × (Nat → Int32)) :=
  z_bd (p_X8_in p1 (0 : Int32) (5 : Int32)) fun r1 =>
  if (r1 = 0) then
  (z_bd (p_X8_bad v_bads) fun r4 =>
  some (r4.1, r4.2, v_fulls, f_w)) else
  (z_bd (p_X8_in p2 (0 : Int32) (9 : Int32)) fun r6 =>
  if (r6 = 0) then
  (z_bd (p_X8_bad v_bads) fun r9 =>
  some (r9.1, r9.2, v_fulls, f_w)) else
  (z_bd (p_X8_in p3 (0 : Int32) (9 : Int32)) fun r11 =>
  if (r11 = 0) then
  (z_bd (p_X8_bad v_bads) fun r20 =>
  some (r20.1, r20.2, v_fulls, f_w)) else
  (z_bd (α := Int32 × Int32 × (Nat → Int32)) (if ((f_w 418) = (7 : Int32)) then
  (z_bd (p_X8_full v_fulls) fun r18 =>
  some (r18.1, r18.2, f_w)) else
  (z_bd (p_X8_placeIn f_w (0 : Int32) p1 p2 p3) fun r16 =>
  some (r16.1, v_fulls, r16.2))) fun j14 =>
  some (j14.1, v_bads, j14.2.1, j14.2.2))))
theorem hd_X8_place : yX8_place.cls = RX8 ∧ yX8_place.cls ≠ "java/lang/invoke/MethodHandle" ∧ yX8_place.cls ≠ "java/lang/invoke/VarHandle" ∧ (parseMethodDescriptor yX8_place.desc).map (fun d => d.parameters.length) = some 3 := by decide +kernel
set_option maxHeartbeats 4000000 in
set_option maxRecDepth 100000 in
theorem c_X8_place (l : Launch) (D : va_G) (y : Nat → ClassId) (o o_w : Nat) (g_kept g_text g_size g_above g_below g_noes g_at g_from g_token g_value g_readFault g_yet g_fars g_tells : Value) (v_bads : Int32) (v_fulls : Int32) (f_w : (Nat → Int32)) (p1 : Int32) (p2 : Int32) (p3 : Int32) (r : Int32 × Int32 × Int32 × (Nat → Int32)) (h : p_X8_place v_bads v_fulls f_w p1 p2 p3 = some r) : z_MI l yX8_place cX8_place 4 (some .int) 1 25 D y [.ref o, .int p1, .int p2, .int p3] [(o, .inr (7, [.ref o_w, g_kept, g_text, g_size, g_above, g_below, .int v_bads, g_noes, .int v_fulls, g_at, g_from, g_token, g_value, g_readFault, g_yet, g_fars, g_tells])), (o_w, .inl (y 0, 1960, .inl f_w))] r.1 [(o, .inr (7, [.ref o_w, g_kept, g_text, g_size, g_above, g_below, .int r.2.1, g_noes, .int r.2.2.1, g_at, g_from, g_token, g_value, g_readFault, g_yet, g_fars, g_tells])), (o_w, .inl (y 0, 1960, .inl r.2.2.2))] := by
  unfold p_X8_place at h
  refine z_enI (by decide) (Nat.le_of_ble_eq_true rfl) ?_
  intro p e s m args below meth c A ls hr K hH hl
  obtain ⟨Q, hQ⟩ : ∃ Q, Q = MQ below (z_Qi D y A r.1 [(o, .inr (7, [.ref o_w, g_kept, g_text, g_size, g_above, g_below, .int r.2.1, g_noes, .int r.2.2.1, g_at, g_from, g_token, g_value, g_readFault, g_yet, g_fars, g_tells])), (o_w, .inl (y 0, 1960, .inl r.2.2.2))]) args s 0 0 A := ⟨_, rfl⟩
  rw [← hQ]
  have hl : lv_has ls 4 [(0, .ref o), (1, .int p1), (2, .int p2), (3, .int p3)] := hl
  refine lv_iload_n K.x K.b dX8_place_0 rfl (lv_at hl 1 rfl) ?_
  refine lv_iconst (v := (0)) K.x K.b dX8_place_1 (by decide) ?_
  refine lv_iconst (v := (5)) K.x K.b dX8_place_2 (by decide) ?_
  obtain ⟨r1, hr2, h⟩ := z_bd_e h
  refine z_Si K hH hl.1 (c_X8_in l D y p1 (0 : Int32) (5 : Int32) r1 hr2) (z_cwS K 3 tw_4_160 tw_4_161 tw_1_8 tw_4_162 hd_X8_in ⟨by decide, by decide⟩) rfl (As := [.int p1, .int (0 : Int32), .int (5 : Int32)]) (rest := []) rfl (Nat.le_of_ble_eq_true rfl) ⟨Nat.zero_le _, Nat.zero_le _⟩ dX8_place_3 (fun H locs hH => ?_)
  refine lv_if_eq (tgt := 29) K.x K.b dX8_place_6 (by decide) (fun c3 => ?_) (fun c3 => ?_)
  · replace h := z_t c3 h
    refine lv_aload_n K.x K.b dX8_place_29 rfl (lv_at hl 0 rfl) ?_
    obtain ⟨r4, hr5, h⟩ := z_bd_e h
    refine z_Vi K hH hl.1 (c_X8_bad l D y o (.ref o_w) (g_kept) (g_text) (g_size) (g_above) (g_below) (g_noes) (.int v_fulls) (g_at) (g_from) (g_token) (g_value) (g_readFault) (g_yet) (g_fars) (g_tells) v_bads r4 hr5) (z_cwV K 0 tw_4_163 tw_4_165 tw_0_37 tw_1_8 tw_4_166 hd_X8_bad ⟨by decide, by decide⟩) [0] [1] rfl (wr := [(o_w, .inl (y 0, 1960, .inl f_w))]) rfl rfl rfl (by decide) rfl rfl rfl (As := []) (rest := []) rfl (Nat.le_of_ble_eq_true rfl) ⟨Nat.zero_le _, Nat.zero_le _⟩ dX8_place_30 (ws' := [(o_w, .inl (y 0, 1960, .inl f_w)), (o, .inr (7, [.ref o_w, g_kept, g_text, g_size, g_above, g_below, .int r4.2, g_noes, .int v_fulls, g_at, g_from, g_token, g_value, g_readFault, g_yet, g_fars, g_tells]))]) rfl (fun H locs hH => ?_)
    have hr9 := Option.some.inj h
    obtain rfl := hr9
    rw [hQ]
    exact z_reti K hr hH [1, 0] (by decide) rfl rfl rfl dX8_place_33
  · replace h := z_f c3 h
    refine lv_iload_n K.x K.b dX8_place_9 rfl (lv_at hl 2 rfl) ?_
    refine lv_iconst (v := (0)) K.x K.b dX8_place_10 (by decide) ?_
    refine lv_bipush (v := (9)) K.x K.b dX8_place_11 (by decide) ?_
    obtain ⟨r6, hr7, h⟩ := z_bd_e h
    refine z_Si K hH hl.1 (c_X8_in l D y p2 (0 : Int32) (9 : Int32) r6 hr7) (z_cwS K 3 tw_4_160 tw_4_161 tw_1_8 tw_4_162 hd_X8_in ⟨by decide, by decide⟩) rfl (As := [.int p2, .int (0 : Int32), .int (9 : Int32)]) (rest := []) rfl (Nat.le_of_ble_eq_true rfl) ⟨Nat.zero_le _, Nat.zero_le _⟩ dX8_place_13 (fun H locs hH => ?_)
    refine lv_if_eq (tgt := 29) K.x K.b dX8_place_16 (by decide) (fun c8 => ?_) (fun c8 => ?_)
    · replace h := z_t c8 h
      refine lv_aload_n K.x K.b dX8_place_29 rfl (lv_at hl 0 rfl) ?_
      obtain ⟨r9, hr10, h⟩ := z_bd_e h
      refine z_Vi K hH hl.1 (c_X8_bad l D y o (.ref o_w) (g_kept) (g_text) (g_size) (g_above) (g_below) (g_noes) (.int v_fulls) (g_at) (g_from) (g_token) (g_value) (g_readFault) (g_yet) (g_fars) (g_tells) v_bads r9 hr10) (z_cwV K 0 tw_4_163 tw_4_165 tw_0_37 tw_1_8 tw_4_166 hd_X8_bad ⟨by decide, by decide⟩) [0] [1] rfl (wr := [(o_w, .inl (y 0, 1960, .inl f_w))]) rfl rfl rfl (by decide) rfl rfl rfl (As := []) (rest := []) rfl (Nat.le_of_ble_eq_true rfl) ⟨Nat.zero_le _, Nat.zero_le _⟩ dX8_place_30 (ws' := [(o_w, .inl (y 0, 1960, .inl f_w)), (o, .inr (7, [.ref o_w, g_kept, g_text, g_size, g_above, g_below, .int r9.2, g_noes, .int v_fulls, g_at, g_from, g_token, g_value, g_readFault, g_yet, g_fars, g_tells]))]) rfl (fun H locs hH => ?_)
      have hr9 := Option.some.inj h
      obtain rfl := hr9
      rw [hQ]
      exact z_reti K hr hH [1, 0] (by decide) rfl rfl rfl dX8_place_33
    · replace h := z_f c8 h
      refine lv_iload_n K.x K.b dX8_place_19 rfl (lv_at hl 3 rfl) ?_
      refine lv_iconst (v := (0)) K.x K.b dX8_place_20 (by decide) ?_
      refine lv_bipush (v := (9)) K.x K.b dX8_place_21 (by decide) ?_
      obtain ⟨r11, hr12, h⟩ := z_bd_e h
      refine z_Si K hH hl.1 (c_X8_in l D y p3 (0 : Int32) (9 : Int32) r11 hr12) (z_cwS K 3 tw_4_160 tw_4_161 tw_1_8 tw_4_162 hd_X8_in ⟨by decide, by decide⟩) rfl (As := [.int p3, .int (0 : Int32), .int (9 : Int32)]) (rest := []) rfl (Nat.le_of_ble_eq_true rfl) ⟨Nat.zero_le _, Nat.zero_le _⟩ dX8_place_23 (fun H locs hH => ?_)
      refine lv_if_ne (tgt := 34) K.x K.b dX8_place_26 (by decide) (fun c13 => ?_) (fun c13 => ?_)
      · replace h := z_f c13 h
        refine lv_aload_n K.x K.b dX8_place_34 rfl (lv_at hl 0 rfl) ?_
        refine z_get K hH 0 rfl zin_8 rfl 0 (by decide) tw_4_96 (v := .ref o_w) rfl dX8_place_35 ?_
        refine lv_sipush (v := (418)) K.x K.b dX8_place_38 (by decide) ?_
        refine z_iald K hH 1 (k := 418) rfl (by decide) rfl dX8_place_41 ?_
        refine lv_bipush (v := (7)) K.x K.b dX8_place_42 (by decide) ?_
        obtain ⟨j14, hj14, h⟩ := z_bd_e h
        have Kj14 : ∀ (H : Heap) (locs : List Loc) (ls : Array Slot), z_H D A s.heap [(o, .inr (7, [.ref o_w, g_kept, g_text, g_size, g_above, g_below, .int v_bads, g_noes, .int j14.2.1, g_at, g_from, g_token, g_value, g_readFault, g_yet, g_fars, g_tells])), (o_w, .inl (y 0, 1960, .inl j14.2.2))] H locs → lv_has ls 4 [] → W p l e (zR 1 25) s m args below meth c H locs 0 0 Q (F0 m 62 ls [.int j14.1]) := by
          intro H locs ls hH hl
          have hr9 := Option.some.inj h
          obtain rfl := hr9
          rw [hQ]
          exact z_reti K hr hH [0, 1] (by decide) rfl rfl rfl dX8_place_62
        replace h := hj14
        refine lv_icmp_ne (tgt := 54) K.x K.b dX8_place_44 (by decide) (fun c15 => ?_) (fun c15 => ?_)
        · replace h := z_f c15 h
          refine lv_aload_n K.x K.b dX8_place_54 rfl (lv_at hl 0 rfl) ?_
          refine lv_iconst (v := (0)) K.x K.b dX8_place_55 (by decide) ?_
          refine lv_iload_n K.x K.b dX8_place_56 rfl (lv_at hl 1 rfl) ?_
          refine lv_iload_n K.x K.b dX8_place_57 rfl (lv_at hl 2 rfl) ?_
          refine lv_iload_n K.x K.b dX8_place_58 rfl (lv_at hl 3 rfl) ?_
          obtain ⟨r16, hr17, h⟩ := z_bd_e h
          refine z_Vi K hH hl.1 (c_X8_placeIn l D y o o_w (g_kept) (g_text) (g_size) (g_above) (g_below) (.int v_bads) (g_noes) (.int v_fulls) (g_at) (g_from) (g_token) (g_value) (g_readFault) (g_yet) (g_fars) (g_tells) f_w (0 : Int32) p1 p2 p3 r16 hr17) (z_cwV K 4 tw_4_171 tw_4_173 tw_0_39 tw_1_8 tw_4_174 hd_X8_placeIn ⟨by decide, by decide⟩) [0, 1] [] rfl (wr := []) rfl rfl rfl (by decide) rfl rfl rfl (As := [.int (0 : Int32), .int p1, .int p2, .int p3]) (rest := []) rfl (Nat.le_of_ble_eq_true rfl) ⟨Nat.zero_le _, Nat.zero_le _⟩ dX8_place_59 (ws' := [(o, .inr (7, [.ref o_w, g_kept, g_text, g_size, g_above, g_below, .int v_bads, g_noes, .int v_fulls, g_at, g_from, g_token, g_value, g_readFault, g_yet, g_fars, g_tells])), (o_w, .inl (y 0, 1960, .inl r16.2))]) rfl (fun H locs hH => ?_)
          obtain rfl := Option.some.inj h
          exact Kj14 _ _ _ hH (lv_sub hl [] rfl)
        · replace h := z_t c15 h
          refine lv_aload_n K.x K.b dX8_place_47 rfl (lv_at hl 0 rfl) ?_
          obtain ⟨r18, hr19, h⟩ := z_bd_e h
          refine z_Vi K hH hl.1 (c_X8_full l D y o (.ref o_w) (g_kept) (g_text) (g_size) (g_above) (g_below) (.int v_bads) (g_noes) (g_at) (g_from) (g_token) (g_value) (g_readFault) (g_yet) (g_fars) (g_tells) v_fulls r18 hr19) (z_cwV K 0 tw_4_167 tw_4_169 tw_0_38 tw_1_8 tw_4_170 hd_X8_full ⟨by decide, by decide⟩) [0] [1] rfl (wr := [(o_w, .inl (y 0, 1960, .inl f_w))]) rfl rfl rfl (by decide) rfl rfl rfl (As := []) (rest := []) rfl (Nat.le_of_ble_eq_true rfl) ⟨Nat.zero_le _, Nat.zero_le _⟩ dX8_place_48 (ws' := [(o_w, .inl (y 0, 1960, .inl f_w)), (o, .inr (7, [.ref o_w, g_kept, g_text, g_size, g_above, g_below, .int v_bads, g_noes, .int r18.2, g_at, g_from, g_token, g_value, g_readFault, g_yet, g_fars, g_tells]))]) rfl (fun H locs hH => ?_)
          refine lv_goto (tgt := 62) K.x K.b dX8_place_51 (by decide) ?_
          obtain rfl := Option.some.inj h
          exact Kj14 _ _ _ (hH.sub [1, 0] (by decide) rfl) (lv_sub hl [] rfl)
      · replace h := z_t c13 h
        refine lv_aload_n K.x K.b dX8_place_29 rfl (lv_at hl 0 rfl) ?_
        obtain ⟨r20, hr21, h⟩ := z_bd_e h
        refine z_Vi K hH hl.1 (c_X8_bad l D y o (.ref o_w) (g_kept) (g_text) (g_size) (g_above) (g_below) (g_noes) (.int v_fulls) (g_at) (g_from) (g_token) (g_value) (g_readFault) (g_yet) (g_fars) (g_tells) v_bads r20 hr21) (z_cwV K 0 tw_4_163 tw_4_165 tw_0_37 tw_1_8 tw_4_166 hd_X8_bad ⟨by decide, by decide⟩) [0] [1] rfl (wr := [(o_w, .inl (y 0, 1960, .inl f_w))]) rfl rfl rfl (by decide) rfl rfl rfl (As := []) (rest := []) rfl (Nat.le_of_ble_eq_true rfl) ⟨Nat.zero_le _, Nat.zero_le _⟩ dX8_place_30 (ws' := [(o_w, .inl (y 0, 1960, .inl f_w)), (o, .inr (7, [.ref o_w, g_kept, g_text, g_size, g_above, g_below, .int r20.2, g_noes, .int v_fulls, g_at, g_from, g_token, g_value, g_readFault, g_yet, g_fars, g_tells]))]) rfl (fun H locs hH => ?_)
        have hr9 := Option.some.inj h
        obtain rfl := hr9
        rw [hQ]
        exact z_reti K hr hH [1, 0] (by decide) rfl rfl rfl dX8_place_33
