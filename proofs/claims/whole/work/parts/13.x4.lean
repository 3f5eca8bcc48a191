def p_X4_isLetter (p1 : Int32) : Option (Int32) :=
  z_bd (α := Int32) (if (p1 < (97 : Int32)) then
  (some (0 : Int32)) else
  (if ((122 : Int32) < p1) then
  (some (0 : Int32)) else
  (some (1 : Int32)))) fun j1 =>
  z_gd (z_bz j1) <|
  some j1
theorem hd_X4_isLetter : yX4_isLetter.cls ≠ "java/lang/invoke/MethodHandle" ∧ yX4_isLetter.cls ≠ "java/lang/invoke/VarHandle" ∧ (parseMethodDescriptor yX4_isLetter.desc).map (fun d => d.parameters.length) = some 1 := by decide +kernel
set_option maxHeartbeats 4000000 in
set_option maxRecDepth 100000 in
theorem c_X4_isLetter (l : Launch) (D : va_G) (y : Nat → ClassId) (p1 : Int32) (r : Int32) (h : p_X4_isLetter p1 = some r) : z_MI l yX4_isLetter cX4_isLetter 1 (some .boolean) 0 0 D y [.int p1] [] r [] := by
  unfold p_X4_isLetter at h
  refine z_enI (by decide) (Nat.le_of_ble_eq_true rfl) ?_
  intro p e s m args below meth c A ls hr K hH hl
  obtain ⟨Q, hQ⟩ : ∃ Q, Q = MQ below (z_Qi D y A r []) args s 0 0 A := ⟨_, rfl⟩
  rw [← hQ]
  have hl : lv_has ls 1 [(0, .int p1)] := hl
  refine lv_iload_n K.x K.b dX4_isLetter_0 rfl (lv_at hl 0 rfl) ?_
  refine lv_bipush (v := (97)) K.x K.b dX4_isLetter_1 (by decide) ?_
  obtain ⟨j1, hj1, h⟩ := z_bd_e h
  have Kj1 : ∀ (H : Heap) (locs : List Loc) (ls : Array Slot), z_H D A s.heap [] H locs → lv_has ls 1 [] → W p l e (zR 0 0) s m args below meth c H locs 0 0 Q (F0 m 17 ls [.int j1]) := by
    intro H locs ls hH hl
    obtain ⟨g2, h⟩ := z_gd_e h
    have hr9 := Option.some.inj h
    obtain rfl := hr9
    rw [hQ]
    exact z_reti K hr hH [] (by decide) rfl rfl (z_bz_e g2) dX4_isLetter_17
  replace h := hj1
  refine lv_icmp_lt (tgt := 16) K.x K.b dX4_isLetter_3 (by decide) (fun c3 => ?_) (fun c3 => ?_)
  · replace h := z_t c3 h
    refine lv_iconst (v := (0)) K.x K.b dX4_isLetter_16 (by decide) ?_
    obtain rfl := Option.some.inj h
    exact Kj1 _ _ _ hH (lv_sub hl [] rfl)
  · replace h := z_f c3 h
    refine lv_iload_n K.x K.b dX4_isLetter_6 rfl (lv_at hl 0 rfl) ?_
    refine lv_bipush (v := (122)) K.x K.b dX4_isLetter_7 (by decide) ?_
    refine lv_icmp_gt (tgt := 16) K.x K.b dX4_isLetter_9 (by decide) (fun c4 => ?_) (fun c4 => ?_)
    · replace h := z_t c4 h
      refine lv_iconst (v := (0)) K.x K.b dX4_isLetter_16 (by decide) ?_
      obtain rfl := Option.some.inj h
      exact Kj1 _ _ _ hH (lv_sub hl [] rfl)
    · replace h := z_f c4 h
      refine lv_iconst (v := (1)) K.x K.b dX4_isLetter_12 (by decide) ?_
      refine lv_goto (tgt := 17) K.x K.b dX4_isLetter_13 (by decide) ?_
      obtain rfl := Option.some.inj h
      exact Kj1 _ _ _ hH (lv_sub hl [] rfl)
noncomputable def p_X4_takeLetters (v_length : Int32) (v_next : Int32) (v_token : Int32) (f_bytes : (Nat → Int32)) : Option (Int32 × Int32) :=
  z_bd (z_lp (S := Int32) (E := Int32) (fun s1 =>
  if (v_length ≤ s1) then
  (some (.inr s1)) else
  (z_gd (z_in s1 150) <|
  z_lt ((f_bytes s1.toNatClampNeg)) fun x6 =>
  z_bd (p_X4_isLetter x6) fun r7 =>
  if (r7 = 0) then
  (some (.inr s1)) else
  (z_lt ((s1 + (1 : Int32))) fun x10 =>
  some (.inl x10)))) v_next) fun e2 =>
  some (e2, (1 : Int32))
theorem hd_X4_takeLetters : yX4_takeLetters.cls = RX4 ∧ yX4_takeLetters.cls ≠ "java/lang/invoke/MethodHandle" ∧ yX4_takeLetters.cls ≠ "java/lang/invoke/VarHandle" ∧ (parseMethodDescriptor yX4_takeLetters.desc).map (fun d => d.parameters.length) = some 0 := by decide +kernel
set_option maxHeartbeats 4000000 in
set_option maxRecDepth 100000 in
theorem c_X4_takeLetters (l : Launch) (D : va_G) (y : Nat → ClassId) (o o_bytes : Nat) (g_draft g_start g_value : Value) (v_length : Int32) (v_next : Int32) (v_token : Int32) (f_bytes : (Nat → Int32)) (r : Int32 × Int32) (h : p_X4_takeLetters v_length v_next v_token f_bytes = some r) : z_MV l yX4_takeLetters cX4_takeLetters 1 none 1 20 D y [.ref o] [(o, .inr (3, [g_draft, .ref o_bytes, .int v_length, .int v_next, .int v_token, g_start, g_value])), (o_bytes, .inl (y 1, 150, .inl f_bytes))] [(o, .inr (3, [g_draft, .ref o_bytes, .int v_length, .int r.1, .int r.2, g_start, g_value])), (o_bytes, .inl (y 1, 150, .inl f_bytes))] := by
  unfold p_X4_takeLetters at h
  refine z_enV (by decide) (Nat.le_of_ble_eq_true rfl) ?_
  intro p e s m args below meth c A ls hr K hH hl
  obtain ⟨Q, hQ⟩ : ∃ Q, Q = MQ below (z_Qv D y A [(o, .inr (3, [g_draft, .ref o_bytes, .int v_length, .int r.1, .int r.2, g_start, g_value])), (o_bytes, .inl (y 1, 150, .inl f_bytes))]) args s 0 0 A := ⟨_, rfl⟩
  rw [← hQ]
  have hl : lv_has ls 1 [(0, .ref o)] := hl
  obtain ⟨e2, hlpe2, h⟩ := z_bd_e h
  have KEe2 : ∀ (H : Heap) (locs : List Loc) (ls : Array Slot), z_H D A s.heap [(o, .inr (3, [g_draft, .ref o_bytes, .int v_length, .int e2, .int v_token, g_start, g_value])), (o_bytes, .inl (y 1, 150, .inl f_bytes))] H locs → lv_has ls 1 [(0, .ref o)] → W p l e (zR 1 20) s m args below meth c H locs 0 0 Q (F0 m 39 ls []) := by
    intro H locs ls hH hl
    refine lv_aload_n K.x K.b dX4_takeLetters_39 rfl (lv_at hl 0 rfl) ?_
    refine lv_iconst (v := (1)) K.x K.b dX4_takeLetters_40 (by decide) ?_
    refine z_put K hH 0 (ws' := [(o, .inr (3, [g_draft, .ref o_bytes, .int v_length, .int e2, .int (1 : Int32), g_start, g_value])), (o_bytes, .inl (y 1, 150, .inl f_bytes))]) rfl zin_4 rfl tyX4 tyX4_ok nmX4 4 (by decide) tw_1_167 rfl rfl rfl (Nat.le_of_ble_eq_true rfl) dX4_takeLetters_41 rfl (fun H locs hH => ?_)
    have hr9 := Option.some.inj h
    obtain rfl := hr9
    rw [hQ]
    exact z_retv K hr hH [0, 1] (by decide) rfl dX4_takeLetters_44
  refine z_lp_ind (P := fun (s1 : Int32) => ∀ (H : Heap) (locs : List Loc) (ls : Array Slot), z_H D A s.heap [(o, .inr (3, [g_draft, .ref o_bytes, .int v_length, .int s1, .int v_token, g_start, g_value])), (o_bytes, .inl (y 1, 150, .inl f_bytes))] H locs → lv_has ls 1 [(0, .ref o)] → W p l e (zR 1 20) s m args below meth c H locs 0 0 Q (F0 m 0 ls [])) ?_ _ hlpe2 _ _ _ hH (lv_sub hl [0] rfl)
  clear h hlpe2
  intro s1 x3 h ihe2 hee2 H locs ls hH hl
  refine lv_aload_n K.x K.b dX4_takeLetters_0 rfl (lv_at hl 0 rfl) ?_
  refine z_get K hH 0 rfl zin_4 rfl 3 (by decide) tw_1_166 (v := .int s1) rfl dX4_takeLetters_1 ?_
  refine lv_aload_n K.x K.b dX4_takeLetters_4 rfl (lv_at hl 0 rfl) ?_
  refine z_get K hH 0 rfl zin_4 rfl 2 (by decide) tw_1_165 (v := .int v_length) rfl dX4_takeLetters_5 ?_
  refine lv_icmp_ge (tgt := 39) K.x K.b dX4_takeLetters_8 (by decide) (fun c4 => ?_) (fun c4 => ?_)
  · replace h := z_t c4 h
    obtain rfl := hee2 _ (Option.some.inj h).symm
    exact KEe2 _ _ _ hH (lv_sub hl [0] rfl)
  · replace h := z_f c4 h
    refine lv_aload_n K.x K.b dX4_takeLetters_11 rfl (lv_at hl 0 rfl) ?_
    refine z_get K hH 0 rfl zin_4 rfl 1 (by decide) tw_1_164 (v := .ref o_bytes) rfl dX4_takeLetters_12 ?_
    refine lv_aload_n K.x K.b dX4_takeLetters_15 rfl (lv_at hl 0 rfl) ?_
    refine z_get K hH 0 rfl zin_4 rfl 3 (by decide) tw_1_166 (v := .int s1) rfl dX4_takeLetters_16 ?_
    obtain ⟨g5, h⟩ := z_gd_e h
    refine z_bald K hH 1 (k := s1.toNatClampNeg) rfl g5 rfl dX4_takeLetters_19 ?_
    obtain ⟨x6, ex6, h⟩ := z_lt_e h
    refine z_nm ex6 ?_
    obtain ⟨r7, hr8, h⟩ := z_bd_e h
    refine z_Si K hH hl.1 (c_X4_isLetter l D y x6 r7 hr8) (z_cwS K 1 tw_2_66 tw_2_67 tw_1_6 tw_2_68 hd_X4_isLetter ⟨by decide, by decide⟩) rfl (As := [.int x6]) (rest := []) rfl (Nat.le_of_ble_eq_true rfl) ⟨Nat.zero_le _, Nat.zero_le _⟩ dX4_takeLetters_20 (fun H locs hH => ?_)
    refine lv_if_eq (tgt := 39) K.x K.b dX4_takeLetters_23 (by decide) (fun c9 => ?_) (fun c9 => ?_)
    · replace h := z_t c9 h
      obtain rfl := hee2 _ (Option.some.inj h).symm
      exact KEe2 _ _ _ hH (lv_sub hl [0] rfl)
    · replace h := z_f c9 h
      refine lv_aload_n K.x K.b dX4_takeLetters_26 rfl (lv_at hl 0 rfl) ?_
      refine lv_dup K.x K.b dX4_takeLetters_27 rfl ?_
      refine z_get K hH 0 rfl zin_4 rfl 3 (by decide) tw_1_166 (v := .int s1) rfl dX4_takeLetters_28 ?_
      refine lv_iconst (v := (1)) K.x K.b dX4_takeLetters_31 (by decide) ?_
      refine lv_iadd K.x K.b dX4_takeLetters_32 ?_
      obtain ⟨x10, ex10, h⟩ := z_lt_e h
      refine z_nm ex10 ?_
      refine z_put K hH 0 (ws' := [(o, .inr (3, [g_draft, .ref o_bytes, .int v_length, .int x10, .int v_token, g_start, g_value])), (o_bytes, .inl (y 1, 150, .inl f_bytes))]) rfl zin_4 rfl tyX4 tyX4_ok nmX4 3 (by decide) tw_1_166 rfl rfl rfl (Nat.le_of_ble_eq_true rfl) dX4_takeLetters_33 rfl (fun H locs hH => ?_)
      refine lv_goto (tgt := 0) K.x K.b dX4_takeLetters_36 (by decide) ?_
      exact ihe2 _ (Option.some.inj h).symm _ _ _ hH (lv_sub hl [0] rfl)
def p_X4_isFigure (p1 : Int32) : Option (Int32) :=
  z_bd (α := Int32) (if (p1 < (48 : Int32)) then
  (some (0 : Int32)) else
  (if ((57 : Int32) < p1) then
  (some (0 : Int32)) else
  (some (1 : Int32)))) fun j1 =>
  z_gd (z_bz j1) <|
  some j1
theorem hd_X4_isFigure : yX4_isFigure.cls ≠ "java/lang/invoke/MethodHandle" ∧ yX4_isFigure.cls ≠ "java/lang/invoke/VarHandle" ∧ (parseMethodDescriptor yX4_isFigure.desc).map (fun d => d.parameters.length) = some 1 := by decide +kernel
set_option maxHeartbeats 4000000 in
set_option maxRecDepth 100000 in
theorem c_X4_isFigure (l : Launch) (D : va_G) (y : Nat → ClassId) (p1 : Int32) (r : Int32) (h : p_X4_isFigure p1 = some r) : z_MI l yX4_isFigure cX4_isFigure 1 (some .boolean) 0 0 D y [.int p1] [] r [] := by
  unfold p_X4_isFigure at h
  refine z_enI (by decide) (Nat.le_of_ble_eq_true rfl) ?_
  intro p e s m args below meth c A ls hr K hH hl
  obtain ⟨Q, hQ⟩ : ∃ Q, Q = MQ below (z_Qi D y A r []) args s 0 0 A := ⟨_, rfl⟩
  rw [← hQ]
  have hl : lv_has ls 1 [(0, .int p1)] := hl
  refine lv_iload_n K.x K.b dX4_isFigure_0 rfl (lv_at hl 0 rfl) ?_
  refine lv_bipush (v := (48)) K.x K.b dX4_isFigure_1 (by decide) ?_
  obtain ⟨j1, hj1, h⟩ := z_bd_e h
  have Kj1 : ∀ (H : Heap) (locs : List Loc) (ls : Array Slot), z_H D A s.heap [] H locs → lv_has ls 1 [] → W p l e (zR 0 0) s m args below meth c H locs 0 0 Q (F0 m 17 ls [.int j1]) := by
    intro H locs ls hH hl
    obtain ⟨g2, h⟩ := z_gd_e h
    have hr9 := Option.some.inj h
    obtain rfl := hr9
    rw [hQ]
    exact z_reti K hr hH [] (by decide) rfl rfl (z_bz_e g2) dX4_isFigure_17
  replace h := hj1
  refine lv_icmp_lt (tgt := 16) K.x K.b dX4_isFigure_3 (by decide) (fun c3 => ?_) (fun c3 => ?_)
  · replace h := z_t c3 h
    refine lv_iconst (v := (0)) K.x K.b dX4_isFigure_16 (by decide) ?_
    obtain rfl := Option.some.inj h
    exact Kj1 _ _ _ hH (lv_sub hl [] rfl)
  · replace h := z_f c3 h
    refine lv_iload_n K.x K.b dX4_isFigure_6 rfl (lv_at hl 0 rfl) ?_
    refine lv_bipush (v := (57)) K.x K.b dX4_isFigure_7 (by decide) ?_
    refine lv_icmp_gt (tgt := 16) K.x K.b dX4_isFigure_9 (by decide) (fun c4 => ?_) (fun c4 => ?_)
    · replace h := z_t c4 h
      refine lv_iconst (v := (0)) K.x K.b dX4_isFigure_16 (by decide) ?_
      obtain rfl := Option.some.inj h
      exact Kj1 _ _ _ hH (lv_sub hl [] rfl)
    · replace h := z_f c4 h
      refine lv_iconst (v := (1)) K.x K.b dX4_isFigure_12 (by decide) ?_
      refine lv_goto (tgt := 17) K.x K.b dX4_isFigure_13 (by decide) ?_
      obtain rfl := Option.some.inj h
      exact Kj1 _ _ _ hH (lv_sub hl [] rfl)
noncomputable def p_X4_takeFigures (v_length : Int32) (v_next : Int32) (v_token : Int32) (v_start : Int32) (v_value : Int32) (f_bytes : (Nat → Int32)) : Option (Int32 × Int32 × Int32) :=
  z_bd (z_lp (S := Int32 × Int32) (E := Int32 × Int32) (fun s1 =>
  if (v_length ≤ s1.1) then
  (some (.inr (s1.1, s1.2))) else
  (z_gd (z_in s1.1 150) <|
  z_lt ((f_bytes s1.1.toNatClampNeg)) fun x8 =>
  z_bd (p_X4_isFigure x8) fun r9 =>
  if (r9 = 0) then
  (some (.inr (s1.1, s1.2))) else
  (z_bd (α := Int32) (if ((2 : Int32) ≤ (s1.1 - v_start)) then
  (some s1.2) else
  (z_gd (z_in s1.1 150) <|
  z_lt (((((10 : Int32) * s1.2) + (f_bytes s1.1.toNatClampNeg)) - (48 : Int32))) fun x16 =>
  some x16)) fun j12 =>
  z_lt ((s1.1 + (1 : Int32))) fun x13 =>
  some (.inl (x13, j12))))) (v_next, (0 : Int32))) fun e2 =>
  z_bd (α := Int32) (if ((2 : Int32) < (e2.1 - v_start)) then
  (some (4 : Int32)) else
  (some (2 : Int32))) fun j3 =>
  some (e2.1, j3, e2.2)
theorem hd_X4_takeFigures : yX4_takeFigures.cls = RX4 ∧ yX4_takeFigures.cls ≠ "java/lang/invoke/MethodHandle" ∧ yX4_takeFigures.cls ≠ "java/lang/invoke/VarHandle" ∧ (parseMethodDescriptor yX4_takeFigures.desc).map (fun d => d.parameters.length) = some 0 := by decide +kernel
set_option maxHeartbeats 4000000 in
set_option maxRecDepth 100000 in
theorem c_X4_takeFigures (l : Launch) (D : va_G) (y : Nat → ClassId) (o o_bytes : Nat) (g_draft : Value) (v_length : Int32) (v_next : Int32) (v_token : Int32) (v_start : Int32) (v_value : Int32) (f_bytes : (Nat → Int32)) (r : Int32 × Int32 × Int32) (h : p_X4_takeFigures v_length v_next v_token v_start v_value f_bytes = some r) : z_MV l yX4_takeFigures cX4_takeFigures 1 none 1 20 D y [.ref o] [(o, .inr (3, [g_draft, .ref o_bytes, .int v_length, .int v_next, .int v_token, .int v_start, .int v_value])), (o_bytes, .inl (y 1, 150, .inl f_bytes))] [(o, .inr (3, [g_draft, .ref o_bytes, .int v_length, .int r.1, .int r.2.1, .int v_start, .int r.2.2])), (o_bytes, .inl (y 1, 150, .inl f_bytes))] := by
  unfold p_X4_takeFigures at h
  refine z_enV (by decide) (Nat.le_of_ble_eq_true rfl) ?_
  intro p e s m args below meth c A ls hr K hH hl
  obtain ⟨Q, hQ⟩ : ∃ Q, Q = MQ below (z_Qv D y A [(o, .inr (3, [g_draft, .ref o_bytes, .int v_length, .int r.1, .int r.2.1, .int v_start, .int r.2.2])), (o_bytes, .inl (y 1, 150, .inl f_bytes))]) args s 0 0 A := ⟨_, rfl⟩
  rw [← hQ]
  have hl : lv_has ls 1 [(0, .ref o)] := hl
  refine lv_aload_n K.x K.b dX4_takeFigures_0 rfl (lv_at hl 0 rfl) ?_
  refine lv_iconst (v := (0)) K.x K.b dX4_takeFigures_1 (by decide) ?_
  refine z_put K hH 0 (ws' := [(o, .inr (3, [g_draft, .ref o_bytes, .int v_length, .int v_next, .int v_token, .int v_start, .int (0 : Int32)])), (o_bytes, .inl (y 1, 150, .inl f_bytes))]) rfl zin_4 rfl tyX4 tyX4_ok nmX4 6 (by decide) tw_1_169 rfl rfl rfl (Nat.le_of_ble_eq_true rfl) dX4_takeFigures_2 rfl (fun H locs hH => ?_)
  obtain ⟨e2, hlpe2, h⟩ := z_bd_e h
  have KEe2 : ∀ (H : Heap) (locs : List Loc) (ls : Array Slot), z_H D A s.heap [(o, .inr (3, [g_draft, .ref o_bytes, .int v_length, .int e2.1, .int v_token, .int v_start, .int e2.2])), (o_bytes, .inl (y 1, 150, .inl f_bytes))] H locs → lv_has ls 1 [(0, .ref o)] → W p l e (zR 1 20) s m args below meth c H locs 0 0 Q (F0 m 81 ls []) := by
    intro H locs ls hH hl
    refine lv_aload_n K.x K.b dX4_takeFigures_81 rfl (lv_at hl 0 rfl) ?_
    refine lv_aload_n K.x K.b dX4_takeFigures_82 rfl (lv_at hl 0 rfl) ?_
    refine z_get K hH 0 rfl zin_4 rfl 3 (by decide) tw_1_166 (v := .int e2.1) rfl dX4_takeFigures_83 ?_
    refine lv_aload_n K.x K.b dX4_takeFigures_86 rfl (lv_at hl 0 rfl) ?_
    refine z_get K hH 0 rfl zin_4 rfl 5 (by decide) tw_1_168 (v := .int v_start) rfl dX4_takeFigures_87 ?_
    refine lv_isub K.x K.b dX4_takeFigures_90 ?_
    refine lv_iconst (v := (2)) K.x K.b dX4_takeFigures_91 (by decide) ?_
    obtain ⟨j3, hj3, h⟩ := z_bd_e h
    have Kj3 : ∀ (H : Heap) (locs : List Loc) (ls : Array Slot), z_H D A s.heap [(o, .inr (3, [g_draft, .ref o_bytes, .int v_length, .int e2.1, .int v_token, .int v_start, .int e2.2])), (o_bytes, .inl (y 1, 150, .inl f_bytes))] H locs → lv_has ls 1 [] → W p l e (zR 1 20) s m args below meth c H locs 0 0 Q (F0 m 100 ls [.int j3, .ref o]) := by
      intro H locs ls hH hl
      refine z_put K hH 0 (ws' := [(o, .inr (3, [g_draft, .ref o_bytes, .int v_length, .int e2.1, .int j3, .int v_start, .int e2.2])), (o_bytes, .inl (y 1, 150, .inl f_bytes))]) rfl zin_4 rfl tyX4 tyX4_ok nmX4 4 (by decide) tw_1_167 rfl rfl rfl (Nat.le_of_ble_eq_true rfl) dX4_takeFigures_100 rfl (fun H locs hH => ?_)
      have hr9 := Option.some.inj h
      obtain rfl := hr9
      rw [hQ]
      exact z_retv K hr hH [0, 1] (by decide) rfl dX4_takeFigures_103
    replace h := hj3
    refine lv_icmp_gt (tgt := 99) K.x K.b dX4_takeFigures_92 (by decide) (fun c4 => ?_) (fun c4 => ?_)
    · replace h := z_t c4 h
      refine lv_iconst (v := (4)) K.x K.b dX4_takeFigures_99 (by decide) ?_
      obtain rfl := Option.some.inj h
      exact Kj3 _ _ _ hH (lv_sub hl [] rfl)
    · replace h := z_f c4 h
      refine lv_iconst (v := (2)) K.x K.b dX4_takeFigures_95 (by decide) ?_
      refine lv_goto (tgt := 100) K.x K.b dX4_takeFigures_96 (by decide) ?_
      obtain rfl := Option.some.inj h
      exact Kj3 _ _ _ hH (lv_sub hl [] rfl)
  refine z_lp_ind (P := fun (s1 : Int32 × Int32) => ∀ (H : Heap) (locs : List Loc) (ls : Array Slot), z_H D A s.heap [(o, .inr (3, [g_draft, .ref o_bytes, .int v_length, .int s1.1, .int v_token, .int v_start, .int s1.2])), (o_bytes, .inl (y 1, 150, .inl f_bytes))] H locs → lv_has ls 1 [(0, .ref o)] → W p l e (zR 1 20) s m args below meth c H locs 0 0 Q (F0 m 5 ls [])) ?_ _ hlpe2 _ _ _ hH (lv_sub hl [0] rfl)
  clear h hlpe2
  intro s1 x5 h ihe2 hee2 H locs ls hH hl
  refine lv_aload_n K.x K.b dX4_takeFigures_5 rfl (lv_at hl 0 rfl) ?_
  refine z_get K hH 0 rfl zin_4 rfl 3 (by decide) tw_1_166 (v := .int s1.1) rfl dX4_takeFigures_6 ?_
  refine lv_aload_n K.x K.b dX4_takeFigures_9 rfl (lv_at hl 0 rfl) ?_
  refine z_get K hH 0 rfl zin_4 rfl 2 (by decide) tw_1_165 (v := .int v_length) rfl dX4_takeFigures_10 ?_
  refine lv_icmp_ge (tgt := 81) K.x K.b dX4_takeFigures_13 (by decide) (fun c6 => ?_) (fun c6 => ?_)
  · replace h := z_t c6 h
    obtain rfl := hee2 _ (Option.some.inj h).symm
    exact KEe2 _ _ _ hH (lv_sub hl [0] rfl)
  · replace h := z_f c6 h
    refine lv_aload_n K.x K.b dX4_takeFigures_16 rfl (lv_at hl 0 rfl) ?_
    refine z_get K hH 0 rfl zin_4 rfl 1 (by decide) tw_1_164 (v := .ref o_bytes) rfl dX4_takeFigures_17 ?_
    refine lv_aload_n K.x K.b dX4_takeFigures_20 rfl (lv_at hl 0 rfl) ?_
    refine z_get K hH 0 rfl zin_4 rfl 3 (by decide) tw_1_166 (v := .int s1.1) rfl dX4_takeFigures_21 ?_
    obtain ⟨g7, h⟩ := z_gd_e h
    refine z_bald K hH 1 (k := s1.1.toNatClampNeg) rfl g7 rfl dX4_takeFigures_24 ?_
    obtain ⟨x8, ex8, h⟩ := z_lt_e h
    refine z_nm ex8 ?_
    obtain ⟨r9, hr10, h⟩ := z_bd_e h
    refine z_Si K hH hl.1 (c_X4_isFigure l D y x8 r9 hr10) (z_cwS K 1 tw_2_73 tw_2_74 tw_1_6 tw_2_75 hd_X4_isFigure ⟨by decide, by decide⟩) rfl (As := [.int x8]) (rest := []) rfl (Nat.le_of_ble_eq_true rfl) ⟨Nat.zero_le _, Nat.zero_le _⟩ dX4_takeFigures_25 (fun H locs hH => ?_)
    refine lv_if_eq (tgt := 81) K.x K.b dX4_takeFigures_28 (by decide) (fun c11 => ?_) (fun c11 => ?_)
    · replace h := z_t c11 h
      obtain rfl := hee2 _ (Option.some.inj h).symm
      exact KEe2 _ _ _ hH (lv_sub hl [0] rfl)
    · replace h := z_f c11 h
      refine lv_aload_n K.x K.b dX4_takeFigures_31 rfl (lv_at hl 0 rfl) ?_
      refine z_get K hH 0 rfl zin_4 rfl 3 (by decide) tw_1_166 (v := .int s1.1) rfl dX4_takeFigures_32 ?_
      refine lv_aload_n K.x K.b dX4_takeFigures_35 rfl (lv_at hl 0 rfl) ?_
      refine z_get K hH 0 rfl zin_4 rfl 5 (by decide) tw_1_168 (v := .int v_start) rfl dX4_takeFigures_36 ?_
      refine lv_isub K.x K.b dX4_takeFigures_39 ?_
      refine lv_iconst (v := (2)) K.x K.b dX4_takeFigures_40 (by decide) ?_
      obtain ⟨j12, hj12, h⟩ := z_bd_e h
      have Kj12 : ∀ (H : Heap) (locs : List Loc) (ls : Array Slot), z_H D A s.heap [(o, .inr (3, [g_draft, .ref o_bytes, .int v_length, .int s1.1, .int v_token, .int v_start, .int j12])), (o_bytes, .inl (y 1, 150, .inl f_bytes))] H locs → lv_has ls 1 [(0, .ref o)] → W p l e (zR 1 20) s m args below meth c H locs 0 0 Q (F0 m 68 ls []) := by
        intro H locs ls hH hl
        refine lv_aload_n K.x K.b dX4_takeFigures_68 rfl (lv_at hl 0 rfl) ?_
        refine lv_dup K.x K.b dX4_takeFigures_69 rfl ?_
        refine z_get K hH 0 rfl zin_4 rfl 3 (by decide) tw_1_166 (v := .int s1.1) rfl dX4_takeFigures_70 ?_
        refine lv_iconst (v := (1)) K.x K.b dX4_takeFigures_73 (by decide) ?_
        refine lv_iadd K.x K.b dX4_takeFigures_74 ?_
        obtain ⟨x13, ex13, h⟩ := z_lt_e h
        refine z_nm ex13 ?_
        refine z_put K hH 0 (ws' := [(o, .inr (3, [g_draft, .ref o_bytes, .int v_length, .int x13, .int v_token, .int v_start, .int j12])), (o_bytes, .inl (y 1, 150, .inl f_bytes))]) rfl zin_4 rfl tyX4 tyX4_ok nmX4 3 (by decide) tw_1_166 rfl rfl rfl (Nat.le_of_ble_eq_true rfl) dX4_takeFigures_75 rfl (fun H locs hH => ?_)
        refine lv_goto (tgt := 5) K.x K.b dX4_takeFigures_78 (by decide) ?_
        exact ihe2 _ (Option.some.inj h).symm _ _ _ hH (lv_sub hl [0] rfl)
      replace h := hj12
      refine lv_icmp_ge (tgt := 68) K.x K.b dX4_takeFigures_41 (by decide) (fun c14 => ?_) (fun c14 => ?_)
      · replace h := z_t c14 h
        obtain rfl := Option.some.inj h
        exact Kj12 _ _ _ hH (lv_sub hl [0] rfl)
      · replace h := z_f c14 h
        refine lv_aload_n K.x K.b dX4_takeFigures_44 rfl (lv_at hl 0 rfl) ?_
        refine lv_bipush (v := (10)) K.x K.b dX4_takeFigures_45 (by decide) ?_
        refine lv_aload_n K.x K.b dX4_takeFigures_47 rfl (lv_at hl 0 rfl) ?_
        refine z_get K hH 0 rfl zin_4 rfl 6 (by decide) tw_1_169 (v := .int s1.2) rfl dX4_takeFigures_48 ?_
        refine lv_imul K.x K.b dX4_takeFigures_51 ?_
        refine lv_aload_n K.x K.b dX4_takeFigures_52 rfl (lv_at hl 0 rfl) ?_
        refine z_get K hH 0 rfl zin_4 rfl 1 (by decide) tw_1_164 (v := .ref o_bytes) rfl dX4_takeFigures_53 ?_
        refine lv_aload_n K.x K.b dX4_takeFigures_56 rfl (lv_at hl 0 rfl) ?_
        refine z_get K hH 0 rfl zin_4 rfl 3 (by decide) tw_1_166 (v := .int s1.1) rfl dX4_takeFigures_57 ?_
        obtain ⟨g15, h⟩ := z_gd_e h
        refine z_bald K hH 1 (k := s1.1.toNatClampNeg) rfl g15 rfl dX4_takeFigures_60 ?_
        refine lv_iadd K.x K.b dX4_takeFigures_61 ?_
        refine lv_bipush (v := (48)) K.x K.b dX4_takeFigures_62 (by decide) ?_
        refine lv_isub K.x K.b dX4_takeFigures_64 ?_
        obtain ⟨x16, ex16, h⟩ := z_lt_e h
        refine z_nm ex16 ?_
        refine z_put K hH 0 (ws' := [(o, .inr (3, [g_draft, .ref o_bytes, .int v_length, .int s1.1, .int v_token, .int v_start, .int x16])), (o_bytes, .inl (y 1, 150, .inl f_bytes))]) rfl zin_4 rfl tyX4 tyX4_ok nmX4 6 (by decide) tw_1_169 rfl rfl rfl (Nat.le_of_ble_eq_true rfl) dX4_takeFigures_65 rfl (fun H locs hH => ?_)
        obtain rfl := Option.some.inj h
        exact Kj12 _ _ _ hH (lv_sub hl [0] rfl)
noncomputable def p_X4_takeToken (v_length : Int32) (v_next : Int32) (v_token : Int32) (v_start : Int32) (v_value : Int32) (f_bytes : (Nat → Int32)) : Option (Int32 × Int32 × Int32 × Int32) :=
  z_bd (z_lp (S := Int32) (E := Int32) (fun s1 =>
  if (v_length ≤ s1) then
  (some (.inr s1)) else
  (z_gd (z_in s1 150) <|
  if ((f_bytes s1.toNatClampNeg) = (32 : Int32)) then
  (z_lt ((s1 + (1 : Int32))) fun x27 =>
  some (.inl x27)) else
  (some (.inr s1)))) v_next) fun e2 =>
  z_bd (α := Int32 × Int32 × Int32) (if (e2 < v_length) then
  (z_gd (z_in e2 150) <|
  z_lt ((f_bytes e2.toNatClampNeg)) fun x6 =>
  z_bd (p_X4_isLetter x6) fun r7 =>
  if (r7 = 0) then
  (z_gd (z_in e2 150) <|
  z_lt ((f_bytes e2.toNatClampNeg)) fun x11 =>
  z_bd (p_X4_isFigure x11) fun r12 =>
  if (r12 = 0) then
  (z_gd (z_in e2 150) <|
  z_bd (α := Int32) (if ((f_bytes e2.toNatClampNeg) = (59 : Int32)) then
  (some (3 : Int32)) else
  (some (4 : Int32))) fun j16 =>
  z_lt ((e2 + (1 : Int32))) fun x17 =>
  some (x17, j16, v_value)) else
  (z_bd (p_X4_takeFigures v_length e2 v_token e2 v_value f_bytes) fun r19 =>
  some (r19.1, r19.2.1, r19.2.2))) else
  (z_bd (p_X4_takeLetters v_length e2 v_token f_bytes) fun r21 =>
  some (r21.1, r21.2, v_value))) else
  (some (e2, (0 : Int32), v_value))) fun j3 =>
  some (j3.1, j3.2.1, e2, j3.2.2)
theorem hd_X4_takeToken : yX4_takeToken.cls = RX4 ∧ yX4_takeToken.cls ≠ "java/lang/invoke/MethodHandle" ∧ yX4_takeToken.cls ≠ "java/lang/invoke/VarHandle" ∧ (parseMethodDescriptor yX4_takeToken.desc).map (fun d => d.parameters.length) = some 0 := by decide +kernel
set_option maxHeartbeats 4000000 in
set_option maxRecDepth 100000 in
theorem c_X4_takeToken (l : Launch) (D : va_G) (y : Nat → ClassId) (o o_bytes : Nat) (g_draft : Value) (v_length : Int32) (v_next : Int32) (v_token : Int32) (v_start : Int32) (v_value : Int32) (f_bytes : (Nat → Int32)) (r : Int32 × Int32 × Int32 × Int32) (h : p_X4_takeToken v_length v_next v_token v_start v_value f_bytes = some r) : z_MV l yX4_takeToken cX4_takeToken 1 none 2 40 D y [.ref o] [(o, .inr (3, [g_draft, .ref o_bytes, .int v_length, .int v_next, .int v_token, .int v_start, .int v_value])), (o_bytes, .inl (y 1, 150, .inl f_bytes))] [(o, .inr (3, [g_draft, .ref o_bytes, .int v_length, .int r.1, .int r.2.1, .int r.2.2.1, .int r.2.2.2])), (o_bytes, .inl (y 1, 150, .inl f_bytes))] := by
  unfold p_X4_takeToken at h
  refine z_enV (by decide) (Nat.le_of_ble_eq_true rfl) ?_
  intro p e s m args below meth c A ls hr K hH hl
  obtain ⟨Q, hQ⟩ : ∃ Q, Q = MQ below (z_Qv D y A [(o, .inr (3, [g_draft, .ref o_bytes, .int v_length, .int r.1, .int r.2.1, .int r.2.2.1, .int r.2.2.2])), (o_bytes, .inl (y 1, 150, .inl f_bytes))]) args s 0 0 A := ⟨_, rfl⟩
  rw [← hQ]
  have hl : lv_has ls 1 [(0, .ref o)] := hl
  obtain ⟨e2, hlpe2, h⟩ := z_bd_e h
  have KEe2 : ∀ (H : Heap) (locs : List Loc) (ls : Array Slot), z_H D A s.heap [(o, .inr (3, [g_draft, .ref o_bytes, .int v_length, .int e2, .int v_token, .int v_start, .int v_value])), (o_bytes, .inl (y 1, 150, .inl f_bytes))] H locs → lv_has ls 1 [(0, .ref o)] → W p l e (zR 2 40) s m args below meth c H locs 0 0 Q (F0 m 38 ls []) := by
    intro H locs ls hH hl
    refine lv_aload_n K.x K.b dX4_takeToken_38 rfl (lv_at hl 0 rfl) ?_
    refine lv_aload_n K.x K.b dX4_takeToken_39 rfl (lv_at hl 0 rfl) ?_
    refine z_get K hH 0 rfl zin_4 rfl 3 (by decide) tw_1_166 (v := .int e2) rfl dX4_takeToken_40 ?_
    refine z_put K hH 0 (ws' := [(o, .inr (3, [g_draft, .ref o_bytes, .int v_length, .int e2, .int v_token, .int e2, .int v_value])), (o_bytes, .inl (y 1, 150, .inl f_bytes))]) rfl zin_4 rfl tyX4 tyX4_ok nmX4 5 (by decide) tw_1_168 rfl rfl rfl (Nat.le_of_ble_eq_true rfl) dX4_takeToken_43 rfl (fun H locs hH => ?_)
    refine lv_aload_n K.x K.b dX4_takeToken_46 rfl (lv_at hl 0 rfl) ?_
    refine z_get K hH 0 rfl zin_4 rfl 3 (by decide) tw_1_166 (v := .int e2) rfl dX4_takeToken_47 ?_
    refine lv_aload_n K.x K.b dX4_takeToken_50 rfl (lv_at hl 0 rfl) ?_
    refine z_get K hH 0 rfl zin_4 rfl 2 (by decide) tw_1_165 (v := .int v_length) rfl dX4_takeToken_51 ?_
    obtain ⟨j3, hj3, h⟩ := z_bd_e h
    have Kj3 : ∀ (H : Heap) (locs : List Loc) (ls : Array Slot), z_H D A s.heap [(o, .inr (3, [g_draft, .ref o_bytes, .int v_length, .int j3.1, .int j3.2.1, .int e2, .int j3.2.2])), (o_bytes, .inl (y 1, 150, .inl f_bytes))] H locs → lv_has ls 1 [] → W p l e (zR 2 40) s m args below meth c H locs 0 0 Q (F0 m 142 ls []) := by
      intro H locs ls hH hl
      have hr9 := Option.some.inj h
      obtain rfl := hr9
      rw [hQ]
      exact z_retv K hr hH [0, 1] (by decide) rfl dX4_takeToken_142
    replace h := hj3
    refine lv_icmp_lt (tgt := 65) K.x K.b dX4_takeToken_54 (by decide) (fun c4 => ?_) (fun c4 => ?_)
    · replace h := z_t c4 h
      refine lv_aload_n K.x K.b dX4_takeToken_65 rfl (lv_at hl 0 rfl) ?_
      refine z_get K hH 0 rfl zin_4 rfl 1 (by decide) tw_1_164 (v := .ref o_bytes) rfl dX4_takeToken_66 ?_
      refine lv_aload_n K.x K.b dX4_takeToken_69 rfl (lv_at hl 0 rfl) ?_
      refine z_get K hH 0 rfl zin_4 rfl 3 (by decide) tw_1_166 (v := .int e2) rfl dX4_takeToken_70 ?_
      obtain ⟨g5, h⟩ := z_gd_e h
      refine z_bald K hH 1 (k := e2.toNatClampNeg) rfl g5 rfl dX4_takeToken_73 ?_
      obtain ⟨x6, ex6, h⟩ := z_lt_e h
      refine z_nm ex6 ?_
      obtain ⟨r7, hr8, h⟩ := z_bd_e h
      refine z_Si K hH hl.1 (c_X4_isLetter l D y x6 r7 hr8) (z_cwS K 1 tw_2_66 tw_2_67 tw_1_6 tw_2_68 hd_X4_isLetter ⟨by decide, by decide⟩) rfl (As := [.int x6]) (rest := []) rfl (Nat.le_of_ble_eq_true rfl) ⟨Nat.zero_le _, Nat.zero_le _⟩ dX4_takeToken_74 (fun H locs hH => ?_)
      refine lv_if_eq (tgt := 87) K.x K.b dX4_takeToken_77 (by decide) (fun c9 => ?_) (fun c9 => ?_)
      · replace h := z_t c9 h
        refine lv_aload_n K.x K.b dX4_takeToken_87 rfl (lv_at hl 0 rfl) ?_
        refine z_get K hH 0 rfl zin_4 rfl 1 (by decide) tw_1_164 (v := .ref o_bytes) rfl dX4_takeToken_88 ?_
        refine lv_aload_n K.x K.b dX4_takeToken_91 rfl (lv_at hl 0 rfl) ?_
        refine z_get K hH 0 rfl zin_4 rfl 3 (by decide) tw_1_166 (v := .int e2) rfl dX4_takeToken_92 ?_
        obtain ⟨g10, h⟩ := z_gd_e h
        refine z_bald K hH 1 (k := e2.toNatClampNeg) rfl g10 rfl dX4_takeToken_95 ?_
        obtain ⟨x11, ex11, h⟩ := z_lt_e h
        refine z_nm ex11 ?_
        obtain ⟨r12, hr13, h⟩ := z_bd_e h
        refine z_Si K hH hl.1 (c_X4_isFigure l D y x11 r12 hr13) (z_cwS K 1 tw_2_73 tw_2_74 tw_1_6 tw_2_75 hd_X4_isFigure ⟨by decide, by decide⟩) rfl (As := [.int x11]) (rest := []) rfl (Nat.le_of_ble_eq_true rfl) ⟨Nat.zero_le _, Nat.zero_le _⟩ dX4_takeToken_96 (fun H locs hH => ?_)
        refine lv_if_eq (tgt := 109) K.x K.b dX4_takeToken_99 (by decide) (fun c14 => ?_) (fun c14 => ?_)
        · replace h := z_t c14 h
          refine lv_aload_n K.x K.b dX4_takeToken_109 rfl (lv_at hl 0 rfl) ?_
          refine lv_aload_n K.x K.b dX4_takeToken_110 rfl (lv_at hl 0 rfl) ?_
          refine z_get K hH 0 rfl zin_4 rfl 1 (by decide) tw_1_164 (v := .ref o_bytes) rfl dX4_takeToken_111 ?_
          refine lv_aload_n K.x K.b dX4_takeToken_114 rfl (lv_at hl 0 rfl) ?_
          refine z_get K hH 0 rfl zin_4 rfl 3 (by decide) tw_1_166 (v := .int e2) rfl dX4_takeToken_115 ?_
          obtain ⟨g15, h⟩ := z_gd_e h
          refine z_bald K hH 1 (k := e2.toNatClampNeg) rfl g15 rfl dX4_takeToken_118 ?_
          refine lv_bipush (v := (59)) K.x K.b dX4_takeToken_119 (by decide) ?_
          obtain ⟨j16, hj16, h⟩ := z_bd_e h
          have Kj16 : ∀ (H : Heap) (locs : List Loc) (ls : Array Slot), z_H D A s.heap [(o, .inr (3, [g_draft, .ref o_bytes, .int v_length, .int e2, .int v_token, .int e2, .int v_value])), (o_bytes, .inl (y 1, 150, .inl f_bytes))] H locs → lv_has ls 1 [(0, .ref o)] → W p l e (zR 2 40) s m args below meth c H locs 0 0 Q (F0 m 129 ls [.int j16, .ref o]) := by
            intro H locs ls hH hl
            refine z_put K hH 0 (ws' := [(o, .inr (3, [g_draft, .ref o_bytes, .int v_length, .int e2, .int j16, .int e2, .int v_value])), (o_bytes, .inl (y 1, 150, .inl f_bytes))]) rfl zin_4 rfl tyX4 tyX4_ok nmX4 4 (by decide) tw_1_167 rfl rfl rfl (Nat.le_of_ble_eq_true rfl) dX4_takeToken_129 rfl (fun H locs hH => ?_)
            refine lv_aload_n K.x K.b dX4_takeToken_132 rfl (lv_at hl 0 rfl) ?_
            refine lv_dup K.x K.b dX4_takeToken_133 rfl ?_
            refine z_get K hH 0 rfl zin_4 rfl 3 (by decide) tw_1_166 (v := .int e2) rfl dX4_takeToken_134 ?_
            refine lv_iconst (v := (1)) K.x K.b dX4_takeToken_137 (by decide) ?_
            refine lv_iadd K.x K.b dX4_takeToken_138 ?_
            obtain ⟨x17, ex17, h⟩ := z_lt_e h
            refine z_nm ex17 ?_
            refine z_put K hH 0 (ws' := [(o, .inr (3, [g_draft, .ref o_bytes, .int v_length, .int x17, .int j16, .int e2, .int v_value])), (o_bytes, .inl (y 1, 150, .inl f_bytes))]) rfl zin_4 rfl tyX4 tyX4_ok nmX4 3 (by decide) tw_1_166 rfl rfl rfl (Nat.le_of_ble_eq_true rfl) dX4_takeToken_139 rfl (fun H locs hH => ?_)
            obtain rfl := Option.some.inj h
            exact Kj3 _ _ _ hH (lv_sub hl [] rfl)
          replace h := hj16
          refine lv_icmp_ne (tgt := 128) K.x K.b dX4_takeToken_121 (by decide) (fun c18 => ?_) (fun c18 => ?_)
          · replace h := z_f c18 h
            refine lv_iconst (v := (4)) K.x K.b dX4_takeToken_128 (by decide) ?_
            obtain rfl := Option.some.inj h
            exact Kj16 _ _ _ hH (lv_sub hl [0] rfl)
          · replace h := z_t c18 h
            refine lv_iconst (v := (3)) K.x K.b dX4_takeToken_124 (by decide) ?_
            refine lv_goto (tgt := 129) K.x K.b dX4_takeToken_125 (by decide) ?_
            obtain rfl := Option.some.inj h
            exact Kj16 _ _ _ hH (lv_sub hl [0] rfl)
        · replace h := z_f c14 h
          refine lv_aload_n K.x K.b dX4_takeToken_102 rfl (lv_at hl 0 rfl) ?_
          obtain ⟨r19, hr20, h⟩ := z_bd_e h
          refine z_Vv K hH hl.1 (c_X4_takeFigures l D y o o_bytes (g_draft) v_length e2 v_token e2 v_value f_bytes r19 hr20) (z_cwV K 0 tw_2_76 tw_2_78 tw_0_4 tw_1_6 tw_2_79 hd_X4_takeFigures ⟨by decide, by decide⟩) [0, 1] [] rfl (wr := []) rfl rfl rfl (by decide) rfl rfl rfl (As := []) (rest := []) rfl (Nat.le_of_ble_eq_true rfl) ⟨Nat.zero_le _, Nat.zero_le _⟩ dX4_takeToken_103 (ws' := [(o, .inr (3, [g_draft, .ref o_bytes, .int v_length, .int r19.1, .int r19.2.1, .int e2, .int r19.2.2])), (o_bytes, .inl (y 1, 150, .inl f_bytes))]) rfl (fun H locs hH => ?_)
          refine lv_goto (tgt := 142) K.x K.b dX4_takeToken_106 (by decide) ?_
          obtain rfl := Option.some.inj h
          exact Kj3 _ _ _ hH (lv_sub hl [] rfl)
      · replace h := z_f c9 h
        refine lv_aload_n K.x K.b dX4_takeToken_80 rfl (lv_at hl 0 rfl) ?_
        obtain ⟨r21, hr22, h⟩ := z_bd_e h
        refine z_Vv K hH hl.1 (c_X4_takeLetters l D y o o_bytes (g_draft) (.int e2) (.int v_value) v_length e2 v_token f_bytes r21 hr22) (z_cwV K 0 tw_2_69 tw_2_71 tw_0_3 tw_1_6 tw_2_72 hd_X4_takeLetters ⟨by decide, by decide⟩) [0, 1] [] rfl (wr := []) rfl rfl rfl (by decide) rfl rfl rfl (As := []) (rest := []) rfl (Nat.le_of_ble_eq_true rfl) ⟨Nat.zero_le _, Nat.zero_le _⟩ dX4_takeToken_81 (ws' := [(o, .inr (3, [g_draft, .ref o_bytes, .int v_length, .int r21.1, .int r21.2, .int e2, .int v_value])), (o_bytes, .inl (y 1, 150, .inl f_bytes))]) rfl (fun H locs hH => ?_)
        refine lv_goto (tgt := 142) K.x K.b dX4_takeToken_84 (by decide) ?_
        obtain rfl := Option.some.inj h
        exact Kj3 _ _ _ hH (lv_sub hl [] rfl)
    · replace h := z_f c4 h
      refine lv_aload_n K.x K.b dX4_takeToken_57 rfl (lv_at hl 0 rfl) ?_
      refine lv_iconst (v := (0)) K.x K.b dX4_takeToken_58 (by decide) ?_
      refine z_put K hH 0 (ws' := [(o, .inr (3, [g_draft, .ref o_bytes, .int v_length, .int e2, .int (0 : Int32), .int e2, .int v_value])), (o_bytes, .inl (y 1, 150, .inl f_bytes))]) rfl zin_4 rfl tyX4 tyX4_ok nmX4 4 (by decide) tw_1_167 rfl rfl rfl (Nat.le_of_ble_eq_true rfl) dX4_takeToken_59 rfl (fun H locs hH => ?_)
      refine lv_goto (tgt := 142) K.x K.b dX4_takeToken_62 (by decide) ?_
      obtain rfl := Option.some.inj h
      exact Kj3 _ _ _ hH (lv_sub hl [] rfl)
  refine z_lp_ind (P := fun (s1 : Int32) => ∀ (H : Heap) (locs : List Loc) (ls : Array Slot), z_H D A s.heap [(o, .inr (3, [g_draft, .ref o_bytes, .int v_length, .int s1, .int v_token, .int v_start, .int v_value])), (o_bytes, .inl (y 1, 150, .inl f_bytes))] H locs → lv_has ls 1 [(0, .ref o)] → W p l e (zR 2 40) s m args below meth c H locs 0 0 Q (F0 m 0 ls [])) ?_ _ hlpe2 _ _ _ hH (lv_sub hl [0] rfl)
  clear h hlpe2
  intro s1 x23 h ihe2 hee2 H locs ls hH hl
  refine lv_aload_n K.x K.b dX4_takeToken_0 rfl (lv_at hl 0 rfl) ?_
  refine z_get K hH 0 rfl zin_4 rfl 3 (by decide) tw_1_166 (v := .int s1) rfl dX4_takeToken_1 ?_
  refine lv_aload_n K.x K.b dX4_takeToken_4 rfl (lv_at hl 0 rfl) ?_
  refine z_get K hH 0 rfl zin_4 rfl 2 (by decide) tw_1_165 (v := .int v_length) rfl dX4_takeToken_5 ?_
  refine lv_icmp_ge (tgt := 38) K.x K.b dX4_takeToken_8 (by decide) (fun c24 => ?_) (fun c24 => ?_)
  · replace h := z_t c24 h
    obtain rfl := hee2 _ (Option.some.inj h).symm
    exact KEe2 _ _ _ hH (lv_sub hl [0] rfl)
  · replace h := z_f c24 h
    refine lv_aload_n K.x K.b dX4_takeToken_11 rfl (lv_at hl 0 rfl) ?_
    refine z_get K hH 0 rfl zin_4 rfl 1 (by decide) tw_1_164 (v := .ref o_bytes) rfl dX4_takeToken_12 ?_
    refine lv_aload_n K.x K.b dX4_takeToken_15 rfl (lv_at hl 0 rfl) ?_
    refine z_get K hH 0 rfl zin_4 rfl 3 (by decide) tw_1_166 (v := .int s1) rfl dX4_takeToken_16 ?_
    obtain ⟨g25, h⟩ := z_gd_e h
    refine z_bald K hH 1 (k := s1.toNatClampNeg) rfl g25 rfl dX4_takeToken_19 ?_
    refine lv_bipush (v := (32)) K.x K.b dX4_takeToken_20 (by decide) ?_
    refine lv_icmp_ne (tgt := 38) K.x K.b dX4_takeToken_22 (by decide) (fun c26 => ?_) (fun c26 => ?_)
    · replace h := z_f c26 h
      obtain rfl := hee2 _ (Option.some.inj h).symm
      exact KEe2 _ _ _ hH (lv_sub hl [0] rfl)
    · replace h := z_t c26 h
      refine lv_aload_n K.x K.b dX4_takeToken_25 rfl (lv_at hl 0 rfl) ?_
      refine lv_dup K.x K.b dX4_takeToken_26 rfl ?_
      refine z_get K hH 0 rfl zin_4 rfl 3 (by decide) tw_1_166 (v := .int s1) rfl dX4_takeToken_27 ?_
      refine lv_iconst (v := (1)) K.x K.b dX4_takeToken_30 (by decide) ?_
      refine lv_iadd K.x K.b dX4_takeToken_31 ?_
      obtain ⟨x27, ex27, h⟩ := z_lt_e h
      refine z_nm ex27 ?_
      refine z_put K hH 0 (ws' := [(o, .inr (3, [g_draft, .ref o_bytes, .int v_length, .int x27, .int v_token, .int v_start, .int v_value])), (o_bytes, .inl (y 1, 150, .inl f_bytes))]) rfl zin_4 rfl tyX4 tyX4_ok nmX4 3 (by decide) tw_1_166 rfl rfl rfl (Nat.le_of_ble_eq_true rfl) dX4_takeToken_32 rfl (fun H locs hH => ?_)
      refine lv_goto (tgt := 0) K.x K.b dX4_takeToken_35 (by decide) ?_
      exact ihe2 _ (Option.some.inj h).symm _ _ _ hH (lv_sub hl [0] rfl)
noncomputable def p_X4_takeStop (v_length : Int32) (v_next : Int32) (v_token : Int32) (v_start : Int32) (v_value : Int32) (f_bytes : (Nat → Int32)) : Option (Int32 × Int32 × Int32 × Int32 × Int32) :=
  z_bd (p_X4_takeToken v_length v_next v_token v_start v_value f_bytes) fun r1 =>
  z_bd (α := Int32) (if (r1.2.1 = (3 : Int32)) then
  (some (1 : Int32)) else
  (some (0 : Int32))) fun j3 =>
  z_gd (z_bz j3) <|
  some (j3, r1.1, r1.2.1, r1.2.2.1, r1.2.2.2)
theorem hd_X4_takeStop : yX4_takeStop.cls = RX4 ∧ yX4_takeStop.cls ≠ "java/lang/invoke/MethodHandle" ∧ yX4_takeStop.cls ≠ "java/lang/invoke/VarHandle" ∧ (parseMethodDescriptor yX4_takeStop.desc).map (fun d => d.parameters.length) = some 0 := by decide +kernel
set_option maxHeartbeats 4000000 in
set_option maxRecDepth 100000 in
theorem c_X4_takeStop (l : Launch) (D : va_G) (y : Nat → ClassId) (o o_bytes : Nat) (g_draft : Value) (v_length : Int32) (v_next : Int32) (v_token : Int32) (v_start : Int32) (v_value : Int32) (f_bytes : (Nat → Int32)) (r : Int32 × Int32 × Int32 × Int32 × Int32) (h : p_X4_takeStop v_length v_next v_token v_start v_value f_bytes = some r) : z_MI l yX4_takeStop cX4_takeStop 1 (some .boolean) 3 60 D y [.ref o] [(o, .inr (3, [g_draft, .ref o_bytes, .int v_length, .int v_next, .int v_token, .int v_start, .int v_value])), (o_bytes, .inl (y 1, 150, .inl f_bytes))] r.1 [(o, .inr (3, [g_draft, .ref o_bytes, .int v_length, .int r.2.1, .int r.2.2.1, .int r.2.2.2.1, .int r.2.2.2.2])), (o_bytes, .inl (y 1, 150, .inl f_bytes))] := by
  unfold p_X4_takeStop at h
  refine z_enI (by decide) (Nat.le_of_ble_eq_true rfl) ?_
  intro p e s m args below meth c A ls hr K hH hl
  obtain ⟨Q, hQ⟩ : ∃ Q, Q = MQ below (z_Qi D y A r.1 [(o, .inr (3, [g_draft, .ref o_bytes, .int v_length, .int r.2.1, .int r.2.2.1, .int r.2.2.2.1, .int r.2.2.2.2])), (o_bytes, .inl (y 1, 150, .inl f_bytes))]) args s 0 0 A := ⟨_, rfl⟩
  rw [← hQ]
  have hl : lv_has ls 1 [(0, .ref o)] := hl
  refine lv_aload_n K.x K.b dX4_takeStop_0 rfl (lv_at hl 0 rfl) ?_
  obtain ⟨r1, hr2, h⟩ := z_bd_e h
  refine z_Vv K hH hl.1 (c_X4_takeToken l D y o o_bytes (g_draft) v_length v_next v_token v_start v_value f_bytes r1 hr2) (z_cwV K 0 tw_2_62 tw_2_64 tw_0_2 tw_1_6 tw_2_65 hd_X4_takeToken ⟨by decide, by decide⟩) [0, 1] [] rfl (wr := []) rfl rfl rfl (by decide) rfl rfl rfl (As := []) (rest := []) rfl (Nat.le_of_ble_eq_true rfl) ⟨Nat.zero_le _, Nat.zero_le _⟩ dX4_takeStop_1 (ws' := [(o, .inr (3, [g_draft, .ref o_bytes, .int v_length, .int r1.1, .int r1.2.1, .int r1.2.2.1, .int r1.2.2.2])), (o_bytes, .inl (y 1, 150, .inl f_bytes))]) rfl (fun H locs hH => ?_)
  refine lv_aload_n K.x K.b dX4_takeStop_4 rfl (lv_at hl 0 rfl) ?_
  refine z_get K hH 0 rfl zin_4 rfl 4 (by decide) tw_1_167 (v := .int r1.2.1) rfl dX4_takeStop_5 ?_
  refine lv_iconst (v := (3)) K.x K.b dX4_takeStop_8 (by decide) ?_
  obtain ⟨j3, hj3, h⟩ := z_bd_e h
  have Kj3 : ∀ (H : Heap) (locs : List Loc) (ls : Array Slot), z_H D A s.heap [(o, .inr (3, [g_draft, .ref o_bytes, .int v_length, .int r1.1, .int r1.2.1, .int r1.2.2.1, .int r1.2.2.2])), (o_bytes, .inl (y 1, 150, .inl f_bytes))] H locs → lv_has ls 1 [] → W p l e (zR 3 60) s m args below meth c H locs 0 0 Q (F0 m 17 ls [.int j3]) := by
    intro H locs ls hH hl
    obtain ⟨g4, h⟩ := z_gd_e h
    have hr9 := Option.some.inj h
    obtain rfl := hr9
    rw [hQ]
    exact z_reti K hr hH [0, 1] (by decide) rfl rfl (z_bz_e g4) dX4_takeStop_17
  replace h := hj3
  refine lv_icmp_ne (tgt := 16) K.x K.b dX4_takeStop_9 (by decide) (fun c5 => ?_) (fun c5 => ?_)
  · replace h := z_f c5 h
    refine lv_iconst (v := (0)) K.x K.b dX4_takeStop_16 (by decide) ?_
    obtain rfl := Option.some.inj h
    exact Kj3 _ _ _ hH (lv_sub hl [] rfl)
  · replace h := z_t c5 h
    refine lv_iconst (v := (1)) K.x K.b dX4_takeStop_12 (by decide) ?_
    refine lv_goto (tgt := 17) K.x K.b dX4_takeStop_13 (by decide) ?_
    obtain rfl := Option.some.inj h
    exact Kj3 _ _ _ hH (lv_sub hl [] rfl)
noncomputable def p_X4_takeNumber (v_length : Int32) (v_next : Int32) (v_token : Int32) (v_start : Int32) (v_value : Int32) (f_bytes : (Nat → Int32)) (p1 : Int32) (p2 : Int32) : Option (Int32 × Int32 × Int32 × Int32 × Int32) :=
  z_bd (p_X4_takeToken v_length v_next v_token v_start v_value f_bytes) fun r1 =>
  z_bd (α := Int32) (if (r1.2.1 = (2 : Int32)) then
  (if (r1.2.2.2 < p1) then
  (some (0 : Int32)) else
  (if (p2 < r1.2.2.2) then
  (some (0 : Int32)) else
  (some (1 : Int32)))) else
  (some (0 : Int32))) fun j3 =>
  z_gd (z_bz j3) <|
  some (j3, r1.1, r1.2.1, r1.2.2.1, r1.2.2.2)
theorem hd_X4_takeNumber : yX4_takeNumber.cls = RX4 ∧ yX4_takeNumber.cls ≠ "java/lang/invoke/MethodHandle" ∧ yX4_takeNumber.cls ≠ "java/lang/invoke/VarHandle" ∧ (parseMethodDescriptor yX4_takeNumber.desc).map (fun d => d.parameters.length) = some 2 := by decide +kernel
set_option maxHeartbeats 4000000 in
set_option maxRecDepth 100000 in
theorem c_X4_takeNumber (l : Launch) (D : va_G) (y : Nat → ClassId) (o o_bytes : Nat) (g_draft : Value) (v_length : Int32) (v_next : Int32) (v_token : Int32) (v_start : Int32) (v_value : Int32) (f_bytes : (Nat → Int32)) (p1 : Int32) (p2 : Int32) (r : Int32 × Int32 × Int32 × Int32 × Int32) (h : p_X4_takeNumber v_length v_next v_token v_start v_value f_bytes p1 p2 = some r) : z_MI l yX4_takeNumber cX4_takeNumber 3 (some .boolean) 3 60 D y [.ref o, .int p1, .int p2] [(o, .inr (3, [g_draft, .ref o_bytes, .int v_length, .int v_next, .int v_token, .int v_start, .int v_value])), (o_bytes, .inl (y 1, 150, .inl f_bytes))] r.1 [(o, .inr (3, [g_draft, .ref o_bytes, .int v_length, .int r.2.1, .int r.2.2.1, .int r.2.2.2.1, .int r.2.2.2.2])), (o_bytes, .inl (y 1, 150, .inl f_bytes))] := by
  unfold p_X4_takeNumber at h
  refine z_enI (by decide) (Nat.le_of_ble_eq_true rfl) ?_
  intro p e s m args below meth c A ls hr K hH hl
  obtain ⟨Q, hQ⟩ : ∃ Q, Q = MQ below (z_Qi D y A r.1 [(o, .inr (3, [g_draft, .ref o_bytes, .int v_length, .int r.2.1, .int r.2.2.1, .int r.2.2.2.1, .int r.2.2.2.2])), (o_bytes, .inl (y 1, 150, .inl f_bytes))]) args s 0 0 A := ⟨_, rfl⟩
  rw [← hQ]
  have hl : lv_has ls 3 [(0, .ref o), (1, .int p1), (2, .int p2)] := hl
  refine lv_aload_n K.x K.b dX4_takeNumber_0 rfl (lv_at hl 0 rfl) ?_
  obtain ⟨r1, hr2, h⟩ := z_bd_e h
  refine z_Vv K hH hl.1 (c_X4_takeToken l D y o o_bytes (g_draft) v_length v_next v_token v_start v_value f_bytes r1 hr2) (z_cwV K 0 tw_2_62 tw_2_64 tw_0_2 tw_1_6 tw_2_65 hd_X4_takeToken ⟨by decide, by decide⟩) [0, 1] [] rfl (wr := []) rfl rfl rfl (by decide) rfl rfl rfl (As := []) (rest := []) rfl (Nat.le_of_ble_eq_true rfl) ⟨Nat.zero_le _, Nat.zero_le _⟩ dX4_takeNumber_1 (ws' := [(o, .inr (3, [g_draft, .ref o_bytes, .int v_length, .int r1.1, .int r1.2.1, .int r1.2.2.1, .int r1.2.2.2])), (o_bytes, .inl (y 1, 150, .inl f_bytes))]) rfl (fun H locs hH => ?_)
  refine lv_aload_n K.x K.b dX4_takeNumber_4 rfl (lv_at hl 0 rfl) ?_
  refine z_get K hH 0 rfl zin_4 rfl 4 (by decide) tw_1_167 (v := .int r1.2.1) rfl dX4_takeNumber_5 ?_
  refine lv_iconst (v := (2)) K.x K.b dX4_takeNumber_8 (by decide) ?_
  obtain ⟨j3, hj3, h⟩ := z_bd_e h
  have Kj3 : ∀ (H : Heap) (locs : List Loc) (ls : Array Slot), z_H D A s.heap [(o, .inr (3, [g_draft, .ref o_bytes, .int v_length, .int r1.1, .int r1.2.1, .int r1.2.2.1, .int r1.2.2.2])), (o_bytes, .inl (y 1, 150, .inl f_bytes))] H locs → lv_has ls 3 [] → W p l e (zR 3 60) s m args below meth c H locs 0 0 Q (F0 m 33 ls [.int j3]) := by
    intro H locs ls hH hl
    obtain ⟨g4, h⟩ := z_gd_e h
    have hr9 := Option.some.inj h
    obtain rfl := hr9
    rw [hQ]
    exact z_reti K hr hH [0, 1] (by decide) rfl rfl (z_bz_e g4) dX4_takeNumber_33
  replace h := hj3
  refine lv_icmp_ne (tgt := 32) K.x K.b dX4_takeNumber_9 (by decide) (fun c5 => ?_) (fun c5 => ?_)
  · replace h := z_f c5 h
    refine lv_iconst (v := (0)) K.x K.b dX4_takeNumber_32 (by decide) ?_
    obtain rfl := Option.some.inj h
    exact Kj3 _ _ _ hH (lv_sub hl [] rfl)
  · replace h := z_t c5 h
    refine lv_aload_n K.x K.b dX4_takeNumber_12 rfl (lv_at hl 0 rfl) ?_
    refine z_get K hH 0 rfl zin_4 rfl 6 (by decide) tw_1_169 (v := .int r1.2.2.2) rfl dX4_takeNumber_13 ?_
    refine lv_iload_n K.x K.b dX4_takeNumber_16 rfl (lv_at hl 1 rfl) ?_
    refine lv_icmp_lt (tgt := 32) K.x K.b dX4_takeNumber_17 (by decide) (fun c6 => ?_) (fun c6 => ?_)
    · replace h := z_t c6 h
      refine lv_iconst (v := (0)) K.x K.b dX4_takeNumber_32 (by decide) ?_
      obtain rfl := Option.some.inj h
      exact Kj3 _ _ _ hH (lv_sub hl [] rfl)
    · replace h := z_f c6 h
      refine lv_aload_n K.x K.b dX4_takeNumber_20 rfl (lv_at hl 0 rfl) ?_
      refine z_get K hH 0 rfl zin_4 rfl 6 (by decide) tw_1_169 (v := .int r1.2.2.2) rfl dX4_takeNumber_21 ?_
      refine lv_iload_n K.x K.b dX4_takeNumber_24 rfl (lv_at hl 2 rfl) ?_
      refine lv_icmp_gt (tgt := 32) K.x K.b dX4_takeNumber_25 (by decide) (fun c7 => ?_) (fun c7 => ?_)
      · replace h := z_t c7 h
        refine lv_iconst (v := (0)) K.x K.b dX4_takeNumber_32 (by decide) ?_
        obtain rfl := Option.some.inj h
        exact Kj3 _ _ _ hH (lv_sub hl [] rfl)
      · replace h := z_f c7 h
        refine lv_iconst (v := (1)) K.x K.b dX4_takeNumber_28 (by decide) ?_
        refine lv_goto (tgt := 33) K.x K.b dX4_takeNumber_29 (by decide) ?_
        obtain rfl := Option.some.inj h
        exact Kj3 _ _ _ hH (lv_sub hl [] rfl)
noncomputable def p_X4_takePlace (v_length : Int32) (v_next : Int32) (v_token : Int32) (v_start : Int32) (v_value : Int32) (v_draft_places : Int32) (v_draft_pasts : Int32) (f_draft_placeKind : (Nat → Int32)) (f_draft_placeX : (Nat → Int32)) (f_draft_placeY : (Nat → Int32)) (f_bytes : (Nat → Int32)) : Option (Int32 × Int32 × Int32 × Int32 × Int32 × Int32 × Int32 × (Nat → Int32) × (Nat → Int32) × (Nat → Int32)) :=
  if ((7 : Int32) ≤ v_draft_places) then
  (some ((0 : Int32), v_next, v_token, v_start, v_value, v_draft_places, v_draft_pasts, f_draft_placeKind, f_draft_placeX, f_draft_placeY)) else
  (z_bd (p_X4_takeNumber v_length v_next v_token v_start v_value f_bytes (0 : Int32) (5 : Int32)) fun r2 =>
  if (r2.1 = 0) then
  (some ((0 : Int32), r2.2.1, r2.2.2.1, r2.2.2.2.1, r2.2.2.2.2, v_draft_places, v_draft_pasts, f_draft_placeKind, f_draft_placeX, f_draft_placeY)) else
  (z_bd (p_X4_takeNumber v_length r2.2.1 r2.2.2.1 r2.2.2.2.1 r2.2.2.2.2 f_bytes (0 : Int32) (9 : Int32)) fun r5 =>
  if (r5.1 = 0) then
  (some ((0 : Int32), r5.2.1, r5.2.2.1, r5.2.2.2.1, r5.2.2.2.2, v_draft_places, v_draft_pasts, f_draft_placeKind, f_draft_placeX, f_draft_placeY)) else
  (z_bd (p_X4_takeNumber v_length r5.2.1 r5.2.2.1 r5.2.2.2.1 r5.2.2.2.2 f_bytes (0 : Int32) (9 : Int32)) fun r8 =>
  if (r8.1 = 0) then
  (some ((0 : Int32), r8.2.1, r8.2.2.1, r8.2.2.2.1, r8.2.2.2.2, v_draft_places, v_draft_pasts, f_draft_placeKind, f_draft_placeX, f_draft_placeY)) else
  (z_bd (p_X0_addPlace v_draft_places v_draft_pasts f_draft_placeKind f_draft_placeX f_draft_placeY r2.2.2.2.2 r5.2.2.2.2 r8.2.2.2.2) fun r11 =>
  z_bd (p_X4_takeStop v_length r8.2.1 r8.2.2.1 r8.2.2.2.1 r8.2.2.2.2 f_bytes) fun r13 =>
  z_gd (z_bz r13.1) <|
  some (r13.1, r13.2.1, r13.2.2.1, r13.2.2.2.1, r13.2.2.2.2, r11.2.1, r11.2.2.1, r11.2.2.2.1, r11.2.2.2.2.1, r11.2.2.2.2.2)))))
theorem hd_X4_takePlace : yX4_takePlace.cls = RX4 ∧ yX4_takePlace.cls ≠ "java/lang/invoke/MethodHandle" ∧ yX4_takePlace.cls ≠ "java/lang/invoke/VarHandle" ∧ (parseMethodDescriptor yX4_takePlace.desc).map (fun d => d.parameters.length) = some 0 := by decide +kernel
set_option maxHeartbeats 4000000 in
set_option maxRecDepth 100000 in
theorem c_X4_takePlace (l : Launch) (D : va_G) (y : Nat → ClassId) (o o_draft o_draft_placeKind o_draft_placeX o_draft_placeY o_bytes : Nat) (g_draft_crowKind g_draft_crows g_draft_now g_draft_past g_draft_notes g_draft_marks : Value) (v_length : Int32) (v_next : Int32) (v_token : Int32) (v_start : Int32) (v_value : Int32) (v_draft_places : Int32) (v_draft_pasts : Int32) (f_draft_placeKind : (Nat → Int32)) (f_draft_placeX : (Nat → Int32)) (f_draft_placeY : (Nat → Int32)) (f_bytes : (Nat → Int32)) (r : Int32 × Int32 × Int32 × Int32 × Int32 × Int32 × Int32 × (Nat → Int32) × (Nat → Int32) × (Nat → Int32)) (h : p_X4_takePlace v_length v_next v_token v_start v_value v_draft_places v_draft_pasts f_draft_placeKind f_draft_placeX f_draft_placeY f_bytes = some r) : z_MI l yX4_takePlace cX4_takePlace 3 (some .boolean) 4 82 D y [.ref o] [(o, .inr (3, [.ref o_draft, .ref o_bytes, .int v_length, .int v_next, .int v_token, .int v_start, .int v_value])), (o_draft, .inr (0, [.ref o_draft_placeKind, .ref o_draft_placeX, .ref o_draft_placeY, .int v_draft_places, g_draft_crowKind, g_draft_crows, g_draft_now, g_draft_past, .int v_draft_pasts, g_draft_notes, g_draft_marks])), (o_draft_placeKind, .inl (y 0, 7, .inl f_draft_placeKind)), (o_draft_placeX, .inl (y 0, 7, .inl f_draft_placeX)), (o_draft_placeY, .inl (y 0, 7, .inl f_draft_placeY)), (o_bytes, .inl (y 1, 150, .inl f_bytes))] r.1 [(o, .inr (3, [.ref o_draft, .ref o_bytes, .int v_length, .int r.2.1, .int r.2.2.1, .int r.2.2.2.1, .int r.2.2.2.2.1])), (o_draft, .inr (0, [.ref o_draft_placeKind, .ref o_draft_placeX, .ref o_draft_placeY, .int r.2.2.2.2.2.1, g_draft_crowKind, g_draft_crows, g_draft_now, g_draft_past, .int r.2.2.2.2.2.2.1, g_draft_notes, g_draft_marks])), (o_draft_placeKind, .inl (y 0, 7, .inl r.2.2.2.2.2.2.2.1)), (o_draft_placeX, .inl (y 0, 7, .inl r.2.2.2.2.2.2.2.2.1)), (o_draft_placeY, .inl (y 0, 7, .inl r.2.2.2.2.2.2.2.2.2)), (o_bytes, .inl (y 1, 150, .inl f_bytes))] := by
  unfold p_X4_takePlace at h
  refine z_enI (by decide) (Nat.le_of_ble_eq_true rfl) ?_
  intro p e s m args below meth c A ls hr K hH hl
  obtain ⟨Q, hQ⟩ : ∃ Q, Q = MQ below (z_Qi D y A r.1 [(o, .inr (3, [.ref o_draft, .ref o_bytes, .int v_length, .int r.2.1, .int r.2.2.1, .int r.2.2.2.1, .int r.2.2.2.2.1])), (o_draft, .inr (0, [.ref o_draft_placeKind, .ref o_draft_placeX, .ref o_draft_placeY, .int r.2.2.2.2.2.1, g_draft_crowKind, g_draft_crows, g_draft_now, g_draft_past, .int r.2.2.2.2.2.2.1, g_draft_notes, g_draft_marks])), (o_draft_placeKind, .inl (y 0, 7, .inl r.2.2.2.2.2.2.2.1)), (o_draft_placeX, .inl (y 0, 7, .inl r.2.2.2.2.2.2.2.2.1)), (o_draft_placeY, .inl (y 0, 7, .inl r.2.2.2.2.2.2.2.2.2)), (o_bytes, .inl (y 1, 150, .inl f_bytes))]) args s 0 0 A := ⟨_, rfl⟩
  rw [← hQ]
  have hl : lv_has ls 3 [(0, .ref o)] := hl
  refine lv_aload_n K.x K.b dX4_takePlace_0 rfl (lv_at hl 0 rfl) ?_
  refine z_get K hH 0 rfl zin_4 rfl 0 (by decide) tw_1_162 (v := .ref o_draft) rfl dX4_takePlace_1 ?_
  refine z_get K hH 1 rfl zin_0 rfl 3 (by decide) tw_1_88 (v := .int v_draft_places) rfl dX4_takePlace_4 ?_
  refine lv_bipush (v := (7)) K.x K.b dX4_takePlace_7 (by decide) ?_
  refine lv_icmp_ge (tgt := 21) K.x K.b dX4_takePlace_9 (by decide) (fun c1 => ?_) (fun c1 => ?_)
  · replace h := z_t c1 h
    refine lv_iconst (v := (0)) K.x K.b dX4_takePlace_21 (by decide) ?_
    have hr9 := Option.some.inj h
    obtain rfl := hr9
    rw [hQ]
    exact z_reti K hr hH [0, 1, 2, 3, 4, 5] (by decide) rfl rfl rfl dX4_takePlace_22
  · replace h := z_f c1 h
    refine lv_aload_n K.x K.b dX4_takePlace_12 rfl (lv_at hl 0 rfl) ?_
    refine lv_iconst (v := (0)) K.x K.b dX4_takePlace_13 (by decide) ?_
    refine lv_iconst (v := (5)) K.x K.b dX4_takePlace_14 (by decide) ?_
    obtain ⟨r2, hr3, h⟩ := z_bd_e h
    refine z_Vi K hH hl.1 (c_X4_takeNumber l D y o o_bytes (.ref o_draft) v_length v_next v_token v_start v_value f_bytes (0 : Int32) (5 : Int32) r2 hr3) (z_cwV K 2 tw_2_146 tw_2_148 tw_0_9 tw_1_6 tw_2_149 hd_X4_takeNumber ⟨by decide, by decide⟩) [0, 5] [1, 2, 3, 4] rfl (wr := [(o_draft, .inr (0, [.ref o_draft_placeKind, .ref o_draft_placeX, .ref o_draft_placeY, .int v_draft_places, g_draft_crowKind, g_draft_crows, g_draft_now, g_draft_past, .int v_draft_pasts, g_draft_notes, g_draft_marks])), (o_draft_placeKind, .inl (y 0, 7, .inl f_draft_placeKind)), (o_draft_placeX, .inl (y 0, 7, .inl f_draft_placeX)), (o_draft_placeY, .inl (y 0, 7, .inl f_draft_placeY))]) rfl rfl rfl (by decide) rfl rfl rfl (As := [.int (0 : Int32), .int (5 : Int32)]) (rest := []) rfl (Nat.le_of_ble_eq_true rfl) ⟨Nat.zero_le _, Nat.zero_le _⟩ dX4_takePlace_15 (ws' := [(o_draft, .inr (0, [.ref o_draft_placeKind, .ref o_draft_placeX, .ref o_draft_placeY, .int v_draft_places, g_draft_crowKind, g_draft_crows, g_draft_now, g_draft_past, .int v_draft_pasts, g_draft_notes, g_draft_marks])), (o_draft_placeKind, .inl (y 0, 7, .inl f_draft_placeKind)), (o_draft_placeX, .inl (y 0, 7, .inl f_draft_placeX)), (o_draft_placeY, .inl (y 0, 7, .inl f_draft_placeY)), (o, .inr (3, [.ref o_draft, .ref o_bytes, .int v_length, .int r2.2.1, .int r2.2.2.1, .int r2.2.2.2.1, .int r2.2.2.2.2])), (o_bytes, .inl (y 1, 150, .inl f_bytes))]) rfl (fun H locs hH => ?_)
    refine lv_if_ne (tgt := 23) K.x K.b dX4_takePlace_18 (by decide) (fun c4 => ?_) (fun c4 => ?_)
    · replace h := z_f c4 h
      refine lv_aload_n K.x K.b dX4_takePlace_23 rfl (lv_at hl 0 rfl) ?_
      refine z_get K hH 4 rfl zin_4 rfl 6 (by decide) tw_1_169 (v := .int r2.2.2.2.2) rfl dX4_takePlace_24 ?_
      refine lv_istore_n (lv' := [(1, .int r2.2.2.2.2), (0, .ref o)]) K.x K.b dX4_takePlace_27 rfl hl (by decide) rfl (fun ls hl => ?_)
      refine lv_aload_n K.x K.b dX4_takePlace_28 rfl (lv_at hl 1 rfl) ?_
      refine lv_iconst (v := (0)) K.x K.b dX4_takePlace_29 (by decide) ?_
      refine lv_bipush (v := (9)) K.x K.b dX4_takePlace_30 (by decide) ?_
      obtain ⟨r5, hr6, h⟩ := z_bd_e h
      refine z_Vi K hH hl.1 (c_X4_takeNumber l D y o o_bytes (.ref o_draft) v_length r2.2.1 r2.2.2.1 r2.2.2.2.1 r2.2.2.2.2 f_bytes (0 : Int32) (9 : Int32) r5 hr6) (z_cwV K 2 tw_2_146 tw_2_148 tw_0_9 tw_1_6 tw_2_149 hd_X4_takeNumber ⟨by decide, by decide⟩) [4, 5] [0, 1, 2, 3] rfl (wr := [(o_draft, .inr (0, [.ref o_draft_placeKind, .ref o_draft_placeX, .ref o_draft_placeY, .int v_draft_places, g_draft_crowKind, g_draft_crows, g_draft_now, g_draft_past, .int v_draft_pasts, g_draft_notes, g_draft_marks])), (o_draft_placeKind, .inl (y 0, 7, .inl f_draft_placeKind)), (o_draft_placeX, .inl (y 0, 7, .inl f_draft_placeX)), (o_draft_placeY, .inl (y 0, 7, .inl f_draft_placeY))]) rfl rfl rfl (by decide) rfl rfl rfl (As := [.int (0 : Int32), .int (9 : Int32)]) (rest := []) rfl (Nat.le_of_ble_eq_true rfl) ⟨Nat.zero_le _, Nat.zero_le _⟩ dX4_takePlace_32 (ws' := [(o_draft, .inr (0, [.ref o_draft_placeKind, .ref o_draft_placeX, .ref o_draft_placeY, .int v_draft_places, g_draft_crowKind, g_draft_crows, g_draft_now, g_draft_past, .int v_draft_pasts, g_draft_notes, g_draft_marks])), (o_draft_placeKind, .inl (y 0, 7, .inl f_draft_placeKind)), (o_draft_placeX, .inl (y 0, 7, .inl f_draft_placeX)), (o_draft_placeY, .inl (y 0, 7, .inl f_draft_placeY)), (o, .inr (3, [.ref o_draft, .ref o_bytes, .int v_length, .int r5.2.1, .int r5.2.2.1, .int r5.2.2.2.1, .int r5.2.2.2.2])), (o_bytes, .inl (y 1, 150, .inl f_bytes))]) rfl (fun H locs hH => ?_)
      refine lv_if_ne (tgt := 40) K.x K.b dX4_takePlace_35 (by decide) (fun c7 => ?_) (fun c7 => ?_)
      · replace h := z_f c7 h
        refine lv_aload_n K.x K.b dX4_takePlace_40 rfl (lv_at hl 1 rfl) ?_
        refine z_get K hH 4 rfl zin_4 rfl 6 (by decide) tw_1_169 (v := .int r5.2.2.2.2) rfl dX4_takePlace_41 ?_
        refine lv_istore_n (lv' := [(2, .int r5.2.2.2.2), (1, .int r2.2.2.2.2), (0, .ref o)]) K.x K.b dX4_takePlace_44 rfl hl (by decide) rfl (fun ls hl => ?_)
        refine lv_aload_n K.x K.b dX4_takePlace_45 rfl (lv_at hl 2 rfl) ?_
        refine lv_iconst (v := (0)) K.x K.b dX4_takePlace_46 (by decide) ?_
        refine lv_bipush (v := (9)) K.x K.b dX4_takePlace_47 (by decide) ?_
        obtain ⟨r8, hr9, h⟩ := z_bd_e h
        refine z_Vi K hH hl.1 (c_X4_takeNumber l D y o o_bytes (.ref o_draft) v_length r5.2.1 r5.2.2.1 r5.2.2.2.1 r5.2.2.2.2 f_bytes (0 : Int32) (9 : Int32) r8 hr9) (z_cwV K 2 tw_2_146 tw_2_148 tw_0_9 tw_1_6 tw_2_149 hd_X4_takeNumber ⟨by decide, by decide⟩) [4, 5] [0, 1, 2, 3] rfl (wr := [(o_draft, .inr (0, [.ref o_draft_placeKind, .ref o_draft_placeX, .ref o_draft_placeY, .int v_draft_places, g_draft_crowKind, g_draft_crows, g_draft_now, g_draft_past, .int v_draft_pasts, g_draft_notes, g_draft_marks])), (o_draft_placeKind, .inl (y 0, 7, .inl f_draft_placeKind)), (o_draft_placeX, .inl (y 0, 7, .inl f_draft_placeX)), (o_draft_placeY, .inl (y 0, 7, .inl f_draft_placeY))]) rfl rfl rfl (by decide) rfl rfl rfl (As := [.int (0 : Int32), .int (9 : Int32)]) (rest := []) rfl (Nat.le_of_ble_eq_true rfl) ⟨Nat.zero_le _, Nat.zero_le _⟩ dX4_takePlace_49 (ws' := [(o_draft, .inr (0, [.ref o_draft_placeKind, .ref o_draft_placeX, .ref o_draft_placeY, .int v_draft_places, g_draft_crowKind, g_draft_crows, g_draft_now, g_draft_past, .int v_draft_pasts, g_draft_notes, g_draft_marks])), (o_draft_placeKind, .inl (y 0, 7, .inl f_draft_placeKind)), (o_draft_placeX, .inl (y 0, 7, .inl f_draft_placeX)), (o_draft_placeY, .inl (y 0, 7, .inl f_draft_placeY)), (o, .inr (3, [.ref o_draft, .ref o_bytes, .int v_length, .int r8.2.1, .int r8.2.2.1, .int r8.2.2.2.1, .int r8.2.2.2.2])), (o_bytes, .inl (y 1, 150, .inl f_bytes))]) rfl (fun H locs hH => ?_)
        refine lv_if_ne (tgt := 57) K.x K.b dX4_takePlace_52 (by decide) (fun c10 => ?_) (fun c10 => ?_)
        · replace h := z_f c10 h
          refine lv_aload_n K.x K.b dX4_takePlace_57 rfl (lv_at hl 2 rfl) ?_
          refine z_get K hH 4 rfl zin_4 rfl 0 (by decide) tw_1_162 (v := .ref o_draft) rfl dX4_takePlace_58 ?_
          refine lv_iload_n K.x K.b dX4_takePlace_61 rfl (lv_at hl 1 rfl) ?_
          refine lv_iload_n K.x K.b dX4_takePlace_62 rfl (lv_at hl 0 rfl) ?_
          refine lv_aload_n K.x K.b dX4_takePlace_63 rfl (lv_at hl 2 rfl) ?_
          refine z_get K hH 4 rfl zin_4 rfl 6 (by decide) tw_1_169 (v := .int r8.2.2.2.2) rfl dX4_takePlace_64 ?_
          obtain ⟨r11, hr12, h⟩ := z_bd_e h
          refine z_Vi K hH hl.1 (c_X0_addPlace l D y o_draft o_draft_placeKind o_draft_placeX o_draft_placeY (g_draft_crowKind) (g_draft_crows) (g_draft_now) (g_draft_past) (g_draft_notes) (g_draft_marks) v_draft_places v_draft_pasts f_draft_placeKind f_draft_placeX f_draft_placeY r2.2.2.2.2 r5.2.2.2.2 r8.2.2.2.2 r11 hr12) (z_cwV K 3 tw_2_150 tw_2_27 tw_2_28 tw_1_2 tw_2_29 hd_X0_addPlace ⟨by decide, by decide⟩) [0, 1, 2, 3] [4, 5] rfl (wr := [(o, .inr (3, [.ref o_draft, .ref o_bytes, .int v_length, .int r8.2.1, .int r8.2.2.1, .int r8.2.2.2.1, .int r8.2.2.2.2])), (o_bytes, .inl (y 1, 150, .inl f_bytes))]) rfl rfl rfl (by decide) rfl rfl rfl (As := [.int r2.2.2.2.2, .int r5.2.2.2.2, .int r8.2.2.2.2]) (rest := []) rfl (Nat.le_of_ble_eq_true rfl) ⟨Nat.zero_le _, Nat.zero_le _⟩ dX4_takePlace_67 (ws' := [(o, .inr (3, [.ref o_draft, .ref o_bytes, .int v_length, .int r8.2.1, .int r8.2.2.1, .int r8.2.2.2.1, .int r8.2.2.2.2])), (o_bytes, .inl (y 1, 150, .inl f_bytes)), (o_draft, .inr (0, [.ref o_draft_placeKind, .ref o_draft_placeX, .ref o_draft_placeY, .int r11.2.1, g_draft_crowKind, g_draft_crows, g_draft_now, g_draft_past, .int r11.2.2.1, g_draft_notes, g_draft_marks])), (o_draft_placeKind, .inl (y 0, 7, .inl r11.2.2.2.1)), (o_draft_placeX, .inl (y 0, 7, .inl r11.2.2.2.2.1)), (o_draft_placeY, .inl (y 0, 7, .inl r11.2.2.2.2.2))]) rfl (fun H locs hH => ?_)
          refine lv_pop K.x K.b dX4_takePlace_70 rfl ?_
          refine lv_aload_n K.x K.b dX4_takePlace_71 rfl (lv_at hl 2 rfl) ?_
          obtain ⟨r13, hr14, h⟩ := z_bd_e h
          refine z_Vi K hH hl.1 (c_X4_takeStop l D y o o_bytes (.ref o_draft) v_length r8.2.1 r8.2.2.1 r8.2.2.2.1 r8.2.2.2.2 f_bytes r13 hr14) (z_cwV K 0 tw_2_137 tw_2_139 tw_0_7 tw_1_6 tw_2_140 hd_X4_takeStop ⟨by decide, by decide⟩) [0, 1] [2, 3, 4, 5] rfl (wr := [(o_draft, .inr (0, [.ref o_draft_placeKind, .ref o_draft_placeX, .ref o_draft_placeY, .int r11.2.1, g_draft_crowKind, g_draft_crows, g_draft_now, g_draft_past, .int r11.2.2.1, g_draft_notes, g_draft_marks])), (o_draft_placeKind, .inl (y 0, 7, .inl r11.2.2.2.1)), (o_draft_placeX, .inl (y 0, 7, .inl r11.2.2.2.2.1)), (o_draft_placeY, .inl (y 0, 7, .inl r11.2.2.2.2.2))]) rfl rfl rfl (by decide) rfl rfl rfl (As := []) (rest := []) rfl (Nat.le_of_ble_eq_true rfl) ⟨Nat.zero_le _, Nat.zero_le _⟩ dX4_takePlace_72 (ws' := [(o_draft, .inr (0, [.ref o_draft_placeKind, .ref o_draft_placeX, .ref o_draft_placeY, .int r11.2.1, g_draft_crowKind, g_draft_crows, g_draft_now, g_draft_past, .int r11.2.2.1, g_draft_notes, g_draft_marks])), (o_draft_placeKind, .inl (y 0, 7, .inl r11.2.2.2.1)), (o_draft_placeX, .inl (y 0, 7, .inl r11.2.2.2.2.1)), (o_draft_placeY, .inl (y 0, 7, .inl r11.2.2.2.2.2)), (o, .inr (3, [.ref o_draft, .ref o_bytes, .int v_length, .int r13.2.1, .int r13.2.2.1, .int r13.2.2.2.1, .int r13.2.2.2.2])), (o_bytes, .inl (y 1, 150, .inl f_bytes))]) rfl (fun H locs hH => ?_)
          obtain ⟨g15, h⟩ := z_gd_e h
          have hr9 := Option.some.inj h
          obtain rfl := hr9
          rw [hQ]
          exact z_reti K hr hH [4, 0, 1, 2, 3, 5] (by decide) rfl rfl (z_bz_e g15) dX4_takePlace_75
        · replace h := z_t c10 h
          refine lv_iconst (v := (0)) K.x K.b dX4_takePlace_55 (by decide) ?_
          have hr9 := Option.some.inj h
          obtain rfl := hr9
          rw [hQ]
          exact z_reti K hr hH [4, 0, 1, 2, 3, 5] (by decide) rfl rfl rfl dX4_takePlace_56
      · replace h := z_t c7 h
        refine lv_iconst (v := (0)) K.x K.b dX4_takePlace_38 (by decide) ?_
        have hr9 := Option.some.inj h
        obtain rfl := hr9
        rw [hQ]
        exact z_reti K hr hH [4, 0, 1, 2, 3, 5] (by decide) rfl rfl rfl dX4_takePlace_39
    · replace h := z_t c4 h
      refine lv_iconst (v := (0)) K.x K.b dX4_takePlace_21 (by decide) ?_
      have hr9 := Option.some.inj h
      obtain rfl := hr9
      rw [hQ]
      exact z_reti K hr hH [4, 0, 1, 2, 3, 5] (by decide) rfl rfl rfl dX4_takePlace_22
noncomputable def p_X4_takeCrow (v_length : Int32) (v_next : Int32) (v_token : Int32) (v_start : Int32) (v_value : Int32) (v_draft_places : Int32) (v_draft_crows : Int32) (v_draft_pasts : Int32) (f_draft_crowKind : (Nat → Int32)) (f_draft_now_at : (Nat → Int32)) (f_draft_now_tired : (Nat → Int32)) (f_bytes : (Nat → Int32)) : Option (Int32 × Int32 × Int32 × Int32 × Int32 × Int32 × Int32 × (Nat → Int32) × (Nat → Int32) × (Nat → Int32)) :=
  if ((3 : Int32) ≤ v_draft_crows) then
  (some ((0 : Int32), v_next, v_token, v_start, v_value, v_draft_crows, v_draft_pasts, f_draft_crowKind, f_draft_now_at, f_draft_now_tired)) else
  (z_bd (p_X4_takeNumber v_length v_next v_token v_start v_value f_bytes (0 : Int32) (5 : Int32)) fun r2 =>
  if (r2.1 = 0) then
  (some ((0 : Int32), r2.2.1, r2.2.2.1, r2.2.2.2.1, r2.2.2.2.2, v_draft_crows, v_draft_pasts, f_draft_crowKind, f_draft_now_at, f_draft_now_tired)) else
  (z_lt ((v_draft_places - (1 : Int32))) fun x5 =>
  z_bd (p_X4_takeNumber v_length r2.2.1 r2.2.2.1 r2.2.2.2.1 r2.2.2.2.2 f_bytes (0 : Int32) x5) fun r6 =>
  if (r6.1 = 0) then
  (some ((0 : Int32), r6.2.1, r6.2.2.1, r6.2.2.2.1, r6.2.2.2.2, v_draft_crows, v_draft_pasts, f_draft_crowKind, f_draft_now_at, f_draft_now_tired)) else
  (z_bd (p_X0_addCrow v_draft_crows v_draft_pasts f_draft_crowKind f_draft_now_at f_draft_now_tired r2.2.2.2.2 r6.2.2.2.2) fun r9 =>
  z_bd (p_X4_takeStop v_length r6.2.1 r6.2.2.1 r6.2.2.2.1 r6.2.2.2.2 f_bytes) fun r11 =>
  z_gd (z_bz r11.1) <|
  some (r11.1, r11.2.1, r11.2.2.1, r11.2.2.2.1, r11.2.2.2.2, r9.2.1, r9.2.2.1, r9.2.2.2.1, r9.2.2.2.2.1, r9.2.2.2.2.2))))
theorem hd_X4_takeCrow : yX4_takeCrow.cls = RX4 ∧ yX4_takeCrow.cls ≠ "java/lang/invoke/MethodHandle" ∧ yX4_takeCrow.cls ≠ "java/lang/invoke/VarHandle" ∧ (parseMethodDescriptor yX4_takeCrow.desc).map (fun d => d.parameters.length) = some 0 := by decide +kernel
set_option maxHeartbeats 4000000 in
set_option maxRecDepth 100000 in
theorem c_X4_takeCrow (l : Launch) (D : va_G) (y : Nat → ClassId) (o o_draft o_draft_crowKind o_draft_now o_draft_now_at o_draft_now_tired o_bytes : Nat) (g_draft_placeKind g_draft_placeX g_draft_placeY g_draft_past g_draft_notes g_draft_marks g_draft_now_deedRows g_draft_now_deeds g_draft_now_hour : Value) (v_length : Int32) (v_next : Int32) (v_token : Int32) (v_start : Int32) (v_value : Int32) (v_draft_places : Int32) (v_draft_crows : Int32) (v_draft_pasts : Int32) (f_draft_crowKind : (Nat → Int32)) (f_draft_now_at : (Nat → Int32)) (f_draft_now_tired : (Nat → Int32)) (f_bytes : (Nat → Int32)) (r : Int32 × Int32 × Int32 × Int32 × Int32 × Int32 × Int32 × (Nat → Int32) × (Nat → Int32) × (Nat → Int32)) (h : p_X4_takeCrow v_length v_next v_token v_start v_value v_draft_places v_draft_crows v_draft_pasts f_draft_crowKind f_draft_now_at f_draft_now_tired f_bytes = some r) : z_MI l yX4_takeCrow cX4_takeCrow 2 (some .boolean) 4 82 D y [.ref o] [(o, .inr (3, [.ref o_draft, .ref o_bytes, .int v_length, .int v_next, .int v_token, .int v_start, .int v_value])), (o_draft, .inr (0, [g_draft_placeKind, g_draft_placeX, g_draft_placeY, .int v_draft_places, .ref o_draft_crowKind, .int v_draft_crows, .ref o_draft_now, g_draft_past, .int v_draft_pasts, g_draft_notes, g_draft_marks])), (o_draft_crowKind, .inl (y 0, 3, .inl f_draft_crowKind)), (o_draft_now, .inr (1, [.ref o_draft_now_at, .ref o_draft_now_tired, g_draft_now_deedRows, g_draft_now_deeds, g_draft_now_hour])), (o_draft_now_at, .inl (y 0, 3, .inl f_draft_now_at)), (o_draft_now_tired, .inl (y 0, 3, .inl f_draft_now_tired)), (o_bytes, .inl (y 1, 150, .inl f_bytes))] r.1 [(o, .inr (3, [.ref o_draft, .ref o_bytes, .int v_length, .int r.2.1, .int r.2.2.1, .int r.2.2.2.1, .int r.2.2.2.2.1])), (o_draft, .inr (0, [g_draft_placeKind, g_draft_placeX, g_draft_placeY, .int v_draft_places, .ref o_draft_crowKind, .int r.2.2.2.2.2.1, .ref o_draft_now, g_draft_past, .int r.2.2.2.2.2.2.1, g_draft_notes, g_draft_marks])), (o_draft_crowKind, .inl (y 0, 3, .inl r.2.2.2.2.2.2.2.1)), (o_draft_now, .inr (1, [.ref o_draft_now_at, .ref o_draft_now_tired, g_draft_now_deedRows, g_draft_now_deeds, g_draft_now_hour])), (o_draft_now_at, .inl (y 0, 3, .inl r.2.2.2.2.2.2.2.2.1)), (o_draft_now_tired, .inl (y 0, 3, .inl r.2.2.2.2.2.2.2.2.2)), (o_bytes, .inl (y 1, 150, .inl f_bytes))] := by
  unfold p_X4_takeCrow at h
  refine z_enI (by decide) (Nat.le_of_ble_eq_true rfl) ?_
  intro p e s m args below meth c A ls hr K hH hl
  obtain ⟨Q, hQ⟩ : ∃ Q, Q = MQ below (z_Qi D y A r.1 [(o, .inr (3, [.ref o_draft, .ref o_bytes, .int v_length, .int r.2.1, .int r.2.2.1, .int r.2.2.2.1, .int r.2.2.2.2.1])), (o_draft, .inr (0, [g_draft_placeKind, g_draft_placeX, g_draft_placeY, .int v_draft_places, .ref o_draft_crowKind, .int r.2.2.2.2.2.1, .ref o_draft_now, g_draft_past, .int r.2.2.2.2.2.2.1, g_draft_notes, g_draft_marks])), (o_draft_crowKind, .inl (y 0, 3, .inl r.2.2.2.2.2.2.2.1)), (o_draft_now, .inr (1, [.ref o_draft_now_at, .ref o_draft_now_tired, g_draft_now_deedRows, g_draft_now_deeds, g_draft_now_hour])), (o_draft_now_at, .inl (y 0, 3, .inl r.2.2.2.2.2.2.2.2.1)), (o_draft_now_tired, .inl (y 0, 3, .inl r.2.2.2.2.2.2.2.2.2)), (o_bytes, .inl (y 1, 150, .inl f_bytes))]) args s 0 0 A := ⟨_, rfl⟩
  rw [← hQ]
  have hl : lv_has ls 2 [(0, .ref o)] := hl
  refine lv_aload_n K.x K.b dX4_takeCrow_0 rfl (lv_at hl 0 rfl) ?_
  refine z_get K hH 0 rfl zin_4 rfl 0 (by decide) tw_1_162 (v := .ref o_draft) rfl dX4_takeCrow_1 ?_
  refine z_get K hH 1 rfl zin_0 rfl 5 (by decide) tw_1_92 (v := .int v_draft_crows) rfl dX4_takeCrow_4 ?_
  refine lv_iconst (v := (3)) K.x K.b dX4_takeCrow_7 (by decide) ?_
  refine lv_icmp_ge (tgt := 20) K.x K.b dX4_takeCrow_8 (by decide) (fun c1 => ?_) (fun c1 => ?_)
  · replace h := z_t c1 h
    refine lv_iconst (v := (0)) K.x K.b dX4_takeCrow_20 (by decide) ?_
    have hr9 := Option.some.inj h
    obtain rfl := hr9
    rw [hQ]
    exact z_reti K hr hH [0, 1, 2, 3, 4, 5, 6] (by decide) rfl rfl rfl dX4_takeCrow_21
  · replace h := z_f c1 h
    refine lv_aload_n K.x K.b dX4_takeCrow_11 rfl (lv_at hl 0 rfl) ?_
    refine lv_iconst (v := (0)) K.x K.b dX4_takeCrow_12 (by decide) ?_
    refine lv_iconst (v := (5)) K.x K.b dX4_takeCrow_13 (by decide) ?_
    obtain ⟨r2, hr3, h⟩ := z_bd_e h
    refine z_Vi K hH hl.1 (c_X4_takeNumber l D y o o_bytes (.ref o_draft) v_length v_next v_token v_start v_value f_bytes (0 : Int32) (5 : Int32) r2 hr3) (z_cwV K 2 tw_2_146 tw_2_148 tw_0_9 tw_1_6 tw_2_149 hd_X4_takeNumber ⟨by decide, by decide⟩) [0, 6] [1, 2, 3, 4, 5] rfl (wr := [(o_draft, .inr (0, [g_draft_placeKind, g_draft_placeX, g_draft_placeY, .int v_draft_places, .ref o_draft_crowKind, .int v_draft_crows, .ref o_draft_now, g_draft_past, .int v_draft_pasts, g_draft_notes, g_draft_marks])), (o_draft_crowKind, .inl (y 0, 3, .inl f_draft_crowKind)), (o_draft_now, .inr (1, [.ref o_draft_now_at, .ref o_draft_now_tired, g_draft_now_deedRows, g_draft_now_deeds, g_draft_now_hour])), (o_draft_now_at, .inl (y 0, 3, .inl f_draft_now_at)), (o_draft_now_tired, .inl (y 0, 3, .inl f_draft_now_tired))]) rfl rfl rfl (by decide) rfl rfl rfl (As := [.int (0 : Int32), .int (5 : Int32)]) (rest := []) rfl (Nat.le_of_ble_eq_true rfl) ⟨Nat.zero_le _, Nat.zero_le _⟩ dX4_takeCrow_14 (ws' := [(o_draft, .inr (0, [g_draft_placeKind, g_draft_placeX, g_draft_placeY, .int v_draft_places, .ref o_draft_crowKind, .int v_draft_crows, .ref o_draft_now, g_draft_past, .int v_draft_pasts, g_draft_notes, g_draft_marks])), (o_draft_crowKind, .inl (y 0, 3, .inl f_draft_crowKind)), (o_draft_now, .inr (1, [.ref o_draft_now_at, .ref o_draft_now_tired, g_draft_now_deedRows, g_draft_now_deeds, g_draft_now_hour])), (o_draft_now_at, .inl (y 0, 3, .inl f_draft_now_at)), (o_draft_now_tired, .inl (y 0, 3, .inl f_draft_now_tired)), (o, .inr (3, [.ref o_draft, .ref o_bytes, .int v_length, .int r2.2.1, .int r2.2.2.1, .int r2.2.2.2.1, .int r2.2.2.2.2])), (o_bytes, .inl (y 1, 150, .inl f_bytes))]) rfl (fun H locs hH => ?_)
    refine lv_if_ne (tgt := 22) K.x K.b dX4_takeCrow_17 (by decide) (fun c4 => ?_) (fun c4 => ?_)
    · replace h := z_f c4 h
      refine lv_aload_n K.x K.b dX4_takeCrow_22 rfl (lv_at hl 0 rfl) ?_
      refine z_get K hH 5 rfl zin_4 rfl 6 (by decide) tw_1_169 (v := .int r2.2.2.2.2) rfl dX4_takeCrow_23 ?_
      refine lv_istore_n (lv' := [(1, .int r2.2.2.2.2), (0, .ref o)]) K.x K.b dX4_takeCrow_26 rfl hl (by decide) rfl (fun ls hl => ?_)
      refine lv_aload_n K.x K.b dX4_takeCrow_27 rfl (lv_at hl 1 rfl) ?_
      refine lv_iconst (v := (0)) K.x K.b dX4_takeCrow_28 (by decide) ?_
      refine lv_aload_n K.x K.b dX4_takeCrow_29 rfl (lv_at hl 1 rfl) ?_
      refine z_get K hH 5 rfl zin_4 rfl 0 (by decide) tw_1_162 (v := .ref o_draft) rfl dX4_takeCrow_30 ?_
      refine z_get K hH 0 rfl zin_0 rfl 3 (by decide) tw_1_88 (v := .int v_draft_places) rfl dX4_takeCrow_33 ?_
      refine lv_iconst (v := (1)) K.x K.b dX4_takeCrow_36 (by decide) ?_
      refine lv_isub K.x K.b dX4_takeCrow_37 ?_
      obtain ⟨x5, ex5, h⟩ := z_lt_e h
      refine z_nm ex5 ?_
      obtain ⟨r6, hr7, h⟩ := z_bd_e h
      refine z_Vi K hH hl.1 (c_X4_takeNumber l D y o o_bytes (.ref o_draft) v_length r2.2.1 r2.2.2.1 r2.2.2.2.1 r2.2.2.2.2 f_bytes (0 : Int32) x5 r6 hr7) (z_cwV K 2 tw_2_146 tw_2_148 tw_0_9 tw_1_6 tw_2_149 hd_X4_takeNumber ⟨by decide, by decide⟩) [5, 6] [0, 1, 2, 3, 4] rfl (wr := [(o_draft, .inr (0, [g_draft_placeKind, g_draft_placeX, g_draft_placeY, .int v_draft_places, .ref o_draft_crowKind, .int v_draft_crows, .ref o_draft_now, g_draft_past, .int v_draft_pasts, g_draft_notes, g_draft_marks])), (o_draft_crowKind, .inl (y 0, 3, .inl f_draft_crowKind)), (o_draft_now, .inr (1, [.ref o_draft_now_at, .ref o_draft_now_tired, g_draft_now_deedRows, g_draft_now_deeds, g_draft_now_hour])), (o_draft_now_at, .inl (y 0, 3, .inl f_draft_now_at)), (o_draft_now_tired, .inl (y 0, 3, .inl f_draft_now_tired))]) rfl rfl rfl (by decide) rfl rfl rfl (As := [.int (0 : Int32), .int x5]) (rest := []) rfl (Nat.le_of_ble_eq_true rfl) ⟨Nat.zero_le _, Nat.zero_le _⟩ dX4_takeCrow_38 (ws' := [(o_draft, .inr (0, [g_draft_placeKind, g_draft_placeX, g_draft_placeY, .int v_draft_places, .ref o_draft_crowKind, .int v_draft_crows, .ref o_draft_now, g_draft_past, .int v_draft_pasts, g_draft_notes, g_draft_marks])), (o_draft_crowKind, .inl (y 0, 3, .inl f_draft_crowKind)), (o_draft_now, .inr (1, [.ref o_draft_now_at, .ref o_draft_now_tired, g_draft_now_deedRows, g_draft_now_deeds, g_draft_now_hour])), (o_draft_now_at, .inl (y 0, 3, .inl f_draft_now_at)), (o_draft_now_tired, .inl (y 0, 3, .inl f_draft_now_tired)), (o, .inr (3, [.ref o_draft, .ref o_bytes, .int v_length, .int r6.2.1, .int r6.2.2.1, .int r6.2.2.2.1, .int r6.2.2.2.2])), (o_bytes, .inl (y 1, 150, .inl f_bytes))]) rfl (fun H locs hH => ?_)
      refine lv_if_ne (tgt := 46) K.x K.b dX4_takeCrow_41 (by decide) (fun c8 => ?_) (fun c8 => ?_)
      · replace h := z_f c8 h
        refine lv_aload_n K.x K.b dX4_takeCrow_46 rfl (lv_at hl 1 rfl) ?_
        refine z_get K hH 5 rfl zin_4 rfl 0 (by decide) tw_1_162 (v := .ref o_draft) rfl dX4_takeCrow_47 ?_
        refine lv_iload_n K.x K.b dX4_takeCrow_50 rfl (lv_at hl 0 rfl) ?_
        refine lv_aload_n K.x K.b dX4_takeCrow_51 rfl (lv_at hl 1 rfl) ?_
        refine z_get K hH 5 rfl zin_4 rfl 6 (by decide) tw_1_169 (v := .int r6.2.2.2.2) rfl dX4_takeCrow_52 ?_
        obtain ⟨r9, hr10, h⟩ := z_bd_e h
        refine z_Vi K hH hl.1 (c_X0_addCrow l D y o_draft o_draft_crowKind o_draft_now o_draft_now_at o_draft_now_tired (g_draft_placeKind) (g_draft_placeX) (g_draft_placeY) (.int v_draft_places) (g_draft_past) (g_draft_notes) (g_draft_marks) (g_draft_now_deedRows) (g_draft_now_deeds) (g_draft_now_hour) v_draft_crows v_draft_pasts f_draft_crowKind f_draft_now_at f_draft_now_tired r2.2.2.2.2 r6.2.2.2.2 r9 hr10) (z_cwV K 2 tw_2_156 tw_2_39 tw_2_40 tw_1_2 tw_2_41 hd_X0_addCrow ⟨by decide, by decide⟩) [0, 1, 2, 3, 4] [5, 6] rfl (wr := [(o, .inr (3, [.ref o_draft, .ref o_bytes, .int v_length, .int r6.2.1, .int r6.2.2.1, .int r6.2.2.2.1, .int r6.2.2.2.2])), (o_bytes, .inl (y 1, 150, .inl f_bytes))]) rfl rfl rfl (by decide) rfl rfl rfl (As := [.int r2.2.2.2.2, .int r6.2.2.2.2]) (rest := []) rfl (Nat.le_of_ble_eq_true rfl) ⟨Nat.zero_le _, Nat.zero_le _⟩ dX4_takeCrow_55 (ws' := [(o, .inr (3, [.ref o_draft, .ref o_bytes, .int v_length, .int r6.2.1, .int r6.2.2.1, .int r6.2.2.2.1, .int r6.2.2.2.2])), (o_bytes, .inl (y 1, 150, .inl f_bytes)), (o_draft, .inr (0, [g_draft_placeKind, g_draft_placeX, g_draft_placeY, .int v_draft_places, .ref o_draft_crowKind, .int r9.2.1, .ref o_draft_now, g_draft_past, .int r9.2.2.1, g_draft_notes, g_draft_marks])), (o_draft_crowKind, .inl (y 0, 3, .inl r9.2.2.2.1)), (o_draft_now, .inr (1, [.ref o_draft_now_at, .ref o_draft_now_tired, g_draft_now_deedRows, g_draft_now_deeds, g_draft_now_hour])), (o_draft_now_at, .inl (y 0, 3, .inl r9.2.2.2.2.1)), (o_draft_now_tired, .inl (y 0, 3, .inl r9.2.2.2.2.2))]) rfl (fun H locs hH => ?_)
        refine lv_pop K.x K.b dX4_takeCrow_58 rfl ?_
        refine lv_aload_n K.x K.b dX4_takeCrow_59 rfl (lv_at hl 1 rfl) ?_
        obtain ⟨r11, hr12, h⟩ := z_bd_e h
        refine z_Vi K hH hl.1 (c_X4_takeStop l D y o o_bytes (.ref o_draft) v_length r6.2.1 r6.2.2.1 r6.2.2.2.1 r6.2.2.2.2 f_bytes r11 hr12) (z_cwV K 0 tw_2_137 tw_2_139 tw_0_7 tw_1_6 tw_2_140 hd_X4_takeStop ⟨by decide, by decide⟩) [0, 1] [2, 3, 4, 5, 6] rfl (wr := [(o_draft, .inr (0, [g_draft_placeKind, g_draft_placeX, g_draft_placeY, .int v_draft_places, .ref o_draft_crowKind, .int r9.2.1, .ref o_draft_now, g_draft_past, .int r9.2.2.1, g_draft_notes, g_draft_marks])), (o_draft_crowKind, .inl (y 0, 3, .inl r9.2.2.2.1)), (o_draft_now, .inr (1, [.ref o_draft_now_at, .ref o_draft_now_tired, g_draft_now_deedRows, g_draft_now_deeds, g_draft_now_hour])), (o_draft_now_at, .inl (y 0, 3, .inl r9.2.2.2.2.1)), (o_draft_now_tired, .inl (y 0, 3, .inl r9.2.2.2.2.2))]) rfl rfl rfl (by decide) rfl rfl rfl (As := []) (rest := []) rfl (Nat.le_of_ble_eq_true rfl) ⟨Nat.zero_le _, Nat.zero_le _⟩ dX4_takeCrow_60 (ws' := [(o_draft, .inr (0, [g_draft_placeKind, g_draft_placeX, g_draft_placeY, .int v_draft_places, .ref o_draft_crowKind, .int r9.2.1, .ref o_draft_now, g_draft_past, .int r9.2.2.1, g_draft_notes, g_draft_marks])), (o_draft_crowKind, .inl (y 0, 3, .inl r9.2.2.2.1)), (o_draft_now, .inr (1, [.ref o_draft_now_at, .ref o_draft_now_tired, g_draft_now_deedRows, g_draft_now_deeds, g_draft_now_hour])), (o_draft_now_at, .inl (y 0, 3, .inl r9.2.2.2.2.1)), (o_draft_now_tired, .inl (y 0, 3, .inl r9.2.2.2.2.2)), (o, .inr (3, [.ref o_draft, .ref o_bytes, .int v_length, .int r11.2.1, .int r11.2.2.1, .int r11.2.2.2.1, .int r11.2.2.2.2])), (o_bytes, .inl (y 1, 150, .inl f_bytes))]) rfl (fun H locs hH => ?_)
        obtain ⟨g13, h⟩ := z_gd_e h
        have hr9 := Option.some.inj h
        obtain rfl := hr9
        rw [hQ]
        exact z_reti K hr hH [5, 0, 1, 2, 3, 4, 6] (by decide) rfl rfl (z_bz_e g13) dX4_takeCrow_63
      · replace h := z_t c8 h
        refine lv_iconst (v := (0)) K.x K.b dX4_takeCrow_44 (by decide) ?_
        have hr9 := Option.some.inj h
        obtain rfl := hr9
        rw [hQ]
        exact z_reti K hr hH [5, 0, 1, 2, 3, 4, 6] (by decide) rfl rfl rfl dX4_takeCrow_45
    · replace h := z_t c4 h
      refine lv_iconst (v := (0)) K.x K.b dX4_takeCrow_20 (by decide) ?_
      have hr9 := Option.some.inj h
      obtain rfl := hr9
      rw [hQ]
      exact z_reti K hr hH [5, 0, 1, 2, 3, 4, 6] (by decide) rfl rfl rfl dX4_takeCrow_21
noncomputable def p_X4_takeFlight (v_length : Int32) (v_next : Int32) (v_token : Int32) (v_start : Int32) (v_value : Int32) (v_draft_places : Int32) (v_draft_crows : Int32) (f_draft_placeKind : (Nat → Int32)) (f_draft_placeX : (Nat → Int32)) (f_draft_placeY : (Nat → Int32)) (f_draft_crowKind : (Nat → Int32)) (v_draft_now_deeds : Int32) (v_draft_now_hour : Int32) (f_draft_now_at : (Nat → Int32)) (f_draft_now_tired : (Nat → Int32)) (f_draft_now_deedRows : (Nat → Int32)) (f_bytes : (Nat → Int32)) : Option (Int32 × Int32 × Int32 × Int32 × Int32 × Int32 × Int32 × (Nat → Int32) × (Nat → Int32) × (Nat → Int32)) :=
  z_lt ((v_draft_crows - (1 : Int32))) fun x1 =>
  z_bd (p_X4_takeNumber v_length v_next v_token v_start v_value f_bytes (0 : Int32) x1) fun r2 =>
  if (r2.1 = 0) then
  (some ((0 : Int32), r2.2.1, r2.2.2.1, r2.2.2.2.1, r2.2.2.2.2, v_draft_now_deeds, v_draft_now_hour, f_draft_now_at, f_draft_now_tired, f_draft_now_deedRows)) else
  (z_lt ((v_draft_places - (1 : Int32))) fun x5 =>
  z_bd (p_X4_takeNumber v_length r2.2.1 r2.2.2.1 r2.2.2.2.1 r2.2.2.2.2 f_bytes (0 : Int32) x5) fun r6 =>
  if (r6.1 = 0) then
  (some ((0 : Int32), r6.2.1, r6.2.2.1, r6.2.2.2.1, r6.2.2.2.2, v_draft_now_deeds, v_draft_now_hour, f_draft_now_at, f_draft_now_tired, f_draft_now_deedRows)) else
  (z_gd (z_in r2.2.2.2.2 3) <|
  if ((f_draft_now_at r2.2.2.2.2.toNatClampNeg) = r6.2.2.2.2) then
  (some ((0 : Int32), r6.2.1, r6.2.2.1, r6.2.2.2.1, r6.2.2.2.2, v_draft_now_deeds, v_draft_now_hour, f_draft_now_at, f_draft_now_tired, f_draft_now_deedRows)) else
  (z_bd (p_X0_fly f_draft_placeKind f_draft_placeX f_draft_placeY f_draft_crowKind v_draft_now_deeds v_draft_now_hour f_draft_now_at f_draft_now_tired f_draft_now_deedRows r2.2.2.2.2 r6.2.2.2.2) fun r11 =>
  z_bd (p_X4_takeStop v_length r6.2.1 r6.2.2.1 r6.2.2.2.1 r6.2.2.2.2 f_bytes) fun r13 =>
  z_gd (z_bz r13.1) <|
  some (r13.1, r13.2.1, r13.2.2.1, r13.2.2.2.1, r13.2.2.2.2, r11.2.1, r11.2.2.1, r11.2.2.2.1, r11.2.2.2.2.1, r11.2.2.2.2.2))))
theorem hd_X4_takeFlight : yX4_takeFlight.cls = RX4 ∧ yX4_takeFlight.cls ≠ "java/lang/invoke/MethodHandle" ∧ yX4_takeFlight.cls ≠ "java/lang/invoke/VarHandle" ∧ (parseMethodDescriptor yX4_takeFlight.desc).map (fun d => d.parameters.length) = some 0 := by decide +kernel
set_option maxHeartbeats 4000000 in
set_option maxRecDepth 100000 in
theorem c_X4_takeFlight (l : Launch) (D : va_G) (y : Nat → ClassId) (o o_draft o_draft_placeKind o_draft_placeX o_draft_placeY o_draft_crowKind o_draft_now o_draft_now_at o_draft_now_tired o_draft_now_deedRows o_bytes : Nat) (g_draft_past g_draft_pasts g_draft_notes g_draft_marks : Value) (v_length : Int32) (v_next : Int32) (v_token : Int32) (v_start : Int32) (v_value : Int32) (v_draft_places : Int32) (v_draft_crows : Int32) (f_draft_placeKind : (Nat → Int32)) (f_draft_placeX : (Nat → Int32)) (f_draft_placeY : (Nat → Int32)) (f_draft_crowKind : (Nat → Int32)) (v_draft_now_deeds : Int32) (v_draft_now_hour : Int32) (f_draft_now_at : (Nat → Int32)) (f_draft_now_tired : (Nat → Int32)) (f_draft_now_deedRows : (Nat → Int32)) (f_bytes : (Nat → Int32)) (r : Int32 × Int32 × Int32 × Int32 × Int32 × Int32 × Int32 × (Nat → Int32) × (Nat → Int32) × (Nat → Int32)) (h : p_X4_takeFlight v_length v_next v_token v_start v_value v_draft_places v_draft_crows f_draft_placeKind f_draft_placeX f_draft_placeY f_draft_crowKind v_draft_now_deeds v_draft_now_hour f_draft_now_at f_draft_now_tired f_draft_now_deedRows f_bytes = some r) : z_MI l yX4_takeFlight cX4_takeFlight 2 (some .boolean) 4 112 D y [.ref o] [(o, .inr (3, [.ref o_draft, .ref o_bytes, .int v_length, .int v_next, .int v_token, .int v_start, .int v_value])), (o_draft, .inr (0, [.ref o_draft_placeKind, .ref o_draft_placeX, .ref o_draft_placeY, .int v_draft_places, .ref o_draft_crowKind, .int v_draft_crows, .ref o_draft_now, g_draft_past, g_draft_pasts, g_draft_notes, g_draft_marks])), (o_draft_placeKind, .inl (y 0, 7, .inl f_draft_placeKind)), (o_draft_placeX, .inl (y 0, 7, .inl f_draft_placeX)), (o_draft_placeY, .inl (y 0, 7, .inl f_draft_placeY)), (o_draft_crowKind, .inl (y 0, 3, .inl f_draft_crowKind)), (o_draft_now, .inr (1, [.ref o_draft_now_at, .ref o_draft_now_tired, .ref o_draft_now_deedRows, .int v_draft_now_deeds, .int v_draft_now_hour])), (o_draft_now_at, .inl (y 0, 3, .inl f_draft_now_at)), (o_draft_now_tired, .inl (y 0, 3, .inl f_draft_now_tired)), (o_draft_now_deedRows, .inl (y 0, 36, .inl f_draft_now_deedRows)), (o_bytes, .inl (y 1, 150, .inl f_bytes))] r.1 [(o, .inr (3, [.ref o_draft, .ref o_bytes, .int v_length, .int r.2.1, .int r.2.2.1, .int r.2.2.2.1, .int r.2.2.2.2.1])), (o_draft, .inr (0, [.ref o_draft_placeKind, .ref o_draft_placeX, .ref o_draft_placeY, .int v_draft_places, .ref o_draft_crowKind, .int v_draft_crows, .ref o_draft_now, g_draft_past, g_draft_pasts, g_draft_notes, g_draft_marks])), (o_draft_placeKind, .inl (y 0, 7, .inl f_draft_placeKind)), (o_draft_placeX, .inl (y 0, 7, .inl f_draft_placeX)), (o_draft_placeY, .inl (y 0, 7, .inl f_draft_placeY)), (o_draft_crowKind, .inl (y 0, 3, .inl f_draft_crowKind)), (o_draft_now, .inr (1, [.ref o_draft_now_at, .ref o_draft_now_tired, .ref o_draft_now_deedRows, .int r.2.2.2.2.2.1, .int r.2.2.2.2.2.2.1])), (o_draft_now_at, .inl (y 0, 3, .inl r.2.2.2.2.2.2.2.1)), (o_draft_now_tired, .inl (y 0, 3, .inl r.2.2.2.2.2.2.2.2.1)), (o_draft_now_deedRows, .inl (y 0, 36, .inl r.2.2.2.2.2.2.2.2.2)), (o_bytes, .inl (y 1, 150, .inl f_bytes))] := by
  unfold p_X4_takeFlight at h
  refine z_enI (by decide) (Nat.le_of_ble_eq_true rfl) ?_
  intro p e s m args below meth c A ls hr K hH hl
  obtain ⟨Q, hQ⟩ : ∃ Q, Q = MQ below (z_Qi D y A r.1 [(o, .inr (3, [.ref o_draft, .ref o_bytes, .int v_length, .int r.2.1, .int r.2.2.1, .int r.2.2.2.1, .int r.2.2.2.2.1])), (o_draft, .inr (0, [.ref o_draft_placeKind, .ref o_draft_placeX, .ref o_draft_placeY, .int v_draft_places, .ref o_draft_crowKind, .int v_draft_crows, .ref o_draft_now, g_draft_past, g_draft_pasts, g_draft_notes, g_draft_marks])), (o_draft_placeKind, .inl (y 0, 7, .inl f_draft_placeKind)), (o_draft_placeX, .inl (y 0, 7, .inl f_draft_placeX)), (o_draft_placeY, .inl (y 0, 7, .inl f_draft_placeY)), (o_draft_crowKind, .inl (y 0, 3, .inl f_draft_crowKind)), (o_draft_now, .inr (1, [.ref o_draft_now_at, .ref o_draft_now_tired, .ref o_draft_now_deedRows, .int r.2.2.2.2.2.1, .int r.2.2.2.2.2.2.1])), (o_draft_now_at, .inl (y 0, 3, .inl r.2.2.2.2.2.2.2.1)), (o_draft_now_tired, .inl (y 0, 3, .inl r.2.2.2.2.2.2.2.2.1)), (o_draft_now_deedRows, .inl (y 0, 36, .inl r.2.2.2.2.2.2.2.2.2)), (o_bytes, .inl (y 1, 150, .inl f_bytes))]) args s 0 0 A := ⟨_, rfl⟩
  rw [← hQ]
  have hl : lv_has ls 2 [(0, .ref o)] := hl
  refine lv_aload_n K.x K.b dX4_takeFlight_0 rfl (lv_at hl 0 rfl) ?_
  refine lv_iconst (v := (0)) K.x K.b dX4_takeFlight_1 (by decide) ?_
  refine lv_aload_n K.x K.b dX4_takeFlight_2 rfl (lv_at hl 0 rfl) ?_
  refine z_get K hH 0 rfl zin_4 rfl 0 (by decide) tw_1_162 (v := .ref o_draft) rfl dX4_takeFlight_3 ?_
  refine z_get K hH 1 rfl zin_0 rfl 5 (by decide) tw_1_92 (v := .int v_draft_crows) rfl dX4_takeFlight_6 ?_
  refine lv_iconst (v := (1)) K.x K.b dX4_takeFlight_9 (by decide) ?_
  refine lv_isub K.x K.b dX4_takeFlight_10 ?_
  obtain ⟨x1, ex1, h⟩ := z_lt_e h
  refine z_nm ex1 ?_
  obtain ⟨r2, hr3, h⟩ := z_bd_e h
  refine z_Vi K hH hl.1 (c_X4_takeNumber l D y o o_bytes (.ref o_draft) v_length v_next v_token v_start v_value f_bytes (0 : Int32) x1 r2 hr3) (z_cwV K 2 tw_2_146 tw_2_148 tw_0_9 tw_1_6 tw_2_149 hd_X4_takeNumber ⟨by decide, by decide⟩) [0, 10] [1, 2, 3, 4, 5, 6, 7, 8, 9] rfl (wr := [(o_draft, .inr (0, [.ref o_draft_placeKind, .ref o_draft_placeX, .ref o_draft_placeY, .int v_draft_places, .ref o_draft_crowKind, .int v_draft_crows, .ref o_draft_now, g_draft_past, g_draft_pasts, g_draft_notes, g_draft_marks])), (o_draft_placeKind, .inl (y 0, 7, .inl f_draft_placeKind)), (o_draft_placeX, .inl (y 0, 7, .inl f_draft_placeX)), (o_draft_placeY, .inl (y 0, 7, .inl f_draft_placeY)), (o_draft_crowKind, .inl (y 0, 3, .inl f_draft_crowKind)), (o_draft_now, .inr (1, [.ref o_draft_now_at, .ref o_draft_now_tired, .ref o_draft_now_deedRows, .int v_draft_now_deeds, .int v_draft_now_hour])), (o_draft_now_at, .inl (y 0, 3, .inl f_draft_now_at)), (o_draft_now_tired, .inl (y 0, 3, .inl f_draft_now_tired)), (o_draft_now_deedRows, .inl (y 0, 36, .inl f_draft_now_deedRows))]) rfl rfl rfl (by decide) rfl rfl rfl (As := [.int (0 : Int32), .int x1]) (rest := []) rfl (Nat.le_of_ble_eq_true rfl) ⟨Nat.zero_le _, Nat.zero_le _⟩ dX4_takeFlight_11 (ws' := [(o_draft, .inr (0, [.ref o_draft_placeKind, .ref o_draft_placeX, .ref o_draft_placeY, .int v_draft_places, .ref o_draft_crowKind, .int v_draft_crows, .ref o_draft_now, g_draft_past, g_draft_pasts, g_draft_notes, g_draft_marks])), (o_draft_placeKind, .inl (y 0, 7, .inl f_draft_placeKind)), (o_draft_placeX, .inl (y 0, 7, .inl f_draft_placeX)), (o_draft_placeY, .inl (y 0, 7, .inl f_draft_placeY)), (o_draft_crowKind, .inl (y 0, 3, .inl f_draft_crowKind)), (o_draft_now, .inr (1, [.ref o_draft_now_at, .ref o_draft_now_tired, .ref o_draft_now_deedRows, .int v_draft_now_deeds, .int v_draft_now_hour])), (o_draft_now_at, .inl (y 0, 3, .inl f_draft_now_at)), (o_draft_now_tired, .inl (y 0, 3, .inl f_draft_now_tired)), (o_draft_now_deedRows, .inl (y 0, 36, .inl f_draft_now_deedRows)), (o, .inr (3, [.ref o_draft, .ref o_bytes, .int v_length, .int r2.2.1, .int r2.2.2.1, .int r2.2.2.2.1, .int r2.2.2.2.2])), (o_bytes, .inl (y 1, 150, .inl f_bytes))]) rfl (fun H locs hH => ?_)
  refine lv_if_ne (tgt := 19) K.x K.b dX4_takeFlight_14 (by decide) (fun c4 => ?_) (fun c4 => ?_)
  · replace h := z_f c4 h
    refine lv_aload_n K.x K.b dX4_takeFlight_19 rfl (lv_at hl 0 rfl) ?_
    refine z_get K hH 9 rfl zin_4 rfl 6 (by decide) tw_1_169 (v := .int r2.2.2.2.2) rfl dX4_takeFlight_20 ?_
    refine lv_istore_n (lv' := [(1, .int r2.2.2.2.2), (0, .ref o)]) K.x K.b dX4_takeFlight_23 rfl hl (by decide) rfl (fun ls hl => ?_)
    refine lv_aload_n K.x K.b dX4_takeFlight_24 rfl (lv_at hl 1 rfl) ?_
    refine lv_iconst (v := (0)) K.x K.b dX4_takeFlight_25 (by decide) ?_
    refine lv_aload_n K.x K.b dX4_takeFlight_26 rfl (lv_at hl 1 rfl) ?_
    refine z_get K hH 9 rfl zin_4 rfl 0 (by decide) tw_1_162 (v := .ref o_draft) rfl dX4_takeFlight_27 ?_
    refine z_get K hH 0 rfl zin_0 rfl 3 (by decide) tw_1_88 (v := .int v_draft_places) rfl dX4_takeFlight_30 ?_
    refine lv_iconst (v := (1)) K.x K.b dX4_takeFlight_33 (by decide) ?_
    refine lv_isub K.x K.b dX4_takeFlight_34 ?_
    obtain ⟨x5, ex5, h⟩ := z_lt_e h
    refine z_nm ex5 ?_
    obtain ⟨r6, hr7, h⟩ := z_bd_e h
    refine z_Vi K hH hl.1 (c_X4_takeNumber l D y o o_bytes (.ref o_draft) v_length r2.2.1 r2.2.2.1 r2.2.2.2.1 r2.2.2.2.2 f_bytes (0 : Int32) x5 r6 hr7) (z_cwV K 2 tw_2_146 tw_2_148 tw_0_9 tw_1_6 tw_2_149 hd_X4_takeNumber ⟨by decide, by decide⟩) [9, 10] [0, 1, 2, 3, 4, 5, 6, 7, 8] rfl (wr := [(o_draft, .inr (0, [.ref o_draft_placeKind, .ref o_draft_placeX, .ref o_draft_placeY, .int v_draft_places, .ref o_draft_crowKind, .int v_draft_crows, .ref o_draft_now, g_draft_past, g_draft_pasts, g_draft_notes, g_draft_marks])), (o_draft_placeKind, .inl (y 0, 7, .inl f_draft_placeKind)), (o_draft_placeX, .inl (y 0, 7, .inl f_draft_placeX)), (o_draft_placeY, .inl (y 0, 7, .inl f_draft_placeY)), (o_draft_crowKind, .inl (y 0, 3, .inl f_draft_crowKind)), (o_draft_now, .inr (1, [.ref o_draft_now_at, .ref o_draft_now_tired, .ref o_draft_now_deedRows, .int v_draft_now_deeds, .int v_draft_now_hour])), (o_draft_now_at, .inl (y 0, 3, .inl f_draft_now_at)), (o_draft_now_tired, .inl (y 0, 3, .inl f_draft_now_tired)), (o_draft_now_deedRows, .inl (y 0, 36, .inl f_draft_now_deedRows))]) rfl rfl rfl (by decide) rfl rfl rfl (As := [.int (0 : Int32), .int x5]) (rest := []) rfl (Nat.le_of_ble_eq_true rfl) ⟨Nat.zero_le _, Nat.zero_le _⟩ dX4_takeFlight_35 (ws' := [(o_draft, .inr (0, [.ref o_draft_placeKind, .ref o_draft_placeX, .ref o_draft_placeY, .int v_draft_places, .ref o_draft_crowKind, .int v_draft_crows, .ref o_draft_now, g_draft_past, g_draft_pasts, g_draft_notes, g_draft_marks])), (o_draft_placeKind, .inl (y 0, 7, .inl f_draft_placeKind)), (o_draft_placeX, .inl (y 0, 7, .inl f_draft_placeX)), (o_draft_placeY, .inl (y 0, 7, .inl f_draft_placeY)), (o_draft_crowKind, .inl (y 0, 3, .inl f_draft_crowKind)), (o_draft_now, .inr (1, [.ref o_draft_now_at, .ref o_draft_now_tired, .ref o_draft_now_deedRows, .int v_draft_now_deeds, .int v_draft_now_hour])), (o_draft_now_at, .inl (y 0, 3, .inl f_draft_now_at)), (o_draft_now_tired, .inl (y 0, 3, .inl f_draft_now_tired)), (o_draft_now_deedRows, .inl (y 0, 36, .inl f_draft_now_deedRows)), (o, .inr (3, [.ref o_draft, .ref o_bytes, .int v_length, .int r6.2.1, .int r6.2.2.1, .int r6.2.2.2.1, .int r6.2.2.2.2])), (o_bytes, .inl (y 1, 150, .inl f_bytes))]) rfl (fun H locs hH => ?_)
    refine lv_if_eq (tgt := 60) K.x K.b dX4_takeFlight_38 (by decide) (fun c8 => ?_) (fun c8 => ?_)
    · replace h := z_t c8 h
      refine lv_iconst (v := (0)) K.x K.b dX4_takeFlight_60 (by decide) ?_
      have hr9 := Option.some.inj h
      obtain rfl := hr9
      rw [hQ]
      exact z_reti K hr hH [9, 0, 1, 2, 3, 4, 5, 6, 7, 8, 10] (by decide) rfl rfl rfl dX4_takeFlight_61
    · replace h := z_f c8 h
      refine lv_aload_n K.x K.b dX4_takeFlight_41 rfl (lv_at hl 1 rfl) ?_
      refine z_get K hH 9 rfl zin_4 rfl 0 (by decide) tw_1_162 (v := .ref o_draft) rfl dX4_takeFlight_42 ?_
      refine z_get K hH 0 rfl zin_0 rfl 6 (by decide) tw_1_94 (v := .ref o_draft_now) rfl dX4_takeFlight_45 ?_
      refine z_get K hH 5 rfl zin_1 rfl 0 (by decide) tw_1_37 (v := .ref o_draft_now_at) rfl dX4_takeFlight_48 ?_
      refine lv_iload_n K.x K.b dX4_takeFlight_51 rfl (lv_at hl 0 rfl) ?_
      obtain ⟨g9, h⟩ := z_gd_e h
      refine z_iald K hH 6 (k := r2.2.2.2.2.toNatClampNeg) rfl g9 rfl dX4_takeFlight_52 ?_
      refine lv_aload_n K.x K.b dX4_takeFlight_53 rfl (lv_at hl 1 rfl) ?_
      refine z_get K hH 9 rfl zin_4 rfl 6 (by decide) tw_1_169 (v := .int r6.2.2.2.2) rfl dX4_takeFlight_54 ?_
      refine lv_icmp_ne (tgt := 62) K.x K.b dX4_takeFlight_57 (by decide) (fun c10 => ?_) (fun c10 => ?_)
      · replace h := z_f c10 h
        refine lv_aload_n K.x K.b dX4_takeFlight_62 rfl (lv_at hl 1 rfl) ?_
        refine z_get K hH 9 rfl zin_4 rfl 0 (by decide) tw_1_162 (v := .ref o_draft) rfl dX4_takeFlight_63 ?_
        refine lv_aload_n K.x K.b dX4_takeFlight_66 rfl (lv_at hl 1 rfl) ?_
        refine z_get K hH 9 rfl zin_4 rfl 0 (by decide) tw_1_162 (v := .ref o_draft) rfl dX4_takeFlight_67 ?_
        refine z_get K hH 0 rfl zin_0 rfl 6 (by decide) tw_1_94 (v := .ref o_draft_now) rfl dX4_takeFlight_70 ?_
        refine lv_iload_n K.x K.b dX4_takeFlight_73 rfl (lv_at hl 0 rfl) ?_
        refine lv_aload_n K.x K.b dX4_takeFlight_74 rfl (lv_at hl 1 rfl) ?_
        refine z_get K hH 9 rfl zin_4 rfl 6 (by decide) tw_1_169 (v := .int r6.2.2.2.2) rfl dX4_takeFlight_75 ?_
        obtain ⟨r11, hr12, h⟩ := z_bd_e h
        refine z_Vi K hH hl.1 (c_X0_fly l D y o_draft o_draft_placeKind o_draft_placeX o_draft_placeY o_draft_crowKind o_draft_now o_draft_now_at o_draft_now_tired o_draft_now_deedRows (.int v_draft_places) (.int v_draft_crows) (.ref o_draft_now) (g_draft_past) (g_draft_pasts) (g_draft_notes) (g_draft_marks) f_draft_placeKind f_draft_placeX f_draft_placeY f_draft_crowKind v_draft_now_deeds v_draft_now_hour f_draft_now_at f_draft_now_tired f_draft_now_deedRows r2.2.2.2.2 r6.2.2.2.2 r11 hr12) (z_cwV K 3 tw_2_162 tw_2_163 tw_2_164 tw_1_2 tw_2_165 hd_X0_fly ⟨by decide, by decide⟩) [0, 1, 2, 3, 4, 5, 6, 7, 8] [9, 10] rfl (wr := [(o, .inr (3, [.ref o_draft, .ref o_bytes, .int v_length, .int r6.2.1, .int r6.2.2.1, .int r6.2.2.2.1, .int r6.2.2.2.2])), (o_bytes, .inl (y 1, 150, .inl f_bytes))]) rfl rfl rfl (by decide) rfl rfl rfl (As := [.ref o_draft_now, .int r2.2.2.2.2, .int r6.2.2.2.2]) (rest := []) rfl (Nat.le_of_ble_eq_true rfl) ⟨Nat.zero_le _, Nat.zero_le _⟩ dX4_takeFlight_78 (ws' := [(o, .inr (3, [.ref o_draft, .ref o_bytes, .int v_length, .int r6.2.1, .int r6.2.2.1, .int r6.2.2.2.1, .int r6.2.2.2.2])), (o_bytes, .inl (y 1, 150, .inl f_bytes)), (o_draft, .inr (0, [.ref o_draft_placeKind, .ref o_draft_placeX, .ref o_draft_placeY, .int v_draft_places, .ref o_draft_crowKind, .int v_draft_crows, .ref o_draft_now, g_draft_past, g_draft_pasts, g_draft_notes, g_draft_marks])), (o_draft_placeKind, .inl (y 0, 7, .inl f_draft_placeKind)), (o_draft_placeX, .inl (y 0, 7, .inl f_draft_placeX)), (o_draft_placeY, .inl (y 0, 7, .inl f_draft_placeY)), (o_draft_crowKind, .inl (y 0, 3, .inl f_draft_crowKind)), (o_draft_now, .inr (1, [.ref o_draft_now_at, .ref o_draft_now_tired, .ref o_draft_now_deedRows, .int r11.2.1, .int r11.2.2.1])), (o_draft_now_at, .inl (y 0, 3, .inl r11.2.2.2.1)), (o_draft_now_tired, .inl (y 0, 3, .inl r11.2.2.2.2.1)), (o_draft_now_deedRows, .inl (y 0, 36, .inl r11.2.2.2.2.2))]) rfl (fun H locs hH => ?_)
        refine lv_pop K.x K.b dX4_takeFlight_81 rfl ?_
        refine lv_aload_n K.x K.b dX4_takeFlight_82 rfl (lv_at hl 1 rfl) ?_
        obtain ⟨r13, hr14, h⟩ := z_bd_e h
        refine z_Vi K hH hl.1 (c_X4_takeStop l D y o o_bytes (.ref o_draft) v_length r6.2.1 r6.2.2.1 r6.2.2.2.1 r6.2.2.2.2 f_bytes r13 hr14) (z_cwV K 0 tw_2_137 tw_2_139 tw_0_7 tw_1_6 tw_2_140 hd_X4_takeStop ⟨by decide, by decide⟩) [0, 1] [2, 3, 4, 5, 6, 7, 8, 9, 10] rfl (wr := [(o_draft, .inr (0, [.ref o_draft_placeKind, .ref o_draft_placeX, .ref o_draft_placeY, .int v_draft_places, .ref o_draft_crowKind, .int v_draft_crows, .ref o_draft_now, g_draft_past, g_draft_pasts, g_draft_notes, g_draft_marks])), (o_draft_placeKind, .inl (y 0, 7, .inl f_draft_placeKind)), (o_draft_placeX, .inl (y 0, 7, .inl f_draft_placeX)), (o_draft_placeY, .inl (y 0, 7, .inl f_draft_placeY)), (o_draft_crowKind, .inl (y 0, 3, .inl f_draft_crowKind)), (o_draft_now, .inr (1, [.ref o_draft_now_at, .ref o_draft_now_tired, .ref o_draft_now_deedRows, .int r11.2.1, .int r11.2.2.1])), (o_draft_now_at, .inl (y 0, 3, .inl r11.2.2.2.1)), (o_draft_now_tired, .inl (y 0, 3, .inl r11.2.2.2.2.1)), (o_draft_now_deedRows, .inl (y 0, 36, .inl r11.2.2.2.2.2))]) rfl rfl rfl (by decide) rfl rfl rfl (As := []) (rest := []) rfl (Nat.le_of_ble_eq_true rfl) ⟨Nat.zero_le _, Nat.zero_le _⟩ dX4_takeFlight_83 (ws' := [(o_draft, .inr (0, [.ref o_draft_placeKind, .ref o_draft_placeX, .ref o_draft_placeY, .int v_draft_places, .ref o_draft_crowKind, .int v_draft_crows, .ref o_draft_now, g_draft_past, g_draft_pasts, g_draft_notes, g_draft_marks])), (o_draft_placeKind, .inl (y 0, 7, .inl f_draft_placeKind)), (o_draft_placeX, .inl (y 0, 7, .inl f_draft_placeX)), (o_draft_placeY, .inl (y 0, 7, .inl f_draft_placeY)), (o_draft_crowKind, .inl (y 0, 3, .inl f_draft_crowKind)), (o_draft_now, .inr (1, [.ref o_draft_now_at, .ref o_draft_now_tired, .ref o_draft_now_deedRows, .int r11.2.1, .int r11.2.2.1])), (o_draft_now_at, .inl (y 0, 3, .inl r11.2.2.2.1)), (o_draft_now_tired, .inl (y 0, 3, .inl r11.2.2.2.2.1)), (o_draft_now_deedRows, .inl (y 0, 36, .inl r11.2.2.2.2.2)), (o, .inr (3, [.ref o_draft, .ref o_bytes, .int v_length, .int r13.2.1, .int r13.2.2.1, .int r13.2.2.2.1, .int r13.2.2.2.2])), (o_bytes, .inl (y 1, 150, .inl f_bytes))]) rfl (fun H locs hH => ?_)
        obtain ⟨g15, h⟩ := z_gd_e h
        have hr9 := Option.some.inj h
        obtain rfl := hr9
        rw [hQ]
        exact z_reti K hr hH [9, 0, 1, 2, 3, 4, 5, 6, 7, 8, 10] (by decide) rfl rfl (z_bz_e g15) dX4_takeFlight_86
      · replace h := z_t c10 h
        refine lv_iconst (v := (0)) K.x K.b dX4_takeFlight_60 (by decide) ?_
        have hr9 := Option.some.inj h
        obtain rfl := hr9
        rw [hQ]
        exact z_reti K hr hH [9, 0, 1, 2, 3, 4, 5, 6, 7, 8, 10] (by decide) rfl rfl rfl dX4_takeFlight_61
  · replace h := z_t c4 h
    refine lv_iconst (v := (0)) K.x K.b dX4_takeFlight_17 (by decide) ?_
    have hr9 := Option.some.inj h
    obtain rfl := hr9
    rw [hQ]
    exact z_reti K hr hH [9, 0, 1, 2, 3, 4, 5, 6, 7, 8, 10] (by decide) rfl rfl rfl dX4_takeFlight_18
noncomputable def p_X4_takeRest (v_length : Int32) (v_next : Int32) (v_token : Int32) (v_start : Int32) (v_value : Int32) (v_draft_crows : Int32) (v_draft_now_hour : Int32) (f_draft_now_tired : (Nat → Int32)) (f_bytes : (Nat → Int32)) : Option (Int32 × Int32 × Int32 × Int32 × Int32 × Int32 × (Nat → Int32)) :=
  z_lt ((v_draft_crows - (1 : Int32))) fun x1 =>
  z_bd (p_X4_takeNumber v_length v_next v_token v_start v_value f_bytes (0 : Int32) x1) fun r2 =>
  if (r2.1 = 0) then
  (some ((0 : Int32), r2.2.1, r2.2.2.1, r2.2.2.2.1, r2.2.2.2.2, v_draft_now_hour, f_draft_now_tired)) else
  (z_bd (p_X1_sleep v_draft_now_hour f_draft_now_tired r2.2.2.2.2) fun r5 =>
  z_bd (p_X4_takeStop v_length r2.2.1 r2.2.2.1 r2.2.2.2.1 r2.2.2.2.2 f_bytes) fun r7 =>
  z_gd (z_bz r7.1) <|
  some (r7.1, r7.2.1, r7.2.2.1, r7.2.2.2.1, r7.2.2.2.2, r5.1, r5.2))
theorem hd_X4_takeRest : yX4_takeRest.cls = RX4 ∧ yX4_takeRest.cls ≠ "java/lang/invoke/MethodHandle" ∧ yX4_takeRest.cls ≠ "java/lang/invoke/VarHandle" ∧ (parseMethodDescriptor yX4_takeRest.desc).map (fun d => d.parameters.length) = some 0 := by decide +kernel
set_option maxHeartbeats 4000000 in
set_option maxRecDepth 100000 in
theorem c_X4_takeRest (l : Launch) (D : va_G) (y : Nat → ClassId) (o o_draft o_draft_now o_draft_now_tired o_bytes : Nat) (g_draft_placeKind g_draft_placeX g_draft_placeY g_draft_places g_draft_crowKind g_draft_past g_draft_pasts g_draft_notes g_draft_marks g_draft_now_at g_draft_now_deedRows g_draft_now_deeds : Value) (v_length : Int32) (v_next : Int32) (v_token : Int32) (v_start : Int32) (v_value : Int32) (v_draft_crows : Int32) (v_draft_now_hour : Int32) (f_draft_now_tired : (Nat → Int32)) (f_bytes : (Nat → Int32)) (r : Int32 × Int32 × Int32 × Int32 × Int32 × Int32 × (Nat → Int32)) (h : p_X4_takeRest v_length v_next v_token v_start v_value v_draft_crows v_draft_now_hour f_draft_now_tired f_bytes = some r) : z_MI l yX4_takeRest cX4_takeRest 1 (some .boolean) 4 82 D y [.ref o] [(o, .inr (3, [.ref o_draft, .ref o_bytes, .int v_length, .int v_next, .int v_token, .int v_start, .int v_value])), (o_draft, .inr (0, [g_draft_placeKind, g_draft_placeX, g_draft_placeY, g_draft_places, g_draft_crowKind, .int v_draft_crows, .ref o_draft_now, g_draft_past, g_draft_pasts, g_draft_notes, g_draft_marks])), (o_draft_now, .inr (1, [g_draft_now_at, .ref o_draft_now_tired, g_draft_now_deedRows, g_draft_now_deeds, .int v_draft_now_hour])), (o_draft_now_tired, .inl (y 0, 3, .inl f_draft_now_tired)), (o_bytes, .inl (y 1, 150, .inl f_bytes))] r.1 [(o, .inr (3, [.ref o_draft, .ref o_bytes, .int v_length, .int r.2.1, .int r.2.2.1, .int r.2.2.2.1, .int r.2.2.2.2.1])), (o_draft, .inr (0, [g_draft_placeKind, g_draft_placeX, g_draft_placeY, g_draft_places, g_draft_crowKind, .int v_draft_crows, .ref o_draft_now, g_draft_past, g_draft_pasts, g_draft_notes, g_draft_marks])), (o_draft_now, .inr (1, [g_draft_now_at, .ref o_draft_now_tired, g_draft_now_deedRows, g_draft_now_deeds, .int r.2.2.2.2.2.1])), (o_draft_now_tired, .inl (y 0, 3, .inl r.2.2.2.2.2.2)), (o_bytes, .inl (y 1, 150, .inl f_bytes))] := by
  unfold p_X4_takeRest at h
  refine z_enI (by decide) (Nat.le_of_ble_eq_true rfl) ?_
  intro p e s m args below meth c A ls hr K hH hl
  obtain ⟨Q, hQ⟩ : ∃ Q, Q = MQ below (z_Qi D y A r.1 [(o, .inr (3, [.ref o_draft, .ref o_bytes, .int v_length, .int r.2.1, .int r.2.2.1, .int r.2.2.2.1, .int r.2.2.2.2.1])), (o_draft, .inr (0, [g_draft_placeKind, g_draft_placeX, g_draft_placeY, g_draft_places, g_draft_crowKind, .int v_draft_crows, .ref o_draft_now, g_draft_past, g_draft_pasts, g_draft_notes, g_draft_marks])), (o_draft_now, .inr (1, [g_draft_now_at, .ref o_draft_now_tired, g_draft_now_deedRows, g_draft_now_deeds, .int r.2.2.2.2.2.1])), (o_draft_now_tired, .inl (y 0, 3, .inl r.2.2.2.2.2.2)), (o_bytes, .inl (y 1, 150, .inl f_bytes))]) args s 0 0 A := ⟨_, rfl⟩
  rw [← hQ]
  have hl : lv_has ls 1 [(0, .ref o)] := hl
  refine lv_aload_n K.x K.b dX4_takeRest_0 rfl (lv_at hl 0 rfl) ?_
  refine lv_iconst (v := (0)) K.x K.b dX4_takeRest_1 (by decide) ?_
  refine lv_aload_n K.x K.b dX4_takeRest_2 rfl (lv_at hl 0 rfl) ?_
  refine z_get K hH 0 rfl zin_4 rfl 0 (by decide) tw_1_162 (v := .ref o_draft) rfl dX4_takeRest_3 ?_
  refine z_get K hH 1 rfl zin_0 rfl 5 (by decide) tw_1_92 (v := .int v_draft_crows) rfl dX4_takeRest_6 ?_
  refine lv_iconst (v := (1)) K.x K.b dX4_takeRest_9 (by decide) ?_
  refine lv_isub K.x K.b dX4_takeRest_10 ?_
  obtain ⟨x1, ex1, h⟩ := z_lt_e h
  refine z_nm ex1 ?_
  obtain ⟨r2, hr3, h⟩ := z_bd_e h
  refine z_Vi K hH hl.1 (c_X4_takeNumber l D y o o_bytes (.ref o_draft) v_length v_next v_token v_start v_value f_bytes (0 : Int32) x1 r2 hr3) (z_cwV K 2 tw_2_146 tw_2_148 tw_0_9 tw_1_6 tw_2_149 hd_X4_takeNumber ⟨by decide, by decide⟩) [0, 4] [1, 2, 3] rfl (wr := [(o_draft, .inr (0, [g_draft_placeKind, g_draft_placeX, g_draft_placeY, g_draft_places, g_draft_crowKind, .int v_draft_crows, .ref o_draft_now, g_draft_past, g_draft_pasts, g_draft_notes, g_draft_marks])), (o_draft_now, .inr (1, [g_draft_now_at, .ref o_draft_now_tired, g_draft_now_deedRows, g_draft_now_deeds, .int v_draft_now_hour])), (o_draft_now_tired, .inl (y 0, 3, .inl f_draft_now_tired))]) rfl rfl rfl (by decide) rfl rfl rfl (As := [.int (0 : Int32), .int x1]) (rest := []) rfl (Nat.le_of_ble_eq_true rfl) ⟨Nat.zero_le _, Nat.zero_le _⟩ dX4_takeRest_11 (ws' := [(o_draft, .inr (0, [g_draft_placeKind, g_draft_placeX, g_draft_placeY, g_draft_places, g_draft_crowKind, .int v_draft_crows, .ref o_draft_now, g_draft_past, g_draft_pasts, g_draft_notes, g_draft_marks])), (o_draft_now, .inr (1, [g_draft_now_at, .ref o_draft_now_tired, g_draft_now_deedRows, g_draft_now_deeds, .int v_draft_now_hour])), (o_draft_now_tired, .inl (y 0, 3, .inl f_draft_now_tired)), (o, .inr (3, [.ref o_draft, .ref o_bytes, .int v_length, .int r2.2.1, .int r2.2.2.1, .int r2.2.2.2.1, .int r2.2.2.2.2])), (o_bytes, .inl (y 1, 150, .inl f_bytes))]) rfl (fun H locs hH => ?_)
  refine lv_if_ne (tgt := 19) K.x K.b dX4_takeRest_14 (by decide) (fun c4 => ?_) (fun c4 => ?_)
  · replace h := z_f c4 h
    refine lv_aload_n K.x K.b dX4_takeRest_19 rfl (lv_at hl 0 rfl) ?_
    refine z_get K hH 3 rfl zin_4 rfl 0 (by decide) tw_1_162 (v := .ref o_draft) rfl dX4_takeRest_20 ?_
    refine z_get K hH 0 rfl zin_0 rfl 6 (by decide) tw_1_94 (v := .ref o_draft_now) rfl dX4_takeRest_23 ?_
    refine lv_aload_n K.x K.b dX4_takeRest_26 rfl (lv_at hl 0 rfl) ?_
    refine z_get K hH 3 rfl zin_4 rfl 6 (by decide) tw_1_169 (v := .int r2.2.2.2.2) rfl dX4_takeRest_27 ?_
    obtain ⟨r5, hr6, h⟩ := z_bd_e h
    refine z_Vv K hH hl.1 (c_X1_sleep l D y o_draft_now o_draft_now_tired (g_draft_now_at) (g_draft_now_deedRows) (g_draft_now_deeds) v_draft_now_hour f_draft_now_tired r2.2.2.2.2 r5 hr6) (z_cwV K 1 tw_2_196 tw_2_197 tw_2_198 tw_1_3 tw_2_199 hd_X1_sleep ⟨by decide, by decide⟩) [1, 2] [0, 3, 4] rfl (wr := [(o_draft, .inr (0, [g_draft_placeKind, g_draft_placeX, g_draft_placeY, g_draft_places, g_draft_crowKind, .int v_draft_crows, .ref o_draft_now, g_draft_past, g_draft_pasts, g_draft_notes, g_draft_marks])), (o, .inr (3, [.ref o_draft, .ref o_bytes, .int v_length, .int r2.2.1, .int r2.2.2.1, .int r2.2.2.2.1, .int r2.2.2.2.2])), (o_bytes, .inl (y 1, 150, .inl f_bytes))]) rfl rfl rfl (by decide) rfl rfl rfl (As := [.int r2.2.2.2.2]) (rest := []) rfl (Nat.le_of_ble_eq_true rfl) ⟨Nat.zero_le _, Nat.zero_le _⟩ dX4_takeRest_30 (ws' := [(o_draft, .inr (0, [g_draft_placeKind, g_draft_placeX, g_draft_placeY, g_draft_places, g_draft_crowKind, .int v_draft_crows, .ref o_draft_now, g_draft_past, g_draft_pasts, g_draft_notes, g_draft_marks])), (o, .inr (3, [.ref o_draft, .ref o_bytes, .int v_length, .int r2.2.1, .int r2.2.2.1, .int r2.2.2.2.1, .int r2.2.2.2.2])), (o_bytes, .inl (y 1, 150, .inl f_bytes)), (o_draft_now, .inr (1, [g_draft_now_at, .ref o_draft_now_tired, g_draft_now_deedRows, g_draft_now_deeds, .int r5.1])), (o_draft_now_tired, .inl (y 0, 3, .inl r5.2))]) rfl (fun H locs hH => ?_)
    refine lv_aload_n K.x K.b dX4_takeRest_33 rfl (lv_at hl 0 rfl) ?_
    obtain ⟨r7, hr8, h⟩ := z_bd_e h
    refine z_Vi K hH hl.1 (c_X4_takeStop l D y o o_bytes (.ref o_draft) v_length r2.2.1 r2.2.2.1 r2.2.2.2.1 r2.2.2.2.2 f_bytes r7 hr8) (z_cwV K 0 tw_2_137 tw_2_139 tw_0_7 tw_1_6 tw_2_140 hd_X4_takeStop ⟨by decide, by decide⟩) [1, 2] [0, 3, 4] rfl (wr := [(o_draft, .inr (0, [g_draft_placeKind, g_draft_placeX, g_draft_placeY, g_draft_places, g_draft_crowKind, .int v_draft_crows, .ref o_draft_now, g_draft_past, g_draft_pasts, g_draft_notes, g_draft_marks])), (o_draft_now, .inr (1, [g_draft_now_at, .ref o_draft_now_tired, g_draft_now_deedRows, g_draft_now_deeds, .int r5.1])), (o_draft_now_tired, .inl (y 0, 3, .inl r5.2))]) rfl rfl rfl (by decide) rfl rfl rfl (As := []) (rest := []) rfl (Nat.le_of_ble_eq_true rfl) ⟨Nat.zero_le _, Nat.zero_le _⟩ dX4_takeRest_34 (ws' := [(o_draft, .inr (0, [g_draft_placeKind, g_draft_placeX, g_draft_placeY, g_draft_places, g_draft_crowKind, .int v_draft_crows, .ref o_draft_now, g_draft_past, g_draft_pasts, g_draft_notes, g_draft_marks])), (o_draft_now, .inr (1, [g_draft_now_at, .ref o_draft_now_tired, g_draft_now_deedRows, g_draft_now_deeds, .int r5.1])), (o_draft_now_tired, .inl (y 0, 3, .inl r5.2)), (o, .inr (3, [.ref o_draft, .ref o_bytes, .int v_length, .int r7.2.1, .int r7.2.2.1, .int r7.2.2.2.1, .int r7.2.2.2.2])), (o_bytes, .inl (y 1, 150, .inl f_bytes))]) rfl (fun H locs hH => ?_)
    obtain ⟨g9, h⟩ := z_gd_e h
    have hr9 := Option.some.inj h
    obtain rfl := hr9
    rw [hQ]
    exact z_reti K hr hH [3, 0, 1, 2, 4] (by decide) rfl rfl (z_bz_e g9) dX4_takeRest_37
  · replace h := z_t c4 h
    refine lv_iconst (v := (0)) K.x K.b dX4_takeRest_17 (by decide) ?_
    have hr9 := Option.some.inj h
    obtain rfl := hr9
    rw [hQ]
    exact z_reti K hr hH [3, 0, 1, 2, 4] (by decide) rfl rfl rfl dX4_takeRest_18
noncomputable def p_X4_takeHours (v_length : Int32) (v_next : Int32) (v_token : Int32) (v_start : Int32) (v_value : Int32) (v_draft_now_hour : Int32) (f_bytes : (Nat → Int32)) : Option (Int32 × Int32 × Int32 × Int32 × Int32 × Int32) :=
  z_bd (p_X4_takeNumber v_length v_next v_token v_start v_value f_bytes (1 : Int32) (99 : Int32)) fun r1 =>
  if (r1.1 = 0) then
  (some ((0 : Int32), r1.2.1, r1.2.2.1, r1.2.2.2.1, r1.2.2.2.2, v_draft_now_hour)) else
  (z_lt ((v_draft_now_hour + r1.2.2.2.2)) fun x4 =>
  z_bd (p_X4_takeStop v_length r1.2.1 r1.2.2.1 r1.2.2.2.1 r1.2.2.2.2 f_bytes) fun r5 =>
  z_gd (z_bz r5.1) <|
  some (r5.1, r5.2.1, r5.2.2.1, r5.2.2.2.1, r5.2.2.2.2, x4))
theorem hd_X4_takeHours : yX4_takeHours.cls = RX4 ∧ yX4_takeHours.cls ≠ "java/lang/invoke/MethodHandle" ∧ yX4_takeHours.cls ≠ "java/lang/invoke/VarHandle" ∧ (parseMethodDescriptor yX4_takeHours.desc).map (fun d => d.parameters.length) = some 0 := by decide +kernel
set_option maxHeartbeats 4000000 in
set_option maxRecDepth 100000 in
theorem c_X4_takeHours (l : Launch) (D : va_G) (y : Nat → ClassId) (o o_draft o_draft_now o_bytes : Nat) (g_draft_placeKind g_draft_placeX g_draft_placeY g_draft_places g_draft_crowKind g_draft_crows g_draft_past g_draft_pasts g_draft_notes g_draft_marks g_draft_now_at g_draft_now_tired g_draft_now_deedRows g_draft_now_deeds : Value) (v_length : Int32) (v_next : Int32) (v_token : Int32) (v_start : Int32) (v_value : Int32) (v_draft_now_hour : Int32) (f_bytes : (Nat → Int32)) (r : Int32 × Int32 × Int32 × Int32 × Int32 × Int32) (h : p_X4_takeHours v_length v_next v_token v_start v_value v_draft_now_hour f_bytes = some r) : z_MI l yX4_takeHours cX4_takeHours 1 (some .boolean) 4 82 D y [.ref o] [(o, .inr (3, [.ref o_draft, .ref o_bytes, .int v_length, .int v_next, .int v_token, .int v_start, .int v_value])), (o_draft, .inr (0, [g_draft_placeKind, g_draft_placeX, g_draft_placeY, g_draft_places, g_draft_crowKind, g_draft_crows, .ref o_draft_now, g_draft_past, g_draft_pasts, g_draft_notes, g_draft_marks])), (o_draft_now, .inr (1, [g_draft_now_at, g_draft_now_tired, g_draft_now_deedRows, g_draft_now_deeds, .int v_draft_now_hour])), (o_bytes, .inl (y 1, 150, .inl f_bytes))] r.1 [(o, .inr (3, [.ref o_draft, .ref o_bytes, .int v_length, .int r.2.1, .int r.2.2.1, .int r.2.2.2.1, .int r.2.2.2.2.1])), (o_draft, .inr (0, [g_draft_placeKind, g_draft_placeX, g_draft_placeY, g_draft_places, g_draft_crowKind, g_draft_crows, .ref o_draft_now, g_draft_past, g_draft_pasts, g_draft_notes, g_draft_marks])), (o_draft_now, .inr (1, [g_draft_now_at, g_draft_now_tired, g_draft_now_deedRows, g_draft_now_deeds, .int r.2.2.2.2.2])), (o_bytes, .inl (y 1, 150, .inl f_bytes))] := by
  unfold p_X4_takeHours at h
  refine z_enI (by decide) (Nat.le_of_ble_eq_true rfl) ?_
  intro p e s m args below meth c A ls hr K hH hl
  obtain ⟨Q, hQ⟩ : ∃ Q, Q = MQ below (z_Qi D y A r.1 [(o, .inr (3, [.ref o_draft, .ref o_bytes, .int v_length, .int r.2.1, .int r.2.2.1, .int r.2.2.2.1, .int r.2.2.2.2.1])), (o_draft, .inr (0, [g_draft_placeKind, g_draft_placeX, g_draft_placeY, g_draft_places, g_draft_crowKind, g_draft_crows, .ref o_draft_now, g_draft_past, g_draft_pasts, g_draft_notes, g_draft_marks])), (o_draft_now, .inr (1, [g_draft_now_at, g_draft_now_tired, g_draft_now_deedRows, g_draft_now_deeds, .int r.2.2.2.2.2])), (o_bytes, .inl (y 1, 150, .inl f_bytes))]) args s 0 0 A := ⟨_, rfl⟩
  rw [← hQ]
  have hl : lv_has ls 1 [(0, .ref o)] := hl
  refine lv_aload_n K.x K.b dX4_takeHours_0 rfl (lv_at hl 0 rfl) ?_
  refine lv_iconst (v := (1)) K.x K.b dX4_takeHours_1 (by decide) ?_
  refine lv_bipush (v := (99)) K.x K.b dX4_takeHours_2 (by decide) ?_
  obtain ⟨r1, hr2, h⟩ := z_bd_e h
  refine z_Vi K hH hl.1 (c_X4_takeNumber l D y o o_bytes (.ref o_draft) v_length v_next v_token v_start v_value f_bytes (1 : Int32) (99 : Int32) r1 hr2) (z_cwV K 2 tw_2_146 tw_2_148 tw_0_9 tw_1_6 tw_2_149 hd_X4_takeNumber ⟨by decide, by decide⟩) [0, 3] [1, 2] rfl (wr := [(o_draft, .inr (0, [g_draft_placeKind, g_draft_placeX, g_draft_placeY, g_draft_places, g_draft_crowKind, g_draft_crows, .ref o_draft_now, g_draft_past, g_draft_pasts, g_draft_notes, g_draft_marks])), (o_draft_now, .inr (1, [g_draft_now_at, g_draft_now_tired, g_draft_now_deedRows, g_draft_now_deeds, .int v_draft_now_hour]))]) rfl rfl rfl (by decide) rfl rfl rfl (As := [.int (1 : Int32), .int (99 : Int32)]) (rest := []) rfl (Nat.le_of_ble_eq_true rfl) ⟨Nat.zero_le _, Nat.zero_le _⟩ dX4_takeHours_4 (ws' := [(o_draft, .inr (0, [g_draft_placeKind, g_draft_placeX, g_draft_placeY, g_draft_places, g_draft_crowKind, g_draft_crows, .ref o_draft_now, g_draft_past, g_draft_pasts, g_draft_notes, g_draft_marks])), (o_draft_now, .inr (1, [g_draft_now_at, g_draft_now_tired, g_draft_now_deedRows, g_draft_now_deeds, .int v_draft_now_hour])), (o, .inr (3, [.ref o_draft, .ref o_bytes, .int v_length, .int r1.2.1, .int r1.2.2.1, .int r1.2.2.2.1, .int r1.2.2.2.2])), (o_bytes, .inl (y 1, 150, .inl f_bytes))]) rfl (fun H locs hH => ?_)
  refine lv_if_ne (tgt := 12) K.x K.b dX4_takeHours_7 (by decide) (fun c3 => ?_) (fun c3 => ?_)
  · replace h := z_f c3 h
    refine lv_aload_n K.x K.b dX4_takeHours_12 rfl (lv_at hl 0 rfl) ?_
    refine z_get K hH 2 rfl zin_4 rfl 0 (by decide) tw_1_162 (v := .ref o_draft) rfl dX4_takeHours_13 ?_
    refine z_get K hH 0 rfl zin_0 rfl 6 (by decide) tw_1_94 (v := .ref o_draft_now) rfl dX4_takeHours_16 ?_
    refine lv_dup K.x K.b dX4_takeHours_19 rfl ?_
    refine z_get K hH 1 rfl zin_1 rfl 4 (by decide) tw_1_49 (v := .int v_draft_now_hour) rfl dX4_takeHours_20 ?_
    refine lv_aload_n K.x K.b dX4_takeHours_23 rfl (lv_at hl 0 rfl) ?_
    refine z_get K hH 2 rfl zin_4 rfl 6 (by decide) tw_1_169 (v := .int r1.2.2.2.2) rfl dX4_takeHours_24 ?_
    refine lv_iadd K.x K.b dX4_takeHours_27 ?_
    obtain ⟨x4, ex4, h⟩ := z_lt_e h
    refine z_nm ex4 ?_
    refine z_put K hH 1 (ws' := [(o_draft, .inr (0, [g_draft_placeKind, g_draft_placeX, g_draft_placeY, g_draft_places, g_draft_crowKind, g_draft_crows, .ref o_draft_now, g_draft_past, g_draft_pasts, g_draft_notes, g_draft_marks])), (o_draft_now, .inr (1, [g_draft_now_at, g_draft_now_tired, g_draft_now_deedRows, g_draft_now_deeds, .int x4])), (o, .inr (3, [.ref o_draft, .ref o_bytes, .int v_length, .int r1.2.1, .int r1.2.2.1, .int r1.2.2.2.1, .int r1.2.2.2.2])), (o_bytes, .inl (y 1, 150, .inl f_bytes))]) rfl zin_1 rfl tyX1 tyX1_ok nmX1 4 (by decide) tw_1_49 rfl rfl rfl (Nat.le_of_ble_eq_true rfl) dX4_takeHours_28 rfl (fun H locs hH => ?_)
    refine lv_aload_n K.x K.b dX4_takeHours_31 rfl (lv_at hl 0 rfl) ?_
    obtain ⟨r5, hr6, h⟩ := z_bd_e h
    refine z_Vi K hH hl.1 (c_X4_takeStop l D y o o_bytes (.ref o_draft) v_length r1.2.1 r1.2.2.1 r1.2.2.2.1 r1.2.2.2.2 f_bytes r5 hr6) (z_cwV K 0 tw_2_137 tw_2_139 tw_0_7 tw_1_6 tw_2_140 hd_X4_takeStop ⟨by decide, by decide⟩) [2, 3] [0, 1] rfl (wr := [(o_draft, .inr (0, [g_draft_placeKind, g_draft_placeX, g_draft_placeY, g_draft_places, g_draft_crowKind, g_draft_crows, .ref o_draft_now, g_draft_past, g_draft_pasts, g_draft_notes, g_draft_marks])), (o_draft_now, .inr (1, [g_draft_now_at, g_draft_now_tired, g_draft_now_deedRows, g_draft_now_deeds, .int x4]))]) rfl rfl rfl (by decide) rfl rfl rfl (As := []) (rest := []) rfl (Nat.le_of_ble_eq_true rfl) ⟨Nat.zero_le _, Nat.zero_le _⟩ dX4_takeHours_32 (ws' := [(o_draft, .inr (0, [g_draft_placeKind, g_draft_placeX, g_draft_placeY, g_draft_places, g_draft_crowKind, g_draft_crows, .ref o_draft_now, g_draft_past, g_draft_pasts, g_draft_notes, g_draft_marks])), (o_draft_now, .inr (1, [g_draft_now_at, g_draft_now_tired, g_draft_now_deedRows, g_draft_now_deeds, .int x4])), (o, .inr (3, [.ref o_draft, .ref o_bytes, .int v_length, .int r5.2.1, .int r5.2.2.1, .int r5.2.2.2.1, .int r5.2.2.2.2])), (o_bytes, .inl (y 1, 150, .inl f_bytes))]) rfl (fun H locs hH => ?_)
    obtain ⟨g7, h⟩ := z_gd_e h
    have hr9 := Option.some.inj h
    obtain rfl := hr9
    rw [hQ]
    exact z_reti K hr hH [2, 0, 1, 3] (by decide) rfl rfl (z_bz_e g7) dX4_takeHours_35
  · replace h := z_t c3 h
    refine lv_iconst (v := (0)) K.x K.b dX4_takeHours_10 (by decide) ?_
    have hr9 := Option.some.inj h
    obtain rfl := hr9
    rw [hQ]
    exact z_reti K hr hH [2, 0, 1, 3] (by decide) rfl rfl rfl dX4_takeHours_11
