def p_X1_become (v_deeds : Int32) (v_hour : Int32) (f_at : (Nat → Int32)) (f_tired : (Nat → Int32)) (f_deedRows : (Nat → Int32)) (v_q1_deeds : Int32) (v_q1_hour : Int32) (f_q1_at : (Nat → Int32)) (f_q1_tired : (Nat → Int32)) (f_q1_deedRows : (Nat → Int32)) : Option (Int32 × Int32 × (Nat → Int32) × (Nat → Int32) × (Nat → Int32)) :=
  z_lt ((va_cpy f_q1_at f_at 0 0 3)) fun a1 =>
  z_lt ((va_cpy f_q1_tired f_tired 0 0 3)) fun a2 =>
  z_lt ((va_cpy f_q1_deedRows f_deedRows 0 0 36)) fun a3 =>
  some (v_q1_deeds, v_q1_hour, a1, a2, a3)
theorem hd_X1_become : yX1_become.cls = RX1 ∧ yX1_become.cls ≠ "java/lang/invoke/MethodHandle" ∧ yX1_become.cls ≠ "java/lang/invoke/VarHandle" ∧ (parseMethodDescriptor yX1_become.desc).map (fun d => d.parameters.length) = some 1 := by decide +kernel
set_option maxHeartbeats 4000000 in
set_option maxRecDepth 100000 in
theorem c_X1_become (l : Launch) (D : va_G) (y : Nat → ClassId) (o o_at o_tired o_deedRows o_q1 o_q1_at o_q1_tired o_q1_deedRows : Nat) (v_deeds : Int32) (v_hour : Int32) (f_at : (Nat → Int32)) (f_tired : (Nat → Int32)) (f_deedRows : (Nat → Int32)) (v_q1_deeds : Int32) (v_q1_hour : Int32) (f_q1_at : (Nat → Int32)) (f_q1_tired : (Nat → Int32)) (f_q1_deedRows : (Nat → Int32)) (r : Int32 × Int32 × (Nat → Int32) × (Nat → Int32) × (Nat → Int32)) (h : p_X1_become v_deeds v_hour f_at f_tired f_deedRows v_q1_deeds v_q1_hour f_q1_at f_q1_tired f_q1_deedRows = some r) : z_MV l yX1_become cX1_become 2 none 1 40 D y [.ref o, .ref o_q1] [(o, .inr (1, [.ref o_at, .ref o_tired, .ref o_deedRows, .int v_deeds, .int v_hour])), (o_at, .inl (y 0, 3, .inl f_at)), (o_tired, .inl (y 0, 3, .inl f_tired)), (o_deedRows, .inl (y 0, 36, .inl f_deedRows)), (o_q1, .inr (1, [.ref o_q1_at, .ref o_q1_tired, .ref o_q1_deedRows, .int v_q1_deeds, .int v_q1_hour])), (o_q1_at, .inl (y 0, 3, .inl f_q1_at)), (o_q1_tired, .inl (y 0, 3, .inl f_q1_tired)), (o_q1_deedRows, .inl (y 0, 36, .inl f_q1_deedRows))] [(o, .inr (1, [.ref o_at, .ref o_tired, .ref o_deedRows, .int r.1, .int r.2.1])), (o_at, .inl (y 0, 3, .inl r.2.2.1)), (o_tired, .inl (y 0, 3, .inl r.2.2.2.1)), (o_deedRows, .inl (y 0, 36, .inl r.2.2.2.2)), (o_q1, .inr (1, [.ref o_q1_at, .ref o_q1_tired, .ref o_q1_deedRows, .int v_q1_deeds, .int v_q1_hour])), (o_q1_at, .inl (y 0, 3, .inl f_q1_at)), (o_q1_tired, .inl (y 0, 3, .inl f_q1_tired)), (o_q1_deedRows, .inl (y 0, 36, .inl f_q1_deedRows))] := by
  unfold p_X1_become at h
  refine z_enV (by decide) (Nat.le_of_ble_eq_true rfl) ?_
  intro p e s m args below meth c A ls hr K hH hl
  obtain ⟨Q, hQ⟩ : ∃ Q, Q = MQ below (z_Qv D y A [(o, .inr (1, [.ref o_at, .ref o_tired, .ref o_deedRows, .int r.1, .int r.2.1])), (o_at, .inl (y 0, 3, .inl r.2.2.1)), (o_tired, .inl (y 0, 3, .inl r.2.2.2.1)), (o_deedRows, .inl (y 0, 36, .inl r.2.2.2.2)), (o_q1, .inr (1, [.ref o_q1_at, .ref o_q1_tired, .ref o_q1_deedRows, .int v_q1_deeds, .int v_q1_hour])), (o_q1_at, .inl (y 0, 3, .inl f_q1_at)), (o_q1_tired, .inl (y 0, 3, .inl f_q1_tired)), (o_q1_deedRows, .inl (y 0, 36, .inl f_q1_deedRows))]) args s 0 0 A := ⟨_, rfl⟩
  rw [← hQ]
  have hl : lv_has ls 2 [(0, .ref o), (1, .ref o_q1)] := hl
  refine lv_aload_n K.x K.b dX1_become_0 rfl (lv_at hl 1 rfl) ?_
  refine z_get K hH 4 rfl zin_1 rfl 0 (by decide) tw_1_36 (v := .ref o_q1_at) rfl dX1_become_1 ?_
  refine lv_iconst (v := (0)) K.x K.b dX1_become_4 (by decide) ?_
  refine lv_aload_n K.x K.b dX1_become_5 rfl (lv_at hl 0 rfl) ?_
  refine z_get K hH 0 rfl zin_1 rfl 0 (by decide) tw_1_36 (v := .ref o_at) rfl dX1_become_6 ?_
  refine lv_iconst (v := (0)) K.x K.b dX1_become_9 (by decide) ?_
  refine lv_iconst (v := (3)) K.x K.b dX1_become_10 (by decide) ?_
  obtain ⟨a1, ea1, h⟩ := z_lt_e h
  refine z_copy K hH (ws' := [(o, .inr (1, [.ref o_at, .ref o_tired, .ref o_deedRows, .int v_deeds, .int v_hour])), (o_at, .inl (y 0, 3, .inl a1)), (o_tired, .inl (y 0, 3, .inl f_tired)), (o_deedRows, .inl (y 0, 36, .inl f_deedRows)), (o_q1, .inr (1, [.ref o_q1_at, .ref o_q1_tired, .ref o_q1_deedRows, .int v_q1_deeds, .int v_q1_hour])), (o_q1_at, .inl (y 0, 3, .inl f_q1_at)), (o_q1_tired, .inl (y 0, 3, .inl f_q1_tired)), (o_q1_deedRows, .inl (y 0, 36, .inl f_q1_deedRows))]) hl.1 tw_2_187 tw_2_189 tw_2_188 tw_1_15 5 1 rfl rfl (by decide) (by decide) (by decide) (by decide) (by decide) (by decide) (Nat.le_of_ble_eq_true rfl) dX1_become_11 (by rw [ea1]; rfl) (fun H locs hH => ?_)
  refine lv_aload_n K.x K.b dX1_become_14 rfl (lv_at hl 1 rfl) ?_
  refine z_get K hH 4 rfl zin_1 rfl 1 (by decide) tw_1_40 (v := .ref o_q1_tired) rfl dX1_become_15 ?_
  refine lv_iconst (v := (0)) K.x K.b dX1_become_18 (by decide) ?_
  refine lv_aload_n K.x K.b dX1_become_19 rfl (lv_at hl 0 rfl) ?_
  refine z_get K hH 0 rfl zin_1 rfl 1 (by decide) tw_1_40 (v := .ref o_tired) rfl dX1_become_20 ?_
  refine lv_iconst (v := (0)) K.x K.b dX1_become_23 (by decide) ?_
  refine lv_iconst (v := (3)) K.x K.b dX1_become_24 (by decide) ?_
  obtain ⟨a2, ea2, h⟩ := z_lt_e h
  refine z_copy K hH (ws' := [(o, .inr (1, [.ref o_at, .ref o_tired, .ref o_deedRows, .int v_deeds, .int v_hour])), (o_at, .inl (y 0, 3, .inl a1)), (o_tired, .inl (y 0, 3, .inl a2)), (o_deedRows, .inl (y 0, 36, .inl f_deedRows)), (o_q1, .inr (1, [.ref o_q1_at, .ref o_q1_tired, .ref o_q1_deedRows, .int v_q1_deeds, .int v_q1_hour])), (o_q1_at, .inl (y 0, 3, .inl f_q1_at)), (o_q1_tired, .inl (y 0, 3, .inl f_q1_tired)), (o_q1_deedRows, .inl (y 0, 36, .inl f_q1_deedRows))]) hl.1 tw_2_187 tw_2_189 tw_2_188 tw_1_15 6 2 rfl rfl (by decide) (by decide) (by decide) (by decide) (by decide) (by decide) (Nat.le_of_ble_eq_true rfl) dX1_become_25 (by rw [ea2]; rfl) (fun H locs hH => ?_)
  refine lv_aload_n K.x K.b dX1_become_28 rfl (lv_at hl 1 rfl) ?_
  refine z_get K hH 4 rfl zin_1 rfl 2 (by decide) tw_1_43 (v := .ref o_q1_deedRows) rfl dX1_become_29 ?_
  refine lv_iconst (v := (0)) K.x K.b dX1_become_32 (by decide) ?_
  refine lv_aload_n K.x K.b dX1_become_33 rfl (lv_at hl 0 rfl) ?_
  refine z_get K hH 0 rfl zin_1 rfl 2 (by decide) tw_1_43 (v := .ref o_deedRows) rfl dX1_become_34 ?_
  refine lv_iconst (v := (0)) K.x K.b dX1_become_37 (by decide) ?_
  refine lv_bipush (v := (36)) K.x K.b dX1_become_38 (by decide) ?_
  obtain ⟨a3, ea3, h⟩ := z_lt_e h
  refine z_copy K hH (ws' := [(o, .inr (1, [.ref o_at, .ref o_tired, .ref o_deedRows, .int v_deeds, .int v_hour])), (o_at, .inl (y 0, 3, .inl a1)), (o_tired, .inl (y 0, 3, .inl a2)), (o_deedRows, .inl (y 0, 36, .inl a3)), (o_q1, .inr (1, [.ref o_q1_at, .ref o_q1_tired, .ref o_q1_deedRows, .int v_q1_deeds, .int v_q1_hour])), (o_q1_at, .inl (y 0, 3, .inl f_q1_at)), (o_q1_tired, .inl (y 0, 3, .inl f_q1_tired)), (o_q1_deedRows, .inl (y 0, 36, .inl f_q1_deedRows))]) hl.1 tw_2_187 tw_2_189 tw_2_188 tw_1_15 7 3 rfl rfl (by decide) (by decide) (by decide) (by decide) (by decide) (by decide) (Nat.le_of_ble_eq_true rfl) dX1_become_40 (by rw [ea3]; rfl) (fun H locs hH => ?_)
  refine lv_aload_n K.x K.b dX1_become_43 rfl (lv_at hl 0 rfl) ?_
  refine lv_aload_n K.x K.b dX1_become_44 rfl (lv_at hl 1 rfl) ?_
  refine z_get K hH 4 rfl zin_1 rfl 3 (by decide) tw_1_45 (v := .int v_q1_deeds) rfl dX1_become_45 ?_
  refine z_put K hH 0 (ws' := [(o, .inr (1, [.ref o_at, .ref o_tired, .ref o_deedRows, .int v_q1_deeds, .int v_hour])), (o_at, .inl (y 0, 3, .inl a1)), (o_tired, .inl (y 0, 3, .inl a2)), (o_deedRows, .inl (y 0, 36, .inl a3)), (o_q1, .inr (1, [.ref o_q1_at, .ref o_q1_tired, .ref o_q1_deedRows, .int v_q1_deeds, .int v_q1_hour])), (o_q1_at, .inl (y 0, 3, .inl f_q1_at)), (o_q1_tired, .inl (y 0, 3, .inl f_q1_tired)), (o_q1_deedRows, .inl (y 0, 36, .inl f_q1_deedRows))]) rfl zin_1 rfl tyX1 tyX1_ok nmX1 3 (by decide) tw_1_45 rfl rfl rfl (Nat.le_of_ble_eq_true rfl) dX1_become_48 rfl (fun H locs hH => ?_)
  refine lv_aload_n K.x K.b dX1_become_51 rfl (lv_at hl 0 rfl) ?_
  refine lv_aload_n K.x K.b dX1_become_52 rfl (lv_at hl 1 rfl) ?_
  refine z_get K hH 4 rfl zin_1 rfl 4 (by decide) tw_1_48 (v := .int v_q1_hour) rfl dX1_become_53 ?_
  refine z_put K hH 0 (ws' := [(o, .inr (1, [.ref o_at, .ref o_tired, .ref o_deedRows, .int v_q1_deeds, .int v_q1_hour])), (o_at, .inl (y 0, 3, .inl a1)), (o_tired, .inl (y 0, 3, .inl a2)), (o_deedRows, .inl (y 0, 36, .inl a3)), (o_q1, .inr (1, [.ref o_q1_at, .ref o_q1_tired, .ref o_q1_deedRows, .int v_q1_deeds, .int v_q1_hour])), (o_q1_at, .inl (y 0, 3, .inl f_q1_at)), (o_q1_tired, .inl (y 0, 3, .inl f_q1_tired)), (o_q1_deedRows, .inl (y 0, 36, .inl f_q1_deedRows))]) rfl zin_1 rfl tyX1 tyX1_ok nmX1 4 (by decide) tw_1_48 rfl rfl rfl (Nat.le_of_ble_eq_true rfl) dX1_become_56 rfl (fun H locs hH => ?_)
  have hr9 := Option.some.inj h
  obtain rfl := hr9
  rw [hQ]
  exact z_retv K hr hH [0, 1, 2, 3, 4, 5, 6, 7] (by decide) rfl dX1_become_59
def p_X2_made (p1 : Int32) (p2 : Int32) (p3 : Int32) (p4 : Int32) : Option (Int32) :=
  z_lt (((10 : Int32) * p2)) fun x1 =>
  z_bd (α := Int32) (if ((9 : Int32) ≤ p4) then
  (some (9 : Int32)) else
  (some p4)) fun j2 =>
  z_lt ((x1 + ((3 : Int32) * j2))) fun x3 =>
  z_lt ((x1 - p2)) fun x4 =>
  if p1 = 1 then
  (z_bd (α := Int32) (if (p3 < (12 : Int32)) then
  (some x1) else
  (some (x1 + (5 : Int32)))) fun j6 =>
  some j6) else
  (if p1 = 2 then
  (some x3) else
  (if p1 = 3 then
  (z_bd (α := Int32) (if (p4 < (3 : Int32)) then
  (some x3) else
  (some ((2 : Int32) * x3))) fun j10 =>
  some j10) else
  (if p1 = 4 then
  (some x4) else
  (if p1 = 5 then
  (z_bd (α := Int32) (if ((1 : Int32) ≤ x4) then
  (some x4) else
  (some (1 : Int32))) fun j14 =>
  some j14) else
  (some x1)))))
theorem hd_X2_made : yX2_made.cls ≠ "java/lang/invoke/MethodHandle" ∧ yX2_made.cls ≠ "java/lang/invoke/VarHandle" ∧ (parseMethodDescriptor yX2_made.desc).map (fun d => d.parameters.length) = some 4 := by decide +kernel
set_option maxHeartbeats 4000000 in
set_option maxRecDepth 100000 in
theorem c_X2_made (l : Launch) (D : va_G) (y : Nat → ClassId) (p1 : Int32) (p2 : Int32) (p3 : Int32) (p4 : Int32) (r : Int32) (h : p_X2_made p1 p2 p3 p4 = some r) : z_MI l yX2_made cX2_made 7 (some .int) 0 0 D y [.int p1, .int p2, .int p3, .int p4] [] r [] := by
  unfold p_X2_made at h
  refine z_enI (by decide) (Nat.le_of_ble_eq_true rfl) ?_
  intro p e s m args below meth c A ls hr K hH hl
  obtain ⟨Q, hQ⟩ : ∃ Q, Q = MQ below (z_Qi D y A r []) args s 0 0 A := ⟨_, rfl⟩
  rw [← hQ]
  have hl : lv_has ls 7 [(0, .int p1), (1, .int p2), (2, .int p3), (3, .int p4)] := hl
  refine lv_bipush (v := (10)) K.x K.b dX2_made_0 (by decide) ?_
  refine lv_iload_n K.x K.b dX2_made_2 rfl (lv_at hl 1 rfl) ?_
  refine lv_imul K.x K.b dX2_made_3 ?_
  obtain ⟨x1, ex1, h⟩ := z_lt_e h
  refine z_nm ex1 ?_
  refine lv_istore (lv' := [(4, .int x1), (0, .int p1), (1, .int p2), (2, .int p3), (3, .int p4)]) K.x K.b dX2_made_4 hl (by decide) rfl (fun ls hl => ?_)
  refine lv_iload K.x K.b dX2_made_6 (lv_at hl 0 rfl) ?_
  refine lv_iconst (v := (3)) K.x K.b dX2_made_8 (by decide) ?_
  refine lv_iload_n K.x K.b dX2_made_9 rfl (lv_at hl 4 rfl) ?_
  refine lv_bipush (v := (9)) K.x K.b dX2_made_10 (by decide) ?_
  obtain ⟨j2, hj2, h⟩ := z_bd_e h
  have Kj2 : ∀ (H : Heap) (locs : List Loc) (ls : Array Slot), z_H D A s.heap [] H locs → lv_has ls 7 [(0, .int p1), (1, .int p2), (2, .int p3), (3, .int p4), (4, .int x1)] → W p l e (zR 0 0) s m args below meth c H locs 0 0 Q (F0 m 21 ls [.int j2, .int (3 : Int32), .int x1]) := by
    intro H locs ls hH hl
    refine lv_imul K.x K.b dX2_made_21 ?_
    refine lv_iadd K.x K.b dX2_made_22 ?_
    obtain ⟨x3, ex3, h⟩ := z_lt_e h
    refine z_nm ex3 ?_
    refine lv_istore (lv' := [(5, .int x3), (0, .int p1), (1, .int p2), (2, .int p3), (3, .int p4), (4, .int x1)]) K.x K.b dX2_made_23 hl (by decide) rfl (fun ls hl => ?_)
    refine lv_iload K.x K.b dX2_made_25 (lv_at hl 5 rfl) ?_
    refine lv_iload_n K.x K.b dX2_made_27 rfl (lv_at hl 2 rfl) ?_
    refine lv_isub K.x K.b dX2_made_28 ?_
    obtain ⟨x4, ex4, h⟩ := z_lt_e h
    refine z_nm ex4 ?_
    refine lv_istore (lv' := [(6, .int x4), (5, .int x3), (0, .int p1), (1, .int p2), (2, .int p3), (3, .int p4), (4, .int x1)]) K.x K.b dX2_made_29 hl (by decide) rfl (fun ls hl => ?_)
    refine lv_iload_n K.x K.b dX2_made_31 rfl (lv_at hl 2 rfl) ?_
    by_cases c5 : p1 = 1
    · replace h := z_t c5 h
      refine lv_tableIn (tgt := 68) K.x K.b dX2_made_32 (by rw [c5]; decide) (by rw [c5]; decide) (by rw [c5]; rfl) (by decide) ?_
      refine lv_iload_n K.x K.b dX2_made_68 rfl (lv_at hl 4 rfl) ?_
      refine lv_bipush (v := (12)) K.x K.b dX2_made_69 (by decide) ?_
      obtain ⟨j6, hj6, h⟩ := z_bd_e h
      have Kj6 : ∀ (H : Heap) (locs : List Loc) (ls : Array Slot), z_H D A s.heap [] H locs → lv_has ls 7 [] → W p l e (zR 0 0) s m args below meth c H locs 0 0 Q (F0 m 83 ls [.int j6]) := by
        intro H locs ls hH hl
        have hr9 := Option.some.inj h
        obtain rfl := hr9
        rw [hQ]
        exact z_reti K hr hH [] (by decide) rfl rfl rfl dX2_made_83
      replace h := hj6
      refine lv_icmp_lt (tgt := 81) K.x K.b dX2_made_71 (by decide) (fun c7 => ?_) (fun c7 => ?_)
      · replace h := z_t c7 h
        refine lv_iload K.x K.b dX2_made_81 (lv_at hl 6 rfl) ?_
        obtain rfl := Option.some.inj h
        exact Kj6 _ _ _ hH (lv_sub hl [] rfl)
      · replace h := z_f c7 h
        refine lv_iload K.x K.b dX2_made_74 (lv_at hl 6 rfl) ?_
        refine lv_iconst (v := (5)) K.x K.b dX2_made_76 (by decide) ?_
        refine lv_iadd K.x K.b dX2_made_77 ?_
        refine lv_goto (tgt := 83) K.x K.b dX2_made_78 (by decide) ?_
        obtain rfl := Option.some.inj h
        exact Kj6 _ _ _ hH (lv_sub hl [] rfl)
    · replace h := z_f c5 h
      by_cases c8 : p1 = 2
      · replace h := z_t c8 h
        refine lv_tableIn (tgt := 84) K.x K.b dX2_made_32 (by rw [c8]; decide) (by rw [c8]; decide) (by rw [c8]; rfl) (by decide) ?_
        refine lv_iload K.x K.b dX2_made_84 (lv_at hl 1 rfl) ?_
        have hr9 := Option.some.inj h
        obtain rfl := hr9
        rw [hQ]
        exact z_reti K hr hH [] (by decide) rfl rfl rfl dX2_made_86
      · replace h := z_f c8 h
        by_cases c9 : p1 = 3
        · replace h := z_t c9 h
          refine lv_tableIn (tgt := 87) K.x K.b dX2_made_32 (by rw [c9]; decide) (by rw [c9]; decide) (by rw [c9]; rfl) (by decide) ?_
          refine lv_iload_n K.x K.b dX2_made_87 rfl (lv_at hl 5 rfl) ?_
          refine lv_iconst (v := (3)) K.x K.b dX2_made_88 (by decide) ?_
          obtain ⟨j10, hj10, h⟩ := z_bd_e h
          have Kj10 : ∀ (H : Heap) (locs : List Loc) (ls : Array Slot), z_H D A s.heap [] H locs → lv_has ls 7 [] → W p l e (zR 0 0) s m args below meth c H locs 0 0 Q (F0 m 101 ls [.int j10]) := by
            intro H locs ls hH hl
            have hr9 := Option.some.inj h
            obtain rfl := hr9
            rw [hQ]
            exact z_reti K hr hH [] (by decide) rfl rfl rfl dX2_made_101
          replace h := hj10
          refine lv_icmp_lt (tgt := 99) K.x K.b dX2_made_89 (by decide) (fun c11 => ?_) (fun c11 => ?_)
          · replace h := z_t c11 h
            refine lv_iload K.x K.b dX2_made_99 (lv_at hl 1 rfl) ?_
            obtain rfl := Option.some.inj h
            exact Kj10 _ _ _ hH (lv_sub hl [] rfl)
          · replace h := z_f c11 h
            refine lv_iconst (v := (2)) K.x K.b dX2_made_92 (by decide) ?_
            refine lv_iload K.x K.b dX2_made_93 (lv_at hl 1 rfl) ?_
            refine lv_imul K.x K.b dX2_made_95 ?_
            refine lv_goto (tgt := 101) K.x K.b dX2_made_96 (by decide) ?_
            obtain rfl := Option.some.inj h
            exact Kj10 _ _ _ hH (lv_sub hl [] rfl)
        · replace h := z_f c9 h
          by_cases c12 : p1 = 4
          · replace h := z_t c12 h
            refine lv_tableIn (tgt := 102) K.x K.b dX2_made_32 (by rw [c12]; decide) (by rw [c12]; decide) (by rw [c12]; rfl) (by decide) ?_
            refine lv_iload K.x K.b dX2_made_102 (lv_at hl 0 rfl) ?_
            have hr9 := Option.some.inj h
            obtain rfl := hr9
            rw [hQ]
            exact z_reti K hr hH [] (by decide) rfl rfl rfl dX2_made_104
          · replace h := z_f c12 h
            by_cases c13 : p1 = 5
            · replace h := z_t c13 h
              refine lv_tableIn (tgt := 105) K.x K.b dX2_made_32 (by rw [c13]; decide) (by rw [c13]; decide) (by rw [c13]; rfl) (by decide) ?_
              refine lv_iload K.x K.b dX2_made_105 (lv_at hl 0 rfl) ?_
              refine lv_iconst (v := (1)) K.x K.b dX2_made_107 (by decide) ?_
              obtain ⟨j14, hj14, h⟩ := z_bd_e h
              have Kj14 : ∀ (H : Heap) (locs : List Loc) (ls : Array Slot), z_H D A s.heap [] H locs → lv_has ls 7 [] → W p l e (zR 0 0) s m args below meth c H locs 0 0 Q (F0 m 117 ls [.int j14]) := by
                intro H locs ls hH hl
                have hr9 := Option.some.inj h
                obtain rfl := hr9
                rw [hQ]
                exact z_reti K hr hH [] (by decide) rfl rfl rfl dX2_made_117
              replace h := hj14
              refine lv_icmp_ge (tgt := 115) K.x K.b dX2_made_108 (by decide) (fun c15 => ?_) (fun c15 => ?_)
              · replace h := z_t c15 h
                refine lv_iload K.x K.b dX2_made_115 (lv_at hl 0 rfl) ?_
                obtain rfl := Option.some.inj h
                exact Kj14 _ _ _ hH (lv_sub hl [] rfl)
              · replace h := z_f c15 h
                refine lv_iconst (v := (1)) K.x K.b dX2_made_111 (by decide) ?_
                refine lv_goto (tgt := 117) K.x K.b dX2_made_112 (by decide) ?_
                obtain rfl := Option.some.inj h
                exact Kj14 _ _ _ hH (lv_sub hl [] rfl)
            · replace h := z_f c13 h
              have hsw : p1.toInt < 1 ∨ 5 < p1.toInt := by
                have ic5 : p1.toInt ≠ 1 := fun q => c5 (Int32.toInt_inj.mp (q.trans (by decide)))
                have ic8 : p1.toInt ≠ 2 := fun q => c8 (Int32.toInt_inj.mp (q.trans (by decide)))
                have ic9 : p1.toInt ≠ 3 := fun q => c9 (Int32.toInt_inj.mp (q.trans (by decide)))
                have ic12 : p1.toInt ≠ 4 := fun q => c12 (Int32.toInt_inj.mp (q.trans (by decide)))
                have ic13 : p1.toInt ≠ 5 := fun q => c13 (Int32.toInt_inj.mp (q.trans (by decide)))
                omega
              refine lv_tableOut (tgt := 118) K.x K.b dX2_made_32 hsw (by decide) ?_
              refine lv_iload K.x K.b dX2_made_118 (lv_at hl 6 rfl) ?_
              have hr9 := Option.some.inj h
              obtain rfl := hr9
              rw [hQ]
              exact z_reti K hr hH [] (by decide) rfl rfl rfl dX2_made_120
  replace h := hj2
  refine lv_icmp_ge (tgt := 19) K.x K.b dX2_made_12 (by decide) (fun c16 => ?_) (fun c16 => ?_)
  · replace h := z_t c16 h
    refine lv_bipush (v := (9)) K.x K.b dX2_made_19 (by decide) ?_
    obtain rfl := Option.some.inj h
    exact Kj2 _ _ _ hH (lv_sub hl [1, 2, 3, 4, 0] rfl)
  · replace h := z_f c16 h
    refine lv_iload_n K.x K.b dX2_made_15 rfl (lv_at hl 4 rfl) ?_
    refine lv_goto (tgt := 21) K.x K.b dX2_made_16 (by decide) ?_
    obtain rfl := Option.some.inj h
    exact Kj2 _ _ _ hH (lv_sub hl [1, 2, 3, 4, 0] rfl)
def p_X2_reach (p1 : Int32) (p2 : Int32) (p3 : Int32) : Option (Int32) :=
  z_bd (α := Int32) (if ((1 : Int32) ≤ (p2 - (7 : Int32))) then
  (some (p2 - (7 : Int32))) else
  (some (1 : Int32))) fun j1 =>
  z_lt (((p2 + (4 : Int32)) + (p3 - p3 / (3 : Int32) * (3 : Int32)))) fun x2 =>
  z_lt (((p2 / (10 : Int32)) * (10 : Int32))) fun x3 =>
  if p1 = 1 then
  (some j1) else
  (if p1 = 2 then
  (some x2) else
  (if p1 = 3 then
  (some (x2 + (x2 / (4 : Int32)))) else
  (if p1 = 4 then
  (z_bd (α := Int32) (if ((p3 - p3 / (2 : Int32) * (2 : Int32)) = 0) then
  (some ((j1 + (1 : Int32)) / (2 : Int32))) else
  (some j1)) fun j8 =>
  some j8) else
  (if p1 = 5 then
  (z_bd (α := Int32) (if ((10 : Int32) ≤ x3) then
  (some x3) else
  (some (10 : Int32))) fun j11 =>
  some j11) else
  (some p2)))))
theorem hd_X2_reach : yX2_reach.cls ≠ "java/lang/invoke/MethodHandle" ∧ yX2_reach.cls ≠ "java/lang/invoke/VarHandle" ∧ (parseMethodDescriptor yX2_reach.desc).map (fun d => d.parameters.length) = some 3 := by decide +kernel
set_option maxHeartbeats 4000000 in
set_option maxRecDepth 100000 in
theorem c_X2_reach (l : Launch) (D : va_G) (y : Nat → ClassId) (p1 : Int32) (p2 : Int32) (p3 : Int32) (r : Int32) (h : p_X2_reach p1 p2 p3 = some r) : z_MI l yX2_reach cX2_reach 6 (some .int) 0 0 D y [.int p1, .int p2, .int p3] [] r [] := by
  unfold p_X2_reach at h
  refine z_enI (by decide) (Nat.le_of_ble_eq_true rfl) ?_
  intro p e s m args below meth c A ls hr K hH hl
  obtain ⟨Q, hQ⟩ : ∃ Q, Q = MQ below (z_Qi D y A r []) args s 0 0 A := ⟨_, rfl⟩
  rw [← hQ]
  have hl : lv_has ls 6 [(0, .int p1), (1, .int p2), (2, .int p3)] := hl
  refine lv_iload_n K.x K.b dX2_reach_0 rfl (lv_at hl 1 rfl) ?_
  refine lv_bipush (v := (7)) K.x K.b dX2_reach_1 (by decide) ?_
  refine lv_isub K.x K.b dX2_reach_3 ?_
  refine lv_iconst (v := (1)) K.x K.b dX2_reach_4 (by decide) ?_
  obtain ⟨j1, hj1, h⟩ := z_bd_e h
  have Kj1 : ∀ (H : Heap) (locs : List Loc) (ls : Array Slot), z_H D A s.heap [] H locs → lv_has ls 6 [(0, .int p1), (1, .int p2), (2, .int p3)] → W p l e (zR 0 0) s m args below meth c H locs 0 0 Q (F0 m 16 ls [.int j1]) := by
    intro H locs ls hH hl
    refine lv_istore_n (lv' := [(3, .int j1), (0, .int p1), (1, .int p2), (2, .int p3)]) K.x K.b dX2_reach_16 rfl hl (by decide) rfl (fun ls hl => ?_)
    refine lv_iload_n K.x K.b dX2_reach_17 rfl (lv_at hl 2 rfl) ?_
    refine lv_iconst (v := (4)) K.x K.b dX2_reach_18 (by decide) ?_
    refine lv_iadd K.x K.b dX2_reach_19 ?_
    refine lv_iload_n K.x K.b dX2_reach_20 rfl (lv_at hl 3 rfl) ?_
    refine lv_iconst (v := (3)) K.x K.b dX2_reach_21 (by decide) ?_
    refine lv_irem K.x K.b dX2_reach_22 (by decide) ?_
    refine lv_iadd K.x K.b dX2_reach_23 ?_
    obtain ⟨x2, ex2, h⟩ := z_lt_e h
    refine z_nm ex2 ?_
    refine lv_istore (lv' := [(4, .int x2), (3, .int j1), (0, .int p1), (1, .int p2), (2, .int p3)]) K.x K.b dX2_reach_24 hl (by decide) rfl (fun ls hl => ?_)
    refine lv_iload_n K.x K.b dX2_reach_26 rfl (lv_at hl 3 rfl) ?_
    refine lv_bipush (v := (10)) K.x K.b dX2_reach_27 (by decide) ?_
    refine lv_idiv K.x K.b dX2_reach_29 (by decide) ?_
    refine lv_bipush (v := (10)) K.x K.b dX2_reach_30 (by decide) ?_
    refine lv_imul K.x K.b dX2_reach_32 ?_
    obtain ⟨x3, ex3, h⟩ := z_lt_e h
    refine z_nm ex3 ?_
    refine lv_istore (lv' := [(5, .int x3), (4, .int x2), (3, .int j1), (0, .int p1), (1, .int p2), (2, .int p3)]) K.x K.b dX2_reach_33 hl (by decide) rfl (fun ls hl => ?_)
    refine lv_iload_n K.x K.b dX2_reach_35 rfl (lv_at hl 3 rfl) ?_
    by_cases c4 : p1 = 1
    · replace h := z_t c4 h
      refine lv_tableIn (tgt := 72) K.x K.b dX2_reach_36 (by rw [c4]; decide) (by rw [c4]; decide) (by rw [c4]; rfl) (by decide) ?_
      refine lv_iload_n K.x K.b dX2_reach_72 rfl (lv_at hl 2 rfl) ?_
      have hr9 := Option.some.inj h
      obtain rfl := hr9
      rw [hQ]
      exact z_reti K hr hH [] (by decide) rfl rfl rfl dX2_reach_73
    · replace h := z_f c4 h
      by_cases c5 : p1 = 2
      · replace h := z_t c5 h
        refine lv_tableIn (tgt := 74) K.x K.b dX2_reach_36 (by rw [c5]; decide) (by rw [c5]; decide) (by rw [c5]; rfl) (by decide) ?_
        refine lv_iload K.x K.b dX2_reach_74 (lv_at hl 1 rfl) ?_
        have hr9 := Option.some.inj h
        obtain rfl := hr9
        rw [hQ]
        exact z_reti K hr hH [] (by decide) rfl rfl rfl dX2_reach_76
      · replace h := z_f c5 h
        by_cases c6 : p1 = 3
        · replace h := z_t c6 h
          refine lv_tableIn (tgt := 77) K.x K.b dX2_reach_36 (by rw [c6]; decide) (by rw [c6]; decide) (by rw [c6]; rfl) (by decide) ?_
          refine lv_iload K.x K.b dX2_reach_77 (lv_at hl 1 rfl) ?_
          refine lv_iload K.x K.b dX2_reach_79 (lv_at hl 1 rfl) ?_
          refine lv_iconst (v := (4)) K.x K.b dX2_reach_81 (by decide) ?_
          refine lv_idiv K.x K.b dX2_reach_82 (by decide) ?_
          refine lv_iadd K.x K.b dX2_reach_83 ?_
          have hr9 := Option.some.inj h
          obtain rfl := hr9
          rw [hQ]
          exact z_reti K hr hH [] (by decide) rfl rfl rfl dX2_reach_84
        · replace h := z_f c6 h
          by_cases c7 : p1 = 4
          · replace h := z_t c7 h
            refine lv_tableIn (tgt := 85) K.x K.b dX2_reach_36 (by rw [c7]; decide) (by rw [c7]; decide) (by rw [c7]; rfl) (by decide) ?_
            refine lv_iload_n K.x K.b dX2_reach_85 rfl (lv_at hl 5 rfl) ?_
            refine lv_iconst (v := (2)) K.x K.b dX2_reach_86 (by decide) ?_
            refine lv_irem K.x K.b dX2_reach_87 (by decide) ?_
            obtain ⟨j8, hj8, h⟩ := z_bd_e h
            have Kj8 : ∀ (H : Heap) (locs : List Loc) (ls : Array Slot), z_H D A s.heap [] H locs → lv_has ls 6 [] → W p l e (zR 0 0) s m args below meth c H locs 0 0 Q (F0 m 100 ls [.int j8]) := by
              intro H locs ls hH hl
              have hr9 := Option.some.inj h
              obtain rfl := hr9
              rw [hQ]
              exact z_reti K hr hH [] (by decide) rfl rfl rfl dX2_reach_100
            replace h := hj8
            refine lv_if_ne (tgt := 99) K.x K.b dX2_reach_88 (by decide) (fun c9 => ?_) (fun c9 => ?_)
            · replace h := z_f c9 h
              refine lv_iload_n K.x K.b dX2_reach_99 rfl (lv_at hl 2 rfl) ?_
              obtain rfl := Option.some.inj h
              exact Kj8 _ _ _ hH (lv_sub hl [] rfl)
            · replace h := z_t c9 h
              refine lv_iload_n K.x K.b dX2_reach_91 rfl (lv_at hl 2 rfl) ?_
              refine lv_iconst (v := (1)) K.x K.b dX2_reach_92 (by decide) ?_
              refine lv_iadd K.x K.b dX2_reach_93 ?_
              refine lv_iconst (v := (2)) K.x K.b dX2_reach_94 (by decide) ?_
              refine lv_idiv K.x K.b dX2_reach_95 (by decide) ?_
              refine lv_goto (tgt := 100) K.x K.b dX2_reach_96 (by decide) ?_
              obtain rfl := Option.some.inj h
              exact Kj8 _ _ _ hH (lv_sub hl [] rfl)
          · replace h := z_f c7 h
            by_cases c10 : p1 = 5
            · replace h := z_t c10 h
              refine lv_tableIn (tgt := 101) K.x K.b dX2_reach_36 (by rw [c10]; decide) (by rw [c10]; decide) (by rw [c10]; rfl) (by decide) ?_
              refine lv_iload K.x K.b dX2_reach_101 (lv_at hl 0 rfl) ?_
              refine lv_bipush (v := (10)) K.x K.b dX2_reach_103 (by decide) ?_
              obtain ⟨j11, hj11, h⟩ := z_bd_e h
              have Kj11 : ∀ (H : Heap) (locs : List Loc) (ls : Array Slot), z_H D A s.heap [] H locs → lv_has ls 6 [] → W p l e (zR 0 0) s m args below meth c H locs 0 0 Q (F0 m 115 ls [.int j11]) := by
                intro H locs ls hH hl
                have hr9 := Option.some.inj h
                obtain rfl := hr9
                rw [hQ]
                exact z_reti K hr hH [] (by decide) rfl rfl rfl dX2_reach_115
              replace h := hj11
              refine lv_icmp_ge (tgt := 113) K.x K.b dX2_reach_105 (by decide) (fun c12 => ?_) (fun c12 => ?_)
              · replace h := z_t c12 h
                refine lv_iload K.x K.b dX2_reach_113 (lv_at hl 0 rfl) ?_
                obtain rfl := Option.some.inj h
                exact Kj11 _ _ _ hH (lv_sub hl [] rfl)
              · replace h := z_f c12 h
                refine lv_bipush (v := (10)) K.x K.b dX2_reach_108 (by decide) ?_
                refine lv_goto (tgt := 115) K.x K.b dX2_reach_110 (by decide) ?_
                obtain rfl := Option.some.inj h
                exact Kj11 _ _ _ hH (lv_sub hl [] rfl)
            · replace h := z_f c10 h
              have hsw : p1.toInt < 1 ∨ 5 < p1.toInt := by
                have ic4 : p1.toInt ≠ 1 := fun q => c4 (Int32.toInt_inj.mp (q.trans (by decide)))
                have ic5 : p1.toInt ≠ 2 := fun q => c5 (Int32.toInt_inj.mp (q.trans (by decide)))
                have ic6 : p1.toInt ≠ 3 := fun q => c6 (Int32.toInt_inj.mp (q.trans (by decide)))
                have ic7 : p1.toInt ≠ 4 := fun q => c7 (Int32.toInt_inj.mp (q.trans (by decide)))
                have ic10 : p1.toInt ≠ 5 := fun q => c10 (Int32.toInt_inj.mp (q.trans (by decide)))
                omega
              refine lv_tableOut (tgt := 116) K.x K.b dX2_reach_36 hsw (by decide) ?_
              refine lv_iload_n K.x K.b dX2_reach_116 rfl (lv_at hl 4 rfl) ?_
              have hr9 := Option.some.inj h
              obtain rfl := hr9
              rw [hQ]
              exact z_reti K hr hH [] (by decide) rfl rfl rfl dX2_reach_117
  replace h := hj1
  refine lv_icmp_ge (tgt := 12) K.x K.b dX2_reach_5 (by decide) (fun c13 => ?_) (fun c13 => ?_)
  · replace h := z_t c13 h
    refine lv_iload_n K.x K.b dX2_reach_12 rfl (lv_at hl 1 rfl) ?_
    refine lv_bipush (v := (7)) K.x K.b dX2_reach_13 (by decide) ?_
    refine lv_isub K.x K.b dX2_reach_15 ?_
    obtain rfl := Option.some.inj h
    exact Kj1 _ _ _ hH (lv_sub hl [0, 1, 2] rfl)
  · replace h := z_f c13 h
    refine lv_iconst (v := (1)) K.x K.b dX2_reach_8 (by decide) ?_
    refine lv_goto (tgt := 16) K.x K.b dX2_reach_9 (by decide) ?_
    obtain rfl := Option.some.inj h
    exact Kj1 _ _ _ hH (lv_sub hl [0, 1, 2] rfl)
def p_X1_move (v_deeds : Int32) (v_hour : Int32) (f_at : (Nat → Int32)) (f_tired : (Nat → Int32)) (f_deedRows : (Nat → Int32)) (p1 : Int32) (p2 : Int32) (p3 : Int32) : Option (Int32 × Int32 × (Nat → Int32) × (Nat → Int32) × (Nat → Int32)) :=
  z_bd (α := Int32 × (Nat → Int32)) (if (v_deeds < (12 : Int32)) then
  (some (v_deeds, f_deedRows)) else
  (z_lt ((va_cpy f_deedRows f_deedRows 3 0 33)) fun a23 =>
  some ((11 : Int32), a23))) fun j1 =>
  z_lt ((j1.1 * (3 : Int32))) fun x2 =>
  z_gd (z_in p1 3) <|
  z_lt ((f_at p1.toNatClampNeg)) fun x4 =>
  z_gd (z_in x2 36) <|
  z_lt ((upd j1.2 x2.toNatClampNeg x4)) fun a6 =>
  z_lt ((x2 + (1 : Int32))) fun x7 =>
  z_gd (z_in x7 36) <|
  z_lt ((upd a6 x7.toNatClampNeg p2)) fun a9 =>
  z_lt ((x2 + (2 : Int32))) fun x10 =>
  z_gd (z_in x10 36) <|
  z_lt ((upd a9 x10.toNatClampNeg p3)) fun a12 =>
  z_lt ((j1.1 + (1 : Int32))) fun x13 =>
  z_gd (z_in p1 3) <|
  z_lt ((upd f_at p1.toNatClampNeg p2)) fun a15 =>
  z_gd (z_in p1 3) <|
  z_lt (((f_tired p1.toNatClampNeg) + (1 : Int32))) fun x17 =>
  z_lt ((if (99 : Int32) < x17 then (99 : Int32) else x17)) fun x18 =>
  z_gd (z_in p1 3) <|
  z_lt ((upd f_tired p1.toNatClampNeg x18)) fun a20 =>
  z_lt ((v_hour + (1 : Int32))) fun x21 =>
  some (x13, x21, a15, a20, a12)
theorem hd_X1_move : yX1_move.cls = RX1 ∧ yX1_move.cls ≠ "java/lang/invoke/MethodHandle" ∧ yX1_move.cls ≠ "java/lang/invoke/VarHandle" ∧ (parseMethodDescriptor yX1_move.desc).map (fun d => d.parameters.length) = some 3 := by decide +kernel
set_option maxHeartbeats 4000000 in
set_option maxRecDepth 100000 in
theorem c_X1_move (l : Launch) (D : va_G) (y : Nat → ClassId) (o o_at o_tired o_deedRows : Nat) (v_deeds : Int32) (v_hour : Int32) (f_at : (Nat → Int32)) (f_tired : (Nat → Int32)) (f_deedRows : (Nat → Int32)) (p1 : Int32) (p2 : Int32) (p3 : Int32) (r : Int32 × Int32 × (Nat → Int32) × (Nat → Int32) × (Nat → Int32)) (h : p_X1_move v_deeds v_hour f_at f_tired f_deedRows p1 p2 p3 = some r) : z_MV l yX1_move cX1_move 5 none 1 40 D y [.ref o, .int p1, .int p2, .int p3] [(o, .inr (1, [.ref o_at, .ref o_tired, .ref o_deedRows, .int v_deeds, .int v_hour])), (o_at, .inl (y 0, 3, .inl f_at)), (o_tired, .inl (y 0, 3, .inl f_tired)), (o_deedRows, .inl (y 0, 36, .inl f_deedRows))] [(o, .inr (1, [.ref o_at, .ref o_tired, .ref o_deedRows, .int r.1, .int r.2.1])), (o_at, .inl (y 0, 3, .inl r.2.2.1)), (o_tired, .inl (y 0, 3, .inl r.2.2.2.1)), (o_deedRows, .inl (y 0, 36, .inl r.2.2.2.2))] := by
  unfold p_X1_move at h
  refine z_enV (by decide) (Nat.le_of_ble_eq_true rfl) ?_
  intro p e s m args below meth c A ls hr K hH hl
  obtain ⟨Q, hQ⟩ : ∃ Q, Q = MQ below (z_Qv D y A [(o, .inr (1, [.ref o_at, .ref o_tired, .ref o_deedRows, .int r.1, .int r.2.1])), (o_at, .inl (y 0, 3, .inl r.2.2.1)), (o_tired, .inl (y 0, 3, .inl r.2.2.2.1)), (o_deedRows, .inl (y 0, 36, .inl r.2.2.2.2))]) args s 0 0 A := ⟨_, rfl⟩
  rw [← hQ]
  have hl : lv_has ls 5 [(0, .ref o), (1, .int p1), (2, .int p2), (3, .int p3)] := hl
  refine lv_aload_n K.x K.b dX1_move_0 rfl (lv_at hl 0 rfl) ?_
  refine z_get K hH 0 rfl zin_1 rfl 3 (by decide) tw_1_45 (v := .int v_deeds) rfl dX1_move_1 ?_
  refine lv_bipush (v := (12)) K.x K.b dX1_move_4 (by decide) ?_
  obtain ⟨j1, hj1, h⟩ := z_bd_e h
  have Kj1 : ∀ (H : Heap) (locs : List Loc) (ls : Array Slot), z_H D A s.heap [(o, .inr (1, [.ref o_at, .ref o_tired, .ref o_deedRows, .int j1.1, .int v_hour])), (o_at, .inl (y 0, 3, .inl f_at)), (o_tired, .inl (y 0, 3, .inl f_tired)), (o_deedRows, .inl (y 0, 36, .inl j1.2))] H locs → lv_has ls 5 [(0, .ref o), (1, .int p1), (2, .int p2), (3, .int p3)] → W p l e (zR 1 40) s m args below meth c H locs 0 0 Q (F0 m 30 ls []) := by
    intro H locs ls hH hl
    refine lv_aload_n K.x K.b dX1_move_30 rfl (lv_at hl 0 rfl) ?_
    refine z_get K hH 0 rfl zin_1 rfl 3 (by decide) tw_1_45 (v := .int j1.1) rfl dX1_move_31 ?_
    refine lv_iconst (v := (3)) K.x K.b dX1_move_34 (by decide) ?_
    refine lv_imul K.x K.b dX1_move_35 ?_
    obtain ⟨x2, ex2, h⟩ := z_lt_e h
    refine z_nm ex2 ?_
    refine lv_istore (lv' := [(4, .int x2), (0, .ref o), (1, .int p1), (2, .int p2), (3, .int p3)]) K.x K.b dX1_move_36 hl (by decide) rfl (fun ls hl => ?_)
    refine lv_aload_n K.x K.b dX1_move_38 rfl (lv_at hl 1 rfl) ?_
    refine z_get K hH 0 rfl zin_1 rfl 2 (by decide) tw_1_43 (v := .ref o_deedRows) rfl dX1_move_39 ?_
    refine lv_iload K.x K.b dX1_move_42 (lv_at hl 0 rfl) ?_
    refine lv_aload_n K.x K.b dX1_move_44 rfl (lv_at hl 1 rfl) ?_
    refine z_get K hH 0 rfl zin_1 rfl 0 (by decide) tw_1_36 (v := .ref o_at) rfl dX1_move_45 ?_
    refine lv_iload_n K.x K.b dX1_move_48 rfl (lv_at hl 2 rfl) ?_
    obtain ⟨g3, h⟩ := z_gd_e h
    refine z_iald K hH 1 (k := p1.toNatClampNeg) rfl g3 rfl dX1_move_49 ?_
    obtain ⟨x4, ex4, h⟩ := z_lt_e h
    refine z_nm ex4 ?_
    obtain ⟨g5, h⟩ := z_gd_e h
    obtain ⟨a6, ea6, h⟩ := z_lt_e h
    refine z_iast K hH 3 (k := x2.toNatClampNeg) (ws' := [(o, .inr (1, [.ref o_at, .ref o_tired, .ref o_deedRows, .int j1.1, .int v_hour])), (o_at, .inl (y 0, 3, .inl f_at)), (o_tired, .inl (y 0, 3, .inl f_tired)), (o_deedRows, .inl (y 0, 36, .inl a6))]) rfl g5 rfl dX1_move_50 (by rw [ea6]; rfl) (fun H locs hH => ?_)
    refine lv_aload_n K.x K.b dX1_move_51 rfl (lv_at hl 1 rfl) ?_
    refine z_get K hH 0 rfl zin_1 rfl 2 (by decide) tw_1_43 (v := .ref o_deedRows) rfl dX1_move_52 ?_
    refine lv_iload K.x K.b dX1_move_55 (lv_at hl 0 rfl) ?_
    refine lv_iconst (v := (1)) K.x K.b dX1_move_57 (by decide) ?_
    refine lv_iadd K.x K.b dX1_move_58 ?_
    refine lv_iload_n K.x K.b dX1_move_59 rfl (lv_at hl 3 rfl) ?_
    obtain ⟨x7, ex7, h⟩ := z_lt_e h
    refine z_nm2 ex7 ?_
    obtain ⟨g8, h⟩ := z_gd_e h
    obtain ⟨a9, ea9, h⟩ := z_lt_e h
    refine z_iast K hH 3 (k := x7.toNatClampNeg) (ws' := [(o, .inr (1, [.ref o_at, .ref o_tired, .ref o_deedRows, .int j1.1, .int v_hour])), (o_at, .inl (y 0, 3, .inl f_at)), (o_tired, .inl (y 0, 3, .inl f_tired)), (o_deedRows, .inl (y 0, 36, .inl a9))]) rfl g8 rfl dX1_move_60 (by rw [ea9]; rfl) (fun H locs hH => ?_)
    refine lv_aload_n K.x K.b dX1_move_61 rfl (lv_at hl 1 rfl) ?_
    refine z_get K hH 0 rfl zin_1 rfl 2 (by decide) tw_1_43 (v := .ref o_deedRows) rfl dX1_move_62 ?_
    refine lv_iload K.x K.b dX1_move_65 (lv_at hl 0 rfl) ?_
    refine lv_iconst (v := (2)) K.x K.b dX1_move_67 (by decide) ?_
    refine lv_iadd K.x K.b dX1_move_68 ?_
    refine lv_iload_n K.x K.b dX1_move_69 rfl (lv_at hl 4 rfl) ?_
    obtain ⟨x10, ex10, h⟩ := z_lt_e h
    refine z_nm2 ex10 ?_
    obtain ⟨g11, h⟩ := z_gd_e h
    obtain ⟨a12, ea12, h⟩ := z_lt_e h
    refine z_iast K hH 3 (k := x10.toNatClampNeg) (ws' := [(o, .inr (1, [.ref o_at, .ref o_tired, .ref o_deedRows, .int j1.1, .int v_hour])), (o_at, .inl (y 0, 3, .inl f_at)), (o_tired, .inl (y 0, 3, .inl f_tired)), (o_deedRows, .inl (y 0, 36, .inl a12))]) rfl g11 rfl dX1_move_70 (by rw [ea12]; rfl) (fun H locs hH => ?_)
    refine lv_aload_n K.x K.b dX1_move_71 rfl (lv_at hl 1 rfl) ?_
    refine lv_dup K.x K.b dX1_move_72 rfl ?_
    refine z_get K hH 0 rfl zin_1 rfl 3 (by decide) tw_1_45 (v := .int j1.1) rfl dX1_move_73 ?_
    refine lv_iconst (v := (1)) K.x K.b dX1_move_76 (by decide) ?_
    refine lv_iadd K.x K.b dX1_move_77 ?_
    obtain ⟨x13, ex13, h⟩ := z_lt_e h
    refine z_nm ex13 ?_
    refine z_put K hH 0 (ws' := [(o, .inr (1, [.ref o_at, .ref o_tired, .ref o_deedRows, .int x13, .int v_hour])), (o_at, .inl (y 0, 3, .inl f_at)), (o_tired, .inl (y 0, 3, .inl f_tired)), (o_deedRows, .inl (y 0, 36, .inl a12))]) rfl zin_1 rfl tyX1 tyX1_ok nmX1 3 (by decide) tw_1_45 rfl rfl rfl (Nat.le_of_ble_eq_true rfl) dX1_move_78 rfl (fun H locs hH => ?_)
    refine lv_aload_n K.x K.b dX1_move_81 rfl (lv_at hl 1 rfl) ?_
    refine z_get K hH 0 rfl zin_1 rfl 0 (by decide) tw_1_36 (v := .ref o_at) rfl dX1_move_82 ?_
    refine lv_iload_n K.x K.b dX1_move_85 rfl (lv_at hl 2 rfl) ?_
    refine lv_iload_n K.x K.b dX1_move_86 rfl (lv_at hl 3 rfl) ?_
    obtain ⟨g14, h⟩ := z_gd_e h
    obtain ⟨a15, ea15, h⟩ := z_lt_e h
    refine z_iast K hH 1 (k := p1.toNatClampNeg) (ws' := [(o, .inr (1, [.ref o_at, .ref o_tired, .ref o_deedRows, .int x13, .int v_hour])), (o_at, .inl (y 0, 3, .inl a15)), (o_tired, .inl (y 0, 3, .inl f_tired)), (o_deedRows, .inl (y 0, 36, .inl a12))]) rfl g14 rfl dX1_move_87 (by rw [ea15]; rfl) (fun H locs hH => ?_)
    refine lv_aload_n K.x K.b dX1_move_88 rfl (lv_at hl 1 rfl) ?_
    refine z_get K hH 0 rfl zin_1 rfl 1 (by decide) tw_1_40 (v := .ref o_tired) rfl dX1_move_89 ?_
    refine lv_iload_n K.x K.b dX1_move_92 rfl (lv_at hl 2 rfl) ?_
    refine lv_aload_n K.x K.b dX1_move_93 rfl (lv_at hl 1 rfl) ?_
    refine z_get K hH 0 rfl zin_1 rfl 1 (by decide) tw_1_40 (v := .ref o_tired) rfl dX1_move_94 ?_
    refine lv_iload_n K.x K.b dX1_move_97 rfl (lv_at hl 2 rfl) ?_
    obtain ⟨g16, h⟩ := z_gd_e h
    refine z_iald K hH 2 (k := p1.toNatClampNeg) rfl g16 rfl dX1_move_98 ?_
    refine lv_iconst (v := (1)) K.x K.b dX1_move_99 (by decide) ?_
    refine lv_iadd K.x K.b dX1_move_100 ?_
    refine lv_bipush (v := (99)) K.x K.b dX1_move_101 (by decide) ?_
    obtain ⟨x17, ex17, h⟩ := z_lt_e h
    refine z_nm2 ex17 ?_
    refine z_mmin K hl.1 tw_2_190 tw_2_59 tw_1_9 tw_2_60 (by decide) (Nat.le_of_ble_eq_true rfl) ⟨Nat.zero_le _, Nat.zero_le _⟩ dX1_move_103 ?_
    obtain ⟨x18, ex18, h⟩ := z_lt_e h
    refine z_nm ex18 ?_
    obtain ⟨g19, h⟩ := z_gd_e h
    obtain ⟨a20, ea20, h⟩ := z_lt_e h
    refine z_iast K hH 2 (k := p1.toNatClampNeg) (ws' := [(o, .inr (1, [.ref o_at, .ref o_tired, .ref o_deedRows, .int x13, .int v_hour])), (o_at, .inl (y 0, 3, .inl a15)), (o_tired, .inl (y 0, 3, .inl a20)), (o_deedRows, .inl (y 0, 36, .inl a12))]) rfl g19 rfl dX1_move_106 (by rw [ea20]; rfl) (fun H locs hH => ?_)
    refine lv_aload_n K.x K.b dX1_move_107 rfl (lv_at hl 1 rfl) ?_
    refine lv_dup K.x K.b dX1_move_108 rfl ?_
    refine z_get K hH 0 rfl zin_1 rfl 4 (by decide) tw_1_48 (v := .int v_hour) rfl dX1_move_109 ?_
    refine lv_iconst (v := (1)) K.x K.b dX1_move_112 (by decide) ?_
    refine lv_iadd K.x K.b dX1_move_113 ?_
    obtain ⟨x21, ex21, h⟩ := z_lt_e h
    refine z_nm ex21 ?_
    refine z_put K hH 0 (ws' := [(o, .inr (1, [.ref o_at, .ref o_tired, .ref o_deedRows, .int x13, .int x21])), (o_at, .inl (y 0, 3, .inl a15)), (o_tired, .inl (y 0, 3, .inl a20)), (o_deedRows, .inl (y 0, 36, .inl a12))]) rfl zin_1 rfl tyX1 tyX1_ok nmX1 4 (by decide) tw_1_48 rfl rfl rfl (Nat.le_of_ble_eq_true rfl) dX1_move_114 rfl (fun H locs hH => ?_)
    have hr9 := Option.some.inj h
    obtain rfl := hr9
    rw [hQ]
    exact z_retv K hr hH [0, 1, 2, 3] (by decide) rfl dX1_move_117
  replace h := hj1
  refine lv_icmp_lt (tgt := 30) K.x K.b dX1_move_6 (by decide) (fun c22 => ?_) (fun c22 => ?_)
  · replace h := z_t c22 h
    obtain rfl := Option.some.inj h
    exact Kj1 _ _ _ hH (lv_sub hl [0, 1, 2, 3] rfl)
  · replace h := z_f c22 h
    refine lv_aload_n K.x K.b dX1_move_9 rfl (lv_at hl 0 rfl) ?_
    refine z_get K hH 0 rfl zin_1 rfl 2 (by decide) tw_1_43 (v := .ref o_deedRows) rfl dX1_move_10 ?_
    refine lv_iconst (v := (3)) K.x K.b dX1_move_13 (by decide) ?_
    refine lv_aload_n K.x K.b dX1_move_14 rfl (lv_at hl 0 rfl) ?_
    refine z_get K hH 0 rfl zin_1 rfl 2 (by decide) tw_1_43 (v := .ref o_deedRows) rfl dX1_move_15 ?_
    refine lv_iconst (v := (0)) K.x K.b dX1_move_18 (by decide) ?_
    refine lv_bipush (v := (33)) K.x K.b dX1_move_19 (by decide) ?_
    obtain ⟨a23, ea23, h⟩ := z_lt_e h
    refine z_copy K hH (ws' := [(o, .inr (1, [.ref o_at, .ref o_tired, .ref o_deedRows, .int v_deeds, .int v_hour])), (o_at, .inl (y 0, 3, .inl f_at)), (o_tired, .inl (y 0, 3, .inl f_tired)), (o_deedRows, .inl (y 0, 36, .inl a23))]) hl.1 tw_2_187 tw_2_189 tw_2_188 tw_1_15 3 3 rfl rfl (by decide) (by decide) (by decide) (by decide) (by decide) (by decide) (Nat.le_of_ble_eq_true rfl) dX1_move_21 (by rw [ea23]; rfl) (fun H locs hH => ?_)
    refine lv_aload_n K.x K.b dX1_move_24 rfl (lv_at hl 0 rfl) ?_
    refine lv_bipush (v := (11)) K.x K.b dX1_move_25 (by decide) ?_
    refine z_put K hH 0 (ws' := [(o, .inr (1, [.ref o_at, .ref o_tired, .ref o_deedRows, .int (11 : Int32), .int v_hour])), (o_at, .inl (y 0, 3, .inl f_at)), (o_tired, .inl (y 0, 3, .inl f_tired)), (o_deedRows, .inl (y 0, 36, .inl a23))]) rfl zin_1 rfl tyX1 tyX1_ok nmX1 3 (by decide) tw_1_45 rfl rfl rfl (Nat.le_of_ble_eq_true rfl) dX1_move_27 rfl (fun H locs hH => ?_)
    obtain rfl := Option.some.inj h
    exact Kj1 _ _ _ hH (lv_sub hl [0, 1, 2, 3] rfl)
noncomputable def p_X1_mixDeeds (v_deeds : Int32) (f_deedRows : (Nat → Int32)) (p1 : Int64) : Option (Int64) :=
  z_bd (z_lp (S := Int32 × Int64) (E := Int64) (fun s1 =>
  if ((v_deeds * (3 : Int32)) ≤ s1.1) then
  (some (.inr s1.2)) else
  (z_gd (z_in s1.1 36) <|
  z_lt ((((31 : Int64) * s1.2) + (((f_deedRows s1.1.toNatClampNeg)).toInt64))) fun x6 =>
  z_lt (s1.1 + (1 : Int32)) fun x7 =>
  some (.inl (x7, x6)))) ((0 : Int32), p1)) fun e2 =>
  some e2
theorem hd_X1_mixDeeds : yX1_mixDeeds.cls = RX1 ∧ yX1_mixDeeds.cls ≠ "java/lang/invoke/MethodHandle" ∧ yX1_mixDeeds.cls ≠ "java/lang/invoke/VarHandle" ∧ (parseMethodDescriptor yX1_mixDeeds.desc).map (fun d => d.parameters.length) = some 1 := by decide +kernel
set_option maxHeartbeats 4000000 in
set_option maxRecDepth 100000 in
theorem c_X1_mixDeeds (l : Launch) (D : va_G) (y : Nat → ClassId) (o o_deedRows : Nat) (g_at g_tired g_hour : Value) (v_deeds : Int32) (f_deedRows : (Nat → Int32)) (p1 : Int64) (r : Int64) (h : p_X1_mixDeeds v_deeds f_deedRows p1 = some r) : z_ML l yX1_mixDeeds cX1_mixDeeds 6 (some .long) 0 0 D y [.ref o, .long p1] [(o, .inr (1, [g_at, g_tired, .ref o_deedRows, .int v_deeds, g_hour])), (o_deedRows, .inl (y 0, 36, .inl f_deedRows))] r [(o, .inr (1, [g_at, g_tired, .ref o_deedRows, .int v_deeds, g_hour])), (o_deedRows, .inl (y 0, 36, .inl f_deedRows))] := by
  unfold p_X1_mixDeeds at h
  refine z_enL (by decide) (Nat.le_of_ble_eq_true rfl) ?_
  intro p e s m args below meth c A ls hr K hH hl
  obtain ⟨Q, hQ⟩ : ∃ Q, Q = MQ below (z_Ql D y A r [(o, .inr (1, [g_at, g_tired, .ref o_deedRows, .int v_deeds, g_hour])), (o_deedRows, .inl (y 0, 36, .inl f_deedRows))]) args s 0 0 A := ⟨_, rfl⟩
  rw [← hQ]
  have hl : lv_has ls 6 [(0, .ref o), (1, .long p1)] := hl
  refine lv_lload_n K.x K.b dX1_mixDeeds_0 rfl (lv_at hl 1 rfl) ?_
  refine lv_lstore_n (lv' := [(3, .long p1), (0, .ref o), (1, .long p1)]) K.x K.b dX1_mixDeeds_1 rfl hl (by decide) rfl (fun ls hl => ?_)
  refine lv_iconst (v := (0)) K.x K.b dX1_mixDeeds_2 (by decide) ?_
  refine lv_istore (lv' := [(5, .int (0 : Int32)), (3, .long p1), (0, .ref o), (1, .long p1)]) K.x K.b dX1_mixDeeds_3 hl (by decide) rfl (fun ls hl => ?_)
  obtain ⟨e2, hlpe2, h⟩ := z_bd_e h
  have KEe2 : ∀ (H : Heap) (locs : List Loc) (ls : Array Slot), z_H D A s.heap [(o, .inr (1, [g_at, g_tired, .ref o_deedRows, .int v_deeds, g_hour])), (o_deedRows, .inl (y 0, 36, .inl f_deedRows))] H locs → lv_has ls 6 [(3, .long e2)] → W p l e (zR 0 0) s m args below meth c H locs 0 0 Q (F0 m 37 ls []) := by
    intro H locs ls hH hl
    refine lv_lload_n K.x K.b dX1_mixDeeds_37 rfl (lv_at hl 0 rfl) ?_
    have hr9 := Option.some.inj h
    obtain rfl := hr9
    rw [hQ]
    exact z_retl K hr hH [0, 1] (by decide) rfl rfl dX1_mixDeeds_38
  refine z_lp_ind (P := fun (s1 : Int32 × Int64) => ∀ (H : Heap) (locs : List Loc) (ls : Array Slot), z_H D A s.heap [(o, .inr (1, [g_at, g_tired, .ref o_deedRows, .int v_deeds, g_hour])), (o_deedRows, .inl (y 0, 36, .inl f_deedRows))] H locs → lv_has ls 6 [(0, .ref o), (3, .long s1.2), (5, .int s1.1)] → W p l e (zR 0 0) s m args below meth c H locs 0 0 Q (F0 m 5 ls [])) ?_ _ hlpe2 _ _ _ hH (lv_sub hl [2, 1, 0] rfl)
  clear h hlpe2
  intro s1 x3 h ihe2 hee2 H locs ls hH hl
  refine lv_iload K.x K.b dX1_mixDeeds_5 (lv_at hl 2 rfl) ?_
  refine lv_aload_n K.x K.b dX1_mixDeeds_7 rfl (lv_at hl 0 rfl) ?_
  refine z_get K hH 0 rfl zin_1 rfl 3 (by decide) tw_1_45 (v := .int v_deeds) rfl dX1_mixDeeds_8 ?_
  refine lv_iconst (v := (3)) K.x K.b dX1_mixDeeds_11 (by decide) ?_
  refine lv_imul K.x K.b dX1_mixDeeds_12 ?_
  refine lv_icmp_ge (tgt := 37) K.x K.b dX1_mixDeeds_13 (by decide) (fun c4 => ?_) (fun c4 => ?_)
  · replace h := z_t c4 h
    obtain rfl := hee2 _ (Option.some.inj h).symm
    exact KEe2 _ _ _ hH (lv_sub hl [1] rfl)
  · replace h := z_f c4 h
    refine z_ldc2 K tw_4_84 dX1_mixDeeds_16 ?_
    refine lv_lload_n K.x K.b dX1_mixDeeds_19 rfl (lv_at hl 1 rfl) ?_
    refine lv_lmul K.x K.b dX1_mixDeeds_20 ?_
    refine lv_aload_n K.x K.b dX1_mixDeeds_21 rfl (lv_at hl 0 rfl) ?_
    refine z_get K hH 0 rfl zin_1 rfl 2 (by decide) tw_1_43 (v := .ref o_deedRows) rfl dX1_mixDeeds_22 ?_
    refine lv_iload K.x K.b dX1_mixDeeds_25 (lv_at hl 2 rfl) ?_
    obtain ⟨g5, h⟩ := z_gd_e h
    refine z_iald K hH 1 (k := s1.1.toNatClampNeg) rfl g5 rfl dX1_mixDeeds_27 ?_
    refine lv_i2l K.x K.b dX1_mixDeeds_28 rfl ?_
    refine lv_ladd K.x K.b dX1_mixDeeds_29 ?_
    obtain ⟨x6, ex6, h⟩ := z_lt_e h
    refine z_nml ex6 ?_
    refine lv_lstore_n (lv' := [(3, .long x6), (0, .ref o), (5, .int s1.1)]) K.x K.b dX1_mixDeeds_30 rfl hl (by decide) rfl (fun ls hl => ?_)
    obtain ⟨x7, ex7, h⟩ := z_lt_e h
    refine lv_iinc (v := x7) (lv' := [(5, .int x7), (3, .long x6), (0, .ref o)]) K.x K.b dX1_mixDeeds_31 hl (k := 2) rfl (by rw [ex7]; rfl) (by decide) rfl (fun ls hl => ?_)
    refine lv_goto (tgt := 5) K.x K.b dX1_mixDeeds_34 (by decide) ?_
    exact ihe2 _ (Option.some.inj h).symm _ _ _ hH (lv_sub hl [2, 1, 0] rfl)
def p_X1_sleep (v_hour : Int32) (f_tired : (Nat → Int32)) (p1 : Int32) : Option (Int32 × (Nat → Int32)) :=
  z_gd (z_in p1 3) <|
  z_lt ((upd f_tired p1.toNatClampNeg (0 : Int32))) fun a2 =>
  z_lt ((v_hour + (8 : Int32))) fun x3 =>
  some (x3, a2)
theorem hd_X1_sleep : yX1_sleep.cls = RX1 ∧ yX1_sleep.cls ≠ "java/lang/invoke/MethodHandle" ∧ yX1_sleep.cls ≠ "java/lang/invoke/VarHandle" ∧ (parseMethodDescriptor yX1_sleep.desc).map (fun d => d.parameters.length) = some 1 := by decide +kernel
set_option maxHeartbeats 4000000 in
set_option maxRecDepth 100000 in
theorem c_X1_sleep (l : Launch) (D : va_G) (y : Nat → ClassId) (o o_tired : Nat) (g_at g_deedRows g_deeds : Value) (v_hour : Int32) (f_tired : (Nat → Int32)) (p1 : Int32) (r : Int32 × (Nat → Int32)) (h : p_X1_sleep v_hour f_tired p1 = some r) : z_MV l yX1_sleep cX1_sleep 2 none 0 0 D y [.ref o, .int p1] [(o, .inr (1, [g_at, .ref o_tired, g_deedRows, g_deeds, .int v_hour])), (o_tired, .inl (y 0, 3, .inl f_tired))] [(o, .inr (1, [g_at, .ref o_tired, g_deedRows, g_deeds, .int r.1])), (o_tired, .inl (y 0, 3, .inl r.2))] := by
  unfold p_X1_sleep at h
  refine z_enV (by decide) (Nat.le_of_ble_eq_true rfl) ?_
  intro p e s m args below meth c A ls hr K hH hl
  obtain ⟨Q, hQ⟩ : ∃ Q, Q = MQ below (z_Qv D y A [(o, .inr (1, [g_at, .ref o_tired, g_deedRows, g_deeds, .int r.1])), (o_tired, .inl (y 0, 3, .inl r.2))]) args s 0 0 A := ⟨_, rfl⟩
  rw [← hQ]
  have hl : lv_has ls 2 [(0, .ref o), (1, .int p1)] := hl
  refine lv_aload_n K.x K.b dX1_sleep_0 rfl (lv_at hl 0 rfl) ?_
  refine z_get K hH 0 rfl zin_1 rfl 1 (by decide) tw_1_40 (v := .ref o_tired) rfl dX1_sleep_1 ?_
  refine lv_iload_n K.x K.b dX1_sleep_4 rfl (lv_at hl 1 rfl) ?_
  refine lv_iconst (v := (0)) K.x K.b dX1_sleep_5 (by decide) ?_
  obtain ⟨g1, h⟩ := z_gd_e h
  obtain ⟨a2, ea2, h⟩ := z_lt_e h
  refine z_iast K hH 1 (k := p1.toNatClampNeg) (ws' := [(o, .inr (1, [g_at, .ref o_tired, g_deedRows, g_deeds, .int v_hour])), (o_tired, .inl (y 0, 3, .inl a2))]) rfl g1 rfl dX1_sleep_6 (by rw [ea2]; rfl) (fun H locs hH => ?_)
  refine lv_aload_n K.x K.b dX1_sleep_7 rfl (lv_at hl 0 rfl) ?_
  refine lv_dup K.x K.b dX1_sleep_8 rfl ?_
  refine z_get K hH 0 rfl zin_1 rfl 4 (by decide) tw_1_48 (v := .int v_hour) rfl dX1_sleep_9 ?_
  refine lv_bipush (v := (8)) K.x K.b dX1_sleep_12 (by decide) ?_
  refine lv_iadd K.x K.b dX1_sleep_14 ?_
  obtain ⟨x3, ex3, h⟩ := z_lt_e h
  refine z_nm ex3 ?_
  refine z_put K hH 0 (ws' := [(o, .inr (1, [g_at, .ref o_tired, g_deedRows, g_deeds, .int x3])), (o_tired, .inl (y 0, 3, .inl a2))]) rfl zin_1 rfl tyX1 tyX1_ok nmX1 4 (by decide) tw_1_48 rfl rfl rfl (Nat.le_of_ble_eq_true rfl) dX1_sleep_15 rfl (fun H locs hH => ?_)
  have hr9 := Option.some.inj h
  obtain rfl := hr9
  rw [hQ]
  exact z_retv K hr hH [0, 1] (by decide) rfl dX1_sleep_18
def p_X1_stopTheClock (v_hour : Int32) : Option (Int32) :=
  z_lt ((if (9999 : Int32) < v_hour then (9999 : Int32) else v_hour)) fun x1 =>
  some x1
theorem hd_X1_stopTheClock : yX1_stopTheClock.cls = RX1 ∧ yX1_stopTheClock.cls ≠ "java/lang/invoke/MethodHandle" ∧ yX1_stopTheClock.cls ≠ "java/lang/invoke/VarHandle" ∧ (parseMethodDescriptor yX1_stopTheClock.desc).map (fun d => d.parameters.length) = some 0 := by decide +kernel
set_option maxHeartbeats 4000000 in
set_option maxRecDepth 100000 in
theorem c_X1_stopTheClock (l : Launch) (D : va_G) (y : Nat → ClassId) (o : Nat) (g_at g_tired g_deedRows g_deeds : Value) (v_hour : Int32) (r : Int32) (h : p_X1_stopTheClock v_hour = some r) : z_MV l yX1_stopTheClock cX1_stopTheClock 1 none 1 40 D y [.ref o] [(o, .inr (1, [g_at, g_tired, g_deedRows, g_deeds, .int v_hour]))] [(o, .inr (1, [g_at, g_tired, g_deedRows, g_deeds, .int r]))] := by
  unfold p_X1_stopTheClock at h
  refine z_enV (by decide) (Nat.le_of_ble_eq_true rfl) ?_
  intro p e s m args below meth c A ls hr K hH hl
  obtain ⟨Q, hQ⟩ : ∃ Q, Q = MQ below (z_Qv D y A [(o, .inr (1, [g_at, g_tired, g_deedRows, g_deeds, .int r]))]) args s 0 0 A := ⟨_, rfl⟩
  rw [← hQ]
  have hl : lv_has ls 1 [(0, .ref o)] := hl
  refine lv_aload_n K.x K.b dX1_stopTheClock_0 rfl (lv_at hl 0 rfl) ?_
  refine lv_aload_n K.x K.b dX1_stopTheClock_1 rfl (lv_at hl 0 rfl) ?_
  refine z_get K hH 0 rfl zin_1 rfl 4 (by decide) tw_1_48 (v := .int v_hour) rfl dX1_stopTheClock_2 ?_
  refine lv_sipush (v := (9999)) K.x K.b dX1_stopTheClock_5 (by decide) ?_
  refine z_mmin K hl.1 tw_2_190 tw_2_59 tw_1_9 tw_2_60 (by decide) (Nat.le_of_ble_eq_true rfl) ⟨Nat.zero_le _, Nat.zero_le _⟩ dX1_stopTheClock_8 ?_
  obtain ⟨x1, ex1, h⟩ := z_lt_e h
  refine z_nm ex1 ?_
  refine z_put K hH 0 (ws' := [(o, .inr (1, [g_at, g_tired, g_deedRows, g_deeds, .int x1]))]) rfl zin_1 rfl tyX1 tyX1_ok nmX1 4 (by decide) tw_1_48 rfl rfl rfl (Nat.le_of_ble_eq_true rfl) dX1_stopTheClock_11 rfl (fun H locs hH => ?_)
  have hr9 := Option.some.inj h
  obtain rfl := hr9
  rw [hQ]
  exact z_retv K hr hH [0] (by decide) rfl dX1_stopTheClock_14
def p_X1_dropDeeds (v_deeds : Int32) : Option (Int32 × Int32) :=
  some (v_deeds, (0 : Int32))
theorem hd_X1_dropDeeds : yX1_dropDeeds.cls = RX1 ∧ yX1_dropDeeds.cls ≠ "java/lang/invoke/MethodHandle" ∧ yX1_dropDeeds.cls ≠ "java/lang/invoke/VarHandle" ∧ (parseMethodDescriptor yX1_dropDeeds.desc).map (fun d => d.parameters.length) = some 0 := by decide +kernel
set_option maxHeartbeats 4000000 in
set_option maxRecDepth 100000 in
theorem c_X1_dropDeeds (l : Launch) (D : va_G) (y : Nat → ClassId) (o : Nat) (g_at g_tired g_deedRows g_hour : Value) (v_deeds : Int32) (r : Int32 × Int32) (h : p_X1_dropDeeds v_deeds = some r) : z_MI l yX1_dropDeeds cX1_dropDeeds 2 (some .int) 0 0 D y [.ref o] [(o, .inr (1, [g_at, g_tired, g_deedRows, .int v_deeds, g_hour]))] r.1 [(o, .inr (1, [g_at, g_tired, g_deedRows, .int r.2, g_hour]))] := by
  unfold p_X1_dropDeeds at h
  refine z_enI (by decide) (Nat.le_of_ble_eq_true rfl) ?_
  intro p e s m args below meth c A ls hr K hH hl
  obtain ⟨Q, hQ⟩ : ∃ Q, Q = MQ below (z_Qi D y A r.1 [(o, .inr (1, [g_at, g_tired, g_deedRows, .int r.2, g_hour]))]) args s 0 0 A := ⟨_, rfl⟩
  rw [← hQ]
  have hl : lv_has ls 2 [(0, .ref o)] := hl
  refine lv_aload_n K.x K.b dX1_dropDeeds_0 rfl (lv_at hl 0 rfl) ?_
  refine z_get K hH 0 rfl zin_1 rfl 3 (by decide) tw_1_45 (v := .int v_deeds) rfl dX1_dropDeeds_1 ?_
  refine lv_istore_n (lv' := [(1, .int v_deeds), (0, .ref o)]) K.x K.b dX1_dropDeeds_4 rfl hl (by decide) rfl (fun ls hl => ?_)
  refine lv_aload_n K.x K.b dX1_dropDeeds_5 rfl (lv_at hl 1 rfl) ?_
  refine lv_iconst (v := (0)) K.x K.b dX1_dropDeeds_6 (by decide) ?_
  refine z_put K hH 0 (ws' := [(o, .inr (1, [g_at, g_tired, g_deedRows, .int (0 : Int32), g_hour]))]) rfl zin_1 rfl tyX1 tyX1_ok nmX1 3 (by decide) tw_1_45 rfl rfl rfl (Nat.le_of_ble_eq_true rfl) dX1_dropDeeds_7 rfl (fun H locs hH => ?_)
  refine lv_iload_n K.x K.b dX1_dropDeeds_10 rfl (lv_at hl 0 rfl) ?_
  have hr9 := Option.some.inj h
  obtain rfl := hr9
  rw [hQ]
  exact z_reti K hr hH [0] (by decide) rfl rfl rfl dX1_dropDeeds_11
def p_X1_deedEnds (f_deedRows : (Nat → Int32)) (p1 : Int32) : Option (Int32) :=
  z_lt ((p1 * (3 : Int32))) fun x1 =>
  z_gd (z_in x1 36) <|
  z_lt (((p1 * (3 : Int32)) + (1 : Int32))) fun x3 =>
  z_gd (z_in x3 36) <|
  some (((100 : Int32) * (f_deedRows x1.toNatClampNeg)) + ((10 : Int32) * (f_deedRows x3.toNatClampNeg)))
theorem hd_X1_deedEnds : yX1_deedEnds.cls = RX1 ∧ yX1_deedEnds.cls ≠ "java/lang/invoke/MethodHandle" ∧ yX1_deedEnds.cls ≠ "java/lang/invoke/VarHandle" ∧ (parseMethodDescriptor yX1_deedEnds.desc).map (fun d => d.parameters.length) = some 1 := by decide +kernel
set_option maxHeartbeats 4000000 in
set_option maxRecDepth 100000 in
theorem c_X1_deedEnds (l : Launch) (D : va_G) (y : Nat → ClassId) (o o_deedRows : Nat) (g_at g_tired g_deeds g_hour : Value) (f_deedRows : (Nat → Int32)) (p1 : Int32) (r : Int32) (h : p_X1_deedEnds f_deedRows p1 = some r) : z_MI l yX1_deedEnds cX1_deedEnds 2 (some .int) 0 0 D y [.ref o, .int p1] [(o, .inr (1, [g_at, g_tired, .ref o_deedRows, g_deeds, g_hour])), (o_deedRows, .inl (y 0, 36, .inl f_deedRows))] r [(o, .inr (1, [g_at, g_tired, .ref o_deedRows, g_deeds, g_hour])), (o_deedRows, .inl (y 0, 36, .inl f_deedRows))] := by
  unfold p_X1_deedEnds at h
  refine z_enI (by decide) (Nat.le_of_ble_eq_true rfl) ?_
  intro p e s m args below meth c A ls hr K hH hl
  obtain ⟨Q, hQ⟩ : ∃ Q, Q = MQ below (z_Qi D y A r [(o, .inr (1, [g_at, g_tired, .ref o_deedRows, g_deeds, g_hour])), (o_deedRows, .inl (y 0, 36, .inl f_deedRows))]) args s 0 0 A := ⟨_, rfl⟩
  rw [← hQ]
  have hl : lv_has ls 2 [(0, .ref o), (1, .int p1)] := hl
  refine lv_bipush (v := (100)) K.x K.b dX1_deedEnds_0 (by decide) ?_
  refine lv_aload_n K.x K.b dX1_deedEnds_2 rfl (lv_at hl 0 rfl) ?_
  refine z_get K hH 0 rfl zin_1 rfl 2 (by decide) tw_1_43 (v := .ref o_deedRows) rfl dX1_deedEnds_3 ?_
  refine lv_iload_n K.x K.b dX1_deedEnds_6 rfl (lv_at hl 1 rfl) ?_
  refine lv_iconst (v := (3)) K.x K.b dX1_deedEnds_7 (by decide) ?_
  refine lv_imul K.x K.b dX1_deedEnds_8 ?_
  obtain ⟨x1, ex1, h⟩ := z_lt_e h
  refine z_nm ex1 ?_
  obtain ⟨g2, h⟩ := z_gd_e h
  refine z_iald K hH 1 (k := x1.toNatClampNeg) rfl g2 rfl dX1_deedEnds_9 ?_
  refine lv_imul K.x K.b dX1_deedEnds_10 ?_
  refine lv_bipush (v := (10)) K.x K.b dX1_deedEnds_11 (by decide) ?_
  refine lv_aload_n K.x K.b dX1_deedEnds_13 rfl (lv_at hl 0 rfl) ?_
  refine z_get K hH 0 rfl zin_1 rfl 2 (by decide) tw_1_43 (v := .ref o_deedRows) rfl dX1_deedEnds_14 ?_
  refine lv_iload_n K.x K.b dX1_deedEnds_17 rfl (lv_at hl 1 rfl) ?_
  refine lv_iconst (v := (3)) K.x K.b dX1_deedEnds_18 (by decide) ?_
  refine lv_imul K.x K.b dX1_deedEnds_19 ?_
  refine lv_iconst (v := (1)) K.x K.b dX1_deedEnds_20 (by decide) ?_
  refine lv_iadd K.x K.b dX1_deedEnds_21 ?_
  obtain ⟨x3, ex3, h⟩ := z_lt_e h
  refine z_nm ex3 ?_
  obtain ⟨g4, h⟩ := z_gd_e h
  refine z_iald K hH 1 (k := x3.toNatClampNeg) rfl g4 rfl dX1_deedEnds_22 ?_
  refine lv_imul K.x K.b dX1_deedEnds_23 ?_
  refine lv_iadd K.x K.b dX1_deedEnds_24 ?_
  have hr9 := Option.some.inj h
  obtain rfl := hr9
  rw [hQ]
  exact z_reti K hr hH [0, 1] (by decide) rfl rfl rfl dX1_deedEnds_25
def p_X1_deedLength (f_deedRows : (Nat → Int32)) (p1 : Int32) : Option (Int32) :=
  z_lt (((p1 * (3 : Int32)) + (2 : Int32))) fun x1 =>
  z_gd (z_in x1 36) <|
  some (f_deedRows x1.toNatClampNeg)
theorem hd_X1_deedLength : yX1_deedLength.cls = RX1 ∧ yX1_deedLength.cls ≠ "java/lang/invoke/MethodHandle" ∧ yX1_deedLength.cls ≠ "java/lang/invoke/VarHandle" ∧ (parseMethodDescriptor yX1_deedLength.desc).map (fun d => d.parameters.length) = some 1 := by decide +kernel
set_option maxHeartbeats 4000000 in
set_option maxRecDepth 100000 in
theorem c_X1_deedLength (l : Launch) (D : va_G) (y : Nat → ClassId) (o o_deedRows : Nat) (g_at g_tired g_deeds g_hour : Value) (f_deedRows : (Nat → Int32)) (p1 : Int32) (r : Int32) (h : p_X1_deedLength f_deedRows p1 = some r) : z_MI l yX1_deedLength cX1_deedLength 2 (some .int) 0 0 D y [.ref o, .int p1] [(o, .inr (1, [g_at, g_tired, .ref o_deedRows, g_deeds, g_hour])), (o_deedRows, .inl (y 0, 36, .inl f_deedRows))] r [(o, .inr (1, [g_at, g_tired, .ref o_deedRows, g_deeds, g_hour])), (o_deedRows, .inl (y 0, 36, .inl f_deedRows))] := by
  unfold p_X1_deedLength at h
  refine z_enI (by decide) (Nat.le_of_ble_eq_true rfl) ?_
  intro p e s m args below meth c A ls hr K hH hl
  obtain ⟨Q, hQ⟩ : ∃ Q, Q = MQ below (z_Qi D y A r [(o, .inr (1, [g_at, g_tired, .ref o_deedRows, g_deeds, g_hour])), (o_deedRows, .inl (y 0, 36, .inl f_deedRows))]) args s 0 0 A := ⟨_, rfl⟩
  rw [← hQ]
  have hl : lv_has ls 2 [(0, .ref o), (1, .int p1)] := hl
  refine lv_aload_n K.x K.b dX1_deedLength_0 rfl (lv_at hl 0 rfl) ?_
  refine z_get K hH 0 rfl zin_1 rfl 2 (by decide) tw_1_43 (v := .ref o_deedRows) rfl dX1_deedLength_1 ?_
  refine lv_iload_n K.x K.b dX1_deedLength_4 rfl (lv_at hl 1 rfl) ?_
  refine lv_iconst (v := (3)) K.x K.b dX1_deedLength_5 (by decide) ?_
  refine lv_imul K.x K.b dX1_deedLength_6 ?_
  refine lv_iconst (v := (2)) K.x K.b dX1_deedLength_7 (by decide) ?_
  refine lv_iadd K.x K.b dX1_deedLength_8 ?_
  obtain ⟨x1, ex1, h⟩ := z_lt_e h
  refine z_nm ex1 ?_
  obtain ⟨g2, h⟩ := z_gd_e h
  refine z_iald K hH 1 (k := x1.toNatClampNeg) rfl g2 rfl dX1_deedLength_9 ?_
  have hr9 := Option.some.inj h
  obtain rfl := hr9
  rw [hQ]
  exact z_reti K hr hH [0, 1] (by decide) rfl rfl rfl dX1_deedLength_10
def p_X1_isDeed (f_deedRows : (Nat → Int32)) (p1 : Int32) (p2 : Int32) (p3 : Int32) : Option (Int32) :=
  z_lt ((p1 * (3 : Int32))) fun x1 =>
  z_gd (z_in x1 36) <|
  z_bd (α := Int32) (if ((f_deedRows x1.toNatClampNeg) = p2) then
  (z_lt (((p1 * (3 : Int32)) + (1 : Int32))) fun x6 =>
  z_gd (z_in x6 36) <|
  if ((f_deedRows x6.toNatClampNeg) = p3) then
  (some (1 : Int32)) else
  (some (0 : Int32))) else
  (some (0 : Int32))) fun j3 =>
  z_gd (z_bz j3) <|
  some j3
theorem hd_X1_isDeed : yX1_isDeed.cls = RX1 ∧ yX1_isDeed.cls ≠ "java/lang/invoke/MethodHandle" ∧ yX1_isDeed.cls ≠ "java/lang/invoke/VarHandle" ∧ (parseMethodDescriptor yX1_isDeed.desc).map (fun d => d.parameters.length) = some 3 := by decide +kernel
set_option maxHeartbeats 4000000 in
set_option maxRecDepth 100000 in
theorem c_X1_isDeed (l : Launch) (D : va_G) (y : Nat → ClassId) (o o_deedRows : Nat) (g_at g_tired g_deeds g_hour : Value) (f_deedRows : (Nat → Int32)) (p1 : Int32) (p2 : Int32) (p3 : Int32) (r : Int32) (h : p_X1_isDeed f_deedRows p1 p2 p3 = some r) : z_MI l yX1_isDeed cX1_isDeed 4 (some .boolean) 0 0 D y [.ref o, .int p1, .int p2, .int p3] [(o, .inr (1, [g_at, g_tired, .ref o_deedRows, g_deeds, g_hour])), (o_deedRows, .inl (y 0, 36, .inl f_deedRows))] r [(o, .inr (1, [g_at, g_tired, .ref o_deedRows, g_deeds, g_hour])), (o_deedRows, .inl (y 0, 36, .inl f_deedRows))] := by
  unfold p_X1_isDeed at h
  refine z_enI (by decide) (Nat.le_of_ble_eq_true rfl) ?_
  intro p e s m args below meth c A ls hr K hH hl
  obtain ⟨Q, hQ⟩ : ∃ Q, Q = MQ below (z_Qi D y A r [(o, .inr (1, [g_at, g_tired, .ref o_deedRows, g_deeds, g_hour])), (o_deedRows, .inl (y 0, 36, .inl f_deedRows))]) args s 0 0 A := ⟨_, rfl⟩
  rw [← hQ]
  have hl : lv_has ls 4 [(0, .ref o), (1, .int p1), (2, .int p2), (3, .int p3)] := hl
  refine lv_aload_n K.x K.b dX1_isDeed_0 rfl (lv_at hl 0 rfl) ?_
  refine z_get K hH 0 rfl zin_1 rfl 2 (by decide) tw_1_43 (v := .ref o_deedRows) rfl dX1_isDeed_1 ?_
  refine lv_iload_n K.x K.b dX1_isDeed_4 rfl (lv_at hl 1 rfl) ?_
  refine lv_iconst (v := (3)) K.x K.b dX1_isDeed_5 (by decide) ?_
  refine lv_imul K.x K.b dX1_isDeed_6 ?_
  obtain ⟨x1, ex1, h⟩ := z_lt_e h
  refine z_nm ex1 ?_
  obtain ⟨g2, h⟩ := z_gd_e h
  refine z_iald K hH 1 (k := x1.toNatClampNeg) rfl g2 rfl dX1_isDeed_7 ?_
  refine lv_iload_n K.x K.b dX1_isDeed_8 rfl (lv_at hl 2 rfl) ?_
  obtain ⟨j3, hj3, h⟩ := z_bd_e h
  have Kj3 : ∀ (H : Heap) (locs : List Loc) (ls : Array Slot), z_H D A s.heap [(o, .inr (1, [g_at, g_tired, .ref o_deedRows, g_deeds, g_hour])), (o_deedRows, .inl (y 0, 36, .inl f_deedRows))] H locs → lv_has ls 4 [] → W p l e (zR 0 0) s m args below meth c H locs 0 0 Q (F0 m 31 ls [.int j3]) := by
    intro H locs ls hH hl
    obtain ⟨g4, h⟩ := z_gd_e h
    have hr9 := Option.some.inj h
    obtain rfl := hr9
    rw [hQ]
    exact z_reti K hr hH [0, 1] (by decide) rfl rfl (z_bz_e g4) dX1_isDeed_31
  replace h := hj3
  refine lv_icmp_ne (tgt := 30) K.x K.b dX1_isDeed_9 (by decide) (fun c5 => ?_) (fun c5 => ?_)
  · replace h := z_f c5 h
    refine lv_iconst (v := (0)) K.x K.b dX1_isDeed_30 (by decide) ?_
    obtain rfl := Option.some.inj h
    exact Kj3 _ _ _ hH (lv_sub hl [] rfl)
  · replace h := z_t c5 h
    refine lv_aload_n K.x K.b dX1_isDeed_12 rfl (lv_at hl 0 rfl) ?_
    refine z_get K hH 0 rfl zin_1 rfl 2 (by decide) tw_1_43 (v := .ref o_deedRows) rfl dX1_isDeed_13 ?_
    refine lv_iload_n K.x K.b dX1_isDeed_16 rfl (lv_at hl 1 rfl) ?_
    refine lv_iconst (v := (3)) K.x K.b dX1_isDeed_17 (by decide) ?_
    refine lv_imul K.x K.b dX1_isDeed_18 ?_
    refine lv_iconst (v := (1)) K.x K.b dX1_isDeed_19 (by decide) ?_
    refine lv_iadd K.x K.b dX1_isDeed_20 ?_
    obtain ⟨x6, ex6, h⟩ := z_lt_e h
    refine z_nm ex6 ?_
    obtain ⟨g7, h⟩ := z_gd_e h
    refine z_iald K hH 1 (k := x6.toNatClampNeg) rfl g7 rfl dX1_isDeed_21 ?_
    refine lv_iload_n K.x K.b dX1_isDeed_22 rfl (lv_at hl 3 rfl) ?_
    refine lv_icmp_ne (tgt := 30) K.x K.b dX1_isDeed_23 (by decide) (fun c8 => ?_) (fun c8 => ?_)
    · replace h := z_f c8 h
      refine lv_iconst (v := (0)) K.x K.b dX1_isDeed_30 (by decide) ?_
      obtain rfl := Option.some.inj h
      exact Kj3 _ _ _ hH (lv_sub hl [] rfl)
    · replace h := z_t c8 h
      refine lv_iconst (v := (1)) K.x K.b dX1_isDeed_26 (by decide) ?_
      refine lv_goto (tgt := 31) K.x K.b dX1_isDeed_27 (by decide) ?_
      obtain rfl := Option.some.inj h
      exact Kj3 _ _ _ hH (lv_sub hl [] rfl)
noncomputable def p_X1_lengths (v_deeds : Int32) (f_deedRows : (Nat → Int32)) : Option (Int32) :=
  z_bd (z_lp (S := Int32 × Int32) (E := Int32) (fun s1 =>
  if (v_deeds ≤ s1.1) then
  (some (.inr s1.2)) else
  (z_bd (p_X1_deedLength f_deedRows s1.1) fun r5 =>
  z_lt ((s1.2 + r5)) fun x7 =>
  z_lt (s1.1 + (1 : Int32)) fun x8 =>
  some (.inl (x8, x7)))) ((0 : Int32), (0 : Int32))) fun e2 =>
  some e2
theorem hd_X1_lengths : yX1_lengths.cls = RX1 ∧ yX1_lengths.cls ≠ "java/lang/invoke/MethodHandle" ∧ yX1_lengths.cls ≠ "java/lang/invoke/VarHandle" ∧ (parseMethodDescriptor yX1_lengths.desc).map (fun d => d.parameters.length) = some 0 := by decide +kernel
set_option maxHeartbeats 4000000 in
set_option maxRecDepth 100000 in
theorem c_X1_lengths (l : Launch) (D : va_G) (y : Nat → ClassId) (o o_deedRows : Nat) (g_at g_tired g_hour : Value) (v_deeds : Int32) (f_deedRows : (Nat → Int32)) (r : Int32) (h : p_X1_lengths v_deeds f_deedRows = some r) : z_MI l yX1_lengths cX1_lengths 3 (some .int) 1 21 D y [.ref o] [(o, .inr (1, [g_at, g_tired, .ref o_deedRows, .int v_deeds, g_hour])), (o_deedRows, .inl (y 0, 36, .inl f_deedRows))] r [(o, .inr (1, [g_at, g_tired, .ref o_deedRows, .int v_deeds, g_hour])), (o_deedRows, .inl (y 0, 36, .inl f_deedRows))] := by
  unfold p_X1_lengths at h
  refine z_enI (by decide) (Nat.le_of_ble_eq_true rfl) ?_
  intro p e s m args below meth c A ls hr K hH hl
  obtain ⟨Q, hQ⟩ : ∃ Q, Q = MQ below (z_Qi D y A r [(o, .inr (1, [g_at, g_tired, .ref o_deedRows, .int v_deeds, g_hour])), (o_deedRows, .inl (y 0, 36, .inl f_deedRows))]) args s 0 0 A := ⟨_, rfl⟩
  rw [← hQ]
  have hl : lv_has ls 3 [(0, .ref o)] := hl
  refine lv_iconst (v := (0)) K.x K.b dX1_lengths_0 (by decide) ?_
  refine lv_istore_n (lv' := [(1, .int (0 : Int32)), (0, .ref o)]) K.x K.b dX1_lengths_1 rfl hl (by decide) rfl (fun ls hl => ?_)
  refine lv_iconst (v := (0)) K.x K.b dX1_lengths_2 (by decide) ?_
  refine lv_istore_n (lv' := [(2, .int (0 : Int32)), (1, .int (0 : Int32)), (0, .ref o)]) K.x K.b dX1_lengths_3 rfl hl (by decide) rfl (fun ls hl => ?_)
  obtain ⟨e2, hlpe2, h⟩ := z_bd_e h
  have KEe2 : ∀ (H : Heap) (locs : List Loc) (ls : Array Slot), z_H D A s.heap [(o, .inr (1, [g_at, g_tired, .ref o_deedRows, .int v_deeds, g_hour])), (o_deedRows, .inl (y 0, 36, .inl f_deedRows))] H locs → lv_has ls 3 [(1, .int e2)] → W p l e (zR 1 21) s m args below meth c H locs 0 0 Q (F0 m 26 ls []) := by
    intro H locs ls hH hl
    refine lv_iload_n K.x K.b dX1_lengths_26 rfl (lv_at hl 0 rfl) ?_
    have hr9 := Option.some.inj h
    obtain rfl := hr9
    rw [hQ]
    exact z_reti K hr hH [0, 1] (by decide) rfl rfl rfl dX1_lengths_27
  refine z_lp_ind (P := fun (s1 : Int32 × Int32) => ∀ (H : Heap) (locs : List Loc) (ls : Array Slot), z_H D A s.heap [(o, .inr (1, [g_at, g_tired, .ref o_deedRows, .int v_deeds, g_hour])), (o_deedRows, .inl (y 0, 36, .inl f_deedRows))] H locs → lv_has ls 3 [(0, .ref o), (1, .int s1.2), (2, .int s1.1)] → W p l e (zR 1 21) s m args below meth c H locs 0 0 Q (F0 m 4 ls [])) ?_ _ hlpe2 _ _ _ hH (lv_sub hl [2, 1, 0] rfl)
  clear h hlpe2
  intro s1 x3 h ihe2 hee2 H locs ls hH hl
  refine lv_iload_n K.x K.b dX1_lengths_4 rfl (lv_at hl 2 rfl) ?_
  refine lv_aload_n K.x K.b dX1_lengths_5 rfl (lv_at hl 0 rfl) ?_
  refine z_get K hH 0 rfl zin_1 rfl 3 (by decide) tw_1_45 (v := .int v_deeds) rfl dX1_lengths_6 ?_
  refine lv_icmp_ge (tgt := 26) K.x K.b dX1_lengths_9 (by decide) (fun c4 => ?_) (fun c4 => ?_)
  · replace h := z_t c4 h
    obtain rfl := hee2 _ (Option.some.inj h).symm
    exact KEe2 _ _ _ hH (lv_sub hl [1] rfl)
  · replace h := z_f c4 h
    refine lv_iload_n K.x K.b dX1_lengths_12 rfl (lv_at hl 1 rfl) ?_
    refine lv_aload_n K.x K.b dX1_lengths_13 rfl (lv_at hl 0 rfl) ?_
    refine lv_iload_n K.x K.b dX1_lengths_14 rfl (lv_at hl 2 rfl) ?_
    obtain ⟨r5, hr6, h⟩ := z_bd_e h
    refine z_Vi K hH hl.1 (c_X1_deedLength l D y o o_deedRows (g_at) (g_tired) (.int v_deeds) (g_hour) f_deedRows s1.1 r5 hr6) (z_cwV K 1 tw_3_142 tw_3_143 tw_3_144 tw_1_3 tw_3_145 hd_X1_deedLength ⟨by decide, by decide⟩) [0, 1] [] rfl (wr := []) rfl rfl rfl (by decide) rfl rfl rfl (As := [.int s1.1]) (rest := [.int s1.2]) rfl (Nat.le_of_ble_eq_true rfl) ⟨Nat.zero_le _, Nat.zero_le _⟩ dX1_lengths_15 (ws' := [(o, .inr (1, [g_at, g_tired, .ref o_deedRows, .int v_deeds, g_hour])), (o_deedRows, .inl (y 0, 36, .inl f_deedRows))]) rfl (fun H locs hH => ?_)
    refine lv_iadd K.x K.b dX1_lengths_18 ?_
    obtain ⟨x7, ex7, h⟩ := z_lt_e h
    refine z_nm ex7 ?_
    refine lv_istore_n (lv' := [(1, .int x7), (0, .ref o), (2, .int s1.1)]) K.x K.b dX1_lengths_19 rfl hl (by decide) rfl (fun ls hl => ?_)
    obtain ⟨x8, ex8, h⟩ := z_lt_e h
    refine lv_iinc (v := x8) (lv' := [(2, .int x8), (1, .int x7), (0, .ref o)]) K.x K.b dX1_lengths_20 hl (k := 2) rfl (by rw [ex8]; rfl) (by decide) rfl (fun ls hl => ?_)
    refine lv_goto (tgt := 4) K.x K.b dX1_lengths_23 (by decide) ?_
    exact ihe2 _ (Option.some.inj h).symm _ _ _ hH (lv_sub hl [2, 1, 0] rfl)
noncomputable def p_X1_apartFrom (v_deeds : Int32) (f_deedRows : (Nat → Int32)) (p1 : Int32) (p2 : Int32) (p3 : Int32) : Option (Int32) :=
  z_bd (z_lp (S := Int32 × Int32) (E := Int32) (fun s1 =>
  if (v_deeds ≤ s1.1) then
  (some (.inr s1.2)) else
  (z_bd (p_X1_isDeed f_deedRows s1.1 p1 p2) fun r5 =>
  z_bd (α := Int32) (if (r5 = 0) then
  (some s1.2) else
  (z_bd (p_X1_deedLength f_deedRows s1.1) fun r10 =>
  z_lt ((r10 - p3)) fun x12 =>
  z_lt ((s1.2 + (if 0 ≤ x12 then x12 else 0 - x12))) fun x13 =>
  some x13)) fun j7 =>
  z_lt (s1.1 + (1 : Int32)) fun x8 =>
  some (.inl (x8, j7)))) ((0 : Int32), (0 : Int32))) fun e2 =>
  some e2
theorem hd_X1_apartFrom : yX1_apartFrom.cls = RX1 ∧ yX1_apartFrom.cls ≠ "java/lang/invoke/MethodHandle" ∧ yX1_apartFrom.cls ≠ "java/lang/invoke/VarHandle" ∧ (parseMethodDescriptor yX1_apartFrom.desc).map (fun d => d.parameters.length) = some 3 := by decide +kernel
set_option maxHeartbeats 4000000 in
set_option maxRecDepth 100000 in
theorem c_X1_apartFrom (l : Launch) (D : va_G) (y : Nat → ClassId) (o o_deedRows : Nat) (g_at g_tired g_hour : Value) (v_deeds : Int32) (f_deedRows : (Nat → Int32)) (p1 : Int32) (p2 : Int32) (p3 : Int32) (r : Int32) (h : p_X1_apartFrom v_deeds f_deedRows p1 p2 p3 = some r) : z_MI l yX1_apartFrom cX1_apartFrom 6 (some .int) 1 40 D y [.ref o, .int p1, .int p2, .int p3] [(o, .inr (1, [g_at, g_tired, .ref o_deedRows, .int v_deeds, g_hour])), (o_deedRows, .inl (y 0, 36, .inl f_deedRows))] r [(o, .inr (1, [g_at, g_tired, .ref o_deedRows, .int v_deeds, g_hour])), (o_deedRows, .inl (y 0, 36, .inl f_deedRows))] := by
  unfold p_X1_apartFrom at h
  refine z_enI (by decide) (Nat.le_of_ble_eq_true rfl) ?_
  intro p e s m args below meth c A ls hr K hH hl
  obtain ⟨Q, hQ⟩ : ∃ Q, Q = MQ below (z_Qi D y A r [(o, .inr (1, [g_at, g_tired, .ref o_deedRows, .int v_deeds, g_hour])), (o_deedRows, .inl (y 0, 36, .inl f_deedRows))]) args s 0 0 A := ⟨_, rfl⟩
  rw [← hQ]
  have hl : lv_has ls 6 [(0, .ref o), (1, .int p1), (2, .int p2), (3, .int p3)] := hl
  refine lv_iconst (v := (0)) K.x K.b dX1_apartFrom_0 (by decide) ?_
  refine lv_istore (lv' := [(4, .int (0 : Int32)), (0, .ref o), (1, .int p1), (2, .int p2), (3, .int p3)]) K.x K.b dX1_apartFrom_1 hl (by decide) rfl (fun ls hl => ?_)
  refine lv_iconst (v := (0)) K.x K.b dX1_apartFrom_3 (by decide) ?_
  refine lv_istore (lv' := [(5, .int (0 : Int32)), (4, .int (0 : Int32)), (0, .ref o), (1, .int p1), (2, .int p2), (3, .int p3)]) K.x K.b dX1_apartFrom_4 hl (by decide) rfl (fun ls hl => ?_)
  obtain ⟨e2, hlpe2, h⟩ := z_bd_e h
  have KEe2 : ∀ (H : Heap) (locs : List Loc) (ls : Array Slot), z_H D A s.heap [(o, .inr (1, [g_at, g_tired, .ref o_deedRows, .int v_deeds, g_hour])), (o_deedRows, .inl (y 0, 36, .inl f_deedRows))] H locs → lv_has ls 6 [(4, .int e2)] → W p l e (zR 1 40) s m args below meth c H locs 0 0 Q (F0 m 48 ls []) := by
    intro H locs ls hH hl
    refine lv_iload K.x K.b dX1_apartFrom_48 (lv_at hl 0 rfl) ?_
    have hr9 := Option.some.inj h
    obtain rfl := hr9
    rw [hQ]
    exact z_reti K hr hH [0, 1] (by decide) rfl rfl rfl dX1_apartFrom_50
  refine z_lp_ind (P := fun (s1 : Int32 × Int32) => ∀ (H : Heap) (locs : List Loc) (ls : Array Slot), z_H D A s.heap [(o, .inr (1, [g_at, g_tired, .ref o_deedRows, .int v_deeds, g_hour])), (o_deedRows, .inl (y 0, 36, .inl f_deedRows))] H locs → lv_has ls 6 [(0, .ref o), (1, .int p1), (2, .int p2), (3, .int p3), (4, .int s1.2), (5, .int s1.1)] → W p l e (zR 1 40) s m args below meth c H locs 0 0 Q (F0 m 6 ls [])) ?_ _ hlpe2 _ _ _ hH (lv_sub hl [2, 3, 4, 5, 1, 0] rfl)
  clear h hlpe2
  intro s1 x3 h ihe2 hee2 H locs ls hH hl
  refine lv_iload K.x K.b dX1_apartFrom_6 (lv_at hl 5 rfl) ?_
  refine lv_aload_n K.x K.b dX1_apartFrom_8 rfl (lv_at hl 0 rfl) ?_
  refine z_get K hH 0 rfl zin_1 rfl 3 (by decide) tw_1_45 (v := .int v_deeds) rfl dX1_apartFrom_9 ?_
  refine lv_icmp_ge (tgt := 48) K.x K.b dX1_apartFrom_12 (by decide) (fun c4 => ?_) (fun c4 => ?_)
  · replace h := z_t c4 h
    obtain rfl := hee2 _ (Option.some.inj h).symm
    exact KEe2 _ _ _ hH (lv_sub hl [4] rfl)
  · replace h := z_f c4 h
    refine lv_aload_n K.x K.b dX1_apartFrom_15 rfl (lv_at hl 0 rfl) ?_
    refine lv_iload K.x K.b dX1_apartFrom_16 (lv_at hl 5 rfl) ?_
    refine lv_iload_n K.x K.b dX1_apartFrom_18 rfl (lv_at hl 1 rfl) ?_
    refine lv_iload_n K.x K.b dX1_apartFrom_19 rfl (lv_at hl 2 rfl) ?_
    obtain ⟨r5, hr6, h⟩ := z_bd_e h
    refine z_Vi K hH hl.1 (c_X1_isDeed l D y o o_deedRows (g_at) (g_tired) (.int v_deeds) (g_hour) f_deedRows s1.1 p1 p2 r5 hr6) (z_cwV K 3 tw_3_138 tw_3_140 tw_0_26 tw_1_3 tw_3_141 hd_X1_isDeed ⟨by decide, by decide⟩) [0, 1] [] rfl (wr := []) rfl rfl rfl (by decide) rfl rfl rfl (As := [.int s1.1, .int p1, .int p2]) (rest := []) rfl (Nat.le_of_ble_eq_true rfl) ⟨Nat.zero_le _, Nat.zero_le _⟩ dX1_apartFrom_20 (ws' := [(o, .inr (1, [g_at, g_tired, .ref o_deedRows, .int v_deeds, g_hour])), (o_deedRows, .inl (y 0, 36, .inl f_deedRows))]) rfl (fun H locs hH => ?_)
    obtain ⟨j7, hj7, h⟩ := z_bd_e h
    have Kj7 : ∀ (H : Heap) (locs : List Loc) (ls : Array Slot), z_H D A s.heap [(o, .inr (1, [g_at, g_tired, .ref o_deedRows, .int v_deeds, g_hour])), (o_deedRows, .inl (y 0, 36, .inl f_deedRows))] H locs → lv_has ls 6 [(0, .ref o), (1, .int p1), (2, .int p2), (3, .int p3), (4, .int j7), (5, .int s1.1)] → W p l e (zR 1 40) s m args below meth c H locs 0 0 Q (F0 m 42 ls []) := by
      intro H locs ls hH hl
      obtain ⟨x8, ex8, h⟩ := z_lt_e h
      refine lv_iinc (v := x8) (lv' := [(5, .int x8), (0, .ref o), (1, .int p1), (2, .int p2), (3, .int p3), (4, .int j7)]) K.x K.b dX1_apartFrom_42 hl (k := 5) rfl (by rw [ex8]; rfl) (by decide) rfl (fun ls hl => ?_)
      refine lv_goto (tgt := 6) K.x K.b dX1_apartFrom_45 (by decide) ?_
      exact ihe2 _ (Option.some.inj h).symm _ _ _ hH (lv_sub hl [1, 2, 3, 4, 5, 0] rfl)
    replace h := hj7
    refine lv_if_eq (tgt := 42) K.x K.b dX1_apartFrom_23 (by decide) (fun c9 => ?_) (fun c9 => ?_)
    · replace h := z_t c9 h
      obtain rfl := Option.some.inj h
      exact Kj7 _ _ _ hH (lv_sub hl [0, 1, 2, 3, 4, 5] rfl)
    · replace h := z_f c9 h
      refine lv_iload K.x K.b dX1_apartFrom_26 (lv_at hl 4 rfl) ?_
      refine lv_aload_n K.x K.b dX1_apartFrom_28 rfl (lv_at hl 0 rfl) ?_
      refine lv_iload K.x K.b dX1_apartFrom_29 (lv_at hl 5 rfl) ?_
      obtain ⟨r10, hr11, h⟩ := z_bd_e h
      refine z_Vi K hH hl.1 (c_X1_deedLength l D y o o_deedRows (g_at) (g_tired) (.int v_deeds) (g_hour) f_deedRows s1.1 r10 hr11) (z_cwV K 1 tw_3_142 tw_3_143 tw_3_144 tw_1_3 tw_3_145 hd_X1_deedLength ⟨by decide, by decide⟩) [0, 1] [] rfl (wr := []) rfl rfl rfl (by decide) rfl rfl rfl (As := [.int s1.1]) (rest := [.int s1.2]) rfl (Nat.le_of_ble_eq_true rfl) ⟨Nat.zero_le _, Nat.zero_le _⟩ dX1_apartFrom_31 (ws' := [(o, .inr (1, [g_at, g_tired, .ref o_deedRows, .int v_deeds, g_hour])), (o_deedRows, .inl (y 0, 36, .inl f_deedRows))]) rfl (fun H locs hH => ?_)
      refine lv_iload_n K.x K.b dX1_apartFrom_34 rfl (lv_at hl 3 rfl) ?_
      refine lv_isub K.x K.b dX1_apartFrom_35 ?_
      obtain ⟨x12, ex12, h⟩ := z_lt_e h
      refine z_nm ex12 ?_
      refine z_mabs K hl.1 tw_3_150 tw_2_175 tw_1_9 tw_2_176 (by decide) (Nat.le_of_ble_eq_true rfl) ⟨Nat.zero_le _, Nat.zero_le _⟩ dX1_apartFrom_36 ?_
      refine lv_iadd K.x K.b dX1_apartFrom_39 ?_
      obtain ⟨x13, ex13, h⟩ := z_lt_e h
      refine z_nm ex13 ?_
      refine lv_istore (lv' := [(4, .int x13), (0, .ref o), (1, .int p1), (2, .int p2), (3, .int p3), (5, .int s1.1)]) K.x K.b dX1_apartFrom_40 hl (by decide) rfl (fun ls hl => ?_)
      obtain rfl := Option.some.inj h
      exact Kj7 _ _ _ hH (lv_sub hl [1, 2, 3, 4, 0, 5] rfl)
noncomputable def p_X1_middleLength (v_deeds : Int32) (f_deedRows : (Nat → Int32)) (p1 : Int32) (p2 : Int32) : Option (Int32) :=
  z_bd (z_lp (S := Int32 × Int32 × Int32) (E := Int32) (fun s1 =>
  if (v_deeds ≤ s1.1) then
  (some (.inr s1.2.2)) else
  (z_bd (p_X1_isDeed f_deedRows s1.1 p1 p2) fun r5 =>
  z_bd (α := Int32 × Int32) (if (r5 = 0) then
  (some (s1.2.2, s1.2.1)) else
  (z_bd (p_X1_deedLength f_deedRows s1.1) fun r10 =>
  z_bd (p_X1_apartFrom v_deeds f_deedRows p1 p2 r10) fun r12 =>
  if (s1.2.2 = (-1 : Int32)) then
  (some (r10, r12)) else
  (if (r12 < s1.2.1) then
  (some (r10, r12)) else
  (if (r12 = s1.2.1) then
  (if (s1.2.2 ≤ r10) then
  (some (s1.2.2, s1.2.1)) else
  (some (r10, r12))) else
  (some (s1.2.2, s1.2.1)))))) fun j7 =>
  z_lt (s1.1 + (1 : Int32)) fun x8 =>
  some (.inl (x8, j7.2, j7.1)))) ((0 : Int32), (0 : Int32), (-1 : Int32))) fun e2 =>
  some e2
theorem hd_X1_middleLength : yX1_middleLength.cls = RX1 ∧ yX1_middleLength.cls ≠ "java/lang/invoke/MethodHandle" ∧ yX1_middleLength.cls ≠ "java/lang/invoke/VarHandle" ∧ (parseMethodDescriptor yX1_middleLength.desc).map (fun d => d.parameters.length) = some 2 := by decide +kernel
set_option maxHeartbeats 4000000 in
set_option maxRecDepth 100000 in
theorem c_X1_middleLength (l : Launch) (D : va_G) (y : Nat → ClassId) (o o_deedRows : Nat) (g_at g_tired g_hour : Value) (v_deeds : Int32) (f_deedRows : (Nat → Int32)) (p1 : Int32) (p2 : Int32) (r : Int32) (h : p_X1_middleLength v_deeds f_deedRows p1 p2 = some r) : z_MI l yX1_middleLength cX1_middleLength 8 (some .int) 2 65 D y [.ref o, .int p1, .int p2] [(o, .inr (1, [g_at, g_tired, .ref o_deedRows, .int v_deeds, g_hour])), (o_deedRows, .inl (y 0, 36, .inl f_deedRows))] r [(o, .inr (1, [g_at, g_tired, .ref o_deedRows, .int v_deeds, g_hour])), (o_deedRows, .inl (y 0, 36, .inl f_deedRows))] := by
  unfold p_X1_middleLength at h
  refine z_enI (by decide) (Nat.le_of_ble_eq_true rfl) ?_
  intro p e s m args below meth c A ls hr K hH hl
  obtain ⟨Q, hQ⟩ : ∃ Q, Q = MQ below (z_Qi D y A r [(o, .inr (1, [g_at, g_tired, .ref o_deedRows, .int v_deeds, g_hour])), (o_deedRows, .inl (y 0, 36, .inl f_deedRows))]) args s 0 0 A := ⟨_, rfl⟩
  rw [← hQ]
  have hl : lv_has ls 8 [(0, .ref o), (1, .int p1), (2, .int p2)] := hl
  refine lv_iconst (v := (-1)) K.x K.b dX1_middleLength_0 (by decide) ?_
  refine lv_istore_n (lv' := [(3, .int (-1 : Int32)), (0, .ref o), (1, .int p1), (2, .int p2)]) K.x K.b dX1_middleLength_1 rfl hl (by decide) rfl (fun ls hl => ?_)
  refine lv_iconst (v := (0)) K.x K.b dX1_middleLength_2 (by decide) ?_
  refine lv_istore (lv' := [(4, .int (0 : Int32)), (3, .int (-1 : Int32)), (0, .ref o), (1, .int p1), (2, .int p2)]) K.x K.b dX1_middleLength_3 hl (by decide) rfl (fun ls hl => ?_)
  refine lv_iconst (v := (0)) K.x K.b dX1_middleLength_5 (by decide) ?_
  refine lv_istore (lv' := [(5, .int (0 : Int32)), (4, .int (0 : Int32)), (3, .int (-1 : Int32)), (0, .ref o), (1, .int p1), (2, .int p2)]) K.x K.b dX1_middleLength_6 hl (by decide) rfl (fun ls hl => ?_)
  obtain ⟨e2, hlpe2, h⟩ := z_bd_e h
  have KEe2 : ∀ (H : Heap) (locs : List Loc) (ls : Array Slot), z_H D A s.heap [(o, .inr (1, [g_at, g_tired, .ref o_deedRows, .int v_deeds, g_hour])), (o_deedRows, .inl (y 0, 36, .inl f_deedRows))] H locs → lv_has ls 8 [(3, .int e2)] → W p l e (zR 2 65) s m args below meth c H locs 0 0 Q (F0 m 84 ls []) := by
    intro H locs ls hH hl
    refine lv_iload_n K.x K.b dX1_middleLength_84 rfl (lv_at hl 0 rfl) ?_
    have hr9 := Option.some.inj h
    obtain rfl := hr9
    rw [hQ]
    exact z_reti K hr hH [0, 1] (by decide) rfl rfl rfl dX1_middleLength_85
  refine z_lp_ind (P := fun (s1 : Int32 × Int32 × Int32) => ∀ (H : Heap) (locs : List Loc) (ls : Array Slot), z_H D A s.heap [(o, .inr (1, [g_at, g_tired, .ref o_deedRows, .int v_deeds, g_hour])), (o_deedRows, .inl (y 0, 36, .inl f_deedRows))] H locs → lv_has ls 8 [(0, .ref o), (1, .int p1), (2, .int p2), (3, .int s1.2.2), (4, .int s1.2.1), (5, .int s1.1)] → W p l e (zR 2 65) s m args below meth c H locs 0 0 Q (F0 m 8 ls [])) ?_ _ hlpe2 _ _ _ hH (lv_sub hl [3, 4, 5, 2, 1, 0] rfl)
  clear h hlpe2
  intro s1 x3 h ihe2 hee2 H locs ls hH hl
  refine lv_iload K.x K.b dX1_middleLength_8 (lv_at hl 5 rfl) ?_
  refine lv_aload_n K.x K.b dX1_middleLength_10 rfl (lv_at hl 0 rfl) ?_
  refine z_get K hH 0 rfl zin_1 rfl 3 (by decide) tw_1_45 (v := .int v_deeds) rfl dX1_middleLength_11 ?_
  refine lv_icmp_ge (tgt := 84) K.x K.b dX1_middleLength_14 (by decide) (fun c4 => ?_) (fun c4 => ?_)
  · replace h := z_t c4 h
    obtain rfl := hee2 _ (Option.some.inj h).symm
    exact KEe2 _ _ _ hH (lv_sub hl [3] rfl)
  · replace h := z_f c4 h
    refine lv_aload_n K.x K.b dX1_middleLength_17 rfl (lv_at hl 0 rfl) ?_
    refine lv_iload K.x K.b dX1_middleLength_18 (lv_at hl 5 rfl) ?_
    refine lv_iload_n K.x K.b dX1_middleLength_20 rfl (lv_at hl 1 rfl) ?_
    refine lv_iload_n K.x K.b dX1_middleLength_21 rfl (lv_at hl 2 rfl) ?_
    obtain ⟨r5, hr6, h⟩ := z_bd_e h
    refine z_Vi K hH hl.1 (c_X1_isDeed l D y o o_deedRows (g_at) (g_tired) (.int v_deeds) (g_hour) f_deedRows s1.1 p1 p2 r5 hr6) (z_cwV K 3 tw_3_138 tw_3_140 tw_0_26 tw_1_3 tw_3_141 hd_X1_isDeed ⟨by decide, by decide⟩) [0, 1] [] rfl (wr := []) rfl rfl rfl (by decide) rfl rfl rfl (As := [.int s1.1, .int p1, .int p2]) (rest := []) rfl (Nat.le_of_ble_eq_true rfl) ⟨Nat.zero_le _, Nat.zero_le _⟩ dX1_middleLength_22 (ws' := [(o, .inr (1, [g_at, g_tired, .ref o_deedRows, .int v_deeds, g_hour])), (o_deedRows, .inl (y 0, 36, .inl f_deedRows))]) rfl (fun H locs hH => ?_)
    obtain ⟨j7, hj7, h⟩ := z_bd_e h
    have Kj7 : ∀ (H : Heap) (locs : List Loc) (ls : Array Slot), z_H D A s.heap [(o, .inr (1, [g_at, g_tired, .ref o_deedRows, .int v_deeds, g_hour])), (o_deedRows, .inl (y 0, 36, .inl f_deedRows))] H locs → lv_has ls 8 [(0, .ref o), (1, .int p1), (2, .int p2), (3, .int j7.1), (4, .int j7.2), (5, .int s1.1)] → W p l e (zR 2 65) s m args below meth c H locs 0 0 Q (F0 m 78 ls []) := by
      intro H locs ls hH hl
      obtain ⟨x8, ex8, h⟩ := z_lt_e h
      refine lv_iinc (v := x8) (lv' := [(5, .int x8), (0, .ref o), (1, .int p1), (2, .int p2), (3, .int j7.1), (4, .int j7.2)]) K.x K.b dX1_middleLength_78 hl (k := 5) rfl (by rw [ex8]; rfl) (by decide) rfl (fun ls hl => ?_)
      refine lv_goto (tgt := 8) K.x K.b dX1_middleLength_81 (by decide) ?_
      exact ihe2 _ (Option.some.inj h).symm _ _ _ hH (lv_sub hl [1, 2, 3, 4, 5, 0] rfl)
    replace h := hj7
    refine lv_if_eq (tgt := 78) K.x K.b dX1_middleLength_25 (by decide) (fun c9 => ?_) (fun c9 => ?_)
    · replace h := z_t c9 h
      obtain rfl := Option.some.inj h
      exact Kj7 _ _ _ hH (lv_sub hl [0, 1, 2, 3, 4, 5] rfl)
    · replace h := z_f c9 h
      refine lv_aload_n K.x K.b dX1_middleLength_28 rfl (lv_at hl 0 rfl) ?_
      refine lv_iload K.x K.b dX1_middleLength_29 (lv_at hl 5 rfl) ?_
      obtain ⟨r10, hr11, h⟩ := z_bd_e h
      refine z_Vi K hH hl.1 (c_X1_deedLength l D y o o_deedRows (g_at) (g_tired) (.int v_deeds) (g_hour) f_deedRows s1.1 r10 hr11) (z_cwV K 1 tw_3_142 tw_3_143 tw_3_144 tw_1_3 tw_3_145 hd_X1_deedLength ⟨by decide, by decide⟩) [0, 1] [] rfl (wr := []) rfl rfl rfl (by decide) rfl rfl rfl (As := [.int s1.1]) (rest := []) rfl (Nat.le_of_ble_eq_true rfl) ⟨Nat.zero_le _, Nat.zero_le _⟩ dX1_middleLength_31 (ws' := [(o, .inr (1, [g_at, g_tired, .ref o_deedRows, .int v_deeds, g_hour])), (o_deedRows, .inl (y 0, 36, .inl f_deedRows))]) rfl (fun H locs hH => ?_)
      refine lv_istore (lv' := [(6, .int r10), (0, .ref o), (1, .int p1), (2, .int p2), (3, .int s1.2.2), (4, .int s1.2.1), (5, .int s1.1)]) K.x K.b dX1_middleLength_34 hl (by decide) rfl (fun ls hl => ?_)
      refine lv_aload_n K.x K.b dX1_middleLength_36 rfl (lv_at hl 1 rfl) ?_
      refine lv_iload_n K.x K.b dX1_middleLength_37 rfl (lv_at hl 2 rfl) ?_
      refine lv_iload_n K.x K.b dX1_middleLength_38 rfl (lv_at hl 3 rfl) ?_
      refine lv_iload K.x K.b dX1_middleLength_39 (lv_at hl 0 rfl) ?_
      obtain ⟨r12, hr13, h⟩ := z_bd_e h
      refine z_Vi K hH hl.1 (c_X1_apartFrom l D y o o_deedRows (g_at) (g_tired) (g_hour) v_deeds f_deedRows p1 p2 r10 r12 hr13) (z_cwV K 3 tw_3_146 tw_3_148 tw_0_27 tw_1_3 tw_3_149 hd_X1_apartFrom ⟨by decide, by decide⟩) [0, 1] [] rfl (wr := []) rfl rfl rfl (by decide) rfl rfl rfl (As := [.int p1, .int p2, .int r10]) (rest := []) rfl (Nat.le_of_ble_eq_true rfl) ⟨Nat.zero_le _, Nat.zero_le _⟩ dX1_middleLength_41 (ws' := [(o, .inr (1, [g_at, g_tired, .ref o_deedRows, .int v_deeds, g_hour])), (o_deedRows, .inl (y 0, 36, .inl f_deedRows))]) rfl (fun H locs hH => ?_)
      refine lv_istore (lv' := [(7, .int r12), (6, .int r10), (0, .ref o), (1, .int p1), (2, .int p2), (3, .int s1.2.2), (4, .int s1.2.1), (5, .int s1.1)]) K.x K.b dX1_middleLength_44 hl (by decide) rfl (fun ls hl => ?_)
      refine lv_iload_n K.x K.b dX1_middleLength_46 rfl (lv_at hl 5 rfl) ?_
      refine lv_iconst (v := (-1)) K.x K.b dX1_middleLength_47 (by decide) ?_
      refine lv_icmp_eq (tgt := 71) K.x K.b dX1_middleLength_48 (by decide) (fun c14 => ?_) (fun c14 => ?_)
      · replace h := z_t c14 h
        refine lv_iload K.x K.b dX1_middleLength_71 (lv_at hl 1 rfl) ?_
        refine lv_istore_n (lv' := [(3, .int r10), (7, .int r12), (6, .int r10), (0, .ref o), (1, .int p1), (2, .int p2), (4, .int s1.2.1), (5, .int s1.1)]) K.x K.b dX1_middleLength_73 rfl hl (by decide) rfl (fun ls hl => ?_)
        refine lv_iload K.x K.b dX1_middleLength_74 (lv_at hl 1 rfl) ?_
        refine lv_istore (lv' := [(4, .int r12), (3, .int r10), (7, .int r12), (6, .int r10), (0, .ref o), (1, .int p1), (2, .int p2), (5, .int s1.1)]) K.x K.b dX1_middleLength_76 hl (by decide) rfl (fun ls hl => ?_)
        obtain rfl := Option.some.inj h
        exact Kj7 _ _ _ hH (lv_sub hl [4, 5, 6, 1, 0, 7] rfl)
      · replace h := z_f c14 h
        refine lv_iload K.x K.b dX1_middleLength_51 (lv_at hl 0 rfl) ?_
        refine lv_iload K.x K.b dX1_middleLength_53 (lv_at hl 6 rfl) ?_
        refine lv_icmp_lt (tgt := 71) K.x K.b dX1_middleLength_55 (by decide) (fun c15 => ?_) (fun c15 => ?_)
        · replace h := z_t c15 h
          refine lv_iload K.x K.b dX1_middleLength_71 (lv_at hl 1 rfl) ?_
          refine lv_istore_n (lv' := [(3, .int r10), (7, .int r12), (6, .int r10), (0, .ref o), (1, .int p1), (2, .int p2), (4, .int s1.2.1), (5, .int s1.1)]) K.x K.b dX1_middleLength_73 rfl hl (by decide) rfl (fun ls hl => ?_)
          refine lv_iload K.x K.b dX1_middleLength_74 (lv_at hl 1 rfl) ?_
          refine lv_istore (lv' := [(4, .int r12), (3, .int r10), (7, .int r12), (6, .int r10), (0, .ref o), (1, .int p1), (2, .int p2), (5, .int s1.1)]) K.x K.b dX1_middleLength_76 hl (by decide) rfl (fun ls hl => ?_)
          obtain rfl := Option.some.inj h
          exact Kj7 _ _ _ hH (lv_sub hl [4, 5, 6, 1, 0, 7] rfl)
        · replace h := z_f c15 h
          refine lv_iload K.x K.b dX1_middleLength_58 (lv_at hl 0 rfl) ?_
          refine lv_iload K.x K.b dX1_middleLength_60 (lv_at hl 6 rfl) ?_
          refine lv_icmp_ne (tgt := 78) K.x K.b dX1_middleLength_62 (by decide) (fun c16 => ?_) (fun c16 => ?_)
          · replace h := z_f c16 h
            obtain rfl := Option.some.inj h
            exact Kj7 _ _ _ hH (lv_sub hl [2, 3, 4, 5, 6, 7] rfl)
          · replace h := z_t c16 h
            refine lv_iload K.x K.b dX1_middleLength_65 (lv_at hl 1 rfl) ?_
            refine lv_iload_n K.x K.b dX1_middleLength_67 rfl (lv_at hl 5 rfl) ?_
            refine lv_icmp_ge (tgt := 78) K.x K.b dX1_middleLength_68 (by decide) (fun c17 => ?_) (fun c17 => ?_)
            · replace h := z_t c17 h
              obtain rfl := Option.some.inj h
              exact Kj7 _ _ _ hH (lv_sub hl [2, 3, 4, 5, 6, 7] rfl)
            · replace h := z_f c17 h
              refine lv_iload K.x K.b dX1_middleLength_71 (lv_at hl 1 rfl) ?_
              refine lv_istore_n (lv' := [(3, .int r10), (7, .int r12), (6, .int r10), (0, .ref o), (1, .int p1), (2, .int p2), (4, .int s1.2.1), (5, .int s1.1)]) K.x K.b dX1_middleLength_73 rfl hl (by decide) rfl (fun ls hl => ?_)
              refine lv_iload K.x K.b dX1_middleLength_74 (lv_at hl 1 rfl) ?_
              refine lv_istore (lv' := [(4, .int r12), (3, .int r10), (7, .int r12), (6, .int r10), (0, .ref o), (1, .int p1), (2, .int p2), (5, .int s1.1)]) K.x K.b dX1_middleLength_76 hl (by decide) rfl (fun ls hl => ?_)
              obtain rfl := Option.some.inj h
              exact Kj7 _ _ _ hH (lv_sub hl [4, 5, 6, 1, 0, 7] rfl)
def p_X2_told (p1 : Int32) (p2 : Int32) (p3 : Int32) (p4 : Int32) (p5 : Int32) : Option (Int32) :=
  z_bd (α := Int32) (if (p1 = 0) then
  (z_bd (p_X2_reach p2 p3 p4) fun r3 =>
  some r3) else
  (z_bd (p_X2_made p2 p3 p4 p5) fun r5 =>
  some r5)) fun j1 =>
  some j1
theorem hd_X2_told : yX2_told.cls ≠ "java/lang/invoke/MethodHandle" ∧ yX2_told.cls ≠ "java/lang/invoke/VarHandle" ∧ (parseMethodDescriptor yX2_told.desc).map (fun d => d.parameters.length) = some 5 := by decide +kernel
set_option maxHeartbeats 4000000 in
set_option maxRecDepth 100000 in
theorem c_X2_told (l : Launch) (D : va_G) (y : Nat → ClassId) (p1 : Int32) (p2 : Int32) (p3 : Int32) (p4 : Int32) (p5 : Int32) (r : Int32) (h : p_X2_told p1 p2 p3 p4 p5 = some r) : z_MI l yX2_told cX2_told 5 (some .int) 1 26 D y [.int p1, .int p2, .int p3, .int p4, .int p5] [] r [] := by
  unfold p_X2_told at h
  refine z_enI (by decide) (Nat.le_of_ble_eq_true rfl) ?_
  intro p e s m args below meth c A ls hr K hH hl
  obtain ⟨Q, hQ⟩ : ∃ Q, Q = MQ below (z_Qi D y A r []) args s 0 0 A := ⟨_, rfl⟩
  rw [← hQ]
  have hl : lv_has ls 5 [(0, .int p1), (1, .int p2), (2, .int p3), (3, .int p4), (4, .int p5)] := hl
  refine lv_iload_n K.x K.b dX2_told_0 rfl (lv_at hl 0 rfl) ?_
  obtain ⟨j1, hj1, h⟩ := z_bd_e h
  have Kj1 : ∀ (H : Heap) (locs : List Loc) (ls : Array Slot), z_H D A s.heap [] H locs → lv_has ls 5 [] → W p l e (zR 1 26) s m args below meth c H locs 0 0 Q (F0 m 21 ls [.int j1]) := by
    intro H locs ls hH hl
    have hr9 := Option.some.inj h
    obtain rfl := hr9
    rw [hQ]
    exact z_reti K hr hH [] (by decide) rfl rfl rfl dX2_told_21
  replace h := hj1
  refine lv_if_eq (tgt := 15) K.x K.b dX2_told_1 (by decide) (fun c2 => ?_) (fun c2 => ?_)
  · replace h := z_t c2 h
    refine lv_iload_n K.x K.b dX2_told_15 rfl (lv_at hl 1 rfl) ?_
    refine lv_iload_n K.x K.b dX2_told_16 rfl (lv_at hl 2 rfl) ?_
    refine lv_iload_n K.x K.b dX2_told_17 rfl (lv_at hl 3 rfl) ?_
    obtain ⟨r3, hr4, h⟩ := z_bd_e h
    refine z_Si K hH hl.1 (c_X2_reach l D y p2 p3 p4 r3 hr4) (z_cwS K 3 tw_3_208 tw_2_181 tw_1_14 tw_2_182 hd_X2_reach ⟨by decide, by decide⟩) rfl (As := [.int p2, .int p3, .int p4]) (rest := []) rfl (Nat.le_of_ble_eq_true rfl) ⟨Nat.zero_le _, Nat.zero_le _⟩ dX2_told_18 (fun H locs hH => ?_)
    obtain rfl := Option.some.inj h
    exact Kj1 _ _ _ hH (lv_sub hl [] rfl)
  · replace h := z_f c2 h
    refine lv_iload_n K.x K.b dX2_told_4 rfl (lv_at hl 1 rfl) ?_
    refine lv_iload_n K.x K.b dX2_told_5 rfl (lv_at hl 2 rfl) ?_
    refine lv_iload_n K.x K.b dX2_told_6 rfl (lv_at hl 3 rfl) ?_
    refine lv_iload K.x K.b dX2_told_7 (lv_at hl 4 rfl) ?_
    obtain ⟨r5, hr6, h⟩ := z_bd_e h
    refine z_Si K hH hl.1 (c_X2_made l D y p2 p3 p4 p5 r5 hr6) (z_cwS K 4 tw_3_207 tw_2_178 tw_1_14 tw_2_179 hd_X2_made ⟨by decide, by decide⟩) rfl (As := [.int p2, .int p3, .int p4, .int p5]) (rest := []) rfl (Nat.le_of_ble_eq_true rfl) ⟨Nat.zero_le _, Nat.zero_le _⟩ dX2_told_9 (fun H locs hH => ?_)
    refine lv_goto (tgt := 21) K.x K.b dX2_told_12 (by decide) ?_
    obtain rfl := Option.some.inj h
    exact Kj1 _ _ _ hH (lv_sub hl [] rfl)
