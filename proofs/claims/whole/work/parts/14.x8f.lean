noncomputable def p_X8_owner (v_bads : Int32) (f_w : (Nat → Int32)) (p1 : Int32) (p2 : Int32) : Option (Int32 × Int32) :=
  z_bd (p_X8_isCrow f_w p1) fun r1 =>
  if (r1 = 0) then
  (z_bd (p_X8_badTen v_bads) fun r4 =>
  some (r4.1, r4.2)) else
  (if ((-1 : Int32) ≤ p2) then
  (z_bd (z_lp (S := Int32 × Int32 × Int32) (E := Int32 × Int32) (fun s7 =>
  if ((f_w 418) ≤ s7.1) then
  (some (.inr (s7.2.2, s7.2.1))) else
  (z_bd (z_lp (S := Int32 × Int32 × Int32) (E := Int32 × Int32) (fun s13 =>
  if ((f_w 418) ≤ s13.1) then
  (some (.inr (s13.2.1, s13.2.2))) else
  (z_bd (p_X8_rest f_w p1 s7.1 s13.1) fun r18 =>
  z_bd (α := Int32 × Int32) (if (r18 = 0) then
  (some (s13.2.1, s13.2.2)) else
  (z_bd (α := Int32) (if (s13.2.1 = p2) then
  (some (((10 : Int32) * s7.1) + s13.1)) else
  (some s13.2.2)) fun j23 =>
  z_lt (s13.2.1 + (1 : Int32)) fun x24 =>
  some (x24, j23))) fun j20 =>
  z_lt (s13.1 + (1 : Int32)) fun x21 =>
  some (.inl (x21, j20.1, j20.2)))) ((0 : Int32), s7.2.2, s7.2.1)) fun e14 =>
  z_lt (s7.1 + (1 : Int32)) fun x15 =>
  some (.inl (x15, e14.2, e14.1)))) ((0 : Int32), (-5 : Int32), (0 : Int32))) fun e8 =>
  z_bd (α := Int32) (if (p2 = (-1 : Int32)) then
  (some e8.1) else
  (some e8.2)) fun j9 =>
  some (j9, v_bads)) else
  (z_bd (p_X8_badTen v_bads) fun r26 =>
  some (r26.1, r26.2)))
theorem hd_X8_owner : yX8_owner.cls = RX8 ∧ yX8_owner.cls ≠ "java/lang/invoke/MethodHandle" ∧ yX8_owner.cls ≠ "java/lang/invoke/VarHandle" ∧ (parseMethodDescriptor yX8_owner.desc).map (fun d => d.parameters.length) = some 2 := by decide +kernel
set_option maxHeartbeats 4000000 in
set_option maxRecDepth 100000 in
theorem c_X8_owner (l : Launch) (D : va_G) (y : Nat → ClassId) (o o_w : Nat) (g_kept g_text g_size g_above g_below g_noes g_fulls g_at g_from g_token g_value g_readFault g_yet g_fars g_tells : Value) (v_bads : Int32) (f_w : (Nat → Int32)) (p1 : Int32) (p2 : Int32) (r : Int32 × Int32) (h : p_X8_owner v_bads f_w p1 p2 = some r) : z_MI l yX8_owner cX8_owner 7 (some .int) 7 169 D y [.ref o, .int p1, .int p2] [(o, .inr (7, [.ref o_w, g_kept, g_text, g_size, g_above, g_below, .int v_bads, g_noes, g_fulls, g_at, g_from, g_token, g_value, g_readFault, g_yet, g_fars, g_tells])), (o_w, .inl (y 0, 1960, .inl f_w))] r.1 [(o, .inr (7, [.ref o_w, g_kept, g_text, g_size, g_above, g_below, .int r.2, g_noes, g_fulls, g_at, g_from, g_token, g_value, g_readFault, g_yet, g_fars, g_tells])), (o_w, .inl (y 0, 1960, .inl f_w))] := by
  unfold p_X8_owner at h
  refine z_enI (by decide) (Nat.le_of_ble_eq_true rfl) ?_
  intro p e s m args below meth c A ls hr K hH hl
  obtain ⟨Q, hQ⟩ : ∃ Q, Q = MQ below (z_Qi D y A r.1 [(o, .inr (7, [.ref o_w, g_kept, g_text, g_size, g_above, g_below, .int r.2, g_noes, g_fulls, g_at, g_from, g_token, g_value, g_readFault, g_yet, g_fars, g_tells])), (o_w, .inl (y 0, 1960, .inl f_w))]) args s 0 0 A := ⟨_, rfl⟩
  rw [← hQ]
  have hl : lv_has ls 7 [(0, .ref o), (1, .int p1), (2, .int p2)] := hl
  refine lv_aload_n K.x K.b dX8_owner_0 rfl (lv_at hl 0 rfl) ?_
  refine lv_iload_n K.x K.b dX8_owner_1 rfl (lv_at hl 1 rfl) ?_
  obtain ⟨r1, hr2, h⟩ := z_bd_e h
  refine z_Vi K hH hl.1 (c_X8_isCrow l D y o o_w (g_kept) (g_text) (g_size) (g_above) (g_below) (.int v_bads) (g_noes) (g_fulls) (g_at) (g_from) (g_token) (g_value) (g_readFault) (g_yet) (g_fars) (g_tells) f_w p1 r1 hr2) (z_cwV K 1 tw_5_64 tw_5_66 tw_0_65 tw_1_8 tw_5_67 hd_X8_isCrow ⟨by decide, by decide⟩) [0, 1] [] rfl (wr := []) rfl rfl rfl (by decide) rfl rfl rfl (As := [.int p1]) (rest := []) rfl (Nat.le_of_ble_eq_true rfl) ⟨Nat.zero_le _, Nat.zero_le _⟩ dX8_owner_2 (ws' := [(o, .inr (7, [.ref o_w, g_kept, g_text, g_size, g_above, g_below, .int v_bads, g_noes, g_fulls, g_at, g_from, g_token, g_value, g_readFault, g_yet, g_fars, g_tells])), (o_w, .inl (y 0, 1960, .inl f_w))]) rfl (fun H locs hH => ?_)
  refine lv_if_eq (tgt := 13) K.x K.b dX8_owner_5 (by decide) (fun c3 => ?_) (fun c3 => ?_)
  · replace h := z_t c3 h
    refine lv_aload_n K.x K.b dX8_owner_13 rfl (lv_at hl 0 rfl) ?_
    obtain ⟨r4, hr5, h⟩ := z_bd_e h
    refine z_Vi K hH hl.1 (c_X8_badTen l D y o (.ref o_w) (g_kept) (g_text) (g_size) (g_above) (g_below) (g_noes) (g_fulls) (g_at) (g_from) (g_token) (g_value) (g_readFault) (g_yet) (g_fars) (g_tells) v_bads r4 hr5) (z_cwV K 0 tw_5_112 tw_5_114 tw_0_69 tw_1_8 tw_5_115 hd_X8_badTen ⟨by decide, by decide⟩) [0] [1] rfl (wr := [(o_w, .inl (y 0, 1960, .inl f_w))]) rfl rfl rfl (by decide) rfl rfl rfl (As := []) (rest := []) rfl (Nat.le_of_ble_eq_true rfl) ⟨Nat.zero_le _, Nat.zero_le _⟩ dX8_owner_14 (ws' := [(o_w, .inl (y 0, 1960, .inl f_w)), (o, .inr (7, [.ref o_w, g_kept, g_text, g_size, g_above, g_below, .int r4.2, g_noes, g_fulls, g_at, g_from, g_token, g_value, g_readFault, g_yet, g_fars, g_tells]))]) rfl (fun H locs hH => ?_)
    have hr9 := Option.some.inj h
    obtain rfl := hr9
    rw [hQ]
    exact z_reti K hr hH [1, 0] (by decide) rfl rfl rfl dX8_owner_17
  · replace h := z_f c3 h
    refine lv_iload_n K.x K.b dX8_owner_8 rfl (lv_at hl 2 rfl) ?_
    refine lv_iconst (v := (-1)) K.x K.b dX8_owner_9 (by decide) ?_
    refine lv_icmp_ge (tgt := 18) K.x K.b dX8_owner_10 (by decide) (fun c6 => ?_) (fun c6 => ?_)
    · replace h := z_t c6 h
      refine lv_iconst (v := (0)) K.x K.b dX8_owner_18 (by decide) ?_
      refine lv_istore_n (lv' := [(3, .int (0 : Int32)), (0, .ref o), (1, .int p1), (2, .int p2)]) K.x K.b dX8_owner_19 rfl hl (by decide) rfl (fun ls hl => ?_)
      refine lv_bipush (v := (-5)) K.x K.b dX8_owner_20 (by decide) ?_
      refine lv_istore (lv' := [(4, .int (-5 : Int32)), (3, .int (0 : Int32)), (0, .ref o), (1, .int p1), (2, .int p2)]) K.x K.b dX8_owner_22 hl (by decide) rfl (fun ls hl => ?_)
      refine lv_iconst (v := (0)) K.x K.b dX8_owner_24 (by decide) ?_
      refine lv_istore (lv' := [(5, .int (0 : Int32)), (4, .int (-5 : Int32)), (3, .int (0 : Int32)), (0, .ref o), (1, .int p1), (2, .int p2)]) K.x K.b dX8_owner_25 hl (by decide) rfl (fun ls hl => ?_)
      obtain ⟨e8, hlpe8, h⟩ := z_bd_e h
      have KEe8 : ∀ (H : Heap) (locs : List Loc) (ls : Array Slot), z_H D A s.heap [(o, .inr (7, [.ref o_w, g_kept, g_text, g_size, g_above, g_below, .int v_bads, g_noes, g_fulls, g_at, g_from, g_token, g_value, g_readFault, g_yet, g_fars, g_tells])), (o_w, .inl (y 0, 1960, .inl f_w))] H locs → lv_has ls 7 [(2, .int p2), (3, .int e8.1), (4, .int e8.2)] → W p l e (zR 7 169) s m args below meth c H locs 0 0 Q (F0 m 103 ls []) := by
        intro H locs ls hH hl
        refine lv_iload_n K.x K.b dX8_owner_103 rfl (lv_at hl 0 rfl) ?_
        refine lv_iconst (v := (-1)) K.x K.b dX8_owner_104 (by decide) ?_
        obtain ⟨j9, hj9, h⟩ := z_bd_e h
        have Kj9 : ∀ (H : Heap) (locs : List Loc) (ls : Array Slot), z_H D A s.heap [(o, .inr (7, [.ref o_w, g_kept, g_text, g_size, g_above, g_below, .int v_bads, g_noes, g_fulls, g_at, g_from, g_token, g_value, g_readFault, g_yet, g_fars, g_tells])), (o_w, .inl (y 0, 1960, .inl f_w))] H locs → lv_has ls 7 [] → W p l e (zR 7 169) s m args below meth c H locs 0 0 Q (F0 m 114 ls [.int j9]) := by
          intro H locs ls hH hl
          have hr9 := Option.some.inj h
          obtain rfl := hr9
          rw [hQ]
          exact z_reti K hr hH [0, 1] (by decide) rfl rfl rfl dX8_owner_114
        replace h := hj9
        refine lv_icmp_ne (tgt := 112) K.x K.b dX8_owner_105 (by decide) (fun c10 => ?_) (fun c10 => ?_)
        · replace h := z_f c10 h
          refine lv_iload K.x K.b dX8_owner_112 (lv_at hl 2 rfl) ?_
          obtain rfl := Option.some.inj h
          exact Kj9 _ _ _ hH (lv_sub hl [] rfl)
        · replace h := z_t c10 h
          refine lv_iload_n K.x K.b dX8_owner_108 rfl (lv_at hl 1 rfl) ?_
          refine lv_goto (tgt := 114) K.x K.b dX8_owner_109 (by decide) ?_
          obtain rfl := Option.some.inj h
          exact Kj9 _ _ _ hH (lv_sub hl [] rfl)
      refine z_lp_ind (P := fun (s7 : Int32 × Int32 × Int32) => ∀ (H : Heap) (locs : List Loc) (ls : Array Slot), z_H D A s.heap [(o, .inr (7, [.ref o_w, g_kept, g_text, g_size, g_above, g_below, .int v_bads, g_noes, g_fulls, g_at, g_from, g_token, g_value, g_readFault, g_yet, g_fars, g_tells])), (o_w, .inl (y 0, 1960, .inl f_w))] H locs → lv_has ls 7 [(0, .ref o), (1, .int p1), (2, .int p2), (3, .int s7.2.2), (4, .int s7.2.1), (5, .int s7.1)] → W p l e (zR 7 169) s m args below meth c H locs 0 0 Q (F0 m 27 ls [])) ?_ _ hlpe8 _ _ _ hH (lv_sub hl [3, 4, 5, 2, 1, 0] rfl)
      clear h hlpe8
      intro s7 x11 h ihe8 hee8 H locs ls hH hl
      refine lv_iload K.x K.b dX8_owner_27 (lv_at hl 5 rfl) ?_
      refine lv_aload_n K.x K.b dX8_owner_29 rfl (lv_at hl 0 rfl) ?_
      refine z_get K hH 0 rfl zin_8 rfl 0 (by decide) tw_4_96 (v := .ref o_w) rfl dX8_owner_30 ?_
      refine lv_sipush (v := (418)) K.x K.b dX8_owner_33 (by decide) ?_
      refine z_iald K hH 1 (k := 418) rfl (by decide) rfl dX8_owner_36 ?_
      refine lv_icmp_ge (tgt := 103) K.x K.b dX8_owner_37 (by decide) (fun c12 => ?_) (fun c12 => ?_)
      · replace h := z_t c12 h
        obtain rfl := hee8 _ (Option.some.inj h).symm
        exact KEe8 _ _ _ hH (lv_sub hl [2, 3, 4] rfl)
      · replace h := z_f c12 h
        refine lv_iconst (v := (0)) K.x K.b dX8_owner_40 (by decide) ?_
        refine lv_istore (lv' := [(6, .int (0 : Int32)), (0, .ref o), (1, .int p1), (2, .int p2), (3, .int s7.2.2), (4, .int s7.2.1), (5, .int s7.1)]) K.x K.b dX8_owner_41 hl (by decide) rfl (fun ls hl => ?_)
        obtain ⟨e14, hlpe14, h⟩ := z_bd_e h
        have KEe14 : ∀ (H : Heap) (locs : List Loc) (ls : Array Slot), z_H D A s.heap [(o, .inr (7, [.ref o_w, g_kept, g_text, g_size, g_above, g_below, .int v_bads, g_noes, g_fulls, g_at, g_from, g_token, g_value, g_readFault, g_yet, g_fars, g_tells])), (o_w, .inl (y 0, 1960, .inl f_w))] H locs → lv_has ls 7 [(0, .ref o), (1, .int p1), (2, .int p2), (3, .int e14.1), (4, .int e14.2), (5, .int s7.1)] → W p l e (zR 7 169) s m args below meth c H locs 0 0 Q (F0 m 97 ls []) := by
          intro H locs ls hH hl
          obtain ⟨x15, ex15, h⟩ := z_lt_e h
          refine lv_iinc (v := x15) (lv' := [(5, .int x15), (0, .ref o), (1, .int p1), (2, .int p2), (3, .int e14.1), (4, .int e14.2)]) K.x K.b dX8_owner_97 hl (k := 5) rfl (by rw [ex15]; rfl) (by decide) rfl (fun ls hl => ?_)
          refine lv_goto (tgt := 27) K.x K.b dX8_owner_100 (by decide) ?_
          exact ihe8 _ (Option.some.inj h).symm _ _ _ hH (lv_sub hl [1, 2, 3, 4, 5, 0] rfl)
        refine z_lp_ind (P := fun (s13 : Int32 × Int32 × Int32) => ∀ (H : Heap) (locs : List Loc) (ls : Array Slot), z_H D A s.heap [(o, .inr (7, [.ref o_w, g_kept, g_text, g_size, g_above, g_below, .int v_bads, g_noes, g_fulls, g_at, g_from, g_token, g_value, g_readFault, g_yet, g_fars, g_tells])), (o_w, .inl (y 0, 1960, .inl f_w))] H locs → lv_has ls 7 [(0, .ref o), (1, .int p1), (2, .int p2), (3, .int s13.2.1), (4, .int s13.2.2), (5, .int s7.1), (6, .int s13.1)] → W p l e (zR 7 169) s m args below meth c H locs 0 0 Q (F0 m 43 ls [])) ?_ _ hlpe14 _ _ _ hH (lv_sub hl [1, 2, 3, 4, 5, 6, 0] rfl)
        clear h hlpe14
        intro s13 x16 h ihe14 hee14 H locs ls hH hl
        refine lv_iload K.x K.b dX8_owner_43 (lv_at hl 6 rfl) ?_
        refine lv_aload_n K.x K.b dX8_owner_45 rfl (lv_at hl 0 rfl) ?_
        refine z_get K hH 0 rfl zin_8 rfl 0 (by decide) tw_4_96 (v := .ref o_w) rfl dX8_owner_46 ?_
        refine lv_sipush (v := (418)) K.x K.b dX8_owner_49 (by decide) ?_
        refine z_iald K hH 1 (k := 418) rfl (by decide) rfl dX8_owner_52 ?_
        refine lv_icmp_ge (tgt := 97) K.x K.b dX8_owner_53 (by decide) (fun c17 => ?_) (fun c17 => ?_)
        · replace h := z_t c17 h
          obtain rfl := hee14 _ (Option.some.inj h).symm
          exact KEe14 _ _ _ hH (lv_sub hl [0, 1, 2, 3, 4, 5] rfl)
        · replace h := z_f c17 h
          refine lv_aload_n K.x K.b dX8_owner_56 rfl (lv_at hl 0 rfl) ?_
          refine lv_iload_n K.x K.b dX8_owner_57 rfl (lv_at hl 1 rfl) ?_
          refine lv_iload K.x K.b dX8_owner_58 (lv_at hl 5 rfl) ?_
          refine lv_iload K.x K.b dX8_owner_60 (lv_at hl 6 rfl) ?_
          obtain ⟨r18, hr19, h⟩ := z_bd_e h
          refine z_Vi K hH hl.1 (c_X8_rest l D y o o_w (g_kept) (g_text) (g_size) (g_above) (g_below) (.int v_bads) (g_noes) (g_fulls) (g_at) (g_from) (g_token) (g_value) (g_readFault) (g_yet) (g_fars) (g_tells) f_w p1 s7.1 s13.1 r18 hr19) (z_cwV K 3 tw_5_216 tw_5_218 tw_0_81 tw_1_8 tw_5_219 hd_X8_rest ⟨by decide, by decide⟩) [0, 1] [] rfl (wr := []) rfl rfl rfl (by decide) rfl rfl rfl (As := [.int p1, .int s7.1, .int s13.1]) (rest := []) rfl (Nat.le_of_ble_eq_true rfl) ⟨Nat.zero_le _, Nat.zero_le _⟩ dX8_owner_62 (ws' := [(o, .inr (7, [.ref o_w, g_kept, g_text, g_size, g_above, g_below, .int v_bads, g_noes, g_fulls, g_at, g_from, g_token, g_value, g_readFault, g_yet, g_fars, g_tells])), (o_w, .inl (y 0, 1960, .inl f_w))]) rfl (fun H locs hH => ?_)
          obtain ⟨j20, hj20, h⟩ := z_bd_e h
          have Kj20 : ∀ (H : Heap) (locs : List Loc) (ls : Array Slot), z_H D A s.heap [(o, .inr (7, [.ref o_w, g_kept, g_text, g_size, g_above, g_below, .int v_bads, g_noes, g_fulls, g_at, g_from, g_token, g_value, g_readFault, g_yet, g_fars, g_tells])), (o_w, .inl (y 0, 1960, .inl f_w))] H locs → lv_has ls 7 [(0, .ref o), (1, .int p1), (2, .int p2), (3, .int j20.1), (4, .int j20.2), (5, .int s7.1), (6, .int s13.1)] → W p l e (zR 7 169) s m args below meth c H locs 0 0 Q (F0 m 91 ls []) := by
            intro H locs ls hH hl
            obtain ⟨x21, ex21, h⟩ := z_lt_e h
            refine lv_iinc (v := x21) (lv' := [(6, .int x21), (0, .ref o), (1, .int p1), (2, .int p2), (3, .int j20.1), (4, .int j20.2), (5, .int s7.1)]) K.x K.b dX8_owner_91 hl (k := 6) rfl (by rw [ex21]; rfl) (by decide) rfl (fun ls hl => ?_)
            refine lv_goto (tgt := 43) K.x K.b dX8_owner_94 (by decide) ?_
            exact ihe14 _ (Option.some.inj h).symm _ _ _ hH (lv_sub hl [1, 2, 3, 4, 5, 6, 0] rfl)
          replace h := hj20
          refine lv_if_eq (tgt := 91) K.x K.b dX8_owner_65 (by decide) (fun c22 => ?_) (fun c22 => ?_)
          · replace h := z_t c22 h
            obtain rfl := Option.some.inj h
            exact Kj20 _ _ _ hH (lv_sub hl [0, 1, 2, 3, 4, 5, 6] rfl)
          · replace h := z_f c22 h
            refine lv_iload_n K.x K.b dX8_owner_68 rfl (lv_at hl 3 rfl) ?_
            refine lv_iload_n K.x K.b dX8_owner_69 rfl (lv_at hl 2 rfl) ?_
            obtain ⟨j23, hj23, h⟩ := z_bd_e h
            have Kj23 : ∀ (H : Heap) (locs : List Loc) (ls : Array Slot), z_H D A s.heap [(o, .inr (7, [.ref o_w, g_kept, g_text, g_size, g_above, g_below, .int v_bads, g_noes, g_fulls, g_at, g_from, g_token, g_value, g_readFault, g_yet, g_fars, g_tells])), (o_w, .inl (y 0, 1960, .inl f_w))] H locs → lv_has ls 7 [(0, .ref o), (1, .int p1), (2, .int p2), (3, .int s13.2.1), (5, .int s7.1), (6, .int s13.1)] → W p l e (zR 7 169) s m args below meth c H locs 0 0 Q (F0 m 86 ls [.int j23]) := by
              intro H locs ls hH hl
              refine lv_istore (lv' := [(4, .int j23), (0, .ref o), (1, .int p1), (2, .int p2), (3, .int s13.2.1), (5, .int s7.1), (6, .int s13.1)]) K.x K.b dX8_owner_86 hl (by decide) rfl (fun ls hl => ?_)
              obtain ⟨x24, ex24, h⟩ := z_lt_e h
              refine lv_iinc (v := x24) (lv' := [(3, .int x24), (4, .int j23), (0, .ref o), (1, .int p1), (2, .int p2), (5, .int s7.1), (6, .int s13.1)]) K.x K.b dX8_owner_88 hl (k := 4) rfl (by rw [ex24]; rfl) (by decide) rfl (fun ls hl => ?_)
              obtain rfl := Option.some.inj h
              exact Kj20 _ _ _ hH (lv_sub hl [2, 3, 4, 0, 1, 5, 6] rfl)
            replace h := hj23
            refine lv_icmp_ne (tgt := 84) K.x K.b dX8_owner_70 (by decide) (fun c25 => ?_) (fun c25 => ?_)
            · replace h := z_f c25 h
              refine lv_iload K.x K.b dX8_owner_84 (lv_at hl 4 rfl) ?_
              obtain rfl := Option.some.inj h
              exact Kj23 _ _ _ hH (lv_sub hl [0, 1, 2, 3, 5, 6] rfl)
            · replace h := z_t c25 h
              refine lv_bipush (v := (10)) K.x K.b dX8_owner_73 (by decide) ?_
              refine lv_iload K.x K.b dX8_owner_75 (lv_at hl 5 rfl) ?_
              refine lv_imul K.x K.b dX8_owner_77 ?_
              refine lv_iload K.x K.b dX8_owner_78 (lv_at hl 6 rfl) ?_
              refine lv_iadd K.x K.b dX8_owner_80 ?_
              refine lv_goto (tgt := 86) K.x K.b dX8_owner_81 (by decide) ?_
              obtain rfl := Option.some.inj h
              exact Kj23 _ _ _ hH (lv_sub hl [0, 1, 2, 3, 5, 6] rfl)
    · replace h := z_f c6 h
      refine lv_aload_n K.x K.b dX8_owner_13 rfl (lv_at hl 0 rfl) ?_
      obtain ⟨r26, hr27, h⟩ := z_bd_e h
      refine z_Vi K hH hl.1 (c_X8_badTen l D y o (.ref o_w) (g_kept) (g_text) (g_size) (g_above) (g_below) (g_noes) (g_fulls) (g_at) (g_from) (g_token) (g_value) (g_readFault) (g_yet) (g_fars) (g_tells) v_bads r26 hr27) (z_cwV K 0 tw_5_112 tw_5_114 tw_0_69 tw_1_8 tw_5_115 hd_X8_badTen ⟨by decide, by decide⟩) [0] [1] rfl (wr := [(o_w, .inl (y 0, 1960, .inl f_w))]) rfl rfl rfl (by decide) rfl rfl rfl (As := []) (rest := []) rfl (Nat.le_of_ble_eq_true rfl) ⟨Nat.zero_le _, Nat.zero_le _⟩ dX8_owner_14 (ws' := [(o_w, .inl (y 0, 1960, .inl f_w)), (o, .inr (7, [.ref o_w, g_kept, g_text, g_size, g_above, g_below, .int r26.2, g_noes, g_fulls, g_at, g_from, g_token, g_value, g_readFault, g_yet, g_fars, g_tells]))]) rfl (fun H locs hH => ?_)
      have hr9 := Option.some.inj h
      obtain rfl := hr9
      rw [hQ]
      exact z_reti K hr hH [1, 0] (by decide) rfl rfl rfl dX8_owner_17
noncomputable def p_X8_wind (v_above : Int64) (v_below : Int64) (v_bads : Int32) (f_w : (Nat → Int32)) (p1 : Int32) (p2 : Int32) (p3 : Int32) (p4 : Int32) : Option (Int32 × Int64 × Int64 × Int32) :=
  z_bd (p_X8_isCrow f_w p1) fun r1 =>
  if (r1 = 0) then
  (z_bd (p_X8_bad v_bads) fun r4 =>
  some (r4.1, v_above, v_below, r4.2)) else
  (z_bd (p_X8_isPlace f_w p2) fun r6 =>
  if (r6 = 0) then
  (z_bd (p_X8_bad v_bads) fun r9 =>
  some (r9.1, v_above, v_below, r9.2)) else
  (z_bd (p_X8_isPlace f_w p3) fun r11 =>
  if (r11 = 0) then
  (z_bd (p_X8_bad v_bads) fun r14 =>
  some (r14.1, v_above, v_below, r14.2)) else
  (z_bd (p_X8_in p4 (0 : Int32) (10 : Int32)) fun r16 =>
  if (r16 = 0) then
  (z_bd (p_X8_bad v_bads) fun r33 =>
  some (r33.1, v_above, v_below, r33.2)) else
  (z_bd (p_X8_farNow f_w p1 p2 p3) fun r19 =>
  z_lt (((r19).toInt64)) fun x21 =>
  z_lt ((((10 : Int64) * x21) + (((p4).toInt64) * (x21 / (2 : Int64))))) fun x22 =>
  z_bd (z_lp (S := Int64 × Int64) (E := Int64) (fun s23 =>
  if ((lg_cmp s23.1 (0 : Int64)) = 0) then
  (some (.inr s23.2)) else
  (z_gd (z_nzl s23.1) <|
  z_lt ((s23.2 - s23.2 / s23.1 * s23.1)) fun x32 =>
  some (.inl (x32, s23.1)))) ((10 : Int64), x22)) fun e24 =>
  z_gd (z_nzl e24) <|
  z_lt ((x22 / e24)) fun x26 =>
  z_gd (z_nzl e24) <|
  z_lt (((10 : Int64) / e24)) fun x28 =>
  some ((1 : Int32), x26, x28, v_bads)))))
theorem hd_X8_wind : yX8_wind.cls = RX8 ∧ yX8_wind.cls ≠ "java/lang/invoke/MethodHandle" ∧ yX8_wind.cls ≠ "java/lang/invoke/VarHandle" ∧ (parseMethodDescriptor yX8_wind.desc).map (fun d => d.parameters.length) = some 4 := by decide +kernel
set_option maxHeartbeats 4000000 in
set_option maxRecDepth 100000 in
theorem c_X8_wind (l : Launch) (D : va_G) (y : Nat → ClassId) (o o_w : Nat) (g_kept g_text g_size g_noes g_fulls g_at g_from g_token g_value g_readFault g_yet g_fars g_tells : Value) (v_above : Int64) (v_below : Int64) (v_bads : Int32) (f_w : (Nat → Int32)) (p1 : Int32) (p2 : Int32) (p3 : Int32) (p4 : Int32) (r : Int32 × Int64 × Int64 × Int32) (h : p_X8_wind v_above v_below v_bads f_w p1 p2 p3 p4 = some r) : z_MI l yX8_wind cX8_wind 15 (some .int) 5 121 D y [.ref o, .int p1, .int p2, .int p3, .int p4] [(o, .inr (7, [.ref o_w, g_kept, g_text, g_size, .long v_above, .long v_below, .int v_bads, g_noes, g_fulls, g_at, g_from, g_token, g_value, g_readFault, g_yet, g_fars, g_tells])), (o_w, .inl (y 0, 1960, .inl f_w))] r.1 [(o, .inr (7, [.ref o_w, g_kept, g_text, g_size, .long r.2.1, .long r.2.2.1, .int r.2.2.2, g_noes, g_fulls, g_at, g_from, g_token, g_value, g_readFault, g_yet, g_fars, g_tells])), (o_w, .inl (y 0, 1960, .inl f_w))] := by
  unfold p_X8_wind at h
  refine z_enI (by decide) (Nat.le_of_ble_eq_true rfl) ?_
  intro p e s m args below meth c A ls hr K hH hl
  obtain ⟨Q, hQ⟩ : ∃ Q, Q = MQ below (z_Qi D y A r.1 [(o, .inr (7, [.ref o_w, g_kept, g_text, g_size, .long r.2.1, .long r.2.2.1, .int r.2.2.2, g_noes, g_fulls, g_at, g_from, g_token, g_value, g_readFault, g_yet, g_fars, g_tells])), (o_w, .inl (y 0, 1960, .inl f_w))]) args s 0 0 A := ⟨_, rfl⟩
  rw [← hQ]
  have hl : lv_has ls 15 [(0, .ref o), (1, .int p1), (2, .int p2), (3, .int p3), (4, .int p4)] := hl
  refine lv_aload_n K.x K.b dX8_wind_0 rfl (lv_at hl 0 rfl) ?_
  refine lv_iload_n K.x K.b dX8_wind_1 rfl (lv_at hl 1 rfl) ?_
  obtain ⟨r1, hr2, h⟩ := z_bd_e h
  refine z_Vi K hH hl.1 (c_X8_isCrow l D y o o_w (g_kept) (g_text) (g_size) (.long v_above) (.long v_below) (.int v_bads) (g_noes) (g_fulls) (g_at) (g_from) (g_token) (g_value) (g_readFault) (g_yet) (g_fars) (g_tells) f_w p1 r1 hr2) (z_cwV K 1 tw_5_64 tw_5_66 tw_0_65 tw_1_8 tw_5_67 hd_X8_isCrow ⟨by decide, by decide⟩) [0, 1] [] rfl (wr := []) rfl rfl rfl (by decide) rfl rfl rfl (As := [.int p1]) (rest := []) rfl (Nat.le_of_ble_eq_true rfl) ⟨Nat.zero_le _, Nat.zero_le _⟩ dX8_wind_2 (ws' := [(o, .inr (7, [.ref o_w, g_kept, g_text, g_size, .long v_above, .long v_below, .int v_bads, g_noes, g_fulls, g_at, g_from, g_token, g_value, g_readFault, g_yet, g_fars, g_tells])), (o_w, .inl (y 0, 1960, .inl f_w))]) rfl (fun H locs hH => ?_)
  refine lv_if_eq (tgt := 35) K.x K.b dX8_wind_5 (by decide) (fun c3 => ?_) (fun c3 => ?_)
  · replace h := z_t c3 h
    refine lv_aload_n K.x K.b dX8_wind_35 rfl (lv_at hl 0 rfl) ?_
    obtain ⟨r4, hr5, h⟩ := z_bd_e h
    refine z_Vi K hH hl.1 (c_X8_bad l D y o (.ref o_w) (g_kept) (g_text) (g_size) (.long v_above) (.long v_below) (g_noes) (g_fulls) (g_at) (g_from) (g_token) (g_value) (g_readFault) (g_yet) (g_fars) (g_tells) v_bads r4 hr5) (z_cwV K 0 tw_4_163 tw_4_165 tw_0_37 tw_1_8 tw_4_166 hd_X8_bad ⟨by decide, by decide⟩) [0] [1] rfl (wr := [(o_w, .inl (y 0, 1960, .inl f_w))]) rfl rfl rfl (by decide) rfl rfl rfl (As := []) (rest := []) rfl (Nat.le_of_ble_eq_true rfl) ⟨Nat.zero_le _, Nat.zero_le _⟩ dX8_wind_36 (ws' := [(o_w, .inl (y 0, 1960, .inl f_w)), (o, .inr (7, [.ref o_w, g_kept, g_text, g_size, .long v_above, .long v_below, .int r4.2, g_noes, g_fulls, g_at, g_from, g_token, g_value, g_readFault, g_yet, g_fars, g_tells]))]) rfl (fun H locs hH => ?_)
    have hr9 := Option.some.inj h
    obtain rfl := hr9
    rw [hQ]
    exact z_reti K hr hH [1, 0] (by decide) rfl rfl rfl dX8_wind_39
  · replace h := z_f c3 h
    refine lv_aload_n K.x K.b dX8_wind_8 rfl (lv_at hl 0 rfl) ?_
    refine lv_iload_n K.x K.b dX8_wind_9 rfl (lv_at hl 2 rfl) ?_
    obtain ⟨r6, hr7, h⟩ := z_bd_e h
    refine z_Vi K hH hl.1 (c_X8_isPlace l D y o o_w (g_kept) (g_text) (g_size) (.long v_above) (.long v_below) (.int v_bads) (g_noes) (g_fulls) (g_at) (g_from) (g_token) (g_value) (g_readFault) (g_yet) (g_fars) (g_tells) f_w p2 r6 hr7) (z_cwV K 1 tw_4_179 tw_4_181 tw_0_40 tw_1_8 tw_4_182 hd_X8_isPlace ⟨by decide, by decide⟩) [0, 1] [] rfl (wr := []) rfl rfl rfl (by decide) rfl rfl rfl (As := [.int p2]) (rest := []) rfl (Nat.le_of_ble_eq_true rfl) ⟨Nat.zero_le _, Nat.zero_le _⟩ dX8_wind_10 (ws' := [(o, .inr (7, [.ref o_w, g_kept, g_text, g_size, .long v_above, .long v_below, .int v_bads, g_noes, g_fulls, g_at, g_from, g_token, g_value, g_readFault, g_yet, g_fars, g_tells])), (o_w, .inl (y 0, 1960, .inl f_w))]) rfl (fun H locs hH => ?_)
    refine lv_if_eq (tgt := 35) K.x K.b dX8_wind_13 (by decide) (fun c8 => ?_) (fun c8 => ?_)
    · replace h := z_t c8 h
      refine lv_aload_n K.x K.b dX8_wind_35 rfl (lv_at hl 0 rfl) ?_
      obtain ⟨r9, hr10, h⟩ := z_bd_e h
      refine z_Vi K hH hl.1 (c_X8_bad l D y o (.ref o_w) (g_kept) (g_text) (g_size) (.long v_above) (.long v_below) (g_noes) (g_fulls) (g_at) (g_from) (g_token) (g_value) (g_readFault) (g_yet) (g_fars) (g_tells) v_bads r9 hr10) (z_cwV K 0 tw_4_163 tw_4_165 tw_0_37 tw_1_8 tw_4_166 hd_X8_bad ⟨by decide, by decide⟩) [0] [1] rfl (wr := [(o_w, .inl (y 0, 1960, .inl f_w))]) rfl rfl rfl (by decide) rfl rfl rfl (As := []) (rest := []) rfl (Nat.le_of_ble_eq_true rfl) ⟨Nat.zero_le _, Nat.zero_le _⟩ dX8_wind_36 (ws' := [(o_w, .inl (y 0, 1960, .inl f_w)), (o, .inr (7, [.ref o_w, g_kept, g_text, g_size, .long v_above, .long v_below, .int r9.2, g_noes, g_fulls, g_at, g_from, g_token, g_value, g_readFault, g_yet, g_fars, g_tells]))]) rfl (fun H locs hH => ?_)
      have hr9 := Option.some.inj h
      obtain rfl := hr9
      rw [hQ]
      exact z_reti K hr hH [1, 0] (by decide) rfl rfl rfl dX8_wind_39
    · replace h := z_f c8 h
      refine lv_aload_n K.x K.b dX8_wind_16 rfl (lv_at hl 0 rfl) ?_
      refine lv_iload_n K.x K.b dX8_wind_17 rfl (lv_at hl 3 rfl) ?_
      obtain ⟨r11, hr12, h⟩ := z_bd_e h
      refine z_Vi K hH hl.1 (c_X8_isPlace l D y o o_w (g_kept) (g_text) (g_size) (.long v_above) (.long v_below) (.int v_bads) (g_noes) (g_fulls) (g_at) (g_from) (g_token) (g_value) (g_readFault) (g_yet) (g_fars) (g_tells) f_w p3 r11 hr12) (z_cwV K 1 tw_4_179 tw_4_181 tw_0_40 tw_1_8 tw_4_182 hd_X8_isPlace ⟨by decide, by decide⟩) [0, 1] [] rfl (wr := []) rfl rfl rfl (by decide) rfl rfl rfl (As := [.int p3]) (rest := []) rfl (Nat.le_of_ble_eq_true rfl) ⟨Nat.zero_le _, Nat.zero_le _⟩ dX8_wind_18 (ws' := [(o, .inr (7, [.ref o_w, g_kept, g_text, g_size, .long v_above, .long v_below, .int v_bads, g_noes, g_fulls, g_at, g_from, g_token, g_value, g_readFault, g_yet, g_fars, g_tells])), (o_w, .inl (y 0, 1960, .inl f_w))]) rfl (fun H locs hH => ?_)
      refine lv_if_eq (tgt := 35) K.x K.b dX8_wind_21 (by decide) (fun c13 => ?_) (fun c13 => ?_)
      · replace h := z_t c13 h
        refine lv_aload_n K.x K.b dX8_wind_35 rfl (lv_at hl 0 rfl) ?_
        obtain ⟨r14, hr15, h⟩ := z_bd_e h
        refine z_Vi K hH hl.1 (c_X8_bad l D y o (.ref o_w) (g_kept) (g_text) (g_size) (.long v_above) (.long v_below) (g_noes) (g_fulls) (g_at) (g_from) (g_token) (g_value) (g_readFault) (g_yet) (g_fars) (g_tells) v_bads r14 hr15) (z_cwV K 0 tw_4_163 tw_4_165 tw_0_37 tw_1_8 tw_4_166 hd_X8_bad ⟨by decide, by decide⟩) [0] [1] rfl (wr := [(o_w, .inl (y 0, 1960, .inl f_w))]) rfl rfl rfl (by decide) rfl rfl rfl (As := []) (rest := []) rfl (Nat.le_of_ble_eq_true rfl) ⟨Nat.zero_le _, Nat.zero_le _⟩ dX8_wind_36 (ws' := [(o_w, .inl (y 0, 1960, .inl f_w)), (o, .inr (7, [.ref o_w, g_kept, g_text, g_size, .long v_above, .long v_below, .int r14.2, g_noes, g_fulls, g_at, g_from, g_token, g_value, g_readFault, g_yet, g_fars, g_tells]))]) rfl (fun H locs hH => ?_)
        have hr9 := Option.some.inj h
        obtain rfl := hr9
        rw [hQ]
        exact z_reti K hr hH [1, 0] (by decide) rfl rfl rfl dX8_wind_39
      · replace h := z_f c13 h
        refine lv_iload K.x K.b dX8_wind_24 (lv_at hl 4 rfl) ?_
        refine lv_iconst (v := (0)) K.x K.b dX8_wind_26 (by decide) ?_
        refine lv_bipush (v := (10)) K.x K.b dX8_wind_27 (by decide) ?_
        obtain ⟨r16, hr17, h⟩ := z_bd_e h
        refine z_Si K hH hl.1 (c_X8_in l D y p4 (0 : Int32) (10 : Int32) r16 hr17) (z_cwS K 3 tw_4_160 tw_4_161 tw_1_8 tw_4_162 hd_X8_in ⟨by decide, by decide⟩) rfl (As := [.int p4, .int (0 : Int32), .int (10 : Int32)]) (rest := []) rfl (Nat.le_of_ble_eq_true rfl) ⟨Nat.zero_le _, Nat.zero_le _⟩ dX8_wind_29 (fun H locs hH => ?_)
        refine lv_if_ne (tgt := 40) K.x K.b dX8_wind_32 (by decide) (fun c18 => ?_) (fun c18 => ?_)
        · replace h := z_f c18 h
          refine lv_aload_n K.x K.b dX8_wind_40 rfl (lv_at hl 0 rfl) ?_
          refine lv_iload_n K.x K.b dX8_wind_41 rfl (lv_at hl 1 rfl) ?_
          refine lv_iload_n K.x K.b dX8_wind_42 rfl (lv_at hl 2 rfl) ?_
          refine lv_iload_n K.x K.b dX8_wind_43 rfl (lv_at hl 3 rfl) ?_
          obtain ⟨r19, hr20, h⟩ := z_bd_e h
          refine z_Vi K hH hl.1 (c_X8_farNow l D y o o_w (g_kept) (g_text) (g_size) (.long v_above) (.long v_below) (.int v_bads) (g_noes) (g_fulls) (g_at) (g_from) (g_token) (g_value) (g_readFault) (g_yet) (g_fars) (g_tells) f_w p1 p2 p3 r19 hr20) (z_cwV K 3 tw_5_104 tw_5_106 tw_0_68 tw_1_8 tw_5_107 hd_X8_farNow ⟨by decide, by decide⟩) [0, 1] [] rfl (wr := []) rfl rfl rfl (by decide) rfl rfl rfl (As := [.int p1, .int p2, .int p3]) (rest := []) rfl (Nat.le_of_ble_eq_true rfl) ⟨Nat.zero_le _, Nat.zero_le _⟩ dX8_wind_44 (ws' := [(o, .inr (7, [.ref o_w, g_kept, g_text, g_size, .long v_above, .long v_below, .int v_bads, g_noes, g_fulls, g_at, g_from, g_token, g_value, g_readFault, g_yet, g_fars, g_tells])), (o_w, .inl (y 0, 1960, .inl f_w))]) rfl (fun H locs hH => ?_)
          refine lv_i2l K.x K.b dX8_wind_47 rfl ?_
          obtain ⟨x21, ex21, h⟩ := z_lt_e h
          refine z_nml ex21 ?_
          refine lv_lstore (lv' := [(5, .long x21), (0, .ref o), (1, .int p1), (2, .int p2), (3, .int p3), (4, .int p4)]) K.x K.b dX8_wind_48 hl (by decide) rfl (fun ls hl => ?_)
          refine z_ldc2 K tw_5_232 dX8_wind_50 ?_
          refine lv_lload K.x K.b dX8_wind_53 (lv_at hl 0 rfl) ?_
          refine lv_lmul K.x K.b dX8_wind_55 ?_
          refine lv_iload K.x K.b dX8_wind_56 (lv_at hl 5 rfl) ?_
          refine lv_i2l K.x K.b dX8_wind_58 rfl ?_
          refine lv_lload K.x K.b dX8_wind_59 (lv_at hl 0 rfl) ?_
          refine z_ldc2 K tw_5_233 dX8_wind_61 ?_
          refine lv_ldiv K.x K.b dX8_wind_64 (by decide) ?_
          refine lv_lmul K.x K.b dX8_wind_65 ?_
          refine lv_ladd K.x K.b dX8_wind_66 ?_
          obtain ⟨x22, ex22, h⟩ := z_lt_e h
          refine z_nml ex22 ?_
          refine lv_lstore (lv' := [(7, .long x22), (5, .long x21), (0, .ref o), (1, .int p1), (2, .int p2), (3, .int p3), (4, .int p4)]) K.x K.b dX8_wind_67 hl (by decide) rfl (fun ls hl => ?_)
          refine lv_lload K.x K.b dX8_wind_69 (lv_at hl 0 rfl) ?_
          refine lv_lstore (lv' := [(9, .long x22), (7, .long x22), (5, .long x21), (0, .ref o), (1, .int p1), (2, .int p2), (3, .int p3), (4, .int p4)]) K.x K.b dX8_wind_71 hl (by decide) rfl (fun ls hl => ?_)
          refine z_ldc2 K tw_5_232 dX8_wind_73 ?_
          refine lv_lstore (lv' := [(11, .long (10 : Int64)), (9, .long x22), (7, .long x22), (5, .long x21), (0, .ref o), (1, .int p1), (2, .int p2), (3, .int p3), (4, .int p4)]) K.x K.b dX8_wind_76 hl (by decide) rfl (fun ls hl => ?_)
          obtain ⟨e24, hlpe24, h⟩ := z_bd_e h
          have KEe24 : ∀ (H : Heap) (locs : List Loc) (ls : Array Slot), z_H D A s.heap [(o, .inr (7, [.ref o_w, g_kept, g_text, g_size, .long v_above, .long v_below, .int v_bads, g_noes, g_fulls, g_at, g_from, g_token, g_value, g_readFault, g_yet, g_fars, g_tells])), (o_w, .inl (y 0, 1960, .inl f_w))] H locs → lv_has ls 15 [(0, .ref o), (7, .long x22), (9, .long e24)] → W p l e (zR 5 121) s m args below meth c H locs 0 0 Q (F0 m 103 ls []) := by
            intro H locs ls hH hl
            refine lv_aload_n K.x K.b dX8_wind_103 rfl (lv_at hl 0 rfl) ?_
            refine lv_lload K.x K.b dX8_wind_104 (lv_at hl 1 rfl) ?_
            refine lv_lload K.x K.b dX8_wind_106 (lv_at hl 2 rfl) ?_
            obtain ⟨g25, h⟩ := z_gd_e h
            refine lv_ldiv K.x K.b dX8_wind_108 (z_nzl_e g25) ?_
            obtain ⟨x26, ex26, h⟩ := z_lt_e h
            refine z_nml ex26 ?_
            refine z_put K hH 0 (ws' := [(o, .inr (7, [.ref o_w, g_kept, g_text, g_size, .long x26, .long v_below, .int v_bads, g_noes, g_fulls, g_at, g_from, g_token, g_value, g_readFault, g_yet, g_fars, g_tells])), (o_w, .inl (y 0, 1960, .inl f_w))]) rfl zin_8 rfl tyX8 tyX8_ok nmX8 4 (by decide) tw_4_100 rfl rfl rfl (Nat.le_of_ble_eq_true rfl) dX8_wind_109 rfl (fun H locs hH => ?_)
            refine lv_aload_n K.x K.b dX8_wind_112 rfl (lv_at hl 0 rfl) ?_
            refine z_ldc2 K tw_5_232 dX8_wind_113 ?_
            refine lv_lload K.x K.b dX8_wind_116 (lv_at hl 2 rfl) ?_
            obtain ⟨g27, h⟩ := z_gd_e h
            refine lv_ldiv K.x K.b dX8_wind_118 (z_nzl_e g27) ?_
            obtain ⟨x28, ex28, h⟩ := z_lt_e h
            refine z_nml ex28 ?_
            refine z_put K hH 0 (ws' := [(o, .inr (7, [.ref o_w, g_kept, g_text, g_size, .long x26, .long x28, .int v_bads, g_noes, g_fulls, g_at, g_from, g_token, g_value, g_readFault, g_yet, g_fars, g_tells])), (o_w, .inl (y 0, 1960, .inl f_w))]) rfl zin_8 rfl tyX8 tyX8_ok nmX8 5 (by decide) tw_4_101 rfl rfl rfl (Nat.le_of_ble_eq_true rfl) dX8_wind_119 rfl (fun H locs hH => ?_)
            refine lv_iconst (v := (1)) K.x K.b dX8_wind_122 (by decide) ?_
            have hr9 := Option.some.inj h
            obtain rfl := hr9
            rw [hQ]
            exact z_reti K hr hH [0, 1] (by decide) rfl rfl rfl dX8_wind_123
          refine z_lp_ind (P := fun (s23 : Int64 × Int64) => ∀ (H : Heap) (locs : List Loc) (ls : Array Slot), z_H D A s.heap [(o, .inr (7, [.ref o_w, g_kept, g_text, g_size, .long v_above, .long v_below, .int v_bads, g_noes, g_fulls, g_at, g_from, g_token, g_value, g_readFault, g_yet, g_fars, g_tells])), (o_w, .inl (y 0, 1960, .inl f_w))] H locs → lv_has ls 15 [(0, .ref o), (7, .long x22), (9, .long s23.2), (11, .long s23.1)] → W p l e (zR 5 121) s m args below meth c H locs 0 0 Q (F0 m 78 ls [])) ?_ _ hlpe24 _ _ _ hH (lv_sub hl [4, 2, 1, 0] rfl)
          clear h hlpe24
          intro s23 x29 h ihe24 hee24 H locs ls hH hl
          refine lv_lload K.x K.b dX8_wind_78 (lv_at hl 3 rfl) ?_
          refine lv_lconst (v := 0) K.x K.b dX8_wind_80 (by decide) ?_
          refine W.lcmp K.x K.b dX8_wind_81 ?_
          refine lv_if_eq (tgt := 103) K.x K.b dX8_wind_82 (by decide) (fun c30 => ?_) (fun c30 => ?_)
          · replace h := z_t c30 h
            obtain rfl := hee24 _ (Option.some.inj h).symm
            exact KEe24 _ _ _ hH (lv_sub hl [0, 1, 2] rfl)
          · replace h := z_f c30 h
            refine lv_lload K.x K.b dX8_wind_85 (lv_at hl 2 rfl) ?_
            refine lv_lload K.x K.b dX8_wind_87 (lv_at hl 3 rfl) ?_
            obtain ⟨g31, h⟩ := z_gd_e h
            refine lv_lrem K.x K.b dX8_wind_89 (z_nzl_e g31) ?_
            obtain ⟨x32, ex32, h⟩ := z_lt_e h
            refine z_nml ex32 ?_
            refine lv_lstore (lv' := [(13, .long x32), (0, .ref o), (7, .long x22), (9, .long s23.2), (11, .long s23.1)]) K.x K.b dX8_wind_90 hl (by decide) rfl (fun ls hl => ?_)
            refine lv_lload K.x K.b dX8_wind_92 (lv_at hl 4 rfl) ?_
            refine lv_lstore (lv' := [(9, .long s23.1), (13, .long x32), (0, .ref o), (7, .long x22), (11, .long s23.1)]) K.x K.b dX8_wind_94 hl (by decide) rfl (fun ls hl => ?_)
            refine lv_lload K.x K.b dX8_wind_96 (lv_at hl 1 rfl) ?_
            refine lv_lstore (lv' := [(11, .long x32), (9, .long s23.1), (13, .long x32), (0, .ref o), (7, .long x22)]) K.x K.b dX8_wind_98 hl (by decide) rfl (fun ls hl => ?_)
            refine lv_goto (tgt := 78) K.x K.b dX8_wind_100 (by decide) ?_
            exact ihe24 _ (Option.some.inj h).symm _ _ _ hH (lv_sub hl [3, 4, 1, 0] rfl)
        · replace h := z_t c18 h
          refine lv_aload_n K.x K.b dX8_wind_35 rfl (lv_at hl 0 rfl) ?_
          obtain ⟨r33, hr34, h⟩ := z_bd_e h
          refine z_Vi K hH hl.1 (c_X8_bad l D y o (.ref o_w) (g_kept) (g_text) (g_size) (.long v_above) (.long v_below) (g_noes) (g_fulls) (g_at) (g_from) (g_token) (g_value) (g_readFault) (g_yet) (g_fars) (g_tells) v_bads r33 hr34) (z_cwV K 0 tw_4_163 tw_4_165 tw_0_37 tw_1_8 tw_4_166 hd_X8_bad ⟨by decide, by decide⟩) [0] [1] rfl (wr := [(o_w, .inl (y 0, 1960, .inl f_w))]) rfl rfl rfl (by decide) rfl rfl rfl (As := []) (rest := []) rfl (Nat.le_of_ble_eq_true rfl) ⟨Nat.zero_le _, Nat.zero_le _⟩ dX8_wind_36 (ws' := [(o_w, .inl (y 0, 1960, .inl f_w)), (o, .inr (7, [.ref o_w, g_kept, g_text, g_size, .long v_above, .long v_below, .int r33.2, g_noes, g_fulls, g_at, g_from, g_token, g_value, g_readFault, g_yet, g_fars, g_tells]))]) rfl (fun H locs hH => ?_)
          have hr9 := Option.some.inj h
          obtain rfl := hr9
          rw [hQ]
          exact z_reti K hr hH [1, 0] (by decide) rfl rfl rfl dX8_wind_39
noncomputable def p_X8_yearIn (f_w : (Nat → Int32)) (p1 : Int32) : Option (Int32 × (Nat → Int32)) :=
  z_lt ((p1 / (65536 : Int32))) fun x1 =>
  z_lt ((x1 - x1 / (3 : Int32) * (3 : Int32))) fun x2 =>
  z_lt ((p1 / (1048576 : Int32))) fun x3 =>
  z_lt ((x3 - x3 / (7 : Int32) * (7 : Int32))) fun x4 =>
  z_bd (p_X8_isCrow f_w x2) fun r5 =>
  if (r5 = 0) then
  (z_bd (p_X8_goOn f_w (1916 : Int32) (1 : Int32)) fun r20 =>
  some ((0 : Int32), r20)) else
  (z_bd (p_X8_isPlace f_w x4) fun r8 =>
  if (r8 = 0) then
  (z_bd (p_X8_restIn f_w (1916 : Int32) x2) fun r11 =>
  some ((0 : Int32), r11.2)) else
  (z_lt (((1916 : Int32) + x2)) fun x13 =>
  z_gd (z_in x13 1960) <|
  if ((f_w x13.toNatClampNeg) = x4) then
  (z_bd (p_X8_restIn f_w (1916 : Int32) x2) fun r16 =>
  some ((0 : Int32), r16.2)) else
  (z_bd (p_X8_flyIn f_w (1916 : Int32) (0 : Int32) x2 x4) fun r18 =>
  some (r18.1, r18.2))))
theorem hd_X8_yearIn : yX8_yearIn.cls = RX8 ∧ yX8_yearIn.cls ≠ "java/lang/invoke/MethodHandle" ∧ yX8_yearIn.cls ≠ "java/lang/invoke/VarHandle" ∧ (parseMethodDescriptor yX8_yearIn.desc).map (fun d => d.parameters.length) = some 1 := by decide +kernel
set_option maxHeartbeats 4000000 in
set_option maxRecDepth 100000 in
theorem c_X8_yearIn (l : Launch) (D : va_G) (y : Nat → ClassId) (o o_w : Nat) (g_kept g_text g_size g_above g_below g_bads g_noes g_fulls g_at g_from g_token g_value g_readFault g_yet g_fars g_tells : Value) (f_w : (Nat → Int32)) (p1 : Int32) (r : Int32 × (Nat → Int32)) (h : p_X8_yearIn f_w p1 = some r) : z_MI l yX8_yearIn cX8_yearIn 5 (some .int) 5 124 D y [.ref o, .int p1] [(o, .inr (7, [.ref o_w, g_kept, g_text, g_size, g_above, g_below, g_bads, g_noes, g_fulls, g_at, g_from, g_token, g_value, g_readFault, g_yet, g_fars, g_tells])), (o_w, .inl (y 0, 1960, .inl f_w))] r.1 [(o, .inr (7, [.ref o_w, g_kept, g_text, g_size, g_above, g_below, g_bads, g_noes, g_fulls, g_at, g_from, g_token, g_value, g_readFault, g_yet, g_fars, g_tells])), (o_w, .inl (y 0, 1960, .inl r.2))] := by
  unfold p_X8_yearIn at h
  refine z_enI (by decide) (Nat.le_of_ble_eq_true rfl) ?_
  intro p e s m args below meth c A ls hr K hH hl
  obtain ⟨Q, hQ⟩ : ∃ Q, Q = MQ below (z_Qi D y A r.1 [(o, .inr (7, [.ref o_w, g_kept, g_text, g_size, g_above, g_below, g_bads, g_noes, g_fulls, g_at, g_from, g_token, g_value, g_readFault, g_yet, g_fars, g_tells])), (o_w, .inl (y 0, 1960, .inl r.2))]) args s 0 0 A := ⟨_, rfl⟩
  rw [← hQ]
  have hl : lv_has ls 5 [(0, .ref o), (1, .int p1)] := hl
  refine lv_iload_n K.x K.b dX8_yearIn_0 rfl (lv_at hl 1 rfl) ?_
  refine z_ldc K tw_6_6 dX8_yearIn_1 ?_
  refine lv_idiv K.x K.b dX8_yearIn_3 (by decide) ?_
  refine lv_iconst (v := (3)) K.x K.b dX8_yearIn_4 (by decide) ?_
  obtain ⟨x1, ex1, h⟩ := z_lt_e h
  refine z_nm2 ex1 ?_
  refine lv_irem K.x K.b dX8_yearIn_5 (by decide) ?_
  obtain ⟨x2, ex2, h⟩ := z_lt_e h
  refine z_nm ex2 ?_
  refine lv_istore_n (lv' := [(2, .int x2), (0, .ref o), (1, .int p1)]) K.x K.b dX8_yearIn_6 rfl hl (by decide) rfl (fun ls hl => ?_)
  refine lv_iload_n K.x K.b dX8_yearIn_7 rfl (lv_at hl 2 rfl) ?_
  refine z_ldc K tw_6_7 dX8_yearIn_8 ?_
  refine lv_idiv K.x K.b dX8_yearIn_10 (by decide) ?_
  refine lv_bipush (v := (7)) K.x K.b dX8_yearIn_11 (by decide) ?_
  obtain ⟨x3, ex3, h⟩ := z_lt_e h
  refine z_nm2 ex3 ?_
  refine lv_irem K.x K.b dX8_yearIn_13 (by decide) ?_
  obtain ⟨x4, ex4, h⟩ := z_lt_e h
  refine z_nm ex4 ?_
  refine lv_istore_n (lv' := [(3, .int x4), (2, .int x2), (0, .ref o), (1, .int p1)]) K.x K.b dX8_yearIn_14 rfl hl (by decide) rfl (fun ls hl => ?_)
  refine lv_aload_n K.x K.b dX8_yearIn_15 rfl (lv_at hl 2 rfl) ?_
  refine lv_iload_n K.x K.b dX8_yearIn_16 rfl (lv_at hl 1 rfl) ?_
  obtain ⟨r5, hr6, h⟩ := z_bd_e h
  refine z_Vi K hH hl.1 (c_X8_isCrow l D y o o_w (g_kept) (g_text) (g_size) (g_above) (g_below) (g_bads) (g_noes) (g_fulls) (g_at) (g_from) (g_token) (g_value) (g_readFault) (g_yet) (g_fars) (g_tells) f_w x2 r5 hr6) (z_cwV K 1 tw_5_64 tw_5_66 tw_0_65 tw_1_8 tw_5_67 hd_X8_isCrow ⟨by decide, by decide⟩) [0, 1] [] rfl (wr := []) rfl rfl rfl (by decide) rfl rfl rfl (As := [.int x2]) (rest := []) rfl (Nat.le_of_ble_eq_true rfl) ⟨Nat.zero_le _, Nat.zero_le _⟩ dX8_yearIn_17 (ws' := [(o, .inr (7, [.ref o_w, g_kept, g_text, g_size, g_above, g_below, g_bads, g_noes, g_fulls, g_at, g_from, g_token, g_value, g_readFault, g_yet, g_fars, g_tells])), (o_w, .inl (y 0, 1960, .inl f_w))]) rfl (fun H locs hH => ?_)
  refine lv_if_ne (tgt := 33) K.x K.b dX8_yearIn_20 (by decide) (fun c7 => ?_) (fun c7 => ?_)
  · replace h := z_f c7 h
    refine lv_aload_n K.x K.b dX8_yearIn_33 rfl (lv_at hl 2 rfl) ?_
    refine lv_iload_n K.x K.b dX8_yearIn_34 rfl (lv_at hl 0 rfl) ?_
    obtain ⟨r8, hr9, h⟩ := z_bd_e h
    refine z_Vi K hH hl.1 (c_X8_isPlace l D y o o_w (g_kept) (g_text) (g_size) (g_above) (g_below) (g_bads) (g_noes) (g_fulls) (g_at) (g_from) (g_token) (g_value) (g_readFault) (g_yet) (g_fars) (g_tells) f_w x4 r8 hr9) (z_cwV K 1 tw_4_179 tw_4_181 tw_0_40 tw_1_8 tw_4_182 hd_X8_isPlace ⟨by decide, by decide⟩) [0, 1] [] rfl (wr := []) rfl rfl rfl (by decide) rfl rfl rfl (As := [.int x4]) (rest := []) rfl (Nat.le_of_ble_eq_true rfl) ⟨Nat.zero_le _, Nat.zero_le _⟩ dX8_yearIn_35 (ws' := [(o, .inr (7, [.ref o_w, g_kept, g_text, g_size, g_above, g_below, g_bads, g_noes, g_fulls, g_at, g_from, g_token, g_value, g_readFault, g_yet, g_fars, g_tells])), (o_w, .inl (y 0, 1960, .inl f_w))]) rfl (fun H locs hH => ?_)
    refine lv_if_eq (tgt := 66) K.x K.b dX8_yearIn_38 (by decide) (fun c10 => ?_) (fun c10 => ?_)
    · replace h := z_t c10 h
      refine lv_aload_n K.x K.b dX8_yearIn_66 rfl (lv_at hl 2 rfl) ?_
      refine lv_sipush (v := (1916)) K.x K.b dX8_yearIn_67 (by decide) ?_
      refine lv_iload_n K.x K.b dX8_yearIn_70 rfl (lv_at hl 1 rfl) ?_
      obtain ⟨r11, hr12, h⟩ := z_bd_e h
      refine z_Vi K hH hl.1 (c_X8_restIn l D y o o_w (g_kept) (g_text) (g_size) (g_above) (g_below) (g_bads) (g_noes) (g_fulls) (g_at) (g_from) (g_token) (g_value) (g_readFault) (g_yet) (g_fars) (g_tells) f_w (1916 : Int32) x2 r11 hr12) (z_cwV K 2 tw_5_48 tw_5_50 tw_0_62 tw_1_8 tw_5_51 hd_X8_restIn ⟨by decide, by decide⟩) [0, 1] [] rfl (wr := []) rfl rfl rfl (by decide) rfl rfl rfl (As := [.int (1916 : Int32), .int x2]) (rest := []) rfl (Nat.le_of_ble_eq_true rfl) ⟨Nat.zero_le _, Nat.zero_le _⟩ dX8_yearIn_71 (ws' := [(o, .inr (7, [.ref o_w, g_kept, g_text, g_size, g_above, g_below, g_bads, g_noes, g_fulls, g_at, g_from, g_token, g_value, g_readFault, g_yet, g_fars, g_tells])), (o_w, .inl (y 0, 1960, .inl r11.2))]) rfl (fun H locs hH => ?_)
      refine lv_istore (lv' := [(4, .int r11.1), (3, .int x4), (2, .int x2), (0, .ref o), (1, .int p1)]) K.x K.b dX8_yearIn_74 hl (by decide) rfl (fun ls hl => ?_)
      refine lv_iconst (v := (0)) K.x K.b dX8_yearIn_76 (by decide) ?_
      have hr9 := Option.some.inj h
      obtain rfl := hr9
      rw [hQ]
      exact z_reti K hr hH [0, 1] (by decide) rfl rfl rfl dX8_yearIn_77
    · replace h := z_f c10 h
      refine lv_aload_n K.x K.b dX8_yearIn_41 rfl (lv_at hl 2 rfl) ?_
      refine z_get K hH 0 rfl zin_8 rfl 0 (by decide) tw_4_96 (v := .ref o_w) rfl dX8_yearIn_42 ?_
      refine lv_sipush (v := (1916)) K.x K.b dX8_yearIn_45 (by decide) ?_
      refine lv_iload_n K.x K.b dX8_yearIn_48 rfl (lv_at hl 1 rfl) ?_
      refine lv_iadd K.x K.b dX8_yearIn_49 ?_
      obtain ⟨x13, ex13, h⟩ := z_lt_e h
      refine z_nm ex13 ?_
      obtain ⟨g14, h⟩ := z_gd_e h
      refine z_iald K hH 1 (k := x13.toNatClampNeg) rfl g14 rfl dX8_yearIn_50 ?_
      refine lv_iload_n K.x K.b dX8_yearIn_51 rfl (lv_at hl 0 rfl) ?_
      refine lv_icmp_eq (tgt := 66) K.x K.b dX8_yearIn_52 (by decide) (fun c15 => ?_) (fun c15 => ?_)
      · replace h := z_t c15 h
        refine lv_aload_n K.x K.b dX8_yearIn_66 rfl (lv_at hl 2 rfl) ?_
        refine lv_sipush (v := (1916)) K.x K.b dX8_yearIn_67 (by decide) ?_
        refine lv_iload_n K.x K.b dX8_yearIn_70 rfl (lv_at hl 1 rfl) ?_
        obtain ⟨r16, hr17, h⟩ := z_bd_e h
        refine z_Vi K hH hl.1 (c_X8_restIn l D y o o_w (g_kept) (g_text) (g_size) (g_above) (g_below) (g_bads) (g_noes) (g_fulls) (g_at) (g_from) (g_token) (g_value) (g_readFault) (g_yet) (g_fars) (g_tells) f_w (1916 : Int32) x2 r16 hr17) (z_cwV K 2 tw_5_48 tw_5_50 tw_0_62 tw_1_8 tw_5_51 hd_X8_restIn ⟨by decide, by decide⟩) [0, 1] [] rfl (wr := []) rfl rfl rfl (by decide) rfl rfl rfl (As := [.int (1916 : Int32), .int x2]) (rest := []) rfl (Nat.le_of_ble_eq_true rfl) ⟨Nat.zero_le _, Nat.zero_le _⟩ dX8_yearIn_71 (ws' := [(o, .inr (7, [.ref o_w, g_kept, g_text, g_size, g_above, g_below, g_bads, g_noes, g_fulls, g_at, g_from, g_token, g_value, g_readFault, g_yet, g_fars, g_tells])), (o_w, .inl (y 0, 1960, .inl r16.2))]) rfl (fun H locs hH => ?_)
        refine lv_istore (lv' := [(4, .int r16.1), (3, .int x4), (2, .int x2), (0, .ref o), (1, .int p1)]) K.x K.b dX8_yearIn_74 hl (by decide) rfl (fun ls hl => ?_)
        refine lv_iconst (v := (0)) K.x K.b dX8_yearIn_76 (by decide) ?_
        have hr9 := Option.some.inj h
        obtain rfl := hr9
        rw [hQ]
        exact z_reti K hr hH [0, 1] (by decide) rfl rfl rfl dX8_yearIn_77
      · replace h := z_f c15 h
        refine lv_aload_n K.x K.b dX8_yearIn_55 rfl (lv_at hl 2 rfl) ?_
        refine lv_sipush (v := (1916)) K.x K.b dX8_yearIn_56 (by decide) ?_
        refine lv_iconst (v := (0)) K.x K.b dX8_yearIn_59 (by decide) ?_
        refine lv_iload_n K.x K.b dX8_yearIn_60 rfl (lv_at hl 1 rfl) ?_
        refine lv_iload_n K.x K.b dX8_yearIn_61 rfl (lv_at hl 0 rfl) ?_
        obtain ⟨r18, hr19, h⟩ := z_bd_e h
        refine z_Vi K hH hl.1 (c_X8_flyIn l D y o o_w (g_kept) (g_text) (g_size) (g_above) (g_below) (g_bads) (g_noes) (g_fulls) (g_at) (g_from) (g_token) (g_value) (g_readFault) (g_yet) (g_fars) (g_tells) f_w (1916 : Int32) (0 : Int32) x2 x4 r18 hr19) (z_cwV K 4 tw_5_15 tw_5_17 tw_0_56 tw_1_8 tw_5_18 hd_X8_flyIn ⟨by decide, by decide⟩) [0, 1] [] rfl (wr := []) rfl rfl rfl (by decide) rfl rfl rfl (As := [.int (1916 : Int32), .int (0 : Int32), .int x2, .int x4]) (rest := []) rfl (Nat.le_of_ble_eq_true rfl) ⟨Nat.zero_le _, Nat.zero_le _⟩ dX8_yearIn_62 (ws' := [(o, .inr (7, [.ref o_w, g_kept, g_text, g_size, g_above, g_below, g_bads, g_noes, g_fulls, g_at, g_from, g_token, g_value, g_readFault, g_yet, g_fars, g_tells])), (o_w, .inl (y 0, 1960, .inl r18.2))]) rfl (fun H locs hH => ?_)
        have hr9 := Option.some.inj h
        obtain rfl := hr9
        rw [hQ]
        exact z_reti K hr hH [0, 1] (by decide) rfl rfl rfl dX8_yearIn_65
  · replace h := z_t c7 h
    refine lv_aload_n K.x K.b dX8_yearIn_23 rfl (lv_at hl 2 rfl) ?_
    refine lv_sipush (v := (1916)) K.x K.b dX8_yearIn_24 (by decide) ?_
    refine lv_iconst (v := (1)) K.x K.b dX8_yearIn_27 (by decide) ?_
    obtain ⟨r20, hr21, h⟩ := z_bd_e h
    refine z_Vv K hH hl.1 (c_X8_goOn l D y o o_w (g_kept) (g_text) (g_size) (g_above) (g_below) (g_bads) (g_noes) (g_fulls) (g_at) (g_from) (g_token) (g_value) (g_readFault) (g_yet) (g_fars) (g_tells) f_w (1916 : Int32) (1 : Int32) r20 hr21) (z_cwV K 2 tw_5_40 tw_5_42 tw_0_60 tw_1_8 tw_5_43 hd_X8_goOn ⟨by decide, by decide⟩) [0, 1] [] rfl (wr := []) rfl rfl rfl (by decide) rfl rfl rfl (As := [.int (1916 : Int32), .int (1 : Int32)]) (rest := []) rfl (Nat.le_of_ble_eq_true rfl) ⟨Nat.zero_le _, Nat.zero_le _⟩ dX8_yearIn_28 (ws' := [(o, .inr (7, [.ref o_w, g_kept, g_text, g_size, g_above, g_below, g_bads, g_noes, g_fulls, g_at, g_from, g_token, g_value, g_readFault, g_yet, g_fars, g_tells])), (o_w, .inl (y 0, 1960, .inl r20))]) rfl (fun H locs hH => ?_)
    refine lv_iconst (v := (0)) K.x K.b dX8_yearIn_31 (by decide) ?_
    have hr9 := Option.some.inj h
    obtain rfl := hr9
    rw [hQ]
    exact z_reti K hr hH [0, 1] (by decide) rfl rfl rfl dX8_yearIn_32
noncomputable def p_X8_years (v_bads : Int32) (f_w : (Nat → Int32)) (p1 : Int32) (p2 : Int32) : Option (Int32 × Int32 × (Nat → Int32)) :=
  z_bd (p_X8_in p1 (0 : Int32) (999999 : Int32)) fun r1 =>
  if (r1 = 0) then
  (z_bd (p_X8_bad v_bads) fun r4 =>
  some (r4.1, r4.2, f_w)) else
  (z_bd (p_X8_in p2 (0 : Int32) (60 : Int32)) fun r6 =>
  if (r6 = 0) then
  (z_bd (p_X8_bad v_bads) fun r23 =>
  some (r23.1, r23.2, f_w)) else
  (z_bd (p_X8_copyRow f_w (0 : Int32) (1916 : Int32) (44 : Int32)) fun r9 =>
  z_lt (((p1).toInt64)) fun x11 =>
  z_bd (z_lp (S := Int32 × Int32 × Int64 × (Nat → Int32)) (E := Int32 × (Nat → Int32)) (fun s12 =>
  if (p2 ≤ s12.1) then
  (some (.inr (s12.2.1, s12.2.2.2))) else
  (z_lt (((s12.2.2.1 * (1103515245 : Int64)) + (12345 : Int64))) fun x16 =>
  z_lt ((x16 - x16 / (2147483648 : Int64) * (2147483648 : Int64))) fun x17 =>
  z_lt (((x17).toInt32)) fun x18 =>
  z_bd (p_X8_yearIn s12.2.2.2 x18) fun r19 =>
  z_lt ((s12.2.1 + r19.1)) fun x21 =>
  z_lt (s12.1 + (1 : Int32)) fun x22 =>
  some (.inl (x22, x21, x17, r19.2)))) ((0 : Int32), (0 : Int32), x11, r9)) fun e13 =>
  some (e13.1, v_bads, e13.2)))
theorem hd_X8_years : yX8_years.cls = RX8 ∧ yX8_years.cls ≠ "java/lang/invoke/MethodHandle" ∧ yX8_years.cls ≠ "java/lang/invoke/VarHandle" ∧ (parseMethodDescriptor yX8_years.desc).map (fun d => d.parameters.length) = some 2 := by decide +kernel
set_option maxHeartbeats 4000000 in
set_option maxRecDepth 100000 in
theorem c_X8_years (l : Launch) (D : va_G) (y : Nat → ClassId) (o o_w : Nat) (g_kept g_text g_size g_above g_below g_noes g_fulls g_at g_from g_token g_value g_readFault g_yet g_fars g_tells : Value) (v_bads : Int32) (f_w : (Nat → Int32)) (p1 : Int32) (p2 : Int32) (r : Int32 × Int32 × (Nat → Int32)) (h : p_X8_years v_bads f_w p1 p2 = some r) : z_MI l yX8_years cX8_years 7 (some .int) 6 148 D y [.ref o, .int p1, .int p2] [(o, .inr (7, [.ref o_w, g_kept, g_text, g_size, g_above, g_below, .int v_bads, g_noes, g_fulls, g_at, g_from, g_token, g_value, g_readFault, g_yet, g_fars, g_tells])), (o_w, .inl (y 0, 1960, .inl f_w))] r.1 [(o, .inr (7, [.ref o_w, g_kept, g_text, g_size, g_above, g_below, .int r.2.1, g_noes, g_fulls, g_at, g_from, g_token, g_value, g_readFault, g_yet, g_fars, g_tells])), (o_w, .inl (y 0, 1960, .inl r.2.2))] := by
  unfold p_X8_years at h
  refine z_enI (by decide) (Nat.le_of_ble_eq_true rfl) ?_
  intro p e s m args below meth c A ls hr K hH hl
  obtain ⟨Q, hQ⟩ : ∃ Q, Q = MQ below (z_Qi D y A r.1 [(o, .inr (7, [.ref o_w, g_kept, g_text, g_size, g_above, g_below, .int r.2.1, g_noes, g_fulls, g_at, g_from, g_token, g_value, g_readFault, g_yet, g_fars, g_tells])), (o_w, .inl (y 0, 1960, .inl r.2.2))]) args s 0 0 A := ⟨_, rfl⟩
  rw [← hQ]
  have hl : lv_has ls 7 [(0, .ref o), (1, .int p1), (2, .int p2)] := hl
  refine lv_iload_n K.x K.b dX8_years_0 rfl (lv_at hl 1 rfl) ?_
  refine lv_iconst (v := (0)) K.x K.b dX8_years_1 (by decide) ?_
  refine z_ldc K tw_5_238 dX8_years_2 ?_
  obtain ⟨r1, hr2, h⟩ := z_bd_e h
  refine z_Si K hH hl.1 (c_X8_in l D y p1 (0 : Int32) (999999 : Int32) r1 hr2) (z_cwS K 3 tw_4_160 tw_4_161 tw_1_8 tw_4_162 hd_X8_in ⟨by decide, by decide⟩) rfl (As := [.int p1, .int (0 : Int32), .int (999999 : Int32)]) (rest := []) rfl (Nat.le_of_ble_eq_true rfl) ⟨Nat.zero_le _, Nat.zero_le _⟩ dX8_years_4 (fun H locs hH => ?_)
  refine lv_if_eq (tgt := 20) K.x K.b dX8_years_7 (by decide) (fun c3 => ?_) (fun c3 => ?_)
  · replace h := z_t c3 h
    refine lv_aload_n K.x K.b dX8_years_20 rfl (lv_at hl 0 rfl) ?_
    obtain ⟨r4, hr5, h⟩ := z_bd_e h
    refine z_Vi K hH hl.1 (c_X8_bad l D y o (.ref o_w) (g_kept) (g_text) (g_size) (g_above) (g_below) (g_noes) (g_fulls) (g_at) (g_from) (g_token) (g_value) (g_readFault) (g_yet) (g_fars) (g_tells) v_bads r4 hr5) (z_cwV K 0 tw_4_163 tw_4_165 tw_0_37 tw_1_8 tw_4_166 hd_X8_bad ⟨by decide, by decide⟩) [0] [1] rfl (wr := [(o_w, .inl (y 0, 1960, .inl f_w))]) rfl rfl rfl (by decide) rfl rfl rfl (As := []) (rest := []) rfl (Nat.le_of_ble_eq_true rfl) ⟨Nat.zero_le _, Nat.zero_le _⟩ dX8_years_21 (ws' := [(o_w, .inl (y 0, 1960, .inl f_w)), (o, .inr (7, [.ref o_w, g_kept, g_text, g_size, g_above, g_below, .int r4.2, g_noes, g_fulls, g_at, g_from, g_token, g_value, g_readFault, g_yet, g_fars, g_tells]))]) rfl (fun H locs hH => ?_)
    have hr9 := Option.some.inj h
    obtain rfl := hr9
    rw [hQ]
    exact z_reti K hr hH [1, 0] (by decide) rfl rfl rfl dX8_years_24
  · replace h := z_f c3 h
    refine lv_iload_n K.x K.b dX8_years_10 rfl (lv_at hl 2 rfl) ?_
    refine lv_iconst (v := (0)) K.x K.b dX8_years_11 (by decide) ?_
    refine lv_bipush (v := (60)) K.x K.b dX8_years_12 (by decide) ?_
    obtain ⟨r6, hr7, h⟩ := z_bd_e h
    refine z_Si K hH hl.1 (c_X8_in l D y p2 (0 : Int32) (60 : Int32) r6 hr7) (z_cwS K 3 tw_4_160 tw_4_161 tw_1_8 tw_4_162 hd_X8_in ⟨by decide, by decide⟩) rfl (As := [.int p2, .int (0 : Int32), .int (60 : Int32)]) (rest := []) rfl (Nat.le_of_ble_eq_true rfl) ⟨Nat.zero_le _, Nat.zero_le _⟩ dX8_years_14 (fun H locs hH => ?_)
    refine lv_if_ne (tgt := 25) K.x K.b dX8_years_17 (by decide) (fun c8 => ?_) (fun c8 => ?_)
    · replace h := z_f c8 h
      refine lv_aload_n K.x K.b dX8_years_25 rfl (lv_at hl 0 rfl) ?_
      refine lv_iconst (v := (0)) K.x K.b dX8_years_26 (by decide) ?_
      refine lv_sipush (v := (1916)) K.x K.b dX8_years_27 (by decide) ?_
      refine lv_bipush (v := (44)) K.x K.b dX8_years_30 (by decide) ?_
      obtain ⟨r9, hr10, h⟩ := z_bd_e h
      refine z_Vv K hH hl.1 (c_X8_copyRow l D y o o_w (g_kept) (g_text) (g_size) (g_above) (g_below) (.int v_bads) (g_noes) (g_fulls) (g_at) (g_from) (g_token) (g_value) (g_readFault) (g_yet) (g_fars) (g_tells) f_w (0 : Int32) (1916 : Int32) (44 : Int32) r9 hr10) (z_cwV K 3 tw_5_56 tw_5_58 tw_0_64 tw_1_8 tw_5_59 hd_X8_copyRow ⟨by decide, by decide⟩) [0, 1] [] rfl (wr := []) rfl rfl rfl (by decide) rfl rfl rfl (As := [.int (0 : Int32), .int (1916 : Int32), .int (44 : Int32)]) (rest := []) rfl (Nat.le_of_ble_eq_true rfl) ⟨Nat.zero_le _, Nat.zero_le _⟩ dX8_years_32 (ws' := [(o, .inr (7, [.ref o_w, g_kept, g_text, g_size, g_above, g_below, .int v_bads, g_noes, g_fulls, g_at, g_from, g_token, g_value, g_readFault, g_yet, g_fars, g_tells])), (o_w, .inl (y 0, 1960, .inl r9))]) rfl (fun H locs hH => ?_)
      refine lv_iload_n K.x K.b dX8_years_35 rfl (lv_at hl 1 rfl) ?_
      refine lv_i2l K.x K.b dX8_years_36 rfl ?_
      obtain ⟨x11, ex11, h⟩ := z_lt_e h
      refine z_nml ex11 ?_
      refine lv_lstore_n (lv' := [(3, .long x11), (0, .ref o), (1, .int p1), (2, .int p2)]) K.x K.b dX8_years_37 rfl hl (by decide) rfl (fun ls hl => ?_)
      refine lv_iconst (v := (0)) K.x K.b dX8_years_38 (by decide) ?_
      refine lv_istore (lv' := [(5, .int (0 : Int32)), (3, .long x11), (0, .ref o), (1, .int p1), (2, .int p2)]) K.x K.b dX8_years_39 hl (by decide) rfl (fun ls hl => ?_)
      refine lv_iconst (v := (0)) K.x K.b dX8_years_41 (by decide) ?_
      refine lv_istore (lv' := [(6, .int (0 : Int32)), (5, .int (0 : Int32)), (3, .long x11), (0, .ref o), (1, .int p1), (2, .int p2)]) K.x K.b dX8_years_42 hl (by decide) rfl (fun ls hl => ?_)
      obtain ⟨e13, hlpe13, h⟩ := z_bd_e h
      have KEe13 : ∀ (H : Heap) (locs : List Loc) (ls : Array Slot), z_H D A s.heap [(o, .inr (7, [.ref o_w, g_kept, g_text, g_size, g_above, g_below, .int v_bads, g_noes, g_fulls, g_at, g_from, g_token, g_value, g_readFault, g_yet, g_fars, g_tells])), (o_w, .inl (y 0, 1960, .inl e13.2))] H locs → lv_has ls 7 [(5, .int e13.1)] → W p l e (zR 6 148) s m args below meth c H locs 0 0 Q (F0 m 81 ls []) := by
        intro H locs ls hH hl
        refine lv_iload K.x K.b dX8_years_81 (lv_at hl 0 rfl) ?_
        have hr9 := Option.some.inj h
        obtain rfl := hr9
        rw [hQ]
        exact z_reti K hr hH [0, 1] (by decide) rfl rfl rfl dX8_years_83
      refine z_lp_ind (P := fun (s12 : Int32 × Int32 × Int64 × (Nat → Int32)) => ∀ (H : Heap) (locs : List Loc) (ls : Array Slot), z_H D A s.heap [(o, .inr (7, [.ref o_w, g_kept, g_text, g_size, g_above, g_below, .int v_bads, g_noes, g_fulls, g_at, g_from, g_token, g_value, g_readFault, g_yet, g_fars, g_tells])), (o_w, .inl (y 0, 1960, .inl s12.2.2.2))] H locs → lv_has ls 7 [(0, .ref o), (2, .int p2), (3, .long s12.2.2.1), (5, .int s12.2.1), (6, .int s12.1)] → W p l e (zR 6 148) s m args below meth c H locs 0 0 Q (F0 m 44 ls [])) ?_ _ hlpe13 _ _ _ hH (lv_sub hl [3, 5, 2, 1, 0] rfl)
      clear h hlpe13
      intro s12 x14 h ihe13 hee13 H locs ls hH hl
      refine lv_iload K.x K.b dX8_years_44 (lv_at hl 4 rfl) ?_
      refine lv_iload_n K.x K.b dX8_years_46 rfl (lv_at hl 1 rfl) ?_
      refine lv_icmp_ge (tgt := 81) K.x K.b dX8_years_47 (by decide) (fun c15 => ?_) (fun c15 => ?_)
      · replace h := z_t c15 h
        obtain rfl := hee13 _ (Option.some.inj h).symm
        exact KEe13 _ _ _ hH (lv_sub hl [3] rfl)
      · replace h := z_f c15 h
        refine lv_lload_n K.x K.b dX8_years_50 rfl (lv_at hl 2 rfl) ?_
        refine z_ldc2 K tw_5_239 dX8_years_51 ?_
        refine lv_lmul K.x K.b dX8_years_54 ?_
        refine z_ldc2 K tw_6_0 dX8_years_55 ?_
        refine lv_ladd K.x K.b dX8_years_58 ?_
        refine z_ldc2 K tw_6_1 dX8_years_59 ?_
        obtain ⟨x16, ex16, h⟩ := z_lt_e h
        refine z_nml2 ex16 ?_
        refine lv_lrem K.x K.b dX8_years_62 (by decide) ?_
        obtain ⟨x17, ex17, h⟩ := z_lt_e h
        refine z_nml ex17 ?_
        refine lv_lstore_n (lv' := [(3, .long x17), (0, .ref o), (2, .int p2), (5, .int s12.2.1), (6, .int s12.1)]) K.x K.b dX8_years_63 rfl hl (by decide) rfl (fun ls hl => ?_)
        refine lv_iload K.x K.b dX8_years_64 (lv_at hl 3 rfl) ?_
        refine lv_aload_n K.x K.b dX8_years_66 rfl (lv_at hl 1 rfl) ?_
        refine lv_lload_n K.x K.b dX8_years_67 rfl (lv_at hl 0 rfl) ?_
        refine lv_l2i K.x K.b dX8_years_68 rfl ?_
        obtain ⟨x18, ex18, h⟩ := z_lt_e h
        refine z_nm ex18 ?_
        obtain ⟨r19, hr20, h⟩ := z_bd_e h
        refine z_Vi K hH hl.1 (c_X8_yearIn l D y o o_w (g_kept) (g_text) (g_size) (g_above) (g_below) (.int v_bads) (g_noes) (g_fulls) (g_at) (g_from) (g_token) (g_value) (g_readFault) (g_yet) (g_fars) (g_tells) s12.2.2.2 x18 r19 hr20) (z_cwV K 1 tw_6_2 tw_6_4 tw_0_84 tw_1_8 tw_6_5 hd_X8_yearIn ⟨by decide, by decide⟩) [0, 1] [] rfl (wr := []) rfl rfl rfl (by decide) rfl rfl rfl (As := [.int x18]) (rest := [.int s12.2.1]) rfl (Nat.le_of_ble_eq_true rfl) ⟨Nat.zero_le _, Nat.zero_le _⟩ dX8_years_69 (ws' := [(o, .inr (7, [.ref o_w, g_kept, g_text, g_size, g_above, g_below, .int v_bads, g_noes, g_fulls, g_at, g_from, g_token, g_value, g_readFault, g_yet, g_fars, g_tells])), (o_w, .inl (y 0, 1960, .inl r19.2))]) rfl (fun H locs hH => ?_)
        refine lv_iadd K.x K.b dX8_years_72 ?_
        obtain ⟨x21, ex21, h⟩ := z_lt_e h
        refine z_nm ex21 ?_
        refine lv_istore (lv' := [(5, .int x21), (3, .long x17), (0, .ref o), (2, .int p2), (6, .int s12.1)]) K.x K.b dX8_years_73 hl (by decide) rfl (fun ls hl => ?_)
        obtain ⟨x22, ex22, h⟩ := z_lt_e h
        refine lv_iinc (v := x22) (lv' := [(6, .int x22), (5, .int x21), (3, .long x17), (0, .ref o), (2, .int p2)]) K.x K.b dX8_years_75 hl (k := 4) rfl (by rw [ex22]; rfl) (by decide) rfl (fun ls hl => ?_)
        refine lv_goto (tgt := 44) K.x K.b dX8_years_78 (by decide) ?_
        exact ihe13 _ (Option.some.inj h).symm _ _ _ hH (lv_sub hl [3, 4, 2, 1, 0] rfl)
    · replace h := z_t c8 h
      refine lv_aload_n K.x K.b dX8_years_20 rfl (lv_at hl 0 rfl) ?_
      obtain ⟨r23, hr24, h⟩ := z_bd_e h
      refine z_Vi K hH hl.1 (c_X8_bad l D y o (.ref o_w) (g_kept) (g_text) (g_size) (g_above) (g_below) (g_noes) (g_fulls) (g_at) (g_from) (g_token) (g_value) (g_readFault) (g_yet) (g_fars) (g_tells) v_bads r23 hr24) (z_cwV K 0 tw_4_163 tw_4_165 tw_0_37 tw_1_8 tw_4_166 hd_X8_bad ⟨by decide, by decide⟩) [0] [1] rfl (wr := [(o_w, .inl (y 0, 1960, .inl f_w))]) rfl rfl rfl (by decide) rfl rfl rfl (As := []) (rest := []) rfl (Nat.le_of_ble_eq_true rfl) ⟨Nat.zero_le _, Nat.zero_le _⟩ dX8_years_21 (ws' := [(o_w, .inl (y 0, 1960, .inl f_w)), (o, .inr (7, [.ref o_w, g_kept, g_text, g_size, g_above, g_below, .int r23.2, g_noes, g_fulls, g_at, g_from, g_token, g_value, g_readFault, g_yet, g_fars, g_tells]))]) rfl (fun H locs hH => ?_)
      have hr9 := Option.some.inj h
      obtain rfl := hr9
      rw [hQ]
      exact z_reti K hr hH [1, 0] (by decide) rfl rfl rfl dX8_years_24
def p_X8_part (v_above : Int64) (v_below : Int64) (v_bads : Int32) (p1 : Int32) : Option (Int64 × Int32) :=
  z_bd (α := Int64 × Int32) (if (p1 = 0) then
  (some (v_above, v_bads)) else
  (if (p1 = (1 : Int32)) then
  (some (v_below, v_bads)) else
  (z_bd (p_X8_bad v_bads) fun r4 =>
  some (((r4.1).toInt64), r4.2)))) fun j1 =>
  some (j1.1, j1.2)
theorem hd_X8_part : yX8_part.cls = RX8 ∧ yX8_part.cls ≠ "java/lang/invoke/MethodHandle" ∧ yX8_part.cls ≠ "java/lang/invoke/VarHandle" ∧ (parseMethodDescriptor yX8_part.desc).map (fun d => d.parameters.length) = some 1 := by decide +kernel
set_option maxHeartbeats 4000000 in
set_option maxRecDepth 100000 in
theorem c_X8_part (l : Launch) (D : va_G) (y : Nat → ClassId) (o : Nat) (g_w g_kept g_text g_size g_noes g_fulls g_at g_from g_token g_value g_readFault g_yet g_fars g_tells : Value) (v_above : Int64) (v_below : Int64) (v_bads : Int32) (p1 : Int32) (r : Int64 × Int32) (h : p_X8_part v_above v_below v_bads p1 = some r) : z_ML l yX8_part cX8_part 2 (some .long) 1 20 D y [.ref o, .int p1] [(o, .inr (7, [g_w, g_kept, g_text, g_size, .long v_above, .long v_below, .int v_bads, g_noes, g_fulls, g_at, g_from, g_token, g_value, g_readFault, g_yet, g_fars, g_tells]))] r.1 [(o, .inr (7, [g_w, g_kept, g_text, g_size, .long v_above, .long v_below, .int r.2, g_noes, g_fulls, g_at, g_from, g_token, g_value, g_readFault, g_yet, g_fars, g_tells]))] := by
  unfold p_X8_part at h
  refine z_enL (by decide) (Nat.le_of_ble_eq_true rfl) ?_
  intro p e s m args below meth c A ls hr K hH hl
  obtain ⟨Q, hQ⟩ : ∃ Q, Q = MQ below (z_Ql D y A r.1 [(o, .inr (7, [g_w, g_kept, g_text, g_size, .long v_above, .long v_below, .int r.2, g_noes, g_fulls, g_at, g_from, g_token, g_value, g_readFault, g_yet, g_fars, g_tells]))]) args s 0 0 A := ⟨_, rfl⟩
  rw [← hQ]
  have hl : lv_has ls 2 [(0, .ref o), (1, .int p1)] := hl
  refine lv_iload_n K.x K.b dX8_part_0 rfl (lv_at hl 1 rfl) ?_
  obtain ⟨j1, hj1, h⟩ := z_bd_e h
  have Kj1 : ∀ (H : Heap) (locs : List Loc) (ls : Array Slot), z_H D A s.heap [(o, .inr (7, [g_w, g_kept, g_text, g_size, .long v_above, .long v_below, .int j1.2, g_noes, g_fulls, g_at, g_from, g_token, g_value, g_readFault, g_yet, g_fars, g_tells]))] H locs → lv_has ls 2 [] → W p l e (zR 1 20) s m args below meth c H locs 0 0 Q (F0 m 28 ls [.long j1.1]) := by
    intro H locs ls hH hl
    have hr9 := Option.some.inj h
    obtain rfl := hr9
    rw [hQ]
    exact z_retl K hr hH [0] (by decide) rfl rfl dX8_part_28
  replace h := hj1
  refine lv_if_ne (tgt := 11) K.x K.b dX8_part_1 (by decide) (fun c2 => ?_) (fun c2 => ?_)
  · replace h := z_f c2 h
    refine lv_iload_n K.x K.b dX8_part_11 rfl (lv_at hl 1 rfl) ?_
    refine lv_iconst (v := (1)) K.x K.b dX8_part_12 (by decide) ?_
    refine lv_icmp_ne (tgt := 23) K.x K.b dX8_part_13 (by decide) (fun c3 => ?_) (fun c3 => ?_)
    · replace h := z_f c3 h
      refine lv_aload_n K.x K.b dX8_part_23 rfl (lv_at hl 0 rfl) ?_
      obtain ⟨r4, hr5, h⟩ := z_bd_e h
      refine z_Vi K hH hl.1 (c_X8_bad l D y o (g_w) (g_kept) (g_text) (g_size) (.long v_above) (.long v_below) (g_noes) (g_fulls) (g_at) (g_from) (g_token) (g_value) (g_readFault) (g_yet) (g_fars) (g_tells) v_bads r4 hr5) (z_cwV K 0 tw_4_163 tw_4_165 tw_0_37 tw_1_8 tw_4_166 hd_X8_bad ⟨by decide, by decide⟩) [0] [] rfl (wr := []) rfl rfl rfl (by decide) rfl rfl rfl (As := []) (rest := []) rfl (Nat.le_of_ble_eq_true rfl) ⟨Nat.zero_le _, Nat.zero_le _⟩ dX8_part_24 (ws' := [(o, .inr (7, [g_w, g_kept, g_text, g_size, .long v_above, .long v_below, .int r4.2, g_noes, g_fulls, g_at, g_from, g_token, g_value, g_readFault, g_yet, g_fars, g_tells]))]) rfl (fun H locs hH => ?_)
      refine lv_i2l K.x K.b dX8_part_27 rfl ?_
      obtain rfl := Option.some.inj h
      exact Kj1 _ _ _ hH (lv_sub hl [] rfl)
    · replace h := z_t c3 h
      refine lv_aload_n K.x K.b dX8_part_16 rfl (lv_at hl 0 rfl) ?_
      refine z_get K hH 0 rfl zin_8 rfl 5 (by decide) tw_4_101 (v := .long v_below) rfl dX8_part_17 ?_
      refine lv_goto (tgt := 28) K.x K.b dX8_part_20 (by decide) ?_
      obtain rfl := Option.some.inj h
      exact Kj1 _ _ _ hH (lv_sub hl [] rfl)
  · replace h := z_t c2 h
    refine lv_aload_n K.x K.b dX8_part_4 rfl (lv_at hl 0 rfl) ?_
    refine z_get K hH 0 rfl zin_8 rfl 4 (by decide) tw_4_100 (v := .long v_above) rfl dX8_part_5 ?_
    refine lv_goto (tgt := 28) K.x K.b dX8_part_8 (by decide) ?_
    obtain rfl := Option.some.inj h
    exact Kj1 _ _ _ hH (lv_sub hl [] rfl)
noncomputable def p_X8_image (v_kept : Int32) (v_bads : Int32) (f_w : (Nat → Int32)) (p1 : Int32) : Option (Int32 × Int32 × Int32 × (Nat → Int32)) :=
  z_bd (p_X8_in p1 (0 : Int32) (1 : Int32)) fun r1 =>
  if (r1 = 0) then
  (z_bd (p_X8_bad v_bads) fun r8 =>
  some (r8.1, v_kept, r8.2, f_w)) else
  (z_lt (((479 : Int32) + ((479 : Int32) * p1))) fun x4 =>
  z_bd (p_X8_copyRow f_w (0 : Int32) x4 (479 : Int32)) fun r5 =>
  z_lt ((v_kept ||| ((1 : Int32) <<< (p1 &&& 31)))) fun x7 =>
  some ((1 : Int32), x7, v_bads, r5))
theorem hd_X8_image : yX8_image.cls = RX8 ∧ yX8_image.cls ≠ "java/lang/invoke/MethodHandle" ∧ yX8_image.cls ≠ "java/lang/invoke/VarHandle" ∧ (parseMethodDescriptor yX8_image.desc).map (fun d => d.parameters.length) = some 1 := by decide +kernel
set_option maxHeartbeats 4000000 in
set_option maxRecDepth 100000 in
theorem c_X8_image (l : Launch) (D : va_G) (y : Nat → ClassId) (o o_w : Nat) (g_text g_size g_above g_below g_noes g_fulls g_at g_from g_token g_value g_readFault g_yet g_fars g_tells : Value) (v_kept : Int32) (v_bads : Int32) (f_w : (Nat → Int32)) (p1 : Int32) (r : Int32 × Int32 × Int32 × (Nat → Int32)) (h : p_X8_image v_kept v_bads f_w p1 = some r) : z_MI l yX8_image cX8_image 2 (some .int) 1 24 D y [.ref o, .int p1] [(o, .inr (7, [.ref o_w, .int v_kept, g_text, g_size, g_above, g_below, .int v_bads, g_noes, g_fulls, g_at, g_from, g_token, g_value, g_readFault, g_yet, g_fars, g_tells])), (o_w, .inl (y 0, 1960, .inl f_w))] r.1 [(o, .inr (7, [.ref o_w, .int r.2.1, g_text, g_size, g_above, g_below, .int r.2.2.1, g_noes, g_fulls, g_at, g_from, g_token, g_value, g_readFault, g_yet, g_fars, g_tells])), (o_w, .inl (y 0, 1960, .inl r.2.2.2))] := by
  unfold p_X8_image at h
  refine z_enI (by decide) (Nat.le_of_ble_eq_true rfl) ?_
  intro p e s m args below meth c A ls hr K hH hl
  obtain ⟨Q, hQ⟩ : ∃ Q, Q = MQ below (z_Qi D y A r.1 [(o, .inr (7, [.ref o_w, .int r.2.1, g_text, g_size, g_above, g_below, .int r.2.2.1, g_noes, g_fulls, g_at, g_from, g_token, g_value, g_readFault, g_yet, g_fars, g_tells])), (o_w, .inl (y 0, 1960, .inl r.2.2.2))]) args s 0 0 A := ⟨_, rfl⟩
  rw [← hQ]
  have hl : lv_has ls 2 [(0, .ref o), (1, .int p1)] := hl
  refine lv_iload_n K.x K.b dX8_image_0 rfl (lv_at hl 1 rfl) ?_
  refine lv_iconst (v := (0)) K.x K.b dX8_image_1 (by decide) ?_
  refine lv_iconst (v := (1)) K.x K.b dX8_image_2 (by decide) ?_
  obtain ⟨r1, hr2, h⟩ := z_bd_e h
  refine z_Si K hH hl.1 (c_X8_in l D y p1 (0 : Int32) (1 : Int32) r1 hr2) (z_cwS K 3 tw_4_160 tw_4_161 tw_1_8 tw_4_162 hd_X8_in ⟨by decide, by decide⟩) rfl (As := [.int p1, .int (0 : Int32), .int (1 : Int32)]) (rest := []) rfl (Nat.le_of_ble_eq_true rfl) ⟨Nat.zero_le _, Nat.zero_le _⟩ dX8_image_3 (fun H locs hH => ?_)
  refine lv_if_ne (tgt := 14) K.x K.b dX8_image_6 (by decide) (fun c3 => ?_) (fun c3 => ?_)
  · replace h := z_f c3 h
    refine lv_aload_n K.x K.b dX8_image_14 rfl (lv_at hl 0 rfl) ?_
    refine lv_iconst (v := (0)) K.x K.b dX8_image_15 (by decide) ?_
    refine lv_sipush (v := (479)) K.x K.b dX8_image_16 (by decide) ?_
    refine lv_sipush (v := (479)) K.x K.b dX8_image_19 (by decide) ?_
    refine lv_iload_n K.x K.b dX8_image_22 rfl (lv_at hl 1 rfl) ?_
    refine lv_imul K.x K.b dX8_image_23 ?_
    refine lv_iadd K.x K.b dX8_image_24 ?_
    refine lv_sipush (v := (479)) K.x K.b dX8_image_25 (by decide) ?_
    obtain ⟨x4, ex4, h⟩ := z_lt_e h
    refine z_nm2 ex4 ?_
    obtain ⟨r5, hr6, h⟩ := z_bd_e h
    refine z_Vv K hH hl.1 (c_X8_copyRow l D y o o_w (.int v_kept) (g_text) (g_size) (g_above) (g_below) (.int v_bads) (g_noes) (g_fulls) (g_at) (g_from) (g_token) (g_value) (g_readFault) (g_yet) (g_fars) (g_tells) f_w (0 : Int32) x4 (479 : Int32) r5 hr6) (z_cwV K 3 tw_5_56 tw_5_58 tw_0_64 tw_1_8 tw_5_59 hd_X8_copyRow ⟨by decide, by decide⟩) [0, 1] [] rfl (wr := []) rfl rfl rfl (by decide) rfl rfl rfl (As := [.int (0 : Int32), .int x4, .int (479 : Int32)]) (rest := []) rfl (Nat.le_of_ble_eq_true rfl) ⟨Nat.zero_le _, Nat.zero_le _⟩ dX8_image_28 (ws' := [(o, .inr (7, [.ref o_w, .int v_kept, g_text, g_size, g_above, g_below, .int v_bads, g_noes, g_fulls, g_at, g_from, g_token, g_value, g_readFault, g_yet, g_fars, g_tells])), (o_w, .inl (y 0, 1960, .inl r5))]) rfl (fun H locs hH => ?_)
    refine lv_aload_n K.x K.b dX8_image_31 rfl (lv_at hl 0 rfl) ?_
    refine lv_dup K.x K.b dX8_image_32 rfl ?_
    refine z_get K hH 0 rfl zin_8 rfl 1 (by decide) tw_4_97 (v := .int v_kept) rfl dX8_image_33 ?_
    refine lv_iconst (v := (1)) K.x K.b dX8_image_36 (by decide) ?_
    refine lv_iload_n K.x K.b dX8_image_37 rfl (lv_at hl 1 rfl) ?_
    refine lv_ishl K.x K.b dX8_image_38 ?_
    refine lv_ior K.x K.b dX8_image_39 ?_
    obtain ⟨x7, ex7, h⟩ := z_lt_e h
    refine z_nm ex7 ?_
    refine z_put K hH 0 (ws' := [(o, .inr (7, [.ref o_w, .int x7, g_text, g_size, g_above, g_below, .int v_bads, g_noes, g_fulls, g_at, g_from, g_token, g_value, g_readFault, g_yet, g_fars, g_tells])), (o_w, .inl (y 0, 1960, .inl r5))]) rfl zin_8 rfl tyX8 tyX8_ok nmX8 1 (by decide) tw_4_97 rfl rfl rfl (Nat.le_of_ble_eq_true rfl) dX8_image_40 rfl (fun H locs hH => ?_)
    refine lv_iconst (v := (1)) K.x K.b dX8_image_43 (by decide) ?_
    have hr9 := Option.some.inj h
    obtain rfl := hr9
    rw [hQ]
    exact z_reti K hr hH [0, 1] (by decide) rfl rfl rfl dX8_image_44
  · replace h := z_t c3 h
    refine lv_aload_n K.x K.b dX8_image_9 rfl (lv_at hl 0 rfl) ?_
    obtain ⟨r8, hr9, h⟩ := z_bd_e h
    refine z_Vi K hH hl.1 (c_X8_bad l D y o (.ref o_w) (.int v_kept) (g_text) (g_size) (g_above) (g_below) (g_noes) (g_fulls) (g_at) (g_from) (g_token) (g_value) (g_readFault) (g_yet) (g_fars) (g_tells) v_bads r8 hr9) (z_cwV K 0 tw_4_163 tw_4_165 tw_0_37 tw_1_8 tw_4_166 hd_X8_bad ⟨by decide, by decide⟩) [0] [1] rfl (wr := [(o_w, .inl (y 0, 1960, .inl f_w))]) rfl rfl rfl (by decide) rfl rfl rfl (As := []) (rest := []) rfl (Nat.le_of_ble_eq_true rfl) ⟨Nat.zero_le _, Nat.zero_le _⟩ dX8_image_10 (ws' := [(o_w, .inl (y 0, 1960, .inl f_w)), (o, .inr (7, [.ref o_w, .int v_kept, g_text, g_size, g_above, g_below, .int r8.2, g_noes, g_fulls, g_at, g_from, g_token, g_value, g_readFault, g_yet, g_fars, g_tells]))]) rfl (fun H locs hH => ?_)
    have hr9 := Option.some.inj h
    obtain rfl := hr9
    rw [hQ]
    exact z_reti K hr hH [1, 0] (by decide) rfl rfl rfl dX8_image_13
noncomputable def p_X8_from (v_kept : Int32) (v_bads : Int32) (v_noes : Int32) (f_w : (Nat → Int32)) (p1 : Int32) : Option (Int32 × Int32 × Int32 × (Nat → Int32)) :=
  z_bd (p_X8_in p1 (0 : Int32) (1 : Int32)) fun r1 =>
  if (r1 = 0) then
  (z_bd (p_X8_bad v_bads) fun r12 =>
  some (r12.1, r12.2, v_noes, f_w)) else
  (z_bd (p_X8_has v_kept p1) fun r4 =>
  if (r4 = 0) then
  (z_bd (p_X8_no v_noes) fun r10 =>
  some (r10.1, v_bads, r10.2, f_w)) else
  (z_lt (((479 : Int32) + ((479 : Int32) * p1))) fun x7 =>
  z_bd (p_X8_copyRow f_w x7 (0 : Int32) (479 : Int32)) fun r8 =>
  some ((1 : Int32), v_bads, v_noes, r8)))
theorem hd_X8_from : yX8_from.cls = RX8 ∧ yX8_from.cls ≠ "java/lang/invoke/MethodHandle" ∧ yX8_from.cls ≠ "java/lang/invoke/VarHandle" ∧ (parseMethodDescriptor yX8_from.desc).map (fun d => d.parameters.length) = some 1 := by decide +kernel
set_option maxHeartbeats 4000000 in
set_option maxRecDepth 100000 in
theorem c_X8_from (l : Launch) (D : va_G) (y : Nat → ClassId) (o o_w : Nat) (g_text g_size g_above g_below g_fulls g_at g_from g_token g_value g_readFault g_yet g_fars g_tells : Value) (v_kept : Int32) (v_bads : Int32) (v_noes : Int32) (f_w : (Nat → Int32)) (p1 : Int32) (r : Int32 × Int32 × Int32 × (Nat → Int32)) (h : p_X8_from v_kept v_bads v_noes f_w p1 = some r) : z_MI l yX8_from cX8_from 2 (some .int) 1 24 D y [.ref o, .int p1] [(o, .inr (7, [.ref o_w, .int v_kept, g_text, g_size, g_above, g_below, .int v_bads, .int v_noes, g_fulls, g_at, g_from, g_token, g_value, g_readFault, g_yet, g_fars, g_tells])), (o_w, .inl (y 0, 1960, .inl f_w))] r.1 [(o, .inr (7, [.ref o_w, .int v_kept, g_text, g_size, g_above, g_below, .int r.2.1, .int r.2.2.1, g_fulls, g_at, g_from, g_token, g_value, g_readFault, g_yet, g_fars, g_tells])), (o_w, .inl (y 0, 1960, .inl r.2.2.2))] := by
  unfold p_X8_from at h
  refine z_enI (by decide) (Nat.le_of_ble_eq_true rfl) ?_
  intro p e s m args below meth c A ls hr K hH hl
  obtain ⟨Q, hQ⟩ : ∃ Q, Q = MQ below (z_Qi D y A r.1 [(o, .inr (7, [.ref o_w, .int v_kept, g_text, g_size, g_above, g_below, .int r.2.1, .int r.2.2.1, g_fulls, g_at, g_from, g_token, g_value, g_readFault, g_yet, g_fars, g_tells])), (o_w, .inl (y 0, 1960, .inl r.2.2.2))]) args s 0 0 A := ⟨_, rfl⟩
  rw [← hQ]
  have hl : lv_has ls 2 [(0, .ref o), (1, .int p1)] := hl
  refine lv_iload_n K.x K.b dX8_from_0 rfl (lv_at hl 1 rfl) ?_
  refine lv_iconst (v := (0)) K.x K.b dX8_from_1 (by decide) ?_
  refine lv_iconst (v := (1)) K.x K.b dX8_from_2 (by decide) ?_
  obtain ⟨r1, hr2, h⟩ := z_bd_e h
  refine z_Si K hH hl.1 (c_X8_in l D y p1 (0 : Int32) (1 : Int32) r1 hr2) (z_cwS K 3 tw_4_160 tw_4_161 tw_1_8 tw_4_162 hd_X8_in ⟨by decide, by decide⟩) rfl (As := [.int p1, .int (0 : Int32), .int (1 : Int32)]) (rest := []) rfl (Nat.le_of_ble_eq_true rfl) ⟨Nat.zero_le _, Nat.zero_le _⟩ dX8_from_3 (fun H locs hH => ?_)
  refine lv_if_ne (tgt := 14) K.x K.b dX8_from_6 (by decide) (fun c3 => ?_) (fun c3 => ?_)
  · replace h := z_f c3 h
    refine lv_aload_n K.x K.b dX8_from_14 rfl (lv_at hl 0 rfl) ?_
    refine z_get K hH 0 rfl zin_8 rfl 1 (by decide) tw_4_97 (v := .int v_kept) rfl dX8_from_15 ?_
    refine lv_iload_n K.x K.b dX8_from_18 rfl (lv_at hl 1 rfl) ?_
    obtain ⟨r4, hr5, h⟩ := z_bd_e h
    refine z_Si K hH hl.1 (c_X8_has l D y v_kept p1 r4 hr5) (z_cwS K 2 tw_5_124 tw_5_125 tw_1_8 tw_5_126 hd_X8_has ⟨by decide, by decide⟩) rfl (As := [.int v_kept, .int p1]) (rest := []) rfl (Nat.le_of_ble_eq_true rfl) ⟨Nat.zero_le _, Nat.zero_le _⟩ dX8_from_19 (fun H locs hH => ?_)
    refine lv_if_ne (tgt := 30) K.x K.b dX8_from_22 (by decide) (fun c6 => ?_) (fun c6 => ?_)
    · replace h := z_f c6 h
      refine lv_aload_n K.x K.b dX8_from_30 rfl (lv_at hl 0 rfl) ?_
      refine lv_sipush (v := (479)) K.x K.b dX8_from_31 (by decide) ?_
      refine lv_sipush (v := (479)) K.x K.b dX8_from_34 (by decide) ?_
      refine lv_iload_n K.x K.b dX8_from_37 rfl (lv_at hl 1 rfl) ?_
      refine lv_imul K.x K.b dX8_from_38 ?_
      refine lv_iadd K.x K.b dX8_from_39 ?_
      refine lv_iconst (v := (0)) K.x K.b dX8_from_40 (by decide) ?_
      refine lv_sipush (v := (479)) K.x K.b dX8_from_41 (by decide) ?_
      obtain ⟨x7, ex7, h⟩ := z_lt_e h
      refine z_nm3 ex7 ?_
      obtain ⟨r8, hr9, h⟩ := z_bd_e h
      refine z_Vv K hH hl.1 (c_X8_copyRow l D y o o_w (.int v_kept) (g_text) (g_size) (g_above) (g_below) (.int v_bads) (.int v_noes) (g_fulls) (g_at) (g_from) (g_token) (g_value) (g_readFault) (g_yet) (g_fars) (g_tells) f_w x7 (0 : Int32) (479 : Int32) r8 hr9) (z_cwV K 3 tw_5_56 tw_5_58 tw_0_64 tw_1_8 tw_5_59 hd_X8_copyRow ⟨by decide, by decide⟩) [0, 1] [] rfl (wr := []) rfl rfl rfl (by decide) rfl rfl rfl (As := [.int x7, .int (0 : Int32), .int (479 : Int32)]) (rest := []) rfl (Nat.le_of_ble_eq_true rfl) ⟨Nat.zero_le _, Nat.zero_le _⟩ dX8_from_44 (ws' := [(o, .inr (7, [.ref o_w, .int v_kept, g_text, g_size, g_above, g_below, .int v_bads, .int v_noes, g_fulls, g_at, g_from, g_token, g_value, g_readFault, g_yet, g_fars, g_tells])), (o_w, .inl (y 0, 1960, .inl r8))]) rfl (fun H locs hH => ?_)
      refine lv_iconst (v := (1)) K.x K.b dX8_from_47 (by decide) ?_
      have hr9 := Option.some.inj h
      obtain rfl := hr9
      rw [hQ]
      exact z_reti K hr hH [0, 1] (by decide) rfl rfl rfl dX8_from_48
    · replace h := z_t c6 h
      refine lv_aload_n K.x K.b dX8_from_25 rfl (lv_at hl 0 rfl) ?_
      obtain ⟨r10, hr11, h⟩ := z_bd_e h
      refine z_Vi K hH hl.1 (c_X8_no l D y o (.ref o_w) (.int v_kept) (g_text) (g_size) (g_above) (g_below) (.int v_bads) (g_fulls) (g_at) (g_from) (g_token) (g_value) (g_readFault) (g_yet) (g_fars) (g_tells) v_noes r10 hr11) (z_cwV K 0 tw_5_68 tw_5_70 tw_0_66 tw_1_8 tw_5_71 hd_X8_no ⟨by decide, by decide⟩) [0] [1] rfl (wr := [(o_w, .inl (y 0, 1960, .inl f_w))]) rfl rfl rfl (by decide) rfl rfl rfl (As := []) (rest := []) rfl (Nat.le_of_ble_eq_true rfl) ⟨Nat.zero_le _, Nat.zero_le _⟩ dX8_from_26 (ws' := [(o_w, .inl (y 0, 1960, .inl f_w)), (o, .inr (7, [.ref o_w, .int v_kept, g_text, g_size, g_above, g_below, .int v_bads, .int r10.2, g_fulls, g_at, g_from, g_token, g_value, g_readFault, g_yet, g_fars, g_tells]))]) rfl (fun H locs hH => ?_)
      have hr9 := Option.some.inj h
      obtain rfl := hr9
      rw [hQ]
      exact z_reti K hr hH [1, 0] (by decide) rfl rfl rfl dX8_from_29
  · replace h := z_t c3 h
    refine lv_aload_n K.x K.b dX8_from_9 rfl (lv_at hl 0 rfl) ?_
    obtain ⟨r12, hr13, h⟩ := z_bd_e h
    refine z_Vi K hH hl.1 (c_X8_bad l D y o (.ref o_w) (.int v_kept) (g_text) (g_size) (g_above) (g_below) (.int v_noes) (g_fulls) (g_at) (g_from) (g_token) (g_value) (g_readFault) (g_yet) (g_fars) (g_tells) v_bads r12 hr13) (z_cwV K 0 tw_4_163 tw_4_165 tw_0_37 tw_1_8 tw_4_166 hd_X8_bad ⟨by decide, by decide⟩) [0] [1] rfl (wr := [(o_w, .inl (y 0, 1960, .inl f_w))]) rfl rfl rfl (by decide) rfl rfl rfl (As := []) (rest := []) rfl (Nat.le_of_ble_eq_true rfl) ⟨Nat.zero_le _, Nat.zero_le _⟩ dX8_from_10 (ws' := [(o_w, .inl (y 0, 1960, .inl f_w)), (o, .inr (7, [.ref o_w, .int v_kept, g_text, g_size, g_above, g_below, .int r12.2, .int v_noes, g_fulls, g_at, g_from, g_token, g_value, g_readFault, g_yet, g_fars, g_tells]))]) rfl (fun H locs hH => ?_)
    have hr9 := Option.some.inj h
    obtain rfl := hr9
    rw [hQ]
    exact z_reti K hr hH [1, 0] (by decide) rfl rfl rfl dX8_from_13
def p_X8_status (v_bads : Int32) (v_noes : Int32) (v_fulls : Int32) (p1 : Int32) : Option (Int32 × Int32) :=
  z_bd (p_X8_in p1 (0 : Int32) (2 : Int32)) fun r1 =>
  if (r1 = 0) then
  (z_lt ((v_bads + (1 : Int32))) fun x7 =>
  some ((-1 : Int32), x7)) else
  (z_bd (α := Int32) (if (p1 = 0) then
  (some v_bads) else
  (if (p1 = (1 : Int32)) then
  (some v_noes) else
  (some v_fulls))) fun j4 =>
  some (j4, v_bads))
theorem hd_X8_status : yX8_status.cls = RX8 ∧ yX8_status.cls ≠ "java/lang/invoke/MethodHandle" ∧ yX8_status.cls ≠ "java/lang/invoke/VarHandle" ∧ (parseMethodDescriptor yX8_status.desc).map (fun d => d.parameters.length) = some 1 := by decide +kernel
set_option maxHeartbeats 4000000 in
set_option maxRecDepth 100000 in
theorem c_X8_status (l : Launch) (D : va_G) (y : Nat → ClassId) (o : Nat) (g_w g_kept g_text g_size g_above g_below g_at g_from g_token g_value g_readFault g_yet g_fars g_tells : Value) (v_bads : Int32) (v_noes : Int32) (v_fulls : Int32) (p1 : Int32) (r : Int32 × Int32) (h : p_X8_status v_bads v_noes v_fulls p1 = some r) : z_MI l yX8_status cX8_status 2 (some .int) 1 22 D y [.ref o, .int p1] [(o, .inr (7, [g_w, g_kept, g_text, g_size, g_above, g_below, .int v_bads, .int v_noes, .int v_fulls, g_at, g_from, g_token, g_value, g_readFault, g_yet, g_fars, g_tells]))] r.1 [(o, .inr (7, [g_w, g_kept, g_text, g_size, g_above, g_below, .int r.2, .int v_noes, .int v_fulls, g_at, g_from, g_token, g_value, g_readFault, g_yet, g_fars, g_tells]))] := by
  unfold p_X8_status at h
  refine z_enI (by decide) (Nat.le_of_ble_eq_true rfl) ?_
  intro p e s m args below meth c A ls hr K hH hl
  obtain ⟨Q, hQ⟩ : ∃ Q, Q = MQ below (z_Qi D y A r.1 [(o, .inr (7, [g_w, g_kept, g_text, g_size, g_above, g_below, .int r.2, .int v_noes, .int v_fulls, g_at, g_from, g_token, g_value, g_readFault, g_yet, g_fars, g_tells]))]) args s 0 0 A := ⟨_, rfl⟩
  rw [← hQ]
  have hl : lv_has ls 2 [(0, .ref o), (1, .int p1)] := hl
  refine lv_iload_n K.x K.b dX8_status_0 rfl (lv_at hl 1 rfl) ?_
  refine lv_iconst (v := (0)) K.x K.b dX8_status_1 (by decide) ?_
  refine lv_iconst (v := (2)) K.x K.b dX8_status_2 (by decide) ?_
  obtain ⟨r1, hr2, h⟩ := z_bd_e h
  refine z_Si K hH hl.1 (c_X8_in l D y p1 (0 : Int32) (2 : Int32) r1 hr2) (z_cwS K 3 tw_4_160 tw_4_161 tw_1_8 tw_4_162 hd_X8_in ⟨by decide, by decide⟩) rfl (As := [.int p1, .int (0 : Int32), .int (2 : Int32)]) (rest := []) rfl (Nat.le_of_ble_eq_true rfl) ⟨Nat.zero_le _, Nat.zero_le _⟩ dX8_status_3 (fun H locs hH => ?_)
  refine lv_if_ne (tgt := 21) K.x K.b dX8_status_6 (by decide) (fun c3 => ?_) (fun c3 => ?_)
  · replace h := z_f c3 h
    refine lv_iload_n K.x K.b dX8_status_21 rfl (lv_at hl 1 rfl) ?_
    obtain ⟨j4, hj4, h⟩ := z_bd_e h
    have Kj4 : ∀ (H : Heap) (locs : List Loc) (ls : Array Slot), z_H D A s.heap [(o, .inr (7, [g_w, g_kept, g_text, g_size, g_above, g_below, .int v_bads, .int v_noes, .int v_fulls, g_at, g_from, g_token, g_value, g_readFault, g_yet, g_fars, g_tells]))] H locs → lv_has ls 2 [] → W p l e (zR 1 22) s m args below meth c H locs 0 0 Q (F0 m 48 ls [.int j4]) := by
      intro H locs ls hH hl
      have hr9 := Option.some.inj h
      obtain rfl := hr9
      rw [hQ]
      exact z_reti K hr hH [0] (by decide) rfl rfl rfl dX8_status_48
    replace h := hj4
    refine lv_if_ne (tgt := 32) K.x K.b dX8_status_22 (by decide) (fun c5 => ?_) (fun c5 => ?_)
    · replace h := z_f c5 h
      refine lv_iload_n K.x K.b dX8_status_32 rfl (lv_at hl 1 rfl) ?_
      refine lv_iconst (v := (1)) K.x K.b dX8_status_33 (by decide) ?_
      refine lv_icmp_ne (tgt := 44) K.x K.b dX8_status_34 (by decide) (fun c6 => ?_) (fun c6 => ?_)
      · replace h := z_f c6 h
        refine lv_aload_n K.x K.b dX8_status_44 rfl (lv_at hl 0 rfl) ?_
        refine z_get K hH 0 rfl zin_8 rfl 8 (by decide) tw_4_104 (v := .int v_fulls) rfl dX8_status_45 ?_
        obtain rfl := Option.some.inj h
        exact Kj4 _ _ _ hH (lv_sub hl [] rfl)
      · replace h := z_t c6 h
        refine lv_aload_n K.x K.b dX8_status_37 rfl (lv_at hl 0 rfl) ?_
        refine z_get K hH 0 rfl zin_8 rfl 7 (by decide) tw_4_103 (v := .int v_noes) rfl dX8_status_38 ?_
        refine lv_goto (tgt := 48) K.x K.b dX8_status_41 (by decide) ?_
        obtain rfl := Option.some.inj h
        exact Kj4 _ _ _ hH (lv_sub hl [] rfl)
    · replace h := z_t c5 h
      refine lv_aload_n K.x K.b dX8_status_25 rfl (lv_at hl 0 rfl) ?_
      refine z_get K hH 0 rfl zin_8 rfl 6 (by decide) tw_4_102 (v := .int v_bads) rfl dX8_status_26 ?_
      refine lv_goto (tgt := 48) K.x K.b dX8_status_29 (by decide) ?_
      obtain rfl := Option.some.inj h
      exact Kj4 _ _ _ hH (lv_sub hl [] rfl)
  · replace h := z_t c3 h
    refine lv_aload_n K.x K.b dX8_status_9 rfl (lv_at hl 0 rfl) ?_
    refine lv_dup K.x K.b dX8_status_10 rfl ?_
    refine z_get K hH 0 rfl zin_8 rfl 6 (by decide) tw_4_102 (v := .int v_bads) rfl dX8_status_11 ?_
    refine lv_iconst (v := (1)) K.x K.b dX8_status_14 (by decide) ?_
    refine lv_iadd K.x K.b dX8_status_15 ?_
    obtain ⟨x7, ex7, h⟩ := z_lt_e h
    refine z_nm ex7 ?_
    refine z_put K hH 0 (ws' := [(o, .inr (7, [g_w, g_kept, g_text, g_size, g_above, g_below, .int x7, .int v_noes, .int v_fulls, g_at, g_from, g_token, g_value, g_readFault, g_yet, g_fars, g_tells]))]) rfl zin_8 rfl tyX8 tyX8_ok nmX8 6 (by decide) tw_4_102 rfl rfl rfl (Nat.le_of_ble_eq_true rfl) dX8_status_16 rfl (fun H locs hH => ?_)
    refine lv_iconst (v := (-1)) K.x K.b dX8_status_19 (by decide) ?_
    have hr9 := Option.some.inj h
    obtain rfl := hr9
    rw [hQ]
    exact z_reti K hr hH [0] (by decide) rfl rfl rfl dX8_status_20
noncomputable def p_X8_lengths (f_w : (Nat → Int32)) : Option (Int32) :=
  z_bd (z_lp (S := Int32 × Int32) (E := Int32) (fun s1 =>
  if ((f_w 7) ≤ s1.1) then
  (some (.inr s1.2)) else
  (z_lt ((((8 : Int32) + ((3 : Int32) * s1.1)) + (2 : Int32))) fun x5 =>
  z_gd (z_in x5 1960) <|
  z_lt ((s1.2 + (f_w x5.toNatClampNeg))) fun x7 =>
  z_lt (s1.1 + (1 : Int32)) fun x8 =>
  some (.inl (x8, x7)))) ((0 : Int32), (0 : Int32))) fun e2 =>
  some e2
theorem hd_X8_lengths : yX8_lengths.cls = RX8 ∧ yX8_lengths.cls ≠ "java/lang/invoke/MethodHandle" ∧ yX8_lengths.cls ≠ "java/lang/invoke/VarHandle" ∧ (parseMethodDescriptor yX8_lengths.desc).map (fun d => d.parameters.length) = some 0 := by decide +kernel
set_option maxHeartbeats 4000000 in
set_option maxRecDepth 100000 in
theorem c_X8_lengths (l : Launch) (D : va_G) (y : Nat → ClassId) (o o_w : Nat) (g_kept g_text g_size g_above g_below g_bads g_noes g_fulls g_at g_from g_token g_value g_readFault g_yet g_fars g_tells : Value) (f_w : (Nat → Int32)) (r : Int32) (h : p_X8_lengths f_w = some r) : z_MI l yX8_lengths cX8_lengths 3 (some .int) 0 0 D y [.ref o] [(o, .inr (7, [.ref o_w, g_kept, g_text, g_size, g_above, g_below, g_bads, g_noes, g_fulls, g_at, g_from, g_token, g_value, g_readFault, g_yet, g_fars, g_tells])), (o_w, .inl (y 0, 1960, .inl f_w))] r [(o, .inr (7, [.ref o_w, g_kept, g_text, g_size, g_above, g_below, g_bads, g_noes, g_fulls, g_at, g_from, g_token, g_value, g_readFault, g_yet, g_fars, g_tells])), (o_w, .inl (y 0, 1960, .inl f_w))] := by
  unfold p_X8_lengths at h
  refine z_enI (by decide) (Nat.le_of_ble_eq_true rfl) ?_
  intro p e s m args below meth c A ls hr K hH hl
  obtain ⟨Q, hQ⟩ : ∃ Q, Q = MQ below (z_Qi D y A r [(o, .inr (7, [.ref o_w, g_kept, g_text, g_size, g_above, g_below, g_bads, g_noes, g_fulls, g_at, g_from, g_token, g_value, g_readFault, g_yet, g_fars, g_tells])), (o_w, .inl (y 0, 1960, .inl f_w))]) args s 0 0 A := ⟨_, rfl⟩
  rw [← hQ]
  have hl : lv_has ls 3 [(0, .ref o)] := hl
  refine lv_iconst (v := (0)) K.x K.b dX8_lengths_0 (by decide) ?_
  refine lv_istore_n (lv' := [(1, .int (0 : Int32)), (0, .ref o)]) K.x K.b dX8_lengths_1 rfl hl (by decide) rfl (fun ls hl => ?_)
  refine lv_iconst (v := (0)) K.x K.b dX8_lengths_2 (by decide) ?_
  refine lv_istore_n (lv' := [(2, .int (0 : Int32)), (1, .int (0 : Int32)), (0, .ref o)]) K.x K.b dX8_lengths_3 rfl hl (by decide) rfl (fun ls hl => ?_)
  obtain ⟨e2, hlpe2, h⟩ := z_bd_e h
  have KEe2 : ∀ (H : Heap) (locs : List Loc) (ls : Array Slot), z_H D A s.heap [(o, .inr (7, [.ref o_w, g_kept, g_text, g_size, g_above, g_below, g_bads, g_noes, g_fulls, g_at, g_from, g_token, g_value, g_readFault, g_yet, g_fars, g_tells])), (o_w, .inl (y 0, 1960, .inl f_w))] H locs → lv_has ls 3 [(1, .int e2)] → W p l e (zR 0 0) s m args below meth c H locs 0 0 Q (F0 m 37 ls []) := by
    intro H locs ls hH hl
    refine lv_iload_n K.x K.b dX8_lengths_37 rfl (lv_at hl 0 rfl) ?_
    have hr9 := Option.some.inj h
    obtain rfl := hr9
    rw [hQ]
    exact z_reti K hr hH [0, 1] (by decide) rfl rfl rfl dX8_lengths_38
  refine z_lp_ind (P := fun (s1 : Int32 × Int32) => ∀ (H : Heap) (locs : List Loc) (ls : Array Slot), z_H D A s.heap [(o, .inr (7, [.ref o_w, g_kept, g_text, g_size, g_above, g_below, g_bads, g_noes, g_fulls, g_at, g_from, g_token, g_value, g_readFault, g_yet, g_fars, g_tells])), (o_w, .inl (y 0, 1960, .inl f_w))] H locs → lv_has ls 3 [(0, .ref o), (1, .int s1.2), (2, .int s1.1)] → W p l e (zR 0 0) s m args below meth c H locs 0 0 Q (F0 m 4 ls [])) ?_ _ hlpe2 _ _ _ hH (lv_sub hl [2, 1, 0] rfl)
  clear h hlpe2
  intro s1 x3 h ihe2 hee2 H locs ls hH hl
  refine lv_iload_n K.x K.b dX8_lengths_4 rfl (lv_at hl 2 rfl) ?_
  refine lv_aload_n K.x K.b dX8_lengths_5 rfl (lv_at hl 0 rfl) ?_
  refine z_get K hH 0 rfl zin_8 rfl 0 (by decide) tw_4_96 (v := .ref o_w) rfl dX8_lengths_6 ?_
  refine lv_bipush (v := (7)) K.x K.b dX8_lengths_9 (by decide) ?_
  refine z_iald K hH 1 (k := 7) rfl (by decide) rfl dX8_lengths_11 ?_
  refine lv_icmp_ge (tgt := 37) K.x K.b dX8_lengths_12 (by decide) (fun c4 => ?_) (fun c4 => ?_)
  · replace h := z_t c4 h
    obtain rfl := hee2 _ (Option.some.inj h).symm
    exact KEe2 _ _ _ hH (lv_sub hl [1] rfl)
  · replace h := z_f c4 h
    refine lv_iload_n K.x K.b dX8_lengths_15 rfl (lv_at hl 1 rfl) ?_
    refine lv_aload_n K.x K.b dX8_lengths_16 rfl (lv_at hl 0 rfl) ?_
    refine z_get K hH 0 rfl zin_8 rfl 0 (by decide) tw_4_96 (v := .ref o_w) rfl dX8_lengths_17 ?_
    refine lv_bipush (v := (8)) K.x K.b dX8_lengths_20 (by decide) ?_
    refine lv_iconst (v := (3)) K.x K.b dX8_lengths_22 (by decide) ?_
    refine lv_iload_n K.x K.b dX8_lengths_23 rfl (lv_at hl 2 rfl) ?_
    refine lv_imul K.x K.b dX8_lengths_24 ?_
    refine lv_iadd K.x K.b dX8_lengths_25 ?_
    refine lv_iconst (v := (2)) K.x K.b dX8_lengths_26 (by decide) ?_
    refine lv_iadd K.x K.b dX8_lengths_27 ?_
    obtain ⟨x5, ex5, h⟩ := z_lt_e h
    refine z_nm ex5 ?_
    obtain ⟨g6, h⟩ := z_gd_e h
    refine z_iald K hH 1 (k := x5.toNatClampNeg) rfl g6 rfl dX8_lengths_28 ?_
    refine lv_iadd K.x K.b dX8_lengths_29 ?_
    obtain ⟨x7, ex7, h⟩ := z_lt_e h
    refine z_nm ex7 ?_
    refine lv_istore_n (lv' := [(1, .int x7), (0, .ref o), (2, .int s1.1)]) K.x K.b dX8_lengths_30 rfl hl (by decide) rfl (fun ls hl => ?_)
    obtain ⟨x8, ex8, h⟩ := z_lt_e h
    refine lv_iinc (v := x8) (lv' := [(2, .int x8), (1, .int x7), (0, .ref o)]) K.x K.b dX8_lengths_31 hl (k := 2) rfl (by rw [ex8]; rfl) (by decide) rfl (fun ls hl => ?_)
    refine lv_goto (tgt := 4) K.x K.b dX8_lengths_34 (by decide) ?_
    exact ihe2 _ (Option.some.inj h).symm _ _ _ hH (lv_sub hl [2, 1, 0] rfl)
noncomputable def p_X8_counted (v_size : Int32) (f_w : (Nat → Int32)) (p1 : Int32) : Option (Int32) :=
  if p1 = 0 then
  (some (f_w 418)) else
  (if p1 = 1 then
  (some (f_w 422)) else
  (if p1 = 2 then
  (some (f_w 6)) else
  (if p1 = 3 then
  (some (f_w 7)) else
  (if p1 = 4 then
  (z_bd (p_X8_lengths f_w) fun r6 =>
  some r6) else
  (if p1 = 5 then
  (some (f_w 447)) else
  (if p1 = 6 then
  (some (f_w 478)) else
  (if p1 = 7 then
  (some (f_w 396)) else
  (some v_size))))))))
theorem hd_X8_counted : yX8_counted.cls = RX8 ∧ yX8_counted.cls ≠ "java/lang/invoke/MethodHandle" ∧ yX8_counted.cls ≠ "java/lang/invoke/VarHandle" ∧ (parseMethodDescriptor yX8_counted.desc).map (fun d => d.parameters.length) = some 1 := by decide +kernel
set_option maxHeartbeats 4000000 in
set_option maxRecDepth 100000 in
theorem c_X8_counted (l : Launch) (D : va_G) (y : Nat → ClassId) (o o_w : Nat) (g_kept g_text g_above g_below g_bads g_noes g_fulls g_at g_from g_token g_value g_readFault g_yet g_fars g_tells : Value) (v_size : Int32) (f_w : (Nat → Int32)) (p1 : Int32) (r : Int32) (h : p_X8_counted v_size f_w p1 = some r) : z_MI l yX8_counted cX8_counted 2 (some .int) 1 22 D y [.ref o, .int p1] [(o, .inr (7, [.ref o_w, g_kept, g_text, .int v_size, g_above, g_below, g_bads, g_noes, g_fulls, g_at, g_from, g_token, g_value, g_readFault, g_yet, g_fars, g_tells])), (o_w, .inl (y 0, 1960, .inl f_w))] r [(o, .inr (7, [.ref o_w, g_kept, g_text, .int v_size, g_above, g_below, g_bads, g_noes, g_fulls, g_at, g_from, g_token, g_value, g_readFault, g_yet, g_fars, g_tells])), (o_w, .inl (y 0, 1960, .inl f_w))] := by
  unfold p_X8_counted at h
  refine z_enI (by decide) (Nat.le_of_ble_eq_true rfl) ?_
  intro p e s m args below meth c A ls hr K hH hl
  obtain ⟨Q, hQ⟩ : ∃ Q, Q = MQ below (z_Qi D y A r [(o, .inr (7, [.ref o_w, g_kept, g_text, .int v_size, g_above, g_below, g_bads, g_noes, g_fulls, g_at, g_from, g_token, g_value, g_readFault, g_yet, g_fars, g_tells])), (o_w, .inl (y 0, 1960, .inl f_w))]) args s 0 0 A := ⟨_, rfl⟩
  rw [← hQ]
  have hl : lv_has ls 2 [(0, .ref o), (1, .int p1)] := hl
  refine lv_iload_n K.x K.b dX8_counted_0 rfl (lv_at hl 1 rfl) ?_
  by_cases c1 : p1 = 0
  · replace h := z_t c1 h
    refine lv_tableIn (tgt := 48) K.x K.b dX8_counted_1 (by rw [c1]; decide) (by rw [c1]; decide) (by rw [c1]; rfl) (by decide) ?_
    refine lv_aload_n K.x K.b dX8_counted_48 rfl (lv_at hl 0 rfl) ?_
    refine z_get K hH 0 rfl zin_8 rfl 0 (by decide) tw_4_96 (v := .ref o_w) rfl dX8_counted_49 ?_
    refine lv_sipush (v := (418)) K.x K.b dX8_counted_52 (by decide) ?_
    refine z_iald K hH 1 (k := 418) rfl (by decide) rfl dX8_counted_55 ?_
    have hr9 := Option.some.inj h
    obtain rfl := hr9
    rw [hQ]
    exact z_reti K hr hH [0, 1] (by decide) rfl rfl rfl dX8_counted_56
  · replace h := z_f c1 h
    by_cases c2 : p1 = 1
    · replace h := z_t c2 h
      refine lv_tableIn (tgt := 57) K.x K.b dX8_counted_1 (by rw [c2]; decide) (by rw [c2]; decide) (by rw [c2]; rfl) (by decide) ?_
      refine lv_aload_n K.x K.b dX8_counted_57 rfl (lv_at hl 0 rfl) ?_
      refine z_get K hH 0 rfl zin_8 rfl 0 (by decide) tw_4_96 (v := .ref o_w) rfl dX8_counted_58 ?_
      refine lv_sipush (v := (422)) K.x K.b dX8_counted_61 (by decide) ?_
      refine z_iald K hH 1 (k := 422) rfl (by decide) rfl dX8_counted_64 ?_
      have hr9 := Option.some.inj h
      obtain rfl := hr9
      rw [hQ]
      exact z_reti K hr hH [0, 1] (by decide) rfl rfl rfl dX8_counted_65
    · replace h := z_f c2 h
      by_cases c3 : p1 = 2
      · replace h := z_t c3 h
        refine lv_tableIn (tgt := 66) K.x K.b dX8_counted_1 (by rw [c3]; decide) (by rw [c3]; decide) (by rw [c3]; rfl) (by decide) ?_
        refine lv_aload_n K.x K.b dX8_counted_66 rfl (lv_at hl 0 rfl) ?_
        refine z_get K hH 0 rfl zin_8 rfl 0 (by decide) tw_4_96 (v := .ref o_w) rfl dX8_counted_67 ?_
        refine lv_bipush (v := (6)) K.x K.b dX8_counted_70 (by decide) ?_
        refine z_iald K hH 1 (k := 6) rfl (by decide) rfl dX8_counted_72 ?_
        have hr9 := Option.some.inj h
        obtain rfl := hr9
        rw [hQ]
        exact z_reti K hr hH [0, 1] (by decide) rfl rfl rfl dX8_counted_73
      · replace h := z_f c3 h
        by_cases c4 : p1 = 3
        · replace h := z_t c4 h
          refine lv_tableIn (tgt := 74) K.x K.b dX8_counted_1 (by rw [c4]; decide) (by rw [c4]; decide) (by rw [c4]; rfl) (by decide) ?_
          refine lv_aload_n K.x K.b dX8_counted_74 rfl (lv_at hl 0 rfl) ?_
          refine z_get K hH 0 rfl zin_8 rfl 0 (by decide) tw_4_96 (v := .ref o_w) rfl dX8_counted_75 ?_
          refine lv_bipush (v := (7)) K.x K.b dX8_counted_78 (by decide) ?_
          refine z_iald K hH 1 (k := 7) rfl (by decide) rfl dX8_counted_80 ?_
          have hr9 := Option.some.inj h
          obtain rfl := hr9
          rw [hQ]
          exact z_reti K hr hH [0, 1] (by decide) rfl rfl rfl dX8_counted_81
        · replace h := z_f c4 h
          by_cases c5 : p1 = 4
          · replace h := z_t c5 h
            refine lv_tableIn (tgt := 82) K.x K.b dX8_counted_1 (by rw [c5]; decide) (by rw [c5]; decide) (by rw [c5]; rfl) (by decide) ?_
            refine lv_aload_n K.x K.b dX8_counted_82 rfl (lv_at hl 0 rfl) ?_
            obtain ⟨r6, hr7, h⟩ := z_bd_e h
            refine z_Vi K hH hl.1 (c_X8_lengths l D y o o_w (g_kept) (g_text) (.int v_size) (g_above) (g_below) (g_bads) (g_noes) (g_fulls) (g_at) (g_from) (g_token) (g_value) (g_readFault) (g_yet) (g_fars) (g_tells) f_w r6 hr7) (z_cwV K 0 tw_6_32 tw_6_34 tw_0_86 tw_1_8 tw_6_35 hd_X8_lengths ⟨by decide, by decide⟩) [0, 1] [] rfl (wr := []) rfl rfl rfl (by decide) rfl rfl rfl (As := []) (rest := []) rfl (Nat.le_of_ble_eq_true rfl) ⟨Nat.zero_le _, Nat.zero_le _⟩ dX8_counted_83 (ws' := [(o, .inr (7, [.ref o_w, g_kept, g_text, .int v_size, g_above, g_below, g_bads, g_noes, g_fulls, g_at, g_from, g_token, g_value, g_readFault, g_yet, g_fars, g_tells])), (o_w, .inl (y 0, 1960, .inl f_w))]) rfl (fun H locs hH => ?_)
            have hr9 := Option.some.inj h
            obtain rfl := hr9
            rw [hQ]
            exact z_reti K hr hH [0, 1] (by decide) rfl rfl rfl dX8_counted_86
          · replace h := z_f c5 h
            by_cases c8 : p1 = 5
            · replace h := z_t c8 h
              refine lv_tableIn (tgt := 87) K.x K.b dX8_counted_1 (by rw [c8]; decide) (by rw [c8]; decide) (by rw [c8]; rfl) (by decide) ?_
              refine lv_aload_n K.x K.b dX8_counted_87 rfl (lv_at hl 0 rfl) ?_
              refine z_get K hH 0 rfl zin_8 rfl 0 (by decide) tw_4_96 (v := .ref o_w) rfl dX8_counted_88 ?_
              refine lv_sipush (v := (447)) K.x K.b dX8_counted_91 (by decide) ?_
              refine z_iald K hH 1 (k := 447) rfl (by decide) rfl dX8_counted_94 ?_
              have hr9 := Option.some.inj h
              obtain rfl := hr9
              rw [hQ]
              exact z_reti K hr hH [0, 1] (by decide) rfl rfl rfl dX8_counted_95
            · replace h := z_f c8 h
              by_cases c9 : p1 = 6
              · replace h := z_t c9 h
                refine lv_tableIn (tgt := 96) K.x K.b dX8_counted_1 (by rw [c9]; decide) (by rw [c9]; decide) (by rw [c9]; rfl) (by decide) ?_
                refine lv_aload_n K.x K.b dX8_counted_96 rfl (lv_at hl 0 rfl) ?_
                refine z_get K hH 0 rfl zin_8 rfl 0 (by decide) tw_4_96 (v := .ref o_w) rfl dX8_counted_97 ?_
                refine lv_sipush (v := (478)) K.x K.b dX8_counted_100 (by decide) ?_
                refine z_iald K hH 1 (k := 478) rfl (by decide) rfl dX8_counted_103 ?_
                have hr9 := Option.some.inj h
                obtain rfl := hr9
                rw [hQ]
                exact z_reti K hr hH [0, 1] (by decide) rfl rfl rfl dX8_counted_104
              · replace h := z_f c9 h
                by_cases c10 : p1 = 7
                · replace h := z_t c10 h
                  refine lv_tableIn (tgt := 105) K.x K.b dX8_counted_1 (by rw [c10]; decide) (by rw [c10]; decide) (by rw [c10]; rfl) (by decide) ?_
                  refine lv_aload_n K.x K.b dX8_counted_105 rfl (lv_at hl 0 rfl) ?_
                  refine z_get K hH 0 rfl zin_8 rfl 0 (by decide) tw_4_96 (v := .ref o_w) rfl dX8_counted_106 ?_
                  refine lv_sipush (v := (396)) K.x K.b dX8_counted_109 (by decide) ?_
                  refine z_iald K hH 1 (k := 396) rfl (by decide) rfl dX8_counted_112 ?_
                  have hr9 := Option.some.inj h
                  obtain rfl := hr9
                  rw [hQ]
                  exact z_reti K hr hH [0, 1] (by decide) rfl rfl rfl dX8_counted_113
                · replace h := z_f c10 h
                  have hsw : p1.toInt < 0 ∨ 7 < p1.toInt := by
                    have ic1 : p1.toInt ≠ 0 := fun q => c1 (Int32.toInt_inj.mp (q.trans (by decide)))
                    have ic2 : p1.toInt ≠ 1 := fun q => c2 (Int32.toInt_inj.mp (q.trans (by decide)))
                    have ic3 : p1.toInt ≠ 2 := fun q => c3 (Int32.toInt_inj.mp (q.trans (by decide)))
                    have ic4 : p1.toInt ≠ 3 := fun q => c4 (Int32.toInt_inj.mp (q.trans (by decide)))
                    have ic5 : p1.toInt ≠ 4 := fun q => c5 (Int32.toInt_inj.mp (q.trans (by decide)))
                    have ic8 : p1.toInt ≠ 5 := fun q => c8 (Int32.toInt_inj.mp (q.trans (by decide)))
                    have ic9 : p1.toInt ≠ 6 := fun q => c9 (Int32.toInt_inj.mp (q.trans (by decide)))
                    have ic10 : p1.toInt ≠ 7 := fun q => c10 (Int32.toInt_inj.mp (q.trans (by decide)))
                    omega
                  refine lv_tableOut (tgt := 114) K.x K.b dX8_counted_1 hsw (by decide) ?_
                  refine lv_aload_n K.x K.b dX8_counted_114 rfl (lv_at hl 0 rfl) ?_
                  refine z_get K hH 0 rfl zin_8 rfl 3 (by decide) tw_4_99 (v := .int v_size) rfl dX8_counted_115 ?_
                  have hr9 := Option.some.inj h
                  obtain rfl := hr9
                  rw [hQ]
                  exact z_reti K hr hH [0, 1] (by decide) rfl rfl rfl dX8_counted_118
noncomputable def p_X8_count (v_size : Int32) (v_bads : Int32) (f_w : (Nat → Int32)) (p1 : Int32) : Option (Int32 × Int32) :=
  z_bd (p_X8_in p1 (0 : Int32) (8 : Int32)) fun r1 =>
  z_bd (α := Int32 × Int32) (if (r1 = 0) then
  (z_bd (p_X8_bad v_bads) fun r5 =>
  some (r5.1, r5.2)) else
  (z_bd (p_X8_counted v_size f_w p1) fun r7 =>
  some (r7, v_bads))) fun j3 =>
  some (j3.1, j3.2)
theorem hd_X8_count : yX8_count.cls = RX8 ∧ yX8_count.cls ≠ "java/lang/invoke/MethodHandle" ∧ yX8_count.cls ≠ "java/lang/invoke/VarHandle" ∧ (parseMethodDescriptor yX8_count.desc).map (fun d => d.parameters.length) = some 1 := by decide +kernel
set_option maxHeartbeats 4000000 in
set_option maxRecDepth 100000 in
theorem c_X8_count (l : Launch) (D : va_G) (y : Nat → ClassId) (o o_w : Nat) (g_kept g_text g_above g_below g_noes g_fulls g_at g_from g_token g_value g_readFault g_yet g_fars g_tells : Value) (v_size : Int32) (v_bads : Int32) (f_w : (Nat → Int32)) (p1 : Int32) (r : Int32 × Int32) (h : p_X8_count v_size v_bads f_w p1 = some r) : z_MI l yX8_count cX8_count 2 (some .int) 2 43 D y [.ref o, .int p1] [(o, .inr (7, [.ref o_w, g_kept, g_text, .int v_size, g_above, g_below, .int v_bads, g_noes, g_fulls, g_at, g_from, g_token, g_value, g_readFault, g_yet, g_fars, g_tells])), (o_w, .inl (y 0, 1960, .inl f_w))] r.1 [(o, .inr (7, [.ref o_w, g_kept, g_text, .int v_size, g_above, g_below, .int r.2, g_noes, g_fulls, g_at, g_from, g_token, g_value, g_readFault, g_yet, g_fars, g_tells])), (o_w, .inl (y 0, 1960, .inl f_w))] := by
  unfold p_X8_count at h
  refine z_enI (by decide) (Nat.le_of_ble_eq_true rfl) ?_
  intro p e s m args below meth c A ls hr K hH hl
  obtain ⟨Q, hQ⟩ : ∃ Q, Q = MQ below (z_Qi D y A r.1 [(o, .inr (7, [.ref o_w, g_kept, g_text, .int v_size, g_above, g_below, .int r.2, g_noes, g_fulls, g_at, g_from, g_token, g_value, g_readFault, g_yet, g_fars, g_tells])), (o_w, .inl (y 0, 1960, .inl f_w))]) args s 0 0 A := ⟨_, rfl⟩
  rw [← hQ]
  have hl : lv_has ls 2 [(0, .ref o), (1, .int p1)] := hl
  refine lv_iload_n K.x K.b dX8_count_0 rfl (lv_at hl 1 rfl) ?_
  refine lv_iconst (v := (0)) K.x K.b dX8_count_1 (by decide) ?_
  refine lv_bipush (v := (8)) K.x K.b dX8_count_2 (by decide) ?_
  obtain ⟨r1, hr2, h⟩ := z_bd_e h
  refine z_Si K hH hl.1 (c_X8_in l D y p1 (0 : Int32) (8 : Int32) r1 hr2) (z_cwS K 3 tw_4_160 tw_4_161 tw_1_8 tw_4_162 hd_X8_in ⟨by decide, by decide⟩) rfl (As := [.int p1, .int (0 : Int32), .int (8 : Int32)]) (rest := []) rfl (Nat.le_of_ble_eq_true rfl) ⟨Nat.zero_le _, Nat.zero_le _⟩ dX8_count_4 (fun H locs hH => ?_)
  obtain ⟨j3, hj3, h⟩ := z_bd_e h
  have Kj3 : ∀ (H : Heap) (locs : List Loc) (ls : Array Slot), z_H D A s.heap [(o, .inr (7, [.ref o_w, g_kept, g_text, .int v_size, g_above, g_below, .int j3.2, g_noes, g_fulls, g_at, g_from, g_token, g_value, g_readFault, g_yet, g_fars, g_tells])), (o_w, .inl (y 0, 1960, .inl f_w))] H locs → lv_has ls 2 [] → W p l e (zR 2 43) s m args below meth c H locs 0 0 Q (F0 m 22 ls [.int j3.1]) := by
    intro H locs ls hH hl
    have hr9 := Option.some.inj h
    obtain rfl := hr9
    rw [hQ]
    exact z_reti K hr hH [0, 1] (by decide) rfl rfl rfl dX8_count_22
  replace h := hj3
  refine lv_if_eq (tgt := 18) K.x K.b dX8_count_7 (by decide) (fun c4 => ?_) (fun c4 => ?_)
  · replace h := z_t c4 h
    refine lv_aload_n K.x K.b dX8_count_18 rfl (lv_at hl 0 rfl) ?_
    obtain ⟨r5, hr6, h⟩ := z_bd_e h
    refine z_Vi K hH hl.1 (c_X8_bad l D y o (.ref o_w) (g_kept) (g_text) (.int v_size) (g_above) (g_below) (g_noes) (g_fulls) (g_at) (g_from) (g_token) (g_value) (g_readFault) (g_yet) (g_fars) (g_tells) v_bads r5 hr6) (z_cwV K 0 tw_4_163 tw_4_165 tw_0_37 tw_1_8 tw_4_166 hd_X8_bad ⟨by decide, by decide⟩) [0] [1] rfl (wr := [(o_w, .inl (y 0, 1960, .inl f_w))]) rfl rfl rfl (by decide) rfl rfl rfl (As := []) (rest := []) rfl (Nat.le_of_ble_eq_true rfl) ⟨Nat.zero_le _, Nat.zero_le _⟩ dX8_count_19 (ws' := [(o_w, .inl (y 0, 1960, .inl f_w)), (o, .inr (7, [.ref o_w, g_kept, g_text, .int v_size, g_above, g_below, .int r5.2, g_noes, g_fulls, g_at, g_from, g_token, g_value, g_readFault, g_yet, g_fars, g_tells]))]) rfl (fun H locs hH => ?_)
    obtain rfl := Option.some.inj h
    exact Kj3 _ _ _ (hH.sub [1, 0] (by decide) rfl) (lv_sub hl [] rfl)
  · replace h := z_f c4 h
    refine lv_aload_n K.x K.b dX8_count_10 rfl (lv_at hl 0 rfl) ?_
    refine lv_iload_n K.x K.b dX8_count_11 rfl (lv_at hl 1 rfl) ?_
    obtain ⟨r7, hr8, h⟩ := z_bd_e h
    refine z_Vi K hH hl.1 (c_X8_counted l D y o o_w (g_kept) (g_text) (g_above) (g_below) (.int v_bads) (g_noes) (g_fulls) (g_at) (g_from) (g_token) (g_value) (g_readFault) (g_yet) (g_fars) (g_tells) v_size f_w p1 r7 hr8) (z_cwV K 1 tw_6_28 tw_6_30 tw_0_85 tw_1_8 tw_6_31 hd_X8_counted ⟨by decide, by decide⟩) [0, 1] [] rfl (wr := []) rfl rfl rfl (by decide) rfl rfl rfl (As := [.int p1]) (rest := []) rfl (Nat.le_of_ble_eq_true rfl) ⟨Nat.zero_le _, Nat.zero_le _⟩ dX8_count_12 (ws' := [(o, .inr (7, [.ref o_w, g_kept, g_text, .int v_size, g_above, g_below, .int v_bads, g_noes, g_fulls, g_at, g_from, g_token, g_value, g_readFault, g_yet, g_fars, g_tells])), (o_w, .inl (y 0, 1960, .inl f_w))]) rfl (fun H locs hH => ?_)
    refine lv_goto (tgt := 22) K.x K.b dX8_count_15 (by decide) ?_
    obtain rfl := Option.some.inj h
    exact Kj3 _ _ _ hH (lv_sub hl [] rfl)
noncomputable def p_X8_more (f_w : (Nat → Int32)) (p1 : Int64) (p2 : Int32) (p3 : Int32) : Option (Int64) :=
  z_bd (z_lp (S := Int32 × Int64) (E := Int64) (fun s1 =>
  if (p3 ≤ s1.1) then
  (some (.inr s1.2)) else
  (z_lt ((p2 + s1.1)) fun x5 =>
  z_gd (z_in x5 1960) <|
  z_lt ((((31 : Int64) * s1.2) + (((f_w x5.toNatClampNeg)).toInt64))) fun x7 =>
  z_lt (s1.1 + (1 : Int32)) fun x8 =>
  some (.inl (x8, x7)))) ((0 : Int32), p1)) fun e2 =>
  some e2
theorem hd_X8_more : yX8_more.cls = RX8 ∧ yX8_more.cls ≠ "java/lang/invoke/MethodHandle" ∧ yX8_more.cls ≠ "java/lang/invoke/VarHandle" ∧ (parseMethodDescriptor yX8_more.desc).map (fun d => d.parameters.length) = some 3 := by decide +kernel
set_option maxHeartbeats 4000000 in
set_option maxRecDepth 100000 in
theorem c_X8_more (l : Launch) (D : va_G) (y : Nat → ClassId) (o o_w : Nat) (g_kept g_text g_size g_above g_below g_bads g_noes g_fulls g_at g_from g_token g_value g_readFault g_yet g_fars g_tells : Value) (f_w : (Nat → Int32)) (p1 : Int64) (p2 : Int32) (p3 : Int32) (r : Int64) (h : p_X8_more f_w p1 p2 p3 = some r) : z_ML l yX8_more cX8_more 8 (some .long) 0 0 D y [.ref o, .long p1, .int p2, .int p3] [(o, .inr (7, [.ref o_w, g_kept, g_text, g_size, g_above, g_below, g_bads, g_noes, g_fulls, g_at, g_from, g_token, g_value, g_readFault, g_yet, g_fars, g_tells])), (o_w, .inl (y 0, 1960, .inl f_w))] r [(o, .inr (7, [.ref o_w, g_kept, g_text, g_size, g_above, g_below, g_bads, g_noes, g_fulls, g_at, g_from, g_token, g_value, g_readFault, g_yet, g_fars, g_tells])), (o_w, .inl (y 0, 1960, .inl f_w))] := by
  unfold p_X8_more at h
  refine z_enL (by decide) (Nat.le_of_ble_eq_true rfl) ?_
  intro p e s m args below meth c A ls hr K hH hl
  obtain ⟨Q, hQ⟩ : ∃ Q, Q = MQ below (z_Ql D y A r [(o, .inr (7, [.ref o_w, g_kept, g_text, g_size, g_above, g_below, g_bads, g_noes, g_fulls, g_at, g_from, g_token, g_value, g_readFault, g_yet, g_fars, g_tells])), (o_w, .inl (y 0, 1960, .inl f_w))]) args s 0 0 A := ⟨_, rfl⟩
  rw [← hQ]
  have hl : lv_has ls 8 [(0, .ref o), (1, .long p1), (3, .int p2), (4, .int p3)] := hl
  refine lv_lload_n K.x K.b dX8_more_0 rfl (lv_at hl 1 rfl) ?_
  refine lv_lstore (lv' := [(5, .long p1), (0, .ref o), (1, .long p1), (3, .int p2), (4, .int p3)]) K.x K.b dX8_more_1 hl (by decide) rfl (fun ls hl => ?_)
  refine lv_iconst (v := (0)) K.x K.b dX8_more_3 (by decide) ?_
  refine lv_istore (lv' := [(7, .int (0 : Int32)), (5, .long p1), (0, .ref o), (1, .long p1), (3, .int p2), (4, .int p3)]) K.x K.b dX8_more_4 hl (by decide) rfl (fun ls hl => ?_)
  obtain ⟨e2, hlpe2, h⟩ := z_bd_e h
  have KEe2 : ∀ (H : Heap) (locs : List Loc) (ls : Array Slot), z_H D A s.heap [(o, .inr (7, [.ref o_w, g_kept, g_text, g_size, g_above, g_below, g_bads, g_noes, g_fulls, g_at, g_from, g_token, g_value, g_readFault, g_yet, g_fars, g_tells])), (o_w, .inl (y 0, 1960, .inl f_w))] H locs → lv_has ls 8 [(5, .long e2)] → W p l e (zR 0 0) s m args below meth c H locs 0 0 Q (F0 m 38 ls []) := by
    intro H locs ls hH hl
    refine lv_lload K.x K.b dX8_more_38 (lv_at hl 0 rfl) ?_
    have hr9 := Option.some.inj h
    obtain rfl := hr9
    rw [hQ]
    exact z_retl K hr hH [0, 1] (by decide) rfl rfl dX8_more_40
  refine z_lp_ind (P := fun (s1 : Int32 × Int64) => ∀ (H : Heap) (locs : List Loc) (ls : Array Slot), z_H D A s.heap [(o, .inr (7, [.ref o_w, g_kept, g_text, g_size, g_above, g_below, g_bads, g_noes, g_fulls, g_at, g_from, g_token, g_value, g_readFault, g_yet, g_fars, g_tells])), (o_w, .inl (y 0, 1960, .inl f_w))] H locs → lv_has ls 8 [(0, .ref o), (3, .int p2), (4, .int p3), (5, .long s1.2), (7, .int s1.1)] → W p l e (zR 0 0) s m args below meth c H locs 0 0 Q (F0 m 6 ls [])) ?_ _ hlpe2 _ _ _ hH (lv_sub hl [2, 4, 5, 1, 0] rfl)
  clear h hlpe2
  intro s1 x3 h ihe2 hee2 H locs ls hH hl
  refine lv_iload K.x K.b dX8_more_6 (lv_at hl 4 rfl) ?_
  refine lv_iload K.x K.b dX8_more_8 (lv_at hl 2 rfl) ?_
  refine lv_icmp_ge (tgt := 38) K.x K.b dX8_more_10 (by decide) (fun c4 => ?_) (fun c4 => ?_)
  · replace h := z_t c4 h
    obtain rfl := hee2 _ (Option.some.inj h).symm
    exact KEe2 _ _ _ hH (lv_sub hl [3] rfl)
  · replace h := z_f c4 h
    refine z_ldc2 K tw_6_41 dX8_more_13 ?_
    refine lv_lload K.x K.b dX8_more_16 (lv_at hl 3 rfl) ?_
    refine lv_lmul K.x K.b dX8_more_18 ?_
    refine lv_aload_n K.x K.b dX8_more_19 rfl (lv_at hl 0 rfl) ?_
    refine z_get K hH 0 rfl zin_8 rfl 0 (by decide) tw_4_96 (v := .ref o_w) rfl dX8_more_20 ?_
    refine lv_iload_n K.x K.b dX8_more_23 rfl (lv_at hl 1 rfl) ?_
    refine lv_iload K.x K.b dX8_more_24 (lv_at hl 4 rfl) ?_
    refine lv_iadd K.x K.b dX8_more_26 ?_
    obtain ⟨x5, ex5, h⟩ := z_lt_e h
    refine z_nm ex5 ?_
    obtain ⟨g6, h⟩ := z_gd_e h
    refine z_iald K hH 1 (k := x5.toNatClampNeg) rfl g6 rfl dX8_more_27 ?_
    refine lv_i2l K.x K.b dX8_more_28 rfl ?_
    refine lv_ladd K.x K.b dX8_more_29 ?_
    obtain ⟨x7, ex7, h⟩ := z_lt_e h
    refine z_nml ex7 ?_
    refine lv_lstore (lv' := [(5, .long x7), (0, .ref o), (3, .int p2), (4, .int p3), (7, .int s1.1)]) K.x K.b dX8_more_30 hl (by decide) rfl (fun ls hl => ?_)
    obtain ⟨x8, ex8, h⟩ := z_lt_e h
    refine lv_iinc (v := x8) (lv' := [(7, .int x8), (5, .long x7), (0, .ref o), (3, .int p2), (4, .int p3)]) K.x K.b dX8_more_32 hl (k := 4) rfl (by rw [ex8]; rfl) (by decide) rfl (fun ls hl => ?_)
    refine lv_goto (tgt := 6) K.x K.b dX8_more_35 (by decide) ?_
    exact ihe2 _ (Option.some.inj h).symm _ _ _ hH (lv_sub hl [2, 3, 4, 1, 0] rfl)
noncomputable def p_X8_digest (v_size : Int32) (v_above : Int64) (v_below : Int64) (f_w : (Nat → Int32)) : Option (Int64) :=
  z_bd (z_lp (S := Int32 × Int64) (E := Int64) (fun s1 =>
  if ((9 : Int32) ≤ s1.1) then
  (some (.inr s1.2)) else
  (z_bd (p_X8_counted v_size f_w s1.1) fun r28 =>
  z_lt ((((31 : Int64) * s1.2) + ((r28).toInt64))) fun x30 =>
  z_lt (s1.1 + (1 : Int32)) fun x31 =>
  some (.inl (x31, x30)))) ((0 : Int32), (1753 : Int64))) fun e2 =>
  z_lt (((3 : Int32) * (f_w 418))) fun x3 =>
  z_bd (p_X8_more f_w e2 (397 : Int32) x3) fun r4 =>
  z_bd (z_lp (S := Int32 × Int64) (E := Int64) (fun s6 =>
  if ((f_w 422) ≤ s6.1) then
  (some (.inr s6.2)) else
  (z_lt (((419 : Int32) + s6.1)) fun x19 =>
  z_gd (z_in x19 1960) <|
  z_gd (z_in s6.1 1960) <|
  z_lt (((3 : Int32) + s6.1)) fun x22 =>
  z_gd (z_in x22 1960) <|
  z_lt ((((31 : Int64) * (((31 : Int64) * (((31 : Int64) * s6.2) + (((f_w x19.toNatClampNeg)).toInt64))) + (((f_w s6.1.toNatClampNeg)).toInt64))) + (((f_w x22.toNatClampNeg)).toInt64))) fun x24 =>
  z_lt (s6.1 + (1 : Int32)) fun x25 =>
  some (.inl (x25, x24)))) ((0 : Int32), r4)) fun e7 =>
  z_lt (((3 : Int32) * (f_w 7))) fun x8 =>
  z_bd (p_X8_more f_w e7 (8 : Int32) x8) fun r9 =>
  z_lt (((4 : Int32) * (f_w 447))) fun x11 =>
  z_bd (p_X8_more f_w r9 (423 : Int32) x11) fun r12 =>
  z_lt (((5 : Int32) * (f_w 478))) fun x14 =>
  z_bd (p_X8_more f_w r12 (448 : Int32) x14) fun r15 =>
  some (((31 : Int64) * (((31 : Int64) * r15) + v_above)) + v_below)
theorem hd_X8_digest : yX8_digest.cls = RX8 ∧ yX8_digest.cls ≠ "java/lang/invoke/MethodHandle" ∧ yX8_digest.cls ≠ "java/lang/invoke/VarHandle" ∧ (parseMethodDescriptor yX8_digest.desc).map (fun d => d.parameters.length) = some 0 := by decide +kernel
set_option maxHeartbeats 4000000 in
set_option maxRecDepth 100000 in
theorem c_X8_digest (l : Launch) (D : va_G) (y : Nat → ClassId) (o o_w : Nat) (g_kept g_text g_bads g_noes g_fulls g_at g_from g_token g_value g_readFault g_yet g_fars g_tells : Value) (v_size : Int32) (v_above : Int64) (v_below : Int64) (f_w : (Nat → Int32)) (r : Int64) (h : p_X8_digest v_size v_above v_below f_w = some r) : z_ML l yX8_digest cX8_digest 4 (some .long) 2 43 D y [.ref o] [(o, .inr (7, [.ref o_w, g_kept, g_text, .int v_size, .long v_above, .long v_below, g_bads, g_noes, g_fulls, g_at, g_from, g_token, g_value, g_readFault, g_yet, g_fars, g_tells])), (o_w, .inl (y 0, 1960, .inl f_w))] r [(o, .inr (7, [.ref o_w, g_kept, g_text, .int v_size, .long v_above, .long v_below, g_bads, g_noes, g_fulls, g_at, g_from, g_token, g_value, g_readFault, g_yet, g_fars, g_tells])), (o_w, .inl (y 0, 1960, .inl f_w))] := by
  unfold p_X8_digest at h
  refine z_enL (by decide) (Nat.le_of_ble_eq_true rfl) ?_
  intro p e s m args below meth c A ls hr K hH hl
  obtain ⟨Q, hQ⟩ : ∃ Q, Q = MQ below (z_Ql D y A r [(o, .inr (7, [.ref o_w, g_kept, g_text, .int v_size, .long v_above, .long v_below, g_bads, g_noes, g_fulls, g_at, g_from, g_token, g_value, g_readFault, g_yet, g_fars, g_tells])), (o_w, .inl (y 0, 1960, .inl f_w))]) args s 0 0 A := ⟨_, rfl⟩
  rw [← hQ]
  have hl : lv_has ls 4 [(0, .ref o)] := hl
  refine z_ldc2 K tw_6_40 dX8_digest_0 ?_
  refine lv_lstore_n (lv' := [(1, .long (1753 : Int64)), (0, .ref o)]) K.x K.b dX8_digest_3 rfl hl (by decide) rfl (fun ls hl => ?_)
  refine lv_iconst (v := (0)) K.x K.b dX8_digest_4 (by decide) ?_
  refine lv_istore_n (lv' := [(3, .int (0 : Int32)), (1, .long (1753 : Int64)), (0, .ref o)]) K.x K.b dX8_digest_5 rfl hl (by decide) rfl (fun ls hl => ?_)
  obtain ⟨e2, hlpe2, h⟩ := z_bd_e h
  have KEe2 : ∀ (H : Heap) (locs : List Loc) (ls : Array Slot), z_H D A s.heap [(o, .inr (7, [.ref o_w, g_kept, g_text, .int v_size, .long v_above, .long v_below, g_bads, g_noes, g_fulls, g_at, g_from, g_token, g_value, g_readFault, g_yet, g_fars, g_tells])), (o_w, .inl (y 0, 1960, .inl f_w))] H locs → lv_has ls 4 [(0, .ref o), (1, .long e2)] → W p l e (zR 2 43) s m args below meth c H locs 0 0 Q (F0 m 31 ls []) := by
    intro H locs ls hH hl
    refine lv_aload_n K.x K.b dX8_digest_31 rfl (lv_at hl 0 rfl) ?_
    refine lv_lload_n K.x K.b dX8_digest_32 rfl (lv_at hl 1 rfl) ?_
    refine lv_sipush (v := (397)) K.x K.b dX8_digest_33 (by decide) ?_
    refine lv_iconst (v := (3)) K.x K.b dX8_digest_36 (by decide) ?_
    refine lv_aload_n K.x K.b dX8_digest_37 rfl (lv_at hl 0 rfl) ?_
    refine z_get K hH 0 rfl zin_8 rfl 0 (by decide) tw_4_96 (v := .ref o_w) rfl dX8_digest_38 ?_
    refine lv_sipush (v := (418)) K.x K.b dX8_digest_41 (by decide) ?_
    refine z_iald K hH 1 (k := 418) rfl (by decide) rfl dX8_digest_44 ?_
    refine lv_imul K.x K.b dX8_digest_45 ?_
    obtain ⟨x3, ex3, h⟩ := z_lt_e h
    refine z_nm ex3 ?_
    obtain ⟨r4, hr5, h⟩ := z_bd_e h
    refine z_Vl K hH hl.1 (c_X8_more l D y o o_w (g_kept) (g_text) (.int v_size) (.long v_above) (.long v_below) (g_bads) (g_noes) (g_fulls) (g_at) (g_from) (g_token) (g_value) (g_readFault) (g_yet) (g_fars) (g_tells) f_w e2 (397 : Int32) x3 r4 hr5) (z_cwV K 3 tw_6_42 tw_6_44 tw_0_87 tw_1_8 tw_6_45 hd_X8_more ⟨by decide, by decide⟩) [0, 1] [] rfl (wr := []) rfl rfl rfl (by decide) rfl rfl rfl (As := [.long e2, .int (397 : Int32), .int x3]) (rest := []) rfl (Nat.le_of_ble_eq_true rfl) ⟨Nat.zero_le _, Nat.zero_le _⟩ dX8_digest_46 (ws' := [(o, .inr (7, [.ref o_w, g_kept, g_text, .int v_size, .long v_above, .long v_below, g_bads, g_noes, g_fulls, g_at, g_from, g_token, g_value, g_readFault, g_yet, g_fars, g_tells])), (o_w, .inl (y 0, 1960, .inl f_w))]) rfl (fun H locs hH => ?_)
    refine lv_lstore_n (lv' := [(1, .long r4), (0, .ref o)]) K.x K.b dX8_digest_49 rfl hl (by decide) rfl (fun ls hl => ?_)
    refine lv_iconst (v := (0)) K.x K.b dX8_digest_50 (by decide) ?_
    refine lv_istore_n (lv' := [(3, .int (0 : Int32)), (1, .long r4), (0, .ref o)]) K.x K.b dX8_digest_51 rfl hl (by decide) rfl (fun ls hl => ?_)
    obtain ⟨e7, hlpe7, h⟩ := z_bd_e h
    have KEe7 : ∀ (H : Heap) (locs : List Loc) (ls : Array Slot), z_H D A s.heap [(o, .inr (7, [.ref o_w, g_kept, g_text, .int v_size, .long v_above, .long v_below, g_bads, g_noes, g_fulls, g_at, g_from, g_token, g_value, g_readFault, g_yet, g_fars, g_tells])), (o_w, .inl (y 0, 1960, .inl f_w))] H locs → lv_has ls 4 [(0, .ref o), (1, .long e7)] → W p l e (zR 2 43) s m args below meth c H locs 0 0 Q (F0 m 114 ls []) := by
      intro H locs ls hH hl
      refine lv_aload_n K.x K.b dX8_digest_114 rfl (lv_at hl 0 rfl) ?_
      refine lv_lload_n K.x K.b dX8_digest_115 rfl (lv_at hl 1 rfl) ?_
      refine lv_bipush (v := (8)) K.x K.b dX8_digest_116 (by decide) ?_
      refine lv_iconst (v := (3)) K.x K.b dX8_digest_118 (by decide) ?_
      refine lv_aload_n K.x K.b dX8_digest_119 rfl (lv_at hl 0 rfl) ?_
      refine z_get K hH 0 rfl zin_8 rfl 0 (by decide) tw_4_96 (v := .ref o_w) rfl dX8_digest_120 ?_
      refine lv_bipush (v := (7)) K.x K.b dX8_digest_123 (by decide) ?_
      refine z_iald K hH 1 (k := 7) rfl (by decide) rfl dX8_digest_125 ?_
      refine lv_imul K.x K.b dX8_digest_126 ?_
      obtain ⟨x8, ex8, h⟩ := z_lt_e h
      refine z_nm ex8 ?_
      obtain ⟨r9, hr10, h⟩ := z_bd_e h
      refine z_Vl K hH hl.1 (c_X8_more l D y o o_w (g_kept) (g_text) (.int v_size) (.long v_above) (.long v_below) (g_bads) (g_noes) (g_fulls) (g_at) (g_from) (g_token) (g_value) (g_readFault) (g_yet) (g_fars) (g_tells) f_w e7 (8 : Int32) x8 r9 hr10) (z_cwV K 3 tw_6_42 tw_6_44 tw_0_87 tw_1_8 tw_6_45 hd_X8_more ⟨by decide, by decide⟩) [0, 1] [] rfl (wr := []) rfl rfl rfl (by decide) rfl rfl rfl (As := [.long e7, .int (8 : Int32), .int x8]) (rest := []) rfl (Nat.le_of_ble_eq_true rfl) ⟨Nat.zero_le _, Nat.zero_le _⟩ dX8_digest_127 (ws' := [(o, .inr (7, [.ref o_w, g_kept, g_text, .int v_size, .long v_above, .long v_below, g_bads, g_noes, g_fulls, g_at, g_from, g_token, g_value, g_readFault, g_yet, g_fars, g_tells])), (o_w, .inl (y 0, 1960, .inl f_w))]) rfl (fun H locs hH => ?_)
      refine lv_lstore_n (lv' := [(1, .long r9), (0, .ref o)]) K.x K.b dX8_digest_130 rfl hl (by decide) rfl (fun ls hl => ?_)
      refine lv_aload_n K.x K.b dX8_digest_131 rfl (lv_at hl 1 rfl) ?_
      refine lv_lload_n K.x K.b dX8_digest_132 rfl (lv_at hl 0 rfl) ?_
      refine lv_sipush (v := (423)) K.x K.b dX8_digest_133 (by decide) ?_
      refine lv_iconst (v := (4)) K.x K.b dX8_digest_136 (by decide) ?_
      refine lv_aload_n K.x K.b dX8_digest_137 rfl (lv_at hl 1 rfl) ?_
      refine z_get K hH 0 rfl zin_8 rfl 0 (by decide) tw_4_96 (v := .ref o_w) rfl dX8_digest_138 ?_
      refine lv_sipush (v := (447)) K.x K.b dX8_digest_141 (by decide) ?_
      refine z_iald K hH 1 (k := 447) rfl (by decide) rfl dX8_digest_144 ?_
      refine lv_imul K.x K.b dX8_digest_145 ?_
      obtain ⟨x11, ex11, h⟩ := z_lt_e h
      refine z_nm ex11 ?_
      obtain ⟨r12, hr13, h⟩ := z_bd_e h
      refine z_Vl K hH hl.1 (c_X8_more l D y o o_w (g_kept) (g_text) (.int v_size) (.long v_above) (.long v_below) (g_bads) (g_noes) (g_fulls) (g_at) (g_from) (g_token) (g_value) (g_readFault) (g_yet) (g_fars) (g_tells) f_w r9 (423 : Int32) x11 r12 hr13) (z_cwV K 3 tw_6_42 tw_6_44 tw_0_87 tw_1_8 tw_6_45 hd_X8_more ⟨by decide, by decide⟩) [0, 1] [] rfl (wr := []) rfl rfl rfl (by decide) rfl rfl rfl (As := [.long r9, .int (423 : Int32), .int x11]) (rest := []) rfl (Nat.le_of_ble_eq_true rfl) ⟨Nat.zero_le _, Nat.zero_le _⟩ dX8_digest_146 (ws' := [(o, .inr (7, [.ref o_w, g_kept, g_text, .int v_size, .long v_above, .long v_below, g_bads, g_noes, g_fulls, g_at, g_from, g_token, g_value, g_readFault, g_yet, g_fars, g_tells])), (o_w, .inl (y 0, 1960, .inl f_w))]) rfl (fun H locs hH => ?_)
      refine lv_lstore_n (lv' := [(1, .long r12), (0, .ref o)]) K.x K.b dX8_digest_149 rfl hl (by decide) rfl (fun ls hl => ?_)
      refine lv_aload_n K.x K.b dX8_digest_150 rfl (lv_at hl 1 rfl) ?_
      refine lv_lload_n K.x K.b dX8_digest_151 rfl (lv_at hl 0 rfl) ?_
      refine lv_sipush (v := (448)) K.x K.b dX8_digest_152 (by decide) ?_
      refine lv_iconst (v := (5)) K.x K.b dX8_digest_155 (by decide) ?_
      refine lv_aload_n K.x K.b dX8_digest_156 rfl (lv_at hl 1 rfl) ?_
      refine z_get K hH 0 rfl zin_8 rfl 0 (by decide) tw_4_96 (v := .ref o_w) rfl dX8_digest_157 ?_
      refine lv_sipush (v := (478)) K.x K.b dX8_digest_160 (by decide) ?_
      refine z_iald K hH 1 (k := 478) rfl (by decide) rfl dX8_digest_163 ?_
      refine lv_imul K.x K.b dX8_digest_164 ?_
      obtain ⟨x14, ex14, h⟩ := z_lt_e h
      refine z_nm ex14 ?_
      obtain ⟨r15, hr16, h⟩ := z_bd_e h
      refine z_Vl K hH hl.1 (c_X8_more l D y o o_w (g_kept) (g_text) (.int v_size) (.long v_above) (.long v_below) (g_bads) (g_noes) (g_fulls) (g_at) (g_from) (g_token) (g_value) (g_readFault) (g_yet) (g_fars) (g_tells) f_w r12 (448 : Int32) x14 r15 hr16) (z_cwV K 3 tw_6_42 tw_6_44 tw_0_87 tw_1_8 tw_6_45 hd_X8_more ⟨by decide, by decide⟩) [0, 1] [] rfl (wr := []) rfl rfl rfl (by decide) rfl rfl rfl (As := [.long r12, .int (448 : Int32), .int x14]) (rest := []) rfl (Nat.le_of_ble_eq_true rfl) ⟨Nat.zero_le _, Nat.zero_le _⟩ dX8_digest_165 (ws' := [(o, .inr (7, [.ref o_w, g_kept, g_text, .int v_size, .long v_above, .long v_below, g_bads, g_noes, g_fulls, g_at, g_from, g_token, g_value, g_readFault, g_yet, g_fars, g_tells])), (o_w, .inl (y 0, 1960, .inl f_w))]) rfl (fun H locs hH => ?_)
      refine lv_lstore_n (lv' := [(1, .long r15), (0, .ref o)]) K.x K.b dX8_digest_168 rfl hl (by decide) rfl (fun ls hl => ?_)
      refine z_ldc2 K tw_6_41 dX8_digest_169 ?_
      refine z_ldc2 K tw_6_41 dX8_digest_172 ?_
      refine lv_lload_n K.x K.b dX8_digest_175 rfl (lv_at hl 0 rfl) ?_
      refine lv_lmul K.x K.b dX8_digest_176 ?_
      refine lv_aload_n K.x K.b dX8_digest_177 rfl (lv_at hl 1 rfl) ?_
      refine z_get K hH 0 rfl zin_8 rfl 4 (by decide) tw_4_100 (v := .long v_above) rfl dX8_digest_178 ?_
      refine lv_ladd K.x K.b dX8_digest_181 ?_
      refine lv_lmul K.x K.b dX8_digest_182 ?_
      refine lv_aload_n K.x K.b dX8_digest_183 rfl (lv_at hl 1 rfl) ?_
      refine z_get K hH 0 rfl zin_8 rfl 5 (by decide) tw_4_101 (v := .long v_below) rfl dX8_digest_184 ?_
      refine lv_ladd K.x K.b dX8_digest_187 ?_
      have hr9 := Option.some.inj h
      obtain rfl := hr9
      rw [hQ]
      exact z_retl K hr hH [0, 1] (by decide) rfl rfl dX8_digest_188
    refine z_lp_ind (P := fun (s6 : Int32 × Int64) => ∀ (H : Heap) (locs : List Loc) (ls : Array Slot), z_H D A s.heap [(o, .inr (7, [.ref o_w, g_kept, g_text, .int v_size, .long v_above, .long v_below, g_bads, g_noes, g_fulls, g_at, g_from, g_token, g_value, g_readFault, g_yet, g_fars, g_tells])), (o_w, .inl (y 0, 1960, .inl f_w))] H locs → lv_has ls 4 [(0, .ref o), (1, .long s6.2), (3, .int s6.1)] → W p l e (zR 2 43) s m args below meth c H locs 0 0 Q (F0 m 52 ls [])) ?_ _ hlpe7 _ _ _ hH (lv_sub hl [2, 1, 0] rfl)
    clear h hlpe7
    intro s6 x17 h ihe7 hee7 H locs ls hH hl
    refine lv_iload_n K.x K.b dX8_digest_52 rfl (lv_at hl 2 rfl) ?_
    refine lv_aload_n K.x K.b dX8_digest_53 rfl (lv_at hl 0 rfl) ?_
    refine z_get K hH 0 rfl zin_8 rfl 0 (by decide) tw_4_96 (v := .ref o_w) rfl dX8_digest_54 ?_
    refine lv_sipush (v := (422)) K.x K.b dX8_digest_57 (by decide) ?_
    refine z_iald K hH 1 (k := 422) rfl (by decide) rfl dX8_digest_60 ?_
    refine lv_icmp_ge (tgt := 114) K.x K.b dX8_digest_61 (by decide) (fun c18 => ?_) (fun c18 => ?_)
    · replace h := z_t c18 h
      obtain rfl := hee7 _ (Option.some.inj h).symm
      exact KEe7 _ _ _ hH (lv_sub hl [0, 1] rfl)
    · replace h := z_f c18 h
      refine z_ldc2 K tw_6_41 dX8_digest_64 ?_
      refine z_ldc2 K tw_6_41 dX8_digest_67 ?_
      refine z_ldc2 K tw_6_41 dX8_digest_70 ?_
      refine lv_lload_n K.x K.b dX8_digest_73 rfl (lv_at hl 1 rfl) ?_
      refine lv_lmul K.x K.b dX8_digest_74 ?_
      refine lv_aload_n K.x K.b dX8_digest_75 rfl (lv_at hl 0 rfl) ?_
      refine z_get K hH 0 rfl zin_8 rfl 0 (by decide) tw_4_96 (v := .ref o_w) rfl dX8_digest_76 ?_
      refine lv_sipush (v := (419)) K.x K.b dX8_digest_79 (by decide) ?_
      refine lv_iload_n K.x K.b dX8_digest_82 rfl (lv_at hl 2 rfl) ?_
      refine lv_iadd K.x K.b dX8_digest_83 ?_
      obtain ⟨x19, ex19, h⟩ := z_lt_e h
      refine z_nm ex19 ?_
      obtain ⟨g20, h⟩ := z_gd_e h
      refine z_iald K hH 1 (k := x19.toNatClampNeg) rfl g20 rfl dX8_digest_84 ?_
      refine lv_i2l K.x K.b dX8_digest_85 rfl ?_
      refine lv_ladd K.x K.b dX8_digest_86 ?_
      refine lv_lmul K.x K.b dX8_digest_87 ?_
      refine lv_aload_n K.x K.b dX8_digest_88 rfl (lv_at hl 0 rfl) ?_
      refine z_get K hH 0 rfl zin_8 rfl 0 (by decide) tw_4_96 (v := .ref o_w) rfl dX8_digest_89 ?_
      refine lv_iload_n K.x K.b dX8_digest_92 rfl (lv_at hl 2 rfl) ?_
      obtain ⟨g21, h⟩ := z_gd_e h
      refine z_iald K hH 1 (k := s6.1.toNatClampNeg) rfl g21 rfl dX8_digest_93 ?_
      refine lv_i2l K.x K.b dX8_digest_94 rfl ?_
      refine lv_ladd K.x K.b dX8_digest_95 ?_
      refine lv_lmul K.x K.b dX8_digest_96 ?_
      refine lv_aload_n K.x K.b dX8_digest_97 rfl (lv_at hl 0 rfl) ?_
      refine z_get K hH 0 rfl zin_8 rfl 0 (by decide) tw_4_96 (v := .ref o_w) rfl dX8_digest_98 ?_
      refine lv_iconst (v := (3)) K.x K.b dX8_digest_101 (by decide) ?_
      refine lv_iload_n K.x K.b dX8_digest_102 rfl (lv_at hl 2 rfl) ?_
      refine lv_iadd K.x K.b dX8_digest_103 ?_
      obtain ⟨x22, ex22, h⟩ := z_lt_e h
      refine z_nm ex22 ?_
      obtain ⟨g23, h⟩ := z_gd_e h
      refine z_iald K hH 1 (k := x22.toNatClampNeg) rfl g23 rfl dX8_digest_104 ?_
      refine lv_i2l K.x K.b dX8_digest_105 rfl ?_
      refine lv_ladd K.x K.b dX8_digest_106 ?_
      obtain ⟨x24, ex24, h⟩ := z_lt_e h
      refine z_nml ex24 ?_
      refine lv_lstore_n (lv' := [(1, .long x24), (0, .ref o), (3, .int s6.1)]) K.x K.b dX8_digest_107 rfl hl (by decide) rfl (fun ls hl => ?_)
      obtain ⟨x25, ex25, h⟩ := z_lt_e h
      refine lv_iinc (v := x25) (lv' := [(3, .int x25), (1, .long x24), (0, .ref o)]) K.x K.b dX8_digest_108 hl (k := 2) rfl (by rw [ex25]; rfl) (by decide) rfl (fun ls hl => ?_)
      refine lv_goto (tgt := 52) K.x K.b dX8_digest_111 (by decide) ?_
      exact ihe7 _ (Option.some.inj h).symm _ _ _ hH (lv_sub hl [2, 1, 0] rfl)
  refine z_lp_ind (P := fun (s1 : Int32 × Int64) => ∀ (H : Heap) (locs : List Loc) (ls : Array Slot), z_H D A s.heap [(o, .inr (7, [.ref o_w, g_kept, g_text, .int v_size, .long v_above, .long v_below, g_bads, g_noes, g_fulls, g_at, g_from, g_token, g_value, g_readFault, g_yet, g_fars, g_tells])), (o_w, .inl (y 0, 1960, .inl f_w))] H locs → lv_has ls 4 [(0, .ref o), (1, .long s1.2), (3, .int s1.1)] → W p l e (zR 2 43) s m args below meth c H locs 0 0 Q (F0 m 6 ls [])) ?_ _ hlpe2 _ _ _ hH (lv_sub hl [2, 1, 0] rfl)
  clear h hlpe2
  intro s1 x26 h ihe2 hee2 H locs ls hH hl
  refine lv_iload_n K.x K.b dX8_digest_6 rfl (lv_at hl 2 rfl) ?_
  refine lv_bipush (v := (9)) K.x K.b dX8_digest_7 (by decide) ?_
  refine lv_icmp_ge (tgt := 31) K.x K.b dX8_digest_9 (by decide) (fun c27 => ?_) (fun c27 => ?_)
  · replace h := z_t c27 h
    obtain rfl := hee2 _ (Option.some.inj h).symm
    exact KEe2 _ _ _ hH (lv_sub hl [0, 1] rfl)
  · replace h := z_f c27 h
    refine z_ldc2 K tw_6_41 dX8_digest_12 ?_
    refine lv_lload_n K.x K.b dX8_digest_15 rfl (lv_at hl 1 rfl) ?_
    refine lv_lmul K.x K.b dX8_digest_16 ?_
    refine lv_aload_n K.x K.b dX8_digest_17 rfl (lv_at hl 0 rfl) ?_
    refine lv_iload_n K.x K.b dX8_digest_18 rfl (lv_at hl 2 rfl) ?_
    obtain ⟨r28, hr29, h⟩ := z_bd_e h
    refine z_Vi K hH hl.1 (c_X8_counted l D y o o_w (g_kept) (g_text) (.long v_above) (.long v_below) (g_bads) (g_noes) (g_fulls) (g_at) (g_from) (g_token) (g_value) (g_readFault) (g_yet) (g_fars) (g_tells) v_size f_w s1.1 r28 hr29) (z_cwV K 1 tw_6_28 tw_6_30 tw_0_85 tw_1_8 tw_6_31 hd_X8_counted ⟨by decide, by decide⟩) [0, 1] [] rfl (wr := []) rfl rfl rfl (by decide) rfl rfl rfl (As := [.int s1.1]) (rest := [.long ((31 : Int64) * s1.2)]) rfl (Nat.le_of_ble_eq_true rfl) ⟨Nat.zero_le _, Nat.zero_le _⟩ dX8_digest_19 (ws' := [(o, .inr (7, [.ref o_w, g_kept, g_text, .int v_size, .long v_above, .long v_below, g_bads, g_noes, g_fulls, g_at, g_from, g_token, g_value, g_readFault, g_yet, g_fars, g_tells])), (o_w, .inl (y 0, 1960, .inl f_w))]) rfl (fun H locs hH => ?_)
    refine lv_i2l K.x K.b dX8_digest_22 rfl ?_
    refine lv_ladd K.x K.b dX8_digest_23 ?_
    obtain ⟨x30, ex30, h⟩ := z_lt_e h
    refine z_nml ex30 ?_
    refine lv_lstore_n (lv' := [(1, .long x30), (0, .ref o), (3, .int s1.1)]) K.x K.b dX8_digest_24 rfl hl (by decide) rfl (fun ls hl => ?_)
    obtain ⟨x31, ex31, h⟩ := z_lt_e h
    refine lv_iinc (v := x31) (lv' := [(3, .int x31), (1, .long x30), (0, .ref o)]) K.x K.b dX8_digest_25 hl (k := 2) rfl (by rw [ex31]; rfl) (by decide) rfl (fun ls hl => ?_)
    refine lv_goto (tgt := 6) K.x K.b dX8_digest_28 (by decide) ?_
    exact ihe2 _ (Option.some.inj h).symm _ _ _ hH (lv_sub hl [2, 1, 0] rfl)
