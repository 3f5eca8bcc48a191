noncomputable def p_X8_kth (f_w : (Nat → Int32)) (f_yet : (Nat → Int32)) (f_fars : (Nat → Int32)) (p1 : Int32) (p2 : Int32) (p3 : Int32) : Option (Int32) :=
  z_lt (((1 : Int32) <<< (p1 &&& 31))) fun x1 =>
  z_lt ((((1 : Int32) <<< ((f_w 418) &&& 31)) - (1 : Int32))) fun x2 =>
  z_bd (z_lp (S := Int32 × Int32 × Int32) (E := (Unit) ⊕ (Int32)) (fun s3 =>
  if (s3.2.1 = p2) then
  (if (s3.2.1 = p2) then
  (some (.inr (.inl ()))) else
  (if (p2 = (-1 : Int32)) then
  (some (.inr (.inl ()))) else
  (z_bd (z_lp (S := Int32) (E := Int32) (fun s10 =>
  z_bd (p_X8_has s3.2.2 s10) fun r16 =>
  if (r16 = 0) then
  (z_bd (p_X8_partTo f_yet f_fars s3.2.2 s3.2.1 s10) fun r20 =>
  z_lt ((((7 : Int32) * s3.2.2) + s3.2.1)) fun x22 =>
  z_gd (z_in x22 896) <|
  if (r20 = (f_yet x22.toNatClampNeg)) then
  (some (.inr s10)) else
  (z_lt (s10 + (1 : Int32)) fun x25 =>
  some (.inl x25))) else
  (z_lt (s10 + (1 : Int32)) fun x19 =>
  some (.inl x19))) (0 : Int32)) fun e11 =>
  if (s3.1 = p3) then
  (some (.inr (.inr e11))) else
  (z_lt (s3.1 + (1 : Int32)) fun x13 =>
  z_lt ((s3.2.2 ||| ((1 : Int32) <<< (e11 &&& 31)))) fun x14 =>
  some (.inl (x13, e11, x14)))))) else
  (if (s3.2.2 = x2) then
  (if (s3.2.1 = p2) then
  (some (.inr (.inl ()))) else
  (if (p2 = (-1 : Int32)) then
  (some (.inr (.inl ()))) else
  (z_bd (z_lp (S := Int32) (E := Int32) (fun s45 =>
  z_bd (p_X8_has s3.2.2 s45) fun r51 =>
  if (r51 = 0) then
  (z_bd (p_X8_partTo f_yet f_fars s3.2.2 s3.2.1 s45) fun r55 =>
  z_lt ((((7 : Int32) * s3.2.2) + s3.2.1)) fun x57 =>
  z_gd (z_in x57 896) <|
  if (r55 = (f_yet x57.toNatClampNeg)) then
  (some (.inr s45)) else
  (z_lt (s45 + (1 : Int32)) fun x60 =>
  some (.inl x60))) else
  (z_lt (s45 + (1 : Int32)) fun x54 =>
  some (.inl x54))) (0 : Int32)) fun e46 =>
  if (s3.1 = p3) then
  (some (.inr (.inr e46))) else
  (z_lt (s3.1 + (1 : Int32)) fun x48 =>
  z_lt ((s3.2.2 ||| ((1 : Int32) <<< (e46 &&& 31)))) fun x49 =>
  some (.inl (x48, e46, x49)))))) else
  (z_bd (z_lp (S := Int32) (E := Int32) (fun s27 =>
  z_bd (p_X8_has s3.2.2 s27) fun r33 =>
  if (r33 = 0) then
  (z_bd (p_X8_partTo f_yet f_fars s3.2.2 s3.2.1 s27) fun r37 =>
  z_lt ((((7 : Int32) * s3.2.2) + s3.2.1)) fun x39 =>
  z_gd (z_in x39 896) <|
  if (r37 = (f_yet x39.toNatClampNeg)) then
  (some (.inr s27)) else
  (z_lt (s27 + (1 : Int32)) fun x42 =>
  some (.inl x42))) else
  (z_lt (s27 + (1 : Int32)) fun x36 =>
  some (.inl x36))) (0 : Int32)) fun e28 =>
  if (s3.1 = p3) then
  (some (.inr (.inr e28))) else
  (z_lt (s3.1 + (1 : Int32)) fun x30 =>
  z_lt ((s3.2.2 ||| ((1 : Int32) <<< (e28 &&& 31)))) fun x31 =>
  some (.inl (x30, e28, x31)))))) ((0 : Int32), p1, x1)) fun e4 =>
  Sum.elim (fun v5 =>
  some (-5 : Int32)) (fun r61 => some r61) e4
theorem hd_X8_kth : yX8_kth.cls = RX8 ∧ yX8_kth.cls ≠ "java/lang/invoke/MethodHandle" ∧ yX8_kth.cls ≠ "java/lang/invoke/VarHandle" ∧ (parseMethodDescriptor yX8_kth.desc).map (fun d => d.parameters.length) = some 3 := by decide +kernel
set_option maxHeartbeats 4000000 in
set_option maxRecDepth 100000 in
theorem c_X8_kth (l : Launch) (D : va_G) (y : Nat → ClassId) (o o_w o_yet o_fars : Nat) (g_kept g_text g_size g_above g_below g_bads g_noes g_fulls g_at g_from g_token g_value g_readFault g_tells : Value) (f_w : (Nat → Int32)) (f_yet : (Nat → Int32)) (f_fars : (Nat → Int32)) (p1 : Int32) (p2 : Int32) (p3 : Int32) (r : Int32) (h : p_X8_kth f_w f_yet f_fars p1 p2 p3 = some r) : z_MI l yX8_kth cX8_kth 9 (some .int) 1 23 D y [.ref o, .int p1, .int p2, .int p3] [(o, .inr (7, [.ref o_w, g_kept, g_text, g_size, g_above, g_below, g_bads, g_noes, g_fulls, g_at, g_from, g_token, g_value, g_readFault, .ref o_yet, .ref o_fars, g_tells])), (o_w, .inl (y 0, 1960, .inl f_w)), (o_yet, .inl (y 0, 896, .inl f_yet)), (o_fars, .inl (y 0, 49, .inl f_fars))] r [(o, .inr (7, [.ref o_w, g_kept, g_text, g_size, g_above, g_below, g_bads, g_noes, g_fulls, g_at, g_from, g_token, g_value, g_readFault, .ref o_yet, .ref o_fars, g_tells])), (o_w, .inl (y 0, 1960, .inl f_w)), (o_yet, .inl (y 0, 896, .inl f_yet)), (o_fars, .inl (y 0, 49, .inl f_fars))] := by
  unfold p_X8_kth at h
  refine z_enI (by decide) (Nat.le_of_ble_eq_true rfl) ?_
  intro p e s m args below meth c A ls hr K hH hl
  obtain ⟨Q, hQ⟩ : ∃ Q, Q = MQ below (z_Qi D y A r [(o, .inr (7, [.ref o_w, g_kept, g_text, g_size, g_above, g_below, g_bads, g_noes, g_fulls, g_at, g_from, g_token, g_value, g_readFault, .ref o_yet, .ref o_fars, g_tells])), (o_w, .inl (y 0, 1960, .inl f_w)), (o_yet, .inl (y 0, 896, .inl f_yet)), (o_fars, .inl (y 0, 49, .inl f_fars))]) args s 0 0 A := ⟨_, rfl⟩
  rw [← hQ]
  have hl : lv_has ls 9 [(0, .ref o), (1, .int p1), (2, .int p2), (3, .int p3)] := hl
  refine lv_iconst (v := (1)) K.x K.b dX8_kth_0 (by decide) ?_
  refine lv_iload_n K.x K.b dX8_kth_1 rfl (lv_at hl 1 rfl) ?_
  refine lv_ishl K.x K.b dX8_kth_2 ?_
  obtain ⟨x1, ex1, h⟩ := z_lt_e h
  refine z_nm ex1 ?_
  refine lv_istore (lv' := [(4, .int x1), (0, .ref o), (1, .int p1), (2, .int p2), (3, .int p3)]) K.x K.b dX8_kth_3 hl (by decide) rfl (fun ls hl => ?_)
  refine lv_iload_n K.x K.b dX8_kth_5 rfl (lv_at hl 2 rfl) ?_
  refine lv_istore (lv' := [(5, .int p1), (4, .int x1), (0, .ref o), (1, .int p1), (2, .int p2), (3, .int p3)]) K.x K.b dX8_kth_6 hl (by decide) rfl (fun ls hl => ?_)
  refine lv_iconst (v := (0)) K.x K.b dX8_kth_8 (by decide) ?_
  refine lv_istore (lv' := [(6, .int (0 : Int32)), (5, .int p1), (4, .int x1), (0, .ref o), (1, .int p1), (2, .int p2), (3, .int p3)]) K.x K.b dX8_kth_9 hl (by decide) rfl (fun ls hl => ?_)
  refine lv_iconst (v := (1)) K.x K.b dX8_kth_11 (by decide) ?_
  refine lv_aload_n K.x K.b dX8_kth_12 rfl (lv_at hl 3 rfl) ?_
  refine z_get K hH 0 rfl zin_8 rfl 0 (by decide) tw_4_96 (v := .ref o_w) rfl dX8_kth_13 ?_
  refine lv_sipush (v := (418)) K.x K.b dX8_kth_16 (by decide) ?_
  refine z_iald K hH 1 (k := 418) rfl (by decide) rfl dX8_kth_19 ?_
  refine lv_ishl K.x K.b dX8_kth_20 ?_
  refine lv_iconst (v := (1)) K.x K.b dX8_kth_21 (by decide) ?_
  refine lv_isub K.x K.b dX8_kth_22 ?_
  obtain ⟨x2, ex2, h⟩ := z_lt_e h
  refine z_nm ex2 ?_
  refine lv_istore (lv' := [(7, .int x2), (6, .int (0 : Int32)), (5, .int p1), (4, .int x1), (0, .ref o), (1, .int p1), (2, .int p2), (3, .int p3)]) K.x K.b dX8_kth_23 hl (by decide) rfl (fun ls hl => ?_)
  obtain ⟨e4, hlpe4, h⟩ := z_bd_e h
  have KRe4 : ∀ r61, e4 = .inr r61 → r61 = r := by
    intro r61 q9
    subst q9
    replace h := z_elr h
    have hr9 := Option.some.inj h
    exact hr9
  have KEe4 : ∀ v5, e4 = .inl v5 → ∀ (H : Heap) (locs : List Loc) (ls : Array Slot), z_H D A s.heap [(o, .inr (7, [.ref o_w, g_kept, g_text, g_size, g_above, g_below, g_bads, g_noes, g_fulls, g_at, g_from, g_token, g_value, g_readFault, .ref o_yet, .ref o_fars, g_tells])), (o_w, .inl (y 0, 1960, .inl f_w)), (o_yet, .inl (y 0, 896, .inl f_yet)), (o_fars, .inl (y 0, 49, .inl f_fars))] H locs → lv_has ls 9 [] → W p l e (zR 1 23) s m args below meth c H locs 0 0 Q (F0 m 122 ls []) := by
    intro v5 q9 H locs ls hH hl
    subst q9
    replace h := z_eli h
    refine lv_bipush (v := (-5)) K.x K.b dX8_kth_122 (by decide) ?_
    have hr9 := Option.some.inj h
    obtain rfl := hr9
    rw [hQ]
    exact z_reti K hr hH [0, 1, 2, 3] (by decide) rfl rfl rfl dX8_kth_124
  refine z_lp_ind (P := fun (s3 : Int32 × Int32 × Int32) => ∀ (H : Heap) (locs : List Loc) (ls : Array Slot), z_H D A s.heap [(o, .inr (7, [.ref o_w, g_kept, g_text, g_size, g_above, g_below, g_bads, g_noes, g_fulls, g_at, g_from, g_token, g_value, g_readFault, .ref o_yet, .ref o_fars, g_tells])), (o_w, .inl (y 0, 1960, .inl f_w)), (o_yet, .inl (y 0, 896, .inl f_yet)), (o_fars, .inl (y 0, 49, .inl f_fars))] H locs → lv_has ls 9 [(0, .ref o), (2, .int p2), (3, .int p3), (4, .int s3.2.2), (5, .int s3.2.1), (6, .int s3.1), (7, .int x2)] → W p l e (zR 1 23) s m args below meth c H locs 0 0 Q (F0 m 25 ls [])) ?_ _ hlpe4 _ _ _ hH (lv_sub hl [4, 6, 7, 3, 2, 1, 0] rfl)
  clear h hlpe4
  intro s3 x6 h ihe4 hee4 H locs ls hH hl
  refine lv_iload K.x K.b dX8_kth_25 (lv_at hl 4 rfl) ?_
  refine lv_iload_n K.x K.b dX8_kth_27 rfl (lv_at hl 1 rfl) ?_
  refine lv_icmp_eq (tgt := 38) K.x K.b dX8_kth_28 (by decide) (fun c7 => ?_) (fun c7 => ?_)
  · replace h := z_t c7 h
    refine lv_iload K.x K.b dX8_kth_38 (lv_at hl 4 rfl) ?_
    refine lv_iload_n K.x K.b dX8_kth_40 rfl (lv_at hl 1 rfl) ?_
    refine lv_icmp_eq (tgt := 122) K.x K.b dX8_kth_41 (by decide) (fun c8 => ?_) (fun c8 => ?_)
    · replace h := z_t c8 h
      exact KEe4 _ (hee4 _ (Option.some.inj h).symm).symm _ _ _ hH (lv_sub hl [] rfl)
    · replace h := z_f c8 h
      refine lv_iload_n K.x K.b dX8_kth_44 rfl (lv_at hl 1 rfl) ?_
      refine lv_iconst (v := (-1)) K.x K.b dX8_kth_45 (by decide) ?_
      refine lv_icmp_eq (tgt := 122) K.x K.b dX8_kth_46 (by decide) (fun c9 => ?_) (fun c9 => ?_)
      · replace h := z_t c9 h
        exact KEe4 _ (hee4 _ (Option.some.inj h).symm).symm _ _ _ hH (lv_sub hl [] rfl)
      · replace h := z_f c9 h
        refine lv_iconst (v := (0)) K.x K.b dX8_kth_49 (by decide) ?_
        refine lv_istore (lv' := [(8, .int (0 : Int32)), (0, .ref o), (2, .int p2), (3, .int p3), (4, .int s3.2.2), (5, .int s3.2.1), (6, .int s3.1), (7, .int x2)]) K.x K.b dX8_kth_50 hl (by decide) rfl (fun ls hl => ?_)
        obtain ⟨e11, hlpe11, h⟩ := z_bd_e h
        have KEe11 : ∀ (H : Heap) (locs : List Loc) (ls : Array Slot), z_H D A s.heap [(o, .inr (7, [.ref o_w, g_kept, g_text, g_size, g_above, g_below, g_bads, g_noes, g_fulls, g_at, g_from, g_token, g_value, g_readFault, .ref o_yet, .ref o_fars, g_tells])), (o_w, .inl (y 0, 1960, .inl f_w)), (o_yet, .inl (y 0, 896, .inl f_yet)), (o_fars, .inl (y 0, 49, .inl f_fars))] H locs → lv_has ls 9 [(0, .ref o), (2, .int p2), (3, .int p3), (4, .int s3.2.2), (6, .int s3.1), (7, .int x2), (8, .int e11)] → W p l e (zR 1 23) s m args below meth c H locs 0 0 Q (F0 m 94 ls []) := by
          intro H locs ls hH hl
          refine lv_iload K.x K.b dX8_kth_94 (lv_at hl 4 rfl) ?_
          refine lv_iload_n K.x K.b dX8_kth_96 rfl (lv_at hl 2 rfl) ?_
          refine lv_icmp_ne (tgt := 103) K.x K.b dX8_kth_97 (by decide) (fun c12 => ?_) (fun c12 => ?_)
          · replace h := z_f c12 h
            obtain ⟨x13, ex13, h⟩ := z_lt_e h
            refine lv_iinc (v := x13) (lv' := [(6, .int x13), (0, .ref o), (2, .int p2), (3, .int p3), (4, .int s3.2.2), (7, .int x2), (8, .int e11)]) K.x K.b dX8_kth_103 hl (k := 4) rfl (by rw [ex13]; rfl) (by decide) rfl (fun ls hl => ?_)
            refine lv_iload K.x K.b dX8_kth_106 (lv_at hl 4 rfl) ?_
            refine lv_iconst (v := (1)) K.x K.b dX8_kth_108 (by decide) ?_
            refine lv_iload K.x K.b dX8_kth_109 (lv_at hl 6 rfl) ?_
            refine lv_ishl K.x K.b dX8_kth_111 ?_
            refine lv_ior K.x K.b dX8_kth_112 ?_
            obtain ⟨x14, ex14, h⟩ := z_lt_e h
            refine z_nm ex14 ?_
            refine lv_istore (lv' := [(4, .int x14), (6, .int x13), (0, .ref o), (2, .int p2), (3, .int p3), (7, .int x2), (8, .int e11)]) K.x K.b dX8_kth_113 hl (by decide) rfl (fun ls hl => ?_)
            refine lv_iload K.x K.b dX8_kth_115 (lv_at hl 6 rfl) ?_
            refine lv_istore (lv' := [(5, .int e11), (4, .int x14), (6, .int x13), (0, .ref o), (2, .int p2), (3, .int p3), (7, .int x2), (8, .int e11)]) K.x K.b dX8_kth_117 hl (by decide) rfl (fun ls hl => ?_)
            refine lv_goto (tgt := 25) K.x K.b dX8_kth_119 (by decide) ?_
            exact ihe4 _ (Option.some.inj h).symm _ _ _ hH (lv_sub hl [3, 4, 5, 1, 0, 2, 6] rfl)
          · replace h := z_t c12 h
            refine lv_iload K.x K.b dX8_kth_100 (lv_at hl 6 rfl) ?_
            have hr9 := KRe4 _ (hee4 _ (Option.some.inj h).symm).symm
            obtain rfl := hr9
            rw [hQ]
            exact z_reti K hr hH [0, 1, 2, 3] (by decide) rfl rfl rfl dX8_kth_102
        refine z_lp_ind (P := fun (s10 : Int32) => ∀ (H : Heap) (locs : List Loc) (ls : Array Slot), z_H D A s.heap [(o, .inr (7, [.ref o_w, g_kept, g_text, g_size, g_above, g_below, g_bads, g_noes, g_fulls, g_at, g_from, g_token, g_value, g_readFault, .ref o_yet, .ref o_fars, g_tells])), (o_w, .inl (y 0, 1960, .inl f_w)), (o_yet, .inl (y 0, 896, .inl f_yet)), (o_fars, .inl (y 0, 49, .inl f_fars))] H locs → lv_has ls 9 [(0, .ref o), (2, .int p2), (3, .int p3), (4, .int s3.2.2), (5, .int s3.2.1), (6, .int s3.1), (7, .int x2), (8, .int s10)] → W p l e (zR 1 23) s m args below meth c H locs 0 0 Q (F0 m 52 ls [])) ?_ _ hlpe11 _ _ _ hH (lv_sub hl [1, 2, 3, 4, 5, 6, 7, 0] rfl)
        clear h hlpe11
        intro s10 x15 h ihe11 hee11 H locs ls hH hl
        refine lv_iload K.x K.b dX8_kth_52 (lv_at hl 3 rfl) ?_
        refine lv_iload K.x K.b dX8_kth_54 (lv_at hl 7 rfl) ?_
        obtain ⟨r16, hr17, h⟩ := z_bd_e h
        refine z_Si K hH hl.1 (c_X8_has l D y s3.2.2 s10 r16 hr17) (z_cwS K 2 tw_5_124 tw_5_125 tw_1_8 tw_5_126 hd_X8_has ⟨by decide, by decide⟩) rfl (As := [.int s3.2.2, .int s10]) (rest := []) rfl (Nat.le_of_ble_eq_true rfl) ⟨Nat.zero_le _, Nat.zero_le _⟩ dX8_kth_56 (fun H locs hH => ?_)
        refine lv_if_ne (tgt := 88) K.x K.b dX8_kth_59 (by decide) (fun c18 => ?_) (fun c18 => ?_)
        · replace h := z_f c18 h
          obtain ⟨x19, ex19, h⟩ := z_lt_e h
          refine lv_iinc (v := x19) (lv' := [(8, .int x19), (0, .ref o), (2, .int p2), (3, .int p3), (4, .int s3.2.2), (5, .int s3.2.1), (6, .int s3.1), (7, .int x2)]) K.x K.b dX8_kth_88 hl (k := 7) rfl (by rw [ex19]; rfl) (by decide) rfl (fun ls hl => ?_)
          refine lv_goto (tgt := 52) K.x K.b dX8_kth_91 (by decide) ?_
          exact ihe11 _ (Option.some.inj h).symm _ _ _ hH (lv_sub hl [1, 2, 3, 4, 5, 6, 7, 0] rfl)
        · replace h := z_t c18 h
          refine lv_aload_n K.x K.b dX8_kth_62 rfl (lv_at hl 0 rfl) ?_
          refine lv_iload K.x K.b dX8_kth_63 (lv_at hl 3 rfl) ?_
          refine lv_iload K.x K.b dX8_kth_65 (lv_at hl 4 rfl) ?_
          refine lv_iload K.x K.b dX8_kth_67 (lv_at hl 7 rfl) ?_
          obtain ⟨r20, hr21, h⟩ := z_bd_e h
          refine z_Vi K hH hl.1 (c_X8_partTo l D y o o_yet o_fars (.ref o_w) (g_kept) (g_text) (g_size) (g_above) (g_below) (g_bads) (g_noes) (g_fulls) (g_at) (g_from) (g_token) (g_value) (g_readFault) (g_tells) f_yet f_fars s3.2.2 s3.2.1 s10 r20 hr21) (z_cwV K 3 tw_5_132 tw_5_134 tw_0_73 tw_1_8 tw_5_135 hd_X8_partTo ⟨by decide, by decide⟩) [0, 2, 3] [1] rfl (wr := [(o_w, .inl (y 0, 1960, .inl f_w))]) rfl rfl rfl (by decide) rfl rfl rfl (As := [.int s3.2.2, .int s3.2.1, .int s10]) (rest := []) rfl (Nat.le_of_ble_eq_true rfl) ⟨Nat.zero_le _, Nat.zero_le _⟩ dX8_kth_69 (ws' := [(o_w, .inl (y 0, 1960, .inl f_w)), (o, .inr (7, [.ref o_w, g_kept, g_text, g_size, g_above, g_below, g_bads, g_noes, g_fulls, g_at, g_from, g_token, g_value, g_readFault, .ref o_yet, .ref o_fars, g_tells])), (o_yet, .inl (y 0, 896, .inl f_yet)), (o_fars, .inl (y 0, 49, .inl f_fars))]) rfl (fun H locs hH => ?_)
          refine lv_aload_n K.x K.b dX8_kth_72 rfl (lv_at hl 0 rfl) ?_
          refine z_get K hH 1 rfl zin_8 rfl 14 (by decide) tw_4_110 (v := .ref o_yet) rfl dX8_kth_73 ?_
          refine lv_bipush (v := (7)) K.x K.b dX8_kth_76 (by decide) ?_
          refine lv_iload K.x K.b dX8_kth_78 (lv_at hl 3 rfl) ?_
          refine lv_imul K.x K.b dX8_kth_80 ?_
          refine lv_iload K.x K.b dX8_kth_81 (lv_at hl 4 rfl) ?_
          refine lv_iadd K.x K.b dX8_kth_83 ?_
          obtain ⟨x22, ex22, h⟩ := z_lt_e h
          refine z_nm ex22 ?_
          obtain ⟨g23, h⟩ := z_gd_e h
          refine z_iald K hH 2 (k := x22.toNatClampNeg) rfl g23 rfl dX8_kth_84 ?_
          refine lv_icmp_eq (tgt := 94) K.x K.b dX8_kth_85 (by decide) (fun c24 => ?_) (fun c24 => ?_)
          · replace h := z_t c24 h
            obtain rfl := hee11 _ (Option.some.inj h).symm
            exact KEe11 _ _ _ (hH.sub [1, 0, 2, 3] (by decide) rfl) (lv_sub hl [0, 1, 2, 3, 5, 6, 7] rfl)
          · replace h := z_f c24 h
            obtain ⟨x25, ex25, h⟩ := z_lt_e h
            refine lv_iinc (v := x25) (lv' := [(8, .int x25), (0, .ref o), (2, .int p2), (3, .int p3), (4, .int s3.2.2), (5, .int s3.2.1), (6, .int s3.1), (7, .int x2)]) K.x K.b dX8_kth_88 hl (k := 7) rfl (by rw [ex25]; rfl) (by decide) rfl (fun ls hl => ?_)
            refine lv_goto (tgt := 52) K.x K.b dX8_kth_91 (by decide) ?_
            exact ihe11 _ (Option.some.inj h).symm _ _ _ (hH.sub [1, 0, 2, 3] (by decide) rfl) (lv_sub hl [1, 2, 3, 4, 5, 6, 7, 0] rfl)
  · replace h := z_f c7 h
    refine lv_iload K.x K.b dX8_kth_31 (lv_at hl 3 rfl) ?_
    refine lv_iload K.x K.b dX8_kth_33 (lv_at hl 6 rfl) ?_
    refine lv_icmp_ne (tgt := 49) K.x K.b dX8_kth_35 (by decide) (fun c26 => ?_) (fun c26 => ?_)
    · replace h := z_f c26 h
      refine lv_iconst (v := (0)) K.x K.b dX8_kth_49 (by decide) ?_
      refine lv_istore (lv' := [(8, .int (0 : Int32)), (0, .ref o), (2, .int p2), (3, .int p3), (4, .int s3.2.2), (5, .int s3.2.1), (6, .int s3.1), (7, .int x2)]) K.x K.b dX8_kth_50 hl (by decide) rfl (fun ls hl => ?_)
      obtain ⟨e28, hlpe28, h⟩ := z_bd_e h
      have KEe28 : ∀ (H : Heap) (locs : List Loc) (ls : Array Slot), z_H D A s.heap [(o, .inr (7, [.ref o_w, g_kept, g_text, g_size, g_above, g_below, g_bads, g_noes, g_fulls, g_at, g_from, g_token, g_value, g_readFault, .ref o_yet, .ref o_fars, g_tells])), (o_w, .inl (y 0, 1960, .inl f_w)), (o_yet, .inl (y 0, 896, .inl f_yet)), (o_fars, .inl (y 0, 49, .inl f_fars))] H locs → lv_has ls 9 [(0, .ref o), (2, .int p2), (3, .int p3), (4, .int s3.2.2), (6, .int s3.1), (7, .int x2), (8, .int e28)] → W p l e (zR 1 23) s m args below meth c H locs 0 0 Q (F0 m 94 ls []) := by
        intro H locs ls hH hl
        refine lv_iload K.x K.b dX8_kth_94 (lv_at hl 4 rfl) ?_
        refine lv_iload_n K.x K.b dX8_kth_96 rfl (lv_at hl 2 rfl) ?_
        refine lv_icmp_ne (tgt := 103) K.x K.b dX8_kth_97 (by decide) (fun c29 => ?_) (fun c29 => ?_)
        · replace h := z_f c29 h
          obtain ⟨x30, ex30, h⟩ := z_lt_e h
          refine lv_iinc (v := x30) (lv' := [(6, .int x30), (0, .ref o), (2, .int p2), (3, .int p3), (4, .int s3.2.2), (7, .int x2), (8, .int e28)]) K.x K.b dX8_kth_103 hl (k := 4) rfl (by rw [ex30]; rfl) (by decide) rfl (fun ls hl => ?_)
          refine lv_iload K.x K.b dX8_kth_106 (lv_at hl 4 rfl) ?_
          refine lv_iconst (v := (1)) K.x K.b dX8_kth_108 (by decide) ?_
          refine lv_iload K.x K.b dX8_kth_109 (lv_at hl 6 rfl) ?_
          refine lv_ishl K.x K.b dX8_kth_111 ?_
          refine lv_ior K.x K.b dX8_kth_112 ?_
          obtain ⟨x31, ex31, h⟩ := z_lt_e h
          refine z_nm ex31 ?_
          refine lv_istore (lv' := [(4, .int x31), (6, .int x30), (0, .ref o), (2, .int p2), (3, .int p3), (7, .int x2), (8, .int e28)]) K.x K.b dX8_kth_113 hl (by decide) rfl (fun ls hl => ?_)
          refine lv_iload K.x K.b dX8_kth_115 (lv_at hl 6 rfl) ?_
          refine lv_istore (lv' := [(5, .int e28), (4, .int x31), (6, .int x30), (0, .ref o), (2, .int p2), (3, .int p3), (7, .int x2), (8, .int e28)]) K.x K.b dX8_kth_117 hl (by decide) rfl (fun ls hl => ?_)
          refine lv_goto (tgt := 25) K.x K.b dX8_kth_119 (by decide) ?_
          exact ihe4 _ (Option.some.inj h).symm _ _ _ hH (lv_sub hl [3, 4, 5, 1, 0, 2, 6] rfl)
        · replace h := z_t c29 h
          refine lv_iload K.x K.b dX8_kth_100 (lv_at hl 6 rfl) ?_
          have hr9 := KRe4 _ (hee4 _ (Option.some.inj h).symm).symm
          obtain rfl := hr9
          rw [hQ]
          exact z_reti K hr hH [0, 1, 2, 3] (by decide) rfl rfl rfl dX8_kth_102
      refine z_lp_ind (P := fun (s27 : Int32) => ∀ (H : Heap) (locs : List Loc) (ls : Array Slot), z_H D A s.heap [(o, .inr (7, [.ref o_w, g_kept, g_text, g_size, g_above, g_below, g_bads, g_noes, g_fulls, g_at, g_from, g_token, g_value, g_readFault, .ref o_yet, .ref o_fars, g_tells])), (o_w, .inl (y 0, 1960, .inl f_w)), (o_yet, .inl (y 0, 896, .inl f_yet)), (o_fars, .inl (y 0, 49, .inl f_fars))] H locs → lv_has ls 9 [(0, .ref o), (2, .int p2), (3, .int p3), (4, .int s3.2.2), (5, .int s3.2.1), (6, .int s3.1), (7, .int x2), (8, .int s27)] → W p l e (zR 1 23) s m args below meth c H locs 0 0 Q (F0 m 52 ls [])) ?_ _ hlpe28 _ _ _ hH (lv_sub hl [1, 2, 3, 4, 5, 6, 7, 0] rfl)
      clear h hlpe28
      intro s27 x32 h ihe28 hee28 H locs ls hH hl
      refine lv_iload K.x K.b dX8_kth_52 (lv_at hl 3 rfl) ?_
      refine lv_iload K.x K.b dX8_kth_54 (lv_at hl 7 rfl) ?_
      obtain ⟨r33, hr34, h⟩ := z_bd_e h
      refine z_Si K hH hl.1 (c_X8_has l D y s3.2.2 s27 r33 hr34) (z_cwS K 2 tw_5_124 tw_5_125 tw_1_8 tw_5_126 hd_X8_has ⟨by decide, by decide⟩) rfl (As := [.int s3.2.2, .int s27]) (rest := []) rfl (Nat.le_of_ble_eq_true rfl) ⟨Nat.zero_le _, Nat.zero_le _⟩ dX8_kth_56 (fun H locs hH => ?_)
      refine lv_if_ne (tgt := 88) K.x K.b dX8_kth_59 (by decide) (fun c35 => ?_) (fun c35 => ?_)
      · replace h := z_f c35 h
        obtain ⟨x36, ex36, h⟩ := z_lt_e h
        refine lv_iinc (v := x36) (lv' := [(8, .int x36), (0, .ref o), (2, .int p2), (3, .int p3), (4, .int s3.2.2), (5, .int s3.2.1), (6, .int s3.1), (7, .int x2)]) K.x K.b dX8_kth_88 hl (k := 7) rfl (by rw [ex36]; rfl) (by decide) rfl (fun ls hl => ?_)
        refine lv_goto (tgt := 52) K.x K.b dX8_kth_91 (by decide) ?_
        exact ihe28 _ (Option.some.inj h).symm _ _ _ hH (lv_sub hl [1, 2, 3, 4, 5, 6, 7, 0] rfl)
      · replace h := z_t c35 h
        refine lv_aload_n K.x K.b dX8_kth_62 rfl (lv_at hl 0 rfl) ?_
        refine lv_iload K.x K.b dX8_kth_63 (lv_at hl 3 rfl) ?_
        refine lv_iload K.x K.b dX8_kth_65 (lv_at hl 4 rfl) ?_
        refine lv_iload K.x K.b dX8_kth_67 (lv_at hl 7 rfl) ?_
        obtain ⟨r37, hr38, h⟩ := z_bd_e h
        refine z_Vi K hH hl.1 (c_X8_partTo l D y o o_yet o_fars (.ref o_w) (g_kept) (g_text) (g_size) (g_above) (g_below) (g_bads) (g_noes) (g_fulls) (g_at) (g_from) (g_token) (g_value) (g_readFault) (g_tells) f_yet f_fars s3.2.2 s3.2.1 s27 r37 hr38) (z_cwV K 3 tw_5_132 tw_5_134 tw_0_73 tw_1_8 tw_5_135 hd_X8_partTo ⟨by decide, by decide⟩) [0, 2, 3] [1] rfl (wr := [(o_w, .inl (y 0, 1960, .inl f_w))]) rfl rfl rfl (by decide) rfl rfl rfl (As := [.int s3.2.2, .int s3.2.1, .int s27]) (rest := []) rfl (Nat.le_of_ble_eq_true rfl) ⟨Nat.zero_le _, Nat.zero_le _⟩ dX8_kth_69 (ws' := [(o_w, .inl (y 0, 1960, .inl f_w)), (o, .inr (7, [.ref o_w, g_kept, g_text, g_size, g_above, g_below, g_bads, g_noes, g_fulls, g_at, g_from, g_token, g_value, g_readFault, .ref o_yet, .ref o_fars, g_tells])), (o_yet, .inl (y 0, 896, .inl f_yet)), (o_fars, .inl (y 0, 49, .inl f_fars))]) rfl (fun H locs hH => ?_)
        refine lv_aload_n K.x K.b dX8_kth_72 rfl (lv_at hl 0 rfl) ?_
        refine z_get K hH 1 rfl zin_8 rfl 14 (by decide) tw_4_110 (v := .ref o_yet) rfl dX8_kth_73 ?_
        refine lv_bipush (v := (7)) K.x K.b dX8_kth_76 (by decide) ?_
        refine lv_iload K.x K.b dX8_kth_78 (lv_at hl 3 rfl) ?_
        refine lv_imul K.x K.b dX8_kth_80 ?_
        refine lv_iload K.x K.b dX8_kth_81 (lv_at hl 4 rfl) ?_
        refine lv_iadd K.x K.b dX8_kth_83 ?_
        obtain ⟨x39, ex39, h⟩ := z_lt_e h
        refine z_nm ex39 ?_
        obtain ⟨g40, h⟩ := z_gd_e h
        refine z_iald K hH 2 (k := x39.toNatClampNeg) rfl g40 rfl dX8_kth_84 ?_
        refine lv_icmp_eq (tgt := 94) K.x K.b dX8_kth_85 (by decide) (fun c41 => ?_) (fun c41 => ?_)
        · replace h := z_t c41 h
          obtain rfl := hee28 _ (Option.some.inj h).symm
          exact KEe28 _ _ _ (hH.sub [1, 0, 2, 3] (by decide) rfl) (lv_sub hl [0, 1, 2, 3, 5, 6, 7] rfl)
        · replace h := z_f c41 h
          obtain ⟨x42, ex42, h⟩ := z_lt_e h
          refine lv_iinc (v := x42) (lv' := [(8, .int x42), (0, .ref o), (2, .int p2), (3, .int p3), (4, .int s3.2.2), (5, .int s3.2.1), (6, .int s3.1), (7, .int x2)]) K.x K.b dX8_kth_88 hl (k := 7) rfl (by rw [ex42]; rfl) (by decide) rfl (fun ls hl => ?_)
          refine lv_goto (tgt := 52) K.x K.b dX8_kth_91 (by decide) ?_
          exact ihe28 _ (Option.some.inj h).symm _ _ _ (hH.sub [1, 0, 2, 3] (by decide) rfl) (lv_sub hl [1, 2, 3, 4, 5, 6, 7, 0] rfl)
    · replace h := z_t c26 h
      refine lv_iload K.x K.b dX8_kth_38 (lv_at hl 4 rfl) ?_
      refine lv_iload_n K.x K.b dX8_kth_40 rfl (lv_at hl 1 rfl) ?_
      refine lv_icmp_eq (tgt := 122) K.x K.b dX8_kth_41 (by decide) (fun c43 => ?_) (fun c43 => ?_)
      · replace h := z_t c43 h
        exact KEe4 _ (hee4 _ (Option.some.inj h).symm).symm _ _ _ hH (lv_sub hl [] rfl)
      · replace h := z_f c43 h
        refine lv_iload_n K.x K.b dX8_kth_44 rfl (lv_at hl 1 rfl) ?_
        refine lv_iconst (v := (-1)) K.x K.b dX8_kth_45 (by decide) ?_
        refine lv_icmp_eq (tgt := 122) K.x K.b dX8_kth_46 (by decide) (fun c44 => ?_) (fun c44 => ?_)
        · replace h := z_t c44 h
          exact KEe4 _ (hee4 _ (Option.some.inj h).symm).symm _ _ _ hH (lv_sub hl [] rfl)
        · replace h := z_f c44 h
          refine lv_iconst (v := (0)) K.x K.b dX8_kth_49 (by decide) ?_
          refine lv_istore (lv' := [(8, .int (0 : Int32)), (0, .ref o), (2, .int p2), (3, .int p3), (4, .int s3.2.2), (5, .int s3.2.1), (6, .int s3.1), (7, .int x2)]) K.x K.b dX8_kth_50 hl (by decide) rfl (fun ls hl => ?_)
          obtain ⟨e46, hlpe46, h⟩ := z_bd_e h
          have KEe46 : ∀ (H : Heap) (locs : List Loc) (ls : Array Slot), z_H D A s.heap [(o, .inr (7, [.ref o_w, g_kept, g_text, g_size, g_above, g_below, g_bads, g_noes, g_fulls, g_at, g_from, g_token, g_value, g_readFault, .ref o_yet, .ref o_fars, g_tells])), (o_w, .inl (y 0, 1960, .inl f_w)), (o_yet, .inl (y 0, 896, .inl f_yet)), (o_fars, .inl (y 0, 49, .inl f_fars))] H locs → lv_has ls 9 [(0, .ref o), (2, .int p2), (3, .int p3), (4, .int s3.2.2), (6, .int s3.1), (7, .int x2), (8, .int e46)] → W p l e (zR 1 23) s m args below meth c H locs 0 0 Q (F0 m 94 ls []) := by
            intro H locs ls hH hl
            refine lv_iload K.x K.b dX8_kth_94 (lv_at hl 4 rfl) ?_
            refine lv_iload_n K.x K.b dX8_kth_96 rfl (lv_at hl 2 rfl) ?_
            refine lv_icmp_ne (tgt := 103) K.x K.b dX8_kth_97 (by decide) (fun c47 => ?_) (fun c47 => ?_)
            · replace h := z_f c47 h
              obtain ⟨x48, ex48, h⟩ := z_lt_e h
              refine lv_iinc (v := x48) (lv' := [(6, .int x48), (0, .ref o), (2, .int p2), (3, .int p3), (4, .int s3.2.2), (7, .int x2), (8, .int e46)]) K.x K.b dX8_kth_103 hl (k := 4) rfl (by rw [ex48]; rfl) (by decide) rfl (fun ls hl => ?_)
              refine lv_iload K.x K.b dX8_kth_106 (lv_at hl 4 rfl) ?_
              refine lv_iconst (v := (1)) K.x K.b dX8_kth_108 (by decide) ?_
              refine lv_iload K.x K.b dX8_kth_109 (lv_at hl 6 rfl) ?_
              refine lv_ishl K.x K.b dX8_kth_111 ?_
              refine lv_ior K.x K.b dX8_kth_112 ?_
              obtain ⟨x49, ex49, h⟩ := z_lt_e h
              refine z_nm ex49 ?_
              refine lv_istore (lv' := [(4, .int x49), (6, .int x48), (0, .ref o), (2, .int p2), (3, .int p3), (7, .int x2), (8, .int e46)]) K.x K.b dX8_kth_113 hl (by decide) rfl (fun ls hl => ?_)
              refine lv_iload K.x K.b dX8_kth_115 (lv_at hl 6 rfl) ?_
              refine lv_istore (lv' := [(5, .int e46), (4, .int x49), (6, .int x48), (0, .ref o), (2, .int p2), (3, .int p3), (7, .int x2), (8, .int e46)]) K.x K.b dX8_kth_117 hl (by decide) rfl (fun ls hl => ?_)
              refine lv_goto (tgt := 25) K.x K.b dX8_kth_119 (by decide) ?_
              exact ihe4 _ (Option.some.inj h).symm _ _ _ hH (lv_sub hl [3, 4, 5, 1, 0, 2, 6] rfl)
            · replace h := z_t c47 h
              refine lv_iload K.x K.b dX8_kth_100 (lv_at hl 6 rfl) ?_
              have hr9 := KRe4 _ (hee4 _ (Option.some.inj h).symm).symm
              obtain rfl := hr9
              rw [hQ]
              exact z_reti K hr hH [0, 1, 2, 3] (by decide) rfl rfl rfl dX8_kth_102
          refine z_lp_ind (P := fun (s45 : Int32) => ∀ (H : Heap) (locs : List Loc) (ls : Array Slot), z_H D A s.heap [(o, .inr (7, [.ref o_w, g_kept, g_text, g_size, g_above, g_below, g_bads, g_noes, g_fulls, g_at, g_from, g_token, g_value, g_readFault, .ref o_yet, .ref o_fars, g_tells])), (o_w, .inl (y 0, 1960, .inl f_w)), (o_yet, .inl (y 0, 896, .inl f_yet)), (o_fars, .inl (y 0, 49, .inl f_fars))] H locs → lv_has ls 9 [(0, .ref o), (2, .int p2), (3, .int p3), (4, .int s3.2.2), (5, .int s3.2.1), (6, .int s3.1), (7, .int x2), (8, .int s45)] → W p l e (zR 1 23) s m args below meth c H locs 0 0 Q (F0 m 52 ls [])) ?_ _ hlpe46 _ _ _ hH (lv_sub hl [1, 2, 3, 4, 5, 6, 7, 0] rfl)
          clear h hlpe46
          intro s45 x50 h ihe46 hee46 H locs ls hH hl
          refine lv_iload K.x K.b dX8_kth_52 (lv_at hl 3 rfl) ?_
          refine lv_iload K.x K.b dX8_kth_54 (lv_at hl 7 rfl) ?_
          obtain ⟨r51, hr52, h⟩ := z_bd_e h
          refine z_Si K hH hl.1 (c_X8_has l D y s3.2.2 s45 r51 hr52) (z_cwS K 2 tw_5_124 tw_5_125 tw_1_8 tw_5_126 hd_X8_has ⟨by decide, by decide⟩) rfl (As := [.int s3.2.2, .int s45]) (rest := []) rfl (Nat.le_of_ble_eq_true rfl) ⟨Nat.zero_le _, Nat.zero_le _⟩ dX8_kth_56 (fun H locs hH => ?_)
          refine lv_if_ne (tgt := 88) K.x K.b dX8_kth_59 (by decide) (fun c53 => ?_) (fun c53 => ?_)
          · replace h := z_f c53 h
            obtain ⟨x54, ex54, h⟩ := z_lt_e h
            refine lv_iinc (v := x54) (lv' := [(8, .int x54), (0, .ref o), (2, .int p2), (3, .int p3), (4, .int s3.2.2), (5, .int s3.2.1), (6, .int s3.1), (7, .int x2)]) K.x K.b dX8_kth_88 hl (k := 7) rfl (by rw [ex54]; rfl) (by decide) rfl (fun ls hl => ?_)
            refine lv_goto (tgt := 52) K.x K.b dX8_kth_91 (by decide) ?_
            exact ihe46 _ (Option.some.inj h).symm _ _ _ hH (lv_sub hl [1, 2, 3, 4, 5, 6, 7, 0] rfl)
          · replace h := z_t c53 h
            refine lv_aload_n K.x K.b dX8_kth_62 rfl (lv_at hl 0 rfl) ?_
            refine lv_iload K.x K.b dX8_kth_63 (lv_at hl 3 rfl) ?_
            refine lv_iload K.x K.b dX8_kth_65 (lv_at hl 4 rfl) ?_
            refine lv_iload K.x K.b dX8_kth_67 (lv_at hl 7 rfl) ?_
            obtain ⟨r55, hr56, h⟩ := z_bd_e h
            refine z_Vi K hH hl.1 (c_X8_partTo l D y o o_yet o_fars (.ref o_w) (g_kept) (g_text) (g_size) (g_above) (g_below) (g_bads) (g_noes) (g_fulls) (g_at) (g_from) (g_token) (g_value) (g_readFault) (g_tells) f_yet f_fars s3.2.2 s3.2.1 s45 r55 hr56) (z_cwV K 3 tw_5_132 tw_5_134 tw_0_73 tw_1_8 tw_5_135 hd_X8_partTo ⟨by decide, by decide⟩) [0, 2, 3] [1] rfl (wr := [(o_w, .inl (y 0, 1960, .inl f_w))]) rfl rfl rfl (by decide) rfl rfl rfl (As := [.int s3.2.2, .int s3.2.1, .int s45]) (rest := []) rfl (Nat.le_of_ble_eq_true rfl) ⟨Nat.zero_le _, Nat.zero_le _⟩ dX8_kth_69 (ws' := [(o_w, .inl (y 0, 1960, .inl f_w)), (o, .inr (7, [.ref o_w, g_kept, g_text, g_size, g_above, g_below, g_bads, g_noes, g_fulls, g_at, g_from, g_token, g_value, g_readFault, .ref o_yet, .ref o_fars, g_tells])), (o_yet, .inl (y 0, 896, .inl f_yet)), (o_fars, .inl (y 0, 49, .inl f_fars))]) rfl (fun H locs hH => ?_)
            refine lv_aload_n K.x K.b dX8_kth_72 rfl (lv_at hl 0 rfl) ?_
            refine z_get K hH 1 rfl zin_8 rfl 14 (by decide) tw_4_110 (v := .ref o_yet) rfl dX8_kth_73 ?_
            refine lv_bipush (v := (7)) K.x K.b dX8_kth_76 (by decide) ?_
            refine lv_iload K.x K.b dX8_kth_78 (lv_at hl 3 rfl) ?_
            refine lv_imul K.x K.b dX8_kth_80 ?_
            refine lv_iload K.x K.b dX8_kth_81 (lv_at hl 4 rfl) ?_
            refine lv_iadd K.x K.b dX8_kth_83 ?_
            obtain ⟨x57, ex57, h⟩ := z_lt_e h
            refine z_nm ex57 ?_
            obtain ⟨g58, h⟩ := z_gd_e h
            refine z_iald K hH 2 (k := x57.toNatClampNeg) rfl g58 rfl dX8_kth_84 ?_
            refine lv_icmp_eq (tgt := 94) K.x K.b dX8_kth_85 (by decide) (fun c59 => ?_) (fun c59 => ?_)
            · replace h := z_t c59 h
              obtain rfl := hee46 _ (Option.some.inj h).symm
              exact KEe46 _ _ _ (hH.sub [1, 0, 2, 3] (by decide) rfl) (lv_sub hl [0, 1, 2, 3, 5, 6, 7] rfl)
            · replace h := z_f c59 h
              obtain ⟨x60, ex60, h⟩ := z_lt_e h
              refine lv_iinc (v := x60) (lv' := [(8, .int x60), (0, .ref o), (2, .int p2), (3, .int p3), (4, .int s3.2.2), (5, .int s3.2.1), (6, .int s3.1), (7, .int x2)]) K.x K.b dX8_kth_88 hl (k := 7) rfl (by rw [ex60]; rfl) (by decide) rfl (fun ls hl => ?_)
              refine lv_goto (tgt := 52) K.x K.b dX8_kth_91 (by decide) ?_
              exact ihe46 _ (Option.some.inj h).symm _ _ _ (hH.sub [1, 0, 2, 3] (by decide) rfl) (lv_sub hl [1, 2, 3, 4, 5, 6, 7, 0] rfl)
noncomputable def p_X8_way (v_bads : Int32) (f_w : (Nat → Int32)) (f_yet : (Nat → Int32)) (f_fars : (Nat → Int32)) (p1 : Int32) (p2 : Int32) (p3 : Int32) (p4 : Int32) : Option (Int32 × Int32 × (Nat → Int32) × (Nat → Int32)) :=
  z_bd (p_X8_isCrow f_w p1) fun r1 =>
  if (r1 = 0) then
  (z_bd (p_X8_badTen v_bads) fun r4 =>
  some (r4.1, r4.2, f_yet, f_fars)) else
  (z_bd (p_X8_isPlace f_w p2) fun r6 =>
  if (r6 = 0) then
  (z_bd (p_X8_badTen v_bads) fun r9 =>
  some (r9.1, r9.2, f_yet, f_fars)) else
  (z_bd (p_X8_isPlace f_w p3) fun r11 =>
  if (r11 = 0) then
  (z_bd (p_X8_badTen v_bads) fun r14 =>
  some (r14.1, r14.2, f_yet, f_fars)) else
  (if ((-1 : Int32) ≤ p4) then
  (z_bd (p_X8_layFars f_w f_fars p1) fun r17 =>
  z_bd (p_X8_layYet f_w f_yet r17 p3) fun r19 =>
  z_bd (α := Int32) (if (p4 = (-1 : Int32)) then
  (z_lt ((((7 : Int32) * ((1 : Int32) <<< (p2 &&& 31))) + p2)) fun x25 =>
  z_gd (z_in x25 896) <|
  some ((r19 x25.toNatClampNeg) / (16 : Int32))) else
  (z_bd (p_X8_kth f_w r19 r17 p2 p3 p4) fun r23 =>
  some r23)) fun j21 =>
  some (j21, v_bads, r19, r17)) else
  (z_bd (p_X8_badTen v_bads) fun r27 =>
  some (r27.1, r27.2, f_yet, f_fars)))))
theorem hd_X8_way : yX8_way.cls = RX8 ∧ yX8_way.cls ≠ "java/lang/invoke/MethodHandle" ∧ yX8_way.cls ≠ "java/lang/invoke/VarHandle" ∧ (parseMethodDescriptor yX8_way.desc).map (fun d => d.parameters.length) = some 4 := by decide +kernel
set_option maxHeartbeats 4000000 in
set_option maxRecDepth 100000 in
theorem c_X8_way (l : Launch) (D : va_G) (y : Nat → ClassId) (o o_w o_yet o_fars : Nat) (g_kept g_text g_size g_above g_below g_noes g_fulls g_at g_from g_token g_value g_readFault g_tells : Value) (v_bads : Int32) (f_w : (Nat → Int32)) (f_yet : (Nat → Int32)) (f_fars : (Nat → Int32)) (p1 : Int32) (p2 : Int32) (p3 : Int32) (p4 : Int32) (r : Int32 × Int32 × (Nat → Int32) × (Nat → Int32)) (h : p_X8_way v_bads f_w f_yet f_fars p1 p2 p3 p4 = some r) : z_MI l yX8_way cX8_way 5 (some .int) 6 144 D y [.ref o, .int p1, .int p2, .int p3, .int p4] [(o, .inr (7, [.ref o_w, g_kept, g_text, g_size, g_above, g_below, .int v_bads, g_noes, g_fulls, g_at, g_from, g_token, g_value, g_readFault, .ref o_yet, .ref o_fars, g_tells])), (o_w, .inl (y 0, 1960, .inl f_w)), (o_yet, .inl (y 0, 896, .inl f_yet)), (o_fars, .inl (y 0, 49, .inl f_fars))] r.1 [(o, .inr (7, [.ref o_w, g_kept, g_text, g_size, g_above, g_below, .int r.2.1, g_noes, g_fulls, g_at, g_from, g_token, g_value, g_readFault, .ref o_yet, .ref o_fars, g_tells])), (o_w, .inl (y 0, 1960, .inl f_w)), (o_yet, .inl (y 0, 896, .inl r.2.2.1)), (o_fars, .inl (y 0, 49, .inl r.2.2.2))] := by
  unfold p_X8_way at h
  refine z_enI (by decide) (Nat.le_of_ble_eq_true rfl) ?_
  intro p e s m args below meth c A ls hr K hH hl
  obtain ⟨Q, hQ⟩ : ∃ Q, Q = MQ below (z_Qi D y A r.1 [(o, .inr (7, [.ref o_w, g_kept, g_text, g_size, g_above, g_below, .int r.2.1, g_noes, g_fulls, g_at, g_from, g_token, g_value, g_readFault, .ref o_yet, .ref o_fars, g_tells])), (o_w, .inl (y 0, 1960, .inl f_w)), (o_yet, .inl (y 0, 896, .inl r.2.2.1)), (o_fars, .inl (y 0, 49, .inl r.2.2.2))]) args s 0 0 A := ⟨_, rfl⟩
  rw [← hQ]
  have hl : lv_has ls 5 [(0, .ref o), (1, .int p1), (2, .int p2), (3, .int p3), (4, .int p4)] := hl
  refine lv_aload_n K.x K.b dX8_way_0 rfl (lv_at hl 0 rfl) ?_
  refine lv_iload_n K.x K.b dX8_way_1 rfl (lv_at hl 1 rfl) ?_
  obtain ⟨r1, hr2, h⟩ := z_bd_e h
  refine z_Vi K hH hl.1 (c_X8_isCrow l D y o o_w (g_kept) (g_text) (g_size) (g_above) (g_below) (.int v_bads) (g_noes) (g_fulls) (g_at) (g_from) (g_token) (g_value) (g_readFault) (.ref o_yet) (.ref o_fars) (g_tells) f_w p1 r1 hr2) (z_cwV K 1 tw_5_64 tw_5_66 tw_0_65 tw_1_8 tw_5_67 hd_X8_isCrow ⟨by decide, by decide⟩) [0, 1] [2, 3] rfl (wr := [(o_yet, .inl (y 0, 896, .inl f_yet)), (o_fars, .inl (y 0, 49, .inl f_fars))]) rfl rfl rfl (by decide) rfl rfl rfl (As := [.int p1]) (rest := []) rfl (Nat.le_of_ble_eq_true rfl) ⟨Nat.zero_le _, Nat.zero_le _⟩ dX8_way_2 (ws' := [(o_yet, .inl (y 0, 896, .inl f_yet)), (o_fars, .inl (y 0, 49, .inl f_fars)), (o, .inr (7, [.ref o_w, g_kept, g_text, g_size, g_above, g_below, .int v_bads, g_noes, g_fulls, g_at, g_from, g_token, g_value, g_readFault, .ref o_yet, .ref o_fars, g_tells])), (o_w, .inl (y 0, 1960, .inl f_w))]) rfl (fun H locs hH => ?_)
  refine lv_if_eq (tgt := 30) K.x K.b dX8_way_5 (by decide) (fun c3 => ?_) (fun c3 => ?_)
  · replace h := z_t c3 h
    refine lv_aload_n K.x K.b dX8_way_30 rfl (lv_at hl 0 rfl) ?_
    obtain ⟨r4, hr5, h⟩ := z_bd_e h
    refine z_Vi K hH hl.1 (c_X8_badTen l D y o (.ref o_w) (g_kept) (g_text) (g_size) (g_above) (g_below) (g_noes) (g_fulls) (g_at) (g_from) (g_token) (g_value) (g_readFault) (.ref o_yet) (.ref o_fars) (g_tells) v_bads r4 hr5) (z_cwV K 0 tw_5_112 tw_5_114 tw_0_69 tw_1_8 tw_5_115 hd_X8_badTen ⟨by decide, by decide⟩) [2] [0, 1, 3] rfl (wr := [(o_yet, .inl (y 0, 896, .inl f_yet)), (o_fars, .inl (y 0, 49, .inl f_fars)), (o_w, .inl (y 0, 1960, .inl f_w))]) rfl rfl rfl (by decide) rfl rfl rfl (As := []) (rest := []) rfl (Nat.le_of_ble_eq_true rfl) ⟨Nat.zero_le _, Nat.zero_le _⟩ dX8_way_31 (ws' := [(o_yet, .inl (y 0, 896, .inl f_yet)), (o_fars, .inl (y 0, 49, .inl f_fars)), (o_w, .inl (y 0, 1960, .inl f_w)), (o, .inr (7, [.ref o_w, g_kept, g_text, g_size, g_above, g_below, .int r4.2, g_noes, g_fulls, g_at, g_from, g_token, g_value, g_readFault, .ref o_yet, .ref o_fars, g_tells]))]) rfl (fun H locs hH => ?_)
    have hr9 := Option.some.inj h
    obtain rfl := hr9
    rw [hQ]
    exact z_reti K hr hH [3, 2, 0, 1] (by decide) rfl rfl rfl dX8_way_34
  · replace h := z_f c3 h
    refine lv_aload_n K.x K.b dX8_way_8 rfl (lv_at hl 0 rfl) ?_
    refine lv_iload_n K.x K.b dX8_way_9 rfl (lv_at hl 2 rfl) ?_
    obtain ⟨r6, hr7, h⟩ := z_bd_e h
    refine z_Vi K hH hl.1 (c_X8_isPlace l D y o o_w (g_kept) (g_text) (g_size) (g_above) (g_below) (.int v_bads) (g_noes) (g_fulls) (g_at) (g_from) (g_token) (g_value) (g_readFault) (.ref o_yet) (.ref o_fars) (g_tells) f_w p2 r6 hr7) (z_cwV K 1 tw_4_179 tw_4_181 tw_0_40 tw_1_8 tw_4_182 hd_X8_isPlace ⟨by decide, by decide⟩) [2, 3] [0, 1] rfl (wr := [(o_yet, .inl (y 0, 896, .inl f_yet)), (o_fars, .inl (y 0, 49, .inl f_fars))]) rfl rfl rfl (by decide) rfl rfl rfl (As := [.int p2]) (rest := []) rfl (Nat.le_of_ble_eq_true rfl) ⟨Nat.zero_le _, Nat.zero_le _⟩ dX8_way_10 (ws' := [(o_yet, .inl (y 0, 896, .inl f_yet)), (o_fars, .inl (y 0, 49, .inl f_fars)), (o, .inr (7, [.ref o_w, g_kept, g_text, g_size, g_above, g_below, .int v_bads, g_noes, g_fulls, g_at, g_from, g_token, g_value, g_readFault, .ref o_yet, .ref o_fars, g_tells])), (o_w, .inl (y 0, 1960, .inl f_w))]) rfl (fun H locs hH => ?_)
    refine lv_if_eq (tgt := 30) K.x K.b dX8_way_13 (by decide) (fun c8 => ?_) (fun c8 => ?_)
    · replace h := z_t c8 h
      refine lv_aload_n K.x K.b dX8_way_30 rfl (lv_at hl 0 rfl) ?_
      obtain ⟨r9, hr10, h⟩ := z_bd_e h
      refine z_Vi K hH hl.1 (c_X8_badTen l D y o (.ref o_w) (g_kept) (g_text) (g_size) (g_above) (g_below) (g_noes) (g_fulls) (g_at) (g_from) (g_token) (g_value) (g_readFault) (.ref o_yet) (.ref o_fars) (g_tells) v_bads r9 hr10) (z_cwV K 0 tw_5_112 tw_5_114 tw_0_69 tw_1_8 tw_5_115 hd_X8_badTen ⟨by decide, by decide⟩) [2] [0, 1, 3] rfl (wr := [(o_yet, .inl (y 0, 896, .inl f_yet)), (o_fars, .inl (y 0, 49, .inl f_fars)), (o_w, .inl (y 0, 1960, .inl f_w))]) rfl rfl rfl (by decide) rfl rfl rfl (As := []) (rest := []) rfl (Nat.le_of_ble_eq_true rfl) ⟨Nat.zero_le _, Nat.zero_le _⟩ dX8_way_31 (ws' := [(o_yet, .inl (y 0, 896, .inl f_yet)), (o_fars, .inl (y 0, 49, .inl f_fars)), (o_w, .inl (y 0, 1960, .inl f_w)), (o, .inr (7, [.ref o_w, g_kept, g_text, g_size, g_above, g_below, .int r9.2, g_noes, g_fulls, g_at, g_from, g_token, g_value, g_readFault, .ref o_yet, .ref o_fars, g_tells]))]) rfl (fun H locs hH => ?_)
      have hr9 := Option.some.inj h
      obtain rfl := hr9
      rw [hQ]
      exact z_reti K hr hH [3, 2, 0, 1] (by decide) rfl rfl rfl dX8_way_34
    · replace h := z_f c8 h
      refine lv_aload_n K.x K.b dX8_way_16 rfl (lv_at hl 0 rfl) ?_
      refine lv_iload_n K.x K.b dX8_way_17 rfl (lv_at hl 3 rfl) ?_
      obtain ⟨r11, hr12, h⟩ := z_bd_e h
      refine z_Vi K hH hl.1 (c_X8_isPlace l D y o o_w (g_kept) (g_text) (g_size) (g_above) (g_below) (.int v_bads) (g_noes) (g_fulls) (g_at) (g_from) (g_token) (g_value) (g_readFault) (.ref o_yet) (.ref o_fars) (g_tells) f_w p3 r11 hr12) (z_cwV K 1 tw_4_179 tw_4_181 tw_0_40 tw_1_8 tw_4_182 hd_X8_isPlace ⟨by decide, by decide⟩) [2, 3] [0, 1] rfl (wr := [(o_yet, .inl (y 0, 896, .inl f_yet)), (o_fars, .inl (y 0, 49, .inl f_fars))]) rfl rfl rfl (by decide) rfl rfl rfl (As := [.int p3]) (rest := []) rfl (Nat.le_of_ble_eq_true rfl) ⟨Nat.zero_le _, Nat.zero_le _⟩ dX8_way_18 (ws' := [(o_yet, .inl (y 0, 896, .inl f_yet)), (o_fars, .inl (y 0, 49, .inl f_fars)), (o, .inr (7, [.ref o_w, g_kept, g_text, g_size, g_above, g_below, .int v_bads, g_noes, g_fulls, g_at, g_from, g_token, g_value, g_readFault, .ref o_yet, .ref o_fars, g_tells])), (o_w, .inl (y 0, 1960, .inl f_w))]) rfl (fun H locs hH => ?_)
      refine lv_if_eq (tgt := 30) K.x K.b dX8_way_21 (by decide) (fun c13 => ?_) (fun c13 => ?_)
      · replace h := z_t c13 h
        refine lv_aload_n K.x K.b dX8_way_30 rfl (lv_at hl 0 rfl) ?_
        obtain ⟨r14, hr15, h⟩ := z_bd_e h
        refine z_Vi K hH hl.1 (c_X8_badTen l D y o (.ref o_w) (g_kept) (g_text) (g_size) (g_above) (g_below) (g_noes) (g_fulls) (g_at) (g_from) (g_token) (g_value) (g_readFault) (.ref o_yet) (.ref o_fars) (g_tells) v_bads r14 hr15) (z_cwV K 0 tw_5_112 tw_5_114 tw_0_69 tw_1_8 tw_5_115 hd_X8_badTen ⟨by decide, by decide⟩) [2] [0, 1, 3] rfl (wr := [(o_yet, .inl (y 0, 896, .inl f_yet)), (o_fars, .inl (y 0, 49, .inl f_fars)), (o_w, .inl (y 0, 1960, .inl f_w))]) rfl rfl rfl (by decide) rfl rfl rfl (As := []) (rest := []) rfl (Nat.le_of_ble_eq_true rfl) ⟨Nat.zero_le _, Nat.zero_le _⟩ dX8_way_31 (ws' := [(o_yet, .inl (y 0, 896, .inl f_yet)), (o_fars, .inl (y 0, 49, .inl f_fars)), (o_w, .inl (y 0, 1960, .inl f_w)), (o, .inr (7, [.ref o_w, g_kept, g_text, g_size, g_above, g_below, .int r14.2, g_noes, g_fulls, g_at, g_from, g_token, g_value, g_readFault, .ref o_yet, .ref o_fars, g_tells]))]) rfl (fun H locs hH => ?_)
        have hr9 := Option.some.inj h
        obtain rfl := hr9
        rw [hQ]
        exact z_reti K hr hH [3, 2, 0, 1] (by decide) rfl rfl rfl dX8_way_34
      · replace h := z_f c13 h
        refine lv_iload K.x K.b dX8_way_24 (lv_at hl 4 rfl) ?_
        refine lv_iconst (v := (-1)) K.x K.b dX8_way_26 (by decide) ?_
        refine lv_icmp_ge (tgt := 35) K.x K.b dX8_way_27 (by decide) (fun c16 => ?_) (fun c16 => ?_)
        · replace h := z_t c16 h
          refine lv_aload_n K.x K.b dX8_way_35 rfl (lv_at hl 0 rfl) ?_
          refine lv_iload_n K.x K.b dX8_way_36 rfl (lv_at hl 1 rfl) ?_
          obtain ⟨r17, hr18, h⟩ := z_bd_e h
          refine z_Vv K hH hl.1 (c_X8_layFars l D y o o_w o_fars (g_kept) (g_text) (g_size) (g_above) (g_below) (.int v_bads) (g_noes) (g_fulls) (g_at) (g_from) (g_token) (g_value) (g_readFault) (.ref o_yet) (g_tells) f_w f_fars p1 r17 hr18) (z_cwV K 1 tw_5_116 tw_5_118 tw_0_70 tw_1_8 tw_5_119 hd_X8_layFars ⟨by decide, by decide⟩) [2, 3, 1] [0] rfl (wr := [(o_yet, .inl (y 0, 896, .inl f_yet))]) rfl rfl rfl (by decide) rfl rfl rfl (As := [.int p1]) (rest := []) rfl (Nat.le_of_ble_eq_true rfl) ⟨Nat.zero_le _, Nat.zero_le _⟩ dX8_way_37 (ws' := [(o_yet, .inl (y 0, 896, .inl f_yet)), (o, .inr (7, [.ref o_w, g_kept, g_text, g_size, g_above, g_below, .int v_bads, g_noes, g_fulls, g_at, g_from, g_token, g_value, g_readFault, .ref o_yet, .ref o_fars, g_tells])), (o_w, .inl (y 0, 1960, .inl f_w)), (o_fars, .inl (y 0, 49, .inl r17))]) rfl (fun H locs hH => ?_)
          refine lv_aload_n K.x K.b dX8_way_40 rfl (lv_at hl 0 rfl) ?_
          refine lv_iload_n K.x K.b dX8_way_41 rfl (lv_at hl 3 rfl) ?_
          obtain ⟨r19, hr20, h⟩ := z_bd_e h
          refine z_Vv K hH hl.1 (c_X8_layYet l D y o o_w o_yet o_fars (g_kept) (g_text) (g_size) (g_above) (g_below) (.int v_bads) (g_noes) (g_fulls) (g_at) (g_from) (g_token) (g_value) (g_readFault) (g_tells) f_w f_yet r17 p3 r19 hr20) (z_cwV K 1 tw_5_120 tw_5_122 tw_0_71 tw_1_8 tw_5_123 hd_X8_layYet ⟨by decide, by decide⟩) [1, 2, 0, 3] [] rfl (wr := []) rfl rfl rfl (by decide) rfl rfl rfl (As := [.int p3]) (rest := []) rfl (Nat.le_of_ble_eq_true rfl) ⟨Nat.zero_le _, Nat.zero_le _⟩ dX8_way_42 (ws' := [(o, .inr (7, [.ref o_w, g_kept, g_text, g_size, g_above, g_below, .int v_bads, g_noes, g_fulls, g_at, g_from, g_token, g_value, g_readFault, .ref o_yet, .ref o_fars, g_tells])), (o_w, .inl (y 0, 1960, .inl f_w)), (o_yet, .inl (y 0, 896, .inl r19)), (o_fars, .inl (y 0, 49, .inl r17))]) rfl (fun H locs hH => ?_)
          refine lv_iload K.x K.b dX8_way_45 (lv_at hl 4 rfl) ?_
          refine lv_iconst (v := (-1)) K.x K.b dX8_way_47 (by decide) ?_
          obtain ⟨j21, hj21, h⟩ := z_bd_e h
          have Kj21 : ∀ (H : Heap) (locs : List Loc) (ls : Array Slot), z_H D A s.heap [(o, .inr (7, [.ref o_w, g_kept, g_text, g_size, g_above, g_below, .int v_bads, g_noes, g_fulls, g_at, g_from, g_token, g_value, g_readFault, .ref o_yet, .ref o_fars, g_tells])), (o_w, .inl (y 0, 1960, .inl f_w)), (o_yet, .inl (y 0, 896, .inl r19)), (o_fars, .inl (y 0, 49, .inl r17))] H locs → lv_has ls 5 [] → W p l e (zR 6 144) s m args below meth c H locs 0 0 Q (F0 m 78 ls [.int j21]) := by
            intro H locs ls hH hl
            have hr9 := Option.some.inj h
            obtain rfl := hr9
            rw [hQ]
            exact z_reti K hr hH [0, 1, 2, 3] (by decide) rfl rfl rfl dX8_way_78
          replace h := hj21
          refine lv_icmp_ne (tgt := 70) K.x K.b dX8_way_48 (by decide) (fun c22 => ?_) (fun c22 => ?_)
          · replace h := z_f c22 h
            refine lv_aload_n K.x K.b dX8_way_70 rfl (lv_at hl 0 rfl) ?_
            refine lv_iload_n K.x K.b dX8_way_71 rfl (lv_at hl 2 rfl) ?_
            refine lv_iload_n K.x K.b dX8_way_72 rfl (lv_at hl 3 rfl) ?_
            refine lv_iload K.x K.b dX8_way_73 (lv_at hl 4 rfl) ?_
            obtain ⟨r23, hr24, h⟩ := z_bd_e h
            refine z_Vi K hH hl.1 (c_X8_kth l D y o o_w o_yet o_fars (g_kept) (g_text) (g_size) (g_above) (g_below) (.int v_bads) (g_noes) (g_fulls) (g_at) (g_from) (g_token) (g_value) (g_readFault) (g_tells) f_w r19 r17 p2 p3 p4 r23 hr24) (z_cwV K 3 tw_5_136 tw_5_138 tw_0_74 tw_1_8 tw_5_139 hd_X8_kth ⟨by decide, by decide⟩) [0, 1, 2, 3] [] rfl (wr := []) rfl rfl rfl (by decide) rfl rfl rfl (As := [.int p2, .int p3, .int p4]) (rest := []) rfl (Nat.le_of_ble_eq_true rfl) ⟨Nat.zero_le _, Nat.zero_le _⟩ dX8_way_75 (ws' := [(o, .inr (7, [.ref o_w, g_kept, g_text, g_size, g_above, g_below, .int v_bads, g_noes, g_fulls, g_at, g_from, g_token, g_value, g_readFault, .ref o_yet, .ref o_fars, g_tells])), (o_w, .inl (y 0, 1960, .inl f_w)), (o_yet, .inl (y 0, 896, .inl r19)), (o_fars, .inl (y 0, 49, .inl r17))]) rfl (fun H locs hH => ?_)
            obtain rfl := Option.some.inj h
            exact Kj21 _ _ _ hH (lv_sub hl [] rfl)
          · replace h := z_t c22 h
            refine lv_aload_n K.x K.b dX8_way_51 rfl (lv_at hl 0 rfl) ?_
            refine z_get K hH 0 rfl zin_8 rfl 14 (by decide) tw_4_110 (v := .ref o_yet) rfl dX8_way_52 ?_
            refine lv_bipush (v := (7)) K.x K.b dX8_way_55 (by decide) ?_
            refine lv_iconst (v := (1)) K.x K.b dX8_way_57 (by decide) ?_
            refine lv_iload_n K.x K.b dX8_way_58 rfl (lv_at hl 2 rfl) ?_
            refine lv_ishl K.x K.b dX8_way_59 ?_
            refine lv_imul K.x K.b dX8_way_60 ?_
            refine lv_iload_n K.x K.b dX8_way_61 rfl (lv_at hl 2 rfl) ?_
            refine lv_iadd K.x K.b dX8_way_62 ?_
            obtain ⟨x25, ex25, h⟩ := z_lt_e h
            refine z_nm ex25 ?_
            obtain ⟨g26, h⟩ := z_gd_e h
            refine z_iald K hH 2 (k := x25.toNatClampNeg) rfl g26 rfl dX8_way_63 ?_
            refine lv_bipush (v := (16)) K.x K.b dX8_way_64 (by decide) ?_
            refine lv_idiv K.x K.b dX8_way_66 (by decide) ?_
            refine lv_goto (tgt := 78) K.x K.b dX8_way_67 (by decide) ?_
            obtain rfl := Option.some.inj h
            exact Kj21 _ _ _ hH (lv_sub hl [] rfl)
        · replace h := z_f c16 h
          refine lv_aload_n K.x K.b dX8_way_30 rfl (lv_at hl 0 rfl) ?_
          obtain ⟨r27, hr28, h⟩ := z_bd_e h
          refine z_Vi K hH hl.1 (c_X8_badTen l D y o (.ref o_w) (g_kept) (g_text) (g_size) (g_above) (g_below) (g_noes) (g_fulls) (g_at) (g_from) (g_token) (g_value) (g_readFault) (.ref o_yet) (.ref o_fars) (g_tells) v_bads r27 hr28) (z_cwV K 0 tw_5_112 tw_5_114 tw_0_69 tw_1_8 tw_5_115 hd_X8_badTen ⟨by decide, by decide⟩) [2] [0, 1, 3] rfl (wr := [(o_yet, .inl (y 0, 896, .inl f_yet)), (o_fars, .inl (y 0, 49, .inl f_fars)), (o_w, .inl (y 0, 1960, .inl f_w))]) rfl rfl rfl (by decide) rfl rfl rfl (As := []) (rest := []) rfl (Nat.le_of_ble_eq_true rfl) ⟨Nat.zero_le _, Nat.zero_le _⟩ dX8_way_31 (ws' := [(o_yet, .inl (y 0, 896, .inl f_yet)), (o_fars, .inl (y 0, 49, .inl f_fars)), (o_w, .inl (y 0, 1960, .inl f_w)), (o, .inr (7, [.ref o_w, g_kept, g_text, g_size, g_above, g_below, .int r27.2, g_noes, g_fulls, g_at, g_from, g_token, g_value, g_readFault, .ref o_yet, .ref o_fars, g_tells]))]) rfl (fun H locs hH => ?_)
          have hr9 := Option.some.inj h
          obtain rfl := hr9
          rw [hQ]
          exact z_reti K hr hH [3, 2, 0, 1] (by decide) rfl rfl rfl dX8_way_34
noncomputable def p_X8_round (v_bads : Int32) (f_w : (Nat → Int32)) (f_yet : (Nat → Int32)) (f_fars : (Nat → Int32)) (p1 : Int32) (p2 : Int32) : Option (Int32 × Int32 × (Nat → Int32) × (Nat → Int32)) :=
  z_bd (p_X8_isCrow f_w p1) fun r1 =>
  if (r1 = 0) then
  (z_bd (p_X8_badTen v_bads) fun r4 =>
  some (r4.1, r4.2, f_yet, f_fars)) else
  (if ((f_w 418) = 0) then
  (z_bd (p_X8_badTen v_bads) fun r7 =>
  some (r7.1, r7.2, f_yet, f_fars)) else
  (if ((-1 : Int32) ≤ p2) then
  (z_bd (p_X8_layFars f_w f_fars p1) fun r10 =>
  z_bd (p_X8_layYet f_w f_yet r10 (-1 : Int32)) fun r12 =>
  z_bd (α := Int32) (if (p2 = (-1 : Int32)) then
  (some ((r12 7) / (16 : Int32))) else
  (z_bd (p_X8_kth f_w r12 r10 (0 : Int32) (-1 : Int32) p2) fun r16 =>
  some r16)) fun j14 =>
  some (j14, v_bads, r12, r10)) else
  (z_bd (p_X8_badTen v_bads) fun r18 =>
  some (r18.1, r18.2, f_yet, f_fars))))
theorem hd_X8_round : yX8_round.cls = RX8 ∧ yX8_round.cls ≠ "java/lang/invoke/MethodHandle" ∧ yX8_round.cls ≠ "java/lang/invoke/VarHandle" ∧ (parseMethodDescriptor yX8_round.desc).map (fun d => d.parameters.length) = some 2 := by decide +kernel
set_option maxHeartbeats 4000000 in
set_option maxRecDepth 100000 in
theorem c_X8_round (l : Launch) (D : va_G) (y : Nat → ClassId) (o o_w o_yet o_fars : Nat) (g_kept g_text g_size g_above g_below g_noes g_fulls g_at g_from g_token g_value g_readFault g_tells : Value) (v_bads : Int32) (f_w : (Nat → Int32)) (f_yet : (Nat → Int32)) (f_fars : (Nat → Int32)) (p1 : Int32) (p2 : Int32) (r : Int32 × Int32 × (Nat → Int32) × (Nat → Int32)) (h : p_X8_round v_bads f_w f_yet f_fars p1 p2 = some r) : z_MI l yX8_round cX8_round 3 (some .int) 6 144 D y [.ref o, .int p1, .int p2] [(o, .inr (7, [.ref o_w, g_kept, g_text, g_size, g_above, g_below, .int v_bads, g_noes, g_fulls, g_at, g_from, g_token, g_value, g_readFault, .ref o_yet, .ref o_fars, g_tells])), (o_w, .inl (y 0, 1960, .inl f_w)), (o_yet, .inl (y 0, 896, .inl f_yet)), (o_fars, .inl (y 0, 49, .inl f_fars))] r.1 [(o, .inr (7, [.ref o_w, g_kept, g_text, g_size, g_above, g_below, .int r.2.1, g_noes, g_fulls, g_at, g_from, g_token, g_value, g_readFault, .ref o_yet, .ref o_fars, g_tells])), (o_w, .inl (y 0, 1960, .inl f_w)), (o_yet, .inl (y 0, 896, .inl r.2.2.1)), (o_fars, .inl (y 0, 49, .inl r.2.2.2))] := by
  unfold p_X8_round at h
  refine z_enI (by decide) (Nat.le_of_ble_eq_true rfl) ?_
  intro p e s m args below meth c A ls hr K hH hl
  obtain ⟨Q, hQ⟩ : ∃ Q, Q = MQ below (z_Qi D y A r.1 [(o, .inr (7, [.ref o_w, g_kept, g_text, g_size, g_above, g_below, .int r.2.1, g_noes, g_fulls, g_at, g_from, g_token, g_value, g_readFault, .ref o_yet, .ref o_fars, g_tells])), (o_w, .inl (y 0, 1960, .inl f_w)), (o_yet, .inl (y 0, 896, .inl r.2.2.1)), (o_fars, .inl (y 0, 49, .inl r.2.2.2))]) args s 0 0 A := ⟨_, rfl⟩
  rw [← hQ]
  have hl : lv_has ls 3 [(0, .ref o), (1, .int p1), (2, .int p2)] := hl
  refine lv_aload_n K.x K.b dX8_round_0 rfl (lv_at hl 0 rfl) ?_
  refine lv_iload_n K.x K.b dX8_round_1 rfl (lv_at hl 1 rfl) ?_
  obtain ⟨r1, hr2, h⟩ := z_bd_e h
  refine z_Vi K hH hl.1 (c_X8_isCrow l D y o o_w (g_kept) (g_text) (g_size) (g_above) (g_below) (.int v_bads) (g_noes) (g_fulls) (g_at) (g_from) (g_token) (g_value) (g_readFault) (.ref o_yet) (.ref o_fars) (g_tells) f_w p1 r1 hr2) (z_cwV K 1 tw_5_64 tw_5_66 tw_0_65 tw_1_8 tw_5_67 hd_X8_isCrow ⟨by decide, by decide⟩) [0, 1] [2, 3] rfl (wr := [(o_yet, .inl (y 0, 896, .inl f_yet)), (o_fars, .inl (y 0, 49, .inl f_fars))]) rfl rfl rfl (by decide) rfl rfl rfl (As := [.int p1]) (rest := []) rfl (Nat.le_of_ble_eq_true rfl) ⟨Nat.zero_le _, Nat.zero_le _⟩ dX8_round_2 (ws' := [(o_yet, .inl (y 0, 896, .inl f_yet)), (o_fars, .inl (y 0, 49, .inl f_fars)), (o, .inr (7, [.ref o_w, g_kept, g_text, g_size, g_above, g_below, .int v_bads, g_noes, g_fulls, g_at, g_from, g_token, g_value, g_readFault, .ref o_yet, .ref o_fars, g_tells])), (o_w, .inl (y 0, 1960, .inl f_w))]) rfl (fun H locs hH => ?_)
  refine lv_if_eq (tgt := 24) K.x K.b dX8_round_5 (by decide) (fun c3 => ?_) (fun c3 => ?_)
  · replace h := z_t c3 h
    refine lv_aload_n K.x K.b dX8_round_24 rfl (lv_at hl 0 rfl) ?_
    obtain ⟨r4, hr5, h⟩ := z_bd_e h
    refine z_Vi K hH hl.1 (c_X8_badTen l D y o (.ref o_w) (g_kept) (g_text) (g_size) (g_above) (g_below) (g_noes) (g_fulls) (g_at) (g_from) (g_token) (g_value) (g_readFault) (.ref o_yet) (.ref o_fars) (g_tells) v_bads r4 hr5) (z_cwV K 0 tw_5_112 tw_5_114 tw_0_69 tw_1_8 tw_5_115 hd_X8_badTen ⟨by decide, by decide⟩) [2] [0, 1, 3] rfl (wr := [(o_yet, .inl (y 0, 896, .inl f_yet)), (o_fars, .inl (y 0, 49, .inl f_fars)), (o_w, .inl (y 0, 1960, .inl f_w))]) rfl rfl rfl (by decide) rfl rfl rfl (As := []) (rest := []) rfl (Nat.le_of_ble_eq_true rfl) ⟨Nat.zero_le _, Nat.zero_le _⟩ dX8_round_25 (ws' := [(o_yet, .inl (y 0, 896, .inl f_yet)), (o_fars, .inl (y 0, 49, .inl f_fars)), (o_w, .inl (y 0, 1960, .inl f_w)), (o, .inr (7, [.ref o_w, g_kept, g_text, g_size, g_above, g_below, .int r4.2, g_noes, g_fulls, g_at, g_from, g_token, g_value, g_readFault, .ref o_yet, .ref o_fars, g_tells]))]) rfl (fun H locs hH => ?_)
    have hr9 := Option.some.inj h
    obtain rfl := hr9
    rw [hQ]
    exact z_reti K hr hH [3, 2, 0, 1] (by decide) rfl rfl rfl dX8_round_28
  · replace h := z_f c3 h
    refine lv_aload_n K.x K.b dX8_round_8 rfl (lv_at hl 0 rfl) ?_
    refine z_get K hH 2 rfl zin_8 rfl 0 (by decide) tw_4_96 (v := .ref o_w) rfl dX8_round_9 ?_
    refine lv_sipush (v := (418)) K.x K.b dX8_round_12 (by decide) ?_
    refine z_iald K hH 3 (k := 418) rfl (by decide) rfl dX8_round_15 ?_
    refine lv_if_eq (tgt := 24) K.x K.b dX8_round_16 (by decide) (fun c6 => ?_) (fun c6 => ?_)
    · replace h := z_t c6 h
      refine lv_aload_n K.x K.b dX8_round_24 rfl (lv_at hl 0 rfl) ?_
      obtain ⟨r7, hr8, h⟩ := z_bd_e h
      refine z_Vi K hH hl.1 (c_X8_badTen l D y o (.ref o_w) (g_kept) (g_text) (g_size) (g_above) (g_below) (g_noes) (g_fulls) (g_at) (g_from) (g_token) (g_value) (g_readFault) (.ref o_yet) (.ref o_fars) (g_tells) v_bads r7 hr8) (z_cwV K 0 tw_5_112 tw_5_114 tw_0_69 tw_1_8 tw_5_115 hd_X8_badTen ⟨by decide, by decide⟩) [2] [0, 1, 3] rfl (wr := [(o_yet, .inl (y 0, 896, .inl f_yet)), (o_fars, .inl (y 0, 49, .inl f_fars)), (o_w, .inl (y 0, 1960, .inl f_w))]) rfl rfl rfl (by decide) rfl rfl rfl (As := []) (rest := []) rfl (Nat.le_of_ble_eq_true rfl) ⟨Nat.zero_le _, Nat.zero_le _⟩ dX8_round_25 (ws' := [(o_yet, .inl (y 0, 896, .inl f_yet)), (o_fars, .inl (y 0, 49, .inl f_fars)), (o_w, .inl (y 0, 1960, .inl f_w)), (o, .inr (7, [.ref o_w, g_kept, g_text, g_size, g_above, g_below, .int r7.2, g_noes, g_fulls, g_at, g_from, g_token, g_value, g_readFault, .ref o_yet, .ref o_fars, g_tells]))]) rfl (fun H locs hH => ?_)
      have hr9 := Option.some.inj h
      obtain rfl := hr9
      rw [hQ]
      exact z_reti K hr hH [3, 2, 0, 1] (by decide) rfl rfl rfl dX8_round_28
    · replace h := z_f c6 h
      refine lv_iload_n K.x K.b dX8_round_19 rfl (lv_at hl 2 rfl) ?_
      refine lv_iconst (v := (-1)) K.x K.b dX8_round_20 (by decide) ?_
      refine lv_icmp_ge (tgt := 29) K.x K.b dX8_round_21 (by decide) (fun c9 => ?_) (fun c9 => ?_)
      · replace h := z_t c9 h
        refine lv_aload_n K.x K.b dX8_round_29 rfl (lv_at hl 0 rfl) ?_
        refine lv_iload_n K.x K.b dX8_round_30 rfl (lv_at hl 1 rfl) ?_
        obtain ⟨r10, hr11, h⟩ := z_bd_e h
        refine z_Vv K hH hl.1 (c_X8_layFars l D y o o_w o_fars (g_kept) (g_text) (g_size) (g_above) (g_below) (.int v_bads) (g_noes) (g_fulls) (g_at) (g_from) (g_token) (g_value) (g_readFault) (.ref o_yet) (g_tells) f_w f_fars p1 r10 hr11) (z_cwV K 1 tw_5_116 tw_5_118 tw_0_70 tw_1_8 tw_5_119 hd_X8_layFars ⟨by decide, by decide⟩) [2, 3, 1] [0] rfl (wr := [(o_yet, .inl (y 0, 896, .inl f_yet))]) rfl rfl rfl (by decide) rfl rfl rfl (As := [.int p1]) (rest := []) rfl (Nat.le_of_ble_eq_true rfl) ⟨Nat.zero_le _, Nat.zero_le _⟩ dX8_round_31 (ws' := [(o_yet, .inl (y 0, 896, .inl f_yet)), (o, .inr (7, [.ref o_w, g_kept, g_text, g_size, g_above, g_below, .int v_bads, g_noes, g_fulls, g_at, g_from, g_token, g_value, g_readFault, .ref o_yet, .ref o_fars, g_tells])), (o_w, .inl (y 0, 1960, .inl f_w)), (o_fars, .inl (y 0, 49, .inl r10))]) rfl (fun H locs hH => ?_)
        refine lv_aload_n K.x K.b dX8_round_34 rfl (lv_at hl 0 rfl) ?_
        refine lv_iconst (v := (-1)) K.x K.b dX8_round_35 (by decide) ?_
        obtain ⟨r12, hr13, h⟩ := z_bd_e h
        refine z_Vv K hH hl.1 (c_X8_layYet l D y o o_w o_yet o_fars (g_kept) (g_text) (g_size) (g_above) (g_below) (.int v_bads) (g_noes) (g_fulls) (g_at) (g_from) (g_token) (g_value) (g_readFault) (g_tells) f_w f_yet r10 (-1 : Int32) r12 hr13) (z_cwV K 1 tw_5_120 tw_5_122 tw_0_71 tw_1_8 tw_5_123 hd_X8_layYet ⟨by decide, by decide⟩) [1, 2, 0, 3] [] rfl (wr := []) rfl rfl rfl (by decide) rfl rfl rfl (As := [.int (-1 : Int32)]) (rest := []) rfl (Nat.le_of_ble_eq_true rfl) ⟨Nat.zero_le _, Nat.zero_le _⟩ dX8_round_36 (ws' := [(o, .inr (7, [.ref o_w, g_kept, g_text, g_size, g_above, g_below, .int v_bads, g_noes, g_fulls, g_at, g_from, g_token, g_value, g_readFault, .ref o_yet, .ref o_fars, g_tells])), (o_w, .inl (y 0, 1960, .inl f_w)), (o_yet, .inl (y 0, 896, .inl r12)), (o_fars, .inl (y 0, 49, .inl r10))]) rfl (fun H locs hH => ?_)
        refine lv_iload_n K.x K.b dX8_round_39 rfl (lv_at hl 2 rfl) ?_
        refine lv_iconst (v := (-1)) K.x K.b dX8_round_40 (by decide) ?_
        obtain ⟨j14, hj14, h⟩ := z_bd_e h
        have Kj14 : ∀ (H : Heap) (locs : List Loc) (ls : Array Slot), z_H D A s.heap [(o, .inr (7, [.ref o_w, g_kept, g_text, g_size, g_above, g_below, .int v_bads, g_noes, g_fulls, g_at, g_from, g_token, g_value, g_readFault, .ref o_yet, .ref o_fars, g_tells])), (o_w, .inl (y 0, 1960, .inl f_w)), (o_yet, .inl (y 0, 896, .inl r12)), (o_fars, .inl (y 0, 49, .inl r10))] H locs → lv_has ls 3 [] → W p l e (zR 6 144) s m args below meth c H locs 0 0 Q (F0 m 64 ls [.int j14]) := by
          intro H locs ls hH hl
          have hr9 := Option.some.inj h
          obtain rfl := hr9
          rw [hQ]
          exact z_reti K hr hH [0, 1, 2, 3] (by decide) rfl rfl rfl dX8_round_64
        replace h := hj14
        refine lv_icmp_ne (tgt := 57) K.x K.b dX8_round_41 (by decide) (fun c15 => ?_) (fun c15 => ?_)
        · replace h := z_f c15 h
          refine lv_aload_n K.x K.b dX8_round_57 rfl (lv_at hl 0 rfl) ?_
          refine lv_iconst (v := (0)) K.x K.b dX8_round_58 (by decide) ?_
          refine lv_iconst (v := (-1)) K.x K.b dX8_round_59 (by decide) ?_
          refine lv_iload_n K.x K.b dX8_round_60 rfl (lv_at hl 2 rfl) ?_
          obtain ⟨r16, hr17, h⟩ := z_bd_e h
          refine z_Vi K hH hl.1 (c_X8_kth l D y o o_w o_yet o_fars (g_kept) (g_text) (g_size) (g_above) (g_below) (.int v_bads) (g_noes) (g_fulls) (g_at) (g_from) (g_token) (g_value) (g_readFault) (g_tells) f_w r12 r10 (0 : Int32) (-1 : Int32) p2 r16 hr17) (z_cwV K 3 tw_5_136 tw_5_138 tw_0_74 tw_1_8 tw_5_139 hd_X8_kth ⟨by decide, by decide⟩) [0, 1, 2, 3] [] rfl (wr := []) rfl rfl rfl (by decide) rfl rfl rfl (As := [.int (0 : Int32), .int (-1 : Int32), .int p2]) (rest := []) rfl (Nat.le_of_ble_eq_true rfl) ⟨Nat.zero_le _, Nat.zero_le _⟩ dX8_round_61 (ws' := [(o, .inr (7, [.ref o_w, g_kept, g_text, g_size, g_above, g_below, .int v_bads, g_noes, g_fulls, g_at, g_from, g_token, g_value, g_readFault, .ref o_yet, .ref o_fars, g_tells])), (o_w, .inl (y 0, 1960, .inl f_w)), (o_yet, .inl (y 0, 896, .inl r12)), (o_fars, .inl (y 0, 49, .inl r10))]) rfl (fun H locs hH => ?_)
          obtain rfl := Option.some.inj h
          exact Kj14 _ _ _ hH (lv_sub hl [] rfl)
        · replace h := z_t c15 h
          refine lv_aload_n K.x K.b dX8_round_44 rfl (lv_at hl 0 rfl) ?_
          refine z_get K hH 0 rfl zin_8 rfl 14 (by decide) tw_4_110 (v := .ref o_yet) rfl dX8_round_45 ?_
          refine lv_bipush (v := (7)) K.x K.b dX8_round_48 (by decide) ?_
          refine z_iald K hH 2 (k := 7) rfl (by decide) rfl dX8_round_50 ?_
          refine lv_bipush (v := (16)) K.x K.b dX8_round_51 (by decide) ?_
          refine lv_idiv K.x K.b dX8_round_53 (by decide) ?_
          refine lv_goto (tgt := 64) K.x K.b dX8_round_54 (by decide) ?_
          obtain rfl := Option.some.inj h
          exact Kj14 _ _ _ hH (lv_sub hl [] rfl)
      · replace h := z_f c9 h
        refine lv_aload_n K.x K.b dX8_round_24 rfl (lv_at hl 0 rfl) ?_
        obtain ⟨r18, hr19, h⟩ := z_bd_e h
        refine z_Vi K hH hl.1 (c_X8_badTen l D y o (.ref o_w) (g_kept) (g_text) (g_size) (g_above) (g_below) (g_noes) (g_fulls) (g_at) (g_from) (g_token) (g_value) (g_readFault) (.ref o_yet) (.ref o_fars) (g_tells) v_bads r18 hr19) (z_cwV K 0 tw_5_112 tw_5_114 tw_0_69 tw_1_8 tw_5_115 hd_X8_badTen ⟨by decide, by decide⟩) [2] [0, 1, 3] rfl (wr := [(o_yet, .inl (y 0, 896, .inl f_yet)), (o_fars, .inl (y 0, 49, .inl f_fars)), (o_w, .inl (y 0, 1960, .inl f_w))]) rfl rfl rfl (by decide) rfl rfl rfl (As := []) (rest := []) rfl (Nat.le_of_ble_eq_true rfl) ⟨Nat.zero_le _, Nat.zero_le _⟩ dX8_round_25 (ws' := [(o_yet, .inl (y 0, 896, .inl f_yet)), (o_fars, .inl (y 0, 49, .inl f_fars)), (o_w, .inl (y 0, 1960, .inl f_w)), (o, .inr (7, [.ref o_w, g_kept, g_text, g_size, g_above, g_below, .int r18.2, g_noes, g_fulls, g_at, g_from, g_token, g_value, g_readFault, .ref o_yet, .ref o_fars, g_tells]))]) rfl (fun H locs hH => ?_)
        have hr9 := Option.some.inj h
        obtain rfl := hr9
        rw [hQ]
        exact z_reti K hr hH [3, 2, 0, 1] (by decide) rfl rfl rfl dX8_round_28
noncomputable def p_X8_doesClash (f_w : (Nat → Int32)) (f_fars : (Nat → Int32)) (p1 : Int32) (p2 : Int32) : Option (Int32) :=
  z_bd (z_lp (S := Int32 × Int32) (E := Int32) (fun s1 =>
  if ((f_w 418) ≤ s1.1) then
  (some (.inr s1.2)) else
  (z_bd (α := Int32) (if (s1.2 = 0) then
  (if (s1.1 = p1) then
  (some (0 : Int32)) else
  (if (s1.1 = p2) then
  (some (0 : Int32)) else
  (z_lt ((((7 : Int32) * p1) + s1.1)) fun x11 =>
  z_gd (z_in x11 49) <|
  z_lt ((((7 : Int32) * s1.1) + p2)) fun x13 =>
  z_gd (z_in x13 49) <|
  z_lt ((((7 : Int32) * p1) + p2)) fun x15 =>
  z_gd (z_in x15 49) <|
  if ((f_fars x15.toNatClampNeg) ≤ ((f_fars x11.toNatClampNeg) + (f_fars x13.toNatClampNeg))) then
  (some (0 : Int32)) else
  (some (1 : Int32))))) else
  (some (1 : Int32))) fun j6 =>
  z_lt (s1.1 + (1 : Int32)) fun x7 =>
  some (.inl (x7, j6)))) ((0 : Int32), (0 : Int32))) fun e2 =>
  z_gd (z_bz e2) <|
  some e2
theorem hd_X8_doesClash : yX8_doesClash.cls = RX8 ∧ yX8_doesClash.cls ≠ "java/lang/invoke/MethodHandle" ∧ yX8_doesClash.cls ≠ "java/lang/invoke/VarHandle" ∧ (parseMethodDescriptor yX8_doesClash.desc).map (fun d => d.parameters.length) = some 2 := by decide +kernel
set_option maxHeartbeats 4000000 in
set_option maxRecDepth 100000 in
theorem c_X8_doesClash (l : Launch) (D : va_G) (y : Nat → ClassId) (o o_w o_fars : Nat) (g_kept g_text g_size g_above g_below g_bads g_noes g_fulls g_at g_from g_token g_value g_readFault g_yet g_tells : Value) (f_w : (Nat → Int32)) (f_fars : (Nat → Int32)) (p1 : Int32) (p2 : Int32) (r : Int32) (h : p_X8_doesClash f_w f_fars p1 p2 = some r) : z_MI l yX8_doesClash cX8_doesClash 5 (some .boolean) 0 0 D y [.ref o, .int p1, .int p2] [(o, .inr (7, [.ref o_w, g_kept, g_text, g_size, g_above, g_below, g_bads, g_noes, g_fulls, g_at, g_from, g_token, g_value, g_readFault, g_yet, .ref o_fars, g_tells])), (o_w, .inl (y 0, 1960, .inl f_w)), (o_fars, .inl (y 0, 49, .inl f_fars))] r [(o, .inr (7, [.ref o_w, g_kept, g_text, g_size, g_above, g_below, g_bads, g_noes, g_fulls, g_at, g_from, g_token, g_value, g_readFault, g_yet, .ref o_fars, g_tells])), (o_w, .inl (y 0, 1960, .inl f_w)), (o_fars, .inl (y 0, 49, .inl f_fars))] := by
  unfold p_X8_doesClash at h
  refine z_enI (by decide) (Nat.le_of_ble_eq_true rfl) ?_
  intro p e s m args below meth c A ls hr K hH hl
  obtain ⟨Q, hQ⟩ : ∃ Q, Q = MQ below (z_Qi D y A r [(o, .inr (7, [.ref o_w, g_kept, g_text, g_size, g_above, g_below, g_bads, g_noes, g_fulls, g_at, g_from, g_token, g_value, g_readFault, g_yet, .ref o_fars, g_tells])), (o_w, .inl (y 0, 1960, .inl f_w)), (o_fars, .inl (y 0, 49, .inl f_fars))]) args s 0 0 A := ⟨_, rfl⟩
  rw [← hQ]
  have hl : lv_has ls 5 [(0, .ref o), (1, .int p1), (2, .int p2)] := hl
  refine lv_iconst (v := (0)) K.x K.b dX8_doesClash_0 (by decide) ?_
  refine lv_istore_n (lv' := [(3, .int (0 : Int32)), (0, .ref o), (1, .int p1), (2, .int p2)]) K.x K.b dX8_doesClash_1 rfl hl (by decide) rfl (fun ls hl => ?_)
  refine lv_iconst (v := (0)) K.x K.b dX8_doesClash_2 (by decide) ?_
  refine lv_istore (lv' := [(4, .int (0 : Int32)), (3, .int (0 : Int32)), (0, .ref o), (1, .int p1), (2, .int p2)]) K.x K.b dX8_doesClash_3 hl (by decide) rfl (fun ls hl => ?_)
  obtain ⟨e2, hlpe2, h⟩ := z_bd_e h
  have KEe2 : ∀ (H : Heap) (locs : List Loc) (ls : Array Slot), z_H D A s.heap [(o, .inr (7, [.ref o_w, g_kept, g_text, g_size, g_above, g_below, g_bads, g_noes, g_fulls, g_at, g_from, g_token, g_value, g_readFault, g_yet, .ref o_fars, g_tells])), (o_w, .inl (y 0, 1960, .inl f_w)), (o_fars, .inl (y 0, 49, .inl f_fars))] H locs → lv_has ls 5 [(3, .int e2)] → W p l e (zR 0 0) s m args below meth c H locs 0 0 Q (F0 m 85 ls []) := by
    intro H locs ls hH hl
    refine lv_iload_n K.x K.b dX8_doesClash_85 rfl (lv_at hl 0 rfl) ?_
    obtain ⟨g3, h⟩ := z_gd_e h
    have hr9 := Option.some.inj h
    obtain rfl := hr9
    rw [hQ]
    exact z_reti K hr hH [0, 1, 2] (by decide) rfl rfl (z_bz_e g3) dX8_doesClash_86
  refine z_lp_ind (P := fun (s1 : Int32 × Int32) => ∀ (H : Heap) (locs : List Loc) (ls : Array Slot), z_H D A s.heap [(o, .inr (7, [.ref o_w, g_kept, g_text, g_size, g_above, g_below, g_bads, g_noes, g_fulls, g_at, g_from, g_token, g_value, g_readFault, g_yet, .ref o_fars, g_tells])), (o_w, .inl (y 0, 1960, .inl f_w)), (o_fars, .inl (y 0, 49, .inl f_fars))] H locs → lv_has ls 5 [(0, .ref o), (1, .int p1), (2, .int p2), (3, .int s1.2), (4, .int s1.1)] → W p l e (zR 0 0) s m args below meth c H locs 0 0 Q (F0 m 5 ls [])) ?_ _ hlpe2 _ _ _ hH (lv_sub hl [2, 3, 4, 1, 0] rfl)
  clear h hlpe2
  intro s1 x4 h ihe2 hee2 H locs ls hH hl
  refine lv_iload K.x K.b dX8_doesClash_5 (lv_at hl 4 rfl) ?_
  refine lv_aload_n K.x K.b dX8_doesClash_7 rfl (lv_at hl 0 rfl) ?_
  refine z_get K hH 0 rfl zin_8 rfl 0 (by decide) tw_4_96 (v := .ref o_w) rfl dX8_doesClash_8 ?_
  refine lv_sipush (v := (418)) K.x K.b dX8_doesClash_11 (by decide) ?_
  refine z_iald K hH 1 (k := 418) rfl (by decide) rfl dX8_doesClash_14 ?_
  refine lv_icmp_ge (tgt := 85) K.x K.b dX8_doesClash_15 (by decide) (fun c5 => ?_) (fun c5 => ?_)
  · replace h := z_t c5 h
    obtain rfl := hee2 _ (Option.some.inj h).symm
    exact KEe2 _ _ _ hH (lv_sub hl [3] rfl)
  · replace h := z_f c5 h
    refine lv_iload_n K.x K.b dX8_doesClash_18 rfl (lv_at hl 3 rfl) ?_
    obtain ⟨j6, hj6, h⟩ := z_bd_e h
    have Kj6 : ∀ (H : Heap) (locs : List Loc) (ls : Array Slot), z_H D A s.heap [(o, .inr (7, [.ref o_w, g_kept, g_text, g_size, g_above, g_below, g_bads, g_noes, g_fulls, g_at, g_from, g_token, g_value, g_readFault, g_yet, .ref o_fars, g_tells])), (o_w, .inl (y 0, 1960, .inl f_w)), (o_fars, .inl (y 0, 49, .inl f_fars))] H locs → lv_has ls 5 [(0, .ref o), (1, .int p1), (2, .int p2), (4, .int s1.1)] → W p l e (zR 0 0) s m args below meth c H locs 0 0 Q (F0 m 78 ls [.int j6]) := by
      intro H locs ls hH hl
      refine lv_istore_n (lv' := [(3, .int j6), (0, .ref o), (1, .int p1), (2, .int p2), (4, .int s1.1)]) K.x K.b dX8_doesClash_78 rfl hl (by decide) rfl (fun ls hl => ?_)
      obtain ⟨x7, ex7, h⟩ := z_lt_e h
      refine lv_iinc (v := x7) (lv' := [(4, .int x7), (3, .int j6), (0, .ref o), (1, .int p1), (2, .int p2)]) K.x K.b dX8_doesClash_79 hl (k := 4) rfl (by rw [ex7]; rfl) (by decide) rfl (fun ls hl => ?_)
      refine lv_goto (tgt := 5) K.x K.b dX8_doesClash_82 (by decide) ?_
      exact ihe2 _ (Option.some.inj h).symm _ _ _ hH (lv_sub hl [2, 3, 4, 1, 0] rfl)
    replace h := hj6
    refine lv_if_ne (tgt := 73) K.x K.b dX8_doesClash_19 (by decide) (fun c8 => ?_) (fun c8 => ?_)
    · replace h := z_f c8 h
      refine lv_iconst (v := (1)) K.x K.b dX8_doesClash_73 (by decide) ?_
      refine lv_goto (tgt := 78) K.x K.b dX8_doesClash_74 (by decide) ?_
      obtain rfl := Option.some.inj h
      exact Kj6 _ _ _ hH (lv_sub hl [0, 1, 2, 4] rfl)
    · replace h := z_t c8 h
      refine lv_iload K.x K.b dX8_doesClash_22 (lv_at hl 4 rfl) ?_
      refine lv_iload_n K.x K.b dX8_doesClash_24 rfl (lv_at hl 1 rfl) ?_
      refine lv_icmp_eq (tgt := 77) K.x K.b dX8_doesClash_25 (by decide) (fun c9 => ?_) (fun c9 => ?_)
      · replace h := z_t c9 h
        refine lv_iconst (v := (0)) K.x K.b dX8_doesClash_77 (by decide) ?_
        obtain rfl := Option.some.inj h
        exact Kj6 _ _ _ hH (lv_sub hl [0, 1, 2, 4] rfl)
      · replace h := z_f c9 h
        refine lv_iload K.x K.b dX8_doesClash_28 (lv_at hl 4 rfl) ?_
        refine lv_iload_n K.x K.b dX8_doesClash_30 rfl (lv_at hl 2 rfl) ?_
        refine lv_icmp_eq (tgt := 77) K.x K.b dX8_doesClash_31 (by decide) (fun c10 => ?_) (fun c10 => ?_)
        · replace h := z_t c10 h
          refine lv_iconst (v := (0)) K.x K.b dX8_doesClash_77 (by decide) ?_
          obtain rfl := Option.some.inj h
          exact Kj6 _ _ _ hH (lv_sub hl [0, 1, 2, 4] rfl)
        · replace h := z_f c10 h
          refine lv_aload_n K.x K.b dX8_doesClash_34 rfl (lv_at hl 0 rfl) ?_
          refine z_get K hH 0 rfl zin_8 rfl 15 (by decide) tw_4_111 (v := .ref o_fars) rfl dX8_doesClash_35 ?_
          refine lv_bipush (v := (7)) K.x K.b dX8_doesClash_38 (by decide) ?_
          refine lv_iload_n K.x K.b dX8_doesClash_40 rfl (lv_at hl 1 rfl) ?_
          refine lv_imul K.x K.b dX8_doesClash_41 ?_
          refine lv_iload K.x K.b dX8_doesClash_42 (lv_at hl 4 rfl) ?_
          refine lv_iadd K.x K.b dX8_doesClash_44 ?_
          obtain ⟨x11, ex11, h⟩ := z_lt_e h
          refine z_nm ex11 ?_
          obtain ⟨g12, h⟩ := z_gd_e h
          refine z_iald K hH 2 (k := x11.toNatClampNeg) rfl g12 rfl dX8_doesClash_45 ?_
          refine lv_aload_n K.x K.b dX8_doesClash_46 rfl (lv_at hl 0 rfl) ?_
          refine z_get K hH 0 rfl zin_8 rfl 15 (by decide) tw_4_111 (v := .ref o_fars) rfl dX8_doesClash_47 ?_
          refine lv_bipush (v := (7)) K.x K.b dX8_doesClash_50 (by decide) ?_
          refine lv_iload K.x K.b dX8_doesClash_52 (lv_at hl 4 rfl) ?_
          refine lv_imul K.x K.b dX8_doesClash_54 ?_
          refine lv_iload_n K.x K.b dX8_doesClash_55 rfl (lv_at hl 2 rfl) ?_
          refine lv_iadd K.x K.b dX8_doesClash_56 ?_
          obtain ⟨x13, ex13, h⟩ := z_lt_e h
          refine z_nm ex13 ?_
          obtain ⟨g14, h⟩ := z_gd_e h
          refine z_iald K hH 2 (k := x13.toNatClampNeg) rfl g14 rfl dX8_doesClash_57 ?_
          refine lv_iadd K.x K.b dX8_doesClash_58 ?_
          refine lv_aload_n K.x K.b dX8_doesClash_59 rfl (lv_at hl 0 rfl) ?_
          refine z_get K hH 0 rfl zin_8 rfl 15 (by decide) tw_4_111 (v := .ref o_fars) rfl dX8_doesClash_60 ?_
          refine lv_bipush (v := (7)) K.x K.b dX8_doesClash_63 (by decide) ?_
          refine lv_iload_n K.x K.b dX8_doesClash_65 rfl (lv_at hl 1 rfl) ?_
          refine lv_imul K.x K.b dX8_doesClash_66 ?_
          refine lv_iload_n K.x K.b dX8_doesClash_67 rfl (lv_at hl 2 rfl) ?_
          refine lv_iadd K.x K.b dX8_doesClash_68 ?_
          obtain ⟨x15, ex15, h⟩ := z_lt_e h
          refine z_nm ex15 ?_
          obtain ⟨g16, h⟩ := z_gd_e h
          refine z_iald K hH 2 (k := x15.toNatClampNeg) rfl g16 rfl dX8_doesClash_69 ?_
          refine lv_icmp_ge (tgt := 77) K.x K.b dX8_doesClash_70 (by decide) (fun c17 => ?_) (fun c17 => ?_)
          · replace h := z_t c17 h
            refine lv_iconst (v := (0)) K.x K.b dX8_doesClash_77 (by decide) ?_
            obtain rfl := Option.some.inj h
            exact Kj6 _ _ _ hH (lv_sub hl [0, 1, 2, 4] rfl)
          · replace h := z_f c17 h
            refine lv_iconst (v := (1)) K.x K.b dX8_doesClash_73 (by decide) ?_
            refine lv_goto (tgt := 78) K.x K.b dX8_doesClash_74 (by decide) ?_
            obtain rfl := Option.some.inj h
            exact Kj6 _ _ _ hH (lv_sub hl [0, 1, 2, 4] rfl)
noncomputable def p_X8_clash (v_bads : Int32) (f_w : (Nat → Int32)) (f_fars : (Nat → Int32)) (p1 : Int32) (p2 : Int32) : Option (Int32 × Int32 × (Nat → Int32)) :=
  z_bd (p_X8_isCrow f_w p1) fun r1 =>
  if (r1 = 0) then
  (z_bd (p_X8_badTen v_bads) fun r4 =>
  some (r4.1, r4.2, f_fars)) else
  (if ((-1 : Int32) ≤ p2) then
  (z_bd (p_X8_layFars f_w f_fars p1) fun r7 =>
  z_bd (z_lp (S := Int32 × Int32 × Int32) (E := Int32 × Int32) (fun s9 =>
  if ((f_w 418) ≤ s9.1) then
  (some (.inr (s9.2.2, s9.2.1))) else
  (z_bd (z_lp (S := Int32 × Int32 × Int32) (E := Int32 × Int32) (fun s15 =>
  if ((f_w 418) ≤ s15.1) then
  (some (.inr (s15.2.1, s15.2.2))) else
  (z_bd (α := Int32 × Int32) (if (s9.1 = s15.1) then
  (some (s15.2.1, s15.2.2)) else
  (z_bd (p_X8_doesClash f_w r7 s9.1 s15.1) fun r23 =>
  if (r23 = 0) then
  (some (s15.2.1, s15.2.2)) else
  (z_bd (α := Int32) (if (s15.2.1 = p2) then
  (some (((10 : Int32) * s9.1) + s15.1)) else
  (some s15.2.2)) fun j26 =>
  z_lt (s15.2.1 + (1 : Int32)) fun x27 =>
  some (x27, j26)))) fun j20 =>
  z_lt (s15.1 + (1 : Int32)) fun x21 =>
  some (.inl (x21, j20.1, j20.2)))) ((0 : Int32), s9.2.2, s9.2.1)) fun e16 =>
  z_lt (s9.1 + (1 : Int32)) fun x17 =>
  some (.inl (x17, e16.2, e16.1)))) ((0 : Int32), (-5 : Int32), (0 : Int32))) fun e10 =>
  z_bd (α := Int32) (if (p2 = (-1 : Int32)) then
  (some e10.1) else
  (some e10.2)) fun j11 =>
  some (j11, v_bads, r7)) else
  (z_bd (p_X8_badTen v_bads) fun r29 =>
  some (r29.1, r29.2, f_fars)))
theorem hd_X8_clash : yX8_clash.cls = RX8 ∧ yX8_clash.cls ≠ "java/lang/invoke/MethodHandle" ∧ yX8_clash.cls ≠ "java/lang/invoke/VarHandle" ∧ (parseMethodDescriptor yX8_clash.desc).map (fun d => d.parameters.length) = some 2 := by decide +kernel
set_option maxHeartbeats 4000000 in
set_option maxRecDepth 100000 in
theorem c_X8_clash (l : Launch) (D : va_G) (y : Nat → ClassId) (o o_w o_fars : Nat) (g_kept g_text g_size g_above g_below g_noes g_fulls g_at g_from g_token g_value g_readFault g_yet g_tells : Value) (v_bads : Int32) (f_w : (Nat → Int32)) (f_fars : (Nat → Int32)) (p1 : Int32) (p2 : Int32) (r : Int32 × Int32 × (Nat → Int32)) (h : p_X8_clash v_bads f_w f_fars p1 p2 = some r) : z_MI l yX8_clash cX8_clash 7 (some .int) 6 144 D y [.ref o, .int p1, .int p2] [(o, .inr (7, [.ref o_w, g_kept, g_text, g_size, g_above, g_below, .int v_bads, g_noes, g_fulls, g_at, g_from, g_token, g_value, g_readFault, g_yet, .ref o_fars, g_tells])), (o_w, .inl (y 0, 1960, .inl f_w)), (o_fars, .inl (y 0, 49, .inl f_fars))] r.1 [(o, .inr (7, [.ref o_w, g_kept, g_text, g_size, g_above, g_below, .int r.2.1, g_noes, g_fulls, g_at, g_from, g_token, g_value, g_readFault, g_yet, .ref o_fars, g_tells])), (o_w, .inl (y 0, 1960, .inl f_w)), (o_fars, .inl (y 0, 49, .inl r.2.2))] := by
  unfold p_X8_clash at h
  refine z_enI (by decide) (Nat.le_of_ble_eq_true rfl) ?_
  intro p e s m args below meth c A ls hr K hH hl
  obtain ⟨Q, hQ⟩ : ∃ Q, Q = MQ below (z_Qi D y A r.1 [(o, .inr (7, [.ref o_w, g_kept, g_text, g_size, g_above, g_below, .int r.2.1, g_noes, g_fulls, g_at, g_from, g_token, g_value, g_readFault, g_yet, .ref o_fars, g_tells])), (o_w, .inl (y 0, 1960, .inl f_w)), (o_fars, .inl (y 0, 49, .inl r.2.2))]) args s 0 0 A := ⟨_, rfl⟩
  rw [← hQ]
  have hl : lv_has ls 7 [(0, .ref o), (1, .int p1), (2, .int p2)] := hl
  refine lv_aload_n K.x K.b dX8_clash_0 rfl (lv_at hl 0 rfl) ?_
  refine lv_iload_n K.x K.b dX8_clash_1 rfl (lv_at hl 1 rfl) ?_
  obtain ⟨r1, hr2, h⟩ := z_bd_e h
  refine z_Vi K hH hl.1 (c_X8_isCrow l D y o o_w (g_kept) (g_text) (g_size) (g_above) (g_below) (.int v_bads) (g_noes) (g_fulls) (g_at) (g_from) (g_token) (g_value) (g_readFault) (g_yet) (.ref o_fars) (g_tells) f_w p1 r1 hr2) (z_cwV K 1 tw_5_64 tw_5_66 tw_0_65 tw_1_8 tw_5_67 hd_X8_isCrow ⟨by decide, by decide⟩) [0, 1] [2] rfl (wr := [(o_fars, .inl (y 0, 49, .inl f_fars))]) rfl rfl rfl (by decide) rfl rfl rfl (As := [.int p1]) (rest := []) rfl (Nat.le_of_ble_eq_true rfl) ⟨Nat.zero_le _, Nat.zero_le _⟩ dX8_clash_2 (ws' := [(o_fars, .inl (y 0, 49, .inl f_fars)), (o, .inr (7, [.ref o_w, g_kept, g_text, g_size, g_above, g_below, .int v_bads, g_noes, g_fulls, g_at, g_from, g_token, g_value, g_readFault, g_yet, .ref o_fars, g_tells])), (o_w, .inl (y 0, 1960, .inl f_w))]) rfl (fun H locs hH => ?_)
  refine lv_if_eq (tgt := 13) K.x K.b dX8_clash_5 (by decide) (fun c3 => ?_) (fun c3 => ?_)
  · replace h := z_t c3 h
    refine lv_aload_n K.x K.b dX8_clash_13 rfl (lv_at hl 0 rfl) ?_
    obtain ⟨r4, hr5, h⟩ := z_bd_e h
    refine z_Vi K hH hl.1 (c_X8_badTen l D y o (.ref o_w) (g_kept) (g_text) (g_size) (g_above) (g_below) (g_noes) (g_fulls) (g_at) (g_from) (g_token) (g_value) (g_readFault) (g_yet) (.ref o_fars) (g_tells) v_bads r4 hr5) (z_cwV K 0 tw_5_112 tw_5_114 tw_0_69 tw_1_8 tw_5_115 hd_X8_badTen ⟨by decide, by decide⟩) [1] [0, 2] rfl (wr := [(o_fars, .inl (y 0, 49, .inl f_fars)), (o_w, .inl (y 0, 1960, .inl f_w))]) rfl rfl rfl (by decide) rfl rfl rfl (As := []) (rest := []) rfl (Nat.le_of_ble_eq_true rfl) ⟨Nat.zero_le _, Nat.zero_le _⟩ dX8_clash_14 (ws' := [(o_fars, .inl (y 0, 49, .inl f_fars)), (o_w, .inl (y 0, 1960, .inl f_w)), (o, .inr (7, [.ref o_w, g_kept, g_text, g_size, g_above, g_below, .int r4.2, g_noes, g_fulls, g_at, g_from, g_token, g_value, g_readFault, g_yet, .ref o_fars, g_tells]))]) rfl (fun H locs hH => ?_)
    have hr9 := Option.some.inj h
    obtain rfl := hr9
    rw [hQ]
    exact z_reti K hr hH [2, 1, 0] (by decide) rfl rfl rfl dX8_clash_17
  · replace h := z_f c3 h
    refine lv_iload_n K.x K.b dX8_clash_8 rfl (lv_at hl 2 rfl) ?_
    refine lv_iconst (v := (-1)) K.x K.b dX8_clash_9 (by decide) ?_
    refine lv_icmp_ge (tgt := 18) K.x K.b dX8_clash_10 (by decide) (fun c6 => ?_) (fun c6 => ?_)
    · replace h := z_t c6 h
      refine lv_aload_n K.x K.b dX8_clash_18 rfl (lv_at hl 0 rfl) ?_
      refine lv_iload_n K.x K.b dX8_clash_19 rfl (lv_at hl 1 rfl) ?_
      obtain ⟨r7, hr8, h⟩ := z_bd_e h
      refine z_Vv K hH hl.1 (c_X8_layFars l D y o o_w o_fars (g_kept) (g_text) (g_size) (g_above) (g_below) (.int v_bads) (g_noes) (g_fulls) (g_at) (g_from) (g_token) (g_value) (g_readFault) (g_yet) (g_tells) f_w f_fars p1 r7 hr8) (z_cwV K 1 tw_5_116 tw_5_118 tw_0_70 tw_1_8 tw_5_119 hd_X8_layFars ⟨by decide, by decide⟩) [1, 2, 0] [] rfl (wr := []) rfl rfl rfl (by decide) rfl rfl rfl (As := [.int p1]) (rest := []) rfl (Nat.le_of_ble_eq_true rfl) ⟨Nat.zero_le _, Nat.zero_le _⟩ dX8_clash_20 (ws' := [(o, .inr (7, [.ref o_w, g_kept, g_text, g_size, g_above, g_below, .int v_bads, g_noes, g_fulls, g_at, g_from, g_token, g_value, g_readFault, g_yet, .ref o_fars, g_tells])), (o_w, .inl (y 0, 1960, .inl f_w)), (o_fars, .inl (y 0, 49, .inl r7))]) rfl (fun H locs hH => ?_)
      refine lv_iconst (v := (0)) K.x K.b dX8_clash_23 (by decide) ?_
      refine lv_istore_n (lv' := [(3, .int (0 : Int32)), (0, .ref o), (1, .int p1), (2, .int p2)]) K.x K.b dX8_clash_24 rfl hl (by decide) rfl (fun ls hl => ?_)
      refine lv_bipush (v := (-5)) K.x K.b dX8_clash_25 (by decide) ?_
      refine lv_istore (lv' := [(4, .int (-5 : Int32)), (3, .int (0 : Int32)), (0, .ref o), (1, .int p1), (2, .int p2)]) K.x K.b dX8_clash_27 hl (by decide) rfl (fun ls hl => ?_)
      refine lv_iconst (v := (0)) K.x K.b dX8_clash_29 (by decide) ?_
      refine lv_istore (lv' := [(5, .int (0 : Int32)), (4, .int (-5 : Int32)), (3, .int (0 : Int32)), (0, .ref o), (1, .int p1), (2, .int p2)]) K.x K.b dX8_clash_30 hl (by decide) rfl (fun ls hl => ?_)
      obtain ⟨e10, hlpe10, h⟩ := z_bd_e h
      have KEe10 : ∀ (H : Heap) (locs : List Loc) (ls : Array Slot), z_H D A s.heap [(o, .inr (7, [.ref o_w, g_kept, g_text, g_size, g_above, g_below, .int v_bads, g_noes, g_fulls, g_at, g_from, g_token, g_value, g_readFault, g_yet, .ref o_fars, g_tells])), (o_w, .inl (y 0, 1960, .inl f_w)), (o_fars, .inl (y 0, 49, .inl r7))] H locs → lv_has ls 7 [(2, .int p2), (3, .int e10.1), (4, .int e10.2)] → W p l e (zR 6 144) s m args below meth c H locs 0 0 Q (F0 m 114 ls []) := by
        intro H locs ls hH hl
        refine lv_iload_n K.x K.b dX8_clash_114 rfl (lv_at hl 0 rfl) ?_
        refine lv_iconst (v := (-1)) K.x K.b dX8_clash_115 (by decide) ?_
        obtain ⟨j11, hj11, h⟩ := z_bd_e h
        have Kj11 : ∀ (H : Heap) (locs : List Loc) (ls : Array Slot), z_H D A s.heap [(o, .inr (7, [.ref o_w, g_kept, g_text, g_size, g_above, g_below, .int v_bads, g_noes, g_fulls, g_at, g_from, g_token, g_value, g_readFault, g_yet, .ref o_fars, g_tells])), (o_w, .inl (y 0, 1960, .inl f_w)), (o_fars, .inl (y 0, 49, .inl r7))] H locs → lv_has ls 7 [] → W p l e (zR 6 144) s m args below meth c H locs 0 0 Q (F0 m 125 ls [.int j11]) := by
          intro H locs ls hH hl
          have hr9 := Option.some.inj h
          obtain rfl := hr9
          rw [hQ]
          exact z_reti K hr hH [0, 1, 2] (by decide) rfl rfl rfl dX8_clash_125
        replace h := hj11
        refine lv_icmp_ne (tgt := 123) K.x K.b dX8_clash_116 (by decide) (fun c12 => ?_) (fun c12 => ?_)
        · replace h := z_f c12 h
          refine lv_iload K.x K.b dX8_clash_123 (lv_at hl 2 rfl) ?_
          obtain rfl := Option.some.inj h
          exact Kj11 _ _ _ hH (lv_sub hl [] rfl)
        · replace h := z_t c12 h
          refine lv_iload_n K.x K.b dX8_clash_119 rfl (lv_at hl 1 rfl) ?_
          refine lv_goto (tgt := 125) K.x K.b dX8_clash_120 (by decide) ?_
          obtain rfl := Option.some.inj h
          exact Kj11 _ _ _ hH (lv_sub hl [] rfl)
      refine z_lp_ind (P := fun (s9 : Int32 × Int32 × Int32) => ∀ (H : Heap) (locs : List Loc) (ls : Array Slot), z_H D A s.heap [(o, .inr (7, [.ref o_w, g_kept, g_text, g_size, g_above, g_below, .int v_bads, g_noes, g_fulls, g_at, g_from, g_token, g_value, g_readFault, g_yet, .ref o_fars, g_tells])), (o_w, .inl (y 0, 1960, .inl f_w)), (o_fars, .inl (y 0, 49, .inl r7))] H locs → lv_has ls 7 [(0, .ref o), (2, .int p2), (3, .int s9.2.2), (4, .int s9.2.1), (5, .int s9.1)] → W p l e (zR 6 144) s m args below meth c H locs 0 0 Q (F0 m 32 ls [])) ?_ _ hlpe10 _ _ _ hH (lv_sub hl [3, 5, 2, 1, 0] rfl)
      clear h hlpe10
      intro s9 x13 h ihe10 hee10 H locs ls hH hl
      refine lv_iload K.x K.b dX8_clash_32 (lv_at hl 4 rfl) ?_
      refine lv_aload_n K.x K.b dX8_clash_34 rfl (lv_at hl 0 rfl) ?_
      refine z_get K hH 0 rfl zin_8 rfl 0 (by decide) tw_4_96 (v := .ref o_w) rfl dX8_clash_35 ?_
      refine lv_sipush (v := (418)) K.x K.b dX8_clash_38 (by decide) ?_
      refine z_iald K hH 1 (k := 418) rfl (by decide) rfl dX8_clash_41 ?_
      refine lv_icmp_ge (tgt := 114) K.x K.b dX8_clash_42 (by decide) (fun c14 => ?_) (fun c14 => ?_)
      · replace h := z_t c14 h
        obtain rfl := hee10 _ (Option.some.inj h).symm
        exact KEe10 _ _ _ hH (lv_sub hl [1, 2, 3] rfl)
      · replace h := z_f c14 h
        refine lv_iconst (v := (0)) K.x K.b dX8_clash_45 (by decide) ?_
        refine lv_istore (lv' := [(6, .int (0 : Int32)), (0, .ref o), (2, .int p2), (3, .int s9.2.2), (4, .int s9.2.1), (5, .int s9.1)]) K.x K.b dX8_clash_46 hl (by decide) rfl (fun ls hl => ?_)
        obtain ⟨e16, hlpe16, h⟩ := z_bd_e h
        have KEe16 : ∀ (H : Heap) (locs : List Loc) (ls : Array Slot), z_H D A s.heap [(o, .inr (7, [.ref o_w, g_kept, g_text, g_size, g_above, g_below, .int v_bads, g_noes, g_fulls, g_at, g_from, g_token, g_value, g_readFault, g_yet, .ref o_fars, g_tells])), (o_w, .inl (y 0, 1960, .inl f_w)), (o_fars, .inl (y 0, 49, .inl r7))] H locs → lv_has ls 7 [(0, .ref o), (2, .int p2), (3, .int e16.1), (4, .int e16.2), (5, .int s9.1)] → W p l e (zR 6 144) s m args below meth c H locs 0 0 Q (F0 m 108 ls []) := by
          intro H locs ls hH hl
          obtain ⟨x17, ex17, h⟩ := z_lt_e h
          refine lv_iinc (v := x17) (lv' := [(5, .int x17), (0, .ref o), (2, .int p2), (3, .int e16.1), (4, .int e16.2)]) K.x K.b dX8_clash_108 hl (k := 4) rfl (by rw [ex17]; rfl) (by decide) rfl (fun ls hl => ?_)
          refine lv_goto (tgt := 32) K.x K.b dX8_clash_111 (by decide) ?_
          exact ihe10 _ (Option.some.inj h).symm _ _ _ hH (lv_sub hl [1, 2, 3, 4, 0] rfl)
        refine z_lp_ind (P := fun (s15 : Int32 × Int32 × Int32) => ∀ (H : Heap) (locs : List Loc) (ls : Array Slot), z_H D A s.heap [(o, .inr (7, [.ref o_w, g_kept, g_text, g_size, g_above, g_below, .int v_bads, g_noes, g_fulls, g_at, g_from, g_token, g_value, g_readFault, g_yet, .ref o_fars, g_tells])), (o_w, .inl (y 0, 1960, .inl f_w)), (o_fars, .inl (y 0, 49, .inl r7))] H locs → lv_has ls 7 [(0, .ref o), (2, .int p2), (3, .int s15.2.1), (4, .int s15.2.2), (5, .int s9.1), (6, .int s15.1)] → W p l e (zR 6 144) s m args below meth c H locs 0 0 Q (F0 m 48 ls [])) ?_ _ hlpe16 _ _ _ hH (lv_sub hl [1, 2, 3, 4, 5, 0] rfl)
        clear h hlpe16
        intro s15 x18 h ihe16 hee16 H locs ls hH hl
        refine lv_iload K.x K.b dX8_clash_48 (lv_at hl 5 rfl) ?_
        refine lv_aload_n K.x K.b dX8_clash_50 rfl (lv_at hl 0 rfl) ?_
        refine z_get K hH 0 rfl zin_8 rfl 0 (by decide) tw_4_96 (v := .ref o_w) rfl dX8_clash_51 ?_
        refine lv_sipush (v := (418)) K.x K.b dX8_clash_54 (by decide) ?_
        refine z_iald K hH 1 (k := 418) rfl (by decide) rfl dX8_clash_57 ?_
        refine lv_icmp_ge (tgt := 108) K.x K.b dX8_clash_58 (by decide) (fun c19 => ?_) (fun c19 => ?_)
        · replace h := z_t c19 h
          obtain rfl := hee16 _ (Option.some.inj h).symm
          exact KEe16 _ _ _ hH (lv_sub hl [0, 1, 2, 3, 4] rfl)
        · replace h := z_f c19 h
          refine lv_iload K.x K.b dX8_clash_61 (lv_at hl 4 rfl) ?_
          refine lv_iload K.x K.b dX8_clash_63 (lv_at hl 5 rfl) ?_
          obtain ⟨j20, hj20, h⟩ := z_bd_e h
          have Kj20 : ∀ (H : Heap) (locs : List Loc) (ls : Array Slot), z_H D A s.heap [(o, .inr (7, [.ref o_w, g_kept, g_text, g_size, g_above, g_below, .int v_bads, g_noes, g_fulls, g_at, g_from, g_token, g_value, g_readFault, g_yet, .ref o_fars, g_tells])), (o_w, .inl (y 0, 1960, .inl f_w)), (o_fars, .inl (y 0, 49, .inl r7))] H locs → lv_has ls 7 [(0, .ref o), (2, .int p2), (3, .int j20.1), (4, .int j20.2), (5, .int s9.1), (6, .int s15.1)] → W p l e (zR 6 144) s m args below meth c H locs 0 0 Q (F0 m 102 ls []) := by
            intro H locs ls hH hl
            obtain ⟨x21, ex21, h⟩ := z_lt_e h
            refine lv_iinc (v := x21) (lv' := [(6, .int x21), (0, .ref o), (2, .int p2), (3, .int j20.1), (4, .int j20.2), (5, .int s9.1)]) K.x K.b dX8_clash_102 hl (k := 5) rfl (by rw [ex21]; rfl) (by decide) rfl (fun ls hl => ?_)
            refine lv_goto (tgt := 48) K.x K.b dX8_clash_105 (by decide) ?_
            exact ihe16 _ (Option.some.inj h).symm _ _ _ hH (lv_sub hl [1, 2, 3, 4, 5, 0] rfl)
          replace h := hj20
          refine lv_icmp_eq (tgt := 102) K.x K.b dX8_clash_65 (by decide) (fun c22 => ?_) (fun c22 => ?_)
          · replace h := z_t c22 h
            obtain rfl := Option.some.inj h
            exact Kj20 _ _ _ hH (lv_sub hl [0, 1, 2, 3, 4, 5] rfl)
          · replace h := z_f c22 h
            refine lv_aload_n K.x K.b dX8_clash_68 rfl (lv_at hl 0 rfl) ?_
            refine lv_iload K.x K.b dX8_clash_69 (lv_at hl 4 rfl) ?_
            refine lv_iload K.x K.b dX8_clash_71 (lv_at hl 5 rfl) ?_
            obtain ⟨r23, hr24, h⟩ := z_bd_e h
            refine z_Vi K hH hl.1 (c_X8_doesClash l D y o o_w o_fars (g_kept) (g_text) (g_size) (g_above) (g_below) (.int v_bads) (g_noes) (g_fulls) (g_at) (g_from) (g_token) (g_value) (g_readFault) (g_yet) (g_tells) f_w r7 s9.1 s15.1 r23 hr24) (z_cwV K 2 tw_5_148 tw_5_150 tw_0_75 tw_1_8 tw_5_151 hd_X8_doesClash ⟨by decide, by decide⟩) [0, 1, 2] [] rfl (wr := []) rfl rfl rfl (by decide) rfl rfl rfl (As := [.int s9.1, .int s15.1]) (rest := []) rfl (Nat.le_of_ble_eq_true rfl) ⟨Nat.zero_le _, Nat.zero_le _⟩ dX8_clash_73 (ws' := [(o, .inr (7, [.ref o_w, g_kept, g_text, g_size, g_above, g_below, .int v_bads, g_noes, g_fulls, g_at, g_from, g_token, g_value, g_readFault, g_yet, .ref o_fars, g_tells])), (o_w, .inl (y 0, 1960, .inl f_w)), (o_fars, .inl (y 0, 49, .inl r7))]) rfl (fun H locs hH => ?_)
            refine lv_if_eq (tgt := 102) K.x K.b dX8_clash_76 (by decide) (fun c25 => ?_) (fun c25 => ?_)
            · replace h := z_t c25 h
              obtain rfl := Option.some.inj h
              exact Kj20 _ _ _ hH (lv_sub hl [0, 1, 2, 3, 4, 5] rfl)
            · replace h := z_f c25 h
              refine lv_iload_n K.x K.b dX8_clash_79 rfl (lv_at hl 2 rfl) ?_
              refine lv_iload_n K.x K.b dX8_clash_80 rfl (lv_at hl 1 rfl) ?_
              obtain ⟨j26, hj26, h⟩ := z_bd_e h
              have Kj26 : ∀ (H : Heap) (locs : List Loc) (ls : Array Slot), z_H D A s.heap [(o, .inr (7, [.ref o_w, g_kept, g_text, g_size, g_above, g_below, .int v_bads, g_noes, g_fulls, g_at, g_from, g_token, g_value, g_readFault, g_yet, .ref o_fars, g_tells])), (o_w, .inl (y 0, 1960, .inl f_w)), (o_fars, .inl (y 0, 49, .inl r7))] H locs → lv_has ls 7 [(0, .ref o), (2, .int p2), (3, .int s15.2.1), (5, .int s9.1), (6, .int s15.1)] → W p l e (zR 6 144) s m args below meth c H locs 0 0 Q (F0 m 97 ls [.int j26]) := by
                intro H locs ls hH hl
                refine lv_istore (lv' := [(4, .int j26), (0, .ref o), (2, .int p2), (3, .int s15.2.1), (5, .int s9.1), (6, .int s15.1)]) K.x K.b dX8_clash_97 hl (by decide) rfl (fun ls hl => ?_)
                obtain ⟨x27, ex27, h⟩ := z_lt_e h
                refine lv_iinc (v := x27) (lv' := [(3, .int x27), (4, .int j26), (0, .ref o), (2, .int p2), (5, .int s9.1), (6, .int s15.1)]) K.x K.b dX8_clash_99 hl (k := 3) rfl (by rw [ex27]; rfl) (by decide) rfl (fun ls hl => ?_)
                obtain rfl := Option.some.inj h
                exact Kj20 _ _ _ hH (lv_sub hl [2, 3, 0, 1, 4, 5] rfl)
              replace h := hj26
              refine lv_icmp_ne (tgt := 95) K.x K.b dX8_clash_81 (by decide) (fun c28 => ?_) (fun c28 => ?_)
              · replace h := z_f c28 h
                refine lv_iload K.x K.b dX8_clash_95 (lv_at hl 3 rfl) ?_
                obtain rfl := Option.some.inj h
                exact Kj26 _ _ _ hH (lv_sub hl [0, 1, 2, 4, 5] rfl)
              · replace h := z_t c28 h
                refine lv_bipush (v := (10)) K.x K.b dX8_clash_84 (by decide) ?_
                refine lv_iload K.x K.b dX8_clash_86 (lv_at hl 4 rfl) ?_
                refine lv_imul K.x K.b dX8_clash_88 ?_
                refine lv_iload K.x K.b dX8_clash_89 (lv_at hl 5 rfl) ?_
                refine lv_iadd K.x K.b dX8_clash_91 ?_
                refine lv_goto (tgt := 97) K.x K.b dX8_clash_92 (by decide) ?_
                obtain rfl := Option.some.inj h
                exact Kj26 _ _ _ hH (lv_sub hl [0, 1, 2, 4, 5] rfl)
    · replace h := z_f c6 h
      refine lv_aload_n K.x K.b dX8_clash_13 rfl (lv_at hl 0 rfl) ?_
      obtain ⟨r29, hr30, h⟩ := z_bd_e h
      refine z_Vi K hH hl.1 (c_X8_badTen l D y o (.ref o_w) (g_kept) (g_text) (g_size) (g_above) (g_below) (g_noes) (g_fulls) (g_at) (g_from) (g_token) (g_value) (g_readFault) (g_yet) (.ref o_fars) (g_tells) v_bads r29 hr30) (z_cwV K 0 tw_5_112 tw_5_114 tw_0_69 tw_1_8 tw_5_115 hd_X8_badTen ⟨by decide, by decide⟩) [1] [0, 2] rfl (wr := [(o_fars, .inl (y 0, 49, .inl f_fars)), (o_w, .inl (y 0, 1960, .inl f_w))]) rfl rfl rfl (by decide) rfl rfl rfl (As := []) (rest := []) rfl (Nat.le_of_ble_eq_true rfl) ⟨Nat.zero_le _, Nat.zero_le _⟩ dX8_clash_14 (ws' := [(o_fars, .inl (y 0, 49, .inl f_fars)), (o_w, .inl (y 0, 1960, .inl f_w)), (o, .inr (7, [.ref o_w, g_kept, g_text, g_size, g_above, g_below, .int r29.2, g_noes, g_fulls, g_at, g_from, g_token, g_value, g_readFault, g_yet, .ref o_fars, g_tells]))]) rfl (fun H locs hH => ?_)
      have hr9 := Option.some.inj h
      obtain rfl := hr9
      rw [hQ]
      exact z_reti K hr hH [2, 1, 0] (by decide) rfl rfl rfl dX8_clash_17
noncomputable def p_X8_late (v_bads : Int32) (f_w : (Nat → Int32)) (p1 : Int32) (p2 : Int32) (p3 : Int32) (p4 : Int32) : Option (Int32 × Int32) :=
  z_bd (p_X8_isCrow f_w p1) fun r1 =>
  if (r1 = 0) then
  (z_bd (p_X8_bad v_bads) fun r4 =>
  some (r4.1, r4.2)) else
  (z_bd (p_X8_isPlace f_w p2) fun r6 =>
  if (r6 = 0) then
  (z_bd (p_X8_bad v_bads) fun r9 =>
  some (r9.1, r9.2)) else
  (z_bd (p_X8_isPlace f_w p3) fun r11 =>
  if (r11 = 0) then
  (z_bd (p_X8_bad v_bads) fun r14 =>
  some (r14.1, r14.2)) else
  (z_bd (p_X8_in p4 (0 : Int32) (1 : Int32)) fun r16 =>
  if (r16 = 0) then
  (z_bd (p_X8_bad v_bads) fun r32 =>
  some (r32.1, r32.2)) else
  (z_bd (z_lp (S := Int32 × Int32 × Int32) (E := Int32 × Int32) (fun s19 =>
  if ((24 : Int32) ≤ s19.1) then
  (some (.inr (s19.2.2, s19.2.1))) else
  (z_bd (p_X8_farAt f_w (0 : Int32) (0 : Int32) p1 p2 p3 s19.1) fun r25 =>
  z_bd (α := Int32) (if (r25 ≤ s19.2.1) then
  (some s19.2.2) else
  (some s19.1)) fun j27 =>
  z_bd (α := Int32) (if (r25 ≤ s19.2.1) then
  (some s19.2.1) else
  (some r25)) fun j28 =>
  z_lt (s19.1 + (1 : Int32)) fun x29 =>
  some (.inl (x29, j28, j27)))) ((0 : Int32), (-1 : Int32), (0 : Int32))) fun e20 =>
  z_bd (α := Int32) (if (p4 = 0) then
  (some e20.1) else
  (some e20.2)) fun j21 =>
  some (j21, v_bads)))))
theorem hd_X8_late : yX8_late.cls = RX8 ∧ yX8_late.cls ≠ "java/lang/invoke/MethodHandle" ∧ yX8_late.cls ≠ "java/lang/invoke/VarHandle" ∧ (parseMethodDescriptor yX8_late.desc).map (fun d => d.parameters.length) = some 4 := by decide +kernel
set_option maxHeartbeats 4000000 in
set_option maxRecDepth 100000 in
theorem c_X8_late (l : Launch) (D : va_G) (y : Nat → ClassId) (o o_w : Nat) (g_kept g_text g_size g_above g_below g_noes g_fulls g_at g_from g_token g_value g_readFault g_yet g_fars g_tells : Value) (v_bads : Int32) (f_w : (Nat → Int32)) (p1 : Int32) (p2 : Int32) (p3 : Int32) (p4 : Int32) (r : Int32 × Int32) (h : p_X8_late v_bads f_w p1 p2 p3 p4 = some r) : z_MI l yX8_late cX8_late 9 (some .int) 3 73 D y [.ref o, .int p1, .int p2, .int p3, .int p4] [(o, .inr (7, [.ref o_w, g_kept, g_text, g_size, g_above, g_below, .int v_bads, g_noes, g_fulls, g_at, g_from, g_token, g_value, g_readFault, g_yet, g_fars, g_tells])), (o_w, .inl (y 0, 1960, .inl f_w))] r.1 [(o, .inr (7, [.ref o_w, g_kept, g_text, g_size, g_above, g_below, .int r.2, g_noes, g_fulls, g_at, g_from, g_token, g_value, g_readFault, g_yet, g_fars, g_tells])), (o_w, .inl (y 0, 1960, .inl f_w))] := by
  unfold p_X8_late at h
  refine z_enI (by decide) (Nat.le_of_ble_eq_true rfl) ?_
  intro p e s m args below meth c A ls hr K hH hl
  obtain ⟨Q, hQ⟩ : ∃ Q, Q = MQ below (z_Qi D y A r.1 [(o, .inr (7, [.ref o_w, g_kept, g_text, g_size, g_above, g_below, .int r.2, g_noes, g_fulls, g_at, g_from, g_token, g_value, g_readFault, g_yet, g_fars, g_tells])), (o_w, .inl (y 0, 1960, .inl f_w))]) args s 0 0 A := ⟨_, rfl⟩
  rw [← hQ]
  have hl : lv_has ls 9 [(0, .ref o), (1, .int p1), (2, .int p2), (3, .int p3), (4, .int p4)] := hl
  refine lv_aload_n K.x K.b dX8_late_0 rfl (lv_at hl 0 rfl) ?_
  refine lv_iload_n K.x K.b dX8_late_1 rfl (lv_at hl 1 rfl) ?_
  obtain ⟨r1, hr2, h⟩ := z_bd_e h
  refine z_Vi K hH hl.1 (c_X8_isCrow l D y o o_w (g_kept) (g_text) (g_size) (g_above) (g_below) (.int v_bads) (g_noes) (g_fulls) (g_at) (g_from) (g_token) (g_value) (g_readFault) (g_yet) (g_fars) (g_tells) f_w p1 r1 hr2) (z_cwV K 1 tw_5_64 tw_5_66 tw_0_65 tw_1_8 tw_5_67 hd_X8_isCrow ⟨by decide, by decide⟩) [0, 1] [] rfl (wr := []) rfl rfl rfl (by decide) rfl rfl rfl (As := [.int p1]) (rest := []) rfl (Nat.le_of_ble_eq_true rfl) ⟨Nat.zero_le _, Nat.zero_le _⟩ dX8_late_2 (ws' := [(o, .inr (7, [.ref o_w, g_kept, g_text, g_size, g_above, g_below, .int v_bads, g_noes, g_fulls, g_at, g_from, g_token, g_value, g_readFault, g_yet, g_fars, g_tells])), (o_w, .inl (y 0, 1960, .inl f_w))]) rfl (fun H locs hH => ?_)
  refine lv_if_eq (tgt := 34) K.x K.b dX8_late_5 (by decide) (fun c3 => ?_) (fun c3 => ?_)
  · replace h := z_t c3 h
    refine lv_aload_n K.x K.b dX8_late_34 rfl (lv_at hl 0 rfl) ?_
    obtain ⟨r4, hr5, h⟩ := z_bd_e h
    refine z_Vi K hH hl.1 (c_X8_bad l D y o (.ref o_w) (g_kept) (g_text) (g_size) (g_above) (g_below) (g_noes) (g_fulls) (g_at) (g_from) (g_token) (g_value) (g_readFault) (g_yet) (g_fars) (g_tells) v_bads r4 hr5) (z_cwV K 0 tw_4_163 tw_4_165 tw_0_37 tw_1_8 tw_4_166 hd_X8_bad ⟨by decide, by decide⟩) [0] [1] rfl (wr := [(o_w, .inl (y 0, 1960, .inl f_w))]) rfl rfl rfl (by decide) rfl rfl rfl (As := []) (rest := []) rfl (Nat.le_of_ble_eq_true rfl) ⟨Nat.zero_le _, Nat.zero_le _⟩ dX8_late_35 (ws' := [(o_w, .inl (y 0, 1960, .inl f_w)), (o, .inr (7, [.ref o_w, g_kept, g_text, g_size, g_above, g_below, .int r4.2, g_noes, g_fulls, g_at, g_from, g_token, g_value, g_readFault, g_yet, g_fars, g_tells]))]) rfl (fun H locs hH => ?_)
    have hr9 := Option.some.inj h
    obtain rfl := hr9
    rw [hQ]
    exact z_reti K hr hH [1, 0] (by decide) rfl rfl rfl dX8_late_38
  · replace h := z_f c3 h
    refine lv_aload_n K.x K.b dX8_late_8 rfl (lv_at hl 0 rfl) ?_
    refine lv_iload_n K.x K.b dX8_late_9 rfl (lv_at hl 2 rfl) ?_
    obtain ⟨r6, hr7, h⟩ := z_bd_e h
    refine z_Vi K hH hl.1 (c_X8_isPlace l D y o o_w (g_kept) (g_text) (g_size) (g_above) (g_below) (.int v_bads) (g_noes) (g_fulls) (g_at) (g_from) (g_token) (g_value) (g_readFault) (g_yet) (g_fars) (g_tells) f_w p2 r6 hr7) (z_cwV K 1 tw_4_179 tw_4_181 tw_0_40 tw_1_8 tw_4_182 hd_X8_isPlace ⟨by decide, by decide⟩) [0, 1] [] rfl (wr := []) rfl rfl rfl (by decide) rfl rfl rfl (As := [.int p2]) (rest := []) rfl (Nat.le_of_ble_eq_true rfl) ⟨Nat.zero_le _, Nat.zero_le _⟩ dX8_late_10 (ws' := [(o, .inr (7, [.ref o_w, g_kept, g_text, g_size, g_above, g_below, .int v_bads, g_noes, g_fulls, g_at, g_from, g_token, g_value, g_readFault, g_yet, g_fars, g_tells])), (o_w, .inl (y 0, 1960, .inl f_w))]) rfl (fun H locs hH => ?_)
    refine lv_if_eq (tgt := 34) K.x K.b dX8_late_13 (by decide) (fun c8 => ?_) (fun c8 => ?_)
    · replace h := z_t c8 h
      refine lv_aload_n K.x K.b dX8_late_34 rfl (lv_at hl 0 rfl) ?_
      obtain ⟨r9, hr10, h⟩ := z_bd_e h
      refine z_Vi K hH hl.1 (c_X8_bad l D y o (.ref o_w) (g_kept) (g_text) (g_size) (g_above) (g_below) (g_noes) (g_fulls) (g_at) (g_from) (g_token) (g_value) (g_readFault) (g_yet) (g_fars) (g_tells) v_bads r9 hr10) (z_cwV K 0 tw_4_163 tw_4_165 tw_0_37 tw_1_8 tw_4_166 hd_X8_bad ⟨by decide, by decide⟩) [0] [1] rfl (wr := [(o_w, .inl (y 0, 1960, .inl f_w))]) rfl rfl rfl (by decide) rfl rfl rfl (As := []) (rest := []) rfl (Nat.le_of_ble_eq_true rfl) ⟨Nat.zero_le _, Nat.zero_le _⟩ dX8_late_35 (ws' := [(o_w, .inl (y 0, 1960, .inl f_w)), (o, .inr (7, [.ref o_w, g_kept, g_text, g_size, g_above, g_below, .int r9.2, g_noes, g_fulls, g_at, g_from, g_token, g_value, g_readFault, g_yet, g_fars, g_tells]))]) rfl (fun H locs hH => ?_)
      have hr9 := Option.some.inj h
      obtain rfl := hr9
      rw [hQ]
      exact z_reti K hr hH [1, 0] (by decide) rfl rfl rfl dX8_late_38
    · replace h := z_f c8 h
      refine lv_aload_n K.x K.b dX8_late_16 rfl (lv_at hl 0 rfl) ?_
      refine lv_iload_n K.x K.b dX8_late_17 rfl (lv_at hl 3 rfl) ?_
      obtain ⟨r11, hr12, h⟩ := z_bd_e h
      refine z_Vi K hH hl.1 (c_X8_isPlace l D y o o_w (g_kept) (g_text) (g_size) (g_above) (g_below) (.int v_bads) (g_noes) (g_fulls) (g_at) (g_from) (g_token) (g_value) (g_readFault) (g_yet) (g_fars) (g_tells) f_w p3 r11 hr12) (z_cwV K 1 tw_4_179 tw_4_181 tw_0_40 tw_1_8 tw_4_182 hd_X8_isPlace ⟨by decide, by decide⟩) [0, 1] [] rfl (wr := []) rfl rfl rfl (by decide) rfl rfl rfl (As := [.int p3]) (rest := []) rfl (Nat.le_of_ble_eq_true rfl) ⟨Nat.zero_le _, Nat.zero_le _⟩ dX8_late_18 (ws' := [(o, .inr (7, [.ref o_w, g_kept, g_text, g_size, g_above, g_below, .int v_bads, g_noes, g_fulls, g_at, g_from, g_token, g_value, g_readFault, g_yet, g_fars, g_tells])), (o_w, .inl (y 0, 1960, .inl f_w))]) rfl (fun H locs hH => ?_)
      refine lv_if_eq (tgt := 34) K.x K.b dX8_late_21 (by decide) (fun c13 => ?_) (fun c13 => ?_)
      · replace h := z_t c13 h
        refine lv_aload_n K.x K.b dX8_late_34 rfl (lv_at hl 0 rfl) ?_
        obtain ⟨r14, hr15, h⟩ := z_bd_e h
        refine z_Vi K hH hl.1 (c_X8_bad l D y o (.ref o_w) (g_kept) (g_text) (g_size) (g_above) (g_below) (g_noes) (g_fulls) (g_at) (g_from) (g_token) (g_value) (g_readFault) (g_yet) (g_fars) (g_tells) v_bads r14 hr15) (z_cwV K 0 tw_4_163 tw_4_165 tw_0_37 tw_1_8 tw_4_166 hd_X8_bad ⟨by decide, by decide⟩) [0] [1] rfl (wr := [(o_w, .inl (y 0, 1960, .inl f_w))]) rfl rfl rfl (by decide) rfl rfl rfl (As := []) (rest := []) rfl (Nat.le_of_ble_eq_true rfl) ⟨Nat.zero_le _, Nat.zero_le _⟩ dX8_late_35 (ws' := [(o_w, .inl (y 0, 1960, .inl f_w)), (o, .inr (7, [.ref o_w, g_kept, g_text, g_size, g_above, g_below, .int r14.2, g_noes, g_fulls, g_at, g_from, g_token, g_value, g_readFault, g_yet, g_fars, g_tells]))]) rfl (fun H locs hH => ?_)
        have hr9 := Option.some.inj h
        obtain rfl := hr9
        rw [hQ]
        exact z_reti K hr hH [1, 0] (by decide) rfl rfl rfl dX8_late_38
      · replace h := z_f c13 h
        refine lv_iload K.x K.b dX8_late_24 (lv_at hl 4 rfl) ?_
        refine lv_iconst (v := (0)) K.x K.b dX8_late_26 (by decide) ?_
        refine lv_iconst (v := (1)) K.x K.b dX8_late_27 (by decide) ?_
        obtain ⟨r16, hr17, h⟩ := z_bd_e h
        refine z_Si K hH hl.1 (c_X8_in l D y p4 (0 : Int32) (1 : Int32) r16 hr17) (z_cwS K 3 tw_4_160 tw_4_161 tw_1_8 tw_4_162 hd_X8_in ⟨by decide, by decide⟩) rfl (As := [.int p4, .int (0 : Int32), .int (1 : Int32)]) (rest := []) rfl (Nat.le_of_ble_eq_true rfl) ⟨Nat.zero_le _, Nat.zero_le _⟩ dX8_late_28 (fun H locs hH => ?_)
        refine lv_if_ne (tgt := 39) K.x K.b dX8_late_31 (by decide) (fun c18 => ?_) (fun c18 => ?_)
        · replace h := z_f c18 h
          refine lv_iconst (v := (0)) K.x K.b dX8_late_39 (by decide) ?_
          refine lv_istore (lv' := [(5, .int (0 : Int32)), (0, .ref o), (1, .int p1), (2, .int p2), (3, .int p3), (4, .int p4)]) K.x K.b dX8_late_40 hl (by decide) rfl (fun ls hl => ?_)
          refine lv_iconst (v := (-1)) K.x K.b dX8_late_42 (by decide) ?_
          refine lv_istore (lv' := [(6, .int (-1 : Int32)), (5, .int (0 : Int32)), (0, .ref o), (1, .int p1), (2, .int p2), (3, .int p3), (4, .int p4)]) K.x K.b dX8_late_43 hl (by decide) rfl (fun ls hl => ?_)
          refine lv_iconst (v := (0)) K.x K.b dX8_late_45 (by decide) ?_
          refine lv_istore (lv' := [(7, .int (0 : Int32)), (6, .int (-1 : Int32)), (5, .int (0 : Int32)), (0, .ref o), (1, .int p1), (2, .int p2), (3, .int p3), (4, .int p4)]) K.x K.b dX8_late_46 hl (by decide) rfl (fun ls hl => ?_)
          obtain ⟨e20, hlpe20, h⟩ := z_bd_e h
          have KEe20 : ∀ (H : Heap) (locs : List Loc) (ls : Array Slot), z_H D A s.heap [(o, .inr (7, [.ref o_w, g_kept, g_text, g_size, g_above, g_below, .int v_bads, g_noes, g_fulls, g_at, g_from, g_token, g_value, g_readFault, g_yet, g_fars, g_tells])), (o_w, .inl (y 0, 1960, .inl f_w))] H locs → lv_has ls 9 [(4, .int p4), (5, .int e20.1), (6, .int e20.2)] → W p l e (zR 3 73) s m args below meth c H locs 0 0 Q (F0 m 106 ls []) := by
            intro H locs ls hH hl
            refine lv_iload K.x K.b dX8_late_106 (lv_at hl 0 rfl) ?_
            obtain ⟨j21, hj21, h⟩ := z_bd_e h
            have Kj21 : ∀ (H : Heap) (locs : List Loc) (ls : Array Slot), z_H D A s.heap [(o, .inr (7, [.ref o_w, g_kept, g_text, g_size, g_above, g_below, .int v_bads, g_noes, g_fulls, g_at, g_from, g_token, g_value, g_readFault, g_yet, g_fars, g_tells])), (o_w, .inl (y 0, 1960, .inl f_w))] H locs → lv_has ls 9 [] → W p l e (zR 3 73) s m args below meth c H locs 0 0 Q (F0 m 118 ls [.int j21]) := by
              intro H locs ls hH hl
              have hr9 := Option.some.inj h
              obtain rfl := hr9
              rw [hQ]
              exact z_reti K hr hH [0, 1] (by decide) rfl rfl rfl dX8_late_118
            replace h := hj21
            refine lv_if_ne (tgt := 116) K.x K.b dX8_late_108 (by decide) (fun c22 => ?_) (fun c22 => ?_)
            · replace h := z_f c22 h
              refine lv_iload K.x K.b dX8_late_116 (lv_at hl 2 rfl) ?_
              obtain rfl := Option.some.inj h
              exact Kj21 _ _ _ hH (lv_sub hl [] rfl)
            · replace h := z_t c22 h
              refine lv_iload K.x K.b dX8_late_111 (lv_at hl 1 rfl) ?_
              refine lv_goto (tgt := 118) K.x K.b dX8_late_113 (by decide) ?_
              obtain rfl := Option.some.inj h
              exact Kj21 _ _ _ hH (lv_sub hl [] rfl)
          refine z_lp_ind (P := fun (s19 : Int32 × Int32 × Int32) => ∀ (H : Heap) (locs : List Loc) (ls : Array Slot), z_H D A s.heap [(o, .inr (7, [.ref o_w, g_kept, g_text, g_size, g_above, g_below, .int v_bads, g_noes, g_fulls, g_at, g_from, g_token, g_value, g_readFault, g_yet, g_fars, g_tells])), (o_w, .inl (y 0, 1960, .inl f_w))] H locs → lv_has ls 9 [(0, .ref o), (1, .int p1), (2, .int p2), (3, .int p3), (4, .int p4), (5, .int s19.2.2), (6, .int s19.2.1), (7, .int s19.1)] → W p l e (zR 3 73) s m args below meth c H locs 0 0 Q (F0 m 48 ls [])) ?_ _ hlpe20 _ _ _ hH (lv_sub hl [3, 4, 5, 6, 7, 2, 1, 0] rfl)
          clear h hlpe20
          intro s19 x23 h ihe20 hee20 H locs ls hH hl
          refine lv_iload K.x K.b dX8_late_48 (lv_at hl 7 rfl) ?_
          refine lv_bipush (v := (24)) K.x K.b dX8_late_50 (by decide) ?_
          refine lv_icmp_ge (tgt := 106) K.x K.b dX8_late_52 (by decide) (fun c24 => ?_) (fun c24 => ?_)
          · replace h := z_t c24 h
            obtain rfl := hee20 _ (Option.some.inj h).symm
            exact KEe20 _ _ _ hH (lv_sub hl [4, 5, 6] rfl)
          · replace h := z_f c24 h
            refine lv_aload_n K.x K.b dX8_late_55 rfl (lv_at hl 0 rfl) ?_
            refine lv_iconst (v := (0)) K.x K.b dX8_late_56 (by decide) ?_
            refine lv_iconst (v := (0)) K.x K.b dX8_late_57 (by decide) ?_
            refine lv_iload_n K.x K.b dX8_late_58 rfl (lv_at hl 1 rfl) ?_
            refine lv_iload_n K.x K.b dX8_late_59 rfl (lv_at hl 2 rfl) ?_
            refine lv_iload_n K.x K.b dX8_late_60 rfl (lv_at hl 3 rfl) ?_
            refine lv_iload K.x K.b dX8_late_61 (lv_at hl 7 rfl) ?_
            obtain ⟨r25, hr26, h⟩ := z_bd_e h
            refine z_Vi K hH hl.1 (c_X8_farAt l D y o o_w (g_kept) (g_text) (g_size) (g_above) (g_below) (.int v_bads) (g_noes) (g_fulls) (g_at) (g_from) (g_token) (g_value) (g_readFault) (g_yet) (g_fars) (g_tells) f_w (0 : Int32) (0 : Int32) p1 p2 p3 s19.1 r25 hr26) (z_cwV K 6 tw_5_23 tw_5_25 tw_0_58 tw_1_8 tw_5_26 hd_X8_farAt ⟨by decide, by decide⟩) [0, 1] [] rfl (wr := []) rfl rfl rfl (by decide) rfl rfl rfl (As := [.int (0 : Int32), .int (0 : Int32), .int p1, .int p2, .int p3, .int s19.1]) (rest := []) rfl (Nat.le_of_ble_eq_true rfl) ⟨Nat.zero_le _, Nat.zero_le _⟩ dX8_late_63 (ws' := [(o, .inr (7, [.ref o_w, g_kept, g_text, g_size, g_above, g_below, .int v_bads, g_noes, g_fulls, g_at, g_from, g_token, g_value, g_readFault, g_yet, g_fars, g_tells])), (o_w, .inl (y 0, 1960, .inl f_w))]) rfl (fun H locs hH => ?_)
            refine lv_istore (lv' := [(8, .int r25), (0, .ref o), (1, .int p1), (2, .int p2), (3, .int p3), (4, .int p4), (5, .int s19.2.2), (6, .int s19.2.1), (7, .int s19.1)]) K.x K.b dX8_late_66 hl (by decide) rfl (fun ls hl => ?_)
            refine lv_iload K.x K.b dX8_late_68 (lv_at hl 0 rfl) ?_
            refine lv_iload K.x K.b dX8_late_70 (lv_at hl 7 rfl) ?_
            obtain ⟨j27, hj27, h⟩ := z_bd_e h
            have Kj27 : ∀ (H : Heap) (locs : List Loc) (ls : Array Slot), z_H D A s.heap [(o, .inr (7, [.ref o_w, g_kept, g_text, g_size, g_above, g_below, .int v_bads, g_noes, g_fulls, g_at, g_from, g_token, g_value, g_readFault, g_yet, g_fars, g_tells])), (o_w, .inl (y 0, 1960, .inl f_w))] H locs → lv_has ls 9 [(0, .ref o), (1, .int p1), (2, .int p2), (3, .int p3), (4, .int p4), (6, .int s19.2.1), (7, .int s19.1), (8, .int r25)] → W p l e (zR 3 73) s m args below meth c H locs 0 0 Q (F0 m 82 ls [.int j27]) := by
              intro H locs ls hH hl
              refine lv_istore (lv' := [(5, .int j27), (0, .ref o), (1, .int p1), (2, .int p2), (3, .int p3), (4, .int p4), (6, .int s19.2.1), (7, .int s19.1), (8, .int r25)]) K.x K.b dX8_late_82 hl (by decide) rfl (fun ls hl => ?_)
              refine lv_iload K.x K.b dX8_late_84 (lv_at hl 8 rfl) ?_
              refine lv_iload K.x K.b dX8_late_86 (lv_at hl 6 rfl) ?_
              obtain ⟨j28, hj28, h⟩ := z_bd_e h
              have Kj28 : ∀ (H : Heap) (locs : List Loc) (ls : Array Slot), z_H D A s.heap [(o, .inr (7, [.ref o_w, g_kept, g_text, g_size, g_above, g_below, .int v_bads, g_noes, g_fulls, g_at, g_from, g_token, g_value, g_readFault, g_yet, g_fars, g_tells])), (o_w, .inl (y 0, 1960, .inl f_w))] H locs → lv_has ls 9 [(0, .ref o), (1, .int p1), (2, .int p2), (3, .int p3), (4, .int p4), (5, .int j27), (7, .int s19.1)] → W p l e (zR 3 73) s m args below meth c H locs 0 0 Q (F0 m 98 ls [.int j28]) := by
                intro H locs ls hH hl
                refine lv_istore (lv' := [(6, .int j28), (0, .ref o), (1, .int p1), (2, .int p2), (3, .int p3), (4, .int p4), (5, .int j27), (7, .int s19.1)]) K.x K.b dX8_late_98 hl (by decide) rfl (fun ls hl => ?_)
                obtain ⟨x29, ex29, h⟩ := z_lt_e h
                refine lv_iinc (v := x29) (lv' := [(7, .int x29), (6, .int j28), (0, .ref o), (1, .int p1), (2, .int p2), (3, .int p3), (4, .int p4), (5, .int j27)]) K.x K.b dX8_late_100 hl (k := 7) rfl (by rw [ex29]; rfl) (by decide) rfl (fun ls hl => ?_)
                refine lv_goto (tgt := 48) K.x K.b dX8_late_103 (by decide) ?_
                exact ihe20 _ (Option.some.inj h).symm _ _ _ hH (lv_sub hl [2, 3, 4, 5, 6, 7, 1, 0] rfl)
              replace h := hj28
              refine lv_icmp_le (tgt := 96) K.x K.b dX8_late_88 (by decide) (fun c30 => ?_) (fun c30 => ?_)
              · replace h := z_t c30 h
                refine lv_iload K.x K.b dX8_late_96 (lv_at hl 6 rfl) ?_
                obtain rfl := Option.some.inj h
                exact Kj28 _ _ _ hH (lv_sub hl [1, 2, 3, 4, 5, 0, 7] rfl)
              · replace h := z_f c30 h
                refine lv_iload K.x K.b dX8_late_91 (lv_at hl 8 rfl) ?_
                refine lv_goto (tgt := 98) K.x K.b dX8_late_93 (by decide) ?_
                obtain rfl := Option.some.inj h
                exact Kj28 _ _ _ hH (lv_sub hl [1, 2, 3, 4, 5, 0, 7] rfl)
            replace h := hj27
            refine lv_icmp_le (tgt := 80) K.x K.b dX8_late_72 (by decide) (fun c31 => ?_) (fun c31 => ?_)
            · replace h := z_t c31 h
              refine lv_iload K.x K.b dX8_late_80 (lv_at hl 6 rfl) ?_
              obtain rfl := Option.some.inj h
              exact Kj27 _ _ _ hH (lv_sub hl [1, 2, 3, 4, 5, 7, 8, 0] rfl)
            · replace h := z_f c31 h
              refine lv_iload K.x K.b dX8_late_75 (lv_at hl 8 rfl) ?_
              refine lv_goto (tgt := 82) K.x K.b dX8_late_77 (by decide) ?_
              obtain rfl := Option.some.inj h
              exact Kj27 _ _ _ hH (lv_sub hl [1, 2, 3, 4, 5, 7, 8, 0] rfl)
        · replace h := z_t c18 h
          refine lv_aload_n K.x K.b dX8_late_34 rfl (lv_at hl 0 rfl) ?_
          obtain ⟨r32, hr33, h⟩ := z_bd_e h
          refine z_Vi K hH hl.1 (c_X8_bad l D y o (.ref o_w) (g_kept) (g_text) (g_size) (g_above) (g_below) (g_noes) (g_fulls) (g_at) (g_from) (g_token) (g_value) (g_readFault) (g_yet) (g_fars) (g_tells) v_bads r32 hr33) (z_cwV K 0 tw_4_163 tw_4_165 tw_0_37 tw_1_8 tw_4_166 hd_X8_bad ⟨by decide, by decide⟩) [0] [1] rfl (wr := [(o_w, .inl (y 0, 1960, .inl f_w))]) rfl rfl rfl (by decide) rfl rfl rfl (As := []) (rest := []) rfl (Nat.le_of_ble_eq_true rfl) ⟨Nat.zero_le _, Nat.zero_le _⟩ dX8_late_35 (ws' := [(o_w, .inl (y 0, 1960, .inl f_w)), (o, .inr (7, [.ref o_w, g_kept, g_text, g_size, g_above, g_below, .int r32.2, g_noes, g_fulls, g_at, g_from, g_token, g_value, g_readFault, g_yet, g_fars, g_tells]))]) rfl (fun H locs hH => ?_)
          have hr9 := Option.some.inj h
          obtain rfl := hr9
          rw [hQ]
          exact z_reti K hr hH [1, 0] (by decide) rfl rfl rfl dX8_late_38
def p_X8_isDeed (f_w : (Nat → Int32)) (p1 : Int32) (p2 : Int32) (p3 : Int32) : Option (Int32) :=
  z_lt (((8 : Int32) + ((3 : Int32) * p1))) fun x1 =>
  z_gd (z_in x1 1960) <|
  z_bd (α := Int32) (if ((f_w x1.toNatClampNeg) = p2) then
  (z_lt ((((8 : Int32) + ((3 : Int32) * p1)) + (1 : Int32))) fun x6 =>
  z_gd (z_in x6 1960) <|
  if ((f_w x6.toNatClampNeg) = p3) then
  (some (1 : Int32)) else
  (some (0 : Int32))) else
  (some (0 : Int32))) fun j3 =>
  z_gd (z_bz j3) <|
  some j3
theorem hd_X8_isDeed : yX8_isDeed.cls = RX8 ∧ yX8_isDeed.cls ≠ "java/lang/invoke/MethodHandle" ∧ yX8_isDeed.cls ≠ "java/lang/invoke/VarHandle" ∧ (parseMethodDescriptor yX8_isDeed.desc).map (fun d => d.parameters.length) = some 3 := by decide +kernel
set_option maxHeartbeats 4000000 in
set_option maxRecDepth 100000 in
theorem c_X8_isDeed (l : Launch) (D : va_G) (y : Nat → ClassId) (o o_w : Nat) (g_kept g_text g_size g_above g_below g_bads g_noes g_fulls g_at g_from g_token g_value g_readFault g_yet g_fars g_tells : Value) (f_w : (Nat → Int32)) (p1 : Int32) (p2 : Int32) (p3 : Int32) (r : Int32) (h : p_X8_isDeed f_w p1 p2 p3 = some r) : z_MI l yX8_isDeed cX8_isDeed 4 (some .boolean) 0 0 D y [.ref o, .int p1, .int p2, .int p3] [(o, .inr (7, [.ref o_w, g_kept, g_text, g_size, g_above, g_below, g_bads, g_noes, g_fulls, g_at, g_from, g_token, g_value, g_readFault, g_yet, g_fars, g_tells])), (o_w, .inl (y 0, 1960, .inl f_w))] r [(o, .inr (7, [.ref o_w, g_kept, g_text, g_size, g_above, g_below, g_bads, g_noes, g_fulls, g_at, g_from, g_token, g_value, g_readFault, g_yet, g_fars, g_tells])), (o_w, .inl (y 0, 1960, .inl f_w))] := by
  unfold p_X8_isDeed at h
  refine z_enI (by decide) (Nat.le_of_ble_eq_true rfl) ?_
  intro p e s m args below meth c A ls hr K hH hl
  obtain ⟨Q, hQ⟩ : ∃ Q, Q = MQ below (z_Qi D y A r [(o, .inr (7, [.ref o_w, g_kept, g_text, g_size, g_above, g_below, g_bads, g_noes, g_fulls, g_at, g_from, g_token, g_value, g_readFault, g_yet, g_fars, g_tells])), (o_w, .inl (y 0, 1960, .inl f_w))]) args s 0 0 A := ⟨_, rfl⟩
  rw [← hQ]
  have hl : lv_has ls 4 [(0, .ref o), (1, .int p1), (2, .int p2), (3, .int p3)] := hl
  refine lv_aload_n K.x K.b dX8_isDeed_0 rfl (lv_at hl 0 rfl) ?_
  refine z_get K hH 0 rfl zin_8 rfl 0 (by decide) tw_4_96 (v := .ref o_w) rfl dX8_isDeed_1 ?_
  refine lv_bipush (v := (8)) K.x K.b dX8_isDeed_4 (by decide) ?_
  refine lv_iconst (v := (3)) K.x K.b dX8_isDeed_6 (by decide) ?_
  refine lv_iload_n K.x K.b dX8_isDeed_7 rfl (lv_at hl 1 rfl) ?_
  refine lv_imul K.x K.b dX8_isDeed_8 ?_
  refine lv_iadd K.x K.b dX8_isDeed_9 ?_
  obtain ⟨x1, ex1, h⟩ := z_lt_e h
  refine z_nm ex1 ?_
  obtain ⟨g2, h⟩ := z_gd_e h
  refine z_iald K hH 1 (k := x1.toNatClampNeg) rfl g2 rfl dX8_isDeed_10 ?_
  refine lv_iload_n K.x K.b dX8_isDeed_11 rfl (lv_at hl 2 rfl) ?_
  obtain ⟨j3, hj3, h⟩ := z_bd_e h
  have Kj3 : ∀ (H : Heap) (locs : List Loc) (ls : Array Slot), z_H D A s.heap [(o, .inr (7, [.ref o_w, g_kept, g_text, g_size, g_above, g_below, g_bads, g_noes, g_fulls, g_at, g_from, g_token, g_value, g_readFault, g_yet, g_fars, g_tells])), (o_w, .inl (y 0, 1960, .inl f_w))] H locs → lv_has ls 4 [] → W p l e (zR 0 0) s m args below meth c H locs 0 0 Q (F0 m 37 ls [.int j3]) := by
    intro H locs ls hH hl
    obtain ⟨g4, h⟩ := z_gd_e h
    have hr9 := Option.some.inj h
    obtain rfl := hr9
    rw [hQ]
    exact z_reti K hr hH [0, 1] (by decide) rfl rfl (z_bz_e g4) dX8_isDeed_37
  replace h := hj3
  refine lv_icmp_ne (tgt := 36) K.x K.b dX8_isDeed_12 (by decide) (fun c5 => ?_) (fun c5 => ?_)
  · replace h := z_f c5 h
    refine lv_iconst (v := (0)) K.x K.b dX8_isDeed_36 (by decide) ?_
    obtain rfl := Option.some.inj h
    exact Kj3 _ _ _ hH (lv_sub hl [] rfl)
  · replace h := z_t c5 h
    refine lv_aload_n K.x K.b dX8_isDeed_15 rfl (lv_at hl 0 rfl) ?_
    refine z_get K hH 0 rfl zin_8 rfl 0 (by decide) tw_4_96 (v := .ref o_w) rfl dX8_isDeed_16 ?_
    refine lv_bipush (v := (8)) K.x K.b dX8_isDeed_19 (by decide) ?_
    refine lv_iconst (v := (3)) K.x K.b dX8_isDeed_21 (by decide) ?_
    refine lv_iload_n K.x K.b dX8_isDeed_22 rfl (lv_at hl 1 rfl) ?_
    refine lv_imul K.x K.b dX8_isDeed_23 ?_
    refine lv_iadd K.x K.b dX8_isDeed_24 ?_
    refine lv_iconst (v := (1)) K.x K.b dX8_isDeed_25 (by decide) ?_
    refine lv_iadd K.x K.b dX8_isDeed_26 ?_
    obtain ⟨x6, ex6, h⟩ := z_lt_e h
    refine z_nm ex6 ?_
    obtain ⟨g7, h⟩ := z_gd_e h
    refine z_iald K hH 1 (k := x6.toNatClampNeg) rfl g7 rfl dX8_isDeed_27 ?_
    refine lv_iload_n K.x K.b dX8_isDeed_28 rfl (lv_at hl 3 rfl) ?_
    refine lv_icmp_ne (tgt := 36) K.x K.b dX8_isDeed_29 (by decide) (fun c8 => ?_) (fun c8 => ?_)
    · replace h := z_f c8 h
      refine lv_iconst (v := (0)) K.x K.b dX8_isDeed_36 (by decide) ?_
      obtain rfl := Option.some.inj h
      exact Kj3 _ _ _ hH (lv_sub hl [] rfl)
    · replace h := z_t c8 h
      refine lv_iconst (v := (1)) K.x K.b dX8_isDeed_32 (by decide) ?_
      refine lv_goto (tgt := 37) K.x K.b dX8_isDeed_33 (by decide) ?_
      obtain rfl := Option.some.inj h
      exact Kj3 _ _ _ hH (lv_sub hl [] rfl)
noncomputable def p_X8_apart (f_w : (Nat → Int32)) (p1 : Int32) (p2 : Int32) (p3 : Int32) : Option (Int32) :=
  z_bd (z_lp (S := Int32 × Int32) (E := Int32) (fun s1 =>
  if ((f_w 7) ≤ s1.1) then
  (some (.inr s1.2)) else
  (z_lt ((((8 : Int32) + ((3 : Int32) * s1.1)) + (2 : Int32))) fun x5 =>
  z_gd (z_in x5 1960) <|
  z_lt (((f_w x5.toNatClampNeg) - p3)) fun x7 =>
  z_bd (p_X8_isDeed f_w s1.1 p1 p2) fun r8 =>
  z_bd (α := Int32) (if (r8 = 0) then
  (some (0 : Int32)) else
  (if (0 ≤ x7) then
  (some x7) else
  (some (-x7)))) fun j10 =>
  z_lt ((s1.2 + j10)) fun x11 =>
  z_lt (s1.1 + (1 : Int32)) fun x12 =>
  some (.inl (x12, x11)))) ((0 : Int32), (0 : Int32))) fun e2 =>
  some e2
theorem hd_X8_apart : yX8_apart.cls = RX8 ∧ yX8_apart.cls ≠ "java/lang/invoke/MethodHandle" ∧ yX8_apart.cls ≠ "java/lang/invoke/VarHandle" ∧ (parseMethodDescriptor yX8_apart.desc).map (fun d => d.parameters.length) = some 3 := by decide +kernel
set_option maxHeartbeats 4000000 in
set_option maxRecDepth 100000 in
theorem c_X8_apart (l : Launch) (D : va_G) (y : Nat → ClassId) (o o_w : Nat) (g_kept g_text g_size g_above g_below g_bads g_noes g_fulls g_at g_from g_token g_value g_readFault g_yet g_fars g_tells : Value) (f_w : (Nat → Int32)) (p1 : Int32) (p2 : Int32) (p3 : Int32) (r : Int32) (h : p_X8_apart f_w p1 p2 p3 = some r) : z_MI l yX8_apart cX8_apart 7 (some .int) 1 23 D y [.ref o, .int p1, .int p2, .int p3] [(o, .inr (7, [.ref o_w, g_kept, g_text, g_size, g_above, g_below, g_bads, g_noes, g_fulls, g_at, g_from, g_token, g_value, g_readFault, g_yet, g_fars, g_tells])), (o_w, .inl (y 0, 1960, .inl f_w))] r [(o, .inr (7, [.ref o_w, g_kept, g_text, g_size, g_above, g_below, g_bads, g_noes, g_fulls, g_at, g_from, g_token, g_value, g_readFault, g_yet, g_fars, g_tells])), (o_w, .inl (y 0, 1960, .inl f_w))] := by
  unfold p_X8_apart at h
  refine z_enI (by decide) (Nat.le_of_ble_eq_true rfl) ?_
  intro p e s m args below meth c A ls hr K hH hl
  obtain ⟨Q, hQ⟩ : ∃ Q, Q = MQ below (z_Qi D y A r [(o, .inr (7, [.ref o_w, g_kept, g_text, g_size, g_above, g_below, g_bads, g_noes, g_fulls, g_at, g_from, g_token, g_value, g_readFault, g_yet, g_fars, g_tells])), (o_w, .inl (y 0, 1960, .inl f_w))]) args s 0 0 A := ⟨_, rfl⟩
  rw [← hQ]
  have hl : lv_has ls 7 [(0, .ref o), (1, .int p1), (2, .int p2), (3, .int p3)] := hl
  refine lv_iconst (v := (0)) K.x K.b dX8_apart_0 (by decide) ?_
  refine lv_istore (lv' := [(4, .int (0 : Int32)), (0, .ref o), (1, .int p1), (2, .int p2), (3, .int p3)]) K.x K.b dX8_apart_1 hl (by decide) rfl (fun ls hl => ?_)
  refine lv_iconst (v := (0)) K.x K.b dX8_apart_3 (by decide) ?_
  refine lv_istore (lv' := [(5, .int (0 : Int32)), (4, .int (0 : Int32)), (0, .ref o), (1, .int p1), (2, .int p2), (3, .int p3)]) K.x K.b dX8_apart_4 hl (by decide) rfl (fun ls hl => ?_)
  obtain ⟨e2, hlpe2, h⟩ := z_bd_e h
  have KEe2 : ∀ (H : Heap) (locs : List Loc) (ls : Array Slot), z_H D A s.heap [(o, .inr (7, [.ref o_w, g_kept, g_text, g_size, g_above, g_below, g_bads, g_noes, g_fulls, g_at, g_from, g_token, g_value, g_readFault, g_yet, g_fars, g_tells])), (o_w, .inl (y 0, 1960, .inl f_w))] H locs → lv_has ls 7 [(4, .int e2)] → W p l e (zR 1 23) s m args below meth c H locs 0 0 Q (F0 m 75 ls []) := by
    intro H locs ls hH hl
    refine lv_iload K.x K.b dX8_apart_75 (lv_at hl 0 rfl) ?_
    have hr9 := Option.some.inj h
    obtain rfl := hr9
    rw [hQ]
    exact z_reti K hr hH [0, 1] (by decide) rfl rfl rfl dX8_apart_77
  refine z_lp_ind (P := fun (s1 : Int32 × Int32) => ∀ (H : Heap) (locs : List Loc) (ls : Array Slot), z_H D A s.heap [(o, .inr (7, [.ref o_w, g_kept, g_text, g_size, g_above, g_below, g_bads, g_noes, g_fulls, g_at, g_from, g_token, g_value, g_readFault, g_yet, g_fars, g_tells])), (o_w, .inl (y 0, 1960, .inl f_w))] H locs → lv_has ls 7 [(0, .ref o), (1, .int p1), (2, .int p2), (3, .int p3), (4, .int s1.2), (5, .int s1.1)] → W p l e (zR 1 23) s m args below meth c H locs 0 0 Q (F0 m 6 ls [])) ?_ _ hlpe2 _ _ _ hH (lv_sub hl [2, 3, 4, 5, 1, 0] rfl)
  clear h hlpe2
  intro s1 x3 h ihe2 hee2 H locs ls hH hl
  refine lv_iload K.x K.b dX8_apart_6 (lv_at hl 5 rfl) ?_
  refine lv_aload_n K.x K.b dX8_apart_8 rfl (lv_at hl 0 rfl) ?_
  refine z_get K hH 0 rfl zin_8 rfl 0 (by decide) tw_4_96 (v := .ref o_w) rfl dX8_apart_9 ?_
  refine lv_bipush (v := (7)) K.x K.b dX8_apart_12 (by decide) ?_
  refine z_iald K hH 1 (k := 7) rfl (by decide) rfl dX8_apart_14 ?_
  refine lv_icmp_ge (tgt := 75) K.x K.b dX8_apart_15 (by decide) (fun c4 => ?_) (fun c4 => ?_)
  · replace h := z_t c4 h
    obtain rfl := hee2 _ (Option.some.inj h).symm
    exact KEe2 _ _ _ hH (lv_sub hl [4] rfl)
  · replace h := z_f c4 h
    refine lv_aload_n K.x K.b dX8_apart_18 rfl (lv_at hl 0 rfl) ?_
    refine z_get K hH 0 rfl zin_8 rfl 0 (by decide) tw_4_96 (v := .ref o_w) rfl dX8_apart_19 ?_
    refine lv_bipush (v := (8)) K.x K.b dX8_apart_22 (by decide) ?_
    refine lv_iconst (v := (3)) K.x K.b dX8_apart_24 (by decide) ?_
    refine lv_iload K.x K.b dX8_apart_25 (lv_at hl 5 rfl) ?_
    refine lv_imul K.x K.b dX8_apart_27 ?_
    refine lv_iadd K.x K.b dX8_apart_28 ?_
    refine lv_iconst (v := (2)) K.x K.b dX8_apart_29 (by decide) ?_
    refine lv_iadd K.x K.b dX8_apart_30 ?_
    obtain ⟨x5, ex5, h⟩ := z_lt_e h
    refine z_nm ex5 ?_
    obtain ⟨g6, h⟩ := z_gd_e h
    refine z_iald K hH 1 (k := x5.toNatClampNeg) rfl g6 rfl dX8_apart_31 ?_
    refine lv_iload_n K.x K.b dX8_apart_32 rfl (lv_at hl 3 rfl) ?_
    refine lv_isub K.x K.b dX8_apart_33 ?_
    obtain ⟨x7, ex7, h⟩ := z_lt_e h
    refine z_nm ex7 ?_
    refine lv_istore (lv' := [(6, .int x7), (0, .ref o), (1, .int p1), (2, .int p2), (3, .int p3), (4, .int s1.2), (5, .int s1.1)]) K.x K.b dX8_apart_34 hl (by decide) rfl (fun ls hl => ?_)
    refine lv_iload K.x K.b dX8_apart_36 (lv_at hl 5 rfl) ?_
    refine lv_aload_n K.x K.b dX8_apart_38 rfl (lv_at hl 1 rfl) ?_
    refine lv_iload K.x K.b dX8_apart_39 (lv_at hl 6 rfl) ?_
    refine lv_iload_n K.x K.b dX8_apart_41 rfl (lv_at hl 2 rfl) ?_
    refine lv_iload_n K.x K.b dX8_apart_42 rfl (lv_at hl 3 rfl) ?_
    obtain ⟨r8, hr9, h⟩ := z_bd_e h
    refine z_Vi K hH hl.1 (c_X8_isDeed l D y o o_w (g_kept) (g_text) (g_size) (g_above) (g_below) (g_bads) (g_noes) (g_fulls) (g_at) (g_from) (g_token) (g_value) (g_readFault) (g_yet) (g_fars) (g_tells) f_w s1.1 p1 p2 r8 hr9) (z_cwV K 3 tw_5_160 tw_5_162 tw_0_76 tw_1_8 tw_5_163 hd_X8_isDeed ⟨by decide, by decide⟩) [0, 1] [] rfl (wr := []) rfl rfl rfl (by decide) rfl rfl rfl (As := [.int s1.1, .int p1, .int p2]) (rest := [.int s1.2]) rfl (Nat.le_of_ble_eq_true rfl) ⟨Nat.zero_le _, Nat.zero_le _⟩ dX8_apart_43 (ws' := [(o, .inr (7, [.ref o_w, g_kept, g_text, g_size, g_above, g_below, g_bads, g_noes, g_fulls, g_at, g_from, g_token, g_value, g_readFault, g_yet, g_fars, g_tells])), (o_w, .inl (y 0, 1960, .inl f_w))]) rfl (fun H locs hH => ?_)
    obtain ⟨j10, hj10, h⟩ := z_bd_e h
    have Kj10 : ∀ (H : Heap) (locs : List Loc) (ls : Array Slot), z_H D A s.heap [(o, .inr (7, [.ref o_w, g_kept, g_text, g_size, g_above, g_below, g_bads, g_noes, g_fulls, g_at, g_from, g_token, g_value, g_readFault, g_yet, g_fars, g_tells])), (o_w, .inl (y 0, 1960, .inl f_w))] H locs → lv_has ls 7 [(0, .ref o), (1, .int p1), (2, .int p2), (3, .int p3), (5, .int s1.1)] → W p l e (zR 1 23) s m args below meth c H locs 0 0 Q (F0 m 66 ls [.int j10, .int s1.2]) := by
      intro H locs ls hH hl
      refine lv_iadd K.x K.b dX8_apart_66 ?_
      obtain ⟨x11, ex11, h⟩ := z_lt_e h
      refine z_nm ex11 ?_
      refine lv_istore (lv' := [(4, .int x11), (0, .ref o), (1, .int p1), (2, .int p2), (3, .int p3), (5, .int s1.1)]) K.x K.b dX8_apart_67 hl (by decide) rfl (fun ls hl => ?_)
      obtain ⟨x12, ex12, h⟩ := z_lt_e h
      refine lv_iinc (v := x12) (lv' := [(5, .int x12), (4, .int x11), (0, .ref o), (1, .int p1), (2, .int p2), (3, .int p3)]) K.x K.b dX8_apart_69 hl (k := 5) rfl (by rw [ex12]; rfl) (by decide) rfl (fun ls hl => ?_)
      refine lv_goto (tgt := 6) K.x K.b dX8_apart_72 (by decide) ?_
      exact ihe2 _ (Option.some.inj h).symm _ _ _ hH (lv_sub hl [2, 3, 4, 5, 1, 0] rfl)
    replace h := hj10
    refine lv_if_ne (tgt := 53) K.x K.b dX8_apart_46 (by decide) (fun c13 => ?_) (fun c13 => ?_)
    · replace h := z_f c13 h
      refine lv_iload K.x K.b dX8_apart_53 (lv_at hl 0 rfl) ?_
      refine lv_if_ge (tgt := 64) K.x K.b dX8_apart_55 (by decide) (fun c14 => ?_) (fun c14 => ?_)
      · replace h := z_t c14 h
        refine lv_iload K.x K.b dX8_apart_64 (lv_at hl 0 rfl) ?_
        obtain rfl := Option.some.inj h
        exact Kj10 _ _ _ hH (lv_sub hl [1, 2, 3, 4, 6] rfl)
      · replace h := z_f c14 h
        refine lv_iload K.x K.b dX8_apart_58 (lv_at hl 0 rfl) ?_
        refine lv_ineg K.x K.b dX8_apart_60 ?_
        refine lv_goto (tgt := 66) K.x K.b dX8_apart_61 (by decide) ?_
        obtain rfl := Option.some.inj h
        exact Kj10 _ _ _ hH (lv_sub hl [1, 2, 3, 4, 6] rfl)
    · replace h := z_t c13 h
      refine lv_iconst (v := (0)) K.x K.b dX8_apart_49 (by decide) ?_
      refine lv_goto (tgt := 66) K.x K.b dX8_apart_50 (by decide) ?_
      obtain rfl := Option.some.inj h
      exact Kj10 _ _ _ hH (lv_sub hl [1, 2, 3, 4, 6] rfl)
noncomputable def p_X8_standard (v_bads : Int32) (f_w : (Nat → Int32)) (p1 : Int32) (p2 : Int32) : Option (Int32 × Int32) :=
  z_bd (p_X8_isPlace f_w p1) fun r1 =>
  if (r1 = 0) then
  (z_bd (p_X8_bad v_bads) fun r4 =>
  some (r4.1, r4.2)) else
  (z_bd (p_X8_isPlace f_w p2) fun r6 =>
  if (r6 = 0) then
  (z_bd (p_X8_bad v_bads) fun r31 =>
  some (r31.1, r31.2)) else
  (z_bd (z_lp (S := Int32 × Int32 × Int32) (E := Int32) (fun s9 =>
  if ((f_w 7) ≤ s9.1) then
  (some (.inr s9.2.2)) else
  (z_lt ((((8 : Int32) + ((3 : Int32) * s9.1)) + (2 : Int32))) fun x13 =>
  z_gd (z_in x13 1960) <|
  z_lt ((f_w x13.toNatClampNeg)) fun x15 =>
  z_bd (p_X8_isDeed f_w s9.1 p1 p2) fun r16 =>
  z_bd (α := Int32 × Int32) (if (r16 = 0) then
  (some (s9.2.2, s9.2.1)) else
  (z_bd (p_X8_apart f_w p1 p2 x15) fun r21 =>
  z_bd (α := Int32) (if (r21 < s9.2.1) then
  (some (1 : Int32)) else
  (if (r21 = s9.2.1) then
  (if (s9.2.2 ≤ x15) then
  (some (0 : Int32)) else
  (some (1 : Int32))) else
  (some (0 : Int32)))) fun j23 =>
  z_bd (α := Int32) (if (j23 = 0) then
  (some s9.2.2) else
  (some x15)) fun j24 =>
  z_bd (α := Int32) (if (s9.2.1 ≤ r21) then
  (some s9.2.1) else
  (some r21)) fun j25 =>
  some (j24, j25))) fun j18 =>
  z_lt (s9.1 + (1 : Int32)) fun x19 =>
  some (.inl (x19, j18.2, j18.1)))) ((0 : Int32), (99999999 : Int32), (-1 : Int32))) fun e10 =>
  some (e10, v_bads)))
theorem hd_X8_standard : yX8_standard.cls = RX8 ∧ yX8_standard.cls ≠ "java/lang/invoke/MethodHandle" ∧ yX8_standard.cls ≠ "java/lang/invoke/VarHandle" ∧ (parseMethodDescriptor yX8_standard.desc).map (fun d => d.parameters.length) = some 2 := by decide +kernel
set_option maxHeartbeats 4000000 in
set_option maxRecDepth 100000 in
theorem c_X8_standard (l : Launch) (D : va_G) (y : Nat → ClassId) (o o_w : Nat) (g_kept g_text g_size g_above g_below g_noes g_fulls g_at g_from g_token g_value g_readFault g_yet g_fars g_tells : Value) (v_bads : Int32) (f_w : (Nat → Int32)) (p1 : Int32) (p2 : Int32) (r : Int32 × Int32) (h : p_X8_standard v_bads f_w p1 p2 = some r) : z_MI l yX8_standard cX8_standard 9 (some .int) 2 49 D y [.ref o, .int p1, .int p2] [(o, .inr (7, [.ref o_w, g_kept, g_text, g_size, g_above, g_below, .int v_bads, g_noes, g_fulls, g_at, g_from, g_token, g_value, g_readFault, g_yet, g_fars, g_tells])), (o_w, .inl (y 0, 1960, .inl f_w))] r.1 [(o, .inr (7, [.ref o_w, g_kept, g_text, g_size, g_above, g_below, .int r.2, g_noes, g_fulls, g_at, g_from, g_token, g_value, g_readFault, g_yet, g_fars, g_tells])), (o_w, .inl (y 0, 1960, .inl f_w))] := by
  unfold p_X8_standard at h
  refine z_enI (by decide) (Nat.le_of_ble_eq_true rfl) ?_
  intro p e s m args below meth c A ls hr K hH hl
  obtain ⟨Q, hQ⟩ : ∃ Q, Q = MQ below (z_Qi D y A r.1 [(o, .inr (7, [.ref o_w, g_kept, g_text, g_size, g_above, g_below, .int r.2, g_noes, g_fulls, g_at, g_from, g_token, g_value, g_readFault, g_yet, g_fars, g_tells])), (o_w, .inl (y 0, 1960, .inl f_w))]) args s 0 0 A := ⟨_, rfl⟩
  rw [← hQ]
  have hl : lv_has ls 9 [(0, .ref o), (1, .int p1), (2, .int p2)] := hl
  refine lv_aload_n K.x K.b dX8_standard_0 rfl (lv_at hl 0 rfl) ?_
  refine lv_iload_n K.x K.b dX8_standard_1 rfl (lv_at hl 1 rfl) ?_
  obtain ⟨r1, hr2, h⟩ := z_bd_e h
  refine z_Vi K hH hl.1 (c_X8_isPlace l D y o o_w (g_kept) (g_text) (g_size) (g_above) (g_below) (.int v_bads) (g_noes) (g_fulls) (g_at) (g_from) (g_token) (g_value) (g_readFault) (g_yet) (g_fars) (g_tells) f_w p1 r1 hr2) (z_cwV K 1 tw_4_179 tw_4_181 tw_0_40 tw_1_8 tw_4_182 hd_X8_isPlace ⟨by decide, by decide⟩) [0, 1] [] rfl (wr := []) rfl rfl rfl (by decide) rfl rfl rfl (As := [.int p1]) (rest := []) rfl (Nat.le_of_ble_eq_true rfl) ⟨Nat.zero_le _, Nat.zero_le _⟩ dX8_standard_2 (ws' := [(o, .inr (7, [.ref o_w, g_kept, g_text, g_size, g_above, g_below, .int v_bads, g_noes, g_fulls, g_at, g_from, g_token, g_value, g_readFault, g_yet, g_fars, g_tells])), (o_w, .inl (y 0, 1960, .inl f_w))]) rfl (fun H locs hH => ?_)
  refine lv_if_eq (tgt := 16) K.x K.b dX8_standard_5 (by decide) (fun c3 => ?_) (fun c3 => ?_)
  · replace h := z_t c3 h
    refine lv_aload_n K.x K.b dX8_standard_16 rfl (lv_at hl 0 rfl) ?_
    obtain ⟨r4, hr5, h⟩ := z_bd_e h
    refine z_Vi K hH hl.1 (c_X8_bad l D y o (.ref o_w) (g_kept) (g_text) (g_size) (g_above) (g_below) (g_noes) (g_fulls) (g_at) (g_from) (g_token) (g_value) (g_readFault) (g_yet) (g_fars) (g_tells) v_bads r4 hr5) (z_cwV K 0 tw_4_163 tw_4_165 tw_0_37 tw_1_8 tw_4_166 hd_X8_bad ⟨by decide, by decide⟩) [0] [1] rfl (wr := [(o_w, .inl (y 0, 1960, .inl f_w))]) rfl rfl rfl (by decide) rfl rfl rfl (As := []) (rest := []) rfl (Nat.le_of_ble_eq_true rfl) ⟨Nat.zero_le _, Nat.zero_le _⟩ dX8_standard_17 (ws' := [(o_w, .inl (y 0, 1960, .inl f_w)), (o, .inr (7, [.ref o_w, g_kept, g_text, g_size, g_above, g_below, .int r4.2, g_noes, g_fulls, g_at, g_from, g_token, g_value, g_readFault, g_yet, g_fars, g_tells]))]) rfl (fun H locs hH => ?_)
    have hr9 := Option.some.inj h
    obtain rfl := hr9
    rw [hQ]
    exact z_reti K hr hH [1, 0] (by decide) rfl rfl rfl dX8_standard_20
  · replace h := z_f c3 h
    refine lv_aload_n K.x K.b dX8_standard_8 rfl (lv_at hl 0 rfl) ?_
    refine lv_iload_n K.x K.b dX8_standard_9 rfl (lv_at hl 2 rfl) ?_
    obtain ⟨r6, hr7, h⟩ := z_bd_e h
    refine z_Vi K hH hl.1 (c_X8_isPlace l D y o o_w (g_kept) (g_text) (g_size) (g_above) (g_below) (.int v_bads) (g_noes) (g_fulls) (g_at) (g_from) (g_token) (g_value) (g_readFault) (g_yet) (g_fars) (g_tells) f_w p2 r6 hr7) (z_cwV K 1 tw_4_179 tw_4_181 tw_0_40 tw_1_8 tw_4_182 hd_X8_isPlace ⟨by decide, by decide⟩) [0, 1] [] rfl (wr := []) rfl rfl rfl (by decide) rfl rfl rfl (As := [.int p2]) (rest := []) rfl (Nat.le_of_ble_eq_true rfl) ⟨Nat.zero_le _, Nat.zero_le _⟩ dX8_standard_10 (ws' := [(o, .inr (7, [.ref o_w, g_kept, g_text, g_size, g_above, g_below, .int v_bads, g_noes, g_fulls, g_at, g_from, g_token, g_value, g_readFault, g_yet, g_fars, g_tells])), (o_w, .inl (y 0, 1960, .inl f_w))]) rfl (fun H locs hH => ?_)
    refine lv_if_ne (tgt := 21) K.x K.b dX8_standard_13 (by decide) (fun c8 => ?_) (fun c8 => ?_)
    · replace h := z_f c8 h
      refine lv_iconst (v := (-1)) K.x K.b dX8_standard_21 (by decide) ?_
      refine lv_istore_n (lv' := [(3, .int (-1 : Int32)), (0, .ref o), (1, .int p1), (2, .int p2)]) K.x K.b dX8_standard_22 rfl hl (by decide) rfl (fun ls hl => ?_)
      refine z_ldc K tw_5_131 dX8_standard_23 ?_
      refine lv_istore (lv' := [(4, .int (99999999 : Int32)), (3, .int (-1 : Int32)), (0, .ref o), (1, .int p1), (2, .int p2)]) K.x K.b dX8_standard_25 hl (by decide) rfl (fun ls hl => ?_)
      refine lv_iconst (v := (0)) K.x K.b dX8_standard_27 (by decide) ?_
      refine lv_istore (lv' := [(5, .int (0 : Int32)), (4, .int (99999999 : Int32)), (3, .int (-1 : Int32)), (0, .ref o), (1, .int p1), (2, .int p2)]) K.x K.b dX8_standard_28 hl (by decide) rfl (fun ls hl => ?_)
      obtain ⟨e10, hlpe10, h⟩ := z_bd_e h
      have KEe10 : ∀ (H : Heap) (locs : List Loc) (ls : Array Slot), z_H D A s.heap [(o, .inr (7, [.ref o_w, g_kept, g_text, g_size, g_above, g_below, .int v_bads, g_noes, g_fulls, g_at, g_from, g_token, g_value, g_readFault, g_yet, g_fars, g_tells])), (o_w, .inl (y 0, 1960, .inl f_w))] H locs → lv_has ls 9 [(3, .int e10)] → W p l e (zR 2 49) s m args below meth c H locs 0 0 Q (F0 m 140 ls []) := by
        intro H locs ls hH hl
        refine lv_iload_n K.x K.b dX8_standard_140 rfl (lv_at hl 0 rfl) ?_
        have hr9 := Option.some.inj h
        obtain rfl := hr9
        rw [hQ]
        exact z_reti K hr hH [0, 1] (by decide) rfl rfl rfl dX8_standard_141
      refine z_lp_ind (P := fun (s9 : Int32 × Int32 × Int32) => ∀ (H : Heap) (locs : List Loc) (ls : Array Slot), z_H D A s.heap [(o, .inr (7, [.ref o_w, g_kept, g_text, g_size, g_above, g_below, .int v_bads, g_noes, g_fulls, g_at, g_from, g_token, g_value, g_readFault, g_yet, g_fars, g_tells])), (o_w, .inl (y 0, 1960, .inl f_w))] H locs → lv_has ls 9 [(0, .ref o), (1, .int p1), (2, .int p2), (3, .int s9.2.2), (4, .int s9.2.1), (5, .int s9.1)] → W p l e (zR 2 49) s m args below meth c H locs 0 0 Q (F0 m 30 ls [])) ?_ _ hlpe10 _ _ _ hH (lv_sub hl [3, 4, 5, 2, 1, 0] rfl)
      clear h hlpe10
      intro s9 x11 h ihe10 hee10 H locs ls hH hl
      refine lv_iload K.x K.b dX8_standard_30 (lv_at hl 5 rfl) ?_
      refine lv_aload_n K.x K.b dX8_standard_32 rfl (lv_at hl 0 rfl) ?_
      refine z_get K hH 0 rfl zin_8 rfl 0 (by decide) tw_4_96 (v := .ref o_w) rfl dX8_standard_33 ?_
      refine lv_bipush (v := (7)) K.x K.b dX8_standard_36 (by decide) ?_
      refine z_iald K hH 1 (k := 7) rfl (by decide) rfl dX8_standard_38 ?_
      refine lv_icmp_ge (tgt := 140) K.x K.b dX8_standard_39 (by decide) (fun c12 => ?_) (fun c12 => ?_)
      · replace h := z_t c12 h
        obtain rfl := hee10 _ (Option.some.inj h).symm
        exact KEe10 _ _ _ hH (lv_sub hl [3] rfl)
      · replace h := z_f c12 h
        refine lv_aload_n K.x K.b dX8_standard_42 rfl (lv_at hl 0 rfl) ?_
        refine z_get K hH 0 rfl zin_8 rfl 0 (by decide) tw_4_96 (v := .ref o_w) rfl dX8_standard_43 ?_
        refine lv_bipush (v := (8)) K.x K.b dX8_standard_46 (by decide) ?_
        refine lv_iconst (v := (3)) K.x K.b dX8_standard_48 (by decide) ?_
        refine lv_iload K.x K.b dX8_standard_49 (lv_at hl 5 rfl) ?_
        refine lv_imul K.x K.b dX8_standard_51 ?_
        refine lv_iadd K.x K.b dX8_standard_52 ?_
        refine lv_iconst (v := (2)) K.x K.b dX8_standard_53 (by decide) ?_
        refine lv_iadd K.x K.b dX8_standard_54 ?_
        obtain ⟨x13, ex13, h⟩ := z_lt_e h
        refine z_nm ex13 ?_
        obtain ⟨g14, h⟩ := z_gd_e h
        refine z_iald K hH 1 (k := x13.toNatClampNeg) rfl g14 rfl dX8_standard_55 ?_
        obtain ⟨x15, ex15, h⟩ := z_lt_e h
        refine z_nm ex15 ?_
        refine lv_istore (lv' := [(6, .int x15), (0, .ref o), (1, .int p1), (2, .int p2), (3, .int s9.2.2), (4, .int s9.2.1), (5, .int s9.1)]) K.x K.b dX8_standard_56 hl (by decide) rfl (fun ls hl => ?_)
        refine lv_aload_n K.x K.b dX8_standard_58 rfl (lv_at hl 1 rfl) ?_
        refine lv_iload K.x K.b dX8_standard_59 (lv_at hl 6 rfl) ?_
        refine lv_iload_n K.x K.b dX8_standard_61 rfl (lv_at hl 2 rfl) ?_
        refine lv_iload_n K.x K.b dX8_standard_62 rfl (lv_at hl 3 rfl) ?_
        obtain ⟨r16, hr17, h⟩ := z_bd_e h
        refine z_Vi K hH hl.1 (c_X8_isDeed l D y o o_w (g_kept) (g_text) (g_size) (g_above) (g_below) (.int v_bads) (g_noes) (g_fulls) (g_at) (g_from) (g_token) (g_value) (g_readFault) (g_yet) (g_fars) (g_tells) f_w s9.1 p1 p2 r16 hr17) (z_cwV K 3 tw_5_160 tw_5_162 tw_0_76 tw_1_8 tw_5_163 hd_X8_isDeed ⟨by decide, by decide⟩) [0, 1] [] rfl (wr := []) rfl rfl rfl (by decide) rfl rfl rfl (As := [.int s9.1, .int p1, .int p2]) (rest := []) rfl (Nat.le_of_ble_eq_true rfl) ⟨Nat.zero_le _, Nat.zero_le _⟩ dX8_standard_63 (ws' := [(o, .inr (7, [.ref o_w, g_kept, g_text, g_size, g_above, g_below, .int v_bads, g_noes, g_fulls, g_at, g_from, g_token, g_value, g_readFault, g_yet, g_fars, g_tells])), (o_w, .inl (y 0, 1960, .inl f_w))]) rfl (fun H locs hH => ?_)
        obtain ⟨j18, hj18, h⟩ := z_bd_e h
        have Kj18 : ∀ (H : Heap) (locs : List Loc) (ls : Array Slot), z_H D A s.heap [(o, .inr (7, [.ref o_w, g_kept, g_text, g_size, g_above, g_below, .int v_bads, g_noes, g_fulls, g_at, g_from, g_token, g_value, g_readFault, g_yet, g_fars, g_tells])), (o_w, .inl (y 0, 1960, .inl f_w))] H locs → lv_has ls 9 [(0, .ref o), (1, .int p1), (2, .int p2), (3, .int j18.1), (4, .int j18.2), (5, .int s9.1)] → W p l e (zR 2 49) s m args below meth c H locs 0 0 Q (F0 m 134 ls []) := by
          intro H locs ls hH hl
          obtain ⟨x19, ex19, h⟩ := z_lt_e h
          refine lv_iinc (v := x19) (lv' := [(5, .int x19), (0, .ref o), (1, .int p1), (2, .int p2), (3, .int j18.1), (4, .int j18.2)]) K.x K.b dX8_standard_134 hl (k := 5) rfl (by rw [ex19]; rfl) (by decide) rfl (fun ls hl => ?_)
          refine lv_goto (tgt := 30) K.x K.b dX8_standard_137 (by decide) ?_
          exact ihe10 _ (Option.some.inj h).symm _ _ _ hH (lv_sub hl [1, 2, 3, 4, 5, 0] rfl)
        replace h := hj18
        refine lv_if_eq (tgt := 134) K.x K.b dX8_standard_66 (by decide) (fun c20 => ?_) (fun c20 => ?_)
        · replace h := z_t c20 h
          obtain rfl := Option.some.inj h
          exact Kj18 _ _ _ hH (lv_sub hl [1, 2, 3, 4, 5, 6] rfl)
        · replace h := z_f c20 h
          refine lv_aload_n K.x K.b dX8_standard_69 rfl (lv_at hl 1 rfl) ?_
          refine lv_iload_n K.x K.b dX8_standard_70 rfl (lv_at hl 2 rfl) ?_
          refine lv_iload_n K.x K.b dX8_standard_71 rfl (lv_at hl 3 rfl) ?_
          refine lv_iload K.x K.b dX8_standard_72 (lv_at hl 0 rfl) ?_
          obtain ⟨r21, hr22, h⟩ := z_bd_e h
          refine z_Vi K hH hl.1 (c_X8_apart l D y o o_w (g_kept) (g_text) (g_size) (g_above) (g_below) (.int v_bads) (g_noes) (g_fulls) (g_at) (g_from) (g_token) (g_value) (g_readFault) (g_yet) (g_fars) (g_tells) f_w p1 p2 x15 r21 hr22) (z_cwV K 3 tw_5_164 tw_5_166 tw_0_77 tw_1_8 tw_5_167 hd_X8_apart ⟨by decide, by decide⟩) [0, 1] [] rfl (wr := []) rfl rfl rfl (by decide) rfl rfl rfl (As := [.int p1, .int p2, .int x15]) (rest := []) rfl (Nat.le_of_ble_eq_true rfl) ⟨Nat.zero_le _, Nat.zero_le _⟩ dX8_standard_74 (ws' := [(o, .inr (7, [.ref o_w, g_kept, g_text, g_size, g_above, g_below, .int v_bads, g_noes, g_fulls, g_at, g_from, g_token, g_value, g_readFault, g_yet, g_fars, g_tells])), (o_w, .inl (y 0, 1960, .inl f_w))]) rfl (fun H locs hH => ?_)
          refine lv_istore (lv' := [(7, .int r21), (6, .int x15), (0, .ref o), (1, .int p1), (2, .int p2), (3, .int s9.2.2), (4, .int s9.2.1), (5, .int s9.1)]) K.x K.b dX8_standard_77 hl (by decide) rfl (fun ls hl => ?_)
          refine lv_iload K.x K.b dX8_standard_79 (lv_at hl 0 rfl) ?_
          refine lv_iload K.x K.b dX8_standard_81 (lv_at hl 6 rfl) ?_
          obtain ⟨j23, hj23, h⟩ := z_bd_e h
          have Kj23 : ∀ (H : Heap) (locs : List Loc) (ls : Array Slot), z_H D A s.heap [(o, .inr (7, [.ref o_w, g_kept, g_text, g_size, g_above, g_below, .int v_bads, g_noes, g_fulls, g_at, g_from, g_token, g_value, g_readFault, g_yet, g_fars, g_tells])), (o_w, .inl (y 0, 1960, .inl f_w))] H locs → lv_has ls 9 [(0, .ref o), (1, .int p1), (2, .int p2), (3, .int s9.2.2), (4, .int s9.2.1), (5, .int s9.1), (6, .int x15), (7, .int r21)] → W p l e (zR 2 49) s m args below meth c H locs 0 0 Q (F0 m 104 ls [.int j23]) := by
            intro H locs ls hH hl
            refine lv_istore (lv' := [(8, .int j23), (0, .ref o), (1, .int p1), (2, .int p2), (3, .int s9.2.2), (4, .int s9.2.1), (5, .int s9.1), (6, .int x15), (7, .int r21)]) K.x K.b dX8_standard_104 hl (by decide) rfl (fun ls hl => ?_)
            refine lv_iload K.x K.b dX8_standard_106 (lv_at hl 0 rfl) ?_
            obtain ⟨j24, hj24, h⟩ := z_bd_e h
            have Kj24 : ∀ (H : Heap) (locs : List Loc) (ls : Array Slot), z_H D A s.heap [(o, .inr (7, [.ref o_w, g_kept, g_text, g_size, g_above, g_below, .int v_bads, g_noes, g_fulls, g_at, g_from, g_token, g_value, g_readFault, g_yet, g_fars, g_tells])), (o_w, .inl (y 0, 1960, .inl f_w))] H locs → lv_has ls 9 [(0, .ref o), (1, .int p1), (2, .int p2), (4, .int s9.2.1), (5, .int s9.1), (7, .int r21)] → W p l e (zR 2 49) s m args below meth c H locs 0 0 Q (F0 m 117 ls [.int j24]) := by
              intro H locs ls hH hl
              refine lv_istore_n (lv' := [(3, .int j24), (0, .ref o), (1, .int p1), (2, .int p2), (4, .int s9.2.1), (5, .int s9.1), (7, .int r21)]) K.x K.b dX8_standard_117 rfl hl (by decide) rfl (fun ls hl => ?_)
              refine lv_iload K.x K.b dX8_standard_118 (lv_at hl 6 rfl) ?_
              refine lv_iload K.x K.b dX8_standard_120 (lv_at hl 4 rfl) ?_
              obtain ⟨j25, hj25, h⟩ := z_bd_e h
              have Kj25 : ∀ (H : Heap) (locs : List Loc) (ls : Array Slot), z_H D A s.heap [(o, .inr (7, [.ref o_w, g_kept, g_text, g_size, g_above, g_below, .int v_bads, g_noes, g_fulls, g_at, g_from, g_token, g_value, g_readFault, g_yet, g_fars, g_tells])), (o_w, .inl (y 0, 1960, .inl f_w))] H locs → lv_has ls 9 [(0, .ref o), (1, .int p1), (2, .int p2), (3, .int j24), (5, .int s9.1)] → W p l e (zR 2 49) s m args below meth c H locs 0 0 Q (F0 m 132 ls [.int j25]) := by
                intro H locs ls hH hl
                refine lv_istore (lv' := [(4, .int j25), (0, .ref o), (1, .int p1), (2, .int p2), (3, .int j24), (5, .int s9.1)]) K.x K.b dX8_standard_132 hl (by decide) rfl (fun ls hl => ?_)
                obtain rfl := Option.some.inj h
                exact Kj18 _ _ _ hH (lv_sub hl [1, 2, 3, 4, 0, 5] rfl)
              replace h := hj25
              refine lv_icmp_ge (tgt := 130) K.x K.b dX8_standard_122 (by decide) (fun c26 => ?_) (fun c26 => ?_)
              · replace h := z_t c26 h
                refine lv_iload K.x K.b dX8_standard_130 (lv_at hl 4 rfl) ?_
                obtain rfl := Option.some.inj h
                exact Kj25 _ _ _ hH (lv_sub hl [1, 2, 3, 0, 5] rfl)
              · replace h := z_f c26 h
                refine lv_iload K.x K.b dX8_standard_125 (lv_at hl 6 rfl) ?_
                refine lv_goto (tgt := 132) K.x K.b dX8_standard_127 (by decide) ?_
                obtain rfl := Option.some.inj h
                exact Kj25 _ _ _ hH (lv_sub hl [1, 2, 3, 0, 5] rfl)
            replace h := hj24
            refine lv_if_eq (tgt := 116) K.x K.b dX8_standard_108 (by decide) (fun c27 => ?_) (fun c27 => ?_)
            · replace h := z_t c27 h
              refine lv_iload_n K.x K.b dX8_standard_116 rfl (lv_at hl 4 rfl) ?_
              obtain rfl := Option.some.inj h
              exact Kj24 _ _ _ hH (lv_sub hl [1, 2, 3, 5, 6, 8] rfl)
            · replace h := z_f c27 h
              refine lv_iload K.x K.b dX8_standard_111 (lv_at hl 7 rfl) ?_
              refine lv_goto (tgt := 117) K.x K.b dX8_standard_113 (by decide) ?_
              obtain rfl := Option.some.inj h
              exact Kj24 _ _ _ hH (lv_sub hl [1, 2, 3, 5, 6, 8] rfl)
          replace h := hj23
          refine lv_icmp_lt (tgt := 99) K.x K.b dX8_standard_83 (by decide) (fun c28 => ?_) (fun c28 => ?_)
          · replace h := z_t c28 h
            refine lv_iconst (v := (1)) K.x K.b dX8_standard_99 (by decide) ?_
            refine lv_goto (tgt := 104) K.x K.b dX8_standard_100 (by decide) ?_
            obtain rfl := Option.some.inj h
            exact Kj23 _ _ _ hH (lv_sub hl [2, 3, 4, 5, 6, 7, 1, 0] rfl)
          · replace h := z_f c28 h
            refine lv_iload K.x K.b dX8_standard_86 (lv_at hl 0 rfl) ?_
            refine lv_iload K.x K.b dX8_standard_88 (lv_at hl 6 rfl) ?_
            refine lv_icmp_ne (tgt := 103) K.x K.b dX8_standard_90 (by decide) (fun c29 => ?_) (fun c29 => ?_)
            · replace h := z_f c29 h
              refine lv_iconst (v := (0)) K.x K.b dX8_standard_103 (by decide) ?_
              obtain rfl := Option.some.inj h
              exact Kj23 _ _ _ hH (lv_sub hl [2, 3, 4, 5, 6, 7, 1, 0] rfl)
            · replace h := z_t c29 h
              refine lv_iload K.x K.b dX8_standard_93 (lv_at hl 1 rfl) ?_
              refine lv_iload_n K.x K.b dX8_standard_95 rfl (lv_at hl 5 rfl) ?_
              refine lv_icmp_ge (tgt := 103) K.x K.b dX8_standard_96 (by decide) (fun c30 => ?_) (fun c30 => ?_)
              · replace h := z_t c30 h
                refine lv_iconst (v := (0)) K.x K.b dX8_standard_103 (by decide) ?_
                obtain rfl := Option.some.inj h
                exact Kj23 _ _ _ hH (lv_sub hl [2, 3, 4, 5, 6, 7, 1, 0] rfl)
              · replace h := z_f c30 h
                refine lv_iconst (v := (1)) K.x K.b dX8_standard_99 (by decide) ?_
                refine lv_goto (tgt := 104) K.x K.b dX8_standard_100 (by decide) ?_
                obtain rfl := Option.some.inj h
                exact Kj23 _ _ _ hH (lv_sub hl [2, 3, 4, 5, 6, 7, 1, 0] rfl)
    · replace h := z_t c8 h
      refine lv_aload_n K.x K.b dX8_standard_16 rfl (lv_at hl 0 rfl) ?_
      obtain ⟨r31, hr32, h⟩ := z_bd_e h
      refine z_Vi K hH hl.1 (c_X8_bad l D y o (.ref o_w) (g_kept) (g_text) (g_size) (g_above) (g_below) (g_noes) (g_fulls) (g_at) (g_from) (g_token) (g_value) (g_readFault) (g_yet) (g_fars) (g_tells) v_bads r31 hr32) (z_cwV K 0 tw_4_163 tw_4_165 tw_0_37 tw_1_8 tw_4_166 hd_X8_bad ⟨by decide, by decide⟩) [0] [1] rfl (wr := [(o_w, .inl (y 0, 1960, .inl f_w))]) rfl rfl rfl (by decide) rfl rfl rfl (As := []) (rest := []) rfl (Nat.le_of_ble_eq_true rfl) ⟨Nat.zero_le _, Nat.zero_le _⟩ dX8_standard_17 (ws' := [(o_w, .inl (y 0, 1960, .inl f_w)), (o, .inr (7, [.ref o_w, g_kept, g_text, g_size, g_above, g_below, .int r31.2, g_noes, g_fulls, g_at, g_from, g_token, g_value, g_readFault, g_yet, g_fars, g_tells]))]) rfl (fun H locs hH => ?_)
      have hr9 := Option.some.inj h
      obtain rfl := hr9
      rw [hQ]
      exact z_reti K hr hH [1, 0] (by decide) rfl rfl rfl dX8_standard_20
def p_X8_book (v_bads : Int32) (v_noes : Int32) (f_w : (Nat → Int32)) (p1 : Int32) (p2 : Int32) : Option (Int32 × Int32 × Int32) :=
  if (p1 < 0) then
  (z_bd (p_X8_bad v_bads) fun r2 =>
  some (r2.1, r2.2, v_noes)) else
  (z_bd (p_X8_in p2 (0 : Int32) (1 : Int32)) fun r4 =>
  if (r4 = 0) then
  (z_bd (p_X8_bad v_bads) fun r18 =>
  some (r18.1, r18.2, v_noes)) else
  (if (p1 < (f_w 7)) then
  (z_lt (((8 : Int32) + ((3 : Int32) * p1))) fun x8 =>
  z_bd (α := Int32) (if (p2 = 0) then
  (z_gd (z_in x8 1960) <|
  z_lt ((x8 + (1 : Int32))) fun x14 =>
  z_gd (z_in x14 1960) <|
  some (((100 : Int32) * (f_w x8.toNatClampNeg)) + ((10 : Int32) * (f_w x14.toNatClampNeg)))) else
  (z_lt ((x8 + (2 : Int32))) fun x11 =>
  z_gd (z_in x11 1960) <|
  some (f_w x11.toNatClampNeg))) fun j9 =>
  some (j9, v_bads, v_noes)) else
  (z_bd (p_X8_no v_noes) fun r16 =>
  some (r16.1, v_bads, r16.2))))
theorem hd_X8_book : yX8_book.cls = RX8 ∧ yX8_book.cls ≠ "java/lang/invoke/MethodHandle" ∧ yX8_book.cls ≠ "java/lang/invoke/VarHandle" ∧ (parseMethodDescriptor yX8_book.desc).map (fun d => d.parameters.length) = some 2 := by decide +kernel
set_option maxHeartbeats 4000000 in
set_option maxRecDepth 100000 in
theorem c_X8_book (l : Launch) (D : va_G) (y : Nat → ClassId) (o o_w : Nat) (g_kept g_text g_size g_above g_below g_fulls g_at g_from g_token g_value g_readFault g_yet g_fars g_tells : Value) (v_bads : Int32) (v_noes : Int32) (f_w : (Nat → Int32)) (p1 : Int32) (p2 : Int32) (r : Int32 × Int32 × Int32) (h : p_X8_book v_bads v_noes f_w p1 p2 = some r) : z_MI l yX8_book cX8_book 4 (some .int) 1 22 D y [.ref o, .int p1, .int p2] [(o, .inr (7, [.ref o_w, g_kept, g_text, g_size, g_above, g_below, .int v_bads, .int v_noes, g_fulls, g_at, g_from, g_token, g_value, g_readFault, g_yet, g_fars, g_tells])), (o_w, .inl (y 0, 1960, .inl f_w))] r.1 [(o, .inr (7, [.ref o_w, g_kept, g_text, g_size, g_above, g_below, .int r.2.1, .int r.2.2, g_fulls, g_at, g_from, g_token, g_value, g_readFault, g_yet, g_fars, g_tells])), (o_w, .inl (y 0, 1960, .inl f_w))] := by
  unfold p_X8_book at h
  refine z_enI (by decide) (Nat.le_of_ble_eq_true rfl) ?_
  intro p e s m args below meth c A ls hr K hH hl
  obtain ⟨Q, hQ⟩ : ∃ Q, Q = MQ below (z_Qi D y A r.1 [(o, .inr (7, [.ref o_w, g_kept, g_text, g_size, g_above, g_below, .int r.2.1, .int r.2.2, g_fulls, g_at, g_from, g_token, g_value, g_readFault, g_yet, g_fars, g_tells])), (o_w, .inl (y 0, 1960, .inl f_w))]) args s 0 0 A := ⟨_, rfl⟩
  rw [← hQ]
  have hl : lv_has ls 4 [(0, .ref o), (1, .int p1), (2, .int p2)] := hl
  refine lv_iload_n K.x K.b dX8_book_0 rfl (lv_at hl 1 rfl) ?_
  refine lv_if_lt (tgt := 13) K.x K.b dX8_book_1 (by decide) (fun c1 => ?_) (fun c1 => ?_)
  · replace h := z_t c1 h
    refine lv_aload_n K.x K.b dX8_book_13 rfl (lv_at hl 0 rfl) ?_
    obtain ⟨r2, hr3, h⟩ := z_bd_e h
    refine z_Vi K hH hl.1 (c_X8_bad l D y o (.ref o_w) (g_kept) (g_text) (g_size) (g_above) (g_below) (.int v_noes) (g_fulls) (g_at) (g_from) (g_token) (g_value) (g_readFault) (g_yet) (g_fars) (g_tells) v_bads r2 hr3) (z_cwV K 0 tw_4_163 tw_4_165 tw_0_37 tw_1_8 tw_4_166 hd_X8_bad ⟨by decide, by decide⟩) [0] [1] rfl (wr := [(o_w, .inl (y 0, 1960, .inl f_w))]) rfl rfl rfl (by decide) rfl rfl rfl (As := []) (rest := []) rfl (Nat.le_of_ble_eq_true rfl) ⟨Nat.zero_le _, Nat.zero_le _⟩ dX8_book_14 (ws' := [(o_w, .inl (y 0, 1960, .inl f_w)), (o, .inr (7, [.ref o_w, g_kept, g_text, g_size, g_above, g_below, .int r2.2, .int v_noes, g_fulls, g_at, g_from, g_token, g_value, g_readFault, g_yet, g_fars, g_tells]))]) rfl (fun H locs hH => ?_)
    have hr9 := Option.some.inj h
    obtain rfl := hr9
    rw [hQ]
    exact z_reti K hr hH [1, 0] (by decide) rfl rfl rfl dX8_book_17
  · replace h := z_f c1 h
    refine lv_iload_n K.x K.b dX8_book_4 rfl (lv_at hl 2 rfl) ?_
    refine lv_iconst (v := (0)) K.x K.b dX8_book_5 (by decide) ?_
    refine lv_iconst (v := (1)) K.x K.b dX8_book_6 (by decide) ?_
    obtain ⟨r4, hr5, h⟩ := z_bd_e h
    refine z_Si K hH hl.1 (c_X8_in l D y p2 (0 : Int32) (1 : Int32) r4 hr5) (z_cwS K 3 tw_4_160 tw_4_161 tw_1_8 tw_4_162 hd_X8_in ⟨by decide, by decide⟩) rfl (As := [.int p2, .int (0 : Int32), .int (1 : Int32)]) (rest := []) rfl (Nat.le_of_ble_eq_true rfl) ⟨Nat.zero_le _, Nat.zero_le _⟩ dX8_book_7 (fun H locs hH => ?_)
    refine lv_if_ne (tgt := 18) K.x K.b dX8_book_10 (by decide) (fun c6 => ?_) (fun c6 => ?_)
    · replace h := z_f c6 h
      refine lv_iload_n K.x K.b dX8_book_18 rfl (lv_at hl 1 rfl) ?_
      refine lv_aload_n K.x K.b dX8_book_19 rfl (lv_at hl 0 rfl) ?_
      refine z_get K hH 0 rfl zin_8 rfl 0 (by decide) tw_4_96 (v := .ref o_w) rfl dX8_book_20 ?_
      refine lv_bipush (v := (7)) K.x K.b dX8_book_23 (by decide) ?_
      refine z_iald K hH 1 (k := 7) rfl (by decide) rfl dX8_book_25 ?_
      refine lv_icmp_lt (tgt := 34) K.x K.b dX8_book_26 (by decide) (fun c7 => ?_) (fun c7 => ?_)
      · replace h := z_t c7 h
        refine lv_bipush (v := (8)) K.x K.b dX8_book_34 (by decide) ?_
        refine lv_iconst (v := (3)) K.x K.b dX8_book_36 (by decide) ?_
        refine lv_iload_n K.x K.b dX8_book_37 rfl (lv_at hl 1 rfl) ?_
        refine lv_imul K.x K.b dX8_book_38 ?_
        refine lv_iadd K.x K.b dX8_book_39 ?_
        obtain ⟨x8, ex8, h⟩ := z_lt_e h
        refine z_nm ex8 ?_
        refine lv_istore_n (lv' := [(3, .int x8), (0, .ref o), (1, .int p1), (2, .int p2)]) K.x K.b dX8_book_40 rfl hl (by decide) rfl (fun ls hl => ?_)
        refine lv_iload_n K.x K.b dX8_book_41 rfl (lv_at hl 3 rfl) ?_
        obtain ⟨j9, hj9, h⟩ := z_bd_e h
        have Kj9 : ∀ (H : Heap) (locs : List Loc) (ls : Array Slot), z_H D A s.heap [(o, .inr (7, [.ref o_w, g_kept, g_text, g_size, g_above, g_below, .int v_bads, .int v_noes, g_fulls, g_at, g_from, g_token, g_value, g_readFault, g_yet, g_fars, g_tells])), (o_w, .inl (y 0, 1960, .inl f_w))] H locs → lv_has ls 4 [] → W p l e (zR 1 22) s m args below meth c H locs 0 0 Q (F0 m 77 ls [.int j9]) := by
          intro H locs ls hH hl
          have hr9 := Option.some.inj h
          obtain rfl := hr9
          rw [hQ]
          exact z_reti K hr hH [0, 1] (by decide) rfl rfl rfl dX8_book_77
        replace h := hj9
        refine lv_if_ne (tgt := 69) K.x K.b dX8_book_42 (by decide) (fun c10 => ?_) (fun c10 => ?_)
        · replace h := z_f c10 h
          refine lv_aload_n K.x K.b dX8_book_69 rfl (lv_at hl 1 rfl) ?_
          refine z_get K hH 0 rfl zin_8 rfl 0 (by decide) tw_4_96 (v := .ref o_w) rfl dX8_book_70 ?_
          refine lv_iload_n K.x K.b dX8_book_73 rfl (lv_at hl 0 rfl) ?_
          refine lv_iconst (v := (2)) K.x K.b dX8_book_74 (by decide) ?_
          refine lv_iadd K.x K.b dX8_book_75 ?_
          obtain ⟨x11, ex11, h⟩ := z_lt_e h
          refine z_nm ex11 ?_
          obtain ⟨g12, h⟩ := z_gd_e h
          refine z_iald K hH 1 (k := x11.toNatClampNeg) rfl g12 rfl dX8_book_76 ?_
          obtain rfl := Option.some.inj h
          exact Kj9 _ _ _ hH (lv_sub hl [] rfl)
        · replace h := z_t c10 h
          refine lv_bipush (v := (100)) K.x K.b dX8_book_45 (by decide) ?_
          refine lv_aload_n K.x K.b dX8_book_47 rfl (lv_at hl 1 rfl) ?_
          refine z_get K hH 0 rfl zin_8 rfl 0 (by decide) tw_4_96 (v := .ref o_w) rfl dX8_book_48 ?_
          refine lv_iload_n K.x K.b dX8_book_51 rfl (lv_at hl 0 rfl) ?_
          obtain ⟨g13, h⟩ := z_gd_e h
          refine z_iald K hH 1 (k := x8.toNatClampNeg) rfl g13 rfl dX8_book_52 ?_
          refine lv_imul K.x K.b dX8_book_53 ?_
          refine lv_bipush (v := (10)) K.x K.b dX8_book_54 (by decide) ?_
          refine lv_aload_n K.x K.b dX8_book_56 rfl (lv_at hl 1 rfl) ?_
          refine z_get K hH 0 rfl zin_8 rfl 0 (by decide) tw_4_96 (v := .ref o_w) rfl dX8_book_57 ?_
          refine lv_iload_n K.x K.b dX8_book_60 rfl (lv_at hl 0 rfl) ?_
          refine lv_iconst (v := (1)) K.x K.b dX8_book_61 (by decide) ?_
          refine lv_iadd K.x K.b dX8_book_62 ?_
          obtain ⟨x14, ex14, h⟩ := z_lt_e h
          refine z_nm ex14 ?_
          obtain ⟨g15, h⟩ := z_gd_e h
          refine z_iald K hH 1 (k := x14.toNatClampNeg) rfl g15 rfl dX8_book_63 ?_
          refine lv_imul K.x K.b dX8_book_64 ?_
          refine lv_iadd K.x K.b dX8_book_65 ?_
          refine lv_goto (tgt := 77) K.x K.b dX8_book_66 (by decide) ?_
          obtain rfl := Option.some.inj h
          exact Kj9 _ _ _ hH (lv_sub hl [] rfl)
      · replace h := z_f c7 h
        refine lv_aload_n K.x K.b dX8_book_29 rfl (lv_at hl 0 rfl) ?_
        obtain ⟨r16, hr17, h⟩ := z_bd_e h
        refine z_Vi K hH hl.1 (c_X8_no l D y o (.ref o_w) (g_kept) (g_text) (g_size) (g_above) (g_below) (.int v_bads) (g_fulls) (g_at) (g_from) (g_token) (g_value) (g_readFault) (g_yet) (g_fars) (g_tells) v_noes r16 hr17) (z_cwV K 0 tw_5_68 tw_5_70 tw_0_66 tw_1_8 tw_5_71 hd_X8_no ⟨by decide, by decide⟩) [0] [1] rfl (wr := [(o_w, .inl (y 0, 1960, .inl f_w))]) rfl rfl rfl (by decide) rfl rfl rfl (As := []) (rest := []) rfl (Nat.le_of_ble_eq_true rfl) ⟨Nat.zero_le _, Nat.zero_le _⟩ dX8_book_30 (ws' := [(o_w, .inl (y 0, 1960, .inl f_w)), (o, .inr (7, [.ref o_w, g_kept, g_text, g_size, g_above, g_below, .int v_bads, .int r16.2, g_fulls, g_at, g_from, g_token, g_value, g_readFault, g_yet, g_fars, g_tells]))]) rfl (fun H locs hH => ?_)
        have hr9 := Option.some.inj h
        obtain rfl := hr9
        rw [hQ]
        exact z_reti K hr hH [1, 0] (by decide) rfl rfl rfl dX8_book_33
    · replace h := z_t c6 h
      refine lv_aload_n K.x K.b dX8_book_13 rfl (lv_at hl 0 rfl) ?_
      obtain ⟨r18, hr19, h⟩ := z_bd_e h
      refine z_Vi K hH hl.1 (c_X8_bad l D y o (.ref o_w) (g_kept) (g_text) (g_size) (g_above) (g_below) (.int v_noes) (g_fulls) (g_at) (g_from) (g_token) (g_value) (g_readFault) (g_yet) (g_fars) (g_tells) v_bads r18 hr19) (z_cwV K 0 tw_4_163 tw_4_165 tw_0_37 tw_1_8 tw_4_166 hd_X8_bad ⟨by decide, by decide⟩) [0] [1] rfl (wr := [(o_w, .inl (y 0, 1960, .inl f_w))]) rfl rfl rfl (by decide) rfl rfl rfl (As := []) (rest := []) rfl (Nat.le_of_ble_eq_true rfl) ⟨Nat.zero_le _, Nat.zero_le _⟩ dX8_book_14 (ws' := [(o_w, .inl (y 0, 1960, .inl f_w)), (o, .inr (7, [.ref o_w, g_kept, g_text, g_size, g_above, g_below, .int r18.2, .int v_noes, g_fulls, g_at, g_from, g_token, g_value, g_readFault, g_yet, g_fars, g_tells]))]) rfl (fun H locs hH => ?_)
      have hr9 := Option.some.inj h
      obtain rfl := hr9
      rw [hQ]
      exact z_reti K hr hH [1, 0] (by decide) rfl rfl rfl dX8_book_17
