def zIx (i : Nat) : Nat := [51, 61, 66, 71, 76, 81].getD i 0
abbrev zTm (i : Nat) : Term := .string "CrowMiles$Reader" (zIx i)
theorem fl_ex : ∀ i, i < 6 → Cond.exactly (zTm i) "java/lang/String" ∈ flatC (Jvm.Cond.and given_1 narrow_1) := by decide +kernel
theorem fl_co : ∀ i, i < 6 → Cond.eq (.field (zTm i) "java/lang/String" "coder" "B") (.int 0) ∈ flatC (Jvm.Cond.and given_1 narrow_1) := by decide +kernel
theorem fl_ar : ∀ i, i < 6 → Cond.arrayOf (.field (zTm i) "java/lang/String" "value" "[B") .byte ∈ flatC (Jvm.Cond.and given_1 narrow_1) := by decide +kernel
theorem fl_le : ∀ i, i < 6 → Cond.eq (.length (.field (zTm i) "java/lang/String" "value" "[B")) (.int (Int32.ofNat (zLen.getD i 0))) ∈ flatC (Jvm.Cond.and given_1 narrow_1) := by decide +kernel
theorem fl_el : ∀ i, i < 6 → ∀ j, j < zLen.getD i 0 → Cond.eq (.elem (.field (zTm i) "java/lang/String" "value" "[B") (.int (Int32.ofNat j))) (.int ((zByt.getD i []).getD j 0)) ∈ flatC (Jvm.Cond.and given_1 narrow_1) := by decide +kernel
theorem fl_ne : ∀ i, i < 6 → ∀ j, j < 6 → i ≠ j → (Cond.not (Cond.eq (zTm i) (zTm j)) ∈ flatC (Jvm.Cond.and given_1 narrow_1) ∨ Cond.not (Cond.eq (zTm j) (zTm i)) ∈ flatC (Jvm.Cond.and given_1 narrow_1)) := by decide +kernel
theorem fl_cs : Cond.eq (.static "java/lang/String" "COMPACT_STRINGS" "Z") (.int 1) ∈ flatC (Jvm.Cond.and given_1 narrow_1) := by decide +kernel
theorem fl_fm : Cond.isRef (.static "jdk/internal/util/Preconditions" "SIOOBE_FORMATTER" "Ljava/util/function/BiFunction;") ∈ flatC (Jvm.Cond.and given_1 narrow_1) := by decide +kernel
theorem ls_cs : Cond.laysStatic "java/lang/String" "COMPACT_STRINGS" "Z" ∈ lw_tbl := tl_2 (List.mem_of_getElem? (i := 98) rfl)
theorem ls_fm : Cond.laysStatic "jdk/internal/util/Preconditions" "SIOOBE_FORMATTER" "Ljava/util/function/BiFunction;" ∈ lw_tbl := tl_2 (List.mem_of_getElem? (i := 114) rfl)
theorem RelX_start {v : Nat → Int32} {f : Nat → Nat → Int32} {n : DD} {P : Nat → DD} {tf v0 : Nat → Int32} {f0 : Nat → Nat → Int32} {n0 : DD} {P0 : Nat → DD} {v1 : Nat → Int32} {f1 : Nat → Nat → Int32} {n1 : DD} {P1 : Nat → DD} (hv : v = fun _ => 0) (hn : n.2.2.2.2.2.2.2 = (0, 0)) : RelX (fun i => if i = 2 then 1 else 0) v f n P z0 tf v0 f0 n0 P0 v1 f1 n1 P1 (fun _ => 0) 0 1 (upd z0 6 0) z0 := by
  subst hv
  have hw : ∀ i, upd z0 6 0 i = 0 := fun i => by unfold upd; split <;> rfl
  refine ⟨⟨0, 0, 0, 0, 0, by omega, by omega, by omega, by omega, by omega, rfl, hw _, rfl, hw _, rfl, hw _, rfl, hw _, rfl, hw _, fun p h => absurd h (by omega), fun p h => absurd h (by omega), ⟨0, 0, by omega, by omega, by rw [hn]; rfl, hw _, by rw [hn]; rfl, hw _, fun c h => absurd h (by omega), fun c h => absurd h (by omega), fun c h => absurd h (by omega)⟩, fun p h => absurd h (by omega), fun p h => absurd h (by omega), fun p h => absurd h (by omega)⟩, ⟨0, by omega, rfl, rfl, fun j h => absurd h (by omega)⟩, rfl, rfl, rfl, rfl, rfl, 0, 0, by omega, by omega, rfl, rfl, rfl, fun h => absurd h (by omega), fun h => absurd h (by omega)⟩
set_option maxHeartbeats 8000000 in
set_option maxRecDepth 100000 in
/-- THE LAW, from its entry -/
theorem whole_start {p : Program} {e : Env} {s : State} {m : MethodId} {below : List Frame} {meth : Method} {c : Code} (l : Launch) {b L : Nat} {xs : Nat → Int32} (hL : L ≤ 3072) (C0 : lw_At p s m meth c b L xs) : W p l e room_1 s m #[Value.ref b] below meth c s.heap [] 0 0 (lw_Z below #[Value.ref b] s) (entryFrame m ([Value.ref b] : List Value).toArray 4) := by
  obtain ⟨hx, hb, hr, hml, hown, hts, hX, hbl, hlocks, hgv⟩ := id C0
  have hfl := flat_of_before _ hgv
  obtain ⟨c0, iS0, hK0⟩ := u_known (C := RX0) (T := TX0) (N := 11) hts (fun w h => tg_l (zin_0 w h)) (hts _ (tg_l tw_1_25))
  obtain ⟨c1, iS1, hK1⟩ := u_known (C := RX1) (T := TX1) (N := 5) hts (fun w h => tg_l (zin_1 w h)) (hts _ (tg_l tw_1_31))
  obtain ⟨c3, iS3, hK3⟩ := u_known (C := RX3) (T := TX3) (N := 1) hts (fun w h => tg_l (zin_3 w h)) (hts _ (tg_l tw_1_188))
  obtain ⟨c4, iS4, hK4⟩ := u_known (C := RX4) (T := TX4) (N := 7) hts (fun w h => tg_l (zin_4 w h)) (hts _ (tg_l tw_1_155))
  obtain ⟨c5, iS5, hK5⟩ := u_known (C := RX5) (T := TX5) (N := 6) hts (fun w h => tg_l (zin_5 w h)) (hts _ (tg_l tw_1_128))
  obtain ⟨c6, iS6, hK6⟩ := u_known (C := RX6) (T := TX6) (N := 3) hts (fun w h => tg_l (zin_6 w h)) (hts _ (tg_l tw_1_65))
  obtain ⟨c7, iS7, hK7⟩ := u_known (C := RX7) (T := TX7) (N := 14) hts (fun w h => tg_l (zin_7 w h)) (hts _ (tg_l tw_1_17))
  obtain ⟨c8, iS8, hK8⟩ := u_known (C := RX8) (T := TX8) (N := 17) hts (fun w h => tg_l (zin_8 w h)) (hts _ (tg_l tw_4_91))
  obtain ⟨a0, k0, m0, ha0, hk0, hm0⟩ := Cond.arrayClass_spec (hts _ (tg_l tw_1_62))
  obtain ⟨a1, k1, m1, ha1, hk1, hm1⟩ := Cond.arrayClass_spec (hts _ (tg_l tw_1_153))
  obtain ⟨a2, k2, m2, ha2, hk2, hm2⟩ := Cond.arrayClass_spec (hts _ (tg_l tw_1_152))
  obtain ⟨m3, a3, k3, hf3, -, hk3, hm3, ha3⟩ := Cond.arrayOver_spec (hts _ tw_1_126)
  obtain ⟨m4, a4, k4, hf4, -, hk4, hm4, ha4⟩ := Cond.arrayOver_spec (hts _ tw_1_63)
  obtain ⟨D, hD0⟩ : ∃ D : va_G, D = (pk8 c0 c1 c3 c4 c5 c6 c7 c8, pk8 iS0 iS1 iS3 iS4 iS5 iS6 iS7 iS8) := ⟨_, rfl⟩
  obtain ⟨y, hy0⟩ : ∃ y : Nat → ClassId, y = pk8 a0 a1 a2 a3 a4 0 0 0 := ⟨_, rfl⟩
  have hK : va_K D vwCl (zT y) s := by
    subst hD0
    subst hy0
    refine ⟨fun k q hq => ?_, fun k q hq => ?_⟩
    · match k, hq with
      | 0, hq => cases hq; exact hK0
      | 1, hq => cases hq; exact hK1
      | 2, hq => cases hq; exact hK3
      | 3, hq => cases hq; exact hK4
      | 4, hq => cases hq; exact hK5
      | 5, hq => cases hq; exact hK6
      | 6, hq => cases hq; exact hK7
      | 7, hq => cases hq; exact hK8
      | k + 8, hq => simp [vwCl] at hq
    · match k, hq with
      | 0, hq => cases hq; exact ⟨fun n z => ⟨fun k h => (by cases h), k0, hk0, m0, hm0⟩, ha0⟩
      | 1, hq => cases hq; exact ⟨fun n z => ⟨fun k h => (by cases h), k1, hk1, m1, hm1⟩, ha1⟩
      | 2, hq => cases hq; exact ⟨fun n z => ⟨fun k h => (by cases h), k2, hk2, m2, hm2⟩, ha2⟩
      | 3, hq => cases hq; exact ⟨fun n z => ⟨fun k h => (by cases h), k3, hk3, m3, hm3⟩, k3, m3, hk3, hm3, hf3, ha3⟩
      | 4, hq => cases hq; exact ⟨fun n z => ⟨fun k h => (by cases h), k4, hk4, m4, hm4⟩, k4, m4, hk4, hm4, hf4, ha4⟩
      | k + 5, hq => simp at hq
  have hA0 : ∀ a : Nat, a < s.heap.size → ¬ (fun q : Nat => s.heap.size ≤ q) a := fun a h => Nat.not_le.mpr h
  have hN : z_N s := ⟨va_AO.of (hts _ tw_1_63), va_AO.of (hts _ tw_1_126), va_Nw.of rfl (hts _ tw_1_32), va_Nw.of rfl (hts _ tw_1_129), va_Nw.of rfl (hts _ tw_1_156), va_Nw.of rfl (hts _ tw_1_186), va_Nw.of rfl (hts _ tw_1_189)⟩
  obtain ⟨sa, sb, hvS, hvR⟩ := vk_Sof (args := #[Value.ref b]) (s := s) (N := 6) (tm := zTm) (len := zLen) (byt := zByt) (A := fun q : Nat => s.heap.size ≤ q) zLen_le (fun i hi => hfl _ (fl_ex i hi)) (fun i hi => hfl _ (fl_co i hi)) (fun i hi => hfl _ (fl_ar i hi)) (fun i hi => hfl _ (fl_le i hi)) (fun i hi j hj => hfl _ (fl_el i hi j hj)) (fun i j hi hj hij => (fl_ne i hi j hj hij).elim (fun h => Or.inl (hfl _ h)) (fun h => Or.inr (hfl _ h))) hA0
  have hO : z_O sa sb (fun q : Nat => s.heap.size ≤ q) s s.heap := ⟨hvS, va_Zof (hts _ ls_cs) (hts _ (tg_l tw_1_10)) (va_eqi (hfl _ fl_cs)) hA0, va_Zqof (hts _ ls_fm) (hts _ (tg_l tw_1_12)) (hfl _ fl_fm) hA0⟩
  have hLl : z_L sa s := ⟨vk_R.of (hts _ tw_2_84) (hvR 0 (by decide)), vk_R.of (hts _ tw_2_141) (hvR 1 (by decide)), vk_R.of (hts _ tw_2_151) (hvR 2 (by decide)), vk_R.of (hts _ tw_2_157) (hvR 3 (by decide)), vk_R.of (hts _ tw_2_191) (hvR 4 (by decide)), vk_R.of (hts _ tw_2_200) (hvR 5 (by decide))⟩
  have K : z_K p m c meth cL_law 4 s #[Value.ref b] (.initialized "CrowMilesLaw") "CrowMilesLaw" D y (fun q : Nat => s.heap.size ≤ q) room_1 11 394 := by
    refine ⟨⟨hx, hb, hml, hown, fun w hw => ?_⟩, hK, fun q h => h, hlocks, Nat.le_refl _, Nat.le_refl _⟩
    rcases List.mem_cons.mp hw with rfl | hw
    · exact hts _ (tg_l tw_1_0)
    · exact hts _ (tg_l hw)
  have hH : z_H D (fun q : Nat => s.heap.size ≤ q) s.heap [] s.heap [] := ⟨fun k q h => by simp at h, ⟨fun i j p q h => by simp at h, fun k q h => by simp at h⟩, va_S.rf⟩
  have hl := lv_entry ([.ref b]) (n := 4) (Nat.le_of_ble_eq_true rfl)
  rw [lg_entry_eq]
  generalize (lg_sl ([.ref b]) ++ List.replicate (4 - (lg_sl ([.ref b])).length) Slot.unset).toArray = ls at hl ⊢
  have hl : lv_has ls 4 [(0, .ref b)] := hl
  refine z_new K hH zin_7 tyX7 tyX7_ok tw_1_16 tw_1_17 tw_1_1 (ci := 6) rfl df_X7 (by decide) (by decide) dL_law_0 (fun o H hH => ?_)
  refine lv_dup K.x K.b dL_law_3 rfl ?_
  refine z_I (w0 := []) K hN hH hl.1 (c_X7_init l D y o) 0 tw_1_18 tw_1_19 tw_1_1 tw_1_20 rfl hd_X7_init ⟨by decide, by decide⟩ rfl (As := []) (rest := [.ref o]) rfl (Nat.le_of_ble_eq_true rfl) ⟨by decide, by decide⟩ dL_law_4 (fun w9 H locs hB9 hH9 => ?_)
  obtain ⟨x, a, v, f, n, P, oi, ok, ot, kf, tf, ra, rf, rv, od, g, dv, ad, vd, fd, nd, Pd, tr, oq, oz, zf, a0, v0, f0, n0, P0, a1, v1, f1, n1, P1, hv, hn, hx0, hkf, rfl⟩ := hB9
  subst hx0
  subst hkf
  refine lv_astore_n (lv' := [(1, .ref o), (0, .ref b)]) K.x K.b dL_law_7 rfl hl (by decide) rfl (fun ls hl => ?_)
  refine z_new K hH9 zin_8 tyX8 tyX8_ok tw_4_90 tw_4_91 tw_1_8 (ci := 7) rfl df_X8 (by decide) (by decide) dL_law_8 (fun om H hH => ?_)
  refine lv_dup K.x K.b dL_law_11 rfl ?_
  refine z_I K hN hH hl.1 (c_X8_init l D y om) 0 tw_4_92 tw_4_93 tw_1_8 tw_4_94 rfl hd_X8_init ⟨by decide, by decide⟩ rfl (As := []) (rest := [.ref om]) rfl (Nat.le_of_ble_eq_true rfl) ⟨by decide, by decide⟩ dL_law_12 (fun w9 H locs hB9 hH9 => ?_)
  obtain ⟨q0, q1, q2, q3, q4, rfl⟩ := hB9
  refine lv_astore_n (lv' := [(2, .ref om), (1, .ref o), (0, .ref b)]) K.x K.b dL_law_15 rfl hl (by decide) rfl (fun ls hl => ?_)
  refine lv_iconst (v := 0) K.x K.b dL_law_16 (by decide) ?_
  refine lv_istore_n (lv' := [(3, .int 0), (2, .ref om), (1, .ref o), (0, .ref b)]) K.x K.b dL_law_17 rfl hl (by decide) rfl (fun ls hl => ?_)
  refine W.widen (k := 207) (n := 6000) (by decide) (by decide) ?_
  have hH2 : z_H D (fun q : Nat => s.heap.size ≤ q) s.heap (((kE y o (fun i => if i = 2 then 1 else 0) a oi ok ot z0 tf ra rf rv od g dv ad tr oq oz zf a0 a1 ++ kC y a v f n P) ++ ((kC y ad vd fd nd Pd ++ kC y a0 v0 f0 n0 P0) ++ kC y a1 v1 f1 n1 P1)) ++ kM y om (pk8 q0 q1 q2 q3 q4 0 0 0) (fun _ => 0) 0 1 (upd z0 6 0) z0 z0 z0 z0) H locs := by
    have e1 : ((kE y o (fun i => if i = 2 then 1 else 0) a oi ok ot z0 tf ra rf rv od g dv ad tr oq oz zf a0 a1 ++ kC y a v f n P) ++ ((kC y ad vd fd nd Pd ++ kC y a0 v0 f0 n0 P0) ++ kC y a1 v1 f1 n1 P1)) = kX y o (fun i => if i = 2 then 1 else 0) a v f n P oi ok ot z0 tf ra rf rv od g dv ad vd fd nd Pd tr oq oz zf a0 v0 f0 n0 P0 a1 v1 f1 n1 P1 := by
      unfold kX kE
      simp only [List.append_assoc]
    rw [e1]
    exact hH9
  exact law_loop hL hr K hO hLl hX hbl (L + 1) 0 (by omega) (by omega) o (fun i => if i = 2 then 1 else 0) a v f n P oi ok ot z0 tf ra rf rv od g dv ad vd fd nd Pd tr oq oz zf a0 v0 f0 n0 P0 a1 v1 f1 n1 P1 om (pk8 q0 q1 q2 q3 q4 0 0 0) (fun _ => 0) 0 1 (upd z0 6 0) z0 z0 z0 z0 (RelX_start hv hn) H locs ls hH2 (lv_sub hl [3, 2, 1, 0] rfl)
