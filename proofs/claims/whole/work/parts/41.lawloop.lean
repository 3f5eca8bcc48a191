set_option maxHeartbeats 8000000 in
set_option maxRecDepth 100000 in
theorem law_loop {p : Program} {l : Launch} {e : Env} {s : State} {m : MethodId} {below : List Frame} {meth : Method} {c : Code} {D : va_G} {y : Nat → ClassId} {sa sb : Nat → Nat} {b L : Nat} {xs : Nat → Int32} (hL : L ≤ 3072) (hr : meth.sig.returnType = ret) (K : z_K p m c meth cL_law 4 s #[Value.ref b] (.initialized "CrowMilesLaw") "CrowMilesLaw" D y (fun q : Nat => s.heap.size ≤ q) room_1 11 394) (hO : z_O sa sb (fun q : Nat => s.heap.size ≤ q) s s.heap) (hLl : z_L sa s) (hX : va_X b L xs s s.heap) (hbl : b < s.heap.size) :
    ∀ (k j : Nat), j ≤ L + 6 → L + 1 ≤ j + 6 * k → ∀ (o : Nat) (x : Nat → Int32) (a : Nat → Nat) (v : Nat → Int32) (f : Nat → Nat → Int32) (n : DD) (P : Nat → DD) (oi : Nat) (ok : Nat) (ot : Nat) (kf : Nat → Int32) (tf : Nat → Int32) (ra : Nat → Nat) (rf : Nat → Nat → Int32) (rv : Nat → Int32) (od : Nat) (g : Value) (dv : Nat → Int32) (ad : Nat → Nat) (vd : Nat → Int32) (fd : Nat → Nat → Int32) (nd : DD) (Pd : Nat → DD) (tr : DD) (oq : Nat) (oz : Nat) (zf : Nat → Int32) (a0 : Nat → Nat) (v0 : Nat → Int32) (f0 : Nat → Nat → Int32) (n0 : DD) (P0 : Nat → DD) (a1 : Nat → Nat) (v1 : Nat → Int32) (f1 : Nat → Nat → Int32) (n1 : DD) (P1 : Nat → DD) (om : Nat) (am : Nat → Nat) (mv : Nat → Int32) (ma : Int64) (mb : Int64) (w : Nat → Int32) (tx : Nat → Int32) (yt : Nat → Int32) (fr : Nat → Int32) (te : Nat → Int32), RelX x v f n P kf tf v0 f0 n0 P0 v1 f1 n1 P1 mv ma mb w tx → ∀ (H : Heap) (locs : List Loc) (ls : Array Slot), z_H D (fun q : Nat => s.heap.size ≤ q) s.heap (((kE y o x a oi ok ot kf tf ra rf rv od g dv ad tr oq oz zf a0 a1 ++ kC y a v f n P) ++ ((kC y ad vd fd nd Pd ++ kC y a0 v0 f0 n0 P0) ++ kC y a1 v1 f1 n1 P1)) ++ kM y om am mv ma mb w tx yt fr te) H locs → lv_has ls 4 [(0, .ref b), (1, .ref o), (2, .ref om), (3, .int (nI j))] → W p l e room_1 s m #[Value.ref b] below meth c H locs 207 6000 (lw_Z below #[Value.ref b] s) (F0 m 18 ls []) := by
  have hbA : ¬ (fun q : Nat => s.heap.size ≤ q) b := Nat.not_le.mpr hbl
  have hLs : L < 2 ^ 31 := by omega
  intro k
  induction k with
  | zero => 
    intro j h1 h2 o x a v f n P oi ok ot kf tf ra rf rv od g dv ad vd fd nd Pd tr oq oz zf a0 v0 f0 n0 P0 a1 v1 f1 n1 P1 om am mv ma mb w tx yt fr te hR H locs ls hH hl
    refine lv_iload_n K.x K.b dL_law_18 rfl (lv_at hl 3 rfl) ?_
    refine lv_aload_n K.x K.b dL_law_19 rfl (lv_at hl 0 rfl) ?_
    refine va_slen K.x K.b hX hbl hbA hH.2.2 dL_law_20 ?_
    refine lv_bipush (v := 6) K.x K.b dL_law_21 (by decide) ?_
    refine lv_isub K.x K.b dL_law_23 ?_
    have ht : (nI L - 6).toInt = (L : Int) - 6 := pk_sub_toInt (b := 6) (by omega) (by decide)
    have htj : (nI j).toInt = (j : Int) := nI_toInt (by omega)
    refine lv_icmp_gt (tgt := 1288) K.x K.b dL_law_24 (by decide) (fun _ => ?_) (fun c9 => absurd (Int32.lt_iff_toInt_lt.mpr (by show (nI L - 6).toInt < (nI j).toInt; rw [ht, htj]; omega)) c9)
    refine lv_iconst (v := 1) K.x K.b dL_law_1288 (by decide) ?_
    refine va_forget (fun q hq => hH.2.2.2.2 q hq) ?_
    refine W.widen (k := 600000) (n := 7302249) (by decide) (by decide) ?_
    exact lw_ret K.x K.b hr K.2.2.2.1 dL_law_1289
  | succ k ih =>
    intro j h1 h2 o x a v f n P oi ok ot kf tf ra rf rv od g dv ad vd fd nd Pd tr oq oz zf a0 v0 f0 n0 P0 a1 v1 f1 n1 P1 om am mv ma mb w tx yt fr te hR H locs ls hH hl
    refine lv_iload_n K.x K.b dL_law_18 rfl (lv_at hl 3 rfl) ?_
    refine lv_aload_n K.x K.b dL_law_19 rfl (lv_at hl 0 rfl) ?_
    refine va_slen K.x K.b hX hbl hbA hH.2.2 dL_law_20 ?_
    refine lv_bipush (v := 6) K.x K.b dL_law_21 (by decide) ?_
    refine lv_isub K.x K.b dL_law_23 ?_
    have ht : (nI L - 6).toInt = (L : Int) - 6 := pk_sub_toInt (b := 6) (by omega) (by decide)
    have htj : (nI j).toInt = (j : Int) := nI_toInt (by omega)
    refine lv_icmp_gt (tgt := 1288) K.x K.b dL_law_24 (by decide) (fun _ => ?_) (fun c9 => ?_)
    · refine lv_iconst (v := 1) K.x K.b dL_law_1288 (by decide) ?_
      refine va_forget (fun q hq => hH.2.2.2.2 q hq) ?_
      refine W.widen (k := 600000) (n := 7302249) (by decide) (by decide) ?_
      exact lw_ret K.x K.b hr K.2.2.2.1 dL_law_1289
    · have hj : j + 6 ≤ L := by
        rcases Nat.lt_or_ge L (j + 6) with q | q
        · exact absurd (Int32.lt_iff_toInt_lt.mpr (by show (nI L - 6).toInt < (nI j).toInt; rw [ht, htj]; omega)) c9
        · exact q
      have go : ∀ (o : Nat) (x : Nat → Int32) (a : Nat → Nat) (v : Nat → Int32) (f : Nat → Nat → Int32) (n : DD) (P : Nat → DD) (oi : Nat) (ok : Nat) (ot : Nat) (kf : Nat → Int32) (tf : Nat → Int32) (ra : Nat → Nat) (rf : Nat → Nat → Int32) (rv : Nat → Int32) (od : Nat) (g : Value) (dv : Nat → Int32) (ad : Nat → Nat) (vd : Nat → Int32) (fd : Nat → Nat → Int32) (nd : DD) (Pd : Nat → DD) (tr : DD) (oq : Nat) (oz : Nat) (zf : Nat → Int32) (a0 : Nat → Nat) (v0 : Nat → Int32) (f0 : Nat → Nat → Int32) (n0 : DD) (P0 : Nat → DD) (a1 : Nat → Nat) (v1 : Nat → Int32) (f1 : Nat → Nat → Int32) (n1 : DD) (P1 : Nat → DD) (om : Nat) (am : Nat → Nat) (mv : Nat → Int32) (ma : Int64) (mb : Int64) (w : Nat → Int32) (tx : Nat → Int32) (yt : Nat → Int32) (fr : Nat → Int32) (te : Nat → Int32), RelX x v f n P kf tf v0 f0 n0 P0 v1 f1 n1 P1 mv ma mb w tx → ∀ (H : Heap) (locs : List Loc), lv_has ls 4 [(0, .ref b), (1, .ref o), (2, .ref om), (3, .int (nI j))] → z_H D (fun q : Nat => s.heap.size ≤ q) s.heap (((kE y o x a oi ok ot kf tf ra rf rv od g dv ad tr oq oz zf a0 a1 ++ kC y a v f n P) ++ ((kC y ad vd fd nd Pd ++ kC y a0 v0 f0 n0 P0) ++ kC y a1 v1 f1 n1 P1)) ++ kM y om am mv ma mb w tx yt fr te) H locs → W p l e room_1 s m #[Value.ref b] below meth c H locs 207 6000 (lw_Z below #[Value.ref b] s) (F0 m 1282 ls []) := by
        intro o x a v f n P oi ok ot kf tf ra rf rv od g dv ad vd fd nd Pd tr oq oz zf a0 v0 f0 n0 P0 a1 v1 f1 n1 P1 om am mv ma mb w tx yt fr te hR H locs hl hH
        refine lv_iinc (v := nI (j + 6)) (lv' := [(3, .int (nI (j + 6))), (0, .ref b), (1, .ref o), (2, .ref om)]) K.x K.b dL_law_1282 hl (k := 3) rfl (nI_add j 6) (by decide) rfl (fun ls hl => ?_)
        refine lv_goto (tgt := 18) K.x K.b dL_law_1285 (by decide) ?_
        exact ih (j + 6) (by omega) (by omega) o x a v f n P oi ok ot kf tf ra rf rv od g dv ad vd fd nd Pd tr oq oz zf a0 v0 f0 n0 P0 a1 v1 f1 n1 P1 om am mv ma mb w tx yt fr te hR H locs ls hH (lv_sub hl [1, 2, 3, 0] rfl)
      refine lv_aload_n K.x K.b dL_law_27 rfl (lv_at hl 0 rfl) ?_
      refine lv_iload_n K.x K.b dL_law_28 rfl (lv_at hl 3 rfl) ?_
      refine z_sld K hX hbl hbA hH (t := j) rfl (by omega) hLs dL_law_29 ?_
      refine lv_bipush (v := 63) K.x K.b dL_law_30 (by decide) ?_
      refine lv_iand K.x K.b dL_law_32 ?_
      generalize hop : (xs j &&& 63) = op
      by_cases c0 : op = 0
      · refine lv_tableIn (tgt := 192) K.x K.b dL_law_33 (by rw [c0]; decide) (by rw [c0]; decide) (by rw [c0]; rfl) (by decide) ?_
        obtain ⟨r7, r8, h7, h8, he, hR2⟩ := q_0 hR
        exact lc_0 K hX hbl hbA hLs o x a v f n P oi ok ot kf tf ra rf rv od g dv ad vd fd nd Pd tr oq oz zf a0 v0 f0 n0 P0 a1 v1 f1 n1 P1 om am mv ma mb w tx yt fr te j hj hH hl r7 h7 r8 h8 he (fun H locs hH => go o x a (va_up (va_up (va_up (va_up (va_up v 0 r7.2.1) 1 r7.2.2.1) 2 r7.2.2.2.1) 3 r7.2.2.2.2.2.2.1) 4 r7.2.2.2.2.2.2.2) f (n.1, n.2.1, n.2.2.1, n.2.2.2.1, n.2.2.2.2.1, n.2.2.2.2.2.1, n.2.2.2.2.2.2.1, r7.2.2.2.2.1, r7.2.2.2.2.2.1) P oi ok ot kf tf ra rf rv od g dv ad vd fd nd Pd tr oq oz zf a0 v0 f0 n0 P0 a1 v1 f1 n1 P1 om am mv ma mb r8.2 tx yt fr te hR2 H locs hl hH)
      by_cases c1 : op = 1
      · refine lv_tableIn (tgt := 205) K.x K.b dL_law_33 (by rw [c1]; decide) (by rw [c1]; decide) (by rw [c1]; rfl) (by decide) ?_
        obtain ⟨r7, r8, h7, h8, he, hR2⟩ := q_1 hR (xs (j + 1)) (xs (j + 2)) (xs (j + 3))
        exact lc_1 K hX hbl hbA hLs o x a v f n P oi ok ot kf tf ra rf rv od g dv ad vd fd nd Pd tr oq oz zf a0 v0 f0 n0 P0 a1 v1 f1 n1 P1 om am mv ma mb w tx yt fr te j hj hH hl r7 h7 r8 h8 he (fun H locs hH => go o (va_up (va_up x 3 r7.2.1) 5 r7.2.2.1) a (va_up (va_up v 0 r7.2.2.2.1) 2 r7.2.2.2.2.1) (va_up (va_up (va_up f 0 r7.2.2.2.2.2.1) 1 r7.2.2.2.2.2.2.1) 2 r7.2.2.2.2.2.2.2) n P oi ok ot kf tf ra rf rv od g dv ad vd fd nd Pd tr oq oz zf a0 v0 f0 n0 P0 a1 v1 f1 n1 P1 om am (va_up (va_up mv 2 r8.2.1) 4 r8.2.2.1) ma mb r8.2.2.2 tx yt fr te hR2 H locs hl hH)
      by_cases c2 : op = 2
      · refine lv_tableIn (tgt := 248) K.x K.b dL_law_33 (by rw [c2]; decide) (by rw [c2]; decide) (by rw [c2]; rfl) (by decide) ?_
        obtain ⟨r7, r8, h7, h8, he, hR2⟩ := q_2 hR (xs (j + 1)) (xs (j + 2))
        exact lc_2 K hX hbl hbA hLs o x a v f n P oi ok ot kf tf ra rf rv od g dv ad vd fd nd Pd tr oq oz zf a0 v0 f0 n0 P0 a1 v1 f1 n1 P1 om am mv ma mb w tx yt fr te j hj hH hl r7 h7 r8 h8 he (fun H locs hH => go o (va_up (va_up x 3 r7.2.1) 5 r7.2.2.1) a (va_up (va_up v 1 r7.2.2.2.1) 2 r7.2.2.2.2.1) (va_up f 3 r7.2.2.2.2.2.1) (n.1, n.2.1, n.2.2.1, n.2.2.2.1, r7.2.2.2.2.2.2.1, r7.2.2.2.2.2.2.2, n.2.2.2.2.2.2.1, n.2.2.2.2.2.2.2.1, n.2.2.2.2.2.2.2.2) P oi ok ot kf tf ra rf rv od g dv ad vd fd nd Pd tr oq oz zf a0 v0 f0 n0 P0 a1 v1 f1 n1 P1 om am (va_up (va_up mv 2 r8.2.1) 4 r8.2.2.1) ma mb r8.2.2.2 tx yt fr te hR2 H locs hl hH)
      by_cases c3 : op = 3
      · refine lv_tableIn (tgt := 281) K.x K.b dL_law_33 (by rw [c3]; decide) (by rw [c3]; decide) (by rw [c3]; rfl) (by decide) ?_
        obtain ⟨r7, r8, h7, h8, he, hR2⟩ := q_3 hR (xs (j + 1))
        exact lc_3 K hX hbl hbA hLs o x a v f n P oi ok ot kf tf ra rf rv od g dv ad vd fd nd Pd tr oq oz zf a0 v0 f0 n0 P0 a1 v1 f1 n1 P1 om am mv ma mb w tx yt fr te j hj hH hl r7 h7 r8 h8 he (fun H locs hH => go o (va_up (va_up (va_up x 0 r7.2.1) 3 r7.2.2.1) 5 r7.2.2.2.1) a v f n P oi ok ot kf r7.2.2.2.2 ra rf rv od g dv ad vd fd nd Pd tr oq oz zf a0 v0 f0 n0 P0 a1 v1 f1 n1 P1 om am (va_up (va_up (va_up mv 1 r8.2.1) 2 r8.2.2.1) 4 r8.2.2.2.1) ma mb w r8.2.2.2.2 yt fr te hR2 H locs hl hH)
      by_cases c4 : op = 4
      · refine lv_tableIn (tgt := 304) K.x K.b dL_law_33 (by rw [c4]; decide) (by rw [c4]; decide) (by rw [c4]; rfl) (by decide) ?_
        obtain ⟨r7, r8, h7, h8, he, hR2⟩ := q_4 hR
        exact lc_4 K hX hbl hbA hLs o x a v f n P oi ok ot kf tf ra rf rv od g dv ad vd fd nd Pd tr oq oz zf a0 v0 f0 n0 P0 a1 v1 f1 n1 P1 om am mv ma mb w tx yt fr te j hj hH hl r7 h7 r8 h8 he (fun H locs hH => go o (va_up x 0 r7.2) a v f n P oi ok ot kf tf ra rf rv od g dv ad vd fd nd Pd tr oq oz zf a0 v0 f0 n0 P0 a1 v1 f1 n1 P1 om am (va_up mv 1 r8.2) ma mb w tx yt fr te hR2 H locs hl hH)
      by_cases c5 : op = 5
      · refine lv_tableIn (tgt := 317) K.x K.b dL_law_33 (by rw [c5]; decide) (by rw [c5]; decide) (by rw [c5]; rfl) (by decide) ?_
        obtain ⟨r7, r8, h7, h8, he, hR2⟩ := q_5 hR
        exact lc_5 hO hLl K hX hbl hbA hLs o x a v f n P oi ok ot kf tf ra rf rv od g dv ad vd fd nd Pd tr oq oz zf a0 v0 f0 n0 P0 a1 v1 f1 n1 P1 om am mv ma mb w tx yt fr te j hj hH hl r7 h7 r8 h8 he (fun H locs hH => go o x a (va_up (va_up (va_up (va_up (va_up v 0 r7.2.1) 1 r7.2.2.1) 2 r7.2.2.2.1) 3 r7.2.2.2.2.2.2.2.2.2.2.2.2.2.2.1) 4 r7.2.2.2.2.2.2.2.2.2.2.2.2.2.2.2.2.1) (va_up (va_up (va_up (va_up (va_up (va_up f 0 r7.2.2.2.2.1) 1 r7.2.2.2.2.2.1) 2 r7.2.2.2.2.2.2.1) 3 r7.2.2.2.2.2.2.2.1) 4 r7.2.2.2.2.2.2.2.2.2.2.2.2.2.2.2.1) 5 r7.2.2.2.2.2.2.2.2.2.2.2.2.2.2.2.2.2.1) (n.1, n.2.1, n.2.2.1, n.2.2.2.1, r7.2.2.2.2.2.2.2.2.2.2.1, r7.2.2.2.2.2.2.2.2.2.2.2.1, r7.2.2.2.2.2.2.2.2.2.2.2.2.1, r7.2.2.2.2.2.2.2.2.1, r7.2.2.2.2.2.2.2.2.2.1) r7.2.2.2.2.2.2.2.2.2.2.2.2.2.1 oi ok ot kf tf ra rf rv od (.ref ot) (va_up (va_up (va_up (va_up (va_up dv 0 r7.2.2.2.2.2.2.2.2.2.2.2.2.2.2.2.2.2.2.1) 1 r7.2.2.2.2.2.2.2.2.2.2.2.2.2.2.2.2.2.2.2.1) 2 r7.2.2.2.2.2.2.2.2.2.2.2.2.2.2.2.2.2.2.2.2.1) 3 r7.2.2.2.2.2.2.2.2.2.2.2.2.2.2.2.2.2.2.2.2.2.1) 4 r7.2.2.2.2.2.2.2.2.2.2.2.2.2.2.2.2.2.2.2.2.2.2.1) ad (va_up (va_up (va_up (va_up (va_up vd 0 r7.2.2.2.2.2.2.2.2.2.2.2.2.2.2.2.2.2.2.2.2.2.2.2.1) 1 r7.2.2.2.2.2.2.2.2.2.2.2.2.2.2.2.2.2.2.2.2.2.2.2.2.1) 2 r7.2.2.2.2.2.2.2.2.2.2.2.2.2.2.2.2.2.2.2.2.2.2.2.2.2.1) 3 r7.2.2.2.2.2.2.2.2.2.2.2.2.2.2.2.2.2.2.2.2.2.2.2.2.2.2.2.2.2.2.2.2.2.2.2.1) 4 r7.2.2.2.2.2.2.2.2.2.2.2.2.2.2.2.2.2.2.2.2.2.2.2.2.2.2.2.2.2.2.2.2.2.2.2.2) (va_up (va_up (va_up (va_up fd 0 r7.2.2.2.2.2.2.2.2.2.2.2.2.2.2.2.2.2.2.2.2.2.2.2.2.2.2.1) 1 r7.2.2.2.2.2.2.2.2.2.2.2.2.2.2.2.2.2.2.2.2.2.2.2.2.2.2.2.1) 2 r7.2.2.2.2.2.2.2.2.2.2.2.2.2.2.2.2.2.2.2.2.2.2.2.2.2.2.2.2.1) 3 r7.2.2.2.2.2.2.2.2.2.2.2.2.2.2.2.2.2.2.2.2.2.2.2.2.2.2.2.2.2.1) (nd.1, nd.2.1, nd.2.2.1, nd.2.2.2.1, r7.2.2.2.2.2.2.2.2.2.2.2.2.2.2.2.2.2.2.2.2.2.2.2.2.2.2.2.2.2.2.2.2.1, r7.2.2.2.2.2.2.2.2.2.2.2.2.2.2.2.2.2.2.2.2.2.2.2.2.2.2.2.2.2.2.2.2.2.1, r7.2.2.2.2.2.2.2.2.2.2.2.2.2.2.2.2.2.2.2.2.2.2.2.2.2.2.2.2.2.2.2.2.2.2.1, r7.2.2.2.2.2.2.2.2.2.2.2.2.2.2.2.2.2.2.2.2.2.2.2.2.2.2.2.2.2.2.1, r7.2.2.2.2.2.2.2.2.2.2.2.2.2.2.2.2.2.2.2.2.2.2.2.2.2.2.2.2.2.2.2.1) Pd tr oq oz zf a0 v0 f0 n0 P0 a1 v1 f1 n1 P1 om am (va_up (va_up (va_up (va_up (va_up mv 5 r8.2.1) 6 r8.2.2.1) 7 r8.2.2.2.1) 8 r8.2.2.2.2.1) 9 r8.2.2.2.2.2.1) ma mb r8.2.2.2.2.2.2 tx yt fr te hR2 H locs hl hH)
      by_cases c6 : op = 6
      · refine lv_tableIn (tgt := 330) K.x K.b dL_law_33 (by rw [c6]; decide) (by rw [c6]; decide) (by rw [c6]; rfl) (by decide) ?_
        obtain ⟨r7, r8, h7, h8, he, hR2⟩ := q_6 hR (xs (j + 1)) (xs (j + 2))
        exact lc_6 K hX hbl hbA hLs o x a v f n P oi ok ot kf tf ra rf rv od g dv ad vd fd nd Pd tr oq oz zf a0 v0 f0 n0 P0 a1 v1 f1 n1 P1 om am mv ma mb w tx yt fr te j hj hH hl r7 h7 r8 h8 he (fun H locs hH => go o (va_up (va_up x 3 r7.2.1) 4 r7.2.2.1) a (va_up v 2 r7.2.2.2.1) f (n.1, n.2.1, n.2.2.1, n.2.2.2.1, r7.2.2.2.2.2.2.1, r7.2.2.2.2.2.2.2.1, r7.2.2.2.2.2.2.2.2.1, r7.2.2.2.2.1, r7.2.2.2.2.2.1) r7.2.2.2.2.2.2.2.2.2 oi ok ot kf tf ra rf rv od g dv ad vd fd nd Pd tr oq oz zf a0 v0 f0 n0 P0 a1 v1 f1 n1 P1 om am (va_up (va_up mv 2 r8.2.1) 3 r8.2.2.1) ma mb r8.2.2.2 tx yt fr te hR2 H locs hl hH)
      by_cases c7 : op = 7
      · refine lv_tableIn (tgt := 363) K.x K.b dL_law_33 (by rw [c7]; decide) (by rw [c7]; decide) (by rw [c7]; rfl) (by decide) ?_
        obtain ⟨r7, r8, h7, h8, he, hR2⟩ := q_7 hR (xs (j + 1))
        exact lc_7 K hX hbl hbA hLs o x a v f n P oi ok ot kf tf ra rf rv od g dv ad vd fd nd Pd tr oq oz zf a0 v0 f0 n0 P0 a1 v1 f1 n1 P1 om am mv ma mb w tx yt fr te j hj hH hl r7 h7 r8 h8 he (fun H locs hH => go o (va_up x 3 r7.2.1) a (va_up v 2 r7.2.2.1) f (n.1, n.2.1, n.2.2.1, n.2.2.2.1, n.2.2.2.2.1, r7.2.2.2.2.1, n.2.2.2.2.2.2.1, n.2.2.2.2.2.2.2.1, r7.2.2.2.1) r7.2.2.2.2.2 oi ok ot kf tf ra rf rv od g dv ad vd fd nd Pd tr oq oz zf a0 v0 f0 n0 P0 a1 v1 f1 n1 P1 om am (va_up mv 2 r8.2.1) ma mb r8.2.2 tx yt fr te hR2 H locs hl hH)
      by_cases c8 : op = 8
      · refine lv_tableIn (tgt := 386) K.x K.b dL_law_33 (by rw [c8]; decide) (by rw [c8]; decide) (by rw [c8]; rfl) (by decide) ?_
        obtain ⟨r7, r8, h7, h8, he, hR2⟩ := q_8 hR (xs (j + 1))
        exact lc_8 K hX hbl hbA hLs o x a v f n P oi ok ot kf tf ra rf rv od g dv ad vd fd nd Pd tr oq oz zf a0 v0 f0 n0 P0 a1 v1 f1 n1 P1 om am mv ma mb w tx yt fr te j hj hH hl r7 h7 r8 h8 he (fun H locs hH => go o (va_up x 3 r7.2.1) a (va_up v 2 r7.2.2.1) f (n.1, n.2.1, n.2.2.1, n.2.2.2.1, n.2.2.2.2.1, n.2.2.2.2.2.1, n.2.2.2.2.2.2.1, n.2.2.2.2.2.2.2.1, r7.2.2.2.1) r7.2.2.2.2 oi ok ot kf tf ra rf rv od g dv ad vd fd nd Pd tr oq oz zf a0 v0 f0 n0 P0 a1 v1 f1 n1 P1 om am (va_up mv 2 r8.2.1) ma mb r8.2.2 tx yt fr te hR2 H locs hl hH)
      by_cases c9 : op = 9
      · refine lv_tableIn (tgt := 409) K.x K.b dL_law_33 (by rw [c9]; decide) (by rw [c9]; decide) (by rw [c9]; rfl) (by decide) ?_
        obtain ⟨r7, r8, h7, h8, he, hR2⟩ := q_9 hR
        exact lc_9 K hX hbl hbA hLs o x a v f n P oi ok ot kf tf ra rf rv od g dv ad vd fd nd Pd tr oq oz zf a0 v0 f0 n0 P0 a1 v1 f1 n1 P1 om am mv ma mb w tx yt fr te j hj hH hl r7 h7 r8 h8 he (fun H locs hH => go o (va_up x 4 r7.2.1) a (va_up v 2 r7.2.2.1) f (n.1, n.2.1, n.2.2.1, n.2.2.2.1, r7.2.2.2.2.2.1, r7.2.2.2.2.2.2.1, r7.2.2.2.2.2.2.2, r7.2.2.2.1, r7.2.2.2.2.1) P oi ok ot kf tf ra rf rv od g dv ad vd fd nd Pd tr oq oz zf a0 v0 f0 n0 P0 a1 v1 f1 n1 P1 om am (va_up mv 3 r8.2.1) ma mb r8.2.2 tx yt fr te hR2 H locs hl hH)
      by_cases c10 : op = 10
      · refine lv_tableIn (tgt := 422) K.x K.b dL_law_33 (by rw [c10]; decide) (by rw [c10]; decide) (by rw [c10]; rfl) (by decide) ?_
        obtain ⟨r7, r8, h7, h8, he, hR2⟩ := q_10 hR (xs (j + 1)) (xs (j + 2))
        exact lc_10 K hX hbl hbA hLs o x a v f n P oi ok ot kf tf ra rf rv od g dv ad vd fd nd Pd tr oq oz zf a0 v0 f0 n0 P0 a1 v1 f1 n1 P1 om am mv ma mb w tx yt fr te j hj hH hl r7 h7 r8 h8 he (fun H locs hH => go o (va_up x 3 r7.2) a v f n P oi ok ot kf tf ra rf rv od g dv ad vd fd nd Pd tr oq oz zf a0 v0 f0 n0 P0 a1 v1 f1 n1 P1 om am (va_up mv 2 r8.2) ma mb w tx yt fr te hR2 H locs hl hH)
      by_cases c11 : op = 11
      · refine lv_tableIn (tgt := 455) K.x K.b dL_law_33 (by rw [c11]; decide) (by rw [c11]; decide) (by rw [c11]; rfl) (by decide) ?_
        obtain ⟨r7, r8, h7, h8, he, hR2⟩ := q_11 hR (xs (j + 1)) (xs (j + 2))
        exact lc_11 K hX hbl hbA hLs o x a v f n P oi ok ot kf tf ra rf rv od g dv ad vd fd nd Pd tr oq oz zf a0 v0 f0 n0 P0 a1 v1 f1 n1 P1 om am mv ma mb w tx yt fr te j hj hH hl r7 h7 r8 h8 he (fun H locs hH => go o (va_up x 3 r7.2) a v f n P oi ok ot kf tf ra rf rv od g dv ad vd fd nd Pd tr oq oz zf a0 v0 f0 n0 P0 a1 v1 f1 n1 P1 om am (va_up mv 2 r8.2) ma mb w tx yt fr te hR2 H locs hl hH)
      by_cases c12 : op = 12
      · refine lv_tableIn (tgt := 488) K.x K.b dL_law_33 (by rw [c12]; decide) (by rw [c12]; decide) (by rw [c12]; rfl) (by decide) ?_
        obtain ⟨r7, r8, h7, h8, he, hR2⟩ := q_12 hR (xs (j + 1)) (xs (j + 2))
        exact lc_12 K hX hbl hbA hLs o x a v f n P oi ok ot kf tf ra rf rv od g dv ad vd fd nd Pd tr oq oz zf a0 v0 f0 n0 P0 a1 v1 f1 n1 P1 om am mv ma mb w tx yt fr te j hj hH hl r7 h7 r8 h8 he (fun H locs hH => go o (va_up x 3 r7.2) a v f n P oi ok ot kf tf ra rf rv od g dv ad vd fd nd Pd tr oq oz zf a0 v0 f0 n0 P0 a1 v1 f1 n1 P1 om am (va_up mv 2 r8.2) ma mb w tx yt fr te hR2 H locs hl hH)
      by_cases c13 : op = 13
      · refine lv_tableIn (tgt := 521) K.x K.b dL_law_33 (by rw [c13]; decide) (by rw [c13]; decide) (by rw [c13]; rfl) (by decide) ?_
        obtain ⟨r7, r8, h7, h8, he, hR2⟩ := q_13 hR (xs (j + 1)) (xs (j + 2)) (xs (j + 3))
        exact lc_13 K hX hbl hbA hLs o x a v f n P oi ok ot kf tf ra rf rv od g dv ad vd fd nd Pd tr oq oz zf a0 v0 f0 n0 P0 a1 v1 f1 n1 P1 om am mv ma mb w tx yt fr te j hj hH hl r7 h7 r8 h8 he (fun H locs hH => go o (va_up x 3 r7.2) a v f n P oi ok ot kf tf ra rf rv od g dv ad vd fd nd Pd tr oq oz zf a0 v0 f0 n0 P0 a1 v1 f1 n1 P1 om am (va_up mv 2 r8.2) ma mb w tx yt fr te hR2 H locs hl hH)
      by_cases c14 : op = 14
      · refine lv_tableIn (tgt := 564) K.x K.b dL_law_33 (by rw [c14]; decide) (by rw [c14]; decide) (by rw [c14]; rfl) (by decide) ?_
        obtain ⟨r7, r8, h7, h8, he, hR2⟩ := q_14 hR (xs (j + 1)) (xs (j + 2)) (xs (j + 3)) (xs (j + 4))
        exact lc_14 K hX hbl hbA hLs o x a v f n P oi ok ot kf tf ra rf rv od g dv ad vd fd nd Pd tr oq oz zf a0 v0 f0 n0 P0 a1 v1 f1 n1 P1 om am mv ma mb w tx yt fr te j hj hH hl r7 h7 r8 h8 he (fun H locs hH => go o (va_up x 3 r7.2.1) a v f n P oi ok ot kf tf ra (va_up (va_up (va_up rf 0 r7.2.2.2.2.1) 1 r7.2.2.2.2.2.1) 3 r7.2.2.2.2.2.2) (va_up (va_up rv 0 r7.2.2.1) 1 r7.2.2.2.1) od g dv ad vd fd nd Pd tr oq oz zf a0 v0 f0 n0 P0 a1 v1 f1 n1 P1 om am (va_up mv 2 r8.2.1) ma mb w tx r8.2.2.1 r8.2.2.2 te hR2 H locs hl hH)
      by_cases c15 : op = 15
      · refine lv_tableIn (tgt := 617) K.x K.b dL_law_33 (by rw [c15]; decide) (by rw [c15]; decide) (by rw [c15]; rfl) (by decide) ?_
        obtain ⟨r7, r8, h7, h8, he, hR2⟩ := q_15 hR (xs (j + 1)) (xs (j + 2))
        exact lc_15 K hX hbl hbA hLs o x a v f n P oi ok ot kf tf ra rf rv od g dv ad vd fd nd Pd tr oq oz zf a0 v0 f0 n0 P0 a1 v1 f1 n1 P1 om am mv ma mb w tx yt fr te j hj hH hl r7 h7 r8 h8 he (fun H locs hH => go o (va_up x 3 r7.2.1) a v f n P oi ok ot kf tf ra (va_up (va_up (va_up rf 0 r7.2.2.2.2.1) 2 r7.2.2.2.2.2.1) 3 r7.2.2.2.2.2.2) (va_up (va_up rv 0 r7.2.2.1) 1 r7.2.2.2.1) od g dv ad vd fd nd Pd tr oq oz zf a0 v0 f0 n0 P0 a1 v1 f1 n1 P1 om am (va_up mv 2 r8.2.1) ma mb w tx r8.2.2.1 r8.2.2.2 te hR2 H locs hl hH)
      by_cases c16 : op = 16
      · refine lv_tableIn (tgt := 650) K.x K.b dL_law_33 (by rw [c16]; decide) (by rw [c16]; decide) (by rw [c16]; rfl) (by decide) ?_
        obtain ⟨r7, r8, h7, h8, he, hR2⟩ := q_16 hR (xs (j + 1)) (xs (j + 2))
        exact lc_16 K hX hbl hbA hLs o x a v f n P oi ok ot kf tf ra rf rv od g dv ad vd fd nd Pd tr oq oz zf a0 v0 f0 n0 P0 a1 v1 f1 n1 P1 om am mv ma mb w tx yt fr te j hj hH hl r7 h7 r8 h8 he (fun H locs hH => go o (va_up x 3 r7.2.1) a v f n P oi ok ot kf tf ra (va_up (va_up rf 0 r7.2.2.2.2.1) 3 r7.2.2.2.2.2) (va_up (va_up rv 0 r7.2.2.1) 1 r7.2.2.2.1) od g dv ad vd fd nd Pd tr oq oz zf a0 v0 f0 n0 P0 a1 v1 f1 n1 P1 om am (va_up mv 2 r8.2.1) ma mb w tx yt r8.2.2 te hR2 H locs hl hH)
      by_cases c17 : op = 17
      · refine lv_tableIn (tgt := 683) K.x K.b dL_law_33 (by rw [c17]; decide) (by rw [c17]; decide) (by rw [c17]; rfl) (by decide) ?_
        obtain ⟨r7, r8, h7, h8, he, hR2⟩ := q_17 hR (xs (j + 1)) (xs (j + 2)) (xs (j + 3)) (xs (j + 4))
        exact lc_17 K hX hbl hbA hLs o x a v f n P oi ok ot kf tf ra rf rv od g dv ad vd fd nd Pd tr oq oz zf a0 v0 f0 n0 P0 a1 v1 f1 n1 P1 om am mv ma mb w tx yt fr te j hj hH hl r7 h7 r8 h8 he (fun H locs hH => go o (va_up x 3 r7.2) a v f n P oi ok ot kf tf ra rf rv od g dv ad vd fd nd Pd tr oq oz zf a0 v0 f0 n0 P0 a1 v1 f1 n1 P1 om am (va_up mv 2 r8.2) ma mb w tx yt fr te hR2 H locs hl hH)
      by_cases c18 : op = 18
      · refine lv_tableIn (tgt := 736) K.x K.b dL_law_33 (by rw [c18]; decide) (by rw [c18]; decide) (by rw [c18]; rfl) (by decide) ?_
        obtain ⟨r7, r8, h7, h8, he, hR2⟩ := q_18 hR (xs (j + 1)) (xs (j + 2))
        exact lc_18 K hX hbl hbA hLs o x a v f n P oi ok ot kf tf ra rf rv od g dv ad vd fd nd Pd tr oq oz zf a0 v0 f0 n0 P0 a1 v1 f1 n1 P1 om am mv ma mb w tx yt fr te j hj hH hl r7 h7 r8 h8 he (fun H locs hH => go o (va_up x 3 r7.2) a v f n P oi ok ot kf tf ra rf rv od g dv ad vd fd nd Pd tr oq oz zf a0 v0 f0 n0 P0 a1 v1 f1 n1 P1 om am (va_up mv 2 r8.2) ma mb w tx yt fr te hR2 H locs hl hH)
      by_cases c19 : op = 19
      · refine lv_tableIn (tgt := 769) K.x K.b dL_law_33 (by rw [c19]; decide) (by rw [c19]; decide) (by rw [c19]; rfl) (by decide) ?_
        obtain ⟨r7, r8, h7, h8, he, hR2⟩ := q_19 hR (xs (j + 1)) (xs (j + 2))
        exact lc_19 K hX hbl hbA hLs o x a v f n P oi ok ot kf tf ra rf rv od g dv ad vd fd nd Pd tr oq oz zf a0 v0 f0 n0 P0 a1 v1 f1 n1 P1 om am mv ma mb w tx yt fr te j hj hH hl r7 h7 r8 h8 he (fun H locs hH => go o (va_up (va_up x 3 r7.2.1) 4 r7.2.2) a v f n P oi ok ot kf tf ra rf rv od g dv ad vd fd nd Pd tr oq oz zf a0 v0 f0 n0 P0 a1 v1 f1 n1 P1 om am (va_up (va_up mv 2 r8.2.1) 3 r8.2.2) ma mb w tx yt fr te hR2 H locs hl hH)
      by_cases c20 : op = 20
      · refine lv_tableIn (tgt := 802) K.x K.b dL_law_33 (by rw [c20]; decide) (by rw [c20]; decide) (by rw [c20]; rfl) (by decide) ?_
        obtain ⟨r7, r8, h7, h8, he, hR2⟩ := q_20 hR (xs (j + 1)) (xs (j + 2)) (xs (j + 3)) (xs (j + 4))
        exact lc_20 K hX hbl hbA hLs o x a v f n P oi ok ot kf tf ra rf rv od g dv ad vd fd nd Pd tr oq oz zf a0 v0 f0 n0 P0 a1 v1 f1 n1 P1 om am mv ma mb w tx yt fr te j hj hH hl r7 h7 r8 h8 he (fun H locs hH => go o (va_up (va_up x 3 r7.2.1) 5 r7.2.2.1) a (va_up v 3 r7.2.2.2.1) (va_up f 4 r7.2.2.2.2) n P oi ok ot kf tf ra rf rv od g dv ad vd fd nd Pd tr oq oz zf a0 v0 f0 n0 P0 a1 v1 f1 n1 P1 om am (va_up (va_up mv 2 r8.2.1) 4 r8.2.2.1) ma mb r8.2.2.2 tx yt fr te hR2 H locs hl hH)
      by_cases c21 : op = 21
      · refine lv_tableIn (tgt := 855) K.x K.b dL_law_33 (by rw [c21]; decide) (by rw [c21]; decide) (by rw [c21]; rfl) (by decide) ?_
        obtain ⟨r7, r8, h7, h8, he, hR2⟩ := q_21 hR (xs (j + 1)) (xs (j + 2)) (xs (j + 3)) (xs (j + 4)) (xs (j + 5))
        exact lc_21 K hX hbl hbA hLs o x a v f n P oi ok ot kf tf ra rf rv od g dv ad vd fd nd Pd tr oq oz zf a0 v0 f0 n0 P0 a1 v1 f1 n1 P1 om am mv ma mb w tx yt fr te j hj hH hl r7 h7 r8 h8 he (fun H locs hH => go o (va_up (va_up x 3 r7.2.1) 5 r7.2.2.1) a (va_up v 4 r7.2.2.2.1) (va_up f 5 r7.2.2.2.2) n P oi ok ot kf tf ra rf rv od g dv ad vd fd nd Pd tr oq oz zf a0 v0 f0 n0 P0 a1 v1 f1 n1 P1 om am (va_up (va_up mv 2 r8.2.1) 4 r8.2.2.1) ma mb r8.2.2.2 tx yt fr te hR2 H locs hl hH)
      by_cases c22 : op = 22
      · refine lv_tableIn (tgt := 918) K.x K.b dL_law_33 (by rw [c22]; decide) (by rw [c22]; decide) (by rw [c22]; rfl) (by decide) ?_
        obtain ⟨r7, r8, h7, h8, he, hR2⟩ := q_22 hR (xs (j + 1))
        exact lc_22 K hX hbl hbA hLs o x a v f n P oi ok ot kf tf ra rf rv od g dv ad vd fd nd Pd tr oq oz zf a0 v0 f0 n0 P0 a1 v1 f1 n1 P1 om am mv ma mb w tx yt fr te j hj hH hl r7 h7 r8 h8 he (fun H locs hH => go o (va_up x 3 r7.2.1) a (va_up (va_up (va_up v 2 r7.2.2.1) 3 r7.2.2.2.2.2.1) 4 r7.2.2.2.2.2.2) f (n.1, n.2.1, n.2.2.1, n.2.2.2.1, n.2.2.2.2.1, n.2.2.2.2.2.1, n.2.2.2.2.2.2.1, r7.2.2.2.1, n.2.2.2.2.2.2.2.2) r7.2.2.2.2.1 oi ok ot kf tf ra rf rv od g dv ad vd fd nd Pd tr oq oz zf a0 v0 f0 n0 P0 a1 v1 f1 n1 P1 om am (va_up mv 2 r8.2.1) ma mb r8.2.2 tx yt fr te hR2 H locs hl hH)
      by_cases c23 : op = 23
      · refine lv_tableIn (tgt := 941) K.x K.b dL_law_33 (by rw [c23]; decide) (by rw [c23]; decide) (by rw [c23]; rfl) (by decide) ?_
        obtain ⟨r7, r8, h7, h8, he, hR2⟩ := q_23 hR (xs (j + 1))
        exact lc_23 K hX hbl hbA hLs o x a v f n P oi ok ot kf tf ra rf rv od g dv ad vd fd nd Pd tr oq oz zf a0 v0 f0 n0 P0 a1 v1 f1 n1 P1 om am mv ma mb w tx yt fr te j hj hH hl r7 h7 r8 h8 he (fun H locs hH => go o (va_up x 3 r7.2) a v f n P oi ok ot kf tf ra rf rv od g dv ad vd fd nd Pd tr oq oz zf a0 v0 f0 n0 P0 a1 v1 f1 n1 P1 om am (va_up mv 2 r8.2) ma mb w tx yt fr te hR2 H locs hl hH)
      by_cases c24 : op = 24
      · refine lv_tableIn (tgt := 964) K.x K.b dL_law_33 (by rw [c24]; decide) (by rw [c24]; decide) (by rw [c24]; rfl) (by decide) ?_
        obtain ⟨r7, r8, h7, h8, he, hR2⟩ := q_24 hR (xs (j + 1))
        exact lc_24 K hX hbl hbA hLs o x a v f n P oi ok ot kf tf ra rf rv od g dv ad vd fd nd Pd tr oq oz zf a0 v0 f0 n0 P0 a1 v1 f1 n1 P1 om am mv ma mb w tx yt fr te j hj hH hl r7 h7 r8 h8 he (fun H locs hH => go o (va_up x 3 r7.2.1) a v f n P oi ok ot kf tf ra rf rv od g dv ad vd fd nd Pd tr oq oz r7.2.2 a0 v0 f0 n0 P0 a1 v1 f1 n1 P1 om am (va_up mv 2 r8.2.1) ma mb w tx yt fr r8.2.2 hR2 H locs hl hH)
      by_cases c25 : op = 25
      · refine lv_tableIn (tgt := 987) K.x K.b dL_law_33 (by rw [c25]; decide) (by rw [c25]; decide) (by rw [c25]; rfl) (by decide) ?_
        obtain ⟨r7, r8, h7, h8, he, hR2⟩ := q_25 hR (xs (j + 1))
        exact lc_25 K hX hbl hbA hLs o x a v f n P oi ok ot kf tf ra rf rv od g dv ad vd fd nd Pd tr oq oz zf a0 v0 f0 n0 P0 a1 v1 f1 n1 P1 om am mv ma mb w tx yt fr te j hj hH hl r7 h7 r8 h8 he (fun H locs hH => go o (va_up x 3 r7.2) a v f n P oi ok ot kf tf ra rf rv od g dv ad vd fd nd Pd tr oq oz zf a0 v0 f0 n0 P0 a1 v1 f1 n1 P1 om am (va_up mv 2 r8.2) ma mb w tx yt fr te hR2 H locs hl hH)
      by_cases c26 : op = 26
      · refine lv_tableIn (tgt := 1010) K.x K.b dL_law_33 (by rw [c26]; decide) (by rw [c26]; decide) (by rw [c26]; rfl) (by decide) ?_
        obtain ⟨r7, r8, h7, h8, he, hR2⟩ := q_26 hR (xs (j + 1))
        exact lc_26 K hX hbl hbA hLs o x a v f n P oi ok ot kf tf ra rf rv od g dv ad vd fd nd Pd tr oq oz zf a0 v0 f0 n0 P0 a1 v1 f1 n1 P1 om am mv ma mb w tx yt fr te j hj hH hl r7 h7 r8 h8 he (fun H locs hH => go o (va_up x 3 r7.2.1) a v f n P oi ok ot kf tf ra rf rv od g dv ad vd fd nd Pd tr oq oz r7.2.2 a0 v0 f0 n0 P0 a1 v1 f1 n1 P1 om am (va_up mv 2 r8.2.1) ma mb w tx yt fr r8.2.2 hR2 H locs hl hH)
      by_cases c27 : op = 27
      · refine lv_tableIn (tgt := 1033) K.x K.b dL_law_33 (by rw [c27]; decide) (by rw [c27]; decide) (by rw [c27]; rfl) (by decide) ?_
        obtain ⟨r7, r8, h7, h8, he, hR2⟩ := q_27 hR (xs (j + 1)) (xs (j + 2))
        exact lc_27 K hX hbl hbA hLs o x a v f n P oi ok ot kf tf ra rf rv od g dv ad vd fd nd Pd tr oq oz zf a0 v0 f0 n0 P0 a1 v1 f1 n1 P1 om am mv ma mb w tx yt fr te j hj hH hl r7 h7 r8 h8 he (fun H locs hH => go o (va_up x 3 r7.2.1) a v f n P oi ok ot kf tf ra (va_up (va_up rf 0 r7.2.2.2.2.1) 3 r7.2.2.2.2.2) (va_up (va_up rv 0 r7.2.2.1) 1 r7.2.2.2.1) od g dv ad vd fd nd Pd tr oq oz zf a0 v0 f0 n0 P0 a1 v1 f1 n1 P1 om am (va_up mv 2 r8.2) ma mb w tx yt fr te hR2 H locs hl hH)
      by_cases c28 : op = 28
      · refine lv_tableIn (tgt := 1066) K.x K.b dL_law_33 (by rw [c28]; decide) (by rw [c28]; decide) (by rw [c28]; rfl) (by decide) ?_
        obtain ⟨r7, r8, h7, h8, he, hR2⟩ := q_28 hR (xs (j + 1)) (xs (j + 2)) (xs (j + 3)) (xs (j + 4))
        exact lc_28 K hX hbl hbA hLs o x a v f n P oi ok ot kf tf ra rf rv od g dv ad vd fd nd Pd tr oq oz zf a0 v0 f0 n0 P0 a1 v1 f1 n1 P1 om am mv ma mb w tx yt fr te j hj hH hl r7 h7 r8 h8 he (fun H locs hH => go o (va_up (va_up (va_up x 1 r7.2.1) 2 r7.2.2.1) 3 r7.2.2.2) a v f n P oi ok ot kf tf ra rf rv od g dv ad vd fd nd Pd tr oq oz zf a0 v0 f0 n0 P0 a1 v1 f1 n1 P1 om am (va_up mv 2 r8.2.2.2) r8.2.1 r8.2.2.1 w tx yt fr te hR2 H locs hl hH)
      by_cases c29 : op = 29
      · refine lv_tableIn (tgt := 1119) K.x K.b dL_law_33 (by rw [c29]; decide) (by rw [c29]; decide) (by rw [c29]; rfl) (by decide) ?_
        obtain ⟨r7, r8, h7, h8, he, hR2⟩ := q_29 hR (xs (j + 1)) (xs (j + 2))
        exact lc_29 K hX hbl hbA hLs o x a v f n P oi ok ot kf tf ra rf rv od g dv ad vd fd nd Pd tr oq oz zf a0 v0 f0 n0 P0 a1 v1 f1 n1 P1 om am mv ma mb w tx yt fr te j hj hH hl r7 h7 r8 h8 he (fun H locs hH => go o (va_up x 3 r7.2.1) a v f n P oi ok ot kf tf ra rf rv od g dv ad vd fd nd Pd (tr.1, tr.2.1, tr.2.2.1, tr.2.2.2.1, r7.2.2.2.2.1, r7.2.2.2.2.2.1, r7.2.2.2.2.2.2, r7.2.2.1, r7.2.2.2.1) oq oz zf a0 v0 f0 n0 P0 a1 v1 f1 n1 P1 om am (va_up mv 2 r8.2.1) ma mb r8.2.2 tx yt fr te hR2 H locs hl hH)
      by_cases c30 : op = 30
      · refine lv_tableIn (tgt := 1152) K.x K.b dL_law_33 (by rw [c30]; decide) (by rw [c30]; decide) (by rw [c30]; rfl) (by decide) ?_
        obtain ⟨r7, r8, h7, h8, he, hR2⟩ := q_30 hR (xs (j + 1))
        exact lc_30 K hX hbl hbA hLs o x a v f n P oi ok ot kf tf ra rf rv od g dv ad vd fd nd Pd tr oq oz zf a0 v0 f0 n0 P0 a1 v1 f1 n1 P1 om am mv ma mb w tx yt fr te j hj hH hl r7 h7 r8 h8 he (fun H locs hH => go o (va_up x 3 r7.2) a v f n P oi ok ot kf tf ra rf rv od g dv ad vd fd nd Pd tr oq oz zf a0 v0 f0 n0 P0 a1 v1 f1 n1 P1 om am (va_up mv 2 r8.2) ma mb w tx yt fr te hR2 H locs hl hH)
      by_cases c31 : op = 31
      · refine lv_tableIn (tgt := 1176) K.x K.b dL_law_33 (by rw [c31]; decide) (by rw [c31]; decide) (by rw [c31]; rfl) (by decide) ?_
        obtain ⟨r7, r8, h7, h8, he, hR2⟩ := q_31 hR (xs (j + 1))
        exact lc_31 K hX hbl hbA hLs o x a v f n P oi ok ot kf tf ra rf rv od g dv ad vd fd nd Pd tr oq oz zf a0 v0 f0 n0 P0 a1 v1 f1 n1 P1 om am mv ma mb w tx yt fr te j hj hH hl r7 h7 r8 h8 he (fun H locs hH => go o (va_up x 3 r7.2.1) a v f n P oi ok ot r7.2.2.2.2.2.2.2.2.2.2.2.2.2.2.2.2.2.2.2.2.2.2.2.2.2.2.2.2.2.2.2.2.2.2.2.2 tf ra rf rv od g dv ad vd fd nd Pd tr oq oz zf a0 (va_up (va_up (va_up (va_up (va_up v0 0 r7.2.2.1) 1 r7.2.2.2.1) 2 r7.2.2.2.2.1) 3 r7.2.2.2.2.2.2.2.2.2.2.2.2.2.2.2.1) 4 r7.2.2.2.2.2.2.2.2.2.2.2.2.2.2.2.2.2.1) (va_up (va_up (va_up (va_up (va_up (va_up f0 0 r7.2.2.2.2.2.1) 1 r7.2.2.2.2.2.2.1) 2 r7.2.2.2.2.2.2.2.1) 3 r7.2.2.2.2.2.2.2.2.1) 4 r7.2.2.2.2.2.2.2.2.2.2.2.2.2.2.2.2.1) 5 r7.2.2.2.2.2.2.2.2.2.2.2.2.2.2.2.2.2.2.1) (n0.1, n0.2.1, n0.2.2.1, n0.2.2.2.1, r7.2.2.2.2.2.2.2.2.2.2.2.1, r7.2.2.2.2.2.2.2.2.2.2.2.2.1, r7.2.2.2.2.2.2.2.2.2.2.2.2.2.1, r7.2.2.2.2.2.2.2.2.2.1, r7.2.2.2.2.2.2.2.2.2.2.1) r7.2.2.2.2.2.2.2.2.2.2.2.2.2.2.1 a1 (va_up (va_up (va_up (va_up (va_up v1 0 r7.2.2.2.2.2.2.2.2.2.2.2.2.2.2.2.2.2.2.2.1) 1 r7.2.2.2.2.2.2.2.2.2.2.2.2.2.2.2.2.2.2.2.2.1) 2 r7.2.2.2.2.2.2.2.2.2.2.2.2.2.2.2.2.2.2.2.2.2.1) 3 r7.2.2.2.2.2.2.2.2.2.2.2.2.2.2.2.2.2.2.2.2.2.2.2.2.2.2.2.2.2.2.2.2.1) 4 r7.2.2.2.2.2.2.2.2.2.2.2.2.2.2.2.2.2.2.2.2.2.2.2.2.2.2.2.2.2.2.2.2.2.2.1) (va_up (va_up (va_up (va_up (va_up (va_up f1 0 r7.2.2.2.2.2.2.2.2.2.2.2.2.2.2.2.2.2.2.2.2.2.2.1) 1 r7.2.2.2.2.2.2.2.2.2.2.2.2.2.2.2.2.2.2.2.2.2.2.2.1) 2 r7.2.2.2.2.2.2.2.2.2.2.2.2.2.2.2.2.2.2.2.2.2.2.2.2.1) 3 r7.2.2.2.2.2.2.2.2.2.2.2.2.2.2.2.2.2.2.2.2.2.2.2.2.2.1) 4 r7.2.2.2.2.2.2.2.2.2.2.2.2.2.2.2.2.2.2.2.2.2.2.2.2.2.2.2.2.2.2.2.2.2.1) 5 r7.2.2.2.2.2.2.2.2.2.2.2.2.2.2.2.2.2.2.2.2.2.2.2.2.2.2.2.2.2.2.2.2.2.2.2.1) (n1.1, n1.2.1, n1.2.2.1, n1.2.2.2.1, r7.2.2.2.2.2.2.2.2.2.2.2.2.2.2.2.2.2.2.2.2.2.2.2.2.2.2.2.2.1, r7.2.2.2.2.2.2.2.2.2.2.2.2.2.2.2.2.2.2.2.2.2.2.2.2.2.2.2.2.2.1, r7.2.2.2.2.2.2.2.2.2.2.2.2.2.2.2.2.2.2.2.2.2.2.2.2.2.2.2.2.2.2.1, r7.2.2.2.2.2.2.2.2.2.2.2.2.2.2.2.2.2.2.2.2.2.2.2.2.2.2.1, r7.2.2.2.2.2.2.2.2.2.2.2.2.2.2.2.2.2.2.2.2.2.2.2.2.2.2.2.1) r7.2.2.2.2.2.2.2.2.2.2.2.2.2.2.2.2.2.2.2.2.2.2.2.2.2.2.2.2.2.2.2.1 om am (va_up (va_up mv 0 r8.2.1) 2 r8.2.2.1) ma mb r8.2.2.2 tx yt fr te hR2 H locs hl hH)
      by_cases c32 : op = 32
      · refine lv_tableIn (tgt := 1199) K.x K.b dL_law_33 (by rw [c32]; decide) (by rw [c32]; decide) (by rw [c32]; rfl) (by decide) ?_
        obtain ⟨r7, r8, h7, h8, he, hR2⟩ := q_32 hR (xs (j + 1))
        exact lc_32 K hX hbl hbA hLs o x a v f n P oi ok ot kf tf ra rf rv od g dv ad vd fd nd Pd tr oq oz zf a0 v0 f0 n0 P0 a1 v1 f1 n1 P1 om am mv ma mb w tx yt fr te j hj hH hl r7 h7 r8 h8 he (fun H locs hH => go o (va_up (va_up x 3 r7.2.1) 4 r7.2.2.1) a (va_up (va_up (va_up (va_up (va_up v 0 r7.2.2.2.1) 1 r7.2.2.2.2.1) 2 r7.2.2.2.2.2.1) 3 r7.2.2.2.2.2.2.2.2.2.2.2.2.2.2.2.2.1) 4 r7.2.2.2.2.2.2.2.2.2.2.2.2.2.2.2.2.2.2.1) (va_up (va_up (va_up (va_up (va_up (va_up f 0 r7.2.2.2.2.2.2.1) 1 r7.2.2.2.2.2.2.2.1) 2 r7.2.2.2.2.2.2.2.2.1) 3 r7.2.2.2.2.2.2.2.2.2.1) 4 r7.2.2.2.2.2.2.2.2.2.2.2.2.2.2.2.2.2.1) 5 r7.2.2.2.2.2.2.2.2.2.2.2.2.2.2.2.2.2.2.2) (n.1, n.2.1, n.2.2.1, n.2.2.2.1, r7.2.2.2.2.2.2.2.2.2.2.2.2.1, r7.2.2.2.2.2.2.2.2.2.2.2.2.2.1, r7.2.2.2.2.2.2.2.2.2.2.2.2.2.2.1, r7.2.2.2.2.2.2.2.2.2.2.1, r7.2.2.2.2.2.2.2.2.2.2.2.1) r7.2.2.2.2.2.2.2.2.2.2.2.2.2.2.2.1 oi ok ot kf tf ra rf rv od g dv ad vd fd nd Pd tr oq oz zf a0 v0 f0 n0 P0 a1 v1 f1 n1 P1 om am (va_up (va_up mv 2 r8.2.1) 3 r8.2.2.1) ma mb r8.2.2.2 tx yt fr te hR2 H locs hl hH)
      by_cases c33 : op = 33
      · refine lv_tableIn (tgt := 1222) K.x K.b dL_law_33 (by rw [c33]; decide) (by rw [c33]; decide) (by rw [c33]; rfl) (by decide) ?_
        obtain ⟨r7, r8, h7, h8, he, hR2⟩ := q_33 hR (xs (j + 1))
        exact lc_33 K hX hbl hbA hLs o x a v f n P oi ok ot kf tf ra rf rv od g dv ad vd fd nd Pd tr oq oz zf a0 v0 f0 n0 P0 a1 v1 f1 n1 P1 om am mv ma mb w tx yt fr te j hj hH hl r7 h7 r8 h8 he (fun H locs hH => go o (va_up x 3 r7.2) a v f n P oi ok ot kf tf ra rf rv od g dv ad vd fd nd Pd tr oq oz zf a0 v0 f0 n0 P0 a1 v1 f1 n1 P1 om am (va_up mv 2 r8.2) ma mb w tx yt fr te hR2 H locs hl hH)
      by_cases c34 : op = 34
      · refine lv_tableIn (tgt := 1245) K.x K.b dL_law_33 (by rw [c34]; decide) (by rw [c34]; decide) (by rw [c34]; rfl) (by decide) ?_
        obtain ⟨r7, r8, h7, h8, he, hR2⟩ := q_34 hR (xs (j + 1))
        exact lc_34 K hX hbl hbA hLs o x a v f n P oi ok ot kf tf ra rf rv od g dv ad vd fd nd Pd tr oq oz zf a0 v0 f0 n0 P0 a1 v1 f1 n1 P1 om am mv ma mb w tx yt fr te j hj hH hl r7 h7 r8 h8 he (fun H locs hH => go o (va_up x 3 r7.2) a v f n P oi ok ot kf tf ra rf rv od g dv ad vd fd nd Pd tr oq oz zf a0 v0 f0 n0 P0 a1 v1 f1 n1 P1 om am (va_up mv 2 r8.2) ma mb w tx yt fr te hR2 H locs hl hH)
      by_cases c35 : op = 35
      · refine lv_tableIn (tgt := 1268) K.x K.b dL_law_33 (by rw [c35]; decide) (by rw [c35]; decide) (by rw [c35]; rfl) (by decide) ?_
        obtain ⟨r7, r8, h7, h8, he, hR2⟩ := q_35 hR
        exact lc_35 K hX hbl hbA hLs o x a v f n P oi ok ot kf tf ra rf rv od g dv ad vd fd nd Pd tr oq oz zf a0 v0 f0 n0 P0 a1 v1 f1 n1 P1 om am mv ma mb w tx yt fr te j hj hH hl r7 h7 r8 h8 he (fun H locs hH => go o x a v f n P oi ok ot kf tf ra rf rv od g dv ad vd fd nd Pd tr oq oz zf a0 v0 f0 n0 P0 a1 v1 f1 n1 P1 om am mv ma mb w tx yt fr te hR2 H locs hl hH)
      have hsw : op.toInt < 0 ∨ 35 < op.toInt := by
        have i0 : op.toInt ≠ 0 := fun q => c0 (Int32.toInt_inj.mp (q.trans (by decide)))
        have i1 : op.toInt ≠ 1 := fun q => c1 (Int32.toInt_inj.mp (q.trans (by decide)))
        have i2 : op.toInt ≠ 2 := fun q => c2 (Int32.toInt_inj.mp (q.trans (by decide)))
        have i3 : op.toInt ≠ 3 := fun q => c3 (Int32.toInt_inj.mp (q.trans (by decide)))
        have i4 : op.toInt ≠ 4 := fun q => c4 (Int32.toInt_inj.mp (q.trans (by decide)))
        have i5 : op.toInt ≠ 5 := fun q => c5 (Int32.toInt_inj.mp (q.trans (by decide)))
        have i6 : op.toInt ≠ 6 := fun q => c6 (Int32.toInt_inj.mp (q.trans (by decide)))
        have i7 : op.toInt ≠ 7 := fun q => c7 (Int32.toInt_inj.mp (q.trans (by decide)))
        have i8 : op.toInt ≠ 8 := fun q => c8 (Int32.toInt_inj.mp (q.trans (by decide)))
        have i9 : op.toInt ≠ 9 := fun q => c9 (Int32.toInt_inj.mp (q.trans (by decide)))
        have i10 : op.toInt ≠ 10 := fun q => c10 (Int32.toInt_inj.mp (q.trans (by decide)))
        have i11 : op.toInt ≠ 11 := fun q => c11 (Int32.toInt_inj.mp (q.trans (by decide)))
        have i12 : op.toInt ≠ 12 := fun q => c12 (Int32.toInt_inj.mp (q.trans (by decide)))
        have i13 : op.toInt ≠ 13 := fun q => c13 (Int32.toInt_inj.mp (q.trans (by decide)))
        have i14 : op.toInt ≠ 14 := fun q => c14 (Int32.toInt_inj.mp (q.trans (by decide)))
        have i15 : op.toInt ≠ 15 := fun q => c15 (Int32.toInt_inj.mp (q.trans (by decide)))
        have i16 : op.toInt ≠ 16 := fun q => c16 (Int32.toInt_inj.mp (q.trans (by decide)))
        have i17 : op.toInt ≠ 17 := fun q => c17 (Int32.toInt_inj.mp (q.trans (by decide)))
        have i18 : op.toInt ≠ 18 := fun q => c18 (Int32.toInt_inj.mp (q.trans (by decide)))
        have i19 : op.toInt ≠ 19 := fun q => c19 (Int32.toInt_inj.mp (q.trans (by decide)))
        have i20 : op.toInt ≠ 20 := fun q => c20 (Int32.toInt_inj.mp (q.trans (by decide)))
        have i21 : op.toInt ≠ 21 := fun q => c21 (Int32.toInt_inj.mp (q.trans (by decide)))
        have i22 : op.toInt ≠ 22 := fun q => c22 (Int32.toInt_inj.mp (q.trans (by decide)))
        have i23 : op.toInt ≠ 23 := fun q => c23 (Int32.toInt_inj.mp (q.trans (by decide)))
        have i24 : op.toInt ≠ 24 := fun q => c24 (Int32.toInt_inj.mp (q.trans (by decide)))
        have i25 : op.toInt ≠ 25 := fun q => c25 (Int32.toInt_inj.mp (q.trans (by decide)))
        have i26 : op.toInt ≠ 26 := fun q => c26 (Int32.toInt_inj.mp (q.trans (by decide)))
        have i27 : op.toInt ≠ 27 := fun q => c27 (Int32.toInt_inj.mp (q.trans (by decide)))
        have i28 : op.toInt ≠ 28 := fun q => c28 (Int32.toInt_inj.mp (q.trans (by decide)))
        have i29 : op.toInt ≠ 29 := fun q => c29 (Int32.toInt_inj.mp (q.trans (by decide)))
        have i30 : op.toInt ≠ 30 := fun q => c30 (Int32.toInt_inj.mp (q.trans (by decide)))
        have i31 : op.toInt ≠ 31 := fun q => c31 (Int32.toInt_inj.mp (q.trans (by decide)))
        have i32 : op.toInt ≠ 32 := fun q => c32 (Int32.toInt_inj.mp (q.trans (by decide)))
        have i33 : op.toInt ≠ 33 := fun q => c33 (Int32.toInt_inj.mp (q.trans (by decide)))
        have i34 : op.toInt ≠ 34 := fun q => c34 (Int32.toInt_inj.mp (q.trans (by decide)))
        have i35 : op.toInt ≠ 35 := fun q => c35 (Int32.toInt_inj.mp (q.trans (by decide)))
        omega
      refine lv_tableOut (tgt := 1282) K.x K.b dL_law_33 hsw (by decide) ?_
      exact go o x a v f n P oi ok ot kf tf ra rf rv od g dv ad vd fd nd Pd tr oq oz zf a0 v0 f0 n0 P0 a1 v1 f1 n1 P1 om am mv ma mb w tx yt fr te hR H locs hl hH
