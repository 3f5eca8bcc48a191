/-! Calls over a part of the world, the other part told by a name alone. -/
theorem z_sub_app {w1 w2 w : va_W} (is : List Nat) (h : is.map (fun i => w1[i]?) = w.map some) : is.map (fun i => (w1 ++ w2)[i]?) = w.map some := by
  rw [← h]
  apply List.map_congr_left
  intro i hi
  have h1 : w1[i]? ∈ is.map (fun i => w1[i]?) := List.mem_map.mpr ⟨i, hi, rfl⟩
  rw [h] at h1
  obtain ⟨q, -, hq⟩ := List.mem_map.mp h1
  exact List.getElem?_append_left (List.getElem?_eq_some_iff.mp hq.symm).1
section ZF
variable {p : Program} {l : Launch} {e : Env} {R : Room} {s : State} {m : MethodId} {args : Array Value} {below : List Frame} {meth : Method} {c : Code} {H : Heap} {locs : List Loc} {cells slots : Nat} {Q : State → Prop}
variable {cc : ByteArray} {nL : Nat} {X : Cond} {own : String} {D : va_G} {y : Nat → ClassId} {A : Nat → Prop} {F Lc : Nat} {w1 w1' w2 : va_W} {pc : Nat} {ls : Array Slot} {rest : List Value} {a : Nat} {sa sb : Nat → Nat}
variable {yn : MethodName} {bytes : ByteArray} {maxL f' lc' n index ci N i : Nat} {rt : Option FieldType} {b : Nat} {As st0 : List Value} {wc wr wc' : va_W} {C : String} {T : u_T} {fs : List Value}
/-- what comes back, in its old order, ahead of the other part -/
theorem z_back {D : va_G} {A : Nat → Prop} {H0 H : Heap} {w2 u w1' : va_W} {locs : List Loc} (h : z_H D A H0 (w2 ++ u) H locs) (is : List Nat) (hn : va_nd is = true) (hs : is.map (fun i => u[i]?) = w1'.map some) : z_H D A H0 (w1' ++ w2) H locs := by
  have h2 : z_H D A H0 (u ++ w2) H locs := h.perm List.perm_append_comm
  have hu : z_H D A H0 u H locs := h2.left
  have hw : z_H D A H0 w2 H locs := h.left
  have h1 := hu.sub is hn hs
  have atS : ∀ (k : Nat) (q : Nat × va_E), w1'[k]? = some q → ∃ i : Nat, u[i]? = some q := by
    intro k q hq
    have h3 : (w1'.map some)[k]? = some (some q) := by rw [List.getElem?_map, hq]; rfl
    rw [← hs, List.getElem?_map] at h3
    cases hi : is[k]? with
    | none => rw [hi] at h3; cases h3
    | some i => rw [hi] at h3; exact ⟨i, Option.some.inj h3⟩
  refine ⟨va_P.app h1.1 hw.1, va_D.app h1.2.1 hw.2.1 (fun i j x z hx hz hxz => ?_), h.2.2⟩
  obtain ⟨k, hk⟩ := atS i x hx
  have e1 : (u ++ w2)[k]? = some x := by rw [List.getElem?_append_left (List.getElem?_eq_some_iff.mp hk).1]; exact hk
  have e2 : (u ++ w2)[u.length + j]? = some z := by rw [List.getElem?_append_right (Nat.le_add_right _ _), Nat.add_sub_cancel_left]; exact hz
  have := h2.2.1.1 k (u.length + j) x z e1 e2 hxz
  have := (List.getElem?_eq_some_iff.mp hk).1
  omega
theorem z_afterF {H1 : Heap} {locs1 : List Loc} {t : State} (K : z_K p m c meth cc nL s args X own D y A R F Lc) (hH : z_H D A s.heap (w1 ++ w2) H locs) (isC isR is : List Nat) (hC : isC.map (fun i => w1[i]?) = wc.map some) (hR : isR.map (fun i => w1[i]?) = wr.map some) (hn : va_nd isR = true) (hdis : ∀ i ∈ isR, i ∉ isC) (hn3 : va_nd is = true) (hs : is.map (fun i => (wr ++ wc')[i]?) = w1'.map some) (ht : t.heap = H1) (hB : z_post D y (va_A wc H.size) wc' t) (hk1 : ∀ q : Nat, q < H.size → ¬ va_A wc H.size q → H1[q]? = H[q]?) (hS : va_S A s.heap H1 locs1) : z_H D A s.heap (w1' ++ w2) H1 locs1 := by
  obtain ⟨hP1, -, hD1⟩ := hB
  rw [ht] at hP1
  have hFc := va_free (wc := wc) hH.2.1 hH.2.2 K.2.2.1 isC (z_sub_app isC hC)
  have hlen : ∀ i ∈ isC, i < w1.length := by
    intro i hi
    have h1 : w1[i]? ∈ isC.map (fun i => w1[i]?) := List.mem_map.mpr ⟨i, hi, rfl⟩
    rw [hC] at h1
    obtain ⟨q, -, hq⟩ := List.mem_map.mp h1
    exact (List.getElem?_eq_some_iff.mp hq.symm).1
  have hlenR : ∀ i ∈ isR, i < w1.length := by
    intro i hi
    have h1 : w1[i]? ∈ isR.map (fun i => w1[i]?) := List.mem_map.mpr ⟨i, hi, rfl⟩
    rw [hR] at h1
    obtain ⟨q, -, hq⟩ := List.mem_map.mp h1
    exact (List.getElem?_eq_some_iff.mp hq.symm).1
  have inC : ∀ (k2 : Nat) (q : Nat × va_E), wc[k2]? = some q → ∃ i : Nat, i ∈ isC ∧ (w1 ++ w2)[i]? = some q := by
    intro k2 q hq
    have h1 : (wc.map some)[k2]? = some (some q) := by rw [List.getElem?_map, hq]; rfl
    rw [← z_sub_app (w2 := w2) isC hC, List.getElem?_map] at h1
    cases hi : isC[k2]? with
    | none => rw [hi] at h1; cases h1
    | some i => rw [hi] at h1; exact ⟨i, List.mem_of_getElem? hi, Option.some.inj h1⟩
  have apart : ∀ (k : Nat) (q : Nat × va_E), k ∉ isC → (w1 ++ w2)[k]? = some q → q.1 < H.size ∧ ¬ va_A wc H.size q.1 := by
    intro k q hk hq
    have hlt := (hH.1 k q hq).lt
    refine ⟨hlt, fun h => ?_⟩
    rcases h with ⟨k2, e2, h⟩ | h
    · obtain ⟨i, h3, h4⟩ := inC k2 (q.1, e2) h
      have hki := hH.2.1.1 k i q (q.1, e2) hq h4 rfl
      subst hki
      exact hk h3
    · omega
  have hRR : z_H D A s.heap wr H locs := hH.sub isR hn (z_sub_app isR hR)
  have atR : ∀ (k : Nat) (q : Nat × va_E), wr[k]? = some q → ∃ i : Nat, i ∈ isR ∧ (w1 ++ w2)[i]? = some q := by
    intro k q hq
    have h3 : (wr.map some)[k]? = some (some q) := by rw [List.getElem?_map, hq]; rfl
    rw [← z_sub_app (w2 := w2) isR hR, List.getElem?_map] at h3
    cases hi : isR[k]? with
    | none => rw [hi] at h3; cases h3
    | some i => rw [hi] at h3; exact ⟨i, List.mem_of_getElem? hi, Option.some.inj h3⟩
  have at2 : ∀ (k : Nat) (q : Nat × va_E), w2[k]? = some q → (w1 ++ w2)[w1.length + k]? = some q := fun k q hq => by
    rw [List.getElem?_append_right (Nat.le_add_right _ _), Nat.add_sub_cancel_left]; exact hq
  have out2 : ∀ k : Nat, w1.length + k ∉ isC := fun k h => by have := hlen _ h; omega
  have hW2 : z_H D A s.heap w2 H locs := by
    have h0 : z_H D A s.heap (w2 ++ w1) H locs := hH.perm List.perm_append_comm
    exact h0.left
  have keepR : va_P D vwCl wr H1 := fun k q hq => by
    obtain ⟨i, hi, he⟩ := atR k q hq
    have hap := apart i q (hdis i hi) he
    exact (hRR.1 k q hq).kept (hk1 q.1 hap.1 hap.2)
  have keep2 : va_P D vwCl w2 H1 := fun k q hq => by
    have hap := apart _ q (out2 k) (at2 k q hq)
    exact (hW2.1 k q hq).kept (hk1 q.1 hap.1 hap.2)
  have hu : z_H D A s.heap (w2 ++ (wr ++ wc')) H1 locs1 := by
    refine ⟨va_P.app keep2 (va_P.app keepR hP1), va_D.app hW2.2.1 (va_D.app hRR.2.1 (hD1.weaken (fun k q _ h => hFc q.1 h)) (fun i j x z hx hz hxz => ?_)) (fun i j x z hx hz hxz => ?_), hS⟩
    · obtain ⟨i2, hi2, he⟩ := atR i x hx
      exact (apart i2 x (hdis i2 hi2) he).2 (by rw [hxz]; exact hD1.2 j z hz)
    · rcases Nat.lt_or_ge j wr.length with hj | hj
      · rw [List.getElem?_append_left hj] at hz
        obtain ⟨i2, hi2, he⟩ := atR j z hz
        have := hH.2.1.1 (w1.length + i) i2 x z (at2 i x hx) he hxz
        have := hlenR i2 hi2
        omega
      · rw [List.getElem?_append_right hj] at hz
        exact (apart _ x (out2 i) (at2 i x hx)).2 (by rw [hxz]; exact hD1.2 _ z hz)
  exact z_back hu is hn3 hs
theorem z_ViF {r : Int32} (K : z_K p m c meth cc nL s args X own D y A R F Lc) (hH : z_H D A s.heap (w1 ++ w2) H locs) (hl : ls.size = nL) (hM : z_MI l yn bytes maxL rt f' lc' D y (.ref b :: As) wc r wc') (cw : CallW R s args own C index yn bytes maxL rt (.code yn bytes maxL rt :: zW) (zR f' lc') 0 0 n) (isC isR is : List Nat) (hC : isC.map (fun i => w1[i]?) = wc.map some) (hR : isR.map (fun i => w1[i]?) = wr.map some) (hnC : va_nd isC = true) (hn : va_nd isR = true) (hn3 : va_nd is = true) (hdis : ∀ i ∈ isR, i ∉ isC) (hs : is.map (fun i => (wr ++ wc')[i]?) = w1'.map some) (hq : wc[0]? = some (b, .inr (ci, fs))) (hci : vwCl[ci]? = some (C, T, N)) (hlen : As.length = n) (hst : st0 = As.reverse ++ .ref b :: rest) (hW : (rest.map fun v => v.category).sum ≤ 8) (hz : cells ≤ R.cells ∧ slots ≤ R.slots) (hdg : decode cc pc = .ok (.invokevirtual index, 3))
    (kk : ∀ (H : Heap) (locs : List Loc), z_H D A s.heap (w1' ++ w2) H locs → W p l e R s m args below meth c H locs cells slots Q (F0 m (pc + 3) ls (.int r :: rest))) : W p l e R s m args below meth c H locs cells slots Q (F0 m pc ls st0) := by
  have hC2 := z_sub_app (w2 := w2) isC hC
  have hFc := va_free (wc := wc) hH.2.1 hH.2.2 K.2.2.1 isC hC2
  refine va_calli (va_runV (As := As) (rest := rest) K.1 (hM H.size) cw ⟨z_pre_blind, va_recv K.2.1 (hH.sub isC hnC hC2).1 hci hq, z_before K hH isC hnC hC2⟩ rfl hlen hl hst (lv_room hW) hdg hz) hH.2.2 (fun q _ h => hFc q h) hFc (fun r2 u t H1 locs1 ht hvm hw hB hz1 hk1 hS => ?_)
  subst hw
  exact kk H1 locs1 (z_afterF K hH isC isR is hC hR hn hdis hn3 hs ht hB hk1 hS)
theorem z_VlF {r : Int64} (K : z_K p m c meth cc nL s args X own D y A R F Lc) (hH : z_H D A s.heap (w1 ++ w2) H locs) (hl : ls.size = nL) (hM : z_ML l yn bytes maxL rt f' lc' D y (.ref b :: As) wc r wc') (cw : CallW R s args own C index yn bytes maxL rt (.code yn bytes maxL rt :: zW) (zR f' lc') 0 0 n) (isC isR is : List Nat) (hC : isC.map (fun i => w1[i]?) = wc.map some) (hR : isR.map (fun i => w1[i]?) = wr.map some) (hnC : va_nd isC = true) (hn : va_nd isR = true) (hn3 : va_nd is = true) (hdis : ∀ i ∈ isR, i ∉ isC) (hs : is.map (fun i => (wr ++ wc')[i]?) = w1'.map some) (hq : wc[0]? = some (b, .inr (ci, fs))) (hci : vwCl[ci]? = some (C, T, N)) (hlen : As.length = n) (hst : st0 = As.reverse ++ .ref b :: rest) (hW : (rest.map fun v => v.category).sum ≤ 8) (hz : cells ≤ R.cells ∧ slots ≤ R.slots) (hdg : decode cc pc = .ok (.invokevirtual index, 3))
    (kk : ∀ (H : Heap) (locs : List Loc), z_H D A s.heap (w1' ++ w2) H locs → W p l e R s m args below meth c H locs cells slots Q (F0 m (pc + 3) ls (.long r :: rest))) : W p l e R s m args below meth c H locs cells slots Q (F0 m pc ls st0) := by
  have hC2 := z_sub_app (w2 := w2) isC hC
  have hFc := va_free (wc := wc) hH.2.1 hH.2.2 K.2.2.1 isC hC2
  refine va_calll (va_runV (As := As) (rest := rest) K.1 (hM H.size) cw ⟨z_pre_blind, va_recv K.2.1 (hH.sub isC hnC hC2).1 hci hq, z_before K hH isC hnC hC2⟩ rfl hlen hl hst (lv_room hW) hdg hz) hH.2.2 (fun q _ h => hFc q h) hFc (fun r2 u t H1 locs1 ht hvm hw hB hz1 hk1 hS => ?_)
  subst hw
  exact kk H1 locs1 (z_afterF K hH isC isR is hC hR hn hdis hn3 hs ht hB hk1 hS)
theorem z_ViOF {r : Int32} (K : z_K p m c meth cc nL s args X own D y A R F Lc) (hO : z_O sa sb A s s.heap) (hL : z_L sa s) (hH : z_H D A s.heap (w1 ++ w2) H locs) (hl : ls.size = nL) (hM : z_MIO l yn bytes maxL rt f' lc' D y sa sb (.ref b :: As) wc r wc') (cw : CallW R s args own C index yn bytes maxL rt (.code yn bytes maxL rt :: zW) (zR f' lc') 0 0 n) (isC isR is : List Nat) (hC : isC.map (fun i => w1[i]?) = wc.map some) (hR : isR.map (fun i => w1[i]?) = wr.map some) (hnC : va_nd isC = true) (hn : va_nd isR = true) (hn3 : va_nd is = true) (hdis : ∀ i ∈ isR, i ∉ isC) (hs : is.map (fun i => (wr ++ wc')[i]?) = w1'.map some) (hq : wc[0]? = some (b, .inr (ci, fs))) (hci : vwCl[ci]? = some (C, T, N)) (hlen : As.length = n) (hst : st0 = As.reverse ++ .ref b :: rest) (hW : (rest.map fun v => v.category).sum ≤ 8) (hz : cells ≤ R.cells ∧ slots ≤ R.slots) (hdg : decode cc pc = .ok (.invokevirtual index, 3))
    (kk : ∀ (H : Heap) (locs : List Loc), z_H D A s.heap (w1' ++ w2) H locs → W p l e R s m args below meth c H locs cells slots Q (F0 m (pc + 3) ls (.int r :: rest))) : W p l e R s m args below meth c H locs cells slots Q (F0 m pc ls st0) := by
  have hC2 := z_sub_app (w2 := w2) isC hC
  have hFc := va_free (wc := wc) hH.2.1 hH.2.2 K.2.2.1 isC hC2
  refine va_calli (va_runV (As := As) (rest := rest) K.1 (hM H.size) cw ⟨z_preO_blind, va_recv K.2.1 (hH.sub isC hnC hC2).1 hci hq, z_beforeO K hO hL hH isC hnC hC2⟩ rfl hlen hl hst (lv_room hW) hdg hz) hH.2.2 (fun q _ h => hFc q h) hFc (fun r2 u t H1 locs1 ht hvm hw hB hz1 hk1 hS => ?_)
  subst hw
  exact kk H1 locs1 (z_afterF K hH isC isR is hC hR hn hdis hn3 hs ht hB hk1 hS)
end ZF
/-- the system's cells but for its countries -/
def kE (y : Nat → ClassId) (o : Nat) (x : Nat → Int32) (a : Nat → Nat) (oi ok ot : Nat) (kf tf : Nat → Int32) (ra : Nat → Nat) (rf : Nat → Nat → Int32) (rv : Nat → Int32) (od : Nat) (g : Value) (dv : Nat → Int32) (ad : Nat → Nat) (tr : DD) (oq oz : Nat) (zf : Nat → Int32) (a0 a1 : Nat → Nat) : va_W :=
  [(o, .inr (6, [.ref (a 0), .ref oi, .ref ok, .ref ot, .int (x 0), .int (x 1), .int (x 2), .int (x 3), .int (x 4), .int (x 5), .ref (ra 0), .ref od, .ref tr.1, .ref oq])),
    (oi, .inl (y 3, 2, .inr (.inr (.inr (.inr (fun i => if i = 0 then some (a0 0) else some (a1 0))))))), (ok, .inl (y 2, 2, .inl kf)), (ot, .inl (y 1, 150, .inl tf)),
    (ra 0, .inr (4, [.ref (ra 1), .ref (ra 2), .ref (ra 3), .ref (ra 4), .int (rv 0), .int (rv 1)])), (ra 1, .inl (y 0, 49, .inl (rf 0))), (ra 2, .inl (y 0, 7, .inl (rf 1))), (ra 3, .inl (y 0, 448, .inl (rf 2))), (ra 4, .inl (y 0, 49, .inl (rf 3))),
    (od, .inr (3, [.ref (ad 0), g, .int (dv 0), .int (dv 1), .int (dv 2), .int (dv 3), .int (dv 4)])),
    dO tr, dA y tr, dB y tr, dC y tr, (oq, .inr (2, [.ref oz])), (oz, .inl (y 0, 6, .inl zf))]
theorem z_img {D : va_G} {A : Nat → Prop} {H0 H : Heap} {L d i0 i1 KM : va_W} {locs : List Loc} (h : z_H D A H0 ((L ++ ((d ++ i0) ++ i1)) ++ KM) H locs) : z_H D A H0 (((L ++ i0) ++ i1) ++ (d ++ KM)) H locs := by
  refine h.perm ?_
  have e1 : (L ++ ((d ++ i0) ++ i1)) ++ KM = L ++ ((d ++ (i0 ++ i1)) ++ KM) := by simp only [List.append_assoc]
  have e2 : ((L ++ i0) ++ i1) ++ (d ++ KM) = L ++ (((i0 ++ i1) ++ d) ++ KM) := by simp only [List.append_assoc]
  rw [e1, e2]
  exact List.Perm.append_left _ (List.Perm.append_right _ List.perm_append_comm)
theorem z_gmi {D : va_G} {A : Nat → Prop} {H0 H : Heap} {L d i0 i1 KM : va_W} {locs : List Loc} (h : z_H D A H0 (((L ++ i0) ++ i1) ++ (d ++ KM)) H locs) : z_H D A H0 ((L ++ ((d ++ i0) ++ i1)) ++ KM) H locs := by
  refine h.perm ?_
  have e1 : (L ++ ((d ++ i0) ++ i1)) ++ KM = L ++ ((d ++ (i0 ++ i1)) ++ KM) := by simp only [List.append_assoc]
  have e2 : ((L ++ i0) ++ i1) ++ (d ++ KM) = L ++ (((i0 ++ i1) ++ d) ++ KM) := by simp only [List.append_assoc]
  rw [e1, e2]
  exact List.Perm.append_left _ (List.Perm.append_right _ List.perm_append_comm)
theorem z_drf {D : va_G} {A : Nat → Prop} {H0 H : Heap} {L d i0 i1 KM : va_W} {locs : List Loc} (h : z_H D A H0 ((L ++ ((d ++ i0) ++ i1)) ++ KM) H locs) : z_H D A H0 ((L ++ d) ++ ((i0 ++ i1) ++ KM)) H locs := by
  have e1 : (L ++ ((d ++ i0) ++ i1)) ++ KM = (L ++ d) ++ ((i0 ++ i1) ++ KM) := by simp only [List.append_assoc]
  rw [← e1]; exact h
theorem z_frd {D : va_G} {A : Nat → Prop} {H0 H : Heap} {L d i0 i1 KM : va_W} {locs : List Loc} (h : z_H D A H0 ((L ++ d) ++ ((i0 ++ i1) ++ KM)) H locs) : z_H D A H0 ((L ++ ((d ++ i0) ++ i1)) ++ KM) H locs := by
  have e1 : (L ++ ((d ++ i0) ++ i1)) ++ KM = (L ++ d) ++ ((i0 ++ i1) ++ KM) := by simp only [List.append_assoc]
  rw [e1]; exact h
theorem z_csa {D : va_G} {A : Nat → Prop} {H0 H : Heap} {E O C : va_W} {locs : List Loc} (h : z_H D A H0 (E ++ (O ++ C)) H locs) : z_H D A H0 ((E ++ O) ++ C) H locs := by
  rw [List.append_assoc]; exact h
theorem z_rot {D : va_G} {A : Nat → Prop} {H0 H : Heap} {E O : va_W} {locs : List Loc} (h : z_H D A H0 (E ++ O) H locs) : z_H D A H0 (O ++ E) H locs := h.perm List.perm_append_comm
