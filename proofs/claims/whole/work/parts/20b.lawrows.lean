/-! The law's rows: a call whose cells are put back where they lay. -/
def zset : va_W → List Nat → va_W → va_W
  | ws, i :: is, c :: cs => zset (ws.set i c) is cs
  | ws, _, _ => ws
theorem zset_len : ∀ (is : List Nat) (cs ws : va_W), (zset ws is cs).length = ws.length := by
  intro is
  induction is with
  | nil => intro cs ws; cases cs <;> rfl
  | cons i is ih =>
    intro cs ws
    cases cs with
    | nil => rfl
    | cons c cs => show (zset (ws.set i c) is cs).length = _; rw [ih, List.length_set]
theorem zset_out : ∀ (is : List Nat) (cs ws : va_W) (k : Nat), k ∉ is → (zset ws is cs)[k]? = ws[k]? := by
  intro is
  induction is with
  | nil => intro cs ws k _; cases cs <;> rfl
  | cons i is ih =>
    intro cs ws k hk
    cases cs with
    | nil => rfl
    | cons c cs =>
      show (zset (ws.set i c) is cs)[k]? = _
      rw [ih cs _ k (fun h => hk (List.mem_cons_of_mem _ h)), List.getElem?_set_ne (fun h => hk (by rw [h]; exact List.mem_cons_self))]
theorem zset_in : ∀ (is : List Nat) (cs ws : va_W) (j i : Nat), is.Nodup → is[j]? = some i → i < ws.length → is.length = cs.length → (zset ws is cs)[i]? = cs[j]? := by
  intro is
  induction is with
  | nil => intro cs ws j i _ h; simp at h
  | cons i0 is ih =>
    intro cs ws j i hnd hj hi hlen
    cases cs with
    | nil => simp at hlen
    | cons c cs =>
      show (zset (ws.set i0 c) is cs)[i]? = _
      have hnd' := List.nodup_cons.mp hnd
      cases j with
      | zero =>
        have e : i0 = i := by simpa using hj
        subst e
        rw [zset_out is cs _ i0 hnd'.1, List.getElem?_set_self hi]
        rfl
      | succ j =>
        have hj' : is[j]? = some i := by simpa using hj
        rw [ih cs (ws.set i0 c) j i hnd'.2 hj' (by rw [List.length_set]; exact hi) (by simpa using hlen)]
        rfl
theorem z_nodup : ∀ (is : List Nat), va_nd is = true → is.Nodup := by
  intro is
  induction is with
  | nil => intro _; exact List.nodup_nil
  | cons i is ih =>
    intro h
    have h := Bool.and_eq_true _ _ |>.mp h
    exact List.nodup_cons.mpr ⟨of_decide_eq_true h.1, ih h.2⟩
section ZU
variable {p : Program} {l : Launch} {e : Env} {R : Room} {s : State} {m : MethodId} {args : Array Value} {below : List Frame} {meth : Method} {c : Code} {H : Heap} {locs : List Loc} {cells slots : Nat} {Q : State → Prop}
variable {cc : ByteArray} {nL : Nat} {X : Cond} {own : String} {D : va_G} {y : Nat → ClassId} {A : Nat → Prop} {F Lc : Nat} {ws ws' : va_W} {pc : Nat} {ls : Array Slot} {rest : List Value} {a : Nat} {sa sb : Nat → Nat}
variable {yn : MethodName} {bytes : ByteArray} {maxL f' lc' n index ci N i : Nat} {rt : Option FieldType} {b : Nat} {As st0 : List Value} {wc wc' : va_W} {C : String} {T : u_T} {fs : List Value}
theorem z_afterU {H1 : Heap} {locs1 : List Loc} {t : State} (K : z_K p m c meth cc nL s args X own D y A R F Lc) (hH : z_H D A s.heap ws H locs) (isC : List Nat) (hn : va_nd isC = true) (hC : isC.map (fun i => ws[i]?) = wc.map some) (hl2 : isC.length = wc'.length) (ht : t.heap = H1) (hB : z_post D y (va_A wc H.size) wc' t) (hk1 : ∀ q : Nat, q < H.size → ¬ va_A wc H.size q → H1[q]? = H[q]?) (hS : va_S A s.heap H1 locs1) : z_H D A s.heap (zset ws isC wc') H1 locs1 := by
  obtain ⟨hP1, -, hD1⟩ := hB
  rw [ht] at hP1
  have hFc := va_free (wc := wc) hH.2.1 hH.2.2 K.2.2.1 isC hC
  have hnd := z_nodup isC hn
  have atC : ∀ (j i : Nat), isC[j]? = some i → ∃ q, wc[j]? = some q ∧ ws[i]? = some q := by
    intro j i hj
    have h1 : (isC.map (fun i => ws[i]?))[j]? = some ws[i]? := by rw [List.getElem?_map, hj]; rfl
    rw [hC, List.getElem?_map] at h1
    cases hw : wc[j]? with
    | none => rw [hw] at h1; cases h1
    | some q => rw [hw] at h1; exact ⟨q, rfl, (Option.some.inj h1).symm⟩
  have inC : ∀ (k2 : Nat) (q : Nat × va_E), wc[k2]? = some q → ∃ i, isC[k2]? = some i ∧ ws[i]? = some q := by
    intro k2 q hq
    have h1 : (wc.map some)[k2]? = some (some q) := by rw [List.getElem?_map, hq]; rfl
    rw [← hC, List.getElem?_map] at h1
    cases hi : isC[k2]? with
    | none => rw [hi] at h1; cases h1
    | some i => rw [hi] at h1; exact ⟨i, rfl, Option.some.inj h1⟩
  have apart : ∀ (k : Nat) (q : Nat × va_E), k ∉ isC → ws[k]? = some q → q.1 < H.size ∧ ¬ va_A wc H.size q.1 := by
    intro k q hk hq
    have hlt := (hH.1 k q hq).lt
    refine ⟨hlt, fun h => ?_⟩
    rcases h with ⟨k2, e2, h⟩ | h
    · obtain ⟨i, h3, h4⟩ := inC k2 (q.1, e2) h
      have hki := hH.2.1.1 k i q (q.1, e2) hq h4 rfl
      subst hki
      exact hk (List.mem_of_getElem? h3)
    · omega
  have get : ∀ (k : Nat) (q : Nat × va_E), (zset ws isC wc')[k]? = some q → (k ∉ isC ∧ ws[k]? = some q) ∨ ∃ j : Nat, isC[j]? = some k ∧ wc'[j]? = some q := by
    intro k q h
    by_cases hk : k ∈ isC
    · obtain ⟨j, hj⟩ := List.getElem?_of_mem hk
      obtain ⟨q', -, hw⟩ := atC j k hj
      rw [zset_in isC wc' ws j k hnd hj (List.getElem?_eq_some_iff.mp hw).1 hl2] at h
      exact Or.inr ⟨j, hj, h⟩
    · rw [zset_out isC wc' ws k hk] at h
      exact Or.inl ⟨hk, h⟩
  refine ⟨fun k q h => ?_, ⟨fun i j x z hi hj exz => ?_, fun k q h => ?_⟩, hS⟩
  · rcases get k q h with ⟨hk, hq⟩ | ⟨j, -, hq⟩
    · exact (hH.1 k q hq).kept (hk1 q.1 (apart k q hk hq).1 (apart k q hk hq).2)
    · exact hP1 j q hq
  · rcases get i x hi with ⟨hi1, hi2⟩ | ⟨ji, hi1, hi2⟩
    · rcases get j z hj with ⟨hj1, hj2⟩ | ⟨jj, hj1, hj2⟩
      · exact hH.2.1.1 i j x z hi2 hj2 exz
      · exact absurd (by rw [exz]; exact hD1.2 jj z hj2) (apart i x hi1 hi2).2
    · rcases get j z hj with ⟨hj1, hj2⟩ | ⟨jj, hj1, hj2⟩
      · exact absurd (by rw [← exz]; exact hD1.2 ji x hi2) (apart j z hj1 hj2).2
      · have hjj := hD1.1 ji jj x z hi2 hj2 exz
        subst hjj
        rw [hi1] at hj1
        exact Option.some.inj hj1
  · rcases get k q h with ⟨hk, hq⟩ | ⟨j, -, hq⟩
    · exact hH.2.1.2 k q hq
    · exact hFc q.1 (hD1.2 j q hq)
theorem z_ViU {r : Int32} (K : z_K p m c meth cc nL s args X own D y A R F Lc) (hH : z_H D A s.heap ws H locs) (hl : ls.size = nL) (hM : z_MI l yn bytes maxL rt f' lc' D y (.ref b :: As) wc r wc') (cw : CallW R s args own C index yn bytes maxL rt (.code yn bytes maxL rt :: zW) (zR f' lc') 0 0 n) (isC : List Nat) (hnC : va_nd isC = true) (hC : isC.map (fun i => ws[i]?) = wc.map some) (hl2 : isC.length = wc'.length) (hq : wc[0]? = some (b, .inr (ci, fs))) (hci : vwCl[ci]? = some (C, T, N)) (hlen : As.length = n) (hst : st0 = As.reverse ++ .ref b :: rest) (hW : (rest.map fun v => v.category).sum ≤ 8) (hz : cells ≤ R.cells ∧ slots ≤ R.slots) (hdg : decode cc pc = .ok (.invokevirtual index, 3)) (hw : zset ws isC wc' = ws')
    (kk : ∀ (H : Heap) (locs : List Loc), z_H D A s.heap ws' H locs → W p l e R s m args below meth c H locs cells slots Q (F0 m (pc + 3) ls (.int r :: rest))) : W p l e R s m args below meth c H locs cells slots Q (F0 m pc ls st0) := by
  subst hw
  have hFc := va_free (wc := wc) hH.2.1 hH.2.2 K.2.2.1 isC hC
  refine va_calli (va_runV (As := As) (rest := rest) K.1 (hM H.size) cw ⟨z_pre_blind, va_recv K.2.1 (hH.sub isC hnC hC).1 hci hq, z_before K hH isC hnC hC⟩ rfl hlen hl hst (lv_room hW) hdg hz) hH.2.2 (fun q _ h => hFc q h) hFc (fun r2 u t H1 locs1 ht hvm hw hB hz1 hk1 hS => ?_)
  subst hw
  exact kk H1 locs1 (z_afterU K hH isC hnC hC hl2 ht hB hk1 hS)
theorem z_VlU {r : Int64} (K : z_K p m c meth cc nL s args X own D y A R F Lc) (hH : z_H D A s.heap ws H locs) (hl : ls.size = nL) (hM : z_ML l yn bytes maxL rt f' lc' D y (.ref b :: As) wc r wc') (cw : CallW R s args own C index yn bytes maxL rt (.code yn bytes maxL rt :: zW) (zR f' lc') 0 0 n) (isC : List Nat) (hnC : va_nd isC = true) (hC : isC.map (fun i => ws[i]?) = wc.map some) (hl2 : isC.length = wc'.length) (hq : wc[0]? = some (b, .inr (ci, fs))) (hci : vwCl[ci]? = some (C, T, N)) (hlen : As.length = n) (hst : st0 = As.reverse ++ .ref b :: rest) (hW : (rest.map fun v => v.category).sum ≤ 8) (hz : cells ≤ R.cells ∧ slots ≤ R.slots) (hdg : decode cc pc = .ok (.invokevirtual index, 3)) (hw : zset ws isC wc' = ws')
    (kk : ∀ (H : Heap) (locs : List Loc), z_H D A s.heap ws' H locs → W p l e R s m args below meth c H locs cells slots Q (F0 m (pc + 3) ls (.long r :: rest))) : W p l e R s m args below meth c H locs cells slots Q (F0 m pc ls st0) := by
  subst hw
  have hFc := va_free (wc := wc) hH.2.1 hH.2.2 K.2.2.1 isC hC
  refine va_calll (va_runV (As := As) (rest := rest) K.1 (hM H.size) cw ⟨z_pre_blind, va_recv K.2.1 (hH.sub isC hnC hC).1 hci hq, z_before K hH isC hnC hC⟩ rfl hlen hl hst (lv_room hW) hdg hz) hH.2.2 (fun q _ h => hFc q h) hFc (fun r2 u t H1 locs1 ht hvm hw hB hz1 hk1 hS => ?_)
  subst hw
  exact kk H1 locs1 (z_afterU K hH isC hnC hC hl2 ht hB hk1 hS)
theorem z_ViOU {r : Int32} (K : z_K p m c meth cc nL s args X own D y A R F Lc) (hO : z_O sa sb A s s.heap) (hL : z_L sa s) (hH : z_H D A s.heap ws H locs) (hl : ls.size = nL) (hM : z_MIO l yn bytes maxL rt f' lc' D y sa sb (.ref b :: As) wc r wc') (cw : CallW R s args own C index yn bytes maxL rt (.code yn bytes maxL rt :: zW) (zR f' lc') 0 0 n) (isC : List Nat) (hnC : va_nd isC = true) (hC : isC.map (fun i => ws[i]?) = wc.map some) (hl2 : isC.length = wc'.length) (hq : wc[0]? = some (b, .inr (ci, fs))) (hci : vwCl[ci]? = some (C, T, N)) (hlen : As.length = n) (hst : st0 = As.reverse ++ .ref b :: rest) (hW : (rest.map fun v => v.category).sum ≤ 8) (hz : cells ≤ R.cells ∧ slots ≤ R.slots) (hdg : decode cc pc = .ok (.invokevirtual index, 3)) (hw : zset ws isC wc' = ws')
    (kk : ∀ (H : Heap) (locs : List Loc), z_H D A s.heap ws' H locs → W p l e R s m args below meth c H locs cells slots Q (F0 m (pc + 3) ls (.int r :: rest))) : W p l e R s m args below meth c H locs cells slots Q (F0 m pc ls st0) := by
  subst hw
  have hFc := va_free (wc := wc) hH.2.1 hH.2.2 K.2.2.1 isC hC
  refine va_calli (va_runV (As := As) (rest := rest) K.1 (hM H.size) cw ⟨z_preO_blind, va_recv K.2.1 (hH.sub isC hnC hC).1 hci hq, z_beforeO K hO hL hH isC hnC hC⟩ rfl hlen hl hst (lv_room hW) hdg hz) hH.2.2 (fun q _ h => hFc q h) hFc (fun r2 u t H1 locs1 ht hvm hw hB hz1 hk1 hS => ?_)
  subst hw
  exact kk H1 locs1 (z_afterU K hH isC hnC hC hl2 ht hB hk1 hS)
/-- a script's int -/
theorem z_sld (K : z_K p m c meth cc nL s args X own D y A R F Lc) {b L t : Nat} {xs : Nat → Int32} (hX : va_X b L xs s s.heap) (hbl : b < s.heap.size) (hbA : ¬ A b) (hH : z_H D A s.heap ws H locs) {ix : Int32} (ht : ix = nI t) (hlt : t < L) (hLs : L < 2 ^ 31) (hdg : decode cc pc = .ok (.iaload, 1))
    (kk : W p l e R s m args below meth c H locs cells slots Q (F0 m (pc + 1) ls (.int (xs t) :: rest))) : W p l e R s m args below meth c H locs cells slots Q (F0 m pc ls (.int ix :: .ref b :: rest)) := by
  subst ht
  refine va_sld K.x K.b hX hbl hbA hH.2.2 (vp_in_nI hlt hLs) hdg ?_
  rw [nI_clamp (Nat.lt_trans hlt hLs)]
  exact kk
end ZU
/-- the reference's cells: where they lie, numbers (kept, size, bads, noes, fulls, at, from, token, value, fault), above and below, rows -/
def kM (y : Nat → ClassId) (om : Nat) (am : Nat → Nat) (mv : Nat → Int32) (ma mb : Int64) (w tx yt fr te : Nat → Int32) : va_W :=
  [(om, .inr (7, [.ref (am 0), .int (mv 0), .ref (am 1), .int (mv 1), .long ma, .long mb, .int (mv 2), .int (mv 3), .int (mv 4), .int (mv 5), .int (mv 6), .int (mv 7), .int (mv 8), .int (mv 9), .ref (am 2), .ref (am 3), .ref (am 4)])), (am 0, .inl (y 0, 1960, .inl w)), (am 1, .inl (y 0, 150, .inl tx)), (am 2, .inl (y 0, 896, .inl yt)), (am 3, .inl (y 0, 49, .inl fr)), (am 4, .inl (y 0, 6, .inl te))]
theorem lg_cmp_s (x : Int64) : lg_cmp x x = 0 := by simp [lg_cmp]
