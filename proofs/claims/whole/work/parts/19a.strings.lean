/-! The text's six words: String constants that lie outside the world, and the JDK's own length and charAt over them. -/
def zLen : List Nat := [7, 5, 4, 3, 4, 5]
def zByt : List (List Int32) := [[99, 111, 117, 110, 116, 114, 121], [112, 108, 97, 99, 101], [99, 114, 111, 119], [102, 108, 121], [114, 101, 115, 116], [104, 111, 117, 114, 115]]
def slen (i : Nat) : Int32 := Int32.ofNat (zLen.getD i 0)
def sch (i : Nat) (k : Int32) : Int32 := (((zByt.getD i []).getD k.toNatClampNeg 0 &&& 255).toUInt32 % 65536).toInt32
def z_O (sa sb : Nat → Nat) (A : Nat → Prop) (U : State) (H : Heap) : Prop := vk_S 6 zLen zByt sa sb A U H ∧ va_Z "java/lang/String" "COMPACT_STRINGS" "Z" (.int 1) A U H ∧ va_Zq "jdk/internal/util/Preconditions" "SIOOBE_FORMATTER" "Ljava/util/function/BiFunction;" A U H
def z_L (sa : Nat → Nat) (U : State) : Prop := vk_R "CrowMiles$Reader" 51 "country" (sa 0) U ∧ vk_R "CrowMiles$Reader" 61 "place" (sa 1) U ∧ vk_R "CrowMiles$Reader" 66 "crow" (sa 2) U ∧ vk_R "CrowMiles$Reader" 71 "fly" (sa 3) U ∧ vk_R "CrowMiles$Reader" 76 "rest" (sa 4) U ∧ vk_R "CrowMiles$Reader" 81 "hours" (sa 5) U
theorem z_O.moved {sa sb : Nat → Nat} {A : Nat → Prop} {u U : State} {H : Heap} (hvm : u.vm.Alike U.vm) (h : z_O sa sb A u H) : z_O sa sb A U H := ⟨vk_S.moved hvm h.1, va_Z.moved hvm h.2.1, va_Zq.moved hvm h.2.2⟩
theorem z_O.kept {sa sb : Nat → Nat} {A : Nat → Prop} {U : State} {H H1 : Heap} (h : z_O sa sb A U H) (hq : ∀ a : Nat, a < H.size → ¬ A a → H1[a]? = H[a]?) : z_O sa sb A U H1 := ⟨vk_S.kept h.1 hq, va_Z.kept h.2.1 hq, va_Zq.kept h.2.2 hq⟩
theorem z_O.narrow {sa sb : Nat → Nat} {A B : Nat → Prop} {U : State} {H : Heap} (h : z_O sa sb A U H) (hAB : ∀ q, B q → A q) : z_O sa sb B U H := ⟨vk_S.narrow h.1 hAB, va_Z.narrow h.2.1 hAB, va_Zq.narrow h.2.2 hAB⟩
theorem z_L.warm {sa : Nat → Nat} {s U : State} (hW : s.WarmedH U.vm) (h : z_L sa s) : z_L sa U := ⟨vk_R.warm hW h.1, vk_R.warm hW h.2.1, vk_R.warm hW h.2.2.1, vk_R.warm hW h.2.2.2.1, vk_R.warm hW h.2.2.2.2.1, vk_R.warm hW h.2.2.2.2.2⟩
theorem z_L.same {sa : Nat → Nat} {u U : State} (hv : U.vm = u.vm) (h : z_L sa u) : z_L sa U := ⟨vk_R.same hv h.1, vk_R.same hv h.2.1, vk_R.same hv h.2.2.1, vk_R.same hv h.2.2.2.1, vk_R.same hv h.2.2.2.2.1, vk_R.same hv h.2.2.2.2.2⟩
def z_preO (D : va_G) (y : Nat → ClassId) (sa sb : Nat → Nat) (sz : Nat) (ws : va_W) (U : State) : Prop := z_pre D y sz ws U ∧ z_O sa sb (va_A ws sz) U U.heap ∧ z_L sa U
theorem z_preO_blind {D : va_G} {y : Nat → ClassId} {sa sb : Nat → Nat} {sz : Nat} {ws : va_W} {av : List Value} : FrameBlind (va_Pc av (z_preO D y sa sb sz ws)) :=
  fun a U g mk q => by obtain ⟨q0, ⟨q1, qP, qK, qD⟩, qO, qL⟩ := q; exact ⟨q0, ⟨q1, qP, va_K.moved (u := U) (U := U.calling g mk a) (Vm.Alike.refl U.vm) qK, qD⟩, z_O.moved (u := U) (U := U.calling g mk a) (Vm.Alike.refl U.vm) qO, z_L.same (u := U) (U := U.calling g mk a) rfl qL⟩
def z_MIO (l : Launch) (yn : MethodName) (cc : ByteArray) (nL : Nat) (rt : Option FieldType) (f lc : Nat) (D : va_G) (y : Nat → ClassId) (sa sb : Nat → Nat) (av : List Value) (ws : va_W) (r : Int32) (ws' : va_W) : Prop :=
  ∀ sz, Met l yn (.code yn cc nL rt :: zW) (zR f lc) (va_Pc av (z_preO D y sa sb sz ws)) (z_Qi D y (va_A ws sz) r ws') 0 0 (va_A ws sz)
def z_MVO (l : Launch) (yn : MethodName) (cc : ByteArray) (nL : Nat) (rt : Option FieldType) (f lc : Nat) (D : va_G) (y : Nat → ClassId) (sa sb : Nat → Nat) (av : List Value) (ws : va_W) (ws' : va_W) : Prop :=
  ∀ sz, Met l yn (.code yn cc nL rt :: zW) (zR f lc) (va_Pc av (z_preO D y sa sb sz ws)) (z_Qv D y (va_A ws sz) ws') 0 0 (va_A ws sz)
theorem z_enterO {l : Launch} {yn : MethodName} {cc : ByteArray} {nL f lc : Nat} {rt : Option FieldType} {D : va_G} {y : Nat → ClassId} {sa sb : Nat → Nat} {av : List Value} {ws : va_W} {Qc : Nat → Array Value → State → Outcome → State → Prop} (hy : plainName yn.cls = true) (hlen : (lg_sl av).length ≤ nL)
    (body : ∀ (p : Program) (e : Env) (s : State) (m : MethodId) (args : Array Value) (below : List Frame) (meth : Method) (c : Code) (A : Nat → Prop) (ls : Array Slot), A = va_A ws s.heap.size → meth.sig.returnType = rt → z_O sa sb A s s.heap → z_L sa s → z_K p m c meth cc nL s args (.code yn cc nL rt) yn.cls D y A (zR f lc) f lc → z_H D A s.heap ws s.heap [] → lv_has ls nL (lv_args 0 av) → W p l e (zR f lc) s m args below meth c s.heap [] 0 0 (MQ below (Qc s.heap.size) args s 0 0 A) (F0 m 0 ls [])) :
    ∀ sz, Met l yn (.code yn cc nL rt :: zW) (zR f lc) (va_Pc av (z_preO D y sa sb sz ws)) (Qc sz) 0 0 (va_A ws sz) := by
  intro sz
  refine Met.ofW (cc := cc) (maxL := nL) (ret := rt) hy rfl ?_
  intro p e s m args below meth c s₁ B hml hv
  obtain ⟨rfl, ⟨hsz, hP, hK, hD0⟩, hO, hL⟩ := hv
  have hts := atoms_spec (ws := .code yn cc nL rt :: zW) B.pre
  have hown : s.vm.findClass yn.cls = some m.cls := findClass_of_methodNamed B.named
  subst hsz
  have hD := hD0.self (sz := s.heap.size)
  have hl := lv_entry av (n := nL) hlen
  rw [lg_entry_eq]
  exact body p e s m _ below meth c _ _ rfl B.returns hO hL ⟨⟨B.exec, B.bytes, hml, hown, hts⟩, hK, fun q h => Or.inr h, B.notSynchronized, Nat.le_refl _, Nat.le_refl _⟩ ⟨hP, hD, va_S.rf⟩ hl
theorem z_enIO {l : Launch} {yn : MethodName} {cc : ByteArray} {nL f lc : Nat} {rt : Option FieldType} {D : va_G} {y : Nat → ClassId} {sa sb : Nat → Nat} {av : List Value} {ws ws' : va_W} {r : Int32} (hy : plainName yn.cls = true) (hlen : (lg_sl av).length ≤ nL)
    (body : ∀ (p : Program) (e : Env) (s : State) (m : MethodId) (args : Array Value) (below : List Frame) (meth : Method) (c : Code) (A : Nat → Prop) (ls : Array Slot), meth.sig.returnType = rt → z_O sa sb A s s.heap → z_L sa s → z_K p m c meth cc nL s args (.code yn cc nL rt) yn.cls D y A (zR f lc) f lc → z_H D A s.heap ws s.heap [] → lv_has ls nL (lv_args 0 av) → W p l e (zR f lc) s m args below meth c s.heap [] 0 0 (MQ below (z_Qi D y A r ws') args s 0 0 A) (F0 m 0 ls [])) :
    z_MIO l yn cc nL rt f lc D y sa sb av ws r ws' :=
  z_enterO (Qc := fun sz => z_Qi D y (va_A ws sz) r ws') hy hlen (fun p e s m args below meth c A ls hA hr hO hL K hH hl => by subst hA; exact body p e s m args below meth c _ ls hr hO hL K hH hl)
theorem z_enVO {l : Launch} {yn : MethodName} {cc : ByteArray} {nL f lc : Nat} {rt : Option FieldType} {D : va_G} {y : Nat → ClassId} {sa sb : Nat → Nat} {av : List Value} {ws ws' : va_W} (hy : plainName yn.cls = true) (hlen : (lg_sl av).length ≤ nL)
    (body : ∀ (p : Program) (e : Env) (s : State) (m : MethodId) (args : Array Value) (below : List Frame) (meth : Method) (c : Code) (A : Nat → Prop) (ls : Array Slot), meth.sig.returnType = rt → z_O sa sb A s s.heap → z_L sa s → z_K p m c meth cc nL s args (.code yn cc nL rt) yn.cls D y A (zR f lc) f lc → z_H D A s.heap ws s.heap [] → lv_has ls nL (lv_args 0 av) → W p l e (zR f lc) s m args below meth c s.heap [] 0 0 (MQ below (z_Qv D y A ws') args s 0 0 A) (F0 m 0 ls [])) :
    z_MVO l yn cc nL rt f lc D y sa sb av ws ws' :=
  z_enterO (Qc := fun sz => z_Qv D y (va_A ws sz) ws') hy hlen (fun p e s m args below meth c A ls hA hr hO hL K hH hl => by subst hA; exact body p e s m args below meth c _ ls hr hO hL K hH hl)
section ZO
variable {p : Program} {l : Launch} {e : Env} {R : Room} {s : State} {m : MethodId} {args : Array Value} {below : List Frame} {meth : Method} {c : Code} {H : Heap} {locs : List Loc} {cells slots : Nat} {Q : State → Prop}
variable {cc : ByteArray} {nL : Nat} {X : Cond} {own : String} {D : va_G} {y : Nat → ClassId} {A : Nat → Prop} {F Lc : Nat} {ws ws' : va_W} {pc : Nat} {ls : Array Slot} {rest : List Value} {a : Nat} {sa sb : Nat → Nat}
variable {yn : MethodName} {bytes : ByteArray} {maxL f' lc' n index ci N i : Nat} {rt : Option FieldType} {b : Nat} {As st0 : List Value} {wc wr wc' : va_W} {C : String} {T : u_T} {fs : List Value}
theorem z_beforeO {av : List Value} (K : z_K p m c meth cc nL s args X own D y A R F Lc) (hO : z_O sa sb A s s.heap) (hL : z_L sa s) (hH : z_H D A s.heap ws H locs) (isC : List Nat) (hn : va_nd isC = true) (hC : isC.map (fun i => ws[i]?) = wc.map some) : ∀ U : State, U.heap = H → s.WarmedH U.vm → va_Pc av (z_preO D y sa sb H.size wc) av.toArray U := by
  have h := hH.sub isC hn hC
  have hFc := va_free (wc := wc) hH.2.1 hH.2.2 K.2.2.1 isC hC
  intro U hU hW
  refine ⟨rfl, ⟨by rw [hU], by rw [hU]; exact h.1, va_K.moved hW.alike K.2.1, h.2.1.weaken (fun _ _ _ _ => trivial)⟩, ?_, z_L.warm hW hL⟩
  rw [hU]
  exact ((hO.kept hH.2.2.2.1).moved hW.alike).narrow hFc
theorem z_ViO {r : Int32} (K : z_K p m c meth cc nL s args X own D y A R F Lc) (hO : z_O sa sb A s s.heap) (hL : z_L sa s) (hH : z_H D A s.heap ws H locs) (hl : ls.size = nL) (hM : z_MIO l yn bytes maxL rt f' lc' D y sa sb (.ref b :: As) wc r wc') (cw : CallW R s args own C index yn bytes maxL rt (.code yn bytes maxL rt :: zW) (zR f' lc') 0 0 n) (isC isR : List Nat) (hC : isC.map (fun i => ws[i]?) = wc.map some) (hR : isR.map (fun i => ws[i]?) = wr.map some) (hnC : va_nd isC = true) (hn : va_nd isR = true) (hdis : ∀ i ∈ isR, i ∉ isC) (hq : wc[0]? = some (b, .inr (ci, fs))) (hci : vwCl[ci]? = some (C, T, N)) (hlen : As.length = n) (hst : st0 = As.reverse ++ .ref b :: rest) (hW : (rest.map fun v => v.category).sum ≤ 8) (hz : cells ≤ R.cells ∧ slots ≤ R.slots) (hdg : decode cc pc = .ok (.invokevirtual index, 3)) (hw : wr ++ wc' = ws')
    (kk : ∀ (H : Heap) (locs : List Loc), z_H D A s.heap ws' H locs → W p l e R s m args below meth c H locs cells slots Q (F0 m (pc + 3) ls (.int r :: rest))) : W p l e R s m args below meth c H locs cells slots Q (F0 m pc ls st0) := by
  subst hw
  have hFc := va_free (wc := wc) hH.2.1 hH.2.2 K.2.2.1 isC hC
  refine va_calli (va_runV (As := As) (rest := rest) K.1 (hM H.size) cw ⟨z_preO_blind, va_recv K.2.1 (hH.sub isC hnC hC).1 hci hq, z_beforeO K hO hL hH isC hnC hC⟩ rfl hlen hl hst (lv_room hW) hdg hz) hH.2.2 (fun q _ h => hFc q h) hFc (fun r2 u t H1 locs1 ht hvm hw hB hz1 hk1 hS => ?_)
  subst hw
  exact kk H1 locs1 (z_after K hH isC isR hC hR hn hdis ht hB hk1 hS)
/-- a call of one of String's own methods on a word -/
theorem z_VSi {r : Int32} (K : z_K p m c meth cc nL s args X own D y A R F Lc) (hO : z_O sa sb A s s.heap) (hL : z_L sa s) (hi : i < 6) (hH : z_H D A s.heap ws H locs) (hl : ls.size = nL) (hM : z_MIO l yn bytes maxL rt f' lc' D y sa sb (.ref (sa i) :: As) [] r []) (cw : CallW R s args own "java/lang/String" index yn bytes maxL rt (.code yn bytes maxL rt :: zW) (zR f' lc') 0 0 n) (hlen : As.length = n) (hst : st0 = As.reverse ++ .ref (sa i) :: rest) (hW : (rest.map fun v => v.category).sum ≤ 8) (hz : cells ≤ R.cells ∧ slots ≤ R.slots) (hdg : decode cc pc = .ok (.invokevirtual index, 3))
    (kk : ∀ (H : Heap) (locs : List Loc), z_H D A s.heap ws H locs → W p l e R s m args below meth c H locs cells slots Q (F0 m (pc + 3) ls (.int r :: rest))) : W p l e R s m args below meth c H locs cells slots Q (F0 m pc ls st0) := by
  have hFc := va_free (wc := []) hH.2.1 hH.2.2 K.2.2.1 [] rfl
  refine va_calli (va_runV (As := As) (rest := rest) K.1 (hM H.size) cw ⟨z_preO_blind, vk_recv hO.1 hi hH.2.2, z_beforeO K hO hL hH [] rfl rfl⟩ rfl hlen hl hst (lv_room hW) hdg hz) hH.2.2 (fun q _ h => hFc q h) hFc (fun r2 u t H1 locs1 ht hvm hw hB hz1 hk1 hS => ?_)
  subst hw
  exact kk H1 locs1 (z_keep K hH hk1 hS)
theorem z_SiO {r : Int32} (K : z_K p m c meth cc nL s args X own D y A R F Lc) (hO : z_O sa sb A s s.heap) (hL : z_L sa s) (hH : z_H D A s.heap ws H locs) (hl : ls.size = nL) (hM : z_MIO l yn bytes maxL rt f' lc' D y sa sb As [] r []) (cw : CallB R s args own index yn bytes maxL rt (.code yn bytes maxL rt :: zW) (zR f' lc') 0 0 n ∧ (Cond.static yn).before args s = true) (hlen : As.length = n) (hst : st0 = As.reverse ++ rest) (hW : (rest.map fun v => v.category).sum ≤ 8) (hz : cells ≤ R.cells ∧ slots ≤ R.slots) (hdg : decode cc pc = .ok (.invokestatic index, 3))
    (kk : ∀ (H : Heap) (locs : List Loc), z_H D A s.heap ws H locs → W p l e R s m args below meth c H locs cells slots Q (F0 m (pc + 3) ls (.int r :: rest))) : W p l e R s m args below meth c H locs cells slots Q (F0 m pc ls st0) := by
  have hFc := va_free (wc := []) hH.2.1 hH.2.2 K.2.2.1 [] rfl
  refine va_calli (va_runS (As := As) (rest := rest) K.1 (hM H.size) cw ⟨z_preO_blind, z_beforeO K hO hL hH [] rfl rfl⟩ rfl hlen hl hst (lv_room hW) hdg hz) hH.2.2 (fun q _ h => hFc q h) hFc (fun r2 u t H1 locs1 ht hvm hw hB hz1 hk1 hS => ?_)
  subst hw
  exact kk H1 locs1 (z_keep K hH hk1 hS)
theorem z_SvO (K : z_K p m c meth cc nL s args X own D y A R F Lc) (hO : z_O sa sb A s s.heap) (hL : z_L sa s) (hH : z_H D A s.heap ws H locs) (hl : ls.size = nL) (hM : z_MVO l yn bytes maxL rt f' lc' D y sa sb As [] []) (cw : CallB R s args own index yn bytes maxL rt (.code yn bytes maxL rt :: zW) (zR f' lc') 0 0 n ∧ (Cond.static yn).before args s = true) (hlen : As.length = n) (hst : st0 = As.reverse ++ rest) (hW : (rest.map fun v => v.category).sum ≤ 8) (hz : cells ≤ R.cells ∧ slots ≤ R.slots) (hdg : decode cc pc = .ok (.invokestatic index, 3))
    (kk : ∀ (H : Heap) (locs : List Loc), z_H D A s.heap ws H locs → W p l e R s m args below meth c H locs cells slots Q (F0 m (pc + 3) ls rest)) : W p l e R s m args below meth c H locs cells slots Q (F0 m pc ls st0) := by
  have hFc := va_free (wc := []) hH.2.1 hH.2.2 K.2.2.1 [] rfl
  refine va_callv (va_runS (As := As) (rest := rest) K.1 (hM H.size) cw ⟨z_preO_blind, z_beforeO K hO hL hH [] rfl rfl⟩ rfl hlen hl hst (lv_room hW) hdg hz) hH.2.2 (fun q _ h => hFc q h) hFc (fun u t H1 locs1 ht hvm hw hB hz1 hk1 hS => ?_)
  exact kk H1 locs1 (z_keep K hH hk1 hS)
end ZO
set_option maxHeartbeats 4000000 in
theorem cj_coder (l : Launch) (D : va_G) (y : Nat → ClassId) (sa sb : Nat → Nat) (i : Nat) (hi : i < 6) : z_MIO l yJ0_coder_7d493 cJ0_coder_7d493 1 (some .byte) 0 0 D y sa sb [.ref (sa i)] [] 0 [] := by
  refine z_enIO (by decide) (Nat.le_of_ble_eq_true rfl) ?_
  intro p e s m args below meth c A ls hr hO hL K hH hl
  have hl : lv_has ls 1 [(0, .ref (sa i))] := hl
  refine va_gets K.x K.b hO.2.1 hH.2.2 K.o (K.w tw_2_97) (fun _ h => h) dJ0_coder_7d493_0 ?_
  refine lv_if_eq (tgt := 13) K.x K.b dJ0_coder_7d493_3 (by decide) (fun c9 => absurd c9 (by decide)) (fun _ => ?_)
  refine lv_aload_n K.x K.b dJ0_coder_7d493_6 rfl (lv_at hl 0 rfl) ?_
  refine vk_getf K.x K.b (hO.1.1 i hi).2.1 hH.2.2 K.o (K.w tw_6_47) (fun _ h => h) dJ0_coder_7d493_7 ?_
  refine lv_goto (tgt := 14) K.x K.b dJ0_coder_7d493_10 (by decide) ?_
  exact z_reti K hr hH [] rfl rfl rfl rfl dJ0_coder_7d493_14
set_option maxHeartbeats 4000000 in
theorem cj_latin (l : Launch) (D : va_G) (y : Nat → ClassId) (sa sb : Nat → Nat) (i : Nat) (hi : i < 6) : z_MIO l yJ0_isLatin1_aae02 cJ0_isLatin1_aae02 1 (some .boolean) 0 0 D y sa sb [.ref (sa i)] [] 1 [] := by
  refine z_enIO (by decide) (Nat.le_of_ble_eq_true rfl) ?_
  intro p e s m args below meth c A ls hr hO hL K hH hl
  have hl : lv_has ls 1 [(0, .ref (sa i))] := hl
  refine va_gets K.x K.b hO.2.1 hH.2.2 K.o (K.w tw_2_97) (fun _ h => h) dJ0_isLatin1_aae02_0 ?_
  refine lv_if_eq (tgt := 17) K.x K.b dJ0_isLatin1_aae02_3 (by decide) (fun c9 => absurd c9 (by decide)) (fun _ => ?_)
  refine lv_aload_n K.x K.b dJ0_isLatin1_aae02_6 rfl (lv_at hl 0 rfl) ?_
  refine vk_getf K.x K.b (hO.1.1 i hi).2.1 hH.2.2 K.o (K.w tw_6_47) (fun _ h => h) dJ0_isLatin1_aae02_7 ?_
  refine lv_if_ne (tgt := 17) K.x K.b dJ0_isLatin1_aae02_10 (by decide) (fun c9 => absurd rfl c9) (fun _ => ?_)
  refine lv_iconst (v := 1) K.x K.b dJ0_isLatin1_aae02_13 (by decide) ?_
  refine lv_goto (tgt := 18) K.x K.b dJ0_isLatin1_aae02_14 (by decide) ?_
  exact z_reti K hr hH [] rfl rfl rfl rfl dJ0_isLatin1_aae02_18
theorem hdJ0_coder : yJ0_coder_7d493.cls = "java/lang/String" ∧ yJ0_coder_7d493.cls ≠ "java/lang/invoke/MethodHandle" ∧ yJ0_coder_7d493.cls ≠ "java/lang/invoke/VarHandle" ∧ (parseMethodDescriptor yJ0_coder_7d493.desc).map (fun d => d.parameters.length) = some 0 := by decide +kernel
theorem hdJ0_latin : yJ0_isLatin1_aae02.cls = "java/lang/String" ∧ yJ0_isLatin1_aae02.cls ≠ "java/lang/invoke/MethodHandle" ∧ yJ0_isLatin1_aae02.cls ≠ "java/lang/invoke/VarHandle" ∧ (parseMethodDescriptor yJ0_isLatin1_aae02.desc).map (fun d => d.parameters.length) = some 0 := by decide +kernel
theorem hdJ0_length : yJ0_length_8abf5.cls = "java/lang/String" ∧ yJ0_length_8abf5.cls ≠ "java/lang/invoke/MethodHandle" ∧ yJ0_length_8abf5.cls ≠ "java/lang/invoke/VarHandle" ∧ (parseMethodDescriptor yJ0_length_8abf5.desc).map (fun d => d.parameters.length) = some 0 := by decide +kernel
theorem hdJ0_charAt : yJ0_charAt_5068e.cls = "java/lang/String" ∧ yJ0_charAt_5068e.cls ≠ "java/lang/invoke/MethodHandle" ∧ yJ0_charAt_5068e.cls ≠ "java/lang/invoke/VarHandle" ∧ (parseMethodDescriptor yJ0_charAt_5068e.desc).map (fun d => d.parameters.length) = some 1 := by decide +kernel
theorem hdJ3_check : yJ3_checkIndex_8e157.cls ≠ "java/lang/invoke/MethodHandle" ∧ yJ3_checkIndex_8e157.cls ≠ "java/lang/invoke/VarHandle" ∧ (parseMethodDescriptor yJ3_checkIndex_8e157.desc).map (fun d => d.parameters.length) = some 3 := by decide +kernel
theorem hdJ0_check : yJ0_checkIndex_df160.cls ≠ "java/lang/invoke/MethodHandle" ∧ yJ0_checkIndex_df160.cls ≠ "java/lang/invoke/VarHandle" ∧ (parseMethodDescriptor yJ0_checkIndex_df160.desc).map (fun d => d.parameters.length) = some 2 := by decide +kernel
theorem hdJ1_charAt : yJ1_charAt_3b067.cls ≠ "java/lang/invoke/MethodHandle" ∧ yJ1_charAt_3b067.cls ≠ "java/lang/invoke/VarHandle" ∧ (parseMethodDescriptor yJ1_charAt_3b067.desc).map (fun d => d.parameters.length) = some 2 := by decide +kernel
theorem slen_shr : ∀ i, i < 6 → (slen i >>> ((0 : Int32) &&& 31)) = slen i := by decide +kernel
set_option maxHeartbeats 4000000 in
theorem cj_length (l : Launch) (D : va_G) (y : Nat → ClassId) (sa sb : Nat → Nat) (i : Nat) (hi : i < 6) : z_MIO l yJ0_length_8abf5 cJ0_length_8abf5 1 (some .int) 1 20 D y sa sb [.ref (sa i)] [] (slen i) [] := by
  refine z_enIO (by decide) (Nat.le_of_ble_eq_true rfl) ?_
  intro p e s m args below meth c A ls hr hO hL K hH hl
  have hl : lv_has ls 1 [(0, .ref (sa i))] := hl
  refine lv_aload_n K.x K.b dJ0_length_8abf5_0 rfl (lv_at hl 0 rfl) ?_
  refine vk_getf K.x K.b (hO.1.1 i hi).2.2.1 hH.2.2 K.o (K.w tw_6_46) (fun _ h => h) dJ0_length_8abf5_1 ?_
  refine va_tlen K.x K.b (hO.1.1 i hi).2.2.2 hH.2.2 (v := slen i) rfl dJ0_length_8abf5_4 ?_
  refine lv_aload_n K.x K.b dJ0_length_8abf5_5 rfl (lv_at hl 0 rfl) ?_
  refine z_VSi K hO hL hi hH hl.1 (cj_coder l D y sa sb i hi) (z_cwV K 0 tw_2_93 tw_2_94 tw_2_95 tw_1_10 tw_2_96 hdJ0_coder ⟨by decide, by decide⟩) rfl (As := []) (rest := [.int (slen i)]) rfl (Nat.le_of_ble_eq_true rfl) ⟨Nat.zero_le _, Nat.zero_le _⟩ dJ0_length_8abf5_6 (fun H locs hH => ?_)
  refine lv_ishr K.x K.b dJ0_length_8abf5_9 ?_
  exact z_reti K hr hH [] rfl rfl (slen_shr i hi) rfl dJ0_length_8abf5_10
set_option maxHeartbeats 4000000 in
theorem cj_pre (l : Launch) (D : va_G) (y : Nat → ClassId) (sa sb : Nat → Nat) (k n : Int32) (v : Value) (hv : v = .null ∨ ∃ t, v = .ref t) (h0 : ¬ k < 0) (h1 : k < n) : z_MIO l yJ3_checkIndex_8e157 cJ3_checkIndex_8e157 3 (some .int) 0 0 D y sa sb [.int k, .int n, v] [] k [] := by
  have aux : ∀ w : Value, (w = .null ∨ ∃ t, w = .ref t) → lv_args 0 [.int k, .int n, w] = [(0, .int k), (1, .int n), (2, w)] ∧ (lg_sl [.int k, .int n, w]).length = 3 := by
    intro w hw
    rcases hw with rfl | ⟨t, rfl⟩ <;> exact ⟨rfl, rfl⟩
  refine z_enIO (by decide) (by rw [(aux v hv).2]; exact Nat.le_refl _) ?_
  intro p e s m args below meth c A ls hr hO hL K hH hl
  rw [(aux v hv).1] at hl
  refine lv_iload_n K.x K.b dJ3_checkIndex_8e157_0 rfl (lv_at hl 0 rfl) ?_
  refine lv_if_lt (tgt := 9) K.x K.b dJ3_checkIndex_8e157_1 (by decide) (fun c9 => absurd c9 h0) (fun _ => ?_)
  refine lv_iload_n K.x K.b dJ3_checkIndex_8e157_4 rfl (lv_at hl 0 rfl) ?_
  refine lv_iload_n K.x K.b dJ3_checkIndex_8e157_5 rfl (lv_at hl 1 rfl) ?_
  refine lv_icmp_lt (tgt := 16) K.x K.b dJ3_checkIndex_8e157_6 (by decide) (fun _ => ?_) (fun c9 => absurd h1 c9)
  refine lv_iload_n K.x K.b dJ3_checkIndex_8e157_16 rfl (lv_at hl 0 rfl) ?_
  exact z_reti K hr hH [] rfl rfl rfl rfl dJ3_checkIndex_8e157_17
set_option maxHeartbeats 4000000 in
theorem cj_check (l : Launch) (D : va_G) (y : Nat → ClassId) (sa sb : Nat → Nat) (k n : Int32) (h0 : ¬ k < 0) (h1 : k < n) : z_MVO l yJ0_checkIndex_df160 cJ0_checkIndex_df160 2 none 1 30 D y sa sb [.int k, .int n] [] [] := by
  refine z_enVO (by decide) (Nat.le_of_ble_eq_true rfl) ?_
  intro p e s m args below meth c A ls hr hO hL K hH hl
  have hl : lv_has ls 2 [(0, .int k), (1, .int n)] := hl
  refine lv_iload_n K.x K.b dJ0_checkIndex_df160_0 rfl (lv_at hl 0 rfl) ?_
  refine lv_iload_n K.x K.b dJ0_checkIndex_df160_1 rfl (lv_at hl 1 rfl) ?_
  have go : ∀ v : Value, (v = .null ∨ ∃ t, v = .ref t) → W p l e (zR 1 30) s m args below meth c s.heap [] 0 0 (MQ below (z_Qv D y A []) args s 0 0 A) (F0 m 5 ls [v, .int n, .int k]) := by
    intro v hv
    refine z_SiO K hO hL hH hl.1 (cj_pre l D y sa sb k n v hv h0 h1) (z_cwS K 3 tw_2_115 tw_2_116 tw_1_12 tw_2_117 hdJ3_check ⟨by decide, by decide⟩) rfl (As := [.int k, .int n, v]) (rest := []) rfl (Nat.le_of_ble_eq_true rfl) ⟨Nat.zero_le _, Nat.zero_le _⟩ dJ0_checkIndex_df160_5 (fun H locs hH => ?_)
    refine lv_pop K.x K.b dJ0_checkIndex_df160_8 rfl ?_
    exact z_retv K hr hH [] rfl rfl dJ0_checkIndex_df160_9
  rcases hO.2.2 with h | ⟨t, h⟩
  · exact va_gets K.x K.b h hH.2.2 K.o (K.w tw_2_113) (fun _ h => h) dJ0_checkIndex_df160_2 (go _ (Or.inl rfl))
  · exact va_gets K.x K.b h hH.2.2 K.o (K.w tw_2_113) (fun _ h => h) dJ0_checkIndex_df160_2 (go _ (Or.inr ⟨t, rfl⟩))
theorem z_in_two {k : Int32} {n : Nat} (hn : n < 2 ^ 31) (h : z_in k n = true) : ¬ k < 0 ∧ k < Int32.ofNat n := by
  have h2 := z_in_e h
  refine ⟨fun q => h2 (Or.inl q), ?_⟩
  obtain ⟨j, hj, rfl⟩ := vp_in_of h2 hn
  exact nI_lt hj hn
theorem zLen_le : ∀ i, i < 6 → zLen.getD i 0 < 2 ^ 31 := by decide +kernel
set_option maxHeartbeats 4000000 in
theorem cj_char1 (l : Launch) (D : va_G) (y : Nat → ClassId) (sa sb : Nat → Nat) (i : Nat) (hi : i < 6) (k : Int32) (hk : z_in k (zLen.getD i 0) = true) : z_MIO l yJ1_charAt_3b067 cJ1_charAt_3b067 2 (some .char) 2 60 D y sa sb [.ref (sb i), .int k] [] (sch i k) [] := by
  refine z_enIO (by decide) (Nat.le_of_ble_eq_true rfl) ?_
  intro p e s m args below meth c A ls hr hO hL K hH hl
  have hl : lv_has ls 2 [(0, .ref (sb i)), (1, .int k)] := hl
  obtain ⟨h0, h1⟩ := z_in_two (zLen_le i hi) hk
  refine lv_iload_n K.x K.b dJ1_charAt_3b067_0 rfl (lv_at hl 1 rfl) ?_
  refine lv_aload_n K.x K.b dJ1_charAt_3b067_1 rfl (lv_at hl 0 rfl) ?_
  refine va_tlen K.x K.b (hO.1.1 i hi).2.2.2 hH.2.2 (v := slen i) rfl dJ1_charAt_3b067_2 ?_
  refine z_SvO K hO hL hH hl.1 (cj_check l D y sa sb k (slen i) h0 h1) (z_cwS K 2 tw_2_110 tw_2_111 tw_1_10 tw_2_112 hdJ0_check ⟨by decide, by decide⟩) rfl (As := [.int k, .int (slen i)]) (rest := []) rfl (Nat.le_of_ble_eq_true rfl) ⟨Nat.zero_le _, Nat.zero_le _⟩ dJ1_charAt_3b067_3 (fun H locs hH => ?_)
  refine lv_aload_n K.x K.b dJ1_charAt_3b067_6 rfl (lv_at hl 0 rfl) ?_
  refine lv_iload_n K.x K.b dJ1_charAt_3b067_7 rfl (lv_at hl 1 rfl) ?_
  refine va_tb K.x K.b (hO.1.1 i hi).2.2.2 hH.2.2 (z_in_e hk) rfl dJ1_charAt_3b067_8 ?_
  refine lv_sipush (v := 255) K.x K.b dJ1_charAt_3b067_9 (by decide) ?_
  refine lv_iand K.x K.b dJ1_charAt_3b067_12 ?_
  refine lv_i2c K.x K.b dJ1_charAt_3b067_13 rfl ?_
  exact z_reti K hr hH [] rfl rfl rfl (pk_nc _) dJ1_charAt_3b067_14
set_option maxHeartbeats 4000000 in
theorem cj_charAt (l : Launch) (D : va_G) (y : Nat → ClassId) (sa sb : Nat → Nat) (i : Nat) (hi : i < 6) (k : Int32) (hk : z_in k (zLen.getD i 0) = true) : z_MIO l yJ0_charAt_5068e cJ0_charAt_5068e 2 (some .char) 3 90 D y sa sb [.ref (sa i), .int k] [] (sch i k) [] := by
  refine z_enIO (by decide) (Nat.le_of_ble_eq_true rfl) ?_
  intro p e s m args below meth c A ls hr hO hL K hH hl
  have hl : lv_has ls 2 [(0, .ref (sa i)), (1, .int k)] := hl
  refine lv_aload_n K.x K.b dJ0_charAt_5068e_0 rfl (lv_at hl 0 rfl) ?_
  refine z_VSi K hO hL hi hH hl.1 (cj_latin l D y sa sb i hi) (z_cwV K 0 tw_2_103 tw_2_104 tw_2_105 tw_1_10 tw_2_106 hdJ0_latin ⟨by decide, by decide⟩) rfl (As := []) (rest := []) rfl (Nat.le_of_ble_eq_true rfl) ⟨Nat.zero_le _, Nat.zero_le _⟩ dJ0_charAt_5068e_1 (fun H locs hH => ?_)
  refine lv_if_eq (tgt := 16) K.x K.b dJ0_charAt_5068e_4 (by decide) (fun c9 => absurd c9 (by decide)) (fun _ => ?_)
  refine lv_aload_n K.x K.b dJ0_charAt_5068e_7 rfl (lv_at hl 0 rfl) ?_
  refine vk_getf K.x K.b (hO.1.1 i hi).2.2.1 hH.2.2 K.o (K.w tw_6_46) (fun _ h => h) dJ0_charAt_5068e_8 ?_
  refine lv_iload_n K.x K.b dJ0_charAt_5068e_11 rfl (lv_at hl 1 rfl) ?_
  refine z_SiO K hO hL hH hl.1 (cj_char1 l D y sa sb i hi k hk) (z_cwS K 2 tw_2_107 tw_2_108 tw_1_11 tw_2_109 hdJ1_charAt ⟨by decide, by decide⟩) rfl (As := [.ref (sb i), .int k]) (rest := []) rfl (Nat.le_of_ble_eq_true rfl) ⟨Nat.zero_le _, Nat.zero_le _⟩ dJ0_charAt_5068e_12 (fun H locs hH => ?_)
  exact z_reti K hr hH [] rfl rfl rfl (pk_nc _) dJ0_charAt_5068e_15
