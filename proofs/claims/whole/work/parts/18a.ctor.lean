/-! Making: rows for what a constructor does, and contracts of constructors. -/
def z_N (U : State) : Prop := va_AO "CrowMiles$Doings" U ∧ va_AO "CrowMiles$Country" U ∧ va_Nw (.methodLinkNest "CrowMiles$Country" 26 yX1_init "CrowMiles") U ∧ va_Nw (.methodLinkNest "CrowMiles" 34 yX5_init "CrowMiles") U ∧ va_Nw (.methodLinkNest "CrowMiles" 41 yX4_init "CrowMiles") U ∧ va_Nw (.methodLinkNest "CrowMiles" 48 yX1_init "CrowMiles") U ∧ va_Nw (.methodLinkNest "CrowMiles" 55 yX3_init "CrowMiles") U
theorem z_N.warm {s U : State} (hW : s.WarmedH U.vm) (h : z_N s) : z_N U :=
  ⟨va_AO.moved hW.alike h.1, va_AO.moved hW.alike h.2.1, va_Nw.warmM hW h.2.2.1, va_Nw.warmM hW h.2.2.2.1, va_Nw.warmM hW h.2.2.2.2.1, va_Nw.warmM hW h.2.2.2.2.2.1, va_Nw.warmM hW h.2.2.2.2.2.2⟩
theorem z_N.same {s U : State} (hv : s.vm = U.vm) (h : z_N s) : z_N U :=
  ⟨va_AO.moved (by rw [hv]; exact Vm.Alike.refl _) h.1, va_AO.moved (by rw [hv]; exact Vm.Alike.refl _) h.2.1, va_Nw.same rfl hv h.2.2.1, va_Nw.same rfl hv h.2.2.2.1, va_Nw.same rfl hv h.2.2.2.2.1, va_Nw.same rfl hv h.2.2.2.2.2.1, va_Nw.same rfl hv h.2.2.2.2.2.2⟩
abbrev zRm (f lc mc ms : Nat) : Room := { frames := f, cells := mc, slots := ms, locals := lc }
def z_preN (D : va_G) (y : Nat → ClassId) (sz : Nat) (ws : va_W) (U : State) : Prop := z_pre D y sz ws U ∧ z_N U
def z_MC (l : Launch) (yn : MethodName) (cc : ByteArray) (nL f lc mc ms : Nat) (D : va_G) (y : Nat → ClassId) (av : List Value) (ws : va_W) (B : va_W → Prop) : Prop :=
  ∀ sz, Met l yn (.code yn cc nL none :: zW) (zRm f lc mc ms) (va_Pc av (z_preN D y sz ws)) (va_Qv (fun w : va_W => B w) (fun w t => z_post D y (va_A ws sz) w t) (va_A ws sz)) mc ms (va_A ws sz)
theorem z_preN_blind {D : va_G} {y : Nat → ClassId} {sz : Nat} {ws : va_W} {av : List Value} : FrameBlind (va_Pc av (z_preN D y sz ws)) :=
  fun a U g mk q => by obtain ⟨q0, ⟨q1, qP, qK, qD⟩, qN⟩ := q; exact ⟨q0, ⟨q1, qP, va_K.moved (u := U) (U := U.calling g mk a) (Vm.Alike.refl U.vm) qK, qD⟩, z_N.same (U := U.calling g mk a) rfl qN⟩
theorem z_enC {l : Launch} {yn : MethodName} {cc : ByteArray} {nL f lc mc ms : Nat} {D : va_G} {y : Nat → ClassId} {av : List Value} {ws : va_W} {B : va_W → Prop} (hy : plainName yn.cls = true) (hi : yn.name = "<init>") (hlen : (lg_sl av).length ≤ nL)
    (body : ∀ (p : Program) (e : Env) (s : State) (m : MethodId) (args : Array Value) (below : List Frame) (meth : Method) (c : Code) (A : Nat → Prop) (ls : Array Slot), meth.sig.returnType = none → meth.name = "<init>" → z_N s → z_K p m c meth cc nL s args (.code yn cc nL none) yn.cls D y A (zRm f lc mc ms) f lc → z_H D A s.heap ws s.heap [] → lv_has ls nL (lv_args 0 av) → W p l e (zRm f lc mc ms) s m args below meth c s.heap [] 0 0 (MQ below (va_Qv (fun w : va_W => B w) (fun w t => z_post D y A w t) A) args s mc ms A) (F0 m 0 ls [])) :
    z_MC l yn cc nL f lc mc ms D y av ws B := by
  intro sz
  refine Met.ofW (cc := cc) (maxL := nL) (ret := none) hy rfl ?_
  intro p e s m args below meth c s₁ B1 hml hv
  obtain ⟨rfl, ⟨hsz, hP, hK, hD0⟩, hN⟩ := hv
  have hts := atoms_spec (ws := .code yn cc nL none :: zW) B1.pre
  have hown : s.vm.findClass yn.cls = some m.cls := findClass_of_methodNamed B1.named
  have hin : meth.name = "<init>" := (name_of_methodNamed B1.named B1.method).1.trans hi
  subst hsz
  have hD := hD0.self (sz := s.heap.size)
  have hl := lv_entry av (n := nL) hlen
  rw [lg_entry_eq]
  exact body p e s m _ below meth c _ _ B1.returns hin hN ⟨⟨B1.exec, B1.bytes, hml, hown, hts⟩, hK, fun q h => Or.inr h, B1.notSynchronized, Nat.le_refl _, Nat.le_refl _⟩ ⟨hP, hD, va_S.rf⟩ hl
section ZN
variable {p : Program} {l : Launch} {e : Env} {R : Room} {s : State} {m : MethodId} {args : Array Value} {below : List Frame} {meth : Method} {c : Code} {H : Heap} {locs : List Loc} {cells slots : Nat} {Q : State → Prop}
variable {cc : ByteArray} {nL : Nat} {X : Cond} {own : String} {D : va_G} {y : Nat → ClassId} {A : Nat → Prop} {F Lc : Nat} {ws ws' : va_W} {pc : Nat} {ls : Array Slot} {rest : List Value} {a : Nat}
theorem z_retC {B : va_W → Prop} (K : z_K p m c meth cc nL s args X own D y A R F Lc) (hr : meth.sig.returnType = none) (hH : z_H D A s.heap ws H locs) (hB : B ws) (hdg : decode cc pc = .ok (.return_, 1)) : W p l e R s m args below meth c H locs cells slots (MQ below (va_Qv (fun w : va_W => B w) (fun w t => z_post D y A w t) A) args s cells slots A) (F0 m pc ls []) :=
  W.vret K.1.1 K.1.2.1 hr (fun t ht hW => ⟨⟨ws, rfl, hB, by rw [ht]; exact hH.1, va_K.moved hW.alike K.2.1, hH.2.1⟩, hH.2.2.F ht⟩) hH.2.2.2.2 hdg K.2.2.2.1
theorem z_objI (K : z_K p m c meth cc nL s args X own D y A R F Lc) (hl : ls.size = nL) {idx : Nat} (h1 : Cond.methodLink own idx objectInit ∈ zW) (hf : 1 ≤ F) (hc : (rest.map fun v => v.category).sum + 12 ≤ Lc) (hdg : decode cc pc = .ok (.invokespecial idx, 3))
    (kk : W p l e R s m args below meth c H locs cells slots Q (F0 m (pc + 3) ls rest)) : W p l e R s m args below meth c H locs cells slots Q (F0 m pc ls (.ref a :: rest)) :=
  W.objInit K.1.1 K.1.2.1 K.o (K.w h1) (K.w tw_1_22) (K.w tw_1_23) rfl (by rw [K.1.2.2.1]; exact hl) rfl hdg (Nat.le_trans hf K.2.2.2.2.1) (Nat.le_trans (by show 2 * 0 + _ + 12 ≤ _; omega) K.2.2.2.2.2) kk
theorem z_putF (K : z_K p m c meth cc nL s args X own D y A R F Lc) (hin2 : meth.name = "<init>") (hH : z_H D A s.heap ws H locs) (q0 : Nat) {ci : Nat} {fs : List Value} (he : ws[q0]? = some (a, .inr (ci, fs))) {C : String} {T : u_T} {N : Nat} (hin : ∀ w ∈ u_ws C T N, w ∈ zW) (hc : vwCl[ci]? = some (C, T, N)) (ty0 : Nat → FieldType) (hty : ∀ k, k < N → parseFieldDescriptor (T k).2.2.1 = some (ty0 k)) (hnm : ∀ a, a < N → ∀ b, b < N → a ≠ b → (T a).2.1 ≠ (T b).2.1) (k : Nat) (hk : k < N) {index : Nat} (hlink : Cond.fieldLink own index (T k).1 (T k).2.1 (T k).2.2.1 ∈ zW) (hfin : (T k).2.2.2 = true) (hdecl : (T k).1 = own) {v : Value} (hn : narrow (ty0 k) v = v) (hfit : fits (ty0 k) v = true) (hl : k < fs.length) (hdg : decode cc pc = .ok (.putfield index, 3)) (hw : ws.set q0 (a, .inr (ci, fs.set k v)) = ws')
    (kk : ∀ (H : Heap) (locs : List Loc), z_H D A s.heap ws' H locs → W p l e R s m args below meth c H locs cells slots Q (F0 m (pc + 3) ls rest)) : W p l e R s m args below meth c H locs cells slots Q (F0 m pc ls (v :: .ref a :: rest)) := by
  subst hw
  exact va_putF K.1.1 K.1.2.1 K.1.2.2.2.2 (fun w h => List.mem_cons_of_mem _ (hin w h)) ty0 hty hnm K.1.2.2.2.1 K.2.1 hH.1 hH.2.1 hH.2.2 q0 he hc k hk (K.w hlink) (fun _ h => h) hfin hin2 hdecl (hty k hk) hn hfit hl hdg (fun H1 locs1 h1 h2 h3 => kk H1 locs1 ⟨h1, h2, h3⟩)
theorem z_new (K : z_K p m c meth cc nL s args X own D y A R F Lc) (hH : z_H D A s.heap ws H locs) {C : String} {T : u_T} {N ci index : Nat} (hin : ∀ w ∈ u_ws C T N, w ∈ zW) (ty : Nat → FieldType) (hty : ∀ k, k < N → parseFieldDescriptor (T k).2.2.1 = some (ty k)) (h1 : Cond.classLink own index C ∈ zW) (h2 : Cond.instantiable C N ∈ zW) (h3 : Cond.initialized C ∈ zW) (hc : vwCl[ci]? = some (C, T, N)) {fs : List Value} (hfs : ∀ j, j < N → defaultValue (ty j) = vp_V fs j) (hcells : cells + 1 ≤ R.cells) (hslots : slots + N ≤ R.slots) (hdg : decode cc pc = .ok (.new index, 3))
    (kk : ∀ (q : Nat) (H : Heap), z_H D A s.heap (ws ++ [(q, .inr (ci, fs))]) H locs → W p l e R s m args below meth c H locs (cells + 1) (slots + N) Q (F0 m (pc + 3) ls (.ref q :: rest))) : W p l e R s m args below meth c H locs cells slots Q (F0 m pc ls rest) :=
  va_new K.1.1 K.1.2.1 K.1.2.2.2.2 (fun w h => List.mem_cons_of_mem _ (hin w h)) ty hty K.o (K.w h1) (K.w h2) (K.w h3) K.2.1 hH.1 hH.2.1 hH.2.2 K.2.2.1 hc hfs hcells hslots hdg (fun q H1 g1 g2 g3 => kk q H1 ⟨g1, g2, g3⟩)
theorem z_newI (K : z_K p m c meth cc nL s args X own D y A R F Lc) (hH : z_H D A s.heap ws H locs) {n : Int32} (N : Nat) (hn : ¬ n < 0) (hN : n.toNatClampNeg = N) (hb : N * 4 ≤ 536870912) (hcells : cells + 1 ≤ R.cells) (hslots : slots + N ≤ R.slots) (hdg : decode cc pc = .ok (.newarray .int, 2))
    (kk : ∀ (q : Nat) (H : Heap), z_H D A s.heap (ws ++ [(q, .inl (y 0, N, .inl (fun _ => 0)))]) H locs → W p l e R s m args below meth c H locs (cells + 1) (slots + N) Q (F0 m (pc + 2) ls (.ref q :: rest))) : W p l e R s m args below meth c H locs cells slots Q (F0 m pc ls (.int n :: rest)) := by
  refine va_newa (atype := .int) (ty := .int) (a0 := (N, .inl (fun _ => 0))) K.1.1 K.1.2.1 (K.w tw_1_62) rfl K.2.1 hH.1 hH.2.1 hH.2.2 K.2.2.1 (fun _ => rfl) hn hN hb hcells hslots hdg (fun q cA H1 gK g1 g2 g3 => ?_)
  have e1 : s.vm.findClass ("[" ++ FieldType.int.toString) = some cA := (gK.2 5 _ rfl).2
  have e2 : s.vm.findClass ("[" ++ FieldType.int.toString) = some (y 0) := (K.2.1.2 0 _ rfl).2
  rw [e1] at e2
  obtain rfl := Option.some.inj e2
  exact kk q H1 ⟨g1, g2, g3⟩
theorem z_newB (K : z_K p m c meth cc nL s args X own D y A R F Lc) (hH : z_H D A s.heap ws H locs) {n : Int32} (N : Nat) (hn : ¬ n < 0) (hN : n.toNatClampNeg = N) (hb : N * 1 ≤ 536870912) (hcells : cells + 1 ≤ R.cells) (hslots : slots + N ≤ R.slots) (hdg : decode cc pc = .ok (.newarray .byte, 2))
    (kk : ∀ (q : Nat) (H : Heap), z_H D A s.heap (ws ++ [(q, .inl (y 1, N, .inl (fun _ => 0)))]) H locs → W p l e R s m args below meth c H locs (cells + 1) (slots + N) Q (F0 m (pc + 2) ls (.ref q :: rest))) : W p l e R s m args below meth c H locs cells slots Q (F0 m pc ls (.int n :: rest)) := by
  refine va_newa (atype := .byte) (ty := .byte) (a0 := (N, .inl (fun _ => 0))) K.1.1 K.1.2.1 (K.w tw_1_153) rfl K.2.1 hH.1 hH.2.1 hH.2.2 K.2.2.1 (fun _ => rfl) hn hN hb hcells hslots hdg (fun q cA H1 gK g1 g2 g3 => ?_)
  have e1 : s.vm.findClass ("[" ++ FieldType.byte.toString) = some cA := (gK.2 5 _ rfl).2
  have e2 : s.vm.findClass ("[" ++ FieldType.byte.toString) = some (y 1) := (K.2.1.2 1 _ rfl).2
  rw [e1] at e2
  obtain rfl := Option.some.inj e2
  exact kk q H1 ⟨g1, g2, g3⟩
theorem z_newZ (K : z_K p m c meth cc nL s args X own D y A R F Lc) (hH : z_H D A s.heap ws H locs) {n : Int32} (N : Nat) (hn : ¬ n < 0) (hN : n.toNatClampNeg = N) (hb : N * 1 ≤ 536870912) (hcells : cells + 1 ≤ R.cells) (hslots : slots + N ≤ R.slots) (hdg : decode cc pc = .ok (.newarray .boolean, 2))
    (kk : ∀ (q : Nat) (H : Heap), z_H D A s.heap (ws ++ [(q, .inl (y 2, N, .inl (fun _ => 0)))]) H locs → W p l e R s m args below meth c H locs (cells + 1) (slots + N) Q (F0 m (pc + 2) ls (.ref q :: rest))) : W p l e R s m args below meth c H locs cells slots Q (F0 m pc ls (.int n :: rest)) := by
  refine va_newa (atype := .boolean) (ty := .boolean) (a0 := (N, .inl (fun _ => 0))) K.1.1 K.1.2.1 (K.w tw_1_152) rfl K.2.1 hH.1 hH.2.1 hH.2.2 K.2.2.1 (fun _ => rfl) hn hN hb hcells hslots hdg (fun q cA H1 gK g1 g2 g3 => ?_)
  have e1 : s.vm.findClass ("[" ++ FieldType.boolean.toString) = some cA := (gK.2 5 _ rfl).2
  have e2 : s.vm.findClass ("[" ++ FieldType.boolean.toString) = some (y 2) := (K.2.1.2 2 _ rfl).2
  rw [e1] at e2
  obtain rfl := Option.some.inj e2
  exact kk q H1 ⟨g1, g2, g3⟩
theorem z_newQ (K : z_K p m c meth cc nL s args X own D y A R F Lc) (hH : z_H D A s.heap ws H locs) (t0 : Nat) {cB : ClassId} {C : String} {index : Nat} (ht : (zT y)[t0]? = some (cB, .object C)) (h1 : Cond.classLink own index C ∈ zW) (hov : va_AO C s) {n : Int32} (N : Nat) (hn : ¬ n < 0) (hN : n.toNatClampNeg = N) (hb : N * 4 ≤ 536870912) (hcells : cells + 1 ≤ R.cells) (hslots : slots + N ≤ R.slots) (hdg : decode cc pc = .ok (.anewarray index, 3))
    (kk : ∀ (q : Nat) (H : Heap), z_H D A s.heap (ws ++ [(q, .inl (cB, N, .inr (.inr (.inr (.inr (fun _ => none))))))]) H locs → W p l e R s m args below meth c H locs (cells + 1) (slots + N) Q (F0 m (pc + 3) ls (.ref q :: rest))) : W p l e R s m args below meth c H locs cells slots Q (F0 m pc ls (.int n :: rest)) := by
  refine va_newq K.1.1 K.1.2.1 K.o (K.w h1) hov K.2.1 hH.1 hH.2.1 hH.2.2 K.2.2.1 hn hN hb hcells hslots hdg (fun q cA H1 gK g1 g2 g3 => ?_)
  obtain ⟨kA, comp, -, -, -, e1⟩ := (gK.2 5 _ rfl).2
  obtain ⟨kA', comp', -, -, -, e2⟩ := (K.2.1.2 t0 _ ht).2
  rw [e1] at e2
  obtain rfl := Option.some.inj e2
  exact kk q H1 ⟨g1, g2, g3⟩
variable {yn : MethodName} {bytes : ByteArray} {maxL f' lc' mc ms n index : Nat} {b : Nat} {As st0 : List Value} {w0 : va_W} {cell : va_E} {B : va_W → Prop} {host : String}
theorem z_afterN {H1 : Heap} {locs1 : List Loc} {t : State} {w : va_W} (hH : z_H D A s.heap (w0 ++ [(b, cell)]) H locs) (hA : ∀ q, s.heap.size ≤ q → A q) (ht : t.heap = H1) (hB : z_post D y (va_A [(b, cell)] H.size) w t) (hk1 : ∀ q : Nat, q < H.size → ¬ va_A [(b, cell)] H.size q → H1[q]? = H[q]?) (hS : va_S A s.heap H1 locs1) : z_H D A s.heap (w0 ++ w) H1 locs1 := by
  obtain ⟨hP1, -, hD1⟩ := hB
  rw [ht] at hP1
  have hlast : (w0 ++ [(b, cell)])[w0.length]? = some (b, cell) := by rw [List.getElem?_append_right (Nat.le_refl _), Nat.sub_self]; rfl
  have up : ∀ (k : Nat) (q : Nat × va_E), w0[k]? = some q → (w0 ++ [(b, cell)])[k]? = some q := fun k q hq => by
    rw [List.getElem?_append_left (List.getElem?_eq_some_iff.mp hq).1]; exact hq
  have apart : ∀ (k : Nat) (q : Nat × va_E), w0[k]? = some q → q.1 < H.size ∧ ¬ va_A [(b, cell)] H.size q.1 := by
    intro k q hq
    have hl := (hH.1 k q (up k q hq)).lt
    refine ⟨hl, fun h => ?_⟩
    rcases h with ⟨k2, e, h⟩ | h
    · have hz : k2 < 1 := (List.getElem?_eq_some_iff.mp h).1
      rw [show k2 = 0 by omega] at h
      have hb : (b, cell) = (q.1, e) := Option.some.inj h
      have := hH.2.1.1 k w0.length q (b, cell) (up k q hq) hlast (by rw [hb])
      have := (List.getElem?_eq_some_iff.mp hq).1
      omega
    · omega
  have hF : ∀ q, va_A [(b, cell)] H.size q → A q := by
    intro q h
    rcases h with ⟨k, e, h⟩ | h
    · have hz : k < 1 := (List.getElem?_eq_some_iff.mp h).1
      rw [show k = 0 by omega] at h
      have hb : (b, cell) = (q, e) := Option.some.inj h
      have := hH.2.1.2 w0.length (b, cell) hlast
      rw [hb] at this
      exact this
    · exact hA q (Nat.le_trans hH.2.2.1 h)
  have hD0 : va_D A w0 := ⟨fun i j p q hi hj he => hH.2.1.1 i j p q (up i p hi) (up j q hj) he, fun k q hq => hH.2.1.2 k q (up k q hq)⟩
  refine ⟨va_P.app (fun k q hq => (hH.1 k q (up k q hq)).kept (hk1 q.1 (apart k q hq).1 (apart k q hq).2)) hP1, va_D.app hD0 (hD1.weaken (fun k q _ h => hF q.1 h)) (fun i j x z hx hz hxz => ?_), hS⟩
  exact (apart i x hx).2 (by rw [hxz]; exact hD1.2 j z hz)
theorem z_beforeN {av : List Value} (K : z_K p m c meth cc nL s args X own D y A R F Lc) (hN : z_N s) (hH : z_H D A s.heap (w0 ++ [(b, cell)]) H locs) : ∀ U : State, U.heap = H → s.WarmedH U.vm → va_Pc av (z_preN D y H.size [(b, cell)]) av.toArray U := by
  have hlast : (w0 ++ [(b, cell)])[w0.length]? = some (b, cell) := by rw [List.getElem?_append_right (Nat.le_refl _), Nat.sub_self]; rfl
  have h := hH.sub [w0.length] (ws' := [(b, cell)]) rfl (by show [(w0 ++ [(b, cell)])[w0.length]?] = [some (b, cell)]; rw [hlast])
  intro U hU hW
  exact ⟨rfl, ⟨by rw [hU], by rw [hU]; exact h.1, va_K.moved hW.alike K.2.1, h.2.1.weaken (fun _ _ _ _ => trivial)⟩, z_N.warm hW hN⟩
theorem z_freeN (hH : z_H D A s.heap (w0 ++ [(b, cell)]) H locs) (hA : ∀ q, s.heap.size ≤ q → A q) : ∀ q, va_A [(b, cell)] H.size q → A q := by
  have hlast : (w0 ++ [(b, cell)])[w0.length]? = some (b, cell) := by rw [List.getElem?_append_right (Nat.le_refl _), Nat.sub_self]; rfl
  exact va_free (wc := [(b, cell)]) hH.2.1 hH.2.2 hA [w0.length] (by show [(w0 ++ [(b, cell)])[w0.length]?] = [some (b, cell)]; rw [hlast])
theorem z_gI {own : String} {c2 : ByteArray} {n2 : Nat} (h5 : Cond.code yn c2 n2 none ∈ zW) : GoodIn (X :: zW) (.code yn c2 n2 none :: zW) := by
  intro w hw
  rcases List.mem_cons.mp hw with rfl | hw
  · exact z_gX h5
  · exact z_gX hw
theorem z_I (K : z_K p m c meth cc nL s args X own D y A R F Lc) (hN : z_N s) (hH : z_H D A s.heap (w0 ++ [(b, cell)]) H locs) (hl : ls.size = nL) (hM : z_MC l yn bytes maxL f' lc' mc ms D y (.ref b :: As) [(b, cell)] B) (n : Nat) (h1 : Cond.methodLink own index yn ∈ zW) (h2 : Cond.instanceMethod yn ∈ zW) (h4 : Cond.initialized yn.cls ∈ zW) (h5 : Cond.code yn bytes maxL none ∈ zW) (hy1 : yn.name = "<init>") (hd : yn.cls ≠ "java/lang/invoke/MethodHandle" ∧ yn.cls ≠ "java/lang/invoke/VarHandle" ∧ (parseMethodDescriptor yn.desc).map (fun d => d.parameters.length) = some n) (hR : f' + 1 ≤ F ∧ 8 + (maxL + 11) + lc' ≤ Lc) (hlen : As.length = n) (hst : st0 = As.reverse ++ .ref b :: rest) (hW : (rest.map fun v => v.category).sum ≤ 8) (hz : cells + mc ≤ R.cells ∧ slots + ms ≤ R.slots) (hdg : decode cc pc = .ok (.invokespecial index, 3))
    (kk : ∀ (w : va_W) (H : Heap) (locs : List Loc), B w → z_H D A s.heap (w0 ++ w) H locs → W p l e R s m args below meth c H locs (cells + mc) (slots + ms) Q (F0 m (pc + 3) ls rest)) : W p l e R s m args below meth c H locs cells slots Q (F0 m pc ls st0) := by
  have hFc := z_freeN hH K.2.2.1
  refine va_callv (va_runI (As := As) (rest := rest) K.1 (hM H.size) (cwI n K.1.2.2.2.2 (z_gI (own := own) h5) rfl rfl rfl (K.w h4) (K.w h1) (K.w h2) hy1 hd ⟨Nat.le_trans hR.1 K.2.2.2.2.1, Nat.le_trans hR.2 K.2.2.2.2.2⟩) ⟨z_preN_blind, z_beforeN K hN hH⟩ rfl hlen hl hst (lv_room hW) hdg hz) hH.2.2 (fun q _ h => hFc q h) hFc (fun w t H1 locs1 ht hvm hw hB hz1 hk1 hS => ?_)
  exact kk w H1 locs1 hw (z_afterN hH K.2.2.1 ht hB hk1 hS)
theorem z_IN (K : z_K p m c meth cc nL s args X own D y A R F Lc) (hN : z_N s) (hH : z_H D A s.heap (w0 ++ [(b, cell)]) H locs) (hl : ls.size = nL) (hM : z_MC l yn bytes maxL f' lc' mc ms D y (.ref b :: As) [(b, cell)] B) (n : Nat) (h1 : va_Nw (.methodLinkNest own index yn host) s) (h2 : Cond.instanceMethod yn ∈ zW) (h4 : Cond.initialized yn.cls ∈ zW) (h5 : Cond.code yn bytes maxL none ∈ zW) (hy1 : yn.name = "<init>") (hd : yn.cls ≠ "java/lang/invoke/MethodHandle" ∧ yn.cls ≠ "java/lang/invoke/VarHandle" ∧ (parseMethodDescriptor yn.desc).map (fun d => d.parameters.length) = some n) (hR : f' + 1 ≤ F ∧ 8 + (maxL + 11) + lc' ≤ Lc) (hlen : As.length = n) (hst : st0 = As.reverse ++ .ref b :: rest) (hW : (rest.map fun v => v.category).sum ≤ 8) (hz : cells + mc ≤ R.cells ∧ slots + ms ≤ R.slots) (hdg : decode cc pc = .ok (.invokespecial index, 3))
    (kk : ∀ (w : va_W) (H : Heap) (locs : List Loc), B w → z_H D A s.heap (w0 ++ w) H locs → W p l e R s m args below meth c H locs (cells + mc) (slots + ms) Q (F0 m (pc + 3) ls rest)) : W p l e R s m args below meth c H locs cells slots Q (F0 m pc ls st0) := by
  have hFc := z_freeN hH K.2.2.1
  refine va_callv (va_runIN (As := As) (rest := rest) (host := host) K.1 (hM H.size) ⟨va_cnB n K.1.2.2.2.2 (z_gI (own := own) h5) rfl rfl rfl h1 (K.w h4) hd ⟨Nat.le_trans hR.1 K.2.2.2.2.1, Nat.le_trans hR.2 K.2.2.2.2.2⟩, hy1, K.w h2⟩ ⟨z_preN_blind, z_beforeN K hN hH⟩ rfl hlen hl hst (lv_room hW) hdg hz) hH.2.2 (fun q _ h => hFc q h) hFc (fun w t H1 locs1 ht hvm hw hB hz1 hk1 hS => ?_)
  exact kk w H1 locs1 hw (z_afterN hH K.2.2.1 ht hB hk1 hS)
end ZN
