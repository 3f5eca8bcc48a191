/-! The kit's rows in bundles: what is known of a method (z_K), of the heap (z_H); contracts of one form (z_MI, z_ML, z_MV). -/
abbrev zT (y : Nat → ClassId) : List (ClassId × FieldType) := [(y 0, .int), (y 1, .byte), (y 2, .boolean), (y 3, .object "CrowMiles$Country"), (y 4, .object "CrowMiles$Doings")]
def z_H (D : va_G) (A : Nat → Prop) (H0 : Heap) (ws : va_W) (H : Heap) (locs : List Loc) : Prop := va_P D vwCl ws H ∧ va_D A ws ∧ va_S A H0 H locs
def z_K (p : Program) (m : MethodId) (c : Code) (meth : Method) (cc : ByteArray) (nL : Nat) (s : State) (args : Array Value) (X : Cond) (own : String) (D : va_G) (y : Nat → ClassId) (A : Nat → Prop) (R : Room) (F Lc : Nat) : Prop :=
  CallFix p m c cc nL s args (X :: zW) own ∧ va_K D vwCl (zT y) s ∧ (∀ q, s.heap.size ≤ q → A q) ∧ meth.locks = false ∧ F ≤ R.frames ∧ Lc ≤ R.locals
def z_pre (D : va_G) (y : Nat → ClassId) (sz : Nat) (ws : va_W) (U : State) : Prop := U.heap.size = sz ∧ va_P D vwCl ws U.heap ∧ va_K D vwCl (zT y) U ∧ va_D (fun _ => True) ws
def z_post (D : va_G) (y : Nat → ClassId) (A : Nat → Prop) (ws : va_W) (t : State) : Prop := va_P D vwCl ws t.heap ∧ va_K D vwCl (zT y) t ∧ va_D A ws
abbrev z_Qi (D : va_G) (y : Nat → ClassId) (A : Nat → Prop) (r : Int32) (ws : va_W) : Array Value → State → Outcome → State → Prop := va_Qi (fun (r' : Int32) (_ : Unit) => r' = r) (fun _ t => z_post D y A ws t) A
abbrev z_Ql (D : va_G) (y : Nat → ClassId) (A : Nat → Prop) (r : Int64) (ws : va_W) : Array Value → State → Outcome → State → Prop := va_Ql (fun (r' : Int64) (_ : Unit) => r' = r) (fun _ t => z_post D y A ws t) A
abbrev z_Qv (D : va_G) (y : Nat → ClassId) (A : Nat → Prop) (ws : va_W) : Array Value → State → Outcome → State → Prop := va_Qv (fun (_ : Unit) => True) (fun _ t => z_post D y A ws t) A
abbrev zR (f lc : Nat) : Room := { frames := f, cells := 0, slots := 0, locals := lc }
def z_MI (l : Launch) (yn : MethodName) (cc : ByteArray) (nL : Nat) (rt : Option FieldType) (f lc : Nat) (D : va_G) (y : Nat → ClassId) (av : List Value) (ws : va_W) (r : Int32) (ws' : va_W) : Prop :=
  ∀ sz, Met l yn (.code yn cc nL rt :: zW) (zR f lc) (va_Pc av (z_pre D y sz ws)) (z_Qi D y (va_A ws sz) r ws') 0 0 (va_A ws sz)
def z_ML (l : Launch) (yn : MethodName) (cc : ByteArray) (nL : Nat) (rt : Option FieldType) (f lc : Nat) (D : va_G) (y : Nat → ClassId) (av : List Value) (ws : va_W) (r : Int64) (ws' : va_W) : Prop :=
  ∀ sz, Met l yn (.code yn cc nL rt :: zW) (zR f lc) (va_Pc av (z_pre D y sz ws)) (z_Ql D y (va_A ws sz) r ws') 0 0 (va_A ws sz)
def z_MV (l : Launch) (yn : MethodName) (cc : ByteArray) (nL : Nat) (rt : Option FieldType) (f lc : Nat) (D : va_G) (y : Nat → ClassId) (av : List Value) (ws : va_W) (ws' : va_W) : Prop :=
  ∀ sz, Met l yn (.code yn cc nL rt :: zW) (zR f lc) (va_Pc av (z_pre D y sz ws)) (z_Qv D y (va_A ws sz) ws') 0 0 (va_A ws sz)
theorem z_pre_blind {D : va_G} {y : Nat → ClassId} {sz : Nat} {ws : va_W} {av : List Value} : FrameBlind (va_Pc av (z_pre D y sz ws)) :=
  fun a U g mk q => by obtain ⟨q0, q1, qP, qK, qD⟩ := q; exact ⟨q0, q1, qP, va_K.moved (u := U) (U := U.calling g mk a) (Vm.Alike.refl U.vm) qK, qD⟩
theorem z_H.sub {D : va_G} {A : Nat → Prop} {H0 H : Heap} {ws ws' : va_W} {locs : List Loc} (h : z_H D A H0 ws H locs) (is : List Nat) (hn : va_nd is = true) (hs : is.map (fun i => ws[i]?) = ws'.map some) : z_H D A H0 ws' H locs := by
  refine ⟨h.1.sub is ?_, h.2.1.sub is hn hs, h.2.2⟩
  have : ∀ (is : List Nat) (w : va_W), is.map (fun i => ws[i]?) = w.map some → is.filterMap (fun i => ws[i]?) = w := by
    intro is
    induction is with
    | nil =>
      intro w hw
      cases w with
      | nil => rfl
      | cons a w => cases hw
    | cons i is ih =>
      intro w hw
      cases w with
      | nil => cases hw
      | cons a w =>
        have h1 : ws[i]? = some a := (List.cons.inj hw).1
        have h2 := ih w (List.cons.inj hw).2
        rw [List.filterMap_cons, h1, h2]
  exact this is ws' hs
section ZR
variable {p : Program} {l : Launch} {e : Env} {R : Room} {s : State} {m : MethodId} {args : Array Value} {below : List Frame} {meth : Method} {c : Code} {H : Heap} {locs : List Loc} {cells slots : Nat} {Q : State → Prop}
variable {cc : ByteArray} {nL : Nat} {X : Cond} {own : String} {D : va_G} {y : Nat → ClassId} {A : Nat → Prop} {F Lc : Nat} {ws ws' : va_W} {pc : Nat} {ls : Array Slot} {rest : List Value} {a : Nat}
theorem z_K.x (K : z_K p m c meth cc nL s args X own D y A R F Lc) : p.tables.exec = Jvm.exec := K.1.1
theorem z_K.b (K : z_K p m c meth cc nL s args X own D y A R F Lc) : c.code = cc := K.1.2.1
theorem z_K.w (K : z_K p m c meth cc nL s args X own D y A R F Lc) {w : Cond} (h : w ∈ zW) : w.before args s = true := K.1.2.2.2.2 w (List.mem_cons_of_mem _ h)
theorem z_K.o (K : z_K p m c meth cc nL s args X own D y A R F Lc) : s.vm.findClass own = some m.cls := K.1.2.2.2.1
theorem z_nm {x v : Int32} (h : x = v) (k : W p l e R s m args below meth c H locs cells slots Q (F0 m pc ls (.int x :: rest))) : W p l e R s m args below meth c H locs cells slots Q (F0 m pc ls (.int v :: rest)) := by
  subst h; exact k
theorem z_nml {x v : Int64} (h : x = v) (k : W p l e R s m args below meth c H locs cells slots Q (F0 m pc ls (.long x :: rest))) : W p l e R s m args below meth c H locs cells slots Q (F0 m pc ls (.long v :: rest)) := by
  subst h; exact k
theorem z_nm2 {x v : Int32} {u : Value} (h : x = v) (k : W p l e R s m args below meth c H locs cells slots Q (F0 m pc ls (u :: .int x :: rest))) : W p l e R s m args below meth c H locs cells slots Q (F0 m pc ls (u :: .int v :: rest)) := by
  subst h; exact k
theorem z_nm3 {x v : Int32} {u u2 : Value} (h : x = v) (k : W p l e R s m args below meth c H locs cells slots Q (F0 m pc ls (u :: u2 :: .int x :: rest))) : W p l e R s m args below meth c H locs cells slots Q (F0 m pc ls (u :: u2 :: .int v :: rest)) := by
  subst h; exact k
theorem z_nml2 {x v : Int64} {u : Value} (h : x = v) (k : W p l e R s m args below meth c H locs cells slots Q (F0 m pc ls (u :: .long x :: rest))) : W p l e R s m args below meth c H locs cells slots Q (F0 m pc ls (u :: .long v :: rest)) := by
  subst h; exact k
theorem z_get (K : z_K p m c meth cc nL s args X own D y A R F Lc) (hH : z_H D A s.heap ws H locs) (q0 : Nat) {ci : Nat} {fs : List Value} (he : ws[q0]? = some (a, .inr (ci, fs))) {C : String} {T : u_T} {N : Nat} (hin : ∀ w ∈ u_ws C T N, w ∈ zW) (hc : vwCl[ci]? = some (C, T, N)) (k : Nat) (hk : k < N) {index : Nat} (hlink : Cond.fieldLink own index (T k).1 (T k).2.1 (T k).2.2.1 ∈ zW) {v : Value} (hv : fs[k]? = some v) (hdg : decode cc pc = .ok (.getfield index, 3))
    (kk : W p l e R s m args below meth c H locs cells slots Q (F0 m (pc + 3) ls (v :: rest))) : W p l e R s m args below meth c H locs cells slots Q (F0 m pc ls (.ref a :: rest)) :=
  va_get K.1.1 K.1.2.1 K.1.2.2.2.2 (fun w h => List.mem_cons_of_mem _ (hin w h)) K.1.2.2.2.1 K.2.1 hH.1 q0 he hc k hk (K.w hlink) (fun _ h => h) hv hdg kk
theorem z_put (K : z_K p m c meth cc nL s args X own D y A R F Lc) (hH : z_H D A s.heap ws H locs) (q0 : Nat) {ci : Nat} {fs : List Value} (he : ws[q0]? = some (a, .inr (ci, fs))) {C : String} {T : u_T} {N : Nat} (hin : ∀ w ∈ u_ws C T N, w ∈ zW) (hc : vwCl[ci]? = some (C, T, N)) (ty0 : Nat → FieldType) (hty : ∀ k, k < N → parseFieldDescriptor (T k).2.2.1 = some (ty0 k)) (hnm : ∀ a, a < N → ∀ b, b < N → a ≠ b → (T a).2.1 ≠ (T b).2.1) (k : Nat) (hk : k < N) {index : Nat} (hlink : Cond.fieldLink own index (T k).1 (T k).2.1 (T k).2.2.1 ∈ zW) (hfin : (T k).2.2.2 = false) {v : Value} (hn : narrow (ty0 k) v = v) (hfit : fits (ty0 k) v = true) (hl : k < fs.length) (hdg : decode cc pc = .ok (.putfield index, 3)) (hw : ws.set q0 (a, .inr (ci, fs.set k v)) = ws')
    (kk : ∀ (H : Heap) (locs : List Loc), z_H D A s.heap ws' H locs → W p l e R s m args below meth c H locs cells slots Q (F0 m (pc + 3) ls rest)) : W p l e R s m args below meth c H locs cells slots Q (F0 m pc ls (v :: .ref a :: rest)) := by
  subst hw
  exact va_put K.1.1 K.1.2.1 K.1.2.2.2.2 (fun w h => List.mem_cons_of_mem _ (hin w h)) ty0 hty hnm K.1.2.2.2.1 K.2.1 hH.1 hH.2.1 hH.2.2 q0 he hc k hk (K.w hlink) (fun _ h => h) hfin (hty k hk) hn hfit hl hdg (fun H1 locs1 h1 h2 h3 => kk H1 locs1 ⟨h1, h2, h3⟩)
theorem z_iald (K : z_K p m c meth cc nL s args X own D y A R F Lc) (hH : z_H D A s.heap ws H locs) (q0 : Nat) {n : Nat} {f : Nat → Int32} {i : Int32} {k : Nat} (ha : ws[q0]? = some (a, .inl (y 0, n, .inl f))) (hin : z_in i n = true) (hk : i.toNatClampNeg = k) (hdg : decode cc pc = .ok (.iaload, 1))
    (kk : W p l e R s m args below meth c H locs cells slots Q (F0 m (pc + 1) ls (.int (f k) :: rest))) : W p l e R s m args below meth c H locs cells slots Q (F0 m pc ls (.int i :: .ref a :: rest)) := by
  subst hk
  exact va_iald K.1.1 K.1.2.1 K.2.1 hH.1 q0 0 ha rfl (z_in_e hin) hdg kk
theorem z_bald (K : z_K p m c meth cc nL s args X own D y A R F Lc) (hH : z_H D A s.heap ws H locs) (q0 : Nat) {n : Nat} {f : Nat → Int32} {i : Int32} {k : Nat} (ha : ws[q0]? = some (a, .inl (y 1, n, .inl f))) (hin : z_in i n = true) (hk : i.toNatClampNeg = k) (hdg : decode cc pc = .ok (.baload, 1))
    (kk : W p l e R s m args below meth c H locs cells slots Q (F0 m (pc + 1) ls (.int (f k) :: rest))) : W p l e R s m args below meth c H locs cells slots Q (F0 m pc ls (.int i :: .ref a :: rest)) := by
  subst hk
  exact va_bald K.1.1 K.1.2.1 K.2.1 hH.1 q0 1 ha rfl (z_in_e hin) hdg kk
theorem z_zald (K : z_K p m c meth cc nL s args X own D y A R F Lc) (hH : z_H D A s.heap ws H locs) (q0 : Nat) {n : Nat} {f : Nat → Int32} {i : Int32} {k : Nat} (ha : ws[q0]? = some (a, .inl (y 2, n, .inl f))) (hin : z_in i n = true) (hk : i.toNatClampNeg = k) (hdg : decode cc pc = .ok (.baload, 1))
    (kk : W p l e R s m args below meth c H locs cells slots Q (F0 m (pc + 1) ls (.int (f k) :: rest))) : W p l e R s m args below meth c H locs cells slots Q (F0 m pc ls (.int i :: .ref a :: rest)) := by
  subst hk
  exact va_zald K.1.1 K.1.2.1 K.2.1 hH.1 q0 2 ha rfl (z_in_e hin) hdg kk
theorem z_iast (K : z_K p m c meth cc nL s args X own D y A R F Lc) (hH : z_H D A s.heap ws H locs) (q0 : Nat) {n : Nat} {f : Nat → Int32} {i x : Int32} {k : Nat} (ha : ws[q0]? = some (a, .inl (y 0, n, .inl f))) (hin : z_in i n = true) (hk : i.toNatClampNeg = k) (hdg : decode cc pc = .ok (.iastore, 1)) (hw : ws.set q0 (a, .inl (y 0, n, .inl (upd f k x))) = ws')
    (kk : ∀ (H : Heap) (locs : List Loc), z_H D A s.heap ws' H locs → W p l e R s m args below meth c H locs cells slots Q (F0 m (pc + 1) ls rest)) : W p l e R s m args below meth c H locs cells slots Q (F0 m pc ls (.int x :: .int i :: .ref a :: rest)) := by
  subst hk
  subst hw
  exact va_iast K.1.1 K.1.2.1 K.2.1 hH.1 hH.2.1 hH.2.2 q0 0 ha rfl (z_in_e hin) hdg (fun H1 locs1 h1 h2 h3 => kk H1 locs1 ⟨h1, h2, h3⟩)
theorem z_bast (K : z_K p m c meth cc nL s args X own D y A R F Lc) (hH : z_H D A s.heap ws H locs) (q0 : Nat) {n : Nat} {f : Nat → Int32} {i x : Int32} {k : Nat} (ha : ws[q0]? = some (a, .inl (y 1, n, .inl f))) (hin : z_in i n = true) (hk : i.toNatClampNeg = k) (hdg : decode cc pc = .ok (.bastore, 1)) (hw : ws.set q0 (a, .inl (y 1, n, .inl (upd f k (vp_nar .byte x)))) = ws')
    (kk : ∀ (H : Heap) (locs : List Loc), z_H D A s.heap ws' H locs → W p l e R s m args below meth c H locs cells slots Q (F0 m (pc + 1) ls rest)) : W p l e R s m args below meth c H locs cells slots Q (F0 m pc ls (.int x :: .int i :: .ref a :: rest)) := by
  subst hk
  subst hw
  exact va_bast K.1.1 K.1.2.1 K.2.1 hH.1 hH.2.1 hH.2.2 q0 1 ha rfl (z_in_e hin) hdg (fun H1 locs1 h1 h2 h3 => kk H1 locs1 ⟨h1, h2, h3⟩)
theorem z_zast (K : z_K p m c meth cc nL s args X own D y A R F Lc) (hH : z_H D A s.heap ws H locs) (q0 : Nat) {n : Nat} {f : Nat → Int32} {i x : Int32} {k : Nat} (ha : ws[q0]? = some (a, .inl (y 2, n, .inl f))) (hin : z_in i n = true) (hk : i.toNatClampNeg = k) (hdg : decode cc pc = .ok (.bastore, 1)) (hw : ws.set q0 (a, .inl (y 2, n, .inl (upd f k (vp_nar .boolean x)))) = ws')
    (kk : ∀ (H : Heap) (locs : List Loc), z_H D A s.heap ws' H locs → W p l e R s m args below meth c H locs cells slots Q (F0 m (pc + 1) ls rest)) : W p l e R s m args below meth c H locs cells slots Q (F0 m pc ls (.int x :: .int i :: .ref a :: rest)) := by
  subst hk
  subst hw
  exact va_zast K.1.1 K.1.2.1 K.2.1 hH.1 hH.2.1 hH.2.2 q0 2 ha rfl (z_in_e hin) hdg (fun H1 locs1 h1 h2 h3 => kk H1 locs1 ⟨h1, h2, h3⟩)
theorem z_alen (K : z_K p m c meth cc nL s args X own D y A R F Lc) (hH : z_H D A s.heap ws H locs) (q0 t0 : Nat) {cA : ClassId} {x : vp_A} {ty : FieldType} (ha : ws[q0]? = some (a, .inl (cA, x))) (ht : (zT y)[t0]? = some (cA, ty)) {v : Int32} (hv : Int32.ofNat x.1 = v) (hdg : decode cc pc = .ok (.arraylength, 1))
    (kk : W p l e R s m args below meth c H locs cells slots Q (F0 m (pc + 1) ls (.int v :: rest))) : W p l e R s m args below meth c H locs cells slots Q (F0 m pc ls (.ref a :: rest)) :=
  va_alen K.1.1 K.1.2.1 K.2.1 hH.1 q0 t0 ha ht hv hdg kk

theorem z_ldc (K : z_K p m c meth cc nL s args X own D y A R F Lc) {index : Nat} {v : Int32} (h : Cond.constant own index v ∈ zW) (hdg : decode cc pc = .ok (.ldc index, 2))
    (kk : W p l e R s m args below meth c H locs cells slots Q (F0 m (pc + 2) ls (.int v :: rest))) : W p l e R s m args below meth c H locs cells slots Q (F0 m pc ls rest) := lv_ldc K.1.1 K.1.2.1 K.o (K.w h) hdg kk
theorem z_ldc2 (K : z_K p m c meth cc nL s args X own D y A R F Lc) {index : Nat} {v : Int64} (h : Cond.constantLong own index v ∈ zW) (hdg : decode cc pc = .ok (.ldc2_w index, 3))
    (kk : W p l e R s m args below meth c H locs cells slots Q (F0 m (pc + 3) ls (.long v :: rest))) : W p l e R s m args below meth c H locs cells slots Q (F0 m pc ls rest) := lv_ldc2 K.1.1 K.1.2.1 K.o (K.w h) hdg kk
theorem z_mmin (K : z_K p m c meth cc nL s args X own D y A R F Lc) (hl : ls.size = nL) {index : Nat} (h1 : Cond.methodLink own index Lib.Math.min.name ∈ zW) (h2 : Cond.static Lib.Math.min.name ∈ zW) (h3 : Cond.initialized "java/lang/Math" ∈ zW) (h4 : Cond.code Lib.Math.min.name Lib.Math.min.code 2 (some .int) ∈ zW) (hf : 1 ≤ F) (hc : (rest.map fun v => v.category).sum + 13 ≤ Lc) (hz : cells ≤ R.cells ∧ slots ≤ R.slots) {u v : Int32} (hdg : decode cc pc = .ok (.invokestatic index, 3))
    (kk : W p l e R s m args below meth c H locs cells slots Q (F0 m (pc + 3) ls (.int (if v < u then v else u) :: rest))) : W p l e R s m args below meth c H locs cells slots Q (F0 m pc ls (.int v :: .int u :: rest)) :=
  va_mmin K.1.1 K.1.2.1 (K.1.2.2.1.trans hl.symm) K.o (K.w h1) (K.w h2) (K.w h3) (K.w h4) (Nat.le_trans hf K.2.2.2.2.1) (Nat.le_trans hc K.2.2.2.2.2) hz.1 hz.2 hdg kk
theorem z_mmax (K : z_K p m c meth cc nL s args X own D y A R F Lc) (hl : ls.size = nL) {index : Nat} (h1 : Cond.methodLink own index Lib.Math.max.name ∈ zW) (h2 : Cond.static Lib.Math.max.name ∈ zW) (h3 : Cond.initialized "java/lang/Math" ∈ zW) (h4 : Cond.code Lib.Math.max.name Lib.Math.max.code 2 (some .int) ∈ zW) (hf : 1 ≤ F) (hc : (rest.map fun v => v.category).sum + 13 ≤ Lc) (hz : cells ≤ R.cells ∧ slots ≤ R.slots) {u v : Int32} (hdg : decode cc pc = .ok (.invokestatic index, 3))
    (kk : W p l e R s m args below meth c H locs cells slots Q (F0 m (pc + 3) ls (.int (if u < v then v else u) :: rest))) : W p l e R s m args below meth c H locs cells slots Q (F0 m pc ls (.int v :: .int u :: rest)) :=
  va_mmax K.1.1 K.1.2.1 (K.1.2.2.1.trans hl.symm) K.o (K.w h1) (K.w h2) (K.w h3) (K.w h4) (Nat.le_trans hf K.2.2.2.2.1) (Nat.le_trans hc K.2.2.2.2.2) hz.1 hz.2 hdg kk
theorem z_mabs (K : z_K p m c meth cc nL s args X own D y A R F Lc) (hl : ls.size = nL) {index : Nat} (h1 : Cond.methodLink own index Lib.Math.abs.name ∈ zW) (h2 : Cond.static Lib.Math.abs.name ∈ zW) (h3 : Cond.initialized "java/lang/Math" ∈ zW) (h4 : Cond.code Lib.Math.abs.name Lib.Math.abs.code 1 (some .int) ∈ zW) (hf : 1 ≤ F) (hc : (rest.map fun v => v.category).sum + 13 ≤ Lc) (hz : cells ≤ R.cells ∧ slots ≤ R.slots) {u : Int32} (hdg : decode cc pc = .ok (.invokestatic index, 3))
    (kk : W p l e R s m args below meth c H locs cells slots Q (F0 m (pc + 3) ls (.int (if 0 ≤ u then u else 0 - u) :: rest))) : W p l e R s m args below meth c H locs cells slots Q (F0 m pc ls (.int u :: rest)) :=
  va_mabs K.1.1 K.1.2.1 (K.1.2.2.1.trans hl.symm) K.o (K.w h1) (K.w h2) (K.w h3) (K.w h4) (Nat.le_trans hf K.2.2.2.2.1) (Nat.le_trans hc K.2.2.2.2.2) hz.1 hz.2 hdg kk
/-- a copy between int rows -/
theorem z_copy (K : z_K p m c meth cc nL s args X own D y A R F Lc) (hH : z_H D A s.heap ws H locs) (hl : ls.size = nL) {index : Nat} (k1 : Cond.methodLink own index arraycopyName ∈ zW) (k2 : Cond.native arraycopyName ∈ zW) (k3 : Cond.static arraycopyName ∈ zW) (k4 : Cond.initialized "java/lang/System" ∈ zW) (q0 q1 : Nat) {a0 n0 n1 : Nat} {f g : Nat → Int32} (ha0 : ws[q0]? = some (a0, .inl (y 0, n0, .inl f))) (ha1 : ws[q1]? = some (a, .inl (y 0, n1, .inl g)))
    {sp dp n : Int32} (h1 : ¬ sp < 0) (h2 : ¬ dp < 0) (h3 : ¬ n < 0) (h4 : sp.toNatClampNeg + n.toNatClampNeg ≤ n0) (h5 : dp.toNatClampNeg + n.toNatClampNeg ≤ n1) (hf : 1 ≤ F) (hc : (rest.map fun v => v.category).sum + (nativeFrameWords "java/lang/System" "arraycopy" 5 + 11) ≤ Lc) (hdg : decode cc pc = .ok (.invokestatic index, 3)) (hw : ws.set q1 (a, .inl (y 0, n1, .inl (va_cpy f g sp.toNatClampNeg dp.toNatClampNeg n.toNatClampNeg))) = ws')
    (kk : ∀ (H : Heap) (locs : List Loc), z_H D A s.heap ws' H locs → W p l e R s m args below meth c H locs cells slots Q (F0 m (pc + 3) ls rest)) : W p l e R s m args below meth c H locs cells slots Q (F0 m pc ls (.int n :: .int dp :: .ref a :: .int sp :: .ref a0 :: rest)) := by
  subst hw
  exact va_copyi K.1.1 K.1.2.1 (K.1.2.2.1.trans hl.symm) K.o (K.w k1) (K.w k2) (K.w k3) (K.w k4) K.2.1 hH.1 hH.2.1 hH.2.2 q0 q1 0 0 ha0 ha1 rfl rfl rfl h1 h2 h3 h4 h5 (fun _ _ => rfl) (Nat.le_trans hf K.2.2.2.2.1) (Nat.le_trans hc K.2.2.2.2.2) hdg (fun H1 locs1 h1 h2 h3 => kk H1 locs1 ⟨h1, h2, h3⟩)
/-- what a call leaves: the rest of the world beside what came back -/
theorem z_after {wc wr wc' : va_W} {H1 : Heap} {locs1 : List Loc} {t : State} (K : z_K p m c meth cc nL s args X own D y A R F Lc) (hH : z_H D A s.heap ws H locs) (isC isR : List Nat) (hC : isC.map (fun i => ws[i]?) = wc.map some) (hR : isR.map (fun i => ws[i]?) = wr.map some) (hn : va_nd isR = true) (hdis : ∀ i ∈ isR, i ∉ isC) (ht : t.heap = H1) (hB : z_post D y (va_A wc H.size) wc' t) (hk1 : ∀ q : Nat, q < H.size → ¬ va_A wc H.size q → H1[q]? = H[q]?) (hS : va_S A s.heap H1 locs1) : z_H D A s.heap (wr ++ wc') H1 locs1 := by
  obtain ⟨hP1, -, hD1⟩ := hB
  rw [ht] at hP1
  have hFc := va_free (wc := wc) hH.2.1 hH.2.2 K.2.2.1 isC hC
  obtain ⟨hP, hD⟩ := va_join hH.1 hH.2.1 isC isR hC hR hn hdis hk1 hFc hP1 hD1
  exact ⟨hP, hD, hS⟩
theorem z_before {wc : va_W} {av : List Value} (K : z_K p m c meth cc nL s args X own D y A R F Lc) (hH : z_H D A s.heap ws H locs) (isC : List Nat) (hn : va_nd isC = true) (hC : isC.map (fun i => ws[i]?) = wc.map some) : ∀ U : State, U.heap = H → s.WarmedH U.vm → va_Pc av (z_pre D y H.size wc) av.toArray U := by
  have h := hH.sub isC hn hC
  intro U hU hW
  exact ⟨rfl, by rw [hU], by rw [hU]; exact h.1, va_K.moved hW.alike K.2.1, h.2.1.weaken (fun _ _ _ _ => trivial)⟩
variable {yn : MethodName} {bytes : ByteArray} {maxL f' lc' n index ci N : Nat} {rt : Option FieldType} {b : Nat} {As st0 : List Value} {wc wr wc' : va_W} {C : String} {T : u_T} {fs : List Value}
/-- the words of a call of an instance method -/
theorem z_cwV (K : z_K p m c meth cc nL s args X own D y A R F Lc) (n : Nat) (h1 : Cond.methodLink own index yn ∈ zW) (h2 : Cond.instanceMethod yn ∈ zW) (h3 : Cond.selects C yn yn ∈ zW) (h4 : Cond.initialized C ∈ zW) (h5 : Cond.code yn bytes maxL rt ∈ zW) (hd : yn.cls = C ∧ yn.cls ≠ "java/lang/invoke/MethodHandle" ∧ yn.cls ≠ "java/lang/invoke/VarHandle" ∧ (parseMethodDescriptor yn.desc).map (fun d => d.parameters.length) = some n) (hR : f' + 1 ≤ F ∧ 8 + (maxL + 11) + lc' ≤ Lc) : CallW R s args own C index yn bytes maxL rt (.code yn bytes maxL rt :: zW) (zR f' lc') 0 0 n :=
  cwV n K.1.2.2.2.2 (z_gV h1 h2 h3 h4 h5) rfl rfl rfl hd ⟨Nat.le_trans hR.1 K.2.2.2.2.1, Nat.le_trans hR.2 K.2.2.2.2.2⟩
theorem z_cwS (K : z_K p m c meth cc nL s args X own D y A R F Lc) (n : Nat) (h1 : Cond.methodLink own index yn ∈ zW) (h2 : Cond.static yn ∈ zW) (h4 : Cond.initialized yn.cls ∈ zW) (h5 : Cond.code yn bytes maxL rt ∈ zW) (hd : yn.cls ≠ "java/lang/invoke/MethodHandle" ∧ yn.cls ≠ "java/lang/invoke/VarHandle" ∧ (parseMethodDescriptor yn.desc).map (fun d => d.parameters.length) = some n) (hR : f' + 1 ≤ F ∧ 8 + (maxL + 11) + lc' ≤ Lc) : CallB R s args own index yn bytes maxL rt (.code yn bytes maxL rt :: zW) (zR f' lc') 0 0 n ∧ (Cond.static yn).before args s = true :=
  va_cwS n K.1.2.2.2.2 (z_gS h1 h2 h4 h5) rfl rfl rfl hd ⟨Nat.le_trans hR.1 K.2.2.2.2.1, Nat.le_trans hR.2 K.2.2.2.2.2⟩
theorem z_Vi {r : Int32} (K : z_K p m c meth cc nL s args X own D y A R F Lc) (hH : z_H D A s.heap ws H locs) (hl : ls.size = nL) (hM : z_MI l yn bytes maxL rt f' lc' D y (.ref b :: As) wc r wc') (cw : CallW R s args own C index yn bytes maxL rt (.code yn bytes maxL rt :: zW) (zR f' lc') 0 0 n) (isC isR : List Nat) (hC : isC.map (fun i => ws[i]?) = wc.map some) (hR : isR.map (fun i => ws[i]?) = wr.map some) (hnC : va_nd isC = true) (hn : va_nd isR = true) (hdis : ∀ i ∈ isR, i ∉ isC) (hq : wc[0]? = some (b, .inr (ci, fs))) (hci : vwCl[ci]? = some (C, T, N)) (hlen : As.length = n) (hst : st0 = As.reverse ++ .ref b :: rest) (hW : (rest.map fun v => v.category).sum ≤ 8) (hz : cells ≤ R.cells ∧ slots ≤ R.slots) (hdg : decode cc pc = .ok (.invokevirtual index, 3)) (hw : wr ++ wc' = ws')
    (kk : ∀ (H : Heap) (locs : List Loc), z_H D A s.heap ws' H locs → W p l e R s m args below meth c H locs cells slots Q (F0 m (pc + 3) ls (.int r :: rest))) : W p l e R s m args below meth c H locs cells slots Q (F0 m pc ls st0) := by
  subst hw
  have hFc := va_free (wc := wc) hH.2.1 hH.2.2 K.2.2.1 isC hC
  refine va_calli (va_runV (As := As) (rest := rest) K.1 (hM H.size) cw ⟨z_pre_blind, va_recv K.2.1 (hH.sub isC hnC hC).1 hci hq, z_before K hH isC hnC hC⟩ rfl hlen hl hst (lv_room hW) hdg hz) hH.2.2 (fun q _ h => hFc q h) hFc (fun r2 u t H1 locs1 ht hvm hw hB hz1 hk1 hS => ?_)
  subst hw
  exact kk H1 locs1 (z_after K hH isC isR hC hR hn hdis ht hB hk1 hS)
theorem z_Vl {r : Int64} (K : z_K p m c meth cc nL s args X own D y A R F Lc) (hH : z_H D A s.heap ws H locs) (hl : ls.size = nL) (hM : z_ML l yn bytes maxL rt f' lc' D y (.ref b :: As) wc r wc') (cw : CallW R s args own C index yn bytes maxL rt (.code yn bytes maxL rt :: zW) (zR f' lc') 0 0 n) (isC isR : List Nat) (hC : isC.map (fun i => ws[i]?) = wc.map some) (hR : isR.map (fun i => ws[i]?) = wr.map some) (hnC : va_nd isC = true) (hn : va_nd isR = true) (hdis : ∀ i ∈ isR, i ∉ isC) (hq : wc[0]? = some (b, .inr (ci, fs))) (hci : vwCl[ci]? = some (C, T, N)) (hlen : As.length = n) (hst : st0 = As.reverse ++ .ref b :: rest) (hW : (rest.map fun v => v.category).sum ≤ 8) (hz : cells ≤ R.cells ∧ slots ≤ R.slots) (hdg : decode cc pc = .ok (.invokevirtual index, 3)) (hw : wr ++ wc' = ws')
    (kk : ∀ (H : Heap) (locs : List Loc), z_H D A s.heap ws' H locs → W p l e R s m args below meth c H locs cells slots Q (F0 m (pc + 3) ls (.long r :: rest))) : W p l e R s m args below meth c H locs cells slots Q (F0 m pc ls st0) := by
  subst hw
  have hFc := va_free (wc := wc) hH.2.1 hH.2.2 K.2.2.1 isC hC
  refine va_calll (va_runV (As := As) (rest := rest) K.1 (hM H.size) cw ⟨z_pre_blind, va_recv K.2.1 (hH.sub isC hnC hC).1 hci hq, z_before K hH isC hnC hC⟩ rfl hlen hl hst (lv_room hW) hdg hz) hH.2.2 (fun q _ h => hFc q h) hFc (fun r2 u t H1 locs1 ht hvm hw hB hz1 hk1 hS => ?_)
  subst hw
  exact kk H1 locs1 (z_after K hH isC isR hC hR hn hdis ht hB hk1 hS)
theorem z_Vv (K : z_K p m c meth cc nL s args X own D y A R F Lc) (hH : z_H D A s.heap ws H locs) (hl : ls.size = nL) (hM : z_MV l yn bytes maxL rt f' lc' D y (.ref b :: As) wc wc') (cw : CallW R s args own C index yn bytes maxL rt (.code yn bytes maxL rt :: zW) (zR f' lc') 0 0 n) (isC isR : List Nat) (hC : isC.map (fun i => ws[i]?) = wc.map some) (hR : isR.map (fun i => ws[i]?) = wr.map some) (hnC : va_nd isC = true) (hn : va_nd isR = true) (hdis : ∀ i ∈ isR, i ∉ isC) (hq : wc[0]? = some (b, .inr (ci, fs))) (hci : vwCl[ci]? = some (C, T, N)) (hlen : As.length = n) (hst : st0 = As.reverse ++ .ref b :: rest) (hW : (rest.map fun v => v.category).sum ≤ 8) (hz : cells ≤ R.cells ∧ slots ≤ R.slots) (hdg : decode cc pc = .ok (.invokevirtual index, 3)) (hw : wr ++ wc' = ws')
    (kk : ∀ (H : Heap) (locs : List Loc), z_H D A s.heap ws' H locs → W p l e R s m args below meth c H locs cells slots Q (F0 m (pc + 3) ls rest)) : W p l e R s m args below meth c H locs cells slots Q (F0 m pc ls st0) := by
  subst hw
  have hFc := va_free (wc := wc) hH.2.1 hH.2.2 K.2.2.1 isC hC
  refine va_callv (va_runV (As := As) (rest := rest) K.1 (hM H.size) cw ⟨z_pre_blind, va_recv K.2.1 (hH.sub isC hnC hC).1 hci hq, z_before K hH isC hnC hC⟩ rfl hlen hl hst (lv_room hW) hdg hz) hH.2.2 (fun q _ h => hFc q h) hFc (fun u t H1 locs1 ht hvm hw hB hz1 hk1 hS => ?_)
  exact kk H1 locs1 (z_after K hH isC isR hC hR hn hdis ht hB hk1 hS)
/-- a static method that needs nothing of the heap -/
theorem z_keep (K : z_K p m c meth cc nL s args X own D y A R F Lc) (hH : z_H D A s.heap ws H locs) {H1 : Heap} {locs1 : List Loc} (hk1 : ∀ q : Nat, q < H.size → ¬ va_A [] H.size q → H1[q]? = H[q]?) (hS : va_S A s.heap H1 locs1) : z_H D A s.heap ws H1 locs1 := by
  refine ⟨fun k q hq => ?_, hH.2.1, hS⟩
  have h := hH.1 k q hq
  refine h.kept (hk1 q.1 h.lt ?_)
  intro hA
  rcases hA with ⟨k, e, h9⟩ | h9
  · simp at h9
  · exact absurd h.lt (Nat.not_lt.mpr h9)
theorem z_Si {r : Int32} (K : z_K p m c meth cc nL s args X own D y A R F Lc) (hH : z_H D A s.heap ws H locs) (hl : ls.size = nL) (hM : z_MI l yn bytes maxL rt f' lc' D y As [] r []) (cw : CallB R s args own index yn bytes maxL rt (.code yn bytes maxL rt :: zW) (zR f' lc') 0 0 n ∧ (Cond.static yn).before args s = true) (hlen : As.length = n) (hst : st0 = As.reverse ++ rest) (hW : (rest.map fun v => v.category).sum ≤ 8) (hz : cells ≤ R.cells ∧ slots ≤ R.slots) (hdg : decode cc pc = .ok (.invokestatic index, 3))
    (kk : ∀ (H : Heap) (locs : List Loc), z_H D A s.heap ws H locs → W p l e R s m args below meth c H locs cells slots Q (F0 m (pc + 3) ls (.int r :: rest))) : W p l e R s m args below meth c H locs cells slots Q (F0 m pc ls st0) := by
  have hFc := va_free (wc := []) hH.2.1 hH.2.2 K.2.2.1 [] rfl
  refine va_calli (va_runS (As := As) (rest := rest) K.1 (hM H.size) cw ⟨z_pre_blind, z_before K hH [] rfl rfl⟩ rfl hlen hl hst (lv_room hW) hdg hz) hH.2.2 (fun q _ h => hFc q h) hFc (fun r2 u t H1 locs1 ht hvm hw hB hz1 hk1 hS => ?_)
  subst hw
  exact kk H1 locs1 (z_keep K hH hk1 hS)
theorem z_Sl {r : Int64} (K : z_K p m c meth cc nL s args X own D y A R F Lc) (hH : z_H D A s.heap ws H locs) (hl : ls.size = nL) (hM : z_ML l yn bytes maxL rt f' lc' D y As [] r []) (cw : CallB R s args own index yn bytes maxL rt (.code yn bytes maxL rt :: zW) (zR f' lc') 0 0 n ∧ (Cond.static yn).before args s = true) (hlen : As.length = n) (hst : st0 = As.reverse ++ rest) (hW : (rest.map fun v => v.category).sum ≤ 8) (hz : cells ≤ R.cells ∧ slots ≤ R.slots) (hdg : decode cc pc = .ok (.invokestatic index, 3))
    (kk : ∀ (H : Heap) (locs : List Loc), z_H D A s.heap ws H locs → W p l e R s m args below meth c H locs cells slots Q (F0 m (pc + 3) ls (.long r :: rest))) : W p l e R s m args below meth c H locs cells slots Q (F0 m pc ls st0) := by
  have hFc := va_free (wc := []) hH.2.1 hH.2.2 K.2.2.1 [] rfl
  refine va_calll (va_runS (As := As) (rest := rest) K.1 (hM H.size) cw ⟨z_pre_blind, z_before K hH [] rfl rfl⟩ rfl hlen hl hst (lv_room hW) hdg hz) hH.2.2 (fun q _ h => hFc q h) hFc (fun r2 u t H1 locs1 ht hvm hw hB hz1 hk1 hS => ?_)
  subst hw
  exact kk H1 locs1 (z_keep K hH hk1 hS)
end ZR
/-- how a method's walk begins: any machine, any room that holds, an end that is told -/
theorem z_enter {l : Launch} {yn : MethodName} {cc : ByteArray} {nL f lc : Nat} {rt : Option FieldType} {D : va_G} {y : Nat → ClassId} {av : List Value} {ws : va_W} {Qc : Nat → Array Value → State → Outcome → State → Prop} (hy : plainName yn.cls = true) (hlen : (lg_sl av).length ≤ nL)
    (body : ∀ (p : Program) (e : Env) (s : State) (m : MethodId) (args : Array Value) (below : List Frame) (meth : Method) (c : Code) (A : Nat → Prop) (ls : Array Slot), A = va_A ws s.heap.size → meth.sig.returnType = rt → z_K p m c meth cc nL s args (.code yn cc nL rt) yn.cls D y A (zR f lc) f lc → z_H D A s.heap ws s.heap [] → lv_has ls nL (lv_args 0 av) → W p l e (zR f lc) s m args below meth c s.heap [] 0 0 (MQ below (Qc s.heap.size) args s 0 0 A) (F0 m 0 ls [])) :
    ∀ sz, Met l yn (.code yn cc nL rt :: zW) (zR f lc) (va_Pc av (z_pre D y sz ws)) (Qc sz) 0 0 (va_A ws sz) := by
  intro sz
  refine Met.ofW (cc := cc) (maxL := nL) (ret := rt) hy rfl ?_
  intro p e s m args below meth c s₁ B hml hv
  obtain ⟨rfl, hsz, hP, hK, hD0⟩ := hv
  have hts := atoms_spec (ws := .code yn cc nL rt :: zW) B.pre
  have hown : s.vm.findClass yn.cls = some m.cls := findClass_of_methodNamed B.named
  subst hsz
  have hD := hD0.self (sz := s.heap.size)
  have hl := lv_entry av (n := nL) hlen
  rw [lg_entry_eq]
  exact body p e s m _ below meth c _ _ rfl B.returns ⟨⟨B.exec, B.bytes, hml, hown, hts⟩, hK, fun q h => Or.inr h, B.notSynchronized, Nat.le_refl _, Nat.le_refl _⟩ ⟨hP, hD, va_S.rf⟩ hl
theorem z_enI {l : Launch} {yn : MethodName} {cc : ByteArray} {nL f lc : Nat} {rt : Option FieldType} {D : va_G} {y : Nat → ClassId} {av : List Value} {ws ws' : va_W} {r : Int32} (hy : plainName yn.cls = true) (hlen : (lg_sl av).length ≤ nL)
    (body : ∀ (p : Program) (e : Env) (s : State) (m : MethodId) (args : Array Value) (below : List Frame) (meth : Method) (c : Code) (A : Nat → Prop) (ls : Array Slot), meth.sig.returnType = rt → z_K p m c meth cc nL s args (.code yn cc nL rt) yn.cls D y A (zR f lc) f lc → z_H D A s.heap ws s.heap [] → lv_has ls nL (lv_args 0 av) → W p l e (zR f lc) s m args below meth c s.heap [] 0 0 (MQ below (z_Qi D y A r ws') args s 0 0 A) (F0 m 0 ls [])) :
    z_MI l yn cc nL rt f lc D y av ws r ws' :=
  z_enter (Qc := fun sz => z_Qi D y (va_A ws sz) r ws') hy hlen (fun p e s m args below meth c A ls hA hr K hH hl => by subst hA; exact body p e s m args below meth c _ ls hr K hH hl)
theorem z_enL {l : Launch} {yn : MethodName} {cc : ByteArray} {nL f lc : Nat} {rt : Option FieldType} {D : va_G} {y : Nat → ClassId} {av : List Value} {ws ws' : va_W} {r : Int64} (hy : plainName yn.cls = true) (hlen : (lg_sl av).length ≤ nL)
    (body : ∀ (p : Program) (e : Env) (s : State) (m : MethodId) (args : Array Value) (below : List Frame) (meth : Method) (c : Code) (A : Nat → Prop) (ls : Array Slot), meth.sig.returnType = rt → z_K p m c meth cc nL s args (.code yn cc nL rt) yn.cls D y A (zR f lc) f lc → z_H D A s.heap ws s.heap [] → lv_has ls nL (lv_args 0 av) → W p l e (zR f lc) s m args below meth c s.heap [] 0 0 (MQ below (z_Ql D y A r ws') args s 0 0 A) (F0 m 0 ls [])) :
    z_ML l yn cc nL rt f lc D y av ws r ws' :=
  z_enter (Qc := fun sz => z_Ql D y (va_A ws sz) r ws') hy hlen (fun p e s m args below meth c A ls hA hr K hH hl => by subst hA; exact body p e s m args below meth c _ ls hr K hH hl)
theorem z_enV {l : Launch} {yn : MethodName} {cc : ByteArray} {nL f lc : Nat} {rt : Option FieldType} {D : va_G} {y : Nat → ClassId} {av : List Value} {ws ws' : va_W} (hy : plainName yn.cls = true) (hlen : (lg_sl av).length ≤ nL)
    (body : ∀ (p : Program) (e : Env) (s : State) (m : MethodId) (args : Array Value) (below : List Frame) (meth : Method) (c : Code) (A : Nat → Prop) (ls : Array Slot), meth.sig.returnType = rt → z_K p m c meth cc nL s args (.code yn cc nL rt) yn.cls D y A (zR f lc) f lc → z_H D A s.heap ws s.heap [] → lv_has ls nL (lv_args 0 av) → W p l e (zR f lc) s m args below meth c s.heap [] 0 0 (MQ below (z_Qv D y A ws') args s 0 0 A) (F0 m 0 ls [])) :
    z_MV l yn cc nL rt f lc D y av ws ws' :=
  z_enter (Qc := fun sz => z_Qv D y (va_A ws sz) ws') hy hlen (fun p e s m args below meth c A ls hA hr K hH hl => by subst hA; exact body p e s m args below meth c _ ls hr K hH hl)
theorem z_eli {α β γ : Type} {f : α → Option γ} {g : β → Option γ} {v : α} {r : γ} (h : Sum.elim f g (.inl v) = some r) : f v = some r := h
theorem z_elr {α β γ : Type} {f : α → Option γ} {g : β → Option γ} {v : β} {r : γ} (h : Sum.elim f g (.inr v) = some r) : g v = some r := h
section ZE
variable {p : Program} {l : Launch} {e : Env} {R : Room} {s : State} {m : MethodId} {args : Array Value} {below : List Frame} {meth : Method} {c : Code} {H : Heap} {locs : List Loc} {cells slots : Nat}
variable {cc : ByteArray} {nL : Nat} {X : Cond} {own : String} {D : va_G} {y : Nat → ClassId} {A : Nat → Prop} {F Lc : Nat} {ws ws' : va_W} {pc : Nat} {ls : Array Slot}
theorem z_reti {v r : Int32} {ty : FieldType} (K : z_K p m c meth cc nL s args X own D y A R F Lc) (hr : meth.sig.returnType = some ty) (hH : z_H D A s.heap ws H locs) (is : List Nat) (hn : va_nd is = true) (hs : is.map (fun i => ws[i]?) = ws'.map some) (hv : v = r) (hnar : narrow ty (.int v) = .int v) (hdg : decode cc pc = .ok (.ireturn, 1)) : W p l e R s m args below meth c H locs cells slots (MQ below (z_Qi D y A r ws') args s cells slots A) (F0 m pc ls [.int v]) := by
  have h9 := hH.sub is hn hs
  subst hv
  exact W.zret (v := v) K.1.1 K.1.2.1 hr hnar (fun t ht hW => ⟨⟨v, (), rfl, rfl, by rw [ht]; exact h9.1, va_K.moved hW.alike K.2.1, h9.2.1⟩, hH.2.2.F ht⟩) hH.2.2.2.2 hdg K.2.2.2.1
theorem z_retl {v r : Int64} (K : z_K p m c meth cc nL s args X own D y A R F Lc) (hr : meth.sig.returnType = some .long) (hH : z_H D A s.heap ws H locs) (is : List Nat) (hn : va_nd is = true) (hs : is.map (fun i => ws[i]?) = ws'.map some) (hv : v = r) (hdg : decode cc pc = .ok (.lreturn, 1)) : W p l e R s m args below meth c H locs cells slots (MQ below (z_Ql D y A r ws') args s cells slots A) (F0 m pc ls [.long v]) := by
  have h9 := hH.sub is hn hs
  subst hv
  exact W.lret (v := v) K.1.1 K.1.2.1 hr (fun t ht hW => ⟨⟨v, (), rfl, rfl, by rw [ht]; exact h9.1, va_K.moved hW.alike K.2.1, h9.2.1⟩, hH.2.2.F ht⟩) hH.2.2.2.2 hdg K.2.2.2.1
theorem z_retv (K : z_K p m c meth cc nL s args X own D y A R F Lc) (hr : meth.sig.returnType = none) (hH : z_H D A s.heap ws H locs) (is : List Nat) (hn : va_nd is = true) (hs : is.map (fun i => ws[i]?) = ws'.map some) (hdg : decode cc pc = .ok (.return_, 1)) : W p l e R s m args below meth c H locs cells slots (MQ below (z_Qv D y A ws') args s cells slots A) (F0 m pc ls []) := by
  have h9 := hH.sub is hn hs
  exact W.vret K.1.1 K.1.2.1 hr (fun t ht hW => ⟨⟨(), rfl, trivial, by rw [ht]; exact h9.1, va_K.moved hW.alike K.2.1, h9.2.1⟩, hH.2.2.F ht⟩) hH.2.2.2.2 hdg K.2.2.2.1
end ZE
