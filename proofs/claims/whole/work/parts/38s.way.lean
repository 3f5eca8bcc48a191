/-! way: the class's side. -/
def T8 (D : Nat → Nat) (v : Nat) : Nat := 8 * (D v / 16) + D v % 16
theorem mo_partCost {fa : Nat → Int32} {F : Nat → Nat → Nat} {np v u : Nat} (hnp : np ≤ 7) (hE : FM np F fa) (hv : v < np) (hu : u < np) : p_X5_partCost fa (nI v) (nI u) = some (nI (8 * F v u + 1)) := by
  have x1 : fa (v * 7 + u) = nI (F v u) := by rw [Nat.mul_comm]; exact hE v u hv hu
  unfold p_X5_partCost
  simp (disch := omega) only [z_lt_n, li_7, li_8, pk_mul, nI_add, z_in_n, z_gd_tt, nI_clamp, x1, nI_1]
  rw [Nat.mul_comm (F v u) 8]
/-- the row of distances, right where no more than lim parts are needed -/
def okE (np : Nat) (D : Nat → Nat) (lim : Nat → Nat) (e : Nat → Int32) : Prop := ∀ v, v < np → ∃ x : Nat, e v = nI x ∧ T8 D v ≤ x ∧ x ≤ 1000000 ∧ (D v % 16 ≤ lim v → x = T8 D v)
theorem mo_shorten {fa e : Nat → Int32} {F : Nat → Nat → Nat} {D lim : Nat → Nat} {np t v k : Nat} (hnp : np ≤ 7) (ht : t < np) (hF : ∀ a b, a < np → b < np → F a b ≤ 600) (hE : FM np F fa) (hW : WD np t F D) (hv : v < np) (hlim : ∀ u, u < np → k ≤ lim u) (hO : okE np D lim e) :
    Ha (p_X5_shortenFrom (nI np) fa e (nI v)) (okE np D (fun u => if u = v then k + 1 else lim u)) := by
  have h6 : ∀ u, u < np → D u % 16 ≤ 6 := fun u hu => by have := hW.2.2 u hu; omega
  unfold p_X5_shortenFrom
  refine Ha_bd _ (Ha_lp np (fun i s => s.1 = nI i ∧ (∀ u, u < np → u ≠ v → s.2 u = e u) ∧ ∃ x : Nat, s.2 v = nI x ∧ T8 D v ≤ x ∧ x ≤ 1000000 ∧ (D v % 16 ≤ lim v → x = T8 D v) ∧ ∀ u y, u < i → u ≠ v → e u = nI y → y ≤ 1000000 → x ≤ 8 * F v u + 1 + y) (okE np D (fun u => if u = v then k + 1 else lim u)) ?_ ?_ _ ?_) (fun e he => Ha_s he)
  · rintro i ⟨s1, s2⟩ hi ⟨g1, ho, x, x1, x2, x3, x4, x5⟩
    simp only at g1 ho x1
    subst g1
    by_cases q : i = v
    · have kq : nI i = nI v := by rw [q]
      simp (disch := omega) only [nI_leI, if_neg, if_pos kq, z_bd_some, z_lt_n, nI_1]
      refine Lp1_l ⟨rfl, ho, x, x1, x2, x3, x4, fun u y c1 c2 c3 c4 => ?_⟩
      exact x5 u y (by omega) c2 c3 c4
    · have kq : ¬ nI i = nI v := nI_ne (by omega) (by omega) q
      obtain ⟨y, y1, y2, y3, y4⟩ := hO i hi
      have yi : s2 i = nI y := (ho i hi q).trans y1
      have hf := hF v i hv hi
      simp (disch := omega) only [nI_leI, if_neg, kq, if_false, mo_partCost hnp hE hv hi, z_bd_some, z_lt_n, z_in_n, z_gd_tt, nI_clamp, yi, x1, nI_add, nI_1]
      have hT : T8 D v ≤ 8 * F v i + 1 + y := by
        by_cases qt : v = t
        · unfold T8; rw [qt, hW.1]; exact Nat.zero_le _
        · have h1 := (hW.2.1 v hv qt).1 i hi q
          have h2 := h6 v hv
          have h3 := h6 i hi
          unfold T8 at *
          omega
      refine Lp1_l ⟨rfl, fun u hu huv => (ud_n huv).trans (ho u hu huv), ?_⟩
      by_cases qm : 8 * F v i + 1 + y < x
      · refine ⟨8 * F v i + 1 + y, ?_, hT, by omega, fun h => by have := x4 h; omega, fun u z c1 c2 c3 c4 => ?_⟩
        · show upd s2 v _ v = _
          rw [ud_s, if_pos ((nI_ltI (by omega) (by omega)).mpr qm)]
        · rcases (show u < i ∨ u = i by omega) with h | rfl
          · have := x5 u z h c2 c3 c4; omega
          · have : z = y := (nI_eq (by omega) (by omega)).mp (c3.symm.trans y1)
            omega
      · refine ⟨x, ?_, x2, x3, x4, fun u z c1 c2 c3 c4 => ?_⟩
        · show upd s2 v _ v = _
          rw [ud_s, if_neg (fun h => qm ((nI_ltI (by omega) (by omega)).mp h))]
        · rcases (show u < i ∨ u = i by omega) with h | rfl
          · exact x5 u z h c2 c3 c4
          · have : z = y := (nI_eq (by omega) (by omega)).mp (c3.symm.trans y1)
            omega
  · rintro ⟨s1, s2⟩ ⟨g1, ho, x, x1, x2, x3, x4, x5⟩
    simp only at g1 ho x1
    subst g1
    simp (disch := omega) only [nI_leI, if_pos]
    refine Lp1_r (fun u hu => ?_)
    by_cases q : u = v
    · subst q
      refine ⟨x, x1, x2, x3, fun h => ?_⟩
      have h : D u % 16 ≤ k + 1 := by simpa using h
      by_cases qt : u = t
      · refine x4 ?_
        rw [qt, hW.1]; exact Nat.zero_le _
      · obtain ⟨-, z, hz, hzu, ez⟩ := hW.2.1 u hu qt
        obtain ⟨y, y1, y2, y3, y4⟩ := hO z hz
        have h2 := h6 u hu
        have h3 := h6 z hz
        have hlz := hlim z hz
        have hy := y4 (by omega)
        have hx := x5 z y hz hzu y1 y3
        unfold T8 at *
        omega
    · obtain ⟨y, y1, y2, y3, y4⟩ := hO u hu
      exact ⟨y, (ho u hu q).trans y1, y2, y3, fun h => y4 (by simpa [q] using h)⟩
  · obtain ⟨x, x1, x2, x3, x4⟩ := hO v hv
    exact ⟨rfl, fun u _ _ => rfl, x, x1, x2, x3, x4, fun u y c1 => absurd c1 (by omega)⟩
theorem mo_firstStep {fa e : Nat → Int32} {F : Nat → Nat → Nat} {D nx : Nat → Nat} {np t v : Nat} (hnp : np ≤ 7) (hF : ∀ a b, a < np → b < np → F a b ≤ 600) (hE : FM np F fa) (hW : WD np t F D) (hN : NX np t F D nx) (hv : v < np) (hvt : v ≠ t) (hO : ∀ v, v < np → e v = nI (T8 D v) ∧ T8 D v ≤ 1000000) : p_X5_firstStepFrom (nI np) fa e (nI v) = some (nI (nx v)) := by
  have h6 : ∀ u, u < np → D u % 16 ≤ 6 := fun u hu => by have := hW.2.2 u hu; omega
  obtain ⟨n1, n2, n3, n4⟩ := hN v hv hvt
  unfold p_X5_firstStepFrom
  rw [z_bd_s (v := .inr (nI (nx v))) ?_]
  · rfl
  refine z_forS (fun i => nI i) (nx v) _ rfl ?_ ?_
  · intro i hi
    by_cases q : i = v
    · have kq : nI i = nI v := by rw [q]
      simp (disch := omega) only [nI_leI, if_neg, if_pos kq, z_lt_n, nI_1]
    · have kq : ¬ nI i = nI v := nI_ne (by omega) (by omega) q
      have hi' : i < np := by omega
      have hf := hF v i hv hi'
      have hne := n4 i hi q
      have b1 := hO i hi'
      have b2' := hO v hv
      have h2 := h6 v hv
      have h3 := h6 i hi'
      have kn : ¬ 8 * F v i + 1 + T8 D i = T8 D v := by
        intro z
        unfold T8 at z
        exact hne (by omega)
      simp (disch := omega) only [nI_leI, if_neg, kq, if_false, mo_partCost hnp hE hv hi', z_bd_some, z_lt_n, z_in_n, z_gd_tt, nI_clamp, b1.1, b2'.1, nI_add, nI_eq, kn, nI_1]
  · have kq : ¬ nI (nx v) = nI v := nI_ne (by omega) (by omega) n2
    have hf := hF v (nx v) hv n1
    have b1 := hO (nx v) n1
    have b2' := hO v hv
    have h2 := h6 v hv
    have h3 := h6 (nx v) n1
    have kn : 8 * F v (nx v) + 1 + T8 D (nx v) = T8 D v := by
      unfold T8
      omega
    simp (disch := omega) only [nI_leI, if_neg, kq, if_false, mo_partCost hnp hE hv n1, z_bd_some, z_in_n, z_gd_tt, nI_clamp, b1.1, b2'.1, nI_add, nI_eq, kn, if_true]
theorem mo_findWay {fa e0 fo0 : Nat → Int32} {F : Nat → Nat → Nat} {D nx : Nat → Nat} {np t a : Nat} (hnp : np ≤ 7) (ht : t < np) (ha : a < np) (hF : ∀ a b, a < np → b < np → F a b ≤ 600) (hE : FM np F fa) (hW : WD np t F D) (hN : NX np t F D nx) :
    Ha (p_X5_findWay 0 (nI np) fa e0 fo0 (nI a) (nI t)) (fun r => ∃ e fo, r = (nI (D a / 16), nI (D a % 16), e, fo) ∧ ∀ j, j < D a % 16 → fo j = nI (pa nx a (j + 1))) := by
  have h6 : ∀ u, u < np → D u % 16 ≤ 6 := fun u hu => by have := hW.2.2 u hu; omega
  have hDb : ∀ u, u < np → D u ≤ 9601 := by
    intro u hu
    by_cases q : u = t
    · rw [q, hW.1]; omega
    · have h1 := (hW.2.1 u hu q).1 t ht (fun z => q z.symm)
      have h2 := hF u t hu ht
      have := hW.1
      omega
  have hTb : ∀ u, u < np → T8 D u ≤ 1000000 := by
    intro u hu
    have := hDb u hu
    unfold T8; omega
  unfold p_X5_findWay
  refine Ha_bd (okE np D (fun _ => 0)) (Ha_lp np (fun i s => s.1 = nI i ∧ ∀ v, v < i → s.2 v = if v = t then 0 else 1000000) _ ?_ ?_ _ ⟨rfl, fun v h => absurd h (by omega)⟩) ?_
  · rintro i ⟨s1, s2⟩ hi ⟨g1, hs⟩
    simp only at g1 hs
    subst g1
    have kt : (nI i = nI t) = (i = t) := propext (nI_eq (by omega) (by omega))
    simp (disch := omega) only [nI_leI, if_neg, kt, z_bd_ite, z_in_n, z_gd_tt, nI_clamp, z_lt_n, nI_1]
    refine Lp1_l ⟨rfl, fun v hv => ?_⟩
    rcases (show v < i ∨ v = i by omega) with h | rfl
    · exact (ud_n (by omega)).trans (hs v h)
    · exact ud_s
  · rintro ⟨s1, s2⟩ ⟨g1, hs⟩
    simp only at g1 hs
    subst g1
    simp (disch := omega) only [nI_leI, if_pos]
    refine Lp1_r (fun v hv => ?_)
    by_cases q : v = t
    · refine ⟨0, by rw [hs v hv, if_pos q]; rfl, ?_, by omega, fun _ => ?_⟩
      · unfold T8; rw [q, hW.1]; exact Nat.le_refl _
      · unfold T8; rw [q, hW.1]
    · refine ⟨1000000, by rw [hs v hv, if_neg q]; rfl, hTb v hv, Nat.le_refl _, fun h => ?_⟩
      obtain ⟨-, u, hu, huv, e⟩ := hW.2.1 v hv q
      have h' : D v % 16 ≤ 0 := h
      have := h6 u hu
      omega
  · intro e2 he2
    refine Ha_bd (fun e => ∀ v, v < np → e v = nI (T8 D v) ∧ T8 D v ≤ 1000000) (Ha_lp (np - 1) (fun i s => s.1 = nI (i + 1) ∧ okE np D (fun _ => i) s.2) _ ?_ ?_ _ ⟨rfl, he2⟩) ?_
    · rintro i ⟨s1, s2⟩ hi ⟨g1, hs⟩
      simp only at g1 hs
      subst g1
      simp (disch := omega) only [nI_leI, if_neg]
      refine Ha_bd (okE np D (fun _ => i + 1)) (Ha_lp np (fun v s => s.1 = nI v ∧ okE np D (fun u => if u < v then i + 1 else i) s.2) _ ?_ ?_ _ ⟨rfl, fun v hv => ?_⟩) ?_
      · rintro v ⟨t1, t2⟩ hv ⟨g1, ho⟩
        simp only at g1 ho
        subst g1
        simp (disch := omega) only [nI_leI, if_neg]
        refine Ha_bd _ (mo_shorten (k := i) hnp ht hF hE hW hv (fun u hu => by by_cases q : u < v <;> simp [q]) ho) (fun e he => ?_)
        simp only [z_lt_n, nI_1]
        refine Lp1_l ⟨rfl, fun u hu => ?_⟩
        obtain ⟨x, x1, x2, x3, x4⟩ := he u hu
        refine ⟨x, x1, x2, x3, fun h => x4 ?_⟩
        by_cases q : u = v
        · simpa [q] using h
        · by_cases q2 : u < v
          · have : u < v + 1 := by omega
            simpa [q, q2, this] using h
          · have : ¬ u < v + 1 := by omega
            simpa [q, q2, this] using h
      · rintro ⟨t1, t2⟩ ⟨g1, ho⟩
        simp only at g1 ho
        subst g1
        simp (disch := omega) only [nI_leI, if_pos]
        refine Lp1_r (fun u hu => ?_)
        obtain ⟨x, x1, x2, x3, x4⟩ := ho u hu
        exact ⟨x, x1, x2, x3, fun h => x4 (by simpa [hu] using h)⟩
      · obtain ⟨x, x1, x2, x3, x4⟩ := hs v hv
        exact ⟨x, x1, x2, x3, fun h => x4 (by simpa using h)⟩
      · intro e he
        simp only [z_lt_n, nI_1]
        exact Lp1_l ⟨rfl, he⟩
    · rintro ⟨s1, s2⟩ ⟨g1, hs⟩
      simp only at g1 hs
      subst g1
      simp (disch := omega) only [nI_leI, if_pos]
      refine Lp1_r (fun v hv => ?_)
      obtain ⟨x, x1, x2, x3, x4⟩ := hs v hv
      have hx := x4 (hW.2.2 v hv)
      exact ⟨by rw [x1, hx], hTb v hv⟩
    · intro e4 he4
      refine Ha_bd (fun r => ∃ fo, r = (nI (D a % 16), fo) ∧ ∀ j, j < D a % 16 → fo j = nI (pa nx a (j + 1))) (Ha_lp (D a % 16) (fun i s => ∃ fo, s = (nI i, nI (pa nx a i), nI i, fo) ∧ ∀ j, j < i → fo j = nI (pa nx a (j + 1))) _ ?_ ?_ _ ⟨fo0, rfl, fun j hj => absurd hj (by omega)⟩) ?_
      · rintro i _ hi ⟨fo, rfl, hfo⟩
        obtain ⟨p1, p2⟩ := pa_ok hnp hW hN ha i (by omega)
        have pt : pa nx a i ≠ t := fun z => absurd ((pa_t hnp hW hN ha i (by omega)).mp z) (by omega)
        have kne : ¬ nI (pa nx a i) = nI t := nI_ne (by omega) (by omega) pt
        have hL := hW.2.2 a ha
        simp (disch := omega) only [nI_leI, if_neg, kne, if_false, mo_firstStep hnp hF hE hW hN p1 pt he4, z_bd_some, mo_addFound, z_lt_n, nI_1]
        refine Lp1_l ⟨_, rfl, fun j hj => ?_⟩
        rcases (show j < i ∨ j = i by omega) with h | rfl
        · exact (ud_n (by omega)).trans (hfo j h)
        · exact ud_s
      · rintro _ ⟨fo, rfl, hfo⟩
        have pt := (pa_t hnp hW hN ha (D a % 16) (Nat.le_refl _)).mpr rfl
        have ke : nI (pa nx a (D a % 16)) = nI t := by rw [pt]
        have hL := hW.2.2 a ha
        simp (disch := omega) only [nI_leI, if_neg, ke, if_true]
        exact Lp1_r ⟨fo, rfl, hfo⟩
      · rintro _ ⟨fo, rfl, hfo⟩
        have ia : z_in (nI a) 7 = true := z_in_n (by omega) (by decide)
        have hT := hTb a ha
        have kd : nI (T8 D a) / (8 : Int32) = nI (D a / 16) := by
          have := pk_div (a := T8 D a) (d := 8) (by omega) (by decide) (by decide)
          rw [show T8 D a / 8 = D a / 16 by have := h6 a ha; unfold T8; omega] at this
          exact this
        simp only [ia, z_gd_tt, nI_clamp (show a < 2 ^ 31 by omega), (he4 a ha).1, kd]
        exact Ha_s ⟨e4, fo, rfl, hfo⟩
theorem q_14 {x : Nat → Int32} {v : Nat → Int32} {f : Nat → Nat → Int32} {n : DD} {P : Nat → DD} {kf : Nat → Int32} {tf : Nat → Int32} {rf : Nat → Nat → Int32} {rv : Nat → Int32} {v0 : Nat → Int32} {f0 : Nat → Nat → Int32} {n0 : DD} {P0 : Nat → DD} {v1 : Nat → Int32} {f1 : Nat → Nat → Int32} {n1 : DD} {P1 : Nat → DD} {mv : Nat → Int32} {ma : Int64} {mb : Int64} {w : Nat → Int32} {tx : Nat → Int32} {yt : Nat → Int32} {fr : Nat → Int32} (hR : RelX x v f n P kf tf v0 f0 n0 P0 v1 f1 n1 P1 mv ma mb w tx) (c1 : Int32) (c2 : Int32) (c3 : Int32) (c4 : Int32) : ∃ (r7 : Int32 × Int32 × Int32 × Int32 × (Nat → Int32) × (Nat → Int32) × (Nat → Int32)) (r8 : Int32 × Int32 × (Nat → Int32) × (Nat → Int32)), p_X7_way (x 3) (v 0) (v 1) (f 0) (f 1) (f 2) (f 3) n.2.2.2.2.2.2.2.2 n.2.2.2.2.2.1 (rv 0) (rv 1) (rf 0) (rf 1) (rf 3) c1 c2 c3 c4 = some r7 ∧ p_X8_way (mv 2) w yt fr c1 c2 c3 c4 = some r8 ∧ r7.1 = r8.1 ∧ RelX (va_up x 3 r7.2.1) v f n P kf tf v0 f0 n0 P0 v1 f1 n1 P1 (va_up mv 2 r8.2.1) ma mb w tx := by
  refine RX_al hR ?_
  have hb := hR.2.2.1
  obtain ⟨np, nc, hnp, hnc, e0, w418, e1, w422, hP, hD⟩ := RC_get hR.1
  have rb7 : ∀ b, p_X7_refuseList b = some ((-10 : Int32), b + 1) := fun _ => rfl
  have rb8 : ∀ b, p_X8_badTen b = some ((-10 : Int32), b + 1) := fun _ => rfl
  unfold p_X7_way p_X8_way
  simp only [e0, e1, hb, p7_isTrip hnp hnc, p8_isCrow w422 (by omega), p8_isPlace w418 (by omega), z_bd_some, rb7, rb8]
  cases hc : z_in c1 nc
  · simp only [b2_f0, if_true, Bool.false_and]; exact Al_s ⟨rfl, rfl⟩
  cases h2 : z_in c2 np
  · simp only [b2_t0, b2_f0, if_true, if_false, Bool.false_and, Bool.true_and]; exact Al_s ⟨rfl, rfl⟩
  cases h3 : z_in c3 np
  · simp only [b2_t0, b2_f0, if_true, if_false, Bool.true_and]; exact Al_s ⟨rfl, rfl⟩
  simp only [b2_t0, if_false, Bool.true_and]
  by_cases hk : (-1 : Int32) ≤ c4
  case neg => simp only [if_neg hk]; exact Al_s ⟨rfl, rfl⟩
  simp only [if_pos hk]
  obtain ⟨c, hc', rfl⟩ := (z_in_iff (by omega)).mp hc
  obtain ⟨a, ha, rfl⟩ := (z_in_iff (by omega)).mp h2
  obtain ⟨t, ht, rfl⟩ := (z_in_iff (by omega)).mp h3
  obtain ⟨F, hF⟩ := mo_F hnp hnc hP hD hc'
  obtain ⟨e7, m7, hE7⟩ := mo_measure hnp hF (rv 0) (rv 1) (rf 0)
  obtain ⟨e8, m8, hE8⟩ := mo_layFars hnp w418 hF fr
  have hF6 : ∀ a b, a < np → b < np → F a b ≤ 600 := fun a b ha hb => (hF a b ha hb).1
  have hn := (zc_np ⟨np, by omega⟩).2
  simp only at hn
  obtain ⟨yt', Y, y1, y2⟩ := mo_yet (fr := e8) (F := F) (tI := nI t) (sp := fun _ a => if a = t then some 0 else none) hnp w418 (fun set a z h1 h2 => by by_cases q : a = t <;> simp [q] at h2; omega) (fun e set a h1 h2 h3 => mo_leastW hnp w418 hF6 hE8 (by omega) h2 ht h3) yt
  obtain ⟨D, hW⟩ := wayD F hnp ht
  obtain ⟨nx, hN⟩ := nx_ex hW
  have hY : YS np F (fun _ a => if a = t then some 0 else none) Y := fun set a c1 c2 c3 => (y2 set a c1 c2 c3).2
  have hyt : ∀ set a, 1 ≤ set → set < 2 ^ np → a < np → yt' (7 * set + a) = nI (Y set a) ∧ Y set a ≤ 99999999 := fun set a c1 c2 c3 => ⟨(y2 set a c1 c2 c3).1, (y2 set a c1 c2 c3).2.1⟩
  obtain ⟨_, r7, e, fo, rfl, hfo⟩ := mo_findWay (e0 := rf 1) (fo0 := rf 3) hnp ht ha hF6 hE7 hW hN
  obtain ⟨rk, r8, k1, k2⟩ := mo_kthW (k := c4) hnp w418 ht ha hF6 hE8 hW hN hY hyt
  have hL := hW.2.2 a ha
  have hfa : FA c4 (D a % 16) fo rk := ⟨fun j hj e => by rw [k1 j hj e, hfo j hj], k2⟩
  have h2p : ∀ x, x < np → (2 ^ a).testBit x = decide (x = a) := fun x hx => zc_2p ⟨a, by omega⟩ ⟨x, by omega⟩
  have hlt : 2 ^ a < 2 ^ np := Nat.pow_lt_pow_right (by decide) ha
  have hYa : Y (2 ^ a) a = D a := Y_eq hnp ht hF6 hW hY _ (2 ^ a) a (Nat.le_refl _) Nat.one_le_two_pow hlt ha (by rw [h2p a ha]; exact decide_eq_true rfl) (fun x hx hb hne => by rw [h2p x hx] at hb; exact absurd (of_decide_eq_true hb) hne)
  have y3 := hyt (2 ^ a) a Nat.one_le_two_pow hlt ha
  rw [hYa] at y3
  have ho := zc_one ⟨a, by omega⟩
  simp only at ho
  have kd : nI (D a) / (16 : Int32) = nI (D a / 16) := pk_div (d := 16) (by omega) (by decide) (by decide)
  simp only [m7, m8, y1, z_bd_some, r7, r8, FA_ans (show D a % 16 ≤ 49 by omega) hk hfa, ho]
  simp (disch := omega) only [z_lt_n, li_7, pk_mul, nI_add, z_in_n, z_gd_tt, nI_clamp, y3.1, kd, z_bd_ite]
  exact Al_s ⟨rfl, rfl⟩
