/-! The reference: remove. -/
section Md24
variable {B h : AH} {m0 d t num C : Nat} {s1 s s' : MS} {c : Int}
theorem pk_n1 {p : Prop} {x : Nat} (h : pk p (-1) (x : Int) = -1) : p := Classical.byContradiction fun q => by
  rw [pk_f q] at h
  omega
theorem pk_m2 {p : Prop} {x : Nat} (h : pk p (-1) (x : Int) ≠ -1) : ¬ p := fun q => h (pk_t q)
/-- only what is renumbered is another -/
def RO2 (s1 s : MS) : Prop := (∀ a, a ≠ 20 → s.1 a = s1.1 a) ∧ s.2 = s1.2
def R1 (s1 s : MS) (num C k : Nat) : Prop := RO2 s1 s ∧ ∀ j : Nat, j < k → s.1 20 j = pk (j = num) (-1) (j : Int)
def R2 (s1 s : MS) (t num C k : Nat) : Prop := RO2 s1 s ∧ (∀ j : Nat, j < k → s.1 20 j = pk (gn (mst s1) t num j) (-1) (j : Int)) ∧ ∀ j : Nat, k ≤ j → j < C → s.1 20 j = pk (j = num) (-1) (j : Int)
def R3 (s1 s : MS) (t num C k : Nat) : Prop := RO2 s1 s ∧ (∀ j : Nat, j < k → s.1 20 j = nw (mst s1) t num j) ∧ ∀ j : Nat, k ≤ j → j < C → s.1 20 j = pk (gn (mst s1) t num j) (-1) (j : Int)
theorem RO2.st (r : RO2 s1 s) (o : ∀ j, j ≠ 20 → s'.1 j = s.1 j) (p : s'.2 = s.2) : RO2 s1 s' := ⟨fun a ha => (o a ha).trans (r.1 a ha), p.trans r.2⟩
theorem rv_loop1 {Q : AO → AH → Prop} (hC : C ≤ 30) (kk : ∀ (h : AH) (s : MS), WM B m0 h s → R1 s1 s num C C → Go d yMd_remove 61 [aR m0, aI (num : Int), aI (C : Int), aI (C : Int), none, none] [] h Q) : ∀ (q k : Nat) (h : AH) (s : MS), k + q = C → WM B m0 h s → R1 s1 s num C k → Go d yMd_remove 34 [aR m0, aI (num : Int), aI (C : Int), aI (k : Int), none, none] [] h Q := by
  intro q
  induction q with
  | zero =>
    intro k h s h1 hW r
    obtain rfl : k = C := by omega
    refine g_iload_n rfl rfl ?_
    refine g_iload_n rfl rfl ?_
    refine g_icmpge rfl rfl (fun c1 => ?_) (fun c => absurd c (by omega))
    exact kk _ _ hW r
  | succ q ih =>
    intro k h s h1 hW r
    have hk : k < C := by omega
    refine g_iload_n rfl rfl ?_
    refine g_iload_n rfl rfl ?_
    refine g_icmpge rfl rfl (fun c => absurd c (by omega)) (fun c1 => ?_)
    refine g_aload_n rfl rfl ?_
    refine g_get (ci := 8) (kk := 25) rfl rfl hW.ob hW.b0 rfl ?_
    refine g_iload_n rfl rfl ?_
    refine g_iload_n rfl rfl ?_
    refine g_iload_n rfl rfl ?_
    refine g_icmpne rfl rfl (fun c2 => ?_) (fun c2 => ?_)
    · skip
      refine g_iload_n rfl rfl ?_
      refine g_iast rfl hW.a20 hW.bk (by omega) ?_
      generalize hg_hh3 : hput h (m0 + 20) (eA 0 30 (va_up (s.1 20) ((k : Int)).toNat ((k : Int)))) = hh3
      obtain ⟨s3, hW, q20, o20, p20⟩ := hW.st (k := 20) (i := ((k : Nat) : Int).toNat) (v := (k : Int)) (by omega) (by omega) (fun z => absurd z (by decide))
      rw [show (eA (mty 20) (mln 20) (va_up (s.1 20) ((k : Nat) : Int).toNat (k : Int)) : AE) = eA 0 30 (va_up (s.1 20) ((k : Nat) : Int).toNat (k : Int)) from rfl, hg_hh3] at hW
      rw [Int.toNat_natCast] at q20
      have r3 : R1 s1 s3 num C (k + 1) := by
        refine ⟨r.1.st o20 p20, fun j hj => ?_⟩
        rw [q20]
        by_cases e : j = k
        · subst e
          have e8 : pk (j = num) (-1) (j : Int) = (j : Int) := pk_f (by omega)
          rw [e8]
          simp [va_up]
        · rw [← r.2 j (by omega)]
          simp [va_up, e]
      refine g_iinc (L' := [aR m0, aI ((num : Int)), aI ((C : Int)), aI ((k : Int) + 1), none, none]) rfl rfl (by omega) rfl ?_
      refine g_goto rfl rfl ?_
      exact ih (k + 1) _ s3 (by omega) hW r3
    · skip
      refine g_iconst (n := -1) rfl (by decide) ?_
      refine g_goto rfl rfl ?_
      refine g_iast rfl hW.a20 hW.bk (by omega) ?_
      generalize hg_hh4 : hput h (m0 + 20) (eA 0 30 (va_up (s.1 20) ((k : Int)).toNat (-1))) = hh4
      obtain ⟨s3, hW, q20, o20, p20⟩ := hW.st (k := 20) (i := ((k : Nat) : Int).toNat) (v := (-1)) (by omega) (by omega) (fun z => absurd z (by decide))
      rw [show (eA (mty 20) (mln 20) (va_up (s.1 20) ((k : Nat) : Int).toNat (-1)) : AE) = eA 0 30 (va_up (s.1 20) ((k : Nat) : Int).toNat (-1)) from rfl, hg_hh4] at hW
      rw [Int.toNat_natCast] at q20
      have r3 : R1 s1 s3 num C (k + 1) := by
        refine ⟨r.1.st o20 p20, fun j hj => ?_⟩
        rw [q20]
        by_cases e : j = k
        · subst e
          have e8 : pk (j = num) (-1) (j : Int) = (-1) := pk_t (by omega)
          rw [e8]
          simp [va_up]
        · rw [← r.2 j (by omega)]
          simp [va_up, e]
      refine g_iinc (L' := [aR m0, aI ((num : Int)), aI ((C : Int)), aI ((k : Int) + 1), none, none]) rfl rfl (by omega) rfl ?_
      refine g_goto rfl rfl ?_
      exact ih (k + 1) _ s3 (by omega) hW r3
theorem rv_lk (hT : TI (mst s1) t) {k : Nat} (h0 : 0 < k) (hk : k < ((mst s1).2.2.2.1 t)) : s1.1 2 (30 * t + k) = (((dN (mst s1) t k) : Nat) : Int) ∧ (dN (mst s1) t k) < k ∧ (s1.1 1 (30 * t + k) = 3 → s1.1 8 (30 * t + k) = (((fN (mst s1) t k) : Nat) : Int) ∧ (fN (mst s1) t k) < k) := by
  refine ⟨(hT.dc h0 hk).symm, hT.dn k h0 hk, fun q => ?_⟩
  have z := (hT.f k hk).1 q
  have y : ((mst s1).2.1 ((mst s1).2.2.1 t k) 2) = s1.1 8 (30 * t + k) := rfl
  rw [y] at z
  refine ⟨?_, hT.fn hk q⟩
  show s1.1 8 (30 * t + k) = (((s1.1 8 (30 * t + k)).toNat : Nat) : Int)
  omega
theorem rv_passA {Q : AO → AH → Prop} (hT : TI (mst s1) t) (ht : t < 2) (hb : s1.2 11 = 30 * (t : Int)) (hC : C = ((mst s1).2.2.2.1 t)) (kk : ∀ (h : AH) (s : MS) (v3 v4 : Int) (v5 : AV), WM B m0 h s → R2 s1 s t num C C → Go d yMd_remove 63 [aR m0, aI (num : Int), aI (C : Int), aI v3, aI v4, v5] [] h Q) : ∀ (q k : Nat) (h : AH) (s : MS) (v3 : Int) (v5 : AV), 1 ≤ k → k + q = C → WM B m0 h s → R2 s1 s t num C k → Go d yMd_remove 72 [aR m0, aI (num : Int), aI (C : Int), aI v3, aI (k : Int), v5] [] h Q := by
  have hc30 := hT.c.2
  intro q
  induction q with
  | zero =>
    intro k h s v3 v5 h0 h1 hW r
    obtain rfl : k = C := by omega
    refine g_iload rfl rfl ?_
    refine g_iload_n rfl rfl ?_
    refine g_icmpge rfl rfl (fun c1 => ?_) (fun c => absurd c (by omega))
    refine g_goto rfl rfl ?_
    exact kk _ _ _ _ _ hW r
  | succ q ih =>
    intro k h s v3 v5 h0 h1 hW r
    have hk : k < C := by omega
    have hk2 : k < ((mst s1).2.2.2.1 t) := by omega
    obtain ⟨lD, lD2, lF⟩ := rv_lk hT (k := k) (by omega) hk2
    have e30 : (30 * (t : Int) + (k : Int)).toNat = 30 * t + k := by omega
    have hbs : s.2 11 = 30 * (t : Int) := by rw [r.1.2]; exact hb
    have gs := gn_s (num := num) hT (i := k) (by omega) hk2
    have rD := r.2.1 (dN (mst s1) t k) (by omega)
    have rk := r.2.2 k (by omega) hk
    refine g_iload rfl rfl ?_
    refine g_iload_n rfl rfl ?_
    refine g_icmpge rfl rfl (fun c => absurd c (by omega)) (fun c1 => ?_)
    refine g_aload_n rfl rfl ?_
    refine g_get (ci := 8) (kk := 25) rfl rfl hW.ob hW.b0 rfl ?_
    refine g_aload_n rfl rfl ?_
    refine g_get (ci := 8) (kk := 1) rfl rfl hW.ob hW.b0 rfl ?_
    refine g_aload_n rfl rfl ?_
    refine g_get (ci := 8) (kk := 11) rfl rfl hW.ob hW.b0 rfl ?_
    rw [show s.2 11 = 30 * (t : Int) from hbs]
    refine g_iload rfl rfl ?_
    refine g_iadd rfl (by omega) ?_
    refine g_iald rfl hW.a2 (by omega) ?_
    rw [show (s.1 2) ((30 * (t : Int)) + ((k : Int))).toNat = (((dN (mst s1) t k) : Nat) : Int) from by rw [r.1.1 2 (by decide), e30]; exact lD]
    refine g_iald rfl hW.a20 (by omega) ?_
    rw [show (s.1 20) ((((dN (mst s1) t k) : Nat) : Int)).toNat = pk (gn (mst s1) t num (dN (mst s1) t k)) (-1) ((dN (mst s1) t k) : Int) from by rw [Int.toNat_natCast]; exact rD]
    refine g_iconst (n := -1) rfl (by decide) ?_
    refine g_icmpeq rfl rfl (fun c2 => ?_) (fun c2 => ?_)
    · skip
      have y1 := c2
      refine g_iconst (n := 1) rfl (by decide) ?_
      refine g_goto rfl rfl ?_
      refine g_istore (L' := [aR m0, aI ((num : Int)), aI ((C : Int)), aI v3, aI ((k : Int)), aI 1]) rfl rfl ?_
      refine g_aload_n rfl rfl ?_
      refine g_get (ci := 8) (kk := 25) rfl rfl hW.ob hW.b0 rfl ?_
      refine g_iload rfl rfl ?_
      refine g_iald rfl hW.a20 (by omega) ?_
      rw [show (s.1 20) ((k : Int)).toNat = pk (k = num) (-1) (k : Int) from by rw [Int.toNat_natCast]; exact rk]
      refine g_iconst (n := -1) rfl (by decide) ?_
      refine g_icmpeq rfl rfl (fun c3 => ?_) (fun c3 => ?_)
      · skip
        have y4 := c3
        refine g_iinc (L' := [aR m0, aI ((num : Int)), aI ((C : Int)), aI v3, aI ((k : Int) + 1), aI 1]) rfl rfl (by omega) rfl ?_
        refine g_goto rfl rfl ?_
        have e8 : pk (k = num) (-1) (k : Int) = pk (gn (mst s1) t num k) (-1) (k : Int) := by
          by_cases z4 : pk (k = num) (-1) (k : Int) = -1
          · rw [z4, pk_t (gs.mpr (Or.inl (pk_n1 z4)))]
          · first | exact absurd y4 z4 | rw [pk_f (pk_m2 z4), pk_f (fun q => by rcases gs.mp q with z | z | z <;> first | exact pk_m2 z4 z | exact pk_m2 y1 z | exact y2 z.1 | exact pk_m2 y3 z.2)]
        have r3 : R2 s1 s t num C (k + 1) := by
          refine ⟨r.1, fun j hj => ?_, fun j hj hj2 => r.2.2 j (by omega) hj2⟩
          by_cases e : j = k
          · subst e
            rw [rk, e8]
          · exact r.2.1 j (by omega)
        exact ih (k + 1) _ s _ _ (by omega) (by omega) hW r3
      · skip
        have y4 := c3
        refine g_iload rfl rfl ?_
        refine g_ifeq rfl rfl (fun c => absurd c (by decide)) (fun c => ?_)
        refine g_aload_n rfl rfl ?_
        refine g_get (ci := 8) (kk := 25) rfl rfl hW.ob hW.b0 rfl ?_
        refine g_iload rfl rfl ?_
        refine g_iconst (n := -1) rfl (by decide) ?_
        refine g_iast rfl hW.a20 hW.bk (by omega) ?_
        generalize hg_hh5 : hput h (m0 + 20) (eA 0 30 (va_up (s.1 20) ((k : Int)).toNat (-1))) = hh5
        obtain ⟨s3, hW, q20, o20, p20⟩ := hW.st (k := 20) (i := ((k : Nat) : Int).toNat) (v := (-1)) (by omega) (by omega) (fun z => absurd z (by decide))
        rw [show (eA (mty 20) (mln 20) (va_up (s.1 20) ((k : Nat) : Int).toNat (-1)) : AE) = eA 0 30 (va_up (s.1 20) ((k : Nat) : Int).toNat (-1)) from rfl, hg_hh5] at hW
        rw [Int.toNat_natCast] at q20
        have hg : (gn (mst s1) t num k) := (gs.mpr (by first | exact Or.inr (Or.inr ⟨y2, pk_n1 y3⟩) | exact Or.inr (Or.inl (pk_n1 y1))))
        have r3 : R2 s1 s3 t num C (k + 1) := by
          refine ⟨r.1.st o20 p20, fun j hj => ?_, fun j hj hj2 => ?_⟩
          · rw [q20]
            by_cases e : j = k
            · subst e
              rw [pk_t hg]
              simp [va_up]
            · rw [← r.2.1 j (by omega)]
              simp [va_up, e]
          · rw [q20, ← r.2.2 j (by omega) hj2]
            simp [va_up, show j ≠ k by omega]
        refine g_iconst (n := 1) rfl (by decide) ?_
        refine g_istore_n (L' := [aR m0, aI ((num : Int)), aI ((C : Int)), aI 1, aI ((k : Int)), aI 1]) rfl rfl ?_
        refine g_iinc (L' := [aR m0, aI ((num : Int)), aI ((C : Int)), aI 1, aI ((k : Int) + 1), aI 1]) rfl rfl (by omega) rfl ?_
        refine g_goto rfl rfl ?_
        exact ih (k + 1) _ s3 _ _ (by omega) (by omega) hW r3
    · skip
      have y1 := c2
      refine g_aload_n rfl rfl ?_
      refine g_get (ci := 8) (kk := 0) rfl rfl hW.ob hW.b0 rfl ?_
      refine g_aload_n rfl rfl ?_
      refine g_get (ci := 8) (kk := 11) rfl rfl hW.ob hW.b0 rfl ?_
      rw [show s.2 11 = 30 * (t : Int) from hbs]
      refine g_iload rfl rfl ?_
      refine g_iadd rfl (by omega) ?_
      refine g_iald rfl hW.a1 (by omega) ?_
      rw [show (s.1 1) ((30 * (t : Int)) + ((k : Int))).toNat = s1.1 1 (30 * t + k) from by rw [r.1.1 1 (by decide), e30]]
      refine g_iconst (n := 3) rfl (by decide) ?_
      refine g_icmpne rfl rfl (fun c6 => ?_) (fun c6 => ?_)
      · skip
        have y2 := c6
        refine g_iconst (n := 0) rfl (by decide) ?_
        refine g_istore (L' := [aR m0, aI ((num : Int)), aI ((C : Int)), aI v3, aI ((k : Int)), aI 0]) rfl rfl ?_
        refine g_aload_n rfl rfl ?_
        refine g_get (ci := 8) (kk := 25) rfl rfl hW.ob hW.b0 rfl ?_
        refine g_iload rfl rfl ?_
        refine g_iald rfl hW.a20 (by omega) ?_
        rw [show (s.1 20) ((k : Int)).toNat = pk (k = num) (-1) (k : Int) from by rw [Int.toNat_natCast]; exact rk]
        refine g_iconst (n := -1) rfl (by decide) ?_
        refine g_icmpeq rfl rfl (fun c7 => ?_) (fun c7 => ?_)
        · skip
          have y4 := c7
          refine g_iinc (L' := [aR m0, aI ((num : Int)), aI ((C : Int)), aI v3, aI ((k : Int) + 1), aI 0]) rfl rfl (by omega) rfl ?_
          refine g_goto rfl rfl ?_
          have e8 : pk (k = num) (-1) (k : Int) = pk (gn (mst s1) t num k) (-1) (k : Int) := by
            by_cases z4 : pk (k = num) (-1) (k : Int) = -1
            · rw [z4, pk_t (gs.mpr (Or.inl (pk_n1 z4)))]
            · first | exact absurd y4 z4 | rw [pk_f (pk_m2 z4), pk_f (fun q => by rcases gs.mp q with z | z | z <;> first | exact pk_m2 z4 z | exact pk_m2 y1 z | exact y2 z.1 | exact pk_m2 y3 z.2)]
          have r3 : R2 s1 s t num C (k + 1) := by
            refine ⟨r.1, fun j hj => ?_, fun j hj hj2 => r.2.2 j (by omega) hj2⟩
            by_cases e : j = k
            · subst e
              rw [rk, e8]
            · exact r.2.1 j (by omega)
          exact ih (k + 1) _ s _ _ (by omega) (by omega) hW r3
        · skip
          have y4 := c7
          refine g_iload rfl rfl ?_
          refine g_ifeq rfl rfl (fun c => ?_) (fun c => absurd c (by decide))
          refine g_iinc (L' := [aR m0, aI ((num : Int)), aI ((C : Int)), aI v3, aI ((k : Int) + 1), aI 0]) rfl rfl (by omega) rfl ?_
          refine g_goto rfl rfl ?_
          have e8 : pk (k = num) (-1) (k : Int) = pk (gn (mst s1) t num k) (-1) (k : Int) := by
            by_cases z4 : pk (k = num) (-1) (k : Int) = -1
            · rw [z4, pk_t (gs.mpr (Or.inl (pk_n1 z4)))]
            · first | exact absurd y4 z4 | rw [pk_f (pk_m2 z4), pk_f (fun q => by rcases gs.mp q with z | z | z <;> first | exact pk_m2 z4 z | exact pk_m2 y1 z | exact y2 z.1 | exact pk_m2 y3 z.2)]
          have r3 : R2 s1 s t num C (k + 1) := by
            refine ⟨r.1, fun j hj => ?_, fun j hj hj2 => r.2.2 j (by omega) hj2⟩
            by_cases e : j = k
            · subst e
              rw [rk, e8]
            · exact r.2.1 j (by omega)
          exact ih (k + 1) _ s _ _ (by omega) (by omega) hW r3
      · skip
        have y2 := c6
        obtain ⟨lF1, lF2⟩ := lF y2
        have rF := r.2.1 (fN (mst s1) t k) (by omega)
        refine g_aload_n rfl rfl ?_
        refine g_get (ci := 8) (kk := 25) rfl rfl hW.ob hW.b0 rfl ?_
        refine g_aload_n rfl rfl ?_
        refine g_get (ci := 8) (kk := 7) rfl rfl hW.ob hW.b0 rfl ?_
        refine g_aload_n rfl rfl ?_
        refine g_get (ci := 8) (kk := 11) rfl rfl hW.ob hW.b0 rfl ?_
        rw [show s.2 11 = 30 * (t : Int) from hbs]
        refine g_iload rfl rfl ?_
        refine g_iadd rfl (by omega) ?_
        refine g_iald rfl hW.a8 (by omega) ?_
        rw [show (s.1 8) ((30 * (t : Int)) + ((k : Int))).toNat = (((fN (mst s1) t k) : Nat) : Int) from by rw [r.1.1 8 (by decide), e30]; exact lF1]
        refine g_iald rfl hW.a20 (by omega) ?_
        rw [show (s.1 20) ((((fN (mst s1) t k) : Nat) : Int)).toNat = pk (gn (mst s1) t num (fN (mst s1) t k)) (-1) ((fN (mst s1) t k) : Int) from by rw [Int.toNat_natCast]; exact rF]
        refine g_iconst (n := -1) rfl (by decide) ?_
        refine g_icmpne rfl rfl (fun c9 => ?_) (fun c9 => ?_)
        · skip
          have y3 := c9
          refine g_iconst (n := 0) rfl (by decide) ?_
          refine g_istore (L' := [aR m0, aI ((num : Int)), aI ((C : Int)), aI v3, aI ((k : Int)), aI 0]) rfl rfl ?_
          refine g_aload_n rfl rfl ?_
          refine g_get (ci := 8) (kk := 25) rfl rfl hW.ob hW.b0 rfl ?_
          refine g_iload rfl rfl ?_
          refine g_iald rfl hW.a20 (by omega) ?_
          rw [show (s.1 20) ((k : Int)).toNat = pk (k = num) (-1) (k : Int) from by rw [Int.toNat_natCast]; exact rk]
          refine g_iconst (n := -1) rfl (by decide) ?_
          refine g_icmpeq rfl rfl (fun c10 => ?_) (fun c10 => ?_)
          · skip
            have y4 := c10
            refine g_iinc (L' := [aR m0, aI ((num : Int)), aI ((C : Int)), aI v3, aI ((k : Int) + 1), aI 0]) rfl rfl (by omega) rfl ?_
            refine g_goto rfl rfl ?_
            have e8 : pk (k = num) (-1) (k : Int) = pk (gn (mst s1) t num k) (-1) (k : Int) := by
              by_cases z4 : pk (k = num) (-1) (k : Int) = -1
              · rw [z4, pk_t (gs.mpr (Or.inl (pk_n1 z4)))]
              · first | exact absurd y4 z4 | rw [pk_f (pk_m2 z4), pk_f (fun q => by rcases gs.mp q with z | z | z <;> first | exact pk_m2 z4 z | exact pk_m2 y1 z | exact y2 z.1 | exact pk_m2 y3 z.2)]
            have r3 : R2 s1 s t num C (k + 1) := by
              refine ⟨r.1, fun j hj => ?_, fun j hj hj2 => r.2.2 j (by omega) hj2⟩
              by_cases e : j = k
              · subst e
                rw [rk, e8]
              · exact r.2.1 j (by omega)
            exact ih (k + 1) _ s _ _ (by omega) (by omega) hW r3
          · skip
            have y4 := c10
            refine g_iload rfl rfl ?_
            refine g_ifeq rfl rfl (fun c => ?_) (fun c => absurd c (by decide))
            refine g_iinc (L' := [aR m0, aI ((num : Int)), aI ((C : Int)), aI v3, aI ((k : Int) + 1), aI 0]) rfl rfl (by omega) rfl ?_
            refine g_goto rfl rfl ?_
            have e8 : pk (k = num) (-1) (k : Int) = pk (gn (mst s1) t num k) (-1) (k : Int) := by
              by_cases z4 : pk (k = num) (-1) (k : Int) = -1
              · rw [z4, pk_t (gs.mpr (Or.inl (pk_n1 z4)))]
              · first | exact absurd y4 z4 | rw [pk_f (pk_m2 z4), pk_f (fun q => by rcases gs.mp q with z | z | z <;> first | exact pk_m2 z4 z | exact pk_m2 y1 z | exact y2 z.1 | exact pk_m2 y3 z.2)]
            have r3 : R2 s1 s t num C (k + 1) := by
              refine ⟨r.1, fun j hj => ?_, fun j hj hj2 => r.2.2 j (by omega) hj2⟩
              by_cases e : j = k
              · subst e
                rw [rk, e8]
              · exact r.2.1 j (by omega)
            exact ih (k + 1) _ s _ _ (by omega) (by omega) hW r3
        · skip
          have y3 := c9
          refine g_iconst (n := 1) rfl (by decide) ?_
          refine g_goto rfl rfl ?_
          refine g_istore (L' := [aR m0, aI ((num : Int)), aI ((C : Int)), aI v3, aI ((k : Int)), aI 1]) rfl rfl ?_
          refine g_aload_n rfl rfl ?_
          refine g_get (ci := 8) (kk := 25) rfl rfl hW.ob hW.b0 rfl ?_
          refine g_iload rfl rfl ?_
          refine g_iald rfl hW.a20 (by omega) ?_
          rw [show (s.1 20) ((k : Int)).toNat = pk (k = num) (-1) (k : Int) from by rw [Int.toNat_natCast]; exact rk]
          refine g_iconst (n := -1) rfl (by decide) ?_
          refine g_icmpeq rfl rfl (fun c12 => ?_) (fun c12 => ?_)
          · skip
            have y4 := c12
            refine g_iinc (L' := [aR m0, aI ((num : Int)), aI ((C : Int)), aI v3, aI ((k : Int) + 1), aI 1]) rfl rfl (by omega) rfl ?_
            refine g_goto rfl rfl ?_
            have e8 : pk (k = num) (-1) (k : Int) = pk (gn (mst s1) t num k) (-1) (k : Int) := by
              by_cases z4 : pk (k = num) (-1) (k : Int) = -1
              · rw [z4, pk_t (gs.mpr (Or.inl (pk_n1 z4)))]
              · first | exact absurd y4 z4 | rw [pk_f (pk_m2 z4), pk_f (fun q => by rcases gs.mp q with z | z | z <;> first | exact pk_m2 z4 z | exact pk_m2 y1 z | exact y2 z.1 | exact pk_m2 y3 z.2)]
            have r3 : R2 s1 s t num C (k + 1) := by
              refine ⟨r.1, fun j hj => ?_, fun j hj hj2 => r.2.2 j (by omega) hj2⟩
              by_cases e : j = k
              · subst e
                rw [rk, e8]
              · exact r.2.1 j (by omega)
            exact ih (k + 1) _ s _ _ (by omega) (by omega) hW r3
          · skip
            have y4 := c12
            refine g_iload rfl rfl ?_
            refine g_ifeq rfl rfl (fun c => absurd c (by decide)) (fun c => ?_)
            refine g_aload_n rfl rfl ?_
            refine g_get (ci := 8) (kk := 25) rfl rfl hW.ob hW.b0 rfl ?_
            refine g_iload rfl rfl ?_
            refine g_iconst (n := -1) rfl (by decide) ?_
            refine g_iast rfl hW.a20 hW.bk (by omega) ?_
            generalize hg_hh14 : hput h (m0 + 20) (eA 0 30 (va_up (s.1 20) ((k : Int)).toNat (-1))) = hh14
            obtain ⟨s3, hW, q20, o20, p20⟩ := hW.st (k := 20) (i := ((k : Nat) : Int).toNat) (v := (-1)) (by omega) (by omega) (fun z => absurd z (by decide))
            rw [show (eA (mty 20) (mln 20) (va_up (s.1 20) ((k : Nat) : Int).toNat (-1)) : AE) = eA 0 30 (va_up (s.1 20) ((k : Nat) : Int).toNat (-1)) from rfl, hg_hh14] at hW
            rw [Int.toNat_natCast] at q20
            have hg : (gn (mst s1) t num k) := (gs.mpr (by first | exact Or.inr (Or.inr ⟨y2, pk_n1 y3⟩) | exact Or.inr (Or.inl (pk_n1 y1))))
            have r3 : R2 s1 s3 t num C (k + 1) := by
              refine ⟨r.1.st o20 p20, fun j hj => ?_, fun j hj hj2 => ?_⟩
              · rw [q20]
                by_cases e : j = k
                · subst e
                  rw [pk_t hg]
                  simp [va_up]
                · rw [← r.2.1 j (by omega)]
                  simp [va_up, e]
              · rw [q20, ← r.2.2 j (by omega) hj2]
                simp [va_up, show j ≠ k by omega]
            refine g_iconst (n := 1) rfl (by decide) ?_
            refine g_istore_n (L' := [aR m0, aI ((num : Int)), aI ((C : Int)), aI 1, aI ((k : Int)), aI 1]) rfl rfl ?_
            refine g_iinc (L' := [aR m0, aI ((num : Int)), aI ((C : Int)), aI 1, aI ((k : Int) + 1), aI 1]) rfl rfl (by omega) rfl ?_
            refine g_goto rfl rfl ?_
            exact ih (k + 1) _ s3 _ _ (by omega) (by omega) hW r3
theorem rv_passB {Q : AO → AH → Prop} (hT : TI (mst s1) t) (ht : t < 2) (hb : s1.2 11 = 30 * (t : Int)) (hC : C = ((mst s1).2.2.2.1 t)) (hW : WM B m0 h s) (r : R2 s1 s t num C C) (kk : ∀ (v4 : Int) (v5 : AV), Go d yMd_remove 63 [aR m0, aI (num : Int), aI (C : Int), aI 0, aI v4, v5] [] h Q) : ∀ (q k : Nat) (v5 : AV), 1 ≤ k → k + q = C → Go d yMd_remove 72 [aR m0, aI (num : Int), aI (C : Int), aI 0, aI (k : Int), v5] [] h Q := by
  have hc30 := hT.c.2
  intro q
  induction q with
  | zero =>
    intro k v5 h0 h1
    obtain rfl : k = C := by omega
    refine g_iload rfl rfl ?_
    refine g_iload_n rfl rfl ?_
    refine g_icmpge rfl rfl (fun c1 => ?_) (fun c => absurd c (by omega))
    refine g_goto rfl rfl ?_
    exact kk _ _
  | succ q ih =>
    intro k v5 h0 h1
    have hk : k < C := by omega
    have hk2 : k < ((mst s1).2.2.2.1 t) := by omega
    obtain ⟨lD, lD2, lF⟩ := rv_lk hT (k := k) (by omega) hk2
    have e30 : (30 * (t : Int) + (k : Int)).toNat = 30 * t + k := by omega
    have hbs : s.2 11 = 30 * (t : Int) := by rw [r.1.2]; exact hb
    have gs := gn_s (num := num) hT (i := k) (by omega) hk2
    have rD := r.2.1 (dN (mst s1) t k) (by omega)
    have rk := r.2.1 k hk
    refine g_iload rfl rfl ?_
    refine g_iload_n rfl rfl ?_
    refine g_icmpge rfl rfl (fun c => absurd c (by omega)) (fun c1 => ?_)
    refine g_aload_n rfl rfl ?_
    refine g_get (ci := 8) (kk := 25) rfl rfl hW.ob hW.b0 rfl ?_
    refine g_aload_n rfl rfl ?_
    refine g_get (ci := 8) (kk := 1) rfl rfl hW.ob hW.b0 rfl ?_
    refine g_aload_n rfl rfl ?_
    refine g_get (ci := 8) (kk := 11) rfl rfl hW.ob hW.b0 rfl ?_
    rw [show s.2 11 = 30 * (t : Int) from hbs]
    refine g_iload rfl rfl ?_
    refine g_iadd rfl (by omega) ?_
    refine g_iald rfl hW.a2 (by omega) ?_
    rw [show (s.1 2) ((30 * (t : Int)) + ((k : Int))).toNat = (((dN (mst s1) t k) : Nat) : Int) from by rw [r.1.1 2 (by decide), e30]; exact lD]
    refine g_iald rfl hW.a20 (by omega) ?_
    rw [show (s.1 20) ((((dN (mst s1) t k) : Nat) : Int)).toNat = pk (gn (mst s1) t num (dN (mst s1) t k)) (-1) ((dN (mst s1) t k) : Int) from by rw [Int.toNat_natCast]; exact rD]
    refine g_iconst (n := -1) rfl (by decide) ?_
    refine g_icmpeq rfl rfl (fun c2 => ?_) (fun c2 => ?_)
    · skip
      have y1 := c2
      refine g_iconst (n := 1) rfl (by decide) ?_
      refine g_goto rfl rfl ?_
      refine g_istore (L' := [aR m0, aI ((num : Int)), aI ((C : Int)), aI 0, aI ((k : Int)), aI 1]) rfl rfl ?_
      refine g_aload_n rfl rfl ?_
      refine g_get (ci := 8) (kk := 25) rfl rfl hW.ob hW.b0 rfl ?_
      refine g_iload rfl rfl ?_
      refine g_iald rfl hW.a20 (by omega) ?_
      rw [show (s.1 20) ((k : Int)).toNat = pk (gn (mst s1) t num k) (-1) (k : Int) from by rw [Int.toNat_natCast]; exact rk]
      refine g_iconst (n := -1) rfl (by decide) ?_
      refine g_icmpeq rfl rfl (fun c3 => ?_) (fun c3 => ?_)
      · skip
        have y4 := c3
        refine g_iinc (L' := [aR m0, aI ((num : Int)), aI ((C : Int)), aI 0, aI ((k : Int) + 1), aI 1]) rfl rfl (by omega) rfl ?_
        refine g_goto rfl rfl ?_
        exact ih (k + 1) _ (by omega) (by omega)
      · skip
        have y4 := c3
        exact absurd (gs.mpr (by first | exact Or.inr (Or.inr ⟨y2, pk_n1 y3⟩) | exact Or.inr (Or.inl (pk_n1 y1)))) (pk_m2 y4)
    · skip
      have y1 := c2
      refine g_aload_n rfl rfl ?_
      refine g_get (ci := 8) (kk := 0) rfl rfl hW.ob hW.b0 rfl ?_
      refine g_aload_n rfl rfl ?_
      refine g_get (ci := 8) (kk := 11) rfl rfl hW.ob hW.b0 rfl ?_
      rw [show s.2 11 = 30 * (t : Int) from hbs]
      refine g_iload rfl rfl ?_
      refine g_iadd rfl (by omega) ?_
      refine g_iald rfl hW.a1 (by omega) ?_
      rw [show (s.1 1) ((30 * (t : Int)) + ((k : Int))).toNat = s1.1 1 (30 * t + k) from by rw [r.1.1 1 (by decide), e30]]
      refine g_iconst (n := 3) rfl (by decide) ?_
      refine g_icmpne rfl rfl (fun c4 => ?_) (fun c4 => ?_)
      · skip
        have y2 := c4
        refine g_iconst (n := 0) rfl (by decide) ?_
        refine g_istore (L' := [aR m0, aI ((num : Int)), aI ((C : Int)), aI 0, aI ((k : Int)), aI 0]) rfl rfl ?_
        refine g_aload_n rfl rfl ?_
        refine g_get (ci := 8) (kk := 25) rfl rfl hW.ob hW.b0 rfl ?_
        refine g_iload rfl rfl ?_
        refine g_iald rfl hW.a20 (by omega) ?_
        rw [show (s.1 20) ((k : Int)).toNat = pk (gn (mst s1) t num k) (-1) (k : Int) from by rw [Int.toNat_natCast]; exact rk]
        refine g_iconst (n := -1) rfl (by decide) ?_
        refine g_icmpeq rfl rfl (fun c5 => ?_) (fun c5 => ?_)
        · skip
          have y4 := c5
          refine g_iinc (L' := [aR m0, aI ((num : Int)), aI ((C : Int)), aI 0, aI ((k : Int) + 1), aI 0]) rfl rfl (by omega) rfl ?_
          refine g_goto rfl rfl ?_
          exact ih (k + 1) _ (by omega) (by omega)
        · skip
          have y4 := c5
          refine g_iload rfl rfl ?_
          refine g_ifeq rfl rfl (fun c => ?_) (fun c => absurd c (by decide))
          refine g_iinc (L' := [aR m0, aI ((num : Int)), aI ((C : Int)), aI 0, aI ((k : Int) + 1), aI 0]) rfl rfl (by omega) rfl ?_
          refine g_goto rfl rfl ?_
          exact ih (k + 1) _ (by omega) (by omega)
      · skip
        have y2 := c4
        obtain ⟨lF1, lF2⟩ := lF y2
        have rF := r.2.1 (fN (mst s1) t k) (by omega)
        refine g_aload_n rfl rfl ?_
        refine g_get (ci := 8) (kk := 25) rfl rfl hW.ob hW.b0 rfl ?_
        refine g_aload_n rfl rfl ?_
        refine g_get (ci := 8) (kk := 7) rfl rfl hW.ob hW.b0 rfl ?_
        refine g_aload_n rfl rfl ?_
        refine g_get (ci := 8) (kk := 11) rfl rfl hW.ob hW.b0 rfl ?_
        rw [show s.2 11 = 30 * (t : Int) from hbs]
        refine g_iload rfl rfl ?_
        refine g_iadd rfl (by omega) ?_
        refine g_iald rfl hW.a8 (by omega) ?_
        rw [show (s.1 8) ((30 * (t : Int)) + ((k : Int))).toNat = (((fN (mst s1) t k) : Nat) : Int) from by rw [r.1.1 8 (by decide), e30]; exact lF1]
        refine g_iald rfl hW.a20 (by omega) ?_
        rw [show (s.1 20) ((((fN (mst s1) t k) : Nat) : Int)).toNat = pk (gn (mst s1) t num (fN (mst s1) t k)) (-1) ((fN (mst s1) t k) : Int) from by rw [Int.toNat_natCast]; exact rF]
        refine g_iconst (n := -1) rfl (by decide) ?_
        refine g_icmpne rfl rfl (fun c7 => ?_) (fun c7 => ?_)
        · skip
          have y3 := c7
          refine g_iconst (n := 0) rfl (by decide) ?_
          refine g_istore (L' := [aR m0, aI ((num : Int)), aI ((C : Int)), aI 0, aI ((k : Int)), aI 0]) rfl rfl ?_
          refine g_aload_n rfl rfl ?_
          refine g_get (ci := 8) (kk := 25) rfl rfl hW.ob hW.b0 rfl ?_
          refine g_iload rfl rfl ?_
          refine g_iald rfl hW.a20 (by omega) ?_
          rw [show (s.1 20) ((k : Int)).toNat = pk (gn (mst s1) t num k) (-1) (k : Int) from by rw [Int.toNat_natCast]; exact rk]
          refine g_iconst (n := -1) rfl (by decide) ?_
          refine g_icmpeq rfl rfl (fun c8 => ?_) (fun c8 => ?_)
          · skip
            have y4 := c8
            refine g_iinc (L' := [aR m0, aI ((num : Int)), aI ((C : Int)), aI 0, aI ((k : Int) + 1), aI 0]) rfl rfl (by omega) rfl ?_
            refine g_goto rfl rfl ?_
            exact ih (k + 1) _ (by omega) (by omega)
          · skip
            have y4 := c8
            refine g_iload rfl rfl ?_
            refine g_ifeq rfl rfl (fun c => ?_) (fun c => absurd c (by decide))
            refine g_iinc (L' := [aR m0, aI ((num : Int)), aI ((C : Int)), aI 0, aI ((k : Int) + 1), aI 0]) rfl rfl (by omega) rfl ?_
            refine g_goto rfl rfl ?_
            exact ih (k + 1) _ (by omega) (by omega)
        · skip
          have y3 := c7
          refine g_iconst (n := 1) rfl (by decide) ?_
          refine g_goto rfl rfl ?_
          refine g_istore (L' := [aR m0, aI ((num : Int)), aI ((C : Int)), aI 0, aI ((k : Int)), aI 1]) rfl rfl ?_
          refine g_aload_n rfl rfl ?_
          refine g_get (ci := 8) (kk := 25) rfl rfl hW.ob hW.b0 rfl ?_
          refine g_iload rfl rfl ?_
          refine g_iald rfl hW.a20 (by omega) ?_
          rw [show (s.1 20) ((k : Int)).toNat = pk (gn (mst s1) t num k) (-1) (k : Int) from by rw [Int.toNat_natCast]; exact rk]
          refine g_iconst (n := -1) rfl (by decide) ?_
          refine g_icmpeq rfl rfl (fun c10 => ?_) (fun c10 => ?_)
          · skip
            have y4 := c10
            refine g_iinc (L' := [aR m0, aI ((num : Int)), aI ((C : Int)), aI 0, aI ((k : Int) + 1), aI 1]) rfl rfl (by omega) rfl ?_
            refine g_goto rfl rfl ?_
            exact ih (k + 1) _ (by omega) (by omega)
          · skip
            have y4 := c10
            exact absurd (gs.mpr (by first | exact Or.inr (Or.inr ⟨y2, pk_n1 y3⟩) | exact Or.inr (Or.inl (pk_n1 y1)))) (pk_m2 y4)
theorem rv_loop3 {Q : AO → AH → Prop} (hC : C ≤ 30) (v3 : Int) (kk : ∀ (h : AH) (s : MS), WM B m0 h s → R3 s1 s t num C C → Go d yMd_remove 219 [aR m0, aI (num : Int), aI (C : Int), aI v3, aI ((kp (mst s1) t num C : Nat) : Int), aI (C : Int)] [] h Q) : ∀ (q k : Nat) (h : AH) (s : MS), k + q = C → WM B m0 h s → R3 s1 s t num C k → Go d yMd_remove 184 [aR m0, aI (num : Int), aI (C : Int), aI v3, aI ((kp (mst s1) t num k : Nat) : Int), aI (k : Int)] [] h Q := by
  intro q
  induction q with
  | zero =>
    intro k h s h1 hW r
    obtain rfl : k = C := by omega
    refine g_iload rfl rfl ?_
    refine g_iload_n rfl rfl ?_
    refine g_icmpge rfl rfl (fun c1 => ?_) (fun c => absurd c (by omega))
    exact kk _ _ hW r
  | succ q ih =>
    intro k h s h1 hW r
    have hk : k < C := by omega
    have rk := r.2.2 k (by omega) hk
    have hkp := kp_le (st := mst s1) (t := t) (num := num) k
    refine g_iload rfl rfl ?_
    refine g_iload_n rfl rfl ?_
    refine g_icmpge rfl rfl (fun c => absurd c (by omega)) (fun c1 => ?_)
    refine g_aload_n rfl rfl ?_
    refine g_get (ci := 8) (kk := 25) rfl rfl hW.ob hW.b0 rfl ?_
    refine g_iload rfl rfl ?_
    refine g_iald rfl hW.a20 (by omega) ?_
    rw [show (s.1 20) ((k : Int)).toNat = pk (gn (mst s1) t num k) (-1) (k : Int) from by rw [Int.toNat_natCast]; exact rk]
    refine g_iconst (n := -1) rfl (by decide) ?_
    refine g_icmpeq rfl rfl (fun c2 => ?_) (fun c2 => ?_)
    · skip
      have y4 := c2
      refine g_iinc (L' := [aR m0, aI ((num : Int)), aI ((C : Int)), aI v3, aI (((kp (mst s1) t num k : Nat) : Int)), aI ((k : Int) + 1)]) rfl rfl (by omega) rfl ?_
      refine g_goto rfl rfl ?_
      have r3 : R3 s1 s t num C (k + 1) := by
        refine ⟨r.1, fun j hj => ?_, fun j hj hj2 => r.2.2 j (by omega) hj2⟩
        by_cases e : j = k
        · subst e
          rw [rk, y4, nw_t (pk_n1 y4)]
        · exact r.2.1 j (by omega)
      rw [show ((kp (mst s1) t num k : Nat) : Int) = ((kp (mst s1) t num (k + 1) : Nat) : Int) from by rw [kp_f (pk_n1 y4)]]
      exact ih (k + 1) _ s (by omega) hW r3
    · skip
      have y4 := c2
      refine g_aload_n rfl rfl ?_
      refine g_get (ci := 8) (kk := 25) rfl rfl hW.ob hW.b0 rfl ?_
      refine g_iload rfl rfl ?_
      refine g_iload rfl rfl ?_
      refine g_iast rfl hW.a20 hW.bk (by omega) ?_
      generalize hg_hh3 : hput h (m0 + 20) (eA 0 30 (va_up (s.1 20) ((k : Int)).toNat (((kp (mst s1) t num k : Nat) : Int)))) = hh3
      obtain ⟨s3, hW, q20, o20, p20⟩ := hW.st (k := 20) (i := ((k : Nat) : Int).toNat) (v := ((kp (mst s1) t num k : Nat) : Int)) (by omega) (by omega) (fun z => absurd z (by decide))
      rw [show (eA (mty 20) (mln 20) (va_up (s.1 20) ((k : Nat) : Int).toNat ((kp (mst s1) t num k : Nat) : Int)) : AE) = eA 0 30 (va_up (s.1 20) ((k : Nat) : Int).toNat ((kp (mst s1) t num k : Nat) : Int)) from rfl, hg_hh3] at hW
      rw [Int.toNat_natCast] at q20
      have r3 : R3 s1 s3 t num C (k + 1) := by
        refine ⟨r.1.st o20 p20, fun j hj => ?_, fun j hj hj2 => ?_⟩
        · rw [q20]
          by_cases e : j = k
          · subst e
            rw [nw_f (pk_m2 y4)]
            simp [va_up]
          · rw [← r.2.1 j (by omega)]
            simp [va_up, e]
        · rw [q20, ← r.2.2 j (by omega) hj2]
          simp [va_up, show j ≠ k by omega]
      refine g_iinc (L' := [aR m0, aI ((num : Int)), aI ((C : Int)), aI v3, aI (((kp (mst s1) t num k : Nat) : Int) + 1), aI ((k : Int))]) rfl rfl (by omega) rfl ?_
      refine g_iinc (L' := [aR m0, aI ((num : Int)), aI ((C : Int)), aI v3, aI (((kp (mst s1) t num k : Nat) : Int) + 1), aI ((k : Int) + 1)]) rfl rfl (by omega) rfl ?_
      refine g_goto rfl rfl ?_
      rw [show ((kp (mst s1) t num k : Nat) : Int) + 1 = ((kp (mst s1) t num (k + 1) : Nat) : Int) from by rw [kp_t (pk_m2 y4)]; rfl]
      exact ih (k + 1) _ s3 (by omega) hW r3
end Md24
