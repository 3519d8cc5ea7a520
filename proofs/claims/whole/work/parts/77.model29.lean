/-! The reference: an entry's link text, its length and its pad. -/
section Md29
variable {B h : AH} {m0 d t u : Nat} {s s' : MS} {c b : Int} {st ms : CS} {P l : List Int}
theorem ENv_9 (h : pokR st u l (b * 512) (kndR l (b * 512))) (h2 : tokR st u l (b * 512) (kndR l (b * 512))) (h3 : 30 ≤ (st.2.2.2.1 u) ∨ 2000 < lnR l b) : ENv st u l b = 9 := (pk_t h).trans ((pk_t h2).trans (pk_t h3))
theorem ENv_c (h : pokR st u l (b * 512) (kndR l (b * 512))) (h2 : tokR st u l (b * 512) (kndR l (b * 512))) (h3 : ¬ (30 ≤ (st.2.2.2.1 u) ∨ 2000 < lnR l b)) : ENv st u l b = fcR l b (lnR l b) := (pk_t h).trans ((pk_t h2).trans (pk_f h3))
theorem tg_len (l : List Int) (f : Int) : (tgR l f).length = tx l (f + 157) 100 := cps_n _ _ _
theorem flR_c {f k : Int} (hk : k = 3) : flR st u l f k = if (rk st u (tgR l f) (tx l (f + 157) 100)).1 = -1 then -1 else chl st u (tgR l f) (rk st u (tgR l f) (tx l (f + 157) 100)).1 (rk st u (tgR l f) (tx l (f + 157) 100)).2 (tx l (f + 157) 100 : Nat) := by
  unfold flR
  rw [if_pos hk, tg_len]
  exact lkl_0 _
theorem flR_r {f k : Int} (hk : k = 3) : flR st u l f k = -1 ∨ (1 ≤ flR st u l f k ∧ flR st u l f k < (st.2.2.2.1 u)) := by
  rw [flR_c hk]
  by_cases h : (rk st u (tgR l f) (tx l (f + 157) 100)).1 = -1
  · rw [if_pos h]
    exact Or.inl rfl
  · rw [if_neg h]
    by_cases h2 : chl st u (tgR l f) (rk st u (tgR l f) (tx l (f + 157) 100)).1 (rk st u (tgR l f) (tx l (f + 157) 100)).2 (tx l (f + 157) 100 : Nat) = -1
    · exact Or.inl h2
    · exact Or.inr (chl_lt h2)
theorem flR_wk (hT : TI st u) {f k : Int} (hk : k = 3) (hi : isK st u (flR st u l f k) 1) : isK st u (rk st u (tgR l f) (tx l (f + 157) 100)).1 0 ∧ nmix (tgR l f) (rk st u (tgR l f) (tx l (f + 157) 100)).2 (tx l (f + 157) 100 : Nat) ∧ (tx l (f + 157) 100 : Nat) - (rk st u (tgR l f) (tx l (f + 157) 100)).2 ≤ 100 := by
  have h0 := hi.1
  rw [flR_c hk] at h0
  by_cases h : (rk st u (tgR l f) (tx l (f + 157) 100)).1 = -1
  · rw [if_pos h] at h0
    omega
  · rw [if_neg h] at h0
    have hn : chl st u (tgR l f) (rk st u (tgR l f) (tx l (f + 157) 100)).1 (rk st u (tgR l f) (tx l (f + 157) 100)).2 (tx l (f + 157) 100 : Nat) ≠ -1 := by omega
    exact ⟨chl_dir hT hn, chl_nm hT hn⟩
theorem en_326 {Q : AO → AH → Prop} (s2 : MS) (f n : Int) (hf : 0 ≤ f) (hn : n ≤ 100) (hfn : f + n ≤ 3200) (w3 w4 w5 w6 w7 w8 w9 w12 : AV) (x13 : Int) (kk : ∀ (h : AH) (s : MS) (v14 : Int), WM B m0 h s → (∀ k, k ≠ 15 → s.1 k = s2.1 k) → s.2 = s2.2 → (∀ i : Nat, (i : Int) < n → s.1 15 i = s2.1 13 (f.toNat + i)) → Go d yMd_entry 356 [aR m0, aI (b * 512), aI (30 * (u : Int)), w3, w4, w5, w6, w7, w8, w9, aI f, aI n, w12, aI x13, aI v14, none, none, none, none, none, none] [] h Q) : ∀ (q j : Nat) (h : AH) (s : MS), ((j : Int) ≤ n ∨ n < 0) → (n - j).toNat ≤ q → WM B m0 h s → (∀ k, k ≠ 15 → s.1 k = s2.1 k) → s.2 = s2.2 → (∀ i : Nat, i < j → s.1 15 i = s2.1 13 (f.toNat + i)) → Go d yMd_entry 326 [aR m0, aI (b * 512), aI (30 * (u : Int)), w3, w4, w5, w6, w7, w8, w9, aI f, aI n, w12, aI x13, aI ((j : Int)), none, none, none, none, none, none] [] h Q := by
  intro q
  induction q with
  | zero =>
    intro j h s h1 h2 hW a1 a2 a3
    refine g_iload rfl rfl ?_
    refine g_iload rfl rfl ?_
    refine g_icmpge rfl rfl (fun c1 => ?_) (fun c => absurd c (by omega))
    exact kk _ _ _ hW a1 a2 (fun i hi => a3 i (by omega))
  | succ q ih =>
    intro j h s h1 h2 hW a1 a2 a3
    by_cases hj : (j : Int) < n
    · have er : s.1 13 (f + (j : Int)).toNat = s2.1 13 (f.toNat + j) := by
        rw [a1 13 (by decide), show (f + (j : Int)).toNat = f.toNat + j by omega]
      have h8 : r8 (s2.1 13 (f.toNat + j)) := by
        rw [← a1 13 (by decide)]
        exact hW.by8 (by decide) _
      refine g_iload rfl rfl ?_
      refine g_iload rfl rfl ?_
      refine g_icmpge rfl rfl (fun c => absurd c (by omega)) (fun c1 => ?_)
      refine g_aload_n rfl rfl ?_
      refine g_get (ci := 8) (kk := 20) rfl rfl hW.ob hW.b0 rfl ?_
      refine g_iload rfl rfl ?_
      refine g_aload_n rfl rfl ?_
      refine g_get (ci := 8) (kk := 15) rfl rfl hW.ob hW.b0 rfl ?_
      refine g_iload rfl rfl ?_
      refine g_iload rfl rfl ?_
      refine g_iadd rfl (by omega) ?_
      refine g_bald rfl hW.a13 (by omega) ?_
      rw [show (s.1 13) (f + ((j : Int))).toNat = s2.1 13 (f.toNat + j) from er]
      refine g_bast rfl hW.a15 hW.bk (by omega) ?_
      generalize hg_hh2 : hput h (m0 + 15) (eA 1 100 (va_up (s.1 15) ((j : Int)).toNat (a8 (s2.1 13 (f.toNat + j))))) = hh2
      obtain ⟨s3, hW, q15, o15, p15⟩ := hW.st (k := 15) (i := ((j : Int)).toNat) (v := (a8 (s2.1 13 (f.toNat + j)))) (by omega) (by omega) (fun _ => a8_r _)
      rw [show (eA (mty 15) (mln 15) (va_up (s.1 15) ((j : Int)).toNat (a8 (s2.1 13 (f.toNat + j)))) : AE) = eA 1 100 (va_up (s.1 15) ((j : Int)).toNat (a8 (s2.1 13 (f.toNat + j)))) from rfl, hg_hh2] at hW
      rw [Int.toNat_natCast, a8_of h8] at q15
      refine g_iinc (L' := [aR m0, aI (b * 512), aI (30 * (u : Int)), w3, w4, w5, w6, w7, w8, w9, aI f, aI n, w12, aI x13, aI ((j : Int) + 1), none, none, none, none, none, none]) rfl rfl (by omega) rfl ?_
      refine g_goto rfl rfl ?_
      refine ih (j + 1) _ s3 (by omega) (by omega) hW (fun k hk => (o15 k hk).trans (a1 k hk)) (p15.trans a2) fun i hi => ?_
      rw [q15]
      unfold va_up
      by_cases z : i = j
      · rw [if_pos z, z]
      · rw [if_neg z]
        exact a3 i (by omega)
    · skip
      refine g_iload rfl rfl ?_
      refine g_iload rfl rfl ?_
      refine g_icmpge rfl rfl (fun c1 => ?_) (fun c => absurd c (by omega))
      exact kk _ _ _ hW a1 a2 (fun i hi => a3 i (by omega))
theorem en_225_48 (hd3 : 3 ≤ d) (hu : u < 2) (hT : TI (mst s) u) (hM : MOK s) (hb0 : 0 ≤ b) (hb1 : b * 512 + 512 ≤ s.2 13) {s2 : MS} (hQ : QS s s2) (h26 : s2.2 26 = s.2 26) (hW : WM B m0 h s2) (hwy : wy s2 = (ptR (pg s) (b * 512))) (h16 : s2.2 16 = ((ptR (pg s) (b * 512)).length : Int)) (hpok : pokR (mst s) u (pg s) (b * 512) (kndR (pg s) (b * 512))) (hk : kndR (pg s) (b * 512) = 1) (w3 w6 : AV) (x7 : Int) (kk : tokR (mst s) u (pg s) (b * 512) (kndR (pg s) (b * 512)) → Go d yMd_entry 433 [aR m0, aI (b * 512), aI (30 * (u : Int)), w3, aI 48, aI 0, w6, aI x7, aI 0, aI (drR (mst s) u (ptR (pg s) (b * 512))), aI (slsR (ptR (pg s) (b * 512)) + 1), aI (ntR (ptR (pg s) (b * 512)) - (slsR (ptR (pg s) (b * 512)) + 1)), aI ((((tx (pg s) (b * 512 + 157) 100) : Nat) : Int)), aI (-1), none, none, none, none, none, none, none] [] h (RV (some (aI (ENv (mst s) u (pg s) b))) (fun h2 => ∃ s', WM B m0 h2 s' ∧ EP s s' u b (ENv (mst s) u (pg s) b)))) : Go d yMd_entry 225 [aR m0, aI (b * 512), aI (30 * (u : Int)), w3, aI 48, aI 0, w6, aI x7, aI 0, aI (drR (mst s) u (ptR (pg s) (b * 512))), aI (slsR (ptR (pg s) (b * 512)) + 1), aI (ntR (ptR (pg s) (b * 512)) - (slsR (ptR (pg s) (b * 512)) + 1)), none, none, none, none, none, none, none, none, none] [] h (RV (some (aI (ENv (mst s) u (pg s) b))) (fun h2 => ∃ s', WM B m0 h2 s' ∧ EP s s' u b (ENv (mst s) u (pg s) b))) := by
  have hM2 := hQ.mok hM
  have hm := hM.2.2.2.2
  have e13 : s2.2 13 = s.2 13 := hQ.2 13 (by omega)
  have htx := tx_le (pg s) 100 (b * 512 + 157)
  have htl := tg_len (pg s) (b * 512)
  refine g_aload_n rfl rfl ?_
  refine g_iload_n rfl rfl ?_
  refine g_sipush (n := 157) rfl (by decide) ?_
  refine g_iadd rfl (by omega) ?_
  refine g_bipush (n := 100) rfl (by decide) ?_
  refine g_V (z := yMd_textOf) (e := 1) (A := [aI 100, aI ((b * 512) + 157)]) (rest := []) (v := aI (pk (zrs (pg s) (b * 512 + 157 + tx (pg s) (b * 512 + 157) 100) (b * 512 + 157 + 100)) ((((tx (pg s) (b * 512 + 157) 100) : Nat) : Int)) (-1))) (P := fun h2 => h2 = h) rfl rfl rfl rfl rfl rfl (by omega) hW.ob hW.b0 ((by rw [← hQ.page]; exact m_textOf (by omega) hM2 hW (b * 512 + 157) 100 (by omega) (by omega))) ?_
  intro hh9 he9
  rw [he9]
  clear he9 hh9
  refine g_istore (L' := [aR m0, aI (b * 512), aI (30 * (u : Int)), w3, aI 48, aI 0, w6, aI x7, aI 0, aI (drR (mst s) u (ptR (pg s) (b * 512))), aI (slsR (ptR (pg s) (b * 512)) + 1), aI (ntR (ptR (pg s) (b * 512)) - (slsR (ptR (pg s) (b * 512)) + 1)), aI (pk (zrs (pg s) (b * 512 + 157 + tx (pg s) (b * 512 + 157) 100) (b * 512 + 157 + 100)) ((((tx (pg s) (b * 512 + 157) 100) : Nat) : Int)) (-1)), none, none, none, none, none, none, none, none]) rfl rfl ?_
  refine g_iload rfl rfl ?_
  refine g_iconst (n := -1) rfl (by decide) ?_
  refine g_icmpeq rfl rfl (fun c1 => ?_) (fun c1 => ?_)
  · skip
    have y1 := c1
    refine g_bipush (n := 8) rfl (by decide) ?_
    have hno : ¬ tokR (mst s) u (pg s) (b * 512) (kndR (pg s) (b * 512)) := fun q => by
      first
      | (rw [pk_t q.1] at y1
         omega)
      | (have z := q.2.2.2 (by rw [hk]; decide) (by rw [hk]; decide)
         omega)
    have hv := ENv_8 hpok hno
    exact r_i rfl rfl hv.symm ⟨s2, hW, EP.no hQ h26 (by rw [hv]; decide)⟩
  · skip
    have y1 := c1
    have hz : zrs (pg s) (b * 512 + 157 + tx (pg s) (b * 512 + 157) 100) (b * 512 + 157 + 100) := Classical.byContradiction fun q => y1 (pk_f q)
    clear y1
    rw [pk_t hz]
    refine g_iload rfl rfl ?_
    refine g_ifle rfl rfl (fun c2 => ?_) (fun c2 => ?_)
    · skip
      have y2 := c2
      refine g_iconst (n := 0) rfl (by decide) ?_
      refine g_istore (L' := [aR m0, aI (b * 512), aI (30 * (u : Int)), w3, aI 48, aI 0, w6, aI x7, aI 0, aI (drR (mst s) u (ptR (pg s) (b * 512))), aI (slsR (ptR (pg s) (b * 512)) + 1), aI (ntR (ptR (pg s) (b * 512)) - (slsR (ptR (pg s) (b * 512)) + 1)), aI ((((tx (pg s) (b * 512 + 157) 100) : Nat) : Int)), aI 0, none, none, none, none, none, none, none]) rfl rfl ?_
      refine g_iload rfl rfl ?_
      refine g_iload rfl rfl ?_
      refine g_icmpge rfl rfl (fun c3 => ?_) (fun c => absurd c (by omega))
      refine g_iconst (n := -1) rfl (by decide) ?_
      refine g_istore (L' := [aR m0, aI (b * 512), aI (30 * (u : Int)), w3, aI 48, aI 0, w6, aI x7, aI 0, aI (drR (mst s) u (ptR (pg s) (b * 512))), aI (slsR (ptR (pg s) (b * 512)) + 1), aI (ntR (ptR (pg s) (b * 512)) - (slsR (ptR (pg s) (b * 512)) + 1)), aI ((((tx (pg s) (b * 512 + 157) 100) : Nat) : Int)), aI (-1), none, none, none, none, none, none, none]) rfl rfl ?_
      refine g_iload rfl rfl ?_
      refine g_bipush (n := 49) rfl (by decide) ?_
      refine g_icmpne rfl rfl (fun c => ?_) (fun c => absurd c (by decide))
      exact kk ⟨hz, fun q => absurd (hk.symm.trans q) (by decide), fun q => absurd (hk.symm.trans q) (by decide), fun _ _ => by omega⟩
    · skip
      have y2 := c2
      refine g_iload rfl rfl ?_
      refine g_bipush (n := 48) rfl (by decide) ?_
      refine g_icmpeq rfl rfl (fun c => ?_) (fun c => absurd c (by decide))
      refine g_bipush (n := 8) rfl (by decide) ?_
      have hno : ¬ tokR (mst s) u (pg s) (b * 512) (kndR (pg s) (b * 512)) := fun q => by
        first
        | (rw [pk_t q.1] at y1
           omega)
        | (have z := q.2.2.2 (by rw [hk]; decide) (by rw [hk]; decide)
           omega)
      have hv := ENv_8 hpok hno
      exact r_i rfl rfl hv.symm ⟨s2, hW, EP.no hQ h26 (by rw [hv]; decide)⟩
theorem en_225_53 (hd3 : 3 ≤ d) (hu : u < 2) (hT : TI (mst s) u) (hM : MOK s) (hb0 : 0 ≤ b) (hb1 : b * 512 + 512 ≤ s.2 13) {s2 : MS} (hQ : QS s s2) (h26 : s2.2 26 = s.2 26) (hW : WM B m0 h s2) (hwy : wy s2 = (ptR (pg s) (b * 512))) (h16 : s2.2 16 = ((ptR (pg s) (b * 512)).length : Int)) (hpok : pokR (mst s) u (pg s) (b * 512) (kndR (pg s) (b * 512))) (hk : kndR (pg s) (b * 512) = 0) (w3 w6 : AV) (x7 : Int) (kk : tokR (mst s) u (pg s) (b * 512) (kndR (pg s) (b * 512)) → Go d yMd_entry 433 [aR m0, aI (b * 512), aI (30 * (u : Int)), w3, aI 53, aI 1, w6, aI x7, aI 1, aI (drR (mst s) u (ptR (pg s) (b * 512))), aI (slsR (ptR (pg s) (b * 512)) + 1), aI (ntR (ptR (pg s) (b * 512)) - (slsR (ptR (pg s) (b * 512)) + 1)), aI ((((tx (pg s) (b * 512 + 157) 100) : Nat) : Int)), aI (-1), none, none, none, none, none, none, none] [] h (RV (some (aI (ENv (mst s) u (pg s) b))) (fun h2 => ∃ s', WM B m0 h2 s' ∧ EP s s' u b (ENv (mst s) u (pg s) b)))) : Go d yMd_entry 225 [aR m0, aI (b * 512), aI (30 * (u : Int)), w3, aI 53, aI 1, w6, aI x7, aI 1, aI (drR (mst s) u (ptR (pg s) (b * 512))), aI (slsR (ptR (pg s) (b * 512)) + 1), aI (ntR (ptR (pg s) (b * 512)) - (slsR (ptR (pg s) (b * 512)) + 1)), none, none, none, none, none, none, none, none, none] [] h (RV (some (aI (ENv (mst s) u (pg s) b))) (fun h2 => ∃ s', WM B m0 h2 s' ∧ EP s s' u b (ENv (mst s) u (pg s) b))) := by
  have hM2 := hQ.mok hM
  have hm := hM.2.2.2.2
  have e13 : s2.2 13 = s.2 13 := hQ.2 13 (by omega)
  have htx := tx_le (pg s) 100 (b * 512 + 157)
  have htl := tg_len (pg s) (b * 512)
  refine g_aload_n rfl rfl ?_
  refine g_iload_n rfl rfl ?_
  refine g_sipush (n := 157) rfl (by decide) ?_
  refine g_iadd rfl (by omega) ?_
  refine g_bipush (n := 100) rfl (by decide) ?_
  refine g_V (z := yMd_textOf) (e := 1) (A := [aI 100, aI ((b * 512) + 157)]) (rest := []) (v := aI (pk (zrs (pg s) (b * 512 + 157 + tx (pg s) (b * 512 + 157) 100) (b * 512 + 157 + 100)) ((((tx (pg s) (b * 512 + 157) 100) : Nat) : Int)) (-1))) (P := fun h2 => h2 = h) rfl rfl rfl rfl rfl rfl (by omega) hW.ob hW.b0 ((by rw [← hQ.page]; exact m_textOf (by omega) hM2 hW (b * 512 + 157) 100 (by omega) (by omega))) ?_
  intro hh9 he9
  rw [he9]
  clear he9 hh9
  refine g_istore (L' := [aR m0, aI (b * 512), aI (30 * (u : Int)), w3, aI 53, aI 1, w6, aI x7, aI 1, aI (drR (mst s) u (ptR (pg s) (b * 512))), aI (slsR (ptR (pg s) (b * 512)) + 1), aI (ntR (ptR (pg s) (b * 512)) - (slsR (ptR (pg s) (b * 512)) + 1)), aI (pk (zrs (pg s) (b * 512 + 157 + tx (pg s) (b * 512 + 157) 100) (b * 512 + 157 + 100)) ((((tx (pg s) (b * 512 + 157) 100) : Nat) : Int)) (-1)), none, none, none, none, none, none, none, none]) rfl rfl ?_
  refine g_iload rfl rfl ?_
  refine g_iconst (n := -1) rfl (by decide) ?_
  refine g_icmpeq rfl rfl (fun c1 => ?_) (fun c1 => ?_)
  · skip
    have y1 := c1
    refine g_bipush (n := 8) rfl (by decide) ?_
    have hno : ¬ tokR (mst s) u (pg s) (b * 512) (kndR (pg s) (b * 512)) := fun q => by
      first
      | (rw [pk_t q.1] at y1
         omega)
      | (have z := q.2.2.2 (by rw [hk]; decide) (by rw [hk]; decide)
         omega)
    have hv := ENv_8 hpok hno
    exact r_i rfl rfl hv.symm ⟨s2, hW, EP.no hQ h26 (by rw [hv]; decide)⟩
  · skip
    have y1 := c1
    have hz : zrs (pg s) (b * 512 + 157 + tx (pg s) (b * 512 + 157) 100) (b * 512 + 157 + 100) := Classical.byContradiction fun q => y1 (pk_f q)
    clear y1
    rw [pk_t hz]
    refine g_iload rfl rfl ?_
    refine g_ifle rfl rfl (fun c2 => ?_) (fun c2 => ?_)
    · skip
      have y2 := c2
      refine g_iconst (n := 0) rfl (by decide) ?_
      refine g_istore (L' := [aR m0, aI (b * 512), aI (30 * (u : Int)), w3, aI 53, aI 1, w6, aI x7, aI 1, aI (drR (mst s) u (ptR (pg s) (b * 512))), aI (slsR (ptR (pg s) (b * 512)) + 1), aI (ntR (ptR (pg s) (b * 512)) - (slsR (ptR (pg s) (b * 512)) + 1)), aI ((((tx (pg s) (b * 512 + 157) 100) : Nat) : Int)), aI 0, none, none, none, none, none, none, none]) rfl rfl ?_
      refine g_iload rfl rfl ?_
      refine g_iload rfl rfl ?_
      refine g_icmpge rfl rfl (fun c3 => ?_) (fun c => absurd c (by omega))
      refine g_iconst (n := -1) rfl (by decide) ?_
      refine g_istore (L' := [aR m0, aI (b * 512), aI (30 * (u : Int)), w3, aI 53, aI 1, w6, aI x7, aI 1, aI (drR (mst s) u (ptR (pg s) (b * 512))), aI (slsR (ptR (pg s) (b * 512)) + 1), aI (ntR (ptR (pg s) (b * 512)) - (slsR (ptR (pg s) (b * 512)) + 1)), aI ((((tx (pg s) (b * 512 + 157) 100) : Nat) : Int)), aI (-1), none, none, none, none, none, none, none]) rfl rfl ?_
      refine g_iload rfl rfl ?_
      refine g_bipush (n := 49) rfl (by decide) ?_
      refine g_icmpne rfl rfl (fun c => ?_) (fun c => absurd c (by decide))
      exact kk ⟨hz, fun q => absurd (hk.symm.trans q) (by decide), fun q => absurd (hk.symm.trans q) (by decide), fun _ _ => by omega⟩
    · skip
      have y2 := c2
      refine g_iload rfl rfl ?_
      refine g_bipush (n := 48) rfl (by decide) ?_
      refine g_icmpeq rfl rfl (fun c => absurd c (by decide)) (fun c => ?_)
      refine g_iload rfl rfl ?_
      refine g_ifeq rfl rfl (fun c => absurd c (by decide)) (fun c => ?_)
      refine g_bipush (n := 8) rfl (by decide) ?_
      have hno : ¬ tokR (mst s) u (pg s) (b * 512) (kndR (pg s) (b * 512)) := fun q => by
        first
        | (rw [pk_t q.1] at y1
           omega)
        | (have z := q.2.2.2 (by rw [hk]; decide) (by rw [hk]; decide)
           omega)
      have hv := ENv_8 hpok hno
      exact r_i rfl rfl hv.symm ⟨s2, hW, EP.no hQ h26 (by rw [hv]; decide)⟩
theorem en_267 (hd3 : 3 ≤ d) (hu : u < 2) (hT : TI (mst s) u) (hM : MOK s) (hb0 : 0 ≤ b) (hb1 : b * 512 + 512 ≤ s.2 13) {s2 : MS} (hQ : QS s s2) (h26 : s2.2 26 = s.2 26) (hW : WM B m0 h s2) (hwy : wy s2 = (ptR (pg s) (b * 512))) (h16 : s2.2 16 = ((ptR (pg s) (b * 512)).length : Int)) (hpok : pokR (mst s) u (pg s) (b * 512) (kndR (pg s) (b * 512))) (hk : kndR (pg s) (b * 512) = 2) (hz : zrs (pg s) (b * 512 + 157 + tx (pg s) (b * 512 + 157) 100) (b * 512 + 157 + 100)) (w3 w6 : AV) (x7 : Int) (kk : tokR (mst s) u (pg s) (b * 512) (kndR (pg s) (b * 512)) → Go d yMd_entry 433 [aR m0, aI (b * 512), aI (30 * (u : Int)), w3, aI 50, aI 0, w6, aI x7, aI 0, aI (drR (mst s) u (ptR (pg s) (b * 512))), aI (slsR (ptR (pg s) (b * 512)) + 1), aI (ntR (ptR (pg s) (b * 512)) - (slsR (ptR (pg s) (b * 512)) + 1)), aI ((((tx (pg s) (b * 512 + 157) 100) : Nat) : Int)), aI (-1), none, none, none, none, none, none, none] [] h (RV (some (aI (ENv (mst s) u (pg s) b))) (fun h2 => ∃ s', WM B m0 h2 s' ∧ EP s s' u b (ENv (mst s) u (pg s) b)))) : ∀ (q j : Nat), j + q = (tx (pg s) (b * 512 + 157) 100) → (∀ i : Nat, i < j → 33 ≤ (tgR (pg s) (b * 512)).getD i 0 % 256 ∧ (tgR (pg s) (b * 512)).getD i 0 % 256 ≤ 126) → Go d yMd_entry 267 [aR m0, aI (b * 512), aI (30 * (u : Int)), w3, aI 50, aI 0, w6, aI x7, aI 0, aI (drR (mst s) u (ptR (pg s) (b * 512))), aI (slsR (ptR (pg s) (b * 512)) + 1), aI (ntR (ptR (pg s) (b * 512)) - (slsR (ptR (pg s) (b * 512)) + 1)), aI ((((tx (pg s) (b * 512 + 157) 100) : Nat) : Int)), aI ((j : Int)), none, none, none, none, none, none, none] [] h (RV (some (aI (ENv (mst s) u (pg s) b))) (fun h2 => ∃ s', WM B m0 h2 s' ∧ EP s s' u b (ENv (mst s) u (pg s) b))) := by
  have hM2 := hQ.mok hM
  have hm := hM.2.2.2.2
  have e13 : s2.2 13 = s.2 13 := hQ.2 13 (by omega)
  have htx := tx_le (pg s) 100 (b * 512 + 157)
  have htl := tg_len (pg s) (b * 512)
  intro q
  induction q with
  | zero =>
    intro j hj hg
    refine g_iload rfl rfl ?_
    refine g_iload rfl rfl ?_
    refine g_icmpge rfl rfl (fun c1 => ?_) (fun c => absurd c (by omega))
    refine g_iconst (n := -1) rfl (by decide) ?_
    refine g_istore (L' := [aR m0, aI (b * 512), aI (30 * (u : Int)), w3, aI 50, aI 0, w6, aI x7, aI 0, aI (drR (mst s) u (ptR (pg s) (b * 512))), aI (slsR (ptR (pg s) (b * 512)) + 1), aI (ntR (ptR (pg s) (b * 512)) - (slsR (ptR (pg s) (b * 512)) + 1)), aI ((((tx (pg s) (b * 512 + 157) 100) : Nat) : Int)), aI (-1), none, none, none, none, none, none, none]) rfl rfl ?_
    refine g_iload rfl rfl ?_
    refine g_bipush (n := 49) rfl (by decide) ?_
    refine g_icmpne rfl rfl (fun c => ?_) (fun c => absurd c (by decide))
    exact kk ⟨hz, fun _ i hi => hg i (by omega), fun q => absurd (hk.symm.trans q) (by decide), fun q => absurd hk q⟩
  | succ q ih =>
    intro j hj hg
    have h8 : r8 (s.1 12 (b * 512 + 157 + (j : Int)).toNat) := by
      rw [← hQ.1 12 (by omega) (by omega)]
      exact hW.by8 (by decide) _
    have hgj : (tgR (pg s) (b * 512)).getD j 0 = s.1 12 (b * 512 + 157 + (j : Int)).toNat := by
      show (cps _ _ _).getD j 0 = _
      rw [cps_pg s (by omega) (by omega), oF_get (by omega), show (b * 512 + 157 + (j : Int)).toNat = (b * 512 + 157).toNat + j by omega]
    obtain ⟨h81, h82⟩ := h8
    generalize hx : s.1 12 (b * 512 + 157 + (j : Int)).toNat = x at hgj h81 h82
    refine g_iload rfl rfl ?_
    refine g_iload rfl rfl ?_
    refine g_icmpge rfl rfl (fun c => absurd c (by omega)) (fun c1 => ?_)
    refine g_iload rfl rfl ?_
    refine g_bipush (n := 50) rfl (by decide) ?_
    refine g_icmpne rfl rfl (fun c => absurd c (by decide)) (fun c => ?_)
    refine g_aload_n rfl rfl ?_
    refine g_get (ci := 8) (kk := 12) rfl rfl hW.ob hW.b0 rfl ?_
    refine g_iload_n rfl rfl ?_
    refine g_sipush (n := 157) rfl (by decide) ?_
    refine g_iadd rfl (by omega) ?_
    refine g_iload rfl rfl ?_
    refine g_iadd rfl (by omega) ?_
    refine g_bald rfl hW.a12 (by omega) ?_
    rw [show (s2.1 12) (((b * 512) + 157) + ((j : Int))).toNat = x from by rw [hQ.1 12 (by omega) (by omega)]; exact hx]
    refine g_bipush (n := 33) rfl (by decide) ?_
    refine g_bipush (n := 126) rfl (by decide) ?_
    refine g_S (z := yMd_within) (e := 1) (A := [aI 126, aI 33, aI x]) (rest := []) (v := aI (pz (33 ≤ x ∧ x ≤ 126))) (P := fun h2 => h2 = h) rfl rfl rfl rfl rfl rfl (by omega) (m_within x 33 126) ?_
    intro hh9 he9
    rw [he9]
    clear he9 hh9
    refine g_ifne rfl rfl (fun c3 => ?_) (fun c3 => ?_)
    · skip
      have y3 := c3
      refine g_iinc (L' := [aR m0, aI (b * 512), aI (30 * (u : Int)), w3, aI 50, aI 0, w6, aI x7, aI 0, aI (drR (mst s) u (ptR (pg s) (b * 512))), aI (slsR (ptR (pg s) (b * 512)) + 1), aI (ntR (ptR (pg s) (b * 512)) - (slsR (ptR (pg s) (b * 512)) + 1)), aI ((((tx (pg s) (b * 512 + 157) 100) : Nat) : Int)), aI ((j : Int) + 1), none, none, none, none, none, none, none]) rfl rfl (by omega) rfl ?_
      refine g_goto rfl rfl ?_
      have y4 := pz_ne y3
      refine ih (j + 1) (by omega) fun i hi => ?_
      by_cases z : i = j
      · rw [z, hgj]
        omega
      · exact hg i (by omega)
    · skip
      have y3 := c3
      refine g_bipush (n := 8) rfl (by decide) ?_
      have y4 : ¬ (33 ≤ x ∧ x ≤ 126) := pz_eq (by omega)
      have hno : ¬ tokR (mst s) u (pg s) (b * 512) (kndR (pg s) (b * 512)) := fun q => by
        have z := q.2.1 hk j (by omega)
        rw [hgj] at z
        omega
      have hv := ENv_8 hpok hno
      exact r_i rfl rfl hv.symm ⟨s2, hW, EP.no hQ h26 (by rw [hv]; decide)⟩
theorem en_225_50 (hd3 : 3 ≤ d) (hu : u < 2) (hT : TI (mst s) u) (hM : MOK s) (hb0 : 0 ≤ b) (hb1 : b * 512 + 512 ≤ s.2 13) {s2 : MS} (hQ : QS s s2) (h26 : s2.2 26 = s.2 26) (hW : WM B m0 h s2) (hwy : wy s2 = (ptR (pg s) (b * 512))) (h16 : s2.2 16 = ((ptR (pg s) (b * 512)).length : Int)) (hpok : pokR (mst s) u (pg s) (b * 512) (kndR (pg s) (b * 512))) (hk : kndR (pg s) (b * 512) = 2) (w3 w6 : AV) (x7 : Int) (kk : tokR (mst s) u (pg s) (b * 512) (kndR (pg s) (b * 512)) → Go d yMd_entry 433 [aR m0, aI (b * 512), aI (30 * (u : Int)), w3, aI 50, aI 0, w6, aI x7, aI 0, aI (drR (mst s) u (ptR (pg s) (b * 512))), aI (slsR (ptR (pg s) (b * 512)) + 1), aI (ntR (ptR (pg s) (b * 512)) - (slsR (ptR (pg s) (b * 512)) + 1)), aI ((((tx (pg s) (b * 512 + 157) 100) : Nat) : Int)), aI (-1), none, none, none, none, none, none, none] [] h (RV (some (aI (ENv (mst s) u (pg s) b))) (fun h2 => ∃ s', WM B m0 h2 s' ∧ EP s s' u b (ENv (mst s) u (pg s) b)))) : Go d yMd_entry 225 [aR m0, aI (b * 512), aI (30 * (u : Int)), w3, aI 50, aI 0, w6, aI x7, aI 0, aI (drR (mst s) u (ptR (pg s) (b * 512))), aI (slsR (ptR (pg s) (b * 512)) + 1), aI (ntR (ptR (pg s) (b * 512)) - (slsR (ptR (pg s) (b * 512)) + 1)), none, none, none, none, none, none, none, none, none] [] h (RV (some (aI (ENv (mst s) u (pg s) b))) (fun h2 => ∃ s', WM B m0 h2 s' ∧ EP s s' u b (ENv (mst s) u (pg s) b))) := by
  have hM2 := hQ.mok hM
  have hm := hM.2.2.2.2
  have e13 : s2.2 13 = s.2 13 := hQ.2 13 (by omega)
  have htx := tx_le (pg s) 100 (b * 512 + 157)
  have htl := tg_len (pg s) (b * 512)
  refine g_aload_n rfl rfl ?_
  refine g_iload_n rfl rfl ?_
  refine g_sipush (n := 157) rfl (by decide) ?_
  refine g_iadd rfl (by omega) ?_
  refine g_bipush (n := 100) rfl (by decide) ?_
  refine g_V (z := yMd_textOf) (e := 1) (A := [aI 100, aI ((b * 512) + 157)]) (rest := []) (v := aI (pk (zrs (pg s) (b * 512 + 157 + tx (pg s) (b * 512 + 157) 100) (b * 512 + 157 + 100)) ((((tx (pg s) (b * 512 + 157) 100) : Nat) : Int)) (-1))) (P := fun h2 => h2 = h) rfl rfl rfl rfl rfl rfl (by omega) hW.ob hW.b0 ((by rw [← hQ.page]; exact m_textOf (by omega) hM2 hW (b * 512 + 157) 100 (by omega) (by omega))) ?_
  intro hh9 he9
  rw [he9]
  clear he9 hh9
  refine g_istore (L' := [aR m0, aI (b * 512), aI (30 * (u : Int)), w3, aI 50, aI 0, w6, aI x7, aI 0, aI (drR (mst s) u (ptR (pg s) (b * 512))), aI (slsR (ptR (pg s) (b * 512)) + 1), aI (ntR (ptR (pg s) (b * 512)) - (slsR (ptR (pg s) (b * 512)) + 1)), aI (pk (zrs (pg s) (b * 512 + 157 + tx (pg s) (b * 512 + 157) 100) (b * 512 + 157 + 100)) ((((tx (pg s) (b * 512 + 157) 100) : Nat) : Int)) (-1)), none, none, none, none, none, none, none, none]) rfl rfl ?_
  refine g_iload rfl rfl ?_
  refine g_iconst (n := -1) rfl (by decide) ?_
  refine g_icmpeq rfl rfl (fun c1 => ?_) (fun c1 => ?_)
  · skip
    have y1 := c1
    refine g_bipush (n := 8) rfl (by decide) ?_
    have hno : ¬ tokR (mst s) u (pg s) (b * 512) (kndR (pg s) (b * 512)) := fun q => by
      first
      | (rw [pk_t q.1] at y1
         omega)
      | (have z := q.2.2.2 (by rw [hk]; decide) (by rw [hk]; decide)
         omega)
    have hv := ENv_8 hpok hno
    exact r_i rfl rfl hv.symm ⟨s2, hW, EP.no hQ h26 (by rw [hv]; decide)⟩
  · skip
    have y1 := c1
    have hz : zrs (pg s) (b * 512 + 157 + tx (pg s) (b * 512 + 157) 100) (b * 512 + 157 + 100) := Classical.byContradiction fun q => y1 (pk_f q)
    clear y1
    rw [pk_t hz]
    refine g_iload rfl rfl ?_
    refine g_ifle rfl rfl (fun c2 => ?_) (fun c2 => ?_)
    · skip
      have y2 := c2
      refine g_iconst (n := 0) rfl (by decide) ?_
      refine g_istore (L' := [aR m0, aI (b * 512), aI (30 * (u : Int)), w3, aI 50, aI 0, w6, aI x7, aI 0, aI (drR (mst s) u (ptR (pg s) (b * 512))), aI (slsR (ptR (pg s) (b * 512)) + 1), aI (ntR (ptR (pg s) (b * 512)) - (slsR (ptR (pg s) (b * 512)) + 1)), aI ((((tx (pg s) (b * 512 + 157) 100) : Nat) : Int)), aI 0, none, none, none, none, none, none, none]) rfl rfl ?_
      exact en_267 hd3 hu hT hM hb0 hb1 hQ h26 hW hwy h16 hpok hk hz w3 w6 x7 kk _ 0 (Nat.zero_add _) (fun i hi => absurd hi (Nat.not_lt_zero _))
    · skip
      have y2 := c2
      refine g_iload rfl rfl ?_
      refine g_bipush (n := 48) rfl (by decide) ?_
      refine g_icmpeq rfl rfl (fun c => absurd c (by decide)) (fun c => ?_)
      refine g_iload rfl rfl ?_
      refine g_ifeq rfl rfl (fun c => ?_) (fun c => absurd c (by decide))
      refine g_iconst (n := 0) rfl (by decide) ?_
      refine g_istore (L' := [aR m0, aI (b * 512), aI (30 * (u : Int)), w3, aI 50, aI 0, w6, aI x7, aI 0, aI (drR (mst s) u (ptR (pg s) (b * 512))), aI (slsR (ptR (pg s) (b * 512)) + 1), aI (ntR (ptR (pg s) (b * 512)) - (slsR (ptR (pg s) (b * 512)) + 1)), aI ((((tx (pg s) (b * 512 + 157) 100) : Nat) : Int)), aI 0, none, none, none, none, none, none, none]) rfl rfl ?_
      exact en_267 hd3 hu hT hM hb0 hb1 hQ h26 hW hwy h16 hpok hk hz w3 w6 x7 kk _ 0 (Nat.zero_add _) (fun i hi => absurd hi (Nat.not_lt_zero _))
theorem en_313 (hd3 : 3 ≤ d) (hu : u < 2) (hT : TI (mst s) u) (hM : MOK s) (hb0 : 0 ≤ b) (hb1 : b * 512 + 512 ≤ s.2 13) {s2 : MS} (hQ : QS s s2) (h26 : s2.2 26 = s.2 26) (hW : WM B m0 h s2) (hwy : wy s2 = (ptR (pg s) (b * 512))) (h16 : s2.2 16 = ((ptR (pg s) (b * 512)).length : Int)) (hpok : pokR (mst s) u (pg s) (b * 512) (kndR (pg s) (b * 512))) (hk : kndR (pg s) (b * 512) = 3) (hz : zrs (pg s) (b * 512 + 157 + tx (pg s) (b * 512 + 157) 100) (b * 512 + 157 + 100)) (w3 w6 : AV) (x7 : Int) (kk : ∀ (h : AH) (s' : MS) (v14 : Int), WM B m0 h s' → QS s s' → s'.2 26 = s.2 26 → (∀ j : Nat, (j : Int) < ntR (ptR (pg s) (b * 512)) - (slsR (ptR (pg s) (b * 512)) + 1) → s'.1 15 j = (ptR (pg s) (b * 512)).getD ((slsR (ptR (pg s) (b * 512)) + 1).toNat + j) 0) → tokR (mst s) u (pg s) (b * 512) (kndR (pg s) (b * 512)) → Go d yMd_entry 433 [aR m0, aI (b * 512), aI (30 * (u : Int)), w3, aI 49, aI 0, w6, aI x7, aI 0, aI (drR (mst s) u (ptR (pg s) (b * 512))), aI (slsR (ptR (pg s) (b * 512)) + 1), aI (ntR (ptR (pg s) (b * 512)) - (slsR (ptR (pg s) (b * 512)) + 1)), aI ((((tx (pg s) (b * 512 + 157) 100) : Nat) : Int)), aI (flR (mst s) u (pg s) (b * 512) (kndR (pg s) (b * 512))), aI v14, none, none, none, none, none, none] [] h (RV (some (aI (ENv (mst s) u (pg s) b))) (fun h2 => ∃ s', WM B m0 h2 s' ∧ EP s s' u b (ENv (mst s) u (pg s) b)))) : Go d yMd_entry 313 [aR m0, aI (b * 512), aI (30 * (u : Int)), w3, aI 49, aI 0, w6, aI x7, aI 0, aI (drR (mst s) u (ptR (pg s) (b * 512))), aI (slsR (ptR (pg s) (b * 512)) + 1), aI (ntR (ptR (pg s) (b * 512)) - (slsR (ptR (pg s) (b * 512)) + 1)), aI ((((tx (pg s) (b * 512 + 157) 100) : Nat) : Int)), aI 0, none, none, none, none, none, none, none] [] h (RV (some (aI (ENv (mst s) u (pg s) b))) (fun h2 => ∃ s', WM B m0 h2 s' ∧ EP s s' u b (ENv (mst s) u (pg s) b))) := by
  have hM2 := hQ.mok hM
  have hm := hM.2.2.2.2
  have e13 : s2.2 13 = s.2 13 := hQ.2 13 (by omega)
  have htx := tx_le (pg s) 100 (b * 512 + 157)
  have htl := tg_len (pg s) (b * 512)
  have hpl := ptR_len (pg s) (b * 512)
  have hnt := ntR_c (ptR (pg s) (b * 512))
  have hls := lsl_r (ptR (pg s) (b * 512)) (ntR (ptR (pg s) (b * 512))).toNat
  have hsn : slsR (ptR (pg s) (b * 512)) = lsl (ptR (pg s) (b * 512)) (ntR (ptR (pg s) (b * 512))).toNat := rfl
  have hnn := hpok.2.2.1
  have hn2 := hpok.2.2.2.1
  have hfl := flR_c (st := mst s) (u := u) (l := pg s) (f := b * 512) hk
  have hfr := flR_r (st := mst s) (u := u) (l := pg s) (f := b * 512) hk
  have hC : ((mst s).2.2.2.1 u) = (s.1 9 u).toNat := rfl
  have hcn := hM.2.1 u hu
  have hrr := rk_r (st := mst s) (u := u) (P := (tgR (pg s) (b * 512))) (tx (pg s) (b * 512 + 157) 100)
  have hnn1 := hnn.2.1
  refine g_iconst (n := -1) rfl (by decide) ?_
  refine g_istore (L' := [aR m0, aI (b * 512), aI (30 * (u : Int)), w3, aI 49, aI 0, w6, aI x7, aI 0, aI (drR (mst s) u (ptR (pg s) (b * 512))), aI (slsR (ptR (pg s) (b * 512)) + 1), aI (ntR (ptR (pg s) (b * 512)) - (slsR (ptR (pg s) (b * 512)) + 1)), aI ((((tx (pg s) (b * 512 + 157) 100) : Nat) : Int)), aI (-1), none, none, none, none, none, none, none]) rfl rfl ?_
  refine g_iload rfl rfl ?_
  refine g_bipush (n := 49) rfl (by decide) ?_
  refine g_icmpne rfl rfl (fun c => absurd c (by decide)) (fun c => ?_)
  refine g_iconst (n := 0) rfl (by decide) ?_
  refine g_istore (L' := [aR m0, aI (b * 512), aI (30 * (u : Int)), w3, aI 49, aI 0, w6, aI x7, aI 0, aI (drR (mst s) u (ptR (pg s) (b * 512))), aI (slsR (ptR (pg s) (b * 512)) + 1), aI (ntR (ptR (pg s) (b * 512)) - (slsR (ptR (pg s) (b * 512)) + 1)), aI ((((tx (pg s) (b * 512 + 157) 100) : Nat) : Int)), aI (-1), aI 0, none, none, none, none, none, none]) rfl rfl ?_
  refine en_326 (d := d) (B := B) (m0 := m0) s2 (slsR (ptR (pg s) (b * 512)) + 1) (ntR (ptR (pg s) (b * 512)) - (slsR (ptR (pg s) (b * 512)) + 1)) (by omega) (by omega) (by omega) _ _ _ _ _ _ _ _ _ (fun h s3 v14 hW a1 a2 a3 => ?_) _ 0 _ s2 (by omega) (Nat.le_refl _) hW (fun _ _ => rfl) rfl (fun i hi => absurd hi (Nat.not_lt_zero _))
  have hQ3 : QS s s3 := hQ.tr ⟨fun k _ _ => a1 k (by omega), fun k _ => by rw [a2]⟩
  have h263 : s3.2 26 = s.2 26 := by rw [a2]; exact h26
  have hown : ∀ j : Nat, (j : Int) < ntR (ptR (pg s) (b * 512)) - (slsR (ptR (pg s) (b * 512)) + 1) → s3.1 15 j = (ptR (pg s) (b * 512)).getD ((slsR (ptR (pg s) (b * 512)) + 1).toNat + j) 0 := fun j hj => by
    have z := wy_get s2 (j := (slsR (ptR (pg s) (b * 512)) + 1).toNat + j) (by omega)
    rw [hwy] at z
    rw [a3 j hj, z]
  refine g_aload_n rfl rfl ?_
  refine g_iconst (n := 0) rfl (by decide) ?_
  refine g_put (ci := 8) (kk := 16) (fs' := [aR (m0 + 1), aR (m0 + 2), aR (m0 + 3), aR (m0 + 4), aR (m0 + 5), aR (m0 + 6), aR (m0 + 7), aR (m0 + 8), aR (m0 + 9), aR (m0 + 10), aR (m0 + 11), aI (s3.2 11), aR (m0 + 12), aI (s3.2 13), aI (s3.2 14), aR (m0 + 13), aI 0, aI (s3.2 17), aI (s3.2 18), aR (m0 + 14), aR (m0 + 15), aR (m0 + 16), aR (m0 + 17), aR (m0 + 18), aR (m0 + 19), aR (m0 + 20), aI (s3.2 26)]) rfl rfl hW.ob hW.b0 (Nat.le_of_ble_eq_true rfl) rfl (by decide) rfl ?_
  generalize hg_hh1 : hput h m0 (eO 8 [aR (m0 + 1), aR (m0 + 2), aR (m0 + 3), aR (m0 + 4), aR (m0 + 5), aR (m0 + 6), aR (m0 + 7), aR (m0 + 8), aR (m0 + 9), aR (m0 + 10), aR (m0 + 11), aI (s3.2 11), aR (m0 + 12), aI (s3.2 13), aI (s3.2 14), aR (m0 + 13), aI 0, aI (s3.2 17), aI (s3.2 18), aR (m0 + 14), aR (m0 + 15), aR (m0 + 16), aR (m0 + 17), aR (m0 + 18), aR (m0 + 19), aR (m0 + 20), aI (s3.2 26)]) = hh1
  obtain ⟨s4, hW, qi16, oi16, pi16⟩ : ∃ s9, WM B m0 hh1 s9 ∧ s9.2 16 = 0 ∧ (∀ j, j ≠ 16 → s9.2 j = s3.2 j) ∧ s9.1 = s3.1 := ⟨uI s3 16 0, by rw [← hg_hh1]; exact hW.setI rfl, by simp [uI, va_up], fun j hj => by simp [uI, va_up, hj], rfl⟩
  have hQ4 : QS s s4 := hQ3.tr ⟨fun k _ _ => by rw [pi16], fun k hk => oi16 k (by omega)⟩
  have hwy4 : wy s4 = [] := by
    unfold wy
    rw [qi16]
    rfl
  refine g_aload_n rfl rfl ?_
  refine g_iload_n rfl rfl ?_
  refine g_sipush (n := 157) rfl (by decide) ?_
  refine g_iadd rfl (by omega) ?_
  refine g_iload rfl rfl ?_
  refine g_Vn (z := yMd_copyIn) (e := 1) (A := [aI ((((tx (pg s) (b * 512 + 157) 100) : Nat) : Int)), aI ((b * 512) + 157)]) (rest := [])  rfl rfl rfl rfl rfl rfl (by omega) hW.ob hW.b0 (m_cp hW (b * 512 + 157) (((tx (pg s) (b * 512 + 157) 100) : Nat) : Int) (by omega) (by omega) (by omega) (by omega) (by omega)) ?_
  intro hh2 hq
  obtain ⟨s5, hW, hQ5a, hwy5a, h165a, o13, o16⟩ := hq
  have hQ5 : QS s s5 := hQ4.tr hQ5a
  have e12 : s4.1 12 = s.1 12 := hQ4.1 12 (by omega) (by omega)
  have hwy5 : wy s5 = (tgR (pg s) (b * 512)) := by
    rw [hwy5a, hwy4, Int.toNat_natCast, e12, ← cps_pg s (by omega) (by omega), List.nil_append]
    rfl
  have h165 : s5.2 16 = (((tx (pg s) (b * 512 + 157) 100) : Nat) : Int) := by omega
  have hV5 := hQ5.vq hu hM
  have hM5 := hQ5.mok hM
  have hT5 := hV5.ti hT
  have hqr := hV5.qrk hT.c.1 (tgR (pg s) (b * 512)) (tx (pg s) (b * 512 + 157) 100)
  refine g_aload_n rfl rfl ?_
  refine g_iload_n rfl rfl ?_
  refine g_iconst (n := 0) rfl (by decide) ?_
  have hwv : pk (isK (mst s5) u (rk (mst s5) u (wy s5) (tx (pg s) (b * 512 + 157) 100)).1 0 ∧ nmix (wy s5) (rk (mst s5) u (wy s5) (tx (pg s) (b * 512 + 157) 100)).2 (((tx (pg s) (b * 512 + 157) 100) : Nat) : Int) ∧ (((tx (pg s) (b * 512 + 157) 100) : Nat) : Int) - (rk (mst s5) u (wy s5) (tx (pg s) (b * 512 + 157) 100)).2 ≤ 100) (rk (mst s5) u (wy s5) (tx (pg s) (b * 512 + 157) 100)).1 (-1) = pk (isK (mst s) u (rk (mst s) u (tgR (pg s) (b * 512)) (tx (pg s) (b * 512 + 157) 100)).1 0 ∧ nmix (tgR (pg s) (b * 512)) (rk (mst s) u (tgR (pg s) (b * 512)) (tx (pg s) (b * 512 + 157) 100)).2 (((tx (pg s) (b * 512 + 157) 100) : Nat) : Int) ∧ (((tx (pg s) (b * 512 + 157) 100) : Nat) : Int) - (rk (mst s) u (tgR (pg s) (b * 512)) (tx (pg s) (b * 512 + 157) 100)).2 ≤ 100) (rk (mst s) u (tgR (pg s) (b * 512)) (tx (pg s) (b * 512 + 157) 100)).1 (-1) := by
    rw [hwy5, hqr, propext (hV5.qisK _ _)]
  refine g_V (z := yMd_walk) (e := 1) (A := [aI 0, aI (30 * (u : Int))]) (rest := []) (v := aI (pk (isK (mst s) u (rk (mst s) u (tgR (pg s) (b * 512)) (tx (pg s) (b * 512 + 157) 100)).1 0 ∧ nmix (tgR (pg s) (b * 512)) (rk (mst s) u (tgR (pg s) (b * 512)) (tx (pg s) (b * 512 + 157) 100)).2 (((tx (pg s) (b * 512 + 157) 100) : Nat) : Int) ∧ (((tx (pg s) (b * 512 + 157) 100) : Nat) : Int) - (rk (mst s) u (tgR (pg s) (b * 512)) (tx (pg s) (b * 512 + 157) 100)).2 ≤ 100) (rk (mst s) u (tgR (pg s) (b * 512)) (tx (pg s) (b * 512 + 157) 100)).1 (-1)))  rfl rfl rfl rfl rfl rfl (by omega) hW.ob hW.b0 ((by rw [← hwv]; exact m_walk (by omega) hu hM5 hT5 hW (by omega) 0 (by omega) (tx (pg s) (b * 512 + 157) 100) (by omega))) ?_
  intro hh3 hq
  obtain ⟨s6, hW, r1, r2, r17, r18⟩ := hq
  rw [hwy5, hqr] at r17 r18
  have hQ6 : QS s s6 := hQ5.tr ⟨fun k _ _ => by rw [r1], fun k hk => r2 k (by omega) (by omega)⟩
  have h266 : s6.2 26 = s.2 26 := (r2 26 (by decide) (by decide)).trans ((o16 26 (by decide)).trans ((oi16 26 (by decide)).trans h263))
  have hwy6 : wy s6 = (tgR (pg s) (b * 512)) := by
    rw [← hwy5]
    unfold wy
    rw [r1, r2 16 (by decide) (by decide)]
  have h166 : s6.2 16 = (((tx (pg s) (b * 512 + 157) 100) : Nat) : Int) := (r2 16 (by decide) (by decide)).trans h165
  have hV6 := hQ6.vq hu hM
  have hM6 := hQ6.mok hM
  have hT6 := hV6.ti hT
  have h15 : s6.1 15 = s3.1 15 := by rw [r1, o13 15 (by decide), pi16]
  refine g_istore (L' := [aR m0, aI (b * 512), aI (30 * (u : Int)), w3, aI 49, aI 0, w6, aI x7, aI 0, aI (drR (mst s) u (ptR (pg s) (b * 512))), aI (slsR (ptR (pg s) (b * 512)) + 1), aI (ntR (ptR (pg s) (b * 512)) - (slsR (ptR (pg s) (b * 512)) + 1)), aI ((((tx (pg s) (b * 512 + 157) 100) : Nat) : Int)), aI (-1), aI (pk (isK (mst s) u (rk (mst s) u (tgR (pg s) (b * 512)) (tx (pg s) (b * 512 + 157) 100)).1 0 ∧ nmix (tgR (pg s) (b * 512)) (rk (mst s) u (tgR (pg s) (b * 512)) (tx (pg s) (b * 512 + 157) 100)).2 (((tx (pg s) (b * 512 + 157) 100) : Nat) : Int) ∧ (((tx (pg s) (b * 512 + 157) 100) : Nat) : Int) - (rk (mst s) u (tgR (pg s) (b * 512)) (tx (pg s) (b * 512 + 157) 100)).2 ≤ 100) (rk (mst s) u (tgR (pg s) (b * 512)) (tx (pg s) (b * 512 + 157) 100)).1 (-1)), none, none, none, none, none, none]) rfl rfl ?_
  refine g_iload rfl rfl ?_
  refine g_iconst (n := -1) rfl (by decide) ?_
  refine g_icmpne rfl rfl (fun c4 => ?_) (fun c4 => ?_)
  · skip
    have y3 := c4
    have hc3 : isK (mst s) u (rk (mst s) u (tgR (pg s) (b * 512)) (tx (pg s) (b * 512 + 157) 100)).1 0 ∧ nmix (tgR (pg s) (b * 512)) (rk (mst s) u (tgR (pg s) (b * 512)) (tx (pg s) (b * 512 + 157) 100)).2 (((tx (pg s) (b * 512 + 157) 100) : Nat) : Int) ∧ (((tx (pg s) (b * 512 + 157) 100) : Nat) : Int) - (rk (mst s) u (tgR (pg s) (b * 512)) (tx (pg s) (b * 512 + 157) 100)).2 ≤ 100 := Classical.byContradiction fun q => y3 (pk_f q)
    clear y3
    rw [pk_t hc3]
    have hc30 := hc3.1.1
    refine g_aload_n rfl rfl ?_
    refine g_iload_n rfl rfl ?_
    refine g_iload rfl rfl ?_
    refine g_aload_n rfl rfl ?_
    refine g_get (ci := 8) (kk := 15) rfl rfl hW.ob hW.b0 rfl ?_
    refine g_aload_n rfl rfl ?_
    refine g_get (ci := 8) (kk := 17) rfl rfl hW.ob hW.b0 rfl ?_
    rw [show s6.2 17 = (rk (mst s) u (tgR (pg s) (b * 512)) (tx (pg s) (b * 512 + 157) 100)).2 from r17]
    refine g_aload_n rfl rfl ?_
    refine g_get (ci := 8) (kk := 18) rfl rfl hW.ob hW.b0 rfl ?_
    rw [show s6.2 18 = (((tx (pg s) (b * 512 + 157) 100) : Nat) : Int) - (rk (mst s) u (tgR (pg s) (b * 512)) (tx (pg s) (b * 512 + 157) 100)).2 from r18]
    refine g_V (z := yMd_find) (e := 1) (A := [aI ((((tx (pg s) (b * 512 + 157) 100) : Nat) : Int) - (rk (mst s) u (tgR (pg s) (b * 512)) (tx (pg s) (b * 512 + 157) 100)).2), aI ((rk (mst s) u (tgR (pg s) (b * 512)) (tx (pg s) (b * 512 + 157) 100)).2), aR (m0 + 13), aI ((rk (mst s) u (tgR (pg s) (b * 512)) (tx (pg s) (b * 512 + 157) 100)).1), aI (30 * (u : Int))]) (rest := []) (v := aI (flR (mst s) u (pg s) (b * 512) (kndR (pg s) (b * 512)))) (P := fun h2 => h2 = hh3) rfl rfl rfl rfl rfl rfl (by omega) hW.ob hW.b0 ((by rw [show flR (mst s) u (pg s) (b * 512) (kndR (pg s) (b * 512)) = chl (mst s6) u (wy s6) (rk (mst s) u (tgR (pg s) (b * 512)) (tx (pg s) (b * 512 + 157) 100)).1 (rk (mst s) u (tgR (pg s) (b * 512)) (tx (pg s) (b * 512 + 157) 100)).2 ((rk (mst s) u (tgR (pg s) (b * 512)) (tx (pg s) (b * 512 + 157) 100)).2 + ((((tx (pg s) (b * 512 + 157) 100) : Nat) : Int) - (rk (mst s) u (tgR (pg s) (b * 512)) (tx (pg s) (b * 512 + 157) 100)).2)) from by rw [hfl, if_neg (by omega), hV6.qchl hT.c.1, hwy6, show (rk (mst s) u (tgR (pg s) (b * 512)) (tx (pg s) (b * 512 + 157) 100)).2 + ((((tx (pg s) (b * 512 + 157) 100) : Nat) : Int) - (rk (mst s) u (tgR (pg s) (b * 512)) (tx (pg s) (b * 512 + 157) 100)).2) = (((tx (pg s) (b * 512 + 157) 100) : Nat) : Int) by omega]]; exact m_find (by omega) hM6 hu hT6 hW _ _ _ (by omega) (by omega) (by omega) (by omega))) ?_
    intro hh9 he9
    rw [he9]
    clear he9 hh9
    refine g_istore (L' := [aR m0, aI (b * 512), aI (30 * (u : Int)), w3, aI 49, aI 0, w6, aI x7, aI 0, aI (drR (mst s) u (ptR (pg s) (b * 512))), aI (slsR (ptR (pg s) (b * 512)) + 1), aI (ntR (ptR (pg s) (b * 512)) - (slsR (ptR (pg s) (b * 512)) + 1)), aI ((((tx (pg s) (b * 512 + 157) 100) : Nat) : Int)), aI (flR (mst s) u (pg s) (b * 512) (kndR (pg s) (b * 512))), aI ((rk (mst s) u (tgR (pg s) (b * 512)) (tx (pg s) (b * 512 + 157) 100)).1), none, none, none, none, none, none]) rfl rfl ?_
    refine g_iload rfl rfl ?_
    refine g_iconst (n := -1) rfl (by decide) ?_
    refine g_icmpeq rfl rfl (fun c5 => ?_) (fun c5 => ?_)
    · skip
      have y4 := c5
      refine g_bipush (n := 8) rfl (by decide) ?_
      have hno : ¬ tokR (mst s) u (pg s) (b * 512) (kndR (pg s) (b * 512)) := fun q => by
        have k := q.2.2.1 hk
        first
        | (rw [pk_t (flR_wk hT hk k)] at y3
           have := (flR_wk hT hk k).1.1
           omega)
        | (have := k.1
           omega)
        | (have z : s.1 1 (30 * u + (flR (mst s) u (pg s) (b * 512) (kndR (pg s) (b * 512))).toNat) = 1 := k.2.2
           exact y5 z)
      have hv := ENv_8 hpok hno
      exact r_i rfl rfl hv.symm ⟨s6, hW, EP.no hQ6 h266 (by rw [hv]; decide)⟩
    · skip
      have y4 := c5
      refine g_aload_n rfl rfl ?_
      refine g_get (ci := 8) (kk := 0) rfl rfl hW.ob hW.b0 rfl ?_
      refine g_iload_n rfl rfl ?_
      refine g_iload rfl rfl ?_
      refine g_iadd rfl (by omega) ?_
      refine g_iald rfl hW.a1 (by omega) ?_
      rw [show (s6.1 1) ((30 * (u : Int)) + (flR (mst s) u (pg s) (b * 512) (kndR (pg s) (b * 512)))).toNat = s.1 1 (30 * u + (flR (mst s) u (pg s) (b * 512) (kndR (pg s) (b * 512))).toNat) from by rw [hQ6.1 1 (by omega) (by omega), show (30 * (u : Int) + flR (mst s) u (pg s) (b * 512) (kndR (pg s) (b * 512))).toNat = 30 * u + (flR (mst s) u (pg s) (b * 512) (kndR (pg s) (b * 512))).toNat by omega]]
      refine g_iconst (n := 1) rfl (by decide) ?_
      refine g_icmpeq rfl rfl (fun c6 => ?_) (fun c6 => ?_)
      · skip
        have y5 := c6
        exact kk _ s6 _ hW hQ6 h266 (fun j hj => by rw [h15]; exact hown j hj) ⟨hz, fun q => absurd (hk.symm.trans q) (by decide), fun _ => ⟨by omega, by omega, y5⟩, fun _ q => absurd hk q⟩
      · skip
        have y5 := c6
        refine g_bipush (n := 8) rfl (by decide) ?_
        have hno : ¬ tokR (mst s) u (pg s) (b * 512) (kndR (pg s) (b * 512)) := fun q => by
          have k := q.2.2.1 hk
          first
          | (rw [pk_t (flR_wk hT hk k)] at y3
             have := (flR_wk hT hk k).1.1
             omega)
          | (have := k.1
             omega)
          | (have z : s.1 1 (30 * u + (flR (mst s) u (pg s) (b * 512) (kndR (pg s) (b * 512))).toNat) = 1 := k.2.2
             exact y5 z)
        have hv := ENv_8 hpok hno
        exact r_i rfl rfl hv.symm ⟨s6, hW, EP.no hQ6 h266 (by rw [hv]; decide)⟩
  · skip
    have y3 := c4
    refine g_iconst (n := -1) rfl (by decide) ?_
    refine g_goto rfl rfl ?_
    refine g_istore (L' := [aR m0, aI (b * 512), aI (30 * (u : Int)), w3, aI 49, aI 0, w6, aI x7, aI 0, aI (drR (mst s) u (ptR (pg s) (b * 512))), aI (slsR (ptR (pg s) (b * 512)) + 1), aI (ntR (ptR (pg s) (b * 512)) - (slsR (ptR (pg s) (b * 512)) + 1)), aI ((((tx (pg s) (b * 512 + 157) 100) : Nat) : Int)), aI (-1), aI (pk (isK (mst s) u (rk (mst s) u (tgR (pg s) (b * 512)) (tx (pg s) (b * 512 + 157) 100)).1 0 ∧ nmix (tgR (pg s) (b * 512)) (rk (mst s) u (tgR (pg s) (b * 512)) (tx (pg s) (b * 512 + 157) 100)).2 (((tx (pg s) (b * 512 + 157) 100) : Nat) : Int) ∧ (((tx (pg s) (b * 512 + 157) 100) : Nat) : Int) - (rk (mst s) u (tgR (pg s) (b * 512)) (tx (pg s) (b * 512 + 157) 100)).2 ≤ 100) (rk (mst s) u (tgR (pg s) (b * 512)) (tx (pg s) (b * 512 + 157) 100)).1 (-1)), none, none, none, none, none, none]) rfl rfl ?_
    refine g_iload rfl rfl ?_
    refine g_iconst (n := -1) rfl (by decide) ?_
    refine g_icmpeq rfl rfl (fun c => ?_) (fun c => absurd c (by decide))
    refine g_bipush (n := 8) rfl (by decide) ?_
    have hno : ¬ tokR (mst s) u (pg s) (b * 512) (kndR (pg s) (b * 512)) := fun q => by
      have k := q.2.2.1 hk
      first
      | (rw [pk_t (flR_wk hT hk k)] at y3
         have := (flR_wk hT hk k).1.1
         omega)
      | (have := k.1
         omega)
      | (have z : s.1 1 (30 * u + (flR (mst s) u (pg s) (b * 512) (kndR (pg s) (b * 512))).toNat) = 1 := k.2.2
         exact y5 z)
    have hv := ENv_8 hpok hno
    exact r_i rfl rfl hv.symm ⟨s6, hW, EP.no hQ6 h266 (by rw [hv]; decide)⟩
theorem en_225_49 (hd3 : 3 ≤ d) (hu : u < 2) (hT : TI (mst s) u) (hM : MOK s) (hb0 : 0 ≤ b) (hb1 : b * 512 + 512 ≤ s.2 13) {s2 : MS} (hQ : QS s s2) (h26 : s2.2 26 = s.2 26) (hW : WM B m0 h s2) (hwy : wy s2 = (ptR (pg s) (b * 512))) (h16 : s2.2 16 = ((ptR (pg s) (b * 512)).length : Int)) (hpok : pokR (mst s) u (pg s) (b * 512) (kndR (pg s) (b * 512))) (hk : kndR (pg s) (b * 512) = 3) (w3 w6 : AV) (x7 : Int) (kk : ∀ (h : AH) (s' : MS) (v14 : Int), WM B m0 h s' → QS s s' → s'.2 26 = s.2 26 → (∀ j : Nat, (j : Int) < ntR (ptR (pg s) (b * 512)) - (slsR (ptR (pg s) (b * 512)) + 1) → s'.1 15 j = (ptR (pg s) (b * 512)).getD ((slsR (ptR (pg s) (b * 512)) + 1).toNat + j) 0) → tokR (mst s) u (pg s) (b * 512) (kndR (pg s) (b * 512)) → Go d yMd_entry 433 [aR m0, aI (b * 512), aI (30 * (u : Int)), w3, aI 49, aI 0, w6, aI x7, aI 0, aI (drR (mst s) u (ptR (pg s) (b * 512))), aI (slsR (ptR (pg s) (b * 512)) + 1), aI (ntR (ptR (pg s) (b * 512)) - (slsR (ptR (pg s) (b * 512)) + 1)), aI ((((tx (pg s) (b * 512 + 157) 100) : Nat) : Int)), aI (flR (mst s) u (pg s) (b * 512) (kndR (pg s) (b * 512))), aI v14, none, none, none, none, none, none] [] h (RV (some (aI (ENv (mst s) u (pg s) b))) (fun h2 => ∃ s', WM B m0 h2 s' ∧ EP s s' u b (ENv (mst s) u (pg s) b)))) : Go d yMd_entry 225 [aR m0, aI (b * 512), aI (30 * (u : Int)), w3, aI 49, aI 0, w6, aI x7, aI 0, aI (drR (mst s) u (ptR (pg s) (b * 512))), aI (slsR (ptR (pg s) (b * 512)) + 1), aI (ntR (ptR (pg s) (b * 512)) - (slsR (ptR (pg s) (b * 512)) + 1)), none, none, none, none, none, none, none, none, none] [] h (RV (some (aI (ENv (mst s) u (pg s) b))) (fun h2 => ∃ s', WM B m0 h2 s' ∧ EP s s' u b (ENv (mst s) u (pg s) b))) := by
  have hM2 := hQ.mok hM
  have hm := hM.2.2.2.2
  have e13 : s2.2 13 = s.2 13 := hQ.2 13 (by omega)
  have htx := tx_le (pg s) 100 (b * 512 + 157)
  have htl := tg_len (pg s) (b * 512)
  refine g_aload_n rfl rfl ?_
  refine g_iload_n rfl rfl ?_
  refine g_sipush (n := 157) rfl (by decide) ?_
  refine g_iadd rfl (by omega) ?_
  refine g_bipush (n := 100) rfl (by decide) ?_
  refine g_V (z := yMd_textOf) (e := 1) (A := [aI 100, aI ((b * 512) + 157)]) (rest := []) (v := aI (pk (zrs (pg s) (b * 512 + 157 + tx (pg s) (b * 512 + 157) 100) (b * 512 + 157 + 100)) ((((tx (pg s) (b * 512 + 157) 100) : Nat) : Int)) (-1))) (P := fun h2 => h2 = h) rfl rfl rfl rfl rfl rfl (by omega) hW.ob hW.b0 ((by rw [← hQ.page]; exact m_textOf (by omega) hM2 hW (b * 512 + 157) 100 (by omega) (by omega))) ?_
  intro hh9 he9
  rw [he9]
  clear he9 hh9
  refine g_istore (L' := [aR m0, aI (b * 512), aI (30 * (u : Int)), w3, aI 49, aI 0, w6, aI x7, aI 0, aI (drR (mst s) u (ptR (pg s) (b * 512))), aI (slsR (ptR (pg s) (b * 512)) + 1), aI (ntR (ptR (pg s) (b * 512)) - (slsR (ptR (pg s) (b * 512)) + 1)), aI (pk (zrs (pg s) (b * 512 + 157 + tx (pg s) (b * 512 + 157) 100) (b * 512 + 157 + 100)) ((((tx (pg s) (b * 512 + 157) 100) : Nat) : Int)) (-1)), none, none, none, none, none, none, none, none]) rfl rfl ?_
  refine g_iload rfl rfl ?_
  refine g_iconst (n := -1) rfl (by decide) ?_
  refine g_icmpeq rfl rfl (fun c1 => ?_) (fun c1 => ?_)
  · skip
    have y1 := c1
    refine g_bipush (n := 8) rfl (by decide) ?_
    have hno : ¬ tokR (mst s) u (pg s) (b * 512) (kndR (pg s) (b * 512)) := fun q => by
      first
      | (rw [pk_t q.1] at y1
         omega)
      | (have z := q.2.2.2 (by rw [hk]; decide) (by rw [hk]; decide)
         omega)
    have hv := ENv_8 hpok hno
    exact r_i rfl rfl hv.symm ⟨s2, hW, EP.no hQ h26 (by rw [hv]; decide)⟩
  · skip
    have y1 := c1
    have hz : zrs (pg s) (b * 512 + 157 + tx (pg s) (b * 512 + 157) 100) (b * 512 + 157 + 100) := Classical.byContradiction fun q => y1 (pk_f q)
    clear y1
    rw [pk_t hz]
    refine g_iload rfl rfl ?_
    refine g_ifle rfl rfl (fun c2 => ?_) (fun c2 => ?_)
    · skip
      have y2 := c2
      refine g_iconst (n := 0) rfl (by decide) ?_
      refine g_istore (L' := [aR m0, aI (b * 512), aI (30 * (u : Int)), w3, aI 49, aI 0, w6, aI x7, aI 0, aI (drR (mst s) u (ptR (pg s) (b * 512))), aI (slsR (ptR (pg s) (b * 512)) + 1), aI (ntR (ptR (pg s) (b * 512)) - (slsR (ptR (pg s) (b * 512)) + 1)), aI ((((tx (pg s) (b * 512 + 157) 100) : Nat) : Int)), aI 0, none, none, none, none, none, none, none]) rfl rfl ?_
      refine g_iload rfl rfl ?_
      refine g_iload rfl rfl ?_
      refine g_icmpge rfl rfl (fun c3 => ?_) (fun c3 => ?_)
      · skip
        exact en_313 hd3 hu hT hM hb0 hb1 hQ h26 hW hwy h16 hpok hk hz w3 w6 x7 kk
      · skip
        refine g_iload rfl rfl ?_
        refine g_bipush (n := 50) rfl (by decide) ?_
        refine g_icmpne rfl rfl (fun c => ?_) (fun c => absurd c (by decide))
        exact en_313 hd3 hu hT hM hb0 hb1 hQ h26 hW hwy h16 hpok hk hz w3 w6 x7 kk
    · skip
      have y2 := c2
      refine g_iload rfl rfl ?_
      refine g_bipush (n := 48) rfl (by decide) ?_
      refine g_icmpeq rfl rfl (fun c => absurd c (by decide)) (fun c => ?_)
      refine g_iload rfl rfl ?_
      refine g_ifeq rfl rfl (fun c => ?_) (fun c => absurd c (by decide))
      refine g_iconst (n := 0) rfl (by decide) ?_
      refine g_istore (L' := [aR m0, aI (b * 512), aI (30 * (u : Int)), w3, aI 49, aI 0, w6, aI x7, aI 0, aI (drR (mst s) u (ptR (pg s) (b * 512))), aI (slsR (ptR (pg s) (b * 512)) + 1), aI (ntR (ptR (pg s) (b * 512)) - (slsR (ptR (pg s) (b * 512)) + 1)), aI ((((tx (pg s) (b * 512 + 157) 100) : Nat) : Int)), aI 0, none, none, none, none, none, none, none]) rfl rfl ?_
      refine g_iload rfl rfl ?_
      refine g_iload rfl rfl ?_
      refine g_icmpge rfl rfl (fun c7 => ?_) (fun c7 => ?_)
      · skip
        exact en_313 hd3 hu hT hM hb0 hb1 hQ h26 hW hwy h16 hpok hk hz w3 w6 x7 kk
      · skip
        refine g_iload rfl rfl ?_
        refine g_bipush (n := 50) rfl (by decide) ?_
        refine g_icmpne rfl rfl (fun c => ?_) (fun c => absurd c (by decide))
        exact en_313 hd3 hu hT hM hb0 hb1 hQ h26 hW hwy h16 hpok hk hz w3 w6 x7 kk
theorem en_433 (hd3 : 3 ≤ d) (hu : u < 2) (hM : MOK s) (hb0 : 0 ≤ b) (hb1 : b * 512 + 512 ≤ s.2 13) {s2 : MS} (hQ : QS s s2) (h26 : s2.2 26 = s.2 26) (hW : WM B m0 h s2) (hpok : pokR (mst s) u (pg s) (b * 512) (kndR (pg s) (b * 512))) (htok : tokR (mst s) u (pg s) (b * 512) (kndR (pg s) (b * 512))) (hln : lnR (pg s) b ≠ -1) (w3 w4 w5 w6 w7 w8 w9 w10 w11 w12 w14 : AV) (x13 : Int) (kk : ENv (mst s) u (pg s) b = 0 → s.1 9 u < 30 → lnR (pg s) b ≤ 2000 → b * 512 + 512 + lnR (pg s) b ≤ s.2 13 → Go d yMd_entry 538 [aR m0, aI (b * 512), aI (30 * (u : Int)), w3, w4, w5, w6, w7, w8, w9, w10, w11, w12, aI x13, aL (lnR (pg s) b), none, aI (lnR (pg s) b), aI ((lnR (pg s) b + 512 - 1) / 512), none, none, none] [] h (RV (some (aI (ENv (mst s) u (pg s) b))) (fun h2 => ∃ s', WM B m0 h2 s' ∧ EP s s' u b (ENv (mst s) u (pg s) b)))) : Go d yMd_entry 433 [aR m0, aI (b * 512), aI (30 * (u : Int)), w3, w4, w5, w6, w7, w8, w9, w10, w11, w12, aI x13, w14, none, none, none, none, none, none] [] h (RV (some (aI (ENv (mst s) u (pg s) b))) (fun h2 => ∃ s', WM B m0 h2 s' ∧ EP s s' u b (ENv (mst s) u (pg s) b))) := by
  have hM2 := hQ.mok hM
  have hm := hM.2.2.2.2
  have e13 : s2.2 13 = s.2 13 := hQ.2 13 (by omega)
  have hcn := hM.2.1 u hu
  have hC : ((mst s).2.2.2.1 u) = (s.1 9 u).toNat := rfl
  have hlr : 0 ≤ lnR (pg s) b ∧ lnR (pg s) b < 8 ^ 11 := octv_r hln
  have hpl := pg_len s
  refine g_aload_n rfl rfl ?_
  refine g_iload_n rfl rfl ?_
  refine g_bipush (n := 124) rfl (by decide) ?_
  refine g_iadd rfl (by omega) ?_
  refine g_bipush (n := 11) rfl (by decide) ?_
  refine g_V (z := yMd_number) (e := 1) (A := [aI 11, aI ((b * 512) + 124)]) (rest := []) (v := aL (lnR (pg s) b)) (P := fun h2 => h2 = h) rfl rfl rfl rfl rfl rfl (by omega) hW.ob hW.b0 ((by unfold lnR; rw [← hQ.page]; exact m_number (by omega) hM2 hW (b * 512 + 124) 11 (by omega) (by omega) (by omega))) ?_
  intro hh9 he9
  rw [he9]
  clear he9 hh9
  refine g_lstore (L' := [aR m0, aI (b * 512), aI (30 * (u : Int)), w3, w4, w5, w6, w7, w8, w9, w10, w11, w12, aI x13, aL (lnR (pg s) b), none, none, none, none, none, none]) rfl rfl ?_
  refine g_aload_n rfl rfl ?_
  refine g_get (ci := 8) (kk := 8) rfl rfl hW.ob hW.b0 rfl ?_
  refine g_iload_n rfl rfl ?_
  refine g_bipush (n := 30) rfl (by decide) ?_
  refine g_idiv (v := (u : Int)) rfl (by decide) ((a_div30 (by omega) (by omega)).trans (by omega)) ?_
  refine g_iald rfl hW.a9 (by omega) ?_
  rw [show (s2.1 9) ((u : Int)).toNat = s.1 9 u from by rw [Int.toNat_natCast, hQ.1 9 (by omega) (by omega)]]
  refine g_bipush (n := 30) rfl (by decide) ?_
  refine g_icmpeq rfl rfl (fun c1 => ?_) (fun c1 => ?_)
  · skip
    have y1 := c1
    refine g_bipush (n := 9) rfl (by decide) ?_
    have hv : ENv (mst s) u (pg s) b = 9 := ENv_9 hpok htok (by omega)
    exact r_i rfl rfl hv.symm ⟨s2, hW, EP.no hQ h26 (by rw [hv]; decide)⟩
  · skip
    have y1 := c1
    refine g_lload rfl rfl ?_
    refine g_ldc2 (v := 2000) rfl rfl ?_
    refine g_lcmp rfl ?_
    refine g_ifle rfl rfl (fun c2 => ?_) (fun c2 => ?_)
    · skip
      have c2 := lc_le c2
      have y2 := c2
      refine g_lload rfl rfl ?_
      have hcc : ¬ (30 ≤ ((mst s).2.2.2.1 u) ∨ 2000 < lnR (pg s) b) := by omega
      have hvc := ENv_c hpok htok hcc
      refine g_l2i (v := lnR (pg s) b) rfl (a32_id (by omega) (by omega)) ?_
      refine g_istore (L' := [aR m0, aI (b * 512), aI (30 * (u : Int)), w3, w4, w5, w6, w7, w8, w9, w10, w11, w12, aI x13, aL (lnR (pg s) b), none, aI (lnR (pg s) b), none, none, none, none]) rfl rfl ?_
      refine g_iload rfl rfl ?_
      refine g_sipush (n := 512) rfl (by decide) ?_
      refine g_iadd rfl (by omega) ?_
      refine g_iconst (n := 1) rfl (by decide) ?_
      refine g_isub rfl (by omega) ?_
      refine g_sipush (n := 512) rfl (by decide) ?_
      refine g_idiv (v := (((lnR (pg s) b) + 512) - 1) / 512) rfl (by decide) (a_div512 (by omega) (by omega)) ?_
      refine g_istore (L' := [aR m0, aI (b * 512), aI (30 * (u : Int)), w3, w4, w5, w6, w7, w8, w9, w10, w11, w12, aI x13, aL (lnR (pg s) b), none, aI (lnR (pg s) b), aI ((((lnR (pg s) b) + 512) - 1) / 512), none, none, none]) rfl rfl ?_
      refine g_iload_n rfl rfl ?_
      refine g_sipush (n := 512) rfl (by decide) ?_
      refine g_iconst (n := 1) rfl (by decide) ?_
      refine g_iload rfl rfl ?_
      refine g_iadd rfl (by omega) ?_
      refine g_imul rfl (by omega) ?_
      refine g_iadd rfl (by omega) ?_
      refine g_aload_n rfl rfl ?_
      refine g_get (ci := 8) (kk := 13) rfl rfl hW.ob hW.b0 rfl ?_
      rw [show s2.2 13 = s.2 13 from e13]
      refine g_icmple rfl rfl (fun c3 => ?_) (fun c3 => ?_)
      · skip
        have y3 := c3
        refine g_aload_n rfl rfl ?_
        refine g_iload_n rfl rfl ?_
        refine g_sipush (n := 512) rfl (by decide) ?_
        refine g_iadd rfl (by omega) ?_
        refine g_iload rfl rfl ?_
        refine g_iadd rfl (by omega) ?_
        refine g_iload_n rfl rfl ?_
        refine g_sipush (n := 512) rfl (by decide) ?_
        refine g_iconst (n := 1) rfl (by decide) ?_
        refine g_iload rfl rfl ?_
        refine g_iadd rfl (by omega) ?_
        refine g_imul rfl (by omega) ?_
        refine g_iadd rfl (by omega) ?_
        refine g_V (z := yMd_isZero) (e := 1) (A := [aI ((b * 512) + (512 * (1 + ((((lnR (pg s) b) + 512) - 1) / 512)))), aI (((b * 512) + 512) + (lnR (pg s) b))]) (rest := []) (v := aI (pz (zrs (pg s) (b * 512 + 512 + lnR (pg s) b) (b * 512 + 512 * (1 + (lnR (pg s) b + 512 - 1) / 512))))) (P := fun h2 => h2 = h) rfl rfl rfl rfl rfl rfl (by omega) hW.ob hW.b0 ((by have k := m_isZero (d := d - 1) hM2 hW (b * 512 + 512 + lnR (pg s) b) (b * 512 + 512 * (1 + (lnR (pg s) b + 512 - 1) / 512)) (by omega) (by omega); rw [hQ.page] at k; exact k)) ?_
        intro hh9 he9
        rw [he9]
        clear he9 hh9
        refine g_ifne rfl rfl (fun c4 => ?_) (fun c4 => ?_)
        · skip
          have y4 := c4
          have y5 := pz_ne y4
          refine kk (hvc.trans ((if_neg (by omega)).trans (@if_pos _ (Classical.propDecidable _) ?_ _ _ _))) (by omega) (by omega) (by omega)
          rw [show b * 512 + 512 + (lnR (pg s) b + 511) / 512 * 512 = b * 512 + 512 * (1 + (lnR (pg s) b + 512 - 1) / 512) by omega]
          exact y5
        · skip
          have y4 := c4
          refine g_bipush (n := 11) rfl (by decide) ?_
          have y4 : ¬ pz (zrs (pg s) (b * 512 + 512 + lnR (pg s) b) (b * 512 + 512 * (1 + (lnR (pg s) b + 512 - 1) / 512))) = 1 := by omega
          have hv : ENv (mst s) u (pg s) b = 11 := hvc.trans ((if_neg (by omega)).trans (@if_neg _ (Classical.propDecidable _) (fun q => y4 (pz_t (by rw [show b * 512 + 512 * (1 + (lnR (pg s) b + 512 - 1) / 512) = b * 512 + 512 + (lnR (pg s) b + 511) / 512 * 512 by omega]; exact q))) _ _ _))
          exact r_i rfl rfl hv.symm ⟨s2, hW, EP.no hQ h26 (by rw [hv]; decide)⟩
      · skip
        have y3 := c3
        refine g_bipush (n := 10) rfl (by decide) ?_
        have hv : ENv (mst s) u (pg s) b = 10 := hvc.trans (if_pos (by omega))
        exact r_i rfl rfl hv.symm ⟨s2, hW, EP.no hQ h26 (by rw [hv]; decide)⟩
    · skip
      have c2 := lc_gt c2
      have y2 := c2
      refine g_bipush (n := 9) rfl (by decide) ?_
      have hv : ENv (mst s) u (pg s) b = 9 := ENv_9 hpok htok (by omega)
      exact r_i rfl rfl hv.symm ⟨s2, hW, EP.no hQ h26 (by rw [hv]; decide)⟩
end Md29
