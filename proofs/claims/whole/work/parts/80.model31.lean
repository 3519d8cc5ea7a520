/-! The reference: entry, read. -/
section Md31
variable {B h : AH} {m0 d t u K : Nat} {s s0 s1 s2 s3 s' : MS} {c b : Int} {st ms X : CS} {l : List Int}
theorem en_12_48 (hd3 : 3 ≤ d) (hu : u < 2) (hT : TI (mst s) u) (hM : MOK s) (hb0 : 0 ≤ b) (hb1 : b * 512 + 512 ≤ s.2 13) (hW : WM B m0 h s) (hx : s.1 12 (b * 512 + 156).toNat = 48) (hk : kndR (pg s) (b * 512) = 1) (hnum : numR (pg s) (b * 512)) (x3 : Int) : Go d yMd_entry 12 [aR m0, aI (b * 512), aI (30 * (u : Int)), aI x3, none, none, none, none, none, none, none, none, none, none, none, none, none, none, none, none, none] [] h (RV (some (aI (ENv (mst s) u (pg s) b))) (fun h2 => ∃ s', WM B m0 h2 s' ∧ EP s s' u b (ENv (mst s) u (pg s) b))) := by
  have hm := hM.2.2.2.2
  refine g_aload_n rfl rfl ?_
  refine g_get (ci := 8) (kk := 12) rfl rfl hW.ob hW.b0 rfl ?_
  refine g_iload_n rfl rfl ?_
  refine g_sipush (n := 156) rfl (by decide) ?_
  refine g_iadd rfl (by omega) ?_
  refine g_bald rfl hW.a12 (by omega) ?_
  rw [show (s.1 12) ((b * 512) + 156).toNat = 48 from hx]
  refine g_istore (L' := [aR m0, aI (b * 512), aI (30 * (u : Int)), aI x3, aI 48, none, none, none, none, none, none, none, none, none, none, none, none, none, none, none, none]) rfl rfl ?_
  refine g_iload rfl rfl ?_
  refine g_bipush (n := 53) rfl (by decide) ?_
  refine g_icmpne rfl rfl (fun c => ?_) (fun c => absurd c (by decide))
  refine g_iconst (n := 0) rfl (by decide) ?_
  refine g_istore (L' := [aR m0, aI (b * 512), aI (30 * (u : Int)), aI x3, aI 48, aI 0, none, none, none, none, none, none, none, none, none, none, none, none, none, none, none]) rfl rfl ?_
  refine g_aload_n rfl rfl ?_
  refine g_iload_n rfl rfl ?_
  refine g_sipush (n := 345) rfl (by decide) ?_
  refine g_iadd rfl (by omega) ?_
  refine g_sipush (n := 155) rfl (by decide) ?_
  refine g_V (z := yMd_textOf) (e := 1) (A := [aI 155, aI ((b * 512) + 345)]) (rest := []) (v := aI (pk (zrs (pg s) (b * 512 + 345 + tx (pg s) (b * 512 + 345) 155) (b * 512 + 345 + 155)) (((tx (pg s) (b * 512 + 345) 155 : Nat) : Int)) (-1))) (P := fun h2 => h2 = h) rfl rfl rfl rfl rfl rfl (by omega) hW.ob hW.b0 (m_textOf (by omega) hM hW (b * 512 + 345) 155 (by omega) (by omega)) ?_
  intro hh9 he9
  rw [he9]
  clear he9 hh9
  refine g_istore (L' := [aR m0, aI (b * 512), aI (30 * (u : Int)), aI x3, aI 48, aI 0, aI (pk (zrs (pg s) (b * 512 + 345 + tx (pg s) (b * 512 + 345) 155) (b * 512 + 345 + 155)) (((tx (pg s) (b * 512 + 345) 155 : Nat) : Int)) (-1)), none, none, none, none, none, none, none, none, none, none, none, none, none, none]) rfl rfl ?_
  refine g_aload_n rfl rfl ?_
  refine g_iload_n rfl rfl ?_
  refine g_bipush (n := 100) rfl (by decide) ?_
  refine g_V (z := yMd_textOf) (e := 1) (A := [aI 100, aI (b * 512)]) (rest := []) (v := aI (pk (zrs (pg s) (b * 512 + tx (pg s) (b * 512) 100) (b * 512 + 100)) (((tx (pg s) (b * 512) 100 : Nat) : Int)) (-1))) (P := fun h2 => h2 = h) rfl rfl rfl rfl rfl rfl (by omega) hW.ob hW.b0 (m_textOf (by omega) hM hW (b * 512) 100 (by omega) (by omega)) ?_
  intro hh9 he9
  rw [he9]
  clear he9 hh9
  refine g_istore (L' := [aR m0, aI (b * 512), aI (30 * (u : Int)), aI x3, aI 48, aI 0, aI (pk (zrs (pg s) (b * 512 + 345 + tx (pg s) (b * 512 + 345) 155) (b * 512 + 345 + 155)) (((tx (pg s) (b * 512 + 345) 155 : Nat) : Int)) (-1)), aI (pk (zrs (pg s) (b * 512 + tx (pg s) (b * 512) 100) (b * 512 + 100)) (((tx (pg s) (b * 512) 100 : Nat) : Int)) (-1)), none, none, none, none, none, none, none, none, none, none, none, none, none]) rfl rfl ?_
  refine g_iload rfl rfl ?_
  refine g_iconst (n := -1) rfl (by decide) ?_
  refine g_icmpeq rfl rfl (fun c2 => ?_) (fun c2 => ?_)
  · skip
    have y1 := c2
    refine g_bipush (n := 7) rfl (by decide) ?_
    have hno : ¬ pokR (mst s) u (pg s) (b * 512) (kndR (pg s) (b * 512)) := fun q => by
      first
      | (rw [pk_t q.1.1] at y1
         omega)
      | (rw [pk_t q.1.2] at y2
         omega)
    have hv := ENv_7 hno
    exact r_i rfl rfl hv.symm ⟨s, hW, EP.no (QS.rf s) rfl (by rw [hv]; decide)⟩
  · skip
    have y1 := c2
    have hz1 : zrs (pg s) (b * 512 + 345 + tx (pg s) (b * 512 + 345) 155) (b * 512 + 345 + 155) := Classical.byContradiction fun q => y1 (pk_f q)
    clear y1
    rw [pk_t hz1]
    refine g_iload rfl rfl ?_
    refine g_iconst (n := -1) rfl (by decide) ?_
    refine g_icmpne rfl rfl (fun c3 => ?_) (fun c3 => ?_)
    · skip
      have y2 := c3
      have hz2 : zrs (pg s) (b * 512 + tx (pg s) (b * 512) 100) (b * 512 + 100) := Classical.byContradiction fun q => y2 (pk_f q)
      clear y2
      rw [pk_t hz2]
      exact en_pt hM hb0 hb1 hW _ _ _ (fun h s2 hW hQ h26 hwy h16 => en_125_0 hd3 hu hT hM hb0 hb1 hQ h26 hW hwy h16 ⟨hz1, hz2⟩ (by rw [hk]; decide) _ _ _ _ (fun h s3 hW hQ h26 hwy h16 hpok => en_225_48 hd3 hu hT hM hb0 hb1 hQ h26 hW hwy h16 hpok hk _ _ _ (fun htok => en_433 hd3 hu hM hb0 hb1 hQ h26 hW hpok htok hnum.2.2.2.1 _ _ _ _ _ _ _ _ _ _ _ _ (fun hv0 hc hl2 hl3 => en_538_48 hd3 hu hM hb0 hb1 hQ h26 hW hpok hk hnum hv0 hc hl2 hl3 hwy h16 _ _ _ _)))) (by omega)
    · skip
      have y2 := c3
      refine g_bipush (n := 7) rfl (by decide) ?_
      have hno : ¬ pokR (mst s) u (pg s) (b * 512) (kndR (pg s) (b * 512)) := fun q => by
        first
        | (rw [pk_t q.1.1] at y1
           omega)
        | (rw [pk_t q.1.2] at y2
           omega)
      have hv := ENv_7 hno
      exact r_i rfl rfl hv.symm ⟨s, hW, EP.no (QS.rf s) rfl (by rw [hv]; decide)⟩
theorem en_12_49 (hd3 : 3 ≤ d) (hu : u < 2) (hT : TI (mst s) u) (hM : MOK s) (hb0 : 0 ≤ b) (hb1 : b * 512 + 512 ≤ s.2 13) (hW : WM B m0 h s) (hx : s.1 12 (b * 512 + 156).toNat = 49) (hk : kndR (pg s) (b * 512) = 3) (hnum : numR (pg s) (b * 512)) (x3 : Int) : Go d yMd_entry 12 [aR m0, aI (b * 512), aI (30 * (u : Int)), aI x3, none, none, none, none, none, none, none, none, none, none, none, none, none, none, none, none, none] [] h (RV (some (aI (ENv (mst s) u (pg s) b))) (fun h2 => ∃ s', WM B m0 h2 s' ∧ EP s s' u b (ENv (mst s) u (pg s) b))) := by
  have hm := hM.2.2.2.2
  refine g_aload_n rfl rfl ?_
  refine g_get (ci := 8) (kk := 12) rfl rfl hW.ob hW.b0 rfl ?_
  refine g_iload_n rfl rfl ?_
  refine g_sipush (n := 156) rfl (by decide) ?_
  refine g_iadd rfl (by omega) ?_
  refine g_bald rfl hW.a12 (by omega) ?_
  rw [show (s.1 12) ((b * 512) + 156).toNat = 49 from hx]
  refine g_istore (L' := [aR m0, aI (b * 512), aI (30 * (u : Int)), aI x3, aI 49, none, none, none, none, none, none, none, none, none, none, none, none, none, none, none, none]) rfl rfl ?_
  refine g_iload rfl rfl ?_
  refine g_bipush (n := 53) rfl (by decide) ?_
  refine g_icmpne rfl rfl (fun c => ?_) (fun c => absurd c (by decide))
  refine g_iconst (n := 0) rfl (by decide) ?_
  refine g_istore (L' := [aR m0, aI (b * 512), aI (30 * (u : Int)), aI x3, aI 49, aI 0, none, none, none, none, none, none, none, none, none, none, none, none, none, none, none]) rfl rfl ?_
  refine g_aload_n rfl rfl ?_
  refine g_iload_n rfl rfl ?_
  refine g_sipush (n := 345) rfl (by decide) ?_
  refine g_iadd rfl (by omega) ?_
  refine g_sipush (n := 155) rfl (by decide) ?_
  refine g_V (z := yMd_textOf) (e := 1) (A := [aI 155, aI ((b * 512) + 345)]) (rest := []) (v := aI (pk (zrs (pg s) (b * 512 + 345 + tx (pg s) (b * 512 + 345) 155) (b * 512 + 345 + 155)) (((tx (pg s) (b * 512 + 345) 155 : Nat) : Int)) (-1))) (P := fun h2 => h2 = h) rfl rfl rfl rfl rfl rfl (by omega) hW.ob hW.b0 (m_textOf (by omega) hM hW (b * 512 + 345) 155 (by omega) (by omega)) ?_
  intro hh9 he9
  rw [he9]
  clear he9 hh9
  refine g_istore (L' := [aR m0, aI (b * 512), aI (30 * (u : Int)), aI x3, aI 49, aI 0, aI (pk (zrs (pg s) (b * 512 + 345 + tx (pg s) (b * 512 + 345) 155) (b * 512 + 345 + 155)) (((tx (pg s) (b * 512 + 345) 155 : Nat) : Int)) (-1)), none, none, none, none, none, none, none, none, none, none, none, none, none, none]) rfl rfl ?_
  refine g_aload_n rfl rfl ?_
  refine g_iload_n rfl rfl ?_
  refine g_bipush (n := 100) rfl (by decide) ?_
  refine g_V (z := yMd_textOf) (e := 1) (A := [aI 100, aI (b * 512)]) (rest := []) (v := aI (pk (zrs (pg s) (b * 512 + tx (pg s) (b * 512) 100) (b * 512 + 100)) (((tx (pg s) (b * 512) 100 : Nat) : Int)) (-1))) (P := fun h2 => h2 = h) rfl rfl rfl rfl rfl rfl (by omega) hW.ob hW.b0 (m_textOf (by omega) hM hW (b * 512) 100 (by omega) (by omega)) ?_
  intro hh9 he9
  rw [he9]
  clear he9 hh9
  refine g_istore (L' := [aR m0, aI (b * 512), aI (30 * (u : Int)), aI x3, aI 49, aI 0, aI (pk (zrs (pg s) (b * 512 + 345 + tx (pg s) (b * 512 + 345) 155) (b * 512 + 345 + 155)) (((tx (pg s) (b * 512 + 345) 155 : Nat) : Int)) (-1)), aI (pk (zrs (pg s) (b * 512 + tx (pg s) (b * 512) 100) (b * 512 + 100)) (((tx (pg s) (b * 512) 100 : Nat) : Int)) (-1)), none, none, none, none, none, none, none, none, none, none, none, none, none]) rfl rfl ?_
  refine g_iload rfl rfl ?_
  refine g_iconst (n := -1) rfl (by decide) ?_
  refine g_icmpeq rfl rfl (fun c2 => ?_) (fun c2 => ?_)
  · skip
    have y1 := c2
    refine g_bipush (n := 7) rfl (by decide) ?_
    have hno : ¬ pokR (mst s) u (pg s) (b * 512) (kndR (pg s) (b * 512)) := fun q => by
      first
      | (rw [pk_t q.1.1] at y1
         omega)
      | (rw [pk_t q.1.2] at y2
         omega)
    have hv := ENv_7 hno
    exact r_i rfl rfl hv.symm ⟨s, hW, EP.no (QS.rf s) rfl (by rw [hv]; decide)⟩
  · skip
    have y1 := c2
    have hz1 : zrs (pg s) (b * 512 + 345 + tx (pg s) (b * 512 + 345) 155) (b * 512 + 345 + 155) := Classical.byContradiction fun q => y1 (pk_f q)
    clear y1
    rw [pk_t hz1]
    refine g_iload rfl rfl ?_
    refine g_iconst (n := -1) rfl (by decide) ?_
    refine g_icmpne rfl rfl (fun c3 => ?_) (fun c3 => ?_)
    · skip
      have y2 := c3
      have hz2 : zrs (pg s) (b * 512 + tx (pg s) (b * 512) 100) (b * 512 + 100) := Classical.byContradiction fun q => y2 (pk_f q)
      clear y2
      rw [pk_t hz2]
      exact en_pt hM hb0 hb1 hW _ _ _ (fun h s2 hW hQ h26 hwy h16 => en_125_0 hd3 hu hT hM hb0 hb1 hQ h26 hW hwy h16 ⟨hz1, hz2⟩ (by rw [hk]; decide) _ _ _ _ (fun h s3 hW hQ h26 hwy h16 hpok => en_225_49 hd3 hu hT hM hb0 hb1 hQ h26 hW hwy h16 hpok hk _ _ _ (fun h s4 v14 hW hQ h26 hown htok => en_433 hd3 hu hM hb0 hb1 hQ h26 hW hpok htok hnum.2.2.2.1 _ _ _ _ _ _ _ _ _ _ _ _ (fun hv0 hc hl2 hl3 => en_538_49 hd3 hu hM hb0 hb1 hQ h26 hW hpok hk hnum hv0 hc hl2 hl3 hown _ _ _ _)))) (by omega)
    · skip
      have y2 := c3
      refine g_bipush (n := 7) rfl (by decide) ?_
      have hno : ¬ pokR (mst s) u (pg s) (b * 512) (kndR (pg s) (b * 512)) := fun q => by
        first
        | (rw [pk_t q.1.1] at y1
           omega)
        | (rw [pk_t q.1.2] at y2
           omega)
      have hv := ENv_7 hno
      exact r_i rfl rfl hv.symm ⟨s, hW, EP.no (QS.rf s) rfl (by rw [hv]; decide)⟩
theorem en_12_50 (hd3 : 3 ≤ d) (hu : u < 2) (hT : TI (mst s) u) (hM : MOK s) (hb0 : 0 ≤ b) (hb1 : b * 512 + 512 ≤ s.2 13) (hW : WM B m0 h s) (hx : s.1 12 (b * 512 + 156).toNat = 50) (hk : kndR (pg s) (b * 512) = 2) (hnum : numR (pg s) (b * 512)) (x3 : Int) : Go d yMd_entry 12 [aR m0, aI (b * 512), aI (30 * (u : Int)), aI x3, none, none, none, none, none, none, none, none, none, none, none, none, none, none, none, none, none] [] h (RV (some (aI (ENv (mst s) u (pg s) b))) (fun h2 => ∃ s', WM B m0 h2 s' ∧ EP s s' u b (ENv (mst s) u (pg s) b))) := by
  have hm := hM.2.2.2.2
  refine g_aload_n rfl rfl ?_
  refine g_get (ci := 8) (kk := 12) rfl rfl hW.ob hW.b0 rfl ?_
  refine g_iload_n rfl rfl ?_
  refine g_sipush (n := 156) rfl (by decide) ?_
  refine g_iadd rfl (by omega) ?_
  refine g_bald rfl hW.a12 (by omega) ?_
  rw [show (s.1 12) ((b * 512) + 156).toNat = 50 from hx]
  refine g_istore (L' := [aR m0, aI (b * 512), aI (30 * (u : Int)), aI x3, aI 50, none, none, none, none, none, none, none, none, none, none, none, none, none, none, none, none]) rfl rfl ?_
  refine g_iload rfl rfl ?_
  refine g_bipush (n := 53) rfl (by decide) ?_
  refine g_icmpne rfl rfl (fun c => ?_) (fun c => absurd c (by decide))
  refine g_iconst (n := 0) rfl (by decide) ?_
  refine g_istore (L' := [aR m0, aI (b * 512), aI (30 * (u : Int)), aI x3, aI 50, aI 0, none, none, none, none, none, none, none, none, none, none, none, none, none, none, none]) rfl rfl ?_
  refine g_aload_n rfl rfl ?_
  refine g_iload_n rfl rfl ?_
  refine g_sipush (n := 345) rfl (by decide) ?_
  refine g_iadd rfl (by omega) ?_
  refine g_sipush (n := 155) rfl (by decide) ?_
  refine g_V (z := yMd_textOf) (e := 1) (A := [aI 155, aI ((b * 512) + 345)]) (rest := []) (v := aI (pk (zrs (pg s) (b * 512 + 345 + tx (pg s) (b * 512 + 345) 155) (b * 512 + 345 + 155)) (((tx (pg s) (b * 512 + 345) 155 : Nat) : Int)) (-1))) (P := fun h2 => h2 = h) rfl rfl rfl rfl rfl rfl (by omega) hW.ob hW.b0 (m_textOf (by omega) hM hW (b * 512 + 345) 155 (by omega) (by omega)) ?_
  intro hh9 he9
  rw [he9]
  clear he9 hh9
  refine g_istore (L' := [aR m0, aI (b * 512), aI (30 * (u : Int)), aI x3, aI 50, aI 0, aI (pk (zrs (pg s) (b * 512 + 345 + tx (pg s) (b * 512 + 345) 155) (b * 512 + 345 + 155)) (((tx (pg s) (b * 512 + 345) 155 : Nat) : Int)) (-1)), none, none, none, none, none, none, none, none, none, none, none, none, none, none]) rfl rfl ?_
  refine g_aload_n rfl rfl ?_
  refine g_iload_n rfl rfl ?_
  refine g_bipush (n := 100) rfl (by decide) ?_
  refine g_V (z := yMd_textOf) (e := 1) (A := [aI 100, aI (b * 512)]) (rest := []) (v := aI (pk (zrs (pg s) (b * 512 + tx (pg s) (b * 512) 100) (b * 512 + 100)) (((tx (pg s) (b * 512) 100 : Nat) : Int)) (-1))) (P := fun h2 => h2 = h) rfl rfl rfl rfl rfl rfl (by omega) hW.ob hW.b0 (m_textOf (by omega) hM hW (b * 512) 100 (by omega) (by omega)) ?_
  intro hh9 he9
  rw [he9]
  clear he9 hh9
  refine g_istore (L' := [aR m0, aI (b * 512), aI (30 * (u : Int)), aI x3, aI 50, aI 0, aI (pk (zrs (pg s) (b * 512 + 345 + tx (pg s) (b * 512 + 345) 155) (b * 512 + 345 + 155)) (((tx (pg s) (b * 512 + 345) 155 : Nat) : Int)) (-1)), aI (pk (zrs (pg s) (b * 512 + tx (pg s) (b * 512) 100) (b * 512 + 100)) (((tx (pg s) (b * 512) 100 : Nat) : Int)) (-1)), none, none, none, none, none, none, none, none, none, none, none, none, none]) rfl rfl ?_
  refine g_iload rfl rfl ?_
  refine g_iconst (n := -1) rfl (by decide) ?_
  refine g_icmpeq rfl rfl (fun c2 => ?_) (fun c2 => ?_)
  · skip
    have y1 := c2
    refine g_bipush (n := 7) rfl (by decide) ?_
    have hno : ¬ pokR (mst s) u (pg s) (b * 512) (kndR (pg s) (b * 512)) := fun q => by
      first
      | (rw [pk_t q.1.1] at y1
         omega)
      | (rw [pk_t q.1.2] at y2
         omega)
    have hv := ENv_7 hno
    exact r_i rfl rfl hv.symm ⟨s, hW, EP.no (QS.rf s) rfl (by rw [hv]; decide)⟩
  · skip
    have y1 := c2
    have hz1 : zrs (pg s) (b * 512 + 345 + tx (pg s) (b * 512 + 345) 155) (b * 512 + 345 + 155) := Classical.byContradiction fun q => y1 (pk_f q)
    clear y1
    rw [pk_t hz1]
    refine g_iload rfl rfl ?_
    refine g_iconst (n := -1) rfl (by decide) ?_
    refine g_icmpne rfl rfl (fun c3 => ?_) (fun c3 => ?_)
    · skip
      have y2 := c3
      have hz2 : zrs (pg s) (b * 512 + tx (pg s) (b * 512) 100) (b * 512 + 100) := Classical.byContradiction fun q => y2 (pk_f q)
      clear y2
      rw [pk_t hz2]
      exact en_pt hM hb0 hb1 hW _ _ _ (fun h s2 hW hQ h26 hwy h16 => en_125_0 hd3 hu hT hM hb0 hb1 hQ h26 hW hwy h16 ⟨hz1, hz2⟩ (by rw [hk]; decide) _ _ _ _ (fun h s3 hW hQ h26 hwy h16 hpok => en_225_50 hd3 hu hT hM hb0 hb1 hQ h26 hW hwy h16 hpok hk _ _ _ (fun htok => en_433 hd3 hu hM hb0 hb1 hQ h26 hW hpok htok hnum.2.2.2.1 _ _ _ _ _ _ _ _ _ _ _ _ (fun hv0 hc hl2 hl3 => en_538_50 hd3 hu hM hb0 hb1 hQ h26 hW hpok hk hnum hv0 hc hl2 hl3 hwy h16 _ _ _ _)))) (by omega)
    · skip
      have y2 := c3
      refine g_bipush (n := 7) rfl (by decide) ?_
      have hno : ¬ pokR (mst s) u (pg s) (b * 512) (kndR (pg s) (b * 512)) := fun q => by
        first
        | (rw [pk_t q.1.1] at y1
           omega)
        | (rw [pk_t q.1.2] at y2
           omega)
      have hv := ENv_7 hno
      exact r_i rfl rfl hv.symm ⟨s, hW, EP.no (QS.rf s) rfl (by rw [hv]; decide)⟩
theorem en_12_53 (hd3 : 3 ≤ d) (hu : u < 2) (hT : TI (mst s) u) (hM : MOK s) (hb0 : 0 ≤ b) (hb1 : b * 512 + 512 ≤ s.2 13) (hW : WM B m0 h s) (hx : s.1 12 (b * 512 + 156).toNat = 53) (hk : kndR (pg s) (b * 512) = 0) (hnum : numR (pg s) (b * 512)) (x3 : Int) : Go d yMd_entry 12 [aR m0, aI (b * 512), aI (30 * (u : Int)), aI x3, none, none, none, none, none, none, none, none, none, none, none, none, none, none, none, none, none] [] h (RV (some (aI (ENv (mst s) u (pg s) b))) (fun h2 => ∃ s', WM B m0 h2 s' ∧ EP s s' u b (ENv (mst s) u (pg s) b))) := by
  have hm := hM.2.2.2.2
  refine g_aload_n rfl rfl ?_
  refine g_get (ci := 8) (kk := 12) rfl rfl hW.ob hW.b0 rfl ?_
  refine g_iload_n rfl rfl ?_
  refine g_sipush (n := 156) rfl (by decide) ?_
  refine g_iadd rfl (by omega) ?_
  refine g_bald rfl hW.a12 (by omega) ?_
  rw [show (s.1 12) ((b * 512) + 156).toNat = 53 from hx]
  refine g_istore (L' := [aR m0, aI (b * 512), aI (30 * (u : Int)), aI x3, aI 53, none, none, none, none, none, none, none, none, none, none, none, none, none, none, none, none]) rfl rfl ?_
  refine g_iload rfl rfl ?_
  refine g_bipush (n := 53) rfl (by decide) ?_
  refine g_icmpne rfl rfl (fun c => absurd c (by decide)) (fun c => ?_)
  refine g_iconst (n := 1) rfl (by decide) ?_
  refine g_goto rfl rfl ?_
  refine g_istore (L' := [aR m0, aI (b * 512), aI (30 * (u : Int)), aI x3, aI 53, aI 1, none, none, none, none, none, none, none, none, none, none, none, none, none, none, none]) rfl rfl ?_
  refine g_aload_n rfl rfl ?_
  refine g_iload_n rfl rfl ?_
  refine g_sipush (n := 345) rfl (by decide) ?_
  refine g_iadd rfl (by omega) ?_
  refine g_sipush (n := 155) rfl (by decide) ?_
  refine g_V (z := yMd_textOf) (e := 1) (A := [aI 155, aI ((b * 512) + 345)]) (rest := []) (v := aI (pk (zrs (pg s) (b * 512 + 345 + tx (pg s) (b * 512 + 345) 155) (b * 512 + 345 + 155)) (((tx (pg s) (b * 512 + 345) 155 : Nat) : Int)) (-1))) (P := fun h2 => h2 = h) rfl rfl rfl rfl rfl rfl (by omega) hW.ob hW.b0 (m_textOf (by omega) hM hW (b * 512 + 345) 155 (by omega) (by omega)) ?_
  intro hh9 he9
  rw [he9]
  clear he9 hh9
  refine g_istore (L' := [aR m0, aI (b * 512), aI (30 * (u : Int)), aI x3, aI 53, aI 1, aI (pk (zrs (pg s) (b * 512 + 345 + tx (pg s) (b * 512 + 345) 155) (b * 512 + 345 + 155)) (((tx (pg s) (b * 512 + 345) 155 : Nat) : Int)) (-1)), none, none, none, none, none, none, none, none, none, none, none, none, none, none]) rfl rfl ?_
  refine g_aload_n rfl rfl ?_
  refine g_iload_n rfl rfl ?_
  refine g_bipush (n := 100) rfl (by decide) ?_
  refine g_V (z := yMd_textOf) (e := 1) (A := [aI 100, aI (b * 512)]) (rest := []) (v := aI (pk (zrs (pg s) (b * 512 + tx (pg s) (b * 512) 100) (b * 512 + 100)) (((tx (pg s) (b * 512) 100 : Nat) : Int)) (-1))) (P := fun h2 => h2 = h) rfl rfl rfl rfl rfl rfl (by omega) hW.ob hW.b0 (m_textOf (by omega) hM hW (b * 512) 100 (by omega) (by omega)) ?_
  intro hh9 he9
  rw [he9]
  clear he9 hh9
  refine g_istore (L' := [aR m0, aI (b * 512), aI (30 * (u : Int)), aI x3, aI 53, aI 1, aI (pk (zrs (pg s) (b * 512 + 345 + tx (pg s) (b * 512 + 345) 155) (b * 512 + 345 + 155)) (((tx (pg s) (b * 512 + 345) 155 : Nat) : Int)) (-1)), aI (pk (zrs (pg s) (b * 512 + tx (pg s) (b * 512) 100) (b * 512 + 100)) (((tx (pg s) (b * 512) 100 : Nat) : Int)) (-1)), none, none, none, none, none, none, none, none, none, none, none, none, none]) rfl rfl ?_
  refine g_iload rfl rfl ?_
  refine g_iconst (n := -1) rfl (by decide) ?_
  refine g_icmpeq rfl rfl (fun c2 => ?_) (fun c2 => ?_)
  · skip
    have y1 := c2
    refine g_bipush (n := 7) rfl (by decide) ?_
    have hno : ¬ pokR (mst s) u (pg s) (b * 512) (kndR (pg s) (b * 512)) := fun q => by
      first
      | (rw [pk_t q.1.1] at y1
         omega)
      | (rw [pk_t q.1.2] at y2
         omega)
    have hv := ENv_7 hno
    exact r_i rfl rfl hv.symm ⟨s, hW, EP.no (QS.rf s) rfl (by rw [hv]; decide)⟩
  · skip
    have y1 := c2
    have hz1 : zrs (pg s) (b * 512 + 345 + tx (pg s) (b * 512 + 345) 155) (b * 512 + 345 + 155) := Classical.byContradiction fun q => y1 (pk_f q)
    clear y1
    rw [pk_t hz1]
    refine g_iload rfl rfl ?_
    refine g_iconst (n := -1) rfl (by decide) ?_
    refine g_icmpne rfl rfl (fun c3 => ?_) (fun c3 => ?_)
    · skip
      have y2 := c3
      have hz2 : zrs (pg s) (b * 512 + tx (pg s) (b * 512) 100) (b * 512 + 100) := Classical.byContradiction fun q => y2 (pk_f q)
      clear y2
      rw [pk_t hz2]
      exact en_pt hM hb0 hb1 hW _ _ _ (fun h s2 hW hQ h26 hwy h16 => en_125_1 hd3 hu hT hM hb0 hb1 hQ h26 hW hwy h16 ⟨hz1, hz2⟩ hk _ _ _ _ (fun h s3 hW hQ h26 hwy h16 hpok => en_225_53 hd3 hu hT hM hb0 hb1 hQ h26 hW hwy h16 hpok hk _ _ _ (fun htok => en_433 hd3 hu hM hb0 hb1 hQ h26 hW hpok htok hnum.2.2.2.1 _ _ _ _ _ _ _ _ _ _ _ _ (fun hv0 hc hl2 hl3 => en_538_53 hd3 hu hM hb0 hb1 hQ h26 hW hpok hk hnum hv0 hc hl2 hl3 hwy h16 _ _ _ _)))) (by omega)
    · skip
      have y2 := c3
      refine g_bipush (n := 7) rfl (by decide) ?_
      have hno : ¬ pokR (mst s) u (pg s) (b * 512) (kndR (pg s) (b * 512)) := fun q => by
        first
        | (rw [pk_t q.1.1] at y1
           omega)
        | (rw [pk_t q.1.2] at y2
           omega)
      have hv := ENv_7 hno
      exact r_i rfl rfl hv.symm ⟨s, hW, EP.no (QS.rf s) rfl (by rw [hv]; decide)⟩
theorem m_entry (hd3 : 3 ≤ d) (hu : u < 2) (hT : TI (mst s) u) (hM : MOK s) (hb0 : 0 ≤ b) (hb1 : b * 512 + 512 ≤ s.2 13) (hW : WM B m0 h s) : Cal d yMd_entry [aR m0, aI (b * 512), aI (30 * (u : Int))] h (RV (some (aI (ENt (mst s) u (pg s) b))) (fun h2 => ∃ s', WM B m0 h2 s' ∧ EP s s' u b (ENt (mst s) u (pg s) b))) := by
  show Go _ _ 0 [aR m0, aI (b * 512), aI (30 * (u : Int)), none, none, none, none, none, none, none, none, none, none, none, none, none, none, none, none, none, none] [] _ _
  have hm := hM.2.2.2.2
  rcases FFv_c (pg s) b with ⟨f0, hnum, hkok, hv⟩ | ⟨f0, hv⟩
  · have hv := hv (mst s) u
    rw [hv]
    refine g_aload_n rfl rfl ?_
    refine g_iload_n rfl rfl ?_
    refine g_V (z := yMd_firstFault) (e := 1) (A := [aI (b * 512)]) (rest := []) (v := aI (FFv (pg s) b)) (P := fun h2 => h2 = h) rfl rfl rfl rfl rfl rfl (by omega) hW.ob hW.b0 (m_firstFault hM hW (by omega) b hb0 hb1) ?_
    intro hh9 he9
    rw [he9]
    clear he9 hh9
    refine g_istore_n (L' := [aR m0, aI (b * 512), aI (30 * (u : Int)), aI (FFv (pg s) b), none, none, none, none, none, none, none, none, none, none, none, none, none, none, none, none, none]) rfl rfl ?_
    refine g_iload_n rfl rfl ?_
    refine g_ifle rfl rfl (fun c1 => ?_) (fun c => absurd c (by omega))
    have h8 : r8 (s.1 12 (b * 512 + 156).toNat) := hW.by8 (by decide) _
    have hkn : kndR (pg s) (b * 512) = kndT (s.1 12 (b * 512 + 156).toNat % 256) := by
      unfold kndR
      rw [pg_rat s (by omega) (by omega)]
    rw [kndT8 h8] at hkn
    have hk1 := hkok.1
    by_cases x1 : s.1 12 (b * 512 + 156).toNat = 48
    · rw [if_pos x1] at hkn
      exact en_12_48 hd3 hu hT hM hb0 hb1 hW x1 hkn hnum _
    rw [if_neg x1] at hkn
    by_cases x2 : s.1 12 (b * 512 + 156).toNat = 49
    · rw [if_pos x2] at hkn
      exact en_12_49 hd3 hu hT hM hb0 hb1 hW x2 hkn hnum _
    rw [if_neg x2] at hkn
    by_cases x3 : s.1 12 (b * 512 + 156).toNat = 50
    · rw [if_pos x3] at hkn
      exact en_12_50 hd3 hu hT hM hb0 hb1 hW x3 hkn hnum _
    rw [if_neg x3] at hkn
    by_cases x4 : s.1 12 (b * 512 + 156).toNat = 53
    · rw [if_pos x4] at hkn
      exact en_12_53 hd3 hu hT hM hb0 hb1 hW x4 hkn hnum _
    rw [if_neg x4] at hkn
    exact absurd hkn hk1
  · have hv := hv (mst s) u
    refine g_aload_n rfl rfl ?_
    refine g_iload_n rfl rfl ?_
    refine g_V (z := yMd_firstFault) (e := 1) (A := [aI (b * 512)]) (rest := []) (v := aI (FFv (pg s) b)) (P := fun h2 => h2 = h) rfl rfl rfl rfl rfl rfl (by omega) hW.ob hW.b0 (m_firstFault hM hW (by omega) b hb0 hb1) ?_
    intro hh9 he9
    rw [he9]
    clear he9 hh9
    refine g_istore_n (L' := [aR m0, aI (b * 512), aI (30 * (u : Int)), aI (FFv (pg s) b), none, none, none, none, none, none, none, none, none, none, none, none, none, none, none, none, none]) rfl rfl ?_
    refine g_iload_n rfl rfl ?_
    refine g_ifle rfl rfl (fun c => absurd c (by omega)) (fun c1 => ?_)
    refine g_iload_n rfl rfl ?_
    exact r_i rfl rfl hv.symm ⟨s, hW, EP.no (QS.rf s) rfl (by rw [hv]; omega)⟩
/-- what is always so while the reference reads -/
def RI (s0 s : MS) (t u : Nat) (X : CS) : Prop := VQ X (mst s) u ∧ TI X u ∧ (∀ i j, i < 30 → j < 30 → X.2.2.1 u i = X.2.2.1 u j → i = j) ∧ MOK s ∧ pg s = pg s0 ∧ s.2 26 = 0 ∧ VQ (mst s0) (mst s) t ∧ s.2 11 = 30 * (t : Int) ∧ s.2 14 = -1
def RP (B : AH) (m0 : Nat) (s0 : MS) (t u : Nat) (r : Int × CS × Int) (h2 : AH) : Prop := ∃ s', WM B m0 h2 s' ∧ MOK s' ∧ pg s' = pg s0 ∧ s'.2 26 = 0 ∧ (r.1 < 0 → VQ (mst s0) (mst s') t ∧ s'.2 11 = 30 * (t : Int) ∧ s'.2 14 = r.2.2) ∧ (0 ≤ r.1 → VQ r.2.1 (mst s') u ∧ TI (mst s') u ∧ s'.2 11 = 30 * (u : Int) ∧ s'.2 14 = -1)
theorem trF_d {n : Nat} (h : zbR l b ∧ zbR l (b + 1)) : trF u l (n + 1) X b = (((X.2.2.2.1 u) : Int), X, b) := @if_pos _ (Classical.propDecidable _) h _ _ _
theorem trF_0 {n : Nat} (h : ¬ (zbR l b ∧ zbR l (b + 1))) (h2 : feR X u l b = 0) : trF u l (n + 1) X b = trF u l n (tkE X u l b) (b + (1 + (lnR l b + 511) / 512)) := (@if_neg _ (Classical.propDecidable _) h _ _ _).trans (if_pos h2)
theorem trF_x {n : Nat} (h : ¬ (zbR l b ∧ zbR l (b + 1))) (h2 : feR X u l b ≠ 0) : trF u l (n + 1) X b = (-(feR X u l b), X, b) := (@if_neg _ (Classical.propDecidable _) h _ _ _).trans (if_neg h2)
theorem RI.qs (r : RI s0 s t u X) (ht : t < 2) (hu : u < 2) (q : QS s s1) (h26 : s1.2 26 = s.2 26) : RI s0 s1 t u X := by
  obtain ⟨r1, r2, r3, r4, r5, r6, r7, r8, r9⟩ := r
  exact ⟨r1.tr (q.vq hu r4), r2, r3, q.mok r4, q.page.trans r5, h26.trans r6, r7.tr (q.vq ht r4), (q.2 11 (by omega)).trans r8, (q.2 14 (by omega)).trans r9⟩
theorem RI.en (r : RI s0 s t u X) (ht : t < 2) (hu : u < 2) (hne : t ≠ u) (h8 : rowR8 (pg s0)) (hf : feR X u (pg s0) b = 0) (q : EN s s1 u b) (h26 : s1.2 26 = s.2 26) : RI s0 s1 t u (tkE X u (pg s0) b) := by
  obtain ⟨r1, r2, r3, r4, r5, r6, r7, r8, r9⟩ := r
  obtain ⟨q1, q2, q3, q4, q5, q6⟩ := q
  have hc : (X.2.2.2.1 u) < 30 := (feR_0 hf).2.2.2.2.2.1
  have hcn := r4.2.1 u hu
  have hC : (X.2.2.2.1 u) = (s.1 9 u).toNat := r1.1.symm
  rw [r5, r1.qdrR r2.c.1, r1.qflR r2.c.1] at q5
  refine ⟨(tk_nx r3 hc (pg s0) b).vq q5 r1, tk_ti r2 r3 h8 hf, by rw [tk_inj]; exact r3, q6, (pg_of q3 (q4 13 (by omega))).trans r5, h26.trans r6, r7.tr (q1.other r4 ht (by omega) (by rw [q2]; simp [va_up, hne])), (q4 11 (by omega)).trans r8, (q4 14 (by omega)).trans r9⟩
theorem RI.rp (r : RI s0 s t u X) {f : Int} (hf : 0 < f) (hW : WM B m0 h s') (h14 : s'.2 14 = b) (ho : ∀ j, j ≠ 14 → s'.2 j = s.2 j) (h1 : s'.1 = s.1) (ht : t < 2) : RP B m0 s0 t u (-f, X, b) h := by
  obtain ⟨r1, r2, r3, r4, r5, r6, r7, r8, r9⟩ := r
  have hM' : MOK s' := by
    unfold MOK
    rw [h1, ho 11 (by decide), ho 13 (by decide)]
    exact r4
  refine ⟨s', hW, hM', (pg_of (by rw [h1]) (ho 13 (by decide))).trans r5, (ho 26 (by decide)).trans r6, fun _ => ⟨r7.tr (mst_vq ht r4 fun k _ _ => by rw [h1]), (ho 11 (by decide)).trans r8, h14⟩, fun q => ?_⟩
  have q2 : 0 ≤ -f := q
  omega
theorem RI.ok (r : RI s0 s t u X) (hW : WM B m0 h s') (h11 : s'.2 11 = 30 * (u : Int)) (ho : ∀ j, j ≠ 11 → s'.2 j = s.2 j) (h1 : s'.1 = s.1) (hu : u < 2) : RP B m0 s0 t u (((X.2.2.2.1 u) : Int), X, b) h := by
  obtain ⟨r1, r2, r3, r4, r5, r6, r7, r8, r9⟩ := r
  have hM' : MOK s' := by
    unfold MOK
    rw [h1, h11, ho 13 (by decide)]
    exact ⟨r4.1, r4.2.1, by omega, r4.2.2.2⟩
  have hv := r1.tr (mst_vq hu r4 (s' := s') fun k _ _ => by rw [h1])
  refine ⟨s', hW, hM', (pg_of (by rw [h1]) (ho 13 (by decide))).trans r5, (ho 26 (by decide)).trans r6, fun q => ?_, fun _ => ⟨hv, hv.ti r2, h11, (ho 14 (by decide)).trans r9⟩⟩
  have q2 : ((X.2.2.2.1 u) : Int) < 0 := q
  omega
theorem rd_fail {P : AH → Prop} (hW : WM B m0 h s) (f : Int) (hf : 0 < f) (hf2 : f ≤ 11) (hb0 : 0 ≤ b) (hb1 : b ≤ 20) (w5 : AV) (hP : ∀ (h : AH) (s' : MS), WM B m0 h s' → s'.2 14 = b → (∀ j, j ≠ 14 → s'.2 j = s.2 j) → s'.1 = s.1 → P h) : Go d yMd_read 36 [aR m0, aI (30 * (u : Int)), aI (b * 512), aI f, aI 0, w5] [] h (RV (some (aI (-f))) P) := by
  refine g_iload_n rfl rfl ?_
  refine g_ifne rfl rfl (fun c1 => ?_) (fun c => absurd c (by omega))
  refine g_iload_n rfl rfl ?_
  refine g_ifle rfl rfl (fun c => absurd c (by omega)) (fun c2 => ?_)
  refine g_aload_n rfl rfl ?_
  refine g_iload_n rfl rfl ?_
  refine g_sipush (n := 512) rfl (by decide) ?_
  refine g_idiv (v := b) rfl (by decide) ((a_div512 (by omega) (by omega)).trans (by omega)) ?_
  refine g_put (ci := 8) (kk := 14) (fs' := [aR (m0 + 1), aR (m0 + 2), aR (m0 + 3), aR (m0 + 4), aR (m0 + 5), aR (m0 + 6), aR (m0 + 7), aR (m0 + 8), aR (m0 + 9), aR (m0 + 10), aR (m0 + 11), aI (s.2 11), aR (m0 + 12), aI (s.2 13), aI b, aR (m0 + 13), aI (s.2 16), aI (s.2 17), aI (s.2 18), aR (m0 + 14), aR (m0 + 15), aR (m0 + 16), aR (m0 + 17), aR (m0 + 18), aR (m0 + 19), aR (m0 + 20), aI (s.2 26)]) rfl rfl hW.ob hW.b0 (Nat.le_of_ble_eq_true rfl) rfl (by decide) rfl ?_
  generalize hg_hh3 : hput h m0 (eO 8 [aR (m0 + 1), aR (m0 + 2), aR (m0 + 3), aR (m0 + 4), aR (m0 + 5), aR (m0 + 6), aR (m0 + 7), aR (m0 + 8), aR (m0 + 9), aR (m0 + 10), aR (m0 + 11), aI (s.2 11), aR (m0 + 12), aI (s.2 13), aI b, aR (m0 + 13), aI (s.2 16), aI (s.2 17), aI (s.2 18), aR (m0 + 14), aR (m0 + 15), aR (m0 + 16), aR (m0 + 17), aR (m0 + 18), aR (m0 + 19), aR (m0 + 20), aI (s.2 26)]) = hh3
  obtain ⟨s2, hW, qi14, oi14, pi14⟩ : ∃ s9, WM B m0 hh3 s9 ∧ s9.2 14 = b ∧ (∀ j, j ≠ 14 → s9.2 j = s.2 j) ∧ s9.1 = s.1 := ⟨uI s 14 b, by rw [← hg_hh3]; exact hW.setI rfl, by simp [uI, va_up], fun j hj => by simp [uI, va_up, hj], rfl⟩
  refine g_iload_n rfl rfl ?_
  refine g_ineg rfl (by omega) ?_
  exact r_i rfl rfl rfl (hP _ s2 hW qi14 oi14 pi14)
theorem rd_done {P : AH → Prop} (hd1 : 1 ≤ d) (hu : u < 2) (hM : MOK s) (hW : WM B m0 h s) (w5 : AV) (hP : ∀ (h : AH) (s' : MS), WM B m0 h s' → s'.2 11 = 30 * (u : Int) → (∀ j, j ≠ 11 → s'.2 j = s.2 j) → s'.1 = s.1 → P h) : Go d yMd_read 36 [aR m0, aI (30 * (u : Int)), aI (b * 512), aI 0, aI 1, w5] [] h (RV (some (aI (s.1 9 u))) P) := by
  refine g_iload_n rfl rfl ?_
  refine g_ifne rfl rfl (fun c => absurd c (by decide)) (fun c => ?_)
  refine g_iload rfl rfl ?_
  refine g_ifne rfl rfl (fun c => ?_) (fun c => absurd c (by decide))
  refine g_iload_n rfl rfl ?_
  refine g_ifle rfl rfl (fun c => ?_) (fun c => absurd c (by decide))
  refine g_aload_n rfl rfl ?_
  refine g_iload_n rfl rfl ?_
  refine g_put (ci := 8) (kk := 11) (fs' := [aR (m0 + 1), aR (m0 + 2), aR (m0 + 3), aR (m0 + 4), aR (m0 + 5), aR (m0 + 6), aR (m0 + 7), aR (m0 + 8), aR (m0 + 9), aR (m0 + 10), aR (m0 + 11), aI (30 * (u : Int)), aR (m0 + 12), aI (s.2 13), aI (s.2 14), aR (m0 + 13), aI (s.2 16), aI (s.2 17), aI (s.2 18), aR (m0 + 14), aR (m0 + 15), aR (m0 + 16), aR (m0 + 17), aR (m0 + 18), aR (m0 + 19), aR (m0 + 20), aI (s.2 26)]) rfl rfl hW.ob hW.b0 (Nat.le_of_ble_eq_true rfl) rfl (by decide) rfl ?_
  generalize hg_hh4 : hput h m0 (eO 8 [aR (m0 + 1), aR (m0 + 2), aR (m0 + 3), aR (m0 + 4), aR (m0 + 5), aR (m0 + 6), aR (m0 + 7), aR (m0 + 8), aR (m0 + 9), aR (m0 + 10), aR (m0 + 11), aI (30 * (u : Int)), aR (m0 + 12), aI (s.2 13), aI (s.2 14), aR (m0 + 13), aI (s.2 16), aI (s.2 17), aI (s.2 18), aR (m0 + 14), aR (m0 + 15), aR (m0 + 16), aR (m0 + 17), aR (m0 + 18), aR (m0 + 19), aR (m0 + 20), aI (s.2 26)]) = hh4
  obtain ⟨s2, hW, qi11, oi11, pi11⟩ : ∃ s9, WM B m0 hh4 s9 ∧ s9.2 11 = (30 * (u : Int)) ∧ (∀ j, j ≠ 11 → s9.2 j = s.2 j) ∧ s9.1 = s.1 := ⟨uI s 11 ((30 * (u : Int))), by rw [← hg_hh4]; exact hW.setI rfl, by simp [uI, va_up], fun j hj => by simp [uI, va_up, hj], rfl⟩
  have hM2 : MOK s2 := by
    unfold MOK
    rw [pi11, qi11, oi11 13 (by decide)]
    exact ⟨hM.1, hM.2.1, by omega, hM.2.2.2⟩
  refine g_aload_n rfl rfl ?_
  refine g_V (z := yMd_count) (e := 1) (A := []) (rest := []) (v := aI (s.1 9 u)) (P := fun h2 => h2 = hh4) rfl rfl rfl rfl rfl rfl (by omega) hW.ob hW.b0 ((by rw [← show s2.1 9 (s2.2 11 / 30).toNat = s.1 9 u from by rw [pi11, qi11, show (30 * (u : Int) / 30).toNat = u by omega]]; exact m_count hM2 hW)) ?_
  intro hh9 he9
  rw [he9]
  clear he9 hh9
  exact r_i rfl rfl rfl (hP _ s2 hW qi11 oi11 pi11)
theorem rd_loop (hd4 : 5 ≤ d) (ht : t < 2) (hu : u < 2) (hne : t ≠ u) (h8 : rowR8 (pg s0)) (hlen : (pg s0).length ≤ 10240) : ∀ (n : Nat) (X : CS) (b : Int) (h : AH) (s : MS) (w5 : AV), RI s0 s t u X → WM B m0 h s → 0 ≤ b → b ≤ ((pg s0).length : Int) / 512 → ((pg s0).length : Int) / 512 < b + n → Go d yMd_read 36 [aR m0, aI (30 * (u : Int)), aI (b * 512), aI 0, aI 0, w5] [] h (RV (some (aI (trF u (pg s0) n X b).1)) (RP B m0 s0 t u (trF u (pg s0) n X b))) := by
  intro n
  induction n with
  | zero => intro X b h s w5 hR hW hb0 hb1 hbn; omega
  | succ n ih =>
    intro X b h s w5 hR hW hb0 hb1 hbn
    obtain ⟨r1, r2, r3, hM, r5, r6, r7, r8, r9⟩ := id hR
    have hm := hM.2.2.2
    have hl : ((pg s0).length : Int) = s.2 13 := by
      rw [← r5, pg_len]
      omega
    have hcn := hM.2.1 u hu
    have hT := r1.ti r2
    have hC : (X.2.2.2.1 u) = (s.1 9 u).toNat := r1.1.symm
    have hz1 : zbR (pg s0) b ↔ (b * 512 + 512 ≤ s.2 13 ∧ zrs (pg s0) (b * 512) (b * 512 + 512)) := by
      unfold zbR
      rw [hl]
      exact ⟨fun q => ⟨by omega, q.2⟩, fun q => ⟨by omega, q.2⟩⟩
    have hz2 : zbR (pg s0) (b + 1) ↔ (b * 512 + 1024 ≤ s.2 13 ∧ zrs (pg s0) (b * 512 + 512) (b * 512 + 1024)) := by
      unfold zbR
      rw [hl, show (b + 1) * 512 = b * 512 + 512 by omega, show b * 512 + 512 + 512 = b * 512 + 1024 by omega]
      exact ⟨fun q => ⟨by omega, q.2⟩, fun q => ⟨by omega, q.2⟩⟩
    refine g_iload_n rfl rfl ?_
    refine g_ifne rfl rfl (fun c => absurd c (by decide)) (fun c => ?_)
    refine g_iload rfl rfl ?_
    refine g_ifne rfl rfl (fun c => absurd c (by decide)) (fun c => ?_)
    refine g_iload_n rfl rfl ?_
    refine g_sipush (n := 512) rfl (by decide) ?_
    refine g_iadd rfl (by omega) ?_
    refine g_aload_n rfl rfl ?_
    refine g_get (ci := 8) (kk := 13) rfl rfl hW.ob hW.b0 rfl ?_
    refine g_icmple rfl rfl (fun c3 => ?_) (fun c3 => ?_)
    · skip
      have y1 := c3
      refine g_aload_n rfl rfl ?_
      refine g_iload_n rfl rfl ?_
      refine g_iload_n rfl rfl ?_
      refine g_sipush (n := 512) rfl (by decide) ?_
      refine g_iadd rfl (by omega) ?_
      refine g_V (z := yMd_isZero) (e := 1) (A := [aI ((b * 512) + 512), aI (b * 512)]) (rest := []) (v := aI (pz (zrs (pg s0) (b * 512) (b * 512 + 512)))) (P := fun h2 => h2 = h) rfl rfl rfl rfl rfl rfl (by omega) hW.ob hW.b0 ((by have k := m_isZero (d := d - 1) hM hW (b * 512) (b * 512 + 512) (by omega) (by omega); rw [r5] at k; exact k)) ?_
      intro hh9 he9
      rw [he9]
      clear he9 hh9
      refine g_ifeq rfl rfl (fun c4 => ?_) (fun c4 => ?_)
      · skip
        have y2 := c4
        refine g_aload_n rfl rfl ?_
        refine g_iload_n rfl rfl ?_
        refine g_iload_n rfl rfl ?_
        have y2b := pz_eq y2
        have hno : ¬ (zbR (pg s0) b ∧ zbR (pg s0) (b + 1)) := fun q => y2b (hz1.mp q.1).2
        have hfe : feR X u (pg s0) b = ENt (mst s) u (pg s) b := by
          rw [feR_t (by omega) (fun q => y2b (hz1.mp q).2), r1.qENt r2.c.1, r5]
        refine g_V (z := yMd_entry) (e := 2) (A := [aI (30 * (u : Int)), aI (b * 512)]) (rest := []) (v := aI (feR X u (pg s0) b))  rfl rfl rfl rfl rfl rfl (by omega) hW.ob hW.b0 ((by rw [hfe]; exact m_entry (by omega) hu hT hM hb0 (by omega) hW)) ?_
        intro hh5 hq
        obtain ⟨s1, hW, hE⟩ := hq
        rw [← hfe] at hE
        refine g_istore_n (L' := [aR m0, aI (30 * (u : Int)), aI (b * 512), aI (feR X u (pg s0) b), aI 0, w5]) rfl rfl ?_
        refine g_iload_n rfl rfl ?_
        refine g_ifne rfl rfl (fun c6 => ?_) (fun c6 => ?_)
        · skip
          have y5 := c6
          have hfr := feR_r (st := X) (t := u) (pg s0) b
          have hR1 := hR.qs ht hu (hE.2.1 y5) hE.1
          rw [trF_x hno y5]
          exact rd_fail hW (feR X u (pg s0) b) (by omega) (by omega) hb0 (by omega) _ (fun h s9 hW q14 qo q1 => hR1.rp (by omega) hW q14 qo q1 ht)
        · skip
          have y5 := c6
          have y5b : feR X u (pg s0) b = 0 := by omega
          have hEN := hE.2.2 y5b
          have hR1 := hR.en ht hu hne h8 y5b hEN hE.1
          have hM1 := hR1.2.2.2.1
          have h9 : s1.1 9 u = s.1 9 u + 1 := by rw [hEN.2.1]; simp [va_up]
          obtain ⟨f1, f2, f3, f4, f5, f6, f7, f8⟩ := feR_0 y5b
          obtain ⟨K, hK⟩ : ∃ K : Nat, K = 30 * u + (s.1 9 u).toNat := ⟨_, rfl⟩
          have hKi : 30 * (u : Int) + (s.1 9 u + 1) - 1 = (K : Int) := by omega
          have hln : 0 ≤ lnR (pg s0) b := (octv_r f2.2.2.2.1).1
          have hblk : (if s1.1 1 K = 1 then (s1.1 7 K + 511) / 512 else 0) = (lnR (pg s0) b + 511) / 512 := by
            obtain ⟨n1, n2, n3, n4, n5⟩ := hEN.2.2.2.2.1
            have m1 : s1.1 1 K = kndR (pg s0) (b * 512) := by
              rw [← r5, ← n3.1, hK]
              rfl
            have m7 : (bdM s1 K).length = (s1.1 7 K).toNat := oF_len _ _
            have hbk : bdM s1 K = if kndR (pg s0) (b * 512) = 1 ∨ kndR (pg s0) (b * 512) = 2 then bdR (pg s0) b else [] := by
              rw [← r5, ← n5]
              rw [show ((mst s1).1 (2 * (mst s1).2.2.1 u (((mst s).2.2.2.1 u)) + 1)) = bdM s1 (30 * u + ((mst s).2.2.2.1 u)) from mst_bd s1 hu (by show (s.1 9 u).toNat < 30; omega), hK]
              rfl
            have hk7 := hM1.1 K (by omega)
            by_cases kk : kndR (pg s0) (b * 512) = 1
            · rw [m1, if_pos kk]
              rw [hbk, if_pos (Or.inl kk)] at m7
              unfold bdR at m7
              rw [if_neg (by omega), cps_len] at m7
              rw [show s1.1 7 K = lnR (pg s0) b by omega]
            · rw [m1, if_neg kk]
              have := f3.2
              omega
          rw [y5b]
          refine g_iload_n rfl rfl ?_
          refine g_aload_n rfl rfl ?_
          refine g_get (ci := 8) (kk := 8) rfl rfl hW.ob hW.b0 rfl ?_
          refine g_iload_n rfl rfl ?_
          refine g_bipush (n := 30) rfl (by decide) ?_
          refine g_idiv (v := (u : Int)) rfl (by decide) ((a_div30 (by omega) (by omega)).trans (by omega)) ?_
          refine g_iald rfl hW.a9 (by omega) ?_
          rw [show (s1.1 9) ((u : Int)).toNat = s.1 9 u + 1 from by rw [Int.toNat_natCast]; exact h9]
          refine g_iadd rfl (by omega) ?_
          refine g_iconst (n := 1) rfl (by decide) ?_
          refine g_isub rfl (by omega) ?_
          refine g_istore (L' := [aR m0, aI (30 * (u : Int)), aI (b * 512), aI 0, aI 0, aI (((30 * (u : Int)) + (s.1 9 u + 1)) - 1)]) rfl rfl ?_
          rw [hKi]
          refine g_iload_n rfl rfl ?_
          refine g_sipush (n := 512) rfl (by decide) ?_
          refine g_iconst (n := 1) rfl (by decide) ?_
          refine g_aload_n rfl rfl ?_
          refine g_iload rfl rfl ?_
          refine g_V (z := yMd_blocksOf) (e := 1) (A := [aI ((K : Int))]) (rest := [aI 1, aI 512, aI (b * 512)]) (v := aI ((lnR (pg s0) b + 511) / 512)) (P := fun h2 => h2 = hh5) rfl rfl rfl rfl rfl rfl (by omega) hW.ob hW.b0 ((by rw [← hblk]; exact m_blocksOf hM1 hW K (by omega))) ?_
          intro hh9 he9
          rw [he9]
          clear he9 hh9
          refine g_iadd rfl (by omega) ?_
          refine g_imul rfl (by omega) ?_
          refine g_iadd rfl (by omega) ?_
          refine g_istore_n (L' := [aR m0, aI (30 * (u : Int)), aI ((b * 512) + (512 * (1 + ((lnR (pg s0) b + 511) / 512)))), aI 0, aI 0, aI ((K : Int))]) rfl rfl ?_
          refine g_goto rfl rfl ?_
          rw [trF_0 hno y5b, show b * 512 + 512 * (1 + (lnR (pg s0) b + 511) / 512) = (b + (1 + (lnR (pg s0) b + 511) / 512)) * 512 by omega]
          exact ih _ _ _ s1 _ hR1 hW (by omega) (by omega) (by omega)
      · skip
        have y2 := c4
        refine g_iload_n rfl rfl ?_
        refine g_sipush (n := 1024) rfl (by decide) ?_
        refine g_iadd rfl (by omega) ?_
        refine g_aload_n rfl rfl ?_
        refine g_get (ci := 8) (kk := 13) rfl rfl hW.ob hW.b0 rfl ?_
        refine g_icmpgt rfl rfl (fun c7 => ?_) (fun c7 => ?_)
        · skip
          have y3 := c7
          refine g_iconst (n := 0) rfl (by decide) ?_
          refine g_istore (L' := [aR m0, aI (30 * (u : Int)), aI (b * 512), aI 0, aI 0, w5]) rfl rfl ?_
          refine g_iload rfl rfl ?_
          refine g_ifeq rfl rfl (fun c => ?_) (fun c => absurd c (by decide))
          refine g_iconst (n := 2) rfl (by decide) ?_
          refine g_istore_n (L' := [aR m0, aI (30 * (u : Int)), aI (b * 512), aI 2, aI 0, w5]) rfl rfl ?_
          refine g_goto rfl rfl ?_
          have y2b := pz_ne y2
          have hno : ¬ (zbR (pg s0) b ∧ zbR (pg s0) (b + 1)) := fun q => by
            have q2 := hz2.mp q.2
            first
            | omega
            | (rw [pz_t q2.2] at y4
               omega)
          have hfe : feR X u (pg s0) b = 2 := feR_2 (by omega) (hz1.mpr ⟨by omega, y2b⟩)
          rw [trF_x hno (by rw [hfe]; decide), hfe]
          exact rd_fail hW 2 (by decide) (by decide) hb0 (by omega) _ (fun h s9 hW q14 qo q1 => hR.rp (by decide) hW q14 qo q1 ht)
        · skip
          have y3 := c7
          refine g_aload_n rfl rfl ?_
          refine g_iload_n rfl rfl ?_
          refine g_sipush (n := 512) rfl (by decide) ?_
          refine g_iadd rfl (by omega) ?_
          refine g_iload_n rfl rfl ?_
          refine g_sipush (n := 1024) rfl (by decide) ?_
          refine g_iadd rfl (by omega) ?_
          refine g_V (z := yMd_isZero) (e := 1) (A := [aI ((b * 512) + 1024), aI ((b * 512) + 512)]) (rest := []) (v := aI (pz (zrs (pg s0) (b * 512 + 512) (b * 512 + 1024)))) (P := fun h2 => h2 = h) rfl rfl rfl rfl rfl rfl (by omega) hW.ob hW.b0 ((by have k := m_isZero (d := d - 1) hM hW (b * 512 + 512) (b * 512 + 1024) (by omega) (by omega); rw [r5] at k; exact k)) ?_
          intro hh9 he9
          rw [he9]
          clear he9 hh9
          refine g_ifeq rfl rfl (fun c9 => ?_) (fun c9 => ?_)
          · skip
            have y4 := c9
            refine g_iconst (n := 0) rfl (by decide) ?_
            refine g_istore (L' := [aR m0, aI (30 * (u : Int)), aI (b * 512), aI 0, aI 0, w5]) rfl rfl ?_
            refine g_iload rfl rfl ?_
            refine g_ifeq rfl rfl (fun c => ?_) (fun c => absurd c (by decide))
            refine g_iconst (n := 2) rfl (by decide) ?_
            refine g_istore_n (L' := [aR m0, aI (30 * (u : Int)), aI (b * 512), aI 2, aI 0, w5]) rfl rfl ?_
            refine g_goto rfl rfl ?_
            have y2b := pz_ne y2
            have hno : ¬ (zbR (pg s0) b ∧ zbR (pg s0) (b + 1)) := fun q => by
              have q2 := hz2.mp q.2
              first
              | omega
              | (rw [pz_t q2.2] at y4
                 omega)
            have hfe : feR X u (pg s0) b = 2 := feR_2 (by omega) (hz1.mpr ⟨by omega, y2b⟩)
            rw [trF_x hno (by rw [hfe]; decide), hfe]
            exact rd_fail hW 2 (by decide) (by decide) hb0 (by omega) _ (fun h s9 hW q14 qo q1 => hR.rp (by decide) hW q14 qo q1 ht)
          · skip
            have y4 := c9
            refine g_iconst (n := 1) rfl (by decide) ?_
            refine g_goto rfl rfl ?_
            refine g_istore (L' := [aR m0, aI (30 * (u : Int)), aI (b * 512), aI 0, aI 1, w5]) rfl rfl ?_
            refine g_iload rfl rfl ?_
            refine g_ifeq rfl rfl (fun c => absurd c (by decide)) (fun c => ?_)
            refine g_iconst (n := 0) rfl (by decide) ?_
            refine g_goto rfl rfl ?_
            refine g_istore_n (L' := [aR m0, aI (30 * (u : Int)), aI (b * 512), aI 0, aI 1, w5]) rfl rfl ?_
            refine g_goto rfl rfl ?_
            have y2b := pz_ne y2
            have y4b := pz_ne y4
            rw [trF_d ⟨hz1.mpr ⟨by omega, y2b⟩, hz2.mpr ⟨by omega, y4b⟩⟩, show (((X.2.2.2.1 u) : Int), X, b).1 = s.1 9 u from by show ((X.2.2.2.1 u) : Int) = s.1 9 u; omega]
            exact rd_done (by omega) hu hM hW _ (fun h s9 hW q11 qo q1 => hR.ok hW q11 qo q1 hu)
    · skip
      have y1 := c3
      refine g_iconst (n := 1) rfl (by decide) ?_
      refine g_istore_n (L' := [aR m0, aI (30 * (u : Int)), aI (b * 512), aI 1, aI 0, w5]) rfl rfl ?_
      refine g_goto rfl rfl ?_
      have hfe : feR X u (pg s0) b = 1 := feR_1 (by omega)
      rw [trF_x (fun q => by have := (hz1.mp q.1).1; omega) (by rw [hfe]; decide), hfe]
      exact rd_fail hW 1 (by decide) (by decide) hb0 (by omega) _ (fun h s9 hW q14 qo q1 => hR.rp (by decide) hW q14 qo q1 ht)
theorem ONE.of (a : ONE st u) (e : VQ st ms u) : ONE ms u := by
  obtain ⟨hC, k0, k1, k2, k3, k4, k5, hn, hb⟩ := a
  obtain ⟨e1, e2, e3⟩ := e.2 0 (by omega)
  exact ⟨e.1.trans hC, (e1 0 (by omega)).trans k0, (e1 1 (by omega)).trans k1, (e1 2 (by omega)).trans k2, (e1 3 (by omega)).trans k3, (e1 4 (by omega)).trans k4, (e1 5 (by omega)).trans k5, e2.trans hn, e3.trans hb⟩
theorem CL.one (hu : u < 2) (h : CL s s' u) : ONE (mst s') u := by
  obtain ⟨c1, c2, c3, c4, k1, k2, k3, k4, k5, k6, k7, k8⟩ := h
  have e9 : ((mst s').2.2.2.1 u) = 1 := by
    show (s'.1 9 u).toNat = 1
    rw [c2]
    simp [va_up]
  exact ⟨e9, k1, k2, k8, k4, k5, k6, by rw [mst_nm s' hu (by omega)]; unfold nmM; rw [show 30 * u + 0 = 30 * u from rfl, k3]; rfl, by rw [mst_bd s' hu (by omega)]; unfold bdM; rw [show 30 * u + 0 = 30 * u from rfl, k7]; rfl⟩
theorem rd_18 (hd4 : 5 ≤ d) (ht : t < 2) (hu : u < 2) (hne : t ≠ u) (hM : MOK s0) (hb : s0.2 11 = 30 * (t : Int)) (hW : WM B m0 h s1) (h1 : s1.1 = s0.1) (ho : ∀ j, j ≠ 26 → s1.2 j = s0.2 j) (h26 : s1.2 26 = 0) (hinj : ∀ i j, i < 30 → j < 30 → st.2.2.1 u i = st.2.2.1 u j → i = j) (h121 : st.1 121 = pg s0) : Go d yMd_read 18 [aR m0, none, none, none, none, none] [aI (30 * (u : Int))] h (RV (some (aI (trT st u).1)) (RP B m0 s0 t u (trT st u))) := by
  have hcn := hM.2.1 u hu
  refine g_istore_n (L' := [aR m0, aI (30 * (u : Int)), none, none, none, none]) rfl rfl ?_
  refine g_aload_n rfl rfl ?_
  refine g_iload_n rfl rfl ?_
  refine g_Vn (z := yMd_clear) (e := 1) (A := [aI (30 * (u : Int))]) (rest := [])  rfl rfl rfl rfl rfl rfl (by omega) hW.ob hW.b0 (m_clear hu hW) ?_
  intro hh1 hq
  obtain ⟨s2, hW, hC⟩ := hq
  have hON := CL.one hu hC
  obtain ⟨c1, c2, c3, c4, k1, k2, k3, k4, k5, k6, k7, k8⟩ := hC
  refine g_iconst (n := 0) rfl (by decide) ?_
  refine g_istore_n (L' := [aR m0, aI (30 * (u : Int)), aI 0, none, none, none]) rfl rfl ?_
  refine g_iconst (n := 0) rfl (by decide) ?_
  refine g_istore_n (L' := [aR m0, aI (30 * (u : Int)), aI 0, aI 0, none, none]) rfl rfl ?_
  refine g_iconst (n := 0) rfl (by decide) ?_
  refine g_istore (L' := [aR m0, aI (30 * (u : Int)), aI 0, aI 0, aI 0, none]) rfl rfl ?_
  refine g_aload_n rfl rfl ?_
  refine g_iconst (n := -1) rfl (by decide) ?_
  refine g_put (ci := 8) (kk := 14) (fs' := [aR (m0 + 1), aR (m0 + 2), aR (m0 + 3), aR (m0 + 4), aR (m0 + 5), aR (m0 + 6), aR (m0 + 7), aR (m0 + 8), aR (m0 + 9), aR (m0 + 10), aR (m0 + 11), aI (s2.2 11), aR (m0 + 12), aI (s2.2 13), aI (-1), aR (m0 + 13), aI (s2.2 16), aI (s2.2 17), aI (s2.2 18), aR (m0 + 14), aR (m0 + 15), aR (m0 + 16), aR (m0 + 17), aR (m0 + 18), aR (m0 + 19), aR (m0 + 20), aI (s2.2 26)]) rfl rfl hW.ob hW.b0 (Nat.le_of_ble_eq_true rfl) rfl (by decide) rfl ?_
  generalize hg_hh2 : hput hh1 m0 (eO 8 [aR (m0 + 1), aR (m0 + 2), aR (m0 + 3), aR (m0 + 4), aR (m0 + 5), aR (m0 + 6), aR (m0 + 7), aR (m0 + 8), aR (m0 + 9), aR (m0 + 10), aR (m0 + 11), aI (s2.2 11), aR (m0 + 12), aI (s2.2 13), aI (-1), aR (m0 + 13), aI (s2.2 16), aI (s2.2 17), aI (s2.2 18), aR (m0 + 14), aR (m0 + 15), aR (m0 + 16), aR (m0 + 17), aR (m0 + 18), aR (m0 + 19), aR (m0 + 20), aI (s2.2 26)]) = hh2
  obtain ⟨s3, hW, qi14, oi14, pi14⟩ : ∃ s9, WM B m0 hh2 s9 ∧ s9.2 14 = (-1) ∧ (∀ j, j ≠ 14 → s9.2 j = s2.2 j) ∧ s9.1 = s2.1 := ⟨uI s2 14 ((-1)), by rw [← hg_hh2]; exact hW.setI rfl, by simp [uI, va_up], fun j hj => by simp [uI, va_up, hj], rfl⟩
  have hM1 : MOK s1 := by
    unfold MOK
    rw [h1, ho 11 (by decide), ho 13 (by decide)]
    exact hM
  have hM2 : MOK s2 := hM1.fr c1 (by rw [k3, k7]; omega) (fun v hv => by rw [c2]; have hcv := hM1.2.1 v hv; simp only [va_up]; split <;> omega) (fun k _ => by rw [c4])
  have hM3 : MOK s3 := by
    unfold MOK
    rw [pi14, oi14 11 (by decide), oi14 13 (by decide)]
    exact hM2
  have hON3 : ONE (mst s3) u := by
    have e := mst_vq (s := s2) (s' := s3) hu hM2 fun k _ _ => by rw [pi14]
    exact hON.of e
  have hp3 : pg s3 = pg s0 := pg_of (by rw [pi14, c3 12 (by omega), h1]) (by rw [oi14 13 (by decide), c4, ho 13 (by decide)])
  have hv0 : VQ (mst s0) (mst s3) t := ((mst_vq ht hM fun k _ _ => by rw [h1]).tr (c1.other hM1 ht (by omega) (by rw [c2]; simp [va_up, hne]))).tr (mst_vq ht hM2 fun k _ _ => by rw [pi14])
  have h8 : rowR8 (pg s0) := by
    rw [← hp3]
    exact r8_oF fun j _ => hW.by8 (by decide) _
  have hlen : (pg s0).length ≤ 10240 := by
    have := hM.2.2.2.2
    rw [pg_len]
    omega
  have hR : RI s0 s3 t u (clrS st u) := ⟨(clrS_one st u).vq hON3, (clrS_one st u).ti, hinj, hM3, hp3, by rw [oi14 26 (by decide), c4, h26], hv0, by rw [oi14 11 (by decide), c4, ho 11 (by decide)]; exact hb, qi14⟩
  have hTT : trT st u = trF u (pg s0) 21 (clrS st u) 0 := by
    unfold trT
    rw [h121]
  rw [hTT]
  have hgo := rd_loop (B := B) (m0 := m0) (d := d) hd4 ht hu hne h8 hlen 21 (clrS st u) 0 _ s3 none hR hW (by omega) (by omega) (by omega)
  exact hgo
theorem m_read (hd4 : 5 ≤ d) (ht : t < 2) (hb : s.2 11 = 30 * (t : Int)) (hM : MOK s) (hW : WM B m0 h s) (hinj : ∀ i j, i < 30 → j < 30 → st.2.2.1 (1 - t) i = st.2.2.1 (1 - t) j → i = j) (h121 : st.1 121 = pg s) : Cal d yMd_read [aR m0] h (RV (some (aI (trT st (1 - t)).1)) (RP B m0 s t (1 - t) (trT st (1 - t)))) := by
  show Go _ _ 0 [aR m0, none, none, none, none, none] [] _ _
  obtain ⟨u, hu⟩ : ∃ u, u = 1 - t := ⟨_, rfl⟩
  rw [← hu] at hinj ⊢
  refine g_aload_n rfl rfl ?_
  refine g_iconst (n := 0) rfl (by decide) ?_
  refine g_put (ci := 8) (kk := 26) (fs' := [aR (m0 + 1), aR (m0 + 2), aR (m0 + 3), aR (m0 + 4), aR (m0 + 5), aR (m0 + 6), aR (m0 + 7), aR (m0 + 8), aR (m0 + 9), aR (m0 + 10), aR (m0 + 11), aI (s.2 11), aR (m0 + 12), aI (s.2 13), aI (s.2 14), aR (m0 + 13), aI (s.2 16), aI (s.2 17), aI (s.2 18), aR (m0 + 14), aR (m0 + 15), aR (m0 + 16), aR (m0 + 17), aR (m0 + 18), aR (m0 + 19), aR (m0 + 20), aI 0]) rfl rfl hW.ob hW.b0 (Nat.le_of_ble_eq_true rfl) rfl (by decide) rfl ?_
  generalize hg_hh1 : hput h m0 (eO 8 [aR (m0 + 1), aR (m0 + 2), aR (m0 + 3), aR (m0 + 4), aR (m0 + 5), aR (m0 + 6), aR (m0 + 7), aR (m0 + 8), aR (m0 + 9), aR (m0 + 10), aR (m0 + 11), aI (s.2 11), aR (m0 + 12), aI (s.2 13), aI (s.2 14), aR (m0 + 13), aI (s.2 16), aI (s.2 17), aI (s.2 18), aR (m0 + 14), aR (m0 + 15), aR (m0 + 16), aR (m0 + 17), aR (m0 + 18), aR (m0 + 19), aR (m0 + 20), aI 0]) = hh1
  obtain ⟨s1, hW, qi26, oi26, pi26⟩ : ∃ s9, WM B m0 hh1 s9 ∧ s9.2 26 = 0 ∧ (∀ j, j ≠ 26 → s9.2 j = s.2 j) ∧ s9.1 = s.1 := ⟨uI s 26 0, by rw [← hg_hh1]; exact hW.setI rfl, by simp [uI, va_up], fun j hj => by simp [uI, va_up, hj], rfl⟩
  refine g_aload_n rfl rfl ?_
  refine g_get (ci := 8) (kk := 11) rfl rfl hW.ob hW.b0 rfl ?_
  rw [show s1.2 11 = 30 * (t : Int) from by rw [oi26 11 (by decide)]; exact hb]
  refine g_ifne rfl rfl (fun c2 => ?_) (fun c2 => ?_)
  · skip
    refine g_iconst (n := 0) rfl (by decide) ?_
    rw [show (0 : Int) = 30 * (u : Int) by omega]
    exact rd_18 hd4 ht (by omega) (by omega) hM hb hW pi26 oi26 qi26 hinj h121
  · skip
    refine g_bipush (n := 30) rfl (by decide) ?_
    refine g_goto rfl rfl ?_
    rw [show (30 : Int) = 30 * (u : Int) by omega]
    exact rd_18 hd4 ht (by omega) (by omega) hM hb hW pi26 oi26 qi26 hinj h121
end Md31
