/-! The reference: the first fault of a header. -/
noncomputable def FFv (l : List Int) (b : Int) : Int := pk (ckR l b) (pk (mrR l (b * 512)) (pk (numR l (b * 512)) (pk (kokR l (b * 512) (lnR l b)) 0 6) 5) 4) 3
section Md27
variable {B h : AH} {m0 d t u : Nat} {s s' : MS} {c b : Int}
theorem kndT8 {x : Int} (h : r8 x) : kndT (x % 256) = if x = 48 then 1 else if x = 49 then 3 else if x = 50 then 2 else if x = 53 then 0 else -1 := by
  have h1 := h.1
  have h2 := h.2
  unfold kndT
  by_cases a : x = 48
  · rw [if_pos a, if_pos (by omega)]
  · rw [if_neg a, if_neg (by omega)]
    by_cases a : x = 49
    · rw [if_pos a, if_pos (by omega)]
    · rw [if_neg a, if_neg (by omega)]
      by_cases a : x = 50
      · rw [if_pos a, if_pos (by omega)]
      · rw [if_neg a, if_neg (by omega)]
        by_cases a : x = 53
        · rw [if_pos a, if_pos (by omega)]
        · rw [if_neg a, if_neg (by omega)]
theorem octv_t {l : List Int} {f : Int} {n : Nat} (h : octok l f n) (hz : rat l (f + n) = 0) : octv l f n = octs l f n := @if_pos _ (Classical.propDecidable _) ⟨h, hz⟩ _ _ _
theorem octv_f {l : List Int} {f : Int} {n : Nat} (h : ¬ (octok l f n ∧ rat l (f + n) = 0)) : octv l f n = -1 := @if_neg _ (Classical.propDecidable _) h _ _ _
theorem FFv_1 {l : List Int} {b : Int} (h : ¬ ckR l b) : FFv l b = 3 := pk_f h
theorem FFv_2 {l : List Int} {b : Int} (h : ckR l b) (h2 : ¬ mrR l (b * 512)) : FFv l b = 4 := (pk_t h).trans (pk_f h2)
theorem FFv_3 {l : List Int} {b : Int} (h : ckR l b) (h2 : mrR l (b * 512)) (h3 : ¬ numR l (b * 512)) : FFv l b = 5 := (pk_t h).trans ((pk_t h2).trans (pk_f h3))
theorem FFv_4 {l : List Int} {b : Int} (h : ckR l b) (h2 : mrR l (b * 512)) (h3 : numR l (b * 512)) (h4 : ¬ kokR l (b * 512) (lnR l b)) : FFv l b = 6 := (pk_t h).trans ((pk_t h2).trans ((pk_t h3).trans (pk_f h4)))
theorem FFv_0 {l : List Int} {b : Int} (h : ckR l b) (h2 : mrR l (b * 512)) (h3 : numR l (b * 512)) (h4 : kokR l (b * 512) (lnR l b)) : FFv l b = 0 := (pk_t h).trans ((pk_t h2).trans ((pk_t h3).trans (pk_t h4)))
theorem ff_185 (hM : MOK s) (hW : WM B m0 h s) (hd2 : 2 ≤ d) (b : Int) (hb0 : 0 ≤ b) (hb1 : b * 512 + 512 ≤ s.2 13) (hck : ckR (pg s) b) (hmr : mrR (pg s) (b * 512)) (v2 v3 : Int) : Go d yMd_firstFault 185 [aR m0, aI (b * 512), aI v2, aI v3, none, none, none, none] [] h (RV (some (aI (FFv (pg s) b))) (fun h2 => h2 = h)) := by
  have hm := hM.2.2.2.2
  have hpl := pg_len s
  have hra : ∀ x : Int, 0 ≤ x → x < 512 → rat (pg s) (b * 512 + x) = s.1 12 (b * 512 + x).toNat % 256 := fun x x0 x1 => pg_rat s (by omega) (by omega)
  have h8 : ∀ x : Int, -128 ≤ s.1 12 (b * 512 + x).toNat ∧ s.1 12 (b * 512 + x).toNat ≤ 127 := fun x => hW.p8 _
  have r156 := hra 156 (by omega) (by omega)
  have q156 := h8 156
  refine g_aload_n rfl rfl ?_
  refine g_iload_n rfl rfl ?_
  refine g_bipush (n := 100) rfl (by decide) ?_
  refine g_iadd rfl (by omega) ?_
  refine g_bipush (n := 7) rfl (by decide) ?_
  refine g_V (z := yMd_number) (e := 1) (A := [aI 7, aI ((b * 512) + 100)]) (rest := []) (v := aL (octv (pg s) (b * 512 + 100) 7)) (P := fun h2 => h2 = h) rfl rfl rfl rfl rfl rfl (by omega) hW.ob hW.b0 (m_number (by omega) hM hW (b * 512 + 100) 7 (by omega) (by omega) (by omega)) ?_
  intro hh9 he9
  rw [he9]
  clear he9 hh9
  refine g_lstore_n (L' := [aR m0, aI (b * 512), aI v2, aL (octv (pg s) (b * 512 + 100) 7), none, none, none, none]) rfl rfl ?_
  refine g_aload_n rfl rfl ?_
  refine g_iload_n rfl rfl ?_
  refine g_sipush (n := 136) rfl (by decide) ?_
  refine g_iadd rfl (by omega) ?_
  refine g_bipush (n := 11) rfl (by decide) ?_
  refine g_V (z := yMd_number) (e := 1) (A := [aI 11, aI ((b * 512) + 136)]) (rest := []) (v := aL (octv (pg s) (b * 512 + 136) 11)) (P := fun h2 => h2 = h) rfl rfl rfl rfl rfl rfl (by omega) hW.ob hW.b0 (m_number (by omega) hM hW (b * 512 + 136) 11 (by omega) (by omega) (by omega)) ?_
  intro hh9 he9
  rw [he9]
  clear he9 hh9
  refine g_lstore (L' := [aR m0, aI (b * 512), aI v2, aL (octv (pg s) (b * 512 + 100) 7), none, aL (octv (pg s) (b * 512 + 136) 11), none, none]) rfl rfl ?_
  refine g_lload_n rfl rfl ?_
  refine g_lconst (m := 0) rfl rfl ?_
  refine g_lcmp rfl ?_
  refine g_iflt rfl rfl (fun c1 => ?_) (fun c1 => ?_)
  · skip
    have c1 := lc_lt c1
    refine g_iconst (n := 5) rfl (by decide) ?_
    have hno : ¬ numR (pg s) (b * 512) := fun q => by
      have a1 := octv_r q.1
      have a2 := q.2.1
      have a3 := octv_r q.2.2.1
      have a4 := octv_r q.2.2.2.1
      have a5 := octv_r q.2.2.2.2.1
      have a6 := q.2.2.2.2.2.1
      have a7 := octv_r q.2.2.2.2.2.2.1
      have a8 := octv_r q.2.2.2.2.2.2.2.1
      have a9 := octv_r q.2.2.2.2.2.2.2.2
      omega
    exact r_i rfl rfl (FFv_3 hck hmr hno).symm rfl
  · skip
    have c1 := lc_ge c1
    refine g_lload_n rfl rfl ?_
    refine g_ldc2 (v := 4095) rfl rfl ?_
    refine g_lcmp rfl ?_
    refine g_ifgt rfl rfl (fun c2 => ?_) (fun c2 => ?_)
    · skip
      have c2 := lc_gt c2
      refine g_iconst (n := 5) rfl (by decide) ?_
      have hno : ¬ numR (pg s) (b * 512) := fun q => by
        have a1 := octv_r q.1
        have a2 := q.2.1
        have a3 := octv_r q.2.2.1
        have a4 := octv_r q.2.2.2.1
        have a5 := octv_r q.2.2.2.2.1
        have a6 := q.2.2.2.2.2.1
        have a7 := octv_r q.2.2.2.2.2.2.1
        have a8 := octv_r q.2.2.2.2.2.2.2.1
        have a9 := octv_r q.2.2.2.2.2.2.2.2
        omega
      exact r_i rfl rfl (FFv_3 hck hmr hno).symm rfl
    · skip
      have c2 := lc_le c2
      refine g_aload_n rfl rfl ?_
      refine g_iload_n rfl rfl ?_
      refine g_bipush (n := 108) rfl (by decide) ?_
      refine g_iadd rfl (by omega) ?_
      refine g_bipush (n := 7) rfl (by decide) ?_
      refine g_V (z := yMd_number) (e := 1) (A := [aI 7, aI ((b * 512) + 108)]) (rest := []) (v := aL (octv (pg s) (b * 512 + 108) 7)) (P := fun h2 => h2 = h) rfl rfl rfl rfl rfl rfl (by omega) hW.ob hW.b0 (m_number (by omega) hM hW (b * 512 + 108) 7 (by omega) (by omega) (by omega)) ?_
      intro hh9 he9
      rw [he9]
      clear he9 hh9
      refine g_lconst (m := 0) rfl rfl ?_
      refine g_lcmp rfl ?_
      refine g_iflt rfl rfl (fun c3 => ?_) (fun c3 => ?_)
      · skip
        have c3 := lc_lt c3
        refine g_iconst (n := 5) rfl (by decide) ?_
        have hno : ¬ numR (pg s) (b * 512) := fun q => by
          have a1 := octv_r q.1
          have a2 := q.2.1
          have a3 := octv_r q.2.2.1
          have a4 := octv_r q.2.2.2.1
          have a5 := octv_r q.2.2.2.2.1
          have a6 := q.2.2.2.2.2.1
          have a7 := octv_r q.2.2.2.2.2.2.1
          have a8 := octv_r q.2.2.2.2.2.2.2.1
          have a9 := octv_r q.2.2.2.2.2.2.2.2
          omega
        exact r_i rfl rfl (FFv_3 hck hmr hno).symm rfl
      · skip
        have c3 := lc_ge c3
        refine g_aload_n rfl rfl ?_
        refine g_iload_n rfl rfl ?_
        refine g_bipush (n := 116) rfl (by decide) ?_
        refine g_iadd rfl (by omega) ?_
        refine g_bipush (n := 7) rfl (by decide) ?_
        refine g_V (z := yMd_number) (e := 1) (A := [aI 7, aI ((b * 512) + 116)]) (rest := []) (v := aL (octv (pg s) (b * 512 + 116) 7)) (P := fun h2 => h2 = h) rfl rfl rfl rfl rfl rfl (by omega) hW.ob hW.b0 (m_number (by omega) hM hW (b * 512 + 116) 7 (by omega) (by omega) (by omega)) ?_
        intro hh9 he9
        rw [he9]
        clear he9 hh9
        refine g_lconst (m := 0) rfl rfl ?_
        refine g_lcmp rfl ?_
        refine g_iflt rfl rfl (fun c4 => ?_) (fun c4 => ?_)
        · skip
          have c4 := lc_lt c4
          refine g_iconst (n := 5) rfl (by decide) ?_
          have hno : ¬ numR (pg s) (b * 512) := fun q => by
            have a1 := octv_r q.1
            have a2 := q.2.1
            have a3 := octv_r q.2.2.1
            have a4 := octv_r q.2.2.2.1
            have a5 := octv_r q.2.2.2.2.1
            have a6 := q.2.2.2.2.2.1
            have a7 := octv_r q.2.2.2.2.2.2.1
            have a8 := octv_r q.2.2.2.2.2.2.2.1
            have a9 := octv_r q.2.2.2.2.2.2.2.2
            omega
          exact r_i rfl rfl (FFv_3 hck hmr hno).symm rfl
        · skip
          have c4 := lc_ge c4
          refine g_aload_n rfl rfl ?_
          refine g_iload_n rfl rfl ?_
          refine g_bipush (n := 124) rfl (by decide) ?_
          refine g_iadd rfl (by omega) ?_
          refine g_bipush (n := 11) rfl (by decide) ?_
          refine g_V (z := yMd_number) (e := 1) (A := [aI 11, aI ((b * 512) + 124)]) (rest := []) (v := aL (octv (pg s) (b * 512 + 124) 11)) (P := fun h2 => h2 = h) rfl rfl rfl rfl rfl rfl (by omega) hW.ob hW.b0 (m_number (by omega) hM hW (b * 512 + 124) 11 (by omega) (by omega) (by omega)) ?_
          intro hh9 he9
          rw [he9]
          clear he9 hh9
          refine g_lconst (m := 0) rfl rfl ?_
          refine g_lcmp rfl ?_
          refine g_iflt rfl rfl (fun c5 => ?_) (fun c5 => ?_)
          · skip
            have c5 := lc_lt c5
            refine g_iconst (n := 5) rfl (by decide) ?_
            have hno : ¬ numR (pg s) (b * 512) := fun q => by
              have a1 := octv_r q.1
              have a2 := q.2.1
              have a3 := octv_r q.2.2.1
              have a4 := octv_r q.2.2.2.1
              have a5 := octv_r q.2.2.2.2.1
              have a6 := q.2.2.2.2.2.1
              have a7 := octv_r q.2.2.2.2.2.2.1
              have a8 := octv_r q.2.2.2.2.2.2.2.1
              have a9 := octv_r q.2.2.2.2.2.2.2.2
              omega
            exact r_i rfl rfl (FFv_3 hck hmr hno).symm rfl
          · skip
            have c5 := lc_ge c5
            refine g_lload rfl rfl ?_
            refine g_lconst (m := 0) rfl rfl ?_
            refine g_lcmp rfl ?_
            refine g_iflt rfl rfl (fun c6 => ?_) (fun c6 => ?_)
            · skip
              have c6 := lc_lt c6
              refine g_iconst (n := 5) rfl (by decide) ?_
              have hno : ¬ numR (pg s) (b * 512) := fun q => by
                have a1 := octv_r q.1
                have a2 := q.2.1
                have a3 := octv_r q.2.2.1
                have a4 := octv_r q.2.2.2.1
                have a5 := octv_r q.2.2.2.2.1
                have a6 := q.2.2.2.2.2.1
                have a7 := octv_r q.2.2.2.2.2.2.1
                have a8 := octv_r q.2.2.2.2.2.2.2.1
                have a9 := octv_r q.2.2.2.2.2.2.2.2
                omega
              exact r_i rfl rfl (FFv_3 hck hmr hno).symm rfl
            · skip
              have c6 := lc_ge c6
              refine g_lload rfl rfl ?_
              refine g_ldc2 (v := 2147483647) rfl rfl ?_
              refine g_lcmp rfl ?_
              refine g_ifgt rfl rfl (fun c7 => ?_) (fun c7 => ?_)
              · skip
                have c7 := lc_gt c7
                refine g_iconst (n := 5) rfl (by decide) ?_
                have hno : ¬ numR (pg s) (b * 512) := fun q => by
                  have a1 := octv_r q.1
                  have a2 := q.2.1
                  have a3 := octv_r q.2.2.1
                  have a4 := octv_r q.2.2.2.1
                  have a5 := octv_r q.2.2.2.2.1
                  have a6 := q.2.2.2.2.2.1
                  have a7 := octv_r q.2.2.2.2.2.2.1
                  have a8 := octv_r q.2.2.2.2.2.2.2.1
                  have a9 := octv_r q.2.2.2.2.2.2.2.2
                  omega
                exact r_i rfl rfl (FFv_3 hck hmr hno).symm rfl
              · skip
                have c7 := lc_le c7
                refine g_aload_n rfl rfl ?_
                refine g_iload_n rfl rfl ?_
                refine g_sipush (n := 329) rfl (by decide) ?_
                refine g_iadd rfl (by omega) ?_
                refine g_bipush (n := 7) rfl (by decide) ?_
                refine g_V (z := yMd_number) (e := 1) (A := [aI 7, aI ((b * 512) + 329)]) (rest := []) (v := aL (octv (pg s) (b * 512 + 329) 7)) (P := fun h2 => h2 = h) rfl rfl rfl rfl rfl rfl (by omega) hW.ob hW.b0 (m_number (by omega) hM hW (b * 512 + 329) 7 (by omega) (by omega) (by omega)) ?_
                intro hh9 he9
                rw [he9]
                clear he9 hh9
                refine g_lconst (m := 0) rfl rfl ?_
                refine g_lcmp rfl ?_
                refine g_iflt rfl rfl (fun c8 => ?_) (fun c8 => ?_)
                · skip
                  have c8 := lc_lt c8
                  refine g_iconst (n := 5) rfl (by decide) ?_
                  have hno : ¬ numR (pg s) (b * 512) := fun q => by
                    have a1 := octv_r q.1
                    have a2 := q.2.1
                    have a3 := octv_r q.2.2.1
                    have a4 := octv_r q.2.2.2.1
                    have a5 := octv_r q.2.2.2.2.1
                    have a6 := q.2.2.2.2.2.1
                    have a7 := octv_r q.2.2.2.2.2.2.1
                    have a8 := octv_r q.2.2.2.2.2.2.2.1
                    have a9 := octv_r q.2.2.2.2.2.2.2.2
                    omega
                  exact r_i rfl rfl (FFv_3 hck hmr hno).symm rfl
                · skip
                  have c8 := lc_ge c8
                  refine g_aload_n rfl rfl ?_
                  refine g_iload_n rfl rfl ?_
                  refine g_sipush (n := 337) rfl (by decide) ?_
                  refine g_iadd rfl (by omega) ?_
                  refine g_bipush (n := 7) rfl (by decide) ?_
                  refine g_V (z := yMd_number) (e := 1) (A := [aI 7, aI ((b * 512) + 337)]) (rest := []) (v := aL (octv (pg s) (b * 512 + 337) 7)) (P := fun h2 => h2 = h) rfl rfl rfl rfl rfl rfl (by omega) hW.ob hW.b0 (m_number (by omega) hM hW (b * 512 + 337) 7 (by omega) (by omega) (by omega)) ?_
                  intro hh9 he9
                  rw [he9]
                  clear he9 hh9
                  refine g_lconst (m := 0) rfl rfl ?_
                  refine g_lcmp rfl ?_
                  refine g_ifge rfl rfl (fun c9 => ?_) (fun c9 => ?_)
                  · skip
                    have c9 := lc_ge c9
                    have hnum : numR (pg s) (b * 512) := ⟨by omega, by omega, by omega, by omega, by omega, by omega, by omega, by omega, by omega⟩
                    have hk : kndR (pg s) (b * 512) = (if s.1 12 (b * 512 + 156).toNat = 48 then 1 else if s.1 12 (b * 512 + 156).toNat = 49 then 3 else if s.1 12 (b * 512 + 156).toNat = 50 then 2 else if s.1 12 (b * 512 + 156).toNat = 53 then 0 else -1) := by
                      unfold kndR
                      rw [r156, kndT8 q156]
                    refine g_aload_n rfl rfl ?_
                    refine g_get (ci := 8) (kk := 12) rfl rfl hW.ob hW.b0 rfl ?_
                    refine g_iload_n rfl rfl ?_
                    refine g_sipush (n := 156) rfl (by decide) ?_
                    refine g_iadd rfl (by omega) ?_
                    refine g_bald rfl hW.a12 (by omega) ?_
                    refine g_istore (L' := [aR m0, aI (b * 512), aI v2, aL (octv (pg s) (b * 512 + 100) 7), none, aL (octv (pg s) (b * 512 + 136) 11), none, aI ((s.1 12) ((b * 512) + 156).toNat)]) rfl rfl ?_
                    refine g_iload rfl rfl ?_
                    refine g_bipush (n := 48) rfl (by decide) ?_
                    refine g_icmpeq rfl rfl (fun c10 => ?_) (fun c10 => ?_)
                    · skip
                      have y10 := c10
                      refine g_iload rfl rfl ?_
                      refine g_bipush (n := 48) rfl (by decide) ?_
                      refine g_icmpeq rfl rfl (fun c11 => ?_) (fun c11 => ?_)
                      · skip
                        refine g_iconst (n := 0) rfl (by decide) ?_
                        have hkk : kokR (pg s) (b * 512) (lnR (pg s) b) := by
                          unfold kokR lnR
                          rw [hk]
                          first
                          | (rw [if_pos y10]; exact ⟨by decide, Or.inl rfl⟩)
                          | (rw [if_neg y10, if_pos y11]; exact ⟨by decide, Or.inr (by omega)⟩)
                          | (rw [if_neg y10, if_neg y11, if_pos y12]; exact ⟨by decide, Or.inr (by omega)⟩)
                          | (rw [if_neg y10, if_neg y11, if_neg y12, if_pos y13]; exact ⟨by decide, Or.inr (by omega)⟩)
                        exact r_i rfl rfl (FFv_0 hck hmr hnum hkk).symm rfl
                      · skip
                        refine g_aload_n rfl rfl ?_
                        refine g_iload_n rfl rfl ?_
                        refine g_bipush (n := 124) rfl (by decide) ?_
                        refine g_iadd rfl (by omega) ?_
                        refine g_bipush (n := 11) rfl (by decide) ?_
                        refine g_V (z := yMd_number) (e := 1) (A := [aI 11, aI ((b * 512) + 124)]) (rest := []) (v := aL (octv (pg s) (b * 512 + 124) 11)) (P := fun h2 => h2 = h) rfl rfl rfl rfl rfl rfl (by omega) hW.ob hW.b0 (m_number (by omega) hM hW (b * 512 + 124) 11 (by omega) (by omega) (by omega)) ?_
                        intro hh9 he9
                        rw [he9]
                        clear he9 hh9
                        refine g_lconst (m := 0) rfl rfl ?_
                        refine g_lcmp rfl ?_
                        refine g_ifle rfl rfl (fun c12 => ?_) (fun c12 => ?_)
                        · skip
                          have c12 := lc_le c12
                          refine g_iconst (n := 0) rfl (by decide) ?_
                          have hkk : kokR (pg s) (b * 512) (lnR (pg s) b) := by
                            unfold kokR lnR
                            rw [hk]
                            first
                            | (rw [if_pos y10]; exact ⟨by decide, Or.inl rfl⟩)
                            | (rw [if_neg y10, if_pos y11]; exact ⟨by decide, Or.inr (by omega)⟩)
                            | (rw [if_neg y10, if_neg y11, if_pos y12]; exact ⟨by decide, Or.inr (by omega)⟩)
                            | (rw [if_neg y10, if_neg y11, if_neg y12, if_pos y13]; exact ⟨by decide, Or.inr (by omega)⟩)
                          exact r_i rfl rfl (FFv_0 hck hmr hnum hkk).symm rfl
                        · skip
                          have c12 := lc_gt c12
                          refine g_bipush (n := 6) rfl (by decide) ?_
                          refine g_goto rfl rfl ?_
                          have hno : ¬ kokR (pg s) (b * 512) (lnR (pg s) b) := fun q => by
                            rcases q.2 with z | z
                            · rw [hk] at z
                              first | rw [if_pos y10] at z | rw [if_neg y10, if_pos y11] at z | rw [if_neg y10, if_neg y11, if_pos y12] at z | rw [if_neg y10, if_neg y11, if_neg y12, if_pos y13] at z
                              omega
                            · unfold lnR at z
                              omega
                          exact r_i rfl rfl (FFv_4 hck hmr hnum hno).symm rfl
                    · skip
                      have y10 := c10
                      refine g_iload rfl rfl ?_
                      refine g_bipush (n := 49) rfl (by decide) ?_
                      refine g_icmpeq rfl rfl (fun c13 => ?_) (fun c13 => ?_)
                      · skip
                        have y11 := c13
                        refine g_iload rfl rfl ?_
                        refine g_bipush (n := 48) rfl (by decide) ?_
                        refine g_icmpeq rfl rfl (fun c14 => ?_) (fun c14 => ?_)
                        · skip
                          refine g_iconst (n := 0) rfl (by decide) ?_
                          have hkk : kokR (pg s) (b * 512) (lnR (pg s) b) := by
                            unfold kokR lnR
                            rw [hk]
                            first
                            | (rw [if_pos y10]; exact ⟨by decide, Or.inl rfl⟩)
                            | (rw [if_neg y10, if_pos y11]; exact ⟨by decide, Or.inr (by omega)⟩)
                            | (rw [if_neg y10, if_neg y11, if_pos y12]; exact ⟨by decide, Or.inr (by omega)⟩)
                            | (rw [if_neg y10, if_neg y11, if_neg y12, if_pos y13]; exact ⟨by decide, Or.inr (by omega)⟩)
                          exact r_i rfl rfl (FFv_0 hck hmr hnum hkk).symm rfl
                        · skip
                          refine g_aload_n rfl rfl ?_
                          refine g_iload_n rfl rfl ?_
                          refine g_bipush (n := 124) rfl (by decide) ?_
                          refine g_iadd rfl (by omega) ?_
                          refine g_bipush (n := 11) rfl (by decide) ?_
                          refine g_V (z := yMd_number) (e := 1) (A := [aI 11, aI ((b * 512) + 124)]) (rest := []) (v := aL (octv (pg s) (b * 512 + 124) 11)) (P := fun h2 => h2 = h) rfl rfl rfl rfl rfl rfl (by omega) hW.ob hW.b0 (m_number (by omega) hM hW (b * 512 + 124) 11 (by omega) (by omega) (by omega)) ?_
                          intro hh9 he9
                          rw [he9]
                          clear he9 hh9
                          refine g_lconst (m := 0) rfl rfl ?_
                          refine g_lcmp rfl ?_
                          refine g_ifle rfl rfl (fun c15 => ?_) (fun c15 => ?_)
                          · skip
                            have c15 := lc_le c15
                            refine g_iconst (n := 0) rfl (by decide) ?_
                            have hkk : kokR (pg s) (b * 512) (lnR (pg s) b) := by
                              unfold kokR lnR
                              rw [hk]
                              first
                              | (rw [if_pos y10]; exact ⟨by decide, Or.inl rfl⟩)
                              | (rw [if_neg y10, if_pos y11]; exact ⟨by decide, Or.inr (by omega)⟩)
                              | (rw [if_neg y10, if_neg y11, if_pos y12]; exact ⟨by decide, Or.inr (by omega)⟩)
                              | (rw [if_neg y10, if_neg y11, if_neg y12, if_pos y13]; exact ⟨by decide, Or.inr (by omega)⟩)
                            exact r_i rfl rfl (FFv_0 hck hmr hnum hkk).symm rfl
                          · skip
                            have c15 := lc_gt c15
                            refine g_bipush (n := 6) rfl (by decide) ?_
                            refine g_goto rfl rfl ?_
                            have hno : ¬ kokR (pg s) (b * 512) (lnR (pg s) b) := fun q => by
                              rcases q.2 with z | z
                              · rw [hk] at z
                                first | rw [if_pos y10] at z | rw [if_neg y10, if_pos y11] at z | rw [if_neg y10, if_neg y11, if_pos y12] at z | rw [if_neg y10, if_neg y11, if_neg y12, if_pos y13] at z
                                omega
                              · unfold lnR at z
                                omega
                            exact r_i rfl rfl (FFv_4 hck hmr hnum hno).symm rfl
                      · skip
                        have y11 := c13
                        refine g_iload rfl rfl ?_
                        refine g_bipush (n := 50) rfl (by decide) ?_
                        refine g_icmpeq rfl rfl (fun c16 => ?_) (fun c16 => ?_)
                        · skip
                          have y12 := c16
                          refine g_iload rfl rfl ?_
                          refine g_bipush (n := 48) rfl (by decide) ?_
                          refine g_icmpeq rfl rfl (fun c17 => ?_) (fun c17 => ?_)
                          · skip
                            refine g_iconst (n := 0) rfl (by decide) ?_
                            have hkk : kokR (pg s) (b * 512) (lnR (pg s) b) := by
                              unfold kokR lnR
                              rw [hk]
                              first
                              | (rw [if_pos y10]; exact ⟨by decide, Or.inl rfl⟩)
                              | (rw [if_neg y10, if_pos y11]; exact ⟨by decide, Or.inr (by omega)⟩)
                              | (rw [if_neg y10, if_neg y11, if_pos y12]; exact ⟨by decide, Or.inr (by omega)⟩)
                              | (rw [if_neg y10, if_neg y11, if_neg y12, if_pos y13]; exact ⟨by decide, Or.inr (by omega)⟩)
                            exact r_i rfl rfl (FFv_0 hck hmr hnum hkk).symm rfl
                          · skip
                            refine g_aload_n rfl rfl ?_
                            refine g_iload_n rfl rfl ?_
                            refine g_bipush (n := 124) rfl (by decide) ?_
                            refine g_iadd rfl (by omega) ?_
                            refine g_bipush (n := 11) rfl (by decide) ?_
                            refine g_V (z := yMd_number) (e := 1) (A := [aI 11, aI ((b * 512) + 124)]) (rest := []) (v := aL (octv (pg s) (b * 512 + 124) 11)) (P := fun h2 => h2 = h) rfl rfl rfl rfl rfl rfl (by omega) hW.ob hW.b0 (m_number (by omega) hM hW (b * 512 + 124) 11 (by omega) (by omega) (by omega)) ?_
                            intro hh9 he9
                            rw [he9]
                            clear he9 hh9
                            refine g_lconst (m := 0) rfl rfl ?_
                            refine g_lcmp rfl ?_
                            refine g_ifle rfl rfl (fun c18 => ?_) (fun c18 => ?_)
                            · skip
                              have c18 := lc_le c18
                              refine g_iconst (n := 0) rfl (by decide) ?_
                              have hkk : kokR (pg s) (b * 512) (lnR (pg s) b) := by
                                unfold kokR lnR
                                rw [hk]
                                first
                                | (rw [if_pos y10]; exact ⟨by decide, Or.inl rfl⟩)
                                | (rw [if_neg y10, if_pos y11]; exact ⟨by decide, Or.inr (by omega)⟩)
                                | (rw [if_neg y10, if_neg y11, if_pos y12]; exact ⟨by decide, Or.inr (by omega)⟩)
                                | (rw [if_neg y10, if_neg y11, if_neg y12, if_pos y13]; exact ⟨by decide, Or.inr (by omega)⟩)
                              exact r_i rfl rfl (FFv_0 hck hmr hnum hkk).symm rfl
                            · skip
                              have c18 := lc_gt c18
                              refine g_bipush (n := 6) rfl (by decide) ?_
                              refine g_goto rfl rfl ?_
                              have hno : ¬ kokR (pg s) (b * 512) (lnR (pg s) b) := fun q => by
                                rcases q.2 with z | z
                                · rw [hk] at z
                                  first | rw [if_pos y10] at z | rw [if_neg y10, if_pos y11] at z | rw [if_neg y10, if_neg y11, if_pos y12] at z | rw [if_neg y10, if_neg y11, if_neg y12, if_pos y13] at z
                                  omega
                                · unfold lnR at z
                                  omega
                              exact r_i rfl rfl (FFv_4 hck hmr hnum hno).symm rfl
                        · skip
                          have y12 := c16
                          refine g_iload rfl rfl ?_
                          refine g_bipush (n := 53) rfl (by decide) ?_
                          refine g_icmpeq rfl rfl (fun c19 => ?_) (fun c19 => ?_)
                          · skip
                            have y13 := c19
                            refine g_iload rfl rfl ?_
                            refine g_bipush (n := 48) rfl (by decide) ?_
                            refine g_icmpeq rfl rfl (fun c20 => ?_) (fun c20 => ?_)
                            · skip
                              refine g_iconst (n := 0) rfl (by decide) ?_
                              have hkk : kokR (pg s) (b * 512) (lnR (pg s) b) := by
                                unfold kokR lnR
                                rw [hk]
                                first
                                | (rw [if_pos y10]; exact ⟨by decide, Or.inl rfl⟩)
                                | (rw [if_neg y10, if_pos y11]; exact ⟨by decide, Or.inr (by omega)⟩)
                                | (rw [if_neg y10, if_neg y11, if_pos y12]; exact ⟨by decide, Or.inr (by omega)⟩)
                                | (rw [if_neg y10, if_neg y11, if_neg y12, if_pos y13]; exact ⟨by decide, Or.inr (by omega)⟩)
                              exact r_i rfl rfl (FFv_0 hck hmr hnum hkk).symm rfl
                            · skip
                              refine g_aload_n rfl rfl ?_
                              refine g_iload_n rfl rfl ?_
                              refine g_bipush (n := 124) rfl (by decide) ?_
                              refine g_iadd rfl (by omega) ?_
                              refine g_bipush (n := 11) rfl (by decide) ?_
                              refine g_V (z := yMd_number) (e := 1) (A := [aI 11, aI ((b * 512) + 124)]) (rest := []) (v := aL (octv (pg s) (b * 512 + 124) 11)) (P := fun h2 => h2 = h) rfl rfl rfl rfl rfl rfl (by omega) hW.ob hW.b0 (m_number (by omega) hM hW (b * 512 + 124) 11 (by omega) (by omega) (by omega)) ?_
                              intro hh9 he9
                              rw [he9]
                              clear he9 hh9
                              refine g_lconst (m := 0) rfl rfl ?_
                              refine g_lcmp rfl ?_
                              refine g_ifle rfl rfl (fun c21 => ?_) (fun c21 => ?_)
                              · skip
                                have c21 := lc_le c21
                                refine g_iconst (n := 0) rfl (by decide) ?_
                                have hkk : kokR (pg s) (b * 512) (lnR (pg s) b) := by
                                  unfold kokR lnR
                                  rw [hk]
                                  first
                                  | (rw [if_pos y10]; exact ⟨by decide, Or.inl rfl⟩)
                                  | (rw [if_neg y10, if_pos y11]; exact ⟨by decide, Or.inr (by omega)⟩)
                                  | (rw [if_neg y10, if_neg y11, if_pos y12]; exact ⟨by decide, Or.inr (by omega)⟩)
                                  | (rw [if_neg y10, if_neg y11, if_neg y12, if_pos y13]; exact ⟨by decide, Or.inr (by omega)⟩)
                                exact r_i rfl rfl (FFv_0 hck hmr hnum hkk).symm rfl
                              · skip
                                have c21 := lc_gt c21
                                refine g_bipush (n := 6) rfl (by decide) ?_
                                refine g_goto rfl rfl ?_
                                have hno : ¬ kokR (pg s) (b * 512) (lnR (pg s) b) := fun q => by
                                  rcases q.2 with z | z
                                  · rw [hk] at z
                                    first | rw [if_pos y10] at z | rw [if_neg y10, if_pos y11] at z | rw [if_neg y10, if_neg y11, if_pos y12] at z | rw [if_neg y10, if_neg y11, if_neg y12, if_pos y13] at z
                                    omega
                                  · unfold lnR at z
                                    omega
                                exact r_i rfl rfl (FFv_4 hck hmr hnum hno).symm rfl
                          · skip
                            have y13 := c19
                            refine g_bipush (n := 6) rfl (by decide) ?_
                            have hno : ¬ kokR (pg s) (b * 512) (lnR (pg s) b) := fun q => by
                              refine q.1 ?_
                              rw [hk, if_neg y10, if_neg y11, if_neg y12, if_neg y13]
                            exact r_i rfl rfl (FFv_4 hck hmr hnum hno).symm rfl
                  · skip
                    have c9 := lc_lt c9
                    refine g_iconst (n := 5) rfl (by decide) ?_
                    have hno : ¬ numR (pg s) (b * 512) := fun q => by
                      have a1 := octv_r q.1
                      have a2 := q.2.1
                      have a3 := octv_r q.2.2.1
                      have a4 := octv_r q.2.2.2.1
                      have a5 := octv_r q.2.2.2.2.1
                      have a6 := q.2.2.2.2.2.1
                      have a7 := octv_r q.2.2.2.2.2.2.1
                      have a8 := octv_r q.2.2.2.2.2.2.2.1
                      have a9 := octv_r q.2.2.2.2.2.2.2.2
                      omega
                    exact r_i rfl rfl (FFv_3 hck hmr hno).symm rfl
theorem ff_116 (hM : MOK s) (hW : WM B m0 h s) (hd2 : 2 ≤ d) (b : Int) (hb0 : 0 ≤ b) (hb1 : b * 512 + 512 ≤ s.2 13) (hck : ckR (pg s) b) (v2 : Int) : ∀ (q j : Nat), j + q = 8 → (∀ i : Nat, i < j → rat (pg s) (b * 512 + 257 + i) = mkf i) → Go d yMd_firstFault 116 [aR m0, aI (b * 512), aI v2, aI (j : Int), none, none, none, none] [] h (RV (some (aI (FFv (pg s) b))) (fun h2 => h2 = h)) := by
  have hm := hM.2.2.2.2
  have hpl := pg_len s
  have hra : ∀ x : Int, 0 ≤ x → x < 512 → rat (pg s) (b * 512 + x) = s.1 12 (b * 512 + x).toNat % 256 := fun x x0 x1 => pg_rat s (by omega) (by omega)
  have h8 : ∀ x : Int, -128 ≤ s.1 12 (b * 512 + x).toNat ∧ s.1 12 (b * 512 + x).toNat ≤ 127 := fun x => hW.p8 _
  intro q
  induction q with
  | zero =>
    intro j h1 hj
    obtain rfl : j = 8 := by omega
    refine g_iload_n rfl rfl ?_
    refine g_bipush (n := 8) rfl (by decide) ?_
    refine g_icmpge rfl rfl (fun c1 => ?_) (fun c => absurd c (by decide))
    refine g_aload_n rfl rfl ?_
    refine g_iload_n rfl rfl ?_
    refine g_sipush (n := 265) rfl (by decide) ?_
    refine g_iadd rfl (by omega) ?_
    refine g_iload_n rfl rfl ?_
    refine g_sipush (n := 329) rfl (by decide) ?_
    refine g_iadd rfl (by omega) ?_
    refine g_V (z := yMd_isZero) (e := 1) (A := [aI ((b * 512) + 329), aI ((b * 512) + 265)]) (rest := []) (v := aI (pz (zrs (pg s) (b * 512 + 265) (b * 512 + 329)))) (P := fun h2 => h2 = h) rfl rfl rfl rfl rfl rfl (by omega) hW.ob hW.b0 (m_isZero hM hW _ _ (by omega) (by omega)) ?_
    intro hh9 he9
    rw [he9]
    clear he9 hh9
    refine g_ifeq rfl rfl (fun c2 => ?_) (fun c2 => ?_)
    · skip
      have y1 := c2
      refine g_iconst (n := 4) rfl (by decide) ?_
      exact r_i rfl rfl (FFv_2 hck (fun q => by first | exact pz_eq y2 q.2.2 | exact pz_eq y1 q.2.1)).symm rfl
    · skip
      have y1 := c2
      refine g_aload_n rfl rfl ?_
      refine g_iload_n rfl rfl ?_
      refine g_sipush (n := 500) rfl (by decide) ?_
      refine g_iadd rfl (by omega) ?_
      refine g_iload_n rfl rfl ?_
      refine g_sipush (n := 512) rfl (by decide) ?_
      refine g_iadd rfl (by omega) ?_
      refine g_V (z := yMd_isZero) (e := 1) (A := [aI ((b * 512) + 512), aI ((b * 512) + 500)]) (rest := []) (v := aI (pz (zrs (pg s) (b * 512 + 500) (b * 512 + 512)))) (P := fun h2 => h2 = h) rfl rfl rfl rfl rfl rfl (by omega) hW.ob hW.b0 (m_isZero hM hW _ _ (by omega) (by omega)) ?_
      intro hh9 he9
      rw [he9]
      clear he9 hh9
      refine g_ifne rfl rfl (fun c3 => ?_) (fun c3 => ?_)
      · skip
        have y2 := c3
        exact ff_185 hM hW hd2 b hb0 hb1 hck ⟨hj, pz_ne y1, pz_ne y2⟩ _ _
      · skip
        have y2 := c3
        refine g_iconst (n := 4) rfl (by decide) ?_
        exact r_i rfl rfl (FFv_2 hck (fun q => by first | exact pz_eq y2 q.2.2 | exact pz_eq y1 q.2.1)).symm rfl
  | succ q ih =>
    intro j h1 hj
    have hjr := hra (257 + j) (by omega) (by omega)
    rw [show b * 512 + (257 + (j : Int)) = b * 512 + 257 + j by omega] at hjr
    have hj8 := h8 (257 + j)
    rw [show b * 512 + (257 + (j : Int)) = b * 512 + 257 + j by omega] at hj8
    have hmk := mkf_r j
    refine g_iload_n rfl rfl ?_
    refine g_bipush (n := 8) rfl (by decide) ?_
    refine g_icmpge rfl rfl (fun c => absurd c (by omega)) (fun c1 => ?_)
    refine g_aload_n rfl rfl ?_
    refine g_get (ci := 8) (kk := 12) rfl rfl hW.ob hW.b0 rfl ?_
    refine g_iload_n rfl rfl ?_
    refine g_sipush (n := 257) rfl (by decide) ?_
    refine g_iadd rfl (by omega) ?_
    refine g_iload_n rfl rfl ?_
    refine g_iadd rfl (by omega) ?_
    refine g_bald rfl hW.a12 (by omega) ?_
    refine g_iload_n rfl rfl ?_
    refine g_S (z := yMd_markOf) (e := 1) (A := [aI ((j : Int))]) (rest := [aI ((s.1 12) (((b * 512) + 257) + ((j : Int))).toNat)]) (v := aI (mkf j)) (P := fun h2 => h2 = h) rfl rfl rfl rfl rfl rfl (by omega) ((by rw [show mkf j = mkf (j : Int).toNat by rw [Int.toNat_natCast]]; exact m_markOf (j : Int) (by omega) (by omega))) ?_
    intro hh9 he9
    rw [he9]
    clear he9 hh9
    refine g_icmpeq rfl rfl (fun c2 => ?_) (fun c2 => ?_)
    · skip
      have y1 := c2
      refine g_iinc (L' := [aR m0, aI (b * 512), aI v2, aI ((j : Int) + 1), none, none, none, none]) rfl rfl (by omega) rfl ?_
      refine g_goto rfl rfl ?_
      exact ih (j + 1) (by omega) (fun i hi => by
        by_cases e : i = j
        · subst e
          omega
        · exact hj i (by omega))
    · skip
      have y1 := c2
      refine g_iconst (n := 4) rfl (by decide) ?_
      exact r_i rfl rfl (FFv_2 hck (fun q => by have := q.1 j (by omega); omega)).symm rfl
theorem ff_73 (hM : MOK s) (hW : WM B m0 h s) (hd2 : 2 ≤ d) (b : Int) (hb0 : 0 ≤ b) (hb1 : b * 512 + 512 ≤ s.2 13) (hok : octok (pg s) (b * 512 + 148) 6) (hz : rat (pg s) (b * 512 + 154) = 0) (h32 : rat (pg s) (b * 512 + 155) = 32) : ∀ (q j : Nat), j + q = 6 → Go d yMd_firstFault 73 [aR m0, aI (b * 512), aI (octs (pg s) (b * 512 + 148) j), aI ((148 : Int) + j), none, none, none, none] [] h (RV (some (aI (FFv (pg s) b))) (fun h2 => h2 = h)) := by
  have hm := hM.2.2.2.2
  have hpl := pg_len s
  have hra : ∀ x : Int, 0 ≤ x → x < 512 → rat (pg s) (b * 512 + x) = s.1 12 (b * 512 + x).toNat % 256 := fun x x0 x1 => pg_rat s (by omega) (by omega)
  have h8 : ∀ x : Int, -128 ≤ s.1 12 (b * 512 + x).toNat ∧ s.1 12 (b * 512 + x).toNat ≤ 127 := fun x => hW.p8 _
  intro q
  induction q with
  | zero =>
    intro j h1
    obtain rfl : j = 6 := by omega
    have ho : octv (pg s) (b * 512 + 148) 6 = octs (pg s) (b * 512 + 148) 6 := octv_t hok (by rw [show b * 512 + 148 + ((6 : Nat) : Int) = b * 512 + 154 by omega]; exact hz)
    refine g_iload_n rfl rfl ?_
    refine g_sipush (n := 154) rfl (by decide) ?_
    refine g_icmpge rfl rfl (fun c1 => ?_) (fun c => absurd c (by omega))
    refine g_iload_n rfl rfl ?_
    refine g_aload_n rfl rfl ?_
    refine g_iload_n rfl rfl ?_
    refine g_V (z := yMd_sum) (e := 1) (A := [aI (b * 512)]) (rest := [aI (octs (pg s) (b * 512 + 148) 6)]) (v := aI (sums (pg s) b 512)) (P := fun h2 => h2 = h) rfl rfl rfl rfl rfl rfl (by omega) hW.ob hW.b0 (m_sum hM hW b hb0 hb1) ?_
    intro hh9 he9
    rw [he9]
    clear he9 hh9
    refine g_icmpeq rfl rfl (fun c2 => ?_) (fun c2 => ?_)
    · skip
      have y1 := c2
      refine g_iconst (n := 0) rfl (by decide) ?_
      refine g_istore_n (L' := [aR m0, aI (b * 512), aI (octs (pg s) (b * 512 + 148) 6), aI 0, none, none, none, none]) rfl rfl ?_
      exact ff_116 hM hW hd2 b hb0 hb1 ⟨by omega, h32⟩ _ 8 0 (by omega) (fun i hi => absurd hi (by omega))
    · skip
      have y1 := c2
      refine g_iconst (n := 3) rfl (by decide) ?_
      exact r_i rfl rfl (FFv_1 (fun q => by have := q.1; omega)).symm rfl
  | succ q ih =>
    intro j h1
    have hjr := hra (148 + j) (by omega) (by omega)
    have hj8 := h8 (148 + j)
    have hjo := hok j (by omega)
    rw [show b * 512 + 148 + (j : Int) = b * 512 + (148 + j) by omega] at hjo
    have hor := octs_r (l := pg s) (f := b * 512 + 148) (n := j) (fun i hi => hok i (by omega))
    have hp : (8 : Int) ^ j ≤ 262144 := by
      have hj6 : j < 6 := by omega
      clear ih h1 hjr hj8 hjo hor hra h8 hok
      rcases (by omega : j = 0 ∨ j = 1 ∨ j = 2 ∨ j = 3 ∨ j = 4 ∨ j = 5) with z | z | z | z | z | z <;> subst z <;> decide
    have i2 := ih (j + 1) (by omega)
    refine g_iload_n rfl rfl ?_
    refine g_sipush (n := 154) rfl (by decide) ?_
    refine g_icmpge rfl rfl (fun c => absurd c (by omega)) (fun c1 => ?_)
    refine g_bipush (n := 8) rfl (by decide) ?_
    refine g_iload_n rfl rfl ?_
    refine g_imul rfl (by omega) ?_
    refine g_aload_n rfl rfl ?_
    refine g_get (ci := 8) (kk := 12) rfl rfl hW.ob hW.b0 rfl ?_
    refine g_iload_n rfl rfl ?_
    refine g_iload_n rfl rfl ?_
    refine g_iadd rfl (by omega) ?_
    refine g_bald rfl hW.a12 (by omega) ?_
    refine g_iadd rfl (by omega) ?_
    refine g_bipush (n := 48) rfl (by decide) ?_
    refine g_isub rfl (by omega) ?_
    refine g_istore_n (L' := [aR m0, aI (b * 512), aI (((8 * (octs (pg s) (b * 512 + 148) j)) + ((s.1 12) ((b * 512) + ((148 : Int) + (j : Int))).toNat)) - 48), aI ((148 : Int) + (j : Int)), none, none, none, none]) rfl rfl ?_
    refine g_iinc (L' := [aR m0, aI (b * 512), aI (((8 * (octs (pg s) (b * 512 + 148) j)) + ((s.1 12) ((b * 512) + ((148 : Int) + (j : Int))).toNat)) - 48), aI ((148 : Int) + (j : Int) + 1), none, none, none, none]) rfl rfl (by omega) rfl ?_
    refine g_goto rfl rfl ?_
    have e1 : octs (pg s) (b * 512 + 148) (j + 1) = 8 * octs (pg s) (b * 512 + 148) j + s.1 12 (b * 512 + (148 + (j : Int))).toNat - 48 := by
      show octs (pg s) (b * 512 + 148) j * 8 + (rat (pg s) (b * 512 + 148 + (j : Int)) - 48) = _
      rw [show b * 512 + 148 + (j : Int) = b * 512 + (148 + j) by omega]
      omega
    rw [e1] at i2
    exact i2
theorem ff_34 (hM : MOK s) (hW : WM B m0 h s) (hd2 : 2 ≤ d) (b : Int) (hb0 : 0 ≤ b) (hb1 : b * 512 + 512 ≤ s.2 13) (hz : rat (pg s) (b * 512 + 154) = 0) (h32 : rat (pg s) (b * 512 + 155) = 32) : ∀ (q j : Nat), j + q = 6 → octok (pg s) (b * 512 + 148) j → Go d yMd_firstFault 34 [aR m0, aI (b * 512), aI ((148 : Int) + j), none, none, none, none, none] [] h (RV (some (aI (FFv (pg s) b))) (fun h2 => h2 = h)) := by
  have hm := hM.2.2.2.2
  have hpl := pg_len s
  have hra : ∀ x : Int, 0 ≤ x → x < 512 → rat (pg s) (b * 512 + x) = s.1 12 (b * 512 + x).toNat % 256 := fun x x0 x1 => pg_rat s (by omega) (by omega)
  have h8 : ∀ x : Int, -128 ≤ s.1 12 (b * 512 + x).toNat ∧ s.1 12 (b * 512 + x).toNat ≤ 127 := fun x => hW.p8 _
  have hsn := sums_nn (l := pg s) (b := b) hb0 512 (by omega)
  intro q
  induction q with
  | zero =>
    intro j h1 hok
    obtain rfl : j = 6 := by omega
    refine g_iload_n rfl rfl ?_
    refine g_sipush (n := 154) rfl (by decide) ?_
    refine g_icmpge rfl rfl (fun c1 => ?_) (fun c => absurd c (by omega))
    refine g_iconst (n := 0) rfl (by decide) ?_
    refine g_istore_n (L' := [aR m0, aI (b * 512), aI 0, none, none, none, none, none]) rfl rfl ?_
    refine g_sipush (n := 148) rfl (by decide) ?_
    refine g_istore_n (L' := [aR m0, aI (b * 512), aI 0, aI 148, none, none, none, none]) rfl rfl ?_
    exact ff_73 hM hW hd2 b hb0 hb1 hok hz h32 6 0 (by omega)
  | succ q ih =>
    intro j h1 hok
    have hjr := hra (148 + j) (by omega) (by omega)
    have hj8 := h8 (148 + j)
    refine g_iload_n rfl rfl ?_
    refine g_sipush (n := 154) rfl (by decide) ?_
    refine g_icmpge rfl rfl (fun c => absurd c (by omega)) (fun c1 => ?_)
    refine g_aload_n rfl rfl ?_
    refine g_get (ci := 8) (kk := 12) rfl rfl hW.ob hW.b0 rfl ?_
    refine g_iload_n rfl rfl ?_
    refine g_iload_n rfl rfl ?_
    refine g_iadd rfl (by omega) ?_
    refine g_bald rfl hW.a12 (by omega) ?_
    refine g_bipush (n := 48) rfl (by decide) ?_
    refine g_bipush (n := 55) rfl (by decide) ?_
    refine g_S (z := yMd_within) (e := 1) (A := [aI 55, aI 48, aI ((s.1 12) ((b * 512) + ((148 : Int) + (j : Int))).toNat)]) (rest := []) (v := aI (pz (48 ≤ s.1 12 (b * 512 + (148 + (j : Int))).toNat ∧ s.1 12 (b * 512 + (148 + (j : Int))).toNat ≤ 55))) (P := fun h2 => h2 = h) rfl rfl rfl rfl rfl rfl (by omega) (m_within _ _ _) ?_
    intro hh9 he9
    rw [he9]
    clear he9 hh9
    refine g_ifne rfl rfl (fun c2 => ?_) (fun c2 => ?_)
    · skip
      have y1 := c2
      refine g_iinc (L' := [aR m0, aI (b * 512), aI ((148 : Int) + (j : Int) + 1), none, none, none, none, none]) rfl rfl (by omega) rfl ?_
      refine g_goto rfl rfl ?_
      exact ih (j + 1) (by omega) (fun i hi => by
        by_cases e : i = j
        · subst e
          have := pz_ne y1
          rw [show b * 512 + 148 + (i : Int) = b * 512 + (148 + i) by omega]
          omega
        · exact hok i (by omega))
    · skip
      have y1 := c2
      refine g_iconst (n := 3) rfl (by decide) ?_
      exact r_i rfl rfl (FFv_1 (fun q => by
        have z := q.1
        rw [octv_f (fun k => pz_eq y1 (by have kk := k.1 j (by omega); rw [show b * 512 + 148 + (j : Int) = b * 512 + (148 + j) by omega] at kk; omega))] at z
        omega)).symm rfl
theorem m_firstFault (hM : MOK s) (hW : WM B m0 h s) (hd2 : 2 ≤ d) (b : Int) (hb0 : 0 ≤ b) (hb1 : b * 512 + 512 ≤ s.2 13) : Cal d yMd_firstFault [aR m0, aI (b * 512)] h (RV (some (aI (FFv (pg s) b))) (fun h2 => h2 = h)) := by
  have hm := hM.2.2.2.2
  have hpl := pg_len s
  have hra : ∀ x : Int, 0 ≤ x → x < 512 → rat (pg s) (b * 512 + x) = s.1 12 (b * 512 + x).toNat % 256 := fun x x0 x1 => pg_rat s (by omega) (by omega)
  have h8 : ∀ x : Int, -128 ≤ s.1 12 (b * 512 + x).toNat ∧ s.1 12 (b * 512 + x).toNat ≤ 127 := fun x => hW.p8 _
  have hsn := sums_nn (l := pg s) (b := b) hb0 512 (by omega)
  have r4 := hra 154 (by omega) (by omega)
  have r5 := hra 155 (by omega) (by omega)
  have q4 := h8 154
  have q5 := h8 155
  show Go _ _ 0 [aR m0, aI (b * 512), none, none, none, none, none, none] [] _ _
  refine g_aload_n rfl rfl ?_
  refine g_get (ci := 8) (kk := 12) rfl rfl hW.ob hW.b0 rfl ?_
  refine g_iload_n rfl rfl ?_
  refine g_sipush (n := 154) rfl (by decide) ?_
  refine g_iadd rfl (by omega) ?_
  refine g_bald rfl hW.a12 (by omega) ?_
  refine g_ifne rfl rfl (fun c1 => ?_) (fun c1 => ?_)
  · skip
    have y1 := c1
    refine g_iconst (n := 3) rfl (by decide) ?_
    exact r_i rfl rfl (FFv_1 (fun q => by
        have z := q.1
        have z2 := q.2
        first | omega | (rw [octv_f (fun k => by have kk := k.2; rw [show b * 512 + 148 + ((6 : Nat) : Int) = b * 512 + 154 by omega] at kk; omega)] at z; omega))).symm rfl
  · skip
    have y1 := c1
    refine g_aload_n rfl rfl ?_
    refine g_get (ci := 8) (kk := 12) rfl rfl hW.ob hW.b0 rfl ?_
    refine g_iload_n rfl rfl ?_
    refine g_sipush (n := 155) rfl (by decide) ?_
    refine g_iadd rfl (by omega) ?_
    refine g_bald rfl hW.a12 (by omega) ?_
    refine g_bipush (n := 32) rfl (by decide) ?_
    refine g_icmpeq rfl rfl (fun c2 => ?_) (fun c2 => ?_)
    · skip
      have y2 := c2
      refine g_sipush (n := 148) rfl (by decide) ?_
      refine g_istore_n (L' := [aR m0, aI (b * 512), aI 148, none, none, none, none, none]) rfl rfl ?_
      exact ff_34 hM hW hd2 b hb0 hb1 (by omega) (by omega) 6 0 (by omega) (fun i hi => absurd hi (by omega))
    · skip
      have y2 := c2
      refine g_iconst (n := 3) rfl (by decide) ?_
      exact r_i rfl rfl (FFv_1 (fun q => by
        have z := q.1
        have z2 := q.2
        first | omega | (rw [octv_f (fun k => by have kk := k.2; rw [show b * 512 + 148 + ((6 : Nat) : Int) = b * 512 + 154 by omega] at kk; omega)] at z; omega))).symm rfl
end Md27
