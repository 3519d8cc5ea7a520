/-! The reference: move. -/
section Md23
variable {B h : AH} {m0 d t u K : Nat} {s s' s'' : MS} {c : Int}
def rnv (R : Nat → Int) (x : Int) : Int := if x = -1 then -1 else R x.toNat
def MV (s s' : MS) (R : Nat → Int) (F T : Nat) : Prop := (s'.1 1 T = s.1 1 F ∧ s'.1 2 T = rnv R (s.1 2 F) ∧ s'.1 3 T = s.1 3 F ∧ s'.1 4 T = s.1 4 F ∧ s'.1 5 T = s.1 5 F ∧ s'.1 6 T = s.1 6 F ∧ s'.1 7 T = s.1 7 F ∧ s'.1 8 T = rnv R (s.1 8 F)) ∧ (∀ j : Nat, (j : Int) < s.1 3 F → s'.1 10 (100 * T + j) = s.1 10 (100 * F + j)) ∧ ∀ j : Nat, (j : Int) < s.1 7 F → s'.1 11 (2000 * T + j) = s.1 11 (2000 * F + j)
theorem nv_loop {Q : AO → AH → Prop} (s2 : MS) (F0 : Nat → Int) (F T : Nat) (hF : F < 60) (hT : T ≤ F) (hm : s2.1 3 F ≤ 100) (kk : ∀ (h : AH) (s : MS) (v3 : Int), WM B m0 h s → s.1 10 = cyN F0 F0 (100 * T) (100 * (F : Int)) (s2.1 3 F) → (∀ k, k ≠ 10 → s.1 k = s2.1 k) → s.2 = s2.2 → Go d yMd_move 174 [aR m0, aI (F : Int), aI (T : Int), aI v3] [] h Q) : ∀ (q j : Nat) (h : AH) (s : MS), (j : Int) ≤ s2.1 3 F → (s2.1 3 F - j).toNat ≤ q → WM B m0 h s → s.1 10 = cyN F0 F0 (100 * T) (100 * (F : Int)) (j : Int) → (∀ k, k ≠ 10 → s.1 k = s2.1 k) → s.2 = s2.2 → Go d yMd_move 136 [aR m0, aI (F : Int), aI (T : Int), aI (j : Int)] [] h Q := by
  intro q
  induction q with
  | zero =>
    intro j h s h1 h2 hW a1 a2 a3
    have hj : s2.1 3 F = (j : Int) := by omega
    have e3 : s.1 3 (F : Int).toNat = (j : Int) := by rw [Int.toNat_natCast, a2 3 (by decide)]; exact hj
    refine g_iload_n rfl rfl ?_
    refine g_aload_n rfl rfl ?_
    refine g_get (ci := 8) (kk := 2) rfl rfl hW.ob hW.b0 rfl ?_
    refine g_iload_n rfl rfl ?_
    refine g_iald rfl hW.a3 (by omega) ?_
    rw [show (s.1 3) ((F : Int)).toNat = (j : Int) from e3]
    refine g_icmpge rfl rfl (fun c1 => ?_) (fun c => absurd c (by omega))
    exact kk _ _ _ hW (by rw [hj]; exact a1) a2 a3
  | succ q ih =>
    intro j h s h1 h2 hW a1 a2 a3
    by_cases hj : (j : Int) < s2.1 3 F
    · have e3 : s.1 3 (F : Int).toNat = s2.1 3 F := by rw [Int.toNat_natCast, a2 3 (by decide)]
      have eL : s.1 10 (100 * (F : Int) + (j : Int)).toNat = F0 (100 * F + j) := by
        rw [a1, show (100 * (F : Int) + (j : Int)).toNat = 100 * F + j by omega]
        unfold cyN
        rw [if_neg (by omega)]
      have h8 : r8 (F0 (100 * F + j)) := by
        rw [← eL]
        exact hW.by8 (by decide) _
      refine g_iload_n rfl rfl ?_
      refine g_aload_n rfl rfl ?_
      refine g_get (ci := 8) (kk := 2) rfl rfl hW.ob hW.b0 rfl ?_
      refine g_iload_n rfl rfl ?_
      refine g_iald rfl hW.a3 (by omega) ?_
      rw [show (s.1 3) ((F : Int)).toNat = s2.1 3 F from e3]
      refine g_icmpge rfl rfl (fun c => absurd c (by omega)) (fun c1 => ?_)
      refine g_aload_n rfl rfl ?_
      refine g_get (ci := 8) (kk := 9) rfl rfl hW.ob hW.b0 rfl ?_
      refine g_bipush (n := 100) rfl (by decide) ?_
      refine g_iload_n rfl rfl ?_
      refine g_imul rfl (by omega) ?_
      refine g_iload_n rfl rfl ?_
      refine g_iadd rfl (by omega) ?_
      refine g_aload_n rfl rfl ?_
      refine g_get (ci := 8) (kk := 9) rfl rfl hW.ob hW.b0 rfl ?_
      refine g_bipush (n := 100) rfl (by decide) ?_
      refine g_iload_n rfl rfl ?_
      refine g_imul rfl (by omega) ?_
      refine g_iload_n rfl rfl ?_
      refine g_iadd rfl (by omega) ?_
      refine g_bald rfl hW.a10 (by omega) ?_
      rw [show (s.1 10) ((100 * ((F : Int))) + ((j : Int))).toNat = F0 (100 * F + j) from eL]
      refine g_bast rfl hW.a10 hW.bk (by omega) ?_
      generalize hg_hh2 : hput h (m0 + 10) (eA 1 6000 (va_up (s.1 10) ((100 * ((T : Int))) + ((j : Int))).toNat (a8 (F0 (100 * F + j))))) = hh2
      obtain ⟨s3, hW, q10, o10, p10⟩ := hW.st (k := 10) (i := (100 * (T : Int) + (j : Int)).toNat) (v := (a8 (F0 (100 * F + j)))) (by omega) (by omega) (fun _ => a8_r _)
      rw [show (eA (mty 10) (mln 10) (va_up (s.1 10) (100 * (T : Int) + (j : Int)).toNat (a8 (F0 (100 * F + j)))) : AE) = eA 1 6000 (va_up (s.1 10) (100 * (T : Int) + (j : Int)).toNat (a8 (F0 (100 * F + j)))) from rfl, hg_hh2] at hW
      have b1 : s3.1 10 = cyN F0 F0 (100 * T) (100 * (F : Int)) ((j + 1 : Nat) : Int) := by
        rw [q10, a1, a8_of h8, show (100 * (T : Int) + (j : Int)).toNat = 100 * T + j by omega]
        funext x
        unfold va_up cyN
        by_cases z : x = 100 * T + j
        · rw [if_pos z, if_pos (by omega), show (100 * (F : Int)).toNat + (x - 100 * T) = 100 * F + j by omega]
        · rw [if_neg z]
          by_cases z2 : 100 * T ≤ x ∧ (x : Int) < ((100 * T : Nat) : Int) + (j : Int)
          · rw [if_pos z2, if_pos (by omega)]
          · rw [if_neg z2, if_neg (by omega)]
      refine g_iinc (L' := [aR m0, aI ((F : Int)), aI ((T : Int)), aI ((j : Int) + 1)]) rfl rfl (by omega) rfl ?_
      refine g_goto rfl rfl ?_
      exact ih (j + 1) _ s3 (by omega) (by omega) hW b1 (fun k hk => (o10 k hk).trans (a2 k hk)) (p10.trans a3)
    · have hj : s2.1 3 F = (j : Int) := by omega
      have e3 : s.1 3 (F : Int).toNat = (j : Int) := by rw [Int.toNat_natCast, a2 3 (by decide)]; exact hj
      refine g_iload_n rfl rfl ?_
      refine g_aload_n rfl rfl ?_
      refine g_get (ci := 8) (kk := 2) rfl rfl hW.ob hW.b0 rfl ?_
      refine g_iload_n rfl rfl ?_
      refine g_iald rfl hW.a3 (by omega) ?_
      rw [show (s.1 3) ((F : Int)).toNat = (j : Int) from e3]
      refine g_icmpge rfl rfl (fun c1 => ?_) (fun c => absurd c (by omega))
      exact kk _ _ _ hW (by rw [hj]; exact a1) a2 a3
theorem bv_loop {Q : AO → AH → Prop} (s2 : MS) (F0 : Nat → Int) (F T : Nat) (hF : F < 60) (hT : T ≤ F) (hm : s2.1 7 F ≤ 2000) (kk : ∀ (h : AH) (s : MS) (v3 : Int), WM B m0 h s → s.1 11 = cyN F0 F0 (2000 * T) (2000 * (F : Int)) (s2.1 7 F) → (∀ k, k ≠ 11 → s.1 k = s2.1 k) → s.2 = s2.2 → Go d yMd_move 216 [aR m0, aI (F : Int), aI (T : Int), aI v3] [] h Q) : ∀ (q j : Nat) (h : AH) (s : MS), (j : Int) ≤ s2.1 7 F → (s2.1 7 F - j).toNat ≤ q → WM B m0 h s → s.1 11 = cyN F0 F0 (2000 * T) (2000 * (F : Int)) (j : Int) → (∀ k, k ≠ 11 → s.1 k = s2.1 k) → s.2 = s2.2 → Go d yMd_move 176 [aR m0, aI (F : Int), aI (T : Int), aI (j : Int)] [] h Q := by
  intro q
  induction q with
  | zero =>
    intro j h s h1 h2 hW a1 a2 a3
    have hj : s2.1 7 F = (j : Int) := by omega
    have e3 : s.1 7 (F : Int).toNat = (j : Int) := by rw [Int.toNat_natCast, a2 7 (by decide)]; exact hj
    refine g_iload_n rfl rfl ?_
    refine g_aload_n rfl rfl ?_
    refine g_get (ci := 8) (kk := 6) rfl rfl hW.ob hW.b0 rfl ?_
    refine g_iload_n rfl rfl ?_
    refine g_iald rfl hW.a7 (by omega) ?_
    rw [show (s.1 7) ((F : Int)).toNat = (j : Int) from e3]
    refine g_icmpge rfl rfl (fun c1 => ?_) (fun c => absurd c (by omega))
    exact kk _ _ _ hW (by rw [hj]; exact a1) a2 a3
  | succ q ih =>
    intro j h s h1 h2 hW a1 a2 a3
    by_cases hj : (j : Int) < s2.1 7 F
    · have e3 : s.1 7 (F : Int).toNat = s2.1 7 F := by rw [Int.toNat_natCast, a2 7 (by decide)]
      have eL : s.1 11 (2000 * (F : Int) + (j : Int)).toNat = F0 (2000 * F + j) := by
        rw [a1, show (2000 * (F : Int) + (j : Int)).toNat = 2000 * F + j by omega]
        unfold cyN
        rw [if_neg (by omega)]
      have h8 : r8 (F0 (2000 * F + j)) := by
        rw [← eL]
        exact hW.by8 (by decide) _
      refine g_iload_n rfl rfl ?_
      refine g_aload_n rfl rfl ?_
      refine g_get (ci := 8) (kk := 6) rfl rfl hW.ob hW.b0 rfl ?_
      refine g_iload_n rfl rfl ?_
      refine g_iald rfl hW.a7 (by omega) ?_
      rw [show (s.1 7) ((F : Int)).toNat = s2.1 7 F from e3]
      refine g_icmpge rfl rfl (fun c => absurd c (by omega)) (fun c1 => ?_)
      refine g_aload_n rfl rfl ?_
      refine g_get (ci := 8) (kk := 10) rfl rfl hW.ob hW.b0 rfl ?_
      refine g_sipush (n := 2000) rfl (by decide) ?_
      refine g_iload_n rfl rfl ?_
      refine g_imul rfl (by omega) ?_
      refine g_iload_n rfl rfl ?_
      refine g_iadd rfl (by omega) ?_
      refine g_aload_n rfl rfl ?_
      refine g_get (ci := 8) (kk := 10) rfl rfl hW.ob hW.b0 rfl ?_
      refine g_sipush (n := 2000) rfl (by decide) ?_
      refine g_iload_n rfl rfl ?_
      refine g_imul rfl (by omega) ?_
      refine g_iload_n rfl rfl ?_
      refine g_iadd rfl (by omega) ?_
      refine g_bald rfl hW.a11 (by omega) ?_
      rw [show (s.1 11) ((2000 * ((F : Int))) + ((j : Int))).toNat = F0 (2000 * F + j) from eL]
      refine g_bast rfl hW.a11 hW.bk (by omega) ?_
      generalize hg_hh2 : hput h (m0 + 11) (eA 1 120000 (va_up (s.1 11) ((2000 * ((T : Int))) + ((j : Int))).toNat (a8 (F0 (2000 * F + j))))) = hh2
      obtain ⟨s3, hW, q11, o11, p11⟩ := hW.st (k := 11) (i := (2000 * (T : Int) + (j : Int)).toNat) (v := (a8 (F0 (2000 * F + j)))) (by omega) (by omega) (fun _ => a8_r _)
      rw [show (eA (mty 11) (mln 11) (va_up (s.1 11) (2000 * (T : Int) + (j : Int)).toNat (a8 (F0 (2000 * F + j)))) : AE) = eA 1 120000 (va_up (s.1 11) (2000 * (T : Int) + (j : Int)).toNat (a8 (F0 (2000 * F + j)))) from rfl, hg_hh2] at hW
      have b1 : s3.1 11 = cyN F0 F0 (2000 * T) (2000 * (F : Int)) ((j + 1 : Nat) : Int) := by
        rw [q11, a1, a8_of h8, show (2000 * (T : Int) + (j : Int)).toNat = 2000 * T + j by omega]
        funext x
        unfold va_up cyN
        by_cases z : x = 2000 * T + j
        · rw [if_pos z, if_pos (by omega), show (2000 * (F : Int)).toNat + (x - 2000 * T) = 2000 * F + j by omega]
        · rw [if_neg z]
          by_cases z2 : 2000 * T ≤ x ∧ (x : Int) < ((2000 * T : Nat) : Int) + (j : Int)
          · rw [if_pos z2, if_pos (by omega)]
          · rw [if_neg z2, if_neg (by omega)]
      refine g_iinc (L' := [aR m0, aI ((F : Int)), aI ((T : Int)), aI ((j : Int) + 1)]) rfl rfl (by omega) rfl ?_
      refine g_goto rfl rfl ?_
      exact ih (j + 1) _ s3 (by omega) (by omega) hW b1 (fun k hk => (o11 k hk).trans (a2 k hk)) (p11.trans a3)
    · have hj : s2.1 7 F = (j : Int) := by omega
      have e3 : s.1 7 (F : Int).toNat = (j : Int) := by rw [Int.toNat_natCast, a2 7 (by decide)]; exact hj
      refine g_iload_n rfl rfl ?_
      refine g_aload_n rfl rfl ?_
      refine g_get (ci := 8) (kk := 6) rfl rfl hW.ob hW.b0 rfl ?_
      refine g_iload_n rfl rfl ?_
      refine g_iald rfl hW.a7 (by omega) ?_
      rw [show (s.1 7) ((F : Int)).toNat = (j : Int) from e3]
      refine g_icmpge rfl rfl (fun c1 => ?_) (fun c => absurd c (by omega))
      exact kk _ _ _ hW (by rw [hj]; exact a1) a2 a3
theorem mv_dir {Q : AO → AH → Prop} (hW : WM B m0 h s) (F T : Nat) (hF : F < 60) (hT : T < 60) (hx : s.1 2 F = -1 ∨ (0 ≤ s.1 2 F ∧ s.1 2 F < 30)) (kk : ∀ (h : AH) (s' : MS), WM B m0 h s' → s'.1 2 = va_up (s.1 2) T (rnv (s.1 20) (s.1 2 F)) → (∀ k, k ≠ 2 → s'.1 k = s.1 k) → s'.2 = s.2 → Go d yMd_move 43 [aR m0, aI (F : Int), aI (T : Int), none] [] h Q) : Go d yMd_move 12 [aR m0, aI (F : Int), aI (T : Int), none] [] h Q := by
  refine g_aload_n rfl rfl ?_
  refine g_get (ci := 8) (kk := 1) rfl rfl hW.ob hW.b0 rfl ?_
  refine g_iload_n rfl rfl ?_
  refine g_aload_n rfl rfl ?_
  refine g_get (ci := 8) (kk := 1) rfl rfl hW.ob hW.b0 rfl ?_
  refine g_iload_n rfl rfl ?_
  refine g_iald rfl hW.a2 (by omega) ?_
  rw [show (s.1 2) ((F : Int)).toNat = s.1 2 F from by rw [Int.toNat_natCast]]
  refine g_iconst (n := -1) rfl (by decide) ?_
  refine g_icmpne rfl rfl (fun c1 => ?_) (fun c1 => ?_)
  · skip
    have y := c1
    refine g_aload_n rfl rfl ?_
    refine g_get (ci := 8) (kk := 25) rfl rfl hW.ob hW.b0 rfl ?_
    refine g_aload_n rfl rfl ?_
    refine g_get (ci := 8) (kk := 1) rfl rfl hW.ob hW.b0 rfl ?_
    refine g_iload_n rfl rfl ?_
    refine g_iald rfl hW.a2 (by omega) ?_
    rw [show (s.1 2) ((F : Int)).toNat = s.1 2 F from by rw [Int.toNat_natCast]]
    refine g_iald rfl hW.a20 (by omega) ?_
    refine g_iast rfl hW.a2 hW.bk (by omega) ?_
    generalize hg_hh2 : hput h (m0 + 2) (eA 0 60 (va_up (s.1 2) ((T : Int)).toNat ((s.1 20) (s.1 2 F).toNat))) = hh2
    obtain ⟨s3, hW, q2, o2, p2⟩ := hW.st (k := 2) (i := ((T : Nat) : Int).toNat) (v := ((s.1 20) (s.1 2 F).toNat)) (by omega) (by omega) (fun z => absurd z (by decide))
    rw [show (eA (mty 2) (mln 2) (va_up (s.1 2) ((T : Nat) : Int).toNat ((s.1 20) (s.1 2 F).toNat)) : AE) = eA 0 60 (va_up (s.1 2) ((T : Nat) : Int).toNat ((s.1 20) (s.1 2 F).toNat)) from rfl, hg_hh2] at hW
    rw [Int.toNat_natCast] at q2
    rw [show ((s.1 20) (s.1 2 F).toNat) = rnv (s.1 20) (s.1 2 F) from (if_neg y).symm] at q2
    exact kk _ _ hW q2 o2 p2
  · skip
    have y := c1
    refine g_iconst (n := -1) rfl (by decide) ?_
    refine g_goto rfl rfl ?_
    refine g_iast rfl hW.a2 hW.bk (by omega) ?_
    generalize hg_hh3 : hput h (m0 + 2) (eA 0 60 (va_up (s.1 2) ((T : Int)).toNat (-1))) = hh3
    obtain ⟨s3, hW, q2, o2, p2⟩ := hW.st (k := 2) (i := ((T : Nat) : Int).toNat) (v := (-1)) (by omega) (by omega) (fun z => absurd z (by decide))
    rw [show (eA (mty 2) (mln 2) (va_up (s.1 2) ((T : Nat) : Int).toNat (-1)) : AE) = eA 0 60 (va_up (s.1 2) ((T : Nat) : Int).toNat (-1)) from rfl, hg_hh3] at hW
    rw [Int.toNat_natCast] at q2
    rw [show (-1) = rnv (s.1 20) (s.1 2 F) from (if_pos y).symm] at q2
    exact kk _ _ hW q2 o2 p2
theorem mv_lnk {Q : AO → AH → Prop} (hW : WM B m0 h s) (F T : Nat) (hF : F < 60) (hT : T < 60) (hx : s.1 8 F = -1 ∨ (0 ≤ s.1 8 F ∧ s.1 8 F < 30)) (kk : ∀ (h : AH) (s' : MS), WM B m0 h s' → s'.1 8 = va_up (s.1 8) T (rnv (s.1 20) (s.1 8 F)) → (∀ k, k ≠ 8 → s'.1 k = s.1 k) → s'.2 = s.2 → Go d yMd_move 134 [aR m0, aI (F : Int), aI (T : Int), none] [] h Q) : Go d yMd_move 103 [aR m0, aI (F : Int), aI (T : Int), none] [] h Q := by
  refine g_aload_n rfl rfl ?_
  refine g_get (ci := 8) (kk := 7) rfl rfl hW.ob hW.b0 rfl ?_
  refine g_iload_n rfl rfl ?_
  refine g_aload_n rfl rfl ?_
  refine g_get (ci := 8) (kk := 7) rfl rfl hW.ob hW.b0 rfl ?_
  refine g_iload_n rfl rfl ?_
  refine g_iald rfl hW.a8 (by omega) ?_
  rw [show (s.1 8) ((F : Int)).toNat = s.1 8 F from by rw [Int.toNat_natCast]]
  refine g_iconst (n := -1) rfl (by decide) ?_
  refine g_icmpne rfl rfl (fun c1 => ?_) (fun c1 => ?_)
  · skip
    have y := c1
    refine g_aload_n rfl rfl ?_
    refine g_get (ci := 8) (kk := 25) rfl rfl hW.ob hW.b0 rfl ?_
    refine g_aload_n rfl rfl ?_
    refine g_get (ci := 8) (kk := 7) rfl rfl hW.ob hW.b0 rfl ?_
    refine g_iload_n rfl rfl ?_
    refine g_iald rfl hW.a8 (by omega) ?_
    rw [show (s.1 8) ((F : Int)).toNat = s.1 8 F from by rw [Int.toNat_natCast]]
    refine g_iald rfl hW.a20 (by omega) ?_
    refine g_iast rfl hW.a8 hW.bk (by omega) ?_
    generalize hg_hh2 : hput h (m0 + 8) (eA 0 60 (va_up (s.1 8) ((T : Int)).toNat ((s.1 20) (s.1 8 F).toNat))) = hh2
    obtain ⟨s3, hW, q8, o8, p8⟩ := hW.st (k := 8) (i := ((T : Nat) : Int).toNat) (v := ((s.1 20) (s.1 8 F).toNat)) (by omega) (by omega) (fun z => absurd z (by decide))
    rw [show (eA (mty 8) (mln 8) (va_up (s.1 8) ((T : Nat) : Int).toNat ((s.1 20) (s.1 8 F).toNat)) : AE) = eA 0 60 (va_up (s.1 8) ((T : Nat) : Int).toNat ((s.1 20) (s.1 8 F).toNat)) from rfl, hg_hh2] at hW
    rw [Int.toNat_natCast] at q8
    rw [show ((s.1 20) (s.1 8 F).toNat) = rnv (s.1 20) (s.1 8 F) from (if_neg y).symm] at q8
    exact kk _ _ hW q8 o8 p8
  · skip
    have y := c1
    refine g_iconst (n := -1) rfl (by decide) ?_
    refine g_goto rfl rfl ?_
    refine g_iast rfl hW.a8 hW.bk (by omega) ?_
    generalize hg_hh3 : hput h (m0 + 8) (eA 0 60 (va_up (s.1 8) ((T : Int)).toNat (-1))) = hh3
    obtain ⟨s3, hW, q8, o8, p8⟩ := hW.st (k := 8) (i := ((T : Nat) : Int).toNat) (v := (-1)) (by omega) (by omega) (fun z => absurd z (by decide))
    rw [show (eA (mty 8) (mln 8) (va_up (s.1 8) ((T : Nat) : Int).toNat (-1)) : AE) = eA 0 60 (va_up (s.1 8) ((T : Nat) : Int).toNat (-1)) from rfl, hg_hh3] at hW
    rw [Int.toNat_natCast] at q8
    rw [show (-1) = rnv (s.1 20) (s.1 8 F) from (if_pos y).symm] at q8
    exact kk _ _ hW q8 o8 p8
theorem m_move (hM : MOK s) (hW : WM B m0 h s) (F T : Nat) (hF : F < 60) (hT : T ≤ F) (h2 : s.1 2 F = -1 ∨ (0 ≤ s.1 2 F ∧ s.1 2 F < 30)) (h8 : s.1 8 F = -1 ∨ (0 ≤ s.1 8 F ∧ s.1 8 F < 30)) : Cal d yMd_move [aR m0, aI (F : Int), aI (T : Int)] h (RV none (fun h2 => ∃ s', WM B m0 h2 s' ∧ MV s s' (s.1 20) F T ∧ FR s s' T ∧ (∀ k, k = 9 ∨ 12 ≤ k → s'.1 k = s.1 k) ∧ s'.2 = s.2)) := by
  have hm := hM.1 F hF
  show Go _ _ 0 [aR m0, aI (F : Int), aI (T : Int), none] [] _ _
  refine g_aload_n rfl rfl ?_
  refine g_get (ci := 8) (kk := 0) rfl rfl hW.ob hW.b0 rfl ?_
  refine g_iload_n rfl rfl ?_
  refine g_aload_n rfl rfl ?_
  refine g_get (ci := 8) (kk := 0) rfl rfl hW.ob hW.b0 rfl ?_
  refine g_iload_n rfl rfl ?_
  refine g_iald rfl hW.a1 (by omega) ?_
  rw [show (s.1 1) ((F : Int)).toNat = s.1 1 F from by rw [Int.toNat_natCast]]
  refine g_iast rfl hW.a1 hW.bk (by omega) ?_
  generalize hg_hh1 : hput h (m0 + 1) (eA 0 60 (va_up (s.1 1) ((T : Int)).toNat (s.1 1 F))) = hh1
  obtain ⟨s1, hW, q1, o1, p1⟩ := hW.st (k := 1) (i := ((T : Nat) : Int).toNat) (v := (s.1 1 F)) (by omega) (by omega) (fun z => absurd z (by decide))
  rw [show (eA (mty 1) (mln 1) (va_up (s.1 1) ((T : Nat) : Int).toNat (s.1 1 F)) : AE) = eA 0 60 (va_up (s.1 1) ((T : Nat) : Int).toNat (s.1 1 F)) from rfl, hg_hh1] at hW
  rw [Int.toNat_natCast] at q1
  refine mv_dir hW F T hF (by omega) (by rw [o1 2 (by decide)]; exact h2) (fun h s2 hW q2 o2 p2 => ?_)
  refine g_aload_n rfl rfl ?_
  refine g_get (ci := 8) (kk := 2) rfl rfl hW.ob hW.b0 rfl ?_
  refine g_iload_n rfl rfl ?_
  refine g_aload_n rfl rfl ?_
  refine g_get (ci := 8) (kk := 2) rfl rfl hW.ob hW.b0 rfl ?_
  refine g_iload_n rfl rfl ?_
  refine g_iald rfl hW.a3 (by omega) ?_
  rw [show (s2.1 3) ((F : Int)).toNat = s.1 3 F from by rw [Int.toNat_natCast, o2 3 (by decide), o1 3 (by decide)]]
  refine g_iast rfl hW.a3 hW.bk (by omega) ?_
  generalize hg_hh1 : hput h (m0 + 3) (eA 0 60 (va_up (s2.1 3) ((T : Int)).toNat (s.1 3 F))) = hh1
  obtain ⟨s3, hW, q3, o3, p3⟩ := hW.st (k := 3) (i := ((T : Nat) : Int).toNat) (v := (s.1 3 F)) (by omega) (by omega) (fun z => absurd z (by decide))
  rw [show (eA (mty 3) (mln 3) (va_up (s2.1 3) ((T : Nat) : Int).toNat (s.1 3 F)) : AE) = eA 0 60 (va_up (s2.1 3) ((T : Nat) : Int).toNat (s.1 3 F)) from rfl, hg_hh1] at hW
  refine g_aload_n rfl rfl ?_
  refine g_get (ci := 8) (kk := 3) rfl rfl hW.ob hW.b0 rfl ?_
  refine g_iload_n rfl rfl ?_
  refine g_aload_n rfl rfl ?_
  refine g_get (ci := 8) (kk := 3) rfl rfl hW.ob hW.b0 rfl ?_
  refine g_iload_n rfl rfl ?_
  refine g_iald rfl hW.a4 (by omega) ?_
  rw [show (s3.1 4) ((F : Int)).toNat = s.1 4 F from by rw [Int.toNat_natCast, o3 4 (by decide), o2 4 (by decide), o1 4 (by decide)]]
  refine g_iast rfl hW.a4 hW.bk (by omega) ?_
  generalize hg_hh2 : hput hh1 (m0 + 4) (eA 0 60 (va_up (s3.1 4) ((T : Int)).toNat (s.1 4 F))) = hh2
  obtain ⟨s4, hW, q4, o4, p4⟩ := hW.st (k := 4) (i := ((T : Nat) : Int).toNat) (v := (s.1 4 F)) (by omega) (by omega) (fun z => absurd z (by decide))
  rw [show (eA (mty 4) (mln 4) (va_up (s3.1 4) ((T : Nat) : Int).toNat (s.1 4 F)) : AE) = eA 0 60 (va_up (s3.1 4) ((T : Nat) : Int).toNat (s.1 4 F)) from rfl, hg_hh2] at hW
  refine g_aload_n rfl rfl ?_
  refine g_get (ci := 8) (kk := 4) rfl rfl hW.ob hW.b0 rfl ?_
  refine g_iload_n rfl rfl ?_
  refine g_aload_n rfl rfl ?_
  refine g_get (ci := 8) (kk := 4) rfl rfl hW.ob hW.b0 rfl ?_
  refine g_iload_n rfl rfl ?_
  refine g_iald rfl hW.a5 (by omega) ?_
  rw [show (s4.1 5) ((F : Int)).toNat = s.1 5 F from by rw [Int.toNat_natCast, o4 5 (by decide), o3 5 (by decide), o2 5 (by decide), o1 5 (by decide)]]
  refine g_iast rfl hW.a5 hW.bk (by omega) ?_
  generalize hg_hh3 : hput hh2 (m0 + 5) (eA 0 60 (va_up (s4.1 5) ((T : Int)).toNat (s.1 5 F))) = hh3
  obtain ⟨s5, hW, q5, o5, p5⟩ := hW.st (k := 5) (i := ((T : Nat) : Int).toNat) (v := (s.1 5 F)) (by omega) (by omega) (fun z => absurd z (by decide))
  rw [show (eA (mty 5) (mln 5) (va_up (s4.1 5) ((T : Nat) : Int).toNat (s.1 5 F)) : AE) = eA 0 60 (va_up (s4.1 5) ((T : Nat) : Int).toNat (s.1 5 F)) from rfl, hg_hh3] at hW
  refine g_aload_n rfl rfl ?_
  refine g_get (ci := 8) (kk := 5) rfl rfl hW.ob hW.b0 rfl ?_
  refine g_iload_n rfl rfl ?_
  refine g_aload_n rfl rfl ?_
  refine g_get (ci := 8) (kk := 5) rfl rfl hW.ob hW.b0 rfl ?_
  refine g_iload_n rfl rfl ?_
  refine g_iald rfl hW.a6 (by omega) ?_
  rw [show (s5.1 6) ((F : Int)).toNat = s.1 6 F from by rw [Int.toNat_natCast, o5 6 (by decide), o4 6 (by decide), o3 6 (by decide), o2 6 (by decide), o1 6 (by decide)]]
  refine g_iast rfl hW.a6 hW.bk (by omega) ?_
  generalize hg_hh4 : hput hh3 (m0 + 6) (eA 0 60 (va_up (s5.1 6) ((T : Int)).toNat (s.1 6 F))) = hh4
  obtain ⟨s6, hW, q6, o6, p6⟩ := hW.st (k := 6) (i := ((T : Nat) : Int).toNat) (v := (s.1 6 F)) (by omega) (by omega) (fun z => absurd z (by decide))
  rw [show (eA (mty 6) (mln 6) (va_up (s5.1 6) ((T : Nat) : Int).toNat (s.1 6 F)) : AE) = eA 0 60 (va_up (s5.1 6) ((T : Nat) : Int).toNat (s.1 6 F)) from rfl, hg_hh4] at hW
  refine g_aload_n rfl rfl ?_
  refine g_get (ci := 8) (kk := 6) rfl rfl hW.ob hW.b0 rfl ?_
  refine g_iload_n rfl rfl ?_
  refine g_aload_n rfl rfl ?_
  refine g_get (ci := 8) (kk := 6) rfl rfl hW.ob hW.b0 rfl ?_
  refine g_iload_n rfl rfl ?_
  refine g_iald rfl hW.a7 (by omega) ?_
  rw [show (s6.1 7) ((F : Int)).toNat = s.1 7 F from by rw [Int.toNat_natCast, o6 7 (by decide), o5 7 (by decide), o4 7 (by decide), o3 7 (by decide), o2 7 (by decide), o1 7 (by decide)]]
  refine g_iast rfl hW.a7 hW.bk (by omega) ?_
  generalize hg_hh5 : hput hh4 (m0 + 7) (eA 0 60 (va_up (s6.1 7) ((T : Int)).toNat (s.1 7 F))) = hh5
  obtain ⟨s7, hW, q7, o7, p7⟩ := hW.st (k := 7) (i := ((T : Nat) : Int).toNat) (v := (s.1 7 F)) (by omega) (by omega) (fun z => absurd z (by decide))
  rw [show (eA (mty 7) (mln 7) (va_up (s6.1 7) ((T : Nat) : Int).toNat (s.1 7 F)) : AE) = eA 0 60 (va_up (s6.1 7) ((T : Nat) : Int).toNat (s.1 7 F)) from rfl, hg_hh5] at hW
  rw [Int.toNat_natCast] at q3 q4 q5 q6 q7
  have c8 : s7.1 8 = s.1 8 := by rw [o7 8 (by decide), o6 8 (by decide), o5 8 (by decide), o4 8 (by decide), o3 8 (by decide), o2 8 (by decide), o1 8 (by decide)]
  refine mv_lnk hW F T hF (by omega) (by rw [c8]; exact h8) (fun h s8 hW q8 o8 p8 => ?_)
  refine g_iconst (n := 0) rfl (by decide) ?_
  refine g_istore_n (L' := [aR m0, aI ((F : Int)), aI ((T : Int)), aI 0]) rfl rfl ?_
  have c10 : s8.1 10 = s.1 10 := by rw [o8 10 (by decide), o7 10 (by decide), o6 10 (by decide), o5 10 (by decide), o4 10 (by decide), o3 10 (by decide), o2 10 (by decide), o1 10 (by decide)]
  have c11 : s8.1 11 = s.1 11 := by rw [o8 11 (by decide), o7 11 (by decide), o6 11 (by decide), o5 11 (by decide), o4 11 (by decide), o3 11 (by decide), o2 11 (by decide), o1 11 (by decide)]
  have c3 : s8.1 3 = va_up (s.1 3) T (s.1 3 F) := by rw [o8 3 (by decide), o7 3 (by decide), o6 3 (by decide), o5 3 (by decide), o4 3 (by decide), q3, o2 3 (by decide), o1 3 (by decide)]
  have c7 : s8.1 7 = va_up (s.1 7) T (s.1 7 F) := by rw [o8 7 (by decide), q7, o6 7 (by decide), o5 7 (by decide), o4 7 (by decide), o3 7 (by decide), o2 7 (by decide), o1 7 (by decide)]
  have d3 : s8.1 3 F = s.1 3 F := by rw [c3]; simp only [va_up]; split <;> rfl
  have d7 : s8.1 7 F = s.1 7 F := by rw [c7]; simp only [va_up]; split <;> rfl
  refine nv_loop (d := d) (B := B) (m0 := m0) s8 (s.1 10) F T hF hT (by rw [d3]; omega) (fun h s9 v3 hW f10 f9 g9 => ?_) (s8.1 3 F).toNat 0 _ s8 (by rw [d3]; omega) (by omega) hW (by rw [c10]; funext x; unfold cyN; rw [if_neg (by omega)]) (fun _ _ => rfl) rfl
  refine g_iconst (n := 0) rfl (by decide) ?_
  refine g_istore_n (L' := [aR m0, aI ((F : Int)), aI ((T : Int)), aI 0]) rfl rfl ?_
  have d7b : s9.1 7 F = s.1 7 F := by rw [f9 7 (by decide)]; exact d7
  refine bv_loop (d := d) (B := B) (m0 := m0) s9 (s.1 11) F T hF hT (by rw [d7b]; omega) (fun h sA v4 hW f11 fA gA => ?_) (s9.1 7 F).toNat 0 _ s9 (by rw [d7b]; omega) (by omega) hW (by rw [f9 11 (by decide), c11]; funext x; unfold cyN; rw [if_neg (by omega)]) (fun _ _ => rfl) rfl
  have g1 : sA.1 1 = va_up (s.1 1) T (s.1 1 F) := by rw [fA 1 (by decide), f9 1 (by decide), o8 1 (by decide), o7 1 (by decide), o6 1 (by decide), o5 1 (by decide), o4 1 (by decide), o3 1 (by decide), o2 1 (by decide), q1]
  have g2 : sA.1 2 = va_up (s.1 2) T (rnv (s.1 20) (s.1 2 F)) := by rw [fA 2 (by decide), f9 2 (by decide), o8 2 (by decide), o7 2 (by decide), o6 2 (by decide), o5 2 (by decide), o4 2 (by decide), o3 2 (by decide), q2, o1 20 (by decide), o1 2 (by decide)]
  have g3 : sA.1 3 = va_up (s.1 3) T (s.1 3 F) := by rw [fA 3 (by decide), f9 3 (by decide), o8 3 (by decide), o7 3 (by decide), o6 3 (by decide), o5 3 (by decide), o4 3 (by decide), q3, o2 3 (by decide), o1 3 (by decide)]
  have g4 : sA.1 4 = va_up (s.1 4) T (s.1 4 F) := by rw [fA 4 (by decide), f9 4 (by decide), o8 4 (by decide), o7 4 (by decide), o6 4 (by decide), o5 4 (by decide), q4, o3 4 (by decide), o2 4 (by decide), o1 4 (by decide)]
  have g5 : sA.1 5 = va_up (s.1 5) T (s.1 5 F) := by rw [fA 5 (by decide), f9 5 (by decide), o8 5 (by decide), o7 5 (by decide), o6 5 (by decide), q5, o4 5 (by decide), o3 5 (by decide), o2 5 (by decide), o1 5 (by decide)]
  have g6 : sA.1 6 = va_up (s.1 6) T (s.1 6 F) := by rw [fA 6 (by decide), f9 6 (by decide), o8 6 (by decide), o7 6 (by decide), q6, o5 6 (by decide), o4 6 (by decide), o3 6 (by decide), o2 6 (by decide), o1 6 (by decide)]
  have g7 : sA.1 7 = va_up (s.1 7) T (s.1 7 F) := by rw [fA 7 (by decide), f9 7 (by decide), o8 7 (by decide), q7, o6 7 (by decide), o5 7 (by decide), o4 7 (by decide), o3 7 (by decide), o2 7 (by decide), o1 7 (by decide)]
  have g8 : sA.1 8 = va_up (s.1 8) T (rnv (s.1 20) (s.1 8 F)) := by rw [fA 8 (by decide), f9 8 (by decide), q8, c8, o7 20 (by decide), o6 20 (by decide), o5 20 (by decide), o4 20 (by decide), o3 20 (by decide), o2 20 (by decide), o1 20 (by decide)]
  have k10 : sA.1 10 = cyN (s.1 10) (s.1 10) (100 * T) (100 * (F : Int)) (s.1 3 F) := by rw [fA 10 (by decide), f10, d3]
  have k11 : sA.1 11 = cyN (s.1 11) (s.1 11) (2000 * T) (2000 * (F : Int)) (s.1 7 F) := by rw [f11, d7b]
  have ho : ∀ k, k = 9 ∨ 12 ≤ k → sA.1 k = s.1 k := fun k hk => by rw [fA k (by omega), f9 k (by omega), o8 k (by omega), o7 k (by omega), o6 k (by omega), o5 k (by omega), o4 k (by omega), o3 k (by omega), o2 k (by omega), o1 k (by omega)]
  have hg2 : sA.2 = s.2 := by rw [gA, g9, p8, p7, p6, p5, p4, p3, p2, p1]
  have hMV : MV s sA (s.1 20) F T := by
    refine ⟨⟨by rw [g1]; simp [va_up], by rw [g2]; simp [va_up], by rw [g3]; simp [va_up], by rw [g4]; simp [va_up], by rw [g5]; simp [va_up], by rw [g6]; simp [va_up], by rw [g7]; simp [va_up], by rw [g8]; simp [va_up]⟩, fun j hj => ?_, fun j hj => ?_⟩
    · rw [k10]
      unfold cyN
      rw [if_pos (by omega), show (100 * (F : Int)).toNat + (100 * T + j - 100 * T) = 100 * F + j by omega]
    · rw [k11]
      unfold cyN
      rw [if_pos (by omega), show (2000 * (F : Int)).toNat + (2000 * T + j - 2000 * T) = 2000 * F + j by omega]
  have hFR : FR s sA T := by
    refine ⟨fun k k1 k8 x hx => ?_, fun x hx => ?_, fun x hx => ?_⟩
    · rcases (by omega : k = 1 ∨ k = 2 ∨ k = 3 ∨ k = 4 ∨ k = 5 ∨ k = 6 ∨ k = 7 ∨ k = 8) with z | z | z | z | z | z | z | z <;> subst z
      · rw [g1]; simp [va_up, hx]
      · rw [g2]; simp [va_up, hx]
      · rw [g3]; simp [va_up, hx]
      · rw [g4]; simp [va_up, hx]
      · rw [g5]; simp [va_up, hx]
      · rw [g6]; simp [va_up, hx]
      · rw [g7]; simp [va_up, hx]
      · rw [g8]; simp [va_up, hx]
    · rw [k10]
      unfold cyN
      rw [if_neg (by omega)]
    · rw [k11]
      unfold cyN
      rw [if_neg (by omega)]
  exact r_v rfl rfl ⟨sA, hW, hMV, hFR, ho, hg2⟩
end Md23
