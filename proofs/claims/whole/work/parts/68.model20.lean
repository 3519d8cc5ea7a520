/-! The reference: add. -/
section Md20
variable {B h : AH} {m0 d t u : Nat} {s s' : MS} {c : Int}
def cyN (F0 F : Nat → Int) (a0 : Nat) (f : Int) (j : Int) : Nat → Int := fun x => if a0 ≤ x ∧ (x : Int) < a0 + j then F (f.toNat + (x - a0)) else F0 x
def AD (s s' : MS) (u : Nat) (dir kind : Int) (F : Nat → Int) (f n : Int) (K : Nat) : Prop := FR s s' K ∧ s'.1 9 = va_up (s.1 9) u (s.1 9 u + 1) ∧ (∀ k, 11 ≤ k → s'.1 k = s.1 k) ∧ s'.2 = s.2 ∧ s'.1 1 K = kind ∧ s'.1 2 K = dir ∧ s'.1 3 K = n ∧ s'.1 4 K = 0 ∧ s'.1 5 K = 0 ∧ s'.1 6 K = 0 ∧ s'.1 7 K = 0 ∧ s'.1 8 K = -1 ∧ ∀ j : Nat, (j : Int) < n → s'.1 10 (100 * K + j) = F (f.toNat + j)
theorem ad_loop13 {Q : AO → AH → Prop} (s2 : MS) (F0 : Nat → Int) (at0 inn kind : Int) (K : Nat) (hK : K < 60) (f n : Int) (hf : 0 ≤ f) (hn : n ≤ 100) (hfn : f + n ≤ 3200) (kk : ∀ (h : AH) (s : MS) (v8 : Int), WM B m0 h s → s.1 10 = cyN F0 (s2.1 13) (100 * K) f n → (∀ k, k ≠ 10 → s.1 k = s2.1 k) → s.2 = s2.2 → Go d yMd_add 88 [aR m0, aI at0, aI inn, aI kind, aR (m0 + 13), aI f, aI n, aI (K : Int), aI v8] [] h Q) : ∀ (q j : Nat) (h : AH) (s : MS), (j : Int) ≤ n → (n - j).toNat ≤ q → WM B m0 h s → s.1 10 = cyN F0 (s2.1 13) (100 * K) f (j : Int) → (∀ k, k ≠ 10 → s.1 k = s2.1 k) → s.2 = s2.2 → Go d yMd_add 54 [aR m0, aI at0, aI inn, aI kind, aR (m0 + 13), aI f, aI n, aI (K : Int), aI (j : Int)] [] h Q := by
  intro q
  induction q with
  | zero =>
    intro j h s h1 h2 hW a1 a2 a3
    obtain rfl : (j : Int) = n := by omega
    refine g_iload rfl rfl ?_
    refine g_iload rfl rfl ?_
    refine g_icmpge rfl rfl (fun c1 => ?_) (fun c => absurd c (by omega))
    exact kk _ _ _ hW a1 a2 a3
  | succ q ih =>
    intro j h s h1 h2 hW a1 a2 a3
    by_cases hj : (j : Int) < n
    · have e1 : (100 * (K : Int) + (j : Int)).toNat = 100 * K + j := by omega
      have er : s.1 13 (f + (j : Int)).toNat = s2.1 13 (f.toNat + j) := by
        rw [a2 13 (by decide), show (f + (j : Int)).toNat = f.toNat + j by omega]
      have h8 : r8 (s2.1 13 (f.toNat + j)) := by
        rw [← a2 13 (by decide)]
        exact hW.by8 (by decide) _
      refine g_iload rfl rfl ?_
      refine g_iload rfl rfl ?_
      refine g_icmpge rfl rfl (fun c => absurd c (by omega)) (fun c1 => ?_)
      refine g_aload_n rfl rfl ?_
      refine g_get (ci := 8) (kk := 9) rfl rfl hW.ob hW.b0 rfl ?_
      refine g_bipush (n := 100) rfl (by decide) ?_
      refine g_iload rfl rfl ?_
      refine g_imul rfl (by omega) ?_
      refine g_iload rfl rfl ?_
      refine g_iadd rfl (by omega) ?_
      refine g_aload rfl rfl ?_
      refine g_iload rfl rfl ?_
      refine g_iload rfl rfl ?_
      refine g_iadd rfl (by omega) ?_
      refine g_bald rfl hW.a13 (by omega) ?_
      rw [show (s.1 13) (f + ((j : Int))).toNat = s2.1 13 (f.toNat + j) from er]
      refine g_bast rfl hW.a10 hW.bk (by omega) ?_
      generalize hg_hh2 : hput h (m0 + 10) (eA 1 6000 (va_up (s.1 10) ((100 * ((K : Int))) + ((j : Int))).toNat (a8 (s2.1 13 (f.toNat + j))))) = hh2
      obtain ⟨s3, hW, q10, o10, p10⟩ := hW.st (k := 10) (i := (100 * (K : Int) + (j : Int)).toNat) (v := (a8 (s2.1 13 (f.toNat + j)))) (by omega) (by omega) (fun _ => a8_r _)
      rw [show (eA (mty 10) (mln 10) (va_up (s.1 10) (100 * (K : Int) + (j : Int)).toNat (a8 (s2.1 13 (f.toNat + j)))) : AE) = eA 1 6000 (va_up (s.1 10) (100 * (K : Int) + (j : Int)).toNat (a8 (s2.1 13 (f.toNat + j)))) from rfl, hg_hh2] at hW
      have b1 : s3.1 10 = cyN F0 (s2.1 13) (100 * K) f ((j + 1 : Nat) : Int) := by
        rw [q10, a1, a8_of h8, e1]
        funext x
        unfold va_up cyN
        by_cases z : x = 100 * K + j
        · rw [if_pos z, if_pos (by omega), show x - 100 * K = j by omega]
        · rw [if_neg z]
          by_cases z2 : 100 * K ≤ x ∧ (x : Int) < ((100 * K : Nat) : Int) + (j : Int)
          · rw [if_pos z2, if_pos (by omega)]
          · rw [if_neg z2, if_neg (by omega)]
      refine g_iinc (L' := [aR m0, aI at0, aI inn, aI kind, aR (m0 + 13), aI f, aI n, aI ((K : Int)), aI ((j : Int) + 1)]) rfl rfl (by omega) rfl ?_
      refine g_goto rfl rfl ?_
      exact ih (j + 1) _ s3 (by omega) (by omega) hW b1 (fun k hk => (o10 k hk).trans (a2 k hk)) (p10.trans a3)
    · obtain rfl : (j : Int) = n := by omega
      refine g_iload rfl rfl ?_
      refine g_iload rfl rfl ?_
      refine g_icmpge rfl rfl (fun c1 => ?_) (fun c => absurd c (by omega))
      exact kk _ _ _ hW a1 a2 a3
theorem m_add13 (hu : u < 2) (hW : WM B m0 h s) (inn kind : Int) (f n : Int) (hf : 0 ≤ f) (hn0 : 0 ≤ n) (hn : n ≤ 100) (hfn : f + n ≤ 3200) (hc1 : 1 ≤ s.1 9 u) (hc2 : s.1 9 u < 30) : Cal d yMd_add [aR m0, aI (30 * (u : Int)), aI inn, aI kind, aR (m0 + 13), aI f, aI n] h (RV none (fun h2 => ∃ s', WM B m0 h2 s' ∧ AD s s' u inn kind (s.1 13) f n (30 * u + (s.1 9 u).toNat))) := by
  show Go _ _ 0 [aR m0, aI (30 * (u : Int)), aI inn, aI kind, aR (m0 + 13), aI f, aI n, none, none] [] _ _
  obtain ⟨K, hK⟩ : ∃ K : Nat, K = 30 * u + (s.1 9 u).toNat := ⟨_, rfl⟩
  have hKi : 30 * (u : Int) + s.1 9 u = (K : Int) := by omega
  rw [← hK]
  refine g_iload_n rfl rfl ?_
  refine g_aload_n rfl rfl ?_
  refine g_get (ci := 8) (kk := 8) rfl rfl hW.ob hW.b0 rfl ?_
  refine g_iload_n rfl rfl ?_
  refine g_bipush (n := 30) rfl (by decide) ?_
  refine g_idiv (v := (u : Int)) rfl (by decide) ((a_div30 (by omega) (by omega)).trans (by omega)) ?_
  refine g_iald rfl hW.a9 (by omega) ?_
  rw [show (s.1 9) ((u : Int)).toNat = s.1 9 u from by rw [Int.toNat_natCast]]
  refine g_iadd rfl (by omega) ?_
  rw [hKi]
  refine g_istore (L' := [aR m0, aI (30 * (u : Int)), aI inn, aI kind, aR (m0 + 13), aI f, aI n, aI ((K : Int)), none]) rfl rfl ?_
  refine g_aload_n rfl rfl ?_
  refine g_get (ci := 8) (kk := 8) rfl rfl hW.ob hW.b0 rfl ?_
  refine g_iload_n rfl rfl ?_
  refine g_bipush (n := 30) rfl (by decide) ?_
  refine g_idiv (v := (u : Int)) rfl (by decide) ((a_div30 (by omega) (by omega)).trans (by omega)) ?_
  refine g_dup2 rfl rfl rfl ?_
  refine g_iald rfl hW.a9 (by omega) ?_
  rw [show (s.1 9) ((u : Int)).toNat = s.1 9 u from by rw [Int.toNat_natCast]]
  refine g_iconst (n := 1) rfl (by decide) ?_
  refine g_iadd rfl (by omega) ?_
  refine g_iast rfl hW.a9 hW.bk (by omega) ?_
  generalize hg_hh1 : hput h (m0 + 9) (eA 0 2 (va_up (s.1 9) ((u : Int)).toNat ((s.1 9 u) + 1))) = hh1
  obtain ⟨s2, hW, q9, o9, p9⟩ := hW.st (k := 9) (i := (u : Int).toNat) (v := (s.1 9 u + 1)) (by omega) (by omega) (fun z => absurd z (by decide))
  rw [show (eA (mty 9) (mln 9) (va_up (s.1 9) (u : Int).toNat (s.1 9 u + 1)) : AE) = eA 0 2 (va_up (s.1 9) (u : Int).toNat (s.1 9 u + 1)) from rfl, hg_hh1] at hW
  refine g_aload_n rfl rfl ?_
  refine g_get (ci := 8) (kk := 0) rfl rfl hW.ob hW.b0 rfl ?_
  refine g_iload rfl rfl ?_
  refine g_iload_n rfl rfl ?_
  refine g_iast rfl hW.a1 hW.bk (by omega) ?_
  generalize hg_hh2 : hput hh1 (m0 + 1) (eA 0 60 (va_up (s2.1 1) ((K : Int)).toNat kind)) = hh2
  obtain ⟨s3, hW, q1, o1, p1⟩ := hW.st (k := 1) (i := (K : Int).toNat) (v := kind) (by omega) (by omega) (fun z => absurd z (by decide))
  rw [show (eA (mty 1) (mln 1) (va_up (s2.1 1) (K : Int).toNat kind) : AE) = eA 0 60 (va_up (s2.1 1) (K : Int).toNat kind) from rfl, hg_hh2] at hW
  refine g_aload_n rfl rfl ?_
  refine g_get (ci := 8) (kk := 1) rfl rfl hW.ob hW.b0 rfl ?_
  refine g_iload rfl rfl ?_
  refine g_iload_n rfl rfl ?_
  refine g_iast rfl hW.a2 hW.bk (by omega) ?_
  generalize hg_hh3 : hput hh2 (m0 + 2) (eA 0 60 (va_up (s3.1 2) ((K : Int)).toNat inn)) = hh3
  obtain ⟨s4, hW, q2, o2, p2⟩ := hW.st (k := 2) (i := (K : Int).toNat) (v := inn) (by omega) (by omega) (fun z => absurd z (by decide))
  rw [show (eA (mty 2) (mln 2) (va_up (s3.1 2) (K : Int).toNat inn) : AE) = eA 0 60 (va_up (s3.1 2) (K : Int).toNat inn) from rfl, hg_hh3] at hW
  refine g_aload_n rfl rfl ?_
  refine g_get (ci := 8) (kk := 2) rfl rfl hW.ob hW.b0 rfl ?_
  refine g_iload rfl rfl ?_
  refine g_iload rfl rfl ?_
  refine g_iast rfl hW.a3 hW.bk (by omega) ?_
  generalize hg_hh4 : hput hh3 (m0 + 3) (eA 0 60 (va_up (s4.1 3) ((K : Int)).toNat n)) = hh4
  obtain ⟨s5, hW, q3, o3, p3⟩ := hW.st (k := 3) (i := (K : Int).toNat) (v := n) (by omega) (by omega) (fun z => absurd z (by decide))
  rw [show (eA (mty 3) (mln 3) (va_up (s4.1 3) (K : Int).toNat n) : AE) = eA 0 60 (va_up (s4.1 3) (K : Int).toNat n) from rfl, hg_hh4] at hW
  refine g_iconst (n := 0) rfl (by decide) ?_
  refine g_istore (L' := [aR m0, aI (30 * (u : Int)), aI inn, aI kind, aR (m0 + 13), aI f, aI n, aI ((K : Int)), aI 0]) rfl rfl ?_
  refine ad_loop13 (d := d) (B := B) (m0 := m0) s5 (s5.1 10) (30 * (u : Int)) inn kind K (by omega) f n hf hn hfn (fun h s6 v8 hW f10 fo f2 => ?_) n.toNat 0 _ s5 (by omega) (by omega) hW (by funext x; unfold cyN; rw [if_neg (by omega)]) (fun _ _ => rfl) rfl
  refine g_aload_n rfl rfl ?_
  refine g_get (ci := 8) (kk := 3) rfl rfl hW.ob hW.b0 rfl ?_
  refine g_iload rfl rfl ?_
  refine g_iconst (n := 0) rfl (by decide) ?_
  refine g_iast rfl hW.a4 hW.bk (by omega) ?_
  generalize hg_hh1 : hput h (m0 + 4) (eA 0 60 (va_up (s6.1 4) ((K : Int)).toNat 0)) = hh1
  obtain ⟨s7, hW, q4, o4, p4⟩ := hW.st (k := 4) (i := (K : Int).toNat) (v := 0) (by omega) (by omega) (fun z => absurd z (by decide))
  rw [show (eA (mty 4) (mln 4) (va_up (s6.1 4) (K : Int).toNat 0) : AE) = eA 0 60 (va_up (s6.1 4) (K : Int).toNat 0) from rfl, hg_hh1] at hW
  refine g_aload_n rfl rfl ?_
  refine g_get (ci := 8) (kk := 4) rfl rfl hW.ob hW.b0 rfl ?_
  refine g_iload rfl rfl ?_
  refine g_iconst (n := 0) rfl (by decide) ?_
  refine g_iast rfl hW.a5 hW.bk (by omega) ?_
  generalize hg_hh2 : hput hh1 (m0 + 5) (eA 0 60 (va_up (s7.1 5) ((K : Int)).toNat 0)) = hh2
  obtain ⟨s8, hW, q5, o5, p5⟩ := hW.st (k := 5) (i := (K : Int).toNat) (v := 0) (by omega) (by omega) (fun z => absurd z (by decide))
  rw [show (eA (mty 5) (mln 5) (va_up (s7.1 5) (K : Int).toNat 0) : AE) = eA 0 60 (va_up (s7.1 5) (K : Int).toNat 0) from rfl, hg_hh2] at hW
  refine g_aload_n rfl rfl ?_
  refine g_get (ci := 8) (kk := 5) rfl rfl hW.ob hW.b0 rfl ?_
  refine g_iload rfl rfl ?_
  refine g_iconst (n := 0) rfl (by decide) ?_
  refine g_iast rfl hW.a6 hW.bk (by omega) ?_
  generalize hg_hh3 : hput hh2 (m0 + 6) (eA 0 60 (va_up (s8.1 6) ((K : Int)).toNat 0)) = hh3
  obtain ⟨s9, hW, q6, o6, p6⟩ := hW.st (k := 6) (i := (K : Int).toNat) (v := 0) (by omega) (by omega) (fun z => absurd z (by decide))
  rw [show (eA (mty 6) (mln 6) (va_up (s8.1 6) (K : Int).toNat 0) : AE) = eA 0 60 (va_up (s8.1 6) (K : Int).toNat 0) from rfl, hg_hh3] at hW
  refine g_aload_n rfl rfl ?_
  refine g_get (ci := 8) (kk := 6) rfl rfl hW.ob hW.b0 rfl ?_
  refine g_iload rfl rfl ?_
  refine g_iconst (n := 0) rfl (by decide) ?_
  refine g_iast rfl hW.a7 hW.bk (by omega) ?_
  generalize hg_hh4 : hput hh3 (m0 + 7) (eA 0 60 (va_up (s9.1 7) ((K : Int)).toNat 0)) = hh4
  obtain ⟨s10, hW, q7, o7, p7⟩ := hW.st (k := 7) (i := (K : Int).toNat) (v := 0) (by omega) (by omega) (fun z => absurd z (by decide))
  rw [show (eA (mty 7) (mln 7) (va_up (s9.1 7) (K : Int).toNat 0) : AE) = eA 0 60 (va_up (s9.1 7) (K : Int).toNat 0) from rfl, hg_hh4] at hW
  refine g_aload_n rfl rfl ?_
  refine g_get (ci := 8) (kk := 7) rfl rfl hW.ob hW.b0 rfl ?_
  refine g_iload rfl rfl ?_
  refine g_iconst (n := -1) rfl (by decide) ?_
  refine g_iast rfl hW.a8 hW.bk (by omega) ?_
  generalize hg_hh5 : hput hh4 (m0 + 8) (eA 0 60 (va_up (s10.1 8) ((K : Int)).toNat (-1))) = hh5
  obtain ⟨s11, hW, q8, o8, p8⟩ := hW.st (k := 8) (i := (K : Int).toNat) (v := (-1)) (by omega) (by omega) (fun z => absurd z (by decide))
  rw [show (eA (mty 8) (mln 8) (va_up (s10.1 8) (K : Int).toNat (-1)) : AE) = eA 0 60 (va_up (s10.1 8) (K : Int).toNat (-1)) from rfl, hg_hh5] at hW
  rw [Int.toNat_natCast] at q9 q1 q2 q3 q4 q5 q6 q7 q8
  have g1 : s11.1 1 = va_up (s.1 1) K kind := by rw [o8 1 (by decide), o7 1 (by decide), o6 1 (by decide), o5 1 (by decide), o4 1 (by decide), fo 1 (by decide), o3 1 (by decide), o2 1 (by decide), q1, o9 1 (by decide)]
  have g2 : s11.1 2 = va_up (s.1 2) K inn := by rw [o8 2 (by decide), o7 2 (by decide), o6 2 (by decide), o5 2 (by decide), o4 2 (by decide), fo 2 (by decide), o3 2 (by decide), q2, o1 2 (by decide), o9 2 (by decide)]
  have g3 : s11.1 3 = va_up (s.1 3) K n := by rw [o8 3 (by decide), o7 3 (by decide), o6 3 (by decide), o5 3 (by decide), o4 3 (by decide), fo 3 (by decide), q3, o2 3 (by decide), o1 3 (by decide), o9 3 (by decide)]
  have g4 : s11.1 4 = va_up (s.1 4) K 0 := by rw [o8 4 (by decide), o7 4 (by decide), o6 4 (by decide), o5 4 (by decide), q4, fo 4 (by decide), o3 4 (by decide), o2 4 (by decide), o1 4 (by decide), o9 4 (by decide)]
  have g5 : s11.1 5 = va_up (s.1 5) K 0 := by rw [o8 5 (by decide), o7 5 (by decide), o6 5 (by decide), q5, o4 5 (by decide), fo 5 (by decide), o3 5 (by decide), o2 5 (by decide), o1 5 (by decide), o9 5 (by decide)]
  have g6 : s11.1 6 = va_up (s.1 6) K 0 := by rw [o8 6 (by decide), o7 6 (by decide), q6, o5 6 (by decide), o4 6 (by decide), fo 6 (by decide), o3 6 (by decide), o2 6 (by decide), o1 6 (by decide), o9 6 (by decide)]
  have g7 : s11.1 7 = va_up (s.1 7) K 0 := by rw [o8 7 (by decide), q7, o6 7 (by decide), o5 7 (by decide), o4 7 (by decide), fo 7 (by decide), o3 7 (by decide), o2 7 (by decide), o1 7 (by decide), o9 7 (by decide)]
  have g8 : s11.1 8 = va_up (s.1 8) K (-1) := by rw [q8, o7 8 (by decide), o6 8 (by decide), o5 8 (by decide), o4 8 (by decide), fo 8 (by decide), o3 8 (by decide), o2 8 (by decide), o1 8 (by decide), o9 8 (by decide)]
  have g9 : s11.1 9 = va_up (s.1 9) u (s.1 9 u + 1) := by rw [o8 9 (by decide), o7 9 (by decide), o6 9 (by decide), o5 9 (by decide), o4 9 (by decide), fo 9 (by decide), o3 9 (by decide), o2 9 (by decide), o1 9 (by decide), q9]
  have g10 : s11.1 10 = cyN (s.1 10) (s.1 13) (100 * K) f n := by rw [o8 10 (by decide), o7 10 (by decide), o6 10 (by decide), o5 10 (by decide), o4 10 (by decide), f10, o3 10 (by decide), o2 10 (by decide), o1 10 (by decide), o9 10 (by decide), o3 13 (by decide), o2 13 (by decide), o1 13 (by decide), o9 13 (by decide)]
  have go : ∀ k, 11 ≤ k → s11.1 k = s.1 k := fun k hk => by rw [o8 k (by omega), o7 k (by omega), o6 k (by omega), o5 k (by omega), o4 k (by omega), fo k (by omega), o3 k (by omega), o2 k (by omega), o1 k (by omega), o9 k (by omega)]
  have hg2 : s11.2 = s.2 := by rw [p8, p7, p6, p5, p4, f2, p3, p2, p1, p9]
  have hAD : AD s s11 u inn kind (s.1 13) f n K := by
    refine ⟨⟨fun k k1 k8 x hx => ?_, fun x hx => ?_, fun x hx => by rw [go 11 (by omega)]⟩, g9, go, hg2, ?_⟩
    · rcases (by omega : k = 1 ∨ k = 2 ∨ k = 3 ∨ k = 4 ∨ k = 5 ∨ k = 6 ∨ k = 7 ∨ k = 8) with z | z | z | z | z | z | z | z <;> subst z
      · rw [g1]; simp [va_up, hx]
      · rw [g2]; simp [va_up, hx]
      · rw [g3]; simp [va_up, hx]
      · rw [g4]; simp [va_up, hx]
      · rw [g5]; simp [va_up, hx]
      · rw [g6]; simp [va_up, hx]
      · rw [g7]; simp [va_up, hx]
      · rw [g8]; simp [va_up, hx]
    · rw [g10]
      unfold cyN
      rw [if_neg (by omega)]
    · refine ⟨by rw [g1]; simp [va_up], by rw [g2]; simp [va_up], by rw [g3]; simp [va_up], by rw [g4]; simp [va_up], by rw [g5]; simp [va_up], by rw [g6]; simp [va_up], by rw [g7]; simp [va_up], by rw [g8]; simp [va_up], fun j hj => ?_⟩
      rw [g10]
      unfold cyN
      rw [if_pos (by omega), show 100 * K + j - 100 * K = j by omega]
  exact r_v rfl rfl ⟨s11, hW, hAD⟩
theorem ad_loop15 {Q : AO → AH → Prop} (s2 : MS) (F0 : Nat → Int) (at0 inn kind : Int) (K : Nat) (hK : K < 60) (f n : Int) (hf : 0 ≤ f) (hn : n ≤ 100) (hfn : f + n ≤ 100) (kk : ∀ (h : AH) (s : MS) (v8 : Int), WM B m0 h s → s.1 10 = cyN F0 (s2.1 15) (100 * K) f n → (∀ k, k ≠ 10 → s.1 k = s2.1 k) → s.2 = s2.2 → Go d yMd_add 88 [aR m0, aI at0, aI inn, aI kind, aR (m0 + 15), aI f, aI n, aI (K : Int), aI v8] [] h Q) : ∀ (q j : Nat) (h : AH) (s : MS), (j : Int) ≤ n → (n - j).toNat ≤ q → WM B m0 h s → s.1 10 = cyN F0 (s2.1 15) (100 * K) f (j : Int) → (∀ k, k ≠ 10 → s.1 k = s2.1 k) → s.2 = s2.2 → Go d yMd_add 54 [aR m0, aI at0, aI inn, aI kind, aR (m0 + 15), aI f, aI n, aI (K : Int), aI (j : Int)] [] h Q := by
  intro q
  induction q with
  | zero =>
    intro j h s h1 h2 hW a1 a2 a3
    obtain rfl : (j : Int) = n := by omega
    refine g_iload rfl rfl ?_
    refine g_iload rfl rfl ?_
    refine g_icmpge rfl rfl (fun c1 => ?_) (fun c => absurd c (by omega))
    exact kk _ _ _ hW a1 a2 a3
  | succ q ih =>
    intro j h s h1 h2 hW a1 a2 a3
    by_cases hj : (j : Int) < n
    · have e1 : (100 * (K : Int) + (j : Int)).toNat = 100 * K + j := by omega
      have er : s.1 15 (f + (j : Int)).toNat = s2.1 15 (f.toNat + j) := by
        rw [a2 15 (by decide), show (f + (j : Int)).toNat = f.toNat + j by omega]
      have h8 : r8 (s2.1 15 (f.toNat + j)) := by
        rw [← a2 15 (by decide)]
        exact hW.by8 (by decide) _
      refine g_iload rfl rfl ?_
      refine g_iload rfl rfl ?_
      refine g_icmpge rfl rfl (fun c => absurd c (by omega)) (fun c1 => ?_)
      refine g_aload_n rfl rfl ?_
      refine g_get (ci := 8) (kk := 9) rfl rfl hW.ob hW.b0 rfl ?_
      refine g_bipush (n := 100) rfl (by decide) ?_
      refine g_iload rfl rfl ?_
      refine g_imul rfl (by omega) ?_
      refine g_iload rfl rfl ?_
      refine g_iadd rfl (by omega) ?_
      refine g_aload rfl rfl ?_
      refine g_iload rfl rfl ?_
      refine g_iload rfl rfl ?_
      refine g_iadd rfl (by omega) ?_
      refine g_bald rfl hW.a15 (by omega) ?_
      rw [show (s.1 15) (f + ((j : Int))).toNat = s2.1 15 (f.toNat + j) from er]
      refine g_bast rfl hW.a10 hW.bk (by omega) ?_
      generalize hg_hh2 : hput h (m0 + 10) (eA 1 6000 (va_up (s.1 10) ((100 * ((K : Int))) + ((j : Int))).toNat (a8 (s2.1 15 (f.toNat + j))))) = hh2
      obtain ⟨s3, hW, q10, o10, p10⟩ := hW.st (k := 10) (i := (100 * (K : Int) + (j : Int)).toNat) (v := (a8 (s2.1 15 (f.toNat + j)))) (by omega) (by omega) (fun _ => a8_r _)
      rw [show (eA (mty 10) (mln 10) (va_up (s.1 10) (100 * (K : Int) + (j : Int)).toNat (a8 (s2.1 15 (f.toNat + j)))) : AE) = eA 1 6000 (va_up (s.1 10) (100 * (K : Int) + (j : Int)).toNat (a8 (s2.1 15 (f.toNat + j)))) from rfl, hg_hh2] at hW
      have b1 : s3.1 10 = cyN F0 (s2.1 15) (100 * K) f ((j + 1 : Nat) : Int) := by
        rw [q10, a1, a8_of h8, e1]
        funext x
        unfold va_up cyN
        by_cases z : x = 100 * K + j
        · rw [if_pos z, if_pos (by omega), show x - 100 * K = j by omega]
        · rw [if_neg z]
          by_cases z2 : 100 * K ≤ x ∧ (x : Int) < ((100 * K : Nat) : Int) + (j : Int)
          · rw [if_pos z2, if_pos (by omega)]
          · rw [if_neg z2, if_neg (by omega)]
      refine g_iinc (L' := [aR m0, aI at0, aI inn, aI kind, aR (m0 + 15), aI f, aI n, aI ((K : Int)), aI ((j : Int) + 1)]) rfl rfl (by omega) rfl ?_
      refine g_goto rfl rfl ?_
      exact ih (j + 1) _ s3 (by omega) (by omega) hW b1 (fun k hk => (o10 k hk).trans (a2 k hk)) (p10.trans a3)
    · obtain rfl : (j : Int) = n := by omega
      refine g_iload rfl rfl ?_
      refine g_iload rfl rfl ?_
      refine g_icmpge rfl rfl (fun c1 => ?_) (fun c => absurd c (by omega))
      exact kk _ _ _ hW a1 a2 a3
theorem m_add15 (hu : u < 2) (hW : WM B m0 h s) (inn kind : Int) (f n : Int) (hf : 0 ≤ f) (hn0 : 0 ≤ n) (hn : n ≤ 100) (hfn : f + n ≤ 100) (hc1 : 1 ≤ s.1 9 u) (hc2 : s.1 9 u < 30) : Cal d yMd_add [aR m0, aI (30 * (u : Int)), aI inn, aI kind, aR (m0 + 15), aI f, aI n] h (RV none (fun h2 => ∃ s', WM B m0 h2 s' ∧ AD s s' u inn kind (s.1 15) f n (30 * u + (s.1 9 u).toNat))) := by
  show Go _ _ 0 [aR m0, aI (30 * (u : Int)), aI inn, aI kind, aR (m0 + 15), aI f, aI n, none, none] [] _ _
  obtain ⟨K, hK⟩ : ∃ K : Nat, K = 30 * u + (s.1 9 u).toNat := ⟨_, rfl⟩
  have hKi : 30 * (u : Int) + s.1 9 u = (K : Int) := by omega
  rw [← hK]
  refine g_iload_n rfl rfl ?_
  refine g_aload_n rfl rfl ?_
  refine g_get (ci := 8) (kk := 8) rfl rfl hW.ob hW.b0 rfl ?_
  refine g_iload_n rfl rfl ?_
  refine g_bipush (n := 30) rfl (by decide) ?_
  refine g_idiv (v := (u : Int)) rfl (by decide) ((a_div30 (by omega) (by omega)).trans (by omega)) ?_
  refine g_iald rfl hW.a9 (by omega) ?_
  rw [show (s.1 9) ((u : Int)).toNat = s.1 9 u from by rw [Int.toNat_natCast]]
  refine g_iadd rfl (by omega) ?_
  rw [hKi]
  refine g_istore (L' := [aR m0, aI (30 * (u : Int)), aI inn, aI kind, aR (m0 + 15), aI f, aI n, aI ((K : Int)), none]) rfl rfl ?_
  refine g_aload_n rfl rfl ?_
  refine g_get (ci := 8) (kk := 8) rfl rfl hW.ob hW.b0 rfl ?_
  refine g_iload_n rfl rfl ?_
  refine g_bipush (n := 30) rfl (by decide) ?_
  refine g_idiv (v := (u : Int)) rfl (by decide) ((a_div30 (by omega) (by omega)).trans (by omega)) ?_
  refine g_dup2 rfl rfl rfl ?_
  refine g_iald rfl hW.a9 (by omega) ?_
  rw [show (s.1 9) ((u : Int)).toNat = s.1 9 u from by rw [Int.toNat_natCast]]
  refine g_iconst (n := 1) rfl (by decide) ?_
  refine g_iadd rfl (by omega) ?_
  refine g_iast rfl hW.a9 hW.bk (by omega) ?_
  generalize hg_hh1 : hput h (m0 + 9) (eA 0 2 (va_up (s.1 9) ((u : Int)).toNat ((s.1 9 u) + 1))) = hh1
  obtain ⟨s2, hW, q9, o9, p9⟩ := hW.st (k := 9) (i := (u : Int).toNat) (v := (s.1 9 u + 1)) (by omega) (by omega) (fun z => absurd z (by decide))
  rw [show (eA (mty 9) (mln 9) (va_up (s.1 9) (u : Int).toNat (s.1 9 u + 1)) : AE) = eA 0 2 (va_up (s.1 9) (u : Int).toNat (s.1 9 u + 1)) from rfl, hg_hh1] at hW
  refine g_aload_n rfl rfl ?_
  refine g_get (ci := 8) (kk := 0) rfl rfl hW.ob hW.b0 rfl ?_
  refine g_iload rfl rfl ?_
  refine g_iload_n rfl rfl ?_
  refine g_iast rfl hW.a1 hW.bk (by omega) ?_
  generalize hg_hh2 : hput hh1 (m0 + 1) (eA 0 60 (va_up (s2.1 1) ((K : Int)).toNat kind)) = hh2
  obtain ⟨s3, hW, q1, o1, p1⟩ := hW.st (k := 1) (i := (K : Int).toNat) (v := kind) (by omega) (by omega) (fun z => absurd z (by decide))
  rw [show (eA (mty 1) (mln 1) (va_up (s2.1 1) (K : Int).toNat kind) : AE) = eA 0 60 (va_up (s2.1 1) (K : Int).toNat kind) from rfl, hg_hh2] at hW
  refine g_aload_n rfl rfl ?_
  refine g_get (ci := 8) (kk := 1) rfl rfl hW.ob hW.b0 rfl ?_
  refine g_iload rfl rfl ?_
  refine g_iload_n rfl rfl ?_
  refine g_iast rfl hW.a2 hW.bk (by omega) ?_
  generalize hg_hh3 : hput hh2 (m0 + 2) (eA 0 60 (va_up (s3.1 2) ((K : Int)).toNat inn)) = hh3
  obtain ⟨s4, hW, q2, o2, p2⟩ := hW.st (k := 2) (i := (K : Int).toNat) (v := inn) (by omega) (by omega) (fun z => absurd z (by decide))
  rw [show (eA (mty 2) (mln 2) (va_up (s3.1 2) (K : Int).toNat inn) : AE) = eA 0 60 (va_up (s3.1 2) (K : Int).toNat inn) from rfl, hg_hh3] at hW
  refine g_aload_n rfl rfl ?_
  refine g_get (ci := 8) (kk := 2) rfl rfl hW.ob hW.b0 rfl ?_
  refine g_iload rfl rfl ?_
  refine g_iload rfl rfl ?_
  refine g_iast rfl hW.a3 hW.bk (by omega) ?_
  generalize hg_hh4 : hput hh3 (m0 + 3) (eA 0 60 (va_up (s4.1 3) ((K : Int)).toNat n)) = hh4
  obtain ⟨s5, hW, q3, o3, p3⟩ := hW.st (k := 3) (i := (K : Int).toNat) (v := n) (by omega) (by omega) (fun z => absurd z (by decide))
  rw [show (eA (mty 3) (mln 3) (va_up (s4.1 3) (K : Int).toNat n) : AE) = eA 0 60 (va_up (s4.1 3) (K : Int).toNat n) from rfl, hg_hh4] at hW
  refine g_iconst (n := 0) rfl (by decide) ?_
  refine g_istore (L' := [aR m0, aI (30 * (u : Int)), aI inn, aI kind, aR (m0 + 15), aI f, aI n, aI ((K : Int)), aI 0]) rfl rfl ?_
  refine ad_loop15 (d := d) (B := B) (m0 := m0) s5 (s5.1 10) (30 * (u : Int)) inn kind K (by omega) f n hf hn hfn (fun h s6 v8 hW f10 fo f2 => ?_) n.toNat 0 _ s5 (by omega) (by omega) hW (by funext x; unfold cyN; rw [if_neg (by omega)]) (fun _ _ => rfl) rfl
  refine g_aload_n rfl rfl ?_
  refine g_get (ci := 8) (kk := 3) rfl rfl hW.ob hW.b0 rfl ?_
  refine g_iload rfl rfl ?_
  refine g_iconst (n := 0) rfl (by decide) ?_
  refine g_iast rfl hW.a4 hW.bk (by omega) ?_
  generalize hg_hh1 : hput h (m0 + 4) (eA 0 60 (va_up (s6.1 4) ((K : Int)).toNat 0)) = hh1
  obtain ⟨s7, hW, q4, o4, p4⟩ := hW.st (k := 4) (i := (K : Int).toNat) (v := 0) (by omega) (by omega) (fun z => absurd z (by decide))
  rw [show (eA (mty 4) (mln 4) (va_up (s6.1 4) (K : Int).toNat 0) : AE) = eA 0 60 (va_up (s6.1 4) (K : Int).toNat 0) from rfl, hg_hh1] at hW
  refine g_aload_n rfl rfl ?_
  refine g_get (ci := 8) (kk := 4) rfl rfl hW.ob hW.b0 rfl ?_
  refine g_iload rfl rfl ?_
  refine g_iconst (n := 0) rfl (by decide) ?_
  refine g_iast rfl hW.a5 hW.bk (by omega) ?_
  generalize hg_hh2 : hput hh1 (m0 + 5) (eA 0 60 (va_up (s7.1 5) ((K : Int)).toNat 0)) = hh2
  obtain ⟨s8, hW, q5, o5, p5⟩ := hW.st (k := 5) (i := (K : Int).toNat) (v := 0) (by omega) (by omega) (fun z => absurd z (by decide))
  rw [show (eA (mty 5) (mln 5) (va_up (s7.1 5) (K : Int).toNat 0) : AE) = eA 0 60 (va_up (s7.1 5) (K : Int).toNat 0) from rfl, hg_hh2] at hW
  refine g_aload_n rfl rfl ?_
  refine g_get (ci := 8) (kk := 5) rfl rfl hW.ob hW.b0 rfl ?_
  refine g_iload rfl rfl ?_
  refine g_iconst (n := 0) rfl (by decide) ?_
  refine g_iast rfl hW.a6 hW.bk (by omega) ?_
  generalize hg_hh3 : hput hh2 (m0 + 6) (eA 0 60 (va_up (s8.1 6) ((K : Int)).toNat 0)) = hh3
  obtain ⟨s9, hW, q6, o6, p6⟩ := hW.st (k := 6) (i := (K : Int).toNat) (v := 0) (by omega) (by omega) (fun z => absurd z (by decide))
  rw [show (eA (mty 6) (mln 6) (va_up (s8.1 6) (K : Int).toNat 0) : AE) = eA 0 60 (va_up (s8.1 6) (K : Int).toNat 0) from rfl, hg_hh3] at hW
  refine g_aload_n rfl rfl ?_
  refine g_get (ci := 8) (kk := 6) rfl rfl hW.ob hW.b0 rfl ?_
  refine g_iload rfl rfl ?_
  refine g_iconst (n := 0) rfl (by decide) ?_
  refine g_iast rfl hW.a7 hW.bk (by omega) ?_
  generalize hg_hh4 : hput hh3 (m0 + 7) (eA 0 60 (va_up (s9.1 7) ((K : Int)).toNat 0)) = hh4
  obtain ⟨s10, hW, q7, o7, p7⟩ := hW.st (k := 7) (i := (K : Int).toNat) (v := 0) (by omega) (by omega) (fun z => absurd z (by decide))
  rw [show (eA (mty 7) (mln 7) (va_up (s9.1 7) (K : Int).toNat 0) : AE) = eA 0 60 (va_up (s9.1 7) (K : Int).toNat 0) from rfl, hg_hh4] at hW
  refine g_aload_n rfl rfl ?_
  refine g_get (ci := 8) (kk := 7) rfl rfl hW.ob hW.b0 rfl ?_
  refine g_iload rfl rfl ?_
  refine g_iconst (n := -1) rfl (by decide) ?_
  refine g_iast rfl hW.a8 hW.bk (by omega) ?_
  generalize hg_hh5 : hput hh4 (m0 + 8) (eA 0 60 (va_up (s10.1 8) ((K : Int)).toNat (-1))) = hh5
  obtain ⟨s11, hW, q8, o8, p8⟩ := hW.st (k := 8) (i := (K : Int).toNat) (v := (-1)) (by omega) (by omega) (fun z => absurd z (by decide))
  rw [show (eA (mty 8) (mln 8) (va_up (s10.1 8) (K : Int).toNat (-1)) : AE) = eA 0 60 (va_up (s10.1 8) (K : Int).toNat (-1)) from rfl, hg_hh5] at hW
  rw [Int.toNat_natCast] at q9 q1 q2 q3 q4 q5 q6 q7 q8
  have g1 : s11.1 1 = va_up (s.1 1) K kind := by rw [o8 1 (by decide), o7 1 (by decide), o6 1 (by decide), o5 1 (by decide), o4 1 (by decide), fo 1 (by decide), o3 1 (by decide), o2 1 (by decide), q1, o9 1 (by decide)]
  have g2 : s11.1 2 = va_up (s.1 2) K inn := by rw [o8 2 (by decide), o7 2 (by decide), o6 2 (by decide), o5 2 (by decide), o4 2 (by decide), fo 2 (by decide), o3 2 (by decide), q2, o1 2 (by decide), o9 2 (by decide)]
  have g3 : s11.1 3 = va_up (s.1 3) K n := by rw [o8 3 (by decide), o7 3 (by decide), o6 3 (by decide), o5 3 (by decide), o4 3 (by decide), fo 3 (by decide), q3, o2 3 (by decide), o1 3 (by decide), o9 3 (by decide)]
  have g4 : s11.1 4 = va_up (s.1 4) K 0 := by rw [o8 4 (by decide), o7 4 (by decide), o6 4 (by decide), o5 4 (by decide), q4, fo 4 (by decide), o3 4 (by decide), o2 4 (by decide), o1 4 (by decide), o9 4 (by decide)]
  have g5 : s11.1 5 = va_up (s.1 5) K 0 := by rw [o8 5 (by decide), o7 5 (by decide), o6 5 (by decide), q5, o4 5 (by decide), fo 5 (by decide), o3 5 (by decide), o2 5 (by decide), o1 5 (by decide), o9 5 (by decide)]
  have g6 : s11.1 6 = va_up (s.1 6) K 0 := by rw [o8 6 (by decide), o7 6 (by decide), q6, o5 6 (by decide), o4 6 (by decide), fo 6 (by decide), o3 6 (by decide), o2 6 (by decide), o1 6 (by decide), o9 6 (by decide)]
  have g7 : s11.1 7 = va_up (s.1 7) K 0 := by rw [o8 7 (by decide), q7, o6 7 (by decide), o5 7 (by decide), o4 7 (by decide), fo 7 (by decide), o3 7 (by decide), o2 7 (by decide), o1 7 (by decide), o9 7 (by decide)]
  have g8 : s11.1 8 = va_up (s.1 8) K (-1) := by rw [q8, o7 8 (by decide), o6 8 (by decide), o5 8 (by decide), o4 8 (by decide), fo 8 (by decide), o3 8 (by decide), o2 8 (by decide), o1 8 (by decide), o9 8 (by decide)]
  have g9 : s11.1 9 = va_up (s.1 9) u (s.1 9 u + 1) := by rw [o8 9 (by decide), o7 9 (by decide), o6 9 (by decide), o5 9 (by decide), o4 9 (by decide), fo 9 (by decide), o3 9 (by decide), o2 9 (by decide), o1 9 (by decide), q9]
  have g10 : s11.1 10 = cyN (s.1 10) (s.1 15) (100 * K) f n := by rw [o8 10 (by decide), o7 10 (by decide), o6 10 (by decide), o5 10 (by decide), o4 10 (by decide), f10, o3 10 (by decide), o2 10 (by decide), o1 10 (by decide), o9 10 (by decide), o3 15 (by decide), o2 15 (by decide), o1 15 (by decide), o9 15 (by decide)]
  have go : ∀ k, 11 ≤ k → s11.1 k = s.1 k := fun k hk => by rw [o8 k (by omega), o7 k (by omega), o6 k (by omega), o5 k (by omega), o4 k (by omega), fo k (by omega), o3 k (by omega), o2 k (by omega), o1 k (by omega), o9 k (by omega)]
  have hg2 : s11.2 = s.2 := by rw [p8, p7, p6, p5, p4, f2, p3, p2, p1, p9]
  have hAD : AD s s11 u inn kind (s.1 15) f n K := by
    refine ⟨⟨fun k k1 k8 x hx => ?_, fun x hx => ?_, fun x hx => by rw [go 11 (by omega)]⟩, g9, go, hg2, ?_⟩
    · rcases (by omega : k = 1 ∨ k = 2 ∨ k = 3 ∨ k = 4 ∨ k = 5 ∨ k = 6 ∨ k = 7 ∨ k = 8) with z | z | z | z | z | z | z | z <;> subst z
      · rw [g1]; simp [va_up, hx]
      · rw [g2]; simp [va_up, hx]
      · rw [g3]; simp [va_up, hx]
      · rw [g4]; simp [va_up, hx]
      · rw [g5]; simp [va_up, hx]
      · rw [g6]; simp [va_up, hx]
      · rw [g7]; simp [va_up, hx]
      · rw [g8]; simp [va_up, hx]
    · rw [g10]
      unfold cyN
      rw [if_neg (by omega)]
    · refine ⟨by rw [g1]; simp [va_up], by rw [g2]; simp [va_up], by rw [g3]; simp [va_up], by rw [g4]; simp [va_up], by rw [g5]; simp [va_up], by rw [g6]; simp [va_up], by rw [g7]; simp [va_up], by rw [g8]; simp [va_up], fun j hj => ?_⟩
      rw [g10]
      unfold cyN
      rw [if_pos (by omega), show 100 * K + j - 100 * K = j by omega]
  exact r_v rfl rfl ⟨s11, hW, hAD⟩
end Md20
