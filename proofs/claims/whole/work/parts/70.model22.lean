/-! The reference: rename. -/
section Md22
variable {B h : AH} {m0 d t u K : Nat} {s s' s'' : MS} {c : Int}
theorem rn_over {st : CS} (hT : TI st t) {i : Nat} (h0 : 0 < i) (hi : i < (st.2.2.2.1 t)) {w n dir : Int} (hl : 100 < (addl ((st.1 (2 * st.2.2.1 t i))) w n).length) : rnOK st t (addl ((st.1 (2 * st.2.2.1 t i))) w n) dir ↔ ltw w n := by
  refine ⟨fun q => ltw_of q.1, fun q => ?_⟩
  have hN := hT.n i h0 hi
  have hal := addl_len ((st.1 (2 * st.2.2.1 t i))) w n
  refine ⟨⟨fun j j0 j1 => ?_, by omega, fun z => by omega⟩, ?_⟩
  · unfold addl
    rw [oF_get (by omega)]
    by_cases z : j < ((st.1 (2 * st.2.2.1 t i))).length
    · rw [if_pos z]
      exact hN.1.1 j (by omega) (by omega)
    · rw [if_neg z]
      unfold ltr
      rw [a8_256]
      have := lb_r w (j - ((st.1 (2 * st.2.2.1 t i))).length)
      have y := q (j - ((st.1 (2 * st.2.2.1 t i))).length) (by omega)
      omega
  · refine ffst_no _ _ fun j j1 j2 z => ?_
    have y := hT.n j (by omega) (by omega)
    have x := z.2.2.2.1
    omega
theorem se_name (ht : t < 2) (hM : MOK s) {i : Nat} (hi : i < 30) {L : List Int} (hL : L.length ≤ 100) (f : FR s s' (30 * t + i)) (h3 : s'.1 3 (30 * t + i) = (L.length : Int)) (hn : nmM s' (30 * t + i) = L) (ho : ∀ k, 1 ≤ k → k ≤ 12 → k ≠ 3 → k ≠ 10 → s'.1 k = s.1 k) (h2 : ∀ k, k ≤ 14 → s'.2 k = s.2 k) : SE (uR (mst s) (2 * (30 * t + i)) L) (mst s') t ∧ MOK s' := by
  have hcn := hM.2.1 t ht
  have hm := hM.1 (30 * t + i) (by omega)
  constructor
  · refine ⟨⟨by show (s'.1 9 t).toNat = (s.1 9 t).toNat; rw [ho 9 (by decide) (by decide) (by decide) (by decide)], fun j hj => ?_⟩, ?_, ?_, ?_⟩
    · have hj2 : j < (s.1 9 t).toNat := hj
      by_cases e : j = i
      · subst e
        refine ⟨fun k hk => ?_, ?_, ?_⟩
        · show (mst s').2.1 (30 * t + j) k = (mst s).2.1 (30 * t + j) k
          rcases (by omega : k = 0 ∨ k = 1 ∨ k = 2 ∨ k = 3 ∨ k = 4 ∨ k = 5) with z | z | z | z | z | z <;> subst z
          · exact congrFun (ho 1 (by decide) (by decide) (by decide) (by decide)) _
          · exact congrFun (ho 2 (by decide) (by decide) (by decide) (by decide)) _
          · exact congrFun (ho 8 (by decide) (by decide) (by decide) (by decide)) _
          · exact congrFun (ho 4 (by decide) (by decide) (by decide) (by decide)) _
          · exact congrFun (ho 5 (by decide) (by decide) (by decide) (by decide)) _
          · exact congrFun (ho 6 (by decide) (by decide) (by decide) (by decide)) _
        · rw [mst_nm s' ht hi, hn]
          exact (uR_get _ _ _).symm
        · show ((mst s').1 (2 * (mst s').2.2.1 t j + 1)) = (uR (mst s) (2 * (30 * t + j)) L).1 (2 * (30 * t + j) + 1)
          rw [uR_ne _ _ (by omega), mst_bd s' ht hi]
          show bdM s' (30 * t + j) = ((mst s).1 (2 * (mst s).2.2.1 t j + 1))
          rw [mst_bd s ht hi]
          unfold bdM
          rw [ho 7 (by decide) (by decide) (by decide) (by decide), ho 11 (by decide) (by decide) (by decide) (by decide)]
      · have q := f.nd hM ht (i := j) (by omega) (by omega)
        refine ⟨q.1, q.2.1.trans ?_, q.2.2.trans ?_⟩
        · exact (uR_ne (mst s) L (by show 2 * (30 * t + j) ≠ 2 * (30 * t + i); omega)).symm
        · exact (uR_ne (mst s) L (by show 2 * (30 * t + j) + 1 ≠ 2 * (30 * t + i); omega)).symm
    · rw [uR_ne _ _ (by omega)]
      show pg s' = pg s
      unfold pg
      rw [h2 13 (by omega), ho 12 (by decide) (by decide) (by decide) (by decide)]
    · show s'.2 11 / 30 = s.2 11 / 30
      rw [h2 11 (by omega)]
    · exact h2 14 (by omega)
  · refine hM.fr f ?_ ?_ h2
    · rw [h3, ho 7 (by decide) (by decide) (by decide) (by decide)]
      omega
    · rw [ho 9 (by decide) (by decide) (by decide) (by decide)]
      exact hM.2.1
/-- the old name into the path -/
theorem rn_loop {Q : AO → AH → Prop} (s2 : MS) (F0 : Nat → Int) (node w n v5 : Int) (K : Nat) (hK : K < 60) (hm0 : 0 ≤ s2.1 3 K) (hm : s2.1 3 K ≤ 100) (kk : ∀ (h : AH) (s : MS) (v7 : Int), WM B m0 h s → s.1 13 = cyN F0 (s2.1 10) 0 (100 * (K : Int)) (s2.1 3 K) → (∀ k, k ≠ 13 → s.1 k = s2.1 k) → s.2 16 = s2.1 3 K → (∀ k, k ≠ 16 → s.2 k = s2.2 k) → Go d yMd_rename 116 [aR m0, aI node, aL w, none, aI n, aI v5, aI (K : Int), aI v7, none] [] h Q) : ∀ (q j : Nat) (h : AH) (s : MS), (j : Int) ≤ s2.1 3 K → (s2.1 3 K - j).toNat ≤ q → WM B m0 h s → s.1 13 = cyN F0 (s2.1 10) 0 (100 * (K : Int)) (j : Int) → (∀ k, k ≠ 13 → s.1 k = s2.1 k) → s.2 16 = (j : Int) → (∀ k, k ≠ 16 → s.2 k = s2.2 k) → Go d yMd_rename 66 [aR m0, aI node, aL w, none, aI n, aI v5, aI (K : Int), aI (j : Int), none] [] h Q := by
  intro q
  induction q with
  | zero =>
    intro j h s h1 h2 hW a1 a2 a3 a4
    have hj : s2.1 3 K = (j : Int) := by omega
    have e3 : s.1 3 (K : Int).toNat = (j : Int) := by rw [Int.toNat_natCast, a2 3 (by decide)]; exact hj
    refine g_iload rfl rfl ?_
    refine g_aload_n rfl rfl ?_
    refine g_get (ci := 8) (kk := 2) rfl rfl hW.ob hW.b0 rfl ?_
    refine g_iload rfl rfl ?_
    refine g_iald rfl hW.a3 (by omega) ?_
    rw [show (s.1 3) ((K : Int)).toNat = (j : Int) from e3]
    refine g_icmpge rfl rfl (fun c1 => ?_) (fun c => absurd c (by omega))
    exact kk _ _ _ hW (by rw [hj]; exact a1) a2 (by rw [hj]; exact a3) a4
  | succ q ih =>
    intro j h s h1 h2 hW a1 a2 a3 a4
    by_cases hj : (j : Int) < s2.1 3 K
    · have e3 : s.1 3 (K : Int).toNat = s2.1 3 K := by rw [Int.toNat_natCast, a2 3 (by decide)]
      have e10 : s.1 10 (100 * (K : Int) + (j : Int)).toNat = s2.1 10 (100 * K + j) := by
        rw [a2 10 (by decide), show (100 * (K : Int) + (j : Int)).toNat = 100 * K + j by omega]
      have h8 : r8 (s2.1 10 (100 * K + j)) := by
        rw [← a2 10 (by decide)]
        exact hW.by8 (by decide) _
      refine g_iload rfl rfl ?_
      refine g_aload_n rfl rfl ?_
      refine g_get (ci := 8) (kk := 2) rfl rfl hW.ob hW.b0 rfl ?_
      refine g_iload rfl rfl ?_
      refine g_iald rfl hW.a3 (by omega) ?_
      rw [show (s.1 3) ((K : Int)).toNat = s2.1 3 K from e3]
      refine g_icmpge rfl rfl (fun c => absurd c (by omega)) (fun c1 => ?_)
      refine g_aload_n rfl rfl ?_
      refine g_get (ci := 8) (kk := 15) rfl rfl hW.ob hW.b0 rfl ?_
      refine g_aload_n rfl rfl ?_
      refine g_get (ci := 8) (kk := 16) rfl rfl hW.ob hW.b0 rfl ?_
      rw [show s.2 16 = (j : Int) from a3]
      refine g_aload_n rfl rfl ?_
      refine g_get (ci := 8) (kk := 9) rfl rfl hW.ob hW.b0 rfl ?_
      refine g_bipush (n := 100) rfl (by decide) ?_
      refine g_iload rfl rfl ?_
      refine g_imul rfl (by omega) ?_
      refine g_iload rfl rfl ?_
      refine g_iadd rfl (by omega) ?_
      refine g_bald rfl hW.a10 (by omega) ?_
      rw [show (s.1 10) ((100 * ((K : Int))) + ((j : Int))).toNat = s2.1 10 (100 * K + j) from e10]
      refine g_bast rfl hW.a13 hW.bk (by omega) ?_
      generalize hg_hh2 : hput h (m0 + 13) (eA 1 3200 (va_up (s.1 13) ((j : Int)).toNat (a8 (s2.1 10 (100 * K + j))))) = hh2
      obtain ⟨s3, hW, q13, o13, p13⟩ := hW.st (k := 13) (i := ((j : Nat) : Int).toNat) (v := (a8 (s2.1 10 (100 * K + j)))) (by omega) (by omega) (fun _ => a8_r _)
      rw [show (eA (mty 13) (mln 13) (va_up (s.1 13) ((j : Nat) : Int).toNat (a8 (s2.1 10 (100 * K + j)))) : AE) = eA 1 3200 (va_up (s.1 13) ((j : Nat) : Int).toNat (a8 (s2.1 10 (100 * K + j)))) from rfl, hg_hh2] at hW
      rw [Int.toNat_natCast] at q13
      have b1 : s3.1 13 = cyN F0 (s2.1 10) 0 (100 * (K : Int)) ((j + 1 : Nat) : Int) := by
        rw [q13, a1, a8_of h8]
        funext x
        unfold va_up cyN
        by_cases z : x = j
        · rw [if_pos z, if_pos (by omega), show (100 * (K : Int)).toNat + (x - 0) = 100 * K + j by omega]
        · rw [if_neg z]
          by_cases z2 : 0 ≤ x ∧ (x : Int) < ((0 : Nat) : Int) + (j : Int)
          · rw [if_pos z2, if_pos (by omega)]
          · rw [if_neg z2, if_neg (by omega)]
      refine g_aload_n rfl rfl ?_
      refine g_dup rfl rfl ?_
      refine g_get (ci := 8) (kk := 16) rfl rfl hW.ob hW.b0 rfl ?_
      rw [show s3.2 16 = (j : Int) from (by rw [p13]; exact a3)]
      refine g_iconst (n := 1) rfl (by decide) ?_
      refine g_iadd rfl (by omega) ?_
      refine g_put (ci := 8) (kk := 16) (fs' := [aR (m0 + 1), aR (m0 + 2), aR (m0 + 3), aR (m0 + 4), aR (m0 + 5), aR (m0 + 6), aR (m0 + 7), aR (m0 + 8), aR (m0 + 9), aR (m0 + 10), aR (m0 + 11), aI (s3.2 11), aR (m0 + 12), aI (s3.2 13), aI (s3.2 14), aR (m0 + 13), aI (((j : Int)) + 1), aI (s3.2 17), aI (s3.2 18), aR (m0 + 14), aR (m0 + 15), aR (m0 + 16), aR (m0 + 17), aR (m0 + 18), aR (m0 + 19), aR (m0 + 20), aI (s3.2 26)]) rfl rfl hW.ob hW.b0 (Nat.le_of_ble_eq_true rfl) rfl (by decide) rfl ?_
      generalize hg_hh3 : hput hh2 m0 (eO 8 [aR (m0 + 1), aR (m0 + 2), aR (m0 + 3), aR (m0 + 4), aR (m0 + 5), aR (m0 + 6), aR (m0 + 7), aR (m0 + 8), aR (m0 + 9), aR (m0 + 10), aR (m0 + 11), aI (s3.2 11), aR (m0 + 12), aI (s3.2 13), aI (s3.2 14), aR (m0 + 13), aI (((j : Int)) + 1), aI (s3.2 17), aI (s3.2 18), aR (m0 + 14), aR (m0 + 15), aR (m0 + 16), aR (m0 + 17), aR (m0 + 18), aR (m0 + 19), aR (m0 + 20), aI (s3.2 26)]) = hh3
      obtain ⟨s4, hW, qi16, oi16, pi16⟩ : ∃ s9, WM B m0 hh3 s9 ∧ s9.2 16 = ((j : Int) + 1) ∧ (∀ j, j ≠ 16 → s9.2 j = s3.2 j) ∧ s9.1 = s3.1 := ⟨uI s3 16 (((j : Int) + 1)), by rw [← hg_hh3]; exact hW.setI rfl, by simp [uI, va_up], fun j hj => by simp [uI, va_up, hj], rfl⟩
      refine g_iinc (L' := [aR m0, aI node, aL w, none, aI n, aI v5, aI ((K : Int)), aI ((j : Int) + 1), none]) rfl rfl (by omega) rfl ?_
      refine g_goto rfl rfl ?_
      exact ih (j + 1) _ s4 (by omega) (by omega) hW (by rw [pi16]; exact b1) (fun k hk => by rw [pi16, o13 k hk]; exact a2 k hk) (by rw [qi16]; rfl) (fun k hk => by rw [oi16 k hk, p13]; exact a4 k hk)
    · have hj : s2.1 3 K = (j : Int) := by omega
      have e3 : s.1 3 (K : Int).toNat = (j : Int) := by rw [Int.toNat_natCast, a2 3 (by decide)]; exact hj
      refine g_iload rfl rfl ?_
      refine g_aload_n rfl rfl ?_
      refine g_get (ci := 8) (kk := 2) rfl rfl hW.ob hW.b0 rfl ?_
      refine g_iload rfl rfl ?_
      refine g_iald rfl hW.a3 (by omega) ?_
      rw [show (s.1 3) ((K : Int)).toNat = (j : Int) from e3]
      refine g_icmpge rfl rfl (fun c1 => ?_) (fun c => absurd c (by omega))
      exact kk _ _ _ hW (by rw [hj]; exact a1) a2 (by rw [hj]; exact a3) a4
/-- the new letters into the name -/
theorem rm_loop {Q : AO → AH → Prop} (s2 : MS) (F0 : Nat → Int) (node w n v5 v7 : Int) (K l0 : Nat) (hK : K < 60) (hm : s2.2 16 ≤ 100) (kk : ∀ (h : AH) (s : MS) (v8 : Int), WM B m0 h s → s.1 10 = cyN F0 (s2.1 13) (100 * K + l0) l0 (s2.2 16 - l0) → (∀ k, k ≠ 10 → s.1 k = s2.1 k) → s.2 = s2.2 → Go d yMd_rename 275 [aR m0, aI node, aL w, none, aI n, aI v5, aI (K : Int), aI v7, aI v8] [] h Q) : ∀ (q j : Nat) (h : AH) (s : MS), l0 ≤ j → (j : Int) ≤ s2.2 16 → (s2.2 16 - j).toNat ≤ q → WM B m0 h s → s.1 10 = cyN F0 (s2.1 13) (100 * K + l0) l0 ((j : Int) - l0) → (∀ k, k ≠ 10 → s.1 k = s2.1 k) → s.2 = s2.2 → Go d yMd_rename 240 [aR m0, aI node, aL w, none, aI n, aI v5, aI (K : Int), aI v7, aI (j : Int)] [] h Q := by
  intro q
  induction q with
  | zero =>
    intro j h s h0 h1 h2 hW a1 a2 a3
    have hj : s2.2 16 = (j : Int) := by omega
    have e3 : s.2 16 = (j : Int) := by rw [a3]; exact hj
    refine g_iload rfl rfl ?_
    refine g_aload_n rfl rfl ?_
    refine g_get (ci := 8) (kk := 16) rfl rfl hW.ob hW.b0 rfl ?_
    rw [show s.2 16 = (j : Int) from e3]
    refine g_icmpge rfl rfl (fun c1 => ?_) (fun c => absurd c (by omega))
    exact kk _ _ _ hW (by rw [hj]; exact a1) a2 a3
  | succ q ih =>
    intro j h s h0 h1 h2 hW a1 a2 a3
    by_cases hj : (j : Int) < s2.2 16
    · have e3 : s.2 16 = s2.2 16 := by rw [a3]
      have e13 : s.1 13 (j : Int).toNat = s2.1 13 j := by
        rw [a2 13 (by decide), Int.toNat_natCast]
      have h8 : r8 (s2.1 13 j) := by
        rw [← a2 13 (by decide)]
        exact hW.by8 (by decide) _
      refine g_iload rfl rfl ?_
      refine g_aload_n rfl rfl ?_
      refine g_get (ci := 8) (kk := 16) rfl rfl hW.ob hW.b0 rfl ?_
      rw [show s.2 16 = s2.2 16 from e3]
      refine g_icmpge rfl rfl (fun c => absurd c (by omega)) (fun c1 => ?_)
      refine g_aload_n rfl rfl ?_
      refine g_get (ci := 8) (kk := 9) rfl rfl hW.ob hW.b0 rfl ?_
      refine g_bipush (n := 100) rfl (by decide) ?_
      refine g_iload rfl rfl ?_
      refine g_imul rfl (by omega) ?_
      refine g_iload rfl rfl ?_
      refine g_iadd rfl (by omega) ?_
      refine g_aload_n rfl rfl ?_
      refine g_get (ci := 8) (kk := 15) rfl rfl hW.ob hW.b0 rfl ?_
      refine g_iload rfl rfl ?_
      refine g_bald rfl hW.a13 (by omega) ?_
      rw [show (s.1 13) ((j : Int)).toNat = s2.1 13 j from e13]
      refine g_bast rfl hW.a10 hW.bk (by omega) ?_
      generalize hg_hh2 : hput h (m0 + 10) (eA 1 6000 (va_up (s.1 10) ((100 * ((K : Int))) + ((j : Int))).toNat (a8 (s2.1 13 j)))) = hh2
      obtain ⟨s3, hW, q10, o10, p10⟩ := hW.st (k := 10) (i := (100 * (K : Int) + (j : Int)).toNat) (v := (a8 (s2.1 13 j))) (by omega) (by omega) (fun _ => a8_r _)
      rw [show (eA (mty 10) (mln 10) (va_up (s.1 10) (100 * (K : Int) + (j : Int)).toNat (a8 (s2.1 13 j))) : AE) = eA 1 6000 (va_up (s.1 10) (100 * (K : Int) + (j : Int)).toNat (a8 (s2.1 13 j))) from rfl, hg_hh2] at hW
      have b1 : s3.1 10 = cyN F0 (s2.1 13) (100 * K + l0) l0 (((j + 1 : Nat) : Int) - l0) := by
        rw [q10, a1, a8_of h8, show (100 * (K : Int) + (j : Int)).toNat = 100 * K + j by omega]
        funext x
        unfold va_up cyN
        by_cases z : x = 100 * K + j
        · rw [if_pos z, if_pos (by omega), show (l0 : Int).toNat + (x - (100 * K + l0)) = j by omega]
        · rw [if_neg z]
          by_cases z2 : 100 * K + l0 ≤ x ∧ (x : Int) < ((100 * K + l0 : Nat) : Int) + ((j : Int) - l0)
          · rw [if_pos z2, if_pos (by omega)]
          · rw [if_neg z2, if_neg (by omega)]
      refine g_iinc (L' := [aR m0, aI node, aL w, none, aI n, aI v5, aI ((K : Int)), aI v7, aI ((j : Int) + 1)]) rfl rfl (by omega) rfl ?_
      refine g_goto rfl rfl ?_
      exact ih (j + 1) _ s3 (by omega) (by omega) (by omega) hW b1 (fun k hk => (o10 k hk).trans (a2 k hk)) (p10.trans a3)
    · have hj : s2.2 16 = (j : Int) := by omega
      have e3 : s.2 16 = (j : Int) := by rw [a3]; exact hj
      refine g_iload rfl rfl ?_
      refine g_aload_n rfl rfl ?_
      refine g_get (ci := 8) (kk := 16) rfl rfl hW.ob hW.b0 rfl ?_
      rw [show s.2 16 = (j : Int) from e3]
      refine g_icmpge rfl rfl (fun c1 => ?_) (fun c => absurd c (by omega))
      exact kk _ _ _ hW (by rw [hj]; exact a1) a2 a3
theorem m_rename (hd2 : 2 ≤ d) (ht : t < 2) (hb : s.2 11 = 30 * (t : Int)) (hM : MOK s) (hT : TI (mst s) t) (hW : WM B m0 h s) (node w n : Int) (hw : r64 w) : Cal d yMd_rename [aR m0, aI node, aL w, aI n] h (RV (some (aI (pk ((rnC (mst s) t node w n) = 0) ((rnL (mst s) t node w n).length : Int) 0))) (MP B m0 (pkS ((rnC (mst s) t node w n) = 0) (rnF (mst s) t node w n) (mst s)) t (rnC (mst s) t node w n))) := by
  have hcn := hM.2.1 t ht
  have hC : ((mst s).2.2.2.1 t) = (s.1 9 t).toNat := rfl
  have hM_s := hM
  have hQ_s := QS.rf s
  show Go _ _ 0 [aR m0, aI node, aL w, none, aI n, none, none, none, none] [] _ _
  refine g_aload_n rfl rfl ?_
  refine g_iload_n rfl rfl ?_
  refine g_V (z := yMd_isNode) (e := 1) (A := [aI node]) (rest := []) (v := aI (pz (hs (mst s) t node))) (P := fun h2 => h2 = h) rfl rfl rfl rfl rfl rfl (by omega) hW.ob hW.b0 (m_isNode2 (by omega) ht hb hM hW _) ?_
  intro hh9 he9
  rw [he9]
  clear he9 hh9
  refine g_ifeq rfl rfl (fun c1 => ?_) (fun c1 => ?_)
  · skip
    have y1 := c1
    refine g_iconst (n := 0) rfl (by decide) ?_
    refine g_istore (L' := [aR m0, aI node, aL w, none, aI n, aI 0, none, none, none]) rfl rfl ?_
    refine g_aload_n rfl rfl ?_
    refine g_iload rfl rfl ?_
    refine g_ifne rfl rfl (fun c => absurd c (by decide)) (fun c => ?_)
    refine g_iconst (n := 1) rfl (by decide) ?_
    refine g_goto rfl rfl ?_
    refine g_iconst (n := 1) rfl (by decide) ?_
    have hno : ¬ (rnk (mst s) t node w n) := fun q => by first | exact pz_eq y3 q.2.2.1 | (have := q.1.1; have := q.2.1; omega) | exact pz_eq y1 q.1
    have hc1 : (rnC (mst s) t node w n) = 1 := pk_f hno
    have hc0 : ¬ (rnC (mst s) t node w n) = 0 := by rw [hc1]; decide
    refine g_V (z := yMd_fails) (e := 1) (A := [aI 1, aI 1]) (rest := []) (v := aI 1)  rfl rfl rfl rfl rfl rfl (by omega) hW.ob hW.b0 (m_g hM_s hW 1 1 (by omega)) ?_
    intro hh3 hq
    obtain ⟨s1, hW, r1_s1, r2_s1, r26_s1, hM_s1, rm_s1⟩ := hq
    have hQ_s1 : QS s s1 := hQ_s.tr ⟨fun k _ _ => by rw [r1_s1], fun k hk => r2_s1 k (by omega)⟩
    refine g_ifeq rfl rfl (fun c => absurd c (by decide)) (fun c => ?_)
    refine g_iconst (n := 0) rfl (by decide) ?_
    exact r_i rfl rfl (pk_f hc0).symm (by rw [pkS_f hc0, hc1]; exact hQ_s1.mp ht hb hM hW r26_s1)
  · skip
    have y1 := c1
    refine g_iload_n rfl rfl ?_
    refine g_ifle rfl rfl (fun c5 => ?_) (fun c5 => ?_)
    · skip
      have y2 := c5
      refine g_iconst (n := 0) rfl (by decide) ?_
      refine g_istore (L' := [aR m0, aI node, aL w, none, aI n, aI 0, none, none, none]) rfl rfl ?_
      refine g_aload_n rfl rfl ?_
      refine g_iload rfl rfl ?_
      refine g_ifne rfl rfl (fun c => absurd c (by decide)) (fun c => ?_)
      refine g_iconst (n := 1) rfl (by decide) ?_
      refine g_goto rfl rfl ?_
      refine g_iconst (n := 1) rfl (by decide) ?_
      have hno : ¬ (rnk (mst s) t node w n) := fun q => by first | exact pz_eq y3 q.2.2.1 | (have := q.1.1; have := q.2.1; omega) | exact pz_eq y1 q.1
      have hc1 : (rnC (mst s) t node w n) = 1 := pk_f hno
      have hc0 : ¬ (rnC (mst s) t node w n) = 0 := by rw [hc1]; decide
      refine g_V (z := yMd_fails) (e := 1) (A := [aI 1, aI 1]) (rest := []) (v := aI 1)  rfl rfl rfl rfl rfl rfl (by omega) hW.ob hW.b0 (m_g hM_s hW 1 1 (by omega)) ?_
      intro hh7 hq
      obtain ⟨s1, hW, r1_s1, r2_s1, r26_s1, hM_s1, rm_s1⟩ := hq
      have hQ_s1 : QS s s1 := hQ_s.tr ⟨fun k _ _ => by rw [r1_s1], fun k hk => r2_s1 k (by omega)⟩
      refine g_ifeq rfl rfl (fun c => absurd c (by decide)) (fun c => ?_)
      refine g_iconst (n := 0) rfl (by decide) ?_
      exact r_i rfl rfl (pk_f hc0).symm (by rw [pkS_f hc0, hc1]; exact hQ_s1.mp ht hb hM hW r26_s1)
    · skip
      have y2 := c5
      refine g_iload rfl rfl ?_
      refine g_iconst (n := 1) rfl (by decide) ?_
      refine g_bipush (n := 8) rfl (by decide) ?_
      refine g_S (z := yMd_within) (e := 1) (A := [aI 8, aI 1, aI n]) (rest := []) (v := aI (pz (1 ≤ n ∧ n ≤ 8))) (P := fun h2 => h2 = h) rfl rfl rfl rfl rfl rfl (by omega) (m_within _ _ _) ?_
      intro hh9 he9
      rw [he9]
      clear he9 hh9
      refine g_ifeq rfl rfl (fun c9 => ?_) (fun c9 => ?_)
      · skip
        have y3 := c9
        refine g_iconst (n := 0) rfl (by decide) ?_
        refine g_istore (L' := [aR m0, aI node, aL w, none, aI n, aI 0, none, none, none]) rfl rfl ?_
        refine g_aload_n rfl rfl ?_
        refine g_iload rfl rfl ?_
        refine g_ifne rfl rfl (fun c => absurd c (by decide)) (fun c => ?_)
        refine g_iconst (n := 1) rfl (by decide) ?_
        refine g_goto rfl rfl ?_
        refine g_iconst (n := 1) rfl (by decide) ?_
        have hno : ¬ (rnk (mst s) t node w n) := fun q => by first | exact pz_eq y3 q.2.2.1 | (have := q.1.1; have := q.2.1; omega) | exact pz_eq y1 q.1
        have hc1 : (rnC (mst s) t node w n) = 1 := pk_f hno
        have hc0 : ¬ (rnC (mst s) t node w n) = 0 := by rw [hc1]; decide
        refine g_V (z := yMd_fails) (e := 1) (A := [aI 1, aI 1]) (rest := []) (v := aI 1)  rfl rfl rfl rfl rfl rfl (by omega) hW.ob hW.b0 (m_g hM_s hW 1 1 (by omega)) ?_
        intro hh11 hq
        obtain ⟨s1, hW, r1_s1, r2_s1, r26_s1, hM_s1, rm_s1⟩ := hq
        have hQ_s1 : QS s s1 := hQ_s.tr ⟨fun k _ _ => by rw [r1_s1], fun k hk => r2_s1 k (by omega)⟩
        refine g_ifeq rfl rfl (fun c => absurd c (by decide)) (fun c => ?_)
        refine g_iconst (n := 0) rfl (by decide) ?_
        exact r_i rfl rfl (pk_f hc0).symm (by rw [pkS_f hc0, hc1]; exact hQ_s1.mp ht hb hM hW r26_s1)
      · skip
        have y3 := c9
        refine g_iconst (n := 1) rfl (by decide) ?_
        refine g_goto rfl rfl ?_
        refine g_istore (L' := [aR m0, aI node, aL w, none, aI n, aI 1, none, none, none]) rfl rfl ?_
        refine g_aload_n rfl rfl ?_
        refine g_iload rfl rfl ?_
        refine g_ifne rfl rfl (fun c => ?_) (fun c => absurd c (by decide))
        refine g_iconst (n := 0) rfl (by decide) ?_
        refine g_iconst (n := 1) rfl (by decide) ?_
        refine g_V (z := yMd_fails) (e := 1) (A := [aI 1, aI 0]) (rest := []) (v := aI 0)  rfl rfl rfl rfl rfl rfl (by omega) hW.ob hW.b0 (m_g hM_s hW 0 1 (by omega)) ?_
        intro hh14 hq
        obtain ⟨s1, hW, r1_s1, r2_s1, r26_s1, hM_s1, rm_s1⟩ := hq
        have hQ_s1 : QS s s1 := hQ_s.tr ⟨fun k _ _ => by rw [r1_s1], fun k hk => r2_s1 k (by omega)⟩
        refine g_ifeq rfl rfl (fun c => ?_) (fun c => absurd c (by decide))
        have z1 := pz_ne y1
        have z3 := pz_ne y3
        have z1a := z1.1
        have z1b := z1.2
        obtain ⟨i, rfl⟩ : ∃ i : Nat, node = i := ⟨node.toNat, by omega⟩
        have e9 : 30 * (t : Int) + (i : Int) = ((30 * t + i : Nat) : Int) := by omega
        have hm3 := hM.1 (30 * t + i) (by omega)
        have hnd : ((mst s).1 (2 * (mst s).2.2.1 t i)) = nmM s (30 * t + i) := mst_nm s ht (by omega)
        have hLl : ((rnL (mst s) t (i : Int) w n).length : Int) = s.1 3 (30 * t + i) + n := by
          unfold rnL
          rw [addl_len, Int.toNat_natCast, hnd, nmM_len]
          omega
        refine g_aload_n rfl rfl ?_
        refine g_get (ci := 8) (kk := 11) rfl rfl hW.ob hW.b0 rfl ?_
        rw [show s1.2 11 = 30 * (t : Int) from ((hQ_s1.2 11 (by omega)).trans hb)]
        refine g_iload_n rfl rfl ?_
        refine g_iadd rfl (by omega) ?_
        rw [e9]
        refine g_istore (L' := [aR m0, aI ((i : Int)), aL w, none, aI n, aI 1, aI (((30 * t + i : Nat) : Int)), none, none]) rfl rfl ?_
        refine g_aload_n rfl rfl ?_
        refine g_iconst (n := 0) rfl (by decide) ?_
        refine g_put (ci := 8) (kk := 16) (fs' := [aR (m0 + 1), aR (m0 + 2), aR (m0 + 3), aR (m0 + 4), aR (m0 + 5), aR (m0 + 6), aR (m0 + 7), aR (m0 + 8), aR (m0 + 9), aR (m0 + 10), aR (m0 + 11), aI (s1.2 11), aR (m0 + 12), aI (s1.2 13), aI (s1.2 14), aR (m0 + 13), aI 0, aI (s1.2 17), aI (s1.2 18), aR (m0 + 14), aR (m0 + 15), aR (m0 + 16), aR (m0 + 17), aR (m0 + 18), aR (m0 + 19), aR (m0 + 20), aI (s1.2 26)]) rfl rfl hW.ob hW.b0 (Nat.le_of_ble_eq_true rfl) rfl (by decide) rfl ?_
        generalize hg_hh16 : hput hh14 m0 (eO 8 [aR (m0 + 1), aR (m0 + 2), aR (m0 + 3), aR (m0 + 4), aR (m0 + 5), aR (m0 + 6), aR (m0 + 7), aR (m0 + 8), aR (m0 + 9), aR (m0 + 10), aR (m0 + 11), aI (s1.2 11), aR (m0 + 12), aI (s1.2 13), aI (s1.2 14), aR (m0 + 13), aI 0, aI (s1.2 17), aI (s1.2 18), aR (m0 + 14), aR (m0 + 15), aR (m0 + 16), aR (m0 + 17), aR (m0 + 18), aR (m0 + 19), aR (m0 + 20), aI (s1.2 26)]) = hh16
        obtain ⟨s2, hW, qi16, oi16, pi16⟩ : ∃ s9, WM B m0 hh16 s9 ∧ s9.2 16 = 0 ∧ (∀ j, j ≠ 16 → s9.2 j = s1.2 j) ∧ s9.1 = s1.1 := ⟨uI s1 16 0, by rw [← hg_hh16]; exact hW.setI rfl, by simp [uI, va_up], fun j hj => by simp [uI, va_up, hj], rfl⟩
        have hQ_s2 : QS s s2 := hQ_s1.tr ⟨fun k _ _ => by rw [pi16], fun k hk => oi16 k (by omega)⟩
        have e10 : s2.1 10 = s.1 10 := hQ_s2.1 10 (by omega) (by omega)
        have e3 : s2.1 3 = s.1 3 := hQ_s2.1 3 (by omega) (by omega)
        refine g_iconst (n := 0) rfl (by decide) ?_
        refine g_istore (L' := [aR m0, aI ((i : Int)), aL w, none, aI n, aI 1, aI (((30 * t + i : Nat) : Int)), aI 0, none]) rfl rfl ?_
        refine rn_loop (d := d) (B := B) (m0 := m0) s2 (s2.1 13) (i : Int) w n 1 (30 * t + i) (by omega) (by rw [e3]; omega) (by rw [e3]; omega) (fun h s3 v7 hW f13 fo f16 f2 => ?_) (s2.1 3 (30 * t + i)).toNat 0 _ s2 (by rw [e3]; omega) (by omega) hW (by funext x; unfold cyN; rw [if_neg (by omega)]) (fun _ _ => rfl) qi16 (fun _ _ => rfl)
        refine g_aload_n rfl rfl ?_
        refine g_lload_n rfl rfl ?_
        refine g_iload rfl rfl ?_
        rw [e3] at f16
        have hQ_s3 : QS s s3 := hQ_s2.tr ⟨fun k _ _ => fo k (by omega), fun k hk => f2 k (by omega)⟩
        have hwy3 : wy s3 = nmM s (30 * t + i) := by
          unfold wy nmM
          rw [f16, f13, e3]
          refine oF_ext fun j hj => ?_
          unfold cyN
          rw [if_pos (by omega), e10, show (100 * ((30 * t + i : Nat) : Int)).toNat + (j - 0) = 100 * (30 * t + i) + j by omega]
        refine g_V (z := yMd_spell) (e := 1) (A := [aI n, aL w]) (rest := []) (v := aI (pz (ltw w n)))  rfl rfl rfl rfl rfl rfl (by omega) hW.ob hW.b0 (m_sp (by omega) hW w hw n (by omega) z3.2 (by omega) (by omega)) ?_
        intro hh1 hq
        obtain ⟨s4, hW, hQ4, hwy, h16, h13⟩ := hq
        have hQ_s4 : QS s s4 := hQ_s3.tr hQ4
        have hM_s4 := hQ_s4.mok hM
        have hT4 := hQ_s4.ti ht hM hT
        have hV4 := hQ_s4.vq ht hM
        have hwy4 : wy s4 = (rnL (mst s) t (i : Int) w n) := by
          rw [hwy, hwy3]
          unfold rnL
          rw [Int.toNat_natCast, hnd]
        have h16 : s4.2 16 = ((rnL (mst s) t (i : Int) w n).length : Int) := by rw [hLl]; omega
        have hfd : chl (mst s4) t (wy s4) (s.1 2 (30 * t + i)) 0 (0 + ((rnL (mst s) t (i : Int) w n).length : Int)) = chl (mst s) t (rnL (mst s) t (i : Int) w n) (s.1 2 (30 * t + i)) 0 ((rnL (mst s) t (i : Int) w n).length : Int) := by rw [hV4.qchl hT.c.1, hwy4, Int.zero_add]
        have hnm : ((rnL (mst s) t (i : Int) w n).length : Int) ≤ 100 → nmW s4 0 ((rnL (mst s) t (i : Int) w n).length : Int) = nmix (rnL (mst s) t (i : Int) w n) 0 ((rnL (mst s) t (i : Int) w n).length : Int) := fun q8 => by
          unfold nmW
          rw [hwy4, Int.zero_add]
          exact propext ⟨fun q => q.1, fun q => ⟨q, q8⟩⟩
        refine g_istore (L' := [aR m0, aI ((i : Int)), aL w, none, aI n, aI (pz (ltw w n)), aI (((30 * t + i : Nat) : Int)), aI v7, none]) rfl rfl ?_
        refine g_aload_n rfl rfl ?_
        refine g_get (ci := 8) (kk := 16) rfl rfl hW.ob hW.b0 rfl ?_
        rw [show s4.2 16 = ((rnL (mst s) t (i : Int) w n).length : Int) from h16]
        refine g_bipush (n := 100) rfl (by decide) ?_
        refine g_icmple rfl rfl (fun c2 => ?_) (fun c2 => ?_)
        · skip
          have y4 := c2
          refine g_iconst (n := 0) rfl (by decide) ?_
          refine g_istore (L' := [aR m0, aI ((i : Int)), aL w, none, aI n, aI (pz (ltw w n)), aI (((30 * t + i : Nat) : Int)), aI 0, none]) rfl rfl ?_
          refine g_iload rfl rfl ?_
          refine g_ifeq rfl rfl (fun c3 => ?_) (fun c3 => ?_)
          · skip
            have y5 := c3
            refine g_iconst (n := 0) rfl (by decide) ?_
            refine g_istore (L' := [aR m0, aI ((i : Int)), aL w, none, aI n, aI 0, aI (((30 * t + i : Nat) : Int)), aI 0, none]) rfl rfl ?_
            refine g_aload_n rfl rfl ?_
            refine g_iload rfl rfl ?_
            refine g_ifne rfl rfl (fun c => absurd c (by decide)) (fun c => ?_)
            refine g_iconst (n := 1) rfl (by decide) ?_
            refine g_goto rfl rfl ?_
            refine g_iconst (n := 1) rfl (by decide) ?_
            have hno : ¬ (rnk (mst s) t (i : Int) w n) := fun q => by first | exact y7 q.2.2.2.2 | exact pz_eq y6 q.2.2.2.1 | exact pz_eq y5 (ltw_of q.2.2.2.1)
            have hc1 : (rnC (mst s) t (i : Int) w n) = 1 := pk_f hno
            have hc0 : ¬ (rnC (mst s) t (i : Int) w n) = 0 := by rw [hc1]; decide
            refine g_V (z := yMd_fails) (e := 1) (A := [aI 1, aI 1]) (rest := []) (v := aI 1)  rfl rfl rfl rfl rfl rfl (by omega) hW.ob hW.b0 (m_g hM_s4 hW 1 1 (by omega)) ?_
            intro hh5 hq
            obtain ⟨s5, hW, r1_s5, r2_s5, r26_s5, hM_s5, rm_s5⟩ := hq
            have hQ_s5 : QS s s5 := hQ_s4.tr ⟨fun k _ _ => by rw [r1_s5], fun k hk => r2_s5 k (by omega)⟩
            refine g_ifne rfl rfl (fun c => ?_) (fun c => absurd c (by decide))
            refine g_iconst (n := 0) rfl (by decide) ?_
            exact r_i rfl rfl (pk_f hc0).symm (by rw [pkS_f hc0, hc1]; exact hQ_s5.mp ht hb hM hW r26_s5)
          · skip
            have y5 := c3
            refine g_iload rfl rfl ?_
            refine g_ifne rfl rfl (fun c => absurd c (by decide)) (fun c => ?_)
            refine g_aload_n rfl rfl ?_
            refine g_get (ci := 8) (kk := 15) rfl rfl hW.ob hW.b0 rfl ?_
            refine g_iconst (n := 0) rfl (by decide) ?_
            refine g_aload_n rfl rfl ?_
            refine g_get (ci := 8) (kk := 16) rfl rfl hW.ob hW.b0 rfl ?_
            rw [show s4.2 16 = ((rnL (mst s) t (i : Int) w n).length : Int) from h16]
            refine g_S (z := yMd_isName) (e := 1) (A := [aI (((rnL (mst s) t (i : Int) w n).length : Int)), aI 0, aR (m0 + 13)]) (rest := []) (v := aI (pz (nmix (rnL (mst s) t (i : Int) w n) 0 ((rnL (mst s) t (i : Int) w n).length : Int)))) (P := fun h2 => h2 = hh1) rfl rfl rfl rfl rfl rfl (by omega) ((by rw [← hnm (by omega)]; exact m_isName (by omega) hW 0 _ (by omega) (by omega) (by omega) (by omega))) ?_
            intro hh9 he9
            rw [he9]
            clear he9 hh9
            refine g_ifeq rfl rfl (fun c8 => ?_) (fun c8 => ?_)
            · skip
              have y6 := c8
              refine g_iconst (n := 0) rfl (by decide) ?_
              refine g_istore (L' := [aR m0, aI ((i : Int)), aL w, none, aI n, aI 0, aI (((30 * t + i : Nat) : Int)), aI 0, none]) rfl rfl ?_
              refine g_aload_n rfl rfl ?_
              refine g_iload rfl rfl ?_
              refine g_ifne rfl rfl (fun c => absurd c (by decide)) (fun c => ?_)
              refine g_iconst (n := 1) rfl (by decide) ?_
              refine g_goto rfl rfl ?_
              refine g_iconst (n := 1) rfl (by decide) ?_
              have hno : ¬ (rnk (mst s) t (i : Int) w n) := fun q => by first | exact y7 q.2.2.2.2 | exact pz_eq y6 q.2.2.2.1 | exact pz_eq y5 (ltw_of q.2.2.2.1)
              have hc1 : (rnC (mst s) t (i : Int) w n) = 1 := pk_f hno
              have hc0 : ¬ (rnC (mst s) t (i : Int) w n) = 0 := by rw [hc1]; decide
              refine g_V (z := yMd_fails) (e := 1) (A := [aI 1, aI 1]) (rest := []) (v := aI 1)  rfl rfl rfl rfl rfl rfl (by omega) hW.ob hW.b0 (m_g hM_s4 hW 1 1 (by omega)) ?_
              intro hh10 hq
              obtain ⟨s5, hW, r1_s5, r2_s5, r26_s5, hM_s5, rm_s5⟩ := hq
              have hQ_s5 : QS s s5 := hQ_s4.tr ⟨fun k _ _ => by rw [r1_s5], fun k hk => r2_s5 k (by omega)⟩
              refine g_ifne rfl rfl (fun c => ?_) (fun c => absurd c (by decide))
              refine g_iconst (n := 0) rfl (by decide) ?_
              exact r_i rfl rfl (pk_f hc0).symm (by rw [pkS_f hc0, hc1]; exact hQ_s5.mp ht hb hM hW r26_s5)
            · skip
              have y6 := c8
              refine g_aload_n rfl rfl ?_
              refine g_aload_n rfl rfl ?_
              refine g_get (ci := 8) (kk := 11) rfl rfl hW.ob hW.b0 rfl ?_
              rw [show s4.2 11 = 30 * (t : Int) from ((hQ_s4.2 11 (by omega)).trans hb)]
              refine g_aload_n rfl rfl ?_
              refine g_get (ci := 8) (kk := 1) rfl rfl hW.ob hW.b0 rfl ?_
              refine g_iload rfl rfl ?_
              refine g_iald rfl hW.a2 (by omega) ?_
              rw [show (s4.1 2) (((30 * t + i : Nat) : Int)).toNat = s.1 2 (30 * t + i) from by rw [hQ_s4.1 2 (by omega) (by omega), Int.toNat_natCast]]
              refine g_aload_n rfl rfl ?_
              refine g_get (ci := 8) (kk := 15) rfl rfl hW.ob hW.b0 rfl ?_
              refine g_iconst (n := 0) rfl (by decide) ?_
              refine g_aload_n rfl rfl ?_
              refine g_get (ci := 8) (kk := 16) rfl rfl hW.ob hW.b0 rfl ?_
              rw [show s4.2 16 = ((rnL (mst s) t (i : Int) w n).length : Int) from h16]
              refine g_V (z := yMd_find) (e := 1) (A := [aI (((rnL (mst s) t (i : Int) w n).length : Int)), aI 0, aR (m0 + 13), aI (s.1 2 (30 * t + i)), aI (30 * (t : Int))]) (rest := []) (v := aI (chl (mst s) t (rnL (mst s) t (i : Int) w n) (s.1 2 (30 * t + i)) 0 ((rnL (mst s) t (i : Int) w n).length : Int))) (P := fun h2 => h2 = hh1) rfl rfl rfl rfl rfl rfl (by omega) hW.ob hW.b0 ((by rw [← hfd]; exact m_find (by omega) hM_s4 ht hT4 hW _ 0 _ (by omega) (by omega) (by omega) (by omega))) ?_
              intro hh9 he9
              rw [he9]
              clear he9 hh9
              refine g_iconst (n := -1) rfl (by decide) ?_
              refine g_icmpne rfl rfl (fun c12 => ?_) (fun c12 => ?_)
              · skip
                have y7 := c12
                refine g_iconst (n := 0) rfl (by decide) ?_
                refine g_istore (L' := [aR m0, aI ((i : Int)), aL w, none, aI n, aI 0, aI (((30 * t + i : Nat) : Int)), aI 0, none]) rfl rfl ?_
                refine g_aload_n rfl rfl ?_
                refine g_iload rfl rfl ?_
                refine g_ifne rfl rfl (fun c => absurd c (by decide)) (fun c => ?_)
                refine g_iconst (n := 1) rfl (by decide) ?_
                refine g_goto rfl rfl ?_
                refine g_iconst (n := 1) rfl (by decide) ?_
                have hno : ¬ (rnk (mst s) t (i : Int) w n) := fun q => by first | exact y7 q.2.2.2.2 | exact pz_eq y6 q.2.2.2.1 | exact pz_eq y5 (ltw_of q.2.2.2.1)
                have hc1 : (rnC (mst s) t (i : Int) w n) = 1 := pk_f hno
                have hc0 : ¬ (rnC (mst s) t (i : Int) w n) = 0 := by rw [hc1]; decide
                refine g_V (z := yMd_fails) (e := 1) (A := [aI 1, aI 1]) (rest := []) (v := aI 1)  rfl rfl rfl rfl rfl rfl (by omega) hW.ob hW.b0 (m_g hM_s4 hW 1 1 (by omega)) ?_
                intro hh14 hq
                obtain ⟨s5, hW, r1_s5, r2_s5, r26_s5, hM_s5, rm_s5⟩ := hq
                have hQ_s5 : QS s s5 := hQ_s4.tr ⟨fun k _ _ => by rw [r1_s5], fun k hk => r2_s5 k (by omega)⟩
                refine g_ifne rfl rfl (fun c => ?_) (fun c => absurd c (by decide))
                refine g_iconst (n := 0) rfl (by decide) ?_
                exact r_i rfl rfl (pk_f hc0).symm (by rw [pkS_f hc0, hc1]; exact hQ_s5.mp ht hb hM hW r26_s5)
              · skip
                have y7 := c12
                refine g_iconst (n := 1) rfl (by decide) ?_
                refine g_goto rfl rfl ?_
                refine g_istore (L' := [aR m0, aI ((i : Int)), aL w, none, aI n, aI 1, aI (((30 * t + i : Nat) : Int)), aI 0, none]) rfl rfl ?_
                refine g_aload_n rfl rfl ?_
                refine g_iload rfl rfl ?_
                refine g_ifne rfl rfl (fun c => ?_) (fun c => absurd c (by decide))
                refine g_iconst (n := 0) rfl (by decide) ?_
                refine g_iconst (n := 1) rfl (by decide) ?_
                have hyes : (rnk (mst s) t (i : Int) w n) := ⟨z1, by omega, z3, by first | exact ⟨pz_ne y6, y7⟩ | (have yo := rn_over (st := mst s) (t := t) hT (i := i) (by omega) (by omega) (w := w) (n := n) (dir := (mst s).2.1 ((mst s).2.2.1 t (i : Int).toNat) 1) (by have e : (addl (((mst s).1 (2 * (mst s).2.2.1 t i))) w n).length = (rnL (mst s) t (i : Int) w n).length := rfl; rw [e]; omega); exact yo.mpr (pz_ne y5))⟩
                have hcE : (rnC (mst s) t (i : Int) w n) = pk (100 < (rnL (mst s) t (i : Int) w n).length) 2 0 := pk_t hyes
                refine g_V (z := yMd_fails) (e := 1) (A := [aI 1, aI 0]) (rest := []) (v := aI 0)  rfl rfl rfl rfl rfl rfl (by omega) hW.ob hW.b0 (m_g hM_s4 hW 0 1 (by omega)) ?_
                intro hh17 hq
                obtain ⟨s5, hW, r1_s5, r2_s5, r26_s5, hM_s5, rm_s5⟩ := hq
                have hQ_s5 : QS s s5 := hQ_s4.tr ⟨fun k _ _ => by rw [r1_s5], fun k hk => r2_s5 k (by omega)⟩
                refine g_ifne rfl rfl (fun c => absurd c (by decide)) (fun c => ?_)
                refine g_aload_n rfl rfl ?_
                refine g_iload rfl rfl ?_
                refine g_iconst (n := 2) rfl (by decide) ?_
                have hc0 : (rnC (mst s) t (i : Int) w n) = 0 := by
                  rw [hcE]
                  exact pk_f (by omega)
                refine g_V (z := yMd_fails) (e := 1) (A := [aI 2, aI 0]) (rest := []) (v := aI 0)  rfl rfl rfl rfl rfl rfl (by omega) hW.ob hW.b0 (m_g hM_s5 hW 0 2 (by omega)) ?_
                intro hh19 hq
                obtain ⟨s6, hW, r1_s6, r2_s6, r26_s6, hM_s6, rm_s6⟩ := hq
                have hQ_s6 : QS s s6 := hQ_s5.tr ⟨fun k _ _ => by rw [r1_s6], fun k hk => r2_s6 k (by omega)⟩
                refine g_ifeq rfl rfl (fun c => ?_) (fun c => absurd c (by decide))
                have e3b : s6.1 3 (30 * t + i) = s.1 3 (30 * t + i) := by rw [hQ_s6.1 3 (by omega) (by omega)]
                have h16b : s6.2 16 = ((rnL (mst s) t (i : Int) w n).length : Int) := by rw [r2_s6 16 (by decide), r2_s5 16 (by decide)]; exact h16
                obtain ⟨l0, hl0⟩ : ∃ l0 : Nat, s.1 3 (30 * t + i) = l0 := ⟨(s.1 3 (30 * t + i)).toNat, by omega⟩
                refine g_aload_n rfl rfl ?_
                refine g_get (ci := 8) (kk := 2) rfl rfl hW.ob hW.b0 rfl ?_
                refine g_iload rfl rfl ?_
                refine g_iald rfl hW.a3 (by omega) ?_
                rw [show (s6.1 3) (((30 * t + i : Nat) : Int)).toNat = (l0 : Int) from by rw [Int.toNat_natCast, e3b]; exact hl0]
                refine g_istore (L' := [aR m0, aI ((i : Int)), aL w, none, aI n, aI 1, aI (((30 * t + i : Nat) : Int)), aI 0, aI ((l0 : Int))]) rfl rfl ?_
                refine rm_loop (d := d) (B := B) (m0 := m0) s6 (s6.1 10) (i : Int) w n 1 0 (30 * t + i) l0 (by omega) (by rw [h16b]; omega) (fun h s7 v8 hW g10 go g2 => ?_) (s6.2 16 - l0).toNat l0 _ s6 (by omega) (by omega) (by omega) hW (by funext x; unfold cyN; rw [if_neg (by omega)]) (fun _ _ => rfl) rfl
                refine g_aload_n rfl rfl ?_
                refine g_get (ci := 8) (kk := 2) rfl rfl hW.ob hW.b0 rfl ?_
                refine g_iload rfl rfl ?_
                refine g_aload_n rfl rfl ?_
                refine g_get (ci := 8) (kk := 16) rfl rfl hW.ob hW.b0 rfl ?_
                rw [show s7.2 16 = ((rnL (mst s) t (i : Int) w n).length : Int) from (by rw [g2]; exact h16b)]
                refine g_iast rfl hW.a3 hW.bk (by omega) ?_
                generalize hg_hh1 : hput h (m0 + 3) (eA 0 60 (va_up (s7.1 3) (((30 * t + i : Nat) : Int)).toNat (((rnL (mst s) t (i : Int) w n).length : Int)))) = hh1
                obtain ⟨s8, hW, q3, o3, p3⟩ := hW.st (k := 3) (i := ((30 * t + i : Nat) : Int).toNat) (v := ((rnL (mst s) t (i : Int) w n).length : Int)) (by omega) (by omega) (fun z => absurd z (by decide))
                rw [show (eA (mty 3) (mln 3) (va_up (s7.1 3) ((30 * t + i : Nat) : Int).toNat ((rnL (mst s) t (i : Int) w n).length : Int)) : AE) = eA 0 60 (va_up (s7.1 3) ((30 * t + i : Nat) : Int).toNat ((rnL (mst s) t (i : Int) w n).length : Int)) from rfl, hg_hh1] at hW
                rw [Int.toNat_natCast] at q3
                have hK3 : s8.1 3 (30 * t + i) = ((rnL (mst s) t (i : Int) w n).length : Int) := by rw [q3]; simp [va_up]
                have k10 : s8.1 10 = cyN (s.1 10) (s4.1 13) (100 * (30 * t + i) + l0) l0 (((rnL (mst s) t (i : Int) w n).length : Int) - l0) := by rw [o3 10 (by decide), g10, h16b, hQ_s6.1 10 (by omega) (by omega), r1_s6, r1_s5]
                have hF : FR s s8 (30 * t + i) := by
                  refine ⟨fun k k1 k8 x hx => ?_, fun x hx => ?_, fun x hx => ?_⟩
                  · by_cases e : k = 3
                    · subst e
                      rw [q3, go 3 (by decide), hQ_s6.1 3 (by omega) (by omega)]
                      simp [va_up, hx]
                    · rw [o3 k e, go k (by omega), hQ_s6.1 k k1 (by omega)]
                  · rw [k10]
                    unfold cyN
                    rw [if_neg (by omega)]
                  · rw [o3 11 (by decide), go 11 (by decide), hQ_s6.1 11 (by omega) (by omega)]
                have hnm8 : nmM s8 (30 * t + i) = (rnL (mst s) t (i : Int) w n) := by
                  rw [← hwy4]
                  unfold nmM wy
                  rw [hK3, h16]
                  refine oF_ext fun j hj => ?_
                  rw [k10]
                  unfold cyN
                  by_cases z : j < l0
                  · rw [if_neg (by omega)]
                    have y : (wy s4).getD j 0 = s4.1 13 j := wy_get s4 (by omega)
                    rw [← y, hwy4]
                    unfold rnL addl
                    rw [Int.toNat_natCast, hnd, nmM_len, oF_get (by omega), if_pos (by omega), nmM_get s (by omega)]
                  · rw [if_pos (by omega), show (l0 : Int).toNat + (100 * (30 * t + i) + j - (100 * (30 * t + i) + l0)) = j by omega]
                have hse := se_name (s := s) (s' := s8) ht hM (i := i) (by omega) (L := (rnL (mst s) t (i : Int) w n)) (by omega) hF hK3 hnm8 (fun k k1 k12 k3 k10 => by rw [o3 k k3, go k k10, hQ_s6.1 k k1 k12]) (fun k hk => by rw [p3, g2]; exact hQ_s6.2 k hk)
                refine g_aload_n rfl rfl ?_
                refine g_get (ci := 8) (kk := 16) rfl rfl hW.ob hW.b0 rfl ?_
                rw [show s8.2 16 = ((rnL (mst s) t (i : Int) w n).length : Int) from (by rw [p3, g2]; exact h16b)]
                exact r_i rfl rfl (pk_t hc0).symm (by rw [pkS_t hc0, hc0]; exact mp_of ht (by rw [p3, g2, hQ_s6.2 11 (by omega)]; exact hb) hse.2 hW (by rw [p3, g2]; exact r26_s6) hse.1)
        · skip
          have y4 := c2
          refine g_iconst (n := 1) rfl (by decide) ?_
          refine g_goto rfl rfl ?_
          refine g_istore (L' := [aR m0, aI ((i : Int)), aL w, none, aI n, aI (pz (ltw w n)), aI (((30 * t + i : Nat) : Int)), aI 1, none]) rfl rfl ?_
          refine g_iload rfl rfl ?_
          refine g_ifeq rfl rfl (fun c21 => ?_) (fun c21 => ?_)
          · skip
            have y5 := c21
            refine g_iconst (n := 0) rfl (by decide) ?_
            refine g_istore (L' := [aR m0, aI ((i : Int)), aL w, none, aI n, aI 0, aI (((30 * t + i : Nat) : Int)), aI 1, none]) rfl rfl ?_
            refine g_aload_n rfl rfl ?_
            refine g_iload rfl rfl ?_
            refine g_ifne rfl rfl (fun c => absurd c (by decide)) (fun c => ?_)
            refine g_iconst (n := 1) rfl (by decide) ?_
            refine g_goto rfl rfl ?_
            refine g_iconst (n := 1) rfl (by decide) ?_
            have hno : ¬ (rnk (mst s) t (i : Int) w n) := fun q => by first | exact y7 q.2.2.2.2 | exact pz_eq y6 q.2.2.2.1 | exact pz_eq y5 (ltw_of q.2.2.2.1)
            have hc1 : (rnC (mst s) t (i : Int) w n) = 1 := pk_f hno
            have hc0 : ¬ (rnC (mst s) t (i : Int) w n) = 0 := by rw [hc1]; decide
            refine g_V (z := yMd_fails) (e := 1) (A := [aI 1, aI 1]) (rest := []) (v := aI 1)  rfl rfl rfl rfl rfl rfl (by omega) hW.ob hW.b0 (m_g hM_s4 hW 1 1 (by omega)) ?_
            intro hh23 hq
            obtain ⟨s5, hW, r1_s5, r2_s5, r26_s5, hM_s5, rm_s5⟩ := hq
            have hQ_s5 : QS s s5 := hQ_s4.tr ⟨fun k _ _ => by rw [r1_s5], fun k hk => r2_s5 k (by omega)⟩
            refine g_ifne rfl rfl (fun c => ?_) (fun c => absurd c (by decide))
            refine g_iconst (n := 0) rfl (by decide) ?_
            exact r_i rfl rfl (pk_f hc0).symm (by rw [pkS_f hc0, hc1]; exact hQ_s5.mp ht hb hM hW r26_s5)
          · skip
            have y5 := c21
            refine g_iload rfl rfl ?_
            refine g_ifne rfl rfl (fun c => ?_) (fun c => absurd c (by decide))
            refine g_iconst (n := 1) rfl (by decide) ?_
            refine g_goto rfl rfl ?_
            refine g_istore (L' := [aR m0, aI ((i : Int)), aL w, none, aI n, aI 1, aI (((30 * t + i : Nat) : Int)), aI 1, none]) rfl rfl ?_
            refine g_aload_n rfl rfl ?_
            refine g_iload rfl rfl ?_
            refine g_ifne rfl rfl (fun c => ?_) (fun c => absurd c (by decide))
            refine g_iconst (n := 0) rfl (by decide) ?_
            refine g_iconst (n := 1) rfl (by decide) ?_
            have hyes : (rnk (mst s) t (i : Int) w n) := ⟨z1, by omega, z3, by first | exact ⟨pz_ne y6, y7⟩ | (have yo := rn_over (st := mst s) (t := t) hT (i := i) (by omega) (by omega) (w := w) (n := n) (dir := (mst s).2.1 ((mst s).2.2.1 t (i : Int).toNat) 1) (by have e : (addl (((mst s).1 (2 * (mst s).2.2.1 t i))) w n).length = (rnL (mst s) t (i : Int) w n).length := rfl; rw [e]; omega); exact yo.mpr (pz_ne y5))⟩
            have hcE : (rnC (mst s) t (i : Int) w n) = pk (100 < (rnL (mst s) t (i : Int) w n).length) 2 0 := pk_t hyes
            refine g_V (z := yMd_fails) (e := 1) (A := [aI 1, aI 0]) (rest := []) (v := aI 0)  rfl rfl rfl rfl rfl rfl (by omega) hW.ob hW.b0 (m_g hM_s4 hW 0 1 (by omega)) ?_
            intro hh27 hq
            obtain ⟨s5, hW, r1_s5, r2_s5, r26_s5, hM_s5, rm_s5⟩ := hq
            have hQ_s5 : QS s s5 := hQ_s4.tr ⟨fun k _ _ => by rw [r1_s5], fun k hk => r2_s5 k (by omega)⟩
            refine g_ifne rfl rfl (fun c => absurd c (by decide)) (fun c => ?_)
            refine g_aload_n rfl rfl ?_
            refine g_iload rfl rfl ?_
            refine g_iconst (n := 2) rfl (by decide) ?_
            have hc2 : (rnC (mst s) t (i : Int) w n) = 2 := by
              rw [hcE]
              exact pk_t (by omega)
            have hc0 : ¬ (rnC (mst s) t (i : Int) w n) = 0 := by rw [hc2]; decide
            refine g_V (z := yMd_fails) (e := 1) (A := [aI 2, aI 1]) (rest := []) (v := aI 1)  rfl rfl rfl rfl rfl rfl (by omega) hW.ob hW.b0 (m_g hM_s5 hW 1 2 (by omega)) ?_
            intro hh29 hq
            obtain ⟨s6, hW, r1_s6, r2_s6, r26_s6, hM_s6, rm_s6⟩ := hq
            have hQ_s6 : QS s s6 := hQ_s5.tr ⟨fun k _ _ => by rw [r1_s6], fun k hk => r2_s6 k (by omega)⟩
            refine g_ifeq rfl rfl (fun c => absurd c (by decide)) (fun c => ?_)
            refine g_iconst (n := 0) rfl (by decide) ?_
            exact r_i rfl rfl (pk_f hc0).symm (by rw [pkS_f hc0, hc2]; exact hQ_s6.mp ht hb hM hW r26_s6)
end Md22
