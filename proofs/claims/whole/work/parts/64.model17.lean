/-! The reference: set, contents. -/
section Md17
variable {B h : AH} {m0 d t : Nat} {s s' : MS} {c : Int}
theorem WM.st (hW : WM B m0 h s) {k i : Nat} {v : Int} (h1 : 1 ≤ k) (h2 : k ≤ 20) (hv : mty k = 1 → r8 v) : ∃ s', WM B m0 (hput h (m0 + k) (eA (mty k) (mln k) (va_up (s.1 k) i v))) s' ∧ s'.1 k = va_up (s.1 k) i v ∧ (∀ j, j ≠ k → s'.1 j = s.1 j) ∧ s'.2 = s.2 := by
  refine ⟨uA s k i v, hW.setA h1 h2 hv, ?_, fun j hj => ?_, rfl⟩
  · show va_up s.1 k (va_up (s.1 k) i v) k = _
    simp [va_up]
  · show va_up s.1 k (va_up (s.1 k) i v) j = _
    simp [va_up, hj]
theorem uN3 (st : CS) (p q k : Nat) (m o u : Int) : (uN (uN (uN st p 3 m) p 4 o) p 5 u).2.1 q k = if q = p then (if k = 5 then u else if k = 4 then o else if k = 3 then m else st.2.1 q k) else st.2.1 q k := by
  by_cases e : q = p
  · subst e
    simp [uN, va_up]
  · simp [uN, va_up, e]
/-- it throws k, or not -/
theorem m_g (hM : MOK s) (hW : WM B m0 h s) (c kd : Int) (hc : c = 0 ∨ c = 1) : Cal d yMd_fails [aR m0, aI c, aI kd] h (RV (some (aI c)) (fun h2 => ∃ s1, WM B m0 h2 s1 ∧ s1.1 = s.1 ∧ (∀ k, k ≠ 26 → s1.2 k = s.2 k) ∧ s1.2 26 = c * kd ∧ MOK s1 ∧ mst s1 = mst s)) := by
  rcases hc with q | q <;> subst q
  · have k9 := m_fails (d := d) hW False kd
    rw [pz_f (fun z => z), pk_f (fun z => z)] at k9
    refine k9.mono fun o h2 hh => ⟨hh.1, uI s 26 0, hh.2, rfl, fun k hk => ?_, by rw [Int.zero_mul]; rfl, hM, rfl⟩
    show va_up s.2 26 0 k = s.2 k
    simp [va_up, hk]
  · have k9 := m_fails (d := d) hW True kd
    rw [pz_t trivial, pk_t trivial] at k9
    refine k9.mono fun o h2 hh => ⟨hh.1, uI s 26 kd, hh.2, rfl, fun k hk => ?_, by rw [Int.one_mul]; rfl, hM, rfl⟩
    show va_up s.2 26 kd k = s.2 k
    simp [va_up, hk]
theorem mp_of {X : CS} (ht : t < 2) (hb : s'.2 11 = 30 * (t : Int)) (hM : MOK s') (hW : WM B m0 h s') (h26 : s'.2 26 = c) (hS : SE X (mst s') t) : MP B m0 X t c h := ⟨s', hW, hM, hS, hb, h26⟩
theorem mp_eq (hb : s.2 11 = 30 * (t : Int)) (hM : MOK s') (hW : WM B m0 h s') (h11 : s'.2 11 = s.2 11) (h26 : s'.2 26 = c) (hm : mst s' = mst s) : MP B m0 (mst s) t c h := ⟨s', hW, hM, by rw [hm]; exact SE.rf _ _, h11.trans hb, h26⟩
theorem m_set (hd2 : 2 ≤ d) (ht : t < 2) (hb : s.2 11 = 30 * (t : Int)) (hM : MOK s) (hW : WM B m0 h s) (node m o u : Int) : Cal d yMd_set [aR m0, aI node, aI m, aI o, aI u] h (RV none (MP B m0 (pkS (seOK (mst s) t node m o u) (seF (mst s) t node m o u) (mst s)) t (pk (seOK (mst s) t node m o u) 0 1))) := by
  have hcn := hM.2.1 t ht
  have hC : ((mst s).2.2.2.1 t) = (s.1 9 t).toNat := rfl
  show Go _ _ 0 [aR m0, aI node, aI m, aI o, aI u] [] _ _
  refine g_aload_n rfl rfl ?_
  refine g_aload_n rfl rfl ?_
  refine g_iload_n rfl rfl ?_
  refine g_V (z := yMd_isNode) (e := 1) (A := [aI node]) (rest := [aR m0]) (v := aI (pz (hs (mst s) t node))) (P := fun h2 => h2 = h) rfl rfl rfl rfl rfl rfl (by omega) hW.ob hW.b0 (m_isNode2 (by omega) ht hb hM hW _) ?_
  intro hh9 he9
  rw [he9]
  clear he9 hh9
  refine g_ifeq rfl rfl (fun c1 => ?_) (fun c1 => ?_)
  · skip
    have y1 := c1
    refine g_iconst (n := 1) rfl (by decide) ?_
    refine g_goto rfl rfl ?_
    refine g_iconst (n := 1) rfl (by decide) ?_
    have hno : ¬ (seOK (mst s) t node m o u) := fun q => by first | (have := q.2.2.2; omega) | exact pz_eq y3 q.2.2.1 | exact pz_eq y2 q.2.1 | exact pz_eq y1 q.1
    refine g_V (z := yMd_fails) (e := 1) (A := [aI 1, aI 1]) (rest := []) (v := aI 1)  rfl rfl rfl rfl rfl rfl (by omega) hW.ob hW.b0 (m_g hM hW 1 1 (by omega)) ?_
    intro hh2 hq
    obtain ⟨s1, hW, r1, r2, r26, hM1, rm⟩ := hq
    have r11 := r2 11 (by decide)
    refine g_ifeq rfl rfl (fun c => absurd c (by decide)) (fun c => ?_)
    exact r_v rfl rfl (by rw [pkS_f hno, pk_f hno]; exact mp_eq hb hM1 hW r11 r26 rm)
  · skip
    have y1 := c1
    refine g_iload_n rfl rfl ?_
    refine g_iconst (n := 0) rfl (by decide) ?_
    refine g_sipush (n := 4095) rfl (by decide) ?_
    refine g_S (z := yMd_within) (e := 1) (A := [aI 4095, aI 0, aI m]) (rest := [aR m0]) (v := aI (pz (0 ≤ m ∧ m ≤ 4095))) (P := fun h2 => h2 = h) rfl rfl rfl rfl rfl rfl (by omega) (m_within _ _ _) ?_
    intro hh9 he9
    rw [he9]
    clear he9 hh9
    refine g_ifeq rfl rfl (fun c4 => ?_) (fun c4 => ?_)
    · skip
      have y2 := c4
      refine g_iconst (n := 1) rfl (by decide) ?_
      refine g_goto rfl rfl ?_
      refine g_iconst (n := 1) rfl (by decide) ?_
      have hno : ¬ (seOK (mst s) t node m o u) := fun q => by first | (have := q.2.2.2; omega) | exact pz_eq y3 q.2.2.1 | exact pz_eq y2 q.2.1 | exact pz_eq y1 q.1
      refine g_V (z := yMd_fails) (e := 1) (A := [aI 1, aI 1]) (rest := []) (v := aI 1)  rfl rfl rfl rfl rfl rfl (by omega) hW.ob hW.b0 (m_g hM hW 1 1 (by omega)) ?_
      intro hh5 hq
      obtain ⟨s1, hW, r1, r2, r26, hM1, rm⟩ := hq
      have r11 := r2 11 (by decide)
      refine g_ifeq rfl rfl (fun c => absurd c (by decide)) (fun c => ?_)
      exact r_v rfl rfl (by rw [pkS_f hno, pk_f hno]; exact mp_eq hb hM1 hW r11 r26 rm)
    · skip
      have y2 := c4
      refine g_iload_n rfl rfl ?_
      refine g_iconst (n := 0) rfl (by decide) ?_
      refine g_ldc (v := 2097151) rfl rfl ?_
      refine g_S (z := yMd_within) (e := 1) (A := [aI 2097151, aI 0, aI o]) (rest := [aR m0]) (v := aI (pz (0 ≤ o ∧ o ≤ 2097151))) (P := fun h2 => h2 = h) rfl rfl rfl rfl rfl rfl (by omega) (m_within _ _ _) ?_
      intro hh9 he9
      rw [he9]
      clear he9 hh9
      refine g_ifeq rfl rfl (fun c7 => ?_) (fun c7 => ?_)
      · skip
        have y3 := c7
        refine g_iconst (n := 1) rfl (by decide) ?_
        refine g_goto rfl rfl ?_
        refine g_iconst (n := 1) rfl (by decide) ?_
        have hno : ¬ (seOK (mst s) t node m o u) := fun q => by first | (have := q.2.2.2; omega) | exact pz_eq y3 q.2.2.1 | exact pz_eq y2 q.2.1 | exact pz_eq y1 q.1
        refine g_V (z := yMd_fails) (e := 1) (A := [aI 1, aI 1]) (rest := []) (v := aI 1)  rfl rfl rfl rfl rfl rfl (by omega) hW.ob hW.b0 (m_g hM hW 1 1 (by omega)) ?_
        intro hh8 hq
        obtain ⟨s1, hW, r1, r2, r26, hM1, rm⟩ := hq
        have r11 := r2 11 (by decide)
        refine g_ifeq rfl rfl (fun c => absurd c (by decide)) (fun c => ?_)
        exact r_v rfl rfl (by rw [pkS_f hno, pk_f hno]; exact mp_eq hb hM1 hW r11 r26 rm)
      · skip
        have y3 := c7
        refine g_iload rfl rfl ?_
        refine g_ifge rfl rfl (fun c10 => ?_) (fun c10 => ?_)
        · skip
          have y4 := c10
          refine g_iconst (n := 0) rfl (by decide) ?_
          refine g_iconst (n := 1) rfl (by decide) ?_
          have hyes : (seOK (mst s) t node m o u) := ⟨pz_ne y1, pz_ne y2, pz_ne y3, y4⟩
          refine g_V (z := yMd_fails) (e := 1) (A := [aI 1, aI 0]) (rest := []) (v := aI 0)  rfl rfl rfl rfl rfl rfl (by omega) hW.ob hW.b0 (m_g hM hW 0 1 (by omega)) ?_
          intro hh11 hq
          obtain ⟨s1, hW, r1, r2, r26, hM1, rm⟩ := hq
          have r11 := r2 11 (by decide)
          refine g_ifeq rfl rfl (fun c => ?_) (fun c => absurd c (by decide))
          have hh1 := hyes.1.1
          have hh2 := hyes.1.2
          obtain ⟨i, rfl⟩ : ∃ i : Nat, node = i := ⟨node.toNat, by omega⟩
          have e1 : (30 * (t : Int) + (i : Int)).toNat = 30 * t + i := by omega
          have hb1 : s1.2 11 = 30 * (t : Int) := r11.trans hb
          refine g_aload_n rfl rfl ?_
          refine g_get (ci := 8) (kk := 3) rfl rfl hW.ob hW.b0 rfl ?_
          refine g_aload_n rfl rfl ?_
          refine g_get (ci := 8) (kk := 11) rfl rfl hW.ob hW.b0 rfl ?_
          rw [show s1.2 11 = 30 * (t : Int) from hb1]
          refine g_iload_n rfl rfl ?_
          refine g_iadd rfl (by omega) ?_
          refine g_iload_n rfl rfl ?_
          refine g_iast rfl hW.a4 hW.bk (by omega) ?_
          generalize hg_hh13 : hput hh11 (m0 + 4) (eA 0 60 (va_up (s1.1 4) ((30 * (t : Int)) + ((i : Int))).toNat m)) = hh13
          obtain ⟨s2, hW, q4, o4, p4⟩ := hW.st (k := 4) (i := (30 * (t : Int) + (i : Int)).toNat) (v := m) (by omega) (by omega) (fun z => absurd z (by decide))
          rw [show (eA (mty 4) (mln 4) (va_up (s1.1 4) (30 * (t : Int) + (i : Int)).toNat (m)) : AE) = eA 0 60 (va_up (s1.1 4) (30 * (t : Int) + (i : Int)).toNat (m)) from rfl, hg_hh13] at hW
          rw [e1] at q4
          refine g_aload_n rfl rfl ?_
          refine g_get (ci := 8) (kk := 4) rfl rfl hW.ob hW.b0 rfl ?_
          refine g_aload_n rfl rfl ?_
          refine g_get (ci := 8) (kk := 11) rfl rfl hW.ob hW.b0 rfl ?_
          rw [show s2.2 11 = 30 * (t : Int) from (by rw [p4]; exact hb1)]
          refine g_iload_n rfl rfl ?_
          refine g_iadd rfl (by omega) ?_
          refine g_iload_n rfl rfl ?_
          refine g_iast rfl hW.a5 hW.bk (by omega) ?_
          generalize hg_hh14 : hput hh13 (m0 + 5) (eA 0 60 (va_up (s2.1 5) ((30 * (t : Int)) + ((i : Int))).toNat o)) = hh14
          obtain ⟨s3, hW, q5, o5, p5⟩ := hW.st (k := 5) (i := (30 * (t : Int) + (i : Int)).toNat) (v := o) (by omega) (by omega) (fun z => absurd z (by decide))
          rw [show (eA (mty 5) (mln 5) (va_up (s2.1 5) (30 * (t : Int) + (i : Int)).toNat (o)) : AE) = eA 0 60 (va_up (s2.1 5) (30 * (t : Int) + (i : Int)).toNat (o)) from rfl, hg_hh14] at hW
          rw [e1] at q5
          refine g_aload_n rfl rfl ?_
          refine g_get (ci := 8) (kk := 5) rfl rfl hW.ob hW.b0 rfl ?_
          refine g_aload_n rfl rfl ?_
          refine g_get (ci := 8) (kk := 11) rfl rfl hW.ob hW.b0 rfl ?_
          rw [show s3.2 11 = 30 * (t : Int) from (by rw [p5, p4]; exact hb1)]
          refine g_iload_n rfl rfl ?_
          refine g_iadd rfl (by omega) ?_
          refine g_iload rfl rfl ?_
          refine g_iast rfl hW.a6 hW.bk (by omega) ?_
          generalize hg_hh15 : hput hh14 (m0 + 6) (eA 0 60 (va_up (s3.1 6) ((30 * (t : Int)) + ((i : Int))).toNat u)) = hh15
          obtain ⟨s4, hW, q6, o6, p6⟩ := hW.st (k := 6) (i := (30 * (t : Int) + (i : Int)).toNat) (v := u) (by omega) (by omega) (fun z => absurd z (by decide))
          rw [show (eA (mty 6) (mln 6) (va_up (s3.1 6) (30 * (t : Int) + (i : Int)).toNat (u)) : AE) = eA 0 60 (va_up (s3.1 6) (30 * (t : Int) + (i : Int)).toNat (u)) from rfl, hg_hh15] at hW
          rw [e1] at q6
          have f2 : s4.2 = s1.2 := by rw [p6, p5, p4]
          have f4 : s4.1 4 = va_up (s.1 4) (30 * t + i) m := by rw [o6 4 (by decide), o5 4 (by decide), q4, r1]
          have f5 : s4.1 5 = va_up (s.1 5) (30 * t + i) o := by rw [o6 5 (by decide), q5, o4 5 (by decide), r1]
          have f6 : s4.1 6 = va_up (s.1 6) (30 * t + i) u := by rw [q6, o5 6 (by decide), o4 6 (by decide), r1]
          have fo : ∀ k, k ≠ 4 → k ≠ 5 → k ≠ 6 → s4.1 k = s.1 k := fun k k4 k5 k6 => by rw [o6 k k6, o5 k k5, o4 k k4, r1]
          have hM4 : MOK s4 := by
            refine ⟨?_, ?_, by rw [f2]; exact hM1.2.2.1, by rw [f2]; exact hM1.2.2.2⟩
            · rw [fo 3 (by decide) (by decide) (by decide), fo 7 (by decide) (by decide) (by decide)]; exact hM.1
            · rw [fo 9 (by decide) (by decide) (by decide)]; exact hM.2.1
          have hSE : SE (seF (mst s) t (i : Int) m o u) (mst s4) t := by
            refine ⟨⟨by show (s4.1 9 t).toNat = (s.1 9 t).toNat; rw [fo 9 (by decide) (by decide) (by decide)], fun j hj => ?_⟩, ?_, ?_, ?_⟩
            · have hj2 : j < (s.1 9 t).toNat := hj
              refine ⟨fun k hk => ?_, ?_, ?_⟩
              · have hse : (seF (mst s) t (i : Int) m o u).2.1 (30 * t + j) k = if 30 * t + j = 30 * t + i then (if k = 5 then u else if k = 4 then o else if k = 3 then m else (mst s).2.1 (30 * t + j) k) else (mst s).2.1 (30 * t + j) k := by
                  have e9 := uN3 (mst s) (30 * t + i) (30 * t + j) k m o u
                  exact e9
                show (mst s4).2.1 (30 * t + j) k = (seF (mst s) t (i : Int) m o u).2.1 (30 * t + j) k
                rw [hse]
                rcases (by omega : k = 0 ∨ k = 1 ∨ k = 2 ∨ k = 3 ∨ k = 4 ∨ k = 5) with z | z | z | z | z | z <;> subst z
                · show s4.1 1 (30 * t + j) = _; rw [fo 1 (by decide) (by decide) (by decide)]; simp [mst]
                · show s4.1 2 (30 * t + j) = _; rw [fo 2 (by decide) (by decide) (by decide)]; simp [mst]
                · show s4.1 8 (30 * t + j) = _; rw [fo 8 (by decide) (by decide) (by decide)]; simp [mst]
                · show s4.1 4 (30 * t + j) = _; rw [f4]; simp [va_up, mst]
                · show s4.1 5 (30 * t + j) = _; rw [f5]; simp [va_up, mst]
                · show s4.1 6 (30 * t + j) = _; rw [f6]; simp [va_up, mst]
              · show ((mst s4).1 (2 * (mst s4).2.2.1 t j)) = ((mst s).1 (2 * (mst s).2.2.1 t j))
                rw [mst_nm s4 ht (by omega), mst_nm s ht (by omega)]
                unfold nmM
                rw [fo 3 (by decide) (by decide) (by decide), fo 10 (by decide) (by decide) (by decide)]
              · show ((mst s4).1 (2 * (mst s4).2.2.1 t j + 1)) = ((mst s).1 (2 * (mst s).2.2.1 t j + 1))
                rw [mst_bd s4 ht (by omega), mst_bd s ht (by omega)]
                unfold bdM
                rw [fo 7 (by decide) (by decide) (by decide), fo 11 (by decide) (by decide) (by decide)]
            · show pg s4 = pg s
              unfold pg
              rw [f2, r2 13 (by decide), fo 12 (by decide) (by decide) (by decide)]
            · show s4.2 11 / 30 = s.2 11 / 30
              rw [f2, r11]
            · show s4.2 14 = s.2 14
              rw [f2, r2 14 (by decide)]
          exact r_v rfl rfl (by rw [pkS_t hyes, pk_t hyes]; exact mp_of ht (by rw [f2]; exact hb1) hM4 hW (by rw [f2]; exact r26) hSE)
        · skip
          have y4 := c10
          refine g_iconst (n := 1) rfl (by decide) ?_
          refine g_goto rfl rfl ?_
          refine g_iconst (n := 1) rfl (by decide) ?_
          have hno : ¬ (seOK (mst s) t node m o u) := fun q => by first | (have := q.2.2.2; omega) | exact pz_eq y3 q.2.2.1 | exact pz_eq y2 q.2.1 | exact pz_eq y1 q.1
          refine g_V (z := yMd_fails) (e := 1) (A := [aI 1, aI 1]) (rest := []) (v := aI 1)  rfl rfl rfl rfl rfl rfl (by omega) hW.ob hW.b0 (m_g hM hW 1 1 (by omega)) ?_
          intro hh16 hq
          obtain ⟨s1, hW, r1, r2, r26, hM1, rm⟩ := hq
          have r11 := r2 11 (by decide)
          refine g_ifeq rfl rfl (fun c => absurd c (by decide)) (fun c => ?_)
          exact r_v rfl rfl (by rw [pkS_f hno, pk_f hno]; exact mp_eq hb hM1 hW r11 r26 rm)
end Md17
