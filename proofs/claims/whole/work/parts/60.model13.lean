/-! The reference: what write does. -/
noncomputable def pkS (p : Prop) (x y : CS) : CS := @ite CS p (Classical.propDecidable p) x y
theorem pkS_t {p : Prop} {x y : CS} (h : p) : pkS p x y = x := @if_pos p (Classical.propDecidable p) h CS x y
theorem pkS_f {p : Prop} {x y : CS} (h : ¬ p) : pkS p x y = y := @if_neg p (Classical.propDecidable p) h CS x y
/-- after a call of the reference: it looks as X does, and has thrown c -/
def MP (B : AH) (m0 : Nat) (X : CS) (t : Nat) (c : Int) : AH → Prop := fun h2 => ∃ s', WM B m0 h2 s' ∧ MOK s' ∧ SE X (mst s') t ∧ s'.2 11 = 30 * (t : Int) ∧ s'.2 26 = c
section Md13
variable {B h : AH} {m0 d t : Nat} {s : MS} {P W C : Nat → Int} {n : Int} {l : List Int}
theorem xF_I (k : Nat) (hk : k ≠ 16) (v : Int) : uI (xF s P W n C) k v = xF (uI s k v) P W n C := by
  refine Prod.ext rfl ?_
  funext j
  show va_up (va_up s.2 16 n) k v j = va_up (va_up s.2 k v) 16 n j
  unfold va_up
  by_cases h1 : j = k
  · rw [if_pos h1, if_neg (by omega), if_pos h1]
  · rw [if_neg h1]
    by_cases h2 : j = 16
    · rw [if_pos h2, if_pos h2]
    · rw [if_neg h2, if_neg h2, if_neg h1]
theorem xF_f (hW : WM B m0 h (xF s P W n C)) (c : Int) (hc : c = 0 ∨ c = 1) : Cal d yMd_fails [aR m0, aI c, aI 1] h (RV (some (aI c)) (fun h2 => WM B m0 h2 (xF (uI s 26 c) P W n C))) := by
  rcases hc with q | q <;> subst q
  · have k9 := m_fails (d := d) hW False 1
    rw [pz_f (fun z => z), pk_f (fun z => z), xF_I 26 (by decide)] at k9
    exact k9
  · have k9 := m_fails (d := d) hW True 1
    rw [pz_t trivial, pk_t trivial, xF_I 26 (by decide)] at k9
    exact k9
theorem zero_list (P0 : Nat → Int) {x : Int} : PL (cyW (fun _ => 0) P0 0 0 x) (List.replicate x.toNat 0) := by
  intro j hj
  rw [List.length_replicate] at hj
  unfold cyW
  rw [if_pos (by omega)]
  simp [List.getD_eq_getElem?_getD, hj]
theorem m_write (hd4 : 4 ≤ d) (hM : MOK s) (ht : t < 2) (hb : s.2 11 = 30 * (t : Int)) (hT : TI (mst s) t) (hW : WM B m0 h s) : Cal d yMd_write [aR m0] h (RV (some (aI (pk (bfF (mst s) t (((mst s).2.2.2.1 t) - 1) 1 2 ≠ -1) (bfF (mst s) t (((mst s).2.2.2.1 t) - 1) 1 2) 0))) (MP B m0 (pkS (bfF (mst s) t (((mst s).2.2.2.1 t) - 1) 1 2 ≠ -1) (uR (mst s) 121 (wrT (mst s) t (bfF (mst s) t (((mst s).2.2.2.1 t) - 1) 1 2)).1) (mst s)) t (pk (bfF (mst s) t (((mst s).2.2.2.1 t) - 1) 1 2 ≠ -1) 0 1))) := by
  obtain ⟨d, rfl⟩ : ∃ e, d = e + 4 := ⟨d - 4, by omega⟩
  have hc := hT.c
  generalize hBF : bfF (mst s) t (((mst s).2.2.2.1 t) - 1) 1 2 = BF
  show Go _ _ 0 [aR m0, none, none, none, none, none, none] [] _ _
  refine g_aload_n rfl rfl ?_
  refine g_Vn (z := yMd_arrange) (e := 1) (A := []) (rest := [])  rfl rfl rfl rfl rfl rfl (by omega) hW.ob hW.b0 (m_arrange (by omega) hM ht hb hT hW) ?_
  intro hh1 hq
  obtain ⟨O, L, Op, La, hW, hO⟩ := hq
  obtain ⟨s1, hs1⟩ : ∃ s1, yF s O L Op La = s1 := ⟨_, rfl⟩
  rw [hs1] at hW
  have q16 : s1.1 16 = O := by rw [← hs1]; rfl
  have qms : mst s1 = mst s := by rw [← hs1]; rfl
  have qM : MOK s1 := by rw [← hs1]; exact hM
  have q11 : ∀ k, 1 ≤ k → k ≤ 11 → s1.1 k = s.1 k := fun k k1 k2 => by
    rw [← hs1]
    show (if k = 16 then O else if k = 17 then L else if k = 18 then Op else if k = 19 then La else s.1 k) = s.1 k
    rw [if_neg (by omega), if_neg (by omega), if_neg (by omega), if_neg (by omega)]
  have q12 : s1.1 12 = s.1 12 := by rw [← hs1]; rfl
  have q2 : s1.2 = s.2 := by rw [← hs1]; rfl
  clear hs1
  rw [← qms] at hT hO hBF ⊢
  rw [← q2] at hb
  rw [← q16] at hO
  clear hM
  obtain ⟨ba1, ba2⟩ := bf_all hT hO
  rw [hBF] at ba1 ba2
  refine g_iconst (n := 2) rfl (by decide) ?_
  refine g_istore_n (L' := [aR m0, aI 2, none, none, none, none, none]) rfl rfl ?_
  refine g_iconst (n := 1) rfl (by decide) ?_
  refine g_istore_n (L' := [aR m0, aI 2, aI 1, none, none, none, none]) rfl rfl ?_
  refine g_iconst (n := 0) rfl (by decide) ?_
  refine g_istore_n (L' := [aR m0, aI 2, aI 1, aI 0, none, none, none]) rfl rfl ?_
  have hc2 := hT.c
  have hmm := qM.2.2.2
  have h9 := fun Q kk => wr1 (Q := Q) (d := d + 3) (B := B) (m0 := m0) (P := s1.1 12) qM ht hb hT hO kk (((mst s1).2.2.2.1 t) - 1) 0 _ (s1.1 13) (s1.1 14) (s1.2 16) none (by omega) (by rw [xF_self]; exact hW) (fun j hj => absurd hj (Nat.not_lt_zero _))
  refine h9 _ (fun h W C n x g0 y v4 hW hcase => ?_)
  clear h9
  refine g_aload_n rfl rfl ?_
  refine g_iload_n rfl rfl ?_
  refine g_ifeq rfl rfl (fun c1 => ?_) (fun c1 => ?_)
  · skip
    have cg := c1
    refine g_iconst (n := 1) rfl (by decide) ?_
    refine g_goto rfl rfl ?_
    refine g_iconst (n := 1) rfl (by decide) ?_
    have hno : ¬ BF ≠ -1 := fun z => by
      have y1 := ba1.1 z
      rcases hcase with ⟨c1, c2, c3⟩ | ⟨c1, c2, c3⟩
      · omega
      · exact c2 y1.1
    refine g_V (z := yMd_fails) (e := 1) (A := [aI 1, aI 1]) (rest := []) (v := aI 1)  rfl rfl rfl rfl rfl rfl (by omega) (xF_ob hW) hW.b0 (xF_f hW 1 (Or.inr rfl)) ?_
    intro hh2 hW
    refine g_ifeq rfl rfl (fun c => absurd c (by decide)) (fun c => ?_)
    refine g_iconst (n := 0) rfl (by decide) ?_
    exact r_i rfl rfl (pk_f hno).symm ⟨_, hW, qM, by rw [show pkS (BF ≠ -1) (uR (mst s1) 121 (wrT (mst s1) t BF).1) (mst s1) = mst s1 from pkS_f hno]; exact ⟨mst_vq ht qM (fun k k1 k2 => by show (if k = 12 then s1.1 12 else if k = 13 then W else if k = 14 then C else s1.1 k) = s1.1 k; rw [if_neg (by omega), if_neg (by omega), if_neg (by omega)]), rfl, rfl, rfl⟩, hb, by rw [pk_f hno]; rfl⟩
  · skip
    have cg := c1
    refine g_sipush (n := 512) rfl (by decide) ?_
    refine g_iload_n rfl rfl ?_
    have hxr0 : 0 ≤ x ∧ x ≤ 1000 := by
      rcases hcase with ⟨c1, c2, c3⟩ | ⟨c1, c2, c3⟩
      · rw [c3]
        have e9 : ∀ m, m + 1 ≤ ((mst s1).2.2.2.1 t) → sumN (fun i => bkn (mst s1) t (s1.1 16 i).toNat) m ≤ 5 * m := by
          intro m
          induction m with
          | zero => intro _; exact Nat.le_refl _
          | succ m ihm =>
            intro hm
            have y1 := ihm (by omega)
            have y2 := ord_r hT hO (i := m) (by omega)
            have y3 := (bkn_m qM ht (i := (s1.1 16 m).toNat) (by omega)).2
            show sumN (fun i => bkn (mst s1) t (s1.1 16 i).toNat) m + bkn (mst s1) t (s1.1 16 m).toNat ≤ _
            omega
        have y9 := e9 (((mst s1).2.2.2.1 t) - 1) (by omega)
        omega
      · exact c3
    refine g_imul rfl (by omega) ?_
    refine g_sipush (n := 10240) rfl (by decide) ?_
    refine g_icmple rfl rfl (fun c4 => ?_) (fun c4 => ?_)
    · skip
      have cx := c4
      refine g_iconst (n := 0) rfl (by decide) ?_
      refine g_iconst (n := 1) rfl (by decide) ?_
      have hg : g0 = 1 ∧ (∀ i, i + 1 < ((mst s1).2.2.2.1 t) → tel (mst s1) t (s1.1 16 i).toNat) ∧ x = ((2 + sumN (fun i => bkn (mst s1) t (s1.1 16 i).toNat) (((mst s1).2.2.2.1 t) - 1) : Nat) : Int) := by
        rcases hcase with c1 | c1
        · exact c1
        · exact absurd c1.1 cg
      have hyes : BF ≠ -1 := ba1.2 ⟨hg.2.1, by have := hg.2.2; omega⟩
      have hxB : x = BF := hg.2.2.trans (ba2 hyes).symm
      refine g_V (z := yMd_fails) (e := 1) (A := [aI 1, aI 0]) (rest := []) (v := aI 0)  rfl rfl rfl rfl rfl rfl (by omega) (xF_ob hW) hW.b0 (xF_f hW 0 (Or.inl rfl)) ?_
      intro hh5 hW
      refine g_ifeq rfl rfl (fun c => ?_) (fun c => absurd c (by decide))
      refine g_aload_n rfl rfl ?_
      refine g_sipush (n := 512) rfl (by decide) ?_
      refine g_iload_n rfl rfl ?_
      refine g_imul rfl (by omega) ?_
      refine g_put (ci := 8) (kk := 13) (fs' := [aR (m0 + 1), aR (m0 + 2), aR (m0 + 3), aR (m0 + 4), aR (m0 + 5), aR (m0 + 6), aR (m0 + 7), aR (m0 + 8), aR (m0 + 9), aR (m0 + 10), aR (m0 + 11), aI (s1.2 11), aR (m0 + 12), aI (512 * x), aI (s1.2 14), aR (m0 + 13), aI n, aI (s1.2 17), aI (s1.2 18), aR (m0 + 14), aR (m0 + 15), aR (m0 + 16), aR (m0 + 17), aR (m0 + 18), aR (m0 + 19), aR (m0 + 20), aI 0]) rfl rfl (xF_ob hW) hW.b0 (Nat.le_of_ble_eq_true rfl) rfl (by decide) rfl ?_
      generalize hg_hh7 : hput hh5 m0 (eO 8 [aR (m0 + 1), aR (m0 + 2), aR (m0 + 3), aR (m0 + 4), aR (m0 + 5), aR (m0 + 6), aR (m0 + 7), aR (m0 + 8), aR (m0 + 9), aR (m0 + 10), aR (m0 + 11), aI (s1.2 11), aR (m0 + 12), aI (512 * x), aI (s1.2 14), aR (m0 + 13), aI n, aI (s1.2 17), aI (s1.2 18), aR (m0 + 14), aR (m0 + 15), aR (m0 + 16), aR (m0 + 17), aR (m0 + 18), aR (m0 + 19), aR (m0 + 20), aI 0]) = hh7
      have hW := hW.setI (k := 13) (v := 512 * x) rfl
      rw [xF_I 13 (by decide)] at hW
      have hW : WM B m0 hh7 (xF (uI (uI s1 26 0) 13 (512 * x)) (s1.1 12) W n C) := by
        rw [← hg_hh7]
        exact hW
      refine g_iconst (n := 0) rfl (by decide) ?_
      refine g_istore_n (L' := [aR m0, aI x, aI g0, aI 0, v4, none, none]) rfl rfl ?_
      have hxr : 0 ≤ x ∧ x ≤ 20 := by have z1 := hg.2.2; have z2 := (ba1.1 hyes).2; omega
      obtain ⟨s3, hs3⟩ : ∃ s3, (uI (uI s1 26 0) 13 (512 * x)) = s3 := ⟨_, rfl⟩
      rw [hs3] at hW
      have r13 : s3.2 13 = 512 * x := by rw [← hs3]; rfl
      have r1 : s3.1 = s1.1 := by rw [← hs3]; rfl
      have r11 : s3.2 11 = s1.2 11 := by rw [← hs3]; rfl
      have r14 : s3.2 14 = s1.2 14 := by rw [← hs3]; rfl
      have r26 : s3.2 26 = 0 := by rw [← hs3]; rfl
      clear hs3
      have hM3 : MOK s3 := ⟨by rw [r1]; exact qM.1, by rw [r1]; exact qM.2.1, by rw [r11]; exact qM.2.2.1, by rw [r13]; omega, by rw [r13]; omega⟩
      have v3 : VQ (mst s1) (mst s3) t := mst_vq ht qM (fun k _ _ => by rw [r1])
      have hT3 := v3.ti hT
      have hO3 : ordA (mst s3) t (s3.1 16) := by rw [r1]; exact v3.qordA hT hO
      have hC3 : ((mst s3).2.2.2.1 t) = ((mst s1).2.2.2.1 t) := v3.1
      have hsum : sumN (fun i => bkn (mst s3) t (s3.1 16 i).toNat) (((mst s3).2.2.2.1 t) - 1) = sumN (fun i => bkn (mst s1) t (s1.1 16 i).toNat) (((mst s1).2.2.2.1 t) - 1) := by
        rw [hC3, r1]
        exact sm_congr fun i hi => v3.qbkn (by have := ord_r hT hO (i := i) (by omega); omega)
      have h9 := fun Q kk => wr2 (Q := Q) (d := d + 4) (B := B) (m0 := m0) (s := s3) (W := W) (n := n) (C := C) (s1.1 12) x g0 v4 (by omega) (by omega) kk (s3.2 13).toNat 0 _ (by omega) (by omega) (by omega) (by rw [cy_0]; exact hW)
      refine h9 _ (fun h hW => ?_)
      clear h9
      have hP0 := zero_list (s1.1 12) (x := s3.2 13)
      generalize hPZ : cyW (fun _ => 0) (s1.1 12) 0 0 (s3.2 13) = PZ at *
      refine g_iconst (n := 0) rfl (by decide) ?_
      refine g_istore_n (L' := [aR m0, aI x, aI g0, aI 0, v4, none, none]) rfl rfl ?_
      refine g_iconst (n := 0) rfl (by decide) ?_
      refine g_istore (L' := [aR m0, aI x, aI g0, aI 0, aI 0, none, none]) rfl rfl ?_
      have h9 := wr3 (d := d + 1) (B := B) (m0 := m0) (s := s3) (t := t) (Z := (List.replicate (s3.2 13).toNat 0, 0)) hM3 ht (by rw [r11]; exact hb) hT3 hO3 x g0 (fun i hi => by rw [r1]; exact (v3.qtel (by have := ord_r hT hO (i := i) (by omega); omega)).2 (hg.2.1 i (by omega))) (List.length_replicate) rfl (by rw [hsum, r13]; have := hg.2.2; omega) (((mst s3).2.2.2.1 t) - 1) 0 h PZ W C n none none (by omega) hW hP0
      rw [show (oeF (mst s3) t (s3.1 16) (List.replicate (s3.2 13).toNat 0, 0) 0).2 * 512 = 0 from rfl] at h9
      refine h9.mono (fun o h2 hh => ⟨?_, ?_⟩)
      · rw [pk_t hyes, ← hxB]; exact hh.1
      · obtain ⟨P1, W1, n1, C1, hW, hP1⟩ := hh.2
        rw [oe_pe hT3 hO3] at hP1
        have hfin : peF (mst s3) t 1 (((mst s3).2.2.2.1 t) - 1) 1 (peF (mst s3) t 0 (((mst s3).2.2.2.1 t) - 1) 1 (List.replicate (s3.2 13).toNat 0, 0)) = wrT (mst s1) t BF := by
          rw [← v3.qwrT hT]
          unfold wrT
          rw [show (BF * 512).toNat = (s3.2 13).toNat by rw [r13]; omega]
        rw [hfin] at hP1
        have hlen : (wrT (mst s1) t BF).1.length = (s3.2 13).toNat := by
          rw [← hfin, (peF_len _ _ _ _ _ _).1, (peF_len _ _ _ _ _ _).1]
          exact List.length_replicate
        refine ⟨_, hW, hM3, ?_, by rw [← hb, ← r11]; rfl, by rw [pk_t hyes, ← r26]; rfl⟩
        rw [pkS_t hyes]
        refine ⟨?_, ?_, ?_, ?_⟩
        · have v4 : VQ (mst s1) (mst (xF s3 P1 W1 n1 C1)) t := v3.tr (mst_vq ht hM3 (fun k k1 k2 => by show (if k = 12 then P1 else if k = 13 then W1 else if k = 14 then C1 else s3.1 k) = s3.1 k; rw [if_neg (by omega), if_neg (by omega), if_neg (by omega)]))
          exact ⟨v4.1, fun i hi => by
            have q9 := v4.2 i hi
            have q8 : i < ((mst s1).2.2.2.1 t) := hi
            refine ⟨q9.1, ?_, ?_⟩
            · rw [q9.2.1]
              exact (uR_ne _ _ (by show 2 * (30 * t + i) ≠ 121; omega)).symm
            · rw [q9.2.2]
              exact (uR_ne _ _ (by show 2 * (30 * t + i) + 1 ≠ 121; omega)).symm⟩
        · rw [uR_get]
          exact hP1.pg hlen
        · show s3.2 11 / 30 = s1.2 11 / 30
          rw [r11]
        · exact r14
    · skip
      have cx := c4
      refine g_iconst (n := 1) rfl (by decide) ?_
      refine g_goto rfl rfl ?_
      refine g_iconst (n := 1) rfl (by decide) ?_
      have hno : ¬ BF ≠ -1 := fun z => by
        have y1 := ba1.1 z
        rcases hcase with ⟨c1, c2, c3⟩ | ⟨c1, c2, c3⟩
        · omega
        · exact c2 y1.1
      refine g_V (z := yMd_fails) (e := 1) (A := [aI 1, aI 1]) (rest := []) (v := aI 1)  rfl rfl rfl rfl rfl rfl (by omega) (xF_ob hW) hW.b0 (xF_f hW 1 (Or.inr rfl)) ?_
      intro hh8 hW
      refine g_ifeq rfl rfl (fun c => absurd c (by decide)) (fun c => ?_)
      refine g_iconst (n := 0) rfl (by decide) ?_
      exact r_i rfl rfl (pk_f hno).symm ⟨_, hW, qM, by rw [show pkS (BF ≠ -1) (uR (mst s1) 121 (wrT (mst s1) t BF).1) (mst s1) = mst s1 from pkS_f hno]; exact ⟨mst_vq ht qM (fun k k1 k2 => by show (if k = 12 then s1.1 12 else if k = 13 then W else if k = 14 then C else s1.1 k) = s1.1 k; rw [if_neg (by omega), if_neg (by omega), if_neg (by omega)]), rfl, rfl, rfl⟩, hb, by rw [pk_f hno]; rfl⟩
end Md13
