/-! The reference: an entry's path. -/
noncomputable def ENv (st : CS) (u : Nat) (l : List Int) (b : Int) : Int := pk (pokR st u l (b * 512) (kndR l (b * 512))) (pk (tokR st u l (b * 512) (kndR l (b * 512))) (pk (30 ≤ (st.2.2.2.1 u) ∨ 2000 < lnR l b) 9 (fcR l b (lnR l b))) 8) 7
def EN (s s' : MS) (u : Nat) (b : Int) : Prop := FR s s' (30 * u + (s.1 9 u).toNat) ∧ s'.1 9 = va_up (s.1 9) u (s.1 9 u + 1) ∧ s'.1 12 = s.1 12 ∧ (∀ k, k ≤ 14 → s'.2 k = s.2 k) ∧ NX (mst s) (mst s') u (kndR (pg s) (b * 512)) (drR (mst s) u (ptR (pg s) (b * 512))) (flR (mst s) u (pg s) (b * 512) (kndR (pg s) (b * 512))) (octv (pg s) (b * 512 + 100) 7) (octv (pg s) (b * 512 + 108) 7) (octv (pg s) (b * 512 + 136) 11) (cps (ptR (pg s) (b * 512)) (slsR (ptR (pg s) (b * 512)) + 1) (ntR (ptR (pg s) (b * 512)))) (if kndR (pg s) (b * 512) = 1 ∨ kndR (pg s) (b * 512) = 2 then bdR (pg s) b else []) ∧ MOK s'
def EP (s s' : MS) (u : Nat) (b v : Int) : Prop := s'.2 26 = s.2 26 ∧ (v ≠ 0 → QS s s') ∧ (v = 0 → EN s s' u b)
section Md28
variable {B h : AH} {m0 d t u : Nat} {s s' : MS} {c b : Int} {st ms : CS} {P : List Int}
theorem VQ.qrk (h : VQ st ms u) (hc : 1 ≤ (st.2.2.2.1 u)) (P : List Int) : ∀ i : Nat, rk ms u P i = rk st u P i := by
  intro i
  induction i with
  | zero => rfl
  | succ i ih => rw [rk_s, rk_s, ih, h.qchl hc]
theorem cps_pg (s : MS) {a : Int} {n : Nat} (h0 : 0 ≤ a) (h1 : a + n ≤ s.2 13) : cps (pg s) a (a + n) = oF n (fun j => s.1 12 (a.toNat + j)) := by
  unfold cps
  rw [show (a + (n : Int) - a).toNat = n by omega]
  exact oF_ext fun j hj => pg_get s (by omega)
theorem wy_snoc (h0 : 0 ≤ s.2 16) (h13 : s'.1 13 = va_up (s.1 13) (s.2 16).toNat 47) (h16 : s'.2 16 = s.2 16 + 1) : wy s' = wy s ++ [47] := by
  have hl := wy_len s
  refine li_ext ?_ fun j hj => ?_
  · rw [wy_len, List.length_append, hl, h16]
    simp
    omega
  · rw [wy_len, h16] at hj
    rw [wy_get s' (by omega), h13, getD_app]
    by_cases z : j < (wy s).length
    · rw [if_pos z, wy_get s (by omega)]
      simp [va_up, show j ≠ (s.2 16).toNat by omega]
    · rw [if_neg z, show j - (wy s).length = 0 by omega, show j = (s.2 16).toNat by omega]
      simp [va_up]
theorem cps_n (l : List Int) (a : Int) (n : Nat) : (cps l a (a + n)).length = n := by
  unfold cps
  rw [oF_len]
  omega
theorem ptR_len (l : List Int) (f : Int) : (ptR l f).length ≤ 256 := by
  have h1 : (p1R l f).length = tx l (f + 345) 155 := cps_n _ _ _
  have h2 : (p2R l f).length = tx l f 100 := cps_n _ _ _
  have t1 := tx_le l 155 (f + 345)
  have t2 := tx_le l 100 f
  unfold ptR pfR
  rw [List.length_append]
  split
  · rw [List.length_append]
    simp
    omega
  · omega
theorem en_118 {Q : AO → AH → Prop} (hM : MOK s) (hb0 : 0 ≤ b) (hb1 : b * 512 + 512 ≤ s.2 13) {s2 : MS} (hQ : QS s s2) (h26 : s2.2 26 = s.2 26) (hW : WM B m0 h s2) (hwy : wy s2 = pfR (pg s) (b * 512)) (h16 : s2.2 16 = ((pfR (pg s) (b * 512)).length : Int)) (hl : (pfR (pg s) (b * 512)).length ≤ 156) (w3 w4 w5 : AV) (kk : ∀ (h : AH) (s' : MS), WM B m0 h s' → QS s s' → s'.2 26 = s.2 26 → wy s' = (ptR (pg s) (b * 512)) → s'.2 16 = ((ptR (pg s) (b * 512)).length : Int) → Go d yMd_entry 125 [aR m0, aI (b * 512), aI (30 * (u : Int)), w3, w4, w5, aI (((tx (pg s) (b * 512 + 345) 155 : Nat) : Int)), aI (((tx (pg s) (b * 512) 100 : Nat) : Int)), none, none, none, none, none, none, none, none, none, none, none, none, none] [] h Q) (hd1 : 1 ≤ d) : Go d yMd_entry 118 [aR m0, aI (b * 512), aI (30 * (u : Int)), w3, w4, w5, aI (((tx (pg s) (b * 512 + 345) 155 : Nat) : Int)), aI (((tx (pg s) (b * 512) 100 : Nat) : Int)), none, none, none, none, none, none, none, none, none, none, none, none, none] [] h Q := by
  have ht7 := tx_le (pg s) 100 (b * 512)
  have hm := hM.2.2.2.2
  refine g_aload_n rfl rfl ?_
  refine g_iload_n rfl rfl ?_
  refine g_iload rfl rfl ?_
  refine g_Vn (z := yMd_copyIn) (e := 1) (A := [aI (((tx (pg s) (b * 512) 100 : Nat) : Int)), aI (b * 512)]) (rest := [])  rfl rfl rfl rfl rfl rfl (by omega) hW.ob hW.b0 (m_cp hW (b * 512) ((tx (pg s) (b * 512) 100 : Nat) : Int) (by omega) (by omega) (by omega) (by omega) (by omega)) ?_
  intro hh1 hq
  obtain ⟨s3, hW, hQ3, hwy3, h163, o13, o16⟩ := hq
  have hQ_s3 : QS s s3 := hQ.tr hQ3
  have e12 : s2.1 12 = s.1 12 := hQ.1 12 (by omega) (by omega)
  have hw3 : wy s3 = (ptR (pg s) (b * 512)) := by
    rw [hwy3, hwy, Int.toNat_natCast, e12, ← cps_pg s (by omega) (by omega)]
    rfl
  have h16b : s3.2 16 = ((ptR (pg s) (b * 512)).length : Int) := by
    have e := wy_len s3
    rw [hw3] at e
    omega
  exact kk _ s3 hW hQ_s3 (by rw [o16 26 (by decide)]; exact h26) hw3 h16b
theorem en_pt {Q : AO → AH → Prop} (hM : MOK s) (hb0 : 0 ≤ b) (hb1 : b * 512 + 512 ≤ s.2 13) (hW : WM B m0 h s) (w3 w4 w5 : AV) (kk : ∀ (h : AH) (s' : MS), WM B m0 h s' → QS s s' → s'.2 26 = s.2 26 → wy s' = (ptR (pg s) (b * 512)) → s'.2 16 = ((ptR (pg s) (b * 512)).length : Int) → Go d yMd_entry 125 [aR m0, aI (b * 512), aI (30 * (u : Int)), w3, w4, w5, aI (((tx (pg s) (b * 512 + 345) 155 : Nat) : Int)), aI (((tx (pg s) (b * 512) 100 : Nat) : Int)), none, none, none, none, none, none, none, none, none, none, none, none, none] [] h Q) (hd1 : 1 ≤ d) : Go d yMd_entry 76 [aR m0, aI (b * 512), aI (30 * (u : Int)), w3, w4, w5, aI (((tx (pg s) (b * 512 + 345) 155 : Nat) : Int)), aI (((tx (pg s) (b * 512) 100 : Nat) : Int)), none, none, none, none, none, none, none, none, none, none, none, none, none] [] h Q := by
  have ht6 := tx_le (pg s) 155 (b * 512 + 345)
  have hm := hM.2.2.2.2
  have hp1 : (p1R (pg s) (b * 512)).length = tx (pg s) (b * 512 + 345) 155 := cps_n _ _ _
  refine g_aload_n rfl rfl ?_
  refine g_iconst (n := 0) rfl (by decide) ?_
  refine g_put (ci := 8) (kk := 16) (fs' := [aR (m0 + 1), aR (m0 + 2), aR (m0 + 3), aR (m0 + 4), aR (m0 + 5), aR (m0 + 6), aR (m0 + 7), aR (m0 + 8), aR (m0 + 9), aR (m0 + 10), aR (m0 + 11), aI (s.2 11), aR (m0 + 12), aI (s.2 13), aI (s.2 14), aR (m0 + 13), aI 0, aI (s.2 17), aI (s.2 18), aR (m0 + 14), aR (m0 + 15), aR (m0 + 16), aR (m0 + 17), aR (m0 + 18), aR (m0 + 19), aR (m0 + 20), aI (s.2 26)]) rfl rfl hW.ob hW.b0 (Nat.le_of_ble_eq_true rfl) rfl (by decide) rfl ?_
  generalize hg_hh1 : hput h m0 (eO 8 [aR (m0 + 1), aR (m0 + 2), aR (m0 + 3), aR (m0 + 4), aR (m0 + 5), aR (m0 + 6), aR (m0 + 7), aR (m0 + 8), aR (m0 + 9), aR (m0 + 10), aR (m0 + 11), aI (s.2 11), aR (m0 + 12), aI (s.2 13), aI (s.2 14), aR (m0 + 13), aI 0, aI (s.2 17), aI (s.2 18), aR (m0 + 14), aR (m0 + 15), aR (m0 + 16), aR (m0 + 17), aR (m0 + 18), aR (m0 + 19), aR (m0 + 20), aI (s.2 26)]) = hh1
  obtain ⟨s2, hW, qi16, oi16, pi16⟩ : ∃ s9, WM B m0 hh1 s9 ∧ s9.2 16 = 0 ∧ (∀ j, j ≠ 16 → s9.2 j = s.2 j) ∧ s9.1 = s.1 := ⟨uI s 16 0, by rw [← hg_hh1]; exact hW.setI rfl, by simp [uI, va_up], fun j hj => by simp [uI, va_up, hj], rfl⟩
  have hQ_s2 : QS s s2 := ⟨fun k _ _ => by rw [pi16], fun k hk => oi16 k (by omega)⟩
  have hwy2 : wy s2 = [] := by
    unfold wy
    rw [qi16]
    rfl
  have h262 : s2.2 26 = s.2 26 := oi16 26 (by decide)
  refine g_iload rfl rfl ?_
  refine g_ifle rfl rfl (fun c2 => ?_) (fun c2 => ?_)
  · skip
    have y1 := c2
    have hpf : pfR (pg s) (b * 512) = [] := by
      unfold pfR
      rw [if_neg (by omega)]
      exact List.eq_nil_of_length_eq_zero (by omega)
    exact en_118 hM hb0 hb1 hQ_s2 (oi16 26 (by decide)) hW (by rw [hpf]; exact hwy2) (by rw [hpf, qi16]; rfl) (by rw [hpf]; simp) w3 w4 w5 kk hd1
  · skip
    have y1 := c2
    refine g_aload_n rfl rfl ?_
    refine g_iload_n rfl rfl ?_
    refine g_sipush (n := 345) rfl (by decide) ?_
    refine g_iadd rfl (by omega) ?_
    refine g_iload rfl rfl ?_
    refine g_Vn (z := yMd_copyIn) (e := 1) (A := [aI (((tx (pg s) (b * 512 + 345) 155 : Nat) : Int)), aI ((b * 512) + 345)]) (rest := [])  rfl rfl rfl rfl rfl rfl (by omega) hW.ob hW.b0 (m_cp hW (b * 512 + 345) ((tx (pg s) (b * 512 + 345) 155 : Nat) : Int) (by omega) (by omega) (by omega) (by omega) (by omega)) ?_
    intro hh3 hq
    obtain ⟨s3, hW, hQ3, hwy3, h163, o13, o16⟩ := hq
    have hQ_s3 : QS s s3 := hQ_s2.tr hQ3
    have e12 : s2.1 12 = s.1 12 := hQ_s2.1 12 (by omega) (by omega)
    have hw3 : wy s3 = p1R (pg s) (b * 512) := by
      rw [hwy3, hwy2, Int.toNat_natCast, e12, ← cps_pg s (by omega) (by omega), List.nil_append]
      rfl
    have h16b : s3.2 16 = ((tx (pg s) (b * 512 + 345) 155 : Nat) : Int) := by omega
    refine g_aload_n rfl rfl ?_
    refine g_get (ci := 8) (kk := 15) rfl rfl hW.ob hW.b0 rfl ?_
    refine g_aload_n rfl rfl ?_
    refine g_get (ci := 8) (kk := 16) rfl rfl hW.ob hW.b0 rfl ?_
    rw [show s3.2 16 = ((tx (pg s) (b * 512 + 345) 155 : Nat) : Int) from h16b]
    refine g_bipush (n := 47) rfl (by decide) ?_
    refine g_bast rfl hW.a13 hW.bk (by omega) ?_
    generalize hg_hh4 : hput hh3 (m0 + 13) (eA 1 3200 (va_up (s3.1 13) (((tx (pg s) (b * 512 + 345) 155 : Nat) : Int)).toNat (a8 47))) = hh4
    obtain ⟨s4, hW, q13, o13, p13⟩ := hW.st (k := 13) (i := ((tx (pg s) (b * 512 + 345) 155 : Nat) : Int).toNat) (v := (a8 47)) (by omega) (by omega) (fun _ => a8_r _)
    rw [show (eA (mty 13) (mln 13) (va_up (s3.1 13) ((tx (pg s) (b * 512 + 345) 155 : Nat) : Int).toNat (a8 47)) : AE) = eA 1 3200 (va_up (s3.1 13) ((tx (pg s) (b * 512 + 345) 155 : Nat) : Int).toNat (a8 47)) from rfl, hg_hh4] at hW
    rw [Int.toNat_natCast, show a8 47 = 47 from rfl] at q13
    refine g_aload_n rfl rfl ?_
    refine g_dup rfl rfl ?_
    refine g_get (ci := 8) (kk := 16) rfl rfl hW.ob hW.b0 rfl ?_
    rw [show s4.2 16 = ((tx (pg s) (b * 512 + 345) 155 : Nat) : Int) from (by rw [p13]; exact h16b)]
    refine g_iconst (n := 1) rfl (by decide) ?_
    refine g_iadd rfl (by omega) ?_
    refine g_put (ci := 8) (kk := 16) (fs' := [aR (m0 + 1), aR (m0 + 2), aR (m0 + 3), aR (m0 + 4), aR (m0 + 5), aR (m0 + 6), aR (m0 + 7), aR (m0 + 8), aR (m0 + 9), aR (m0 + 10), aR (m0 + 11), aI (s4.2 11), aR (m0 + 12), aI (s4.2 13), aI (s4.2 14), aR (m0 + 13), aI ((((tx (pg s) (b * 512 + 345) 155 : Nat) : Int)) + 1), aI (s4.2 17), aI (s4.2 18), aR (m0 + 14), aR (m0 + 15), aR (m0 + 16), aR (m0 + 17), aR (m0 + 18), aR (m0 + 19), aR (m0 + 20), aI (s4.2 26)]) rfl rfl hW.ob hW.b0 (Nat.le_of_ble_eq_true rfl) rfl (by decide) rfl ?_
    generalize hg_hh5 : hput hh4 m0 (eO 8 [aR (m0 + 1), aR (m0 + 2), aR (m0 + 3), aR (m0 + 4), aR (m0 + 5), aR (m0 + 6), aR (m0 + 7), aR (m0 + 8), aR (m0 + 9), aR (m0 + 10), aR (m0 + 11), aI (s4.2 11), aR (m0 + 12), aI (s4.2 13), aI (s4.2 14), aR (m0 + 13), aI ((((tx (pg s) (b * 512 + 345) 155 : Nat) : Int)) + 1), aI (s4.2 17), aI (s4.2 18), aR (m0 + 14), aR (m0 + 15), aR (m0 + 16), aR (m0 + 17), aR (m0 + 18), aR (m0 + 19), aR (m0 + 20), aI (s4.2 26)]) = hh5
    obtain ⟨s5, hW, qi16, oi16, pi16⟩ : ∃ s9, WM B m0 hh5 s9 ∧ s9.2 16 = (((tx (pg s) (b * 512 + 345) 155 : Nat) : Int) + 1) ∧ (∀ j, j ≠ 16 → s9.2 j = s4.2 j) ∧ s9.1 = s4.1 := ⟨uI s4 16 ((((tx (pg s) (b * 512 + 345) 155 : Nat) : Int) + 1)), by rw [← hg_hh5]; exact hW.setI rfl, by simp [uI, va_up], fun j hj => by simp [uI, va_up, hj], rfl⟩
    have h165 : s5.2 16 = ((tx (pg s) (b * 512 + 345) 155 : Nat) : Int) + 1 := by assumption
    have hw5 : wy s5 = p1R (pg s) (b * 512) ++ [47] := by
      rw [← hw3]
      refine wy_snoc (s := s3) (by omega) ?_ ?_
      · rw [pi16, q13, h16b, Int.toNat_natCast]
      · rw [h165, h16b]
    have hQ_s5 : QS s s5 := hQ_s3.tr ⟨fun k k1 k2 => by rw [pi16, o13 k (by omega)], fun k hk => by rw [oi16 k (by omega), p13]⟩
    have h26 : s5.2 26 = s.2 26 := by rw [oi16 26 (by decide), p13, o16 26 (by decide)]; exact h262
    have hpf : pfR (pg s) (b * 512) = p1R (pg s) (b * 512) ++ [47] := by
      unfold pfR
      rw [if_pos (by omega)]
    exact en_118 hM hb0 hb1 hQ_s5 h26 hW (by rw [hpf]; exact hw5) (by rw [hpf, h165, List.length_append, hp1]; rfl) (by rw [hpf, List.length_append, hp1]; simp; omega) w3 w4 w5 kk hd1
theorem EP.no {v : Int} (hQ : QS s s') (h26 : s'.2 26 = s.2 26) (h : v ≠ 0) : EP s s' u b v := ⟨h26, fun _ => hQ, fun q => absurd q h⟩
theorem ENv_7 {l : List Int} (h : ¬ pokR st u l (b * 512) (kndR l (b * 512))) : ENv st u l b = 7 := pk_f h
theorem ENv_8 {l : List Int} (h : pokR st u l (b * 512) (kndR l (b * 512))) (h2 : ¬ tokR st u l (b * 512) (kndR l (b * 512))) : ENv st u l b = 8 := (pk_t h).trans (pk_f h2)
theorem ntR_c (P : List Int) : (ntR P = (P.length : Int) ∧ rat P ((P.length : Int) - 1) ≠ 47) ∨ (ntR P = (P.length : Int) - 1 ∧ rat P ((P.length : Int) - 1) = 47) := by
  unfold ntR
  split
  · rename_i h
    exact Or.inr ⟨rfl, h⟩
  · rename_i h
    exact Or.inl ⟨rfl, h⟩
theorem en_125_0 (hd3 : 3 ≤ d) (hu : u < 2) (hT : TI (mst s) u) (hM : MOK s) (hb0 : 0 ≤ b) (hb1 : b * 512 + 512 ≤ s.2 13) {s2 : MS} (hQ : QS s s2) (h26 : s2.2 26 = s.2 26) (hW : WM B m0 h s2) (hwy : wy s2 = (ptR (pg s) (b * 512))) (h16 : s2.2 16 = ((ptR (pg s) (b * 512)).length : Int)) (hz : zrs (pg s) (b * 512 + 345 + tx (pg s) (b * 512 + 345) 155) (b * 512 + 345 + 155) ∧ zrs (pg s) (b * 512 + tx (pg s) (b * 512) 100) (b * 512 + 100)) (hk0 : kndR (pg s) (b * 512) ≠ 0) (w3 w4 w6 : AV) (x7 : Int) (kk : ∀ (h : AH) (s' : MS), WM B m0 h s' → QS s s' → s'.2 26 = s.2 26 → wy s' = (ptR (pg s) (b * 512)) → s'.2 16 = ((ptR (pg s) (b * 512)).length : Int) → pokR (mst s) u (pg s) (b * 512) (kndR (pg s) (b * 512)) → Go d yMd_entry 225 [aR m0, aI (b * 512), aI (30 * (u : Int)), w3, w4, aI 0, w6, aI x7, aI 0, aI (drR (mst s) u (ptR (pg s) (b * 512))), aI (slsR (ptR (pg s) (b * 512)) + 1), aI (ntR (ptR (pg s) (b * 512)) - (slsR (ptR (pg s) (b * 512)) + 1)), none, none, none, none, none, none, none, none, none] [] h (RV (some (aI (ENv (mst s) u (pg s) b))) (fun h2 => ∃ s', WM B m0 h2 s' ∧ EP s s' u b (ENv (mst s) u (pg s) b)))) : Go d yMd_entry 125 [aR m0, aI (b * 512), aI (30 * (u : Int)), w3, w4, aI 0, w6, aI x7, none, none, none, none, none, none, none, none, none, none, none, none, none] [] h (RV (some (aI (ENv (mst s) u (pg s) b))) (fun h2 => ∃ s', WM B m0 h2 s' ∧ EP s s' u b (ENv (mst s) u (pg s) b))) := by
  have hpl := ptR_len (pg s) (b * 512)
  have hV := hQ.vq hu hM
  have hM2 := hQ.mok hM
  have hT2 := hV.ti hT
  have hnt := ntR_c (ptR (pg s) (b * 512))
  have hls := lsl_r (ptR (pg s) (b * 512)) (ntR (ptR (pg s) (b * 512))).toNat
  refine g_aload_n rfl rfl ?_
  refine g_get (ci := 8) (kk := 16) rfl rfl hW.ob hW.b0 rfl ?_
  rw [show s2.2 16 = ((ptR (pg s) (b * 512)).length : Int) from h16]
  refine g_ifle rfl rfl (fun c1 => ?_) (fun c1 => ?_)
  · skip
    have y1 := c1
    refine g_iconst (n := 0) rfl (by decide) ?_
    refine g_istore (L' := [aR m0, aI (b * 512), aI (30 * (u : Int)), w3, w4, aI 0, w6, aI x7, aI 0, none, none, none, none, none, none, none, none, none, none, none, none]) rfl rfl ?_
    refine g_aload_n rfl rfl ?_
    refine g_get (ci := 8) (kk := 16) rfl rfl hW.ob hW.b0 rfl ?_
    rw [show s2.2 16 = ((ptR (pg s) (b * 512)).length : Int) from h16]
    refine g_ifeq rfl rfl (fun c2 => ?_) (fun c2 => ?_)
    · skip
      have y3 := c2
      refine g_bipush (n := 7) rfl (by decide) ?_
      have hno : ¬ pokR (mst s) u (pg s) (b * 512) (kndR (pg s) (b * 512)) := fun q => by
        have z := q.2.2.1.2.1
        first
        | (have e : (ptR (pg s) (b * 512)) = [] := List.eq_nil_of_length_eq_zero (by omega)
           rw [e] at z
           have e1 : ntR ([] : List Int) = 0 := rfl
           have e2 : slsR ([] : List Int) = -1 := rfl
           rw [e1, e2] at z
           omega)
        | (have z2 := q.2.1
           omega)
      have hv := ENv_7 hno
      exact r_i rfl rfl hv.symm ⟨s2, hW, EP.no hQ h26 (by rw [hv]; decide)⟩
    · skip
      have y3 := c2
      refine g_iload rfl rfl ?_
      refine g_iload rfl rfl ?_
      refine g_icmpeq rfl rfl (fun c => ?_) (fun c => absurd c (by decide))
      refine g_aload_n rfl rfl ?_
      refine g_iload_n rfl rfl ?_
      refine g_iload rfl rfl ?_
      have hntd : ntR (ptR (pg s) (b * 512)) = ((ptR (pg s) (b * 512)).length : Int) := by omega
      obtain ⟨e, he⟩ : ∃ e : Nat, ntR (ptR (pg s) (b * 512)) = (e : Int) := ⟨(ntR (ptR (pg s) (b * 512))).toNat, by omega⟩
      have hdk := drR_rk (st := mst s) (u := u) (P := (ptR (pg s) (b * 512))) (by omega)
      have hte : (ntR (ptR (pg s) (b * 512))).toNat = e := by omega
      rw [hte] at hdk
      have hqr := hV.qrk hT.c.1 (ptR (pg s) (b * 512)) e
      have hwv : pk (isK (mst s2) u (rk (mst s2) u (wy s2) e).1 0 ∧ nmix (wy s2) (rk (mst s2) u (wy s2) e).2 (e : Int) ∧ (e : Int) - (rk (mst s2) u (wy s2) e).2 ≤ 100) (rk (mst s2) u (wy s2) e).1 (-1) = pk (isK (mst s) u (drR (mst s) u (ptR (pg s) (b * 512))) 0 ∧ nmix (ptR (pg s) (b * 512)) (slsR (ptR (pg s) (b * 512)) + 1) (ntR (ptR (pg s) (b * 512))) ∧ ntR (ptR (pg s) (b * 512)) - (slsR (ptR (pg s) (b * 512)) + 1) ≤ 100) (drR (mst s) u (ptR (pg s) (b * 512))) (-1) := by
        rw [hwy, hqr, propext (hV.qisK _ _), ← hdk.1, hdk.2, he]
      refine g_V (z := yMd_walk) (e := 1) (A := [aI 0, aI (30 * (u : Int))]) (rest := []) (v := aI (pk (isK (mst s) u (drR (mst s) u (ptR (pg s) (b * 512))) 0 ∧ nmix (ptR (pg s) (b * 512)) (slsR (ptR (pg s) (b * 512)) + 1) (ntR (ptR (pg s) (b * 512))) ∧ ntR (ptR (pg s) (b * 512)) - (slsR (ptR (pg s) (b * 512)) + 1) ≤ 100) (drR (mst s) u (ptR (pg s) (b * 512))) (-1)))  rfl rfl rfl rfl rfl rfl (by omega) hW.ob hW.b0 ((by rw [← hwv]; exact m_walk (by omega) hu hM2 hT2 hW (by omega) 0 (by omega) e (by omega))) ?_
      intro hh4 hq
      obtain ⟨s3, hW, r1, r2, r17, r18⟩ := hq
      rw [hwy, hqr, hdk.2] at r17 r18
      rw [← he] at r18
      have hQ3 : QS s s3 := hQ.tr ⟨fun k _ _ => by rw [r1], fun k hk => r2 k (by omega) (by omega)⟩
      have h263 : s3.2 26 = s.2 26 := (r2 26 (by decide) (by decide)).trans h26
      have hwy3 : wy s3 = (ptR (pg s) (b * 512)) := by
        rw [← hwy]
        unfold wy
        rw [r1, r2 16 (by decide) (by decide)]
      have h163 : s3.2 16 = ((ptR (pg s) (b * 512)).length : Int) := (r2 16 (by decide) (by decide)).trans h16
      have hV3 := hQ3.vq hu hM
      have hM3 := hQ3.mok hM
      have hT3 := hV3.ti hT
      have hsn : slsR (ptR (pg s) (b * 512)) = lsl (ptR (pg s) (b * 512)) (ntR (ptR (pg s) (b * 512))).toNat := rfl
      refine g_istore (L' := [aR m0, aI (b * 512), aI (30 * (u : Int)), w3, w4, aI 0, w6, aI x7, aI 0, aI (pk (isK (mst s) u (drR (mst s) u (ptR (pg s) (b * 512))) 0 ∧ nmix (ptR (pg s) (b * 512)) (slsR (ptR (pg s) (b * 512)) + 1) (ntR (ptR (pg s) (b * 512))) ∧ ntR (ptR (pg s) (b * 512)) - (slsR (ptR (pg s) (b * 512)) + 1) ≤ 100) (drR (mst s) u (ptR (pg s) (b * 512))) (-1)), none, none, none, none, none, none, none, none, none, none, none]) rfl rfl ?_
      refine g_iload rfl rfl ?_
      refine g_iconst (n := -1) rfl (by decide) ?_
      refine g_icmpeq rfl rfl (fun c5 => ?_) (fun c5 => ?_)
      · skip
        have y5 := c5
        refine g_bipush (n := 7) rfl (by decide) ?_
        have hno : ¬ pokR (mst s) u (pg s) (b * 512) (kndR (pg s) (b * 512)) := fun q => by first | exact y6 q.2.2.2.2.2 | (rw [pk_t ⟨q.2.2.2.2.1, q.2.2.1, q.2.2.2.1⟩] at y5; have := q.2.2.2.2.1.1; omega)
        have hv := ENv_7 hno
        exact r_i rfl rfl hv.symm ⟨s3, hW, EP.no hQ3 h263 (by rw [hv]; decide)⟩
      · skip
        have y5 := c5
        have hc3 : isK (mst s) u (drR (mst s) u (ptR (pg s) (b * 512))) 0 ∧ nmix (ptR (pg s) (b * 512)) (slsR (ptR (pg s) (b * 512)) + 1) (ntR (ptR (pg s) (b * 512))) ∧ ntR (ptR (pg s) (b * 512)) - (slsR (ptR (pg s) (b * 512)) + 1) ≤ 100 := Classical.byContradiction fun q => y5 (pk_f q)
        rw [pk_t hc3]
        refine g_aload_n rfl rfl ?_
        refine g_iload_n rfl rfl ?_
        refine g_iload rfl rfl ?_
        refine g_aload_n rfl rfl ?_
        refine g_get (ci := 8) (kk := 15) rfl rfl hW.ob hW.b0 rfl ?_
        refine g_aload_n rfl rfl ?_
        refine g_get (ci := 8) (kk := 17) rfl rfl hW.ob hW.b0 rfl ?_
        rw [show s3.2 17 = slsR (ptR (pg s) (b * 512)) + 1 from r17]
        refine g_aload_n rfl rfl ?_
        refine g_get (ci := 8) (kk := 18) rfl rfl hW.ob hW.b0 rfl ?_
        rw [show s3.2 18 = ntR (ptR (pg s) (b * 512)) - (slsR (ptR (pg s) (b * 512)) + 1) from r18]
        refine g_V (z := yMd_find) (e := 1) (A := [aI (ntR (ptR (pg s) (b * 512)) - (slsR (ptR (pg s) (b * 512)) + 1)), aI (slsR (ptR (pg s) (b * 512)) + 1), aR (m0 + 13), aI (drR (mst s) u (ptR (pg s) (b * 512))), aI (30 * (u : Int))]) (rest := []) (v := aI (chl (mst s) u (ptR (pg s) (b * 512)) (drR (mst s) u (ptR (pg s) (b * 512))) (slsR (ptR (pg s) (b * 512)) + 1) (ntR (ptR (pg s) (b * 512))))) (P := fun h2 => h2 = hh4) rfl rfl rfl rfl rfl rfl (by omega) hW.ob hW.b0 ((by rw [show chl (mst s) u (ptR (pg s) (b * 512)) (drR (mst s) u (ptR (pg s) (b * 512))) (slsR (ptR (pg s) (b * 512)) + 1) (ntR (ptR (pg s) (b * 512))) = chl (mst s3) u (wy s3) (drR (mst s) u (ptR (pg s) (b * 512))) (slsR (ptR (pg s) (b * 512)) + 1) ((slsR (ptR (pg s) (b * 512)) + 1) + (ntR (ptR (pg s) (b * 512)) - (slsR (ptR (pg s) (b * 512)) + 1))) from by rw [hV3.qchl hT.c.1, hwy3, show slsR (ptR (pg s) (b * 512)) + 1 + (ntR (ptR (pg s) (b * 512)) - (slsR (ptR (pg s) (b * 512)) + 1)) = ntR (ptR (pg s) (b * 512)) by omega]]; exact m_find (by omega) hM3 hu hT3 hW _ _ _ (by omega) (by omega) (by omega) (by omega))) ?_
        intro hh9 he9
        rw [he9]
        clear he9 hh9
        refine g_iconst (n := -1) rfl (by decide) ?_
        refine g_icmpeq rfl rfl (fun c6 => ?_) (fun c6 => ?_)
        · skip
          have y6 := c6
          refine g_aload_n rfl rfl ?_
          refine g_get (ci := 8) (kk := 17) rfl rfl hW.ob hW.b0 rfl ?_
          rw [show s3.2 17 = slsR (ptR (pg s) (b * 512)) + 1 from r17]
          refine g_istore (L' := [aR m0, aI (b * 512), aI (30 * (u : Int)), w3, w4, aI 0, w6, aI x7, aI 0, aI (drR (mst s) u (ptR (pg s) (b * 512))), aI (slsR (ptR (pg s) (b * 512)) + 1), none, none, none, none, none, none, none, none, none, none]) rfl rfl ?_
          refine g_aload_n rfl rfl ?_
          refine g_get (ci := 8) (kk := 18) rfl rfl hW.ob hW.b0 rfl ?_
          rw [show s3.2 18 = ntR (ptR (pg s) (b * 512)) - (slsR (ptR (pg s) (b * 512)) + 1) from r18]
          refine g_istore (L' := [aR m0, aI (b * 512), aI (30 * (u : Int)), w3, w4, aI 0, w6, aI x7, aI 0, aI (drR (mst s) u (ptR (pg s) (b * 512))), aI (slsR (ptR (pg s) (b * 512)) + 1), aI (ntR (ptR (pg s) (b * 512)) - (slsR (ptR (pg s) (b * 512)) + 1)), none, none, none, none, none, none, none, none, none]) rfl rfl ?_
          exact kk _ s3 hW hQ3 h263 hwy3 h163 ⟨hz, by omega, hc3.2.1, hc3.2.2, hc3.1, y6⟩
        · skip
          have y6 := c6
          refine g_bipush (n := 7) rfl (by decide) ?_
          have hno : ¬ pokR (mst s) u (pg s) (b * 512) (kndR (pg s) (b * 512)) := fun q => by first | exact y6 q.2.2.2.2.2 | (rw [pk_t ⟨q.2.2.2.2.1, q.2.2.1, q.2.2.2.1⟩] at y5; have := q.2.2.2.2.1.1; omega)
          have hv := ENv_7 hno
          exact r_i rfl rfl hv.symm ⟨s3, hW, EP.no hQ3 h263 (by rw [hv]; decide)⟩
  · skip
    have y1 := c1
    have h8 := hW.w8 (((ptR (pg s) (b * 512)).length : Int) - 1).toNat
    have hrt : rat (ptR (pg s) (b * 512)) (((ptR (pg s) (b * 512)).length : Int) - 1) = s2.1 13 (((ptR (pg s) (b * 512)).length : Int) - 1).toNat % 256 := by
      rw [← hwy, rat_in (by rw [hwy]; omega) (by rw [hwy]; omega), wy_get s2 (by rw [hwy]; omega), hwy]
    refine g_aload_n rfl rfl ?_
    refine g_get (ci := 8) (kk := 15) rfl rfl hW.ob hW.b0 rfl ?_
    refine g_aload_n rfl rfl ?_
    refine g_get (ci := 8) (kk := 16) rfl rfl hW.ob hW.b0 rfl ?_
    rw [show s2.2 16 = ((ptR (pg s) (b * 512)).length : Int) from h16]
    refine g_iconst (n := 1) rfl (by decide) ?_
    refine g_isub rfl (by omega) ?_
    refine g_bald rfl hW.a13 (by omega) ?_
    refine g_bipush (n := 47) rfl (by decide) ?_
    refine g_icmpne rfl rfl (fun c7 => ?_) (fun c7 => ?_)
    · skip
      have y2 := c7
      refine g_iconst (n := 0) rfl (by decide) ?_
      refine g_istore (L' := [aR m0, aI (b * 512), aI (30 * (u : Int)), w3, w4, aI 0, w6, aI x7, aI 0, none, none, none, none, none, none, none, none, none, none, none, none]) rfl rfl ?_
      refine g_aload_n rfl rfl ?_
      refine g_get (ci := 8) (kk := 16) rfl rfl hW.ob hW.b0 rfl ?_
      rw [show s2.2 16 = ((ptR (pg s) (b * 512)).length : Int) from h16]
      refine g_ifeq rfl rfl (fun c8 => ?_) (fun c8 => ?_)
      · skip
        have y3 := c8
        refine g_bipush (n := 7) rfl (by decide) ?_
        have hno : ¬ pokR (mst s) u (pg s) (b * 512) (kndR (pg s) (b * 512)) := fun q => by
          have z := q.2.2.1.2.1
          first
          | (have e : (ptR (pg s) (b * 512)) = [] := List.eq_nil_of_length_eq_zero (by omega)
             rw [e] at z
             have e1 : ntR ([] : List Int) = 0 := rfl
             have e2 : slsR ([] : List Int) = -1 := rfl
             rw [e1, e2] at z
             omega)
          | (have z2 := q.2.1
             omega)
        have hv := ENv_7 hno
        exact r_i rfl rfl hv.symm ⟨s2, hW, EP.no hQ h26 (by rw [hv]; decide)⟩
      · skip
        have y3 := c8
        refine g_iload rfl rfl ?_
        refine g_iload rfl rfl ?_
        refine g_icmpeq rfl rfl (fun c => ?_) (fun c => absurd c (by decide))
        refine g_aload_n rfl rfl ?_
        refine g_iload_n rfl rfl ?_
        refine g_iload rfl rfl ?_
        have hntd : ntR (ptR (pg s) (b * 512)) = ((ptR (pg s) (b * 512)).length : Int) := by omega
        obtain ⟨e, he⟩ : ∃ e : Nat, ntR (ptR (pg s) (b * 512)) = (e : Int) := ⟨(ntR (ptR (pg s) (b * 512))).toNat, by omega⟩
        have hdk := drR_rk (st := mst s) (u := u) (P := (ptR (pg s) (b * 512))) (by omega)
        have hte : (ntR (ptR (pg s) (b * 512))).toNat = e := by omega
        rw [hte] at hdk
        have hqr := hV.qrk hT.c.1 (ptR (pg s) (b * 512)) e
        have hwv : pk (isK (mst s2) u (rk (mst s2) u (wy s2) e).1 0 ∧ nmix (wy s2) (rk (mst s2) u (wy s2) e).2 (e : Int) ∧ (e : Int) - (rk (mst s2) u (wy s2) e).2 ≤ 100) (rk (mst s2) u (wy s2) e).1 (-1) = pk (isK (mst s) u (drR (mst s) u (ptR (pg s) (b * 512))) 0 ∧ nmix (ptR (pg s) (b * 512)) (slsR (ptR (pg s) (b * 512)) + 1) (ntR (ptR (pg s) (b * 512))) ∧ ntR (ptR (pg s) (b * 512)) - (slsR (ptR (pg s) (b * 512)) + 1) ≤ 100) (drR (mst s) u (ptR (pg s) (b * 512))) (-1) := by
          rw [hwy, hqr, propext (hV.qisK _ _), ← hdk.1, hdk.2, he]
        refine g_V (z := yMd_walk) (e := 1) (A := [aI 0, aI (30 * (u : Int))]) (rest := []) (v := aI (pk (isK (mst s) u (drR (mst s) u (ptR (pg s) (b * 512))) 0 ∧ nmix (ptR (pg s) (b * 512)) (slsR (ptR (pg s) (b * 512)) + 1) (ntR (ptR (pg s) (b * 512))) ∧ ntR (ptR (pg s) (b * 512)) - (slsR (ptR (pg s) (b * 512)) + 1) ≤ 100) (drR (mst s) u (ptR (pg s) (b * 512))) (-1)))  rfl rfl rfl rfl rfl rfl (by omega) hW.ob hW.b0 ((by rw [← hwv]; exact m_walk (by omega) hu hM2 hT2 hW (by omega) 0 (by omega) e (by omega))) ?_
        intro hh10 hq
        obtain ⟨s3, hW, r1, r2, r17, r18⟩ := hq
        rw [hwy, hqr, hdk.2] at r17 r18
        rw [← he] at r18
        have hQ3 : QS s s3 := hQ.tr ⟨fun k _ _ => by rw [r1], fun k hk => r2 k (by omega) (by omega)⟩
        have h263 : s3.2 26 = s.2 26 := (r2 26 (by decide) (by decide)).trans h26
        have hwy3 : wy s3 = (ptR (pg s) (b * 512)) := by
          rw [← hwy]
          unfold wy
          rw [r1, r2 16 (by decide) (by decide)]
        have h163 : s3.2 16 = ((ptR (pg s) (b * 512)).length : Int) := (r2 16 (by decide) (by decide)).trans h16
        have hV3 := hQ3.vq hu hM
        have hM3 := hQ3.mok hM
        have hT3 := hV3.ti hT
        have hsn : slsR (ptR (pg s) (b * 512)) = lsl (ptR (pg s) (b * 512)) (ntR (ptR (pg s) (b * 512))).toNat := rfl
        refine g_istore (L' := [aR m0, aI (b * 512), aI (30 * (u : Int)), w3, w4, aI 0, w6, aI x7, aI 0, aI (pk (isK (mst s) u (drR (mst s) u (ptR (pg s) (b * 512))) 0 ∧ nmix (ptR (pg s) (b * 512)) (slsR (ptR (pg s) (b * 512)) + 1) (ntR (ptR (pg s) (b * 512))) ∧ ntR (ptR (pg s) (b * 512)) - (slsR (ptR (pg s) (b * 512)) + 1) ≤ 100) (drR (mst s) u (ptR (pg s) (b * 512))) (-1)), none, none, none, none, none, none, none, none, none, none, none]) rfl rfl ?_
        refine g_iload rfl rfl ?_
        refine g_iconst (n := -1) rfl (by decide) ?_
        refine g_icmpeq rfl rfl (fun c11 => ?_) (fun c11 => ?_)
        · skip
          have y5 := c11
          refine g_bipush (n := 7) rfl (by decide) ?_
          have hno : ¬ pokR (mst s) u (pg s) (b * 512) (kndR (pg s) (b * 512)) := fun q => by first | exact y6 q.2.2.2.2.2 | (rw [pk_t ⟨q.2.2.2.2.1, q.2.2.1, q.2.2.2.1⟩] at y5; have := q.2.2.2.2.1.1; omega)
          have hv := ENv_7 hno
          exact r_i rfl rfl hv.symm ⟨s3, hW, EP.no hQ3 h263 (by rw [hv]; decide)⟩
        · skip
          have y5 := c11
          have hc3 : isK (mst s) u (drR (mst s) u (ptR (pg s) (b * 512))) 0 ∧ nmix (ptR (pg s) (b * 512)) (slsR (ptR (pg s) (b * 512)) + 1) (ntR (ptR (pg s) (b * 512))) ∧ ntR (ptR (pg s) (b * 512)) - (slsR (ptR (pg s) (b * 512)) + 1) ≤ 100 := Classical.byContradiction fun q => y5 (pk_f q)
          rw [pk_t hc3]
          refine g_aload_n rfl rfl ?_
          refine g_iload_n rfl rfl ?_
          refine g_iload rfl rfl ?_
          refine g_aload_n rfl rfl ?_
          refine g_get (ci := 8) (kk := 15) rfl rfl hW.ob hW.b0 rfl ?_
          refine g_aload_n rfl rfl ?_
          refine g_get (ci := 8) (kk := 17) rfl rfl hW.ob hW.b0 rfl ?_
          rw [show s3.2 17 = slsR (ptR (pg s) (b * 512)) + 1 from r17]
          refine g_aload_n rfl rfl ?_
          refine g_get (ci := 8) (kk := 18) rfl rfl hW.ob hW.b0 rfl ?_
          rw [show s3.2 18 = ntR (ptR (pg s) (b * 512)) - (slsR (ptR (pg s) (b * 512)) + 1) from r18]
          refine g_V (z := yMd_find) (e := 1) (A := [aI (ntR (ptR (pg s) (b * 512)) - (slsR (ptR (pg s) (b * 512)) + 1)), aI (slsR (ptR (pg s) (b * 512)) + 1), aR (m0 + 13), aI (drR (mst s) u (ptR (pg s) (b * 512))), aI (30 * (u : Int))]) (rest := []) (v := aI (chl (mst s) u (ptR (pg s) (b * 512)) (drR (mst s) u (ptR (pg s) (b * 512))) (slsR (ptR (pg s) (b * 512)) + 1) (ntR (ptR (pg s) (b * 512))))) (P := fun h2 => h2 = hh10) rfl rfl rfl rfl rfl rfl (by omega) hW.ob hW.b0 ((by rw [show chl (mst s) u (ptR (pg s) (b * 512)) (drR (mst s) u (ptR (pg s) (b * 512))) (slsR (ptR (pg s) (b * 512)) + 1) (ntR (ptR (pg s) (b * 512))) = chl (mst s3) u (wy s3) (drR (mst s) u (ptR (pg s) (b * 512))) (slsR (ptR (pg s) (b * 512)) + 1) ((slsR (ptR (pg s) (b * 512)) + 1) + (ntR (ptR (pg s) (b * 512)) - (slsR (ptR (pg s) (b * 512)) + 1))) from by rw [hV3.qchl hT.c.1, hwy3, show slsR (ptR (pg s) (b * 512)) + 1 + (ntR (ptR (pg s) (b * 512)) - (slsR (ptR (pg s) (b * 512)) + 1)) = ntR (ptR (pg s) (b * 512)) by omega]]; exact m_find (by omega) hM3 hu hT3 hW _ _ _ (by omega) (by omega) (by omega) (by omega))) ?_
          intro hh9 he9
          rw [he9]
          clear he9 hh9
          refine g_iconst (n := -1) rfl (by decide) ?_
          refine g_icmpeq rfl rfl (fun c12 => ?_) (fun c12 => ?_)
          · skip
            have y6 := c12
            refine g_aload_n rfl rfl ?_
            refine g_get (ci := 8) (kk := 17) rfl rfl hW.ob hW.b0 rfl ?_
            rw [show s3.2 17 = slsR (ptR (pg s) (b * 512)) + 1 from r17]
            refine g_istore (L' := [aR m0, aI (b * 512), aI (30 * (u : Int)), w3, w4, aI 0, w6, aI x7, aI 0, aI (drR (mst s) u (ptR (pg s) (b * 512))), aI (slsR (ptR (pg s) (b * 512)) + 1), none, none, none, none, none, none, none, none, none, none]) rfl rfl ?_
            refine g_aload_n rfl rfl ?_
            refine g_get (ci := 8) (kk := 18) rfl rfl hW.ob hW.b0 rfl ?_
            rw [show s3.2 18 = ntR (ptR (pg s) (b * 512)) - (slsR (ptR (pg s) (b * 512)) + 1) from r18]
            refine g_istore (L' := [aR m0, aI (b * 512), aI (30 * (u : Int)), w3, w4, aI 0, w6, aI x7, aI 0, aI (drR (mst s) u (ptR (pg s) (b * 512))), aI (slsR (ptR (pg s) (b * 512)) + 1), aI (ntR (ptR (pg s) (b * 512)) - (slsR (ptR (pg s) (b * 512)) + 1)), none, none, none, none, none, none, none, none, none]) rfl rfl ?_
            exact kk _ s3 hW hQ3 h263 hwy3 h163 ⟨hz, by omega, hc3.2.1, hc3.2.2, hc3.1, y6⟩
          · skip
            have y6 := c12
            refine g_bipush (n := 7) rfl (by decide) ?_
            have hno : ¬ pokR (mst s) u (pg s) (b * 512) (kndR (pg s) (b * 512)) := fun q => by first | exact y6 q.2.2.2.2.2 | (rw [pk_t ⟨q.2.2.2.2.1, q.2.2.1, q.2.2.2.1⟩] at y5; have := q.2.2.2.2.1.1; omega)
            have hv := ENv_7 hno
            exact r_i rfl rfl hv.symm ⟨s3, hW, EP.no hQ3 h263 (by rw [hv]; decide)⟩
    · skip
      have y2 := c7
      refine g_iconst (n := 1) rfl (by decide) ?_
      refine g_goto rfl rfl ?_
      refine g_istore (L' := [aR m0, aI (b * 512), aI (30 * (u : Int)), w3, w4, aI 0, w6, aI x7, aI 1, none, none, none, none, none, none, none, none, none, none, none, none]) rfl rfl ?_
      refine g_aload_n rfl rfl ?_
      refine g_get (ci := 8) (kk := 16) rfl rfl hW.ob hW.b0 rfl ?_
      rw [show s2.2 16 = ((ptR (pg s) (b * 512)).length : Int) from h16]
      refine g_ifeq rfl rfl (fun c13 => ?_) (fun c13 => ?_)
      · skip
        have y3 := c13
        refine g_bipush (n := 7) rfl (by decide) ?_
        have hno : ¬ pokR (mst s) u (pg s) (b * 512) (kndR (pg s) (b * 512)) := fun q => by
          have z := q.2.2.1.2.1
          first
          | (have e : (ptR (pg s) (b * 512)) = [] := List.eq_nil_of_length_eq_zero (by omega)
             rw [e] at z
             have e1 : ntR ([] : List Int) = 0 := rfl
             have e2 : slsR ([] : List Int) = -1 := rfl
             rw [e1, e2] at z
             omega)
          | (have z2 := q.2.1
             omega)
        have hv := ENv_7 hno
        exact r_i rfl rfl hv.symm ⟨s2, hW, EP.no hQ h26 (by rw [hv]; decide)⟩
      · skip
        have y3 := c13
        refine g_iload rfl rfl ?_
        refine g_iload rfl rfl ?_
        refine g_icmpeq rfl rfl (fun c => absurd c (by decide)) (fun c => ?_)
        refine g_bipush (n := 7) rfl (by decide) ?_
        have hno : ¬ pokR (mst s) u (pg s) (b * 512) (kndR (pg s) (b * 512)) := fun q => by
          have z := q.2.2.1.2.1
          first
          | (have e : (ptR (pg s) (b * 512)) = [] := List.eq_nil_of_length_eq_zero (by omega)
             rw [e] at z
             have e1 : ntR ([] : List Int) = 0 := rfl
             have e2 : slsR ([] : List Int) = -1 := rfl
             rw [e1, e2] at z
             omega)
          | (have z2 := q.2.1
             omega)
        have hv := ENv_7 hno
        exact r_i rfl rfl hv.symm ⟨s2, hW, EP.no hQ h26 (by rw [hv]; decide)⟩
theorem en_125_1 (hd3 : 3 ≤ d) (hu : u < 2) (hT : TI (mst s) u) (hM : MOK s) (hb0 : 0 ≤ b) (hb1 : b * 512 + 512 ≤ s.2 13) {s2 : MS} (hQ : QS s s2) (h26 : s2.2 26 = s.2 26) (hW : WM B m0 h s2) (hwy : wy s2 = (ptR (pg s) (b * 512))) (h16 : s2.2 16 = ((ptR (pg s) (b * 512)).length : Int)) (hz : zrs (pg s) (b * 512 + 345 + tx (pg s) (b * 512 + 345) 155) (b * 512 + 345 + 155) ∧ zrs (pg s) (b * 512 + tx (pg s) (b * 512) 100) (b * 512 + 100)) (hk0 : kndR (pg s) (b * 512) = 0) (w3 w4 w6 : AV) (x7 : Int) (kk : ∀ (h : AH) (s' : MS), WM B m0 h s' → QS s s' → s'.2 26 = s.2 26 → wy s' = (ptR (pg s) (b * 512)) → s'.2 16 = ((ptR (pg s) (b * 512)).length : Int) → pokR (mst s) u (pg s) (b * 512) (kndR (pg s) (b * 512)) → Go d yMd_entry 225 [aR m0, aI (b * 512), aI (30 * (u : Int)), w3, w4, aI 1, w6, aI x7, aI 1, aI (drR (mst s) u (ptR (pg s) (b * 512))), aI (slsR (ptR (pg s) (b * 512)) + 1), aI (ntR (ptR (pg s) (b * 512)) - (slsR (ptR (pg s) (b * 512)) + 1)), none, none, none, none, none, none, none, none, none] [] h (RV (some (aI (ENv (mst s) u (pg s) b))) (fun h2 => ∃ s', WM B m0 h2 s' ∧ EP s s' u b (ENv (mst s) u (pg s) b)))) : Go d yMd_entry 125 [aR m0, aI (b * 512), aI (30 * (u : Int)), w3, w4, aI 1, w6, aI x7, none, none, none, none, none, none, none, none, none, none, none, none, none] [] h (RV (some (aI (ENv (mst s) u (pg s) b))) (fun h2 => ∃ s', WM B m0 h2 s' ∧ EP s s' u b (ENv (mst s) u (pg s) b))) := by
  have hpl := ptR_len (pg s) (b * 512)
  have hV := hQ.vq hu hM
  have hM2 := hQ.mok hM
  have hT2 := hV.ti hT
  have hnt := ntR_c (ptR (pg s) (b * 512))
  have hls := lsl_r (ptR (pg s) (b * 512)) (ntR (ptR (pg s) (b * 512))).toNat
  refine g_aload_n rfl rfl ?_
  refine g_get (ci := 8) (kk := 16) rfl rfl hW.ob hW.b0 rfl ?_
  rw [show s2.2 16 = ((ptR (pg s) (b * 512)).length : Int) from h16]
  refine g_ifle rfl rfl (fun c1 => ?_) (fun c1 => ?_)
  · skip
    have y1 := c1
    refine g_iconst (n := 0) rfl (by decide) ?_
    refine g_istore (L' := [aR m0, aI (b * 512), aI (30 * (u : Int)), w3, w4, aI 1, w6, aI x7, aI 0, none, none, none, none, none, none, none, none, none, none, none, none]) rfl rfl ?_
    refine g_aload_n rfl rfl ?_
    refine g_get (ci := 8) (kk := 16) rfl rfl hW.ob hW.b0 rfl ?_
    rw [show s2.2 16 = ((ptR (pg s) (b * 512)).length : Int) from h16]
    refine g_ifeq rfl rfl (fun c2 => ?_) (fun c2 => ?_)
    · skip
      have y3 := c2
      refine g_bipush (n := 7) rfl (by decide) ?_
      have hno : ¬ pokR (mst s) u (pg s) (b * 512) (kndR (pg s) (b * 512)) := fun q => by
        have z := q.2.2.1.2.1
        first
        | (have e : (ptR (pg s) (b * 512)) = [] := List.eq_nil_of_length_eq_zero (by omega)
           rw [e] at z
           have e1 : ntR ([] : List Int) = 0 := rfl
           have e2 : slsR ([] : List Int) = -1 := rfl
           rw [e1, e2] at z
           omega)
        | (have z2 := q.2.1
           omega)
      have hv := ENv_7 hno
      exact r_i rfl rfl hv.symm ⟨s2, hW, EP.no hQ h26 (by rw [hv]; decide)⟩
    · skip
      have y3 := c2
      refine g_iload rfl rfl ?_
      refine g_iload rfl rfl ?_
      refine g_icmpeq rfl rfl (fun c => absurd c (by decide)) (fun c => ?_)
      refine g_bipush (n := 7) rfl (by decide) ?_
      have hno : ¬ pokR (mst s) u (pg s) (b * 512) (kndR (pg s) (b * 512)) := fun q => by
        have z := q.2.2.1.2.1
        first
        | (have e : (ptR (pg s) (b * 512)) = [] := List.eq_nil_of_length_eq_zero (by omega)
           rw [e] at z
           have e1 : ntR ([] : List Int) = 0 := rfl
           have e2 : slsR ([] : List Int) = -1 := rfl
           rw [e1, e2] at z
           omega)
        | (have z2 := q.2.1
           omega)
      have hv := ENv_7 hno
      exact r_i rfl rfl hv.symm ⟨s2, hW, EP.no hQ h26 (by rw [hv]; decide)⟩
  · skip
    have y1 := c1
    have h8 := hW.w8 (((ptR (pg s) (b * 512)).length : Int) - 1).toNat
    have hrt : rat (ptR (pg s) (b * 512)) (((ptR (pg s) (b * 512)).length : Int) - 1) = s2.1 13 (((ptR (pg s) (b * 512)).length : Int) - 1).toNat % 256 := by
      rw [← hwy, rat_in (by rw [hwy]; omega) (by rw [hwy]; omega), wy_get s2 (by rw [hwy]; omega), hwy]
    refine g_aload_n rfl rfl ?_
    refine g_get (ci := 8) (kk := 15) rfl rfl hW.ob hW.b0 rfl ?_
    refine g_aload_n rfl rfl ?_
    refine g_get (ci := 8) (kk := 16) rfl rfl hW.ob hW.b0 rfl ?_
    rw [show s2.2 16 = ((ptR (pg s) (b * 512)).length : Int) from h16]
    refine g_iconst (n := 1) rfl (by decide) ?_
    refine g_isub rfl (by omega) ?_
    refine g_bald rfl hW.a13 (by omega) ?_
    refine g_bipush (n := 47) rfl (by decide) ?_
    refine g_icmpne rfl rfl (fun c4 => ?_) (fun c4 => ?_)
    · skip
      have y2 := c4
      refine g_iconst (n := 0) rfl (by decide) ?_
      refine g_istore (L' := [aR m0, aI (b * 512), aI (30 * (u : Int)), w3, w4, aI 1, w6, aI x7, aI 0, none, none, none, none, none, none, none, none, none, none, none, none]) rfl rfl ?_
      refine g_aload_n rfl rfl ?_
      refine g_get (ci := 8) (kk := 16) rfl rfl hW.ob hW.b0 rfl ?_
      rw [show s2.2 16 = ((ptR (pg s) (b * 512)).length : Int) from h16]
      refine g_ifeq rfl rfl (fun c5 => ?_) (fun c5 => ?_)
      · skip
        have y3 := c5
        refine g_bipush (n := 7) rfl (by decide) ?_
        have hno : ¬ pokR (mst s) u (pg s) (b * 512) (kndR (pg s) (b * 512)) := fun q => by
          have z := q.2.2.1.2.1
          first
          | (have e : (ptR (pg s) (b * 512)) = [] := List.eq_nil_of_length_eq_zero (by omega)
             rw [e] at z
             have e1 : ntR ([] : List Int) = 0 := rfl
             have e2 : slsR ([] : List Int) = -1 := rfl
             rw [e1, e2] at z
             omega)
          | (have z2 := q.2.1
             omega)
        have hv := ENv_7 hno
        exact r_i rfl rfl hv.symm ⟨s2, hW, EP.no hQ h26 (by rw [hv]; decide)⟩
      · skip
        have y3 := c5
        refine g_iload rfl rfl ?_
        refine g_iload rfl rfl ?_
        refine g_icmpeq rfl rfl (fun c => absurd c (by decide)) (fun c => ?_)
        refine g_bipush (n := 7) rfl (by decide) ?_
        have hno : ¬ pokR (mst s) u (pg s) (b * 512) (kndR (pg s) (b * 512)) := fun q => by
          have z := q.2.2.1.2.1
          first
          | (have e : (ptR (pg s) (b * 512)) = [] := List.eq_nil_of_length_eq_zero (by omega)
             rw [e] at z
             have e1 : ntR ([] : List Int) = 0 := rfl
             have e2 : slsR ([] : List Int) = -1 := rfl
             rw [e1, e2] at z
             omega)
          | (have z2 := q.2.1
             omega)
        have hv := ENv_7 hno
        exact r_i rfl rfl hv.symm ⟨s2, hW, EP.no hQ h26 (by rw [hv]; decide)⟩
    · skip
      have y2 := c4
      refine g_iconst (n := 1) rfl (by decide) ?_
      refine g_goto rfl rfl ?_
      refine g_istore (L' := [aR m0, aI (b * 512), aI (30 * (u : Int)), w3, w4, aI 1, w6, aI x7, aI 1, none, none, none, none, none, none, none, none, none, none, none, none]) rfl rfl ?_
      refine g_aload_n rfl rfl ?_
      refine g_get (ci := 8) (kk := 16) rfl rfl hW.ob hW.b0 rfl ?_
      rw [show s2.2 16 = ((ptR (pg s) (b * 512)).length : Int) from h16]
      refine g_ifeq rfl rfl (fun c7 => ?_) (fun c7 => ?_)
      · skip
        have y3 := c7
        refine g_bipush (n := 7) rfl (by decide) ?_
        have hno : ¬ pokR (mst s) u (pg s) (b * 512) (kndR (pg s) (b * 512)) := fun q => by
          have z := q.2.2.1.2.1
          first
          | (have e : (ptR (pg s) (b * 512)) = [] := List.eq_nil_of_length_eq_zero (by omega)
             rw [e] at z
             have e1 : ntR ([] : List Int) = 0 := rfl
             have e2 : slsR ([] : List Int) = -1 := rfl
             rw [e1, e2] at z
             omega)
          | (have z2 := q.2.1
             omega)
        have hv := ENv_7 hno
        exact r_i rfl rfl hv.symm ⟨s2, hW, EP.no hQ h26 (by rw [hv]; decide)⟩
      · skip
        have y3 := c7
        refine g_iload rfl rfl ?_
        refine g_iload rfl rfl ?_
        refine g_icmpeq rfl rfl (fun c => ?_) (fun c => absurd c (by decide))
        refine g_aload_n rfl rfl ?_
        refine g_iload_n rfl rfl ?_
        refine g_iload rfl rfl ?_
        have hntd : ntR (ptR (pg s) (b * 512)) = ((ptR (pg s) (b * 512)).length : Int) - 1 := by omega
        obtain ⟨e, he⟩ : ∃ e : Nat, ntR (ptR (pg s) (b * 512)) = (e : Int) := ⟨(ntR (ptR (pg s) (b * 512))).toNat, by omega⟩
        have hdk := drR_rk (st := mst s) (u := u) (P := (ptR (pg s) (b * 512))) (by omega)
        have hte : (ntR (ptR (pg s) (b * 512))).toNat = e := by omega
        rw [hte] at hdk
        have hqr := hV.qrk hT.c.1 (ptR (pg s) (b * 512)) e
        have hwv : pk (isK (mst s2) u (rk (mst s2) u (wy s2) e).1 0 ∧ nmix (wy s2) (rk (mst s2) u (wy s2) e).2 (e : Int) ∧ (e : Int) - (rk (mst s2) u (wy s2) e).2 ≤ 100) (rk (mst s2) u (wy s2) e).1 (-1) = pk (isK (mst s) u (drR (mst s) u (ptR (pg s) (b * 512))) 0 ∧ nmix (ptR (pg s) (b * 512)) (slsR (ptR (pg s) (b * 512)) + 1) (ntR (ptR (pg s) (b * 512))) ∧ ntR (ptR (pg s) (b * 512)) - (slsR (ptR (pg s) (b * 512)) + 1) ≤ 100) (drR (mst s) u (ptR (pg s) (b * 512))) (-1) := by
          rw [hwy, hqr, propext (hV.qisK _ _), ← hdk.1, hdk.2, he]
        refine g_V (z := yMd_walk) (e := 1) (A := [aI 1, aI (30 * (u : Int))]) (rest := []) (v := aI (pk (isK (mst s) u (drR (mst s) u (ptR (pg s) (b * 512))) 0 ∧ nmix (ptR (pg s) (b * 512)) (slsR (ptR (pg s) (b * 512)) + 1) (ntR (ptR (pg s) (b * 512))) ∧ ntR (ptR (pg s) (b * 512)) - (slsR (ptR (pg s) (b * 512)) + 1) ≤ 100) (drR (mst s) u (ptR (pg s) (b * 512))) (-1)))  rfl rfl rfl rfl rfl rfl (by omega) hW.ob hW.b0 ((by rw [← hwv]; exact m_walk (by omega) hu hM2 hT2 hW (by omega) 1 (by omega) e (by omega))) ?_
        intro hh9 hq
        obtain ⟨s3, hW, r1, r2, r17, r18⟩ := hq
        rw [hwy, hqr, hdk.2] at r17 r18
        rw [← he] at r18
        have hQ3 : QS s s3 := hQ.tr ⟨fun k _ _ => by rw [r1], fun k hk => r2 k (by omega) (by omega)⟩
        have h263 : s3.2 26 = s.2 26 := (r2 26 (by decide) (by decide)).trans h26
        have hwy3 : wy s3 = (ptR (pg s) (b * 512)) := by
          rw [← hwy]
          unfold wy
          rw [r1, r2 16 (by decide) (by decide)]
        have h163 : s3.2 16 = ((ptR (pg s) (b * 512)).length : Int) := (r2 16 (by decide) (by decide)).trans h16
        have hV3 := hQ3.vq hu hM
        have hM3 := hQ3.mok hM
        have hT3 := hV3.ti hT
        have hsn : slsR (ptR (pg s) (b * 512)) = lsl (ptR (pg s) (b * 512)) (ntR (ptR (pg s) (b * 512))).toNat := rfl
        refine g_istore (L' := [aR m0, aI (b * 512), aI (30 * (u : Int)), w3, w4, aI 1, w6, aI x7, aI 1, aI (pk (isK (mst s) u (drR (mst s) u (ptR (pg s) (b * 512))) 0 ∧ nmix (ptR (pg s) (b * 512)) (slsR (ptR (pg s) (b * 512)) + 1) (ntR (ptR (pg s) (b * 512))) ∧ ntR (ptR (pg s) (b * 512)) - (slsR (ptR (pg s) (b * 512)) + 1) ≤ 100) (drR (mst s) u (ptR (pg s) (b * 512))) (-1)), none, none, none, none, none, none, none, none, none, none, none]) rfl rfl ?_
        refine g_iload rfl rfl ?_
        refine g_iconst (n := -1) rfl (by decide) ?_
        refine g_icmpeq rfl rfl (fun c10 => ?_) (fun c10 => ?_)
        · skip
          have y5 := c10
          refine g_bipush (n := 7) rfl (by decide) ?_
          have hno : ¬ pokR (mst s) u (pg s) (b * 512) (kndR (pg s) (b * 512)) := fun q => by first | exact y6 q.2.2.2.2.2 | (rw [pk_t ⟨q.2.2.2.2.1, q.2.2.1, q.2.2.2.1⟩] at y5; have := q.2.2.2.2.1.1; omega)
          have hv := ENv_7 hno
          exact r_i rfl rfl hv.symm ⟨s3, hW, EP.no hQ3 h263 (by rw [hv]; decide)⟩
        · skip
          have y5 := c10
          have hc3 : isK (mst s) u (drR (mst s) u (ptR (pg s) (b * 512))) 0 ∧ nmix (ptR (pg s) (b * 512)) (slsR (ptR (pg s) (b * 512)) + 1) (ntR (ptR (pg s) (b * 512))) ∧ ntR (ptR (pg s) (b * 512)) - (slsR (ptR (pg s) (b * 512)) + 1) ≤ 100 := Classical.byContradiction fun q => y5 (pk_f q)
          rw [pk_t hc3]
          refine g_aload_n rfl rfl ?_
          refine g_iload_n rfl rfl ?_
          refine g_iload rfl rfl ?_
          refine g_aload_n rfl rfl ?_
          refine g_get (ci := 8) (kk := 15) rfl rfl hW.ob hW.b0 rfl ?_
          refine g_aload_n rfl rfl ?_
          refine g_get (ci := 8) (kk := 17) rfl rfl hW.ob hW.b0 rfl ?_
          rw [show s3.2 17 = slsR (ptR (pg s) (b * 512)) + 1 from r17]
          refine g_aload_n rfl rfl ?_
          refine g_get (ci := 8) (kk := 18) rfl rfl hW.ob hW.b0 rfl ?_
          rw [show s3.2 18 = ntR (ptR (pg s) (b * 512)) - (slsR (ptR (pg s) (b * 512)) + 1) from r18]
          refine g_V (z := yMd_find) (e := 1) (A := [aI (ntR (ptR (pg s) (b * 512)) - (slsR (ptR (pg s) (b * 512)) + 1)), aI (slsR (ptR (pg s) (b * 512)) + 1), aR (m0 + 13), aI (drR (mst s) u (ptR (pg s) (b * 512))), aI (30 * (u : Int))]) (rest := []) (v := aI (chl (mst s) u (ptR (pg s) (b * 512)) (drR (mst s) u (ptR (pg s) (b * 512))) (slsR (ptR (pg s) (b * 512)) + 1) (ntR (ptR (pg s) (b * 512))))) (P := fun h2 => h2 = hh9) rfl rfl rfl rfl rfl rfl (by omega) hW.ob hW.b0 ((by rw [show chl (mst s) u (ptR (pg s) (b * 512)) (drR (mst s) u (ptR (pg s) (b * 512))) (slsR (ptR (pg s) (b * 512)) + 1) (ntR (ptR (pg s) (b * 512))) = chl (mst s3) u (wy s3) (drR (mst s) u (ptR (pg s) (b * 512))) (slsR (ptR (pg s) (b * 512)) + 1) ((slsR (ptR (pg s) (b * 512)) + 1) + (ntR (ptR (pg s) (b * 512)) - (slsR (ptR (pg s) (b * 512)) + 1))) from by rw [hV3.qchl hT.c.1, hwy3, show slsR (ptR (pg s) (b * 512)) + 1 + (ntR (ptR (pg s) (b * 512)) - (slsR (ptR (pg s) (b * 512)) + 1)) = ntR (ptR (pg s) (b * 512)) by omega]]; exact m_find (by omega) hM3 hu hT3 hW _ _ _ (by omega) (by omega) (by omega) (by omega))) ?_
          intro hh9 he9
          rw [he9]
          clear he9 hh9
          refine g_iconst (n := -1) rfl (by decide) ?_
          refine g_icmpeq rfl rfl (fun c11 => ?_) (fun c11 => ?_)
          · skip
            have y6 := c11
            refine g_aload_n rfl rfl ?_
            refine g_get (ci := 8) (kk := 17) rfl rfl hW.ob hW.b0 rfl ?_
            rw [show s3.2 17 = slsR (ptR (pg s) (b * 512)) + 1 from r17]
            refine g_istore (L' := [aR m0, aI (b * 512), aI (30 * (u : Int)), w3, w4, aI 1, w6, aI x7, aI 1, aI (drR (mst s) u (ptR (pg s) (b * 512))), aI (slsR (ptR (pg s) (b * 512)) + 1), none, none, none, none, none, none, none, none, none, none]) rfl rfl ?_
            refine g_aload_n rfl rfl ?_
            refine g_get (ci := 8) (kk := 18) rfl rfl hW.ob hW.b0 rfl ?_
            rw [show s3.2 18 = ntR (ptR (pg s) (b * 512)) - (slsR (ptR (pg s) (b * 512)) + 1) from r18]
            refine g_istore (L' := [aR m0, aI (b * 512), aI (30 * (u : Int)), w3, w4, aI 1, w6, aI x7, aI 1, aI (drR (mst s) u (ptR (pg s) (b * 512))), aI (slsR (ptR (pg s) (b * 512)) + 1), aI (ntR (ptR (pg s) (b * 512)) - (slsR (ptR (pg s) (b * 512)) + 1)), none, none, none, none, none, none, none, none, none]) rfl rfl ?_
            exact kk _ s3 hW hQ3 h263 hwy3 h163 ⟨hz, by omega, hc3.2.1, hc3.2.2, hc3.1, y6⟩
          · skip
            have y6 := c11
            refine g_bipush (n := 7) rfl (by decide) ?_
            have hno : ¬ pokR (mst s) u (pg s) (b * 512) (kndR (pg s) (b * 512)) := fun q => by first | exact y6 q.2.2.2.2.2 | (rw [pk_t ⟨q.2.2.2.2.1, q.2.2.1, q.2.2.2.1⟩] at y5; have := q.2.2.2.2.1.1; omega)
            have hv := ENv_7 hno
            exact r_i rfl rfl hv.symm ⟨s3, hW, EP.no hQ3 h263 (by rw [hv]; decide)⟩
end Md28
