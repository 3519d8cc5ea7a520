/-! The reference: make. -/
section Md21
variable {B h : AH} {m0 d t u K : Nat} {s s' s'' : MS} {c : Int}
/-- the same but for what is only at hand while a call runs -/
def QS (s s' : MS) : Prop := (∀ k, 1 ≤ k → k ≤ 12 → s'.1 k = s.1 k) ∧ ∀ k, k ≤ 14 → s'.2 k = s.2 k
theorem QS.rf (s : MS) : QS s s := ⟨fun _ _ _ => rfl, fun _ _ => rfl⟩
theorem QS.tr (a : QS s s') (b : QS s' s'') : QS s s'' := ⟨fun k h1 h2 => (b.1 k h1 h2).trans (a.1 k h1 h2), fun k hk => (b.2 k hk).trans (a.2 k hk)⟩
theorem QS.mok (a : QS s s') (hM : MOK s) : MOK s' := by
  refine ⟨?_, ?_, by rw [a.2 11 (by omega)]; exact hM.2.2.1, by rw [a.2 13 (by omega)]; exact hM.2.2.2⟩
  · rw [a.1 3 (by omega) (by omega), a.1 7 (by omega) (by omega)]
    exact hM.1
  · rw [a.1 9 (by omega) (by omega)]
    exact hM.2.1
theorem QS.vq (a : QS s s') (ht : t < 2) (hM : MOK s) : VQ (mst s) (mst s') t := mst_vq ht hM fun k k1 k2 => a.1 k k1 (by omega)
theorem QS.page (a : QS s s') : pg s' = pg s := by
  unfold pg
  rw [a.1 12 (by omega) (by omega), a.2 13 (by omega)]
theorem QS.se (a : QS s s') (ht : t < 2) (hM : MOK s) : SE (mst s) (mst s') t := ⟨a.vq ht hM, a.page, by show s'.2 11 / 30 = s.2 11 / 30; rw [a.2 11 (by omega)], a.2 14 (by omega)⟩
theorem QS.ti (a : QS s s') (ht : t < 2) (hM : MOK s) (hT : TI (mst s) t) : TI (mst s') t := (a.vq ht hM).ti hT
theorem QS.mp (a : QS s s') (ht : t < 2) (hb : s.2 11 = 30 * (t : Int)) (hM : MOK s) (hW : WM B m0 h s') (h26 : s'.2 26 = c) : MP B m0 (mst s) t c h := ⟨s', hW, a.mok hM, a.se ht hM, (a.2 11 (by omega)).trans hb, h26⟩
theorem FR.tr (f : FR s s' K) (g : FR s' s'' K) : FR s s'' K := ⟨fun k h1 h2 x hx => (g.1 k h1 h2 x hx).trans (f.1 k h1 h2 x hx), fun x hx => (g.2.1 x hx).trans (f.2.1 x hx), fun x hx => (g.2.2 x hx).trans (f.2.2 x hx)⟩
theorem FR.one {a : Nat} {v : Int} (h8 : a ≤ 8) (q : s'.1 a = va_up (s.1 a) K v) (o : ∀ j, j ≠ a → s'.1 j = s.1 j) : FR s s' K := by
  refine ⟨fun k h1 h2 x hx => ?_, fun x _ => by rw [o 10 (by omega)], fun x _ => by rw [o 11 (by omega)]⟩
  by_cases e : k = a
  · subst e
    rw [q]
    simp [va_up, hx]
  · rw [o k e]
theorem MOK.fr (hM : MOK s) (f : FR s s' K) (h3 : 0 ≤ s'.1 3 K ∧ s'.1 3 K ≤ 100 ∧ 0 ≤ s'.1 7 K ∧ s'.1 7 K ≤ 2000) (h9 : ∀ t, t < 2 → 1 ≤ s'.1 9 t ∧ s'.1 9 t ≤ 30) (h2 : ∀ k, k ≤ 14 → s'.2 k = s.2 k) : MOK s' := by
  refine ⟨fun n hn => ?_, h9, by rw [h2 11 (by omega)]; exact hM.2.2.1, by rw [h2 13 (by omega)]; exact hM.2.2.2⟩
  by_cases e : n = K
  · rw [e]; exact h3
  · rw [f.1 3 (by omega) (by omega) n e, f.1 7 (by omega) (by omega) n e]
    exact hM.1 n hn
theorem wy_sp {w m : Int} (h0 : 0 ≤ s.2 16) (hm : 0 ≤ m) (h13 : s'.1 13 = spW (s.1 13) (s.2 16) w m) (h16 : s'.2 16 = s.2 16 + m) : wy s' = addl (wy s) w m := by
  have hl : (wy s).length = (s.2 16).toNat := wy_len s
  unfold addl
  rw [hl, show (s.2 16).toNat + m.toNat = (s.2 16 + m).toNat by omega]
  unfold wy
  rw [h13, h16]
  refine oF_ext fun j hj => ?_
  unfold spW
  by_cases z : j < (s.2 16).toNat
  · rw [if_neg (by omega), if_pos z, oF_get z]
  · rw [if_pos (by omega), if_neg z, show ((j : Int) - s.2 16).toNat = j - (s.2 16).toNat by omega]
theorem ltw_of {l : List Int} {w n : Int} (h : nmix (addl l w n) 0 ((addl l w n).length : Int)) : ltw w n := by
  intro j hj
  have hl := addl_len l w n
  have q := h.1 (l.length + j) (by omega) (by omega)
  unfold addl at q
  rw [oF_get (by omega), if_neg (by omega), show l.length + j - l.length = j by omega] at q
  unfold ltr at q
  rw [a8_256] at q
  have := lb_r w j
  rw [show lb w j % 256 = lb w j by omega] at q
  exact q
/-- spell, copyIn: of any state -/
theorem m_sp (hd1 : 1 ≤ d) (hW : WM B m0 h s) (w : Int) (hw : r64 w) (m : Int) (hn : 0 ≤ s.2 16) (hm : m ≤ 8) (hm0 : 0 ≤ m) (ham : s.2 16 + m ≤ 3200) : Cal d yMd_spell [aR m0, aL w, aI m] h (RV (some (aI (pz (ltw w m)))) (fun h2 => ∃ s', WM B m0 h2 s' ∧ QS s s' ∧ wy s' = addl (wy s) w m ∧ s'.2 16 = s.2 16 + m ∧ s'.1 13 = spW (s.1 13) (s.2 16) w m)) := by
  have k := m_spell (d := d) hd1 (s := s) (P := s.1 12) (W := s.1 13) (n := s.2 16) (C := s.1 14) (by rw [xF_self]; exact hW) w hw m hn hm hm0 ham
  refine k.mono fun o h2 hh => ⟨hh.1, _, hh.2, ⟨fun k k1 k2 => ?_, fun k hk => ?_⟩, ?_, rfl, rfl⟩
  · by_cases z : k = 12
    · subst z; rfl
    · exact xF_k _ _ _ _ _ (by omega)
  · show va_up s.2 16 _ k = s.2 k
    simp [va_up, show k ≠ 16 by omega]
  · exact wy_sp hn hm0 rfl rfl
theorem wy_cp {f m : Int} {P : Nat → Int} (h0 : 0 ≤ s.2 16) (hf : 0 ≤ f) (hm : 0 ≤ m) (h13 : s'.1 13 = cyW P (s.1 13) (s.2 16) f m) (h16 : s'.2 16 = s.2 16 + m) : wy s' = wy s ++ oF m.toNat (fun j => P (f.toNat + j)) := by
  have hl : (wy s).length = (s.2 16).toNat := wy_len s
  refine li_ext ?_ fun j hj => ?_
  · rw [wy_len, List.length_append, hl, oF_len, h16]
    omega
  · rw [wy_len, h16] at hj
    rw [wy_get s' (by omega), h13]
    unfold cyW
    by_cases z : j < (s.2 16).toNat
    · rw [if_neg (by omega), getD_app, if_pos (by omega), wy_get s (by omega)]
    · rw [if_pos (by omega), getD_app, if_neg (by omega), hl, oF_get (by omega)]
      congr 1
      omega
theorem m_cp (hW : WM B m0 h s) (f m : Int) (hn : 0 ≤ s.2 16) (hf : 0 ≤ f) (hm : 0 ≤ m) (hf2 : f + m ≤ 10240) (ham : s.2 16 + m ≤ 3200) : Cal d yMd_copyIn [aR m0, aI f, aI m] h (RV none (fun h2 => ∃ s', WM B m0 h2 s' ∧ QS s s' ∧ wy s' = wy s ++ oF m.toNat (fun j => s.1 12 (f.toNat + j)) ∧ s'.2 16 = s.2 16 + m ∧ (∀ k, k ≠ 13 → s'.1 k = s.1 k) ∧ ∀ k, k ≠ 16 → s'.2 k = s.2 k)) := by
  have k := m_copyIn (d := d) (s := s) (P := s.1 12) (W := s.1 13) (n := s.2 16) (C := s.1 14) (by rw [xF_self]; exact hW) f m hn hf hm hf2 ham
  refine k.mono fun o h2 hh => ⟨hh.1, _, hh.2, ⟨fun k k1 k2 => ?_, fun k hk => ?_⟩, ?_, rfl, fun k hk => ?_, fun k hk => ?_⟩
  · by_cases z : k = 12
    · subst z; rfl
    · exact xF_k _ _ _ _ _ (by omega)
  · show va_up s.2 16 _ k = s.2 k
    simp [va_up, show k ≠ 16 by omega]
  · exact wy_cp hn hf hm rfl rfl
  · show (if k = 12 then s.1 12 else if k = 13 then _ else if k = 14 then s.1 14 else s.1 k) = s.1 k
    by_cases z : k = 12
    · rw [if_pos z, z]
    · rw [if_neg z, if_neg hk]
      by_cases z2 : k = 14
      · rw [if_pos z2, z2]
      · rw [if_neg z2]
  · show va_up s.2 16 _ k = s.2 k
    simp [va_up, hk]
theorem mst_inj (s : MS) (u : Nat) : ∀ i j, i < 30 → j < 30 → (mst s).2.2.1 u i = (mst s).2.2.1 u j → i = j := fun i j _ _ e => by
  have e2 : 30 * u + i = 30 * u + j := e
  omega
theorem mk_end (hd1 : 1 ≤ d) (ht : t < 2) (hb : s.2 11 = 30 * (t : Int)) (hM : MOK s) {s2 : MS} (hQ_s2 : QS s s2) (hW : WM B m0 h s2) (inn kind w n off : Int) (v7 : Int) (h7 : v7 = pz (mkOK (mst s) t inn kind w n off)) (hw2 : (mkOK (mst s) t inn kind w n off) → wy s2 = addl [] w n ∧ s2.2 16 = n) : Go d yMd_make 151 [aR m0, aI inn, aI kind, aL w, none, aI n, aI off, aI v7, none] [] h (RV (some (aI (pk ((mkC (mst s) t inn kind w n off) = 0) ((((mst s).2.2.2.1 t) : Nat) : Int) 0))) (MP B m0 (pkS ((mkC (mst s) t inn kind w n off) = 0) (mkF (mst s) t inn kind w n off) (mst s)) t (mkC (mst s) t inn kind w n off))) := by
  have hcn := hM.2.1 t ht
  have hC : ((mst s).2.2.2.1 t) = (s.1 9 t).toNat := rfl
  have hM_s2 := hQ_s2.mok hM
  by_cases hok : (mkOK (mst s) t inn kind w n off)
  · rw [h7, pz_t hok]
    obtain ⟨hwy, h16⟩ := hw2 hok
    have hn := hok.2.2.1
    have hcE : (mkC (mst s) t inn kind w n off) = pk (30 ≤ ((mst s).2.2.2.1 t)) 2 0 := pk_t hok
    refine g_aload_n rfl rfl ?_
    refine g_iload rfl rfl ?_
    refine g_ifne rfl rfl (fun c => ?_) (fun c => absurd c (by decide))
    refine g_iconst (n := 0) rfl (by decide) ?_
    refine g_iconst (n := 1) rfl (by decide) ?_
    refine g_V (z := yMd_fails) (e := 1) (A := [aI 1, aI 0]) (rest := []) (v := aI 0)  rfl rfl rfl rfl rfl rfl (by omega) hW.ob hW.b0 (m_g hM_s2 hW 0 1 (by omega)) ?_
    intro hh2 hq
    obtain ⟨s3, hW, r1_s3, r2_s3, r26_s3, hM_s3, rm_s3⟩ := hq
    have hQ_s3 : QS s s3 := hQ_s2.tr ⟨fun k _ _ => by rw [r1_s3], fun k hk => r2_s3 k (by omega)⟩
    refine g_ifne rfl rfl (fun c => absurd c (by decide)) (fun c => ?_)
    refine g_aload_n rfl rfl ?_
    refine g_aload_n rfl rfl ?_
    refine g_V (z := yMd_count) (e := 1) (A := []) (rest := [aR m0]) (v := aI (s.1 9 t)) (P := fun h2 => h2 = hh2) rfl rfl rfl rfl rfl rfl (by omega) hW.ob hW.b0 ((by rw [← show s3.1 9 (s3.2 11 / 30).toNat = s.1 9 t from by rw [hQ_s3.1 9 (by omega) (by omega), hQ_s3.2 11 (by omega), hb, show (30 * (t : Int) / 30).toNat = t by omega]]; exact m_count hM_s3 hW)) ?_
    intro hh9 he9
    rw [he9]
    clear he9 hh9
    refine g_bipush (n := 30) rfl (by decide) ?_
    refine g_icmpne rfl rfl (fun c4 => ?_) (fun c4 => ?_)
    · skip
      have y9 := c4
      refine g_iconst (n := 0) rfl (by decide) ?_
      refine g_iconst (n := 2) rfl (by decide) ?_
      have hc0 : (mkC (mst s) t inn kind w n off) = 0 := by
        rw [hcE]
        exact pk_f (by omega)
      refine g_V (z := yMd_fails) (e := 1) (A := [aI 2, aI 0]) (rest := []) (v := aI 0)  rfl rfl rfl rfl rfl rfl (by omega) hW.ob hW.b0 (m_g hM_s3 hW 0 2 (by omega)) ?_
      intro hh5 hq
      obtain ⟨s4, hW, r1_s4, r2_s4, r26_s4, hM_s4, rm_s4⟩ := hq
      have hQ_s4 : QS s s4 := hQ_s3.tr ⟨fun k _ _ => by rw [r1_s4], fun k hk => r2_s4 k (by omega)⟩
      refine g_ifeq rfl rfl (fun c => ?_) (fun c => absurd c (by decide))
      refine g_aload_n rfl rfl ?_
      refine g_V (z := yMd_count) (e := 1) (A := []) (rest := []) (v := aI (s.1 9 t)) (P := fun h2 => h2 = hh5) rfl rfl rfl rfl rfl rfl (by omega) hW.ob hW.b0 ((by rw [← show s4.1 9 (s4.2 11 / 30).toNat = s.1 9 t from by rw [hQ_s4.1 9 (by omega) (by omega), hQ_s4.2 11 (by omega), hb, show (30 * (t : Int) / 30).toNat = t by omega]]; exact m_count hM_s4 hW)) ?_
      intro hh9 he9
      rw [he9]
      clear he9 hh9
      refine g_istore (L' := [aR m0, aI inn, aI kind, aL w, none, aI n, aI off, aI 1, aI (s.1 9 t)]) rfl rfl ?_
      have e9 : s4.1 9 t = s.1 9 t := by rw [hQ_s4.1 9 (by omega) (by omega)]
      refine g_aload_n rfl rfl ?_
      refine g_aload_n rfl rfl ?_
      refine g_get (ci := 8) (kk := 11) rfl rfl hW.ob hW.b0 rfl ?_
      rw [show s4.2 11 = 30 * (t : Int) from ((hQ_s4.2 11 (by omega)).trans hb)]
      refine g_iload_n rfl rfl ?_
      refine g_iload_n rfl rfl ?_
      refine g_aload_n rfl rfl ?_
      refine g_get (ci := 8) (kk := 15) rfl rfl hW.ob hW.b0 rfl ?_
      refine g_iconst (n := 0) rfl (by decide) ?_
      refine g_iload rfl rfl ?_
      refine g_Vn (z := yMd_add) (e := 1) (A := [aI n, aI 0, aR (m0 + 13), aI kind, aI inn, aI (30 * (t : Int))]) (rest := [])  rfl rfl rfl rfl rfl rfl (by omega) hW.ob hW.b0 (m_add13 ht hW inn kind 0 n (by omega) (by omega) (by omega) (by omega) (by rw [e9]; omega) (by rw [e9]; omega)) ?_
      intro hh7 hq
      obtain ⟨s5, hW, hA⟩ := hq
      rw [e9] at hA
      obtain ⟨a0, a9, a11, a2, b1, b2, b3, b4, b5, b6, b7, b8, b10⟩ := hA
      refine g_aload_n rfl rfl ?_
      refine g_get (ci := 8) (kk := 7) rfl rfl hW.ob hW.b0 rfl ?_
      refine g_aload_n rfl rfl ?_
      refine g_get (ci := 8) (kk := 11) rfl rfl hW.ob hW.b0 rfl ?_
      rw [show s5.2 11 = 30 * (t : Int) from by rw [a2]; exact ((hQ_s4.2 11 (by omega)).trans hb)]
      refine g_iload rfl rfl ?_
      refine g_iadd rfl (by omega) ?_
      refine g_iload_n rfl rfl ?_
      refine g_iconst (n := 3) rfl (by decide) ?_
      refine g_icmpne rfl rfl (fun c8 => ?_) (fun c8 => ?_)
      · skip
        have y8 := c8
        refine g_iconst (n := -1) rfl (by decide) ?_
        refine g_iast rfl hW.a8 hW.bk (by omega) ?_
        generalize hg_hh9 : hput hh7 (m0 + 8) (eA 0 60 (va_up (s5.1 8) ((30 * (t : Int)) + (s.1 9 t)).toNat (-1))) = hh9
        obtain ⟨s6, hW, q8, o8, p8⟩ := hW.st (k := 8) (i := (30 * (t : Int) + s.1 9 t).toNat) (v := (-1)) (by omega) (by omega) (fun z => absurd z (by decide))
        rw [show (eA (mty 8) (mln 8) (va_up (s5.1 8) (30 * (t : Int) + s.1 9 t).toNat (-1)) : AE) = eA 0 60 (va_up (s5.1 8) (30 * (t : Int) + s.1 9 t).toNat (-1)) from rfl, hg_hh9] at hW
        have eK : (30 * (t : Int) + s.1 9 t).toNat = 30 * t + (s.1 9 t).toNat := by omega
        rw [eK] at q8
        have hF : FR s4 s6 (30 * t + (s.1 9 t).toNat) := a0.tr (FR.one (by omega) q8 o8)
        have g9 : s6.1 9 = va_up (s.1 9) t (s.1 9 t + 1) := by rw [o8 9 (by decide), a9, hQ_s4.1 9 (by omega) (by omega)]
        have hM6 : MOK s6 := hM_s4.fr hF (by rw [o8 3 (by decide), o8 7 (by decide), b3, b7]; omega) (fun v hv => by rw [g9]; have hcv := hM.2.1 v hv; simp only [va_up]; split <;> omega) (fun k hk => by rw [p8, a2])
        have hnx := hF.nx hM_s4 ht (by rw [e9]) (by rw [e9]; omega) (by rw [g9, e9]; simp [va_up])
        have hnm : nmM s6 (30 * t + (s.1 9 t).toNat) = addl [] w n := by
          rw [← hwy]
          unfold nmM wy
          rw [o8 3 (by decide), b3, h16]
          refine oF_ext fun j hj => ?_
          rw [o8 10 (by decide), b10 j (by omega), r1_s4, r1_s3]
          rw [show Int.toNat 0 + j = j from Nat.zero_add j]
        have hbd : bdM s6 (30 * t + (s.1 9 t).toNat) = [] := by
          unfold bdM
          rw [o8 7 (by decide), b7]
          rfl
        rw [hnm, hbd, o8 1 (by decide), b1, o8 2 (by decide), b2, q8, o8 4 (by decide), b4, o8 5 (by decide), b5, o8 6 (by decide), b6] at hnx
        have hnx2 := nx_trAl (st := mst s) (u := t) (mst_inj s t) (by show (s.1 9 t).toNat < 30; omega) (addl [] w n) inn kind (-1)
        rw [show va_up (s5.1 8) (30 * t + (s.1 9 t).toNat) (-1) (30 * t + (s.1 9 t).toNat) = (-1) from by simp [va_up]] at hnx
        have hvq := hnx2.vq hnx (hQ_s4.vq ht hM)
        have hmk : mkF (mst s) t inn kind w n off = trAl (mst s) t (addl [] w n) inn kind (-1) := by
          unfold mkF
          rw [if_neg y8]
        have f2 : ∀ k, k ≤ 14 → s6.2 k = s.2 k := fun k hk => by rw [p8, a2]; exact hQ_s4.2 k hk
        have hpg : (trAl (mst s) t (addl [] w n) inn kind (-1)).1 121 = pg s := by
          simp [trAl, bgn, uN, uR, uC, va_up]
          split
          · rename_i e
            exact absurd (show 121 = 2 * (30 * t + (s.1 9 t).toNat) from e) (by omega)
          · split
            · rename_i e
              exact absurd (show 2 * (30 * t + (s.1 9 t).toNat) = 120 from e) (by omega)
            · rfl
        have hSE : SE (mkF (mst s) t inn kind w n off) (mst s6) t := by
          rw [hmk]
          refine ⟨hvq, ?_, ?_, ?_⟩
          · rw [hpg]
            show pg s6 = pg s
            rw [← hQ_s4.page]
            unfold pg
            rw [p8, a2, o8 12 (by decide), a11 12 (by omega)]
          · show s6.2 11 / 30 = s.2 11 / 30
            rw [f2 11 (by omega)]
          · exact f2 14 (by omega)
        refine g_iload rfl rfl ?_
        exact r_i rfl rfl (by rw [pk_t hc0, hC]; omega) (by rw [pkS_t hc0, hc0]; exact mp_of ht ((f2 11 (by omega)).trans hb) hM6 hW (by rw [p8, a2]; exact r26_s4) hSE)
      · skip
        have y8 := c8
        refine g_iload rfl rfl ?_
        refine g_goto rfl rfl ?_
        refine g_iast rfl hW.a8 hW.bk (by omega) ?_
        generalize hg_hh10 : hput hh7 (m0 + 8) (eA 0 60 (va_up (s5.1 8) ((30 * (t : Int)) + (s.1 9 t)).toNat off)) = hh10
        obtain ⟨s6, hW, q8, o8, p8⟩ := hW.st (k := 8) (i := (30 * (t : Int) + s.1 9 t).toNat) (v := off) (by omega) (by omega) (fun z => absurd z (by decide))
        rw [show (eA (mty 8) (mln 8) (va_up (s5.1 8) (30 * (t : Int) + s.1 9 t).toNat off) : AE) = eA 0 60 (va_up (s5.1 8) (30 * (t : Int) + s.1 9 t).toNat off) from rfl, hg_hh10] at hW
        have eK : (30 * (t : Int) + s.1 9 t).toNat = 30 * t + (s.1 9 t).toNat := by omega
        rw [eK] at q8
        have hF : FR s4 s6 (30 * t + (s.1 9 t).toNat) := a0.tr (FR.one (by omega) q8 o8)
        have g9 : s6.1 9 = va_up (s.1 9) t (s.1 9 t + 1) := by rw [o8 9 (by decide), a9, hQ_s4.1 9 (by omega) (by omega)]
        have hM6 : MOK s6 := hM_s4.fr hF (by rw [o8 3 (by decide), o8 7 (by decide), b3, b7]; omega) (fun v hv => by rw [g9]; have hcv := hM.2.1 v hv; simp only [va_up]; split <;> omega) (fun k hk => by rw [p8, a2])
        have hnx := hF.nx hM_s4 ht (by rw [e9]) (by rw [e9]; omega) (by rw [g9, e9]; simp [va_up])
        have hnm : nmM s6 (30 * t + (s.1 9 t).toNat) = addl [] w n := by
          rw [← hwy]
          unfold nmM wy
          rw [o8 3 (by decide), b3, h16]
          refine oF_ext fun j hj => ?_
          rw [o8 10 (by decide), b10 j (by omega), r1_s4, r1_s3]
          rw [show Int.toNat 0 + j = j from Nat.zero_add j]
        have hbd : bdM s6 (30 * t + (s.1 9 t).toNat) = [] := by
          unfold bdM
          rw [o8 7 (by decide), b7]
          rfl
        rw [hnm, hbd, o8 1 (by decide), b1, o8 2 (by decide), b2, q8, o8 4 (by decide), b4, o8 5 (by decide), b5, o8 6 (by decide), b6] at hnx
        have hnx2 := nx_trAl (st := mst s) (u := t) (mst_inj s t) (by show (s.1 9 t).toNat < 30; omega) (addl [] w n) inn kind off
        rw [show va_up (s5.1 8) (30 * t + (s.1 9 t).toNat) off (30 * t + (s.1 9 t).toNat) = off from by simp [va_up]] at hnx
        have hvq := hnx2.vq hnx (hQ_s4.vq ht hM)
        have hmk : mkF (mst s) t inn kind w n off = trAl (mst s) t (addl [] w n) inn kind off := by
          unfold mkF
          rw [if_pos y8]
        have f2 : ∀ k, k ≤ 14 → s6.2 k = s.2 k := fun k hk => by rw [p8, a2]; exact hQ_s4.2 k hk
        have hpg : (trAl (mst s) t (addl [] w n) inn kind off).1 121 = pg s := by
          simp [trAl, bgn, uN, uR, uC, va_up]
          split
          · rename_i e
            exact absurd (show 121 = 2 * (30 * t + (s.1 9 t).toNat) from e) (by omega)
          · split
            · rename_i e
              exact absurd (show 2 * (30 * t + (s.1 9 t).toNat) = 120 from e) (by omega)
            · rfl
        have hSE : SE (mkF (mst s) t inn kind w n off) (mst s6) t := by
          rw [hmk]
          refine ⟨hvq, ?_, ?_, ?_⟩
          · rw [hpg]
            show pg s6 = pg s
            rw [← hQ_s4.page]
            unfold pg
            rw [p8, a2, o8 12 (by decide), a11 12 (by omega)]
          · show s6.2 11 / 30 = s.2 11 / 30
            rw [f2 11 (by omega)]
          · exact f2 14 (by omega)
        refine g_iload rfl rfl ?_
        exact r_i rfl rfl (by rw [pk_t hc0, hC]; omega) (by rw [pkS_t hc0, hc0]; exact mp_of ht ((f2 11 (by omega)).trans hb) hM6 hW (by rw [p8, a2]; exact r26_s4) hSE)
    · skip
      have y9 := c4
      refine g_iconst (n := 1) rfl (by decide) ?_
      refine g_goto rfl rfl ?_
      refine g_iconst (n := 2) rfl (by decide) ?_
      have hc2 : (mkC (mst s) t inn kind w n off) = 2 := by
        rw [hcE]
        exact pk_t (by omega)
      have hc0 : ¬ (mkC (mst s) t inn kind w n off) = 0 := by rw [hc2]; decide
      refine g_V (z := yMd_fails) (e := 1) (A := [aI 2, aI 1]) (rest := []) (v := aI 1)  rfl rfl rfl rfl rfl rfl (by omega) hW.ob hW.b0 (m_g hM_s3 hW 1 2 (by omega)) ?_
      intro hh11 hq
      obtain ⟨s4, hW, r1_s4, r2_s4, r26_s4, hM_s4, rm_s4⟩ := hq
      have hQ_s4 : QS s s4 := hQ_s3.tr ⟨fun k _ _ => by rw [r1_s4], fun k hk => r2_s4 k (by omega)⟩
      refine g_ifeq rfl rfl (fun c => absurd c (by decide)) (fun c => ?_)
      refine g_iconst (n := 0) rfl (by decide) ?_
      exact r_i rfl rfl (pk_f hc0).symm (by rw [pkS_f hc0, hc2]; exact hQ_s4.mp ht hb hM hW r26_s4)
  · rw [h7, pz_f hok]
    have hc1 : (mkC (mst s) t inn kind w n off) = 1 := pk_f hok
    have hc0 : ¬ (mkC (mst s) t inn kind w n off) = 0 := by rw [hc1]; decide
    refine g_aload_n rfl rfl ?_
    refine g_iload rfl rfl ?_
    refine g_ifne rfl rfl (fun c => absurd c (by decide)) (fun c => ?_)
    refine g_iconst (n := 1) rfl (by decide) ?_
    refine g_goto rfl rfl ?_
    refine g_iconst (n := 1) rfl (by decide) ?_
    refine g_V (z := yMd_fails) (e := 1) (A := [aI 1, aI 1]) (rest := []) (v := aI 1)  rfl rfl rfl rfl rfl rfl (by omega) hW.ob hW.b0 (m_g hM_s2 hW 1 1 (by omega)) ?_
    intro hh2 hq
    obtain ⟨s3, hW, r1_s3, r2_s3, r26_s3, hM_s3, rm_s3⟩ := hq
    have hQ_s3 : QS s s3 := hQ_s2.tr ⟨fun k _ _ => by rw [r1_s3], fun k hk => r2_s3 k (by omega)⟩
    refine g_ifne rfl rfl (fun c => ?_) (fun c => absurd c (by decide))
    refine g_iconst (n := 0) rfl (by decide) ?_
    exact r_i rfl rfl (pk_f hc0).symm (by rw [pkS_f hc0, hc1]; exact hQ_s3.mp ht hb hM hW r26_s3)
theorem m_make (hd2 : 2 ≤ d) (ht : t < 2) (hb : s.2 11 = 30 * (t : Int)) (hM : MOK s) (hT : TI (mst s) t) (hW : WM B m0 h s) (inn kind w n off : Int) (hw : r64 w) : Cal d yMd_make [aR m0, aI inn, aI kind, aL w, aI n, aI off] h (RV (some (aI (pk ((mkC (mst s) t inn kind w n off) = 0) ((((mst s).2.2.2.1 t) : Nat) : Int) 0))) (MP B m0 (pkS ((mkC (mst s) t inn kind w n off) = 0) (mkF (mst s) t inn kind w n off) (mst s)) t (mkC (mst s) t inn kind w n off))) := by
  have hcn := hM.2.1 t ht
  have hC : ((mst s).2.2.2.1 t) = (s.1 9 t).toNat := rfl
  show Go _ _ 0 [aR m0, aI inn, aI kind, aL w, none, aI n, aI off, none, none] [] _ _
  refine g_iload_n rfl rfl ?_
  refine g_iconst (n := 0) rfl (by decide) ?_
  refine g_iconst (n := 3) rfl (by decide) ?_
  refine g_S (z := yMd_within) (e := 1) (A := [aI 3, aI 0, aI kind]) (rest := []) (v := aI (pz (0 ≤ kind ∧ kind ≤ 3))) (P := fun h2 => h2 = h) rfl rfl rfl rfl rfl rfl (by omega) (m_within _ _ _) ?_
  intro hh9 he9
  rw [he9]
  clear he9 hh9
  refine g_ifeq rfl rfl (fun c1 => ?_) (fun c1 => ?_)
  · skip
    have y1 := c1
    refine g_iconst (n := 0) rfl (by decide) ?_
    refine g_istore (L' := [aR m0, aI inn, aI kind, aL w, none, aI n, aI off, aI 0, none]) rfl rfl ?_
    refine g_aload_n rfl rfl ?_
    refine g_iconst (n := 0) rfl (by decide) ?_
    refine g_put (ci := 8) (kk := 16) (fs' := [aR (m0 + 1), aR (m0 + 2), aR (m0 + 3), aR (m0 + 4), aR (m0 + 5), aR (m0 + 6), aR (m0 + 7), aR (m0 + 8), aR (m0 + 9), aR (m0 + 10), aR (m0 + 11), aI (s.2 11), aR (m0 + 12), aI (s.2 13), aI (s.2 14), aR (m0 + 13), aI 0, aI (s.2 17), aI (s.2 18), aR (m0 + 14), aR (m0 + 15), aR (m0 + 16), aR (m0 + 17), aR (m0 + 18), aR (m0 + 19), aR (m0 + 20), aI (s.2 26)]) rfl rfl hW.ob hW.b0 (Nat.le_of_ble_eq_true rfl) rfl (by decide) rfl ?_
    generalize hg_hh2 : hput h m0 (eO 8 [aR (m0 + 1), aR (m0 + 2), aR (m0 + 3), aR (m0 + 4), aR (m0 + 5), aR (m0 + 6), aR (m0 + 7), aR (m0 + 8), aR (m0 + 9), aR (m0 + 10), aR (m0 + 11), aI (s.2 11), aR (m0 + 12), aI (s.2 13), aI (s.2 14), aR (m0 + 13), aI 0, aI (s.2 17), aI (s.2 18), aR (m0 + 14), aR (m0 + 15), aR (m0 + 16), aR (m0 + 17), aR (m0 + 18), aR (m0 + 19), aR (m0 + 20), aI (s.2 26)]) = hh2
    obtain ⟨s2, hW, qi16, oi16, pi16⟩ : ∃ s9, WM B m0 hh2 s9 ∧ s9.2 16 = 0 ∧ (∀ j, j ≠ 16 → s9.2 j = s.2 j) ∧ s9.1 = s.1 := ⟨uI s 16 0, by rw [← hg_hh2]; exact hW.setI rfl, by simp [uI, va_up], fun j hj => by simp [uI, va_up, hj], rfl⟩
    have hQ_s2 : QS s s2 := ⟨fun k _ _ => by rw [pi16], fun k hk => oi16 k (by omega)⟩
    refine g_iload rfl rfl ?_
    refine g_ifeq rfl rfl (fun c => ?_) (fun c => absurd c (by decide))
    refine g_iconst (n := 0) rfl (by decide) ?_
    refine g_istore (L' := [aR m0, aI inn, aI kind, aL w, none, aI n, aI off, aI 0, none]) rfl rfl ?_
    refine g_iload rfl rfl ?_
    refine g_ifeq rfl rfl (fun c => ?_) (fun c => absurd c (by decide))
    refine g_iconst (n := 0) rfl (by decide) ?_
    refine g_istore (L' := [aR m0, aI inn, aI kind, aL w, none, aI n, aI off, aI 0, none]) rfl rfl ?_
    exact mk_end (by omega) ht hb hM hQ_s2 hW inn kind w n off 0 (pz_f (fun q => by first | exact y10 (q.2.2.2.2 y8).2.2 | exact pz_eq y9 ⟨(q.2.2.2.2 y8).1, (q.2.2.2.2 y8).2.1⟩ | exact y7 q.2.2.2.1.2 | exact pz_eq y6 q.2.2.2.1.1 | exact pz_eq y5 (ltw_of q.2.2.2.1.1) | exact pz_eq y4 q.2.2.1 | exact y3 q.2.1.2.2 | exact pz_eq y2 ⟨q.2.1.1, q.2.1.2.1⟩ | exact pz_eq y1 q.1)).symm (fun q => absurd q (fun q => by first | exact y10 (q.2.2.2.2 y8).2.2 | exact pz_eq y9 ⟨(q.2.2.2.2 y8).1, (q.2.2.2.2 y8).2.1⟩ | exact y7 q.2.2.2.1.2 | exact pz_eq y6 q.2.2.2.1.1 | exact pz_eq y5 (ltw_of q.2.2.2.1.1) | exact pz_eq y4 q.2.2.1 | exact y3 q.2.1.2.2 | exact pz_eq y2 ⟨q.2.1.1, q.2.1.2.1⟩ | exact pz_eq y1 q.1))
  · skip
    have y1 := c1
    refine g_aload_n rfl rfl ?_
    refine g_iload_n rfl rfl ?_
    refine g_V (z := yMd_isNode) (e := 1) (A := [aI inn]) (rest := []) (v := aI (pz (hs (mst s) t inn))) (P := fun h2 => h2 = h) rfl rfl rfl rfl rfl rfl (by omega) hW.ob hW.b0 (m_isNode2 (by omega) ht hb hM hW _) ?_
    intro hh9 he9
    rw [he9]
    clear he9 hh9
    refine g_ifeq rfl rfl (fun c5 => ?_) (fun c5 => ?_)
    · skip
      have y2 := c5
      refine g_iconst (n := 0) rfl (by decide) ?_
      refine g_istore (L' := [aR m0, aI inn, aI kind, aL w, none, aI n, aI off, aI 0, none]) rfl rfl ?_
      refine g_aload_n rfl rfl ?_
      refine g_iconst (n := 0) rfl (by decide) ?_
      refine g_put (ci := 8) (kk := 16) (fs' := [aR (m0 + 1), aR (m0 + 2), aR (m0 + 3), aR (m0 + 4), aR (m0 + 5), aR (m0 + 6), aR (m0 + 7), aR (m0 + 8), aR (m0 + 9), aR (m0 + 10), aR (m0 + 11), aI (s.2 11), aR (m0 + 12), aI (s.2 13), aI (s.2 14), aR (m0 + 13), aI 0, aI (s.2 17), aI (s.2 18), aR (m0 + 14), aR (m0 + 15), aR (m0 + 16), aR (m0 + 17), aR (m0 + 18), aR (m0 + 19), aR (m0 + 20), aI (s.2 26)]) rfl rfl hW.ob hW.b0 (Nat.le_of_ble_eq_true rfl) rfl (by decide) rfl ?_
      generalize hg_hh6 : hput h m0 (eO 8 [aR (m0 + 1), aR (m0 + 2), aR (m0 + 3), aR (m0 + 4), aR (m0 + 5), aR (m0 + 6), aR (m0 + 7), aR (m0 + 8), aR (m0 + 9), aR (m0 + 10), aR (m0 + 11), aI (s.2 11), aR (m0 + 12), aI (s.2 13), aI (s.2 14), aR (m0 + 13), aI 0, aI (s.2 17), aI (s.2 18), aR (m0 + 14), aR (m0 + 15), aR (m0 + 16), aR (m0 + 17), aR (m0 + 18), aR (m0 + 19), aR (m0 + 20), aI (s.2 26)]) = hh6
      obtain ⟨s2, hW, qi16, oi16, pi16⟩ : ∃ s9, WM B m0 hh6 s9 ∧ s9.2 16 = 0 ∧ (∀ j, j ≠ 16 → s9.2 j = s.2 j) ∧ s9.1 = s.1 := ⟨uI s 16 0, by rw [← hg_hh6]; exact hW.setI rfl, by simp [uI, va_up], fun j hj => by simp [uI, va_up, hj], rfl⟩
      have hQ_s2 : QS s s2 := ⟨fun k _ _ => by rw [pi16], fun k hk => oi16 k (by omega)⟩
      refine g_iload rfl rfl ?_
      refine g_ifeq rfl rfl (fun c => ?_) (fun c => absurd c (by decide))
      refine g_iconst (n := 0) rfl (by decide) ?_
      refine g_istore (L' := [aR m0, aI inn, aI kind, aL w, none, aI n, aI off, aI 0, none]) rfl rfl ?_
      refine g_iload rfl rfl ?_
      refine g_ifeq rfl rfl (fun c => ?_) (fun c => absurd c (by decide))
      refine g_iconst (n := 0) rfl (by decide) ?_
      refine g_istore (L' := [aR m0, aI inn, aI kind, aL w, none, aI n, aI off, aI 0, none]) rfl rfl ?_
      exact mk_end (by omega) ht hb hM hQ_s2 hW inn kind w n off 0 (pz_f (fun q => by first | exact y10 (q.2.2.2.2 y8).2.2 | exact pz_eq y9 ⟨(q.2.2.2.2 y8).1, (q.2.2.2.2 y8).2.1⟩ | exact y7 q.2.2.2.1.2 | exact pz_eq y6 q.2.2.2.1.1 | exact pz_eq y5 (ltw_of q.2.2.2.1.1) | exact pz_eq y4 q.2.2.1 | exact y3 q.2.1.2.2 | exact pz_eq y2 ⟨q.2.1.1, q.2.1.2.1⟩ | exact pz_eq y1 q.1)).symm (fun q => absurd q (fun q => by first | exact y10 (q.2.2.2.2 y8).2.2 | exact pz_eq y9 ⟨(q.2.2.2.2 y8).1, (q.2.2.2.2 y8).2.1⟩ | exact y7 q.2.2.2.1.2 | exact pz_eq y6 q.2.2.2.1.1 | exact pz_eq y5 (ltw_of q.2.2.2.1.1) | exact pz_eq y4 q.2.2.1 | exact y3 q.2.1.2.2 | exact pz_eq y2 ⟨q.2.1.1, q.2.1.2.1⟩ | exact pz_eq y1 q.1))
    · skip
      have y2 := c5
      have z2 := pz_ne y2
      have z2a := z2.1
      have z2b := z2.2
      refine g_aload_n rfl rfl ?_
      refine g_get (ci := 8) (kk := 0) rfl rfl hW.ob hW.b0 rfl ?_
      refine g_aload_n rfl rfl ?_
      refine g_get (ci := 8) (kk := 11) rfl rfl hW.ob hW.b0 rfl ?_
      rw [show s.2 11 = 30 * (t : Int) from hb]
      refine g_iload_n rfl rfl ?_
      refine g_iadd rfl (by omega) ?_
      refine g_iald rfl hW.a1 (by omega) ?_
      rw [show (s.1 1) ((30 * (t : Int)) + inn).toNat = s.1 1 (30 * t + inn.toNat) from by rw [show (30 * (t : Int) + inn).toNat = 30 * t + inn.toNat by omega]]
      refine g_ifne rfl rfl (fun c9 => ?_) (fun c9 => ?_)
      · skip
        have y3 := c9
        refine g_iconst (n := 0) rfl (by decide) ?_
        refine g_istore (L' := [aR m0, aI inn, aI kind, aL w, none, aI n, aI off, aI 0, none]) rfl rfl ?_
        refine g_aload_n rfl rfl ?_
        refine g_iconst (n := 0) rfl (by decide) ?_
        refine g_put (ci := 8) (kk := 16) (fs' := [aR (m0 + 1), aR (m0 + 2), aR (m0 + 3), aR (m0 + 4), aR (m0 + 5), aR (m0 + 6), aR (m0 + 7), aR (m0 + 8), aR (m0 + 9), aR (m0 + 10), aR (m0 + 11), aI (s.2 11), aR (m0 + 12), aI (s.2 13), aI (s.2 14), aR (m0 + 13), aI 0, aI (s.2 17), aI (s.2 18), aR (m0 + 14), aR (m0 + 15), aR (m0 + 16), aR (m0 + 17), aR (m0 + 18), aR (m0 + 19), aR (m0 + 20), aI (s.2 26)]) rfl rfl hW.ob hW.b0 (Nat.le_of_ble_eq_true rfl) rfl (by decide) rfl ?_
        generalize hg_hh10 : hput h m0 (eO 8 [aR (m0 + 1), aR (m0 + 2), aR (m0 + 3), aR (m0 + 4), aR (m0 + 5), aR (m0 + 6), aR (m0 + 7), aR (m0 + 8), aR (m0 + 9), aR (m0 + 10), aR (m0 + 11), aI (s.2 11), aR (m0 + 12), aI (s.2 13), aI (s.2 14), aR (m0 + 13), aI 0, aI (s.2 17), aI (s.2 18), aR (m0 + 14), aR (m0 + 15), aR (m0 + 16), aR (m0 + 17), aR (m0 + 18), aR (m0 + 19), aR (m0 + 20), aI (s.2 26)]) = hh10
        obtain ⟨s2, hW, qi16, oi16, pi16⟩ : ∃ s9, WM B m0 hh10 s9 ∧ s9.2 16 = 0 ∧ (∀ j, j ≠ 16 → s9.2 j = s.2 j) ∧ s9.1 = s.1 := ⟨uI s 16 0, by rw [← hg_hh10]; exact hW.setI rfl, by simp [uI, va_up], fun j hj => by simp [uI, va_up, hj], rfl⟩
        have hQ_s2 : QS s s2 := ⟨fun k _ _ => by rw [pi16], fun k hk => oi16 k (by omega)⟩
        refine g_iload rfl rfl ?_
        refine g_ifeq rfl rfl (fun c => ?_) (fun c => absurd c (by decide))
        refine g_iconst (n := 0) rfl (by decide) ?_
        refine g_istore (L' := [aR m0, aI inn, aI kind, aL w, none, aI n, aI off, aI 0, none]) rfl rfl ?_
        refine g_iload rfl rfl ?_
        refine g_ifeq rfl rfl (fun c => ?_) (fun c => absurd c (by decide))
        refine g_iconst (n := 0) rfl (by decide) ?_
        refine g_istore (L' := [aR m0, aI inn, aI kind, aL w, none, aI n, aI off, aI 0, none]) rfl rfl ?_
        exact mk_end (by omega) ht hb hM hQ_s2 hW inn kind w n off 0 (pz_f (fun q => by first | exact y10 (q.2.2.2.2 y8).2.2 | exact pz_eq y9 ⟨(q.2.2.2.2 y8).1, (q.2.2.2.2 y8).2.1⟩ | exact y7 q.2.2.2.1.2 | exact pz_eq y6 q.2.2.2.1.1 | exact pz_eq y5 (ltw_of q.2.2.2.1.1) | exact pz_eq y4 q.2.2.1 | exact y3 q.2.1.2.2 | exact pz_eq y2 ⟨q.2.1.1, q.2.1.2.1⟩ | exact pz_eq y1 q.1)).symm (fun q => absurd q (fun q => by first | exact y10 (q.2.2.2.2 y8).2.2 | exact pz_eq y9 ⟨(q.2.2.2.2 y8).1, (q.2.2.2.2 y8).2.1⟩ | exact y7 q.2.2.2.1.2 | exact pz_eq y6 q.2.2.2.1.1 | exact pz_eq y5 (ltw_of q.2.2.2.1.1) | exact pz_eq y4 q.2.2.1 | exact y3 q.2.1.2.2 | exact pz_eq y2 ⟨q.2.1.1, q.2.1.2.1⟩ | exact pz_eq y1 q.1))
      · skip
        have y3 := c9
        refine g_iload rfl rfl ?_
        refine g_iconst (n := 1) rfl (by decide) ?_
        refine g_bipush (n := 8) rfl (by decide) ?_
        refine g_S (z := yMd_within) (e := 1) (A := [aI 8, aI 1, aI n]) (rest := []) (v := aI (pz (1 ≤ n ∧ n ≤ 8))) (P := fun h2 => h2 = h) rfl rfl rfl rfl rfl rfl (by omega) (m_within _ _ _) ?_
        intro hh9 he9
        rw [he9]
        clear he9 hh9
        refine g_ifeq rfl rfl (fun c13 => ?_) (fun c13 => ?_)
        · skip
          have y4 := c13
          refine g_iconst (n := 0) rfl (by decide) ?_
          refine g_istore (L' := [aR m0, aI inn, aI kind, aL w, none, aI n, aI off, aI 0, none]) rfl rfl ?_
          refine g_aload_n rfl rfl ?_
          refine g_iconst (n := 0) rfl (by decide) ?_
          refine g_put (ci := 8) (kk := 16) (fs' := [aR (m0 + 1), aR (m0 + 2), aR (m0 + 3), aR (m0 + 4), aR (m0 + 5), aR (m0 + 6), aR (m0 + 7), aR (m0 + 8), aR (m0 + 9), aR (m0 + 10), aR (m0 + 11), aI (s.2 11), aR (m0 + 12), aI (s.2 13), aI (s.2 14), aR (m0 + 13), aI 0, aI (s.2 17), aI (s.2 18), aR (m0 + 14), aR (m0 + 15), aR (m0 + 16), aR (m0 + 17), aR (m0 + 18), aR (m0 + 19), aR (m0 + 20), aI (s.2 26)]) rfl rfl hW.ob hW.b0 (Nat.le_of_ble_eq_true rfl) rfl (by decide) rfl ?_
          generalize hg_hh14 : hput h m0 (eO 8 [aR (m0 + 1), aR (m0 + 2), aR (m0 + 3), aR (m0 + 4), aR (m0 + 5), aR (m0 + 6), aR (m0 + 7), aR (m0 + 8), aR (m0 + 9), aR (m0 + 10), aR (m0 + 11), aI (s.2 11), aR (m0 + 12), aI (s.2 13), aI (s.2 14), aR (m0 + 13), aI 0, aI (s.2 17), aI (s.2 18), aR (m0 + 14), aR (m0 + 15), aR (m0 + 16), aR (m0 + 17), aR (m0 + 18), aR (m0 + 19), aR (m0 + 20), aI (s.2 26)]) = hh14
          obtain ⟨s2, hW, qi16, oi16, pi16⟩ : ∃ s9, WM B m0 hh14 s9 ∧ s9.2 16 = 0 ∧ (∀ j, j ≠ 16 → s9.2 j = s.2 j) ∧ s9.1 = s.1 := ⟨uI s 16 0, by rw [← hg_hh14]; exact hW.setI rfl, by simp [uI, va_up], fun j hj => by simp [uI, va_up, hj], rfl⟩
          have hQ_s2 : QS s s2 := ⟨fun k _ _ => by rw [pi16], fun k hk => oi16 k (by omega)⟩
          refine g_iload rfl rfl ?_
          refine g_ifeq rfl rfl (fun c => ?_) (fun c => absurd c (by decide))
          refine g_iconst (n := 0) rfl (by decide) ?_
          refine g_istore (L' := [aR m0, aI inn, aI kind, aL w, none, aI n, aI off, aI 0, none]) rfl rfl ?_
          refine g_iload rfl rfl ?_
          refine g_ifeq rfl rfl (fun c => ?_) (fun c => absurd c (by decide))
          refine g_iconst (n := 0) rfl (by decide) ?_
          refine g_istore (L' := [aR m0, aI inn, aI kind, aL w, none, aI n, aI off, aI 0, none]) rfl rfl ?_
          exact mk_end (by omega) ht hb hM hQ_s2 hW inn kind w n off 0 (pz_f (fun q => by first | exact y10 (q.2.2.2.2 y8).2.2 | exact pz_eq y9 ⟨(q.2.2.2.2 y8).1, (q.2.2.2.2 y8).2.1⟩ | exact y7 q.2.2.2.1.2 | exact pz_eq y6 q.2.2.2.1.1 | exact pz_eq y5 (ltw_of q.2.2.2.1.1) | exact pz_eq y4 q.2.2.1 | exact y3 q.2.1.2.2 | exact pz_eq y2 ⟨q.2.1.1, q.2.1.2.1⟩ | exact pz_eq y1 q.1)).symm (fun q => absurd q (fun q => by first | exact y10 (q.2.2.2.2 y8).2.2 | exact pz_eq y9 ⟨(q.2.2.2.2 y8).1, (q.2.2.2.2 y8).2.1⟩ | exact y7 q.2.2.2.1.2 | exact pz_eq y6 q.2.2.2.1.1 | exact pz_eq y5 (ltw_of q.2.2.2.1.1) | exact pz_eq y4 q.2.2.1 | exact y3 q.2.1.2.2 | exact pz_eq y2 ⟨q.2.1.1, q.2.1.2.1⟩ | exact pz_eq y1 q.1))
        · skip
          have y4 := c13
          have z4 := pz_ne y4
          have z4a := z4.1
          have z4b := z4.2
          refine g_iconst (n := 1) rfl (by decide) ?_
          refine g_goto rfl rfl ?_
          refine g_istore (L' := [aR m0, aI inn, aI kind, aL w, none, aI n, aI off, aI 1, none]) rfl rfl ?_
          refine g_aload_n rfl rfl ?_
          refine g_iconst (n := 0) rfl (by decide) ?_
          refine g_put (ci := 8) (kk := 16) (fs' := [aR (m0 + 1), aR (m0 + 2), aR (m0 + 3), aR (m0 + 4), aR (m0 + 5), aR (m0 + 6), aR (m0 + 7), aR (m0 + 8), aR (m0 + 9), aR (m0 + 10), aR (m0 + 11), aI (s.2 11), aR (m0 + 12), aI (s.2 13), aI (s.2 14), aR (m0 + 13), aI 0, aI (s.2 17), aI (s.2 18), aR (m0 + 14), aR (m0 + 15), aR (m0 + 16), aR (m0 + 17), aR (m0 + 18), aR (m0 + 19), aR (m0 + 20), aI (s.2 26)]) rfl rfl hW.ob hW.b0 (Nat.le_of_ble_eq_true rfl) rfl (by decide) rfl ?_
          generalize hg_hh17 : hput h m0 (eO 8 [aR (m0 + 1), aR (m0 + 2), aR (m0 + 3), aR (m0 + 4), aR (m0 + 5), aR (m0 + 6), aR (m0 + 7), aR (m0 + 8), aR (m0 + 9), aR (m0 + 10), aR (m0 + 11), aI (s.2 11), aR (m0 + 12), aI (s.2 13), aI (s.2 14), aR (m0 + 13), aI 0, aI (s.2 17), aI (s.2 18), aR (m0 + 14), aR (m0 + 15), aR (m0 + 16), aR (m0 + 17), aR (m0 + 18), aR (m0 + 19), aR (m0 + 20), aI (s.2 26)]) = hh17
          obtain ⟨s2, hW, qi16, oi16, pi16⟩ : ∃ s9, WM B m0 hh17 s9 ∧ s9.2 16 = 0 ∧ (∀ j, j ≠ 16 → s9.2 j = s.2 j) ∧ s9.1 = s.1 := ⟨uI s 16 0, by rw [← hg_hh17]; exact hW.setI rfl, by simp [uI, va_up], fun j hj => by simp [uI, va_up, hj], rfl⟩
          have hQ_s2 : QS s s2 := ⟨fun k _ _ => by rw [pi16], fun k hk => oi16 k (by omega)⟩
          refine g_iload rfl rfl ?_
          refine g_ifeq rfl rfl (fun c => absurd c (by decide)) (fun c => ?_)
          refine g_aload_n rfl rfl ?_
          refine g_lload_n rfl rfl ?_
          refine g_iload rfl rfl ?_
          refine g_V (z := yMd_spell) (e := 1) (A := [aI n, aL w]) (rest := []) (v := aI (pz (ltw w n)))  rfl rfl rfl rfl rfl rfl (by omega) hW.ob hW.b0 (m_sp (by omega) hW w hw n (by omega) z4.2 (by omega) (by omega)) ?_
          intro hh19 hq
          obtain ⟨s3, hW, hQ3, hwy, h16, h13⟩ := hq
          have hQ_s3 : QS s s3 := hQ_s2.tr hQ3
          have hM3 := hQ_s3.mok hM
          have hT3 := hQ_s3.ti ht hM hT
          have hV3 := hQ_s3.vq ht hM
          rw [qi16] at h16
          have hwy0 : wy s2 = [] := by
            unfold wy
            rw [qi16]
            rfl
          rw [hwy0] at hwy
          have h16 : s3.2 16 = n := by omega
          have hal : ((addl [] w n).length : Int) = n := by rw [addl_len]; simp; omega
          have hfd : chl (mst s3) t (wy s3) inn 0 (0 + n) = chl (mst s) t (addl [] w n) inn 0 ((addl [] w n).length : Int) := by rw [hV3.qchl hT.c.1, hwy, hal, Int.zero_add]
          have hnm : nmW s3 0 n = nmix (addl [] w n) 0 ((addl [] w n).length : Int) := by
            unfold nmW
            rw [hwy, hal, Int.zero_add]
            exact propext ⟨fun q => q.1, fun q => ⟨q, by omega⟩⟩
          refine g_ifeq rfl rfl (fun c20 => ?_) (fun c20 => ?_)
          · skip
            have y5 := c20
            refine g_iconst (n := 0) rfl (by decide) ?_
            refine g_istore (L' := [aR m0, aI inn, aI kind, aL w, none, aI n, aI off, aI 0, none]) rfl rfl ?_
            refine g_iload rfl rfl ?_
            refine g_ifeq rfl rfl (fun c => ?_) (fun c => absurd c (by decide))
            refine g_iconst (n := 0) rfl (by decide) ?_
            refine g_istore (L' := [aR m0, aI inn, aI kind, aL w, none, aI n, aI off, aI 0, none]) rfl rfl ?_
            exact mk_end (by omega) ht hb hM hQ_s3 hW inn kind w n off 0 (pz_f (fun q => by first | exact y10 (q.2.2.2.2 y8).2.2 | exact pz_eq y9 ⟨(q.2.2.2.2 y8).1, (q.2.2.2.2 y8).2.1⟩ | exact y7 q.2.2.2.1.2 | exact pz_eq y6 q.2.2.2.1.1 | exact pz_eq y5 (ltw_of q.2.2.2.1.1) | exact pz_eq y4 q.2.2.1 | exact y3 q.2.1.2.2 | exact pz_eq y2 ⟨q.2.1.1, q.2.1.2.1⟩ | exact pz_eq y1 q.1)).symm (fun q => absurd q (fun q => by first | exact y10 (q.2.2.2.2 y8).2.2 | exact pz_eq y9 ⟨(q.2.2.2.2 y8).1, (q.2.2.2.2 y8).2.1⟩ | exact y7 q.2.2.2.1.2 | exact pz_eq y6 q.2.2.2.1.1 | exact pz_eq y5 (ltw_of q.2.2.2.1.1) | exact pz_eq y4 q.2.2.1 | exact y3 q.2.1.2.2 | exact pz_eq y2 ⟨q.2.1.1, q.2.1.2.1⟩ | exact pz_eq y1 q.1))
          · skip
            have y5 := c20
            refine g_aload_n rfl rfl ?_
            refine g_get (ci := 8) (kk := 15) rfl rfl hW.ob hW.b0 rfl ?_
            refine g_iconst (n := 0) rfl (by decide) ?_
            refine g_iload rfl rfl ?_
            refine g_S (z := yMd_isName) (e := 1) (A := [aI n, aI 0, aR (m0 + 13)]) (rest := []) (v := aI (pz (nmix (addl [] w n) 0 ((addl [] w n).length : Int)))) (P := fun h2 => h2 = hh19) rfl rfl rfl rfl rfl rfl (by omega) ((by rw [← hnm]; exact m_isName (by omega) hW 0 n (by omega) (by omega) (by omega) (by omega))) ?_
            intro hh9 he9
            rw [he9]
            clear he9 hh9
            refine g_ifeq rfl rfl (fun c22 => ?_) (fun c22 => ?_)
            · skip
              have y6 := c22
              refine g_iconst (n := 0) rfl (by decide) ?_
              refine g_istore (L' := [aR m0, aI inn, aI kind, aL w, none, aI n, aI off, aI 0, none]) rfl rfl ?_
              refine g_iload rfl rfl ?_
              refine g_ifeq rfl rfl (fun c => ?_) (fun c => absurd c (by decide))
              refine g_iconst (n := 0) rfl (by decide) ?_
              refine g_istore (L' := [aR m0, aI inn, aI kind, aL w, none, aI n, aI off, aI 0, none]) rfl rfl ?_
              exact mk_end (by omega) ht hb hM hQ_s3 hW inn kind w n off 0 (pz_f (fun q => by first | exact y10 (q.2.2.2.2 y8).2.2 | exact pz_eq y9 ⟨(q.2.2.2.2 y8).1, (q.2.2.2.2 y8).2.1⟩ | exact y7 q.2.2.2.1.2 | exact pz_eq y6 q.2.2.2.1.1 | exact pz_eq y5 (ltw_of q.2.2.2.1.1) | exact pz_eq y4 q.2.2.1 | exact y3 q.2.1.2.2 | exact pz_eq y2 ⟨q.2.1.1, q.2.1.2.1⟩ | exact pz_eq y1 q.1)).symm (fun q => absurd q (fun q => by first | exact y10 (q.2.2.2.2 y8).2.2 | exact pz_eq y9 ⟨(q.2.2.2.2 y8).1, (q.2.2.2.2 y8).2.1⟩ | exact y7 q.2.2.2.1.2 | exact pz_eq y6 q.2.2.2.1.1 | exact pz_eq y5 (ltw_of q.2.2.2.1.1) | exact pz_eq y4 q.2.2.1 | exact y3 q.2.1.2.2 | exact pz_eq y2 ⟨q.2.1.1, q.2.1.2.1⟩ | exact pz_eq y1 q.1))
            · skip
              have y6 := c22
              refine g_aload_n rfl rfl ?_
              refine g_aload_n rfl rfl ?_
              refine g_get (ci := 8) (kk := 11) rfl rfl hW.ob hW.b0 rfl ?_
              rw [show s3.2 11 = 30 * (t : Int) from ((hQ_s3.2 11 (by omega)).trans hb)]
              refine g_iload_n rfl rfl ?_
              refine g_aload_n rfl rfl ?_
              refine g_get (ci := 8) (kk := 15) rfl rfl hW.ob hW.b0 rfl ?_
              refine g_iconst (n := 0) rfl (by decide) ?_
              refine g_iload rfl rfl ?_
              refine g_V (z := yMd_find) (e := 1) (A := [aI n, aI 0, aR (m0 + 13), aI inn, aI (30 * (t : Int))]) (rest := []) (v := aI (chl (mst s) t (addl [] w n) inn 0 ((addl [] w n).length : Int))) (P := fun h2 => h2 = hh19) rfl rfl rfl rfl rfl rfl (by omega) hW.ob hW.b0 ((by rw [← hfd]; exact m_find (by omega) hM3 ht hT3 hW inn 0 n (by omega) (by omega) (by omega) (by omega))) ?_
              intro hh9 he9
              rw [he9]
              clear he9 hh9
              refine g_iconst (n := -1) rfl (by decide) ?_
              refine g_icmpne rfl rfl (fun c24 => ?_) (fun c24 => ?_)
              · skip
                have y7 := c24
                refine g_iconst (n := 0) rfl (by decide) ?_
                refine g_istore (L' := [aR m0, aI inn, aI kind, aL w, none, aI n, aI off, aI 0, none]) rfl rfl ?_
                refine g_iload rfl rfl ?_
                refine g_ifeq rfl rfl (fun c => ?_) (fun c => absurd c (by decide))
                refine g_iconst (n := 0) rfl (by decide) ?_
                refine g_istore (L' := [aR m0, aI inn, aI kind, aL w, none, aI n, aI off, aI 0, none]) rfl rfl ?_
                exact mk_end (by omega) ht hb hM hQ_s3 hW inn kind w n off 0 (pz_f (fun q => by first | exact y10 (q.2.2.2.2 y8).2.2 | exact pz_eq y9 ⟨(q.2.2.2.2 y8).1, (q.2.2.2.2 y8).2.1⟩ | exact y7 q.2.2.2.1.2 | exact pz_eq y6 q.2.2.2.1.1 | exact pz_eq y5 (ltw_of q.2.2.2.1.1) | exact pz_eq y4 q.2.2.1 | exact y3 q.2.1.2.2 | exact pz_eq y2 ⟨q.2.1.1, q.2.1.2.1⟩ | exact pz_eq y1 q.1)).symm (fun q => absurd q (fun q => by first | exact y10 (q.2.2.2.2 y8).2.2 | exact pz_eq y9 ⟨(q.2.2.2.2 y8).1, (q.2.2.2.2 y8).2.1⟩ | exact y7 q.2.2.2.1.2 | exact pz_eq y6 q.2.2.2.1.1 | exact pz_eq y5 (ltw_of q.2.2.2.1.1) | exact pz_eq y4 q.2.2.1 | exact y3 q.2.1.2.2 | exact pz_eq y2 ⟨q.2.1.1, q.2.1.2.1⟩ | exact pz_eq y1 q.1))
              · skip
                have y7 := c24
                refine g_iconst (n := 1) rfl (by decide) ?_
                refine g_goto rfl rfl ?_
                refine g_istore (L' := [aR m0, aI inn, aI kind, aL w, none, aI n, aI off, aI 1, none]) rfl rfl ?_
                refine g_iload rfl rfl ?_
                refine g_ifeq rfl rfl (fun c => absurd c (by decide)) (fun c => ?_)
                refine g_iload_n rfl rfl ?_
                refine g_iconst (n := 3) rfl (by decide) ?_
                refine g_icmpne rfl rfl (fun c27 => ?_) (fun c27 => ?_)
                · skip
                  have y8 := c27
                  refine g_iconst (n := 1) rfl (by decide) ?_
                  refine g_goto rfl rfl ?_
                  refine g_istore (L' := [aR m0, aI inn, aI kind, aL w, none, aI n, aI off, aI 1, none]) rfl rfl ?_
                  exact mk_end (by omega) ht hb hM hQ_s3 hW inn kind w n off 1 (pz_t ⟨pz_ne y1, ⟨z2.1, z2.2, y3⟩, pz_ne y4, ⟨pz_ne y6, y7⟩, fun k3 => by first | exact absurd k3 y8 | exact ⟨(pz_ne y9).1, (pz_ne y9).2, y10⟩⟩).symm (fun _ => ⟨hwy, h16⟩)
                · skip
                  have y8 := c27
                  refine g_aload_n rfl rfl ?_
                  refine g_iload rfl rfl ?_
                  refine g_V (z := yMd_isNode) (e := 1) (A := [aI off]) (rest := []) (v := aI (pz (hs (mst s) t off))) (P := fun h2 => h2 = hh19) rfl rfl rfl rfl rfl rfl (by omega) hW.ob hW.b0 ((by rw [← propext (hV3.qhs off)]; exact m_isNode2 (by omega) ht ((hQ_s3.2 11 (by omega)).trans hb) hM3 hW _)) ?_
                  intro hh9 he9
                  rw [he9]
                  clear he9 hh9
                  refine g_ifeq rfl rfl (fun c28 => ?_) (fun c28 => ?_)
                  · skip
                    have y9 := c28
                    refine g_iconst (n := 0) rfl (by decide) ?_
                    refine g_istore (L' := [aR m0, aI inn, aI kind, aL w, none, aI n, aI off, aI 0, none]) rfl rfl ?_
                    exact mk_end (by omega) ht hb hM hQ_s3 hW inn kind w n off 0 (pz_f (fun q => by first | exact y10 (q.2.2.2.2 y8).2.2 | exact pz_eq y9 ⟨(q.2.2.2.2 y8).1, (q.2.2.2.2 y8).2.1⟩ | exact y7 q.2.2.2.1.2 | exact pz_eq y6 q.2.2.2.1.1 | exact pz_eq y5 (ltw_of q.2.2.2.1.1) | exact pz_eq y4 q.2.2.1 | exact y3 q.2.1.2.2 | exact pz_eq y2 ⟨q.2.1.1, q.2.1.2.1⟩ | exact pz_eq y1 q.1)).symm (fun q => absurd q (fun q => by first | exact y10 (q.2.2.2.2 y8).2.2 | exact pz_eq y9 ⟨(q.2.2.2.2 y8).1, (q.2.2.2.2 y8).2.1⟩ | exact y7 q.2.2.2.1.2 | exact pz_eq y6 q.2.2.2.1.1 | exact pz_eq y5 (ltw_of q.2.2.2.1.1) | exact pz_eq y4 q.2.2.1 | exact y3 q.2.1.2.2 | exact pz_eq y2 ⟨q.2.1.1, q.2.1.2.1⟩ | exact pz_eq y1 q.1))
                  · skip
                    have y9 := c28
                    have z9 := pz_ne y9
                    have z9a := z9.1
                    have z9b := z9.2
                    refine g_aload_n rfl rfl ?_
                    refine g_get (ci := 8) (kk := 0) rfl rfl hW.ob hW.b0 rfl ?_
                    refine g_aload_n rfl rfl ?_
                    refine g_get (ci := 8) (kk := 11) rfl rfl hW.ob hW.b0 rfl ?_
                    rw [show s3.2 11 = 30 * (t : Int) from ((hQ_s3.2 11 (by omega)).trans hb)]
                    refine g_iload rfl rfl ?_
                    refine g_iadd rfl (by omega) ?_
                    refine g_iald rfl hW.a1 (by omega) ?_
                    rw [show (s3.1 1) ((30 * (t : Int)) + off).toNat = s.1 1 (30 * t + off.toNat) from by rw [hQ_s3.1 1 (by omega) (by omega), show (30 * (t : Int) + off).toNat = 30 * t + off.toNat by omega]]
                    refine g_iconst (n := 1) rfl (by decide) ?_
                    refine g_icmpne rfl rfl (fun c29 => ?_) (fun c29 => ?_)
                    · skip
                      have y10 := c29
                      refine g_iconst (n := 0) rfl (by decide) ?_
                      refine g_istore (L' := [aR m0, aI inn, aI kind, aL w, none, aI n, aI off, aI 0, none]) rfl rfl ?_
                      exact mk_end (by omega) ht hb hM hQ_s3 hW inn kind w n off 0 (pz_f (fun q => by first | exact y10 (q.2.2.2.2 y8).2.2 | exact pz_eq y9 ⟨(q.2.2.2.2 y8).1, (q.2.2.2.2 y8).2.1⟩ | exact y7 q.2.2.2.1.2 | exact pz_eq y6 q.2.2.2.1.1 | exact pz_eq y5 (ltw_of q.2.2.2.1.1) | exact pz_eq y4 q.2.2.1 | exact y3 q.2.1.2.2 | exact pz_eq y2 ⟨q.2.1.1, q.2.1.2.1⟩ | exact pz_eq y1 q.1)).symm (fun q => absurd q (fun q => by first | exact y10 (q.2.2.2.2 y8).2.2 | exact pz_eq y9 ⟨(q.2.2.2.2 y8).1, (q.2.2.2.2 y8).2.1⟩ | exact y7 q.2.2.2.1.2 | exact pz_eq y6 q.2.2.2.1.1 | exact pz_eq y5 (ltw_of q.2.2.2.1.1) | exact pz_eq y4 q.2.2.1 | exact y3 q.2.1.2.2 | exact pz_eq y2 ⟨q.2.1.1, q.2.1.2.1⟩ | exact pz_eq y1 q.1))
                    · skip
                      have y10 := c29
                      refine g_iconst (n := 1) rfl (by decide) ?_
                      refine g_goto rfl rfl ?_
                      refine g_istore (L' := [aR m0, aI inn, aI kind, aL w, none, aI n, aI off, aI 1, none]) rfl rfl ?_
                      exact mk_end (by omega) ht hb hM hQ_s3 hW inn kind w n off 1 (pz_t ⟨pz_ne y1, ⟨z2.1, z2.2, y3⟩, pz_ne y4, ⟨pz_ne y6, y7⟩, fun k3 => by first | exact absurd k3 y8 | exact ⟨(pz_ne y9).1, (pz_ne y9).2, y10⟩⟩).symm (fun _ => ⟨hwy, h16⟩)
end Md21
