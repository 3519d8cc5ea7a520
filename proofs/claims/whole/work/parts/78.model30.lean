/-! The reference: an entry taken. -/
section Md30
variable {B h : AH} {m0 d t u K : Nat} {s s2 s3 s' s9 : MS} {c b D kd f n sz z M O U : Int} {F : Nat → Int} {st ms : CS} {L Bd P l : List Int}
theorem MOK.of (hM : MOK s) (h3 : s'.1 3 = s.1 3) (h7 : s'.1 7 = s.1 7) (h9 : s'.1 9 = s.1 9) (h2 : s'.2 = s.2) : MOK s' := by
  unfold MOK
  rw [h3, h7, h9, h2]
  exact hM
theorem pg_of (h12 : s'.1 12 = s.1 12) (h13 : s'.2 13 = s.2 13) : pg s' = pg s := by
  unfold pg
  rw [h12, h13]
theorem en_fin (hu : u < 2) (hM : MOK s) (hQ : QS s s2) (hK : K = 30 * u + (s.1 9 u).toNat) (hc : s.1 9 u < 30) (hA : AD s2 s3 u D kd F f n K) (hn : 0 ≤ n ∧ n ≤ 100) (g4 : s9.1 4 = va_up (s3.1 4) K M) (g5 : s9.1 5 = va_up (s3.1 5) K O) (g6 : s9.1 6 = va_up (s3.1 6) K U) (g8 : s9.1 8 = va_up (s3.1 8) K z) (g7 : s9.1 7 = va_up (s3.1 7) K sz) (g11 : ∀ x, x < 2000 * K ∨ 2000 * K + 2000 ≤ x → s9.1 11 x = s3.1 11 x) (go : ∀ k, k ≠ 4 → k ≠ 5 → k ≠ 6 → k ≠ 7 → k ≠ 8 → k ≠ 11 → s9.1 k = s3.1 k) (g2 : s9.2 = s3.2) (hsz : sz ≤ 2000) (hBd : (Bd.length : Int) = sz) (hbb : ∀ j : Nat, (j : Int) < sz → s9.1 11 (2000 * K + j) = Bd.getD j 0) (hL : (L.length : Int) = n) (hnm : ∀ j : Nat, (j : Int) < n → F (f.toNat + j) = L.getD j 0) : FR s s9 K ∧ s9.1 9 = va_up (s.1 9) u (s.1 9 u + 1) ∧ s9.1 12 = s.1 12 ∧ (∀ k, k ≤ 14 → s9.2 k = s.2 k) ∧ NX (mst s) (mst s9) u kd D z M O U L Bd ∧ MOK s9 := by
  obtain ⟨a0, a9, a11, a2, b1, b2, b3, b4, b5, b6, b7, b8, b10⟩ := hA
  have e9 : s2.1 9 = s.1 9 := hQ.1 9 (by omega) (by omega)
  have hF1 : FR s s2 K := ⟨fun k k1 k8 x _ => by rw [hQ.1 k k1 (by omega)], fun x _ => by rw [hQ.1 10 (by omega) (by omega)], fun x _ => by rw [hQ.1 11 (by omega) (by omega)]⟩
  have hF3 : FR s3 s9 K := by
    refine ⟨fun k k1 k8 x hx => ?_, fun x _ => by rw [go 10 (by decide) (by decide) (by decide) (by decide) (by decide) (by decide)], g11⟩
    by_cases z4 : k = 4
    · rw [z4, g4]; simp [va_up, hx]
    by_cases z5 : k = 5
    · rw [z5, g5]; simp [va_up, hx]
    by_cases z6 : k = 6
    · rw [z6, g6]; simp [va_up, hx]
    by_cases z7 : k = 7
    · rw [z7, g7]; simp [va_up, hx]
    by_cases z8 : k = 8
    · rw [z8, g8]; simp [va_up, hx]
    rw [go k z4 z5 z6 z7 z8 (by omega)]
  have hF : FR s s9 K := (hF1.tr a0).tr hF3
  have g9 : s9.1 9 = va_up (s.1 9) u (s.1 9 u + 1) := by rw [go 9 (by decide) (by decide) (by decide) (by decide) (by decide) (by decide), a9, e9]
  have hg2 : ∀ k, k ≤ 14 → s9.2 k = s.2 k := fun k hk => by rw [g2, a2, hQ.2 k hk]
  have k3 : s9.1 3 K = n := by rw [go 3 (by decide) (by decide) (by decide) (by decide) (by decide) (by decide), b3]
  have k7 : s9.1 7 K = sz := by rw [g7]; simp [va_up]
  have hnx := hF.nx hM hu hK hc (by rw [g9]; simp [va_up])
  have hnmM : nmM s9 K = L := by
    unfold nmM
    refine li_ext (by rw [oF_len, k3]; omega) fun j hj => ?_
    rw [oF_len, k3] at hj
    rw [oF_get (by rw [k3]; exact hj), go 10 (by decide) (by decide) (by decide) (by decide) (by decide) (by decide), b10 j (by omega), hnm j (by omega)]
  have hbd : bdM s9 K = Bd := by
    unfold bdM
    refine li_ext (by rw [oF_len, k7]; omega) fun j hj => ?_
    rw [oF_len, k7] at hj
    rw [oF_get (by rw [k7]; exact hj), hbb j (by omega)]
  rw [hnmM, hbd, go 1 (by decide) (by decide) (by decide) (by decide) (by decide) (by decide), b1, go 2 (by decide) (by decide) (by decide) (by decide) (by decide) (by decide), b2, g8, g4, g5, g6] at hnx
  simp only [va_up, if_true] at hnx
  refine ⟨hF, g9, by rw [go 12 (by decide) (by decide) (by decide) (by decide) (by decide) (by decide), a11 12 (by omega), hQ.1 12 (by omega) (by omega)], hg2, hnx, hM.fr hF (by rw [k3, k7]; omega) (fun v hv => ?_) hg2⟩
  rw [g9]
  have hcv := hM.2.1 v hv
  have hcu := hM.2.1 u hu
  simp only [va_up]
  split <;> omega
theorem en_724_1 {Q : AO → AH → Prop} (s8 : MS) (F0 : Nat → Int) (K : Nat) (hK : K < 60) (hb0 : 0 ≤ b) (n : Int) (hn : n ≤ 2000) (hfn : b * 512 + 512 + n ≤ 10240) (h7 : s8.1 7 K = n) (w3 w4 w5 w6 w7 w8 w9 w10 w11 w12 w13 w14 w15 w16 w17 : AV) (kk : ∀ (h : AH) (s : MS) (v20 : Int), WM B m0 h s → s.1 11 = cyN F0 (s8.1 12) (2000 * K) (b * 512 + 512) n → (∀ k, k ≠ 11 → s.1 k = s8.1 k) → s.2 = s8.2 → Go d yMd_entry 783 [aR m0, aI (b * 512), aI (30 * (u : Int)), w3, w4, w5, w6, w7, w8, w9, w10, w11, w12, w13, w14, w15, w16, w17, aI ((K : Int)), aI 1, aI v20] [] h Q) : ∀ (q j : Nat) (h : AH) (s : MS), (j : Int) ≤ n → (n - j).toNat ≤ q → WM B m0 h s → s.1 11 = cyN F0 (s8.1 12) (2000 * K) (b * 512 + 512) (j : Int) → (∀ k, k ≠ 11 → s.1 k = s8.1 k) → s.2 = s8.2 → Go d yMd_entry 724 [aR m0, aI (b * 512), aI (30 * (u : Int)), w3, w4, w5, w6, w7, w8, w9, w10, w11, w12, w13, w14, w15, w16, w17, aI ((K : Int)), aI 1, aI ((j : Int))] [] h Q := by
  intro q
  induction q with
  | zero =>
    intro j h s h1 h2 hW a1 a2 a3
    have e7 : s.1 7 ((K : Int)).toNat = n := by
      rw [Int.toNat_natCast, a2 7 (by decide), h7]
    obtain rfl : (j : Int) = n := by omega
    refine g_iload rfl rfl ?_
    refine g_aload_n rfl rfl ?_
    refine g_get (ci := 8) (kk := 6) rfl rfl hW.ob hW.b0 rfl ?_
    refine g_iload rfl rfl ?_
    refine g_iald rfl hW.a7 (by omega) ?_
    rw [show (s.1 7) ((K : Int)).toNat = (j : Int) from e7]
    refine g_icmpge rfl rfl (fun c1 => ?_) (fun c => absurd c (by omega))
    exact kk _ _ _ hW a1 a2 a3
  | succ q ih =>
    intro j h s h1 h2 hW a1 a2 a3
    have e7 : s.1 7 ((K : Int)).toNat = n := by
      rw [Int.toNat_natCast, a2 7 (by decide), h7]
    by_cases hj : (j : Int) < n
    · have e1 : (2000 * (K : Int) + (j : Int)).toNat = 2000 * K + j := by omega
      have er : s.1 12 ((b * 512 + 512) + (j : Int)).toNat = s8.1 12 ((b * 512 + 512).toNat + j) := by
        rw [a2 12 (by decide), show ((b * 512 + 512) + (j : Int)).toNat = (b * 512 + 512).toNat + j by omega]
      have h8 : r8 (s8.1 12 ((b * 512 + 512).toNat + j)) := by
        rw [← a2 12 (by decide)]
        exact hW.by8 (by decide) _
      refine g_iload rfl rfl ?_
      refine g_aload_n rfl rfl ?_
      refine g_get (ci := 8) (kk := 6) rfl rfl hW.ob hW.b0 rfl ?_
      refine g_iload rfl rfl ?_
      refine g_iald rfl hW.a7 (by omega) ?_
      rw [show (s.1 7) ((K : Int)).toNat = n from e7]
      refine g_icmpge rfl rfl (fun c => absurd c (by omega)) (fun c1 => ?_)
      refine g_aload_n rfl rfl ?_
      refine g_get (ci := 8) (kk := 10) rfl rfl hW.ob hW.b0 rfl ?_
      refine g_sipush (n := 2000) rfl (by decide) ?_
      refine g_iload rfl rfl ?_
      refine g_imul rfl (by omega) ?_
      refine g_iload rfl rfl ?_
      refine g_iadd rfl (by omega) ?_
      refine g_aload_n rfl rfl ?_
      refine g_get (ci := 8) (kk := 12) rfl rfl hW.ob hW.b0 rfl ?_
      refine g_iload rfl rfl ?_
      refine g_iconst (n := 1) rfl (by decide) ?_
      refine g_icmpne rfl rfl (fun c => absurd c (by decide)) (fun c => ?_)
      refine g_iload_n rfl rfl ?_
      refine g_sipush (n := 512) rfl (by decide) ?_
      refine g_iadd rfl (by omega) ?_
      refine g_goto rfl rfl ?_
      refine g_iload rfl rfl ?_
      refine g_iadd rfl (by omega) ?_
      refine g_bald rfl hW.a12 (by omega) ?_
      rw [show (s.1 12) (((b * 512) + 512) + ((j : Int))).toNat = s8.1 12 ((b * 512 + 512).toNat + j) from er]
      refine g_bast rfl hW.a11 hW.bk (by omega) ?_
      generalize hg_hh3 : hput h (m0 + 11) (eA 1 120000 (va_up (s.1 11) ((2000 * ((K : Int))) + ((j : Int))).toNat (a8 (s8.1 12 ((b * 512 + 512).toNat + j))))) = hh3
      obtain ⟨s3, hW, q11, o11, p11⟩ := hW.st (k := 11) (i := (2000 * (K : Int) + (j : Int)).toNat) (v := (a8 (s8.1 12 ((b * 512 + 512).toNat + j)))) (by omega) (by omega) (fun _ => a8_r _)
      rw [show (eA (mty 11) (mln 11) (va_up (s.1 11) (2000 * (K : Int) + (j : Int)).toNat (a8 (s8.1 12 ((b * 512 + 512).toNat + j)))) : AE) = eA 1 120000 (va_up (s.1 11) (2000 * (K : Int) + (j : Int)).toNat (a8 (s8.1 12 ((b * 512 + 512).toNat + j)))) from rfl, hg_hh3] at hW
      have b1 : s3.1 11 = cyN F0 (s8.1 12) (2000 * K) (b * 512 + 512) ((j + 1 : Nat) : Int) := by
        rw [q11, a1, a8_of h8, e1]
        funext x
        unfold va_up cyN
        by_cases z : x = 2000 * K + j
        · rw [if_pos z, if_pos (by omega), show x - 2000 * K = j by omega]
        · rw [if_neg z]
          by_cases z2 : 2000 * K ≤ x ∧ (x : Int) < ((2000 * K : Nat) : Int) + (j : Int)
          · rw [if_pos z2, if_pos (by omega)]
          · rw [if_neg z2, if_neg (by omega)]
      refine g_iinc (L' := [aR m0, aI (b * 512), aI (30 * (u : Int)), w3, w4, w5, w6, w7, w8, w9, w10, w11, w12, w13, w14, w15, w16, w17, aI ((K : Int)), aI 1, aI ((j : Int) + 1)]) rfl rfl (by omega) rfl ?_
      refine g_goto rfl rfl ?_
      exact ih (j + 1) _ s3 (by omega) (by omega) hW b1 (fun k hk => (o11 k hk).trans (a2 k hk)) (p11.trans a3)
    · obtain rfl : (j : Int) = n := by omega
      refine g_iload rfl rfl ?_
      refine g_aload_n rfl rfl ?_
      refine g_get (ci := 8) (kk := 6) rfl rfl hW.ob hW.b0 rfl ?_
      refine g_iload rfl rfl ?_
      refine g_iald rfl hW.a7 (by omega) ?_
      rw [show (s.1 7) ((K : Int)).toNat = (j : Int) from e7]
      refine g_icmpge rfl rfl (fun c1 => ?_) (fun c => absurd c (by omega))
      exact kk _ _ _ hW a1 a2 a3
theorem en_724_2 {Q : AO → AH → Prop} (s8 : MS) (F0 : Nat → Int) (K : Nat) (hK : K < 60) (hb0 : 0 ≤ b) (n : Int) (hn : n ≤ 2000) (hfn : b * 512 + 157 + n ≤ 10240) (h7 : s8.1 7 K = n) (w3 w4 w5 w6 w7 w8 w9 w10 w11 w12 w13 w14 w15 w16 w17 : AV) (kk : ∀ (h : AH) (s : MS) (v20 : Int), WM B m0 h s → s.1 11 = cyN F0 (s8.1 12) (2000 * K) (b * 512 + 157) n → (∀ k, k ≠ 11 → s.1 k = s8.1 k) → s.2 = s8.2 → Go d yMd_entry 783 [aR m0, aI (b * 512), aI (30 * (u : Int)), w3, w4, w5, w6, w7, w8, w9, w10, w11, w12, w13, w14, w15, w16, w17, aI ((K : Int)), aI 2, aI v20] [] h Q) : ∀ (q j : Nat) (h : AH) (s : MS), (j : Int) ≤ n → (n - j).toNat ≤ q → WM B m0 h s → s.1 11 = cyN F0 (s8.1 12) (2000 * K) (b * 512 + 157) (j : Int) → (∀ k, k ≠ 11 → s.1 k = s8.1 k) → s.2 = s8.2 → Go d yMd_entry 724 [aR m0, aI (b * 512), aI (30 * (u : Int)), w3, w4, w5, w6, w7, w8, w9, w10, w11, w12, w13, w14, w15, w16, w17, aI ((K : Int)), aI 2, aI ((j : Int))] [] h Q := by
  intro q
  induction q with
  | zero =>
    intro j h s h1 h2 hW a1 a2 a3
    have e7 : s.1 7 ((K : Int)).toNat = n := by
      rw [Int.toNat_natCast, a2 7 (by decide), h7]
    obtain rfl : (j : Int) = n := by omega
    refine g_iload rfl rfl ?_
    refine g_aload_n rfl rfl ?_
    refine g_get (ci := 8) (kk := 6) rfl rfl hW.ob hW.b0 rfl ?_
    refine g_iload rfl rfl ?_
    refine g_iald rfl hW.a7 (by omega) ?_
    rw [show (s.1 7) ((K : Int)).toNat = (j : Int) from e7]
    refine g_icmpge rfl rfl (fun c1 => ?_) (fun c => absurd c (by omega))
    exact kk _ _ _ hW a1 a2 a3
  | succ q ih =>
    intro j h s h1 h2 hW a1 a2 a3
    have e7 : s.1 7 ((K : Int)).toNat = n := by
      rw [Int.toNat_natCast, a2 7 (by decide), h7]
    by_cases hj : (j : Int) < n
    · have e1 : (2000 * (K : Int) + (j : Int)).toNat = 2000 * K + j := by omega
      have er : s.1 12 ((b * 512 + 157) + (j : Int)).toNat = s8.1 12 ((b * 512 + 157).toNat + j) := by
        rw [a2 12 (by decide), show ((b * 512 + 157) + (j : Int)).toNat = (b * 512 + 157).toNat + j by omega]
      have h8 : r8 (s8.1 12 ((b * 512 + 157).toNat + j)) := by
        rw [← a2 12 (by decide)]
        exact hW.by8 (by decide) _
      refine g_iload rfl rfl ?_
      refine g_aload_n rfl rfl ?_
      refine g_get (ci := 8) (kk := 6) rfl rfl hW.ob hW.b0 rfl ?_
      refine g_iload rfl rfl ?_
      refine g_iald rfl hW.a7 (by omega) ?_
      rw [show (s.1 7) ((K : Int)).toNat = n from e7]
      refine g_icmpge rfl rfl (fun c => absurd c (by omega)) (fun c1 => ?_)
      refine g_aload_n rfl rfl ?_
      refine g_get (ci := 8) (kk := 10) rfl rfl hW.ob hW.b0 rfl ?_
      refine g_sipush (n := 2000) rfl (by decide) ?_
      refine g_iload rfl rfl ?_
      refine g_imul rfl (by omega) ?_
      refine g_iload rfl rfl ?_
      refine g_iadd rfl (by omega) ?_
      refine g_aload_n rfl rfl ?_
      refine g_get (ci := 8) (kk := 12) rfl rfl hW.ob hW.b0 rfl ?_
      refine g_iload rfl rfl ?_
      refine g_iconst (n := 1) rfl (by decide) ?_
      refine g_icmpne rfl rfl (fun c => ?_) (fun c => absurd c (by decide))
      refine g_iload_n rfl rfl ?_
      refine g_sipush (n := 157) rfl (by decide) ?_
      refine g_iadd rfl (by omega) ?_
      refine g_iload rfl rfl ?_
      refine g_iadd rfl (by omega) ?_
      refine g_bald rfl hW.a12 (by omega) ?_
      rw [show (s.1 12) (((b * 512) + 157) + ((j : Int))).toNat = s8.1 12 ((b * 512 + 157).toNat + j) from er]
      refine g_bast rfl hW.a11 hW.bk (by omega) ?_
      generalize hg_hh3 : hput h (m0 + 11) (eA 1 120000 (va_up (s.1 11) ((2000 * ((K : Int))) + ((j : Int))).toNat (a8 (s8.1 12 ((b * 512 + 157).toNat + j))))) = hh3
      obtain ⟨s3, hW, q11, o11, p11⟩ := hW.st (k := 11) (i := (2000 * (K : Int) + (j : Int)).toNat) (v := (a8 (s8.1 12 ((b * 512 + 157).toNat + j)))) (by omega) (by omega) (fun _ => a8_r _)
      rw [show (eA (mty 11) (mln 11) (va_up (s.1 11) (2000 * (K : Int) + (j : Int)).toNat (a8 (s8.1 12 ((b * 512 + 157).toNat + j)))) : AE) = eA 1 120000 (va_up (s.1 11) (2000 * (K : Int) + (j : Int)).toNat (a8 (s8.1 12 ((b * 512 + 157).toNat + j)))) from rfl, hg_hh3] at hW
      have b1 : s3.1 11 = cyN F0 (s8.1 12) (2000 * K) (b * 512 + 157) ((j + 1 : Nat) : Int) := by
        rw [q11, a1, a8_of h8, e1]
        funext x
        unfold va_up cyN
        by_cases z : x = 2000 * K + j
        · rw [if_pos z, if_pos (by omega), show x - 2000 * K = j by omega]
        · rw [if_neg z]
          by_cases z2 : 2000 * K ≤ x ∧ (x : Int) < ((2000 * K : Nat) : Int) + (j : Int)
          · rw [if_pos z2, if_pos (by omega)]
          · rw [if_neg z2, if_neg (by omega)]
      refine g_iinc (L' := [aR m0, aI (b * 512), aI (30 * (u : Int)), w3, w4, w5, w6, w7, w8, w9, w10, w11, w12, w13, w14, w15, w16, w17, aI ((K : Int)), aI 2, aI ((j : Int) + 1)]) rfl rfl (by omega) rfl ?_
      refine g_goto rfl rfl ?_
      exact ih (j + 1) _ s3 (by omega) (by omega) hW b1 (fun k hk => (o11 k hk).trans (a2 k hk)) (p11.trans a3)
    · obtain rfl : (j : Int) = n := by omega
      refine g_iload rfl rfl ?_
      refine g_aload_n rfl rfl ?_
      refine g_get (ci := 8) (kk := 6) rfl rfl hW.ob hW.b0 rfl ?_
      refine g_iload rfl rfl ?_
      refine g_iald rfl hW.a7 (by omega) ?_
      rw [show (s.1 7) ((K : Int)).toNat = (j : Int) from e7]
      refine g_icmpge rfl rfl (fun c1 => ?_) (fun c => absurd c (by omega))
      exact kk _ _ _ hW a1 a2 a3
theorem en_538_48 (hd3 : 3 ≤ d) (hu : u < 2) (hM : MOK s) (hb0 : 0 ≤ b) (hb1 : b * 512 + 512 ≤ s.2 13) (hQ : QS s s2) (h26 : s2.2 26 = s.2 26) (hW : WM B m0 h s2) (hpok : pokR (mst s) u (pg s) (b * 512) (kndR (pg s) (b * 512))) (hk : kndR (pg s) (b * 512) = 1) (hnum : numR (pg s) (b * 512)) (hv0 : ENv (mst s) u (pg s) b = 0) (hc : s.1 9 u < 30) (hl2 : lnR (pg s) b ≤ 2000) (hl3 : b * 512 + 512 + lnR (pg s) b ≤ s.2 13) (hwy : wy s2 = (ptR (pg s) (b * 512))) (h16 : s2.2 16 = ((ptR (pg s) (b * 512)).length : Int)) (w3 w6 w7 w8 : AV) : Go d yMd_entry 538 [aR m0, aI (b * 512), aI (30 * (u : Int)), w3, aI 48, aI 0, w6, w7, w8, aI (drR (mst s) u (ptR (pg s) (b * 512))), aI (slsR (ptR (pg s) (b * 512)) + 1), aI (ntR (ptR (pg s) (b * 512)) - (slsR (ptR (pg s) (b * 512)) + 1)), aI ((((tx (pg s) (b * 512 + 157) 100) : Nat) : Int)), aI (-1), aL (lnR (pg s) b), none, aI (lnR (pg s) b), aI ((lnR (pg s) b + 512 - 1) / 512), none, none, none] [] h (RV (some (aI (ENv (mst s) u (pg s) b))) (fun h2 => ∃ s', WM B m0 h2 s' ∧ EP s s' u b (ENv (mst s) u (pg s) b))) := by
  have hM2 := hQ.mok hM
  have hm := hM.2.2.2.2
  have e13 : s2.2 13 = s.2 13 := hQ.2 13 (by omega)
  have hcn := hM.2.1 u hu
  have e9 : s2.1 9 = s.1 9 := hQ.1 9 (by omega) (by omega)
  have hlr : 0 ≤ lnR (pg s) b ∧ lnR (pg s) b < 8 ^ 11 := octv_r hnum.2.2.2.1
  have ho1 := octv_r hnum.1
  have ho2 := octv_r hnum.2.2.1
  have ho3 := octv_r hnum.2.2.2.2.1
  have ho4 := hnum.2.2.2.2.2.1
  have htx := tx_le (pg s) 100 (b * 512 + 157)
  have hpl := ptR_len (pg s) (b * 512)
  have hnt := ntR_c (ptR (pg s) (b * 512))
  have hls := lsl_r (ptR (pg s) (b * 512)) (ntR (ptR (pg s) (b * 512))).toNat
  have hsn : slsR (ptR (pg s) (b * 512)) = lsl (ptR (pg s) (b * 512)) (ntR (ptR (pg s) (b * 512))).toNat := rfl
  have hn1 := hpok.2.2.1.2.1
  have hn2 := hpok.2.2.2.1
  obtain ⟨K, hK⟩ : ∃ K : Nat, K = 30 * u + (s.1 9 u).toNat := ⟨_, rfl⟩
  have hKi : 30 * (u : Int) + s.1 9 u = (K : Int) := by omega
  have hcps : (((cps (ptR (pg s) (b * 512)) (slsR (ptR (pg s) (b * 512)) + 1) (ntR (ptR (pg s) (b * 512))))).length : Int) = ntR (ptR (pg s) (b * 512)) - (slsR (ptR (pg s) (b * 512)) + 1) := by
    unfold cps
    rw [oF_len]
    omega
  refine g_iload_n rfl rfl ?_
  refine g_aload_n rfl rfl ?_
  refine g_get (ci := 8) (kk := 8) rfl rfl hW.ob hW.b0 rfl ?_
  refine g_iload_n rfl rfl ?_
  refine g_bipush (n := 30) rfl (by decide) ?_
  refine g_idiv (v := (u : Int)) rfl (by decide) ((a_div30 (by omega) (by omega)).trans (by omega)) ?_
  refine g_iald rfl hW.a9 (by omega) ?_
  rw [show (s2.1 9) ((u : Int)).toNat = s.1 9 u from by rw [Int.toNat_natCast, e9]]
  refine g_iadd rfl (by omega) ?_
  rw [hKi]
  refine g_istore (L' := [aR m0, aI (b * 512), aI (30 * (u : Int)), w3, aI 48, aI 0, w6, w7, w8, aI (drR (mst s) u (ptR (pg s) (b * 512))), aI (slsR (ptR (pg s) (b * 512)) + 1), aI (ntR (ptR (pg s) (b * 512)) - (slsR (ptR (pg s) (b * 512)) + 1)), aI ((((tx (pg s) (b * 512 + 157) 100) : Nat) : Int)), aI (-1), aL (lnR (pg s) b), none, aI (lnR (pg s) b), aI ((lnR (pg s) b + 512 - 1) / 512), aI ((K : Int)), none, none]) rfl rfl ?_
  refine g_iload rfl rfl ?_
  refine g_ifeq rfl rfl (fun c => ?_) (fun c => absurd c (by decide))
  refine g_iload rfl rfl ?_
  refine g_bipush (n := 48) rfl (by decide) ?_
  refine g_icmpne rfl rfl (fun c => absurd c (by decide)) (fun c => ?_)
  refine g_iconst (n := 1) rfl (by decide) ?_
  refine g_goto rfl rfl ?_
  refine g_istore (L' := [aR m0, aI (b * 512), aI (30 * (u : Int)), w3, aI 48, aI 0, w6, w7, w8, aI (drR (mst s) u (ptR (pg s) (b * 512))), aI (slsR (ptR (pg s) (b * 512)) + 1), aI (ntR (ptR (pg s) (b * 512)) - (slsR (ptR (pg s) (b * 512)) + 1)), aI ((((tx (pg s) (b * 512 + 157) 100) : Nat) : Int)), aI (-1), aL (lnR (pg s) b), none, aI (lnR (pg s) b), aI ((lnR (pg s) b + 512 - 1) / 512), aI ((K : Int)), aI 1, none]) rfl rfl ?_
  refine g_iload rfl rfl ?_
  refine g_iconst (n := 3) rfl (by decide) ?_
  refine g_icmpne rfl rfl (fun c => ?_) (fun c => absurd c (by decide))
  refine g_aload_n rfl rfl ?_
  refine g_iload_n rfl rfl ?_
  refine g_iload rfl rfl ?_
  refine g_iload rfl rfl ?_
  refine g_aload_n rfl rfl ?_
  refine g_get (ci := 8) (kk := 15) rfl rfl hW.ob hW.b0 rfl ?_
  refine g_iload rfl rfl ?_
  refine g_iload rfl rfl ?_
  refine g_Vn (z := yMd_add) (e := 1) (A := [aI (ntR (ptR (pg s) (b * 512)) - (slsR (ptR (pg s) (b * 512)) + 1)), aI (slsR (ptR (pg s) (b * 512)) + 1), aR (m0 + 13), aI 1, aI (drR (mst s) u (ptR (pg s) (b * 512))), aI (30 * (u : Int))]) (rest := [])  rfl rfl rfl rfl rfl rfl (by omega) hW.ob hW.b0 (m_add13 hu hW (drR (mst s) u (ptR (pg s) (b * 512))) 1 (slsR (ptR (pg s) (b * 512)) + 1) (ntR (ptR (pg s) (b * 512)) - (slsR (ptR (pg s) (b * 512)) + 1)) (by omega) (by omega) (by omega) (by omega) (by rw [e9]; omega) (by rw [e9]; omega)) ?_
  intro hh4 hq
  obtain ⟨s3, hW, hA⟩ := hq
  rw [e9, ← hK] at hA
  have hA2 := hA
  obtain ⟨a0, a9, a11, a2, b1, b2, b3, b4, b5, b6, b7, b8, b10⟩ := hA2
  have hM3 : MOK s3 := hM2.fr a0 (by rw [b3, b7]; omega) (fun v hv => by rw [a9, e9]; have hcv := hM.2.1 v hv; simp only [va_up]; split <;> omega) (fun k hk => by rw [a2])
  have hp3 : pg s3 = pg s := (pg_of (a11 12 (by omega)) (by rw [a2])).trans hQ.page
  have e133 : s3.2 13 = s.2 13 := by rw [a2]; exact e13
  refine g_aload_n rfl rfl ?_
  refine g_get (ci := 8) (kk := 3) rfl rfl hW.ob hW.b0 rfl ?_
  refine g_iload rfl rfl ?_
  refine g_aload_n rfl rfl ?_
  refine g_iload_n rfl rfl ?_
  refine g_bipush (n := 100) rfl (by decide) ?_
  refine g_iadd rfl (by omega) ?_
  refine g_bipush (n := 7) rfl (by decide) ?_
  refine g_V (z := yMd_number) (e := 1) (A := [aI 7, aI ((b * 512) + 100)]) (rest := [aI ((K : Int)), aR (m0 + 4)]) (v := aL (octv (pg s) (b * 512 + 100) 7)) (P := fun h2 => h2 = hh4) rfl rfl rfl rfl rfl rfl (by omega) hW.ob hW.b0 ((by rw [← hp3]; exact m_number (by omega) hM3 hW (b * 512 + 100) 7 (by omega) (by omega) (by omega))) ?_
  intro hh9 he9
  rw [he9]
  clear he9 hh9
  refine g_l2i (v := octv (pg s) (b * 512 + 100) 7) rfl (a32_id (by omega) (by omega)) ?_
  refine g_iast rfl hW.a4 hW.bk (by omega) ?_
  generalize hg_hh5 : hput hh4 (m0 + 4) (eA 0 60 (va_up (s3.1 4) ((K : Int)).toNat (octv (pg s) (b * 512 + 100) 7))) = hh5
  obtain ⟨s4, hW, q4, o4, p4⟩ := hW.st (k := 4) (i := (K : Int).toNat) (v := (octv (pg s) (b * 512 + 100) 7)) (by omega) (by omega) (fun z => absurd z (by decide))
  rw [show (eA (mty 4) (mln 4) (va_up (s3.1 4) (K : Int).toNat (octv (pg s) (b * 512 + 100) 7)) : AE) = eA 0 60 (va_up (s3.1 4) (K : Int).toNat (octv (pg s) (b * 512 + 100) 7)) from rfl, hg_hh5] at hW
  rw [Int.toNat_natCast] at q4
  have hM4 : MOK s4 := hM3.of (o4 3 (by decide)) (o4 7 (by decide)) (o4 9 (by decide)) p4
  have hp4 : pg s4 = pg s := (pg_of (o4 12 (by decide)) (by rw [p4])).trans hp3
  have e134 : s4.2 13 = s.2 13 := by rw [p4]; exact e133
  refine g_aload_n rfl rfl ?_
  refine g_get (ci := 8) (kk := 4) rfl rfl hW.ob hW.b0 rfl ?_
  refine g_iload rfl rfl ?_
  refine g_aload_n rfl rfl ?_
  refine g_iload_n rfl rfl ?_
  refine g_bipush (n := 108) rfl (by decide) ?_
  refine g_iadd rfl (by omega) ?_
  refine g_bipush (n := 7) rfl (by decide) ?_
  refine g_V (z := yMd_number) (e := 1) (A := [aI 7, aI ((b * 512) + 108)]) (rest := [aI ((K : Int)), aR (m0 + 5)]) (v := aL (octv (pg s) (b * 512 + 108) 7)) (P := fun h2 => h2 = hh5) rfl rfl rfl rfl rfl rfl (by omega) hW.ob hW.b0 ((by rw [← hp4]; exact m_number (by omega) hM4 hW (b * 512 + 108) 7 (by omega) (by omega) (by omega))) ?_
  intro hh9 he9
  rw [he9]
  clear he9 hh9
  refine g_l2i (v := octv (pg s) (b * 512 + 108) 7) rfl (a32_id (by omega) (by omega)) ?_
  refine g_iast rfl hW.a5 hW.bk (by omega) ?_
  generalize hg_hh6 : hput hh5 (m0 + 5) (eA 0 60 (va_up (s4.1 5) ((K : Int)).toNat (octv (pg s) (b * 512 + 108) 7))) = hh6
  obtain ⟨s5, hW, q5, o5, p5⟩ := hW.st (k := 5) (i := (K : Int).toNat) (v := (octv (pg s) (b * 512 + 108) 7)) (by omega) (by omega) (fun z => absurd z (by decide))
  rw [show (eA (mty 5) (mln 5) (va_up (s4.1 5) (K : Int).toNat (octv (pg s) (b * 512 + 108) 7)) : AE) = eA 0 60 (va_up (s4.1 5) (K : Int).toNat (octv (pg s) (b * 512 + 108) 7)) from rfl, hg_hh6] at hW
  rw [Int.toNat_natCast] at q5
  have hM5 : MOK s5 := hM4.of (o5 3 (by decide)) (o5 7 (by decide)) (o5 9 (by decide)) p5
  have hp5 : pg s5 = pg s := (pg_of (o5 12 (by decide)) (by rw [p5])).trans hp4
  have e135 : s5.2 13 = s.2 13 := by rw [p5]; exact e134
  refine g_aload_n rfl rfl ?_
  refine g_get (ci := 8) (kk := 5) rfl rfl hW.ob hW.b0 rfl ?_
  refine g_iload rfl rfl ?_
  refine g_aload_n rfl rfl ?_
  refine g_iload_n rfl rfl ?_
  refine g_sipush (n := 136) rfl (by decide) ?_
  refine g_iadd rfl (by omega) ?_
  refine g_bipush (n := 11) rfl (by decide) ?_
  refine g_V (z := yMd_number) (e := 1) (A := [aI 11, aI ((b * 512) + 136)]) (rest := [aI ((K : Int)), aR (m0 + 6)]) (v := aL (octv (pg s) (b * 512 + 136) 11)) (P := fun h2 => h2 = hh6) rfl rfl rfl rfl rfl rfl (by omega) hW.ob hW.b0 ((by rw [← hp5]; exact m_number (by omega) hM5 hW (b * 512 + 136) 11 (by omega) (by omega) (by omega))) ?_
  intro hh9 he9
  rw [he9]
  clear he9 hh9
  refine g_l2i (v := octv (pg s) (b * 512 + 136) 11) rfl (a32_id (by omega) (by omega)) ?_
  refine g_iast rfl hW.a6 hW.bk (by omega) ?_
  generalize hg_hh7 : hput hh6 (m0 + 6) (eA 0 60 (va_up (s5.1 6) ((K : Int)).toNat (octv (pg s) (b * 512 + 136) 11))) = hh7
  obtain ⟨s6, hW, q6, o6, p6⟩ := hW.st (k := 6) (i := (K : Int).toNat) (v := (octv (pg s) (b * 512 + 136) 11)) (by omega) (by omega) (fun z => absurd z (by decide))
  rw [show (eA (mty 6) (mln 6) (va_up (s5.1 6) (K : Int).toNat (octv (pg s) (b * 512 + 136) 11)) : AE) = eA 0 60 (va_up (s5.1 6) (K : Int).toNat (octv (pg s) (b * 512 + 136) 11)) from rfl, hg_hh7] at hW
  rw [Int.toNat_natCast] at q6
  refine g_aload_n rfl rfl ?_
  refine g_get (ci := 8) (kk := 7) rfl rfl hW.ob hW.b0 rfl ?_
  refine g_iload rfl rfl ?_
  refine g_iload rfl rfl ?_
  refine g_iast rfl hW.a8 hW.bk (by omega) ?_
  generalize hg_hh8 : hput hh7 (m0 + 8) (eA 0 60 (va_up (s6.1 8) ((K : Int)).toNat (-1))) = hh8
  obtain ⟨s7, hW, q8, o8, p8⟩ := hW.st (k := 8) (i := (K : Int).toNat) (v := (-1)) (by omega) (by omega) (fun z => absurd z (by decide))
  rw [show (eA (mty 8) (mln 8) (va_up (s6.1 8) (K : Int).toNat (-1)) : AE) = eA 0 60 (va_up (s6.1 8) (K : Int).toNat (-1)) from rfl, hg_hh8] at hW
  rw [Int.toNat_natCast] at q8
  refine g_aload_n rfl rfl ?_
  refine g_get (ci := 8) (kk := 6) rfl rfl hW.ob hW.b0 rfl ?_
  refine g_iload rfl rfl ?_
  refine g_iload rfl rfl ?_
  refine g_iconst (n := 1) rfl (by decide) ?_
  refine g_icmpne rfl rfl (fun c => absurd c (by decide)) (fun c => ?_)
  refine g_iload rfl rfl ?_
  refine g_goto rfl rfl ?_
  refine g_iast rfl hW.a7 hW.bk (by omega) ?_
  generalize hg_hh10 : hput hh8 (m0 + 7) (eA 0 60 (va_up (s7.1 7) ((K : Int)).toNat (lnR (pg s) b))) = hh10
  obtain ⟨s8, hW, q7, o7, p7⟩ := hW.st (k := 7) (i := (K : Int).toNat) (v := (lnR (pg s) b)) (by omega) (by omega) (fun z => absurd z (by decide))
  rw [show (eA (mty 7) (mln 7) (va_up (s7.1 7) (K : Int).toNat (lnR (pg s) b)) : AE) = eA 0 60 (va_up (s7.1 7) (K : Int).toNat (lnR (pg s) b)) from rfl, hg_hh10] at hW
  rw [Int.toNat_natCast] at q7
  refine g_iconst (n := 0) rfl (by decide) ?_
  refine g_istore (L' := [aR m0, aI (b * 512), aI (30 * (u : Int)), w3, aI 48, aI 0, w6, w7, w8, aI (drR (mst s) u (ptR (pg s) (b * 512))), aI (slsR (ptR (pg s) (b * 512)) + 1), aI (ntR (ptR (pg s) (b * 512)) - (slsR (ptR (pg s) (b * 512)) + 1)), aI ((((tx (pg s) (b * 512 + 157) 100) : Nat) : Int)), aI (-1), aL (lnR (pg s) b), none, aI (lnR (pg s) b), aI ((lnR (pg s) b + 512 - 1) / 512), aI ((K : Int)), aI 1, aI 0]) rfl rfl ?_
  refine en_724_1 (d := d) (B := B) (m0 := m0) s8 (s8.1 11) K (by omega) hb0 (lnR (pg s) b) (by omega) (by omega) (by rw [q7]; simp [va_up]) _ _ _ _ _ _ _ _ _ _ _ _ _ _ _ (fun h s9 v20 hW f11 fo f2 => ?_) _ 0 _ s8 (by omega) (Nat.le_refl _) hW (by funext x; unfold cyN; rw [if_neg (by omega)]) (fun _ _ => rfl) rfl
  refine g_iconst (n := 0) rfl (by decide) ?_
  have hBo : (cps (pg s) (b * 512 + 512) (b * 512 + 512 + lnR (pg s) b)) = oF (lnR (pg s) b).toNat (fun j => s.1 12 ((b * 512 + 512).toNat + j)) := by
    obtain ⟨n9, hn9⟩ : ∃ n9 : Nat, lnR (pg s) b = (n9 : Int) := ⟨(lnR (pg s) b).toNat, by omega⟩
    rw [hn9, Int.toNat_natCast]
    exact cps_pg s (by omega) (by omega)
  have e12 : s8.1 12 = s.1 12 := by rw [o7 12 (by decide), o8 12 (by decide), o6 12 (by decide), o5 12 (by decide), o4 12 (by decide), a11 12 (by omega), hQ.1 12 (by omega) (by omega)]
  have hbdE : (if kndR (pg s) (b * 512) = 1 ∨ kndR (pg s) (b * 512) = 2 then bdR (pg s) b else []) = (cps (pg s) (b * 512 + 512) (b * 512 + 512 + lnR (pg s) b)) := by
    rw [if_pos (by omega)]
    unfold bdR
    rw [if_neg (by omega)]
  have hfin := en_fin (s9 := s9) (sz := lnR (pg s) b) (Bd := (cps (pg s) (b * 512 + 512) (b * 512 + 512 + lnR (pg s) b))) (L := (cps (ptR (pg s) (b * 512)) (slsR (ptR (pg s) (b * 512)) + 1) (ntR (ptR (pg s) (b * 512))))) hu hM hQ hK hc hA (by omega) (by rw [fo 4 (by decide), o7 4 (by decide), o8 4 (by decide), o6 4 (by decide), o5 4 (by decide), q4]) (by rw [fo 5 (by decide), o7 5 (by decide), o8 5 (by decide), o6 5 (by decide), q5, o4 5 (by decide)]) (by rw [fo 6 (by decide), o7 6 (by decide), o8 6 (by decide), q6, o5 6 (by decide), o4 6 (by decide)]) (by rw [fo 8 (by decide), o7 8 (by decide), q8, o6 8 (by decide), o5 8 (by decide), o4 8 (by decide)]) (by rw [fo 7 (by decide), q7, o8 7 (by decide), o6 7 (by decide), o5 7 (by decide), o4 7 (by decide)]) (fun x hx => by rw [f11]; unfold cyN; rw [if_neg (by omega), o7 11 (by decide), o8 11 (by decide), o6 11 (by decide), o5 11 (by decide), o4 11 (by decide)]) (fun k k4 k5 k6 k7 k8 k11 => by rw [fo k (by omega), o7 k (by omega), o8 k (by omega), o6 k (by omega), o5 k (by omega), o4 k (by omega)]) (by rw [f2, p7, p8, p6, p5, p4]) (by omega) (by rw [hBo, oF_len]; omega) (fun j hj => by rw [f11]; unfold cyN; rw [if_pos (by omega), show 2000 * K + j - 2000 * K = j by omega, e12, hBo, oF_get (by omega)]) hcps (fun j hj => by have z := wy_get s2 (j := (slsR (ptR (pg s) (b * 512)) + 1).toNat + j) (by omega); rw [hwy] at z; unfold cps; rw [oF_get (by omega), z])
  have h269 : s9.2 26 = s.2 26 := by rw [f2, p7, p8, p6, p5, p4, a2]; exact h26
  have hEP : EP s s9 u b (ENv (mst s) u (pg s) b) := by
    refine ⟨h269, fun q => absurd hv0 q, fun _ => ?_⟩
    unfold EN
    rw [← hK, hbdE, hk]
    exact hfin
  exact r_i rfl rfl hv0.symm ⟨s9, hW, hEP⟩
theorem en_538_49 (hd3 : 3 ≤ d) (hu : u < 2) (hM : MOK s) (hb0 : 0 ≤ b) (hb1 : b * 512 + 512 ≤ s.2 13) (hQ : QS s s2) (h26 : s2.2 26 = s.2 26) (hW : WM B m0 h s2) (hpok : pokR (mst s) u (pg s) (b * 512) (kndR (pg s) (b * 512))) (hk : kndR (pg s) (b * 512) = 3) (hnum : numR (pg s) (b * 512)) (hv0 : ENv (mst s) u (pg s) b = 0) (hc : s.1 9 u < 30) (hl2 : lnR (pg s) b ≤ 2000) (hl3 : b * 512 + 512 + lnR (pg s) b ≤ s.2 13) (hown : ∀ j : Nat, (j : Int) < ntR (ptR (pg s) (b * 512)) - (slsR (ptR (pg s) (b * 512)) + 1) → s2.1 15 j = (ptR (pg s) (b * 512)).getD ((slsR (ptR (pg s) (b * 512)) + 1).toNat + j) 0) (w3 w6 w7 w8 : AV) : Go d yMd_entry 538 [aR m0, aI (b * 512), aI (30 * (u : Int)), w3, aI 49, aI 0, w6, w7, w8, aI (drR (mst s) u (ptR (pg s) (b * 512))), aI (slsR (ptR (pg s) (b * 512)) + 1), aI (ntR (ptR (pg s) (b * 512)) - (slsR (ptR (pg s) (b * 512)) + 1)), aI ((((tx (pg s) (b * 512 + 157) 100) : Nat) : Int)), aI (flR (mst s) u (pg s) (b * 512) (kndR (pg s) (b * 512))), aL (lnR (pg s) b), none, aI (lnR (pg s) b), aI ((lnR (pg s) b + 512 - 1) / 512), none, none, none] [] h (RV (some (aI (ENv (mst s) u (pg s) b))) (fun h2 => ∃ s', WM B m0 h2 s' ∧ EP s s' u b (ENv (mst s) u (pg s) b))) := by
  have hM2 := hQ.mok hM
  have hm := hM.2.2.2.2
  have e13 : s2.2 13 = s.2 13 := hQ.2 13 (by omega)
  have hcn := hM.2.1 u hu
  have e9 : s2.1 9 = s.1 9 := hQ.1 9 (by omega) (by omega)
  have hlr : 0 ≤ lnR (pg s) b ∧ lnR (pg s) b < 8 ^ 11 := octv_r hnum.2.2.2.1
  have ho1 := octv_r hnum.1
  have ho2 := octv_r hnum.2.2.1
  have ho3 := octv_r hnum.2.2.2.2.1
  have ho4 := hnum.2.2.2.2.2.1
  have htx := tx_le (pg s) 100 (b * 512 + 157)
  have hpl := ptR_len (pg s) (b * 512)
  have hnt := ntR_c (ptR (pg s) (b * 512))
  have hls := lsl_r (ptR (pg s) (b * 512)) (ntR (ptR (pg s) (b * 512))).toNat
  have hsn : slsR (ptR (pg s) (b * 512)) = lsl (ptR (pg s) (b * 512)) (ntR (ptR (pg s) (b * 512))).toNat := rfl
  have hn1 := hpok.2.2.1.2.1
  have hn2 := hpok.2.2.2.1
  obtain ⟨K, hK⟩ : ∃ K : Nat, K = 30 * u + (s.1 9 u).toNat := ⟨_, rfl⟩
  have hKi : 30 * (u : Int) + s.1 9 u = (K : Int) := by omega
  have hcps : (((cps (ptR (pg s) (b * 512)) (slsR (ptR (pg s) (b * 512)) + 1) (ntR (ptR (pg s) (b * 512))))).length : Int) = ntR (ptR (pg s) (b * 512)) - (slsR (ptR (pg s) (b * 512)) + 1) := by
    unfold cps
    rw [oF_len]
    omega
  refine g_iload_n rfl rfl ?_
  refine g_aload_n rfl rfl ?_
  refine g_get (ci := 8) (kk := 8) rfl rfl hW.ob hW.b0 rfl ?_
  refine g_iload_n rfl rfl ?_
  refine g_bipush (n := 30) rfl (by decide) ?_
  refine g_idiv (v := (u : Int)) rfl (by decide) ((a_div30 (by omega) (by omega)).trans (by omega)) ?_
  refine g_iald rfl hW.a9 (by omega) ?_
  rw [show (s2.1 9) ((u : Int)).toNat = s.1 9 u from by rw [Int.toNat_natCast, e9]]
  refine g_iadd rfl (by omega) ?_
  rw [hKi]
  refine g_istore (L' := [aR m0, aI (b * 512), aI (30 * (u : Int)), w3, aI 49, aI 0, w6, w7, w8, aI (drR (mst s) u (ptR (pg s) (b * 512))), aI (slsR (ptR (pg s) (b * 512)) + 1), aI (ntR (ptR (pg s) (b * 512)) - (slsR (ptR (pg s) (b * 512)) + 1)), aI ((((tx (pg s) (b * 512 + 157) 100) : Nat) : Int)), aI (flR (mst s) u (pg s) (b * 512) (kndR (pg s) (b * 512))), aL (lnR (pg s) b), none, aI (lnR (pg s) b), aI ((lnR (pg s) b + 512 - 1) / 512), aI ((K : Int)), none, none]) rfl rfl ?_
  refine g_iload rfl rfl ?_
  refine g_ifeq rfl rfl (fun c => ?_) (fun c => absurd c (by decide))
  refine g_iload rfl rfl ?_
  refine g_bipush (n := 48) rfl (by decide) ?_
  refine g_icmpne rfl rfl (fun c => ?_) (fun c => absurd c (by decide))
  refine g_iload rfl rfl ?_
  refine g_bipush (n := 50) rfl (by decide) ?_
  refine g_icmpne rfl rfl (fun c => ?_) (fun c => absurd c (by decide))
  refine g_iconst (n := 3) rfl (by decide) ?_
  refine g_istore (L' := [aR m0, aI (b * 512), aI (30 * (u : Int)), w3, aI 49, aI 0, w6, w7, w8, aI (drR (mst s) u (ptR (pg s) (b * 512))), aI (slsR (ptR (pg s) (b * 512)) + 1), aI (ntR (ptR (pg s) (b * 512)) - (slsR (ptR (pg s) (b * 512)) + 1)), aI ((((tx (pg s) (b * 512 + 157) 100) : Nat) : Int)), aI (flR (mst s) u (pg s) (b * 512) (kndR (pg s) (b * 512))), aL (lnR (pg s) b), none, aI (lnR (pg s) b), aI ((lnR (pg s) b + 512 - 1) / 512), aI ((K : Int)), aI 3, none]) rfl rfl ?_
  refine g_iload rfl rfl ?_
  refine g_iconst (n := 3) rfl (by decide) ?_
  refine g_icmpne rfl rfl (fun c => absurd c (by decide)) (fun c => ?_)
  refine g_aload_n rfl rfl ?_
  refine g_iload_n rfl rfl ?_
  refine g_iload rfl rfl ?_
  refine g_iload rfl rfl ?_
  refine g_aload_n rfl rfl ?_
  refine g_get (ci := 8) (kk := 20) rfl rfl hW.ob hW.b0 rfl ?_
  refine g_iconst (n := 0) rfl (by decide) ?_
  refine g_iload rfl rfl ?_
  refine g_Vn (z := yMd_add) (e := 1) (A := [aI (ntR (ptR (pg s) (b * 512)) - (slsR (ptR (pg s) (b * 512)) + 1)), aI 0, aR (m0 + 15), aI 3, aI (drR (mst s) u (ptR (pg s) (b * 512))), aI (30 * (u : Int))]) (rest := [])  rfl rfl rfl rfl rfl rfl (by omega) hW.ob hW.b0 (m_add15 hu hW (drR (mst s) u (ptR (pg s) (b * 512))) 3 0 (ntR (ptR (pg s) (b * 512)) - (slsR (ptR (pg s) (b * 512)) + 1)) (by omega) (by omega) (by omega) (by omega) (by rw [e9]; omega) (by rw [e9]; omega)) ?_
  intro hh5 hq
  obtain ⟨s3, hW, hA⟩ := hq
  rw [e9, ← hK] at hA
  have hA2 := hA
  obtain ⟨a0, a9, a11, a2, b1, b2, b3, b4, b5, b6, b7, b8, b10⟩ := hA2
  have hM3 : MOK s3 := hM2.fr a0 (by rw [b3, b7]; omega) (fun v hv => by rw [a9, e9]; have hcv := hM.2.1 v hv; simp only [va_up]; split <;> omega) (fun k hk => by rw [a2])
  have hp3 : pg s3 = pg s := (pg_of (a11 12 (by omega)) (by rw [a2])).trans hQ.page
  have e133 : s3.2 13 = s.2 13 := by rw [a2]; exact e13
  refine g_goto rfl rfl ?_
  refine g_aload_n rfl rfl ?_
  refine g_get (ci := 8) (kk := 3) rfl rfl hW.ob hW.b0 rfl ?_
  refine g_iload rfl rfl ?_
  refine g_aload_n rfl rfl ?_
  refine g_iload_n rfl rfl ?_
  refine g_bipush (n := 100) rfl (by decide) ?_
  refine g_iadd rfl (by omega) ?_
  refine g_bipush (n := 7) rfl (by decide) ?_
  refine g_V (z := yMd_number) (e := 1) (A := [aI 7, aI ((b * 512) + 100)]) (rest := [aI ((K : Int)), aR (m0 + 4)]) (v := aL (octv (pg s) (b * 512 + 100) 7)) (P := fun h2 => h2 = hh5) rfl rfl rfl rfl rfl rfl (by omega) hW.ob hW.b0 ((by rw [← hp3]; exact m_number (by omega) hM3 hW (b * 512 + 100) 7 (by omega) (by omega) (by omega))) ?_
  intro hh9 he9
  rw [he9]
  clear he9 hh9
  refine g_l2i (v := octv (pg s) (b * 512 + 100) 7) rfl (a32_id (by omega) (by omega)) ?_
  refine g_iast rfl hW.a4 hW.bk (by omega) ?_
  generalize hg_hh6 : hput hh5 (m0 + 4) (eA 0 60 (va_up (s3.1 4) ((K : Int)).toNat (octv (pg s) (b * 512 + 100) 7))) = hh6
  obtain ⟨s4, hW, q4, o4, p4⟩ := hW.st (k := 4) (i := (K : Int).toNat) (v := (octv (pg s) (b * 512 + 100) 7)) (by omega) (by omega) (fun z => absurd z (by decide))
  rw [show (eA (mty 4) (mln 4) (va_up (s3.1 4) (K : Int).toNat (octv (pg s) (b * 512 + 100) 7)) : AE) = eA 0 60 (va_up (s3.1 4) (K : Int).toNat (octv (pg s) (b * 512 + 100) 7)) from rfl, hg_hh6] at hW
  rw [Int.toNat_natCast] at q4
  have hM4 : MOK s4 := hM3.of (o4 3 (by decide)) (o4 7 (by decide)) (o4 9 (by decide)) p4
  have hp4 : pg s4 = pg s := (pg_of (o4 12 (by decide)) (by rw [p4])).trans hp3
  have e134 : s4.2 13 = s.2 13 := by rw [p4]; exact e133
  refine g_aload_n rfl rfl ?_
  refine g_get (ci := 8) (kk := 4) rfl rfl hW.ob hW.b0 rfl ?_
  refine g_iload rfl rfl ?_
  refine g_aload_n rfl rfl ?_
  refine g_iload_n rfl rfl ?_
  refine g_bipush (n := 108) rfl (by decide) ?_
  refine g_iadd rfl (by omega) ?_
  refine g_bipush (n := 7) rfl (by decide) ?_
  refine g_V (z := yMd_number) (e := 1) (A := [aI 7, aI ((b * 512) + 108)]) (rest := [aI ((K : Int)), aR (m0 + 5)]) (v := aL (octv (pg s) (b * 512 + 108) 7)) (P := fun h2 => h2 = hh6) rfl rfl rfl rfl rfl rfl (by omega) hW.ob hW.b0 ((by rw [← hp4]; exact m_number (by omega) hM4 hW (b * 512 + 108) 7 (by omega) (by omega) (by omega))) ?_
  intro hh9 he9
  rw [he9]
  clear he9 hh9
  refine g_l2i (v := octv (pg s) (b * 512 + 108) 7) rfl (a32_id (by omega) (by omega)) ?_
  refine g_iast rfl hW.a5 hW.bk (by omega) ?_
  generalize hg_hh7 : hput hh6 (m0 + 5) (eA 0 60 (va_up (s4.1 5) ((K : Int)).toNat (octv (pg s) (b * 512 + 108) 7))) = hh7
  obtain ⟨s5, hW, q5, o5, p5⟩ := hW.st (k := 5) (i := (K : Int).toNat) (v := (octv (pg s) (b * 512 + 108) 7)) (by omega) (by omega) (fun z => absurd z (by decide))
  rw [show (eA (mty 5) (mln 5) (va_up (s4.1 5) (K : Int).toNat (octv (pg s) (b * 512 + 108) 7)) : AE) = eA 0 60 (va_up (s4.1 5) (K : Int).toNat (octv (pg s) (b * 512 + 108) 7)) from rfl, hg_hh7] at hW
  rw [Int.toNat_natCast] at q5
  have hM5 : MOK s5 := hM4.of (o5 3 (by decide)) (o5 7 (by decide)) (o5 9 (by decide)) p5
  have hp5 : pg s5 = pg s := (pg_of (o5 12 (by decide)) (by rw [p5])).trans hp4
  have e135 : s5.2 13 = s.2 13 := by rw [p5]; exact e134
  refine g_aload_n rfl rfl ?_
  refine g_get (ci := 8) (kk := 5) rfl rfl hW.ob hW.b0 rfl ?_
  refine g_iload rfl rfl ?_
  refine g_aload_n rfl rfl ?_
  refine g_iload_n rfl rfl ?_
  refine g_sipush (n := 136) rfl (by decide) ?_
  refine g_iadd rfl (by omega) ?_
  refine g_bipush (n := 11) rfl (by decide) ?_
  refine g_V (z := yMd_number) (e := 1) (A := [aI 11, aI ((b * 512) + 136)]) (rest := [aI ((K : Int)), aR (m0 + 6)]) (v := aL (octv (pg s) (b * 512 + 136) 11)) (P := fun h2 => h2 = hh7) rfl rfl rfl rfl rfl rfl (by omega) hW.ob hW.b0 ((by rw [← hp5]; exact m_number (by omega) hM5 hW (b * 512 + 136) 11 (by omega) (by omega) (by omega))) ?_
  intro hh9 he9
  rw [he9]
  clear he9 hh9
  refine g_l2i (v := octv (pg s) (b * 512 + 136) 11) rfl (a32_id (by omega) (by omega)) ?_
  refine g_iast rfl hW.a6 hW.bk (by omega) ?_
  generalize hg_hh8 : hput hh7 (m0 + 6) (eA 0 60 (va_up (s5.1 6) ((K : Int)).toNat (octv (pg s) (b * 512 + 136) 11))) = hh8
  obtain ⟨s6, hW, q6, o6, p6⟩ := hW.st (k := 6) (i := (K : Int).toNat) (v := (octv (pg s) (b * 512 + 136) 11)) (by omega) (by omega) (fun z => absurd z (by decide))
  rw [show (eA (mty 6) (mln 6) (va_up (s5.1 6) (K : Int).toNat (octv (pg s) (b * 512 + 136) 11)) : AE) = eA 0 60 (va_up (s5.1 6) (K : Int).toNat (octv (pg s) (b * 512 + 136) 11)) from rfl, hg_hh8] at hW
  rw [Int.toNat_natCast] at q6
  refine g_aload_n rfl rfl ?_
  refine g_get (ci := 8) (kk := 7) rfl rfl hW.ob hW.b0 rfl ?_
  refine g_iload rfl rfl ?_
  refine g_iload rfl rfl ?_
  refine g_iast rfl hW.a8 hW.bk (by omega) ?_
  generalize hg_hh9 : hput hh8 (m0 + 8) (eA 0 60 (va_up (s6.1 8) ((K : Int)).toNat (flR (mst s) u (pg s) (b * 512) (kndR (pg s) (b * 512))))) = hh9
  obtain ⟨s7, hW, q8, o8, p8⟩ := hW.st (k := 8) (i := (K : Int).toNat) (v := (flR (mst s) u (pg s) (b * 512) (kndR (pg s) (b * 512)))) (by omega) (by omega) (fun z => absurd z (by decide))
  rw [show (eA (mty 8) (mln 8) (va_up (s6.1 8) (K : Int).toNat (flR (mst s) u (pg s) (b * 512) (kndR (pg s) (b * 512)))) : AE) = eA 0 60 (va_up (s6.1 8) (K : Int).toNat (flR (mst s) u (pg s) (b * 512) (kndR (pg s) (b * 512)))) from rfl, hg_hh9] at hW
  rw [Int.toNat_natCast] at q8
  refine g_aload_n rfl rfl ?_
  refine g_get (ci := 8) (kk := 6) rfl rfl hW.ob hW.b0 rfl ?_
  refine g_iload rfl rfl ?_
  refine g_iload rfl rfl ?_
  refine g_iconst (n := 1) rfl (by decide) ?_
  refine g_icmpne rfl rfl (fun c => ?_) (fun c => absurd c (by decide))
  refine g_iload rfl rfl ?_
  refine g_iconst (n := 2) rfl (by decide) ?_
  refine g_icmpne rfl rfl (fun c => ?_) (fun c => absurd c (by decide))
  refine g_iconst (n := 0) rfl (by decide) ?_
  refine g_iast rfl hW.a7 hW.bk (by omega) ?_
  generalize hg_hh12 : hput hh9 (m0 + 7) (eA 0 60 (va_up (s7.1 7) ((K : Int)).toNat 0)) = hh12
  obtain ⟨s8, hW, q7, o7, p7⟩ := hW.st (k := 7) (i := (K : Int).toNat) (v := 0) (by omega) (by omega) (fun z => absurd z (by decide))
  rw [show (eA (mty 7) (mln 7) (va_up (s7.1 7) (K : Int).toNat 0) : AE) = eA 0 60 (va_up (s7.1 7) (K : Int).toNat 0) from rfl, hg_hh12] at hW
  rw [Int.toNat_natCast] at q7
  refine g_iconst (n := 0) rfl (by decide) ?_
  refine g_istore (L' := [aR m0, aI (b * 512), aI (30 * (u : Int)), w3, aI 49, aI 0, w6, w7, w8, aI (drR (mst s) u (ptR (pg s) (b * 512))), aI (slsR (ptR (pg s) (b * 512)) + 1), aI (ntR (ptR (pg s) (b * 512)) - (slsR (ptR (pg s) (b * 512)) + 1)), aI ((((tx (pg s) (b * 512 + 157) 100) : Nat) : Int)), aI (flR (mst s) u (pg s) (b * 512) (kndR (pg s) (b * 512))), aL (lnR (pg s) b), none, aI (lnR (pg s) b), aI ((lnR (pg s) b + 512 - 1) / 512), aI ((K : Int)), aI 3, aI 0]) rfl rfl ?_
  refine g_iload rfl rfl ?_
  refine g_aload_n rfl rfl ?_
  refine g_get (ci := 8) (kk := 6) rfl rfl hW.ob hW.b0 rfl ?_
  refine g_iload rfl rfl ?_
  refine g_iald rfl hW.a7 (by omega) ?_
  rw [show (s8.1 7) ((K : Int)).toNat = 0 from by rw [Int.toNat_natCast, q7]; simp [va_up]]
  refine g_icmpge rfl rfl (fun c => ?_) (fun c => absurd c (by decide))
  refine g_iconst (n := 0) rfl (by decide) ?_
  have hbdE : (if kndR (pg s) (b * 512) = 1 ∨ kndR (pg s) (b * 512) = 2 then bdR (pg s) b else []) = [] := by
    rw [if_neg (by omega)]
  have hfin := en_fin (s9 := s8) (sz := 0) (Bd := []) (L := (cps (ptR (pg s) (b * 512)) (slsR (ptR (pg s) (b * 512)) + 1) (ntR (ptR (pg s) (b * 512))))) hu hM hQ hK hc hA (by omega) (by rw [o7 4 (by decide), o8 4 (by decide), o6 4 (by decide), o5 4 (by decide), q4]) (by rw [o7 5 (by decide), o8 5 (by decide), o6 5 (by decide), q5, o4 5 (by decide)]) (by rw [o7 6 (by decide), o8 6 (by decide), q6, o5 6 (by decide), o4 6 (by decide)]) (by rw [o7 8 (by decide), q8, o6 8 (by decide), o5 8 (by decide), o4 8 (by decide)]) (by rw [q7, o8 7 (by decide), o6 7 (by decide), o5 7 (by decide), o4 7 (by decide)]) (fun x _ => by rw [o7 11 (by decide), o8 11 (by decide), o6 11 (by decide), o5 11 (by decide), o4 11 (by decide)]) (fun k k4 k5 k6 k7 k8 k11 => by rw [o7 k (by omega), o8 k (by omega), o6 k (by omega), o5 k (by omega), o4 k (by omega)]) (by rw [p7, p8, p6, p5, p4]) (by omega) rfl (fun j hj => absurd hj (by omega)) hcps (fun j hj => by rw [show Int.toNat 0 + j = j from Nat.zero_add j, hown j hj]; unfold cps; rw [oF_get (by omega)])
  have h269 : s8.2 26 = s.2 26 := by rw [p7, p8, p6, p5, p4, a2]; exact h26
  have hEP : EP s s8 u b (ENv (mst s) u (pg s) b) := by
    refine ⟨h269, fun q => absurd hv0 q, fun _ => ?_⟩
    unfold EN
    rw [← hK, hbdE]
    rw [show (kndR (pg s) (b * 512) : Int) = 3 from hk] at hfin ⊢
    exact hfin
  exact r_i rfl rfl hv0.symm ⟨s8, hW, hEP⟩
theorem en_538_50 (hd3 : 3 ≤ d) (hu : u < 2) (hM : MOK s) (hb0 : 0 ≤ b) (hb1 : b * 512 + 512 ≤ s.2 13) (hQ : QS s s2) (h26 : s2.2 26 = s.2 26) (hW : WM B m0 h s2) (hpok : pokR (mst s) u (pg s) (b * 512) (kndR (pg s) (b * 512))) (hk : kndR (pg s) (b * 512) = 2) (hnum : numR (pg s) (b * 512)) (hv0 : ENv (mst s) u (pg s) b = 0) (hc : s.1 9 u < 30) (hl2 : lnR (pg s) b ≤ 2000) (hl3 : b * 512 + 512 + lnR (pg s) b ≤ s.2 13) (hwy : wy s2 = (ptR (pg s) (b * 512))) (h16 : s2.2 16 = ((ptR (pg s) (b * 512)).length : Int)) (w3 w6 w7 w8 : AV) : Go d yMd_entry 538 [aR m0, aI (b * 512), aI (30 * (u : Int)), w3, aI 50, aI 0, w6, w7, w8, aI (drR (mst s) u (ptR (pg s) (b * 512))), aI (slsR (ptR (pg s) (b * 512)) + 1), aI (ntR (ptR (pg s) (b * 512)) - (slsR (ptR (pg s) (b * 512)) + 1)), aI ((((tx (pg s) (b * 512 + 157) 100) : Nat) : Int)), aI (-1), aL (lnR (pg s) b), none, aI (lnR (pg s) b), aI ((lnR (pg s) b + 512 - 1) / 512), none, none, none] [] h (RV (some (aI (ENv (mst s) u (pg s) b))) (fun h2 => ∃ s', WM B m0 h2 s' ∧ EP s s' u b (ENv (mst s) u (pg s) b))) := by
  have hM2 := hQ.mok hM
  have hm := hM.2.2.2.2
  have e13 : s2.2 13 = s.2 13 := hQ.2 13 (by omega)
  have hcn := hM.2.1 u hu
  have e9 : s2.1 9 = s.1 9 := hQ.1 9 (by omega) (by omega)
  have hlr : 0 ≤ lnR (pg s) b ∧ lnR (pg s) b < 8 ^ 11 := octv_r hnum.2.2.2.1
  have ho1 := octv_r hnum.1
  have ho2 := octv_r hnum.2.2.1
  have ho3 := octv_r hnum.2.2.2.2.1
  have ho4 := hnum.2.2.2.2.2.1
  have htx := tx_le (pg s) 100 (b * 512 + 157)
  have hpl := ptR_len (pg s) (b * 512)
  have hnt := ntR_c (ptR (pg s) (b * 512))
  have hls := lsl_r (ptR (pg s) (b * 512)) (ntR (ptR (pg s) (b * 512))).toNat
  have hsn : slsR (ptR (pg s) (b * 512)) = lsl (ptR (pg s) (b * 512)) (ntR (ptR (pg s) (b * 512))).toNat := rfl
  have hn1 := hpok.2.2.1.2.1
  have hn2 := hpok.2.2.2.1
  obtain ⟨K, hK⟩ : ∃ K : Nat, K = 30 * u + (s.1 9 u).toNat := ⟨_, rfl⟩
  have hKi : 30 * (u : Int) + s.1 9 u = (K : Int) := by omega
  have hcps : (((cps (ptR (pg s) (b * 512)) (slsR (ptR (pg s) (b * 512)) + 1) (ntR (ptR (pg s) (b * 512))))).length : Int) = ntR (ptR (pg s) (b * 512)) - (slsR (ptR (pg s) (b * 512)) + 1) := by
    unfold cps
    rw [oF_len]
    omega
  refine g_iload_n rfl rfl ?_
  refine g_aload_n rfl rfl ?_
  refine g_get (ci := 8) (kk := 8) rfl rfl hW.ob hW.b0 rfl ?_
  refine g_iload_n rfl rfl ?_
  refine g_bipush (n := 30) rfl (by decide) ?_
  refine g_idiv (v := (u : Int)) rfl (by decide) ((a_div30 (by omega) (by omega)).trans (by omega)) ?_
  refine g_iald rfl hW.a9 (by omega) ?_
  rw [show (s2.1 9) ((u : Int)).toNat = s.1 9 u from by rw [Int.toNat_natCast, e9]]
  refine g_iadd rfl (by omega) ?_
  rw [hKi]
  refine g_istore (L' := [aR m0, aI (b * 512), aI (30 * (u : Int)), w3, aI 50, aI 0, w6, w7, w8, aI (drR (mst s) u (ptR (pg s) (b * 512))), aI (slsR (ptR (pg s) (b * 512)) + 1), aI (ntR (ptR (pg s) (b * 512)) - (slsR (ptR (pg s) (b * 512)) + 1)), aI ((((tx (pg s) (b * 512 + 157) 100) : Nat) : Int)), aI (-1), aL (lnR (pg s) b), none, aI (lnR (pg s) b), aI ((lnR (pg s) b + 512 - 1) / 512), aI ((K : Int)), none, none]) rfl rfl ?_
  refine g_iload rfl rfl ?_
  refine g_ifeq rfl rfl (fun c => ?_) (fun c => absurd c (by decide))
  refine g_iload rfl rfl ?_
  refine g_bipush (n := 48) rfl (by decide) ?_
  refine g_icmpne rfl rfl (fun c => ?_) (fun c => absurd c (by decide))
  refine g_iload rfl rfl ?_
  refine g_bipush (n := 50) rfl (by decide) ?_
  refine g_icmpne rfl rfl (fun c => absurd c (by decide)) (fun c => ?_)
  refine g_iconst (n := 2) rfl (by decide) ?_
  refine g_goto rfl rfl ?_
  refine g_istore (L' := [aR m0, aI (b * 512), aI (30 * (u : Int)), w3, aI 50, aI 0, w6, w7, w8, aI (drR (mst s) u (ptR (pg s) (b * 512))), aI (slsR (ptR (pg s) (b * 512)) + 1), aI (ntR (ptR (pg s) (b * 512)) - (slsR (ptR (pg s) (b * 512)) + 1)), aI ((((tx (pg s) (b * 512 + 157) 100) : Nat) : Int)), aI (-1), aL (lnR (pg s) b), none, aI (lnR (pg s) b), aI ((lnR (pg s) b + 512 - 1) / 512), aI ((K : Int)), aI 2, none]) rfl rfl ?_
  refine g_iload rfl rfl ?_
  refine g_iconst (n := 3) rfl (by decide) ?_
  refine g_icmpne rfl rfl (fun c => ?_) (fun c => absurd c (by decide))
  refine g_aload_n rfl rfl ?_
  refine g_iload_n rfl rfl ?_
  refine g_iload rfl rfl ?_
  refine g_iload rfl rfl ?_
  refine g_aload_n rfl rfl ?_
  refine g_get (ci := 8) (kk := 15) rfl rfl hW.ob hW.b0 rfl ?_
  refine g_iload rfl rfl ?_
  refine g_iload rfl rfl ?_
  refine g_Vn (z := yMd_add) (e := 1) (A := [aI (ntR (ptR (pg s) (b * 512)) - (slsR (ptR (pg s) (b * 512)) + 1)), aI (slsR (ptR (pg s) (b * 512)) + 1), aR (m0 + 13), aI 2, aI (drR (mst s) u (ptR (pg s) (b * 512))), aI (30 * (u : Int))]) (rest := [])  rfl rfl rfl rfl rfl rfl (by omega) hW.ob hW.b0 (m_add13 hu hW (drR (mst s) u (ptR (pg s) (b * 512))) 2 (slsR (ptR (pg s) (b * 512)) + 1) (ntR (ptR (pg s) (b * 512)) - (slsR (ptR (pg s) (b * 512)) + 1)) (by omega) (by omega) (by omega) (by omega) (by rw [e9]; omega) (by rw [e9]; omega)) ?_
  intro hh5 hq
  obtain ⟨s3, hW, hA⟩ := hq
  rw [e9, ← hK] at hA
  have hA2 := hA
  obtain ⟨a0, a9, a11, a2, b1, b2, b3, b4, b5, b6, b7, b8, b10⟩ := hA2
  have hM3 : MOK s3 := hM2.fr a0 (by rw [b3, b7]; omega) (fun v hv => by rw [a9, e9]; have hcv := hM.2.1 v hv; simp only [va_up]; split <;> omega) (fun k hk => by rw [a2])
  have hp3 : pg s3 = pg s := (pg_of (a11 12 (by omega)) (by rw [a2])).trans hQ.page
  have e133 : s3.2 13 = s.2 13 := by rw [a2]; exact e13
  refine g_aload_n rfl rfl ?_
  refine g_get (ci := 8) (kk := 3) rfl rfl hW.ob hW.b0 rfl ?_
  refine g_iload rfl rfl ?_
  refine g_aload_n rfl rfl ?_
  refine g_iload_n rfl rfl ?_
  refine g_bipush (n := 100) rfl (by decide) ?_
  refine g_iadd rfl (by omega) ?_
  refine g_bipush (n := 7) rfl (by decide) ?_
  refine g_V (z := yMd_number) (e := 1) (A := [aI 7, aI ((b * 512) + 100)]) (rest := [aI ((K : Int)), aR (m0 + 4)]) (v := aL (octv (pg s) (b * 512 + 100) 7)) (P := fun h2 => h2 = hh5) rfl rfl rfl rfl rfl rfl (by omega) hW.ob hW.b0 ((by rw [← hp3]; exact m_number (by omega) hM3 hW (b * 512 + 100) 7 (by omega) (by omega) (by omega))) ?_
  intro hh9 he9
  rw [he9]
  clear he9 hh9
  refine g_l2i (v := octv (pg s) (b * 512 + 100) 7) rfl (a32_id (by omega) (by omega)) ?_
  refine g_iast rfl hW.a4 hW.bk (by omega) ?_
  generalize hg_hh6 : hput hh5 (m0 + 4) (eA 0 60 (va_up (s3.1 4) ((K : Int)).toNat (octv (pg s) (b * 512 + 100) 7))) = hh6
  obtain ⟨s4, hW, q4, o4, p4⟩ := hW.st (k := 4) (i := (K : Int).toNat) (v := (octv (pg s) (b * 512 + 100) 7)) (by omega) (by omega) (fun z => absurd z (by decide))
  rw [show (eA (mty 4) (mln 4) (va_up (s3.1 4) (K : Int).toNat (octv (pg s) (b * 512 + 100) 7)) : AE) = eA 0 60 (va_up (s3.1 4) (K : Int).toNat (octv (pg s) (b * 512 + 100) 7)) from rfl, hg_hh6] at hW
  rw [Int.toNat_natCast] at q4
  have hM4 : MOK s4 := hM3.of (o4 3 (by decide)) (o4 7 (by decide)) (o4 9 (by decide)) p4
  have hp4 : pg s4 = pg s := (pg_of (o4 12 (by decide)) (by rw [p4])).trans hp3
  have e134 : s4.2 13 = s.2 13 := by rw [p4]; exact e133
  refine g_aload_n rfl rfl ?_
  refine g_get (ci := 8) (kk := 4) rfl rfl hW.ob hW.b0 rfl ?_
  refine g_iload rfl rfl ?_
  refine g_aload_n rfl rfl ?_
  refine g_iload_n rfl rfl ?_
  refine g_bipush (n := 108) rfl (by decide) ?_
  refine g_iadd rfl (by omega) ?_
  refine g_bipush (n := 7) rfl (by decide) ?_
  refine g_V (z := yMd_number) (e := 1) (A := [aI 7, aI ((b * 512) + 108)]) (rest := [aI ((K : Int)), aR (m0 + 5)]) (v := aL (octv (pg s) (b * 512 + 108) 7)) (P := fun h2 => h2 = hh6) rfl rfl rfl rfl rfl rfl (by omega) hW.ob hW.b0 ((by rw [← hp4]; exact m_number (by omega) hM4 hW (b * 512 + 108) 7 (by omega) (by omega) (by omega))) ?_
  intro hh9 he9
  rw [he9]
  clear he9 hh9
  refine g_l2i (v := octv (pg s) (b * 512 + 108) 7) rfl (a32_id (by omega) (by omega)) ?_
  refine g_iast rfl hW.a5 hW.bk (by omega) ?_
  generalize hg_hh7 : hput hh6 (m0 + 5) (eA 0 60 (va_up (s4.1 5) ((K : Int)).toNat (octv (pg s) (b * 512 + 108) 7))) = hh7
  obtain ⟨s5, hW, q5, o5, p5⟩ := hW.st (k := 5) (i := (K : Int).toNat) (v := (octv (pg s) (b * 512 + 108) 7)) (by omega) (by omega) (fun z => absurd z (by decide))
  rw [show (eA (mty 5) (mln 5) (va_up (s4.1 5) (K : Int).toNat (octv (pg s) (b * 512 + 108) 7)) : AE) = eA 0 60 (va_up (s4.1 5) (K : Int).toNat (octv (pg s) (b * 512 + 108) 7)) from rfl, hg_hh7] at hW
  rw [Int.toNat_natCast] at q5
  have hM5 : MOK s5 := hM4.of (o5 3 (by decide)) (o5 7 (by decide)) (o5 9 (by decide)) p5
  have hp5 : pg s5 = pg s := (pg_of (o5 12 (by decide)) (by rw [p5])).trans hp4
  have e135 : s5.2 13 = s.2 13 := by rw [p5]; exact e134
  refine g_aload_n rfl rfl ?_
  refine g_get (ci := 8) (kk := 5) rfl rfl hW.ob hW.b0 rfl ?_
  refine g_iload rfl rfl ?_
  refine g_aload_n rfl rfl ?_
  refine g_iload_n rfl rfl ?_
  refine g_sipush (n := 136) rfl (by decide) ?_
  refine g_iadd rfl (by omega) ?_
  refine g_bipush (n := 11) rfl (by decide) ?_
  refine g_V (z := yMd_number) (e := 1) (A := [aI 11, aI ((b * 512) + 136)]) (rest := [aI ((K : Int)), aR (m0 + 6)]) (v := aL (octv (pg s) (b * 512 + 136) 11)) (P := fun h2 => h2 = hh7) rfl rfl rfl rfl rfl rfl (by omega) hW.ob hW.b0 ((by rw [← hp5]; exact m_number (by omega) hM5 hW (b * 512 + 136) 11 (by omega) (by omega) (by omega))) ?_
  intro hh9 he9
  rw [he9]
  clear he9 hh9
  refine g_l2i (v := octv (pg s) (b * 512 + 136) 11) rfl (a32_id (by omega) (by omega)) ?_
  refine g_iast rfl hW.a6 hW.bk (by omega) ?_
  generalize hg_hh8 : hput hh7 (m0 + 6) (eA 0 60 (va_up (s5.1 6) ((K : Int)).toNat (octv (pg s) (b * 512 + 136) 11))) = hh8
  obtain ⟨s6, hW, q6, o6, p6⟩ := hW.st (k := 6) (i := (K : Int).toNat) (v := (octv (pg s) (b * 512 + 136) 11)) (by omega) (by omega) (fun z => absurd z (by decide))
  rw [show (eA (mty 6) (mln 6) (va_up (s5.1 6) (K : Int).toNat (octv (pg s) (b * 512 + 136) 11)) : AE) = eA 0 60 (va_up (s5.1 6) (K : Int).toNat (octv (pg s) (b * 512 + 136) 11)) from rfl, hg_hh8] at hW
  rw [Int.toNat_natCast] at q6
  refine g_aload_n rfl rfl ?_
  refine g_get (ci := 8) (kk := 7) rfl rfl hW.ob hW.b0 rfl ?_
  refine g_iload rfl rfl ?_
  refine g_iload rfl rfl ?_
  refine g_iast rfl hW.a8 hW.bk (by omega) ?_
  generalize hg_hh9 : hput hh8 (m0 + 8) (eA 0 60 (va_up (s6.1 8) ((K : Int)).toNat (-1))) = hh9
  obtain ⟨s7, hW, q8, o8, p8⟩ := hW.st (k := 8) (i := (K : Int).toNat) (v := (-1)) (by omega) (by omega) (fun z => absurd z (by decide))
  rw [show (eA (mty 8) (mln 8) (va_up (s6.1 8) (K : Int).toNat (-1)) : AE) = eA 0 60 (va_up (s6.1 8) (K : Int).toNat (-1)) from rfl, hg_hh9] at hW
  rw [Int.toNat_natCast] at q8
  refine g_aload_n rfl rfl ?_
  refine g_get (ci := 8) (kk := 6) rfl rfl hW.ob hW.b0 rfl ?_
  refine g_iload rfl rfl ?_
  refine g_iload rfl rfl ?_
  refine g_iconst (n := 1) rfl (by decide) ?_
  refine g_icmpne rfl rfl (fun c => ?_) (fun c => absurd c (by decide))
  refine g_iload rfl rfl ?_
  refine g_iconst (n := 2) rfl (by decide) ?_
  refine g_icmpne rfl rfl (fun c => absurd c (by decide)) (fun c => ?_)
  refine g_iload rfl rfl ?_
  refine g_goto rfl rfl ?_
  refine g_iast rfl hW.a7 hW.bk (by omega) ?_
  generalize hg_hh12 : hput hh9 (m0 + 7) (eA 0 60 (va_up (s7.1 7) ((K : Int)).toNat ((((tx (pg s) (b * 512 + 157) 100) : Nat) : Int)))) = hh12
  obtain ⟨s8, hW, q7, o7, p7⟩ := hW.st (k := 7) (i := (K : Int).toNat) (v := ((((tx (pg s) (b * 512 + 157) 100) : Nat) : Int))) (by omega) (by omega) (fun z => absurd z (by decide))
  rw [show (eA (mty 7) (mln 7) (va_up (s7.1 7) (K : Int).toNat ((((tx (pg s) (b * 512 + 157) 100) : Nat) : Int))) : AE) = eA 0 60 (va_up (s7.1 7) (K : Int).toNat ((((tx (pg s) (b * 512 + 157) 100) : Nat) : Int))) from rfl, hg_hh12] at hW
  rw [Int.toNat_natCast] at q7
  refine g_iconst (n := 0) rfl (by decide) ?_
  refine g_istore (L' := [aR m0, aI (b * 512), aI (30 * (u : Int)), w3, aI 50, aI 0, w6, w7, w8, aI (drR (mst s) u (ptR (pg s) (b * 512))), aI (slsR (ptR (pg s) (b * 512)) + 1), aI (ntR (ptR (pg s) (b * 512)) - (slsR (ptR (pg s) (b * 512)) + 1)), aI ((((tx (pg s) (b * 512 + 157) 100) : Nat) : Int)), aI (-1), aL (lnR (pg s) b), none, aI (lnR (pg s) b), aI ((lnR (pg s) b + 512 - 1) / 512), aI ((K : Int)), aI 2, aI 0]) rfl rfl ?_
  refine en_724_2 (d := d) (B := B) (m0 := m0) s8 (s8.1 11) K (by omega) hb0 ((((tx (pg s) (b * 512 + 157) 100) : Nat) : Int)) (by omega) (by omega) (by rw [q7]; simp [va_up]) _ _ _ _ _ _ _ _ _ _ _ _ _ _ _ (fun h s9 v20 hW f11 fo f2 => ?_) _ 0 _ s8 (by omega) (Nat.le_refl _) hW (by funext x; unfold cyN; rw [if_neg (by omega)]) (fun _ _ => rfl) rfl
  refine g_iconst (n := 0) rfl (by decide) ?_
  have hBo : (tgR (pg s) (b * 512)) = oF ((((tx (pg s) (b * 512 + 157) 100) : Nat) : Int)).toNat (fun j => s.1 12 ((b * 512 + 157).toNat + j)) := by
    rw [Int.toNat_natCast]
    exact cps_pg s (by omega) (by omega)
  have e12 : s8.1 12 = s.1 12 := by rw [o7 12 (by decide), o8 12 (by decide), o6 12 (by decide), o5 12 (by decide), o4 12 (by decide), a11 12 (by omega), hQ.1 12 (by omega) (by omega)]
  have hbdE : (if kndR (pg s) (b * 512) = 1 ∨ kndR (pg s) (b * 512) = 2 then bdR (pg s) b else []) = (tgR (pg s) (b * 512)) := by
    rw [if_pos (by omega)]
    unfold bdR
    rw [if_pos hk]
  have hfin := en_fin (s9 := s9) (sz := (((tx (pg s) (b * 512 + 157) 100) : Nat) : Int)) (Bd := (tgR (pg s) (b * 512))) (L := (cps (ptR (pg s) (b * 512)) (slsR (ptR (pg s) (b * 512)) + 1) (ntR (ptR (pg s) (b * 512))))) hu hM hQ hK hc hA (by omega) (by rw [fo 4 (by decide), o7 4 (by decide), o8 4 (by decide), o6 4 (by decide), o5 4 (by decide), q4]) (by rw [fo 5 (by decide), o7 5 (by decide), o8 5 (by decide), o6 5 (by decide), q5, o4 5 (by decide)]) (by rw [fo 6 (by decide), o7 6 (by decide), o8 6 (by decide), q6, o5 6 (by decide), o4 6 (by decide)]) (by rw [fo 8 (by decide), o7 8 (by decide), q8, o6 8 (by decide), o5 8 (by decide), o4 8 (by decide)]) (by rw [fo 7 (by decide), q7, o8 7 (by decide), o6 7 (by decide), o5 7 (by decide), o4 7 (by decide)]) (fun x hx => by rw [f11]; unfold cyN; rw [if_neg (by omega), o7 11 (by decide), o8 11 (by decide), o6 11 (by decide), o5 11 (by decide), o4 11 (by decide)]) (fun k k4 k5 k6 k7 k8 k11 => by rw [fo k (by omega), o7 k (by omega), o8 k (by omega), o6 k (by omega), o5 k (by omega), o4 k (by omega)]) (by rw [f2, p7, p8, p6, p5, p4]) (by omega) (by rw [hBo, oF_len]; omega) (fun j hj => by rw [f11]; unfold cyN; rw [if_pos (by omega), show 2000 * K + j - 2000 * K = j by omega, e12, hBo, oF_get (by omega)]) hcps (fun j hj => by have z := wy_get s2 (j := (slsR (ptR (pg s) (b * 512)) + 1).toNat + j) (by omega); rw [hwy] at z; unfold cps; rw [oF_get (by omega), z])
  have h269 : s9.2 26 = s.2 26 := by rw [f2, p7, p8, p6, p5, p4, a2]; exact h26
  have hEP : EP s s9 u b (ENv (mst s) u (pg s) b) := by
    refine ⟨h269, fun q => absurd hv0 q, fun _ => ?_⟩
    unfold EN
    rw [← hK, hbdE, hk]
    exact hfin
  exact r_i rfl rfl hv0.symm ⟨s9, hW, hEP⟩
theorem en_538_53 (hd3 : 3 ≤ d) (hu : u < 2) (hM : MOK s) (hb0 : 0 ≤ b) (hb1 : b * 512 + 512 ≤ s.2 13) (hQ : QS s s2) (h26 : s2.2 26 = s.2 26) (hW : WM B m0 h s2) (hpok : pokR (mst s) u (pg s) (b * 512) (kndR (pg s) (b * 512))) (hk : kndR (pg s) (b * 512) = 0) (hnum : numR (pg s) (b * 512)) (hv0 : ENv (mst s) u (pg s) b = 0) (hc : s.1 9 u < 30) (hl2 : lnR (pg s) b ≤ 2000) (hl3 : b * 512 + 512 + lnR (pg s) b ≤ s.2 13) (hwy : wy s2 = (ptR (pg s) (b * 512))) (h16 : s2.2 16 = ((ptR (pg s) (b * 512)).length : Int)) (w3 w6 w7 w8 : AV) : Go d yMd_entry 538 [aR m0, aI (b * 512), aI (30 * (u : Int)), w3, aI 53, aI 1, w6, w7, w8, aI (drR (mst s) u (ptR (pg s) (b * 512))), aI (slsR (ptR (pg s) (b * 512)) + 1), aI (ntR (ptR (pg s) (b * 512)) - (slsR (ptR (pg s) (b * 512)) + 1)), aI ((((tx (pg s) (b * 512 + 157) 100) : Nat) : Int)), aI (-1), aL (lnR (pg s) b), none, aI (lnR (pg s) b), aI ((lnR (pg s) b + 512 - 1) / 512), none, none, none] [] h (RV (some (aI (ENv (mst s) u (pg s) b))) (fun h2 => ∃ s', WM B m0 h2 s' ∧ EP s s' u b (ENv (mst s) u (pg s) b))) := by
  have hM2 := hQ.mok hM
  have hm := hM.2.2.2.2
  have e13 : s2.2 13 = s.2 13 := hQ.2 13 (by omega)
  have hcn := hM.2.1 u hu
  have e9 : s2.1 9 = s.1 9 := hQ.1 9 (by omega) (by omega)
  have hlr : 0 ≤ lnR (pg s) b ∧ lnR (pg s) b < 8 ^ 11 := octv_r hnum.2.2.2.1
  have ho1 := octv_r hnum.1
  have ho2 := octv_r hnum.2.2.1
  have ho3 := octv_r hnum.2.2.2.2.1
  have ho4 := hnum.2.2.2.2.2.1
  have htx := tx_le (pg s) 100 (b * 512 + 157)
  have hpl := ptR_len (pg s) (b * 512)
  have hnt := ntR_c (ptR (pg s) (b * 512))
  have hls := lsl_r (ptR (pg s) (b * 512)) (ntR (ptR (pg s) (b * 512))).toNat
  have hsn : slsR (ptR (pg s) (b * 512)) = lsl (ptR (pg s) (b * 512)) (ntR (ptR (pg s) (b * 512))).toNat := rfl
  have hn1 := hpok.2.2.1.2.1
  have hn2 := hpok.2.2.2.1
  obtain ⟨K, hK⟩ : ∃ K : Nat, K = 30 * u + (s.1 9 u).toNat := ⟨_, rfl⟩
  have hKi : 30 * (u : Int) + s.1 9 u = (K : Int) := by omega
  have hcps : (((cps (ptR (pg s) (b * 512)) (slsR (ptR (pg s) (b * 512)) + 1) (ntR (ptR (pg s) (b * 512))))).length : Int) = ntR (ptR (pg s) (b * 512)) - (slsR (ptR (pg s) (b * 512)) + 1) := by
    unfold cps
    rw [oF_len]
    omega
  refine g_iload_n rfl rfl ?_
  refine g_aload_n rfl rfl ?_
  refine g_get (ci := 8) (kk := 8) rfl rfl hW.ob hW.b0 rfl ?_
  refine g_iload_n rfl rfl ?_
  refine g_bipush (n := 30) rfl (by decide) ?_
  refine g_idiv (v := (u : Int)) rfl (by decide) ((a_div30 (by omega) (by omega)).trans (by omega)) ?_
  refine g_iald rfl hW.a9 (by omega) ?_
  rw [show (s2.1 9) ((u : Int)).toNat = s.1 9 u from by rw [Int.toNat_natCast, e9]]
  refine g_iadd rfl (by omega) ?_
  rw [hKi]
  refine g_istore (L' := [aR m0, aI (b * 512), aI (30 * (u : Int)), w3, aI 53, aI 1, w6, w7, w8, aI (drR (mst s) u (ptR (pg s) (b * 512))), aI (slsR (ptR (pg s) (b * 512)) + 1), aI (ntR (ptR (pg s) (b * 512)) - (slsR (ptR (pg s) (b * 512)) + 1)), aI ((((tx (pg s) (b * 512 + 157) 100) : Nat) : Int)), aI (-1), aL (lnR (pg s) b), none, aI (lnR (pg s) b), aI ((lnR (pg s) b + 512 - 1) / 512), aI ((K : Int)), none, none]) rfl rfl ?_
  refine g_iload rfl rfl ?_
  refine g_ifeq rfl rfl (fun c => absurd c (by decide)) (fun c => ?_)
  refine g_iconst (n := 0) rfl (by decide) ?_
  refine g_goto rfl rfl ?_
  refine g_istore (L' := [aR m0, aI (b * 512), aI (30 * (u : Int)), w3, aI 53, aI 1, w6, w7, w8, aI (drR (mst s) u (ptR (pg s) (b * 512))), aI (slsR (ptR (pg s) (b * 512)) + 1), aI (ntR (ptR (pg s) (b * 512)) - (slsR (ptR (pg s) (b * 512)) + 1)), aI ((((tx (pg s) (b * 512 + 157) 100) : Nat) : Int)), aI (-1), aL (lnR (pg s) b), none, aI (lnR (pg s) b), aI ((lnR (pg s) b + 512 - 1) / 512), aI ((K : Int)), aI 0, none]) rfl rfl ?_
  refine g_iload rfl rfl ?_
  refine g_iconst (n := 3) rfl (by decide) ?_
  refine g_icmpne rfl rfl (fun c => ?_) (fun c => absurd c (by decide))
  refine g_aload_n rfl rfl ?_
  refine g_iload_n rfl rfl ?_
  refine g_iload rfl rfl ?_
  refine g_iload rfl rfl ?_
  refine g_aload_n rfl rfl ?_
  refine g_get (ci := 8) (kk := 15) rfl rfl hW.ob hW.b0 rfl ?_
  refine g_iload rfl rfl ?_
  refine g_iload rfl rfl ?_
  refine g_Vn (z := yMd_add) (e := 1) (A := [aI (ntR (ptR (pg s) (b * 512)) - (slsR (ptR (pg s) (b * 512)) + 1)), aI (slsR (ptR (pg s) (b * 512)) + 1), aR (m0 + 13), aI 0, aI (drR (mst s) u (ptR (pg s) (b * 512))), aI (30 * (u : Int))]) (rest := [])  rfl rfl rfl rfl rfl rfl (by omega) hW.ob hW.b0 (m_add13 hu hW (drR (mst s) u (ptR (pg s) (b * 512))) 0 (slsR (ptR (pg s) (b * 512)) + 1) (ntR (ptR (pg s) (b * 512)) - (slsR (ptR (pg s) (b * 512)) + 1)) (by omega) (by omega) (by omega) (by omega) (by rw [e9]; omega) (by rw [e9]; omega)) ?_
  intro hh3 hq
  obtain ⟨s3, hW, hA⟩ := hq
  rw [e9, ← hK] at hA
  have hA2 := hA
  obtain ⟨a0, a9, a11, a2, b1, b2, b3, b4, b5, b6, b7, b8, b10⟩ := hA2
  have hM3 : MOK s3 := hM2.fr a0 (by rw [b3, b7]; omega) (fun v hv => by rw [a9, e9]; have hcv := hM.2.1 v hv; simp only [va_up]; split <;> omega) (fun k hk => by rw [a2])
  have hp3 : pg s3 = pg s := (pg_of (a11 12 (by omega)) (by rw [a2])).trans hQ.page
  have e133 : s3.2 13 = s.2 13 := by rw [a2]; exact e13
  refine g_aload_n rfl rfl ?_
  refine g_get (ci := 8) (kk := 3) rfl rfl hW.ob hW.b0 rfl ?_
  refine g_iload rfl rfl ?_
  refine g_aload_n rfl rfl ?_
  refine g_iload_n rfl rfl ?_
  refine g_bipush (n := 100) rfl (by decide) ?_
  refine g_iadd rfl (by omega) ?_
  refine g_bipush (n := 7) rfl (by decide) ?_
  refine g_V (z := yMd_number) (e := 1) (A := [aI 7, aI ((b * 512) + 100)]) (rest := [aI ((K : Int)), aR (m0 + 4)]) (v := aL (octv (pg s) (b * 512 + 100) 7)) (P := fun h2 => h2 = hh3) rfl rfl rfl rfl rfl rfl (by omega) hW.ob hW.b0 ((by rw [← hp3]; exact m_number (by omega) hM3 hW (b * 512 + 100) 7 (by omega) (by omega) (by omega))) ?_
  intro hh9 he9
  rw [he9]
  clear he9 hh9
  refine g_l2i (v := octv (pg s) (b * 512 + 100) 7) rfl (a32_id (by omega) (by omega)) ?_
  refine g_iast rfl hW.a4 hW.bk (by omega) ?_
  generalize hg_hh4 : hput hh3 (m0 + 4) (eA 0 60 (va_up (s3.1 4) ((K : Int)).toNat (octv (pg s) (b * 512 + 100) 7))) = hh4
  obtain ⟨s4, hW, q4, o4, p4⟩ := hW.st (k := 4) (i := (K : Int).toNat) (v := (octv (pg s) (b * 512 + 100) 7)) (by omega) (by omega) (fun z => absurd z (by decide))
  rw [show (eA (mty 4) (mln 4) (va_up (s3.1 4) (K : Int).toNat (octv (pg s) (b * 512 + 100) 7)) : AE) = eA 0 60 (va_up (s3.1 4) (K : Int).toNat (octv (pg s) (b * 512 + 100) 7)) from rfl, hg_hh4] at hW
  rw [Int.toNat_natCast] at q4
  have hM4 : MOK s4 := hM3.of (o4 3 (by decide)) (o4 7 (by decide)) (o4 9 (by decide)) p4
  have hp4 : pg s4 = pg s := (pg_of (o4 12 (by decide)) (by rw [p4])).trans hp3
  have e134 : s4.2 13 = s.2 13 := by rw [p4]; exact e133
  refine g_aload_n rfl rfl ?_
  refine g_get (ci := 8) (kk := 4) rfl rfl hW.ob hW.b0 rfl ?_
  refine g_iload rfl rfl ?_
  refine g_aload_n rfl rfl ?_
  refine g_iload_n rfl rfl ?_
  refine g_bipush (n := 108) rfl (by decide) ?_
  refine g_iadd rfl (by omega) ?_
  refine g_bipush (n := 7) rfl (by decide) ?_
  refine g_V (z := yMd_number) (e := 1) (A := [aI 7, aI ((b * 512) + 108)]) (rest := [aI ((K : Int)), aR (m0 + 5)]) (v := aL (octv (pg s) (b * 512 + 108) 7)) (P := fun h2 => h2 = hh4) rfl rfl rfl rfl rfl rfl (by omega) hW.ob hW.b0 ((by rw [← hp4]; exact m_number (by omega) hM4 hW (b * 512 + 108) 7 (by omega) (by omega) (by omega))) ?_
  intro hh9 he9
  rw [he9]
  clear he9 hh9
  refine g_l2i (v := octv (pg s) (b * 512 + 108) 7) rfl (a32_id (by omega) (by omega)) ?_
  refine g_iast rfl hW.a5 hW.bk (by omega) ?_
  generalize hg_hh5 : hput hh4 (m0 + 5) (eA 0 60 (va_up (s4.1 5) ((K : Int)).toNat (octv (pg s) (b * 512 + 108) 7))) = hh5
  obtain ⟨s5, hW, q5, o5, p5⟩ := hW.st (k := 5) (i := (K : Int).toNat) (v := (octv (pg s) (b * 512 + 108) 7)) (by omega) (by omega) (fun z => absurd z (by decide))
  rw [show (eA (mty 5) (mln 5) (va_up (s4.1 5) (K : Int).toNat (octv (pg s) (b * 512 + 108) 7)) : AE) = eA 0 60 (va_up (s4.1 5) (K : Int).toNat (octv (pg s) (b * 512 + 108) 7)) from rfl, hg_hh5] at hW
  rw [Int.toNat_natCast] at q5
  have hM5 : MOK s5 := hM4.of (o5 3 (by decide)) (o5 7 (by decide)) (o5 9 (by decide)) p5
  have hp5 : pg s5 = pg s := (pg_of (o5 12 (by decide)) (by rw [p5])).trans hp4
  have e135 : s5.2 13 = s.2 13 := by rw [p5]; exact e134
  refine g_aload_n rfl rfl ?_
  refine g_get (ci := 8) (kk := 5) rfl rfl hW.ob hW.b0 rfl ?_
  refine g_iload rfl rfl ?_
  refine g_aload_n rfl rfl ?_
  refine g_iload_n rfl rfl ?_
  refine g_sipush (n := 136) rfl (by decide) ?_
  refine g_iadd rfl (by omega) ?_
  refine g_bipush (n := 11) rfl (by decide) ?_
  refine g_V (z := yMd_number) (e := 1) (A := [aI 11, aI ((b * 512) + 136)]) (rest := [aI ((K : Int)), aR (m0 + 6)]) (v := aL (octv (pg s) (b * 512 + 136) 11)) (P := fun h2 => h2 = hh5) rfl rfl rfl rfl rfl rfl (by omega) hW.ob hW.b0 ((by rw [← hp5]; exact m_number (by omega) hM5 hW (b * 512 + 136) 11 (by omega) (by omega) (by omega))) ?_
  intro hh9 he9
  rw [he9]
  clear he9 hh9
  refine g_l2i (v := octv (pg s) (b * 512 + 136) 11) rfl (a32_id (by omega) (by omega)) ?_
  refine g_iast rfl hW.a6 hW.bk (by omega) ?_
  generalize hg_hh6 : hput hh5 (m0 + 6) (eA 0 60 (va_up (s5.1 6) ((K : Int)).toNat (octv (pg s) (b * 512 + 136) 11))) = hh6
  obtain ⟨s6, hW, q6, o6, p6⟩ := hW.st (k := 6) (i := (K : Int).toNat) (v := (octv (pg s) (b * 512 + 136) 11)) (by omega) (by omega) (fun z => absurd z (by decide))
  rw [show (eA (mty 6) (mln 6) (va_up (s5.1 6) (K : Int).toNat (octv (pg s) (b * 512 + 136) 11)) : AE) = eA 0 60 (va_up (s5.1 6) (K : Int).toNat (octv (pg s) (b * 512 + 136) 11)) from rfl, hg_hh6] at hW
  rw [Int.toNat_natCast] at q6
  refine g_aload_n rfl rfl ?_
  refine g_get (ci := 8) (kk := 7) rfl rfl hW.ob hW.b0 rfl ?_
  refine g_iload rfl rfl ?_
  refine g_iload rfl rfl ?_
  refine g_iast rfl hW.a8 hW.bk (by omega) ?_
  generalize hg_hh7 : hput hh6 (m0 + 8) (eA 0 60 (va_up (s6.1 8) ((K : Int)).toNat (-1))) = hh7
  obtain ⟨s7, hW, q8, o8, p8⟩ := hW.st (k := 8) (i := (K : Int).toNat) (v := (-1)) (by omega) (by omega) (fun z => absurd z (by decide))
  rw [show (eA (mty 8) (mln 8) (va_up (s6.1 8) (K : Int).toNat (-1)) : AE) = eA 0 60 (va_up (s6.1 8) (K : Int).toNat (-1)) from rfl, hg_hh7] at hW
  rw [Int.toNat_natCast] at q8
  refine g_aload_n rfl rfl ?_
  refine g_get (ci := 8) (kk := 6) rfl rfl hW.ob hW.b0 rfl ?_
  refine g_iload rfl rfl ?_
  refine g_iload rfl rfl ?_
  refine g_iconst (n := 1) rfl (by decide) ?_
  refine g_icmpne rfl rfl (fun c => ?_) (fun c => absurd c (by decide))
  refine g_iload rfl rfl ?_
  refine g_iconst (n := 2) rfl (by decide) ?_
  refine g_icmpne rfl rfl (fun c => ?_) (fun c => absurd c (by decide))
  refine g_iconst (n := 0) rfl (by decide) ?_
  refine g_iast rfl hW.a7 hW.bk (by omega) ?_
  generalize hg_hh10 : hput hh7 (m0 + 7) (eA 0 60 (va_up (s7.1 7) ((K : Int)).toNat 0)) = hh10
  obtain ⟨s8, hW, q7, o7, p7⟩ := hW.st (k := 7) (i := (K : Int).toNat) (v := 0) (by omega) (by omega) (fun z => absurd z (by decide))
  rw [show (eA (mty 7) (mln 7) (va_up (s7.1 7) (K : Int).toNat 0) : AE) = eA 0 60 (va_up (s7.1 7) (K : Int).toNat 0) from rfl, hg_hh10] at hW
  rw [Int.toNat_natCast] at q7
  refine g_iconst (n := 0) rfl (by decide) ?_
  refine g_istore (L' := [aR m0, aI (b * 512), aI (30 * (u : Int)), w3, aI 53, aI 1, w6, w7, w8, aI (drR (mst s) u (ptR (pg s) (b * 512))), aI (slsR (ptR (pg s) (b * 512)) + 1), aI (ntR (ptR (pg s) (b * 512)) - (slsR (ptR (pg s) (b * 512)) + 1)), aI ((((tx (pg s) (b * 512 + 157) 100) : Nat) : Int)), aI (-1), aL (lnR (pg s) b), none, aI (lnR (pg s) b), aI ((lnR (pg s) b + 512 - 1) / 512), aI ((K : Int)), aI 0, aI 0]) rfl rfl ?_
  refine g_iload rfl rfl ?_
  refine g_aload_n rfl rfl ?_
  refine g_get (ci := 8) (kk := 6) rfl rfl hW.ob hW.b0 rfl ?_
  refine g_iload rfl rfl ?_
  refine g_iald rfl hW.a7 (by omega) ?_
  rw [show (s8.1 7) ((K : Int)).toNat = 0 from by rw [Int.toNat_natCast, q7]; simp [va_up]]
  refine g_icmpge rfl rfl (fun c => ?_) (fun c => absurd c (by decide))
  refine g_iconst (n := 0) rfl (by decide) ?_
  have hbdE : (if kndR (pg s) (b * 512) = 1 ∨ kndR (pg s) (b * 512) = 2 then bdR (pg s) b else []) = [] := by
    rw [if_neg (by omega)]
  have hfin := en_fin (s9 := s8) (sz := 0) (Bd := []) (L := (cps (ptR (pg s) (b * 512)) (slsR (ptR (pg s) (b * 512)) + 1) (ntR (ptR (pg s) (b * 512))))) hu hM hQ hK hc hA (by omega) (by rw [o7 4 (by decide), o8 4 (by decide), o6 4 (by decide), o5 4 (by decide), q4]) (by rw [o7 5 (by decide), o8 5 (by decide), o6 5 (by decide), q5, o4 5 (by decide)]) (by rw [o7 6 (by decide), o8 6 (by decide), q6, o5 6 (by decide), o4 6 (by decide)]) (by rw [o7 8 (by decide), q8, o6 8 (by decide), o5 8 (by decide), o4 8 (by decide)]) (by rw [q7, o8 7 (by decide), o6 7 (by decide), o5 7 (by decide), o4 7 (by decide)]) (fun x _ => by rw [o7 11 (by decide), o8 11 (by decide), o6 11 (by decide), o5 11 (by decide), o4 11 (by decide)]) (fun k k4 k5 k6 k7 k8 k11 => by rw [o7 k (by omega), o8 k (by omega), o6 k (by omega), o5 k (by omega), o4 k (by omega)]) (by rw [p7, p8, p6, p5, p4]) (by omega) rfl (fun j hj => absurd hj (by omega)) hcps (fun j hj => by have z := wy_get s2 (j := (slsR (ptR (pg s) (b * 512)) + 1).toNat + j) (by omega); rw [hwy] at z; unfold cps; rw [oF_get (by omega), z])
  have h269 : s8.2 26 = s.2 26 := by rw [p7, p8, p6, p5, p4, a2]; exact h26
  have hEP : EP s s8 u b (ENv (mst s) u (pg s) b) := by
    refine ⟨h269, fun q => absurd hv0 q, fun _ => ?_⟩
    unfold EN
    rw [← hK, hbdE, hk]
    exact hfin
  exact r_i rfl rfl hv0.symm ⟨s8, hW, hEP⟩
end Md30
