/-! The reference: fill. -/
section Md19
variable {B h : AH} {m0 d t : Nat} {s s' : MS} {c : Int}
def tgw (w : Int) (k : Int) : Prop := ∀ j : Nat, (j : Int) < k → 33 ≤ lb w j ∧ lb w j ≤ 126
theorem tgw_tgt (w : Int) {n : Int} (h0 : 0 ≤ n) : tgt (addl [] w n) ↔ tgw w n := by
  have hl : (addl [] w n).length = n.toNat := (addl_len _ _ _).trans (by simp)
  have hg : ∀ j, j < n.toNat → (addl [] w n).getD j 0 % 256 = lb w j := fun j hj => by
    unfold addl
    rw [oF_get (by rw [List.length_nil]; omega), if_neg (by simp), List.length_nil, Nat.sub_zero, a8_256]
    have := lb_r w j
    omega
  unfold tgt tgw
  constructor
  · intro z j hj
    have y := z j (by omega)
    rw [hg j (by omega)] at y
    exact y
  · intro z j hj
    rw [hg j (by omega)]
    exact z j (by omega)
/-- the loop over the bytes of a target -/
theorem fi_loop {Q : AO → AH → Prop} (w : Int) (hw : r64 w) (node m : Int) (hm : m ≤ 8) (kk : ∀ v5 v7 : Int, v5 = pz (tgw w m) → Go (d + 1) yMd_fill 130 [aR m0, aI node, aL w, none, aI m, aI v5, aI 1, aI v7, none] [] h Q) : ∀ (q k : Nat), (m - k).toNat ≤ q → (k : Int) ≤ m → tgw w k → Go (d + 1) yMd_fill 86 [aR m0, aI node, aL w, none, aI m, aI 1, aI 1, aI (k : Int), none] [] h Q := by
  intro q
  induction q with
  | zero =>
    intro k h1 h2 h3
    obtain rfl : (k : Int) = m := by omega
    refine g_iload rfl rfl ?_
    refine g_iload rfl rfl ?_
    refine g_icmpge rfl rfl (fun c1 => ?_) (fun c => absurd c (by omega))
    exact kk _ _ (pz_t h3).symm
  | succ q ih =>
    intro k h1 h2 h3
    by_cases hk : (k : Int) < m
    · have hl := lb_r w k
      refine g_iload rfl rfl ?_
      refine g_iload rfl rfl ?_
      refine g_icmpge rfl rfl (fun c => absurd c (by omega)) (fun c1 => ?_)
      refine g_iload rfl rfl ?_
      refine g_ifeq rfl rfl (fun c => absurd c (by decide)) (fun c => ?_)
      refine g_iload rfl rfl ?_
      refine g_ifeq rfl rfl (fun c => absurd c (by decide)) (fun c => ?_)
      refine g_lload_n rfl rfl ?_
      refine g_bipush (n := 8) rfl (by decide) ?_
      refine g_iload rfl rfl ?_
      refine g_imul rfl (by omega) ?_
      refine g_lshr (v := w / 2 ^ (8 * k)) rfl (a_lshr8 hw (i := k) (by omega)) ?_
      refine g_ldc2 (v := 255) rfl rfl ?_
      refine g_land (v := lb w k) rfl a_land255 ?_
      refine g_l2i (v := lb w k) rfl (a32_id (by omega) (by omega)) ?_
      refine g_bipush (n := 33) rfl (by decide) ?_
      refine g_bipush (n := 126) rfl (by decide) ?_
      refine g_S (z := yMd_within) (e := 1) (A := [aI 126, aI 33, aI (lb w k)]) (rest := []) (v := aI (pz (33 ≤ lb w k ∧ lb w k ≤ 126))) (P := fun h2 => h2 = h) rfl rfl rfl rfl rfl rfl (by omega) (m_within _ _ _) ?_
      intro hh9 he9
      rw [he9]
      clear he9 hh9
      refine g_istore (L' := [aR m0, aI node, aL w, none, aI m, aI (pz (33 ≤ lb w k ∧ lb w k ≤ 126)), aI 1, aI ((k : Int)), none]) rfl rfl ?_
      refine g_iinc (L' := [aR m0, aI node, aL w, none, aI m, aI (pz (33 ≤ lb w k ∧ lb w k ≤ 126)), aI 1, aI ((k : Int) + 1), none]) rfl rfl (by omega) rfl ?_
      refine g_goto rfl rfl ?_
      by_cases hy : 33 ≤ lb w k ∧ lb w k ≤ 126
      · rw [pz_t hy]
        exact ih (k + 1) (by omega) (by omega) (fun j hj => by
          by_cases e : j = k
          · rw [e]; exact hy
          · exact h3 j (by omega))
      · rw [pz_f hy]
        have hno : ¬ tgw w m := fun z => hy (z k (by omega))
        refine g_iload rfl rfl ?_
        refine g_iload rfl rfl ?_
        refine g_icmpge rfl rfl (fun c1 => ?_) (fun c1 => ?_)
        · skip
          exact kk _ _ (pz_f hno).symm
        · skip
          refine g_iload rfl rfl ?_
          refine g_ifeq rfl rfl (fun c => absurd c (by decide)) (fun c => ?_)
          refine g_iload rfl rfl ?_
          refine g_ifeq rfl rfl (fun c => ?_) (fun c => absurd c (by decide))
          exact kk _ _ (pz_f hno).symm
    · obtain rfl : (k : Int) = m := by omega
      refine g_iload rfl rfl ?_
      refine g_iload rfl rfl ?_
      refine g_icmpge rfl rfl (fun c1 => ?_) (fun c => absurd c (by omega))
      exact kk _ _ (pz_t h3).symm
def fbF (F0 : Nat → Int) (a0 : Nat) (w j : Int) : Nat → Int := fun x => if a0 ≤ x ∧ (x : Int) < a0 + j then a8 (lb w (x - a0)) else F0 x
theorem a8_lb {w : Int} {k : Nat} : a8 (a8 (a32 (w / 2 ^ (8 * k)))) = a8 (lb w k) := by
  rw [a8_of (a8_r _)]
  refine a8_mod ?_
  rw [a32_256]
  unfold lb
  omega
theorem fs_loop {Q : AO → AH → Prop} (s2 : MS) (F0 : Nat → Int) (w : Int) (hw : r64 w) (node m v5 v6 : Int) (hm : m ≤ 8) (K : Nat) (hK : K < 60) (z0 : Int) (hz0 : 0 ≤ z0) (hz : z0 + m ≤ 2000) (h7 : s2.1 7 K = z0) (kk : ∀ (h : AH) (s : MS) (v8 : Int), WM B m0 h s → s.1 11 = fbF F0 (2000 * K + z0.toNat) w m → (∀ k, k ≠ 11 → s.1 k = s2.1 k) → s.2 = s2.2 → Go d yMd_fill 246 [aR m0, aI node, aL w, none, aI m, aI v5, aI v6, aI (K : Int), aI v8] [] h Q) : ∀ (q j : Nat) (h : AH) (s : MS), (j : Int) ≤ m → (m - j).toNat ≤ q → WM B m0 h s → s.1 11 = fbF F0 (2000 * K + z0.toNat) w (j : Int) → (∀ k, k ≠ 11 → s.1 k = s2.1 k) → s.2 = s2.2 → Go d yMd_fill 202 [aR m0, aI node, aL w, none, aI m, aI v5, aI v6, aI (K : Int), aI (j : Int)] [] h Q := by
  intro q
  induction q with
  | zero =>
    intro j h s h1 h2 hW a1 a2 a3
    obtain rfl : (j : Int) = m := by omega
    refine g_iload rfl rfl ?_
    refine g_iload rfl rfl ?_
    refine g_icmpge rfl rfl (fun c1 => ?_) (fun c => absurd c (by omega))
    exact kk _ _ _ hW a1 a2 a3
  | succ q ih =>
    intro j h s h1 h2 hW a1 a2 a3
    by_cases hj : (j : Int) < m
    · have e7 : s.1 7 K = z0 := by rw [a2 7 (by decide)]; exact h7
      have e1 : (2000 * (K : Int) + z0 + (j : Int)).toNat = 2000 * K + z0.toNat + j := by omega
      refine g_iload rfl rfl ?_
      refine g_iload rfl rfl ?_
      refine g_icmpge rfl rfl (fun c => absurd c (by omega)) (fun c1 => ?_)
      refine g_aload_n rfl rfl ?_
      refine g_get (ci := 8) (kk := 10) rfl rfl hW.ob hW.b0 rfl ?_
      refine g_sipush (n := 2000) rfl (by decide) ?_
      refine g_iload rfl rfl ?_
      refine g_imul rfl (by omega) ?_
      refine g_aload_n rfl rfl ?_
      refine g_get (ci := 8) (kk := 6) rfl rfl hW.ob hW.b0 rfl ?_
      refine g_iload rfl rfl ?_
      refine g_iald rfl hW.a7 (by omega) ?_
      rw [show (s.1 7) ((K : Int)).toNat = z0 from e7]
      refine g_iadd rfl (by omega) ?_
      refine g_iload rfl rfl ?_
      refine g_iadd rfl (by omega) ?_
      refine g_lload_n rfl rfl ?_
      refine g_bipush (n := 8) rfl (by decide) ?_
      refine g_iload rfl rfl ?_
      refine g_imul rfl (by omega) ?_
      refine g_lshr (v := w / 2 ^ (8 * j)) rfl (a_lshr8 hw (i := j) (by omega)) ?_
      refine g_l2i (v := a32 (w / 2 ^ (8 * j))) rfl rfl ?_
      refine g_i2b rfl ?_
      refine g_bast rfl hW.a11 hW.bk (by omega) ?_
      generalize hg_hh2 : hput h (m0 + 11) (eA 1 120000 (va_up (s.1 11) (((2000 * ((K : Int))) + z0) + ((j : Int))).toNat (a8 (a8 (a32 (w / 2 ^ (8 * j))))))) = hh2
      obtain ⟨s3, hW, q11, o11, p11⟩ := hW.st (k := 11) (i := (2000 * (K : Int) + z0 + (j : Int)).toNat) (v := a8 (a8 (a32 (w / 2 ^ (8 * j))))) (by omega) (by omega) (fun _ => a8_r _)
      rw [show (eA (mty 11) (mln 11) (va_up (s.1 11) (2000 * (K : Int) + z0 + (j : Int)).toNat (a8 (a8 (a32 (w / 2 ^ (8 * j)))))) : AE) = eA 1 120000 (va_up (s.1 11) (2000 * (K : Int) + z0 + (j : Int)).toNat (a8 (a8 (a32 (w / 2 ^ (8 * j)))))) from rfl, hg_hh2] at hW
      have b1 : s3.1 11 = fbF F0 (2000 * K + z0.toNat) w ((j + 1 : Nat) : Int) := by
        rw [q11, a1, a8_lb, e1]
        funext x
        unfold va_up fbF
        by_cases z : x = 2000 * K + z0.toNat + j
        · rw [if_pos z, if_pos (by omega), show x - (2000 * K + z0.toNat) = j by omega]
        · rw [if_neg z]
          by_cases z2 : 2000 * K + z0.toNat ≤ x ∧ (x : Int) < ((2000 * K + z0.toNat : Nat) : Int) + (j : Int)
          · rw [if_pos z2, if_pos (by omega)]
          · rw [if_neg z2, if_neg (by omega)]
      refine g_iinc (L' := [aR m0, aI node, aL w, none, aI m, aI v5, aI v6, aI ((K : Int)), aI ((j : Int) + 1)]) rfl rfl (by omega) rfl ?_
      refine g_goto rfl rfl ?_
      exact ih (j + 1) _ s3 (by omega) (by omega) hW b1 (fun k hk => (o11 k hk).trans (a2 k hk)) (p11.trans a3)
    · obtain rfl : (j : Int) = m := by omega
      refine g_iload rfl rfl ?_
      refine g_iload rfl rfl ?_
      refine g_icmpge rfl rfl (fun c1 => ?_) (fun c => absurd c (by omega))
      exact kk _ _ _ hW a1 a2 a3
theorem fi_end (hd1 : 1 ≤ d) (ht : t < 2) (hb : s.2 11 = 30 * (t : Int)) (hM : MOK s) (hW : WM B m0 h s) (node w n : Int) (hw : r64 w) (v5 v6 v7 : Int) (h5 : v5 = pz (fiOK (mst s) t node w n)) (h6 : (fiOK (mst s) t node w n) → v6 = if ((mst s).2.1 ((mst s).2.2.1 t node.toNat) 0) = 2 then 1 else 0) : Go d yMd_fill 130 [aR m0, aI node, aL w, none, aI n, aI v5, aI v6, aI v7, none] [] h (RV (some (aI (pk ((fiC (mst s) t node w n) = 0) (fiL (mst s) t node w n).length 0))) (MP B m0 (pkS ((fiC (mst s) t node w n) = 0) (fiF (mst s) t node w n) (mst s)) t (fiC (mst s) t node w n))) := by
  have hcn := hM.2.1 t ht
  have hC : ((mst s).2.2.2.1 t) = (s.1 9 t).toNat := rfl
  by_cases hok : (fiOK (mst s) t node w n)
  · rw [h5, pz_t hok]
    have h6 := h6 hok
    have hh1 := hok.1.1
    have hh2 := hok.1.2
    have hn := hok.2.2.1
    have hk12 := hok.2.1
    obtain ⟨i, rfl⟩ : ∃ i : Nat, node = i := ⟨node.toNat, by omega⟩
    have e1 : (30 * (t : Int) + (i : Int)).toNat = 30 * t + i := by omega
    rw [Int.toNat_natCast] at h6 hk12
    have hm7 := hM.1 (30 * t + i) (by omega)
    have hbd : ((mst s).1 (2 * (mst s).2.2.1 t i + 1)) = bdM s (30 * t + i) := mst_bd s ht (by omega)
    have hbl : (bdM s (30 * t + i)).length = (s.1 7 (30 * t + i)).toNat := oF_len _ _
    have hfl : (fiL (mst s) t (i : Int) w n).length = (s.1 7 (30 * t + i)).toNat + n.toNat := by
      unfold fiL
      rw [addl_len, Int.toNat_natCast, hbd, hbl]
    have e9 : 30 * (t : Int) + (i : Int) = ((30 * t + i : Nat) : Int) := by omega
    by_cases hk : ((mst s).2.1 ((mst s).2.2.1 t i) 0) = 1
    · have hfm : fiM (mst s) t (i : Int) = 2000 := by
        unfold fiM
        rw [Int.toNat_natCast, hk]
        rfl
      rw [hk] at h6
      obtain rfl : v6 = 0 := h6
      have hcE : fiC (mst s) t (i : Int) w n = pk (2000 < s.1 7 (30 * t + i) + n) 2 0 := by
        unfold fiC
        rw [pk_t hok, hfm, Int.toNat_natCast, hbd, hbl, show (((s.1 7 (30 * t + i)).toNat : Nat) : Int) = s.1 7 (30 * t + i) by omega]
      refine g_aload_n rfl rfl ?_
      refine g_iload rfl rfl ?_
      refine g_ifne rfl rfl (fun c => ?_) (fun c => absurd c (by decide))
      refine g_iconst (n := 0) rfl (by decide) ?_
      refine g_iconst (n := 1) rfl (by decide) ?_
      refine g_V (z := yMd_fails) (e := 1) (A := [aI 1, aI 0]) (rest := []) (v := aI 0)  rfl rfl rfl rfl rfl rfl (by omega) hW.ob hW.b0 (m_g hM hW 0 1 (by omega)) ?_
      intro hh2 hq
      obtain ⟨s1, hW, r1_s1, r2_s1, r26_s1, hM_s1, rm_s1⟩ := hq
      refine g_ifeq rfl rfl (fun c => ?_) (fun c => absurd c (by decide))
      refine g_aload_n rfl rfl ?_
      refine g_get (ci := 8) (kk := 11) rfl rfl hW.ob hW.b0 rfl ?_
      rw [show s1.2 11 = 30 * (t : Int) from ((r2_s1 11 (by decide)).trans hb)]
      refine g_iload_n rfl rfl ?_
      refine g_iadd rfl (by omega) ?_
      refine g_istore (L' := [aR m0, aI ((i : Int)), aL w, none, aI n, aI 1, aI 0, aI ((30 * (t : Int)) + ((i : Int))), none]) rfl rfl ?_
      refine g_aload_n rfl rfl ?_
      refine g_aload_n rfl rfl ?_
      refine g_get (ci := 8) (kk := 6) rfl rfl hW.ob hW.b0 rfl ?_
      refine g_iload rfl rfl ?_
      refine g_iald rfl hW.a7 (by omega) ?_
      rw [show (s1.1 7) ((30 * (t : Int)) + ((i : Int))).toNat = s.1 7 (30 * t + i) from by rw [r1_s1, e1]]
      refine g_iload rfl rfl ?_
      refine g_iadd rfl (by omega) ?_
      refine g_iload rfl rfl ?_
      refine g_ifeq rfl rfl (fun c => ?_) (fun c => absurd c (by decide))
      refine g_sipush (n := 2000) rfl (by decide) ?_
      refine g_icmple rfl rfl (fun c5 => ?_) (fun c5 => ?_)
      · skip
        have y7 := c5
        refine g_iconst (n := 0) rfl (by decide) ?_
        refine g_iconst (n := 2) rfl (by decide) ?_
        have hc0 : (fiC (mst s) t (i : Int) w n) = 0 := by
          rw [hcE]
          exact pk_f (by omega)
        refine g_V (z := yMd_fails) (e := 1) (A := [aI 2, aI 0]) (rest := []) (v := aI 0)  rfl rfl rfl rfl rfl rfl (by omega) hW.ob hW.b0 (m_g hM_s1 hW 0 2 (by omega)) ?_
        intro hh6 hq
        obtain ⟨s2, hW, r1_s2, r2_s2, r26_s2, hM_s2, rm_s2⟩ := hq
        refine g_ifeq rfl rfl (fun c => ?_) (fun c => absurd c (by decide))
        rw [e9]
        refine g_iconst (n := 0) rfl (by decide) ?_
        refine g_istore (L' := [aR m0, aI ((i : Int)), aL w, none, aI n, aI 1, aI 0, aI (((30 * t + i : Nat) : Int)), aI 0]) rfl rfl ?_
        refine fs_loop (d := d) (B := B) (m0 := m0) s2 (s.1 11) w hw (i : Int) n 1 0 hn.2 (30 * t + i) (by omega) (s.1 7 (30 * t + i)) hm7.2.2.1 (by omega) (by rw [r1_s2, r1_s1]) (fun h s3 v8 hW f11 fo f2 => ?_) n.toNat 0 _ s2 (by omega) (by omega) hW (by rw [r1_s2, r1_s1]; funext x; unfold fbF; rw [if_neg (by omega)]) (fun _ _ => rfl) rfl
        refine g_aload_n rfl rfl ?_
        refine g_get (ci := 8) (kk := 6) rfl rfl hW.ob hW.b0 rfl ?_
        refine g_iload rfl rfl ?_
        refine g_dup2 rfl rfl rfl ?_
        refine g_iald rfl hW.a7 (by omega) ?_
        rw [show (s3.1 7) (((30 * t + i : Nat) : Int)).toNat = s.1 7 (30 * t + i) from by rw [Int.toNat_natCast, fo 7 (by decide), r1_s2, r1_s1]]
        refine g_iload rfl rfl ?_
        refine g_iadd rfl (by omega) ?_
        refine g_iast rfl hW.a7 hW.bk (by omega) ?_
        generalize hg_hh1 : hput h (m0 + 7) (eA 0 60 (va_up (s3.1 7) (((30 * t + i : Nat) : Int)).toNat ((s.1 7 (30 * t + i)) + n))) = hh1
        obtain ⟨s4, hW, q7, o7, p7⟩ := hW.st (k := 7) (i := ((30 * t + i : Nat) : Int).toNat) (v := s.1 7 (30 * t + i) + n) (by omega) (by omega) (fun z => absurd z (by decide))
        rw [show (eA (mty 7) (mln 7) (va_up (s3.1 7) ((30 * t + i : Nat) : Int).toNat (s.1 7 (30 * t + i) + n)) : AE) = eA 0 60 (va_up (s3.1 7) ((30 * t + i : Nat) : Int).toNat (s.1 7 (30 * t + i) + n)) from rfl, hg_hh1] at hW
        rw [Int.toNat_natCast] at q7
        have f7 : s4.1 7 = va_up (s.1 7) (30 * t + i) (s.1 7 (30 * t + i) + n) := by rw [q7, fo 7 (by decide), r1_s2, r1_s1]
        have hL : (((fiL (mst s) t (i : Int) w n).length : Nat) : Int) = s.1 7 (30 * t + i) + n := by rw [hfl]; omega
        have hse := se_body (s := s) (s' := s4) ht hM (i := i) (by omega) (L := fiL (mst s) t (i : Int) w n) (by omega) (by rw [f7, hL]) (fun x => by
          rw [o7 11 (by decide), f11]
          unfold fbF
          by_cases z : 2000 * (30 * t + i) ≤ x ∧ x < 2000 * (30 * t + i) + (fiL (mst s) t (i : Int) w n).length
          · rw [if_pos z]
            unfold fiL
            rw [Int.toNat_natCast, hbd]
            unfold addl
            rw [oF_get (by omega), hbl]
            by_cases z2 : x - 2000 * (30 * t + i) < (s.1 7 (30 * t + i)).toNat
            · rw [if_pos z2, if_neg (by omega)]
              unfold bdM
              rw [oF_get (by omega)]
              show s.1 11 x = s.1 11 (2000 * (30 * t + i) + (x - 2000 * (30 * t + i)))
              rw [show 2000 * (30 * t + i) + (x - 2000 * (30 * t + i)) = x by omega]
            · rw [if_neg z2, if_pos (by omega)]
              congr 2
              omega
          · rw [if_neg z, if_neg (by omega)]
            split <;> rfl) (fun k k7 k11 => by rw [o7 k k7, fo k k11, r1_s2, r1_s1]) (fun k k26 => by rw [p7, f2]; exact (r2_s2 k k26).trans (r2_s1 k k26))
        refine g_aload_n rfl rfl ?_
        refine g_get (ci := 8) (kk := 6) rfl rfl hW.ob hW.b0 rfl ?_
        refine g_iload rfl rfl ?_
        refine g_iald rfl hW.a7 (by omega) ?_
        rw [show (s4.1 7) (((30 * t + i : Nat) : Int)).toNat = s.1 7 (30 * t + i) + n from by rw [Int.toNat_natCast, f7]; simp [va_up]]
        exact r_i rfl rfl (by rw [pk_t hc0, hL]) (by rw [pkS_t hc0, hc0]; exact mp_of ht (by rw [p7, f2, r2_s2 11 (by decide), r2_s1 11 (by decide)]; exact hb) hse.2 hW (by rw [p7, f2]; exact r26_s2) hse.1)
      · skip
        have y7 := c5
        refine g_iconst (n := 1) rfl (by decide) ?_
        refine g_goto rfl rfl ?_
        refine g_iconst (n := 2) rfl (by decide) ?_
        have hc2 : (fiC (mst s) t (i : Int) w n) = 2 := by
          rw [hcE]
          exact pk_t (by omega)
        have hc0 : ¬ (fiC (mst s) t (i : Int) w n) = 0 := by rw [hc2]; decide
        refine g_V (z := yMd_fails) (e := 1) (A := [aI 2, aI 1]) (rest := []) (v := aI 1)  rfl rfl rfl rfl rfl rfl (by omega) hW.ob hW.b0 (m_g hM_s1 hW 1 2 (by omega)) ?_
        intro hh8 hq
        obtain ⟨s2, hW, r1_s2, r2_s2, r26_s2, hM_s2, rm_s2⟩ := hq
        refine g_ifeq rfl rfl (fun c => absurd c (by decide)) (fun c => ?_)
        refine g_iconst (n := 0) rfl (by decide) ?_
        exact r_i rfl rfl (pk_f hc0).symm (by rw [pkS_f hc0, hc2]; exact mp_eq hb hM_s2 hW ((r2_s2 11 (by decide)).trans (r2_s1 11 (by decide))) r26_s2 (rm_s2.trans rm_s1))
    by_cases hk : ((mst s).2.1 ((mst s).2.2.1 t i) 0) = 2
    · have hfm : fiM (mst s) t (i : Int) = 100 := by
        unfold fiM
        rw [Int.toNat_natCast, hk]
        rfl
      rw [hk] at h6
      obtain rfl : v6 = 1 := h6
      have hcE : fiC (mst s) t (i : Int) w n = pk (100 < s.1 7 (30 * t + i) + n) 2 0 := by
        unfold fiC
        rw [pk_t hok, hfm, Int.toNat_natCast, hbd, hbl, show (((s.1 7 (30 * t + i)).toNat : Nat) : Int) = s.1 7 (30 * t + i) by omega]
      refine g_aload_n rfl rfl ?_
      refine g_iload rfl rfl ?_
      refine g_ifne rfl rfl (fun c => ?_) (fun c => absurd c (by decide))
      refine g_iconst (n := 0) rfl (by decide) ?_
      refine g_iconst (n := 1) rfl (by decide) ?_
      refine g_V (z := yMd_fails) (e := 1) (A := [aI 1, aI 0]) (rest := []) (v := aI 0)  rfl rfl rfl rfl rfl rfl (by omega) hW.ob hW.b0 (m_g hM hW 0 1 (by omega)) ?_
      intro hh2 hq
      obtain ⟨s1, hW, r1_s1, r2_s1, r26_s1, hM_s1, rm_s1⟩ := hq
      refine g_ifeq rfl rfl (fun c => ?_) (fun c => absurd c (by decide))
      refine g_aload_n rfl rfl ?_
      refine g_get (ci := 8) (kk := 11) rfl rfl hW.ob hW.b0 rfl ?_
      rw [show s1.2 11 = 30 * (t : Int) from ((r2_s1 11 (by decide)).trans hb)]
      refine g_iload_n rfl rfl ?_
      refine g_iadd rfl (by omega) ?_
      refine g_istore (L' := [aR m0, aI ((i : Int)), aL w, none, aI n, aI 1, aI 1, aI ((30 * (t : Int)) + ((i : Int))), none]) rfl rfl ?_
      refine g_aload_n rfl rfl ?_
      refine g_aload_n rfl rfl ?_
      refine g_get (ci := 8) (kk := 6) rfl rfl hW.ob hW.b0 rfl ?_
      refine g_iload rfl rfl ?_
      refine g_iald rfl hW.a7 (by omega) ?_
      rw [show (s1.1 7) ((30 * (t : Int)) + ((i : Int))).toNat = s.1 7 (30 * t + i) from by rw [r1_s1, e1]]
      refine g_iload rfl rfl ?_
      refine g_iadd rfl (by omega) ?_
      refine g_iload rfl rfl ?_
      refine g_ifeq rfl rfl (fun c => absurd c (by decide)) (fun c => ?_)
      refine g_bipush (n := 100) rfl (by decide) ?_
      refine g_goto rfl rfl ?_
      refine g_icmple rfl rfl (fun c5 => ?_) (fun c5 => ?_)
      · skip
        have y7 := c5
        refine g_iconst (n := 0) rfl (by decide) ?_
        refine g_iconst (n := 2) rfl (by decide) ?_
        have hc0 : (fiC (mst s) t (i : Int) w n) = 0 := by
          rw [hcE]
          exact pk_f (by omega)
        refine g_V (z := yMd_fails) (e := 1) (A := [aI 2, aI 0]) (rest := []) (v := aI 0)  rfl rfl rfl rfl rfl rfl (by omega) hW.ob hW.b0 (m_g hM_s1 hW 0 2 (by omega)) ?_
        intro hh6 hq
        obtain ⟨s2, hW, r1_s2, r2_s2, r26_s2, hM_s2, rm_s2⟩ := hq
        refine g_ifeq rfl rfl (fun c => ?_) (fun c => absurd c (by decide))
        rw [e9]
        refine g_iconst (n := 0) rfl (by decide) ?_
        refine g_istore (L' := [aR m0, aI ((i : Int)), aL w, none, aI n, aI 1, aI 1, aI (((30 * t + i : Nat) : Int)), aI 0]) rfl rfl ?_
        refine fs_loop (d := d) (B := B) (m0 := m0) s2 (s.1 11) w hw (i : Int) n 1 1 hn.2 (30 * t + i) (by omega) (s.1 7 (30 * t + i)) hm7.2.2.1 (by omega) (by rw [r1_s2, r1_s1]) (fun h s3 v8 hW f11 fo f2 => ?_) n.toNat 0 _ s2 (by omega) (by omega) hW (by rw [r1_s2, r1_s1]; funext x; unfold fbF; rw [if_neg (by omega)]) (fun _ _ => rfl) rfl
        refine g_aload_n rfl rfl ?_
        refine g_get (ci := 8) (kk := 6) rfl rfl hW.ob hW.b0 rfl ?_
        refine g_iload rfl rfl ?_
        refine g_dup2 rfl rfl rfl ?_
        refine g_iald rfl hW.a7 (by omega) ?_
        rw [show (s3.1 7) (((30 * t + i : Nat) : Int)).toNat = s.1 7 (30 * t + i) from by rw [Int.toNat_natCast, fo 7 (by decide), r1_s2, r1_s1]]
        refine g_iload rfl rfl ?_
        refine g_iadd rfl (by omega) ?_
        refine g_iast rfl hW.a7 hW.bk (by omega) ?_
        generalize hg_hh1 : hput h (m0 + 7) (eA 0 60 (va_up (s3.1 7) (((30 * t + i : Nat) : Int)).toNat ((s.1 7 (30 * t + i)) + n))) = hh1
        obtain ⟨s4, hW, q7, o7, p7⟩ := hW.st (k := 7) (i := ((30 * t + i : Nat) : Int).toNat) (v := s.1 7 (30 * t + i) + n) (by omega) (by omega) (fun z => absurd z (by decide))
        rw [show (eA (mty 7) (mln 7) (va_up (s3.1 7) ((30 * t + i : Nat) : Int).toNat (s.1 7 (30 * t + i) + n)) : AE) = eA 0 60 (va_up (s3.1 7) ((30 * t + i : Nat) : Int).toNat (s.1 7 (30 * t + i) + n)) from rfl, hg_hh1] at hW
        rw [Int.toNat_natCast] at q7
        have f7 : s4.1 7 = va_up (s.1 7) (30 * t + i) (s.1 7 (30 * t + i) + n) := by rw [q7, fo 7 (by decide), r1_s2, r1_s1]
        have hL : (((fiL (mst s) t (i : Int) w n).length : Nat) : Int) = s.1 7 (30 * t + i) + n := by rw [hfl]; omega
        have hse := se_body (s := s) (s' := s4) ht hM (i := i) (by omega) (L := fiL (mst s) t (i : Int) w n) (by omega) (by rw [f7, hL]) (fun x => by
          rw [o7 11 (by decide), f11]
          unfold fbF
          by_cases z : 2000 * (30 * t + i) ≤ x ∧ x < 2000 * (30 * t + i) + (fiL (mst s) t (i : Int) w n).length
          · rw [if_pos z]
            unfold fiL
            rw [Int.toNat_natCast, hbd]
            unfold addl
            rw [oF_get (by omega), hbl]
            by_cases z2 : x - 2000 * (30 * t + i) < (s.1 7 (30 * t + i)).toNat
            · rw [if_pos z2, if_neg (by omega)]
              unfold bdM
              rw [oF_get (by omega)]
              show s.1 11 x = s.1 11 (2000 * (30 * t + i) + (x - 2000 * (30 * t + i)))
              rw [show 2000 * (30 * t + i) + (x - 2000 * (30 * t + i)) = x by omega]
            · rw [if_neg z2, if_pos (by omega)]
              congr 2
              omega
          · rw [if_neg z, if_neg (by omega)]
            split <;> rfl) (fun k k7 k11 => by rw [o7 k k7, fo k k11, r1_s2, r1_s1]) (fun k k26 => by rw [p7, f2]; exact (r2_s2 k k26).trans (r2_s1 k k26))
        refine g_aload_n rfl rfl ?_
        refine g_get (ci := 8) (kk := 6) rfl rfl hW.ob hW.b0 rfl ?_
        refine g_iload rfl rfl ?_
        refine g_iald rfl hW.a7 (by omega) ?_
        rw [show (s4.1 7) (((30 * t + i : Nat) : Int)).toNat = s.1 7 (30 * t + i) + n from by rw [Int.toNat_natCast, f7]; simp [va_up]]
        exact r_i rfl rfl (by rw [pk_t hc0, hL]) (by rw [pkS_t hc0, hc0]; exact mp_of ht (by rw [p7, f2, r2_s2 11 (by decide), r2_s1 11 (by decide)]; exact hb) hse.2 hW (by rw [p7, f2]; exact r26_s2) hse.1)
      · skip
        have y7 := c5
        refine g_iconst (n := 1) rfl (by decide) ?_
        refine g_goto rfl rfl ?_
        refine g_iconst (n := 2) rfl (by decide) ?_
        have hc2 : (fiC (mst s) t (i : Int) w n) = 2 := by
          rw [hcE]
          exact pk_t (by omega)
        have hc0 : ¬ (fiC (mst s) t (i : Int) w n) = 0 := by rw [hc2]; decide
        refine g_V (z := yMd_fails) (e := 1) (A := [aI 2, aI 1]) (rest := []) (v := aI 1)  rfl rfl rfl rfl rfl rfl (by omega) hW.ob hW.b0 (m_g hM_s1 hW 1 2 (by omega)) ?_
        intro hh8 hq
        obtain ⟨s2, hW, r1_s2, r2_s2, r26_s2, hM_s2, rm_s2⟩ := hq
        refine g_ifeq rfl rfl (fun c => absurd c (by decide)) (fun c => ?_)
        refine g_iconst (n := 0) rfl (by decide) ?_
        exact r_i rfl rfl (pk_f hc0).symm (by rw [pkS_f hc0, hc2]; exact mp_eq hb hM_s2 hW ((r2_s2 11 (by decide)).trans (r2_s1 11 (by decide))) r26_s2 (rm_s2.trans rm_s1))
    omega
  · rw [h5, pz_f hok]
    have hc1 : (fiC (mst s) t node w n) = 1 := pk_f hok
    have hc0 : ¬ (fiC (mst s) t node w n) = 0 := by rw [hc1]; decide
    refine g_aload_n rfl rfl ?_
    refine g_iload rfl rfl ?_
    refine g_ifne rfl rfl (fun c => absurd c (by decide)) (fun c => ?_)
    refine g_iconst (n := 1) rfl (by decide) ?_
    refine g_goto rfl rfl ?_
    refine g_iconst (n := 1) rfl (by decide) ?_
    refine g_V (z := yMd_fails) (e := 1) (A := [aI 1, aI 1]) (rest := []) (v := aI 1)  rfl rfl rfl rfl rfl rfl (by omega) hW.ob hW.b0 (m_g hM hW 1 1 (by omega)) ?_
    intro hh2 hq
    obtain ⟨s1, hW, r1_s1, r2_s1, r26_s1, hM_s1, rm_s1⟩ := hq
    refine g_ifeq rfl rfl (fun c => absurd c (by decide)) (fun c => ?_)
    refine g_iconst (n := 0) rfl (by decide) ?_
    exact r_i rfl rfl (pk_f hc0).symm (by rw [pkS_f hc0, hc1]; exact mp_eq hb hM_s1 hW (r2_s1 11 (by decide)) r26_s1 rm_s1)
theorem m_fill (hd2 : 2 ≤ d) (ht : t < 2) (hb : s.2 11 = 30 * (t : Int)) (hM : MOK s) (hW : WM B m0 h s) (node w n : Int) (hw : r64 w) : Cal d yMd_fill [aR m0, aI node, aL w, aI n] h (RV (some (aI (pk ((fiC (mst s) t node w n) = 0) (fiL (mst s) t node w n).length 0))) (MP B m0 (pkS ((fiC (mst s) t node w n) = 0) (fiF (mst s) t node w n) (mst s)) t (fiC (mst s) t node w n))) := by
  have hcn := hM.2.1 t ht
  have hC : ((mst s).2.2.2.1 t) = (s.1 9 t).toNat := rfl
  obtain ⟨d, rfl⟩ : ∃ d' : Nat, d = d' + 1 := ⟨d - 1, by omega⟩
  show Go _ _ 0 [aR m0, aI node, aL w, none, aI n, none, none, none, none] [] _ _
  refine g_aload_n rfl rfl ?_
  refine g_iload_n rfl rfl ?_
  refine g_V (z := yMd_isNode) (e := 1) (A := [aI node]) (rest := []) (v := aI (pz (hs (mst s) t node))) (P := fun h2 => h2 = h) rfl rfl rfl rfl rfl rfl (by omega) hW.ob hW.b0 (m_isNode2 (by omega) ht hb hM hW _) ?_
  intro hh9 he9
  rw [he9]
  clear he9 hh9
  refine g_ifeq rfl rfl (fun c1 => ?_) (fun c1 => ?_)
  · skip
    have y1 := c1
    refine g_iconst (n := 0) rfl (by decide) ?_
    refine g_istore (L' := [aR m0, aI node, aL w, none, aI n, aI 0, none, none, none]) rfl rfl ?_
    refine g_iload rfl rfl ?_
    refine g_ifeq rfl rfl (fun c => ?_) (fun c => absurd c (by decide))
    refine g_iconst (n := 0) rfl (by decide) ?_
    refine g_istore (L' := [aR m0, aI node, aL w, none, aI n, aI 0, aI 0, none, none]) rfl rfl ?_
    refine g_iconst (n := 0) rfl (by decide) ?_
    refine g_istore (L' := [aR m0, aI node, aL w, none, aI n, aI 0, aI 0, aI 0, none]) rfl rfl ?_
    refine g_iload rfl rfl ?_
    refine g_iload rfl rfl ?_
    refine g_icmpge rfl rfl (fun c1 => ?_) (fun c1 => ?_)
    · skip
      exact fi_end (by omega) ht hb hM hW node w n hw 0 0 0 (pz_f (fun q => by first | exact pz_eq y1 q.1 | exact pz_eq y3 q.2.2.1 | (have := q.2.1; have e : ((mst s).2.1 ((mst s).2.2.1 t node.toNat) 0) = s.1 1 (30 * t + node.toNat) := rfl; omega))).symm (fun q => absurd q (fun q => by first | exact pz_eq y1 q.1 | exact pz_eq y3 q.2.2.1 | (have := q.2.1; have e : ((mst s).2.1 ((mst s).2.2.1 t node.toNat) 0) = s.1 1 (30 * t + node.toNat) := rfl; omega)))
    · skip
      refine g_iload rfl rfl ?_
      refine g_ifeq rfl rfl (fun c => ?_) (fun c => absurd c (by decide))
      exact fi_end (by omega) ht hb hM hW node w n hw 0 0 0 (pz_f (fun q => by first | exact pz_eq y1 q.1 | exact pz_eq y3 q.2.2.1 | (have := q.2.1; have e : ((mst s).2.1 ((mst s).2.2.1 t node.toNat) 0) = s.1 1 (30 * t + node.toNat) := rfl; omega))).symm (fun q => absurd q (fun q => by first | exact pz_eq y1 q.1 | exact pz_eq y3 q.2.2.1 | (have := q.2.1; have e : ((mst s).2.1 ((mst s).2.2.1 t node.toNat) 0) = s.1 1 (30 * t + node.toNat) := rfl; omega)))
  · skip
    have y1 := c1
    have z1 := pz_ne y1
    have z1a := z1.1
    have z1b := z1.2
    refine g_aload_n rfl rfl ?_
    refine g_get (ci := 8) (kk := 0) rfl rfl hW.ob hW.b0 rfl ?_
    refine g_aload_n rfl rfl ?_
    refine g_get (ci := 8) (kk := 11) rfl rfl hW.ob hW.b0 rfl ?_
    rw [show s.2 11 = 30 * (t : Int) from hb]
    refine g_iload_n rfl rfl ?_
    refine g_iadd rfl (by omega) ?_
    refine g_iald rfl hW.a1 (by omega) ?_
    rw [show (s.1 1) ((30 * (t : Int)) + node).toNat = s.1 1 (30 * t + node.toNat) from by rw [show (30 * (t : Int) + node).toNat = 30 * t + node.toNat by omega]]
    refine g_iconst (n := 1) rfl (by decide) ?_
    refine g_icmpeq rfl rfl (fun c3 => ?_) (fun c3 => ?_)
    · skip
      have y2 := c3
      refine g_iload rfl rfl ?_
      refine g_iconst (n := 0) rfl (by decide) ?_
      refine g_bipush (n := 8) rfl (by decide) ?_
      refine g_S (z := yMd_within) (e := 1) (A := [aI 8, aI 0, aI n]) (rest := []) (v := aI (pz (0 ≤ n ∧ n ≤ 8))) (P := fun h2 => h2 = h) rfl rfl rfl rfl rfl rfl (by omega) (m_within _ _ _) ?_
      intro hh9 he9
      rw [he9]
      clear he9 hh9
      refine g_ifeq rfl rfl (fun c4 => ?_) (fun c4 => ?_)
      · skip
        have y3 := c4
        refine g_iconst (n := 0) rfl (by decide) ?_
        refine g_istore (L' := [aR m0, aI node, aL w, none, aI n, aI 0, none, none, none]) rfl rfl ?_
        refine g_iload rfl rfl ?_
        refine g_ifeq rfl rfl (fun c => ?_) (fun c => absurd c (by decide))
        refine g_iconst (n := 0) rfl (by decide) ?_
        refine g_istore (L' := [aR m0, aI node, aL w, none, aI n, aI 0, aI 0, none, none]) rfl rfl ?_
        refine g_iconst (n := 0) rfl (by decide) ?_
        refine g_istore (L' := [aR m0, aI node, aL w, none, aI n, aI 0, aI 0, aI 0, none]) rfl rfl ?_
        refine g_iload rfl rfl ?_
        refine g_iload rfl rfl ?_
        refine g_icmpge rfl rfl (fun c1 => ?_) (fun c1 => ?_)
        · skip
          exact fi_end (by omega) ht hb hM hW node w n hw 0 0 0 (pz_f (fun q => by first | exact pz_eq y1 q.1 | exact pz_eq y3 q.2.2.1 | (have := q.2.1; have e : ((mst s).2.1 ((mst s).2.2.1 t node.toNat) 0) = s.1 1 (30 * t + node.toNat) := rfl; omega))).symm (fun q => absurd q (fun q => by first | exact pz_eq y1 q.1 | exact pz_eq y3 q.2.2.1 | (have := q.2.1; have e : ((mst s).2.1 ((mst s).2.2.1 t node.toNat) 0) = s.1 1 (30 * t + node.toNat) := rfl; omega)))
        · skip
          refine g_iload rfl rfl ?_
          refine g_ifeq rfl rfl (fun c => ?_) (fun c => absurd c (by decide))
          exact fi_end (by omega) ht hb hM hW node w n hw 0 0 0 (pz_f (fun q => by first | exact pz_eq y1 q.1 | exact pz_eq y3 q.2.2.1 | (have := q.2.1; have e : ((mst s).2.1 ((mst s).2.2.1 t node.toNat) 0) = s.1 1 (30 * t + node.toNat) := rfl; omega))).symm (fun q => absurd q (fun q => by first | exact pz_eq y1 q.1 | exact pz_eq y3 q.2.2.1 | (have := q.2.1; have e : ((mst s).2.1 ((mst s).2.2.1 t node.toNat) 0) = s.1 1 (30 * t + node.toNat) := rfl; omega)))
      · skip
        have y3 := c4
        refine g_iconst (n := 1) rfl (by decide) ?_
        refine g_goto rfl rfl ?_
        refine g_istore (L' := [aR m0, aI node, aL w, none, aI n, aI 1, none, none, none]) rfl rfl ?_
        refine g_iload rfl rfl ?_
        refine g_ifeq rfl rfl (fun c => absurd c (by decide)) (fun c => ?_)
        refine g_aload_n rfl rfl ?_
        refine g_get (ci := 8) (kk := 0) rfl rfl hW.ob hW.b0 rfl ?_
        refine g_aload_n rfl rfl ?_
        refine g_get (ci := 8) (kk := 11) rfl rfl hW.ob hW.b0 rfl ?_
        rw [show s.2 11 = 30 * (t : Int) from hb]
        refine g_iload_n rfl rfl ?_
        refine g_iadd rfl (by omega) ?_
        refine g_iald rfl hW.a1 (by omega) ?_
        rw [show (s.1 1) ((30 * (t : Int)) + node).toNat = s.1 1 (30 * t + node.toNat) from by rw [show (30 * (t : Int) + node).toNat = 30 * t + node.toNat by omega]]
        refine g_iconst (n := 2) rfl (by decide) ?_
        refine g_icmpne rfl rfl (fun c7 => ?_) (fun c7 => ?_)
        · skip
          have y5 := c7
          refine g_iconst (n := 0) rfl (by decide) ?_
          refine g_istore (L' := [aR m0, aI node, aL w, none, aI n, aI 1, aI 0, none, none]) rfl rfl ?_
          refine g_iconst (n := 0) rfl (by decide) ?_
          refine g_istore (L' := [aR m0, aI node, aL w, none, aI n, aI 1, aI 0, aI 0, none]) rfl rfl ?_
          refine g_iload rfl rfl ?_
          refine g_iload rfl rfl ?_
          refine g_icmpge rfl rfl (fun c1 => ?_) (fun c1 => ?_)
          · skip
            first | exact absurd y4 y5 | exact fi_end (by omega) ht hb hM hW node w n hw 1 0 0 (pz_t ⟨pz_ne y1, Or.inl y2, pz_ne y3, fun q => by rw [show ((mst s).2.1 ((mst s).2.2.1 t node.toNat) 0) = 1 from y2] at q; exact absurd q (by decide)⟩).symm (fun _ => by rw [show ((mst s).2.1 ((mst s).2.2.1 t node.toNat) 0) = 1 from y2]; rfl)
          · skip
            refine g_iload rfl rfl ?_
            refine g_ifeq rfl rfl (fun c => ?_) (fun c => absurd c (by decide))
            first | exact absurd y4 y5 | exact fi_end (by omega) ht hb hM hW node w n hw 1 0 0 (pz_t ⟨pz_ne y1, Or.inl y2, pz_ne y3, fun q => by rw [show ((mst s).2.1 ((mst s).2.2.1 t node.toNat) 0) = 1 from y2] at q; exact absurd q (by decide)⟩).symm (fun _ => by rw [show ((mst s).2.1 ((mst s).2.2.1 t node.toNat) 0) = 1 from y2]; rfl)
        · skip
          have y5 := c7
          refine g_iconst (n := 1) rfl (by decide) ?_
          refine g_goto rfl rfl ?_
          refine g_istore (L' := [aR m0, aI node, aL w, none, aI n, aI 1, aI 1, none, none]) rfl rfl ?_
          refine g_iconst (n := 0) rfl (by decide) ?_
          refine g_istore (L' := [aR m0, aI node, aL w, none, aI n, aI 1, aI 1, aI 0, none]) rfl rfl ?_
          have hy2 : ((mst s).2.1 ((mst s).2.2.1 t node.toNat) 0) = 2 := y5
          exact fi_loop w hw node n (pz_ne y3).2 (fun v5 v7 e5 => fi_end (by omega) ht hb hM hW node w n hw v5 1 v7 (e5.trans (by rw [← propext (tgw_tgt w (pz_ne y3).1)]; exact congrArg pz (propext ⟨fun q => ⟨pz_ne y1, Or.inr hy2, pz_ne y3, fun _ => q⟩, fun q => q.2.2.2 hy2⟩))) (fun _ => by rw [hy2]; rfl)) n.toNat 0 (by omega) (pz_ne y3).1 (fun j hj => absurd hj (by omega))
    · skip
      have y2 := c3
      refine g_aload_n rfl rfl ?_
      refine g_get (ci := 8) (kk := 0) rfl rfl hW.ob hW.b0 rfl ?_
      refine g_aload_n rfl rfl ?_
      refine g_get (ci := 8) (kk := 11) rfl rfl hW.ob hW.b0 rfl ?_
      rw [show s.2 11 = 30 * (t : Int) from hb]
      refine g_iload_n rfl rfl ?_
      refine g_iadd rfl (by omega) ?_
      refine g_iald rfl hW.a1 (by omega) ?_
      rw [show (s.1 1) ((30 * (t : Int)) + node).toNat = s.1 1 (30 * t + node.toNat) from by rw [show (30 * (t : Int) + node).toNat = 30 * t + node.toNat by omega]]
      refine g_iconst (n := 2) rfl (by decide) ?_
      refine g_icmpne rfl rfl (fun c8 => ?_) (fun c8 => ?_)
      · skip
        have y4 := c8
        refine g_iconst (n := 0) rfl (by decide) ?_
        refine g_istore (L' := [aR m0, aI node, aL w, none, aI n, aI 0, none, none, none]) rfl rfl ?_
        refine g_iload rfl rfl ?_
        refine g_ifeq rfl rfl (fun c => ?_) (fun c => absurd c (by decide))
        refine g_iconst (n := 0) rfl (by decide) ?_
        refine g_istore (L' := [aR m0, aI node, aL w, none, aI n, aI 0, aI 0, none, none]) rfl rfl ?_
        refine g_iconst (n := 0) rfl (by decide) ?_
        refine g_istore (L' := [aR m0, aI node, aL w, none, aI n, aI 0, aI 0, aI 0, none]) rfl rfl ?_
        refine g_iload rfl rfl ?_
        refine g_iload rfl rfl ?_
        refine g_icmpge rfl rfl (fun c1 => ?_) (fun c1 => ?_)
        · skip
          exact fi_end (by omega) ht hb hM hW node w n hw 0 0 0 (pz_f (fun q => by first | exact pz_eq y1 q.1 | exact pz_eq y3 q.2.2.1 | (have := q.2.1; have e : ((mst s).2.1 ((mst s).2.2.1 t node.toNat) 0) = s.1 1 (30 * t + node.toNat) := rfl; omega))).symm (fun q => absurd q (fun q => by first | exact pz_eq y1 q.1 | exact pz_eq y3 q.2.2.1 | (have := q.2.1; have e : ((mst s).2.1 ((mst s).2.2.1 t node.toNat) 0) = s.1 1 (30 * t + node.toNat) := rfl; omega)))
        · skip
          refine g_iload rfl rfl ?_
          refine g_ifeq rfl rfl (fun c => ?_) (fun c => absurd c (by decide))
          exact fi_end (by omega) ht hb hM hW node w n hw 0 0 0 (pz_f (fun q => by first | exact pz_eq y1 q.1 | exact pz_eq y3 q.2.2.1 | (have := q.2.1; have e : ((mst s).2.1 ((mst s).2.2.1 t node.toNat) 0) = s.1 1 (30 * t + node.toNat) := rfl; omega))).symm (fun q => absurd q (fun q => by first | exact pz_eq y1 q.1 | exact pz_eq y3 q.2.2.1 | (have := q.2.1; have e : ((mst s).2.1 ((mst s).2.2.1 t node.toNat) 0) = s.1 1 (30 * t + node.toNat) := rfl; omega)))
      · skip
        have y4 := c8
        refine g_iload rfl rfl ?_
        refine g_iconst (n := 0) rfl (by decide) ?_
        refine g_bipush (n := 8) rfl (by decide) ?_
        refine g_S (z := yMd_within) (e := 1) (A := [aI 8, aI 0, aI n]) (rest := []) (v := aI (pz (0 ≤ n ∧ n ≤ 8))) (P := fun h2 => h2 = h) rfl rfl rfl rfl rfl rfl (by omega) (m_within _ _ _) ?_
        intro hh9 he9
        rw [he9]
        clear he9 hh9
        refine g_ifeq rfl rfl (fun c10 => ?_) (fun c10 => ?_)
        · skip
          have y3 := c10
          refine g_iconst (n := 0) rfl (by decide) ?_
          refine g_istore (L' := [aR m0, aI node, aL w, none, aI n, aI 0, none, none, none]) rfl rfl ?_
          refine g_iload rfl rfl ?_
          refine g_ifeq rfl rfl (fun c => ?_) (fun c => absurd c (by decide))
          refine g_iconst (n := 0) rfl (by decide) ?_
          refine g_istore (L' := [aR m0, aI node, aL w, none, aI n, aI 0, aI 0, none, none]) rfl rfl ?_
          refine g_iconst (n := 0) rfl (by decide) ?_
          refine g_istore (L' := [aR m0, aI node, aL w, none, aI n, aI 0, aI 0, aI 0, none]) rfl rfl ?_
          refine g_iload rfl rfl ?_
          refine g_iload rfl rfl ?_
          refine g_icmpge rfl rfl (fun c1 => ?_) (fun c1 => ?_)
          · skip
            exact fi_end (by omega) ht hb hM hW node w n hw 0 0 0 (pz_f (fun q => by first | exact pz_eq y1 q.1 | exact pz_eq y3 q.2.2.1 | (have := q.2.1; have e : ((mst s).2.1 ((mst s).2.2.1 t node.toNat) 0) = s.1 1 (30 * t + node.toNat) := rfl; omega))).symm (fun q => absurd q (fun q => by first | exact pz_eq y1 q.1 | exact pz_eq y3 q.2.2.1 | (have := q.2.1; have e : ((mst s).2.1 ((mst s).2.2.1 t node.toNat) 0) = s.1 1 (30 * t + node.toNat) := rfl; omega)))
          · skip
            refine g_iload rfl rfl ?_
            refine g_ifeq rfl rfl (fun c => ?_) (fun c => absurd c (by decide))
            exact fi_end (by omega) ht hb hM hW node w n hw 0 0 0 (pz_f (fun q => by first | exact pz_eq y1 q.1 | exact pz_eq y3 q.2.2.1 | (have := q.2.1; have e : ((mst s).2.1 ((mst s).2.2.1 t node.toNat) 0) = s.1 1 (30 * t + node.toNat) := rfl; omega))).symm (fun q => absurd q (fun q => by first | exact pz_eq y1 q.1 | exact pz_eq y3 q.2.2.1 | (have := q.2.1; have e : ((mst s).2.1 ((mst s).2.2.1 t node.toNat) 0) = s.1 1 (30 * t + node.toNat) := rfl; omega)))
        · skip
          have y3 := c10
          refine g_iconst (n := 1) rfl (by decide) ?_
          refine g_goto rfl rfl ?_
          refine g_istore (L' := [aR m0, aI node, aL w, none, aI n, aI 1, none, none, none]) rfl rfl ?_
          refine g_iload rfl rfl ?_
          refine g_ifeq rfl rfl (fun c => absurd c (by decide)) (fun c => ?_)
          refine g_aload_n rfl rfl ?_
          refine g_get (ci := 8) (kk := 0) rfl rfl hW.ob hW.b0 rfl ?_
          refine g_aload_n rfl rfl ?_
          refine g_get (ci := 8) (kk := 11) rfl rfl hW.ob hW.b0 rfl ?_
          rw [show s.2 11 = 30 * (t : Int) from hb]
          refine g_iload_n rfl rfl ?_
          refine g_iadd rfl (by omega) ?_
          refine g_iald rfl hW.a1 (by omega) ?_
          rw [show (s.1 1) ((30 * (t : Int)) + node).toNat = s.1 1 (30 * t + node.toNat) from by rw [show (30 * (t : Int) + node).toNat = 30 * t + node.toNat by omega]]
          refine g_iconst (n := 2) rfl (by decide) ?_
          refine g_icmpne rfl rfl (fun c13 => ?_) (fun c13 => ?_)
          · skip
            have y5 := c13
            refine g_iconst (n := 0) rfl (by decide) ?_
            refine g_istore (L' := [aR m0, aI node, aL w, none, aI n, aI 1, aI 0, none, none]) rfl rfl ?_
            refine g_iconst (n := 0) rfl (by decide) ?_
            refine g_istore (L' := [aR m0, aI node, aL w, none, aI n, aI 1, aI 0, aI 0, none]) rfl rfl ?_
            refine g_iload rfl rfl ?_
            refine g_iload rfl rfl ?_
            refine g_icmpge rfl rfl (fun c1 => ?_) (fun c1 => ?_)
            · skip
              first | exact absurd y4 y5 | exact fi_end (by omega) ht hb hM hW node w n hw 1 0 0 (pz_t ⟨pz_ne y1, Or.inl y2, pz_ne y3, fun q => by rw [show ((mst s).2.1 ((mst s).2.2.1 t node.toNat) 0) = 1 from y2] at q; exact absurd q (by decide)⟩).symm (fun _ => by rw [show ((mst s).2.1 ((mst s).2.2.1 t node.toNat) 0) = 1 from y2]; rfl)
            · skip
              refine g_iload rfl rfl ?_
              refine g_ifeq rfl rfl (fun c => ?_) (fun c => absurd c (by decide))
              first | exact absurd y4 y5 | exact fi_end (by omega) ht hb hM hW node w n hw 1 0 0 (pz_t ⟨pz_ne y1, Or.inl y2, pz_ne y3, fun q => by rw [show ((mst s).2.1 ((mst s).2.2.1 t node.toNat) 0) = 1 from y2] at q; exact absurd q (by decide)⟩).symm (fun _ => by rw [show ((mst s).2.1 ((mst s).2.2.1 t node.toNat) 0) = 1 from y2]; rfl)
          · skip
            have y5 := c13
            refine g_iconst (n := 1) rfl (by decide) ?_
            refine g_goto rfl rfl ?_
            refine g_istore (L' := [aR m0, aI node, aL w, none, aI n, aI 1, aI 1, none, none]) rfl rfl ?_
            refine g_iconst (n := 0) rfl (by decide) ?_
            refine g_istore (L' := [aR m0, aI node, aL w, none, aI n, aI 1, aI 1, aI 0, none]) rfl rfl ?_
            have hy2 : ((mst s).2.1 ((mst s).2.2.1 t node.toNat) 0) = 2 := y5
            exact fi_loop w hw node n (pz_ne y3).2 (fun v5 v7 e5 => fi_end (by omega) ht hb hM hW node w n hw v5 1 v7 (e5.trans (by rw [← propext (tgw_tgt w (pz_ne y3).1)]; exact congrArg pz (propext ⟨fun q => ⟨pz_ne y1, Or.inr hy2, pz_ne y3, fun _ => q⟩, fun q => q.2.2.2 hy2⟩))) (fun _ => by rw [hy2]; rfl)) n.toNat 0 (by omega) (pz_ne y3).1 (fun j hj => absurd hj (by omega))
end Md19
