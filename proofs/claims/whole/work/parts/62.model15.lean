/-! The reference: size, node, part, total. -/
section Md15
variable {B h : AH} {m0 d t : Nat} {s s' : MS} {P W C : Nat → Int} {n : Int} {l : List Int} {c : Int}
theorem sz_loop {Q : AO → AH → Prop} (ps m : Int) (P0 : Nat → Int) (h0 : 0 ≤ ps) (hm : m ≤ 10240) (kk : ∀ (h : AH) (P' : Nat → Int) (v : Int), WM B m0 h (xF s P' W n C) → (∀ j : Nat, (j : Int) < m → P' j = if (j : Int) < ps then P0 j else 0) → Go d yMd_size 48 [aR m0, aI m, aI v] [] h Q) : ∀ (q : Nat) (i : Int) (h : AH) (P : Nat → Int), ps ≤ i → (m - i).toNat ≤ q → WM B m0 h (xF s P W n C) → (∀ j : Nat, (j : Int) < i → P j = if (j : Int) < ps then P0 j else 0) → Go d yMd_size 30 [aR m0, aI m, aI i] [] h Q := by
  intro q
  induction q with
  | zero =>
    intro i h P a1 a2 hW hP
    refine g_iload_n rfl rfl ?_
    refine g_iload_n rfl rfl ?_
    refine g_icmpge rfl rfl (fun c1 => ?_) (fun c => absurd c (by omega))
    exact kk _ _ _ hW (fun j hj => hP j (by omega))
  | succ q ih =>
    intro i h P a1 a2 hW hP
    by_cases hi : i < m
    · skip
      refine g_iload_n rfl rfl ?_
      refine g_iload_n rfl rfl ?_
      refine g_icmpge rfl rfl (fun c => absurd c (by omega)) (fun c1 => ?_)
      refine g_aload_n rfl rfl ?_
      refine g_get (ci := 8) (kk := 12) rfl rfl (xF_ob hW) hW.b0 rfl ?_
      refine g_iload_n rfl rfl ?_
      refine g_iconst (n := 0) rfl (by decide) ?_
      refine g_bast rfl (xF_a12 hW) hW.bk (by omega) ?_
      generalize hg_hh2 : hput h (m0 + 12) (eA 1 10240 (va_up P (i).toNat (a8 0))) = hh2
      have hW := xF_12 hW i.toNat (a8_r 0)
      rw [hg_hh2, a8_id (x := 0) (by omega) (by omega)] at hW
      refine g_iinc (L' := [aR m0, aI m, aI (i + 1)]) rfl rfl (by omega) rfl ?_
      refine g_goto rfl rfl ?_
      exact ih (i + 1) _ _ (by omega) (by omega) hW (fun j hj => by
        unfold va_up
        by_cases e : j = i.toNat
        · rw [if_pos e, if_neg (by omega)]
        · rw [if_neg e]
          exact hP j (by omega))
    · skip
      refine g_iload_n rfl rfl ?_
      refine g_iload_n rfl rfl ?_
      refine g_icmpge rfl rfl (fun c1 => ?_) (fun c => absurd c (by omega))
      exact kk _ _ _ hW (fun j hj => hP j (by omega))
theorem m_size (hd1 : 1 ≤ d) (ht : t < 2) (hb : s.2 11 = 30 * (t : Int)) (hM : MOK s) (hW : WM B m0 h s) (m : Int) : Cal d yMd_size [aR m0, aI m] h (RV none (MP B m0 (pkS (0 ≤ m ∧ m ≤ 10240) (uR (mst s) 121 (rsz (pg s) m)) (mst s)) t (pk (0 ≤ m ∧ m ≤ 10240) 0 1))) := by
  have hmm := hM.2.2.2
  have hl := pg_len s
  show Go _ _ 0 [aR m0, aI m, none] [] _ _
  refine g_aload_n rfl rfl ?_
  refine g_iload_n rfl rfl ?_
  refine g_iconst (n := 0) rfl (by decide) ?_
  refine g_sipush (n := 10240) rfl (by decide) ?_
  refine g_S (z := yMd_within) (e := 1) (A := [aI 10240, aI 0, aI m]) (rest := [aR m0]) (v := aI (pz (0 ≤ m ∧ m ≤ 10240))) (P := fun h2 => h2 = h) rfl rfl rfl rfl rfl rfl (by omega) (m_within _ _ _) ?_
  intro hh9 he9
  rw [he9]
  clear he9 hh9
  refine g_ifne rfl rfl (fun c1 => ?_) (fun c1 => ?_)
  · skip
    have y1 := c1
    refine g_iconst (n := 0) rfl (by decide) ?_
    refine g_iconst (n := 1) rfl (by decide) ?_
    have hyes : (0 ≤ m ∧ m ≤ 10240) := pz_ne y1
    refine g_V (z := yMd_fails) (e := 1) (A := [aI 1, aI 0]) (rest := []) (v := aI 0)  rfl rfl rfl rfl rfl rfl (by omega) hW.ob hW.b0 (m_f hM hW 0 (by omega)) ?_
    intro hh2 hq
    obtain ⟨s1, hW, r1, r2, r26, hM1, rm⟩ := hq
    have r13 := r2 13 (by decide)
    have r11 := r2 11 (by decide)
    have r14 := r2 14 (by decide)
    refine g_ifeq rfl rfl (fun c => ?_) (fun c => absurd c (by decide))
    refine g_aload_n rfl rfl ?_
    refine g_get (ci := 8) (kk := 13) rfl rfl (xF_ob hW) hW.b0 rfl ?_
    refine g_istore_n (L' := [aR m0, aI m, aI (s1.2 13)]) rfl rfl ?_
    refine sz_loop (d := d) (Q := RV none (MP B m0 (pkS (0 ≤ m ∧ m ≤ 10240) (uR (mst s) 121 (rsz (pg s) m)) (mst s)) t (pk (0 ≤ m ∧ m ≤ 10240) 0 1))) (s1.2 13) m (s.1 12) (by omega) hyes.2 (fun h P1 v hW hP1 => ?_) (m - s1.2 13).toNat (s1.2 13) _ (s.1 12) (by omega) (by omega) hW (fun j hj => by rw [if_pos hj])
    refine g_aload_n rfl rfl ?_
    refine g_iload_n rfl rfl ?_
    refine g_put (ci := 8) (kk := 13) (fs' := [aR (m0 + 1), aR (m0 + 2), aR (m0 + 3), aR (m0 + 4), aR (m0 + 5), aR (m0 + 6), aR (m0 + 7), aR (m0 + 8), aR (m0 + 9), aR (m0 + 10), aR (m0 + 11), aI (s1.2 11), aR (m0 + 12), aI m, aI (s1.2 14), aR (m0 + 13), aI (s.2 16), aI (s1.2 17), aI (s1.2 18), aR (m0 + 14), aR (m0 + 15), aR (m0 + 16), aR (m0 + 17), aR (m0 + 18), aR (m0 + 19), aR (m0 + 20), aI (s1.2 26)]) rfl rfl (xF_ob hW) hW.b0 (Nat.le_of_ble_eq_true rfl) rfl (by decide) rfl ?_
    generalize hg_hh1 : hput h m0 (eO 8 [aR (m0 + 1), aR (m0 + 2), aR (m0 + 3), aR (m0 + 4), aR (m0 + 5), aR (m0 + 6), aR (m0 + 7), aR (m0 + 8), aR (m0 + 9), aR (m0 + 10), aR (m0 + 11), aI (s1.2 11), aR (m0 + 12), aI m, aI (s1.2 14), aR (m0 + 13), aI (s.2 16), aI (s1.2 17), aI (s1.2 18), aR (m0 + 14), aR (m0 + 15), aR (m0 + 16), aR (m0 + 17), aR (m0 + 18), aR (m0 + 19), aR (m0 + 20), aI (s1.2 26)]) = hh1
    have hW := hW.setI (k := 13) (v := m) rfl
    rw [xF_I 13 (by decide)] at hW
    have hW : WM B m0 hh1 (xF (uI s1 13 m) P1 (s.1 13) (s.2 16) (s.1 14)) := by
      rw [← hg_hh1]
      exact hW
    have hpg : pg (xF (uI s1 13 m) P1 (s.1 13) (s.2 16) (s.1 14)) = rsz (pg s) m := by
      show oF m.toNat P1 = _
      rw [rsz_oF _ hyes.1 hyes.2]
      refine oF_ext fun j hj => ?_
      rw [hP1 j (by omega), r13]
      by_cases z : (j : Int) < s.2 13
      · rw [if_pos z, pg_get s z]
      · rw [if_neg z, getD_ge (by omega)]
    exact r_v rfl rfl (by rw [pkS_t hyes, pk_t hyes]; exact mp_page ht hb hM hW (fun k k1 k2 => by rw [xF_k _ _ _ _ _ k2]; exact congrFun r1 k) r11 r14 hyes r26 hpg)
  · skip
    have y1 := c1
    refine g_iconst (n := 1) rfl (by decide) ?_
    refine g_goto rfl rfl ?_
    refine g_iconst (n := 1) rfl (by decide) ?_
    have hno : ¬ (0 ≤ m ∧ m ≤ 10240) := pz_eq y1
    refine g_V (z := yMd_fails) (e := 1) (A := [aI 1, aI 1]) (rest := []) (v := aI 1)  rfl rfl rfl rfl rfl rfl (by omega) hW.ob hW.b0 (m_f hM hW 1 (by omega)) ?_
    intro hh4 hq
    obtain ⟨s1, hW, r1, r2, r26, hM1, rm⟩ := hq
    have r13 := r2 13 (by decide)
    have r11 := r2 11 (by decide)
    have r14 := r2 14 (by decide)
    refine g_ifeq rfl rfl (fun c => absurd c (by decide)) (fun c => ?_)
    have hend : MP B m0 (mst s) t 1 hh4 := mp_same ht hb hM hW (fun k k1 k2 => by
      by_cases z : k = 12
      · subst z
        rfl
      · rw [xF_k _ _ _ _ _ (by omega), r1]) r11 r14 r13 r26
    exact r_v rfl rfl (by rw [pkS_f hno, pk_f hno]; exact hend)
theorem m_isNode2 (hd1 : 1 ≤ d) (ht : t < 2) (hb : s.2 11 = 30 * (t : Int)) (hM : MOK s) (hW : WM B m0 h s) (node : Int) : Cal d yMd_isNode [aR m0, aI node] h (RV (some (aI (pz (hs (mst s) t node)))) (fun h2 => h2 = h)) := by
  have k := m_isNode hd1 hM hW node
  have hcn := hM.2.1 t ht
  rw [show (s.2 11 / 30).toNat = t by omega, pz_congr (show (0 ≤ node ∧ node < s.1 9 t) ↔ hs (mst s) t node from ⟨fun z => ⟨z.1, by show node < ((s.1 9 t).toNat : Int); omega⟩, fun z => ⟨z.1, by have z2 : node < ((s.1 9 t).toNat : Int) := z.2; omega⟩⟩)] at k
  exact k
theorem m_node (hd2 : 2 ≤ d) (ht : t < 2) (hb : s.2 11 = 30 * (t : Int)) (hM : MOK s) (hT : TI (mst s) t) (hW : WM B m0 h s) (node what : Int) : Cal d yMd_node [aR m0, aI node, aI what] h (RV (some (aI (pk (hs (mst s) t node ∧ 0 ≤ what ∧ what ≤ 7) (ndV (mst s) t node.toNat what) 0))) (MP B m0 (mst s) t (pk (hs (mst s) t node ∧ 0 ≤ what ∧ what ≤ 7) 0 1))) := by
  have hc := hT.c
  have hcn := hM.2.1 t ht
  have hC : ((mst s).2.2.2.1 t) = (s.1 9 t).toNat := rfl
  show Go _ _ 0 [aR m0, aI node, aI what, none] [] _ _
  refine g_aload_n rfl rfl ?_
  refine g_aload_n rfl rfl ?_
  refine g_iload_n rfl rfl ?_
  refine g_V (z := yMd_isNode) (e := 1) (A := [aI node]) (rest := [aR m0]) (v := aI (pz (hs (mst s) t node))) (P := fun h2 => h2 = h) rfl rfl rfl rfl rfl rfl (by omega) hW.ob hW.b0 (m_isNode2 (by omega) ht hb hM hW _) ?_
  intro hh9 he9
  rw [he9]
  clear he9 hh9
  refine g_ifeq rfl rfl (fun c1 => ?_) (fun c1 => ?_)
  · skip
    have y1 := c1
    refine g_iconst (n := 1) rfl (by decide) ?_
    refine g_goto rfl rfl ?_
    refine g_iconst (n := 1) rfl (by decide) ?_
    have hno : ¬ (hs (mst s) t node ∧ 0 ≤ what ∧ what ≤ 7) := fun q => by first | exact pz_eq y2 q.2 | exact pz_eq y1 q.1
    refine g_V (z := yMd_fails) (e := 1) (A := [aI 1, aI 1]) (rest := []) (v := aI 1)  rfl rfl rfl rfl rfl rfl (by omega) hW.ob hW.b0 (m_f hM hW 1 (by omega)) ?_
    intro hh2 hq
    obtain ⟨s1, hW, r1, r2, r26, hM1, rm⟩ := hq
    have r13 := r2 13 (by decide)
    have r11 := r2 11 (by decide)
    have r14 := r2 14 (by decide)
    refine g_ifeq rfl rfl (fun c => absurd c (by decide)) (fun c => ?_)
    refine g_iconst (n := 0) rfl (by decide) ?_
    have hend : MP B m0 (mst s) t 1 hh2 := mp_same ht hb hM hW (fun k k1 k2 => by
      by_cases z : k = 12
      · subst z
        rfl
      · rw [xF_k _ _ _ _ _ (by omega), r1]) r11 r14 r13 r26
    exact r_i rfl rfl (pk_f hno).symm (by rw [pk_f hno]; exact hend)
  · skip
    have y1 := c1
    refine g_iload_n rfl rfl ?_
    refine g_iconst (n := 0) rfl (by decide) ?_
    refine g_bipush (n := 7) rfl (by decide) ?_
    refine g_S (z := yMd_within) (e := 1) (A := [aI 7, aI 0, aI what]) (rest := [aR m0]) (v := aI (pz (0 ≤ what ∧ what ≤ 7))) (P := fun h2 => h2 = h) rfl rfl rfl rfl rfl rfl (by omega) (m_within _ _ _) ?_
    intro hh9 he9
    rw [he9]
    clear he9 hh9
    refine g_ifne rfl rfl (fun c4 => ?_) (fun c4 => ?_)
    · skip
      have y2 := c4
      refine g_iconst (n := 0) rfl (by decide) ?_
      refine g_iconst (n := 1) rfl (by decide) ?_
      have hyes : (hs (mst s) t node ∧ 0 ≤ what ∧ what ≤ 7) := ⟨pz_ne y1, pz_ne y2⟩
      refine g_V (z := yMd_fails) (e := 1) (A := [aI 1, aI 0]) (rest := []) (v := aI 0)  rfl rfl rfl rfl rfl rfl (by omega) hW.ob hW.b0 (m_f hM hW 0 (by omega)) ?_
      intro hh5 hq
      obtain ⟨s1, hW, r1, r2, r26, hM1, rm⟩ := hq
      have r13 := r2 13 (by decide)
      have r11 := r2 11 (by decide)
      have r14 := r2 14 (by decide)
      refine g_ifeq rfl rfl (fun c => ?_) (fun c => absurd c (by decide))
      have hh1 := hyes.1.1
      have hh2 := hyes.1.2
      obtain ⟨i, rfl⟩ : ∃ i : Nat, node = i := ⟨node.toNat, by omega⟩
      have e1 : (30 * (t : Int) + (i : Int)).toNat = 30 * t + i := by omega
      have hb1 : s1.2 11 = 30 * (t : Int) := r11.trans hb
      have hmo := hM.1 (30 * t + i) (by omega)
      refine g_aload_n rfl rfl ?_
      refine g_get (ci := 8) (kk := 11) rfl rfl (xF_ob hW) hW.b0 rfl ?_
      rw [show s1.2 11 = 30 * (t : Int) from hb1]
      refine g_iload_n rfl rfl ?_
      refine g_iadd rfl (by omega) ?_
      refine g_istore_n (L' := [aR m0, aI ((i : Int)), aI what, aI ((30 * (t : Int)) + ((i : Int)))]) rfl rfl ?_
      refine g_iload_n rfl rfl ?_
      by_cases hk0 : what = 0
      · skip
        refine g_tabIn (off := 43) (t := 84) rfl (by omega) (by rw [hk0]; rfl) rfl ?_
        refine g_aload_n rfl rfl ?_
        refine g_get (ci := 8) (kk := 0) rfl rfl (xF_ob hW) hW.b0 rfl ?_
        refine g_iload_n rfl rfl ?_
        refine g_iald rfl (xF_a1 hW) (by omega) ?_
        have hend : MP B m0 (mst s) t 0 hh5 := mp_same ht hb hM hW (fun k k1 k2 => by
          by_cases z : k = 12
          · subst z
            rfl
          · rw [xF_k _ _ _ _ _ (by omega), r1]) r11 r14 r13 r26
        exact r_i rfl rfl (by rw [pk_t hyes, r1, e1]; unfold ndV; rw [if_pos hk0, Int.toNat_natCast]; rfl) (by rw [pk_t hyes]; exact hend)
      by_cases hk1 : what = 1
      · skip
        refine g_tabIn (off := 50) (t := 91) rfl (by omega) (by rw [hk1]; rfl) rfl ?_
        refine g_aload_n rfl rfl ?_
        refine g_get (ci := 8) (kk := 1) rfl rfl (xF_ob hW) hW.b0 rfl ?_
        refine g_iload_n rfl rfl ?_
        refine g_iald rfl (xF_a2 hW) (by omega) ?_
        have hend : MP B m0 (mst s) t 0 hh5 := mp_same ht hb hM hW (fun k k1 k2 => by
          by_cases z : k = 12
          · subst z
            rfl
          · rw [xF_k _ _ _ _ _ (by omega), r1]) r11 r14 r13 r26
        exact r_i rfl rfl (by rw [pk_t hyes, r1, e1]; unfold ndV; rw [if_neg (show ¬ what = 0 by omega), if_pos hk1, Int.toNat_natCast]; rfl) (by rw [pk_t hyes]; exact hend)
      by_cases hk2 : what = 2
      · skip
        refine g_tabIn (off := 57) (t := 98) rfl (by omega) (by rw [hk2]; rfl) rfl ?_
        refine g_aload_n rfl rfl ?_
        refine g_get (ci := 8) (kk := 2) rfl rfl (xF_ob hW) hW.b0 rfl ?_
        refine g_iload_n rfl rfl ?_
        refine g_iald rfl (xF_a3 hW) (by omega) ?_
        have hend : MP B m0 (mst s) t 0 hh5 := mp_same ht hb hM hW (fun k k1 k2 => by
          by_cases z : k = 12
          · subst z
            rfl
          · rw [xF_k _ _ _ _ _ (by omega), r1]) r11 r14 r13 r26
        exact r_i rfl rfl (by rw [pk_t hyes, r1, e1]; unfold ndV; rw [if_neg (show ¬ what = 0 by omega), if_neg (show ¬ what = 1 by omega), if_pos hk2, Int.toNat_natCast]; rw [mst_nm s ht (by omega), nmM_len]; omega) (by rw [pk_t hyes]; exact hend)
      by_cases hk3 : what = 3
      · skip
        refine g_tabIn (off := 64) (t := 105) rfl (by omega) (by rw [hk3]; rfl) rfl ?_
        refine g_aload_n rfl rfl ?_
        refine g_get (ci := 8) (kk := 3) rfl rfl (xF_ob hW) hW.b0 rfl ?_
        refine g_iload_n rfl rfl ?_
        refine g_iald rfl (xF_a4 hW) (by omega) ?_
        have hend : MP B m0 (mst s) t 0 hh5 := mp_same ht hb hM hW (fun k k1 k2 => by
          by_cases z : k = 12
          · subst z
            rfl
          · rw [xF_k _ _ _ _ _ (by omega), r1]) r11 r14 r13 r26
        exact r_i rfl rfl (by rw [pk_t hyes, r1, e1]; unfold ndV; rw [if_neg (show ¬ what = 0 by omega), if_neg (show ¬ what = 1 by omega), if_neg (show ¬ what = 2 by omega), if_pos hk3, Int.toNat_natCast]; rfl) (by rw [pk_t hyes]; exact hend)
      by_cases hk4 : what = 4
      · skip
        refine g_tabIn (off := 71) (t := 112) rfl (by omega) (by rw [hk4]; rfl) rfl ?_
        refine g_aload_n rfl rfl ?_
        refine g_get (ci := 8) (kk := 4) rfl rfl (xF_ob hW) hW.b0 rfl ?_
        refine g_iload_n rfl rfl ?_
        refine g_iald rfl (xF_a5 hW) (by omega) ?_
        have hend : MP B m0 (mst s) t 0 hh5 := mp_same ht hb hM hW (fun k k1 k2 => by
          by_cases z : k = 12
          · subst z
            rfl
          · rw [xF_k _ _ _ _ _ (by omega), r1]) r11 r14 r13 r26
        exact r_i rfl rfl (by rw [pk_t hyes, r1, e1]; unfold ndV; rw [if_neg (show ¬ what = 0 by omega), if_neg (show ¬ what = 1 by omega), if_neg (show ¬ what = 2 by omega), if_neg (show ¬ what = 3 by omega), if_pos hk4, Int.toNat_natCast]; rfl) (by rw [pk_t hyes]; exact hend)
      by_cases hk5 : what = 5
      · skip
        refine g_tabIn (off := 78) (t := 119) rfl (by omega) (by rw [hk5]; rfl) rfl ?_
        refine g_aload_n rfl rfl ?_
        refine g_get (ci := 8) (kk := 5) rfl rfl (xF_ob hW) hW.b0 rfl ?_
        refine g_iload_n rfl rfl ?_
        refine g_iald rfl (xF_a6 hW) (by omega) ?_
        have hend : MP B m0 (mst s) t 0 hh5 := mp_same ht hb hM hW (fun k k1 k2 => by
          by_cases z : k = 12
          · subst z
            rfl
          · rw [xF_k _ _ _ _ _ (by omega), r1]) r11 r14 r13 r26
        exact r_i rfl rfl (by rw [pk_t hyes, r1, e1]; unfold ndV; rw [if_neg (show ¬ what = 0 by omega), if_neg (show ¬ what = 1 by omega), if_neg (show ¬ what = 2 by omega), if_neg (show ¬ what = 3 by omega), if_neg (show ¬ what = 4 by omega), if_pos hk5, Int.toNat_natCast]; rfl) (by rw [pk_t hyes]; exact hend)
      by_cases hk6 : what = 6
      · skip
        refine g_tabIn (off := 85) (t := 126) rfl (by omega) (by rw [hk6]; rfl) rfl ?_
        refine g_aload_n rfl rfl ?_
        refine g_get (ci := 8) (kk := 6) rfl rfl (xF_ob hW) hW.b0 rfl ?_
        refine g_iload_n rfl rfl ?_
        refine g_iald rfl (xF_a7 hW) (by omega) ?_
        have hend : MP B m0 (mst s) t 0 hh5 := mp_same ht hb hM hW (fun k k1 k2 => by
          by_cases z : k = 12
          · subst z
            rfl
          · rw [xF_k _ _ _ _ _ (by omega), r1]) r11 r14 r13 r26
        exact r_i rfl rfl (by rw [pk_t hyes, r1, e1]; unfold ndV; rw [if_neg (show ¬ what = 0 by omega), if_neg (show ¬ what = 1 by omega), if_neg (show ¬ what = 2 by omega), if_neg (show ¬ what = 3 by omega), if_neg (show ¬ what = 4 by omega), if_neg (show ¬ what = 5 by omega), if_pos hk6, Int.toNat_natCast]; rw [mst_bd s ht (by omega), show (bdM s (30 * t + i)).length = (s.1 7 (30 * t + i)).toNat from oF_len _ _]; omega) (by rw [pk_t hyes]; exact hend)
      refine g_tabOut (t := 133) rfl (by omega) rfl ?_
      refine g_aload_n rfl rfl ?_
      refine g_get (ci := 8) (kk := 7) rfl rfl (xF_ob hW) hW.b0 rfl ?_
      refine g_iload_n rfl rfl ?_
      refine g_iald rfl (xF_a8 hW) (by omega) ?_
      have hend : MP B m0 (mst s) t 0 hh5 := mp_same ht hb hM hW (fun k k1 k2 => by
        by_cases z : k = 12
        · subst z
          rfl
        · rw [xF_k _ _ _ _ _ (by omega), r1]) r11 r14 r13 r26
      exact r_i rfl rfl (by rw [pk_t hyes, r1, e1]; unfold ndV; rw [if_neg (show ¬ what = 0 by omega), if_neg (show ¬ what = 1 by omega), if_neg (show ¬ what = 2 by omega), if_neg (show ¬ what = 3 by omega), if_neg (show ¬ what = 4 by omega), if_neg (show ¬ what = 5 by omega), if_neg (show ¬ what = 6 by omega), Int.toNat_natCast]; rfl) (by rw [pk_t hyes]; exact hend)
    · skip
      have y2 := c4
      refine g_iconst (n := 1) rfl (by decide) ?_
      refine g_goto rfl rfl ?_
      refine g_iconst (n := 1) rfl (by decide) ?_
      have hno : ¬ (hs (mst s) t node ∧ 0 ≤ what ∧ what ≤ 7) := fun q => by first | exact pz_eq y2 q.2 | exact pz_eq y1 q.1
      refine g_V (z := yMd_fails) (e := 1) (A := [aI 1, aI 1]) (rest := []) (v := aI 1)  rfl rfl rfl rfl rfl rfl (by omega) hW.ob hW.b0 (m_f hM hW 1 (by omega)) ?_
      intro hh7 hq
      obtain ⟨s1, hW, r1, r2, r26, hM1, rm⟩ := hq
      have r13 := r2 13 (by decide)
      have r11 := r2 11 (by decide)
      have r14 := r2 14 (by decide)
      refine g_ifeq rfl rfl (fun c => absurd c (by decide)) (fun c => ?_)
      refine g_iconst (n := 0) rfl (by decide) ?_
      have hend : MP B m0 (mst s) t 1 hh7 := mp_same ht hb hM hW (fun k k1 k2 => by
        by_cases z : k = 12
        · subst z
          rfl
        · rw [xF_k _ _ _ _ _ (by omega), r1]) r11 r14 r13 r26
      exact r_i rfl rfl (pk_f hno).symm (by rw [pk_f hno]; exact hend)
end Md15
