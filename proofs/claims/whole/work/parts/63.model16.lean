/-! The reference: part, total, set. -/
section Md16
variable {B h : AH} {m0 d t : Nat} {s s' : MS} {P W C : Nat → Int} {n : Int} {l : List Int} {c : Int}
theorem m_part (hd2 : 2 ≤ d) (ht : t < 2) (hb : s.2 11 = 30 * (t : Int)) (hM : MOK s) (hT : TI (mst s) t) (hW : WM B m0 h s) (node what j : Int) : Cal d yMd_part [aR m0, aI node, aI what, aI j] h (RV (some (aI (pk (hs (mst s) t node ∧ (what = 0 ∨ what = 1)) (paV (mst s) t node.toNat what j) 0))) (MP B m0 (mst s) t (pk (hs (mst s) t node ∧ (what = 0 ∨ what = 1)) 0 1))) := by
  have hc := hT.c
  have hcn := hM.2.1 t ht
  have hC : ((mst s).2.2.2.1 t) = (s.1 9 t).toNat := rfl
  have hpos := fun (i : Nat) (hi : i < ((mst s).2.2.2.1 t)) => posN hM ht hT hW (i := i) hi
  have hn8 := hW.n8
  show Go _ _ 0 [aR m0, aI node, aI what, aI j, none] [] _ _
  refine g_aload_n rfl rfl ?_
  refine g_aload_n rfl rfl ?_
  refine g_iload_n rfl rfl ?_
  refine g_V (z := yMd_isNode) (e := 1) (A := [aI node]) (rest := [aR m0]) (v := aI (pz (hs (mst s) t node))) (P := fun h2 => h2 = h) rfl rfl rfl rfl rfl rfl (by omega) hW.ob hW.b0 (m_isNode2 (by omega) ht hb hM hW _) ?_
  intro hh9 he9
  rw [he9]
  clear he9 hh9
  refine g_ifeq rfl rfl (fun c1 => ?_) (fun c1 => ?_)
  · skip
    have y1 := c1
    refine g_iconst (n := 1) rfl (by decide) ?_
    refine g_goto rfl rfl ?_
    refine g_iconst (n := 1) rfl (by decide) ?_
    have hno : ¬ (hs (mst s) t node ∧ (what = 0 ∨ what = 1)) := fun q => by first | exact pz_eq y2 (by omega) | exact pz_eq y1 q.1
    refine g_V (z := yMd_fails) (e := 1) (A := [aI 1, aI 1]) (rest := []) (v := aI 1)  rfl rfl rfl rfl rfl rfl (by omega) hW.ob hW.b0 (m_f hM hW 1 (by omega)) ?_
    intro hh2 hq
    obtain ⟨s1, hW, r1, r2, r26, hM1, rm⟩ := hq
    have r13 := r2 13 (by decide)
    have r11 := r2 11 (by decide)
    have r14 := r2 14 (by decide)
    refine g_ifeq rfl rfl (fun c => absurd c (by decide)) (fun c => ?_)
    refine g_iconst (n := 0) rfl (by decide) ?_
    have hend : MP B m0 (mst s) t 1 hh2 := mp_same ht hb hM hW (fun k k1 k2 => by
      by_cases z : k = 12
      · subst z
        rfl
      · rw [xF_k _ _ _ _ _ (by omega), r1]) r11 r14 r13 r26
    exact r_i rfl rfl (pk_f hno).symm (by rw [pk_f hno]; exact hend)
  · skip
    have y1 := c1
    refine g_iload_n rfl rfl ?_
    refine g_iconst (n := 0) rfl (by decide) ?_
    refine g_iconst (n := 1) rfl (by decide) ?_
    refine g_S (z := yMd_within) (e := 1) (A := [aI 1, aI 0, aI what]) (rest := [aR m0]) (v := aI (pz (0 ≤ what ∧ what ≤ 1))) (P := fun h2 => h2 = h) rfl rfl rfl rfl rfl rfl (by omega) (m_within _ _ _) ?_
    intro hh9 he9
    rw [he9]
    clear he9 hh9
    refine g_ifne rfl rfl (fun c4 => ?_) (fun c4 => ?_)
    · skip
      have y2 := c4
      refine g_iconst (n := 0) rfl (by decide) ?_
      refine g_iconst (n := 1) rfl (by decide) ?_
      have hyes : (hs (mst s) t node ∧ (what = 0 ∨ what = 1)) := ⟨pz_ne y1, by have := pz_ne y2; omega⟩
      refine g_V (z := yMd_fails) (e := 1) (A := [aI 1, aI 0]) (rest := []) (v := aI 0)  rfl rfl rfl rfl rfl rfl (by omega) hW.ob hW.b0 (m_f hM hW 0 (by omega)) ?_
      intro hh5 hq
      obtain ⟨s1, hW, r1, r2, r26, hM1, rm⟩ := hq
      have r13 := r2 13 (by decide)
      have r11 := r2 11 (by decide)
      have r14 := r2 14 (by decide)
      refine g_ifeq rfl rfl (fun c => ?_) (fun c => absurd c (by decide))
      have hh1 := hyes.1.1
      have hh2 := hyes.1.2
      obtain ⟨i, rfl⟩ : ∃ i : Nat, node = i := ⟨node.toNat, by omega⟩
      have e1 : (30 * (t : Int) + (i : Int)).toNat = 30 * t + i := by omega
      have hb1 : s1.2 11 = 30 * (t : Int) := r11.trans hb
      have hmo := hM.1 (30 * t + i) (by omega)
      have eN : ((mst s).1 (2 * (mst s).2.2.1 t i)) = nmM s (30 * t + i) := mst_nm s ht (by omega)
      have eB : ((mst s).1 (2 * (mst s).2.2.1 t i + 1)) = bdM s (30 * t + i) := mst_bd s ht (by omega)
      have lN := nmM_len s (30 * t + i)
      have lB : (bdM s (30 * t + i)).length = (s.1 7 (30 * t + i)).toNat := oF_len _ _
      refine g_aload_n rfl rfl ?_
      refine g_get (ci := 8) (kk := 11) rfl rfl (xF_ob hW) hW.b0 rfl ?_
      rw [show s1.2 11 = 30 * (t : Int) from hb1]
      refine g_iload_n rfl rfl ?_
      refine g_iadd rfl (by omega) ?_
      refine g_istore (L' := [aR m0, aI ((i : Int)), aI what, aI j, aI ((30 * (t : Int)) + ((i : Int)))]) rfl rfl ?_
      refine g_iload_n rfl rfl ?_
      refine g_ifne rfl rfl (fun c7 => ?_) (fun c7 => ?_)
      · skip
        have yw := c7
        refine g_iload_n rfl rfl ?_
        refine g_iflt rfl rfl (fun c8 => ?_) (fun c8 => ?_)
        · skip
          refine g_iconst (n := -1) rfl (by decide) ?_
          have hend : MP B m0 (mst s) t 0 hh5 := mp_same ht hb hM hW (fun k k1 k2 => by
            by_cases z : k = 12
            · subst z
              rfl
            · rw [xF_k _ _ _ _ _ (by omega), r1]) r11 r14 r13 r26
          exact r_i rfl rfl (by rw [pk_t hyes]; unfold paV; rw [if_neg yw, Int.toNat_natCast, eB, rat_out (by omega)]) (by rw [pk_t hyes]; exact hend)
        · skip
          refine g_iload_n rfl rfl ?_
          refine g_aload_n rfl rfl ?_
          refine g_get (ci := 8) (kk := 6) rfl rfl (xF_ob hW) hW.b0 rfl ?_
          refine g_iload rfl rfl ?_
          refine g_iald rfl (xF_a7 hW) (by omega) ?_
          rw [show (s1.1 7) ((30 * (t : Int)) + ((i : Int))).toNat = s.1 7 (30 * t + i) from by rw [r1, e1]]
          refine g_icmpge rfl rfl (fun c9 => ?_) (fun c9 => ?_)
          · skip
            refine g_iconst (n := -1) rfl (by decide) ?_
            have hend : MP B m0 (mst s) t 0 hh5 := mp_same ht hb hM hW (fun k k1 k2 => by
              by_cases z : k = 12
              · subst z
                rfl
              · rw [xF_k _ _ _ _ _ (by omega), r1]) r11 r14 r13 r26
            exact r_i rfl rfl (by rw [pk_t hyes]; unfold paV; rw [if_neg yw, Int.toNat_natCast, eB, rat_out (by omega)]) (by rw [pk_t hyes]; exact hend)
          · skip
            refine g_aload_n rfl rfl ?_
            refine g_get (ci := 8) (kk := 10) rfl rfl (xF_ob hW) hW.b0 rfl ?_
            refine g_sipush (n := 2000) rfl (by decide) ?_
            refine g_iload rfl rfl ?_
            refine g_imul rfl (by omega) ?_
            refine g_iload_n rfl rfl ?_
            refine g_iadd rfl (by omega) ?_
            refine g_bald rfl (xF_a11 hW) (by omega) ?_
            rw [show (s1.1 11) ((2000 * ((30 * (t : Int)) + ((i : Int)))) + j).toNat = s.1 11 (2000 * (30 * (t : Int) + (i : Int)) + j).toNat from by rw [r1]]
            refine g_sipush (n := 255) rfl (by decide) ?_
            refine g_iand (v := (s.1 11 (2000 * (30 * (t : Int) + (i : Int)) + j).toNat) % 256) rfl (a_and255 _) ?_
            refine g_goto rfl rfl ?_
            have hend : MP B m0 (mst s) t 0 hh5 := mp_same ht hb hM hW (fun k k1 k2 => by
              by_cases z : k = 12
              · subst z
                rfl
              · rw [xF_k _ _ _ _ _ (by omega), r1]) r11 r14 r13 r26
            exact r_i rfl rfl (by rw [pk_t hyes]; unfold paV; rw [if_neg yw, Int.toNat_natCast, eB, rat_in (by omega) (by omega), bdM_get s (by omega), show (2000 * (30 * (t : Int) + (i : Int)) + j).toNat = 2000 * (30 * t + i) + j.toNat by omega]) (by rw [pk_t hyes]; exact hend)
      · skip
        have yw := c7
        refine g_iload_n rfl rfl ?_
        refine g_iflt rfl rfl (fun c10 => ?_) (fun c10 => ?_)
        · skip
          refine g_iconst (n := -1) rfl (by decide) ?_
          have hend : MP B m0 (mst s) t 0 hh5 := mp_same ht hb hM hW (fun k k1 k2 => by
            by_cases z : k = 12
            · subst z
              rfl
            · rw [xF_k _ _ _ _ _ (by omega), r1]) r11 r14 r13 r26
          exact r_i rfl rfl (by rw [pk_t hyes]; unfold paV; rw [if_pos yw, Int.toNat_natCast, eN, rat_out (by omega)]) (by rw [pk_t hyes]; exact hend)
        · skip
          refine g_iload_n rfl rfl ?_
          refine g_aload_n rfl rfl ?_
          refine g_get (ci := 8) (kk := 2) rfl rfl (xF_ob hW) hW.b0 rfl ?_
          refine g_iload rfl rfl ?_
          refine g_iald rfl (xF_a3 hW) (by omega) ?_
          rw [show (s1.1 3) ((30 * (t : Int)) + ((i : Int))).toNat = s.1 3 (30 * t + i) from by rw [r1, e1]]
          refine g_icmpge rfl rfl (fun c11 => ?_) (fun c11 => ?_)
          · skip
            refine g_iconst (n := -1) rfl (by decide) ?_
            have hend : MP B m0 (mst s) t 0 hh5 := mp_same ht hb hM hW (fun k k1 k2 => by
              by_cases z : k = 12
              · subst z
                rfl
              · rw [xF_k _ _ _ _ _ (by omega), r1]) r11 r14 r13 r26
            exact r_i rfl rfl (by rw [pk_t hyes]; unfold paV; rw [if_pos yw, Int.toNat_natCast, eN, rat_out (by omega)]) (by rw [pk_t hyes]; exact hend)
          · skip
            refine g_aload_n rfl rfl ?_
            refine g_get (ci := 8) (kk := 9) rfl rfl (xF_ob hW) hW.b0 rfl ?_
            refine g_bipush (n := 100) rfl (by decide) ?_
            refine g_iload rfl rfl ?_
            refine g_imul rfl (by omega) ?_
            refine g_iload_n rfl rfl ?_
            refine g_iadd rfl (by omega) ?_
            refine g_bald rfl (xF_a10 hW) (by omega) ?_
            rw [show (s1.1 10) ((100 * ((30 * (t : Int)) + ((i : Int)))) + j).toNat = s.1 10 (100 * (30 * (t : Int) + (i : Int)) + j).toNat from by rw [r1]]
            refine g_goto rfl rfl ?_
            have hend : MP B m0 (mst s) t 0 hh5 := mp_same ht hb hM hW (fun k k1 k2 => by
              by_cases z : k = 12
              · subst z
                rfl
              · rw [xF_k _ _ _ _ _ (by omega), r1]) r11 r14 r13 r26
            have hp := hpos i (by omega) j.toNat (by omega)
            have h8 := hn8 (100 * (30 * t + i) + j.toNat)
            exact r_i rfl rfl (by rw [pk_t hyes]; unfold paV; rw [if_pos yw, Int.toNat_natCast, eN, rat_in (by omega) (by omega), nmM_get s (by omega), show (100 * (30 * (t : Int) + (i : Int)) + j).toNat = 100 * (30 * t + i) + j.toNat by omega]; omega) (by rw [pk_t hyes]; exact hend)
    · skip
      have y2 := c4
      refine g_iconst (n := 1) rfl (by decide) ?_
      refine g_goto rfl rfl ?_
      refine g_iconst (n := 1) rfl (by decide) ?_
      have hno : ¬ (hs (mst s) t node ∧ (what = 0 ∨ what = 1)) := fun q => by first | exact pz_eq y2 (by omega) | exact pz_eq y1 q.1
      refine g_V (z := yMd_fails) (e := 1) (A := [aI 1, aI 1]) (rest := []) (v := aI 1)  rfl rfl rfl rfl rfl rfl (by omega) hW.ob hW.b0 (m_f hM hW 1 (by omega)) ?_
      intro hh12 hq
      obtain ⟨s1, hW, r1, r2, r26, hM1, rm⟩ := hq
      have r13 := r2 13 (by decide)
      have r11 := r2 11 (by decide)
      have r14 := r2 14 (by decide)
      refine g_ifeq rfl rfl (fun c => absurd c (by decide)) (fun c => ?_)
      refine g_iconst (n := 0) rfl (by decide) ?_
      have hend : MP B m0 (mst s) t 1 hh12 := mp_same ht hb hM hW (fun k k1 k2 => by
        by_cases z : k = 12
        · subst z
          rfl
        · rw [xF_k _ _ _ _ _ (by omega), r1]) r11 r14 r13 r26
      exact r_i rfl rfl (pk_f hno).symm (by rw [pk_f hno]; exact hend)
theorem to_loop (hM : MOK s) (ht : t < 2) (hb : s.2 11 = 30 * (t : Int)) (hT : TI (mst s) t) (what : Int) : ∀ (q k : Nat) (x : Int) (h : AH) (W C : Nat → Int) (n : Int), 1 ≤ k → k + q = ((mst s).2.2.2.1 t) → 0 ≤ x → x ≤ 4000 → WM B m0 h (xF s P W n C) → Go (d + 2) yMd_total 47 [aR m0, aI what, aI x, aI (k : Int)] [] h (RV (some (aI (lgF (mst s) t q k x))) (fun h2 => ∃ W' n' C', WM B m0 h2 (xF s P W' n' C'))) := by
  have hc := hT.c
  have hcn := hM.2.1 t ht
  have hC : ((mst s).2.2.2.1 t) = (s.1 9 t).toNat := rfl
  have e30 : (s.2 11 / 30).toNat = t := by omega
  intro q
  induction q with
  | zero =>
    intro k x h W C n h1 hk hx hx2 hW
    refine g_iload_n rfl rfl ?_
    refine g_aload_n rfl rfl ?_
    refine g_V (z := yMd_count) (e := 1) (A := []) (rest := [aI ((k : Int))]) (v := aI (s.1 9 t)) (P := fun h2 => h2 = h) rfl rfl rfl rfl rfl rfl (by omega) (xF_ob hW) hW.b0 ((by have k9 := m_count (s := xF s P W n C) (d := d + 2 - 1) hM hW; exact e30 ▸ k9)) ?_
    intro hh9 he9
    rw [he9]
    clear he9 hh9
    refine g_icmpge rfl rfl (fun c1 => ?_) (fun c => absurd c (by omega))
    refine g_iload_n rfl rfl ?_
    exact r_i rfl rfl rfl ⟨_, _, _, hW⟩
  | succ q ih =>
    intro k x h W C n h1 hk hx hx2 hW
    have hpp := pln_pth (mst s) t (k : Int)
    have hpl := hT.pl (k : Int)
    rw [show lgF (mst s) t (q + 1) k x = lgF (mst s) t q (k + 1) (if x ≤ pln (mst s) t (k : Int) then pln (mst s) t (k : Int) else x) from rfl]
    refine g_iload_n rfl rfl ?_
    refine g_aload_n rfl rfl ?_
    refine g_V (z := yMd_count) (e := 1) (A := []) (rest := [aI ((k : Int))]) (v := aI (s.1 9 t)) (P := fun h2 => h2 = h) rfl rfl rfl rfl rfl rfl (by omega) (xF_ob hW) hW.b0 ((by have k9 := m_count (s := xF s P W n C) (d := d + 2 - 1) hM hW; exact e30 ▸ k9)) ?_
    intro hh9 he9
    rw [he9]
    clear he9 hh9
    refine g_icmpge rfl rfl (fun c => absurd c (by omega)) (fun c1 => ?_)
    refine g_aload_n rfl rfl ?_
    refine g_iload_n rfl rfl ?_
    refine g_Vn (z := yMd_tell) (e := 1) (A := [aI ((k : Int))]) (rest := [])  rfl rfl rfl rfl rfl rfl (by omega) (xF_ob hW) hW.b0 (m_tell (s := s) hM ht hb hT hW (k : Int) (by omega) (by omega)) ?_
    intro hh2 hq
    obtain ⟨W1, n1, C1, hW, hw1, hn1⟩ := hq
    refine g_aload_n rfl rfl ?_
    refine g_get (ci := 8) (kk := 16) rfl rfl (xF_ob hW) hW.b0 rfl ?_
    refine g_iload_n rfl rfl ?_
    refine g_icmple rfl rfl (fun c3 => ?_) (fun c3 => ?_)
    · skip
      have yc := c3
      refine g_iload_n rfl rfl ?_
      refine g_istore_n (L' := [aR m0, aI what, aI x, aI ((k : Int))]) rfl rfl ?_
      refine g_iinc (L' := [aR m0, aI what, aI x, aI ((k : Int) + 1)]) rfl rfl (by omega) rfl ?_
      refine g_goto rfl rfl ?_
      rw [show (if x ≤ pln (mst s) t (k : Int) then pln (mst s) t (k : Int) else x) = x by split <;> omega]
      exact ih (k + 1) _ _ _ _ _ (by omega) (by omega) (by omega) (by omega) hW
    · skip
      have yc := c3
      refine g_aload_n rfl rfl ?_
      refine g_get (ci := 8) (kk := 16) rfl rfl (xF_ob hW) hW.b0 rfl ?_
      refine g_goto rfl rfl ?_
      refine g_istore_n (L' := [aR m0, aI what, aI n1, aI ((k : Int))]) rfl rfl ?_
      refine g_iinc (L' := [aR m0, aI what, aI n1, aI ((k : Int) + 1)]) rfl rfl (by omega) rfl ?_
      refine g_goto rfl rfl ?_
      rw [show (if x ≤ pln (mst s) t (k : Int) then pln (mst s) t (k : Int) else x) = n1 by split <;> omega]
      exact ih (k + 1) _ _ _ _ _ (by omega) (by omega) (by omega) (by omega) hW
theorem m_total (hd3 : 3 ≤ d) (ht : t < 2) (hb : s.2 11 = 30 * (t : Int)) (hM : MOK s) (hT : TI (mst s) t) (hW : WM B m0 h s) (what : Int) : Cal d yMd_total [aR m0, aI what] h (RV (some (aI (pk (0 ≤ what ∧ what ≤ 2) (toV (mst s) t what) 0))) (MP B m0 (mst s) t (pk (0 ≤ what ∧ what ≤ 2) 0 1))) := by
  obtain ⟨d, rfl⟩ : ∃ e, d = e + 2 := ⟨d - 2, by omega⟩
  have hc := hT.c
  have hcn := hM.2.1 t ht
  have hmm := hM.2.2.2
  have hC : ((mst s).2.2.2.1 t) = (s.1 9 t).toNat := rfl
  show Go _ _ 0 [aR m0, aI what, none, none] [] _ _
  refine g_aload_n rfl rfl ?_
  refine g_iload_n rfl rfl ?_
  refine g_iconst (n := 0) rfl (by decide) ?_
  refine g_iconst (n := 2) rfl (by decide) ?_
  refine g_S (z := yMd_within) (e := 1) (A := [aI 2, aI 0, aI what]) (rest := [aR m0]) (v := aI (pz (0 ≤ what ∧ what ≤ 2))) (P := fun h2 => h2 = h) rfl rfl rfl rfl rfl rfl (by omega) (m_within _ _ _) ?_
  intro hh9 he9
  rw [he9]
  clear he9 hh9
  refine g_ifne rfl rfl (fun c1 => ?_) (fun c1 => ?_)
  · skip
    have y1 := c1
    refine g_iconst (n := 0) rfl (by decide) ?_
    refine g_iconst (n := 1) rfl (by decide) ?_
    have hyes : (0 ≤ what ∧ what ≤ 2) := pz_ne y1
    refine g_V (z := yMd_fails) (e := 1) (A := [aI 1, aI 0]) (rest := []) (v := aI 0)  rfl rfl rfl rfl rfl rfl (by omega) hW.ob hW.b0 (m_f hM hW 0 (by omega)) ?_
    intro hh2 hq
    obtain ⟨s1, hW, r1, r2, r26, hM1, rm⟩ := hq
    have r13 := r2 13 (by decide)
    have r11 := r2 11 (by decide)
    have r14 := r2 14 (by decide)
    refine g_ifeq rfl rfl (fun c => ?_) (fun c => absurd c (by decide))
    refine g_iload_n rfl rfl ?_
    refine g_ifne rfl rfl (fun c4 => ?_) (fun c4 => ?_)
    · skip
      have w0 := c4
      refine g_iload_n rfl rfl ?_
      refine g_iconst (n := 1) rfl (by decide) ?_
      refine g_icmpne rfl rfl (fun c5 => ?_) (fun c5 => ?_)
      · skip
        have w1 := c5
        refine g_iconst (n := 0) rfl (by decide) ?_
        refine g_istore_n (L' := [aR m0, aI what, aI 0, none]) rfl rfl ?_
        refine g_iconst (n := 1) rfl (by decide) ?_
        refine g_istore_n (L' := [aR m0, aI what, aI 0, aI 1]) rfl rfl ?_
        have h9 := to_loop (d := d) (B := B) (m0 := m0) (s := s1) (P := s.1 12) hM1 ht (r11.trans hb) (by rw [rm]; exact hT) what (((mst s1).2.2.2.1 t) - 1) 1 0 _ _ _ _ (by omega) (by rw [rm]; omega) (by omega) (by omega) hW
        refine h9.mono fun o h2 hh => ⟨?_, ?_⟩
        · rw [pk_t hyes]
          unfold toV
          rw [if_neg w0, if_neg w1, ← rm]
          exact hh.1
        · obtain ⟨W1, n1, C1, hW⟩ := hh.2
          rw [pk_t hyes]
          exact mp_same ht hb hM hW (fun k k1 k2 => by
            by_cases z : k = 12
            · subst z
              rfl
            · rw [xF_k _ _ _ _ _ (by omega), r1]) r11 r14 r13 r26
      · skip
        have w1 := c5
        refine g_aload_n rfl rfl ?_
        refine g_get (ci := 8) (kk := 13) rfl rfl (xF_ob hW) hW.b0 rfl ?_
        have hend : MP B m0 (mst s) t 0 hh2 := mp_same ht hb hM hW (fun k k1 k2 => by
          by_cases z : k = 12
          · subst z
            rfl
          · rw [xF_k _ _ _ _ _ (by omega), r1]) r11 r14 r13 r26
        exact r_i rfl rfl (by rw [pk_t hyes]; unfold toV; rw [if_neg w0, if_pos w1, mst_pg, pg_len]; omega) (by rw [pk_t hyes]; exact hend)
    · skip
      have w0 := c4
      refine g_aload_n rfl rfl ?_
      refine g_V (z := yMd_count) (e := 1) (A := []) (rest := []) (v := aI (s.1 9 t)) (P := fun h2 => h2 = hh2) rfl rfl rfl rfl rfl rfl (by omega) (xF_ob hW) hW.b0 ((by have k9 := m_count (s := (xF s1 (s.1 12) (s.1 13) (s.2 16) (s.1 14))) (d := d + 2 - 1) hM1 hW; rw [show ((xF s1 (s.1 12) (s.1 13) (s.2 16) (s.1 14)).2 11 / 30).toNat = t from by show (s1.2 11 / 30).toNat = t; omega, show (xF s1 (s.1 12) (s.1 13) (s.2 16) (s.1 14)).1 9 t = s.1 9 t from congrFun (congrFun r1 9) t] at k9; exact k9)) ?_
      intro hh9 he9
      rw [he9]
      clear he9 hh9
      have hend : MP B m0 (mst s) t 0 hh2 := mp_same ht hb hM hW (fun k k1 k2 => by
        by_cases z : k = 12
        · subst z
          rfl
        · rw [xF_k _ _ _ _ _ (by omega), r1]) r11 r14 r13 r26
      exact r_i rfl rfl (by rw [pk_t hyes]; unfold toV; rw [if_pos w0]; omega) (by rw [pk_t hyes]; exact hend)
  · skip
    have y1 := c1
    refine g_iconst (n := 1) rfl (by decide) ?_
    refine g_goto rfl rfl ?_
    refine g_iconst (n := 1) rfl (by decide) ?_
    have hno : ¬ (0 ≤ what ∧ what ≤ 2) := pz_eq y1
    refine g_V (z := yMd_fails) (e := 1) (A := [aI 1, aI 1]) (rest := []) (v := aI 1)  rfl rfl rfl rfl rfl rfl (by omega) hW.ob hW.b0 (m_f hM hW 1 (by omega)) ?_
    intro hh6 hq
    obtain ⟨s1, hW, r1, r2, r26, hM1, rm⟩ := hq
    have r13 := r2 13 (by decide)
    have r11 := r2 11 (by decide)
    have r14 := r2 14 (by decide)
    refine g_ifeq rfl rfl (fun c => absurd c (by decide)) (fun c => ?_)
    refine g_iconst (n := 0) rfl (by decide) ?_
    have hend : MP B m0 (mst s) t 1 hh6 := mp_same ht hb hM hW (fun k k1 k2 => by
      by_cases z : k = 12
      · subst z
        rfl
      · rw [xF_k _ _ _ _ _ (by omega), r1]) r11 r14 r13 r26
    exact r_i rfl rfl (pk_f hno).symm (by rw [pk_f hno]; exact hend)
end Md16
