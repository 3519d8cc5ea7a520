/-! The reference: the next in the order, where a path is cut, what is spelled, told, written in octal digits. -/
section Md4
variable {B h : AH} {m0 d t : Nat} {s : MS}
theorem posN (hM : MOK s) (ht : t < 2) (hT : TI (mst s) t) (hW : WM B m0 h s) {i : Nat} (hi : i < ((mst s).2.2.2.1 t)) : ∀ j : Nat, (j : Int) < s.1 3 (30 * t + i) → 0 ≤ s.1 10 (100 * (30 * t + i) + j) := by
  have hc := hT.c
  have eN : ((mst s).1 (2 * (mst s).2.2.1 t i)) = nmM s (30 * t + i) := mst_nm s ht (by omega)
  have hl := nmM_len s (30 * t + i)
  have hm := hM.1 (30 * t + i) (by omega)
  intro j hj
  by_cases h0 : 0 < i
  · have q := (hT.n i h0 hi).1.1 j (by omega) (by rw [eN]; omega)
    rw [eN, nmM_get s hj] at q
    unfold ltr at q
    have := hW.n8 (100 * (30 * t + i) + j)
    omega
  · have e0 : i = 0 := by omega
    subst e0
    have r := hT.r.2.2
    rw [eN] at r
    rw [r, List.length_nil] at hl
    omega
theorem m_cmp (hM : MOK s) (ht : t < 2) (hT : TI (mst s) t) (hW : WM B m0 h s) {a b : Int} (ha : 0 ≤ a) (ha2 : a < ((mst s).2.2.2.1 t)) (hb0 : 0 ≤ b) (hb2 : b < ((mst s).2.2.2.1 t)) : Cal d yMd_compare [aR m0, aI (30 * (t : Int) + a), aI (30 * (t : Int) + b)] h (RV (some (aI (cmpv (((mst s).1 (2 * (mst s).2.2.1 t a.toNat))) (((mst s).1 (2 * (mst s).2.2.1 t b.toNat)))))) (fun h2 => h2 = h)) := by
  have hc := hT.c
  have k := m_compare (d := d) hM hW (30 * t + a.toNat) (30 * t + b.toNat) (by omega) (by omega) (posN hM ht hT hW (by omega)) (posN hM ht hT hW (by omega))
  rw [← mst_nm s ht (by omega), ← mst_nm s ht (by omega), show ((30 * t + a.toNat : Nat) : Int) = 30 * (t : Int) + a by omega, show ((30 * t + b.toNat : Nat) : Int) = 30 * (t : Int) + b by omega] at k
  exact k
theorem mx_loop (hM : MOK s) (ht : t < 2) (hb : s.2 11 = 30 * (t : Int)) (hT : TI (mst s) t) (hW : WM B m0 h s) (dir bh : Int) (hbh : bh = -1 ∨ (0 ≤ bh ∧ bh < ((mst s).2.2.2.1 t))) : ∀ (q k : Nat) (x : Int), 1 ≤ k → k + q = ((mst s).2.2.2.1 t) → (x = -1 ∨ (0 ≤ x ∧ x < ((mst s).2.2.2.1 t))) → Go (d + 1) yMd_next 5 [aR m0, aI dir, aI bh, aI x, aI (k : Int)] [] h (RV (some (aI (nxF (mst s) t dir bh q k x))) (fun h2 => h2 = h)) := by
  have hc := hT.c
  have hcn := hM.2.1 t ht
  have hC : ((mst s).2.2.2.1 t) = (s.1 9 t).toNat := rfl
  have e30 : (s.2 11 / 30).toNat = t := by omega
  intro q
  induction q with
  | zero =>
    intro k x h1 hk hx
    refine g_iload rfl rfl ?_
    refine g_aload_n rfl rfl ?_
    refine g_V (z := yMd_count) (e := 1) (A := []) (rest := [aI ((k : Int))]) (v := aI (s.1 9 t)) (P := fun h2 => h2 = h) rfl rfl rfl rfl rfl rfl (by omega) hW.ob hW.b0 (e30 ▸ m_count hM hW) ?_
    intro hh9 he9
    rw [he9]
    clear he9 hh9
    refine g_icmpge rfl rfl (fun c1 => ?_) (fun c => absurd c (by omega))
    refine g_iload_n rfl rfl ?_
    exact r_i rfl rfl rfl rfl
  | succ q ih =>
    intro k x h1 hk hx
    have e1 : (30 * (t : Int) + k).toNat = 30 * t + k := by omega
    have hsk : hs (mst s) t (k : Int) := ⟨by omega, by omega⟩
    have ek : ((k : Int)).toNat = k := Int.toNat_natCast k
    have hasy : ∀ z : Int, cmpv (((mst s).1 (2 * (mst s).2.2.1 t z.toNat))) (((mst s).1 (2 * (mst s).2.2.1 t k))) = - cmpv (((mst s).1 (2 * (mst s).2.2.1 t k))) (((mst s).1 (2 * (mst s).2.2.1 t z.toNat))) := fun z => cmpv_asy _ _
    rw [show nxF (mst s) t dir bh (q + 1) k x = @ite Int (((mst s).2.1 ((mst s).2.2.1 t k) 1) = dir ∧ cbh (mst s) t k bh ∧ (x = -1 ∨ cbh (mst s) t x k)) (Classical.propDecidable _) (nxF (mst s) t dir bh q (k + 1) k) (nxF (mst s) t dir bh q (k + 1) x) from rfl]
    refine g_iload rfl rfl ?_
    refine g_aload_n rfl rfl ?_
    refine g_V (z := yMd_count) (e := 1) (A := []) (rest := [aI ((k : Int))]) (v := aI (s.1 9 t)) (P := fun h2 => h2 = h) rfl rfl rfl rfl rfl rfl (by omega) hW.ob hW.b0 (e30 ▸ m_count hM hW) ?_
    intro hh9 he9
    rw [he9]
    clear he9 hh9
    refine g_icmpge rfl rfl (fun c => absurd c (by omega)) (fun c1 => ?_)
    refine g_aload_n rfl rfl ?_
    refine g_get (ci := 8) (kk := 1) rfl rfl hW.ob hW.b0 rfl ?_
    refine g_aload_n rfl rfl ?_
    refine g_get (ci := 8) (kk := 11) rfl rfl hW.ob hW.b0 rfl ?_
    rw [show s.2 11 = 30 * (t : Int) from hb]
    refine g_iload rfl rfl ?_
    refine g_iadd rfl (by omega) ?_
    refine g_iald rfl hW.a2 (by omega) ?_
    rw [show (s.1 2) ((30 * (t : Int)) + ((k : Int))).toNat = s.1 2 (30 * t + k) from by rw [e1]]
    refine g_iload_n rfl rfl ?_
    refine g_icmpne rfl rfl (fun c2 => ?_) (fun c2 => ?_)
    · skip
      have hno : ¬ (((mst s).2.1 ((mst s).2.2.1 t k) 1) = dir ∧ cbh (mst s) t k bh ∧ (x = -1 ∨ cbh (mst s) t x k)) := fun z => c2 z.1
      rw [@if_neg _ (Classical.propDecidable _) hno]
      refine g_iinc (L' := [aR m0, aI dir, aI bh, aI x, aI ((k : Int) + 1)]) rfl rfl (by omega) rfl ?_
      refine g_goto rfl rfl ?_
      exact ih (k + 1) _ (by omega) (by omega) hx
    · skip
      have hdr : ((mst s).2.1 ((mst s).2.2.1 t k) 1) = dir := c2
      refine g_iload_n rfl rfl ?_
      refine g_iconst (n := -1) rfl (by decide) ?_
      refine g_icmpeq rfl rfl (fun c3 => ?_) (fun c3 => ?_)
      · skip
        have hcb : cbh (mst s) t k bh := by rw [c3]; exact cbh_none _
        refine g_iload_n rfl rfl ?_
        refine g_iconst (n := -1) rfl (by decide) ?_
        refine g_icmpeq rfl rfl (fun c4 => ?_) (fun c4 => ?_)
        · skip
          have hyes : ((mst s).2.1 ((mst s).2.2.1 t k) 1) = dir ∧ cbh (mst s) t k bh ∧ (x = -1 ∨ cbh (mst s) t x k) := ⟨hdr, hcb, Or.inl c4⟩
          rw [@if_pos _ (Classical.propDecidable _) hyes]
          refine g_iload rfl rfl ?_
          refine g_istore_n (L' := [aR m0, aI dir, aI bh, aI ((k : Int)), aI ((k : Int))]) rfl rfl ?_
          refine g_iinc (L' := [aR m0, aI dir, aI bh, aI ((k : Int)), aI ((k : Int) + 1)]) rfl rfl (by omega) rfl ?_
          refine g_goto rfl rfl ?_
          exact ih (k + 1) _ (by omega) (by omega) (by omega)
        · skip
          have hx2 : 0 ≤ x ∧ x < ((mst s).2.2.2.1 t) := by omega
          refine g_aload_n rfl rfl ?_
          refine g_aload_n rfl rfl ?_
          refine g_get (ci := 8) (kk := 11) rfl rfl hW.ob hW.b0 rfl ?_
          rw [show s.2 11 = 30 * (t : Int) from hb]
          refine g_iload rfl rfl ?_
          refine g_iadd rfl (by omega) ?_
          refine g_aload_n rfl rfl ?_
          refine g_get (ci := 8) (kk := 11) rfl rfl hW.ob hW.b0 rfl ?_
          rw [show s.2 11 = 30 * (t : Int) from hb]
          refine g_iload_n rfl rfl ?_
          refine g_iadd rfl (by omega) ?_
          refine g_V (z := yMd_compare) (e := 1) (A := [aI ((30 * (t : Int)) + x), aI ((30 * (t : Int)) + ((k : Int)))]) (rest := []) (v := aI (cmpv (((mst s).1 (2 * (mst s).2.2.1 t (k : Int).toNat))) (((mst s).1 (2 * (mst s).2.2.1 t x.toNat))))) (P := fun h2 => h2 = h) rfl rfl rfl rfl rfl rfl (by omega) hW.ob hW.b0 (m_cmp hM ht hT hW (by omega) (by omega) hx2.1 hx2.2) ?_
          intro hh9 he9
          rw [he9]
          clear he9 hh9
          refine g_ifge rfl rfl (fun c5 => ?_) (fun c5 => ?_)
          · skip
            have hno : ¬ (((mst s).2.1 ((mst s).2.2.1 t k) 1) = dir ∧ cbh (mst s) t k bh ∧ (x = -1 ∨ cbh (mst s) t x k)) := fun z => by
              rcases z.2.2 with y | y
              · omega
              · rcases y with y | y
                · exact y hsk
                · have y2 := y.2
                  rw [ek, hasy] at y2
                  rw [ek] at c5
                  omega
            rw [@if_neg _ (Classical.propDecidable _) hno]
            refine g_iinc (L' := [aR m0, aI dir, aI bh, aI x, aI ((k : Int) + 1)]) rfl rfl (by omega) rfl ?_
            refine g_goto rfl rfl ?_
            exact ih (k + 1) _ (by omega) (by omega) hx
          · skip
            have hyes : ((mst s).2.1 ((mst s).2.2.1 t k) 1) = dir ∧ cbh (mst s) t k bh ∧ (x = -1 ∨ cbh (mst s) t x k) := ⟨hdr, hcb, Or.inr (Or.inr ⟨⟨hx2.1, by omega⟩, by rw [ek, hasy]; rw [ek] at c5; omega⟩)⟩
            rw [@if_pos _ (Classical.propDecidable _) hyes]
            refine g_iload rfl rfl ?_
            refine g_istore_n (L' := [aR m0, aI dir, aI bh, aI ((k : Int)), aI ((k : Int))]) rfl rfl ?_
            refine g_iinc (L' := [aR m0, aI dir, aI bh, aI ((k : Int)), aI ((k : Int) + 1)]) rfl rfl (by omega) rfl ?_
            refine g_goto rfl rfl ?_
            exact ih (k + 1) _ (by omega) (by omega) (by omega)
      · skip
        have hbh2 : 0 ≤ bh ∧ bh < ((mst s).2.2.2.1 t) := by omega
        refine g_aload_n rfl rfl ?_
        refine g_aload_n rfl rfl ?_
        refine g_get (ci := 8) (kk := 11) rfl rfl hW.ob hW.b0 rfl ?_
        rw [show s.2 11 = 30 * (t : Int) from hb]
        refine g_iload rfl rfl ?_
        refine g_iadd rfl (by omega) ?_
        refine g_aload_n rfl rfl ?_
        refine g_get (ci := 8) (kk := 11) rfl rfl hW.ob hW.b0 rfl ?_
        rw [show s.2 11 = 30 * (t : Int) from hb]
        refine g_iload_n rfl rfl ?_
        refine g_iadd rfl (by omega) ?_
        refine g_V (z := yMd_compare) (e := 1) (A := [aI ((30 * (t : Int)) + bh), aI ((30 * (t : Int)) + ((k : Int)))]) (rest := []) (v := aI (cmpv (((mst s).1 (2 * (mst s).2.2.1 t (k : Int).toNat))) (((mst s).1 (2 * (mst s).2.2.1 t bh.toNat))))) (P := fun h2 => h2 = h) rfl rfl rfl rfl rfl rfl (by omega) hW.ob hW.b0 (m_cmp hM ht hT hW (by omega) (by omega) hbh2.1 hbh2.2) ?_
        intro hh9 he9
        rw [he9]
        clear he9 hh9
        refine g_ifgt rfl rfl (fun c6 => ?_) (fun c6 => ?_)
        · skip
          have hcb : cbh (mst s) t k bh := Or.inr ⟨hsk, c6⟩
          refine g_iload_n rfl rfl ?_
          refine g_iconst (n := -1) rfl (by decide) ?_
          refine g_icmpeq rfl rfl (fun c7 => ?_) (fun c7 => ?_)
          · skip
            have hyes : ((mst s).2.1 ((mst s).2.2.1 t k) 1) = dir ∧ cbh (mst s) t k bh ∧ (x = -1 ∨ cbh (mst s) t x k) := ⟨hdr, hcb, Or.inl c7⟩
            rw [@if_pos _ (Classical.propDecidable _) hyes]
            refine g_iload rfl rfl ?_
            refine g_istore_n (L' := [aR m0, aI dir, aI bh, aI ((k : Int)), aI ((k : Int))]) rfl rfl ?_
            refine g_iinc (L' := [aR m0, aI dir, aI bh, aI ((k : Int)), aI ((k : Int) + 1)]) rfl rfl (by omega) rfl ?_
            refine g_goto rfl rfl ?_
            exact ih (k + 1) _ (by omega) (by omega) (by omega)
          · skip
            have hx2 : 0 ≤ x ∧ x < ((mst s).2.2.2.1 t) := by omega
            refine g_aload_n rfl rfl ?_
            refine g_aload_n rfl rfl ?_
            refine g_get (ci := 8) (kk := 11) rfl rfl hW.ob hW.b0 rfl ?_
            rw [show s.2 11 = 30 * (t : Int) from hb]
            refine g_iload rfl rfl ?_
            refine g_iadd rfl (by omega) ?_
            refine g_aload_n rfl rfl ?_
            refine g_get (ci := 8) (kk := 11) rfl rfl hW.ob hW.b0 rfl ?_
            rw [show s.2 11 = 30 * (t : Int) from hb]
            refine g_iload_n rfl rfl ?_
            refine g_iadd rfl (by omega) ?_
            refine g_V (z := yMd_compare) (e := 1) (A := [aI ((30 * (t : Int)) + x), aI ((30 * (t : Int)) + ((k : Int)))]) (rest := []) (v := aI (cmpv (((mst s).1 (2 * (mst s).2.2.1 t (k : Int).toNat))) (((mst s).1 (2 * (mst s).2.2.1 t x.toNat))))) (P := fun h2 => h2 = h) rfl rfl rfl rfl rfl rfl (by omega) hW.ob hW.b0 (m_cmp hM ht hT hW (by omega) (by omega) hx2.1 hx2.2) ?_
            intro hh9 he9
            rw [he9]
            clear he9 hh9
            refine g_ifge rfl rfl (fun c8 => ?_) (fun c8 => ?_)
            · skip
              have hno : ¬ (((mst s).2.1 ((mst s).2.2.1 t k) 1) = dir ∧ cbh (mst s) t k bh ∧ (x = -1 ∨ cbh (mst s) t x k)) := fun z => by
                rcases z.2.2 with y | y
                · omega
                · rcases y with y | y
                  · exact y hsk
                  · have y2 := y.2
                    rw [ek, hasy] at y2
                    rw [ek] at c8
                    omega
              rw [@if_neg _ (Classical.propDecidable _) hno]
              refine g_iinc (L' := [aR m0, aI dir, aI bh, aI x, aI ((k : Int) + 1)]) rfl rfl (by omega) rfl ?_
              refine g_goto rfl rfl ?_
              exact ih (k + 1) _ (by omega) (by omega) hx
            · skip
              have hyes : ((mst s).2.1 ((mst s).2.2.1 t k) 1) = dir ∧ cbh (mst s) t k bh ∧ (x = -1 ∨ cbh (mst s) t x k) := ⟨hdr, hcb, Or.inr (Or.inr ⟨⟨hx2.1, by omega⟩, by rw [ek, hasy]; rw [ek] at c8; omega⟩)⟩
              rw [@if_pos _ (Classical.propDecidable _) hyes]
              refine g_iload rfl rfl ?_
              refine g_istore_n (L' := [aR m0, aI dir, aI bh, aI ((k : Int)), aI ((k : Int))]) rfl rfl ?_
              refine g_iinc (L' := [aR m0, aI dir, aI bh, aI ((k : Int)), aI ((k : Int) + 1)]) rfl rfl (by omega) rfl ?_
              refine g_goto rfl rfl ?_
              exact ih (k + 1) _ (by omega) (by omega) (by omega)
        · skip
          have hno : ¬ (((mst s).2.1 ((mst s).2.2.1 t k) 1) = dir ∧ cbh (mst s) t k bh ∧ (x = -1 ∨ cbh (mst s) t x k)) := fun z => by
            rcases z.2.1 with y | y
            · exact y ⟨hbh2.1, by omega⟩
            · have y2 := y.2
              omega
          rw [@if_neg _ (Classical.propDecidable _) hno]
          refine g_goto rfl rfl ?_
          refine g_iinc (L' := [aR m0, aI dir, aI bh, aI x, aI ((k : Int) + 1)]) rfl rfl (by omega) rfl ?_
          refine g_goto rfl rfl ?_
          exact ih (k + 1) _ (by omega) (by omega) hx
theorem m_next (hd1 : 1 ≤ d) (hM : MOK s) (ht : t < 2) (hb : s.2 11 = 30 * (t : Int)) (hT : TI (mst s) t) (hW : WM B m0 h s) (dir bh : Int) (hbh : bh = -1 ∨ (0 ≤ bh ∧ bh < ((mst s).2.2.2.1 t))) : Cal d yMd_next [aR m0, aI dir, aI bh] h (RV (some (aI (nxt (mst s) t dir bh))) (fun h2 => h2 = h)) := by
  obtain ⟨d, rfl⟩ : ∃ e, d = e + 1 := ⟨d - 1, by omega⟩
  have hc := hT.c
  show Go _ _ 0 [aR m0, aI dir, aI bh, none, none] [] _ _
  refine g_iconst (n := -1) rfl (by decide) ?_
  refine g_istore_n (L' := [aR m0, aI dir, aI bh, aI (-1), none]) rfl rfl ?_
  refine g_iconst (n := 1) rfl (by decide) ?_
  refine g_istore (L' := [aR m0, aI dir, aI bh, aI (-1), aI 1]) rfl rfl ?_
  exact mx_loop (d := d) hM ht hb hT hW dir bh hbh (((mst s).2.2.2.1 t) - 1) 1 (-1) (by omega) (by omega) (Or.inl rfl)
noncomputable def cutM (l : List Int) : Int := if l.length ≤ 100 then 0 else pk (cutP l = -1 ∨ 155 < cutP l) (-1) (cutP l)
theorem mu_loop (hW : WM B m0 h s) (h0 : 100 < s.2 16) (h1 : s.2 16 ≤ 3200) : ∀ (q i : Nat), (i : Int) ≤ s.2 16 → (s.2 16 - i).toNat ≤ q → (∀ j : Nat, (wy s).length - 101 ≤ j → j < i → rat (wy s) (j : Int) ≠ 47) → Go d yMd_cutOf 13 [aR m0, aI (i : Int)] [] h (RV (some (aI (cutM (wy s)))) (fun h2 => h2 = h)) := by
  have hl := wy_len s
  have hcm : cutM (wy s) = pk (cutP (wy s) = -1 ∨ 155 < cutP (wy s)) (-1) (cutP (wy s)) := if_neg (by omega)
  rw [hcm]
  intro q
  induction q with
  | zero =>
    intro i a1 a2 a3
    have hcp : cutP (wy s) = -1 := ffst_no _ _ (fun j b1 b2 => a3 j b1 (by omega))
    refine g_iload_n rfl rfl ?_
    refine g_aload_n rfl rfl ?_
    refine g_get (ci := 8) (kk := 16) rfl rfl hW.ob hW.b0 rfl ?_
    refine g_icmpge rfl rfl (fun c1 => ?_) (fun c => absurd c (by omega))
    refine g_iload_n rfl rfl ?_
    refine g_sipush (n := 155) rfl (by decide) ?_
    refine g_icmpgt rfl rfl (fun c2 => ?_) (fun c2 => ?_)
    · skip
      refine g_iconst (n := -1) rfl (by decide) ?_
      refine g_goto rfl rfl ?_
      exact r_i rfl rfl (pk_t (Or.inl hcp)).symm rfl
    · skip
      refine g_iload_n rfl rfl ?_
      refine g_aload_n rfl rfl ?_
      refine g_get (ci := 8) (kk := 16) rfl rfl hW.ob hW.b0 rfl ?_
      refine g_iconst (n := 1) rfl (by decide) ?_
      refine g_isub rfl (by omega) ?_
      refine g_icmplt rfl rfl (fun c => absurd c (by omega)) (fun c3 => ?_)
      refine g_iconst (n := -1) rfl (by decide) ?_
      refine g_goto rfl rfl ?_
      exact r_i rfl rfl (pk_t (Or.inl hcp)).symm rfl
  | succ q ih =>
    intro i a1 a2 a3
    by_cases hi : (i : Int) < s.2 16
    · have hr := wy_rat s (i := (i : Int)) (by omega) hi
      have h8 := hW.w8 (i : Int).toNat
      refine g_iload_n rfl rfl ?_
      refine g_aload_n rfl rfl ?_
      refine g_get (ci := 8) (kk := 16) rfl rfl hW.ob hW.b0 rfl ?_
      refine g_icmpge rfl rfl (fun c => absurd c (by omega)) (fun c1 => ?_)
      refine g_aload_n rfl rfl ?_
      refine g_get (ci := 8) (kk := 15) rfl rfl hW.ob hW.b0 rfl ?_
      refine g_iload_n rfl rfl ?_
      refine g_bald rfl hW.a13 (by omega) ?_
      refine g_bipush (n := 47) rfl (by decide) ?_
      refine g_icmpne rfl rfl (fun c2 => ?_) (fun c2 => ?_)
      · skip
        have y1 := c2
        refine g_iinc (L' := [aR m0, aI ((i : Int) + 1)]) rfl rfl (by omega) rfl ?_
        refine g_goto rfl rfl ?_
        exact ih (i + 1) (by omega) (by omega) (fun j b1 b2 => by
          by_cases e : j = i
          · rw [e, hr]; omega
          · exact a3 j b1 (by omega))
      · skip
        have y1 := c2
        refine g_aload_n rfl rfl ?_
        refine g_get (ci := 8) (kk := 16) rfl rfl hW.ob hW.b0 rfl ?_
        refine g_iload_n rfl rfl ?_
        refine g_isub rfl (by omega) ?_
        refine g_iconst (n := 1) rfl (by decide) ?_
        refine g_isub rfl (by omega) ?_
        refine g_bipush (n := 100) rfl (by decide) ?_
        refine g_icmple rfl rfl (fun c3 => ?_) (fun c3 => ?_)
        · skip
          have y2 := c3
          have hcp : (i : Int) < s.2 16 - 1 → cutP (wy s) = i := fun z => ffst_at _ _ (by omega) (by omega) (by rw [hr]; omega) (fun j b1 b2 => a3 j b1 b2)
          have hcn : s.2 16 - 1 ≤ (i : Int) → cutP (wy s) = -1 := fun z => ffst_no _ _ (fun j b1 b2 => a3 j b1 (by omega))
          refine g_iload_n rfl rfl ?_
          refine g_sipush (n := 155) rfl (by decide) ?_
          refine g_icmpgt rfl rfl (fun c4 => ?_) (fun c4 => ?_)
          · skip
            refine g_iconst (n := -1) rfl (by decide) ?_
            refine g_goto rfl rfl ?_
            have hor : cutP (wy s) = -1 ∨ 155 < cutP (wy s) := by
              by_cases z : (i : Int) < s.2 16 - 1
              · right
                rw [hcp z]
                omega
              · left
                exact hcn (by omega)
            exact r_i rfl rfl (pk_t hor).symm rfl
          · skip
            refine g_iload_n rfl rfl ?_
            refine g_aload_n rfl rfl ?_
            refine g_get (ci := 8) (kk := 16) rfl rfl hW.ob hW.b0 rfl ?_
            refine g_iconst (n := 1) rfl (by decide) ?_
            refine g_isub rfl (by omega) ?_
            refine g_icmplt rfl rfl (fun c5 => ?_) (fun c5 => ?_)
            · skip
              refine g_iload_n rfl rfl ?_
              exact r_i rfl rfl (by rw [pk_f (by rw [hcp (by omega)]; omega), hcp (by omega)]) rfl
            · skip
              refine g_iconst (n := -1) rfl (by decide) ?_
              refine g_goto rfl rfl ?_
              have hor : cutP (wy s) = -1 ∨ 155 < cutP (wy s) := by
                by_cases z : (i : Int) < s.2 16 - 1
                · right
                  rw [hcp z]
                  omega
                · left
                  exact hcn (by omega)
              exact r_i rfl rfl (pk_t hor).symm rfl
        · skip
          have y2 := c3
          refine g_iinc (L' := [aR m0, aI ((i : Int) + 1)]) rfl rfl (by omega) rfl ?_
          refine g_goto rfl rfl ?_
          exact ih (i + 1) (by omega) (by omega) (fun j b1 b2 => by
            by_cases e : j = i
            · rw [e, hr]; omega
            · exact a3 j b1 (by omega))
    · have hcp : cutP (wy s) = -1 := ffst_no _ _ (fun j b1 b2 => a3 j b1 (by omega))
      refine g_iload_n rfl rfl ?_
      refine g_aload_n rfl rfl ?_
      refine g_get (ci := 8) (kk := 16) rfl rfl hW.ob hW.b0 rfl ?_
      refine g_icmpge rfl rfl (fun c1 => ?_) (fun c => absurd c (by omega))
      refine g_iload_n rfl rfl ?_
      refine g_sipush (n := 155) rfl (by decide) ?_
      refine g_icmpgt rfl rfl (fun c2 => ?_) (fun c2 => ?_)
      · skip
        refine g_iconst (n := -1) rfl (by decide) ?_
        refine g_goto rfl rfl ?_
        exact r_i rfl rfl (pk_t (Or.inl hcp)).symm rfl
      · skip
        refine g_iload_n rfl rfl ?_
        refine g_aload_n rfl rfl ?_
        refine g_get (ci := 8) (kk := 16) rfl rfl hW.ob hW.b0 rfl ?_
        refine g_iconst (n := 1) rfl (by decide) ?_
        refine g_isub rfl (by omega) ?_
        refine g_icmplt rfl rfl (fun c => absurd c (by omega)) (fun c3 => ?_)
        refine g_iconst (n := -1) rfl (by decide) ?_
        refine g_goto rfl rfl ?_
        exact r_i rfl rfl (pk_t (Or.inl hcp)).symm rfl
theorem m_cutOf (hW : WM B m0 h s) (h0 : 0 ≤ s.2 16) (h1 : s.2 16 ≤ 3200) : Cal d yMd_cutOf [aR m0] h (RV (some (aI (cutM (wy s)))) (fun h2 => h2 = h)) := by
  have hl := wy_len s
  show Go _ _ 0 [aR m0, none] [] _ _
  refine g_aload_n rfl rfl ?_
  refine g_get (ci := 8) (kk := 16) rfl rfl hW.ob hW.b0 rfl ?_
  refine g_bipush (n := 100) rfl (by decide) ?_
  refine g_icmpgt rfl rfl (fun c1 => ?_) (fun c1 => ?_)
  · skip
    refine g_iconst (n := 0) rfl (by decide) ?_
    refine g_istore_n (L' := [aR m0, aI 0]) rfl rfl ?_
    exact mu_loop hW (by omega) h1 (s.2 16).toNat 0 (by omega) (by omega) (fun j b1 b2 => by omega)
  · skip
    refine g_iconst (n := 0) rfl (by decide) ?_
    exact r_i rfl rfl (if_pos (by omega)).symm rfl
end Md4
