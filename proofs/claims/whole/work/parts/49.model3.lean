/-! The reference: who is called so, comparisons, the next in the order, where a path is cut. -/
section Md3
variable {B h : AH} {m0 d t : Nat} {s : MS}
theorem nmM_len (s : MS) (k : Nat) : (nmM s k).length = (s.1 3 k).toNat := oF_len _ _
theorem nmM_get (s : MS) {k j : Nat} (h : (j : Int) < s.1 3 k) : (nmM s k).getD j 0 = s.1 10 (100 * k + j) := oF_get (by omega)
theorem mi_end (k f n i V : Int) (hV : V = 0) : Go d yMd_isCalled 21 [aR m0, aI k, aR (m0 + 13), aI f, aI n, aI 0, aI i] [] h (RV (some (aI V)) (fun h2 => h2 = h)) := by
  subst hV
  refine g_iload rfl rfl ?_
  refine g_iload rfl rfl ?_
  refine g_icmpge rfl rfl (fun c1 => ?_) (fun c1 => ?_)
  · skip
    refine g_iload rfl rfl ?_
    exact r_z rfl rfl (by decide) rfl rfl
  · skip
    refine g_iload rfl rfl ?_
    refine g_ifeq rfl rfl (fun c => ?_) (fun c => absurd c (by decide))
    refine g_iload rfl rfl ?_
    exact r_z rfl rfl (by decide) rfl rfl
theorem mi_loop (hM : MOK s) (hW : WM B m0 h s) (k : Nat) (hk : k < 60) (f n : Int) (hf : 0 ≤ f) (hw : f + n ≤ s.2 16) (hw2 : s.2 16 ≤ 3200) (hln : s.1 3 k = n) : ∀ (q : Nat) (i : Int), 0 ≤ i → i ≤ n → (n - i).toNat ≤ q → (∀ j : Nat, (j : Int) < i → (nmM s k).getD j 0 = (wy s).getD (f.toNat + j) 0) → Go d yMd_isCalled 21 [aR m0, aI (k : Int), aR (m0 + 13), aI f, aI n, aI 1, aI i] [] h (RV (some (aI (pz (sli (nmM s k) (wy s) f (f + n))))) (fun h2 => h2 = h)) := by
  have hm := hM.1 k hk
  have hl := nmM_len s k
  have hwl := wy_len s
  have hok : (∀ j : Nat, (j : Int) < n → (nmM s k).getD j 0 = (wy s).getD (f.toNat + j) 0) → sli (nmM s k) (wy s) f (f + n) := fun z => ⟨hf, by omega, by omega, fun j hj => z j (by omega)⟩
  intro q
  induction q with
  | zero =>
    intro i h1 h2 h3 h4
    refine g_iload rfl rfl ?_
    refine g_iload rfl rfl ?_
    refine g_icmpge rfl rfl (fun c1 => ?_) (fun c => absurd c (by omega))
    refine g_iload rfl rfl ?_
    exact r_z rfl rfl (by decide) (pz_t (hok (fun j a => h4 j (by omega)))).symm rfl
  | succ q ih =>
    intro i h1 h2 h3 h4
    by_cases hi : i < n
    · have g1 := nmM_get s (k := k) (j := i.toNat) (by omega)
      have g2 := wy_get s (j := f.toNat + i.toNat) (by omega)
      have e1 : (100 * (k : Int) + i).toNat = 100 * k + i.toNat := by omega
      have e2 : (f + i).toNat = f.toNat + i.toNat := by omega
      refine g_iload rfl rfl ?_
      refine g_iload rfl rfl ?_
      refine g_icmpge rfl rfl (fun c => absurd c (by omega)) (fun c1 => ?_)
      refine g_iload rfl rfl ?_
      refine g_ifeq rfl rfl (fun c => absurd c (by decide)) (fun c => ?_)
      refine g_aload_n rfl rfl ?_
      refine g_get (ci := 8) (kk := 9) rfl rfl hW.ob hW.b0 rfl ?_
      refine g_bipush (n := 100) rfl (by decide) ?_
      refine g_iload_n rfl rfl ?_
      refine g_imul rfl (by omega) ?_
      refine g_iload rfl rfl ?_
      refine g_iadd rfl (by omega) ?_
      refine g_bald rfl hW.a10 (by omega) ?_
      rw [show (s.1 10) ((100 * ((k : Int))) + i).toNat = s.1 10 (100 * k + i.toNat) from by rw [e1]]
      refine g_aload_n rfl rfl ?_
      refine g_iload_n rfl rfl ?_
      refine g_iload rfl rfl ?_
      refine g_iadd rfl (by omega) ?_
      refine g_bald rfl hW.a13 (by omega) ?_
      rw [show (s.1 13) (f + i).toNat = s.1 13 (f.toNat + i.toNat) from by rw [e2]]
      refine g_icmpne rfl rfl (fun c3 => ?_) (fun c3 => ?_)
      · skip
        have cz := c3
        refine g_iconst (n := 0) rfl (by decide) ?_
        refine g_istore (L' := [aR m0, aI ((k : Int)), aR (m0 + 13), aI f, aI n, aI 0, aI i]) rfl rfl ?_
        refine g_iinc (L' := [aR m0, aI ((k : Int)), aR (m0 + 13), aI f, aI n, aI 0, aI (i + 1)]) rfl rfl (by omega) rfl ?_
        refine g_goto rfl rfl ?_
        refine mi_end _ f n _ _ (pz_f (fun z => cz ?_))
        have z1 := z.2.2.2 i.toNat (by omega)
        rw [g1, g2] at z1
        exact z1
      · skip
        have cz := c3
        refine g_iconst (n := 1) rfl (by decide) ?_
        refine g_goto rfl rfl ?_
        refine g_istore (L' := [aR m0, aI ((k : Int)), aR (m0 + 13), aI f, aI n, aI 1, aI i]) rfl rfl ?_
        refine g_iinc (L' := [aR m0, aI ((k : Int)), aR (m0 + 13), aI f, aI n, aI 1, aI (i + 1)]) rfl rfl (by omega) rfl ?_
        refine g_goto rfl rfl ?_
        exact ih (i + 1) (by omega) (by omega) (by omega) (fun j a => by
          by_cases e : j = i.toNat
          · rw [e, g1, g2]; exact cz
          · exact h4 j (by omega))
    · skip
      refine g_iload rfl rfl ?_
      refine g_iload rfl rfl ?_
      refine g_icmpge rfl rfl (fun c1 => ?_) (fun c => absurd c (by omega))
      refine g_iload rfl rfl ?_
      exact r_z rfl rfl (by decide) (pz_t (hok (fun j a => h4 j (by omega)))).symm rfl
theorem m_isCalled (hM : MOK s) (hW : WM B m0 h s) (k : Nat) (hk : k < 60) (f n : Int) (hf : 0 ≤ f) (hn : 0 ≤ n) (hw : f + n ≤ s.2 16) (hw2 : s.2 16 ≤ 3200) : Cal d yMd_isCalled [aR m0, aI (k : Int), aR (m0 + 13), aI f, aI n] h (RV (some (aI (pz (sli (nmM s k) (wy s) f (f + n))))) (fun h2 => h2 = h)) := by
  have hm := hM.1 k hk
  have hl := nmM_len s k
  show Go _ _ 0 [aR m0, aI (k : Int), aR (m0 + 13), aI f, aI n, none, none] [] _ _
  refine g_aload_n rfl rfl ?_
  refine g_get (ci := 8) (kk := 2) rfl rfl hW.ob hW.b0 rfl ?_
  refine g_iload_n rfl rfl ?_
  refine g_iald rfl hW.a3 (by omega) ?_
  rw [show (s.1 3) ((k : Int)).toNat = s.1 3 k from rfl]
  refine g_iload rfl rfl ?_
  refine g_icmpne rfl rfl (fun c1 => ?_) (fun c1 => ?_)
  · skip
    have cz := c1
    refine g_iconst (n := 0) rfl (by decide) ?_
    refine g_istore (L' := [aR m0, aI ((k : Int)), aR (m0 + 13), aI f, aI n, aI 0, none]) rfl rfl ?_
    refine g_iconst (n := 0) rfl (by decide) ?_
    refine g_istore (L' := [aR m0, aI ((k : Int)), aR (m0 + 13), aI f, aI n, aI 0, aI 0]) rfl rfl ?_
    exact mi_end _ f n _ _ (pz_f (fun z => cz (by have := z.2.2.1; omega)))
  · skip
    have cz := c1
    refine g_iconst (n := 1) rfl (by decide) ?_
    refine g_goto rfl rfl ?_
    refine g_istore (L' := [aR m0, aI ((k : Int)), aR (m0 + 13), aI f, aI n, aI 1, none]) rfl rfl ?_
    refine g_iconst (n := 0) rfl (by decide) ?_
    refine g_istore (L' := [aR m0, aI ((k : Int)), aR (m0 + 13), aI f, aI n, aI 1, aI 0]) rfl rfl ?_
    exact mi_loop hM hW k hk f n hf hw hw2 cz n.toNat 0 (by omega) (by omega) (by omega) (fun j a => by omega)
theorem chl_lt {st : CS} {t : Nat} {l : List Int} {dir f e : Int} (h : chl st t l dir f e ≠ -1) : 1 ≤ chl st t l dir f e ∧ chl st t l dir f e < (st.2.2.2.1 t) := by
  have := ffst_lt h
  unfold chl
  omega
theorem sli_eq {l l' m : List Int} {f e : Int} (h : sli l m f e) (h' : sli l' m f e) : l = l' := by
  obtain ⟨a1, a2, a3, a4⟩ := h
  obtain ⟨b1, b2, b3, b4⟩ := h'
  exact li_ext (by omega) (fun j hj => by rw [a4 j hj, b4 j (by omega)])
theorem ffst_snoc {p : Nat → Prop} : ∀ (n i : Nat), (ffst p n i = -1 → ¬ p (i + n) → ffst p (n + 1) i = -1) ∧ (ffst p n i = -1 → p (i + n) → ffst p (n + 1) i = ((i + n : Nat) : Int)) ∧ (ffst p n i ≠ -1 → ffst p (n + 1) i = ffst p n i) := by
  intro n
  induction n with
  | zero =>
    intro i
    refine ⟨fun _ q => ffst_f q, fun _ q => ffst_t q, fun q => absurd rfl q⟩
  | succ n ih =>
    intro i
    obtain ⟨h1, h2, h3⟩ := ih (i + 1)
    rw [show i + 1 + n = i + (n + 1) by omega] at h1 h2
    by_cases q : p i
    · rw [ffst_t q, ffst_t q]
      exact ⟨fun z => by omega, fun z => by omega, fun _ => rfl⟩
    · rw [ffst_f q, ffst_f q]
      exact ⟨h1, h2, h3⟩
theorem mf_loop (hM : MOK s) (ht : t < 2) (hT : TI (mst s) t) (hW : WM B m0 h s) (dir f n : Int) (hf : 0 ≤ f) (hn : 0 ≤ n) (hw : f + n ≤ s.2 16) (hw2 : s.2 16 ≤ 3200) : ∀ (q k : Nat), 1 ≤ k → k + q = ((mst s).2.2.2.1 t) → Go (d + 1) yMd_find 6 [aR m0, aI (30 * (t : Int)), aI dir, aR (m0 + 13), aI f, aI n, aI (ffst (fun i => ((mst s).2.1 ((mst s).2.2.1 t i) 1) = dir ∧ sli (((mst s).1 (2 * (mst s).2.2.1 t i))) (wy s) f (f + n)) (k - 1) 1), aI (k : Int)] [] h (RV (some (aI (chl (mst s) t (wy s) dir f (f + n)))) (fun h2 => h2 = h)) := by
  have hc := hT.c
  have hcn := hM.2.1 t ht
  have hC : ((mst s).2.2.2.1 t) = (s.1 9 t).toNat := rfl
  have e30 : (30 * (t : Int) / 30).toNat = t := by omega
  intro q
  induction q with
  | zero =>
    intro k h1 hk
    obtain rfl : k = ((mst s).2.2.2.1 t) := by omega
    refine g_iload rfl rfl ?_
    refine g_aload_n rfl rfl ?_
    refine g_get (ci := 8) (kk := 8) rfl rfl hW.ob hW.b0 rfl ?_
    refine g_iload_n rfl rfl ?_
    refine g_bipush (n := 30) rfl (by decide) ?_
    refine g_idiv (v := (30 * (t : Int)) / 30) rfl (by decide) (a_div30 (by omega) (by omega)) ?_
    refine g_iald rfl hW.a9 (by omega) ?_
    rw [show (s.1 9) ((30 * (t : Int)) / 30).toNat = s.1 9 t from by rw [e30]]
    refine g_icmpge rfl rfl (fun c1 => ?_) (fun c => absurd c (by omega))
    refine g_iload rfl rfl ?_
    exact r_i rfl rfl rfl rfl
  | succ q ih =>
    intro k h1 hk
    have e1 : (30 * (t : Int) + k).toNat = 30 * t + k := by omega
    have eN : ((mst s).1 (2 * (mst s).2.2.1 t k)) = nmM s (30 * t + k) := mst_nm s ht (by omega)
    obtain ⟨x1, x2, x3⟩ := ffst_snoc (p := fun i => ((mst s).2.1 ((mst s).2.2.1 t i) 1) = dir ∧ sli (((mst s).1 (2 * (mst s).2.2.1 t i))) (wy s) f (f + n)) (k - 1) 1
    rw [show k - 1 + 1 = k + 1 - 1 by omega] at x1 x2 x3
    rw [show 1 + (k - 1) = k by omega] at x1 x2
    have hlt := ffst_r (fun i => ((mst s).2.1 ((mst s).2.2.1 t i) 1) = dir ∧ sli (((mst s).1 (2 * (mst s).2.2.1 t i))) (wy s) f (f + n)) (k - 1) 1
    have hpp := ffst_p (p := fun i => ((mst s).2.1 ((mst s).2.2.1 t i) 1) = dir ∧ sli (((mst s).1 (2 * (mst s).2.2.1 t i))) (wy s) f (f + n)) (k - 1) 1
    generalize hF : ffst (fun i => ((mst s).2.1 ((mst s).2.2.1 t i) 1) = dir ∧ sli (((mst s).1 (2 * (mst s).2.2.1 t i))) (wy s) f (f + n)) (k - 1) 1 = F at *
    refine g_iload rfl rfl ?_
    refine g_aload_n rfl rfl ?_
    refine g_get (ci := 8) (kk := 8) rfl rfl hW.ob hW.b0 rfl ?_
    refine g_iload_n rfl rfl ?_
    refine g_bipush (n := 30) rfl (by decide) ?_
    refine g_idiv (v := (30 * (t : Int)) / 30) rfl (by decide) (a_div30 (by omega) (by omega)) ?_
    refine g_iald rfl hW.a9 (by omega) ?_
    rw [show (s.1 9) ((30 * (t : Int)) / 30).toNat = s.1 9 t from by rw [e30]]
    refine g_icmpge rfl rfl (fun c => absurd c (by omega)) (fun c1 => ?_)
    refine g_aload_n rfl rfl ?_
    refine g_get (ci := 8) (kk := 1) rfl rfl hW.ob hW.b0 rfl ?_
    refine g_iload_n rfl rfl ?_
    refine g_iload rfl rfl ?_
    refine g_iadd rfl (by omega) ?_
    refine g_iald rfl hW.a2 (by omega) ?_
    rw [show (s.1 2) ((30 * (t : Int)) + ((k : Int))).toNat = s.1 2 (30 * t + k) from by rw [e1]]
    refine g_iload_n rfl rfl ?_
    refine g_icmpne rfl rfl (fun c2 => ?_) (fun c2 => ?_)
    · skip
      have hno : ¬ (((mst s).2.1 ((mst s).2.2.1 t k) 1) = dir ∧ sli (((mst s).1 (2 * (mst s).2.2.1 t k))) (wy s) f (f + n)) := fun z => c2 z.1
      refine g_iinc (L' := [aR m0, aI (30 * (t : Int)), aI dir, aR (m0 + 13), aI f, aI n, aI F, aI ((k : Int) + 1)]) rfl rfl (by omega) rfl ?_
      refine g_goto rfl rfl ?_
      have h9 := ih (k + 1) (by omega) (by omega)
      have e9 : ffst (fun i => ((mst s).2.1 ((mst s).2.2.1 t i) 1) = dir ∧ sli (((mst s).1 (2 * (mst s).2.2.1 t i))) (wy s) f (f + n)) ((k + 1) - 1) 1 = F := by
        by_cases z : F = -1
        · rw [x1 z hno, z]
        · exact x3 z
      rw [e9] at h9
      exact h9
    · skip
      have hdr : ((mst s).2.1 ((mst s).2.2.1 t k) 1) = dir := c2
      refine g_aload_n rfl rfl ?_
      refine g_iload_n rfl rfl ?_
      refine g_iload rfl rfl ?_
      refine g_iadd rfl (by omega) ?_
      refine g_aload_n rfl rfl ?_
      refine g_iload rfl rfl ?_
      refine g_iload rfl rfl ?_
      refine g_V (z := yMd_isCalled) (e := 1) (A := [aI n, aI f, aR (m0 + 13), aI ((30 * (t : Int)) + ((k : Int)))]) (rest := []) (v := aI (pz (sli (nmM s (30 * t + k)) (wy s) f (f + n)))) (P := fun h2 => h2 = h) rfl rfl rfl rfl rfl rfl (by omega) hW.ob hW.b0 ((by have k9 := m_isCalled (d := d + 1 - 1) hM hW (30 * t + k) (by omega) f n hf hn hw hw2; rw [show ((30 * t + k : Nat) : Int) = 30 * (t : Int) + k by omega] at k9; exact k9)) ?_
      intro hh9 he9
      rw [he9]
      clear he9 hh9
      refine g_ifeq rfl rfl (fun c3 => ?_) (fun c3 => ?_)
      · skip
        have hno : ¬ (((mst s).2.1 ((mst s).2.2.1 t k) 1) = dir ∧ sli (((mst s).1 (2 * (mst s).2.2.1 t k))) (wy s) f (f + n)) := fun z => pz_eq c3 (eN ▸ z.2)
        refine g_iinc (L' := [aR m0, aI (30 * (t : Int)), aI dir, aR (m0 + 13), aI f, aI n, aI F, aI ((k : Int) + 1)]) rfl rfl (by omega) rfl ?_
        refine g_goto rfl rfl ?_
        have h9 := ih (k + 1) (by omega) (by omega)
        have e9 : ffst (fun i => ((mst s).2.1 ((mst s).2.2.1 t i) 1) = dir ∧ sli (((mst s).1 (2 * (mst s).2.2.1 t i))) (wy s) f (f + n)) ((k + 1) - 1) 1 = F := by
          by_cases z : F = -1
          · rw [x1 z hno, z]
          · exact x3 z
        rw [e9] at h9
        exact h9
      · skip
        have hyes : ((mst s).2.1 ((mst s).2.2.1 t k) 1) = dir ∧ sli (((mst s).1 (2 * (mst s).2.2.1 t k))) (wy s) f (f + n) := ⟨hdr, eN ▸ pz_ne c3⟩
        refine g_iload rfl rfl ?_
        refine g_istore (L' := [aR m0, aI (30 * (t : Int)), aI dir, aR (m0 + 13), aI f, aI n, aI ((k : Int)), aI ((k : Int))]) rfl rfl ?_
        refine g_iinc (L' := [aR m0, aI (30 * (t : Int)), aI dir, aR (m0 + 13), aI f, aI n, aI ((k : Int)), aI ((k : Int) + 1)]) rfl rfl (by omega) rfl ?_
        refine g_goto rfl rfl ?_
        have h9 := ih (k + 1) (by omega) (by omega)
        have e9 : ffst (fun i => ((mst s).2.1 ((mst s).2.2.1 t i) 1) = dir ∧ sli (((mst s).1 (2 * (mst s).2.2.1 t i))) (wy s) f (f + n)) ((k + 1) - 1) 1 = (k : Int) := by
          by_cases z : F = -1
          · exact x2 z hyes
          · exfalso
            have p1 := hpp z
            have e8 := hT.u F.toNat k (by omega) (by omega) (by omega) (by omega) (by rw [p1.1, hyes.1]) (sli_eq p1.2 hyes.2)
            omega
        rw [e9] at h9
        exact h9
theorem m_find (hd1 : 1 ≤ d) (hM : MOK s) (ht : t < 2) (hT : TI (mst s) t) (hW : WM B m0 h s) (dir f n : Int) (hf : 0 ≤ f) (hn : 0 ≤ n) (hw : f + n ≤ s.2 16) (hw2 : s.2 16 ≤ 3200) : Cal d yMd_find [aR m0, aI (30 * (t : Int)), aI dir, aR (m0 + 13), aI f, aI n] h (RV (some (aI (chl (mst s) t (wy s) dir f (f + n)))) (fun h2 => h2 = h)) := by
  obtain ⟨d, rfl⟩ : ∃ e, d = e + 1 := ⟨d - 1, by omega⟩
  have hc := hT.c
  show Go _ _ 0 [aR m0, aI (30 * (t : Int)), aI dir, aR (m0 + 13), aI f, aI n, none, none] [] _ _
  refine g_iconst (n := -1) rfl (by decide) ?_
  refine g_istore (L' := [aR m0, aI (30 * (t : Int)), aI dir, aR (m0 + 13), aI f, aI n, aI (-1), none]) rfl rfl ?_
  refine g_iconst (n := 1) rfl (by decide) ?_
  refine g_istore (L' := [aR m0, aI (30 * (t : Int)), aI dir, aR (m0 + 13), aI f, aI n, aI (-1), aI 1]) rfl rfl ?_
  exact mf_loop (d := d) hM ht hT hW dir f n hf hn hw hw2 (((mst s).2.2.2.1 t) - 1) 1 (by omega) (by omega)
theorem mc_loop (hM : MOK s) (hW : WM B m0 h s) (a b : Nat) (ha : a < 60) (hb : b < 60) (pa : ∀ j : Nat, (j : Int) < s.1 3 a → 0 ≤ s.1 10 (100 * a + j)) (pb : ∀ j : Nat, (j : Int) < s.1 3 b → 0 ≤ s.1 10 (100 * b + j)) : ∀ (q : Nat) (k : Nat), (k : Int) ≤ s.1 3 a → (k : Int) ≤ s.1 3 b → (s.1 3 a - k).toNat ≤ q → cmpv (nmM s a) (nmM s b) = cmpv ((nmM s a).drop k) ((nmM s b).drop k) → Go d yMd_compare 2 [aR m0, aI (a : Int), aI (b : Int), aI (k : Int)] [] h (RV (some (aI (cmpv (nmM s a) (nmM s b)))) (fun h2 => h2 = h)) := by
  have hma := hM.1 a ha
  have hmb := hM.1 b hb
  have la := nmM_len s a
  have lb' := nmM_len s b
  have hnil : ∀ k : Nat, (k : Int) ≤ s.1 3 a → (k : Int) ≤ s.1 3 b → (k : Int) = s.1 3 a ∨ (k : Int) = s.1 3 b → cmpv ((nmM s a).drop k) ((nmM s b).drop k) = s.1 3 a - s.1 3 b := fun k h1 h2 h3 => by
    have e : cmpv ((nmM s a).drop k) ((nmM s b).drop k) = (((nmM s a).drop k).length : Int) - ((nmM s b).drop k).length := cmpv_nil (by
      rcases h3 with z | z
      · exact Or.inl (List.drop_eq_nil_of_le (by omega))
      · exact Or.inr (List.drop_eq_nil_of_le (by omega)))
    rw [e, List.length_drop, List.length_drop]
    omega
  intro q
  induction q with
  | zero =>
    intro k h1 h2 h3 h4
    refine g_iload_n rfl rfl ?_
    refine g_aload_n rfl rfl ?_
    refine g_get (ci := 8) (kk := 2) rfl rfl hW.ob hW.b0 rfl ?_
    refine g_iload_n rfl rfl ?_
    refine g_iald rfl hW.a3 (by omega) ?_
    rw [show (s.1 3) ((a : Int)).toNat = s.1 3 a from rfl]
    refine g_icmpge rfl rfl (fun c1 => ?_) (fun c => absurd c (by omega))
    refine g_iload_n rfl rfl ?_
    refine g_aload_n rfl rfl ?_
    refine g_get (ci := 8) (kk := 2) rfl rfl hW.ob hW.b0 rfl ?_
    refine g_iload_n rfl rfl ?_
    refine g_iald rfl hW.a3 (by omega) ?_
    rw [show (s.1 3) ((a : Int)).toNat = s.1 3 a from rfl]
    refine g_icmpeq rfl rfl (fun c2 => ?_) (fun c => absurd c (by omega))
    refine g_aload_n rfl rfl ?_
    refine g_get (ci := 8) (kk := 2) rfl rfl hW.ob hW.b0 rfl ?_
    refine g_iload_n rfl rfl ?_
    refine g_iald rfl hW.a3 (by omega) ?_
    rw [show (s.1 3) ((a : Int)).toNat = s.1 3 a from rfl]
    refine g_aload_n rfl rfl ?_
    refine g_get (ci := 8) (kk := 2) rfl rfl hW.ob hW.b0 rfl ?_
    refine g_iload_n rfl rfl ?_
    refine g_iald rfl hW.a3 (by omega) ?_
    rw [show (s.1 3) ((b : Int)).toNat = s.1 3 b from rfl]
    refine g_isub rfl (by omega) ?_
    exact r_i rfl rfl (by rw [h4, hnil k h1 h2 (by omega)]) rfl
  | succ q ih =>
    intro k h1 h2 h3 h4
    have e1 : (100 * (a : Int) + k).toNat = 100 * a + k := by omega
    have e2 : (100 * (b : Int) + k).toNat = 100 * b + k := by omega
    have n1 := hW.n8 (100 * a + k)
    have n2 := hW.n8 (100 * b + k)
    have hcons : (k : Int) < s.1 3 a → (k : Int) < s.1 3 b → cmpv ((nmM s a).drop k) ((nmM s b).drop k) = if s.1 10 (100 * a + k) % 256 = s.1 10 (100 * b + k) % 256 then cmpv ((nmM s a).drop (k + 1)) ((nmM s b).drop (k + 1)) else s.1 10 (100 * a + k) % 256 - s.1 10 (100 * b + k) % 256 := fun z1 z2 => by
      rw [drop_cons (l := nmM s a) (i := k) (by omega), drop_cons (l := nmM s b) (i := k) (by omega), cmpv_cons, nmM_get s z1, nmM_get s z2]
    refine g_iload_n rfl rfl ?_
    refine g_aload_n rfl rfl ?_
    refine g_get (ci := 8) (kk := 2) rfl rfl hW.ob hW.b0 rfl ?_
    refine g_iload_n rfl rfl ?_
    refine g_iald rfl hW.a3 (by omega) ?_
    rw [show (s.1 3) ((a : Int)).toNat = s.1 3 a from rfl]
    refine g_icmpge rfl rfl (fun c1 => ?_) (fun c1 => ?_)
    · skip
      refine g_iload_n rfl rfl ?_
      refine g_aload_n rfl rfl ?_
      refine g_get (ci := 8) (kk := 2) rfl rfl hW.ob hW.b0 rfl ?_
      refine g_iload_n rfl rfl ?_
      refine g_iald rfl hW.a3 (by omega) ?_
      rw [show (s.1 3) ((a : Int)).toNat = s.1 3 a from rfl]
      refine g_icmpeq rfl rfl (fun c2 => ?_) (fun c2 => ?_)
      · skip
        refine g_aload_n rfl rfl ?_
        refine g_get (ci := 8) (kk := 2) rfl rfl hW.ob hW.b0 rfl ?_
        refine g_iload_n rfl rfl ?_
        refine g_iald rfl hW.a3 (by omega) ?_
        rw [show (s.1 3) ((a : Int)).toNat = s.1 3 a from rfl]
        refine g_aload_n rfl rfl ?_
        refine g_get (ci := 8) (kk := 2) rfl rfl hW.ob hW.b0 rfl ?_
        refine g_iload_n rfl rfl ?_
        refine g_iald rfl hW.a3 (by omega) ?_
        rw [show (s.1 3) ((b : Int)).toNat = s.1 3 b from rfl]
        refine g_isub rfl (by omega) ?_
        exact r_i rfl rfl (by rw [h4, hnil k h1 h2 (by omega)]) rfl
      · skip
        refine g_iload_n rfl rfl ?_
        refine g_aload_n rfl rfl ?_
        refine g_get (ci := 8) (kk := 2) rfl rfl hW.ob hW.b0 rfl ?_
        refine g_iload_n rfl rfl ?_
        refine g_iald rfl hW.a3 (by omega) ?_
        rw [show (s.1 3) ((b : Int)).toNat = s.1 3 b from rfl]
        refine g_icmpne rfl rfl (fun c3 => ?_) (fun c3 => ?_)
        · skip
          refine g_aload_n rfl rfl ?_
          refine g_get (ci := 8) (kk := 9) rfl rfl hW.ob hW.b0 rfl ?_
          refine g_bipush (n := 100) rfl (by decide) ?_
          refine g_iload_n rfl rfl ?_
          refine g_imul rfl (by omega) ?_
          refine g_iload_n rfl rfl ?_
          refine g_iadd rfl (by omega) ?_
          refine g_bald rfl hW.a10 (by omega) ?_
          rw [show (s.1 10) ((100 * ((a : Int))) + ((k : Int))).toNat = s.1 10 (100 * a + k) from by rw [e1]]
          refine g_aload_n rfl rfl ?_
          refine g_get (ci := 8) (kk := 9) rfl rfl hW.ob hW.b0 rfl ?_
          refine g_bipush (n := 100) rfl (by decide) ?_
          refine g_iload_n rfl rfl ?_
          refine g_imul rfl (by omega) ?_
          refine g_iload_n rfl rfl ?_
          refine g_iadd rfl (by omega) ?_
          refine g_bald rfl hW.a10 (by omega) ?_
          rw [show (s.1 10) ((100 * ((b : Int))) + ((k : Int))).toNat = s.1 10 (100 * b + k) from by rw [e2]]
          refine g_isub rfl (by omega) ?_
          have p1 := pa k (by omega)
          have p2 := pb k (by omega)
          exact r_i rfl rfl (by rw [h4, hcons (by omega) (by omega), if_neg (by omega)]; omega) rfl
        · skip
          refine g_aload_n rfl rfl ?_
          refine g_get (ci := 8) (kk := 2) rfl rfl hW.ob hW.b0 rfl ?_
          refine g_iload_n rfl rfl ?_
          refine g_iald rfl hW.a3 (by omega) ?_
          rw [show (s.1 3) ((a : Int)).toNat = s.1 3 a from rfl]
          refine g_aload_n rfl rfl ?_
          refine g_get (ci := 8) (kk := 2) rfl rfl hW.ob hW.b0 rfl ?_
          refine g_iload_n rfl rfl ?_
          refine g_iald rfl hW.a3 (by omega) ?_
          rw [show (s.1 3) ((b : Int)).toNat = s.1 3 b from rfl]
          refine g_isub rfl (by omega) ?_
          exact r_i rfl rfl (by rw [h4, hnil k h1 h2 (by omega)]) rfl
    · skip
      refine g_iload_n rfl rfl ?_
      refine g_aload_n rfl rfl ?_
      refine g_get (ci := 8) (kk := 2) rfl rfl hW.ob hW.b0 rfl ?_
      refine g_iload_n rfl rfl ?_
      refine g_iald rfl hW.a3 (by omega) ?_
      rw [show (s.1 3) ((b : Int)).toNat = s.1 3 b from rfl]
      refine g_icmpge rfl rfl (fun c4 => ?_) (fun c4 => ?_)
      · skip
        refine g_iload_n rfl rfl ?_
        refine g_aload_n rfl rfl ?_
        refine g_get (ci := 8) (kk := 2) rfl rfl hW.ob hW.b0 rfl ?_
        refine g_iload_n rfl rfl ?_
        refine g_iald rfl hW.a3 (by omega) ?_
        rw [show (s.1 3) ((a : Int)).toNat = s.1 3 a from rfl]
        refine g_icmpeq rfl rfl (fun c5 => ?_) (fun c5 => ?_)
        · skip
          refine g_aload_n rfl rfl ?_
          refine g_get (ci := 8) (kk := 2) rfl rfl hW.ob hW.b0 rfl ?_
          refine g_iload_n rfl rfl ?_
          refine g_iald rfl hW.a3 (by omega) ?_
          rw [show (s.1 3) ((a : Int)).toNat = s.1 3 a from rfl]
          refine g_aload_n rfl rfl ?_
          refine g_get (ci := 8) (kk := 2) rfl rfl hW.ob hW.b0 rfl ?_
          refine g_iload_n rfl rfl ?_
          refine g_iald rfl hW.a3 (by omega) ?_
          rw [show (s.1 3) ((b : Int)).toNat = s.1 3 b from rfl]
          refine g_isub rfl (by omega) ?_
          exact r_i rfl rfl (by rw [h4, hnil k h1 h2 (by omega)]) rfl
        · skip
          refine g_iload_n rfl rfl ?_
          refine g_aload_n rfl rfl ?_
          refine g_get (ci := 8) (kk := 2) rfl rfl hW.ob hW.b0 rfl ?_
          refine g_iload_n rfl rfl ?_
          refine g_iald rfl hW.a3 (by omega) ?_
          rw [show (s.1 3) ((b : Int)).toNat = s.1 3 b from rfl]
          refine g_icmpne rfl rfl (fun c6 => ?_) (fun c6 => ?_)
          · skip
            refine g_aload_n rfl rfl ?_
            refine g_get (ci := 8) (kk := 9) rfl rfl hW.ob hW.b0 rfl ?_
            refine g_bipush (n := 100) rfl (by decide) ?_
            refine g_iload_n rfl rfl ?_
            refine g_imul rfl (by omega) ?_
            refine g_iload_n rfl rfl ?_
            refine g_iadd rfl (by omega) ?_
            refine g_bald rfl hW.a10 (by omega) ?_
            rw [show (s.1 10) ((100 * ((a : Int))) + ((k : Int))).toNat = s.1 10 (100 * a + k) from by rw [e1]]
            refine g_aload_n rfl rfl ?_
            refine g_get (ci := 8) (kk := 9) rfl rfl hW.ob hW.b0 rfl ?_
            refine g_bipush (n := 100) rfl (by decide) ?_
            refine g_iload_n rfl rfl ?_
            refine g_imul rfl (by omega) ?_
            refine g_iload_n rfl rfl ?_
            refine g_iadd rfl (by omega) ?_
            refine g_bald rfl hW.a10 (by omega) ?_
            rw [show (s.1 10) ((100 * ((b : Int))) + ((k : Int))).toNat = s.1 10 (100 * b + k) from by rw [e2]]
            refine g_isub rfl (by omega) ?_
            have p1 := pa k (by omega)
            have p2 := pb k (by omega)
            exact r_i rfl rfl (by rw [h4, hcons (by omega) (by omega), if_neg (by omega)]; omega) rfl
          · skip
            refine g_aload_n rfl rfl ?_
            refine g_get (ci := 8) (kk := 2) rfl rfl hW.ob hW.b0 rfl ?_
            refine g_iload_n rfl rfl ?_
            refine g_iald rfl hW.a3 (by omega) ?_
            rw [show (s.1 3) ((a : Int)).toNat = s.1 3 a from rfl]
            refine g_aload_n rfl rfl ?_
            refine g_get (ci := 8) (kk := 2) rfl rfl hW.ob hW.b0 rfl ?_
            refine g_iload_n rfl rfl ?_
            refine g_iald rfl hW.a3 (by omega) ?_
            rw [show (s.1 3) ((b : Int)).toNat = s.1 3 b from rfl]
            refine g_isub rfl (by omega) ?_
            exact r_i rfl rfl (by rw [h4, hnil k h1 h2 (by omega)]) rfl
      · skip
        refine g_aload_n rfl rfl ?_
        refine g_get (ci := 8) (kk := 9) rfl rfl hW.ob hW.b0 rfl ?_
        refine g_bipush (n := 100) rfl (by decide) ?_
        refine g_iload_n rfl rfl ?_
        refine g_imul rfl (by omega) ?_
        refine g_iload_n rfl rfl ?_
        refine g_iadd rfl (by omega) ?_
        refine g_bald rfl hW.a10 (by omega) ?_
        rw [show (s.1 10) ((100 * ((a : Int))) + ((k : Int))).toNat = s.1 10 (100 * a + k) from by rw [e1]]
        refine g_aload_n rfl rfl ?_
        refine g_get (ci := 8) (kk := 9) rfl rfl hW.ob hW.b0 rfl ?_
        refine g_bipush (n := 100) rfl (by decide) ?_
        refine g_iload_n rfl rfl ?_
        refine g_imul rfl (by omega) ?_
        refine g_iload_n rfl rfl ?_
        refine g_iadd rfl (by omega) ?_
        refine g_bald rfl hW.a10 (by omega) ?_
        rw [show (s.1 10) ((100 * ((b : Int))) + ((k : Int))).toNat = s.1 10 (100 * b + k) from by rw [e2]]
        refine g_icmpne rfl rfl (fun c7 => ?_) (fun c7 => ?_)
        · skip
          have cz := c7
          refine g_iload_n rfl rfl ?_
          refine g_aload_n rfl rfl ?_
          refine g_get (ci := 8) (kk := 2) rfl rfl hW.ob hW.b0 rfl ?_
          refine g_iload_n rfl rfl ?_
          refine g_iald rfl hW.a3 (by omega) ?_
          rw [show (s.1 3) ((a : Int)).toNat = s.1 3 a from rfl]
          refine g_icmpeq rfl rfl (fun c8 => ?_) (fun c8 => ?_)
          · skip
            refine g_aload_n rfl rfl ?_
            refine g_get (ci := 8) (kk := 2) rfl rfl hW.ob hW.b0 rfl ?_
            refine g_iload_n rfl rfl ?_
            refine g_iald rfl hW.a3 (by omega) ?_
            rw [show (s.1 3) ((a : Int)).toNat = s.1 3 a from rfl]
            refine g_aload_n rfl rfl ?_
            refine g_get (ci := 8) (kk := 2) rfl rfl hW.ob hW.b0 rfl ?_
            refine g_iload_n rfl rfl ?_
            refine g_iald rfl hW.a3 (by omega) ?_
            rw [show (s.1 3) ((b : Int)).toNat = s.1 3 b from rfl]
            refine g_isub rfl (by omega) ?_
            exact r_i rfl rfl (by rw [h4, hnil k h1 h2 (by omega)]) rfl
          · skip
            refine g_iload_n rfl rfl ?_
            refine g_aload_n rfl rfl ?_
            refine g_get (ci := 8) (kk := 2) rfl rfl hW.ob hW.b0 rfl ?_
            refine g_iload_n rfl rfl ?_
            refine g_iald rfl hW.a3 (by omega) ?_
            rw [show (s.1 3) ((b : Int)).toNat = s.1 3 b from rfl]
            refine g_icmpne rfl rfl (fun c9 => ?_) (fun c9 => ?_)
            · skip
              refine g_aload_n rfl rfl ?_
              refine g_get (ci := 8) (kk := 9) rfl rfl hW.ob hW.b0 rfl ?_
              refine g_bipush (n := 100) rfl (by decide) ?_
              refine g_iload_n rfl rfl ?_
              refine g_imul rfl (by omega) ?_
              refine g_iload_n rfl rfl ?_
              refine g_iadd rfl (by omega) ?_
              refine g_bald rfl hW.a10 (by omega) ?_
              rw [show (s.1 10) ((100 * ((a : Int))) + ((k : Int))).toNat = s.1 10 (100 * a + k) from by rw [e1]]
              refine g_aload_n rfl rfl ?_
              refine g_get (ci := 8) (kk := 9) rfl rfl hW.ob hW.b0 rfl ?_
              refine g_bipush (n := 100) rfl (by decide) ?_
              refine g_iload_n rfl rfl ?_
              refine g_imul rfl (by omega) ?_
              refine g_iload_n rfl rfl ?_
              refine g_iadd rfl (by omega) ?_
              refine g_bald rfl hW.a10 (by omega) ?_
              rw [show (s.1 10) ((100 * ((b : Int))) + ((k : Int))).toNat = s.1 10 (100 * b + k) from by rw [e2]]
              refine g_isub rfl (by omega) ?_
              have p1 := pa k (by omega)
              have p2 := pb k (by omega)
              exact r_i rfl rfl (by rw [h4, hcons (by omega) (by omega), if_neg (by omega)]; omega) rfl
            · skip
              refine g_aload_n rfl rfl ?_
              refine g_get (ci := 8) (kk := 2) rfl rfl hW.ob hW.b0 rfl ?_
              refine g_iload_n rfl rfl ?_
              refine g_iald rfl hW.a3 (by omega) ?_
              rw [show (s.1 3) ((a : Int)).toNat = s.1 3 a from rfl]
              refine g_aload_n rfl rfl ?_
              refine g_get (ci := 8) (kk := 2) rfl rfl hW.ob hW.b0 rfl ?_
              refine g_iload_n rfl rfl ?_
              refine g_iald rfl hW.a3 (by omega) ?_
              rw [show (s.1 3) ((b : Int)).toNat = s.1 3 b from rfl]
              refine g_isub rfl (by omega) ?_
              exact r_i rfl rfl (by rw [h4, hnil k h1 h2 (by omega)]) rfl
        · skip
          have cz := c7
          refine g_iinc (L' := [aR m0, aI ((a : Int)), aI ((b : Int)), aI ((k : Int) + 1)]) rfl rfl (by omega) rfl ?_
          refine g_goto rfl rfl ?_
          exact ih (k + 1) (by omega) (by omega) (by omega) (by rw [h4, hcons (by omega) (by omega), if_pos (by omega)])
theorem m_compare (hM : MOK s) (hW : WM B m0 h s) (a b : Nat) (ha : a < 60) (hb : b < 60) (pa : ∀ j : Nat, (j : Int) < s.1 3 a → 0 ≤ s.1 10 (100 * a + j)) (pb : ∀ j : Nat, (j : Int) < s.1 3 b → 0 ≤ s.1 10 (100 * b + j)) : Cal d yMd_compare [aR m0, aI (a : Int), aI (b : Int)] h (RV (some (aI (cmpv (nmM s a) (nmM s b)))) (fun h2 => h2 = h)) := by
  have hma := hM.1 a ha
  have hmb := hM.1 b hb
  show Go _ _ 0 [aR m0, aI (a : Int), aI (b : Int), none] [] _ _
  refine g_iconst (n := 0) rfl (by decide) ?_
  refine g_istore_n (L' := [aR m0, aI ((a : Int)), aI ((b : Int)), aI 0]) rfl rfl ?_
  exact mc_loop hM hW a b ha hb pa pb (s.1 3 a).toNat 0 (by omega) (by omega) (by omega) rfl
end Md3
