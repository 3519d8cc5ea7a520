/-! Tree.drop. -/
def sX (st : CS) (t : Nat) (W : Nat → Int) (NI : Nat → Nat → Int) : CS := (st.1, NI, st.2.2.1, st.2.2.2.1, va_up st.2.2.2.2.1 t W, st.2.2.2.2.2)
abbrev sW (st : CS) (t : Nat) (W : Nat → Int) : CS := sX st t W st.2.1
theorem sX_get (st : CS) (t : Nat) (W : Nat → Int) (NI : Nat → Nat → Int) : (sX st t W NI).2.2.2.2.1 t = W := by simp [sX, va_up]
theorem sW_uW (st : CS) (t i : Nat) (W : Nat → Int) (v : Int) : uW (sW st t W) t i v = sW st t (va_up W i v) := by
  unfold uW sW sX
  simp only [Prod.mk.injEq, true_and, and_true]
  funext j
  unfold va_up
  by_cases h : j = t
  · simp [h]
  · simp [h]
theorem sW_self (st : CS) (t : Nat) : sW st t (st.2.2.2.2.1 t) = st := by
  unfold sW sX
  have : va_up st.2.2.2.2.1 t (st.2.2.2.2.1 t) = st.2.2.2.2.1 := by
    funext j
    unfold va_up
    split
    · rename_i h; rw [h]
    · rfl
  rw [this]
theorem uP_get (st : CS) (t : Nat) (f : Nat → Nat) : (uP st t f).2.2.1 t = f := by simp [uP, va_up]
theorem uP_uP (st : CS) (t : Nat) (f f' : Nat → Nat) : uP (uP st t f) t f' = uP st t f' := by
  unfold uP
  simp only [Prod.mk.injEq, true_and, and_true]
  funext j
  unfold va_up
  by_cases h : j = t
  · simp [h]
  · simp [h]
theorem uP_self (st : CS) (t : Nat) : uP st t (st.2.2.1 t) = st := by
  unfold uP
  have : va_up st.2.2.1 t (st.2.2.1 t) = st.2.2.1 := by
    funext j
    unfold va_up
    split
    · rename_i h; rw [h]
    · rfl
  rw [this]
theorem hput_hput (h : AH) (a : Nat) (e e' : AE) : hput (hput h a e) a e' = hput h a e' := by
  unfold hput
  simp only [Prod.mk.injEq, and_true]
  funext j
  unfold hup
  by_cases q : j = a
  · simp [q]
  · simp [q]
def cgF (W : Nat → Int) (C : Nat) : Nat → Nat → (Nat → Nat) → Nat → Nat
  | 0, _, f => f
  | n + 1, i, f => cgF W C n (i + 1) (if 0 ≤ W i ∧ W i < C then swp f i (W i).toNat else f)
section DropC
variable {K : KE} {h : AH} {g : Nat → Nat} {st : CS} {cb sb : Nat} {d t num : Nat} {Q : AO → AH → Prop}
theorem WC.gne (hW : WC K h g st cb sb) {c c' : Nat} (h1 : dm c) (h2 : dm c') (h3 : 325 ≤ c) (h4 : 325 ≤ c') (hne : c ≠ c') : g c ≠ g c' := by
  obtain ⟨hd, hW⟩ := hW
  intro q
  refine hne (hW.2.1 c c' h1 h2 ?_)
  rw [ad_g (by omega), ad_g (by omega), q]
theorem cg_loop (ht : t < 2) : ∀ (n i : Nat) (f : Nat → Nat) (h : AH) (v2 v3 : AV), 1 ≤ i → i + n = (st.2.2.2.1 t) → WC K h g (uP st t f) cb sb → Go (d + 1) yTr_closeGaps 2 [aR (g (500 + t)), aI i, v2, v3] [] h (RV none (fun h2 => WC K h2 g (uP st t (cgF (st.2.2.2.2.1 t) ((st.2.2.2.1 t)) n i f)) cb sb)) := by
  intro n
  induction n with
  | zero =>
    intro i f h v2 v3 h1 hi hW
    have hC : (uP st t f).2.2.2.1 t = (st.2.2.2.1 t) := rfl
    refine g_iload_n rfl rfl ?_
    refine g_aload_n rfl rfl ?_
    refine g_get (ci := 4) (kk := 1) rfl rfl (hW.tree ht) (hW.treeb ht) rfl ?_
    refine g_icmpge rfl rfl (fun c1 => ?_) (fun c => absurd c (by omega))
    exact r_v rfl rfl hW
  | succ n ih =>
    intro i f h v2 v3 h1 hi hW
    have hcn := hW.cnt ht
    have hC : (uP st t f).2.2.2.1 t = (st.2.2.2.1 t) := rfl
    obtain ⟨w, hw⟩ : ∃ w, st.2.2.2.2.1 t i = w := ⟨_, rfl⟩
    rw [show cgF (st.2.2.2.2.1 t) ((st.2.2.2.1 t)) (n + 1) i f = cgF (st.2.2.2.2.1 t) ((st.2.2.2.1 t)) n (i + 1) (if 0 ≤ w ∧ w < (st.2.2.2.1 t) then swp f i w.toNat else f) from by rw [cgF, hw]]
    refine g_iload_n rfl rfl ?_
    refine g_aload_n rfl rfl ?_
    refine g_get (ci := 4) (kk := 1) rfl rfl (hW.tree ht) (hW.treeb ht) rfl ?_
    refine g_icmpge rfl rfl (fun c => absurd c (by omega)) (fun c1 => ?_)
    refine g_aload_n rfl rfl ?_
    refine g_get (ci := 4) (kk := 2) rfl rfl (hW.tree ht) (hW.treeb ht) rfl ?_
    refine g_iload_n rfl rfl ?_
    refine g_iald rfl (hW.num ht) (by omega) ?_
    rw [show ((uP st t f).2.2.2.2.1 t) ((i : Int)).toNat = w from hw]
    refine g_istore_n (L' := [aR (g (500 + t)), aI ((i : Int)), aI w, v3]) rfl rfl ?_
    refine g_aload_n rfl rfl ?_
    refine g_iload_n rfl rfl ?_
    refine g_V (z := yTr_has) (e := 1) (A := [aI w]) (rest := []) (v := aI (pz (hs (uP st t f) t w))) (P := fun h2 => h2 = h) rfl rfl rfl rfl rfl rfl (by omega) (hW.tree ht) (hW.treeb ht) (c_has hW ht w) ?_
    intro hh9 he9
    rw [he9]
    clear he9 hh9
    refine g_ifeq rfl rfl (fun c2 => ?_) (fun c2 => ?_)
    · skip
      have q := pz_eq c2
      have q2 : ¬ (0 ≤ w ∧ w < (st.2.2.2.1 t)) := q
      rw [if_neg q2]
      refine g_iinc (L' := [aR (g (500 + t)), aI ((i : Int) + 1), aI w, v3]) rfl rfl (by omega) rfl ?_
      refine g_goto rfl rfl ?_
      exact ih (i + 1) _ _ _ _ (by omega) (by omega) hW
    · skip
      have q := pz_ne c2
      have q1 := q.1
      have q2 : w < (st.2.2.2.1 t) := q.2
      rw [if_pos ⟨q1, q2⟩]
      refine g_aload_n rfl rfl ?_
      refine g_get (ci := 4) (kk := 0) rfl rfl (hW.tree ht) (hW.treeb ht) rfl ?_
      refine g_iload_n rfl rfl ?_
      refine g_aald (b := g (400 + (uP st t f).2.2.1 t ((i : Int).toNat))) rfl (hW.arr ht) (by decide) (hW.arrb ht) (by omega) (nar_t (by omega)) ?_
      refine g_astore_n (L' := [aR (g (500 + t)), aI ((i : Int)), aI w, aR (g (400 + (uP st t f).2.2.1 t ((i : Int).toNat)))]) rfl rfl ?_
      refine g_aload_n rfl rfl ?_
      refine g_get (ci := 4) (kk := 0) rfl rfl (hW.tree ht) (hW.treeb ht) rfl ?_
      refine g_iload_n rfl rfl ?_
      refine g_aload_n rfl rfl ?_
      refine g_get (ci := 4) (kk := 0) rfl rfl (hW.tree ht) (hW.treeb ht) rfl ?_
      refine g_iload_n rfl rfl ?_
      refine g_aald (b := g (400 + (uP st t f).2.2.1 t w.toNat)) rfl (hW.arr ht) (by decide) (hW.arrb ht) (by omega) (nar_t (by omega)) ?_
      refine g_aast rfl (hW.arr ht) (hW.node (hW.pm ht (by omega))) rfl (hW.arrb ht) (hW.nodeb (hW.pm ht (by omega))) (by omega) ?_
      generalize hg_hh3 : hput h (g (510 + t)) (eQ 3 30 (va_up (nar g ((uP st t f).2.2.1 t)) ((i : Int)).toNat (some (g (400 + (uP st t f).2.2.1 t w.toNat))))) = hh3
      have ft : hh3.1 (g (500 + t)) = some (eO 4 [aR (g (510 + t)), aI ((uP st t f).2.2.2.1 t), aR (g (520 + t))]) := by
        rw [← hg_hh3, hput_ne (hW.gne (dm_500 ht) (dm_510 ht) (by omega) (by omega) (by omega))]
        exact hW.tree ht
      have fb : hh3.2.2.2.1 ≤ g (500 + t) := by
        rw [← hg_hh3]
        exact hW.treeb ht
      have fa : hh3.1 (g (510 + t)) = some (eQ 3 30 (va_up (nar g ((uP st t f).2.2.1 t)) (i : Int).toNat (some (g (400 + (uP st t f).2.2.1 t w.toNat))))) := by
        rw [← hg_hh3, hput_eq]
      have fab : hh3.2.2.2.1 ≤ g (510 + t) := by
        rw [← hg_hh3]
        exact hW.arrb ht
      have fn := hW.node (hW.pm ht (i := (i : Int).toNat) (by omega))
      rw [← hput_ne (h := h) (a := g (510 + t)) (e := (eQ 3 30 (va_up (nar g ((uP st t f).2.2.1 t)) (i : Int).toNat (some (g (400 + (uP st t f).2.2.1 t w.toNat)))))) (hW.gne (dm_400 (hW.pm ht (by omega))) (dm_510 ht) (by omega) (by omega) (by have := hW.pm ht (i := (i : Int).toNat) (by omega); omega)), hg_hh3] at fn
      have fnb : hh3.2.2.2.1 ≤ g (400 + (uP st t f).2.2.1 t (i : Int).toNat) := by
        rw [← hg_hh3]
        exact hW.nodeb (hW.pm ht (by omega))
      refine g_aload_n rfl rfl ?_
      refine g_get (ci := 4) (kk := 0) rfl rfl ft fb rfl ?_
      refine g_iload_n rfl rfl ?_
      refine g_aload_n rfl rfl ?_
      refine g_aast rfl fa fn rfl fab fnb (by omega) ?_
      generalize hg_hh4 : hput hh3 (g (510 + t)) (eQ 3 30 (va_up (va_up (nar g ((uP st t f).2.2.1 t)) (i : Int).toNat (some (g (400 + (uP st t f).2.2.1 t w.toNat)))) (w).toNat (some (g (400 + (uP st t f).2.2.1 t ((i : Int).toNat)))))) = hh4
      have hW : WC K hh4 g (uP st t (swp f i w.toNat)) cb sb := by
        have k := hW.setP ht (a := i) (b := w.toNat) (by omega) (by omega)
        rw [uP_uP, uP_get] at k
        rw [← hg_hh4, ← hg_hh3, hput_hput]
        have e : va_up (va_up (nar g ((uP st t f).2.2.1 t)) (i : Int).toNat (some (g (400 + (uP st t f).2.2.1 t w.toNat)))) w.toNat (some (g (400 + (uP st t f).2.2.1 t (i : Int).toNat))) = (nar g (swp f i w.toNat)) := by
          funext j
          rw [uP_get]
          have w30 : w.toNat < 30 := by omega
          have i30 : i < 30 := by omega
          unfold nar va_up swp
          rw [Int.toNat_natCast]
          by_cases j1 : j = w.toNat
          · rw [j1]; simp [w30]
          · by_cases j2 : j = i
            · subst j2; simp [j1, i30]
            · simp [j1, j2]
        rw [e]
        exact k
      refine g_iinc (L' := [aR (g (500 + t)), aI ((i : Int) + 1), aI w, aR (g (400 + (uP st t f).2.2.1 t ((i : Int).toNat)))]) rfl rfl (by omega) rfl ?_
      refine g_goto rfl rfl ?_
      exact ih (i + 1) _ _ _ _ (by omega) (by omega) hW
theorem c_closeGaps (hd1 : 1 ≤ d) (hW : WC K h g st cb sb) (ht : t < 2) : Cal d yTr_closeGaps [aR (g (500 + t))] h (RV none (fun h2 => WC K h2 g (uP st t (cgF (st.2.2.2.2.1 t) ((st.2.2.2.1 t)) ((st.2.2.2.1 t) - 1) 1 (st.2.2.1 t))) cb sb)) := by
  obtain ⟨d, rfl⟩ : ∃ e, d = e + 1 := ⟨d - 1, by omega⟩
  have hcn := hW.cnt ht
  show Go _ _ 0 [aR (g (500 + t)), none, none, none] [] _ _
  refine g_iconst (n := 1) rfl (by decide) ?_
  refine g_istore_n (L' := [aR (g (500 + t)), aI 1, none, none]) rfl rfl ?_
  exact cg_loop (d := d) ht ((st.2.2.2.1 t) - 1) 1 (st.2.2.1 t) _ _ _ (by omega) (by omega) (by rw [uP_self]; exact hW)
theorem nw_m1 {i : Nat} : nw st t num i = -1 ↔ gn st t num i := by
  constructor
  · intro q
    refine Classical.byContradiction fun z => ?_
    rw [nw_f z] at q
    omega
  · exact nw_t
theorem up_nw {i : Nat} {W : Nat → Int} {v : Int} (h : ∀ j, j < i → W j = nw st t num j) (hv : v = nw st t num i) : ∀ j, j < i + 1 → va_up W i v j = nw st t num j := by
  intro j hj
  unfold va_up
  split
  · rename_i e; rw [e]; exact hv
  · exact h j (by omega)
theorem dp1_loop (hT : TI st t) (ht : t < 2) (hn : num < (st.2.2.2.1 t)) (kk : ∀ (h : AH) (W : Nat → Int), WC K h g (sW st t W) cb sb → (∀ j, j < (st.2.2.2.1 t) → W j = nw st t num j) → Go (d + 2) yTr_drop 82 [aR (g (500 + t)), aI num, aI (kp st t num ((st.2.2.2.1 t))), aI ((st.2.2.2.1 t)), none] [] h Q) : ∀ (n i : Nat) (W : Nat → Int) (h : AH), 0 < i → i + n = (st.2.2.2.1 t) → WC K h g (sW st t W) cb sb → (∀ j, j < i → W j = nw st t num j) → Go (d + 2) yTr_drop 11 [aR (g (500 + t)), aI num, aI (kp st t num i), aI i, none] [] h Q := by
  intro n
  induction n with
  | zero =>
    intro i W h h0 hi hW hJ
    obtain rfl : i = (st.2.2.2.1 t) := by omega
    have hC : (sW st t W).2.2.2.1 t = (st.2.2.2.1 t) := rfl
    refine g_iload_n rfl rfl ?_
    refine g_aload_n rfl rfl ?_
    refine g_get (ci := 4) (kk := 1) rfl rfl (hW.tree ht) (hW.treeb ht) rfl ?_
    refine g_icmpge rfl rfl (fun c1 => ?_) (fun c => absurd c (by omega))
    exact kk h W hW hJ
  | succ n ih =>
    intro i W h h0 hi hW hJ
    have hC : (sW st t W).2.2.2.1 t = (st.2.2.2.1 t) := rfl
    have hcn := hW.cnt ht
    have hiC : i < (st.2.2.2.1 t) := by omega
    have hd := hT.d i h0 hiC
    have hdn := hT.dn i h0 hiC
    have hf := hT.f i hiC
    have hkl := kp_le (st := st) (t := t) (num := num) i
    refine g_iload_n rfl rfl ?_
    refine g_aload_n rfl rfl ?_
    refine g_get (ci := 4) (kk := 1) rfl rfl (hW.tree ht) (hW.treeb ht) rfl ?_
    refine g_icmpge rfl rfl (fun c => absurd c (by omega)) (fun c1 => ?_)
    refine g_iload_n rfl rfl ?_
    refine g_iload_n rfl rfl ?_
    refine g_icmpeq rfl rfl (fun c2 => ?_) (fun c2 => ?_)
    · skip
      have hg : gn st t num i := (gn_s hT h0 hiC).2 (Or.inl (by omega))
      refine g_aload_n rfl rfl ?_
      refine g_get (ci := 4) (kk := 2) rfl rfl (hW.tree ht) (hW.treeb ht) rfl ?_
      refine g_iload_n rfl rfl ?_
      refine g_iconst (n := -1) rfl (by decide) ?_
      refine g_iast rfl (hW.num ht) (hW.numb ht) (by omega) ?_
      generalize hg_hh3 : hput h (g (520 + t)) (eA 0 30 (va_up ((sW st t W).2.2.2.2.1 t) ((i : Int)).toNat (-1))) = hh3
      have hW : WC K hh3 g (sW st t (va_up W i (-1))) cb sb := by
        rw [← hg_hh3, ← sW_uW]
        exact hW.setW ht i (-1)
      refine g_goto rfl rfl ?_
      refine g_iinc (L' := [aR (g (500 + t)), aI ((num : Int)), aI ((kp st t num i : Int)), aI ((i : Int) + 1), none]) rfl rfl (by omega) rfl ?_
      refine g_goto rfl rfl ?_
      have h9 := ih (i + 1) _ _ (by omega) (by omega) hW (up_nw hJ (nw_t hg).symm)
      rw [kp_f hg] at h9
      exact h9
    · skip
      have hne : i ≠ num := by omega
      refine g_aload_n rfl rfl ?_
      refine g_aload_n rfl rfl ?_
      refine g_get (ci := 4) (kk := 0) rfl rfl (hW.tree ht) (hW.treeb ht) rfl ?_
      refine g_iload_n rfl rfl ?_
      refine g_aald (b := g (400 + (sW st t W).2.2.1 t ((i : Int).toNat))) rfl (hW.arr ht) (by decide) (hW.arrb ht) (by omega) (nar_t (by omega)) ?_
      refine g_get (ci := 0) (kk := 3) rfl rfl (hW.node (hW.pm ht (by omega))) (hW.nodeb (hW.pm ht (by omega))) rfl ?_
      refine g_V (z := yTr_isGone) (e := 1) (A := [aI (((sW st t W).2.1 ((sW st t W).2.2.1 t ((i : Int).toNat)) 1))]) (rest := []) (v := aI (pz (hs (sW st t W) t (((sW st t W).2.1 ((sW st t W).2.2.1 t (i : Int).toNat) 1)) ∧ (sW st t W).2.2.2.2.1 t (((sW st t W).2.1 ((sW st t W).2.2.1 t (i : Int).toNat) 1)).toNat = -1))) (P := fun h2 => h2 = h) rfl rfl rfl rfl rfl rfl (by omega) (hW.tree ht) (hW.treeb ht) (c_isGone (by omega) hW ht _) ?_
      intro hh9 he9
      rw [he9]
      clear he9 hh9
      refine g_ifne rfl rfl (fun c4 => ?_) (fun c4 => ?_)
      · skip
        have q := (pz_ne c4).2
        rw [sX_get] at q
        have hg : gn st t num i := (gn_s hT h0 hiC).2 (Or.inr (Or.inl (nw_m1.1 ((hJ _ hdn).symm.trans q))))
        refine g_aload_n rfl rfl ?_
        refine g_get (ci := 4) (kk := 2) rfl rfl (hW.tree ht) (hW.treeb ht) rfl ?_
        refine g_iload_n rfl rfl ?_
        refine g_iconst (n := -1) rfl (by decide) ?_
        refine g_iast rfl (hW.num ht) (hW.numb ht) (by omega) ?_
        generalize hg_hh5 : hput h (g (520 + t)) (eA 0 30 (va_up ((sW st t W).2.2.2.2.1 t) ((i : Int)).toNat (-1))) = hh5
        have hW : WC K hh5 g (sW st t (va_up W i (-1))) cb sb := by
          rw [← hg_hh5, ← sW_uW]
          exact hW.setW ht i (-1)
        refine g_goto rfl rfl ?_
        refine g_iinc (L' := [aR (g (500 + t)), aI ((num : Int)), aI ((kp st t num i : Int)), aI ((i : Int) + 1), none]) rfl rfl (by omega) rfl ?_
        refine g_goto rfl rfl ?_
        have h9 := ih (i + 1) _ _ (by omega) (by omega) hW (up_nw hJ (nw_t hg).symm)
        rw [kp_f hg] at h9
        exact h9
      · skip
        have q := pz_eq c4
        rw [sX_get] at q
        have hgd : ¬ gn st t num (dN st t i) := fun z => q ⟨⟨hd.1, by have := hd.2.1; show (st.2.1 (st.2.2.1 t i) 1) < ((st.2.2.2.1 t) : Int); omega⟩, (hJ _ hdn).trans (nw_t z)⟩
        refine g_aload_n rfl rfl ?_
        refine g_aload_n rfl rfl ?_
        refine g_get (ci := 4) (kk := 0) rfl rfl (hW.tree ht) (hW.treeb ht) rfl ?_
        refine g_iload_n rfl rfl ?_
        refine g_aald (b := g (400 + (sW st t W).2.2.1 t ((i : Int).toNat))) rfl (hW.arr ht) (by decide) (hW.arrb ht) (by omega) (nar_t (by omega)) ?_
        refine g_get (ci := 0) (kk := 4) rfl rfl (hW.node (hW.pm ht (by omega))) (hW.nodeb (hW.pm ht (by omega))) rfl ?_
        refine g_V (z := yTr_isGone) (e := 1) (A := [aI (((sW st t W).2.1 ((sW st t W).2.2.1 t ((i : Int).toNat)) 2))]) (rest := []) (v := aI (pz (hs (sW st t W) t (((sW st t W).2.1 ((sW st t W).2.2.1 t (i : Int).toNat) 2)) ∧ (sW st t W).2.2.2.2.1 t (((sW st t W).2.1 ((sW st t W).2.2.1 t (i : Int).toNat) 2)).toNat = -1))) (P := fun h2 => h2 = h) rfl rfl rfl rfl rfl rfl (by omega) (hW.tree ht) (hW.treeb ht) (c_isGone (by omega) hW ht _) ?_
        intro hh9 he9
        rw [he9]
        clear he9 hh9
        refine g_ifeq rfl rfl (fun c6 => ?_) (fun c6 => ?_)
        · skip
          have q := pz_eq c6
          rw [sX_get] at q
          have hg : ¬ gn st t num i := fun z => by
            rcases (gn_s hT h0 hiC).1 z with z1 | z1 | ⟨z1, z2⟩
            · exact hne z1
            · exact hgd z1
            · have f1 := hf.1 z1
              exact q ⟨⟨f1.1, by have := f1.2.1; show (st.2.1 (st.2.2.1 t i) 2) < ((st.2.2.2.1 t) : Int); omega⟩, (hJ _ (hT.fn hiC z1)).trans (nw_t z2)⟩
          refine g_aload_n rfl rfl ?_
          refine g_get (ci := 4) (kk := 2) rfl rfl (hW.tree ht) (hW.treeb ht) rfl ?_
          refine g_iload_n rfl rfl ?_
          refine g_iload_n rfl rfl ?_
          refine g_iast rfl (hW.num ht) (hW.numb ht) (by omega) ?_
          generalize hg_hh7 : hput h (g (520 + t)) (eA 0 30 (va_up ((sW st t W).2.2.2.2.1 t) ((i : Int)).toNat ((kp st t num i : Int)))) = hh7
          have hW : WC K hh7 g (sW st t (va_up W i ((kp st t num i : Int)))) cb sb := by
            rw [← hg_hh7, ← sW_uW]
            exact hW.setW ht i ((kp st t num i : Int))
          refine g_iinc (L' := [aR (g (500 + t)), aI ((num : Int)), aI ((kp st t num i : Int) + 1), aI ((i : Int)), none]) rfl rfl (by omega) rfl ?_
          refine g_iinc (L' := [aR (g (500 + t)), aI ((num : Int)), aI ((kp st t num i : Int) + 1), aI ((i : Int) + 1), none]) rfl rfl (by omega) rfl ?_
          refine g_goto rfl rfl ?_
          have h9 := ih (i + 1) _ _ (by omega) (by omega) hW (up_nw hJ (nw_f hg).symm)
          rw [kp_t hg] at h9
          exact h9
        · skip
          have q := pz_ne c6
          rw [sX_get] at q
          have q0 : 0 ≤ (st.2.1 (st.2.2.1 t i) 2) := q.1.1
          have hk : (st.2.1 (st.2.2.1 t i) 0) = 3 := Classical.byContradiction fun z => by have := hf.2 z; omega
          have hg : gn st t num i := (gn_s hT h0 hiC).2 (Or.inr (Or.inr ⟨hk, nw_m1.1 ((hJ _ (hT.fn hiC hk)).symm.trans q.2)⟩))
          refine g_aload_n rfl rfl ?_
          refine g_get (ci := 4) (kk := 2) rfl rfl (hW.tree ht) (hW.treeb ht) rfl ?_
          refine g_iload_n rfl rfl ?_
          refine g_iconst (n := -1) rfl (by decide) ?_
          refine g_iast rfl (hW.num ht) (hW.numb ht) (by omega) ?_
          generalize hg_hh8 : hput h (g (520 + t)) (eA 0 30 (va_up ((sW st t W).2.2.2.2.1 t) ((i : Int)).toNat (-1))) = hh8
          have hW : WC K hh8 g (sW st t (va_up W i (-1))) cb sb := by
            rw [← hg_hh8, ← sW_uW]
            exact hW.setW ht i (-1)
          refine g_goto rfl rfl ?_
          refine g_iinc (L' := [aR (g (500 + t)), aI ((num : Int)), aI ((kp st t num i : Int)), aI ((i : Int) + 1), none]) rfl rfl (by omega) rfl ?_
          refine g_goto rfl rfl ?_
          have h9 := ih (i + 1) _ _ (by omega) (by omega) hW (up_nw hJ (nw_t hg).symm)
          rw [kp_f hg] at h9
          exact h9
def i2S (st : CS) (t num i : Nat) (NI : Nat → Nat → Int) : Prop := (∀ j, 0 < j → j < i → NI (st.2.2.1 t j) = va_up (va_up (st.2.1 (st.2.2.1 t j)) 1 (nwI st t num ((st.2.1 (st.2.2.1 t j) 1)))) 2 (nwI st t num ((st.2.1 (st.2.2.1 t j) 2)))) ∧ ∀ n, (∀ j, 0 < j → j < i → n ≠ st.2.2.1 t j) → NI n = st.2.1 n
theorem nnm_nw {W : Nat → Int} {NI : Nat → Nat → Int} (h : ∀ j, j < (st.2.2.2.1 t) → W j = nw st t num j) (x : Int) : nnm (sX st t W NI) t x = nwI st t num x := by
  unfold nnm nwI
  rw [sX_get]
  show (if 0 ≤ x ∧ x < ((st.2.2.2.1 t) : Int) then _ else _) = _
  by_cases hp : 0 ≤ x ∧ x < ((st.2.2.2.1 t) : Int)
  · rw [if_pos hp, if_pos hp, h _ (by omega)]
  · rw [if_neg hp, if_neg hp]
theorem dp2_loop (ht : t < 2) {W : Nat → Int} (hw : ∀ j, j < (st.2.2.2.1 t) → W j = nw st t num j) (v2 v3 : Int) (kk : ∀ (h : AH) (NI : Nat → Nat → Int), WC K h g (sX st t W NI) cb sb → i2S st t num ((st.2.2.2.1 t)) NI → Go (d + 2) yTr_drop 155 [aR (g (500 + t)), aI num, aI v2, aI v3, aI ((st.2.2.2.1 t))] [] h Q) : ∀ (n i : Nat) (NI : Nat → Nat → Int) (h : AH), 0 < i → i + n = (st.2.2.2.1 t) → WC K h g (sX st t W NI) cb sb → i2S st t num i NI → Go (d + 2) yTr_drop 92 [aR (g (500 + t)), aI num, aI v2, aI v3, aI i] [] h Q := by
  intro n
  induction n with
  | zero =>
    intro i NI h h0 hi hW hJ
    obtain rfl : i = (st.2.2.2.1 t) := by omega
    have hC : (sX st t W NI).2.2.2.1 t = (st.2.2.2.1 t) := rfl
    refine g_iload rfl rfl ?_
    refine g_aload_n rfl rfl ?_
    refine g_get (ci := 4) (kk := 1) rfl rfl (hW.tree ht) (hW.treeb ht) rfl ?_
    refine g_icmpge rfl rfl (fun c1 => ?_) (fun c => absurd c (by omega))
    exact kk h NI hW hJ
  | succ n ih =>
    intro i NI h h0 hi hW hJ
    have hC : (sX st t W NI).2.2.2.1 t = (st.2.2.2.1 t) := rfl
    have hcn := hW.cnt ht
    have hpm := hW.pm ht (i := i) (by omega)
    have hpm2 : st.2.2.1 t i < 60 := hpm
    have hsh : ∀ a b, a < 30 → b < 30 → st.2.2.1 t a = st.2.2.1 t b → a = b := fun a b ha hb => hW.shq.2.1 t a b ht ha hb
    have hNI : NI (st.2.2.1 t i) = st.2.1 (st.2.2.1 t i) := hJ.2 _ (fun j j0 j1 e => by have := hsh i j (by omega) (by omega) e; omega)
    refine g_iload rfl rfl ?_
    refine g_aload_n rfl rfl ?_
    refine g_get (ci := 4) (kk := 1) rfl rfl (hW.tree ht) (hW.treeb ht) rfl ?_
    refine g_icmpge rfl rfl (fun c => absurd c (by omega)) (fun c1 => ?_)
    refine g_aload_n rfl rfl ?_
    refine g_get (ci := 4) (kk := 0) rfl rfl (hW.tree ht) (hW.treeb ht) rfl ?_
    refine g_iload rfl rfl ?_
    refine g_aald (b := g (400 + (sX st t W NI).2.2.1 t ((i : Int).toNat))) rfl (hW.arr ht) (by decide) (hW.arrb ht) (by omega) (nar_t (by omega)) ?_
    refine g_aload_n rfl rfl ?_
    refine g_aload_n rfl rfl ?_
    refine g_get (ci := 4) (kk := 0) rfl rfl (hW.tree ht) (hW.treeb ht) rfl ?_
    refine g_iload rfl rfl ?_
    refine g_aald (b := g (400 + (sX st t W NI).2.2.1 t ((i : Int).toNat))) rfl (hW.arr ht) (by decide) (hW.arrb ht) (by omega) (nar_t (by omega)) ?_
    refine g_get (ci := 0) (kk := 3) rfl rfl (hW.node (hW.pm ht (by omega))) (hW.nodeb (hW.pm ht (by omega))) rfl ?_
    rw [show ((sX st t W NI).2.1 ((sX st t W NI).2.2.1 t ((i : Int).toNat)) 1) = (st.2.1 (st.2.2.1 t i) 1) from congrFun hNI 1]
    refine g_V (z := yTr_newNumber) (e := 1) (A := [aI ((st.2.1 (st.2.2.1 t i) 1))]) (rest := [aR (g (400 + (sX st t W NI).2.2.1 t ((i : Int).toNat)))]) (v := aI (nwI st t num ((st.2.1 (st.2.2.1 t i) 1)))) (P := fun h2 => h2 = h) rfl rfl rfl rfl rfl rfl (by omega) (hW.tree ht) (hW.treeb ht) ((nnm_nw (NI := NI) hw ((st.2.1 (st.2.2.1 t i) 1))) ▸ c_newNumber (by omega) hW ht ((st.2.1 (st.2.2.1 t i) 1))) ?_
    intro hh9 he9
    rw [he9]
    clear he9 hh9
    refine g_put (ci := 0) (kk := 3) (fs' := [aR (g (2 * (sX st t W NI).2.2.1 t ((i : Int).toNat))), aR (g (2 * (sX st t W NI).2.2.1 t ((i : Int).toNat) + 1)), aI (((sX st t W NI).2.1 ((sX st t W NI).2.2.1 t ((i : Int).toNat)) 0)), aI (nwI st t num ((st.2.1 (st.2.2.1 t i) 1))), aI (((sX st t W NI).2.1 ((sX st t W NI).2.2.1 t ((i : Int).toNat)) 2)), aI (((sX st t W NI).2.1 ((sX st t W NI).2.2.1 t ((i : Int).toNat)) 3)), aI (((sX st t W NI).2.1 ((sX st t W NI).2.2.1 t ((i : Int).toNat)) 4)), aI (((sX st t W NI).2.1 ((sX st t W NI).2.2.1 t ((i : Int).toNat)) 5))]) rfl rfl (hW.node (hW.pm ht (by omega))) (hW.nodeb (hW.pm ht (by omega))) (Nat.le_of_ble_eq_true rfl) rfl (by decide) rfl ?_
    generalize hg_hh2 : hput h (g (400 + (sX st t W NI).2.2.1 t ((i : Int).toNat))) (eO 0 [aR (g (2 * (sX st t W NI).2.2.1 t ((i : Int).toNat))), aR (g (2 * (sX st t W NI).2.2.1 t ((i : Int).toNat) + 1)), aI (((sX st t W NI).2.1 ((sX st t W NI).2.2.1 t ((i : Int).toNat)) 0)), aI (nwI st t num ((st.2.1 (st.2.2.1 t i) 1))), aI (((sX st t W NI).2.1 ((sX st t W NI).2.2.1 t ((i : Int).toNat)) 2)), aI (((sX st t W NI).2.1 ((sX st t W NI).2.2.1 t ((i : Int).toNat)) 3)), aI (((sX st t W NI).2.1 ((sX st t W NI).2.2.1 t ((i : Int).toNat)) 4)), aI (((sX st t W NI).2.1 ((sX st t W NI).2.2.1 t ((i : Int).toNat)) 5))]) = hh2
    have hW : WC K hh2 g (uN (sX st t W NI) (st.2.2.1 t i) 1 (nwI st t num ((st.2.1 (st.2.2.1 t i) 1)))) cb sb := by
      rw [← hg_hh2]
      exact hW.setN hpm2 (by simp [uN, va_up, sX])
    have hC2 : (uN (sX st t W NI) (st.2.2.1 t i) 1 (nwI st t num ((st.2.1 (st.2.2.1 t i) 1)))).2.2.2.1 t = (st.2.2.2.1 t) := rfl
    refine g_aload_n rfl rfl ?_
    refine g_get (ci := 4) (kk := 0) rfl rfl (hW.tree ht) (hW.treeb ht) rfl ?_
    refine g_iload rfl rfl ?_
    refine g_aald (b := g (400 + (uN (sX st t W NI) (st.2.2.1 t i) 1 (nwI st t num ((st.2.1 (st.2.2.1 t i) 1)))).2.2.1 t ((i : Int).toNat))) rfl (hW.arr ht) (by decide) (hW.arrb ht) (by omega) (nar_t (by omega)) ?_
    refine g_aload_n rfl rfl ?_
    refine g_aload_n rfl rfl ?_
    refine g_get (ci := 4) (kk := 0) rfl rfl (hW.tree ht) (hW.treeb ht) rfl ?_
    refine g_iload rfl rfl ?_
    refine g_aald (b := g (400 + (uN (sX st t W NI) (st.2.2.1 t i) 1 (nwI st t num ((st.2.1 (st.2.2.1 t i) 1)))).2.2.1 t ((i : Int).toNat))) rfl (hW.arr ht) (by decide) (hW.arrb ht) (by omega) (nar_t (by omega)) ?_
    refine g_get (ci := 0) (kk := 4) rfl rfl (hW.node (hW.pm ht (by omega))) (hW.nodeb (hW.pm ht (by omega))) rfl ?_
    rw [show ((uN (sX st t W NI) (st.2.2.1 t i) 1 (nwI st t num ((st.2.1 (st.2.2.1 t i) 1)))).2.1 ((uN (sX st t W NI) (st.2.2.1 t i) 1 (nwI st t num ((st.2.1 (st.2.2.1 t i) 1)))).2.2.1 t ((i : Int).toNat)) 2) = (st.2.1 (st.2.2.1 t i) 2) from by show va_up NI _ (va_up (NI (st.2.2.1 t i)) 1 _) (st.2.2.1 t i) 2 = _; rw [hNI]; simp [va_up]]
    refine g_V (z := yTr_newNumber) (e := 1) (A := [aI ((st.2.1 (st.2.2.1 t i) 2))]) (rest := [aR (g (400 + (uN (sX st t W NI) (st.2.2.1 t i) 1 (nwI st t num ((st.2.1 (st.2.2.1 t i) 1)))).2.2.1 t ((i : Int).toNat)))]) (v := aI (nwI st t num ((st.2.1 (st.2.2.1 t i) 2)))) (P := fun h2 => h2 = hh2) rfl rfl rfl rfl rfl rfl (by omega) (hW.tree ht) (hW.treeb ht) ((nnm_nw (NI := (uN (sX st t W NI) (st.2.2.1 t i) 1 (nwI st t num ((st.2.1 (st.2.2.1 t i) 1)))).2.1) hw ((st.2.1 (st.2.2.1 t i) 2))) ▸ c_newNumber (by omega) hW ht ((st.2.1 (st.2.2.1 t i) 2))) ?_
    intro hh9 he9
    rw [he9]
    clear he9 hh9
    refine g_put (ci := 0) (kk := 4) (fs' := [aR (g (2 * (uN (sX st t W NI) (st.2.2.1 t i) 1 (nwI st t num ((st.2.1 (st.2.2.1 t i) 1)))).2.2.1 t ((i : Int).toNat))), aR (g (2 * (uN (sX st t W NI) (st.2.2.1 t i) 1 (nwI st t num ((st.2.1 (st.2.2.1 t i) 1)))).2.2.1 t ((i : Int).toNat) + 1)), aI (((uN (sX st t W NI) (st.2.2.1 t i) 1 (nwI st t num ((st.2.1 (st.2.2.1 t i) 1)))).2.1 ((uN (sX st t W NI) (st.2.2.1 t i) 1 (nwI st t num ((st.2.1 (st.2.2.1 t i) 1)))).2.2.1 t ((i : Int).toNat)) 0)), aI (((uN (sX st t W NI) (st.2.2.1 t i) 1 (nwI st t num ((st.2.1 (st.2.2.1 t i) 1)))).2.1 ((uN (sX st t W NI) (st.2.2.1 t i) 1 (nwI st t num ((st.2.1 (st.2.2.1 t i) 1)))).2.2.1 t ((i : Int).toNat)) 1)), aI (nwI st t num ((st.2.1 (st.2.2.1 t i) 2))), aI (((uN (sX st t W NI) (st.2.2.1 t i) 1 (nwI st t num ((st.2.1 (st.2.2.1 t i) 1)))).2.1 ((uN (sX st t W NI) (st.2.2.1 t i) 1 (nwI st t num ((st.2.1 (st.2.2.1 t i) 1)))).2.2.1 t ((i : Int).toNat)) 3)), aI (((uN (sX st t W NI) (st.2.2.1 t i) 1 (nwI st t num ((st.2.1 (st.2.2.1 t i) 1)))).2.1 ((uN (sX st t W NI) (st.2.2.1 t i) 1 (nwI st t num ((st.2.1 (st.2.2.1 t i) 1)))).2.2.1 t ((i : Int).toNat)) 4)), aI (((uN (sX st t W NI) (st.2.2.1 t i) 1 (nwI st t num ((st.2.1 (st.2.2.1 t i) 1)))).2.1 ((uN (sX st t W NI) (st.2.2.1 t i) 1 (nwI st t num ((st.2.1 (st.2.2.1 t i) 1)))).2.2.1 t ((i : Int).toNat)) 5))]) rfl rfl (hW.node (hW.pm ht (by omega))) (hW.nodeb (hW.pm ht (by omega))) (Nat.le_of_ble_eq_true rfl) rfl (by decide) rfl ?_
    generalize hg_hh3 : hput hh2 (g (400 + (uN (sX st t W NI) (st.2.2.1 t i) 1 (nwI st t num ((st.2.1 (st.2.2.1 t i) 1)))).2.2.1 t ((i : Int).toNat))) (eO 0 [aR (g (2 * (uN (sX st t W NI) (st.2.2.1 t i) 1 (nwI st t num ((st.2.1 (st.2.2.1 t i) 1)))).2.2.1 t ((i : Int).toNat))), aR (g (2 * (uN (sX st t W NI) (st.2.2.1 t i) 1 (nwI st t num ((st.2.1 (st.2.2.1 t i) 1)))).2.2.1 t ((i : Int).toNat) + 1)), aI (((uN (sX st t W NI) (st.2.2.1 t i) 1 (nwI st t num ((st.2.1 (st.2.2.1 t i) 1)))).2.1 ((uN (sX st t W NI) (st.2.2.1 t i) 1 (nwI st t num ((st.2.1 (st.2.2.1 t i) 1)))).2.2.1 t ((i : Int).toNat)) 0)), aI (((uN (sX st t W NI) (st.2.2.1 t i) 1 (nwI st t num ((st.2.1 (st.2.2.1 t i) 1)))).2.1 ((uN (sX st t W NI) (st.2.2.1 t i) 1 (nwI st t num ((st.2.1 (st.2.2.1 t i) 1)))).2.2.1 t ((i : Int).toNat)) 1)), aI (nwI st t num ((st.2.1 (st.2.2.1 t i) 2))), aI (((uN (sX st t W NI) (st.2.2.1 t i) 1 (nwI st t num ((st.2.1 (st.2.2.1 t i) 1)))).2.1 ((uN (sX st t W NI) (st.2.2.1 t i) 1 (nwI st t num ((st.2.1 (st.2.2.1 t i) 1)))).2.2.1 t ((i : Int).toNat)) 3)), aI (((uN (sX st t W NI) (st.2.2.1 t i) 1 (nwI st t num ((st.2.1 (st.2.2.1 t i) 1)))).2.1 ((uN (sX st t W NI) (st.2.2.1 t i) 1 (nwI st t num ((st.2.1 (st.2.2.1 t i) 1)))).2.2.1 t ((i : Int).toNat)) 4)), aI (((uN (sX st t W NI) (st.2.2.1 t i) 1 (nwI st t num ((st.2.1 (st.2.2.1 t i) 1)))).2.1 ((uN (sX st t W NI) (st.2.2.1 t i) 1 (nwI st t num ((st.2.1 (st.2.2.1 t i) 1)))).2.2.1 t ((i : Int).toNat)) 5))]) = hh3
    have hW : WC K hh3 g (uN (uN (sX st t W NI) (st.2.2.1 t i) 1 (nwI st t num ((st.2.1 (st.2.2.1 t i) 1)))) (st.2.2.1 t i) 2 (nwI st t num ((st.2.1 (st.2.2.1 t i) 2)))) cb sb := by
      rw [← hg_hh3]
      exact hW.setN hpm2 (by simp [uN, va_up, sX])
    refine g_iinc (L' := [aR (g (500 + t)), aI ((num : Int)), aI v2, aI v3, aI ((i : Int) + 1)]) rfl rfl (by omega) rfl ?_
    refine g_goto rfl rfl ?_
    refine ih (i + 1) (uN (uN (sX st t W NI) (st.2.2.1 t i) 1 (nwI st t num ((st.2.1 (st.2.2.1 t i) 1)))) (st.2.2.1 t i) 2 (nwI st t num ((st.2.1 (st.2.2.1 t i) 2)))).2.1 _ (by omega) (by omega) hW ⟨fun j j0 j1 => ?_, fun n hn => ?_⟩
    · by_cases e : j = i
      · subst e
        simp only [uN, sX]
        funext k
        simp only [va_up, if_true]
        rw [hNI]
      · have e2 : st.2.2.1 t j ≠ st.2.2.1 t i := fun q => e (hsh j i (by omega) (by omega) q)
        rw [← hJ.1 j j0 (by omega)]
        simp [uN, sX, va_up, e2]
    · have e2 := hn i h0 (by omega)
      rw [← hJ.2 n (fun j j0 j1 => hn j j0 (by omega))]
      simp [uN, sX, va_up, e2]
theorem cg_ok {W : Nat → Int} (hn : 0 < num) (hw : ∀ j, j < (st.2.2.2.1 t) → W j = nw st t num j) : ∀ (n i : Nat) (f : Nat → Nat), 0 < i → i + n = (st.2.2.2.1 t) → (∀ j, j < i → ¬ gn st t num j → f (kp st t num j) = st.2.2.1 t j) → (∀ j, i ≤ j → f j = st.2.2.1 t j) → ∀ j, j < (st.2.2.2.1 t) → ¬ gn st t num j → cgF W ((st.2.2.2.1 t)) n i f (kp st t num j) = st.2.2.1 t j := by
  intro n
  induction n with
  | zero =>
    intro i f h0 hi h1 h2 j hj hg
    exact h1 j (by omega) hg
  | succ n ih =>
    intro i f h0 hi h1 h2
    unfold cgF
    rw [hw i (by omega)]
    have hkl := kp_le (st := st) (t := t) (num := num) i
    by_cases hg : gn st t num i
    · rw [nw_t hg, if_neg (by omega)]
      refine ih (i + 1) f (by omega) (by omega) (fun j hj hgj => ?_) (fun j hj => h2 j (by omega))
      by_cases e : j = i
      · subst e; exact absurd hg hgj
      · exact h1 j (by omega) hgj
    · rw [nw_f hg, if_pos (by omega), Int.toNat_natCast]
      refine ih (i + 1) _ (by omega) (by omega) (fun j hj hgj => ?_) (fun j hj => ?_)
      · by_cases e : j = i
        · subst e
          unfold swp
          rw [if_pos rfl]
          exact h2 j (Nat.le_refl _)
        · have hlt := kp_lt hgj (show j < i by omega)
          unfold swp
          rw [if_neg (by omega), if_neg (by omega)]
          exact h1 j (by omega) hgj
      · unfold swp
        rw [if_neg (by omega), if_neg (by omega)]
        exact h2 j (by omega)
theorem dr_ok (hT : TI st t) (ht : t < 2) (hs : shp st) (hn : 0 < num) {W : Nat → Int} {NI : Nat → Nat → Int} (hw : ∀ j, j < (st.2.2.2.1 t) → W j = nw st t num j) (h2 : i2S st t num ((st.2.2.2.1 t)) NI) : DR st (uC (uP (sX st t W NI) t (cgF ((sX st t W NI).2.2.2.2.1 t) (((sX st t W NI).2.2.2.1 t)) (((sX st t W NI).2.2.2.1 t) - 1) 1 ((sX st t W NI).2.2.1 t))) t (kp st t num ((st.2.2.2.1 t)))) t num := by
  have hc := hT.c
  rw [sX_get]
  refine ⟨by simp [uC, va_up], fun i hi hg => ?_⟩
  have hf : cgF W ((st.2.2.2.1 t)) ((st.2.2.2.1 t) - 1) 1 (st.2.2.1 t) (kp st t num i) = st.2.2.1 t i := by
    refine cg_ok hn hw ((st.2.2.2.1 t) - 1) 1 (st.2.2.1 t) (by omega) (by omega) (fun j hj _ => ?_) (fun j _ => rfl) i hi hg
    have : j = 0 := by omega
    subst this
    rfl
  have hp : (uC (uP (sX st t W NI) t (cgF W (((sX st t W NI).2.2.2.1 t)) (((sX st t W NI).2.2.2.1 t) - 1) 1 ((sX st t W NI).2.2.1 t))) t (kp st t num ((st.2.2.2.1 t)))).2.2.1 t (kp st t num i) = st.2.2.1 t i := by
    show (uP (sX st t W NI) t _).2.2.1 t (kp st t num i) = _
    rw [uP_get]
    exact hf
  have hn : ∀ k, (uC (uP (sX st t W NI) t (cgF W (((sX st t W NI).2.2.2.1 t)) (((sX st t W NI).2.2.2.1 t) - 1) 1 ((sX st t W NI).2.2.1 t))) t (kp st t num ((st.2.2.2.1 t)))).2.1 (st.2.2.1 t i) k = va_up (va_up (st.2.1 (st.2.2.1 t i)) 1 (nwI st t num ((st.2.1 (st.2.2.1 t i) 1)))) 2 (nwI st t num ((st.2.1 (st.2.2.1 t i) 2))) k := fun k => by
    show NI (st.2.2.1 t i) k = _
    by_cases h0 : 0 < i
    · rw [h2.1 i h0 hi]
    · have : i = 0 := by omega
      subst this
      rw [h2.2 _ (fun j j0 j1 e => by have := hs.2.1 t 0 j ht (by omega) (by omega) e; omega)]
      have r := hT.r
      have f2 := (hT.f 0 (by omega)).2 (by rw [r.1]; decide)
      unfold va_up
      by_cases k2 : k = 2
      · subst k2
        rw [if_pos rfl, f2]
        rfl
      · rw [if_neg k2]
        by_cases k1 : k = 1
        · subst k1
          rw [if_pos rfl, r.2.1]
          rfl
        · rw [if_neg k1]
  rw [hp, hn, hn, hn, hn, hn, hn]
  refine ⟨rfl, rfl, rfl, rfl, rfl, rfl, rfl, rfl⟩
theorem c_drop (hd2 : 2 ≤ d) (hT : TI st t) (hW : WC K h g st cb sb) (ht : t < 2) (hn0 : 0 < num) (hn : num < (st.2.2.2.1 t)) : Cal d yTr_drop [aR (g (500 + t)), aI num] h (RV (some (aI (((st.2.2.2.1 t) : Int) - kp st t num ((st.2.2.2.1 t))))) (fun h2 => ∃ st', WC K h2 g st' cb sb ∧ DR st st' t num ∧ st'.1 = st.1 ∧ st'.2.2.2.2.2 = st.2.2.2.2.2)) := by
  obtain ⟨d, rfl⟩ : ∃ e, d = e + 2 := ⟨d - 2, by omega⟩
  have hcn := hW.cnt ht
  have g0 : ¬ gn st t num 0 := fun q => by have := gn_0.1 q; omega
  have k1 : kp st t num 1 = 1 := kp_t g0
  have hkl := kp_le (st := st) (t := t) (num := num) ((st.2.2.2.1 t))
  have hk1 : 1 ≤ kp st t num ((st.2.2.2.1 t)) := kp_lt g0 (by omega)
  show Go _ _ 0 [aR (g (500 + t)), aI num, none, none, none] [] _ _
  have hsh0 := hW.shq
  refine g_iconst (n := 1) rfl (by decide) ?_
  refine g_istore_n (L' := [aR (g (500 + t)), aI ((num : Int)), aI 1, none, none]) rfl rfl ?_
  refine g_aload_n rfl rfl ?_
  refine g_get (ci := 4) (kk := 2) rfl rfl (hW.tree ht) (hW.treeb ht) rfl ?_
  refine g_iconst (n := 0) rfl (by decide) ?_
  refine g_iconst (n := 0) rfl (by decide) ?_
  refine g_iast rfl (hW.num ht) (hW.numb ht) (by omega) ?_
  generalize hg_hh1 : hput h (g (520 + t)) (eA 0 30 (va_up (st.2.2.2.2.1 t) (0 : Int).toNat 0)) = hh1
  have hW : WC K hh1 g (sW st t (va_up (st.2.2.2.2.1 t) 0 0)) cb sb := by
    rw [← hg_hh1, ← sW_uW, sW_self]
    exact hW.setW ht 0 0
  refine g_iconst (n := 1) rfl (by decide) ?_
  refine g_istore_n (L' := [aR (g (500 + t)), aI ((num : Int)), aI 1, aI 1, none]) rfl rfl ?_
  have h9 := fun Q kk => dp1_loop (Q := Q) (d := d) (num := num) hT ht hn kk ((st.2.2.2.1 t) - 1) 1 _ _ (by omega) (by omega) hW (up_nw (i := 0) (fun j hj => absurd hj (Nat.not_lt_zero _)) (by rw [nw_f g0]; rfl))
  rw [k1] at h9
  refine h9 _ (fun h W hW hw => ?_)
  have hC9 : (sW st t W).2.2.2.1 t = (st.2.2.2.1 t) := rfl
  refine g_aload_n rfl rfl ?_
  refine g_get (ci := 4) (kk := 1) rfl rfl (hW.tree ht) (hW.treeb ht) rfl ?_
  refine g_iload_n rfl rfl ?_
  refine g_isub rfl (by omega) ?_
  refine g_istore_n (L' := [aR (g (500 + t)), aI ((num : Int)), aI ((kp st t num ((st.2.2.2.1 t)) : Int)), aI (((((sW st t W).2.2.2.1 t) : Int)) - ((kp st t num ((st.2.2.2.1 t)) : Int))), none]) rfl rfl ?_
  refine g_iconst (n := 1) rfl (by decide) ?_
  refine g_istore (L' := [aR (g (500 + t)), aI ((num : Int)), aI ((kp st t num ((st.2.2.2.1 t)) : Int)), aI (((((sW st t W).2.2.2.1 t) : Int)) - ((kp st t num ((st.2.2.2.1 t)) : Int))), aI 1]) rfl rfl ?_
  refine dp2_loop (d := d) ht hw _ _ (fun h NI hW h2 => ?_) ((st.2.2.2.1 t) - 1) 1 st.2.1 _ (by omega) (by omega) hW ⟨fun j j0 j1 => by omega, fun n _ => rfl⟩
  refine g_aload_n rfl rfl ?_
  refine g_Vn (z := yTr_closeGaps) (e := 1) (A := []) (rest := [])  rfl rfl rfl rfl rfl rfl (by omega) (hW.tree ht) (hW.treeb ht) (c_closeGaps (by omega) hW ht) ?_
  intro hh1 hW
  refine g_aload_n rfl rfl ?_
  refine g_iload_n rfl rfl ?_
  refine g_put (ci := 4) (kk := 1) (fs' := [aR (g (510 + t)), aI ((kp st t num ((st.2.2.2.1 t)) : Int)), aR (g (520 + t))]) rfl rfl (hW.tree ht) (hW.treeb ht) (Nat.le_of_ble_eq_true rfl) rfl (by decide) rfl ?_
  generalize hg_hh2 : hput hh1 (g (500 + t)) (eO 4 [aR (g (510 + t)), aI ((kp st t num ((st.2.2.2.1 t)) : Int)), aR (g (520 + t))]) = hh2
  have hW : WC K hh2 g (uC (uP (sX st t W NI) t (cgF ((sX st t W NI).2.2.2.2.1 t) (((sX st t W NI).2.2.2.1 t)) (((sX st t W NI).2.2.2.1 t) - 1) 1 ((sX st t W NI).2.2.1 t))) t (kp st t num ((st.2.2.2.1 t)))) cb sb := by
    rw [← hg_hh2]
    exact hW.setC ht (n := kp st t num ((st.2.2.2.1 t))) ⟨hk1, by omega⟩
  refine g_iload_n rfl rfl ?_
  exact r_i rfl rfl rfl ⟨_, hW, dr_ok hT ht hsh0 hn0 hw h2, rfl, rfl⟩
end DropC
