/-! The reference: it writes a tree. -/
section Md12
variable {B h : AH} {m0 d t : Nat} {s : MS} {P W C : Nat → Int} {n : Int} {l : List Int}
theorem bkn_m (hM : MOK s) (ht : t < 2) {i : Nat} (hi : i < 30) : ((bkn (mst s) t i : Nat) : Int) = 1 + (if s.1 1 (30 * t + i) = 1 then (s.1 7 (30 * t + i) + 511) / 512 else 0) ∧ bkn (mst s) t i ≤ 5 := by
  have hm := hM.1 (30 * t + i) (by omega)
  have ebd : ((mst s).1 (2 * (mst s).2.2.1 t i + 1)) = bdM s (30 * t + i) := mst_bd s ht hi
  have hbl : (bdM s (30 * t + i)).length = (s.1 7 (30 * t + i)).toNat := oF_len _ _
  have ek : ((mst s).2.1 ((mst s).2.2.1 t i) 0) = s.1 1 (30 * t + i) := rfl
  unfold bkn cln
  rw [ek, ebd, hbl]
  by_cases z : s.1 1 (30 * t + i) = 1
  · rw [if_pos z, if_pos z]
    omega
  · rw [if_neg z, if_neg z]
    omega
theorem tel_m (hT : TI (mst s) t) {i : Nat} (hi : i < ((mst s).2.2.2.1 t)) : tel (mst s) t i ↔ (cutM (pth (mst s) t i) ≠ -1 ∧ (((mst s).2.1 ((mst s).2.2.1 t i) 0) = 3 → (pth (mst s) t (((mst s).2.1 ((mst s).2.2.1 t i) 2))).length ≤ 100)) := by
  have hpp := pln_pth (mst s) t i
  have hpf := pln_pth (mst s) t (((mst s).2.1 ((mst s).2.2.1 t i) 2))
  have hf := hT.f i hi
  have hc1 : cutM (pth (mst s) t i) ≠ -1 ↔ (100 < pln (mst s) t i → cutP (pth (mst s) t i) ≠ -1 ∧ cutP (pth (mst s) t i) ≤ 155) := by
    unfold cutM
    by_cases z : (pth (mst s) t i).length ≤ 100
    · rw [if_pos z]
      exact ⟨fun _ q => by omega, fun _ => by decide⟩
    · rw [if_neg z]
      by_cases y : cutP (pth (mst s) t i) = -1 ∨ 155 < cutP (pth (mst s) t i)
      · rw [pk_t y]
        exact ⟨fun q => absurd rfl q, fun q => by have := q (by omega); omega⟩
      · rw [pk_f y]
        exact ⟨fun _ _ => by omega, fun _ => by omega⟩
  unfold tel
  rw [hc1]
  constructor
  · intro q
    exact ⟨q.1, fun _ => by have := q.2; omega⟩
  · intro q
    refine ⟨q.1, ?_⟩
    by_cases k3 : ((mst s).2.1 ((mst s).2.2.1 t i) 0) = 3
    · have := q.2 k3
      omega
    · rw [hf.2 k3] at hpf ⊢
      have e : pth (mst s) t (-1) = [] := by
        unfold pth
        rw [upl_stop (fun z => by omega), @if_neg _ (Classical.propDecidable _) (fun z => by have := z.1; omega)]
        rfl
      rw [e, List.length_nil] at hpf
      omega
/-- first loop: can it be told, how many blocks -/
theorem wr1 {Q : AO → AH → Prop} (hM : MOK s) (ht : t < 2) (hb : s.2 11 = 30 * (t : Int)) (hT : TI (mst s) t) (hO : ordA (mst s) t (s.1 16)) (kk : ∀ (h : AH) (W C : Nat → Int) (n x g0 y : Int) (v4 : AV), WM B m0 h (xF s P W n C) → ((g0 = 1 ∧ (∀ i, i + 1 < ((mst s).2.2.2.1 t) → tel (mst s) t (s.1 16 i).toNat) ∧ x = ((2 + sumN (fun i => bkn (mst s) t (s.1 16 i).toNat) (((mst s).2.2.2.1 t) - 1) : Nat) : Int)) ∨ (g0 = 0 ∧ (¬ ∀ i, i + 1 < ((mst s).2.2.2.1 t) → tel (mst s) t (s.1 16 i).toNat) ∧ 0 ≤ x ∧ x ≤ 1000)) → Go (d + 1) yMd_write 125 [aR m0, aI x, aI g0, aI y, v4, none, none] [] h Q) : ∀ (q i : Nat) (h : AH) (W C : Nat → Int) (n : Int) (v4 : AV), i + 1 + q = ((mst s).2.2.2.1 t) → WM B m0 h (xF s P W n C) → (∀ j, j < i → tel (mst s) t (s.1 16 j).toNat) → Go (d + 1) yMd_write 10 [aR m0, aI ((2 + sumN (fun i => bkn (mst s) t (s.1 16 i).toNat) i : Nat) : Int), aI 1, aI (i : Int), v4, none, none] [] h Q := by
  have hc := hT.c
  have hcn := hM.2.1 t ht
  have hC : ((mst s).2.2.2.1 t) = (s.1 9 t).toNat := rfl
  have e30 : (s.2 11 / 30).toNat = t := by omega
  have hsm : ∀ i, i + 1 ≤ ((mst s).2.2.2.1 t) → sumN (fun i => bkn (mst s) t (s.1 16 i).toNat) i ≤ 5 * i := by
    intro i
    induction i with
    | zero => intro _; exact Nat.le_refl _
    | succ i ih =>
      intro hi
      have h1 := ih (by omega)
      have r := ord_r hT hO (i := i) (by omega)
      have h2 := (bkn_m hM ht (i := (s.1 16 i).toNat) (by omega)).2
      show sumN (fun i => bkn (mst s) t (s.1 16 i).toNat) i + bkn (mst s) t (s.1 16 i).toNat ≤ _
      omega
  intro q
  induction q with
  | zero =>
    intro i h W C n v4 hi hW htl
    obtain rfl : i = ((mst s).2.2.2.1 t) - 1 := by omega
    have hs1 := hsm (((mst s).2.2.2.1 t) - 1) (by omega)
    refine g_iload_n rfl rfl ?_
    refine g_aload_n rfl rfl ?_
    refine g_V (z := yMd_count) (e := 1) (A := []) (rest := [aI (((((mst s).2.2.2.1 t) - 1 : Nat) : Int))]) (v := aI (s.1 9 t)) (P := fun h2 => h2 = h) rfl rfl rfl rfl rfl rfl (by omega) (xF_ob hW) hW.b0 ((by have k9 := m_count (s := xF s P W n C) (d := d + 1 - 1) hM hW; exact e30 ▸ k9)) ?_
    intro hh9 he9
    rw [he9]
    clear he9 hh9
    refine g_iconst (n := 1) rfl (by decide) ?_
    refine g_isub rfl (by omega) ?_
    refine g_icmpge rfl rfl (fun c1 => ?_) (fun c => absurd c (by omega))
    exact kk _ _ _ _ _ _ _ _ hW (Or.inl ⟨rfl, fun i hi => htl i (by omega), rfl⟩)
  | succ q ih =>
    intro i h W C n v4 hi hW htl
    have hs1 := hsm i (by omega)
    have hs2 : sumN (fun i => bkn (mst s) t (s.1 16 i).toNat) (i + 1) = sumN (fun i => bkn (mst s) t (s.1 16 i).toNat) i + bkn (mst s) t (s.1 16 i).toNat := rfl
    have r := ord_r hT hO (i := i) (by omega)
    obtain ⟨o, ho⟩ : ∃ o : Nat, s.1 16 i = o := ⟨(s.1 16 i).toNat, by omega⟩
    have htm := tel_m hT (i := o) (by omega)
    have hbk := bkn_m hM ht (i := o) (by omega)
    have hpl := hT.pl (o : Int)
    have hpl2 := hT.pl (((mst s).2.1 ((mst s).2.2.1 t o) 2))
    rw [ho] at r
    rw [ho, Int.toNat_natCast] at hs2
    have e1 : (30 * (t : Int) + (o : Int)).toNat = 30 * t + o := by omega
    have hdead : ¬ tel (mst s) t o → ¬ ∀ i, i + 1 < ((mst s).2.2.2.1 t) → tel (mst s) t (s.1 16 i).toNat := fun z y => z (by have := y i (by omega); rw [ho, Int.toNat_natCast] at this; exact this)
    generalize hSM : sumN (fun i => bkn (mst s) t (s.1 16 i).toNat) i = SM at *
    refine g_iload_n rfl rfl ?_
    refine g_aload_n rfl rfl ?_
    refine g_V (z := yMd_count) (e := 1) (A := []) (rest := [aI ((i : Int))]) (v := aI (s.1 9 t)) (P := fun h2 => h2 = h) rfl rfl rfl rfl rfl rfl (by omega) (xF_ob hW) hW.b0 ((by have k9 := m_count (s := xF s P W n C) (d := d + 1 - 1) hM hW; exact e30 ▸ k9)) ?_
    intro hh9 he9
    rw [he9]
    clear he9 hh9
    refine g_iconst (n := 1) rfl (by decide) ?_
    refine g_isub rfl (by omega) ?_
    refine g_icmpge rfl rfl (fun c => absurd c (by omega)) (fun c1 => ?_)
    refine g_iload_n rfl rfl ?_
    refine g_ifeq rfl rfl (fun c => absurd c (by decide)) (fun c => ?_)
    refine g_aload_n rfl rfl ?_
    refine g_get (ci := 8) (kk := 21) rfl rfl (xF_ob hW) hW.b0 rfl ?_
    refine g_iload_n rfl rfl ?_
    refine g_iald rfl (xF_a16 hW) (by omega) ?_
    rw [show (s.1 16) ((i : Int)).toNat = (o : Int) from ho]
    refine g_istore (L' := [aR m0, aI (((2 + SM : Nat) : Int)), aI 1, aI ((i : Int)), aI ((o : Int)), none, none]) rfl rfl ?_
    refine g_iload_n rfl rfl ?_
    refine g_iconst (n := 1) rfl (by decide) ?_
    refine g_aload_n rfl rfl ?_
    refine g_aload_n rfl rfl ?_
    refine g_get (ci := 8) (kk := 11) rfl rfl (xF_ob hW) hW.b0 rfl ?_
    rw [show s.2 11 = 30 * (t : Int) from hb]
    refine g_iload rfl rfl ?_
    refine g_iadd rfl (by omega) ?_
    refine g_V (z := yMd_blocksOf) (e := 1) (A := [aI ((30 * (t : Int)) + ((o : Int)))]) (rest := [aI 1, aI (((2 + SM : Nat) : Int))]) (v := aI ((if s.1 1 (30 * t + o) = 1 then (s.1 7 (30 * t + o) + 511) / 512 else 0))) (P := fun h2 => h2 = h) rfl rfl rfl rfl rfl rfl (by omega) (xF_ob hW) hW.b0 ((by have k9 := m_blocksOf (s := xF s P W n C) (d := d + 1 - 1) hM hW (30 * t + o) (by omega); rw [show ((30 * t + o : Nat) : Int) = 30 * (t : Int) + o by omega] at k9; exact k9)) ?_
    intro hh9 he9
    rw [he9]
    clear he9 hh9
    refine g_iadd rfl (by omega) ?_
    refine g_iadd rfl (by omega) ?_
    refine g_istore_n (L' := [aR m0, aI ((((2 + SM : Nat) : Int)) + (1 + ((if s.1 1 (30 * t + o) = 1 then (s.1 7 (30 * t + o) + 511) / 512 else 0)))), aI 1, aI ((i : Int)), aI ((o : Int)), none, none]) rfl rfl ?_
    refine g_aload_n rfl rfl ?_
    refine g_iload rfl rfl ?_
    refine g_Vn (z := yMd_tell) (e := 1) (A := [aI ((o : Int))]) (rest := [])  rfl rfl rfl rfl rfl rfl (by omega) (xF_ob hW) hW.b0 (m_tell (s := s) hM ht hb hT hW (o : Int) (by omega) (by omega)) ?_
    intro hh3 hq
    obtain ⟨W1, n1, C1, hW, hw1, hn1⟩ := hq
    refine g_aload_n rfl rfl ?_
    refine g_V (z := yMd_cutOf) (e := 1) (A := []) (rest := []) (v := aI (cutM (pth (mst s) t (o : Int)))) (P := fun h2 => h2 = hh3) rfl rfl rfl rfl rfl rfl (by omega) (xF_ob hW) hW.b0 ((by have k9 := m_cutOf (s := xF s P W1 n1 C1) (d := d + 1 - 1) hW (show 0 ≤ n1 by omega) (show n1 ≤ 3200 by omega); rw [wy_x, hw1] at k9; exact k9)) ?_
    intro hh9 he9
    rw [he9]
    clear he9 hh9
    refine g_iconst (n := -1) rfl (by decide) ?_
    refine g_icmpeq rfl rfl (fun c4 => ?_) (fun c4 => ?_)
    · skip
      have hno : ¬ tel (mst s) t o := fun z => (htm.1 z).1 c4
      refine g_iconst (n := 0) rfl (by decide) ?_
      refine g_istore_n (L' := [aR m0, aI ((((2 + SM : Nat) : Int)) + (1 + ((if s.1 1 (30 * t + o) = 1 then (s.1 7 (30 * t + o) + 511) / 512 else 0)))), aI 0, aI ((i : Int)), aI ((o : Int)), none, none]) rfl rfl ?_
      refine g_iload_n rfl rfl ?_
      refine g_ifeq rfl rfl (fun c => ?_) (fun c => absurd c (by decide))
      refine g_iinc (L' := [aR m0, aI ((((2 + SM : Nat) : Int)) + (1 + ((if s.1 1 (30 * t + o) = 1 then (s.1 7 (30 * t + o) + 511) / 512 else 0)))), aI 0, aI ((i : Int) + 1), aI ((o : Int)), none, none]) rfl rfl (by omega) rfl ?_
      refine g_goto rfl rfl ?_
      refine g_iload_n rfl rfl ?_
      refine g_aload_n rfl rfl ?_
      refine g_V (z := yMd_count) (e := 1) (A := []) (rest := [aI ((i : Int) + 1)]) (v := aI (s.1 9 t)) (P := fun h2 => h2 = hh3) rfl rfl rfl rfl rfl rfl (by omega) (xF_ob hW) hW.b0 ((by have k9 := m_count (s := xF s P W1 n1 C1) (d := d + 1 - 1) hM hW; exact e30 ▸ k9)) ?_
      intro hh9 he9
      rw [he9]
      clear he9 hh9
      refine g_iconst (n := 1) rfl (by decide) ?_
      refine g_isub rfl (by omega) ?_
      refine g_icmpge rfl rfl (fun c1 => ?_) (fun c1 => ?_)
      · skip
        exact kk _ _ _ _ _ _ _ _ hW (Or.inr ⟨rfl, hdead hno, by omega, by omega⟩)
      · skip
        refine g_iload_n rfl rfl ?_
        refine g_ifeq rfl rfl (fun c => ?_) (fun c => absurd c (by decide))
        exact kk _ _ _ _ _ _ _ _ hW (Or.inr ⟨rfl, hdead hno, by omega, by omega⟩)
    · skip
      have hcu := c4
      refine g_iconst (n := 1) rfl (by decide) ?_
      refine g_goto rfl rfl ?_
      refine g_istore_n (L' := [aR m0, aI ((((2 + SM : Nat) : Int)) + (1 + ((if s.1 1 (30 * t + o) = 1 then (s.1 7 (30 * t + o) + 511) / 512 else 0)))), aI 1, aI ((i : Int)), aI ((o : Int)), none, none]) rfl rfl ?_
      refine g_iload_n rfl rfl ?_
      refine g_ifeq rfl rfl (fun c => absurd c (by decide)) (fun c => ?_)
      refine g_aload_n rfl rfl ?_
      refine g_get (ci := 8) (kk := 0) rfl rfl (xF_ob hW) hW.b0 rfl ?_
      refine g_aload_n rfl rfl ?_
      refine g_get (ci := 8) (kk := 11) rfl rfl (xF_ob hW) hW.b0 rfl ?_
      rw [show s.2 11 = 30 * (t : Int) from hb]
      refine g_iload rfl rfl ?_
      refine g_iadd rfl (by omega) ?_
      refine g_iald rfl (xF_a1 hW) (by omega) ?_
      rw [show (s.1 1) ((30 * (t : Int)) + ((o : Int))).toNat = s.1 1 (30 * t + o) from by rw [e1]]
      refine g_iconst (n := 3) rfl (by decide) ?_
      refine g_icmpne rfl rfl (fun c7 => ?_) (fun c7 => ?_)
      · skip
        have hyes : tel (mst s) t o := htm.2 ⟨hcu, fun z => absurd z c7⟩
        refine g_iinc (L' := [aR m0, aI ((((2 + SM : Nat) : Int)) + (1 + ((if s.1 1 (30 * t + o) = 1 then (s.1 7 (30 * t + o) + 511) / 512 else 0)))), aI 1, aI ((i : Int) + 1), aI ((o : Int)), none, none]) rfl rfl (by omega) rfl ?_
        refine g_goto rfl rfl ?_
        have h9 := ih (i + 1) _ _ _ _ (aI (o : Int)) (by omega) hW (fun j hj => by
          by_cases e : j = i
          · rw [e, ho, Int.toNat_natCast]; exact hyes
          · exact htl j (by omega))
        rw [hs2, show ((2 + (SM + bkn (mst s) t o) : Nat) : Int) = (((2 + SM : Nat) : Int)) + (1 + ((if s.1 1 (30 * t + o) = 1 then (s.1 7 (30 * t + o) + 511) / 512 else 0))) by omega] at h9
        exact h9
      · skip
        have k3 : ((mst s).2.1 ((mst s).2.2.1 t o) 0) = 3 := c7
        refine g_aload_n rfl rfl ?_
        refine g_aload_n rfl rfl ?_
        refine g_get (ci := 8) (kk := 7) rfl rfl (xF_ob hW) hW.b0 rfl ?_
        refine g_aload_n rfl rfl ?_
        refine g_get (ci := 8) (kk := 11) rfl rfl (xF_ob hW) hW.b0 rfl ?_
        rw [show s.2 11 = 30 * (t : Int) from hb]
        refine g_iload rfl rfl ?_
        refine g_iadd rfl (by omega) ?_
        refine g_iald rfl (xF_a8 hW) (by omega) ?_
        rw [show (s.1 8) ((30 * (t : Int)) + ((o : Int))).toNat = ((mst s).2.1 ((mst s).2.2.1 t o) 2) from by rw [e1]; rfl]
        have hfl : 0 < ((mst s).2.1 ((mst s).2.2.1 t o) 2) ∧ ((mst s).2.1 ((mst s).2.2.1 t o) 2) < ((mst s).2.2.2.1 t) := by
          have z9 := (hT.f o (by omega)).1 k3
          refine ⟨?_, by omega⟩
          refine Classical.byContradiction fun z => ?_
          have z0 : ((mst s).2.1 ((mst s).2.2.1 t o) 2) = 0 := by omega
          rw [z0] at z9
          have z8 := hT.r.1
          have z7 : ((mst s).2.1 ((mst s).2.2.1 t 0) 0) = 1 := z9.2.2
          omega
        refine g_Vn (z := yMd_tell) (e := 1) (A := [aI (((mst s).2.1 ((mst s).2.2.1 t o) 2))]) (rest := [])  rfl rfl rfl rfl rfl rfl (by omega) (xF_ob hW) hW.b0 (m_tell (s := s) hM ht hb hT hW (((mst s).2.1 ((mst s).2.2.1 t o) 2)) hfl.1 hfl.2) ?_
        intro hh8 hq
        obtain ⟨W2, n2, C2, hW, hw2, hn2⟩ := hq
        refine g_aload_n rfl rfl ?_
        refine g_get (ci := 8) (kk := 16) rfl rfl (xF_ob hW) hW.b0 rfl ?_
        refine g_bipush (n := 100) rfl (by decide) ?_
        refine g_icmpgt rfl rfl (fun c9 => ?_) (fun c9 => ?_)
        · skip
          have hno : ¬ tel (mst s) t o := fun z => by have := (htm.1 z).2 k3; omega
          refine g_iconst (n := 0) rfl (by decide) ?_
          refine g_istore_n (L' := [aR m0, aI ((((2 + SM : Nat) : Int)) + (1 + ((if s.1 1 (30 * t + o) = 1 then (s.1 7 (30 * t + o) + 511) / 512 else 0)))), aI 0, aI ((i : Int)), aI ((o : Int)), none, none]) rfl rfl ?_
          refine g_iinc (L' := [aR m0, aI ((((2 + SM : Nat) : Int)) + (1 + ((if s.1 1 (30 * t + o) = 1 then (s.1 7 (30 * t + o) + 511) / 512 else 0)))), aI 0, aI ((i : Int) + 1), aI ((o : Int)), none, none]) rfl rfl (by omega) rfl ?_
          refine g_goto rfl rfl ?_
          refine g_iload_n rfl rfl ?_
          refine g_aload_n rfl rfl ?_
          refine g_V (z := yMd_count) (e := 1) (A := []) (rest := [aI ((i : Int) + 1)]) (v := aI (s.1 9 t)) (P := fun h2 => h2 = hh8) rfl rfl rfl rfl rfl rfl (by omega) (xF_ob hW) hW.b0 ((by have k9 := m_count (s := xF s P W2 n2 C2) (d := d + 1 - 1) hM hW; exact e30 ▸ k9)) ?_
          intro hh9 he9
          rw [he9]
          clear he9 hh9
          refine g_iconst (n := 1) rfl (by decide) ?_
          refine g_isub rfl (by omega) ?_
          refine g_icmpge rfl rfl (fun c1 => ?_) (fun c1 => ?_)
          · skip
            exact kk _ _ _ _ _ _ _ _ hW (Or.inr ⟨rfl, hdead hno, by omega, by omega⟩)
          · skip
            refine g_iload_n rfl rfl ?_
            refine g_ifeq rfl rfl (fun c => ?_) (fun c => absurd c (by decide))
            exact kk _ _ _ _ _ _ _ _ hW (Or.inr ⟨rfl, hdead hno, by omega, by omega⟩)
        · skip
          have hyes : tel (mst s) t o := htm.2 ⟨hcu, fun _ => by omega⟩
          refine g_iconst (n := 1) rfl (by decide) ?_
          refine g_goto rfl rfl ?_
          refine g_istore_n (L' := [aR m0, aI ((((2 + SM : Nat) : Int)) + (1 + ((if s.1 1 (30 * t + o) = 1 then (s.1 7 (30 * t + o) + 511) / 512 else 0)))), aI 1, aI ((i : Int)), aI ((o : Int)), none, none]) rfl rfl ?_
          refine g_iinc (L' := [aR m0, aI ((((2 + SM : Nat) : Int)) + (1 + ((if s.1 1 (30 * t + o) = 1 then (s.1 7 (30 * t + o) + 511) / 512 else 0)))), aI 1, aI ((i : Int) + 1), aI ((o : Int)), none, none]) rfl rfl (by omega) rfl ?_
          refine g_goto rfl rfl ?_
          have h9 := ih (i + 1) _ _ _ _ (aI (o : Int)) (by omega) hW (fun j hj => by
            by_cases e : j = i
            · rw [e, ho, Int.toNat_natCast]; exact hyes
            · exact htl j (by omega))
          rw [hs2, show ((2 + (SM + bkn (mst s) t o) : Nat) : Int) = (((2 + SM : Nat) : Int)) + (1 + ((if s.1 1 (30 * t + o) = 1 then (s.1 7 (30 * t + o) + 511) / 512 else 0))) by omega] at h9
          exact h9
theorem wr2 {Q : AO → AH → Prop} (P0 : Nat → Int) (x g0 : Int) (v4 : AV) (h1 : s.2 13 ≤ 10240) (h1' : 0 ≤ s.2 13) (kk : ∀ (h : AH), WM B m0 h (xF s (cyW (fun _ => 0) P0 0 0 (s.2 13)) W n C) → Go d yMd_write 187 [aR m0, aI x, aI g0, aI (s.2 13), v4, none, none] [] h Q) : ∀ (q : Nat) (i : Int) (h : AH), 0 ≤ i → i ≤ s.2 13 → (s.2 13 - i).toNat ≤ q → WM B m0 h (xF s (cyW (fun _ => 0) P0 0 0 i) W n C) → Go d yMd_write 166 [aR m0, aI x, aI g0, aI i, v4, none, none] [] h Q := by
  intro q
  induction q with
  | zero =>
    intro i h a1 a2 a3 hW
    obtain rfl : i = s.2 13 := by omega
    refine g_iload_n rfl rfl ?_
    refine g_aload_n rfl rfl ?_
    refine g_get (ci := 8) (kk := 13) rfl rfl (xF_ob hW) hW.b0 rfl ?_
    refine g_icmpge rfl rfl (fun c1 => ?_) (fun c => absurd c (by omega))
    exact kk _ hW
  | succ q ih =>
    intro i h a1 a2 a3 hW
    by_cases hi : i < s.2 13
    · skip
      refine g_iload_n rfl rfl ?_
      refine g_aload_n rfl rfl ?_
      refine g_get (ci := 8) (kk := 13) rfl rfl (xF_ob hW) hW.b0 rfl ?_
      refine g_icmpge rfl rfl (fun c => absurd c (by omega)) (fun c1 => ?_)
      refine g_aload_n rfl rfl ?_
      refine g_get (ci := 8) (kk := 12) rfl rfl (xF_ob hW) hW.b0 rfl ?_
      refine g_iload_n rfl rfl ?_
      refine g_iconst (n := 0) rfl (by decide) ?_
      refine g_bast rfl (xF_a12 hW) hW.bk (by omega) ?_
      generalize hg_hh2 : hput h (m0 + 12) (eA 1 10240 (va_up ((cyW (fun _ => 0) P0 0 0 i)) (i).toNat (a8 0))) = hh2
      have hW := xF_12 hW i.toNat (a8_r 0)
      rw [hg_hh2, a8_id (x := 0) (by omega) (by omega)] at hW
      have cs := cy_s (F := fun _ => (0 : Int)) (P0 := P0) (p := 0) (q := 0) (i := i) (by omega) a1
      rw [show (0 : Int) + i = i by omega] at cs
      rw [cs] at hW
      refine g_iinc (L' := [aR m0, aI x, aI g0, aI (i + 1), v4, none, none]) rfl rfl (by omega) rfl ?_
      refine g_goto rfl rfl ?_
      exact ih (i + 1) _ (by omega) (by omega) (by omega) hW
    · obtain rfl : i = s.2 13 := by omega
      refine g_iload_n rfl rfl ?_
      refine g_aload_n rfl rfl ?_
      refine g_get (ci := 8) (kk := 13) rfl rfl (xF_ob hW) hW.b0 rfl ?_
      refine g_icmpge rfl rfl (fun c1 => ?_) (fun c => absurd c (by omega))
      exact kk _ hW
theorem wr3c {Q : AO → AH → Prop} (hM : MOK s) (x g0 att y : Int) (k : Nat) (hk : k < 60) (P0 : Nat → Int) (ha : 0 ≤ att) (hkd : s.1 1 k = 1) (ha2 : att + s.1 7 k ≤ 10240) (kk : ∀ (h : AH) (v6 : Int), WM B m0 h (xF s (cyW (s.1 11) P0 att (2000 * (k : Int)) (s.1 7 k)) W n C) → Go d yMd_write 285 [aR m0, aI x, aI g0, aI att, aI y, aI (k : Int), aI v6] [] h Q) : ∀ (q : Nat) (i : Int) (h : AH), 0 ≤ i → i ≤ s.1 7 k → (s.1 7 k - i).toNat ≤ q → WM B m0 h (xF s (cyW (s.1 11) P0 att (2000 * (k : Int)) i) W n C) → Go d yMd_write 233 [aR m0, aI x, aI g0, aI att, aI y, aI (k : Int), aI i] [] h Q := by
  have hm := hM.1 k hk
  intro q
  induction q with
  | zero =>
    intro i h a1 a2 a3 hW
    obtain rfl : i = s.1 7 k := by omega
    refine g_iload rfl rfl ?_
    refine g_aload_n rfl rfl ?_
    refine g_get (ci := 8) (kk := 6) rfl rfl (xF_ob hW) hW.b0 rfl ?_
    refine g_iload rfl rfl ?_
    refine g_iald rfl (xF_a7 hW) (by omega) ?_
    rw [show (s.1 7) ((k : Int)).toNat = s.1 7 k from rfl]
    refine g_icmpge rfl rfl (fun c1 => ?_) (fun c => absurd c (by omega))
    exact kk _ _ hW
  | succ q ih =>
    intro i h a1 a2 a3 hW
    by_cases hi : i < s.1 7 k
    · have h8 := xF_b8 hW (2000 * (k : Int) + i).toNat
      refine g_iload rfl rfl ?_
      refine g_aload_n rfl rfl ?_
      refine g_get (ci := 8) (kk := 6) rfl rfl (xF_ob hW) hW.b0 rfl ?_
      refine g_iload rfl rfl ?_
      refine g_iald rfl (xF_a7 hW) (by omega) ?_
      rw [show (s.1 7) ((k : Int)).toNat = s.1 7 k from rfl]
      refine g_icmpge rfl rfl (fun c => absurd c (by omega)) (fun c1 => ?_)
      refine g_aload_n rfl rfl ?_
      refine g_get (ci := 8) (kk := 0) rfl rfl (xF_ob hW) hW.b0 rfl ?_
      refine g_iload rfl rfl ?_
      refine g_iald rfl (xF_a1 hW) (by omega) ?_
      rw [show (s.1 1) ((k : Int)).toNat = s.1 1 k from rfl]
      refine g_iconst (n := 1) rfl (by decide) ?_
      refine g_icmpne rfl rfl (fun c => absurd c (by omega)) (fun c2 => ?_)
      refine g_aload_n rfl rfl ?_
      refine g_get (ci := 8) (kk := 12) rfl rfl (xF_ob hW) hW.b0 rfl ?_
      refine g_iload_n rfl rfl ?_
      refine g_iload rfl rfl ?_
      refine g_iadd rfl (by omega) ?_
      refine g_aload_n rfl rfl ?_
      refine g_get (ci := 8) (kk := 10) rfl rfl (xF_ob hW) hW.b0 rfl ?_
      refine g_sipush (n := 2000) rfl (by decide) ?_
      refine g_iload rfl rfl ?_
      refine g_imul rfl (by omega) ?_
      refine g_iload rfl rfl ?_
      refine g_iadd rfl (by omega) ?_
      refine g_bald rfl (xF_a11 hW) (by omega) ?_
      refine g_bast rfl (xF_a12 hW) hW.bk (by omega) ?_
      generalize hg_hh3 : hput h (m0 + 12) (eA 1 10240 (va_up ((cyW (s.1 11) P0 att (2000 * (k : Int)) i)) (att + i).toNat (a8 ((s.1 11) ((2000 * ((k : Int))) + i).toNat)))) = hh3
      have hW := xF_12 hW (att + i).toNat (a8_r (s.1 11 (2000 * (k : Int) + i).toNat))
      rw [hg_hh3, a8_of h8, cy_s (by omega) a1] at hW
      refine g_iinc (L' := [aR m0, aI x, aI g0, aI att, aI y, aI ((k : Int)), aI (i + 1)]) rfl rfl (by omega) rfl ?_
      refine g_goto rfl rfl ?_
      exact ih (i + 1) _ (by omega) (by omega) (by omega) hW
    · obtain rfl : i = s.1 7 k := by omega
      refine g_iload rfl rfl ?_
      refine g_aload_n rfl rfl ?_
      refine g_get (ci := 8) (kk := 6) rfl rfl (xF_ob hW) hW.b0 rfl ?_
      refine g_iload rfl rfl ?_
      refine g_iald rfl (xF_a7 hW) (by omega) ?_
      rw [show (s.1 7) ((k : Int)).toNat = s.1 7 k from rfl]
      refine g_icmpge rfl rfl (fun c1 => ?_) (fun c => absurd c (by omega))
      exact kk _ _ hW
theorem wr3 {Z : List Int × Int} (hM : MOK s) (ht : t < 2) (hb : s.2 11 = 30 * (t : Int)) (hT : TI (mst s) t) (hO : ordA (mst s) t (s.1 16)) (x g0 : Int) (hte : ∀ i, i + 1 < ((mst s).2.2.2.1 t) → tel (mst s) t (s.1 16 i).toNat) (hZ : Z.1.length = (s.2 13).toNat) (hZ2 : Z.2 = 0) (hsum : (sumN (fun i => bkn (mst s) t (s.1 16 i).toNat) (((mst s).2.2.2.1 t) - 1) : Int) * 512 ≤ s.2 13) : ∀ (q i : Nat) (h : AH) (P W C : Nat → Int) (n : Int) (v5 v6 : AV), i + 1 + q = ((mst s).2.2.2.1 t) → WM B m0 h (xF s P W n C) → PL P (oeF (mst s) t (s.1 16) Z i).1 → Go (d + 3) yMd_write 192 [aR m0, aI x, aI g0, aI ((oeF (mst s) t (s.1 16) Z i).2 * 512), aI (i : Int), v5, v6] [] h (RV (some (aI x)) (fun h2 => ∃ P' W' n' C', WM B m0 h2 (xF s P' W' n' C') ∧ PL P' (oeF (mst s) t (s.1 16) Z (((mst s).2.2.2.1 t) - 1)).1)) := by
  have hc := hT.c
  have hcn := hM.2.1 t ht
  have hmm := hM.2.2.2
  have hC : ((mst s).2.2.2.1 t) = (s.1 9 t).toNat := rfl
  have e30 : (s.2 11 / 30).toNat = t := by omega
  have mono : ∀ a b : Nat, sumN (fun i => bkn (mst s) t (s.1 16 i).toNat) a ≤ sumN (fun i => bkn (mst s) t (s.1 16 i).toNat) (a + b) := by
    intro a b
    induction b with
    | zero => exact Nat.le_refl _
    | succ b ihb =>
      have : sumN (fun i => bkn (mst s) t (s.1 16 i).toNat) (a + (b + 1)) = sumN (fun i => bkn (mst s) t (s.1 16 i).toNat) (a + b) + bkn (mst s) t (s.1 16 (a + b)).toNat := rfl
      omega
  intro q
  induction q with
  | zero =>
    intro i h P W C n v5 v6 hi hW hP
    obtain rfl : i = ((mst s).2.2.2.1 t) - 1 := by omega
    refine g_iload rfl rfl ?_
    refine g_aload_n rfl rfl ?_
    refine g_V (z := yMd_count) (e := 1) (A := []) (rest := [aI (((((mst s).2.2.2.1 t) - 1 : Nat) : Int))]) (v := aI (s.1 9 t)) (P := fun h2 => h2 = h) rfl rfl rfl rfl rfl rfl (by omega) (xF_ob hW) hW.b0 ((by have k9 := m_count (s := xF s P W n C) (d := d + 3 - 1) hM hW; exact e30 ▸ k9)) ?_
    intro hh9 he9
    rw [he9]
    clear he9 hh9
    refine g_iconst (n := 1) rfl (by decide) ?_
    refine g_isub rfl (by omega) ?_
    refine g_icmpge rfl rfl (fun c1 => ?_) (fun c => absurd c (by omega))
    refine g_iload_n rfl rfl ?_
    exact r_i rfl rfl rfl ⟨_, _, _, _, hW, hP⟩
  | succ q ih =>
    intro i h P W C n v5 v6 hi hW hP
    have r := ord_r hT hO (i := i) (by omega)
    obtain ⟨o, ho⟩ : ∃ o : Nat, s.1 16 i = o := ⟨(s.1 16 i).toNat, by omega⟩
    have htl := hte i (by omega)
    have hbk := bkn_m hM ht (i := o) (by omega)
    have hmo := hM.1 (30 * t + o) (by omega)
    have hsn : sumN (fun i => bkn (mst s) t (s.1 16 i).toNat) (i + 1) = sumN (fun i => bkn (mst s) t (s.1 16 i).toNat) i + bkn (mst s) t (s.1 16 i).toNat := rfl
    have hmn := mono (i + 1) (((mst s).2.2.2.1 t) - 1 - (i + 1))
    rw [show i + 1 + (((mst s).2.2.2.1 t) - 1 - (i + 1)) = ((mst s).2.2.2.1 t) - 1 by omega] at hmn
    obtain ⟨l1, l2⟩ := oeF_len (st := mst s) (t := t) (O := s.1 16) Z i
    have hoe : oeF (mst s) t (s.1 16) Z (i + 1) = entW (mst s) t (s.1 16 i).toNat (oeF (mst s) t (s.1 16) Z i) := rfl
    rw [ho] at r
    rw [ho, Int.toNat_natCast] at htl hsn hoe
    generalize hSM : sumN (fun i => bkn (mst s) t (s.1 16 i).toNat) i = SM at *
    generalize hXX : oeF (mst s) t (s.1 16) Z i = XX at *
    obtain ⟨l, b⟩ := XX
    simp only at l1 l2 hP ⊢
    have hb0 : 0 ≤ b := by omega
    have hbl : (b + bkn (mst s) t o) * 512 ≤ l.length := by omega
    have ebd : ((mst s).1 (2 * (mst s).2.2.1 t o + 1)) = bdM s (30 * t + o) := mst_bd s ht (by omega)
    have hbl2 : (bdM s (30 * t + o)).length = (s.1 7 (30 * t + o)).toNat := oF_len _ _
    have hhl := hdrL_len (mst s) t o l b
    have e1 : (30 * (t : Int) + (o : Int)) = ((30 * t + o : Nat) : Int) := by omega
    have e2 : ((mst s).2.1 ((mst s).2.2.1 t o) 0) = s.1 1 (30 * t + o) := rfl
    have e3 : (30 * (t : Int) + (o : Int)).toNat = 30 * t + o := by omega
    refine g_iload rfl rfl ?_
    refine g_aload_n rfl rfl ?_
    refine g_V (z := yMd_count) (e := 1) (A := []) (rest := [aI ((i : Int))]) (v := aI (s.1 9 t)) (P := fun h2 => h2 = h) rfl rfl rfl rfl rfl rfl (by omega) (xF_ob hW) hW.b0 ((by have k9 := m_count (s := xF s P W n C) (d := d + 3 - 1) hM hW; exact e30 ▸ k9)) ?_
    intro hh9 he9
    rw [he9]
    clear he9 hh9
    refine g_iconst (n := 1) rfl (by decide) ?_
    refine g_isub rfl (by omega) ?_
    refine g_icmpge rfl rfl (fun c => absurd c (by omega)) (fun c1 => ?_)
    refine g_aload_n rfl rfl ?_
    refine g_get (ci := 8) (kk := 11) rfl rfl (xF_ob hW) hW.b0 rfl ?_
    rw [show s.2 11 = 30 * (t : Int) from hb]
    refine g_aload_n rfl rfl ?_
    refine g_get (ci := 8) (kk := 21) rfl rfl (xF_ob hW) hW.b0 rfl ?_
    refine g_iload rfl rfl ?_
    refine g_iald rfl (xF_a16 hW) (by omega) ?_
    rw [show (s.1 16) ((i : Int)).toNat = (o : Int) from ho]
    refine g_iadd rfl (by omega) ?_
    refine g_istore (L' := [aR m0, aI x, aI g0, aI (b * 512), aI ((i : Int)), aI ((30 * (t : Int)) + ((o : Int))), v6]) rfl rfl ?_
    refine g_aload_n rfl rfl ?_
    refine g_iload_n rfl rfl ?_
    refine g_iload rfl rfl ?_
    refine g_Vn (z := yMd_head) (e := 1) (A := [aI ((30 * (t : Int)) + ((o : Int))), aI (b * 512)]) (rest := [])  rfl rfl rfl rfl rfl rfl (by omega) (xF_ob hW) hW.b0 (m_head (s := s) (by omega) hM ht hb hT hW hP (by omega) (i := o) (by omega) (by omega) htl b hb0 (by omega)) ?_
    intro hh2 hq
    obtain ⟨P1, W1, n1, C1, hW, hP1⟩ := hq
    refine g_iincw (L' := [aR m0, aI x, aI g0, aI (b * 512 + 512), aI ((i : Int)), aI ((30 * (t : Int)) + ((o : Int))), v6]) rfl rfl (by omega) rfl ?_
    refine g_iconst (n := 0) rfl (by decide) ?_
    refine g_istore (L' := [aR m0, aI x, aI g0, aI (b * 512 + 512), aI ((i : Int)), aI ((30 * (t : Int)) + ((o : Int))), aI 0]) rfl rfl ?_
    by_cases hk1 : s.1 1 (30 * t + o) = 1
    · refine wr3c (d := d + 3) hM x g0 _ (i : Int) (30 * t + o) (by omega) P1 (by omega) hk1 (by rw [if_pos hk1] at hbk; omega) (fun h v6 hW => ?_) (s.1 7 (30 * t + o)).toNat 0 _ (by omega) (by omega) (by omega) (by rw [cy_0]; exact hW)
      have hPn : PL (cyW (s.1 11) P1 (b * 512 + 512) (2000 * ((30 * t + o : Nat) : Int)) (s.1 7 (30 * t + o))) (entW (mst s) t o (l, b)).1 := by
        show PL _ (if ((mst s).2.1 ((mst s).2.2.1 t o) 0) = 1 then ovl (hdrL (mst s) t o l b) ((b + 1) * 512) (((mst s).1 (2 * (mst s).2.2.1 t o + 1))) else hdrL (mst s) t o l b)
        rw [if_pos (e2.trans hk1), show (b + 1) * 512 = b * 512 + 512 by omega]
        exact hP1.ovl (fun j hj => by rw [ebd] at hj ⊢; rw [show (2000 * ((30 * t + o : Nat) : Int)).toNat = 2000 * (30 * t + o) by omega]; exact (bdM_get s hj).symm) (by rw [ebd, hbl2]; omega) (by omega) (by omega)
      generalize hPZ : cyW (s.1 11) P1 (b * 512 + 512) (2000 * ((30 * t + o : Nat) : Int)) (s.1 7 (30 * t + o)) = PZ at *
      refine g_iload_n rfl rfl ?_
      refine g_sipush (n := 512) rfl (by decide) ?_
      refine g_aload_n rfl rfl ?_
      refine g_iload rfl rfl ?_
      refine g_V (z := yMd_blocksOf) (e := 1) (A := [aI (((30 * t + o : Nat) : Int))]) (rest := [aI 512, aI (b * 512 + 512)]) (v := aI ((if s.1 1 (30 * t + o) = 1 then (s.1 7 (30 * t + o) + 511) / 512 else 0))) (P := fun h2 => h2 = h) rfl rfl rfl rfl rfl rfl (by omega) (xF_ob hW) hW.b0 ((by have k9 := m_blocksOf (s := xF s PZ W1 n1 C1) (d := d + 3 - 1) hM hW (30 * t + o) (by omega); exact k9)) ?_
      intro hh9 he9
      rw [he9]
      clear he9 hh9
      refine g_imul rfl (by omega) ?_
      refine g_iadd rfl (by omega) ?_
      refine g_istore_n (L' := [aR m0, aI x, aI g0, aI ((b * 512 + 512) + (512 * ((if s.1 1 (30 * t + o) = 1 then (s.1 7 (30 * t + o) + 511) / 512 else 0)))), aI ((i : Int)), aI (((30 * t + o : Nat) : Int)), aI v6]) rfl rfl ?_
      refine g_iinc (L' := [aR m0, aI x, aI g0, aI ((b * 512 + 512) + (512 * ((if s.1 1 (30 * t + o) = 1 then (s.1 7 (30 * t + o) + 511) / 512 else 0)))), aI ((i : Int) + 1), aI (((30 * t + o : Nat) : Int)), aI v6]) rfl rfl (by omega) rfl ?_
      refine g_goto rfl rfl ?_
      have h9 := ih (i + 1) _ _ _ _ _ (aI ((30 * t + o : Nat) : Int)) (aI v6) (by omega) hW (by rw [hoe]; exact hPn)
      rw [hoe, show (entW (mst s) t o (l, b)).2 * 512 = (b * 512 + 512) + (512 * ((if s.1 1 (30 * t + o) = 1 then (s.1 7 (30 * t + o) + 511) / 512 else 0))) from by show (b + (bkn (mst s) t o : Int)) * 512 = _; omega] at h9
      exact h9
    · have hPn : PL P1 (entW (mst s) t o (l, b)).1 := by
        show PL _ (if ((mst s).2.1 ((mst s).2.2.1 t o) 0) = 1 then ovl (hdrL (mst s) t o l b) ((b + 1) * 512) (((mst s).1 (2 * (mst s).2.2.1 t o + 1))) else hdrL (mst s) t o l b)
        rw [if_neg (fun z => hk1 (e2.symm.trans z))]
        exact hP1
      refine g_iload rfl rfl ?_
      refine g_aload_n rfl rfl ?_
      refine g_get (ci := 8) (kk := 6) rfl rfl (xF_ob hW) hW.b0 rfl ?_
      refine g_iload rfl rfl ?_
      refine g_iald rfl (xF_a7 hW) (by omega) ?_
      rw [show (s.1 7) (30 * (t : Int) + (o : Int)).toNat = s.1 7 (30 * t + o) from by rw [e3]]
      refine g_icmpge rfl rfl (fun c1 => ?_) (fun c1 => ?_)
      · skip
        refine g_iload_n rfl rfl ?_
        refine g_sipush (n := 512) rfl (by decide) ?_
        refine g_aload_n rfl rfl ?_
        refine g_iload rfl rfl ?_
        refine g_V (z := yMd_blocksOf) (e := 1) (A := [aI (((30 * t + o : Nat) : Int))]) (rest := [aI 512, aI (b * 512 + 512)]) (v := aI ((if s.1 1 (30 * t + o) = 1 then (s.1 7 (30 * t + o) + 511) / 512 else 0))) (P := fun h2 => h2 = hh2) rfl rfl rfl rfl rfl rfl (by omega) (xF_ob hW) hW.b0 ((by have k9 := m_blocksOf (s := xF s P1 W1 n1 C1) (d := d + 3 - 1) hM hW (30 * t + o) (by omega); exact k9)) ?_
        intro hh9 he9
        rw [he9]
        clear he9 hh9
        refine g_imul rfl (by omega) ?_
        refine g_iadd rfl (by omega) ?_
        refine g_istore_n (L' := [aR m0, aI x, aI g0, aI ((b * 512 + 512) + (512 * ((if s.1 1 (30 * t + o) = 1 then (s.1 7 (30 * t + o) + 511) / 512 else 0)))), aI ((i : Int)), aI (((30 * t + o : Nat) : Int)), aI 0]) rfl rfl ?_
        refine g_iinc (L' := [aR m0, aI x, aI g0, aI ((b * 512 + 512) + (512 * ((if s.1 1 (30 * t + o) = 1 then (s.1 7 (30 * t + o) + 511) / 512 else 0)))), aI ((i : Int) + 1), aI (((30 * t + o : Nat) : Int)), aI 0]) rfl rfl (by omega) rfl ?_
        refine g_goto rfl rfl ?_
        have h9 := ih (i + 1) _ _ _ _ _ (aI ((30 * t + o : Nat) : Int)) (aI 0) (by omega) hW (by rw [hoe]; exact hPn)
        rw [hoe, show (entW (mst s) t o (l, b)).2 * 512 = (b * 512 + 512) + (512 * ((if s.1 1 (30 * t + o) = 1 then (s.1 7 (30 * t + o) + 511) / 512 else 0))) from by show (b + (bkn (mst s) t o : Int)) * 512 = _; omega] at h9
        exact h9
      · skip
        refine g_aload_n rfl rfl ?_
        refine g_get (ci := 8) (kk := 0) rfl rfl (xF_ob hW) hW.b0 rfl ?_
        refine g_iload rfl rfl ?_
        refine g_iald rfl (xF_a1 hW) (by omega) ?_
        rw [show (s.1 1) (30 * (t : Int) + (o : Int)).toNat = s.1 1 (30 * t + o) from by rw [e3]]
        refine g_iconst (n := 1) rfl (by decide) ?_
        refine g_icmpne rfl rfl (fun c2 => ?_) (fun c => absurd c (by omega))
        refine g_iload_n rfl rfl ?_
        refine g_sipush (n := 512) rfl (by decide) ?_
        refine g_aload_n rfl rfl ?_
        refine g_iload rfl rfl ?_
        refine g_V (z := yMd_blocksOf) (e := 1) (A := [aI (((30 * t + o : Nat) : Int))]) (rest := [aI 512, aI (b * 512 + 512)]) (v := aI ((if s.1 1 (30 * t + o) = 1 then (s.1 7 (30 * t + o) + 511) / 512 else 0))) (P := fun h2 => h2 = hh2) rfl rfl rfl rfl rfl rfl (by omega) (xF_ob hW) hW.b0 ((by have k9 := m_blocksOf (s := xF s P1 W1 n1 C1) (d := d + 3 - 1) hM hW (30 * t + o) (by omega); exact k9)) ?_
        intro hh9 he9
        rw [he9]
        clear he9 hh9
        refine g_imul rfl (by omega) ?_
        refine g_iadd rfl (by omega) ?_
        refine g_istore_n (L' := [aR m0, aI x, aI g0, aI ((b * 512 + 512) + (512 * ((if s.1 1 (30 * t + o) = 1 then (s.1 7 (30 * t + o) + 511) / 512 else 0)))), aI ((i : Int)), aI (((30 * t + o : Nat) : Int)), aI 0]) rfl rfl ?_
        refine g_iinc (L' := [aR m0, aI x, aI g0, aI ((b * 512 + 512) + (512 * ((if s.1 1 (30 * t + o) = 1 then (s.1 7 (30 * t + o) + 511) / 512 else 0)))), aI ((i : Int) + 1), aI (((30 * t + o : Nat) : Int)), aI 0]) rfl rfl (by omega) rfl ?_
        refine g_goto rfl rfl ?_
        have h9 := ih (i + 1) _ _ _ _ _ (aI ((30 * t + o : Nat) : Int)) (aI 0) (by omega) hW (by rw [hoe]; exact hPn)
        rw [hoe, show (entW (mst s) t o (l, b)).2 * 512 = (b * 512 + 512) + (512 * ((if s.1 1 (30 * t + o) = 1 then (s.1 7 (30 * t + o) + 511) / 512 else 0))) from by show (b + (bkn (mst s) t o : Int)) * 512 = _; omega] at h9
        exact h9
theorem xF_vq (s : MS) (P W C : Nat → Int) (n : Int) : mst (xF s P W n C) = ((mst (xF s P W n C)).1, (mst s).2) := rfl
end Md12
