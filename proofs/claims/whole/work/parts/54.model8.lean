/-! The reference: the order in which it writes. -/
def yF (s : MS) (O L Op La : Nat → Int) : MS := (fun k => if k = 16 then O else if k = 17 then L else if k = 18 then Op else if k = 19 then La else s.1 k, s.2)
noncomputable def cNn (st : CS) (t p : Nat) : Nat := sumN (fun j => if (st.2.1 (st.2.2.1 t (sqX st t (j + 1))) 0) = 3 then 0 else 1) p
noncomputable def cHh (st : CS) (t p : Nat) : Nat := sumN (fun j => if (st.2.1 (st.2.2.1 t (sqX st t (j + 1))) 0) = 3 then 1 else 0) p
theorem cNH (st : CS) (t p : Nat) : cNn st t p + cHh st t p = p := by
  unfold cNn cHh
  rw [← sm_add, sm_congr (f' := fun _ => 1) (fun i _ => by split <;> rfl), sm_const, Nat.one_mul]
theorem cN_s (st : CS) (t p : Nat) : cNn st t (p + 1) = cNn st t p + if (st.2.1 (st.2.2.1 t (sqX st t (p + 1))) 0) = 3 then 0 else 1 := rfl
theorem cH_s (st : CS) (t p : Nat) : cHh st t (p + 1) = cHh st t p + if (st.2.1 (st.2.2.1 t (sqX st t (p + 1))) 0) = 3 then 1 else 0 := rfl
theorem cN_m (st : CS) (t p n : Nat) : cNn st t p ≤ cNn st t (p + n) := by
  induction n with
  | zero => exact Nat.le_refl _
  | succ n ih =>
    have := cN_s st t (p + n)
    show _ ≤ cNn st t (p + n + 1)
    omega
theorem cH_m (st : CS) (t p n : Nat) : cHh st t p ≤ cHh st t (p + n) := by
  induction n with
  | zero => exact Nat.le_refl _
  | succ n ih =>
    have := cH_s st t (p + n)
    show _ ≤ cHh st t (p + n + 1)
    omega
/-- the first p of the order lie where they must -/
def ordP (st : CS) (t p : Nat) (O L : Nat → Int) : Prop := ∀ j : Nat, j < p → ((st.2.1 (st.2.2.1 t (sqX st t (j + 1))) 0) ≠ 3 → O (cNn st t j) = sqX st t (j + 1)) ∧ ((st.2.1 (st.2.2.1 t (sqX st t (j + 1))) 0) = 3 → L (cHh st t j) = sqX st t (j + 1))
def ordA (st : CS) (t : Nat) (O : Nat → Int) : Prop := ∀ j : Nat, j + 1 < (st.2.2.2.1 t) → ((st.2.1 (st.2.2.1 t (sqX st t (j + 1))) 0) ≠ 3 → O (cNn st t j) = sqX st t (j + 1)) ∧ ((st.2.1 (st.2.2.1 t (sqX st t (j + 1))) 0) = 3 → O (cNn st t ((st.2.2.2.1 t) - 1) + cHh st t j) = sqX st t (j + 1))
section Md8
variable {B h : AH} {m0 d t : Nat} {s : MS} {O L Op La : Nat → Int}
theorem yF_ob (hW : WM B m0 h (yF s O L Op La)) : h.1 m0 = some (eO 8 [aR (m0 + 1), aR (m0 + 2), aR (m0 + 3), aR (m0 + 4), aR (m0 + 5), aR (m0 + 6), aR (m0 + 7), aR (m0 + 8), aR (m0 + 9), aR (m0 + 10), aR (m0 + 11), aI (s.2 11), aR (m0 + 12), aI (s.2 13), aI (s.2 14), aR (m0 + 13), aI (s.2 16), aI (s.2 17), aI (s.2 18), aR (m0 + 14), aR (m0 + 15), aR (m0 + 16), aR (m0 + 17), aR (m0 + 18), aR (m0 + 19), aR (m0 + 20), aI (s.2 26)]) := hW.ob
theorem yF_a1 (hW : WM B m0 h (yF s O L Op La)) : h.1 (m0 + 1) = some (eA 0 60 (s.1 1)) := hW.a1
theorem yF_a2 (hW : WM B m0 h (yF s O L Op La)) : h.1 (m0 + 2) = some (eA 0 60 (s.1 2)) := hW.a2
theorem yF_a3 (hW : WM B m0 h (yF s O L Op La)) : h.1 (m0 + 3) = some (eA 0 60 (s.1 3)) := hW.a3
theorem yF_a4 (hW : WM B m0 h (yF s O L Op La)) : h.1 (m0 + 4) = some (eA 0 60 (s.1 4)) := hW.a4
theorem yF_a5 (hW : WM B m0 h (yF s O L Op La)) : h.1 (m0 + 5) = some (eA 0 60 (s.1 5)) := hW.a5
theorem yF_a6 (hW : WM B m0 h (yF s O L Op La)) : h.1 (m0 + 6) = some (eA 0 60 (s.1 6)) := hW.a6
theorem yF_a7 (hW : WM B m0 h (yF s O L Op La)) : h.1 (m0 + 7) = some (eA 0 60 (s.1 7)) := hW.a7
theorem yF_a8 (hW : WM B m0 h (yF s O L Op La)) : h.1 (m0 + 8) = some (eA 0 60 (s.1 8)) := hW.a8
theorem yF_a9 (hW : WM B m0 h (yF s O L Op La)) : h.1 (m0 + 9) = some (eA 0 2 (s.1 9)) := hW.a9
theorem yF_a10 (hW : WM B m0 h (yF s O L Op La)) : h.1 (m0 + 10) = some (eA 1 6000 (s.1 10)) := hW.a10
theorem yF_a11 (hW : WM B m0 h (yF s O L Op La)) : h.1 (m0 + 11) = some (eA 1 120000 (s.1 11)) := hW.a11
theorem yF_a12 (hW : WM B m0 h (yF s O L Op La)) : h.1 (m0 + 12) = some (eA 1 10240 (s.1 12)) := hW.a12
theorem yF_a13 (hW : WM B m0 h (yF s O L Op La)) : h.1 (m0 + 13) = some (eA 1 3200 (s.1 13)) := hW.a13
theorem yF_a14 (hW : WM B m0 h (yF s O L Op La)) : h.1 (m0 + 14) = some (eA 0 30 (s.1 14)) := hW.a14
theorem yF_a15 (hW : WM B m0 h (yF s O L Op La)) : h.1 (m0 + 15) = some (eA 1 100 (s.1 15)) := hW.a15
theorem yF_a16 (hW : WM B m0 h (yF s O L Op La)) : h.1 (m0 + 16) = some (eA 0 30 O) := hW.a16
theorem yF_a17 (hW : WM B m0 h (yF s O L Op La)) : h.1 (m0 + 17) = some (eA 0 30 L) := hW.a17
theorem yF_a18 (hW : WM B m0 h (yF s O L Op La)) : h.1 (m0 + 18) = some (eA 0 31 Op) := hW.a18
theorem yF_a19 (hW : WM B m0 h (yF s O L Op La)) : h.1 (m0 + 19) = some (eA 0 31 La) := hW.a19
theorem yF_a20 (hW : WM B m0 h (yF s O L Op La)) : h.1 (m0 + 20) = some (eA 0 30 (s.1 20)) := hW.a20
theorem yF_self (s : MS) : yF s (s.1 16) (s.1 17) (s.1 18) (s.1 19) = s := by
  refine Prod.ext ?_ rfl
  funext k
  show (if k = 16 then s.1 16 else if k = 17 then s.1 17 else if k = 18 then s.1 18 else if k = 19 then s.1 19 else s.1 k) = s.1 k
  by_cases h1 : k = 16
  · rw [if_pos h1, h1]
  rw [if_neg h1]
  by_cases h2 : k = 17
  · rw [if_pos h2, h2]
  rw [if_neg h2]
  by_cases h3 : k = 18
  · rw [if_pos h3, h3]
  rw [if_neg h3]
  by_cases h4 : k = 19
  · rw [if_pos h4, h4]
  rw [if_neg h4]
theorem yF_16 (hW : WM B m0 h (yF s O L Op La)) (i : Nat) {v : Int} : WM B m0 (hput h (m0 + 16) (eA 0 30 (va_up O i v))) (yF s (va_up O i v) L Op La) := by
  have k := hW.setA (k := 16) (i := i) (v := v) (by omega) (by omega) (fun q => absurd q (by decide))
  have e : uA (yF s O L Op La) 16 i v = yF s (va_up O i v) L Op La := by
    refine Prod.ext ?_ rfl
    funext j
    show (if j = 16 then va_up O i v else if j = 16 then O else if j = 17 then L else if j = 18 then Op else if j = 19 then La else s.1 j) = _
    by_cases q : j = 16
    · subst q
      rfl
    · rw [if_neg q]
      show _ = if j = 16 then _ else if j = 17 then _ else if j = 18 then _ else if j = 19 then _ else s.1 j
      simp [q]
  rw [e] at k
  exact k
theorem yF_17 (hW : WM B m0 h (yF s O L Op La)) (i : Nat) {v : Int} : WM B m0 (hput h (m0 + 17) (eA 0 30 (va_up L i v))) (yF s O (va_up L i v) Op La) := by
  have k := hW.setA (k := 17) (i := i) (v := v) (by omega) (by omega) (fun q => absurd q (by decide))
  have e : uA (yF s O L Op La) 17 i v = yF s O (va_up L i v) Op La := by
    refine Prod.ext ?_ rfl
    funext j
    show (if j = 17 then va_up L i v else if j = 16 then O else if j = 17 then L else if j = 18 then Op else if j = 19 then La else s.1 j) = _
    by_cases q : j = 17
    · subst q
      rfl
    · rw [if_neg q]
      show _ = if j = 16 then _ else if j = 17 then _ else if j = 18 then _ else if j = 19 then _ else s.1 j
      simp [q]
  rw [e] at k
  exact k
theorem yF_18 (hW : WM B m0 h (yF s O L Op La)) (i : Nat) {v : Int} : WM B m0 (hput h (m0 + 18) (eA 0 31 (va_up Op i v))) (yF s O L (va_up Op i v) La) := by
  have k := hW.setA (k := 18) (i := i) (v := v) (by omega) (by omega) (fun q => absurd q (by decide))
  have e : uA (yF s O L Op La) 18 i v = yF s O L (va_up Op i v) La := by
    refine Prod.ext ?_ rfl
    funext j
    show (if j = 18 then va_up Op i v else if j = 16 then O else if j = 17 then L else if j = 18 then Op else if j = 19 then La else s.1 j) = _
    by_cases q : j = 18
    · subst q
      rfl
    · rw [if_neg q]
      show _ = if j = 16 then _ else if j = 17 then _ else if j = 18 then _ else if j = 19 then _ else s.1 j
      simp [q]
  rw [e] at k
  exact k
theorem yF_19 (hW : WM B m0 h (yF s O L Op La)) (i : Nat) {v : Int} : WM B m0 (hput h (m0 + 19) (eA 0 31 (va_up La i v))) (yF s O L Op (va_up La i v)) := by
  have k := hW.setA (k := 19) (i := i) (v := v) (by omega) (by omega) (fun q => absurd q (by decide))
  have e : uA (yF s O L Op La) 19 i v = yF s O L Op (va_up La i v) := by
    refine Prod.ext ?_ rfl
    funext j
    show (if j = 19 then va_up La i v else if j = 16 then O else if j = 17 then L else if j = 18 then Op else if j = 19 then La else s.1 j) = _
    by_cases q : j = 19
    · subst q
      rfl
    · rw [if_neg q]
      show _ = if j = 16 then _ else if j = 17 then _ else if j = 18 then _ else if j = 19 then _ else s.1 j
      simp [q]
  rw [e] at k
  exact k
/-- the stack of the reference's walk -/
def stk (st : CS) (t : Nat) (top : Int) (Op La : Nat → Int) : Prop := Op 0 = 0 ∧ (∀ i : Nat, (i : Int) < top → La i = Op (i + 1) ∧ 0 < Op (i + 1) ∧ Op (i + 1) < (st.2.2.2.1 t) ∧ (st.2.1 (st.2.2.1 t (Op (i + 1)).toNat) 1) = Op i) ∧ (∀ i : Nat, (i : Int) ≤ top → (i : Int) ≤ Op i ∧ Op i < (st.2.2.2.1 t))
theorem ar_loop {Q : AO → AH → Prop} (hM : MOK s) (ht : t < 2) (hb : s.2 11 = 30 * (t : Int)) (hT : TI (mst s) t) (kk : ∀ (h : AH) (O L Op La : Nat → Int) (v4 : Int), WM B m0 h (yF s O L Op La) → ordP (mst s) t (((mst s).2.2.2.1 t) - 1) O L → Go (d + 2) yMd_arrange 139 [aR m0, aI (cNn (mst s) t (((mst s).2.2.2.1 t) - 1)), aI (cHh (mst s) t (((mst s).2.2.2.1 t) - 1)), aI (-1), aI v4] [] h Q) : ∀ (q p : Nat) (top : Int) (N : Nat) (h : AH) (O L Op La : Nat → Int) (v4 : AV), p < ((mst s).2.2.2.1 t) → -1 ≤ top → (2 * ((((mst s).2.2.2.1 t) : Int) - 1 - p) + (top + 1)).toNat ≤ q → WM B m0 h (yF s O L Op La) → ordP (mst s) t p O L → (top = -1 → p + 1 = ((mst s).2.2.2.1 t) ∧ ∃ x, v4 = aI x) → (0 ≤ top → stk (mst s) t top Op La ∧ (La top.toNat = -1 ∨ (0 ≤ La top.toNat ∧ La top.toNat < ((mst s).2.2.2.1 t))) ∧ Op top.toNat ≤ N ∧ fol (mst s) t (sqX (mst s) t p) = fwF (mst s) t N (nxt (mst s) t (Op top.toNat) (La top.toNat)) (Op top.toNat)) → Go (d + 2) yMd_arrange 20 [aR m0, aI (cNn (mst s) t p), aI (cHh (mst s) t p), aI top, v4] [] h Q := by
  have hc := hT.c
  have fin : ∀ (p : Nat) (h : AH) (O L Op La : Nat → Int) (x : Int), p + 1 = ((mst s).2.2.2.1 t) → WM B m0 h (yF s O L Op La) → ordP (mst s) t p O L → Go (d + 2) yMd_arrange 20 [aR m0, aI (cNn (mst s) t p), aI (cHh (mst s) t p), aI (-1), aI x] [] h Q := by
    intro p h O L Op La x hp hW ho
    obtain rfl : p = ((mst s).2.2.2.1 t) - 1 := by omega
    refine g_iload_n rfl rfl ?_
    refine g_iflt rfl rfl (fun c => ?_) (fun c => absurd c (by decide))
    exact kk _ _ _ _ _ _ hW ho
  intro q
  induction q with
  | zero =>
    intro p top N h O L Op La v4 h1 h2 h3 hW ho hz hs
    obtain rfl : top = -1 := by omega
    obtain ⟨h4, x, rfl⟩ := hz rfl
    exact fin p h O L Op La x h4 hW ho
  | succ q ih =>
    intro p top N h O L Op La v4 h1 h2 h3 hW ho hz hs
    by_cases htop : top = -1
    · subst htop
      obtain ⟨h4, x, rfl⟩ := hz rfl
      exact fin p h O L Op La x h4 hW ho
    · obtain ⟨⟨s1, s2, s3⟩, s4, s5, s6⟩ := hs (by omega)
      obtain ⟨T, rfl⟩ : ∃ T : Nat, top = T := ⟨top.toNat, by omega⟩
      rw [Int.toNat_natCast] at s4 s5 s6
      have sT := s3 T (by omega)
      have hcnh := cNH (mst s) t p
      obtain ⟨u1, u2, u3⟩ := hT.seq.1 p h1
      have hnx := hT.nx (Op T) (La T)
      refine g_iload_n rfl rfl ?_
      refine g_iflt rfl rfl (fun c => absurd c (by omega)) (fun c1 => ?_)
      refine g_aload_n rfl rfl ?_
      refine g_aload_n rfl rfl ?_
      refine g_get (ci := 8) (kk := 23) rfl rfl (yF_ob hW) hW.b0 rfl ?_
      refine g_iload_n rfl rfl ?_
      refine g_iald rfl (yF_a18 hW) (by omega) ?_
      rw [show Op ((T : Int)).toNat = Op T from rfl]
      refine g_aload_n rfl rfl ?_
      refine g_get (ci := 8) (kk := 24) rfl rfl (yF_ob hW) hW.b0 rfl ?_
      refine g_iload_n rfl rfl ?_
      refine g_iald rfl (yF_a19 hW) (by omega) ?_
      rw [show La ((T : Int)).toNat = La T from rfl]
      refine g_V (z := yMd_next) (e := 1) (A := [aI (La T), aI (Op T)]) (rest := []) (v := aI (nxt (mst s) t (Op T) (La T))) (P := fun h2 => h2 = h) rfl rfl rfl rfl rfl rfl (by omega) (yF_ob hW) hW.b0 (m_next (s := yF s O L Op La) (by omega) hM ht hb hT hW _ _ s4) ?_
      intro hh9 he9
      rw [he9]
      clear he9 hh9
      refine g_istore (L' := [aR m0, aI ((cNn (mst s) t p : Int)), aI ((cHh (mst s) t p : Int)), aI ((T : Int)), aI (nxt (mst s) t (Op T) (La T))]) rfl rfl ?_
      refine g_iload rfl rfl ?_
      refine g_iconst (n := -1) rfl (by decide) ?_
      refine g_icmpne rfl rfl (fun c2 => ?_) (fun c2 => ?_)
      · skip
        have hk := c2
        rcases hnx with ⟨z1, z2⟩ | ⟨c0, z1, z2, z3, z4⟩
        · exact absurd z1 hk
        have hE : fol (mst s) t (sqX (mst s) t p) = c0 := by
          rw [s6, z1]
          cases N with
          | zero => rfl
          | succ N => unfold fwF; rw [if_neg (fun z => by omega)]
        have hpC : p + 1 < ((mst s).2.2.2.1 t) := by
          refine Classical.byContradiction fun z => ?_
          have e9 := hT.seq.2.2
          rw [show ((mst s).2.2.2.1 t) - 1 = p by omega] at e9
          omega
        have hsx : sqX (mst s) t (p + 1) = c0 := by
          have := hT.seq.2.1 p hpC
          omega
        have hc0 := z3.1
        rw [z1]
        refine g_aload_n rfl rfl ?_
        refine g_get (ci := 8) (kk := 24) rfl rfl (yF_ob hW) hW.b0 rfl ?_
        refine g_iload_n rfl rfl ?_
        refine g_iload rfl rfl ?_
        refine g_iast rfl (yF_a19 hW) hW.bk (by omega) ?_
        generalize hg_hh1 : hput h (m0 + 19) (eA 0 31 (va_up La ((T : Int)).toNat ((c0 : Int)))) = hh1
        have hW := yF_19 hW (T : Int).toNat (v := (c0 : Int))
        rw [hg_hh1, Int.toNat_natCast] at hW
        refine g_aload_n rfl rfl ?_
        refine g_get (ci := 8) (kk := 0) rfl rfl (yF_ob hW) hW.b0 rfl ?_
        refine g_aload_n rfl rfl ?_
        refine g_get (ci := 8) (kk := 11) rfl rfl (yF_ob hW) hW.b0 rfl ?_
        rw [show s.2 11 = 30 * (t : Int) from hb]
        refine g_iload rfl rfl ?_
        refine g_iadd rfl (by omega) ?_
        refine g_iald rfl (yF_a1 hW) (by omega) ?_
        rw [show (s.1 1) ((30 * (t : Int)) + ((c0 : Int))).toNat = s.1 1 (30 * t + c0) from by rw [show (30 * (t : Int) + (c0 : Int)).toNat = 30 * t + c0 by omega]]
        refine g_iconst (n := 3) rfl (by decide) ?_
        refine g_icmpne rfl rfl (fun c2 => ?_) (fun c2 => ?_)
        · skip
          have k3 : ((mst s).2.1 ((mst s).2.2.1 t c0) 0) ≠ 3 := c2
          refine g_aload_n rfl rfl ?_
          refine g_get (ci := 8) (kk := 21) rfl rfl (yF_ob hW) hW.b0 rfl ?_
          refine g_iload_n rfl rfl ?_
          refine g_iload rfl rfl ?_
          refine g_iast rfl (yF_a16 hW) hW.bk (by omega) ?_
          generalize hg_hh3 : hput hh1 (m0 + 16) (eA 0 30 (va_up O ((cNn (mst s) t p : Int)).toNat ((c0 : Int)))) = hh3
          have hW := yF_16 hW (cNn (mst s) t p : Int).toNat (v := (c0 : Int))
          rw [hg_hh3, Int.toNat_natCast] at hW
          have ho : ordP (mst s) t (p + 1) (va_up O (cNn (mst s) t p) c0) L := fun j hj => by
            by_cases e : j = p
            · subst e
              rw [hsx]
              exact ⟨fun _ => by simp [va_up], fun z => absurd z k3⟩
            · have o1 := ho j (by omega)
              refine ⟨fun z => ?_, o1.2⟩
              have e2 := cN_m (mst s) t (j + 1) (p - (j + 1))
              rw [show j + 1 + (p - (j + 1)) = p by omega, cN_s, if_neg z] at e2
              rw [show va_up O (cNn (mst s) t p) (c0 : Int) (cNn (mst s) t j) = O (cNn (mst s) t j) from if_neg (by omega)]
              exact o1.1 z
          have eN := cN_s (mst s) t p
          have eH := cH_s (mst s) t p
          rw [hsx, if_neg k3] at eN eH
          refine g_iinc (L' := [aR m0, aI ((cNn (mst s) t p : Int) + 1), aI ((cHh (mst s) t p : Int)), aI ((T : Int)), aI ((c0 : Int))]) rfl rfl (by omega) rfl ?_
          refine g_aload_n rfl rfl ?_
          refine g_get (ci := 8) (kk := 0) rfl rfl (yF_ob hW) hW.b0 rfl ?_
          refine g_aload_n rfl rfl ?_
          refine g_get (ci := 8) (kk := 11) rfl rfl (yF_ob hW) hW.b0 rfl ?_
          rw [show s.2 11 = 30 * (t : Int) from hb]
          refine g_iload rfl rfl ?_
          refine g_iadd rfl (by omega) ?_
          refine g_iald rfl (yF_a1 hW) (by omega) ?_
          rw [show (s.1 1) ((30 * (t : Int)) + ((c0 : Int))).toNat = s.1 1 (30 * t + c0) from by rw [show (30 * (t : Int) + (c0 : Int)).toNat = 30 * t + c0 by omega]]
          refine g_ifne rfl rfl (fun c4 => ?_) (fun c4 => ?_)
          · skip
            have kd : _ := c4
            refine g_goto rfl rfl ?_
            have hdc : ((mst s).2.1 ((mst s).2.2.1 t c0) 1) = Op T := z3.2.1
            have hdl := hT.d c0 hc0 z2
            have hnc : nxt (mst s) t (c0 : Int) (-1) = -1 := by
              rcases hT.nx (c0 : Int) (-1) with ⟨y1, y2⟩ | ⟨e0, y1, y2, y3, y4⟩
              · exact y1
              · exfalso
                have yd := hT.d e0 y3.1 y2
                rw [y3.2.1, Int.toNat_natCast] at yd
                exact kd yd.2.2
            have h9 := ih (p + 1) (T : Int) 29 _ ((va_up O (cNn (mst s) t p) c0)) L _ _ (aI (c0 : Int)) hpC (by omega) (by omega) hW ho (fun z => by omega) (fun _ => by
              rw [Int.toNat_natCast]
              have v2 : ∀ i, va_up La T (c0 : Int) i = if i = T then (c0 : Int) else La i := fun _ => rfl
              refine ⟨⟨s1, fun i hi => ?_, s3⟩, Or.inr (by rw [v2, if_pos rfl]; omega), by omega, ?_⟩
              · rw [v2, if_neg (by omega)]
                exact s2 i hi
              · rw [v2, if_pos rfl, hsx]
                show fwF (mst s) t 30 (nxt (mst s) t (c0 : Int) (-1)) (c0 : Int) = _
                rw [hnc, fwF, if_pos ⟨rfl, by omega, by omega⟩, Int.toNat_natCast, hdc])
            rw [eN, eH] at h9
            exact h9
          · skip
            have kd : _ := c4
            refine g_iinc (L' := [aR m0, aI ((cNn (mst s) t p : Int) + 1), aI ((cHh (mst s) t p : Int)), aI ((T : Int) + 1), aI ((c0 : Int))]) rfl rfl (by omega) rfl ?_
            refine g_aload_n rfl rfl ?_
            refine g_get (ci := 8) (kk := 23) rfl rfl (yF_ob hW) hW.b0 rfl ?_
            refine g_iload_n rfl rfl ?_
            refine g_iload rfl rfl ?_
            refine g_iast rfl (yF_a18 hW) hW.bk (by omega) ?_
            generalize hg_hh5 : hput hh3 (m0 + 18) (eA 0 31 (va_up Op ((T : Int) + 1).toNat ((c0 : Int)))) = hh5
            have hW := yF_18 hW ((T : Int) + 1).toNat (v := (c0 : Int))
            rw [hg_hh5, show ((T : Int) + 1).toNat = T + 1 by omega] at hW
            refine g_aload_n rfl rfl ?_
            refine g_get (ci := 8) (kk := 24) rfl rfl (yF_ob hW) hW.b0 rfl ?_
            refine g_iload_n rfl rfl ?_
            refine g_iconst (n := -1) rfl (by decide) ?_
            refine g_iast rfl (yF_a19 hW) hW.bk (by omega) ?_
            generalize hg_hh6 : hput hh5 (m0 + 19) (eA 0 31 (va_up ((va_up La T c0)) ((T : Int) + 1).toNat (-1))) = hh6
            have hW := yF_19 hW ((T : Int) + 1).toNat (v := (-1 : Int))
            rw [hg_hh6, show ((T : Int) + 1).toNat = T + 1 by omega] at hW
            refine g_goto rfl rfl ?_
            have hdc : ((mst s).2.1 ((mst s).2.2.1 t c0) 1) = Op T := z3.2.1
            have hdl := hT.d c0 hc0 z2
            have h9 := ih (p + 1) ((T : Int) + 1) 30 _ ((((va_up O (cNn (mst s) t p) c0)))) L _ _ (aI (c0 : Int)) hpC (by omega) (by omega) hW ho (fun z => by omega) (fun _ => by
              rw [show ((T : Int) + 1).toNat = T + 1 by omega]
              have v1 : ∀ i, va_up Op (T + 1) (c0 : Int) i = if i = T + 1 then (c0 : Int) else Op i := fun _ => rfl
              have v2 : ∀ i, va_up (va_up La T (c0 : Int)) (T + 1) (-1) i = if i = T + 1 then -1 else if i = T then (c0 : Int) else La i := fun _ => rfl
              refine ⟨⟨by rw [v1, if_neg (by omega)]; exact s1, fun i hi => ?_, fun i hi => ?_⟩, Or.inl (by rw [v2, if_pos rfl]), by rw [v1, if_pos rfl]; omega, ?_⟩
              · by_cases e : i = T
                · subst e
                  rw [v2, if_neg (by omega), if_pos rfl, v1, if_pos rfl, v1, if_neg (by omega), Int.toNat_natCast]
                  exact ⟨rfl, by omega, by omega, hdc⟩
                · rw [v2, if_neg (by omega), if_neg e, v1, if_neg (by omega), v1, if_neg (by omega)]
                  exact s2 i (by omega)
              · rw [v1]
                by_cases e : i = T + 1
                · rw [if_pos e]
                  omega
                · rw [if_neg e]
                  exact s3 i (by omega)
              · rw [v1, if_pos rfl, v2, if_pos rfl, hsx]
                rfl)
            rw [eN, eH] at h9
            exact h9
        · skip
          have k3 : ((mst s).2.1 ((mst s).2.2.1 t c0) 0) = 3 := c2
          refine g_aload_n rfl rfl ?_
          refine g_get (ci := 8) (kk := 22) rfl rfl (yF_ob hW) hW.b0 rfl ?_
          refine g_iload_n rfl rfl ?_
          refine g_iload rfl rfl ?_
          refine g_iast rfl (yF_a17 hW) hW.bk (by omega) ?_
          generalize hg_hh7 : hput hh1 (m0 + 17) (eA 0 30 (va_up L ((cHh (mst s) t p : Int)).toNat ((c0 : Int)))) = hh7
          have hW := yF_17 hW (cHh (mst s) t p : Int).toNat (v := (c0 : Int))
          rw [hg_hh7, Int.toNat_natCast] at hW
          have ho : ordP (mst s) t (p + 1) O (va_up L (cHh (mst s) t p) c0) := fun j hj => by
            by_cases e : j = p
            · subst e
              rw [hsx]
              exact ⟨fun z => absurd k3 z, fun _ => by simp [va_up]⟩
            · have o1 := ho j (by omega)
              refine ⟨o1.1, fun z => ?_⟩
              have e2 := cH_m (mst s) t (j + 1) (p - (j + 1))
              rw [show j + 1 + (p - (j + 1)) = p by omega, cH_s, if_pos z] at e2
              rw [show va_up L (cHh (mst s) t p) (c0 : Int) (cHh (mst s) t j) = L (cHh (mst s) t j) from if_neg (by omega)]
              exact o1.2 z
          have eN := cN_s (mst s) t p
          have eH := cH_s (mst s) t p
          rw [hsx, if_pos k3] at eN eH
          refine g_iinc (L' := [aR m0, aI ((cNn (mst s) t p : Int)), aI ((cHh (mst s) t p : Int) + 1), aI ((T : Int)), aI ((c0 : Int))]) rfl rfl (by omega) rfl ?_
          refine g_goto rfl rfl ?_
          refine g_aload_n rfl rfl ?_
          refine g_get (ci := 8) (kk := 0) rfl rfl (yF_ob hW) hW.b0 rfl ?_
          refine g_aload_n rfl rfl ?_
          refine g_get (ci := 8) (kk := 11) rfl rfl (yF_ob hW) hW.b0 rfl ?_
          rw [show s.2 11 = 30 * (t : Int) from hb]
          refine g_iload rfl rfl ?_
          refine g_iadd rfl (by omega) ?_
          refine g_iald rfl (yF_a1 hW) (by omega) ?_
          rw [show (s.1 1) ((30 * (t : Int)) + ((c0 : Int))).toNat = s.1 1 (30 * t + c0) from by rw [show (30 * (t : Int) + (c0 : Int)).toNat = 30 * t + c0 by omega]]
          refine g_ifne rfl rfl (fun c8 => ?_) (fun c8 => ?_)
          · skip
            have kd : _ := c8
            refine g_goto rfl rfl ?_
            have hdc : ((mst s).2.1 ((mst s).2.2.1 t c0) 1) = Op T := z3.2.1
            have hdl := hT.d c0 hc0 z2
            have hnc : nxt (mst s) t (c0 : Int) (-1) = -1 := by
              rcases hT.nx (c0 : Int) (-1) with ⟨y1, y2⟩ | ⟨e0, y1, y2, y3, y4⟩
              · exact y1
              · exfalso
                have yd := hT.d e0 y3.1 y2
                rw [y3.2.1, Int.toNat_natCast] at yd
                exact kd yd.2.2
            have h9 := ih (p + 1) (T : Int) 29 _ O ((va_up L (cHh (mst s) t p) c0)) _ _ (aI (c0 : Int)) hpC (by omega) (by omega) hW ho (fun z => by omega) (fun _ => by
              rw [Int.toNat_natCast]
              have v2 : ∀ i, va_up La T (c0 : Int) i = if i = T then (c0 : Int) else La i := fun _ => rfl
              refine ⟨⟨s1, fun i hi => ?_, s3⟩, Or.inr (by rw [v2, if_pos rfl]; omega), by omega, ?_⟩
              · rw [v2, if_neg (by omega)]
                exact s2 i hi
              · rw [v2, if_pos rfl, hsx]
                show fwF (mst s) t 30 (nxt (mst s) t (c0 : Int) (-1)) (c0 : Int) = _
                rw [hnc, fwF, if_pos ⟨rfl, by omega, by omega⟩, Int.toNat_natCast, hdc])
            rw [eN, eH] at h9
            exact h9
          · skip
            have kd : _ := c8
            refine g_iinc (L' := [aR m0, aI ((cNn (mst s) t p : Int)), aI ((cHh (mst s) t p : Int) + 1), aI ((T : Int) + 1), aI ((c0 : Int))]) rfl rfl (by omega) rfl ?_
            refine g_aload_n rfl rfl ?_
            refine g_get (ci := 8) (kk := 23) rfl rfl (yF_ob hW) hW.b0 rfl ?_
            refine g_iload_n rfl rfl ?_
            refine g_iload rfl rfl ?_
            refine g_iast rfl (yF_a18 hW) hW.bk (by omega) ?_
            generalize hg_hh9 : hput hh7 (m0 + 18) (eA 0 31 (va_up Op ((T : Int) + 1).toNat ((c0 : Int)))) = hh9
            have hW := yF_18 hW ((T : Int) + 1).toNat (v := (c0 : Int))
            rw [hg_hh9, show ((T : Int) + 1).toNat = T + 1 by omega] at hW
            refine g_aload_n rfl rfl ?_
            refine g_get (ci := 8) (kk := 24) rfl rfl (yF_ob hW) hW.b0 rfl ?_
            refine g_iload_n rfl rfl ?_
            refine g_iconst (n := -1) rfl (by decide) ?_
            refine g_iast rfl (yF_a19 hW) hW.bk (by omega) ?_
            generalize hg_hh10 : hput hh9 (m0 + 19) (eA 0 31 (va_up ((va_up La T c0)) ((T : Int) + 1).toNat (-1))) = hh10
            have hW := yF_19 hW ((T : Int) + 1).toNat (v := (-1 : Int))
            rw [hg_hh10, show ((T : Int) + 1).toNat = T + 1 by omega] at hW
            refine g_goto rfl rfl ?_
            have hdc : ((mst s).2.1 ((mst s).2.2.1 t c0) 1) = Op T := z3.2.1
            have hdl := hT.d c0 hc0 z2
            have h9 := ih (p + 1) ((T : Int) + 1) 30 _ O ((((va_up L (cHh (mst s) t p) c0)))) _ _ (aI (c0 : Int)) hpC (by omega) (by omega) hW ho (fun z => by omega) (fun _ => by
              rw [show ((T : Int) + 1).toNat = T + 1 by omega]
              have v1 : ∀ i, va_up Op (T + 1) (c0 : Int) i = if i = T + 1 then (c0 : Int) else Op i := fun _ => rfl
              have v2 : ∀ i, va_up (va_up La T (c0 : Int)) (T + 1) (-1) i = if i = T + 1 then -1 else if i = T then (c0 : Int) else La i := fun _ => rfl
              refine ⟨⟨by rw [v1, if_neg (by omega)]; exact s1, fun i hi => ?_, fun i hi => ?_⟩, Or.inl (by rw [v2, if_pos rfl]), by rw [v1, if_pos rfl]; omega, ?_⟩
              · by_cases e : i = T
                · subst e
                  rw [v2, if_neg (by omega), if_pos rfl, v1, if_pos rfl, v1, if_neg (by omega), Int.toNat_natCast]
                  exact ⟨rfl, by omega, by omega, hdc⟩
                · rw [v2, if_neg (by omega), if_neg e, v1, if_neg (by omega), v1, if_neg (by omega)]
                  exact s2 i (by omega)
              · rw [v1]
                by_cases e : i = T + 1
                · rw [if_pos e]
                  omega
                · rw [if_neg e]
                  exact s3 i (by omega)
              · rw [v1, if_pos rfl, v2, if_pos rfl, hsx]
                rfl)
            rw [eN, eH] at h9
            exact h9
      · skip
        have hk := c2
        refine g_iinc (L' := [aR m0, aI ((cNn (mst s) t p : Int)), aI ((cHh (mst s) t p : Int)), aI ((T : Int) + (-1)), aI (nxt (mst s) t (Op T) (La T))]) rfl rfl (by omega) rfl ?_
        refine g_goto rfl rfl ?_
        clear hnx
        have e1 : fwF (mst s) t N (-1) (Op T) = fol (mst s) t (sqX (mst s) t p) := by rw [s6, hk]
        by_cases hT0 : T = 0
        · subst hT0
          have e2 : fwF (mst s) t N (-1) (Op 0) = -1 := by
            rw [s1]
            cases N with
            | zero => rfl
            | succ N => unfold fwF; rw [if_neg (fun z => by omega)]
          have hpC : p + 1 = ((mst s).2.2.2.1 t) := by
            refine Classical.byContradiction fun z => ?_
            have := hT.seq.2.1 p (by omega)
            omega
          exact ih p (-1) N _ O L Op La _ h1 (by omega) (by omega) hW ho (fun _ => ⟨hpC, _, rfl⟩) (fun z => by omega)
        · have sp := s2 (T - 1) (by omega)
          rw [show T - 1 + 1 = T by omega] at sp
          obtain ⟨M, rfl⟩ : ∃ M, N = M + 1 := ⟨N - 1, by omega⟩
          have e2 : fwF (mst s) t (M + 1) (-1) (Op T) = fwF (mst s) t M (nxt (mst s) t (Op (T - 1)) (La (T - 1))) (Op (T - 1)) := by
            rw [fwF, if_pos ⟨rfl, sp.2.1, sp.2.2.1⟩, sp.2.2.2, sp.1]
          have sq := s3 (T - 1) (by omega)
          have hdl := hT.d (Op T).toNat (by omega) (by omega)
          have h9 := ih p (((T - 1 : Nat) : Int)) M _ O L Op La (aI (nxt (mst s) t (Op T) (La T))) h1 (by omega) (by omega) hW ho (fun z => by omega) (fun _ => ⟨⟨s1, fun i hi => s2 i (by omega), fun i hi => s3 i (by omega)⟩, by rw [Int.toNat_natCast]; right; rw [sp.1]; omega, by rw [Int.toNat_natCast]; omega, by rw [Int.toNat_natCast, ← e1, e2]⟩)
          rw [show ((T - 1 : Nat) : Int) = (T : Int) + -1 by omega] at h9
          exact h9
theorem ar_copy {s' : MS} (hT : TI (mst s) t) (n2 : Int) (hs : ∀ O L Op La, yF s O L Op La = yF s' O L Op La) (L0 : Nat → Int) : ∀ (q i : Nat) (h : AH) (O : Nat → Int), i + q = cHh (mst s) t (((mst s).2.2.2.1 t) - 1) → WM B m0 h (yF s O L0 Op La) → (∀ j : Nat, j < i → O (cNn (mst s) t (((mst s).2.2.2.1 t) - 1) + j) = L0 j) → (∀ j : Nat, j + 1 < ((mst s).2.2.2.1 t) → ((mst s).2.1 ((mst s).2.2.1 t (sqX (mst s) t (j + 1))) 0) ≠ 3 → O (cNn (mst s) t j) = sqX (mst s) t (j + 1)) → Go d yMd_arrange 142 [aR m0, aI (cNn (mst s) t (((mst s).2.2.2.1 t) - 1)), aI (cHh (mst s) t (((mst s).2.2.2.1 t) - 1)), aI n2, aI (i : Int)] [] h (RV none (fun h2 => ∃ O', WM B m0 h2 (yF s O' L0 Op La) ∧ (∀ j : Nat, j < cHh (mst s) t (((mst s).2.2.2.1 t) - 1) → O' (cNn (mst s) t (((mst s).2.2.2.1 t) - 1) + j) = L0 j) ∧ (∀ j : Nat, j + 1 < ((mst s).2.2.2.1 t) → ((mst s).2.1 ((mst s).2.2.1 t (sqX (mst s) t (j + 1))) 0) ≠ 3 → O' (cNn (mst s) t j) = sqX (mst s) t (j + 1)))) := by
  have hc := hT.c
  have hnh := cNH (mst s) t (((mst s).2.2.2.1 t) - 1)
  intro q
  induction q with
  | zero =>
    intro i h O hi hW h1 h2
    obtain rfl : i = cHh (mst s) t (((mst s).2.2.2.1 t) - 1) := by omega
    refine g_iload rfl rfl ?_
    refine g_iload_n rfl rfl ?_
    refine g_icmpge rfl rfl (fun c1 => ?_) (fun c => absurd c (by omega))
    exact r_v rfl rfl ⟨O, hW, h1, h2⟩
  | succ q ih =>
    intro i h O hi hW h1 h2
    have e1 : ((cNn (mst s) t (((mst s).2.2.2.1 t) - 1) : Int) + (i : Int)).toNat = cNn (mst s) t (((mst s).2.2.2.1 t) - 1) + i := by omega
    refine g_iload rfl rfl ?_
    refine g_iload_n rfl rfl ?_
    refine g_icmpge rfl rfl (fun c => absurd c (by omega)) (fun c1 => ?_)
    refine g_aload_n rfl rfl ?_
    refine g_get (ci := 8) (kk := 21) rfl rfl (yF_ob hW) hW.b0 rfl ?_
    refine g_iload_n rfl rfl ?_
    refine g_iload rfl rfl ?_
    refine g_iadd rfl (by omega) ?_
    refine g_aload_n rfl rfl ?_
    refine g_get (ci := 8) (kk := 22) rfl rfl (yF_ob hW) hW.b0 rfl ?_
    refine g_iload rfl rfl ?_
    refine g_iald rfl (yF_a17 hW) (by omega) ?_
    rw [show L0 ((i : Int)).toNat = L0 i from rfl]
    refine g_iast rfl (yF_a16 hW) hW.bk (by omega) ?_
    generalize hg_hh2 : hput h (m0 + 16) (eA 0 30 (va_up O (((cNn (mst s) t (((mst s).2.2.2.1 t) - 1) : Int)) + ((i : Int))).toNat (L0 i))) = hh2
    have hW := yF_16 hW ((cNn (mst s) t (((mst s).2.2.2.1 t) - 1) : Int) + (i : Int)).toNat (v := L0 i)
    rw [hg_hh2, e1] at hW
    refine g_iinc (L' := [aR m0, aI ((cNn (mst s) t (((mst s).2.2.2.1 t) - 1) : Int)), aI ((cHh (mst s) t (((mst s).2.2.2.1 t) - 1) : Int)), aI n2, aI ((i : Int) + 1)]) rfl rfl (by omega) rfl ?_
    refine g_goto rfl rfl ?_
    refine ih (i + 1) _ _ (by omega) hW (fun j hj => ?_) (fun j hj hk => ?_)
    · by_cases e : j = i
      · rw [e]; simp [va_up]
      · rw [show va_up O (cNn (mst s) t (((mst s).2.2.2.1 t) - 1) + i) (L0 i) (cNn (mst s) t (((mst s).2.2.2.1 t) - 1) + j) = O (cNn (mst s) t (((mst s).2.2.2.1 t) - 1) + j) from if_neg (by omega)]
        exact h1 j (by omega)
    · have e2 := cN_m (mst s) t (j + 1) (((mst s).2.2.2.1 t) - 1 - (j + 1))
      rw [show j + 1 + (((mst s).2.2.2.1 t) - 1 - (j + 1)) = ((mst s).2.2.2.1 t) - 1 by omega, cN_s, if_neg hk] at e2
      rw [show va_up O (cNn (mst s) t (((mst s).2.2.2.1 t) - 1) + i) (L0 i) (cNn (mst s) t j) = O (cNn (mst s) t j) from if_neg (by omega)]
      exact h2 j hj hk
theorem m_arrange (hd2 : 2 ≤ d) (hM : MOK s) (ht : t < 2) (hb : s.2 11 = 30 * (t : Int)) (hT : TI (mst s) t) (hW : WM B m0 h s) : Cal d yMd_arrange [aR m0] h (RV none (fun h2 => ∃ O' L' Op' La', WM B m0 h2 (yF s O' L' Op' La') ∧ ordA (mst s) t O')) := by
  obtain ⟨d, rfl⟩ : ∃ e, d = e + 2 := ⟨d - 2, by omega⟩
  have hc := hT.c
  have hnh := cNH (mst s) t (((mst s).2.2.2.1 t) - 1)
  have hW : WM B m0 h (yF s (s.1 16) (s.1 17) (s.1 18) (s.1 19)) := by rw [yF_self]; exact hW
  generalize s.1 16 = O0 at hW
  generalize s.1 17 = L0 at hW
  generalize s.1 18 = Op0 at hW
  generalize s.1 19 = La0 at hW
  show Go _ _ 0 [aR m0, none, none, none, none] [] _ _
  refine g_iconst (n := 0) rfl (by decide) ?_
  refine g_istore_n (L' := [aR m0, aI 0, none, none, none]) rfl rfl ?_
  refine g_iconst (n := 0) rfl (by decide) ?_
  refine g_istore_n (L' := [aR m0, aI 0, aI 0, none, none]) rfl rfl ?_
  refine g_iconst (n := 0) rfl (by decide) ?_
  refine g_istore_n (L' := [aR m0, aI 0, aI 0, aI 0, none]) rfl rfl ?_
  refine g_aload_n rfl rfl ?_
  refine g_get (ci := 8) (kk := 23) rfl rfl (yF_ob hW) hW.b0 rfl ?_
  refine g_iconst (n := 0) rfl (by decide) ?_
  refine g_iconst (n := 0) rfl (by decide) ?_
  refine g_iast rfl (yF_a18 hW) hW.bk (by omega) ?_
  generalize hg_hh1 : hput h (m0 + 18) (eA 0 31 (va_up Op0 (0 : Int).toNat 0)) = hh1
  have hW := yF_18 hW (0 : Int).toNat (v := (0 : Int))
  rw [hg_hh1, show (0 : Int).toNat = 0 from rfl] at hW
  refine g_aload_n rfl rfl ?_
  refine g_get (ci := 8) (kk := 24) rfl rfl (yF_ob hW) hW.b0 rfl ?_
  refine g_iconst (n := 0) rfl (by decide) ?_
  refine g_iconst (n := -1) rfl (by decide) ?_
  refine g_iast rfl (yF_a19 hW) hW.bk (by omega) ?_
  generalize hg_hh2 : hput hh1 (m0 + 19) (eA 0 31 (va_up La0 (0 : Int).toNat (-1))) = hh2
  have hW := yF_19 hW (0 : Int).toNat (v := (-1 : Int))
  rw [hg_hh2, show (0 : Int).toNat = 0 from rfl] at hW
  have o1 : va_up Op0 0 0 0 = (0 : Int) := by simp [va_up]
  have o2 : va_up La0 0 (-1) 0 = (-1 : Int) := by simp [va_up]
  refine ar_loop (d := d) hM ht hb hT (fun h O L Op La v4 hW ho => ?_) (2 * ((mst s).2.2.2.1 t) + 2) 0 0 30 _ O0 L0 _ _ _ (by omega) (by omega) (by omega) hW (fun j hj => absurd hj (Nat.not_lt_zero _)) (fun z => by omega) (fun _ => ?_)
  · have h9 : ∀ h, WM B m0 h (yF s O L Op La) → Go (d + 2) yMd_arrange 142 [aR m0, aI (cNn (mst s) t (((mst s).2.2.2.1 t) - 1)), aI (cHh (mst s) t (((mst s).2.2.2.1 t) - 1)), aI (-1), aI 0] [] h _ := fun h hW => (ar_copy (d := d + 2) (s' := s) hT (-1) (fun _ _ _ _ => rfl) L (cHh (mst s) t (((mst s).2.2.2.1 t) - 1)) 0 h O (by omega) hW (fun j hj => absurd hj (Nat.not_lt_zero _)) (fun j hj hk => (ho j (by omega)).1 hk)).mono (Q' := RV none (fun h2 => ∃ O' L' Op' La', WM B m0 h2 (yF s O' L' Op' La') ∧ ordA (mst s) t O')) (fun o h2 hh => ⟨hh.1, by
      obtain ⟨O', q1, q2, q3⟩ := hh.2
      refine ⟨O', L, Op, La, q1, fun j hj => ⟨q3 j hj, fun hk => ?_⟩⟩
      have e2 := cH_m (mst s) t (j + 1) (((mst s).2.2.2.1 t) - 1 - (j + 1))
      rw [show j + 1 + (((mst s).2.2.2.1 t) - 1 - (j + 1)) = ((mst s).2.2.2.1 t) - 1 by omega, cH_s, if_pos hk] at e2
      rw [q2 _ (by omega)]
      exact (ho j (by omega)).2 hk⟩)
    refine g_iconst (n := 0) rfl (by decide) ?_
    refine g_istore (L' := [aR m0, aI ((cNn (mst s) t (((mst s).2.2.2.1 t) - 1) : Int)), aI ((cHh (mst s) t (((mst s).2.2.2.1 t) - 1) : Int)), aI (-1), aI 0]) rfl rfl ?_
    exact h9 _ hW
  · rw [show (0 : Int).toNat = 0 from rfl, o1, o2]
    refine ⟨⟨o1, fun i hi => by omega, fun i hi => ?_⟩, Or.inl rfl, by omega, ?_⟩
    · obtain rfl : i = 0 := by omega
      rw [o1]
      omega
    · rw [sqX_0]
      rfl
end Md8
