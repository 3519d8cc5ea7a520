/-! Contracts of the tree's methods that change nothing. -/
noncomputable def ffst (p : Nat → Prop) : Nat → Nat → Int
  | 0, _ => -1
  | n + 1, i => @ite Int (p i) (Classical.propDecidable _) (i : Int) (ffst p n (i + 1))
theorem ffst_t {p : Nat → Prop} {n i : Nat} (h : p i) : ffst p (n + 1) i = i := @if_pos _ (Classical.propDecidable _) h _ _ _
theorem ffst_f {p : Nat → Prop} {n i : Nat} (h : ¬ p i) : ffst p (n + 1) i = ffst p n (i + 1) := @if_neg _ (Classical.propDecidable _) h _ _ _
theorem ffst_r (p : Nat → Prop) : ∀ n i : Nat, ffst p n i = -1 ∨ ((i : Int) ≤ ffst p n i ∧ ffst p n i < i + n) := by
  intro n
  induction n with
  | zero => intro i; exact Or.inl rfl
  | succ n ih =>
    intro i
    by_cases h : p i
    · rw [ffst_t h]
      omega
    · rw [ffst_f h]
      have := ih (i + 1)
      omega
/-- the child of that name -/
noncomputable def chn (st : CS) (t r : Nat) (dir f e : Int) : Int := ffst (fun i => (st.2.1 (st.2.2.1 t i) 1) = dir ∧ sli ((st.1 (2 * st.2.2.1 t i))) (st.1 r) f e) ((st.2.2.2.1 t) - 1) 1
/-- the way down a path -/
noncomputable def lkF (st : CS) (t r : Nat) (e : Int) : Nat → Int → Int → Int → Int
  | 0, _, a, _ => a
  | n + 1, i, a, f => if a = -1 then a else if i = e ∨ rat (st.1 r) i = 47 then lkF st t r e n (i + 1) (chn st t r a f i) (i + 1) else lkF st t r e n (i + 1) a f
def hs (st : CS) (t : Nat) (i : Int) : Prop := 0 ≤ i ∧ i < (st.2.2.2.1 t)
def cbh (st : CS) (t : Nat) (i o : Int) : Prop := ¬ hs st t o ∨ (hs st t i ∧ 0 < cmpv ((st.1 (2 * st.2.2.1 t i.toNat))) ((st.1 (2 * st.2.2.1 t o.toNat))))
noncomputable def nxF (st : CS) (t : Nat) (dir bh : Int) : Nat → Nat → Int → Int
  | 0, _, x => x
  | n + 1, i, x => @ite Int ((st.2.1 (st.2.2.1 t i) 1) = dir ∧ cbh st t i bh ∧ (x = -1 ∨ cbh st t x i)) (Classical.propDecidable _) (nxF st t dir bh n (i + 1) i) (nxF st t dir bh n (i + 1) x)
noncomputable def nxt (st : CS) (t : Nat) (dir bh : Int) : Int := nxF st t dir bh ((st.2.2.2.1 t) - 1) 1 (-1)
noncomputable def fwF (st : CS) (t : Nat) : Nat → Int → Int → Int
  | 0, x, _ => x
  | n + 1, x, a => if x = -1 ∧ 0 < a ∧ a < (st.2.2.2.1 t) then fwF st t n (nxt st t ((st.2.1 (st.2.2.1 t a.toNat) 1)) a) ((st.2.1 (st.2.2.1 t a.toNat) 1)) else x
noncomputable def fol (st : CS) (t : Nat) (i : Int) : Int := fwF st t 30 (nxt st t i (-1)) i
def plF (st : CS) (t : Nat) : Nat → Int → Int → Int
  | 0, _, x => x
  | n + 1, a, x => if 0 < a ∧ a < (st.2.2.2.1 t) then plF st t n ((st.2.1 (st.2.2.1 t a.toNat) 1)) (x + (((st.1 (2 * st.2.2.1 t a.toNat))).length + (if 0 < 30 - ((n + 1 : Nat) : Int) then 1 else 0))) else x
def isK (st : CS) (t : Nat) (i k : Int) : Prop := 0 ≤ i ∧ i < (st.2.2.2.1 t) ∧ (st.2.1 (st.2.2.1 t i.toNat) 0) = k
noncomputable def pln (st : CS) (t : Nat) (i : Int) : Int := plF st t 30 i (pz (isK st t i 0))
noncomputable def lgF (st : CS) (t : Nat) : Nat → Nat → Int → Int
  | 0, _, x => x
  | n + 1, i, x => lgF st t n (i + 1) (if x ≤ pln st t i then pln st t i else x)
theorem cmpv_r : ∀ l m : List Int, -(256 + m.length : Int) ≤ cmpv l m ∧ cmpv l m ≤ 256 + l.length := by
  intro l
  induction l with
  | nil => intro m; rw [cmpv_nil (Or.inl rfl)]; simp; omega
  | cons a l ih =>
    intro m
    cases m with
    | nil => rw [cmpv_nil (Or.inr rfl)]; simp; omega
    | cons b m =>
      have := ih m
      show -(256 + ((b :: m).length : Nat) : Int) ≤ (if a % 256 = b % 256 then cmpv l m else a % 256 - b % 256) ∧ (if a % 256 = b % 256 then cmpv l m else a % 256 - b % 256) ≤ 256 + ((a :: l).length : Nat)
      simp only [List.length_cons]
      split <;> omega
theorem nxF_r (st : CS) (t : Nat) (dir bh : Int) : ∀ (n i : Nat) (x : Int), nxF st t dir bh n i x = x ∨ ((i : Int) ≤ nxF st t dir bh n i x ∧ nxF st t dir bh n i x < i + n) := by
  intro n
  induction n with
  | zero => intro i x; exact Or.inl rfl
  | succ n ih =>
    intro i x
    unfold nxF
    by_cases h : (st.2.1 (st.2.2.1 t i) 1) = dir ∧ cbh st t i bh ∧ (x = -1 ∨ cbh st t x i)
    · rw [@if_pos _ (Classical.propDecidable _) h]
      have := ih (i + 1) i
      omega
    · rw [@if_neg _ (Classical.propDecidable _) h]
      have := ih (i + 1) x
      omega
section TreeC
variable {K : KE} {h : AH} {g : Nat → Nat} {st : CS} {cb sb : Nat} {d t r : Nat}
theorem WC.pm (hW : WC K h g st cb sb) (ht : t < 2) {i : Nat} (hi : i < 30) : st.2.2.1 t i < 60 := by
  have := hW.shq.1 t i ht hi
  omega
theorem WC.cnt (hW : WC K h g st cb sb) (ht : t < 2) : 1 ≤ (st.2.2.2.1 t) ∧ (st.2.2.2.1 t) ≤ 30 := hW.shq.2.2.1 t ht
theorem c_has (hW : WC K h g st cb sb) (ht : t < 2) (i : Int) : Cal d yTr_has [aR (g (500 + t)), aI i] h (RV (some (aI (pz (hs st t i)))) (fun h2 => h2 = h)) := by
  show Go _ _ 0 [aR (g (500 + t)), aI i] [] _ _
  refine g_iload_n rfl rfl ?_
  refine g_iflt rfl rfl (fun c1 => ?_) (fun c1 => ?_)
  · skip
    refine g_iconst (n := 0) rfl (by decide) ?_
    exact r_z rfl rfl (by decide) (pz_f (fun q => by have := q.1; have := q.2; omega)).symm rfl
  · skip
    refine g_iload_n rfl rfl ?_
    refine g_aload_n rfl rfl ?_
    refine g_get (ci := 4) (kk := 1) rfl rfl (hW.tree ht) (hW.treeb ht) rfl ?_
    refine g_icmpge rfl rfl (fun c2 => ?_) (fun c2 => ?_)
    · skip
      refine g_iconst (n := 0) rfl (by decide) ?_
      exact r_z rfl rfl (by decide) (pz_f (fun q => by have := q.1; have := q.2; omega)).symm rfl
    · skip
      refine g_iconst (n := 1) rfl (by decide) ?_
      refine g_goto rfl rfl ?_
      exact r_z rfl rfl (by decide) (pz_t ⟨by omega, by omega⟩).symm rfl
theorem c_isOfKind (hW : WC K h g st cb sb) (ht : t < 2) (i k : Int) : Cal d yTr_isOfKind [aR (g (500 + t)), aI i, aI k] h (RV (some (aI (pz (isK st t i k)))) (fun h2 => h2 = h)) := by
  have hc := hW.cnt ht
  show Go _ _ 0 [aR (g (500 + t)), aI i, aI k] [] _ _
  refine g_iload_n rfl rfl ?_
  refine g_iflt rfl rfl (fun c1 => ?_) (fun c1 => ?_)
  · skip
    refine g_iconst (n := 0) rfl (by decide) ?_
    exact r_z rfl rfl (by decide) (pz_f (fun q => by have := q.1; have := q.2.1; have := q.2.2; omega)).symm rfl
  · skip
    refine g_iload_n rfl rfl ?_
    refine g_aload_n rfl rfl ?_
    refine g_get (ci := 4) (kk := 1) rfl rfl (hW.tree ht) (hW.treeb ht) rfl ?_
    refine g_icmpge rfl rfl (fun c2 => ?_) (fun c2 => ?_)
    · skip
      refine g_iconst (n := 0) rfl (by decide) ?_
      exact r_z rfl rfl (by decide) (pz_f (fun q => by have := q.1; have := q.2.1; have := q.2.2; omega)).symm rfl
    · skip
      refine g_aload_n rfl rfl ?_
      refine g_get (ci := 4) (kk := 0) rfl rfl (hW.tree ht) (hW.treeb ht) rfl ?_
      refine g_iload_n rfl rfl ?_
      refine g_aald (b := g (400 + st.2.2.1 t i.toNat)) rfl (hW.arr ht) (by decide) (hW.arrb ht) (by omega) (nar_t (by omega)) ?_
      refine g_get (ci := 0) (kk := 2) rfl rfl (hW.node (hW.pm ht (by omega))) (hW.nodeb (hW.pm ht (by omega))) rfl ?_
      refine g_iload_n rfl rfl ?_
      refine g_icmpne rfl rfl (fun c3 => ?_) (fun c3 => ?_)
      · skip
        refine g_iconst (n := 0) rfl (by decide) ?_
        exact r_z rfl rfl (by decide) (pz_f (fun q => by have := q.1; have := q.2.1; have := q.2.2; omega)).symm rfl
      · skip
        refine g_iconst (n := 1) rfl (by decide) ?_
        refine g_goto rfl rfl ?_
        exact r_z rfl rfl (by decide) (pz_t ⟨by omega, by omega, c3⟩).symm rfl
theorem cn_loop (hW : WC K h g st cb sb) (ht : t < 2) (hr : r < 125) (dir f e : Int) (hf : r32 f) (he : r32 e) (hfe : 0 ≤ f → r32 (e - f)) : ∀ (n i : Nat), i + n = (st.2.2.2.1 t) → Go (d + 1) yTr_childNamed 3 [aR (g (500 + t)), aI dir, aR (g r), aI f, aI e, aI i] [] h (RV (some (aI (ffst (fun i => (st.2.1 (st.2.2.1 t i) 1) = dir ∧ sli ((st.1 (2 * st.2.2.1 t i))) (st.1 r) f e) n i))) (fun h2 => h2 = h)) := by
  have hc := hW.cnt ht
  intro n
  induction n with
  | zero =>
    intro i hi
    refine g_iload rfl rfl ?_
    refine g_aload_n rfl rfl ?_
    refine g_get (ci := 4) (kk := 1) rfl rfl (hW.tree ht) (hW.treeb ht) rfl ?_
    refine g_icmpge rfl rfl (fun c1 => ?_) (fun c => absurd c (by omega))
    refine g_iconst (n := -1) rfl (by decide) ?_
    exact r_i rfl rfl rfl rfl
  | succ n ih =>
    intro i hi
    refine g_iload rfl rfl ?_
    refine g_aload_n rfl rfl ?_
    refine g_get (ci := 4) (kk := 1) rfl rfl (hW.tree ht) (hW.treeb ht) rfl ?_
    refine g_icmpge rfl rfl (fun c => absurd c (by omega)) (fun c1 => ?_)
    refine g_aload_n rfl rfl ?_
    refine g_get (ci := 4) (kk := 0) rfl rfl (hW.tree ht) (hW.treeb ht) rfl ?_
    refine g_iload rfl rfl ?_
    refine g_aald (b := g (400 + st.2.2.1 t i)) rfl (hW.arr ht) (by decide) (hW.arrb ht) (by omega) (nar_t (by omega)) ?_
    refine g_get (ci := 0) (kk := 3) rfl rfl (hW.node (hW.pm ht (by omega))) (hW.nodeb (hW.pm ht (by omega))) rfl ?_
    refine g_iload_n rfl rfl ?_
    refine g_icmpne rfl rfl (fun c2 => ?_) (fun c2 => ?_)
    · skip
      refine g_iinc (L' := [aR (g (500 + t)), aI dir, aR (g r), aI f, aI e, aI ((i : Int) + 1)]) rfl rfl (by omega) rfl ?_
      refine g_goto rfl rfl ?_
      have h9 := ih (i + 1) (by omega)
      rw [← ffst_f (p := fun i => (st.2.1 (st.2.2.1 t i) 1) = dir ∧ sli ((st.1 (2 * st.2.2.1 t i))) (st.1 r) f e) (n := n) (i := i) (fun q => by first | exact c2 q.1 | exact pz_eq c3 q.2)] at h9
      exact h9
    · skip
      refine g_aload_n rfl rfl ?_
      refine g_get (ci := 4) (kk := 0) rfl rfl (hW.tree ht) (hW.treeb ht) rfl ?_
      refine g_iload rfl rfl ?_
      refine g_aald (b := g (400 + st.2.2.1 t i)) rfl (hW.arr ht) (by decide) (hW.arrb ht) (by omega) (nar_t (by omega)) ?_
      refine g_get (ci := 0) (kk := 0) rfl rfl (hW.node (hW.pm ht (by omega))) (hW.nodeb (hW.pm ht (by omega))) rfl ?_
      refine g_aload_n rfl rfl ?_
      refine g_iload_n rfl rfl ?_
      refine g_iload rfl rfl ?_
      refine g_V (z := yRw_isSlice) (e := 1) (A := [aI e, aI f, aR (g r)]) (rest := []) (v := aI (pz (sli ((st.1 (2 * st.2.2.1 t i))) (st.1 r) f e))) (P := fun h2 => h2 = h) rfl rfl rfl rfl rfl rfl (by omega) (hW.row (by have := hW.pm ht (i := i) (by omega); omega)) (hW.rowb (by have := hW.pm ht (i := i) (by omega); omega)) (c_isSlice hW (by have := hW.pm ht (i := i) (by omega); omega) hr f e hf he hfe) ?_
      intro hh9 he9
      rw [he9]
      clear he9 hh9
      refine g_ifeq rfl rfl (fun c3 => ?_) (fun c3 => ?_)
      · skip
        refine g_iinc (L' := [aR (g (500 + t)), aI dir, aR (g r), aI f, aI e, aI ((i : Int) + 1)]) rfl rfl (by omega) rfl ?_
        refine g_goto rfl rfl ?_
        have h9 := ih (i + 1) (by omega)
        rw [← ffst_f (p := fun i => (st.2.1 (st.2.2.1 t i) 1) = dir ∧ sli ((st.1 (2 * st.2.2.1 t i))) (st.1 r) f e) (n := n) (i := i) (fun q => by first | exact c2 q.1 | exact pz_eq c3 q.2)] at h9
        exact h9
      · skip
        refine g_iload rfl rfl ?_
        exact r_i rfl rfl (ffst_t (p := fun i => (st.2.1 (st.2.2.1 t i) 1) = dir ∧ sli ((st.1 (2 * st.2.2.1 t i))) (st.1 r) f e) ⟨c2, pz_ne c3⟩).symm rfl
theorem c_childNamed (hd1 : 1 ≤ d) (hW : WC K h g st cb sb) (ht : t < 2) (hr : r < 125) (dir f e : Int) (hf : r32 f) (he : r32 e) (hfe : 0 ≤ f → r32 (e - f)) : Cal d yTr_childNamed [aR (g (500 + t)), aI dir, aR (g r), aI f, aI e] h (RV (some (aI (chn st t r dir f e))) (fun h2 => h2 = h)) := by
  obtain ⟨d, rfl⟩ : ∃ e, d = e + 1 := ⟨d - 1, by omega⟩
  have hc := hW.cnt ht
  show Go _ _ 0 [aR (g (500 + t)), aI dir, aR (g r), aI f, aI e, none] [] _ _
  refine g_iconst (n := 1) rfl (by decide) ?_
  refine g_istore (L' := [aR (g (500 + t)), aI dir, aR (g r), aI f, aI e, aI 1]) rfl rfl ?_
  exact cn_loop (d := d) hW ht hr dir f e hf he hfe ((st.2.2.2.1 t) - 1) 1 (by omega)
theorem lk_loop (hW : WC K h g st cb sb) (ht : t < 2) (hr : r < 125) (e : Int) (he0 : 0 ≤ e) (he : e ≤ (st.1 r).length) : ∀ (n : Nat) (i a f : Int), 0 ≤ i → 0 ≤ f → f ≤ i → i + n = e + 1 → Go (d + 2) yTr_lookUp 8 [aR (g (500 + t)), aR (g r), aI e, aI a, aI f, aI i] [] h (RV (some (aI (lkF st t r e n i a f))) (fun h2 => h2 = h)) := by
  have hl := hW.len hr
  intro n
  induction n with
  | zero =>
    intro i a f h0 h1 h2 h3
    refine g_iload rfl rfl ?_
    refine g_iload_n rfl rfl ?_
    refine g_icmpgt rfl rfl (fun c1 => ?_) (fun c => absurd c (by omega))
    refine g_iload_n rfl rfl ?_
    exact r_i rfl rfl rfl rfl
  | succ n ih =>
    intro i a f h0 h1 h2 h3
    refine g_iload rfl rfl ?_
    refine g_iload_n rfl rfl ?_
    refine g_icmpgt rfl rfl (fun c => absurd c (by omega)) (fun c1 => ?_)
    refine g_iload_n rfl rfl ?_
    refine g_iconst (n := -1) rfl (by decide) ?_
    refine g_icmpeq rfl rfl (fun c2 => ?_) (fun c2 => ?_)
    · skip
      refine g_iload_n rfl rfl ?_
      exact r_i rfl rfl (by unfold lkF; rw [if_pos c2]) rfl
    · skip
      refine g_iload rfl rfl ?_
      refine g_iload_n rfl rfl ?_
      refine g_icmpeq rfl rfl (fun c3 => ?_) (fun c3 => ?_)
      · skip
        refine g_aload_n rfl rfl ?_
        refine g_iload_n rfl rfl ?_
        refine g_aload_n rfl rfl ?_
        refine g_iload rfl rfl ?_
        refine g_iload rfl rfl ?_
        refine g_V (z := yTr_childNamed) (e := 1) (A := [aI i, aI f, aR (g r), aI a]) (rest := []) (v := aI (chn st t r a f i)) (P := fun h2 => h2 = h) rfl rfl rfl rfl rfl rfl (by omega) (hW.tree ht) (hW.treeb ht) (c_childNamed (by omega) hW ht hr a f i ⟨by omega, by omega⟩ ⟨by omega, by omega⟩ (fun _ => ⟨by omega, by omega⟩)) ?_
        intro hh9 he9
        rw [he9]
        clear he9 hh9
        refine g_istore_n (L' := [aR (g (500 + t)), aR (g r), aI e, aI (chn st t r a f i), aI f, aI i]) rfl rfl ?_
        refine g_iload rfl rfl ?_
        refine g_iconst (n := 1) rfl (by decide) ?_
        refine g_iadd rfl (by omega) ?_
        refine g_istore (L' := [aR (g (500 + t)), aR (g r), aI e, aI (chn st t r a f i), aI (i + 1), aI i]) rfl rfl ?_
        refine g_iinc (L' := [aR (g (500 + t)), aR (g r), aI e, aI (chn st t r a f i), aI (i + 1), aI (i + 1)]) rfl rfl (by omega) rfl ?_
        refine g_goto rfl rfl ?_
        have h9 := ih (i + 1) (chn st t r a f i) (i + 1) (by omega) (by omega) (by omega) (by omega)
        rw [show lkF st t r e (n + 1) i a f = lkF st t r e n (i + 1) (chn st t r a f i) (i + 1) from by rw [lkF, if_neg c2, if_pos (by omega)]]
        exact h9
      · skip
        refine g_aload_n rfl rfl ?_
        refine g_iload rfl rfl ?_
        refine g_V (z := yRw_at) (e := 1) (A := [aI i]) (rest := []) (v := aI (rat (st.1 r) i)) (P := fun h2 => h2 = h) rfl rfl rfl rfl rfl rfl (by omega) (hW.row hr) (hW.rowb hr) (c_at hW hr _) ?_
        intro hh9 he9
        rw [he9]
        clear he9 hh9
        refine g_bipush (n := 47) rfl (by decide) ?_
        refine g_icmpne rfl rfl (fun c4 => ?_) (fun c4 => ?_)
        · skip
          refine g_iinc (L' := [aR (g (500 + t)), aR (g r), aI e, aI a, aI f, aI (i + 1)]) rfl rfl (by omega) rfl ?_
          refine g_goto rfl rfl ?_
          have h9 := ih (i + 1) a f (by omega) (by omega) (by omega) (by omega)
          rw [show lkF st t r e (n + 1) i a f = lkF st t r e n (i + 1) a f from by rw [lkF, if_neg c2, if_neg (by omega)]]
          exact h9
        · skip
          refine g_aload_n rfl rfl ?_
          refine g_iload_n rfl rfl ?_
          refine g_aload_n rfl rfl ?_
          refine g_iload rfl rfl ?_
          refine g_iload rfl rfl ?_
          refine g_V (z := yTr_childNamed) (e := 1) (A := [aI i, aI f, aR (g r), aI a]) (rest := []) (v := aI (chn st t r a f i)) (P := fun h2 => h2 = h) rfl rfl rfl rfl rfl rfl (by omega) (hW.tree ht) (hW.treeb ht) (c_childNamed (by omega) hW ht hr a f i ⟨by omega, by omega⟩ ⟨by omega, by omega⟩ (fun _ => ⟨by omega, by omega⟩)) ?_
          intro hh9 he9
          rw [he9]
          clear he9 hh9
          refine g_istore_n (L' := [aR (g (500 + t)), aR (g r), aI e, aI (chn st t r a f i), aI f, aI i]) rfl rfl ?_
          refine g_iload rfl rfl ?_
          refine g_iconst (n := 1) rfl (by decide) ?_
          refine g_iadd rfl (by omega) ?_
          refine g_istore (L' := [aR (g (500 + t)), aR (g r), aI e, aI (chn st t r a f i), aI (i + 1), aI i]) rfl rfl ?_
          refine g_iinc (L' := [aR (g (500 + t)), aR (g r), aI e, aI (chn st t r a f i), aI (i + 1), aI (i + 1)]) rfl rfl (by omega) rfl ?_
          refine g_goto rfl rfl ?_
          have h9 := ih (i + 1) (chn st t r a f i) (i + 1) (by omega) (by omega) (by omega) (by omega)
          rw [show lkF st t r e (n + 1) i a f = lkF st t r e n (i + 1) (chn st t r a f i) (i + 1) from by rw [lkF, if_neg c2, if_pos (by omega)]]
          exact h9
theorem c_lookUp (hd2 : 2 ≤ d) (hW : WC K h g st cb sb) (ht : t < 2) (hr : r < 125) (e : Int) (he0 : 0 ≤ e) (he : e ≤ (st.1 r).length) : Cal d yTr_lookUp [aR (g (500 + t)), aR (g r), aI e] h (RV (some (aI (lkF st t r e (e.toNat + 1) 0 0 0))) (fun h2 => h2 = h)) := by
  obtain ⟨d, rfl⟩ : ∃ e, d = e + 2 := ⟨d - 2, by omega⟩
  show Go _ _ 0 [aR (g (500 + t)), aR (g r), aI e, none, none, none] [] _ _
  refine g_iconst (n := 0) rfl (by decide) ?_
  refine g_istore_n (L' := [aR (g (500 + t)), aR (g r), aI e, aI 0, none, none]) rfl rfl ?_
  refine g_iconst (n := 0) rfl (by decide) ?_
  refine g_istore (L' := [aR (g (500 + t)), aR (g r), aI e, aI 0, aI 0, none]) rfl rfl ?_
  refine g_iconst (n := 0) rfl (by decide) ?_
  refine g_istore (L' := [aR (g (500 + t)), aR (g r), aI e, aI 0, aI 0, aI 0]) rfl rfl ?_
  exact lk_loop (d := d) hW ht hr e he0 he (e.toNat + 1) 0 0 0 (by omega) (by omega) (by omega) (by omega)
theorem c_comesBehind (hd2 : 2 ≤ d) (hW : WC K h g st cb sb) (ht : t < 2) (i o : Int) : Cal d yTr_comesBehind [aR (g (500 + t)), aI i, aI o] h (RV (some (aI (pz (cbh st t i o)))) (fun h2 => h2 = h)) := by
  have hc := hW.cnt ht
  show Go _ _ 0 [aR (g (500 + t)), aI i, aI o] [] _ _
  refine g_aload_n rfl rfl ?_
  refine g_iload_n rfl rfl ?_
  refine g_V (z := yTr_has) (e := 1) (A := [aI o]) (rest := []) (v := aI (pz (hs st t o))) (P := fun h2 => h2 = h) rfl rfl rfl rfl rfl rfl (by omega) (hW.tree ht) (hW.treeb ht) (c_has hW ht o) ?_
  intro hh9 he9
  rw [he9]
  clear he9 hh9
  refine g_ifeq rfl rfl (fun c1 => ?_) (fun c1 => ?_)
  · skip
    have q1 := pz_eq c1
    refine g_iconst (n := 1) rfl (by decide) ?_
    refine g_goto rfl rfl ?_
    exact r_z rfl rfl (by decide) (pz_t (by first | exact Or.inl q1 | exact Or.inr ⟨q2, by assumption⟩)).symm rfl
  · skip
    have q1 := pz_ne c1
    have q1a := q1.1
    have q1b := q1.2
    refine g_aload_n rfl rfl ?_
    refine g_iload_n rfl rfl ?_
    refine g_V (z := yTr_has) (e := 1) (A := [aI i]) (rest := []) (v := aI (pz (hs st t i))) (P := fun h2 => h2 = h) rfl rfl rfl rfl rfl rfl (by omega) (hW.tree ht) (hW.treeb ht) (c_has hW ht i) ?_
    intro hh9 he9
    rw [he9]
    clear he9 hh9
    refine g_ifeq rfl rfl (fun c2 => ?_) (fun c2 => ?_)
    · skip
      have q2 := pz_eq c2
      refine g_iconst (n := 0) rfl (by decide) ?_
      exact r_z rfl rfl (by decide) (pz_f (fun q => by first | exact q.elim (fun z => z q1) (fun z => q2 z.1) | exact q.elim (fun z => z q1) (fun z => by have := z.2; omega))).symm rfl
    · skip
      have q2 := pz_ne c2
      have q2a := q2.1
      have q2b := q2.2
      refine g_aload_n rfl rfl ?_
      refine g_get (ci := 4) (kk := 0) rfl rfl (hW.tree ht) (hW.treeb ht) rfl ?_
      refine g_iload_n rfl rfl ?_
      refine g_aald (b := g (400 + st.2.2.1 t i.toNat)) rfl (hW.arr ht) (by decide) (hW.arrb ht) (by omega) (nar_t (by omega)) ?_
      refine g_get (ci := 0) (kk := 0) rfl rfl (hW.node (hW.pm ht (by omega))) (hW.nodeb (hW.pm ht (by omega))) rfl ?_
      refine g_aload_n rfl rfl ?_
      refine g_get (ci := 4) (kk := 0) rfl rfl (hW.tree ht) (hW.treeb ht) rfl ?_
      refine g_iload_n rfl rfl ?_
      refine g_aald (b := g (400 + st.2.2.1 t o.toNat)) rfl (hW.arr ht) (by decide) (hW.arrb ht) (by omega) (nar_t (by omega)) ?_
      refine g_get (ci := 0) (kk := 0) rfl rfl (hW.node (hW.pm ht (by omega))) (hW.nodeb (hW.pm ht (by omega))) rfl ?_
      refine g_V (z := yRw_order) (e := 1) (A := [aR (g (2 * st.2.2.1 t o.toNat))]) (rest := []) (v := aI (cmpv ((st.1 (2 * st.2.2.1 t i.toNat))) ((st.1 (2 * st.2.2.1 t o.toNat))))) (P := fun h2 => h2 = h) rfl rfl rfl rfl rfl rfl (by omega) (hW.row (by have := hW.pm ht (i := i.toNat) (by omega); omega)) (hW.rowb (by have := hW.pm ht (i := i.toNat) (by omega); omega)) (c_order (by omega) hW (by have := hW.pm ht (i := i.toNat) (by omega); omega) (by have := hW.pm ht (i := o.toNat) (by omega); omega)) ?_
      intro hh9 he9
      rw [he9]
      clear he9 hh9
      refine g_ifle rfl rfl (fun c3 => ?_) (fun c3 => ?_)
      · skip
        refine g_iconst (n := 0) rfl (by decide) ?_
        exact r_z rfl rfl (by decide) (pz_f (fun q => by first | exact q.elim (fun z => z q1) (fun z => q2 z.1) | exact q.elim (fun z => z q1) (fun z => by have := z.2; omega))).symm rfl
      · skip
        refine g_iconst (n := 1) rfl (by decide) ?_
        refine g_goto rfl rfl ?_
        exact r_z rfl rfl (by decide) (pz_t (by first | exact Or.inl q1 | exact Or.inr ⟨q2, by assumption⟩)).symm rfl
theorem nx_loop (hW : WC K h g st cb sb) (ht : t < 2) (dir bh : Int) : ∀ (n i : Nat) (x : Int), i + n = (st.2.2.2.1 t) → Go (d + 3) yTr_nextChild 5 [aR (g (500 + t)), aI dir, aI bh, aI x, aI i] [] h (RV (some (aI (nxF st t dir bh n i x))) (fun h2 => h2 = h)) := by
  have hc := hW.cnt ht
  intro n
  induction n with
  | zero =>
    intro i x hi
    refine g_iload rfl rfl ?_
    refine g_aload_n rfl rfl ?_
    refine g_get (ci := 4) (kk := 1) rfl rfl (hW.tree ht) (hW.treeb ht) rfl ?_
    refine g_icmpge rfl rfl (fun c1 => ?_) (fun c => absurd c (by omega))
    refine g_iload_n rfl rfl ?_
    exact r_i rfl rfl rfl rfl
  | succ n ih =>
    intro i x hi
    refine g_iload rfl rfl ?_
    refine g_aload_n rfl rfl ?_
    refine g_get (ci := 4) (kk := 1) rfl rfl (hW.tree ht) (hW.treeb ht) rfl ?_
    refine g_icmpge rfl rfl (fun c => absurd c (by omega)) (fun c1 => ?_)
    refine g_aload_n rfl rfl ?_
    refine g_get (ci := 4) (kk := 0) rfl rfl (hW.tree ht) (hW.treeb ht) rfl ?_
    refine g_iload rfl rfl ?_
    refine g_aald (b := g (400 + st.2.2.1 t i)) rfl (hW.arr ht) (by decide) (hW.arrb ht) (by omega) (nar_t (by omega)) ?_
    refine g_get (ci := 0) (kk := 3) rfl rfl (hW.node (hW.pm ht (by omega))) (hW.nodeb (hW.pm ht (by omega))) rfl ?_
    refine g_iload_n rfl rfl ?_
    refine g_icmpne rfl rfl (fun c2 => ?_) (fun c2 => ?_)
    · skip
      refine g_iinc (L' := [aR (g (500 + t)), aI dir, aI bh, aI x, aI ((i : Int) + 1)]) rfl rfl (by omega) rfl ?_
      refine g_goto rfl rfl ?_
      have h9 := ih (i + 1) x (by omega)
      rw [show nxF st t dir bh (n + 1) i x = nxF st t dir bh n (i + 1) x from by rw [nxF]; exact @if_neg _ (Classical.propDecidable _) (fun q => by first | exact c2 q.1 | exact pz_eq cA q.2.1 | exact q.2.2.elim cX (pz_eq cB)) _ _ _]
      exact h9
    · skip
      refine g_aload_n rfl rfl ?_
      refine g_iload rfl rfl ?_
      refine g_iload_n rfl rfl ?_
      refine g_V (z := yTr_comesBehind) (e := 1) (A := [aI bh, aI ((i : Int))]) (rest := []) (v := aI (pz (cbh st t i bh))) (P := fun h2 => h2 = h) rfl rfl rfl rfl rfl rfl (by omega) (hW.tree ht) (hW.treeb ht) (c_comesBehind (by omega) hW ht i bh) ?_
      intro hh9 he9
      rw [he9]
      clear he9 hh9
      refine g_ifeq rfl rfl (fun c3 => ?_) (fun c3 => ?_)
      · skip
        have cA := c3
        refine g_iinc (L' := [aR (g (500 + t)), aI dir, aI bh, aI x, aI ((i : Int) + 1)]) rfl rfl (by omega) rfl ?_
        refine g_goto rfl rfl ?_
        have h9 := ih (i + 1) x (by omega)
        rw [show nxF st t dir bh (n + 1) i x = nxF st t dir bh n (i + 1) x from by rw [nxF]; exact @if_neg _ (Classical.propDecidable _) (fun q => by first | exact c2 q.1 | exact pz_eq cA q.2.1 | exact q.2.2.elim cX (pz_eq cB)) _ _ _]
        exact h9
      · skip
        have cA := c3
        refine g_iload_n rfl rfl ?_
        refine g_iconst (n := -1) rfl (by decide) ?_
        refine g_icmpeq rfl rfl (fun c4 => ?_) (fun c4 => ?_)
        · skip
          have cX := c4
          refine g_iload rfl rfl ?_
          refine g_istore_n (L' := [aR (g (500 + t)), aI dir, aI bh, aI ((i : Int)), aI ((i : Int))]) rfl rfl ?_
          refine g_iinc (L' := [aR (g (500 + t)), aI dir, aI bh, aI ((i : Int)), aI ((i : Int) + 1)]) rfl rfl (by omega) rfl ?_
          refine g_goto rfl rfl ?_
          have h9 := ih (i + 1) i (by omega)
          rw [show nxF st t dir bh (n + 1) i x = nxF st t dir bh n (i + 1) i from by rw [nxF]; exact @if_pos _ (Classical.propDecidable _) ⟨c2, pz_ne cA, by first | exact Or.inl cX | exact Or.inr (pz_ne cB)⟩ _ _ _]
          exact h9
        · skip
          have cX := c4
          refine g_aload_n rfl rfl ?_
          refine g_iload_n rfl rfl ?_
          refine g_iload rfl rfl ?_
          refine g_V (z := yTr_comesBehind) (e := 1) (A := [aI ((i : Int)), aI x]) (rest := []) (v := aI (pz (cbh st t x i))) (P := fun h2 => h2 = h) rfl rfl rfl rfl rfl rfl (by omega) (hW.tree ht) (hW.treeb ht) (c_comesBehind (by omega) hW ht x i) ?_
          intro hh9 he9
          rw [he9]
          clear he9 hh9
          refine g_ifeq rfl rfl (fun c5 => ?_) (fun c5 => ?_)
          · skip
            have cB := c5
            refine g_iinc (L' := [aR (g (500 + t)), aI dir, aI bh, aI x, aI ((i : Int) + 1)]) rfl rfl (by omega) rfl ?_
            refine g_goto rfl rfl ?_
            have h9 := ih (i + 1) x (by omega)
            rw [show nxF st t dir bh (n + 1) i x = nxF st t dir bh n (i + 1) x from by rw [nxF]; exact @if_neg _ (Classical.propDecidable _) (fun q => by first | exact c2 q.1 | exact pz_eq cA q.2.1 | exact q.2.2.elim cX (pz_eq cB)) _ _ _]
            exact h9
          · skip
            have cB := c5
            refine g_iload rfl rfl ?_
            refine g_istore_n (L' := [aR (g (500 + t)), aI dir, aI bh, aI ((i : Int)), aI ((i : Int))]) rfl rfl ?_
            refine g_iinc (L' := [aR (g (500 + t)), aI dir, aI bh, aI ((i : Int)), aI ((i : Int) + 1)]) rfl rfl (by omega) rfl ?_
            refine g_goto rfl rfl ?_
            have h9 := ih (i + 1) i (by omega)
            rw [show nxF st t dir bh (n + 1) i x = nxF st t dir bh n (i + 1) i from by rw [nxF]; exact @if_pos _ (Classical.propDecidable _) ⟨c2, pz_ne cA, by first | exact Or.inl cX | exact Or.inr (pz_ne cB)⟩ _ _ _]
            exact h9
theorem c_nextChild (hd3 : 3 ≤ d) (hW : WC K h g st cb sb) (ht : t < 2) (dir bh : Int) : Cal d yTr_nextChild [aR (g (500 + t)), aI dir, aI bh] h (RV (some (aI (nxt st t dir bh))) (fun h2 => h2 = h)) := by
  obtain ⟨d, rfl⟩ : ∃ e, d = e + 3 := ⟨d - 3, by omega⟩
  have hc := hW.cnt ht
  show Go _ _ 0 [aR (g (500 + t)), aI dir, aI bh, none, none] [] _ _
  refine g_iconst (n := -1) rfl (by decide) ?_
  refine g_istore_n (L' := [aR (g (500 + t)), aI dir, aI bh, aI (-1), none]) rfl rfl ?_
  refine g_iconst (n := 1) rfl (by decide) ?_
  refine g_istore (L' := [aR (g (500 + t)), aI dir, aI bh, aI (-1), aI 1]) rfl rfl ?_
  exact nx_loop (d := d) hW ht dir bh ((st.2.2.2.1 t) - 1) 1 (-1) (by omega)
theorem fw_loop (hW : WC K h g st cb sb) (ht : t < 2) (i0 : Int) : ∀ (n lv : Nat) (x a : Int) (v5 : AV), lv + n = 30 → Go (d + 4) yTr_follower 12 [aR (g (500 + t)), aI i0, aI x, aI a, aI lv, v5] [] h (RV (some (aI (fwF st t n x a))) (fun h2 => h2 = h)) := by
  have hc := hW.cnt ht
  intro n
  induction n with
  | zero =>
    intro lv x a v5 hi
    refine g_iload rfl rfl ?_
    refine g_bipush (n := 30) rfl (by decide) ?_
    refine g_icmpge rfl rfl (fun c1 => ?_) (fun c => absurd c (by omega))
    refine g_iload_n rfl rfl ?_
    exact r_i rfl rfl rfl rfl
  | succ n ih =>
    intro lv x a v5 hi
    refine g_iload rfl rfl ?_
    refine g_bipush (n := 30) rfl (by decide) ?_
    refine g_icmpge rfl rfl (fun c => absurd c (by omega)) (fun c1 => ?_)
    refine g_iload_n rfl rfl ?_
    refine g_iconst (n := -1) rfl (by decide) ?_
    refine g_icmpne rfl rfl (fun c2 => ?_) (fun c2 => ?_)
    · skip
      refine g_iload_n rfl rfl ?_
      exact r_i rfl rfl (by unfold fwF; rw [if_neg (fun q => by have := q.1; have := q.2.1; have := q.2.2; omega)]) rfl
    · skip
      refine g_iload_n rfl rfl ?_
      refine g_ifle rfl rfl (fun c3 => ?_) (fun c3 => ?_)
      · skip
        refine g_iload_n rfl rfl ?_
        exact r_i rfl rfl (by unfold fwF; rw [if_neg (fun q => by have := q.1; have := q.2.1; have := q.2.2; omega)]) rfl
      · skip
        refine g_aload_n rfl rfl ?_
        refine g_iload_n rfl rfl ?_
        refine g_V (z := yTr_has) (e := 1) (A := [aI a]) (rest := []) (v := aI (pz (hs st t a))) (P := fun h2 => h2 = h) rfl rfl rfl rfl rfl rfl (by omega) (hW.tree ht) (hW.treeb ht) (c_has hW ht a) ?_
        intro hh9 he9
        rw [he9]
        clear he9 hh9
        refine g_ifeq rfl rfl (fun c4 => ?_) (fun c4 => ?_)
        · skip
          have q1 := pz_eq c4
          have q2 : ¬ (0 ≤ a ∧ a < (st.2.2.2.1 t)) := q1
          refine g_iload_n rfl rfl ?_
          exact r_i rfl rfl (by unfold fwF; rw [if_neg (fun q => by have := q.1; have := q.2.1; have := q.2.2; omega)]) rfl
        · skip
          have q1 := pz_ne c4
          have q1a := q1.1
          have q1b := q1.2
          refine g_aload_n rfl rfl ?_
          refine g_get (ci := 4) (kk := 0) rfl rfl (hW.tree ht) (hW.treeb ht) rfl ?_
          refine g_iload_n rfl rfl ?_
          refine g_aald (b := g (400 + st.2.2.1 t a.toNat)) rfl (hW.arr ht) (by decide) (hW.arrb ht) (by omega) (nar_t (by omega)) ?_
          refine g_get (ci := 0) (kk := 3) rfl rfl (hW.node (hW.pm ht (by omega))) (hW.nodeb (hW.pm ht (by omega))) rfl ?_
          refine g_istore (L' := [aR (g (500 + t)), aI i0, aI x, aI a, aI ((lv : Int)), aI ((st.2.1 (st.2.2.1 t a.toNat) 1))]) rfl rfl ?_
          refine g_aload_n rfl rfl ?_
          refine g_iload rfl rfl ?_
          refine g_iload_n rfl rfl ?_
          refine g_V (z := yTr_nextChild) (e := 1) (A := [aI a, aI ((st.2.1 (st.2.2.1 t a.toNat) 1))]) (rest := []) (v := aI (nxt st t ((st.2.1 (st.2.2.1 t a.toNat) 1)) a)) (P := fun h2 => h2 = h) rfl rfl rfl rfl rfl rfl (by omega) (hW.tree ht) (hW.treeb ht) (c_nextChild (by omega) hW ht _ _) ?_
          intro hh9 he9
          rw [he9]
          clear he9 hh9
          refine g_istore_n (L' := [aR (g (500 + t)), aI i0, aI (nxt st t ((st.2.1 (st.2.2.1 t a.toNat) 1)) a), aI a, aI ((lv : Int)), aI ((st.2.1 (st.2.2.1 t a.toNat) 1))]) rfl rfl ?_
          refine g_iload rfl rfl ?_
          refine g_istore_n (L' := [aR (g (500 + t)), aI i0, aI (nxt st t ((st.2.1 (st.2.2.1 t a.toNat) 1)) a), aI ((st.2.1 (st.2.2.1 t a.toNat) 1)), aI ((lv : Int)), aI ((st.2.1 (st.2.2.1 t a.toNat) 1))]) rfl rfl ?_
          refine g_iinc (L' := [aR (g (500 + t)), aI i0, aI (nxt st t ((st.2.1 (st.2.2.1 t a.toNat) 1)) a), aI ((st.2.1 (st.2.2.1 t a.toNat) 1)), aI ((lv : Int) + 1), aI ((st.2.1 (st.2.2.1 t a.toNat) 1))]) rfl rfl (by omega) rfl ?_
          refine g_goto rfl rfl ?_
          have h9 := ih (lv + 1) (nxt st t ((st.2.1 (st.2.2.1 t a.toNat) 1)) a) ((st.2.1 (st.2.2.1 t a.toNat) 1)) (aI ((st.2.1 (st.2.2.1 t a.toNat) 1))) (by omega)
          rw [show fwF st t (n + 1) x a = fwF st t n (nxt st t ((st.2.1 (st.2.2.1 t a.toNat) 1)) a) ((st.2.1 (st.2.2.1 t a.toNat) 1)) from by rw [fwF, if_pos ⟨by omega, by omega, by omega⟩]]
          exact h9
theorem c_follower (hd4 : 4 ≤ d) (hW : WC K h g st cb sb) (ht : t < 2) (i : Int) : Cal d yTr_follower [aR (g (500 + t)), aI i] h (RV (some (aI (fol st t i))) (fun h2 => h2 = h)) := by
  obtain ⟨d, rfl⟩ : ∃ e, d = e + 4 := ⟨d - 4, by omega⟩
  show Go _ _ 0 [aR (g (500 + t)), aI i, none, none, none, none] [] _ _
  refine g_aload_n rfl rfl ?_
  refine g_iload_n rfl rfl ?_
  refine g_iconst (n := -1) rfl (by decide) ?_
  refine g_V (z := yTr_nextChild) (e := 1) (A := [aI (-1), aI i]) (rest := []) (v := aI (nxt st t i (-1))) (P := fun h2 => h2 = h) rfl rfl rfl rfl rfl rfl (by omega) (hW.tree ht) (hW.treeb ht) (c_nextChild (by omega) hW ht _ _) ?_
  intro hh9 he9
  rw [he9]
  clear he9 hh9
  refine g_istore_n (L' := [aR (g (500 + t)), aI i, aI (nxt st t i (-1)), none, none, none]) rfl rfl ?_
  refine g_iload_n rfl rfl ?_
  refine g_istore_n (L' := [aR (g (500 + t)), aI i, aI (nxt st t i (-1)), aI i, none, none]) rfl rfl ?_
  refine g_iconst (n := 0) rfl (by decide) ?_
  refine g_istore (L' := [aR (g (500 + t)), aI i, aI (nxt st t i (-1)), aI i, aI 0, none]) rfl rfl ?_
  exact fw_loop (d := d) hW ht i 30 0 _ _ none rfl
theorem pl_loop (hW : WC K h g st cb sb) (ht : t < 2) (i0 : Int) : ∀ (n lv : Nat) (a x : Int), lv + n = 30 → 0 ≤ x → x ≤ 1 + 10241 * (lv : Int) → Go (d + 1) yTr_pathLength 20 [aR (g (500 + t)), aI i0, aI x, aI a, aI lv] [] h (RV (some (aI (plF st t n a x))) (fun h2 => h2 = h)) := by
  have hc := hW.cnt ht
  intro n
  induction n with
  | zero =>
    intro lv a x hi hx0 hx1
    refine g_iload rfl rfl ?_
    refine g_bipush (n := 30) rfl (by decide) ?_
    refine g_icmpge rfl rfl (fun c1 => ?_) (fun c => absurd c (by omega))
    refine g_iload_n rfl rfl ?_
    exact r_i rfl rfl rfl rfl
  | succ n ih =>
    intro lv a x hi hx0 hx1
    refine g_iload rfl rfl ?_
    refine g_bipush (n := 30) rfl (by decide) ?_
    refine g_icmpge rfl rfl (fun c => absurd c (by omega)) (fun c1 => ?_)
    refine g_iload_n rfl rfl ?_
    refine g_ifle rfl rfl (fun c2 => ?_) (fun c2 => ?_)
    · skip
      refine g_iload_n rfl rfl ?_
      exact r_i rfl rfl (by unfold plF; rw [if_neg (fun q => by have := q.1; have := q.2; omega)]) rfl
    · skip
      refine g_aload_n rfl rfl ?_
      refine g_iload_n rfl rfl ?_
      refine g_V (z := yTr_has) (e := 1) (A := [aI a]) (rest := []) (v := aI (pz (hs st t a))) (P := fun h2 => h2 = h) rfl rfl rfl rfl rfl rfl (by omega) (hW.tree ht) (hW.treeb ht) (c_has hW ht a) ?_
      intro hh9 he9
      rw [he9]
      clear he9 hh9
      refine g_ifeq rfl rfl (fun c3 => ?_) (fun c3 => ?_)
      · skip
        have q1 := pz_eq c3
        have q2 : ¬ (0 ≤ a ∧ a < (st.2.2.2.1 t)) := q1
        refine g_iload_n rfl rfl ?_
        exact r_i rfl rfl (by unfold plF; rw [if_neg (fun q => by have := q.1; have := q.2; omega)]) rfl
      · skip
        have q1 := pz_ne c3
        have q1a := q1.1
        have q1b := q1.2
        have hpm := hW.pm ht (i := a.toNat) (by omega)
        have hlen := hW.len (r := 2 * st.2.2.1 t a.toNat) (by omega)
        refine g_iload_n rfl rfl ?_
        refine g_aload_n rfl rfl ?_
        refine g_get (ci := 4) (kk := 0) rfl rfl (hW.tree ht) (hW.treeb ht) rfl ?_
        refine g_iload_n rfl rfl ?_
        refine g_aald (b := g (400 + st.2.2.1 t a.toNat)) rfl (hW.arr ht) (by decide) (hW.arrb ht) (by omega) (nar_t (by omega)) ?_
        refine g_get (ci := 0) (kk := 0) rfl rfl (hW.node (hW.pm ht (by omega))) (hW.nodeb (hW.pm ht (by omega))) rfl ?_
        refine g_get (ci := 2) (kk := 1) rfl rfl (hW.row (by have := hW.pm ht (i := a.toNat) (by omega); omega)) (hW.rowb (by have := hW.pm ht (i := a.toNat) (by omega); omega)) rfl ?_
        refine g_iload rfl rfl ?_
        refine g_ifle rfl rfl (fun c4 => ?_) (fun c4 => ?_)
        · skip
          refine g_iconst (n := 0) rfl (by decide) ?_
          refine g_iadd rfl (by omega) ?_
          refine g_iadd rfl (by omega) ?_
          refine g_istore_n (L' := [aR (g (500 + t)), aI i0, aI (x + ((((st.1 (2 * st.2.2.1 t a.toNat)).length : Int)) + 0)), aI a, aI ((lv : Int))]) rfl rfl ?_
          refine g_aload_n rfl rfl ?_
          refine g_get (ci := 4) (kk := 0) rfl rfl (hW.tree ht) (hW.treeb ht) rfl ?_
          refine g_iload_n rfl rfl ?_
          refine g_aald (b := g (400 + st.2.2.1 t a.toNat)) rfl (hW.arr ht) (by decide) (hW.arrb ht) (by omega) (nar_t (by omega)) ?_
          refine g_get (ci := 0) (kk := 3) rfl rfl (hW.node (hW.pm ht (by omega))) (hW.nodeb (hW.pm ht (by omega))) rfl ?_
          refine g_istore_n (L' := [aR (g (500 + t)), aI i0, aI (x + ((((st.1 (2 * st.2.2.1 t a.toNat)).length : Int)) + 0)), aI ((st.2.1 (st.2.2.1 t a.toNat) 1)), aI ((lv : Int))]) rfl rfl ?_
          refine g_iinc (L' := [aR (g (500 + t)), aI i0, aI (x + ((((st.1 (2 * st.2.2.1 t a.toNat)).length : Int)) + 0)), aI ((st.2.1 (st.2.2.1 t a.toNat) 1)), aI ((lv : Int) + 1)]) rfl rfl (by omega) rfl ?_
          refine g_goto rfl rfl ?_
          have h9 := ih (lv + 1) ((st.2.1 (st.2.2.1 t a.toNat) 1)) (x + ((((st.1 (2 * st.2.2.1 t a.toNat)).length : Int)) + 0)) (by omega) (by omega) (by omega)
          rw [show plF st t (n + 1) a x = plF st t n ((st.2.1 (st.2.2.1 t a.toNat) 1)) (x + ((((st.1 (2 * st.2.2.1 t a.toNat)).length : Int)) + 0)) from by rw [plF, if_pos ⟨by omega, by omega⟩]; congr 2; congr 1; first | rw [if_pos (by omega)] | rw [if_neg (by omega)]]
          exact h9
        · skip
          refine g_iconst (n := 1) rfl (by decide) ?_
          refine g_goto rfl rfl ?_
          refine g_iadd rfl (by omega) ?_
          refine g_iadd rfl (by omega) ?_
          refine g_istore_n (L' := [aR (g (500 + t)), aI i0, aI (x + ((((st.1 (2 * st.2.2.1 t a.toNat)).length : Int)) + 1)), aI a, aI ((lv : Int))]) rfl rfl ?_
          refine g_aload_n rfl rfl ?_
          refine g_get (ci := 4) (kk := 0) rfl rfl (hW.tree ht) (hW.treeb ht) rfl ?_
          refine g_iload_n rfl rfl ?_
          refine g_aald (b := g (400 + st.2.2.1 t a.toNat)) rfl (hW.arr ht) (by decide) (hW.arrb ht) (by omega) (nar_t (by omega)) ?_
          refine g_get (ci := 0) (kk := 3) rfl rfl (hW.node (hW.pm ht (by omega))) (hW.nodeb (hW.pm ht (by omega))) rfl ?_
          refine g_istore_n (L' := [aR (g (500 + t)), aI i0, aI (x + ((((st.1 (2 * st.2.2.1 t a.toNat)).length : Int)) + 1)), aI ((st.2.1 (st.2.2.1 t a.toNat) 1)), aI ((lv : Int))]) rfl rfl ?_
          refine g_iinc (L' := [aR (g (500 + t)), aI i0, aI (x + ((((st.1 (2 * st.2.2.1 t a.toNat)).length : Int)) + 1)), aI ((st.2.1 (st.2.2.1 t a.toNat) 1)), aI ((lv : Int) + 1)]) rfl rfl (by omega) rfl ?_
          refine g_goto rfl rfl ?_
          have h9 := ih (lv + 1) ((st.2.1 (st.2.2.1 t a.toNat) 1)) (x + ((((st.1 (2 * st.2.2.1 t a.toNat)).length : Int)) + 1)) (by omega) (by omega) (by omega)
          rw [show plF st t (n + 1) a x = plF st t n ((st.2.1 (st.2.2.1 t a.toNat) 1)) (x + ((((st.1 (2 * st.2.2.1 t a.toNat)).length : Int)) + 1)) from by rw [plF, if_pos ⟨by omega, by omega⟩]; congr 2; congr 1; first | rw [if_pos (by omega)] | rw [if_neg (by omega)]]
          exact h9
theorem c_pathLength (hd1 : 1 ≤ d) (hW : WC K h g st cb sb) (ht : t < 2) (i : Int) : Cal d yTr_pathLength [aR (g (500 + t)), aI i] h (RV (some (aI (pln st t i))) (fun h2 => h2 = h)) := by
  obtain ⟨d, rfl⟩ : ∃ e, d = e + 1 := ⟨d - 1, by omega⟩
  show Go _ _ 0 [aR (g (500 + t)), aI i, none, none, none] [] _ _
  refine g_aload_n rfl rfl ?_
  refine g_iload_n rfl rfl ?_
  refine g_iconst (n := 0) rfl (by decide) ?_
  refine g_V (z := yTr_isOfKind) (e := 1) (A := [aI 0, aI i]) (rest := []) (v := aI (pz (isK st t i 0))) (P := fun h2 => h2 = h) rfl rfl rfl rfl rfl rfl (by omega) (hW.tree ht) (hW.treeb ht) (c_isOfKind hW ht i 0) ?_
  intro hh9 he9
  rw [he9]
  clear he9 hh9
  refine g_ifeq rfl rfl (fun c1 => ?_) (fun c1 => ?_)
  · skip
    have cK := c1
    refine g_iconst (n := 0) rfl (by decide) ?_
    refine g_istore_n (L' := [aR (g (500 + t)), aI i, aI 0, none, none]) rfl rfl ?_
    refine g_iload_n rfl rfl ?_
    refine g_istore_n (L' := [aR (g (500 + t)), aI i, aI 0, aI i, none]) rfl rfl ?_
    refine g_iconst (n := 0) rfl (by decide) ?_
    refine g_istore (L' := [aR (g (500 + t)), aI i, aI 0, aI i, aI 0]) rfl rfl ?_
    have h9 := pl_loop (d := d) hW ht i 30 0 i (0) rfl (by decide) (by decide)
    rw [show pln st t i = plF st t 30 i (0) from by unfold pln; rw [pz_f (pz_eq cK)]]
    exact h9
  · skip
    have cK := c1
    refine g_iconst (n := 1) rfl (by decide) ?_
    refine g_goto rfl rfl ?_
    refine g_istore_n (L' := [aR (g (500 + t)), aI i, aI 1, none, none]) rfl rfl ?_
    refine g_iload_n rfl rfl ?_
    refine g_istore_n (L' := [aR (g (500 + t)), aI i, aI 1, aI i, none]) rfl rfl ?_
    refine g_iconst (n := 0) rfl (by decide) ?_
    refine g_istore (L' := [aR (g (500 + t)), aI i, aI 1, aI i, aI 0]) rfl rfl ?_
    have h9 := pl_loop (d := d) hW ht i 30 0 i (1) rfl (by decide) (by decide)
    rw [show pln st t i = plF st t 30 i (1) from by unfold pln; rw [pz_t (pz_ne cK)]]
    exact h9
theorem lg_loop (hW : WC K h g st cb sb) (ht : t < 2) : ∀ (n i : Nat) (x : Int), i + n = (st.2.2.2.1 t) → Go (d + 2) yTr_longestPath 4 [aR (g (500 + t)), aI x, aI i] [] h (RV (some (aI (lgF st t n i x))) (fun h2 => h2 = h)) := by
  have hc := hW.cnt ht
  intro n
  induction n with
  | zero =>
    intro i x hi
    refine g_iload_n rfl rfl ?_
    refine g_aload_n rfl rfl ?_
    refine g_get (ci := 4) (kk := 1) rfl rfl (hW.tree ht) (hW.treeb ht) rfl ?_
    refine g_icmpge rfl rfl (fun c1 => ?_) (fun c => absurd c (by omega))
    refine g_iload_n rfl rfl ?_
    exact r_i rfl rfl rfl rfl
  | succ n ih =>
    intro i x hi
    refine g_iload_n rfl rfl ?_
    refine g_aload_n rfl rfl ?_
    refine g_get (ci := 4) (kk := 1) rfl rfl (hW.tree ht) (hW.treeb ht) rfl ?_
    refine g_icmpge rfl rfl (fun c => absurd c (by omega)) (fun c1 => ?_)
    refine g_iload_n rfl rfl ?_
    refine g_aload_n rfl rfl ?_
    refine g_iload_n rfl rfl ?_
    refine g_V (z := yTr_pathLength) (e := 1) (A := [aI ((i : Int))]) (rest := [aI x]) (v := aI (pln st t (i : Int))) (P := fun h2 => h2 = h) rfl rfl rfl rfl rfl rfl (by omega) (hW.tree ht) (hW.treeb ht) (c_pathLength (by omega) hW ht _) ?_
    intro hh9 he9
    rw [he9]
    clear he9 hh9
    refine g_max rfl rfl rfl (Nat.le_of_ble_eq_true rfl) ?_
    refine g_istore_n (L' := [aR (g (500 + t)), aI (if x ≤ pln st t (i : Int) then pln st t (i : Int) else x), aI ((i : Int))]) rfl rfl ?_
    refine g_iinc (L' := [aR (g (500 + t)), aI (if x ≤ pln st t (i : Int) then pln st t (i : Int) else x), aI ((i : Int) + 1)]) rfl rfl (by omega) rfl ?_
    refine g_goto rfl rfl ?_
    exact ih (i + 1) _ (by omega)
theorem c_longestPath (hd2 : 2 ≤ d) (hW : WC K h g st cb sb) (ht : t < 2) : Cal d yTr_longestPath [aR (g (500 + t))] h (RV (some (aI (lgF st t ((st.2.2.2.1 t) - 1) 1 0))) (fun h2 => h2 = h)) := by
  obtain ⟨d, rfl⟩ : ∃ e, d = e + 2 := ⟨d - 2, by omega⟩
  have hc := hW.cnt ht
  show Go _ _ 0 [aR (g (500 + t)), none, none] [] _ _
  refine g_iconst (n := 0) rfl (by decide) ?_
  refine g_istore_n (L' := [aR (g (500 + t)), aI 0, none]) rfl rfl ?_
  refine g_iconst (n := 1) rfl (by decide) ?_
  refine g_istore_n (L' := [aR (g (500 + t)), aI 0, aI 1]) rfl rfl ?_
  exact lg_loop (d := d) hW ht ((st.2.2.2.1 t) - 1) 1 0 (by omega)
theorem c_isGone (hd1 : 1 ≤ d) (hW : WC K h g st cb sb) (ht : t < 2) (i : Int) : Cal d yTr_isGone [aR (g (500 + t)), aI i] h (RV (some (aI (pz (hs st t i ∧ st.2.2.2.2.1 t i.toNat = -1)))) (fun h2 => h2 = h)) := by
  have hc := hW.cnt ht
  show Go _ _ 0 [aR (g (500 + t)), aI i] [] _ _
  refine g_aload_n rfl rfl ?_
  refine g_iload_n rfl rfl ?_
  refine g_V (z := yTr_has) (e := 1) (A := [aI i]) (rest := []) (v := aI (pz (hs st t i))) (P := fun h2 => h2 = h) rfl rfl rfl rfl rfl rfl (by omega) (hW.tree ht) (hW.treeb ht) (c_has hW ht i) ?_
  intro hh9 he9
  rw [he9]
  clear he9 hh9
  refine g_ifeq rfl rfl (fun c1 => ?_) (fun c1 => ?_)
  · skip
    have q1 := pz_eq c1
    refine g_iconst (n := 0) rfl (by decide) ?_
    exact r_z rfl rfl (by decide) (pz_f (fun q => by first | exact q1 q.1 | exact c2 q.2)).symm rfl
  · skip
    have q1 := pz_ne c1
    have q1a := q1.1
    have q1b := q1.2
    refine g_aload_n rfl rfl ?_
    refine g_get (ci := 4) (kk := 2) rfl rfl (hW.tree ht) (hW.treeb ht) rfl ?_
    refine g_iload_n rfl rfl ?_
    refine g_iald rfl (hW.num ht) (by omega) ?_
    refine g_iconst (n := -1) rfl (by decide) ?_
    refine g_icmpne rfl rfl (fun c2 => ?_) (fun c2 => ?_)
    · skip
      refine g_iconst (n := 0) rfl (by decide) ?_
      exact r_z rfl rfl (by decide) (pz_f (fun q => by first | exact q1 q.1 | exact c2 q.2)).symm rfl
    · skip
      refine g_iconst (n := 1) rfl (by decide) ?_
      refine g_goto rfl rfl ?_
      exact r_z rfl rfl (by decide) (pz_t ⟨q1, c2⟩).symm rfl
noncomputable def nnm (st : CS) (t : Nat) (i : Int) : Int := if 0 ≤ i ∧ i < (st.2.2.2.1 t) then st.2.2.2.2.1 t i.toNat else -1
theorem c_newNumber (hd1 : 1 ≤ d) (hW : WC K h g st cb sb) (ht : t < 2) (i : Int) : Cal d yTr_newNumber [aR (g (500 + t)), aI i] h (RV (some (aI (nnm st t i))) (fun h2 => h2 = h)) := by
  have hc := hW.cnt ht
  show Go _ _ 0 [aR (g (500 + t)), aI i] [] _ _
  refine g_aload_n rfl rfl ?_
  refine g_iload_n rfl rfl ?_
  refine g_V (z := yTr_has) (e := 1) (A := [aI i]) (rest := []) (v := aI (pz (hs st t i))) (P := fun h2 => h2 = h) rfl rfl rfl rfl rfl rfl (by omega) (hW.tree ht) (hW.treeb ht) (c_has hW ht i) ?_
  intro hh9 he9
  rw [he9]
  clear he9 hh9
  refine g_ifeq rfl rfl (fun c1 => ?_) (fun c1 => ?_)
  · skip
    have q1 := pz_eq c1
    have q2 : ¬ (0 ≤ i ∧ i < (st.2.2.2.1 t)) := q1
    refine g_iconst (n := -1) rfl (by decide) ?_
    exact r_i rfl rfl (by unfold nnm; rw [if_neg q2]) rfl
  · skip
    have q1 := pz_ne c1
    have q1a := q1.1
    have q1b := q1.2
    refine g_aload_n rfl rfl ?_
    refine g_get (ci := 4) (kk := 2) rfl rfl (hW.tree ht) (hW.treeb ht) rfl ?_
    refine g_iload_n rfl rfl ?_
    refine g_iald rfl (hW.num ht) (by omega) ?_
    refine g_goto rfl rfl ?_
    exact r_i rfl rfl (by unfold nnm; rw [if_pos ⟨q1a, q1b⟩]) rfl
theorem c_contentsLength (hW : WC K h g st cb sb) {j : Nat} (hj : j < 60) : Cal d yNd_contentsLength [aR (g (400 + j))] h (RV (some (aI (if st.2.1 j 0 = 1 then ((st.1 (2 * j + 1)).length : Int) else 0))) (fun h2 => h2 = h)) := by
  show Go _ _ 0 [aR (g (400 + j))] [] _ _
  refine g_aload_n rfl rfl ?_
  refine g_get (ci := 0) (kk := 2) rfl rfl (hW.node hj) (hW.nodeb hj) rfl ?_
  refine g_iconst (n := 1) rfl (by decide) ?_
  refine g_icmpne rfl rfl (fun c1 => ?_) (fun c1 => ?_)
  · skip
    refine g_iconst (n := 0) rfl (by decide) ?_
    exact r_i rfl rfl (by rw [if_neg (by assumption)]) rfl
  · skip
    refine g_aload_n rfl rfl ?_
    refine g_get (ci := 0) (kk := 1) rfl rfl (hW.node hj) (hW.nodeb hj) rfl ?_
    refine g_get (ci := 2) (kk := 1) rfl rfl (hW.row (by omega)) (hW.rowb (by omega)) rfl ?_
    refine g_goto rfl rfl ?_
    exact r_i rfl rfl (by rw [if_pos (by assumption)]) rfl
end TreeC
