/-! TarYard: names, nodes. -/
/-- a state that looks as X does from without -/
def SE (X s : CS) (t : Nat) : Prop := VQ X s t ∧ s.1 121 = X.1 121 ∧ s.2.2.2.2.2 0 = X.2.2.2.2.2 0 ∧ s.2.2.2.2.2 1 = X.2.2.2.2.2 1
def RO (c : Int) (v : Option AV) (P : AH → Prop) : AO → AH → Prop := fun o h2 => ((c = 0 ∧ o = .inl v) ∨ (c = 1 ∧ ∃ x, o = .inr (0, x)) ∨ (c = 2 ∧ ∃ x, o = .inr (1, x)) ∨ (c = 3 ∧ ∃ x, o = .inr (2, x))) ∧ P h2
def PO (K : KE) (g : Nat → Nat) (X : CS) (t cb sb : Nat) : AH → Prop := fun h2 => ∃ s, WC K h2 g s (cb + 1) (sb + 6) ∧ SE X s t
theorem SE.rf (X : CS) (t : Nat) : SE X X t := ⟨VQ.rfl' X t, rfl, rfl, rfl⟩
theorem SE.word {st : CS} {t : Nat} (hs : shp st) (ht : t < 2) (L : List Int) : SE st (uR st 120 L) t := by
  refine ⟨⟨rfl, fun i hi => ⟨fun k _ => rfl, ?_, ?_⟩⟩, uR_ne _ _ (by decide), rfl, rfl⟩
  · have := hs.1 t i ht (by have := (hs.2.2.1 t ht).2; omega)
    exact uR_ne _ _ (by show 2 * st.2.2.1 t i ≠ 120; omega)
  · have := hs.1 t i ht (by have := (hs.2.2.1 t ht).2; omega)
    exact uR_ne _ _ (by show 2 * st.2.2.1 t i + 1 ≠ 120; omega)
section TYC
variable {K : KE} {h : AH} {g : Nat → Nat} {st s F : CS} {cb sb : Nat} {d t x : Nat} {c : Int} {v v' : Option AV}
theorem WC.le (hW : WC K h g st cb sb) {cb' sb' : Nat} (h1 : cb ≤ cb') (h2 : sb ≤ sb') : WC K h g st cb' sb' := by
  obtain ⟨hd, w1, w2, w3, w4, w5, w6, w7, w8⟩ := hW
  exact ⟨hd, w1, w2, w3, w4, w5, w6, Nat.le_trans w7 h1, Nat.le_trans w8 h2⟩
theorem e_ok (hc : c = 0) (hv : v' = v) (hW : WC K h g s cb sb) (hS : SE F s t) : RO c v (PO K g (if c = 0 then F else st) t cb sb) (.inl v') h := ⟨Or.inl ⟨hc, by rw [hv]⟩, s, hW.le (by omega) (by omega), by rw [if_pos hc]; exact hS⟩
theorem e_t1 (hc : c = 1) (hW : WC K h g s cb sb) (hS : SE st s t) : RO c v (PO K g (if c = 0 then F else st) t cb sb) (.inr (0, x)) (hthr h) := ⟨Or.inr (Or.inl ⟨hc, x, rfl⟩), s, hW.thr, by rw [if_neg (by omega)]; exact hS⟩
theorem e_t2 (hc : c = 2) (hW : WC K h g s cb sb) (hS : SE st s t) : RO c v (PO K g (if c = 0 then F else st) t cb sb) (.inr (1, x)) (hthr h) := ⟨Or.inr (Or.inr (Or.inl ⟨hc, x, rfl⟩)), s, hW.thr, by rw [if_neg (by omega)]; exact hS⟩
theorem e_t3 (hc : c = 3) (hW : WC K h g s cb sb) (hS : SE st s t) : RO c v (PO K g (if c = 0 then F else st) t cb sb) (.inr (2, x)) (hthr h) := ⟨Or.inr (Or.inr (Or.inr ⟨hc, x, rfl⟩)), s, hW.thr, by rw [if_neg (by omega)]; exact hS⟩
theorem WC.ty (hW : WC K h g st cb sb) (ht0 : st.2.2.2.2.2 0 = (t : Int)) (ht : t < 2) : h.1 (g 533) = some (eO 7 [aR (g 530), aR (g 531), aR (g 532), aR (g 120), aR (g (500 + t)), aR (g (501 - t)), aI (st.2.2.2.2.2 1)]) := by
  have k : h.1 (g 533) = some (eO 7 [aR (g 530), aR (g 531), aR (g 532), aR (g 120), aR (g (500 + (st.2.2.2.2.2 0).toNat)), aR (g (501 - (st.2.2.2.2.2 0).toNat)), aI (st.2.2.2.2.2 1)]) := hW.obj dm_533 (by omega)
  rw [ht0, Int.toNat_natCast] at k
  exact k
theorem WC.tyb (hW : WC K h g st cb sb) : h.2.2.2.1 ≤ g 533 := hW.objb dm_533 (by omega)
theorem WC.tree2 (hW : WC K h g st cb sb) (ht : t < 2) : h.1 (g (501 - t)) = some (eO 4 [aR (g (510 + (1 - t))), aI (st.2.2.2.1 (1 - t)), aR (g (520 + (1 - t)))]) := by
  rw [show 501 - t = 500 + (1 - t) by omega]
  exact hW.tree (by omega)
theorem WC.tree2b (hW : WC K h g st cb sb) (ht : t < 2) : h.2.2.2.1 ≤ g (501 - t) := by
  rw [show 501 - t = 500 + (1 - t) by omega]
  exact hW.treeb (by omega)
theorem c_known (hd1 : 1 ≤ d) (hW : WC K h g st cb sb) (ht : t < 2) (ht0 : st.2.2.2.2.2 0 = (t : Int)) {i : Nat} (hi : i < (st.2.2.2.1 t)) : Cal d yTY_known [aR (g 533), aI (i : Int)] h (RV (some (aR (g (400 + st.2.2.1 t i)))) (fun h2 => h2 = h)) := by
  have hc := hW.cnt ht
  have hpm := hW.pm ht (i := i) (by omega)
  have hh : hs st t (i : Int) := ⟨by omega, by omega⟩
  show Go _ _ 0 [aR (g 533), aI (i : Int)] [] _ _
  refine g_aload_n rfl rfl ?_
  refine g_get (ci := 7) (kk := 4) rfl rfl (hW.ty ht0 ht) hW.tyb rfl ?_
  refine g_iload_n rfl rfl ?_
  refine g_V (z := yTr_has) (e := 1) (A := [aI ((i : Int))]) (rest := []) (v := aI (pz (hs st t (i : Int)))) (P := fun h2 => h2 = h) rfl rfl rfl rfl rfl rfl (by omega) (hW.tree ht) (hW.treeb ht) (c_has hW ht _) ?_
  intro hh9 he9
  rw [he9]
  clear he9 hh9
  refine g_ifne rfl rfl (fun c1 => ?_) (fun c => absurd c (by rw [pz_t hh]; decide))
  refine g_aload_n rfl rfl ?_
  refine g_get (ci := 7) (kk := 4) rfl rfl (hW.ty ht0 ht) hW.tyb rfl ?_
  refine g_get (ci := 4) (kk := 0) rfl rfl (hW.tree ht) (hW.treeb ht) rfl ?_
  refine g_iload_n rfl rfl ?_
  refine g_aald (b := g (400 + st.2.2.1 t i)) rfl (hW.arr ht) (by decide) (hW.arrb ht) (by omega) (nar_t (by omega)) ?_
  exact r_a rfl rfl rfl
theorem c_knownT (hd6 : 6 ≤ d) (hW : WC K h g st cb sb) (ht : t < 2) (ht0 : st.2.2.2.2.2 0 = (t : Int)) {i : Int} (hi : ¬ hs st t i) : Cal d yTY_known [aR (g 533), aI i] h (RT 0 h.2.1 (fun h2 => h2 = hthr h)) := by
  show Go _ _ 0 [aR (g 533), aI i] [] _ _
  refine g_aload_n rfl rfl ?_
  refine g_get (ci := 7) (kk := 4) rfl rfl (hW.ty ht0 ht) hW.tyb rfl ?_
  refine g_iload_n rfl rfl ?_
  refine g_V (z := yTr_has) (e := 1) (A := [aI i]) (rest := []) (v := aI (pz (hs st t i))) (P := fun h2 => h2 = h) rfl rfl rfl rfl rfl rfl (by omega) (hW.tree ht) (hW.treeb ht) (c_has hW ht _) ?_
  intro hh9 he9
  rw [he9]
  clear he9 hh9
  refine g_ifne rfl rfl (fun c => absurd c (by rw [pz_f hi]; decide)) (fun c1 => ?_)
  exact r_t rfl rfl (by omega) rfl rfl
def rnOK (st : CS) (t : Nat) (L : List Int) (dir : Int) : Prop := nmix L 0 L.length ∧ chl st t L dir 0 L.length = -1
theorem c_refuse (hd2 : 2 ≤ d) (hW : WC K h g st cb sb) (ht : t < 2) (ht0 : st.2.2.2.2.2 0 = (t : Int)) {dir : Int} (hi : rnOK st t (st.1 120) dir) : Cal d yTY_refuseName [aR (g 533), aI dir] h (RV none (fun h2 => h2 = h)) := by
  have hl := hW.len (r := 120) (by omega)
  show Go _ _ 0 [aR (g 533), aI dir] [] _ _
  refine g_aload_n rfl rfl ?_
  refine g_get (ci := 7) (kk := 3) rfl rfl (hW.ty ht0 ht) hW.tyb rfl ?_
  refine g_iconst (n := 0) rfl (by decide) ?_
  refine g_aload_n rfl rfl ?_
  refine g_get (ci := 7) (kk := 3) rfl rfl (hW.ty ht0 ht) hW.tyb rfl ?_
  refine g_get (ci := 2) (kk := 1) rfl rfl (hW.row (by omega)) (hW.rowb (by omega)) rfl ?_
  refine g_V (z := yRw_isNameOfAnyLength) (e := 1) (A := [aI (((st.1 120).length : Int)), aI 0]) (rest := []) (v := aI (pz (nmix (st.1 120) 0 ((st.1 120).length : Int)))) (P := fun h2 => h2 = h) rfl rfl rfl rfl rfl rfl (by omega) (hW.row (by omega)) (hW.rowb (by omega)) (c_isName (by omega) hW (r := 120) (by omega) 0 ((st.1 120).length : Int) (by omega) (by omega) (by omega)) ?_
  intro hh9 he9
  rw [he9]
  clear he9 hh9
  refine g_ifne rfl rfl (fun c1 => ?_) (fun c => absurd c (by rw [pz_t hi.1]; decide))
  refine g_aload_n rfl rfl ?_
  refine g_get (ci := 7) (kk := 4) rfl rfl (hW.ty ht0 ht) hW.tyb rfl ?_
  refine g_iload_n rfl rfl ?_
  refine g_aload_n rfl rfl ?_
  refine g_get (ci := 7) (kk := 3) rfl rfl (hW.ty ht0 ht) hW.tyb rfl ?_
  refine g_iconst (n := 0) rfl (by decide) ?_
  refine g_aload_n rfl rfl ?_
  refine g_get (ci := 7) (kk := 3) rfl rfl (hW.ty ht0 ht) hW.tyb rfl ?_
  refine g_get (ci := 2) (kk := 1) rfl rfl (hW.row (by omega)) (hW.rowb (by omega)) rfl ?_
  refine g_V (z := yTr_childNamed) (e := 1) (A := [aI (((st.1 120).length : Int)), aI 0, aR (g 120), aI dir]) (rest := []) (v := aI (chl st t (st.1 120) dir 0 ((st.1 120).length : Int))) (P := fun h2 => h2 = h) rfl rfl rfl rfl rfl rfl (by omega) (hW.tree ht) (hW.treeb ht) (c_childNamed (by omega) hW ht (r := 120) (by omega) dir 0 ((st.1 120).length : Int) (by unfold r32; omega) (by unfold r32; omega) (fun _ => by unfold r32; omega)) ?_
  intro hh9 he9
  rw [he9]
  clear he9 hh9
  refine g_iconst (n := -1) rfl (by decide) ?_
  refine g_icmpeq rfl rfl (fun c2 => ?_) (fun c => absurd c (fun q => q hi.2))
  exact r_v rfl rfl rfl
theorem c_refuseT (hd6 : 6 ≤ d) (hW : WC K h g st cb sb) (ht : t < 2) (ht0 : st.2.2.2.2.2 0 = (t : Int)) {dir : Int} (hi : ¬ rnOK st t (st.1 120) dir) : Cal d yTY_refuseName [aR (g 533), aI dir] h (RT 0 h.2.1 (fun h2 => h2 = hthr h)) := by
  have hl := hW.len (r := 120) (by omega)
  show Go _ _ 0 [aR (g 533), aI dir] [] _ _
  refine g_aload_n rfl rfl ?_
  refine g_get (ci := 7) (kk := 3) rfl rfl (hW.ty ht0 ht) hW.tyb rfl ?_
  refine g_iconst (n := 0) rfl (by decide) ?_
  refine g_aload_n rfl rfl ?_
  refine g_get (ci := 7) (kk := 3) rfl rfl (hW.ty ht0 ht) hW.tyb rfl ?_
  refine g_get (ci := 2) (kk := 1) rfl rfl (hW.row (by omega)) (hW.rowb (by omega)) rfl ?_
  refine g_V (z := yRw_isNameOfAnyLength) (e := 1) (A := [aI (((st.1 120).length : Int)), aI 0]) (rest := []) (v := aI (pz (nmix (st.1 120) 0 ((st.1 120).length : Int)))) (P := fun h2 => h2 = h) rfl rfl rfl rfl rfl rfl (by omega) (hW.row (by omega)) (hW.rowb (by omega)) (c_isName (by omega) hW (r := 120) (by omega) 0 ((st.1 120).length : Int) (by omega) (by omega) (by omega)) ?_
  intro hh9 he9
  rw [he9]
  clear he9 hh9
  refine g_ifne rfl rfl (fun c1 => ?_) (fun c1 => ?_)
  · skip
    have z1 := pz_ne c1
    refine g_aload_n rfl rfl ?_
    refine g_get (ci := 7) (kk := 4) rfl rfl (hW.ty ht0 ht) hW.tyb rfl ?_
    refine g_iload_n rfl rfl ?_
    refine g_aload_n rfl rfl ?_
    refine g_get (ci := 7) (kk := 3) rfl rfl (hW.ty ht0 ht) hW.tyb rfl ?_
    refine g_iconst (n := 0) rfl (by decide) ?_
    refine g_aload_n rfl rfl ?_
    refine g_get (ci := 7) (kk := 3) rfl rfl (hW.ty ht0 ht) hW.tyb rfl ?_
    refine g_get (ci := 2) (kk := 1) rfl rfl (hW.row (by omega)) (hW.rowb (by omega)) rfl ?_
    refine g_V (z := yTr_childNamed) (e := 1) (A := [aI (((st.1 120).length : Int)), aI 0, aR (g 120), aI dir]) (rest := []) (v := aI (chl st t (st.1 120) dir 0 ((st.1 120).length : Int))) (P := fun h2 => h2 = h) rfl rfl rfl rfl rfl rfl (by omega) (hW.tree ht) (hW.treeb ht) (c_childNamed (by omega) hW ht (r := 120) (by omega) dir 0 ((st.1 120).length : Int) (by unfold r32; omega) (by unfold r32; omega) (fun _ => by unfold r32; omega)) ?_
    intro hh9 he9
    rw [he9]
    clear he9 hh9
    refine g_iconst (n := -1) rfl (by decide) ?_
    refine g_icmpeq rfl rfl (fun c2 => ?_) (fun c2 => ?_)
    · skip
      exact absurd ⟨z1, c2⟩ hi
    · skip
      exact r_t rfl rfl (by omega) rfl rfl
  · skip
    exact r_t rfl rfl (by omega) rfl rfl
theorem addl_len (l : List Int) (w n : Int) : (addl l w n).length = l.length + n.toNat := oF_len _ _
theorem cps_all (l : List Int) : cps l 0 (l.length : Int) = l := by
  unfold cps
  rw [show ((l.length : Int) - 0).toNat = l.length by omega]
  refine (oF_ext fun j _ => ?_).trans (oF_of _)
  rw [show (0 : Int).toNat + j = j by simp]
def mkOK (st : CS) (t : Nat) (inn kind w n off : Int) : Prop := (0 ≤ kind ∧ kind ≤ 3) ∧ isK st t inn 0 ∧ (1 ≤ n ∧ n ≤ 8) ∧ rnOK st t (addl [] w n) inn ∧ (kind = 3 → isK st t off 1)
noncomputable def mkC (st : CS) (t : Nat) (inn kind w n off : Int) : Int := pk (mkOK st t inn kind w n off) (pk (30 ≤ (st.2.2.2.1 t)) 2 0) 1
def mkF (st : CS) (t : Nat) (inn kind w n off : Int) : CS := trAl st t (addl [] w n) inn kind (if kind = 3 then off else -1)
theorem SE.add (hs : shp st) (ht : t < 2) (hc : (st.2.2.2.1 t) < 30) (L : List Int) (D k z : Int) : SE (trAl st t L D k z) (trAdd (uR st 120 L) t 120 D k z 0 L.length) t := by
  have hpm := hs.1 t ((st.2.2.2.1 t)) ht hc
  have e : trAdd (uR st 120 L) t 120 D k z 0 L.length = uC (uR (bgn (uR st 120 L) (st.2.2.1 t ((st.2.2.2.1 t))) k D z) (2 * st.2.2.1 t ((st.2.2.2.1 t))) L) t ((st.2.2.2.1 t) + 1) := by
    show uC (uR (bgn (uR st 120 L) (st.2.2.1 t ((st.2.2.2.1 t))) k D z) (2 * st.2.2.1 t ((st.2.2.2.1 t))) (cps ((uR st 120 L).1 120) 0 L.length)) t ((st.2.2.2.1 t) + 1) = _
    rw [uR_get, cps_all]
  rw [e]
  have er : ∀ r, r ≠ 120 → (uC (uR (bgn (uR st 120 L) (st.2.2.1 t ((st.2.2.2.1 t))) k D z) (2 * st.2.2.1 t ((st.2.2.2.1 t))) L) t ((st.2.2.2.1 t) + 1)).1 r = (trAl st t L D k z).1 r := fun r hr => by
    show va_up (va_up (va_up (va_up st.1 120 L) (2 * st.2.2.1 t ((st.2.2.2.1 t))) []) (2 * st.2.2.1 t ((st.2.2.2.1 t)) + 1) []) (2 * st.2.2.1 t ((st.2.2.2.1 t))) L r = va_up (va_up (va_up st.1 (2 * st.2.2.1 t ((st.2.2.2.1 t))) []) (2 * st.2.2.1 t ((st.2.2.2.1 t)) + 1) []) (2 * st.2.2.1 t ((st.2.2.2.1 t))) L r
    simp [va_up, hr]
  refine ⟨⟨rfl, fun i hi => ⟨fun k _ => rfl, ?_, ?_⟩⟩, er 121 (by decide), rfl, rfl⟩
  · have hi2 : i < 30 := by
      have e2 : ((trAl st t L D k z).2.2.2.1 t) = (st.2.2.2.1 t) + 1 := by simp [trAl, uC, va_up]
      omega
    have := hs.1 t i ht hi2
    exact er _ (by show 2 * st.2.2.1 t i ≠ 120; omega)
  · have hi2 : i < 30 := by
      have e2 : ((trAl st t L D k z).2.2.2.1 t) = (st.2.2.2.1 t) + 1 := by simp [trAl, uC, va_up]
      omega
    have := hs.1 t i ht hi2
    exact er _ (by show 2 * st.2.2.1 t i + 1 ≠ 120; omega)
theorem c_make (hd7 : 7 ≤ d) (hW : WC K h g st cb sb) (ht : t < 2) (ht0 : st.2.2.2.2.2 0 = (t : Int)) (inn kind w n off : Int) : Cal d yTY_make [aR (g 533), aI inn, aI kind, aL w, aI n, aI off] h (RO (mkC st t inn kind w n off) (some (aI ((st.2.2.2.1 t) : Int))) (PO K g (if mkC st t inn kind w n off = 0 then mkF st t inn kind w n off else st) t cb sb)) := by
  have hcn := hW.cnt ht
  have hsh := hW.shq
  have vq : ∀ L, VQ st (uR st 120 L) t := fun L => (SE.word hsh ht L).1
  show Go _ _ 0 [aR (g 533), aI inn, aI kind, aL w, none, aI n, aI off] [] _ _
  refine g_iload_n rfl rfl ?_
  refine g_iflt rfl rfl (fun c1 => ?_) (fun c1 => ?_)
  · skip
    have hc : mkC st t inn kind w n off = 1 := pk_f (fun q => by obtain ⟨q1, q2, q3, q4, q5⟩ := q; omega)
    exact g_throw rfl rfl (by omega) (Nat.le_of_ble_eq_true rfl) (e_t1 hc hW (SE.rf _ _))
  · skip
    refine g_iload_n rfl rfl ?_
    refine g_iconst (n := 3) rfl (by decide) ?_
    refine g_icmple rfl rfl (fun c2 => ?_) (fun c2 => ?_)
    · skip
      refine g_aload_n rfl rfl ?_
      refine g_get (ci := 7) (kk := 4) rfl rfl (hW.ty ht0 ht) hW.tyb rfl ?_
      refine g_iload_n rfl rfl ?_
      refine g_iconst (n := 0) rfl (by decide) ?_
      refine g_V (z := yTr_isOfKind) (e := 1) (A := [aI 0, aI inn]) (rest := []) (v := aI (pz (isK st t inn 0))) (P := fun h2 => h2 = h) rfl rfl rfl rfl rfl rfl (by omega) (hW.tree ht) (hW.treeb ht) (c_isOfKind hW ht _ _) ?_
      intro hh9 he9
      rw [he9]
      clear he9 hh9
      refine g_ifne rfl rfl (fun c3 => ?_) (fun c3 => ?_)
      · skip
        have z2 := pz_ne c3
        refine g_iload rfl rfl ?_
        refine g_iconst (n := 1) rfl (by decide) ?_
        refine g_icmplt rfl rfl (fun c4 => ?_) (fun c4 => ?_)
        · skip
          have hc : mkC st t inn kind w n off = 1 := pk_f (fun q => by obtain ⟨q1, q2, q3, q4, q5⟩ := q; omega)
          exact g_throw rfl rfl (by omega) (Nat.le_of_ble_eq_true rfl) (e_t1 hc hW (SE.rf _ _))
        · skip
          refine g_iload rfl rfl ?_
          refine g_bipush (n := 8) rfl (by decide) ?_
          refine g_icmple rfl rfl (fun c5 => ?_) (fun c5 => ?_)
          · skip
            refine g_aload_n rfl rfl ?_
            refine g_get (ci := 7) (kk := 3) rfl rfl (hW.ty ht0 ht) hW.tyb rfl ?_
            refine g_iconst (n := 0) rfl (by decide) ?_
            refine g_Vn (z := yRw_resize) (e := 1) (A := [aI 0]) (rest := [])  rfl rfl rfl rfl rfl rfl (by omega) (hW.row (by omega)) (hW.rowb (by omega)) (c_resize (by omega) hW (r := 120) (by omega) _) ?_
            intro hh6 hW
            rw [rsz_0] at hW
            refine g_aload_n rfl rfl ?_
            refine g_get (ci := 7) (kk := 3) rfl rfl (hW.ty ht0 ht) hW.tyb rfl ?_
            refine g_lload_n rfl rfl ?_
            refine g_iload rfl rfl ?_
            refine g_Vn (z := yRw_addLetters) (e := 1) (A := [aI n, aL w]) (rest := [])  rfl rfl rfl rfl rfl rfl (by omega) (hW.row (by omega)) (hW.rowb (by omega)) (c_addLetters (by omega) hW (r := 120) (by omega) w n (by omega) (by omega) (by rw [uR_get]; simp only [List.length_nil]; omega)) ?_
            intro hh7 hW
            have hW : WC K hh7 g (uR st 120 (addl [] w n)) cb sb := by
              rw [uR_uR, uR_get] at hW
              exact hW
            have hwl : (addl [] w n).length = n.toNat := (addl_len _ _ _).trans (by simp)
            have hC2 : (uR st 120 (addl [] w n)).2.2.2.1 t = (st.2.2.2.1 t) := rfl
            have hrn : rnOK (uR st 120 (addl [] w n)) t ((uR st 120 (addl [] w n)).1 120) inn ↔ rnOK st t (addl [] w n) inn := by
              unfold rnOK
              rw [uR_get, (vq _).qchl hcn.1]
            refine g_aload_n rfl rfl ?_
            refine g_iload_n rfl rfl ?_
            by_cases hr : rnOK st t (addl [] w n) inn
            · skip
              refine g_Vn (z := yTY_refuseName) (e := 1) (A := [aI inn]) (rest := []) (P := fun h2 => h2 = hh7) rfl rfl rfl rfl rfl rfl (by omega) (hW.ty ht0 ht) hW.tyb (c_refuse (by omega) hW ht ht0 (hrn.2 hr)) ?_
              intro hh9 he9
              rw [he9]
              clear he9 hh9
              refine g_iload_n rfl rfl ?_
              refine g_iconst (n := 3) rfl (by decide) ?_
              refine g_icmpne rfl rfl (fun c8 => ?_) (fun c8 => ?_)
              · skip
                have z5 : kind = 3 → isK st t off 1 := fun q => absurd q c8
                have k3 : kind ≠ 3 := c8
                refine g_aload_n rfl rfl ?_
                refine g_get (ci := 7) (kk := 4) rfl rfl (hW.ty ht0 ht) hW.tyb rfl ?_
                refine g_get (ci := 4) (kk := 1) rfl rfl (hW.tree ht) (hW.treeb ht) rfl ?_
                refine g_bipush (n := 30) rfl (by decide) ?_
                refine g_icmplt rfl rfl (fun c9 => ?_) (fun c9 => ?_)
                · skip
                  have hok : mkOK st t inn kind w n off := ⟨⟨by omega, by omega⟩, z2, ⟨by omega, by omega⟩, hr, z5⟩
                  have hc : mkC st t inn kind w n off = 0 := (pk_t hok).trans (pk_f (by omega))
                  refine g_aload_n rfl rfl ?_
                  refine g_get (ci := 7) (kk := 4) rfl rfl (hW.ty ht0 ht) hW.tyb rfl ?_
                  refine g_iload_n rfl rfl ?_
                  refine g_iload_n rfl rfl ?_
                  refine g_iload_n rfl rfl ?_
                  refine g_iconst (n := 3) rfl (by decide) ?_
                  refine g_icmpne rfl rfl (fun c10 => ?_) (fun c => absurd c (by omega))
                  refine g_iconst (n := -1) rfl (by decide) ?_
                  refine g_aload_n rfl rfl ?_
                  refine g_get (ci := 7) (kk := 3) rfl rfl (hW.ty ht0 ht) hW.tyb rfl ?_
                  refine g_iconst (n := 0) rfl (by decide) ?_
                  refine g_iload rfl rfl ?_
                  refine g_V (z := yTr_add) (e := 1) (A := [aI n, aI 0, aR (g 120), aI (-1), aI kind, aI inn]) (rest := []) (v := aI (((st.2.2.2.1 t) : Int)))  rfl rfl rfl rfl rfl rfl (by omega) (hW.tree ht) (hW.treeb ht) (c_add (by omega) hW ht (r := 120) (by omega) (by omega) inn kind (-1) 0 n (by omega) (by omega) (by rw [uR_get, hwl]; omega)) ?_
                  intro hh11 hW
                  have hSE := SE.add hsh ht (show (st.2.2.2.1 t) < 30 by omega) (addl [] w n) inn kind (-1)
                  rw [show ((addl [] w n).length : Int) = n by omega] at hSE
                  exact g_ireturn rfl rfl (e_ok hc rfl hW (by unfold mkF; rw [if_neg k3]; exact hSE))
                · skip
                  have hok : mkOK st t inn kind w n off := ⟨⟨by omega, by omega⟩, z2, ⟨by omega, by omega⟩, hr, z5⟩
                  have hc : mkC st t inn kind w n off = 2 := (pk_t hok).trans (pk_t (by omega))
                  exact g_throw rfl rfl (by omega) (Nat.le_of_ble_eq_true rfl) (e_t2 hc hW (SE.word hsh ht _))
              · skip
                have k3 : kind = 3 := c8
                refine g_aload_n rfl rfl ?_
                refine g_get (ci := 7) (kk := 4) rfl rfl (hW.ty ht0 ht) hW.tyb rfl ?_
                refine g_iload rfl rfl ?_
                refine g_iconst (n := 1) rfl (by decide) ?_
                refine g_V (z := yTr_isOfKind) (e := 1) (A := [aI 1, aI off]) (rest := []) (v := aI (pz (isK st t off 1))) (P := fun h2 => h2 = hh7) rfl rfl rfl rfl rfl rfl (by omega) (hW.tree ht) (hW.treeb ht) (c_isOfKind hW ht _ _) ?_
                intro hh9 he9
                rw [he9]
                clear he9 hh9
                refine g_ifne rfl rfl (fun c12 => ?_) (fun c12 => ?_)
                · skip
                  have z5 : kind = 3 → isK st t off 1 := fun _ => pz_ne c12
                  refine g_aload_n rfl rfl ?_
                  refine g_get (ci := 7) (kk := 4) rfl rfl (hW.ty ht0 ht) hW.tyb rfl ?_
                  refine g_get (ci := 4) (kk := 1) rfl rfl (hW.tree ht) (hW.treeb ht) rfl ?_
                  refine g_bipush (n := 30) rfl (by decide) ?_
                  refine g_icmplt rfl rfl (fun c13 => ?_) (fun c13 => ?_)
                  · skip
                    have hok : mkOK st t inn kind w n off := ⟨⟨by omega, by omega⟩, z2, ⟨by omega, by omega⟩, hr, z5⟩
                    have hc : mkC st t inn kind w n off = 0 := (pk_t hok).trans (pk_f (by omega))
                    refine g_aload_n rfl rfl ?_
                    refine g_get (ci := 7) (kk := 4) rfl rfl (hW.ty ht0 ht) hW.tyb rfl ?_
                    refine g_iload_n rfl rfl ?_
                    refine g_iload_n rfl rfl ?_
                    refine g_iload_n rfl rfl ?_
                    refine g_iconst (n := 3) rfl (by decide) ?_
                    refine g_icmpne rfl rfl (fun c => absurd c (by omega)) (fun c14 => ?_)
                    refine g_iload rfl rfl ?_
                    refine g_goto rfl rfl ?_
                    refine g_aload_n rfl rfl ?_
                    refine g_get (ci := 7) (kk := 3) rfl rfl (hW.ty ht0 ht) hW.tyb rfl ?_
                    refine g_iconst (n := 0) rfl (by decide) ?_
                    refine g_iload rfl rfl ?_
                    refine g_V (z := yTr_add) (e := 1) (A := [aI n, aI 0, aR (g 120), aI off, aI kind, aI inn]) (rest := []) (v := aI (((st.2.2.2.1 t) : Int)))  rfl rfl rfl rfl rfl rfl (by omega) (hW.tree ht) (hW.treeb ht) (c_add (by omega) hW ht (r := 120) (by omega) (by omega) inn kind (off) 0 n (by omega) (by omega) (by rw [uR_get, hwl]; omega)) ?_
                    intro hh15 hW
                    have hSE := SE.add hsh ht (show (st.2.2.2.1 t) < 30 by omega) (addl [] w n) inn kind (off)
                    rw [show ((addl [] w n).length : Int) = n by omega] at hSE
                    exact g_ireturn rfl rfl (e_ok hc rfl hW (by unfold mkF; rw [if_pos k3]; exact hSE))
                  · skip
                    have hok : mkOK st t inn kind w n off := ⟨⟨by omega, by omega⟩, z2, ⟨by omega, by omega⟩, hr, z5⟩
                    have hc : mkC st t inn kind w n off = 2 := (pk_t hok).trans (pk_t (by omega))
                    exact g_throw rfl rfl (by omega) (Nat.le_of_ble_eq_true rfl) (e_t2 hc hW (SE.word hsh ht _))
                · skip
                  have hc : mkC st t inn kind w n off = 1 := pk_f (fun q => by obtain ⟨q1, q2, q3, q4, q5⟩ := q; exact pz_eq c12 (q5 k3))
                  exact g_throw rfl rfl (by omega) (Nat.le_of_ble_eq_true rfl) (e_t1 hc hW (SE.word hsh ht _))
            · skip
              have hc : mkC st t inn kind w n off = 1 := pk_f (fun q => by obtain ⟨q1, q2, q3, q4, q5⟩ := q; exact hr q4)
              exact g_Vt (z := yTY_refuseName) (e := 1) (A := [aI inn]) (rest := []) (P := fun h2 => h2 = hthr hh7) rfl rfl rfl rfl rfl rfl (by omega) (hW.ty ht0 ht) hW.tyb rfl (c_refuseT (by omega) hW ht ht0 (fun q => hr (hrn.1 q))) (fun h2 hp => by subst hp; exact e_t1 hc hW (SE.word hsh ht _))
          · skip
            have hc : mkC st t inn kind w n off = 1 := pk_f (fun q => by obtain ⟨q1, q2, q3, q4, q5⟩ := q; omega)
            exact g_throw rfl rfl (by omega) (Nat.le_of_ble_eq_true rfl) (e_t1 hc hW (SE.rf _ _))
      · skip
        have hc : mkC st t inn kind w n off = 1 := pk_f (fun q => by obtain ⟨q1, q2, q3, q4, q5⟩ := q; exact pz_eq c3 q2)
        exact g_throw rfl rfl (by omega) (Nat.le_of_ble_eq_true rfl) (e_t1 hc hW (SE.rf _ _))
    · skip
      have hc : mkC st t inn kind w n off = 1 := pk_f (fun q => by obtain ⟨q1, q2, q3, q4, q5⟩ := q; omega)
      exact g_throw rfl rfl (by omega) (Nat.le_of_ble_eq_true rfl) (e_t1 hc hW (SE.rf _ _))
def rnL (st : CS) (t : Nat) (node w n : Int) : List Int := addl ((st.1 (2 * st.2.2.1 t node.toNat))) w n
def rnk (st : CS) (t : Nat) (node w n : Int) : Prop := hs st t node ∧ node ≠ 0 ∧ (1 ≤ n ∧ n ≤ 8) ∧ rnOK st t (rnL st t node w n) ((st.2.1 (st.2.2.1 t node.toNat) 1))
noncomputable def rnC (st : CS) (t : Nat) (node w n : Int) : Int := pk (rnk st t node w n) (pk (100 < (rnL st t node w n).length) 2 0) 1
def rnF (st : CS) (t : Nat) (node w n : Int) : CS := uR st (2 * st.2.2.1 t node.toNat) (rnL st t node w n)
theorem SE.row (hs : shp st) (ht : t < 2) {r : Nat} (hr : r < 120) (L M : List Int) : SE (uR st r L) (uR (uR st 120 M) r L) t := by
  have e : ∀ q, q ≠ 120 → (uR (uR st 120 M) r L).1 q = (uR st r L).1 q := fun q hq => by
    show va_up (va_up st.1 120 M) r L q = va_up st.1 r L q
    simp [va_up, hq]
  refine ⟨⟨rfl, fun i hi => ⟨fun k _ => rfl, ?_, ?_⟩⟩, e 121 (by decide), rfl, rfl⟩
  · have := hs.1 t i ht (by have := (hs.2.2.1 t ht).2; have : ((uR st r L).2.2.2.1 t) = (st.2.2.2.1 t) := rfl; omega)
    exact e _ (by show 2 * st.2.2.1 t i ≠ 120; omega)
  · have := hs.1 t i ht (by have := (hs.2.2.1 t ht).2; have : ((uR st r L).2.2.2.1 t) = (st.2.2.2.1 t) := rfl; omega)
    exact e _ (by show 2 * st.2.2.1 t i + 1 ≠ 120; omega)
theorem c_rename (hd7 : 7 ≤ d) (hT : TI st t) (hW : WC K h g st cb sb) (ht : t < 2) (ht0 : st.2.2.2.2.2 0 = (t : Int)) (node w n : Int) : Cal d yTY_rename [aR (g 533), aI node, aL w, aI n] h (RO (rnC st t node w n) (some (aI (rnL st t node w n).length)) (PO K g (if rnC st t node w n = 0 then rnF st t node w n else st) t cb sb)) := by
  have hcn := hW.cnt ht
  have hsh := hW.shq
  have vq : ∀ L, VQ st (uR st 120 L) t := fun L => (SE.word hsh ht L).1
  show Go _ _ 0 [aR (g 533), aI node, aL w, none, aI n, none] [] _ _
  by_cases hh : hs st t node
  · have hh1 := hh.1
    have hh2 := hh.2
    obtain ⟨i, rfl⟩ : ∃ i : Nat, node = i := ⟨node.toNat, by omega⟩
    have hiC : i < (st.2.2.2.1 t) := by omega
    have hpm := hW.pm ht (i := i) (by omega)
    have hnl : (rnL st t (i : Int) w n).length = ((st.1 (2 * st.2.2.1 t i))).length + n.toNat := addl_len _ _ _
    refine g_aload_n rfl rfl ?_
    refine g_iload_n rfl rfl ?_
    refine g_V (z := yTY_known) (e := 1) (A := [aI ((i : Int))]) (rest := []) (v := aR (g (400 + st.2.2.1 t i))) (P := fun h2 => h2 = h) rfl rfl rfl rfl rfl rfl (by omega) (hW.ty ht0 ht) hW.tyb (c_known (by omega) hW ht ht0 hiC) ?_
    intro hh9 he9
    rw [he9]
    clear he9 hh9
    refine g_astore (L' := [aR (g 533), aI ((i : Int)), aL w, none, aI n, aR (g (400 + st.2.2.1 t i))]) rfl rfl ?_
    refine g_iload_n rfl rfl ?_
    refine g_ifne rfl rfl (fun c1 => ?_) (fun c1 => ?_)
    · skip
      refine g_iload rfl rfl ?_
      refine g_iconst (n := 1) rfl (by decide) ?_
      refine g_icmplt rfl rfl (fun c2 => ?_) (fun c2 => ?_)
      · skip
        have hc : rnC st t (i : Int) w n = 1 := pk_f (fun q => by obtain ⟨q1, q2, q3, q4⟩ := q; omega)
        exact g_throw rfl rfl (by omega) (Nat.le_of_ble_eq_true rfl) (e_t1 hc hW (SE.rf _ _))
      · skip
        refine g_iload rfl rfl ?_
        refine g_bipush (n := 8) rfl (by decide) ?_
        refine g_icmple rfl rfl (fun c3 => ?_) (fun c3 => ?_)
        · skip
          refine g_aload_n rfl rfl ?_
          refine g_get (ci := 7) (kk := 3) rfl rfl (hW.ty ht0 ht) hW.tyb rfl ?_
          refine g_aload rfl rfl ?_
          refine g_get (ci := 0) (kk := 0) rfl rfl (hW.node hpm) (hW.nodeb hpm) rfl ?_
          refine g_iconst (n := 0) rfl (by decide) ?_
          refine g_aload rfl rfl ?_
          refine g_get (ci := 0) (kk := 0) rfl rfl (hW.node hpm) (hW.nodeb hpm) rfl ?_
          refine g_get (ci := 2) (kk := 1) rfl rfl (hW.row (by omega)) (hW.rowb (by omega)) rfl ?_
          refine g_Vn (z := yRw_copySlice) (e := 1) (A := [aI (((st.1 (2 * st.2.2.1 t i)).length : Int)), aI 0, aR (g (2 * st.2.2.1 t i))]) (rest := [])  rfl rfl rfl rfl rfl rfl (by omega) (hW.row (by omega)) (hW.rowb (by omega)) (c_copySlice (by omega) hW (r := 120) (r2 := 2 * st.2.2.1 t i) (by omega) (by omega) (by omega) 0 (((st.1 (2 * st.2.2.1 t i))).length : Int) (by omega) (by omega) (Int.le_refl _)) ?_
          intro hh4 hW
          rw [cps_all] at hW
          have hnl1 := (hT.n i (by omega) hiC).2.1
          refine g_aload_n rfl rfl ?_
          refine g_get (ci := 7) (kk := 3) rfl rfl (hW.ty ht0 ht) hW.tyb rfl ?_
          refine g_lload_n rfl rfl ?_
          refine g_iload rfl rfl ?_
          refine g_Vn (z := yRw_addLetters) (e := 1) (A := [aI n, aL w]) (rest := [])  rfl rfl rfl rfl rfl rfl (by omega) (hW.row (by omega)) (hW.rowb (by omega)) (c_addLetters (by omega) hW (r := 120) (by omega) w n (by omega) (by omega) (by rw [uR_get]; omega)) ?_
          intro hh5 hW
          have hW : WC K hh5 g (uR st 120 (rnL st t (i : Int) w n)) cb sb := by
            rw [uR_uR, uR_get] at hW
            exact hW
          have hw1 : ((uR st 120 (rnL st t (i : Int) w n)).1 120).length = (rnL st t (i : Int) w n).length := by rw [uR_get]
          have hrn : rnOK (uR st 120 (rnL st t (i : Int) w n)) t ((uR st 120 (rnL st t (i : Int) w n)).1 120) ((st.2.1 (st.2.2.1 t i) 1)) ↔ rnOK st t (rnL st t (i : Int) w n) ((st.2.1 (st.2.2.1 t i) 1)) := by
            unfold rnOK
            rw [uR_get, (vq _).qchl hcn.1]
          have hnm : (uR st 120 (rnL st t (i : Int) w n)).1 (2 * st.2.2.1 t i) = (st.1 (2 * st.2.2.1 t i)) := uR_ne _ _ (by omega)
          refine g_aload_n rfl rfl ?_
          refine g_aload rfl rfl ?_
          refine g_get (ci := 0) (kk := 3) rfl rfl (hW.node hpm) (hW.nodeb hpm) rfl ?_
          by_cases hr : rnOK st t (rnL st t (i : Int) w n) ((st.2.1 (st.2.2.1 t i) 1))
          · skip
            refine g_Vn (z := yTY_refuseName) (e := 1) (A := [aI ((uR st 120 (rnL st t (i : Int) w n)).2.1 ((uR st 120 (rnL st t (i : Int) w n)).2.2.1 t i) 1)]) (rest := []) (P := fun h2 => h2 = hh5) rfl rfl rfl rfl rfl rfl (by omega) (hW.ty ht0 ht) hW.tyb (c_refuse (by omega) hW ht ht0 (hrn.2 hr)) ?_
            intro hh9 he9
            rw [he9]
            clear he9 hh9
            refine g_aload_n rfl rfl ?_
            refine g_get (ci := 7) (kk := 3) rfl rfl (hW.ty ht0 ht) hW.tyb rfl ?_
            refine g_get (ci := 2) (kk := 1) rfl rfl (hW.row (by omega)) (hW.rowb (by omega)) rfl ?_
            refine g_bipush (n := 100) rfl (by decide) ?_
            refine g_icmple rfl rfl (fun c6 => ?_) (fun c6 => ?_)
            · skip
              have hok : rnk st t (i : Int) w n := ⟨hh, by omega, ⟨by omega, by omega⟩, hr⟩
              have hc : rnC st t (i : Int) w n = 0 := (pk_t hok).trans (pk_f (by omega))
              refine g_aload rfl rfl ?_
              refine g_get (ci := 0) (kk := 0) rfl rfl (hW.node hpm) (hW.nodeb hpm) rfl ?_
              refine g_lload_n rfl rfl ?_
              refine g_iload rfl rfl ?_
              refine g_Vn (z := yRw_addLetters) (e := 1) (A := [aI n, aL w]) (rest := [])  rfl rfl rfl rfl rfl rfl (by omega) (hW.row (by omega)) (hW.rowb (by omega)) (c_addLetters (by omega) hW (r := 2 * st.2.2.1 t i) (by omega) w n (by omega) (by omega) (by rw [hnm]; omega)) ?_
              intro hh7 hW
              rw [hnm] at hW
              have hW : WC K hh7 g (uR (uR st 120 (rnL st t (i : Int) w n)) (2 * st.2.2.1 t i) (rnL st t (i : Int) w n)) cb sb := hW
              have e9 : ((uR (uR st 120 (rnL st t (i : Int) w n)) (2 * st.2.2.1 t i) (rnL st t (i : Int) w n)).1 (2 * st.2.2.1 t i)).length = (rnL st t (i : Int) w n).length := by rw [uR_get]
              refine g_aload rfl rfl ?_
              refine g_get (ci := 0) (kk := 0) rfl rfl (hW.node hpm) (hW.nodeb hpm) rfl ?_
              refine g_get (ci := 2) (kk := 1) rfl rfl (hW.row (by omega)) (hW.rowb (by omega)) rfl ?_
              exact g_ireturn rfl rfl (e_ok hc (congrArg (fun z : Nat => some (aI (z : Int))) e9) hW (SE.row hsh ht (r := 2 * st.2.2.1 t i) (by omega) _ _))
            · skip
              have hok : rnk st t (i : Int) w n := ⟨hh, by omega, ⟨by omega, by omega⟩, hr⟩
              have hc : rnC st t (i : Int) w n = 2 := (pk_t hok).trans (pk_t (by omega))
              exact g_throw rfl rfl (by omega) (Nat.le_of_ble_eq_true rfl) (e_t2 hc hW (SE.word hsh ht _))
          · skip
            have hc : rnC st t (i : Int) w n = 1 := pk_f (fun q => by obtain ⟨q1, q2, q3, q4⟩ := q; exact hr q4)
            exact g_Vt (z := yTY_refuseName) (e := 1) (A := [aI ((uR st 120 (rnL st t (i : Int) w n)).2.1 ((uR st 120 (rnL st t (i : Int) w n)).2.2.1 t i) 1)]) (rest := []) (P := fun h2 => h2 = hthr hh5) rfl rfl rfl rfl rfl rfl (by omega) (hW.ty ht0 ht) hW.tyb rfl (c_refuseT (by omega) hW ht ht0 (fun q => hr (hrn.1 q))) (fun h2 hp => by subst hp; exact e_t1 hc hW (SE.word hsh ht _))
        · skip
          have hc : rnC st t (i : Int) w n = 1 := pk_f (fun q => by obtain ⟨q1, q2, q3, q4⟩ := q; omega)
          exact g_throw rfl rfl (by omega) (Nat.le_of_ble_eq_true rfl) (e_t1 hc hW (SE.rf _ _))
    · skip
      have hc : rnC st t (i : Int) w n = 1 := pk_f (fun q => by obtain ⟨q1, q2, q3, q4⟩ := q; omega)
      exact g_throw rfl rfl (by omega) (Nat.le_of_ble_eq_true rfl) (e_t1 hc hW (SE.rf _ _))
  · have hc : rnC st t node w n = 1 := pk_f (fun q => hh q.1)
    refine g_aload_n rfl rfl ?_
    refine g_iload_n rfl rfl ?_
    exact g_Vt (z := yTY_known) (e := 1) (A := [aI node]) (rest := []) (P := fun h2 => h2 = hthr h) rfl rfl rfl rfl rfl rfl (by omega) (hW.ty ht0 ht) hW.tyb rfl (c_knownT (by omega) hW ht ht0 hh) (fun h2 hp => by subst hp; exact e_t1 hc hW (SE.rf _ _))
end TYC
